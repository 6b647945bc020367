/-! ===== the text ===== -/
def isTx (h : AH) (n : Nat) (tx : Nat → Int) (p : Nat) : Prop := ∃ f, h 1 = eO 5 [vI n, vR 2, vI p, vR 7] ∧ h 7 = eI 150 f ∧ n ≤ 150 ∧ ∀ i, i < n → f i = tx i ∧ 0 ≤ f i ∧ f i ≤ 255
def sg (n : Nat) (tx : Nat → Int) (i : Nat) : Int := if i < n then tx i else -1
def isLb (z : Int) : Bool := decide (97 ≤ z) && decide (z ≤ 122)
theorem isLb_t {z : Int} : isLb z = true ↔ 97 ≤ z ∧ z ≤ 122 := by
  unfold isLb
  rw [Bool.and_eq_true_iff, decide_eq_true_eq, decide_eq_true_eq]
theorem isLb_let {z : Int} (h : isLb z = true) : isLet z := isLb_t.mp h
theorem isTx_fr {h h' : AH} {n : Nat} {tx : Nat → Int} {p : Nat} (hT : isTx h n tx p) (h1 : h' 1 = h 1) (h7 : h' 7 = h 7) : isTx h' n tx p := by
  obtain ⟨f, t0, t1, hn, hf⟩ := hT
  exact ⟨f, h1.trans t0, h7.trans t1, hn, hf⟩
theorem isTx_pos {h : AH} {n : Nat} {tx : Nat → Int} {p : Nat} (p' : Nat) (hT : isTx h n tx p) : isTx (va_up h 1 (eO 5 [vI n, vR 2, vI p', vR 7])) n tx p' := by
  obtain ⟨f, t0, t1, hn, hf⟩ := hT
  exact ⟨f, va_up_self _ _ _, (va_up_ne _ _ (by decide)).trans t1, hn, hf⟩
theorem sg_r {h : AH} {n : Nat} {tx : Nat → Int} {p : Nat} (hT : isTx h n tx p) (i : Nat) : -1 ≤ sg n tx i ∧ sg n tx i ≤ 255 := by
  obtain ⟨f, t0, t1, hn, hf⟩ := hT
  unfold sg
  by_cases q : i < n
  · rw [if_pos q]
    have := hf i q
    omega
  · rw [if_neg q]
    decide
theorem sg_lt {n : Nat} {tx : Nat → Int} {i : Nat} (h : ¬ sg n tx i = -1) : i < n := by
  unfold sg at h
  by_cases q : i < n
  · exact q
  · rw [if_neg q] at h
    exact absurd rfl h
theorem isLetter_T {d N : Nat} {h : AH} {Q : AQ} {c : Int} (hc : inR c) (hQ : ∀ z : Int, z = bI (isLb c) → Q (.inl (some (vI z))) h N) : T (d + 1) 122 [vI c] h N Q := by
  obtain ⟨hc1, hc2⟩ := hc
  refine T_body (I := mi_X8_isLetter) (lv := [_]) rfl (Nat.le_of_ble_eq_true rfl) rfl ?_
  refine R_iload_n rfl rfl ?_
  refine R_bipush rfl ?_
  refine R_icmplt rfl ⟨by omega, by omega⟩ ⟨by decide, by decide⟩ (fun c3 => ?_) (fun c3 => ?_)
  · refine R_iconst rfl ?_
    exact R_ireturn rfl (fun _ => by omega) (Nat.zero_le _) (Nat.zero_le _) (hQ _ (by rw [Bool.eq_false_iff.mpr (fun q => absurd (isLb_t.mp q) (by omega))]; rfl))
  · refine R_iload_n rfl rfl ?_
    refine R_bipush rfl ?_
    refine R_icmpgt rfl ⟨by omega, by omega⟩ ⟨by decide, by decide⟩ (fun c9 => ?_) (fun c9 => ?_)
    · refine R_iconst rfl ?_
      exact R_ireturn rfl (fun _ => by omega) (Nat.zero_le _) (Nat.zero_le _) (hQ _ (by rw [Bool.eq_false_iff.mpr (fun q => absurd (isLb_t.mp q) (by omega))]; rfl))
    · refine R_iconst rfl ?_
      refine R_goto rfl ?_
      exact R_ireturn rfl (fun _ => by omega) (Nat.zero_le _) (Nat.zero_le _) (hQ _ (by rw [isLb_t.mpr ⟨by omega, by omega⟩]; rfl))
theorem isFull_T {d N n p : Nat} {h : AH} {tx : Nat → Int} {Q : AQ} (hT : isTx h n tx p) (hN : 8 ≤ N) (hQ : ∀ z : Int, (z = 1 ∧ n = 150) ∨ (z = 0 ∧ n < 150) → Q (.inl (some (vI z))) h N) : T (d + 1) 77 [vR 1] h N Q := by
  obtain ⟨f, t0, t1, hn, hf⟩ := id hT
  refine T_body (I := mi_X7_isFull) (lv := [_]) rfl (Nat.le_of_ble_eq_true rfl) rfl ?_
  refine R_aload_n rfl rfl ?_
  refine R_getfield rfl rfl (by omega) t0 rfl ?_
  refine R_sipush rfl ?_
  refine R_icmplt rfl ⟨by omega, by omega⟩ ⟨by decide, by decide⟩ (fun c7 => ?_) (fun c7 => ?_)
  · refine R_iconst rfl ?_
    exact R_ireturn rfl (fun _ => by omega) (Nat.zero_le _) (Nat.zero_le _) (hQ _ (by omega))
  · refine R_iconst rfl ?_
    refine R_goto rfl ?_
    exact R_ireturn rfl (fun _ => by omega) (Nat.zero_le _) (Nat.zero_le _) (hQ _ (by omega))
theorem add_T {d N n p : Nat} {h : AH} {tx : Nat → Int} {Q : AQ} (hT : isTx h n tx p) (hN : 8 ≤ N) {c : Int} (hc : 0 ≤ c ∧ c ≤ 255) (hn1 : n < 150) (hQ : ∀ h', isTx h' (n + 1) (va_up tx n c) p → (∀ j, j ≠ 1 → j ≠ 7 → h' j = h j) → Q (.inl (some (vI ((n + 1 : Nat) : Int)))) h' N) : T (d + 1) 78 [vR 1, vI c] h N Q := by
  obtain ⟨f, t0, t1, hn, hf⟩ := id hT
  refine T_body (I := mi_X7_add) (lv := [_, _]) rfl (Nat.le_of_ble_eq_true rfl) rfl ?_
  refine R_aload_n rfl rfl ?_
  refine R_getfield rfl rfl (by omega) t0 rfl ?_
  refine R_iflt rfl ⟨by omega, by omega⟩ (fun c4 => ?_) (fun c4 => ?_)
  · exact absurd c4 (by omega)
  · refine R_aload_n rfl rfl ?_
    refine R_getfield rfl rfl (by omega) t0 rfl ?_
    refine R_sipush rfl ?_
    refine R_icmpge rfl ⟨by omega, by omega⟩ ⟨by decide, by decide⟩ (fun c14 => ?_) (fun c14 => ?_)
    · exact absurd c14 (by omega)
    · refine R_aload_n rfl rfl ?_
      refine R_getfield rfl rfl (by omega) t0 rfl ?_
      refine R_aload_n rfl rfl ?_
      refine R_getfield rfl rfl (by omega) t0 rfl ?_
      refine R_iload_n rfl rfl ?_
      refine R_iastore rfl (by omega) t1 ⟨by omega, by omega, by decide⟩ ?_
      refine R_aload_n rfl rfl ?_
      refine R_dup rfl rfl ?_
      refine R_getfield rfl rfl (by omega) ((va_up_ne _ _ (by first | exact kne rfl | exact kz | exact kz.symm | omega)).trans t0) rfl ?_
      refine R_iconst rfl ?_
      refine R_iadd rfl ?_
      refine R_putfield rfl rfl (by omega) ((va_up_ne _ _ (by first | exact kne rfl | exact kz | exact kz.symm | omega)).trans t0) (Nat.le_of_ble_eq_true rfl) (by first | trivial | exact trivial | omega) ?_
      refine R_aload_n rfl rfl ?_
      refine R_getfield rfl rfl (by omega) (va_up_self _ _ _) rfl ?_
      exact R_ireturn rfl (fun q => absurd q (by decide)) (Nat.zero_le _) (Nat.zero_le _) (hQ _ ⟨va_up f n c, va_up_self _ _ _, (va_up_ne _ _ (by decide)).trans (va_up_self _ _ _), by omega, fun i hi => (by
      by_cases q : i = n
      · rw [q, va_up_self, va_up_self]
        exact ⟨rfl, hc⟩
      · rw [va_up_ne _ _ q, va_up_ne _ _ q]
        exact hf i (by omega))⟩ (fun j hj hj7 => (va_up_ne _ _ hj).trans (va_up_ne _ _ hj7)))
theorem signAt_T {d N n p : Nat} {h : AH} {tx : Nat → Int} {Q : AQ} (hT : isTx h n tx p) (hN : 8 ≤ N) {i : Nat} (hi : i ≤ 1000) (hQ : ∀ z : Int, z = sg n tx i → Q (.inl (some (vI z))) h N) : T (d + 1) 80 [vR 1, vI i] h N Q := by
  obtain ⟨f, t0, t1, hn, hf⟩ := id hT
  refine T_body (I := mi_X7_signAt) (lv := [_, _]) rfl (Nat.le_of_ble_eq_true rfl) rfl ?_
  refine R_iload_n rfl rfl ?_
  refine R_iflt rfl ⟨by omega, by omega⟩ (fun c1 => ?_) (fun c1 => ?_)
  · exact absurd c1 (by omega)
  · refine R_iload_n rfl rfl ?_
    refine R_aload_n rfl rfl ?_
    refine R_getfield rfl rfl (by omega) t0 rfl ?_
    refine R_icmpge rfl ⟨by omega, by omega⟩ ⟨by omega, by omega⟩ (fun c9 => ?_) (fun c9 => ?_)
    · refine R_iconst rfl ?_
      exact R_ireturn rfl (fun q => absurd q (by decide)) (Nat.zero_le _) (Nat.zero_le _) (hQ _ (by unfold sg; rw [if_neg (by omega)]))
    · refine R_iload_n rfl rfl ?_
      refine R_sipush rfl ?_
      refine R_icmpge rfl ⟨by omega, by omega⟩ ⟨by decide, by decide⟩ (fun c16 => ?_) (fun c16 => ?_)
      · refine R_iconst rfl ?_
        exact R_ireturn rfl (fun q => absurd q (by decide)) (Nat.zero_le _) (Nat.zero_le _) (hQ _ (by unfold sg; rw [if_neg (by omega)]))
      · refine R_aload_n rfl rfl ?_
        refine R_getfield rfl rfl (by omega) t0 rfl ?_
        refine R_iload_n rfl rfl ?_
        refine R_iaload rfl (Or.inl (by omega)) t1 ⟨by omega, by omega, by decide⟩ ?_
        refine R_goto rfl ?_
        exact R_ireturn rfl (fun q => absurd q (by decide)) (Nat.zero_le _) (Nat.zero_le _) (hQ _ (by unfold sg; rw [if_pos (by omega)]; exact (hf i (by omega)).1))
theorem goesPast_T {d N n p : Nat} {h : AH} {tx : Nat → Int} {Q : AQ} (hT : isTx h n tx p) (hN : 8 ≤ N) (hp : p ≤ n) {s : Int} (hs : inR s) (hQ1 : sg n tx p = s → ∀ h', isTx h' n tx (p + 1) → fr h h' 1 1 → Q (.inl (some (vI 1))) h' N) (hQ0 : ¬ sg n tx p = s → Q (.inl (some (vI 0))) h N) : T (d + 2) 83 [vR 1, vI s] h N Q := by
  obtain ⟨f, t0, t1, hn, hf⟩ := id hT
  obtain ⟨hs1, hs2⟩ := hs
  refine T_body (I := mi_X7_goesPast) (lv := [_, _]) rfl (Nat.le_of_ble_eq_true rfl) rfl ?_
  refine R_aload_n rfl rfl ?_
  refine R_aload_n rfl rfl ?_
  refine R_getfield rfl rfl (by omega) t0 rfl ?_
  refine R_vcall rfl rfl ⟨(by omega), _, t0⟩ ⟨Nat.le_of_ble_eq_true rfl, Nat.le_of_ble_eq_true rfl, Nat.zero_le _, Nat.zero_le _⟩ (signAt_T (i := p) hT hN (by omega) (fun z5 hz5 => aRes_i (rest := []) ?_))
  have hr5 := sg_r hT (p)
  refine R_iload_n rfl rfl ?_
  refine R_icmpeq rfl ⟨by omega, by omega⟩ ⟨by omega, by omega⟩ (fun c9 => ?_) (fun c9 => ?_)
  · refine R_aload_n rfl rfl ?_
    refine R_dup rfl rfl ?_
    refine R_getfield rfl rfl (by omega) t0 rfl ?_
    refine R_iconst rfl ?_
    refine R_iadd rfl ?_
    refine R_putfield rfl rfl (by omega) t0 (Nat.le_of_ble_eq_true rfl) (by first | trivial | exact trivial | omega) ?_
    refine R_iconst rfl ?_
    exact R_ireturn rfl (fun _ => by omega) (Nat.zero_le _) (Nat.zero_le _) (hQ1 (by omega) _ (isTx_pos (p + 1) hT) (fun j hj => va_up_ne _ _ (by omega)))
  · refine R_iconst rfl ?_
    exact R_ireturn rfl (fun _ => by omega) (Nat.zero_le _) (Nat.zero_le _) (hQ0 (by omega))
def iwG (n : Nat) (tx : Nat → Int) (l : Nat) : Bool := decide (l ≤ n) && decide (n ≤ 6) && alF (fun i => isLb (sg n tx i)) n 0
def rbF (n : Nat) (tx : Nat → Int) (p : Nat) (G : Gr) (c : Nat) (b : Bool) (s : Int) : Nat × Gr := if qPb G c b = true ∧ sg n tx p = s then (p + 1, setBr G c b true) else (p, G)
theorem readBar_T {d N n p : Nat} {h : AH} {tx : Nat → Int} {Q : AQ} (hT : isTx h n tx p) (hN : 8 ≤ N) (hp : p ≤ n) {G : Gr} (hS : isSt h 2 G) (hG : okG G) {c : Nat} {b : Bool} {s : Int} (hc : c < 36) (hs : inR s) (hQ : ∀ h', isTx h' n tx (rbF n tx p G c b s).1 → isSt h' 2 (rbF n tx p G c b s).2 → fr h h' 1 6 → Q (.inl none) h' N) : T (d + 3) 86 [vR 1, vI c, vI (bI b), vI s] h N Q := by
  obtain ⟨f, t0, t1, hn, hf⟩ := id hT
  refine T_body (I := mi_X7_readBar) (lv := [_, _, _, _]) rfl (Nat.le_of_ble_eq_true rfl) rfl ?_
  refine R_aload_n rfl rfl ?_
  refine R_getfield rfl rfl (by omega) t0 rfl ?_
  refine R_iload_n rfl rfl ?_
  refine R_iload_n rfl rfl ?_
  refine R_vcall rfl rfl ⟨(by omega), hS.rcv⟩ ⟨Nat.le_of_ble_eq_true rfl, Nat.le_of_ble_eq_true rfl, Nat.zero_le _, Nat.zero_le _⟩ (isPlace_T (b := b) hS hG (by omega) ⟨by omega, by omega⟩ (fun z6 hz6 => aRes_i (rest := []) ?_))
  refine R_ifeq rfl ⟨by omega, by omega⟩ (fun c9 => ?_) (fun c9 => ?_)
  · have hpl : ¬ qP G c b := by
      rcases hz6 with ⟨q1, q2⟩ | ⟨q1, q2⟩
      · omega
      · exact fun q => q2 ⟨by omega, q⟩
    have hr : rbF n tx p G c b s = (p, G) := by
      unfold rbF
      rw [if_neg (fun q => hpl (qPb_iff.mp q.1))]
    rw [hr] at hQ
    exact R_return rfl (Nat.zero_le _) (Nat.zero_le _) (hQ h hT hS fr.refl)
  · have hpl : qP G c b := by
      rcases hz6 with ⟨q1, q2⟩ | ⟨q1, q2⟩
      · exact q2.2
      · omega
    refine R_aload_n rfl rfl ?_
    refine R_iload_n rfl rfl ?_
    refine R_vcall rfl rfl ⟨(by omega), _, t0⟩ ⟨Nat.le_of_ble_eq_true rfl, Nat.le_of_ble_eq_true rfl, Nat.zero_le _, Nat.zero_le _⟩ (goesPast_T hT hN hp hs (fun hsg h1 hT1 f1 => aRes_i (rest := []) ?_) (fun hsg => aRes_i (rest := []) ?_))
    · have hr : rbF n tx p G c b s = (p + 1, setBr G c b true) := by
        unfold rbF
        rw [if_pos ⟨qPb_iff.mpr hpl, hsg⟩]
      rw [hr] at hQ
      have hS1 : isSt h1 2 G := isSt_fr hS (fun j h1 h2 => f1 j (by omega))
      obtain ⟨ff, t0b, -⟩ := id hT1
      refine R_ifeq rfl ⟨by decide, by decide⟩ (fun c0 => absurd c0 (by decide)) (fun _ => ?_)
      refine R_aload_n rfl rfl ?_
      refine R_getfield rfl rfl (by omega) t0b rfl ?_
      refine R_iload_n rfl rfl ?_
      refine R_iload_n rfl rfl ?_
      refine R_iconst rfl ?_
      refine R_vcall rfl rfl ⟨(by omega), hS1.rcv⟩ ⟨Nat.le_of_ble_eq_true rfl, Nat.le_of_ble_eq_true rfl, Nat.zero_le _, Nat.zero_le _⟩ (drawBar_T (b := b) (v := true) hS1 hG (by omega) (Int.ofNat_nonneg c) hpl (fun h2 hS2 f2 => aRes_v (rest := []) ?_))
      exact R_return rfl (Nat.zero_le _) (Nat.zero_le _) (hQ h2 (isTx_fr hT1 (f2 1 (by omega)) (f2 7 (by omega))) hS2 (fun j hj => (f2 j (by omega)).trans (f1 j (by omega))))
    · have hr : rbF n tx p G c b s = (p, G) := by
        unfold rbF
        rw [if_neg (fun q => hsg q.2)]
      rw [hr] at hQ
      refine R_ifeq rfl ⟨by decide, by decide⟩ (fun _ => ?_) (fun c0 => absurd c0 (by decide))
      exact R_return rfl (Nat.zero_le _) (Nat.zero_le _) (hQ h hT hS fr.refl)
def rcF (n : Nat) (tx : Nat → Int) : Nat → Nat → Nat → Gr → Bool × Nat × Gr
  | 0, _, p, G => (true, p, G)
  | r + 1, c, p, G => if sg n tx p = 46 ∨ isLb (sg n tx p) = true then
      rcF n tx r (c + 1) (rbF n tx (rbF n tx (p + 1) (setL G c (if sg n tx p = 46 then 0 else sg n tx p)) c false 124).1 (rbF n tx (p + 1) (setL G c (if sg n tx p = 46 then 0 else sg n tx p)) c false 124).2 c true 95).1 (rbF n tx (rbF n tx (p + 1) (setL G c (if sg n tx p = 46 then 0 else sg n tx p)) c false 124).1 (rbF n tx (p + 1) (setL G c (if sg n tx p = 46 then 0 else sg n tx p)) c false 124).2 c true 95).2
    else (false, p, G)
theorem rb_ok {n : Nat} {tx : Nat → Int} {p : Nat} {G : Gr} {c : Nat} {b : Bool} {s : Int} (hG : okG G) (hs : ¬ s = -1) (hp : p ≤ n) : okG (rbF n tx p G c b s).2 ∧ qM (rbF n tx p G c b s).2 = qM G ∧ (rbF n tx p G c b s).1 ≤ n := by
  unfold rbF
  by_cases q : qPb G c b = true ∧ sg n tx p = s
  · rw [if_pos q]
    refine ⟨ok_setBr hG (qPb_iff.mp q.1), ?_, ?_⟩
    · cases b <;> rfl
    · exact sg_lt (i := p) (by rw [q.2]; exact hs)
  · rw [if_neg q]
    exact ⟨hG, rfl, hp⟩
theorem rc_ok {n : Nat} {tx : Nat → Int} : ∀ r c p G, okG G → p ≤ n → okG (rcF n tx r c p G).2.2 ∧ (rcF n tx r c p G).2.1 ≤ n
  | 0, _, _, _, h, hp => ⟨h, hp⟩
  | r + 1, c, p, G, h, hp => by
    simp only [rcF]
    by_cases q : sg n tx p = 46 ∨ isLb (sg n tx p) = true
    · rw [if_pos q]
      have hpn : p < n := sg_lt (tx := tx) (i := p) (by
        intro e
        rcases q with q | q
        · omega
        · have := (isLb_t.mp q).1
          omega)
      have h1 : okG (setL G c (if sg n tx p = 46 then 0 else sg n tx p)) := ok_setL h (by
        by_cases q2 : sg n tx p = 46
        · exact Or.inl (if_pos q2)
        · rw [if_neg q2]
          rcases q with q | q
          · exact absurd q q2
          · exact Or.inr (isLb_let q))
      have h2 := rb_ok (n := n) (tx := tx) (p := p + 1) (c := c) (b := false) (s := 124) h1 (by decide) (by omega)
      have h3 := rb_ok (n := n) (tx := tx) (c := c) (b := true) (s := 95) h2.1 (by decide) h2.2.2
      exact rc_ok r (c + 1) _ _ h3.1 h3.2.2
    · rw [if_neg q]
      exact ⟨h, hp⟩
theorem rc_loop {d N n : Nat} {tx : Nat → Int} {Q : AQ} (hN : 8 ≤ N) : ∀ (r c p : Nat) (h : AH) (G : Gr) (l : Option AV), c + r = qM G → p ≤ n → isTx h n tx p → isSt h 2 G → okG G → (∀ h', isTx h' n tx (rcF n tx r c p G).2.1 → isSt h' 2 (rcF n tx r c p G).2.2 → fr h h' 1 6 → Q (.inl (some (vI (bI (rcF n tx r c p G).1)))) h' N) → Run mi_X7_readCells (T (d + 3)) Q 2 [some (vR 1), some (vI c), l] [] h N 0 0 := by
  intro r
  induction r using Nat.strongRecOn with
  | ind r ih =>
  intro c p h G l hr hp hT hS hG hQ
  obtain ⟨f, t0, t1, hn, hf⟩ := id hT
  obtain ⟨hm4, hm36⟩ := hG.m
  obtain ⟨rb, bb, s0⟩ := hS.e0
  refine R_iload_n rfl rfl ?_
  refine R_aload_n rfl rfl ?_
  refine R_getfield rfl rfl (by omega) t0 rfl ?_
  refine R_vcall rfl rfl ⟨(by omega), hS.rcv⟩ ⟨Nat.le_of_ble_eq_true rfl, Nat.le_of_ble_eq_true rfl, Nat.zero_le _, Nat.zero_le _⟩ (cells_T hS hG (by omega) (fun z7 hz7 => aRes_i (rest := [_]) ?_))
  refine R_icmpge rfl ⟨by omega, by omega⟩ ⟨by omega, by omega⟩ (fun c10 => ?_) (fun c10 => ?_)
  · have hr0 : r = 0 := by omega
    subst hr0
    refine R_iconst rfl ?_
    exact R_ireturn rfl (fun _ => by omega) (Nat.zero_le _) (Nat.zero_le _) (hQ h hT hS fr.refl)
  · obtain ⟨r, rfl⟩ : ∃ r1, r = r1 + 1 := ⟨r - 1, by omega⟩
    refine R_aload_n rfl rfl ?_
    refine R_aload_n rfl rfl ?_
    refine R_getfield rfl rfl (by omega) t0 rfl ?_
    refine R_vcall rfl rfl ⟨(by omega), _, t0⟩ ⟨Nat.le_of_ble_eq_true rfl, Nat.le_of_ble_eq_true rfl, Nat.zero_le _, Nat.zero_le _⟩ (signAt_T (i := p) hT hN (by omega) (fun z18 hz18 => aRes_i (rest := []) ?_))
    have hr18 := sg_r hT (p)
    refine R_istore_n (lv' := [_, _, _]) rfl rfl ?_
    refine R_iload_n rfl rfl ?_
    refine R_bipush rfl ?_
    refine R_icmpeq rfl ⟨by omega, by omega⟩ ⟨by decide, by decide⟩ (fun c25 => ?_) (fun c25 => ?_)
    · have hok : sg n tx p = 46 ∨ isLb (sg n tx p) = true := Or.inl (by omega)
      refine R_aload_n rfl rfl ?_
      refine R_dup rfl rfl ?_
      refine R_getfield rfl rfl (by omega) t0 rfl ?_
      refine R_iconst rfl ?_
      refine R_iadd rfl ?_
      refine R_putfield rfl rfl (by omega) t0 (Nat.le_of_ble_eq_true rfl) (by first | trivial | exact trivial | omega) ?_
      have hT1 := isTx_pos (p + 1) hT
      replace hS : isSt (va_up h 1 (eO 5 [vI n, vR 2, vI ((p + 1 : Nat) : Int), vR 7])) 2 G := isSt_fr hS (fun j h1 h2 => va_up_ne _ _ (by omega))
      have hpn : p < n := sg_lt (tx := tx) (i := p) (by
        intro e
        rcases hok with q | q
        · omega
        · have := (isLb_t.mp q).1
          omega)
      refine R_aload_n rfl rfl ?_
      refine R_getfield rfl rfl (by omega) (va_up_self _ _ _) rfl ?_
      refine R_iload_n rfl rfl ?_
      refine R_iload_n rfl rfl ?_
      refine R_bipush rfl ?_
      refine R_icmpne rfl ⟨by omega, by omega⟩ ⟨by decide, by decide⟩ (fun c55 => ?_) (fun c55 => ?_)
      · have hdot : ¬ sg n tx p = 46 := by omega
        refine R_iload_n rfl rfl ?_
        refine R_vcall rfl rfl ⟨(by omega), hS.rcv⟩ ⟨Nat.le_of_ble_eq_true rfl, Nat.le_of_ble_eq_true rfl, Nat.zero_le _, Nat.zero_le _⟩ (setLetter_T hS hG (by omega) ⟨by omega, by omega⟩ (fun h1 hS1 f1 => aRes_v (rest := []) ?_))
        have hT2 := isTx_fr hT1 (f1 1 (by omega)) (f1 7 (by omega))
        have e0 : setL G ((c : Int)).toNat z18 = setL G c (if sg n tx p = 46 then 0 else sg n tx p) := by
          show setL G c _ = _
          rw [if_neg hdot, hz18]
        rw [e0] at hS1
        have okh : okG (setL G c (if sg n tx p = 46 then 0 else sg n tx p)) := ok_setL hG (by
          by_cases q2 : sg n tx p = 46
          · exact Or.inl (if_pos q2)
          · rw [if_neg q2]
            exact Or.inr (isLb_let (by
              rcases hok with q | q
              · exact absurd q q2
              · exact q)))
        have k2 := rb_ok (n := n) (tx := tx) (p := p + 1) (c := c) (b := false) (s := 124) okh (by decide) (by omega)
        have k3 := rb_ok (n := n) (tx := tx) (c := c) (b := true) (s := 95) k2.1 (by decide) k2.2.2
        obtain ⟨ff, t0, -⟩ := id hT2
        refine R_aload_n rfl rfl ?_
        refine R_iload_n rfl rfl ?_
        refine R_iconst rfl ?_
        refine R_bipush rfl ?_
        refine R_vcall rfl rfl ⟨(by omega), _, t0⟩ ⟨Nat.le_of_ble_eq_true rfl, Nat.le_of_ble_eq_true rfl, Nat.zero_le _, Nat.zero_le _⟩ (readBar_T (b := false) (c := c) hT2 hN (by omega) hS1 okh (by omega) ⟨by decide, by decide⟩ (fun h2 hT3 hS2 f2 => aRes_v (rest := []) ?_))
        obtain ⟨ff, t0, -⟩ := id hT3
        refine R_aload_n rfl rfl ?_
        refine R_iload_n rfl rfl ?_
        refine R_iconst rfl ?_
        refine R_bipush rfl ?_
        refine R_vcall rfl rfl ⟨(by omega), _, t0⟩ ⟨Nat.le_of_ble_eq_true rfl, Nat.le_of_ble_eq_true rfl, Nat.zero_le _, Nat.zero_le _⟩ (readBar_T (b := true) (c := c) hT3 hN k2.2.2 hS2 k2.1 (by omega) ⟨by decide, by decide⟩ (fun h3 hT4 hS3 f3 => aRes_v (rest := []) ?_))
        refine R_iinc (lv' := [_, _, _]) rfl rfl rfl ?_
        refine R_goto rfl ?_
        have hq : rcF n tx (r + 1) c p G = rcF n tx r (c + 1) _ _ := if_pos hok
        rw [hq] at hQ
        exact ih r (by omega) (c + 1) _ h3 _ _ (by rw [k3.2.1, k2.2.1]; show c + 1 + r = qM G; omega) k3.2.2 hT4 hS3 k3.1 (fun h4 q1 q2 q3 => hQ h4 q1 q2 (fun j hj => (q3 j hj).trans ((f3 j (by omega)).trans ((f2 j (by omega)).trans ((f1 j (by omega)).trans (va_up_ne _ _ (by omega)))))))
      · have hdot : sg n tx p = 46 := by omega
        refine R_iconst rfl ?_
        refine R_goto rfl ?_
        refine R_vcall rfl rfl ⟨(by omega), hS.rcv⟩ ⟨Nat.le_of_ble_eq_true rfl, Nat.le_of_ble_eq_true rfl, Nat.zero_le _, Nat.zero_le _⟩ (setLetter_T hS hG (by omega) ⟨by omega, by omega⟩ (fun h1 hS1 f1 => aRes_v (rest := []) ?_))
        have hT2 := isTx_fr hT1 (f1 1 (by omega)) (f1 7 (by omega))
        have e0 : setL G ((c : Int)).toNat 0 = setL G c (if sg n tx p = 46 then 0 else sg n tx p) := by
          show setL G c _ = _
          rw [if_pos hdot]
        rw [e0] at hS1
        have okh : okG (setL G c (if sg n tx p = 46 then 0 else sg n tx p)) := ok_setL hG (by
          by_cases q2 : sg n tx p = 46
          · exact Or.inl (if_pos q2)
          · rw [if_neg q2]
            exact Or.inr (isLb_let (by
              rcases hok with q | q
              · exact absurd q q2
              · exact q)))
        have k2 := rb_ok (n := n) (tx := tx) (p := p + 1) (c := c) (b := false) (s := 124) okh (by decide) (by omega)
        have k3 := rb_ok (n := n) (tx := tx) (c := c) (b := true) (s := 95) k2.1 (by decide) k2.2.2
        obtain ⟨ff, t0, -⟩ := id hT2
        refine R_aload_n rfl rfl ?_
        refine R_iload_n rfl rfl ?_
        refine R_iconst rfl ?_
        refine R_bipush rfl ?_
        refine R_vcall rfl rfl ⟨(by omega), _, t0⟩ ⟨Nat.le_of_ble_eq_true rfl, Nat.le_of_ble_eq_true rfl, Nat.zero_le _, Nat.zero_le _⟩ (readBar_T (b := false) (c := c) hT2 hN (by omega) hS1 okh (by omega) ⟨by decide, by decide⟩ (fun h2 hT3 hS2 f2 => aRes_v (rest := []) ?_))
        obtain ⟨ff, t0, -⟩ := id hT3
        refine R_aload_n rfl rfl ?_
        refine R_iload_n rfl rfl ?_
        refine R_iconst rfl ?_
        refine R_bipush rfl ?_
        refine R_vcall rfl rfl ⟨(by omega), _, t0⟩ ⟨Nat.le_of_ble_eq_true rfl, Nat.le_of_ble_eq_true rfl, Nat.zero_le _, Nat.zero_le _⟩ (readBar_T (b := true) (c := c) hT3 hN k2.2.2 hS2 k2.1 (by omega) ⟨by decide, by decide⟩ (fun h3 hT4 hS3 f3 => aRes_v (rest := []) ?_))
        refine R_iinc (lv' := [_, _, _]) rfl rfl rfl ?_
        refine R_goto rfl ?_
        have hq : rcF n tx (r + 1) c p G = rcF n tx r (c + 1) _ _ := if_pos hok
        rw [hq] at hQ
        exact ih r (by omega) (c + 1) _ h3 _ _ (by rw [k3.2.1, k2.2.1]; show c + 1 + r = qM G; omega) k3.2.2 hT4 hS3 k3.1 (fun h4 q1 q2 q3 => hQ h4 q1 q2 (fun j hj => (q3 j hj).trans ((f3 j (by omega)).trans ((f2 j (by omega)).trans ((f1 j (by omega)).trans (va_up_ne _ _ (by omega)))))))
    · refine R_iload_n rfl rfl ?_
      refine R_s3call rfl rfl ⟨Nat.le_of_ble_eq_true rfl, Nat.le_of_ble_eq_true rfl, Nat.zero_le _, Nat.zero_le _⟩ (isLetter_T ⟨by omega, by omega⟩ (fun z29 hz29 => aRes_i (rest := []) ?_))
      rw [hz18] at hz29
      have h01 := bI01 (isLb (sg n tx p))
      refine R_ifne rfl ⟨by omega, by omega⟩ (fun c32 => ?_) (fun c32 => ?_)
      · have hok : sg n tx p = 46 ∨ isLb (sg n tx p) = true := Or.inr (bI_t hz29 c32)
        refine R_aload_n rfl rfl ?_
        refine R_dup rfl rfl ?_
        refine R_getfield rfl rfl (by omega) t0 rfl ?_
        refine R_iconst rfl ?_
        refine R_iadd rfl ?_
        refine R_putfield rfl rfl (by omega) t0 (Nat.le_of_ble_eq_true rfl) (by first | trivial | exact trivial | omega) ?_
        have hT1 := isTx_pos (p + 1) hT
        replace hS : isSt (va_up h 1 (eO 5 [vI n, vR 2, vI ((p + 1 : Nat) : Int), vR 7])) 2 G := isSt_fr hS (fun j h1 h2 => va_up_ne _ _ (by omega))
        have hpn : p < n := sg_lt (tx := tx) (i := p) (by
          intro e
          rcases hok with q | q
          · omega
          · have := (isLb_t.mp q).1
            omega)
        refine R_aload_n rfl rfl ?_
        refine R_getfield rfl rfl (by omega) (va_up_self _ _ _) rfl ?_
        refine R_iload_n rfl rfl ?_
        refine R_iload_n rfl rfl ?_
        refine R_bipush rfl ?_
        refine R_icmpne rfl ⟨by omega, by omega⟩ ⟨by decide, by decide⟩ (fun c55 => ?_) (fun c55 => ?_)
        · have hdot : ¬ sg n tx p = 46 := by omega
          refine R_iload_n rfl rfl ?_
          refine R_vcall rfl rfl ⟨(by omega), hS.rcv⟩ ⟨Nat.le_of_ble_eq_true rfl, Nat.le_of_ble_eq_true rfl, Nat.zero_le _, Nat.zero_le _⟩ (setLetter_T hS hG (by omega) ⟨by omega, by omega⟩ (fun h1 hS1 f1 => aRes_v (rest := []) ?_))
          have hT2 := isTx_fr hT1 (f1 1 (by omega)) (f1 7 (by omega))
          have e0 : setL G ((c : Int)).toNat z18 = setL G c (if sg n tx p = 46 then 0 else sg n tx p) := by
            show setL G c _ = _
            rw [if_neg hdot, hz18]
          rw [e0] at hS1
          have okh : okG (setL G c (if sg n tx p = 46 then 0 else sg n tx p)) := ok_setL hG (by
            by_cases q2 : sg n tx p = 46
            · exact Or.inl (if_pos q2)
            · rw [if_neg q2]
              exact Or.inr (isLb_let (by
                rcases hok with q | q
                · exact absurd q q2
                · exact q)))
          have k2 := rb_ok (n := n) (tx := tx) (p := p + 1) (c := c) (b := false) (s := 124) okh (by decide) (by omega)
          have k3 := rb_ok (n := n) (tx := tx) (c := c) (b := true) (s := 95) k2.1 (by decide) k2.2.2
          obtain ⟨ff, t0, -⟩ := id hT2
          refine R_aload_n rfl rfl ?_
          refine R_iload_n rfl rfl ?_
          refine R_iconst rfl ?_
          refine R_bipush rfl ?_
          refine R_vcall rfl rfl ⟨(by omega), _, t0⟩ ⟨Nat.le_of_ble_eq_true rfl, Nat.le_of_ble_eq_true rfl, Nat.zero_le _, Nat.zero_le _⟩ (readBar_T (b := false) (c := c) hT2 hN (by omega) hS1 okh (by omega) ⟨by decide, by decide⟩ (fun h2 hT3 hS2 f2 => aRes_v (rest := []) ?_))
          obtain ⟨ff, t0, -⟩ := id hT3
          refine R_aload_n rfl rfl ?_
          refine R_iload_n rfl rfl ?_
          refine R_iconst rfl ?_
          refine R_bipush rfl ?_
          refine R_vcall rfl rfl ⟨(by omega), _, t0⟩ ⟨Nat.le_of_ble_eq_true rfl, Nat.le_of_ble_eq_true rfl, Nat.zero_le _, Nat.zero_le _⟩ (readBar_T (b := true) (c := c) hT3 hN k2.2.2 hS2 k2.1 (by omega) ⟨by decide, by decide⟩ (fun h3 hT4 hS3 f3 => aRes_v (rest := []) ?_))
          refine R_iinc (lv' := [_, _, _]) rfl rfl rfl ?_
          refine R_goto rfl ?_
          have hq : rcF n tx (r + 1) c p G = rcF n tx r (c + 1) _ _ := if_pos hok
          rw [hq] at hQ
          exact ih r (by omega) (c + 1) _ h3 _ _ (by rw [k3.2.1, k2.2.1]; show c + 1 + r = qM G; omega) k3.2.2 hT4 hS3 k3.1 (fun h4 q1 q2 q3 => hQ h4 q1 q2 (fun j hj => (q3 j hj).trans ((f3 j (by omega)).trans ((f2 j (by omega)).trans ((f1 j (by omega)).trans (va_up_ne _ _ (by omega)))))))
        · have hdot : sg n tx p = 46 := by omega
          refine R_iconst rfl ?_
          refine R_goto rfl ?_
          refine R_vcall rfl rfl ⟨(by omega), hS.rcv⟩ ⟨Nat.le_of_ble_eq_true rfl, Nat.le_of_ble_eq_true rfl, Nat.zero_le _, Nat.zero_le _⟩ (setLetter_T hS hG (by omega) ⟨by omega, by omega⟩ (fun h1 hS1 f1 => aRes_v (rest := []) ?_))
          have hT2 := isTx_fr hT1 (f1 1 (by omega)) (f1 7 (by omega))
          have e0 : setL G ((c : Int)).toNat 0 = setL G c (if sg n tx p = 46 then 0 else sg n tx p) := by
            show setL G c _ = _
            rw [if_pos hdot]
          rw [e0] at hS1
          have okh : okG (setL G c (if sg n tx p = 46 then 0 else sg n tx p)) := ok_setL hG (by
            by_cases q2 : sg n tx p = 46
            · exact Or.inl (if_pos q2)
            · rw [if_neg q2]
              exact Or.inr (isLb_let (by
                rcases hok with q | q
                · exact absurd q q2
                · exact q)))
          have k2 := rb_ok (n := n) (tx := tx) (p := p + 1) (c := c) (b := false) (s := 124) okh (by decide) (by omega)
          have k3 := rb_ok (n := n) (tx := tx) (c := c) (b := true) (s := 95) k2.1 (by decide) k2.2.2
          obtain ⟨ff, t0, -⟩ := id hT2
          refine R_aload_n rfl rfl ?_
          refine R_iload_n rfl rfl ?_
          refine R_iconst rfl ?_
          refine R_bipush rfl ?_
          refine R_vcall rfl rfl ⟨(by omega), _, t0⟩ ⟨Nat.le_of_ble_eq_true rfl, Nat.le_of_ble_eq_true rfl, Nat.zero_le _, Nat.zero_le _⟩ (readBar_T (b := false) (c := c) hT2 hN (by omega) hS1 okh (by omega) ⟨by decide, by decide⟩ (fun h2 hT3 hS2 f2 => aRes_v (rest := []) ?_))
          obtain ⟨ff, t0, -⟩ := id hT3
          refine R_aload_n rfl rfl ?_
          refine R_iload_n rfl rfl ?_
          refine R_iconst rfl ?_
          refine R_bipush rfl ?_
          refine R_vcall rfl rfl ⟨(by omega), _, t0⟩ ⟨Nat.le_of_ble_eq_true rfl, Nat.le_of_ble_eq_true rfl, Nat.zero_le _, Nat.zero_le _⟩ (readBar_T (b := true) (c := c) hT3 hN k2.2.2 hS2 k2.1 (by omega) ⟨by decide, by decide⟩ (fun h3 hT4 hS3 f3 => aRes_v (rest := []) ?_))
          refine R_iinc (lv' := [_, _, _]) rfl rfl rfl ?_
          refine R_goto rfl ?_
          have hq : rcF n tx (r + 1) c p G = rcF n tx r (c + 1) _ _ := if_pos hok
          rw [hq] at hQ
          exact ih r (by omega) (c + 1) _ h3 _ _ (by rw [k3.2.1, k2.2.1]; show c + 1 + r = qM G; omega) k3.2.2 hT4 hS3 k3.1 (fun h4 q1 q2 q3 => hQ h4 q1 q2 (fun j hj => (q3 j hj).trans ((f3 j (by omega)).trans ((f2 j (by omega)).trans ((f1 j (by omega)).trans (va_up_ne _ _ (by omega)))))))
      · have hno : ¬ (sg n tx p = 46 ∨ isLb (sg n tx p) = true) := by
          intro q
          rcases q with q | q
          · omega
          · exact absurd (q.symm.trans (bI_f hz29 (by omega))) (by decide)
        have hq : rcF n tx (r + 1) c p G = (false, p, G) := if_neg hno
        rw [hq] at hQ
        refine R_iconst rfl ?_
        exact R_ireturn rfl (fun _ => by omega) (Nat.zero_le _) (Nat.zero_le _) (hQ h hT hS fr.refl)
theorem readCells_T {d N n p : Nat} {h : AH} {tx : Nat → Int} {Q : AQ} (hT : isTx h n tx p) (hN : 8 ≤ N) (hp : p ≤ n) {G : Gr} (hS : isSt h 2 G) (hG : okG G) (hQ : ∀ h', isTx h' n tx (rcF n tx (qM G) 0 p G).2.1 → isSt h' 2 (rcF n tx (qM G) 0 p G).2.2 → fr h h' 1 6 → Q (.inl (some (vI (bI (rcF n tx (qM G) 0 p G).1)))) h' N) : T (d + 4) 85 [vR 1] h N Q := by
  refine T_body (I := mi_X7_readCells) (lv := [_, _, _]) rfl (Nat.le_of_ble_eq_true rfl) rfl ?_
  refine R_iconst rfl ?_
  refine R_istore_n (lv' := [_, _, _]) rfl rfl ?_
  exact rc_loop hN (qM G) 0 p h G _ (Nat.zero_add _) hp hT hS hG hQ
