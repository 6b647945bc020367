/-! ===== the text: words, line, parts, the whole grid ===== -/
def okW (G : Gr) (W c : Nat) : Prop := (2 ≤ qR G ∧ qR G ≤ 6) ∧ (2 ≤ qC G ∧ qC G ≤ 6) ∧ (∀ c, c < qM G → qL G c = 0 ∨ isLet (qL G c)) ∧ (∀ b c, qB G b c = true → qP G c b) ∧ (qW G = W + 1 ∧ W + 1 ≤ 8) ∧ (qWn G W = c ∧ c ≤ 6) ∧ (∀ w, w < W → 2 ≤ qWn G w ∧ qWn G w ≤ 6) ∧ (∀ w i, w < W + 1 → i < qWn G w → isLet (qWl G w i)) ∧ qN G ≤ 6 ∧ ∀ i, i < qN G → isLet (qNl G i)
theorem okW.wk {G : Gr} {W c : Nat} (h : okW G W c) : wkG G := by
  obtain ⟨h1, h2, h3, h4, h5, h6, h7, h8, h9, h10⟩ := h
  refine ⟨h1, h2, by omega, fun w hw => ?_, h9⟩
  by_cases q : w = W
  · rw [q]
    omega
  · exact (h7 w (by omega)).2
theorem okW_beg {G : Gr} (hG : okG G) (hw : qW G < 8) : okW (begW G) (qW G) 0 := by
  obtain ⟨h1, h2, h3, h4, h5, h6, h7, h8, h9⟩ := hG
  refine ⟨h1, h2, h3, h4, ⟨rfl, by omega⟩, ⟨va_up_self _ _ _, by omega⟩, fun w hw => ?_, fun w i hw hi => ?_, h8, h9⟩
  · show 2 ≤ va_up (qWn G) (qW G) 0 w ∧ va_up (qWn G) (qW G) 0 w ≤ 6
    rw [va_up_ne _ _ (by omega)]
    exact h6 w hw
  · have hi : i < va_up (qWn G) (qW G) 0 w := hi
    by_cases q : w = qW G
    · rw [q, va_up_self] at hi
      omega
    · rw [va_up_ne _ _ q] at hi
      exact h7 w i (by omega) hi
theorem okW_len {G : Gr} {W c : Nat} (h : okW G W c) (hc : c < 6) {z : Int} (hz : isLet z) : okW (lenW G z) W (c + 1) := by
  obtain ⟨h1, h2, h3, h4, h5, h6, h7, h8, h9, h10⟩ := h
  have e : qW G - 1 = W := by omega
  refine ⟨h1, h2, h3, h4, h5, ⟨?_, by omega⟩, fun w hw => ?_, fun w i hw hi => ?_, h9, h10⟩
  · show va_up (qWn G) (qW G - 1) (qWn G (qW G - 1) + 1) W = c + 1
    rw [e, va_up_self, h6.1]
  · show 2 ≤ va_up (qWn G) (qW G - 1) _ w ∧ va_up (qWn G) (qW G - 1) _ w ≤ 6
    rw [va_up_ne _ _ (by omega)]
    exact h7 w hw
  · have hi : i < va_up (qWn G) (qW G - 1) (qWn G (qW G - 1) + 1) w := hi
    show isLet (if w = qW G - 1 ∧ i = qWn G (qW G - 1) then z else qWl G w i)
    by_cases q : w = qW G - 1 ∧ i = qWn G (qW G - 1)
    · rw [if_pos q]
      exact hz
    · rw [if_neg q]
      refine h8 w i hw ?_
      by_cases q2 : w = qW G - 1
      · rw [q2, va_up_self] at hi
        rw [q2]
        have : ¬ i = qWn G (qW G - 1) := fun r => q ⟨q2, r⟩
        omega
      · rw [va_up_ne _ _ q2] at hi
        exact hi
theorem okW_ok {G : Gr} {W c : Nat} (h : okW G W c) (hc : 2 ≤ c) : okG G := by
  obtain ⟨h1, h2, h3, h4, h5, h6, h7, h8, h9, h10⟩ := h
  refine ⟨h1, h2, h3, h4, by omega, fun w hw => ?_, fun w i hw hi => h8 w i (by omega) hi, h9, h10⟩
  by_cases q : w = W
  · rw [q]
    omega
  · exact h7 w (by omega)
theorem ok_lenN {G : Gr} (h : okG G) (hc : qN G < 6) {z : Int} (hz : isLet z) : okG (lenN G z) := by
  obtain ⟨h1, h2, h3, h4, h5, h6, h7, h8, h9⟩ := h
  refine ⟨h1, h2, h3, h4, h5, h6, h7, by show qN G + 1 ≤ 6; omega, fun i hi => ?_⟩
  show isLet (va_up (qNl G) (qN G) z i)
  have hi : i < qN G + 1 := hi
  by_cases q : i = qN G
  · rw [q, va_up_self]
    exact hz
  · rw [va_up_ne _ _ q]
    exact h9 i (by omega)
def rwF (n : Nat) (tx : Nat → Int) : Nat → Nat → Gr → Nat → Nat × Nat × Gr
  | 0, p, G, c => (c, p, G)
  | r + 1, p, G, c => if isLb (sg n tx p) = true then rwF n tx r (p + 1) (lenW G (sg n tx p)) (c + 1) else (c, p, G)
def rlF (n : Nat) (tx : Nat → Int) : Nat → Nat → Gr → Nat → Nat × Nat × Gr
  | 0, p, G, c => (c, p, G)
  | r + 1, p, G, c => if isLb (sg n tx p) = true then rlF n tx r (p + 1) (lenN G (sg n tx p)) (c + 1) else (c, p, G)
theorem let_lt {n : Nat} {tx : Nat → Int} {p : Nat} (h : isLb (sg n tx p) = true) : p < n := sg_lt (tx := tx) (i := p) (by
  intro e
  have := (isLb_t.mp h).1
  omega)
theorem rw_ok {n : Nat} {tx : Nat → Int} {W : Nat} : ∀ r p G c, c + r = 6 → p ≤ n → okW G W c → okW (rwF n tx r p G c).2.2 W (rwF n tx r p G c).1 ∧ (rwF n tx r p G c).2.1 ≤ n
  | 0, _, _, _, _, hp, h => ⟨h, hp⟩
  | r + 1, p, G, c, hc, hp, h => by
    simp only [rwF]
    by_cases q : isLb (sg n tx p) = true
    · rw [if_pos q]
      have := let_lt q
      exact rw_ok r (p + 1) _ (c + 1) (by omega) (by omega) (okW_len h (by omega) (isLb_let q))
    · rw [if_neg q]
      exact ⟨h, hp⟩
theorem rl_ok {n : Nat} {tx : Nat → Int} : ∀ r p G c, c + r = 6 → p ≤ n → okG G → qN G = c → okG (rlF n tx r p G c).2.2 ∧ (rlF n tx r p G c).2.1 ≤ n
  | 0, _, _, _, _, hp, h, _ => ⟨h, hp⟩
  | r + 1, p, G, c, hc, hp, h, hn => by
    simp only [rlF]
    by_cases q : isLb (sg n tx p) = true
    · rw [if_pos q]
      have := let_lt q
      exact rl_ok r (p + 1) _ (c + 1) (by omega) (by omega) (ok_lenN h (by omega) (isLb_let q)) (by show qN G + 1 = c + 1; omega)
    · rw [if_neg q]
      exact ⟨h, hp⟩
theorem rw_loop {d N n W : Nat} {tx : Nat → Int} {Q : AQ} (hN : 8 ≤ N) : ∀ (r c p : Nat) (h : AH) (G : Gr), c + r = 6 → p ≤ n → isTx h n tx p → isSt h 2 G → okW G W c → (∀ h', isTx h' n tx (rwF n tx r p G c).2.1 → isSt h' 2 (rwF n tx r p G c).2.2 → fr h h' 1 6 → Q (.inl (some (vI (bI (decide (2 ≤ (rwF n tx r p G c).1)))))) h' N) → Run mi_X7_readWord (T (d + 3)) Q 9 [some (vR 1), some (vI c)] [] h N 0 0 := by
  intro r
  induction r using Nat.strongRecOn with
  | ind r ih =>
  intro c p h G hr hp hT hS hG hQ
  obtain ⟨f, t0, t1, hn, hf⟩ := id hT
  obtain ⟨rb, bb, s0⟩ := hS.e0
  refine R_iload_n rfl rfl ?_
  refine R_bipush rfl ?_
  refine R_icmpge rfl ⟨by omega, by omega⟩ ⟨by decide, by decide⟩ (fun c12 => ?_) (fun c12 => ?_)
  · have hr0 : r = 0 := by omega
    subst hr0
    have hq : rwF n tx 0 p G c = (c, p, G) := rfl
    have hQ2 : ∀ h', isTx h' n tx p → isSt h' 2 G → fr h h' 1 6 → Q (.inl (some (vI (bI (decide (2 ≤ c)))))) h' N := by
      rw [hq] at hQ
      exact hQ
    refine R_iload_n rfl rfl ?_
    refine R_iconst rfl ?_
    refine R_icmplt rfl ⟨by omega, by omega⟩ ⟨by decide, by decide⟩ (fun c62 => ?_) (fun c62 => ?_)
    · refine R_iconst rfl ?_
      exact R_ireturn rfl (fun _ => by omega) (Nat.zero_le _) (Nat.zero_le _) (by rw [decide_eq_false (show ¬ 2 ≤ c by omega)] at hQ2; exact hQ2 h hT hS fr.refl)
    · refine R_iconst rfl ?_
      refine R_goto rfl ?_
      exact R_ireturn rfl (fun _ => by omega) (Nat.zero_le _) (Nat.zero_le _) (by rw [decide_eq_true (show  2 ≤ c by omega)] at hQ2; exact hQ2 h hT hS fr.refl)
  · obtain ⟨r, rfl⟩ : ∃ r1, r = r1 + 1 := ⟨r - 1, by omega⟩
    refine R_aload_n rfl rfl ?_
    refine R_aload_n rfl rfl ?_
    refine R_getfield rfl rfl (by omega) t0 rfl ?_
    refine R_vcall rfl rfl ⟨(by omega), _, t0⟩ ⟨Nat.le_of_ble_eq_true rfl, Nat.le_of_ble_eq_true rfl, Nat.zero_le _, Nat.zero_le _⟩ (signAt_T (i := p) hT hN (by omega) (fun z20 hz20 => aRes_i (rest := []) ?_))
    have hr20 := sg_r hT (p)
    refine R_s3call rfl rfl ⟨Nat.le_of_ble_eq_true rfl, Nat.le_of_ble_eq_true rfl, Nat.zero_le _, Nat.zero_le _⟩ (isLetter_T ⟨by omega, by omega⟩ (fun z23 hz23 => aRes_i (rest := []) ?_))
    rw [hz20] at hz23
    have h01 := bI01 (isLb (sg n tx p))
    refine R_ifeq rfl ⟨by omega, by omega⟩ (fun c26 => ?_) (fun c26 => ?_)
    · have hb := bI_f hz23 (by omega)
      have hq : rwF n tx (r + 1) p G c = (c, p, G) := if_neg (by rw [hb]; decide)
      have hQ2 : ∀ h', isTx h' n tx p → isSt h' 2 G → fr h h' 1 6 → Q (.inl (some (vI (bI (decide (2 ≤ c)))))) h' N := by
        rw [hq] at hQ
        exact hQ
      refine R_iload_n rfl rfl ?_
      refine R_iconst rfl ?_
      refine R_icmplt rfl ⟨by omega, by omega⟩ ⟨by decide, by decide⟩ (fun c62 => ?_) (fun c62 => ?_)
      · refine R_iconst rfl ?_
        exact R_ireturn rfl (fun _ => by omega) (Nat.zero_le _) (Nat.zero_le _) (by rw [decide_eq_false (show ¬ 2 ≤ c by omega)] at hQ2; exact hQ2 h hT hS fr.refl)
      · refine R_iconst rfl ?_
        refine R_goto rfl ?_
        exact R_ireturn rfl (fun _ => by omega) (Nat.zero_le _) (Nat.zero_le _) (by rw [decide_eq_true (show  2 ≤ c by omega)] at hQ2; exact hQ2 h hT hS fr.refl)
    · have hb := bI_t hz23 c26
      have hpn := let_lt hb
      have hq : rwF n tx (r + 1) p G c = rwF n tx r (p + 1) (lenW G (sg n tx p)) (c + 1) := if_pos hb
      rw [hq] at hQ
      refine R_aload_n rfl rfl ?_
      refine R_getfield rfl rfl (by omega) t0 rfl ?_
      refine R_aload_n rfl rfl ?_
      refine R_aload_n rfl rfl ?_
      refine R_getfield rfl rfl (by omega) t0 rfl ?_
      refine R_vcall rfl rfl ⟨(by omega), _, t0⟩ ⟨Nat.le_of_ble_eq_true rfl, Nat.le_of_ble_eq_true rfl, Nat.zero_le _, Nat.zero_le _⟩ (signAt_T (i := p) hT hN (by omega) (fun z38 hz38 => aRes_i (rest := [_]) ?_))
      have hr38 := sg_r hT (p)
      refine R_vcall rfl rfl ⟨(by omega), hS.rcv⟩ ⟨Nat.le_of_ble_eq_true rfl, Nat.le_of_ble_eq_true rfl, Nat.zero_le _, Nat.zero_le _⟩ (lengthenWord_T (W := W) (n := c) (z := z38) hS hG.wk (by omega) hG.2.2.2.2.1.1 hG.2.2.2.2.2.1.1 (by omega) (fun h1 hS1 f1 => aRes_v (rest := []) ?_))
      rw [hz38] at hS1
      have hT1 := isTx_pos (p + 1) (isTx_fr hT (f1 1 (by omega)) (f1 7 (by omega)))
      refine R_aload_n rfl rfl ?_
      refine R_dup rfl rfl ?_
      refine R_getfield rfl rfl (by omega) ((f1 1 (by omega)).trans t0) rfl ?_
      refine R_iconst rfl ?_
      refine R_iadd rfl ?_
      refine R_putfield rfl rfl (by omega) ((f1 1 (by omega)).trans t0) (Nat.le_of_ble_eq_true rfl) (by first | trivial | exact trivial | omega) ?_
      refine R_iinc (lv' := [_, _]) rfl rfl rfl ?_
      refine R_goto rfl ?_
      exact ih r (by omega) (c + 1) (p + 1) _ _ (by omega) (by omega) hT1 (isSt_fr hS1 (fun j h1 h2 => va_up_ne _ _ (by omega))) (okW_len hG (by omega) (isLb_let hb)) (fun h2 q1 q2 q3 => hQ h2 q1 q2 (fun j hj => (q3 j hj).trans ((va_up_ne _ _ (by omega)).trans (f1 j (by omega)))))
theorem readWord_T {d N n p : Nat} {h : AH} {tx : Nat → Int} {Q : AQ} (hT : isTx h n tx p) (hN : 8 ≤ N) (hp : p ≤ n) {G : Gr} (hS : isSt h 2 G) (hG : okG G) (hw8 : qW G < 8) (hQ : ∀ h', isTx h' n tx (rwF n tx 6 p (begW G) 0).2.1 → isSt h' 2 (rwF n tx 6 p (begW G) 0).2.2 → fr h h' 1 6 → Q (.inl (some (vI (bI (decide (2 ≤ (rwF n tx 6 p (begW G) 0).1)))))) h' N) : T (d + 4) 88 [vR 1] h N Q := by
  obtain ⟨f, t0, t1, hn, hf⟩ := id hT
  refine T_body (I := mi_X7_readWord) (lv := [_, _]) rfl (Nat.le_of_ble_eq_true rfl) rfl ?_
  refine R_aload_n rfl rfl ?_
  refine R_getfield rfl rfl (by omega) t0 rfl ?_
  refine R_vcall rfl rfl ⟨(by omega), hS.rcv⟩ ⟨Nat.le_of_ble_eq_true rfl, Nat.le_of_ble_eq_true rfl, Nat.zero_le _, Nat.zero_le _⟩ (beginWord_T hS hG.wk (by omega) hw8 (fun h1 hS1 f1 => aRes_v (rest := []) ?_))
  refine R_iconst rfl ?_
  refine R_istore_n (lv' := [_, _]) rfl rfl ?_
  exact rw_loop hN 6 0 p h1 _ rfl hp (isTx_fr hT (f1 1 (by omega)) (f1 7 (by omega))) hS1 (okW_beg hG hw8) (fun h2 q1 q2 q3 => hQ h2 q1 q2 (fun j hj => (q3 j hj).trans (f1 j (by omega))))
theorem rl_loop {d N n : Nat} {tx : Nat → Int} {Q : AQ} (hN : 8 ≤ N) : ∀ (r c p : Nat) (h : AH) (G : Gr), c + r = 6 → p ≤ n → isTx h n tx p → isSt h 2 G → okG G → qN G = c → (∀ h', isTx h' n tx (rlF n tx r p G c).2.1 → isSt h' 2 (rlF n tx r p G c).2.2 → fr h h' 1 6 → Q (.inl (some (vI (bI (decide (1 ≤ (rlF n tx r p G c).1)))))) h' N) → Run mi_X7_readLine (T (d + 3)) Q 2 [some (vR 1), some (vI c)] [] h N 0 0 := by
  intro r
  induction r using Nat.strongRecOn with
  | ind r ih =>
  intro c p h G hr hp hT hS hG hqn hQ
  obtain ⟨f, t0, t1, hn, hf⟩ := id hT
  obtain ⟨rb, bb, s0⟩ := hS.e0
  refine R_iload_n rfl rfl ?_
  refine R_bipush rfl ?_
  refine R_icmpge rfl ⟨by omega, by omega⟩ ⟨by decide, by decide⟩ (fun c5 => ?_) (fun c5 => ?_)
  · have hr0 : r = 0 := by omega
    subst hr0
    have hq : rlF n tx 0 p G c = (c, p, G) := rfl
    have hQ2 : ∀ h', isTx h' n tx p → isSt h' 2 G → fr h h' 1 6 → Q (.inl (some (vI (bI (decide (1 ≤ c)))))) h' N := by
      rw [hq] at hQ
      exact hQ
    refine R_iload_n rfl rfl ?_
    refine R_iconst rfl ?_
    refine R_icmplt rfl ⟨by omega, by omega⟩ ⟨by decide, by decide⟩ (fun c55 => ?_) (fun c55 => ?_)
    · refine R_iconst rfl ?_
      exact R_ireturn rfl (fun _ => by omega) (Nat.zero_le _) (Nat.zero_le _) (by rw [decide_eq_false (show ¬ 1 ≤ c by omega)] at hQ2; exact hQ2 h hT hS fr.refl)
    · refine R_iconst rfl ?_
      refine R_goto rfl ?_
      exact R_ireturn rfl (fun _ => by omega) (Nat.zero_le _) (Nat.zero_le _) (by rw [decide_eq_true (show  1 ≤ c by omega)] at hQ2; exact hQ2 h hT hS fr.refl)
  · obtain ⟨r, rfl⟩ : ∃ r1, r = r1 + 1 := ⟨r - 1, by omega⟩
    refine R_aload_n rfl rfl ?_
    refine R_aload_n rfl rfl ?_
    refine R_getfield rfl rfl (by omega) t0 rfl ?_
    refine R_vcall rfl rfl ⟨(by omega), _, t0⟩ ⟨Nat.le_of_ble_eq_true rfl, Nat.le_of_ble_eq_true rfl, Nat.zero_le _, Nat.zero_le _⟩ (signAt_T (i := p) hT hN (by omega) (fun z13 hz13 => aRes_i (rest := []) ?_))
    have hr13 := sg_r hT (p)
    refine R_s3call rfl rfl ⟨Nat.le_of_ble_eq_true rfl, Nat.le_of_ble_eq_true rfl, Nat.zero_le _, Nat.zero_le _⟩ (isLetter_T ⟨by omega, by omega⟩ (fun z16 hz16 => aRes_i (rest := []) ?_))
    rw [hz13] at hz16
    have h01 := bI01 (isLb (sg n tx p))
    refine R_ifeq rfl ⟨by omega, by omega⟩ (fun c19 => ?_) (fun c19 => ?_)
    · have hb := bI_f hz16 (by omega)
      have hq : rlF n tx (r + 1) p G c = (c, p, G) := if_neg (by rw [hb]; decide)
      have hQ2 : ∀ h', isTx h' n tx p → isSt h' 2 G → fr h h' 1 6 → Q (.inl (some (vI (bI (decide (1 ≤ c)))))) h' N := by
        rw [hq] at hQ
        exact hQ
      refine R_iload_n rfl rfl ?_
      refine R_iconst rfl ?_
      refine R_icmplt rfl ⟨by omega, by omega⟩ ⟨by decide, by decide⟩ (fun c55 => ?_) (fun c55 => ?_)
      · refine R_iconst rfl ?_
        exact R_ireturn rfl (fun _ => by omega) (Nat.zero_le _) (Nat.zero_le _) (by rw [decide_eq_false (show ¬ 1 ≤ c by omega)] at hQ2; exact hQ2 h hT hS fr.refl)
      · refine R_iconst rfl ?_
        refine R_goto rfl ?_
        exact R_ireturn rfl (fun _ => by omega) (Nat.zero_le _) (Nat.zero_le _) (by rw [decide_eq_true (show  1 ≤ c by omega)] at hQ2; exact hQ2 h hT hS fr.refl)
    · have hb := bI_t hz16 c19
      have hpn := let_lt hb
      have hq : rlF n tx (r + 1) p G c = rlF n tx r (p + 1) (lenN G (sg n tx p)) (c + 1) := if_pos hb
      rw [hq] at hQ
      refine R_aload_n rfl rfl ?_
      refine R_getfield rfl rfl (by omega) t0 rfl ?_
      refine R_aload_n rfl rfl ?_
      refine R_aload_n rfl rfl ?_
      refine R_getfield rfl rfl (by omega) t0 rfl ?_
      refine R_vcall rfl rfl ⟨(by omega), _, t0⟩ ⟨Nat.le_of_ble_eq_true rfl, Nat.le_of_ble_eq_true rfl, Nat.zero_le _, Nat.zero_le _⟩ (signAt_T (i := p) hT hN (by omega) (fun z31 hz31 => aRes_i (rest := [_]) ?_))
      have hr31 := sg_r hT (p)
      refine R_vcall rfl rfl ⟨(by omega), hS.rcv⟩ ⟨Nat.le_of_ble_eq_true rfl, Nat.le_of_ble_eq_true rfl, Nat.zero_le _, Nat.zero_le _⟩ (lengthenLine_T (z := z31) hS hG.wk (by omega) (by omega) (fun h1 hS1 f1 => aRes_v (rest := []) ?_))
      rw [hz31] at hS1
      have hT1 := isTx_pos (p + 1) (isTx_fr hT (f1 1 (by omega)) (f1 7 (by omega)))
      refine R_aload_n rfl rfl ?_
      refine R_dup rfl rfl ?_
      refine R_getfield rfl rfl (by omega) ((f1 1 (by omega)).trans t0) rfl ?_
      refine R_iconst rfl ?_
      refine R_iadd rfl ?_
      refine R_putfield rfl rfl (by omega) ((f1 1 (by omega)).trans t0) (Nat.le_of_ble_eq_true rfl) (by first | trivial | exact trivial | omega) ?_
      refine R_iinc (lv' := [_, _]) rfl rfl rfl ?_
      refine R_goto rfl ?_
      exact ih r (by omega) (c + 1) (p + 1) _ _ (by omega) (by omega) hT1 (isSt_fr hS1 (fun j h1 h2 => va_up_ne _ _ (by omega))) (ok_lenN hG (by omega) (isLb_let hb)) (by show qN G + 1 = c + 1; omega) (fun h2 q1 q2 q3 => hQ h2 q1 q2 (fun j hj => (q3 j hj).trans ((va_up_ne _ _ (by omega)).trans (f1 j (by omega)))))
theorem readLine_T {d N n p : Nat} {h : AH} {tx : Nat → Int} {Q : AQ} (hT : isTx h n tx p) (hN : 8 ≤ N) (hp : p ≤ n) {G : Gr} (hS : isSt h 2 G) (hG : okG G) (hq0 : qN G = 0) (hQ : ∀ h', isTx h' n tx (rlF n tx 6 p G 0).2.1 → isSt h' 2 (rlF n tx 6 p G 0).2.2 → fr h h' 1 6 → Q (.inl (some (vI (bI (decide (1 ≤ (rlF n tx 6 p G 0).1)))))) h' N) : T (d + 4) 89 [vR 1] h N Q := by
  refine T_body (I := mi_X7_readLine) (lv := [_, _]) rfl (Nat.le_of_ble_eq_true rfl) rfl ?_
  refine R_iconst rfl ?_
  refine R_istore_n (lv' := [_, _]) rfl rfl ?_
  exact rl_loop hN 6 0 p h G rfl hp hT hS hG hq0 hQ
