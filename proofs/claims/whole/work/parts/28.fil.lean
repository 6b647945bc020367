/-! ===== writing a word into an entry, and erasing it ===== -/
theorem setL_is {G : Gr} {L : Nat → Int} {x : Nat} {z : Int} : setL (setLs G L) x z = setLs G (va_up L x z) := rfl
def filL (G : Gr) (e w : Nat) : Nat → Nat → (Nat → Int) → (Nat → Int)
  | 0, _, L => L
  | r + 1, i, L => filL G e w r (i + 1) (va_up L (cel G e i) (qWl G w i))
def goB (G : Gr) (e : Nat) (L : Nat → Int) (x : Nat) : Bool := !decide (L x = 0) && (decide (acr G (!eB G e) x = -9) || !decide (emG (setLs G L) (acr G (!eB G e) x).toNat = 0))
def claF (G : Gr) (e : Nat) : Nat → Nat → (Nat → Int) → Nat → (Nat → Int) × Nat
  | 0, _, L, a => (L, a)
  | r + 1, i, L, a => if goB G e L (cel G e i) = true then claF G e r (i + 1) (va_up L (cel G e i) 0) (a + 1) else claF G e r (i + 1) L a
def okL (G : Gr) (L : Nat → Int) : Prop := ∀ c, c < qM G → L c = 0 ∨ isLet (L c)
theorem ok_fil {G : Gr} (hG : okG G) {e w : Nat} (hw : w < qW G) : ∀ r i L, i + r ≤ qWn G w → okL G L → okL G (filL G e w r i L)
  | 0, _, L, _, h => h
  | r + 1, i, L, hi, h => ok_fil hG hw r (i + 1) _ (by omega) (up_let h (Or.inr (hG.2.2.2.2.2.2.1 w i hw (by omega))))
theorem ok_cla {G : Gr} {e : Nat} : ∀ r i L a, okL G L → okL G (claF G e r i L a).1
  | 0, _, L, _, h => h
  | r + 1, i, L, a, h => by
    simp only [claF]
    by_cases q : goB G e L (cel G e i) = true
    · rw [if_pos q]
      exact ok_cla r (i + 1) _ _ (up_let h (Or.inl rfl))
    · rw [if_neg q]
      exact ok_cla r (i + 1) _ _ h
theorem isPz_L {h h' : AH} {k : Nat} {G : Gr} {L L' : Nat → Int} (hP : isPz h k (setLs G L)) (hS : isSt h' (k + 1) (setLs G L')) (hf : fr h h' (k + 1) 5) : isPz h' k (setLs G L') := isPz_S (G := setLs G L) (G' := setLs G L') ⟨rfl, rfl, rfl, rfl⟩ hP hS hf
theorem fil_loop {d k N : Nat} {G : Gr} {Q : AQ} (hG0 : okG G) (hN : k + 12 ≤ N) {e : Nat} (he : e < nE G) {w : Nat} (hw : w < qW G) (hl : eN G e = qWn G w) {y : Int} : ∀ (r i : Nat) (h : AH) (L : Nat → Int), i + r = eN G e → isPz h k (setLs G L) → okL G L → (∀ h', isPz h' k (setLs G (filL G e w r i L)) → fr h h' k 12 → Q (.inl (some (vI y))) h' N) → Run mi_X4_fillEntry (T (d + 3)) Q 9 [some (vR k), some (vI e), some (vI w), some (vI y), some (vI i)] [] h N 0 0 := by
  intro r
  induction r using Nat.strongRecOn with
  | ind r ih =>
  intro i h L hr hP hL hQ
  have hG := ok_setLs hG0 hL
  obtain ⟨F, Ln, Dn, Ac, Dw, Cl, ⟨p0, hS, p2, p3, p4, p5, p6, p7⟩, hE, hAc, hDw, hCl⟩ := id hP
  obtain ⟨hm4, hm36⟩ := hG0.m
  have hmS : qM (setLs G L) = qM G := rfl
  have hnS : nE (setLs G L) = nE G := nE_S setLs_S
  have hn36 := nE36 hG0
  have he6 := eN_6 hG0 he
  have hW8 := hG0.2.2.2.2.1
  have heS : e < nE (setLs G L) := by omega
  have hNe : eN (setLs G L) e = eN G e := eN_S setLs_S e
  obtain ⟨rb, bb, s0⟩ := hS.e0
  refine R_iload rfl rfl ?_
  refine R_aload_n rfl rfl ?_
  refine R_iload_n rfl rfl ?_
  refine R_vcall rfl rfl ⟨(by omega), _, p0⟩ ⟨Nat.le_of_ble_eq_true rfl, Nat.le_of_ble_eq_true rfl, Nat.zero_le _, Nat.zero_le _⟩ (lengthOf_T hP hG hN heS (fun z13 hz13 => aRes_i (rest := [_]) ?_))
  refine R_icmpge rfl ⟨by omega, by omega⟩ ⟨by omega, by omega⟩ (fun c16 => ?_) (fun c16 => ?_)
  · have hr0 : r = 0 := by omega
    subst hr0
    refine R_iload_n rfl rfl ?_
    exact R_ireturn rfl (fun q => absurd q (by decide)) (Nat.zero_le _) (Nat.zero_le _) (hQ h hP fr.refl)
  · obtain ⟨r, rfl⟩ : ∃ r1, r = r1 + 1 := ⟨r - 1, by omega⟩
    refine R_aload_n rfl rfl ?_
    refine R_getfield rfl rfl (by omega) p0 rfl ?_
    refine R_aload_n rfl rfl ?_
    refine R_iload_n rfl rfl ?_
    refine R_iload rfl rfl ?_
    refine R_vcall rfl rfl ⟨(by omega), _, p0⟩ ⟨Nat.le_of_ble_eq_true rfl, Nat.le_of_ble_eq_true rfl, Nat.zero_le _, Nat.zero_le _⟩ (cellOf_T hP hG hN heS (i := i) rfl (fun z27 hz27 => aRes_i (rest := [_]) ?_))
    rw [cel_S setLs_S] at hz27
    have hcl27 := cel_lt hG0 he (i := i) (by omega)
    refine R_aload_n rfl rfl ?_
    refine R_getfield rfl rfl (by omega) p0 rfl ?_
    refine R_iload_n rfl rfl ?_
    refine R_iload rfl rfl ?_
    refine R_vcall rfl rfl ⟨(by omega), hS.rcv⟩ ⟨Nat.le_of_ble_eq_true rfl, Nat.le_of_ble_eq_true rfl, Nat.zero_le _, Nat.zero_le _⟩ (letterOfWord_T hS hG (by omega) ⟨by omega, by omega⟩ ⟨by omega, by omega⟩ (fun z37 hz37 => aRes_i (rest := [_, _]) ?_))
    have hw37 : z37 = qWl G w i := by
      rcases hz37 with ⟨-, -, -, -, q⟩ | ⟨q, -⟩
      · exact q
      · exact absurd ⟨by omega, by show (w : Int) < (qW G : Int); omega, by omega, Int.ofNat_lt.mpr (show i < qWn G w by omega)⟩ q
    have hlw37 : isLet (qWl G w i) := hG0.2.2.2.2.2.2.1 _ _ (by omega) (by omega)
    refine R_vcall rfl rfl ⟨(by omega), hS.rcv⟩ ⟨Nat.le_of_ble_eq_true rfl, Nat.le_of_ble_eq_true rfl, Nat.zero_le _, Nat.zero_le _⟩ (setLetter_T hS hG (by omega) ⟨by omega, by omega⟩ (fun h1 hS1 f1 => aRes_v (rest := []) ?_))
    rw [hw37, show z27.toNat = cel G e i by omega, setL_is] at hS1
    have hP1 := isPz_L hP hS1 f1
    refine R_iinc (lv' := [_, _, _, _, _]) rfl rfl rfl ?_
    refine R_goto rfl ?_
    exact ih r (by omega) (i + 1) h1 (va_up L (cel G e i) (qWl G w i)) (by omega) hP1 (up_let hL (Or.inr hlw37)) (fun h2 q1 q2 => hQ h2 q1 ((f1.wide (by omega)).trans q2))
theorem fillEntry_T {d k N : Nat} {h : AH} {G : Gr} {Q : AQ} (hP : isPz h k G) (hG : okG G) (hN : k + 12 ≤ N) {e : Nat} (he : e < nE G) {w : Nat} (hw : w < qW G) (hl : eN G e = qWn G w) (hQ : ∀ h', isPz h' k (setLs G (filL G e w (eN G e) 0 (qL G))) → fr h h' k 12 → Q (.inl (some (vI ((emG G e : Nat) : Int)))) h' N) : T (d + 4) 45 [vR k, vI e, vI w] h N Q := by
  obtain ⟨F, Ln, Dn, Ac, Dw, Cl, ⟨p0, hS, p2, p3, p4, p5, p6, p7⟩, hE, hAc, hDw, hCl⟩ := id hP
  obtain ⟨hm4, hm36⟩ := hG.m
  have hn36 := nE36 hG
  have hnE : cnt G (qM G) = nE G := rfl
  obtain ⟨rb, bb, s0⟩ := hS.e0
  refine T_body (I := mi_X4_fillEntry) (lv := [_, _, _, _, _]) rfl (Nat.le_of_ble_eq_true rfl) rfl ?_
  refine R_aload_n rfl rfl ?_
  refine R_iload_n rfl rfl ?_
  refine R_vcall rfl rfl ⟨(by omega), _, p0⟩ ⟨Nat.le_of_ble_eq_true rfl, Nat.le_of_ble_eq_true rfl, Nat.zero_le _, Nat.zero_le _⟩ (emptyIn_T (e := e) hP hG hN (by omega) (fun z2 hz2 => aRes_i (rest := []) ?_))
  have hem2 : emG G (e) ≤ 6 := by
    have q1 := ct_le (p := pEm G (e)) (eN G (e)) 0
    have q2 := eN_6 hG (e := e) (by omega)
    show ctF _ _ _ ≤ 6
    omega
  refine R_istore_n (lv' := [_, _, _, _, _]) rfl rfl ?_
  refine R_iconst rfl ?_
  refine R_istore (lv' := [_, _, _, _, _]) rfl rfl ?_
  rw [hz2]
  exact fil_loop hG hN he hw hl (eN G e) 0 h (qL G) (Nat.zero_add _) hP hG.2.2.1 hQ
theorem cla_loop {d k N : Nat} {G : Gr} {Q : AQ} (hG0 : okG G) (hN : k + 12 ≤ N) {e : Nat} (he : e < nE G) : ∀ (r i a : Nat) (h : AH) (L : Nat → Int) (l4 l5 l6 : Option AV), i + r = eN G e → a ≤ i → isPz h k (setLs G L) → okL G L → (∀ h', isPz h' k (setLs G (claF G e r i L a).1) → fr h h' k 12 → Q (.inl (some (vI (((claF G e r i L a).2 : Nat) : Int)))) h' N) → Run mi_X4_clearEntry (T (d + 4)) Q 4 [some (vR k), some (vI e), some (vI a), some (vI i), l4, l5, l6] [] h N 0 0 := by
  intro r
  induction r using Nat.strongRecOn with
  | ind r ih =>
  intro i a h L l4 l5 l6 hr hai hP hL hQ
  have hG := ok_setLs hG0 hL
  obtain ⟨F, Ln, Dn, Ac, Dw, Cl, ⟨p0, hS, p2, p3, p4, p5, p6, p7⟩, hE, hAc, hDw, hCl⟩ := id hP
  obtain ⟨hm4, hm36⟩ := hG0.m
  have hmS : qM (setLs G L) = qM G := rfl
  have hnS : nE (setLs G L) = nE G := nE_S setLs_S
  have hn36 := nE36 hG0
  have he6 := eN_6 hG0 he
  have hW8 := hG0.2.2.2.2.1
  have heS : e < nE (setLs G L) := by omega
  have hNe : eN (setLs G L) e = eN G e := eN_S setLs_S e
  obtain ⟨rb, bb, s0⟩ := hS.e0
  refine R_iload_n rfl rfl ?_
  refine R_aload_n rfl rfl ?_
  refine R_iload_n rfl rfl ?_
  refine R_vcall rfl rfl ⟨(by omega), _, p0⟩ ⟨Nat.le_of_ble_eq_true rfl, Nat.le_of_ble_eq_true rfl, Nat.zero_le _, Nat.zero_le _⟩ (lengthOf_T hP hG hN heS (fun z7 hz7 => aRes_i (rest := [_]) ?_))
  refine R_icmpge rfl ⟨by omega, by omega⟩ ⟨by omega, by omega⟩ (fun c10 => ?_) (fun c10 => ?_)
  · have hr0 : r = 0 := by omega
    subst hr0
    refine R_iload_n rfl rfl ?_
    exact R_ireturn rfl (fun q => absurd q (by decide)) (Nat.zero_le _) (Nat.zero_le _) (hQ h hP fr.refl)
  · obtain ⟨r, rfl⟩ : ∃ r1, r = r1 + 1 := ⟨r - 1, by omega⟩
    refine R_aload_n rfl rfl ?_
    refine R_iload_n rfl rfl ?_
    refine R_iload_n rfl rfl ?_
    refine R_vcall rfl rfl ⟨(by omega), _, p0⟩ ⟨Nat.le_of_ble_eq_true rfl, Nat.le_of_ble_eq_true rfl, Nat.zero_le _, Nat.zero_le _⟩ (cellOf_T hP hG hN heS (i := i) rfl (fun z16 hz16 => aRes_i (rest := []) ?_))
    rw [cel_S setLs_S] at hz16
    have hcl16 := cel_lt hG0 he (i := i) (by omega)
    have hJ40 : ∀ z37 : Int, z37 = acr G (!eB G e) (cel G e i) → ((z37 = -9 ∧ inE G (!eB G e) (cel G e i) = false) ∨ (∃ n : Nat, z37 = n ∧ n < nE G ∧ inE G (!eB G e) (cel G e i) = true)) → Run mi_X4_clearEntry (T (d + 4)) Q 40 [some (vR k), some (vI e), some (vI a), some (vI i), some (vI z16), l5, l6] [vI z37] h N 0 0 := by
      intro z37 hc37 hac
      have hJ65 : ∀ y : Int, (y = 0 ∨ y = 1) → (¬ y = 0 → goB G e L (cel G e i) = false) → (y = 0 → ¬ L (cel G e i) = 0 → goB G e L (cel G e i) = true) → Run mi_X4_clearEntry (T (d + 4)) Q 65 [some (vR k), some (vI e), some (vI a), some (vI i), some (vI z16), some (vI z37), l6] [vI y] h N 0 0 := by
        intro y hy hg1 hg0
        refine R_istore (lv' := [_, _, _, _, _, _, _]) rfl rfl ?_
        refine R_iload rfl rfl ?_
        refine R_ifne rfl ⟨by omega, by omega⟩ (fun c69 => ?_) (fun c69 => ?_)
        · have hgo : goB G e L (cel G e i) = false := hg1 c69
          refine R_iinc (lv' := [_, _, _, _, _, _, _]) rfl rfl rfl ?_
          refine R_goto rfl ?_
          first | (exact ih r (by omega) (i + 1) (a + 1) h1 (va_up L (cel G e i) 0) _ _ _ (by omega) (by omega) hP1 (up_let hL (Or.inl rfl)) (fun h2 q1 q2 => by
               simp only [claF, hgo, if_true] at hQ
               exact hQ h2 q1 ((f1.wide (by omega)).trans q2))) | (exact ih r (by omega) (i + 1) a h L _ _ _ (by omega) (by omega) hP hL (fun h2 q1 q2 => by
               simp only [claF, hgo, if_false, Bool.false_eq_true] at hQ
               exact hQ h2 q1 q2))
        · refine R_aload_n rfl rfl ?_
          refine R_getfield rfl rfl (by omega) p0 rfl ?_
          refine R_iload rfl rfl ?_
          refine R_vcall rfl rfl ⟨(by omega), hS.rcv⟩ ⟨Nat.le_of_ble_eq_true rfl, Nat.le_of_ble_eq_true rfl, Nat.zero_le _, Nat.zero_le _⟩ (letterAt_T hS hG (by omega) ⟨by omega, by omega⟩ (fun z78 hz78 => aRes_i (rest := []) ?_))
          have hl78 : z78 = L (cel G e i) := by
            rcases hz78 with ⟨-, -, q⟩ | ⟨q, -⟩
            · exact q.trans (congrArg L (by omega))
            · exact absurd (by omega) q
          have hlr78 : 0 ≤ z78 ∧ z78 ≤ 122 := by
            rcases hL (cel G e i) (by omega) with q | q
            · omega
            · obtain ⟨q1, q2⟩ := q
              omega
          refine R_ifeq rfl ⟨by omega, by omega⟩ (fun c81 => ?_) (fun c81 => ?_)
          · have hgo : goB G e L (cel G e i) = false := by
              unfold goB
              rw [decide_eq_true (show L (cel G e i) = 0 by omega)]
              rfl
            refine R_iinc (lv' := [_, _, _, _, _, _, _]) rfl rfl rfl ?_
            refine R_goto rfl ?_
            first | (exact ih r (by omega) (i + 1) (a + 1) h1 (va_up L (cel G e i) 0) _ _ _ (by omega) (by omega) hP1 (up_let hL (Or.inl rfl)) (fun h2 q1 q2 => by
                 simp only [claF, hgo, if_true] at hQ
                 exact hQ h2 q1 ((f1.wide (by omega)).trans q2))) | (exact ih r (by omega) (i + 1) a h L _ _ _ (by omega) (by omega) hP hL (fun h2 q1 q2 => by
                 simp only [claF, hgo, if_false, Bool.false_eq_true] at hQ
                 exact hQ h2 q1 q2))
          · have hgo : goB G e L (cel G e i) = true := hg0 (by omega) (by omega)
            refine R_aload_n rfl rfl ?_
            refine R_getfield rfl rfl (by omega) p0 rfl ?_
            refine R_iload rfl rfl ?_
            refine R_iconst rfl ?_
            refine R_vcall rfl rfl ⟨(by omega), hS.rcv⟩ ⟨Nat.le_of_ble_eq_true rfl, Nat.le_of_ble_eq_true rfl, Nat.zero_le _, Nat.zero_le _⟩ (setLetter_T hS hG (by omega) ⟨by omega, by omega⟩ (fun h1 hS1 f1 => aRes_v (rest := []) ?_))
            rw [show z16.toNat = cel G e i by omega, setL_is] at hS1
            have hP1 := isPz_L hP hS1 f1
            refine R_iinc (lv' := [_, _, _, _, _, _, _]) rfl rfl rfl ?_
            refine R_iinc (lv' := [_, _, _, _, _, _, _]) rfl rfl rfl ?_
            refine R_goto rfl ?_
            first | (exact ih r (by omega) (i + 1) (a + 1) h1 (va_up L (cel G e i) 0) _ _ _ (by omega) (by omega) hP1 (up_let hL (Or.inl rfl)) (fun h2 q1 q2 => by
                 simp only [claF, hgo, if_true] at hQ
                 exact hQ h2 q1 ((f1.wide (by omega)).trans q2))) | (exact ih r (by omega) (i + 1) a h L _ _ _ (by omega) (by omega) hP hL (fun h2 q1 q2 => by
                 simp only [claF, hgo, if_false, Bool.false_eq_true] at hQ
                 exact hQ h2 q1 q2))
      refine R_istore (lv' := [_, _, _, _, _, _, _]) rfl rfl ?_
      refine R_aload_n rfl rfl ?_
      refine R_iload rfl rfl ?_
      refine R_vcall rfl rfl ⟨(by omega), _, p0⟩ ⟨Nat.le_of_ble_eq_true rfl, Nat.le_of_ble_eq_true rfl, Nat.zero_le _, Nat.zero_le _⟩ (hasEntry_T hP hG hN ⟨by rcases hac with ⟨q, -⟩ | ⟨n, q, q2, -⟩ <;> omega, by rcases hac with ⟨q, -⟩ | ⟨n, q, q2, -⟩ <;> omega⟩ (fun z45 hz45 => aRes_i (rest := []) ?_))
      rw [hnS] at hz45
      refine R_ifeq rfl ⟨by omega, by omega⟩ (fun c48 => ?_) (fun c48 => ?_)
      · have hx9 : acr G (!eB G e) (cel G e i) = -9 := by
          rcases hac with ⟨q, -⟩ | ⟨n, q, q2, -⟩ <;> omega
        have hj0 : ¬ L (cel G e i) = 0 → goB G e L (cel G e i) = true := fun q => by
          unfold goB
          rw [hx9, decide_eq_false q]
          rfl
        refine R_iconst rfl ?_
        exact hJ65 0 (Or.inl rfl) (fun q => absurd rfl q) (fun _ => hj0)
      · obtain ⟨n, hn9, hn8⟩ : ∃ n : Nat, z37 = n ∧ n < nE G := by
          rcases hac with ⟨q, -⟩ | ⟨n, q, q2, -⟩
          · omega
          · exact ⟨n, q, q2⟩
        subst hn9
        have hx9 : ¬ acr G (!eB G e) (cel G e i) = -9 := by omega
        have hx8 : (acr G (!eB G e) (cel G e i)).toNat = n := by omega
        refine R_aload_n rfl rfl ?_
        refine R_iload rfl rfl ?_
        refine R_vcall rfl rfl ⟨(by omega), _, p0⟩ ⟨Nat.le_of_ble_eq_true rfl, Nat.le_of_ble_eq_true rfl, Nat.zero_le _, Nat.zero_le _⟩ (emptyIn_T (e := n) hP hG hN (by omega) (fun z54 hz54 => aRes_i (rest := []) ?_))
        have hem54 : emG (setLs G L) n ≤ 6 := by
          have q1 := ct_le (p := pEm (setLs G L) n) (eN (setLs G L) n) 0
          have q2 := eN_6 hG (e := n) (by omega)
          show ctF _ _ _ ≤ 6
          omega
        refine R_ifne rfl ⟨by omega, by omega⟩ (fun c57 => ?_) (fun c57 => ?_)
        · have hj0 : ¬ L (cel G e i) = 0 → goB G e L (cel G e i) = true := fun q => by
            unfold goB
            rw [hx8, decide_eq_false q, decide_eq_false (show ¬ emG (setLs G L) n = 0 by omega)]
            simp
          refine R_iconst rfl ?_
          exact hJ65 0 (Or.inl rfl) (fun q => absurd rfl q) (fun _ => hj0)
        · have hj1 : goB G e L (cel G e i) = false := by
            unfold goB
            rw [hx8, decide_eq_false hx9, decide_eq_true (show emG (setLs G L) n = 0 by omega)]
            simp
          refine R_iconst rfl ?_
          refine R_goto rfl ?_
          exact hJ65 1 (Or.inr rfl) (fun _ => hj1) (fun q => absurd q (by decide))
    refine R_istore (lv' := [_, _, _, _, _, _, _]) rfl rfl ?_
    refine R_aload_n rfl rfl ?_
    refine R_iload rfl rfl ?_
    refine R_aload_n rfl rfl ?_
    refine R_iload_n rfl rfl ?_
    refine R_vcall rfl rfl ⟨(by omega), _, p0⟩ ⟨Nat.le_of_ble_eq_true rfl, Nat.le_of_ble_eq_true rfl, Nat.zero_le _, Nat.zero_le _⟩ (isDown_T hP hG hN heS (fun z26 hz26 => aRes_i (rest := [_, _]) ?_))
    rw [eB_S setLs_S] at hz26
    have hd01 := bI01 (eB G e)
    refine R_ifne rfl ⟨by omega, by omega⟩ (fun c29 => ?_) (fun c29 => ?_)
    · have hbe : (!eB G e) = false := by rw [bI_t hz26 c29]; rfl
      refine R_iconst rfl ?_
      refine R_vcall rfl rfl ⟨(by omega), _, p0⟩ ⟨Nat.le_of_ble_eq_true rfl, Nat.le_of_ble_eq_true rfl, Nat.zero_le _, Nat.zero_le _⟩ (entryAt_T (b := false) hP hG hN (x := cel G e i) (by omega) (by omega) (fun z37 hz37 => aRes_i (rest := []) ?_))
      rw [acr_S setLs_S] at hz37
      have hc37 : z37 = acr G (!eB G e) (cel G e i) := by
        rw [hbe]
        exact hz37
      have hac := acr_cases hG0 (b := !eB G e) (x := cel G e i) (by omega)
      rw [← hc37] at hac
      exact hJ40 z37 hc37 hac
    · have hbe : (!eB G e) = true := by rw [bI_f hz26 (by omega)]; rfl
      refine R_iconst rfl ?_
      refine R_goto rfl ?_
      refine R_vcall rfl rfl ⟨(by omega), _, p0⟩ ⟨Nat.le_of_ble_eq_true rfl, Nat.le_of_ble_eq_true rfl, Nat.zero_le _, Nat.zero_le _⟩ (entryAt_T (b := true) hP hG hN (x := cel G e i) (by omega) (by omega) (fun z37 hz37 => aRes_i (rest := []) ?_))
      rw [acr_S setLs_S] at hz37
      have hc37 : z37 = acr G (!eB G e) (cel G e i) := by
        rw [hbe]
        exact hz37
      have hac := acr_cases hG0 (b := !eB G e) (x := cel G e i) (by omega)
      rw [← hc37] at hac
      exact hJ40 z37 hc37 hac
theorem clearEntry_T {d k N : Nat} {h : AH} {G : Gr} {Q : AQ} (hP : isPz h k G) (hG : okG G) (hN : k + 12 ≤ N) {e : Nat} (he : e < nE G) (hQ : ∀ h', isPz h' k (setLs G (claF G e (eN G e) 0 (qL G) 0).1) → fr h h' k 12 → Q (.inl (some (vI (((claF G e (eN G e) 0 (qL G) 0).2 : Nat) : Int)))) h' N) : T (d + 5) 46 [vR k, vI e] h N Q := by
  obtain ⟨F, Ln, Dn, Ac, Dw, Cl, ⟨p0, hS, p2, p3, p4, p5, p6, p7⟩, hE, hAc, hDw, hCl⟩ := id hP
  obtain ⟨hm4, hm36⟩ := hG.m
  have hn36 := nE36 hG
  have hnE : cnt G (qM G) = nE G := rfl
  obtain ⟨rb, bb, s0⟩ := hS.e0
  refine T_body (I := mi_X4_clearEntry) (lv := [_, _, _, _, _, _, _]) rfl (Nat.le_of_ble_eq_true rfl) rfl ?_
  refine R_iconst rfl ?_
  refine R_istore_n (lv' := [_, _, _, _, _, _, _]) rfl rfl ?_
  refine R_iconst rfl ?_
  refine R_istore_n (lv' := [_, _, _, _, _, _, _]) rfl rfl ?_
  exact cla_loop hG hN he (eN G e) 0 0 h (qL G) _ _ _ (Nat.zero_add _) (Nat.le_refl _) hP hG.2.2.1 hQ
