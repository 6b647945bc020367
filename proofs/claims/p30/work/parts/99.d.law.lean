/-! ===== the law, whole ===== -/
set_option maxRecDepth 20000 in
theorem law_u2 {d L N k n c : Nat} {xs : Nat → Int} {h : AH} {Ga G G0 : Gr} {n9 : Nat} {tx : Nat → Int} {b : Bool} {z7 z9 z10 z11 za z13 : Int} (hS : lS L xs h (yh (setBr G c b (!qB G b c)) [Ga, G] n9 tx) (setBr G c b (!qB G b c)) N) (hc : c < qM G) (hza : za = ((ofB b + c : Nat) : Int)) (hz13 : z13 = bI (qB G b c)) (hk : k ≤ 15000) (hn : n ≤ 150000) (K : ∀ h1 : AH, lS L xs h1 (yh G [Ga] n9 tx) G N → Run mi_L_law (T (d + 40)) qLaw 514 [some (vR aRO), some (vR 0), some (vR 122), some (vR 123), some (vR 124), some (vR 125), some (vI ((qW G0 : Nat) : Int)), some (vI z7), some (vI (c : Int)), some (vI z9), some (vI z10), some (vI z11), some (vI za), some (vI z13)] [] h1 N (k + 1) (n + 6)) : Run mi_L_law (T (d + 40)) qLaw 498 [some (vR aRO), some (vR 0), some (vR 122), some (vR 123), some (vR 124), some (vR 125), some (vI ((qW G0 : Nat) : Int)), some (vI z7), some (vI (c : Int)), some (vI z9), some (vI z10), some (vI z11), some (vI za), some (vI z13)] [] h N k n := by
  have hRO : aRO = 1000 := rfl
  have hNb := hS.2.2.2.2.2.2.2.2.2.2
  obtain ⟨w, m0, hw0, hw1, wL, wE, wS⟩ := id hS.2.2.1
  have hG := hS.2.2.2.2.2.1
  have hqm : qM (setBr G c b (!qB G b c)) = qM G := by cases b <;> rfl
  have hm16 := sm4_m hG
  rw [hqm] at hm16
  have hx49 : ofB b + c ≤ 49 ∧ 18 ≤ ofB b + c := by
    cases b
    · show 18 + c ≤ 49 ∧ 18 ≤ 18 + c
      omega
    · show 34 + c ≤ 49 ∧ 18 ≤ 34 + c
      omega
  have hix : za.toNat = ofB b + c := by omega
  refine R_aload_n rfl rfl ?_
  refine R_iload rfl rfl ?_
  refine R_iload rfl rfl ?_
  refine R_iastore rfl (by omega) m0 ⟨by omega, by omega, by omega⟩ ?_
  refine R_aload_n rfl rfl ?_
  refine R_vcall rfl rfl ⟨(by omega), _, ((va_up_ne _ _ (by first | exact kne rfl | exact kz | exact kz.symm | omega)).trans hS.1.1)⟩ ⟨Nat.le_of_ble_eq_true rfl, Nat.le_of_ble_eq_true rfl, (show _ ≤ 600130 by omega), (show _ ≤ 7301079 by omega)⟩ (undo_C (isFace_up hS.1 (fun j hj => va_up_ne _ _ hj)) (by omega) (fun h1 hF1 ho1 => ?_))
  rw [opUndo_2] at hF1 ⊢
  refine aRes_g (v := vI 1) (Or.inl rfl) ?_
  refine R_iconst rfl ?_
  refine R_icmpeq rfl ⟨by omega, by omega⟩ ⟨by decide, by decide⟩ (fun c509 => ?_) (fun c509 => ?_)
  · refine K h1 (lS_gen hS hF1 rfl (w' := va_up w (ofB b + c) (bI (qB G b c))) ?_ ?_ (fun j hj => (ho1 j (by omega)).trans (va_up_ne _ _ (by omega))) (by cases b <;> rfl) (by cases b <;> rfl) (by cases b <;> rfl) (by cases b <;> rfl) (by cases b <;> rfl) (by cases b <;> rfl) (by cases b <;> rfl))
    · have hb := rwL_bar (b := b) (v := qB G b c) hG ⟨hw0, hw1, wL, wE, wS⟩ (c := c) (by rw [hqm]; exact hc)
      rw [setBr_back] at hb
      exact hb
    · rw [ho1 122 (by decide)]
      show va_up h 122 (eI 64 (va_up w za.toNat z13)) 122 = _
      rw [va_up_self, hix, hz13]
  · exact absurd rfl c509
set_option maxRecDepth 20000 in
theorem law_u1 {d L N k n c : Nat} {xs : Nat → Int} {h : AH} {G G0 : Gr} {n9 : Nat} {tx : Nat → Int} {z7 z9 z10 z11 za : Int} {l13 : Option AV} (hS : lS L xs h (yh (setL G c 97) [G] n9 tx) (setL G c 97) N) (hc : c < qM G) (hz9 : z9 = qL G c) (hq0 : qW G = qW G0) (hk : k ≤ 5000) (hn : n ≤ 50000) : Run mi_L_law (T (d + 40)) qLaw 514 [some (vR aRO), some (vR 0), some (vR 122), some (vR 123), some (vR 124), some (vR 125), some (vI ((qW G0 : Nat) : Int)), some (vI z7), some (vI (c : Int)), some (vI z9), some (vI z10), some (vI z11), some (vI za), l13] [] h N k n := by
  have hRO : aRO = 1000 := rfl
  have hNb := hS.2.2.2.2.2.2.2.2.2.2
  obtain ⟨w, m0, hw0, hw1, wL, wE, wS⟩ := id hS.2.2.1
  have hG := hS.2.2.2.2.2.1
  have hm16 : qM G ≤ 16 := (sm4_m hG : qM (setL G c 97) ≤ 16)
  refine R_aload_n rfl rfl ?_
  refine R_iconst rfl ?_
  refine R_iload rfl rfl ?_
  refine R_iadd rfl ?_
  refine R_iload rfl rfl ?_
  refine R_iastore rfl (by omega) m0 ⟨by omega, by omega, by omega⟩ ?_
  refine R_aload_n rfl rfl ?_
  refine R_vcall rfl rfl ⟨(by omega), _, ((va_up_ne _ _ (by first | exact kne rfl | exact kz | exact kz.symm | omega)).trans hS.1.1)⟩ ⟨Nat.le_of_ble_eq_true rfl, Nat.le_of_ble_eq_true rfl, (show _ ≤ 600130 by omega), (show _ ≤ 7301079 by omega)⟩ (undo_C (isFace_up hS.1 (fun j hj => va_up_ne _ _ hj)) (by omega) (fun h1 hF1 ho1 => ?_))
  rw [opUndo_1] at hF1 ⊢
  refine aRes_g (v := vI 0) (Or.inl rfl) ?_
  refine R_ifne rfl ⟨by omega, by omega⟩ (fun c526 => ?_) (fun c526 => ?_)
  · exact absurd rfl c526
  · refine law_c2 (lS_gen hS hF1 rfl (w' := va_up w (2 + c) (qL G c)) ?_ ?_ (fun j hj => (ho1 j (by omega)).trans (va_up_ne _ _ (by omega))) rfl rfl rfl rfl rfl rfl rfl) hq0 (by omega) (by omega)
    · have hb := rwL_let (z := qL G c) ⟨hw0, hw1, wL, wE, wS⟩ hm16 (c := c) hc
      rw [setL_back] at hb
      exact hb
    · rw [ho1 122 (by decide)]
      show va_up h 122 (eI 64 (va_up w ((2 : Int) + (c : Int)).toNat z9)) 122 = _
      rw [va_up_self, show ((2 : Int) + (c : Int)).toNat = 2 + c by omega, hz9]
set_option maxRecDepth 20000 in
theorem law_rim {d N k n c : Nat} {h : AH} {G G0 : Gr} {b : Bool} {z7 z9 za : Int} (hp : qPb G c b = false) (K : Run mi_L_law (T (d + 40)) qLaw 514 [some (vR aRO), some (vR 0), some (vR 122), some (vR 123), some (vR 124), some (vR 125), some (vI ((qW G0 : Nat) : Int)), some (vI z7), some (vI (c : Int)), some (vI z9), some (vI (bI b)), some (vI (bI (!qPb G c b))), some (vI za), none] [] h N k n) : Run mi_L_law (T (d + 40)) qLaw 415 [some (vR aRO), some (vR 0), some (vR 122), some (vR 123), some (vR 124), some (vR 125), some (vI ((qW G0 : Nat) : Int)), some (vI z7), some (vI (c : Int)), some (vI z9), some (vI (bI b)), some (vI (bI (!qPb G c b))), some (vI za), none] [] h N k n := by
  have hr9 : bI (!qPb G c b) = 1 := by
    rw [hp]
    rfl
  refine R_iload rfl rfl ?_
  refine R_ifne rfl ⟨by omega, by omega⟩ (fun c417 => ?_) (fun c417 => ?_)
  · exact K
  · exact absurd (show bI (!qPb G c b) = 0 by omega) (by rw [hp]; decide)
set_option maxRecDepth 20000 in
theorem law_act {d L N k n : Nat} {xs : Nat → Int} {h : AH} {G G0 : Gr} {n9 : Nat} {tx : Nat → Int} {z7 z8 : Int} (hS : lS L xs h (yh G [] n9 tx) G N) (hq0 : qW G = qW G0) (hN5 : N ≤ 560) (hk : k ≤ 3000) (hn : n ≤ 30000) : Run mi_L_law (T (d + 40)) qLaw 257 [some (vR aRO), some (vR 0), some (vR 122), some (vR 123), some (vR 124), some (vR 125), some (vI ((qW G0 : Nat) : Int)), some (vI z7), some (vI z8), none, none, none, none, none] [] h N k n := by
  refine law_pu hS (by omega) (by omega) (fun h1 c hc hS1 => ?_)
  refine law_c1 hS1 hq0 (by omega) (by omega) (fun h2 hS2 => ?_)
  refine law_b1 hS2 (c := c) hc (by omega) (by omega) (fun b => ?_)
  refine law_b2 hS2 (c := c) hc (by omega) (by omega) (fun za hza => ?_)
  cases hp : qPb (setL G c 97) c b with
  | false =>
    rw [← hp]
    exact law_rim hp (law_u1 hS2 hc rfl hq0 (by omega) (by omega))
  | true =>
    rw [← hp]
    cases hqb : qB (setL G c 97) b c with
    | true =>
      have hqq : (!qB (setL G c 97) b c) = false := by rw [hqb]; rfl
      refine law_ba_true hS2 (c := c) (b := b) hc hp hq0 hza (by omega) (by omega) (by omega) hqb (fun h3 N3 k3 n3 hS3 hN3 hk3 hn3 => ?_)
      rw [← hqq] at hS3
      refine law_u2 hS3 hc hza (by rw [hqb]; rfl) (by omega) (by omega) (fun h4 hS4 => ?_)
      exact law_u1 hS4 hc rfl hq0 (by omega) (by omega)
    | false =>
      have hqq : (!qB (setL G c 97) b c) = true := by rw [hqb]; rfl
      refine law_ba_false hS2 (c := c) (b := b) hc hp hq0 hza (by omega) (by omega) (by omega) hqb (fun h3 N3 k3 n3 hS3 hN3 hk3 hn3 => ?_)
      rw [← hqq] at hS3
      refine law_u2 hS3 hc hza (by rw [hqb]; rfl) (by omega) (by omega) (fun h4 hS4 => ?_)
      exact law_u1 hS4 hc rfl hq0 (by omega) (by omega)
set_option maxRecDepth 20000 in
theorem law_run {d L : Nat} {xs : Nat → Int32} (hL : L ≤ 260) : Run mi_L_law (T (d + 40)) qLaw 0 (aEnt 14 [vR aRO]) [] (hLaw L xs) 0 0 0 := by
  have hRO : aRO = 1000 := rfl
  show Run mi_L_law (T (d + 40)) qLaw 0 [some (vR aRO), none, none, none, none, none, none, none, none, none, none, none, none, none] [] (hLaw L xs) 0 0 0
  have hw0 : wfH 0 (hLaw L xs) := fun k hk => absurd hk (Nat.not_lt_zero _)
  have g1 : hLaw L xs 1001 = eI 8 stepRows := rfl
  have g2 : hLaw L xs 1002 = eI 8 stepCols := rfl
  have g0 : hLaw L xs aRO = eI L (fun j => (xs j).toInt) := rfl
  refine C_new rfl rfl rfl (by decide) rfl (by omega) hw0 ⟨(wfL_s (Or.inr (Nat.le_refl _)) (wfL_n (wfL_n (wfL_n (wfL_n (wfL_n (wfL_n (wfL_n (wfL_n (wfL_n (wfL_n (wfL_n (wfL_n (wfL_n wfL_0)))))))))))))), wfT_0⟩ (Nat.le_of_ble_eq_true rfl) (Nat.le_of_ble_eq_true rfl) (fun h1 e1 o1 x1 => ?_)
  refine R_dup rfl rfl ?_
  refine R_ccall rfl rfl trivial ⟨(Nat.le_of_ble_eq_true rfl), (Nat.le_of_ble_eq_true rfl), (Nat.le_of_ble_eq_true rfl), (Nat.le_of_ble_eq_true rfl)⟩ (iniF_T ⟨(o1 1001 (by omega)).trans g1, (o1 1002 (by omega)).trans g2⟩ e1 x1 (fun h2 hF2 f2 x2 => aRes_n ⟨(wfL_s (Or.inr (Nat.le_refl _)) (wfL_n (wfL_n (wfL_n (wfL_n (wfL_n (wfL_n (wfL_n (wfL_n (wfL_n (wfL_n (wfL_n (wfL_n (wfL_n wfL_0)))))))))))))), (wfT_s (Or.inl (by omega)) wfT_0)⟩ ?_))
  refine R_astore_n (lv' := [_, _, _, _, _, _, _, _, _, _, _, _, _, _]) rfl rfl ?_
  refine R_bipush rfl ?_
  refine C_newI rfl ⟨by decide, by decide⟩ (by omega) x2 ⟨(wfL_s (Or.inr (Nat.le_refl _)) (wfL_s (Or.inl (by omega)) (wfL_n (wfL_n (wfL_n (wfL_n (wfL_n (wfL_n (wfL_n (wfL_n (wfL_n (wfL_n (wfL_n (wfL_n wfL_0)))))))))))))), wfT_0⟩ (Nat.le_of_ble_eq_true rfl) (Nat.le_of_ble_eq_true rfl) (fun h3 e3 o3 x3 => ?_)
  refine R_astore_n (lv' := [_, _, _, _, _, _, _, _, _, _, _, _, _, _]) rfl rfl ?_
  refine R_bipush rfl ?_
  refine C_newI rfl ⟨by decide, by decide⟩ (by omega) x3 ⟨(wfL_s (Or.inr (Nat.le_refl _)) (wfL_s (Or.inl (by omega)) (wfL_s (Or.inl (by omega)) (wfL_n (wfL_n (wfL_n (wfL_n (wfL_n (wfL_n (wfL_n (wfL_n (wfL_n (wfL_n (wfL_n wfL_0)))))))))))))), wfT_0⟩ (Nat.le_of_ble_eq_true rfl) (Nat.le_of_ble_eq_true rfl) (fun h4 e4 o4 x4 => ?_)
  refine R_astore_n (lv' := [_, _, _, _, _, _, _, _, _, _, _, _, _, _]) rfl rfl ?_
  refine R_iconst rfl ?_
  refine C_newI rfl ⟨by decide, by decide⟩ (by omega) x4 ⟨(wfL_s (Or.inr (Nat.le_refl _)) (wfL_s (Or.inl (by omega)) (wfL_s (Or.inl (by omega)) (wfL_s (Or.inl (by omega)) (wfL_n (wfL_n (wfL_n (wfL_n (wfL_n (wfL_n (wfL_n (wfL_n (wfL_n (wfL_n wfL_0)))))))))))))), wfT_0⟩ (Nat.le_of_ble_eq_true rfl) (Nat.le_of_ble_eq_true rfl) (fun h5 e5 o5 x5 => ?_)
  refine R_astore (lv' := [_, _, _, _, _, _, _, _, _, _, _, _, _, _]) rfl rfl ?_
  refine R_iconst rfl ?_
  refine C_newI rfl ⟨by decide, by decide⟩ (by omega) x5 ⟨(wfL_s (Or.inr (Nat.le_refl _)) (wfL_s (Or.inl (by omega)) (wfL_s (Or.inl (by omega)) (wfL_s (Or.inl (by omega)) (wfL_s (Or.inl (by omega)) (wfL_n (wfL_n (wfL_n (wfL_n (wfL_n (wfL_n (wfL_n (wfL_n (wfL_n wfL_0)))))))))))))), wfT_0⟩ (Nat.le_of_ble_eq_true rfl) (Nat.le_of_ble_eq_true rfl) (fun h6 e6 o6 x6 => ?_)
  refine R_astore (lv' := [_, _, _, _, _, _, _, _, _, _, _, _, _, _]) rfl rfl ?_
  have m0 : h6 122 = eI 64 (fun _ => 0) := (o6 _ (by decide)).trans ((o5 _ (by decide)).trans ((o4 _ (by decide)).trans e3))
  have mv : h6 123 = eI 16 (fun _ => 0) := (o6 _ (by decide)).trans ((o5 _ (by decide)).trans e4)
  have ml : h6 124 = eI 4 (fun _ => 0) := (o6 _ (by decide)).trans e5
  have mg : h6 125 = eI 4 (fun _ => 0) := e6
  have hoh : ∀ j, (j < 122 ∨ 1000 ≤ j) → h6 j = h2 j := fun j hj => (o6 j (by omega)).trans ((o5 j (by omega)).trans ((o4 j (by omega)).trans (o3 j (by omega))))
  have hs6 : h6 aRO = eI L (fun j => (xs j).toInt) := (hoh aRO (by omega)).trans ((f2 aRO (by omega)).trans ((o1 aRO (by omega)).trans g0))
  refine R_aload_n rfl rfl ?_
  refine R_iconst rfl ?_
  refine R_iconst rfl ?_
  refine R_aload_n rfl rfl ?_
  refine R_iconst rfl ?_
  refine R_scall rfl rfl ⟨Nat.le_of_ble_eq_true rfl, Nat.le_of_ble_eq_true rfl, Nat.le_of_ble_eq_true rfl, Nat.le_of_ble_eq_true rfl⟩ (cell_L (by first | exact hs6 | exact (va_up_ne _ _ (by decide)).trans hs6 | exact (va_up_ne _ _ (by decide)).trans ((va_up_ne _ _ (by decide)).trans hs6)) (show L < 1000 by omega) ⟨by omega, by omega⟩ (fun z33 => aRes_g (Or.inl rfl) ?_))
  
  refine R_iconst rfl ?_
  refine R_scall rfl rfl ⟨Nat.le_of_ble_eq_true rfl, Nat.le_of_ble_eq_true rfl, Nat.le_of_ble_eq_true rfl, Nat.le_of_ble_eq_true rfl⟩ (low_T ⟨by decide, by decide⟩ (fun z37 hz37 => aRes_g (Or.inl rfl) ?_))
  have hb37 : 0 ≤ z37 ∧ z37 < 3 := by
    rw [hz37]
    exact lowI_b _ (by decide)
  clear hz37
  obtain ⟨R, rfl⟩ : ∃ x : Nat, z37 = (x : Int) := ⟨z37.toNat, by omega⟩
  refine R_iadd rfl ?_
  refine R_iastore rfl (by omega) m0 ⟨by omega, by omega, by omega⟩ ?_
  refine R_aload_n rfl rfl ?_
  refine R_iconst rfl ?_
  refine R_iconst rfl ?_
  refine R_aload_n rfl rfl ?_
  refine R_iconst rfl ?_
  refine R_scall rfl rfl ⟨Nat.le_of_ble_eq_true rfl, Nat.le_of_ble_eq_true rfl, Nat.le_of_ble_eq_true rfl, Nat.le_of_ble_eq_true rfl⟩ (cell_L (by first | exact hs6 | exact (va_up_ne _ _ (by decide)).trans hs6 | exact (va_up_ne _ _ (by decide)).trans ((va_up_ne _ _ (by decide)).trans hs6)) (show L < 1000 by omega) ⟨by omega, by omega⟩ (fun z47 => aRes_g (Or.inl rfl) ?_))
  
  refine R_iconst rfl ?_
  refine R_ishr rfl ?_
  refine R_iconst rfl ?_
  refine R_scall rfl rfl ⟨Nat.le_of_ble_eq_true rfl, Nat.le_of_ble_eq_true rfl, Nat.le_of_ble_eq_true rfl, Nat.le_of_ble_eq_true rfl⟩ (low_T ⟨by decide, by decide⟩ (fun z53 hz53 => aRes_g (Or.inl rfl) ?_))
  have hb53 : 0 ≤ z53 ∧ z53 < 3 := by
    rw [hz53]
    exact lowI_b _ (by decide)
  clear hz53
  obtain ⟨C, rfl⟩ : ∃ x : Nat, z53 = (x : Int) := ⟨z53.toNat, by omega⟩
  refine R_iadd rfl ?_
  refine R_iastore rfl (by omega) (va_up_self _ _ _) ⟨by omega, by omega, by omega⟩ ?_
  refine R_aload_n rfl rfl ?_
  refine R_iconst rfl ?_
  refine R_scall rfl rfl ⟨Nat.le_of_ble_eq_true rfl, Nat.le_of_ble_eq_true rfl, Nat.le_of_ble_eq_true rfl, Nat.le_of_ble_eq_true rfl⟩ (cell_L (by first | exact hs6 | exact (va_up_ne _ _ (by decide)).trans hs6 | exact (va_up_ne _ _ (by decide)).trans ((va_up_ne _ _ (by decide)).trans hs6)) (show L < 1000 by omega) ⟨by omega, by omega⟩ (fun z60 => aRes_g (Or.inl rfl) ?_))
  
  refine R_iconst rfl ?_
  refine R_scall rfl rfl ⟨Nat.le_of_ble_eq_true rfl, Nat.le_of_ble_eq_true rfl, Nat.le_of_ble_eq_true rfl, Nat.le_of_ble_eq_true rfl⟩ (low_T ⟨by decide, by decide⟩ (fun z64 hz64 => aRes_g (Or.inl rfl) ?_))
  have hb64 : 0 ≤ z64 ∧ z64 < 5 := by
    rw [hz64]
    exact lowI_b _ (by decide)
  clear hz64
  obtain ⟨W9, rfl⟩ : ∃ x : Nat, z64 = (x : Int) := ⟨z64.toNat, by omega⟩
  refine R_istore (lv' := [_, _, _, _, _, _, _, _, _, _, _, _, _, _]) rfl rfl ?_
  refine R_aload_n rfl rfl ?_
  refine R_aload_n rfl rfl ?_
  refine R_iload rfl rfl ?_
  refine R_aload_n rfl rfl ?_
  refine R_aload_n rfl rfl ?_
  refine R_aload rfl rfl ?_
  refine R_scall rfl rfl ⟨Nat.le_of_ble_eq_true rfl, Nat.le_of_ble_eq_true rfl, Nat.le_of_ble_eq_true rfl, Nat.le_of_ble_eq_true rfl⟩ (typed_L (R := 2 + R) (C := 2 + C) (W9 := W9) (tx0 := fun _ => 0) (isFace_lo hF2 (fun j hj => (va_up_ne _ _ (by omega)).trans ((va_up_ne _ _ (by omega)).trans (hoh j (by omega))))) (va_up_self _ _ _) ⟨?_, ?_⟩ ((va_up_ne _ _ (by decide)).trans ((va_up_ne _ _ (by decide)).trans mv)) ((va_up_ne _ _ (by decide)).trans ((va_up_ne _ _ (by decide)).trans ml)) ((va_up_ne _ _ (by decide)).trans ((va_up_ne _ _ (by decide)).trans hs6)) (show L < 1000 by omega) ⟨by omega, by omega⟩ ⟨by omega, by omega⟩ (by omega) (by omega) (fun z77 h7 G n9 tx hz77 hF7 hZ7 hV7 hL7 hG7 hqW7 ho7 => aRes_g (Or.inl rfl) ?_))
  · rw [va_up_ne _ _ (show (0 : Nat) ≠ (1 : Int).toNat by decide)]
    show va_up _ (0 : Int).toNat ((2 : Int) + (R : Int)) 0 = ((2 + R : Nat) : Int)
    rw [show (0 : Int).toNat = 0 from rfl, va_up_self]
    omega
  · show va_up _ (1 : Int).toNat ((2 : Int) + (C : Int)) 1 = ((2 + C : Nat) : Int)
    rw [show (1 : Int).toNat = 1 from rfl, va_up_self]
    omega
  have hS7 : lS L (fun j => (xs j).toInt) h7 (yh G [] n9 tx) G 126 := by
    refine ⟨hF7, rfl, hZ7, hV7, hL7, hG7, ⟨_, (ho7 _ (by decide)).trans ((va_up_ne _ _ (by decide)).trans ((va_up_ne _ _ (by decide)).trans mg))⟩, fun j hj => ?_, (ho7 _ (by decide)).trans ((va_up_ne _ _ (by decide)).trans ((va_up_ne _ _ (by decide)).trans hs6)), by omega, by decide, by decide⟩
    rcases Nat.lt_or_ge j 122 with q | q
    · exact wfE_mono (by decide) (wf_face hF7 j q)
    · have hq : j = 122 ∨ j = 123 ∨ j = 124 ∨ j = 125 := by omega
      rcases hq with q | q | q | q
      · obtain ⟨ww, mm, -⟩ := hZ7
        rw [q, mm]
        trivial
      · obtain ⟨-, ww, mm, -⟩ := hV7
        rw [q, mm]
        trivial
      · obtain ⟨-, ww, mm, -⟩ := hL7
        rw [q, mm]
        trivial
      · rw [q, ho7 125 (by decide)]
        show wfE 126 (va_up (va_up h6 122 _) 122 _ 125)
        rw [va_up_ne _ _ (by decide), va_up_ne _ _ (by decide), mg]
        trivial
  rw [← hqW7]
  refine R_ifeq rfl ⟨by omega, by omega⟩ (fun c80 => ?_) (fun c80 => ?_)
  · exact absurd c80 (by omega)
  · refine law_c0 (G0 := G) hS7 rfl (Nat.le_of_ble_eq_true rfl) (Nat.le_of_ble_eq_true rfl) (fun h8 hS8 => ?_)
    refine R_iconst rfl ?_
    refine R_istore (lv' := [_, _, _, _, _, _, _, _, _, _, _, _, _, _]) rfl rfl ?_
    have hA6 : aNf 6 = 6 := rfl
    refine law_ru 5 0 h8 126 _ _ _ rfl rfl hS8 (by omega) (Nat.le_of_ble_eq_true rfl) (Nat.le_of_ble_eq_true rfl) (fun h9 N9 k9 n9a zi9 hS9 hN9 hk9 hn9 => ?_)
    refine law_re1 hS9 (by omega) (by omega) (by omega) (fun h10 g10 zm hS10 hzm mg10 hgo => ?_)
    refine law_re2 hzm hgo 4 0 h10 _ _ _ rfl rfl hS10 mg10 (by omega) (by omega) (fun h11 N11 k11 n11 zi11 hS11 hN11 hk11 hn11 => ?_)
    refine law_po hS11 rfl (by omega) (by omega) (by omega) (fun h12 N12 k12 n12 z12 hS12 hN12 hk12 hn12 => ?_)
    refine law_me hS12 (by omega) (by omega) (by omega) (fun h13 N13 k13 n13 hS13 hN13 hk13 hn13 => ?_)
    exact law_act hS13 rfl (by omega) (by omega) (by omega)
