/-! ===== the law's cases, on ===== -/
set_option maxRecDepth 20000 in
theorem lw_rule {d L k n : Nat} {xs : Nat → Int32} {h : AH} {y : Sy} {th zi : Int} {l5 l6 : Option AV} (hS : isLw h y th L xs) (hi : 0 ≤ zi ∧ zi + 4 ≤ L ∧ L ≤ 2048) (hk : k + 3 ≤ 601024) (hn : n + 18 ≤ 7293034) (hK : ∀ (h' : AH) (y' : Sy) (th' : Int) (l5 l6 : Option AV) (k' n' : Nat), isLw h' y' th' L xs → k' ≤ k + 3 → n' ≤ n + 18 → Run mi_L_law (T (d + 40)) qLaw 1534 [some (vR aRO), some (vR 0), some (vR 122), some (vR 139), some (vI zi), l5, l6] [] h' 140 k' n') : Run mi_L_law (T (d + 40)) qLaw 602 [some (vR aRO), some (vR 0), some (vR 122), some (vR 139), some (vI zi), l5, l6] [] h 140 k n := by
  obtain ⟨G, hist, sl, n0, tx⟩ := y
  have hRO : aRO = 1000 := rfl
  obtain ⟨hF, hM, ⟨oo, hO⟩, hX⟩ := id hS
  refine R_aload_n rfl rfl ?_
  refine R_aload_n rfl rfl ?_
  refine R_iload rfl rfl ?_
  refine R_iconst rfl ?_
  refine R_iadd rfl ?_
  refine R_iaload rfl (Or.inr (Or.inl rfl)) hX ⟨by omega, by omega, by omega⟩ ?_
  refine R_aload_n rfl rfl ?_
  refine R_xcall rfl rfl ⟨Nat.le_of_ble_eq_true rfl, Nat.le_of_ble_eq_true rfl, show k + 1 ≤ 601024 by omega, show n + 6 ≤ 7293034 by omega⟩ (lRule_T hF hO (Nat.le_refl _) (xs_r _) (fun h1 o1 z1 hF1 hO1 f1 v1 hz1 hz2 => aRes_q7 ?_))
  refine R_istore (lv' := [_, _, _, _, _, _, _]) rfl rfl ?_
  have hM1 := isMo_far hM (fun j a b => f1 j a (by omega))
  have hX1 : h1 aRO = eI L (fun j => (xs j).toInt) := (f1 aRO (by omega) (by omega)).trans hX
  obtain ⟨S1, m1, -⟩ := hM1.1.z
  refine R_aload_n rfl rfl ?_
  refine R_aload_n rfl rfl ?_
  refine R_iload rfl rfl ?_
  refine R_iconst rfl ?_
  refine R_iadd rfl ?_
  refine R_iaload rfl (Or.inr (Or.inl rfl)) hX1 ⟨by omega, by omega, by omega⟩ ?_
  refine R_vcall rfl rfl ⟨by omega, _, m1⟩ ⟨Nat.le_of_ble_eq_true rfl, Nat.le_of_ble_eq_true rfl, show k + 1 + 0 ≤ 601024 by omega, show n + 6 + 0 ≤ 7293034 by omega⟩ (mRule_T hM1 (by omega) (xs_r _) (fun h2 b2 hM2 f2 v2 => aRes_i (rest := []) ?_))
  refine R_istore (lv' := [_, _, _, _, _, _, _]) rfl rfl ?_
  have hO2 := (f2 139 (by omega)).trans hO1
  obtain ⟨S2, m2, -⟩ := hM2.1.z
  refine R_aload_n rfl rfl ?_
  refine R_vcall rfl rfl ⟨by omega, _, m2⟩ ⟨Nat.le_of_ble_eq_true rfl, Nat.le_of_ble_eq_true rfl, show k + 1 + 0 ≤ 601024 by omega, show n + 6 + 0 ≤ 7293034 by omega⟩ (mThrown_T hM2.1.z hM2.2.1 (by omega) (fun z3 hz3 => aRes_i (rest := []) ?_))
  refine R_iload rfl rfl ?_
  have hzz : z3 = z1 := hz3.trans hz1.symm
  refine R_icmpeq rfl ⟨by omega, by omega⟩ ⟨by omega, by omega⟩ (fun c1 => ?_) (fun c1 => absurd hzz c1)
  refine R_iload rfl rfl ?_
  refine R_ifne rfl ⟨by omega, by omega⟩ (fun c2 => ?_) (fun c2 => ?_)
  · refine R_goto rfl ?_
    exact hK h2 _ _ _ _ _ _ ⟨isFace_far hF1 (fun j hj => f2 j (by omega)), hM2, ⟨_, hO2⟩, (f2 aRO (by omega)).trans hX1⟩ (by omega) (by omega)
  · have w1 := v1 (by omega)
    have w2 := v2 (by omega)
    refine R_aload_n rfl rfl ?_
    refine R_iconst rfl ?_
    refine R_laload rfl (by omega) hO2 ⟨by omega, by omega, by omega⟩ ?_
    refine R_iload rfl rfl ?_
    refine R_lbool rfl rfl rfl rfl (by rw [w2]; exact opRule_r) ?_
    have w3 : (lg_cmp (o1 (0 : Int).toNat) (lB b2)).toInt = 0 := (cmp0 _ _).mpr (by rw [w2]; exact w1)
    refine R_lcmp rfl ?_
    refine R_ifeq rfl (by rw [w3]; exact ⟨by decide, by decide⟩) (fun c3 => ?_) (fun c3 => absurd w3 c3)
    refine R_goto rfl ?_
    exact hK h2 _ _ _ _ _ _ ⟨isFace_far hF1 (fun j hj => f2 j (by omega)), hM2, ⟨_, hO2⟩, (f2 aRO (by omega)).trans hX1⟩ (by omega) (by omega)
set_option maxRecDepth 20000 in
theorem lw_readings {d L k n : Nat} {xs : Nat → Int32} {h : AH} {y : Sy} {th zi : Int} {l5 l6 : Option AV} (hS : isLw h y th L xs) (hi : 0 ≤ zi ∧ zi + 4 ≤ L ∧ L ≤ 2048) (hk : k + 3 ≤ 601024) (hn : n + 18 ≤ 7293034) (hK : ∀ (h' : AH) (y' : Sy) (th' : Int) (l5 l6 : Option AV) (k' n' : Nat), isLw h' y' th' L xs → k' ≤ k + 3 → n' ≤ n + 18 → Run mi_L_law (T (d + 40)) qLaw 1534 [some (vR aRO), some (vR 0), some (vR 122), some (vR 139), some (vI zi), l5, l6] [] h' 140 k' n') : Run mi_L_law (T (d + 40)) qLaw 665 [some (vR aRO), some (vR 0), some (vR 122), some (vR 139), some (vI zi), l5, l6] [] h 140 k n := by
  obtain ⟨G, hist, sl, n0, tx⟩ := y
  have hRO : aRO = 1000 := rfl
  obtain ⟨hF, hM, ⟨oo, hO⟩, hX⟩ := id hS
  refine R_aload_n rfl rfl ?_
  refine R_vcall rfl rfl ⟨by omega, _, hF.1⟩ ⟨Nat.le_of_ble_eq_true rfl, Nat.le_of_ble_eq_true rfl, show k + 0 ≤ 601024 by omega, show n + 0 ≤ 7293034 by omega⟩ (readings_C hF (by omega) (fun h1 hF1 f1 => aRes_d rfl ?_))
  have hM1 := isMo_far hM (fun j a b => f1 j a)
  have hX1 : h1 aRO = eI L (fun j => (xs j).toInt) := (f1 aRO (by omega)).trans hX
  obtain ⟨S1, m1, -⟩ := hM1.1.z
  refine R_aload_n rfl rfl ?_
  refine R_vcall rfl rfl ⟨by omega, _, m1⟩ ⟨Nat.le_of_ble_eq_true rfl, Nat.le_of_ble_eq_true rfl, show k + 0 ≤ 601024 by omega, show n + 0 ≤ 7293034 by omega⟩ (mReadings_T hM1 (by omega) (fun h2 b2 hM2 f2 v2 => aRes_i (rest := [_]) ?_))
  have hO2 := (f2 139 (by omega)).trans ((f1 139 (by omega)).trans hO)
  have w2 := v2 rfl
  exact R_icmpeq rfl (opReadings_r hF) (by rw [w2]; exact opReadings_r hF) (fun c => hK h2 _ _ _ _ _ _ ⟨isFace_far hF1 (fun j hj => f2 j (by omega)), hM2, ⟨_, hO2⟩, (f2 aRO (by omega)).trans hX1⟩ (by omega) (by omega)) (fun c => absurd w2.symm c)
set_option maxRecDepth 20000 in
theorem lw_reading {d L k n : Nat} {xs : Nat → Int32} {h : AH} {y : Sy} {th zi : Int} {l5 l6 : Option AV} (hS : isLw h y th L xs) (hi : 0 ≤ zi ∧ zi + 4 ≤ L ∧ L ≤ 2048) (hk : k + 3 ≤ 601024) (hn : n + 18 ≤ 7293034) (hK : ∀ (h' : AH) (y' : Sy) (th' : Int) (l5 l6 : Option AV) (k' n' : Nat), isLw h' y' th' L xs → k' ≤ k + 3 → n' ≤ n + 18 → Run mi_L_law (T (d + 40)) qLaw 1534 [some (vR aRO), some (vR 0), some (vR 122), some (vR 139), some (vI zi), l5, l6] [] h' 140 k' n') : Run mi_L_law (T (d + 40)) qLaw 678 [some (vR aRO), some (vR 0), some (vR 122), some (vR 139), some (vI zi), l5, l6] [] h 140 k n := by
  obtain ⟨G, hist, sl, n0, tx⟩ := y
  have hRO : aRO = 1000 := rfl
  obtain ⟨hF, hM, ⟨oo, hO⟩, hX⟩ := id hS
  refine R_aload_n rfl rfl ?_
  refine R_aload_n rfl rfl ?_
  refine R_iload rfl rfl ?_
  refine R_iconst rfl ?_
  refine R_iadd rfl ?_
  refine R_iaload rfl (Or.inr (Or.inl rfl)) hX ⟨by omega, by omega, by omega⟩ ?_
  refine R_aload_n rfl rfl ?_
  refine R_xcall rfl rfl ⟨Nat.le_of_ble_eq_true rfl, Nat.le_of_ble_eq_true rfl, show k + 1 ≤ 601024 by omega, show n + 6 ≤ 7293034 by omega⟩ (lReading_T hF hO (Nat.le_refl _) (xs_r _) (fun h1 o1 z1 hF1 hO1 f1 v1 hz1 hz2 => aRes_q7 ?_))
  refine R_istore (lv' := [_, _, _, _, _, _, _]) rfl rfl ?_
  have hM1 := isMo_far hM (fun j a b => f1 j a (by omega))
  have hX1 : h1 aRO = eI L (fun j => (xs j).toInt) := (f1 aRO (by omega) (by omega)).trans hX
  obtain ⟨S1, m1, -⟩ := hM1.1.z
  refine R_aload_n rfl rfl ?_
  refine R_aload_n rfl rfl ?_
  refine R_iload rfl rfl ?_
  refine R_iconst rfl ?_
  refine R_iadd rfl ?_
  refine R_iaload rfl (Or.inr (Or.inl rfl)) hX1 ⟨by omega, by omega, by omega⟩ ?_
  refine R_vcall rfl rfl ⟨by omega, _, m1⟩ ⟨Nat.le_of_ble_eq_true rfl, Nat.le_of_ble_eq_true rfl, show k + 1 + 0 ≤ 601024 by omega, show n + 6 + 0 ≤ 7293034 by omega⟩ (mReading_T hM1 (by omega) (xs_r _) (fun h2 b2 hM2 f2 v2 => aRes_i (rest := []) ?_))
  refine R_istore (lv' := [_, _, _, _, _, _, _]) rfl rfl ?_
  have hO2 := (f2 139 (by omega)).trans hO1
  obtain ⟨S2, m2, -⟩ := hM2.1.z
  refine R_aload_n rfl rfl ?_
  refine R_vcall rfl rfl ⟨by omega, _, m2⟩ ⟨Nat.le_of_ble_eq_true rfl, Nat.le_of_ble_eq_true rfl, show k + 1 + 0 ≤ 601024 by omega, show n + 6 + 0 ≤ 7293034 by omega⟩ (mThrown_T hM2.1.z hM2.2.1 (by omega) (fun z3 hz3 => aRes_i (rest := []) ?_))
  refine R_iload rfl rfl ?_
  have hzz : z3 = z1 := hz3.trans hz1.symm
  refine R_icmpeq rfl ⟨by omega, by omega⟩ ⟨by omega, by omega⟩ (fun c1 => ?_) (fun c1 => absurd hzz c1)
  refine R_iload rfl rfl ?_
  refine R_ifne rfl ⟨by omega, by omega⟩ (fun c2 => ?_) (fun c2 => ?_)
  · refine R_goto rfl ?_
    exact hK h2 _ _ _ _ _ _ ⟨isFace_far hF1 (fun j hj => f2 j (by omega)), hM2, ⟨_, hO2⟩, (f2 aRO (by omega)).trans hX1⟩ (by omega) (by omega)
  · have w1 := v1 (by omega)
    have w2 := v2 (by omega)
    refine R_aload_n rfl rfl ?_
    refine R_iconst rfl ?_
    refine R_laload rfl (by omega) hO2 ⟨by omega, by omega, by omega⟩ ?_
    refine R_iload rfl rfl ?_
    refine R_i2l rfl ?_
    have w3 : (lg_cmp (o1 (0 : Int).toNat) (iI b2).toInt64).toInt = 0 := (cmp0 _ _).mpr (by rw [w2]; exact w1)
    refine R_lcmp rfl ?_
    refine R_ifeq rfl (by rw [w3]; exact ⟨by decide, by decide⟩) (fun c3 => ?_) (fun c3 => absurd w3 c3)
    refine R_goto rfl ?_
    exact hK h2 _ _ _ _ _ _ ⟨isFace_far hF1 (fun j hj => f2 j (by omega)), hM2, ⟨_, hO2⟩, (f2 aRO (by omega)).trans hX1⟩ (by omega) (by omega)
set_option maxRecDepth 20000 in
theorem lw_put {d L k n : Nat} {xs : Nat → Int32} {h : AH} {y : Sy} {th zi : Int} {l5 l6 : Option AV} (hS : isLw h y th L xs) (hi : 0 ≤ zi ∧ zi + 4 ≤ L ∧ L ≤ 2048) (hk : k + 3 ≤ 601024) (hn : n + 18 ≤ 7293034) (hK : ∀ (h' : AH) (y' : Sy) (th' : Int) (l5 l6 : Option AV) (k' n' : Nat), isLw h' y' th' L xs → k' ≤ k + 3 → n' ≤ n + 18 → Run mi_L_law (T (d + 40)) qLaw 1534 [some (vR aRO), some (vR 0), some (vR 122), some (vR 139), some (vI zi), l5, l6] [] h' 140 k' n') : Run mi_L_law (T (d + 40)) qLaw 734 [some (vR aRO), some (vR 0), some (vR 122), some (vR 139), some (vI zi), l5, l6] [] h 140 k n := by
  obtain ⟨G, hist, sl, n0, tx⟩ := y
  have hRO : aRO = 1000 := rfl
  obtain ⟨hF, hM, ⟨oo, hO⟩, hX⟩ := id hS
  refine R_aload_n rfl rfl ?_
  refine R_aload_n rfl rfl ?_
  refine R_iload rfl rfl ?_
  refine R_iconst rfl ?_
  refine R_iadd rfl ?_
  refine R_iaload rfl (Or.inr (Or.inl rfl)) hX ⟨by omega, by omega, by omega⟩ ?_
  refine R_aload_n rfl rfl ?_
  refine R_iload rfl rfl ?_
  refine R_iconst rfl ?_
  refine R_iadd rfl ?_
  refine R_iaload rfl (Or.inr (Or.inl rfl)) hX ⟨by omega, by omega, by omega⟩ ?_
  refine R_aload_n rfl rfl ?_
  refine R_xcall rfl rfl ⟨Nat.le_of_ble_eq_true rfl, Nat.le_of_ble_eq_true rfl, show k + 2 ≤ 601024 by omega, show n + 12 ≤ 7293034 by omega⟩ (lPut_T hF hO (Nat.le_refl _) (xs_r _) (xs_r _) (fun h1 o1 z1 hF1 hO1 f1 v1 hz1 hz2 => aRes_q7 ?_))
  refine R_istore (lv' := [_, _, _, _, _, _, _]) rfl rfl ?_
  have hM1 := isMo_far hM (fun j a b => f1 j a (by omega))
  have hX1 : h1 aRO = eI L (fun j => (xs j).toInt) := (f1 aRO (by omega) (by omega)).trans hX
  obtain ⟨S1, m1, -⟩ := hM1.1.z
  refine R_aload_n rfl rfl ?_
  refine R_aload_n rfl rfl ?_
  refine R_iload rfl rfl ?_
  refine R_iconst rfl ?_
  refine R_iadd rfl ?_
  refine R_iaload rfl (Or.inr (Or.inl rfl)) hX1 ⟨by omega, by omega, by omega⟩ ?_
  refine R_aload_n rfl rfl ?_
  refine R_iload rfl rfl ?_
  refine R_iconst rfl ?_
  refine R_iadd rfl ?_
  refine R_iaload rfl (Or.inr (Or.inl rfl)) hX1 ⟨by omega, by omega, by omega⟩ ?_
  refine R_vcall rfl rfl ⟨by omega, _, m1⟩ ⟨Nat.le_of_ble_eq_true rfl, Nat.le_of_ble_eq_true rfl, show k + 2 + 0 ≤ 601024 by omega, show n + 12 + 0 ≤ 7293034 by omega⟩ (mPut_T hM1 (by omega) (xs_r _) (xs_r _) (fun h2 b2 hM2 f2 v2 => aRes_i (rest := []) ?_))
  refine R_istore (lv' := [_, _, _, _, _, _, _]) rfl rfl ?_
  have hO2 := (f2 139 (by omega)).trans hO1
  obtain ⟨S2, m2, -⟩ := hM2.1.z
  refine R_aload_n rfl rfl ?_
  refine R_vcall rfl rfl ⟨by omega, _, m2⟩ ⟨Nat.le_of_ble_eq_true rfl, Nat.le_of_ble_eq_true rfl, show k + 2 + 0 ≤ 601024 by omega, show n + 12 + 0 ≤ 7293034 by omega⟩ (mThrown_T hM2.1.z hM2.2.1 (by omega) (fun z3 hz3 => aRes_i (rest := []) ?_))
  refine R_iload rfl rfl ?_
  have hzz : z3 = z1 := hz3.trans hz1.symm
  refine R_icmpeq rfl ⟨by omega, by omega⟩ ⟨by omega, by omega⟩ (fun c1 => ?_) (fun c1 => absurd hzz c1)
  refine R_iload rfl rfl ?_
  refine R_ifne rfl ⟨by omega, by omega⟩ (fun c2 => ?_) (fun c2 => ?_)
  · refine R_goto rfl ?_
    exact hK h2 _ _ _ _ _ _ ⟨isFace_far hF1 (fun j hj => f2 j (by omega)), hM2, ⟨_, hO2⟩, (f2 aRO (by omega)).trans hX1⟩ (by omega) (by omega)
  · have w1 := v1 (by omega)
    have w2 := v2 (by omega)
    refine R_aload_n rfl rfl ?_
    refine R_iconst rfl ?_
    refine R_laload rfl (by omega) hO2 ⟨by omega, by omega, by omega⟩ ?_
    refine R_iload rfl rfl ?_
    refine R_i2l rfl ?_
    have w3 : (lg_cmp (o1 (0 : Int).toNat) (iI b2).toInt64).toInt = 0 := (cmp0 _ _).mpr (by rw [w2]; exact w1)
    refine R_lcmp rfl ?_
    refine R_ifeq rfl (by rw [w3]; exact ⟨by decide, by decide⟩) (fun c3 => ?_) (fun c3 => absurd w3 c3)
    refine R_goto rfl ?_
    exact hK h2 _ _ _ _ _ _ ⟨isFace_far hF1 (fun j hj => f2 j (by omega)), hM2, ⟨_, hO2⟩, (f2 aRO (by omega)).trans hX1⟩ (by omega) (by omega)
set_option maxRecDepth 20000 in
theorem lw_setBar {d L k n : Nat} {xs : Nat → Int32} {h : AH} {y : Sy} {th zi : Int} {l5 l6 : Option AV} (hS : isLw h y th L xs) (hi : 0 ≤ zi ∧ zi + 4 ≤ L ∧ L ≤ 2048) (hk : k + 3 ≤ 601024) (hn : n + 18 ≤ 7293034) (hK : ∀ (h' : AH) (y' : Sy) (th' : Int) (l5 l6 : Option AV) (k' n' : Nat), isLw h' y' th' L xs → k' ≤ k + 3 → n' ≤ n + 18 → Run mi_L_law (T (d + 40)) qLaw 1534 [some (vR aRO), some (vR 0), some (vR 122), some (vR 139), some (vI zi), l5, l6] [] h' 140 k' n') : Run mi_L_law (T (d + 40)) qLaw 802 [some (vR aRO), some (vR 0), some (vR 122), some (vR 139), some (vI zi), l5, l6] [] h 140 k n := by
  obtain ⟨G, hist, sl, n0, tx⟩ := y
  have hRO : aRO = 1000 := rfl
  obtain ⟨hF, hM, ⟨oo, hO⟩, hX⟩ := id hS
  refine R_aload_n rfl rfl ?_
  refine R_aload_n rfl rfl ?_
  refine R_iload rfl rfl ?_
  refine R_iconst rfl ?_
  refine R_iadd rfl ?_
  refine R_iaload rfl (Or.inr (Or.inl rfl)) hX ⟨by omega, by omega, by omega⟩ ?_
  refine R_aload_n rfl rfl ?_
  refine R_iload rfl rfl ?_
  refine R_iconst rfl ?_
  refine R_iadd rfl ?_
  refine R_iaload rfl (Or.inr (Or.inl rfl)) hX ⟨by omega, by omega, by omega⟩ ?_
  refine R_bool rfl rfl rfl rfl (xs_r _) ?_
  refine R_aload_n rfl rfl ?_
  refine R_iload rfl rfl ?_
  refine R_iconst rfl ?_
  refine R_iadd rfl ?_
  refine R_iaload rfl (Or.inr (Or.inl rfl)) hX ⟨by omega, by omega, by omega⟩ ?_
  refine R_bool rfl rfl rfl rfl (xs_r _) ?_
  refine R_aload_n rfl rfl ?_
  refine R_xcall rfl rfl ⟨Nat.le_of_ble_eq_true rfl, Nat.le_of_ble_eq_true rfl, show k + 2 ≤ 601024 by omega, show n + 12 ≤ 7293034 by omega⟩ (lSetBar_T hF hO (Nat.le_refl _) (xs_r _) (fun h1 o1 z1 hF1 hO1 f1 v1 hz1 hz2 => aRes_q7 ?_))
  refine R_istore (lv' := [_, _, _, _, _, _, _]) rfl rfl ?_
  have hM1 := isMo_far hM (fun j a b => f1 j a (by omega))
  have hX1 : h1 aRO = eI L (fun j => (xs j).toInt) := (f1 aRO (by omega) (by omega)).trans hX
  obtain ⟨S1, m1, -⟩ := hM1.1.z
  refine R_aload_n rfl rfl ?_
  refine R_aload_n rfl rfl ?_
  refine R_iload rfl rfl ?_
  refine R_iconst rfl ?_
  refine R_iadd rfl ?_
  refine R_iaload rfl (Or.inr (Or.inl rfl)) hX1 ⟨by omega, by omega, by omega⟩ ?_
  refine R_aload_n rfl rfl ?_
  refine R_iload rfl rfl ?_
  refine R_iconst rfl ?_
  refine R_iadd rfl ?_
  refine R_iaload rfl (Or.inr (Or.inl rfl)) hX1 ⟨by omega, by omega, by omega⟩ ?_
  refine R_bool rfl rfl rfl rfl (xs_r _) ?_
  refine R_aload_n rfl rfl ?_
  refine R_iload rfl rfl ?_
  refine R_iconst rfl ?_
  refine R_iadd rfl ?_
  refine R_iaload rfl (Or.inr (Or.inl rfl)) hX1 ⟨by omega, by omega, by omega⟩ ?_
  refine R_bool rfl rfl rfl rfl (xs_r _) ?_
  refine R_vcall rfl rfl ⟨by omega, _, m1⟩ ⟨Nat.le_of_ble_eq_true rfl, Nat.le_of_ble_eq_true rfl, show k + 2 + 0 ≤ 601024 by omega, show n + 12 + 0 ≤ 7293034 by omega⟩ (mSetBar_T hM1 (by omega) (xs_r _) (fun h2 b2 hM2 f2 v2 => aRes_i (rest := []) ?_))
  refine R_istore (lv' := [_, _, _, _, _, _, _]) rfl rfl ?_
  have hO2 := (f2 139 (by omega)).trans hO1
  obtain ⟨S2, m2, -⟩ := hM2.1.z
  refine R_aload_n rfl rfl ?_
  refine R_vcall rfl rfl ⟨by omega, _, m2⟩ ⟨Nat.le_of_ble_eq_true rfl, Nat.le_of_ble_eq_true rfl, show k + 2 + 0 ≤ 601024 by omega, show n + 12 + 0 ≤ 7293034 by omega⟩ (mThrown_T hM2.1.z hM2.2.1 (by omega) (fun z3 hz3 => aRes_i (rest := []) ?_))
  refine R_iload rfl rfl ?_
  have hzz : z3 = z1 := hz3.trans hz1.symm
  refine R_icmpeq rfl ⟨by omega, by omega⟩ ⟨by omega, by omega⟩ (fun c1 => ?_) (fun c1 => absurd hzz c1)
  refine R_iload rfl rfl ?_
  refine R_ifne rfl ⟨by omega, by omega⟩ (fun c2 => ?_) (fun c2 => ?_)
  · refine R_goto rfl ?_
    exact hK h2 _ _ _ _ _ _ ⟨isFace_far hF1 (fun j hj => f2 j (by omega)), hM2, ⟨_, hO2⟩, (f2 aRO (by omega)).trans hX1⟩ (by omega) (by omega)
  · have w1 := v1 (by omega)
    have w2 := v2 (by omega)
    refine R_aload_n rfl rfl ?_
    refine R_iconst rfl ?_
    refine R_laload rfl (by omega) hO2 ⟨by omega, by omega, by omega⟩ ?_
    refine R_iload rfl rfl ?_
    refine R_i2l rfl ?_
    have w3 : (lg_cmp (o1 (0 : Int).toNat) (iI b2).toInt64).toInt = 0 := (cmp0 _ _).mpr (by rw [w2]; exact w1)
    refine R_lcmp rfl ?_
    refine R_ifeq rfl (by rw [w3]; exact ⟨by decide, by decide⟩) (fun c3 => ?_) (fun c3 => absurd w3 c3)
    refine R_goto rfl ?_
    exact hK h2 _ _ _ _ _ _ ⟨isFace_far hF1 (fun j hj => f2 j (by omega)), hM2, ⟨_, hO2⟩, (f2 aRO (by omega)).trans hX1⟩ (by omega) (by omega)
set_option maxRecDepth 20000 in
theorem lw_addWord {d L k n : Nat} {xs : Nat → Int32} {h : AH} {y : Sy} {th zi : Int} {l5 l6 : Option AV} (hS : isLw h y th L xs) (hi : 0 ≤ zi ∧ zi + 4 ≤ L ∧ L ≤ 2048) (hk : k + 3 ≤ 601024) (hn : n + 18 ≤ 7293034) (hK : ∀ (h' : AH) (y' : Sy) (th' : Int) (l5 l6 : Option AV) (k' n' : Nat), isLw h' y' th' L xs → k' ≤ k + 3 → n' ≤ n + 18 → Run mi_L_law (T (d + 40)) qLaw 1534 [some (vR aRO), some (vR 0), some (vR 122), some (vR 139), some (vI zi), l5, l6] [] h' 140 k' n') : Run mi_L_law (T (d + 40)) qLaw 914 [some (vR aRO), some (vR 0), some (vR 122), some (vR 139), some (vI zi), l5, l6] [] h 140 k n := by
  obtain ⟨G, hist, sl, n0, tx⟩ := y
  have hRO : aRO = 1000 := rfl
  obtain ⟨hF, hM, ⟨oo, hO⟩, hX⟩ := id hS
  refine R_aload_n rfl rfl ?_
  refine R_aload_n rfl rfl ?_
  refine R_xcall rfl rfl ⟨Nat.le_of_ble_eq_true rfl, Nat.le_of_ble_eq_true rfl, show k + 1 ≤ 601024 by omega, show n + 6 ≤ 7293034 by omega⟩ (lAddWord_T hF hO (Nat.le_refl _) (fun h1 o1 z1 hF1 hO1 f1 v1 hz1 hz2 => aRes_q7 ?_))
  refine R_istore (lv' := [_, _, _, _, _, _, _]) rfl rfl ?_
  have hM1 := isMo_far hM (fun j a b => f1 j a (by omega))
  have hX1 : h1 aRO = eI L (fun j => (xs j).toInt) := (f1 aRO (by omega) (by omega)).trans hX
  obtain ⟨S1, m1, -⟩ := hM1.1.z
  refine R_aload_n rfl rfl ?_
  refine R_vcall rfl rfl ⟨by omega, _, m1⟩ ⟨Nat.le_of_ble_eq_true rfl, Nat.le_of_ble_eq_true rfl, show k + 1 + 0 ≤ 601024 by omega, show n + 6 + 0 ≤ 7293034 by omega⟩ (mAddWord_T hM1 (by omega) (fun h2 b2 hM2 f2 v2 => aRes_i (rest := []) ?_))
  refine R_istore (lv' := [_, _, _, _, _, _, _]) rfl rfl ?_
  have hO2 := (f2 139 (by omega)).trans hO1
  obtain ⟨S2, m2, -⟩ := hM2.1.z
  refine R_aload_n rfl rfl ?_
  refine R_vcall rfl rfl ⟨by omega, _, m2⟩ ⟨Nat.le_of_ble_eq_true rfl, Nat.le_of_ble_eq_true rfl, show k + 1 + 0 ≤ 601024 by omega, show n + 6 + 0 ≤ 7293034 by omega⟩ (mThrown_T hM2.1.z hM2.2.1 (by omega) (fun z3 hz3 => aRes_i (rest := []) ?_))
  refine R_iload rfl rfl ?_
  have hzz : z3 = z1 := hz3.trans hz1.symm
  refine R_icmpeq rfl ⟨by omega, by omega⟩ ⟨by omega, by omega⟩ (fun c1 => ?_) (fun c1 => absurd hzz c1)
  refine R_iload rfl rfl ?_
  refine R_ifne rfl ⟨by omega, by omega⟩ (fun c2 => ?_) (fun c2 => ?_)
  · refine R_goto rfl ?_
    exact hK h2 _ _ _ _ _ _ ⟨isFace_far hF1 (fun j hj => f2 j (by omega)), hM2, ⟨_, hO2⟩, (f2 aRO (by omega)).trans hX1⟩ (by omega) (by omega)
  · have w1 := v1 (by omega)
    have w2 := v2 (by omega)
    refine R_aload_n rfl rfl ?_
    refine R_iconst rfl ?_
    refine R_laload rfl (by omega) hO2 ⟨by omega, by omega, by omega⟩ ?_
    refine R_iload rfl rfl ?_
    refine R_i2l rfl ?_
    have w3 : (lg_cmp (o1 (0 : Int).toNat) (iI b2).toInt64).toInt = 0 := (cmp0 _ _).mpr (by rw [w2]; exact w1)
    refine R_lcmp rfl ?_
    refine R_ifeq rfl (by rw [w3]; exact ⟨by decide, by decide⟩) (fun c3 => ?_) (fun c3 => absurd w3 c3)
    refine R_goto rfl ?_
    exact hK h2 _ _ _ _ _ _ ⟨isFace_far hF1 (fun j hj => f2 j (by omega)), hM2, ⟨_, hO2⟩, (f2 aRO (by omega)).trans hX1⟩ (by omega) (by omega)
set_option maxRecDepth 20000 in
theorem lw_setLine {d L k n : Nat} {xs : Nat → Int32} {h : AH} {y : Sy} {th zi : Int} {l5 l6 : Option AV} (hS : isLw h y th L xs) (hi : 0 ≤ zi ∧ zi + 4 ≤ L ∧ L ≤ 2048) (hk : k + 3 ≤ 601024) (hn : n + 18 ≤ 7293034) (hK : ∀ (h' : AH) (y' : Sy) (th' : Int) (l5 l6 : Option AV) (k' n' : Nat), isLw h' y' th' L xs → k' ≤ k + 3 → n' ≤ n + 18 → Run mi_L_law (T (d + 40)) qLaw 1534 [some (vR aRO), some (vR 0), some (vR 122), some (vR 139), some (vI zi), l5, l6] [] h' 140 k' n') : Run mi_L_law (T (d + 40)) qLaw 958 [some (vR aRO), some (vR 0), some (vR 122), some (vR 139), some (vI zi), l5, l6] [] h 140 k n := by
  obtain ⟨G, hist, sl, n0, tx⟩ := y
  have hRO : aRO = 1000 := rfl
  obtain ⟨hF, hM, ⟨oo, hO⟩, hX⟩ := id hS
  refine R_aload_n rfl rfl ?_
  refine R_aload_n rfl rfl ?_
  refine R_xcall rfl rfl ⟨Nat.le_of_ble_eq_true rfl, Nat.le_of_ble_eq_true rfl, show k + 1 ≤ 601024 by omega, show n + 6 ≤ 7293034 by omega⟩ (lSetLine_T hF hO (Nat.le_refl _) (fun h1 o1 z1 hF1 hO1 f1 v1 hz1 hz2 => aRes_q7 ?_))
  refine R_istore (lv' := [_, _, _, _, _, _, _]) rfl rfl ?_
  have hM1 := isMo_far hM (fun j a b => f1 j a (by omega))
  have hX1 : h1 aRO = eI L (fun j => (xs j).toInt) := (f1 aRO (by omega) (by omega)).trans hX
  obtain ⟨S1, m1, -⟩ := hM1.1.z
  refine R_aload_n rfl rfl ?_
  refine R_vcall rfl rfl ⟨by omega, _, m1⟩ ⟨Nat.le_of_ble_eq_true rfl, Nat.le_of_ble_eq_true rfl, show k + 1 + 0 ≤ 601024 by omega, show n + 6 + 0 ≤ 7293034 by omega⟩ (mSetLine_T hM1 (by omega) (fun h2 b2 hM2 f2 v2 => aRes_i (rest := []) ?_))
  refine R_istore (lv' := [_, _, _, _, _, _, _]) rfl rfl ?_
  have hO2 := (f2 139 (by omega)).trans hO1
  obtain ⟨S2, m2, -⟩ := hM2.1.z
  refine R_aload_n rfl rfl ?_
  refine R_vcall rfl rfl ⟨by omega, _, m2⟩ ⟨Nat.le_of_ble_eq_true rfl, Nat.le_of_ble_eq_true rfl, show k + 1 + 0 ≤ 601024 by omega, show n + 6 + 0 ≤ 7293034 by omega⟩ (mThrown_T hM2.1.z hM2.2.1 (by omega) (fun z3 hz3 => aRes_i (rest := []) ?_))
  refine R_iload rfl rfl ?_
  have hzz : z3 = z1 := hz3.trans hz1.symm
  refine R_icmpeq rfl ⟨by omega, by omega⟩ ⟨by omega, by omega⟩ (fun c1 => ?_) (fun c1 => absurd hzz c1)
  refine R_iload rfl rfl ?_
  refine R_ifne rfl ⟨by omega, by omega⟩ (fun c2 => ?_) (fun c2 => ?_)
  · refine R_goto rfl ?_
    exact hK h2 _ _ _ _ _ _ ⟨isFace_far hF1 (fun j hj => f2 j (by omega)), hM2, ⟨_, hO2⟩, (f2 aRO (by omega)).trans hX1⟩ (by omega) (by omega)
  · have w1 := v1 (by omega)
    have w2 := v2 (by omega)
    refine R_aload_n rfl rfl ?_
    refine R_iconst rfl ?_
    refine R_laload rfl (by omega) hO2 ⟨by omega, by omega, by omega⟩ ?_
    refine R_iload rfl rfl ?_
    refine R_i2l rfl ?_
    have w3 : (lg_cmp (o1 (0 : Int).toNat) (iI b2).toInt64).toInt = 0 := (cmp0 _ _).mpr (by rw [w2]; exact w1)
    refine R_lcmp rfl ?_
    refine R_ifeq rfl (by rw [w3]; exact ⟨by decide, by decide⟩) (fun c3 => ?_) (fun c3 => absurd w3 c3)
    refine R_goto rfl ?_
    exact hK h2 _ _ _ _ _ _ ⟨isFace_far hF1 (fun j hj => f2 j (by omega)), hM2, ⟨_, hO2⟩, (f2 aRO (by omega)).trans hX1⟩ (by omega) (by omega)
set_option maxRecDepth 20000 in
theorem lw_write {d L k n : Nat} {xs : Nat → Int32} {h : AH} {y : Sy} {th zi : Int} {l5 l6 : Option AV} (hS : isLw h y th L xs) (hi : 0 ≤ zi ∧ zi + 4 ≤ L ∧ L ≤ 2048) (hk : k + 3 ≤ 601024) (hn : n + 18 ≤ 7293034) (hK : ∀ (h' : AH) (y' : Sy) (th' : Int) (l5 l6 : Option AV) (k' n' : Nat), isLw h' y' th' L xs → k' ≤ k + 3 → n' ≤ n + 18 → Run mi_L_law (T (d + 40)) qLaw 1534 [some (vR aRO), some (vR 0), some (vR 122), some (vR 139), some (vI zi), l5, l6] [] h' 140 k' n') : Run mi_L_law (T (d + 40)) qLaw 1002 [some (vR aRO), some (vR 0), some (vR 122), some (vR 139), some (vI zi), l5, l6] [] h 140 k n := by
  obtain ⟨G, hist, sl, n0, tx⟩ := y
  have hRO : aRO = 1000 := rfl
  obtain ⟨hF, hM, ⟨oo, hO⟩, hX⟩ := id hS
  refine R_aload_n rfl rfl ?_
  refine R_aload_n rfl rfl ?_
  refine R_iload rfl rfl ?_
  refine R_iconst rfl ?_
  refine R_iadd rfl ?_
  refine R_iaload rfl (Or.inr (Or.inl rfl)) hX ⟨by omega, by omega, by omega⟩ ?_
  refine R_aload_n rfl rfl ?_
  refine R_iload rfl rfl ?_
  refine R_iconst rfl ?_
  refine R_iadd rfl ?_
  refine R_iaload rfl (Or.inr (Or.inl rfl)) hX ⟨by omega, by omega, by omega⟩ ?_
  refine R_aload_n rfl rfl ?_
  refine R_xcall rfl rfl ⟨Nat.le_of_ble_eq_true rfl, Nat.le_of_ble_eq_true rfl, show k + 3 ≤ 601024 by omega, show n + 18 ≤ 7293034 by omega⟩ (lWrite_T hF hO (Nat.le_refl _) (xs_r _) (xs_r _) (fun h1 o1 z1 hF1 hO1 f1 v1 hz1 hz2 => aRes_q7 ?_))
  refine R_istore (lv' := [_, _, _, _, _, _, _]) rfl rfl ?_
  have hM1 := isMo_far hM (fun j a b => f1 j a (by omega))
  have hX1 : h1 aRO = eI L (fun j => (xs j).toInt) := (f1 aRO (by omega) (by omega)).trans hX
  obtain ⟨S1, m1, -⟩ := hM1.1.z
  refine R_aload_n rfl rfl ?_
  refine R_aload_n rfl rfl ?_
  refine R_iload rfl rfl ?_
  refine R_iconst rfl ?_
  refine R_iadd rfl ?_
  refine R_iaload rfl (Or.inr (Or.inl rfl)) hX1 ⟨by omega, by omega, by omega⟩ ?_
  refine R_aload_n rfl rfl ?_
  refine R_iload rfl rfl ?_
  refine R_iconst rfl ?_
  refine R_iadd rfl ?_
  refine R_iaload rfl (Or.inr (Or.inl rfl)) hX1 ⟨by omega, by omega, by omega⟩ ?_
  refine R_vcall rfl rfl ⟨by omega, _, m1⟩ ⟨Nat.le_of_ble_eq_true rfl, Nat.le_of_ble_eq_true rfl, show k + 3 + 0 ≤ 601024 by omega, show n + 18 + 0 ≤ 7293034 by omega⟩ (mWrite_T hM1 (by omega) (xs_r _) (xs_r _) (fun h2 b2 hM2 f2 v2 => aRes_i (rest := []) ?_))
  refine R_istore (lv' := [_, _, _, _, _, _, _]) rfl rfl ?_
  have hO2 := (f2 139 (by omega)).trans hO1
  obtain ⟨S2, m2, -⟩ := hM2.1.z
  refine R_aload_n rfl rfl ?_
  refine R_vcall rfl rfl ⟨by omega, _, m2⟩ ⟨Nat.le_of_ble_eq_true rfl, Nat.le_of_ble_eq_true rfl, show k + 3 + 0 ≤ 601024 by omega, show n + 18 + 0 ≤ 7293034 by omega⟩ (mThrown_T hM2.1.z hM2.2.1 (by omega) (fun z3 hz3 => aRes_i (rest := []) ?_))
  refine R_iload rfl rfl ?_
  have hzz : z3 = z1 := hz3.trans hz1.symm
  refine R_icmpeq rfl ⟨by omega, by omega⟩ ⟨by omega, by omega⟩ (fun c1 => ?_) (fun c1 => absurd hzz c1)
  refine R_iload rfl rfl ?_
  refine R_ifne rfl ⟨by omega, by omega⟩ (fun c2 => ?_) (fun c2 => ?_)
  · refine R_goto rfl ?_
    exact hK h2 _ _ _ _ _ _ ⟨isFace_far hF1 (fun j hj => f2 j (by omega)), hM2, ⟨_, hO2⟩, (f2 aRO (by omega)).trans hX1⟩ (by omega) (by omega)
  · have w1 := v1 (by omega)
    have w2 := v2 (by omega)
    refine R_aload_n rfl rfl ?_
    refine R_iconst rfl ?_
    refine R_laload rfl (by omega) hO2 ⟨by omega, by omega, by omega⟩ ?_
    refine R_iload rfl rfl ?_
    refine R_i2l rfl ?_
    have w3 : (lg_cmp (o1 (0 : Int).toNat) (iI b2).toInt64).toInt = 0 := (cmp0 _ _).mpr (by rw [w2]; exact w1)
    refine R_lcmp rfl ?_
    refine R_ifeq rfl (by rw [w3]; exact ⟨by decide, by decide⟩) (fun c3 => ?_) (fun c3 => absurd w3 c3)
    refine R_goto rfl ?_
    exact hK h2 _ _ _ _ _ _ ⟨isFace_far hF1 (fun j hj => f2 j (by omega)), hM2, ⟨_, hO2⟩, (f2 aRO (by omega)).trans hX1⟩ (by omega) (by omega)
set_option maxRecDepth 20000 in
theorem lw_erase {d L k n : Nat} {xs : Nat → Int32} {h : AH} {y : Sy} {th zi : Int} {l5 l6 : Option AV} (hS : isLw h y th L xs) (hi : 0 ≤ zi ∧ zi + 4 ≤ L ∧ L ≤ 2048) (hk : k + 3 ≤ 601024) (hn : n + 18 ≤ 7293034) (hK : ∀ (h' : AH) (y' : Sy) (th' : Int) (l5 l6 : Option AV) (k' n' : Nat), isLw h' y' th' L xs → k' ≤ k + 3 → n' ≤ n + 18 → Run mi_L_law (T (d + 40)) qLaw 1534 [some (vR aRO), some (vR 0), some (vR 122), some (vR 139), some (vI zi), l5, l6] [] h' 140 k' n') : Run mi_L_law (T (d + 40)) qLaw 1070 [some (vR aRO), some (vR 0), some (vR 122), some (vR 139), some (vI zi), l5, l6] [] h 140 k n := by
  obtain ⟨G, hist, sl, n0, tx⟩ := y
  have hRO : aRO = 1000 := rfl
  obtain ⟨hF, hM, ⟨oo, hO⟩, hX⟩ := id hS
  refine R_aload_n rfl rfl ?_
  refine R_aload_n rfl rfl ?_
  refine R_iload rfl rfl ?_
  refine R_iconst rfl ?_
  refine R_iadd rfl ?_
  refine R_iaload rfl (Or.inr (Or.inl rfl)) hX ⟨by omega, by omega, by omega⟩ ?_
  refine R_aload_n rfl rfl ?_
  refine R_xcall rfl rfl ⟨Nat.le_of_ble_eq_true rfl, Nat.le_of_ble_eq_true rfl, show k + 1 ≤ 601024 by omega, show n + 6 ≤ 7293034 by omega⟩ (lErase_T hF hO (Nat.le_refl _) (xs_r _) (fun h1 o1 z1 hF1 hO1 f1 v1 hz1 hz2 => aRes_q7 ?_))
  refine R_istore (lv' := [_, _, _, _, _, _, _]) rfl rfl ?_
  have hM1 := isMo_far hM (fun j a b => f1 j a (by omega))
  have hX1 : h1 aRO = eI L (fun j => (xs j).toInt) := (f1 aRO (by omega) (by omega)).trans hX
  obtain ⟨S1, m1, -⟩ := hM1.1.z
  refine R_aload_n rfl rfl ?_
  refine R_aload_n rfl rfl ?_
  refine R_iload rfl rfl ?_
  refine R_iconst rfl ?_
  refine R_iadd rfl ?_
  refine R_iaload rfl (Or.inr (Or.inl rfl)) hX1 ⟨by omega, by omega, by omega⟩ ?_
  refine R_vcall rfl rfl ⟨by omega, _, m1⟩ ⟨Nat.le_of_ble_eq_true rfl, Nat.le_of_ble_eq_true rfl, show k + 1 + 0 ≤ 601024 by omega, show n + 6 + 0 ≤ 7293034 by omega⟩ (mErase_T hM1 (by omega) (xs_r _) (fun h2 b2 hM2 f2 v2 => aRes_i (rest := []) ?_))
  refine R_istore (lv' := [_, _, _, _, _, _, _]) rfl rfl ?_
  have hO2 := (f2 139 (by omega)).trans hO1
  obtain ⟨S2, m2, -⟩ := hM2.1.z
  refine R_aload_n rfl rfl ?_
  refine R_vcall rfl rfl ⟨by omega, _, m2⟩ ⟨Nat.le_of_ble_eq_true rfl, Nat.le_of_ble_eq_true rfl, show k + 1 + 0 ≤ 601024 by omega, show n + 6 + 0 ≤ 7293034 by omega⟩ (mThrown_T hM2.1.z hM2.2.1 (by omega) (fun z3 hz3 => aRes_i (rest := []) ?_))
  refine R_iload rfl rfl ?_
  have hzz : z3 = z1 := hz3.trans hz1.symm
  refine R_icmpeq rfl ⟨by omega, by omega⟩ ⟨by omega, by omega⟩ (fun c1 => ?_) (fun c1 => absurd hzz c1)
  refine R_iload rfl rfl ?_
  refine R_ifne rfl ⟨by omega, by omega⟩ (fun c2 => ?_) (fun c2 => ?_)
  · refine R_goto rfl ?_
    exact hK h2 _ _ _ _ _ _ ⟨isFace_far hF1 (fun j hj => f2 j (by omega)), hM2, ⟨_, hO2⟩, (f2 aRO (by omega)).trans hX1⟩ (by omega) (by omega)
  · have w1 := v1 (by omega)
    have w2 := v2 (by omega)
    refine R_aload_n rfl rfl ?_
    refine R_iconst rfl ?_
    refine R_laload rfl (by omega) hO2 ⟨by omega, by omega, by omega⟩ ?_
    refine R_iload rfl rfl ?_
    refine R_i2l rfl ?_
    have w3 : (lg_cmp (o1 (0 : Int).toNat) (iI b2).toInt64).toInt = 0 := (cmp0 _ _).mpr (by rw [w2]; exact w1)
    refine R_lcmp rfl ?_
    refine R_ifeq rfl (by rw [w3]; exact ⟨by decide, by decide⟩) (fun c3 => ?_) (fun c3 => absurd w3 c3)
    refine R_goto rfl ?_
    exact hK h2 _ _ _ _ _ _ ⟨isFace_far hF1 (fun j hj => f2 j (by omega)), hM2, ⟨_, hO2⟩, (f2 aRO (by omega)).trans hX1⟩ (by omega) (by omega)
