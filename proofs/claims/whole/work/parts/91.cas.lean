/-! ===== the law's cases, on ===== -/
set_option maxRecDepth 20000 in
theorem lw_undo {d L k n : Nat} {xs : Nat → Int32} {h : AH} {y : Sy} {th zi : Int} {l5 l6 : Option AV} (hS : isLw h y th L xs) (hi : 0 ≤ zi ∧ zi + 4 ≤ L ∧ L ≤ 2048) (hk : k + 3 ≤ 601024) (hn : n + 18 ≤ 7293034) (hK : ∀ (h' : AH) (y' : Sy) (th' : Int) (l5 l6 : Option AV) (k' n' : Nat), isLw h' y' th' L xs → k' ≤ k + 3 → n' ≤ n + 18 → Run mi_L_law (T (d + 40)) qLaw 1534 [some (vR aRO), some (vR 0), some (vR 122), some (vR 139), some (vI zi), l5, l6] [] h' 140 k' n') : Run mi_L_law (T (d + 40)) qLaw 1126 [some (vR aRO), some (vR 0), some (vR 122), some (vR 139), some (vI zi), l5, l6] [] h 140 k n := by
  obtain ⟨G, hist, sl, n0, tx⟩ := y
  have hRO : aRO = 1000 := rfl
  obtain ⟨hF, hM, ⟨oo, hO⟩, hX⟩ := id hS
  refine R_aload_n rfl rfl ?_
  refine R_aload_n rfl rfl ?_
  refine R_xcall rfl rfl ⟨Nat.le_of_ble_eq_true rfl, Nat.le_of_ble_eq_true rfl, show k + 1 ≤ 601024 by omega, show n + 6 ≤ 7293034 by omega⟩ (lUndo_T hF hO (Nat.le_refl _) (fun h1 o1 z1 hF1 hO1 f1 v1 hz1 hz2 => aRes_q7 ?_))
  refine R_istore (lv' := [_, _, _, _, _, _, _]) rfl rfl ?_
  have hM1 := isMo_far hM (fun j a b => f1 j a (by omega))
  have hX1 : h1 aRO = eI L (fun j => (xs j).toInt) := (f1 aRO (by omega) (by omega)).trans hX
  obtain ⟨S1, m1, -⟩ := hM1.1.z
  refine R_aload_n rfl rfl ?_
  refine R_vcall rfl rfl ⟨by omega, _, m1⟩ ⟨Nat.le_of_ble_eq_true rfl, Nat.le_of_ble_eq_true rfl, show k + 1 + 0 ≤ 601024 by omega, show n + 6 + 0 ≤ 7293034 by omega⟩ (mUndo_T hM1 (by omega) (fun h2 b2 hM2 f2 v2 => aRes_i (rest := []) ?_))
  refine R_istore (lv' := [_, _, _, _, _, _, _]) rfl rfl ?_
  have hO2 := (f2 139 (by omega)).trans hO1
  obtain ⟨S2, m2, -⟩ := hM2.1.z
  refine R_aload_n rfl rfl ?_
  refine R_vcall rfl rfl ⟨by omega, _, m2⟩ ⟨Nat.le_of_ble_eq_true rfl, Nat.le_of_ble_eq_true rfl, show k + 1 + 0 ≤ 601024 by omega, show n + 6 + 0 ≤ 7293034 by omega⟩ (mThrown_T hM2.1.z hM2.2.1 (by omega) (fun z3 hz3 => aRes_i (rest := []) ?_))
  refine R_iload rfl rfl ?_
  have hzz : z3 = z1 := hz3.trans hz1.symm
  refine R_icmpeq rfl ⟨by omega, by omega⟩ ⟨by omega, by omega⟩ (fun c1 => ?_) (fun c1 => absurd hzz c1)
  refine R_iload rfl rfl ?_
  refine R_ifne rfl ⟨by omega, by omega⟩ (fun c2 => ?_) (fun c2 => ?_)
  · refine R_goto rfl ?_
    exact hK h2 _ _ _ _ _ _ ⟨isFace_far hF1 (fun j hj => f2 j (by omega)), hM2, ⟨_, hO2⟩, (f2 aRO (by omega)).trans hX1⟩ (by omega) (by omega)
  · have w1 := v1 (by omega)
    have w2 := v2 (by omega)
    refine R_aload_n rfl rfl ?_
    refine R_iconst rfl ?_
    refine R_laload rfl (by omega) hO2 ⟨by omega, by omega, by omega⟩ ?_
    refine R_iload rfl rfl ?_
    refine R_i2l rfl ?_
    have w3 : (lg_cmp (o1 (0 : Int).toNat) (iI b2).toInt64).toInt = 0 := (cmp0 _ _).mpr (by rw [w2]; exact w1)
    refine R_lcmp rfl ?_
    refine R_ifeq rfl (by rw [w3]; exact ⟨by decide, by decide⟩) (fun c3 => ?_) (fun c3 => absurd w3 c3)
    refine R_goto rfl ?_
    exact hK h2 _ _ _ _ _ _ ⟨isFace_far hF1 (fun j hj => f2 j (by omega)), hM2, ⟨_, hO2⟩, (f2 aRO (by omega)).trans hX1⟩ (by omega) (by omega)
set_option maxRecDepth 20000 in
theorem lw_possible {d L k n : Nat} {xs : Nat → Int32} {h : AH} {y : Sy} {th zi : Int} {l5 l6 : Option AV} (hS : isLw h y th L xs) (hi : 0 ≤ zi ∧ zi + 4 ≤ L ∧ L ≤ 2048) (hk : k + 3 ≤ 601024) (hn : n + 18 ≤ 7293034) (hK : ∀ (h' : AH) (y' : Sy) (th' : Int) (l5 l6 : Option AV) (k' n' : Nat), isLw h' y' th' L xs → k' ≤ k + 3 → n' ≤ n + 18 → Run mi_L_law (T (d + 40)) qLaw 1534 [some (vR aRO), some (vR 0), some (vR 122), some (vR 139), some (vI zi), l5, l6] [] h' 140 k' n') : Run mi_L_law (T (d + 40)) qLaw 1170 [some (vR aRO), some (vR 0), some (vR 122), some (vR 139), some (vI zi), l5, l6] [] h 140 k n := by
  obtain ⟨G, hist, sl, n0, tx⟩ := y
  have hRO : aRO = 1000 := rfl
  obtain ⟨hF, hM, ⟨oo, hO⟩, hX⟩ := id hS
  refine R_aload_n rfl rfl ?_
  refine R_vcall rfl rfl ⟨by omega, _, hF.1⟩ ⟨Nat.le_of_ble_eq_true rfl, Nat.le_of_ble_eq_true rfl, show k + 0 ≤ 601024 by omega, show n + 0 ≤ 7293034 by omega⟩ (possible_C hF (by omega) (fun h1 hF1 f1 => aRes_d rfl ?_))
  have hM1 := isMo_far hM (fun j a b => f1 j a)
  have hX1 : h1 aRO = eI L (fun j => (xs j).toInt) := (f1 aRO (by omega)).trans hX
  obtain ⟨S1, m1, -⟩ := hM1.1.z
  refine R_aload_n rfl rfl ?_
  refine R_vcall rfl rfl ⟨by omega, _, m1⟩ ⟨Nat.le_of_ble_eq_true rfl, Nat.le_of_ble_eq_true rfl, show k + 0 ≤ 601024 by omega, show n + 0 ≤ 7293034 by omega⟩ (mPossible_T hM1 (by omega) (fun h2 b2 hM2 f2 v2 => aRes_i (rest := [_]) ?_))
  have hO2 := (f2 139 (by omega)).trans ((f1 139 (by omega)).trans hO)
  have w2 := v2 rfl
  exact R_icmpeq rfl (opPossible_r hF) (by rw [w2]; exact opPossible_r hF) (fun c => hK h2 _ _ _ _ _ _ ⟨isFace_far hF1 (fun j hj => f2 j (by omega)), hM2, ⟨_, hO2⟩, (f2 aRO (by omega)).trans hX1⟩ (by omega) (by omega)) (fun c => absurd w2.symm c)
set_option maxRecDepth 20000 in
theorem lw_fillings {d L k n : Nat} {xs : Nat → Int32} {h : AH} {y : Sy} {th zi : Int} {l5 l6 : Option AV} (hS : isLw h y th L xs) (hi : 0 ≤ zi ∧ zi + 4 ≤ L ∧ L ≤ 2048) (hk : k + 3 ≤ 601024) (hn : n + 18 ≤ 7293034) (hK : ∀ (h' : AH) (y' : Sy) (th' : Int) (l5 l6 : Option AV) (k' n' : Nat), isLw h' y' th' L xs → k' ≤ k + 3 → n' ≤ n + 18 → Run mi_L_law (T (d + 40)) qLaw 1534 [some (vR aRO), some (vR 0), some (vR 122), some (vR 139), some (vI zi), l5, l6] [] h' 140 k' n') : Run mi_L_law (T (d + 40)) qLaw 1183 [some (vR aRO), some (vR 0), some (vR 122), some (vR 139), some (vI zi), l5, l6] [] h 140 k n := by
  obtain ⟨G, hist, sl, n0, tx⟩ := y
  have hRO : aRO = 1000 := rfl
  obtain ⟨hF, hM, ⟨oo, hO⟩, hX⟩ := id hS
  refine R_aload_n rfl rfl ?_
  refine R_vcall rfl rfl ⟨by omega, _, hF.1⟩ ⟨Nat.le_of_ble_eq_true rfl, Nat.le_of_ble_eq_true rfl, show k + 0 ≤ 601024 by omega, show n + 0 ≤ 7293034 by omega⟩ (fillings_C hF (by omega) (fun h1 hF1 f1 => aRes_d rfl ?_))
  have hM1 := isMo_far hM (fun j a b => f1 j a)
  have hX1 : h1 aRO = eI L (fun j => (xs j).toInt) := (f1 aRO (by omega)).trans hX
  obtain ⟨S1, m1, -⟩ := hM1.1.z
  refine R_aload_n rfl rfl ?_
  refine R_vcall rfl rfl ⟨by omega, _, m1⟩ ⟨Nat.le_of_ble_eq_true rfl, Nat.le_of_ble_eq_true rfl, show k + 0 ≤ 601024 by omega, show n + 0 ≤ 7293034 by omega⟩ (mFillings_T hM1 (by omega) (fun h2 b2 hM2 f2 v2 => aRes_i (rest := [_]) ?_))
  have hO2 := (f2 139 (by omega)).trans ((f1 139 (by omega)).trans hO)
  have w2 := v2 rfl
  exact R_icmpeq rfl (opFillings_r hF) (by rw [w2]; exact opFillings_r hF) (fun c => hK h2 _ _ _ _ _ _ ⟨isFace_far hF1 (fun j hj => f2 j (by omega)), hM2, ⟨_, hO2⟩, (f2 aRO (by omega)).trans hX1⟩ (by omega) (by omega)) (fun c => absurd w2.symm c)
set_option maxRecDepth 20000 in
theorem lw_mend {d L k n : Nat} {xs : Nat → Int32} {h : AH} {y : Sy} {th zi : Int} {l5 l6 : Option AV} (hS : isLw h y th L xs) (hi : 0 ≤ zi ∧ zi + 4 ≤ L ∧ L ≤ 2048) (hk : k + 3 ≤ 601024) (hn : n + 18 ≤ 7293034) (hK : ∀ (h' : AH) (y' : Sy) (th' : Int) (l5 l6 : Option AV) (k' n' : Nat), isLw h' y' th' L xs → k' ≤ k + 3 → n' ≤ n + 18 → Run mi_L_law (T (d + 40)) qLaw 1534 [some (vR aRO), some (vR 0), some (vR 122), some (vR 139), some (vI zi), l5, l6] [] h' 140 k' n') : Run mi_L_law (T (d + 40)) qLaw 1196 [some (vR aRO), some (vR 0), some (vR 122), some (vR 139), some (vI zi), l5, l6] [] h 140 k n := by
  obtain ⟨G, hist, sl, n0, tx⟩ := y
  have hRO : aRO = 1000 := rfl
  obtain ⟨hF, hM, ⟨oo, hO⟩, hX⟩ := id hS
  refine R_aload_n rfl rfl ?_
  refine R_vcall rfl rfl ⟨by omega, _, hF.1⟩ ⟨Nat.le_of_ble_eq_true rfl, Nat.le_of_ble_eq_true rfl, show k + 0 ≤ 601024 by omega, show n + 0 ≤ 7293034 by omega⟩ (mend_C hF (by omega) (fun h1 hF1 f1 => aRes_d rfl ?_))
  have hM1 := isMo_far hM (fun j a b => f1 j a)
  have hX1 : h1 aRO = eI L (fun j => (xs j).toInt) := (f1 aRO (by omega)).trans hX
  obtain ⟨S1, m1, -⟩ := hM1.1.z
  refine R_aload_n rfl rfl ?_
  refine R_vcall rfl rfl ⟨by omega, _, m1⟩ ⟨Nat.le_of_ble_eq_true rfl, Nat.le_of_ble_eq_true rfl, show k + 0 ≤ 601024 by omega, show n + 0 ≤ 7293034 by omega⟩ (mMend_T hM1 (by omega) (fun h2 b2 hM2 f2 v2 => aRes_i (rest := [_]) ?_))
  have hO2 := (f2 139 (by omega)).trans ((f1 139 (by omega)).trans hO)
  have w2 := v2 rfl
  exact R_icmpeq rfl (opMend_r hF) (by rw [w2]; exact opMend_r hF) (fun c => hK h2 _ _ _ _ _ _ ⟨isFace_far hF1 (fun j hj => f2 j (by omega)), hM2, ⟨_, hO2⟩, (f2 aRO (by omega)).trans hX1⟩ (by omega) (by omega)) (fun c => absurd w2.symm c)
set_option maxRecDepth 20000 in
theorem lw_hardest {d L k n : Nat} {xs : Nat → Int32} {h : AH} {y : Sy} {th zi : Int} {l5 l6 : Option AV} (hS : isLw h y th L xs) (hi : 0 ≤ zi ∧ zi + 4 ≤ L ∧ L ≤ 2048) (hk : k + 3 ≤ 601024) (hn : n + 18 ≤ 7293034) (hK : ∀ (h' : AH) (y' : Sy) (th' : Int) (l5 l6 : Option AV) (k' n' : Nat), isLw h' y' th' L xs → k' ≤ k + 3 → n' ≤ n + 18 → Run mi_L_law (T (d + 40)) qLaw 1534 [some (vR aRO), some (vR 0), some (vR 122), some (vR 139), some (vI zi), l5, l6] [] h' 140 k' n') : Run mi_L_law (T (d + 40)) qLaw 1209 [some (vR aRO), some (vR 0), some (vR 122), some (vR 139), some (vI zi), l5, l6] [] h 140 k n := by
  obtain ⟨G, hist, sl, n0, tx⟩ := y
  have hRO : aRO = 1000 := rfl
  obtain ⟨hF, hM, ⟨oo, hO⟩, hX⟩ := id hS
  refine R_aload_n rfl rfl ?_
  refine R_vcall rfl rfl ⟨by omega, _, hF.1⟩ ⟨Nat.le_of_ble_eq_true rfl, Nat.le_of_ble_eq_true rfl, show k + 0 ≤ 601024 by omega, show n + 0 ≤ 7293034 by omega⟩ (hardest_C hF (by omega) (fun h1 hF1 f1 => aRes_d rfl ?_))
  have hM1 := isMo_far hM (fun j a b => f1 j a)
  have hX1 : h1 aRO = eI L (fun j => (xs j).toInt) := (f1 aRO (by omega)).trans hX
  obtain ⟨S1, m1, -⟩ := hM1.1.z
  refine R_aload_n rfl rfl ?_
  refine R_vcall rfl rfl ⟨by omega, _, m1⟩ ⟨Nat.le_of_ble_eq_true rfl, Nat.le_of_ble_eq_true rfl, show k + 0 ≤ 601024 by omega, show n + 0 ≤ 7293034 by omega⟩ (mHardest_T hM1 (by omega) (fun h2 b2 hM2 f2 v2 => aRes_i (rest := [_]) ?_))
  have hO2 := (f2 139 (by omega)).trans ((f1 139 (by omega)).trans hO)
  have w2 := v2 rfl
  exact R_icmpeq rfl (opHardest_r hF) (by rw [w2]; exact opHardest_r hF) (fun c => hK h2 _ _ _ _ _ _ ⟨isFace_far hF1 (fun j hj => f2 j (by omega)), hM2, ⟨_, hO2⟩, (f2 aRO (by omega)).trans hX1⟩ (by omega) (by omega)) (fun c => absurd w2.symm c)
set_option maxRecDepth 20000 in
theorem lw_runScript {d L k n : Nat} {xs : Nat → Int32} {h : AH} {y : Sy} {th zi : Int} {l5 l6 : Option AV} (hS : isLw h y th L xs) (hi : 0 ≤ zi ∧ zi + 4 ≤ L ∧ L ≤ 2048) (hk : k + 3 ≤ 601024) (hn : n + 18 ≤ 7293034) (hK : ∀ (h' : AH) (y' : Sy) (th' : Int) (l5 l6 : Option AV) (k' n' : Nat), isLw h' y' th' L xs → k' ≤ k + 3 → n' ≤ n + 18 → Run mi_L_law (T (d + 40)) qLaw 1534 [some (vR aRO), some (vR 0), some (vR 122), some (vR 139), some (vI zi), l5, l6] [] h' 140 k' n') : Run mi_L_law (T (d + 40)) qLaw 1222 [some (vR aRO), some (vR 0), some (vR 122), some (vR 139), some (vI zi), l5, l6] [] h 140 k n := by
  obtain ⟨G, hist, sl, n0, tx⟩ := y
  have hRO : aRO = 1000 := rfl
  obtain ⟨hF, hM, ⟨oo, hO⟩, hX⟩ := id hS
  refine R_aload_n rfl rfl ?_
  refine R_aload_n rfl rfl ?_
  refine R_iload rfl rfl ?_
  refine R_iconst rfl ?_
  refine R_iadd rfl ?_
  refine R_iaload rfl (Or.inr (Or.inl rfl)) hX ⟨by omega, by omega, by omega⟩ ?_
  refine R_aload_n rfl rfl ?_
  refine R_iload rfl rfl ?_
  refine R_iconst rfl ?_
  refine R_iadd rfl ?_
  refine R_iaload rfl (Or.inr (Or.inl rfl)) hX ⟨by omega, by omega, by omega⟩ ?_
  refine R_i2l rfl ?_
  refine R_bipush rfl ?_
  refine R_lshl rfl ?_
  refine R_aload_n rfl rfl ?_
  refine R_iload rfl rfl ?_
  refine R_iconst rfl ?_
  refine R_iadd rfl ?_
  refine R_iaload rfl (Or.inr (Or.inl rfl)) hX ⟨by omega, by omega, by omega⟩ ?_
  refine R_i2l rfl ?_
  refine R_ldc2_w rfl rfl ?_
  refine R_land rfl ?_
  refine R_lor rfl ?_
  refine R_aload_n rfl rfl ?_
  refine R_xcall rfl rfl ⟨Nat.le_of_ble_eq_true rfl, Nat.le_of_ble_eq_true rfl, show k + 1 ≤ 601024 by omega, show n + 6 ≤ 7293034 by omega⟩ (lRunScript_T hF hO (Nat.le_refl _) (xs_r _) (fun h1 o1 z1 hF1 hO1 f1 v1 hz1 hz2 => aRes_q7 ?_))
  refine R_istore (lv' := [_, _, _, _, _, _, _]) rfl rfl ?_
  have hM1 := isMo_far hM (fun j a b => f1 j a (by omega))
  have hX1 : h1 aRO = eI L (fun j => (xs j).toInt) := (f1 aRO (by omega) (by omega)).trans hX
  obtain ⟨S1, m1, -⟩ := hM1.1.z
  refine R_aload_n rfl rfl ?_
  refine R_aload_n rfl rfl ?_
  refine R_iload rfl rfl ?_
  refine R_iconst rfl ?_
  refine R_iadd rfl ?_
  refine R_iaload rfl (Or.inr (Or.inl rfl)) hX1 ⟨by omega, by omega, by omega⟩ ?_
  refine R_aload_n rfl rfl ?_
  refine R_iload rfl rfl ?_
  refine R_iconst rfl ?_
  refine R_iadd rfl ?_
  refine R_iaload rfl (Or.inr (Or.inl rfl)) hX1 ⟨by omega, by omega, by omega⟩ ?_
  refine R_i2l rfl ?_
  refine R_bipush rfl ?_
  refine R_lshl rfl ?_
  refine R_aload_n rfl rfl ?_
  refine R_iload rfl rfl ?_
  refine R_iconst rfl ?_
  refine R_iadd rfl ?_
  refine R_iaload rfl (Or.inr (Or.inl rfl)) hX1 ⟨by omega, by omega, by omega⟩ ?_
  refine R_i2l rfl ?_
  refine R_ldc2_w rfl rfl ?_
  refine R_land rfl ?_
  refine R_lor rfl ?_
  refine R_vcall rfl rfl ⟨by omega, _, m1⟩ ⟨Nat.le_of_ble_eq_true rfl, Nat.le_of_ble_eq_true rfl, show k + 1 + 0 ≤ 601024 by omega, show n + 6 + 0 ≤ 7293034 by omega⟩ (mRunScript_T hM1 (by omega) (xs_r _) (fun h2 b2 hM2 f2 v2 => aRes_i (rest := []) ?_))
  refine R_istore (lv' := [_, _, _, _, _, _, _]) rfl rfl ?_
  have hO2 := (f2 139 (by omega)).trans hO1
  obtain ⟨S2, m2, -⟩ := hM2.1.z
  refine R_aload_n rfl rfl ?_
  refine R_vcall rfl rfl ⟨by omega, _, m2⟩ ⟨Nat.le_of_ble_eq_true rfl, Nat.le_of_ble_eq_true rfl, show k + 1 + 0 ≤ 601024 by omega, show n + 6 + 0 ≤ 7293034 by omega⟩ (mThrown_T hM2.1.z hM2.2.1 (by omega) (fun z3 hz3 => aRes_i (rest := []) ?_))
  refine R_iload rfl rfl ?_
  have hzz : z3 = z1 := hz3.trans hz1.symm
  refine R_icmpeq rfl ⟨by omega, by omega⟩ ⟨by omega, by omega⟩ (fun c1 => ?_) (fun c1 => absurd hzz c1)
  refine R_iload rfl rfl ?_
  refine R_ifne rfl ⟨by omega, by omega⟩ (fun c2 => ?_) (fun c2 => ?_)
  · refine R_goto rfl ?_
    exact hK h2 _ _ _ _ _ _ ⟨isFace_far hF1 (fun j hj => f2 j (by omega)), hM2, ⟨_, hO2⟩, (f2 aRO (by omega)).trans hX1⟩ (by omega) (by omega)
  · have w1 := v1 (by omega)
    have w2 := v2 (by omega)
    refine R_aload_n rfl rfl ?_
    refine R_iconst rfl ?_
    refine R_laload rfl (by omega) hO2 ⟨by omega, by omega, by omega⟩ ?_
    refine R_iload rfl rfl ?_
    refine R_i2l rfl ?_
    have w3 : (lg_cmp (o1 (0 : Int).toNat) (iI b2).toInt64).toInt = 0 := (cmp0 _ _).mpr (by rw [w2]; exact w1)
    refine R_lcmp rfl ?_
    refine R_ifeq rfl (by rw [w3]; exact ⟨by decide, by decide⟩) (fun c3 => ?_) (fun c3 => absurd w3 c3)
    refine R_goto rfl ?_
    exact hK h2 _ _ _ _ _ _ ⟨isFace_far hF1 (fun j hj => f2 j (by omega)), hM2, ⟨_, hO2⟩, (f2 aRO (by omega)).trans hX1⟩ (by omega) (by omega)
set_option maxRecDepth 20000 in
theorem lw_simulate {d L k n : Nat} {xs : Nat → Int32} {h : AH} {y : Sy} {th zi : Int} {l5 l6 : Option AV} (hS : isLw h y th L xs) (hi : 0 ≤ zi ∧ zi + 4 ≤ L ∧ L ≤ 2048) (hk : k + 3 ≤ 601024) (hn : n + 18 ≤ 7293034) (hK : ∀ (h' : AH) (y' : Sy) (th' : Int) (l5 l6 : Option AV) (k' n' : Nat), isLw h' y' th' L xs → k' ≤ k + 3 → n' ≤ n + 18 → Run mi_L_law (T (d + 40)) qLaw 1534 [some (vR aRO), some (vR 0), some (vR 122), some (vR 139), some (vI zi), l5, l6] [] h' 140 k' n') : Run mi_L_law (T (d + 40)) qLaw 1322 [some (vR aRO), some (vR 0), some (vR 122), some (vR 139), some (vI zi), l5, l6] [] h 140 k n := by
  obtain ⟨G, hist, sl, n0, tx⟩ := y
  have hRO : aRO = 1000 := rfl
  obtain ⟨hF, hM, ⟨oo, hO⟩, hX⟩ := id hS
  refine R_aload_n rfl rfl ?_
  refine R_aload_n rfl rfl ?_
  refine R_iload rfl rfl ?_
  refine R_iconst rfl ?_
  refine R_iadd rfl ?_
  refine R_iaload rfl (Or.inr (Or.inl rfl)) hX ⟨by omega, by omega, by omega⟩ ?_
  refine R_i2l rfl ?_
  refine R_bipush rfl ?_
  refine R_lshl rfl ?_
  refine R_aload_n rfl rfl ?_
  refine R_iload rfl rfl ?_
  refine R_iconst rfl ?_
  refine R_iadd rfl ?_
  refine R_iaload rfl (Or.inr (Or.inl rfl)) hX ⟨by omega, by omega, by omega⟩ ?_
  refine R_i2l rfl ?_
  refine R_ldc2_w rfl rfl ?_
  refine R_land rfl ?_
  refine R_lor rfl ?_
  refine R_aload_n rfl rfl ?_
  refine R_iload rfl rfl ?_
  refine R_iconst rfl ?_
  refine R_iadd rfl ?_
  refine R_iaload rfl (Or.inr (Or.inl rfl)) hX ⟨by omega, by omega, by omega⟩ ?_
  refine R_aload_n rfl rfl ?_
  refine R_xcall rfl rfl ⟨Nat.le_of_ble_eq_true rfl, Nat.le_of_ble_eq_true rfl, show k + 1 ≤ 601024 by omega, show n + 6 ≤ 7293034 by omega⟩ (lSimulate_T hF hO (Nat.le_refl _) (xs_r _) (fun h1 o1 z1 hF1 hO1 f1 v1 hz1 hz2 => aRes_q7 ?_))
  refine R_istore (lv' := [_, _, _, _, _, _, _]) rfl rfl ?_
  have hM1 := isMo_far hM (fun j a b => f1 j a (by omega))
  have hX1 : h1 aRO = eI L (fun j => (xs j).toInt) := (f1 aRO (by omega) (by omega)).trans hX
  obtain ⟨S1, m1, -⟩ := hM1.1.z
  refine R_aload_n rfl rfl ?_
  refine R_aload_n rfl rfl ?_
  refine R_iload rfl rfl ?_
  refine R_iconst rfl ?_
  refine R_iadd rfl ?_
  refine R_iaload rfl (Or.inr (Or.inl rfl)) hX1 ⟨by omega, by omega, by omega⟩ ?_
  refine R_i2l rfl ?_
  refine R_bipush rfl ?_
  refine R_lshl rfl ?_
  refine R_aload_n rfl rfl ?_
  refine R_iload rfl rfl ?_
  refine R_iconst rfl ?_
  refine R_iadd rfl ?_
  refine R_iaload rfl (Or.inr (Or.inl rfl)) hX1 ⟨by omega, by omega, by omega⟩ ?_
  refine R_i2l rfl ?_
  refine R_ldc2_w rfl rfl ?_
  refine R_land rfl ?_
  refine R_lor rfl ?_
  refine R_aload_n rfl rfl ?_
  refine R_iload rfl rfl ?_
  refine R_iconst rfl ?_
  refine R_iadd rfl ?_
  refine R_iaload rfl (Or.inr (Or.inl rfl)) hX1 ⟨by omega, by omega, by omega⟩ ?_
  refine R_vcall rfl rfl ⟨by omega, _, m1⟩ ⟨Nat.le_of_ble_eq_true rfl, Nat.le_of_ble_eq_true rfl, show k + 1 + 0 ≤ 601024 by omega, show n + 6 + 0 ≤ 7293034 by omega⟩ (mSimulate_T hM1 (by omega) (xs_r _) (fun h2 b2 hM2 f2 v2 => aRes_i (rest := []) ?_))
  refine R_istore (lv' := [_, _, _, _, _, _, _]) rfl rfl ?_
  have hO2 := (f2 139 (by omega)).trans hO1
  obtain ⟨S2, m2, -⟩ := hM2.1.z
  refine R_aload_n rfl rfl ?_
  refine R_vcall rfl rfl ⟨by omega, _, m2⟩ ⟨Nat.le_of_ble_eq_true rfl, Nat.le_of_ble_eq_true rfl, show k + 1 + 0 ≤ 601024 by omega, show n + 6 + 0 ≤ 7293034 by omega⟩ (mThrown_T hM2.1.z hM2.2.1 (by omega) (fun z3 hz3 => aRes_i (rest := []) ?_))
  refine R_iload rfl rfl ?_
  have hzz : z3 = z1 := hz3.trans hz1.symm
  refine R_icmpeq rfl ⟨by omega, by omega⟩ ⟨by omega, by omega⟩ (fun c1 => ?_) (fun c1 => absurd hzz c1)
  refine R_iload rfl rfl ?_
  refine R_ifne rfl ⟨by omega, by omega⟩ (fun c2 => ?_) (fun c2 => ?_)
  · refine R_goto rfl ?_
    exact hK h2 _ _ _ _ _ _ ⟨isFace_far hF1 (fun j hj => f2 j (by omega)), hM2, ⟨_, hO2⟩, (f2 aRO (by omega)).trans hX1⟩ (by omega) (by omega)
  · have w1 := v1 (by omega)
    have w2 := v2 (by omega)
    refine R_aload_n rfl rfl ?_
    refine R_iconst rfl ?_
    refine R_laload rfl (by omega) hO2 ⟨by omega, by omega, by omega⟩ ?_
    refine R_iload rfl rfl ?_
    refine R_i2l rfl ?_
    have w3 : (lg_cmp (o1 (0 : Int).toNat) (iI b2).toInt64).toInt = 0 := (cmp0 _ _).mpr (by rw [w2]; exact w1)
    refine R_lcmp rfl ?_
    refine R_ifeq rfl (by rw [w3]; exact ⟨by decide, by decide⟩) (fun c3 => ?_) (fun c3 => absurd w3 c3)
    refine R_goto rfl ?_
    exact hK h2 _ _ _ _ _ _ ⟨isFace_far hF1 (fun j hj => f2 j (by omega)), hM2, ⟨_, hO2⟩, (f2 aRO (by omega)).trans hX1⟩ (by omega) (by omega)
set_option maxRecDepth 20000 in
theorem lw_save {d L k n : Nat} {xs : Nat → Int32} {h : AH} {y : Sy} {th zi : Int} {l5 l6 : Option AV} (hS : isLw h y th L xs) (hi : 0 ≤ zi ∧ zi + 4 ≤ L ∧ L ≤ 2048) (hk : k + 3 ≤ 601024) (hn : n + 18 ≤ 7293034) (hK : ∀ (h' : AH) (y' : Sy) (th' : Int) (l5 l6 : Option AV) (k' n' : Nat), isLw h' y' th' L xs → k' ≤ k + 3 → n' ≤ n + 18 → Run mi_L_law (T (d + 40)) qLaw 1534 [some (vR aRO), some (vR 0), some (vR 122), some (vR 139), some (vI zi), l5, l6] [] h' 140 k' n') : Run mi_L_law (T (d + 40)) qLaw 1422 [some (vR aRO), some (vR 0), some (vR 122), some (vR 139), some (vI zi), l5, l6] [] h 140 k n := by
  obtain ⟨G, hist, sl, n0, tx⟩ := y
  have hRO : aRO = 1000 := rfl
  obtain ⟨hF, hM, ⟨oo, hO⟩, hX⟩ := id hS
  refine R_aload_n rfl rfl ?_
  refine R_aload_n rfl rfl ?_
  refine R_iload rfl rfl ?_
  refine R_iconst rfl ?_
  refine R_iadd rfl ?_
  refine R_iaload rfl (Or.inr (Or.inl rfl)) hX ⟨by omega, by omega, by omega⟩ ?_
  refine R_aload_n rfl rfl ?_
  refine R_xcall rfl rfl ⟨Nat.le_of_ble_eq_true rfl, Nat.le_of_ble_eq_true rfl, show k + 1 ≤ 601024 by omega, show n + 6 ≤ 7293034 by omega⟩ (lSave_T hF hO (Nat.le_refl _) (xs_r _) (fun h1 o1 z1 hF1 hO1 f1 v1 hz1 hz2 => aRes_q7 ?_))
  refine R_istore (lv' := [_, _, _, _, _, _, _]) rfl rfl ?_
  have hM1 := isMo_far hM (fun j a b => f1 j a (by omega))
  have hX1 : h1 aRO = eI L (fun j => (xs j).toInt) := (f1 aRO (by omega) (by omega)).trans hX
  obtain ⟨S1, m1, -⟩ := hM1.1.z
  refine R_aload_n rfl rfl ?_
  refine R_aload_n rfl rfl ?_
  refine R_iload rfl rfl ?_
  refine R_iconst rfl ?_
  refine R_iadd rfl ?_
  refine R_iaload rfl (Or.inr (Or.inl rfl)) hX1 ⟨by omega, by omega, by omega⟩ ?_
  refine R_vcall rfl rfl ⟨by omega, _, m1⟩ ⟨Nat.le_of_ble_eq_true rfl, Nat.le_of_ble_eq_true rfl, show k + 1 + 0 ≤ 601024 by omega, show n + 6 + 0 ≤ 7293034 by omega⟩ (mSave_T hM1 (by omega) (xs_r _) (fun h2 b2 hM2 f2 v2 => aRes_i (rest := []) ?_))
  refine R_istore (lv' := [_, _, _, _, _, _, _]) rfl rfl ?_
  have hO2 := (f2 139 (by omega)).trans hO1
  obtain ⟨S2, m2, -⟩ := hM2.1.z
  refine R_aload_n rfl rfl ?_
  refine R_vcall rfl rfl ⟨by omega, _, m2⟩ ⟨Nat.le_of_ble_eq_true rfl, Nat.le_of_ble_eq_true rfl, show k + 1 + 0 ≤ 601024 by omega, show n + 6 + 0 ≤ 7293034 by omega⟩ (mThrown_T hM2.1.z hM2.2.1 (by omega) (fun z3 hz3 => aRes_i (rest := []) ?_))
  refine R_iload rfl rfl ?_
  have hzz : z3 = z1 := hz3.trans hz1.symm
  refine R_icmpeq rfl ⟨by omega, by omega⟩ ⟨by omega, by omega⟩ (fun c1 => ?_) (fun c1 => absurd hzz c1)
  refine R_iload rfl rfl ?_
  refine R_ifne rfl ⟨by omega, by omega⟩ (fun c2 => ?_) (fun c2 => ?_)
  · refine R_goto rfl ?_
    exact hK h2 _ _ _ _ _ _ ⟨isFace_far hF1 (fun j hj => f2 j (by omega)), hM2, ⟨_, hO2⟩, (f2 aRO (by omega)).trans hX1⟩ (by omega) (by omega)
  · have w1 := v1 (by omega)
    have w2 := v2 (by omega)
    refine R_aload_n rfl rfl ?_
    refine R_iconst rfl ?_
    refine R_laload rfl (by omega) hO2 ⟨by omega, by omega, by omega⟩ ?_
    refine R_iload rfl rfl ?_
    refine R_i2l rfl ?_
    have w3 : (lg_cmp (o1 (0 : Int).toNat) (iI b2).toInt64).toInt = 0 := (cmp0 _ _).mpr (by rw [w2]; exact w1)
    refine R_lcmp rfl ?_
    refine R_ifeq rfl (by rw [w3]; exact ⟨by decide, by decide⟩) (fun c3 => ?_) (fun c3 => absurd w3 c3)
    refine R_goto rfl ?_
    exact hK h2 _ _ _ _ _ _ ⟨isFace_far hF1 (fun j hj => f2 j (by omega)), hM2, ⟨_, hO2⟩, (f2 aRO (by omega)).trans hX1⟩ (by omega) (by omega)
set_option maxRecDepth 20000 in
theorem lw_restore {d L k n : Nat} {xs : Nat → Int32} {h : AH} {y : Sy} {th zi : Int} {l5 l6 : Option AV} (hS : isLw h y th L xs) (hi : 0 ≤ zi ∧ zi + 4 ≤ L ∧ L ≤ 2048) (hk : k + 3 ≤ 601024) (hn : n + 18 ≤ 7293034) (hK : ∀ (h' : AH) (y' : Sy) (th' : Int) (l5 l6 : Option AV) (k' n' : Nat), isLw h' y' th' L xs → k' ≤ k + 3 → n' ≤ n + 18 → Run mi_L_law (T (d + 40)) qLaw 1534 [some (vR aRO), some (vR 0), some (vR 122), some (vR 139), some (vI zi), l5, l6] [] h' 140 k' n') : Run mi_L_law (T (d + 40)) qLaw 1478 [some (vR aRO), some (vR 0), some (vR 122), some (vR 139), some (vI zi), l5, l6] [] h 140 k n := by
  obtain ⟨G, hist, sl, n0, tx⟩ := y
  have hRO : aRO = 1000 := rfl
  obtain ⟨hF, hM, ⟨oo, hO⟩, hX⟩ := id hS
  refine R_aload_n rfl rfl ?_
  refine R_aload_n rfl rfl ?_
  refine R_iload rfl rfl ?_
  refine R_iconst rfl ?_
  refine R_iadd rfl ?_
  refine R_iaload rfl (Or.inr (Or.inl rfl)) hX ⟨by omega, by omega, by omega⟩ ?_
  refine R_aload_n rfl rfl ?_
  refine R_xcall rfl rfl ⟨Nat.le_of_ble_eq_true rfl, Nat.le_of_ble_eq_true rfl, show k + 2 ≤ 601024 by omega, show n + 12 ≤ 7293034 by omega⟩ (lRestore_T hF hO (Nat.le_refl _) (xs_r _) (fun h1 o1 z1 hF1 hO1 f1 v1 hz1 hz2 => aRes_q7 ?_))
  refine R_istore (lv' := [_, _, _, _, _, _, _]) rfl rfl ?_
  have hM1 := isMo_far hM (fun j a b => f1 j a (by omega))
  have hX1 : h1 aRO = eI L (fun j => (xs j).toInt) := (f1 aRO (by omega) (by omega)).trans hX
  obtain ⟨S1, m1, -⟩ := hM1.1.z
  refine R_aload_n rfl rfl ?_
  refine R_aload_n rfl rfl ?_
  refine R_iload rfl rfl ?_
  refine R_iconst rfl ?_
  refine R_iadd rfl ?_
  refine R_iaload rfl (Or.inr (Or.inl rfl)) hX1 ⟨by omega, by omega, by omega⟩ ?_
  refine R_vcall rfl rfl ⟨by omega, _, m1⟩ ⟨Nat.le_of_ble_eq_true rfl, Nat.le_of_ble_eq_true rfl, show k + 2 + 0 ≤ 601024 by omega, show n + 12 + 0 ≤ 7293034 by omega⟩ (mRestore_T hM1 (by omega) (xs_r _) (fun h2 b2 hM2 f2 v2 => aRes_i (rest := []) ?_))
  refine R_istore (lv' := [_, _, _, _, _, _, _]) rfl rfl ?_
  have hO2 := (f2 139 (by omega)).trans hO1
  obtain ⟨S2, m2, -⟩ := hM2.1.z
  refine R_aload_n rfl rfl ?_
  refine R_vcall rfl rfl ⟨by omega, _, m2⟩ ⟨Nat.le_of_ble_eq_true rfl, Nat.le_of_ble_eq_true rfl, show k + 2 + 0 ≤ 601024 by omega, show n + 12 + 0 ≤ 7293034 by omega⟩ (mThrown_T hM2.1.z hM2.2.1 (by omega) (fun z3 hz3 => aRes_i (rest := []) ?_))
  refine R_iload rfl rfl ?_
  have hzz : z3 = z1 := hz3.trans hz1.symm
  refine R_icmpeq rfl ⟨by omega, by omega⟩ ⟨by omega, by omega⟩ (fun c1 => ?_) (fun c1 => absurd hzz c1)
  refine R_iload rfl rfl ?_
  refine R_ifne rfl ⟨by omega, by omega⟩ (fun c2 => ?_) (fun c2 => ?_)
  · refine R_goto rfl ?_
    exact hK h2 _ _ _ _ _ _ ⟨isFace_far hF1 (fun j hj => f2 j (by omega)), hM2, ⟨_, hO2⟩, (f2 aRO (by omega)).trans hX1⟩ (by omega) (by omega)
  · have w1 := v1 (by omega)
    have w2 := v2 (by omega)
    refine R_aload_n rfl rfl ?_
    refine R_iconst rfl ?_
    refine R_laload rfl (by omega) hO2 ⟨by omega, by omega, by omega⟩ ?_
    refine R_iload rfl rfl ?_
    refine R_i2l rfl ?_
    have w3 : (lg_cmp (o1 (0 : Int).toNat) (iI b2).toInt64).toInt = 0 := (cmp0 _ _).mpr (by rw [w2]; exact w1)
    refine R_lcmp rfl ?_
    refine R_ifeq rfl (by rw [w3]; exact ⟨by decide, by decide⟩) (fun c3 => ?_) (fun c3 => absurd w3 c3)
    refine R_goto rfl ?_
    exact hK h2 _ _ _ _ _ _ ⟨isFace_far hF1 (fun j hj => f2 j (by omega)), hM2, ⟨_, hO2⟩, (f2 aRO (by omega)).trans hX1⟩ (by omega) (by omega)
