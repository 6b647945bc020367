/-! ===== the face: words, rules, readings ===== -/
def worG (G : Gr) (w i : Nat) : Int := if i < qWn G w then qWl G w i else -9
theorem isFace_se {h h' : AH} {y : Sy} (hF : isFace h y) (hE : isSe h') (ho : fr h h' 116 3) : isFace h' y := by
  obtain ⟨b0, ⟨p, hT⟩, ⟨G, hS⟩, hP, hG, ⟨Gr9, hPt⟩, hM, hSe, hFl, hst⟩ := hF
  exact ⟨(ho _ (by omega)).trans b0, ⟨p, isTx_fr hT (ho _ (by omega)) (ho _ (by omega))⟩, ⟨G, isSt_fr hS (fun j _ _ => ho j (by omega))⟩, isPz_fr hP (fun j _ _ => ho j (by omega)), hG, ⟨Gr9, isPa_fr hPt (fun j _ _ => ho j (by omega))⟩, isMem_fr hM (fun j _ _ => ho j (by omega)), hE, isFl_fr hFl (fun j _ _ => ho j (by omega)), (ho _ (by omega)).trans hst.1, (ho _ (by omega)).trans hst.2⟩
theorem rule_T {d N : Nat} {h : AH} {y : Sy} {Q : AQ} (hF : isFace h y) (hN : 122 ≤ N) {c : Int} (hc : inR c) (hQa : ¬ (0 ≤ c ∧ c < 5) → Q (.inr "java/lang/IllegalArgumentException") h N) (hQ : ∀ r : Nat, c = r → r < 5 → Q (.inl (some (vI (bI (ruG y.1 r))))) h N) : T (d + 6) 100 [vR 0, vI c] h N Q := by
  obtain ⟨hc1, hc2⟩ := id hc
  obtain ⟨b0, ⟨px, hT⟩, ⟨Gt, hSt⟩, hP, hG, ⟨Gr9, hPt⟩, hM, hSe, hFl, hst⟩ := id hF
  obtain ⟨F, Ln, Dn, Ac, Dw, Cl, ⟨p0, hS, -⟩, -⟩ := id hP
  obtain ⟨hm4, hm36⟩ := hG.m
  have hn36 := nE36 hG
  have hW8 := hG.2.2.2.2.1
  obtain ⟨rb, bb, s0⟩ := hS.e0
  refine T_body (I := mi_X8_rule) (lv := [_, _]) rfl (Nat.le_of_ble_eq_true rfl) rfl ?_
  refine R_iload_n rfl rfl ?_
  refine R_iflt rfl ⟨by omega, by omega⟩ (fun c1 => ?_) (fun c1 => ?_)
  · exact R_throw rfl rfl (Nat.le_of_ble_eq_true rfl) (Nat.le_of_ble_eq_true rfl) (Nat.le_of_ble_eq_true rfl) rfl (hQa (by omega))
  · refine R_iload_n rfl rfl ?_
    refine R_iconst rfl ?_
    refine R_icmplt rfl ⟨by omega, by omega⟩ ⟨by decide, by decide⟩ (fun c6 => ?_) (fun c6 => ?_)
    · obtain ⟨r, rfl⟩ := Int.eq_ofNat_of_zero_le (show 0 ≤ c by omega)
      refine R_aload_n rfl rfl ?_
      refine R_getfield rfl rfl (by omega) b0 rfl ?_
      refine R_iload_n rfl rfl ?_
      refine R_scall rfl rfl ⟨Nat.le_of_ble_eq_true rfl, Nat.le_of_ble_eq_true rfl, Nat.zero_le _, Nat.zero_le _⟩ (areKept_T (r := r) hP hG (by omega) (by omega) (fun z24 hz24 => aRes_i (rest := []) ?_))
      have h01 := bI01 (ruG y.1 r)
      rw [← hz24] at h01
      exact R_ireturn rfl (fun _ => by omega) (Nat.zero_le _) (Nat.zero_le _) (by rw [hz24]; exact hQ r rfl (by omega))
    · exact R_throw rfl rfl (Nat.le_of_ble_eq_true rfl) (Nat.le_of_ble_eq_true rfl) (Nat.le_of_ble_eq_true rfl) rfl (hQa (by omega))
theorem readings_T {d N : Nat} {h : AH} {y : Sy} {Q : AQ} (hF : isFace h y) (hN : 122 ≤ N) (hQ : ∀ h', isFace h' y → (∀ j, 122 ≤ j → h' j = h j) → Q (.inl (some (vI (((rdS y.1 false 2147483647).1 : Nat) : Int)))) h' N) : T (d + 18) 101 [vR 0] h N Q := by
  obtain ⟨b0, ⟨px, hT⟩, ⟨Gt, hSt⟩, hP, hG, ⟨Gr9, hPt⟩, hM, hSe, hFl, hst⟩ := id hF
  obtain ⟨F, Ln, Dn, Ac, Dw, Cl, ⟨p0, hS, -⟩, -⟩ := id hP
  obtain ⟨hm4, hm36⟩ := hG.m
  have hn36 := nE36 hG
  have hW8 := hG.2.2.2.2.1
  obtain ⟨rb, bb, s0⟩ := hS.e0
  obtain ⟨e8, l8, f8, g8, us, P, FP, u0, u1, u2⟩ := id hSe
  refine T_body (I := mi_X8_readings) (lv := [_]) rfl (Nat.le_of_ble_eq_true rfl) rfl ?_
  refine R_aload_n rfl rfl ?_
  refine R_getfield rfl rfl (by omega) b0 rfl ?_
  refine R_aload_n rfl rfl ?_
  refine R_getfield rfl rfl (by omega) b0 rfl ?_
  refine R_iconst rfl ?_
  refine R_ldc rfl rfl ?_
  refine R_vcall rfl rfl ⟨(by omega), _, u0⟩ ⟨Nat.le_of_ble_eq_true rfl, Nat.le_of_ble_eq_true rfl, Nat.zero_le _, Nat.zero_le _⟩ (count_T (em := false) (lim := 2147483647) hP hG (by omega) (by omega) hst hSe (by decide) (fun h1 hH1 f1 => aRes_i (rest := []) ?_))
  exact R_ireturn rfl (fun q => absurd q (by decide)) (Nat.zero_le _) (Nat.zero_le _) (hQ h1 (isFace_se hF hH1.se f1) (fun j hj => f1 j (by omega)))
