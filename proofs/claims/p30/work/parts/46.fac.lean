/-! ===== the face: the text ===== -/
theorem isPa_fr {h h' : AH} {k : Nat} {G : Gr} (hP : isPa h k G) (he : ∀ j, k ≤ j → j < k + 12 → h' j = h j) : isPa h' k G := by
  obtain ⟨E, A, C, F, Ln, Dn, Ac, Dw, Cl, p0, hS, p2, p3, p4, p5, p6, p7⟩ := hP
  exact ⟨E, A, C, F, Ln, Dn, Ac, Dw, Cl, (he _ (by omega) (by omega)).trans p0, isSt_fr hS (fun j h1 h2 => he j (by omega) (by omega)), (he _ (by omega) (by omega)).trans p2, (he _ (by omega) (by omega)).trans p3, (he _ (by omega) (by omega)).trans p4, (he _ (by omega) (by omega)).trans p5, (he _ (by omega) (by omega)).trans p6, (he _ (by omega) (by omega)).trans p7⟩
theorem isFl_fr {h h' : AH} (hE : isFl h) (he : ∀ j, 119 ≤ j → j < 122 → h' j = h j) : isFl h' := by
  obtain ⟨w, u, FT, GV, u0, u1, u2⟩ := hE
  exact ⟨w, u, FT, GV, (he _ (by omega) (by omega)).trans u0, (he _ (by omega) (by omega)).trans u1, (he _ (by omega) (by omega)).trans u2⟩
theorem isFace_tx {h h' : AH} {y : Sy} {n : Nat} {tx : Nat → Int} {p : Nat} (hF : isFace h y) (hT : isTx h' n tx p) (ho : ∀ j, j ≠ 1 → j ≠ 7 → h' j = h j) : isFace h' (y.1, y.2.1, y.2.2.1, n, tx) := by
  obtain ⟨b0, -, ⟨Gt, hSt⟩, hP, hG, ⟨Gr9, hPt⟩, hM, hSe, hFl, hst⟩ := hF
  exact ⟨(ho _ (by omega) (by omega)).trans b0, ⟨p, hT⟩, ⟨Gt, isSt_fr hSt (fun j _ _ => ho j (by omega) (by omega))⟩, isPz_fr hP (fun j _ _ => ho j (by omega) (by omega)), hG, ⟨Gr9, isPa_fr hPt (fun j _ _ => ho j (by omega) (by omega))⟩, isMem_fr hM (fun j _ _ => ho j (by omega) (by omega)), isSe_fr hSe (fun j _ _ => ho j (by omega) (by omega)), isFl_fr hFl (fun j _ _ => ho j (by omega) (by omega)), (ho _ (by omega) (by omega)).trans hst.1, (ho _ (by omega) (by omega)).trans hst.2⟩
theorem isFace_gr {h h' : AH} {y : Sy} {p : Nat} {G : Gr} (hF : isFace h y) (hT : isTx h' y.2.2.2.1 y.2.2.2.2 p) (hS : isSt h' 2 G) (ho : fr h h' 1 6) : isFace h' y := by
  obtain ⟨b0, -, -, hP, hG, ⟨Gr9, hPt⟩, hM, hSe, hFl, hst⟩ := hF
  exact ⟨(ho _ (by omega)).trans b0, ⟨p, hT⟩, ⟨G, hS⟩, isPz_fr hP (fun j _ _ => ho j (by omega)), hG, ⟨Gr9, isPa_fr hPt (fun j _ _ => ho j (by omega))⟩, isMem_fr hM (fun j _ _ => ho j (by omega)), isSe_fr hSe (fun j _ _ => ho j (by omega)), isFl_fr hFl (fun j _ _ => ho j (by omega)), (ho _ (by omega)).trans hst.1, (ho _ (by omega)).trans hst.2⟩
theorem append_T {d N : Nat} {h : AH} {y : Sy} {Q : AQ} (hF : isFace h y) (hN : 122 ≤ N) {c : Int} (hc : inR c) (hQa : ¬ (0 ≤ c ∧ c ≤ 255) → Q (.inr "java/lang/IllegalArgumentException") h N) (hQs : (0 ≤ c ∧ c ≤ 255) → y.2.2.2.1 = 150 → Q (.inr "java/lang/IllegalStateException") h N) (hQ : (0 ≤ c ∧ c ≤ 255) → y.2.2.2.1 < 150 → ∀ h', isFace h' (y.1, y.2.1, y.2.2.1, y.2.2.2.1 + 1, va_up y.2.2.2.2 y.2.2.2.1 c) → (∀ j, 122 ≤ j → h' j = h j) → Q (.inl (some (vI ((y.2.2.2.1 + 1 : Nat) : Int)))) h' N) : T (d + 2) 91 [vR 0, vI c] h N Q := by
  obtain ⟨hc1, hc2⟩ := hc
  obtain ⟨b0, ⟨px, hT⟩, ⟨Gt, hSt⟩, hP, hG, ⟨Gr9, hPt⟩, hM, hSe, hFl, hst⟩ := id hF
  obtain ⟨F, Ln, Dn, Ac, Dw, Cl, ⟨p0, hS, -⟩, -⟩ := id hP
  obtain ⟨hm4, hm36⟩ := hG.m
  have hn36 := nE36 hG
  have hW8 := hG.2.2.2.2.1
  obtain ⟨rb, bb, s0⟩ := hS.e0
  obtain ⟨f, t0, t1, hn, hf⟩ := id hT
  refine T_body (I := mi_X8_append) (lv := [_, _]) rfl (Nat.le_of_ble_eq_true rfl) rfl ?_
  refine R_iload_n rfl rfl ?_
  refine R_iflt rfl ⟨by omega, by omega⟩ (fun c1 => ?_) (fun c1 => ?_)
  · exact R_throw rfl rfl (Nat.le_of_ble_eq_true rfl) (Nat.le_of_ble_eq_true rfl) (Nat.le_of_ble_eq_true rfl) rfl (hQa (by omega))
  · refine R_iload_n rfl rfl ?_
    refine R_sipush rfl ?_
    refine R_icmple rfl ⟨by omega, by omega⟩ ⟨by decide, by decide⟩ (fun c8 => ?_) (fun c8 => ?_)
    · refine R_aload_n rfl rfl ?_
      refine R_getfield rfl rfl (by omega) b0 rfl ?_
      refine R_vcall rfl rfl ⟨(by omega), _, t0⟩ ⟨Nat.le_of_ble_eq_true rfl, Nat.le_of_ble_eq_true rfl, Nat.zero_le _, Nat.zero_le _⟩ (isFull_T hT (by omega) (fun z25 hz25 => aRes_i (rest := []) ?_))
      refine R_ifeq rfl ⟨by omega, by omega⟩ (fun c28 => ?_) (fun c28 => ?_)
      · refine R_aload_n rfl rfl ?_
        refine R_getfield rfl rfl (by omega) b0 rfl ?_
        refine R_iload_n rfl rfl ?_
        refine R_vcall rfl rfl ⟨(by omega), _, t0⟩ ⟨Nat.le_of_ble_eq_true rfl, Nat.le_of_ble_eq_true rfl, Nat.zero_le _, Nat.zero_le _⟩ (add_T hT (by omega) (by omega) (by omega) (fun h1 hT1 o1 => aRes_i (rest := []) ?_))
        exact R_ireturn rfl (fun q => absurd q (by decide)) (Nat.zero_le _) (Nat.zero_le _) (hQ (by omega) (by omega) h1 (isFace_tx hF hT1 o1) (fun j hj => o1 j (by omega) (by omega)))
      · exact R_throw rfl rfl (Nat.le_of_ble_eq_true rfl) (Nat.le_of_ble_eq_true rfl) (Nat.le_of_ble_eq_true rfl) rfl (hQs (by omega) (by omega))
    · exact R_throw rfl rfl (Nat.le_of_ble_eq_true rfl) (Nat.le_of_ble_eq_true rfl) (Nat.le_of_ble_eq_true rfl) rfl (hQa (by omega))
theorem errorPosition_T {d N : Nat} {h : AH} {y : Sy} {Q : AQ} (hF : isFace h y) (hN : 122 ≤ N) (hQ : ∀ h', isFace h' y → (∀ j, 122 ≤ j → h' j = h j) → Q (.inl (some (vI (if (gdF y.2.2.2.1 y.2.2.2.2).1 = true then -9 else ((gdF y.2.2.2.1 y.2.2.2.2).2.1 : Int))))) h' N) : T (d + 7) 93 [vR 0] h N Q := by
  obtain ⟨b0, ⟨px, hT⟩, ⟨Gt, hSt⟩, hP, hG, ⟨Gr9, hPt⟩, hM, hSe, hFl, hst⟩ := id hF
  obtain ⟨F, Ln, Dn, Ac, Dw, Cl, ⟨p0, hS, -⟩, -⟩ := id hP
  obtain ⟨hm4, hm36⟩ := hG.m
  have hn36 := nE36 hG
  have hW8 := hG.2.2.2.2.1
  obtain ⟨rb, bb, s0⟩ := hS.e0
  obtain ⟨f, t0, t1, hn, hf⟩ := id hT
  refine T_body (I := mi_X8_errorPosition) (lv := [_]) rfl (Nat.le_of_ble_eq_true rfl) rfl ?_
  refine R_aload_n rfl rfl ?_
  refine R_getfield rfl rfl (by omega) b0 rfl ?_
  refine R_vcall rfl rfl ⟨(by omega), _, t0⟩ ⟨Nat.le_of_ble_eq_true rfl, Nat.le_of_ble_eq_true rfl, Nat.zero_le _, Nat.zero_le _⟩ (readGrid_T hT (by omega) hSt (fun h1 G1 p1 hT1 hS1 hg1 f1 => aRes_i (rest := []) ?_))
  exact R_ireturn rfl (fun q => absurd q (by decide)) (Nat.zero_le _) (Nat.zero_le _) (hQ h1 (isFace_gr hF hT1 hS1 f1) (fun j hj => f1 j (by omega)))
