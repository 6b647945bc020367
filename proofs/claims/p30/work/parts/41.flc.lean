/-! ===== the filler: giving words ===== -/
theorem okc_app {G : Gr} {ch : List Nat} {w : Nat} (h : okc G ch) (hw : w < qW G) (hl : eN G ch.length = qWn G w) : okc G (ch ++ [w]) := by
  intro j x hj
  rcases Nat.lt_or_ge j ch.length with q | q
  · rw [List.getElem?_append_left q] at hj
    exact h j x hj
  · rw [List.getElem?_append_right q] at hj
    have q2 : j - ch.length = 0 := by
      rcases Nat.eq_zero_or_pos (j - ch.length) with r | r
      · exact r
      · rw [List.getElem?_eq_none (by show 1 ≤ _; omega)] at hj
        cases hj
    rw [q2] at hj
    have hj : some w = some x := hj
    cases hj
    rw [show j = ch.length by omega]
    exact ⟨hw, hl⟩
theorem give_0 {G : Gr} (hG : okG G) (hn8 : nE G ≤ 8) {L : Nat} : ∀ (N k : Nat) (h : AH) (Q : AQ) (ways : Nat) (ch : List Nat), isPz h k G → k + 12 ≤ 116 → 122 ≤ N → flH h G ways ch → okc G ch → ch.length + 0 = nE G → (∀ h', flH h' G (ways + flF G 0 ch) ch → fr h h' 119 3 → Q (.inl none) h' N) → T (L + 1) 7 [vR 119, vR k, vI ch.length] h N Q := by
  intro N k h Q ways ch hP hk hN hH hoc hr hQ
  obtain ⟨us, FT, GV, u0, u1, u2, hus, hFT, hGV⟩ := id hH
  obtain ⟨F, Ln, Dn, Ac, Dw, Cl, ⟨p0, hS, p2, p3, p4, p5, p6, p7⟩, hE, hAc, hDw, hCl⟩ := id hP
  obtain ⟨hm4, hm36⟩ := hG.m
  have hn36 := nE36 hG
  have hnE : cnt G (qM G) = nE G := rfl
  obtain ⟨rb, bb, s0⟩ := hS.e0
  have hW8 := hG.2.2.2.2.1
  refine T_body (I := mi_X1_giveFrom) (lv := [_, _, _, _, _]) rfl (Nat.le_of_ble_eq_true rfl) rfl ?_
  refine R_iload_n rfl rfl ?_
  refine R_aload_n rfl rfl ?_
  refine R_getfield rfl rfl (by omega) p0 rfl ?_
  refine R_icmplt rfl ⟨by omega, by omega⟩ ⟨by omega, by omega⟩ (fun c5 => ?_) (fun c5 => ?_)
  · exact absurd c5 (by omega)
  · refine R_aload_n rfl rfl ?_
    refine R_dup rfl rfl ?_
    refine R_getfield rfl rfl (by omega) u0 rfl ?_
    refine R_iconst rfl ?_
    refine R_iadd rfl ?_
    refine R_putfield rfl rfl (by omega) u0 (Nat.le_of_ble_eq_true rfl) (by first | trivial | exact trivial | omega) ?_
    exact R_return rfl (Nat.zero_le _) (Nat.zero_le _) (hQ _ ⟨us, FT, GV, va_up_self _ _ _, (va_up_ne _ _ (by decide)).trans u1, (va_up_ne _ _ (by decide)).trans u2, hus, hFT, hGV⟩ (fun j hj => va_up_ne _ _ (by omega)))
theorem give_T {L r : Nat} {G : Gr} (hG : okG G) (hn8 : nE G ≤ 8) (hV : ∀ (N k : Nat) (h : AH) (Q : AQ) (ways : Nat) (ch : List Nat), isPz h k G → k + 12 ≤ 116 → 122 ≤ N → flH h G ways ch → okc G ch → ch.length + r = nE G → (∀ h', flH h' G (ways + flF G r ch) ch → fr h h' 119 3 → Q (.inl none) h' N) → T L 7 [vR 119, vR k, vI ch.length] h N Q) {N k ways w : Nat} {h : AH} {Q : AQ} {ch : List Nat} (hP : isPz h k G) (hk : k + 12 ≤ 116) (hN : 122 ≤ N) (hH : flH h G ways ch) (hoc : okc G ch) (hr : ch.length + (r + 1) = nE G) (hw : w < qW G) (hl : eN G ch.length = qWn G w) (hcw : ch.contains w = false) (hQ : ∀ h', flH h' G (ways + flF G r (ch ++ [w])) ch → fr h h' 119 3 → Q (.inl none) h' N) : T (L + 1) 8 [vR 119, vR k, vI ch.length, vI w] h N Q := by
  obtain ⟨us, FT, GV, u0, u1, u2, hus, hFT, hGV⟩ := id hH
  obtain ⟨F, Ln, Dn, Ac, Dw, Cl, ⟨p0, hS, p2, p3, p4, p5, p6, p7⟩, hE, hAc, hDw, hCl⟩ := id hP
  obtain ⟨hm4, hm36⟩ := hG.m
  have hn36 := nE36 hG
  have hnE : cnt G (qM G) = nE G := rfl
  obtain ⟨rb, bb, s0⟩ := hS.e0
  have hW8 := hG.2.2.2.2.1
  refine T_body (I := mi_X1_give) (lv := [_, _, _, _]) rfl (Nat.le_of_ble_eq_true rfl) rfl ?_
  refine R_iload_n rfl rfl ?_
  refine R_iflt rfl ⟨by omega, by omega⟩ (fun c1 => ?_) (fun c1 => ?_)
  · exact absurd c1 (by omega)
  · refine R_iload_n rfl rfl ?_
    refine R_bipush rfl ?_
    refine R_icmplt rfl ⟨by omega, by omega⟩ ⟨by decide, by decide⟩ (fun c7 => ?_) (fun c7 => ?_)
    · refine R_aload_n rfl rfl ?_
      refine R_getfield rfl rfl (by omega) u0 rfl ?_
      refine R_iload_n rfl rfl ?_
      refine R_iload_n rfl rfl ?_
      refine R_iastore rfl (by omega) u2 ⟨by omega, by omega, by decide⟩ ?_
      refine R_aload_n rfl rfl ?_
      refine R_dup rfl rfl ?_
      refine R_getfield rfl rfl (by omega) ((va_up_ne _ _ (by first | exact kne rfl | exact kz | exact kz.symm | omega)).trans u0) rfl ?_
      refine R_iconst rfl ?_
      refine R_iload_n rfl rfl ?_
      refine R_ishl rfl ?_
      refine R_ior rfl ?_
      refine R_putfield rfl rfl (by omega) ((va_up_ne _ _ (by first | exact kne rfl | exact kz | exact kz.symm | omega)).trans u0) (Nat.le_of_ble_eq_true rfl) (by first | trivial | exact trivial | omega) ?_
      have hH2 : flH (va_up (va_up h 121 (eI 8 (va_up GV ((ch.length : Nat) : Int).toNat w))) 119 (eO 0 [vI ways, vI ((iI us ||| iI ((iI 1 <<< (iI (w : Int) &&& 31)).toInt)).toInt), vR 120, vR 121])) G ways (ch ++ [w]) := ⟨_, FT, va_up GV ch.length w, va_up_self _ _ _, (va_up_ne _ _ (by decide)).trans ((va_up_ne _ _ (by decide)).trans u1), (va_up_ne _ _ (by decide)).trans (va_up_self _ _ _), fun j hj => ((bi_or hus (n := w) (by omega)) j hj).trans (cont_app ch w j).symm, hFT, path_app hGV⟩
      refine R_aload_n rfl rfl ?_
      refine R_aload_n rfl rfl ?_
      refine R_iload_n rfl rfl ?_
      refine R_iconst rfl ?_
      refine R_iadd rfl ?_
      rw [show ((ch.length : Nat) : Int) + 1 = (((ch ++ [w]).length : Nat) : Int) by rw [List.length_append]; try rfl]
      refine R_vcall rfl rfl ⟨(by omega), _, (va_up_self _ _ _)⟩ ⟨Nat.le_of_ble_eq_true rfl, Nat.le_of_ble_eq_true rfl, Nat.zero_le _, Nat.zero_le _⟩ (hV N k _ _ ways (ch ++ [w]) (isPz_fr hP (fun j q1 q2 => (va_up_ne _ _ (by omega)).trans (va_up_ne _ _ (by omega)))) hk hN hH2 (okc_app hoc hw hl) (by rw [List.length_append]; show ch.length + 1 + r = nE G; omega) (fun h3 hH3 f3 => aRes_v (rest := []) ?_))
      obtain ⟨us3, FT3, GV3, u0, u1, u2, hus3, hFT3, hGV3⟩ := id hH3
      refine R_aload_n rfl rfl ?_
      refine R_dup rfl rfl ?_
      refine R_getfield rfl rfl (by omega) u0 rfl ?_
      refine R_iconst rfl ?_
      refine R_iload_n rfl rfl ?_
      refine R_ishl rfl ?_
      refine R_iconst rfl ?_
      refine R_ixor rfl ?_
      refine R_iand rfl ?_
      refine R_putfield rfl rfl (by omega) u0 (Nat.le_of_ble_eq_true rfl) (by first | trivial | exact trivial | omega) ?_
      exact R_return rfl (Nat.zero_le _) (Nat.zero_le _) (hQ _ ⟨_, FT3, GV3, va_up_self _ _ _, (va_up_ne _ _ (by decide)).trans u1, (va_up_ne _ _ (by decide)).trans u2, fun j hj => ((bi_andn hus3 (n := w) (by omega)) j hj).trans (cont_old hcw j).symm, hFT3, fun j x hj => hGV3 j x (by rw [List.getElem?_append_left (List.getElem?_eq_some_iff.mp hj).1]; exact hj)⟩ (fun j hj => (va_up_ne _ _ (by omega)).trans ((f3 j hj).trans ((va_up_ne _ _ (by omega)).trans (va_up_ne _ _ (by omega))))))
    · exact absurd c7 (by omega)
theorem gf_loop {L r N k : Nat} {G : Gr} (hG : okG G) (hn8 : nE G ≤ 8) (hV : ∀ (N k : Nat) (h : AH) (Q : AQ) (ways : Nat) (ch : List Nat), isPz h k G → k + 12 ≤ 116 → 122 ≤ N → flH h G ways ch → okc G ch → ch.length + r = nE G → (∀ h', flH h' G (ways + flF G r ch) ch → fr h h' 119 3 → Q (.inl none) h' N) → T (L + 3) 7 [vR 119, vR k, vI ch.length] h N Q) {Q : AQ} {ch : List Nat} (hk : k + 12 ≤ 116) (hN : 122 ≤ N) (hoc : okc G ch) (hr : ch.length + (r + 1) = nE G) : ∀ (m i : Nat) (h : AH) (ways : Nat) (l : Option AV), i + m = qW G → isPz h k G → flH h G ways ch → (∀ h', flH h' G (ways + smF (fun w => if okF G ch w = true then flF G r (ch ++ [w]) else 0) m i) ch → fr h h' 119 3 → Q (.inl none) h' N) → Run mi_X1_giveFrom (T (L + 4)) Q 32 [some (vR 119), some (vR k), some (vI ch.length), some (vI i), l] [] h N 0 0 := by
  intro m
  induction m using Nat.strongRecOn with
  | ind m ih =>
  intro i h ways l hi hP hH hQ
  obtain ⟨us, FT, GV, u0, u1, u2, hus, hFT, hGV⟩ := id hH
  obtain ⟨F, Ln, Dn, Ac, Dw, Cl, ⟨p0, hS, p2, p3, p4, p5, p6, p7⟩, hE, hAc, hDw, hCl⟩ := id hP
  obtain ⟨hm4, hm36⟩ := hG.m
  have hn36 := nE36 hG
  have hnE : cnt G (qM G) = nE G := rfl
  obtain ⟨rb, bb, s0⟩ := hS.e0
  have hW8 := hG.2.2.2.2.1
  refine R_iload_n rfl rfl ?_
  refine R_aload_n rfl rfl ?_
  refine R_getfield rfl rfl (by omega) p0 rfl ?_
  refine R_getfield rfl rfl (by omega) s0 rfl ?_
  refine R_icmpge rfl ⟨by first | omega | (split <;> omega), by first | omega | (split <;> omega)⟩ ⟨by first | omega | (split <;> omega), by first | omega | (split <;> omega)⟩ (fun c40 => ?_) (fun c40 => ?_)
  · have hm0 : m = 0 := by omega
    subst hm0
    exact R_return rfl (Nat.zero_le _) (Nat.zero_le _) (hQ h hH fr.refl)
  · obtain ⟨m, rfl⟩ : ∃ m1, m = m1 + 1 := ⟨m - 1, by omega⟩
    refine R_aload_n rfl rfl ?_
    refine R_getfield rfl rfl (by omega) u0 rfl ?_
    refine R_iload_n rfl rfl ?_
    refine R_iaload rfl (Or.inl (by omega)) u1 ⟨by omega, by omega, by decide⟩ ?_
    refine R_aload_n rfl rfl ?_
    refine R_getfield rfl rfl (by omega) u0 rfl ?_
    refine R_iconst rfl ?_
    refine R_ixor rfl ?_
    refine R_iand rfl ?_
    refine R_iload_n rfl rfl ?_
    refine R_ishr rfl ?_
    refine R_iconst rfl ?_
    refine R_iand rfl ?_
    rw [bi_test (show isBi (FT ((ch.length : Nat) : Int).toNat) (fun j => decide (j < qW G) && fiG G ch.length j) from hFT ch.length (by omega)) hus (n := i) (by omega), decide_eq_true (show i < qW G by omega), Bool.true_and]
    refine R_iconst rfl ?_
    refine R_icmpne rfl ⟨by first | omega | (split <;> omega), by first | omega | (split <;> omega)⟩ ⟨by decide, by decide⟩ (fun c61 => ?_) (fun c61 => ?_)
    · have hp : okF G ch i = false := by
        unfold okF
        cases q : (fiG G ch.length i && !ch.contains i) with
        | false => rfl
        | true => exact absurd (by rw [if_pos q]) c61
      have hg : (if okF G ch i = true then flF G r (ch ++ [i]) else 0) = 0 := if_neg (by rw [hp]; decide)
      refine R_iconst rfl ?_
      refine R_istore (lv' := [_, _, _, _, _]) rfl rfl ?_
      refine R_iload rfl rfl ?_
      refine R_ifeq rfl ⟨by decide, by decide⟩ (fun _ => ?_) (fun c0 => absurd c0 (by decide))
      refine R_iinc (lv' := [_, _, _, _, _]) rfl rfl rfl ?_
      refine R_goto rfl ?_
      have hsm : smF (fun w => if okF G ch w = true then flF G r (ch ++ [w]) else 0) (m + 1) i = (if okF G ch i = true then flF G r (ch ++ [i]) else 0) + smF (fun w => if okF G ch w = true then flF G r (ch ++ [w]) else 0) m (i + 1) := rfl
      rw [hsm, hg] at hQ
      (first | exact ih m (by omega) (i + 1) h1 (ways + flF G r (ch ++ [i])) _ (by omega) (isPz_fr hP (fun j q1 q2 => f1 j (by omega))) hH1 (fun h2 q1 q2 => hQ h2 (by rw [← Nat.add_assoc]; exact q1) (f1.trans q2)) | exact ih m (by omega) (i + 1) h ways _ (by omega) hP hH (fun h2 q1 q2 => hQ h2 (by rw [Nat.zero_add]; exact q1) q2))
    · have hfc : (fiG G ch.length i && !ch.contains i) = true := by
        cases q : (fiG G ch.length i && !ch.contains i) with
        | true => rfl
        | false => exact absurd (by rw [if_neg (by rw [q]; decide)]; decide) c61
      have hfi := (Bool.and_eq_true_iff.mp hfc).1
      have hci : ch.contains i = false := by
        have q := (Bool.and_eq_true_iff.mp hfc).2
        cases q2 : ch.contains i with
        | false => rfl
        | true =>
          rw [q2] at q
          cases q
      refine R_iconst rfl ?_
      refine R_goto rfl ?_
      refine R_istore (lv' := [_, _, _, _, _]) rfl rfl ?_
      refine R_iload rfl rfl ?_
      refine R_ifeq rfl ⟨by decide, by decide⟩ (fun c0 => absurd c0 (by decide)) (fun _ => ?_)
      refine R_aload_n rfl rfl ?_
      refine R_aload_n rfl rfl ?_
      refine R_iload_n rfl rfl ?_
      refine R_iload_n rfl rfl ?_
      refine R_vcall rfl rfl ⟨(by omega), _, u0⟩ ⟨Nat.le_of_ble_eq_true rfl, Nat.le_of_ble_eq_true rfl, Nat.zero_le _, Nat.zero_le _⟩ (agrees_T hP hG hk hN hH hoc hn8 (by omega) (by omega) (fiG_len hfi) (fun z80 hz80 => aRes_i (rest := []) ?_))
      have h01 := bI01 (agG G ch i)
      refine R_ifeq rfl ⟨by first | omega | (split <;> omega), by first | omega | (split <;> omega)⟩ (fun c83 => ?_) (fun c83 => ?_)
      · have hp : okF G ch i = false := by
          unfold okF
          rw [bI_f hz80 (by omega), Bool.and_false]
        have hg : (if okF G ch i = true then flF G r (ch ++ [i]) else 0) = 0 := if_neg (by rw [hp]; decide)
        refine R_iinc (lv' := [_, _, _, _, _]) rfl rfl rfl ?_
        refine R_goto rfl ?_
        have hsm : smF (fun w => if okF G ch w = true then flF G r (ch ++ [w]) else 0) (m + 1) i = (if okF G ch i = true then flF G r (ch ++ [i]) else 0) + smF (fun w => if okF G ch w = true then flF G r (ch ++ [w]) else 0) m (i + 1) := rfl
        rw [hsm, hg] at hQ
        (first | exact ih m (by omega) (i + 1) h1 (ways + flF G r (ch ++ [i])) _ (by omega) (isPz_fr hP (fun j q1 q2 => f1 j (by omega))) hH1 (fun h2 q1 q2 => hQ h2 (by rw [← Nat.add_assoc]; exact q1) (f1.trans q2)) | exact ih m (by omega) (i + 1) h ways _ (by omega) hP hH (fun h2 q1 q2 => hQ h2 (by rw [Nat.zero_add]; exact q1) q2))
      · have hp : okF G ch i = true := by
          unfold okF
          rw [hfc, bI_t hz80 c83]
          rfl
        have hg : (if okF G ch i = true then flF G r (ch ++ [i]) else 0) = flF G r (ch ++ [i]) := if_pos hp
        refine R_aload_n rfl rfl ?_
        refine R_aload_n rfl rfl ?_
        refine R_iload_n rfl rfl ?_
        refine R_iload_n rfl rfl ?_
        refine R_vcall rfl rfl ⟨(by omega), _, u0⟩ ⟨Nat.le_of_ble_eq_true rfl, Nat.le_of_ble_eq_true rfl, Nat.zero_le _, Nat.zero_le _⟩ (give_T hG hn8 hV hP hk hN hH hoc hr (by omega) (fiG_len hfi) hci (fun h1 hH1 f1 => aRes_v (rest := []) ?_))
        refine R_iinc (lv' := [_, _, _, _, _]) rfl rfl rfl ?_
        refine R_goto rfl ?_
        have hsm : smF (fun w => if okF G ch w = true then flF G r (ch ++ [w]) else 0) (m + 1) i = (if okF G ch i = true then flF G r (ch ++ [i]) else 0) + smF (fun w => if okF G ch w = true then flF G r (ch ++ [w]) else 0) m (i + 1) := rfl
        rw [hsm, hg] at hQ
        (first | exact ih m (by omega) (i + 1) h1 (ways + flF G r (ch ++ [i])) _ (by omega) (isPz_fr hP (fun j q1 q2 => f1 j (by omega))) hH1 (fun h2 q1 q2 => hQ h2 (by rw [← Nat.add_assoc]; exact q1) (f1.trans q2)) | exact ih m (by omega) (i + 1) h ways _ (by omega) hP hH (fun h2 q1 q2 => hQ h2 (by rw [Nat.zero_add]; exact q1) q2))
theorem giveFrom_s {L r : Nat} {G : Gr} (hG : okG G) (hn8 : nE G ≤ 8) (hV : ∀ (N k : Nat) (h : AH) (Q : AQ) (ways : Nat) (ch : List Nat), isPz h k G → k + 12 ≤ 116 → 122 ≤ N → flH h G ways ch → okc G ch → ch.length + r = nE G → (∀ h', flH h' G (ways + flF G r ch) ch → fr h h' 119 3 → Q (.inl none) h' N) → T (L + 3) 7 [vR 119, vR k, vI ch.length] h N Q) : ∀ (N k : Nat) (h : AH) (Q : AQ) (ways : Nat) (ch : List Nat), isPz h k G → k + 12 ≤ 116 → 122 ≤ N → flH h G ways ch → okc G ch → ch.length + (r + 1) = nE G → (∀ h', flH h' G (ways + flF G (r + 1) ch) ch → fr h h' 119 3 → Q (.inl none) h' N) → T (L + 5) 7 [vR 119, vR k, vI ch.length] h N Q := by
  intro N k h Q ways ch hP hk hN hH hoc hr hQ
  obtain ⟨us, FT, GV, u0, u1, u2, hus, hFT, hGV⟩ := id hH
  obtain ⟨F, Ln, Dn, Ac, Dw, Cl, ⟨p0, hS, p2, p3, p4, p5, p6, p7⟩, hE, hAc, hDw, hCl⟩ := id hP
  obtain ⟨hm4, hm36⟩ := hG.m
  have hn36 := nE36 hG
  have hnE : cnt G (qM G) = nE G := rfl
  obtain ⟨rb, bb, s0⟩ := hS.e0
  have hW8 := hG.2.2.2.2.1
  refine T_body (I := mi_X1_giveFrom) (lv := [_, _, _, _, _]) rfl (Nat.le_of_ble_eq_true rfl) rfl ?_
  refine R_iload_n rfl rfl ?_
  refine R_aload_n rfl rfl ?_
  refine R_getfield rfl rfl (by omega) p0 rfl ?_
  refine R_icmplt rfl ⟨by omega, by omega⟩ ⟨by omega, by omega⟩ (fun c5 => ?_) (fun c5 => ?_)
  · refine R_iload_n rfl rfl ?_
    refine R_iflt rfl ⟨by omega, by omega⟩ (fun c20 => ?_) (fun c20 => ?_)
    · exact absurd c20 (by omega)
    · refine R_iload_n rfl rfl ?_
      refine R_bipush rfl ?_
      refine R_icmplt rfl ⟨by omega, by omega⟩ ⟨by decide, by decide⟩ (fun c26 => ?_) (fun c26 => ?_)
      · refine R_iconst rfl ?_
        refine R_istore_n (lv' := [_, _, _, _, _]) rfl rfl ?_
        exact gf_loop hG hn8 hV hk hN hoc hr (qW G) 0 h ways _ (Nat.zero_add _) hP hH hQ
      · exact absurd c26 (by omega)
  · exact absurd c5 (by omega)
theorem giveFrom_T {G : Gr} (hG : okG G) (hn8 : nE G ≤ 8) : ∀ (r L : Nat), 2 * r + 5 ≤ L → ∀ (N k : Nat) (h : AH) (Q : AQ) (ways : Nat) (ch : List Nat), isPz h k G → k + 12 ≤ 116 → 122 ≤ N → flH h G ways ch → okc G ch → ch.length + r = nE G → (∀ h', flH h' G (ways + flF G r ch) ch → fr h h' 119 3 → Q (.inl none) h' N) → T L 7 [vR 119, vR k, vI ch.length] h N Q
  | 0, L, hL => by
    obtain ⟨l, rfl⟩ : ∃ l, L = l + 1 := ⟨L - 1, by omega⟩
    exact give_0 hG hn8
  | r + 1, L, hL => by
    obtain ⟨l, rfl⟩ : ∃ l, L = l + 5 := ⟨L - 5, by omega⟩
    exact giveFrom_s hG hn8 (giveFrom_T hG hn8 r (l + 3) (by omega))
