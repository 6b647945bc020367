/-! ===== the class's face: addWord, setLine, load, mend ===== -/
theorem wk_addW {G : Gr} (hG : okG G) {c : Nat} {t : Nat → Int} (hw : qW G < 8) (hc : c ≤ 6) : wkG (addW G c t) := by
  obtain ⟨g1, g2, g3, g4, g5, g6, g7, g8, g9⟩ := hG
  refine ⟨g1, g2, show qW G + 1 ≤ 8 by omega, fun w hw2 => ?_, g8⟩
  have hw2 : w < qW G + 1 := hw2
  show va_up (qWn G) (qW G) c w ≤ 6
  by_cases q : w = qW G
  · rw [q, va_up_self]
    exact hc
  · rw [va_up_ne _ _ q]
    exact (g6 w (by omega)).2
theorem wk_addN {G : Gr} (hG : okG G) {c : Nat} {t : Nat → Int} (hc : c ≤ 6) : wkG (addN G c t) := by
  obtain ⟨g1, g2, g3, g4, g5, g6, g7, g8, g9⟩ := hG
  exact ⟨g1, g2, g5, fun w hw => (g6 w hw).2, hc⟩
theorem Run_kn {I : MI} {d : Nat} {Q : AQ} {pc : Nat} {lv : AL} {st : List AV} {h : AH} {N k n : Nat} (hr : Run I (T d) Q pc lv st h N k n) : Run I (T d) Q pc lv st h N k n := hr
theorem load_C {d N : Nat} {h : AH} {y : Sy} {Q : AQ} (hF : isFace h y) (hN : 122 ≤ N) (hQ : clQ (opLoad y) "java/lang/IllegalStateException" "java/lang/IllegalStateException" h N Q) : T (d + 7) 94 [vR 0] h N Q := by
  obtain ⟨b0, ⟨px, hT⟩, ⟨Gt, hSt⟩, hP, hG, ⟨Gr9, hPt⟩, hM, hSe, hFl, hst⟩ := id hF
  obtain ⟨F, Ln, Dn, Ac, Dw, Cl, ⟨p0, hS, -⟩, -⟩ := id hP
  obtain ⟨hm4, hm36⟩ := hG.m
  have hn36 := nE36 hG
  have hW8 := hG.2.2.2.2.1
  obtain ⟨rb, bb, s0⟩ := hS.e0
  obtain ⟨f9, t0, t1, hn9, hf9⟩ := id hT
  refine T_body (I := mi_X8_load) (lv := [_]) rfl (Nat.le_of_ble_eq_true rfl) rfl ?_
  refine R_aload_n rfl rfl ?_
  refine R_getfield rfl rfl (by omega) b0 rfl ?_
  refine R_vcall rfl rfl ⟨(by omega), _, t0⟩ ⟨Nat.le_of_ble_eq_true rfl, Nat.le_of_ble_eq_true rfl, Nat.le_of_ble_eq_true rfl, Nat.le_of_ble_eq_true rfl⟩ (readGrid_T hT (by omega) hSt (fun h1 Gx p1 hT1 hS1 hg1 f1 => aRes_i (rest := []) ?_))
  have hF1 := isFace_gr hF hT1 hS1 f1
  have hP1 : isPz h1 8 y.1 := isPz_fr hP (fun j _ _ => f1 j (by omega))
  have hM1 := isMem_fr hM (h' := h1) (fun j h3 h4 => f1 j (by omega))
  have b0q1 := (f1 0 (by omega)).trans b0
  obtain ⟨fx9, tx0, tx1, hnx, hfx⟩ := id hT1
  obtain ⟨Fxq1, Lxq1, Dxq1, Axq1, Wxq1, Cxq1, ⟨p0q1, hSq1, -⟩, -⟩ := id hP1
  obtain ⟨rxq1, bxq1, s0q1⟩ := hSq1.e0
  have hle := gd_le y.2.2.2.1 y.2.2.2.2 hnx
  obtain ⟨z4, hz4⟩ : ∃ z4 : Int, (if (gdF y.2.2.2.1 y.2.2.2.2).1 = true then -9 else ((gdF y.2.2.2.1 y.2.2.2.2).2.1 : Int)) = z4 := ⟨_, rfl⟩
  rw [hz4]
  have hzr : -9 ≤ z4 ∧ z4 ≤ 200 := by
    rw [← hz4]
    split <;> omega
  refine R_bipush rfl ?_
  refine R_icmpeq rfl ⟨by omega, by omega⟩ ⟨by decide, by decide⟩ (fun c9 => ?_) (fun c9 => ?_)
  · have hgt : (gdF y.2.2.2.1 y.2.2.2.2).1 = true := by
      cases q : (gdF y.2.2.2.1 y.2.2.2.2).1 with
      | true => rfl
      | false =>
        rw [q] at hz4
        have hz4 : ((gdF y.2.2.2.1 y.2.2.2.2).2.1 : Int) = z4 := hz4
        omega
    obtain ⟨hGe, hGx⟩ := hg1 hgt
    have ho : opLoad y = (0, ((qM Gx : Nat) : Int), (Gx, [], fun _ => none, y.2.2.2)) := (if_pos hgt).trans (by rw [← hGe])
    refine R_aload_n rfl rfl ?_
    refine R_getfield rfl rfl (by omega) b0q1 rfl ?_
    refine R_aload_n rfl rfl ?_
    refine R_getfield rfl rfl (by omega) b0q1 rfl ?_
    refine R_getfield rfl rfl (by omega) tx0 rfl ?_
    refine R_vcall rfl rfl ⟨(by omega), _, p0q1⟩ ⟨Nat.le_of_ble_eq_true rfl, Nat.le_of_ble_eq_true rfl, Nat.le_of_ble_eq_true rfl, Nat.le_of_ble_eq_true rfl⟩ (take_T hP1.a hS1 hGx (by omega) ⟨by omega, by omega⟩ (fun h2 hP2 f2 => aRes_v (rest := []) ?_))
    have hM2 := isMem_fr hM1 (h' := h2) (fun j h3 h4 => f2 j (by omega))
    have b0q2 := (f2 0 (by omega)).trans b0q1
    obtain ⟨Fxq2, Lxq2, Dxq2, Axq2, Wxq2, Cxq2, ⟨p0q2, hSq2, -⟩, -⟩ := id hP2
    obtain ⟨rxq2, bxq2, s0q2⟩ := hSq2.e0
    refine R_aload_n rfl rfl ?_
    refine R_getfield rfl rfl (by omega) b0q2 rfl ?_
    refine R_vcall rfl rfl ⟨(by omega), (mem_rcv hM2)⟩ ⟨Nat.le_of_ble_eq_true rfl, Nat.le_of_ble_eq_true rfl, Nat.le_of_ble_eq_true rfl, Nat.le_of_ble_eq_true rfl⟩ (forgetActions_T hM2 (by omega) (fun h3 hM3 f3 => aRes_v (rest := []) ?_))
    have hP3 := isPz_fr hP2 (h' := h3) (fun j h5 h4 => f3 j (by omega))
    have b0q3 := (f3 0 (by omega)).trans b0q2
    obtain ⟨Fxq3, Lxq3, Dxq3, Axq3, Wxq3, Cxq3, ⟨p0q3, hSq3, -⟩, -⟩ := id hP3
    obtain ⟨rxq3, bxq3, s0q3⟩ := hSq3.e0
    refine R_aload_n rfl rfl ?_
    refine R_getfield rfl rfl (by omega) b0q3 rfl ?_
    refine R_vcall rfl rfl ⟨(by omega), (mem_rcv hM3)⟩ ⟨Nat.le_of_ble_eq_true rfl, Nat.le_of_ble_eq_true rfl, Nat.le_of_ble_eq_true rfl, Nat.le_of_ble_eq_true rfl⟩ (emptySlots_T hM3 (by omega) (fun h4 hM4 f4 => aRes_v (rest := []) ?_))
    have hP4 := isPz_fr hP3 (h' := h4) (fun j h5 h6 => f4 j (by omega))
    have b0q4 := (f4 0 (by omega)).trans b0q3
    obtain ⟨Fxq4, Lxq4, Dxq4, Axq4, Wxq4, Cxq4, ⟨p0q4, hSq4, -⟩, -⟩ := id hP4
    obtain ⟨rxq4, bxq4, s0q4⟩ := hSq4.e0
    refine R_aload_n rfl rfl ?_
    refine R_getfield rfl rfl (by omega) b0q4 rfl ?_
    refine R_getfield rfl rfl (by omega) p0q4 rfl ?_
    refine R_vcall rfl rfl ⟨(by omega), hSq4.rcv⟩ ⟨Nat.le_of_ble_eq_true rfl, Nat.le_of_ble_eq_true rfl, Nat.le_of_ble_eq_true rfl, Nat.le_of_ble_eq_true rfl⟩ (cells_T hSq4 hGx (by omega) (fun z57 hz57 => aRes_i (rest := []) ?_))
    exact R_ireturn rfl (fun q => absurd q (by decide)) (Nat.le_of_ble_eq_true rfl) (Nat.le_of_ble_eq_true rfl) (clQ_0 hQ ho (isFace_mk hF1 hP4 hGx hM4 (fun j q1 q2 => (f4 j (by omega)).trans ((f3 j (by omega)).trans (f2 j (by omega))))) (fun j hj => (f4 j (by omega)).trans ((f3 j (by omega)).trans ((f2 j (by omega)).trans (f1 j (by omega))))) hz57)
  · exact R_throw rfl rfl (Nat.le_of_ble_eq_true rfl) (Nat.le_of_ble_eq_true rfl) (Nat.le_of_ble_eq_true rfl) rfl (clQ_1 (v := 0) hQ (if_neg (fun q => by rw [if_pos q] at hz4; omega)) hF1 (fun j hj => f1 j (by omega)))
