/-! ===== the class's face: each call by what it answers ===== -/
def rs9 (E1 E2 : String) (p : Op) : ARes := match p.1 with
  | 0 => .inl (some (vI p.2.1))
  | 1 => .inr E1
  | _ => .inr E2
def clQ (p : Op) (E1 E2 : String) (h : AH) (N : Nat) (Q : AQ) : Prop := ∀ h', isFace h' p.2.2 → (∀ j, 122 ≤ j → h' j = h j) → Q (rs9 E1 E2 p) h' N
theorem clQ_0 {p : Op} {E1 E2 : String} {h h' : AH} {N : Nat} {Q : AQ} {y : Sy} {v z : Int} (hQ : clQ p E1 E2 h N Q) (ho : p = (0, v, y)) (hF : isFace h' y) (hf : ∀ j, 122 ≤ j → h' j = h j) (hz : z = v) : Q (.inl (some (vI z))) h' N := by
  subst ho
  subst hz
  exact hQ h' hF hf
theorem clQ_1 {p : Op} {E1 E2 : String} {h h' : AH} {N : Nat} {Q : AQ} {y : Sy} {v : Int} (hQ : clQ p E1 E2 h N Q) (ho : p = (1, v, y)) (hF : isFace h' y) (hf : ∀ j, 122 ≤ j → h' j = h j) : Q (.inr E1) h' N := by
  subst ho
  exact hQ h' hF hf
theorem clQ_2 {p : Op} {E1 E2 : String} {h h' : AH} {N : Nat} {Q : AQ} {y : Sy} {v : Int} (hQ : clQ p E1 E2 h N Q) (ho : p = (2, v, y)) (hF : isFace h' y) (hf : ∀ j, 122 ≤ j → h' j = h j) : Q (.inr E2) h' N := by
  subst ho
  exact hQ h' hF hf
theorem isFace_mk {h h' : AH} {y : Sy} {G : Gr} {hist : List Gr} {sl : Nat → Option Gr} (hF : isFace h y) (hP2 : isPz h' 8 G) (hG2 : okG G) (hM2 : isMem h' hist sl) (ho : ∀ j, ¬ (8 ≤ j ∧ j < 20) → ¬ (32 ≤ j ∧ j < 116) → h' j = h j) : isFace h' (G, hist, sl, y.2.2.2) := by
  obtain ⟨b0, ⟨px, hT⟩, ⟨Gt, hSt⟩, hP, hG, ⟨Gr9, hPt⟩, hM, hSe, hFl, hst⟩ := hF
  exact ⟨(ho _ (by omega) (by omega)).trans b0, ⟨px, isTx_fr hT (ho _ (by omega) (by omega)) (ho _ (by omega) (by omega))⟩, ⟨Gt, isSt_fr hSt (fun j h1 h2 => ho j (by omega) (by omega))⟩, hP2, hG2, ⟨Gr9, isPa_fr hPt (fun j h1 h2 => ho j (by omega) (by omega))⟩, hM2, isSe_fr hSe (fun j h1 h2 => ho j (by omega) (by omega)), isFl_fr hFl (fun j h1 h2 => ho j (by omega) (by omega)), (ho _ (by omega) (by omega)).trans hst.1, (ho _ (by omega) (by omega)).trans hst.2⟩
theorem isFace_fl {h h' : AH} {y : Sy} (hF : isFace h y) (hL : isFl h') (ho : fr h h' 119 3) : isFace h' y := by
  obtain ⟨b0, ⟨px, hT⟩, ⟨Gt, hSt⟩, hP, hG, ⟨Gr9, hPt⟩, hM, hSe, hFl, hst⟩ := hF
  exact ⟨(ho _ (by omega)).trans b0, ⟨px, isTx_fr hT (ho _ (by omega)) (ho _ (by omega))⟩, ⟨Gt, isSt_fr hSt (fun j _ _ => ho j (by omega))⟩, isPz_fr hP (fun j _ _ => ho j (by omega)), hG, ⟨Gr9, isPa_fr hPt (fun j _ _ => ho j (by omega))⟩, isMem_fr hM (fun j _ _ => ho j (by omega)), isSe_fr hSe (fun j _ _ => ho j (by omega)), hL, (ho _ (by omega)).trans hst.1, (ho _ (by omega)).trans hst.2⟩
theorem mem_rcv {h : AH} {hist : List Gr} {sl : Nat → Option Gr} (hM : isMem h hist sl) : ∃ fs, h 32 = eO 2 fs := by
  obtain ⟨o, u, R, S, -, -, e0, -⟩ := hM
  exact ⟨_, e0⟩
theorem mem_ok {h : AH} {l : List Gr} {G : Gr} {sl : Nat → Option Gr} (hM : isMem h (l ++ [G]) sl) : okG G := by
  obtain ⟨o, u, R, S, -, -, -, -, -, -, -, -, m1, m2, m3, m4⟩ := hM
  exact (m3 l.length G (by rw [List.getElem?_append_right (Nat.le_refl _), Nat.sub_self]; rfl)).2
theorem pa_rcv {h : AH} {k : Nat} {G : Gr} (hA : isPa h k G) : ∃ fs, h k = eO 3 fs := by
  obtain ⟨E, A, C, F, Ln, Dn, Ac, Dw, Cl, p0, -⟩ := hA
  exact ⟨_, p0⟩
theorem se_rcv {h : AH} (hE : isSe h) : ∃ fs, h 116 = eO 1 fs := by
  obtain ⟨e, l, f, g, us, P, FP, u0, -⟩ := hE
  exact ⟨_, u0⟩
theorem fl_rcv {h : AH} (hE : isFl h) : ∃ fs, h 119 = eO 0 fs := by
  obtain ⟨w, u, FT, GV, u0, -⟩ := hE
  exact ⟨_, u0⟩
theorem fr8 {h h1 h2 : AH} (f1 : fr h h1 32 84) (f2 : fr h1 h2 8 12) : ∀ j, ¬ (8 ≤ j ∧ j < 20) → ¬ (32 ≤ j ∧ j < 116) → h2 j = h j := fun j q1 q2 => (f2 j (by omega)).trans (f1 j (by omega))
theorem fr122 {h h' : AH} (ho : ∀ j, ¬ (8 ≤ j ∧ j < 20) → ¬ (32 ≤ j ∧ j < 116) → h' j = h j) : ∀ j, 122 ≤ j → h' j = h j := fun j hj => ho j (by omega) (by omega)
theorem same122 {h : AH} : ∀ j, 122 ≤ j → h j = h j := fun _ _ => rfl
theorem append_C {d N : Nat} {h : AH} {y : Sy} {Q : AQ} (hF : isFace h y) (hN : 122 ≤ N) {c : Int} (hc : inR c) (hQ : clQ (opAppend y c) "java/lang/IllegalArgumentException" "java/lang/IllegalStateException" h N Q) : T (d + 2) 91 [vR 0, vI c] h N Q := append_T hF hN hc (fun q => clQ_1 (v := 0) hQ (if_neg q) hF same122) (fun q1 q2 => clQ_2 (v := 0) hQ ((if_pos q1).trans (if_pos q2)) hF same122) (fun q1 q2 h1 hF1 f1 => clQ_0 hQ ((if_pos q1).trans (if_neg (by omega))) hF1 f1 rfl)
theorem errorPosition_C {d N : Nat} {h : AH} {y : Sy} {Q : AQ} (hF : isFace h y) (hN : 122 ≤ N) (hQ : clQ (opErr y) "java/lang/IllegalArgumentException" "java/lang/IllegalStateException" h N Q) : T (d + 7) 93 [vR 0] h N Q := errorPosition_T hF hN (fun h1 hF1 f1 => clQ_0 hQ rfl hF1 f1 rfl)
theorem about_C {d N : Nat} {h : AH} {y : Sy} {Q : AQ} (hF : isFace h y) (hN : 122 ≤ N) {c : Int} (hc : inR c) (hQ : clQ (opAbout y c) "java/lang/IllegalArgumentException" "java/lang/IllegalStateException" h N Q) : T (d + 5) 95 [vR 0, vI c] h N Q := about_T hF hN hc (fun q => clQ_1 (v := 0) hQ (if_neg q) hF same122) (fun n q1 q2 => clQ_0 hQ (if_pos (by omega)) hF same122 (by rw [q1]; rfl))
theorem cell_C {d N : Nat} {h : AH} {y : Sy} {Q : AQ} (hF : isFace h y) (hN : 122 ≤ N) {c k : Int} (hc : inR c) (hk : inR k) (hQ : clQ (opCell y c k) "java/lang/IndexOutOfBoundsException" "java/lang/IllegalArgumentException" h N Q) : T (d + 4) 96 [vR 0, vI c, vI k] h N Q := cell_T hF hN hc hk (fun q => clQ_1 (v := 0) hQ (if_neg q) hF same122) (fun q1 q2 => clQ_2 (v := 0) hQ ((if_pos q1).trans (if_neg q2)) hF same122) (fun x n q1 q2 q3 q4 => clQ_0 hQ ((if_pos (by omega)).trans (if_pos (by omega))) hF same122 (by rw [q1, q3]; rfl))
theorem entry_C {d N : Nat} {h : AH} {y : Sy} {Q : AQ} (hF : isFace h y) (hN : 122 ≤ N) {c k : Int} (hc : inR c) (hk : inR k) (hQ : clQ (opEntry y c k) "java/lang/IndexOutOfBoundsException" "java/lang/IllegalArgumentException" h N Q) : T (d + 6) 97 [vR 0, vI c, vI k] h N Q := entry_T hF hN hc hk (fun q => clQ_1 (v := 0) hQ (if_neg q) hF same122) (fun q1 q2 => clQ_2 (v := 0) hQ ((if_pos q1).trans (if_neg q2)) hF same122) (fun x n q1 q2 q3 q4 => clQ_0 hQ ((if_pos (by omega)).trans (if_pos (by omega))) hF same122 (by rw [q1, q3]; rfl))
theorem fits_C {d N : Nat} {h : AH} {y : Sy} {Q : AQ} (hF : isFace h y) (hN : 122 ≤ N) {c : Int} (hc : inR c) (hQ : clQ (opFits y c) "java/lang/IndexOutOfBoundsException" "java/lang/IllegalArgumentException" h N Q) : T (d + 6) 99 [vR 0, vI c] h N Q := fits_T hF hN hc (fun q => clQ_1 (v := 0) hQ (if_neg q) hF same122) (fun e q1 q2 => clQ_0 hQ (if_pos (by omega)) hF same122 (by rw [q1]; rfl))
theorem rule_C {d N : Nat} {h : AH} {y : Sy} {Q : AQ} (hF : isFace h y) (hN : 122 ≤ N) {c : Int} (hc : inR c) (hQ : clQ (opRule y c) "java/lang/IllegalArgumentException" "java/lang/IllegalStateException" h N Q) : T (d + 6) 100 [vR 0, vI c] h N Q := rule_T hF hN hc (fun q => clQ_1 (v := 0) hQ (if_neg q) hF same122) (fun r q1 q2 => clQ_0 hQ (if_pos (by omega)) hF same122 (by rw [q1]; rfl))
theorem readings_C {d N : Nat} {h : AH} {y : Sy} {Q : AQ} (hF : isFace h y) (hN : 122 ≤ N) (hQ : clQ (opReadings y) "java/lang/IllegalArgumentException" "java/lang/IllegalStateException" h N Q) : T (d + 18) 101 [vR 0] h N Q := readings_T hF hN (fun h1 hF1 f1 => clQ_0 hQ rfl hF1 f1 rfl)
theorem reading_C {d N : Nat} {h : AH} {y : Sy} {Q : AQ} (hF : isFace h y) (hN : 122 ≤ N) {c : Int} (hc : inR c) (hQ : clQ (opReading y c) "java/lang/IllegalArgumentException" "java/lang/IllegalStateException" h N Q) : T (d + 18) 102 [vR 0, vI c] h N Q := by
  obtain ⟨b0, ⟨px, hT⟩, ⟨Gt, hSt⟩, hP, hG, ⟨Gr9, hPt⟩, hM, hSe, hFl, hst⟩ := id hF
  obtain ⟨F, Ln, Dn, Ac, Dw, Cl, ⟨p0, hS, -⟩, -⟩ := id hP
  obtain ⟨hm4, hm36⟩ := hG.m
  have hn36 := nE36 hG
  have hW8 := hG.2.2.2.2.1
  obtain ⟨rb, bb, s0⟩ := hS.e0
  obtain ⟨hc1, hc2⟩ := id hc
  refine T_body (I := mi_X8_reading) (lv := [_, _, _]) rfl (Nat.le_of_ble_eq_true rfl) rfl ?_
  refine R_iload_n rfl rfl ?_
  refine R_ifge rfl ⟨by omega, by omega⟩ (fun c1 => ?_) (fun c1 => ?_)
  · obtain ⟨i, rfl⟩ := Int.eq_ofNat_of_zero_le (show 0 ≤ c by omega)
    have ho : opReading y i = (0, fstG y.1 i, y) := if_pos (by omega)
    refine R_aload_n rfl rfl ?_
    refine R_getfield rfl rfl (by omega) b0 rfl ?_
    refine R_aload_n rfl rfl ?_
    refine R_getfield rfl rfl (by omega) b0 rfl ?_
    refine R_iconst rfl ?_
    refine R_iconst rfl ?_
    refine R_vcall rfl rfl ⟨(by omega), (se_rcv hSe)⟩ ⟨Nat.le_of_ble_eq_true rfl, Nat.le_of_ble_eq_true rfl, Nat.le_of_ble_eq_true rfl, Nat.le_of_ble_eq_true rfl⟩ (count_T (em := false) (lim := 1) hP hG (by omega) (by omega) hst hSe (by decide) (fun h1 hH1 f1 => aRes_i (rest := []) ?_))
    have hF1 := isFace_se hF hH1.se f1
    have b0q1 := (f1 0 (by omega)).trans b0
    obtain ⟨us, Px, FP, fl9, u0, u1, u2, -, -, hle9, -, hfs9, -⟩ := id hH1
    refine R_istore_n (lv' := [_, _, _]) rfl rfl ?_
    refine R_iload_n rfl rfl ?_
    refine R_ifle rfl ⟨by omega, by omega⟩ (fun c29 => ?_) (fun c29 => ?_)
    · have hv : (-9 : Int) = fstG y.1 i := by
        unfold fstG
        rw [rdS_none.mp (by omega)]
      refine R_bipush rfl ?_
      exact R_ireturn rfl (fun q => absurd q (by decide)) (Nat.le_of_ble_eq_true rfl) (Nat.le_of_ble_eq_true rfl) (clQ_0 hQ ho hF1 (fun j hj => f1 j (by omega)) hv)
    · obtain ⟨R, hRe⟩ : ∃ R, (rdS y.1 false 1).2 = some R := by
        cases q : (rdS y.1 false 1).2 with
        | some R => exact ⟨R, rfl⟩
        | none => exact absurd (rdS_none.mpr q) (by omega)
      have hRl := rdS_len hG hRe
      have hR9 := hfs9 R hRe
      refine R_aload_n rfl rfl ?_
      refine R_getfield rfl rfl (by omega) b0q1 rfl ?_
      refine R_iload_n rfl rfl ?_
      refine R_vcall rfl rfl ⟨(by omega), ⟨_, u0⟩⟩ ⟨Nat.le_of_ble_eq_true rfl, Nat.le_of_ble_eq_true rfl, Nat.le_of_ble_eq_true rfl, Nat.le_of_ble_eq_true rfl⟩ (cellOfFirst_T (i := i) (g := qN y.1) (P := Px) (by rw [← hR9.1]; exact u0) u2 (by omega) hG.2.2.2.2.2.2.2.1 (by omega) (fun z37 hz37 => aRes_i (rest := []) ?_))
      have hv : z37 = fstG y.1 i := by
        unfold fstG
        rw [hRe]
        simp only []
        rcases hz37 with ⟨q1, q2⟩ | ⟨q1, q2⟩
        · obtain ⟨x, hx⟩ : ∃ x, R[i]? = some x := ⟨_, List.getElem?_eq_getElem (show i < R.length by omega)⟩
          rw [hx, q2]
          exact hR9.2 i x hx
        · rw [List.getElem?_eq_none (by omega), q2]
      refine R_goto rfl ?_
      exact R_ireturn rfl (fun q => absurd q (by decide)) (Nat.le_of_ble_eq_true rfl) (Nat.le_of_ble_eq_true rfl) (clQ_0 hQ ho hF1 (fun j hj => f1 j (by omega)) hv)
  · exact R_throw rfl rfl (Nat.le_of_ble_eq_true rfl) (Nat.le_of_ble_eq_true rfl) (Nat.le_of_ble_eq_true rfl) rfl (clQ_1 (v := 0) hQ (if_neg (by omega)) hF same122)
theorem put_C {d N : Nat} {h : AH} {y : Sy} {Q : AQ} (hF : isFace h y) (hN : 122 ≤ N) {c k : Int} (hc : inR c) (hk : inR k) (hQ : clQ (opPut y c k) "java/lang/IndexOutOfBoundsException" "java/lang/IllegalArgumentException" h N Q) : T (d + 6) 103 [vR 0, vI c, vI k] h N Q := by
  obtain ⟨b0, ⟨px, hT⟩, ⟨Gt, hSt⟩, hP, hG, ⟨Gr9, hPt⟩, hM, hSe, hFl, hst⟩ := id hF
  obtain ⟨F, Ln, Dn, Ac, Dw, Cl, ⟨p0, hS, -⟩, -⟩ := id hP
  obtain ⟨hm4, hm36⟩ := hG.m
  have hn36 := nE36 hG
  have hW8 := hG.2.2.2.2.1
  obtain ⟨rb, bb, s0⟩ := hS.e0
  obtain ⟨hc1, hc2⟩ := id hc
  obtain ⟨hk1, hk2⟩ := hk
  refine T_body (I := mi_X8_put) (lv := [_, _, _, _]) rfl (Nat.le_of_ble_eq_true rfl) rfl ?_
  refine R_aload_n rfl rfl ?_
  refine R_iload_n rfl rfl ?_
  refine R_vcall rfl rfl ⟨(by omega), _, b0⟩ ⟨Nat.le_of_ble_eq_true rfl, Nat.le_of_ble_eq_true rfl, Nat.le_of_ble_eq_true rfl, Nat.le_of_ble_eq_true rfl⟩ (requireCell_T hF hN ⟨by omega, by omega⟩ (fun hok => aRes_v (rest := []) ?_) (fun hno => aRes_x rfl (clQ_1 (v := 0) hQ (if_neg hno) hF same122) (Nat.le_of_ble_eq_true rfl) (Nat.le_of_ble_eq_true rfl)))
  obtain ⟨x, rfl⟩ := Int.eq_ofNat_of_zero_le hok.1
  have hx : x < qM y.1 := by omega
  refine R_iload_n rfl rfl ?_
  refine R_ifeq rfl ⟨by omega, by omega⟩ (fun c6 => ?_) (fun c6 => ?_)
  · have hl9 : k = 0 ∨ isLb k = true := Or.inl (by omega)
    have ho : opPut y x k = (0, qL y.1 x, (setL y.1 x k, rem14 y.2.1 y.1, y.2.2)) := (if_pos (by omega)).trans (if_pos hl9)
    refine R_aload_n rfl rfl ?_
    refine R_getfield rfl rfl (by omega) b0 rfl ?_
    refine R_aload_n rfl rfl ?_
    refine R_getfield rfl rfl (by omega) b0 rfl ?_
    refine R_getfield rfl rfl (by omega) p0 rfl ?_
    refine R_vcall rfl rfl ⟨(by omega), (mem_rcv hM)⟩ ⟨Nat.le_of_ble_eq_true rfl, Nat.le_of_ble_eq_true rfl, Nat.le_of_ble_eq_true rfl, Nat.le_of_ble_eq_true rfl⟩ (remember_T hM (by omega) hS hG (by decide) (fun h1 hM1 f1 => aRes_v (rest := []) ?_))
    have hP1 : isPz h1 8 y.1 := isPz_fr hP (fun j _ _ => f1 j (by omega))
    have b0q1 := (f1 0 (by omega)).trans b0
    obtain ⟨Fxq1, Lxq1, Dxq1, Axq1, Wxq1, Cxq1, ⟨p0q1, hSq1, -⟩, -⟩ := id hP1
    obtain ⟨rxq1, bxq1, s0q1⟩ := hSq1.e0
    refine R_aload_n rfl rfl ?_
    refine R_getfield rfl rfl (by omega) b0q1 rfl ?_
    refine R_getfield rfl rfl (by omega) p0q1 rfl ?_
    refine R_iload_n rfl rfl ?_
    refine R_vcall rfl rfl ⟨(by omega), hSq1.rcv⟩ ⟨Nat.le_of_ble_eq_true rfl, Nat.le_of_ble_eq_true rfl, Nat.le_of_ble_eq_true rfl, Nat.le_of_ble_eq_true rfl⟩ (letterAt_T hSq1 hG (by omega) ⟨by omega, by omega⟩ (fun z48 hz48 => aRes_i (rest := []) ?_))
    have hl : z48 = qL y.1 x := by
      rcases hz48 with ⟨-, -, q⟩ | ⟨q, -⟩
      · exact q
      · exact absurd (by omega) q
    refine R_istore_n (lv' := [_, _, _, _]) rfl rfl ?_
    refine R_aload_n rfl rfl ?_
    refine R_getfield rfl rfl (by omega) b0q1 rfl ?_
    refine R_getfield rfl rfl (by omega) p0q1 rfl ?_
    refine R_iload_n rfl rfl ?_
    refine R_iload_n rfl rfl ?_
    refine R_vcall rfl rfl ⟨(by omega), hSq1.rcv⟩ ⟨Nat.le_of_ble_eq_true rfl, Nat.le_of_ble_eq_true rfl, Nat.le_of_ble_eq_true rfl, Nat.le_of_ble_eq_true rfl⟩ (setLetter_T hSq1 hG (by omega) ⟨by omega, by omega⟩ (fun h2 hS2 f2 => aRes_v (rest := []) ?_))
    have hP2 := isPz_S (G := y.1) (G' := setL y.1 x k) ⟨rfl, rfl, rfl, rfl⟩ hP1 hS2 f2
    have f3 : fr h1 h2 8 12 := f2.wide (by omega)
    refine R_iload_n rfl rfl ?_
    exact R_ireturn rfl (fun q => absurd q (by decide)) (Nat.le_of_ble_eq_true rfl) (Nat.le_of_ble_eq_true rfl) (clQ_0 hQ ho (isFace_mk hF hP2 (ok_setL hG (hl9.imp_right isLb_let)) (isMem_fr hM1 (fun j h3 h4 => f3 j (by omega))) (fr8 f1 f3)) (fr122 (fr8 f1 f3)) hl)
  · refine R_iload_n rfl rfl ?_
    refine R_scall rfl rfl ⟨Nat.le_of_ble_eq_true rfl, Nat.le_of_ble_eq_true rfl, Nat.le_of_ble_eq_true rfl, Nat.le_of_ble_eq_true rfl⟩ (isLetter_T ⟨by omega, by omega⟩ (fun z10 hz10 => aRes_i (rest := []) ?_))
    have h01 := bI01 (isLb k)
    rw [← hz10] at h01
    refine R_ifne rfl ⟨by omega, by omega⟩ (fun c13 => ?_) (fun c13 => ?_)
    · have hl9 : k = 0 ∨ isLb k = true := Or.inr (bI_t hz10 (by omega))
      have ho : opPut y x k = (0, qL y.1 x, (setL y.1 x k, rem14 y.2.1 y.1, y.2.2)) := (if_pos (by omega)).trans (if_pos hl9)
      refine R_aload_n rfl rfl ?_
      refine R_getfield rfl rfl (by omega) b0 rfl ?_
      refine R_aload_n rfl rfl ?_
      refine R_getfield rfl rfl (by omega) b0 rfl ?_
      refine R_getfield rfl rfl (by omega) p0 rfl ?_
      refine R_vcall rfl rfl ⟨(by omega), (mem_rcv hM)⟩ ⟨Nat.le_of_ble_eq_true rfl, Nat.le_of_ble_eq_true rfl, Nat.le_of_ble_eq_true rfl, Nat.le_of_ble_eq_true rfl⟩ (remember_T hM (by omega) hS hG (by decide) (fun h1 hM1 f1 => aRes_v (rest := []) ?_))
      have hP1 : isPz h1 8 y.1 := isPz_fr hP (fun j _ _ => f1 j (by omega))
      have b0q1 := (f1 0 (by omega)).trans b0
      obtain ⟨Fxq1, Lxq1, Dxq1, Axq1, Wxq1, Cxq1, ⟨p0q1, hSq1, -⟩, -⟩ := id hP1
      obtain ⟨rxq1, bxq1, s0q1⟩ := hSq1.e0
      refine R_aload_n rfl rfl ?_
      refine R_getfield rfl rfl (by omega) b0q1 rfl ?_
      refine R_getfield rfl rfl (by omega) p0q1 rfl ?_
      refine R_iload_n rfl rfl ?_
      refine R_vcall rfl rfl ⟨(by omega), hSq1.rcv⟩ ⟨Nat.le_of_ble_eq_true rfl, Nat.le_of_ble_eq_true rfl, Nat.le_of_ble_eq_true rfl, Nat.le_of_ble_eq_true rfl⟩ (letterAt_T hSq1 hG (by omega) ⟨by omega, by omega⟩ (fun z48 hz48 => aRes_i (rest := []) ?_))
      have hl : z48 = qL y.1 x := by
        rcases hz48 with ⟨-, -, q⟩ | ⟨q, -⟩
        · exact q
        · exact absurd (by omega) q
      refine R_istore_n (lv' := [_, _, _, _]) rfl rfl ?_
      refine R_aload_n rfl rfl ?_
      refine R_getfield rfl rfl (by omega) b0q1 rfl ?_
      refine R_getfield rfl rfl (by omega) p0q1 rfl ?_
      refine R_iload_n rfl rfl ?_
      refine R_iload_n rfl rfl ?_
      refine R_vcall rfl rfl ⟨(by omega), hSq1.rcv⟩ ⟨Nat.le_of_ble_eq_true rfl, Nat.le_of_ble_eq_true rfl, Nat.le_of_ble_eq_true rfl, Nat.le_of_ble_eq_true rfl⟩ (setLetter_T hSq1 hG (by omega) ⟨by omega, by omega⟩ (fun h2 hS2 f2 => aRes_v (rest := []) ?_))
      have hP2 := isPz_S (G := y.1) (G' := setL y.1 x k) ⟨rfl, rfl, rfl, rfl⟩ hP1 hS2 f2
      have f3 : fr h1 h2 8 12 := f2.wide (by omega)
      refine R_iload_n rfl rfl ?_
      exact R_ireturn rfl (fun q => absurd q (by decide)) (Nat.le_of_ble_eq_true rfl) (Nat.le_of_ble_eq_true rfl) (clQ_0 hQ ho (isFace_mk hF hP2 (ok_setL hG (hl9.imp_right isLb_let)) (isMem_fr hM1 (fun j h3 h4 => f3 j (by omega))) (fr8 f1 f3)) (fr122 (fr8 f1 f3)) hl)
    · exact R_throw rfl rfl (Nat.le_of_ble_eq_true rfl) (Nat.le_of_ble_eq_true rfl) (Nat.le_of_ble_eq_true rfl) rfl (clQ_2 (v := 0) hQ ((if_pos (by omega)).trans (if_neg (fun q => by rw [bI_f hz10 (by omega)] at q; rcases q with q | q; omega; cases q))) hF same122)
theorem setBar_C {d N : Nat} {h : AH} {y : Sy} {Q : AQ} (hF : isFace h y) (hN : 122 ≤ N) {c : Int} {b v : Bool} (hc : inR c) (hQ : clQ (opSetBar y c b v) "java/lang/IndexOutOfBoundsException" "java/lang/IllegalArgumentException" h N Q) : T (d + 6) 104 [vR 0, vI c, vI (bI b), vI (bI v)] h N Q := by
  obtain ⟨b0, ⟨px, hT⟩, ⟨Gt, hSt⟩, hP, hG, ⟨Gr9, hPt⟩, hM, hSe, hFl, hst⟩ := id hF
  obtain ⟨F, Ln, Dn, Ac, Dw, Cl, ⟨p0, hS, -⟩, -⟩ := id hP
  obtain ⟨hm4, hm36⟩ := hG.m
  have hn36 := nE36 hG
  have hW8 := hG.2.2.2.2.1
  obtain ⟨rb, bb, s0⟩ := hS.e0
  obtain ⟨hc1, hc2⟩ := id hc
  have hb01 := bI01 b
  have hv01 := bI01 v
  refine T_body (I := mi_X8_setBar) (lv := [_, _, _, _]) rfl (Nat.le_of_ble_eq_true rfl) rfl ?_
  refine R_aload_n rfl rfl ?_
  refine R_iload_n rfl rfl ?_
  refine R_vcall rfl rfl ⟨(by omega), _, b0⟩ ⟨Nat.le_of_ble_eq_true rfl, Nat.le_of_ble_eq_true rfl, Nat.le_of_ble_eq_true rfl, Nat.le_of_ble_eq_true rfl⟩ (requireCell_T hF hN ⟨by omega, by omega⟩ (fun hok => aRes_v (rest := []) ?_) (fun hno => aRes_x rfl (clQ_1 (v := 0) hQ (if_neg hno) hF same122) (Nat.le_of_ble_eq_true rfl) (Nat.le_of_ble_eq_true rfl)))
  obtain ⟨x, rfl⟩ := Int.eq_ofNat_of_zero_le hok.1
  have hx : x < qM y.1 := by omega
  refine R_aload_n rfl rfl ?_
  refine R_getfield rfl rfl (by omega) b0 rfl ?_
  refine R_getfield rfl rfl (by omega) p0 rfl ?_
  refine R_iload_n rfl rfl ?_
  refine R_iload_n rfl rfl ?_
  refine R_vcall rfl rfl ⟨(by omega), hS.rcv⟩ ⟨Nat.le_of_ble_eq_true rfl, Nat.le_of_ble_eq_true rfl, Nat.le_of_ble_eq_true rfl, Nat.le_of_ble_eq_true rfl⟩ (isPlace_T (b := b) hS hG (by omega) ⟨by omega, by omega⟩ (fun z14 hz14 => aRes_i (rest := []) ?_))
  refine R_ifne rfl ⟨by omega, by omega⟩ (fun c17 => ?_) (fun c17 => ?_)
  · have hpl : qP y.1 x b := by
      rcases hz14 with ⟨q1, q2, q3⟩ | ⟨q1, q2⟩
      · exact q3
      · omega
    have hpb : qPb y.1 x b = true := qPb_iff.mpr hpl
    have ho : opSetBar y x b v = (0, ((nE (setBr y.1 x b v) : Nat) : Int), (setBr y.1 x b v, rem14 y.2.1 y.1, y.2.2)) := (if_pos (by omega)).trans (if_pos hpb)
    refine R_aload_n rfl rfl ?_
    refine R_getfield rfl rfl (by omega) b0 rfl ?_
    refine R_aload_n rfl rfl ?_
    refine R_getfield rfl rfl (by omega) b0 rfl ?_
    refine R_getfield rfl rfl (by omega) p0 rfl ?_
    refine R_vcall rfl rfl ⟨(by omega), (mem_rcv hM)⟩ ⟨Nat.le_of_ble_eq_true rfl, Nat.le_of_ble_eq_true rfl, Nat.le_of_ble_eq_true rfl, Nat.le_of_ble_eq_true rfl⟩ (remember_T hM (by omega) hS hG (by decide) (fun h1 hM1 f1 => aRes_v (rest := []) ?_))
    have hP1 : isPz h1 8 y.1 := isPz_fr hP (fun j _ _ => f1 j (by omega))
    have b0q1 := (f1 0 (by omega)).trans b0
    obtain ⟨Fxq1, Lxq1, Dxq1, Axq1, Wxq1, Cxq1, ⟨p0q1, hSq1, -⟩, -⟩ := id hP1
    obtain ⟨rxq1, bxq1, s0q1⟩ := hSq1.e0
    refine R_aload_n rfl rfl ?_
    refine R_getfield rfl rfl (by omega) b0q1 rfl ?_
    refine R_iload_n rfl rfl ?_
    refine R_iload_n rfl rfl ?_
    refine R_iload_n rfl rfl ?_
    refine R_vcall rfl rfl ⟨(by omega), _, p0q1⟩ ⟨Nat.le_of_ble_eq_true rfl, Nat.le_of_ble_eq_true rfl, Nat.le_of_ble_eq_true rfl, Nat.le_of_ble_eq_true rfl⟩ (changeBar_T (b := b) (v := v) hP1.a hG (by omega) ⟨by omega, by omega⟩ (fun _ _ h2 hP2 f2 => aRes_i (rest := []) ?_) (fun hn9 => absurd ⟨by omega, qPb_iff.mp hpb⟩ hn9))
    have b0q2 := (f2 0 (by omega)).trans b0q1
    obtain ⟨Fxq2, Lxq2, Dxq2, Axq2, Wxq2, Cxq2, ⟨p0q2, hSq2, -⟩, -⟩ := id hP2
    obtain ⟨rxq2, bxq2, s0q2⟩ := hSq2.e0
    refine R_pop rfl rfl ?_
    refine R_aload_n rfl rfl ?_
    refine R_getfield rfl rfl (by omega) b0q2 rfl ?_
    refine R_getfield rfl rfl (by omega) p0q2 rfl ?_
    exact R_ireturn rfl (fun q => absurd q (by decide)) (Nat.le_of_ble_eq_true rfl) (Nat.le_of_ble_eq_true rfl) (clQ_0 hQ ho (isFace_mk hF hP2 (ok_setBr hG (qPb_iff.mp hpb)) (isMem_fr hM1 (fun j h3 h4 => f2 j (by omega))) (fr8 f1 f2)) (fr122 (fr8 f1 f2)) rfl)
  · exact R_throw rfl rfl (Nat.le_of_ble_eq_true rfl) (Nat.le_of_ble_eq_true rfl) (Nat.le_of_ble_eq_true rfl) rfl (clQ_2 (v := 0) hQ ((if_pos (by omega)).trans (if_neg (fun q => by rcases hz14 with ⟨q1, q2, q3⟩ | ⟨q1, q2⟩; omega; exact q2 ⟨by omega, qPb_iff.mp q⟩))) hF same122)
theorem possible_C {d N : Nat} {h : AH} {y : Sy} {Q : AQ} (hF : isFace h y) (hN : 122 ≤ N) (hQ : clQ (opPossible y) "java/lang/IllegalArgumentException" "java/lang/IllegalStateException" h N Q) : T (d + 18) 110 [vR 0] h N Q := by
  obtain ⟨b0, ⟨px, hT⟩, ⟨Gt, hSt⟩, hP, hG, ⟨Gr9, hPt⟩, hM, hSe, hFl, hst⟩ := id hF
  obtain ⟨F, Ln, Dn, Ac, Dw, Cl, ⟨p0, hS, -⟩, -⟩ := id hP
  obtain ⟨hm4, hm36⟩ := hG.m
  have hn36 := nE36 hG
  have hW8 := hG.2.2.2.2.1
  obtain ⟨rb, bb, s0⟩ := hS.e0
  refine T_body (I := mi_X8_possible) (lv := [_]) rfl (Nat.le_of_ble_eq_true rfl) rfl ?_
  refine R_aload_n rfl rfl ?_
  refine R_getfield rfl rfl (by omega) b0 rfl ?_
  refine R_aload_n rfl rfl ?_
  refine R_getfield rfl rfl (by omega) b0 rfl ?_
  refine R_iconst rfl ?_
  refine R_sipush rfl ?_
  refine R_vcall rfl rfl ⟨(by omega), (se_rcv hSe)⟩ ⟨Nat.le_of_ble_eq_true rfl, Nat.le_of_ble_eq_true rfl, Nat.zero_le _, Nat.zero_le _⟩ (count_T (em := true) (lim := 9999) hP hG (by omega) (by omega) hst hSe (by decide) (fun h1 hH1 f1 => aRes_i (rest := []) ?_))
  exact R_ireturn rfl (fun q => absurd q (by decide)) (Nat.zero_le _) (Nat.zero_le _) (clQ_0 hQ rfl (isFace_se hF hH1.se f1) (fun j hj => f1 j (by omega)) rfl)
theorem fillings_C {d N : Nat} {h : AH} {y : Sy} {Q : AQ} (hF : isFace h y) (hN : 122 ≤ N) (hQ : clQ (opFillings y) "java/lang/IllegalArgumentException" "java/lang/IllegalStateException" h N Q) : T (d + 27) 111 [vR 0] h N Q := by
  obtain ⟨b0, ⟨px, hT⟩, ⟨Gt, hSt⟩, hP, hG, ⟨Gr9, hPt⟩, hM, hSe, hFl, hst⟩ := id hF
  obtain ⟨F, Ln, Dn, Ac, Dw, Cl, ⟨p0, hS, -⟩, -⟩ := id hP
  obtain ⟨hm4, hm36⟩ := hG.m
  have hn36 := nE36 hG
  have hW8 := hG.2.2.2.2.1
  obtain ⟨rb, bb, s0⟩ := hS.e0
  refine T_body (I := mi_X8_fillings) (lv := [_]) rfl (Nat.le_of_ble_eq_true rfl) rfl ?_
  refine R_aload_n rfl rfl ?_
  refine R_getfield rfl rfl (by omega) b0 rfl ?_
  refine R_aload_n rfl rfl ?_
  refine R_getfield rfl rfl (by omega) b0 rfl ?_
  refine R_vcall rfl rfl ⟨(by omega), (fl_rcv hFl)⟩ ⟨Nat.le_of_ble_eq_true rfl, Nat.le_of_ble_eq_true rfl, Nat.zero_le _, Nat.zero_le _⟩ (fillings_T hP hG (by omega) (by omega) hFl (fun h1 hL1 f1 => aRes_i (rest := []) ?_))
  exact R_ireturn rfl (fun q => absurd q (by decide)) (Nat.zero_le _) (Nat.zero_le _) (clQ_0 hQ rfl (isFace_fl hF hL1 f1) (fun j hj => f1 j (by omega)) rfl)
theorem hd_loop {d N : Nat} {h : AH} {y : Sy} {Q : AQ} (hF : isFace h y) (hN : 122 ≤ N) : ∀ (r i : Nat) (bb : Int) (l : Nat) (zl zi : Int) (l4 : Option AV), i + r = nE y.1 → zi = i → l ≤ 9 → zl = l → (∀ z : Int, z = hdF y.1 r i bb l → Q (.inl (some (vI z))) h N) → Run mi_X8_hardest (T (d + 5)) Q 8 [some (vR 0), some (vI bb), some (vI zl), some (vI zi), l4] [] h N 0 0 := by
  obtain ⟨b0, ⟨px, hT⟩, ⟨Gt, hSt⟩, hP, hG, ⟨Gr9, hPt⟩, hM, hSe, hFl, hst⟩ := id hF
  obtain ⟨F, Ln, Dn, Ac, Dw, Cl, ⟨p0, hS, -⟩, -⟩ := id hP
  obtain ⟨hm4, hm36⟩ := hG.m
  have hn36 := nE36 hG
  have hW8 := hG.2.2.2.2.1
  obtain ⟨rb, bb, s0⟩ := hS.e0
  intro r
  induction r using Nat.strongRecOn with
  | ind r ih =>
  intro i bb l zl zi l4 hr hzi hl9 hzl kc
  have hnE9 : cnt y.1 (qM y.1) = nE y.1 := rfl
  refine R_iload_n rfl rfl ?_
  refine R_aload_n rfl rfl ?_
  refine R_getfield rfl rfl (by omega) b0 rfl ?_
  refine R_getfield rfl rfl (by omega) p0 rfl ?_
  refine R_icmpge rfl ⟨by omega, by omega⟩ ⟨by omega, by omega⟩ (fun c16 => ?_) (fun c16 => ?_)
  · have hr0 : r = 0 := by omega
    subst hr0
    refine R_iload_n rfl rfl ?_
    exact R_ireturn rfl (fun q => absurd q (by decide)) (Nat.zero_le _) (Nat.zero_le _) (kc _ rfl)
  · obtain ⟨r, rfl⟩ : ∃ r1, r = r1 + 1 := ⟨r - 1, by omega⟩
    subst hzi
    refine R_aload_n rfl rfl ?_
    refine R_getfield rfl rfl (by omega) b0 rfl ?_
    refine R_iload_n rfl rfl ?_
    refine R_vcall rfl rfl ⟨(by omega), _, p0⟩ ⟨Nat.le_of_ble_eq_true rfl, Nat.le_of_ble_eq_true rfl, Nat.zero_le _, Nat.zero_le _⟩ (emptyIn_T (e := i) hP hG (by omega) (by omega) (fun z24 hz24 => aRes_i (rest := []) ?_))
    have hem := em_6 hG (e := i) (by omega)
    refine R_ifle rfl ⟨by omega, by omega⟩ (fun c27 => ?_) (fun c27 => ?_)
    · have hh : hdF y.1 (r + 1) i bb l = hdF y.1 r (i + 1) bb l := if_neg (by omega)
      refine R_iinc (lv' := [_, _, _, _, _]) rfl rfl rfl ?_
      refine R_goto rfl ?_
      rw [hh] at kc
      first | exact ih r (by omega) (i + 1) _ _ _ _ _ (by omega) (by omega) hl9 hzl kc | exact ih r (by omega) (i + 1) (i : Int) (fcG y.1 i) _ _ _ (by omega) (by omega) (by omega) (by omega) kc
    · refine R_aload_n rfl rfl ?_
      refine R_getfield rfl rfl (by omega) b0 rfl ?_
      refine R_iload_n rfl rfl ?_
      refine R_vcall rfl rfl ⟨(by omega), _, p0⟩ ⟨Nat.le_of_ble_eq_true rfl, Nat.le_of_ble_eq_true rfl, Nat.zero_le _, Nat.zero_le _⟩ (fitCount_T (e := i) hP hG (by omega) (by omega) (fun z35 hz35 => aRes_i (rest := []) ?_))
      have hfc := fc_8 hG (e := i)
      refine R_istore (lv' := [_, _, _, _, _]) rfl rfl ?_
      refine R_iload rfl rfl ?_
      refine R_iload_n rfl rfl ?_
      refine R_icmpge rfl ⟨by omega, by omega⟩ ⟨by omega, by omega⟩ (fun c43 => ?_) (fun c43 => ?_)
      · have hh : hdF y.1 (r + 1) i bb l = hdF y.1 r (i + 1) bb l := if_neg (by omega)
        refine R_iinc (lv' := [_, _, _, _, _]) rfl rfl rfl ?_
        refine R_goto rfl ?_
        rw [hh] at kc
        first | exact ih r (by omega) (i + 1) _ _ _ _ _ (by omega) (by omega) hl9 hzl kc | exact ih r (by omega) (i + 1) (i : Int) (fcG y.1 i) _ _ _ (by omega) (by omega) (by omega) (by omega) kc
      · have hh : hdF y.1 (r + 1) i bb l = hdF y.1 r (i + 1) (i : Int) (fcG y.1 i) := if_pos ⟨by omega, by omega⟩
        refine R_iload rfl rfl ?_
        refine R_istore_n (lv' := [_, _, _, _, _]) rfl rfl ?_
        refine R_iload_n rfl rfl ?_
        refine R_istore_n (lv' := [_, _, _, _, _]) rfl rfl ?_
        refine R_iinc (lv' := [_, _, _, _, _]) rfl rfl rfl ?_
        refine R_goto rfl ?_
        rw [hh] at kc
        first | exact ih r (by omega) (i + 1) _ _ _ _ _ (by omega) (by omega) hl9 hzl kc | exact ih r (by omega) (i + 1) (i : Int) (fcG y.1 i) _ _ _ (by omega) (by omega) (by omega) (by omega) kc
theorem hardest_C {d N : Nat} {h : AH} {y : Sy} {Q : AQ} (hF : isFace h y) (hN : 122 ≤ N) (hQ : clQ (opHardest y) "java/lang/IllegalArgumentException" "java/lang/IllegalStateException" h N Q) : T (d + 6) 113 [vR 0] h N Q := by
  obtain ⟨b0, ⟨px, hT⟩, ⟨Gt, hSt⟩, hP, hG, ⟨Gr9, hPt⟩, hM, hSe, hFl, hst⟩ := id hF
  obtain ⟨F, Ln, Dn, Ac, Dw, Cl, ⟨p0, hS, -⟩, -⟩ := id hP
  obtain ⟨hm4, hm36⟩ := hG.m
  have hn36 := nE36 hG
  have hW8 := hG.2.2.2.2.1
  obtain ⟨rb, bb, s0⟩ := hS.e0
  refine T_body (I := mi_X8_hardest) (lv := [_, _, _, _, _]) rfl (Nat.le_of_ble_eq_true rfl) rfl ?_
  refine R_bipush rfl ?_
  refine R_istore_n (lv' := [_, _, _, _, _]) rfl rfl ?_
  refine R_bipush rfl ?_
  refine R_istore_n (lv' := [_, _, _, _, _]) rfl rfl ?_
  refine R_iconst rfl ?_
  refine R_istore_n (lv' := [_, _, _, _, _]) rfl rfl ?_
  exact hd_loop hF hN (nE y.1) 0 (-9) 9 _ _ _ (Nat.zero_add _) rfl (Nat.le_refl _) rfl (fun z hz => clQ_0 hQ rfl hF same122 hz)
theorem undo_C {d N : Nat} {h : AH} {y : Sy} {Q : AQ} (hF : isFace h y) (hN : 122 ≤ N) (hQ : clQ (opUndo y) "java/lang/IllegalStateException" "java/lang/IllegalStateException" h N Q) : T (d + 6) 109 [vR 0] h N Q := by
  obtain ⟨b0, ⟨px, hT⟩, ⟨Gt, hSt⟩, hP, hG, ⟨Gr9, hPt⟩, hM, hSe, hFl, hst⟩ := id hF
  obtain ⟨F, Ln, Dn, Ac, Dw, Cl, ⟨p0, hS, -⟩, -⟩ := id hP
  obtain ⟨hm4, hm36⟩ := hG.m
  have hn36 := nE36 hG
  have hW8 := hG.2.2.2.2.1
  obtain ⟨rb, bb, s0⟩ := hS.e0
  obtain ⟨o9, u9, R9, S9, ho9, hl9, m0, -⟩ := id hM
  refine T_body (I := mi_X8_undo) (lv := [_]) rfl (Nat.le_of_ble_eq_true rfl) rfl ?_
  refine R_aload_n rfl rfl ?_
  refine R_getfield rfl rfl (by omega) b0 rfl ?_
  refine R_getfield rfl rfl (by omega) m0 rfl ?_
  refine R_ifne rfl ⟨by omega, by omega⟩ (fun c7 => ?_) (fun c7 => ?_)
  · obtain ⟨l, G2, hcat⟩ := cat_of y.2.1 (by omega)
    have ho : opUndo y = (0, (l.length : Int), (G2, l, y.2.2)) := by
      have h9 := opUndo_c (G := y.1) (G2 := G2) (l := l) (r := y.2.2)
      rw [← hcat] at h9
      exact h9
    rw [hcat] at hM
    have hG2 := mem_ok hM
    refine R_aload_n rfl rfl ?_
    refine R_getfield rfl rfl (by omega) b0 rfl ?_
    refine R_aload_n rfl rfl ?_
    refine R_getfield rfl rfl (by omega) b0 rfl ?_
    refine R_vcall rfl rfl ⟨(by omega), _, m0⟩ ⟨Nat.le_of_ble_eq_true rfl, Nat.le_of_ble_eq_true rfl, Nat.le_of_ble_eq_true rfl, Nat.le_of_ble_eq_true rfl⟩ (takeLast_T hM (by omega) (fun h1 p9 hM1 hSp hp9 f1 => aRes_i (rest := [_]) ?_))
    have hP1 : isPz h1 8 y.1 := isPz_fr hP (fun j _ _ => f1 j (by omega))
    have b0q1 := (f1 0 (by omega)).trans b0
    obtain ⟨Fxq1, Lxq1, Dxq1, Axq1, Wxq1, Cxq1, ⟨p0q1, hSq1, -⟩, -⟩ := id hP1
    obtain ⟨rxq1, bxq1, s0q1⟩ := hSq1.e0
    refine R_vcall rfl rfl ⟨(by omega), _, p0q1⟩ ⟨Nat.le_of_ble_eq_true rfl, Nat.le_of_ble_eq_true rfl, Nat.le_of_ble_eq_true rfl, Nat.le_of_ble_eq_true rfl⟩ (take_T hP1.a hSp hG2 (by omega) ⟨by omega, by omega⟩ (fun h2 hP2 f2 => aRes_v (rest := []) ?_))
    have hM2 := isMem_fr hM1 (h' := h2) (fun j h3 h4 => f2 j (by omega))
    have b0q2 := (f2 0 (by omega)).trans b0q1
    obtain ⟨o2, u2, R2, S2, ho2, hl2, m0q2, -⟩ := id hM2
    refine R_aload_n rfl rfl ?_
    refine R_getfield rfl rfl (by omega) b0q2 rfl ?_
    refine R_getfield rfl rfl (by omega) m0q2 rfl ?_
    exact R_ireturn rfl (fun q => absurd q (by decide)) (Nat.le_of_ble_eq_true rfl) (Nat.le_of_ble_eq_true rfl) (clQ_0 hQ ho (isFace_mk hF hP2 hG2 hM2 (fr8 (f1.wide (by omega)) f2)) (fr122 (fr8 (f1.wide (by omega)) f2)) rfl)
  · exact R_throw rfl rfl (Nat.le_of_ble_eq_true rfl) (Nat.le_of_ble_eq_true rfl) (Nat.le_of_ble_eq_true rfl) rfl (clQ_1 (v := 0) hQ (by unfold opUndo; rw [show y.2.1 = [] from List.eq_nil_of_length_eq_zero (by omega)]; rfl) hF same122)
