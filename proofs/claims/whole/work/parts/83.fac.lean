/-! ===== the class's face: addWord, setLine, load, mend ===== -/
theorem wk_addW {G : Gr} (hG : okG G) {c : Nat} {t : Nat → Int} (hw : qW G < 8) (hc : c ≤ 6) : wkG (addW G c t) := by
  obtain ⟨g1, g2, g3, g4, g5, g6, g7, g8, g9⟩ := hG
  refine ⟨g1, g2, show qW G + 1 ≤ 8 by omega, fun w hw2 => ?_, g8⟩
  have hw2 : w < qW G + 1 := hw2
  show va_up (qWn G) (qW G) c w ≤ 6
  by_cases q : w = qW G
  · rw [q, va_up_self]
    exact hc
  · rw [va_up_ne _ _ q]
    exact (g6 w (by omega)).2
theorem wk_addN {G : Gr} (hG : okG G) {c : Nat} {t : Nat → Int} (hc : c ≤ 6) : wkG (addN G c t) := by
  obtain ⟨g1, g2, g3, g4, g5, g6, g7, g8, g9⟩ := hG
  exact ⟨g1, g2, g5, fun w hw => (g6 w hw).2, hc⟩
theorem Run_kn {I : MI} {d : Nat} {Q : AQ} {pc : Nat} {lv : AL} {st : List AV} {h : AH} {N k n : Nat} (hr : Run I (T d) Q pc lv st h N k n) : Run I (T d) Q pc lv st h N k n := hr
theorem aw_loop {d N n px : Nat} {Q : AQ} {G : Gr} {tx : Nat → Int} {fs : List AV} (hG : okG G) (hN : 122 ≤ N) (hw8 : qW G < 8) (hn6 : n ≤ 6) : ∀ (r i : Nat) (h : AH) (zi : Int), i + r = n → zi = i → h 0 = eO 6 [vR 1, vR 8, vR 20, vR 32, vR 116, vR 119] → h 8 = eO 3 (vR (8 + 1) :: fs) → isTx h n tx px → isSt h (8 + 1) (addW G i (sg n tx)) → (∀ h' z', isSt h' (8 + 1) (addW G n (sg n tx)) → fr h h' 9 5 → Run mi_X8_addWord (T (d + 4)) Q 97 [some (vR 0), some (vI z')] [] h' N 0 0) → Run mi_X8_addWord (T (d + 4)) Q 62 [some (vR 0), some (vI zi)] [] h N 0 0 := by
  intro r
  induction r using Nat.strongRecOn with
  | ind r ih =>
  intro i h zi hr hzi b0 p0 hT hS kc
  obtain ⟨f9, t0, t1, hn9, hf9⟩ := id hT
  obtain ⟨rb, bb, s0⟩ := hS.e0
  refine R_iload_n rfl rfl ?_
  refine R_aload_n rfl rfl ?_
  refine R_getfield rfl rfl (by omega) b0 rfl ?_
  refine R_getfield rfl rfl (by omega) t0 rfl ?_
  refine R_icmpge rfl ⟨by omega, by omega⟩ ⟨by omega, by omega⟩ (fun c70 => ?_) (fun c70 => ?_)
  · have hr0 : r = 0 := by omega
    subst hr0
    have hi : i = n := by omega
    subst hi
    exact kc h _ hS fr.refl
  · obtain ⟨r, rfl⟩ : ∃ r1, r = r1 + 1 := ⟨r - 1, by omega⟩
    subst hzi
    refine R_aload_n rfl rfl ?_
    refine R_getfield rfl rfl (by omega) b0 rfl ?_
    refine R_getfield rfl rfl (by omega) p0 rfl ?_
    refine R_aload_n rfl rfl ?_
    refine R_getfield rfl rfl (by omega) b0 rfl ?_
    refine R_iload_n rfl rfl ?_
    refine R_vcall rfl rfl ⟨(by omega), _, t0⟩ ⟨Nat.le_of_ble_eq_true rfl, Nat.le_of_ble_eq_true rfl, Nat.zero_le _, Nat.zero_le _⟩ (signAt_T hT (by omega) (i := i) (by omega) (fun z85 hz85 => aRes_i (rest := [_]) ?_))
    refine R_vcall rfl rfl ⟨(by omega), hS.rcv⟩ ⟨Nat.le_of_ble_eq_true rfl, Nat.le_of_ble_eq_true rfl, Nat.zero_le _, Nat.zero_le _⟩ (lengthenWord_T hS (wk_addW hG hw8 (by omega)) (by omega) (W := qW G) (n := i) rfl (va_up_self _ _ _) (by omega) (fun h1 hS1 f1 => aRes_v (rest := []) ?_))
    rw [hz85, lenW_add] at hS1
    refine R_iinc (lv' := [_, _]) rfl rfl rfl ?_
    refine R_goto rfl ?_
    exact ih r (by omega) (i + 1) h1 _ (by omega) (by omega) ((f1 0 (by omega)).trans b0) ((f1 8 (by omega)).trans p0) (isTx_fr hT (f1 1 (by omega)) (f1 7 (by omega))) hS1 (fun h2 z2 q1 q2 => kc h2 z2 q1 (f1.trans q2))
theorem al_loop {d N n px : Nat} {Q : AQ} {G : Gr} {tx : Nat → Int} {fs : List AV} (hG : okG G) (hN : 122 ≤ N) (hn6 : n ≤ 6) : ∀ (r i : Nat) (h : AH) (zi : Int), i + r = n → zi = i → h 0 = eO 6 [vR 1, vR 8, vR 20, vR 32, vR 116, vR 119] → h 8 = eO 3 (vR (8 + 1) :: fs) → isTx h n tx px → isSt h (8 + 1) (addN G i (sg n tx)) → (∀ h' z', isSt h' (8 + 1) (addN G n (sg n tx)) → fr h h' 9 5 → Run mi_X8_setLine (T (d + 4)) Q 83 [some (vR 0), some (vI z')] [] h' N 0 0) → Run mi_X8_setLine (T (d + 4)) Q 48 [some (vR 0), some (vI zi)] [] h N 0 0 := by
  intro r
  induction r using Nat.strongRecOn with
  | ind r ih =>
  intro i h zi hr hzi b0 p0 hT hS kc
  obtain ⟨f9, t0, t1, hn9, hf9⟩ := id hT
  obtain ⟨rb, bb, s0⟩ := hS.e0
  refine R_iload_n rfl rfl ?_
  refine R_aload_n rfl rfl ?_
  refine R_getfield rfl rfl (by omega) b0 rfl ?_
  refine R_getfield rfl rfl (by omega) t0 rfl ?_
  refine R_icmpge rfl ⟨by omega, by omega⟩ ⟨by omega, by omega⟩ (fun c56 => ?_) (fun c56 => ?_)
  · have hr0 : r = 0 := by omega
    subst hr0
    have hi : i = n := by omega
    subst hi
    exact kc h _ hS fr.refl
  · obtain ⟨r, rfl⟩ : ∃ r1, r = r1 + 1 := ⟨r - 1, by omega⟩
    subst hzi
    refine R_aload_n rfl rfl ?_
    refine R_getfield rfl rfl (by omega) b0 rfl ?_
    refine R_getfield rfl rfl (by omega) p0 rfl ?_
    refine R_aload_n rfl rfl ?_
    refine R_getfield rfl rfl (by omega) b0 rfl ?_
    refine R_iload_n rfl rfl ?_
    refine R_vcall rfl rfl ⟨(by omega), _, t0⟩ ⟨Nat.le_of_ble_eq_true rfl, Nat.le_of_ble_eq_true rfl, Nat.zero_le _, Nat.zero_le _⟩ (signAt_T hT (by omega) (i := i) (by omega) (fun z71 hz71 => aRes_i (rest := [_]) ?_))
    refine R_vcall rfl rfl ⟨(by omega), hS.rcv⟩ ⟨Nat.le_of_ble_eq_true rfl, Nat.le_of_ble_eq_true rfl, Nat.zero_le _, Nat.zero_le _⟩ (lengthenLine_T hS (wk_addN hG (by omega)) (by omega) (show i < 6 by omega) (fun h1 hS1 f1 => aRes_v (rest := []) ?_))
    rw [hz71, lenN_add] at hS1
    refine R_iinc (lv' := [_, _]) rfl rfl rfl ?_
    refine R_goto rfl ?_
    exact ih r (by omega) (i + 1) h1 _ (by omega) (by omega) ((f1 0 (by omega)).trans b0) ((f1 8 (by omega)).trans p0) (isTx_fr hT (f1 1 (by omega)) (f1 7 (by omega))) hS1 (fun h2 z2 q1 q2 => kc h2 z2 q1 (f1.trans q2))
theorem addWord_C {d N : Nat} {h : AH} {y : Sy} {Q : AQ} (hF : isFace h y) (hN : 122 ≤ N) (hQ : clQ (opAddWord y) "java/lang/IllegalStateException" "java/lang/IllegalStateException" h N Q) : T (d + 5) 105 [vR 0] h N Q := by
  obtain ⟨b0, ⟨px, hT⟩, ⟨Gt, hSt⟩, hP, hG, ⟨Gr9, hPt⟩, hM, hSe, hFl, hst⟩ := id hF
  obtain ⟨F, Ln, Dn, Ac, Dw, Cl, ⟨p0, hS, -⟩, -⟩ := id hP
  obtain ⟨hm4, hm36⟩ := hG.m
  have hn36 := nE36 hG
  have hW8 := hG.2.2.2.2.1
  obtain ⟨rb, bb, s0⟩ := hS.e0
  obtain ⟨f9, t0, t1, hn9, hf9⟩ := id hT
  refine T_body (I := mi_X8_addWord) (lv := [_, _]) rfl (Nat.le_of_ble_eq_true rfl) rfl ?_
  refine R_aload_n rfl rfl ?_
  refine R_getfield rfl rfl (by omega) b0 rfl ?_
  refine R_iconst rfl ?_
  refine R_vcall rfl rfl ⟨(by omega), _, t0⟩ ⟨Nat.le_of_ble_eq_true rfl, Nat.le_of_ble_eq_true rfl, Nat.le_of_ble_eq_true rfl, Nat.le_of_ble_eq_true rfl⟩ (isWord_T (l := 2) hT (by omega) (by decide) (fun z5 hz5 => aRes_i (rest := []) ?_))
  have h01 := bI01 (iwG y.2.2.2.1 y.2.2.2.2 2)
  rw [← hz5] at h01
  refine R_ifeq rfl ⟨by omega, by omega⟩ (fun c8 => ?_) (fun c8 => ?_)
  · exact R_throw rfl rfl (Nat.le_of_ble_eq_true rfl) (Nat.le_of_ble_eq_true rfl) (Nat.le_of_ble_eq_true rfl) rfl (clQ_1 (v := 0) hQ (if_neg (fun q => by have q1 := q.1; have q2 := q.2; first | omega | (rw [bI_f hz5 (by omega)] at q1; cases q1))) hF same122)
  · refine R_aload_n rfl rfl ?_
    refine R_getfield rfl rfl (by omega) b0 rfl ?_
    refine R_getfield rfl rfl (by omega) p0 rfl ?_
    refine R_getfield rfl rfl (by omega) s0 rfl ?_
    refine R_bipush rfl ?_
    refine R_icmplt rfl ⟨by omega, by omega⟩ ⟨by decide, by decide⟩ (fun c23 => ?_) (fun c23 => ?_)
    · have hiw := bI_t hz5 (by omega)
      obtain ⟨⟨hn2, hn6⟩, hlt⟩ := iw_let hiw
      have ho : opAddWord y = (0, ((qW y.1 : Nat) : Int), (addW y.1 y.2.2.2.1 (sg y.2.2.2.1 y.2.2.2.2), rem14 y.2.1 y.1, y.2.2)) := (if_pos ⟨hiw, by omega⟩).trans (by show (_, _, actS _ (lwF y.2.2.2.1 y.2.2.2.2 y.2.2.2.1 0 (begW y.1))) = _; rw [lw_all]; rfl)
      refine R_aload_n rfl rfl ?_
      refine R_getfield rfl rfl (by omega) b0 rfl ?_
      refine R_aload_n rfl rfl ?_
      refine R_getfield rfl rfl (by omega) b0 rfl ?_
      refine R_getfield rfl rfl (by omega) p0 rfl ?_
      refine R_vcall rfl rfl ⟨(by omega), (mem_rcv hM)⟩ ⟨Nat.le_of_ble_eq_true rfl, Nat.le_of_ble_eq_true rfl, Nat.le_of_ble_eq_true rfl, Nat.le_of_ble_eq_true rfl⟩ (remember_T hM (by omega) hS hG (by decide) (fun h1 hM1 f1 => aRes_v (rest := []) ?_))
      have hP1 : isPz h1 8 y.1 := isPz_fr hP (fun j _ _ => f1 j (by omega))
      have b0q1 := (f1 0 (by omega)).trans b0
      obtain ⟨Fxq1, Lxq1, Dxq1, Axq1, Wxq1, Cxq1, ⟨p0q1, hSq1, -⟩, -⟩ := id hP1
      obtain ⟨rxq1, bxq1, s0q1⟩ := hSq1.e0
      refine R_aload_n rfl rfl ?_
      refine R_getfield rfl rfl (by omega) b0q1 rfl ?_
      refine R_getfield rfl rfl (by omega) p0q1 rfl ?_
      refine R_vcall rfl rfl ⟨(by omega), hSq1.rcv⟩ ⟨Nat.le_of_ble_eq_true rfl, Nat.le_of_ble_eq_true rfl, Nat.le_of_ble_eq_true rfl, Nat.le_of_ble_eq_true rfl⟩ (beginWord_T hSq1 hG.wk (by omega) (by omega) (fun h2 hS2 f2 => aRes_v (rest := []) ?_))
      rw [begW_add (t := sg y.2.2.2.1 y.2.2.2.2)] at hS2
      refine R_iconst rfl ?_
      refine R_istore_n (lv' := [_, _]) rfl rfl ?_
      refine Run_kn (aw_loop hG hN (by omega) hn6 y.2.2.2.1 0 h2 _ (Nat.zero_add _) rfl ((f2 0 (by omega)).trans b0q1) ((f2 8 (by omega)).trans p0q1) (isTx_fr (isTx_fr hT (f1 1 (by omega)) (f1 7 (by omega))) (f2 1 (by omega)) (f2 7 (by omega))) hS2 (fun h3 z3 hS3 f3 => ?_))
      have f4 : fr h1 h3 8 12 := (f2.trans f3).wide (by omega)
      have hP3 := isPz_S (G := y.1) (G' := addW y.1 y.2.2.2.1 (sg y.2.2.2.1 y.2.2.2.2)) ⟨rfl, rfl, rfl, rfl⟩ hP1 hS3 (f2.trans f3)
      have b0q3 := (f4 0 (by omega)).trans b0q1
      obtain ⟨Fxq3, Lxq3, Dxq3, Axq3, Wxq3, Cxq3, ⟨p0q3, hSq3, -⟩, -⟩ := id hP3
      obtain ⟨rxq3, bxq3, s0q3⟩ := hSq3.e0
      refine R_aload_n rfl rfl ?_
      refine R_getfield rfl rfl (by omega) b0q3 rfl ?_
      refine R_getfield rfl rfl (by omega) p0q3 rfl ?_
      refine R_getfield rfl rfl (by omega) s0q3 rfl ?_
      refine R_iconst rfl ?_
      refine R_isub rfl ?_
      exact R_ireturn rfl (fun q => absurd q (by decide)) (Nat.zero_le _) (Nat.zero_le _) (clQ_0 hQ ho (isFace_mk hF hP3 (ok_addW hG (by omega) ⟨by omega, hn6⟩ hlt) (isMem_fr hM1 (fun j h3 h4 => f4 j (by omega))) (fr8 f1 f4)) (fr122 (fr8 f1 f4)) (by show ((qW y.1 + 1 : Nat) : Int) - 1 = _; omega))
    · exact R_throw rfl rfl (Nat.le_of_ble_eq_true rfl) (Nat.le_of_ble_eq_true rfl) (Nat.le_of_ble_eq_true rfl) rfl (clQ_1 (v := 0) hQ (if_neg (fun q => by have q1 := q.1; have q2 := q.2; first | omega | (rw [bI_f hz5 (by omega)] at q1; cases q1))) hF same122)
theorem setLine_C {d N : Nat} {h : AH} {y : Sy} {Q : AQ} (hF : isFace h y) (hN : 122 ≤ N) (hQ : clQ (opSetLine y) "java/lang/IllegalStateException" "java/lang/IllegalStateException" h N Q) : T (d + 5) 106 [vR 0] h N Q := by
  obtain ⟨b0, ⟨px, hT⟩, ⟨Gt, hSt⟩, hP, hG, ⟨Gr9, hPt⟩, hM, hSe, hFl, hst⟩ := id hF
  obtain ⟨F, Ln, Dn, Ac, Dw, Cl, ⟨p0, hS, -⟩, -⟩ := id hP
  obtain ⟨hm4, hm36⟩ := hG.m
  have hn36 := nE36 hG
  have hW8 := hG.2.2.2.2.1
  obtain ⟨rb, bb, s0⟩ := hS.e0
  obtain ⟨f9, t0, t1, hn9, hf9⟩ := id hT
  refine T_body (I := mi_X8_setLine) (lv := [_, _]) rfl (Nat.le_of_ble_eq_true rfl) rfl ?_
  refine R_aload_n rfl rfl ?_
  refine R_getfield rfl rfl (by omega) b0 rfl ?_
  refine R_iconst rfl ?_
  refine R_vcall rfl rfl ⟨(by omega), _, t0⟩ ⟨Nat.le_of_ble_eq_true rfl, Nat.le_of_ble_eq_true rfl, Nat.le_of_ble_eq_true rfl, Nat.le_of_ble_eq_true rfl⟩ (isWord_T (l := 1) hT (by omega) (by decide) (fun z5 hz5 => aRes_i (rest := []) ?_))
  have h01 := bI01 (iwG y.2.2.2.1 y.2.2.2.2 1)
  rw [← hz5] at h01
  refine R_ifne rfl ⟨by omega, by omega⟩ (fun c8 => ?_) (fun c8 => ?_)
  · have hiw := bI_t hz5 (by omega)
    obtain ⟨⟨hn2, hn6⟩, hlt⟩ := iw_let hiw
    have ho : opSetLine y = (0, ((y.2.2.2.1 : Nat) : Int), (addN y.1 y.2.2.2.1 (sg y.2.2.2.1 y.2.2.2.2), rem14 y.2.1 y.1, y.2.2)) := (if_pos hiw).trans (by show (_, _, actS _ (liF y.2.2.2.1 y.2.2.2.2 y.2.2.2.1 0 (noN y.1))) = _; rw [li_all]; rfl)
    refine R_aload_n rfl rfl ?_
    refine R_getfield rfl rfl (by omega) b0 rfl ?_
    refine R_aload_n rfl rfl ?_
    refine R_getfield rfl rfl (by omega) b0 rfl ?_
    refine R_getfield rfl rfl (by omega) p0 rfl ?_
    refine R_vcall rfl rfl ⟨(by omega), (mem_rcv hM)⟩ ⟨Nat.le_of_ble_eq_true rfl, Nat.le_of_ble_eq_true rfl, Nat.le_of_ble_eq_true rfl, Nat.le_of_ble_eq_true rfl⟩ (remember_T hM (by omega) hS hG (by decide) (fun h1 hM1 f1 => aRes_v (rest := []) ?_))
    have hP1 : isPz h1 8 y.1 := isPz_fr hP (fun j _ _ => f1 j (by omega))
    have b0q1 := (f1 0 (by omega)).trans b0
    obtain ⟨Fxq1, Lxq1, Dxq1, Axq1, Wxq1, Cxq1, ⟨p0q1, hSq1, -⟩, -⟩ := id hP1
    obtain ⟨rxq1, bxq1, s0q1⟩ := hSq1.e0
    obtain ⟨rbz, bbz, Lz, WLz, WTz, LNz, z9e0, z9e1, z9e2, z9e3, z9e4, hrbz, hbbz, hLz, hWLz, hWTz, hLNz⟩ := id hSq1
    refine R_aload_n rfl rfl ?_
    refine R_getfield rfl rfl (by omega) b0q1 rfl ?_
    refine R_getfield rfl rfl (by omega) p0q1 rfl ?_
    refine R_iconst rfl ?_
    refine R_putfield rfl rfl (by omega) z9e0 (Nat.le_of_ble_eq_true rfl) (by first | trivial | exact trivial | omega) ?_
    refine R_iconst rfl ?_
    refine R_istore_n (lv' := [_, _]) rfl rfl ?_
    have hS2 : isSt (va_up h1 (8 + 1) (eO 4 [vI (qR y.1), vI (qC y.1), vI (qW y.1), vI 0, vL rbz, vL bbz, vR (8 + 1 + 1), vR (8 + 1 + 2), vR (8 + 1 + 3), vR (8 + 1 + 4)])) (8 + 1) (addN y.1 0 (sg y.2.2.2.1 y.2.2.2.2)) := ⟨rbz, bbz, Lz, WLz, WTz, LNz, va_up_self _ _ _, (va_up_ne _ _ (by decide)).trans z9e1, (va_up_ne _ _ (by decide)).trans z9e2, (va_up_ne _ _ (by decide)).trans z9e3, (va_up_ne _ _ (by decide)).trans z9e4, hrbz, hbbz, hLz, hWLz, hWTz, fun i hi => absurd hi (Nat.not_lt_zero _)⟩
    refine Run_kn (al_loop hG hN hn6 y.2.2.2.1 0 _ _ (Nat.zero_add _) rfl ((va_up_ne _ _ (by decide)).trans b0q1) ((va_up_ne _ _ (by decide)).trans p0q1) (isTx_fr (isTx_fr hT (f1 1 (by omega)) (f1 7 (by omega))) (va_up_ne _ _ (by decide)) (va_up_ne _ _ (by decide))) hS2 (fun h3 z3 hS3 f3 => ?_))
    have f2 : fr h1 (va_up h1 (8 + 1) (eO 4 [vI (qR y.1), vI (qC y.1), vI (qW y.1), vI 0, vL rbz, vL bbz, vR (8 + 1 + 1), vR (8 + 1 + 2), vR (8 + 1 + 3), vR (8 + 1 + 4)])) (8 + 1) 5 := fun j hj => va_up_ne _ _ (by omega)
    have f4 : fr h1 h3 8 12 := (f2.trans f3).wide (by omega)
    have hP3 := isPz_S (G := y.1) (G' := addN y.1 y.2.2.2.1 (sg y.2.2.2.1 y.2.2.2.2)) ⟨rfl, rfl, rfl, rfl⟩ hP1 hS3 (f2.trans f3)
    have b0q3 := (f4 0 (by omega)).trans b0q1
    obtain ⟨Fxq3, Lxq3, Dxq3, Axq3, Wxq3, Cxq3, ⟨p0q3, hSq3, -⟩, -⟩ := id hP3
    obtain ⟨rxq3, bxq3, s0q3⟩ := hSq3.e0
    refine R_aload_n rfl rfl ?_
    refine R_getfield rfl rfl (by omega) b0q3 rfl ?_
    refine R_getfield rfl rfl (by omega) p0q3 rfl ?_
    refine R_getfield rfl rfl (by omega) s0q3 rfl ?_
    exact R_ireturn rfl (fun q => absurd q (by decide)) (Nat.zero_le _) (Nat.zero_le _) (clQ_0 hQ ho (isFace_mk hF hP3 (ok_addN hG hn6 hlt) (isMem_fr hM1 (fun j h3 h4 => f4 j (by omega))) (fr8 f1 f4)) (fr122 (fr8 f1 f4)) rfl)
  · exact R_throw rfl rfl (Nat.le_of_ble_eq_true rfl) (Nat.le_of_ble_eq_true rfl) (Nat.le_of_ble_eq_true rfl) rfl (clQ_1 (v := 0) hQ (if_neg (fun q => by rw [bI_f hz5 (by omega)] at q; cases q)) hF same122)
theorem load_C {d N : Nat} {h : AH} {y : Sy} {Q : AQ} (hF : isFace h y) (hN : 122 ≤ N) (hQ : clQ (opLoad y) "java/lang/IllegalStateException" "java/lang/IllegalStateException" h N Q) : T (d + 7) 94 [vR 0] h N Q := by
  obtain ⟨b0, ⟨px, hT⟩, ⟨Gt, hSt⟩, hP, hG, ⟨Gr9, hPt⟩, hM, hSe, hFl, hst⟩ := id hF
  obtain ⟨F, Ln, Dn, Ac, Dw, Cl, ⟨p0, hS, -⟩, -⟩ := id hP
  obtain ⟨hm4, hm36⟩ := hG.m
  have hn36 := nE36 hG
  have hW8 := hG.2.2.2.2.1
  obtain ⟨rb, bb, s0⟩ := hS.e0
  obtain ⟨f9, t0, t1, hn9, hf9⟩ := id hT
  refine T_body (I := mi_X8_load) (lv := [_]) rfl (Nat.le_of_ble_eq_true rfl) rfl ?_
  refine R_aload_n rfl rfl ?_
  refine R_getfield rfl rfl (by omega) b0 rfl ?_
  refine R_vcall rfl rfl ⟨(by omega), _, t0⟩ ⟨Nat.le_of_ble_eq_true rfl, Nat.le_of_ble_eq_true rfl, Nat.le_of_ble_eq_true rfl, Nat.le_of_ble_eq_true rfl⟩ (readGrid_T hT (by omega) hSt (fun h1 Gx p1 hT1 hS1 hg1 f1 => aRes_i (rest := []) ?_))
  have hF1 := isFace_gr hF hT1 hS1 f1
  have hP1 : isPz h1 8 y.1 := isPz_fr hP (fun j _ _ => f1 j (by omega))
  have hM1 := isMem_fr hM (h' := h1) (fun j h3 h4 => f1 j (by omega))
  have b0q1 := (f1 0 (by omega)).trans b0
  obtain ⟨fx9, tx0, tx1, hnx, hfx⟩ := id hT1
  obtain ⟨Fxq1, Lxq1, Dxq1, Axq1, Wxq1, Cxq1, ⟨p0q1, hSq1, -⟩, -⟩ := id hP1
  obtain ⟨rxq1, bxq1, s0q1⟩ := hSq1.e0
  have hle := gd_le y.2.2.2.1 y.2.2.2.2 hnx
  obtain ⟨z4, hz4⟩ : ∃ z4 : Int, (if (gdF y.2.2.2.1 y.2.2.2.2).1 = true then -9 else ((gdF y.2.2.2.1 y.2.2.2.2).2.1 : Int)) = z4 := ⟨_, rfl⟩
  rw [hz4]
  have hzr : -9 ≤ z4 ∧ z4 ≤ 200 := by
    rw [← hz4]
    split <;> omega
  refine R_bipush rfl ?_
  refine R_icmpeq rfl ⟨by omega, by omega⟩ ⟨by decide, by decide⟩ (fun c9 => ?_) (fun c9 => ?_)
  · have hgt : (gdF y.2.2.2.1 y.2.2.2.2).1 = true := by
      cases q : (gdF y.2.2.2.1 y.2.2.2.2).1 with
      | true => rfl
      | false =>
        rw [q] at hz4
        have hz4 : ((gdF y.2.2.2.1 y.2.2.2.2).2.1 : Int) = z4 := hz4
        omega
    obtain ⟨hGe, hGx⟩ := hg1 hgt
    have ho : opLoad y = (0, ((qM Gx : Nat) : Int), (Gx, [], fun _ => none, y.2.2.2)) := (if_pos hgt).trans (by rw [← hGe])
    refine R_aload_n rfl rfl ?_
    refine R_getfield rfl rfl (by omega) b0q1 rfl ?_
    refine R_aload_n rfl rfl ?_
    refine R_getfield rfl rfl (by omega) b0q1 rfl ?_
    refine R_getfield rfl rfl (by omega) tx0 rfl ?_
    refine R_vcall rfl rfl ⟨(by omega), _, p0q1⟩ ⟨Nat.le_of_ble_eq_true rfl, Nat.le_of_ble_eq_true rfl, Nat.le_of_ble_eq_true rfl, Nat.le_of_ble_eq_true rfl⟩ (take_T hP1.a hS1 hGx (by omega) ⟨by omega, by omega⟩ (fun h2 hP2 f2 => aRes_v (rest := []) ?_))
    have hM2 := isMem_fr hM1 (h' := h2) (fun j h3 h4 => f2 j (by omega))
    have b0q2 := (f2 0 (by omega)).trans b0q1
    obtain ⟨Fxq2, Lxq2, Dxq2, Axq2, Wxq2, Cxq2, ⟨p0q2, hSq2, -⟩, -⟩ := id hP2
    obtain ⟨rxq2, bxq2, s0q2⟩ := hSq2.e0
    refine R_aload_n rfl rfl ?_
    refine R_getfield rfl rfl (by omega) b0q2 rfl ?_
    refine R_vcall rfl rfl ⟨(by omega), (mem_rcv hM2)⟩ ⟨Nat.le_of_ble_eq_true rfl, Nat.le_of_ble_eq_true rfl, Nat.le_of_ble_eq_true rfl, Nat.le_of_ble_eq_true rfl⟩ (forgetActions_T hM2 (by omega) (fun h3 hM3 f3 => aRes_v (rest := []) ?_))
    have hP3 := isPz_fr hP2 (h' := h3) (fun j h5 h4 => f3 j (by omega))
    have b0q3 := (f3 0 (by omega)).trans b0q2
    obtain ⟨Fxq3, Lxq3, Dxq3, Axq3, Wxq3, Cxq3, ⟨p0q3, hSq3, -⟩, -⟩ := id hP3
    obtain ⟨rxq3, bxq3, s0q3⟩ := hSq3.e0
    refine R_aload_n rfl rfl ?_
    refine R_getfield rfl rfl (by omega) b0q3 rfl ?_
    refine R_vcall rfl rfl ⟨(by omega), (mem_rcv hM3)⟩ ⟨Nat.le_of_ble_eq_true rfl, Nat.le_of_ble_eq_true rfl, Nat.le_of_ble_eq_true rfl, Nat.le_of_ble_eq_true rfl⟩ (emptySlots_T hM3 (by omega) (fun h4 hM4 f4 => aRes_v (rest := []) ?_))
    have hP4 := isPz_fr hP3 (h' := h4) (fun j h5 h6 => f4 j (by omega))
    have b0q4 := (f4 0 (by omega)).trans b0q3
    obtain ⟨Fxq4, Lxq4, Dxq4, Axq4, Wxq4, Cxq4, ⟨p0q4, hSq4, -⟩, -⟩ := id hP4
    obtain ⟨rxq4, bxq4, s0q4⟩ := hSq4.e0
    refine R_aload_n rfl rfl ?_
    refine R_getfield rfl rfl (by omega) b0q4 rfl ?_
    refine R_getfield rfl rfl (by omega) p0q4 rfl ?_
    refine R_vcall rfl rfl ⟨(by omega), hSq4.rcv⟩ ⟨Nat.le_of_ble_eq_true rfl, Nat.le_of_ble_eq_true rfl, Nat.le_of_ble_eq_true rfl, Nat.le_of_ble_eq_true rfl⟩ (cells_T hSq4 hGx (by omega) (fun z57 hz57 => aRes_i (rest := []) ?_))
    exact R_ireturn rfl (fun q => absurd q (by decide)) (Nat.le_of_ble_eq_true rfl) (Nat.le_of_ble_eq_true rfl) (clQ_0 hQ ho (isFace_mk hF1 hP4 hGx hM4 (fun j q1 q2 => (f4 j (by omega)).trans ((f3 j (by omega)).trans (f2 j (by omega))))) (fun j hj => (f4 j (by omega)).trans ((f3 j (by omega)).trans ((f2 j (by omega)).trans (f1 j (by omega))))) hz57)
  · exact R_throw rfl rfl (Nat.le_of_ble_eq_true rfl) (Nat.le_of_ble_eq_true rfl) (Nat.le_of_ble_eq_true rfl) rfl (clQ_1 (v := 0) hQ (if_neg (fun q => by rw [if_pos q] at hz4; omega)) hF1 (fun j hj => f1 j (by omega)))
