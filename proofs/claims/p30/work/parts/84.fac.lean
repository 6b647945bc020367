/-! ===== the class's face: mend, runScript, simulate ===== -/
theorem isFace_tr {h h' : AH} {y : Sy} {G9 : Gr} (hF : isFace h y) (hPt2 : isPa h' 20 G9) (hSe2 : isSe h') (ho : ∀ j, ¬ (20 ≤ j ∧ j < 32) → ¬ (116 ≤ j ∧ j < 119) → h' j = h j) : isFace h' y := by
  obtain ⟨b0, ⟨px, hT⟩, ⟨Gt, hSt⟩, hP, hG, ⟨Gr9, hPt⟩, hM, hSe, hFl, hst⟩ := hF
  exact ⟨(ho _ (by omega) (by omega)).trans b0, ⟨px, isTx_fr hT (ho _ (by omega) (by omega)) (ho _ (by omega) (by omega))⟩, ⟨Gt, isSt_fr hSt (fun j h1 h2 => ho j (by omega) (by omega))⟩, isPz_fr hP (fun j h1 h2 => ho j (by omega) (by omega)), hG, ⟨G9, hPt2⟩, isMem_fr hM (fun j h1 h2 => ho j (by omega) (by omega)), hSe2, isFl_fr hFl (fun j h1 h2 => ho j (by omega) (by omega)), (ho _ (by omega) (by omega)).trans hst.1, (ho _ (by omega) (by omega)).trans hst.2⟩
theorem me_loop {d N : Nat} {G : Gr} {Q : AQ} (hG : okG G) (hN : 122 ≤ N) {zt : Int} (hzt : zt = ((2 * qM G : Nat) : Int)) : ∀ (r i : Nat) (bb : Int) (m : Nat) (h : AH) (zm zi : Int) (l5 l6 l7 l8 : Option AV), i + r = 2 * qM G → zi = i → zm = m → m ≤ 5 → h 0 = eO 6 [vR 1, vR 8, vR 20, vR 32, vR 116, vR 119] → isPz h 20 G → (∀ h', isPz h' 20 G → fr h h' 20 12 → ∀ z : Int, z = mdF G r i bb m → Q (.inl (some (vI z))) h' N) → Run mi_X8_mend (T (d + 6)) Q 41 [some (vR 0), some (vI bb), some (vI zm), some (vI zt), some (vI zi), l5, l6, l7, l8] [] h N 0 0 := by
  intro r
  induction r using Nat.strongRecOn with
  | ind r ih =>
  intro i bb m h zm zi l5 l6 l7 l8 hr hzi hzm hm5 b0 hP kc
  obtain ⟨F, Ln, Dn, Ac, Dw, Cl, ⟨p0, hS, -⟩, -⟩ := id hP
  obtain ⟨hm4, hm36⟩ := hG.m
  have hn36 := nE36 hG
  have hW8 := hG.2.2.2.2.1
  obtain ⟨rb, bb0, s0⟩ := hS.e0
  refine R_iload rfl rfl ?_
  refine R_iload_n rfl rfl ?_
  refine R_icmpge rfl ⟨by omega, by omega⟩ ⟨by omega, by omega⟩ (fun c44 => ?_) (fun c44 => ?_)
  · have hr0 : r = 0 := by omega
    subst hr0
    refine R_iload_n rfl rfl ?_
    exact R_ireturn rfl (fun q => absurd q (by decide)) (Nat.zero_le _) (Nat.zero_le _) (kc h hP fr.refl _ rfl)
  · obtain ⟨r, rfl⟩ : ∃ r1, r = r1 + 1 := ⟨r - 1, by omega⟩
    subst hzi
    refine R_iload rfl rfl ?_
    refine R_iconst rfl ?_
    refine R_idiv rfl ⟨by omega, by omega, by omega, by omega⟩ ?_
    rw [show (i : Int) / 2 = ((i / 2 : Nat) : Int) from rfl]
    refine R_istore (lv' := [_, _, _, _, _, _, _, _, _]) rfl rfl ?_
    refine R_iload rfl rfl ?_
    refine R_iconst rfl ?_
    refine R_irem rfl ⟨by omega, by omega, by omega, by omega⟩ ?_
    refine R_iconst rfl ?_
    refine R_icmpne rfl ⟨by omega, by omega⟩ ⟨by decide, by decide⟩ (fun c58 => ?_) (fun c58 => ?_)
    · refine R_iconst rfl ?_
      refine R_istore (lv' := [_, _, _, _, _, _, _, _, _]) rfl rfl ?_
      have hbb : decide (i % 2 = 1) = false := decide_eq_false (by omega)
      refine R_aload_n rfl rfl ?_
      refine R_getfield rfl rfl (by omega) b0 rfl ?_
      refine R_getfield rfl rfl (by omega) p0 rfl ?_
      refine R_iload rfl rfl ?_
      refine R_iload rfl rfl ?_
      refine R_vcall rfl rfl ⟨(by omega), hS.rcv⟩ ⟨Nat.le_of_ble_eq_true rfl, Nat.le_of_ble_eq_true rfl, Nat.zero_le _, Nat.zero_le _⟩ (isPlace_T (b := false) hS hG (by omega) ⟨by omega, by omega⟩ (fun z79 hz79 => aRes_i (rest := []) ?_))
      refine R_ifeq rfl ⟨by omega, by omega⟩ (fun c82 => ?_) (fun c82 => ?_)
      · have hpb0 : qPb G (i / 2) false = false := Bool.eq_false_iff.mpr (fun q => by
          rcases hz79 with ⟨q1, -⟩ | ⟨q1, q2⟩
          · omega
          · exact q2 ⟨by omega, qPb_iff.mp q⟩)
        have hh : mdF G (r + 1) i bb m = mdF G r (i + 1) bb m := if_neg (fun q => by have q1 := q.1; rw [hbb, hpb0] at q1; cases q1)
        refine R_iinc (lv' := [_, _, _, _, _, _, _, _, _]) rfl rfl rfl ?_
        refine R_goto rfl ?_
        rw [hh] at kc
        exact ih r (by omega) (i + 1) bb m h _ _ _ _ _ _ (by omega) (by omega) hzm hm5 b0 hP kc
      · have hpl : qP G (i / 2) false := by
          rcases hz79 with ⟨q1, q2, q3⟩ | ⟨q1, q2⟩
          · exact q3
          · omega
        have hpb : qPb G (i / 2) false = true := qPb_iff.mpr hpl
        refine R_aload_n rfl rfl ?_
        refine R_getfield rfl rfl (by omega) b0 rfl ?_
        refine R_getfield rfl rfl (by omega) p0 rfl ?_
        refine R_iload rfl rfl ?_
        refine R_iload rfl rfl ?_
        refine R_vcall rfl rfl ⟨(by omega), hS.rcv⟩ ⟨Nat.le_of_ble_eq_true rfl, Nat.le_of_ble_eq_true rfl, Nat.zero_le _, Nat.zero_le _⟩ (hasBar_T (b := false) hS hG (by omega) ⟨by omega, by omega⟩ (fun z96 hz96 => aRes_i (rest := []) ?_))
        have hb9 : z96 = bI (qB G false (i / 2)) := by
          rcases hz96 with ⟨q1, -, -, q2⟩ | ⟨q1, q2⟩
          · have q3 : qB G false (i / 2) = true := q2
            rw [q1, q3]
            rfl
          · cases q : qB G false (i / 2) with
            | false => exact q1
            | true => exact absurd ⟨by omega, by omega, q⟩ q2
        rw [hb9]
        have hb01 := bI01 (qB G false (i / 2))
        refine R_istore (lv' := [_, _, _, _, _, _, _, _, _]) rfl rfl ?_
        refine R_aload_n rfl rfl ?_
        refine R_getfield rfl rfl (by omega) b0 rfl ?_
        refine R_iload rfl rfl ?_
        refine R_iload rfl rfl ?_
        refine R_iload rfl rfl ?_
        refine R_ifne rfl ⟨by omega, by omega⟩ (fun c111 => ?_) (fun c111 => ?_)
        · have hqb : qB G false (i / 2) = true := bI_t rfl c111
          refine R_iconst rfl ?_
          refine R_vcall rfl rfl ⟨(by omega), _, p0⟩ ⟨Nat.le_of_ble_eq_true rfl, Nat.le_of_ble_eq_true rfl, Nat.zero_le _, Nat.zero_le _⟩ (changeBar_T (b := false) (v := false) hP.a hG (by omega) ⟨by omega, by omega⟩ (fun _ _ h1 hP1 f1 => aRes_i (rest := []) ?_) (fun hn9 => absurd ⟨by omega, qPb_iff.mp hpb⟩ hn9))
          have hP1 : isPz h1 20 (setBr G (i / 2) false false) := hP1
          have hG1 : okG (setBr G (i / 2) false false) := ok_setBr hG (qPb_iff.mp hpb)
          have b0x1 := (f1 0 (by omega)).trans b0
          obtain ⟨Fxx1, Lxx1, Dxx1, Axx1, Wxx1, Cxx1, ⟨p0x1, hSx1, -⟩, -⟩ := id hP1
          obtain ⟨rxx1, bxx1, s0x1⟩ := hSx1.e0
          refine R_pop rfl rfl ?_
          refine R_aload_n rfl rfl ?_
          refine R_getfield rfl rfl (by omega) b0x1 rfl ?_
          refine R_scall rfl rfl ⟨Nat.le_of_ble_eq_true rfl, Nat.le_of_ble_eq_true rfl, Nat.zero_le _, Nat.zero_le _⟩ (countKept_T hP1 hG1 (by omega) (fun z127 hz127 => aRes_i (rest := []) ?_))
          refine R_istore (lv' := [_, _, _, _, _, _, _, _, _]) rfl rfl ?_
          refine R_aload_n rfl rfl ?_
          refine R_getfield rfl rfl (by omega) b0x1 rfl ?_
          refine R_iload rfl rfl ?_
          refine R_iload rfl rfl ?_
          refine R_iload rfl rfl ?_
          refine R_vcall rfl rfl ⟨(by omega), _, p0x1⟩ ⟨Nat.le_of_ble_eq_true rfl, Nat.le_of_ble_eq_true rfl, Nat.zero_le _, Nat.zero_le _⟩ (changeBar_T (b := false) (v := qB G false (i / 2)) hP1.a hG1 (by omega) ⟨by omega, by omega⟩ (fun _ _ h2 hP2 f2 => aRes_i (rest := []) ?_) (fun hn9 => absurd ⟨by omega, qPb_iff.mp (qPb_set.trans hpb)⟩ hn9))
          have hP2 : isPz h2 20 (setBr (setBr G (i / 2) false (!qB G false (i / 2))) (i / 2) false (qB G false (i / 2))) := by
            rw [hqb] at hP2 ⊢
            exact hP2
          rw [setBr_back] at hP2
          have b0x2 := (f2 0 (by omega)).trans b0x1
          obtain ⟨Fxx2, Lxx2, Dxx2, Axx2, Wxx2, Cxx2, ⟨p0x2, hSx2, -⟩, -⟩ := id hP2
          obtain ⟨rxx2, bxx2, s0x2⟩ := hSx2.e0
          have hkb : kpB G i = kpG (setBr G (i / 2) false (!qB G false (i / 2))) := by
            unfold kpB
            rw [hbb]
          have hkb2 : z127 = (kpB G i : Nat) := by
            rw [hkb, hqb]
            exact hz127
          have hk5 := kp_5 (G := setBr G (i / 2) false (!qB G false (i / 2)))
          refine R_pop rfl rfl ?_
          refine R_iload rfl rfl ?_
          refine R_iload_n rfl rfl ?_
          refine R_icmple rfl ⟨by omega, by omega⟩ ⟨by omega, by omega⟩ (fun c149 => ?_) (fun c149 => ?_)
          · have hh : mdF G (r + 1) i bb m = mdF G r (i + 1) bb m := if_neg (fun q => by have q1 := q.2; omega)
            refine R_iinc (lv' := [_, _, _, _, _, _, _, _, _]) rfl rfl rfl ?_
            refine R_goto rfl ?_
            rw [hh] at kc
            first
            | exact ih r (by omega) (i + 1) bb m h2 _ _ _ _ _ _ (by omega) (by omega) hzm hm5 b0x2 hP2 (fun h4 q1 q3 q4 => kc h4 q1 ((f1.trans f2).trans q3) q4)
            | exact ih r (by omega) (i + 1) (i : Int) (kpB G i) h2 _ _ _ _ _ _ (by omega) (by omega) (by omega) (by omega) b0x2 hP2 (fun h4 q1 q3 q4 => kc h4 q1 ((f1.trans f2).trans q3) q4)
          · have hh : mdF G (r + 1) i bb m = mdF G r (i + 1) (i : Int) (kpB G i) := if_pos ⟨by rw [hbb]; exact hpb, by omega⟩
            refine R_iload rfl rfl ?_
            refine R_istore_n (lv' := [_, _, _, _, _, _, _, _, _]) rfl rfl ?_
            refine R_iload rfl rfl ?_
            refine R_istore_n (lv' := [_, _, _, _, _, _, _, _, _]) rfl rfl ?_
            refine R_iinc (lv' := [_, _, _, _, _, _, _, _, _]) rfl rfl rfl ?_
            refine R_goto rfl ?_
            rw [hh] at kc
            first
            | exact ih r (by omega) (i + 1) bb m h2 _ _ _ _ _ _ (by omega) (by omega) hzm hm5 b0x2 hP2 (fun h4 q1 q3 q4 => kc h4 q1 ((f1.trans f2).trans q3) q4)
            | exact ih r (by omega) (i + 1) (i : Int) (kpB G i) h2 _ _ _ _ _ _ (by omega) (by omega) (by omega) (by omega) b0x2 hP2 (fun h4 q1 q3 q4 => kc h4 q1 ((f1.trans f2).trans q3) q4)
        · have hqb : qB G false (i / 2) = false := bI_f rfl (show bI (qB G false (i / 2)) = 0 by omega)
          refine R_iconst rfl ?_
          refine R_goto rfl ?_
          refine R_vcall rfl rfl ⟨(by omega), _, p0⟩ ⟨Nat.le_of_ble_eq_true rfl, Nat.le_of_ble_eq_true rfl, Nat.zero_le _, Nat.zero_le _⟩ (changeBar_T (b := false) (v := true) hP.a hG (by omega) ⟨by omega, by omega⟩ (fun _ _ h1 hP1 f1 => aRes_i (rest := []) ?_) (fun hn9 => absurd ⟨by omega, qPb_iff.mp hpb⟩ hn9))
          have hP1 : isPz h1 20 (setBr G (i / 2) false true) := hP1
          have hG1 : okG (setBr G (i / 2) false true) := ok_setBr hG (qPb_iff.mp hpb)
          have b0x1 := (f1 0 (by omega)).trans b0
          obtain ⟨Fxx1, Lxx1, Dxx1, Axx1, Wxx1, Cxx1, ⟨p0x1, hSx1, -⟩, -⟩ := id hP1
          obtain ⟨rxx1, bxx1, s0x1⟩ := hSx1.e0
          refine R_pop rfl rfl ?_
          refine R_aload_n rfl rfl ?_
          refine R_getfield rfl rfl (by omega) b0x1 rfl ?_
          refine R_scall rfl rfl ⟨Nat.le_of_ble_eq_true rfl, Nat.le_of_ble_eq_true rfl, Nat.zero_le _, Nat.zero_le _⟩ (countKept_T hP1 hG1 (by omega) (fun z127 hz127 => aRes_i (rest := []) ?_))
          refine R_istore (lv' := [_, _, _, _, _, _, _, _, _]) rfl rfl ?_
          refine R_aload_n rfl rfl ?_
          refine R_getfield rfl rfl (by omega) b0x1 rfl ?_
          refine R_iload rfl rfl ?_
          refine R_iload rfl rfl ?_
          refine R_iload rfl rfl ?_
          refine R_vcall rfl rfl ⟨(by omega), _, p0x1⟩ ⟨Nat.le_of_ble_eq_true rfl, Nat.le_of_ble_eq_true rfl, Nat.zero_le _, Nat.zero_le _⟩ (changeBar_T (b := false) (v := qB G false (i / 2)) hP1.a hG1 (by omega) ⟨by omega, by omega⟩ (fun _ _ h2 hP2 f2 => aRes_i (rest := []) ?_) (fun hn9 => absurd ⟨by omega, qPb_iff.mp (qPb_set.trans hpb)⟩ hn9))
          have hP2 : isPz h2 20 (setBr (setBr G (i / 2) false (!qB G false (i / 2))) (i / 2) false (qB G false (i / 2))) := by
            rw [hqb] at hP2 ⊢
            exact hP2
          rw [setBr_back] at hP2
          have b0x2 := (f2 0 (by omega)).trans b0x1
          obtain ⟨Fxx2, Lxx2, Dxx2, Axx2, Wxx2, Cxx2, ⟨p0x2, hSx2, -⟩, -⟩ := id hP2
          obtain ⟨rxx2, bxx2, s0x2⟩ := hSx2.e0
          have hkb : kpB G i = kpG (setBr G (i / 2) false (!qB G false (i / 2))) := by
            unfold kpB
            rw [hbb]
          have hkb2 : z127 = (kpB G i : Nat) := by
            rw [hkb, hqb]
            exact hz127
          have hk5 := kp_5 (G := setBr G (i / 2) false (!qB G false (i / 2)))
          refine R_pop rfl rfl ?_
          refine R_iload rfl rfl ?_
          refine R_iload_n rfl rfl ?_
          refine R_icmple rfl ⟨by omega, by omega⟩ ⟨by omega, by omega⟩ (fun c149 => ?_) (fun c149 => ?_)
          · have hh : mdF G (r + 1) i bb m = mdF G r (i + 1) bb m := if_neg (fun q => by have q1 := q.2; omega)
            refine R_iinc (lv' := [_, _, _, _, _, _, _, _, _]) rfl rfl rfl ?_
            refine R_goto rfl ?_
            rw [hh] at kc
            first
            | exact ih r (by omega) (i + 1) bb m h2 _ _ _ _ _ _ (by omega) (by omega) hzm hm5 b0x2 hP2 (fun h4 q1 q3 q4 => kc h4 q1 ((f1.trans f2).trans q3) q4)
            | exact ih r (by omega) (i + 1) (i : Int) (kpB G i) h2 _ _ _ _ _ _ (by omega) (by omega) (by omega) (by omega) b0x2 hP2 (fun h4 q1 q3 q4 => kc h4 q1 ((f1.trans f2).trans q3) q4)
          · have hh : mdF G (r + 1) i bb m = mdF G r (i + 1) (i : Int) (kpB G i) := if_pos ⟨by rw [hbb]; exact hpb, by omega⟩
            refine R_iload rfl rfl ?_
            refine R_istore_n (lv' := [_, _, _, _, _, _, _, _, _]) rfl rfl ?_
            refine R_iload rfl rfl ?_
            refine R_istore_n (lv' := [_, _, _, _, _, _, _, _, _]) rfl rfl ?_
            refine R_iinc (lv' := [_, _, _, _, _, _, _, _, _]) rfl rfl rfl ?_
            refine R_goto rfl ?_
            rw [hh] at kc
            first
            | exact ih r (by omega) (i + 1) bb m h2 _ _ _ _ _ _ (by omega) (by omega) hzm hm5 b0x2 hP2 (fun h4 q1 q3 q4 => kc h4 q1 ((f1.trans f2).trans q3) q4)
            | exact ih r (by omega) (i + 1) (i : Int) (kpB G i) h2 _ _ _ _ _ _ (by omega) (by omega) (by omega) (by omega) b0x2 hP2 (fun h4 q1 q3 q4 => kc h4 q1 ((f1.trans f2).trans q3) q4)
    · refine R_iconst rfl ?_
      refine R_goto rfl ?_
      refine R_istore (lv' := [_, _, _, _, _, _, _, _, _]) rfl rfl ?_
      have hbb : decide (i % 2 = 1) = true := decide_eq_true (by omega)
      refine R_aload_n rfl rfl ?_
      refine R_getfield rfl rfl (by omega) b0 rfl ?_
      refine R_getfield rfl rfl (by omega) p0 rfl ?_
      refine R_iload rfl rfl ?_
      refine R_iload rfl rfl ?_
      refine R_vcall rfl rfl ⟨(by omega), hS.rcv⟩ ⟨Nat.le_of_ble_eq_true rfl, Nat.le_of_ble_eq_true rfl, Nat.zero_le _, Nat.zero_le _⟩ (isPlace_T (b := true) hS hG (by omega) ⟨by omega, by omega⟩ (fun z79 hz79 => aRes_i (rest := []) ?_))
      refine R_ifeq rfl ⟨by omega, by omega⟩ (fun c82 => ?_) (fun c82 => ?_)
      · have hpb0 : qPb G (i / 2) true = false := Bool.eq_false_iff.mpr (fun q => by
          rcases hz79 with ⟨q1, -⟩ | ⟨q1, q2⟩
          · omega
          · exact q2 ⟨by omega, qPb_iff.mp q⟩)
        have hh : mdF G (r + 1) i bb m = mdF G r (i + 1) bb m := if_neg (fun q => by have q1 := q.1; rw [hbb, hpb0] at q1; cases q1)
        refine R_iinc (lv' := [_, _, _, _, _, _, _, _, _]) rfl rfl rfl ?_
        refine R_goto rfl ?_
        rw [hh] at kc
        exact ih r (by omega) (i + 1) bb m h _ _ _ _ _ _ (by omega) (by omega) hzm hm5 b0 hP kc
      · have hpl : qP G (i / 2) true := by
          rcases hz79 with ⟨q1, q2, q3⟩ | ⟨q1, q2⟩
          · exact q3
          · omega
        have hpb : qPb G (i / 2) true = true := qPb_iff.mpr hpl
        refine R_aload_n rfl rfl ?_
        refine R_getfield rfl rfl (by omega) b0 rfl ?_
        refine R_getfield rfl rfl (by omega) p0 rfl ?_
        refine R_iload rfl rfl ?_
        refine R_iload rfl rfl ?_
        refine R_vcall rfl rfl ⟨(by omega), hS.rcv⟩ ⟨Nat.le_of_ble_eq_true rfl, Nat.le_of_ble_eq_true rfl, Nat.zero_le _, Nat.zero_le _⟩ (hasBar_T (b := true) hS hG (by omega) ⟨by omega, by omega⟩ (fun z96 hz96 => aRes_i (rest := []) ?_))
        have hb9 : z96 = bI (qB G true (i / 2)) := by
          rcases hz96 with ⟨q1, -, -, q2⟩ | ⟨q1, q2⟩
          · have q3 : qB G true (i / 2) = true := q2
            rw [q1, q3]
            rfl
          · cases q : qB G true (i / 2) with
            | false => exact q1
            | true => exact absurd ⟨by omega, by omega, q⟩ q2
        rw [hb9]
        have hb01 := bI01 (qB G true (i / 2))
        refine R_istore (lv' := [_, _, _, _, _, _, _, _, _]) rfl rfl ?_
        refine R_aload_n rfl rfl ?_
        refine R_getfield rfl rfl (by omega) b0 rfl ?_
        refine R_iload rfl rfl ?_
        refine R_iload rfl rfl ?_
        refine R_iload rfl rfl ?_
        refine R_ifne rfl ⟨by omega, by omega⟩ (fun c111 => ?_) (fun c111 => ?_)
        · have hqb : qB G true (i / 2) = true := bI_t rfl c111
          refine R_iconst rfl ?_
          refine R_vcall rfl rfl ⟨(by omega), _, p0⟩ ⟨Nat.le_of_ble_eq_true rfl, Nat.le_of_ble_eq_true rfl, Nat.zero_le _, Nat.zero_le _⟩ (changeBar_T (b := true) (v := false) hP.a hG (by omega) ⟨by omega, by omega⟩ (fun _ _ h1 hP1 f1 => aRes_i (rest := []) ?_) (fun hn9 => absurd ⟨by omega, qPb_iff.mp hpb⟩ hn9))
          have hP1 : isPz h1 20 (setBr G (i / 2) true false) := hP1
          have hG1 : okG (setBr G (i / 2) true false) := ok_setBr hG (qPb_iff.mp hpb)
          have b0x1 := (f1 0 (by omega)).trans b0
          obtain ⟨Fxx1, Lxx1, Dxx1, Axx1, Wxx1, Cxx1, ⟨p0x1, hSx1, -⟩, -⟩ := id hP1
          obtain ⟨rxx1, bxx1, s0x1⟩ := hSx1.e0
          refine R_pop rfl rfl ?_
          refine R_aload_n rfl rfl ?_
          refine R_getfield rfl rfl (by omega) b0x1 rfl ?_
          refine R_scall rfl rfl ⟨Nat.le_of_ble_eq_true rfl, Nat.le_of_ble_eq_true rfl, Nat.zero_le _, Nat.zero_le _⟩ (countKept_T hP1 hG1 (by omega) (fun z127 hz127 => aRes_i (rest := []) ?_))
          refine R_istore (lv' := [_, _, _, _, _, _, _, _, _]) rfl rfl ?_
          refine R_aload_n rfl rfl ?_
          refine R_getfield rfl rfl (by omega) b0x1 rfl ?_
          refine R_iload rfl rfl ?_
          refine R_iload rfl rfl ?_
          refine R_iload rfl rfl ?_
          refine R_vcall rfl rfl ⟨(by omega), _, p0x1⟩ ⟨Nat.le_of_ble_eq_true rfl, Nat.le_of_ble_eq_true rfl, Nat.zero_le _, Nat.zero_le _⟩ (changeBar_T (b := true) (v := qB G true (i / 2)) hP1.a hG1 (by omega) ⟨by omega, by omega⟩ (fun _ _ h2 hP2 f2 => aRes_i (rest := []) ?_) (fun hn9 => absurd ⟨by omega, qPb_iff.mp (qPb_set.trans hpb)⟩ hn9))
          have hP2 : isPz h2 20 (setBr (setBr G (i / 2) true (!qB G true (i / 2))) (i / 2) true (qB G true (i / 2))) := by
            rw [hqb] at hP2 ⊢
            exact hP2
          rw [setBr_back] at hP2
          have b0x2 := (f2 0 (by omega)).trans b0x1
          obtain ⟨Fxx2, Lxx2, Dxx2, Axx2, Wxx2, Cxx2, ⟨p0x2, hSx2, -⟩, -⟩ := id hP2
          obtain ⟨rxx2, bxx2, s0x2⟩ := hSx2.e0
          have hkb : kpB G i = kpG (setBr G (i / 2) true (!qB G true (i / 2))) := by
            unfold kpB
            rw [hbb]
          have hkb2 : z127 = (kpB G i : Nat) := by
            rw [hkb, hqb]
            exact hz127
          have hk5 := kp_5 (G := setBr G (i / 2) true (!qB G true (i / 2)))
          refine R_pop rfl rfl ?_
          refine R_iload rfl rfl ?_
          refine R_iload_n rfl rfl ?_
          refine R_icmple rfl ⟨by omega, by omega⟩ ⟨by omega, by omega⟩ (fun c149 => ?_) (fun c149 => ?_)
          · have hh : mdF G (r + 1) i bb m = mdF G r (i + 1) bb m := if_neg (fun q => by have q1 := q.2; omega)
            refine R_iinc (lv' := [_, _, _, _, _, _, _, _, _]) rfl rfl rfl ?_
            refine R_goto rfl ?_
            rw [hh] at kc
            first
            | exact ih r (by omega) (i + 1) bb m h2 _ _ _ _ _ _ (by omega) (by omega) hzm hm5 b0x2 hP2 (fun h4 q1 q3 q4 => kc h4 q1 ((f1.trans f2).trans q3) q4)
            | exact ih r (by omega) (i + 1) (i : Int) (kpB G i) h2 _ _ _ _ _ _ (by omega) (by omega) (by omega) (by omega) b0x2 hP2 (fun h4 q1 q3 q4 => kc h4 q1 ((f1.trans f2).trans q3) q4)
          · have hh : mdF G (r + 1) i bb m = mdF G r (i + 1) (i : Int) (kpB G i) := if_pos ⟨by rw [hbb]; exact hpb, by omega⟩
            refine R_iload rfl rfl ?_
            refine R_istore_n (lv' := [_, _, _, _, _, _, _, _, _]) rfl rfl ?_
            refine R_iload rfl rfl ?_
            refine R_istore_n (lv' := [_, _, _, _, _, _, _, _, _]) rfl rfl ?_
            refine R_iinc (lv' := [_, _, _, _, _, _, _, _, _]) rfl rfl rfl ?_
            refine R_goto rfl ?_
            rw [hh] at kc
            first
            | exact ih r (by omega) (i + 1) bb m h2 _ _ _ _ _ _ (by omega) (by omega) hzm hm5 b0x2 hP2 (fun h4 q1 q3 q4 => kc h4 q1 ((f1.trans f2).trans q3) q4)
            | exact ih r (by omega) (i + 1) (i : Int) (kpB G i) h2 _ _ _ _ _ _ (by omega) (by omega) (by omega) (by omega) b0x2 hP2 (fun h4 q1 q3 q4 => kc h4 q1 ((f1.trans f2).trans q3) q4)
        · have hqb : qB G true (i / 2) = false := bI_f rfl (show bI (qB G true (i / 2)) = 0 by omega)
          refine R_iconst rfl ?_
          refine R_goto rfl ?_
          refine R_vcall rfl rfl ⟨(by omega), _, p0⟩ ⟨Nat.le_of_ble_eq_true rfl, Nat.le_of_ble_eq_true rfl, Nat.zero_le _, Nat.zero_le _⟩ (changeBar_T (b := true) (v := true) hP.a hG (by omega) ⟨by omega, by omega⟩ (fun _ _ h1 hP1 f1 => aRes_i (rest := []) ?_) (fun hn9 => absurd ⟨by omega, qPb_iff.mp hpb⟩ hn9))
          have hP1 : isPz h1 20 (setBr G (i / 2) true true) := hP1
          have hG1 : okG (setBr G (i / 2) true true) := ok_setBr hG (qPb_iff.mp hpb)
          have b0x1 := (f1 0 (by omega)).trans b0
          obtain ⟨Fxx1, Lxx1, Dxx1, Axx1, Wxx1, Cxx1, ⟨p0x1, hSx1, -⟩, -⟩ := id hP1
          obtain ⟨rxx1, bxx1, s0x1⟩ := hSx1.e0
          refine R_pop rfl rfl ?_
          refine R_aload_n rfl rfl ?_
          refine R_getfield rfl rfl (by omega) b0x1 rfl ?_
          refine R_scall rfl rfl ⟨Nat.le_of_ble_eq_true rfl, Nat.le_of_ble_eq_true rfl, Nat.zero_le _, Nat.zero_le _⟩ (countKept_T hP1 hG1 (by omega) (fun z127 hz127 => aRes_i (rest := []) ?_))
          refine R_istore (lv' := [_, _, _, _, _, _, _, _, _]) rfl rfl ?_
          refine R_aload_n rfl rfl ?_
          refine R_getfield rfl rfl (by omega) b0x1 rfl ?_
          refine R_iload rfl rfl ?_
          refine R_iload rfl rfl ?_
          refine R_iload rfl rfl ?_
          refine R_vcall rfl rfl ⟨(by omega), _, p0x1⟩ ⟨Nat.le_of_ble_eq_true rfl, Nat.le_of_ble_eq_true rfl, Nat.zero_le _, Nat.zero_le _⟩ (changeBar_T (b := true) (v := qB G true (i / 2)) hP1.a hG1 (by omega) ⟨by omega, by omega⟩ (fun _ _ h2 hP2 f2 => aRes_i (rest := []) ?_) (fun hn9 => absurd ⟨by omega, qPb_iff.mp (qPb_set.trans hpb)⟩ hn9))
          have hP2 : isPz h2 20 (setBr (setBr G (i / 2) true (!qB G true (i / 2))) (i / 2) true (qB G true (i / 2))) := by
            rw [hqb] at hP2 ⊢
            exact hP2
          rw [setBr_back] at hP2
          have b0x2 := (f2 0 (by omega)).trans b0x1
          obtain ⟨Fxx2, Lxx2, Dxx2, Axx2, Wxx2, Cxx2, ⟨p0x2, hSx2, -⟩, -⟩ := id hP2
          obtain ⟨rxx2, bxx2, s0x2⟩ := hSx2.e0
          have hkb : kpB G i = kpG (setBr G (i / 2) true (!qB G true (i / 2))) := by
            unfold kpB
            rw [hbb]
          have hkb2 : z127 = (kpB G i : Nat) := by
            rw [hkb, hqb]
            exact hz127
          have hk5 := kp_5 (G := setBr G (i / 2) true (!qB G true (i / 2)))
          refine R_pop rfl rfl ?_
          refine R_iload rfl rfl ?_
          refine R_iload_n rfl rfl ?_
          refine R_icmple rfl ⟨by omega, by omega⟩ ⟨by omega, by omega⟩ (fun c149 => ?_) (fun c149 => ?_)
          · have hh : mdF G (r + 1) i bb m = mdF G r (i + 1) bb m := if_neg (fun q => by have q1 := q.2; omega)
            refine R_iinc (lv' := [_, _, _, _, _, _, _, _, _]) rfl rfl rfl ?_
            refine R_goto rfl ?_
            rw [hh] at kc
            first
            | exact ih r (by omega) (i + 1) bb m h2 _ _ _ _ _ _ (by omega) (by omega) hzm hm5 b0x2 hP2 (fun h4 q1 q3 q4 => kc h4 q1 ((f1.trans f2).trans q3) q4)
            | exact ih r (by omega) (i + 1) (i : Int) (kpB G i) h2 _ _ _ _ _ _ (by omega) (by omega) (by omega) (by omega) b0x2 hP2 (fun h4 q1 q3 q4 => kc h4 q1 ((f1.trans f2).trans q3) q4)
          · have hh : mdF G (r + 1) i bb m = mdF G r (i + 1) (i : Int) (kpB G i) := if_pos ⟨by rw [hbb]; exact hpb, by omega⟩
            refine R_iload rfl rfl ?_
            refine R_istore_n (lv' := [_, _, _, _, _, _, _, _, _]) rfl rfl ?_
            refine R_iload rfl rfl ?_
            refine R_istore_n (lv' := [_, _, _, _, _, _, _, _, _]) rfl rfl ?_
            refine R_iinc (lv' := [_, _, _, _, _, _, _, _, _]) rfl rfl rfl ?_
            refine R_goto rfl ?_
            rw [hh] at kc
            first
            | exact ih r (by omega) (i + 1) bb m h2 _ _ _ _ _ _ (by omega) (by omega) hzm hm5 b0x2 hP2 (fun h4 q1 q3 q4 => kc h4 q1 ((f1.trans f2).trans q3) q4)
            | exact ih r (by omega) (i + 1) (i : Int) (kpB G i) h2 _ _ _ _ _ _ (by omega) (by omega) (by omega) (by omega) b0x2 hP2 (fun h4 q1 q3 q4 => kc h4 q1 ((f1.trans f2).trans q3) q4)
theorem mend_C {d N : Nat} {h : AH} {y : Sy} {Q : AQ} (hF : isFace h y) (hN : 122 ≤ N) (hQ : clQ (opMend y) "java/lang/IllegalArgumentException" "java/lang/IllegalStateException" h N Q) : T (d + 8) 112 [vR 0] h N Q := by
  obtain ⟨b0, ⟨px, hT⟩, ⟨Gt, hSt⟩, hP, hG, ⟨Gr9, hPt⟩, hM, hSe, hFl, hst⟩ := id hF
  obtain ⟨F, Ln, Dn, Ac, Dw, Cl, ⟨p0, hS, -⟩, -⟩ := id hP
  obtain ⟨hm4, hm36⟩ := hG.m
  have hn36 := nE36 hG
  have hW8 := hG.2.2.2.2.1
  obtain ⟨rb, bb, s0⟩ := hS.e0
  refine T_body (I := mi_X8_mend) (lv := [_, _, _, _, _, _, _, _, _]) rfl (Nat.le_of_ble_eq_true rfl) rfl ?_
  refine R_aload_n rfl rfl ?_
  refine R_getfield rfl rfl (by omega) b0 rfl ?_
  refine R_aload_n rfl rfl ?_
  refine R_getfield rfl rfl (by omega) b0 rfl ?_
  refine R_getfield rfl rfl (by omega) p0 rfl ?_
  refine R_vcall rfl rfl ⟨(by omega), (pa_rcv hPt)⟩ ⟨Nat.le_of_ble_eq_true rfl, Nat.le_of_ble_eq_true rfl, Nat.zero_le _, Nat.zero_le _⟩ (take_T hPt hS hG (by omega) ⟨by omega, by omega⟩ (fun h1 hP1 f1 => aRes_v (rest := []) ?_))
  have hSe1 := isSe_fr hSe (h' := h1) (fun j q1 q2 => f1 j (by omega))
  have hst1 : isStp h1 := ⟨(f1 _ (by omega)).trans hst.1, (f1 _ (by omega)).trans hst.2⟩
  have b0x1 := (f1 0 (by omega)).trans b0
  obtain ⟨Fxx1, Lxx1, Dxx1, Axx1, Wxx1, Cxx1, ⟨p0x1, hSx1, -⟩, -⟩ := id hP1
  obtain ⟨rxx1, bxx1, s0x1⟩ := hSx1.e0
  refine R_bipush rfl ?_
  refine R_istore_n (lv' := [_, _, _, _, _, _, _, _, _]) rfl rfl ?_
  refine R_aload_n rfl rfl ?_
  refine R_getfield rfl rfl (by omega) b0x1 rfl ?_
  refine R_scall rfl rfl ⟨Nat.le_of_ble_eq_true rfl, Nat.le_of_ble_eq_true rfl, Nat.zero_le _, Nat.zero_le _⟩ (countKept_T hP1 hG (by omega) (fun z21 hz21 => aRes_i (rest := []) ?_))
  refine R_istore_n (lv' := [_, _, _, _, _, _, _, _, _]) rfl rfl ?_
  refine R_iconst rfl ?_
  refine R_aload_n rfl rfl ?_
  refine R_getfield rfl rfl (by omega) b0x1 rfl ?_
  refine R_getfield rfl rfl (by omega) p0x1 rfl ?_
  refine R_vcall rfl rfl ⟨(by omega), hSx1.rcv⟩ ⟨Nat.le_of_ble_eq_true rfl, Nat.le_of_ble_eq_true rfl, Nat.zero_le _, Nat.zero_le _⟩ (cells_T hSx1 hG (by omega) (fun z33 hz33 => aRes_i (rest := [_]) ?_))
  refine R_imul rfl ?_
  refine R_istore_n (lv' := [_, _, _, _, _, _, _, _, _]) rfl rfl ?_
  refine R_iconst rfl ?_
  refine R_istore (lv' := [_, _, _, _, _, _, _, _, _]) rfl rfl ?_
  exact me_loop hG hN (by omega) (2 * qM y.1) 0 (-9) (kpG y.1) h1 _ _ _ _ _ _ (Nat.zero_add _) rfl hz21 kp_5 b0x1 hP1 (fun h2 hP2 f2 z hz => clQ_0 hQ rfl (isFace_tr hF hP2.a (isSe_fr hSe1 (fun j q1 q2 => f2 j (by omega))) (fun j q1 q2 => (f2 j (by omega)).trans (f1 j (by omega)))) (fun j hj => (f2 j (by omega)).trans (f1 j (by omega))) hz)
