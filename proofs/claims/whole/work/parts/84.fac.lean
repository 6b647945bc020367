/-! ===== the class's face: mend, runScript, simulate ===== -/
theorem isFace_tr {h h' : AH} {y : Sy} {G9 : Gr} (hF : isFace h y) (hPt2 : isPa h' 20 G9) (hSe2 : isSe h') (ho : ∀ j, ¬ (20 ≤ j ∧ j < 32) → ¬ (116 ≤ j ∧ j < 119) → h' j = h j) : isFace h' y := by
  obtain ⟨b0, ⟨px, hT⟩, ⟨Gt, hSt⟩, hP, hG, ⟨Gr9, hPt⟩, hM, hSe, hFl, hst⟩ := hF
  exact ⟨(ho _ (by omega) (by omega)).trans b0, ⟨px, isTx_fr hT (ho _ (by omega) (by omega)) (ho _ (by omega) (by omega))⟩, ⟨Gt, isSt_fr hSt (fun j h1 h2 => ho j (by omega) (by omega))⟩, isPz_fr hP (fun j h1 h2 => ho j (by omega) (by omega)), hG, ⟨G9, hPt2⟩, isMem_fr hM (fun j h1 h2 => ho j (by omega) (by omega)), hSe2, isFl_fr hFl (fun j h1 h2 => ho j (by omega) (by omega)), (ho _ (by omega) (by omega)).trans hst.1, (ho _ (by omega) (by omega)).trans hst.2⟩
theorem me_loop {d N : Nat} {G : Gr} {Q : AQ} (hG : okG G) (hN : 122 ≤ N) {zt : Int} (hzt : zt = ((2 * qM G : Nat) : Int)) : ∀ (r i : Nat) (bb : Int) (m : Nat) (h : AH) (zm zi : Int) (l5 l6 l7 l8 : Option AV), i + r = 2 * qM G → zi = i → zm = m → m ≤ 5 → h 0 = eO 6 [vR 1, vR 8, vR 20, vR 32, vR 116, vR 119] → isPz h 20 G → (∀ h', isPz h' 20 G → fr h h' 20 12 → ∀ z : Int, z = mdF G r i bb m → Q (.inl (some (vI z))) h' N) → Run mi_X8_mend (T (d + 6)) Q 41 [some (vR 0), some (vI bb), some (vI zm), some (vI zt), some (vI zi), l5, l6, l7, l8] [] h N 0 0 := by
  intro r
  induction r using Nat.strongRecOn with
  | ind r ih =>
  intro i bb m h zm zi l5 l6 l7 l8 hr hzi hzm hm5 b0 hP kc
  obtain ⟨F, Ln, Dn, Ac, Dw, Cl, ⟨p0, hS, -⟩, -⟩ := id hP
  obtain ⟨hm4, hm36⟩ := hG.m
  have hn36 := nE36 hG
  have hW8 := hG.2.2.2.2.1
  obtain ⟨rb, bb0, s0⟩ := hS.e0
  refine R_iload rfl rfl ?_
  refine R_iload_n rfl rfl ?_
  refine R_icmpge rfl ⟨by omega, by omega⟩ ⟨by omega, by omega⟩ (fun c44 => ?_) (fun c44 => ?_)
  · have hr0 : r = 0 := by omega
    subst hr0
    refine R_iload_n rfl rfl ?_
    exact R_ireturn rfl (fun q => absurd q (by decide)) (Nat.zero_le _) (Nat.zero_le _) (kc h hP fr.refl _ rfl)
  · obtain ⟨r, rfl⟩ : ∃ r1, r = r1 + 1 := ⟨r - 1, by omega⟩
    subst hzi
    refine R_iload rfl rfl ?_
    refine R_iconst rfl ?_
    refine R_idiv rfl ⟨by omega, by omega, by omega, by omega⟩ ?_
    rw [show (i : Int) / 2 = ((i / 2 : Nat) : Int) from rfl]
    refine R_istore (lv' := [_, _, _, _, _, _, _, _, _]) rfl rfl ?_
    refine R_iload rfl rfl ?_
    refine R_iconst rfl ?_
    refine R_irem rfl ⟨by omega, by omega, by omega, by omega⟩ ?_
    refine R_iconst rfl ?_
    refine R_icmpne rfl ⟨by omega, by omega⟩ ⟨by decide, by decide⟩ (fun c58 => ?_) (fun c58 => ?_)
    · refine R_iconst rfl ?_
      refine R_istore (lv' := [_, _, _, _, _, _, _, _, _]) rfl rfl ?_
      have hbb : decide (i % 2 = 1) = false := decide_eq_false (by omega)
      refine R_aload_n rfl rfl ?_
      refine R_getfield rfl rfl (by omega) b0 rfl ?_
      refine R_getfield rfl rfl (by omega) p0 rfl ?_
      refine R_iload rfl rfl ?_
      refine R_iload rfl rfl ?_
      refine R_vcall rfl rfl ⟨(by omega), hS.rcv⟩ ⟨Nat.le_of_ble_eq_true rfl, Nat.le_of_ble_eq_true rfl, Nat.zero_le _, Nat.zero_le _⟩ (isPlace_T (b := false) hS hG (by omega) ⟨by omega, by omega⟩ (fun z79 hz79 => aRes_i (rest := []) ?_))
      refine R_ifeq rfl ⟨by omega, by omega⟩ (fun c82 => ?_) (fun c82 => ?_)
      · have hpb0 : qPb G (i / 2) false = false := Bool.eq_false_iff.mpr (fun q => by
          rcases hz79 with ⟨q1, -⟩ | ⟨q1, q2⟩
          · omega
          · exact q2 ⟨by omega, qPb_iff.mp q⟩)
        have hh : mdF G (r + 1) i bb m = mdF G r (i + 1) bb m := if_neg (fun q => by have q1 := q.1; rw [hbb, hpb0] at q1; cases q1)
        refine R_iinc (lv' := [_, _, _, _, _, _, _, _, _]) rfl rfl rfl ?_
        refine R_goto rfl ?_
        rw [hh] at kc
        exact ih r (by omega) (i + 1) bb m h _ _ _ _ _ _ (by omega) (by omega) hzm hm5 b0 hP kc
      · have hpl : qP G (i / 2) false := by
          rcases hz79 with ⟨q1, q2, q3⟩ | ⟨q1, q2⟩
          · exact q3
          · omega
        have hpb : qPb G (i / 2) false = true := qPb_iff.mpr hpl
        refine R_aload_n rfl rfl ?_
        refine R_getfield rfl rfl (by omega) b0 rfl ?_
        refine R_getfield rfl rfl (by omega) p0 rfl ?_
        refine R_iload rfl rfl ?_
        refine R_iload rfl rfl ?_
        refine R_vcall rfl rfl ⟨(by omega), hS.rcv⟩ ⟨Nat.le_of_ble_eq_true rfl, Nat.le_of_ble_eq_true rfl, Nat.zero_le _, Nat.zero_le _⟩ (hasBar_T (b := false) hS hG (by omega) ⟨by omega, by omega⟩ (fun z96 hz96 => aRes_i (rest := []) ?_))
        have hb9 : z96 = bI (qB G false (i / 2)) := by
          rcases hz96 with ⟨q1, -, -, q2⟩ | ⟨q1, q2⟩
          · have q3 : qB G false (i / 2) = true := q2
            rw [q1, q3]
            rfl
          · cases q : qB G false (i / 2) with
            | false => exact q1
            | true => exact absurd ⟨by omega, by omega, q⟩ q2
        rw [hb9]
        have hb01 := bI01 (qB G false (i / 2))
        refine R_istore (lv' := [_, _, _, _, _, _, _, _, _]) rfl rfl ?_
        refine R_aload_n rfl rfl ?_
        refine R_getfield rfl rfl (by omega) b0 rfl ?_
        refine R_iload rfl rfl ?_
        refine R_iload rfl rfl ?_
        refine R_iload rfl rfl ?_
        refine R_ifne rfl ⟨by omega, by omega⟩ (fun c111 => ?_) (fun c111 => ?_)
        · have hqb : qB G false (i / 2) = true := bI_t rfl c111
          refine R_iconst rfl ?_
          refine R_vcall rfl rfl ⟨(by omega), _, p0⟩ ⟨Nat.le_of_ble_eq_true rfl, Nat.le_of_ble_eq_true rfl, Nat.zero_le _, Nat.zero_le _⟩ (changeBar_T (b := false) (v := false) hP.a hG (by omega) ⟨by omega, by omega⟩ (fun _ _ h1 hP1 f1 => aRes_i (rest := []) ?_) (fun hn9 => absurd ⟨by omega, qPb_iff.mp hpb⟩ hn9))
          have hP1 : isPz h1 20 (setBr G (i / 2) false false) := hP1
          have hG1 : okG (setBr G (i / 2) false false) := ok_setBr hG (qPb_iff.mp hpb)
          have b0x1 := (f1 0 (by omega)).trans b0
          obtain ⟨Fxx1, Lxx1, Dxx1, Axx1, Wxx1, Cxx1, ⟨p0x1, hSx1, -⟩, -⟩ := id hP1
          obtain ⟨rxx1, bxx1, s0x1⟩ := hSx1.e0
          refine R_pop rfl rfl ?_
          refine R_aload_n rfl rfl ?_
          refine R_getfield rfl rfl (by omega) b0x1 rfl ?_
          refine R_scall rfl rfl ⟨Nat.le_of_ble_eq_true rfl, Nat.le_of_ble_eq_true rfl, Nat.zero_le _, Nat.zero_le _⟩ (countKept_T hP1 hG1 (by omega) (fun z127 hz127 => aRes_i (rest := []) ?_))
          refine R_istore (lv' := [_, _, _, _, _, _, _, _, _]) rfl rfl ?_
          refine R_aload_n rfl rfl ?_
          refine R_getfield rfl rfl (by omega) b0x1 rfl ?_
          refine R_iload rfl rfl ?_
          refine R_iload rfl rfl ?_
          refine R_iload rfl rfl ?_
          refine R_vcall rfl rfl ⟨(by omega), _, p0x1⟩ ⟨Nat.le_of_ble_eq_true rfl, Nat.le_of_ble_eq_true rfl, Nat.zero_le _, Nat.zero_le _⟩ (changeBar_T (b := false) (v := qB G false (i / 2)) hP1.a hG1 (by omega) ⟨by omega, by omega⟩ (fun _ _ h2 hP2 f2 => aRes_i (rest := []) ?_) (fun hn9 => absurd ⟨by omega, qPb_iff.mp (qPb_set.trans hpb)⟩ hn9))
          have hP2 : isPz h2 20 (setBr (setBr G (i / 2) false (!qB G false (i / 2))) (i / 2) false (qB G false (i / 2))) := by
            rw [hqb] at hP2 ⊢
            exact hP2
          rw [setBr_back] at hP2
          have b0x2 := (f2 0 (by omega)).trans b0x1
          obtain ⟨Fxx2, Lxx2, Dxx2, Axx2, Wxx2, Cxx2, ⟨p0x2, hSx2, -⟩, -⟩ := id hP2
          obtain ⟨rxx2, bxx2, s0x2⟩ := hSx2.e0
          have hkb : kpB G i = kpG (setBr G (i / 2) false (!qB G false (i / 2))) := by
            unfold kpB
            rw [hbb]
          have hkb2 : z127 = (kpB G i : Nat) := by
            rw [hkb, hqb]
            exact hz127
          have hk5 := kp_5 (G := setBr G (i / 2) false (!qB G false (i / 2)))
          refine R_pop rfl rfl ?_
          refine R_iload rfl rfl ?_
          refine R_iload_n rfl rfl ?_
          refine R_icmple rfl ⟨by omega, by omega⟩ ⟨by omega, by omega⟩ (fun c149 => ?_) (fun c149 => ?_)
          · have hh : mdF G (r + 1) i bb m = mdF G r (i + 1) bb m := if_neg (fun q => by have q1 := q.2; omega)
            refine R_iinc (lv' := [_, _, _, _, _, _, _, _, _]) rfl rfl rfl ?_
            refine R_goto rfl ?_
            rw [hh] at kc
            first
            | exact ih r (by omega) (i + 1) bb m h2 _ _ _ _ _ _ (by omega) (by omega) hzm hm5 b0x2 hP2 (fun h4 q1 q3 q4 => kc h4 q1 ((f1.trans f2).trans q3) q4)
            | exact ih r (by omega) (i + 1) (i : Int) (kpB G i) h2 _ _ _ _ _ _ (by omega) (by omega) (by omega) (by omega) b0x2 hP2 (fun h4 q1 q3 q4 => kc h4 q1 ((f1.trans f2).trans q3) q4)
          · have hh : mdF G (r + 1) i bb m = mdF G r (i + 1) (i : Int) (kpB G i) := if_pos ⟨by rw [hbb]; exact hpb, by omega⟩
            refine R_iload rfl rfl ?_
            refine R_istore_n (lv' := [_, _, _, _, _, _, _, _, _]) rfl rfl ?_
            refine R_iload rfl rfl ?_
            refine R_istore_n (lv' := [_, _, _, _, _, _, _, _, _]) rfl rfl ?_
            refine R_iinc (lv' := [_, _, _, _, _, _, _, _, _]) rfl rfl rfl ?_
            refine R_goto rfl ?_
            rw [hh] at kc
            first
            | exact ih r (by omega) (i + 1) bb m h2 _ _ _ _ _ _ (by omega) (by omega) hzm hm5 b0x2 hP2 (fun h4 q1 q3 q4 => kc h4 q1 ((f1.trans f2).trans q3) q4)
            | exact ih r (by omega) (i + 1) (i : Int) (kpB G i) h2 _ _ _ _ _ _ (by omega) (by omega) (by omega) (by omega) b0x2 hP2 (fun h4 q1 q3 q4 => kc h4 q1 ((f1.trans f2).trans q3) q4)
        · have hqb : qB G false (i / 2) = false := bI_f rfl (show bI (qB G false (i / 2)) = 0 by omega)
          refine R_iconst rfl ?_
          refine R_goto rfl ?_
          refine R_vcall rfl rfl ⟨(by omega), _, p0⟩ ⟨Nat.le_of_ble_eq_true rfl, Nat.le_of_ble_eq_true rfl, Nat.zero_le _, Nat.zero_le _⟩ (changeBar_T (b := false) (v := true) hP.a hG (by omega) ⟨by omega, by omega⟩ (fun _ _ h1 hP1 f1 => aRes_i (rest := []) ?_) (fun hn9 => absurd ⟨by omega, qPb_iff.mp hpb⟩ hn9))
          have hP1 : isPz h1 20 (setBr G (i / 2) false true) := hP1
          have hG1 : okG (setBr G (i / 2) false true) := ok_setBr hG (qPb_iff.mp hpb)
          have b0x1 := (f1 0 (by omega)).trans b0
          obtain ⟨Fxx1, Lxx1, Dxx1, Axx1, Wxx1, Cxx1, ⟨p0x1, hSx1, -⟩, -⟩ := id hP1
          obtain ⟨rxx1, bxx1, s0x1⟩ := hSx1.e0
          refine R_pop rfl rfl ?_
          refine R_aload_n rfl rfl ?_
          refine R_getfield rfl rfl (by omega) b0x1 rfl ?_
          refine R_scall rfl rfl ⟨Nat.le_of_ble_eq_true rfl, Nat.le_of_ble_eq_true rfl, Nat.zero_le _, Nat.zero_le _⟩ (countKept_T hP1 hG1 (by omega) (fun z127 hz127 => aRes_i (rest := []) ?_))
          refine R_istore (lv' := [_, _, _, _, _, _, _, _, _]) rfl rfl ?_
          refine R_aload_n rfl rfl ?_
          refine R_getfield rfl rfl (by omega) b0x1 rfl ?_
          refine R_iload rfl rfl ?_
          refine R_iload rfl rfl ?_
          refine R_iload rfl rfl ?_
          refine R_vcall rfl rfl ⟨(by omega), _, p0x1⟩ ⟨Nat.le_of_ble_eq_true rfl, Nat.le_of_ble_eq_true rfl, Nat.zero_le _, Nat.zero_le _⟩ (changeBar_T (b := false) (v := qB G false (i / 2)) hP1.a hG1 (by omega) ⟨by omega, by omega⟩ (fun _ _ h2 hP2 f2 => aRes_i (rest := []) ?_) (fun hn9 => absurd ⟨by omega, qPb_iff.mp (qPb_set.trans hpb)⟩ hn9))
          have hP2 : isPz h2 20 (setBr (setBr G (i / 2) false (!qB G false (i / 2))) (i / 2) false (qB G false (i / 2))) := by
            rw [hqb] at hP2 ⊢
            exact hP2
          rw [setBr_back] at hP2
          have b0x2 := (f2 0 (by omega)).trans b0x1
          obtain ⟨Fxx2, Lxx2, Dxx2, Axx2, Wxx2, Cxx2, ⟨p0x2, hSx2, -⟩, -⟩ := id hP2
          obtain ⟨rxx2, bxx2, s0x2⟩ := hSx2.e0
          have hkb : kpB G i = kpG (setBr G (i / 2) false (!qB G false (i / 2))) := by
            unfold kpB
            rw [hbb]
          have hkb2 : z127 = (kpB G i : Nat) := by
            rw [hkb, hqb]
            exact hz127
          have hk5 := kp_5 (G := setBr G (i / 2) false (!qB G false (i / 2)))
          refine R_pop rfl rfl ?_
          refine R_iload rfl rfl ?_
          refine R_iload_n rfl rfl ?_
          refine R_icmple rfl ⟨by omega, by omega⟩ ⟨by omega, by omega⟩ (fun c149 => ?_) (fun c149 => ?_)
          · have hh : mdF G (r + 1) i bb m = mdF G r (i + 1) bb m := if_neg (fun q => by have q1 := q.2; omega)
            refine R_iinc (lv' := [_, _, _, _, _, _, _, _, _]) rfl rfl rfl ?_
            refine R_goto rfl ?_
            rw [hh] at kc
            first
            | exact ih r (by omega) (i + 1) bb m h2 _ _ _ _ _ _ (by omega) (by omega) hzm hm5 b0x2 hP2 (fun h4 q1 q3 q4 => kc h4 q1 ((f1.trans f2).trans q3) q4)
            | exact ih r (by omega) (i + 1) (i : Int) (kpB G i) h2 _ _ _ _ _ _ (by omega) (by omega) (by omega) (by omega) b0x2 hP2 (fun h4 q1 q3 q4 => kc h4 q1 ((f1.trans f2).trans q3) q4)
          · have hh : mdF G (r + 1) i bb m = mdF G r (i + 1) (i : Int) (kpB G i) := if_pos ⟨by rw [hbb]; exact hpb, by omega⟩
            refine R_iload rfl rfl ?_
            refine R_istore_n (lv' := [_, _, _, _, _, _, _, _, _]) rfl rfl ?_
            refine R_iload rfl rfl ?_
            refine R_istore_n (lv' := [_, _, _, _, _, _, _, _, _]) rfl rfl ?_
            refine R_iinc (lv' := [_, _, _, _, _, _, _, _, _]) rfl rfl rfl ?_
            refine R_goto rfl ?_
            rw [hh] at kc
            first
            | exact ih r (by omega) (i + 1) bb m h2 _ _ _ _ _ _ (by omega) (by omega) hzm hm5 b0x2 hP2 (fun h4 q1 q3 q4 => kc h4 q1 ((f1.trans f2).trans q3) q4)
            | exact ih r (by omega) (i + 1) (i : Int) (kpB G i) h2 _ _ _ _ _ _ (by omega) (by omega) (by omega) (by omega) b0x2 hP2 (fun h4 q1 q3 q4 => kc h4 q1 ((f1.trans f2).trans q3) q4)
    · refine R_iconst rfl ?_
      refine R_goto rfl ?_
      refine R_istore (lv' := [_, _, _, _, _, _, _, _, _]) rfl rfl ?_
      have hbb : decide (i % 2 = 1) = true := decide_eq_true (by omega)
      refine R_aload_n rfl rfl ?_
      refine R_getfield rfl rfl (by omega) b0 rfl ?_
      refine R_getfield rfl rfl (by omega) p0 rfl ?_
      refine R_iload rfl rfl ?_
      refine R_iload rfl rfl ?_
      refine R_vcall rfl rfl ⟨(by omega), hS.rcv⟩ ⟨Nat.le_of_ble_eq_true rfl, Nat.le_of_ble_eq_true rfl, Nat.zero_le _, Nat.zero_le _⟩ (isPlace_T (b := true) hS hG (by omega) ⟨by omega, by omega⟩ (fun z79 hz79 => aRes_i (rest := []) ?_))
      refine R_ifeq rfl ⟨by omega, by omega⟩ (fun c82 => ?_) (fun c82 => ?_)
      · have hpb0 : qPb G (i / 2) true = false := Bool.eq_false_iff.mpr (fun q => by
          rcases hz79 with ⟨q1, -⟩ | ⟨q1, q2⟩
          · omega
          · exact q2 ⟨by omega, qPb_iff.mp q⟩)
        have hh : mdF G (r + 1) i bb m = mdF G r (i + 1) bb m := if_neg (fun q => by have q1 := q.1; rw [hbb, hpb0] at q1; cases q1)
        refine R_iinc (lv' := [_, _, _, _, _, _, _, _, _]) rfl rfl rfl ?_
        refine R_goto rfl ?_
        rw [hh] at kc
        exact ih r (by omega) (i + 1) bb m h _ _ _ _ _ _ (by omega) (by omega) hzm hm5 b0 hP kc
      · have hpl : qP G (i / 2) true := by
          rcases hz79 with ⟨q1, q2, q3⟩ | ⟨q1, q2⟩
          · exact q3
          · omega
        have hpb : qPb G (i / 2) true = true := qPb_iff.mpr hpl
        refine R_aload_n rfl rfl ?_
        refine R_getfield rfl rfl (by omega) b0 rfl ?_
        refine R_getfield rfl rfl (by omega) p0 rfl ?_
        refine R_iload rfl rfl ?_
        refine R_iload rfl rfl ?_
        refine R_vcall rfl rfl ⟨(by omega), hS.rcv⟩ ⟨Nat.le_of_ble_eq_true rfl, Nat.le_of_ble_eq_true rfl, Nat.zero_le _, Nat.zero_le _⟩ (hasBar_T (b := true) hS hG (by omega) ⟨by omega, by omega⟩ (fun z96 hz96 => aRes_i (rest := []) ?_))
        have hb9 : z96 = bI (qB G true (i / 2)) := by
          rcases hz96 with ⟨q1, -, -, q2⟩ | ⟨q1, q2⟩
          · have q3 : qB G true (i / 2) = true := q2
            rw [q1, q3]
            rfl
          · cases q : qB G true (i / 2) with
            | false => exact q1
            | true => exact absurd ⟨by omega, by omega, q⟩ q2
        rw [hb9]
        have hb01 := bI01 (qB G true (i / 2))
        refine R_istore (lv' := [_, _, _, _, _, _, _, _, _]) rfl rfl ?_
        refine R_aload_n rfl rfl ?_
        refine R_getfield rfl rfl (by omega) b0 rfl ?_
        refine R_iload rfl rfl ?_
        refine R_iload rfl rfl ?_
        refine R_iload rfl rfl ?_
        refine R_ifne rfl ⟨by omega, by omega⟩ (fun c111 => ?_) (fun c111 => ?_)
        · have hqb : qB G true (i / 2) = true := bI_t rfl c111
          refine R_iconst rfl ?_
          refine R_vcall rfl rfl ⟨(by omega), _, p0⟩ ⟨Nat.le_of_ble_eq_true rfl, Nat.le_of_ble_eq_true rfl, Nat.zero_le _, Nat.zero_le _⟩ (changeBar_T (b := true) (v := false) hP.a hG (by omega) ⟨by omega, by omega⟩ (fun _ _ h1 hP1 f1 => aRes_i (rest := []) ?_) (fun hn9 => absurd ⟨by omega, qPb_iff.mp hpb⟩ hn9))
          have hP1 : isPz h1 20 (setBr G (i / 2) true false) := hP1
          have hG1 : okG (setBr G (i / 2) true false) := ok_setBr hG (qPb_iff.mp hpb)
          have b0x1 := (f1 0 (by omega)).trans b0
          obtain ⟨Fxx1, Lxx1, Dxx1, Axx1, Wxx1, Cxx1, ⟨p0x1, hSx1, -⟩, -⟩ := id hP1
          obtain ⟨rxx1, bxx1, s0x1⟩ := hSx1.e0
          refine R_pop rfl rfl ?_
          refine R_aload_n rfl rfl ?_
          refine R_getfield rfl rfl (by omega) b0x1 rfl ?_
          refine R_scall rfl rfl ⟨Nat.le_of_ble_eq_true rfl, Nat.le_of_ble_eq_true rfl, Nat.zero_le _, Nat.zero_le _⟩ (countKept_T hP1 hG1 (by omega) (fun z127 hz127 => aRes_i (rest := []) ?_))
          refine R_istore (lv' := [_, _, _, _, _, _, _, _, _]) rfl rfl ?_
          refine R_aload_n rfl rfl ?_
          refine R_getfield rfl rfl (by omega) b0x1 rfl ?_
          refine R_iload rfl rfl ?_
          refine R_iload rfl rfl ?_
          refine R_iload rfl rfl ?_
          refine R_vcall rfl rfl ⟨(by omega), _, p0x1⟩ ⟨Nat.le_of_ble_eq_true rfl, Nat.le_of_ble_eq_true rfl, Nat.zero_le _, Nat.zero_le _⟩ (changeBar_T (b := true) (v := qB G true (i / 2)) hP1.a hG1 (by omega) ⟨by omega, by omega⟩ (fun _ _ h2 hP2 f2 => aRes_i (rest := []) ?_) (fun hn9 => absurd ⟨by omega, qPb_iff.mp (qPb_set.trans hpb)⟩ hn9))
          have hP2 : isPz h2 20 (setBr (setBr G (i / 2) true (!qB G true (i / 2))) (i / 2) true (qB G true (i / 2))) := by
            rw [hqb] at hP2 ⊢
            exact hP2
          rw [setBr_back] at hP2
          have b0x2 := (f2 0 (by omega)).trans b0x1
          obtain ⟨Fxx2, Lxx2, Dxx2, Axx2, Wxx2, Cxx2, ⟨p0x2, hSx2, -⟩, -⟩ := id hP2
          obtain ⟨rxx2, bxx2, s0x2⟩ := hSx2.e0
          have hkb : kpB G i = kpG (setBr G (i / 2) true (!qB G true (i / 2))) := by
            unfold kpB
            rw [hbb]
          have hkb2 : z127 = (kpB G i : Nat) := by
            rw [hkb, hqb]
            exact hz127
          have hk5 := kp_5 (G := setBr G (i / 2) true (!qB G true (i / 2)))
          refine R_pop rfl rfl ?_
          refine R_iload rfl rfl ?_
          refine R_iload_n rfl rfl ?_
          refine R_icmple rfl ⟨by omega, by omega⟩ ⟨by omega, by omega⟩ (fun c149 => ?_) (fun c149 => ?_)
          · have hh : mdF G (r + 1) i bb m = mdF G r (i + 1) bb m := if_neg (fun q => by have q1 := q.2; omega)
            refine R_iinc (lv' := [_, _, _, _, _, _, _, _, _]) rfl rfl rfl ?_
            refine R_goto rfl ?_
            rw [hh] at kc
            first
            | exact ih r (by omega) (i + 1) bb m h2 _ _ _ _ _ _ (by omega) (by omega) hzm hm5 b0x2 hP2 (fun h4 q1 q3 q4 => kc h4 q1 ((f1.trans f2).trans q3) q4)
            | exact ih r (by omega) (i + 1) (i : Int) (kpB G i) h2 _ _ _ _ _ _ (by omega) (by omega) (by omega) (by omega) b0x2 hP2 (fun h4 q1 q3 q4 => kc h4 q1 ((f1.trans f2).trans q3) q4)
          · have hh : mdF G (r + 1) i bb m = mdF G r (i + 1) (i : Int) (kpB G i) := if_pos ⟨by rw [hbb]; exact hpb, by omega⟩
            refine R_iload rfl rfl ?_
            refine R_istore_n (lv' := [_, _, _, _, _, _, _, _, _]) rfl rfl ?_
            refine R_iload rfl rfl ?_
            refine R_istore_n (lv' := [_, _, _, _, _, _, _, _, _]) rfl rfl ?_
            refine R_iinc (lv' := [_, _, _, _, _, _, _, _, _]) rfl rfl rfl ?_
            refine R_goto rfl ?_
            rw [hh] at kc
            first
            | exact ih r (by omega) (i + 1) bb m h2 _ _ _ _ _ _ (by omega) (by omega) hzm hm5 b0x2 hP2 (fun h4 q1 q3 q4 => kc h4 q1 ((f1.trans f2).trans q3) q4)
            | exact ih r (by omega) (i + 1) (i : Int) (kpB G i) h2 _ _ _ _ _ _ (by omega) (by omega) (by omega) (by omega) b0x2 hP2 (fun h4 q1 q3 q4 => kc h4 q1 ((f1.trans f2).trans q3) q4)
        · have hqb : qB G true (i / 2) = false := bI_f rfl (show bI (qB G true (i / 2)) = 0 by omega)
          refine R_iconst rfl ?_
          refine R_goto rfl ?_
          refine R_vcall rfl rfl ⟨(by omega), _, p0⟩ ⟨Nat.le_of_ble_eq_true rfl, Nat.le_of_ble_eq_true rfl, Nat.zero_le _, Nat.zero_le _⟩ (changeBar_T (b := true) (v := true) hP.a hG (by omega) ⟨by omega, by omega⟩ (fun _ _ h1 hP1 f1 => aRes_i (rest := []) ?_) (fun hn9 => absurd ⟨by omega, qPb_iff.mp hpb⟩ hn9))
          have hP1 : isPz h1 20 (setBr G (i / 2) true true) := hP1
          have hG1 : okG (setBr G (i / 2) true true) := ok_setBr hG (qPb_iff.mp hpb)
          have b0x1 := (f1 0 (by omega)).trans b0
          obtain ⟨Fxx1, Lxx1, Dxx1, Axx1, Wxx1, Cxx1, ⟨p0x1, hSx1, -⟩, -⟩ := id hP1
          obtain ⟨rxx1, bxx1, s0x1⟩ := hSx1.e0
          refine R_pop rfl rfl ?_
          refine R_aload_n rfl rfl ?_
          refine R_getfield rfl rfl (by omega) b0x1 rfl ?_
          refine R_scall rfl rfl ⟨Nat.le_of_ble_eq_true rfl, Nat.le_of_ble_eq_true rfl, Nat.zero_le _, Nat.zero_le _⟩ (countKept_T hP1 hG1 (by omega) (fun z127 hz127 => aRes_i (rest := []) ?_))
          refine R_istore (lv' := [_, _, _, _, _, _, _, _, _]) rfl rfl ?_
          refine R_aload_n rfl rfl ?_
          refine R_getfield rfl rfl (by omega) b0x1 rfl ?_
          refine R_iload rfl rfl ?_
          refine R_iload rfl rfl ?_
          refine R_iload rfl rfl ?_
          refine R_vcall rfl rfl ⟨(by omega), _, p0x1⟩ ⟨Nat.le_of_ble_eq_true rfl, Nat.le_of_ble_eq_true rfl, Nat.zero_le _, Nat.zero_le _⟩ (changeBar_T (b := true) (v := qB G true (i / 2)) hP1.a hG1 (by omega) ⟨by omega, by omega⟩ (fun _ _ h2 hP2 f2 => aRes_i (rest := []) ?_) (fun hn9 => absurd ⟨by omega, qPb_iff.mp (qPb_set.trans hpb)⟩ hn9))
          have hP2 : isPz h2 20 (setBr (setBr G (i / 2) true (!qB G true (i / 2))) (i / 2) true (qB G true (i / 2))) := by
            rw [hqb] at hP2 ⊢
            exact hP2
          rw [setBr_back] at hP2
          have b0x2 := (f2 0 (by omega)).trans b0x1
          obtain ⟨Fxx2, Lxx2, Dxx2, Axx2, Wxx2, Cxx2, ⟨p0x2, hSx2, -⟩, -⟩ := id hP2
          obtain ⟨rxx2, bxx2, s0x2⟩ := hSx2.e0
          have hkb : kpB G i = kpG (setBr G (i / 2) true (!qB G true (i / 2))) := by
            unfold kpB
            rw [hbb]
          have hkb2 : z127 = (kpB G i : Nat) := by
            rw [hkb, hqb]
            exact hz127
          have hk5 := kp_5 (G := setBr G (i / 2) true (!qB G true (i / 2)))
          refine R_pop rfl rfl ?_
          refine R_iload rfl rfl ?_
          refine R_iload_n rfl rfl ?_
          refine R_icmple rfl ⟨by omega, by omega⟩ ⟨by omega, by omega⟩ (fun c149 => ?_) (fun c149 => ?_)
          · have hh : mdF G (r + 1) i bb m = mdF G r (i + 1) bb m := if_neg (fun q => by have q1 := q.2; omega)
            refine R_iinc (lv' := [_, _, _, _, _, _, _, _, _]) rfl rfl rfl ?_
            refine R_goto rfl ?_
            rw [hh] at kc
            first
            | exact ih r (by omega) (i + 1) bb m h2 _ _ _ _ _ _ (by omega) (by omega) hzm hm5 b0x2 hP2 (fun h4 q1 q3 q4 => kc h4 q1 ((f1.trans f2).trans q3) q4)
            | exact ih r (by omega) (i + 1) (i : Int) (kpB G i) h2 _ _ _ _ _ _ (by omega) (by omega) (by omega) (by omega) b0x2 hP2 (fun h4 q1 q3 q4 => kc h4 q1 ((f1.trans f2).trans q3) q4)
          · have hh : mdF G (r + 1) i bb m = mdF G r (i + 1) (i : Int) (kpB G i) := if_pos ⟨by rw [hbb]; exact hpb, by omega⟩
            refine R_iload rfl rfl ?_
            refine R_istore_n (lv' := [_, _, _, _, _, _, _, _, _]) rfl rfl ?_
            refine R_iload rfl rfl ?_
            refine R_istore_n (lv' := [_, _, _, _, _, _, _, _, _]) rfl rfl ?_
            refine R_iinc (lv' := [_, _, _, _, _, _, _, _, _]) rfl rfl rfl ?_
            refine R_goto rfl ?_
            rw [hh] at kc
            first
            | exact ih r (by omega) (i + 1) bb m h2 _ _ _ _ _ _ (by omega) (by omega) hzm hm5 b0x2 hP2 (fun h4 q1 q3 q4 => kc h4 q1 ((f1.trans f2).trans q3) q4)
            | exact ih r (by omega) (i + 1) (i : Int) (kpB G i) h2 _ _ _ _ _ _ (by omega) (by omega) (by omega) (by omega) b0x2 hP2 (fun h4 q1 q3 q4 => kc h4 q1 ((f1.trans f2).trans q3) q4)
theorem mend_C {d N : Nat} {h : AH} {y : Sy} {Q : AQ} (hF : isFace h y) (hN : 122 ≤ N) (hQ : clQ (opMend y) "java/lang/IllegalArgumentException" "java/lang/IllegalStateException" h N Q) : T (d + 8) 112 [vR 0] h N Q := by
  obtain ⟨b0, ⟨px, hT⟩, ⟨Gt, hSt⟩, hP, hG, ⟨Gr9, hPt⟩, hM, hSe, hFl, hst⟩ := id hF
  obtain ⟨F, Ln, Dn, Ac, Dw, Cl, ⟨p0, hS, -⟩, -⟩ := id hP
  obtain ⟨hm4, hm36⟩ := hG.m
  have hn36 := nE36 hG
  have hW8 := hG.2.2.2.2.1
  obtain ⟨rb, bb, s0⟩ := hS.e0
  refine T_body (I := mi_X8_mend) (lv := [_, _, _, _, _, _, _, _, _]) rfl (Nat.le_of_ble_eq_true rfl) rfl ?_
  refine R_aload_n rfl rfl ?_
  refine R_getfield rfl rfl (by omega) b0 rfl ?_
  refine R_aload_n rfl rfl ?_
  refine R_getfield rfl rfl (by omega) b0 rfl ?_
  refine R_getfield rfl rfl (by omega) p0 rfl ?_
  refine R_vcall rfl rfl ⟨(by omega), (pa_rcv hPt)⟩ ⟨Nat.le_of_ble_eq_true rfl, Nat.le_of_ble_eq_true rfl, Nat.zero_le _, Nat.zero_le _⟩ (take_T hPt hS hG (by omega) ⟨by omega, by omega⟩ (fun h1 hP1 f1 => aRes_v (rest := []) ?_))
  have hSe1 := isSe_fr hSe (h' := h1) (fun j q1 q2 => f1 j (by omega))
  have hst1 : isStp h1 := ⟨(f1 _ (by omega)).trans hst.1, (f1 _ (by omega)).trans hst.2⟩
  have b0x1 := (f1 0 (by omega)).trans b0
  obtain ⟨Fxx1, Lxx1, Dxx1, Axx1, Wxx1, Cxx1, ⟨p0x1, hSx1, -⟩, -⟩ := id hP1
  obtain ⟨rxx1, bxx1, s0x1⟩ := hSx1.e0
  refine R_bipush rfl ?_
  refine R_istore_n (lv' := [_, _, _, _, _, _, _, _, _]) rfl rfl ?_
  refine R_aload_n rfl rfl ?_
  refine R_getfield rfl rfl (by omega) b0x1 rfl ?_
  refine R_scall rfl rfl ⟨Nat.le_of_ble_eq_true rfl, Nat.le_of_ble_eq_true rfl, Nat.zero_le _, Nat.zero_le _⟩ (countKept_T hP1 hG (by omega) (fun z21 hz21 => aRes_i (rest := []) ?_))
  refine R_istore_n (lv' := [_, _, _, _, _, _, _, _, _]) rfl rfl ?_
  refine R_iconst rfl ?_
  refine R_aload_n rfl rfl ?_
  refine R_getfield rfl rfl (by omega) b0x1 rfl ?_
  refine R_getfield rfl rfl (by omega) p0x1 rfl ?_
  refine R_vcall rfl rfl ⟨(by omega), hSx1.rcv⟩ ⟨Nat.le_of_ble_eq_true rfl, Nat.le_of_ble_eq_true rfl, Nat.zero_le _, Nat.zero_le _⟩ (cells_T hSx1 hG (by omega) (fun z33 hz33 => aRes_i (rest := [_]) ?_))
  refine R_imul rfl ?_
  refine R_istore_n (lv' := [_, _, _, _, _, _, _, _, _]) rfl rfl ?_
  refine R_iconst rfl ?_
  refine R_istore (lv' := [_, _, _, _, _, _, _, _, _]) rfl rfl ?_
  exact me_loop hG hN (by omega) (2 * qM y.1) 0 (-9) (kpG y.1) h1 _ _ _ _ _ _ (Nat.zero_add _) rfl hz21 kp_5 b0x1 hP1 (fun h2 hP2 f2 z hz => clQ_0 hQ rfl (isFace_tr hF hP2.a (isSe_fr hSe1 (fun j q1 q2 => f2 j (by omega))) (fun j q1 q2 => (f2 j (by omega)).trans (f1 j (by omega)))) (fun j hj => (f2 j (by omega)).trans (f1 j (by omega))) hz)
theorem wg_loop {d N s n : Nat} {h : AH} {Q : AQ} {sc : Int64} (hn3 : n ≤ 3) (hQ : ∀ x : Int64, x.toInt = ((s / 100000 ^ n : Nat) : Int) → Q (.inl (some (vL x))) h N) : ∀ (r i : Nat) (x : Int64) (zi : Int), i + r = n → zi = i → x.toInt = ((s / 100000 ^ i : Nat) : Int) → Run mi_X8_withoutGroups (T d) Q 5 [some (vL sc), none, some (vI n), some (vL x), none, some (vI zi)] [] h N 0 0 := by
  intro r
  induction r using Nat.strongRecOn with
  | ind r ih =>
  intro i x zi hr hzi hx
  refine R_iload rfl rfl ?_
  refine R_iload_n rfl rfl ?_
  refine R_icmpge rfl ⟨by omega, by omega⟩ ⟨by omega, by omega⟩ (fun c8 => ?_) (fun c8 => ?_)
  · have hr0 : r = 0 := by omega
    subst hr0
    have hi : i = n := by omega
    subst hi
    refine R_lload_n rfl rfl ?_
    exact R_lreturn rfl (Nat.zero_le _) (Nat.zero_le _) (hQ _ hx)
  · obtain ⟨r, rfl⟩ : ∃ r1, r = r1 + 1 := ⟨r - 1, by omega⟩
    refine R_lload_n rfl rfl ?_
    refine R_ldc2_w rfl rfl ?_
    refine R_ldiv rfl (by decide) ?_
    refine R_lstore_n (lv' := [_, _, _, _, _, _]) rfl rfl ?_
    refine R_iinc (lv' := [_, _, _, _, _, _]) rfl rfl rfl ?_
    refine R_goto rfl ?_
    exact ih r (by omega) (i + 1) _ _ (by omega) (by omega) (by
      rw [i64_div hx (show (100000 : Int64).toInt = ((100000 : Nat) : Int) by decide), Nat.div_div_eq_div_mul, Nat.pow_succ])
theorem withoutGroups_T {d N s n : Nat} {h : AH} {Q : AQ} {sc : Int64} {nz : Int} (hnz : nz = n) (hs : sc.toInt = s) (hn3 : n ≤ 3) (hQ : ∀ x : Int64, x.toInt = ((s / 100000 ^ n : Nat) : Int) → Q (.inl (some (vL x))) h N) : T (d + 1) 123 [vL sc, vI nz] h N Q := by
  subst hnz
  refine T_body (I := mi_X8_withoutGroups) (lv := [_, _, _, _, _, _]) rfl (Nat.le_of_ble_eq_true rfl) rfl ?_
  refine R_lload_n rfl rfl ?_
  refine R_lstore_n (lv' := [_, _, _, _, _, _]) rfl rfl ?_
  refine R_iconst rfl ?_
  refine R_istore (lv' := [_, _, _, _, _, _]) rfl rfl ?_
  exact wg_loop hn3 hQ n 0 sc _ (Nat.zero_add _) rfl (by rw [hs, Nat.pow_zero, Nat.div_one])
theorem rs_loop {d N s n : Nat} {Q : AQ} {sc : Int64} (hN : 122 ≤ N) (hs : sc.toInt = s) (hn3 : n ≤ 3) : ∀ (r k : Nat) (h : AH) (G : Gr) (zk : Int) (l5 : Option AV), k + r = n → zk = k → h 0 = eO 6 [vR 1, vR 8, vR 20, vR 32, vR 116, vR 119] → isPz h 20 G → okG G → isStp h → isSe h → (∀ h' G', isPz h' 20 G' → isSe h' → (∀ j, (j < 20 ∨ 20 + 12 ≤ j) → (j < 116 ∨ 119 ≤ j) → h' j = h j) → ∀ z : Int, z = scF s r k G → Q (.inl (some (vI z))) h' N) → Run mi_X8_runScript (T (d + 30)) Q 54 [some (vR 0), some (vI n), some (vL sc), none, some (vI zk), l5] [] h N 0 0 := by
  intro r
  induction r using Nat.strongRecOn with
  | ind r ih =>
  intro k h G zk l5 hr hzk b0 hP hG hst hSe kc
  obtain ⟨F, Ln, Dn, Ac, Dw, Cl, ⟨p0, hS, -⟩, -⟩ := id hP
  obtain ⟨hm4, hm36⟩ := hG.m
  have hn36 := nE36 hG
  have hW8 := hG.2.2.2.2.1
  obtain ⟨rb, bb0, s0⟩ := hS.e0
  refine R_iload rfl rfl ?_
  refine R_iload_n rfl rfl ?_
  refine R_icmpge rfl ⟨by omega, by omega⟩ ⟨by omega, by omega⟩ (fun c57 => ?_) (fun c57 => ?_)
  · have hr0 : r = 0 := by omega
    subst hr0
    refine R_bipush rfl ?_
    exact R_ireturn rfl (fun q => absurd q (by decide)) (Nat.zero_le _) (Nat.zero_le _) (kc h G hP hSe (fun _ _ _ => rfl) _ rfl)
  · obtain ⟨r, rfl⟩ : ∃ r1, r = r1 + 1 := ⟨r - 1, by omega⟩
    subst hzk
    refine R_lload_n rfl rfl ?_
    refine R_iload_n rfl rfl ?_
    refine R_iconst rfl ?_
    refine R_isub rfl ?_
    refine R_iload rfl rfl ?_
    refine R_isub rfl ?_
    refine R_scall rfl rfl ⟨Nat.le_of_ble_eq_true rfl, Nat.le_of_ble_eq_true rfl, Nat.zero_le _, Nat.zero_le _⟩ (withoutGroups_T (n := r) (by omega) hs (by omega) (fun x9 hx9 => aRes_i (rest := []) ?_))
    refine R_ldc2_w rfl rfl ?_
    refine R_lrem rfl (by decide) ?_
    refine R_l2i rfl ?_
    rw [show (x9 - x9 / 100000 * 100000).toInt32.toInt = ((gk9 s r : Nat) : Int) from i64_l2i (i64_rem hx9 (show (100000 : Int64).toInt = ((100000 : Nat) : Int) by decide)) (Nat.lt_of_lt_of_le (Nat.mod_lt _ (by decide)) (by decide))]
    refine R_istore (lv' := [_, _, _, _, _, _]) rfl rfl ?_
    refine R_aload_n rfl rfl ?_
    refine R_getfield rfl rfl (by omega) b0 rfl ?_
    refine R_aload_n rfl rfl ?_
    refine R_getfield rfl rfl (by omega) b0 rfl ?_
    refine R_iload rfl rfl ?_
    refine R_scall rfl rfl ⟨Nat.le_of_ble_eq_true rfl, Nat.le_of_ble_eq_true rfl, Nat.zero_le _, Nat.zero_le _⟩ (succeeds_T hP hG (by omega) (by omega) hst hSe (show gk9 s r < 100000 from Nat.mod_lt _ (by decide)) (fun h1 hP1 hSe1 f1 => aRes_i (rest := []) ?_))
    have h01 := bI01 (cmF G (gk9 s r)).1
    have b0x1 := (f1 0 (by omega) (by omega)).trans b0
    obtain ⟨Fxx1, Lxx1, Dxx1, Axx1, Wxx1, Cxx1, ⟨p0x1, hSx1, -⟩, -⟩ := id hP1
    obtain ⟨rxx1, bxx1, s0x1⟩ := hSx1.e0
    refine R_ifne rfl ⟨by omega, by omega⟩ (fun c90 => ?_) (fun c90 => ?_)
    · have hb9 := bI_t rfl c90
      have hq : scF s (r + 1) k G = scF s r (k + 1) (cmF G (gk9 s r)).2 := if_pos hb9
      rw [hq] at kc
      refine R_iinc (lv' := [_, _, _, _, _, _]) rfl rfl rfl ?_
      refine R_goto rfl ?_
      exact ih r (by omega) (k + 1) h1 (cmF G (gk9 s r)).2 _ _ (by omega) (by omega) b0x1 hP1 (cm_ok hG) ⟨(f1 _ (by omega) (by omega)).trans hst.1, (f1 _ (by omega) (by omega)).trans hst.2⟩ hSe1 (fun h2 G2 q1 q2 q3 q4 => kc h2 G2 q1 q2 (fun j q5 q6 => (q3 j q5 q6).trans (f1 j q5 q6)) q4)
    · have hb9 := bI_f rfl (show bI (cmF G (gk9 s r)).1 = 0 by omega)
      have hq : scF s (r + 1) k G = (k : Int) := if_neg (by rw [hb9]; decide)
      rw [hq] at kc
      refine R_iload rfl rfl ?_
      exact R_ireturn rfl (fun q => absurd q (by decide)) (Nat.zero_le _) (Nat.zero_le _) (kc h1 _ hP1 hSe1 f1 _ rfl)
theorem runScript_C {d N : Nat} {h : AH} {y : Sy} {Q : AQ} (hF : isFace h y) (hN : 122 ≤ N) {n9 : Int} {sc : Int64} (hc : inR n9) (hQ : clQ (opRunScript y n9 sc) "java/lang/IllegalArgumentException" "java/lang/IllegalStateException" h N Q) : T (d + 31) 114 [vR 0, vI n9, vL sc] h N Q := by
  obtain ⟨b0, ⟨px, hT⟩, ⟨Gt, hSt⟩, hP, hG, ⟨Gr9, hPt⟩, hM, hSe, hFl, hst⟩ := id hF
  obtain ⟨F, Ln, Dn, Ac, Dw, Cl, ⟨p0, hS, -⟩, -⟩ := id hP
  obtain ⟨hm4, hm36⟩ := hG.m
  have hn36 := nE36 hG
  have hW8 := hG.2.2.2.2.1
  obtain ⟨rb, bb, s0⟩ := hS.e0
  obtain ⟨hc1, hc2⟩ := id hc
  refine T_body (I := mi_X8_runScript) (lv := [_, _, _, _, _, _]) rfl (Nat.le_of_ble_eq_true rfl) rfl ?_
  refine R_iload_n rfl rfl ?_
  refine R_iconst rfl ?_
  refine R_icmplt rfl ⟨by first | omega | (have := (cmp_r sc (Int64.ofNat ((0 : Fin 2) : Nat))).1; omega), by first | omega | (have := (cmp_r sc (Int64.ofNat ((0 : Fin 2) : Nat))).2; omega)⟩ ⟨by decide, by decide⟩ (fun c2 => ?_) (fun c2 => ?_)
  · exact R_throw rfl rfl (Nat.le_of_ble_eq_true rfl) (Nat.le_of_ble_eq_true rfl) (Nat.le_of_ble_eq_true rfl) rfl (clQ_1 (v := 0) hQ (if_neg (fun q => by
      have q1 := q.1
      have q2 := q.2.1
      have q3 := q.2.2
      first
      | omega
      | (have h1 := (cmp_lt _ _).mp c13
         have h2 : (Int64.ofNat ((0 : Fin 2) : Nat)).toInt = 0 := by decide
         omega)
      | exact hbad ⟨q1, q2, q3⟩)) hF same122)
  · refine R_iload_n rfl rfl ?_
    refine R_iconst rfl ?_
    refine R_icmpgt rfl ⟨by first | omega | (have := (cmp_r sc (Int64.ofNat ((0 : Fin 2) : Nat))).1; omega), by first | omega | (have := (cmp_r sc (Int64.ofNat ((0 : Fin 2) : Nat))).2; omega)⟩ ⟨by decide, by decide⟩ (fun c7 => ?_) (fun c7 => ?_)
    · exact R_throw rfl rfl (Nat.le_of_ble_eq_true rfl) (Nat.le_of_ble_eq_true rfl) (Nat.le_of_ble_eq_true rfl) rfl (clQ_1 (v := 0) hQ (if_neg (fun q => by
      have q1 := q.1
      have q2 := q.2.1
      have q3 := q.2.2
      first
      | omega
      | (have h1 := (cmp_lt _ _).mp c13
         have h2 : (Int64.ofNat ((0 : Fin 2) : Nat)).toInt = 0 := by decide
         omega)
      | exact hbad ⟨q1, q2, q3⟩)) hF same122)
    · refine R_lload_n rfl rfl ?_
      refine R_lconst rfl ?_
      refine R_lcmp rfl ?_
      refine R_iflt rfl ⟨by first | omega | (have := (cmp_r sc (Int64.ofNat ((0 : Fin 2) : Nat))).1; omega), by first | omega | (have := (cmp_r sc (Int64.ofNat ((0 : Fin 2) : Nat))).2; omega)⟩ (fun c13 => ?_) (fun c13 => ?_)
      · exact R_throw rfl rfl (Nat.le_of_ble_eq_true rfl) (Nat.le_of_ble_eq_true rfl) (Nat.le_of_ble_eq_true rfl) rfl (clQ_1 (v := 0) hQ (if_neg (fun q => by
      have q1 := q.1
      have q2 := q.2.1
      have q3 := q.2.2
      first
      | omega
      | (have h1 := (cmp_lt _ _).mp c13
         have h2 : (Int64.ofNat ((0 : Fin 2) : Nat)).toInt = 0 := by decide
         omega)
      | exact hbad ⟨q1, q2, q3⟩)) hF same122)
      · have h41 : 0 ≤ sc.toInt := by
          have h1 : ¬ sc.toInt < (Int64.ofNat ((0 : Fin 2) : Nat)).toInt := fun k => c13 ((cmp_lt _ _).mpr k)
          have h2 : (Int64.ofNat ((0 : Fin 2) : Nat)).toInt = 0 := by decide
          omega
        obtain ⟨nn, rfl⟩ := Int.eq_ofNat_of_zero_le (show 0 ≤ n9 by omega)
        have hn3 : nn ≤ 3 := by omega
        refine R_lload_n rfl rfl ?_
        refine R_iload_n rfl rfl ?_
        refine R_scall rfl rfl ⟨Nat.le_of_ble_eq_true rfl, Nat.le_of_ble_eq_true rfl, Nat.le_of_ble_eq_true rfl, Nat.le_of_ble_eq_true rfl⟩ (withoutGroups_T (s := sc.toInt.toNat) (n := nn) rfl (by omega) hn3 (fun x9 hx9 => aRes_i (rest := []) ?_))
        have hr9 := cmp_r x9 (Int64.ofNat ((0 : Fin 2) : Nat))
        refine R_lconst rfl ?_
        refine R_lcmp rfl ?_
        refine R_ifeq rfl ⟨by first | omega | (have := (cmp_r sc (Int64.ofNat ((0 : Fin 2) : Nat))).1; omega), by first | omega | (have := (cmp_r sc (Int64.ofNat ((0 : Fin 2) : Nat))).2; omega)⟩ (fun c23 => ?_) (fun c23 => ?_)
        · have hpp : 0 < 100000 ^ nn := Nat.pow_pos (by decide)
          have hcp : ((100000 ^ nn : Nat) : Int) = (100000 : Int) ^ nn := by
            rw [Int.natCast_pow]
            rfl
          have h02 : (Int64.ofNat ((0 : Fin 2) : Nat)).toInt = 0 := by decide
          have hx0 : x9 = Int64.ofNat ((0 : Fin 2) : Nat) := (cmp0 _ _).mp c23
          have hlt9 : sc.toInt.toNat / 100000 ^ nn = 0 := by
            rw [hx0, h02] at hx9
            omega
          have hlt8 : sc.toInt.toNat < 100000 ^ nn := (Nat.div_eq_zero_iff_lt hpp).mp hlt9
          have ho : opRunScript y nn sc = (0, scF sc.toInt.toNat nn 0 y.1, y) := if_pos ⟨⟨by omega, by omega⟩, h41, by show sc.toInt < (100000 : Int) ^ nn; rw [← hcp]; omega⟩
          refine R_aload_n rfl rfl ?_
          refine R_getfield rfl rfl (by omega) b0 rfl ?_
          refine R_aload_n rfl rfl ?_
          refine R_getfield rfl rfl (by omega) b0 rfl ?_
          refine R_getfield rfl rfl (by omega) p0 rfl ?_
          refine R_vcall rfl rfl ⟨(by omega), (pa_rcv hPt)⟩ ⟨Nat.le_of_ble_eq_true rfl, Nat.le_of_ble_eq_true rfl, Nat.le_of_ble_eq_true rfl, Nat.le_of_ble_eq_true rfl⟩ (take_T hPt hS hG (by omega) ⟨by omega, by omega⟩ (fun h1 hP1 f1 => aRes_v (rest := []) ?_))
          have hSe1 := isSe_fr hSe (h' := h1) (fun j q1 q2 => f1 j (by omega))
          have hst1 : isStp h1 := ⟨(f1 _ (by omega)).trans hst.1, (f1 _ (by omega)).trans hst.2⟩
          have b0x1 := (f1 0 (by omega)).trans b0
          obtain ⟨Fxx1, Lxx1, Dxx1, Axx1, Wxx1, Cxx1, ⟨p0x1, hSx1, -⟩, -⟩ := id hP1
          obtain ⟨rxx1, bxx1, s0x1⟩ := hSx1.e0
          refine R_iconst rfl ?_
          refine R_istore (lv' := [_, _, _, _, _, _]) rfl rfl ?_
          exact rs_loop (d := d) hN (s := sc.toInt.toNat) (by omega) hn3 nn 0 h1 y.1 _ _ (Nat.zero_add _) rfl b0x1 hP1 hG hst1 hSe1 (fun h2 G2 hP2 hSe2 f2 z hz => clQ_0 hQ ho (isFace_tr hF hP2.a hSe2 (fun j q1 q2 => (f2 j (by omega) (by omega)).trans (f1 j (by omega)))) (fun j hj => (f2 j (by omega) (by omega)).trans (f1 j (by omega))) hz)
        · have hpp : 0 < 100000 ^ nn := Nat.pow_pos (by decide)
          have hcp : ((100000 ^ nn : Nat) : Int) = (100000 : Int) ^ nn := by
            rw [Int.natCast_pow]
            rfl
          have h02 : (Int64.ofNat ((0 : Fin 2) : Nat)).toInt = 0 := by decide
          have hbad : ¬ ((1 ≤ (nn : Int) ∧ (nn : Int) ≤ 3) ∧ 0 ≤ sc.toInt ∧ sc.toInt < 100000 ^ ((nn : Int)).toNat) := fun q => by
            have q3 : sc.toInt < (100000 : Int) ^ nn := q.2.2
            rw [← hcp] at q3
            have hlt9 : sc.toInt.toNat / 100000 ^ nn = 0 := (Nat.div_eq_zero_iff_lt hpp).mpr (by omega)
            rw [hlt9] at hx9
            exact c23 ((cmp0 _ _).mpr (Int64.toInt_inj.mp (by rw [h02]; exact hx9)))
          exact R_throw rfl rfl (Nat.le_of_ble_eq_true rfl) (Nat.le_of_ble_eq_true rfl) (Nat.le_of_ble_eq_true rfl) rfl (clQ_1 (v := 0) hQ (if_neg (fun q => by
      have q1 := q.1
      have q2 := q.2.1
      have q3 := q.2.2
      first
      | omega
      | (have h1 := (cmp_lt _ _).mp c13
         have h2 : (Int64.ofNat ((0 : Fin 2) : Nat)).toInt = 0 := by decide
         omega)
      | exact hbad ⟨q1, q2, q3⟩)) hF same122)
