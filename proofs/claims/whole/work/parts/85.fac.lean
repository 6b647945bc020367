/-! ===== the class's face: simulate ===== -/
theorem simulateRound_T {d N : Nat} {h : AH} {G : Gr} {Q : AQ} (b0 : h 0 = eO 6 [vR 1, vR 8, vR 20, vR 32, vR 116, vR 119]) (hP : isPz h 20 G) (hG : okG G) (hN : 122 ≤ N) {q9 : Nat} {qz : Int} (hqz : qz = q9) (hq9 : q9 < 2147483648) (kc : ∀ h', isPz h' 20 (smS G q9) → fr h h' 20 12 → Q (.inl none) h' N) : T (d + 6) 124 [vR 0, vI qz] h N Q := by
  obtain ⟨F, Ln, Dn, Ac, Dw, Cl, ⟨p0, hS, -⟩, -⟩ := id hP
  obtain ⟨hm4, hm36⟩ := hG.m
  have hn36 := nE36 hG
  have hW8 := hG.2.2.2.2.1
  obtain ⟨rb, bb0, s0⟩ := hS.e0
  subst hqz
  refine T_body (I := mi_X8_simulateRound) (lv := [_, _, _, _, _, _]) rfl (Nat.le_of_ble_eq_true rfl) rfl ?_
  refine R_aload_n rfl rfl ?_
  refine R_getfield rfl rfl (by omega) b0 rfl ?_
  refine R_getfield rfl rfl (by omega) p0 rfl ?_
  refine R_vcall rfl rfl ⟨(by omega), hS.rcv⟩ ⟨Nat.le_of_ble_eq_true rfl, Nat.le_of_ble_eq_true rfl, Nat.zero_le _, Nat.zero_le _⟩ (cells_T hS hG (by omega) (fun z7 hz7 => aRes_i (rest := []) ?_))
  rw [hz7]
  refine R_istore_n (lv' := [_, _, _, _, _, _]) rfl rfl ?_
  refine R_iload_n rfl rfl ?_
  refine R_iconst rfl ?_
  refine R_icmpge rfl ⟨by omega, by omega⟩ ⟨by decide, by decide⟩ (fun c13 => ?_) (fun c13 => ?_)
  · refine R_iload_n rfl rfl ?_
    refine R_iconst rfl ?_
    refine R_irem rfl ⟨by omega, by omega, by omega, by omega⟩ ?_
    refine R_ifne rfl ⟨by omega, by omega⟩ (fun c20 => ?_) (fun c20 => ?_)
    · refine R_aload_n rfl rfl ?_
      refine R_getfield rfl rfl (by omega) b0 rfl ?_
      refine R_getfield rfl rfl (by omega) p0 rfl ?_
      refine R_iload_n rfl rfl ?_
      refine R_iconst rfl ?_
      refine R_idiv rfl ⟨by omega, by omega, by omega, by omega⟩ ?_
      refine R_iload_n rfl rfl ?_
      have hcm : (q9 : Int) / 2 % ((qM G : Nat) : Int) = ((q9 / 2 % qM G : Nat) : Int) := rfl
      have hcl : q9 / 2 % qM G < qM G := Nat.mod_lt _ (by omega)
      refine R_irem rfl ⟨by omega, by omega, by omega, by omega⟩ ?_
      rw [hcm]
      refine R_bipush rfl ?_
      refine R_iload_n rfl rfl ?_
      refine R_sipush rfl ?_
      refine R_idiv rfl ⟨by omega, by omega, by omega, by omega⟩ ?_
      refine R_iconst rfl ?_
      refine R_irem rfl ⟨by omega, by omega, by omega, by omega⟩ ?_
      refine R_iadd rfl ?_
      refine R_vcall rfl rfl ⟨(by omega), hS.rcv⟩ ⟨Nat.le_of_ble_eq_true rfl, Nat.le_of_ble_eq_true rfl, Nat.zero_le _, Nat.zero_le _⟩ (setLetter_T hS hG (by omega) ⟨by omega, by omega⟩ (fun h1 hS1 f1 => aRes_v (rest := []) ?_))
      have hP1 := isPz_S (G := G) (G' := setL G (q9 / 2 % qM G) (97 + ((q9 / 128 % 3 : Nat) : Int))) ⟨rfl, rfl, rfl, rfl⟩ hP hS1 f1
      exact R_return rfl (Nat.zero_le _) (Nat.zero_le _) (kc h1 (by
    have hs9 : smS G q9 = setL G (q9 / 2 % qM G) (97 + ((q9 / 128 % 3 : Nat) : Int)) := if_pos (by omega)
    rw [hs9]
    exact hP1) (f1.wide (by omega)))
    · refine R_iload_n rfl rfl ?_
      refine R_iconst rfl ?_
      refine R_idiv rfl ⟨by omega, by omega, by omega, by omega⟩ ?_
      refine R_iconst rfl ?_
      refine R_iload_n rfl rfl ?_
      refine R_imul rfl ?_
      rw [show (2 : Int) * ((qM G : Nat) : Int) = ((2 * qM G : Nat) : Int) by omega]
      have hpm : (q9 : Int) / 2 % ((2 * qM G : Nat) : Int) = (((q9 / 2 % (2 * qM G)) : Nat) : Int) := rfl
      have hpl : (q9 / 2 % (2 * qM G)) < 2 * qM G := Nat.mod_lt _ (by omega)
      refine R_irem rfl ⟨by omega, by omega, by omega, by omega⟩ ?_
      rw [hpm]
      refine R_istore_n (lv' := [_, _, _, _, _, _]) rfl rfl ?_
      refine R_iload_n rfl rfl ?_
      refine R_iconst rfl ?_
      refine R_idiv rfl ⟨by omega, by omega, by omega, by omega⟩ ?_
      rw [show (((q9 / 2 % (2 * qM G)) : Nat) : Int) / 2 = (((q9 / 2 % (2 * qM G)) / 2 : Nat) : Int) from rfl]
      refine R_istore (lv' := [_, _, _, _, _, _]) rfl rfl ?_
      refine R_iload_n rfl rfl ?_
      refine R_iconst rfl ?_
      refine R_irem rfl ⟨by omega, by omega, by omega, by omega⟩ ?_
      refine R_iconst rfl ?_
      refine R_icmpne rfl ⟨by omega, by omega⟩ ⟨by decide, by decide⟩ (fun c40 => ?_) (fun c40 => ?_)
      · have hev : ¬ q9 % 2 = 1 := by omega
        have hbb : decide ((q9 / 2 % (2 * qM G)) % 2 = 1) = false := decide_eq_false (by omega)
        refine R_iconst rfl ?_
        refine R_istore (lv' := [_, _, _, _, _, _]) rfl rfl ?_
        refine R_aload_n rfl rfl ?_
        refine R_getfield rfl rfl (by omega) b0 rfl ?_
        refine R_iload rfl rfl ?_
        refine R_iload rfl rfl ?_
        refine R_aload_n rfl rfl ?_
        refine R_getfield rfl rfl (by omega) b0 rfl ?_
        refine R_getfield rfl rfl (by omega) p0 rfl ?_
        refine R_iload rfl rfl ?_
        refine R_iload rfl rfl ?_
        refine R_vcall rfl rfl ⟨(by omega), hS.rcv⟩ ⟨Nat.le_of_ble_eq_true rfl, Nat.le_of_ble_eq_true rfl, Nat.zero_le _, Nat.zero_le _⟩ (hasBar_T (b := false) hS hG (by omega) ⟨by omega, by omega⟩ (fun z69 hz69 => aRes_i (rest := [_, _, _]) ?_))
        have hb9 : z69 = bI (qB G false ((q9 / 2 % (2 * qM G)) / 2)) := by
          rcases hz69 with ⟨q1, -, -, q2⟩ | ⟨q1, q2⟩
          · have q3 : qB G false ((q9 / 2 % (2 * qM G)) / 2) = true := q2
            rw [q1, q3]
            rfl
          · cases q : qB G false ((q9 / 2 % (2 * qM G)) / 2) with
            | false => exact q1
            | true => exact absurd ⟨by omega, by omega, q⟩ q2
        have hb01 := bI01 (qB G false ((q9 / 2 % (2 * qM G)) / 2))
        rw [← hb9] at hb01
        refine R_ifne rfl ⟨by omega, by omega⟩ (fun c72 => ?_) (fun c72 => ?_)
        · have hqb := bI_t hb9 c72
          refine R_iconst rfl ?_
          refine R_vcall rfl rfl ⟨(by omega), _, p0⟩ ⟨Nat.le_of_ble_eq_true rfl, Nat.le_of_ble_eq_true rfl, Nat.zero_le _, Nat.zero_le _⟩ (changeBar_T (b := false) (v := false) hP.a hG (by omega) ⟨by omega, by omega⟩ (fun _ hpl9 h1 hP1 f1 => aRes_i (rest := []) ?_) (fun hpl9 => aRes_i (rest := []) ?_))
          · refine R_pop rfl rfl ?_
            refine R_goto rfl ?_
            exact R_return rfl (Nat.zero_le _) (Nat.zero_le _) (kc h1 (by
              have hs9 : smS G q9 = setBr G ((q9 / 2 % (2 * qM G)) / 2) false false := (if_neg hev).trans ((if_pos (by rw [hbb]; exact qPb_iff.mpr hpl9)).trans (by rw [hbb, hqb]; rfl))
              rw [hs9]
              exact hP1) f1)
          · refine R_pop rfl rfl ?_
            refine R_goto rfl ?_
            exact R_return rfl (Nat.zero_le _) (Nat.zero_le _) (kc h (by
              have hs9 : smS G q9 = G := (if_neg hev).trans (if_neg (fun q => by rw [hbb] at q; exact hpl9 ⟨by omega, qPb_iff.mp q⟩))
              rw [hs9]
              exact hP) fr.refl)
        · have hqb := bI_f hb9 (by omega)
          refine R_iconst rfl ?_
          refine R_goto rfl ?_
          refine R_vcall rfl rfl ⟨(by omega), _, p0⟩ ⟨Nat.le_of_ble_eq_true rfl, Nat.le_of_ble_eq_true rfl, Nat.zero_le _, Nat.zero_le _⟩ (changeBar_T (b := false) (v := true) hP.a hG (by omega) ⟨by omega, by omega⟩ (fun _ hpl9 h1 hP1 f1 => aRes_i (rest := []) ?_) (fun hpl9 => aRes_i (rest := []) ?_))
          · refine R_pop rfl rfl ?_
            refine R_goto rfl ?_
            exact R_return rfl (Nat.zero_le _) (Nat.zero_le _) (kc h1 (by
              have hs9 : smS G q9 = setBr G ((q9 / 2 % (2 * qM G)) / 2) false true := (if_neg hev).trans ((if_pos (by rw [hbb]; exact qPb_iff.mpr hpl9)).trans (by rw [hbb, hqb]; rfl))
              rw [hs9]
              exact hP1) f1)
          · refine R_pop rfl rfl ?_
            refine R_goto rfl ?_
            exact R_return rfl (Nat.zero_le _) (Nat.zero_le _) (kc h (by
              have hs9 : smS G q9 = G := (if_neg hev).trans (if_neg (fun q => by rw [hbb] at q; exact hpl9 ⟨by omega, qPb_iff.mp q⟩))
              rw [hs9]
              exact hP) fr.refl)
      · have hev : ¬ q9 % 2 = 1 := by omega
        have hbb : decide ((q9 / 2 % (2 * qM G)) % 2 = 1) = true := decide_eq_true (by omega)
        refine R_iconst rfl ?_
        refine R_goto rfl ?_
        refine R_istore (lv' := [_, _, _, _, _, _]) rfl rfl ?_
        refine R_aload_n rfl rfl ?_
        refine R_getfield rfl rfl (by omega) b0 rfl ?_
        refine R_iload rfl rfl ?_
        refine R_iload rfl rfl ?_
        refine R_aload_n rfl rfl ?_
        refine R_getfield rfl rfl (by omega) b0 rfl ?_
        refine R_getfield rfl rfl (by omega) p0 rfl ?_
        refine R_iload rfl rfl ?_
        refine R_iload rfl rfl ?_
        refine R_vcall rfl rfl ⟨(by omega), hS.rcv⟩ ⟨Nat.le_of_ble_eq_true rfl, Nat.le_of_ble_eq_true rfl, Nat.zero_le _, Nat.zero_le _⟩ (hasBar_T (b := true) hS hG (by omega) ⟨by omega, by omega⟩ (fun z69 hz69 => aRes_i (rest := [_, _, _]) ?_))
        have hb9 : z69 = bI (qB G true ((q9 / 2 % (2 * qM G)) / 2)) := by
          rcases hz69 with ⟨q1, -, -, q2⟩ | ⟨q1, q2⟩
          · have q3 : qB G true ((q9 / 2 % (2 * qM G)) / 2) = true := q2
            rw [q1, q3]
            rfl
          · cases q : qB G true ((q9 / 2 % (2 * qM G)) / 2) with
            | false => exact q1
            | true => exact absurd ⟨by omega, by omega, q⟩ q2
        have hb01 := bI01 (qB G true ((q9 / 2 % (2 * qM G)) / 2))
        rw [← hb9] at hb01
        refine R_ifne rfl ⟨by omega, by omega⟩ (fun c72 => ?_) (fun c72 => ?_)
        · have hqb := bI_t hb9 c72
          refine R_iconst rfl ?_
          refine R_vcall rfl rfl ⟨(by omega), _, p0⟩ ⟨Nat.le_of_ble_eq_true rfl, Nat.le_of_ble_eq_true rfl, Nat.zero_le _, Nat.zero_le _⟩ (changeBar_T (b := true) (v := false) hP.a hG (by omega) ⟨by omega, by omega⟩ (fun _ hpl9 h1 hP1 f1 => aRes_i (rest := []) ?_) (fun hpl9 => aRes_i (rest := []) ?_))
          · refine R_pop rfl rfl ?_
            refine R_goto rfl ?_
            exact R_return rfl (Nat.zero_le _) (Nat.zero_le _) (kc h1 (by
              have hs9 : smS G q9 = setBr G ((q9 / 2 % (2 * qM G)) / 2) true false := (if_neg hev).trans ((if_pos (by rw [hbb]; exact qPb_iff.mpr hpl9)).trans (by rw [hbb, hqb]; rfl))
              rw [hs9]
              exact hP1) f1)
          · refine R_pop rfl rfl ?_
            refine R_goto rfl ?_
            exact R_return rfl (Nat.zero_le _) (Nat.zero_le _) (kc h (by
              have hs9 : smS G q9 = G := (if_neg hev).trans (if_neg (fun q => by rw [hbb] at q; exact hpl9 ⟨by omega, qPb_iff.mp q⟩))
              rw [hs9]
              exact hP) fr.refl)
        · have hqb := bI_f hb9 (by omega)
          refine R_iconst rfl ?_
          refine R_goto rfl ?_
          refine R_vcall rfl rfl ⟨(by omega), _, p0⟩ ⟨Nat.le_of_ble_eq_true rfl, Nat.le_of_ble_eq_true rfl, Nat.zero_le _, Nat.zero_le _⟩ (changeBar_T (b := true) (v := true) hP.a hG (by omega) ⟨by omega, by omega⟩ (fun _ hpl9 h1 hP1 f1 => aRes_i (rest := []) ?_) (fun hpl9 => aRes_i (rest := []) ?_))
          · refine R_pop rfl rfl ?_
            refine R_goto rfl ?_
            exact R_return rfl (Nat.zero_le _) (Nat.zero_le _) (kc h1 (by
              have hs9 : smS G q9 = setBr G ((q9 / 2 % (2 * qM G)) / 2) true true := (if_neg hev).trans ((if_pos (by rw [hbb]; exact qPb_iff.mpr hpl9)).trans (by rw [hbb, hqb]; rfl))
              rw [hs9]
              exact hP1) f1)
          · refine R_pop rfl rfl ?_
            refine R_goto rfl ?_
            exact R_return rfl (Nat.zero_le _) (Nat.zero_le _) (kc h (by
              have hs9 : smS G q9 = G := (if_neg hev).trans (if_neg (fun q => by rw [hbb] at q; exact hpl9 ⟨by omega, qPb_iff.mp q⟩))
              rw [hs9]
              exact hP) fr.refl)
  · exact absurd c13 (by omega)
theorem si_loop {d N n : Nat} {Q : AQ} {x0 : Int64} (hN : 122 ≤ N) (hn99 : n ≤ 99) : ∀ (r k : Nat) (h : AH) (G : Gr) (x : Int64) (zk : Int), k + r = n → zk = k → h 0 = eO 6 [vR 1, vR 8, vR 20, vR 32, vR 116, vR 119] → isPz h 20 G → okG G → (∀ h', isPz h' 20 (smG nxL rnd r x G) → fr h h' 20 12 → ∀ x' z', Run mi_X8_simulate (T (d + 18)) Q 76 [some (vR 0), some (vL x0), none, some (vI n), some (vL x'), none, some (vI z')] [] h' N 0 0) → Run mi_X8_simulate (T (d + 18)) Q 42 [some (vR 0), some (vL x0), none, some (vI n), some (vL x), none, some (vI zk)] [] h N 0 0 := by
  intro r
  induction r using Nat.strongRecOn with
  | ind r ih =>
  intro k h G x zk hr hzk b0 hP hG kc
  obtain ⟨F, Ln, Dn, Ac, Dw, Cl, ⟨p0, hS, -⟩, -⟩ := id hP
  obtain ⟨hm4, hm36⟩ := hG.m
  have hn36 := nE36 hG
  have hW8 := hG.2.2.2.2.1
  obtain ⟨rb, bb0, s0⟩ := hS.e0
  refine R_iload rfl rfl ?_
  refine R_iload_n rfl rfl ?_
  refine R_icmpge rfl ⟨by omega, by omega⟩ ⟨by omega, by omega⟩ (fun c45 => ?_) (fun c45 => ?_)
  · have hr0 : r = 0 := by omega
    subst hr0
    exact kc h hP fr.refl _ _
  · obtain ⟨r, rfl⟩ : ∃ r1, r = r1 + 1 := ⟨r - 1, by omega⟩
    subst hzk
    refine R_lload rfl rfl ?_
    refine R_ldc2_w rfl rfl ?_
    refine R_lmul rfl ?_
    refine R_ldc2_w rfl rfl ?_
    refine R_ladd rfl ?_
    refine R_lstore (lv' := [_, _, _, _, _, _, _]) rfl rfl ?_
    refine R_aload_n rfl rfl ?_
    refine R_lload rfl rfl ?_
    refine R_bipush rfl ?_
    refine R_lushr rfl ?_
    refine R_l2i rfl ?_
    rw [rnd_eq]
    refine R_vcall rfl rfl ⟨(by omega), _, b0⟩ ⟨Nat.le_of_ble_eq_true rfl, Nat.le_of_ble_eq_true rfl, Nat.zero_le _, Nat.zero_le _⟩ (simulateRound_T b0 hP hG hN (q9 := rnd (nxL x)) rfl (rnd_lt _) (fun h1 hP1 f1 => aRes_v (rest := []) ?_))
    have b0x1 := (f1 0 (by omega)).trans b0
    obtain ⟨Fxx1, Lxx1, Dxx1, Axx1, Wxx1, Cxx1, ⟨p0x1, hSx1, -⟩, -⟩ := id hP1
    obtain ⟨rxx1, bxx1, s0x1⟩ := hSx1.e0
    refine R_iinc (lv' := [_, _, _, _, _, _, _]) rfl rfl rfl ?_
    refine R_goto rfl ?_
    rw [smG_S] at kc
    exact ih r (by omega) (k + 1) h1 (smS G (rnd (nxL x))) (nxL x) _ (by omega) (by omega) b0x1 hP1 (sm_ok hG) (fun h2 q1 q2 x9 z9 => kc h2 q1 (f1.trans q2) x9 z9)
theorem simulate_C {d N : Nat} {h : AH} {y : Sy} {Q : AQ} (hF : isFace h y) (hN : 122 ≤ N) {m9 : Int} {x0 : Int64} (hc : inR m9) (hQ : clQ (opSimulate y x0 m9) "java/lang/IllegalArgumentException" "java/lang/IllegalStateException" h N Q) : T (d + 19) 115 [vR 0, vL x0, vI m9] h N Q := by
  obtain ⟨b0, ⟨px, hT⟩, ⟨Gt, hSt⟩, hP, hG, ⟨Gr9, hPt⟩, hM, hSe, hFl, hst⟩ := id hF
  obtain ⟨F, Ln, Dn, Ac, Dw, Cl, ⟨p0, hS, -⟩, -⟩ := id hP
  obtain ⟨hm4, hm36⟩ := hG.m
  have hn36 := nE36 hG
  have hW8 := hG.2.2.2.2.1
  obtain ⟨rb, bb, s0⟩ := hS.e0
  obtain ⟨hc1, hc2⟩ := id hc
  refine T_body (I := mi_X8_simulate) (lv := [_, _, _, _, _, _, _]) rfl (Nat.le_of_ble_eq_true rfl) rfl ?_
  refine R_iload_n rfl rfl ?_
  refine R_iconst rfl ?_
  refine R_icmplt rfl ⟨by omega, by omega⟩ ⟨by decide, by decide⟩ (fun c2 => ?_) (fun c2 => ?_)
  · exact R_throw rfl rfl (Nat.le_of_ble_eq_true rfl) (Nat.le_of_ble_eq_true rfl) (Nat.le_of_ble_eq_true rfl) rfl (clQ_1 (v := 0) hQ (if_neg (by omega)) hF same122)
  · refine R_iload_n rfl rfl ?_
    refine R_bipush rfl ?_
    refine R_icmple rfl ⟨by omega, by omega⟩ ⟨by decide, by decide⟩ (fun c8 => ?_) (fun c8 => ?_)
    · obtain ⟨mm, rfl⟩ := Int.eq_ofNat_of_zero_le (show 0 ≤ m9 by omega)
      have hm99 : mm ≤ 99 := by omega
      have ho : opSimulate y x0 mm = (0, 1000 * ((kpG (smG nxL rnd mm x0 y.1) : Nat) : Int) + 10 * ((nE (smG nxL rnd mm x0 y.1) : Nat) : Int) + (((rdS (smG nxL rnd mm x0 y.1) false 9).1 : Nat) : Int), y) := if_pos (by omega)
      refine R_aload_n rfl rfl ?_
      refine R_getfield rfl rfl (by omega) b0 rfl ?_
      refine R_aload_n rfl rfl ?_
      refine R_getfield rfl rfl (by omega) b0 rfl ?_
      refine R_getfield rfl rfl (by omega) p0 rfl ?_
      refine R_vcall rfl rfl ⟨(by omega), (pa_rcv hPt)⟩ ⟨Nat.le_of_ble_eq_true rfl, Nat.le_of_ble_eq_true rfl, Nat.le_of_ble_eq_true rfl, Nat.le_of_ble_eq_true rfl⟩ (take_T hPt hS hG (by omega) ⟨by omega, by omega⟩ (fun h1 hP1 f1 => aRes_v (rest := []) ?_))
      have hSe1 := isSe_fr hSe (h' := h1) (fun j q1 q2 => f1 j (by omega))
      have hst1 : isStp h1 := ⟨(f1 _ (by omega)).trans hst.1, (f1 _ (by omega)).trans hst.2⟩
      have b0x1 := (f1 0 (by omega)).trans b0
      obtain ⟨Fxx1, Lxx1, Dxx1, Axx1, Wxx1, Cxx1, ⟨p0x1, hSx1, -⟩, -⟩ := id hP1
      obtain ⟨rxx1, bxx1, s0x1⟩ := hSx1.e0
      refine R_lload_n rfl rfl ?_
      refine R_lstore (lv' := [_, _, _, _, _, _, _]) rfl rfl ?_
      refine R_iconst rfl ?_
      refine R_istore (lv' := [_, _, _, _, _, _, _]) rfl rfl ?_
      have hG2 := smG_ok (f := nxL) (g := rnd) mm x0 y.1 hG
      refine si_loop (d := d) hN (n := mm) hm99 mm 0 h1 y.1 x0 _ (Nat.zero_add _) rfl b0x1 hP1 hG (fun h2 hP2 f2 x' z' => ?_)
      have hSe2 := isSe_fr hSe1 (h' := h2) (fun j q1 q2 => f2 j (by omega))
      have hst2 : isStp h2 := ⟨(f2 _ (by omega)).trans hst1.1, (f2 _ (by omega)).trans hst1.2⟩
      have b0x2 := (f2 0 (by omega)).trans b0x1
      obtain ⟨Fxx2, Lxx2, Dxx2, Axx2, Wxx2, Cxx2, ⟨p0x2, hSx2, -⟩, -⟩ := id hP2
      obtain ⟨rxx2, bxx2, s0x2⟩ := hSx2.e0
      refine R_aload_n rfl rfl ?_
      refine R_getfield rfl rfl (by omega) b0x2 rfl ?_
      refine R_aload_n rfl rfl ?_
      refine R_getfield rfl rfl (by omega) b0x2 rfl ?_
      refine R_iconst rfl ?_
      refine R_bipush rfl ?_
      refine R_vcall rfl rfl ⟨(by omega), (se_rcv hSe2)⟩ ⟨Nat.le_of_ble_eq_true rfl, Nat.le_of_ble_eq_true rfl, Nat.zero_le _, Nat.zero_le _⟩ (count_T (em := false) (lim := 9) hP2 hG2 (by omega) (by omega) hst2 hSe2 (by decide) (fun h3 hH3 f3 => aRes_i (rest := []) ?_))
      have hP3 := isPz_fr hP2 (h' := h3) (fun j q1 q2 => f3 j (by omega))
      have b0x3 := (f3 0 (by omega)).trans b0x2
      obtain ⟨Fxx3, Lxx3, Dxx3, Axx3, Wxx3, Cxx3, ⟨p0x3, hSx3, -⟩, -⟩ := id hP3
      obtain ⟨rxx3, bxx3, s0x3⟩ := hSx3.e0
      refine R_istore (lv' := [_, _, _, _, _, _, _]) rfl rfl ?_
      refine R_sipush rfl ?_
      refine R_aload_n rfl rfl ?_
      refine R_getfield rfl rfl (by omega) b0x3 rfl ?_
      refine R_scall rfl rfl ⟨Nat.le_of_ble_eq_true rfl, Nat.le_of_ble_eq_true rfl, Nat.zero_le _, Nat.zero_le _⟩ (countKept_T hP3 hG2 (by omega) (fun z99 hz99 => aRes_i (rest := [_]) ?_))
      refine R_imul rfl ?_
      refine R_bipush rfl ?_
      refine R_aload_n rfl rfl ?_
      refine R_getfield rfl rfl (by omega) b0x3 rfl ?_
      refine R_getfield rfl rfl (by omega) p0x3 rfl ?_
      refine R_imul rfl ?_
      refine R_iadd rfl ?_
      refine R_iload rfl rfl ?_
      refine R_iadd rfl ?_
      exact R_ireturn rfl (fun q => absurd q (by decide)) (Nat.zero_le _) (Nat.zero_le _) (clQ_0 hQ ho (isFace_tr hF hP3.a hH3.se (fun j q1 q2 => (f3 j (by omega)).trans ((f2 j (by omega)).trans (f1 j (by omega))))) (fun j hj => (f3 j (by omega)).trans ((f2 j (by omega)).trans (f1 j (by omega)))) (by rw [hz99]; rfl))
    · exact R_throw rfl rfl (Nat.le_of_ble_eq_true rfl) (Nat.le_of_ble_eq_true rfl) (Nat.le_of_ble_eq_true rfl) rfl (clQ_1 (v := 0) hQ (if_neg (by omega)) hF same122)
