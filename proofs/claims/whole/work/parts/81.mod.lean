/-! ===== the model: simulate ===== -/
theorem msi_step {d N : Nat} {h : AH} {G : Gr} {th tl rm : Int} {Q : AQ} (hM : isMg h G th tl rm) (hG : okG G) (hN : 139 ≤ N) (hW : isWk h) {m9 zk : Int} {x0 x1 : Int64} {q9 : Nat} (hq9 : q9 < 2147483648) {l8 : Option AV} (kc : ∀ h', isMg h' (smS G q9) th tl rm → isWk h' → frW h h' → ∀ l, Run mi_X9_simulate (T (d + 5)) Q 170 [some (vR 122), some (vL x0), none, some (vI m9), some (vL x1), none, some (vI zk), some (vI (q9 : Nat)), l] [] h' N 0 0) : Run mi_X9_simulate (T (d + 5)) Q 74 [some (vR 122), some (vL x0), none, some (vI m9), some (vL x1), none, some (vI zk), some (vI (q9 : Nat)), l8] [] h N 0 0 := by
  obtain ⟨F, D, L, A, W, C, hZ, m11, m12, m13, m14, m15, m16, hE, hA, hW9, hC⟩ := id hM
  obtain ⟨S, m0, m3, hR⟩ := id hZ
  obtain ⟨hr0, hr1, rL, rE, rS, hr110, rWn, rWl, hr167, rNl⟩ := id hR
  have r0 : S (0 : Int).toNat = (qR G : Int) := hr0
  have r1 : S (1 : Int).toNat = (qC G : Int) := hr1
  have r110 : S (110 : Int).toNat = (qW G : Int) := hr110
  have r167 : S (167 : Int).toNat = (qN G : Int) := hr167
  obtain ⟨hm4, hm36⟩ := hG.m
  have hmi := qM_int G
  obtain ⟨⟨hr2, hr6⟩, ⟨hc2, hc6⟩, gL, gB, gW, gWn, gWl, gN, gNl⟩ := id hG
  have hn36 := nE36 hG
  refine R_iload rfl rfl ?_
  refine R_iconst rfl ?_
  refine R_idiv rfl ⟨by omega, by omega, by omega, by omega⟩ ?_
  refine R_iconst rfl ?_
  refine R_aload_n rfl rfl ?_
  refine R_vcall rfl rfl ⟨(by omega), _, m0⟩ ⟨Nat.le_of_ble_eq_true rfl, Nat.le_of_ble_eq_true rfl, Nat.zero_le _, Nat.zero_le _⟩ (mSize_T hZ hG hN (fun z80 hz80 => aRes_i (rest := [_, _]) ?_))
  rw [hz80]
  refine R_imul rfl ?_
  rw [show (2 : Int) * ((qM G : Nat) : Int) = ((2 * qM G : Nat) : Int) by omega]
  have hpm : (q9 : Int) / 2 % ((2 * qM G : Nat) : Int) = (((q9 / 2 % (2 * qM G)) : Nat) : Int) := rfl
  have hpl : (q9 / 2 % (2 * qM G)) < 2 * qM G := Nat.mod_lt _ (by omega)
  refine R_irem rfl ⟨by omega, by omega, by omega, by omega⟩ ?_
  rw [hpm]
  refine R_istore (lv' := [_, _, _, _, _, _, _, _, _]) rfl rfl ?_
  refine R_iload rfl rfl ?_
  refine R_iconst rfl ?_
  refine R_irem rfl ⟨by omega, by omega, by omega, by omega⟩ ?_
  refine R_iconst rfl ?_
  refine R_icmpne rfl ⟨by omega, by omega⟩ ⟨by decide, by decide⟩ (fun c92 => ?_) (fun c92 => ?_)
  · refine R_aload_n rfl rfl ?_
    refine R_iload rfl rfl ?_
    refine R_iconst rfl ?_
    refine R_idiv rfl ⟨by omega, by omega, by omega, by omega⟩ ?_
    refine R_iload rfl rfl ?_
    refine R_iconst rfl ?_
    refine R_irem rfl ⟨by omega, by omega, by omega, by omega⟩ ?_
    refine R_iconst rfl ?_
    refine R_icmpne rfl ⟨by omega, by omega⟩ ⟨by decide, by decide⟩ (fun c135 => ?_) (fun c135 => ?_)
    · have hev : ¬ q9 % 2 = 1 := by omega
      have hbb : decide ((q9 / 2 % (2 * qM G)) % 2 = 1) = false := decide_eq_false (by omega)
      refine R_iconst rfl ?_
      refine R_vcall rfl rfl ⟨(by omega), _, m0⟩ ⟨Nat.le_of_ble_eq_true rfl, Nat.le_of_ble_eq_true rfl, Nat.zero_le _, Nat.zero_le _⟩ (mIsRim_T (b := false) (c := (q9 / 2 % (2 * qM G)) / 2) hZ hG hN (by omega) (by omega) (fun z143 hz143 => aRes_i (rest := []) ?_))
      have h01 := bI01 (!qPb G ((q9 / 2 % (2 * qM G)) / 2) false)
      rw [← hz143] at h01
      refine R_ifne rfl ⟨by omega, by omega⟩ (fun c146 => ?_) (fun c146 => ?_)
      · have hpn : qPb G ((q9 / 2 % (2 * qM G)) / 2) (decide ((q9 / 2 % (2 * qM G)) % 2 = 1)) = false := by
          rw [hbb]
          exact bI_nt hz143 c146
        have hs9 : smS G q9 = G := (if_neg hev).trans (if_neg (fun q => by rw [hpn] at q; cases q))
        first
        | (exact kc h (by rw [hs9]; exact hM) hW frW.refl _)
        | (exact kc _ (by rw [hs9]; exact isMg_G (G := G) ⟨rfl, rfl, rfl, rfl⟩ hM (va_up_self _ _ _) (by rw [show (2 + ((q9 / 2 % qM G : Nat) : Int)).toNat = 2 + q9 / 2 % qM G by omega]; exact rw_let hR hm36 hcl) fr_0) (isWk_fr hW (fun j h1 h2 => va_up_ne _ _ (by omega))) ((fr_0 (a := 124)).w (Or.inl ⟨rfl, rfl⟩)) _)
        | (exact kc h1 (by rw [hs9, ← hbb, hb2]; exact hM1) (isWk_fr hW (fun j h1 h2 => f1 j (by omega))) f1.w _)
      · have hpy : qPb G ((q9 / 2 % (2 * qM G)) / 2) (decide ((q9 / 2 % (2 * qM G)) % 2 = 1)) = true := by
          rw [hbb]
          exact bI_nf hz143 (by omega)
        have hs9 : smS G q9 = setBr G ((q9 / 2 % (2 * qM G)) / 2) (decide ((q9 / 2 % (2 * qM G)) % 2 = 1)) (!qB G (decide ((q9 / 2 % (2 * qM G)) % 2 = 1)) ((q9 / 2 % (2 * qM G)) / 2)) := (if_neg hev).trans (if_pos hpy)
        rw [hbb] at hs9
        refine R_aload_n rfl rfl ?_
        refine R_iload rfl rfl ?_
        refine R_iconst rfl ?_
        refine R_idiv rfl ⟨by omega, by omega, by omega, by omega⟩ ?_
        refine R_iload rfl rfl ?_
        refine R_iconst rfl ?_
        refine R_irem rfl ⟨by omega, by omega, by omega, by omega⟩ ?_
        refine R_iconst rfl ?_
        refine R_icmpne rfl ⟨by omega, by omega⟩ ⟨by decide, by decide⟩ (fun c159 => ?_) (fun c159 => ?_)
        · have hb2 : decide ((q9 / 2 % (2 * qM G)) % 2 = 1) = false := decide_eq_false (by omega)
          have hpb : qPb G ((q9 / 2 % (2 * qM G)) / 2) false = true := by
            rw [hb2] at hpy
            exact hpy
          refine R_iconst rfl ?_
          refine R_vcall rfl rfl ⟨(by omega), _, m0⟩ ⟨Nat.le_of_ble_eq_true rfl, Nat.le_of_ble_eq_true rfl, Nat.zero_le _, Nat.zero_le _⟩ (mChange_T (b := false) (c := (q9 / 2 % (2 * qM G)) / 2) hM.a hG hN (by omega) hpb (fun h1 hM1 f1 => aRes_v (rest := []) ?_))
          first
          | (exact kc h (by rw [hs9]; exact hM) hW frW.refl _)
          | (exact kc _ (by rw [hs9]; exact isMg_G (G := G) ⟨rfl, rfl, rfl, rfl⟩ hM (va_up_self _ _ _) (by rw [show (2 + ((q9 / 2 % qM G : Nat) : Int)).toNat = 2 + q9 / 2 % qM G by omega]; exact rw_let hR hm36 hcl) fr_0) (isWk_fr hW (fun j h1 h2 => va_up_ne _ _ (by omega))) ((fr_0 (a := 124)).w (Or.inl ⟨rfl, rfl⟩)) _)
          | (exact kc h1 (by rw [hs9, ← hbb, hb2]; exact hM1) (isWk_fr hW (fun j h1 h2 => f1 j (by omega))) f1.w _)
        · have hb2 : decide ((q9 / 2 % (2 * qM G)) % 2 = 1) = true := decide_eq_true (by omega)
          have hpb : qPb G ((q9 / 2 % (2 * qM G)) / 2) true = true := by
            rw [hb2] at hpy
            exact hpy
          refine R_iconst rfl ?_
          refine R_goto rfl ?_
          refine R_vcall rfl rfl ⟨(by omega), _, m0⟩ ⟨Nat.le_of_ble_eq_true rfl, Nat.le_of_ble_eq_true rfl, Nat.zero_le _, Nat.zero_le _⟩ (mChange_T (b := true) (c := (q9 / 2 % (2 * qM G)) / 2) hM.a hG hN (by omega) hpb (fun h1 hM1 f1 => aRes_v (rest := []) ?_))
          first
          | (exact kc h (by rw [hs9]; exact hM) hW frW.refl _)
          | (exact kc _ (by rw [hs9]; exact isMg_G (G := G) ⟨rfl, rfl, rfl, rfl⟩ hM (va_up_self _ _ _) (by rw [show (2 + ((q9 / 2 % qM G : Nat) : Int)).toNat = 2 + q9 / 2 % qM G by omega]; exact rw_let hR hm36 hcl) fr_0) (isWk_fr hW (fun j h1 h2 => va_up_ne _ _ (by omega))) ((fr_0 (a := 124)).w (Or.inl ⟨rfl, rfl⟩)) _)
          | (exact kc h1 (by rw [hs9, ← hbb, hb2]; exact hM1) (isWk_fr hW (fun j h1 h2 => f1 j (by omega))) f1.w _)
    · have hev : ¬ q9 % 2 = 1 := by omega
      have hbb : decide ((q9 / 2 % (2 * qM G)) % 2 = 1) = true := decide_eq_true (by omega)
      refine R_iconst rfl ?_
      refine R_goto rfl ?_
      refine R_vcall rfl rfl ⟨(by omega), _, m0⟩ ⟨Nat.le_of_ble_eq_true rfl, Nat.le_of_ble_eq_true rfl, Nat.zero_le _, Nat.zero_le _⟩ (mIsRim_T (b := true) (c := (q9 / 2 % (2 * qM G)) / 2) hZ hG hN (by omega) (by omega) (fun z143 hz143 => aRes_i (rest := []) ?_))
      have h01 := bI01 (!qPb G ((q9 / 2 % (2 * qM G)) / 2) true)
      rw [← hz143] at h01
      refine R_ifne rfl ⟨by omega, by omega⟩ (fun c146 => ?_) (fun c146 => ?_)
      · have hpn : qPb G ((q9 / 2 % (2 * qM G)) / 2) (decide ((q9 / 2 % (2 * qM G)) % 2 = 1)) = false := by
          rw [hbb]
          exact bI_nt hz143 c146
        have hs9 : smS G q9 = G := (if_neg hev).trans (if_neg (fun q => by rw [hpn] at q; cases q))
        first
        | (exact kc h (by rw [hs9]; exact hM) hW frW.refl _)
        | (exact kc _ (by rw [hs9]; exact isMg_G (G := G) ⟨rfl, rfl, rfl, rfl⟩ hM (va_up_self _ _ _) (by rw [show (2 + ((q9 / 2 % qM G : Nat) : Int)).toNat = 2 + q9 / 2 % qM G by omega]; exact rw_let hR hm36 hcl) fr_0) (isWk_fr hW (fun j h1 h2 => va_up_ne _ _ (by omega))) ((fr_0 (a := 124)).w (Or.inl ⟨rfl, rfl⟩)) _)
        | (exact kc h1 (by rw [hs9, ← hbb, hb2]; exact hM1) (isWk_fr hW (fun j h1 h2 => f1 j (by omega))) f1.w _)
      · have hpy : qPb G ((q9 / 2 % (2 * qM G)) / 2) (decide ((q9 / 2 % (2 * qM G)) % 2 = 1)) = true := by
          rw [hbb]
          exact bI_nf hz143 (by omega)
        have hs9 : smS G q9 = setBr G ((q9 / 2 % (2 * qM G)) / 2) (decide ((q9 / 2 % (2 * qM G)) % 2 = 1)) (!qB G (decide ((q9 / 2 % (2 * qM G)) % 2 = 1)) ((q9 / 2 % (2 * qM G)) / 2)) := (if_neg hev).trans (if_pos hpy)
        rw [hbb] at hs9
        refine R_aload_n rfl rfl ?_
        refine R_iload rfl rfl ?_
        refine R_iconst rfl ?_
        refine R_idiv rfl ⟨by omega, by omega, by omega, by omega⟩ ?_
        refine R_iload rfl rfl ?_
        refine R_iconst rfl ?_
        refine R_irem rfl ⟨by omega, by omega, by omega, by omega⟩ ?_
        refine R_iconst rfl ?_
        refine R_icmpne rfl ⟨by omega, by omega⟩ ⟨by decide, by decide⟩ (fun c159 => ?_) (fun c159 => ?_)
        · have hb2 : decide ((q9 / 2 % (2 * qM G)) % 2 = 1) = false := decide_eq_false (by omega)
          have hpb : qPb G ((q9 / 2 % (2 * qM G)) / 2) false = true := by
            rw [hb2] at hpy
            exact hpy
          refine R_iconst rfl ?_
          refine R_vcall rfl rfl ⟨(by omega), _, m0⟩ ⟨Nat.le_of_ble_eq_true rfl, Nat.le_of_ble_eq_true rfl, Nat.zero_le _, Nat.zero_le _⟩ (mChange_T (b := false) (c := (q9 / 2 % (2 * qM G)) / 2) hM.a hG hN (by omega) hpb (fun h1 hM1 f1 => aRes_v (rest := []) ?_))
          first
          | (exact kc h (by rw [hs9]; exact hM) hW frW.refl _)
          | (exact kc _ (by rw [hs9]; exact isMg_G (G := G) ⟨rfl, rfl, rfl, rfl⟩ hM (va_up_self _ _ _) (by rw [show (2 + ((q9 / 2 % qM G : Nat) : Int)).toNat = 2 + q9 / 2 % qM G by omega]; exact rw_let hR hm36 hcl) fr_0) (isWk_fr hW (fun j h1 h2 => va_up_ne _ _ (by omega))) ((fr_0 (a := 124)).w (Or.inl ⟨rfl, rfl⟩)) _)
          | (exact kc h1 (by rw [hs9, ← hbb, hb2]; exact hM1) (isWk_fr hW (fun j h1 h2 => f1 j (by omega))) f1.w _)
        · have hb2 : decide ((q9 / 2 % (2 * qM G)) % 2 = 1) = true := decide_eq_true (by omega)
          have hpb : qPb G ((q9 / 2 % (2 * qM G)) / 2) true = true := by
            rw [hb2] at hpy
            exact hpy
          refine R_iconst rfl ?_
          refine R_goto rfl ?_
          refine R_vcall rfl rfl ⟨(by omega), _, m0⟩ ⟨Nat.le_of_ble_eq_true rfl, Nat.le_of_ble_eq_true rfl, Nat.zero_le _, Nat.zero_le _⟩ (mChange_T (b := true) (c := (q9 / 2 % (2 * qM G)) / 2) hM.a hG hN (by omega) hpb (fun h1 hM1 f1 => aRes_v (rest := []) ?_))
          first
          | (exact kc h (by rw [hs9]; exact hM) hW frW.refl _)
          | (exact kc _ (by rw [hs9]; exact isMg_G (G := G) ⟨rfl, rfl, rfl, rfl⟩ hM (va_up_self _ _ _) (by rw [show (2 + ((q9 / 2 % qM G : Nat) : Int)).toNat = 2 + q9 / 2 % qM G by omega]; exact rw_let hR hm36 hcl) fr_0) (isWk_fr hW (fun j h1 h2 => va_up_ne _ _ (by omega))) ((fr_0 (a := 124)).w (Or.inl ⟨rfl, rfl⟩)) _)
          | (exact kc h1 (by rw [hs9, ← hbb, hb2]; exact hM1) (isWk_fr hW (fun j h1 h2 => f1 j (by omega))) f1.w _)
  · have hs9 : smS G q9 = setL G (q9 / 2 % qM G) (97 + ((q9 / 128 % 3 : Nat) : Int)) := if_pos (by omega)
    refine R_aload_n rfl rfl ?_
    refine R_getfield rfl rfl (by omega) m0 rfl ?_
    refine R_iconst rfl ?_
    refine R_iload rfl rfl ?_
    refine R_iconst rfl ?_
    refine R_idiv rfl ⟨by omega, by omega, by omega, by omega⟩ ?_
    refine R_aload_n rfl rfl ?_
    refine R_vcall rfl rfl ⟨(by omega), _, m0⟩ ⟨Nat.le_of_ble_eq_true rfl, Nat.le_of_ble_eq_true rfl, Nat.zero_le _, Nat.zero_le _⟩ (mSize_T hZ hG hN (fun z105 hz105 => aRes_i (rest := [_, _, _]) ?_))
    rw [hz105]
    refine R_irem rfl ⟨by omega, by omega, by omega, by omega⟩ ?_
    have hcm : (q9 : Int) / 2 % ((qM G : Nat) : Int) = ((q9 / 2 % qM G : Nat) : Int) := rfl
    have hcl : q9 / 2 % qM G < qM G := Nat.mod_lt _ (by omega)
    rw [hcm]
    refine R_iadd rfl ?_
    refine R_bipush rfl ?_
    refine R_iload rfl rfl ?_
    refine R_sipush rfl ?_
    refine R_idiv rfl ⟨by omega, by omega, by omega, by omega⟩ ?_
    refine R_iconst rfl ?_
    refine R_irem rfl ⟨by omega, by omega, by omega, by omega⟩ ?_
    refine R_iadd rfl ?_
    refine R_iastore rfl (by omega) m3 ⟨by omega, by omega, by omega⟩ ?_
    refine R_goto rfl ?_
    first
    | (exact kc h (by rw [hs9]; exact hM) hW frW.refl _)
    | (exact kc _ (by rw [hs9]; exact isMg_G (G := G) ⟨rfl, rfl, rfl, rfl⟩ hM (va_up_self _ _ _) (by rw [show (2 + ((q9 / 2 % qM G : Nat) : Int)).toNat = 2 + q9 / 2 % qM G by omega]; exact rw_let hR hm36 hcl) fr_0) (isWk_fr hW (fun j h1 h2 => va_up_ne _ _ (by omega))) ((fr_0 (a := 124)).w (Or.inl ⟨rfl, rfl⟩)) _)
    | (exact kc h1 (by rw [hs9, ← hbb, hb2]; exact hM1) (isWk_fr hW (fun j h1 h2 => f1 j (by omega))) f1.w _)
theorem msi_loop {d N : Nat} {th tl rm : Int} {Q : AQ} (hN : 139 ≤ N) {n : Nat} {x0 : Int64} : ∀ (r k : Nat) (h : AH) (G : Gr) (x : Int64) (zk : Int) (l7 l8 : Option AV), k + r = n → zk = k → isMg h G th tl rm → okG G → isWk h → (∀ h', isMg h' (smG nxL rnd r x G) th tl rm → isWk h' → frW h h' → ∀ l7' l8' x' z', Run mi_X9_simulate (T (d + 5)) Q 176 [some (vR 122), some (vL x0), none, some (vI n), some (vL x'), none, some (vI z'), l7', l8'] [] h' N 0 0) → n ≤ 99 → Run mi_X9_simulate (T (d + 5)) Q 48 [some (vR 122), some (vL x0), none, some (vI n), some (vL x), none, some (vI zk), l7, l8] [] h N 0 0 := by
  intro r
  induction r using Nat.strongRecOn with
  | ind r ih =>
  intro k h G x zk l7 l8 hr hzk hM hG hW kc hn99
  obtain ⟨F, D, L, A, W, C, hZ, m11, m12, m13, m14, m15, m16, hE, hA, hW9, hC⟩ := id hM
  obtain ⟨S, m0, m3, hR⟩ := id hZ
  obtain ⟨hr0, hr1, rL, rE, rS, hr110, rWn, rWl, hr167, rNl⟩ := id hR
  have r0 : S (0 : Int).toNat = (qR G : Int) := hr0
  have r1 : S (1 : Int).toNat = (qC G : Int) := hr1
  have r110 : S (110 : Int).toNat = (qW G : Int) := hr110
  have r167 : S (167 : Int).toNat = (qN G : Int) := hr167
  obtain ⟨hm4, hm36⟩ := hG.m
  have hmi := qM_int G
  obtain ⟨⟨hr2, hr6⟩, ⟨hc2, hc6⟩, gL, gB, gW, gWn, gWl, gN, gNl⟩ := id hG
  have hn36 := nE36 hG
  refine R_iload rfl rfl ?_
  refine R_iload_n rfl rfl ?_
  refine R_icmpge rfl ⟨by omega, by omega⟩ ⟨by omega, by omega⟩ (fun c51 => ?_) (fun c51 => ?_)
  · have hr0 : r = 0 := by omega
    subst hr0
    exact kc h hM hW frW.refl _ _ _ _
  · obtain ⟨r, rfl⟩ : ∃ r1, r = r1 + 1 := ⟨r - 1, by omega⟩
    subst hzk
    refine R_lload rfl rfl ?_
    refine R_ldc2_w rfl rfl ?_
    refine R_lmul rfl ?_
    refine R_ldc2_w rfl rfl ?_
    refine R_ladd rfl ?_
    refine R_lstore (lv' := [_, _, _, _, _, _, _, _, _]) rfl rfl ?_
    refine R_lload rfl rfl ?_
    refine R_bipush rfl ?_
    refine R_lushr rfl ?_
    refine R_l2i rfl ?_
    rw [rnd_eq]
    refine R_istore (lv' := [_, _, _, _, _, _, _, _, _]) rfl rfl ?_
    rw [smG_S] at kc
    refine msi_step hM hG hN hW (q9 := rnd (nxL x)) (rnd_lt _) (fun h1 hM1 hW1 f1 l => ?_)
    refine R_iinc (lv' := [_, _, _, _, _, _, _, _, _]) rfl rfl rfl ?_
    refine R_goto rfl ?_
    exact ih r (by omega) (k + 1) h1 (smS G (rnd (nxL x))) (nxL x) _ _ _ (by omega) (by omega) hM1 (sm_ok hG) hW1 (fun h2 q1 q2 q3 l7 l8 x9 z9 => kc h2 q1 q2 (f1.trans q3) l7 l8 x9 z9) hn99
theorem mSimulate_T {d N : Nat} {h : AH} {th : Int} {Q : AQ} {G : Gr} {hist : List Gr} {sl : Nat → Option Gr} {n : Nat} {tx : Nat → Int} (hY : isMo h (G, hist, sl, n, tx) th) (hN : 139 ≤ N) {m9 : Int} {x0 : Int64} (hc : inR m9) (hQ : moQ (opSimulate (G, hist, sl, n, tx) x0 m9) h N Q) : T (d + 6) 201 [vR 122, vL x0, vI m9] h N Q := by
  obtain ⟨hM, hG, hT, hHi, hSv, hRw⟩ := id hY
  have hM : isMg h G th n hist.length := hM
  have hG : okG G := hG
  have hT : isMt h n tx := hT
  have hHi : isHi h hist := hHi
  have hSv : isSv h sl := hSv
  obtain ⟨F, D, L, A, W, C, hZ, m11, m12, m13, m14, m15, m16, hE, hA, hW, hC⟩ := id hM
  obtain ⟨S, m0, m3, hR⟩ := id hZ
  obtain ⟨hr0, hr1, rL, rE, rS, hr110, rWn, rWl, hr167, rNl⟩ := id hR
  have r0 : S (0 : Int).toNat = (qR G : Int) := hr0
  have r1 : S (1 : Int).toNat = (qC G : Int) := hr1
  have r110 : S (110 : Int).toNat = (qW G : Int) := hr110
  have r167 : S (167 : Int).toNat = (qN G : Int) := hr167
  obtain ⟨hm4, hm36⟩ := hG.m
  have hmi := qM_int G
  obtain ⟨⟨hr2, hr6⟩, ⟨hc2, hc6⟩, gL, gB, gW, gWn, gWl, gN, gNl⟩ := id hG
  have hn36 := nE36 hG
  obtain ⟨tf, m1, hn150, htf⟩ := id hT
  obtain ⟨hc1, hc2⟩ := hc
  obtain ⟨x9D, m5⟩ := hRw.2.1
  refine T_body (I := mi_X9_simulate) (lv := [_, _, _, _, _, _, _, _, _]) rfl (Nat.le_of_ble_eq_true rfl) rfl ?_
  refine R_aload_n rfl rfl ?_
  refine R_iload_n rfl rfl ?_
  refine R_iconst rfl ?_
  refine R_icmplt rfl ⟨by omega, by omega⟩ ⟨by decide, by decide⟩ (fun c3 => ?_) (fun c3 => ?_)
  · have ho : opSimulate (G, hist, sl, n, tx) x0 m9 = (0 + 1, 0, (G, hist, sl, n, tx)) := if_neg (by omega)
    refine R_iconst rfl ?_
    refine R_goto rfl ?_
    refine R_putfield rfl rfl (by omega) m0 (Nat.le_of_ble_eq_true rfl) (by first | trivial | exact trivial | omega) ?_
    refine R_aload_n rfl rfl ?_
    refine R_getfield rfl rfl (by omega) (va_up_self _ _ _) rfl ?_
    refine R_ifle rfl ⟨by decide, by decide⟩ (fun c0 => absurd c0 (by decide)) (fun _ => ?_)
    refine R_iconst rfl ?_
    exact R_ireturn rfl (fun q => absurd q (by decide)) (Nat.zero_le _) (Nat.zero_le _) (moQ_t hQ ho rfl (isMo_th hY) (fr_up fr.refl (by omega)))
  · refine R_iload_n rfl rfl ?_
    refine R_bipush rfl ?_
    refine R_icmple rfl ⟨by omega, by omega⟩ ⟨by decide, by decide⟩ (fun c9 => ?_) (fun c9 => ?_)
    · obtain ⟨mm, rfl⟩ := Int.eq_ofNat_of_zero_le (show 0 ≤ m9 by omega)
      have hm99 : mm ≤ 99 := by omega
      have ho : opSimulate (G, hist, sl, n, tx) x0 mm = (0, 1000 * ((kpG (smG nxL rnd mm x0 G) : Nat) : Int) + 10 * ((nE (smG nxL rnd mm x0 G) : Nat) : Int) + (((rdS (smG nxL rnd mm x0 G) false 9).1 : Nat) : Int), (G, hist, sl, n, tx)) := if_pos (by omega)
      refine R_iconst rfl ?_
      refine R_putfield rfl rfl (by omega) m0 (Nat.le_of_ble_eq_true rfl) (by first | trivial | exact trivial | omega) ?_
      refine R_aload_n rfl rfl ?_
      refine R_getfield rfl rfl (by omega) (va_up_self _ _ _) rfl ?_
      refine R_ifle rfl ⟨by decide, by decide⟩ (fun _ => ?_) (fun c0 => absurd c0 (by decide))
      refine R_aload_n rfl rfl ?_
      refine R_getfield rfl rfl (by omega) (va_up_self _ _ _) rfl ?_
      refine R_iconst rfl ?_
      refine R_aload_n rfl rfl ?_
      refine R_getfield rfl rfl (by omega) (va_up_self _ _ _) rfl ?_
      refine R_iconst rfl ?_
      refine R_scall rfl rfl ⟨Nat.le_of_ble_eq_true rfl, Nat.le_of_ble_eq_true rfl, Nat.zero_le _, Nat.zero_le _⟩ (mMove_T (s := 0) (t := 0) (by omega) (by omega) (by decide) (by decide) (by decide) (by decide) (by decide) ((va_up_ne _ _ (by first | exact kne rfl | exact kz | exact kz.symm | omega)).trans m3) ((va_up_ne _ _ (by decide)).trans m5) rfl rfl (fun h2 g2 e2 w1 w2 f2 => aRes_v (rest := []) ?_))
      refine R_lload_n rfl rfl ?_
      refine R_lstore (lv' := [_, _, _, _, _, _, _, _, _]) rfl rfl ?_
      refine R_iconst rfl ?_
      refine R_istore (lv' := [_, _, _, _, _, _, _, _, _]) rfl rfl ?_
      have hM2 : isMg h2 G 0 n hist.length := isMg_fr (isMg_o (th' := 0) (tl' := n) (rm' := hist.length) hM) (fun j hj => f2 j (by omega))
      have hW2 : isWk h2 := isWk_fr (isMo_th (th' := 0) hY).wk (fun j h1 h2 => f2 j (by omega))
      have hG3 := smG_ok (f := nxL) (g := rnd) mm x0 G hG
      refine msi_loop hN (n := mm) mm 0 h2 G x0 _ _ _ (Nat.zero_add _) rfl hM2 hG hW2 (fun h3 x9M x9W x9f l7' l8' x' z' => ?_) hm99
      obtain ⟨S9, x9m0, x9m3, x9R⟩ := id x9M.z
      have x9e : h3 126 = eI 174 g2 := (x9f _ (by decide)).trans e2
      refine R_sipush rfl ?_
      refine R_aload_n rfl rfl ?_
      refine R_vcall rfl rfl ⟨(by omega), _, x9m0⟩ ⟨Nat.le_of_ble_eq_true rfl, Nat.le_of_ble_eq_true rfl, Nat.zero_le _, Nat.zero_le _⟩ (mKept_T x9M hG3 hN x9W.1 (fun h6 hE6 f6 z180 hz180 => aRes_i (rest := [_]) ?_))
      have hM6 := isMg_f x9M f6 (by decide)
      have hW6 := isWk_re x9W hE6 f6
      obtain ⟨S6, z9m0, -⟩ := id hM6.z
      refine R_imul rfl ?_
      refine R_bipush rfl ?_
      refine R_aload_n rfl rfl ?_
      refine R_getfield rfl rfl (by omega) z9m0 rfl ?_
      refine R_imul rfl ?_
      refine R_iadd rfl ?_
      refine R_aload_n rfl rfl ?_
      refine R_iconst rfl ?_
      refine R_bipush rfl ?_
      refine R_vcall rfl rfl ⟨(by omega), _, z9m0⟩ ⟨Nat.le_of_ble_eq_true rfl, Nat.le_of_ble_eq_true rfl, Nat.zero_le _, Nat.zero_le _⟩ (mCount_T (em := false) (most := 9) hM6 hG3 hN hW6.2.1 hW6.2.2 (by decide) (fun h7 X7 F7 e7 e8 hok f7 => aRes_i (rest := [_]) ?_))
      have x9M7 := isMg_f hM6 f7 (by decide)
      have x9W7 : isWk h7 := ⟨isRe_fr hW6.1 (f7 _ (by omega)), ⟨X7, e7⟩, F7, e8⟩
      obtain ⟨S7, w9m0, w9m3, w9R⟩ := id x9M7.z
      have w9e : h7 126 = eI 174 g2 := (f7 _ (by omega)).trans ((f6 _ (by omega)).trans x9e)
      refine R_iadd rfl ?_
      refine R_istore (lv' := [_, _, _, _, _, _, _, _, _]) rfl rfl ?_
      refine R_aload_n rfl rfl ?_
      refine R_getfield rfl rfl (by omega) w9m0 rfl ?_
      refine R_iconst rfl ?_
      refine R_aload_n rfl rfl ?_
      refine R_getfield rfl rfl (by omega) w9m0 rfl ?_
      refine R_iconst rfl ?_
      refine R_scall rfl rfl ⟨Nat.le_of_ble_eq_true rfl, Nat.le_of_ble_eq_true rfl, Nat.zero_le _, Nat.zero_le _⟩ (mMove_T (s := 0) (t := 0) (by omega) (by omega) (by decide) (by decide) (by decide) (by decide) (by decide) w9e w9m3 rfl rfl (fun h4 g4 e4 w3 w4 f4 => aRes_v (rest := []) ?_))
      refine R_aload_n rfl rfl ?_
      refine R_vcall rfl rfl ⟨(by omega), _, ((f4 _ (by omega)).trans w9m0)⟩ ⟨Nat.le_of_ble_eq_true rfl, Nat.le_of_ble_eq_true rfl, Nat.zero_le _, Nat.zero_le _⟩ (mFindEntries_T (isMa_st x9M7.a e4 (rw_congr hR hG (fun k2 hk2 => (congrArg g4 (Nat.zero_add k2).symm).trans ((w3 k2 hk2).trans ((w1 k2 hk2).trans (congrArg S (Nat.zero_add k2)))))) (fun j hj => f4 j (by omega))) hG hN (fun h5 hM5 f5 => aRes_v (rest := []) ?_))
      obtain ⟨S5, y9m0, -⟩ := id hM5.z
      refine R_iload rfl rfl ?_
      exact R_ireturn rfl (fun q => absurd q (by decide)) (Nat.zero_le _) (Nat.zero_le _) (moQ_v hQ ho (isMo_w2 hY hM5 (isWk_fr (isWk_fr x9W7 (fun j h1 h2 => f4 j (by omega))) (fun j h1 h2 => f5 j (by omega))) ((f5 _ (by decide)).trans ((f4 _ (by omega)).trans w9e)) (fun j hj => (f5 j (by omega)).trans ((f4 j (by omega)).trans ((f7 j (by omega)).trans ((f6 j (by omega)).trans ((x9f j (by omega)).trans ((f2 j (by omega)).trans (va_up_ne _ _ (by omega))))))))) (fun j hj => (f5 j (by omega)).trans ((f4 j (by omega)).trans ((f7 j (by omega)).trans ((f6 j (by omega)).trans ((x9f j (by omega)).trans ((f2 j (by omega)).trans (va_up_ne _ _ (by omega)))))))) (by rw [hz180]))
    · have ho : opSimulate (G, hist, sl, n, tx) x0 m9 = (0 + 1, 0, (G, hist, sl, n, tx)) := if_neg (by omega)
      refine R_iconst rfl ?_
      refine R_goto rfl ?_
      refine R_putfield rfl rfl (by omega) m0 (Nat.le_of_ble_eq_true rfl) (by first | trivial | exact trivial | omega) ?_
      refine R_aload_n rfl rfl ?_
      refine R_getfield rfl rfl (by omega) (va_up_self _ _ _) rfl ?_
      refine R_ifle rfl ⟨by decide, by decide⟩ (fun c0 => absurd c0 (by decide)) (fun _ => ?_)
      refine R_iconst rfl ?_
      exact R_ireturn rfl (fun q => absurd q (by decide)) (Nat.zero_le _) (Nat.zero_le _) (moQ_t hQ ho rfl (isMo_th hY) (fr_up fr.refl (by omega)))
