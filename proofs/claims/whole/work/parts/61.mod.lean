/-! ===== the model: words, fits, letters, texts ===== -/
theorem mLetterOf_T {d N : Nat} {h : AH} {G : Gr} {th tl rm en : Int} {Q : AQ} (hZ : isM0 h G th tl rm en) (hG : okG G) (hN : 139 ≤ N) {w i : Nat} {wz iz : Int} (hwz : wz = w) (hiz : iz = i) (hw : w < qW G) (hi : i < qWn G w) (hQ : ∀ z : Int, z = qWl G w i → Q (.inl (some (vI z))) h N) : T (d + 1) 157 [vR 122, vI wz, vI iz] h N Q := by
  obtain ⟨S, m0, m3, hR⟩ := id hZ
  obtain ⟨hr0, hr1, rL, rE, rS, hr110, rWn, rWl, hr167, rNl⟩ := id hR
  have r0 : S (0 : Int).toNat = (qR G : Int) := hr0
  have r1 : S (1 : Int).toNat = (qC G : Int) := hr1
  have r110 : S (110 : Int).toNat = (qW G : Int) := hr110
  have r167 : S (167 : Int).toNat = (qN G : Int) := hr167
  obtain ⟨hm4, hm36⟩ := hG.m
  have hmi := qM_int G
  obtain ⟨⟨hr2, hr6⟩, ⟨hc2, hc6⟩, gL, gB, gW, gWn, gWl, gN, gNl⟩ := id hG
  subst hwz
  subst hiz
  have hwn := gWn w hw
  refine T_body (I := mi_X9_letterOf) (lv := [_, _, _]) rfl (Nat.le_of_ble_eq_true rfl) rfl ?_
  refine R_aload_n rfl rfl ?_
  refine R_getfield rfl rfl (by omega) m0 rfl ?_
  refine R_bipush rfl ?_
  refine R_bipush rfl ?_
  refine R_iload_n rfl rfl ?_
  refine R_imul rfl ?_
  refine R_iadd rfl ?_
  refine R_iload_n rfl rfl ?_
  refine R_iadd rfl ?_
  refine R_iaload rfl (Or.inl (by omega)) m3 ⟨by omega, by omega, by omega⟩ ?_
  exact R_ireturn rfl (fun q => absurd q (by decide)) (Nat.zero_le _) (Nat.zero_le _) (hQ _ (by rw [show (119 + 6 * (w : Int) + (i : Int)).toNat = 119 + 6 * w + i by omega]; exact rWl w i hw hi))
theorem mIsWord_T {d N : Nat} {h : AH} {G : Gr} {th tl rm en : Int} {Q : AQ} (hZ : isM0 h G th tl rm en) (hG : okG G) (hN : 139 ≤ N) {c : Int} (hc : inR c) (hQ : ∀ z : Int, (z = 1 ∧ 0 ≤ c ∧ c < qW G) ∨ (z = 0 ∧ ¬ (0 ≤ c ∧ c < qW G)) → Q (.inl (some (vI z))) h N) : T (d + 1) 156 [vR 122, vI c] h N Q := by
  obtain ⟨S, m0, m3, hR⟩ := id hZ
  obtain ⟨hr0, hr1, rL, rE, rS, hr110, rWn, rWl, hr167, rNl⟩ := id hR
  have r0 : S (0 : Int).toNat = (qR G : Int) := hr0
  have r1 : S (1 : Int).toNat = (qC G : Int) := hr1
  have r110 : S (110 : Int).toNat = (qW G : Int) := hr110
  have r167 : S (167 : Int).toNat = (qN G : Int) := hr167
  obtain ⟨hm4, hm36⟩ := hG.m
  have hmi := qM_int G
  obtain ⟨⟨hr2, hr6⟩, ⟨hc2, hc6⟩, gL, gB, gW, gWn, gWl, gN, gNl⟩ := id hG
  obtain ⟨hc1, hc2⟩ := hc
  refine T_body (I := mi_X9_isWord) (lv := [_, _]) rfl (Nat.le_of_ble_eq_true rfl) rfl ?_
  refine R_iload_n rfl rfl ?_
  refine R_iflt rfl ⟨by omega, by omega⟩ (fun c1 => ?_) (fun c1 => ?_)
  · refine R_iconst rfl ?_
    exact R_ireturn rfl (fun _ => by omega) (Nat.zero_le _) (Nat.zero_le _) (hQ _ (by omega))
  · refine R_iload_n rfl rfl ?_
    refine R_aload_n rfl rfl ?_
    refine R_getfield rfl rfl (by omega) m0 rfl ?_
    refine R_bipush rfl ?_
    refine R_iaload rfl (Or.inl (by omega)) m3 ⟨by omega, by omega, by omega⟩ ?_
    rw [r110]
    refine R_icmpge rfl ⟨by omega, by omega⟩ ⟨by omega, by omega⟩ (fun c12 => ?_) (fun c12 => ?_)
    · refine R_iconst rfl ?_
      exact R_ireturn rfl (fun _ => by omega) (Nat.zero_le _) (Nat.zero_le _) (hQ _ (by omega))
    · refine R_iconst rfl ?_
      refine R_goto rfl ?_
      exact R_ireturn rfl (fun _ => by omega) (Nat.zero_le _) (Nat.zero_le _) (hQ _ (by omega))
theorem mft_0 {d N : Nat} {h : AH} {G : Gr} {th tl rm : Int} {Q : AQ} (hM : isMg h G th tl rm) (hG : okG G) (hN : 139 ≤ N) {e : Nat} (he : e < nE G) {w : Nat} {zi : Int} {l5 : Option AV} (hzi : inR zi) (hQ : ∀ z : Int, z = 0 → Q (.inl (some (vI z))) h N) : Run mi_X9_isFitting (T (d + 1)) Q 27 [some (vR 122), some (vI e), some (vI w), some (vI 0), some (vI zi), l5] [] h N 0 0 := by
  obtain ⟨hz1, hz2⟩ := hzi
  obtain ⟨F, D, L, A, W, C, hZ, m11, m12, m13, m14, m15, m16, hE, hA, hW, hC⟩ := id hM
  obtain ⟨S, m0, m3, hR⟩ := id hZ
  obtain ⟨hr0, hr1, rL, rE, rS, hr110, rWn, rWl, hr167, rNl⟩ := id hR
  have r0 : S (0 : Int).toNat = (qR G : Int) := hr0
  have r1 : S (1 : Int).toNat = (qC G : Int) := hr1
  have r110 : S (110 : Int).toNat = (qW G : Int) := hr110
  have r167 : S (167 : Int).toNat = (qN G : Int) := hr167
  obtain ⟨hm4, hm36⟩ := hG.m
  have hmi := qM_int G
  obtain ⟨⟨hr2, hr6⟩, ⟨hc2, hc6⟩, gL, gB, gW, gWn, gWl, gN, gNl⟩ := id hG
  have hn36 := nE36 hG
  obtain ⟨hF9, hL9, hD9⟩ := hE _ _ _ (ents_get he)
  have hF1 : F ((e : Int)).toNat = (eC G e : Int) := hF9
  have hL1 : L ((e : Int)).toNat = (eN G e : Int) := hL9
  have hD1 : D ((e : Int)).toNat = bI (eB G e) := hD9
  have hD01 : D ((e : Int)).toNat = 0 ∨ D ((e : Int)).toNat = 1 := by
    rw [hD1]
    exact bI01 _
  have he6 := eN_6 hG he
  refine R_iload rfl rfl ?_
  refine R_aload_n rfl rfl ?_
  refine R_getfield rfl rfl (by omega) m0 rfl ?_
  refine R_iload_n rfl rfl ?_
  refine R_iaload rfl (Or.inl (by omega)) m13 ⟨by omega, by omega, by omega⟩ ?_
  refine R_icmpge rfl ⟨by omega, by omega⟩ ⟨by omega, by omega⟩ (fun c35 => ?_) (fun c35 => ?_)
  · refine R_iload_n rfl rfl ?_
    exact R_ireturn rfl (fun _ => by omega) (Nat.zero_le _) (Nat.zero_le _) (hQ 0 rfl)
  · refine R_iload_n rfl rfl ?_
    refine R_ifeq rfl ⟨by decide, by decide⟩ (fun _ => ?_) (fun c0 => absurd c0 (by decide))
    refine R_iload_n rfl rfl ?_
    exact R_ireturn rfl (fun _ => by omega) (Nat.zero_le _) (Nat.zero_le _) (hQ 0 rfl)
theorem mft_loop {d N : Nat} {h : AH} {G : Gr} {th tl rm : Int} {Q : AQ} (hM : isMg h G th tl rm) (hG : okG G) (hN : 139 ≤ N) {e : Nat} (he : e < nE G) {w : Nat} (hw : w < qW G) (hl : eN G e = qWn G w) : ∀ (r i : Nat) (zi : Int) (l5 : Option AV), i + r = eN G e → zi = i → (∀ z : Int, z = bI (alF (pFt G e w) r i) → Q (.inl (some (vI z))) h N) → Run mi_X9_isFitting (T (d + 1)) Q 27 [some (vR 122), some (vI e), some (vI w), some (vI 1), some (vI zi), l5] [] h N 0 0 := by
  obtain ⟨F, D, L, A, W, C, hZ, m11, m12, m13, m14, m15, m16, hE, hA, hW, hC⟩ := id hM
  obtain ⟨S, m0, m3, hR⟩ := id hZ
  obtain ⟨hr0, hr1, rL, rE, rS, hr110, rWn, rWl, hr167, rNl⟩ := id hR
  have r0 : S (0 : Int).toNat = (qR G : Int) := hr0
  have r1 : S (1 : Int).toNat = (qC G : Int) := hr1
  have r110 : S (110 : Int).toNat = (qW G : Int) := hr110
  have r167 : S (167 : Int).toNat = (qN G : Int) := hr167
  obtain ⟨hm4, hm36⟩ := hG.m
  have hmi := qM_int G
  obtain ⟨⟨hr2, hr6⟩, ⟨hc2, hc6⟩, gL, gB, gW, gWn, gWl, gN, gNl⟩ := id hG
  have hn36 := nE36 hG
  obtain ⟨hF9, hL9, hD9⟩ := hE _ _ _ (ents_get he)
  have hF1 : F ((e : Int)).toNat = (eC G e : Int) := hF9
  have hL1 : L ((e : Int)).toNat = (eN G e : Int) := hL9
  have hD1 : D ((e : Int)).toNat = bI (eB G e) := hD9
  have hD01 : D ((e : Int)).toNat = 0 ∨ D ((e : Int)).toNat = 1 := by
    rw [hD1]
    exact bI01 _
  have he6 := eN_6 hG he
  intro r
  induction r using Nat.strongRecOn with
  | ind r ih =>
  intro i zi l5 hr hzi hQ
  refine R_iload rfl rfl ?_
  refine R_aload_n rfl rfl ?_
  refine R_getfield rfl rfl (by omega) m0 rfl ?_
  refine R_iload_n rfl rfl ?_
  refine R_iaload rfl (Or.inl (by omega)) m13 ⟨by omega, by omega, by omega⟩ ?_
  refine R_icmpge rfl ⟨by omega, by omega⟩ ⟨by omega, by omega⟩ (fun c35 => ?_) (fun c35 => ?_)
  · have hr0 : r = 0 := by omega
    subst hr0
    refine R_iload_n rfl rfl ?_
    exact R_ireturn rfl (fun _ => by omega) (Nat.zero_le _) (Nat.zero_le _) (hQ 1 rfl)
  · obtain ⟨r, rfl⟩ : ∃ r1, r = r1 + 1 := ⟨r - 1, by omega⟩
    refine R_iload_n rfl rfl ?_
    refine R_ifeq rfl ⟨by decide, by decide⟩ (fun c0 => absurd c0 (by decide)) (fun _ => ?_)
    refine R_aload_n rfl rfl ?_
    refine R_getfield rfl rfl (by omega) m0 rfl ?_
    refine R_iconst rfl ?_
    refine R_aload_n rfl rfl ?_
    refine R_iload_n rfl rfl ?_
    refine R_iload rfl rfl ?_
    refine R_vcall rfl rfl ⟨(by omega), _, m0⟩ ⟨Nat.le_of_ble_eq_true rfl, Nat.le_of_ble_eq_true rfl, Nat.zero_le _, Nat.zero_le _⟩ (mCellOf_T (i := i) hM hG hN rfl he (by omega) (fun z51 hz51 => aRes_i (rest := [_, _]) ?_))
    have hcl := cel_lt hG he (i := i) (by omega)
    have hLt : S (2 + z51).toNat = qL G (cel G e i) := by
      rw [show (2 + z51).toNat = 2 + cel G e i by omega]
      exact rL _ hcl
    have hlr : 0 ≤ S (2 + z51).toNat ∧ S (2 + z51).toNat ≤ 122 := by
      rw [hLt]
      rcases gL _ hcl with q | ⟨q1, q2⟩ <;> omega
    refine R_iadd rfl ?_
    refine R_iaload rfl (Or.inl (by omega)) m3 ⟨by omega, by omega, by omega⟩ ?_
    refine R_istore (lv' := [_, _, _, _, _, _]) rfl rfl ?_
    refine R_iload rfl rfl ?_
    refine R_ifeq rfl ⟨by omega, by omega⟩ (fun c60 => ?_) (fun c60 => ?_)
    · have hp : pFt G e w i = true := by
        unfold pFt
        rw [decide_eq_true (show qL G (cel G e i) = 0 by omega)]
        rfl
      refine R_iconst rfl ?_
      refine R_goto rfl ?_
      refine R_istore_n (lv' := [_, _, _, _, _, _]) rfl rfl ?_
      refine R_iinc (lv' := [_, _, _, _, _, _]) rfl rfl rfl ?_
      refine R_goto rfl ?_
      exact ih r (by omega) (i + 1) _ _ (by omega) (by omega) (fun z hz => hQ z (hz.trans (congrArg bI (al_skip (p := pFt G e w) hp))))
    · refine R_iload rfl rfl ?_
      refine R_aload_n rfl rfl ?_
      refine R_iload_n rfl rfl ?_
      refine R_iload rfl rfl ?_
      refine R_vcall rfl rfl ⟨(by omega), _, m0⟩ ⟨Nat.le_of_ble_eq_true rfl, Nat.le_of_ble_eq_true rfl, Nat.zero_le _, Nat.zero_le _⟩ (mLetterOf_T (w := w) (i := i) hZ hG hN (by omega) (by omega) hw (by omega) (fun z69 hz69 => aRes_i (rest := [_]) ?_))
      have hwl : 97 ≤ qWl G w i ∧ qWl G w i ≤ 122 := gWl w i hw (by omega)
      refine R_icmpne rfl ⟨by omega, by omega⟩ ⟨by omega, by omega⟩ (fun c72 => ?_) (fun c72 => ?_)
      · have hp : pFt G e w i = false := by
          unfold pFt
          rw [decide_eq_false (show ¬ qL G (cel G e i) = 0 by omega), decide_eq_false (show ¬ qL G (cel G e i) = qWl G w i by omega)]
          rfl
        refine R_iconst rfl ?_
        refine R_istore_n (lv' := [_, _, _, _, _, _]) rfl rfl ?_
        refine R_iinc (lv' := [_, _, _, _, _, _]) rfl rfl rfl ?_
        refine R_goto rfl ?_
        exact mft_0 hM hG hN he ⟨by omega, by omega⟩ (fun z hz => hQ z (hz.trans (congrArg bI (al_hit (p := pFt G e w) hp))))
      · have hp : pFt G e w i = true := by
          unfold pFt
          rw [decide_eq_true (show qL G (cel G e i) = qWl G w i by omega), Bool.or_true]
        refine R_iconst rfl ?_
        refine R_goto rfl ?_
        refine R_istore_n (lv' := [_, _, _, _, _, _]) rfl rfl ?_
        refine R_iinc (lv' := [_, _, _, _, _, _]) rfl rfl rfl ?_
        refine R_goto rfl ?_
        exact ih r (by omega) (i + 1) _ _ (by omega) (by omega) (fun z hz => hQ z (hz.trans (congrArg bI (al_skip (p := pFt G e w) hp))))
theorem mIsFitting_T {d N : Nat} {h : AH} {G : Gr} {th tl rm : Int} {Q : AQ} (hM : isMg h G th tl rm) (hG : okG G) (hN : 139 ≤ N) {e : Nat} {ez : Int} (hez : ez = e) (he : e < nE G) {w : Nat} {wz : Int} (hwz : wz = w) (hw : w < qW G) (hQ : ∀ z : Int, z = bI (fiG G e w) → Q (.inl (some (vI z))) h N) : T (d + 2) 159 [vR 122, vI ez, vI wz] h N Q := by
  obtain ⟨F, D, L, A, W, C, hZ, m11, m12, m13, m14, m15, m16, hE, hA, hW, hC⟩ := id hM
  obtain ⟨S, m0, m3, hR⟩ := id hZ
  obtain ⟨hr0, hr1, rL, rE, rS, hr110, rWn, rWl, hr167, rNl⟩ := id hR
  have r0 : S (0 : Int).toNat = (qR G : Int) := hr0
  have r1 : S (1 : Int).toNat = (qC G : Int) := hr1
  have r110 : S (110 : Int).toNat = (qW G : Int) := hr110
  have r167 : S (167 : Int).toNat = (qN G : Int) := hr167
  obtain ⟨hm4, hm36⟩ := hG.m
  have hmi := qM_int G
  obtain ⟨⟨hr2, hr6⟩, ⟨hc2, hc6⟩, gL, gB, gW, gWn, gWl, gN, gNl⟩ := id hG
  have hn36 := nE36 hG
  subst hez
  obtain ⟨hF9, hL9, hD9⟩ := hE _ _ _ (ents_get he)
  have hF1 : F ((e : Int)).toNat = (eC G e : Int) := hF9
  have hL1 : L ((e : Int)).toNat = (eN G e : Int) := hL9
  have hD1 : D ((e : Int)).toNat = bI (eB G e) := hD9
  have hD01 : D ((e : Int)).toNat = 0 ∨ D ((e : Int)).toNat = 1 := by
    rw [hD1]
    exact bI01 _
  have he6 := eN_6 hG he
  subst hwz
  have hwn := gWn w hw
  have hn9 : S ((111 : Int) + (w : Int)).toNat = (qWn G w : Int) := rWn w hw
  refine T_body (I := mi_X9_isFitting) (lv := [_, _, _, _, _, _]) rfl (Nat.le_of_ble_eq_true rfl) rfl ?_
  refine R_aload_n rfl rfl ?_
  refine R_getfield rfl rfl (by omega) m0 rfl ?_
  refine R_iload_n rfl rfl ?_
  refine R_iaload rfl (Or.inl (by omega)) m13 ⟨by omega, by omega, by omega⟩ ?_
  refine R_aload_n rfl rfl ?_
  refine R_getfield rfl rfl (by omega) m0 rfl ?_
  refine R_bipush rfl ?_
  refine R_iload_n rfl rfl ?_
  refine R_iadd rfl ?_
  refine R_iaload rfl (Or.inl (by omega)) m3 ⟨by omega, by omega, by omega⟩ ?_
  refine R_icmpne rfl ⟨by omega, by omega⟩ ⟨by omega, by omega⟩ (fun c15 => ?_) (fun c15 => ?_)
  · refine R_iconst rfl ?_
    refine R_istore_n (lv' := [_, _, _, _, _, _]) rfl rfl ?_
    refine R_iconst rfl ?_
    refine R_istore (lv' := [_, _, _, _, _, _]) rfl rfl ?_
    exact mft_0 hM hG hN he ⟨by decide, by decide⟩ (fun z hz => hQ z (hz.trans (congrArg bI (show false = fiG G e w by unfold fiG; rw [decide_eq_false (show ¬ eN G e = qWn G w by omega), Bool.false_and]))))
  · refine R_iconst rfl ?_
    refine R_goto rfl ?_
    refine R_istore_n (lv' := [_, _, _, _, _, _]) rfl rfl ?_
    refine R_iconst rfl ?_
    refine R_istore (lv' := [_, _, _, _, _, _]) rfl rfl ?_
    exact mft_loop hM hG hN he hw (by omega) (eN G e) 0 _ _ (Nat.zero_add _) rfl (fun z hz => hQ z (hz.trans (congrArg bI (by unfold fiG; rw [decide_eq_true (show eN G e = qWn G w by omega), Bool.true_and]))))
theorem mfo_loop {d N : Nat} {h : AH} {G : Gr} {th tl rm : Int} {Q : AQ} (hM : isMg h G th tl rm) (hG : okG G) (hN : 139 ≤ N) {e : Nat} (he : e < nE G) : ∀ (r i a : Nat) (za zi : Int), i + r = qW G → za = a → zi = i → (∀ z : Int, z = ((a + ctF (fiG G e) r i : Nat) : Int) → Q (.inl (some (vI z))) h N) → Run mi_X9_fitsOf (T (d + 2)) Q 4 [some (vR 122), some (vI e), some (vI za), some (vI zi)] [] h N 0 0 := by
  obtain ⟨F, D, L, A, W, C, hZ, m11, m12, m13, m14, m15, m16, hE, hA, hW, hC⟩ := id hM
  obtain ⟨S, m0, m3, hR⟩ := id hZ
  obtain ⟨hr0, hr1, rL, rE, rS, hr110, rWn, rWl, hr167, rNl⟩ := id hR
  have r0 : S (0 : Int).toNat = (qR G : Int) := hr0
  have r1 : S (1 : Int).toNat = (qC G : Int) := hr1
  have r110 : S (110 : Int).toNat = (qW G : Int) := hr110
  have r167 : S (167 : Int).toNat = (qN G : Int) := hr167
  obtain ⟨hm4, hm36⟩ := hG.m
  have hmi := qM_int G
  obtain ⟨⟨hr2, hr6⟩, ⟨hc2, hc6⟩, gL, gB, gW, gWn, gWl, gN, gNl⟩ := id hG
  have hn36 := nE36 hG
  intro r
  induction r using Nat.strongRecOn with
  | ind r ih =>
  intro i a za zi hr hza hzi hQ
  have hcz : zi.toNat = i := by omega
  refine R_iload_n rfl rfl ?_
  refine R_aload_n rfl rfl ?_
  refine R_getfield rfl rfl (by omega) m0 rfl ?_
  refine R_bipush rfl ?_
  refine R_iaload rfl (Or.inl (by omega)) m3 ⟨by omega, by omega, by omega⟩ ?_
  rw [r110]
  refine R_icmpge rfl ⟨by omega, by omega⟩ ⟨by omega, by omega⟩ (fun c12 => ?_) (fun c12 => ?_)
  · have hr0 : r = 0 := by omega
    subst hr0
    refine R_iload_n rfl rfl ?_
    exact R_ireturn rfl (fun q => absurd q (by decide)) (Nat.zero_le _) (Nat.zero_le _) (hQ _ (by rw [hza]; rfl))
  · obtain ⟨r, rfl⟩ : ∃ r1, r = r1 + 1 := ⟨r - 1, by omega⟩
    refine R_iload_n rfl rfl ?_
    refine R_aload_n rfl rfl ?_
    refine R_iload_n rfl rfl ?_
    refine R_iload_n rfl rfl ?_
    refine R_vcall rfl rfl ⟨(by omega), _, m0⟩ ⟨Nat.le_of_ble_eq_true rfl, Nat.le_of_ble_eq_true rfl, Nat.zero_le _, Nat.zero_le _⟩ (mIsFitting_T (e := e) (w := i) hM hG hN (by omega) he (by omega) (by omega) (fun z19 hz19 => aRes_i (rest := [_]) ?_))
    have h01 := bI01 (fiG G e i)
    rw [← hz19] at h01
    refine R_ifeq rfl ⟨by omega, by omega⟩ (fun c22 => ?_) (fun c22 => ?_)
    · have hp : fiG G e i = false := bI_f hz19 (by omega)
      refine R_iconst rfl ?_
      refine R_iadd rfl ?_
      refine R_istore_n (lv' := [_, _, _, _]) rfl rfl ?_
      refine R_iinc (lv' := [_, _, _, _]) rfl rfl rfl ?_
      refine R_goto rfl ?_
      first | exact ih r (by omega) (i + 1) (a + 1) _ _ (by omega) (by omega) (by omega) (fun z hz => hQ z (hz.trans (congrArg Nat.cast (ct_hit (p := (fiG G e)) hp)))) | exact ih r (by omega) (i + 1) a _ _ (by omega) (by omega) (by omega) (fun z hz => hQ z (hz.trans (congrArg Nat.cast (ct_skip (p := (fiG G e)) hp))))
    · have hp : fiG G e i = true := bI_t hz19 (by omega)
      refine R_iconst rfl ?_
      refine R_goto rfl ?_
      refine R_iadd rfl ?_
      refine R_istore_n (lv' := [_, _, _, _]) rfl rfl ?_
      refine R_iinc (lv' := [_, _, _, _]) rfl rfl rfl ?_
      refine R_goto rfl ?_
      first | exact ih r (by omega) (i + 1) (a + 1) _ _ (by omega) (by omega) (by omega) (fun z hz => hQ z (hz.trans (congrArg Nat.cast (ct_hit (p := (fiG G e)) hp)))) | exact ih r (by omega) (i + 1) a _ _ (by omega) (by omega) (by omega) (fun z hz => hQ z (hz.trans (congrArg Nat.cast (ct_skip (p := (fiG G e)) hp))))
theorem mFitsOf_T {d N : Nat} {h : AH} {G : Gr} {th tl rm : Int} {Q : AQ} (hM : isMg h G th tl rm) (hG : okG G) (hN : 139 ≤ N) {e : Nat} {ez : Int} (hez : ez = e) (he : e < nE G) (hQ : ∀ z : Int, z = (fcG G e : Nat) → Q (.inl (some (vI z))) h N) : T (d + 3) 160 [vR 122, vI ez] h N Q := by
  obtain ⟨F, D, L, A, W, C, hZ, m11, m12, m13, m14, m15, m16, hE, hA, hW, hC⟩ := id hM
  obtain ⟨S, m0, m3, hR⟩ := id hZ
  obtain ⟨hr0, hr1, rL, rE, rS, hr110, rWn, rWl, hr167, rNl⟩ := id hR
  have r0 : S (0 : Int).toNat = (qR G : Int) := hr0
  have r1 : S (1 : Int).toNat = (qC G : Int) := hr1
  have r110 : S (110 : Int).toNat = (qW G : Int) := hr110
  have r167 : S (167 : Int).toNat = (qN G : Int) := hr167
  obtain ⟨hm4, hm36⟩ := hG.m
  have hmi := qM_int G
  obtain ⟨⟨hr2, hr6⟩, ⟨hc2, hc6⟩, gL, gB, gW, gWn, gWl, gN, gNl⟩ := id hG
  have hn36 := nE36 hG
  subst hez
  refine T_body (I := mi_X9_fitsOf) (lv := [_, _, _, _]) rfl (Nat.le_of_ble_eq_true rfl) rfl ?_
  refine R_iconst rfl ?_
  refine R_istore_n (lv' := [_, _, _, _]) rfl rfl ?_
  refine R_iconst rfl ?_
  refine R_istore_n (lv' := [_, _, _, _]) rfl rfl ?_
  exact mfo_loop hM hG hN he (qW G) 0 0 _ _ (Nat.zero_add _) rfl rfl (fun z hz => hQ z (hz.trans (congrArg Nat.cast (Nat.zero_add _))))
theorem mwi_loop {d N : Nat} {h : AH} {G : Gr} {th tl rm : Int} {Q : AQ} (hM : isMg h G th tl rm) (hG : okG G) (hN : 139 ≤ N) {e : Nat} (he : e < nE G) : ∀ (r i : Nat) (zi : Int), i + r = qW G → zi = i → (∀ z : Int, z = fsF (fiG G e) r i → Q (.inl (some (vI z))) h N) → Run mi_X9_wordIn (T (d + 2)) Q 13 [some (vR 122), some (vI e), some (vI zi)] [] h N 0 0 := by
  obtain ⟨F, D, L, A, W, C, hZ, m11, m12, m13, m14, m15, m16, hE, hA, hW, hC⟩ := id hM
  obtain ⟨S, m0, m3, hR⟩ := id hZ
  obtain ⟨hr0, hr1, rL, rE, rS, hr110, rWn, rWl, hr167, rNl⟩ := id hR
  have r0 : S (0 : Int).toNat = (qR G : Int) := hr0
  have r1 : S (1 : Int).toNat = (qC G : Int) := hr1
  have r110 : S (110 : Int).toNat = (qW G : Int) := hr110
  have r167 : S (167 : Int).toNat = (qN G : Int) := hr167
  obtain ⟨hm4, hm36⟩ := hG.m
  have hmi := qM_int G
  obtain ⟨⟨hr2, hr6⟩, ⟨hc2, hc6⟩, gL, gB, gW, gWn, gWl, gN, gNl⟩ := id hG
  have hn36 := nE36 hG
  intro r
  induction r using Nat.strongRecOn with
  | ind r ih =>
  intro i zi hr hzi hQ
  refine R_iload_n rfl rfl ?_
  refine R_aload_n rfl rfl ?_
  refine R_getfield rfl rfl (by omega) m0 rfl ?_
  refine R_bipush rfl ?_
  refine R_iaload rfl (Or.inl (by omega)) m3 ⟨by omega, by omega, by omega⟩ ?_
  rw [r110]
  refine R_icmpge rfl ⟨by omega, by omega⟩ ⟨by omega, by omega⟩ (fun c21 => ?_) (fun c21 => ?_)
  · have hr0 : r = 0 := by omega
    subst hr0
    refine R_bipush rfl ?_
    exact R_ireturn rfl (fun q => absurd q (by decide)) (Nat.zero_le _) (Nat.zero_le _) (hQ _ rfl)
  · obtain ⟨r, rfl⟩ : ∃ r1, r = r1 + 1 := ⟨r - 1, by omega⟩
    refine R_aload_n rfl rfl ?_
    refine R_iload_n rfl rfl ?_
    refine R_iload_n rfl rfl ?_
    refine R_vcall rfl rfl ⟨(by omega), _, m0⟩ ⟨Nat.le_of_ble_eq_true rfl, Nat.le_of_ble_eq_true rfl, Nat.zero_le _, Nat.zero_le _⟩ (mIsFitting_T (e := e) (w := i) hM hG hN (by omega) he (by omega) (by omega) (fun z27 hz27 => aRes_i (rest := []) ?_))
    have h01 := bI01 (fiG G e i)
    rw [← hz27] at h01
    refine R_ifeq rfl ⟨by omega, by omega⟩ (fun c30 => ?_) (fun c30 => ?_)
    · have hp : fiG G e i = false := bI_f hz27 (by omega)
      refine R_iinc (lv' := [_, _, _]) rfl rfl rfl ?_
      refine R_goto rfl ?_
      exact ih r (by omega) (i + 1) _ (by omega) (by omega) (fun z hz => hQ z (hz.trans (fs_skip (p := fiG G e) hp)))
    · have hp : fiG G e i = true := bI_t hz27 (by omega)
      refine R_iload_n rfl rfl ?_
      exact R_ireturn rfl (fun q => absurd q (by decide)) (Nat.zero_le _) (Nat.zero_le _) (hQ _ (hzi.trans (fs_hit (p := fiG G e) hp)))
theorem mWordIn_T {d N : Nat} {h : AH} {G : Gr} {th tl rm : Int} {Q : AQ} (hM : isMg h G th tl rm) (hG : okG G) (hN : 139 ≤ N) {e : Nat} {ez : Int} (hez : ez = e) (he : e < nE G) (hQ : ∀ z : Int, z = wiG G e → Q (.inl (some (vI z))) h N) : T (d + 3) 155 [vR 122, vI ez] h N Q := by
  obtain ⟨F, D, L, A, W, C, hZ, m11, m12, m13, m14, m15, m16, hE, hA, hW, hC⟩ := id hM
  obtain ⟨S, m0, m3, hR⟩ := id hZ
  obtain ⟨hr0, hr1, rL, rE, rS, hr110, rWn, rWl, hr167, rNl⟩ := id hR
  have r0 : S (0 : Int).toNat = (qR G : Int) := hr0
  have r1 : S (1 : Int).toNat = (qC G : Int) := hr1
  have r110 : S (110 : Int).toNat = (qW G : Int) := hr110
  have r167 : S (167 : Int).toNat = (qN G : Int) := hr167
  obtain ⟨hm4, hm36⟩ := hG.m
  have hmi := qM_int G
  obtain ⟨⟨hr2, hr6⟩, ⟨hc2, hc6⟩, gL, gB, gW, gWn, gWl, gN, gNl⟩ := id hG
  have hn36 := nE36 hG
  subst hez
  obtain ⟨hF9, hL9, hD9⟩ := hE _ _ _ (ents_get he)
  have hF1 : F ((e : Int)).toNat = (eC G e : Int) := hF9
  have hL1 : L ((e : Int)).toNat = (eN G e : Int) := hL9
  have hD1 : D ((e : Int)).toNat = bI (eB G e) := hD9
  have hD01 : D ((e : Int)).toNat = 0 ∨ D ((e : Int)).toNat = 1 := by
    rw [hD1]
    exact bI01 _
  have he6 := eN_6 hG he
  refine T_body (I := mi_X9_wordIn) (lv := [_, _, _]) rfl (Nat.le_of_ble_eq_true rfl) rfl ?_
  refine R_aload_n rfl rfl ?_
  refine R_iload_n rfl rfl ?_
  refine R_vcall rfl rfl ⟨(by omega), _, m0⟩ ⟨Nat.le_of_ble_eq_true rfl, Nat.le_of_ble_eq_true rfl, Nat.zero_le _, Nat.zero_le _⟩ (mEmptyIn_T hM hG hN rfl he (fun z2 hz2 => aRes_i (rest := []) ?_))
  have hle := ct_le (p := pEm G e) (eN G e) 0
  have hem : emG G e = ctF (pEm G e) (eN G e) 0 := rfl
  refine R_ifle rfl ⟨by omega, by omega⟩ (fun c5 => ?_) (fun c5 => ?_)
  · refine R_iconst rfl ?_
    refine R_istore_n (lv' := [_, _, _]) rfl rfl ?_
    exact mwi_loop hM hG hN he (qW G) 0 _ (Nat.zero_add _) rfl (fun z hz => hQ z (hz.trans (by unfold wiG; rw [if_pos (by omega)])))
  · refine R_bipush rfl ?_
    exact R_ireturn rfl (fun q => absurd q (by decide)) (Nat.zero_le _) (Nat.zero_le _) (hQ _ (by unfold wiG; rw [if_neg (by omega)]))
theorem mIsRim_true {d N : Nat} {h : AH} {G : Gr} {th tl rm en : Int} {Q : AQ} (hZ : isM0 h G th tl rm en) (hG : okG G) (hN : 139 ≤ N) {c : Nat} {cz : Int} (hcz : cz = c) (hc : c < qM G) (hQ : ∀ z : Int, z = bI (!qPb G c true) → Q (.inl (some (vI z))) h N) : T (d + 2) 178 [vR 122, vI cz, vI (bI true)] h N Q := by
  obtain ⟨S, m0, m3, hR⟩ := id hZ
  obtain ⟨hr0, hr1, rL, rE, rS, hr110, rWn, rWl, hr167, rNl⟩ := id hR
  have r0 : S (0 : Int).toNat = (qR G : Int) := hr0
  have r1 : S (1 : Int).toNat = (qC G : Int) := hr1
  have r110 : S (110 : Int).toNat = (qW G : Int) := hr110
  have r167 : S (167 : Int).toNat = (qN G : Int) := hr167
  obtain ⟨hm4, hm36⟩ := hG.m
  have hmi := qM_int G
  obtain ⟨⟨hr2, hr6⟩, ⟨hc2, hc6⟩, gL, gB, gW, gWn, gWl, gN, gNl⟩ := id hG
  refine T_body (I := mi_X9_isRim) (lv := [_, _, _]) rfl (Nat.le_of_ble_eq_true rfl) rfl ?_
  refine R_iload_n rfl rfl ?_
  refine R_ifeq rfl ⟨by decide, by decide⟩ (fun c0 => absurd c0 (by decide)) (fun _ => ?_)
  refine R_aload_n rfl rfl ?_
  refine R_iload_n rfl rfl ?_
  refine R_vcall rfl rfl ⟨(by omega), _, m0⟩ ⟨Nat.le_of_ble_eq_true rfl, Nat.le_of_ble_eq_true rfl, Nat.zero_le _, Nat.zero_le _⟩ (mIsLastRow_T hZ hG hN hcz hc (fun z6 hz6 => aRes_i (rest := []) ?_))
  refine R_goto rfl ?_
  exact R_ireturn rfl (fun _ => by have h01 := bI01 (!qPb G c true); omega) (Nat.zero_le _) (Nat.zero_le _) (hQ _ (by first | exact hz6 | exact hz14))
theorem mIsRim_false {d N : Nat} {h : AH} {G : Gr} {th tl rm en : Int} {Q : AQ} (hZ : isM0 h G th tl rm en) (hG : okG G) (hN : 139 ≤ N) {c : Nat} {cz : Int} (hcz : cz = c) (hc : c < qM G) (hQ : ∀ z : Int, z = bI (!qPb G c false) → Q (.inl (some (vI z))) h N) : T (d + 2) 178 [vR 122, vI cz, vI (bI false)] h N Q := by
  obtain ⟨S, m0, m3, hR⟩ := id hZ
  obtain ⟨hr0, hr1, rL, rE, rS, hr110, rWn, rWl, hr167, rNl⟩ := id hR
  have r0 : S (0 : Int).toNat = (qR G : Int) := hr0
  have r1 : S (1 : Int).toNat = (qC G : Int) := hr1
  have r110 : S (110 : Int).toNat = (qW G : Int) := hr110
  have r167 : S (167 : Int).toNat = (qN G : Int) := hr167
  obtain ⟨hm4, hm36⟩ := hG.m
  have hmi := qM_int G
  obtain ⟨⟨hr2, hr6⟩, ⟨hc2, hc6⟩, gL, gB, gW, gWn, gWl, gN, gNl⟩ := id hG
  refine T_body (I := mi_X9_isRim) (lv := [_, _, _]) rfl (Nat.le_of_ble_eq_true rfl) rfl ?_
  refine R_iload_n rfl rfl ?_
  refine R_ifeq rfl ⟨by decide, by decide⟩ (fun _ => ?_) (fun c0 => absurd c0 (by decide))
  refine R_aload_n rfl rfl ?_
  refine R_iload_n rfl rfl ?_
  refine R_vcall rfl rfl ⟨(by omega), _, m0⟩ ⟨Nat.le_of_ble_eq_true rfl, Nat.le_of_ble_eq_true rfl, Nat.zero_le _, Nat.zero_le _⟩ (mIsLastColumn_T hZ hG hN hcz hc (fun z14 hz14 => aRes_i (rest := []) ?_))
  exact R_ireturn rfl (fun _ => by have h01 := bI01 (!qPb G c false); omega) (Nat.zero_le _) (Nat.zero_le _) (hQ _ (by first | exact hz6 | exact hz14))
theorem mIsRim_T {d N : Nat} {h : AH} {G : Gr} {th tl rm en : Int} {Q : AQ} (hZ : isM0 h G th tl rm en) (hG : okG G) (hN : 139 ≤ N) {b : Bool} {c : Nat} {cz : Int} (hcz : cz = c) (hc : c < qM G) (hQ : ∀ z : Int, z = bI (!qPb G c b) → Q (.inl (some (vI z))) h N) : T (d + 2) 178 [vR 122, vI cz, vI (bI b)] h N Q := by
  cases b
  · exact mIsRim_false hZ hG hN hcz hc hQ
  · exact mIsRim_true hZ hG hN hcz hc hQ
theorem mIsLetter_T {d N : Nat} {h : AH} {Q : AQ} {c : Int} (hc : inR c) (hQ : ∀ z : Int, z = bI (isLb c) → Q (.inl (some (vI z))) h N) : T (d + 1) 131 [vI c] h N Q := by
  obtain ⟨hc1, hc2⟩ := id hc
  refine T_body (I := mi_X9_isLetter) (lv := [_]) rfl (Nat.le_of_ble_eq_true rfl) rfl ?_
  refine R_iload_n rfl rfl ?_
  refine R_bipush rfl ?_
  refine R_icmplt rfl ⟨by omega, by omega⟩ ⟨by decide, by decide⟩ (fun c3 => ?_) (fun c3 => ?_)
  · refine R_iconst rfl ?_
    exact R_ireturn rfl (fun _ => by omega) (Nat.zero_le _) (Nat.zero_le _) (hQ _ (congrArg bI (show false = isLb c from (Bool.eq_false_iff.mpr (fun q => by have := isLb_t.mp q; omega)).symm)))
  · refine R_iload_n rfl rfl ?_
    refine R_bipush rfl ?_
    refine R_icmpgt rfl ⟨by omega, by omega⟩ ⟨by decide, by decide⟩ (fun c9 => ?_) (fun c9 => ?_)
    · refine R_iconst rfl ?_
      exact R_ireturn rfl (fun _ => by omega) (Nat.zero_le _) (Nat.zero_le _) (hQ _ (congrArg bI (show false = isLb c from (Bool.eq_false_iff.mpr (fun q => by have := isLb_t.mp q; omega)).symm)))
    · refine R_iconst rfl ?_
      refine R_goto rfl ?_
      exact R_ireturn rfl (fun _ => by omega) (Nat.zero_le _) (Nat.zero_le _) (hQ _ (congrArg bI (isLb_t.mpr ⟨by omega, by omega⟩).symm))
theorem mIsSide_T {d N : Nat} {h : AH} {Q : AQ} {c : Int} (hc : inR c) (hQ : ∀ z : Int, (z = 1 ∧ 50 ≤ c ∧ c ≤ 54) ∨ (z = 0 ∧ ¬ (50 ≤ c ∧ c ≤ 54)) → Q (.inl (some (vI z))) h N) : T (d + 1) 132 [vI c] h N Q := by
  obtain ⟨hc1, hc2⟩ := id hc
  refine T_body (I := mi_X9_isSide) (lv := [_]) rfl (Nat.le_of_ble_eq_true rfl) rfl ?_
  refine R_iload_n rfl rfl ?_
  refine R_bipush rfl ?_
  refine R_icmplt rfl ⟨by omega, by omega⟩ ⟨by decide, by decide⟩ (fun c3 => ?_) (fun c3 => ?_)
  · refine R_iconst rfl ?_
    exact R_ireturn rfl (fun _ => by omega) (Nat.zero_le _) (Nat.zero_le _) (hQ _ (by omega))
  · refine R_iload_n rfl rfl ?_
    refine R_bipush rfl ?_
    refine R_icmpgt rfl ⟨by omega, by omega⟩ ⟨by decide, by decide⟩ (fun c9 => ?_) (fun c9 => ?_)
    · refine R_iconst rfl ?_
      exact R_ireturn rfl (fun _ => by omega) (Nat.zero_le _) (Nat.zero_le _) (hQ _ (by omega))
    · refine R_iconst rfl ?_
      refine R_goto rfl ?_
      exact R_ireturn rfl (fun _ => by omega) (Nat.zero_le _) (Nat.zero_le _) (hQ _ (by omega))
theorem mIsRule_T {d N : Nat} {h : AH} {Q : AQ} {c : Int} (hc : inR c) (hQ : ∀ z : Int, (z = 1 ∧ 0 ≤ c ∧ c < 5) ∨ (z = 0 ∧ ¬ (0 ≤ c ∧ c < 5)) → Q (.inl (some (vI z))) h N) : T (d + 1) 168 [vI c] h N Q := by
  obtain ⟨hc1, hc2⟩ := id hc
  refine T_body (I := mi_X9_isRule) (lv := [_]) rfl (Nat.le_of_ble_eq_true rfl) rfl ?_
  refine R_iload_n rfl rfl ?_
  refine R_iflt rfl ⟨by omega, by omega⟩ (fun c1 => ?_) (fun c1 => ?_)
  · refine R_iconst rfl ?_
    exact R_ireturn rfl (fun _ => by omega) (Nat.zero_le _) (Nat.zero_le _) (hQ _ (by omega))
  · refine R_iload_n rfl rfl ?_
    refine R_iconst rfl ?_
    refine R_icmpgt rfl ⟨by omega, by omega⟩ ⟨by decide, by decide⟩ (fun c6 => ?_) (fun c6 => ?_)
    · refine R_iconst rfl ?_
      exact R_ireturn rfl (fun _ => by omega) (Nat.zero_le _) (Nat.zero_le _) (hQ _ (by omega))
    · refine R_iconst rfl ?_
      refine R_goto rfl ?_
      exact R_ireturn rfl (fun _ => by omega) (Nat.zero_le _) (Nat.zero_le _) (hQ _ (by omega))
theorem mIsSlot_T {d N : Nat} {h : AH} {Q : AQ} {c : Int} (hc : inR c) (hQ : ∀ z : Int, (z = 1 ∧ 0 ≤ c ∧ c < 2) ∨ (z = 0 ∧ ¬ (0 ≤ c ∧ c < 2)) → Q (.inl (some (vI z))) h N) : T (d + 1) 202 [vI c] h N Q := by
  obtain ⟨hc1, hc2⟩ := id hc
  refine T_body (I := mi_X9_isSlot) (lv := [_]) rfl (Nat.le_of_ble_eq_true rfl) rfl ?_
  refine R_iload_n rfl rfl ?_
  refine R_ifeq rfl ⟨by omega, by omega⟩ (fun c1 => ?_) (fun c1 => ?_)
  · refine R_iconst rfl ?_
    refine R_goto rfl ?_
    exact R_ireturn rfl (fun _ => by omega) (Nat.zero_le _) (Nat.zero_le _) (hQ _ (by omega))
  · refine R_iload_n rfl rfl ?_
    refine R_iconst rfl ?_
    refine R_icmpne rfl ⟨by omega, by omega⟩ ⟨by decide, by decide⟩ (fun c6 => ?_) (fun c6 => ?_)
    · refine R_iconst rfl ?_
      exact R_ireturn rfl (fun _ => by omega) (Nat.zero_le _) (Nat.zero_le _) (hQ _ (by omega))
    · refine R_iconst rfl ?_
      refine R_goto rfl ?_
      exact R_ireturn rfl (fun _ => by omega) (Nat.zero_le _) (Nat.zero_le _) (hQ _ (by omega))
theorem mIsWritable_T {d N : Nat} {h : AH} {Q : AQ} {c : Int} (hc : inR c) (hQ : ∀ z : Int, z = bI (decide (c = 0) || isLb c) → Q (.inl (some (vI z))) h N) : T (d + 2) 176 [vI c] h N Q := by
  obtain ⟨hc1, hc2⟩ := id hc
  refine T_body (I := mi_X9_isWritable) (lv := [_]) rfl (Nat.le_of_ble_eq_true rfl) rfl ?_
  refine R_iload_n rfl rfl ?_
  refine R_ifeq rfl ⟨by omega, by omega⟩ (fun c1 => ?_) (fun c1 => ?_)
  · refine R_iconst rfl ?_
    refine R_goto rfl ?_
    exact R_ireturn rfl (fun _ => by omega) (Nat.zero_le _) (Nat.zero_le _) (hQ _ (by first | (rw [decide_eq_true (show c = 0 by omega)]; rfl) | (rw [bI_t hz5 (by omega), Bool.or_true]; rfl)))
  · refine R_iload_n rfl rfl ?_
    refine R_scall rfl rfl ⟨Nat.le_of_ble_eq_true rfl, Nat.le_of_ble_eq_true rfl, Nat.zero_le _, Nat.zero_le _⟩ (mIsLetter_T ⟨by omega, by omega⟩ (fun z5 hz5 => aRes_i (rest := []) ?_))
    have h01 := bI01 (isLb c)
    rw [← hz5] at h01
    refine R_ifeq rfl ⟨by omega, by omega⟩ (fun c8 => ?_) (fun c8 => ?_)
    · refine R_iconst rfl ?_
      exact R_ireturn rfl (fun _ => by omega) (Nat.zero_le _) (Nat.zero_le _) (hQ _ (by rw [decide_eq_false (show ¬ c = 0 by omega), bI_f hz5 (by omega)]; rfl))
    · refine R_iconst rfl ?_
      refine R_goto rfl ?_
      exact R_ireturn rfl (fun _ => by omega) (Nat.zero_le _) (Nat.zero_le _) (hQ _ (by first | (rw [decide_eq_true (show c = 0 by omega)]; rfl) | (rw [bI_t hz5 (by omega), Bool.or_true]; rfl)))
/-- the text's row -/
def isMt (h : AH) (n : Nat) (tx : Nat → Int) : Prop := ∃ f, h 123 = eI 150 f ∧ n ≤ 150 ∧ ∀ i, i < n → f i = tx i ∧ 0 ≤ f i ∧ f i ≤ 255
theorem isMt_fr {h h' : AH} {n : Nat} {tx : Nat → Int} (hT : isMt h n tx) (he : h' 123 = h 123) : isMt h' n tx := by
  obtain ⟨f, h1, h2⟩ := hT
  exact ⟨f, he.trans h1, h2⟩
theorem sg_m {h : AH} {n : Nat} {tx : Nat → Int} (hT : isMt h n tx) (i : Nat) : -1 ≤ sg n tx i ∧ sg n tx i ≤ 255 := by
  obtain ⟨f, -, -, hf⟩ := hT
  unfold sg
  split
  · rename_i q
    have := hf i q
    omega
  · omega
theorem mChar_T {d N n : Nat} {h : AH} {G : Gr} {th rm en : Int} {tx : Nat → Int} {Q : AQ} (hZ : isM0 h G th n rm en) (hT : isMt h n tx) (hN : 139 ≤ N) {i : Nat} {iz : Int} (hiz : iz = i) (hi : i ≤ 1000) (hQ : ∀ z : Int, z = sg n tx i → Q (.inl (some (vI z))) h N) : T (d + 1) 130 [vR 122, vI iz] h N Q := by
  obtain ⟨S, m0, m3, hR⟩ := id hZ
  obtain ⟨f, m1, hn, hf⟩ := id hT
  subst hiz
  refine T_body (I := mi_X9_character) (lv := [_, _]) rfl (Nat.le_of_ble_eq_true rfl) rfl ?_
  refine R_iload_n rfl rfl ?_
  refine R_aload_n rfl rfl ?_
  refine R_getfield rfl rfl (by omega) m0 rfl ?_
  refine R_icmpge rfl ⟨by omega, by omega⟩ ⟨by omega, by omega⟩ (fun c5 => ?_) (fun c5 => ?_)
  · have hs : sg n tx i = -1 := if_neg (by omega)
    refine R_iconst rfl ?_
    exact R_ireturn rfl (fun q => absurd q (by decide)) (Nat.zero_le _) (Nat.zero_le _) (hQ _ hs.symm)
  · have hs : sg n tx i = f ((i : Int)).toNat := (if_pos (by omega)).trans (hf i (by omega)).1.symm
    refine R_aload_n rfl rfl ?_
    refine R_getfield rfl rfl (by omega) m0 rfl ?_
    refine R_iload_n rfl rfl ?_
    refine R_iaload rfl (Or.inl (by omega)) m1 ⟨by omega, by omega, by omega⟩ ?_
    refine R_goto rfl ?_
    exact R_ireturn rfl (fun q => absurd q (by decide)) (Nat.zero_le _) (Nat.zero_le _) (hQ _ hs.symm)
theorem milF_loop {d N n : Nat} {h : AH} {G : Gr} {th rm en : Int} {tx : Nat → Int} {Q : AQ} (hZ : isM0 h G th n rm en) (hT : isMt h n tx) (hN : 139 ≤ N) {l : Int} : ∀ (r i : Nat) (zi : Int), i + r = n → zi = i → (∀ z : Int, z = 0 → Q (.inl (some (vI z))) h N) → Run mi_X9_isLetters (T (d + 1)) Q 25 [some (vR 122), some (vI l), some (vI 0), some (vI zi)] [] h N 0 0 := by
  obtain ⟨S, m0, m3, hR⟩ := id hZ
  obtain ⟨f, m1, hn, hf⟩ := id hT
  intro r
  induction r using Nat.strongRecOn with
  | ind r ih =>
  intro i zi hr hzi hQ
  refine R_iload_n rfl rfl ?_
  refine R_aload_n rfl rfl ?_
  refine R_getfield rfl rfl (by omega) m0 rfl ?_
  refine R_icmpge rfl ⟨by omega, by omega⟩ ⟨by omega, by omega⟩ (fun c30 => ?_) (fun c30 => ?_)
  · have hr0 : r = 0 := by omega
    subst hr0
    refine R_iload_n rfl rfl ?_
    exact R_ireturn rfl (fun _ => by omega) (Nat.zero_le _) (Nat.zero_le _) (hQ _ rfl)
  · obtain ⟨r, rfl⟩ : ∃ r1, r = r1 + 1 := ⟨r - 1, by omega⟩
    have hfi := hf i (by omega)
    have hcz : zi.toNat = i := by omega
    rw [← hcz] at hfi
    refine R_iload_n rfl rfl ?_
    refine R_ifeq rfl ⟨by decide, by decide⟩ (fun _ => ?_) (fun c0 => absurd c0 (by decide))
    refine R_iconst rfl ?_
    refine R_istore_n (lv' := [_, _, _, _]) rfl rfl ?_
    refine R_iinc (lv' := [_, _, _, _]) rfl rfl rfl ?_
    refine R_goto rfl ?_
    exact ih r (by omega) (i + 1) _ (by omega) (by omega) hQ
theorem milT_loop {d N n : Nat} {h : AH} {G : Gr} {th rm en : Int} {tx : Nat → Int} {Q : AQ} (hZ : isM0 h G th n rm en) (hT : isMt h n tx) (hN : 139 ≤ N) {l : Int} : ∀ (r i : Nat) (zi : Int), i + r = n → zi = i → (∀ z : Int, z = bI (alF (fun i => isLb (sg n tx i)) r i) → Q (.inl (some (vI z))) h N) → Run mi_X9_isLetters (T (d + 1)) Q 25 [some (vR 122), some (vI l), some (vI 1), some (vI zi)] [] h N 0 0 := by
  obtain ⟨S, m0, m3, hR⟩ := id hZ
  obtain ⟨f, m1, hn, hf⟩ := id hT
  intro r
  induction r using Nat.strongRecOn with
  | ind r ih =>
  intro i zi hr hzi hQ
  refine R_iload_n rfl rfl ?_
  refine R_aload_n rfl rfl ?_
  refine R_getfield rfl rfl (by omega) m0 rfl ?_
  refine R_icmpge rfl ⟨by omega, by omega⟩ ⟨by omega, by omega⟩ (fun c30 => ?_) (fun c30 => ?_)
  · have hr0 : r = 0 := by omega
    subst hr0
    refine R_iload_n rfl rfl ?_
    exact R_ireturn rfl (fun _ => by omega) (Nat.zero_le _) (Nat.zero_le _) (hQ _ rfl)
  · obtain ⟨r, rfl⟩ : ∃ r1, r = r1 + 1 := ⟨r - 1, by omega⟩
    have hfi := hf i (by omega)
    have hcz : zi.toNat = i := by omega
    rw [← hcz] at hfi
    refine R_iload_n rfl rfl ?_
    refine R_ifeq rfl ⟨by decide, by decide⟩ (fun c0 => absurd c0 (by decide)) (fun _ => ?_)
    refine R_aload_n rfl rfl ?_
    refine R_getfield rfl rfl (by omega) m0 rfl ?_
    refine R_iload_n rfl rfl ?_
    refine R_iaload rfl (Or.inl (by omega)) m1 ⟨by omega, by omega, by omega⟩ ?_
    refine R_scall rfl rfl ⟨Nat.le_of_ble_eq_true rfl, Nat.le_of_ble_eq_true rfl, Nat.zero_le _, Nat.zero_le _⟩ (mIsLetter_T ⟨by omega, by omega⟩ (fun z43 hz43 => aRes_i (rest := []) ?_))
    rw [show f zi.toNat = sg n tx i from (congrArg f hcz).trans (hf i (by omega)).1 |>.trans (if_pos (by omega)).symm] at hz43
    have h01 := bI01 (isLb (sg n tx i))
    rw [← hz43] at h01
    refine R_ifeq rfl ⟨by omega, by omega⟩ (fun c46 => ?_) (fun c46 => ?_)
    · have hp : isLb (sg n tx i) = false := bI_f hz43 (by omega)
      refine R_iconst rfl ?_
      refine R_istore_n (lv' := [_, _, _, _]) rfl rfl ?_
      refine R_iinc (lv' := [_, _, _, _]) rfl rfl rfl ?_
      refine R_goto rfl ?_
      exact milF_loop hZ hT hN r (i + 1) _ (by omega) (by omega) (fun z hz => hQ z (hz.trans (congrArg bI (al_hit (p := fun i => isLb (sg n tx i)) hp))))
    · have hp : isLb (sg n tx i) = true := bI_t hz43 (by omega)
      refine R_iconst rfl ?_
      refine R_goto rfl ?_
      refine R_istore_n (lv' := [_, _, _, _]) rfl rfl ?_
      refine R_iinc (lv' := [_, _, _, _]) rfl rfl rfl ?_
      refine R_goto rfl ?_
      exact ih r (by omega) (i + 1) _ (by omega) (by omega) (fun z hz => hQ z (hz.trans (congrArg bI (al_skip (p := fun i => isLb (sg n tx i)) hp))))
theorem mIsLetters_T {d N n : Nat} {h : AH} {G : Gr} {th rm en : Int} {tx : Nat → Int} {Q : AQ} (hZ : isM0 h G th n rm en) (hT : isMt h n tx) (hN : 139 ≤ N) {l : Nat} {lz : Int} (hlz : lz = l) (hl : l ≤ 2) (hQ : ∀ z : Int, z = bI (iwG n tx l) → Q (.inl (some (vI z))) h N) : T (d + 2) 181 [vR 122, vI lz] h N Q := by
  obtain ⟨S, m0, m3, hR⟩ := id hZ
  obtain ⟨f, m1, hn, hf⟩ := id hT
  subst hlz
  refine T_body (I := mi_X9_isLetters) (lv := [_, _, _, _]) rfl (Nat.le_of_ble_eq_true rfl) rfl ?_
  refine R_aload_n rfl rfl ?_
  refine R_getfield rfl rfl (by omega) m0 rfl ?_
  refine R_iload_n rfl rfl ?_
  refine R_icmplt rfl ⟨by omega, by omega⟩ ⟨by omega, by omega⟩ (fun c5 => ?_) (fun c5 => ?_)
  · refine R_iconst rfl ?_
    refine R_istore_n (lv' := [_, _, _, _]) rfl rfl ?_
    refine R_iconst rfl ?_
    refine R_istore_n (lv' := [_, _, _, _]) rfl rfl ?_
    have hq9 : iwG n tx l = false := by
      unfold iwG
      by_cases q : l ≤ n
      · rw [decide_eq_false (show ¬ n ≤ 6 by omega), Bool.and_false, Bool.false_and]
      · rw [decide_eq_false q, Bool.false_and, Bool.false_and]
    exact milF_loop hZ hT hN n 0 _ (Nat.zero_add _) rfl (fun z hz => hQ z (hz.trans (congrArg bI hq9.symm)))
  · refine R_aload_n rfl rfl ?_
    refine R_getfield rfl rfl (by omega) m0 rfl ?_
    refine R_bipush rfl ?_
    refine R_icmpgt rfl ⟨by omega, by omega⟩ ⟨by decide, by decide⟩ (fun c14 => ?_) (fun c14 => ?_)
    · refine R_iconst rfl ?_
      refine R_istore_n (lv' := [_, _, _, _]) rfl rfl ?_
      refine R_iconst rfl ?_
      refine R_istore_n (lv' := [_, _, _, _]) rfl rfl ?_
      have hq9 : iwG n tx l = false := by
        unfold iwG
        by_cases q : l ≤ n
        · rw [decide_eq_false (show ¬ n ≤ 6 by omega), Bool.and_false, Bool.false_and]
        · rw [decide_eq_false q, Bool.false_and, Bool.false_and]
      exact milF_loop hZ hT hN n 0 _ (Nat.zero_add _) rfl (fun z hz => hQ z (hz.trans (congrArg bI hq9.symm)))
    · refine R_iconst rfl ?_
      refine R_goto rfl ?_
      refine R_istore_n (lv' := [_, _, _, _]) rfl rfl ?_
      refine R_iconst rfl ?_
      refine R_istore_n (lv' := [_, _, _, _]) rfl rfl ?_
      exact milT_loop hZ hT hN n 0 _ (Nat.zero_add _) rfl (fun z hz => hQ z (hz.trans (congrArg bI (by unfold iwG; rw [decide_eq_true (show l ≤ n by omega), decide_eq_true (show n ≤ 6 by omega)]; rfl))))
