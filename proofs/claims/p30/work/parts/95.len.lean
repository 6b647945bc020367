/-! ===== the law's look at all entries ===== -/
theorem eix_e {G : Gr} (hG : okG G) {b : Bool} {c : Nat} (hs : st G b c = true) : eIx G b c < nE G ∧ eC G (eIx G b c) = c ∧ eB G (eIx G b c) = b ∧ acr G b c = ((eIx G b c : Nat) : Int) ∧ eN G (eIx G b c) = ln G b c := by
  have hg := entsTo_get hs _ (st_lt hs)
  have hn := (eIx_lt hG hs).1
  have hp := (ents_get (show eIx G b c < nE G from hn)).symm.trans hg
  have h1 : eC G (eIx G b c) = c := congrArg Prod.fst (Option.some.inj hp)
  have h2 : eB G (eIx G b c) = b := congrArg Prod.snd (Option.some.inj hp)
  refine ⟨hn, h1, h2, ?_, by unfold eN; rw [h1, h2]⟩
  obtain ⟨h3, h4⟩ := st_iff.mp hs
  unfold acr
  rw [if_pos (by unfold inE; rw [h3]; rfl), rs_stop h4]
theorem entry_9 {d N : Nat} {h : AH} {y : Sy} {Q : AQ} (hF : isFace h y) (hN : 122 ≤ N) {e n : Nat} {zc zk : Int} (he : e < nE y.1) (hn : n ≤ 6) (hzc : zc = e) (hzk : zk = n) (hQ : ∀ z : Int, z = entG y.1 e n → Q (.inl (some (vI z))) h N) : T (d + 6) 97 [vR 0, vI zc, vI zk] h N Q := by
  have hm := nE36 hF.2.2.2.2.1
  refine entry_T hF hN ⟨by omega, by omega⟩ ⟨by omega, by omega⟩ (fun q => absurd ⟨by omega, by omega⟩ q) (fun _ q => absurd ⟨by omega, by omega⟩ q) (fun x m h1 h2 h3 h4 => hQ _ ?_)
  rw [show x = e by omega, show m = n by omega]
theorem ofits_9 {d N : Nat} {h : AH} {y : Sy} {Q : AQ} (hF : isFace h y) (hN : 122 ≤ N) {e : Nat} {zc : Int} (he : e < nE y.1) (hzc : zc = e) (hQ : ∀ z : Int, z = ((fcG y.1 e : Nat) : Int) → Q (.inl (some (vI z))) h N) : T (d + 6) 99 [vR 0, vI zc] h N Q := by
  have hm := nE36 hF.2.2.2.2.1
  refine fits_T hF hN ⟨by omega, by omega⟩ (fun q => absurd ⟨by omega, by omega⟩ q) (fun x h1 h2 => hQ _ ?_)
  rw [show x = e by omega]
theorem wi_r {p : Nat → Bool} : ∀ r i, -9 ≤ fsF p r i ∧ fsF p r i < i + r
  | 0, i => by
    simp only [fsF]
    omega
  | r + 1, i => by
    have := wi_r (p := p) r (i + 1)
    simp only [fsF]
    split <;> omega
set_option maxRecDepth 20000 in
theorem en1_0 {d N k n : Nat} {h : AH} {y : Sy} {G : Gr} {Q : AQ} (hF : isFace h y) (hGy : y.1 = G) (hZ : isW h G) (hV : isWo h G) (hG : sm4 G) (hN : 126 ≤ N) {c : Nat} {z4 z5 ze zm zs zt : Int} (hc : c < qM G) {i : Nat} (hcl : c + i * sp G false < qM G) (hce : cel G (eIx G false c) i = c + i * sp G false) (hk : k ≤ 490) (hn : n ≤ 2940) (k0 : ∀ zx : Int, zx = zs + (tn (pUn G (eIx G false c) i) : Nat) → Run mi_L_entries (T (d + 6)) Q 118 [some (vR 0), some (vI ((qW G : Nat) : Int)), some (vR 122), some (vR 123), some (vI z4), some (vI z5), some (vI (c : Int)), some (vI 0), some (vI ze), some (vI zm), some (vI zx), some (vI zt), some (vI (i : Int)), none, none] [] h N k n) : Run mi_L_entries (T (d + 6)) Q 82 [some (vR 0), some (vI ((qW G : Nat) : Int)), some (vR 122), some (vR 123), some (vI z4), some (vI z5), some (vI (c : Int)), some (vI 0), some (vI ze), some (vI zm), some (vI zs), some (vI zt), some (vI (i : Int)), none, none] [] h N k n := by
  obtain ⟨w, m0, hw0, hw1, wL, wE, wS⟩ := id hZ
  have r0 : w (0 : Int).toNat = (qR G : Int) := hw0
  have r1 : w (1 : Int).toNat = (qC G : Int) := hw1
  have hm16 := sm4_m hG
  obtain ⟨hO, hR4, hC4⟩ := id hG
  obtain ⟨hm4, hm36⟩ := hO.m
  obtain ⟨⟨hr2, hr6⟩, ⟨hc2, hc6⟩, gL, gB, gW, gWn, gWl, gN, gNl⟩ := id hO
  obtain ⟨hw4, v, mv, hv⟩ := id hV
  have hmz : (i : Int) * 1 = ((i * sp G false : Nat) : Int) := by show (i : Int) * 1 = ((i * 1 : Nat) : Int); omega
  refine R_iload rfl rfl ?_
  refine R_iload rfl rfl ?_
  refine R_iload rfl rfl ?_
  refine R_iload rfl rfl ?_
  refine R_ifne rfl ⟨by decide, by decide⟩ (fun c0 => absurd c0 (by decide)) (fun _ => ?_)
  refine R_iconst rfl ?_
  refine R_goto rfl ?_
  refine R_imul rfl ?_
  refine R_iadd rfl ?_
  refine R_aload_n rfl rfl ?_
  refine R_scall rfl rfl ⟨Nat.le_of_ble_eq_true rfl, Nat.le_of_ble_eq_true rfl, (show _ ≤ 490 by omega), (show _ ≤ 2940 by omega)⟩ (in_T (c := c + i * sp G false) hZ hG hN (by rw [hmz]; rfl) hcl (fun z103 hz103 => aRes_g (Or.inl rfl) ?_))
  have hr103 := enC_2 (G := G) (x := c + i * sp G false)
  refine R_iconst rfl ?_
  refine R_icmpne rfl ⟨by omega, by omega⟩ ⟨by decide, by decide⟩ (fun c107 => ?_) (fun c107 => ?_)
  · have hp : pUn G (eIx G false c) i = false := by
      unfold pUn
      rw [hce]
      exact decide_eq_false (by omega)
    refine R_iconst rfl ?_
    refine R_iadd rfl ?_
    refine R_istore (lv' := [_, _, _, _, _, _, _, _, _, _, _, _, _, _, _]) rfl rfl ?_
    exact k0 _ (by rw [hp]; simp [tn])
  · have hp : pUn G (eIx G false c) i = true := by
      unfold pUn
      rw [hce]
      exact decide_eq_true (by omega)
    refine R_iconst rfl ?_
    refine R_goto rfl ?_
    refine R_iadd rfl ?_
    refine R_istore (lv' := [_, _, _, _, _, _, _, _, _, _, _, _, _, _, _]) rfl rfl ?_
    exact k0 _ (by rw [hp]; simp [tn])
set_option maxRecDepth 20000 in
theorem en2_0 {d N k n : Nat} {h : AH} {y : Sy} {G : Gr} {Q : AQ} (hF : isFace h y) (hGy : y.1 = G) (hZ : isW h G) (hV : isWo h G) (hG : sm4 G) (hN : 126 ≤ N) {c : Nat} {z4 z5 ze zm zs zt : Int} (hc : c < qM G) {i : Nat} (hcl : c + i * sp G false < qM G) (hce : cel G (eIx G false c) i = c + i * sp G false) (hk : k ≤ 490) (hn : n ≤ 2940) (k0 : ∀ zx : Int, zx = zt + (tn (pEm G (eIx G false c) i) : Nat) → Run mi_L_entries (T (d + 6)) Q 153 [some (vR 0), some (vI ((qW G : Nat) : Int)), some (vR 122), some (vR 123), some (vI z4), some (vI z5), some (vI (c : Int)), some (vI 0), some (vI ze), some (vI zm), some (vI zs), some (vI zx), some (vI (i : Int)), none, none] [] h N k n) : Run mi_L_entries (T (d + 6)) Q 118 [some (vR 0), some (vI ((qW G : Nat) : Int)), some (vR 122), some (vR 123), some (vI z4), some (vI z5), some (vI (c : Int)), some (vI 0), some (vI ze), some (vI zm), some (vI zs), some (vI zt), some (vI (i : Int)), none, none] [] h N k n := by
  obtain ⟨w, m0, hw0, hw1, wL, wE, wS⟩ := id hZ
  have r0 : w (0 : Int).toNat = (qR G : Int) := hw0
  have r1 : w (1 : Int).toNat = (qC G : Int) := hw1
  have hm16 := sm4_m hG
  obtain ⟨hO, hR4, hC4⟩ := id hG
  obtain ⟨hm4, hm36⟩ := hO.m
  obtain ⟨⟨hr2, hr6⟩, ⟨hc2, hc6⟩, gL, gB, gW, gWn, gWl, gN, gNl⟩ := id hO
  obtain ⟨hw4, v, mv, hv⟩ := id hV
  have hmz : (i : Int) * 1 = ((i * sp G false : Nat) : Int) := by show (i : Int) * 1 = ((i * 1 : Nat) : Int); omega
  have hwl : w ((2 : Int) + (c : Int) + ((i * sp G false : Nat) : Int)).toNat = qL G (c + i * sp G false) := by
    rw [show ((2 : Int) + (c : Int) + ((i * sp G false : Nat) : Int)).toNat = 2 + (c + i * sp G false) by omega]
    exact wL _ hcl
  have hlr : 0 ≤ qL G (c + i * sp G false) ∧ qL G (c + i * sp G false) ≤ 122 := by
    rcases gL _ hcl with q | ⟨q1, q2⟩ <;> omega
  refine R_iload rfl rfl ?_
  refine R_aload_n rfl rfl ?_
  refine R_iconst rfl ?_
  refine R_iload rfl rfl ?_
  refine R_iadd rfl ?_
  refine R_iload rfl rfl ?_
  refine R_iload rfl rfl ?_
  refine R_ifne rfl ⟨by decide, by decide⟩ (fun c0 => absurd c0 (by decide)) (fun _ => ?_)
  refine R_iconst rfl ?_
  refine R_goto rfl ?_
  refine R_imul rfl ?_
  rw [hmz]
  refine R_iadd rfl ?_
  refine R_iaload rfl (Or.inl (by omega)) m0 ⟨by omega, by omega, by omega⟩ ?_
  rw [hwl]
  refine R_ifne rfl ⟨by omega, by omega⟩ (fun c142 => ?_) (fun c142 => ?_)
  · have hp : pEm G (eIx G false c) i = false := by
      unfold pEm
      rw [hce]
      exact decide_eq_false c142
    refine R_iconst rfl ?_
    refine R_iadd rfl ?_
    refine R_istore (lv' := [_, _, _, _, _, _, _, _, _, _, _, _, _, _, _]) rfl rfl ?_
    exact k0 _ (by rw [hp]; simp [tn])
  · have hp : pEm G (eIx G false c) i = true := by
      unfold pEm
      rw [hce]
      exact decide_eq_true (by omega)
    refine R_iconst rfl ?_
    refine R_goto rfl ?_
    refine R_iadd rfl ?_
    refine R_istore (lv' := [_, _, _, _, _, _, _, _, _, _, _, _, _, _, _]) rfl rfl ?_
    exact k0 _ (by rw [hp]; simp [tn])
set_option maxRecDepth 20000 in
theorem en3_0 {d N k n : Nat} {h : AH} {y : Sy} {G : Gr} {Q : AQ} (hF : isFace h y) (hGy : y.1 = G) (hZ : isW h G) (hV : isWo h G) (hG : sm4 G) (hN : 126 ≤ N) {c : Nat} {z4 z5 ze : Int} (hc : c < qM G) (hst : st G false c = true) (hk : k ≤ 490) (hn : n ≤ 2940) : ∀ (r i : Nat) (zs zt zi : Int), i + r = ln G false c → zi = i → (∀ zs1 zt1 zi1 : Int, zs1 = zs + (ctF (pUn G (eIx G false c)) r i : Nat) → zt1 = zt + (ctF (pEm G (eIx G false c)) r i : Nat) → Run mi_L_entries (T (d + 6)) Q 159 [some (vR 0), some (vI ((qW G : Nat) : Int)), some (vR 122), some (vR 123), some (vI z4), some (vI z5), some (vI (c : Int)), some (vI 0), some (vI ze), some (vI ((ln G false c : Nat) : Int)), some (vI zs1), some (vI zt1), some (vI zi1), none, none] [] h N k n) → Run mi_L_entries (T (d + 6)) Q 75 [some (vR 0), some (vI ((qW G : Nat) : Int)), some (vR 122), some (vR 123), some (vI z4), some (vI z5), some (vI (c : Int)), some (vI 0), some (vI ze), some (vI ((ln G false c : Nat) : Int)), some (vI zs), some (vI zt), some (vI zi), none, none] [] h N k n := by
  obtain ⟨w, m0, hw0, hw1, wL, wE, wS⟩ := id hZ
  have r0 : w (0 : Int).toNat = (qR G : Int) := hw0
  have r1 : w (1 : Int).toNat = (qC G : Int) := hw1
  have hm16 := sm4_m hG
  obtain ⟨hO, hR4, hC4⟩ := id hG
  obtain ⟨hm4, hm36⟩ := hO.m
  obtain ⟨⟨hr2, hr6⟩, ⟨hc2, hc6⟩, gL, gB, gW, gWn, gWl, gN, gNl⟩ := id hO
  obtain ⟨hw4, v, mv, hv⟩ := id hV
  obtain ⟨x1, x2, x3, x4, x5⟩ := eix_e hO hst
  have hl6 := (ln_spec hO (b := false) hc).2.2
  intro r
  induction r using Nat.strongRecOn with
  | ind r ih =>
  intro i zs zt zi hr hzi k0
  refine R_iload rfl rfl ?_
  refine R_iload rfl rfl ?_
  refine R_icmpge rfl ⟨by omega, by omega⟩ ⟨by omega, by omega⟩ (fun c79 => ?_) (fun c79 => ?_)
  · have hr0 : r = 0 := by omega
    subst hr0
    exact k0 _ _ _ (by simp only [ctF]; omega) (by simp only [ctF]; omega)
  · obtain ⟨r, rfl⟩ : ∃ r1, r = r1 + 1 := ⟨r - 1, by omega⟩
    subst hzi
    have hcl := run_cell hO (b := false) hc (i := i) (by omega)
    have hce : cel G (eIx G false c) i = c + i * sp G false := by
      unfold cel
      rw [x2, x3]
    refine en1_0 hF hGy hZ hV hG hN hc (i := i) hcl hce hk hn (fun y1 e1 => ?_)
    refine en2_0 hF hGy hZ hV hG hN hc (i := i) hcl hce hk hn (fun y2 e2 => ?_)
    refine R_iinc (lv' := [_, _, _, _, _, _, _, _, _, _, _, _, _, _, _]) rfl rfl rfl ?_
    refine R_goto rfl ?_
    exact ih r (by omega) (i + 1) _ _ _ (by omega) (by omega) (fun s1 t1 i1 hs1 ht1 => k0 s1 t1 i1 (by rw [hs1, e1]; simp only [ctF]; omega) (by rw [ht1, e2]; simp only [ctF]; omega))
set_option maxRecDepth 20000 in
theorem en4_0 {d N k n : Nat} {h : AH} {y : Sy} {G : Gr} {Q : AQ} (hF : isFace h y) (hGy : y.1 = G) (hZ : isW h G) (hV : isWo h G) (hG : sm4 G) (hN : 126 ≤ N) {c j : Nat} {z4 z5 ze zm zs zt zn9 zw : Int} (hc : c < qM G) (hst : st G false c = true) (hj : j < qW G) (hk : k ≤ 490) (hn : n ≤ 2940) (k0 : ∀ zx : Int, zx = zn9 + (tn (fiG G (eIx G false c) j) : Nat) → Run mi_L_entries (T (d + 6)) Q 200 [some (vR 0), some (vI ((qW G : Nat) : Int)), some (vR 122), some (vR 123), some (vI z4), some (vI z5), some (vI (c : Int)), some (vI 0), some (vI ze), some (vI zm), some (vI zs), some (vI zt), some (vI zx), some (vI zw), some (vI (j : Int))] [] h N k n) : Run mi_L_entries (T (d + 6)) Q 176 [some (vR 0), some (vI ((qW G : Nat) : Int)), some (vR 122), some (vR 123), some (vI z4), some (vI z5), some (vI (c : Int)), some (vI 0), some (vI ze), some (vI zm), some (vI zs), some (vI zt), some (vI zn9), some (vI zw), some (vI (j : Int))] [] h N k n := by
  obtain ⟨w, m0, hw0, hw1, wL, wE, wS⟩ := id hZ
  have r0 : w (0 : Int).toNat = (qR G : Int) := hw0
  have r1 : w (1 : Int).toNat = (qC G : Int) := hw1
  have hm16 := sm4_m hG
  obtain ⟨hO, hR4, hC4⟩ := id hG
  obtain ⟨hm4, hm36⟩ := hO.m
  obtain ⟨⟨hr2, hr6⟩, ⟨hc2, hc6⟩, gL, gB, gW, gWn, gWl, gN, gNl⟩ := id hO
  obtain ⟨hw4, v, mv, hv⟩ := id hV
  obtain ⟨x1, x2, x3, x4, x5⟩ := eix_e hO hst
  have hfi : fi2 G false c j = fiG G (eIx G false c) j := by
    rw [← fi2_e, x2, x3]
  refine R_iload rfl rfl ?_
  refine R_iload rfl rfl ?_
  refine R_iload rfl rfl ?_
  refine R_iload rfl rfl ?_
  refine R_aload_n rfl rfl ?_
  refine R_aload_n rfl rfl ?_
  refine R_scall rfl rfl ⟨Nat.le_of_ble_eq_true rfl, Nat.le_of_ble_eq_true rfl, (show _ ≤ 490 by omega), (show _ ≤ 2940 by omega)⟩ (fits_L (c := c) (j := j) (b := false) hZ hV hG hN hc hj rfl rfl rfl hst (fun z186 hz186 => aRes_g (Or.inl rfl) ?_))
  rw [hfi] at hz186
  have hs186 := bI01 (fiG G (eIx G false c) j)
  rw [← hz186] at hs186
  refine R_ifeq rfl ⟨by omega, by omega⟩ (fun c189 => ?_) (fun c189 => ?_)
  · have hp := bI_f hz186 c189
    refine R_iconst rfl ?_
    refine R_iadd rfl ?_
    refine R_istore (lv' := [_, _, _, _, _, _, _, _, _, _, _, _, _, _, _]) rfl rfl ?_
    exact k0 _ (by rw [hp]; simp [tn])
  · have hp := bI_t hz186 c189
    refine R_iconst rfl ?_
    refine R_goto rfl ?_
    refine R_iadd rfl ?_
    refine R_istore (lv' := [_, _, _, _, _, _, _, _, _, _, _, _, _, _, _]) rfl rfl ?_
    exact k0 _ (by rw [hp]; simp [tn])
set_option maxRecDepth 20000 in
theorem en5_0 {d N k n : Nat} {h : AH} {y : Sy} {G : Gr} {Q : AQ} (hF : isFace h y) (hGy : y.1 = G) (hZ : isW h G) (hV : isWo h G) (hG : sm4 G) (hN : 126 ≤ N) {c j : Nat} {z4 z5 ze zm zs zt zn9 zw : Int} (hc : c < qM G) (hst : st G false c = true) (hj : j < qW G) (hzt : 0 ≤ zt ∧ zt ≤ 6) (hk : k ≤ 490) (hn : n ≤ 2940) (k0 : ∀ zx : Int, zx = (if zt = 0 then (if fiG G (eIx G false c) j = true then (j : Int) else zw) else zw) → Run mi_L_entries (T (d + 6)) Q 228 [some (vR 0), some (vI ((qW G : Nat) : Int)), some (vR 122), some (vR 123), some (vI z4), some (vI z5), some (vI (c : Int)), some (vI 0), some (vI ze), some (vI zm), some (vI zs), some (vI zt), some (vI zn9), some (vI zx), some (vI (j : Int))] [] h N k n) : Run mi_L_entries (T (d + 6)) Q 200 [some (vR 0), some (vI ((qW G : Nat) : Int)), some (vR 122), some (vR 123), some (vI z4), some (vI z5), some (vI (c : Int)), some (vI 0), some (vI ze), some (vI zm), some (vI zs), some (vI zt), some (vI zn9), some (vI zw), some (vI (j : Int))] [] h N k n := by
  obtain ⟨w, m0, hw0, hw1, wL, wE, wS⟩ := id hZ
  have r0 : w (0 : Int).toNat = (qR G : Int) := hw0
  have r1 : w (1 : Int).toNat = (qC G : Int) := hw1
  have hm16 := sm4_m hG
  obtain ⟨hO, hR4, hC4⟩ := id hG
  obtain ⟨hm4, hm36⟩ := hO.m
  obtain ⟨⟨hr2, hr6⟩, ⟨hc2, hc6⟩, gL, gB, gW, gWn, gWl, gN, gNl⟩ := id hO
  obtain ⟨hw4, v, mv, hv⟩ := id hV
  obtain ⟨x1, x2, x3, x4, x5⟩ := eix_e hO hst
  have hfi : fi2 G false c j = fiG G (eIx G false c) j := by
    rw [← fi2_e, x2, x3]
  obtain ⟨hzt1, hzt2⟩ := hzt
  refine R_iload rfl rfl ?_
  refine R_ifne rfl ⟨by omega, by omega⟩ (fun c202 => ?_) (fun c202 => ?_)
  · have hw9 : (if zt = 0 then (if fiG G (eIx G false c) j = true then (j : Int) else zw) else zw) = zw := if_neg c202
    refine R_iload rfl rfl ?_
    refine R_istore (lv' := [_, _, _, _, _, _, _, _, _, _, _, _, _, _, _]) rfl rfl ?_
    exact k0 _ hw9.symm
  · refine R_iload rfl rfl ?_
    refine R_iload rfl rfl ?_
    refine R_iload rfl rfl ?_
    refine R_aload_n rfl rfl ?_
    refine R_aload_n rfl rfl ?_
    refine R_scall rfl rfl ⟨Nat.le_of_ble_eq_true rfl, Nat.le_of_ble_eq_true rfl, (show _ ≤ 490 by omega), (show _ ≤ 2940 by omega)⟩ (fits_L (c := c) (j := j) (b := false) hZ hV hG hN hc hj rfl rfl rfl hst (fun z213 hz213 => aRes_g (Or.inl rfl) ?_))
    rw [hfi] at hz213
    have hs213 := bI01 (fiG G (eIx G false c) j)
    rw [← hz213] at hs213
    refine R_ifeq rfl ⟨by omega, by omega⟩ (fun c216 => ?_) (fun c216 => ?_)
    · have hp := bI_f hz213 c216
      have hw9 : (if zt = 0 then (if fiG G (eIx G false c) j = true then (j : Int) else zw) else zw) = zw := by
        rw [if_pos (by omega), if_neg (by rw [hp]; decide)]
      refine R_iload rfl rfl ?_
      refine R_istore (lv' := [_, _, _, _, _, _, _, _, _, _, _, _, _, _, _]) rfl rfl ?_
      exact k0 _ hw9.symm
    · have hp := bI_t hz213 c216
      have hw9 : (if zt = 0 then (if fiG G (eIx G false c) j = true then (j : Int) else zw) else zw) = (j : Int) := by
        rw [if_pos (by omega), if_pos hp]
      refine R_iload rfl rfl ?_
      refine R_goto rfl ?_
      refine R_istore (lv' := [_, _, _, _, _, _, _, _, _, _, _, _, _, _, _]) rfl rfl ?_
      exact k0 _ hw9.symm
set_option maxRecDepth 20000 in
theorem en6_0 {d N k n : Nat} {h : AH} {y : Sy} {G : Gr} {Q : AQ} (hF : isFace h y) (hGy : y.1 = G) (hZ : isW h G) (hV : isWo h G) (hG : sm4 G) (hN : 126 ≤ N) {c : Nat} {z4 z5 ze zm zs zt : Int} (hc : c < qM G) (hst : st G false c = true) (hzt : 0 ≤ zt ∧ zt ≤ 6) (hk : k ≤ 490) (hn : n ≤ 2940) : ∀ (r : Nat) (zn9 zw zj : Int), r ≤ qW G → zj = (r : Int) - 1 → zn9 = (ctF (fiG G (eIx G false c)) (qW G - r) r : Nat) → zw = (if zt = 0 then fsF (fiG G (eIx G false c)) (qW G - r) r else -9) → (∀ zn1 zw1 zj1 : Int, zn1 = (ctF (fiG G (eIx G false c)) (qW G - 0) 0 : Nat) → zw1 = (if zt = 0 then fsF (fiG G (eIx G false c)) (qW G - 0) 0 else -9) → Run mi_L_entries (T (d + 6)) Q 234 [some (vR 0), some (vI ((qW G : Nat) : Int)), some (vR 122), some (vR 123), some (vI z4), some (vI z5), some (vI (c : Int)), some (vI 0), some (vI ze), some (vI zm), some (vI zs), some (vI zt), some (vI zn1), some (vI zw1), some (vI zj1)] [] h N k n) → Run mi_L_entries (T (d + 6)) Q 171 [some (vR 0), some (vI ((qW G : Nat) : Int)), some (vR 122), some (vR 123), some (vI z4), some (vI z5), some (vI (c : Int)), some (vI 0), some (vI ze), some (vI zm), some (vI zs), some (vI zt), some (vI zn9), some (vI zw), some (vI zj)] [] h N k n := by
  obtain ⟨w, m0, hw0, hw1, wL, wE, wS⟩ := id hZ
  have r0 : w (0 : Int).toNat = (qR G : Int) := hw0
  have r1 : w (1 : Int).toNat = (qC G : Int) := hw1
  have hm16 := sm4_m hG
  obtain ⟨hO, hR4, hC4⟩ := id hG
  obtain ⟨hm4, hm36⟩ := hO.m
  obtain ⟨⟨hr2, hr6⟩, ⟨hc2, hc6⟩, gL, gB, gW, gWn, gWl, gN, gNl⟩ := id hO
  obtain ⟨hw4, v, mv, hv⟩ := id hV
  intro r
  induction r using Nat.strongRecOn with
  | ind r ih =>
  intro zn9 zw zj hr hzj g1 g2 k0
  refine R_iload rfl rfl ?_
  refine R_iflt rfl ⟨by omega, by omega⟩ (fun c173 => ?_) (fun c173 => ?_)
  · have hr0 : r = 0 := by omega
    subst hr0
    exact k0 _ _ _ g1 g2
  · obtain ⟨r, rfl⟩ : ∃ r1, r = r1 + 1 := ⟨r - 1, by omega⟩
    obtain rfl : zj = (r : Int) := by omega
    refine en4_0 hF hGy hZ hV hG hN hc hst (j := r) (by omega) hk hn (fun y1 e1 => ?_)
    refine en5_0 hF hGy hZ hV hG hN hc hst (j := r) (by omega) hzt hk hn (fun y2 e2 => ?_)
    refine R_iinc (lv' := [_, _, _, _, _, _, _, _, _, _, _, _, _, _, _]) rfl rfl rfl ?_
    refine R_goto rfl ?_
    exact ih r (by omega) _ _ _ (by omega) (by omega) (by rw [e1, g1, show qW G - r = (qW G - (r + 1)) + 1 by omega]; simp only [ctF]; omega) (by
      rw [e2, show qW G - r = (qW G - (r + 1)) + 1 by omega]
      by_cases q : zt = 0
      · rw [if_pos q, if_pos q]
        simp only [fsF]
        rw [if_pos q] at g2
        rw [← g2]
      · rw [if_neg q, if_neg q]
        rw [if_neg q] at g2
        exact g2) k0
set_option maxRecDepth 20000 in
theorem en7_0 {d N k n : Nat} {h : AH} {y : Sy} {G : Gr} {Q : AQ} (hF : isFace h y) (hGy : y.1 = G) (hZ : isW h G) (hV : isWo h G) (hG : sm4 G) (hN : 126 ≤ N) {c : Nat} {z4 z5 ze zs zt zn9 zw zj : Int} (hc : c < qM G) (hst : st G false c = true) (hze : ze = ((eIx G false c) : Nat)) (hzs : zs = (unG G (eIx G false c) : Nat)) (hzt : zt = (emG G (eIx G false c) : Nat)) (hzn9 : zn9 = (fcG G (eIx G false c) : Nat)) (hzw : zw = wiG G (eIx G false c)) (hk : k + 15 ≤ 490) (hn : n + 90 ≤ 2940) (k0 : Run mi_L_entries (T (d + 6)) Q 336 [some (vR 0), some (vI ((qW G : Nat) : Int)), some (vR 122), some (vR 123), some (vI z4), some (vI z5), some (vI (c : Int)), some (vI 0), some (vI ze), some (vI ((ln G false c : Nat) : Int)), some (vI zs), some (vI zt), some (vI zn9), some (vI zw), some (vI zj)] [] h N (k + 15) (n + 90)) : Run mi_L_entries (T (d + 6)) Q 234 [some (vR 0), some (vI ((qW G : Nat) : Int)), some (vR 122), some (vR 123), some (vI z4), some (vI z5), some (vI (c : Int)), some (vI 0), some (vI ze), some (vI ((ln G false c : Nat) : Int)), some (vI zs), some (vI zt), some (vI zn9), some (vI zw), some (vI zj)] [] h N k n := by
  obtain ⟨w, m0, hw0, hw1, wL, wE, wS⟩ := id hZ
  have r0 : w (0 : Int).toNat = (qR G : Int) := hw0
  have r1 : w (1 : Int).toNat = (qC G : Int) := hw1
  have hm16 := sm4_m hG
  obtain ⟨hO, hR4, hC4⟩ := id hG
  obtain ⟨hm4, hm36⟩ := hO.m
  obtain ⟨⟨hr2, hr6⟩, ⟨hc2, hc6⟩, gL, gB, gW, gWn, gWl, gN, gNl⟩ := id hO
  obtain ⟨hw4, v, mv, hv⟩ := id hV
  obtain ⟨x1, x2, x3, x4, x5⟩ := eix_e hO hst
  have hl6 := (ln_spec hO (b := false) hc).2.2
  have u1 : unG G (eIx G false c) ≤ eN G (eIx G false c) := ct_le _ _
  have u2 : emG G (eIx G false c) ≤ eN G (eIx G false c) := ct_le _ _
  have u3 := fc_8 hO (e := (eIx G false c))
  have u4 := clue_r hO hc
  have u5 : -9 ≤ wiG G (eIx G false c) ∧ wiG G (eIx G false c) ≤ 8 := by
    have := wi_r (p := fiG G (eIx G false c)) (qW G) 0
    unfold wiG
    split <;> omega
  refine R_aload_n rfl rfl ?_
  refine R_iload rfl rfl ?_
  refine R_iconst rfl ?_
  refine R_vcall rfl rfl ⟨(by omega), _, hF.1⟩ ⟨Nat.le_of_ble_eq_true rfl, Nat.le_of_ble_eq_true rfl, (show _ ≤ 490 by omega), (show _ ≤ 2940 by omega)⟩ (entry_9 hF (by omega) (e := (eIx G false c)) (n := 0) (by rw [hGy]; exact x1) (by decide) hze rfl (fun z238 hz238 => aRes_g (Or.inl rfl) ?_))
  rw [hGy] at hz238
  have hq238 : z238 = (c : Int) := hz238.trans (congrArg Nat.cast x2)
  refine R_iload rfl rfl ?_
  refine R_icmpne rfl ⟨by omega, by omega⟩ ⟨by omega, by omega⟩ (fun c243 => ?_) (fun c243 => ?_)
  · exact absurd (hq238) c243
  · refine R_aload_n rfl rfl ?_
    refine R_iload rfl rfl ?_
    refine R_iconst rfl ?_
    refine R_vcall rfl rfl ⟨(by omega), _, hF.1⟩ ⟨Nat.le_of_ble_eq_true rfl, Nat.le_of_ble_eq_true rfl, (show _ ≤ 490 by omega), (show _ ≤ 2940 by omega)⟩ (entry_9 hF (by omega) (e := (eIx G false c)) (n := 1) (by rw [hGy]; exact x1) (by decide) hze rfl (fun z250 hz250 => aRes_g (Or.inl rfl) ?_))
    rw [hGy] at hz250
    have hq250 : z250 = (0 : Int) := hz250.trans (congrArg bI x3)
    refine R_iload rfl rfl ?_
    refine R_icmpne rfl ⟨by omega, by omega⟩ ⟨by decide, by decide⟩ (fun c255 => ?_) (fun c255 => ?_)
    · exact absurd (hq250) c255
    · refine R_aload_n rfl rfl ?_
      refine R_iload rfl rfl ?_
      refine R_iconst rfl ?_
      refine R_vcall rfl rfl ⟨(by omega), _, hF.1⟩ ⟨Nat.le_of_ble_eq_true rfl, Nat.le_of_ble_eq_true rfl, (show _ ≤ 490 by omega), (show _ ≤ 2940 by omega)⟩ (entry_9 hF (by omega) (e := (eIx G false c)) (n := 2) (by rw [hGy]; exact x1) (by decide) hze rfl (fun z262 hz262 => aRes_g (Or.inl rfl) ?_))
      rw [hGy] at hz262
      have hq262 : z262 = ((ln G false c : Nat) : Int) := hz262.trans (congrArg Nat.cast x5)
      refine R_iload rfl rfl ?_
      refine R_icmpne rfl ⟨by omega, by omega⟩ ⟨by omega, by omega⟩ (fun c267 => ?_) (fun c267 => ?_)
      · exact absurd (hq262) c267
      · refine R_aload_n rfl rfl ?_
        refine R_iload rfl rfl ?_
        refine R_iconst rfl ?_
        refine R_vcall rfl rfl ⟨(by omega), _, hF.1⟩ ⟨Nat.le_of_ble_eq_true rfl, Nat.le_of_ble_eq_true rfl, (show _ ≤ 490 by omega), (show _ ≤ 2940 by omega)⟩ (entry_9 hF (by omega) (e := (eIx G false c)) (n := 3) (by rw [hGy]; exact x1) (by decide) hze rfl (fun z274 hz274 => aRes_g (Or.inl rfl) ?_))
        rw [hGy] at hz274
        have hq274 : z274 = ((unG G (eIx G false c) : Nat) : Int) := hz274.trans (rfl)
        refine R_iload rfl rfl ?_
        refine R_icmpne rfl ⟨by omega, by omega⟩ ⟨by omega, by omega⟩ (fun c279 => ?_) (fun c279 => ?_)
        · exact absurd (hq274.trans hzs.symm) c279
        · refine R_aload_n rfl rfl ?_
          refine R_iload rfl rfl ?_
          refine R_iconst rfl ?_
          refine R_vcall rfl rfl ⟨(by omega), _, hF.1⟩ ⟨Nat.le_of_ble_eq_true rfl, Nat.le_of_ble_eq_true rfl, (show _ ≤ 490 by omega), (show _ ≤ 2940 by omega)⟩ (entry_9 hF (by omega) (e := (eIx G false c)) (n := 4) (by rw [hGy]; exact x1) (by decide) hze rfl (fun z286 hz286 => aRes_g (Or.inl rfl) ?_))
          rw [hGy] at hz286
          have hq286 : z286 = ((emG G (eIx G false c) : Nat) : Int) := hz286.trans (rfl)
          refine R_iload rfl rfl ?_
          refine R_icmpne rfl ⟨by omega, by omega⟩ ⟨by omega, by omega⟩ (fun c291 => ?_) (fun c291 => ?_)
          · exact absurd (hq286.trans hzt.symm) c291
          · refine R_aload_n rfl rfl ?_
            refine R_iload rfl rfl ?_
            refine R_iconst rfl ?_
            refine R_vcall rfl rfl ⟨(by omega), _, hF.1⟩ ⟨Nat.le_of_ble_eq_true rfl, Nat.le_of_ble_eq_true rfl, (show _ ≤ 490 by omega), (show _ ≤ 2940 by omega)⟩ (entry_9 hF (by omega) (e := (eIx G false c)) (n := 5) (by rw [hGy]; exact x1) (by decide) hze rfl (fun z298 hz298 => aRes_g (Or.inl rfl) ?_))
            rw [hGy] at hz298
            have hq298 : z298 = clue G c := hz298.trans (congrArg (clue G) x2)
            refine R_iload rfl rfl ?_
            refine R_aload_n rfl rfl ?_
            refine R_scall rfl rfl ⟨Nat.le_of_ble_eq_true rfl, Nat.le_of_ble_eq_true rfl, (show _ ≤ 490 by omega), (show _ ≤ 2940 by omega)⟩ (clue_L (c := c) hZ hG hN rfl hc (fun z304 hz304 => aRes_g (Or.inl rfl) ?_))
            
            refine R_icmpne rfl ⟨by omega, by omega⟩ ⟨by omega, by omega⟩ (fun c307 => ?_) (fun c307 => ?_)
            · exact absurd (hq298.trans hz304.symm) c307
            · refine R_aload_n rfl rfl ?_
              refine R_iload rfl rfl ?_
              refine R_bipush rfl ?_
              refine R_vcall rfl rfl ⟨(by omega), _, hF.1⟩ ⟨Nat.le_of_ble_eq_true rfl, Nat.le_of_ble_eq_true rfl, (show _ ≤ 490 by omega), (show _ ≤ 2940 by omega)⟩ (entry_9 hF (by omega) (e := (eIx G false c)) (n := 6) (by rw [hGy]; exact x1) (by decide) hze rfl (fun z315 hz315 => aRes_g (Or.inl rfl) ?_))
              rw [hGy] at hz315
              have hq315 : z315 = wiG G (eIx G false c) := hz315.trans (rfl)
              refine R_iload rfl rfl ?_
              refine R_icmpne rfl ⟨by omega, by omega⟩ ⟨by omega, by omega⟩ (fun c320 => ?_) (fun c320 => ?_)
              · exact absurd (hq315.trans hzw.symm) c320
              · refine R_aload_n rfl rfl ?_
                refine R_iload rfl rfl ?_
                refine R_vcall rfl rfl ⟨(by omega), _, hF.1⟩ ⟨Nat.le_of_ble_eq_true rfl, Nat.le_of_ble_eq_true rfl, (show _ ≤ 490 by omega), (show _ ≤ 2940 by omega)⟩ (ofits_9 hF (by omega) (e := (eIx G false c)) (by rw [hGy]; exact x1) hze (fun z326 hz326 => aRes_g (Or.inl rfl) ?_))
                rw [hGy] at hz326
                refine R_iload rfl rfl ?_
                refine R_icmpeq rfl ⟨by omega, by omega⟩ ⟨by omega, by omega⟩ (fun c331 => ?_) (fun c331 => ?_)
                · exact k0
                · exact absurd (hz326.trans hzn9.symm) c331
set_option maxRecDepth 20000 in
theorem en8_0 {d N k n : Nat} {h : AH} {y : Sy} {G : Gr} {Q : AQ} (hF : isFace h y) (hGy : y.1 = G) (hZ : isW h G) (hV : isWo h G) (hG : sm4 G) (hN : 126 ≤ N) {c : Nat} {z4 z5 ze zs zt zn9 zw zj : Int} (hc : c < qM G) (hst : st G false c = true) (hze : ze = ((eIx G false c) : Nat)) (hzs : zs = (unG G (eIx G false c) : Nat)) (hzt : zt = (emG G (eIx G false c) : Nat)) (hzn9 : zn9 = (fcG G (eIx G false c) : Nat)) (hzw : zw = wiG G (eIx G false c)) {l9 : Nat} (hz5 : z5 = l9) (hl9 : l9 ≤ 9) (hk : k ≤ 490) (hn : n ≤ 2940) (k0 : ∀ zx : Int, zx = (if 0 < emG G (eIx G false c) ∧ fcG G (eIx G false c) < l9 then ze else z4) → Run mi_L_entries (T (d + 6)) Q 357 [some (vR 0), some (vI ((qW G : Nat) : Int)), some (vR 122), some (vR 123), some (vI zx), some (vI z5), some (vI (c : Int)), some (vI 0), some (vI ze), some (vI ((ln G false c : Nat) : Int)), some (vI zs), some (vI zt), some (vI zn9), some (vI zw), some (vI zj)] [] h N k n) : Run mi_L_entries (T (d + 6)) Q 336 [some (vR 0), some (vI ((qW G : Nat) : Int)), some (vR 122), some (vR 123), some (vI z4), some (vI z5), some (vI (c : Int)), some (vI 0), some (vI ze), some (vI ((ln G false c : Nat) : Int)), some (vI zs), some (vI zt), some (vI zn9), some (vI zw), some (vI zj)] [] h N k n := by
  obtain ⟨w, m0, hw0, hw1, wL, wE, wS⟩ := id hZ
  have r0 : w (0 : Int).toNat = (qR G : Int) := hw0
  have r1 : w (1 : Int).toNat = (qC G : Int) := hw1
  have hm16 := sm4_m hG
  obtain ⟨hO, hR4, hC4⟩ := id hG
  obtain ⟨hm4, hm36⟩ := hO.m
  obtain ⟨⟨hr2, hr6⟩, ⟨hc2, hc6⟩, gL, gB, gW, gWn, gWl, gN, gNl⟩ := id hO
  obtain ⟨hw4, v, mv, hv⟩ := id hV
  obtain ⟨x1, x2, x3, x4, x5⟩ := eix_e hO hst
  have hl6 := (ln_spec hO (b := false) hc).2.2
  have u1 : unG G (eIx G false c) ≤ eN G (eIx G false c) := ct_le _ _
  have u2 : emG G (eIx G false c) ≤ eN G (eIx G false c) := ct_le _ _
  have u3 := fc_8 hO (e := (eIx G false c))
  have u4 := clue_r hO hc
  have u5 : -9 ≤ wiG G (eIx G false c) ∧ wiG G (eIx G false c) ≤ 8 := by
    have := wi_r (p := fiG G (eIx G false c)) (qW G) 0
    unfold wiG
    split <;> omega
  refine R_iload rfl rfl ?_
  refine R_ifle rfl ⟨by omega, by omega⟩ (fun c338 => ?_) (fun c338 => ?_)
  · have hif : (if 0 < emG G (eIx G false c) ∧ fcG G (eIx G false c) < l9 then ze else z4) = z4 := if_neg (fun q => by omega)
    refine R_iload rfl rfl ?_
    refine R_istore (lv' := [_, _, _, _, _, _, _, _, _, _, _, _, _, _, _]) rfl rfl ?_
    exact k0 _ hif.symm
  · refine R_iload rfl rfl ?_
    refine R_iload rfl rfl ?_
    refine R_icmpge rfl ⟨by omega, by omega⟩ ⟨by omega, by omega⟩ (fun c345 => ?_) (fun c345 => ?_)
    · have hif : (if 0 < emG G (eIx G false c) ∧ fcG G (eIx G false c) < l9 then ze else z4) = z4 := if_neg (fun q => by omega)
      refine R_iload rfl rfl ?_
      refine R_istore (lv' := [_, _, _, _, _, _, _, _, _, _, _, _, _, _, _]) rfl rfl ?_
      exact k0 _ hif.symm
    · have hif : (if 0 < emG G (eIx G false c) ∧ fcG G (eIx G false c) < l9 then ze else z4) = ze := if_pos ⟨by omega, by omega⟩
      refine R_iload rfl rfl ?_
      refine R_goto rfl ?_
      refine R_istore (lv' := [_, _, _, _, _, _, _, _, _, _, _, _, _, _, _]) rfl rfl ?_
      exact k0 _ hif.symm
set_option maxRecDepth 20000 in
theorem en9_0 {d N k n : Nat} {h : AH} {y : Sy} {G : Gr} {Q : AQ} (hF : isFace h y) (hGy : y.1 = G) (hZ : isW h G) (hV : isWo h G) (hG : sm4 G) (hN : 126 ≤ N) {c : Nat} {z4 z5 ze zs zt zn9 zw zj : Int} (hc : c < qM G) (hst : st G false c = true) (hze : ze = ((eIx G false c) : Nat)) (hzs : zs = (unG G (eIx G false c) : Nat)) (hzt : zt = (emG G (eIx G false c) : Nat)) (hzn9 : zn9 = (fcG G (eIx G false c) : Nat)) (hzw : zw = wiG G (eIx G false c)) {l9 : Nat} (hz5 : z5 = l9) (hl9 : l9 ≤ 9) (hk : k ≤ 490) (hn : n ≤ 2940) (k0 : ∀ zx : Int, zx = ((if 0 < emG G (eIx G false c) ∧ fcG G (eIx G false c) < l9 then fcG G (eIx G false c) else l9 : Nat) : Int) → Run mi_L_entries (T (d + 6)) Q 378 [some (vR 0), some (vI ((qW G : Nat) : Int)), some (vR 122), some (vR 123), some (vI z4), some (vI zx), some (vI (c : Int)), some (vI 0), some (vI ze), some (vI ((ln G false c : Nat) : Int)), some (vI zs), some (vI zt), some (vI zn9), some (vI zw), some (vI zj)] [] h N k n) : Run mi_L_entries (T (d + 6)) Q 357 [some (vR 0), some (vI ((qW G : Nat) : Int)), some (vR 122), some (vR 123), some (vI z4), some (vI z5), some (vI (c : Int)), some (vI 0), some (vI ze), some (vI ((ln G false c : Nat) : Int)), some (vI zs), some (vI zt), some (vI zn9), some (vI zw), some (vI zj)] [] h N k n := by
  obtain ⟨w, m0, hw0, hw1, wL, wE, wS⟩ := id hZ
  have r0 : w (0 : Int).toNat = (qR G : Int) := hw0
  have r1 : w (1 : Int).toNat = (qC G : Int) := hw1
  have hm16 := sm4_m hG
  obtain ⟨hO, hR4, hC4⟩ := id hG
  obtain ⟨hm4, hm36⟩ := hO.m
  obtain ⟨⟨hr2, hr6⟩, ⟨hc2, hc6⟩, gL, gB, gW, gWn, gWl, gN, gNl⟩ := id hO
  obtain ⟨hw4, v, mv, hv⟩ := id hV
  obtain ⟨x1, x2, x3, x4, x5⟩ := eix_e hO hst
  have hl6 := (ln_spec hO (b := false) hc).2.2
  have u1 : unG G (eIx G false c) ≤ eN G (eIx G false c) := ct_le _ _
  have u2 : emG G (eIx G false c) ≤ eN G (eIx G false c) := ct_le _ _
  have u3 := fc_8 hO (e := (eIx G false c))
  have u4 := clue_r hO hc
  have u5 : -9 ≤ wiG G (eIx G false c) ∧ wiG G (eIx G false c) ≤ 8 := by
    have := wi_r (p := fiG G (eIx G false c)) (qW G) 0
    unfold wiG
    split <;> omega
  refine R_iload rfl rfl ?_
  refine R_ifle rfl ⟨by omega, by omega⟩ (fun c359 => ?_) (fun c359 => ?_)
  · have hif : (if 0 < emG G (eIx G false c) ∧ fcG G (eIx G false c) < l9 then fcG G (eIx G false c) else l9) = l9 := if_neg (fun q => by omega)
    refine R_iload rfl rfl ?_
    refine R_istore (lv' := [_, _, _, _, _, _, _, _, _, _, _, _, _, _, _]) rfl rfl ?_
    exact k0 _ (by rw [hif]; omega)
  · refine R_iload rfl rfl ?_
    refine R_iload rfl rfl ?_
    refine R_icmpge rfl ⟨by omega, by omega⟩ ⟨by omega, by omega⟩ (fun c366 => ?_) (fun c366 => ?_)
    · have hif : (if 0 < emG G (eIx G false c) ∧ fcG G (eIx G false c) < l9 then fcG G (eIx G false c) else l9) = l9 := if_neg (fun q => by omega)
      refine R_iload rfl rfl ?_
      refine R_istore (lv' := [_, _, _, _, _, _, _, _, _, _, _, _, _, _, _]) rfl rfl ?_
      exact k0 _ (by rw [hif]; omega)
    · have hif : (if 0 < emG G (eIx G false c) ∧ fcG G (eIx G false c) < l9 then fcG G (eIx G false c) else l9) = fcG G (eIx G false c) := if_pos ⟨by omega, by omega⟩
      refine R_iload rfl rfl ?_
      refine R_goto rfl ?_
      refine R_istore (lv' := [_, _, _, _, _, _, _, _, _, _, _, _, _, _, _]) rfl rfl ?_
      exact k0 _ (by rw [hif]; omega)
set_option maxRecDepth 20000 in
theorem enD_0 {d N k n : Nat} {h : AH} {y : Sy} {G : Gr} {Q : AQ} (hF : isFace h y) (hGy : y.1 = G) (hZ : isW h G) (hV : isWo h G) (hG : sm4 G) (hN : 126 ≤ N) {c l9 : Nat} {z4 z5 : Int} (hc : c < qM G) (hz5 : z5 = l9) (hl9 : l9 ≤ 9) (hk : k + 15 ≤ 490) (hn : n + 90 ≤ 2940) (k0 : ∀ (k1 n1 : Nat) (z4a z5a : Int) (l1 : Nat), k1 ≤ k + 15 → n1 ≤ n + 90 → z5a = l1 → l1 ≤ 9 → (∀ r, r = r → hdF G (r + tn (st G false c)) (eIx G false c) z4 l9 = hdF G r ((eIx G false c) + tn (st G false c)) z4a l1) → Run mi_L_entries (T (d + 6)) Q 378 [some (vR 0), some (vI ((qW G : Nat) : Int)), some (vR 122), some (vR 123), some (vI z4a), some (vI z5a), some (vI (c : Int)), some (vI 0), none, none, none, none, none, none, none] [] h N k1 n1) : Run mi_L_entries (T (d + 6)) Q 32 [some (vR 0), some (vI ((qW G : Nat) : Int)), some (vR 122), some (vR 123), some (vI z4), some (vI z5), some (vI (c : Int)), some (vI 0), none, none, none, none, none, none, none] [] h N k n := by
  obtain ⟨w, m0, hw0, hw1, wL, wE, wS⟩ := id hZ
  have r0 : w (0 : Int).toNat = (qR G : Int) := hw0
  have r1 : w (1 : Int).toNat = (qC G : Int) := hw1
  have hm16 := sm4_m hG
  obtain ⟨hO, hR4, hC4⟩ := id hG
  obtain ⟨hm4, hm36⟩ := hO.m
  obtain ⟨⟨hr2, hr6⟩, ⟨hc2, hc6⟩, gL, gB, gW, gWn, gWl, gN, gNl⟩ := id hO
  obtain ⟨hw4, v, mv, hv⟩ := id hV
  refine R_iload rfl rfl ?_
  refine R_iload rfl rfl ?_
  refine R_aload_n rfl rfl ?_
  refine R_scall rfl rfl ⟨Nat.le_of_ble_eq_true rfl, Nat.le_of_ble_eq_true rfl, (show _ ≤ 490 by omega), (show _ ≤ 2940 by omega)⟩ (starts_T (b := false) (c := c) hZ hG hN rfl rfl hc (fun z37 hz37 => aRes_g (Or.inl rfl) ?_))
  have hs37 := bI01 (st G false c)
  rw [← hz37] at hs37
  refine R_ifne rfl ⟨by omega, by omega⟩ (fun c40 => ?_) (fun c40 => ?_)
  · have hst := bI_t hz37 c40
    refine R_iload rfl rfl ?_
    refine R_iload rfl rfl ?_
    refine R_aload_n rfl rfl ?_
    refine R_scall rfl rfl ⟨Nat.le_of_ble_eq_true rfl, Nat.le_of_ble_eq_true rfl, (show _ ≤ 490 by omega), (show _ ≤ 2940 by omega)⟩ (entry_L (b := false) (c := c) hZ hG hN rfl rfl hc (fun z51 hz51 => aRes_g (Or.inl rfl) ?_))
    obtain ⟨x1, x2, x3, x4, x5⟩ := eix_e hO hst
    rw [x4] at hz51
    refine R_istore (lv' := [_, _, _, _, _, _, _, _, _, _, _, _, _, _, _]) rfl rfl ?_
    refine R_iload rfl rfl ?_
    refine R_iload rfl rfl ?_
    refine R_aload_n rfl rfl ?_
    refine R_scall rfl rfl ⟨Nat.le_of_ble_eq_true rfl, Nat.le_of_ble_eq_true rfl, (show _ ≤ 490 by omega), (show _ ≤ 2940 by omega)⟩ (length_T (b := false) (c := c) hZ hG hN rfl rfl hc (fun z61 hz61 => aRes_g (Or.inl rfl) ?_))
    rw [lnC_st hO hc (rs_stop (st_iff.mp hst).2)] at hz61
    subst hz61
    refine R_istore (lv' := [_, _, _, _, _, _, _, _, _, _, _, _, _, _, _]) rfl rfl ?_
    refine R_iconst rfl ?_
    refine R_istore (lv' := [_, _, _, _, _, _, _, _, _, _, _, _, _, _, _]) rfl rfl ?_
    refine R_iconst rfl ?_
    refine R_istore (lv' := [_, _, _, _, _, _, _, _, _, _, _, _, _, _, _]) rfl rfl ?_
    refine R_iconst rfl ?_
    refine R_istore (lv' := [_, _, _, _, _, _, _, _, _, _, _, _, _, _, _]) rfl rfl ?_
    refine en3_0 hF hGy hZ hV hG hN hc hst (by omega) (by omega) (ln G false c) 0 _ _ _ (Nat.zero_add _) rfl (fun zs1 zt1 zi1 hs1 ht1 => ?_)
    have hs2 : zt1 = (emG G (eIx G false c) : Nat) := by rw [ht1, Int.zero_add]; unfold emG; rw [x5]
    have hem6 : emG G (eIx G false c) ≤ 6 := by
      have u2 : emG G (eIx G false c) ≤ eN G (eIx G false c) := ct_le _ _
      have := (ln_spec hO (b := false) hc).2.2.2
      omega
    refine R_iconst rfl ?_
    refine R_istore (lv' := [_, _, _, _, _, _, _, _, _, _, _, _, _, _, _]) rfl rfl ?_
    refine R_bipush rfl ?_
    refine R_istore (lv' := [_, _, _, _, _, _, _, _, _, _, _, _, _, _, _]) rfl rfl ?_
    refine R_iload_n rfl rfl ?_
    refine R_iconst rfl ?_
    refine R_isub rfl ?_
    refine R_istore (lv' := [_, _, _, _, _, _, _, _, _, _, _, _, _, _, _]) rfl rfl ?_
    refine en6_0 hF hGy hZ hV hG hN hc hst (by rw [hs2]; omega) (by omega) (by omega) (qW G) _ _ _ (Nat.le_refl _) rfl (by rw [Nat.sub_self]; rfl) (by rw [Nat.sub_self]; simp only [fsF]; split <;> rfl) (fun zn1 zw1 zj1 hn1 hw1 => ?_)
    have hs3 : zs1 = (unG G (eIx G false c) : Nat) := by rw [hs1, Int.zero_add]; unfold unG; rw [x5]
    have hzw1 : zw1 = wiG G (eIx G false c) := by
      rw [hw1, hs2]
      unfold wiG
      rw [Nat.sub_zero]
      by_cases q : emG G (eIx G false c) = 0
      · rw [if_pos (by omega), if_pos q]
      · rw [if_neg (by omega), if_neg q]
    refine en7_0 hF hGy hZ hV hG hN hc hst hz51 hs3 hs2 hn1 hzw1 (by omega) (by omega) ?_
    refine en8_0 hF hGy hZ hV hG hN hc hst hz51 hs3 hs2 hn1 hzw1 hz5 hl9 (by omega) (by omega) (fun z4a e4 => ?_)
    refine en9_0 hF hGy hZ hV hG hN hc hst hz51 hs3 hs2 hn1 hzw1 hz5 hl9 (by omega) (by omega) (fun z5a e5 => ?_)
    refine Run.lv (lv' := [_, _, _, _, _, _, _, _, none, none, none, none, none, none, none]) ?_ ⟨Or.inr rfl, Or.inr rfl, Or.inr rfl, Or.inr rfl, Or.inr rfl, Or.inr rfl, Or.inr rfl, Or.inr rfl, Or.inl rfl, Or.inl rfl, Or.inl rfl, Or.inl rfl, Or.inl rfl, Or.inl rfl, Or.inl rfl, trivial⟩
    have hfc8 := fc_8 hO (e := (eIx G false c))
    by_cases q : 0 < emG G (eIx G false c) ∧ fcG G (eIx G false c) < l9
    · rw [if_pos q] at e4 e5
      exact k0 (k + 15) (n + 90) _ _ (fcG G (eIx G false c)) (by omega) (by omega) e5 (by omega) (fun r hr => by
        rw [hst]
        show hdF G (r + 1) (eIx G false c) z4 l9 = _
        simp only [hdF]
        rw [if_pos q, e4, hz51]
        rfl)
    · rw [if_neg q] at e4 e5
      exact k0 (k + 15) (n + 90) _ _ l9 (by omega) (by omega) e5 hl9 (fun r hr => by
        rw [hst]
        show hdF G (r + 1) (eIx G false c) z4 l9 = _
        simp only [hdF]
        rw [if_neg q, e4]
        rfl)
  · have hst : st G false c = false := bI_f hz37 (by omega)
    refine R_goto rfl ?_
    refine Run.lv (lv' := [_, _, _, _, _, _, _, _, none, none, none, none, none, none, none]) ?_ ⟨Or.inr rfl, Or.inr rfl, Or.inr rfl, Or.inr rfl, Or.inr rfl, Or.inr rfl, Or.inr rfl, Or.inr rfl, Or.inl rfl, Or.inl rfl, Or.inl rfl, Or.inl rfl, Or.inl rfl, Or.inl rfl, Or.inl rfl, trivial⟩
    exact k0 k n _ _ l9 (by omega) (by omega) hz5 hl9 (fun r hr => by rw [hst]; rfl)
set_option maxRecDepth 20000 in
theorem en1_1 {d N k n : Nat} {h : AH} {y : Sy} {G : Gr} {Q : AQ} (hF : isFace h y) (hGy : y.1 = G) (hZ : isW h G) (hV : isWo h G) (hG : sm4 G) (hN : 126 ≤ N) {c : Nat} {z4 z5 ze zm zs zt : Int} (hc : c < qM G) {i : Nat} (hcl : c + i * sp G true < qM G) (hce : cel G (eIx G true c) i = c + i * sp G true) (hk : k ≤ 490) (hn : n ≤ 2940) (k0 : ∀ zx : Int, zx = zs + (tn (pUn G (eIx G true c) i) : Nat) → Run mi_L_entries (T (d + 6)) Q 118 [some (vR 0), some (vI ((qW G : Nat) : Int)), some (vR 122), some (vR 123), some (vI z4), some (vI z5), some (vI (c : Int)), some (vI 1), some (vI ze), some (vI zm), some (vI zx), some (vI zt), some (vI (i : Int)), none, none] [] h N k n) : Run mi_L_entries (T (d + 6)) Q 82 [some (vR 0), some (vI ((qW G : Nat) : Int)), some (vR 122), some (vR 123), some (vI z4), some (vI z5), some (vI (c : Int)), some (vI 1), some (vI ze), some (vI zm), some (vI zs), some (vI zt), some (vI (i : Int)), none, none] [] h N k n := by
  obtain ⟨w, m0, hw0, hw1, wL, wE, wS⟩ := id hZ
  have r0 : w (0 : Int).toNat = (qR G : Int) := hw0
  have r1 : w (1 : Int).toNat = (qC G : Int) := hw1
  have hm16 := sm4_m hG
  obtain ⟨hO, hR4, hC4⟩ := id hG
  obtain ⟨hm4, hm36⟩ := hO.m
  obtain ⟨⟨hr2, hr6⟩, ⟨hc2, hc6⟩, gL, gB, gW, gWn, gWl, gN, gNl⟩ := id hO
  obtain ⟨hw4, v, mv, hv⟩ := id hV
  have hmz : (i : Int) * (qC G : Int) = ((i * sp G true : Nat) : Int) := rfl
  refine R_iload rfl rfl ?_
  refine R_iload rfl rfl ?_
  refine R_iload rfl rfl ?_
  refine R_iload rfl rfl ?_
  refine R_ifne rfl ⟨by decide, by decide⟩ (fun _ => ?_) (fun c0 => absurd c0 (by decide))
  refine R_aload_n rfl rfl ?_
  refine R_iconst rfl ?_
  refine R_iaload rfl (Or.inl (by omega)) m0 ⟨by omega, by omega, by omega⟩ ?_
  rw [r1]
  refine R_imul rfl ?_
  refine R_iadd rfl ?_
  refine R_aload_n rfl rfl ?_
  refine R_scall rfl rfl ⟨Nat.le_of_ble_eq_true rfl, Nat.le_of_ble_eq_true rfl, (show _ ≤ 490 by omega), (show _ ≤ 2940 by omega)⟩ (in_T (c := c + i * sp G true) hZ hG hN (by rw [hmz]; rfl) hcl (fun z103 hz103 => aRes_g (Or.inl rfl) ?_))
  have hr103 := enC_2 (G := G) (x := c + i * sp G true)
  refine R_iconst rfl ?_
  refine R_icmpne rfl ⟨by omega, by omega⟩ ⟨by decide, by decide⟩ (fun c107 => ?_) (fun c107 => ?_)
  · have hp : pUn G (eIx G true c) i = false := by
      unfold pUn
      rw [hce]
      exact decide_eq_false (by omega)
    refine R_iconst rfl ?_
    refine R_iadd rfl ?_
    refine R_istore (lv' := [_, _, _, _, _, _, _, _, _, _, _, _, _, _, _]) rfl rfl ?_
    exact k0 _ (by rw [hp]; simp [tn])
  · have hp : pUn G (eIx G true c) i = true := by
      unfold pUn
      rw [hce]
      exact decide_eq_true (by omega)
    refine R_iconst rfl ?_
    refine R_goto rfl ?_
    refine R_iadd rfl ?_
    refine R_istore (lv' := [_, _, _, _, _, _, _, _, _, _, _, _, _, _, _]) rfl rfl ?_
    exact k0 _ (by rw [hp]; simp [tn])
set_option maxRecDepth 20000 in
theorem en2_1 {d N k n : Nat} {h : AH} {y : Sy} {G : Gr} {Q : AQ} (hF : isFace h y) (hGy : y.1 = G) (hZ : isW h G) (hV : isWo h G) (hG : sm4 G) (hN : 126 ≤ N) {c : Nat} {z4 z5 ze zm zs zt : Int} (hc : c < qM G) {i : Nat} (hcl : c + i * sp G true < qM G) (hce : cel G (eIx G true c) i = c + i * sp G true) (hk : k ≤ 490) (hn : n ≤ 2940) (k0 : ∀ zx : Int, zx = zt + (tn (pEm G (eIx G true c) i) : Nat) → Run mi_L_entries (T (d + 6)) Q 153 [some (vR 0), some (vI ((qW G : Nat) : Int)), some (vR 122), some (vR 123), some (vI z4), some (vI z5), some (vI (c : Int)), some (vI 1), some (vI ze), some (vI zm), some (vI zs), some (vI zx), some (vI (i : Int)), none, none] [] h N k n) : Run mi_L_entries (T (d + 6)) Q 118 [some (vR 0), some (vI ((qW G : Nat) : Int)), some (vR 122), some (vR 123), some (vI z4), some (vI z5), some (vI (c : Int)), some (vI 1), some (vI ze), some (vI zm), some (vI zs), some (vI zt), some (vI (i : Int)), none, none] [] h N k n := by
  obtain ⟨w, m0, hw0, hw1, wL, wE, wS⟩ := id hZ
  have r0 : w (0 : Int).toNat = (qR G : Int) := hw0
  have r1 : w (1 : Int).toNat = (qC G : Int) := hw1
  have hm16 := sm4_m hG
  obtain ⟨hO, hR4, hC4⟩ := id hG
  obtain ⟨hm4, hm36⟩ := hO.m
  obtain ⟨⟨hr2, hr6⟩, ⟨hc2, hc6⟩, gL, gB, gW, gWn, gWl, gN, gNl⟩ := id hO
  obtain ⟨hw4, v, mv, hv⟩ := id hV
  have hmz : (i : Int) * (qC G : Int) = ((i * sp G true : Nat) : Int) := rfl
  have hwl : w ((2 : Int) + (c : Int) + ((i * sp G true : Nat) : Int)).toNat = qL G (c + i * sp G true) := by
    rw [show ((2 : Int) + (c : Int) + ((i * sp G true : Nat) : Int)).toNat = 2 + (c + i * sp G true) by omega]
    exact wL _ hcl
  have hlr : 0 ≤ qL G (c + i * sp G true) ∧ qL G (c + i * sp G true) ≤ 122 := by
    rcases gL _ hcl with q | ⟨q1, q2⟩ <;> omega
  refine R_iload rfl rfl ?_
  refine R_aload_n rfl rfl ?_
  refine R_iconst rfl ?_
  refine R_iload rfl rfl ?_
  refine R_iadd rfl ?_
  refine R_iload rfl rfl ?_
  refine R_iload rfl rfl ?_
  refine R_ifne rfl ⟨by decide, by decide⟩ (fun _ => ?_) (fun c0 => absurd c0 (by decide))
  refine R_aload_n rfl rfl ?_
  refine R_iconst rfl ?_
  refine R_iaload rfl (Or.inl (by omega)) m0 ⟨by omega, by omega, by omega⟩ ?_
  rw [r1]
  refine R_imul rfl ?_
  rw [hmz]
  refine R_iadd rfl ?_
  refine R_iaload rfl (Or.inl (by omega)) m0 ⟨by omega, by omega, by omega⟩ ?_
  rw [hwl]
  refine R_ifne rfl ⟨by omega, by omega⟩ (fun c142 => ?_) (fun c142 => ?_)
  · have hp : pEm G (eIx G true c) i = false := by
      unfold pEm
      rw [hce]
      exact decide_eq_false c142
    refine R_iconst rfl ?_
    refine R_iadd rfl ?_
    refine R_istore (lv' := [_, _, _, _, _, _, _, _, _, _, _, _, _, _, _]) rfl rfl ?_
    exact k0 _ (by rw [hp]; simp [tn])
  · have hp : pEm G (eIx G true c) i = true := by
      unfold pEm
      rw [hce]
      exact decide_eq_true (by omega)
    refine R_iconst rfl ?_
    refine R_goto rfl ?_
    refine R_iadd rfl ?_
    refine R_istore (lv' := [_, _, _, _, _, _, _, _, _, _, _, _, _, _, _]) rfl rfl ?_
    exact k0 _ (by rw [hp]; simp [tn])
set_option maxRecDepth 20000 in
theorem en3_1 {d N k n : Nat} {h : AH} {y : Sy} {G : Gr} {Q : AQ} (hF : isFace h y) (hGy : y.1 = G) (hZ : isW h G) (hV : isWo h G) (hG : sm4 G) (hN : 126 ≤ N) {c : Nat} {z4 z5 ze : Int} (hc : c < qM G) (hst : st G true c = true) (hk : k ≤ 490) (hn : n ≤ 2940) : ∀ (r i : Nat) (zs zt zi : Int), i + r = ln G true c → zi = i → (∀ zs1 zt1 zi1 : Int, zs1 = zs + (ctF (pUn G (eIx G true c)) r i : Nat) → zt1 = zt + (ctF (pEm G (eIx G true c)) r i : Nat) → Run mi_L_entries (T (d + 6)) Q 159 [some (vR 0), some (vI ((qW G : Nat) : Int)), some (vR 122), some (vR 123), some (vI z4), some (vI z5), some (vI (c : Int)), some (vI 1), some (vI ze), some (vI ((ln G true c : Nat) : Int)), some (vI zs1), some (vI zt1), some (vI zi1), none, none] [] h N k n) → Run mi_L_entries (T (d + 6)) Q 75 [some (vR 0), some (vI ((qW G : Nat) : Int)), some (vR 122), some (vR 123), some (vI z4), some (vI z5), some (vI (c : Int)), some (vI 1), some (vI ze), some (vI ((ln G true c : Nat) : Int)), some (vI zs), some (vI zt), some (vI zi), none, none] [] h N k n := by
  obtain ⟨w, m0, hw0, hw1, wL, wE, wS⟩ := id hZ
  have r0 : w (0 : Int).toNat = (qR G : Int) := hw0
  have r1 : w (1 : Int).toNat = (qC G : Int) := hw1
  have hm16 := sm4_m hG
  obtain ⟨hO, hR4, hC4⟩ := id hG
  obtain ⟨hm4, hm36⟩ := hO.m
  obtain ⟨⟨hr2, hr6⟩, ⟨hc2, hc6⟩, gL, gB, gW, gWn, gWl, gN, gNl⟩ := id hO
  obtain ⟨hw4, v, mv, hv⟩ := id hV
  obtain ⟨x1, x2, x3, x4, x5⟩ := eix_e hO hst
  have hl6 := (ln_spec hO (b := true) hc).2.2
  intro r
  induction r using Nat.strongRecOn with
  | ind r ih =>
  intro i zs zt zi hr hzi k0
  refine R_iload rfl rfl ?_
  refine R_iload rfl rfl ?_
  refine R_icmpge rfl ⟨by omega, by omega⟩ ⟨by omega, by omega⟩ (fun c79 => ?_) (fun c79 => ?_)
  · have hr0 : r = 0 := by omega
    subst hr0
    exact k0 _ _ _ (by simp only [ctF]; omega) (by simp only [ctF]; omega)
  · obtain ⟨r, rfl⟩ : ∃ r1, r = r1 + 1 := ⟨r - 1, by omega⟩
    subst hzi
    have hcl := run_cell hO (b := true) hc (i := i) (by omega)
    have hce : cel G (eIx G true c) i = c + i * sp G true := by
      unfold cel
      rw [x2, x3]
    refine en1_1 hF hGy hZ hV hG hN hc (i := i) hcl hce hk hn (fun y1 e1 => ?_)
    refine en2_1 hF hGy hZ hV hG hN hc (i := i) hcl hce hk hn (fun y2 e2 => ?_)
    refine R_iinc (lv' := [_, _, _, _, _, _, _, _, _, _, _, _, _, _, _]) rfl rfl rfl ?_
    refine R_goto rfl ?_
    exact ih r (by omega) (i + 1) _ _ _ (by omega) (by omega) (fun s1 t1 i1 hs1 ht1 => k0 s1 t1 i1 (by rw [hs1, e1]; simp only [ctF]; omega) (by rw [ht1, e2]; simp only [ctF]; omega))
set_option maxRecDepth 20000 in
theorem en4_1 {d N k n : Nat} {h : AH} {y : Sy} {G : Gr} {Q : AQ} (hF : isFace h y) (hGy : y.1 = G) (hZ : isW h G) (hV : isWo h G) (hG : sm4 G) (hN : 126 ≤ N) {c j : Nat} {z4 z5 ze zm zs zt zn9 zw : Int} (hc : c < qM G) (hst : st G true c = true) (hj : j < qW G) (hk : k ≤ 490) (hn : n ≤ 2940) (k0 : ∀ zx : Int, zx = zn9 + (tn (fiG G (eIx G true c) j) : Nat) → Run mi_L_entries (T (d + 6)) Q 200 [some (vR 0), some (vI ((qW G : Nat) : Int)), some (vR 122), some (vR 123), some (vI z4), some (vI z5), some (vI (c : Int)), some (vI 1), some (vI ze), some (vI zm), some (vI zs), some (vI zt), some (vI zx), some (vI zw), some (vI (j : Int))] [] h N k n) : Run mi_L_entries (T (d + 6)) Q 176 [some (vR 0), some (vI ((qW G : Nat) : Int)), some (vR 122), some (vR 123), some (vI z4), some (vI z5), some (vI (c : Int)), some (vI 1), some (vI ze), some (vI zm), some (vI zs), some (vI zt), some (vI zn9), some (vI zw), some (vI (j : Int))] [] h N k n := by
  obtain ⟨w, m0, hw0, hw1, wL, wE, wS⟩ := id hZ
  have r0 : w (0 : Int).toNat = (qR G : Int) := hw0
  have r1 : w (1 : Int).toNat = (qC G : Int) := hw1
  have hm16 := sm4_m hG
  obtain ⟨hO, hR4, hC4⟩ := id hG
  obtain ⟨hm4, hm36⟩ := hO.m
  obtain ⟨⟨hr2, hr6⟩, ⟨hc2, hc6⟩, gL, gB, gW, gWn, gWl, gN, gNl⟩ := id hO
  obtain ⟨hw4, v, mv, hv⟩ := id hV
  obtain ⟨x1, x2, x3, x4, x5⟩ := eix_e hO hst
  have hfi : fi2 G true c j = fiG G (eIx G true c) j := by
    rw [← fi2_e, x2, x3]
  refine R_iload rfl rfl ?_
  refine R_iload rfl rfl ?_
  refine R_iload rfl rfl ?_
  refine R_iload rfl rfl ?_
  refine R_aload_n rfl rfl ?_
  refine R_aload_n rfl rfl ?_
  refine R_scall rfl rfl ⟨Nat.le_of_ble_eq_true rfl, Nat.le_of_ble_eq_true rfl, (show _ ≤ 490 by omega), (show _ ≤ 2940 by omega)⟩ (fits_L (c := c) (j := j) (b := true) hZ hV hG hN hc hj rfl rfl rfl hst (fun z186 hz186 => aRes_g (Or.inl rfl) ?_))
  rw [hfi] at hz186
  have hs186 := bI01 (fiG G (eIx G true c) j)
  rw [← hz186] at hs186
  refine R_ifeq rfl ⟨by omega, by omega⟩ (fun c189 => ?_) (fun c189 => ?_)
  · have hp := bI_f hz186 c189
    refine R_iconst rfl ?_
    refine R_iadd rfl ?_
    refine R_istore (lv' := [_, _, _, _, _, _, _, _, _, _, _, _, _, _, _]) rfl rfl ?_
    exact k0 _ (by rw [hp]; simp [tn])
  · have hp := bI_t hz186 c189
    refine R_iconst rfl ?_
    refine R_goto rfl ?_
    refine R_iadd rfl ?_
    refine R_istore (lv' := [_, _, _, _, _, _, _, _, _, _, _, _, _, _, _]) rfl rfl ?_
    exact k0 _ (by rw [hp]; simp [tn])
set_option maxRecDepth 20000 in
theorem en5_1 {d N k n : Nat} {h : AH} {y : Sy} {G : Gr} {Q : AQ} (hF : isFace h y) (hGy : y.1 = G) (hZ : isW h G) (hV : isWo h G) (hG : sm4 G) (hN : 126 ≤ N) {c j : Nat} {z4 z5 ze zm zs zt zn9 zw : Int} (hc : c < qM G) (hst : st G true c = true) (hj : j < qW G) (hzt : 0 ≤ zt ∧ zt ≤ 6) (hk : k ≤ 490) (hn : n ≤ 2940) (k0 : ∀ zx : Int, zx = (if zt = 0 then (if fiG G (eIx G true c) j = true then (j : Int) else zw) else zw) → Run mi_L_entries (T (d + 6)) Q 228 [some (vR 0), some (vI ((qW G : Nat) : Int)), some (vR 122), some (vR 123), some (vI z4), some (vI z5), some (vI (c : Int)), some (vI 1), some (vI ze), some (vI zm), some (vI zs), some (vI zt), some (vI zn9), some (vI zx), some (vI (j : Int))] [] h N k n) : Run mi_L_entries (T (d + 6)) Q 200 [some (vR 0), some (vI ((qW G : Nat) : Int)), some (vR 122), some (vR 123), some (vI z4), some (vI z5), some (vI (c : Int)), some (vI 1), some (vI ze), some (vI zm), some (vI zs), some (vI zt), some (vI zn9), some (vI zw), some (vI (j : Int))] [] h N k n := by
  obtain ⟨w, m0, hw0, hw1, wL, wE, wS⟩ := id hZ
  have r0 : w (0 : Int).toNat = (qR G : Int) := hw0
  have r1 : w (1 : Int).toNat = (qC G : Int) := hw1
  have hm16 := sm4_m hG
  obtain ⟨hO, hR4, hC4⟩ := id hG
  obtain ⟨hm4, hm36⟩ := hO.m
  obtain ⟨⟨hr2, hr6⟩, ⟨hc2, hc6⟩, gL, gB, gW, gWn, gWl, gN, gNl⟩ := id hO
  obtain ⟨hw4, v, mv, hv⟩ := id hV
  obtain ⟨x1, x2, x3, x4, x5⟩ := eix_e hO hst
  have hfi : fi2 G true c j = fiG G (eIx G true c) j := by
    rw [← fi2_e, x2, x3]
  obtain ⟨hzt1, hzt2⟩ := hzt
  refine R_iload rfl rfl ?_
  refine R_ifne rfl ⟨by omega, by omega⟩ (fun c202 => ?_) (fun c202 => ?_)
  · have hw9 : (if zt = 0 then (if fiG G (eIx G true c) j = true then (j : Int) else zw) else zw) = zw := if_neg c202
    refine R_iload rfl rfl ?_
    refine R_istore (lv' := [_, _, _, _, _, _, _, _, _, _, _, _, _, _, _]) rfl rfl ?_
    exact k0 _ hw9.symm
  · refine R_iload rfl rfl ?_
    refine R_iload rfl rfl ?_
    refine R_iload rfl rfl ?_
    refine R_aload_n rfl rfl ?_
    refine R_aload_n rfl rfl ?_
    refine R_scall rfl rfl ⟨Nat.le_of_ble_eq_true rfl, Nat.le_of_ble_eq_true rfl, (show _ ≤ 490 by omega), (show _ ≤ 2940 by omega)⟩ (fits_L (c := c) (j := j) (b := true) hZ hV hG hN hc hj rfl rfl rfl hst (fun z213 hz213 => aRes_g (Or.inl rfl) ?_))
    rw [hfi] at hz213
    have hs213 := bI01 (fiG G (eIx G true c) j)
    rw [← hz213] at hs213
    refine R_ifeq rfl ⟨by omega, by omega⟩ (fun c216 => ?_) (fun c216 => ?_)
    · have hp := bI_f hz213 c216
      have hw9 : (if zt = 0 then (if fiG G (eIx G true c) j = true then (j : Int) else zw) else zw) = zw := by
        rw [if_pos (by omega), if_neg (by rw [hp]; decide)]
      refine R_iload rfl rfl ?_
      refine R_istore (lv' := [_, _, _, _, _, _, _, _, _, _, _, _, _, _, _]) rfl rfl ?_
      exact k0 _ hw9.symm
    · have hp := bI_t hz213 c216
      have hw9 : (if zt = 0 then (if fiG G (eIx G true c) j = true then (j : Int) else zw) else zw) = (j : Int) := by
        rw [if_pos (by omega), if_pos hp]
      refine R_iload rfl rfl ?_
      refine R_goto rfl ?_
      refine R_istore (lv' := [_, _, _, _, _, _, _, _, _, _, _, _, _, _, _]) rfl rfl ?_
      exact k0 _ hw9.symm
set_option maxRecDepth 20000 in
theorem en6_1 {d N k n : Nat} {h : AH} {y : Sy} {G : Gr} {Q : AQ} (hF : isFace h y) (hGy : y.1 = G) (hZ : isW h G) (hV : isWo h G) (hG : sm4 G) (hN : 126 ≤ N) {c : Nat} {z4 z5 ze zm zs zt : Int} (hc : c < qM G) (hst : st G true c = true) (hzt : 0 ≤ zt ∧ zt ≤ 6) (hk : k ≤ 490) (hn : n ≤ 2940) : ∀ (r : Nat) (zn9 zw zj : Int), r ≤ qW G → zj = (r : Int) - 1 → zn9 = (ctF (fiG G (eIx G true c)) (qW G - r) r : Nat) → zw = (if zt = 0 then fsF (fiG G (eIx G true c)) (qW G - r) r else -9) → (∀ zn1 zw1 zj1 : Int, zn1 = (ctF (fiG G (eIx G true c)) (qW G - 0) 0 : Nat) → zw1 = (if zt = 0 then fsF (fiG G (eIx G true c)) (qW G - 0) 0 else -9) → Run mi_L_entries (T (d + 6)) Q 234 [some (vR 0), some (vI ((qW G : Nat) : Int)), some (vR 122), some (vR 123), some (vI z4), some (vI z5), some (vI (c : Int)), some (vI 1), some (vI ze), some (vI zm), some (vI zs), some (vI zt), some (vI zn1), some (vI zw1), some (vI zj1)] [] h N k n) → Run mi_L_entries (T (d + 6)) Q 171 [some (vR 0), some (vI ((qW G : Nat) : Int)), some (vR 122), some (vR 123), some (vI z4), some (vI z5), some (vI (c : Int)), some (vI 1), some (vI ze), some (vI zm), some (vI zs), some (vI zt), some (vI zn9), some (vI zw), some (vI zj)] [] h N k n := by
  obtain ⟨w, m0, hw0, hw1, wL, wE, wS⟩ := id hZ
  have r0 : w (0 : Int).toNat = (qR G : Int) := hw0
  have r1 : w (1 : Int).toNat = (qC G : Int) := hw1
  have hm16 := sm4_m hG
  obtain ⟨hO, hR4, hC4⟩ := id hG
  obtain ⟨hm4, hm36⟩ := hO.m
  obtain ⟨⟨hr2, hr6⟩, ⟨hc2, hc6⟩, gL, gB, gW, gWn, gWl, gN, gNl⟩ := id hO
  obtain ⟨hw4, v, mv, hv⟩ := id hV
  intro r
  induction r using Nat.strongRecOn with
  | ind r ih =>
  intro zn9 zw zj hr hzj g1 g2 k0
  refine R_iload rfl rfl ?_
  refine R_iflt rfl ⟨by omega, by omega⟩ (fun c173 => ?_) (fun c173 => ?_)
  · have hr0 : r = 0 := by omega
    subst hr0
    exact k0 _ _ _ g1 g2
  · obtain ⟨r, rfl⟩ : ∃ r1, r = r1 + 1 := ⟨r - 1, by omega⟩
    obtain rfl : zj = (r : Int) := by omega
    refine en4_1 hF hGy hZ hV hG hN hc hst (j := r) (by omega) hk hn (fun y1 e1 => ?_)
    refine en5_1 hF hGy hZ hV hG hN hc hst (j := r) (by omega) hzt hk hn (fun y2 e2 => ?_)
    refine R_iinc (lv' := [_, _, _, _, _, _, _, _, _, _, _, _, _, _, _]) rfl rfl rfl ?_
    refine R_goto rfl ?_
    exact ih r (by omega) _ _ _ (by omega) (by omega) (by rw [e1, g1, show qW G - r = (qW G - (r + 1)) + 1 by omega]; simp only [ctF]; omega) (by
      rw [e2, show qW G - r = (qW G - (r + 1)) + 1 by omega]
      by_cases q : zt = 0
      · rw [if_pos q, if_pos q]
        simp only [fsF]
        rw [if_pos q] at g2
        rw [← g2]
      · rw [if_neg q, if_neg q]
        rw [if_neg q] at g2
        exact g2) k0
set_option maxRecDepth 20000 in
theorem en7_1 {d N k n : Nat} {h : AH} {y : Sy} {G : Gr} {Q : AQ} (hF : isFace h y) (hGy : y.1 = G) (hZ : isW h G) (hV : isWo h G) (hG : sm4 G) (hN : 126 ≤ N) {c : Nat} {z4 z5 ze zs zt zn9 zw zj : Int} (hc : c < qM G) (hst : st G true c = true) (hze : ze = ((eIx G true c) : Nat)) (hzs : zs = (unG G (eIx G true c) : Nat)) (hzt : zt = (emG G (eIx G true c) : Nat)) (hzn9 : zn9 = (fcG G (eIx G true c) : Nat)) (hzw : zw = wiG G (eIx G true c)) (hk : k + 15 ≤ 490) (hn : n + 90 ≤ 2940) (k0 : Run mi_L_entries (T (d + 6)) Q 336 [some (vR 0), some (vI ((qW G : Nat) : Int)), some (vR 122), some (vR 123), some (vI z4), some (vI z5), some (vI (c : Int)), some (vI 1), some (vI ze), some (vI ((ln G true c : Nat) : Int)), some (vI zs), some (vI zt), some (vI zn9), some (vI zw), some (vI zj)] [] h N (k + 15) (n + 90)) : Run mi_L_entries (T (d + 6)) Q 234 [some (vR 0), some (vI ((qW G : Nat) : Int)), some (vR 122), some (vR 123), some (vI z4), some (vI z5), some (vI (c : Int)), some (vI 1), some (vI ze), some (vI ((ln G true c : Nat) : Int)), some (vI zs), some (vI zt), some (vI zn9), some (vI zw), some (vI zj)] [] h N k n := by
  obtain ⟨w, m0, hw0, hw1, wL, wE, wS⟩ := id hZ
  have r0 : w (0 : Int).toNat = (qR G : Int) := hw0
  have r1 : w (1 : Int).toNat = (qC G : Int) := hw1
  have hm16 := sm4_m hG
  obtain ⟨hO, hR4, hC4⟩ := id hG
  obtain ⟨hm4, hm36⟩ := hO.m
  obtain ⟨⟨hr2, hr6⟩, ⟨hc2, hc6⟩, gL, gB, gW, gWn, gWl, gN, gNl⟩ := id hO
  obtain ⟨hw4, v, mv, hv⟩ := id hV
  obtain ⟨x1, x2, x3, x4, x5⟩ := eix_e hO hst
  have hl6 := (ln_spec hO (b := true) hc).2.2
  have u1 : unG G (eIx G true c) ≤ eN G (eIx G true c) := ct_le _ _
  have u2 : emG G (eIx G true c) ≤ eN G (eIx G true c) := ct_le _ _
  have u3 := fc_8 hO (e := (eIx G true c))
  have u4 := clue_r hO hc
  have u5 : -9 ≤ wiG G (eIx G true c) ∧ wiG G (eIx G true c) ≤ 8 := by
    have := wi_r (p := fiG G (eIx G true c)) (qW G) 0
    unfold wiG
    split <;> omega
  refine R_aload_n rfl rfl ?_
  refine R_iload rfl rfl ?_
  refine R_iconst rfl ?_
  refine R_vcall rfl rfl ⟨(by omega), _, hF.1⟩ ⟨Nat.le_of_ble_eq_true rfl, Nat.le_of_ble_eq_true rfl, (show _ ≤ 490 by omega), (show _ ≤ 2940 by omega)⟩ (entry_9 hF (by omega) (e := (eIx G true c)) (n := 0) (by rw [hGy]; exact x1) (by decide) hze rfl (fun z238 hz238 => aRes_g (Or.inl rfl) ?_))
  rw [hGy] at hz238
  have hq238 : z238 = (c : Int) := hz238.trans (congrArg Nat.cast x2)
  refine R_iload rfl rfl ?_
  refine R_icmpne rfl ⟨by omega, by omega⟩ ⟨by omega, by omega⟩ (fun c243 => ?_) (fun c243 => ?_)
  · exact absurd (hq238) c243
  · refine R_aload_n rfl rfl ?_
    refine R_iload rfl rfl ?_
    refine R_iconst rfl ?_
    refine R_vcall rfl rfl ⟨(by omega), _, hF.1⟩ ⟨Nat.le_of_ble_eq_true rfl, Nat.le_of_ble_eq_true rfl, (show _ ≤ 490 by omega), (show _ ≤ 2940 by omega)⟩ (entry_9 hF (by omega) (e := (eIx G true c)) (n := 1) (by rw [hGy]; exact x1) (by decide) hze rfl (fun z250 hz250 => aRes_g (Or.inl rfl) ?_))
    rw [hGy] at hz250
    have hq250 : z250 = (1 : Int) := hz250.trans (congrArg bI x3)
    refine R_iload rfl rfl ?_
    refine R_icmpne rfl ⟨by omega, by omega⟩ ⟨by decide, by decide⟩ (fun c255 => ?_) (fun c255 => ?_)
    · exact absurd (hq250) c255
    · refine R_aload_n rfl rfl ?_
      refine R_iload rfl rfl ?_
      refine R_iconst rfl ?_
      refine R_vcall rfl rfl ⟨(by omega), _, hF.1⟩ ⟨Nat.le_of_ble_eq_true rfl, Nat.le_of_ble_eq_true rfl, (show _ ≤ 490 by omega), (show _ ≤ 2940 by omega)⟩ (entry_9 hF (by omega) (e := (eIx G true c)) (n := 2) (by rw [hGy]; exact x1) (by decide) hze rfl (fun z262 hz262 => aRes_g (Or.inl rfl) ?_))
      rw [hGy] at hz262
      have hq262 : z262 = ((ln G true c : Nat) : Int) := hz262.trans (congrArg Nat.cast x5)
      refine R_iload rfl rfl ?_
      refine R_icmpne rfl ⟨by omega, by omega⟩ ⟨by omega, by omega⟩ (fun c267 => ?_) (fun c267 => ?_)
      · exact absurd (hq262) c267
      · refine R_aload_n rfl rfl ?_
        refine R_iload rfl rfl ?_
        refine R_iconst rfl ?_
        refine R_vcall rfl rfl ⟨(by omega), _, hF.1⟩ ⟨Nat.le_of_ble_eq_true rfl, Nat.le_of_ble_eq_true rfl, (show _ ≤ 490 by omega), (show _ ≤ 2940 by omega)⟩ (entry_9 hF (by omega) (e := (eIx G true c)) (n := 3) (by rw [hGy]; exact x1) (by decide) hze rfl (fun z274 hz274 => aRes_g (Or.inl rfl) ?_))
        rw [hGy] at hz274
        have hq274 : z274 = ((unG G (eIx G true c) : Nat) : Int) := hz274.trans (rfl)
        refine R_iload rfl rfl ?_
        refine R_icmpne rfl ⟨by omega, by omega⟩ ⟨by omega, by omega⟩ (fun c279 => ?_) (fun c279 => ?_)
        · exact absurd (hq274.trans hzs.symm) c279
        · refine R_aload_n rfl rfl ?_
          refine R_iload rfl rfl ?_
          refine R_iconst rfl ?_
          refine R_vcall rfl rfl ⟨(by omega), _, hF.1⟩ ⟨Nat.le_of_ble_eq_true rfl, Nat.le_of_ble_eq_true rfl, (show _ ≤ 490 by omega), (show _ ≤ 2940 by omega)⟩ (entry_9 hF (by omega) (e := (eIx G true c)) (n := 4) (by rw [hGy]; exact x1) (by decide) hze rfl (fun z286 hz286 => aRes_g (Or.inl rfl) ?_))
          rw [hGy] at hz286
          have hq286 : z286 = ((emG G (eIx G true c) : Nat) : Int) := hz286.trans (rfl)
          refine R_iload rfl rfl ?_
          refine R_icmpne rfl ⟨by omega, by omega⟩ ⟨by omega, by omega⟩ (fun c291 => ?_) (fun c291 => ?_)
          · exact absurd (hq286.trans hzt.symm) c291
          · refine R_aload_n rfl rfl ?_
            refine R_iload rfl rfl ?_
            refine R_iconst rfl ?_
            refine R_vcall rfl rfl ⟨(by omega), _, hF.1⟩ ⟨Nat.le_of_ble_eq_true rfl, Nat.le_of_ble_eq_true rfl, (show _ ≤ 490 by omega), (show _ ≤ 2940 by omega)⟩ (entry_9 hF (by omega) (e := (eIx G true c)) (n := 5) (by rw [hGy]; exact x1) (by decide) hze rfl (fun z298 hz298 => aRes_g (Or.inl rfl) ?_))
            rw [hGy] at hz298
            have hq298 : z298 = clue G c := hz298.trans (congrArg (clue G) x2)
            refine R_iload rfl rfl ?_
            refine R_aload_n rfl rfl ?_
            refine R_scall rfl rfl ⟨Nat.le_of_ble_eq_true rfl, Nat.le_of_ble_eq_true rfl, (show _ ≤ 490 by omega), (show _ ≤ 2940 by omega)⟩ (clue_L (c := c) hZ hG hN rfl hc (fun z304 hz304 => aRes_g (Or.inl rfl) ?_))
            
            refine R_icmpne rfl ⟨by omega, by omega⟩ ⟨by omega, by omega⟩ (fun c307 => ?_) (fun c307 => ?_)
            · exact absurd (hq298.trans hz304.symm) c307
            · refine R_aload_n rfl rfl ?_
              refine R_iload rfl rfl ?_
              refine R_bipush rfl ?_
              refine R_vcall rfl rfl ⟨(by omega), _, hF.1⟩ ⟨Nat.le_of_ble_eq_true rfl, Nat.le_of_ble_eq_true rfl, (show _ ≤ 490 by omega), (show _ ≤ 2940 by omega)⟩ (entry_9 hF (by omega) (e := (eIx G true c)) (n := 6) (by rw [hGy]; exact x1) (by decide) hze rfl (fun z315 hz315 => aRes_g (Or.inl rfl) ?_))
              rw [hGy] at hz315
              have hq315 : z315 = wiG G (eIx G true c) := hz315.trans (rfl)
              refine R_iload rfl rfl ?_
              refine R_icmpne rfl ⟨by omega, by omega⟩ ⟨by omega, by omega⟩ (fun c320 => ?_) (fun c320 => ?_)
              · exact absurd (hq315.trans hzw.symm) c320
              · refine R_aload_n rfl rfl ?_
                refine R_iload rfl rfl ?_
                refine R_vcall rfl rfl ⟨(by omega), _, hF.1⟩ ⟨Nat.le_of_ble_eq_true rfl, Nat.le_of_ble_eq_true rfl, (show _ ≤ 490 by omega), (show _ ≤ 2940 by omega)⟩ (ofits_9 hF (by omega) (e := (eIx G true c)) (by rw [hGy]; exact x1) hze (fun z326 hz326 => aRes_g (Or.inl rfl) ?_))
                rw [hGy] at hz326
                refine R_iload rfl rfl ?_
                refine R_icmpeq rfl ⟨by omega, by omega⟩ ⟨by omega, by omega⟩ (fun c331 => ?_) (fun c331 => ?_)
                · exact k0
                · exact absurd (hz326.trans hzn9.symm) c331
set_option maxRecDepth 20000 in
theorem en8_1 {d N k n : Nat} {h : AH} {y : Sy} {G : Gr} {Q : AQ} (hF : isFace h y) (hGy : y.1 = G) (hZ : isW h G) (hV : isWo h G) (hG : sm4 G) (hN : 126 ≤ N) {c : Nat} {z4 z5 ze zs zt zn9 zw zj : Int} (hc : c < qM G) (hst : st G true c = true) (hze : ze = ((eIx G true c) : Nat)) (hzs : zs = (unG G (eIx G true c) : Nat)) (hzt : zt = (emG G (eIx G true c) : Nat)) (hzn9 : zn9 = (fcG G (eIx G true c) : Nat)) (hzw : zw = wiG G (eIx G true c)) {l9 : Nat} (hz5 : z5 = l9) (hl9 : l9 ≤ 9) (hk : k ≤ 490) (hn : n ≤ 2940) (k0 : ∀ zx : Int, zx = (if 0 < emG G (eIx G true c) ∧ fcG G (eIx G true c) < l9 then ze else z4) → Run mi_L_entries (T (d + 6)) Q 357 [some (vR 0), some (vI ((qW G : Nat) : Int)), some (vR 122), some (vR 123), some (vI zx), some (vI z5), some (vI (c : Int)), some (vI 1), some (vI ze), some (vI ((ln G true c : Nat) : Int)), some (vI zs), some (vI zt), some (vI zn9), some (vI zw), some (vI zj)] [] h N k n) : Run mi_L_entries (T (d + 6)) Q 336 [some (vR 0), some (vI ((qW G : Nat) : Int)), some (vR 122), some (vR 123), some (vI z4), some (vI z5), some (vI (c : Int)), some (vI 1), some (vI ze), some (vI ((ln G true c : Nat) : Int)), some (vI zs), some (vI zt), some (vI zn9), some (vI zw), some (vI zj)] [] h N k n := by
  obtain ⟨w, m0, hw0, hw1, wL, wE, wS⟩ := id hZ
  have r0 : w (0 : Int).toNat = (qR G : Int) := hw0
  have r1 : w (1 : Int).toNat = (qC G : Int) := hw1
  have hm16 := sm4_m hG
  obtain ⟨hO, hR4, hC4⟩ := id hG
  obtain ⟨hm4, hm36⟩ := hO.m
  obtain ⟨⟨hr2, hr6⟩, ⟨hc2, hc6⟩, gL, gB, gW, gWn, gWl, gN, gNl⟩ := id hO
  obtain ⟨hw4, v, mv, hv⟩ := id hV
  obtain ⟨x1, x2, x3, x4, x5⟩ := eix_e hO hst
  have hl6 := (ln_spec hO (b := true) hc).2.2
  have u1 : unG G (eIx G true c) ≤ eN G (eIx G true c) := ct_le _ _
  have u2 : emG G (eIx G true c) ≤ eN G (eIx G true c) := ct_le _ _
  have u3 := fc_8 hO (e := (eIx G true c))
  have u4 := clue_r hO hc
  have u5 : -9 ≤ wiG G (eIx G true c) ∧ wiG G (eIx G true c) ≤ 8 := by
    have := wi_r (p := fiG G (eIx G true c)) (qW G) 0
    unfold wiG
    split <;> omega
  refine R_iload rfl rfl ?_
  refine R_ifle rfl ⟨by omega, by omega⟩ (fun c338 => ?_) (fun c338 => ?_)
  · have hif : (if 0 < emG G (eIx G true c) ∧ fcG G (eIx G true c) < l9 then ze else z4) = z4 := if_neg (fun q => by omega)
    refine R_iload rfl rfl ?_
    refine R_istore (lv' := [_, _, _, _, _, _, _, _, _, _, _, _, _, _, _]) rfl rfl ?_
    exact k0 _ hif.symm
  · refine R_iload rfl rfl ?_
    refine R_iload rfl rfl ?_
    refine R_icmpge rfl ⟨by omega, by omega⟩ ⟨by omega, by omega⟩ (fun c345 => ?_) (fun c345 => ?_)
    · have hif : (if 0 < emG G (eIx G true c) ∧ fcG G (eIx G true c) < l9 then ze else z4) = z4 := if_neg (fun q => by omega)
      refine R_iload rfl rfl ?_
      refine R_istore (lv' := [_, _, _, _, _, _, _, _, _, _, _, _, _, _, _]) rfl rfl ?_
      exact k0 _ hif.symm
    · have hif : (if 0 < emG G (eIx G true c) ∧ fcG G (eIx G true c) < l9 then ze else z4) = ze := if_pos ⟨by omega, by omega⟩
      refine R_iload rfl rfl ?_
      refine R_goto rfl ?_
      refine R_istore (lv' := [_, _, _, _, _, _, _, _, _, _, _, _, _, _, _]) rfl rfl ?_
      exact k0 _ hif.symm
set_option maxRecDepth 20000 in
theorem en9_1 {d N k n : Nat} {h : AH} {y : Sy} {G : Gr} {Q : AQ} (hF : isFace h y) (hGy : y.1 = G) (hZ : isW h G) (hV : isWo h G) (hG : sm4 G) (hN : 126 ≤ N) {c : Nat} {z4 z5 ze zs zt zn9 zw zj : Int} (hc : c < qM G) (hst : st G true c = true) (hze : ze = ((eIx G true c) : Nat)) (hzs : zs = (unG G (eIx G true c) : Nat)) (hzt : zt = (emG G (eIx G true c) : Nat)) (hzn9 : zn9 = (fcG G (eIx G true c) : Nat)) (hzw : zw = wiG G (eIx G true c)) {l9 : Nat} (hz5 : z5 = l9) (hl9 : l9 ≤ 9) (hk : k ≤ 490) (hn : n ≤ 2940) (k0 : ∀ zx : Int, zx = ((if 0 < emG G (eIx G true c) ∧ fcG G (eIx G true c) < l9 then fcG G (eIx G true c) else l9 : Nat) : Int) → Run mi_L_entries (T (d + 6)) Q 378 [some (vR 0), some (vI ((qW G : Nat) : Int)), some (vR 122), some (vR 123), some (vI z4), some (vI zx), some (vI (c : Int)), some (vI 1), some (vI ze), some (vI ((ln G true c : Nat) : Int)), some (vI zs), some (vI zt), some (vI zn9), some (vI zw), some (vI zj)] [] h N k n) : Run mi_L_entries (T (d + 6)) Q 357 [some (vR 0), some (vI ((qW G : Nat) : Int)), some (vR 122), some (vR 123), some (vI z4), some (vI z5), some (vI (c : Int)), some (vI 1), some (vI ze), some (vI ((ln G true c : Nat) : Int)), some (vI zs), some (vI zt), some (vI zn9), some (vI zw), some (vI zj)] [] h N k n := by
  obtain ⟨w, m0, hw0, hw1, wL, wE, wS⟩ := id hZ
  have r0 : w (0 : Int).toNat = (qR G : Int) := hw0
  have r1 : w (1 : Int).toNat = (qC G : Int) := hw1
  have hm16 := sm4_m hG
  obtain ⟨hO, hR4, hC4⟩ := id hG
  obtain ⟨hm4, hm36⟩ := hO.m
  obtain ⟨⟨hr2, hr6⟩, ⟨hc2, hc6⟩, gL, gB, gW, gWn, gWl, gN, gNl⟩ := id hO
  obtain ⟨hw4, v, mv, hv⟩ := id hV
  obtain ⟨x1, x2, x3, x4, x5⟩ := eix_e hO hst
  have hl6 := (ln_spec hO (b := true) hc).2.2
  have u1 : unG G (eIx G true c) ≤ eN G (eIx G true c) := ct_le _ _
  have u2 : emG G (eIx G true c) ≤ eN G (eIx G true c) := ct_le _ _
  have u3 := fc_8 hO (e := (eIx G true c))
  have u4 := clue_r hO hc
  have u5 : -9 ≤ wiG G (eIx G true c) ∧ wiG G (eIx G true c) ≤ 8 := by
    have := wi_r (p := fiG G (eIx G true c)) (qW G) 0
    unfold wiG
    split <;> omega
  refine R_iload rfl rfl ?_
  refine R_ifle rfl ⟨by omega, by omega⟩ (fun c359 => ?_) (fun c359 => ?_)
  · have hif : (if 0 < emG G (eIx G true c) ∧ fcG G (eIx G true c) < l9 then fcG G (eIx G true c) else l9) = l9 := if_neg (fun q => by omega)
    refine R_iload rfl rfl ?_
    refine R_istore (lv' := [_, _, _, _, _, _, _, _, _, _, _, _, _, _, _]) rfl rfl ?_
    exact k0 _ (by rw [hif]; omega)
  · refine R_iload rfl rfl ?_
    refine R_iload rfl rfl ?_
    refine R_icmpge rfl ⟨by omega, by omega⟩ ⟨by omega, by omega⟩ (fun c366 => ?_) (fun c366 => ?_)
    · have hif : (if 0 < emG G (eIx G true c) ∧ fcG G (eIx G true c) < l9 then fcG G (eIx G true c) else l9) = l9 := if_neg (fun q => by omega)
      refine R_iload rfl rfl ?_
      refine R_istore (lv' := [_, _, _, _, _, _, _, _, _, _, _, _, _, _, _]) rfl rfl ?_
      exact k0 _ (by rw [hif]; omega)
    · have hif : (if 0 < emG G (eIx G true c) ∧ fcG G (eIx G true c) < l9 then fcG G (eIx G true c) else l9) = fcG G (eIx G true c) := if_pos ⟨by omega, by omega⟩
      refine R_iload rfl rfl ?_
      refine R_goto rfl ?_
      refine R_istore (lv' := [_, _, _, _, _, _, _, _, _, _, _, _, _, _, _]) rfl rfl ?_
      exact k0 _ (by rw [hif]; omega)
set_option maxRecDepth 20000 in
theorem enD_1 {d N k n : Nat} {h : AH} {y : Sy} {G : Gr} {Q : AQ} (hF : isFace h y) (hGy : y.1 = G) (hZ : isW h G) (hV : isWo h G) (hG : sm4 G) (hN : 126 ≤ N) {c l9 : Nat} {z4 z5 : Int} (hc : c < qM G) (hz5 : z5 = l9) (hl9 : l9 ≤ 9) (hk : k + 15 ≤ 490) (hn : n + 90 ≤ 2940) (k0 : ∀ (k1 n1 : Nat) (z4a z5a : Int) (l1 : Nat), k1 ≤ k + 15 → n1 ≤ n + 90 → z5a = l1 → l1 ≤ 9 → (∀ r, r = r → hdF G (r + tn (st G true c)) (eIx G true c) z4 l9 = hdF G r ((eIx G true c) + tn (st G true c)) z4a l1) → Run mi_L_entries (T (d + 6)) Q 378 [some (vR 0), some (vI ((qW G : Nat) : Int)), some (vR 122), some (vR 123), some (vI z4a), some (vI z5a), some (vI (c : Int)), some (vI 1), none, none, none, none, none, none, none] [] h N k1 n1) : Run mi_L_entries (T (d + 6)) Q 32 [some (vR 0), some (vI ((qW G : Nat) : Int)), some (vR 122), some (vR 123), some (vI z4), some (vI z5), some (vI (c : Int)), some (vI 1), none, none, none, none, none, none, none] [] h N k n := by
  obtain ⟨w, m0, hw0, hw1, wL, wE, wS⟩ := id hZ
  have r0 : w (0 : Int).toNat = (qR G : Int) := hw0
  have r1 : w (1 : Int).toNat = (qC G : Int) := hw1
  have hm16 := sm4_m hG
  obtain ⟨hO, hR4, hC4⟩ := id hG
  obtain ⟨hm4, hm36⟩ := hO.m
  obtain ⟨⟨hr2, hr6⟩, ⟨hc2, hc6⟩, gL, gB, gW, gWn, gWl, gN, gNl⟩ := id hO
  obtain ⟨hw4, v, mv, hv⟩ := id hV
  refine R_iload rfl rfl ?_
  refine R_iload rfl rfl ?_
  refine R_aload_n rfl rfl ?_
  refine R_scall rfl rfl ⟨Nat.le_of_ble_eq_true rfl, Nat.le_of_ble_eq_true rfl, (show _ ≤ 490 by omega), (show _ ≤ 2940 by omega)⟩ (starts_T (b := true) (c := c) hZ hG hN rfl rfl hc (fun z37 hz37 => aRes_g (Or.inl rfl) ?_))
  have hs37 := bI01 (st G true c)
  rw [← hz37] at hs37
  refine R_ifne rfl ⟨by omega, by omega⟩ (fun c40 => ?_) (fun c40 => ?_)
  · have hst := bI_t hz37 c40
    refine R_iload rfl rfl ?_
    refine R_iload rfl rfl ?_
    refine R_aload_n rfl rfl ?_
    refine R_scall rfl rfl ⟨Nat.le_of_ble_eq_true rfl, Nat.le_of_ble_eq_true rfl, (show _ ≤ 490 by omega), (show _ ≤ 2940 by omega)⟩ (entry_L (b := true) (c := c) hZ hG hN rfl rfl hc (fun z51 hz51 => aRes_g (Or.inl rfl) ?_))
    obtain ⟨x1, x2, x3, x4, x5⟩ := eix_e hO hst
    rw [x4] at hz51
    refine R_istore (lv' := [_, _, _, _, _, _, _, _, _, _, _, _, _, _, _]) rfl rfl ?_
    refine R_iload rfl rfl ?_
    refine R_iload rfl rfl ?_
    refine R_aload_n rfl rfl ?_
    refine R_scall rfl rfl ⟨Nat.le_of_ble_eq_true rfl, Nat.le_of_ble_eq_true rfl, (show _ ≤ 490 by omega), (show _ ≤ 2940 by omega)⟩ (length_T (b := true) (c := c) hZ hG hN rfl rfl hc (fun z61 hz61 => aRes_g (Or.inl rfl) ?_))
    rw [lnC_st hO hc (rs_stop (st_iff.mp hst).2)] at hz61
    subst hz61
    refine R_istore (lv' := [_, _, _, _, _, _, _, _, _, _, _, _, _, _, _]) rfl rfl ?_
    refine R_iconst rfl ?_
    refine R_istore (lv' := [_, _, _, _, _, _, _, _, _, _, _, _, _, _, _]) rfl rfl ?_
    refine R_iconst rfl ?_
    refine R_istore (lv' := [_, _, _, _, _, _, _, _, _, _, _, _, _, _, _]) rfl rfl ?_
    refine R_iconst rfl ?_
    refine R_istore (lv' := [_, _, _, _, _, _, _, _, _, _, _, _, _, _, _]) rfl rfl ?_
    refine en3_1 hF hGy hZ hV hG hN hc hst (by omega) (by omega) (ln G true c) 0 _ _ _ (Nat.zero_add _) rfl (fun zs1 zt1 zi1 hs1 ht1 => ?_)
    have hs2 : zt1 = (emG G (eIx G true c) : Nat) := by rw [ht1, Int.zero_add]; unfold emG; rw [x5]
    have hem6 : emG G (eIx G true c) ≤ 6 := by
      have u2 : emG G (eIx G true c) ≤ eN G (eIx G true c) := ct_le _ _
      have := (ln_spec hO (b := true) hc).2.2.2
      omega
    refine R_iconst rfl ?_
    refine R_istore (lv' := [_, _, _, _, _, _, _, _, _, _, _, _, _, _, _]) rfl rfl ?_
    refine R_bipush rfl ?_
    refine R_istore (lv' := [_, _, _, _, _, _, _, _, _, _, _, _, _, _, _]) rfl rfl ?_
    refine R_iload_n rfl rfl ?_
    refine R_iconst rfl ?_
    refine R_isub rfl ?_
    refine R_istore (lv' := [_, _, _, _, _, _, _, _, _, _, _, _, _, _, _]) rfl rfl ?_
    refine en6_1 hF hGy hZ hV hG hN hc hst (by rw [hs2]; omega) (by omega) (by omega) (qW G) _ _ _ (Nat.le_refl _) rfl (by rw [Nat.sub_self]; rfl) (by rw [Nat.sub_self]; simp only [fsF]; split <;> rfl) (fun zn1 zw1 zj1 hn1 hw1 => ?_)
    have hs3 : zs1 = (unG G (eIx G true c) : Nat) := by rw [hs1, Int.zero_add]; unfold unG; rw [x5]
    have hzw1 : zw1 = wiG G (eIx G true c) := by
      rw [hw1, hs2]
      unfold wiG
      rw [Nat.sub_zero]
      by_cases q : emG G (eIx G true c) = 0
      · rw [if_pos (by omega), if_pos q]
      · rw [if_neg (by omega), if_neg q]
    refine en7_1 hF hGy hZ hV hG hN hc hst hz51 hs3 hs2 hn1 hzw1 (by omega) (by omega) ?_
    refine en8_1 hF hGy hZ hV hG hN hc hst hz51 hs3 hs2 hn1 hzw1 hz5 hl9 (by omega) (by omega) (fun z4a e4 => ?_)
    refine en9_1 hF hGy hZ hV hG hN hc hst hz51 hs3 hs2 hn1 hzw1 hz5 hl9 (by omega) (by omega) (fun z5a e5 => ?_)
    refine Run.lv (lv' := [_, _, _, _, _, _, _, _, none, none, none, none, none, none, none]) ?_ ⟨Or.inr rfl, Or.inr rfl, Or.inr rfl, Or.inr rfl, Or.inr rfl, Or.inr rfl, Or.inr rfl, Or.inr rfl, Or.inl rfl, Or.inl rfl, Or.inl rfl, Or.inl rfl, Or.inl rfl, Or.inl rfl, Or.inl rfl, trivial⟩
    have hfc8 := fc_8 hO (e := (eIx G true c))
    by_cases q : 0 < emG G (eIx G true c) ∧ fcG G (eIx G true c) < l9
    · rw [if_pos q] at e4 e5
      exact k0 (k + 15) (n + 90) _ _ (fcG G (eIx G true c)) (by omega) (by omega) e5 (by omega) (fun r hr => by
        rw [hst]
        show hdF G (r + 1) (eIx G true c) z4 l9 = _
        simp only [hdF]
        rw [if_pos q, e4, hz51]
        rfl)
    · rw [if_neg q] at e4 e5
      exact k0 (k + 15) (n + 90) _ _ l9 (by omega) (by omega) e5 hl9 (fun r hr => by
        rw [hst]
        show hdF G (r + 1) (eIx G true c) z4 l9 = _
        simp only [hdF]
        rw [if_neg q, e4]
        rfl)
  · have hst : st G true c = false := bI_f hz37 (by omega)
    refine R_goto rfl ?_
    refine Run.lv (lv' := [_, _, _, _, _, _, _, _, none, none, none, none, none, none, none]) ?_ ⟨Or.inr rfl, Or.inr rfl, Or.inr rfl, Or.inr rfl, Or.inr rfl, Or.inr rfl, Or.inr rfl, Or.inr rfl, Or.inl rfl, Or.inl rfl, Or.inl rfl, Or.inl rfl, Or.inl rfl, Or.inl rfl, Or.inl rfl, trivial⟩
    exact k0 k n _ _ l9 (by omega) (by omega) hz5 hl9 (fun r hr => by rw [hst]; rfl)
theorem hd_r {G : Gr} : ∀ (r e : Nat) (b : Int) (l : Nat), -9 ≤ b → b ≤ e + r → -9 ≤ hdF G r e b l ∧ hdF G r e b l ≤ e + r
  | 0, e, b, l, h1, h2 => ⟨h1, h2⟩
  | r + 1, e, b, l, h1, h2 => by
    simp only [hdF]
    split
    · have := hd_r (G := G) r (e + 1) (e : Int) (fcG G e) (by omega) (by omega)
      omega
    · have := hd_r (G := G) r (e + 1) b l h1 (by omega)
      omega
set_option maxRecDepth 20000 in
theorem en_lop {d N : Nat} {h : AH} {y : Sy} {G : Gr} {Q : AQ} (hF : isFace h y) (hGy : y.1 = G) (hZ : isW h G) (hV : isWo h G) (hG : sm4 G) (hN : 126 ≤ N) (hQ : ∀ (z : Int) (h1 : AH), z = 1 → isFace h1 y → (∀ j, 122 ≤ j → h1 j = h j) → Q (.inl (some (vI z))) h1 N) : ∀ (r c l9 k n : Nat) (z4 z5 zc : Int), c + r = qM G → zc = c → z5 = l9 → l9 ≤ 9 → k ≤ 30 * c → n ≤ 180 * c → hdF G (nE G - cnt G c) (cnt G c) z4 l9 = hdF G (nE G) 0 (-9) 9 → Run mi_L_entries (T (d + 6)) Q 11 [some (vR 0), some (vI ((qW G : Nat) : Int)), some (vR 122), some (vR 123), some (vI z4), some (vI z5), some (vI zc), none, none, none, none, none, none, none, none] [] h N k n := by
  obtain ⟨w, m0, hw0, hw1, wL, wE, wS⟩ := id hZ
  have r0 : w (0 : Int).toNat = (qR G : Int) := hw0
  have r1 : w (1 : Int).toNat = (qC G : Int) := hw1
  have hm16 := sm4_m hG
  obtain ⟨hO, hR4, hC4⟩ := id hG
  obtain ⟨hm4, hm36⟩ := hO.m
  obtain ⟨⟨hr2, hr6⟩, ⟨hc2, hc6⟩, gL, gB, gW, gWn, gWl, gN, gNl⟩ := id hO
  obtain ⟨hw4, v, mv, hv⟩ := id hV
  have hmi := qM_int G
  have hn36 := nE36 hO
  have hhr := hd_r (G := G) (nE G) 0 (-9) 9 (by decide) (by omega)
  intro r
  induction r using Nat.strongRecOn with
  | ind r ih =>
  intro c l9 k n z4 z5 zc hr hzc hz5 hl9 hk hn hhd
  refine R_iload rfl rfl ?_
  refine R_aload_n rfl rfl ?_
  refine R_iconst rfl ?_
  refine R_iaload rfl (Or.inl (by omega)) m0 ⟨by omega, by omega, by omega⟩ ?_
  rw [r0]
  refine R_aload_n rfl rfl ?_
  refine R_iconst rfl ?_
  refine R_iaload rfl (Or.inl (by omega)) m0 ⟨by omega, by omega, by omega⟩ ?_
  rw [r1]
  refine R_imul rfl ?_
  rw [hmi]
  refine R_icmpge rfl ⟨by omega, by omega⟩ ⟨by omega, by omega⟩ (fun c20 => ?_) (fun c20 => ?_)
  · have hr0 : r = 0 := by omega
    subst hr0
    obtain rfl : c = qM G := by omega
    refine R_aload_n rfl rfl ?_
    refine R_vcall rfl rfl ⟨(by omega), _, hF.1⟩ ⟨Nat.le_of_ble_eq_true rfl, Nat.le_of_ble_eq_true rfl, (show _ ≤ 490 by omega), (show _ ≤ 2940 by omega)⟩ (hardest_C hF (by omega) (fun h1 hF1 hf1 => aRes_g (Or.inl rfl) ?_))
    have e09 : nE G - cnt G (qM G) = 0 := Nat.sub_self _
    have hz4 : z4 = hdF G (nE G) 0 (-9) 9 := by
      rw [← hhd, e09]
      rfl
    have hq391 : (opHardest y).2.1 = z4 := by
      rw [hz4]
      show hdF y.1 (nE y.1) 0 (-9) 9 = _
      rw [hGy]
    rw [← hz4] at hhr
    refine R_iload rfl rfl ?_
    refine R_icmpne rfl ⟨by omega, by omega⟩ ⟨by omega, by omega⟩ (fun c396 => ?_) (fun c396 => ?_)
    · exact absurd hq391 c396
    · refine R_iconst rfl ?_
      refine R_goto rfl ?_
      exact R_ireturn rfl (fun _ => by omega) (show _ ≤ 490 by omega) (show _ ≤ 2940 by omega) (hQ _ _ rfl hF1 hf1)
  · obtain ⟨r, rfl⟩ : ∃ r1, r = r1 + 1 := ⟨r - 1, by omega⟩
    subst hzc
    refine R_iconst rfl ?_
    refine R_istore (lv' := [_, _, _, _, _, _, _, _, _, _, _, _, _, _, _]) rfl rfl ?_
    refine R_iload rfl rfl ?_
    refine R_iconst rfl ?_
    refine R_icmpge rfl ⟨by decide, by decide⟩ ⟨by decide, by decide⟩ (fun c0 => absurd c0 (by decide)) (fun _ => ?_)
    refine enD_0 hF hGy hZ hV hG hN (c := c) (by omega) hz5 hl9 (by omega) (by omega) (fun k1 n1 z4a z5a l1 e1 e2 e3 e4 e5 => ?_)
    refine R_iinc (lv' := [_, _, _, _, _, _, _, _, _, _, _, _, _, _, _]) rfl rfl rfl ?_
    refine R_goto rfl ?_
    refine R_iload rfl rfl ?_
    refine R_iconst rfl ?_
    refine R_icmpge rfl ⟨by decide, by decide⟩ ⟨by decide, by decide⟩ (fun c0 => absurd c0 (by decide)) (fun _ => ?_)
    refine enD_1 hF hGy hZ hV hG hN (c := c) (by omega) e3 e4 (by omega) (by omega) (fun k2 n2 z4b z5b l2 e6 e7 e8 e9 e10 => ?_)
    refine R_iinc (lv' := [_, _, _, _, _, _, _, _, _, _, _, _, _, _, _]) rfl rfl rfl ?_
    refine R_goto rfl ?_
    refine R_iload rfl rfl ?_
    refine R_iconst rfl ?_
    refine R_icmpge rfl ⟨by decide, by decide⟩ ⟨by decide, by decide⟩ (fun _ => ?_) (fun c0 => absurd c0 (by decide))
    refine R_iinc (lv' := [_, _, _, _, _, _, _, _, _, _, _, _, _, _, _]) rfl rfl rfl ?_
    refine R_goto rfl ?_
    refine Run.lv (lv' := [_, _, _, _, _, _, _, none, none, none, none, none, none, none, none]) ?_ ⟨Or.inr rfl, Or.inr rfl, Or.inr rfl, Or.inr rfl, Or.inr rfl, Or.inr rfl, Or.inr rfl, Or.inl rfl, Or.inl rfl, Or.inl rfl, Or.inl rfl, Or.inl rfl, Or.inl rfl, Or.inl rfl, Or.inl rfl, trivial⟩
    exact ih r (by omega) (c + 1) l2 k2 n2 _ _ _ (by omega) (by omega) e8 e9 (by omega) (by omega) (by
      have hm1 := cnt_mono (G := G) (show c + 1 ≤ qM G by omega)
      have e11 : cnt G (c + 1) = cnt G c + tn (st G false c) + tn (st G true c) := rfl
      have e12 : nE G = cnt G (qM G) := rfl
      have g5 := e5 (nE G - (cnt G c + tn (st G false c))) rfl
      have g10 := e10 (nE G - cnt G (c + 1)) rfl
      rw [show eIx G false c = cnt G c from rfl, show nE G - (cnt G c + tn (st G false c)) + tn (st G false c) = nE G - cnt G c by omega] at g5
      rw [show eIx G true c = cnt G c + tn (st G false c) from rfl, show nE G - cnt G (c + 1) + tn (st G true c) = nE G - (cnt G c + tn (st G false c)) by omega] at g10
      rw [e11] at g10 ⊢
      rw [← g10, ← g5]
      exact hhd)
set_option maxRecDepth 20000 in
theorem entries_L {d N : Nat} {h : AH} {y : Sy} {G : Gr} {Q : AQ} {zw : Int} (hF : isFace h y) (hGy : y.1 = G) (hZ : isW h G) (hV : isWo h G) (hG : sm4 G) (hN : 126 ≤ N) (hzw : zw = qW G) (hQ : ∀ (z : Int) (h1 : AH), z = 1 → isFace h1 y → (∀ j, 122 ≤ j → h1 j = h j) → Q (.inl (some (vI z))) h1 N) : T (d + 7) 245 [vR 0, vI zw, vR 122, vR 123] h N Q := by
  subst hzw
  refine T_body (I := mi_L_entries) (lv := [_, _, _, _, _, _, _, _, _, _, _, _, _, _, _]) rfl (Nat.le_of_ble_eq_true rfl) rfl ?_
  refine R_bipush rfl ?_
  refine R_istore (lv' := [_, _, _, _, _, _, _, _, _, _, _, _, _, _, _]) rfl rfl ?_
  refine R_bipush rfl ?_
  refine R_istore (lv' := [_, _, _, _, _, _, _, _, _, _, _, _, _, _, _]) rfl rfl ?_
  refine R_iconst rfl ?_
  refine R_istore (lv' := [_, _, _, _, _, _, _, _, _, _, _, _, _, _, _]) rfl rfl ?_
  exact en_lop hF hGy hZ hV hG hN hQ (qM G) 0 9 0 0 _ _ _ (Nat.zero_add _) rfl rfl (Nat.le_refl _) (Nat.zero_le _) (Nat.zero_le _) rfl
