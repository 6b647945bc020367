/-! ===== the law types words and line; the text is read ===== -/
theorem isFace_lo {h h' : AH} {y : Sy} (hF : isFace h y) (ho : ∀ j, (j < 122 ∨ 1000 ≤ j) → h' j = h j) : isFace h' y := by
  obtain ⟨b0, ⟨px, hT⟩, ⟨Gt, hSt⟩, hP, hG, ⟨Gr9, hPt⟩, hM, hSe, hFl, hst⟩ := hF
  refine ⟨(ho _ (by decide)).trans b0, ⟨px, isTx_fr hT (ho _ (by decide)) (ho _ (by decide))⟩, ⟨Gt, isSt_fr hSt (fun j _ _ => ho j (by omega))⟩, isPz_fr hP (fun j _ _ => ho j (by omega)), hG, ⟨Gr9, isPa_fr hPt (fun j _ _ => ho j (by omega))⟩, isMem_fr hM (fun j _ _ => ho j (by omega)), ?_, ?_, ?_⟩
  · obtain ⟨e, l, f, g, us, P, FP, s0, s1, s2⟩ := hSe
    exact ⟨e, l, f, g, us, P, FP, (ho _ (by decide)).trans s0, (ho _ (by decide)).trans s1, (ho _ (by decide)).trans s2⟩
  · obtain ⟨w, u, FT, GV, s0, s1, s2⟩ := hFl
    exact ⟨w, u, FT, GV, (ho _ (by decide)).trans s0, (ho _ (by decide)).trans s1, (ho _ (by decide)).trans s2⟩
  · exact ⟨(ho _ (by decide)).trans hst.1, (ho _ (by decide)).trans hst.2⟩
theorem isW_g {h : AH} {G G' : Gr} (hW : isW h G) (h1 : qR G' = qR G) (h2 : qC G' = qC G) (h3 : qL G' = qL G) (h4 : qE G' = qE G) (h5 : qS G' = qS G) : isW h G' := by
  obtain ⟨w, m0, hR⟩ := hW
  exact ⟨w, m0, rwL_w hR h1 h2 h3 h4 h5⟩
/-- and how large it is -/
def sW (R C : Nat) (h : AH) (G : Gr) : Prop := isW h G ∧ qR G = R ∧ qC G = C
theorem sW_fr {R C : Nat} {h h' : AH} {G : Gr} (hW : sW R C h G) (he : h' 122 = h 122) : sW R C h' G := ⟨isW_fr hW.1 he, hW.2⟩
theorem sW_g {R C : Nat} {h : AH} {G G' : Gr} (hW : sW R C h G) (h1 : qR G' = qR G) (h2 : qC G' = qC G) (h3 : qL G' = qL G) (h4 : qE G' = qE G) (h5 : qS G' = qS G) : sW R C h G' := ⟨isW_g hW.1 h1 h2 h3 h4 h5, h1.trans hW.2.1, h2.trans hW.2.2⟩
set_option maxRecDepth 20000 in
theorem tw1 {d N k s j : Nat} {h : AH} {Q : AQ} {v : Nat → Int} {zw zn : Int} (mv : h 123 = eI 16 v) (hj : j < 4) {n : Nat} {tx : Nat → Int} (hF : isFace h (ys n tx)) (hzn : zn = (n : Nat)) (hn79 : n ≤ 79) (hk1 : k + 1 ≤ 80) (hs1 : s + 6 ≤ 480) (hN : 126 ≤ N) {L : Nat} {xs : Nat → Int} (hs : h aRO = eI L xs) (hL : L < 1000) (k0 : ∀ (h1 : AH) (m : Nat) (x8 : Int), (2 ≤ m ∧ m ≤ 3) → h1 123 = eI 16 (va_up v (4 * j) (m : Int)) → isFace h1 (ys (n + 1) (va_up tx n 47)) → (∀ x, 122 ≤ x → x ≠ 123 → h1 x = h x) → Run mi_L_typed (T (d + 7)) Q 312 [some (vR 0), some (vR aRO), some (vI zw), some (vR 122), some (vR 123), some (vR 124), some (vI (zn + 1)), some (vI (j : Int)), some (vI x8), none] [] h1 N (k + 1) (s + 6)) : Run mi_L_typed (T (d + 7)) Q 271 [some (vR 0), some (vR aRO), some (vI zw), some (vR 122), some (vR 123), some (vR 124), some (vI zn), some (vI (j : Int)), none, none] [] h N k s := by
  have hix : ((4 : Int) * (j : Int)).toNat = 4 * j := by omega
  refine R_aload_n rfl rfl ?_
  refine R_iconst rfl ?_
  refine R_iload rfl rfl ?_
  refine R_iadd rfl ?_
  refine R_scall rfl rfl ⟨Nat.le_of_ble_eq_true rfl, Nat.le_of_ble_eq_true rfl, (show _ ≤ 80 by omega), (show _ ≤ 480 by omega)⟩ (cell_L hs hL ⟨by omega, by omega⟩ (fun z276 => aRes_g (Or.inl rfl) ?_))
  
  refine R_istore (lv' := [_, _, _, _, _, _, _, _, _, _]) rfl rfl ?_
  refine R_aload rfl rfl ?_
  refine R_iconst rfl ?_
  refine R_iload rfl rfl ?_
  refine R_imul rfl ?_
  refine R_iconst rfl ?_
  refine R_iload rfl rfl ?_
  refine R_iconst rfl ?_
  refine R_scall rfl rfl ⟨Nat.le_of_ble_eq_true rfl, Nat.le_of_ble_eq_true rfl, (show _ ≤ 80 by omega), (show _ ≤ 480 by omega)⟩ (low_T ⟨by omega, by omega⟩ (fun z291 hz291 => aRes_g (Or.inl rfl) ?_))
  have hb291 : 0 ≤ z291 ∧ z291 < 2 := by
    rw [hz291]
    exact lowI_b _ (by decide)
  refine R_iadd rfl ?_
  refine R_iastore rfl (by omega) mv ⟨by omega, by omega, by omega⟩ ?_
  refine R_aload_n rfl rfl ?_
  refine R_bipush rfl ?_
  refine R_vcall rfl rfl ⟨(by omega), _, ((va_up_ne _ _ (by first | exact kne rfl | exact kz | exact kz.symm | omega)).trans hF.1)⟩ ⟨Nat.le_of_ble_eq_true rfl, Nat.le_of_ble_eq_true rfl, (show _ ≤ 80 by omega), (show _ ≤ 480 by omega)⟩ (app_9 (isFace_lo hF (fun j hj => va_up_ne _ _ (by omega))) (by omega) (by omega) ⟨by omega, by omega⟩ (fun h299 z299 hz299 hF299 ho299 => aRes_g (Or.inl rfl) ?_))
  
  refine R_iinc (lv' := [_, _, _, _, _, _, _, _, _, _]) rfl rfl rfl ?_
  refine R_iload rfl rfl ?_
  refine R_icmpeq rfl ⟨by omega, by omega⟩ ⟨by omega, by omega⟩ (fun c307 => ?_) (fun c307 => ?_)
  · exact k0 _ (2 + z291).toNat _ ⟨by omega, by omega⟩ ((ho299 _ (by omega)).trans (by rw [show ((2 + z291).toNat : Int) = 2 + z291 by omega, ← hix]; exact va_up_self _ _ _)) hF299 (fun x h1 h2 => (ho299 x h1).trans (va_up_ne _ _ h2))
  · exact absurd (by omega) c307
set_option maxRecDepth 20000 in
theorem tw2 {d N k s j : Nat} {h : AH} {Q : AQ} {v : Nat → Int} {zw zn : Int} (mv : h 123 = eI 16 v) (hj : j < 4) {n : Nat} {tx : Nat → Int} (hF : isFace h (ys n tx)) (hzn : zn = (n : Nat)) (hn79 : n ≤ 79) (hk1 : k + 1 ≤ 80) (hs1 : s + 6 ≤ 480) (hN : 126 ≤ N) {i : Nat} (hi : i < 3) {x8 : Int} (k0 : ∀ (h1 : AH) (z : Int), (97 ≤ z ∧ z ≤ 98) → h1 123 = eI 16 (va_up v (4 * j + 1 + i) z) → isFace h1 (ys (n + 1) (va_up tx n z)) → (∀ x, 122 ≤ x → x ≠ 123 → h1 x = h x) → Run mi_L_typed (T (d + 7)) Q 379 [some (vR 0), some (vR aRO), some (vI zw), some (vR 122), some (vR 123), some (vR 124), some (vI (zn + 1)), some (vI (j : Int)), some (vI x8), some (vI (i : Int))] [] h1 N (k + 1) (s + 6)) : Run mi_L_typed (T (d + 7)) Q 327 [some (vR 0), some (vR aRO), some (vI zw), some (vR 122), some (vR 123), some (vR 124), some (vI zn), some (vI (j : Int)), some (vI x8), some (vI (i : Int))] [] h N k s := by
  have hix : ((4 : Int) * (j : Int) + 1 + (i : Int)).toNat = 4 * j + 1 + i := by omega
  refine R_aload rfl rfl ?_
  refine R_iconst rfl ?_
  refine R_iload rfl rfl ?_
  refine R_imul rfl ?_
  refine R_iconst rfl ?_
  refine R_iadd rfl ?_
  refine R_iload rfl rfl ?_
  refine R_iadd rfl ?_
  refine R_bipush rfl ?_
  refine R_iload rfl rfl ?_
  refine R_iconst rfl ?_
  refine R_iload rfl rfl ?_
  refine R_iadd rfl ?_
  refine R_ishr rfl ?_
  refine R_iconst rfl ?_
  refine R_scall rfl rfl ⟨Nat.le_of_ble_eq_true rfl, Nat.le_of_ble_eq_true rfl, (show _ ≤ 80 by omega), (show _ ≤ 480 by omega)⟩ (low_T ⟨by omega, by omega⟩ (fun z348 hz348 => aRes_g (Or.inl rfl) ?_))
  have hb348 : 0 ≤ z348 ∧ z348 < 2 := by
    rw [hz348]
    exact lowI_b _ (by decide)
  refine R_iadd rfl ?_
  refine R_iastore rfl (by omega) mv ⟨by omega, by omega, by omega⟩ ?_
  refine R_aload_n rfl rfl ?_
  refine R_aload rfl rfl ?_
  refine R_iconst rfl ?_
  refine R_iload rfl rfl ?_
  refine R_imul rfl ?_
  refine R_iconst rfl ?_
  refine R_iadd rfl ?_
  refine R_iload rfl rfl ?_
  refine R_iadd rfl ?_
  refine R_iaload rfl (Or.inl (by omega)) (va_up_self _ _ _) ⟨by omega, by omega, by omega⟩ ?_
  rw [va_up_self]
  refine R_vcall rfl rfl ⟨(by omega), _, ((va_up_ne _ _ (by first | exact kne rfl | exact kz | exact kz.symm | omega)).trans hF.1)⟩ ⟨Nat.le_of_ble_eq_true rfl, Nat.le_of_ble_eq_true rfl, (show _ ≤ 80 by omega), (show _ ≤ 480 by omega)⟩ (app_9 (isFace_lo hF (fun j hj => va_up_ne _ _ (by omega))) (by omega) (by omega) ⟨by omega, by omega⟩ (fun h366 z366 hz366 hF366 ho366 => aRes_g (Or.inl rfl) ?_))
  
  refine R_iinc (lv' := [_, _, _, _, _, _, _, _, _, _]) rfl rfl rfl ?_
  refine R_iload rfl rfl ?_
  refine R_icmpeq rfl ⟨by omega, by omega⟩ ⟨by omega, by omega⟩ (fun c374 => ?_) (fun c374 => ?_)
  · exact k0 _ (97 + z348) ⟨by omega, by omega⟩ ((ho366 _ (by omega)).trans (by rw [← hix]; exact va_up_self _ _ _)) hF366 (fun x h1 h2 => (ho366 x h1).trans (va_up_ne _ _ h2))
  · exact absurd (by omega) c374
set_option maxRecDepth 20000 in
theorem tw_in {R C d N f j m : Nat} {h0 : AH} {Q : AQ} {zw x8 : Int} (hN : 126 ≤ N) (hj : j < 4) (hm2 : 2 ≤ m) (hm3 : m ≤ 3) : ∀ (r i n : Nat) (tx v : Nat → Int) (G : Gr) (h : AH) (k s : Nat) (zn zi : Int), i + r = m → zi = i → zn = (n : Nat) → n + r ≤ 70 → k ≤ n → s ≤ 6 * n → isFace h (ys n tx) → h 123 = eI 16 v → v (4 * j) = (m : Int) → (∀ x, 124 ≤ x → h x = h0 x) → sW R C h G → qN G = 0 → qW G = j + 1 → picW j v G → picI j i v G → invW f i n tx G → (∀ (h1 : AH) (n1 : Nat) (tx1 v1 : Nat → Int) (G1 : Gr) (k1 s1 : Nat) (zn1 zi1 : Int), zn1 = (n1 : Nat) → n1 = n + r → k1 ≤ n1 → s1 ≤ 6 * n1 → isFace h1 (ys n1 tx1) → h1 123 = eI 16 v1 → (∀ x, 124 ≤ x → h1 x = h0 x) → sW R C h1 G1 → qN G1 = 0 → qW G1 = j + 1 → picW (j + 1) v1 G1 → invP f n1 tx1 G1 → Run mi_L_typed (T (d + 7)) Q 385 [some (vR 0), some (vR aRO), some (vI zw), some (vR 122), some (vR 123), some (vR 124), some (vI zn1), some (vI (j : Int)), some (vI x8), some (vI zi1)] [] h1 N k1 s1) → Run mi_L_typed (T (d + 7)) Q 315 [some (vR 0), some (vR aRO), some (vI zw), some (vR 122), some (vR 123), some (vR 124), some (vI zn), some (vI (j : Int)), some (vI x8), some (vI zi)] [] h N k s := by
  intro r
  induction r using Nat.strongRecOn with
  | ind r ih =>
  intro i n tx v G h k s zn zi hr hzi hzn hn hk hs9 hF mv hvm0 hoo hZ hqN hqW hW hI hi k0
  have hvm : v ((4 : Int) * (j : Int)).toNat = (m : Int) := by
    rw [show ((4 : Int) * (j : Int)).toNat = 4 * j by omega]
    exact hvm0
  refine R_iload rfl rfl ?_
  refine R_aload rfl rfl ?_
  refine R_iconst rfl ?_
  refine R_iload rfl rfl ?_
  refine R_imul rfl ?_
  refine R_iaload rfl (Or.inl (by omega)) mv ⟨by omega, by omega, by omega⟩ ?_
  rw [hvm]
  refine R_icmpge rfl ⟨by omega, by omega⟩ ⟨by omega, by omega⟩ (fun c324 => ?_) (fun c324 => ?_)
  · have hr0 : r = 0 := by omega
    subst hr0
    obtain rfl : i = m := by omega
    exact k0 h n tx v G k s _ _ hzn (by omega) hk hs9 hF mv hoo hZ hqN hqW (picW_n hW hI hvm0 hm3) (invW_e hi hm2)
  · obtain ⟨r, rfl⟩ : ∃ r1, r = r1 + 1 := ⟨r - 1, by omega⟩
    subst hzi
    refine tw2 mv hj hF hzn (by omega) (by omega) (by omega) hN (i := i) (by omega) (fun h1 z hz1 e2 e3 e4 => ?_)
    refine R_iinc (lv' := [_, _, _, _, _, _, _, _, _, _]) rfl rfl rfl ?_
    refine R_goto rfl ?_
    exact ih r (by omega) (i + 1) (n + 1) _ _ (lenW G z) h1 _ _ _ _ (by omega) (by omega) (by omega) (by omega) (by omega) (by omega) e3 e2 ((va_up_ne _ _ (by omega)).trans hvm0) (fun x hx => (e4 x (by omega) (by omega)).trans (hoo x hx)) (sW_g (sW_fr hZ (e4 _ (by omega) (by omega))) rfl rfl rfl rfl rfl) hqN (by show qW G = j + 1; exact hqW) (len_q hqW (by omega) hW hI).1 (len_q hqW (by omega) hW hI).2 (invW_s hi (by omega) (isLb_t.mpr ⟨hz1.1, by omega⟩)) (fun h2 n2 tx2 v2 G2 k2 s2 zn2 zi2 a1 a2 => k0 h2 n2 tx2 v2 G2 k2 s2 zn2 zi2 a1 (by omega))
set_option maxRecDepth 20000 in
theorem tw_loop {R C d N W9 : Nat} {h0 : AH} {Q : AQ} {L : Nat} {xs : Nat → Int} (hs : h0 aRO = eI L xs) (hL : L < 1000) (hN : 126 ≤ N) (hW9 : W9 ≤ 4) : ∀ (r j n : Nat) (tx v : Nat → Int) (G : Gr) (h : AH) (k s : Nat) (zn zj : Int), j + r = W9 → zj = j → zn = (n : Nat) → n ≤ 51 + 4 * j → k ≤ n → s ≤ 6 * n → isFace h (ys n tx) → h 123 = eI 16 v → (∀ x, 124 ≤ x → h x = h0 x) → sW R C h G → qN G = 0 → qW G = j → picW j v G → invP (10 - j) n tx G → (∀ (h1 : AH) (n1 : Nat) (tx1 v1 : Nat → Int) (G1 : Gr) (k1 s1 : Nat) (zn1 zj1 : Int), zn1 = (n1 : Nat) → n1 ≤ 51 + 4 * W9 → k1 ≤ n1 → s1 ≤ 6 * n1 → isFace h1 (ys n1 tx1) → h1 123 = eI 16 v1 → (∀ x, 124 ≤ x → h1 x = h0 x) → sW R C h1 G1 → qN G1 = 0 → qW G1 = W9 → picW W9 v1 G1 → invP (10 - W9) n1 tx1 G1 → Run mi_L_typed (T (d + 7)) Q 391 [some (vR 0), some (vR aRO), some (vI ((W9 : Nat) : Int)), some (vR 122), some (vR 123), some (vR 124), some (vI zn1), some (vI zj1), none, none] [] h1 N k1 s1) → Run mi_L_typed (T (d + 7)) Q 265 [some (vR 0), some (vR aRO), some (vI ((W9 : Nat) : Int)), some (vR 122), some (vR 123), some (vR 124), some (vI zn), some (vI zj), none, none] [] h N k s := by
  intro r
  induction r using Nat.strongRecOn with
  | ind r ih =>
  intro j n tx v G h k s zn zj hr hzj hzn hn hk hs9 hF mv hoo hZ hqN hqW hW hi k0
  refine R_iload rfl rfl ?_
  refine R_iload_n rfl rfl ?_
  refine R_icmpge rfl ⟨by omega, by omega⟩ ⟨by omega, by omega⟩ (fun c268 => ?_) (fun c268 => ?_)
  · have hr0 : r = 0 := by omega
    subst hr0
    obtain rfl : j = W9 := by omega
    exact k0 h n tx v G k s _ _ hzn (by omega) hk hs9 hF mv hoo hZ hqN hqW hW hi
  · obtain ⟨r, rfl⟩ : ∃ r1, r = r1 + 1 := ⟨r - 1, by omega⟩
    subst hzj
    refine tw1 mv (by omega) hF hzn (by omega) (by omega) (by omega) hN ((hoo _ (by decide)).trans hs) hL (fun h1 m x8 hm e2 e3 e4 => ?_)
    refine R_iconst rfl ?_
    refine R_istore (lv' := [_, _, _, _, _, _, _, _, _, _]) rfl rfl ?_
    refine tw_in (h0 := h1) hN (by omega) hm.1 hm.2 m 0 (n + 1) _ _ (begW G) h1 _ _ _ _ (Nat.zero_add _) rfl (by omega) (by omega) (by omega) (by omega) e3 e2 (va_up_self _ _ _) (fun _ _ => rfl) (sW_g (sW_fr hZ (e4 _ (by omega) (by omega))) rfl rfl rfl rfl rfl) hqN (by show qW G + 1 = j + 1; rw [hqW]) (beg_q hqW hW).1 (beg_q hqW hW).2 (invW_0 (f := 9 - j) (by rw [show 9 - j + 1 = 10 - j by omega]; exact hi) (by omega)) (fun h2 n2 tx2 v2 G2 k2 s2 zn2 zi2 a1 a2 a3 a4 a5 a6 a7 a8 a9 a10 a11 a12 => ?_)
    refine R_iinc (lv' := [_, _, _, _, _, _, _, _, _, _]) rfl rfl rfl ?_
    refine R_goto rfl ?_
    refine Run.lv (lv' := [_, _, _, _, _, _, _, _, none, none]) ?_ ⟨Or.inr rfl, Or.inr rfl, Or.inr rfl, Or.inr rfl, Or.inr rfl, Or.inr rfl, Or.inr rfl, Or.inr rfl, Or.inl rfl, Or.inl rfl, trivial⟩
    exact ih r (by omega) (j + 1) n2 tx2 v2 G2 h2 k2 s2 _ _ (by omega) (by omega) a1 (by omega) a3 a4 a5 a6 (fun x hx => (a7 x hx).trans ((e4 x (by omega) (by omega)).trans (hoo x hx))) a8 a9 a10 a11 (by rw [show 10 - (j + 1) = 9 - j by omega]; exact a12) k0
set_option maxRecDepth 20000 in
theorem tl1 {d N k s : Nat} {h : AH} {Q : AQ} {l : Nat → Int} {zw zn : Int} (ml : h 124 = eI 4 l) {n : Nat} {tx : Nat → Int} (hF : isFace h (ys n tx)) (hzn : zn = (n : Nat)) (hn79 : n ≤ 79) (hk1 : k + 1 ≤ 80) (hs1 : s + 6 ≤ 480) (hN : 126 ≤ N) {zc : Int} {L : Nat} {xs : Nat → Int} (hs : h aRO = eI L xs) (hL : L < 1000) (k0 : ∀ (h1 : AH) (m : Nat) (zn1 : Int) (n1 : Nat) (tx1 : Nat → Int) (k1 s1 : Nat), m ≤ 3 → h1 124 = eI 4 (va_up l 0 (m : Int)) → zn1 = (n1 : Nat) → ((m = 0 ∧ n1 = n ∧ tx1 = tx) ∨ (0 < m ∧ n1 = n + 1 ∧ tx1 = va_up tx n 61)) → isFace h1 (ys n1 tx1) → (∀ x, 122 ≤ x → x ≠ 124 → h1 x = h x) → k1 ≤ k + (n1 - n) → s1 ≤ s + 6 * (n1 - n) → Run mi_L_typed (T (d + 7)) Q 428 [some (vR 0), some (vR aRO), some (vI zw), some (vR 122), some (vR 123), some (vR 124), some (vI zn1), some (vI zc), none, none] [] h1 N k1 s1) : Run mi_L_typed (T (d + 7)) Q 391 [some (vR 0), some (vR aRO), some (vI zw), some (vR 122), some (vR 123), some (vR 124), some (vI zn), some (vI zc), none, none] [] h N k s := by
  refine R_aload rfl rfl ?_
  refine R_iconst rfl ?_
  refine R_aload_n rfl rfl ?_
  refine R_bipush rfl ?_
  refine R_scall rfl rfl ⟨Nat.le_of_ble_eq_true rfl, Nat.le_of_ble_eq_true rfl, (show _ ≤ 80 by omega), (show _ ≤ 480 by omega)⟩ (cell_L hs hL ⟨by omega, by omega⟩ (fun z397 => aRes_g (Or.inl rfl) ?_))
  
  refine R_iconst rfl ?_
  refine R_scall rfl rfl ⟨Nat.le_of_ble_eq_true rfl, Nat.le_of_ble_eq_true rfl, (show _ ≤ 80 by omega), (show _ ≤ 480 by omega)⟩ (low_T ⟨by omega, by omega⟩ (fun z401 hz401 => aRes_g (Or.inl rfl) ?_))
  have hb401 : 0 ≤ z401 ∧ z401 < 4 := by
    rw [hz401]
    exact lowI_b _ (by decide)
  refine R_iastore rfl (by omega) ml ⟨by omega, by omega, by omega⟩ ?_
  refine R_aload rfl rfl ?_
  refine R_iconst rfl ?_
  refine R_iaload rfl (Or.inl (by omega)) (va_up_self _ _ _) ⟨by omega, by omega, by omega⟩ ?_
  rw [va_up_self]
  refine R_ifle rfl ⟨by omega, by omega⟩ (fun c409 => ?_) (fun c409 => ?_)
  · first | exact k0 _ z401.toNat _ n tx k s (by omega) (by rw [show (z401.toNat : Int) = z401 by omega]; exact va_up_self _ _ _) hzn (Or.inl ⟨by omega, rfl, rfl⟩) (isFace_lo hF (fun j hj => va_up_ne _ _ (by omega))) (fun x h1 h2 => va_up_ne _ _ h2) (by omega) (by omega) | exact k0 _ z401.toNat _ (n + 1) _ (k + 1) (s + 6) (by omega) ((ho415 _ (by omega)).trans (by rw [show (z401.toNat : Int) = z401 by omega]; exact va_up_self _ _ _)) (by omega) (Or.inr ⟨by omega, rfl, rfl⟩) hF415 (fun x h1 h2 => (ho415 x h1).trans (va_up_ne _ _ h2)) (by omega) (by omega)
  · refine R_aload_n rfl rfl ?_
    refine R_bipush rfl ?_
    refine R_vcall rfl rfl ⟨(by omega), _, ((va_up_ne _ _ (by first | exact kne rfl | exact kz | exact kz.symm | omega)).trans hF.1)⟩ ⟨Nat.le_of_ble_eq_true rfl, Nat.le_of_ble_eq_true rfl, (show _ ≤ 80 by omega), (show _ ≤ 480 by omega)⟩ (app_9 (isFace_lo hF (fun j hj => va_up_ne _ _ (by omega))) (by omega) (by omega) ⟨by omega, by omega⟩ (fun h415 z415 hz415 hF415 ho415 => aRes_g (Or.inl rfl) ?_))
    
    refine R_iinc (lv' := [_, _, _, _, _, _, _, _, _, _]) rfl rfl rfl ?_
    refine R_iload rfl rfl ?_
    refine R_icmpeq rfl ⟨by omega, by omega⟩ ⟨by omega, by omega⟩ (fun c423 => ?_) (fun c423 => ?_)
    · first | exact k0 _ z401.toNat _ n tx k s (by omega) (by rw [show (z401.toNat : Int) = z401 by omega]; exact va_up_self _ _ _) hzn (Or.inl ⟨by omega, rfl, rfl⟩) (isFace_lo hF (fun j hj => va_up_ne _ _ (by omega))) (fun x h1 h2 => va_up_ne _ _ h2) (by omega) (by omega) | exact k0 _ z401.toNat _ (n + 1) _ (k + 1) (s + 6) (by omega) ((ho415 _ (by omega)).trans (by rw [show (z401.toNat : Int) = z401 by omega]; exact va_up_self _ _ _)) (by omega) (Or.inr ⟨by omega, rfl, rfl⟩) hF415 (fun x h1 h2 => (ho415 x h1).trans (va_up_ne _ _ h2)) (by omega) (by omega)
    · exact absurd (by omega) c423
set_option maxRecDepth 20000 in
theorem tl2 {d N k s : Nat} {h : AH} {Q : AQ} {l : Nat → Int} {zw zn : Int} (ml : h 124 = eI 4 l) {n : Nat} {tx : Nat → Int} (hF : isFace h (ys n tx)) (hzn : zn = (n : Nat)) (hn79 : n ≤ 79) (hk1 : k + 1 ≤ 80) (hs1 : s + 6 ≤ 480) (hN : 126 ≤ N) {L : Nat} {xs : Nat → Int} (hs : h aRO = eI L xs) (hL : L < 1000) {i : Nat} (hi : i < 3) (k0 : ∀ (h1 : AH) (z : Int), (97 ≤ z ∧ z ≤ 98) → h1 124 = eI 4 (va_up l (1 + i) z) → isFace h1 (ys (n + 1) (va_up tx n z)) → (∀ x, 122 ≤ x → x ≠ 124 → h1 x = h x) → Run mi_L_typed (T (d + 7)) Q 486 [some (vR 0), some (vR aRO), some (vI zw), some (vR 122), some (vR 123), some (vR 124), some (vI (zn + 1)), some (vI (i : Int)), none, none] [] h1 N (k + 1) (s + 6)) : Run mi_L_typed (T (d + 7)) Q 440 [some (vR 0), some (vR aRO), some (vI zw), some (vR 122), some (vR 123), some (vR 124), some (vI zn), some (vI (i : Int)), none, none] [] h N k s := by
  have hix : ((1 : Int) + (i : Int)).toNat = 1 + i := by omega
  refine R_aload rfl rfl ?_
  refine R_iconst rfl ?_
  refine R_iload rfl rfl ?_
  refine R_iadd rfl ?_
  refine R_bipush rfl ?_
  refine R_aload_n rfl rfl ?_
  refine R_bipush rfl ?_
  refine R_scall rfl rfl ⟨Nat.le_of_ble_eq_true rfl, Nat.le_of_ble_eq_true rfl, (show _ ≤ 80 by omega), (show _ ≤ 480 by omega)⟩ (cell_L hs hL ⟨by omega, by omega⟩ (fun z451 => aRes_g (Or.inl rfl) ?_))
  
  refine R_iconst rfl ?_
  refine R_iload rfl rfl ?_
  refine R_iadd rfl ?_
  refine R_ishr rfl ?_
  refine R_iconst rfl ?_
  refine R_scall rfl rfl ⟨Nat.le_of_ble_eq_true rfl, Nat.le_of_ble_eq_true rfl, (show _ ≤ 80 by omega), (show _ ≤ 480 by omega)⟩ (low_T ⟨by omega, by omega⟩ (fun z460 hz460 => aRes_g (Or.inl rfl) ?_))
  have hb460 : 0 ≤ z460 ∧ z460 < 2 := by
    rw [hz460]
    exact lowI_b _ (by decide)
  refine R_iadd rfl ?_
  refine R_iastore rfl (by omega) ml ⟨by omega, by omega, by omega⟩ ?_
  refine R_aload_n rfl rfl ?_
  refine R_aload rfl rfl ?_
  refine R_iconst rfl ?_
  refine R_iload rfl rfl ?_
  refine R_iadd rfl ?_
  refine R_iaload rfl (Or.inl (by omega)) (va_up_self _ _ _) ⟨by omega, by omega, by omega⟩ ?_
  rw [va_up_self]
  refine R_vcall rfl rfl ⟨(by omega), _, ((va_up_ne _ _ (by first | exact kne rfl | exact kz | exact kz.symm | omega)).trans hF.1)⟩ ⟨Nat.le_of_ble_eq_true rfl, Nat.le_of_ble_eq_true rfl, (show _ ≤ 80 by omega), (show _ ≤ 480 by omega)⟩ (app_9 (isFace_lo hF (fun j hj => va_up_ne _ _ (by omega))) (by omega) (by omega) ⟨by omega, by omega⟩ (fun h473 z473 hz473 hF473 ho473 => aRes_g (Or.inl rfl) ?_))
  
  refine R_iinc (lv' := [_, _, _, _, _, _, _, _, _, _]) rfl rfl rfl ?_
  refine R_iload rfl rfl ?_
  refine R_icmpeq rfl ⟨by omega, by omega⟩ ⟨by omega, by omega⟩ (fun c481 => ?_) (fun c481 => ?_)
  · exact k0 _ (97 + z460) ⟨by omega, by omega⟩ ((ho473 _ (by omega)).trans (by rw [← hix]; exact va_up_self _ _ _)) hF473 (fun x h1 h2 => (ho473 x h1).trans (va_up_ne _ _ h2))
  · exact absurd (by omega) c481
set_option maxRecDepth 20000 in
theorem tl_loop {R C d N f m W9 : Nat} {h0 : AH} {Q : AQ} {v : Nat → Int} {zw : Int} {L : Nat} {xs : Nat → Int} (hs : h0 aRO = eI L xs) (hL : L < 1000) (hN : 126 ≤ N) (hm1 : 1 ≤ m) (hm3 : m ≤ 3) : ∀ (r i n : Nat) (tx l : Nat → Int) (G : Gr) (h : AH) (k s : Nat) (zn zi : Int), i + r = m → zi = i → zn = (n : Nat) → n + r ≤ 75 → k ≤ n → s ≤ 6 * n → isFace h (ys n tx) → h 124 = eI 4 l → l 0 = (m : Int) → (∀ x, 122 ≤ x → x ≠ 124 → h x = h0 x) → sW R C h G → qW G = W9 → picW W9 v G → picN i l G → invN f i n tx G → (∀ (h1 : AH) (n1 : Nat) (tx1 l1 : Nat → Int) (G1 : Gr) (k1 s1 : Nat) (zn1 zi1 : Int), zn1 = (n1 : Nat) → n1 ≤ 75 → k1 ≤ n1 → s1 ≤ 6 * n1 → isFace h1 (ys n1 tx1) → h1 124 = eI 4 l1 → l1 0 = (m : Int) → (∀ x, 122 ≤ x → x ≠ 124 → h1 x = h0 x) → sW R C h1 G1 → qW G1 = W9 → picW W9 v G1 → picN m l1 G1 → invP f n1 tx1 G1 → Run mi_L_typed (T (d + 7)) Q 492 [some (vR 0), some (vR aRO), some (vI zw), some (vR 122), some (vR 123), some (vR 124), some (vI zn1), some (vI zi1), none, none] [] h1 N k1 s1) → Run mi_L_typed (T (d + 7)) Q 431 [some (vR 0), some (vR aRO), some (vI zw), some (vR 122), some (vR 123), some (vR 124), some (vI zn), some (vI zi), none, none] [] h N k s := by
  intro r
  induction r using Nat.strongRecOn with
  | ind r ih =>
  intro i n tx l G h k s zn zi hr hzi hzn hn hk hs9 hF ml hl0 hoo hZ hqW hW hP hi k0
  have hlm : l (0 : Int).toNat = (m : Int) := hl0
  refine R_iload rfl rfl ?_
  refine R_aload rfl rfl ?_
  refine R_iconst rfl ?_
  refine R_iaload rfl (Or.inl (by omega)) ml ⟨by omega, by omega, by omega⟩ ?_
  rw [hlm]
  refine R_icmpge rfl ⟨by omega, by omega⟩ ⟨by omega, by omega⟩ (fun c437 => ?_) (fun c437 => ?_)
  · have hr0 : r = 0 := by omega
    subst hr0
    obtain rfl : i = m := by omega
    exact k0 h n tx l G k s _ _ hzn (by omega) hk hs9 hF ml hl0 hoo hZ hqW hW hP (invN_e hi hm1)
  · obtain ⟨r, rfl⟩ : ∃ r1, r = r1 + 1 := ⟨r - 1, by omega⟩
    subst hzi
    refine tl2 ml hF hzn (by omega) (by omega) (by omega) hN ((hoo _ (by decide) (by decide)).trans hs) hL (i := i) (by omega) (fun h1 z hz1 e2 e3 e4 => ?_)
    refine R_iinc (lv' := [_, _, _, _, _, _, _, _, _, _]) rfl rfl rfl ?_
    refine R_goto rfl ?_
    exact ih r (by omega) (i + 1) (n + 1) _ _ (lenN G z) h1 _ _ _ _ (by omega) (by omega) (by omega) (by omega) (by omega) (by omega) e3 e2 ((va_up_ne _ _ (by omega)).trans hl0) (fun x q1 q2 => (e4 x q1 q2).trans (hoo x q1 q2)) (sW_g (sW_fr hZ (e4 _ (by omega) (by omega))) rfl rfl rfl rfl rfl) hqW hW (lenN_q hP) (invN_s hi (by omega) (isLb_t.mpr ⟨hz1.1, by omega⟩)) k0
set_option maxRecDepth 20000 in
theorem te1 {d N k s n : Nat} {h : AH} {Q : AQ} {w l : Nat → Int} {tx : Nat → Int} {G : Gr} {zw zn zc : Int} (m0 : h 122 = eI 64 w) (hR : rwL w G) (ml : h 124 = eI 4 l) (hl0 : l 0 = (qN G : Nat)) (hzw : zw = (qW G : Nat)) (hF : isFace h (ys n tx)) (hgd : gdF n tx = (true, n, G)) (hm16 : qM G ≤ 16) (hw4 : qW G ≤ 4) (hn3 : qN G ≤ 3) (hk1 : k + 5 ≤ 80) (hs1 : s + 30 ≤ 480) (hN : 126 ≤ N) (hQ : ∀ (z : Int) (h1 : AH), z = 1 → isFace h1 (G, [], fun _ => none, n, tx) → (∀ x, 122 ≤ x → h1 x = h x) → Q (.inl (some (vI z))) h1 N) : Run mi_L_typed (T (d + 7)) Q 492 [some (vR 0), some (vR aRO), some (vI zw), some (vR 122), some (vR 123), some (vR 124), some (vI zn), some (vI zc), none, none] [] h N k s := by
  have r0 : w (0 : Int).toNat = (qR G : Int) := hR.1
  have r1 : w (1 : Int).toNat = (qC G : Int) := hR.2.1
  have hlm : l (0 : Int).toNat = (qN G : Int) := hl0
  have hmi := qM_int G
  have hol : opLoad (ys n tx) = (0, ((qM G : Nat) : Int), (G, [], fun _ => none, n, tx)) := by
    unfold opLoad
    show (if (gdF n tx).1 = true then (0, ((qM (gdF n tx).2.2 : Nat) : Int), ((gdF n tx).2.2, [], fun _ => none, (n, tx))) else ((1 : Nat), (0 : Int), ys n tx)) = _
    rw [hgd]
    rfl
  have hN2 : 0 ≤ (qN G : Int) := Int.natCast_nonneg _
  refine R_aload_n rfl rfl ?_
  refine R_vcall rfl rfl ⟨(by omega), _, hF.1⟩ ⟨Nat.le_of_ble_eq_true rfl, Nat.le_of_ble_eq_true rfl, (show _ ≤ 80 by omega), (show _ ≤ 480 by omega)⟩ (errorPosition_C hF (by omega) (fun h1 hF1 ho1 => aRes_g (Or.inl rfl) ?_))
  replace hF1 : isFace h1 (ys n tx) := hF1
  have he9 : (opErr (ys n tx)).2.1 = -9 := by
    show (if (gdF n tx).1 = true then (-9 : Int) else _) = -9
    rw [hgd]
    rfl
  refine R_bipush rfl ?_
  rw [he9]
  refine R_icmpne rfl ⟨by omega, by omega⟩ ⟨by decide, by decide⟩ (fun c498 => ?_) (fun c498 => ?_)
  · exact absurd rfl c498
  · refine R_aload_n rfl rfl ?_
    refine R_vcall rfl rfl ⟨(by omega), _, hF1.1⟩ ⟨Nat.le_of_ble_eq_true rfl, Nat.le_of_ble_eq_true rfl, (show _ ≤ 80 by omega), (show _ ≤ 480 by omega)⟩ (load_C hF1 (by omega) (fun h2 hF2 ho2 => ?_))
    rw [hol] at hF2 ⊢
    refine aRes_g (v := vI ((qM G : Nat) : Int)) (Or.inl rfl) ?_
    refine R_aload_n rfl rfl ?_
    refine R_iconst rfl ?_
    refine R_iaload rfl (Or.inl (by omega)) ((ho2 _ (by omega)).trans ((ho1 _ (by omega)).trans m0)) ⟨by omega, by omega, by omega⟩ ?_
    rw [r0]
    refine R_aload_n rfl rfl ?_
    refine R_iconst rfl ?_
    refine R_iaload rfl (Or.inl (by omega)) ((ho2 _ (by omega)).trans ((ho1 _ (by omega)).trans m0)) ⟨by omega, by omega, by omega⟩ ?_
    rw [r1]
    refine R_imul rfl ?_
    rw [hmi]
    refine R_icmpne rfl ⟨by omega, by omega⟩ ⟨by omega, by omega⟩ (fun c512 => ?_) (fun c512 => ?_)
    · exact absurd rfl c512
    · refine R_aload_n rfl rfl ?_
      refine R_bipush rfl ?_
      refine R_vcall rfl rfl ⟨(by omega), _, hF2.1⟩ ⟨Nat.le_of_ble_eq_true rfl, Nat.le_of_ble_eq_true rfl, (show _ ≤ 80 by omega), (show _ ≤ 480 by omega)⟩ (about_9 hF2 (by omega) (n := 8) (by decide) rfl (fun z518 hz518 => aRes_g (Or.inl rfl) ?_))
      have hq518 : z518 = (qW G : Nat) := hz518
      refine R_iload_n rfl rfl ?_
      refine R_icmpne rfl ⟨by omega, by omega⟩ ⟨by omega, by omega⟩ (fun c522 => ?_) (fun c522 => ?_)
      · exact absurd (by omega) c522
      · refine R_aload_n rfl rfl ?_
        refine R_bipush rfl ?_
        refine R_vcall rfl rfl ⟨(by omega), _, hF2.1⟩ ⟨Nat.le_of_ble_eq_true rfl, Nat.le_of_ble_eq_true rfl, (show _ ≤ 80 by omega), (show _ ≤ 480 by omega)⟩ (about_9 hF2 (by omega) (n := 9) (by decide) rfl (fun z528 hz528 => aRes_g (Or.inl rfl) ?_))
        have hq528 : z528 = (qN G : Nat) := hz528
        refine R_aload rfl rfl ?_
        refine R_iconst rfl ?_
        refine R_iaload rfl (Or.inl (by omega)) ((ho2 _ (by omega)).trans ((ho1 _ (by omega)).trans ml)) ⟨by omega, by omega, by omega⟩ ?_
        rw [hlm]
        refine R_icmpne rfl ⟨by omega, by omega⟩ ⟨by omega, by omega⟩ (fun c535 => ?_) (fun c535 => ?_)
        · exact absurd (by omega) c535
        · refine R_iconst rfl ?_
          refine R_goto rfl ?_
          exact R_ireturn rfl (fun _ => by omega) (show _ ≤ 80 by omega) (show _ ≤ 480 by omega) (hQ _ _ rfl hF2 (fun x hx => (ho2 x hx).trans (ho1 x hx)))
