/-! ===== the law's actions, and its start ===== -/
def yh (G : Gr) (hist : List Gr) (n : Nat) (tx : Nat → Int) : Sy := (G, hist, fun _ => none, n, tx)
theorem lS_gen {L : Nat} {xs : Nat → Int} {h hB : AH} {y y' : Sy} {G G' : Gr} {N : Nat} {w' : Nat → Int} (hS : lS L xs h y G N) (hF : isFace hB y') (hy : y'.1 = G') (hR : rwL w' G') (h122 : hB 122 = eI 64 w') (ho : ∀ j, 123 ≤ j → hB j = h j) (h1 : qR G' = qR G) (h2 : qC G' = qC G) (h3 : qW G' = qW G) (h4 : qWn G' = qWn G) (h5 : qWl G' = qWl G) (h6 : qN G' = qN G) (h7 : qNl G' = qNl G) : lS L xs hB y' G' N := by
  obtain ⟨s1, s2, s3, s4, s5, s6, ⟨g, s7⟩, s8, s9, s10, s11, s12⟩ := hS
  have hRO : aRO = 1000 := rfl
  have hok : okG G' := by
    have := hF.2.2.2.2.1
    rw [hy] at this
    exact this
  refine ⟨hF, hy, ⟨w', h122, hR⟩, ?_, ?_, ⟨hok, by rw [h1]; exact s6.2.1, by rw [h2]; exact s6.2.2⟩, ⟨g, (ho _ (by decide)).trans s7⟩, fun j hj => ?_, (ho _ (by decide)).trans s9, s10, s11, s12⟩
  · obtain ⟨a1, v, a2, a3⟩ := s4
    refine ⟨by rw [h3]; exact a1, v, (ho _ (by decide)).trans a2, ?_⟩
    rw [h3, h4, h5]
    exact a3
  · obtain ⟨a1, l, a2, a3, a4⟩ := s5
    refine ⟨by rw [h6]; exact a1, l, (ho _ (by decide)).trans a2, ?_⟩
    rw [h6, h7]
    exact ⟨a3, a4⟩
  · rcases Nat.lt_or_ge j 122 with q | q
    · exact wfE_mono (by omega) (wf_face hF j q)
    · by_cases q2 : j = 122
      · rw [q2, h122]
        trivial
      · rw [ho j (by omega)]
        exact s8 j hj
theorem opPut_y {G : Gr} {n : Nat} {tx : Nat → Int} {c : Nat} (hc : c < qM G) : opPut (yh G [] n tx) (c : Int) 97 = (0, qL G c, yh (setL G c 97) [G] n tx) := by
  unfold opPut
  rw [if_pos ⟨by omega, show (c : Int) < ((qM G : Nat) : Int) by omega⟩, if_pos (Or.inr (by decide))]
  rfl
theorem opBar_y {G G1 : Gr} {n : Nat} {tx : Nat → Int} {c : Nat} {b v : Bool} (hc : c < qM G1) (hp : qPb G1 c b = true) : opSetBar (yh G1 [G] n tx) (c : Int) b v = (0, ((nE (setBr G1 c b v) : Nat) : Int), yh (setBr G1 c b v) [G, G1] n tx) := by
  unfold opSetBar
  rw [if_pos ⟨by omega, show (c : Int) < ((qM G1 : Nat) : Int) by omega⟩]
  show (if qPb G1 c b = true then _ else _) = _
  rw [if_pos hp]
  rfl
theorem opUndo_2 {G G1 G2 : Gr} {n : Nat} {tx : Nat → Int} : opUndo (yh G2 [G, G1] n tx) = (0, 1, yh G1 [G] n tx) := rfl
theorem opUndo_1 {G G1 : Gr} {n : Nat} {tx : Nat → Int} : opUndo (yh G1 [G] n tx) = (0, 0, yh G [] n tx) := rfl
set_option maxRecDepth 20000 in
theorem law_pu {d L N k n : Nat} {xs : Nat → Int} {h : AH} {G G0 : Gr} {n9 : Nat} {tx : Nat → Int} {z7 : Int} {z8 : Int} (hS : lS L xs h (yh G [] n9 tx) G N) (hk : k ≤ 10000) (hn : n ≤ 100000) (K : ∀ (h1 : AH) (c : Nat), c < qM G → lS L xs h1 (yh (setL G c 97) [G] n9 tx) (setL G c 97) N → Run mi_L_law (T (d + 40)) qLaw 306 [some (vR aRO), some (vR 0), some (vR 122), some (vR 123), some (vR 124), some (vR 125), some (vI ((qW G0 : Nat) : Int)), some (vI z7), some (vI (c : Int)), some (vI (qL G c)), none, none, none, none] [] h1 N (k + 2) (n + 12)) : Run mi_L_law (T (d + 40)) qLaw 257 [some (vR aRO), some (vR 0), some (vR 122), some (vR 123), some (vR 124), some (vR 125), some (vI ((qW G0 : Nat) : Int)), some (vI z7), some (vI z8), none, none, none, none, none] [] h N k n := by
  have hRO : aRO = 1000 := rfl
  have hNb := hS.2.2.2.2.2.2.2.2.2.2
  obtain ⟨w, m0, hw0, hw1, wL, wE, wS⟩ := id hS.2.2.1
  have r0 : w (0 : Int).toNat = (qR G : Int) := hw0
  have r1 : w (1 : Int).toNat = (qC G : Int) := hw1
  obtain ⟨g0, mg⟩ := hS.2.2.2.2.2.2.1
  have hG := hS.2.2.2.2.2.1
  obtain ⟨hn3, l, ml, hl0, hll⟩ := id hS.2.2.2.2.1
  have q0 : l (0 : Int).toNat = (qN G : Int) := hl0
  have hm16 := sm4_m hG
  have hmi := qM_int G
  have hm4 := hG.1.m
  refine R_aload_n rfl rfl ?_
  refine R_bipush rfl ?_
  refine R_scall rfl rfl ⟨Nat.le_of_ble_eq_true rfl, Nat.le_of_ble_eq_true rfl, (show _ ≤ 600130 by omega), (show _ ≤ 7301079 by omega)⟩ (cell_L hS.2.2.2.2.2.2.2.2.1 hS.2.2.2.2.2.2.2.2.2.1 ⟨by omega, by omega⟩ (fun z260 => aRes_g (Or.inl rfl) ?_))
  
  refine R_aload_n rfl rfl ?_
  refine R_iconst rfl ?_
  refine R_iaload rfl (Or.inl (by omega)) m0 ⟨by omega, by omega, by omega⟩ ?_
  rw [r0]
  refine R_aload_n rfl rfl ?_
  refine R_iconst rfl ?_
  refine R_iaload rfl (Or.inl (by omega)) m0 ⟨by omega, by omega, by omega⟩ ?_
  rw [r1]
  refine R_imul rfl ?_
  rw [hmi]
  refine R_scall rfl rfl ⟨Nat.le_of_ble_eq_true rfl, Nat.le_of_ble_eq_true rfl, (show _ ≤ 600130 by omega), (show _ ≤ 7301079 by omega)⟩ (low_T ⟨by omega, by omega⟩ (fun z270 hz270 => aRes_g (Or.inl rfl) ?_))
  have hb270 : 0 ≤ z270 ∧ z270 < ((qM G : Nat) : Int) := by
    rw [hz270]
    exact lowI_b _ (by omega)
  obtain ⟨c, rfl⟩ : ∃ c : Nat, z270 = (c : Int) := ⟨z270.toNat, by omega⟩
  clear hz270
  have hc : c < qM G := by omega
  have hwl : w ((2 : Int) + (c : Int)).toNat = qL G c := by
    rw [show ((2 : Int) + (c : Int)).toNat = 2 + c by omega]
    exact wL c hc
  have hix : ((2 : Int) + (c : Int)).toNat = 2 + c := by omega
  have hlr : 0 ≤ qL G c ∧ qL G c ≤ 122 := by
    rcases hG.1.2.2.1 c hc with q | ⟨q1, q2⟩ <;> omega
  refine R_istore (lv' := [_, _, _, _, _, _, _, _, _, _, _, _, _, _]) rfl rfl ?_
  refine R_aload_n rfl rfl ?_
  refine R_iconst rfl ?_
  refine R_iload rfl rfl ?_
  refine R_iadd rfl ?_
  refine R_iaload rfl (Or.inl (by omega)) m0 ⟨by omega, by omega, by omega⟩ ?_
  rw [hwl]
  refine R_istore (lv' := [_, _, _, _, _, _, _, _, _, _, _, _, _, _]) rfl rfl ?_
  refine R_aload_n rfl rfl ?_
  refine R_iload rfl rfl ?_
  refine R_bipush rfl ?_
  refine R_vcall rfl rfl ⟨(by omega), _, hS.1.1⟩ ⟨Nat.le_of_ble_eq_true rfl, Nat.le_of_ble_eq_true rfl, (show _ ≤ 600130 by omega), (show _ ≤ 7301079 by omega)⟩ (put_C hS.1 (by omega) (c := (c : Int)) (k := 97) ⟨by omega, by omega⟩ ⟨by decide, by decide⟩ (fun h1 hF1 ho1 => ?_))
  rw [opPut_y hc] at hF1 ⊢
  refine aRes_g (v := vI (qL G c)) (Or.inl rfl) ?_
  refine R_iload rfl rfl ?_
  refine R_icmpeq rfl ⟨by omega, by omega⟩ ⟨by omega, by omega⟩ (fun c293 => ?_) (fun c293 => ?_)
  · refine R_aload_n rfl rfl ?_
    refine R_iconst rfl ?_
    refine R_iload rfl rfl ?_
    refine R_iadd rfl ?_
    refine R_bipush rfl ?_
    refine R_iastore rfl (by omega) ((ho1 _ (by omega)).trans m0) ⟨by omega, by omega, by omega⟩ ?_
    exact K _ c hc (lS_gen hS (isFace_up hF1 (fun j hj => va_up_ne _ _ hj)) rfl (by rw [hix]; exact rwL_let (w := w) ⟨hw0, hw1, wL, wE, wS⟩ hm16 hc) (va_up_self _ _ _) (fun j hj => (va_up_ne _ _ (by omega)).trans (ho1 j (by omega))) rfl rfl rfl rfl rfl rfl rfl)
  · exact absurd rfl c293
set_option maxRecDepth 20000 in
theorem law_c1 {d L N k n : Nat} {xs : Nat → Int} {h : AH} {y : Sy} {G G0 : Gr} {z7 z8 z9 : Int} (hS : lS L xs h y G N) (hq0 : qW G = qW G0) (hk : k ≤ 10000) (hn : n ≤ 100000) (K : ∀ h1 : AH, lS L xs h1 y G N → Run mi_L_law (T (d + 40)) qLaw 327 [some (vR aRO), some (vR 0), some (vR 122), some (vR 123), some (vR 124), some (vR 125), some (vI ((qW G0 : Nat) : Int)), some (vI z7), some (vI z8), some (vI z9), none, none, none, none] [] h1 N (k + 730) (n + 4380)) : Run mi_L_law (T (d + 40)) qLaw 306 [some (vR aRO), some (vR 0), some (vR 122), some (vR 123), some (vR 124), some (vR 125), some (vI ((qW G0 : Nat) : Int)), some (vI z7), some (vI z8), some (vI z9), none, none, none, none] [] h N k n := by
  have hRO : aRO = 1000 := rfl
  have hNb := hS.2.2.2.2.2.2.2.2.2.2
  refine R_aload_n rfl rfl ?_
  refine R_aload_n rfl rfl ?_
  refine R_scall rfl rfl ⟨Nat.le_of_ble_eq_true rfl, Nat.le_of_ble_eq_true rfl, (show _ ≤ 600130 by omega), (show _ ≤ 7301079 by omega)⟩ (cells_L hS.1 hS.2.1 hS.2.2.1 hS.2.2.2.2.2.1 (by omega) (fun z308 hz308 => aRes_g (Or.inl rfl) ?_))
  
  refine R_ifeq rfl ⟨by omega, by omega⟩ (fun c311 => ?_) (fun c311 => ?_)
  · exact absurd c311 (by omega)
  · refine R_aload_n rfl rfl ?_
    refine R_iload rfl rfl ?_
    refine R_aload_n rfl rfl ?_
    refine R_aload_n rfl rfl ?_
    refine R_scall rfl rfl ⟨Nat.le_of_ble_eq_true rfl, Nat.le_of_ble_eq_true rfl, (show _ ≤ 600130 by omega), (show _ ≤ 7301079 by omega)⟩ (entries_L hS.1 hS.2.1 hS.2.2.1 hS.2.2.2.1 hS.2.2.2.2.2.1 (by omega) (by rw [hq0]) (fun z319 h1 hz319 hF319 ho319 => aRes_g (Or.inl rfl) ?_))
    have hS1 := lS_call hS hF319 ho319
    refine R_ifne rfl ⟨by omega, by omega⟩ (fun c322 => ?_) (fun c322 => ?_)
    · exact K h1 hS1
    · exact absurd (show z319 = 0 by omega) (by omega)
set_option maxRecDepth 20000 in
theorem law_c0 {d L N k n : Nat} {xs : Nat → Int} {h : AH} {y : Sy} {G G0 : Gr} (hS : lS L xs h y G N) (hq0 : qW G = qW G0) (hk : k ≤ 10000) (hn : n ≤ 100000) (K : ∀ h1 : AH, lS L xs h1 y G N → Run mi_L_law (T (d + 40)) qLaw 104 [some (vR aRO), some (vR 0), some (vR 122), some (vR 123), some (vR 124), some (vR 125), some (vI ((qW G0 : Nat) : Int)), none, none, none, none, none, none, none] [] h1 N (k + 730) (n + 4380)) : Run mi_L_law (T (d + 40)) qLaw 83 [some (vR aRO), some (vR 0), some (vR 122), some (vR 123), some (vR 124), some (vR 125), some (vI ((qW G0 : Nat) : Int)), none, none, none, none, none, none, none] [] h N k n := by
  have hRO : aRO = 1000 := rfl
  have hNb := hS.2.2.2.2.2.2.2.2.2.2
  refine R_aload_n rfl rfl ?_
  refine R_aload_n rfl rfl ?_
  refine R_scall rfl rfl ⟨Nat.le_of_ble_eq_true rfl, Nat.le_of_ble_eq_true rfl, (show _ ≤ 600130 by omega), (show _ ≤ 7301079 by omega)⟩ (cells_L hS.1 hS.2.1 hS.2.2.1 hS.2.2.2.2.2.1 (by omega) (fun z85 hz85 => aRes_g (Or.inl rfl) ?_))
  
  refine R_ifeq rfl ⟨by omega, by omega⟩ (fun c88 => ?_) (fun c88 => ?_)
  · exact absurd c88 (by omega)
  · refine R_aload_n rfl rfl ?_
    refine R_iload rfl rfl ?_
    refine R_aload_n rfl rfl ?_
    refine R_aload_n rfl rfl ?_
    refine R_scall rfl rfl ⟨Nat.le_of_ble_eq_true rfl, Nat.le_of_ble_eq_true rfl, (show _ ≤ 600130 by omega), (show _ ≤ 7301079 by omega)⟩ (entries_L hS.1 hS.2.1 hS.2.2.1 hS.2.2.2.1 hS.2.2.2.2.2.1 (by omega) (by rw [hq0]) (fun z96 h1 hz96 hF96 ho96 => aRes_g (Or.inl rfl) ?_))
    have hS1 := lS_call hS hF96 ho96
    refine R_ifne rfl ⟨by omega, by omega⟩ (fun c99 => ?_) (fun c99 => ?_)
    · exact K h1 hS1
    · exact absurd (show z96 = 0 by omega) (by omega)
set_option maxRecDepth 20000 in
theorem law_c2 {d L N k n : Nat} {xs : Nat → Int} {h : AH} {y : Sy} {G G0 : Gr} {z7 z8 z9 z10 z11 z12 : Int} {l13 : Option AV} (hS : lS L xs h y G N) (hq0 : qW G = qW G0) (hk : k ≤ 10000) (hn : n ≤ 100000) : Run mi_L_law (T (d + 40)) qLaw 529 [some (vR aRO), some (vR 0), some (vR 122), some (vR 123), some (vR 124), some (vR 125), some (vI ((qW G0 : Nat) : Int)), some (vI z7), some (vI z8), some (vI z9), some (vI z10), some (vI z11), some (vI z12), l13] [] h N k n := by
  have hRO : aRO = 1000 := rfl
  have hNb := hS.2.2.2.2.2.2.2.2.2.2
  refine R_aload_n rfl rfl ?_
  refine R_aload_n rfl rfl ?_
  refine R_scall rfl rfl ⟨Nat.le_of_ble_eq_true rfl, Nat.le_of_ble_eq_true rfl, (show _ ≤ 600130 by omega), (show _ ≤ 7301079 by omega)⟩ (cells_L hS.1 hS.2.1 hS.2.2.1 hS.2.2.2.2.2.1 (by omega) (fun z531 hz531 => aRes_g (Or.inl rfl) ?_))
  
  refine R_ifeq rfl ⟨by omega, by omega⟩ (fun c534 => ?_) (fun c534 => ?_)
  · exact absurd c534 (by omega)
  · refine R_aload_n rfl rfl ?_
    refine R_iload rfl rfl ?_
    refine R_aload_n rfl rfl ?_
    refine R_aload_n rfl rfl ?_
    refine R_scall rfl rfl ⟨Nat.le_of_ble_eq_true rfl, Nat.le_of_ble_eq_true rfl, (show _ ≤ 600130 by omega), (show _ ≤ 7301079 by omega)⟩ (entries_L hS.1 hS.2.1 hS.2.2.1 hS.2.2.2.1 hS.2.2.2.2.2.1 (by omega) (by rw [hq0]) (fun z542 h1 hz542 hF542 ho542 => aRes_g (Or.inl rfl) ?_))
    have hS1 := lS_call hS hF542 ho542
    refine R_ifeq rfl ⟨by omega, by omega⟩ (fun c545 => ?_) (fun c545 => ?_)
    · exact absurd c545 (by omega)
    · refine R_iconst rfl ?_
      refine R_goto rfl ?_
      exact R_ireturn rfl (fun _ => by omega) (show _ ≤ 600130 by omega) (show _ ≤ 7301079 by omega) rfl
set_option maxRecDepth 20000 in
theorem law_b1 {d L N k n c : Nat} {xs : Nat → Int} {h : AH} {y : Sy} {G G0 : Gr} {z7 z9 : Int} (hS : lS L xs h y G N) (hc : c < qM G) (hk : k ≤ 10000) (hn : n ≤ 100000) (K : ∀ b : Bool, Run mi_L_law (T (d + 40)) qLaw 348 [some (vR aRO), some (vR 0), some (vR 122), some (vR 123), some (vR 124), some (vR 125), some (vI ((qW G0 : Nat) : Int)), some (vI z7), some (vI (c : Int)), some (vI z9), none, none, none, none] [vI (bI b)] h N k n) : Run mi_L_law (T (d + 40)) qLaw 327 [some (vR aRO), some (vR 0), some (vR 122), some (vR 123), some (vR 124), some (vR 125), some (vI ((qW G0 : Nat) : Int)), some (vI z7), some (vI (c : Int)), some (vI z9), none, none, none, none] [] h N k n := by
  have hRO : aRO = 1000 := rfl
  have hNb := hS.2.2.2.2.2.2.2.2.2.2
  refine R_aload_n rfl rfl ?_
  refine R_bipush rfl ?_
  refine R_scall rfl rfl ⟨Nat.le_of_ble_eq_true rfl, Nat.le_of_ble_eq_true rfl, (show _ ≤ 600130 by omega), (show _ ≤ 7301079 by omega)⟩ (cell_L hS.2.2.2.2.2.2.2.2.1 hS.2.2.2.2.2.2.2.2.2.1 ⟨by omega, by omega⟩ (fun z330 => aRes_g (Or.inl rfl) ?_))
  
  refine R_iconst rfl ?_
  refine R_ishr rfl ?_
  refine R_iconst rfl ?_
  refine R_scall rfl rfl ⟨Nat.le_of_ble_eq_true rfl, Nat.le_of_ble_eq_true rfl, (show _ ≤ 600130 by omega), (show _ ≤ 7301079 by omega)⟩ (low_T ⟨by decide, by decide⟩ (fun z336 hz336 => aRes_g (Or.inl rfl) ?_))
  have hb336 : 0 ≤ z336 ∧ z336 < 2 := by
    rw [hz336]
    exact lowI_b _ (by decide)
  refine R_iconst rfl ?_
  refine R_icmpne rfl ⟨by omega, by omega⟩ ⟨by decide, by decide⟩ (fun c340 => ?_) (fun c340 => ?_)
  · refine R_iconst rfl ?_
    exact K false
  · refine R_iconst rfl ?_
    refine R_goto rfl ?_
    exact K true
set_option maxRecDepth 20000 in
theorem law_b2_true {d L N k n c : Nat} {xs : Nat → Int} {h : AH} {y : Sy} {G G0 : Gr} {z7 z9 : Int} (hS : lS L xs h y G N) (hc : c < qM G) (hk : k ≤ 10000) (hn : n ≤ 100000) (K : Run mi_L_law (T (d + 40)) qLaw 396 [some (vR aRO), some (vR 0), some (vR 122), some (vR 123), some (vR 124), some (vR 125), some (vI ((qW G0 : Nat) : Int)), some (vI z7), some (vI (c : Int)), some (vI z9), some (vI (bI true)), none, none, none] [vI (bI (!qPb G c true))] h N k n) : Run mi_L_law (T (d + 40)) qLaw 348 [some (vR aRO), some (vR 0), some (vR 122), some (vR 123), some (vR 124), some (vR 125), some (vI ((qW G0 : Nat) : Int)), some (vI z7), some (vI (c : Int)), some (vI z9), none, none, none, none] [vI (bI true)] h N k n := by
  have hRO : aRO = 1000 := rfl
  have hNb := hS.2.2.2.2.2.2.2.2.2.2
  obtain ⟨w, m0, hw0, hw1, wL, wE, wS⟩ := id hS.2.2.1
  have r0 : w (0 : Int).toNat = (qR G : Int) := hw0
  have r1 : w (1 : Int).toNat = (qC G : Int) := hw1
  obtain ⟨g0, mg⟩ := hS.2.2.2.2.2.2.1
  have hG := hS.2.2.2.2.2.1
  obtain ⟨hn3, l, ml, hl0, hll⟩ := id hS.2.2.2.2.1
  have q0 : l (0 : Int).toNat = (qN G : Int) := hl0
  have hm16 := sm4_m hG
  have hO := hG.1
  obtain ⟨⟨hr2, hr6⟩, ⟨hc2, hc6⟩, -⟩ := id hO
  have hml := Nat.mod_lt c (show 0 < qC G by omega)
  have hdl : c / qC G < qR G := (Nat.div_lt_iff_lt_mul (show 0 < qC G by omega)).mpr hc
  have hmd : (c : Int) % (qC G : Int) = ((c % qC G : Nat) : Int) := rfl
  have hdd : (c : Int) / (qC G : Int) = ((c / qC G : Nat) : Int) := rfl
  have hd0 : (0 : Int) ≤ ((c / qC G : Nat) : Int) := Int.natCast_nonneg _
  refine R_istore (lv' := [_, _, _, _, _, _, _, _, _, _, _, _, _, _]) rfl rfl ?_
  refine R_iload rfl rfl ?_
  refine R_ifeq rfl ⟨by decide, by decide⟩ (fun c0 => absurd c0 (by decide)) (fun _ => ?_)
  refine R_iload rfl rfl ?_
  refine R_aload_n rfl rfl ?_
  refine R_iconst rfl ?_
  refine R_iaload rfl (Or.inl (by omega)) m0 ⟨by omega, by omega, by omega⟩ ?_
  rw [r1]
  refine R_idiv rfl ⟨by omega, by omega, by omega, by omega⟩ ?_
  rw [hdd]
  refine R_aload_n rfl rfl ?_
  refine R_iconst rfl ?_
  refine R_iaload rfl (Or.inl (by omega)) m0 ⟨by omega, by omega, by omega⟩ ?_
  rw [r0]
  refine R_iconst rfl ?_
  refine R_isub rfl ?_
  refine R_icmpne rfl ⟨by omega, by omega⟩ ⟨by omega, by omega⟩ (fun c366 => ?_) (fun c366 => ?_)
  · have hv : qPb G c true = true := by
      rw [qPb_t hO hc, decide_eq_false (by omega)]
      rfl
    refine R_iconst rfl ?_
    refine R_goto rfl ?_
    rw [hv] at K
    exact K
  · have hv : qPb G c true = false := by
      rw [qPb_t hO hc, decide_eq_true (by omega)]
      rfl
    refine R_iconst rfl ?_
    refine R_goto rfl ?_
    rw [hv] at K
    exact K
set_option maxRecDepth 20000 in
theorem law_b3_true {d N k n c : Nat} {h : AH} {G0 : Gr} {z7 z9 zr : Int} (K : Run mi_L_law (T (d + 40)) qLaw 415 [some (vR aRO), some (vR 0), some (vR 122), some (vR 123), some (vR 124), some (vR 125), some (vI ((qW G0 : Nat) : Int)), some (vI z7), some (vI (c : Int)), some (vI z9), some (vI (bI true)), some (vI zr), some (vI (34 + (c : Int))), none] [] h N k n) : Run mi_L_law (T (d + 40)) qLaw 396 [some (vR aRO), some (vR 0), some (vR 122), some (vR 123), some (vR 124), some (vR 125), some (vI ((qW G0 : Nat) : Int)), some (vI z7), some (vI (c : Int)), some (vI z9), some (vI (bI true)), none, none, none] [vI zr] h N k n := by
  refine R_istore (lv' := [_, _, _, _, _, _, _, _, _, _, _, _, _, _]) rfl rfl ?_
  refine R_iload rfl rfl ?_
  refine R_ifeq rfl ⟨by decide, by decide⟩ (fun c0 => absurd c0 (by decide)) (fun _ => ?_)
  refine R_bipush rfl ?_
  refine R_goto rfl ?_
  refine R_iload rfl rfl ?_
  refine R_iadd rfl ?_
  refine R_istore (lv' := [_, _, _, _, _, _, _, _, _, _, _, _, _, _]) rfl rfl ?_
  exact K
set_option maxRecDepth 20000 in
theorem law_b2_false {d L N k n c : Nat} {xs : Nat → Int} {h : AH} {y : Sy} {G G0 : Gr} {z7 z9 : Int} (hS : lS L xs h y G N) (hc : c < qM G) (hk : k ≤ 10000) (hn : n ≤ 100000) (K : Run mi_L_law (T (d + 40)) qLaw 396 [some (vR aRO), some (vR 0), some (vR 122), some (vR 123), some (vR 124), some (vR 125), some (vI ((qW G0 : Nat) : Int)), some (vI z7), some (vI (c : Int)), some (vI z9), some (vI (bI false)), none, none, none] [vI (bI (!qPb G c false))] h N k n) : Run mi_L_law (T (d + 40)) qLaw 348 [some (vR aRO), some (vR 0), some (vR 122), some (vR 123), some (vR 124), some (vR 125), some (vI ((qW G0 : Nat) : Int)), some (vI z7), some (vI (c : Int)), some (vI z9), none, none, none, none] [vI (bI false)] h N k n := by
  have hRO : aRO = 1000 := rfl
  have hNb := hS.2.2.2.2.2.2.2.2.2.2
  obtain ⟨w, m0, hw0, hw1, wL, wE, wS⟩ := id hS.2.2.1
  have r0 : w (0 : Int).toNat = (qR G : Int) := hw0
  have r1 : w (1 : Int).toNat = (qC G : Int) := hw1
  obtain ⟨g0, mg⟩ := hS.2.2.2.2.2.2.1
  have hG := hS.2.2.2.2.2.1
  obtain ⟨hn3, l, ml, hl0, hll⟩ := id hS.2.2.2.2.1
  have q0 : l (0 : Int).toNat = (qN G : Int) := hl0
  have hm16 := sm4_m hG
  have hO := hG.1
  obtain ⟨⟨hr2, hr6⟩, ⟨hc2, hc6⟩, -⟩ := id hO
  have hml := Nat.mod_lt c (show 0 < qC G by omega)
  have hdl : c / qC G < qR G := (Nat.div_lt_iff_lt_mul (show 0 < qC G by omega)).mpr hc
  have hmd : (c : Int) % (qC G : Int) = ((c % qC G : Nat) : Int) := rfl
  have hdd : (c : Int) / (qC G : Int) = ((c / qC G : Nat) : Int) := rfl
  have hd0 : (0 : Int) ≤ ((c / qC G : Nat) : Int) := Int.natCast_nonneg _
  refine R_istore (lv' := [_, _, _, _, _, _, _, _, _, _, _, _, _, _]) rfl rfl ?_
  refine R_iload rfl rfl ?_
  refine R_ifeq rfl ⟨by decide, by decide⟩ (fun _ => ?_) (fun c0 => absurd c0 (by decide))
  refine R_iload rfl rfl ?_
  refine R_aload_n rfl rfl ?_
  refine R_iconst rfl ?_
  refine R_iaload rfl (Or.inl (by omega)) m0 ⟨by omega, by omega, by omega⟩ ?_
  rw [r1]
  refine R_irem rfl ⟨by omega, by omega, by omega, by omega⟩ ?_
  rw [hmd]
  refine R_aload_n rfl rfl ?_
  refine R_iconst rfl ?_
  refine R_iaload rfl (Or.inl (by omega)) m0 ⟨by omega, by omega, by omega⟩ ?_
  rw [r1]
  refine R_iconst rfl ?_
  refine R_isub rfl ?_
  refine R_icmpne rfl ⟨by omega, by omega⟩ ⟨by omega, by omega⟩ (fun c388 => ?_) (fun c388 => ?_)
  · have hv : qPb G c false = true := by
      rw [qPb_f hO hc, decide_eq_false (by omega)]
      rfl
    refine R_iconst rfl ?_
    rw [hv] at K
    exact K
  · have hv : qPb G c false = false := by
      rw [qPb_f hO hc, decide_eq_true (by omega)]
      rfl
    refine R_iconst rfl ?_
    refine R_goto rfl ?_
    rw [hv] at K
    exact K
set_option maxRecDepth 20000 in
theorem law_b3_false {d N k n c : Nat} {h : AH} {G0 : Gr} {z7 z9 zr : Int} (K : Run mi_L_law (T (d + 40)) qLaw 415 [some (vR aRO), some (vR 0), some (vR 122), some (vR 123), some (vR 124), some (vR 125), some (vI ((qW G0 : Nat) : Int)), some (vI z7), some (vI (c : Int)), some (vI z9), some (vI (bI false)), some (vI zr), some (vI (18 + (c : Int))), none] [] h N k n) : Run mi_L_law (T (d + 40)) qLaw 396 [some (vR aRO), some (vR 0), some (vR 122), some (vR 123), some (vR 124), some (vR 125), some (vI ((qW G0 : Nat) : Int)), some (vI z7), some (vI (c : Int)), some (vI z9), some (vI (bI false)), none, none, none] [vI zr] h N k n := by
  refine R_istore (lv' := [_, _, _, _, _, _, _, _, _, _, _, _, _, _]) rfl rfl ?_
  refine R_iload rfl rfl ?_
  refine R_ifeq rfl ⟨by decide, by decide⟩ (fun _ => ?_) (fun c0 => absurd c0 (by decide))
  refine R_bipush rfl ?_
  refine R_iload rfl rfl ?_
  refine R_iadd rfl ?_
  refine R_istore (lv' := [_, _, _, _, _, _, _, _, _, _, _, _, _, _]) rfl rfl ?_
  exact K
set_option maxRecDepth 20000 in
theorem law_b2 {d L N k n c : Nat} {xs : Nat → Int} {h : AH} {y : Sy} {G G0 : Gr} {z7 z9 : Int} (hS : lS L xs h y G N) (hc : c < qM G) (hk : k ≤ 10000) (hn : n ≤ 100000) {b : Bool} (K : ∀ za : Int, za = ((ofB b + c : Nat) : Int) → Run mi_L_law (T (d + 40)) qLaw 415 [some (vR aRO), some (vR 0), some (vR 122), some (vR 123), some (vR 124), some (vR 125), some (vI ((qW G0 : Nat) : Int)), some (vI z7), some (vI (c : Int)), some (vI z9), some (vI (bI b)), some (vI (bI (!qPb G c b))), some (vI za), none] [] h N k n) : Run mi_L_law (T (d + 40)) qLaw 348 [some (vR aRO), some (vR 0), some (vR 122), some (vR 123), some (vR 124), some (vR 125), some (vI ((qW G0 : Nat) : Int)), some (vI z7), some (vI (c : Int)), some (vI z9), none, none, none, none] [vI (bI b)] h N k n := by
  cases b
  · exact law_b2_false hS hc hk hn (law_b3_false (K _ (by show (18 : Int) + (c : Int) = ((18 + c : Nat) : Int); omega)))
  · exact law_b2_true hS hc hk hn (law_b3_true (K _ (by show (34 : Int) + (c : Int) = ((34 + c : Nat) : Int); omega)))
set_option maxRecDepth 20000 in
theorem law_ba_true {d L N k n c : Nat} {xs : Nat → Int} {h : AH} {Ga G G0 : Gr} {n9 : Nat} {tx : Nat → Int} {b : Bool} {z7 z9 za : Int} (hS : lS L xs h (yh G [Ga] n9 tx) G N) (hc : c < qM G) (hp : qPb G c b = true) (hq0 : qW G = qW G0) (hza : za = ((ofB b + c : Nat) : Int)) (hN5 : N ≤ 560) (hk : k ≤ 10000) (hn : n ≤ 100000) (hqb : qB G b c = true) (K : ∀ (h1 : AH) (N1 k1 n1 : Nat), lS L xs h1 (yh (setBr G c b false) [Ga, G] n9 tx) (setBr G c b false) N1 → N1 ≤ N + 4 → k1 ≤ k + 740 → n1 ≤ n + 4500 → Run mi_L_law (T (d + 40)) qLaw 498 [some (vR aRO), some (vR 0), some (vR 122), some (vR 123), some (vR 124), some (vR 125), some (vI ((qW G0 : Nat) : Int)), some (vI z7), some (vI (c : Int)), some (vI z9), some (vI (bI b)), some (vI (bI (!qPb G c b))), some (vI za), some (vI 1)] [] h1 N1 k1 n1) : Run mi_L_law (T (d + 40)) qLaw 415 [some (vR aRO), some (vR 0), some (vR 122), some (vR 123), some (vR 124), some (vR 125), some (vI ((qW G0 : Nat) : Int)), some (vI z7), some (vI (c : Int)), some (vI z9), some (vI (bI b)), some (vI (bI (!qPb G c b))), some (vI za), none] [] h N k n := by
  have hRO : aRO = 1000 := rfl
  have hNb := hS.2.2.2.2.2.2.2.2.2.2
  obtain ⟨w, m0, hw0, hw1, wL, wE, wS⟩ := id hS.2.2.1
  have r0 : w (0 : Int).toNat = (qR G : Int) := hw0
  have r1 : w (1 : Int).toNat = (qC G : Int) := hw1
  obtain ⟨g0, mg⟩ := hS.2.2.2.2.2.2.1
  have hG := hS.2.2.2.2.2.1
  obtain ⟨hn3, l, ml, hl0, hll⟩ := id hS.2.2.2.2.1
  have q0 : l (0 : Int).toNat = (qN G : Int) := hl0
  have hm16 := sm4_m hG
  have hO := hG.1
  obtain ⟨⟨hr2, hr6⟩, ⟨hc2, hc6⟩, -⟩ := id hO
  have hx49 : ofB b + c ≤ 49 ∧ 18 ≤ ofB b + c := by
    cases b
    · show 18 + c ≤ 49 ∧ 18 ≤ 18 + c
      omega
    · show 34 + c ≤ 49 ∧ 18 ≤ 34 + c
      omega
  have hix : za.toNat = ofB b + c := by omega
  have hr9 : bI (!qPb G c b) = 0 := by
    rw [hp]
    rfl
  have hat : w za.toNat = 1 := by
    rw [hix, rwL_at ⟨hw0, hw1, wL, wE, wS⟩ hc, hqb]
    rfl
  refine R_iload rfl rfl ?_
  refine R_ifne rfl ⟨by omega, by omega⟩ (fun c417 => ?_) (fun c417 => ?_)
  · exact absurd hr9 c417
  · refine R_aload_n rfl rfl ?_
    refine R_iload rfl rfl ?_
    refine R_iaload rfl (Or.inl (by omega)) m0 ⟨by omega, by omega, by omega⟩ ?_
    rw [hat]
    refine R_istore (lv' := [_, _, _, _, _, _, _, _, _, _, _, _, _, _]) rfl rfl ?_
    refine R_aload_n rfl rfl ?_
    refine R_iload rfl rfl ?_
    refine R_iconst rfl ?_
    refine R_iload rfl rfl ?_
    refine R_isub rfl ?_
    refine R_iastore rfl (by omega) m0 ⟨by omega, by omega, by omega⟩ ?_
    refine R_aload_n rfl rfl ?_
    refine R_iload rfl rfl ?_
    refine R_iload rfl rfl ?_
    refine R_aload_n rfl rfl ?_
    refine R_iload rfl rfl ?_
    refine R_iaload rfl (Or.inl (by omega)) (va_up_self _ _ _) ⟨by omega, by omega, by omega⟩ ?_
    rw [va_up_self]
    refine R_iconst rfl ?_
    refine R_icmpne rfl ⟨by omega, by omega⟩ ⟨by decide, by decide⟩ (fun c444 => ?_) (fun c444 => ?_)
    · refine R_iconst rfl ?_
      refine R_vcall rfl rfl ⟨(by omega), _, ((va_up_ne _ _ (by first | exact kne rfl | exact kz | exact kz.symm | omega)).trans hS.1.1)⟩ ⟨Nat.le_of_ble_eq_true rfl, Nat.le_of_ble_eq_true rfl, (show _ ≤ 600130 by omega), (show _ ≤ 7301079 by omega)⟩ (setBar_C (isFace_up hS.1 (fun j hj => va_up_ne _ _ hj)) (by omega) (c := (c : Int)) (b := b) (v := false) ⟨by omega, by omega⟩ (fun h1 hF1 ho1 => ?_))
      rw [opBar_y hc hp] at hF1 ⊢
      have h1w : h1 122 = eI 64 (va_up w (ofB b + c) (bI false)) := by
        rw [ho1 122 (by decide)]
        show va_up h 122 (eI 64 (va_up w za.toNat (1 - 1))) 122 = _
        rw [va_up_self, hix]
        rfl
      have hS1 : lS L xs h1 (yh (setBr G c b false) [Ga, G] n9 tx) (setBr G c b false) N := lS_gen hS hF1 rfl (rwL_bar hG ⟨hw0, hw1, wL, wE, wS⟩ hc) h1w (fun j hj => (ho1 j (by omega)).trans (va_up_ne _ _ (by omega))) (by cases b <;> rfl) (by cases b <;> rfl) (by cases b <;> rfl) (by cases b <;> rfl) (by cases b <;> rfl) (by cases b <;> rfl) (by cases b <;> rfl)
      refine aRes_g (v := vI ((nE (setBr G c b false) : Nat) : Int)) (Or.inl rfl) ?_
      refine R_aload_n rfl rfl ?_
      refine R_iconst rfl ?_
      refine R_vcall rfl rfl ⟨(by omega), _, hS1.1.1⟩ ⟨Nat.le_of_ble_eq_true rfl, Nat.le_of_ble_eq_true rfl, (show _ ≤ 600130 by omega), (show _ ≤ 7301079 by omega)⟩ (about_9 hS1.1 (by omega) (n := 2) (by decide) rfl (fun z457 hz457 => aRes_g (Or.inl rfl) ?_))
      have hq457 : z457 = ((nE (setBr G c b false) : Nat) : Int) := hz457
      have hn36 := nE36 hS1.2.2.2.2.2.1.1
      have hq02 : qW (setBr G c b false) = qW G0 := by
        rw [← hq0]
        cases b <;> rfl
      refine R_icmpne rfl ⟨by omega, by omega⟩ ⟨by omega, by omega⟩ (fun c460 => ?_) (fun c460 => ?_)
      · exact absurd hq457.symm c460
      · refine R_aload_n rfl rfl ?_
        refine R_aload_n rfl rfl ?_
        refine R_scall rfl rfl ⟨Nat.le_of_ble_eq_true rfl, Nat.le_of_ble_eq_true rfl, (show _ ≤ 600130 by omega), (show _ ≤ 7301079 by omega)⟩ (cells_L hS1.1 hS1.2.1 hS1.2.2.1 hS1.2.2.2.2.2.1 (by omega) (fun z465 hz465 => aRes_g (Or.inl rfl) ?_))
        
        refine R_ifeq rfl ⟨by omega, by omega⟩ (fun c468 => ?_) (fun c468 => ?_)
        · exact absurd c468 (by omega)
        · refine R_aload_n rfl rfl ?_
          refine R_iload rfl rfl ?_
          refine R_aload_n rfl rfl ?_
          refine R_aload_n rfl rfl ?_
          refine R_scall rfl rfl ⟨Nat.le_of_ble_eq_true rfl, Nat.le_of_ble_eq_true rfl, (show _ ≤ 600130 by omega), (show _ ≤ 7301079 by omega)⟩ (entries_L hS1.1 hS1.2.1 hS1.2.2.1 hS1.2.2.2.1 hS1.2.2.2.2.2.1 (by omega) (by rw [hq02]) (fun z476 h2 hz476 hF2 ho2 => aRes_g (Or.inl rfl) ?_))
          have hS2 := lS_call hS1 hF2 ho2
          refine R_ifeq rfl ⟨by omega, by omega⟩ (fun c479 => ?_) (fun c479 => ?_)
          · exact absurd c479 (by omega)
          · refine R_aload_n rfl rfl ?_
            refine R_vcall rfl rfl ⟨(by omega), _, hS2.1.1⟩ ⟨Nat.le_of_ble_eq_true rfl, Nat.le_of_ble_eq_true rfl, (show _ ≤ 600130 by omega), (show _ ≤ 7301079 by omega)⟩ (fillings_C hS2.1 (by omega) (fun h3 hF483 ho483 => ?_))
            have hS3 : lS L xs h3 (yh (setBr G c b false) [Ga, G] n9 tx) (setBr G c b false) N := lS_call hS2 hF483 ho483
            have hfq483 : flG (yh (setBr G c b false) [Ga, G] n9 tx).1 = flG (setBr G c b false) := by rw [hS2.2.1]
            refine aRes_g (v := vI ((flG (yh (setBr G c b false) [Ga, G] n9 tx).1 : Nat) : Int)) (Or.inl rfl) ?_
            rw [hfq483]
            have hf256 := fl_256 (G := (setBr G c b false)) hS2.2.2.2.1.1
            refine R_iload rfl rfl ?_
            refine R_aload_n rfl rfl ?_
            refine R_aload_n rfl rfl ?_
            refine R_scall rfl rfl ⟨Nat.le_of_ble_eq_true rfl, Nat.le_of_ble_eq_true rfl, (show _ ≤ 600130 by omega), (show _ ≤ 7301079 by omega)⟩ (fillings_L (G := (setBr G c b false)) hS3.2.2.1 hS3.2.2.2.1 hS3.2.2.2.2.2.1 ⟨by omega, by omega⟩ hS3.2.2.2.2.2.2.2.1 (by omega) (fun z490 h4 N490 hz490 hNN490 hg490 => aRes_g (Or.inr ⟨(wfL_s (Or.inr (Nat.le_refl _)) (wfL_s (Or.inl (by omega)) (wfL_s (Or.inl (by omega)) (wfL_s (Or.inl (by omega)) (wfL_s (Or.inl (by omega)) (wfL_s (Or.inl (by omega)) (wfL_s trivial (wfL_s trivial (wfL_s trivial (wfL_s trivial (wfL_s trivial (wfL_s trivial (wfL_s trivial (wfL_s trivial wfL_0)))))))))))))), (wfT_s trivial wfT_0)⟩) ?_))
            
            refine R_icmpeq rfl ⟨by omega, by omega⟩ ⟨by omega, by omega⟩ (fun c493 => ?_) (fun c493 => ?_)
            · exact K h4 N490 _ _ (lS_grw hS3 hg490 (by omega)) (by omega) (by omega) (by omega)
            · exact absurd hz490.symm c493
    · exact absurd c444 (by decide)
set_option maxRecDepth 20000 in
theorem law_ba_false {d L N k n c : Nat} {xs : Nat → Int} {h : AH} {Ga G G0 : Gr} {n9 : Nat} {tx : Nat → Int} {b : Bool} {z7 z9 za : Int} (hS : lS L xs h (yh G [Ga] n9 tx) G N) (hc : c < qM G) (hp : qPb G c b = true) (hq0 : qW G = qW G0) (hza : za = ((ofB b + c : Nat) : Int)) (hN5 : N ≤ 560) (hk : k ≤ 10000) (hn : n ≤ 100000) (hqb : qB G b c = false) (K : ∀ (h1 : AH) (N1 k1 n1 : Nat), lS L xs h1 (yh (setBr G c b true) [Ga, G] n9 tx) (setBr G c b true) N1 → N1 ≤ N + 4 → k1 ≤ k + 740 → n1 ≤ n + 4500 → Run mi_L_law (T (d + 40)) qLaw 498 [some (vR aRO), some (vR 0), some (vR 122), some (vR 123), some (vR 124), some (vR 125), some (vI ((qW G0 : Nat) : Int)), some (vI z7), some (vI (c : Int)), some (vI z9), some (vI (bI b)), some (vI (bI (!qPb G c b))), some (vI za), some (vI 0)] [] h1 N1 k1 n1) : Run mi_L_law (T (d + 40)) qLaw 415 [some (vR aRO), some (vR 0), some (vR 122), some (vR 123), some (vR 124), some (vR 125), some (vI ((qW G0 : Nat) : Int)), some (vI z7), some (vI (c : Int)), some (vI z9), some (vI (bI b)), some (vI (bI (!qPb G c b))), some (vI za), none] [] h N k n := by
  have hRO : aRO = 1000 := rfl
  have hNb := hS.2.2.2.2.2.2.2.2.2.2
  obtain ⟨w, m0, hw0, hw1, wL, wE, wS⟩ := id hS.2.2.1
  have r0 : w (0 : Int).toNat = (qR G : Int) := hw0
  have r1 : w (1 : Int).toNat = (qC G : Int) := hw1
  obtain ⟨g0, mg⟩ := hS.2.2.2.2.2.2.1
  have hG := hS.2.2.2.2.2.1
  obtain ⟨hn3, l, ml, hl0, hll⟩ := id hS.2.2.2.2.1
  have q0 : l (0 : Int).toNat = (qN G : Int) := hl0
  have hm16 := sm4_m hG
  have hO := hG.1
  obtain ⟨⟨hr2, hr6⟩, ⟨hc2, hc6⟩, -⟩ := id hO
  have hx49 : ofB b + c ≤ 49 ∧ 18 ≤ ofB b + c := by
    cases b
    · show 18 + c ≤ 49 ∧ 18 ≤ 18 + c
      omega
    · show 34 + c ≤ 49 ∧ 18 ≤ 34 + c
      omega
  have hix : za.toNat = ofB b + c := by omega
  have hr9 : bI (!qPb G c b) = 0 := by
    rw [hp]
    rfl
  have hat : w za.toNat = 0 := by
    rw [hix, rwL_at ⟨hw0, hw1, wL, wE, wS⟩ hc, hqb]
    rfl
  refine R_iload rfl rfl ?_
  refine R_ifne rfl ⟨by omega, by omega⟩ (fun c417 => ?_) (fun c417 => ?_)
  · exact absurd hr9 c417
  · refine R_aload_n rfl rfl ?_
    refine R_iload rfl rfl ?_
    refine R_iaload rfl (Or.inl (by omega)) m0 ⟨by omega, by omega, by omega⟩ ?_
    rw [hat]
    refine R_istore (lv' := [_, _, _, _, _, _, _, _, _, _, _, _, _, _]) rfl rfl ?_
    refine R_aload_n rfl rfl ?_
    refine R_iload rfl rfl ?_
    refine R_iconst rfl ?_
    refine R_iload rfl rfl ?_
    refine R_isub rfl ?_
    refine R_iastore rfl (by omega) m0 ⟨by omega, by omega, by omega⟩ ?_
    refine R_aload_n rfl rfl ?_
    refine R_iload rfl rfl ?_
    refine R_iload rfl rfl ?_
    refine R_aload_n rfl rfl ?_
    refine R_iload rfl rfl ?_
    refine R_iaload rfl (Or.inl (by omega)) (va_up_self _ _ _) ⟨by omega, by omega, by omega⟩ ?_
    rw [va_up_self]
    refine R_iconst rfl ?_
    refine R_icmpne rfl ⟨by omega, by omega⟩ ⟨by decide, by decide⟩ (fun c444 => ?_) (fun c444 => ?_)
    · exact absurd (show (1 : Int) - 0 = 1 by decide) c444
    · refine R_iconst rfl ?_
      refine R_goto rfl ?_
      refine R_vcall rfl rfl ⟨(by omega), _, ((va_up_ne _ _ (by first | exact kne rfl | exact kz | exact kz.symm | omega)).trans hS.1.1)⟩ ⟨Nat.le_of_ble_eq_true rfl, Nat.le_of_ble_eq_true rfl, (show _ ≤ 600130 by omega), (show _ ≤ 7301079 by omega)⟩ (setBar_C (isFace_up hS.1 (fun j hj => va_up_ne _ _ hj)) (by omega) (c := (c : Int)) (b := b) (v := true) ⟨by omega, by omega⟩ (fun h1 hF1 ho1 => ?_))
      rw [opBar_y hc hp] at hF1 ⊢
      have h1w : h1 122 = eI 64 (va_up w (ofB b + c) (bI true)) := by
        rw [ho1 122 (by decide)]
        show va_up h 122 (eI 64 (va_up w za.toNat (1 - 0))) 122 = _
        rw [va_up_self, hix]
        rfl
      have hS1 : lS L xs h1 (yh (setBr G c b true) [Ga, G] n9 tx) (setBr G c b true) N := lS_gen hS hF1 rfl (rwL_bar hG ⟨hw0, hw1, wL, wE, wS⟩ hc) h1w (fun j hj => (ho1 j (by omega)).trans (va_up_ne _ _ (by omega))) (by cases b <;> rfl) (by cases b <;> rfl) (by cases b <;> rfl) (by cases b <;> rfl) (by cases b <;> rfl) (by cases b <;> rfl) (by cases b <;> rfl)
      refine aRes_g (v := vI ((nE (setBr G c b true) : Nat) : Int)) (Or.inl rfl) ?_
      refine R_aload_n rfl rfl ?_
      refine R_iconst rfl ?_
      refine R_vcall rfl rfl ⟨(by omega), _, hS1.1.1⟩ ⟨Nat.le_of_ble_eq_true rfl, Nat.le_of_ble_eq_true rfl, (show _ ≤ 600130 by omega), (show _ ≤ 7301079 by omega)⟩ (about_9 hS1.1 (by omega) (n := 2) (by decide) rfl (fun z457 hz457 => aRes_g (Or.inl rfl) ?_))
      have hq457 : z457 = ((nE (setBr G c b true) : Nat) : Int) := hz457
      have hn36 := nE36 hS1.2.2.2.2.2.1.1
      have hq02 : qW (setBr G c b true) = qW G0 := by
        rw [← hq0]
        cases b <;> rfl
      refine R_icmpne rfl ⟨by omega, by omega⟩ ⟨by omega, by omega⟩ (fun c460 => ?_) (fun c460 => ?_)
      · exact absurd hq457.symm c460
      · refine R_aload_n rfl rfl ?_
        refine R_aload_n rfl rfl ?_
        refine R_scall rfl rfl ⟨Nat.le_of_ble_eq_true rfl, Nat.le_of_ble_eq_true rfl, (show _ ≤ 600130 by omega), (show _ ≤ 7301079 by omega)⟩ (cells_L hS1.1 hS1.2.1 hS1.2.2.1 hS1.2.2.2.2.2.1 (by omega) (fun z465 hz465 => aRes_g (Or.inl rfl) ?_))
        
        refine R_ifeq rfl ⟨by omega, by omega⟩ (fun c468 => ?_) (fun c468 => ?_)
        · exact absurd c468 (by omega)
        · refine R_aload_n rfl rfl ?_
          refine R_iload rfl rfl ?_
          refine R_aload_n rfl rfl ?_
          refine R_aload_n rfl rfl ?_
          refine R_scall rfl rfl ⟨Nat.le_of_ble_eq_true rfl, Nat.le_of_ble_eq_true rfl, (show _ ≤ 600130 by omega), (show _ ≤ 7301079 by omega)⟩ (entries_L hS1.1 hS1.2.1 hS1.2.2.1 hS1.2.2.2.1 hS1.2.2.2.2.2.1 (by omega) (by rw [hq02]) (fun z476 h2 hz476 hF2 ho2 => aRes_g (Or.inl rfl) ?_))
          have hS2 := lS_call hS1 hF2 ho2
          refine R_ifeq rfl ⟨by omega, by omega⟩ (fun c479 => ?_) (fun c479 => ?_)
          · exact absurd c479 (by omega)
          · refine R_aload_n rfl rfl ?_
            refine R_vcall rfl rfl ⟨(by omega), _, hS2.1.1⟩ ⟨Nat.le_of_ble_eq_true rfl, Nat.le_of_ble_eq_true rfl, (show _ ≤ 600130 by omega), (show _ ≤ 7301079 by omega)⟩ (fillings_C hS2.1 (by omega) (fun h3 hF483 ho483 => ?_))
            have hS3 : lS L xs h3 (yh (setBr G c b true) [Ga, G] n9 tx) (setBr G c b true) N := lS_call hS2 hF483 ho483
            have hfq483 : flG (yh (setBr G c b true) [Ga, G] n9 tx).1 = flG (setBr G c b true) := by rw [hS2.2.1]
            refine aRes_g (v := vI ((flG (yh (setBr G c b true) [Ga, G] n9 tx).1 : Nat) : Int)) (Or.inl rfl) ?_
            rw [hfq483]
            have hf256 := fl_256 (G := (setBr G c b true)) hS2.2.2.2.1.1
            refine R_iload rfl rfl ?_
            refine R_aload_n rfl rfl ?_
            refine R_aload_n rfl rfl ?_
            refine R_scall rfl rfl ⟨Nat.le_of_ble_eq_true rfl, Nat.le_of_ble_eq_true rfl, (show _ ≤ 600130 by omega), (show _ ≤ 7301079 by omega)⟩ (fillings_L (G := (setBr G c b true)) hS3.2.2.1 hS3.2.2.2.1 hS3.2.2.2.2.2.1 ⟨by omega, by omega⟩ hS3.2.2.2.2.2.2.2.1 (by omega) (fun z490 h4 N490 hz490 hNN490 hg490 => aRes_g (Or.inr ⟨(wfL_s (Or.inr (Nat.le_refl _)) (wfL_s (Or.inl (by omega)) (wfL_s (Or.inl (by omega)) (wfL_s (Or.inl (by omega)) (wfL_s (Or.inl (by omega)) (wfL_s (Or.inl (by omega)) (wfL_s trivial (wfL_s trivial (wfL_s trivial (wfL_s trivial (wfL_s trivial (wfL_s trivial (wfL_s trivial (wfL_s trivial wfL_0)))))))))))))), (wfT_s trivial wfT_0)⟩) ?_))
            
            refine R_icmpeq rfl ⟨by omega, by omega⟩ ⟨by omega, by omega⟩ (fun c493 => ?_) (fun c493 => ?_)
            · exact K h4 N490 _ _ (lS_grw hS3 hg490 (by omega)) (by omega) (by omega) (by omega)
            · exact absurd hz490.symm c493
