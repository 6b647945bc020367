/-! ===== the law's look at all cells ===== -/
theorem clu_le {G : Gr} : ∀ c, clu G c ≤ c
  | 0 => Nat.le_refl _
  | c + 1 => by
    have := clu_le (G := G) c
    simp only [clu]
    cases (st G false c || st G true c) <;> simp only [tn] <;> omega
theorem cntA_le {G : Gr} : ∀ c, cntA G c ≤ c
  | 0 => Nat.le_refl _
  | c + 1 => by
    have := cntA_le (G := G) c
    simp only [cntA]
    cases st G false c <;> simp only [tn] <;> omega
theorem clue_r {G : Gr} (hG : okG G) {c : Nat} (hc : c < qM G) : -9 ≤ clue G c ∧ clue G c ≤ 36 := by
  have h1 := clu_le (G := G) (c + 1)
  have h2 := hG.m
  unfold clue
  split <;> omega
theorem acr_r {G : Gr} (hG : okG G) {b : Bool} {c : Nat} (hc : c < qM G) : -9 ≤ acr G b c ∧ acr G b c ≤ 36 := by
  have hn := nE36 hG
  rcases acr_cases hG (b := b) hc with ⟨q, -⟩ | ⟨n, q, q2, -⟩ <;> omega
theorem celG_r {G : Gr} (hG : okG G) {c n : Nat} (hc : c < qM G) : -9 ≤ celG G c n ∧ celG G c n ≤ 122 := by
  have a1 := acr_r hG (b := false) hc
  have a2 := acr_r hG (b := true) hc
  have a3 := clue_r hG hc
  have a4 := enC_2 (G := G) (x := c)
  have a5 := bI01 (qE G c)
  have a6 := bI01 (qS G c)
  have a7 := hG.2.2.1 c hc
  unfold celG
  split
  · rcases a7 with q | ⟨q1, q2⟩ <;> omega
  · omega
  · omega
  · omega
  · omega
  · omega
  · omega
theorem cell_9 {d N : Nat} {h : AH} {y : Sy} {Q : AQ} (hF : isFace h y) (hN : 122 ≤ N) {i n : Nat} {zc zk : Int} (hi : i < qM y.1) (hn : n ≤ 6) (hzc : zc = i) (hzk : zk = n) (hQ : ∀ z : Int, z = celG y.1 i n → Q (.inl (some (vI z))) h N) : T (d + 4) 96 [vR 0, vI zc, vI zk] h N Q := by
  have hm := hF.2.2.2.2.1.m
  refine cell_T hF hN ⟨by omega, by omega⟩ ⟨by omega, by omega⟩ (fun q => absurd ⟨by omega, by omega⟩ q) (fun _ q => absurd ⟨by omega, by omega⟩ q) (fun x m h1 h2 h3 h4 => hQ _ ?_)
  rw [show x = i by omega, show m = n by omega]
theorem about_9 {d N : Nat} {h : AH} {y : Sy} {Q : AQ} (hF : isFace h y) (hN : 122 ≤ N) {n : Nat} {zk : Int} (hn : n ≤ 10) (hzk : zk = n) (hQ : ∀ z : Int, z = abG y.1 n → Q (.inl (some (vI z))) h N) : T (d + 5) 95 [vR 0, vI zk] h N Q := by
  refine about_T hF hN ⟨by omega, by omega⟩ (fun q => absurd ⟨by omega, by omega⟩ q) (fun m h1 h2 => hQ _ ?_)
  rw [show m = n by omega]
set_option maxRecDepth 20000 in
theorem ce1 {d N k n : Nat} {h : AH} {y : Sy} {G : Gr} {Q : AQ} (hF : isFace h y) (hGy : y.1 = G) (hZ : isW h G) (hG : sm4 G) (hN : 126 ≤ N) {c : Nat} {zn z3 z4 z5 z6 z7 z8 z9 : Int} (hc : c < qM G) (hk : k + 14 ≤ 240) (hn : n + 84 ≤ 1440) (k0 : Run mi_L_cells (T (d + 5)) Q 158 [some (vR 0), some (vR 122), some (vI zn), some (vI z3), some (vI z4), some (vI z5), some (vI z6), some (vI z7), some (vI z8), some (vI z9), some (vI (c : Int))] [] h N (k + 14) (n + 84)) : Run mi_L_cells (T (d + 5)) Q 37 [some (vR 0), some (vR 122), some (vI zn), some (vI z3), some (vI z4), some (vI z5), some (vI z6), some (vI z7), some (vI z8), some (vI z9), some (vI (c : Int))] [] h N k n := by
  obtain ⟨w, m0, hw0, hw1, wL, wE, wS⟩ := id hZ
  have r0 : w (0 : Int).toNat = (qR G : Int) := hw0
  have r1 : w (1 : Int).toNat = (qC G : Int) := hw1
  have hm16 := sm4_m hG
  obtain ⟨hO, hR4, hC4⟩ := id hG
  obtain ⟨hm4, hm36⟩ := hO.m
  obtain ⟨⟨hr2, hr6⟩, ⟨hc2, hc6⟩, gL, gB, gW, gWn, gWl, gN, gNl⟩ := id hO
  have hwL : w ((2 : Int) + (c : Int)).toNat = qL G c := by
    rw [show ((2 : Int) + (c : Int)).toNat = 2 + c by omega]
    exact wL c hc
  have hwE : w ((18 : Int) + (c : Int)).toNat = bI (qE G c) := by
    rw [show ((18 : Int) + (c : Int)).toNat = 18 + c by omega]
    exact wE c hc
  have hwS : w ((34 : Int) + (c : Int)).toNat = bI (qS G c) := by
    rw [show ((34 : Int) + (c : Int)).toNat = 34 + c by omega]
    exact wS c hc
  have hbE := bI01 (qE G c)
  have hbS := bI01 (qS G c)
  have hLr : 0 ≤ qL G c ∧ qL G c ≤ 122 := by
    rcases gL c hc with q | ⟨q1, q2⟩ <;> omega
  refine R_aload_n rfl rfl ?_
  refine R_iload rfl rfl ?_
  refine R_iconst rfl ?_
  refine R_vcall rfl rfl ⟨(by omega), _, hF.1⟩ ⟨Nat.le_of_ble_eq_true rfl, Nat.le_of_ble_eq_true rfl, (show _ ≤ 240 by omega), (show _ ≤ 1440 by omega)⟩ (cell_9 hF (by omega) (i := c) (n := 0) (by rw [hGy]; exact hc) (by decide) rfl rfl (fun z41 hz41 => aRes_g (Or.inl rfl) ?_))
  rw [hGy] at hz41
  have hr41 := celG_r hO (n := 0) hc
  rw [← hz41] at hr41
  refine R_aload_n rfl rfl ?_
  refine R_iconst rfl ?_
  refine R_iload rfl rfl ?_
  refine R_iadd rfl ?_
  refine R_iaload rfl (Or.inl (by omega)) m0 ⟨by omega, by omega, by omega⟩ ?_
  rw [hwL]
  refine R_icmpne rfl ⟨by omega, by omega⟩ ⟨by omega, by omega⟩ (fun c50 => ?_) (fun c50 => ?_)
  · exact absurd (show z41 = qL G c from hz41) c50
  · refine R_aload_n rfl rfl ?_
    refine R_iload rfl rfl ?_
    refine R_iconst rfl ?_
    refine R_vcall rfl rfl ⟨(by omega), _, hF.1⟩ ⟨Nat.le_of_ble_eq_true rfl, Nat.le_of_ble_eq_true rfl, (show _ ≤ 240 by omega), (show _ ≤ 1440 by omega)⟩ (cell_9 hF (by omega) (i := c) (n := 1) (by rw [hGy]; exact hc) (by decide) rfl rfl (fun z57 hz57 => aRes_g (Or.inl rfl) ?_))
    rw [hGy] at hz57
    have hr57 := celG_r hO (n := 1) hc
    rw [← hz57] at hr57
    refine R_aload_n rfl rfl ?_
    refine R_bipush rfl ?_
    refine R_iload rfl rfl ?_
    refine R_iadd rfl ?_
    refine R_iaload rfl (Or.inl (by omega)) m0 ⟨by omega, by omega, by omega⟩ ?_
    rw [hwE]
    refine R_icmpne rfl ⟨by omega, by omega⟩ ⟨by omega, by omega⟩ (fun c67 => ?_) (fun c67 => ?_)
    · exact absurd (show z57 = bI (qE G c) from hz57) c67
    · refine R_aload_n rfl rfl ?_
      refine R_iload rfl rfl ?_
      refine R_iconst rfl ?_
      refine R_vcall rfl rfl ⟨(by omega), _, hF.1⟩ ⟨Nat.le_of_ble_eq_true rfl, Nat.le_of_ble_eq_true rfl, (show _ ≤ 240 by omega), (show _ ≤ 1440 by omega)⟩ (cell_9 hF (by omega) (i := c) (n := 2) (by rw [hGy]; exact hc) (by decide) rfl rfl (fun z74 hz74 => aRes_g (Or.inl rfl) ?_))
      rw [hGy] at hz74
      have hr74 := celG_r hO (n := 2) hc
      rw [← hz74] at hr74
      refine R_aload_n rfl rfl ?_
      refine R_bipush rfl ?_
      refine R_iload rfl rfl ?_
      refine R_iadd rfl ?_
      refine R_iaload rfl (Or.inl (by omega)) m0 ⟨by omega, by omega, by omega⟩ ?_
      rw [hwS]
      refine R_icmpne rfl ⟨by omega, by omega⟩ ⟨by omega, by omega⟩ (fun c84 => ?_) (fun c84 => ?_)
      · exact absurd (show z74 = bI (qS G c) from hz74) c84
      · refine R_aload_n rfl rfl ?_
        refine R_iload rfl rfl ?_
        refine R_iconst rfl ?_
        refine R_vcall rfl rfl ⟨(by omega), _, hF.1⟩ ⟨Nat.le_of_ble_eq_true rfl, Nat.le_of_ble_eq_true rfl, (show _ ≤ 240 by omega), (show _ ≤ 1440 by omega)⟩ (cell_9 hF (by omega) (i := c) (n := 3) (by rw [hGy]; exact hc) (by decide) rfl rfl (fun z91 hz91 => aRes_g (Or.inl rfl) ?_))
        rw [hGy] at hz91
        have hr91 := celG_r hO (n := 3) hc
        rw [← hz91] at hr91
        refine R_iconst rfl ?_
        refine R_iload rfl rfl ?_
        refine R_aload_n rfl rfl ?_
        refine R_scall rfl rfl ⟨Nat.le_of_ble_eq_true rfl, Nat.le_of_ble_eq_true rfl, (show _ ≤ 240 by omega), (show _ ≤ 1440 by omega)⟩ (entry_L (b := false) (c := c) hZ hG hN rfl rfl hc (fun z98 hz98 => aRes_g (Or.inl rfl) ?_))
        have hr98 := acr_r hO (b := false) hc
        rw [← hz98] at hr98
        refine R_icmpne rfl ⟨by omega, by omega⟩ ⟨by omega, by omega⟩ (fun c101 => ?_) (fun c101 => ?_)
        · exact absurd ((show z91 = acr G false c from hz91).trans hz98.symm) c101
        · refine R_aload_n rfl rfl ?_
          refine R_iload rfl rfl ?_
          refine R_iconst rfl ?_
          refine R_vcall rfl rfl ⟨(by omega), _, hF.1⟩ ⟨Nat.le_of_ble_eq_true rfl, Nat.le_of_ble_eq_true rfl, (show _ ≤ 240 by omega), (show _ ≤ 1440 by omega)⟩ (cell_9 hF (by omega) (i := c) (n := 4) (by rw [hGy]; exact hc) (by decide) rfl rfl (fun z108 hz108 => aRes_g (Or.inl rfl) ?_))
          rw [hGy] at hz108
          have hr108 := celG_r hO (n := 4) hc
          rw [← hz108] at hr108
          refine R_iconst rfl ?_
          refine R_iload rfl rfl ?_
          refine R_aload_n rfl rfl ?_
          refine R_scall rfl rfl ⟨Nat.le_of_ble_eq_true rfl, Nat.le_of_ble_eq_true rfl, (show _ ≤ 240 by omega), (show _ ≤ 1440 by omega)⟩ (entry_L (b := true) (c := c) hZ hG hN rfl rfl hc (fun z115 hz115 => aRes_g (Or.inl rfl) ?_))
          have hr115 := acr_r hO (b := true) hc
          rw [← hz115] at hr115
          refine R_icmpeq rfl ⟨by omega, by omega⟩ ⟨by omega, by omega⟩ (fun c118 => ?_) (fun c118 => ?_)
          · refine R_aload_n rfl rfl ?_
            refine R_iload rfl rfl ?_
            refine R_iconst rfl ?_
            refine R_vcall rfl rfl ⟨(by omega), _, hF.1⟩ ⟨Nat.le_of_ble_eq_true rfl, Nat.le_of_ble_eq_true rfl, (show _ ≤ 240 by omega), (show _ ≤ 1440 by omega)⟩ (cell_9 hF (by omega) (i := c) (n := 5) (by rw [hGy]; exact hc) (by decide) rfl rfl (fun z127 hz127 => aRes_g (Or.inl rfl) ?_))
            rw [hGy] at hz127
            have hr127 := celG_r hO (n := 5) hc
            rw [← hz127] at hr127
            refine R_iload rfl rfl ?_
            refine R_aload_n rfl rfl ?_
            refine R_scall rfl rfl ⟨Nat.le_of_ble_eq_true rfl, Nat.le_of_ble_eq_true rfl, (show _ ≤ 240 by omega), (show _ ≤ 1440 by omega)⟩ (in_T (c := c) hZ hG hN rfl hc (fun z133 hz133 => aRes_g (Or.inl rfl) ?_))
            have hr133 := enC_2 (G := G) (x := c)
            refine R_icmpne rfl ⟨by omega, by omega⟩ ⟨by omega, by omega⟩ (fun c136 => ?_) (fun c136 => ?_)
            · exact absurd ((show z127 = ((enC G c : Nat) : Int) from hz127).trans hz133.symm) c136
            · refine R_aload_n rfl rfl ?_
              refine R_iload rfl rfl ?_
              refine R_bipush rfl ?_
              refine R_vcall rfl rfl ⟨(by omega), _, hF.1⟩ ⟨Nat.le_of_ble_eq_true rfl, Nat.le_of_ble_eq_true rfl, (show _ ≤ 240 by omega), (show _ ≤ 1440 by omega)⟩ (cell_9 hF (by omega) (i := c) (n := 6) (by rw [hGy]; exact hc) (by decide) rfl rfl (fun z144 hz144 => aRes_g (Or.inl rfl) ?_))
              rw [hGy] at hz144
              have hr144 := celG_r hO (n := 6) hc
              rw [← hz144] at hr144
              refine R_iload rfl rfl ?_
              refine R_aload_n rfl rfl ?_
              refine R_scall rfl rfl ⟨Nat.le_of_ble_eq_true rfl, Nat.le_of_ble_eq_true rfl, (show _ ≤ 240 by omega), (show _ ≤ 1440 by omega)⟩ (clue_L (c := c) hZ hG hN rfl hc (fun z150 hz150 => aRes_g (Or.inl rfl) ?_))
              have hr150 := clue_r hO hc
              rw [← hz150] at hr150
              refine R_icmpeq rfl ⟨by omega, by omega⟩ ⟨by omega, by omega⟩ (fun c153 => ?_) (fun c153 => ?_)
              · exact k0
              · exact absurd ((show z144 = clue G c from hz144).trans hz150.symm) c153
          · exact absurd ((show z108 = acr G true c from hz108).trans hz115.symm) c118
set_option maxRecDepth 20000 in
theorem ce2 {d N k n : Nat} {h : AH} {y : Sy} {G : Gr} {Q : AQ} (hF : isFace h y) (hGy : y.1 = G) (hZ : isW h G) (hG : sm4 G) (hN : 126 ≤ N) {c : Nat} {zn z3 z4 z5 z6 z7 z8 z9 : Int} (hc : c < qM G) (hk : k ≤ 240) (hn : n ≤ 1440) (k0 : ∀ zx : Int, zx = z3 + (tn ((fun x => decide (enC G x = 2)) c) : Nat) → Run mi_L_cells (T (d + 5)) Q 176 [some (vR 0), some (vR 122), some (vI zn), some (vI zx), some (vI z4), some (vI z5), some (vI z6), some (vI z7), some (vI z8), some (vI z9), some (vI (c : Int))] [] h N k n) : Run mi_L_cells (T (d + 5)) Q 158 [some (vR 0), some (vR 122), some (vI zn), some (vI z3), some (vI z4), some (vI z5), some (vI z6), some (vI z7), some (vI z8), some (vI z9), some (vI (c : Int))] [] h N k n := by
  obtain ⟨w, m0, hw0, hw1, wL, wE, wS⟩ := id hZ
  have r0 : w (0 : Int).toNat = (qR G : Int) := hw0
  have r1 : w (1 : Int).toNat = (qC G : Int) := hw1
  have hm16 := sm4_m hG
  obtain ⟨hO, hR4, hC4⟩ := id hG
  obtain ⟨hm4, hm36⟩ := hO.m
  obtain ⟨⟨hr2, hr6⟩, ⟨hc2, hc6⟩, gL, gB, gW, gWn, gWl, gN, gNl⟩ := id hO
  have hwL : w ((2 : Int) + (c : Int)).toNat = qL G c := by
    rw [show ((2 : Int) + (c : Int)).toNat = 2 + c by omega]
    exact wL c hc
  have hwE : w ((18 : Int) + (c : Int)).toNat = bI (qE G c) := by
    rw [show ((18 : Int) + (c : Int)).toNat = 18 + c by omega]
    exact wE c hc
  have hwS : w ((34 : Int) + (c : Int)).toNat = bI (qS G c) := by
    rw [show ((34 : Int) + (c : Int)).toNat = 34 + c by omega]
    exact wS c hc
  have hbE := bI01 (qE G c)
  have hbS := bI01 (qS G c)
  have hLr : 0 ≤ qL G c ∧ qL G c ≤ 122 := by
    rcases gL c hc with q | ⟨q1, q2⟩ <;> omega
  refine R_iload_n rfl rfl ?_
  refine R_iload rfl rfl ?_
  refine R_aload_n rfl rfl ?_
  refine R_scall rfl rfl ⟨Nat.le_of_ble_eq_true rfl, Nat.le_of_ble_eq_true rfl, (show _ ≤ 240 by omega), (show _ ≤ 1440 by omega)⟩ (in_T (c := c) hZ hG hN rfl hc (fun z162 hz162 => aRes_g (Or.inl rfl) ?_))
  have hr162 := enC_2 (G := G) (x := c)
  refine R_iconst rfl ?_
  refine R_icmpne rfl ⟨by omega, by omega⟩ ⟨by decide, by decide⟩ (fun c166 => ?_) (fun c166 => ?_)
  · have hp : (fun x => decide (enC G x = 2)) c = false := decide_eq_false (by omega)
    refine R_iconst rfl ?_
    refine R_iadd rfl ?_
    refine R_istore_n (lv' := [_, _, _, _, _, _, _, _, _, _, _]) rfl rfl ?_
    exact k0 _ (by first | rw [hp]; rfl | rw [hp]; simp [tn] | omega)
  · have hp : (fun x => decide (enC G x = 2)) c = true := decide_eq_true (by omega)
    refine R_iconst rfl ?_
    refine R_goto rfl ?_
    refine R_iadd rfl ?_
    refine R_istore_n (lv' := [_, _, _, _, _, _, _, _, _, _, _]) rfl rfl ?_
    exact k0 _ (by first | rw [hp]; rfl | rw [hp]; simp [tn] | omega)
set_option maxRecDepth 20000 in
theorem ce3 {d N k n : Nat} {h : AH} {y : Sy} {G : Gr} {Q : AQ} (hF : isFace h y) (hGy : y.1 = G) (hZ : isW h G) (hG : sm4 G) (hN : 126 ≤ N) {c : Nat} {zn z3 z4 z5 z6 z7 z8 z9 : Int} (hc : c < qM G) (hk : k ≤ 240) (hn : n ≤ 1440) (k0 : ∀ zx : Int, zx = z4 + (tn ((fun x => decide (enC G x = 1)) c) : Nat) → Run mi_L_cells (T (d + 5)) Q 196 [some (vR 0), some (vR 122), some (vI zn), some (vI z3), some (vI zx), some (vI z5), some (vI z6), some (vI z7), some (vI z8), some (vI z9), some (vI (c : Int))] [] h N k n) : Run mi_L_cells (T (d + 5)) Q 176 [some (vR 0), some (vR 122), some (vI zn), some (vI z3), some (vI z4), some (vI z5), some (vI z6), some (vI z7), some (vI z8), some (vI z9), some (vI (c : Int))] [] h N k n := by
  obtain ⟨w, m0, hw0, hw1, wL, wE, wS⟩ := id hZ
  have r0 : w (0 : Int).toNat = (qR G : Int) := hw0
  have r1 : w (1 : Int).toNat = (qC G : Int) := hw1
  have hm16 := sm4_m hG
  obtain ⟨hO, hR4, hC4⟩ := id hG
  obtain ⟨hm4, hm36⟩ := hO.m
  obtain ⟨⟨hr2, hr6⟩, ⟨hc2, hc6⟩, gL, gB, gW, gWn, gWl, gN, gNl⟩ := id hO
  have hwL : w ((2 : Int) + (c : Int)).toNat = qL G c := by
    rw [show ((2 : Int) + (c : Int)).toNat = 2 + c by omega]
    exact wL c hc
  have hwE : w ((18 : Int) + (c : Int)).toNat = bI (qE G c) := by
    rw [show ((18 : Int) + (c : Int)).toNat = 18 + c by omega]
    exact wE c hc
  have hwS : w ((34 : Int) + (c : Int)).toNat = bI (qS G c) := by
    rw [show ((34 : Int) + (c : Int)).toNat = 34 + c by omega]
    exact wS c hc
  have hbE := bI01 (qE G c)
  have hbS := bI01 (qS G c)
  have hLr : 0 ≤ qL G c ∧ qL G c ≤ 122 := by
    rcases gL c hc with q | ⟨q1, q2⟩ <;> omega
  refine R_iload rfl rfl ?_
  refine R_iload rfl rfl ?_
  refine R_aload_n rfl rfl ?_
  refine R_scall rfl rfl ⟨Nat.le_of_ble_eq_true rfl, Nat.le_of_ble_eq_true rfl, (show _ ≤ 240 by omega), (show _ ≤ 1440 by omega)⟩ (in_T (c := c) hZ hG hN rfl hc (fun z181 hz181 => aRes_g (Or.inl rfl) ?_))
  have hr181 := enC_2 (G := G) (x := c)
  refine R_iconst rfl ?_
  refine R_icmpne rfl ⟨by omega, by omega⟩ ⟨by decide, by decide⟩ (fun c185 => ?_) (fun c185 => ?_)
  · have hp : (fun x => decide (enC G x = 1)) c = false := decide_eq_false (by omega)
    refine R_iconst rfl ?_
    refine R_iadd rfl ?_
    refine R_istore (lv' := [_, _, _, _, _, _, _, _, _, _, _]) rfl rfl ?_
    exact k0 _ (by first | rw [hp]; rfl | rw [hp]; simp [tn] | omega)
  · have hp : (fun x => decide (enC G x = 1)) c = true := decide_eq_true (by omega)
    refine R_iconst rfl ?_
    refine R_goto rfl ?_
    refine R_iadd rfl ?_
    refine R_istore (lv' := [_, _, _, _, _, _, _, _, _, _, _]) rfl rfl ?_
    exact k0 _ (by first | rw [hp]; rfl | rw [hp]; simp [tn] | omega)
set_option maxRecDepth 20000 in
theorem ce4 {d N k n : Nat} {h : AH} {y : Sy} {G : Gr} {Q : AQ} (hF : isFace h y) (hGy : y.1 = G) (hZ : isW h G) (hG : sm4 G) (hN : 126 ≤ N) {c : Nat} {zn z3 z4 z5 z6 z7 z8 z9 : Int} (hc : c < qM G) (hk : k ≤ 240) (hn : n ≤ 1440) (k0 : ∀ zx : Int, zx = z5 + (tn ((fun x => decide (qL G x = 0)) c) : Nat) → Run mi_L_cells (T (d + 5)) Q 215 [some (vR 0), some (vR 122), some (vI zn), some (vI z3), some (vI z4), some (vI zx), some (vI z6), some (vI z7), some (vI z8), some (vI z9), some (vI (c : Int))] [] h N k n) : Run mi_L_cells (T (d + 5)) Q 196 [some (vR 0), some (vR 122), some (vI zn), some (vI z3), some (vI z4), some (vI z5), some (vI z6), some (vI z7), some (vI z8), some (vI z9), some (vI (c : Int))] [] h N k n := by
  obtain ⟨w, m0, hw0, hw1, wL, wE, wS⟩ := id hZ
  have r0 : w (0 : Int).toNat = (qR G : Int) := hw0
  have r1 : w (1 : Int).toNat = (qC G : Int) := hw1
  have hm16 := sm4_m hG
  obtain ⟨hO, hR4, hC4⟩ := id hG
  obtain ⟨hm4, hm36⟩ := hO.m
  obtain ⟨⟨hr2, hr6⟩, ⟨hc2, hc6⟩, gL, gB, gW, gWn, gWl, gN, gNl⟩ := id hO
  have hwL : w ((2 : Int) + (c : Int)).toNat = qL G c := by
    rw [show ((2 : Int) + (c : Int)).toNat = 2 + c by omega]
    exact wL c hc
  have hwE : w ((18 : Int) + (c : Int)).toNat = bI (qE G c) := by
    rw [show ((18 : Int) + (c : Int)).toNat = 18 + c by omega]
    exact wE c hc
  have hwS : w ((34 : Int) + (c : Int)).toNat = bI (qS G c) := by
    rw [show ((34 : Int) + (c : Int)).toNat = 34 + c by omega]
    exact wS c hc
  have hbE := bI01 (qE G c)
  have hbS := bI01 (qS G c)
  have hLr : 0 ≤ qL G c ∧ qL G c ≤ 122 := by
    rcases gL c hc with q | ⟨q1, q2⟩ <;> omega
  refine R_iload rfl rfl ?_
  refine R_aload_n rfl rfl ?_
  refine R_iconst rfl ?_
  refine R_iload rfl rfl ?_
  refine R_iadd rfl ?_
  refine R_iaload rfl (Or.inl (by omega)) m0 ⟨by omega, by omega, by omega⟩ ?_
  rw [hwL]
  refine R_ifne rfl ⟨by omega, by omega⟩ (fun c204 => ?_) (fun c204 => ?_)
  · have hp : (fun x => decide (qL G x = 0)) c = false := decide_eq_false (by omega)
    refine R_iconst rfl ?_
    refine R_iadd rfl ?_
    refine R_istore (lv' := [_, _, _, _, _, _, _, _, _, _, _]) rfl rfl ?_
    exact k0 _ (by first | rw [hp]; rfl | rw [hp]; simp [tn] | omega)
  · have hp : (fun x => decide (qL G x = 0)) c = true := decide_eq_true (by omega)
    refine R_iconst rfl ?_
    refine R_goto rfl ?_
    refine R_iadd rfl ?_
    refine R_istore (lv' := [_, _, _, _, _, _, _, _, _, _, _]) rfl rfl ?_
    exact k0 _ (by first | rw [hp]; rfl | rw [hp]; simp [tn] | omega)
set_option maxRecDepth 20000 in
theorem ce5 {d N k n : Nat} {h : AH} {y : Sy} {G : Gr} {Q : AQ} (hF : isFace h y) (hGy : y.1 = G) (hZ : isW h G) (hG : sm4 G) (hN : 126 ≤ N) {c : Nat} {zn z3 z4 z5 z6 z7 z8 z9 : Int} (hc : c < qM G) (hk : k ≤ 240) (hn : n ≤ 1440) (k0 : ∀ zx : Int, zx = z6 + ((tn (qE G c) + tn (qS G c) : Nat) : Int) → Run mi_L_cells (T (d + 5)) Q 235 [some (vR 0), some (vR 122), some (vI zn), some (vI z3), some (vI z4), some (vI z5), some (vI zx), some (vI z7), some (vI z8), some (vI z9), some (vI (c : Int))] [] h N k n) : Run mi_L_cells (T (d + 5)) Q 215 [some (vR 0), some (vR 122), some (vI zn), some (vI z3), some (vI z4), some (vI z5), some (vI z6), some (vI z7), some (vI z8), some (vI z9), some (vI (c : Int))] [] h N k n := by
  obtain ⟨w, m0, hw0, hw1, wL, wE, wS⟩ := id hZ
  have r0 : w (0 : Int).toNat = (qR G : Int) := hw0
  have r1 : w (1 : Int).toNat = (qC G : Int) := hw1
  have hm16 := sm4_m hG
  obtain ⟨hO, hR4, hC4⟩ := id hG
  obtain ⟨hm4, hm36⟩ := hO.m
  obtain ⟨⟨hr2, hr6⟩, ⟨hc2, hc6⟩, gL, gB, gW, gWn, gWl, gN, gNl⟩ := id hO
  have hwL : w ((2 : Int) + (c : Int)).toNat = qL G c := by
    rw [show ((2 : Int) + (c : Int)).toNat = 2 + c by omega]
    exact wL c hc
  have hwE : w ((18 : Int) + (c : Int)).toNat = bI (qE G c) := by
    rw [show ((18 : Int) + (c : Int)).toNat = 18 + c by omega]
    exact wE c hc
  have hwS : w ((34 : Int) + (c : Int)).toNat = bI (qS G c) := by
    rw [show ((34 : Int) + (c : Int)).toNat = 34 + c by omega]
    exact wS c hc
  have hbE := bI01 (qE G c)
  have hbS := bI01 (qS G c)
  have hLr : 0 ≤ qL G c ∧ qL G c ≤ 122 := by
    rcases gL c hc with q | ⟨q1, q2⟩ <;> omega
  refine R_iload rfl rfl ?_
  refine R_aload_n rfl rfl ?_
  refine R_bipush rfl ?_
  refine R_iload rfl rfl ?_
  refine R_iadd rfl ?_
  refine R_iaload rfl (Or.inl (by omega)) m0 ⟨by omega, by omega, by omega⟩ ?_
  rw [hwE]
  refine R_aload_n rfl rfl ?_
  refine R_bipush rfl ?_
  refine R_iload rfl rfl ?_
  refine R_iadd rfl ?_
  refine R_iaload rfl (Or.inl (by omega)) m0 ⟨by omega, by omega, by omega⟩ ?_
  rw [hwS]
  refine R_iadd rfl ?_
  refine R_iadd rfl ?_
  refine R_istore (lv' := [_, _, _, _, _, _, _, _, _, _, _]) rfl rfl ?_
  exact k0 _ (by cases qE G c <;> cases qS G c <;> rfl)
set_option maxRecDepth 20000 in
theorem ce6 {d N k n : Nat} {h : AH} {y : Sy} {G : Gr} {Q : AQ} (hF : isFace h y) (hGy : y.1 = G) (hZ : isW h G) (hG : sm4 G) (hN : 126 ≤ N) {c : Nat} {zn z3 z4 z5 z6 z7 z8 z9 : Int} (hc : c < qM G) (hk : k ≤ 240) (hn : n ≤ 1440) (k0 : ∀ zx : Int, zx = z7 + (tn (st G false c) : Nat) → Run mi_L_cells (T (d + 5)) Q 255 [some (vR 0), some (vR 122), some (vI zn), some (vI z3), some (vI z4), some (vI z5), some (vI z6), some (vI zx), some (vI z8), some (vI z9), some (vI (c : Int))] [] h N k n) : Run mi_L_cells (T (d + 5)) Q 235 [some (vR 0), some (vR 122), some (vI zn), some (vI z3), some (vI z4), some (vI z5), some (vI z6), some (vI z7), some (vI z8), some (vI z9), some (vI (c : Int))] [] h N k n := by
  obtain ⟨w, m0, hw0, hw1, wL, wE, wS⟩ := id hZ
  have r0 : w (0 : Int).toNat = (qR G : Int) := hw0
  have r1 : w (1 : Int).toNat = (qC G : Int) := hw1
  have hm16 := sm4_m hG
  obtain ⟨hO, hR4, hC4⟩ := id hG
  obtain ⟨hm4, hm36⟩ := hO.m
  obtain ⟨⟨hr2, hr6⟩, ⟨hc2, hc6⟩, gL, gB, gW, gWn, gWl, gN, gNl⟩ := id hO
  have hwL : w ((2 : Int) + (c : Int)).toNat = qL G c := by
    rw [show ((2 : Int) + (c : Int)).toNat = 2 + c by omega]
    exact wL c hc
  have hwE : w ((18 : Int) + (c : Int)).toNat = bI (qE G c) := by
    rw [show ((18 : Int) + (c : Int)).toNat = 18 + c by omega]
    exact wE c hc
  have hwS : w ((34 : Int) + (c : Int)).toNat = bI (qS G c) := by
    rw [show ((34 : Int) + (c : Int)).toNat = 34 + c by omega]
    exact wS c hc
  have hbE := bI01 (qE G c)
  have hbS := bI01 (qS G c)
  have hLr : 0 ≤ qL G c ∧ qL G c ≤ 122 := by
    rcases gL c hc with q | ⟨q1, q2⟩ <;> omega
  refine R_iload rfl rfl ?_
  refine R_iconst rfl ?_
  refine R_iload rfl rfl ?_
  refine R_aload_n rfl rfl ?_
  refine R_scall rfl rfl ⟨Nat.le_of_ble_eq_true rfl, Nat.le_of_ble_eq_true rfl, (show _ ≤ 240 by omega), (show _ ≤ 1440 by omega)⟩ (starts_T (b := false) (c := c) hZ hG hN rfl rfl hc (fun z241 hz241 => aRes_g (Or.inl rfl) ?_))
  have hs241 := bI01 (st G false c)
  rw [← hz241] at hs241
  refine R_ifeq rfl ⟨by omega, by omega⟩ (fun c244 => ?_) (fun c244 => ?_)
  · have hp := bI_f hz241 c244
    refine R_iconst rfl ?_
    refine R_iadd rfl ?_
    refine R_istore (lv' := [_, _, _, _, _, _, _, _, _, _, _]) rfl rfl ?_
    exact k0 _ (by first | rw [hp]; rfl | rw [hp]; simp [tn] | omega)
  · have hp := bI_t hz241 c244
    refine R_iconst rfl ?_
    refine R_goto rfl ?_
    refine R_iadd rfl ?_
    refine R_istore (lv' := [_, _, _, _, _, _, _, _, _, _, _]) rfl rfl ?_
    exact k0 _ (by first | rw [hp]; rfl | rw [hp]; simp [tn] | omega)
set_option maxRecDepth 20000 in
theorem ce7 {d N k n : Nat} {h : AH} {y : Sy} {G : Gr} {Q : AQ} (hF : isFace h y) (hGy : y.1 = G) (hZ : isW h G) (hG : sm4 G) (hN : 126 ≤ N) {c : Nat} {zn z3 z4 z5 z6 z7 z8 z9 : Int} (hc : c < qM G) (hk : k ≤ 240) (hn : n ≤ 1440) (k0 : ∀ zx : Int, zx = z8 + (tn (st G true c) : Nat) → Run mi_L_cells (T (d + 5)) Q 275 [some (vR 0), some (vR 122), some (vI zn), some (vI z3), some (vI z4), some (vI z5), some (vI z6), some (vI z7), some (vI zx), some (vI z9), some (vI (c : Int))] [] h N k n) : Run mi_L_cells (T (d + 5)) Q 255 [some (vR 0), some (vR 122), some (vI zn), some (vI z3), some (vI z4), some (vI z5), some (vI z6), some (vI z7), some (vI z8), some (vI z9), some (vI (c : Int))] [] h N k n := by
  obtain ⟨w, m0, hw0, hw1, wL, wE, wS⟩ := id hZ
  have r0 : w (0 : Int).toNat = (qR G : Int) := hw0
  have r1 : w (1 : Int).toNat = (qC G : Int) := hw1
  have hm16 := sm4_m hG
  obtain ⟨hO, hR4, hC4⟩ := id hG
  obtain ⟨hm4, hm36⟩ := hO.m
  obtain ⟨⟨hr2, hr6⟩, ⟨hc2, hc6⟩, gL, gB, gW, gWn, gWl, gN, gNl⟩ := id hO
  have hwL : w ((2 : Int) + (c : Int)).toNat = qL G c := by
    rw [show ((2 : Int) + (c : Int)).toNat = 2 + c by omega]
    exact wL c hc
  have hwE : w ((18 : Int) + (c : Int)).toNat = bI (qE G c) := by
    rw [show ((18 : Int) + (c : Int)).toNat = 18 + c by omega]
    exact wE c hc
  have hwS : w ((34 : Int) + (c : Int)).toNat = bI (qS G c) := by
    rw [show ((34 : Int) + (c : Int)).toNat = 34 + c by omega]
    exact wS c hc
  have hbE := bI01 (qE G c)
  have hbS := bI01 (qS G c)
  have hLr : 0 ≤ qL G c ∧ qL G c ≤ 122 := by
    rcases gL c hc with q | ⟨q1, q2⟩ <;> omega
  refine R_iload rfl rfl ?_
  refine R_iconst rfl ?_
  refine R_iload rfl rfl ?_
  refine R_aload_n rfl rfl ?_
  refine R_scall rfl rfl ⟨Nat.le_of_ble_eq_true rfl, Nat.le_of_ble_eq_true rfl, (show _ ≤ 240 by omega), (show _ ≤ 1440 by omega)⟩ (starts_T (b := true) (c := c) hZ hG hN rfl rfl hc (fun z261 hz261 => aRes_g (Or.inl rfl) ?_))
  have hs261 := bI01 (st G true c)
  rw [← hz261] at hs261
  refine R_ifeq rfl ⟨by omega, by omega⟩ (fun c264 => ?_) (fun c264 => ?_)
  · have hp := bI_f hz261 c264
    refine R_iconst rfl ?_
    refine R_iadd rfl ?_
    refine R_istore (lv' := [_, _, _, _, _, _, _, _, _, _, _]) rfl rfl ?_
    exact k0 _ (by first | rw [hp]; rfl | rw [hp]; simp [tn] | omega)
  · have hp := bI_t hz261 c264
    refine R_iconst rfl ?_
    refine R_goto rfl ?_
    refine R_iadd rfl ?_
    refine R_istore (lv' := [_, _, _, _, _, _, _, _, _, _, _]) rfl rfl ?_
    exact k0 _ (by first | rw [hp]; rfl | rw [hp]; simp [tn] | omega)
set_option maxRecDepth 20000 in
theorem ce8 {d N k n : Nat} {h : AH} {y : Sy} {G : Gr} {Q : AQ} (hF : isFace h y) (hGy : y.1 = G) (hZ : isW h G) (hG : sm4 G) (hN : 126 ≤ N) {c : Nat} {zn z3 z4 z5 z6 z7 z8 z9 : Int} (hc : c < qM G) (hk : k ≤ 240) (hn : n ≤ 1440) (hz9 : z9 = (clu G c : Nat)) (k0 : ∀ zx : Int, zx = (clu G (c + 1) : Nat) → Run mi_L_cells (T (d + 5)) Q 297 [some (vR 0), some (vR 122), some (vI zn), some (vI z3), some (vI z4), some (vI z5), some (vI z6), some (vI z7), some (vI z8), some (vI zx), some (vI (c : Int))] [] h N k n) : Run mi_L_cells (T (d + 5)) Q 275 [some (vR 0), some (vR 122), some (vI zn), some (vI z3), some (vI z4), some (vI z5), some (vI z6), some (vI z7), some (vI z8), some (vI z9), some (vI (c : Int))] [] h N k n := by
  obtain ⟨w, m0, hw0, hw1, wL, wE, wS⟩ := id hZ
  have r0 : w (0 : Int).toNat = (qR G : Int) := hw0
  have r1 : w (1 : Int).toNat = (qC G : Int) := hw1
  have hm16 := sm4_m hG
  obtain ⟨hO, hR4, hC4⟩ := id hG
  obtain ⟨hm4, hm36⟩ := hO.m
  obtain ⟨⟨hr2, hr6⟩, ⟨hc2, hc6⟩, gL, gB, gW, gWn, gWl, gN, gNl⟩ := id hO
  have hwL : w ((2 : Int) + (c : Int)).toNat = qL G c := by
    rw [show ((2 : Int) + (c : Int)).toNat = 2 + c by omega]
    exact wL c hc
  have hwE : w ((18 : Int) + (c : Int)).toNat = bI (qE G c) := by
    rw [show ((18 : Int) + (c : Int)).toNat = 18 + c by omega]
    exact wE c hc
  have hwS : w ((34 : Int) + (c : Int)).toNat = bI (qS G c) := by
    rw [show ((34 : Int) + (c : Int)).toNat = 34 + c by omega]
    exact wS c hc
  have hbE := bI01 (qE G c)
  have hbS := bI01 (qS G c)
  have hLr : 0 ≤ qL G c ∧ qL G c ≤ 122 := by
    rcases gL c hc with q | ⟨q1, q2⟩ <;> omega
  refine R_iload rfl rfl ?_
  refine R_aload_n rfl rfl ?_
  refine R_scall rfl rfl ⟨Nat.le_of_ble_eq_true rfl, Nat.le_of_ble_eq_true rfl, (show _ ≤ 240 by omega), (show _ ≤ 1440 by omega)⟩ (clue_L (c := c) hZ hG hN rfl hc (fun z278 hz278 => aRes_g (Or.inl rfl) ?_))
  have hr278 := clue_r hO hc
  rw [← hz278] at hr278
  refine R_ifle rfl ⟨by omega, by omega⟩ (fun c281 => ?_) (fun c281 => ?_)
  · have hs : (st G false c || st G true c) = false := by
      cases q : (st G false c || st G true c) with
      | false => rfl
      | true =>
        unfold clue at hz278
        rw [if_pos q] at hz278
        have h0 : clu G (c + 1) = clu G c + 1 := by
          simp only [clu]
          rw [q]
          rfl
        omega
    refine R_iload rfl rfl ?_
    refine R_istore (lv' := [_, _, _, _, _, _, _, _, _, _, _]) rfl rfl ?_
    first | exact k0 _ (by rw [hz287]; unfold clue; rw [if_pos hs]) | exact k0 _ (by rw [hz9]; simp only [clu]; rw [hs]; rfl)
  · have hs : (st G false c || st G true c) = true := by
      cases q : (st G false c || st G true c) with
      | true => rfl
      | false =>
        unfold clue at hz278
        rw [if_neg (by rw [q]; decide)] at hz278
        omega
    refine R_iload rfl rfl ?_
    refine R_aload_n rfl rfl ?_
    refine R_scall rfl rfl ⟨Nat.le_of_ble_eq_true rfl, Nat.le_of_ble_eq_true rfl, (show _ ≤ 240 by omega), (show _ ≤ 1440 by omega)⟩ (clue_L (c := c) hZ hG hN rfl hc (fun z287 hz287 => aRes_g (Or.inl rfl) ?_))
    have hr287 := clue_r hO hc
    rw [← hz287] at hr287
    refine R_goto rfl ?_
    refine R_istore (lv' := [_, _, _, _, _, _, _, _, _, _, _]) rfl rfl ?_
    first | exact k0 _ (by rw [hz287]; unfold clue; rw [if_pos hs]) | exact k0 _ (by rw [hz9]; simp only [clu]; rw [hs]; rfl)
theorem br_le {G : Gr} : brG G ≤ 2 * qM G := by
  have h1 := ct_le (p := qE G) (qM G) 0
  have h2 := ct_le (p := qS G) (qM G) 0
  unfold brG
  omega
set_option maxRecDepth 20000 in
theorem ce9 {d N k n : Nat} {h : AH} {y : Sy} {G : Gr} {Q : AQ} (hF : isFace h y) (hGy : y.1 = G) (hZ : isW h G) (hG : sm4 G) (hN : 126 ≤ N) {zn z3 z4 z5 z6 z7 z8 z9 zc : Int} (h3 : z3 = (ciG G 2 : Nat)) (h4 : z4 = (ciG G 1 : Nat)) (h5 : z5 = (ecG G : Nat)) (h6 : z6 = (brG G : Nat)) (h7 : z7 = (cntA G (qM G) : Nat)) (h8 : z7 + z8 = (nE G : Nat)) (h9 : z9 = (clu G (qM G) : Nat)) (hk : k + 9 ≤ 240) (hn : n + 54 ≤ 1440) (hQ : ∀ z : Int, z = 1 → Q (.inl (some (vI z))) h N) : Run mi_L_cells (T (d + 5)) Q 303 [some (vR 0), some (vR 122), some (vI zn), some (vI z3), some (vI z4), some (vI z5), some (vI z6), some (vI z7), some (vI z8), some (vI z9), some (vI zc)] [] h N k n := by
  obtain ⟨w, m0, hw0, hw1, wL, wE, wS⟩ := id hZ
  have r0 : w (0 : Int).toNat = (qR G : Int) := hw0
  have r1 : w (1 : Int).toNat = (qC G : Int) := hw1
  have hm16 := sm4_m hG
  obtain ⟨hO, hR4, hC4⟩ := id hG
  obtain ⟨hm4, hm36⟩ := hO.m
  obtain ⟨⟨hr2, hr6⟩, ⟨hc2, hc6⟩, gL, gB, gW, gWn, gWl, gN, gNl⟩ := id hO
  have b1 := nE36 hO
  have b2 : ciG G 2 ≤ qM G := ct_le _ _
  have b3 : ciG G 1 ≤ qM G := ct_le _ _
  have b4 : ecG G ≤ qM G := ct_le _ _
  have b5 := br_le (G := G)
  have b6 := clu_le (G := G) (qM G)
  have b7 := cntA_le (G := G) (qM G)
  refine R_aload_n rfl rfl ?_
  refine R_iconst rfl ?_
  refine R_vcall rfl rfl ⟨(by omega), _, hF.1⟩ ⟨Nat.le_of_ble_eq_true rfl, Nat.le_of_ble_eq_true rfl, (show _ ≤ 240 by omega), (show _ ≤ 1440 by omega)⟩ (about_9 hF (by omega) (n := 0) (by decide) rfl (fun z305 hz305 => aRes_g (Or.inl rfl) ?_))
  rw [hGy] at hz305
  have hq305 : z305 = (qR G : Nat) := hz305
  refine R_aload_n rfl rfl ?_
  refine R_iconst rfl ?_
  refine R_iaload rfl (Or.inl (by omega)) m0 ⟨by omega, by omega, by omega⟩ ?_
  rw [r0]
  refine R_icmpne rfl ⟨by omega, by omega⟩ ⟨by omega, by omega⟩ (fun c311 => ?_) (fun c311 => ?_)
  · exact absurd (by omega) c311
  · refine R_aload_n rfl rfl ?_
    refine R_iconst rfl ?_
    refine R_vcall rfl rfl ⟨(by omega), _, hF.1⟩ ⟨Nat.le_of_ble_eq_true rfl, Nat.le_of_ble_eq_true rfl, (show _ ≤ 240 by omega), (show _ ≤ 1440 by omega)⟩ (about_9 hF (by omega) (n := 1) (by decide) rfl (fun z316 hz316 => aRes_g (Or.inl rfl) ?_))
    rw [hGy] at hz316
    have hq316 : z316 = (qC G : Nat) := hz316
    refine R_aload_n rfl rfl ?_
    refine R_iconst rfl ?_
    refine R_iaload rfl (Or.inl (by omega)) m0 ⟨by omega, by omega, by omega⟩ ?_
    rw [r1]
    refine R_icmpne rfl ⟨by omega, by omega⟩ ⟨by omega, by omega⟩ (fun c322 => ?_) (fun c322 => ?_)
    · exact absurd (by omega) c322
    · refine R_aload_n rfl rfl ?_
      refine R_iconst rfl ?_
      refine R_vcall rfl rfl ⟨(by omega), _, hF.1⟩ ⟨Nat.le_of_ble_eq_true rfl, Nat.le_of_ble_eq_true rfl, (show _ ≤ 240 by omega), (show _ ≤ 1440 by omega)⟩ (about_9 hF (by omega) (n := 2) (by decide) rfl (fun z327 hz327 => aRes_g (Or.inl rfl) ?_))
      rw [hGy] at hz327
      have hq327 : z327 = (nE G : Nat) := hz327
      refine R_iload rfl rfl ?_
      refine R_iload rfl rfl ?_
      refine R_iadd rfl ?_
      refine R_icmpne rfl ⟨by omega, by omega⟩ ⟨by omega, by omega⟩ (fun c335 => ?_) (fun c335 => ?_)
      · exact absurd (by omega) c335
      · refine R_aload_n rfl rfl ?_
        refine R_iconst rfl ?_
        refine R_vcall rfl rfl ⟨(by omega), _, hF.1⟩ ⟨Nat.le_of_ble_eq_true rfl, Nat.le_of_ble_eq_true rfl, (show _ ≤ 240 by omega), (show _ ≤ 1440 by omega)⟩ (about_9 hF (by omega) (n := 3) (by decide) rfl (fun z340 hz340 => aRes_g (Or.inl rfl) ?_))
        rw [hGy] at hz340
        have hq340 : z340 = (cntA G (qM G) : Nat) := hz340
        refine R_iload rfl rfl ?_
        refine R_icmpne rfl ⟨by omega, by omega⟩ ⟨by omega, by omega⟩ (fun c345 => ?_) (fun c345 => ?_)
        · exact absurd (by omega) c345
        · refine R_aload_n rfl rfl ?_
          refine R_iconst rfl ?_
          refine R_vcall rfl rfl ⟨(by omega), _, hF.1⟩ ⟨Nat.le_of_ble_eq_true rfl, Nat.le_of_ble_eq_true rfl, (show _ ≤ 240 by omega), (show _ ≤ 1440 by omega)⟩ (about_9 hF (by omega) (n := 4) (by decide) rfl (fun z350 hz350 => aRes_g (Or.inl rfl) ?_))
          rw [hGy] at hz350
          have hq350 : z350 = (ciG G 2 : Nat) := hz350
          refine R_iload_n rfl rfl ?_
          refine R_icmpne rfl ⟨by omega, by omega⟩ ⟨by omega, by omega⟩ (fun c354 => ?_) (fun c354 => ?_)
          · exact absurd (by omega) c354
          · refine R_aload_n rfl rfl ?_
            refine R_iconst rfl ?_
            refine R_vcall rfl rfl ⟨(by omega), _, hF.1⟩ ⟨Nat.le_of_ble_eq_true rfl, Nat.le_of_ble_eq_true rfl, (show _ ≤ 240 by omega), (show _ ≤ 1440 by omega)⟩ (about_9 hF (by omega) (n := 5) (by decide) rfl (fun z359 hz359 => aRes_g (Or.inl rfl) ?_))
            rw [hGy] at hz359
            have hq359 : z359 = (ciG G 1 : Nat) := hz359
            refine R_iload rfl rfl ?_
            refine R_icmpne rfl ⟨by omega, by omega⟩ ⟨by omega, by omega⟩ (fun c364 => ?_) (fun c364 => ?_)
            · exact absurd (by omega) c364
            · refine R_aload_n rfl rfl ?_
              refine R_bipush rfl ?_
              refine R_vcall rfl rfl ⟨(by omega), _, hF.1⟩ ⟨Nat.le_of_ble_eq_true rfl, Nat.le_of_ble_eq_true rfl, (show _ ≤ 240 by omega), (show _ ≤ 1440 by omega)⟩ (about_9 hF (by omega) (n := 6) (by decide) rfl (fun z370 hz370 => aRes_g (Or.inl rfl) ?_))
              rw [hGy] at hz370
              have hq370 : z370 = (ecG G : Nat) := hz370
              refine R_iload rfl rfl ?_
              refine R_icmpne rfl ⟨by omega, by omega⟩ ⟨by omega, by omega⟩ (fun c375 => ?_) (fun c375 => ?_)
              · exact absurd (by omega) c375
              · refine R_aload_n rfl rfl ?_
                refine R_bipush rfl ?_
                refine R_vcall rfl rfl ⟨(by omega), _, hF.1⟩ ⟨Nat.le_of_ble_eq_true rfl, Nat.le_of_ble_eq_true rfl, (show _ ≤ 240 by omega), (show _ ≤ 1440 by omega)⟩ (about_9 hF (by omega) (n := 7) (by decide) rfl (fun z381 hz381 => aRes_g (Or.inl rfl) ?_))
                rw [hGy] at hz381
                have hq381 : z381 = (brG G : Nat) := hz381
                refine R_iload rfl rfl ?_
                refine R_icmpne rfl ⟨by omega, by omega⟩ ⟨by omega, by omega⟩ (fun c386 => ?_) (fun c386 => ?_)
                · exact absurd (by omega) c386
                · refine R_aload_n rfl rfl ?_
                  refine R_bipush rfl ?_
                  refine R_vcall rfl rfl ⟨(by omega), _, hF.1⟩ ⟨Nat.le_of_ble_eq_true rfl, Nat.le_of_ble_eq_true rfl, (show _ ≤ 240 by omega), (show _ ≤ 1440 by omega)⟩ (about_9 hF (by omega) (n := 10) (by decide) rfl (fun z392 hz392 => aRes_g (Or.inl rfl) ?_))
                  rw [hGy] at hz392
                  have hq392 : z392 = (clu G (qM G) : Nat) := hz392
                  refine R_iload rfl rfl ?_
                  refine R_icmpne rfl ⟨by omega, by omega⟩ ⟨by omega, by omega⟩ (fun c397 => ?_) (fun c397 => ?_)
                  · exact absurd (by omega) c397
                  · refine R_iconst rfl ?_
                    refine R_goto rfl ?_
                    exact R_ireturn rfl (fun _ => by omega) (show _ ≤ 240 by omega) (show _ ≤ 1440 by omega) (hQ _ rfl)
set_option maxRecDepth 20000 in
theorem ce_loop {d N : Nat} {h : AH} {y : Sy} {G : Gr} {Q : AQ} (hF : isFace h y) (hGy : y.1 = G) (hZ : isW h G) (hG : sm4 G) (hN : 126 ≤ N) {zn : Int} (hzn : zn = qM G) (hQ : ∀ z : Int, z = 1 → Q (.inl (some (vI z))) h N) : ∀ (r c k n : Nat) (z3 z4 z5 z6 z7 z8 z9 zc : Int), c + r = qM G → zc = c → z3 + (ctF (fun x => decide (enC G x = 2)) r c : Nat) = (ciG G 2 : Nat) → z4 + (ctF (fun x => decide (enC G x = 1)) r c : Nat) = (ciG G 1 : Nat) → z5 + (ctF (fun x => decide (qL G x = 0)) r c : Nat) = (ecG G : Nat) → z6 + ((ctF (qE G) r c + ctF (qS G) r c : Nat) : Int) = (brG G : Nat) → z7 = (cntA G c : Nat) → z7 + z8 = (cnt G c : Nat) → z9 = (clu G c : Nat) → k = 14 * c → n = 84 * c → Run mi_L_cells (T (d + 5)) Q 31 [some (vR 0), some (vR 122), some (vI zn), some (vI z3), some (vI z4), some (vI z5), some (vI z6), some (vI z7), some (vI z8), some (vI z9), some (vI zc)] [] h N k n := by
  obtain ⟨w, m0, hw0, hw1, wL, wE, wS⟩ := id hZ
  have r0 : w (0 : Int).toNat = (qR G : Int) := hw0
  have r1 : w (1 : Int).toNat = (qC G : Int) := hw1
  have hm16 := sm4_m hG
  obtain ⟨hO, hR4, hC4⟩ := id hG
  obtain ⟨hm4, hm36⟩ := hO.m
  obtain ⟨⟨hr2, hr6⟩, ⟨hc2, hc6⟩, gL, gB, gW, gWn, gWl, gN, gNl⟩ := id hO
  intro r
  induction r using Nat.strongRecOn with
  | ind r ih =>
  intro c k n z3 z4 z5 z6 z7 z8 z9 zc hr hzc g3 g4 g5 g6 g7 g8 g9 hk hn
  refine R_iload rfl rfl ?_
  refine R_iload_n rfl rfl ?_
  refine R_icmpge rfl ⟨by omega, by omega⟩ ⟨by omega, by omega⟩ (fun c34 => ?_) (fun c34 => ?_)
  · have hr0 : r = 0 := by omega
    subst hr0
    obtain rfl : c = qM G := by omega
    exact ce9 hF hGy hZ hG hN (by simp only [ctF] at g3; omega) (by simp only [ctF] at g4; omega) (by simp only [ctF] at g5; omega) (by simp only [ctF] at g6; omega) g7 g8 g9 (by omega) (by omega) hQ
  · obtain ⟨r, rfl⟩ : ∃ r1, r = r1 + 1 := ⟨r - 1, by omega⟩
    subst hzc
    refine ce1 hF hGy hZ hG hN (c := c) (by omega) (by omega) (by omega) ?_
    refine ce2 hF hGy hZ hG hN (c := c) (by omega) (by omega) (by omega) (fun y3 e3 => ?_)
    refine ce3 hF hGy hZ hG hN (c := c) (by omega) (by omega) (by omega) (fun y4 e4 => ?_)
    refine ce4 hF hGy hZ hG hN (c := c) (by omega) (by omega) (by omega) (fun y5 e5 => ?_)
    refine ce5 hF hGy hZ hG hN (c := c) (by omega) (by omega) (by omega) (fun y6 e6 => ?_)
    refine ce6 hF hGy hZ hG hN (c := c) (by omega) (by omega) (by omega) (fun y7 e7 => ?_)
    refine ce7 hF hGy hZ hG hN (c := c) (by omega) (by omega) (by omega) (fun y8 e8 => ?_)
    refine ce8 hF hGy hZ hG hN (c := c) (by omega) (by omega) (by omega) g9 (fun y9 e9 => ?_)
    refine R_iinc (lv' := [_, _, _, _, _, _, _, _, _, _, _]) rfl rfl rfl ?_
    refine R_goto rfl ?_
    exact ih r (by omega) (c + 1) _ _ _ _ _ _ _ _ _ _ (by omega) rfl (by rw [e3, ← g3]; simp only [ctF]; omega) (by rw [e4, ← g4]; simp only [ctF]; omega) (by rw [e5, ← g5]; simp only [ctF]; omega) (by rw [e6, ← g6]; simp only [ctF]; omega) (by rw [e7, g7]; simp only [cntA]; omega) (by rw [e7, e8]; simp only [cnt]; omega) e9 (by omega) (by omega)
set_option maxRecDepth 20000 in
theorem cells_L {d N : Nat} {h : AH} {y : Sy} {G : Gr} {Q : AQ} (hF : isFace h y) (hGy : y.1 = G) (hZ : isW h G) (hG : sm4 G) (hN : 126 ≤ N) (hQ : ∀ z : Int, z = 1 → Q (.inl (some (vI z))) h N) : T (d + 6) 244 [vR 0, vR 122] h N Q := by
  obtain ⟨w, m0, hw0, hw1, wL, wE, wS⟩ := id hZ
  have r0 : w (0 : Int).toNat = (qR G : Int) := hw0
  have r1 : w (1 : Int).toNat = (qC G : Int) := hw1
  have hm16 := sm4_m hG
  obtain ⟨hO, hR4, hC4⟩ := id hG
  obtain ⟨hm4, hm36⟩ := hO.m
  obtain ⟨⟨hr2, hr6⟩, ⟨hc2, hc6⟩, gL, gB, gW, gWn, gWl, gN, gNl⟩ := id hO
  have hmi := qM_int G
  refine T_body (I := mi_L_cells) (lv := [_, _, _, _, _, _, _, _, _, _, _]) rfl (Nat.le_of_ble_eq_true rfl) rfl ?_
  refine R_aload_n rfl rfl ?_
  refine R_iconst rfl ?_
  refine R_iaload rfl (Or.inl (by omega)) m0 ⟨by omega, by omega, by omega⟩ ?_
  rw [r0]
  refine R_aload_n rfl rfl ?_
  refine R_iconst rfl ?_
  refine R_iaload rfl (Or.inl (by omega)) m0 ⟨by omega, by omega, by omega⟩ ?_
  rw [r1]
  refine R_imul rfl ?_
  rw [hmi]
  refine R_istore_n (lv' := [_, _, _, _, _, _, _, _, _, _, _]) rfl rfl ?_
  refine R_iconst rfl ?_
  refine R_istore_n (lv' := [_, _, _, _, _, _, _, _, _, _, _]) rfl rfl ?_
  refine R_iconst rfl ?_
  refine R_istore (lv' := [_, _, _, _, _, _, _, _, _, _, _]) rfl rfl ?_
  refine R_iconst rfl ?_
  refine R_istore (lv' := [_, _, _, _, _, _, _, _, _, _, _]) rfl rfl ?_
  refine R_iconst rfl ?_
  refine R_istore (lv' := [_, _, _, _, _, _, _, _, _, _, _]) rfl rfl ?_
  refine R_iconst rfl ?_
  refine R_istore (lv' := [_, _, _, _, _, _, _, _, _, _, _]) rfl rfl ?_
  refine R_iconst rfl ?_
  refine R_istore (lv' := [_, _, _, _, _, _, _, _, _, _, _]) rfl rfl ?_
  refine R_iconst rfl ?_
  refine R_istore (lv' := [_, _, _, _, _, _, _, _, _, _, _]) rfl rfl ?_
  refine R_iconst rfl ?_
  refine R_istore (lv' := [_, _, _, _, _, _, _, _, _, _, _]) rfl rfl ?_
  exact ce_loop hF hGy hZ hG hN rfl hQ (qM G) 0 0 0 _ _ _ _ _ _ _ _ (Nat.zero_add _) rfl (Int.zero_add _) (Int.zero_add _) (Int.zero_add _) (Int.zero_add _) rfl rfl rfl rfl rfl
