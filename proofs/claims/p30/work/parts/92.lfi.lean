/-! ===== the law's fits and fillings ===== -/
/-- the law's words -/
def isWo (h : AH) (G : Gr) : Prop := qW G ≤ 4 ∧ ∃ v, h 123 = eI 16 v ∧ ∀ j, j < qW G → v (4 * j) = qWn G j ∧ qWn G j ≤ 3 ∧ ∀ i, i < qWn G j → v (4 * j + 1 + i) = qWl G j i
theorem isWo_fr {h h' : AH} {G : Gr} (hW : isWo h G) (he : h' 123 = h 123) : isWo h' G := by
  obtain ⟨a, l, h1, h2⟩ := hW
  exact ⟨a, l, he.trans h1, h2⟩
def pF2 (G : Gr) (b : Bool) (c j i : Nat) : Bool := decide (qL G (c + i * sp G b) = 0) || decide (qL G (c + i * sp G b) = qWl G j i)
def fi2 (G : Gr) (b : Bool) (c j : Nat) : Bool := decide (ln G b c = qWn G j) && alF (pF2 G b c j) (ln G b c) 0
theorem fi2_e {G : Gr} {e j : Nat} : fi2 G (eB G e) (eC G e) j = fiG G e j := rfl
set_option maxRecDepth 20000 in
theorem ft0_0 {d N : Nat} {h : AH} {Q : AQ} {zc zj zm zi : Int} {l8 : Option AV} (hm : inR zm) (hi : inR zi) (hQ : ∀ z : Int, z = 0 → Q (.inl (some (vI z))) h N) : Run mi_L_fits (T (d + 2)) Q 29 [some (vI 0), some (vI zc), some (vI zj), some (vR 122), some (vR 123), some (vI zm), some (vI 0), some (vI zi), l8] [] h N 0 0 := by
  obtain ⟨hm1, hm2⟩ := hm
  obtain ⟨hi1, hi2⟩ := hi
  refine R_iload rfl rfl ?_
  refine R_iload rfl rfl ?_
  refine R_icmpge rfl ⟨by omega, by omega⟩ ⟨by omega, by omega⟩ (fun c33 => ?_) (fun c33 => ?_)
  · refine R_iload rfl rfl ?_
    exact R_ireturn rfl (fun _ => by omega) (Nat.zero_le _) (Nat.zero_le _) (hQ _ rfl)
  · refine R_iload rfl rfl ?_
    refine R_ifeq rfl ⟨by decide, by decide⟩ (fun _ => ?_) (fun c0 => absurd c0 (by decide))
    refine R_iload rfl rfl ?_
    exact R_ireturn rfl (fun _ => by omega) (Nat.zero_le _) (Nat.zero_le _) (hQ _ rfl)
set_option maxRecDepth 20000 in
theorem ft_0 {d N : Nat} {h : AH} {G : Gr} {Q : AQ} (hZ : isW h G) (hV : isWo h G) (hG : sm4 G) (hN : 126 ≤ N) {c j : Nat} (hc : c < qM G) (hj : j < qW G) (hlen : ln G false c = qWn G j) : ∀ (r i : Nat) (zi : Int) (l8 : Option AV), i + r = ln G false c → zi = i → (∀ z : Int, z = bI (alF (pF2 G false c j) r i) → Q (.inl (some (vI z))) h N) → Run mi_L_fits (T (d + 2)) Q 29 [some (vI 0), some (vI (c : Int)), some (vI (j : Int)), some (vR 122), some (vR 123), some (vI ((ln G false c : Nat) : Int)), some (vI 1), some (vI zi), l8] [] h N 0 0 := by
  obtain ⟨w, m0, hw0, hw1, wL, wE, wS⟩ := id hZ
  have r0 : w (0 : Int).toNat = (qR G : Int) := hw0
  have r1 : w (1 : Int).toNat = (qC G : Int) := hw1
  have hm16 := sm4_m hG
  obtain ⟨hO, hR4, hC4⟩ := id hG
  obtain ⟨hm4, hm36⟩ := hO.m
  obtain ⟨⟨hr2, hr6⟩, ⟨hc2, hc6⟩, gL, gB, gW, gWn, gWl, gN, gNl⟩ := id hO
  obtain ⟨hw4, v, mv, hv⟩ := id hV
  have hj3 := (hv j hj).2.1
  have hl1 := (ln_spec hO (b := false) hc).2.2.1
  intro r
  induction r using Nat.strongRecOn with
  | ind r ih =>
  intro i zi l8 hr hzi hQ
  refine R_iload rfl rfl ?_
  refine R_iload rfl rfl ?_
  refine R_icmpge rfl ⟨by omega, by omega⟩ ⟨by omega, by omega⟩ (fun c33 => ?_) (fun c33 => ?_)
  · have hr0 : r = 0 := by omega
    subst hr0
    refine R_iload rfl rfl ?_
    exact R_ireturn rfl (fun _ => by omega) (Nat.zero_le _) (Nat.zero_le _) (hQ _ rfl)
  · obtain ⟨r, rfl⟩ : ∃ r1, r = r1 + 1 := ⟨r - 1, by omega⟩
    subst hzi
    have hcl := run_cell hO (b := false) hc (i := i) (by omega)
    have hmz : (i : Int) * 1 = ((i * sp G false : Nat) : Int) := by show (i : Int) * 1 = ((i * 1 : Nat) : Int); omega
    have hwl : w ((2 : Int) + (c : Int) + ((i * sp G false : Nat) : Int)).toNat = qL G (c + i * sp G false) := by
      rw [show ((2 : Int) + (c : Int) + ((i * sp G false : Nat) : Int)).toNat = 2 + (c + i * sp G false) by omega]
      exact wL _ hcl
    have hlr : 0 ≤ qL G (c + i * sp G false) ∧ qL G (c + i * sp G false) ≤ 122 := by
      rcases gL _ hcl with q | ⟨q1, q2⟩ <;> omega
    obtain ⟨hgw1, hgw2⟩ := gWl j i hj (by omega)
    have hvl : v ((4 : Int) * (j : Int) + 1 + (i : Int)).toNat = qWl G j i := by
      rw [show ((4 : Int) * (j : Int) + 1 + (i : Int)).toNat = 4 * j + 1 + i by omega]
      exact (hv j hj).2.2 i (by omega)
    refine R_iload rfl rfl ?_
    refine R_ifeq rfl ⟨by decide, by decide⟩ (fun c0 => absurd c0 (by decide)) (fun _ => ?_)
    refine R_aload_n rfl rfl ?_
    refine R_iconst rfl ?_
    refine R_iload_n rfl rfl ?_
    refine R_iadd rfl ?_
    refine R_iload rfl rfl ?_
    refine R_iload_n rfl rfl ?_
    refine R_ifne rfl ⟨by decide, by decide⟩ (fun c0 => absurd c0 (by decide)) (fun _ => ?_)
    refine R_iconst rfl ?_
    refine R_goto rfl ?_
    refine R_imul rfl ?_
    rw [hmz]
    refine R_iadd rfl ?_
    refine R_iaload rfl (Or.inl (by omega)) m0 ⟨by omega, by omega, by omega⟩ ?_
    rw [hwl]
    refine R_istore (lv' := [_, _, _, _, _, _, _, _, _]) rfl rfl ?_
    refine R_iload rfl rfl ?_
    refine R_ifeq rfl ⟨by omega, by omega⟩ (fun c65 => ?_) (fun c65 => ?_)
    · have hp : pF2 G false c j i = true := by
        unfold pF2
        rw [decide_eq_true (by omega)]
        rfl
      refine R_iconst rfl ?_
      refine R_goto rfl ?_
      refine R_istore (lv' := [_, _, _, _, _, _, _, _, _]) rfl rfl ?_
      refine R_iinc (lv' := [_, _, _, _, _, _, _, _, _]) rfl rfl rfl ?_
      refine R_goto rfl ?_
      exact ih r (by omega) (i + 1) _ _ (by omega) (by omega) (fun z hz => hQ z (hz.trans (congrArg bI (al_skip (p := pF2 G false c j) hp))))
    · refine R_iload rfl rfl ?_
      refine R_aload rfl rfl ?_
      refine R_iconst rfl ?_
      refine R_iload_n rfl rfl ?_
      refine R_imul rfl ?_
      refine R_iconst rfl ?_
      refine R_iadd rfl ?_
      refine R_iload rfl rfl ?_
      refine R_iadd rfl ?_
      refine R_iaload rfl (Or.inl (by omega)) mv ⟨by omega, by omega, by omega⟩ ?_
      rw [hvl]
      refine R_icmpne rfl ⟨by omega, by omega⟩ ⟨by omega, by omega⟩ (fun c81 => ?_) (fun c81 => ?_)
      · have hp : pF2 G false c j i = false := by
          unfold pF2
          rw [decide_eq_false c65, decide_eq_false c81]
          rfl
        refine R_iconst rfl ?_
        refine R_istore (lv' := [_, _, _, _, _, _, _, _, _]) rfl rfl ?_
        refine R_iinc (lv' := [_, _, _, _, _, _, _, _, _]) rfl rfl rfl ?_
        refine R_goto rfl ?_
        exact ft0_0 ⟨by omega, by omega⟩ ⟨by omega, by omega⟩ (fun z hz => hQ z (hz.trans (congrArg bI (al_hit (p := pF2 G false c j) hp))))
      · have hp : pF2 G false c j i = true := by
          unfold pF2
          rw [decide_eq_true (show qL G (c + i * sp G false) = qWl G j i by omega), Bool.or_true]
        refine R_iconst rfl ?_
        refine R_goto rfl ?_
        refine R_istore (lv' := [_, _, _, _, _, _, _, _, _]) rfl rfl ?_
        refine R_iinc (lv' := [_, _, _, _, _, _, _, _, _]) rfl rfl rfl ?_
        refine R_goto rfl ?_
        exact ih r (by omega) (i + 1) _ _ (by omega) (by omega) (fun z hz => hQ z (hz.trans (congrArg bI (al_skip (p := pF2 G false c j) hp))))
set_option maxRecDepth 20000 in
theorem fits_0 {d N : Nat} {h : AH} {G : Gr} {Q : AQ} (hZ : isW h G) (hV : isWo h G) (hG : sm4 G) (hN : 126 ≤ N) {c j : Nat} (hc : c < qM G) (hj : j < qW G) (hs : st G false c = true) (hQ : ∀ z : Int, z = bI (fi2 G false c j) → Q (.inl (some (vI z))) h N) : T (d + 3) 242 [vI 0, vI (c : Int), vI (j : Int), vR 122, vR 123] h N Q := by
  obtain ⟨w, m0, hw0, hw1, wL, wE, wS⟩ := id hZ
  have r0 : w (0 : Int).toNat = (qR G : Int) := hw0
  have r1 : w (1 : Int).toNat = (qC G : Int) := hw1
  have hm16 := sm4_m hG
  obtain ⟨hO, hR4, hC4⟩ := id hG
  obtain ⟨hm4, hm36⟩ := hO.m
  obtain ⟨⟨hr2, hr6⟩, ⟨hc2, hc6⟩, gL, gB, gW, gWn, gWl, gN, gNl⟩ := id hO
  obtain ⟨hw4, v, mv, hv⟩ := id hV
  have hv4 : v ((4 : Int) * (j : Int)).toNat = (qWn G j : Int) := by
    rw [show ((4 : Int) * (j : Int)).toNat = 4 * j by omega]
    exact (hv j hj).1
  have hj3 := (hv j hj).2.1
  have hl1 := (ln_spec hO (b := false) hc).2.2
  refine T_body (I := mi_L_fits) (lv := [_, _, _, _, _, _, _, _, _]) rfl (Nat.le_of_ble_eq_true rfl) rfl ?_
  refine R_iload_n rfl rfl ?_
  refine R_iload_n rfl rfl ?_
  refine R_aload_n rfl rfl ?_
  refine R_scall rfl rfl ⟨Nat.le_of_ble_eq_true rfl, Nat.le_of_ble_eq_true rfl, Nat.zero_le _, Nat.zero_le _⟩ (length_T (b := false) (c := c) hZ hG hN rfl rfl hc (fun z3 hz3 => aRes_i (rest := []) ?_))
  have hle : lnC G false c = ln G false c := lnC_st hO hc (rs_stop (st_iff.mp hs).2)
  rw [hle] at hz3
  subst hz3
  refine R_istore (lv' := [_, _, _, _, _, _, _, _, _]) rfl rfl ?_
  refine R_aload rfl rfl ?_
  refine R_iconst rfl ?_
  refine R_iload_n rfl rfl ?_
  refine R_imul rfl ?_
  refine R_iaload rfl (Or.inl (by omega)) mv ⟨by omega, by omega, by omega⟩ ?_
  rw [hv4]
  refine R_iload rfl rfl ?_
  refine R_icmpne rfl ⟨by omega, by omega⟩ ⟨by omega, by omega⟩ (fun c16 => ?_) (fun c16 => ?_)
  · refine R_iconst rfl ?_
    refine R_istore (lv' := [_, _, _, _, _, _, _, _, _]) rfl rfl ?_
    refine R_iconst rfl ?_
    refine R_istore (lv' := [_, _, _, _, _, _, _, _, _]) rfl rfl ?_
    exact ft0_0 ⟨by omega, by omega⟩ ⟨by decide, by decide⟩ (fun z hz => hQ z (by rw [hz]; unfold fi2; rw [decide_eq_false (show ¬ ln G false c = qWn G j by omega)]; rfl))
  · refine R_iconst rfl ?_
    refine R_goto rfl ?_
    refine R_istore (lv' := [_, _, _, _, _, _, _, _, _]) rfl rfl ?_
    refine R_iconst rfl ?_
    refine R_istore (lv' := [_, _, _, _, _, _, _, _, _]) rfl rfl ?_
    exact ft_0 hZ hV hG hN hc hj (by omega) (ln G false c) 0 _ _ (Nat.zero_add _) rfl (fun z hz => hQ z (by rw [hz]; unfold fi2; rw [decide_eq_true (show ln G false c = qWn G j by omega)]; rfl))
set_option maxRecDepth 20000 in
theorem ft0_1 {d N : Nat} {h : AH} {Q : AQ} {zc zj zm zi : Int} {l8 : Option AV} (hm : inR zm) (hi : inR zi) (hQ : ∀ z : Int, z = 0 → Q (.inl (some (vI z))) h N) : Run mi_L_fits (T (d + 2)) Q 29 [some (vI 1), some (vI zc), some (vI zj), some (vR 122), some (vR 123), some (vI zm), some (vI 0), some (vI zi), l8] [] h N 0 0 := by
  obtain ⟨hm1, hm2⟩ := hm
  obtain ⟨hi1, hi2⟩ := hi
  refine R_iload rfl rfl ?_
  refine R_iload rfl rfl ?_
  refine R_icmpge rfl ⟨by omega, by omega⟩ ⟨by omega, by omega⟩ (fun c33 => ?_) (fun c33 => ?_)
  · refine R_iload rfl rfl ?_
    exact R_ireturn rfl (fun _ => by omega) (Nat.zero_le _) (Nat.zero_le _) (hQ _ rfl)
  · refine R_iload rfl rfl ?_
    refine R_ifeq rfl ⟨by decide, by decide⟩ (fun _ => ?_) (fun c0 => absurd c0 (by decide))
    refine R_iload rfl rfl ?_
    exact R_ireturn rfl (fun _ => by omega) (Nat.zero_le _) (Nat.zero_le _) (hQ _ rfl)
set_option maxRecDepth 20000 in
theorem ft_1 {d N : Nat} {h : AH} {G : Gr} {Q : AQ} (hZ : isW h G) (hV : isWo h G) (hG : sm4 G) (hN : 126 ≤ N) {c j : Nat} (hc : c < qM G) (hj : j < qW G) (hlen : ln G true c = qWn G j) : ∀ (r i : Nat) (zi : Int) (l8 : Option AV), i + r = ln G true c → zi = i → (∀ z : Int, z = bI (alF (pF2 G true c j) r i) → Q (.inl (some (vI z))) h N) → Run mi_L_fits (T (d + 2)) Q 29 [some (vI 1), some (vI (c : Int)), some (vI (j : Int)), some (vR 122), some (vR 123), some (vI ((ln G true c : Nat) : Int)), some (vI 1), some (vI zi), l8] [] h N 0 0 := by
  obtain ⟨w, m0, hw0, hw1, wL, wE, wS⟩ := id hZ
  have r0 : w (0 : Int).toNat = (qR G : Int) := hw0
  have r1 : w (1 : Int).toNat = (qC G : Int) := hw1
  have hm16 := sm4_m hG
  obtain ⟨hO, hR4, hC4⟩ := id hG
  obtain ⟨hm4, hm36⟩ := hO.m
  obtain ⟨⟨hr2, hr6⟩, ⟨hc2, hc6⟩, gL, gB, gW, gWn, gWl, gN, gNl⟩ := id hO
  obtain ⟨hw4, v, mv, hv⟩ := id hV
  have hj3 := (hv j hj).2.1
  have hl1 := (ln_spec hO (b := true) hc).2.2.1
  intro r
  induction r using Nat.strongRecOn with
  | ind r ih =>
  intro i zi l8 hr hzi hQ
  refine R_iload rfl rfl ?_
  refine R_iload rfl rfl ?_
  refine R_icmpge rfl ⟨by omega, by omega⟩ ⟨by omega, by omega⟩ (fun c33 => ?_) (fun c33 => ?_)
  · have hr0 : r = 0 := by omega
    subst hr0
    refine R_iload rfl rfl ?_
    exact R_ireturn rfl (fun _ => by omega) (Nat.zero_le _) (Nat.zero_le _) (hQ _ rfl)
  · obtain ⟨r, rfl⟩ : ∃ r1, r = r1 + 1 := ⟨r - 1, by omega⟩
    subst hzi
    have hcl := run_cell hO (b := true) hc (i := i) (by omega)
    have hmz : (i : Int) * (qC G : Int) = ((i * sp G true : Nat) : Int) := rfl
    have hwl : w ((2 : Int) + (c : Int) + ((i * sp G true : Nat) : Int)).toNat = qL G (c + i * sp G true) := by
      rw [show ((2 : Int) + (c : Int) + ((i * sp G true : Nat) : Int)).toNat = 2 + (c + i * sp G true) by omega]
      exact wL _ hcl
    have hlr : 0 ≤ qL G (c + i * sp G true) ∧ qL G (c + i * sp G true) ≤ 122 := by
      rcases gL _ hcl with q | ⟨q1, q2⟩ <;> omega
    obtain ⟨hgw1, hgw2⟩ := gWl j i hj (by omega)
    have hvl : v ((4 : Int) * (j : Int) + 1 + (i : Int)).toNat = qWl G j i := by
      rw [show ((4 : Int) * (j : Int) + 1 + (i : Int)).toNat = 4 * j + 1 + i by omega]
      exact (hv j hj).2.2 i (by omega)
    refine R_iload rfl rfl ?_
    refine R_ifeq rfl ⟨by decide, by decide⟩ (fun c0 => absurd c0 (by decide)) (fun _ => ?_)
    refine R_aload_n rfl rfl ?_
    refine R_iconst rfl ?_
    refine R_iload_n rfl rfl ?_
    refine R_iadd rfl ?_
    refine R_iload rfl rfl ?_
    refine R_iload_n rfl rfl ?_
    refine R_ifne rfl ⟨by decide, by decide⟩ (fun _ => ?_) (fun c0 => absurd c0 (by decide))
    refine R_aload_n rfl rfl ?_
    refine R_iconst rfl ?_
    refine R_iaload rfl (Or.inl (by omega)) m0 ⟨by omega, by omega, by omega⟩ ?_
    rw [r1]
    refine R_imul rfl ?_
    rw [hmz]
    refine R_iadd rfl ?_
    refine R_iaload rfl (Or.inl (by omega)) m0 ⟨by omega, by omega, by omega⟩ ?_
    rw [hwl]
    refine R_istore (lv' := [_, _, _, _, _, _, _, _, _]) rfl rfl ?_
    refine R_iload rfl rfl ?_
    refine R_ifeq rfl ⟨by omega, by omega⟩ (fun c65 => ?_) (fun c65 => ?_)
    · have hp : pF2 G true c j i = true := by
        unfold pF2
        rw [decide_eq_true (by omega)]
        rfl
      refine R_iconst rfl ?_
      refine R_goto rfl ?_
      refine R_istore (lv' := [_, _, _, _, _, _, _, _, _]) rfl rfl ?_
      refine R_iinc (lv' := [_, _, _, _, _, _, _, _, _]) rfl rfl rfl ?_
      refine R_goto rfl ?_
      exact ih r (by omega) (i + 1) _ _ (by omega) (by omega) (fun z hz => hQ z (hz.trans (congrArg bI (al_skip (p := pF2 G true c j) hp))))
    · refine R_iload rfl rfl ?_
      refine R_aload rfl rfl ?_
      refine R_iconst rfl ?_
      refine R_iload_n rfl rfl ?_
      refine R_imul rfl ?_
      refine R_iconst rfl ?_
      refine R_iadd rfl ?_
      refine R_iload rfl rfl ?_
      refine R_iadd rfl ?_
      refine R_iaload rfl (Or.inl (by omega)) mv ⟨by omega, by omega, by omega⟩ ?_
      rw [hvl]
      refine R_icmpne rfl ⟨by omega, by omega⟩ ⟨by omega, by omega⟩ (fun c81 => ?_) (fun c81 => ?_)
      · have hp : pF2 G true c j i = false := by
          unfold pF2
          rw [decide_eq_false c65, decide_eq_false c81]
          rfl
        refine R_iconst rfl ?_
        refine R_istore (lv' := [_, _, _, _, _, _, _, _, _]) rfl rfl ?_
        refine R_iinc (lv' := [_, _, _, _, _, _, _, _, _]) rfl rfl rfl ?_
        refine R_goto rfl ?_
        exact ft0_1 ⟨by omega, by omega⟩ ⟨by omega, by omega⟩ (fun z hz => hQ z (hz.trans (congrArg bI (al_hit (p := pF2 G true c j) hp))))
      · have hp : pF2 G true c j i = true := by
          unfold pF2
          rw [decide_eq_true (show qL G (c + i * sp G true) = qWl G j i by omega), Bool.or_true]
        refine R_iconst rfl ?_
        refine R_goto rfl ?_
        refine R_istore (lv' := [_, _, _, _, _, _, _, _, _]) rfl rfl ?_
        refine R_iinc (lv' := [_, _, _, _, _, _, _, _, _]) rfl rfl rfl ?_
        refine R_goto rfl ?_
        exact ih r (by omega) (i + 1) _ _ (by omega) (by omega) (fun z hz => hQ z (hz.trans (congrArg bI (al_skip (p := pF2 G true c j) hp))))
set_option maxRecDepth 20000 in
theorem fits_1 {d N : Nat} {h : AH} {G : Gr} {Q : AQ} (hZ : isW h G) (hV : isWo h G) (hG : sm4 G) (hN : 126 ≤ N) {c j : Nat} (hc : c < qM G) (hj : j < qW G) (hs : st G true c = true) (hQ : ∀ z : Int, z = bI (fi2 G true c j) → Q (.inl (some (vI z))) h N) : T (d + 3) 242 [vI 1, vI (c : Int), vI (j : Int), vR 122, vR 123] h N Q := by
  obtain ⟨w, m0, hw0, hw1, wL, wE, wS⟩ := id hZ
  have r0 : w (0 : Int).toNat = (qR G : Int) := hw0
  have r1 : w (1 : Int).toNat = (qC G : Int) := hw1
  have hm16 := sm4_m hG
  obtain ⟨hO, hR4, hC4⟩ := id hG
  obtain ⟨hm4, hm36⟩ := hO.m
  obtain ⟨⟨hr2, hr6⟩, ⟨hc2, hc6⟩, gL, gB, gW, gWn, gWl, gN, gNl⟩ := id hO
  obtain ⟨hw4, v, mv, hv⟩ := id hV
  have hv4 : v ((4 : Int) * (j : Int)).toNat = (qWn G j : Int) := by
    rw [show ((4 : Int) * (j : Int)).toNat = 4 * j by omega]
    exact (hv j hj).1
  have hj3 := (hv j hj).2.1
  have hl1 := (ln_spec hO (b := true) hc).2.2
  refine T_body (I := mi_L_fits) (lv := [_, _, _, _, _, _, _, _, _]) rfl (Nat.le_of_ble_eq_true rfl) rfl ?_
  refine R_iload_n rfl rfl ?_
  refine R_iload_n rfl rfl ?_
  refine R_aload_n rfl rfl ?_
  refine R_scall rfl rfl ⟨Nat.le_of_ble_eq_true rfl, Nat.le_of_ble_eq_true rfl, Nat.zero_le _, Nat.zero_le _⟩ (length_T (b := true) (c := c) hZ hG hN rfl rfl hc (fun z3 hz3 => aRes_i (rest := []) ?_))
  have hle : lnC G true c = ln G true c := lnC_st hO hc (rs_stop (st_iff.mp hs).2)
  rw [hle] at hz3
  subst hz3
  refine R_istore (lv' := [_, _, _, _, _, _, _, _, _]) rfl rfl ?_
  refine R_aload rfl rfl ?_
  refine R_iconst rfl ?_
  refine R_iload_n rfl rfl ?_
  refine R_imul rfl ?_
  refine R_iaload rfl (Or.inl (by omega)) mv ⟨by omega, by omega, by omega⟩ ?_
  rw [hv4]
  refine R_iload rfl rfl ?_
  refine R_icmpne rfl ⟨by omega, by omega⟩ ⟨by omega, by omega⟩ (fun c16 => ?_) (fun c16 => ?_)
  · refine R_iconst rfl ?_
    refine R_istore (lv' := [_, _, _, _, _, _, _, _, _]) rfl rfl ?_
    refine R_iconst rfl ?_
    refine R_istore (lv' := [_, _, _, _, _, _, _, _, _]) rfl rfl ?_
    exact ft0_1 ⟨by omega, by omega⟩ ⟨by decide, by decide⟩ (fun z hz => hQ z (by rw [hz]; unfold fi2; rw [decide_eq_false (show ¬ ln G true c = qWn G j by omega)]; rfl))
  · refine R_iconst rfl ?_
    refine R_goto rfl ?_
    refine R_istore (lv' := [_, _, _, _, _, _, _, _, _]) rfl rfl ?_
    refine R_iconst rfl ?_
    refine R_istore (lv' := [_, _, _, _, _, _, _, _, _]) rfl rfl ?_
    exact ft_1 hZ hV hG hN hc hj (by omega) (ln G true c) 0 _ _ (Nat.zero_add _) rfl (fun z hz => hQ z (by rw [hz]; unfold fi2; rw [decide_eq_true (show ln G true c = qWn G j by omega)]; rfl))
theorem fits_L {d N : Nat} {h : AH} {G : Gr} {Q : AQ} (hZ : isW h G) (hV : isWo h G) (hG : sm4 G) (hN : 126 ≤ N) {c j : Nat} {b : Bool} {zb zc zj : Int} (hc : c < qM G) (hj : j < qW G) (hzb : zb = bI b) (hzc : zc = c) (hzj : zj = j) (hs : st G b c = true) (hQ : ∀ z : Int, z = bI (fi2 G b c j) → Q (.inl (some (vI z))) h N) : T (d + 3) 242 [vI zb, vI zc, vI zj, vR 122, vR 123] h N Q := by
  subst hzb
  subst hzc
  subst hzj
  cases b
  · exact fits_0 hZ hV hG hN hc hj hs hQ
  · exact fits_1 hZ hV hG hN hc hj hs hQ
/-- is this way one, from the entry behind ch on? -/
def okS (G : Gr) : Nat → List Nat → Nat → Bool
  | 0, _, _ => true
  | r + 1, ch, way => okF G ch (way % qW G) && okS G r (ch ++ [way % qW G]) (way / qW G)
theorem ct_sm {p : Nat → Bool} : ∀ r i, ctF p r i = smF (fun x => tn (p x)) r i
  | 0, _ => rfl
  | r + 1, i => by
    show tn (p i) + ctF p r (i + 1) = tn (p i) + smF _ r (i + 1)
    rw [ct_sm r (i + 1)]
theorem sm_app {g : Nat → Nat} : ∀ r s i, smF g (r + s) i = smF g r i + smF g s (i + r)
  | 0, s, i => by rw [Nat.zero_add, Nat.add_zero]; exact (Nat.zero_add _).symm
  | r + 1, s, i => by
    rw [show r + 1 + s = (r + s) + 1 by omega]
    show g i + smF g (r + s) (i + 1) = (g i + smF g r (i + 1)) + smF g s (i + (r + 1))
    rw [sm_app r s (i + 1), show i + 1 + r = i + (r + 1) by omega]
    omega
theorem sm_sh {g : Nat → Nat} {x : Nat} : ∀ r y, smF g r (x + y) = smF (fun q => g (x + q)) r y
  | 0, _ => rfl
  | r + 1, y => by
    show g (x + y) + smF g r (x + y + 1) = g (x + y) + smF (fun q => g (x + q)) r (y + 1)
    rw [← sm_sh r (y + 1)]
    rfl
theorem sm_mul {g : Nat → Nat} {m : Nat} : ∀ n i, smF g (n * m) (i * m) = smF (fun c => smF (fun q => g (c * m + q)) m 0) n i
  | 0, i => by
    rw [Nat.zero_mul]
    rfl
  | n + 1, i => by
    have e1 : (n + 1) * m = m + n * m := by rw [Nat.add_mul, Nat.one_mul, Nat.add_comm]
    have e2 : i * m + m = (i + 1) * m := by rw [Nat.add_mul, Nat.one_mul]
    rw [e1, sm_app, e2, sm_mul n (i + 1)]
    show _ = smF (fun q => g (i * m + q)) m 0 + _
    rw [← sm_sh m 0]
    rfl
theorem sm_cong {g g' : Nat → Nat} : ∀ r i, (∀ j, i ≤ j → j < i + r → g j = g' j) → smF g r i = smF g' r i
  | 0, _, _ => rfl
  | r + 1, i, h => by
    show g i + smF g r (i + 1) = g' i + smF g' r (i + 1)
    rw [h i (Nat.le_refl _) (by omega), sm_cong r (i + 1) (fun j h1 h2 => h j (by omega) (by omega))]
theorem sm_add {g g' : Nat → Nat} : ∀ r i, smF (fun x => g x + g' x) r i = smF g r i + smF g' r i
  | 0, _ => rfl
  | r + 1, i => by
    show g i + g' i + smF _ r (i + 1) = (g i + smF g r (i + 1)) + (g' i + smF g' r (i + 1))
    rw [sm_add r (i + 1)]
    omega
theorem sm_zero : ∀ r i, smF (fun _ => 0) r i = 0
  | 0, _ => rfl
  | r + 1, i => by
    show 0 + smF _ r (i + 1) = 0
    rw [sm_zero r (i + 1)]
theorem sm_swap {g : Nat → Nat → Nat} {B y : Nat} : ∀ A x, smF (fun q => smF (fun w => g q w) B y) A x = smF (fun w => smF (fun q => g q w) A x) B y
  | 0, x => (sm_zero B y).symm
  | A + 1, x => by
    show smF (fun w => g x w) B y + smF (fun q => smF (fun w => g q w) B y) A (x + 1) = smF (fun w => g x w + smF (fun q => g q w) A (x + 1)) B y
    rw [sm_swap A (x + 1), ← sm_add]
theorem fl_law {G : Gr} (hw : 0 < qW G) : ∀ (r : Nat) (ch : List Nat), smF (fun way => tn (okS G r ch way)) (qW G ^ r) 0 = flF G r ch
  | 0, ch => rfl
  | r + 1, ch => by
    have h0 := sm_mul (g := fun way => tn (okS G (r + 1) ch way)) (m := qW G) (qW G ^ r) 0
    rw [Nat.zero_mul] at h0
    rw [Nat.pow_succ, h0]
    have h1 : smF (fun c => smF (fun q => tn (okS G (r + 1) ch (c * qW G + q))) (qW G) 0) (qW G ^ r) 0 = smF (fun c => smF (fun q => (fun c q => if okF G ch q = true then tn (okS G r (ch ++ [q]) c) else 0) c q) (qW G) 0) (qW G ^ r) 0 := by
      refine sm_cong _ _ (fun c _ _ => sm_cong _ _ (fun q _ hq => ?_))
      have e1 : (c * qW G + q) % qW G = q := by
        rw [Nat.add_comm, Nat.add_mul_mod_self_right, Nat.mod_eq_of_lt (by omega)]
      have e2 : (c * qW G + q) / qW G = c := by
        rw [Nat.add_comm, Nat.add_mul_div_right _ _ hw, Nat.div_eq_of_lt (by omega), Nat.zero_add]
      show tn (okF G ch ((c * qW G + q) % qW G) && okS G r (ch ++ [(c * qW G + q) % qW G]) ((c * qW G + q) / qW G)) = _
      rw [e1, e2]
      show tn (okF G ch q && okS G r (ch ++ [q]) c) = if okF G ch q = true then tn (okS G r (ch ++ [q]) c) else 0
      cases okF G ch q <;> rfl
    rw [h1, sm_swap]
    refine sm_cong _ _ (fun q _ _ => ?_)
    show smF (fun c => if okF G ch q = true then tn (okS G r (ch ++ [q]) c) else 0) (qW G ^ r) 0 = if okF G ch q = true then flF G r (ch ++ [q]) else 0
    by_cases hq : okF G ch q = true
    · rw [if_pos hq, ← fl_law hw r (ch ++ [q])]
      exact sm_cong _ _ (fun c _ _ => if_pos hq)
    · rw [if_neg hq]
      exact (sm_cong _ _ (fun c _ _ => if_neg hq)).trans (sm_zero _ _)
theorem cel_acr {G : Gr} (hG : okG G) {e i : Nat} (he : e < nE G) (hi : i < eN G e) : acr G (eB G e) (cel G e i) = (e : Nat) := by
  obtain ⟨h1, h2, h3⟩ := eST he
  obtain ⟨h4, h5⟩ := (run_iff hG h2).mpr ⟨i, hi, rfl⟩
  unfold acr
  rw [if_pos (show inE G (eB G e) (cel G e i) = true from h4), show rs G (eB G e) (cel G e i) = eC G e from h5, ← h3]
/-- the letters that the words of the first entries lay -/
def isOv (G : Gr) (ch : List Nat) (g : Nat → Int) : Prop := ∀ x, x < qM G → (∀ (b : Bool) (n w : Nat), acr G b x = (n : Nat) → ch[n]? = some w → g x = qWl G w (ixF G n x)) ∧ ((∀ (b : Bool) (n : Nat), acr G b x = (n : Nat) → ch.length ≤ n) → g x = 0)
theorem isOv_0 {G : Gr} : isOv G [] (fun _ => 0) := fun x hx => ⟨fun b n w _ h => by simp at h, fun _ => rfl⟩
/-- a cell that the next entry has, before it is laid -/
theorem ov_cell {G : Gr} (hG : okG G) {ch : List Nat} {g : Nat → Int} (ho : isOv G ch g) (hoc : okc G ch) (he : ch.length < nE G) {i w : Nat} (hi : i < eN G ch.length) (hwl : ¬ qWl G w i = 0) : (g (cel G ch.length i) = 0 ∨ isLet (g (cel G ch.length i))) ∧ ((decide (g (cel G ch.length i) = 0) || decide (g (cel G ch.length i) = qWl G w i)) = pAg G ch w i) := by
  have hx := cel_lt hG he hi
  have hs := cel_acr hG he hi
  obtain ⟨o1, o2⟩ := ho _ hx
  unfold pAg
  by_cases hc : 0 ≤ acr G (!eB G ch.length) (cel G ch.length i) ∧ acr G (!eB G ch.length) (cel G ch.length i) < ch.length
  · rw [if_pos hc]
    obtain ⟨n, hn⟩ : ∃ n : Nat, acr G (!eB G ch.length) (cel G ch.length i) = (n : Nat) := ⟨_, (Int.toNat_of_nonneg hc.1).symm⟩
    have hnl : n < ch.length := by omega
    have hg := o1 _ n ch[n] hn (List.getElem?_eq_getElem hnl)
    obtain ⟨a1, a2, j, a3, a4⟩ := acr_cel hG hx hn
    obtain ⟨b1, b2⟩ := hoc n ch[n] (List.getElem?_eq_getElem hnl)
    have hlt : isLet (g (cel G ch.length i)) := by
      rw [hg]
      have e : ixF G n (cel G ch.length i) = j := by
        rw [a4]
        exact ix_cel hG
      rw [e]
      exact hG.2.2.2.2.2.2.1 _ _ b1 (by omega)
    refine ⟨Or.inr hlt, ?_⟩
    rw [hn]
    have e2 : ((n : Nat) : Int).toNat = n := rfl
    have e3 : ch.getD n 0 = ch[n] := by
      rw [List.getD_eq_getElem?_getD, List.getElem?_eq_getElem hnl]
      rfl
    rw [e2, e3, ← hg, decide_eq_false (show ¬ g (cel G ch.length i) = 0 by have := hlt.1; omega), Bool.false_or]
  · rw [if_neg hc]
    have hz : g (cel G ch.length i) = 0 := o2 (fun b n hn => by
      cases hb : decide (b = eB G ch.length) with
      | true =>
        rw [of_decide_eq_true hb] at hn
        omega
      | false =>
        have hb2 : b = !eB G ch.length := by
          have := of_decide_eq_false hb
          cases b <;> cases hq : eB G ch.length <;> rw [hq] at this <;> first | rfl | exact absurd rfl this
        rw [hb2] at hn
        omega)
    refine ⟨Or.inl hz, ?_⟩
    rw [decide_eq_true hz]
    rfl
theorem ov_next {G : Gr} (hG : okG G) {ch : List Nat} {g g1 : Nat → Int} {w : Nat} (ho : isOv G ch g) (he : ch.length < nE G) (hag : agG G ch w = true) (hoc : okc G ch) (hwn : ∀ i, i < eN G ch.length → ¬ qWl G w i = 0) (h1 : ∀ i, i < eN G ch.length → g1 (cel G ch.length i) = qWl G w i) (h2 : ∀ x, (∀ i, i < eN G ch.length → x ≠ cel G ch.length i) → g1 x = g x) : isOv G (ch ++ [w]) g1 := by
  intro x hx
  obtain ⟨o1, o2⟩ := ho x hx
  refine ⟨fun b n v hn hv => ?_, fun hno => ?_⟩
  · have hnl : n < (ch ++ [w]).length := (List.getElem?_eq_some_iff.mp hv).1
    rw [List.length_append, show [w].length = 1 from rfl] at hnl
    obtain ⟨a1, a2, j, a3, a4⟩ := acr_cel hG hx hn
    rcases Nat.lt_or_ge n ch.length with q | q
    · rw [List.getElem?_append_left q] at hv
      have hg := o1 b n v hn hv
      by_cases hc : ∃ i, i < eN G ch.length ∧ x = cel G ch.length i
      · obtain ⟨i, hi, rfl⟩ := hc
        rw [h1 i hi]
        have hk := (ov_cell hG ho hoc he hi (hwn i hi)).2
        have hp := (al_iff _ _).mp hag i (Nat.zero_le _) (by omega)
        rw [hp, hg] at hk
        have b1 := hoc n v hv
        have hlt : isLet (qWl G v (ixF G n (cel G ch.length i))) := by
          rw [show ixF G n (cel G ch.length i) = j by rw [a4]; exact ix_cel hG]
          exact hG.2.2.2.2.2.2.1 _ _ b1.1 (by omega)
        rw [decide_eq_false (show ¬ qWl G v (ixF G n (cel G ch.length i)) = 0 by have := hlt.1; omega), Bool.false_or] at hk
        exact (of_decide_eq_true hk).symm
      · rw [h2 x (fun i hi hxi => hc ⟨i, hi, hxi⟩)]
        exact hg
    · have hne : n = ch.length := by omega
      subst hne
      rw [List.getElem?_append_right (Nat.le_refl _), Nat.sub_self] at hv
      have hvw : w = v := Option.some.inj hv
      subst hvw
      rw [a4, h1 j a3, ix_cel hG]
  · rw [h2 x (fun i hi hxi => by
      have hs := cel_acr hG he hi
      rw [← hxi] at hs
      have := hno _ _ hs
      rw [List.length_append, show [w].length = 1 from rfl] at this
      omega)]
    exact o2 (fun b n hn => by
      have := hno b n hn
      rw [List.length_append, show [w].length = 1 from rfl] at this
      omega)
/-- rows of entries -/
def arrL (f g : Nat → Int) (l : List (Nat × Bool)) : Prop := ∀ (e x : Nat) (b : Bool), l[e]? = some (x, b) → f e = (x : Int) ∧ g e = bI b
theorem arrL_app {f g : Nat → Int} {l : List (Nat × Bool)} {c : Nat} {b : Bool} (h : arrL f g l) : arrL (va_up f l.length (c : Int)) (va_up g l.length (bI b)) (l ++ [(c, b)]) := by
  intro e x b2 hx
  rcases Nat.lt_or_ge e l.length with q | q
  · rw [List.getElem?_append_left q] at hx
    rw [va_up_ne _ _ (by omega), va_up_ne _ _ (by omega)]
    exact h e x b2 hx
  · have hl := (List.getElem?_eq_some_iff.mp hx).1
    rw [List.length_append, show [(c, b)].length = 1 from rfl] at hl
    have he : e = l.length := by omega
    subst he
    rw [List.getElem?_append_right (Nat.le_refl _), Nat.sub_self] at hx
    cases hx
    rw [va_up_self, va_up_self]
    exact ⟨rfl, rfl⟩
theorem cnt_2 {G : Gr} : ∀ c, cnt G c ≤ 2 * c
  | 0 => Nat.le_refl _
  | c + 1 => by
    have := cnt_2 (G := G) c
    simp only [cnt]
    cases st G false c <;> cases st G true c <;> simp only [tn] <;> omega
