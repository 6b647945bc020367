/-! ===== the law's own grid: its picture ===== -/
/-- a row of 64 numbers is the grid -/
def rwL (w : Nat → Int) (G : Gr) : Prop := w 0 = qR G ∧ w 1 = qC G ∧ (∀ c, c < qM G → w (2 + c) = qL G c) ∧ (∀ c, c < qM G → w (18 + c) = bI (qE G c)) ∧ ∀ c, c < qM G → w (34 + c) = bI (qS G c)
def isW (h : AH) (G : Gr) : Prop := ∃ w, h 122 = eI 64 w ∧ rwL w G
def sm4 (G : Gr) : Prop := okG G ∧ qR G ≤ 4 ∧ qC G ≤ 4
theorem sm4_m {G : Gr} (h : sm4 G) : qM G ≤ 16 := by
  obtain ⟨-, h1, h2⟩ := h
  exact Nat.mul_le_mul h1 h2
theorem isW_fr {h h' : AH} {G : Gr} (hW : isW h G) (he : h' 122 = h 122) : isW h' G := by
  obtain ⟨w, h1, h2⟩ := hW
  exact ⟨w, he.trans h1, h2⟩
theorem aRes_g {I : MI} {C : AC} {Q : AQ} {thr : Bool} {nx pc : Nat} {lv : AL} {rest : List AV} {h' : AH} {N N' k n : Nat} {v : AV} (hw : N' = N ∨ wfS N lv rest) (hr : Run I C Q nx lv (v :: rest) h' N' k n) : aRes I Q (Run I C Q) thr nx pc lv rest N k n (.inl (some v)) h' N' := ⟨hw, hr⟩
theorem jnA {G : Gr} {y : Nat} (hy : y < qM G) : jn G false y = (decide (y % qC G + 1 < qC G) && !qE G y) := by
  show ((decide (y < qM G) && decide (y % qC G + 1 < qC G)) && !qE G y) = _
  rw [decide_eq_true hy, Bool.true_and]
theorem jnB {G : Gr} (hG : okG G) {y : Nat} (hy : y < qM G) : jn G true y = (decide (y / qC G + 1 < qR G) && !qS G y) := by
  show ((decide (y < qM G) && decide (y + qC G < qM G)) && !qS G y) = _
  rw [decide_eq_true hy, Bool.true_and]
  have hp : 0 < qC G := by have := hG.2.1.1; omega
  have he : (y + qC G) / qC G = y / qC G + 1 := Nat.add_div_right y hp
  have hi : y + qC G < qM G ↔ y / qC G + 1 < qR G := by
    rw [← he]
    exact (Nat.div_lt_iff_lt_mul hp).symm
  by_cases q : y + qC G < qM G
  · rw [decide_eq_true q, decide_eq_true (hi.mp q)]
  · rw [decide_eq_false q, decide_eq_false (fun z => q (hi.mpr z))]
theorem pjA {G : Gr} (hG : okG G) {x : Nat} (hx : x < qM G) : pj G false x = (decide (0 < x % qC G) && !qE G (x - 1)) := by
  have hc := hG.2.1.1
  show (decide (1 ≤ x) && jn G false (x - 1)) = _
  by_cases q : 1 ≤ x
  · rw [decide_eq_true q, Bool.true_and, jnA (by omega)]
    obtain ⟨y, rfl⟩ : ∃ y, x = y + 1 := ⟨x - 1, by omega⟩
    rw [Nat.add_sub_cancel]
    have hm := Nat.mod_lt y (show 0 < qC G by omega)
    have e : (y + 1) % qC G = if y % qC G + 1 < qC G then y % qC G + 1 else 0 := by
      rw [Nat.add_mod, Nat.mod_eq_of_lt (show 1 < qC G by omega)]
      by_cases k : y % qC G + 1 < qC G
      · rw [if_pos k, Nat.mod_eq_of_lt k]
      · rw [if_neg k, show y % qC G + 1 = qC G by omega, Nat.mod_self]
    by_cases k : y % qC G + 1 < qC G
    · rw [e, if_pos k, decide_eq_true k, decide_eq_true (by omega)]
    · rw [e, if_neg k, decide_eq_false k, decide_eq_false (by omega)]
  · have : x = 0 := by omega
    subst this
    rw [Nat.zero_mod]
    rfl
theorem pjB {G : Gr} (hG : okG G) {x : Nat} (hx : x < qM G) : pj G true x = (decide (qC G ≤ x) && !qS G (x - qC G)) := by
  have hc := hG.2.1.1
  show (decide (qC G ≤ x) && jn G true (x - qC G)) = _
  by_cases q : qC G ≤ x
  · rw [decide_eq_true q, Bool.true_and, Bool.true_and]
    show ((decide (x - qC G < qM G) && decide (x - qC G + qC G < qM G)) && !qS G (x - qC G)) = _
    rw [decide_eq_true (show x - qC G < qM G by omega), decide_eq_true (show x - qC G + qC G < qM G by omega)]
    rfl
  · rw [decide_eq_false q]
    rfl
theorem rs_stop {G : Gr} {b : Bool} {x : Nat} (h : pj G b x = false) : rs G b x = x := by
  unfold rs
  simp only [rsF]
  rw [if_neg (by rw [h]; decide)]
theorem rs_step {G : Gr} (hG : okG G) {b : Bool} {x : Nat} (h : pj G b x = true) : rs G b x = rs G b (x - sp G b) := by
  obtain ⟨y, rfl, hy⟩ := pj_ex h
  rw [Nat.add_sub_cancel]
  have hn := pos_next hG (jn_qP hy)
  obtain ⟨i, h1, h2, h3⟩ := rs_spec hG (b := b) hn.1
  have hrl := rs_le hG (b := b) hn.1
  have hc : chain G b (rs G b y) (i + 1) := fun j hj => by
    rcases Nat.lt_or_ge j i with q | q
    · exact h2 j q
    · rw [show j = i by omega, ← h1]
      exact hy
  have h4 := chain_pos hG (c := rs G b y) (by omega) (i + 1) hc
  have h5 := pos_lt hG (b := b) h4.1
  have h6 := (lim6 hG b).2
  have h7 := rsF_chain h3 (i + 1) 6 (by omega) hc
  rw [step_eq, ← h1] at h7
  exact h7
/-- how long the run is that a cell is in -/
def lnC (G : Gr) (b : Bool) (c : Nat) : Nat := ln G b (rs G b c)
theorem lnC_2 {G : Gr} (hG : okG G) {b : Bool} {c : Nat} (hc : c < qM G) : 2 ≤ lnC G b c ↔ inE G b c = true := by
  have hrl := rs_le hG (b := b) hc
  have hl := ln_spec hG (b := b) (show rs G b c < qM G by omega)
  constructor
  · intro h
    have hj : jn G b (rs G b c) = true := by
      have := hl.1 0 (by unfold lnC at h; omega)
      rw [Nat.zero_mul, Nat.add_zero] at this
      exact this
    obtain ⟨i, h1, h2, h3⟩ := rs_spec hG (b := b) hc
    unfold inE
    match i, h1, h2 with
    | 0, h1, _ =>
      rw [Nat.zero_mul, Nat.add_zero] at h1
      rw [h1, hj]
      rfl
    | i + 1, h1, h2 =>
      have h4 := pj_of (h2 i (by omega))
      rw [← step_eq, ← h1] at h4
      rw [h4, Bool.or_true]
  · intro h
    have hj := (st_iff.mp (rs_st hG h)).1
    have h2 := hl.2.1
    rcases Nat.lt_or_ge (lnC G b c) 2 with q | q
    · have h3 := hl.2.2.1
      have e : ln G b (rs G b c) - 1 = 0 := by unfold lnC at q; omega
      rw [e, Nat.zero_mul, Nat.add_zero, hj] at h2
      cases h2
    · exact q
theorem lnC_b {G : Gr} (hG : okG G) {b : Bool} {c : Nat} (hc : c < qM G) : 1 ≤ lnC G b c ∧ lnC G b c ≤ 6 ∧ rs G b c + (lnC G b c - 1) * sp G b < qM G := by
  have hrl := rs_le hG (b := b) hc
  have hl := ln_spec hG (b := b) (show rs G b c < qM G by omega)
  exact ⟨hl.2.2.1, hl.2.2.2, (chain_pos hG (by omega) _ hl.1).1⟩
theorem st_L {G : Gr} (hG : okG G) {b : Bool} {c : Nat} (hc : c < qM G) : st G b c = true ↔ rs G b c = c ∧ 2 ≤ lnC G b c := by
  constructor
  · intro h
    obtain ⟨h1, h2⟩ := st_iff.mp h
    refine ⟨rs_stop h2, (lnC_2 hG hc).mpr ?_⟩
    unfold inE
    rw [h1]
    rfl
  · rintro ⟨h1, h2⟩
    have := rs_st hG ((lnC_2 hG hc).mp h2)
    rw [h1] at this
    exact this
theorem lnC_st {G : Gr} (hG : okG G) {b : Bool} {c : Nat} (hc : c < qM G) (h : rs G b c = c) : lnC G b c = ln G b c := by
  unfold lnC
  rw [h]
def lowI (v : Int) (n : Int) : Int := (iI v &&& iI 2147483647).toInt % n
theorem land_b (v : Int) : 0 ≤ (iI v &&& iI 2147483647).toInt ∧ (iI v &&& iI 2147483647).toInt < 2147483648 := by
  have h2 := Int32.toInt_lt (iI v &&& iI 2147483647)
  refine ⟨?_, h2⟩
  have hm : ((iI v).toBitVec &&& (iI 2147483647).toBitVec).msb = false := by
    rw [BitVec.msb_and]
    have : (iI 2147483647).toBitVec.msb = false := by decide
    rw [this, Bool.and_false]
  rw [← Int32.toInt_toBitVec, Int32.toBitVec_and, BitVec.toInt_eq_toNat_of_msb hm]
  exact Int.natCast_nonneg _
theorem land_0 (v : Int) : 0 ≤ (iI v &&& iI 2147483647).toInt := (land_b v).1
theorem land_1 (v : Int) : (iI v &&& iI 2147483647).toInt < 2147483648 := (land_b v).2
theorem lowI_b (v : Int) {n : Int} (hn : 0 < n) : 0 ≤ lowI v n ∧ lowI v n < n := ⟨Int.emod_nonneg _ (by omega), Int.emod_lt_of_pos _ hn⟩
theorem low_T {d N : Nat} {h : AH} {Q : AQ} {v n : Int} (hn : 0 < n ∧ n < 2147483648) (hQ : ∀ z : Int, z = lowI v n → Q (.inl (some (vI z))) h N) : T (d + 1) 231 [vI v, vI n] h N Q := by
  obtain ⟨hn1, hn2⟩ := hn
  refine T_body (I := mi_L_low) (lv := [_, _]) rfl (Nat.le_of_ble_eq_true rfl) rfl ?_
  refine R_iload_n rfl rfl ?_
  refine R_ldc rfl rfl ?_
  refine R_iand rfl ?_
  refine R_iload_n rfl rfl ?_
  refine R_irem rfl ⟨land_0 _, land_1 _, by omega, by omega⟩ ?_
  exact R_ireturn rfl (fun q => absurd q (by decide)) (Nat.zero_le _) (Nat.zero_le _) (hQ _ rfl)
theorem cell_L {d N L : Nat} {h : AH} {Q : AQ} {xs : Nat → Int} {k : Int} (hs : h aRO = eI L xs) (hL : L < 1000) (hk : 0 ≤ k ∧ k < 1000) (hQ : ∀ z : Int, Q (.inl (some (vI z))) h N) : T (d + 1) 230 [vR aRO, vI k] h N Q := by
  obtain ⟨hk1, hk2⟩ := hk
  refine T_body (I := mi_L_cell) (lv := [_, _]) rfl (Nat.le_of_ble_eq_true rfl) rfl ?_
  refine R_iload_n rfl rfl ?_
  refine R_aload_n rfl rfl ?_
  refine R_alen rfl (Or.inr (Or.inl rfl)) hs ?_
  refine R_icmpge rfl ⟨by omega, by omega⟩ ⟨by omega, by omega⟩ (fun c3 => ?_) (fun c3 => ?_)
  · refine R_ldc rfl rfl ?_
    refine R_iload_n rfl rfl ?_
    refine R_iconst rfl ?_
    refine R_iadd rfl ?_
    refine R_imul rfl ?_
    refine R_ldc rfl rfl ?_
    refine R_iadd rfl ?_
    exact R_ireturn rfl (fun q => absurd q (by decide)) (Nat.zero_le _) (Nat.zero_le _) (hQ _)
  · refine R_aload_n rfl rfl ?_
    refine R_iload_n rfl rfl ?_
    refine R_iaload rfl (Or.inr (Or.inl rfl)) hs ⟨by omega, by omega, by omega⟩ ?_
    refine R_goto rfl ?_
    exact R_ireturn rfl (fun q => absurd q (by decide)) (Nat.zero_le _) (Nat.zero_le _) (hQ _)
theorem fiA_loop {d N : Nat} {h : AH} {G : Gr} {Q : AQ} (hZ : isW h G) (hG : sm4 G) (hN : 126 ≤ N) {zc : Int} : ∀ (x : Nat) (zx : Int), zx = x → x < qM G → (∀ (y : Nat) (zy : Int), zy = y → y = rs G false x → Run mi_L_first (T d) Q 31 [some (vI 0), some (vI zc), some (vR 122), some (vI zy)] [] h N 0 0) → Run mi_L_first (T d) Q 6 [some (vI 0), some (vI zc), some (vR 122), some (vI zx)] [] h N 0 0 := by
  obtain ⟨w, m0, hw0, hw1, wL, wE, wS⟩ := id hZ
  have r0 : w (0 : Int).toNat = (qR G : Int) := hw0
  have r1 : w (1 : Int).toNat = (qC G : Int) := hw1
  have hm16 := sm4_m hG
  obtain ⟨hO, hR4, hC4⟩ := id hG
  obtain ⟨hm4, hm36⟩ := hO.m
  obtain ⟨⟨hr2, hr6⟩, ⟨hc2, hc6⟩, gL, gB, gW, gWn, gWl, gN, gNl⟩ := id hO
  intro x
  induction x using Nat.strongRecOn with
  | ind x ih =>
  intro zx hzx hx k
  subst hzx
  have hpj := pjA hO (x := x) hx
  have hmd : (x : Int) % (qC G : Int) = ((x % qC G : Nat) : Int) := rfl
  have hml := Nat.mod_lt x (show 0 < qC G by omega)
  refine R_iload_n rfl rfl ?_
  refine R_aload_n rfl rfl ?_
  refine R_iconst rfl ?_
  refine R_iaload rfl (Or.inl (by omega)) m0 ⟨by omega, by omega, by omega⟩ ?_
  rw [r1]
  refine R_irem rfl ⟨by omega, by omega, by omega, by omega⟩ ?_
  rw [hmd]
  refine R_ifle rfl ⟨by omega, by omega⟩ (fun c11 => ?_) (fun c11 => ?_)
  · have hp : pj G false x = false := by
      rw [hpj, decide_eq_false (by omega)]
      rfl
    exact k x _ rfl (rs_stop hp).symm
  · have hx1 : 1 ≤ x := by
      rcases Nat.eq_zero_or_pos x with q | q
      · rw [q, Nat.zero_mod] at c11
        omega
      · exact q
    have hB9 : w ((18 : Int) + (x : Int) - 1).toNat = bI (qE G (x - 1)) := by
      rw [show ((18 : Int) + (x : Int) - 1).toNat = 18 + (x - 1) by omega]
      exact wE _ (by omega)
    have hB1 := bI01 (qE G (x - 1))
    rw [← hB9] at hB1
    refine R_aload_n rfl rfl ?_
    refine R_bipush rfl ?_
    refine R_iload_n rfl rfl ?_
    refine R_iadd rfl ?_
    refine R_iconst rfl ?_
    refine R_isub rfl ?_
    refine R_iaload rfl (Or.inl (by omega)) m0 ⟨by omega, by omega, by omega⟩ ?_
    refine R_ifne rfl ⟨by omega, by omega⟩ (fun c22 => ?_) (fun c22 => ?_)
    · have hp : pj G false x = false := by
        rw [hpj, bI_t hB9 c22]
        simp
      exact k x _ rfl (rs_stop hp).symm
    · have hp : pj G false x = true := by
        rw [hpj, bI_f hB9 (by omega), decide_eq_true (by omega)]
        rfl
      refine R_iinc (lv' := [_, _, _, _]) rfl rfl rfl ?_
      refine R_goto rfl ?_
      exact ih (x - 1) (by omega) _ (by omega) (by omega) (fun y zy hzy hy => k y zy hzy (hy.trans (rs_step hO hp).symm))
theorem fiB_loop {d N : Nat} {h : AH} {G : Gr} {Q : AQ} (hZ : isW h G) (hG : sm4 G) (hN : 126 ≤ N) {zc : Int} : ∀ (x : Nat) (zx : Int), zx = x → x < qM G → (∀ (y : Nat) (zy : Int), zy = y → y = rs G true x → Run mi_L_first (T d) Q 65 [some (vI 1), some (vI zc), some (vR 122), some (vI zy)] [] h N 0 0) → Run mi_L_first (T d) Q 36 [some (vI 1), some (vI zc), some (vR 122), some (vI zx)] [] h N 0 0 := by
  obtain ⟨w, m0, hw0, hw1, wL, wE, wS⟩ := id hZ
  have r0 : w (0 : Int).toNat = (qR G : Int) := hw0
  have r1 : w (1 : Int).toNat = (qC G : Int) := hw1
  have hm16 := sm4_m hG
  obtain ⟨hO, hR4, hC4⟩ := id hG
  obtain ⟨hm4, hm36⟩ := hO.m
  obtain ⟨⟨hr2, hr6⟩, ⟨hc2, hc6⟩, gL, gB, gW, gWn, gWl, gN, gNl⟩ := id hO
  intro x
  induction x using Nat.strongRecOn with
  | ind x ih =>
  intro zx hzx hx k
  subst hzx
  have hpj := pjB hO (x := x) hx
  refine R_iload_n rfl rfl ?_
  refine R_aload_n rfl rfl ?_
  refine R_iconst rfl ?_
  refine R_iaload rfl (Or.inl (by omega)) m0 ⟨by omega, by omega, by omega⟩ ?_
  rw [r1]
  refine R_icmplt rfl ⟨by omega, by omega⟩ ⟨by omega, by omega⟩ (fun c40 => ?_) (fun c40 => ?_)
  · have hp : pj G true x = false := by
      rw [hpj, decide_eq_false (by omega)]
      rfl
    exact k x _ rfl (rs_stop hp).symm
  · have hB9 : w ((34 : Int) + (x : Int) - (qC G : Int)).toNat = bI (qS G (x - qC G)) := by
      rw [show ((34 : Int) + (x : Int) - (qC G : Int)).toNat = 34 + (x - qC G) by omega]
      exact wS _ (by omega)
    have hB1 := bI01 (qS G (x - qC G))
    rw [← hB9] at hB1
    refine R_aload_n rfl rfl ?_
    refine R_bipush rfl ?_
    refine R_iload_n rfl rfl ?_
    refine R_iadd rfl ?_
    refine R_aload_n rfl rfl ?_
    refine R_iconst rfl ?_
    refine R_iaload rfl (Or.inl (by omega)) m0 ⟨by omega, by omega, by omega⟩ ?_
    rw [r1]
    refine R_isub rfl ?_
    refine R_iaload rfl (Or.inl (by omega)) m0 ⟨by omega, by omega, by omega⟩ ?_
    refine R_ifne rfl ⟨by omega, by omega⟩ (fun c53 => ?_) (fun c53 => ?_)
    · have hp : pj G true x = false := by
        rw [hpj, bI_t hB9 c53]
        simp
      exact k x _ rfl (rs_stop hp).symm
    · have hp : pj G true x = true := by
        rw [hpj, bI_f hB9 (by omega), decide_eq_true (by omega)]
        rfl
      refine R_iload_n rfl rfl ?_
      refine R_aload_n rfl rfl ?_
      refine R_iconst rfl ?_
      refine R_iaload rfl (Or.inl (by omega)) m0 ⟨by omega, by omega, by omega⟩ ?_
      rw [r1]
      refine R_isub rfl ?_
      refine R_istore_n (lv' := [_, _, _, _]) rfl rfl ?_
      refine R_goto rfl ?_
      exact ih (x - qC G) (by omega) _ (by omega) (by omega) (fun y zy hzy hy => k y zy hzy (hy.trans (rs_step hO hp).symm))
theorem fiA_T {d N : Nat} {h : AH} {G : Gr} {Q : AQ} (hZ : isW h G) (hG : sm4 G) (hN : 126 ≤ N) {c : Nat} {zc : Int} (hzc : zc = c) (hc : c < qM G) (hQ : ∀ z : Int, z = (rs G false c : Nat) → Q (.inl (some (vI z))) h N) : T (d + 1) 232 [vI 0, vI zc, vR 122] h N Q := by
  obtain ⟨w, m0, hw0, hw1, wL, wE, wS⟩ := id hZ
  have r0 : w (0 : Int).toNat = (qR G : Int) := hw0
  have r1 : w (1 : Int).toNat = (qC G : Int) := hw1
  have hm16 := sm4_m hG
  obtain ⟨hO, hR4, hC4⟩ := id hG
  obtain ⟨hm4, hm36⟩ := hO.m
  obtain ⟨⟨hr2, hr6⟩, ⟨hc2, hc6⟩, gL, gB, gW, gWn, gWl, gN, gNl⟩ := id hO
  refine T_body (I := mi_L_first) (lv := [_, _, _, _]) rfl (Nat.le_of_ble_eq_true rfl) rfl ?_
  refine R_iload_n rfl rfl ?_
  refine R_istore_n (lv' := [_, _, _, _]) rfl rfl ?_
  refine R_iload_n rfl rfl ?_
  refine R_ifne rfl ⟨by decide, by decide⟩ (fun c0 => absurd c0 (by decide)) (fun _ => ?_)
  refine fiA_loop hZ hG hN c _ hzc hc (fun y zy hzy hy => ?_)
  refine R_iload_n rfl rfl ?_
  refine R_iconst rfl ?_
  refine R_icmpne rfl ⟨by decide, by decide⟩ ⟨by decide, by decide⟩ (fun _ => ?_) (fun c0 => absurd c0 (by decide))
  refine R_iload_n rfl rfl ?_
  exact R_ireturn rfl (fun q => absurd q (by decide)) (Nat.zero_le _) (Nat.zero_le _) (hQ _ (by rw [hzy, hy]))
theorem fiB_T {d N : Nat} {h : AH} {G : Gr} {Q : AQ} (hZ : isW h G) (hG : sm4 G) (hN : 126 ≤ N) {c : Nat} {zc : Int} (hzc : zc = c) (hc : c < qM G) (hQ : ∀ z : Int, z = (rs G true c : Nat) → Q (.inl (some (vI z))) h N) : T (d + 1) 232 [vI 1, vI zc, vR 122] h N Q := by
  obtain ⟨w, m0, hw0, hw1, wL, wE, wS⟩ := id hZ
  have r0 : w (0 : Int).toNat = (qR G : Int) := hw0
  have r1 : w (1 : Int).toNat = (qC G : Int) := hw1
  have hm16 := sm4_m hG
  obtain ⟨hO, hR4, hC4⟩ := id hG
  obtain ⟨hm4, hm36⟩ := hO.m
  obtain ⟨⟨hr2, hr6⟩, ⟨hc2, hc6⟩, gL, gB, gW, gWn, gWl, gN, gNl⟩ := id hO
  refine T_body (I := mi_L_first) (lv := [_, _, _, _]) rfl (Nat.le_of_ble_eq_true rfl) rfl ?_
  refine R_iload_n rfl rfl ?_
  refine R_istore_n (lv' := [_, _, _, _]) rfl rfl ?_
  refine R_iload_n rfl rfl ?_
  refine R_ifne rfl ⟨by decide, by decide⟩ (fun _ => ?_) (fun c0 => absurd c0 (by decide))
  refine R_iload_n rfl rfl ?_
  refine R_iconst rfl ?_
  refine R_icmpne rfl ⟨by decide, by decide⟩ ⟨by decide, by decide⟩ (fun c0 => absurd c0 (by decide)) (fun _ => ?_)
  refine fiB_loop hZ hG hN c _ hzc hc (fun y zy hzy hy => ?_)
  refine R_iload_n rfl rfl ?_
  exact R_ireturn rfl (fun q => absurd q (by decide)) (Nat.zero_le _) (Nat.zero_le _) (hQ _ (by rw [hzy, hy]))
theorem first_T {d N : Nat} {h : AH} {G : Gr} {Q : AQ} (hZ : isW h G) (hG : sm4 G) (hN : 126 ≤ N) {b : Bool} {zb zc : Int} {c : Nat} (hzb : zb = bI b) (hzc : zc = c) (hc : c < qM G) (hQ : ∀ z : Int, z = (rs G b c : Nat) → Q (.inl (some (vI z))) h N) : T (d + 1) 232 [vI zb, vI zc, vR 122] h N Q := by
  subst hzb
  cases b
  · exact fiA_T hZ hG hN hzc hc hQ
  · exact fiB_T hZ hG hN hzc hc hQ
theorem leA_loop {d N : Nat} {h : AH} {G : Gr} {Q : AQ} (hZ : isW h G) (hG : sm4 G) (hN : 126 ≤ N) {zc : Int} {f : Nat} (hf : f < qM G) : ∀ (r n : Nat) (zn : Int), n + r = ln G false f → 1 ≤ n → zn = n → (∀ (y : Nat) (zy : Int), zy = y → y = ln G false f → Run mi_L_length (T (d + 1)) Q 52 [some (vI 0), some (vI zc), some (vR 122), some (vI f), some (vI zy)] [] h N 0 0) → Run mi_L_length (T (d + 1)) Q 14 [some (vI 0), some (vI zc), some (vR 122), some (vI f), some (vI zn)] [] h N 0 0 := by
  obtain ⟨w, m0, hw0, hw1, wL, wE, wS⟩ := id hZ
  have r0 : w (0 : Int).toNat = (qR G : Int) := hw0
  have r1 : w (1 : Int).toNat = (qC G : Int) := hw1
  have hm16 := sm4_m hG
  obtain ⟨hO, hR4, hC4⟩ := id hG
  obtain ⟨hm4, hm36⟩ := hO.m
  obtain ⟨⟨hr2, hr6⟩, ⟨hc2, hc6⟩, gL, gB, gW, gWn, gWl, gN, gNl⟩ := id hO
  intro r
  induction r using Nat.strongRecOn with
  | ind r ih =>
  intro n zn hr hn1 hzn k
  subst hzn
  have hls := ln_spec hO (b := false) hf
  have hrj : jn G false (f + (n - 1) * sp G false) = decide (n < ln G false f) := by
    rw [run_jn hO hf (by omega), show n - 1 + 1 = n by omega]
  have hcl := run_cell hO (b := false) hf (i := n - 1) (by omega)
  have he1 : f + (n - 1) * sp G false = f + (n - 1) := by
    show f + (n - 1) * 1 = _
    rw [Nat.mul_one]
  rw [he1] at hcl
  have hjA := jnA hcl
  have hml := Nat.mod_lt (f + (n - 1)) (show 0 < qC G by omega)
  refine R_iload_n rfl rfl ?_
  refine R_iload rfl rfl ?_
  refine R_iadd rfl ?_
  refine R_iconst rfl ?_
  refine R_isub rfl ?_
  refine R_aload_n rfl rfl ?_
  refine R_iconst rfl ?_
  refine R_iaload rfl (Or.inl (by omega)) m0 ⟨by omega, by omega, by omega⟩ ?_
  rw [r1]
  refine R_irem rfl ⟨by omega, by omega, by omega, by omega⟩ ?_
  have hmd : ((f : Int) + (n : Int) - 1) % (qC G : Int) = (((f + (n - 1)) % qC G : Nat) : Int) := by
    rw [show (f : Int) + (n : Int) - 1 = ((f + (n - 1) : Nat) : Int) by omega]
    rfl
  rw [hmd]
  refine R_aload_n rfl rfl ?_
  refine R_iconst rfl ?_
  refine R_iaload rfl (Or.inl (by omega)) m0 ⟨by omega, by omega, by omega⟩ ?_
  refine R_iconst rfl ?_
  rw [r1]
  refine R_isub rfl ?_
  refine R_icmpge rfl ⟨by omega, by omega⟩ ⟨by omega, by omega⟩ (fun c29 => ?_) (fun c29 => ?_)
  · have hj : jn G false (f + (n - 1) * sp G false) = false := by
      rw [he1, hjA, decide_eq_false (by omega)]
      rfl
    exact k _ _ rfl (by rw [hrj] at hj; have := of_decide_eq_false hj; omega)
  · have hB9 : w ((18 : Int) + (f : Int) + (n : Int) - 1).toNat = bI (qE G (f + (n - 1))) := by
      rw [show ((18 : Int) + (f : Int) + (n : Int) - 1).toNat = 18 + (f + (n - 1)) by omega]
      exact wE _ hcl
    have hB1 := bI01 (qE G (f + (n - 1)))
    rw [← hB9] at hB1
    refine R_aload_n rfl rfl ?_
    refine R_bipush rfl ?_
    refine R_iload_n rfl rfl ?_
    refine R_iadd rfl ?_
    refine R_iload rfl rfl ?_
    refine R_iadd rfl ?_
    refine R_iconst rfl ?_
    refine R_isub rfl ?_
    refine R_iaload rfl (Or.inl (by omega)) m0 ⟨by omega, by omega, by omega⟩ ?_
    refine R_ifne rfl ⟨by omega, by omega⟩ (fun c43 => ?_) (fun c43 => ?_)
    · have hj : jn G false (f + (n - 1) * sp G false) = false := by
        rw [he1, hjA, bI_t hB9 c43]
        simp
      exact k _ _ rfl (by rw [hrj] at hj; have := of_decide_eq_false hj; omega)
    · have hj : jn G false (f + (n - 1) * sp G false) = true := by
        rw [he1, hjA, bI_f hB9 (by omega), decide_eq_true (by omega)]
        rfl
      refine R_iinc (lv' := [_, _, _, _, _]) rfl rfl rfl ?_
      refine R_goto rfl ?_
      rw [hrj] at hj
      have hlt9 := of_decide_eq_true hj
      exact ih (r - 1) (by omega) (n + 1) _ (by omega) (by omega) (by omega) k
theorem leB_loop {d N : Nat} {h : AH} {G : Gr} {Q : AQ} (hZ : isW h G) (hG : sm4 G) (hN : 126 ≤ N) {zc : Int} {f : Nat} (hf : f < qM G) : ∀ (r n : Nat) (zn : Int), n + r = ln G true f → 1 ≤ n → zn = n → (∀ (y : Nat) (zy : Int), zy = y → y = ln G true f → Run mi_L_length (T (d + 1)) Q 99 [some (vI 1), some (vI zc), some (vR 122), some (vI f), some (vI zy)] [] h N 0 0) → Run mi_L_length (T (d + 1)) Q 57 [some (vI 1), some (vI zc), some (vR 122), some (vI f), some (vI zn)] [] h N 0 0 := by
  obtain ⟨w, m0, hw0, hw1, wL, wE, wS⟩ := id hZ
  have r0 : w (0 : Int).toNat = (qR G : Int) := hw0
  have r1 : w (1 : Int).toNat = (qC G : Int) := hw1
  have hm16 := sm4_m hG
  obtain ⟨hO, hR4, hC4⟩ := id hG
  obtain ⟨hm4, hm36⟩ := hO.m
  obtain ⟨⟨hr2, hr6⟩, ⟨hc2, hc6⟩, gL, gB, gW, gWn, gWl, gN, gNl⟩ := id hO
  intro r
  induction r using Nat.strongRecOn with
  | ind r ih =>
  intro n zn hr hn1 hzn k
  subst hzn
  have hls := ln_spec hO (b := true) hf
  have hrj : jn G true (f + (n - 1) * sp G true) = decide (n < ln G true f) := by
    rw [run_jn hO hf (by omega), show n - 1 + 1 = n by omega]
  have hcl := run_cell hO (b := true) hf (i := n - 1) (by omega)
  have hjB := jnB hO hcl
  have hfd : f / qC G < qR G := (Nat.div_lt_iff_lt_mul (show 0 < qC G by omega)).mpr hf
  have hf0 : (0 : Int) ≤ ((f / qC G : Nat) : Int) := Int.natCast_nonneg _
  have hdv : (f + (n - 1) * sp G true) / qC G = f / qC G + (n - 1) := Nat.add_mul_div_right _ _ (show 0 < qC G by omega)
  refine R_iload_n rfl rfl ?_
  refine R_aload_n rfl rfl ?_
  refine R_iconst rfl ?_
  refine R_iaload rfl (Or.inl (by omega)) m0 ⟨by omega, by omega, by omega⟩ ?_
  rw [r1]
  refine R_idiv rfl ⟨by omega, by omega, by omega, by omega⟩ ?_
  have hmd : (f : Int) / (qC G : Int) = ((f / qC G : Nat) : Int) := rfl
  rw [hmd]
  refine R_iload rfl rfl ?_
  refine R_iadd rfl ?_
  refine R_iconst rfl ?_
  refine R_isub rfl ?_
  refine R_aload_n rfl rfl ?_
  refine R_iconst rfl ?_
  refine R_iaload rfl (Or.inl (by omega)) m0 ⟨by omega, by omega, by omega⟩ ?_
  refine R_iconst rfl ?_
  rw [r0]
  refine R_isub rfl ?_
  refine R_icmpge rfl ⟨by omega, by omega⟩ ⟨by omega, by omega⟩ (fun c72 => ?_) (fun c72 => ?_)
  · have hj : jn G true (f + (n - 1) * sp G true) = false := by
      rw [hjB, hdv, decide_eq_false (by omega)]
      rfl
    exact k _ _ rfl (by rw [hrj] at hj; have := of_decide_eq_false hj; omega)
  · have hmz : ((n : Int) - 1) * (qC G : Int) = (((n - 1) * sp G true : Nat) : Int) := by
      rw [show (n : Int) - 1 = ((n - 1 : Nat) : Int) by omega]
      rfl
    have hB9 : w ((34 : Int) + (f : Int) + (((n - 1) * sp G true : Nat) : Int)).toNat = bI (qS G (f + (n - 1) * sp G true)) := by
      rw [show ((34 : Int) + (f : Int) + (((n - 1) * sp G true : Nat) : Int)).toNat = 34 + (f + (n - 1) * sp G true) by omega]
      exact wS _ hcl
    have hB1 := bI01 (qS G (f + (n - 1) * sp G true))
    rw [← hB9] at hB1
    refine R_aload_n rfl rfl ?_
    refine R_bipush rfl ?_
    refine R_iload_n rfl rfl ?_
    refine R_iadd rfl ?_
    refine R_iload rfl rfl ?_
    refine R_iconst rfl ?_
    refine R_isub rfl ?_
    refine R_aload_n rfl rfl ?_
    refine R_iconst rfl ?_
    refine R_iaload rfl (Or.inl (by omega)) m0 ⟨by omega, by omega, by omega⟩ ?_
    rw [r1]
    refine R_imul rfl ?_
    rw [hmz]
    refine R_iadd rfl ?_
    refine R_iaload rfl (Or.inl (by omega)) m0 ⟨by omega, by omega, by omega⟩ ?_
    refine R_ifne rfl ⟨by omega, by omega⟩ (fun c90 => ?_) (fun c90 => ?_)
    · have hj : jn G true (f + (n - 1) * sp G true) = false := by
        rw [hjB, bI_t hB9 c90]
        simp
      exact k _ _ rfl (by rw [hrj] at hj; have := of_decide_eq_false hj; omega)
    · have hj : jn G true (f + (n - 1) * sp G true) = true := by
        rw [hjB, bI_f hB9 (by omega), hdv, decide_eq_true (by omega)]
        rfl
      refine R_iinc (lv' := [_, _, _, _, _]) rfl rfl rfl ?_
      refine R_goto rfl ?_
      rw [hrj] at hj
      have hlt9 := of_decide_eq_true hj
      exact ih (r - 1) (by omega) (n + 1) _ (by omega) (by omega) (by omega) k
theorem leA_T {d N : Nat} {h : AH} {G : Gr} {Q : AQ} (hZ : isW h G) (hG : sm4 G) (hN : 126 ≤ N) {c : Nat} {zc : Int} (hzc : zc = c) (hc : c < qM G) (hQ : ∀ z : Int, z = (lnC G false c : Nat) → Q (.inl (some (vI z))) h N) : T (d + 2) 233 [vI 0, vI zc, vR 122] h N Q := by
  obtain ⟨w, m0, hw0, hw1, wL, wE, wS⟩ := id hZ
  have r0 : w (0 : Int).toNat = (qR G : Int) := hw0
  have r1 : w (1 : Int).toNat = (qC G : Int) := hw1
  have hm16 := sm4_m hG
  obtain ⟨hO, hR4, hC4⟩ := id hG
  obtain ⟨hm4, hm36⟩ := hO.m
  obtain ⟨⟨hr2, hr6⟩, ⟨hc2, hc6⟩, gL, gB, gW, gWn, gWl, gN, gNl⟩ := id hO
  have hrl := rs_le hO (b := false) hc
  have hlb := lnC_b hO (b := false) hc
  have hle : lnC G false c = ln G false (rs G false c) := rfl
  refine T_body (I := mi_L_length) (lv := [_, _, _, _, _]) rfl (Nat.le_of_ble_eq_true rfl) rfl ?_
  refine R_iload_n rfl rfl ?_
  refine R_iload_n rfl rfl ?_
  refine R_aload_n rfl rfl ?_
  refine R_scall rfl rfl ⟨Nat.le_of_ble_eq_true rfl, Nat.le_of_ble_eq_true rfl, Nat.zero_le _, Nat.zero_le _⟩ (first_T (b := false) (c := c) hZ hG hN rfl hzc hc (fun z3 hz3 => aRes_i (rest := []) ?_))
  refine R_istore_n (lv' := [_, _, _, _, _]) rfl rfl ?_
  refine R_iconst rfl ?_
  refine R_istore (lv' := [_, _, _, _, _]) rfl rfl ?_
  refine R_iload_n rfl rfl ?_
  refine R_ifne rfl ⟨by decide, by decide⟩ (fun c0 => absurd c0 (by decide)) (fun _ => ?_)
  subst hz3
  refine leA_loop hZ hG hN (f := rs G false c) (by omega) (ln G false (rs G false c) - 1) 1 _ (by omega) (Nat.le_refl _) rfl (fun y zy hzy hy => ?_)
  refine R_iload_n rfl rfl ?_
  refine R_iconst rfl ?_
  refine R_icmpne rfl ⟨by decide, by decide⟩ ⟨by decide, by decide⟩ (fun _ => ?_) (fun c0 => absurd c0 (by decide))
  refine R_iload rfl rfl ?_
  exact R_ireturn rfl (fun q => absurd q (by decide)) (Nat.zero_le _) (Nat.zero_le _) (hQ _ (by rw [hzy, hy]; rfl))
theorem leB_T {d N : Nat} {h : AH} {G : Gr} {Q : AQ} (hZ : isW h G) (hG : sm4 G) (hN : 126 ≤ N) {c : Nat} {zc : Int} (hzc : zc = c) (hc : c < qM G) (hQ : ∀ z : Int, z = (lnC G true c : Nat) → Q (.inl (some (vI z))) h N) : T (d + 2) 233 [vI 1, vI zc, vR 122] h N Q := by
  obtain ⟨w, m0, hw0, hw1, wL, wE, wS⟩ := id hZ
  have r0 : w (0 : Int).toNat = (qR G : Int) := hw0
  have r1 : w (1 : Int).toNat = (qC G : Int) := hw1
  have hm16 := sm4_m hG
  obtain ⟨hO, hR4, hC4⟩ := id hG
  obtain ⟨hm4, hm36⟩ := hO.m
  obtain ⟨⟨hr2, hr6⟩, ⟨hc2, hc6⟩, gL, gB, gW, gWn, gWl, gN, gNl⟩ := id hO
  have hrl := rs_le hO (b := true) hc
  have hlb := lnC_b hO (b := true) hc
  have hle : lnC G true c = ln G true (rs G true c) := rfl
  refine T_body (I := mi_L_length) (lv := [_, _, _, _, _]) rfl (Nat.le_of_ble_eq_true rfl) rfl ?_
  refine R_iload_n rfl rfl ?_
  refine R_iload_n rfl rfl ?_
  refine R_aload_n rfl rfl ?_
  refine R_scall rfl rfl ⟨Nat.le_of_ble_eq_true rfl, Nat.le_of_ble_eq_true rfl, Nat.zero_le _, Nat.zero_le _⟩ (first_T (b := true) (c := c) hZ hG hN rfl hzc hc (fun z3 hz3 => aRes_i (rest := []) ?_))
  refine R_istore_n (lv' := [_, _, _, _, _]) rfl rfl ?_
  refine R_iconst rfl ?_
  refine R_istore (lv' := [_, _, _, _, _]) rfl rfl ?_
  refine R_iload_n rfl rfl ?_
  refine R_ifne rfl ⟨by decide, by decide⟩ (fun _ => ?_) (fun c0 => absurd c0 (by decide))
  refine R_iload_n rfl rfl ?_
  refine R_iconst rfl ?_
  refine R_icmpne rfl ⟨by decide, by decide⟩ ⟨by decide, by decide⟩ (fun c0 => absurd c0 (by decide)) (fun _ => ?_)
  subst hz3
  refine leB_loop hZ hG hN (f := rs G true c) (by omega) (ln G true (rs G true c) - 1) 1 _ (by omega) (Nat.le_refl _) rfl (fun y zy hzy hy => ?_)
  refine R_iload rfl rfl ?_
  exact R_ireturn rfl (fun q => absurd q (by decide)) (Nat.zero_le _) (Nat.zero_le _) (hQ _ (by rw [hzy, hy]; rfl))
theorem length_T {d N : Nat} {h : AH} {G : Gr} {Q : AQ} (hZ : isW h G) (hG : sm4 G) (hN : 126 ≤ N) {b : Bool} {zb zc : Int} {c : Nat} (hzb : zb = bI b) (hzc : zc = c) (hc : c < qM G) (hQ : ∀ z : Int, z = (lnC G b c : Nat) → Q (.inl (some (vI z))) h N) : T (d + 2) 233 [vI zb, vI zc, vR 122] h N Q := by
  subst hzb
  cases b
  · exact leA_T hZ hG hN hzc hc hQ
  · exact leB_T hZ hG hN hzc hc hQ
theorem starts_T {d N : Nat} {h : AH} {G : Gr} {Q : AQ} (hZ : isW h G) (hG : sm4 G) (hN : 126 ≤ N) {b : Bool} {zb zc : Int} {c : Nat} (hzb : zb = bI b) (hzc : zc = c) (hc : c < qM G) (hQ : ∀ z : Int, z = bI (st G b c) → Q (.inl (some (vI z))) h N) : T (d + 3) 234 [vI zb, vI zc, vR 122] h N Q := by
  obtain ⟨w, m0, hw0, hw1, wL, wE, wS⟩ := id hZ
  have r0 : w (0 : Int).toNat = (qR G : Int) := hw0
  have r1 : w (1 : Int).toNat = (qC G : Int) := hw1
  have hm16 := sm4_m hG
  obtain ⟨hO, hR4, hC4⟩ := id hG
  obtain ⟨hm4, hm36⟩ := hO.m
  obtain ⟨⟨hr2, hr6⟩, ⟨hc2, hc6⟩, gL, gB, gW, gWn, gWl, gN, gNl⟩ := id hO
  have hrl := rs_le hO (b := b) hc
  have hlb := lnC_b hO (b := b) hc
  have hst := st_L hO (b := b) hc
  have hm01 := bI01 b
  rw [← hzb] at hm01
  refine T_body (I := mi_L_starts) (lv := [_, _, _]) rfl (Nat.le_of_ble_eq_true rfl) rfl ?_
  refine R_iload_n rfl rfl ?_
  refine R_iload_n rfl rfl ?_
  refine R_aload_n rfl rfl ?_
  refine R_scall rfl rfl ⟨Nat.le_of_ble_eq_true rfl, Nat.le_of_ble_eq_true rfl, Nat.zero_le _, Nat.zero_le _⟩ (first_T (b := b) (c := c) hZ hG hN hzb hzc hc (fun z3 hz3 => aRes_i (rest := []) ?_))
  refine R_iload_n rfl rfl ?_
  refine R_icmpne rfl ⟨by omega, by omega⟩ ⟨by omega, by omega⟩ (fun c7 => ?_) (fun c7 => ?_)
  · refine R_iconst rfl ?_
    exact R_ireturn rfl (fun _ => by omega) (Nat.zero_le _) (Nat.zero_le _) (hQ _ (by rw [show st G b c = false from Bool.eq_false_iff.mpr (fun q => by have := hst.mp q; omega)]; rfl))
  · refine R_iload_n rfl rfl ?_
    refine R_iload_n rfl rfl ?_
    refine R_aload_n rfl rfl ?_
    refine R_scall rfl rfl ⟨Nat.le_of_ble_eq_true rfl, Nat.le_of_ble_eq_true rfl, Nat.zero_le _, Nat.zero_le _⟩ (length_T (b := b) (c := c) hZ hG hN hzb hzc hc (fun z13 hz13 => aRes_i (rest := []) ?_))
    refine R_iconst rfl ?_
    refine R_icmplt rfl ⟨by omega, by omega⟩ ⟨by decide, by decide⟩ (fun c17 => ?_) (fun c17 => ?_)
    · refine R_iconst rfl ?_
      exact R_ireturn rfl (fun _ => by omega) (Nat.zero_le _) (Nat.zero_le _) (hQ _ (by rw [show st G b c = false from Bool.eq_false_iff.mpr (fun q => by have := hst.mp q; omega)]; rfl))
    · refine R_iconst rfl ?_
      refine R_goto rfl ?_
      exact R_ireturn rfl (fun _ => by omega) (Nat.zero_le _) (Nat.zero_le _) (hQ _ (by rw [hst.mpr ⟨by omega, by omega⟩]; rfl))
theorem in_T {d N : Nat} {h : AH} {G : Gr} {Q : AQ} (hZ : isW h G) (hG : sm4 G) (hN : 126 ≤ N) {c : Nat} {zc : Int} (hzc : zc = c) (hc : c < qM G) (hQ : ∀ z : Int, z = (enC G c : Nat) → Q (.inl (some (vI z))) h N) : T (d + 3) 235 [vI zc, vR 122] h N Q := by
  obtain ⟨w, m0, hw0, hw1, wL, wE, wS⟩ := id hZ
  have r0 : w (0 : Int).toNat = (qR G : Int) := hw0
  have r1 : w (1 : Int).toNat = (qC G : Int) := hw1
  have hm16 := sm4_m hG
  obtain ⟨hO, hR4, hC4⟩ := id hG
  obtain ⟨hm4, hm36⟩ := hO.m
  obtain ⟨⟨hr2, hr6⟩, ⟨hc2, hc6⟩, gL, gB, gW, gWn, gWl, gN, gNl⟩ := id hO
  refine T_body (I := mi_L_in) (lv := [_, _]) rfl (Nat.le_of_ble_eq_true rfl) rfl ?_
  refine R_iconst rfl ?_
  refine R_iload_n rfl rfl ?_
  refine R_aload_n rfl rfl ?_
  refine R_scall rfl rfl ⟨Nat.le_of_ble_eq_true rfl, Nat.le_of_ble_eq_true rfl, Nat.zero_le _, Nat.zero_le _⟩ (length_T (b := false) (c := c) hZ hG hN rfl hzc hc (fun z3 hz3 => aRes_i (rest := []) ?_))
  have hi3 := lnC_2 hO (b := false) hc
  have hlb3 := lnC_b hO (b := false) hc
  refine R_iconst rfl ?_
  refine R_icmplt rfl ⟨by omega, by omega⟩ ⟨by decide, by decide⟩ (fun c7 => ?_) (fun c7 => ?_)
  · have ha : inE G false c = false := Bool.eq_false_iff.mpr (fun q => by have := hi3.mpr q; omega)
    refine R_iconst rfl ?_
    refine R_iconst rfl ?_
    refine R_iload_n rfl rfl ?_
    refine R_aload_n rfl rfl ?_
    refine R_scall rfl rfl ⟨Nat.le_of_ble_eq_true rfl, Nat.le_of_ble_eq_true rfl, Nat.zero_le _, Nat.zero_le _⟩ (length_T (b := true) (c := c) hZ hG hN rfl hzc hc (fun z18 hz18 => aRes_i (rest := [_]) ?_))
    have hi18 := lnC_2 hO (b := true) hc
    have hlb18 := lnC_b hO (b := true) hc
    refine R_iconst rfl ?_
    refine R_icmplt rfl ⟨by omega, by omega⟩ ⟨by decide, by decide⟩ (fun c22 => ?_) (fun c22 => ?_)
    · have hd : inE G true c = false := Bool.eq_false_iff.mpr (fun q => by have := hi18.mpr q; omega)
      refine R_iconst rfl ?_
      refine R_iadd rfl ?_
      exact R_ireturn rfl (fun q => absurd q (by decide)) (Nat.zero_le _) (Nat.zero_le _) (hQ _ (by unfold enC; rw [ha, hd]; rfl))
    · have hd : inE G true c = true := hi18.mp (by omega)
      refine R_iconst rfl ?_
      refine R_goto rfl ?_
      refine R_iadd rfl ?_
      exact R_ireturn rfl (fun q => absurd q (by decide)) (Nat.zero_le _) (Nat.zero_le _) (hQ _ (by unfold enC; rw [ha, hd]; rfl))
  · have ha : inE G false c = true := hi3.mp (by omega)
    refine R_iconst rfl ?_
    refine R_goto rfl ?_
    refine R_iconst rfl ?_
    refine R_iload_n rfl rfl ?_
    refine R_aload_n rfl rfl ?_
    refine R_scall rfl rfl ⟨Nat.le_of_ble_eq_true rfl, Nat.le_of_ble_eq_true rfl, Nat.zero_le _, Nat.zero_le _⟩ (length_T (b := true) (c := c) hZ hG hN rfl hzc hc (fun z18 hz18 => aRes_i (rest := [_]) ?_))
    have hi18 := lnC_2 hO (b := true) hc
    have hlb18 := lnC_b hO (b := true) hc
    refine R_iconst rfl ?_
    refine R_icmplt rfl ⟨by omega, by omega⟩ ⟨by decide, by decide⟩ (fun c22 => ?_) (fun c22 => ?_)
    · have hd : inE G true c = false := Bool.eq_false_iff.mpr (fun q => by have := hi18.mpr q; omega)
      refine R_iconst rfl ?_
      refine R_iadd rfl ?_
      exact R_ireturn rfl (fun q => absurd q (by decide)) (Nat.zero_le _) (Nat.zero_le _) (hQ _ (by unfold enC; rw [ha, hd]; rfl))
    · have hd : inE G true c = true := hi18.mp (by omega)
      refine R_iconst rfl ?_
      refine R_goto rfl ?_
      refine R_iadd rfl ?_
      exact R_ireturn rfl (fun q => absurd q (by decide)) (Nat.zero_le _) (Nat.zero_le _) (hQ _ (by unfold enC; rw [ha, hd]; rfl))
theorem en_loop {d N : Nat} {h : AH} {G : Gr} {Q : AQ} (hZ : isW h G) (hG : sm4 G) (hN : 126 ≤ N) {zb zc : Int} {f : Nat} (hf : f < qM G) : ∀ (r i : Nat) (zn zi : Int), i + r = f → zi = i → (∀ z : Int, z = zn + (cnt G f : Nat) - (cnt G i : Nat) → Q (.inl (some (vI z))) h N) → Run mi_L_entry (T (d + 3)) Q 44 [some (vI zb), some (vI zc), some (vR 122), some (vI f), some (vI zn), some (vI zi)] [] h N 0 0 := by
  obtain ⟨w, m0, hw0, hw1, wL, wE, wS⟩ := id hZ
  have r0 : w (0 : Int).toNat = (qR G : Int) := hw0
  have r1 : w (1 : Int).toNat = (qC G : Int) := hw1
  have hm16 := sm4_m hG
  obtain ⟨hO, hR4, hC4⟩ := id hG
  obtain ⟨hm4, hm36⟩ := hO.m
  obtain ⟨⟨hr2, hr6⟩, ⟨hc2, hc6⟩, gL, gB, gW, gWn, gWl, gN, gNl⟩ := id hO
  intro r
  induction r using Nat.strongRecOn with
  | ind r ih =>
  intro i zn zi hr hzi hQ
  refine R_iload rfl rfl ?_
  refine R_iload_n rfl rfl ?_
  refine R_icmpge rfl ⟨by omega, by omega⟩ ⟨by omega, by omega⟩ (fun c47 => ?_) (fun c47 => ?_)
  · have hr0 : r = 0 := by omega
    subst hr0
    refine R_iload rfl rfl ?_
    exact R_ireturn rfl (fun q => absurd q (by decide)) (Nat.zero_le _) (Nat.zero_le _) (hQ _ (by rw [show f = i by omega]; omega))
  · obtain ⟨r, rfl⟩ : ∃ r1, r = r1 + 1 := ⟨r - 1, by omega⟩
    refine R_iload rfl rfl ?_
    refine R_iconst rfl ?_
    refine R_iload rfl rfl ?_
    refine R_aload_n rfl rfl ?_
    refine R_scall rfl rfl ⟨Nat.le_of_ble_eq_true rfl, Nat.le_of_ble_eq_true rfl, Nat.zero_le _, Nat.zero_le _⟩ (starts_T (b := false) (c := i) hZ hG hN rfl (by omega) (by omega) (fun z56 hz56 => aRes_i (rest := [_]) ?_))
    have hs56 := bI01 (st G false (i))
    rw [← hz56] at hs56
    refine R_ifeq rfl ⟨by omega, by omega⟩ (fun c59 => ?_) (fun c59 => ?_)
    · have ha := bI_f hz56 c59
      refine R_iconst rfl ?_
      refine R_iconst rfl ?_
      refine R_iload rfl rfl ?_
      refine R_aload_n rfl rfl ?_
      refine R_scall rfl rfl ⟨Nat.le_of_ble_eq_true rfl, Nat.le_of_ble_eq_true rfl, Nat.zero_le _, Nat.zero_le _⟩ (starts_T (b := true) (c := i) hZ hG hN rfl (by omega) (by omega) (fun z71 hz71 => aRes_i (rest := [_, _]) ?_))
      have hs71 := bI01 (st G true (i))
      rw [← hz71] at hs71
      refine R_ifeq rfl ⟨by omega, by omega⟩ (fun c74 => ?_) (fun c74 => ?_)
      · have hd := bI_f hz71 c74
        refine R_iconst rfl ?_
        refine R_iadd rfl ?_
        refine R_iadd rfl ?_
        refine R_istore (lv' := [_, _, _, _, _, _]) rfl rfl ?_
        refine R_iinc (lv' := [_, _, _, _, _, _]) rfl rfl rfl ?_
        refine R_goto rfl ?_
        exact ih r (by omega) (i + 1) _ _ (by omega) (by omega) (fun z hz => hQ z (by rw [hz]; simp only [cnt]; rw [ha, hd]; simp only [tn]; omega))
      · have hd := bI_t hz71 c74
        refine R_iconst rfl ?_
        refine R_goto rfl ?_
        refine R_iadd rfl ?_
        refine R_iadd rfl ?_
        refine R_istore (lv' := [_, _, _, _, _, _]) rfl rfl ?_
        refine R_iinc (lv' := [_, _, _, _, _, _]) rfl rfl rfl ?_
        refine R_goto rfl ?_
        exact ih r (by omega) (i + 1) _ _ (by omega) (by omega) (fun z hz => hQ z (by rw [hz]; simp only [cnt]; rw [ha, hd]; simp only [tn]; omega))
    · have ha := bI_t hz56 c59
      refine R_iconst rfl ?_
      refine R_goto rfl ?_
      refine R_iconst rfl ?_
      refine R_iload rfl rfl ?_
      refine R_aload_n rfl rfl ?_
      refine R_scall rfl rfl ⟨Nat.le_of_ble_eq_true rfl, Nat.le_of_ble_eq_true rfl, Nat.zero_le _, Nat.zero_le _⟩ (starts_T (b := true) (c := i) hZ hG hN rfl (by omega) (by omega) (fun z71 hz71 => aRes_i (rest := [_, _]) ?_))
      have hs71 := bI01 (st G true (i))
      rw [← hz71] at hs71
      refine R_ifeq rfl ⟨by omega, by omega⟩ (fun c74 => ?_) (fun c74 => ?_)
      · have hd := bI_f hz71 c74
        refine R_iconst rfl ?_
        refine R_iadd rfl ?_
        refine R_iadd rfl ?_
        refine R_istore (lv' := [_, _, _, _, _, _]) rfl rfl ?_
        refine R_iinc (lv' := [_, _, _, _, _, _]) rfl rfl rfl ?_
        refine R_goto rfl ?_
        exact ih r (by omega) (i + 1) _ _ (by omega) (by omega) (fun z hz => hQ z (by rw [hz]; simp only [cnt]; rw [ha, hd]; simp only [tn]; omega))
      · have hd := bI_t hz71 c74
        refine R_iconst rfl ?_
        refine R_goto rfl ?_
        refine R_iadd rfl ?_
        refine R_iadd rfl ?_
        refine R_istore (lv' := [_, _, _, _, _, _]) rfl rfl ?_
        refine R_iinc (lv' := [_, _, _, _, _, _]) rfl rfl rfl ?_
        refine R_goto rfl ?_
        exact ih r (by omega) (i + 1) _ _ (by omega) (by omega) (fun z hz => hQ z (by rw [hz]; simp only [cnt]; rw [ha, hd]; simp only [tn]; omega))
theorem entry_L {d N : Nat} {h : AH} {G : Gr} {Q : AQ} (hZ : isW h G) (hG : sm4 G) (hN : 126 ≤ N) {b : Bool} {zb zc : Int} {c : Nat} (hzb : zb = bI b) (hzc : zc = c) (hc : c < qM G) (hQ : ∀ z : Int, z = acr G b c → Q (.inl (some (vI z))) h N) : T (d + 4) 236 [vI zb, vI zc, vR 122] h N Q := by
  obtain ⟨w, m0, hw0, hw1, wL, wE, wS⟩ := id hZ
  have r0 : w (0 : Int).toNat = (qR G : Int) := hw0
  have r1 : w (1 : Int).toNat = (qC G : Int) := hw1
  have hm16 := sm4_m hG
  obtain ⟨hO, hR4, hC4⟩ := id hG
  obtain ⟨hm4, hm36⟩ := hO.m
  obtain ⟨⟨hr2, hr6⟩, ⟨hc2, hc6⟩, gL, gB, gW, gWn, gWl, gN, gNl⟩ := id hO
  have hrl := rs_le hO (b := b) hc
  have hlb := lnC_b hO (b := b) hc
  have hi2 := lnC_2 hO (b := b) hc
  have hm01 := bI01 b
  rw [← hzb] at hm01
  refine T_body (I := mi_L_entry) (lv := [_, _, _, _, _, _]) rfl (Nat.le_of_ble_eq_true rfl) rfl ?_
  refine R_iload_n rfl rfl ?_
  refine R_iload_n rfl rfl ?_
  refine R_aload_n rfl rfl ?_
  refine R_scall rfl rfl ⟨Nat.le_of_ble_eq_true rfl, Nat.le_of_ble_eq_true rfl, Nat.zero_le _, Nat.zero_le _⟩ (length_T (b := b) (c := c) hZ hG hN hzb hzc hc (fun z3 hz3 => aRes_i (rest := []) ?_))
  refine R_iconst rfl ?_
  refine R_icmpge rfl ⟨by omega, by omega⟩ ⟨by decide, by decide⟩ (fun c7 => ?_) (fun c7 => ?_)
  · refine R_iload_n rfl rfl ?_
    refine R_iload_n rfl rfl ?_
    refine R_aload_n rfl rfl ?_
    refine R_scall rfl rfl ⟨Nat.le_of_ble_eq_true rfl, Nat.le_of_ble_eq_true rfl, Nat.zero_le _, Nat.zero_le _⟩ (first_T (b := b) (c := c) hZ hG hN hzb hzc hc (fun z16 hz16 => aRes_i (rest := []) ?_))
    refine R_istore_n (lv' := [_, _, _, _, _, _]) rfl rfl ?_
    refine R_iload_n rfl rfl ?_
    refine R_iconst rfl ?_
    refine R_icmpne rfl ⟨by omega, by omega⟩ ⟨by decide, by decide⟩ (fun c22 => ?_) (fun c22 => ?_)
    · refine R_iconst rfl ?_
      refine R_istore (lv' := [_, _, _, _, _, _]) rfl rfl ?_
      refine R_iconst rfl ?_
      refine R_istore (lv' := [_, _, _, _, _, _]) rfl rfl ?_
      subst hz16
      refine en_loop hZ hG hN (f := rs G b c) (by omega) (rs G b c) 0 _ _ (Nat.zero_add _) rfl (fun z hz => hQ z ?_)
      have hin : inE G b c = true := hi2.mp (by omega)
      unfold acr eIx
      rw [if_pos hin, hz]
      first
        | (have hb : b = false := bI_f hzb (by omega)
           subst hb
           show (0 : Int) + ((cnt G _ : Nat) : Int) - ((0 : Nat) : Int) = ((cnt G _ + 0 : Nat) : Int)
           omega)
        | (have hb : b = true := bI_t hzb (by omega)
           subst hb
           rw [bI_t hz28 (by omega)]
           show (1 : Int) + ((cnt G _ : Nat) : Int) - ((0 : Nat) : Int) = ((cnt G _ + 1 : Nat) : Int)
           omega)
        | (have hb : b = true := bI_t hzb (by omega)
           subst hb
           rw [bI_f hz28 (by omega)]
           show (0 : Int) + ((cnt G _ : Nat) : Int) - ((0 : Nat) : Int) = ((cnt G _ + 0 : Nat) : Int)
           omega)
    · refine R_iconst rfl ?_
      refine R_iload_n rfl rfl ?_
      refine R_aload_n rfl rfl ?_
      refine R_scall rfl rfl ⟨Nat.le_of_ble_eq_true rfl, Nat.le_of_ble_eq_true rfl, Nat.zero_le _, Nat.zero_le _⟩ (starts_T (b := false) (c := rs G b c) hZ hG hN rfl (by omega) (by omega) (fun z28 hz28 => aRes_i (rest := []) ?_))
      have hs28 := bI01 (st G false (rs G b c))
      rw [← hz28] at hs28
      refine R_ifeq rfl ⟨by omega, by omega⟩ (fun c31 => ?_) (fun c31 => ?_)
      · refine R_iconst rfl ?_
        refine R_istore (lv' := [_, _, _, _, _, _]) rfl rfl ?_
        refine R_iconst rfl ?_
        refine R_istore (lv' := [_, _, _, _, _, _]) rfl rfl ?_
        subst hz16
        refine en_loop hZ hG hN (f := rs G b c) (by omega) (rs G b c) 0 _ _ (Nat.zero_add _) rfl (fun z hz => hQ z ?_)
        have hin : inE G b c = true := hi2.mp (by omega)
        unfold acr eIx
        rw [if_pos hin, hz]
        first
          | (have hb : b = false := bI_f hzb (by omega)
             subst hb
             show (0 : Int) + ((cnt G _ : Nat) : Int) - ((0 : Nat) : Int) = ((cnt G _ + 0 : Nat) : Int)
             omega)
          | (have hb : b = true := bI_t hzb (by omega)
             subst hb
             rw [bI_t hz28 (by omega)]
             show (1 : Int) + ((cnt G _ : Nat) : Int) - ((0 : Nat) : Int) = ((cnt G _ + 1 : Nat) : Int)
             omega)
          | (have hb : b = true := bI_t hzb (by omega)
             subst hb
             rw [bI_f hz28 (by omega)]
             show (0 : Int) + ((cnt G _ : Nat) : Int) - ((0 : Nat) : Int) = ((cnt G _ + 0 : Nat) : Int)
             omega)
      · refine R_iconst rfl ?_
        refine R_goto rfl ?_
        refine R_istore (lv' := [_, _, _, _, _, _]) rfl rfl ?_
        refine R_iconst rfl ?_
        refine R_istore (lv' := [_, _, _, _, _, _]) rfl rfl ?_
        subst hz16
        refine en_loop hZ hG hN (f := rs G b c) (by omega) (rs G b c) 0 _ _ (Nat.zero_add _) rfl (fun z hz => hQ z ?_)
        have hin : inE G b c = true := hi2.mp (by omega)
        unfold acr eIx
        rw [if_pos hin, hz]
        first
          | (have hb : b = false := bI_f hzb (by omega)
             subst hb
             show (0 : Int) + ((cnt G _ : Nat) : Int) - ((0 : Nat) : Int) = ((cnt G _ + 0 : Nat) : Int)
             omega)
          | (have hb : b = true := bI_t hzb (by omega)
             subst hb
             rw [bI_t hz28 (by omega)]
             show (1 : Int) + ((cnt G _ : Nat) : Int) - ((0 : Nat) : Int) = ((cnt G _ + 1 : Nat) : Int)
             omega)
          | (have hb : b = true := bI_t hzb (by omega)
             subst hb
             rw [bI_f hz28 (by omega)]
             show (0 : Int) + ((cnt G _ : Nat) : Int) - ((0 : Nat) : Int) = ((cnt G _ + 0 : Nat) : Int)
             omega)
  · refine R_bipush rfl ?_
    exact R_ireturn rfl (fun q => absurd q (by decide)) (Nat.zero_le _) (Nat.zero_le _) (hQ _ (by unfold acr; rw [if_neg (fun q => by have := hi2.mpr q; omega)]))
theorem cl_loop {d N : Nat} {h : AH} {G : Gr} {Q : AQ} (hZ : isW h G) (hG : sm4 G) (hN : 126 ≤ N) {c : Nat} {zc : Int} (hzc : zc = c) (hc : c < qM G) (hQ : ∀ z : Int, z = clue G c → Q (.inl (some (vI z))) h N) : ∀ (r i : Nat) (zn zi : Int), i + r = c + 1 → zi = i → zn = (clu G i : Nat) → Run mi_L_clue (T (d + 3)) Q 4 [some (vI zc), some (vR 122), some (vI zn), some (vI zi)] [] h N 0 0 := by
  obtain ⟨w, m0, hw0, hw1, wL, wE, wS⟩ := id hZ
  have r0 : w (0 : Int).toNat = (qR G : Int) := hw0
  have r1 : w (1 : Int).toNat = (qC G : Int) := hw1
  have hm16 := sm4_m hG
  obtain ⟨hO, hR4, hC4⟩ := id hG
  obtain ⟨hm4, hm36⟩ := hO.m
  obtain ⟨⟨hr2, hr6⟩, ⟨hc2, hc6⟩, gL, gB, gW, gWn, gWl, gN, gNl⟩ := id hO
  intro r
  induction r using Nat.strongRecOn with
  | ind r ih =>
  intro i zn zi hr hzi hzn
  refine R_iload_n rfl rfl ?_
  refine R_iload_n rfl rfl ?_
  refine R_icmpgt rfl ⟨by omega, by omega⟩ ⟨by omega, by omega⟩ (fun c6 => ?_) (fun c6 => ?_)
  · have hr0 : r = 0 := by omega
    subst hr0
    refine R_iconst rfl ?_
    refine R_iload_n rfl rfl ?_
    refine R_aload_n rfl rfl ?_
    refine R_scall rfl rfl ⟨Nat.le_of_ble_eq_true rfl, Nat.le_of_ble_eq_true rfl, Nat.zero_le _, Nat.zero_le _⟩ (starts_T (b := false) (c := c) hZ hG hN rfl (by omega) (by omega) (fun z44 hz44 => aRes_i (rest := []) ?_))
    have hs44 := bI01 (st G false (c))
    rw [← hz44] at hs44
    refine R_ifne rfl ⟨by omega, by omega⟩ (fun c47 => ?_) (fun c47 => ?_)
    · have ha : (st G false c || st G true c) = true := by
        rw [bI_t hz44 c47]
        rfl
      refine R_iload_n rfl rfl ?_
      refine R_goto rfl ?_
      exact R_ireturn rfl (fun q => absurd q (by decide)) (Nat.zero_le _) (Nat.zero_le _) (hQ _ (by unfold clue; first | (rw [if_pos ha, hzn, show i = c + 1 by omega]) | (rw [if_neg (by rw [ha]; decide)])))
    · have ha1 := bI_f hz44 (by omega)
      refine R_iconst rfl ?_
      refine R_iload_n rfl rfl ?_
      refine R_aload_n rfl rfl ?_
      refine R_scall rfl rfl ⟨Nat.le_of_ble_eq_true rfl, Nat.le_of_ble_eq_true rfl, Nat.zero_le _, Nat.zero_le _⟩ (starts_T (b := true) (c := c) hZ hG hN rfl (by omega) (by omega) (fun z53 hz53 => aRes_i (rest := []) ?_))
      have hs53 := bI01 (st G true (c))
      rw [← hz53] at hs53
      refine R_ifeq rfl ⟨by omega, by omega⟩ (fun c56 => ?_) (fun c56 => ?_)
      · have ha : (st G false c || st G true c) = false := by
          rw [ha1, bI_f hz53 c56]
          rfl
        refine R_bipush rfl ?_
        exact R_ireturn rfl (fun q => absurd q (by decide)) (Nat.zero_le _) (Nat.zero_le _) (hQ _ (by unfold clue; first | (rw [if_pos ha, hzn, show i = c + 1 by omega]) | (rw [if_neg (by rw [ha]; decide)])))
      · have ha : (st G false c || st G true c) = true := by
          rw [ha1, bI_t hz53 c56]
          rfl
        refine R_iload_n rfl rfl ?_
        refine R_goto rfl ?_
        exact R_ireturn rfl (fun q => absurd q (by decide)) (Nat.zero_le _) (Nat.zero_le _) (hQ _ (by unfold clue; first | (rw [if_pos ha, hzn, show i = c + 1 by omega]) | (rw [if_neg (by rw [ha]; decide)])))
  · obtain ⟨r, rfl⟩ : ∃ r1, r = r1 + 1 := ⟨r - 1, by omega⟩
    refine R_iload_n rfl rfl ?_
    refine R_iconst rfl ?_
    refine R_iload_n rfl rfl ?_
    refine R_aload_n rfl rfl ?_
    refine R_scall rfl rfl ⟨Nat.le_of_ble_eq_true rfl, Nat.le_of_ble_eq_true rfl, Nat.zero_le _, Nat.zero_le _⟩ (starts_T (b := false) (c := i) hZ hG hN rfl (by omega) (by omega) (fun z13 hz13 => aRes_i (rest := [_]) ?_))
    have hs13 := bI01 (st G false (i))
    rw [← hz13] at hs13
    refine R_ifne rfl ⟨by omega, by omega⟩ (fun c16 => ?_) (fun c16 => ?_)
    · have ha : (st G false i || st G true i) = true := by
        rw [bI_t hz13 c16]
        rfl
      refine R_iconst rfl ?_
      refine R_goto rfl ?_
      refine R_iadd rfl ?_
      refine R_istore_n (lv' := [_, _, _, _]) rfl rfl ?_
      refine R_iinc (lv' := [_, _, _, _]) rfl rfl rfl ?_
      refine R_goto rfl ?_
      exact ih r (by omega) (i + 1) _ _ (by omega) (by omega) (by rw [hzn]; simp only [clu]; rw [ha]; rfl)
    · have ha1 := bI_f hz13 (by omega)
      refine R_iconst rfl ?_
      refine R_iload_n rfl rfl ?_
      refine R_aload_n rfl rfl ?_
      refine R_scall rfl rfl ⟨Nat.le_of_ble_eq_true rfl, Nat.le_of_ble_eq_true rfl, Nat.zero_le _, Nat.zero_le _⟩ (starts_T (b := true) (c := i) hZ hG hN rfl (by omega) (by omega) (fun z22 hz22 => aRes_i (rest := [_]) ?_))
      have hs22 := bI01 (st G true (i))
      rw [← hz22] at hs22
      refine R_ifeq rfl ⟨by omega, by omega⟩ (fun c25 => ?_) (fun c25 => ?_)
      · have ha : (st G false i || st G true i) = false := by
          rw [ha1, bI_f hz22 c25]
          rfl
        refine R_iconst rfl ?_
        refine R_iadd rfl ?_
        refine R_istore_n (lv' := [_, _, _, _]) rfl rfl ?_
        refine R_iinc (lv' := [_, _, _, _]) rfl rfl rfl ?_
        refine R_goto rfl ?_
        exact ih r (by omega) (i + 1) _ _ (by omega) (by omega) (by rw [hzn]; simp only [clu]; rw [ha]; rfl)
      · have ha : (st G false i || st G true i) = true := by
          rw [ha1, bI_t hz22 c25]
          rfl
        refine R_iconst rfl ?_
        refine R_goto rfl ?_
        refine R_iadd rfl ?_
        refine R_istore_n (lv' := [_, _, _, _]) rfl rfl ?_
        refine R_iinc (lv' := [_, _, _, _]) rfl rfl rfl ?_
        refine R_goto rfl ?_
        exact ih r (by omega) (i + 1) _ _ (by omega) (by omega) (by rw [hzn]; simp only [clu]; rw [ha]; rfl)
theorem clue_L {d N : Nat} {h : AH} {G : Gr} {Q : AQ} (hZ : isW h G) (hG : sm4 G) (hN : 126 ≤ N) {c : Nat} {zc : Int} (hzc : zc = c) (hc : c < qM G) (hQ : ∀ z : Int, z = clue G c → Q (.inl (some (vI z))) h N) : T (d + 4) 237 [vI zc, vR 122] h N Q := by
  obtain ⟨w, m0, hw0, hw1, wL, wE, wS⟩ := id hZ
  have r0 : w (0 : Int).toNat = (qR G : Int) := hw0
  have r1 : w (1 : Int).toNat = (qC G : Int) := hw1
  have hm16 := sm4_m hG
  obtain ⟨hO, hR4, hC4⟩ := id hG
  obtain ⟨hm4, hm36⟩ := hO.m
  obtain ⟨⟨hr2, hr6⟩, ⟨hc2, hc6⟩, gL, gB, gW, gWn, gWl, gN, gNl⟩ := id hO
  refine T_body (I := mi_L_clue) (lv := [_, _, _, _]) rfl (Nat.le_of_ble_eq_true rfl) rfl ?_
  refine R_iconst rfl ?_
  refine R_istore_n (lv' := [_, _, _, _]) rfl rfl ?_
  refine R_iconst rfl ?_
  refine R_istore_n (lv' := [_, _, _, _]) rfl rfl ?_
  exact cl_loop hZ hG hN hzc hc hQ (c + 1) 0 _ _ (Nat.zero_add _) rfl rfl
