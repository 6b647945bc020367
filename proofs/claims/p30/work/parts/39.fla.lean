/-! ===== the filler: bits, agrees ===== -/
theorem sh_amt32 {n : Nat} (hn : n < 32) : ((iI (n : Int) &&& 31).toBitVec.smod 32).toNat = n := by
  have h : (List.range 32).all (fun n => decide (((iI (n : Int) &&& 31).toBitVec.smod 32).toNat = n)) = true := by decide +kernel
  exact of_decide_eq_true (List.all_eq_true.mp h n (List.mem_range.mpr hn))
def isBi (z : Int) (p : Nat → Bool) : Prop := ∀ j, j < 32 → (iI z).toBitVec.getLsbD j = p j
theorem iI_ti (x : Int32) : iI x.toInt = x := Int32.ofInt_toInt x
theorem sh1_32 {n : Nat} (hn : n < 32) (j : Nat) (hj : j < 32) : (iI 1 <<< (iI (n : Int) &&& 31)).toBitVec.getLsbD j = decide (j = n) := by
  rw [Int32.toBitVec_shiftLeft, BitVec.shiftLeft_eq', sh_amt32 hn, BitVec.getLsbD_shiftLeft]
  have e : (iI 1).toBitVec = BitVec.ofNat 32 1 := rfl
  rw [e, BitVec.getLsbD_ofNat, tb_one]
  by_cases h : j = n
  · subst h
    simp [hj]
  · by_cases h2 : j < n
    · simp [h2, h]
    · have : ¬ j - n = 0 := by omega
      simp [this, h]
theorem neg32 {j : Nat} (hj : j < 32) : (iI (-1)).toBitVec.getLsbD j = true := by
  have h : (List.range 32).all (fun j => decide ((iI (-1)).toBitVec.getLsbD j = true)) = true := by decide +kernel
  exact of_decide_eq_true (List.all_eq_true.mp h j (List.mem_range.mpr hj))
theorem bi_zero : isBi 0 (fun _ => false) := fun j hj => by
  have h : (List.range 32).all (fun j => decide ((iI 0).toBitVec.getLsbD j = false)) = true := by decide +kernel
  exact of_decide_eq_true (List.all_eq_true.mp h j (List.mem_range.mpr hj))
theorem bi_or {a : Int} {p : Nat → Bool} (h : isBi a p) {n : Nat} (hn : n < 32) : isBi ((iI a ||| iI ((iI 1 <<< (iI (n : Int) &&& 31)).toInt)).toInt) (va_up p n true) := by
  intro j hj
  rw [iI_ti, iI_ti, Int32.toBitVec_or, BitVec.getLsbD_or, h j hj, sh1_32 hn j hj]
  by_cases q : j = n
  · rw [q, va_up_self]
    simp
  · rw [va_up_ne _ _ q]
    simp [q]
theorem bi_andn {a : Int} {p : Nat → Bool} (h : isBi a p) {n : Nat} (hn : n < 32) : isBi ((iI a &&& iI ((iI ((iI 1 <<< (iI (n : Int) &&& 31)).toInt) ^^^ iI (-1)).toInt)).toInt) (va_up p n false) := by
  intro j hj
  rw [iI_ti, iI_ti, iI_ti, Int32.toBitVec_and, BitVec.getLsbD_and, Int32.toBitVec_xor, BitVec.getLsbD_xor, neg32 hj, h j hj, sh1_32 hn j hj]
  by_cases q : j = n
  · rw [q, va_up_self]
    simp
  · rw [va_up_ne _ _ q]
    simp [q]
theorem bi_test {f u : Int} {p q : Nat → Bool} (hf : isBi f p) (hu : isBi u q) {n : Nat} (hn : n < 32) : (iI ((iI ((iI f &&& iI ((iI u ^^^ iI (-1)).toInt)).toInt) >>> (iI (n : Int) &&& 31)).toInt) &&& iI 1).toInt = if (p n && !q n) = true then 1 else 0 := by
  rw [iI_ti, iI_ti, iI_ti]
  have e : (((iI f &&& (iI u ^^^ iI (-1))) >>> (iI (n : Int) &&& 31)) &&& iI 1) = if (p n && !q n) = true then 1 else 0 := by
    apply Int32.toBitVec_inj.mp
    apply BitVec.eq_of_getLsbD_eq
    intro i hi
    rw [Int32.toBitVec_and, BitVec.getLsbD_and, Int32.toBitVec_shiftRight, BitVec.sshiftRight_eq', sh_amt32 hn, BitVec.getLsbD_sshiftRight]
    have h1 : (iI 1).toBitVec.getLsbD i = decide (i = 0) := by
      have e : (iI 1).toBitVec = BitVec.ofNat 32 1 := rfl
      rw [e, BitVec.getLsbD_ofNat, tb_one, decide_eq_true hi, Bool.true_and]
    rw [h1]
    by_cases h0 : i = 0
    · subst h0
      rw [Nat.add_zero, if_pos hn, Int32.toBitVec_and, BitVec.getLsbD_and, Int32.toBitVec_xor, BitVec.getLsbD_xor, hf n hn, hu n hn, neg32 hn]
      cases p n <;> cases q n <;> decide
    · rw [decide_eq_false h0, Bool.and_false]
      split
      · have h2 : (1 : Int32).toBitVec.getLsbD i = decide (i = 0) := by
          have e2 : (1 : Int32).toBitVec = BitVec.ofNat 32 1 := rfl
          rw [e2, BitVec.getLsbD_ofNat, tb_one, decide_eq_true hi, Bool.true_and]
        exact (h2.trans (decide_eq_false h0)).symm
      · simp
  rw [e]
  split <;> decide
def ixF (G : Gr) (o x : Nat) : Nat := (x - eC G o) / sp G (eB G o)
theorem ix_cel {G : Gr} (hG : okG G) {o i : Nat} : ixF G o (cel G o i) = i := by
  unfold ixF cel
  rw [Nat.add_sub_cancel_left]
  exact Nat.mul_div_cancel _ (by have := (sp_pos hG (eB G o)).1; omega)
/-- a cell of an entry: which one -/
theorem acr_cel {G : Gr} (hG : okG G) {b : Bool} {x n : Nat} (hx : x < qM G) (h : acr G b x = (n : Nat)) : n < nE G ∧ eB G n = b ∧ ∃ i, i < eN G n ∧ x = cel G n i := by
  rcases acr_cases hG (b := b) hx with ⟨q, -⟩ | ⟨m, q, q2, q3⟩
  · omega
  · have e : m = n := by omega
    subst e
    have hs := rs_st hG q3
    have hn : m = eIx G b (rs G b x) := by
      have : acr G b x = ((eIx G b (rs G b x) : Nat) : Int) := by
        unfold acr
        rw [if_pos q3]
      omega
    have hg := entsTo_get hs _ (st_lt hs)
    rw [← hn] at hg
    have hp := (ents_get q2).symm.trans hg
    have hp1 : eC G m = rs G b x := congrArg Prod.fst (Option.some.inj hp)
    have hp2 : eB G m = b := congrArg Prod.snd (Option.some.inj hp)
    obtain ⟨i, hi, hxi⟩ := (run_iff hG hs).mp ⟨q3, rfl⟩
    refine ⟨q2, hp2, i, ?_, ?_⟩
    · unfold eN
      rw [hp1, hp2]
      exact hi
    · unfold cel
      rw [hp1, hp2]
      exact hxi
theorem row_diff {G : Gr} (hG : okG G) {o i : Nat} (hb : eB G o = true) {f : Int} (hF : f = (eC G o : Int)) : (((((cel G o i : Nat) : Int)).toNat / qC G : Nat) : Int) - (((f.toNat) / qC G : Nat) : Int) = ((i : Nat) : Int) := by
  subst hF
  have h2 := hG.2.1.1
  have e : cel G o i / qC G = eC G o / qC G + i := by
    unfold cel
    rw [hb]
    show (eC G o + i * qC G) / qC G = _
    exact Nat.add_mul_div_right _ _ (by omega)
  show ((cel G o i / qC G : Nat) : Int) - ((eC G o / qC G : Nat) : Int) = _
  rw [e]
  omega
theorem col_diff {G : Gr} {o i : Nat} (hb : eB G o = false) {f : Int} (hF : f = (eC G o : Int)) : ((cel G o i : Nat) : Int) - f = ((i : Nat) : Int) := by
  subst hF
  have e : cel G o i = eC G o + i * 1 := by
    unfold cel
    rw [hb]
    rfl
  omega
theorem indexIn_T {d k N : Nat} {h : AH} {G : Gr} {Q : AQ} (hP : isPz h k G) (hG : okG G) (hN : k + 12 ≤ N) {e : Nat} (he : e < nE G) {i : Nat} {xz : Int} (hi : i < eN G e) (hxz : xz = (cel G e i : Nat)) (hQ : ∀ z : Int, z = (i : Nat) → Q (.inl (some (vI z))) h N) : T (d + 2) 35 [vR k, vI e, vI xz] h N Q := by
  obtain ⟨F, Ln, Dn, Ac, Dw, Cl, ⟨p0, hS, p2, p3, p4, p5, p6, p7⟩, hE, hAc, hDw, hCl⟩ := id hP
  obtain ⟨hm4, hm36⟩ := hG.m
  have hn36 := nE36 hG
  have hnE : cnt G (qM G) = nE G := rfl
  obtain ⟨rb, bb, s0⟩ := hS.e0
  obtain ⟨hF, hLn, hDn⟩ := hE _ _ _ (ents_get he)
  have hDn1 : Dn ((e : Int)).toNat = bI (eB G e) := hDn
  have hD01 : Dn ((e : Int)).toNat = 0 ∨ Dn ((e : Int)).toNat = 1 := by
    rw [hDn1]
    exact bI01 _
  subst hxz
  have hxM := cel_lt hG he hi
  refine T_body (I := mi_X4_indexIn) (lv := [_, _, _]) rfl (Nat.le_of_ble_eq_true rfl) rfl ?_
  refine R_aload_n rfl rfl ?_
  refine R_iload_n rfl rfl ?_
  refine R_vcall rfl rfl ⟨(by omega), _, p0⟩ ⟨Nat.le_of_ble_eq_true rfl, Nat.le_of_ble_eq_true rfl, Nat.zero_le _, Nat.zero_le _⟩ (hasEntry_T hP hG hN ⟨by omega, by omega⟩ (fun z2 hz2 => aRes_i (rest := []) ?_))
  refine R_ifne rfl ⟨by omega, by omega⟩ (fun c5 => ?_) (fun c5 => ?_)
  · refine R_aload_n rfl rfl ?_
    refine R_getfield rfl rfl (by omega) p0 rfl ?_
    refine R_iload_n rfl rfl ?_
    refine R_baload rfl (by omega) p4 ⟨by omega, by omega, by omega⟩ ?_
    refine R_ifeq rfl ⟨by omega, by omega⟩ (fun c17 => ?_) (fun c17 => ?_)
    · refine R_iload_n rfl rfl ?_
      refine R_aload_n rfl rfl ?_
      refine R_getfield rfl rfl (by omega) p0 rfl ?_
      refine R_iload_n rfl rfl ?_
      refine R_iaload rfl (Or.inl (by omega)) p2 ⟨by omega, by omega, by omega⟩ ?_
      refine R_isub rfl ?_
      exact R_ireturn rfl (fun q => absurd q (by decide)) (Nat.zero_le _) (Nat.zero_le _) (hQ _ (by first | exact col_diff (bI_f hDn1 c17) hF | (rw [hz25, hz38]; exact row_diff hG (bI_t hDn1 c17) hF)))
    · have hFb : F ((e : Int)).toNat = (eC G e : Int) := hF
      have hcM := (eST he).1
      refine R_aload_n rfl rfl ?_
      refine R_getfield rfl rfl (by omega) p0 rfl ?_
      refine R_iload_n rfl rfl ?_
      refine R_vcall rfl rfl ⟨(by omega), hS.rcv⟩ ⟨Nat.le_of_ble_eq_true rfl, Nat.le_of_ble_eq_true rfl, Nat.zero_le _, Nat.zero_le _⟩ (rowOf_T hS hG (by omega) ⟨by omega, by omega⟩ (fun z25 hz25 => aRes_i (rest := []) ?_))
      refine R_aload_n rfl rfl ?_
      refine R_getfield rfl rfl (by omega) p0 rfl ?_
      refine R_aload_n rfl rfl ?_
      refine R_getfield rfl rfl (by omega) p0 rfl ?_
      refine R_iload_n rfl rfl ?_
      refine R_iaload rfl (Or.inl (by omega)) p2 ⟨by omega, by omega, by omega⟩ ?_
      refine R_vcall rfl rfl ⟨(by omega), hS.rcv⟩ ⟨Nat.le_of_ble_eq_true rfl, Nat.le_of_ble_eq_true rfl, Nat.zero_le _, Nat.zero_le _⟩ (rowOf_T hS hG (by omega) ⟨by omega, by omega⟩ (fun z38 hz38 => aRes_i (rest := [_]) ?_))
      refine R_isub rfl ?_
      refine R_goto rfl ?_
      exact R_ireturn rfl (fun q => absurd q (by decide)) (Nat.zero_le _) (Nat.zero_le _) (hQ _ (by first | exact col_diff (bI_f hDn1 c17) hF | (rw [hz25, hz38]; exact row_diff hG (bI_t hDn1 c17) hF)))
  · exact absurd c5 (by omega)
def pAg (G : Gr) (ch : List Nat) (w i : Nat) : Bool := if 0 ≤ acr G (!eB G ch.length) (cel G ch.length i) ∧ acr G (!eB G ch.length) (cel G ch.length i) < ch.length then decide (qWl G (ch.getD (acr G (!eB G ch.length) (cel G ch.length i)).toNat 0) (ixF G (acr G (!eB G ch.length) (cel G ch.length i)).toNat (cel G ch.length i)) = qWl G w i) else true
def agG (G : Gr) (ch : List Nat) (w : Nat) : Bool := alF (pAg G ch w) (eN G ch.length) 0
def okF (G : Gr) (ch : List Nat) (w : Nat) : Bool := fiG G ch.length w && !ch.contains w && agG G ch w
def smF (g : Nat → Nat) : Nat → Nat → Nat
  | 0, _ => 0
  | r + 1, i => g i + smF g r (i + 1)
def flF (G : Gr) : Nat → List Nat → Nat
  | 0, _ => 1
  | r + 1, ch => smF (fun w => if okF G ch w = true then flF G r (ch ++ [w]) else 0) (qW G) 0
/-- in how many ways all entries can be filled -/
def flG (G : Gr) : Nat := if qW G < nE G then 0 else flF G (nE G) []
theorem smF_le {g : Nat → Nat} {b : Nat} (h : ∀ i, g i ≤ b) : ∀ r i, smF g r i ≤ r * b
  | 0, _ => by
    rw [Nat.zero_mul]
    exact Nat.le_refl _
  | r + 1, i => by
    have := smF_le h r (i + 1)
    have := h i
    simp only [smF]
    rw [Nat.add_mul, Nat.one_mul]
    omega
theorem flF_le {G : Gr} (hG : okG G) : ∀ r ch, flF G r ch ≤ 8 ^ r
  | 0, _ => Nat.le_refl _
  | r + 1, ch => by
    simp only [flF]
    have h1 := smF_le (g := fun w => if okF G ch w = true then flF G r (ch ++ [w]) else 0) (b := 8 ^ r) (fun i => by
      show (if okF G ch i = true then flF G r (ch ++ [i]) else 0) ≤ 8 ^ r
      by_cases q : okF G ch i = true
      · rw [if_pos q]
        exact flF_le hG r _
      · rw [if_neg q]
        exact Nat.zero_le _) (qW G) 0
    have h2 : qW G * 8 ^ r ≤ 8 * 8 ^ r := Nat.mul_le_mul_right _ hG.2.2.2.2.1
    rw [Nat.pow_succ, Nat.mul_comm]
    exact Nat.le_trans h1 h2
theorem fiG_len {G : Gr} {e w : Nat} (h : fiG G e w = true) : eN G e = qWn G w := by
  unfold fiG at h
  exact of_decide_eq_true (Bool.and_eq_true_iff.mp h).1
