/-! ===== numbers and bits ===== -/
def bI (b : Bool) : Int := match b with
  | true => 1
  | false => 0
theorem emod_nat {c : Int} (h : 0 ≤ c) (n : Nat) : c % (n : Int) = ((c.toNat % n : Nat) : Int) := by
  obtain ⟨x, rfl⟩ := Int.eq_ofNat_of_zero_le h
  rfl
theorem ediv_nat {c : Int} (h : 0 ≤ c) (n : Nat) : c / (n : Int) = ((c.toNat / n : Nat) : Int) := by
  obtain ⟨x, rfl⟩ := Int.eq_ofNat_of_zero_le h
  rfl
theorem all64 {P : Nat → Prop} [DecidablePred P] (h : (List.range 64).all (fun n => decide (P n)) = true) {n : Nat} (hn : n < 64) : P n := by
  have := List.all_eq_true.mp h n (List.mem_range.mpr hn)
  exact of_decide_eq_true this
theorem sh_amt {n : Nat} (hn : n < 64) : (((iI (n : Int)).toInt64 &&& 63).toBitVec.smod 64).toNat = n := all64 (P := fun n => (((iI (n : Int)).toInt64 &&& 63).toBitVec.smod 64).toNat = n) (by decide +kernel) hn
theorem tb_one : ∀ i, Nat.testBit 1 i = decide (i = 0)
  | 0 => rfl
  | i + 1 => by
    rw [Nat.testBit_succ, decide_eq_false (by omega)]
    exact Nat.zero_testBit i
theorem bit_shr {x : Int64} {n : Nat} (hn : n < 64) : ((x >>> ((iI (n : Int)).toInt64 &&& 63)) &&& 1) = if x.toBitVec.getLsbD n then 1 else 0 := by
  apply Int64.toBitVec_inj.mp
  apply BitVec.eq_of_getLsbD_eq
  intro i hi
  rw [Int64.toBitVec_and, Int64.toBitVec_shiftRight, BitVec.getLsbD_and, BitVec.sshiftRight_eq', sh_amt hn, BitVec.getLsbD_sshiftRight]
  by_cases h0 : i = 0
  · subst h0
    rw [Nat.add_zero, if_pos hn]
    cases hb : x.toBitVec.getLsbD n <;> decide
  · have h1 : (1 : Int64).toBitVec.getLsbD i = false := by
      show BitVec.getLsbD (BitVec.ofNat 64 1) i = false
      rw [BitVec.getLsbD_ofNat, tb_one, decide_eq_false h0, Bool.and_false]
    rw [h1, Bool.and_false]
    split
    · exact h1.symm
    · simp
theorem bit_cmp {x : Int64} {n : Nat} (hn : n < 64) : (lg_cmp ((x >>> ((iI (n : Int)).toInt64 &&& 63)) &&& Int64.ofNat (1 : Fin 2)) (Int64.ofNat (1 : Fin 2))).toInt = if x.toBitVec.getLsbD n then 0 else -1 := by
  have e : (Int64.ofNat ((1 : Fin 2) : Nat)) = 1 := rfl
  rw [e, bit_shr hn]
  split <;> decide
theorem sh_one {n : Nat} (hn : n < 64) (j : Nat) (hj : j < 64) : (Int64.ofNat (1 : Fin 2) <<< ((iI (n : Int)).toInt64 &&& 63)).toBitVec.getLsbD j = decide (j = n) := by
  rw [Int64.toBitVec_shiftLeft, BitVec.shiftLeft_eq', sh_amt hn, BitVec.getLsbD_shiftLeft]
  have e : (Int64.ofNat ((1 : Fin 2) : Nat)).toBitVec = BitVec.ofNat 64 1 := rfl
  rw [e, BitVec.getLsbD_ofNat, tb_one]
  by_cases h : j = n
  · subst h
    simp [hj]
  · by_cases h2 : j < n
    · simp [h2, h]
    · have : ¬ j - n = 0 := by omega
      simp [this, h]
theorem bits_or {x : Int64} {f : Nat → Bool} (hx : ∀ j, j < 64 → x.toBitVec.getLsbD j = f j) {n : Nat} (hn : n < 64) : ∀ j, j < 64 → (x ||| (Int64.ofNat (1 : Fin 2) <<< ((iI (n : Int)).toInt64 &&& 63))).toBitVec.getLsbD j = va_up f n true j := by
  intro j hj
  rw [Int64.toBitVec_or, BitVec.getLsbD_or, hx j hj, sh_one hn j hj]
  by_cases h : j = n
  · subst h
    rw [va_up_self]
    simp
  · rw [va_up_ne _ _ h]
    simp [h]
theorem neg1_bit {j : Nat} (hj : j < 64) : (-1 : Int64).toBitVec.getLsbD j = true := all64 (P := fun j => (-1 : Int64).toBitVec.getLsbD j = true) (by decide +kernel) hj
theorem bits_andn {x : Int64} {f : Nat → Bool} (hx : ∀ j, j < 64 → x.toBitVec.getLsbD j = f j) {n : Nat} (hn : n < 64) : ∀ j, j < 64 → (x &&& ((Int64.ofNat (1 : Fin 2) <<< ((iI (n : Int)).toInt64 &&& 63)) ^^^ (-1))).toBitVec.getLsbD j = va_up f n false j := by
  intro j hj
  rw [Int64.toBitVec_and, BitVec.getLsbD_and, Int64.toBitVec_xor, BitVec.getLsbD_xor, neg1_bit hj, hx j hj, sh_one hn j hj]
  by_cases h : j = n
  · subst h
    rw [va_up_self]
    simp
  · rw [va_up_ne _ _ h]
    simp [h]
theorem kne {k a b : Nat} (h : Nat.beq a b = false) : k + a ≠ k + b := fun q => by
  have e : a = b := Nat.add_left_cancel q
  subst e
  rw [Nat.beq_refl] at h
  cases h
theorem kz {k b : Nat} : k ≠ k + (b + 1) := fun q => by omega
