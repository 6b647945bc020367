/-! ===== the model: runScript, simulate ===== -/
theorem i64_div {a b : Int64} {x y : Nat} (ha : a.toInt = x) (hb : b.toInt = y) : (a / b).toInt = ((x / y : Nat) : Int) := by
  rw [Int64.toInt_div_of_ne_right a b (fun q => by
    rw [q] at hb
    have : (-1 : Int64).toInt = -1 := by decide
    omega), ha, hb]
  exact (Int.ofNat_tdiv x y).symm
theorem i64_rem {a b : Int64} {x y : Nat} (ha : a.toInt = x) (hb : b.toInt = y) : (a - a / b * b).toInt = ((x % y : Nat) : Int) := by
  have hx := Int64.toInt_lt a
  rw [ha] at hx
  have hq := i64_div ha hb
  have hle : x / y * y ≤ x := Nat.div_mul_le_self x y
  have hmm := Nat.div_add_mod' x y
  have hm : (a / b * b).toInt = ((x / y * y : Nat) : Int) := by
    rw [Int64.toInt_mul, hq, hb, ← Int.natCast_mul]
    exact Int.bmod_eq_of_le_mul_two (by omega) (by omega)
  rw [Int64.toInt_sub, ha, hm, Int.bmod_eq_of_le_mul_two (by omega) (by omega)]
  omega
theorem i64_l2i {a : Int64} {x : Nat} (ha : a.toInt = x) (hx : x < 2147483648) : a.toInt32.toInt = (x : Int) := by
  rw [Int64.toInt_toInt32, ha]
  exact Int.bmod_eq_of_le_mul_two (by omega) (by omega)
theorem cmp_lt (a b : Int64) : (lg_cmp a b).toInt < 0 ↔ a.toInt < b.toInt := by
  unfold lg_cmp
  by_cases h1 : a > b
  · rw [if_pos h1]
    rw [gt_iff_lt, Int64.lt_iff_toInt_lt] at h1
    exact ⟨fun h => absurd h (by decide), fun h => by omega⟩
  · rw [if_neg h1]
    rw [gt_iff_lt, Int64.lt_iff_toInt_lt] at h1
    by_cases h2 : a = b
    · rw [if_pos h2, h2]
      exact ⟨fun h => absurd h (by decide), fun h => by omega⟩
    · rw [if_neg h2]
      have h3 : ¬ a.toInt = b.toInt := fun q => h2 (Int64.toInt_inj.mp q)
      exact ⟨fun _ => by omega, fun _ => by decide⟩
def gk9 (s r : Nat) : Nat := s / 100000 ^ r % 100000
/-- a script's commands, one behind the other: r are left, k have been run -/
def scF (s : Nat) : Nat → Nat → Gr → Int
  | 0, _, _ => -9
  | r + 1, k, G => if (cmF G (gk9 s r)).1 = true then scF s r (k + 1) (cmF G (gk9 s r)).2 else (k : Int)
def opRunScript (y : Sy) (n : Int) (sc : Int64) : Op := if (1 ≤ n ∧ n ≤ 3) ∧ 0 ≤ sc.toInt ∧ sc.toInt < 100000 ^ n.toNat then (0, scF sc.toInt.toNat n.toNat 0 y.1, y) else (1, 0, y)
def rnd (x : Int64) : Nat := uN x / 2 ^ 33
theorem rnd_lt (x : Int64) : rnd x < 2147483648 := by
  have := uN_lt x
  unfold rnd
  omega
theorem rnd_eq (x : Int64) : ((x.toUInt64 >>> ((iI 33).toInt64.toUInt64 &&& Int64.toUInt64 63)).toInt64).toInt32.toInt = ((rnd x : Nat) : Int) := by
  have h1 : uN (lsr x 33) = uN x / 2 ^ 33 := uN_lsr x (by decide)
  have h2 := rnd_lt x
  have h3 : (lsr x 33).toInt = ((rnd x : Nat) : Int) := by
    show (lsr x 33).toBitVec.toInt = _
    have h4 : (lsr x 33).toBitVec.toNat = rnd x := h1
    rw [BitVec.toInt_eq_toNat_of_lt (by rw [h4]; omega), h4]
  exact i64_l2i h3 h2
def smS (G : Gr) (r : Nat) : Gr := if r % 2 = 1 then setL G (r / 2 % qM G) (97 + ((r / 128 % 3 : Nat) : Int)) else
  (if qPb G (r / 2 % (2 * qM G) / 2) (decide (r / 2 % (2 * qM G) % 2 = 1)) = true then setBr G (r / 2 % (2 * qM G) / 2) (decide (r / 2 % (2 * qM G) % 2 = 1)) (!qB G (decide (r / 2 % (2 * qM G) % 2 = 1)) (r / 2 % (2 * qM G) / 2)) else G)
def nxL (x : Int64) : Int64 := x * 6364136223846793005 + 1442695040888963407
def smG (f : Int64 → Int64) (g : Int64 → Nat) : Nat → Int64 → Gr → Gr
  | 0, _, G => G
  | r + 1, x, G => smG f g r (f x) (smS G (g (f x)))
theorem smG_S {f : Int64 → Int64} {g : Int64 → Nat} {r : Nat} {x : Int64} {G : Gr} : smG f g (r + 1) x G = smG f g r (f x) (smS G (g (f x))) := rfl
def opSimulate (y : Sy) (x : Int64) (m : Int) : Op := if 1 ≤ m ∧ m ≤ 99 then (0, 1000 * ((kpG (smG nxL rnd m.toNat x y.1) : Nat) : Int) + 10 * ((nE (smG nxL rnd m.toNat x y.1) : Nat) : Int) + (((rdS (smG nxL rnd m.toNat x y.1) false 9).1 : Nat) : Int), y) else (1, 0, y)
theorem sm_ok {G : Gr} (hG : okG G) {r : Nat} : okG (smS G r) := by
  unfold smS
  split
  · exact ok_setL hG (Or.inr ⟨by omega, by omega⟩)
  · split
    · rename_i q
      exact ok_setBr hG (qPb_iff.mp q)
    · exact hG
theorem smG_ok {f : Int64 → Int64} {g : Int64 → Nat} (r : Nat) : ∀ (x : Int64) (G : Gr), okG G → okG (smG f g r x G) := by
  induction r with
  | zero =>
    intro x G h
    exact h
  | succ r ih =>
    intro x G h
    rw [smG_S]
    exact ih _ _ (sm_ok h)
theorem isMo_w2 {h h' : AH} {G : Gr} {hist : List Gr} {sl : Nat → Option Gr} {n : Nat} {tx : Nat → Int} {th th' : Int} {D : Nat → Int} (hY : isMo h (G, hist, sl, n, tx) th) (hM : isMg h' G th' n hist.length) (hW : isWk h') (e : h' 126 = eI 174 D) (hf : ∀ j, ¬ (j = 122 ∨ j = 124 ∨ j = 126 ∨ (130 ≤ j ∧ j ≤ 138)) → h' j = h j) : isMo h' (G, hist, sl, n, tx) th' := by
  obtain ⟨-, hG, hT, hHi, hSv, ⟨⟨a, ha⟩, -, -, -, -⟩⟩ := hY
  exact ⟨hM, hG, isMt_fr hT (hf _ (by decide)), isHi_fr hHi (hf _ (by decide)), isSv_fr hSv (hf _ (by decide)) (hf _ (by decide)), ⟨a, (hf _ (by decide)).trans ha⟩, ⟨D, e⟩, hW.1, hW.2.1, hW.2.2⟩
