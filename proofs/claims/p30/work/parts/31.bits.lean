/-! ===== counting bits ===== -/
theorem land_256 {a b c d : Nat} (hb : b < 256) (hd : d < 256) : (256 * a + b) &&& (256 * c + d) = 256 * (a &&& c) + (b &&& d) := by
  have h1 : ((256 * a + b) &&& (256 * c + d)) / 2 ^ 8 = a &&& c := by
    rw [Nat.and_div_two_pow, show (256 * a + b) / 2 ^ 8 = a by omega, show (256 * c + d) / 2 ^ 8 = c by omega]
  have h2 : ((256 * a + b) &&& (256 * c + d)) % 2 ^ 8 = b &&& d := by
    rw [Nat.and_mod_two_pow, show (256 * a + b) % 2 ^ 8 = b by omega, show (256 * c + d) % 2 ^ 8 = d by omega]
  have h3 := Nat.div_add_mod ((256 * a + b) &&& (256 * c + d)) (2 ^ 8)
  rw [h1, h2] at h3
  omega
theorem all256 {P : Nat → Prop} [DecidablePred P] (h : (List.range 256).all (fun n => decide (P n)) = true) {n : Nat} (hn : n < 256) : P n := by
  have := List.all_eq_true.mp h n (List.mem_range.mpr hn)
  exact of_decide_eq_true this
def pcN : Nat → Nat → Nat
  | 0, _ => 0
  | k + 1, n => n % 2 + pcN k (n / 2)
def mkN (v : Nat) : Nat → Nat
  | 0 => 0
  | k + 1 => 256 * mkN v k + v
def sA (k n : Nat) : Nat := n - ((n / 2) &&& mkN 85 k)
def sB (k n : Nat) : Nat := (n &&& mkN 51 k) + ((n / 4) &&& mkN 51 k)
def sC (k n : Nat) : Nat := (n + n / 16) &&& mkN 15 k
theorem lowA {r q : Nat} (hr : r < 256) (hq : q < 2) : (128 * q + r / 2) &&& 85 = (r / 2) &&& 85 := all256 (P := fun r => ∀ q, q < 2 → (128 * q + r / 2) &&& 85 = (r / 2) &&& 85) (by decide +kernel) hr q hq
theorem lowB {r q : Nat} (hr : r < 256) (hq : q < 4) : (64 * q + r / 4) &&& 51 = (r / 4) &&& 51 := all256 (P := fun r => ∀ q, q < 4 → (64 * q + r / 4) &&& 51 = (r / 4) &&& 51) (by decide +kernel) hr q hq
theorem sA_step {k m r : Nat} (hr : r < 256) : sA (k + 1) (256 * m + r) = 256 * sA k m + sA 1 r := by
  have e : (256 * m + r) / 2 = 256 * (m / 2) + (128 * (m % 2) + r / 2) := by omega
  have e2 : sA 1 r = r - ((r / 2) &&& 85) := rfl
  rw [e2]
  unfold sA
  rw [e, show mkN 85 (k + 1) = 256 * mkN 85 k + 85 from rfl, land_256 (by omega) (by decide), lowA hr (by omega)]
  have h1 : (m / 2 &&& mkN 85 k) ≤ m / 2 := Nat.and_le_left
  have h3 : (r / 2 &&& 85) ≤ r / 2 := Nat.and_le_left
  omega
theorem sB_step {k m r : Nat} (hr : r < 256) : sB (k + 1) (256 * m + r) = 256 * sB k m + sB 1 r := by
  have e : (256 * m + r) / 4 = 256 * (m / 4) + (64 * (m % 4) + r / 4) := by omega
  have e2 : sB 1 r = (r &&& 51) + ((r / 4) &&& 51) := rfl
  rw [e2]
  unfold sB
  rw [e, show mkN 51 (k + 1) = 256 * mkN 51 k + 51 from rfl, land_256 hr (by decide), land_256 (by omega) (by decide), lowB hr (by omega)]
  omega
theorem and15 (n : Nat) : n &&& 15 = n % 16 := Nat.and_two_pow_sub_one_eq_mod n 4
theorem sC_step {k m r : Nat} (hm : m % 16 ≤ 4) (hr : r ≤ 68) : sC (k + 1) (256 * m + r) = 256 * sC k m + sC 1 r := by
  have e : 256 * m + r + (256 * m + r) / 16 = 256 * (m + m / 16) + (r + 16 * (m % 16) + r / 16) := by omega
  have e2 : sC 1 r = (r + r / 16) &&& 15 := rfl
  rw [e2]
  unfold sC
  rw [e, show mkN 15 (k + 1) = 256 * mkN 15 k + 15 from rfl, land_256 (by omega) (by decide), and15, and15]
  omega
def byT (r : Nat) : Prop := sB 1 (sA 1 r) ≤ 68 ∧ sB 1 (sA 1 r) % 16 ≤ 4 ∧ sC 1 (sB 1 (sA 1 r)) = pcN 8 r ∧ pcN 8 r ≤ 8 ∧ sA 1 r < 256
theorem by_all {r : Nat} (hr : r < 256) : byT r := all256 (P := fun r => sB 1 (sA 1 r) ≤ 68 ∧ sB 1 (sA 1 r) % 16 ≤ 4 ∧ sC 1 (sB 1 (sA 1 r)) = pcN 8 r ∧ pcN 8 r ≤ 8 ∧ sA 1 r < 256) (by decide +kernel) hr
theorem sBA_step {k m r : Nat} (hr : r < 256) : sB (k + 1) (sA (k + 1) (256 * m + r)) = 256 * sB k (sA k m) + sB 1 (sA 1 r) := by
  rw [sA_step hr, sB_step (by_all hr).2.2.2.2]
theorem sBA_16 : ∀ (k m : Nat), sB k (sA k m) % 16 ≤ 4
  | 0, m => by
    have e : sB 0 (sA 0 m) = 0 := by
      unfold sB
      rw [show mkN 51 0 = 0 from rfl, Nat.and_zero, Nat.and_zero]
    rw [e]
    decide
  | k + 1, m => by
    have hr : m % 256 < 256 := Nat.mod_lt _ (by decide)
    have e : m = 256 * (m / 256) + m % 256 := by omega
    rw [e, sBA_step hr]
    have := (by_all hr).2.1
    omega
def sS (k n : Nat) : Nat := sC k (sB k (sA k n))
theorem sS_step {k m r : Nat} (hr : r < 256) : sS (k + 1) (256 * m + r) = 256 * sS k m + pcN 8 r := by
  unfold sS
  obtain ⟨h1, -, h3, -⟩ := by_all hr
  rw [sBA_step hr, sC_step (sBA_16 k m) h1, h3]
theorem sS_zero (n : Nat) : sS 0 n = 0 := by
  unfold sS sC
  rw [show mkN 15 0 = 0 from rfl, Nat.and_zero]
theorem pc_add : ∀ (a b n : Nat), pcN (a + b) n = pcN a n + pcN b (n / 2 ^ a)
  | 0, b, n => by
    rw [Nat.zero_add, Nat.pow_zero, Nat.div_one]
    simp only [pcN, Nat.zero_add]
  | a + 1, b, n => by
    rw [show a + 1 + b = (a + b) + 1 by omega]
    simp only [pcN]
    rw [pc_add a b (n / 2), Nat.div_div_eq_div_mul, Nat.pow_succ, Nat.mul_comm 2 (2 ^ a)]
    omega
theorem pc_8 (m r : Nat) : pcN 8 (256 * m + r) = pcN 8 r := by
  simp only [pcN]
  omega
theorem pc_step {k m r : Nat} (hr : r < 256) : pcN (8 + k) (256 * m + r) = pcN 8 r + pcN k m := by
  rw [pc_add, pc_8, show (256 * m + r) / 2 ^ 8 = m by omega]
theorem dvN {a b m : Nat} (hm : 0 < m) (ha : a < m) : (a + m * b) / m = b := by
  rw [Nat.add_mul_div_left _ _ hm, Nat.div_eq_of_lt ha, Nat.zero_add]
theorem pc_f4 {y y1 y2 y3 p0 p1 p2 : Nat} (s0 : y = 256 * y1 + p0) (s1 : y1 = 256 * y2 + p1) (s2 : y2 = 256 * y3 + p2) : y + y1 = (p0 + p1 + 256 * (p1 + p2)) + 65536 * (y2 + y3) := by omega
theorem pc_f5 {y2 y3 y4 y5 y6 y7 p0 p1 p2 p3 p4 p5 p6 : Nat} (s2 : y2 = 256 * y3 + p2) (s3 : y3 = 256 * y4 + p3) (s4 : y4 = 256 * y5 + p4) (s5 : y5 = 256 * y6 + p5) (s6 : y6 = 256 * y7 + p6) : (p0 + p1 + 256 * (p1 + p2)) + 65536 * (y2 + y3) + (y2 + y3) = (p0 + p1 + p2 + p3 + 256 * (p1 + p2 + p3 + p4) + 65536 * (p2 + p3 + p4 + p5) + 16777216 * (p3 + p4 + p5 + p6)) + 4294967296 * (y4 + y5 + y6 + y7) := by omega
theorem pc_f6 {y4 y5 y6 y7 p0 p1 p2 p3 p4 p5 p6 p7 : Nat} (s4 : y4 = 256 * y5 + p4) (s5 : y5 = 256 * y6 + p5) (s6 : y6 = 256 * y7 + p6) (s7 : y7 = p7) : (p0 + p1 + p2 + p3 + 256 * (p1 + p2 + p3 + p4) + 65536 * (p2 + p3 + p4 + p5) + 16777216 * (p3 + p4 + p5 + p6)) + 4294967296 * (y4 + y5 + y6 + y7) + (y4 + y5 + y6 + y7) = (p0 + p1 + p2 + p3 + p4 + p5 + p6 + p7) + 128 * (2 * (p1 + p2 + p3 + p4 + 256 * (p2 + p3 + p4 + p5) + 65536 * (p3 + p4 + p5 + p6) + 16777216 * (y4 + y5 + y6 + y7) + (y5 + y6 + y7))) := by omega
theorem pc_bd {y y1 y2 y3 y4 y5 y6 y7 p0 p1 p2 p3 p4 p5 p6 p7 : Nat} (s0 : y = 256 * y1 + p0) (s1 : y1 = 256 * y2 + p1) (s2 : y2 = 256 * y3 + p2) (s3 : y3 = 256 * y4 + p3) (s4 : y4 = 256 * y5 + p4) (s5 : y5 = 256 * y6 + p5) (s6 : y6 = 256 * y7 + p6) (s7 : y7 = p7) (b0 : p0 ≤ 8) (b1 : p1 ≤ 8) (b2 : p2 ≤ 8) (b3 : p3 ≤ 8) (b4 : p4 ≤ 8) (b5 : p5 ≤ 8) (b6 : p6 ≤ 8) (b7 : p7 ≤ 8) : y ≤ 578721382704613384 ∧ y1 ≤ 2260630401189896 ∧ y2 ≤ 8830587504648 ∧ y3 ≤ 34494482440 ∧ y4 ≤ 134744072 ∧ y5 ≤ 526344 ∧ y6 ≤ 2056 ∧ y7 ≤ 8 := by
  have l7 : y7 ≤ 8 := by rw [s7]; exact b7
  have l6 : y6 ≤ 2056 := by
    clear s0 s1 s2 s3 s4 s5
    omega
  have l5 : y5 ≤ 526344 := by
    clear s0 s1 s2 s3 s4 s6 s7
    omega
  have l4 : y4 ≤ 134744072 := by
    clear s0 s1 s2 s3 s5 s6 s7
    omega
  have l3 : y3 ≤ 34494482440 := by
    clear s0 s1 s2 s4 s5 s6 s7
    omega
  have l2 : y2 ≤ 8830587504648 := by
    clear s0 s1 s3 s4 s5 s6 s7
    omega
  have l1 : y1 ≤ 2260630401189896 := by
    clear s0 s2 s3 s4 s5 s6 s7
    omega
  have l0 : y ≤ 578721382704613384 := by
    clear s1 s2 s3 s4 s5 s6 s7
    omega
  exact ⟨l0, l1, l2, l3, l4, l5, l6, l7⟩
theorem pc_lo {p0 p1 p2 p3 p4 p5 p6 p7 : Nat} (b0 : p0 ≤ 8) (b1 : p1 ≤ 8) (b2 : p2 ≤ 8) (b3 : p3 ≤ 8) (b4 : p4 ≤ 8) (b5 : p5 ≤ 8) (b6 : p6 ≤ 8) (b7 : p7 ≤ 8) : p0 < 256 ∧ p0 + p1 + 256 * (p1 + p2) < 65536 ∧ p0 + p1 + p2 + p3 + 256 * (p1 + p2 + p3 + p4) + 65536 * (p2 + p3 + p4 + p5) + 16777216 * (p3 + p4 + p5 + p6) < 4294967296 ∧ p0 + p1 + p2 + p3 + p4 + p5 + p6 + p7 < 128 := ⟨by omega, by omega, by omega, by omega⟩
theorem pc_fin {y y1 y2 y3 y4 y5 y6 y7 p0 p1 p2 p3 p4 p5 p6 p7 : Nat} (s0 : y = 256 * y1 + p0) (s1 : y1 = 256 * y2 + p1) (s2 : y2 = 256 * y3 + p2) (s3 : y3 = 256 * y4 + p3) (s4 : y4 = 256 * y5 + p4) (s5 : y5 = 256 * y6 + p5) (s6 : y6 = 256 * y7 + p6) (s7 : y7 = p7) (b0 : p0 ≤ 8) (b1 : p1 ≤ 8) (b2 : p2 ≤ 8) (b3 : p3 ≤ 8) (b4 : p4 ≤ 8) (b5 : p5 ≤ 8) (b6 : p6 ≤ 8) (b7 : p7 ≤ 8) : ∃ z4 z5 z6, z4 = y + y / 256 ∧ z5 = z4 + z4 / 65536 ∧ z6 = z5 + z5 / 4294967296 ∧ z6 % 128 = p0 + p1 + p2 + p3 + p4 + p5 + p6 + p7 ∧ y < 2 ^ 60 ∧ z6 < 2 ^ 63 := by
  obtain ⟨l0, l1, l2, l3, l4, l5, l6, l7⟩ := pc_bd s0 s1 s2 s3 s4 s5 s6 s7 b0 b1 b2 b3 b4 b5 b6 b7
  obtain ⟨q0, q1, q2, q3⟩ := pc_lo b0 b1 b2 b3 b4 b5 b6 b7
  have f4 := pc_f4 s0 s1 s2
  have f5 := pc_f5 (p0 := p0) (p1 := p1) s2 s3 s4 s5 s6
  have f6 := pc_f6 (p0 := p0) (p1 := p1) (p2 := p2) (p3 := p3) s4 s5 s6 s7
  have d4 : y / 256 = y1 := by
    rw [s0, Nat.add_comm]
    exact dvN (by decide) q0
  have d5 : (y + y1) / 65536 = y2 + y3 := by
    rw [f4]
    exact dvN (by decide) q1
  have d6 : (y + y1 + (y2 + y3)) / 4294967296 = y4 + y5 + y6 + y7 := by
    rw [f4, f5]
    exact dvN (by decide) q2
  refine ⟨y + y1, y + y1 + (y2 + y3), y + y1 + (y2 + y3) + (y4 + y5 + y6 + y7), by rw [d4], by rw [d5], by rw [d6], ?_, ?_, ?_⟩
  · rw [f4, f5, f6, Nat.add_mul_mod_self_left]
    exact Nat.mod_eq_of_lt q3
  · clear f4 f5 f6 d4 d5 d6 s0 s1 s2 s3 s4 s5 s6 s7
    omega
  · clear f4 f5 f6 d4 d5 d6 s0 s1 s2 s3 s4 s5 s6 s7
    omega
/-- the whole sum -/
theorem pc_sum {n : Nat} (hn : n < 2 ^ 64) : ∃ z4 z5 z6, z4 = sS 8 n + sS 8 n / 256 ∧ z5 = z4 + z4 / 65536 ∧ z6 = z5 + z5 / 4294967296 ∧ z6 % 128 = pcN 64 n ∧ sS 8 n < 2 ^ 60 ∧ z6 < 2 ^ 63 := by
  obtain ⟨m1, r0, h0, e0⟩ : ∃ m r, r < 256 ∧ n = 256 * m + r := ⟨n / 256, n % 256, Nat.mod_lt _ (by decide), by omega⟩
  obtain ⟨m2, r1, h1, e1⟩ : ∃ m r, r < 256 ∧ m1 = 256 * m + r := ⟨m1 / 256, m1 % 256, Nat.mod_lt _ (by decide), by omega⟩
  obtain ⟨m3, r2, h2, e2⟩ : ∃ m r, r < 256 ∧ m2 = 256 * m + r := ⟨m2 / 256, m2 % 256, Nat.mod_lt _ (by decide), by omega⟩
  obtain ⟨m4, r3, h3, e3⟩ : ∃ m r, r < 256 ∧ m3 = 256 * m + r := ⟨m3 / 256, m3 % 256, Nat.mod_lt _ (by decide), by omega⟩
  obtain ⟨m5, r4, h4, e4⟩ : ∃ m r, r < 256 ∧ m4 = 256 * m + r := ⟨m4 / 256, m4 % 256, Nat.mod_lt _ (by decide), by omega⟩
  obtain ⟨m6, r5, h5, e5⟩ : ∃ m r, r < 256 ∧ m5 = 256 * m + r := ⟨m5 / 256, m5 % 256, Nat.mod_lt _ (by decide), by omega⟩
  obtain ⟨m7, r6, h6, e6⟩ : ∃ m r, r < 256 ∧ m6 = 256 * m + r := ⟨m6 / 256, m6 % 256, Nat.mod_lt _ (by decide), by omega⟩
  have h7 : m7 < 256 := by omega
  have e7 : m7 = 256 * 0 + m7 := by omega
  have s0 : sS 8 n = 256 * sS 7 m1 + pcN 8 r0 := by rw [e0]; exact sS_step h0
  have s1 : sS 7 m1 = 256 * sS 6 m2 + pcN 8 r1 := by rw [e1]; exact sS_step h1
  have s2 : sS 6 m2 = 256 * sS 5 m3 + pcN 8 r2 := by rw [e2]; exact sS_step h2
  have s3 : sS 5 m3 = 256 * sS 4 m4 + pcN 8 r3 := by rw [e3]; exact sS_step h3
  have s4 : sS 4 m4 = 256 * sS 3 m5 + pcN 8 r4 := by rw [e4]; exact sS_step h4
  have s5 : sS 3 m5 = 256 * sS 2 m6 + pcN 8 r5 := by rw [e5]; exact sS_step h5
  have s6 : sS 2 m6 = 256 * sS 1 m7 + pcN 8 r6 := by rw [e6]; exact sS_step h6
  have s7 : sS 1 m7 = pcN 8 m7 := by
    have this : sS 1 (256 * 0 + m7) = 256 * sS 0 0 + pcN 8 m7 := sS_step (k := 0) (m := 0) h7
    rw [← e7, sS_zero] at this
    omega
  have c0 : pcN 64 n = pcN 8 r0 + pcN 56 m1 := by rw [e0]; exact pc_step (k := 56) h0
  have c1 : pcN 56 m1 = pcN 8 r1 + pcN 48 m2 := by rw [e1]; exact pc_step (k := 48) h1
  have c2 : pcN 48 m2 = pcN 8 r2 + pcN 40 m3 := by rw [e2]; exact pc_step (k := 40) h2
  have c3 : pcN 40 m3 = pcN 8 r3 + pcN 32 m4 := by rw [e3]; exact pc_step (k := 32) h3
  have c4 : pcN 32 m4 = pcN 8 r4 + pcN 24 m5 := by rw [e4]; exact pc_step (k := 24) h4
  have c5 : pcN 24 m5 = pcN 8 r5 + pcN 16 m6 := by rw [e5]; exact pc_step (k := 16) h5
  have c6 : pcN 16 m6 = pcN 8 r6 + pcN 8 m7 := by rw [e6]; exact pc_step (k := 8) h6
  have b0 := (by_all h0).2.2.2.1
  have b1 := (by_all h1).2.2.2.1
  have b2 := (by_all h2).2.2.2.1
  have b3 := (by_all h3).2.2.2.1
  have b4 := (by_all h4).2.2.2.1
  have b5 := (by_all h5).2.2.2.1
  have b6 := (by_all h6).2.2.2.1
  have b7 := (by_all h7).2.2.2.1
  generalize pcN 8 r0 = p0 at *
  generalize pcN 8 r1 = p1 at *
  generalize pcN 8 r2 = p2 at *
  generalize pcN 8 r3 = p3 at *
  generalize pcN 8 r4 = p4 at *
  generalize pcN 8 r5 = p5 at *
  generalize pcN 8 r6 = p6 at *
  generalize pcN 8 m7 = p7 at *
  have q0 : pcN 64 n = p0 + p1 + p2 + p3 + p4 + p5 + p6 + p7 := by omega
  rw [q0]
  clear q0 c0 c1 c2 c3 c4 c5 c6 e0 e1 e2 e3 e4 e5 e6 e7 h0 h1 h2 h3 h4 h5 h6 h7 hn
  generalize sS 8 n = y at *
  generalize sS 7 m1 = y1 at *
  generalize sS 6 m2 = y2 at *
  generalize sS 5 m3 = y3 at *
  generalize sS 4 m4 = y4 at *
  generalize sS 3 m5 = y5 at *
  generalize sS 2 m6 = y6 at *
  generalize sS 1 m7 = y7 at *
  exact pc_fin s0 s1 s2 s3 s4 s5 s6 s7 b0 b1 b2 b3 b4 b5 b6 b7
theorem ct_pc (n : Nat) : ∀ r i, ctF (fun j => n.testBit j) r i = pcN r (n / 2 ^ i)
  | 0, _ => rfl
  | r + 1, i => by
    simp only [ctF, pcN]
    rw [ct_pc n r (i + 1), Nat.testBit_eq_decide_div_mod_eq, Nat.div_div_eq_div_mul, Nat.pow_succ]
    by_cases q : n / 2 ^ i % 2 = 1
    · rw [decide_eq_true q, q]
      rfl
    · rw [decide_eq_false q, show n / 2 ^ i % 2 = 0 by omega]
      rfl
def uN (x : Int64) : Nat := x.toBitVec.toNat
theorem uN_lt (x : Int64) : uN x < 2 ^ 64 := x.toBitVec.isLt
def lsr (x : Int64) (k : Int) : Int64 := (x.toUInt64 >>> ((iI k).toInt64.toUInt64 &&& Int64.toUInt64 63)).toInt64
theorem uN_lsr (x : Int64) {k : Int} {j : Nat} (hk : (((iI k).toInt64.toUInt64 &&& Int64.toUInt64 63).toBitVec % 64).toNat = j) : uN (lsr x k) = uN x / 2 ^ j := by
  show (x.toBitVec >>> (((iI k).toInt64.toUInt64 &&& Int64.toUInt64 63).toBitVec % 64)).toNat = _
  rw [BitVec.ushiftRight_eq', BitVec.toNat_ushiftRight, hk, Nat.shiftRight_eq_div_pow]
  rfl
theorem uN_and (a b : Int64) : uN (a &&& b) = uN a &&& uN b := by
  unfold uN
  rw [Int64.toBitVec_and, BitVec.toNat_and]
theorem uN_add {a b : Int64} (h : uN a + uN b < 2 ^ 64) : uN (a + b) = uN a + uN b := by
  show (a.toBitVec.toNat + b.toBitVec.toNat) % 2 ^ 64 = _
  exact Nat.mod_eq_of_lt h
theorem uN_sub {a b : Int64} (h : uN b ≤ uN a) : uN (a - b) = uN a - uN b := by
  show (2 ^ 64 - uN b + uN a) % 2 ^ 64 = _
  have := uN_lt a
  omega
theorem l2i_127 (x : Int64) : (iI x.toInt32.toInt &&& iI 127).toInt = ((uN x % 128 : Nat) : Int) := by
  have e1 : iI x.toInt32.toInt = x.toInt32 := Int32.ofInt_toInt _
  rw [e1]
  have e2 : ((x.toInt32 &&& iI 127).toBitVec).toNat = uN x % 128 := by
    rw [Int32.toBitVec_and, Int64.toBitVec_toInt32, BitVec.toNat_and]
    have e3 : (iI 127).toBitVec.toNat = 2 ^ 7 - 1 := by decide
    rw [e3, Nat.and_two_pow_sub_one_eq_mod, BitVec.signExtend_eq_setWidth_of_le _ (by decide), BitVec.toNat_setWidth]
    show uN x % 2 ^ 32 % 2 ^ 7 = uN x % 128
    omega
  show ((x.toInt32 &&& iI 127).toBitVec).toInt = _
  rw [BitVec.toInt_eq_toNat_of_lt (by rw [e2]; omega), e2]
def bc1 (x : Int64) : Int64 := x - (lsr x 1 &&& 6148914691236517205)
def bc2 (x : Int64) : Int64 := (x &&& 3689348814741910323) + (lsr x 2 &&& 3689348814741910323)
def bc3 (x : Int64) : Int64 := (x + lsr x 4) &&& 1085102592571150095
def bc4 (x : Int64) (k : Int) : Int64 := x + lsr x k
def pop (x : Int64) : Nat := ctF (fun j => x.toBitVec.getLsbD j) 64 0
theorem pop_pc (x : Int64) : pop x = pcN 64 (uN x) := by
  have := ct_pc (uN x) 64 0
  rw [Nat.pow_zero, Nat.div_one] at this
  exact this
theorem mk_le (v : Nat) {n : Nat} : (n &&& mkN v 8) ≤ mkN v 8 := Nat.and_le_right
theorem bc_eq (x : Int64) : (iI (bc4 (bc4 (bc4 (bc3 (bc2 (bc1 x))) 8) 16) 32).toInt32.toInt &&& iI 127).toInt = ((pop x : Nat) : Int) := by
  rw [l2i_127, pop_pc]
  have k5 : uN (6148914691236517205 : Int64) = mkN 85 8 := by decide
  have k3 : uN (3689348814741910323 : Int64) = mkN 51 8 := by decide
  have kF : uN (1085102592571150095 : Int64) = mkN 15 8 := by decide
  have v5 : mkN 85 8 = 6148914691236517205 := by decide
  have v3 : mkN 51 8 = 3689348814741910323 := by decide
  have vF : mkN 15 8 = 1085102592571150095 := by decide
  have hx := uN_lt x
  have a1 : uN (bc1 x) = sA 8 (uN x) := by
    have e : uN (lsr x 1 &&& 6148914691236517205) = (uN x / 2) &&& mkN 85 8 := by rw [uN_and, uN_lsr x (j := 1) (by decide), k5]
    have h1 : (uN x / 2 &&& mkN 85 8) ≤ uN x / 2 := Nat.and_le_left
    unfold bc1
    rw [uN_sub (by rw [e]; omega), e]
    rfl
  have a2 : uN (bc2 (bc1 x)) = sB 8 (sA 8 (uN x)) := by
    have e : uN (lsr (bc1 x) 2 &&& 3689348814741910323) = (uN (bc1 x) / 4) &&& mkN 51 8 := by rw [uN_and, uN_lsr _ (j := 2) (by decide), k3]
    have e' : uN (bc1 x &&& 3689348814741910323) = uN (bc1 x) &&& mkN 51 8 := by rw [uN_and, k3]
    have h1 := mk_le 51 (n := uN (bc1 x) / 4)
    have h2 := mk_le 51 (n := uN (bc1 x))
    unfold bc2
    rw [uN_add (by rw [e, e']; omega), e, e', a1]
    rfl
  have b2 : sB 8 (sA 8 (uN x)) ≤ 7378697629483820646 := by
    have h1 := mk_le 51 (n := sA 8 (uN x) / 4)
    have h2 := mk_le 51 (n := sA 8 (uN x))
    unfold sB
    omega
  have a3 : uN (bc3 (bc2 (bc1 x))) = sS 8 (uN x) := by
    have e : uN (lsr (bc2 (bc1 x)) 4) = uN (bc2 (bc1 x)) / 16 := uN_lsr _ (j := 4) (by decide)
    unfold bc3
    rw [uN_and, uN_add (by rw [e, a2]; omega), e, a2, kF]
    rfl
  obtain ⟨z4, z5, z6, e4, e5, e6, e7, h60, h63⟩ := pc_sum hx
  have a4 : uN (bc4 (bc3 (bc2 (bc1 x))) 8) = z4 := by
    have e : uN (lsr (bc3 (bc2 (bc1 x))) 8) = uN (bc3 (bc2 (bc1 x))) / 256 := uN_lsr _ (j := 8) (by decide)
    unfold bc4
    rw [uN_add (by rw [e, a3]; omega), e, a3, e4]
  have a5 : uN (bc4 (bc4 (bc3 (bc2 (bc1 x))) 8) 16) = z5 := by
    have e : uN (lsr (bc4 (bc3 (bc2 (bc1 x))) 8) 16) = uN (bc4 (bc3 (bc2 (bc1 x))) 8) / 65536 := uN_lsr _ (j := 16) (by decide)
    show uN (bc4 (bc3 (bc2 (bc1 x))) 8 + lsr (bc4 (bc3 (bc2 (bc1 x))) 8) 16) = z5
    rw [uN_add (by rw [e, a4]; omega), e, a4, e5]
  have a6 : uN (bc4 (bc4 (bc4 (bc3 (bc2 (bc1 x))) 8) 16) 32) = z6 := by
    have e : uN (lsr (bc4 (bc4 (bc3 (bc2 (bc1 x))) 8) 16) 32) = uN (bc4 (bc4 (bc3 (bc2 (bc1 x))) 8) 16) / 4294967296 := uN_lsr _ (j := 32) (by decide)
    show uN (bc4 (bc4 (bc3 (bc2 (bc1 x))) 8) 16 + lsr (bc4 (bc4 (bc3 (bc2 (bc1 x))) 8) 16) 32) = z6
    rw [uN_add (by rw [e, a5]; omega), e, a5, e6]
  rw [a6, e7]
theorem bitCount_T {d N : Nat} {h : AH} {Q : AQ} {x : Int64} (hQ : ∀ z : Int, z = ((pop x : Nat) : Int) → Q (.inl (some (vI z))) h N) : T (d + 1) 205 [vL x] h N Q := by
  refine T_body (I := mi_J13_bitCount_95d88) (lv := [_, _]) rfl (Nat.le_of_ble_eq_true rfl) rfl ?_
  refine R_lload_n rfl rfl ?_
  refine R_lload_n rfl rfl ?_
  refine R_iconst rfl ?_
  refine R_lushr rfl ?_
  refine R_ldc2_w rfl rfl ?_
  refine R_land rfl ?_
  refine R_lsub rfl ?_
  refine R_lstore_n (lv' := [_, _]) rfl rfl ?_
  refine R_lload_n rfl rfl ?_
  refine R_ldc2_w rfl rfl ?_
  refine R_land rfl ?_
  refine R_lload_n rfl rfl ?_
  refine R_iconst rfl ?_
  refine R_lushr rfl ?_
  refine R_ldc2_w rfl rfl ?_
  refine R_land rfl ?_
  refine R_ladd rfl ?_
  refine R_lstore_n (lv' := [_, _]) rfl rfl ?_
  refine R_lload_n rfl rfl ?_
  refine R_lload_n rfl rfl ?_
  refine R_iconst rfl ?_
  refine R_lushr rfl ?_
  refine R_ladd rfl ?_
  refine R_ldc2_w rfl rfl ?_
  refine R_land rfl ?_
  refine R_lstore_n (lv' := [_, _]) rfl rfl ?_
  refine R_lload_n rfl rfl ?_
  refine R_lload_n rfl rfl ?_
  refine R_bipush rfl ?_
  refine R_lushr rfl ?_
  refine R_ladd rfl ?_
  refine R_lstore_n (lv' := [_, _]) rfl rfl ?_
  refine R_lload_n rfl rfl ?_
  refine R_lload_n rfl rfl ?_
  refine R_bipush rfl ?_
  refine R_lushr rfl ?_
  refine R_ladd rfl ?_
  refine R_lstore_n (lv' := [_, _]) rfl rfl ?_
  refine R_lload_n rfl rfl ?_
  refine R_lload_n rfl rfl ?_
  refine R_bipush rfl ?_
  refine R_lushr rfl ?_
  refine R_ladd rfl ?_
  refine R_lstore_n (lv' := [_, _]) rfl rfl ?_
  refine R_lload_n rfl rfl ?_
  refine R_l2i rfl ?_
  refine R_bipush rfl ?_
  refine R_iand rfl ?_
  exact R_ireturn rfl (fun q => absurd q (by decide)) (Nat.zero_le _) (Nat.zero_le _) (hQ _ (bc_eq x))
