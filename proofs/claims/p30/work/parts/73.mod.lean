/-! ===== readings, cell by cell; how many ===== -/
def fl {α : Type} (g : Nat → List α) : Nat → Nat → List α
  | 0, _ => []
  | m + 1, i => g i ++ fl g m (i + 1)
theorem fl_range {α : Type} {g : Nat → List α} : ∀ m i, fl g m i = (List.range' i m).flatMap g
  | 0, _ => rfl
  | m + 1, i => by
    show g i ++ fl g m (i + 1) = (List.range' i (m + 1)).flatMap g
    rw [List.range'_succ, List.flatMap_cons, fl_range m (i + 1)]
theorem fl_skip {α : Type} {g : Nat → List α} {m : Nat} : ∀ k i, (∀ j, i ≤ j → j < i + k → g j = []) → fl g (k + m) i = fl g m (i + k)
  | 0, i, _ => by rw [Nat.zero_add, Nat.add_zero]
  | k + 1, i, h => by
    rw [show k + 1 + m = (k + m) + 1 by omega]
    show g i ++ fl g (k + m) (i + 1) = _
    rw [h i (Nat.le_refl _) (by omega), List.nil_append, fl_skip k (i + 1) (fun j h1 h2 => h j (by omega) (by omega)), show i + 1 + k = i + (k + 1) by omega]
theorem fl_none {α : Type} {g : Nat → List α} {m i : Nat} (h : ∀ j, i ≤ j → j < i + m → g j = []) : fl g m i = [] := by
  have := fl_skip (g := g) (m := 0) m i h
  rw [Nat.add_zero] at this
  exact this
theorem fl_congr {α : Type} {g g' : Nat → List α} : ∀ m i, (∀ j, i ≤ j → j < i + m → g j = g' j) → fl g m i = fl g' m i
  | 0, _, _ => rfl
  | m + 1, i, h => by
    show g i ++ fl g m (i + 1) = g' i ++ fl g' m (i + 1)
    rw [h i (Nat.le_refl _) (by omega), fl_congr m (i + 1) (fun j h1 h2 => h j (by omega) (by omega))]
theorem fl_mem {α : Type} {g : Nat → List α} {R : α} : ∀ m i, R ∈ fl g m i → ∃ j, R ∈ g j
  | 0, _, h => absurd h List.not_mem_nil
  | m + 1, i, h => by
    rcases List.mem_append.mp h with q | q
    · exact ⟨i, q⟩
    · exact fl_mem m (i + 1) q
def knS (G : Gr) (a b : Nat) : Bool := decide ((((a / qC G : Nat) : Int) - ((b / qC G : Nat) : Int)) * (((a / qC G : Nat) : Int) - ((b / qC G : Nat) : Int)) + (((a % qC G : Nat) : Int) - ((b % qC G : Nat) : Int)) * (((a % qC G : Nat) : Int) - ((b % qC G : Nat) : Int)) = 5)
def knC : Bool := (List.range 7).all (fun R => (List.range 7).all (fun C => !(decide (2 ≤ R) && decide (2 ≤ C)) || (List.range (R * C)).all (fun a => decide (knF (newG R C) a 8 0 = (List.range' 0 (R * C)).filter (knS (newG R C) a)))))
theorem knC_t : knC = true := by decide +kernel
theorem kn_all {R C a : Nat} (hR : R < 7) (hC : C < 7) (h2R : 2 ≤ R) (h2C : 2 ≤ C) (ha : a < R * C) : knF (newG R C) a 8 0 = (List.range' 0 (R * C)).filter (knS (newG R C) a) := by
  have h1 := List.all_eq_true.mp knC_t R (List.mem_range.mpr hR)
  have h2 := List.all_eq_true.mp h1 C (List.mem_range.mpr hC)
  rw [decide_eq_true h2R, decide_eq_true h2C] at h2
  have h3 := List.all_eq_true.mp (show (List.range (R * C)).all (fun a => decide (knF (newG R C) a 8 0 = (List.range' 0 (R * C)).filter (knS (newG R C) a))) = true from h2) a (List.mem_range.mpr ha)
  exact of_decide_eq_true h3
theorem knF_n {G : Gr} {a : Nat} : ∀ r k, knF G a r k = knF (newG (qR G) (qC G)) a r k
  | 0, _ => rfl
  | r + 1, k => by
    show (match mvC G a k with
      | some x => [x]
      | none => []) ++ knF G a r (k + 1) = (match mvC (newG (qR G) (qC G)) a k with
      | some x => [x]
      | none => []) ++ knF (newG (qR G) (qC G)) a r (k + 1)
    rw [knF_n r (k + 1)]
    rfl
theorem kn_eq {G : Gr} (hG : okG G) {a : Nat} (ha : a < qM G) : knF G a 8 0 = (List.range' 0 (qM G)).filter (knS G a) := by
  obtain ⟨⟨hr2, hr6⟩, ⟨hc2, hc6⟩, -⟩ := hG
  rw [knF_n]
  exact kn_all (by omega) (by omega) hr2 hc2 ha
/-- may a cell be the next one, behind those that are chosen? -/
def crG (G : Gr) (em : Bool) (ch : List Nat) (c : Nat) : Bool := alw G em ch c && (match ch.getLast? with
  | some a => knS G a c
  | none => true)
def mS (G : Gr) (em : Bool) : Nat → List Nat → List (List Nat)
  | 0, ch => [ch]
  | r + 1, ch => fl (fun c => if crG G em ch c = true then mS G em r (ch ++ [c]) else []) (qM G) 0
theorem crG_app {G : Gr} {em : Bool} {ch : List Nat} {a c : Nat} : crG G em (ch ++ [a]) c = (alw G em (ch ++ [a]) c && knS G a c) := by
  unfold crG
  rw [List.getLast?_append]
  rfl
theorem crG_nil {G : Gr} {em : Bool} {c : Nat} : crG G em [] c = alw G em [] c := Bool.and_true _
theorem mS_ext {G : Gr} (hG : okG G) {em : Bool} : ∀ (r : Nat) (ch : List Nat) (a : Nat), a < qM G → mS G em r (ch ++ [a]) = ext G em r (ch ++ [a])
  | 0, _, _, _ => rfl
  | r + 1, ch, a, ha => by
    rw [ext_flat, kn_eq hG ha, flat_fil, ← fl_range]
    show fl (fun c => if crG G em (ch ++ [a]) c = true then mS G em r (ch ++ [a] ++ [c]) else []) (qM G) 0 = _
    refine fl_congr _ _ (fun c _ hc => ?_)
    rw [crG_app, mS_ext hG r (ch ++ [a]) c (by omega)]
    unfold viR
    cases alw G em (ch ++ [a]) c <;> cases knS G a c <;> rfl
theorem rd_mS {G : Gr} (hG : okG G) {em : Bool} : ∀ m i, i + m ≤ qM G → rdF G em m i = fl (fun c => if crG G em [] c = true then mS G em (qN G - 1) ([] ++ [c]) else []) m i
  | 0, _, _ => rfl
  | m + 1, i, h => by
    show viR G em (qN G - 1) [] i ++ rdF G em m (i + 1) = _ ++ _
    rw [rd_mS hG m (i + 1) (by omega)]
    congr 1
    show viR G em (qN G - 1) [] i = if crG G em [] i = true then mS G em (qN G - 1) ([] ++ [i]) else []
    unfold viR
    rw [crG_nil, mS_ext hG (qN G - 1) [] i (by omega)]
theorem flat_len {α β : Type} {f : α → List β} {b : Nat} (h : ∀ a, (f a).length ≤ b) : ∀ l : List α, (l.flatMap f).length ≤ l.length * b
  | [] => Nat.zero_le _
  | a :: l => by
    rw [List.flatMap_cons, List.length_append, List.length_cons, Nat.succ_mul]
    have := flat_len h l
    have := h a
    omega
theorem knF_len {G : Gr} {a : Nat} : ∀ r k, (knF G a r k).length ≤ r
  | 0, _ => Nat.le_refl _
  | r + 1, k => by
    show ((match mvC G a k with
      | some x => [x]
      | none => []) ++ knF G a r (k + 1)).length ≤ r + 1
    have := knF_len (G := G) (a := a) r (k + 1)
    rw [List.length_append]
    cases mvC G a k with
    | some x =>
      show 1 + _ ≤ r + 1
      omega
    | none =>
      show 0 + _ ≤ r + 1
      omega
theorem ext_len {G : Gr} {em : Bool} : ∀ r ch, (ext G em r ch).length ≤ 8 ^ r
  | 0, _ => Nat.le_refl _
  | r + 1, ch => by
    show (((knF G (ch.getLastD 0) 8 0).filter (alw G em ch)).flatMap (fun c => ext G em r (ch ++ [c]))).length ≤ 8 ^ (r + 1)
    have h1 := flat_len (f := fun c => ext G em r (ch ++ [c])) (b := 8 ^ r) (fun c => ext_len r (ch ++ [c])) ((knF G (ch.getLastD 0) 8 0).filter (alw G em ch))
    have h2 : ((knF G (ch.getLastD 0) 8 0).filter (alw G em ch)).length ≤ 8 := Nat.le_trans (List.length_filter_le _ _) (knF_len 8 0)
    have h3 := Nat.mul_le_mul_right (8 ^ r) h2
    rw [Nat.pow_succ, Nat.mul_comm]
    exact Nat.le_trans h1 h3
theorem rdF_len {G : Gr} {em : Bool} : ∀ m i, (rdF G em m i).length ≤ m * 8 ^ (qN G - 1)
  | 0, _ => Nat.zero_le _
  | m + 1, i => by
    show (viR G em (qN G - 1) [] i ++ rdF G em m (i + 1)).length ≤ _
    have h1 := rdF_len (G := G) (em := em) m (i + 1)
    have h2 : (viR G em (qN G - 1) [] i).length ≤ 8 ^ (qN G - 1) := by
      unfold viR
      split
      · exact ext_len _ _
      · exact Nat.zero_le _
    rw [List.length_append, Nat.succ_mul]
    omega
theorem rdG_len {G : Gr} (hG : okG G) {em : Bool} : (rdG G em).length ≤ 1179648 := by
  obtain ⟨hm4, hm36⟩ := hG.m
  have gN := hG.2.2.2.2.2.2.2.1
  unfold rdG
  split
  · exact Nat.zero_le _
  · have h1 := rdF_len (G := G) (em := em) (qM G) 0
    have h2 : 8 ^ (qN G - 1) ≤ 8 ^ 5 := Nat.pow_le_pow_right (by decide) (by omega)
    have h3 := Nat.mul_le_mul hm36 h2
    exact Nat.le_trans h1 (Nat.le_trans h3 (by decide))
theorem seL_min {lim : Nat} : ∀ (l : List (List Nat)) (s : SS), s.1 ≤ lim → (seL lim s l).1 = min lim (s.1 + l.length)
  | [], s, h => by
    show s.1 = min lim (s.1 + 0)
    omega
  | R :: l, s, h => by
    have h1 := seL_min l (seA lim s R) (seA_le h R)
    show (seL lim (seA lim s R) l).1 = _
    rw [h1, List.length_cons]
    unfold seA
    by_cases q : lim ≤ s.1
    · rw [if_pos q]
      omega
    · rw [if_neg q]
      show min lim (s.1 + 1 + l.length) = _
      omega
theorem rdS_min {G : Gr} {em : Bool} {lim : Nat} : (rdS G em lim).1 = min lim (rdG G em).length := by
  unfold rdS
  rw [seL_min _ _ (Nat.zero_le _)]
  show min lim (0 + _) = _
  rw [Nat.zero_add]
theorem rd_big {G : Gr} (hG : okG G) {em : Bool} : (rdS G em 2147483647).1 = (rdS G em 10000000).1 := by
  have := rdG_len hG (em := em)
  rw [rdS_min, rdS_min]
  omega
theorem seL_mem {lim : Nat} {R : List Nat} : ∀ (l : List (List Nat)) (s : SS), (seL lim s l).2 = some R → s.2 = some R ∨ R ∈ l
  | [], s, h => Or.inl h
  | R2 :: l, s, h => by
    rcases seL_mem l (seA lim s R2) h with q | q
    · unfold seA at q
      by_cases q2 : lim ≤ s.1
      · rw [if_pos q2] at q
        exact Or.inl q
      · rw [if_neg q2] at q
        have q : (if s.1 = 0 then some R2 else s.2) = some R := q
        by_cases q3 : s.1 = 0
        · rw [if_pos q3] at q
          cases q
          exact Or.inr (List.mem_cons_self)
        · rw [if_neg q3] at q
          exact Or.inl q
    · exact Or.inr (List.mem_cons_of_mem _ q)
theorem seL_none {lim : Nat} : ∀ (l : List (List Nat)) (s : SS), (s.1 = 0 ↔ s.2 = none) → ((seL lim s l).1 = 0 ↔ (seL lim s l).2 = none)
  | [], s, h => h
  | R :: l, s, h => by
    refine seL_none l (seA lim s R) ?_
    unfold seA
    by_cases q2 : lim ≤ s.1
    · rw [if_pos q2]
      exact h
    · rw [if_neg q2]
      show s.1 + 1 = 0 ↔ (if s.1 = 0 then some R else s.2) = none
      by_cases q3 : s.1 = 0
      · rw [if_pos q3]
        exact ⟨fun q => absurd q (Nat.succ_ne_zero _), fun q => by cases q⟩
      · rw [if_neg q3]
        exact ⟨fun q => absurd q (Nat.succ_ne_zero _), fun q => absurd (h.mpr q) q3⟩
theorem mS_len {G : Gr} {em : Bool} : ∀ (r : Nat) (ch R : List Nat), R ∈ mS G em r ch → R.length = ch.length + r
  | 0, ch, R, h => by
    rw [List.mem_singleton.mp h]
    rfl
  | r + 1, ch, R, h => by
    obtain ⟨j, hj⟩ := fl_mem _ _ h
    by_cases q : crG G em ch j = true
    · have hj : R ∈ (if crG G em ch j = true then mS G em r (ch ++ [j]) else []) := hj
      rw [if_pos q] at hj
      have := mS_len r (ch ++ [j]) R hj
      rw [List.length_append] at this
      have e : [j].length = 1 := rfl
      omega
    · have hj : R ∈ (if crG G em ch j = true then mS G em r (ch ++ [j]) else []) := hj
      rw [if_neg q] at hj
      exact absurd hj List.not_mem_nil
theorem rd_len {G : Gr} (hG : okG G) {em : Bool} {R : List Nat} (h : R ∈ rdG G em) : R.length = qN G := by
  unfold rdG at h
  by_cases q : qN G = 0
  · rw [if_pos q] at h
    exact absurd h List.not_mem_nil
  · rw [if_neg q, rd_mS hG _ _ (by omega)] at h
    obtain ⟨j, hj⟩ := fl_mem _ _ h
    have hj : R ∈ (if crG G em [] j = true then mS G em (qN G - 1) ([] ++ [j]) else []) := hj
    by_cases q2 : crG G em [] j = true
    · rw [if_pos q2] at hj
      have := mS_len _ _ R hj
      have e : (([] : List Nat) ++ [j]).length = 1 := rfl
      omega
    · rw [if_neg q2] at hj
      exact absurd hj List.not_mem_nil
theorem rdS_len {G : Gr} (hG : okG G) {em : Bool} {lim : Nat} {R : List Nat} (h : (rdS G em lim).2 = some R) : R.length = qN G := by
  rcases seL_mem _ _ h with q | q
  · cases q
  · exact rd_len hG q
theorem rdS_none {G : Gr} {em : Bool} {lim : Nat} : (rdS G em lim).1 = 0 ↔ (rdS G em lim).2 = none := seL_none _ _ ⟨fun _ => rfl, fun _ => rfl⟩
theorem rdS_mS {G : Gr} (hG : okG G) {em : Bool} {lim : Nat} (hn : ¬ qN G = 0) : rdS G em lim = seL lim (0, none) (fl (fun c => if crG G em [] c = true then mS G em (qN G - 1) ([] ++ [c]) else []) (qM G) 0) := by
  unfold rdS rdG
  rw [if_neg hn, rd_mS hG _ _ (by omega)]
