/-! ===== the small machine stands for the great one: values, worlds, locals ===== -/
/-- what is fixed for a whole run: the numbers of the objects' and of the four arrays' kinds, three addresses (script, two tables), the script, the first address that is the run's own -/
abbrev AEnv : Type := va_G × (ClassId × ClassId × ClassId × ClassId) × (Nat × Nat × Nat) × (Nat × (Nat → Int32)) × Nat
abbrev gD (E : AEnv) : va_G := E.1
abbrev gI (E : AEnv) : ClassId := E.2.1.1
abbrev gZ (E : AEnv) : ClassId := E.2.1.2.1
abbrev gJ (E : AEnv) : ClassId := E.2.1.2.2.1
abbrev gS (E : AEnv) : ClassId := E.2.1.2.2.2
abbrev gb (E : AEnv) : Nat := E.2.2.1.1
abbrev gr (E : AEnv) : Nat := E.2.2.1.2.1
abbrev gc (E : AEnv) : Nat := E.2.2.1.2.2
abbrev gL (E : AEnv) : Nat := E.2.2.2.1.1
abbrev gx (E : AEnv) : Nat → Int32 := E.2.2.2.1.2
abbrev g0 (E : AEnv) : Nat := E.2.2.2.2
abbrev gT (E : AEnv) : List (ClassId × FieldType) := [(gI E, .int), (gZ E, .boolean), (gI E, .int), (gS E, .object RX6)]
def gA (E : AEnv) : Nat → Prop := fun q => g0 E ≤ q
def cv (ad : Nat → Nat) (v : AV) : Value := match v with
  | .inl z => .int (iI z)
  | .inr (.inl x) => .long x
  | .inr (.inr r) => va_rf (r.map ad)
def ce (E : AEnv) (ad : Nat → Nat) (e : AE) : va_E := match e with
  | .inl (ci, fs) => .inr (ci, fs.map (cv ad))
  | .inr (.inl (z, n, f)) => .inl (cond z (gZ E) (gI E), n, .inl (fun j => iI (f j)))
  | .inr (.inr (.inl (n, f))) => .inl (gJ E, n, .inr (.inl f))
  | .inr (.inr (.inr (n, f))) => .inl (gS E, n, .inr (.inr (.inr (.inr (fun j => (f j).map ad)))))
def wl (E : AEnv) (ad : Nat → Nat) (h : AH) (N : Nat) : va_W := (List.range N).map (fun k => (ad k, ce E ad (h k)))
def stepRows : Nat → Int := fun j => [-2, -2, -1, -1, 1, 1, 2, 2].getD j 0
def stepCols : Nat → Int := fun j => [-1, 1, -2, 2, -2, 2, -1, 1].getD j 0
theorem wl_get {E : AEnv} {ad : Nat → Nat} {h : AH} {N k : Nat} (hk : k < N) : (wl E ad h N)[k]? = some (ad k, ce E ad (h k)) := by simp [wl, hk]
theorem wl_set {E : AEnv} {ad : Nat → Nat} {h : AH} {N a : Nat} (e : AE) : (wl E ad h N).set a (ad a, ce E ad e) = wl E ad (va_up h a e) N := by
  apply List.ext_getElem?
  intro i
  by_cases hi : i < N
  · by_cases hia : i = a
    · subst hia
      rw [wl_get hi, List.getElem?_set_self (by simp [wl, hi]), va_up_self]
    · rw [wl_get hi, List.getElem?_set_ne (Ne.symm hia), wl_get hi, va_up_ne _ _ hia]
  · rw [List.getElem?_eq_none (by simp [wl]; omega), List.getElem?_eq_none (by simp [wl]; omega)]
theorem cv_wf {ad : Nat → Nat} {N q : Nat} {v : AV} (hN : N < aRO) (hv : wfV N v) : cv (va_up ad N q) v = cv ad v := by
  rcases v with z | x | r | r
  · rfl
  · rfl
  · rfl
  · show va_rf (some (va_up ad N q r)) = va_rf (some (ad r))
    rw [va_up_ne]
    have hv : r < N ∨ aRO ≤ r := hv
    omega
theorem ce_wf {E : AEnv} {ad : Nat → Nat} {N q : Nat} {e : AE} (hN : N < aRO) (hv : wfE N e) : ce E (va_up ad N q) e = ce E ad e := by
  rcases e with ⟨ci, fs⟩ | ⟨z, n, f⟩ | ⟨n, f⟩ | ⟨n, f⟩
  · have hv : ∀ v ∈ fs, wfV N v := hv
    show (Sum.inr (ci, fs.map (cv (va_up ad N q))) : va_E) = .inr (ci, fs.map (cv ad))
    rw [List.map_congr_left (fun v h => cv_wf hN (hv v h))]
  · rfl
  · rfl
  · have hv : ∀ j k, f j = some k → k < N ∨ aRO ≤ k := hv
    show (Sum.inl (gS E, n, .inr (.inr (.inr (.inr (fun j => (f j).map (va_up ad N q)))))) : va_E) = .inl (gS E, n, .inr (.inr (.inr (.inr (fun j => (f j).map ad)))))
    have : (fun j => (f j).map (va_up ad N q)) = (fun j => (f j).map ad) := by
      funext j
      cases hj : f j with
      | none => rfl
      | some r =>
        have := hv j r hj
        show some (va_up ad N q r) = some (ad r)
        rw [va_up_ne]
        omega
    rw [this]
theorem wl_push {E : AEnv} {ad : Nat → Nat} {h : AH} {N q : Nat} {e : AE} {x : va_E} (hN : N < aRO) (hw : wfH N h) (hx : x = ce E (va_up ad N q) e) : wl E ad h N ++ [(q, x)] = wl E (va_up ad N q) (va_up h N e) (N + 1) := by
  subst hx
  unfold wl
  rw [List.range_succ, List.map_append]
  congr 1
  · apply List.map_congr_left
    intro k hk
    have hk : k < N := List.mem_range.mp hk
    rw [va_up_ne _ _ (by omega), va_up_ne _ _ (by omega), ce_wf hN (hw k hk)]
  · simp [va_up_self]
theorem iI_add (a b : Int) : iI a + iI b = iI (a + b) := (Int32.ofInt_add a b).symm
theorem iI_sub (a b : Int) : iI a - iI b = iI (a - b) := (Int32.ofInt_sub a b).symm
theorem iI_mul (a b : Int) : iI a * iI b = iI (a * b) := (Int32.ofInt_mul a b).symm
theorem iI_toInt {a : Int} (h : inR a) : (iI a).toInt = a := by
  unfold iI
  rw [Int32.toInt_ofInt]
  have h1 := h.1
  have h2 := h.2
  have hs : (Int32.size : Int) = 4294967296 := rfl
  exact Int.bmod_eq_of_le (by omega) (by omega)
theorem iI_of (x : Int32) : iI x.toInt = x := Int32.ofInt_toInt x
theorem inR_of (x : Int32) : inR x.toInt := ⟨by have := Int32.minValue_le_toInt x; simpa using this, by have := Int32.toInt_lt x; simpa using this⟩
theorem iI_eq {a b : Int} (ha : inR a) (hb : inR b) : iI a = iI b ↔ a = b := by
  rw [← Int32.toInt_inj, iI_toInt ha, iI_toInt hb]
theorem iI_lt {a b : Int} (ha : inR a) (hb : inR b) : iI a < iI b ↔ a < b := by
  rw [Int32.lt_iff_toInt_lt, iI_toInt ha, iI_toInt hb]
theorem iI_le {a b : Int} (ha : inR a) (hb : inR b) : iI a ≤ iI b ↔ a ≤ b := by
  rw [Int32.le_iff_toInt_le, iI_toInt ha, iI_toInt hb]
theorem iI_nat (n : Nat) : iI (n : Int) = nI n := rfl
theorem iI_cl {i : Int} (h0 : 0 ≤ i) (h1 : i < 2147483648) : (iI i).toNatClampNeg = i.toNat := by
  show (iI i).toInt.toNat = i.toNat
  rw [iI_toInt ⟨by omega, h1⟩]
theorem iI_in {i : Int} {m : Nat} (h0 : 0 ≤ i) (h1 : i < m) (h2 : m < 2147483648) : vp_in (iI i) m := by
  have h3 : (iI i).toInt = i := iI_toInt ⟨by omega, by omega⟩
  rw [vp_in_iff, h3]
  exact ⟨h0, h1⟩
theorem inR_0 : inR 0 := ⟨by decide, by decide⟩
theorem iI_0 : iI 0 = 0 := rfl
theorem iI_div {a b : Int} (h0 : 0 ≤ a) (h1 : a < 2147483648) (h2 : 0 < b) (h3 : b < 2147483648) : iI a / iI b = iI (a / b) := by
  obtain ⟨x, rfl⟩ := Int.eq_ofNat_of_zero_le h0
  obtain ⟨y, rfl⟩ := Int.eq_ofNat_of_zero_le (Int.le_of_lt h2)
  rw [iI_nat, iI_nat, pk_div (by omega) (by omega) (by omega), ← iI_nat, Int.natCast_ediv]
theorem iI_rem {a b : Int} (h0 : 0 ≤ a) (h1 : a < 2147483648) (h2 : 0 < b) (h3 : b < 2147483648) : iI a - iI a / iI b * iI b = iI (a % b) := by
  obtain ⟨x, rfl⟩ := Int.eq_ofNat_of_zero_le h0
  obtain ⟨y, rfl⟩ := Int.eq_ofNat_of_zero_le (Int.le_of_lt h2)
  rw [iI_nat, iI_nat, pk_rem (by omega) (by omega) (by omega), ← iI_nat, Int.natCast_emod]
theorem iI_ne0 {b : Int} (h2 : 0 < b) (h3 : b < 2147483648) : ¬ iI b = 0 := by
  rw [← iI_0, iI_eq ⟨by omega, h3⟩ inR_0]
  omega
/-! locals -/
def lp (ad : Nat → Nat) (lv : AL) : List (Nat × Value) := (List.range lv.length).filterMap (fun i => (aLd lv i).map (fun v => (i, cv ad v)))
def Lh (ad : Nat → Nat) (ls : Array Slot) (nL : Nat) (lv : AL) : Prop := lv.length = nL ∧ lv_has ls nL (lp ad lv)
theorem aLd_lt {lv : AL} {i : Nat} {v : AV} (h : aLd lv i = some v) : i < lv.length := by
  rcases Nat.lt_or_ge i lv.length with q | q
  · exact q
  · unfold aLd at h
    rw [List.getD_eq_getElem?_getD, List.getElem?_eq_none q] at h
    cases h
theorem lp_mem {ad : Nat → Nat} {lv : AL} {i : Nat} {v : AV} (h : aLd lv i = some v) : (i, cv ad v) ∈ lp ad lv := by
  unfold lp
  rw [List.mem_filterMap]
  exact ⟨i, List.mem_range.mpr (aLd_lt h), by rw [h]; rfl⟩
theorem lp_of {ad : Nat → Nat} {lv : AL} {q : Nat × Value} (h : q ∈ lp ad lv) : ∃ v, aLd lv q.1 = some v ∧ q.2 = cv ad v := by
  unfold lp at h
  rw [List.mem_filterMap] at h
  obtain ⟨i, -, hi⟩ := h
  cases hv : aLd lv i with
  | none => rw [hv] at hi; cases hi
  | some v =>
    rw [hv] at hi
    cases hi
    exact ⟨v, hv, rfl⟩
theorem Lh.at {ad : Nat → Nat} {ls : Array Slot} {nL : Nat} {lv : AL} (h : Lh ad ls nL lv) {i : Nat} {v : AV} (hv : aLd lv i = some v) : ls[i]? = some (.val (cv ad v)) := h.2.2.2 _ (lp_mem hv)
theorem Lh.size {ad : Nat → Nat} {ls : Array Slot} {nL : Nat} {lv : AL} (h : Lh ad ls nL lv) : ls.size = nL := h.2.1
theorem Lh.less {ad : Nat → Nat} {ls : Array Slot} {nL : Nat} {lv lv' : AL} (h : Lh ad ls nL lv) (hl : lv'.length = lv.length) (hs : ∀ i v, aLd lv' i = some v → aLd lv i = some v) : Lh ad ls nL lv' := by
  refine ⟨hl.trans h.1, h.2.1, h.2.2.1, fun q hq => ?_⟩
  obtain ⟨v, h1, h2⟩ := lp_of hq
  rw [h2]
  exact h.at (hs _ _ h1)
theorem Lh.moved {ad ad' : Nat → Nat} {ls : Array Slot} {nL : Nat} {lv : AL} (h : Lh ad ls nL lv) (hs : ∀ i v, aLd lv i = some v → cv ad' v = cv ad v) : Lh ad' ls nL lv := by
  refine ⟨h.1, h.2.1, h.2.2.1, fun q hq => ?_⟩
  obtain ⟨v, h1, h2⟩ := lp_of hq
  rw [h2, hs _ _ h1]
  exact h.at h1
theorem aKill_len (i : Nat) (lv : AL) : (aKill i lv).length = lv.length := by
  unfold aKill
  split
  · rfl
  · split
    · simp
    · rfl
theorem aSt_len (i : Nat) (v : AV) (lv : AL) : (aSt i v lv).length = lv.length := by simp [aSt, aKill_len]
theorem aSt2_len (i : Nat) (v : AV) (lv : AL) : (aSt2 i v lv).length = lv.length := by simp [aSt2, aSt_len]
theorem aUn_len (i : Nat) (lv : AL) : (aUn i lv).length = lv.length := by simp [aUn, aKill_len]
theorem aLd_set {lv : AL} {i j : Nat} {o : Option AV} {v : AV} (h : aLd (lv.set i o) j = some v) : (j = i ∧ o = some v) ∨ (j ≠ i ∧ aLd lv j = some v) := by
  have hl := aLd_lt h
  rw [List.length_set] at hl
  unfold aLd at h ⊢
  rw [List.getD_eq_getElem?_getD] at h ⊢
  by_cases hij : j = i
  · subst hij
    rw [List.getElem?_set_self hl] at h
    exact Or.inl ⟨rfl, h⟩
  · rw [List.getElem?_set_ne (Ne.symm hij)] at h
    exact Or.inr ⟨hij, h⟩
theorem aKill_ld {lv : AL} {i j : Nat} {v : AV} (h : aLd (aKill i lv) j = some v) : aLd lv j = some v ∧ (j + 1 = i → aCat v = 1) := by
  unfold aKill at h
  split at h
  · exact ⟨h, fun q => by omega⟩
  · rename_i i
    split at h
    · rcases aLd_set h with ⟨-, h2⟩ | ⟨h1, h2⟩
      · cases h2
      · exact ⟨h2, fun q => by omega⟩
    · rename_i h9
      refine ⟨h, fun q => ?_⟩
      have hj : j = i := by omega
      subst hj
      rcases v with z | x | r
      · rfl
      · exact absurd h (h9 x)
      · rfl
theorem cat_cv (ad : Nat → Nat) (v : AV) : (cv ad v).category = aCat v := by
  rcases v with z | x | r | r <;> rfl
theorem cats_cv (ad : Nat → Nat) (st : List AV) : ((st.map (cv ad)).map fun v => v.category).sum = aCats st := by
  induction st with
  | nil => rfl
  | cons v t ih =>
    simp only [List.map_cons, List.sum_cons, aCats]
    rw [ih, cat_cv]
theorem Lh.st {ad : Nat → Nat} {ls : Array Slot} {nL : Nat} {lv : AL} {i : Nat} {v : AV} (hl : lv.length = nL) (h : lv_has ls nL ((i, cv ad v) :: (lp ad lv).filter (fun q => !(q.1 == i) && !(q.1 + 1 == i && q.2.category == 2)))) : Lh ad ls nL (aSt i v lv) := by
  refine ⟨(aSt_len _ _ _).trans hl, h.1, h.2.1, fun q hq => ?_⟩
  obtain ⟨w, h1, h2⟩ := lp_of hq
  rcases aLd_set h1 with ⟨e1, e2⟩ | ⟨e1, e2⟩
  · cases e2
    have := h.2.2 (i, cv ad v) List.mem_cons_self
    rw [h2, e1]
    exact this
  · obtain ⟨g1, g2⟩ := aKill_ld e2
    have := h.2.2 (q.1, cv ad w) (List.mem_cons_of_mem _ (List.mem_filter.mpr ⟨lp_mem g1, by
      have hc := cat_cv ad w
      by_cases hq1 : q.1 + 1 = i
      · have := g2 hq1
        simp [e1, hc, this]
      · simp [e1, hq1]⟩))
    rw [h2]
    exact this
theorem Lh.st2 {ad : Nat → Nat} {ls : Array Slot} {nL : Nat} {lv : AL} {i : Nat} {v : AV} (hl : lv.length = nL) (h : lv_has ls nL ((i, cv ad v) :: (lp ad lv).filter (fun q => !(q.1 == i) && (!(q.1 == i + 1) && !(q.1 + 1 == i && q.2.category == 2))))) : Lh ad ls nL (aSt2 i v lv) := by
  refine ⟨(aSt2_len _ _ _).trans hl, h.1, h.2.1, fun q hq => ?_⟩
  obtain ⟨w, h1, h2⟩ := lp_of hq
  rcases aLd_set h1 with ⟨-, e2⟩ | ⟨e0, h1⟩
  · cases e2
  rcases aLd_set h1 with ⟨e1, e2⟩ | ⟨e1, e2⟩
  · cases e2
    have := h.2.2 (i, cv ad v) List.mem_cons_self
    rw [h2, e1]
    exact this
  · obtain ⟨g1, g2⟩ := aKill_ld e2
    have := h.2.2 (q.1, cv ad w) (List.mem_cons_of_mem _ (List.mem_filter.mpr ⟨lp_mem g1, by
      have hc := cat_cv ad w
      by_cases hq1 : q.1 + 1 = i
      · have := g2 hq1
        simp [e1, e0, hc, this]
      · simp [e1, e0, hq1]⟩))
    rw [h2]
    exact this
/-- the slot of a value that nobody speaks of -/
theorem Lh.un {ad : Nat → Nat} {ls : Array Slot} {nL : Nat} {lv : AL} {i : Nat} {x : Value} (hl : lv.length = nL) (h : lv_has ls nL ((i, x) :: (lp ad lv).filter (fun q => !(q.1 == i) && !(q.1 + 1 == i && q.2.category == 2)))) : Lh ad ls nL (aUn i lv) := by
  refine ⟨(aUn_len _ _).trans hl, h.1, h.2.1, fun q hq => ?_⟩
  obtain ⟨w, h1, h2⟩ := lp_of hq
  rcases aLd_set h1 with ⟨e1, e2⟩ | ⟨e1, e2⟩
  · cases e2
  · obtain ⟨g1, g2⟩ := aKill_ld e2
    have := h.2.2 (q.1, cv ad w) (List.mem_cons_of_mem _ (List.mem_filter.mpr ⟨lp_mem g1, by
      have hc := cat_cv ad w
      by_cases hq1 : q.1 + 1 = i
      · have := g2 hq1
        simp [e1, hc, this]
      · simp [e1, hq1]⟩))
    rw [h2]
    exact this
