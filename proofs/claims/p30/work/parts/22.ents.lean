/-! ===== the entries, as numbers and lists ===== -/
def tn (b : Bool) : Nat := match b with
  | true => 1
  | false => 0
def qPb (G : Gr) (c : Nat) (b : Bool) : Bool := decide (c < qM G) && match b with
  | true => decide (c + qC G < qM G)
  | false => decide (c % qC G + 1 < qC G)
theorem qPb_iff {G : Gr} {c : Nat} {b : Bool} : qPb G c b = true ↔ qP G c b := by
  cases b <;> simp [qPb, qP]
/-- joined with the next cell in a direction (true: down) -/
def jn (G : Gr) (b : Bool) (c : Nat) : Bool := qPb G c b && !qB G b c
theorem jn_iff {G : Gr} {c : Nat} {b : Bool} : jn G b c = true ↔ qJ G c b := by
  simp [jn, qJ, qPb_iff]
def sp (G : Gr) (b : Bool) : Nat := match b with
  | true => qC G
  | false => 1
/-- joined with the cell before -/
def pj (G : Gr) (b : Bool) (c : Nat) : Bool := decide (sp G b ≤ c) && jn G b (c - sp G b)
/-- an entry begins here -/
def st (G : Gr) (b : Bool) (c : Nat) : Bool := jn G b c && !pj G b c
/-- how many entries begin before a cell -/
def cnt (G : Gr) : Nat → Nat
  | 0 => 0
  | c + 1 => cnt G c + tn (st G false c) + tn (st G true c)
def cntA (G : Gr) : Nat → Nat
  | 0 => 0
  | c + 1 => cntA G c + tn (st G false c)
def clu (G : Gr) : Nat → Nat
  | 0 => 0
  | c + 1 => clu G c + tn (st G false c || st G true c)
/-- the number of the entry that begins at c -/
def eIx (G : Gr) (b : Bool) (c : Nat) : Nat := cnt G c + match b with
  | true => tn (st G false c)
  | false => 0
def lnF (G : Gr) (b : Bool) : Nat → Nat → Nat
  | 0, _ => 0
  | f + 1, c => if jn G b c = true then 1 + lnF G b f (c + sp G b) else 1
/-- how long the run from c is -/
def ln (G : Gr) (b : Bool) (c : Nat) : Nat := lnF G b 6 c
def rsF (G : Gr) (b : Bool) : Nat → Nat → Nat
  | 0, c => c
  | f + 1, c => if pj G b c = true then rsF G b f (c - sp G b) else c
/-- where the run that c is in begins -/
def rs (G : Gr) (b : Bool) (c : Nat) : Nat := rsF G b 6 c
def inE (G : Gr) (b : Bool) (c : Nat) : Bool := jn G b c || pj G b c
/-- the entry that a cell is in, in a direction -/
def acr (G : Gr) (b : Bool) (c : Nat) : Int := if inE G b c = true then ((eIx G b (rs G b c) : Nat) : Int) else -9
def clue (G : Gr) (c : Nat) : Int := if (st G false c || st G true c) = true then ((clu G (c + 1) : Nat) : Int) else -9
def entsTo (G : Gr) : Nat → List (Nat × Bool)
  | 0 => []
  | c + 1 => entsTo G c ++ ((if st G false c = true then [(c, false)] else []) ++ (if st G true c = true then [(c, true)] else []))
/-- the entries: first cell, direction -/
def ents (G : Gr) : List (Nat × Bool) := entsTo G (qM G)
theorem entsTo_len (G : Gr) : ∀ c, (entsTo G c).length = cnt G c
  | 0 => rfl
  | c + 1 => by
    simp only [entsTo, cnt, List.length_append, entsTo_len G c]
    cases st G false c <;> cases st G true c <;> rfl
theorem cnt_mono {G : Gr} {a b : Nat} (h : a ≤ b) : cnt G a ≤ cnt G b := by
  induction b with
  | zero =>
    have : a = 0 := by omega
    subst this
    exact Nat.le_refl _
  | succ b ih =>
    rcases Nat.lt_or_ge a (b + 1) with q | q
    · have := ih (by omega)
      show cnt G a ≤ cnt G b + tn _ + tn _
      omega
    · have : a = b + 1 := by omega
      subst this
      exact Nat.le_refl _
theorem entsTo_get {G : Gr} {b : Bool} {c : Nat} (hs : st G b c = true) : ∀ n, c < n → (entsTo G n)[eIx G b c]? = some (c, b)
  | 0, h => by omega
  | n + 1, h => by
    have hl := entsTo_len G n
    rcases Nat.lt_or_ge c n with q | q
    · have ih := entsTo_get hs n q
      have hlt : eIx G b c < (entsTo G n).length := (List.getElem?_eq_some_iff.mp ih).1
      show (entsTo G n ++ _)[eIx G b c]? = _
      rw [List.getElem?_append_left hlt]
      exact ih
    · have hcn : c = n := by omega
      subst hcn
      show (entsTo G c ++ _)[eIx G b c]? = _
      cases b
      · have e : eIx G false c = cnt G c := rfl
        rw [e, ← hl, List.getElem?_append_right (Nat.le_refl _), Nat.sub_self, if_pos hs]
        rfl
      · have e : eIx G true c = cnt G c + tn (st G false c) := rfl
        rw [e, ← hl, List.getElem?_append_right (Nat.le_add_right _ _), Nat.add_sub_cancel_left, if_pos hs]
        cases st G false c <;> rfl
theorem entsTo_spec {G : Gr} : ∀ (n e c : Nat) (b : Bool), (entsTo G n)[e]? = some (c, b) → c < n ∧ st G b c = true ∧ e = eIx G b c
  | 0, e, c, b, h => by simp [entsTo] at h
  | n + 1, e, c, b, h => by
    have hl := entsTo_len G n
    have h : (entsTo G n ++ ((if st G false n = true then [(n, false)] else []) ++ (if st G true n = true then [(n, true)] else [])))[e]? = some (c, b) := h
    rcases Nat.lt_or_ge e (entsTo G n).length with q | q
    · rw [List.getElem?_append_left q] at h
      obtain ⟨h1, h2, h3⟩ := entsTo_spec n e c b h
      exact ⟨by omega, h2, h3⟩
    · rw [List.getElem?_append_right q] at h
      obtain ⟨r, hr⟩ : ∃ r, e = cnt G n + r := ⟨e - cnt G n, by omega⟩
      rw [hl, hr, Nat.add_sub_cancel_left] at h
      cases hA : st G false n <;> cases hD : st G true n <;> rw [hA, hD] at h
      · simp at h
      · match r, h with
        | 0, h =>
          cases h
          exact ⟨by omega, hD, by rw [hr]; show _ = cnt G n + tn (st G false n); rw [hA]; rfl⟩
        | r + 1, h => simp at h
      · match r, h with
        | 0, h =>
          cases h
          exact ⟨by omega, hA, by rw [hr]; rfl⟩
        | r + 1, h => simp at h
      · match r, h with
        | 0, h =>
          cases h
          exact ⟨by omega, hA, by rw [hr]; rfl⟩
        | 1, h =>
          cases h
          exact ⟨by omega, hD, by rw [hr]; show _ = cnt G n + tn (st G false n); rw [hA]; rfl⟩
        | r + 2, h => simp at h
