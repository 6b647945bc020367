/-! ===== the model: readings ===== -/
theorem sq_b {x : Int} (h : -5 ≤ x ∧ x ≤ 5) : 0 ≤ x * x ∧ x * x ≤ 25 := by
  obtain ⟨h1, h2⟩ := h
  have hx : x = -5 ∨ x = -4 ∨ x = -3 ∨ x = -2 ∨ x = -1 ∨ x = 0 ∨ x = 1 ∨ x = 2 ∨ x = 3 ∨ x = 4 ∨ x = 5 := by omega
  rcases hx with rfl | rfl | rfl | rfl | rfl | rfl | rfl | rfl | rfl | rfl | rfl <;> decide
def knL (G : Gr) (ch : List Nat) (c : Nat) : Bool := match ch.getLast? with
  | some a => knS G a c
  | none => true
theorem knL_a {G : Gr} {ch : List Nat} {a c : Nat} (h : ch.getLast? = some a) : knL G ch c = knS G a c := by
  unfold knL
  rw [h]
theorem crG_k {G : Gr} {em : Bool} {ch : List Nat} {c : Nat} : crG G em ch c = (alw G em ch c && knL G ch c) := rfl
theorem crG_b {G : Gr} {em : Bool} {ch : List Nat} {c : Nat} : crG G em ch c = (!ch.contains c && (decide (enC G c = 1) && (if qL G c = 0 then em else decide (qL G c = qNl G ch.length))) && knL G ch c) := by
  rw [crG_k]
  unfold alw
  rw [Bool.and_assoc (!ch.contains c)]
theorem cont_f {ch : List Nat} {c : Nat} (h : ¬ c ∈ ch) : ch.contains c = false := by
  cases q : ch.contains c with
  | false => rfl
  | true => exact absurd (List.contains_iff_mem.mp q) h
theorem cont_t {ch : List Nat} {c : Nat} (h : c ∈ ch) : ch.contains c = true := List.contains_iff_mem.mpr h
