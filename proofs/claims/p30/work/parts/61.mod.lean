/-- the text's row -/
def isMt (h : AH) (n : Nat) (tx : Nat → Int) : Prop := ∃ f, h 123 = eI 150 f ∧ n ≤ 150 ∧ ∀ i, i < n → f i = tx i ∧ 0 ≤ f i ∧ f i ≤ 255
theorem isMt_fr {h h' : AH} {n : Nat} {tx : Nat → Int} (hT : isMt h n tx) (he : h' 123 = h 123) : isMt h' n tx := by
  obtain ⟨f, h1, h2⟩ := hT
  exact ⟨f, he.trans h1, h2⟩
theorem sg_m {h : AH} {n : Nat} {tx : Nat → Int} (hT : isMt h n tx) (i : Nat) : -1 ≤ sg n tx i ∧ sg n tx i ≤ 255 := by
  obtain ⟨f, -, -, hf⟩ := hT
  unfold sg
  split
  · rename_i q
    have := hf i q
    omega
  · omega
