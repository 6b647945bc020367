/-! ===== writing a word into an entry, and erasing it ===== -/
theorem setL_is {G : Gr} {L : Nat → Int} {x : Nat} {z : Int} : setL (setLs G L) x z = setLs G (va_up L x z) := rfl
def filL (G : Gr) (e w : Nat) : Nat → Nat → (Nat → Int) → (Nat → Int)
  | 0, _, L => L
  | r + 1, i, L => filL G e w r (i + 1) (va_up L (cel G e i) (qWl G w i))
def goB (G : Gr) (e : Nat) (L : Nat → Int) (x : Nat) : Bool := !decide (L x = 0) && (decide (acr G (!eB G e) x = -9) || !decide (emG (setLs G L) (acr G (!eB G e) x).toNat = 0))
def claF (G : Gr) (e : Nat) : Nat → Nat → (Nat → Int) → Nat → (Nat → Int) × Nat
  | 0, _, L, a => (L, a)
  | r + 1, i, L, a => if goB G e L (cel G e i) = true then claF G e r (i + 1) (va_up L (cel G e i) 0) (a + 1) else claF G e r (i + 1) L a
def okL (G : Gr) (L : Nat → Int) : Prop := ∀ c, c < qM G → L c = 0 ∨ isLet (L c)
theorem ok_fil {G : Gr} (hG : okG G) {e w : Nat} (hw : w < qW G) : ∀ r i L, i + r ≤ qWn G w → okL G L → okL G (filL G e w r i L)
  | 0, _, L, _, h => h
  | r + 1, i, L, hi, h => ok_fil hG hw r (i + 1) _ (by omega) (up_let h (Or.inr (hG.2.2.2.2.2.2.1 w i hw (by omega))))
theorem ok_cla {G : Gr} {e : Nat} : ∀ r i L a, okL G L → okL G (claF G e r i L a).1
  | 0, _, L, _, h => h
  | r + 1, i, L, a, h => by
    simp only [claF]
    by_cases q : goB G e L (cel G e i) = true
    · rw [if_pos q]
      exact ok_cla r (i + 1) _ _ (up_let h (Or.inl rfl))
    · rw [if_neg q]
      exact ok_cla r (i + 1) _ _ h
theorem isPz_L {h h' : AH} {k : Nat} {G : Gr} {L L' : Nat → Int} (hP : isPz h k (setLs G L)) (hS : isSt h' (k + 1) (setLs G L')) (hf : fr h h' (k + 1) 5) : isPz h' k (setLs G L') := isPz_S (G := setLs G L) (G' := setLs G L') ⟨rfl, rfl, rfl, rfl⟩ hP hS hf
