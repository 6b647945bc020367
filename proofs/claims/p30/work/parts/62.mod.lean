/-! ===== the model: rules ===== -/
theorem al_iff {p : Nat → Bool} : ∀ (r i : Nat), alF p r i = true ↔ ∀ j, i ≤ j → j < i + r → p j = true
  | 0, i => ⟨fun _ j h1 h2 => absurd h2 (by omega), fun _ => rfl⟩
  | r + 1, i => by
    simp only [alF, Bool.and_eq_true]
    constructor
    · intro ⟨h1, h2⟩ j h3 h4
      rcases Nat.lt_or_ge i j with q | q
      · exact (al_iff r (i + 1)).mp h2 j q (by omega)
      · rw [show j = i by omega]
        exact h1
    · intro h
      exact ⟨h i (Nat.le_refl _) (by omega), (al_iff r (i + 1)).mpr (fun j h1 h2 => h j (by omega) (by omega))⟩
def pTr (G : Gr) (c : Nat) : Bool := !qPb G c false || decide (qE G c = qE G (qM G - 2 - c))
def pTd (G : Gr) (c : Nat) : Bool := !qPb G c true || decide (qS G c = qS G (qM G - 1 - qC G - c))
def pTm (G : Gr) (c : Nat) : Bool := pTr G c && pTd G c
theorem tu_sym {f : Nat → Bool} {m s : Nat} (h : ∀ c, c < m → (!f c || f (m - 1 - (c + s))) = true) {c : Nat} (hc : c + s < m) : f c = f (m - 1 - s - c) := by
  have h1 := h c (by omega)
  have h2 := h (m - 1 - s - c) (by omega)
  rw [show m - 1 - (c + s) = m - 1 - s - c by omega] at h1
  rw [show m - 1 - (m - 1 - s - c + s) = c by omega] at h2
  cases q1 : f c <;> cases q2 : f (m - 1 - s - c) <;> rw [q1, q2] at h1 h2 <;> first | rfl | exact absurd h1 (by decide) | exact absurd h2 (by decide)
theorem tm_eq {G : Gr} (hG : okG G) : alF (pTm G) (qM G) 0 = tuG G := by
  have hm := hG.m
  obtain ⟨⟨hr2, hr6⟩, ⟨hc2, hc6⟩, gL, gB, -⟩ := hG
  have e : (alF (pTm G) (qM G) 0 = true) ↔ (tuG G = true) := by
    unfold tuG
    rw [al_iff, al_iff]
    constructor
    · intro h j h1 h2
      have hj := h j h1 h2
      unfold pTm at hj
      rw [Bool.and_eq_true] at hj
      obtain ⟨a1, a2⟩ := hj
      unfold pTu
      rw [Bool.and_eq_true]
      constructor
      · cases q : qE G j with
        | false => rfl
        | true =>
          have hp : qPb G j false = true := qPb_iff.mpr (gB false j q)
          unfold pTr at a1
          rw [hp, q] at a1
          have a1 : decide (true = qE G (qM G - 2 - j)) = true := a1
          rw [show qM G - 1 - (j + 1) = qM G - 2 - j by omega, ← of_decide_eq_true a1]
          rfl
      · cases q : qS G j with
        | false => rfl
        | true =>
          have hp : qPb G j true = true := qPb_iff.mpr (gB true j q)
          unfold pTd at a2
          rw [hp, q] at a2
          have a2 : decide (true = qS G (qM G - 1 - qC G - j)) = true := a2
          rw [show qM G - 1 - (j + qC G) = qM G - 1 - qC G - j by omega, ← of_decide_eq_true a2]
          rfl
    · intro h j h1 h2
      have hE : ∀ c, c < qM G → (!qE G c || qE G (qM G - 1 - (c + 1))) = true := fun c hc => by
        have := h c (Nat.zero_le _) (by omega)
        unfold pTu at this
        exact (Bool.and_eq_true _ _ ▸ this).1
      have hS : ∀ c, c < qM G → (!qS G c || qS G (qM G - 1 - (c + qC G))) = true := fun c hc => by
        have := h c (Nat.zero_le _) (by omega)
        unfold pTu at this
        exact (Bool.and_eq_true _ _ ▸ this).2
      unfold pTm
      rw [Bool.and_eq_true]
      constructor
      · unfold pTr
        cases q : qPb G j false with
        | false => rfl
        | true =>
          have hp := qPb_iff.mp q
          have hlt : j + 1 < qM G := by
            have h3 := hp.1
            have h4 : j % qC G + 1 < qC G := hp.2
            rcases Nat.lt_or_ge (j + 1) (qM G) with k | k
            · exact k
            · have e1 : j + 1 = qM G := by omega
              have e2 : (j + 1) % qC G = 0 := by
                rw [e1]
                exact Nat.mul_mod_left _ _
              have e3 : (j + 1) % qC G = j % qC G + 1 := by
                rw [Nat.add_mod, Nat.mod_eq_of_lt (show 1 < qC G by omega)]
                exact Nat.mod_eq_of_lt h4
              omega
          have ht := tu_sym (s := 1) hE hlt
          rw [show qM G - 1 - 1 - j = qM G - 2 - j by omega] at ht
          rw [decide_eq_true ht]
          rfl
      · unfold pTd
        cases q : qPb G j true with
        | false => rfl
        | true =>
          rw [decide_eq_true (tu_sym (s := qC G) hS (qPb_iff.mp q).2)]
          rfl
  exact Bool.eq_iff_iff.mpr e
theorem pl_r {G : Gr} (hG : okG G) {j : Nat} (h : qPb G j false = true) : j + 1 < qM G := (pos_next hG (qPb_iff.mp h)).2.1
theorem pl_d {G : Gr} {j : Nat} (h : qPb G j true = true) : j + qC G < qM G := (qPb_iff.mp h).2
theorem bI_inj {a b : Bool} (h : bI a = bI b) : a = b := by
  cases a <;> cases b <;> first | rfl | cases h
