/-! ===== a command of five digits ===== -/
def g2 (g : Nat) : Nat := g / 1000 % 10
def g3 (g : Nat) : Nat := g / 100 % 10
def g4 (g : Nat) : Nat := g / 10 % 10
def g5 (g : Nat) : Nat := g % 10
def gF9 (g : Nat) : Nat := 10 * g2 g + g3 g
def gB9 (g : Nat) : Nat := 10 * g4 g + g5 g
def gL9 (g : Nat) : Nat := 100 * g3 g + gB9 g
def cbF (G : Gr) (c a b : Nat) : Bool × Gr := if a ≤ 1 ∧ b ≤ 1 ∧ qPb G c (decide (a = 1)) = true then (true, setBr G c (decide (a = 1)) (decide (b = 1))) else (false, G)
def cmF (G : Gr) (g : Nat) : Bool × Gr := match g / 10000 with
  | 1 => plF G (gF9 g) (gB9 g)
  | 2 => cbF G (gF9 g) (g4 g) (g5 g)
  | 3 => if g5 g = 0 then feF G (gF9 g) (g4 g) else (false, G)
  | 4 => if gB9 g = 0 then ceF G (gF9 g) else (false, G)
  | 5 => (decide (g3 g = 0) && decide (gB9 g = 0) && ruG G (g2 g), G)
  | 6 => (decide (g2 g = 0) && decide (gL9 g ≤ (rdS G false (gL9 g)).1), G)
  | 7 => (decide (g4 g = 0) && decide (gF9 g < nE G) && decide (g5 g ≤ fcG G (gF9 g)), G)
  | 8 => (decide (g4 g = 0) && decide (gF9 g < qM G) && decide (enC G (gF9 g) = g5 g), G)
  | 9 => (decide (gF9 g = 0) && decide (nE G = gB9 g), G)
  | _ => (false, G)
theorem isSe_fr {h h' : AH} (hE : isSe h) (he : ∀ j, 116 ≤ j → j < 119 → h' j = h j) : isSe h' := by
  obtain ⟨e, l, f, g, us, P, FP, u0, u1, u2⟩ := hE
  exact ⟨e, l, f, g, us, P, FP, (he _ (by omega) (by omega)).trans u0, (he _ (by omega) (by omega)).trans u1, (he _ (by omega) (by omega)).trans u2⟩
theorem ruG_5 {G : Gr} {r : Nat} (h : 5 ≤ r) : ruG G r = false := by
  match r, h with
  | r + 5, _ => rfl
theorem ak {d k N r : Nat} {h : AH} {G : Gr} {Q : AQ} (hP : isPz h k G) (hG : okG G) (hN : k + 12 ≤ N) (hr : r < 10) (hQ : ∀ z : Int, z = bI (ruG G r) → Q (.inl (some (vI z))) h N) : T (d + 5) 48 [vR k, vI r] h N Q := by
  rcases Nat.lt_or_ge r 5 with q | q
  · exact areKept_T hP hG hN q hQ
  · exact areKept_X ⟨q, by omega⟩ (hQ 0 (by rw [ruG_5 q]; rfl))
