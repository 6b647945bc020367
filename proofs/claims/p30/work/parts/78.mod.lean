/-! ===== the model: mend; a script's commands ===== -/
theorem qPb_set {G : Gr} {c c' : Nat} {b b' v : Bool} : qPb (setBr G c b v) c' b' = qPb G c' b' := by
  cases b <;> rfl
theorem qB_set {G : Gr} {c : Nat} {b v : Bool} : qB (setBr G c b v) b c = v := by
  cases b
  · exact va_up_self _ _ _
  · exact va_up_self _ _ _
theorem up_back {f : Nat → Bool} {c : Nat} {v : Bool} : va_up (va_up f c v) c (f c) = f := funext fun j => by
  by_cases q : j = c
  · rw [q, va_up_self]
  · rw [va_up_ne _ _ q, va_up_ne _ _ q]
theorem setBr_back {G : Gr} {c : Nat} {b v : Bool} : setBr (setBr G c b v) c b (qB G b c) = G := by
  cases b
  · show (qR G, qC G, qL G, va_up (va_up (qE G) c v) c (qE G c), qS G, qW G, qWn G, qWl G, qN G, qNl G) = G
    rw [up_back]
  · show (qR G, qC G, qL G, qE G, va_up (va_up (qS G) c v) c (qS G c), qW G, qWn G, qWl G, qN G, qNl G) = G
    rw [up_back]
def kpB (G : Gr) (p : Nat) : Nat := kpG (setBr G (p / 2) (decide (p % 2 = 1)) (!qB G (decide (p % 2 = 1)) (p / 2)))
def mdF (G : Gr) : Nat → Nat → Int → Nat → Int
  | 0, _, b, _ => b
  | r + 1, p, b, m => if qPb G (p / 2) (decide (p % 2 = 1)) = true ∧ m < kpB G p then mdF G r (p + 1) (p : Int) (kpB G p) else mdF G r (p + 1) b m
def opMend (y : Sy) : Op := (0, mdF y.1 (2 * qM y.1) 0 (-9) (kpG y.1), y)
theorem kp_5 {G : Gr} : kpG G ≤ 5 := ct_le _ _
/-- nothing but the grid's places and the working rows is changed -/
def frW (h h' : AH) : Prop := ∀ j, ¬ (j = 122 ∨ j = 124 ∨ (130 ≤ j ∧ j ≤ 138)) → h' j = h j
theorem frW.refl {h : AH} : frW h h := fun _ _ => rfl
theorem frW.trans {h h' h'' : AH} (h1 : frW h h') (h2 : frW h' h'') : frW h h'' := fun j hj => (h2 j hj).trans (h1 j hj)
theorem frG.w {h h' : AH} (h1 : frG h h') : frW h h' := fun j hj => h1 j (by omega)
theorem fr.w {h h' : AH} {a n : Nat} (h1 : fr h h' a n) (ha : (a = 124 ∧ n = 1) ∨ (130 ≤ a ∧ a + n ≤ 139)) : frW h h' := fun j hj => h1 j (by omega)
def isWk (h : AH) : Prop := isRe h ∧ (∃ D, h 137 = eI 9 D) ∧ ∃ D, h 138 = eI 6 D
theorem isWk_fr {h h' : AH} (hW : isWk h) (he : ∀ j, 136 ≤ j → j ≤ 138 → h' j = h j) : isWk h' := by
  obtain ⟨h1, ⟨a, h2⟩, b, h3⟩ := hW
  exact ⟨isRe_fr h1 (he _ (by omega) (by omega)), ⟨a, (he _ (by omega) (by omega)).trans h2⟩, b, (he _ (by omega) (by omega)).trans h3⟩
theorem isWk_re {h h' : AH} (hW : isWk h) (hE : isRe h') (he : fr h h' 136 1) : isWk h' := by
  obtain ⟨h1, ⟨a, h2⟩, b, h3⟩ := hW
  exact ⟨hE, ⟨a, (he _ (by omega)).trans h2⟩, b, (he _ (by omega)).trans h3⟩
theorem isMo_w {h h' : AH} {G : Gr} {hist : List Gr} {sl : Nat → Option Gr} {n : Nat} {tx : Nat → Int} {th th' : Int} (hY : isMo h (G, hist, sl, n, tx) th) (hM : isMg h' G th' n hist.length) (hW : isWk h') (hf : frW h h') : isMo h' (G, hist, sl, n, tx) th' := by
  obtain ⟨-, hG, hT, hHi, hSv, ⟨⟨a, ha⟩, ⟨b, hb⟩, -, -, -⟩⟩ := hY
  exact ⟨hM, hG, isMt_fr hT (hf _ (by decide)), isHi_fr hHi (hf _ (by decide)), isSv_fr hSv (hf _ (by decide)) (hf _ (by decide)), ⟨a, (hf _ (by decide)).trans ha⟩, ⟨b, (hf _ (by decide)).trans hb⟩, hW.1, hW.2.1, hW.2.2⟩
theorem isMo.wk {h : AH} {y : Sy} {th : Int} (hY : isMo h y th) : isWk h := hY.2.2.2.2.2.2.2
