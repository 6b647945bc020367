/-! ===== the model: connected; which rules are kept ===== -/
theorem spr_0 {G : Gr} {b : Bool} {c : Nat} {U : Nat → Bool} (h : (jn G b c && (U c || U (c + sp G b))) = false) : spr G b c U = U := if_neg (by rw [h]; decide)
theorem spr_1 {G : Gr} {b : Bool} {c : Nat} {U : Nat → Bool} (h : (jn G b c && (U c || U (c + sp G b))) = true) : spr G b c U = va_up (va_up U c true) (c + sp G b) true := if_pos h
theorem up1_b {R : Nat → Int} {U : Nat → Bool} {m a a' : Nat} {v : Bool} {z : Int} (ha : a' = a) (hz : z = bI v) (h : ∀ j, j < m → R j = bI (U j)) : ∀ j, j < m → va_up R a' z j = bI (va_up U a v j) := by
  subst ha
  intro j hj
  by_cases q : j = a'
  · rw [q, va_up_self, va_up_self, hz]
  · rw [va_up_ne _ _ q, va_up_ne _ _ q]
    exact h j hj
theorem isM0_f {h h' : AH} {G : Gr} {th tl rm en : Int} {a n : Nat} (hZ : isM0 h G th tl rm en) (hf : fr h h' a n) (ha : 125 ≤ a) : isM0 h' G th tl rm en := isM0_fr hZ (hf _ (by omega)) (hf _ (by omega))
theorem isMg_f {h h' : AH} {G : Gr} {th tl rm : Int} {a n : Nat} (hM : isMg h G th tl rm) (hf : fr h h' a n) (ha : 136 ≤ a) : isMg h' G th tl rm := isMg_fr hM (fun j hj => hf j (by omega))
theorem fr_2 {h : AH} {a : Nat} {u v : AE} : fr h (va_up (va_up h a u) a v) a 1 := fun j hj => (va_up_ne _ _ (by omega)).trans (va_up_ne _ _ (by omega))
theorem fr_0 {h : AH} {a : Nat} {u : AE} : fr h (va_up h a u) a 1 := fun j hj => va_up_ne _ _ (by omega)
def isRe (h : AH) : Prop := ∃ R, h 136 = eI 36 R
