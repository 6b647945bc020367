/-! ===== the model: findEntries ===== -/
/-- a picture of the entries' arrays, whatever they hold -/
def isMx (h : AH) (G : Gr) (th tl rm E : Int) (F D L A W C : Nat → Int) : Prop := isM0 h G th tl rm E ∧ h 130 = eI 36 F ∧ h 131 = eI 36 D ∧ h 132 = eI 36 L ∧ h 133 = eI 36 A ∧ h 134 = eI 36 W ∧ h 135 = eI 36 C
/-- nothing but the grid's places is changed -/
def frG (h h' : AH) : Prop := ∀ j, ¬ (j = 122 ∨ j = 124 ∨ (130 ≤ j ∧ j ≤ 135)) → h' j = h j
theorem frG.refl {h : AH} : frG h h := fun _ _ => rfl
theorem frG.trans {h h' h'' : AH} (h1 : frG h h') (h2 : frG h' h'') : frG h h'' := fun j hj => (h2 j hj).trans (h1 j hj)
theorem frG_up {h h' : AH} {i : Nat} {v : AE} (h1 : frG h h') (hi : i = 122 ∨ i = 124 ∨ (130 ≤ i ∧ i ≤ 135)) : frG h (va_up h' i v) := fun j hj => (va_up_ne _ _ (by omega)).trans (h1 j hj)
theorem isM0_E {h : AH} {G : Gr} {th tl rm E : Int} (hZ : isM0 h G th tl rm E) {th' tl' rm' E' : Int} : isM0 (va_up h 122 (moO th' tl' rm' E')) G th' tl' rm' E' := by
  obtain ⟨S, m0, m3, hR⟩ := hZ
  exact ⟨S, va_up_self _ _ _, (va_up_ne _ _ (by decide)).trans m3, hR⟩
theorem isMx_F {h : AH} {G : Gr} {th tl rm E : Int} {F D L A W C : Nat → Int} (hX : isMx h G th tl rm E F D L A W C) {X : Nat → Int} : isMx (va_up h 130 (eI 36 X)) G th tl rm E X D L A W C := by
  obtain ⟨hZ, m11, m12, m13, m14, m15, m16⟩ := hX
  exact ⟨isM0_fr hZ (va_up_ne _ _ (by decide)) (va_up_ne _ _ (by decide)), va_up_self _ _ _, (va_up_ne _ _ (by decide)).trans m12, (va_up_ne _ _ (by decide)).trans m13, (va_up_ne _ _ (by decide)).trans m14, (va_up_ne _ _ (by decide)).trans m15, (va_up_ne _ _ (by decide)).trans m16⟩
theorem isMx_D {h : AH} {G : Gr} {th tl rm E : Int} {F D L A W C : Nat → Int} (hX : isMx h G th tl rm E F D L A W C) {X : Nat → Int} : isMx (va_up h 131 (eI 36 X)) G th tl rm E F X L A W C := by
  obtain ⟨hZ, m11, m12, m13, m14, m15, m16⟩ := hX
  exact ⟨isM0_fr hZ (va_up_ne _ _ (by decide)) (va_up_ne _ _ (by decide)), (va_up_ne _ _ (by decide)).trans m11, va_up_self _ _ _, (va_up_ne _ _ (by decide)).trans m13, (va_up_ne _ _ (by decide)).trans m14, (va_up_ne _ _ (by decide)).trans m15, (va_up_ne _ _ (by decide)).trans m16⟩
theorem isMx_L {h : AH} {G : Gr} {th tl rm E : Int} {F D L A W C : Nat → Int} (hX : isMx h G th tl rm E F D L A W C) {X : Nat → Int} : isMx (va_up h 132 (eI 36 X)) G th tl rm E F D X A W C := by
  obtain ⟨hZ, m11, m12, m13, m14, m15, m16⟩ := hX
  exact ⟨isM0_fr hZ (va_up_ne _ _ (by decide)) (va_up_ne _ _ (by decide)), (va_up_ne _ _ (by decide)).trans m11, (va_up_ne _ _ (by decide)).trans m12, va_up_self _ _ _, (va_up_ne _ _ (by decide)).trans m14, (va_up_ne _ _ (by decide)).trans m15, (va_up_ne _ _ (by decide)).trans m16⟩
theorem isMx_A {h : AH} {G : Gr} {th tl rm E : Int} {F D L A W C : Nat → Int} (hX : isMx h G th tl rm E F D L A W C) {X : Nat → Int} : isMx (va_up h 133 (eI 36 X)) G th tl rm E F D L X W C := by
  obtain ⟨hZ, m11, m12, m13, m14, m15, m16⟩ := hX
  exact ⟨isM0_fr hZ (va_up_ne _ _ (by decide)) (va_up_ne _ _ (by decide)), (va_up_ne _ _ (by decide)).trans m11, (va_up_ne _ _ (by decide)).trans m12, (va_up_ne _ _ (by decide)).trans m13, va_up_self _ _ _, (va_up_ne _ _ (by decide)).trans m15, (va_up_ne _ _ (by decide)).trans m16⟩
theorem isMx_W {h : AH} {G : Gr} {th tl rm E : Int} {F D L A W C : Nat → Int} (hX : isMx h G th tl rm E F D L A W C) {X : Nat → Int} : isMx (va_up h 134 (eI 36 X)) G th tl rm E F D L A X C := by
  obtain ⟨hZ, m11, m12, m13, m14, m15, m16⟩ := hX
  exact ⟨isM0_fr hZ (va_up_ne _ _ (by decide)) (va_up_ne _ _ (by decide)), (va_up_ne _ _ (by decide)).trans m11, (va_up_ne _ _ (by decide)).trans m12, (va_up_ne _ _ (by decide)).trans m13, (va_up_ne _ _ (by decide)).trans m14, va_up_self _ _ _, (va_up_ne _ _ (by decide)).trans m16⟩
theorem isMx_C {h : AH} {G : Gr} {th tl rm E : Int} {F D L A W C : Nat → Int} (hX : isMx h G th tl rm E F D L A W C) {X : Nat → Int} : isMx (va_up h 135 (eI 36 X)) G th tl rm E F D L A W X := by
  obtain ⟨hZ, m11, m12, m13, m14, m15, m16⟩ := hX
  exact ⟨isM0_fr hZ (va_up_ne _ _ (by decide)) (va_up_ne _ _ (by decide)), (va_up_ne _ _ (by decide)).trans m11, (va_up_ne _ _ (by decide)).trans m12, (va_up_ne _ _ (by decide)).trans m13, (va_up_ne _ _ (by decide)).trans m14, (va_up_ne _ _ (by decide)).trans m15, va_up_self _ _ _⟩
theorem isMx_E {h : AH} {G : Gr} {th tl rm E : Int} {F D L A W C : Nat → Int} (hX : isMx h G th tl rm E F D L A W C) {E' : Int} : isMx (va_up h 122 (moO th tl rm E')) G th tl rm E' F D L A W C := by
  obtain ⟨hZ, m11, m12, m13, m14, m15, m16⟩ := hX
  exact ⟨isM0_E hZ, (va_up_ne _ _ (by decide)).trans m11, (va_up_ne _ _ (by decide)).trans m12, (va_up_ne _ _ (by decide)).trans m13, (va_up_ne _ _ (by decide)).trans m14, (va_up_ne _ _ (by decide)).trans m15, (va_up_ne _ _ (by decide)).trans m16⟩
