/-! ===== the model's face: actions ===== -/
theorem opUndo_c {G G2 : Gr} {l : List Gr} {r : (Nat → Option Gr) × Nat × (Nat → Int)} : opUndo (G, l ++ [G2], r) = (0, (l.length : Int), (G2, l, r)) := by
  simp [opUndo]
theorem cat_of {α : Type} (l : List α) (h : 0 < l.length) : ∃ m a, l = m ++ [a] := by
  refine ⟨l.dropLast, l.getLast (fun q => by rw [q] at h; exact Nat.lt_irrefl 0 h), ?_⟩
  exact (List.dropLast_concat_getLast _).symm
theorem isHi_pre {h : AH} {l : List Gr} {G : Gr} (hH : isHi h (l ++ [G])) : isHi h l := by
  obtain ⟨H, e0, h1, h2⟩ := hH
  rw [List.length_append] at h1
  exact ⟨H, e0, by omega, fun j G2 hj => h2 j G2 (by
    have hlt : j < l.length := by
      rcases Nat.lt_or_ge j l.length with q | q
      · exact q
      · rw [List.getElem?_eq_none q] at hj
        cases hj
    rw [List.getElem?_append_left hlt]
    exact hj)⟩
theorem isMa_o {h h' : AH} {G : Gr} {th tl rm th' tl' rm' E' : Int} (hA : isMa h G th tl rm) (e : h' 122 = moO th' tl' rm' E') (ho : ∀ j, ¬ j = 122 → h' j = h j) : isMa h' G th' tl' rm' := by
  obtain ⟨E, F, D, L, A, W, C, ⟨S, m0, m3, hR⟩, m11, m12, m13, m14, m15, m16⟩ := hA
  exact ⟨E', F, D, L, A, W, C, ⟨S, e, (ho _ (by decide)).trans m3, hR⟩, (ho _ (by decide)).trans m11, (ho _ (by decide)).trans m12, (ho _ (by decide)).trans m13, (ho _ (by decide)).trans m14, (ho _ (by decide)).trans m15, (ho _ (by decide)).trans m16⟩
