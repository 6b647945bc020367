/-! ===== the model: move, bars, writing and erasing words ===== -/
theorem rw_let {S : Nat → Int} {G : Gr} (hR : rwG S G) (hm36 : qM G ≤ 36) {c : Nat} (hc : c < qM G) {z : Int} : rwG (va_up S (2 + c) z) (setL G c z) := by
  obtain ⟨a0, a1, aL, aE, aS, a2, aW, aT, a3, aN⟩ := hR
  refine ⟨(va_up_ne _ _ (by omega)).trans a0, (va_up_ne _ _ (by omega)).trans a1, fun j hj => ?_, fun j hj => ?_, fun j hj => ?_, (va_up_ne _ _ (by omega)).trans a2, fun j hj => ?_, fun j i hj hi => ?_, (va_up_ne _ _ (by omega)).trans a3, fun j hj => ?_⟩
  · have hj : j < qM G := hj
    by_cases q : j = c
    · rw [q]
      exact (va_up_self _ _ _).trans (va_up_self _ _ _).symm
    · exact (va_up_ne _ _ (by omega)).trans ((aL j hj).trans (va_up_ne _ _ q).symm)
  · have hj : j < qM G := hj
    exact (va_up_ne _ _ (by omega)).trans (aE j hj)
  · have hj : j < qM G := hj
    exact (va_up_ne _ _ (by omega)).trans (aS j hj)
  · have hj : j < qW G := hj
    exact (va_up_ne _ _ (by omega)).trans (aW j hj)
  · have hj : j < qW G := hj
    exact (va_up_ne _ _ (by omega)).trans (aT j i hj hi)
  · have hj : j < qN G := hj
    exact (va_up_ne _ _ (by omega)).trans (aN j hj)
theorem rw_barE {S : Nat → Int} {G : Gr} (hR : rwG S G) (hm36 : qM G ≤ 36) {c : Nat} (hc : c < qM G) {v : Bool} : rwG (va_up S (38 + c) (bI v)) (setBr G c false v) := by
  obtain ⟨a0, a1, aL, aE, aS, a2, aW, aT, a3, aN⟩ := hR
  refine ⟨(va_up_ne _ _ (by omega)).trans a0, (va_up_ne _ _ (by omega)).trans a1, fun j hj => ?_, fun j hj => ?_, fun j hj => ?_, (va_up_ne _ _ (by omega)).trans a2, fun j hj => ?_, fun j i hj hi => ?_, (va_up_ne _ _ (by omega)).trans a3, fun j hj => ?_⟩
  · have hj : j < qM G := hj
    exact (va_up_ne _ _ (by omega)).trans (aL j hj)
  · have hj : j < qM G := hj
    by_cases q : j = c
    · rw [q]
      exact (va_up_self _ _ _).trans (congrArg bI (va_up_self _ _ _).symm)
    · exact (va_up_ne _ _ (by omega)).trans ((aE j hj).trans (congrArg bI (va_up_ne _ _ q).symm))
  · have hj : j < qM G := hj
    exact (va_up_ne _ _ (by omega)).trans (aS j hj)
  · have hj : j < qW G := hj
    exact (va_up_ne _ _ (by omega)).trans (aW j hj)
  · have hj : j < qW G := hj
    exact (va_up_ne _ _ (by omega)).trans (aT j i hj hi)
  · have hj : j < qN G := hj
    exact (va_up_ne _ _ (by omega)).trans (aN j hj)
theorem rw_barS {S : Nat → Int} {G : Gr} (hR : rwG S G) (hm36 : qM G ≤ 36) {c : Nat} (hc : c < qM G) {v : Bool} : rwG (va_up S (74 + c) (bI v)) (setBr G c true v) := by
  obtain ⟨a0, a1, aL, aE, aS, a2, aW, aT, a3, aN⟩ := hR
  refine ⟨(va_up_ne _ _ (by omega)).trans a0, (va_up_ne _ _ (by omega)).trans a1, fun j hj => ?_, fun j hj => ?_, fun j hj => ?_, (va_up_ne _ _ (by omega)).trans a2, fun j hj => ?_, fun j i hj hi => ?_, (va_up_ne _ _ (by omega)).trans a3, fun j hj => ?_⟩
  · have hj : j < qM G := hj
    exact (va_up_ne _ _ (by omega)).trans (aL j hj)
  · have hj : j < qM G := hj
    exact (va_up_ne _ _ (by omega)).trans (aE j hj)
  · have hj : j < qM G := hj
    by_cases q : j = c
    · rw [q]
      exact (va_up_self _ _ _).trans (congrArg bI (va_up_self _ _ _).symm)
    · exact (va_up_ne _ _ (by omega)).trans ((aS j hj).trans (congrArg bI (va_up_ne _ _ q).symm))
  · have hj : j < qW G := hj
    exact (va_up_ne _ _ (by omega)).trans (aW j hj)
  · have hj : j < qW G := hj
    exact (va_up_ne _ _ (by omega)).trans (aT j i hj hi)
  · have hj : j < qN G := hj
    exact (va_up_ne _ _ (by omega)).trans (aN j hj)
theorem rw_congr {S S' : Nat → Int} {G : Gr} (hR : rwG S G) (hG : okG G) (h : ∀ k, k < 174 → S' k = S k) : rwG S' G := by
  obtain ⟨hm4, hm36⟩ := hG.m
  obtain ⟨-, -, -, -, gW, gWn, -, gN, -⟩ := hG
  obtain ⟨a0, a1, aL, aE, aS, a2, aW, aT, a3, aN⟩ := hR
  exact ⟨(h _ (by omega)).trans a0, (h _ (by omega)).trans a1, fun j hj => (h _ (by omega)).trans (aL j hj), fun j hj => (h _ (by omega)).trans (aE j hj), fun j hj => (h _ (by omega)).trans (aS j hj), (h _ (by omega)).trans a2, fun j hj => (h _ (by omega)).trans (aW j hj), fun j i hj hi => (h _ (by have := (gWn j hj).2; omega)).trans (aT j i hj hi), (h _ (by omega)).trans a3, fun j hj => (h _ (by omega)).trans (aN j hj)⟩
theorem isMa_st {h h' : AH} {G G' : Gr} {th tl rm : Int} {S' : Nat → Int} (hA : isMa h G th tl rm) (e : h' 124 = eI 174 S') (hR : rwG S' G') (ho : ∀ j, ¬ j = 124 → h' j = h j) : isMa h' G' th tl rm := by
  obtain ⟨E, F, D, L, A, W, C, ⟨S, m0, m3, -⟩, m11, m12, m13, m14, m15, m16⟩ := hA
  exact ⟨E, F, D, L, A, W, C, ⟨S', (ho _ (by decide)).trans m0, e, hR⟩, (ho _ (by decide)).trans m11, (ho _ (by decide)).trans m12, (ho _ (by decide)).trans m13, (ho _ (by decide)).trans m14, (ho _ (by decide)).trans m15, (ho _ (by decide)).trans m16⟩
theorem isMg_S {G' G : Gr} (hs : sameB G' G) {h h' : AH} {th tl rm th' tl' rm' : Int} (hM : isMg h G th tl rm) (hZ : isM0 h' G' th' tl' rm' (nE G)) (he : ∀ j, 130 ≤ j → j ≤ 135 → h' j = h j) : isMg h' G' th' tl' rm' := by
  obtain ⟨F, D, L, A, W, C, -, m11, m12, m13, m14, m15, m16, hE, hA, hW, hC⟩ := hM
  refine ⟨F, D, L, A, W, C, by rw [nE_S hs]; exact hZ, (he _ (by omega) (by omega)).trans m11, (he _ (by omega) (by omega)).trans m12, (he _ (by omega) (by omega)).trans m13, (he _ (by omega) (by omega)).trans m14, (he _ (by omega) (by omega)).trans m15, (he _ (by omega) (by omega)).trans m16, fun e x b he => ?_, fun x hx => ?_, fun x hx => ?_, fun x hx => ?_⟩
  · rw [ents_S hs] at he
    rw [ln_S hs]
    exact hE e x b he
  · rw [qM_S hs] at hx
    rw [acr_S hs]
    exact hA x hx
  · rw [qM_S hs] at hx
    rw [acr_S hs]
    exact hW x hx
  · rw [qM_S hs] at hx
    rw [clue_S hs]
    exact hC x hx
theorem isMg_w {h : AH} {G : Gr} {th tl rm : Int} {S' : Nat → Int} {L L' : Nat → Int} (hM : isMg h (setLs G L) th tl rm) (hR : rwG S' (setLs G L')) : isMg (va_up h 124 (eI 174 S')) (setLs G L') th tl rm := by
  obtain ⟨S, m0, -, -⟩ := hM.z
  exact isMg_S (G := setLs G L) (G' := setLs G L') ⟨rfl, rfl, rfl, rfl⟩ hM ⟨S', (va_up_ne _ _ (by decide)).trans m0, va_up_self _ _ _, hR⟩ (fun j h1 h2 => va_up_ne _ _ (by omega))
