/-! ===== the model: findEntries, its loops ===== -/
theorem pj_f0 {G : Gr} (hG : okG G) {c : Nat} (h : c % qC G = 0) : pj G false c = false := by
  cases q : pj G false c with
  | false => rfl
  | true =>
    obtain ⟨y, e, hy⟩ := pj_ex q
    have h3 := (pos_next hG (jn_qP hy)).2.2
    rw [← e] at h3
    have h3 : c % qC G = y % qC G + 1 := h3
    omega
theorem pj_f1 {G : Gr} (hG : okG G) {c : Nat} (hc : c < qM G) (h : ¬ c % qC G = 0) : 1 ≤ c ∧ pj G false c = !qE G (c - 1) := by
  have hC := hG.2.1
  cases c with
  | zero => exact absurd (Nat.zero_mod _) h
  | succ x =>
    refine ⟨by omega, ?_⟩
    have hp : qPb G x false = true := qPb_iff.mpr ⟨by omega, by
      show x % qC G + 1 < qC G
      have hm := Nat.mod_lt x (show 0 < qC G by omega)
      rcases Nat.lt_or_ge (x % qC G + 1) (qC G) with k | k
      · exact k
      · refine absurd ?_ h
        rw [Nat.add_mod, Nat.mod_eq_of_lt (show 1 < qC G by omega), show x % qC G + 1 = qC G by omega, Nat.mod_self]⟩
    show (decide (1 ≤ x + 1) && (qPb G x false && !qB G false x)) = _
    rw [hp, decide_eq_true (by omega)]
    rfl
theorem pj_t0 {G : Gr} {c : Nat} (h : c < qC G) : pj G true c = false := by
  show (decide (qC G ≤ c) && jn G true (c - qC G)) = false
  rw [decide_eq_false (by omega)]
  rfl
theorem pj_t1 {G : Gr} {c : Nat} (hc : c < qM G) (h : ¬ c < qC G) : pj G true c = !qS G (c - qC G) := by
  have hp : qPb G (c - qC G) true = true := qPb_iff.mpr ⟨by omega, by
    show c - qC G + qC G < qM G
    omega⟩
  show (decide (qC G ≤ c) && (qPb G (c - qC G) true && !qB G true (c - qC G))) = _
  rw [hp, decide_eq_true (by omega)]
  rfl
def isMa (h : AH) (G : Gr) (th tl rm : Int) : Prop := ∃ E F D L A W C, isMx h G th tl rm E F D L A W C
theorem isMg.a {h : AH} {G : Gr} {th tl rm : Int} (hM : isMg h G th tl rm) : isMa h G th tl rm := by
  obtain ⟨F, D, L, A, W, C, hZ, m11, m12, m13, m14, m15, m16, -⟩ := hM
  exact ⟨_, F, D, L, A, W, C, hZ, m11, m12, m13, m14, m15, m16⟩
