/-! ===== runs ===== -/
def pos (G : Gr) (b : Bool) (c : Nat) : Nat := match b with
  | true => c / qC G
  | false => c % qC G
def lim (G : Gr) (b : Bool) : Nat := match b with
  | true => qR G
  | false => qC G
theorem lim6 {G : Gr} (hG : okG G) (b : Bool) : 2 ≤ lim G b ∧ lim G b ≤ 6 := by
  cases b
  · exact hG.2.1
  · exact hG.1
theorem sp_pos {G : Gr} (hG : okG G) (b : Bool) : 1 ≤ sp G b ∧ sp G b ≤ 6 := by
  have h := hG.2.1
  cases b
  · exact ⟨Nat.le_refl 1, by show 1 ≤ 6; decide⟩
  · exact ⟨by show 1 ≤ qC G; omega, h.2⟩
theorem pos_lt {G : Gr} (hG : okG G) {b : Bool} {c : Nat} (hc : c < qM G) : pos G b c < lim G b := by
  have h := hG.2.1.1
  cases b
  · exact Nat.mod_lt _ (by omega)
  · exact Nat.div_lt_of_lt_mul (by rw [Nat.mul_comm]; exact hc)
theorem pos_next {G : Gr} (hG : okG G) {b : Bool} {c : Nat} (h : qP G c b) : c < qM G ∧ c + sp G b < qM G ∧ pos G b (c + sp G b) = pos G b c + 1 := by
  obtain ⟨h1, h2⟩ := h
  have hC := hG.2.1.1
  cases b
  · have h2 : c % qC G + 1 < qC G := h2
    have e : (c + 1) % qC G = c % qC G + 1 := by
      rw [Nat.add_mod, Nat.mod_eq_of_lt (show 1 < qC G by omega), Nat.mod_eq_of_lt h2]
    refine ⟨h1, ?_, e⟩
    show c + 1 < qM G
    rcases Nat.lt_or_ge (c + 1) (qM G) with q | q
    · exact q
    · exfalso
      have e2 : c + 1 = qM G := by omega
      rw [e2] at e
      unfold qM at e
      rw [Nat.mul_mod_left] at e
      omega
  · exact ⟨h1, h2, Nat.add_div_right c (show 0 < qC G by omega)⟩
theorem jn_qP {G : Gr} {b : Bool} {c : Nat} (h : jn G b c = true) : qP G c b := (jn_iff.mp h).1
theorem step_eq (c i s : Nat) : c + (i + 1) * s = c + i * s + s := by
  rw [Nat.add_mul, Nat.one_mul]
  omega
theorem step_eq' (c i s : Nat) : c + (i + 1) * s = c + s + i * s := by
  rw [Nat.add_mul, Nat.one_mul]
  omega
def chain (G : Gr) (b : Bool) (c i : Nat) : Prop := ∀ j, j < i → jn G b (c + j * sp G b) = true
theorem chain_pos {G : Gr} (hG : okG G) {b : Bool} {c : Nat} (hc : c < qM G) : ∀ i, chain G b c i → c + i * sp G b < qM G ∧ pos G b (c + i * sp G b) = pos G b c + i
  | 0, _ => by
    rw [Nat.zero_mul, Nat.add_zero]
    exact ⟨hc, rfl⟩
  | i + 1, h => by
    obtain ⟨h1, h2⟩ := chain_pos hG hc i (fun j hj => h j (by omega))
    have hj := pos_next hG (jn_qP (h i (by omega)))
    rw [step_eq]
    exact ⟨hj.2.1, by rw [hj.2.2, h2]; omega⟩
theorem lnF_spec {G : Gr} (hG : okG G) {b : Bool} : ∀ (f c : Nat), c < qM G → lim G b ≤ pos G b c + f → chain G b c (lnF G b f c - 1) ∧ jn G b (c + (lnF G b f c - 1) * sp G b) = false ∧ 1 ≤ lnF G b f c
  | 0, c, hc, hf => by
    have := pos_lt hG (b := b) hc
    omega
  | f + 1, c, hc, hf => by
    simp only [lnF]
    by_cases h : jn G b c = true
    · rw [if_pos h]
      have hn := pos_next hG (jn_qP h)
      obtain ⟨i1, i2, i3⟩ := lnF_spec hG f (c + sp G b) hn.2.1 (by rw [hn.2.2]; omega)
      generalize lnF G b f (c + sp G b) = n at i1 i2 i3 ⊢
      obtain ⟨n, rfl⟩ : ∃ k, n = k + 1 := ⟨n - 1, by omega⟩
      rw [Nat.add_sub_cancel] at i1 i2
      have e : 1 + (n + 1) - 1 = n + 1 := by omega
      rw [e]
      refine ⟨fun j hj => ?_, ?_, by omega⟩
      · match j, hj with
        | 0, _ =>
          rw [Nat.zero_mul, Nat.add_zero]
          exact h
        | j + 1, hj =>
          rw [step_eq']
          exact i1 j (by omega)
      · rw [step_eq']
        exact i2
    · rw [if_neg h]
      refine ⟨fun j hj => absurd hj (by omega), ?_, Nat.le_refl _⟩
      rw [Nat.sub_self, Nat.zero_mul, Nat.add_zero]
      exact Bool.eq_false_iff.mpr h
theorem ln_spec {G : Gr} (hG : okG G) {b : Bool} {c : Nat} (hc : c < qM G) : chain G b c (ln G b c - 1) ∧ jn G b (c + (ln G b c - 1) * sp G b) = false ∧ 1 ≤ ln G b c ∧ ln G b c ≤ 6 := by
  have h6 := (lim6 hG b).2
  obtain ⟨h1, h2, h3⟩ := lnF_spec hG (b := b) 6 c hc (by omega)
  refine ⟨h1, h2, h3, ?_⟩
  have h4 := chain_pos hG hc _ h1
  have h5 := pos_lt hG (b := b) h4.1
  rw [h4.2] at h5
  show lnF G b 6 c ≤ 6
  omega
/-- the cells of a run -/
theorem run_cell {G : Gr} (hG : okG G) {b : Bool} {c i : Nat} (hc : c < qM G) (hi : i < ln G b c) : c + i * sp G b < qM G := (chain_pos hG hc i (fun j hj => (ln_spec hG hc).1 j (by omega))).1
/-- in a run, a cell is joined with the next but the last -/
theorem run_jn {G : Gr} (hG : okG G) {b : Bool} {c i : Nat} (hc : c < qM G) (hi : i < ln G b c) : jn G b (c + i * sp G b) = decide (i + 1 < ln G b c) := by
  obtain ⟨h1, h2, h3, -⟩ := ln_spec hG (b := b) hc
  by_cases q : i + 1 < ln G b c
  · rw [decide_eq_true q]
    exact h1 i (by omega)
  · rw [decide_eq_false q]
    have : i = ln G b c - 1 := by omega
    rw [this]
    exact h2
theorem pj_ex {G : Gr} {b : Bool} {x : Nat} (h : pj G b x = true) : ∃ y, x = y + sp G b ∧ jn G b y = true := by
  unfold pj at h
  rw [Bool.and_eq_true, decide_eq_true_eq] at h
  exact ⟨x - sp G b, by omega, h.2⟩
theorem pj_of {G : Gr} {b : Bool} {y : Nat} (h : jn G b y = true) : pj G b (y + sp G b) = true := by
  unfold pj
  rw [Nat.add_sub_cancel, h, Bool.and_true]
  exact decide_eq_true (by omega)
theorem rsF_chain {G : Gr} {b : Bool} {c : Nat} (hp : pj G b c = false) : ∀ (i f : Nat), i ≤ f → chain G b c i → rsF G b f (c + i * sp G b) = c
  | 0, 0, _, _ => by
    rw [Nat.zero_mul, Nat.add_zero]
    rfl
  | 0, f + 1, _, _ => by
    rw [Nat.zero_mul, Nat.add_zero c]
    simp only [rsF]
    rw [if_neg (by rw [hp]; decide)]
  | i + 1, 0, h, _ => absurd h (by omega)
  | i + 1, f + 1, h, hc => by
    rw [step_eq]
    simp only [rsF]
    rw [if_pos (pj_of (hc i (by omega))), Nat.add_sub_cancel]
    exact rsF_chain hp i f (by omega) (fun j hj => hc j (by omega))
theorem rsF_spec {G : Gr} (hG : okG G) {b : Bool} : ∀ (f x : Nat), pos G b x ≤ f → ∃ i, x = rsF G b f x + i * sp G b ∧ chain G b (rsF G b f x) i ∧ pj G b (rsF G b f x) = false
  | 0, x, hf => by
    refine ⟨0, by rw [Nat.zero_mul, Nat.add_zero]; rfl, fun j hj => absurd hj (by omega), ?_⟩
    show pj G b x = false
    cases h : pj G b x with
    | false => rfl
    | true =>
      obtain ⟨y, rfl, hy⟩ := pj_ex h
      have := (pos_next hG (jn_qP hy)).2.2
      omega
  | f + 1, x, hf => by
    cases h : pj G b x with
    | false =>
      have e : rsF G b (f + 1) x = x := by
        simp only [rsF]
        rw [if_neg (by rw [h]; decide)]
      rw [e]
      exact ⟨0, by rw [Nat.zero_mul, Nat.add_zero], fun j hj => absurd hj (by omega), h⟩
    | true =>
      obtain ⟨y, rfl, hy⟩ := pj_ex h
      have hn := pos_next hG (jn_qP hy)
      have e : rsF G b (f + 1) (y + sp G b) = rsF G b f y := by
        simp only [rsF]
        rw [if_pos h, Nat.add_sub_cancel]
      obtain ⟨i, h1, h2, h3⟩ := rsF_spec hG (b := b) f y (by omega)
      rw [e]
      generalize rsF G b f y = r at h1 h2 h3 ⊢
      refine ⟨i + 1, by rw [step_eq]; omega, fun j hj => ?_, h3⟩
      rcases Nat.lt_or_ge j i with q | q
      · exact h2 j q
      · have q2 : j = i := by omega
        rw [q2, ← h1]
        exact hy
theorem inE_lt {G : Gr} (hG : okG G) {b : Bool} {x : Nat} (h : inE G b x = true) : x < qM G := by
  unfold inE at h
  rcases Bool.or_eq_true_iff.mp h with q | q
  · exact (jn_qP q).1
  · obtain ⟨y, rfl, hy⟩ := pj_ex q
    exact (pos_next hG (jn_qP hy)).2.1
theorem rs_spec {G : Gr} (hG : okG G) {b : Bool} {x : Nat} (hx : x < qM G) : ∃ i, x = rs G b x + i * sp G b ∧ chain G b (rs G b x) i ∧ pj G b (rs G b x) = false := by
  have h1 := pos_lt hG (b := b) hx
  have h2 := (lim6 hG b).2
  exact rsF_spec hG 6 x (by omega)
theorem rs_le {G : Gr} (hG : okG G) {b : Bool} {x : Nat} (hx : x < qM G) : rs G b x ≤ x := by
  obtain ⟨i, h, -⟩ := rs_spec hG (b := b) hx
  omega
theorem st_iff {G : Gr} {b : Bool} {c : Nat} : st G b c = true ↔ jn G b c = true ∧ pj G b c = false := by
  unfold st
  cases jn G b c <;> cases pj G b c <;> decide
theorem st_lt {G : Gr} {b : Bool} {c : Nat} (h : st G b c = true) : c < qM G := (jn_qP (st_iff.mp h).1).1
theorem rs_st {G : Gr} (hG : okG G) {b : Bool} {x : Nat} (h : inE G b x = true) : st G b (rs G b x) = true := by
  obtain ⟨i, h1, h2, h3⟩ := rs_spec hG (b := b) (inE_lt hG h)
  refine st_iff.mpr ⟨?_, h3⟩
  match i, h1, h2 with
  | 0, h1, _ =>
    rw [Nat.zero_mul, Nat.add_zero] at h1
    rw [← h1] at h3 ⊢
    unfold inE at h
    rw [h3, Bool.or_false] at h
    exact h
  | i + 1, _, h2 =>
    have := h2 0 (by omega)
    rw [Nat.zero_mul, Nat.add_zero] at this
    exact this
theorem run_iff {G : Gr} (hG : okG G) {b : Bool} {c x : Nat} (hs : st G b c = true) : (inE G b x = true ∧ rs G b x = c) ↔ ∃ i, i < ln G b c ∧ x = c + i * sp G b := by
  have hc := st_lt hs
  obtain ⟨hj, hp⟩ := st_iff.mp hs
  obtain ⟨l1, l2, l3, l4⟩ := ln_spec hG (b := b) hc
  constructor
  · rintro ⟨hx, rfl⟩
    obtain ⟨i, h1, h2, h3⟩ := rs_spec hG (b := b) (inE_lt hG hx)
    refine ⟨i, ?_, h1⟩
    rcases Nat.lt_or_ge i (ln G b (rs G b x)) with q | q
    · exact q
    · have := h2 (ln G b (rs G b x) - 1) (by omega)
      rw [l2] at this
      cases this
  · rintro ⟨i, hi, rfl⟩
    have hch : chain G b c i := fun j hj => l1 j (by omega)
    refine ⟨?_, rsF_chain hp i 6 (by omega) hch⟩
    unfold inE
    match i, hch with
    | 0, _ =>
      rw [Nat.zero_mul, Nat.add_zero, hj]
      rfl
    | i + 1, hch =>
      rw [step_eq, pj_of (hch i (by omega)), Bool.or_true]
theorem run_ne {G : Gr} (hG : okG G) {b : Bool} {c i j : Nat} (h : i < j) : c + i * sp G b ≠ c + j * sp G b := by
  have h1 := (sp_pos hG b).1
  have h2 := Nat.mul_lt_mul_of_pos_right h (show 0 < sp G b by omega)
  omega
/-- the number of the entry that a cell is in, when the cells before c have been seen -/
def acrTo (G : Gr) (b : Bool) (c x : Nat) : Int := if inE G b x = true ∧ rs G b x < c then ((eIx G b (rs G b x) : Nat) : Int) else -9
theorem acrTo_zero {G : Gr} {b : Bool} {x : Nat} : acrTo G b 0 x = -9 := if_neg (fun q => absurd q.2 (Nat.not_lt_zero _))
theorem acrTo_no {G : Gr} (hG : okG G) {b : Bool} {c x : Nat} (hs : st G b c = false) : acrTo G b (c + 1) x = acrTo G b c x := by
  unfold acrTo
  by_cases h : inE G b x = true ∧ rs G b x < c
  · rw [if_pos h, if_pos ⟨h.1, by omega⟩]
  · rw [if_neg h, if_neg (fun q => h ⟨q.1, ?_⟩)]
    rcases Nat.lt_or_ge (rs G b x) c with r | r
    · exact r
    · have e : rs G b x = c := by omega
      have := rs_st hG q.1
      rw [e, hs] at this
      cases this
theorem acrTo_run {G : Gr} (hG : okG G) {b : Bool} {c i : Nat} (hs : st G b c = true) (hi : i < ln G b c) : acrTo G b (c + 1) (c + i * sp G b) = ((eIx G b c : Nat) : Int) := by
  obtain ⟨h1, h2⟩ := (run_iff hG hs).mpr ⟨i, hi, rfl⟩
  unfold acrTo
  rw [if_pos ⟨h1, by omega⟩, h2]
theorem acrTo_else {G : Gr} (hG : okG G) {b : Bool} {c x : Nat} (hs : st G b c = true) (hx : ¬ ∃ i, i < ln G b c ∧ x = c + i * sp G b) : acrTo G b (c + 1) x = acrTo G b c x := by
  have hn : ¬ (inE G b x = true ∧ rs G b x = c) := fun q => hx ((run_iff hG hs).mp q)
  unfold acrTo
  by_cases h : inE G b x = true ∧ rs G b x < c
  · rw [if_pos h, if_pos ⟨h.1, by omega⟩]
  · rw [if_neg h, if_neg (fun q => h ⟨q.1, ?_⟩)]
    rcases Nat.lt_or_ge (rs G b x) c with r | r
    · exact r
    · exact absurd ⟨q.1, by omega⟩ hn
theorem acrTo_all {G : Gr} (hG : okG G) {b : Bool} {x : Nat} (hx : x < qM G) : acrTo G b (qM G) x = acr G b x := by
  unfold acrTo acr
  have := rs_le hG (b := b) hx
  by_cases h : inE G b x = true
  · rw [if_pos ⟨h, by omega⟩, if_pos h]
  · rw [if_neg (fun q => h q.1), if_neg h]
/-! ===== no more than 36 entries ===== -/
def nb (G : Gr) (b : Bool) : Nat → Nat
  | 0 => 0
  | c + 1 => nb G b c + tn (st G b c)
theorem cnt_nb {G : Gr} : ∀ c, cnt G c = nb G false c + nb G true c
  | 0 => rfl
  | c + 1 => by
    simp only [cnt, nb]
    rw [cnt_nb c]
    omega
theorem nb_mono {G : Gr} {b : Bool} (c : Nat) : ∀ k, nb G b c ≤ nb G b (c + k)
  | 0 => Nat.le_refl _
  | k + 1 => by
    have := nb_mono (G := G) (b := b) c k
    show nb G b c ≤ nb G b (c + k) + tn _
    omega
theorem st_two {G : Gr} {b : Bool} {c : Nat} : tn (st G b c) + tn (st G b (c + sp G b)) ≤ 1 := by
  cases h : st G b c with
  | false =>
    cases st G b (c + sp G b) <;> decide
  | true =>
    cases h2 : st G b (c + sp G b) with
    | false => decide
    | true =>
      have := pj_of (st_iff.mp h).1
      rw [(st_iff.mp h2).2] at this
      cases this
theorem nb_win {G : Gr} {b : Bool} (c : Nat) : ∀ k, nb G b (c + k) + nb G b (c + sp G b + k) ≤ nb G b c + nb G b (c + sp G b) + k
  | 0 => Nat.le_refl _
  | k + 1 => by
    have ih := nb_win (G := G) (b := b) c k
    have h2 := st_two (G := G) (b := b) (c := c + k)
    have e : c + k + sp G b = c + sp G b + k := by omega
    rw [e] at h2
    show nb G b (c + k) + tn (st G b (c + k)) + (nb G b (c + sp G b + k) + tn (st G b (c + sp G b + k))) ≤ _
    omega
theorem nb_it {G : Gr} {b : Bool} : ∀ j, nb G b (2 * sp G b * j) ≤ sp G b * j
  | 0 => by
    rw [Nat.mul_zero]
    exact Nat.zero_le _
  | j + 1 => by
    have ih := nb_it (G := G) (b := b) j
    have h := nb_win (G := G) (b := b) (2 * sp G b * j) (sp G b)
    have e : 2 * sp G b * (j + 1) = 2 * sp G b * j + sp G b + sp G b := by
      rw [Nat.mul_add, Nat.mul_one]
      omega
    have e2 : sp G b * (j + 1) = sp G b * j + sp G b := by rw [Nat.mul_add, Nat.mul_one]
    rw [e, e2]
    omega
theorem nb_18 {G : Gr} (hG : okG G) (b : Bool) : nb G b (qM G) ≤ 18 := by
  have hm := hG.m.2
  obtain ⟨⟨-, hr⟩, ⟨-, hc⟩, -⟩ := hG
  cases b
  · have h := nb_it (G := G) (b := false) 18
    have e : 2 * sp G false * 18 = qM G + (36 - qM G) := by
      show 2 * 1 * 18 = _
      omega
    rw [e] at h
    have h2 := nb_mono (G := G) (b := false) (qM G) (36 - qM G)
    have h3 : sp G false * 18 = 18 := rfl
    omega
  · have h := nb_it (G := G) (b := true) 3
    have hle : qM G ≤ 2 * sp G true * 3 := by
      show qR G * qC G ≤ 2 * qC G * 3
      have := Nat.mul_le_mul_right (qC G) hr
      omega
    have e : 2 * sp G true * 3 = qM G + (2 * sp G true * 3 - qM G) := by omega
    rw [e] at h
    have h2 := nb_mono (G := G) (b := true) (qM G) (2 * sp G true * 3 - qM G)
    have h3 : sp G true * 3 ≤ 18 := by
      show qC G * 3 ≤ 18
      omega
    omega
theorem cnt_36 {G : Gr} (hG : okG G) : cnt G (qM G) ≤ 36 := by
  have h1 := nb_18 hG false
  have h2 := nb_18 hG true
  have := cnt_nb (G := G) (qM G)
  omega
theorem eIx_lt {G : Gr} (hG : okG G) {b : Bool} {c : Nat} (hs : st G b c = true) : eIx G b c < cnt G (qM G) ∧ eIx G b c < 36 := by
  have h := entsTo_get hs _ (st_lt hs)
  have h2 := (List.getElem?_eq_some_iff.mp h).1
  rw [entsTo_len] at h2
  have := cnt_36 hG
  omega
