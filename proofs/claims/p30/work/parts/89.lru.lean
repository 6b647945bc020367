/-! ===== the law's rules ===== -/
theorem ent_all {G : Gr} (P : Nat → Bool → Bool) : alF (fun e => P (eC G e) (eB G e)) (nE G) 0 = alF (fun c => (!st G false c || P c false) && (!st G true c || P c true)) (qM G) 0 := by
  apply Bool.eq_iff_iff.mpr
  rw [al_iff, al_iff]
  constructor
  · intro h c _ hc
    have key : ∀ b, (!st G b c || P c b) = true := fun b => by
      cases hs : st G b c with
      | false => rfl
      | true =>
        have h1 := entsTo_get hs (qM G) (by omega)
        have h2 := (List.getElem?_eq_some_iff.mp h1).1
        rw [entsTo_len] at h2
        have h3 := h (eIx G b c) (Nat.zero_le _) (by show eIx G b c < 0 + cnt G (qM G); omega)
        have h4 : eP G (eIx G b c) = (c, b) := by
          unfold eP ents
          rw [h1]
        have h5 : eC G (eIx G b c) = c := by unfold eC; rw [h4]
        have h6 : eB G (eIx G b c) = b := by unfold eB; rw [h4]
        rw [h5, h6] at h3
        rw [h3]
        rfl
    rw [key false, key true]
    rfl
  · intro h e _ he
    have h1 := ents_get (G := G) (e := e) (by omega)
    obtain ⟨h2, h3, -⟩ := entsTo_spec _ _ _ _ h1
    have h4 := h (eC G e) (Nat.zero_le _) (by omega)
    rw [Bool.and_eq_true] at h4
    cases hb : eB G e with
    | false =>
      rw [hb] at h3
      have h5 := h4.1
      rw [h3] at h5
      exact h5
    | true =>
      rw [hb] at h3
      have h5 := h4.2
      rw [h3] at h5
      exact h5
theorem al_cong {p q : Nat → Bool} {r i : Nat} (h : ∀ j, i ≤ j → j < i + r → p j = q j) : alF p r i = alF q r i := by
  apply Bool.eq_iff_iff.mpr
  rw [al_iff, al_iff]
  constructor
  · intro k j h1 h2
    rw [← h j h1 h2]
    exact k j h1 h2
  · intro k j h1 h2
    rw [h j h1 h2]
    exact k j h1 h2
def pIn (G : Gr) (c : Nat) : Bool := decide (0 < enC G c)
theorem in_all {G : Gr} : alF (pIn G) (qM G) 0 = decide (ciG G 0 = 0) := by
  have key : ∀ r i, (alF (pIn G) r i = true ↔ ctF (fun x => decide (enC G x = 0)) r i = 0) := by
    intro r
    induction r with
    | zero => intro i; exact ⟨fun _ => rfl, fun _ => rfl⟩
    | succ r ih =>
      intro i
      by_cases h : enC G i = 0
      · have h1 : (fun x => decide (enC G x = 0)) i = true := decide_eq_true h
        have h2 : pIn G i = false := decide_eq_false (by omega)
        have h3 := ct_hit (p := fun x => decide (enC G x = 0)) (a := 0) (r := r) h1
        have h4 := al_hit (r := r) h2
        constructor
        · intro q
          rw [q] at h4
          cases h4
        · intro q
          omega
      · have h1 : (fun x => decide (enC G x = 0)) i = false := decide_eq_false h
        have h2 : pIn G i = true := decide_eq_true (by omega)
        have h3 := ct_skip (p := fun x => decide (enC G x = 0)) (a := 0) (r := r) h1
        rw [← al_skip (r := r) h2, ih (i + 1)]
        omega
  by_cases h : ciG G 0 = 0
  · rw [decide_eq_true h]
    exact (key _ _).mpr h
  · rw [decide_eq_false h]
    exact Bool.eq_false_iff.mpr (fun q => h ((key _ _).mp q))
/-- the cells of a run that are in one entry alone -/
def pU2 (G : Gr) (c : Nat) (b : Bool) (i : Nat) : Bool := decide (enC G (c + i * sp G b) = 1)
def u2 (G : Gr) (c : Nat) (b : Bool) : Nat := ctF (pU2 G c b) (ln G b c) 0
def pW2 (G : Gr) (c : Nat) (b : Bool) : Bool := decide (2 * u2 G c b ≤ ln G b c)
def pP2 (G : Gr) (c : Nat) (b : Bool) (i : Nat) : Bool := decide (i = 0) || decide (2 < enC G (c + i * sp G b) + enC G (c + (i - 1) * sp G b))
def pP3 (G : Gr) (c : Nat) (b : Bool) : Bool := alF (pP2 G c b) (ln G b c) 0
def pD (G : Gr) (P : Nat → Bool → Bool) (c : Nat) : Bool := (!st G false c || P c false) && (!st G true c || P c true)
theorem we_law {G : Gr} : alF (pD G (pW2 G)) (qM G) 0 = weG G := (ent_all (pW2 G)).symm
theorem inE_run {G : Gr} (hG : okG G) {b : Bool} {c i : Nat} (hs : st G b c = true) (hi : i < ln G b c) : 1 ≤ enC G (c + i * sp G b) := by
  have h := ((run_iff hG hs).mpr ⟨i, hi, rfl⟩).1
  unfold enC
  cases b <;> rw [h]
  · show 1 ≤ 1 + tn _
    omega
  · show 1 ≤ tn _ + 1
    omega
theorem pr_law {G : Gr} (hG : okG G) : alF (pD G (pP3 G)) (qM G) 0 = prG G := by
  refine (ent_all (pP3 G)).symm.trans (al_cong fun e _ he => ?_)
  have h1 := ents_get (G := G) (e := e) (by omega)
  obtain ⟨h2, h3, -⟩ := entsTo_spec _ _ _ _ h1
  have hln := (ln_spec hG (b := eB G e) h2).2.2.1
  show alF (pP2 G (eC G e) (eB G e)) (eN G e) 0 = alF (pPr G e) (eN G e - 1) 1
  have hn : eN G e = (eN G e - 1) + 1 := by
    show ln G (eB G e) (eC G e) = ln G (eB G e) (eC G e) - 1 + 1
    omega
  generalize hm : eN G e - 1 = m at hn
  have hm2 : ln G (eB G e) (eC G e) = m + 1 := hn
  rw [hn, ← al_skip (p := pP2 G (eC G e) (eB G e)) (r := m) (i := 0) rfl]
  refine al_cong fun j hj1 hj2 => ?_
  have a1 := inE_run hG h3 (i := j) (by omega)
  have a2 := inE_run hG h3 (i := j - 1) (by omega)
  have b1 := enC_2 (G := G) (x := eC G e + j * sp G (eB G e))
  have b2 := enC_2 (G := G) (x := eC G e + (j - 1) * sp G (eB G e))
  unfold pP2 pPr cel
  rw [decide_eq_false (show ¬ j = 0 by omega), Bool.false_or]
  by_cases q1 : enC G (eC G e + (j - 1) * sp G (eB G e)) = 1
  · by_cases q2 : enC G (eC G e + j * sp G (eB G e)) = 1
    · rw [q1, q2]
      rfl
    · rw [decide_eq_true (by omega), decide_eq_false q2, Bool.and_false]
      rfl
  · rw [decide_eq_true (by omega), decide_eq_false q1]
    rfl
/-! two ways to spread -/
def nbr (G : Gr) (c : Nat) (S : Nat → Bool) : Bool := (pj G false c && S (c - 1)) || (jn G false c && S (c + 1)) || (pj G true c && S (c - qC G)) || (jn G true c && S (c + qC G))
def lsp (G : Gr) (c : Nat) (S : Nat → Bool) : Nat → Bool := va_up S c (S c || nbr G c S)
def lsw (G : Gr) : Nat → Nat → (Nat → Bool) → (Nat → Bool)
  | 0, _, S => S
  | r + 1, i, S => lsw G r (i + 1) (lsp G i S)
def itF (f : (Nat → Bool) → (Nat → Bool)) : Nat → (Nat → Bool) → (Nat → Bool)
  | 0, S => S
  | n + 1, S => itF f n (f S)
/-- closed under the joints -/
def jCl (G : Gr) (S : Nat → Bool) : Prop := ∀ c b, jn G b c = true → S c = S (c + sp G b)
abbrev spF (G : Gr) (f : (Nat → Bool) → (Nat → Bool)) : Prop := (∀ S x, S x = true → f S x = true) ∧ (∀ S R : Nat → Bool, jCl G R → (∀ x, S x = true → R x = true) → ∀ x, f S x = true → R x = true) ∧ (∀ S, f S = S → jCl G S) ∧ ∀ S x, qM G ≤ x → S x = false → f S x = false
theorem itF_inc {G : Gr} {f : (Nat → Bool) → (Nat → Bool)} (hf : spF G f) : ∀ n S x, S x = true → itF f n S x = true
  | 0, _, _, h => h
  | n + 1, S, x, h => itF_inc hf n (f S) x (hf.1 S x h)
theorem itF_snd {G : Gr} {f : (Nat → Bool) → (Nat → Bool)} (hf : spF G f) {R : Nat → Bool} (hR : jCl G R) : ∀ n S, (∀ x, S x = true → R x = true) → ∀ x, itF f n S x = true → R x = true
  | 0, _, h => h
  | n + 1, S, h => itF_snd hf hR n (f S) (hf.2.1 S R hR h)
theorem itF_fix {f : (Nat → Bool) → (Nat → Bool)} {S : Nat → Bool} (h : f S = S) : ∀ n, itF f n S = S
  | 0 => rfl
  | n + 1 => by
    show itF f n (f S) = S
    rw [h]
    exact itF_fix h n
theorem ct_lt {p q : Nat → Bool} (hpq : ∀ x, p x = true → q x = true) : ∀ r i, ctF p r i ≤ ctF q r i ∧ (ctF p r i = ctF q r i → ∀ j, i ≤ j → j < i + r → p j = q j)
  | 0, i => ⟨Nat.le_refl _, fun _ j h1 h2 => absurd h2 (by omega)⟩
  | r + 1, i => by
    obtain ⟨h1, h2⟩ := ct_lt hpq r (i + 1)
    cases hp : p i with
    | true =>
      have hq := hpq i hp
      have e1 := ct_hit (a := 0) (r := r) hp
      have e2 := ct_hit (a := 0) (r := r) hq
      refine ⟨by omega, fun e j hj1 hj2 => ?_⟩
      by_cases k : j = i
      · rw [k, hp, hq]
      · exact h2 (by omega) j (by omega) (by omega)
    | false =>
      have e1 := ct_skip (a := 0) (r := r) hp
      cases hq : q i with
      | true =>
        have e2 := ct_hit (a := 0) (r := r) hq
        exact ⟨by omega, fun e => absurd e (by omega)⟩
      | false =>
        have e2 := ct_skip (a := 0) (r := r) hq
        refine ⟨by omega, fun e j hj1 hj2 => ?_⟩
        by_cases k : j = i
        · rw [k, hp, hq]
        · exact h2 (by omega) j (by omega) (by omega)
theorem itF_cl {G : Gr} {f : (Nat → Bool) → (Nat → Bool)} (hf : spF G f) : ∀ n S, (∀ x, qM G ≤ x → S x = false) → qM G < n + ctF S (qM G) 0 → jCl G (itF f n S)
  | 0, S, hz, hn => absurd hn (by
    have := ct_le (p := S) (qM G) 0
    omega)
  | n + 1, S, hz, hn => by
    obtain ⟨h1, h2⟩ := ct_lt (p := S) (q := f S) (hf.1 S) (qM G) 0
    have hz2 : ∀ x, qM G ≤ x → f S x = false := fun x hx => hf.2.2.2 S x hx (hz x hx)
    by_cases e : ctF S (qM G) 0 = ctF (f S) (qM G) 0
    · have hfix : f S = S := by
        funext x
        rcases Nat.lt_or_ge x (qM G) with q | q
        · exact (h2 e x (Nat.zero_le _) (by omega)).symm
        · rw [hz x q, hz2 x q]
      rw [itF_fix hfix (n + 1)]
      exact hf.2.2.1 S hfix
    · exact itF_cl hf n (f S) hz2 (by omega)
theorem two_sp {G : Gr} {f g : (Nat → Bool) → (Nat → Bool)} (hf : spF G f) (hg : spF G g) {S : Nat → Bool} (hz : ∀ x, qM G ≤ x → S x = false) (h1 : 1 ≤ ctF S (qM G) 0) : itF f (qM G) S = itF g (qM G) S := by
  have hF := itF_cl hf (qM G) S hz (by omega)
  have hH := itF_cl hg (qM G) S hz (by omega)
  funext x
  apply Bool.eq_iff_iff.mpr
  exact ⟨itF_snd hf hH (qM G) S (itF_inc hg (qM G) S) x, itF_snd hg hF (qM G) S (itF_inc hf (qM G) S) x⟩
theorem nbr_cl {G : Gr} (hG : okG G) {c : Nat} {R : Nat → Bool} (hR : jCl G R) (h : nbr G c R = true) : R c = true := by
  unfold nbr at h
  simp only [Bool.or_eq_true, Bool.and_eq_true] at h
  rcases h with ((⟨h1, h2⟩ | ⟨h1, h2⟩) | ⟨h1, h2⟩) | ⟨h1, h2⟩
  · obtain ⟨y, rfl, hy⟩ := pj_ex h1
    rw [← hR y false hy]
    exact h2
  · rw [hR c false h1]
    exact h2
  · obtain ⟨y, rfl, hy⟩ := pj_ex h1
    rw [← hR y true hy]
    have e : y + sp G true - qC G = y := Nat.add_sub_cancel _ _
    rw [e] at h2
    exact h2
  · rw [hR c true h1]
    exact h2
theorem nbr_mono {G : Gr} {c : Nat} {S R : Nat → Bool} (h : ∀ x, S x = true → R x = true) (hn : nbr G c S = true) : nbr G c R = true := by
  unfold nbr at hn ⊢
  simp only [Bool.or_eq_true, Bool.and_eq_true] at hn ⊢
  rcases hn with ((⟨h1, h2⟩ | ⟨h1, h2⟩) | ⟨h1, h2⟩) | ⟨h1, h2⟩
  · exact Or.inl (Or.inl (Or.inl ⟨h1, h _ h2⟩))
  · exact Or.inl (Or.inl (Or.inr ⟨h1, h _ h2⟩))
  · exact Or.inl (Or.inr ⟨h1, h _ h2⟩)
  · exact Or.inr ⟨h1, h _ h2⟩
theorem lsp_inc {G : Gr} {c : Nat} {S : Nat → Bool} {x : Nat} (h : S x = true) : lsp G c S x = true := by
  unfold lsp
  by_cases q : x = c
  · subst q
    rw [va_up_self, h]
    rfl
  · rw [va_up_ne _ _ q]
    exact h
theorem lsw_inc {G : Gr} : ∀ r i S x, S x = true → lsw G r i S x = true
  | 0, _, _, _, h => h
  | r + 1, i, S, x, h => lsw_inc r (i + 1) _ x (lsp_inc h)
theorem lsp_snd {G : Gr} (hG : okG G) {c : Nat} {S R : Nat → Bool} (hR : jCl G R) (h : ∀ x, S x = true → R x = true) {x : Nat} (hx : lsp G c S x = true) : R x = true := by
  unfold lsp at hx
  by_cases q : x = c
  · subst q
    rw [va_up_self, Bool.or_eq_true] at hx
    rcases hx with k | k
    · exact h _ k
    · exact nbr_cl hG hR (nbr_mono h k)
  · rw [va_up_ne _ _ q] at hx
    exact h _ hx
theorem lsw_snd {G : Gr} (hG : okG G) {R : Nat → Bool} (hR : jCl G R) : ∀ r i S, (∀ x, S x = true → R x = true) → ∀ x, lsw G r i S x = true → R x = true
  | 0, _, _, h => h
  | r + 1, i, S, h => lsw_snd hG hR r (i + 1) _ (fun _ hx => lsp_snd hG hR h hx)
theorem lsw_prg {G : Gr} : ∀ r i S, lsw G r i S = S → ∀ j, i ≤ j → j < i + r → nbr G j S = true → S j = true
  | 0, i, S, _, j, h1, h2, _ => absurd h2 (by omega)
  | r + 1, i, S, h, j, h1, h2, hn => by
    have h : lsw G r (i + 1) (lsp G i S) = S := h
    have e : lsp G i S = S := by
      funext x
      cases hs : S x with
      | true => exact lsp_inc hs
      | false =>
        cases hl : lsp G i S x with
        | false => rfl
        | true =>
          have := lsw_inc (G := G) r (i + 1) _ x hl
          rw [h, hs] at this
          cases this
    by_cases q : j = i
    · subst q
      rw [← e]
      unfold lsp
      rw [va_up_self, hn, Bool.or_true]
    · rw [e] at h
      exact lsw_prg r (i + 1) S h j (by omega) (by omega) hn
theorem lsw_cel {G : Gr} : ∀ r i S x, i + r ≤ x → S x = false → lsw G r i S x = false
  | 0, _, _, _, _, h => h
  | r + 1, i, S, x, hx, h => by
    refine lsw_cel r (i + 1) _ x (by omega) ?_
    unfold lsp
    rw [va_up_ne _ _ (by omega)]
    exact h
theorem lsw_sp {G : Gr} (hG : okG G) : spF G (lsw G (qM G) 0) := by
  refine ⟨lsw_inc _ _, fun S R hR h => lsw_snd hG hR _ _ S h, fun S h c b hj => ?_, fun S x hx => lsw_cel _ _ S x (by omega)⟩
  have hn := pos_next hG (jn_qP hj)
  have p1 := lsw_prg _ _ S h c (Nat.zero_le _) (by omega)
  have p2 := lsw_prg _ _ S h (c + sp G b) (Nat.zero_le _) (by omega)
  have hp := pj_of hj
  apply Bool.eq_iff_iff.mpr
  constructor
  · intro hs
    refine p2 ?_
    unfold nbr
    cases b
    · rw [hp, show c + sp G false - 1 = c from Nat.add_sub_cancel c 1, hs]
      rfl
    · rw [hp, show c + sp G true - qC G = c from Nat.add_sub_cancel c (qC G), hs]
      simp
  · intro hs
    refine p1 ?_
    unfold nbr
    cases b
    · have hs : S (c + 1) = true := hs
      rw [hj, hs]
      simp
    · have hs : S (c + qC G) = true := hs
      rw [hj, hs]
      simp
theorem spr_inc {G : Gr} {b : Bool} {c : Nat} {S : Nat → Bool} {x : Nat} (h : S x = true) : spr G b c S x = true := by
  unfold spr
  split
  · by_cases q : x = c + sp G b
    · rw [q, va_up_self]
    · rw [va_up_ne _ _ q]
      by_cases q2 : x = c
      · rw [q2, va_up_self]
      · rw [va_up_ne _ _ q2]
        exact h
  · exact h
theorem spr_snd {G : Gr} {b : Bool} {c : Nat} {S R : Nat → Bool} (hR : jCl G R) (h : ∀ x, S x = true → R x = true) {x : Nat} (hx : spr G b c S x = true) : R x = true := by
  unfold spr at hx
  split at hx
  · rename_i hc
    rw [Bool.and_eq_true, Bool.or_eq_true] at hc
    have e := hR c b hc.1
    have hr : R c = true := by
      rcases hc.2 with k | k
      · exact h _ k
      · rw [e]
        exact h _ k
    by_cases q : x = c + sp G b
    · rw [q, ← e]
      exact hr
    · rw [va_up_ne _ _ q] at hx
      by_cases q2 : x = c
      · rw [q2]
        exact hr
      · rw [va_up_ne _ _ q2] at hx
        exact h _ hx
  · exact h _ hx
theorem swp_inc {G : Gr} : ∀ r i S x, S x = true → swp G r i S x = true
  | 0, _, _, _, h => h
  | r + 1, i, S, x, h => swp_inc r (i + 1) _ x (spr_inc (spr_inc h))
theorem swp_snd {G : Gr} {R : Nat → Bool} (hR : jCl G R) : ∀ r i S, (∀ x, S x = true → R x = true) → ∀ x, swp G r i S x = true → R x = true
  | 0, _, _, h => h
  | r + 1, i, S, h => swp_snd hR r (i + 1) _ (fun _ hx => spr_snd hR (fun _ hx => spr_snd hR h hx) hx)
theorem spr_prg {G : Gr} {b : Bool} {c : Nat} {S : Nat → Bool} (h : spr G b c S = S) (hj : jn G b c = true) : S c = S (c + sp G b) := by
  unfold spr at h
  by_cases hs : (S c || S (c + sp G b)) = true
  · rw [hj, hs, if_pos (by decide)] at h
    have h1 := congrFun h (c + sp G b)
    have h2 := congrFun h c
    rw [va_up_self] at h1
    rw [← h1]
    by_cases q : c = c + sp G b
    · rw [← q] at h1
      exact h1.symm
    · rw [va_up_ne _ _ q, va_up_self] at h2
      exact h2.symm
  · rw [Bool.or_eq_true] at hs
    cases q1 : S c <;> cases q2 : S (c + sp G b) <;> first | rfl | exact absurd (Or.inl q1) hs | exact absurd (Or.inr q2) hs
theorem swp_prg {G : Gr} : ∀ r i S, swp G r i S = S → ∀ j, i ≤ j → j < i + r → ∀ b, spr G b j S = S
  | 0, i, S, _, j, h1, h2, _ => absurd h2 (by omega)
  | r + 1, i, S, h, j, h1, h2, b => by
    have h : swp G r (i + 1) (spr G true i (spr G false i S)) = S := h
    have e1 : spr G false i S = S := by
      funext x
      cases hs : S x with
      | true => exact spr_inc hs
      | false =>
        cases hl : spr G false i S x with
        | false => rfl
        | true =>
          have := swp_inc (G := G) r (i + 1) _ x (spr_inc (G := G) (b := true) (c := i) hl)
          rw [h, hs] at this
          cases this
    rw [e1] at h
    have e2 : spr G true i S = S := by
      funext x
      cases hs : S x with
      | true => exact spr_inc hs
      | false =>
        cases hl : spr G true i S x with
        | false => rfl
        | true =>
          have := swp_inc (G := G) r (i + 1) _ x hl
          rw [h, hs] at this
          cases this
    rw [e2] at h
    by_cases q : j = i
    · subst q
      cases b
      · exact e1
      · exact e2
    · exact swp_prg r (i + 1) S h j (by omega) (by omega) b
theorem swp_sp {G : Gr} (hG : okG G) : spF G (swp G (qM G) 0) := by
  refine ⟨swp_inc _ _, fun S R hR h => swp_snd hR _ _ S h, fun S h c b hj => ?_, fun S x hx hs => ?_⟩
  · exact spr_prg (swp_prg _ _ S h c (Nat.zero_le _) (by have := (pos_next hG (jn_qP hj)).1; omega) b) hj
  · have key : ∀ r i S, S x = false → swp G r i S x = false := by
      have k1 : ∀ b c S, S x = false → spr G b c S x = false := by
        intro b c S hs
        unfold spr
        split
        · rename_i hc
          rw [Bool.and_eq_true] at hc
          have := pos_next hG (jn_qP hc.1)
          rw [va_up_ne _ _ (by omega), va_up_ne _ _ (by omega)]
          exact hs
        · exact hs
      intro r
      induction r with
      | zero => intro i S hs; exact hs
      | succ r ih => intro i S hs; exact ih (i + 1) _ (k1 _ _ _ (k1 _ _ _ hs))
    exact key _ _ _ hs
theorem itr_itF {G : Gr} : ∀ n S, itr G n S = itF (swp G (qM G) 0) n S
  | 0, _ => rfl
  | n + 1, S => itr_itF n _
theorem co_law {G : Gr} (hG : okG G) : alF (itF (lsw G (qM G) 0) (qM G) coS) (qM G) 0 = coG G := by
  have hm := hG.m
  unfold coG
  rw [itr_itF, two_sp (lsw_sp hG) (swp_sp hG) (S := coS) (fun x hx => decide_eq_false (by omega)) ?_]
  obtain ⟨m, hm2⟩ : ∃ m, qM G = m + 1 := ⟨qM G - 1, by omega⟩
  rw [hm2]
  have := ct_hit (p := coS) (r := m) (i := 0) (a := 0) rfl
  omega
theorem turn_ix {G : Gr} (hG : okG G) {c : Nat} (hc : c < qM G) : ((qR G : Int) - 1 - ((c / qC G : Nat) : Int)) * (qC G : Int) + ((qC G : Int) - 1 - ((c % qC G : Nat) : Int)) = (qM G : Int) - 1 - (c : Int) := by
  have h1 := qM_int G
  have h2 : (qC G : Int) * ((c / qC G : Nat) : Int) + ((c % qC G : Nat) : Int) = (c : Int) := by
    have := Nat.div_add_mod c (qC G)
    have h3 : ((qC G * (c / qC G) + c % qC G : Nat) : Int) = (c : Int) := congrArg Nat.cast this
    exact h3
  rw [Int.sub_mul, Int.sub_mul, Int.one_mul, h1, Int.mul_comm ((c / qC G : Nat) : Int)]
  omega
set_option maxRecDepth 20000 in
theorem k0A_true {d N : Nat} {h : AH} {G : Gr} {Q : AQ} (hZ : isW h G) (hG : sm4 G) (hN : 127 ≤ N) {c : Nat} {zn zr zc : Int} (hzr : zr = (qR G : Int) - 1 - ((c / qC G : Nat) : Int)) (hzc : zc = (qC G : Int) - 1 - ((c % qC G : Nat) : Int)) (hc : c < qM G) (k : Run mi_L_keeps (T (d + 3)) Q 306 [some (vI 0), some (vR 122), some (vI zn), none, some (vI (bI (true && pTr G c))), some (vI (c : Int)), some (vI zr), some (vI zc), none, none, none, none, none] [] h N 1 16) : Run mi_L_keeps (T (d + 3)) Q 259 [some (vI 0), some (vR 122), some (vI zn), none, some (vI (bI true)), some (vI (c : Int)), some (vI zr), some (vI zc), none, none, none, none, none] [] h N 1 16 := by
  obtain ⟨w, m0, hw0, hw1, wL, wE, wS⟩ := id hZ
  have r0 : w (0 : Int).toNat = (qR G : Int) := hw0
  have r1 : w (1 : Int).toNat = (qC G : Int) := hw1
  have hm16 := sm4_m hG
  obtain ⟨hO, hR4, hC4⟩ := id hG
  obtain ⟨hm4, hm36⟩ := hO.m
  obtain ⟨⟨hr2, hr6⟩, ⟨hc2, hc6⟩, gL, gB, gW, gWn, gWl, gN, gNl⟩ := id hO
  have htx := turn_ix hO hc
  rw [← hzr, ← hzc] at htx
  have htz : (zr - 1) * (qC G : Int) = zr * (qC G : Int) - (qC G : Int) := by rw [Int.sub_mul, Int.one_mul]
  have hdl : c / qC G < qR G := (Nat.div_lt_iff_lt_mul (show 0 < qC G by omega)).mpr hc
  have hml := Nat.mod_lt c (show 0 < qC G by omega)
  have hd0 : (0 : Int) ≤ ((c / qC G : Nat) : Int) := Int.natCast_nonneg _
  have hd1 : (0 : Int) ≤ ((c % qC G : Nat) : Int) := Int.natCast_nonneg _
  refine R_iload_n rfl rfl ?_
  refine R_ifne rfl ⟨by decide, by decide⟩ (fun c0 => absurd c0 (by decide)) (fun _ => ?_)
  refine R_iload rfl rfl ?_
  refine R_ifle rfl ⟨by omega, by omega⟩ (fun c265 => ?_) (fun c265 => ?_)
  · have hp9 : qPb G c false = false := by
      rw [qPb_f hO hc, decide_eq_true (by omega)]
      rfl
    have hv : pTr G c = true := by
      unfold pTr
      rw [hp9]
      rfl
    rw [hv, Bool.and_true] at k
    exact k
  · have hp9 : qPb G c false = true := by
      rw [qPb_f hO hc, decide_eq_false (by omega)]
      rfl
    have hlt := pl_r hO hp9
    have e1 : w ((18 : Int) + (c : Int)).toNat = bI (qE G c) := by
      rw [show ((18 : Int) + (c : Int)).toNat = 18 + c by omega]
      exact wE c hc
    have e2 : w ((18 : Int) + zr * (qC G : Int) + zc - 1).toNat = bI (qE G (qM G - 2 - c)) := by
      rw [show ((18 : Int) + zr * (qC G : Int) + zc - 1).toNat = 18 + (qM G - 2 - c) by omega]
      exact wE _ (by omega)
    have e3 := bI01 (qE G c)
    have e4 := bI01 (qE G (qM G - 2 - c))
    rw [← e1] at e3
    rw [← e2] at e4
    refine R_iload rfl rfl ?_
    refine R_ifeq rfl ⟨by decide, by decide⟩ (fun c0 => absurd c0 (by decide)) (fun _ => ?_)
    refine R_aload_n rfl rfl ?_
    refine R_bipush rfl ?_
    refine R_iload rfl rfl ?_
    refine R_iadd rfl ?_
    refine R_iaload rfl (Or.inl (by omega)) m0 ⟨by omega, by omega, by omega⟩ ?_
    refine R_aload_n rfl rfl ?_
    refine R_bipush rfl ?_
    refine R_iload rfl rfl ?_
    refine R_aload_n rfl rfl ?_
    refine R_iconst rfl ?_
    refine R_iaload rfl (Or.inl (by omega)) m0 ⟨by omega, by omega, by omega⟩ ?_
    rw [r1]
    refine R_imul rfl ?_
    refine R_iadd rfl ?_
    refine R_iload rfl rfl ?_
    refine R_iadd rfl ?_
    refine R_iconst rfl ?_
    refine R_isub rfl ?_
    refine R_iaload rfl (Or.inl (by omega)) m0 ⟨by omega, by omega, by omega⟩ ?_
    refine R_icmpne rfl ⟨by omega, by omega⟩ ⟨by omega, by omega⟩ (fun c296 => ?_) (fun c296 => ?_)
    · have hv : pTr G c = false := by
        unfold pTr
        rw [hp9, decide_eq_false (fun q => c296 (e1.trans ((congrArg bI q).trans e2.symm)))]
        rfl
      rw [hv] at k
      refine R_iconst rfl ?_
      refine R_istore (lv' := [_, _, _, _, _, _, _, _, _, _, _, _, _]) rfl rfl ?_
      exact k
    · have hv : pTr G c = true := by
        unfold pTr
        rw [hp9, decide_eq_true (bI_inj (e1.symm.trans (Eq.trans (by omega) e2)))]
        rfl
      rw [hv] at k
      refine R_iconst rfl ?_
      refine R_goto rfl ?_
      refine R_istore (lv' := [_, _, _, _, _, _, _, _, _, _, _, _, _]) rfl rfl ?_
      exact k
set_option maxRecDepth 20000 in
theorem k0A_false {d N : Nat} {h : AH} {G : Gr} {Q : AQ} (hZ : isW h G) (hG : sm4 G) (hN : 127 ≤ N) {c : Nat} {zn zr zc : Int} (hzr : zr = (qR G : Int) - 1 - ((c / qC G : Nat) : Int)) (hzc : zc = (qC G : Int) - 1 - ((c % qC G : Nat) : Int)) (hc : c < qM G) (k : Run mi_L_keeps (T (d + 3)) Q 306 [some (vI 0), some (vR 122), some (vI zn), none, some (vI (bI (false && pTr G c))), some (vI (c : Int)), some (vI zr), some (vI zc), none, none, none, none, none] [] h N 1 16) : Run mi_L_keeps (T (d + 3)) Q 259 [some (vI 0), some (vR 122), some (vI zn), none, some (vI (bI false)), some (vI (c : Int)), some (vI zr), some (vI zc), none, none, none, none, none] [] h N 1 16 := by
  obtain ⟨w, m0, hw0, hw1, wL, wE, wS⟩ := id hZ
  have r0 : w (0 : Int).toNat = (qR G : Int) := hw0
  have r1 : w (1 : Int).toNat = (qC G : Int) := hw1
  have hm16 := sm4_m hG
  obtain ⟨hO, hR4, hC4⟩ := id hG
  obtain ⟨hm4, hm36⟩ := hO.m
  obtain ⟨⟨hr2, hr6⟩, ⟨hc2, hc6⟩, gL, gB, gW, gWn, gWl, gN, gNl⟩ := id hO
  have htx := turn_ix hO hc
  rw [← hzr, ← hzc] at htx
  have htz : (zr - 1) * (qC G : Int) = zr * (qC G : Int) - (qC G : Int) := by rw [Int.sub_mul, Int.one_mul]
  have hdl : c / qC G < qR G := (Nat.div_lt_iff_lt_mul (show 0 < qC G by omega)).mpr hc
  have hml := Nat.mod_lt c (show 0 < qC G by omega)
  have hd0 : (0 : Int) ≤ ((c / qC G : Nat) : Int) := Int.natCast_nonneg _
  have hd1 : (0 : Int) ≤ ((c % qC G : Nat) : Int) := Int.natCast_nonneg _
  refine R_iload_n rfl rfl ?_
  refine R_ifne rfl ⟨by decide, by decide⟩ (fun c0 => absurd c0 (by decide)) (fun _ => ?_)
  refine R_iload rfl rfl ?_
  refine R_ifle rfl ⟨by omega, by omega⟩ (fun c265 => ?_) (fun c265 => ?_)
  · have hp9 : qPb G c false = false := by
      rw [qPb_f hO hc, decide_eq_true (by omega)]
      rfl
    have hv : pTr G c = true := by
      unfold pTr
      rw [hp9]
      rfl
    rw [hv, Bool.and_true] at k
    exact k
  · have hp9 : qPb G c false = true := by
      rw [qPb_f hO hc, decide_eq_false (by omega)]
      rfl
    have hlt := pl_r hO hp9
    refine R_iload rfl rfl ?_
    refine R_ifeq rfl ⟨by decide, by decide⟩ (fun _ => ?_) (fun c0 => absurd c0 (by decide))
    refine R_iconst rfl ?_
    refine R_istore (lv' := [_, _, _, _, _, _, _, _, _, _, _, _, _]) rfl rfl ?_
    exact k
set_option maxRecDepth 20000 in
theorem k0A {d N : Nat} {h : AH} {G : Gr} {Q : AQ} (hZ : isW h G) (hG : sm4 G) (hN : 127 ≤ N) {c : Nat} {zn zr zc : Int} {b : Bool} (hzr : zr = (qR G : Int) - 1 - ((c / qC G : Nat) : Int)) (hzc : zc = (qC G : Int) - 1 - ((c % qC G : Nat) : Int)) (hc : c < qM G) (k : Run mi_L_keeps (T (d + 3)) Q 306 [some (vI 0), some (vR 122), some (vI zn), none, some (vI (bI (b && pTr G c))), some (vI (c : Int)), some (vI zr), some (vI zc), none, none, none, none, none] [] h N 1 16) : Run mi_L_keeps (T (d + 3)) Q 259 [some (vI 0), some (vR 122), some (vI zn), none, some (vI (bI b)), some (vI (c : Int)), some (vI zr), some (vI zc), none, none, none, none, none] [] h N 1 16 := by
  cases b
  · exact k0A_false hZ hG hN hzr hzc hc k
  · exact k0A_true hZ hG hN hzr hzc hc k
set_option maxRecDepth 20000 in
theorem k0B_true {d N : Nat} {h : AH} {G : Gr} {Q : AQ} (hZ : isW h G) (hG : sm4 G) (hN : 127 ≤ N) {c : Nat} {zn zr zc : Int} (hzr : zr = (qR G : Int) - 1 - ((c / qC G : Nat) : Int)) (hzc : zc = (qC G : Int) - 1 - ((c % qC G : Nat) : Int)) (hc : c < qM G) (k : Run mi_L_keeps (T (d + 3)) Q 353 [some (vI 0), some (vR 122), some (vI zn), none, some (vI (bI (true && pTd G c))), some (vI (c : Int)), some (vI zr), some (vI zc), none, none, none, none, none] [] h N 1 16) : Run mi_L_keeps (T (d + 3)) Q 306 [some (vI 0), some (vR 122), some (vI zn), none, some (vI (bI true)), some (vI (c : Int)), some (vI zr), some (vI zc), none, none, none, none, none] [] h N 1 16 := by
  obtain ⟨w, m0, hw0, hw1, wL, wE, wS⟩ := id hZ
  have r0 : w (0 : Int).toNat = (qR G : Int) := hw0
  have r1 : w (1 : Int).toNat = (qC G : Int) := hw1
  have hm16 := sm4_m hG
  obtain ⟨hO, hR4, hC4⟩ := id hG
  obtain ⟨hm4, hm36⟩ := hO.m
  obtain ⟨⟨hr2, hr6⟩, ⟨hc2, hc6⟩, gL, gB, gW, gWn, gWl, gN, gNl⟩ := id hO
  have htx := turn_ix hO hc
  rw [← hzr, ← hzc] at htx
  have htz : (zr - 1) * (qC G : Int) = zr * (qC G : Int) - (qC G : Int) := by rw [Int.sub_mul, Int.one_mul]
  have hdl : c / qC G < qR G := (Nat.div_lt_iff_lt_mul (show 0 < qC G by omega)).mpr hc
  have hml := Nat.mod_lt c (show 0 < qC G by omega)
  have hd0 : (0 : Int) ≤ ((c / qC G : Nat) : Int) := Int.natCast_nonneg _
  have hd1 : (0 : Int) ≤ ((c % qC G : Nat) : Int) := Int.natCast_nonneg _
  refine R_iload_n rfl rfl ?_
  refine R_ifne rfl ⟨by decide, by decide⟩ (fun c0 => absurd c0 (by decide)) (fun _ => ?_)
  refine R_iload rfl rfl ?_
  refine R_ifle rfl ⟨by omega, by omega⟩ (fun c312 => ?_) (fun c312 => ?_)
  · have hp9 : qPb G c true = false := by
      rw [qPb_t hO hc, decide_eq_true (by omega)]
      rfl
    have hv : pTd G c = true := by
      unfold pTd
      rw [hp9]
      rfl
    rw [hv, Bool.and_true] at k
    exact k
  · have hp9 : qPb G c true = true := by
      rw [qPb_t hO hc, decide_eq_false (by omega)]
      rfl
    have hlt := pl_d hp9
    have e1 : w ((34 : Int) + (c : Int)).toNat = bI (qS G c) := by
      rw [show ((34 : Int) + (c : Int)).toNat = 34 + c by omega]
      exact wS c hc
    have e2 : w ((34 : Int) + (zr - 1) * (qC G : Int) + zc).toNat = bI (qS G (qM G - 1 - qC G - c)) := by
      rw [show ((34 : Int) + (zr - 1) * (qC G : Int) + zc).toNat = 34 + (qM G - 1 - qC G - c) by omega]
      exact wS _ (by omega)
    have e3 := bI01 (qS G c)
    have e4 := bI01 (qS G (qM G - 1 - qC G - c))
    rw [← e1] at e3
    rw [← e2] at e4
    refine R_iload rfl rfl ?_
    refine R_ifeq rfl ⟨by decide, by decide⟩ (fun c0 => absurd c0 (by decide)) (fun _ => ?_)
    refine R_aload_n rfl rfl ?_
    refine R_bipush rfl ?_
    refine R_iload rfl rfl ?_
    refine R_iadd rfl ?_
    refine R_iaload rfl (Or.inl (by omega)) m0 ⟨by omega, by omega, by omega⟩ ?_
    refine R_aload_n rfl rfl ?_
    refine R_bipush rfl ?_
    refine R_iload rfl rfl ?_
    refine R_iconst rfl ?_
    refine R_isub rfl ?_
    refine R_aload_n rfl rfl ?_
    refine R_iconst rfl ?_
    refine R_iaload rfl (Or.inl (by omega)) m0 ⟨by omega, by omega, by omega⟩ ?_
    rw [r1]
    refine R_imul rfl ?_
    refine R_iadd rfl ?_
    refine R_iload rfl rfl ?_
    refine R_iadd rfl ?_
    refine R_iaload rfl (Or.inl (by omega)) m0 ⟨by omega, by omega, by omega⟩ ?_
    refine R_icmpne rfl ⟨by omega, by omega⟩ ⟨by omega, by omega⟩ (fun c343 => ?_) (fun c343 => ?_)
    · have hv : pTd G c = false := by
        unfold pTd
        rw [hp9, decide_eq_false (fun q => c343 (e1.trans ((congrArg bI q).trans e2.symm)))]
        rfl
      rw [hv] at k
      refine R_iconst rfl ?_
      refine R_istore (lv' := [_, _, _, _, _, _, _, _, _, _, _, _, _]) rfl rfl ?_
      exact k
    · have hv : pTd G c = true := by
        unfold pTd
        rw [hp9, decide_eq_true (bI_inj (e1.symm.trans (Eq.trans (by omega) e2)))]
        rfl
      rw [hv] at k
      refine R_iconst rfl ?_
      refine R_goto rfl ?_
      refine R_istore (lv' := [_, _, _, _, _, _, _, _, _, _, _, _, _]) rfl rfl ?_
      exact k
set_option maxRecDepth 20000 in
theorem k0B_false {d N : Nat} {h : AH} {G : Gr} {Q : AQ} (hZ : isW h G) (hG : sm4 G) (hN : 127 ≤ N) {c : Nat} {zn zr zc : Int} (hzr : zr = (qR G : Int) - 1 - ((c / qC G : Nat) : Int)) (hzc : zc = (qC G : Int) - 1 - ((c % qC G : Nat) : Int)) (hc : c < qM G) (k : Run mi_L_keeps (T (d + 3)) Q 353 [some (vI 0), some (vR 122), some (vI zn), none, some (vI (bI (false && pTd G c))), some (vI (c : Int)), some (vI zr), some (vI zc), none, none, none, none, none] [] h N 1 16) : Run mi_L_keeps (T (d + 3)) Q 306 [some (vI 0), some (vR 122), some (vI zn), none, some (vI (bI false)), some (vI (c : Int)), some (vI zr), some (vI zc), none, none, none, none, none] [] h N 1 16 := by
  obtain ⟨w, m0, hw0, hw1, wL, wE, wS⟩ := id hZ
  have r0 : w (0 : Int).toNat = (qR G : Int) := hw0
  have r1 : w (1 : Int).toNat = (qC G : Int) := hw1
  have hm16 := sm4_m hG
  obtain ⟨hO, hR4, hC4⟩ := id hG
  obtain ⟨hm4, hm36⟩ := hO.m
  obtain ⟨⟨hr2, hr6⟩, ⟨hc2, hc6⟩, gL, gB, gW, gWn, gWl, gN, gNl⟩ := id hO
  have htx := turn_ix hO hc
  rw [← hzr, ← hzc] at htx
  have htz : (zr - 1) * (qC G : Int) = zr * (qC G : Int) - (qC G : Int) := by rw [Int.sub_mul, Int.one_mul]
  have hdl : c / qC G < qR G := (Nat.div_lt_iff_lt_mul (show 0 < qC G by omega)).mpr hc
  have hml := Nat.mod_lt c (show 0 < qC G by omega)
  have hd0 : (0 : Int) ≤ ((c / qC G : Nat) : Int) := Int.natCast_nonneg _
  have hd1 : (0 : Int) ≤ ((c % qC G : Nat) : Int) := Int.natCast_nonneg _
  refine R_iload_n rfl rfl ?_
  refine R_ifne rfl ⟨by decide, by decide⟩ (fun c0 => absurd c0 (by decide)) (fun _ => ?_)
  refine R_iload rfl rfl ?_
  refine R_ifle rfl ⟨by omega, by omega⟩ (fun c312 => ?_) (fun c312 => ?_)
  · have hp9 : qPb G c true = false := by
      rw [qPb_t hO hc, decide_eq_true (by omega)]
      rfl
    have hv : pTd G c = true := by
      unfold pTd
      rw [hp9]
      rfl
    rw [hv, Bool.and_true] at k
    exact k
  · have hp9 : qPb G c true = true := by
      rw [qPb_t hO hc, decide_eq_false (by omega)]
      rfl
    have hlt := pl_d hp9
    refine R_iload rfl rfl ?_
    refine R_ifeq rfl ⟨by decide, by decide⟩ (fun _ => ?_) (fun c0 => absurd c0 (by decide))
    refine R_iconst rfl ?_
    refine R_istore (lv' := [_, _, _, _, _, _, _, _, _, _, _, _, _]) rfl rfl ?_
    exact k
set_option maxRecDepth 20000 in
theorem k0B {d N : Nat} {h : AH} {G : Gr} {Q : AQ} (hZ : isW h G) (hG : sm4 G) (hN : 127 ≤ N) {c : Nat} {zn zr zc : Int} {b : Bool} (hzr : zr = (qR G : Int) - 1 - ((c / qC G : Nat) : Int)) (hzc : zc = (qC G : Int) - 1 - ((c % qC G : Nat) : Int)) (hc : c < qM G) (k : Run mi_L_keeps (T (d + 3)) Q 353 [some (vI 0), some (vR 122), some (vI zn), none, some (vI (bI (b && pTd G c))), some (vI (c : Int)), some (vI zr), some (vI zc), none, none, none, none, none] [] h N 1 16) : Run mi_L_keeps (T (d + 3)) Q 306 [some (vI 0), some (vR 122), some (vI zn), none, some (vI (bI b)), some (vI (c : Int)), some (vI zr), some (vI zc), none, none, none, none, none] [] h N 1 16 := by
  cases b
  · exact k0B_false hZ hG hN hzr hzc hc k
  · exact k0B_true hZ hG hN hzr hzc hc k
set_option maxRecDepth 20000 in
theorem k0_loop {d N : Nat} {h : AH} {G : Gr} {Q : AQ} (hZ : isW h G) (hG : sm4 G) (hN : 127 ≤ N) {zn : Int} (hzn : zn = qM G) : ∀ (r i : Nat) (b : Bool) (zi : Int), i + r = qM G → zi = i → (∀ z : Int, z = bI (b && alF (pTm G) r i) → Q (.inl (some (vI z))) h N) → Run mi_L_keeps (T (d + 3)) Q 225 [some (vI 0), some (vR 122), some (vI zn), none, some (vI (bI b)), some (vI zi), none, none, none, none, none, none, none] [] h N 1 16 := by
  obtain ⟨w, m0, hw0, hw1, wL, wE, wS⟩ := id hZ
  have r0 : w (0 : Int).toNat = (qR G : Int) := hw0
  have r1 : w (1 : Int).toNat = (qC G : Int) := hw1
  have hm16 := sm4_m hG
  obtain ⟨hO, hR4, hC4⟩ := id hG
  obtain ⟨hm4, hm36⟩ := hO.m
  obtain ⟨⟨hr2, hr6⟩, ⟨hc2, hc6⟩, gL, gB, gW, gWn, gWl, gN, gNl⟩ := id hO
  intro r
  induction r using Nat.strongRecOn with
  | ind r ih =>
  intro i b zi hr hzi hQ
  subst hzi
  refine R_iload rfl rfl ?_
  refine R_iload_n rfl rfl ?_
  refine R_icmpge rfl ⟨by omega, by omega⟩ ⟨by omega, by omega⟩ (fun c228 => ?_) (fun c228 => ?_)
  · have hr0 : r = 0 := by omega
    subst hr0
    refine R_iload rfl rfl ?_
    exact R_ireturn rfl (fun _ => bI01 _) (Nat.le_of_ble_eq_true rfl) (Nat.le_of_ble_eq_true rfl) (hQ _ (by simp only [alF, Bool.and_true]))
  · obtain ⟨r, rfl⟩ : ∃ r1, r = r1 + 1 := ⟨r - 1, by omega⟩
    refine R_aload_n rfl rfl ?_
    refine R_iconst rfl ?_
    refine R_iaload rfl (Or.inl (by omega)) m0 ⟨by omega, by omega, by omega⟩ ?_
    rw [r0]
    refine R_iconst rfl ?_
    refine R_isub rfl ?_
    refine R_iload rfl rfl ?_
    refine R_aload_n rfl rfl ?_
    refine R_iconst rfl ?_
    refine R_iaload rfl (Or.inl (by omega)) m0 ⟨by omega, by omega, by omega⟩ ?_
    rw [r1]
    refine R_idiv rfl ⟨by omega, by omega, by omega, by omega⟩ ?_
    rw [show (i : Int) / (qC G : Int) = ((i / qC G : Nat) : Int) from rfl]
    refine R_isub rfl ?_
    refine R_istore (lv' := [_, _, _, _, _, _, _, _, _, _, _, _, _]) rfl rfl ?_
    refine R_aload_n rfl rfl ?_
    refine R_iconst rfl ?_
    refine R_iaload rfl (Or.inl (by omega)) m0 ⟨by omega, by omega, by omega⟩ ?_
    rw [r1]
    refine R_iconst rfl ?_
    refine R_isub rfl ?_
    refine R_iload rfl rfl ?_
    refine R_aload_n rfl rfl ?_
    refine R_iconst rfl ?_
    refine R_iaload rfl (Or.inl (by omega)) m0 ⟨by omega, by omega, by omega⟩ ?_
    rw [r1]
    refine R_irem rfl ⟨by omega, by omega, by omega, by omega⟩ ?_
    rw [show (i : Int) % (qC G : Int) = ((i % qC G : Nat) : Int) from rfl]
    refine R_isub rfl ?_
    refine R_istore (lv' := [_, _, _, _, _, _, _, _, _, _, _, _, _]) rfl rfl ?_
    refine k0A hZ hG hN (c := i) rfl rfl (by omega) (k0B hZ hG hN (c := i) rfl rfl (by omega) ?_)
    refine R_iload_n rfl rfl ?_
    refine R_iconst rfl ?_
    refine R_icmpne rfl ⟨by decide, by decide⟩ ⟨by decide, by decide⟩ (fun _ => ?_) (fun c0 => absurd c0 (by decide))
    refine R_iload_n rfl rfl ?_
    refine R_iconst rfl ?_
    refine R_icmpne rfl ⟨by decide, by decide⟩ ⟨by decide, by decide⟩ (fun _ => ?_) (fun c0 => absurd c0 (by decide))
    refine R_iconst rfl ?_
    refine R_istore (lv' := [_, _, _, _, _, _, _, _, _, _, _, _, _]) rfl rfl ?_
    refine R_iload rfl rfl ?_
    refine R_iconst rfl ?_
    refine R_icmpge rfl ⟨by decide, by decide⟩ ⟨by decide, by decide⟩ (fun c0 => absurd c0 (by decide)) (fun _ => ?_)
    refine R_iload_n rfl rfl ?_
    refine R_iconst rfl ?_
    refine R_icmpeq rfl ⟨by decide, by decide⟩ ⟨by decide, by decide⟩ (fun c0 => absurd c0 (by decide)) (fun _ => ?_)
    refine R_iload_n rfl rfl ?_
    refine R_iconst rfl ?_
    refine R_icmpne rfl ⟨by decide, by decide⟩ ⟨by decide, by decide⟩ (fun _ => ?_) (fun c0 => absurd c0 (by decide))
    refine R_iinc (lv' := [_, _, _, _, _, _, _, _, _, _, _, _, _]) rfl rfl rfl ?_
    refine R_goto rfl ?_
    refine Run.lv (lv' := [_, _, _, none, _, _, none, none, none, none, none, none, none]) ?_ ⟨Or.inr rfl, Or.inr rfl, Or.inr rfl, Or.inl rfl, Or.inr rfl, Or.inr rfl, Or.inl rfl, Or.inl rfl, Or.inl rfl, Or.inl rfl, Or.inl rfl, Or.inl rfl, Or.inl rfl, trivial⟩
    exact ih r (by omega) (i + 1) _ _ (by omega) (by omega) (fun z hz => hQ z (by rw [hz]; simp only [alF, pTm, Bool.and_assoc]))
set_option maxRecDepth 20000 in
theorem k1A_true {d N : Nat} {h : AH} {G : Gr} {Q : AQ} (hZ : isW h G) (hG : sm4 G) (hN : 127 ≤ N) {c : Nat} (hc : c < qM G) {zn l6 l7 : Int} (k : Run mi_L_keeps (T (d + 3)) Q 379 [some (vI 1), some (vR 122), some (vI zn), none, some (vI (bI (true && pIn G c))), some (vI (c : Int)), some (vI l6), some (vI l7), none, none, none, none, none] [] h N 1 16) : Run mi_L_keeps (T (d + 3)) Q 358 [some (vI 1), some (vR 122), some (vI zn), none, some (vI (bI true)), some (vI (c : Int)), some (vI l6), some (vI l7), none, none, none, none, none] [] h N 1 16 := by
  obtain ⟨w, m0, hw0, hw1, wL, wE, wS⟩ := id hZ
  have r0 : w (0 : Int).toNat = (qR G : Int) := hw0
  have r1 : w (1 : Int).toNat = (qC G : Int) := hw1
  have hm16 := sm4_m hG
  obtain ⟨hO, hR4, hC4⟩ := id hG
  obtain ⟨hm4, hm36⟩ := hO.m
  obtain ⟨⟨hr2, hr6⟩, ⟨hc2, hc6⟩, gL, gB, gW, gWn, gWl, gN, gNl⟩ := id hO
  refine R_iload rfl rfl ?_
  refine R_ifeq rfl ⟨by decide, by decide⟩ (fun c0 => absurd c0 (by decide)) (fun _ => ?_)
  refine R_iload rfl rfl ?_
  refine R_aload_n rfl rfl ?_
  refine R_scall rfl rfl ⟨Nat.le_of_ble_eq_true rfl, Nat.le_of_ble_eq_true rfl, Nat.le_of_ble_eq_true rfl, Nat.le_of_ble_eq_true rfl⟩ (in_T (c := c) hZ hG (by omega) rfl hc (fun z366 hz366 => aRes_i (rest := []) ?_))
  have hen := enC_2 (G := G) (x := c)
  refine R_ifle rfl ⟨by omega, by omega⟩ (fun c369 => ?_) (fun c369 => ?_)
  · have hv : pIn G c = false := decide_eq_false (by omega)
    rw [hv] at k
    refine R_iconst rfl ?_
    refine R_istore (lv' := [_, _, _, _, _, _, _, _, _, _, _, _, _]) rfl rfl ?_
    exact k
  · have hv : pIn G c = true := decide_eq_true (by omega)
    rw [hv] at k
    refine R_iconst rfl ?_
    refine R_goto rfl ?_
    refine R_istore (lv' := [_, _, _, _, _, _, _, _, _, _, _, _, _]) rfl rfl ?_
    exact k
set_option maxRecDepth 20000 in
theorem k1A_false {d N : Nat} {h : AH} {G : Gr} {Q : AQ} (hZ : isW h G) (hG : sm4 G) (hN : 127 ≤ N) {c : Nat} (hc : c < qM G) {zn l6 l7 : Int} (k : Run mi_L_keeps (T (d + 3)) Q 379 [some (vI 1), some (vR 122), some (vI zn), none, some (vI (bI (false && pIn G c))), some (vI (c : Int)), some (vI l6), some (vI l7), none, none, none, none, none] [] h N 1 16) : Run mi_L_keeps (T (d + 3)) Q 358 [some (vI 1), some (vR 122), some (vI zn), none, some (vI (bI false)), some (vI (c : Int)), some (vI l6), some (vI l7), none, none, none, none, none] [] h N 1 16 := by
  obtain ⟨w, m0, hw0, hw1, wL, wE, wS⟩ := id hZ
  have r0 : w (0 : Int).toNat = (qR G : Int) := hw0
  have r1 : w (1 : Int).toNat = (qC G : Int) := hw1
  have hm16 := sm4_m hG
  obtain ⟨hO, hR4, hC4⟩ := id hG
  obtain ⟨hm4, hm36⟩ := hO.m
  obtain ⟨⟨hr2, hr6⟩, ⟨hc2, hc6⟩, gL, gB, gW, gWn, gWl, gN, gNl⟩ := id hO
  refine R_iload rfl rfl ?_
  refine R_ifeq rfl ⟨by decide, by decide⟩ (fun _ => ?_) (fun c0 => absurd c0 (by decide))
  refine R_iconst rfl ?_
  refine R_istore (lv' := [_, _, _, _, _, _, _, _, _, _, _, _, _]) rfl rfl ?_
  exact k
set_option maxRecDepth 20000 in
theorem k1A {d N : Nat} {h : AH} {G : Gr} {Q : AQ} (hZ : isW h G) (hG : sm4 G) (hN : 127 ≤ N) {c : Nat} (hc : c < qM G) {zn l6 l7 : Int} {b : Bool} (k : Run mi_L_keeps (T (d + 3)) Q 379 [some (vI 1), some (vR 122), some (vI zn), none, some (vI (bI (b && pIn G c))), some (vI (c : Int)), some (vI l6), some (vI l7), none, none, none, none, none] [] h N 1 16) : Run mi_L_keeps (T (d + 3)) Q 358 [some (vI 1), some (vR 122), some (vI zn), none, some (vI (bI b)), some (vI (c : Int)), some (vI l6), some (vI l7), none, none, none, none, none] [] h N 1 16 := by
  cases b
  · exact k1A_false hZ hG hN hc k
  · exact k1A_true hZ hG hN hc k
set_option maxRecDepth 20000 in
theorem k1_loop {d N : Nat} {h : AH} {G : Gr} {Q : AQ} (hZ : isW h G) (hG : sm4 G) (hN : 127 ≤ N) {zn : Int} (hzn : zn = qM G) : ∀ (r i : Nat) (b : Bool) (zi : Int), i + r = qM G → zi = i → (∀ z : Int, z = bI (b && alF (pIn G) r i) → Q (.inl (some (vI z))) h N) → Run mi_L_keeps (T (d + 3)) Q 225 [some (vI 1), some (vR 122), some (vI zn), none, some (vI (bI b)), some (vI zi), none, none, none, none, none, none, none] [] h N 1 16 := by
  obtain ⟨w, m0, hw0, hw1, wL, wE, wS⟩ := id hZ
  have r0 : w (0 : Int).toNat = (qR G : Int) := hw0
  have r1 : w (1 : Int).toNat = (qC G : Int) := hw1
  have hm16 := sm4_m hG
  obtain ⟨hO, hR4, hC4⟩ := id hG
  obtain ⟨hm4, hm36⟩ := hO.m
  obtain ⟨⟨hr2, hr6⟩, ⟨hc2, hc6⟩, gL, gB, gW, gWn, gWl, gN, gNl⟩ := id hO
  intro r
  induction r using Nat.strongRecOn with
  | ind r ih =>
  intro i b zi hr hzi hQ
  subst hzi
  refine R_iload rfl rfl ?_
  refine R_iload_n rfl rfl ?_
  refine R_icmpge rfl ⟨by omega, by omega⟩ ⟨by omega, by omega⟩ (fun c228 => ?_) (fun c228 => ?_)
  · have hr0 : r = 0 := by omega
    subst hr0
    refine R_iload rfl rfl ?_
    exact R_ireturn rfl (fun _ => bI01 _) (Nat.le_of_ble_eq_true rfl) (Nat.le_of_ble_eq_true rfl) (hQ _ (by simp only [alF, Bool.and_true]))
  · obtain ⟨r, rfl⟩ : ∃ r1, r = r1 + 1 := ⟨r - 1, by omega⟩
    refine R_aload_n rfl rfl ?_
    refine R_iconst rfl ?_
    refine R_iaload rfl (Or.inl (by omega)) m0 ⟨by omega, by omega, by omega⟩ ?_
    rw [r0]
    refine R_iconst rfl ?_
    refine R_isub rfl ?_
    refine R_iload rfl rfl ?_
    refine R_aload_n rfl rfl ?_
    refine R_iconst rfl ?_
    refine R_iaload rfl (Or.inl (by omega)) m0 ⟨by omega, by omega, by omega⟩ ?_
    rw [r1]
    refine R_idiv rfl ⟨by omega, by omega, by omega, by omega⟩ ?_
    rw [show (i : Int) / (qC G : Int) = ((i / qC G : Nat) : Int) from rfl]
    refine R_isub rfl ?_
    refine R_istore (lv' := [_, _, _, _, _, _, _, _, _, _, _, _, _]) rfl rfl ?_
    refine R_aload_n rfl rfl ?_
    refine R_iconst rfl ?_
    refine R_iaload rfl (Or.inl (by omega)) m0 ⟨by omega, by omega, by omega⟩ ?_
    rw [r1]
    refine R_iconst rfl ?_
    refine R_isub rfl ?_
    refine R_iload rfl rfl ?_
    refine R_aload_n rfl rfl ?_
    refine R_iconst rfl ?_
    refine R_iaload rfl (Or.inl (by omega)) m0 ⟨by omega, by omega, by omega⟩ ?_
    rw [r1]
    refine R_irem rfl ⟨by omega, by omega, by omega, by omega⟩ ?_
    rw [show (i : Int) % (qC G : Int) = ((i % qC G : Nat) : Int) from rfl]
    refine R_isub rfl ?_
    refine R_istore (lv' := [_, _, _, _, _, _, _, _, _, _, _, _, _]) rfl rfl ?_
    refine R_iload_n rfl rfl ?_
    refine R_ifne rfl ⟨by decide, by decide⟩ (fun _ => ?_) (fun c0 => absurd c0 (by decide))
    refine R_iload_n rfl rfl ?_
    refine R_ifne rfl ⟨by decide, by decide⟩ (fun _ => ?_) (fun c0 => absurd c0 (by decide))
    refine R_iload_n rfl rfl ?_
    refine R_iconst rfl ?_
    refine R_icmpne rfl ⟨by decide, by decide⟩ ⟨by decide, by decide⟩ (fun c0 => absurd c0 (by decide)) (fun _ => ?_)
    refine k1A hZ hG hN (c := i) (by omega) ?_
    refine R_iload_n rfl rfl ?_
    refine R_iconst rfl ?_
    refine R_icmpne rfl ⟨by decide, by decide⟩ ⟨by decide, by decide⟩ (fun _ => ?_) (fun c0 => absurd c0 (by decide))
    refine R_iconst rfl ?_
    refine R_istore (lv' := [_, _, _, _, _, _, _, _, _, _, _, _, _]) rfl rfl ?_
    refine R_iload rfl rfl ?_
    refine R_iconst rfl ?_
    refine R_icmpge rfl ⟨by decide, by decide⟩ ⟨by decide, by decide⟩ (fun c0 => absurd c0 (by decide)) (fun _ => ?_)
    refine R_iload_n rfl rfl ?_
    refine R_iconst rfl ?_
    refine R_icmpeq rfl ⟨by decide, by decide⟩ ⟨by decide, by decide⟩ (fun c0 => absurd c0 (by decide)) (fun _ => ?_)
    refine R_iload_n rfl rfl ?_
    refine R_iconst rfl ?_
    refine R_icmpne rfl ⟨by decide, by decide⟩ ⟨by decide, by decide⟩ (fun _ => ?_) (fun c0 => absurd c0 (by decide))
    refine R_iinc (lv' := [_, _, _, _, _, _, _, _, _, _, _, _, _]) rfl rfl rfl ?_
    refine R_goto rfl ?_
    refine Run.lv (lv' := [_, _, _, none, _, _, none, none, none, none, none, none, none]) ?_ ⟨Or.inr rfl, Or.inr rfl, Or.inr rfl, Or.inl rfl, Or.inr rfl, Or.inr rfl, Or.inl rfl, Or.inl rfl, Or.inl rfl, Or.inl rfl, Or.inl rfl, Or.inl rfl, Or.inl rfl, trivial⟩
    exact ih r (by omega) (i + 1) _ _ (by omega) (by omega) (fun z hz => hQ z (by rw [hz]; simp only [alF, Bool.and_assoc]))
set_option maxRecDepth 20000 in
theorem k4A_true {d N : Nat} {h : AH} {G : Gr} {Q : AQ} (hZ : isW h G) (hG : sm4 G) (hN : 127 ≤ N) {a : Nat} {f : Nat → Int} {S : Nat → Bool} (hre : h a = eI 16 f) (haN : a < N ∧ 126 ≤ a) (hf : ∀ j, j < qM G → f j = bI (S j)) {c : Nat} (hc : c < qM G) {zn l6 l7 : Int} (k : Run mi_L_keeps (T (d + 3)) Q 404 [some (vI 4), some (vR 122), some (vI zn), some (vR a), some (vI (bI (true && S c))), some (vI (c : Int)), some (vI l6), some (vI l7), none, none, none, none, none] [] h N 1 16) : Run mi_L_keeps (T (d + 3)) Q 384 [some (vI 4), some (vR 122), some (vI zn), some (vR a), some (vI (bI true)), some (vI (c : Int)), some (vI l6), some (vI l7), none, none, none, none, none] [] h N 1 16 := by
  obtain ⟨w, m0, hw0, hw1, wL, wE, wS⟩ := id hZ
  have r0 : w (0 : Int).toNat = (qR G : Int) := hw0
  have r1 : w (1 : Int).toNat = (qC G : Int) := hw1
  have hm16 := sm4_m hG
  obtain ⟨hO, hR4, hC4⟩ := id hG
  obtain ⟨hm4, hm36⟩ := hO.m
  obtain ⟨⟨hr2, hr6⟩, ⟨hc2, hc6⟩, gL, gB, gW, gWn, gWl, gN, gNl⟩ := id hO
  obtain ⟨haN1, haN2⟩ := haN
  have hfc : f ((c : Int)).toNat = bI (S c) := hf c hc
  have hf01 := bI01 (S c)
  rw [← hfc] at hf01
  refine R_iload rfl rfl ?_
  refine R_ifeq rfl ⟨by decide, by decide⟩ (fun c0 => absurd c0 (by decide)) (fun _ => ?_)
  refine R_aload_n rfl rfl ?_
  refine R_iload rfl rfl ?_
  refine R_iaload rfl (Or.inl (by omega)) hre ⟨by omega, by omega, by omega⟩ ?_
  refine R_iconst rfl ?_
  refine R_icmpne rfl ⟨by omega, by omega⟩ ⟨by decide, by decide⟩ (fun c394 => ?_) (fun c394 => ?_)
  · have hv : S c = false := bI_f hfc (by omega)
    rw [hv] at k
    refine R_iconst rfl ?_
    refine R_istore (lv' := [_, _, _, _, _, _, _, _, _, _, _, _, _]) rfl rfl ?_
    exact k
  · have hv : S c = true := bI_t hfc (by omega)
    rw [hv] at k
    refine R_iconst rfl ?_
    refine R_goto rfl ?_
    refine R_istore (lv' := [_, _, _, _, _, _, _, _, _, _, _, _, _]) rfl rfl ?_
    exact k
set_option maxRecDepth 20000 in
theorem k4A_false {d N : Nat} {h : AH} {G : Gr} {Q : AQ} (hZ : isW h G) (hG : sm4 G) (hN : 127 ≤ N) {a : Nat} {f : Nat → Int} {S : Nat → Bool} (hre : h a = eI 16 f) (haN : a < N ∧ 126 ≤ a) (hf : ∀ j, j < qM G → f j = bI (S j)) {c : Nat} (hc : c < qM G) {zn l6 l7 : Int} (k : Run mi_L_keeps (T (d + 3)) Q 404 [some (vI 4), some (vR 122), some (vI zn), some (vR a), some (vI (bI (false && S c))), some (vI (c : Int)), some (vI l6), some (vI l7), none, none, none, none, none] [] h N 1 16) : Run mi_L_keeps (T (d + 3)) Q 384 [some (vI 4), some (vR 122), some (vI zn), some (vR a), some (vI (bI false)), some (vI (c : Int)), some (vI l6), some (vI l7), none, none, none, none, none] [] h N 1 16 := by
  obtain ⟨w, m0, hw0, hw1, wL, wE, wS⟩ := id hZ
  have r0 : w (0 : Int).toNat = (qR G : Int) := hw0
  have r1 : w (1 : Int).toNat = (qC G : Int) := hw1
  have hm16 := sm4_m hG
  obtain ⟨hO, hR4, hC4⟩ := id hG
  obtain ⟨hm4, hm36⟩ := hO.m
  obtain ⟨⟨hr2, hr6⟩, ⟨hc2, hc6⟩, gL, gB, gW, gWn, gWl, gN, gNl⟩ := id hO
  obtain ⟨haN1, haN2⟩ := haN
  have hfc : f ((c : Int)).toNat = bI (S c) := hf c hc
  have hf01 := bI01 (S c)
  rw [← hfc] at hf01
  refine R_iload rfl rfl ?_
  refine R_ifeq rfl ⟨by decide, by decide⟩ (fun _ => ?_) (fun c0 => absurd c0 (by decide))
  refine R_iconst rfl ?_
  refine R_istore (lv' := [_, _, _, _, _, _, _, _, _, _, _, _, _]) rfl rfl ?_
  exact k
set_option maxRecDepth 20000 in
theorem k4A {d N : Nat} {h : AH} {G : Gr} {Q : AQ} (hZ : isW h G) (hG : sm4 G) (hN : 127 ≤ N) {a : Nat} {f : Nat → Int} {S : Nat → Bool} (hre : h a = eI 16 f) (haN : a < N ∧ 126 ≤ a) (hf : ∀ j, j < qM G → f j = bI (S j)) {c : Nat} (hc : c < qM G) {zn l6 l7 : Int} {b : Bool} (k : Run mi_L_keeps (T (d + 3)) Q 404 [some (vI 4), some (vR 122), some (vI zn), some (vR a), some (vI (bI (b && S c))), some (vI (c : Int)), some (vI l6), some (vI l7), none, none, none, none, none] [] h N 1 16) : Run mi_L_keeps (T (d + 3)) Q 384 [some (vI 4), some (vR 122), some (vI zn), some (vR a), some (vI (bI b)), some (vI (c : Int)), some (vI l6), some (vI l7), none, none, none, none, none] [] h N 1 16 := by
  cases b
  · exact k4A_false hZ hG hN hre haN hf hc k
  · exact k4A_true hZ hG hN hre haN hf hc k
set_option maxRecDepth 20000 in
theorem k4_loop {d N : Nat} {h : AH} {G : Gr} {Q : AQ} (hZ : isW h G) (hG : sm4 G) (hN : 127 ≤ N) {a : Nat} {f : Nat → Int} {S : Nat → Bool} (hre : h a = eI 16 f) (haN : a < N ∧ 126 ≤ a) (hf : ∀ j, j < qM G → f j = bI (S j)) {zn : Int} (hzn : zn = qM G) : ∀ (r i : Nat) (b : Bool) (zi : Int), i + r = qM G → zi = i → (∀ z : Int, z = bI (b && alF (S) r i) → Q (.inl (some (vI z))) h N) → Run mi_L_keeps (T (d + 3)) Q 225 [some (vI 4), some (vR 122), some (vI zn), some (vR a), some (vI (bI b)), some (vI zi), none, none, none, none, none, none, none] [] h N 1 16 := by
  obtain ⟨w, m0, hw0, hw1, wL, wE, wS⟩ := id hZ
  have r0 : w (0 : Int).toNat = (qR G : Int) := hw0
  have r1 : w (1 : Int).toNat = (qC G : Int) := hw1
  have hm16 := sm4_m hG
  obtain ⟨hO, hR4, hC4⟩ := id hG
  obtain ⟨hm4, hm36⟩ := hO.m
  obtain ⟨⟨hr2, hr6⟩, ⟨hc2, hc6⟩, gL, gB, gW, gWn, gWl, gN, gNl⟩ := id hO
  intro r
  induction r using Nat.strongRecOn with
  | ind r ih =>
  intro i b zi hr hzi hQ
  subst hzi
  refine R_iload rfl rfl ?_
  refine R_iload_n rfl rfl ?_
  refine R_icmpge rfl ⟨by omega, by omega⟩ ⟨by omega, by omega⟩ (fun c228 => ?_) (fun c228 => ?_)
  · have hr0 : r = 0 := by omega
    subst hr0
    refine R_iload rfl rfl ?_
    exact R_ireturn rfl (fun _ => bI01 _) (Nat.le_of_ble_eq_true rfl) (Nat.le_of_ble_eq_true rfl) (hQ _ (by simp only [alF, Bool.and_true]))
  · obtain ⟨r, rfl⟩ : ∃ r1, r = r1 + 1 := ⟨r - 1, by omega⟩
    refine R_aload_n rfl rfl ?_
    refine R_iconst rfl ?_
    refine R_iaload rfl (Or.inl (by omega)) m0 ⟨by omega, by omega, by omega⟩ ?_
    rw [r0]
    refine R_iconst rfl ?_
    refine R_isub rfl ?_
    refine R_iload rfl rfl ?_
    refine R_aload_n rfl rfl ?_
    refine R_iconst rfl ?_
    refine R_iaload rfl (Or.inl (by omega)) m0 ⟨by omega, by omega, by omega⟩ ?_
    rw [r1]
    refine R_idiv rfl ⟨by omega, by omega, by omega, by omega⟩ ?_
    rw [show (i : Int) / (qC G : Int) = ((i / qC G : Nat) : Int) from rfl]
    refine R_isub rfl ?_
    refine R_istore (lv' := [_, _, _, _, _, _, _, _, _, _, _, _, _]) rfl rfl ?_
    refine R_aload_n rfl rfl ?_
    refine R_iconst rfl ?_
    refine R_iaload rfl (Or.inl (by omega)) m0 ⟨by omega, by omega, by omega⟩ ?_
    rw [r1]
    refine R_iconst rfl ?_
    refine R_isub rfl ?_
    refine R_iload rfl rfl ?_
    refine R_aload_n rfl rfl ?_
    refine R_iconst rfl ?_
    refine R_iaload rfl (Or.inl (by omega)) m0 ⟨by omega, by omega, by omega⟩ ?_
    rw [r1]
    refine R_irem rfl ⟨by omega, by omega, by omega, by omega⟩ ?_
    rw [show (i : Int) % (qC G : Int) = ((i % qC G : Nat) : Int) from rfl]
    refine R_isub rfl ?_
    refine R_istore (lv' := [_, _, _, _, _, _, _, _, _, _, _, _, _]) rfl rfl ?_
    refine R_iload_n rfl rfl ?_
    refine R_ifne rfl ⟨by decide, by decide⟩ (fun _ => ?_) (fun c0 => absurd c0 (by decide))
    refine R_iload_n rfl rfl ?_
    refine R_ifne rfl ⟨by decide, by decide⟩ (fun _ => ?_) (fun c0 => absurd c0 (by decide))
    refine R_iload_n rfl rfl ?_
    refine R_iconst rfl ?_
    refine R_icmpne rfl ⟨by decide, by decide⟩ ⟨by decide, by decide⟩ (fun _ => ?_) (fun c0 => absurd c0 (by decide))
    refine R_iload_n rfl rfl ?_
    refine R_iconst rfl ?_
    refine R_icmpne rfl ⟨by decide, by decide⟩ ⟨by decide, by decide⟩ (fun c0 => absurd c0 (by decide)) (fun _ => ?_)
    refine k4A hZ hG hN (c := i) hre haN hf (by omega) ?_
    refine R_iconst rfl ?_
    refine R_istore (lv' := [_, _, _, _, _, _, _, _, _, _, _, _, _]) rfl rfl ?_
    refine R_iload rfl rfl ?_
    refine R_iconst rfl ?_
    refine R_icmpge rfl ⟨by decide, by decide⟩ ⟨by decide, by decide⟩ (fun c0 => absurd c0 (by decide)) (fun _ => ?_)
    refine R_iload_n rfl rfl ?_
    refine R_iconst rfl ?_
    refine R_icmpeq rfl ⟨by decide, by decide⟩ ⟨by decide, by decide⟩ (fun c0 => absurd c0 (by decide)) (fun _ => ?_)
    refine R_iload_n rfl rfl ?_
    refine R_iconst rfl ?_
    refine R_icmpne rfl ⟨by decide, by decide⟩ ⟨by decide, by decide⟩ (fun _ => ?_) (fun c0 => absurd c0 (by decide))
    refine R_iinc (lv' := [_, _, _, _, _, _, _, _, _, _, _, _, _]) rfl rfl rfl ?_
    refine R_goto rfl ?_
    refine Run.lv (lv' := [_, _, _, _, _, _, none, none, none, none, none, none, none]) ?_ ⟨Or.inr rfl, Or.inr rfl, Or.inr rfl, Or.inr rfl, Or.inr rfl, Or.inr rfl, Or.inl rfl, Or.inl rfl, Or.inl rfl, Or.inl rfl, Or.inl rfl, Or.inl rfl, Or.inl rfl, trivial⟩
    exact ih r (by omega) (i + 1) _ _ (by omega) (by omega) (fun z hz => hQ z (by rw [hz]; simp only [alF, Bool.and_assoc]))
set_option maxRecDepth 20000 in
theorem r4l {d N : Nat} {h : AH} {G : Gr} {Q : AQ} (hZ : isW h G) (hG : sm4 G) (hN : 127 ≤ N) {a : Nat} {f : Nat → Int} {S : Nat → Bool} (hre : h a = eI 16 f) (haN : a < N ∧ 126 ≤ a) (hf : ∀ j, j < qM G → f j = bI (S j)) {c : Nat} {zn zr : Int} (hzn : zn = qM G) (hc : c < qM G) (k : ∀ zx : Int, zx = bI (pj G false c && S (c - 1)) → Run mi_L_keeps (T (d + 3)) Q 76 [some (vI 4), some (vR 122), some (vI zn), some (vR a), some (vI 1), some (vI zr), some (vI (c : Int)), some (vI zx), none, none, none, none, none] [] h N 1 16) : Run mi_L_keeps (T (d + 3)) Q 43 [some (vI 4), some (vR 122), some (vI zn), some (vR a), some (vI 1), some (vI zr), some (vI (c : Int)), none, none, none, none, none, none] [] h N 1 16 := by
  obtain ⟨w, m0, hw0, hw1, wL, wE, wS⟩ := id hZ
  have r0 : w (0 : Int).toNat = (qR G : Int) := hw0
  have r1 : w (1 : Int).toNat = (qC G : Int) := hw1
  have hm16 := sm4_m hG
  obtain ⟨hO, hR4, hC4⟩ := id hG
  obtain ⟨hm4, hm36⟩ := hO.m
  obtain ⟨⟨hr2, hr6⟩, ⟨hc2, hc6⟩, gL, gB, gW, gWn, gWl, gN, gNl⟩ := id hO
  obtain ⟨haN1, haN2⟩ := haN
  have hnpA := pjA hO (x := c) hc
  have hnpB := pjB hO (x := c) hc
  have hnjA := jnA hc
  have hnjB := jnB hO hc
  have hml := Nat.mod_lt c (show 0 < qC G by omega)
  have hmd : (c : Int) % (qC G : Int) = ((c % qC G : Nat) : Int) := rfl
  refine R_iload rfl rfl ?_
  refine R_aload_n rfl rfl ?_
  refine R_iconst rfl ?_
  refine R_iaload rfl (Or.inl (by omega)) m0 ⟨by omega, by omega, by omega⟩ ?_
  rw [r1]
  refine R_irem rfl ⟨by omega, by omega, by omega, by omega⟩ ?_
  rw [hmd]
  refine R_ifle rfl ⟨by omega, by omega⟩ (fun c49 => ?_) (fun c49 => ?_)
  · have hp : pj G false c = false := by
      rw [hnpA, decide_eq_false (by omega)]
      rfl
    have hv : (0 : Int) = bI (pj G false c && S (c - 1)) := by
      rw [hp]
      rfl
    refine R_iconst rfl ?_
    refine R_istore (lv' := [_, _, _, _, _, _, _, _, _, _, _, _, _]) rfl rfl ?_
    exact k _ hv
  · have hx1 : 1 ≤ c := by
      rcases Nat.eq_zero_or_pos c with q | q
      · rw [q, Nat.zero_mod] at c49
        omega
      · exact q
    have hB9 : w ((18 : Int) + (c : Int) - 1).toNat = bI (qE G (c - 1)) := by
      rw [show ((18 : Int) + (c : Int) - 1).toNat = 18 + (c - 1) by omega]
      exact wE _ (by omega)
    have hB1 := bI01 (qE G (c - 1))
    rw [← hB9] at hB1
    refine R_aload_n rfl rfl ?_
    refine R_bipush rfl ?_
    refine R_iload rfl rfl ?_
    refine R_iadd rfl ?_
    refine R_iconst rfl ?_
    refine R_isub rfl ?_
    refine R_iaload rfl (Or.inl (by omega)) m0 ⟨by omega, by omega, by omega⟩ ?_
    refine R_ifne rfl ⟨by omega, by omega⟩ (fun c61 => ?_) (fun c61 => ?_)
    · have hp : pj G false c = false := by
        rw [hnpA, bI_t hB9 c61]
        simp
      have hv : (0 : Int) = bI (pj G false c && S (c - 1)) := by
        rw [hp]
        rfl
      refine R_iconst rfl ?_
      refine R_istore (lv' := [_, _, _, _, _, _, _, _, _, _, _, _, _]) rfl rfl ?_
      exact k _ hv
    · have hp : pj G false c = true := by
        rw [hnpA, bI_f hB9 (by omega), decide_eq_true (by omega)]
        rfl
      have hv : f ((c : Int) - 1).toNat = bI (pj G false c && S (c - 1)) := by
        rw [hp, Bool.true_and, show ((c : Int) - 1).toNat = c - 1 by omega]
        exact hf _ (by omega)
      refine R_aload_n rfl rfl ?_
      refine R_iload rfl rfl ?_
      refine R_iconst rfl ?_
      refine R_isub rfl ?_
      refine R_iaload rfl (Or.inl (by omega)) hre ⟨by omega, by omega, by omega⟩ ?_
      refine R_goto rfl ?_
      refine R_istore (lv' := [_, _, _, _, _, _, _, _, _, _, _, _, _]) rfl rfl ?_
      exact k _ hv
set_option maxRecDepth 20000 in
theorem r4r {d N : Nat} {h : AH} {G : Gr} {Q : AQ} (hZ : isW h G) (hG : sm4 G) (hN : 127 ≤ N) {a : Nat} {f : Nat → Int} {S : Nat → Bool} (hre : h a = eI 16 f) (haN : a < N ∧ 126 ≤ a) (hf : ∀ j, j < qM G → f j = bI (S j)) {c : Nat} {zn zr l7 : Int} (hzn : zn = qM G) (hc : c < qM G) (k : ∀ zx : Int, zx = bI (jn G false c && S (c + 1)) → Run mi_L_keeps (T (d + 3)) Q 112 [some (vI 4), some (vR 122), some (vI zn), some (vR a), some (vI 1), some (vI zr), some (vI (c : Int)), some (vI l7), some (vI zx), none, none, none, none] [] h N 1 16) : Run mi_L_keeps (T (d + 3)) Q 76 [some (vI 4), some (vR 122), some (vI zn), some (vR a), some (vI 1), some (vI zr), some (vI (c : Int)), some (vI l7), none, none, none, none, none] [] h N 1 16 := by
  obtain ⟨w, m0, hw0, hw1, wL, wE, wS⟩ := id hZ
  have r0 : w (0 : Int).toNat = (qR G : Int) := hw0
  have r1 : w (1 : Int).toNat = (qC G : Int) := hw1
  have hm16 := sm4_m hG
  obtain ⟨hO, hR4, hC4⟩ := id hG
  obtain ⟨hm4, hm36⟩ := hO.m
  obtain ⟨⟨hr2, hr6⟩, ⟨hc2, hc6⟩, gL, gB, gW, gWn, gWl, gN, gNl⟩ := id hO
  obtain ⟨haN1, haN2⟩ := haN
  have hnpA := pjA hO (x := c) hc
  have hnpB := pjB hO (x := c) hc
  have hnjA := jnA hc
  have hnjB := jnB hO hc
  have hml := Nat.mod_lt c (show 0 < qC G by omega)
  have hmd : (c : Int) % (qC G : Int) = ((c % qC G : Nat) : Int) := rfl
  refine R_iload rfl rfl ?_
  refine R_aload_n rfl rfl ?_
  refine R_iconst rfl ?_
  refine R_iaload rfl (Or.inl (by omega)) m0 ⟨by omega, by omega, by omega⟩ ?_
  rw [r1]
  refine R_irem rfl ⟨by omega, by omega, by omega, by omega⟩ ?_
  rw [hmd]
  refine R_aload_n rfl rfl ?_
  refine R_iconst rfl ?_
  refine R_iaload rfl (Or.inl (by omega)) m0 ⟨by omega, by omega, by omega⟩ ?_
  rw [r1]
  refine R_iconst rfl ?_
  refine R_isub rfl ?_
  refine R_icmpge rfl ⟨by omega, by omega⟩ ⟨by omega, by omega⟩ (fun c87 => ?_) (fun c87 => ?_)
  · have hp : jn G false c = false := by
      rw [hnjA, decide_eq_false (by omega)]
      rfl
    have hv : (0 : Int) = bI (jn G false c && S (c + 1)) := by
      rw [hp]
      rfl
    refine R_iconst rfl ?_
    refine R_istore (lv' := [_, _, _, _, _, _, _, _, _, _, _, _, _]) rfl rfl ?_
    exact k _ hv
  · have hB9 : w ((18 : Int) + (c : Int)).toNat = bI (qE G (c)) := by
      rw [show ((18 : Int) + (c : Int)).toNat = 18 + (c) by omega]
      exact wE _ (by omega)
    have hB1 := bI01 (qE G (c))
    rw [← hB9] at hB1
    refine R_aload_n rfl rfl ?_
    refine R_bipush rfl ?_
    refine R_iload rfl rfl ?_
    refine R_iadd rfl ?_
    refine R_iaload rfl (Or.inl (by omega)) m0 ⟨by omega, by omega, by omega⟩ ?_
    refine R_ifne rfl ⟨by omega, by omega⟩ (fun c97 => ?_) (fun c97 => ?_)
    · have hp : jn G false c = false := by
        rw [hnjA, bI_t hB9 c97]
        simp
      have hv : (0 : Int) = bI (jn G false c && S (c + 1)) := by
        rw [hp]
        rfl
      refine R_iconst rfl ?_
      refine R_istore (lv' := [_, _, _, _, _, _, _, _, _, _, _, _, _]) rfl rfl ?_
      exact k _ hv
    · have hp : jn G false c = true := by
        rw [hnjA, bI_f hB9 (by omega), decide_eq_true (by omega)]
        rfl
      have hlt := (pos_next hO (jn_qP hp)).2.1
      have hlt2 : c + 1 < qM G := hlt
      have hv : f ((c : Int) + 1).toNat = bI (jn G false c && S (c + 1)) := by
        rw [hp, Bool.true_and, show ((c : Int) + 1).toNat = c + 1 by omega]
        exact hf _ (by omega)
      refine R_aload_n rfl rfl ?_
      refine R_iload rfl rfl ?_
      refine R_iconst rfl ?_
      refine R_iadd rfl ?_
      refine R_iaload rfl (Or.inl (by omega)) hre ⟨by omega, by omega, by omega⟩ ?_
      refine R_goto rfl ?_
      refine R_istore (lv' := [_, _, _, _, _, _, _, _, _, _, _, _, _]) rfl rfl ?_
      exact k _ hv
set_option maxRecDepth 20000 in
theorem r4a {d N : Nat} {h : AH} {G : Gr} {Q : AQ} (hZ : isW h G) (hG : sm4 G) (hN : 127 ≤ N) {a : Nat} {f : Nat → Int} {S : Nat → Bool} (hre : h a = eI 16 f) (haN : a < N ∧ 126 ≤ a) (hf : ∀ j, j < qM G → f j = bI (S j)) {c : Nat} {zn zr l7 l8 : Int} (hzn : zn = qM G) (hc : c < qM G) (k : ∀ zx : Int, zx = bI (pj G true c && S (c - qC G)) → Run mi_L_keeps (T (d + 3)) Q 148 [some (vI 4), some (vR 122), some (vI zn), some (vR a), some (vI 1), some (vI zr), some (vI (c : Int)), some (vI l7), some (vI l8), some (vI zx), none, none, none] [] h N 1 16) : Run mi_L_keeps (T (d + 3)) Q 112 [some (vI 4), some (vR 122), some (vI zn), some (vR a), some (vI 1), some (vI zr), some (vI (c : Int)), some (vI l7), some (vI l8), none, none, none, none] [] h N 1 16 := by
  obtain ⟨w, m0, hw0, hw1, wL, wE, wS⟩ := id hZ
  have r0 : w (0 : Int).toNat = (qR G : Int) := hw0
  have r1 : w (1 : Int).toNat = (qC G : Int) := hw1
  have hm16 := sm4_m hG
  obtain ⟨hO, hR4, hC4⟩ := id hG
  obtain ⟨hm4, hm36⟩ := hO.m
  obtain ⟨⟨hr2, hr6⟩, ⟨hc2, hc6⟩, gL, gB, gW, gWn, gWl, gN, gNl⟩ := id hO
  obtain ⟨haN1, haN2⟩ := haN
  have hnpA := pjA hO (x := c) hc
  have hnpB := pjB hO (x := c) hc
  have hnjA := jnA hc
  have hnjB := jnB hO hc
  have hml := Nat.mod_lt c (show 0 < qC G by omega)
  have hmd : (c : Int) % (qC G : Int) = ((c % qC G : Nat) : Int) := rfl
  refine R_iload rfl rfl ?_
  refine R_aload_n rfl rfl ?_
  refine R_iconst rfl ?_
  refine R_iaload rfl (Or.inl (by omega)) m0 ⟨by omega, by omega, by omega⟩ ?_
  rw [r1]
  refine R_icmplt rfl ⟨by omega, by omega⟩ ⟨by omega, by omega⟩ (fun c117 => ?_) (fun c117 => ?_)
  · have hp : pj G true c = false := by
      rw [hnpB, decide_eq_false (by omega)]
      rfl
    have hv : (0 : Int) = bI (pj G true c && S (c - qC G)) := by
      rw [hp]
      rfl
    refine R_iconst rfl ?_
    refine R_istore (lv' := [_, _, _, _, _, _, _, _, _, _, _, _, _]) rfl rfl ?_
    exact k _ hv
  · have hB9 : w ((34 : Int) + (c : Int) - (qC G : Int)).toNat = bI (qS G (c - qC G)) := by
      rw [show ((34 : Int) + (c : Int) - (qC G : Int)).toNat = 34 + (c - qC G) by omega]
      exact wS _ (by omega)
    have hB1 := bI01 (qS G (c - qC G))
    rw [← hB9] at hB1
    refine R_aload_n rfl rfl ?_
    refine R_bipush rfl ?_
    refine R_iload rfl rfl ?_
    refine R_iadd rfl ?_
    refine R_aload_n rfl rfl ?_
    refine R_iconst rfl ?_
    refine R_iaload rfl (Or.inl (by omega)) m0 ⟨by omega, by omega, by omega⟩ ?_
    rw [r1]
    refine R_isub rfl ?_
    refine R_iaload rfl (Or.inl (by omega)) m0 ⟨by omega, by omega, by omega⟩ ?_
    refine R_ifne rfl ⟨by omega, by omega⟩ (fun c131 => ?_) (fun c131 => ?_)
    · have hp : pj G true c = false := by
        rw [hnpB, bI_t hB9 c131]
        simp
      have hv : (0 : Int) = bI (pj G true c && S (c - qC G)) := by
        rw [hp]
        rfl
      refine R_iconst rfl ?_
      refine R_istore (lv' := [_, _, _, _, _, _, _, _, _, _, _, _, _]) rfl rfl ?_
      exact k _ hv
    · have hp : pj G true c = true := by
        rw [hnpB, bI_f hB9 (by omega), decide_eq_true (by omega)]
        rfl
      have hv : f ((c : Int) - (qC G : Int)).toNat = bI (pj G true c && S (c - qC G)) := by
        rw [hp, Bool.true_and, show ((c : Int) - (qC G : Int)).toNat = c - qC G by omega]
        exact hf _ (by omega)
      refine R_aload_n rfl rfl ?_
      refine R_iload rfl rfl ?_
      refine R_aload_n rfl rfl ?_
      refine R_iconst rfl ?_
      refine R_iaload rfl (Or.inl (by omega)) m0 ⟨by omega, by omega, by omega⟩ ?_
      rw [r1]
      refine R_isub rfl ?_
      refine R_iaload rfl (Or.inl (by omega)) hre ⟨by omega, by omega, by omega⟩ ?_
      refine R_goto rfl ?_
      refine R_istore (lv' := [_, _, _, _, _, _, _, _, _, _, _, _, _]) rfl rfl ?_
      exact k _ hv
set_option maxRecDepth 20000 in
theorem r4u {d N : Nat} {h : AH} {G : Gr} {Q : AQ} (hZ : isW h G) (hG : sm4 G) (hN : 127 ≤ N) {a : Nat} {f : Nat → Int} {S : Nat → Bool} (hre : h a = eI 16 f) (haN : a < N ∧ 126 ≤ a) (hf : ∀ j, j < qM G → f j = bI (S j)) {c : Nat} {zn zr l7 l8 l9 : Int} (hzn : zn = qM G) (hc : c < qM G) (k : ∀ zx : Int, zx = bI (jn G true c && S (c + qC G)) → Run mi_L_keeps (T (d + 3)) Q 182 [some (vI 4), some (vR 122), some (vI zn), some (vR a), some (vI 1), some (vI zr), some (vI (c : Int)), some (vI l7), some (vI l8), some (vI l9), some (vI zx), none, none] [] h N 1 16) : Run mi_L_keeps (T (d + 3)) Q 148 [some (vI 4), some (vR 122), some (vI zn), some (vR a), some (vI 1), some (vI zr), some (vI (c : Int)), some (vI l7), some (vI l8), some (vI l9), none, none, none] [] h N 1 16 := by
  obtain ⟨w, m0, hw0, hw1, wL, wE, wS⟩ := id hZ
  have r0 : w (0 : Int).toNat = (qR G : Int) := hw0
  have r1 : w (1 : Int).toNat = (qC G : Int) := hw1
  have hm16 := sm4_m hG
  obtain ⟨hO, hR4, hC4⟩ := id hG
  obtain ⟨hm4, hm36⟩ := hO.m
  obtain ⟨⟨hr2, hr6⟩, ⟨hc2, hc6⟩, gL, gB, gW, gWn, gWl, gN, gNl⟩ := id hO
  obtain ⟨haN1, haN2⟩ := haN
  have hnpA := pjA hO (x := c) hc
  have hnpB := pjB hO (x := c) hc
  have hnjA := jnA hc
  have hnjB := jnB hO hc
  have hml := Nat.mod_lt c (show 0 < qC G by omega)
  have hmd : (c : Int) % (qC G : Int) = ((c % qC G : Nat) : Int) := rfl
  have hnd : jn G true c = (decide (c + qC G < qM G) && !qS G c) := by
    show ((decide (c < qM G) && decide (c + qC G < qM G)) && !qS G c) = _
    rw [decide_eq_true hc, Bool.true_and]
  refine R_iload rfl rfl ?_
  refine R_aload_n rfl rfl ?_
  refine R_iconst rfl ?_
  refine R_iaload rfl (Or.inl (by omega)) m0 ⟨by omega, by omega, by omega⟩ ?_
  rw [r1]
  refine R_iadd rfl ?_
  refine R_iload_n rfl rfl ?_
  refine R_icmpge rfl ⟨by omega, by omega⟩ ⟨by omega, by omega⟩ (fun c155 => ?_) (fun c155 => ?_)
  · have hp : jn G true c = false := by
      rw [hnd, decide_eq_false (by omega)]
      rfl
    have hv : (0 : Int) = bI (jn G true c && S (c + qC G)) := by
      rw [hp]
      rfl
    refine R_iconst rfl ?_
    refine R_istore (lv' := [_, _, _, _, _, _, _, _, _, _, _, _, _]) rfl rfl ?_
    exact k _ hv
  · have hB9 : w ((34 : Int) + (c : Int)).toNat = bI (qS G (c)) := by
      rw [show ((34 : Int) + (c : Int)).toNat = 34 + (c) by omega]
      exact wS _ (by omega)
    have hB1 := bI01 (qS G (c))
    rw [← hB9] at hB1
    refine R_aload_n rfl rfl ?_
    refine R_bipush rfl ?_
    refine R_iload rfl rfl ?_
    refine R_iadd rfl ?_
    refine R_iaload rfl (Or.inl (by omega)) m0 ⟨by omega, by omega, by omega⟩ ?_
    refine R_ifne rfl ⟨by omega, by omega⟩ (fun c165 => ?_) (fun c165 => ?_)
    · have hp : jn G true c = false := by
        rw [hnd, bI_t hB9 c165]
        simp
      have hv : (0 : Int) = bI (jn G true c && S (c + qC G)) := by
        rw [hp]
        rfl
      refine R_iconst rfl ?_
      refine R_istore (lv' := [_, _, _, _, _, _, _, _, _, _, _, _, _]) rfl rfl ?_
      exact k _ hv
    · have hp : jn G true c = true := by
        rw [hnd, bI_f hB9 (by omega), decide_eq_true (by omega)]
        rfl
      have hv : f ((c : Int) + (qC G : Int)).toNat = bI (jn G true c && S (c + qC G)) := by
        rw [hp, Bool.true_and, show ((c : Int) + (qC G : Int)).toNat = c + qC G by omega]
        exact hf _ (by omega)
      refine R_aload_n rfl rfl ?_
      refine R_iload rfl rfl ?_
      refine R_aload_n rfl rfl ?_
      refine R_iconst rfl ?_
      refine R_iaload rfl (Or.inl (by omega)) m0 ⟨by omega, by omega, by omega⟩ ?_
      rw [r1]
      refine R_iadd rfl ?_
      refine R_iaload rfl (Or.inl (by omega)) hre ⟨by omega, by omega, by omega⟩ ?_
      refine R_goto rfl ?_
      refine R_istore (lv' := [_, _, _, _, _, _, _, _, _, _, _, _, _]) rfl rfl ?_
      exact k _ hv
theorem nb_sum {G : Gr} {c : Nat} {S : Nat → Bool} {z l7 l8 l9 l10 : Int} (h0 : z = bI (S c)) (h7 : l7 = bI (pj G false c && S (c - 1))) (h8 : l8 = bI (jn G false c && S (c + 1))) (h9 : l9 = bI (pj G true c && S (c - qC G))) (h10 : l10 = bI (jn G true c && S (c + qC G))) : 0 ≤ z + l7 + l8 + l9 + l10 ∧ z + l7 + l8 + l9 + l10 ≤ 5 ∧ ((S c || nbr G c S) = true ↔ 0 < z + l7 + l8 + l9 + l10) := by
  unfold nbr
  generalize S c = a0 at *
  generalize (pj G false c && S (c - 1)) = a1 at *
  generalize (jn G false c && S (c + 1)) = a2 at *
  generalize (pj G true c && S (c - qC G)) = a3 at *
  generalize (jn G true c && S (c + qC G)) = a4 at *
  subst h0; subst h7; subst h8; subst h9; subst h10
  cases a0 <;> cases a1 <;> cases a2 <;> cases a3 <;> cases a4 <;> decide
theorem nb_sum_t {G : Gr} {c : Nat} {S : Nat → Bool} {z l7 l8 l9 l10 : Int} (h0 : z = bI (S c)) (h7 : l7 = bI (pj G false c && S (c - 1))) (h8 : l8 = bI (jn G false c && S (c + 1))) (h9 : l9 = bI (pj G true c && S (c - qC G))) (h10 : l10 = bI (jn G true c && S (c + qC G))) (hs : 0 < z + l7 + l8 + l9 + l10) : (S c || nbr G c S) = true := (nb_sum h0 h7 h8 h9 h10).2.2.mpr hs
theorem nb_sum_f {G : Gr} {c : Nat} {S : Nat → Bool} {z l7 l8 l9 l10 : Int} (h0 : z = bI (S c)) (h7 : l7 = bI (pj G false c && S (c - 1))) (h8 : l8 = bI (jn G false c && S (c + 1))) (h9 : l9 = bI (pj G true c && S (c - qC G))) (h10 : l10 = bI (jn G true c && S (c + qC G))) (hs : z + l7 + l8 + l9 + l10 ≤ 0) : (S c || nbr G c S) = false := Bool.eq_false_iff.mpr (fun q => by
  have := (nb_sum h0 h7 h8 h9 h10).2.2.mp q
  omega)
set_option maxRecDepth 20000 in
theorem r4s {d N : Nat} {h : AH} {G : Gr} {Q : AQ} (hZ : isW h G) (hG : sm4 G) (hN : 127 ≤ N) {a : Nat} {f : Nat → Int} {S : Nat → Bool} (hre : h a = eI 16 f) (haN : a < N ∧ 126 ≤ a) (hf : ∀ j, j < qM G → f j = bI (S j)) {c : Nat} {zn zr l7 l8 l9 l10 : Int} (hc : c < qM G) (hl7 : l7 = bI (pj G false c && S (c - 1))) (hl8 : l8 = bI (jn G false c && S (c + 1))) (hl9 : l9 = bI (pj G true c && S (c - qC G))) (hl10 : l10 = bI (jn G true c && S (c + qC G))) (k : ∀ (h1 : AH) (f1 : Nat → Int), h1 a = eI 16 f1 → (∀ j, j ≠ a → h1 j = h j) → (∀ j, j < qM G → f1 j = bI (lsp G c S j)) → Run mi_L_keeps (T (d + 3)) Q 210 [some (vI 4), some (vR 122), some (vI zn), some (vR a), some (vI 1), some (vI zr), some (vI (c : Int)), some (vI l7), some (vI l8), some (vI l9), some (vI l10), none, none] [] h1 N 1 16) : Run mi_L_keeps (T (d + 3)) Q 182 [some (vI 4), some (vR 122), some (vI zn), some (vR a), some (vI 1), some (vI zr), some (vI (c : Int)), some (vI l7), some (vI l8), some (vI l9), some (vI l10), none, none] [] h N 1 16 := by
  obtain ⟨w, m0, hw0, hw1, wL, wE, wS⟩ := id hZ
  have r0 : w (0 : Int).toNat = (qR G : Int) := hw0
  have r1 : w (1 : Int).toNat = (qC G : Int) := hw1
  have hm16 := sm4_m hG
  obtain ⟨hO, hR4, hC4⟩ := id hG
  obtain ⟨hm4, hm36⟩ := hO.m
  obtain ⟨⟨hr2, hr6⟩, ⟨hc2, hc6⟩, gL, gB, gW, gWn, gWl, gN, gNl⟩ := id hO
  obtain ⟨haN1, haN2⟩ := haN
  have hfc : f ((c : Int)).toNat = bI (S c) := hf c hc
  obtain ⟨hs1, hs2, -⟩ := nb_sum hfc hl7 hl8 hl9 hl10
  refine R_aload_n rfl rfl ?_
  refine R_iload rfl rfl ?_
  refine R_aload_n rfl rfl ?_
  refine R_iload rfl rfl ?_
  refine R_iaload rfl (Or.inl (by omega)) hre ⟨by omega, by omega, by omega⟩ ?_
  refine R_iload rfl rfl ?_
  refine R_iadd rfl ?_
  refine R_iload rfl rfl ?_
  refine R_iadd rfl ?_
  refine R_iload rfl rfl ?_
  refine R_iadd rfl ?_
  refine R_iload rfl rfl ?_
  refine R_iadd rfl ?_
  refine R_ifle rfl ⟨by omega, by omega⟩ (fun c201 => ?_) (fun c201 => ?_)
  · have hs9 : (S c || nbr G c S) = false := nb_sum_f hfc hl7 hl8 hl9 hl10 (by omega)
    refine R_iconst rfl ?_
    refine R_iastore rfl (by omega) hre ⟨by omega, by omega, by omega⟩ ?_
    exact k _ _ (va_up_self _ _ _) (fun j hj => va_up_ne _ _ hj) (up1_b rfl (by rw [hs9]; rfl) hf)
  · have hs9 : (S c || nbr G c S) = true := nb_sum_t hfc hl7 hl8 hl9 hl10 (by omega)
    refine R_iconst rfl ?_
    refine R_goto rfl ?_
    refine R_iastore rfl (by omega) hre ⟨by omega, by omega, by omega⟩ ?_
    exact k _ _ (va_up_self _ _ _) (fun j hj => va_up_ne _ _ hj) (up1_b rfl (by rw [hs9]; rfl) hf)
set_option maxRecDepth 20000 in
theorem r4c {d N : Nat} {h : AH} {G : Gr} {Q : AQ} (hZ : isW h G) (hG : sm4 G) (hN : 127 ≤ N) {a : Nat} {f : Nat → Int} {S : Nat → Bool} (hre : h a = eI 16 f) (haN : a < N ∧ 126 ≤ a) (hf : ∀ j, j < qM G → f j = bI (S j)) {c : Nat} {zn zr : Int} (hzn : zn = qM G) (hc : c < qM G) (k : ∀ (h1 : AH) (f1 : Nat → Int) (l7 l8 l9 l10 : Int), h1 a = eI 16 f1 → (∀ j, j ≠ a → h1 j = h j) → (∀ j, j < qM G → f1 j = bI (lsp G c S j)) → Run mi_L_keeps (T (d + 3)) Q 210 [some (vI 4), some (vR 122), some (vI zn), some (vR a), some (vI 1), some (vI zr), some (vI (c : Int)), some (vI l7), some (vI l8), some (vI l9), some (vI l10), none, none] [] h1 N 1 16) : Run mi_L_keeps (T (d + 3)) Q 43 [some (vI 4), some (vR 122), some (vI zn), some (vR a), some (vI 1), some (vI zr), some (vI (c : Int)), none, none, none, none, none, none] [] h N 1 16 := by
  refine r4l hZ hG hN hre haN hf hzn hc (fun l7 hl7 => ?_)
  refine r4r hZ hG hN hre haN hf hzn hc (fun l8 hl8 => ?_)
  refine r4a hZ hG hN hre haN hf hzn hc (fun l9 hl9 => ?_)
  refine r4u hZ hG hN hre haN hf hzn hc (fun l10 hl10 => ?_)
  exact r4s hZ hG hN hre haN hf hc hl7 hl8 hl9 hl10 (fun h1 f1 e1 e2 e3 => k h1 f1 l7 l8 l9 l10 e1 e2 e3)
set_option maxRecDepth 20000 in
theorem r4_sw {d N : Nat} {h0 : AH} {G : Gr} {Q : AQ} (hG : sm4 G) (hN : 127 ≤ N) {a : Nat} (haN : a < N ∧ 126 ≤ a) {zn zr : Int} (hzn : zn = qM G) : ∀ (r i : Nat) (h : AH) (f : Nat → Int) (S : Nat → Bool) (zi : Int), isW h G → h a = eI 16 f → (∀ j, j ≠ a → h j = h0 j) → (∀ j, j < qM G → f j = bI (S j)) → i + r = qM G → zi = i → (∀ (h1 : AH) (f1 : Nat → Int) (l6 : Int), isW h1 G → h1 a = eI 16 f1 → (∀ j, j ≠ a → h1 j = h0 j) → (∀ j, j < qM G → f1 j = bI (lsw G r i S j)) → Run mi_L_keeps (T (d + 3)) Q 216 [some (vI 4), some (vR 122), some (vI zn), some (vR a), some (vI 1), some (vI zr), some (vI l6), none, none, none, none, none, none] [] h1 N 1 16) → Run mi_L_keeps (T (d + 3)) Q 37 [some (vI 4), some (vR 122), some (vI zn), some (vR a), some (vI 1), some (vI zr), some (vI zi), none, none, none, none, none, none] [] h N 1 16 := by
  intro r
  induction r using Nat.strongRecOn with
  | ind r ih =>
  intro i h f S zi hZ hre hoo hf hr hzi k
  subst hzi
  obtain ⟨w, m0, hw0, hw1, wL, wE, wS⟩ := id hZ
  have r0 : w (0 : Int).toNat = (qR G : Int) := hw0
  have r1 : w (1 : Int).toNat = (qC G : Int) := hw1
  have hm16 := sm4_m hG
  obtain ⟨hO, hR4, hC4⟩ := id hG
  obtain ⟨hm4, hm36⟩ := hO.m
  obtain ⟨⟨hr2, hr6⟩, ⟨hc2, hc6⟩, gL, gB, gW, gWn, gWl, gN, gNl⟩ := id hO
  obtain ⟨haN1, haN2⟩ := id haN
  refine R_iload rfl rfl ?_
  refine R_iload_n rfl rfl ?_
  refine R_icmpge rfl ⟨by omega, by omega⟩ ⟨by omega, by omega⟩ (fun c40 => ?_) (fun c40 => ?_)
  · have hr0 : r = 0 := by omega
    subst hr0
    exact k _ _ _ hZ hre hoo hf
  · obtain ⟨r, rfl⟩ : ∃ r1, r = r1 + 1 := ⟨r - 1, by omega⟩
    refine r4c hZ hG hN hre haN hf hzn (c := i) (by omega) (fun h1 f1 l7 l8 l9 l10 e1 e2 e3 => ?_)
    refine R_iinc (lv' := [_, _, _, _, _, _, _, _, _, _, _, _, _]) rfl rfl rfl ?_
    refine R_goto rfl ?_
    refine Run.lv (lv' := [_, _, _, _, _, _, _, none, none, none, none, none, none]) ?_ ⟨Or.inr rfl, Or.inr rfl, Or.inr rfl, Or.inr rfl, Or.inr rfl, Or.inr rfl, Or.inr rfl, Or.inl rfl, Or.inl rfl, Or.inl rfl, Or.inl rfl, Or.inl rfl, Or.inl rfl, trivial⟩
    exact ih r (by omega) (i + 1) h1 f1 _ _ (isW_fr hZ (e2 _ (by omega))) e1 (fun j hj => (e2 j hj).trans (hoo j hj)) e3 (by omega) (by omega) k
set_option maxRecDepth 20000 in
theorem r4_rd {d N : Nat} {h0 : AH} {G : Gr} {Q : AQ} (hG : sm4 G) (hN : 127 ≤ N) {a : Nat} (haN : a < N ∧ 126 ≤ a) {zn : Int} (hzn : zn = qM G) : ∀ (r i : Nat) (h : AH) (f : Nat → Int) (S : Nat → Bool) (zi : Int), isW h G → h a = eI 16 f → (∀ j, j ≠ a → h j = h0 j) → (∀ j, j < qM G → f j = bI (S j)) → i + r = qM G → zi = i → (∀ (h1 : AH) (f1 : Nat → Int) (l5 : Int), isW h1 G → h1 a = eI 16 f1 → (∀ j, j ≠ a → h1 j = h0 j) → (∀ j, j < qM G → f1 j = bI (itF (lsw G (qM G) 0) r S j)) → Run mi_L_keeps (T (d + 3)) Q 222 [some (vI 4), some (vR 122), some (vI zn), some (vR a), some (vI 1), some (vI l5), none, none, none, none, none, none, none] [] h1 N 1 16) → Run mi_L_keeps (T (d + 3)) Q 23 [some (vI 4), some (vR 122), some (vI zn), some (vR a), some (vI 1), some (vI zi), none, none, none, none, none, none, none] [] h N 1 16 := by
  intro r
  induction r using Nat.strongRecOn with
  | ind r ih =>
  intro i h f S zi hZ hre hoo hf hr hzi k
  subst hzi
  obtain ⟨w, m0, hw0, hw1, wL, wE, wS⟩ := id hZ
  have r0 : w (0 : Int).toNat = (qR G : Int) := hw0
  have r1 : w (1 : Int).toNat = (qC G : Int) := hw1
  have hm16 := sm4_m hG
  obtain ⟨hO, hR4, hC4⟩ := id hG
  obtain ⟨hm4, hm36⟩ := hO.m
  obtain ⟨⟨hr2, hr6⟩, ⟨hc2, hc6⟩, gL, gB, gW, gWn, gWl, gN, gNl⟩ := id hO
  obtain ⟨haN1, haN2⟩ := id haN
  refine R_iload rfl rfl ?_
  refine R_iload_n rfl rfl ?_
  refine R_icmpge rfl ⟨by omega, by omega⟩ ⟨by omega, by omega⟩ (fun c26 => ?_) (fun c26 => ?_)
  · have hr0 : r = 0 := by omega
    subst hr0
    exact k _ _ _ hZ hre hoo hf
  · obtain ⟨r, rfl⟩ : ∃ r1, r = r1 + 1 := ⟨r - 1, by omega⟩
    refine R_iload_n rfl rfl ?_
    refine R_iconst rfl ?_
    refine R_icmpne rfl ⟨by decide, by decide⟩ ⟨by decide, by decide⟩ (fun c0 => absurd c0 (by decide)) (fun _ => ?_)
    refine R_iconst rfl ?_
    refine R_istore (lv' := [_, _, _, _, _, _, _, _, _, _, _, _, _]) rfl rfl ?_
    refine r4_sw hG hN haN hzn (qM G) 0 h f S _ hZ hre hoo hf (Nat.zero_add _) rfl (fun h1 f1 l6 hZ1 e1 e2 e3 => ?_)
    refine R_iinc (lv' := [_, _, _, _, _, _, _, _, _, _, _, _, _]) rfl rfl rfl ?_
    refine R_goto rfl ?_
    refine Run.lv (lv' := [_, _, _, _, _, _, none, none, none, none, none, none, none]) ?_ ⟨Or.inr rfl, Or.inr rfl, Or.inr rfl, Or.inr rfl, Or.inr rfl, Or.inr rfl, Or.inl rfl, Or.inl rfl, Or.inl rfl, Or.inl rfl, Or.inl rfl, Or.inl rfl, Or.inl rfl, trivial⟩
    exact ih r (by omega) (i + 1) h1 f1 _ _ hZ1 e1 e2 e3 (by omega) (by omega) k
set_option maxRecDepth 20000 in
theorem ks2 {d N : Nat} {h : AH} {G : Gr} {Q : AQ} (hZ : isW h G) (hG : sm4 G) (hN : 127 ≤ N) {c m : Nat} {bd : Bool} {zn zd zm zt : Int} (hzm : zm = m) (hzt : zt = sp G bd) (hcl : ∀ i, i < m → c + i * sp G bd < qM G) (hm6 : m ≤ 6) {i : Nat} {zs zb : Int} (hi : i < m) (k : ∀ zs1 : Int, zs1 = zs + (tn (pU2 G c bd i) : Nat) → Run mi_L_keeps (T (d + 3)) Q 501 [some (vI 2), some (vR 122), some (vI zn), none, some (vI zb), some (vI (c : Int)), none, none, some (vI zd), some (vI zm), some (vI zt), some (vI zs1), some (vI (i : Int))] [] h N 1 16) : Run mi_L_keeps (T (d + 3)) Q 475 [some (vI 2), some (vR 122), some (vI zn), none, some (vI zb), some (vI (c : Int)), none, none, some (vI zd), some (vI zm), some (vI zt), some (vI zs), some (vI (i : Int))] [] h N 1 16 := by
  obtain ⟨w, m0, hw0, hw1, wL, wE, wS⟩ := id hZ
  have r0 : w (0 : Int).toNat = (qR G : Int) := hw0
  have r1 : w (1 : Int).toNat = (qC G : Int) := hw1
  have hm16 := sm4_m hG
  obtain ⟨hO, hR4, hC4⟩ := id hG
  obtain ⟨hm4, hm36⟩ := hO.m
  obtain ⟨⟨hr2, hr6⟩, ⟨hc2, hc6⟩, gL, gB, gW, gWn, gWl, gN, gNl⟩ := id hO
  subst hzt
  refine R_iload rfl rfl ?_
  refine R_iload rfl rfl ?_
  refine R_iload rfl rfl ?_
  refine R_iload rfl rfl ?_
  refine R_imul rfl ?_
  refine R_iadd rfl ?_
  refine R_aload_n rfl rfl ?_
  refine R_scall rfl rfl ⟨Nat.le_of_ble_eq_true rfl, Nat.le_of_ble_eq_true rfl, Nat.le_of_ble_eq_true rfl, Nat.le_of_ble_eq_true rfl⟩ (in_T (c := c + i * sp G bd) hZ hG (by omega) rfl (hcl _ (by omega)) (fun z486 hz486 => aRes_i (rest := [_]) ?_))
  have hen486 := enC_2 (G := G) (x := c + i * sp G bd)
  refine R_iconst rfl ?_
  refine R_icmpne rfl ⟨by omega, by omega⟩ ⟨by decide, by decide⟩ (fun c490 => ?_) (fun c490 => ?_)
  · refine R_iconst rfl ?_
    refine R_iadd rfl ?_
    refine R_istore (lv' := [_, _, _, _, _, _, _, _, _, _, _, _, _]) rfl rfl ?_
    exact k _ (by first | (rw [show pU2 G c bd i = true from decide_eq_true (by omega)]; rfl) | (rw [show pU2 G c bd i = false from decide_eq_false (by omega)]; rfl))
  · refine R_iconst rfl ?_
    refine R_goto rfl ?_
    refine R_iadd rfl ?_
    refine R_istore (lv' := [_, _, _, _, _, _, _, _, _, _, _, _, _]) rfl rfl ?_
    exact k _ (by first | (rw [show pU2 G c bd i = true from decide_eq_true (by omega)]; rfl) | (rw [show pU2 G c bd i = false from decide_eq_false (by omega)]; rfl))
set_option maxRecDepth 20000 in
theorem ks3 {d N : Nat} {h : AH} {G : Gr} {Q : AQ} (hZ : isW h G) (hG : sm4 G) (hN : 127 ≤ N) {c m : Nat} {bd : Bool} {zn zd zm zt : Int} (hzm : zm = m) (hzt : zt = sp G bd) (hcl : ∀ i, i < m → c + i * sp G bd < qM G) (hm6 : m ≤ 6) {i : Nat} {zs zb : Int} (hi : i < m) (k : ∀ zs1 : Int, zs1 = zs + (tn (pU2 G c bd i) : Nat) → Run mi_L_keeps (T (d + 3)) Q 501 [some (vI 3), some (vR 122), some (vI zn), none, some (vI zb), some (vI (c : Int)), none, none, some (vI zd), some (vI zm), some (vI zt), some (vI zs1), some (vI (i : Int))] [] h N 1 16) : Run mi_L_keeps (T (d + 3)) Q 475 [some (vI 3), some (vR 122), some (vI zn), none, some (vI zb), some (vI (c : Int)), none, none, some (vI zd), some (vI zm), some (vI zt), some (vI zs), some (vI (i : Int))] [] h N 1 16 := by
  obtain ⟨w, m0, hw0, hw1, wL, wE, wS⟩ := id hZ
  have r0 : w (0 : Int).toNat = (qR G : Int) := hw0
  have r1 : w (1 : Int).toNat = (qC G : Int) := hw1
  have hm16 := sm4_m hG
  obtain ⟨hO, hR4, hC4⟩ := id hG
  obtain ⟨hm4, hm36⟩ := hO.m
  obtain ⟨⟨hr2, hr6⟩, ⟨hc2, hc6⟩, gL, gB, gW, gWn, gWl, gN, gNl⟩ := id hO
  subst hzt
  refine R_iload rfl rfl ?_
  refine R_iload rfl rfl ?_
  refine R_iload rfl rfl ?_
  refine R_iload rfl rfl ?_
  refine R_imul rfl ?_
  refine R_iadd rfl ?_
  refine R_aload_n rfl rfl ?_
  refine R_scall rfl rfl ⟨Nat.le_of_ble_eq_true rfl, Nat.le_of_ble_eq_true rfl, Nat.le_of_ble_eq_true rfl, Nat.le_of_ble_eq_true rfl⟩ (in_T (c := c + i * sp G bd) hZ hG (by omega) rfl (hcl _ (by omega)) (fun z486 hz486 => aRes_i (rest := [_]) ?_))
  have hen486 := enC_2 (G := G) (x := c + i * sp G bd)
  refine R_iconst rfl ?_
  refine R_icmpne rfl ⟨by omega, by omega⟩ ⟨by decide, by decide⟩ (fun c490 => ?_) (fun c490 => ?_)
  · refine R_iconst rfl ?_
    refine R_iadd rfl ?_
    refine R_istore (lv' := [_, _, _, _, _, _, _, _, _, _, _, _, _]) rfl rfl ?_
    exact k _ (by first | (rw [show pU2 G c bd i = true from decide_eq_true (by omega)]; rfl) | (rw [show pU2 G c bd i = false from decide_eq_false (by omega)]; rfl))
  · refine R_iconst rfl ?_
    refine R_goto rfl ?_
    refine R_iadd rfl ?_
    refine R_istore (lv' := [_, _, _, _, _, _, _, _, _, _, _, _, _]) rfl rfl ?_
    exact k _ (by first | (rw [show pU2 G c bd i = true from decide_eq_true (by omega)]; rfl) | (rw [show pU2 G c bd i = false from decide_eq_false (by omega)]; rfl))
set_option maxRecDepth 20000 in
theorem k2_in {d N : Nat} {h : AH} {G : Gr} {Q : AQ} (hZ : isW h G) (hG : sm4 G) (hN : 127 ≤ N) {c m : Nat} {bd : Bool} {zn zd zm zt : Int} (hzm : zm = m) (hzt : zt = sp G bd) (hcl : ∀ i, i < m → c + i * sp G bd < qM G) (hm6 : m ≤ 6) {zb : Int} : ∀ (r i : Nat) (zs zi : Int), i + r = m → zi = i → (∀ zs1 zi1 : Int, zs1 = zs + (ctF (pU2 G c bd) r i : Nat) → Run mi_L_keeps (T (d + 3)) Q 560 [some (vI 2), some (vR 122), some (vI zn), none, some (vI zb), some (vI (c : Int)), none, none, some (vI zd), some (vI zm), some (vI zt), some (vI zs1), some (vI zi1)] [] h N 1 16) → Run mi_L_keeps (T (d + 3)) Q 468 [some (vI 2), some (vR 122), some (vI zn), none, some (vI zb), some (vI (c : Int)), none, none, some (vI zd), some (vI zm), some (vI zt), some (vI zs), some (vI zi)] [] h N 1 16 := by
  obtain ⟨w, m0, hw0, hw1, wL, wE, wS⟩ := id hZ
  have r0 : w (0 : Int).toNat = (qR G : Int) := hw0
  have r1 : w (1 : Int).toNat = (qC G : Int) := hw1
  have hm16 := sm4_m hG
  obtain ⟨hO, hR4, hC4⟩ := id hG
  obtain ⟨hm4, hm36⟩ := hO.m
  obtain ⟨⟨hr2, hr6⟩, ⟨hc2, hc6⟩, gL, gB, gW, gWn, gWl, gN, gNl⟩ := id hO
  intro r
  induction r using Nat.strongRecOn with
  | ind r ih =>
  intro i zs zi hr hzi k
  subst hzi
  refine R_iload rfl rfl ?_
  refine R_iload rfl rfl ?_
  refine R_icmpge rfl ⟨by omega, by omega⟩ ⟨by omega, by omega⟩ (fun c472 => ?_) (fun c472 => ?_)
  · have hr0 : r = 0 := by omega
    subst hr0
    exact k _ _ (by simp only [ctF]; omega)
  · obtain ⟨r, rfl⟩ : ∃ r1, r = r1 + 1 := ⟨r - 1, by omega⟩
    refine ks2 hZ hG hN hzm hzt hcl hm6 (i := i) (by omega) (fun zs1 hz1 => ?_)
    refine R_iload_n rfl rfl ?_
    refine R_iconst rfl ?_
    refine R_icmpne rfl ⟨by decide, by decide⟩ ⟨by decide, by decide⟩ (fun _ => ?_) (fun c0 => absurd c0 (by decide))
    refine R_iinc (lv' := [_, _, _, _, _, _, _, _, _, _, _, _, _]) rfl rfl rfl ?_
    refine R_goto rfl ?_
    exact ih r (by omega) (i + 1) _ _ (by omega) (by omega) (fun zs2 zi2 hz2 => k zs2 zi2 (by rw [hz2, hz1]; simp only [ctF]; cases pU2 G c bd i <;> simp only [tn] <;> first | omega | (simp; omega)))
set_option maxRecDepth 20000 in
theorem k2e_true {d N : Nat} {h : AH} {G : Gr} {Q : AQ} (hZ : isW h G) (hG : sm4 G) (hN : 127 ≤ N) {c m s2 : Nat} {zn zd zm zt zs zi : Int} (hzm : zm = m) (hzs : zs = s2) (hs2 : s2 ≤ m ∧ m ≤ 6) (k : Run mi_L_keeps (T (d + 3)) Q 587 [some (vI 2), some (vR 122), some (vI zn), none, some (vI (bI (true && decide (2 * s2 ≤ m)))), some (vI (c : Int)), none, none, some (vI zd), some (vI zm), some (vI zt), some (vI zs), some (vI zi)] [] h N 1 16) : Run mi_L_keeps (T (d + 3)) Q 560 [some (vI 2), some (vR 122), some (vI zn), none, some (vI (bI true)), some (vI (c : Int)), none, none, some (vI zd), some (vI zm), some (vI zt), some (vI zs), some (vI zi)] [] h N 1 16 := by
  obtain ⟨w, m0, hw0, hw1, wL, wE, wS⟩ := id hZ
  have r0 : w (0 : Int).toNat = (qR G : Int) := hw0
  have r1 : w (1 : Int).toNat = (qC G : Int) := hw1
  have hm16 := sm4_m hG
  obtain ⟨hO, hR4, hC4⟩ := id hG
  obtain ⟨hm4, hm36⟩ := hO.m
  obtain ⟨⟨hr2, hr6⟩, ⟨hc2, hc6⟩, gL, gB, gW, gWn, gWl, gN, gNl⟩ := id hO
  obtain ⟨hs3, hs4⟩ := hs2
  refine R_iload_n rfl rfl ?_
  refine R_iconst rfl ?_
  refine R_icmpne rfl ⟨by decide, by decide⟩ ⟨by decide, by decide⟩ (fun c0 => absurd c0 (by decide)) (fun _ => ?_)
  refine R_iload rfl rfl ?_
  refine R_ifeq rfl ⟨by decide, by decide⟩ (fun c0 => absurd c0 (by decide)) (fun _ => ?_)
  refine R_iload rfl rfl ?_
  refine R_iload rfl rfl ?_
  refine R_iload rfl rfl ?_
  refine R_isub rfl ?_
  refine R_icmpgt rfl ⟨by omega, by omega⟩ ⟨by omega, by omega⟩ (fun c577 => ?_) (fun c577 => ?_)
  · have hv : decide (2 * s2 ≤ m) = false := decide_eq_false (by omega)
    rw [hv] at k
    refine R_iconst rfl ?_
    refine R_istore (lv' := [_, _, _, _, _, _, _, _, _, _, _, _, _]) rfl rfl ?_
    exact k
  · have hv : decide (2 * s2 ≤ m) = true := decide_eq_true (by omega)
    rw [hv] at k
    refine R_iconst rfl ?_
    refine R_goto rfl ?_
    refine R_istore (lv' := [_, _, _, _, _, _, _, _, _, _, _, _, _]) rfl rfl ?_
    exact k
set_option maxRecDepth 20000 in
theorem k2e_false {d N : Nat} {h : AH} {G : Gr} {Q : AQ} (hZ : isW h G) (hG : sm4 G) (hN : 127 ≤ N) {c m s2 : Nat} {zn zd zm zt zs zi : Int} (hzm : zm = m) (hzs : zs = s2) (hs2 : s2 ≤ m ∧ m ≤ 6) (k : Run mi_L_keeps (T (d + 3)) Q 587 [some (vI 2), some (vR 122), some (vI zn), none, some (vI (bI (false && decide (2 * s2 ≤ m)))), some (vI (c : Int)), none, none, some (vI zd), some (vI zm), some (vI zt), some (vI zs), some (vI zi)] [] h N 1 16) : Run mi_L_keeps (T (d + 3)) Q 560 [some (vI 2), some (vR 122), some (vI zn), none, some (vI (bI false)), some (vI (c : Int)), none, none, some (vI zd), some (vI zm), some (vI zt), some (vI zs), some (vI zi)] [] h N 1 16 := by
  obtain ⟨w, m0, hw0, hw1, wL, wE, wS⟩ := id hZ
  have r0 : w (0 : Int).toNat = (qR G : Int) := hw0
  have r1 : w (1 : Int).toNat = (qC G : Int) := hw1
  have hm16 := sm4_m hG
  obtain ⟨hO, hR4, hC4⟩ := id hG
  obtain ⟨hm4, hm36⟩ := hO.m
  obtain ⟨⟨hr2, hr6⟩, ⟨hc2, hc6⟩, gL, gB, gW, gWn, gWl, gN, gNl⟩ := id hO
  obtain ⟨hs3, hs4⟩ := hs2
  refine R_iload_n rfl rfl ?_
  refine R_iconst rfl ?_
  refine R_icmpne rfl ⟨by decide, by decide⟩ ⟨by decide, by decide⟩ (fun c0 => absurd c0 (by decide)) (fun _ => ?_)
  refine R_iload rfl rfl ?_
  refine R_ifeq rfl ⟨by decide, by decide⟩ (fun _ => ?_) (fun c0 => absurd c0 (by decide))
  refine R_iconst rfl ?_
  refine R_istore (lv' := [_, _, _, _, _, _, _, _, _, _, _, _, _]) rfl rfl ?_
  exact k
set_option maxRecDepth 20000 in
theorem k2e {d N : Nat} {h : AH} {G : Gr} {Q : AQ} (hZ : isW h G) (hG : sm4 G) (hN : 127 ≤ N) {c m s2 : Nat} {b : Bool} {zn zd zm zt zs zi : Int} (hzm : zm = m) (hzs : zs = s2) (hs2 : s2 ≤ m ∧ m ≤ 6) (k : Run mi_L_keeps (T (d + 3)) Q 587 [some (vI 2), some (vR 122), some (vI zn), none, some (vI (bI (b && decide (2 * s2 ≤ m)))), some (vI (c : Int)), none, none, some (vI zd), some (vI zm), some (vI zt), some (vI zs), some (vI zi)] [] h N 1 16) : Run mi_L_keeps (T (d + 3)) Q 560 [some (vI 2), some (vR 122), some (vI zn), none, some (vI (bI b)), some (vI (c : Int)), none, none, some (vI zd), some (vI zm), some (vI zt), some (vI zs), some (vI zi)] [] h N 1 16 := by
  cases b
  · exact k2e_false hZ hG hN hzm hzs hs2 k
  · exact k2e_true hZ hG hN hzm hzs hs2 k
set_option maxRecDepth 20000 in
theorem k3s_true {d N : Nat} {h : AH} {G : Gr} {Q : AQ} (hZ : isW h G) (hG : sm4 G) (hN : 127 ≤ N) {c m : Nat} {bd : Bool} {zn zd zm zt : Int} (hzm : zm = m) (hzt : zt = sp G bd) (hcl : ∀ i, i < m → c + i * sp G bd < qM G) (hm6 : m ≤ 6) {i : Nat} {zs : Int} (hi : i < m) (k : Run mi_L_keeps (T (d + 3)) Q 554 [some (vI 3), some (vR 122), some (vI zn), none, some (vI (bI (true && pP2 G c bd i))), some (vI (c : Int)), none, none, some (vI zd), some (vI zm), some (vI zt), some (vI zs), some (vI (i : Int))] [] h N 1 16) : Run mi_L_keeps (T (d + 3)) Q 506 [some (vI 3), some (vR 122), some (vI zn), none, some (vI (bI true)), some (vI (c : Int)), none, none, some (vI zd), some (vI zm), some (vI zt), some (vI zs), some (vI (i : Int))] [] h N 1 16 := by
  obtain ⟨w, m0, hw0, hw1, wL, wE, wS⟩ := id hZ
  have r0 : w (0 : Int).toNat = (qR G : Int) := hw0
  have r1 : w (1 : Int).toNat = (qC G : Int) := hw1
  have hm16 := sm4_m hG
  obtain ⟨hO, hR4, hC4⟩ := id hG
  obtain ⟨hm4, hm36⟩ := hO.m
  obtain ⟨⟨hr2, hr6⟩, ⟨hc2, hc6⟩, gL, gB, gW, gWn, gWl, gN, gNl⟩ := id hO
  subst hzt
  refine R_iload rfl rfl ?_
  refine R_ifle rfl ⟨by omega, by omega⟩ (fun c508 => ?_) (fun c508 => ?_)
  · have hv : pP2 G c bd i = true := by
      unfold pP2
      rw [decide_eq_true (by omega)]
      rfl
    rw [hv, Bool.and_true] at k
    exact k
  · refine R_iload rfl rfl ?_
    refine R_ifeq rfl ⟨by decide, by decide⟩ (fun c0 => absurd c0 (by decide)) (fun _ => ?_)
    refine R_iload rfl rfl ?_
    refine R_iload rfl rfl ?_
    refine R_iload rfl rfl ?_
    refine R_imul rfl ?_
    refine R_iadd rfl ?_
    refine R_aload_n rfl rfl ?_
    refine R_scall rfl rfl ⟨Nat.le_of_ble_eq_true rfl, Nat.le_of_ble_eq_true rfl, Nat.le_of_ble_eq_true rfl, Nat.le_of_ble_eq_true rfl⟩ (in_T (c := c + i * sp G bd) hZ hG (by omega) rfl (hcl _ (by omega)) (fun z525 hz525 => aRes_i (rest := []) ?_))
    have hen525 := enC_2 (G := G) (x := c + i * sp G bd)
    refine R_iload rfl rfl ?_
    refine R_iload rfl rfl ?_
    refine R_iconst rfl ?_
    have hi1 : (i : Int) - 1 = ((i - 1 : Nat) : Int) := by omega
    refine R_isub rfl ?_
    rw [hi1]
    refine R_iload rfl rfl ?_
    refine R_imul rfl ?_
    refine R_iadd rfl ?_
    refine R_aload_n rfl rfl ?_
    refine R_scall rfl rfl ⟨Nat.le_of_ble_eq_true rfl, Nat.le_of_ble_eq_true rfl, Nat.le_of_ble_eq_true rfl, Nat.le_of_ble_eq_true rfl⟩ (in_T (c := c + (i - 1) * sp G bd) hZ hG (by omega) rfl (hcl _ (by omega)) (fun z539 hz539 => aRes_i (rest := [_]) ?_))
    have hen539 := enC_2 (G := G) (x := c + (i - 1) * sp G bd)
    refine R_iadd rfl ?_
    refine R_iconst rfl ?_
    refine R_icmple rfl ⟨by omega, by omega⟩ ⟨by decide, by decide⟩ (fun c544 => ?_) (fun c544 => ?_)
    · have hv : pP2 G c bd i = false := by
        unfold pP2
        rw [decide_eq_false (by omega), decide_eq_false (by omega)]
        rfl
      rw [hv] at k
      refine R_iconst rfl ?_
      refine R_istore (lv' := [_, _, _, _, _, _, _, _, _, _, _, _, _]) rfl rfl ?_
      exact k
    · have hv : pP2 G c bd i = true := by
        unfold pP2
        rw [decide_eq_false (by omega), decide_eq_true (by omega)]
        rfl
      rw [hv] at k
      refine R_iconst rfl ?_
      refine R_goto rfl ?_
      refine R_istore (lv' := [_, _, _, _, _, _, _, _, _, _, _, _, _]) rfl rfl ?_
      exact k
set_option maxRecDepth 20000 in
theorem k3s_false {d N : Nat} {h : AH} {G : Gr} {Q : AQ} (hZ : isW h G) (hG : sm4 G) (hN : 127 ≤ N) {c m : Nat} {bd : Bool} {zn zd zm zt : Int} (hzm : zm = m) (hzt : zt = sp G bd) (hcl : ∀ i, i < m → c + i * sp G bd < qM G) (hm6 : m ≤ 6) {i : Nat} {zs : Int} (hi : i < m) (k : Run mi_L_keeps (T (d + 3)) Q 554 [some (vI 3), some (vR 122), some (vI zn), none, some (vI (bI (false && pP2 G c bd i))), some (vI (c : Int)), none, none, some (vI zd), some (vI zm), some (vI zt), some (vI zs), some (vI (i : Int))] [] h N 1 16) : Run mi_L_keeps (T (d + 3)) Q 506 [some (vI 3), some (vR 122), some (vI zn), none, some (vI (bI false)), some (vI (c : Int)), none, none, some (vI zd), some (vI zm), some (vI zt), some (vI zs), some (vI (i : Int))] [] h N 1 16 := by
  obtain ⟨w, m0, hw0, hw1, wL, wE, wS⟩ := id hZ
  have r0 : w (0 : Int).toNat = (qR G : Int) := hw0
  have r1 : w (1 : Int).toNat = (qC G : Int) := hw1
  have hm16 := sm4_m hG
  obtain ⟨hO, hR4, hC4⟩ := id hG
  obtain ⟨hm4, hm36⟩ := hO.m
  obtain ⟨⟨hr2, hr6⟩, ⟨hc2, hc6⟩, gL, gB, gW, gWn, gWl, gN, gNl⟩ := id hO
  subst hzt
  refine R_iload rfl rfl ?_
  refine R_ifle rfl ⟨by omega, by omega⟩ (fun c508 => ?_) (fun c508 => ?_)
  · have hv : pP2 G c bd i = true := by
      unfold pP2
      rw [decide_eq_true (by omega)]
      rfl
    rw [hv, Bool.and_true] at k
    exact k
  · refine R_iload rfl rfl ?_
    refine R_ifeq rfl ⟨by decide, by decide⟩ (fun _ => ?_) (fun c0 => absurd c0 (by decide))
    refine R_iconst rfl ?_
    refine R_istore (lv' := [_, _, _, _, _, _, _, _, _, _, _, _, _]) rfl rfl ?_
    exact k
set_option maxRecDepth 20000 in
theorem k3s {d N : Nat} {h : AH} {G : Gr} {Q : AQ} (hZ : isW h G) (hG : sm4 G) (hN : 127 ≤ N) {c m : Nat} {bd : Bool} {zn zd zm zt : Int} (hzm : zm = m) (hzt : zt = sp G bd) (hcl : ∀ i, i < m → c + i * sp G bd < qM G) (hm6 : m ≤ 6) {i : Nat} {zs : Int} {b : Bool} (hi : i < m) (k : Run mi_L_keeps (T (d + 3)) Q 554 [some (vI 3), some (vR 122), some (vI zn), none, some (vI (bI (b && pP2 G c bd i))), some (vI (c : Int)), none, none, some (vI zd), some (vI zm), some (vI zt), some (vI zs), some (vI (i : Int))] [] h N 1 16) : Run mi_L_keeps (T (d + 3)) Q 506 [some (vI 3), some (vR 122), some (vI zn), none, some (vI (bI b)), some (vI (c : Int)), none, none, some (vI zd), some (vI zm), some (vI zt), some (vI zs), some (vI (i : Int))] [] h N 1 16 := by
  cases b
  · exact k3s_false hZ hG hN hzm hzt hcl hm6 hi k
  · exact k3s_true hZ hG hN hzm hzt hcl hm6 hi k
set_option maxRecDepth 20000 in
theorem k3_in {d N : Nat} {h : AH} {G : Gr} {Q : AQ} (hZ : isW h G) (hG : sm4 G) (hN : 127 ≤ N) {c m : Nat} {bd : Bool} {zn zd zm zt : Int} (hzm : zm = m) (hzt : zt = sp G bd) (hcl : ∀ i, i < m → c + i * sp G bd < qM G) (hm6 : m ≤ 6) : ∀ (r i : Nat) (b : Bool) (zs zi : Int), i + r = m → zi = i → (∀ (b1 : Bool) (zs1 zi1 : Int), b1 = (b && alF (pP2 G c bd) r i) → Run mi_L_keeps (T (d + 3)) Q 560 [some (vI 3), some (vR 122), some (vI zn), none, some (vI (bI b1)), some (vI (c : Int)), none, none, some (vI zd), some (vI zm), some (vI zt), some (vI zs1), some (vI zi1)] [] h N 1 16) → Run mi_L_keeps (T (d + 3)) Q 468 [some (vI 3), some (vR 122), some (vI zn), none, some (vI (bI b)), some (vI (c : Int)), none, none, some (vI zd), some (vI zm), some (vI zt), some (vI zs), some (vI zi)] [] h N 1 16 := by
  obtain ⟨w, m0, hw0, hw1, wL, wE, wS⟩ := id hZ
  have r0 : w (0 : Int).toNat = (qR G : Int) := hw0
  have r1 : w (1 : Int).toNat = (qC G : Int) := hw1
  have hm16 := sm4_m hG
  obtain ⟨hO, hR4, hC4⟩ := id hG
  obtain ⟨hm4, hm36⟩ := hO.m
  obtain ⟨⟨hr2, hr6⟩, ⟨hc2, hc6⟩, gL, gB, gW, gWn, gWl, gN, gNl⟩ := id hO
  intro r
  induction r using Nat.strongRecOn with
  | ind r ih =>
  intro i b zs zi hr hzi k
  subst hzi
  refine R_iload rfl rfl ?_
  refine R_iload rfl rfl ?_
  refine R_icmpge rfl ⟨by omega, by omega⟩ ⟨by omega, by omega⟩ (fun c472 => ?_) (fun c472 => ?_)
  · have hr0 : r = 0 := by omega
    subst hr0
    exact k _ _ _ (by simp only [alF, Bool.and_true])
  · obtain ⟨r, rfl⟩ : ∃ r1, r = r1 + 1 := ⟨r - 1, by omega⟩
    refine ks3 hZ hG hN hzm hzt hcl hm6 (i := i) (by omega) (fun zs1 hz1 => ?_)
    refine R_iload_n rfl rfl ?_
    refine R_iconst rfl ?_
    refine R_icmpne rfl ⟨by decide, by decide⟩ ⟨by decide, by decide⟩ (fun c0 => absurd c0 (by decide)) (fun _ => ?_)
    refine k3s hZ hG hN hzm hzt hcl hm6 (i := i) (by omega) ?_
    refine R_iinc (lv' := [_, _, _, _, _, _, _, _, _, _, _, _, _]) rfl rfl rfl ?_
    refine R_goto rfl ?_
    exact ih r (by omega) (i + 1) _ _ _ (by omega) (by omega) (fun b2 zs2 zi2 hb2 => k b2 zs2 zi2 (by rw [hb2]; simp only [alF, Bool.and_assoc]))
set_option maxRecDepth 20000 in
theorem k2m0 {d N : Nat} {h : AH} {G : Gr} {Q : AQ} (hZ : isW h G) (hG : sm4 G) (hN : 127 ≤ N) {c m : Nat} {b : Bool} {zn : Int} (hcl : ∀ i, i < m → c + i * sp G false < qM G) (hm6 : m ≤ 6) (k : Run mi_L_keeps (T (d + 3)) Q 587 [some (vI 2), some (vR 122), some (vI zn), none, some (vI (bI (b && decide (2 * ctF (pU2 G c false) m 0 ≤ m)))), some (vI (c : Int)), none, none, some (vI 0), none, none, none, none] [] h N 1 16) : Run mi_L_keeps (T (d + 3)) Q 446 [some (vI 2), some (vR 122), some (vI zn), none, some (vI (bI b)), some (vI (c : Int)), none, none, some (vI 0), none, none, none, none] [vI (m : Int)] h N 1 16 := by
  obtain ⟨w, m0, hw0, hw1, wL, wE, wS⟩ := id hZ
  have r0 : w (0 : Int).toNat = (qR G : Int) := hw0
  have r1 : w (1 : Int).toNat = (qC G : Int) := hw1
  have hm16 := sm4_m hG
  obtain ⟨hO, hR4, hC4⟩ := id hG
  obtain ⟨hm4, hm36⟩ := hO.m
  obtain ⟨⟨hr2, hr6⟩, ⟨hc2, hc6⟩, gL, gB, gW, gWn, gWl, gN, gNl⟩ := id hO
  refine R_istore (lv' := [_, _, _, _, _, _, _, _, _, _, _, _, _]) rfl rfl ?_
  refine R_iload rfl rfl ?_
  refine R_ifne rfl ⟨by decide, by decide⟩ (fun c0 => absurd c0 (by decide)) (fun _ => ?_)
  refine R_iconst rfl ?_
  refine R_goto rfl ?_
  refine R_istore (lv' := [_, _, _, _, _, _, _, _, _, _, _, _, _]) rfl rfl ?_
  refine R_iconst rfl ?_
  refine R_istore (lv' := [_, _, _, _, _, _, _, _, _, _, _, _, _]) rfl rfl ?_
  refine R_iconst rfl ?_
  refine R_istore (lv' := [_, _, _, _, _, _, _, _, _, _, _, _, _]) rfl rfl ?_
  refine k2_in hZ hG hN (bd := false) rfl (by first | rfl | exact r1) hcl hm6 m 0 _ _ (Nat.zero_add _) rfl (fun zs1 zi1 hz1 => ?_)
  refine k2e hZ hG hN (s2 := ctF (pU2 G c false) m 0) rfl (by rw [hz1]; omega) ⟨ct_le _ _, hm6⟩ ?_
  refine Run.lv (lv' := [_, _, _, none, _, _, none, none, _, none, none, none, none]) ?_ ⟨Or.inr rfl, Or.inr rfl, Or.inr rfl, Or.inl rfl, Or.inr rfl, Or.inr rfl, Or.inl rfl, Or.inl rfl, Or.inr rfl, Or.inl rfl, Or.inl rfl, Or.inl rfl, Or.inl rfl, trivial⟩
  exact k
set_option maxRecDepth 20000 in
theorem k2d0 {d N : Nat} {h : AH} {G : Gr} {Q : AQ} (hZ : isW h G) (hG : sm4 G) (hN : 127 ≤ N) {c : Nat} {b : Bool} {zn : Int} (hc : c < qM G) (k : Run mi_L_keeps (T (d + 3)) Q 587 [some (vI 2), some (vR 122), some (vI zn), none, some (vI (bI (b && (!st G false c || pW2 G c false)))), some (vI (c : Int)), none, none, some (vI 0), none, none, none, none] [] h N 1 16) : Run mi_L_keeps (T (d + 3)) Q 423 [some (vI 2), some (vR 122), some (vI zn), none, some (vI (bI b)), some (vI (c : Int)), none, none, some (vI 0), none, none, none, none] [] h N 1 16 := by
  obtain ⟨w, m0, hw0, hw1, wL, wE, wS⟩ := id hZ
  have r0 : w (0 : Int).toNat = (qR G : Int) := hw0
  have r1 : w (1 : Int).toNat = (qC G : Int) := hw1
  have hm16 := sm4_m hG
  obtain ⟨hO, hR4, hC4⟩ := id hG
  obtain ⟨hm4, hm36⟩ := hO.m
  obtain ⟨⟨hr2, hr6⟩, ⟨hc2, hc6⟩, gL, gB, gW, gWn, gWl, gN, gNl⟩ := id hO
  refine R_iload rfl rfl ?_
  refine R_iload rfl rfl ?_
  refine R_aload_n rfl rfl ?_
  refine R_scall rfl rfl ⟨Nat.le_of_ble_eq_true rfl, Nat.le_of_ble_eq_true rfl, Nat.le_of_ble_eq_true rfl, Nat.le_of_ble_eq_true rfl⟩ (starts_T (b := false) (c := c) hZ hG (by omega) rfl rfl hc (fun z428 hz428 => aRes_i (rest := []) ?_))
  have hs428 := bI01 (st G false c)
  rw [← hz428] at hs428
  refine R_ifeq rfl ⟨by omega, by omega⟩ (fun c431 => ?_) (fun c431 => ?_)
  · refine R_iconst rfl ?_
    have hv : st G false c = false := bI_f hz428 c431
    rw [hv] at k
    exact k2m0 hZ hG hN (m := 0) (fun i hi => absurd hi (by omega)) (by omega) k
  · refine R_iload rfl rfl ?_
    refine R_iload rfl rfl ?_
    refine R_aload_n rfl rfl ?_
    refine R_scall rfl rfl ⟨Nat.le_of_ble_eq_true rfl, Nat.le_of_ble_eq_true rfl, Nat.le_of_ble_eq_true rfl, Nat.le_of_ble_eq_true rfl⟩ (length_T (b := false) (c := c) hZ hG (by omega) rfl rfl hc (fun z439 hz439 => aRes_i (rest := []) ?_))
    
    refine R_goto rfl ?_
    have hv : st G false c = true := bI_t hz428 c431
    rw [hv] at k
    have hle : lnC G false c = ln G false c := lnC_st hO hc ((st_L hO hc).mp hv).1
    rw [hz439, hle]
    exact k2m0 hZ hG hN (m := ln G false c) (fun i hi => run_cell hO hc hi) (ln_spec hO hc).2.2.2 k
set_option maxRecDepth 20000 in
theorem k2m1 {d N : Nat} {h : AH} {G : Gr} {Q : AQ} (hZ : isW h G) (hG : sm4 G) (hN : 127 ≤ N) {c m : Nat} {b : Bool} {zn : Int} (hcl : ∀ i, i < m → c + i * sp G true < qM G) (hm6 : m ≤ 6) (k : Run mi_L_keeps (T (d + 3)) Q 587 [some (vI 2), some (vR 122), some (vI zn), none, some (vI (bI (b && decide (2 * ctF (pU2 G c true) m 0 ≤ m)))), some (vI (c : Int)), none, none, some (vI 1), none, none, none, none] [] h N 1 16) : Run mi_L_keeps (T (d + 3)) Q 446 [some (vI 2), some (vR 122), some (vI zn), none, some (vI (bI b)), some (vI (c : Int)), none, none, some (vI 1), none, none, none, none] [vI (m : Int)] h N 1 16 := by
  obtain ⟨w, m0, hw0, hw1, wL, wE, wS⟩ := id hZ
  have r0 : w (0 : Int).toNat = (qR G : Int) := hw0
  have r1 : w (1 : Int).toNat = (qC G : Int) := hw1
  have hm16 := sm4_m hG
  obtain ⟨hO, hR4, hC4⟩ := id hG
  obtain ⟨hm4, hm36⟩ := hO.m
  obtain ⟨⟨hr2, hr6⟩, ⟨hc2, hc6⟩, gL, gB, gW, gWn, gWl, gN, gNl⟩ := id hO
  refine R_istore (lv' := [_, _, _, _, _, _, _, _, _, _, _, _, _]) rfl rfl ?_
  refine R_iload rfl rfl ?_
  refine R_ifne rfl ⟨by decide, by decide⟩ (fun _ => ?_) (fun c0 => absurd c0 (by decide))
  refine R_aload_n rfl rfl ?_
  refine R_iconst rfl ?_
  refine R_iaload rfl (Or.inl (by omega)) m0 ⟨by omega, by omega, by omega⟩ ?_
  refine R_istore (lv' := [_, _, _, _, _, _, _, _, _, _, _, _, _]) rfl rfl ?_
  refine R_iconst rfl ?_
  refine R_istore (lv' := [_, _, _, _, _, _, _, _, _, _, _, _, _]) rfl rfl ?_
  refine R_iconst rfl ?_
  refine R_istore (lv' := [_, _, _, _, _, _, _, _, _, _, _, _, _]) rfl rfl ?_
  refine k2_in hZ hG hN (bd := true) rfl (by first | rfl | exact r1) hcl hm6 m 0 _ _ (Nat.zero_add _) rfl (fun zs1 zi1 hz1 => ?_)
  refine k2e hZ hG hN (s2 := ctF (pU2 G c true) m 0) rfl (by rw [hz1]; omega) ⟨ct_le _ _, hm6⟩ ?_
  refine Run.lv (lv' := [_, _, _, none, _, _, none, none, _, none, none, none, none]) ?_ ⟨Or.inr rfl, Or.inr rfl, Or.inr rfl, Or.inl rfl, Or.inr rfl, Or.inr rfl, Or.inl rfl, Or.inl rfl, Or.inr rfl, Or.inl rfl, Or.inl rfl, Or.inl rfl, Or.inl rfl, trivial⟩
  exact k
set_option maxRecDepth 20000 in
theorem k2d1 {d N : Nat} {h : AH} {G : Gr} {Q : AQ} (hZ : isW h G) (hG : sm4 G) (hN : 127 ≤ N) {c : Nat} {b : Bool} {zn : Int} (hc : c < qM G) (k : Run mi_L_keeps (T (d + 3)) Q 587 [some (vI 2), some (vR 122), some (vI zn), none, some (vI (bI (b && (!st G true c || pW2 G c true)))), some (vI (c : Int)), none, none, some (vI 1), none, none, none, none] [] h N 1 16) : Run mi_L_keeps (T (d + 3)) Q 423 [some (vI 2), some (vR 122), some (vI zn), none, some (vI (bI b)), some (vI (c : Int)), none, none, some (vI 1), none, none, none, none] [] h N 1 16 := by
  obtain ⟨w, m0, hw0, hw1, wL, wE, wS⟩ := id hZ
  have r0 : w (0 : Int).toNat = (qR G : Int) := hw0
  have r1 : w (1 : Int).toNat = (qC G : Int) := hw1
  have hm16 := sm4_m hG
  obtain ⟨hO, hR4, hC4⟩ := id hG
  obtain ⟨hm4, hm36⟩ := hO.m
  obtain ⟨⟨hr2, hr6⟩, ⟨hc2, hc6⟩, gL, gB, gW, gWn, gWl, gN, gNl⟩ := id hO
  refine R_iload rfl rfl ?_
  refine R_iload rfl rfl ?_
  refine R_aload_n rfl rfl ?_
  refine R_scall rfl rfl ⟨Nat.le_of_ble_eq_true rfl, Nat.le_of_ble_eq_true rfl, Nat.le_of_ble_eq_true rfl, Nat.le_of_ble_eq_true rfl⟩ (starts_T (b := true) (c := c) hZ hG (by omega) rfl rfl hc (fun z428 hz428 => aRes_i (rest := []) ?_))
  have hs428 := bI01 (st G true c)
  rw [← hz428] at hs428
  refine R_ifeq rfl ⟨by omega, by omega⟩ (fun c431 => ?_) (fun c431 => ?_)
  · refine R_iconst rfl ?_
    have hv : st G true c = false := bI_f hz428 c431
    rw [hv] at k
    exact k2m1 hZ hG hN (m := 0) (fun i hi => absurd hi (by omega)) (by omega) k
  · refine R_iload rfl rfl ?_
    refine R_iload rfl rfl ?_
    refine R_aload_n rfl rfl ?_
    refine R_scall rfl rfl ⟨Nat.le_of_ble_eq_true rfl, Nat.le_of_ble_eq_true rfl, Nat.le_of_ble_eq_true rfl, Nat.le_of_ble_eq_true rfl⟩ (length_T (b := true) (c := c) hZ hG (by omega) rfl rfl hc (fun z439 hz439 => aRes_i (rest := []) ?_))
    
    refine R_goto rfl ?_
    have hv : st G true c = true := bI_t hz428 c431
    rw [hv] at k
    have hle : lnC G true c = ln G true c := lnC_st hO hc ((st_L hO hc).mp hv).1
    rw [hz439, hle]
    exact k2m1 hZ hG hN (m := ln G true c) (fun i hi => run_cell hO hc hi) (ln_spec hO hc).2.2.2 k
set_option maxRecDepth 20000 in
theorem k2_loop {d N : Nat} {h : AH} {G : Gr} {Q : AQ} (hZ : isW h G) (hG : sm4 G) (hN : 127 ≤ N) {zn : Int} (hzn : zn = qM G) : ∀ (r i : Nat) (b : Bool) (zi : Int), i + r = qM G → zi = i → (∀ z : Int, z = bI (b && alF (pD G (pW2 G)) r i) → Q (.inl (some (vI z))) h N) → Run mi_L_keeps (T (d + 3)) Q 225 [some (vI 2), some (vR 122), some (vI zn), none, some (vI (bI b)), some (vI zi), none, none, none, none, none, none, none] [] h N 1 16 := by
  obtain ⟨w, m0, hw0, hw1, wL, wE, wS⟩ := id hZ
  have r0 : w (0 : Int).toNat = (qR G : Int) := hw0
  have r1 : w (1 : Int).toNat = (qC G : Int) := hw1
  have hm16 := sm4_m hG
  obtain ⟨hO, hR4, hC4⟩ := id hG
  obtain ⟨hm4, hm36⟩ := hO.m
  obtain ⟨⟨hr2, hr6⟩, ⟨hc2, hc6⟩, gL, gB, gW, gWn, gWl, gN, gNl⟩ := id hO
  intro r
  induction r using Nat.strongRecOn with
  | ind r ih =>
  intro i b zi hr hzi hQ
  subst hzi
  refine R_iload rfl rfl ?_
  refine R_iload_n rfl rfl ?_
  refine R_icmpge rfl ⟨by omega, by omega⟩ ⟨by omega, by omega⟩ (fun c228 => ?_) (fun c228 => ?_)
  · have hr0 : r = 0 := by omega
    subst hr0
    refine R_iload rfl rfl ?_
    exact R_ireturn rfl (fun _ => bI01 _) (Nat.le_of_ble_eq_true rfl) (Nat.le_of_ble_eq_true rfl) (hQ _ (by simp only [alF, Bool.and_true]))
  · obtain ⟨r, rfl⟩ : ∃ r1, r = r1 + 1 := ⟨r - 1, by omega⟩
    refine R_aload_n rfl rfl ?_
    refine R_iconst rfl ?_
    refine R_iaload rfl (Or.inl (by omega)) m0 ⟨by omega, by omega, by omega⟩ ?_
    rw [r0]
    refine R_iconst rfl ?_
    refine R_isub rfl ?_
    refine R_iload rfl rfl ?_
    refine R_aload_n rfl rfl ?_
    refine R_iconst rfl ?_
    refine R_iaload rfl (Or.inl (by omega)) m0 ⟨by omega, by omega, by omega⟩ ?_
    rw [r1]
    refine R_idiv rfl ⟨by omega, by omega, by omega, by omega⟩ ?_
    rw [show (i : Int) / (qC G : Int) = ((i / qC G : Nat) : Int) from rfl]
    refine R_isub rfl ?_
    refine R_istore (lv' := [_, _, _, _, _, _, _, _, _, _, _, _, _]) rfl rfl ?_
    refine R_aload_n rfl rfl ?_
    refine R_iconst rfl ?_
    refine R_iaload rfl (Or.inl (by omega)) m0 ⟨by omega, by omega, by omega⟩ ?_
    rw [r1]
    refine R_iconst rfl ?_
    refine R_isub rfl ?_
    refine R_iload rfl rfl ?_
    refine R_aload_n rfl rfl ?_
    refine R_iconst rfl ?_
    refine R_iaload rfl (Or.inl (by omega)) m0 ⟨by omega, by omega, by omega⟩ ?_
    rw [r1]
    refine R_irem rfl ⟨by omega, by omega, by omega, by omega⟩ ?_
    rw [show (i : Int) % (qC G : Int) = ((i % qC G : Nat) : Int) from rfl]
    refine R_isub rfl ?_
    refine R_istore (lv' := [_, _, _, _, _, _, _, _, _, _, _, _, _]) rfl rfl ?_
    refine R_iload_n rfl rfl ?_
    refine R_ifne rfl ⟨by decide, by decide⟩ (fun _ => ?_) (fun c0 => absurd c0 (by decide))
    refine R_iload_n rfl rfl ?_
    refine R_ifne rfl ⟨by decide, by decide⟩ (fun _ => ?_) (fun c0 => absurd c0 (by decide))
    refine R_iload_n rfl rfl ?_
    refine R_iconst rfl ?_
    refine R_icmpne rfl ⟨by decide, by decide⟩ ⟨by decide, by decide⟩ (fun _ => ?_) (fun c0 => absurd c0 (by decide))
    refine R_iload_n rfl rfl ?_
    refine R_iconst rfl ?_
    refine R_icmpne rfl ⟨by decide, by decide⟩ ⟨by decide, by decide⟩ (fun _ => ?_) (fun c0 => absurd c0 (by decide))
    refine R_iconst rfl ?_
    refine R_istore (lv' := [_, _, _, _, _, _, _, _, _, _, _, _, _]) rfl rfl ?_
    refine R_iload rfl rfl ?_
    refine R_iconst rfl ?_
    refine R_icmpge rfl ⟨by decide, by decide⟩ ⟨by decide, by decide⟩ (fun c0 => absurd c0 (by decide)) (fun _ => ?_)
    refine R_iload_n rfl rfl ?_
    refine R_iconst rfl ?_
    refine R_icmpeq rfl ⟨by decide, by decide⟩ ⟨by decide, by decide⟩ (fun _ => ?_) (fun c0 => absurd c0 (by decide))
    refine Run.lv (lv' := [_, _, _, none, _, _, none, none, _, none, none, none, none]) ?_ ⟨Or.inr rfl, Or.inr rfl, Or.inr rfl, Or.inl rfl, Or.inr rfl, Or.inr rfl, Or.inl rfl, Or.inl rfl, Or.inr rfl, Or.inl rfl, Or.inl rfl, Or.inl rfl, Or.inl rfl, trivial⟩
    refine k2d0 hZ hG hN (c := i) (by omega) ?_
    refine R_iinc (lv' := [_, _, _, _, _, _, _, _, _, _, _, _, _]) rfl rfl rfl ?_
    refine R_goto rfl ?_
    refine R_iload rfl rfl ?_
    refine R_iconst rfl ?_
    refine R_icmpge rfl ⟨by decide, by decide⟩ ⟨by decide, by decide⟩ (fun c0 => absurd c0 (by decide)) (fun _ => ?_)
    refine R_iload_n rfl rfl ?_
    refine R_iconst rfl ?_
    refine R_icmpeq rfl ⟨by decide, by decide⟩ ⟨by decide, by decide⟩ (fun _ => ?_) (fun c0 => absurd c0 (by decide))
    refine k2d1 hZ hG hN (c := i) (by omega) ?_
    refine R_iinc (lv' := [_, _, _, _, _, _, _, _, _, _, _, _, _]) rfl rfl rfl ?_
    refine R_goto rfl ?_
    refine R_iload rfl rfl ?_
    refine R_iconst rfl ?_
    refine R_icmpge rfl ⟨by decide, by decide⟩ ⟨by decide, by decide⟩ (fun _ => ?_) (fun c0 => absurd c0 (by decide))
    refine R_iinc (lv' := [_, _, _, _, _, _, _, _, _, _, _, _, _]) rfl rfl rfl ?_
    refine R_goto rfl ?_
    refine Run.lv (lv' := [_, _, _, none, _, _, none, none, none, none, none, none, none]) ?_ ⟨Or.inr rfl, Or.inr rfl, Or.inr rfl, Or.inl rfl, Or.inr rfl, Or.inr rfl, Or.inl rfl, Or.inl rfl, Or.inl rfl, Or.inl rfl, Or.inl rfl, Or.inl rfl, Or.inl rfl, trivial⟩
    exact ih r (by omega) (i + 1) _ _ (by omega) (by omega) (fun z hz => hQ z (by rw [hz]; simp only [alF, pD, Bool.and_assoc]))
set_option maxRecDepth 20000 in
theorem k3m0 {d N : Nat} {h : AH} {G : Gr} {Q : AQ} (hZ : isW h G) (hG : sm4 G) (hN : 127 ≤ N) {c m : Nat} {b : Bool} {zn : Int} (hcl : ∀ i, i < m → c + i * sp G false < qM G) (hm6 : m ≤ 6) (k : Run mi_L_keeps (T (d + 3)) Q 587 [some (vI 3), some (vR 122), some (vI zn), none, some (vI (bI (b && alF (pP2 G c false) m 0))), some (vI (c : Int)), none, none, some (vI 0), none, none, none, none] [] h N 1 16) : Run mi_L_keeps (T (d + 3)) Q 446 [some (vI 3), some (vR 122), some (vI zn), none, some (vI (bI b)), some (vI (c : Int)), none, none, some (vI 0), none, none, none, none] [vI (m : Int)] h N 1 16 := by
  obtain ⟨w, m0, hw0, hw1, wL, wE, wS⟩ := id hZ
  have r0 : w (0 : Int).toNat = (qR G : Int) := hw0
  have r1 : w (1 : Int).toNat = (qC G : Int) := hw1
  have hm16 := sm4_m hG
  obtain ⟨hO, hR4, hC4⟩ := id hG
  obtain ⟨hm4, hm36⟩ := hO.m
  obtain ⟨⟨hr2, hr6⟩, ⟨hc2, hc6⟩, gL, gB, gW, gWn, gWl, gN, gNl⟩ := id hO
  refine R_istore (lv' := [_, _, _, _, _, _, _, _, _, _, _, _, _]) rfl rfl ?_
  refine R_iload rfl rfl ?_
  refine R_ifne rfl ⟨by decide, by decide⟩ (fun c0 => absurd c0 (by decide)) (fun _ => ?_)
  refine R_iconst rfl ?_
  refine R_goto rfl ?_
  refine R_istore (lv' := [_, _, _, _, _, _, _, _, _, _, _, _, _]) rfl rfl ?_
  refine R_iconst rfl ?_
  refine R_istore (lv' := [_, _, _, _, _, _, _, _, _, _, _, _, _]) rfl rfl ?_
  refine R_iconst rfl ?_
  refine R_istore (lv' := [_, _, _, _, _, _, _, _, _, _, _, _, _]) rfl rfl ?_
  refine k3_in hZ hG hN (bd := false) rfl (by first | rfl | exact r1) hcl hm6 m 0 b _ _ (Nat.zero_add _) rfl (fun b1 zs1 zi1 hb1 => ?_)
  refine R_iload_n rfl rfl ?_
  refine R_iconst rfl ?_
  refine R_icmpne rfl ⟨by decide, by decide⟩ ⟨by decide, by decide⟩ (fun _ => ?_) (fun c0 => absurd c0 (by decide))
  refine Run.lv (lv' := [_, _, _, none, _, _, none, none, _, none, none, none, none]) ?_ ⟨Or.inr rfl, Or.inr rfl, Or.inr rfl, Or.inl rfl, Or.inr rfl, Or.inr rfl, Or.inl rfl, Or.inl rfl, Or.inr rfl, Or.inl rfl, Or.inl rfl, Or.inl rfl, Or.inl rfl, trivial⟩
  rw [hb1]
  exact k
set_option maxRecDepth 20000 in
theorem k3d0 {d N : Nat} {h : AH} {G : Gr} {Q : AQ} (hZ : isW h G) (hG : sm4 G) (hN : 127 ≤ N) {c : Nat} {b : Bool} {zn : Int} (hc : c < qM G) (k : Run mi_L_keeps (T (d + 3)) Q 587 [some (vI 3), some (vR 122), some (vI zn), none, some (vI (bI (b && (!st G false c || pP3 G c false)))), some (vI (c : Int)), none, none, some (vI 0), none, none, none, none] [] h N 1 16) : Run mi_L_keeps (T (d + 3)) Q 423 [some (vI 3), some (vR 122), some (vI zn), none, some (vI (bI b)), some (vI (c : Int)), none, none, some (vI 0), none, none, none, none] [] h N 1 16 := by
  obtain ⟨w, m0, hw0, hw1, wL, wE, wS⟩ := id hZ
  have r0 : w (0 : Int).toNat = (qR G : Int) := hw0
  have r1 : w (1 : Int).toNat = (qC G : Int) := hw1
  have hm16 := sm4_m hG
  obtain ⟨hO, hR4, hC4⟩ := id hG
  obtain ⟨hm4, hm36⟩ := hO.m
  obtain ⟨⟨hr2, hr6⟩, ⟨hc2, hc6⟩, gL, gB, gW, gWn, gWl, gN, gNl⟩ := id hO
  refine R_iload rfl rfl ?_
  refine R_iload rfl rfl ?_
  refine R_aload_n rfl rfl ?_
  refine R_scall rfl rfl ⟨Nat.le_of_ble_eq_true rfl, Nat.le_of_ble_eq_true rfl, Nat.le_of_ble_eq_true rfl, Nat.le_of_ble_eq_true rfl⟩ (starts_T (b := false) (c := c) hZ hG (by omega) rfl rfl hc (fun z428 hz428 => aRes_i (rest := []) ?_))
  have hs428 := bI01 (st G false c)
  rw [← hz428] at hs428
  refine R_ifeq rfl ⟨by omega, by omega⟩ (fun c431 => ?_) (fun c431 => ?_)
  · refine R_iconst rfl ?_
    have hv : st G false c = false := bI_f hz428 c431
    rw [hv] at k
    exact k3m0 hZ hG hN (m := 0) (fun i hi => absurd hi (by omega)) (by omega) k
  · refine R_iload rfl rfl ?_
    refine R_iload rfl rfl ?_
    refine R_aload_n rfl rfl ?_
    refine R_scall rfl rfl ⟨Nat.le_of_ble_eq_true rfl, Nat.le_of_ble_eq_true rfl, Nat.le_of_ble_eq_true rfl, Nat.le_of_ble_eq_true rfl⟩ (length_T (b := false) (c := c) hZ hG (by omega) rfl rfl hc (fun z439 hz439 => aRes_i (rest := []) ?_))
    
    refine R_goto rfl ?_
    have hv : st G false c = true := bI_t hz428 c431
    rw [hv] at k
    have hle : lnC G false c = ln G false c := lnC_st hO hc ((st_L hO hc).mp hv).1
    rw [hz439, hle]
    exact k3m0 hZ hG hN (m := ln G false c) (fun i hi => run_cell hO hc hi) (ln_spec hO hc).2.2.2 k
set_option maxRecDepth 20000 in
theorem k3m1 {d N : Nat} {h : AH} {G : Gr} {Q : AQ} (hZ : isW h G) (hG : sm4 G) (hN : 127 ≤ N) {c m : Nat} {b : Bool} {zn : Int} (hcl : ∀ i, i < m → c + i * sp G true < qM G) (hm6 : m ≤ 6) (k : Run mi_L_keeps (T (d + 3)) Q 587 [some (vI 3), some (vR 122), some (vI zn), none, some (vI (bI (b && alF (pP2 G c true) m 0))), some (vI (c : Int)), none, none, some (vI 1), none, none, none, none] [] h N 1 16) : Run mi_L_keeps (T (d + 3)) Q 446 [some (vI 3), some (vR 122), some (vI zn), none, some (vI (bI b)), some (vI (c : Int)), none, none, some (vI 1), none, none, none, none] [vI (m : Int)] h N 1 16 := by
  obtain ⟨w, m0, hw0, hw1, wL, wE, wS⟩ := id hZ
  have r0 : w (0 : Int).toNat = (qR G : Int) := hw0
  have r1 : w (1 : Int).toNat = (qC G : Int) := hw1
  have hm16 := sm4_m hG
  obtain ⟨hO, hR4, hC4⟩ := id hG
  obtain ⟨hm4, hm36⟩ := hO.m
  obtain ⟨⟨hr2, hr6⟩, ⟨hc2, hc6⟩, gL, gB, gW, gWn, gWl, gN, gNl⟩ := id hO
  refine R_istore (lv' := [_, _, _, _, _, _, _, _, _, _, _, _, _]) rfl rfl ?_
  refine R_iload rfl rfl ?_
  refine R_ifne rfl ⟨by decide, by decide⟩ (fun _ => ?_) (fun c0 => absurd c0 (by decide))
  refine R_aload_n rfl rfl ?_
  refine R_iconst rfl ?_
  refine R_iaload rfl (Or.inl (by omega)) m0 ⟨by omega, by omega, by omega⟩ ?_
  refine R_istore (lv' := [_, _, _, _, _, _, _, _, _, _, _, _, _]) rfl rfl ?_
  refine R_iconst rfl ?_
  refine R_istore (lv' := [_, _, _, _, _, _, _, _, _, _, _, _, _]) rfl rfl ?_
  refine R_iconst rfl ?_
  refine R_istore (lv' := [_, _, _, _, _, _, _, _, _, _, _, _, _]) rfl rfl ?_
  refine k3_in hZ hG hN (bd := true) rfl (by first | rfl | exact r1) hcl hm6 m 0 b _ _ (Nat.zero_add _) rfl (fun b1 zs1 zi1 hb1 => ?_)
  refine R_iload_n rfl rfl ?_
  refine R_iconst rfl ?_
  refine R_icmpne rfl ⟨by decide, by decide⟩ ⟨by decide, by decide⟩ (fun _ => ?_) (fun c0 => absurd c0 (by decide))
  refine Run.lv (lv' := [_, _, _, none, _, _, none, none, _, none, none, none, none]) ?_ ⟨Or.inr rfl, Or.inr rfl, Or.inr rfl, Or.inl rfl, Or.inr rfl, Or.inr rfl, Or.inl rfl, Or.inl rfl, Or.inr rfl, Or.inl rfl, Or.inl rfl, Or.inl rfl, Or.inl rfl, trivial⟩
  rw [hb1]
  exact k
set_option maxRecDepth 20000 in
theorem k3d1 {d N : Nat} {h : AH} {G : Gr} {Q : AQ} (hZ : isW h G) (hG : sm4 G) (hN : 127 ≤ N) {c : Nat} {b : Bool} {zn : Int} (hc : c < qM G) (k : Run mi_L_keeps (T (d + 3)) Q 587 [some (vI 3), some (vR 122), some (vI zn), none, some (vI (bI (b && (!st G true c || pP3 G c true)))), some (vI (c : Int)), none, none, some (vI 1), none, none, none, none] [] h N 1 16) : Run mi_L_keeps (T (d + 3)) Q 423 [some (vI 3), some (vR 122), some (vI zn), none, some (vI (bI b)), some (vI (c : Int)), none, none, some (vI 1), none, none, none, none] [] h N 1 16 := by
  obtain ⟨w, m0, hw0, hw1, wL, wE, wS⟩ := id hZ
  have r0 : w (0 : Int).toNat = (qR G : Int) := hw0
  have r1 : w (1 : Int).toNat = (qC G : Int) := hw1
  have hm16 := sm4_m hG
  obtain ⟨hO, hR4, hC4⟩ := id hG
  obtain ⟨hm4, hm36⟩ := hO.m
  obtain ⟨⟨hr2, hr6⟩, ⟨hc2, hc6⟩, gL, gB, gW, gWn, gWl, gN, gNl⟩ := id hO
  refine R_iload rfl rfl ?_
  refine R_iload rfl rfl ?_
  refine R_aload_n rfl rfl ?_
  refine R_scall rfl rfl ⟨Nat.le_of_ble_eq_true rfl, Nat.le_of_ble_eq_true rfl, Nat.le_of_ble_eq_true rfl, Nat.le_of_ble_eq_true rfl⟩ (starts_T (b := true) (c := c) hZ hG (by omega) rfl rfl hc (fun z428 hz428 => aRes_i (rest := []) ?_))
  have hs428 := bI01 (st G true c)
  rw [← hz428] at hs428
  refine R_ifeq rfl ⟨by omega, by omega⟩ (fun c431 => ?_) (fun c431 => ?_)
  · refine R_iconst rfl ?_
    have hv : st G true c = false := bI_f hz428 c431
    rw [hv] at k
    exact k3m1 hZ hG hN (m := 0) (fun i hi => absurd hi (by omega)) (by omega) k
  · refine R_iload rfl rfl ?_
    refine R_iload rfl rfl ?_
    refine R_aload_n rfl rfl ?_
    refine R_scall rfl rfl ⟨Nat.le_of_ble_eq_true rfl, Nat.le_of_ble_eq_true rfl, Nat.le_of_ble_eq_true rfl, Nat.le_of_ble_eq_true rfl⟩ (length_T (b := true) (c := c) hZ hG (by omega) rfl rfl hc (fun z439 hz439 => aRes_i (rest := []) ?_))
    
    refine R_goto rfl ?_
    have hv : st G true c = true := bI_t hz428 c431
    rw [hv] at k
    have hle : lnC G true c = ln G true c := lnC_st hO hc ((st_L hO hc).mp hv).1
    rw [hz439, hle]
    exact k3m1 hZ hG hN (m := ln G true c) (fun i hi => run_cell hO hc hi) (ln_spec hO hc).2.2.2 k
set_option maxRecDepth 20000 in
theorem k3_loop {d N : Nat} {h : AH} {G : Gr} {Q : AQ} (hZ : isW h G) (hG : sm4 G) (hN : 127 ≤ N) {zn : Int} (hzn : zn = qM G) : ∀ (r i : Nat) (b : Bool) (zi : Int), i + r = qM G → zi = i → (∀ z : Int, z = bI (b && alF (pD G (pP3 G)) r i) → Q (.inl (some (vI z))) h N) → Run mi_L_keeps (T (d + 3)) Q 225 [some (vI 3), some (vR 122), some (vI zn), none, some (vI (bI b)), some (vI zi), none, none, none, none, none, none, none] [] h N 1 16 := by
  obtain ⟨w, m0, hw0, hw1, wL, wE, wS⟩ := id hZ
  have r0 : w (0 : Int).toNat = (qR G : Int) := hw0
  have r1 : w (1 : Int).toNat = (qC G : Int) := hw1
  have hm16 := sm4_m hG
  obtain ⟨hO, hR4, hC4⟩ := id hG
  obtain ⟨hm4, hm36⟩ := hO.m
  obtain ⟨⟨hr2, hr6⟩, ⟨hc2, hc6⟩, gL, gB, gW, gWn, gWl, gN, gNl⟩ := id hO
  intro r
  induction r using Nat.strongRecOn with
  | ind r ih =>
  intro i b zi hr hzi hQ
  subst hzi
  refine R_iload rfl rfl ?_
  refine R_iload_n rfl rfl ?_
  refine R_icmpge rfl ⟨by omega, by omega⟩ ⟨by omega, by omega⟩ (fun c228 => ?_) (fun c228 => ?_)
  · have hr0 : r = 0 := by omega
    subst hr0
    refine R_iload rfl rfl ?_
    exact R_ireturn rfl (fun _ => bI01 _) (Nat.le_of_ble_eq_true rfl) (Nat.le_of_ble_eq_true rfl) (hQ _ (by simp only [alF, Bool.and_true]))
  · obtain ⟨r, rfl⟩ : ∃ r1, r = r1 + 1 := ⟨r - 1, by omega⟩
    refine R_aload_n rfl rfl ?_
    refine R_iconst rfl ?_
    refine R_iaload rfl (Or.inl (by omega)) m0 ⟨by omega, by omega, by omega⟩ ?_
    rw [r0]
    refine R_iconst rfl ?_
    refine R_isub rfl ?_
    refine R_iload rfl rfl ?_
    refine R_aload_n rfl rfl ?_
    refine R_iconst rfl ?_
    refine R_iaload rfl (Or.inl (by omega)) m0 ⟨by omega, by omega, by omega⟩ ?_
    rw [r1]
    refine R_idiv rfl ⟨by omega, by omega, by omega, by omega⟩ ?_
    rw [show (i : Int) / (qC G : Int) = ((i / qC G : Nat) : Int) from rfl]
    refine R_isub rfl ?_
    refine R_istore (lv' := [_, _, _, _, _, _, _, _, _, _, _, _, _]) rfl rfl ?_
    refine R_aload_n rfl rfl ?_
    refine R_iconst rfl ?_
    refine R_iaload rfl (Or.inl (by omega)) m0 ⟨by omega, by omega, by omega⟩ ?_
    rw [r1]
    refine R_iconst rfl ?_
    refine R_isub rfl ?_
    refine R_iload rfl rfl ?_
    refine R_aload_n rfl rfl ?_
    refine R_iconst rfl ?_
    refine R_iaload rfl (Or.inl (by omega)) m0 ⟨by omega, by omega, by omega⟩ ?_
    rw [r1]
    refine R_irem rfl ⟨by omega, by omega, by omega, by omega⟩ ?_
    rw [show (i : Int) % (qC G : Int) = ((i % qC G : Nat) : Int) from rfl]
    refine R_isub rfl ?_
    refine R_istore (lv' := [_, _, _, _, _, _, _, _, _, _, _, _, _]) rfl rfl ?_
    refine R_iload_n rfl rfl ?_
    refine R_ifne rfl ⟨by decide, by decide⟩ (fun _ => ?_) (fun c0 => absurd c0 (by decide))
    refine R_iload_n rfl rfl ?_
    refine R_ifne rfl ⟨by decide, by decide⟩ (fun _ => ?_) (fun c0 => absurd c0 (by decide))
    refine R_iload_n rfl rfl ?_
    refine R_iconst rfl ?_
    refine R_icmpne rfl ⟨by decide, by decide⟩ ⟨by decide, by decide⟩ (fun _ => ?_) (fun c0 => absurd c0 (by decide))
    refine R_iload_n rfl rfl ?_
    refine R_iconst rfl ?_
    refine R_icmpne rfl ⟨by decide, by decide⟩ ⟨by decide, by decide⟩ (fun _ => ?_) (fun c0 => absurd c0 (by decide))
    refine R_iconst rfl ?_
    refine R_istore (lv' := [_, _, _, _, _, _, _, _, _, _, _, _, _]) rfl rfl ?_
    refine R_iload rfl rfl ?_
    refine R_iconst rfl ?_
    refine R_icmpge rfl ⟨by decide, by decide⟩ ⟨by decide, by decide⟩ (fun c0 => absurd c0 (by decide)) (fun _ => ?_)
    refine R_iload_n rfl rfl ?_
    refine R_iconst rfl ?_
    refine R_icmpeq rfl ⟨by decide, by decide⟩ ⟨by decide, by decide⟩ (fun c0 => absurd c0 (by decide)) (fun _ => ?_)
    refine R_iload_n rfl rfl ?_
    refine R_iconst rfl ?_
    refine R_icmpne rfl ⟨by decide, by decide⟩ ⟨by decide, by decide⟩ (fun c0 => absurd c0 (by decide)) (fun _ => ?_)
    refine Run.lv (lv' := [_, _, _, none, _, _, none, none, _, none, none, none, none]) ?_ ⟨Or.inr rfl, Or.inr rfl, Or.inr rfl, Or.inl rfl, Or.inr rfl, Or.inr rfl, Or.inl rfl, Or.inl rfl, Or.inr rfl, Or.inl rfl, Or.inl rfl, Or.inl rfl, Or.inl rfl, trivial⟩
    refine k3d0 hZ hG hN (c := i) (by omega) ?_
    refine R_iinc (lv' := [_, _, _, _, _, _, _, _, _, _, _, _, _]) rfl rfl rfl ?_
    refine R_goto rfl ?_
    refine R_iload rfl rfl ?_
    refine R_iconst rfl ?_
    refine R_icmpge rfl ⟨by decide, by decide⟩ ⟨by decide, by decide⟩ (fun c0 => absurd c0 (by decide)) (fun _ => ?_)
    refine R_iload_n rfl rfl ?_
    refine R_iconst rfl ?_
    refine R_icmpeq rfl ⟨by decide, by decide⟩ ⟨by decide, by decide⟩ (fun c0 => absurd c0 (by decide)) (fun _ => ?_)
    refine R_iload_n rfl rfl ?_
    refine R_iconst rfl ?_
    refine R_icmpne rfl ⟨by decide, by decide⟩ ⟨by decide, by decide⟩ (fun c0 => absurd c0 (by decide)) (fun _ => ?_)
    refine k3d1 hZ hG hN (c := i) (by omega) ?_
    refine R_iinc (lv' := [_, _, _, _, _, _, _, _, _, _, _, _, _]) rfl rfl rfl ?_
    refine R_goto rfl ?_
    refine R_iload rfl rfl ?_
    refine R_iconst rfl ?_
    refine R_icmpge rfl ⟨by decide, by decide⟩ ⟨by decide, by decide⟩ (fun _ => ?_) (fun c0 => absurd c0 (by decide))
    refine R_iinc (lv' := [_, _, _, _, _, _, _, _, _, _, _, _, _]) rfl rfl rfl ?_
    refine R_goto rfl ?_
    refine Run.lv (lv' := [_, _, _, none, _, _, none, none, none, none, none, none, none]) ?_ ⟨Or.inr rfl, Or.inr rfl, Or.inr rfl, Or.inl rfl, Or.inr rfl, Or.inr rfl, Or.inl rfl, Or.inl rfl, Or.inl rfl, Or.inl rfl, Or.inl rfl, Or.inl rfl, Or.inl rfl, trivial⟩
    exact ih r (by omega) (i + 1) _ _ (by omega) (by omega) (fun z hz => hQ z (by rw [hz]; simp only [alF, pD, Bool.and_assoc]))
set_option maxRecDepth 20000 in
theorem k0_17 {d N : Nat} {h : AH} {G : Gr} {Q : AQ} (hZ : isW h G) (hG : sm4 G) (hN : 127 ≤ N) {zn : Int} {a : Nat} (hzn : zn = qM G) (hQ : ∀ z : Int, z = bI (ruG G 0) → Q (.inl (some (vI z))) h N) : Run mi_L_keeps (T (d + 3)) Q 17 [some (vI 0), some (vR 122), some (vI zn), some (vR a), none, none, none, none, none, none, none, none, none] [] h N 1 16 := by
  obtain ⟨w, m0, hw0, hw1, wL, wE, wS⟩ := id hZ
  have r0 : w (0 : Int).toNat = (qR G : Int) := hw0
  have r1 : w (1 : Int).toNat = (qC G : Int) := hw1
  have hm16 := sm4_m hG
  obtain ⟨hO, hR4, hC4⟩ := id hG
  obtain ⟨hm4, hm36⟩ := hO.m
  obtain ⟨⟨hr2, hr6⟩, ⟨hc2, hc6⟩, gL, gB, gW, gWn, gWl, gN, gNl⟩ := id hO
  refine R_iconst rfl ?_
  refine R_istore (lv' := [_, _, _, _, _, _, _, _, _, _, _, _, _]) rfl rfl ?_
  refine R_iconst rfl ?_
  refine R_istore (lv' := [_, _, _, _, _, _, _, _, _, _, _, _, _]) rfl rfl ?_
  refine R_iload rfl rfl ?_
  refine R_iload_n rfl rfl ?_
  refine R_icmpge rfl ⟨by decide, by decide⟩ ⟨by omega, by omega⟩ (fun c26 => ?_) (fun c26 => ?_)
  · refine Run.lv (lv' := [_, _, _, none, _, none, none, none, none, none, none, none, none]) ?_ ⟨Or.inr rfl, Or.inr rfl, Or.inr rfl, Or.inl rfl, Or.inr rfl, Or.inl rfl, Or.inl rfl, Or.inl rfl, Or.inl rfl, Or.inl rfl, Or.inl rfl, Or.inl rfl, Or.inl rfl, trivial⟩
    refine R_iconst rfl ?_
    refine R_istore (lv' := [_, _, _, _, _, _, _, _, _, _, _, _, _]) rfl rfl ?_
    exact k0_loop hZ hG hN hzn (qM G) 0 true _ (Nat.zero_add _) rfl (fun z hz => hQ z (by rw [hz, Bool.true_and, tm_eq hO]; rfl))
  · refine R_iload_n rfl rfl ?_
    refine R_iconst rfl ?_
    refine R_icmpne rfl ⟨by decide, by decide⟩ ⟨by decide, by decide⟩ (fun _ => ?_) (fun c0 => absurd c0 (by decide))
    refine Run.lv (lv' := [_, _, _, none, _, none, none, none, none, none, none, none, none]) ?_ ⟨Or.inr rfl, Or.inr rfl, Or.inr rfl, Or.inl rfl, Or.inr rfl, Or.inl rfl, Or.inl rfl, Or.inl rfl, Or.inl rfl, Or.inl rfl, Or.inl rfl, Or.inl rfl, Or.inl rfl, trivial⟩
    refine R_iconst rfl ?_
    refine R_istore (lv' := [_, _, _, _, _, _, _, _, _, _, _, _, _]) rfl rfl ?_
    exact k0_loop hZ hG hN hzn (qM G) 0 true _ (Nat.zero_add _) rfl (fun z hz => hQ z (by rw [hz, Bool.true_and, tm_eq hO]; rfl))
set_option maxRecDepth 20000 in
theorem k0_12 {d N : Nat} {h : AH} {G : Gr} {Q : AQ} (hZ : isW h G) (hG : sm4 G) (hN : 127 ≤ N) {zn : Int} {a : Nat} (hre : h a = eI 16 (fun _ => 0)) (haN : a < N ∧ 126 ≤ a) (hzn : zn = qM G) (hQ : ∀ (z : Int) (h1 : AH), z = bI (ruG G 0) → (∀ j, j ≠ a → h1 j = h j) → (∃ f, h1 a = eI 16 f) → Q (.inl (some (vI z))) h1 N) : Run mi_L_keeps (T (d + 3)) Q 12 [some (vI 0), some (vR 122), some (vI zn), none, none, none, none, none, none, none, none, none, none] [vR a] h N 1 16 := by
  obtain ⟨w, m0, hw0, hw1, wL, wE, wS⟩ := id hZ
  have r0 : w (0 : Int).toNat = (qR G : Int) := hw0
  have r1 : w (1 : Int).toNat = (qC G : Int) := hw1
  have hm16 := sm4_m hG
  obtain ⟨hO, hR4, hC4⟩ := id hG
  obtain ⟨hm4, hm36⟩ := hO.m
  obtain ⟨⟨hr2, hr6⟩, ⟨hc2, hc6⟩, gL, gB, gW, gWn, gWl, gN, gNl⟩ := id hO
  obtain ⟨haN1, haN2⟩ := id haN
  refine R_astore_n (lv' := [_, _, _, _, _, _, _, _, _, _, _, _, _]) rfl rfl ?_
  refine R_aload_n rfl rfl ?_
  refine R_iconst rfl ?_
  refine R_iconst rfl ?_
  refine R_iastore rfl (by omega) hre ⟨by omega, by omega, by omega⟩ ?_
  exact k0_17 (isW_fr hZ (va_up_ne _ _ (by omega))) hG hN hzn (fun z hz => hQ z (va_up h a _) hz (fun j hj => va_up_ne _ _ hj) ⟨_, va_up_self _ _ _⟩)
set_option maxRecDepth 20000 in
theorem k1_17 {d N : Nat} {h : AH} {G : Gr} {Q : AQ} (hZ : isW h G) (hG : sm4 G) (hN : 127 ≤ N) {zn : Int} {a : Nat} (hzn : zn = qM G) (hQ : ∀ z : Int, z = bI (ruG G 1) → Q (.inl (some (vI z))) h N) : Run mi_L_keeps (T (d + 3)) Q 17 [some (vI 1), some (vR 122), some (vI zn), some (vR a), none, none, none, none, none, none, none, none, none] [] h N 1 16 := by
  obtain ⟨w, m0, hw0, hw1, wL, wE, wS⟩ := id hZ
  have r0 : w (0 : Int).toNat = (qR G : Int) := hw0
  have r1 : w (1 : Int).toNat = (qC G : Int) := hw1
  have hm16 := sm4_m hG
  obtain ⟨hO, hR4, hC4⟩ := id hG
  obtain ⟨hm4, hm36⟩ := hO.m
  obtain ⟨⟨hr2, hr6⟩, ⟨hc2, hc6⟩, gL, gB, gW, gWn, gWl, gN, gNl⟩ := id hO
  refine R_iconst rfl ?_
  refine R_istore (lv' := [_, _, _, _, _, _, _, _, _, _, _, _, _]) rfl rfl ?_
  refine R_iconst rfl ?_
  refine R_istore (lv' := [_, _, _, _, _, _, _, _, _, _, _, _, _]) rfl rfl ?_
  refine R_iload rfl rfl ?_
  refine R_iload_n rfl rfl ?_
  refine R_icmpge rfl ⟨by decide, by decide⟩ ⟨by omega, by omega⟩ (fun c26 => ?_) (fun c26 => ?_)
  · refine Run.lv (lv' := [_, _, _, none, _, none, none, none, none, none, none, none, none]) ?_ ⟨Or.inr rfl, Or.inr rfl, Or.inr rfl, Or.inl rfl, Or.inr rfl, Or.inl rfl, Or.inl rfl, Or.inl rfl, Or.inl rfl, Or.inl rfl, Or.inl rfl, Or.inl rfl, Or.inl rfl, trivial⟩
    refine R_iconst rfl ?_
    refine R_istore (lv' := [_, _, _, _, _, _, _, _, _, _, _, _, _]) rfl rfl ?_
    exact k1_loop hZ hG hN hzn (qM G) 0 true _ (Nat.zero_add _) rfl (fun z hz => hQ z (by rw [hz, Bool.true_and, in_all]; rfl))
  · refine R_iload_n rfl rfl ?_
    refine R_iconst rfl ?_
    refine R_icmpne rfl ⟨by decide, by decide⟩ ⟨by decide, by decide⟩ (fun _ => ?_) (fun c0 => absurd c0 (by decide))
    refine Run.lv (lv' := [_, _, _, none, _, none, none, none, none, none, none, none, none]) ?_ ⟨Or.inr rfl, Or.inr rfl, Or.inr rfl, Or.inl rfl, Or.inr rfl, Or.inl rfl, Or.inl rfl, Or.inl rfl, Or.inl rfl, Or.inl rfl, Or.inl rfl, Or.inl rfl, Or.inl rfl, trivial⟩
    refine R_iconst rfl ?_
    refine R_istore (lv' := [_, _, _, _, _, _, _, _, _, _, _, _, _]) rfl rfl ?_
    exact k1_loop hZ hG hN hzn (qM G) 0 true _ (Nat.zero_add _) rfl (fun z hz => hQ z (by rw [hz, Bool.true_and, in_all]; rfl))
set_option maxRecDepth 20000 in
theorem k1_12 {d N : Nat} {h : AH} {G : Gr} {Q : AQ} (hZ : isW h G) (hG : sm4 G) (hN : 127 ≤ N) {zn : Int} {a : Nat} (hre : h a = eI 16 (fun _ => 0)) (haN : a < N ∧ 126 ≤ a) (hzn : zn = qM G) (hQ : ∀ (z : Int) (h1 : AH), z = bI (ruG G 1) → (∀ j, j ≠ a → h1 j = h j) → (∃ f, h1 a = eI 16 f) → Q (.inl (some (vI z))) h1 N) : Run mi_L_keeps (T (d + 3)) Q 12 [some (vI 1), some (vR 122), some (vI zn), none, none, none, none, none, none, none, none, none, none] [vR a] h N 1 16 := by
  obtain ⟨w, m0, hw0, hw1, wL, wE, wS⟩ := id hZ
  have r0 : w (0 : Int).toNat = (qR G : Int) := hw0
  have r1 : w (1 : Int).toNat = (qC G : Int) := hw1
  have hm16 := sm4_m hG
  obtain ⟨hO, hR4, hC4⟩ := id hG
  obtain ⟨hm4, hm36⟩ := hO.m
  obtain ⟨⟨hr2, hr6⟩, ⟨hc2, hc6⟩, gL, gB, gW, gWn, gWl, gN, gNl⟩ := id hO
  obtain ⟨haN1, haN2⟩ := id haN
  refine R_astore_n (lv' := [_, _, _, _, _, _, _, _, _, _, _, _, _]) rfl rfl ?_
  refine R_aload_n rfl rfl ?_
  refine R_iconst rfl ?_
  refine R_iconst rfl ?_
  refine R_iastore rfl (by omega) hre ⟨by omega, by omega, by omega⟩ ?_
  exact k1_17 (isW_fr hZ (va_up_ne _ _ (by omega))) hG hN hzn (fun z hz => hQ z (va_up h a _) hz (fun j hj => va_up_ne _ _ hj) ⟨_, va_up_self _ _ _⟩)
set_option maxRecDepth 20000 in
theorem k2_17 {d N : Nat} {h : AH} {G : Gr} {Q : AQ} (hZ : isW h G) (hG : sm4 G) (hN : 127 ≤ N) {zn : Int} {a : Nat} (hzn : zn = qM G) (hQ : ∀ z : Int, z = bI (ruG G 2) → Q (.inl (some (vI z))) h N) : Run mi_L_keeps (T (d + 3)) Q 17 [some (vI 2), some (vR 122), some (vI zn), some (vR a), none, none, none, none, none, none, none, none, none] [] h N 1 16 := by
  obtain ⟨w, m0, hw0, hw1, wL, wE, wS⟩ := id hZ
  have r0 : w (0 : Int).toNat = (qR G : Int) := hw0
  have r1 : w (1 : Int).toNat = (qC G : Int) := hw1
  have hm16 := sm4_m hG
  obtain ⟨hO, hR4, hC4⟩ := id hG
  obtain ⟨hm4, hm36⟩ := hO.m
  obtain ⟨⟨hr2, hr6⟩, ⟨hc2, hc6⟩, gL, gB, gW, gWn, gWl, gN, gNl⟩ := id hO
  refine R_iconst rfl ?_
  refine R_istore (lv' := [_, _, _, _, _, _, _, _, _, _, _, _, _]) rfl rfl ?_
  refine R_iconst rfl ?_
  refine R_istore (lv' := [_, _, _, _, _, _, _, _, _, _, _, _, _]) rfl rfl ?_
  refine R_iload rfl rfl ?_
  refine R_iload_n rfl rfl ?_
  refine R_icmpge rfl ⟨by decide, by decide⟩ ⟨by omega, by omega⟩ (fun c26 => ?_) (fun c26 => ?_)
  · refine Run.lv (lv' := [_, _, _, none, _, none, none, none, none, none, none, none, none]) ?_ ⟨Or.inr rfl, Or.inr rfl, Or.inr rfl, Or.inl rfl, Or.inr rfl, Or.inl rfl, Or.inl rfl, Or.inl rfl, Or.inl rfl, Or.inl rfl, Or.inl rfl, Or.inl rfl, Or.inl rfl, trivial⟩
    refine R_iconst rfl ?_
    refine R_istore (lv' := [_, _, _, _, _, _, _, _, _, _, _, _, _]) rfl rfl ?_
    exact k2_loop hZ hG hN hzn (qM G) 0 true _ (Nat.zero_add _) rfl (fun z hz => hQ z (by rw [hz, Bool.true_and, we_law]; rfl))
  · refine R_iload_n rfl rfl ?_
    refine R_iconst rfl ?_
    refine R_icmpne rfl ⟨by decide, by decide⟩ ⟨by decide, by decide⟩ (fun _ => ?_) (fun c0 => absurd c0 (by decide))
    refine Run.lv (lv' := [_, _, _, none, _, none, none, none, none, none, none, none, none]) ?_ ⟨Or.inr rfl, Or.inr rfl, Or.inr rfl, Or.inl rfl, Or.inr rfl, Or.inl rfl, Or.inl rfl, Or.inl rfl, Or.inl rfl, Or.inl rfl, Or.inl rfl, Or.inl rfl, Or.inl rfl, trivial⟩
    refine R_iconst rfl ?_
    refine R_istore (lv' := [_, _, _, _, _, _, _, _, _, _, _, _, _]) rfl rfl ?_
    exact k2_loop hZ hG hN hzn (qM G) 0 true _ (Nat.zero_add _) rfl (fun z hz => hQ z (by rw [hz, Bool.true_and, we_law]; rfl))
set_option maxRecDepth 20000 in
theorem k2_12 {d N : Nat} {h : AH} {G : Gr} {Q : AQ} (hZ : isW h G) (hG : sm4 G) (hN : 127 ≤ N) {zn : Int} {a : Nat} (hre : h a = eI 16 (fun _ => 0)) (haN : a < N ∧ 126 ≤ a) (hzn : zn = qM G) (hQ : ∀ (z : Int) (h1 : AH), z = bI (ruG G 2) → (∀ j, j ≠ a → h1 j = h j) → (∃ f, h1 a = eI 16 f) → Q (.inl (some (vI z))) h1 N) : Run mi_L_keeps (T (d + 3)) Q 12 [some (vI 2), some (vR 122), some (vI zn), none, none, none, none, none, none, none, none, none, none] [vR a] h N 1 16 := by
  obtain ⟨w, m0, hw0, hw1, wL, wE, wS⟩ := id hZ
  have r0 : w (0 : Int).toNat = (qR G : Int) := hw0
  have r1 : w (1 : Int).toNat = (qC G : Int) := hw1
  have hm16 := sm4_m hG
  obtain ⟨hO, hR4, hC4⟩ := id hG
  obtain ⟨hm4, hm36⟩ := hO.m
  obtain ⟨⟨hr2, hr6⟩, ⟨hc2, hc6⟩, gL, gB, gW, gWn, gWl, gN, gNl⟩ := id hO
  obtain ⟨haN1, haN2⟩ := id haN
  refine R_astore_n (lv' := [_, _, _, _, _, _, _, _, _, _, _, _, _]) rfl rfl ?_
  refine R_aload_n rfl rfl ?_
  refine R_iconst rfl ?_
  refine R_iconst rfl ?_
  refine R_iastore rfl (by omega) hre ⟨by omega, by omega, by omega⟩ ?_
  exact k2_17 (isW_fr hZ (va_up_ne _ _ (by omega))) hG hN hzn (fun z hz => hQ z (va_up h a _) hz (fun j hj => va_up_ne _ _ hj) ⟨_, va_up_self _ _ _⟩)
set_option maxRecDepth 20000 in
theorem k3_17 {d N : Nat} {h : AH} {G : Gr} {Q : AQ} (hZ : isW h G) (hG : sm4 G) (hN : 127 ≤ N) {zn : Int} {a : Nat} (hzn : zn = qM G) (hQ : ∀ z : Int, z = bI (ruG G 3) → Q (.inl (some (vI z))) h N) : Run mi_L_keeps (T (d + 3)) Q 17 [some (vI 3), some (vR 122), some (vI zn), some (vR a), none, none, none, none, none, none, none, none, none] [] h N 1 16 := by
  obtain ⟨w, m0, hw0, hw1, wL, wE, wS⟩ := id hZ
  have r0 : w (0 : Int).toNat = (qR G : Int) := hw0
  have r1 : w (1 : Int).toNat = (qC G : Int) := hw1
  have hm16 := sm4_m hG
  obtain ⟨hO, hR4, hC4⟩ := id hG
  obtain ⟨hm4, hm36⟩ := hO.m
  obtain ⟨⟨hr2, hr6⟩, ⟨hc2, hc6⟩, gL, gB, gW, gWn, gWl, gN, gNl⟩ := id hO
  refine R_iconst rfl ?_
  refine R_istore (lv' := [_, _, _, _, _, _, _, _, _, _, _, _, _]) rfl rfl ?_
  refine R_iconst rfl ?_
  refine R_istore (lv' := [_, _, _, _, _, _, _, _, _, _, _, _, _]) rfl rfl ?_
  refine R_iload rfl rfl ?_
  refine R_iload_n rfl rfl ?_
  refine R_icmpge rfl ⟨by decide, by decide⟩ ⟨by omega, by omega⟩ (fun c26 => ?_) (fun c26 => ?_)
  · refine Run.lv (lv' := [_, _, _, none, _, none, none, none, none, none, none, none, none]) ?_ ⟨Or.inr rfl, Or.inr rfl, Or.inr rfl, Or.inl rfl, Or.inr rfl, Or.inl rfl, Or.inl rfl, Or.inl rfl, Or.inl rfl, Or.inl rfl, Or.inl rfl, Or.inl rfl, Or.inl rfl, trivial⟩
    refine R_iconst rfl ?_
    refine R_istore (lv' := [_, _, _, _, _, _, _, _, _, _, _, _, _]) rfl rfl ?_
    exact k3_loop hZ hG hN hzn (qM G) 0 true _ (Nat.zero_add _) rfl (fun z hz => hQ z (by rw [hz, Bool.true_and, pr_law hO]; rfl))
  · refine R_iload_n rfl rfl ?_
    refine R_iconst rfl ?_
    refine R_icmpne rfl ⟨by decide, by decide⟩ ⟨by decide, by decide⟩ (fun _ => ?_) (fun c0 => absurd c0 (by decide))
    refine Run.lv (lv' := [_, _, _, none, _, none, none, none, none, none, none, none, none]) ?_ ⟨Or.inr rfl, Or.inr rfl, Or.inr rfl, Or.inl rfl, Or.inr rfl, Or.inl rfl, Or.inl rfl, Or.inl rfl, Or.inl rfl, Or.inl rfl, Or.inl rfl, Or.inl rfl, Or.inl rfl, trivial⟩
    refine R_iconst rfl ?_
    refine R_istore (lv' := [_, _, _, _, _, _, _, _, _, _, _, _, _]) rfl rfl ?_
    exact k3_loop hZ hG hN hzn (qM G) 0 true _ (Nat.zero_add _) rfl (fun z hz => hQ z (by rw [hz, Bool.true_and, pr_law hO]; rfl))
set_option maxRecDepth 20000 in
theorem k3_12 {d N : Nat} {h : AH} {G : Gr} {Q : AQ} (hZ : isW h G) (hG : sm4 G) (hN : 127 ≤ N) {zn : Int} {a : Nat} (hre : h a = eI 16 (fun _ => 0)) (haN : a < N ∧ 126 ≤ a) (hzn : zn = qM G) (hQ : ∀ (z : Int) (h1 : AH), z = bI (ruG G 3) → (∀ j, j ≠ a → h1 j = h j) → (∃ f, h1 a = eI 16 f) → Q (.inl (some (vI z))) h1 N) : Run mi_L_keeps (T (d + 3)) Q 12 [some (vI 3), some (vR 122), some (vI zn), none, none, none, none, none, none, none, none, none, none] [vR a] h N 1 16 := by
  obtain ⟨w, m0, hw0, hw1, wL, wE, wS⟩ := id hZ
  have r0 : w (0 : Int).toNat = (qR G : Int) := hw0
  have r1 : w (1 : Int).toNat = (qC G : Int) := hw1
  have hm16 := sm4_m hG
  obtain ⟨hO, hR4, hC4⟩ := id hG
  obtain ⟨hm4, hm36⟩ := hO.m
  obtain ⟨⟨hr2, hr6⟩, ⟨hc2, hc6⟩, gL, gB, gW, gWn, gWl, gN, gNl⟩ := id hO
  obtain ⟨haN1, haN2⟩ := id haN
  refine R_astore_n (lv' := [_, _, _, _, _, _, _, _, _, _, _, _, _]) rfl rfl ?_
  refine R_aload_n rfl rfl ?_
  refine R_iconst rfl ?_
  refine R_iconst rfl ?_
  refine R_iastore rfl (by omega) hre ⟨by omega, by omega, by omega⟩ ?_
  exact k3_17 (isW_fr hZ (va_up_ne _ _ (by omega))) hG hN hzn (fun z hz => hQ z (va_up h a _) hz (fun j hj => va_up_ne _ _ hj) ⟨_, va_up_self _ _ _⟩)
set_option maxRecDepth 20000 in
theorem k4_12 {d N : Nat} {h : AH} {G : Gr} {Q : AQ} (hZ : isW h G) (hG : sm4 G) (hN : 127 ≤ N) {zn : Int} {a : Nat} (hre : h a = eI 16 (fun _ => 0)) (haN : a < N ∧ 126 ≤ a) (hzn : zn = qM G) (hQ : ∀ (z : Int) (h1 : AH), z = bI (ruG G 4) → (∀ j, j ≠ a → h1 j = h j) → (∃ f, h1 a = eI 16 f) → Q (.inl (some (vI z))) h1 N) : Run mi_L_keeps (T (d + 3)) Q 12 [some (vI 4), some (vR 122), some (vI zn), none, none, none, none, none, none, none, none, none, none] [vR a] h N 1 16 := by
  obtain ⟨w, m0, hw0, hw1, wL, wE, wS⟩ := id hZ
  have r0 : w (0 : Int).toNat = (qR G : Int) := hw0
  have r1 : w (1 : Int).toNat = (qC G : Int) := hw1
  have hm16 := sm4_m hG
  obtain ⟨hO, hR4, hC4⟩ := id hG
  obtain ⟨hm4, hm36⟩ := hO.m
  obtain ⟨⟨hr2, hr6⟩, ⟨hc2, hc6⟩, gL, gB, gW, gWn, gWl, gN, gNl⟩ := id hO
  obtain ⟨haN1, haN2⟩ := id haN
  refine R_astore_n (lv' := [_, _, _, _, _, _, _, _, _, _, _, _, _]) rfl rfl ?_
  refine R_aload_n rfl rfl ?_
  refine R_iconst rfl ?_
  refine R_iconst rfl ?_
  refine R_iastore rfl (by omega) hre ⟨by omega, by omega, by omega⟩ ?_
  refine R_iconst rfl ?_
  refine R_istore (lv' := [_, _, _, _, _, _, _, _, _, _, _, _, _]) rfl rfl ?_
  refine R_iconst rfl ?_
  refine R_istore (lv' := [_, _, _, _, _, _, _, _, _, _, _, _, _]) rfl rfl ?_
  refine r4_rd hG hN haN hzn (qM G) 0 _ _ coS _ (isW_fr hZ (va_up_ne _ _ (by omega))) (va_up_self _ _ _) (fun j hj => va_up_ne _ _ hj) (fun j hj => ?_) (Nat.zero_add _) rfl (fun h1 f1 l5 hZ1 e1 e2 e3 => ?_)
  · by_cases q : j = 0
    · subst q
      rfl
    · rw [va_up_ne _ _ (show j ≠ (0 : Int).toNat from q)]
      show (0 : Int) = bI (decide (j = 0))
      rw [decide_eq_false q]
      rfl
  · refine R_iconst rfl ?_
    refine R_istore (lv' := [_, _, _, _, _, _, _, _, _, _, _, _, _]) rfl rfl ?_
    exact k4_loop hZ1 hG hN e1 haN e3 hzn (qM G) 0 true _ (Nat.zero_add _) rfl (fun z hz => hQ z _ (by rw [hz, Bool.true_and, co_law hO]; rfl) (fun j hj => e2 j hj) ⟨_, e1⟩)
/-- how a heap has grown -/
def grw (h h' : AH) (N N' : Nat) : Prop := N ≤ N' ∧ (∀ j, j < N ∨ N' ≤ j → h' j = h j) ∧ wfH N' h'
theorem grw_0 {h : AH} {N : Nat} (hw : wfH N h) : grw h h N N := ⟨Nat.le_refl _, fun _ _ => rfl, hw⟩
theorem grw_t {h h1 h2 : AH} {N N1 N2 : Nat} (a : grw h h1 N N1) (b : grw h1 h2 N1 N2) : grw h h2 N N2 := ⟨Nat.le_trans a.1 b.1, fun j hj => (b.2.1 j (by have := a.1; have := b.1; omega)).trans (a.2.1 j (by have := a.1; have := b.1; omega)), b.2.2⟩
theorem isW_gr {h h' : AH} {N N' : Nat} {G : Gr} (hZ : isW h G) (hN : 126 ≤ N) (hg : grw h h' N N') : isW h' G := isW_fr hZ (hg.2.1 _ (by omega))
theorem wfL_n {N : Nat} {t : AL} (h : ∀ o ∈ t, ∀ v, o = some v → wfV N v) : ∀ o ∈ (none :: t : AL), ∀ v, o = some v → wfV N v := fun o ho v hv => by
  rcases List.mem_cons.mp ho with q | q
  · rw [q] at hv
    cases hv
  · exact h o q v hv
theorem wfL_s {N : Nat} {t : AL} {w : AV} (hw : wfV N w) (h : ∀ o ∈ t, ∀ v, o = some v → wfV N v) : ∀ o ∈ (some w :: t : AL), ∀ v, o = some v → wfV N v := fun o ho v hv => by
  rcases List.mem_cons.mp ho with q | q
  · rw [q] at hv
    cases hv
    exact hw
  · exact h o q v hv
theorem wfL_0 {N : Nat} : ∀ o ∈ ([] : AL), ∀ v, o = some v → wfV N v := fun o ho => absurd ho List.not_mem_nil
theorem wfT_0 {N : Nat} : ∀ v ∈ ([] : List AV), wfV N v := fun v hv => absurd hv List.not_mem_nil
theorem wfT_s {N : Nat} {t : List AV} {w : AV} (hw : wfV N w) (h : ∀ v ∈ t, wfV N v) : ∀ v ∈ (w :: t), wfV N v := fun v hv => by
  rcases List.mem_cons.mp hv with q | q
  · rw [q]
    exact hw
  · exact h v q
set_option maxRecDepth 20000 in
theorem keeps_0 {d N : Nat} {h : AH} {G : Gr} {Q : AQ} (hZ : isW h G) (hG : sm4 G) (hN : 126 ≤ N ∧ N < 1000) (hwf : wfH N h) (hQ : ∀ (z : Int) (h1 : AH), z = bI (ruG G 0) → grw h h1 N (N + 1) → Q (.inl (some (vI z))) h1 (N + 1)) : T (d + 4) 238 [vI 0, vR 122] h N Q := by
  obtain ⟨hN1, hN2⟩ := hN
  obtain ⟨w, m0, hw0, hw1, wL, wE, wS⟩ := id hZ
  have r0 : w (0 : Int).toNat = (qR G : Int) := hw0
  have r1 : w (1 : Int).toNat = (qC G : Int) := hw1
  have hm16 := sm4_m hG
  obtain ⟨hO, hR4, hC4⟩ := id hG
  obtain ⟨hm4, hm36⟩ := hO.m
  obtain ⟨⟨hr2, hr6⟩, ⟨hc2, hc6⟩, gL, gB, gW, gWn, gWl, gN, gNl⟩ := id hO
  refine T_body (I := mi_L_keeps) (lv := [_, _, _, _, _, _, _, _, _, _, _, _, _]) rfl (Nat.le_of_ble_eq_true rfl) rfl ?_
  refine R_aload_n rfl rfl ?_
  refine R_iconst rfl ?_
  refine R_iaload rfl (Or.inl (by omega)) m0 ⟨by omega, by omega, by omega⟩ ?_
  refine R_aload_n rfl rfl ?_
  refine R_iconst rfl ?_
  refine R_iaload rfl (Or.inl (by omega)) m0 ⟨by omega, by omega, by omega⟩ ?_
  refine R_imul rfl ?_
  refine R_istore_n (lv' := [_, _, _, _, _, _, _, _, _, _, _, _, _]) rfl rfl ?_
  refine R_bipush rfl ?_
  refine C_newI rfl ⟨by decide, by decide⟩ (show N < 1000 by omega) hwf ⟨(wfL_s trivial (wfL_s (Or.inl (by omega)) (wfL_s trivial (wfL_n (wfL_n (wfL_n (wfL_n (wfL_n (wfL_n (wfL_n (wfL_n (wfL_n (wfL_n wfL_0))))))))))))), wfT_0⟩ (Nat.le_of_ble_eq_true rfl) (Nat.le_of_ble_eq_true rfl) (fun h1 g1 g2 g3 => ?_)
  refine k0_12 (isW_fr hZ (g2 _ (by omega))) hG (by omega) g1 ⟨by omega, by omega⟩ (by rw [r0, r1]; exact qM_int G) (fun z h2 hz e2 ex => hQ z h2 hz ⟨by omega, fun j hj => (e2 j (by omega)).trans (g2 j (by omega)), fun j hj => ?_⟩)
  by_cases q : j = N
  · obtain ⟨fx, ex⟩ := ex
    rw [q, ex]
    trivial
  · rw [e2 j q]
    exact g3 j hj
set_option maxRecDepth 20000 in
theorem keeps_1 {d N : Nat} {h : AH} {G : Gr} {Q : AQ} (hZ : isW h G) (hG : sm4 G) (hN : 126 ≤ N ∧ N < 1000) (hwf : wfH N h) (hQ : ∀ (z : Int) (h1 : AH), z = bI (ruG G 1) → grw h h1 N (N + 1) → Q (.inl (some (vI z))) h1 (N + 1)) : T (d + 4) 238 [vI 1, vR 122] h N Q := by
  obtain ⟨hN1, hN2⟩ := hN
  obtain ⟨w, m0, hw0, hw1, wL, wE, wS⟩ := id hZ
  have r0 : w (0 : Int).toNat = (qR G : Int) := hw0
  have r1 : w (1 : Int).toNat = (qC G : Int) := hw1
  have hm16 := sm4_m hG
  obtain ⟨hO, hR4, hC4⟩ := id hG
  obtain ⟨hm4, hm36⟩ := hO.m
  obtain ⟨⟨hr2, hr6⟩, ⟨hc2, hc6⟩, gL, gB, gW, gWn, gWl, gN, gNl⟩ := id hO
  refine T_body (I := mi_L_keeps) (lv := [_, _, _, _, _, _, _, _, _, _, _, _, _]) rfl (Nat.le_of_ble_eq_true rfl) rfl ?_
  refine R_aload_n rfl rfl ?_
  refine R_iconst rfl ?_
  refine R_iaload rfl (Or.inl (by omega)) m0 ⟨by omega, by omega, by omega⟩ ?_
  refine R_aload_n rfl rfl ?_
  refine R_iconst rfl ?_
  refine R_iaload rfl (Or.inl (by omega)) m0 ⟨by omega, by omega, by omega⟩ ?_
  refine R_imul rfl ?_
  refine R_istore_n (lv' := [_, _, _, _, _, _, _, _, _, _, _, _, _]) rfl rfl ?_
  refine R_bipush rfl ?_
  refine C_newI rfl ⟨by decide, by decide⟩ (show N < 1000 by omega) hwf ⟨(wfL_s trivial (wfL_s (Or.inl (by omega)) (wfL_s trivial (wfL_n (wfL_n (wfL_n (wfL_n (wfL_n (wfL_n (wfL_n (wfL_n (wfL_n (wfL_n wfL_0))))))))))))), wfT_0⟩ (Nat.le_of_ble_eq_true rfl) (Nat.le_of_ble_eq_true rfl) (fun h1 g1 g2 g3 => ?_)
  refine k1_12 (isW_fr hZ (g2 _ (by omega))) hG (by omega) g1 ⟨by omega, by omega⟩ (by rw [r0, r1]; exact qM_int G) (fun z h2 hz e2 ex => hQ z h2 hz ⟨by omega, fun j hj => (e2 j (by omega)).trans (g2 j (by omega)), fun j hj => ?_⟩)
  by_cases q : j = N
  · obtain ⟨fx, ex⟩ := ex
    rw [q, ex]
    trivial
  · rw [e2 j q]
    exact g3 j hj
set_option maxRecDepth 20000 in
theorem keeps_2 {d N : Nat} {h : AH} {G : Gr} {Q : AQ} (hZ : isW h G) (hG : sm4 G) (hN : 126 ≤ N ∧ N < 1000) (hwf : wfH N h) (hQ : ∀ (z : Int) (h1 : AH), z = bI (ruG G 2) → grw h h1 N (N + 1) → Q (.inl (some (vI z))) h1 (N + 1)) : T (d + 4) 238 [vI 2, vR 122] h N Q := by
  obtain ⟨hN1, hN2⟩ := hN
  obtain ⟨w, m0, hw0, hw1, wL, wE, wS⟩ := id hZ
  have r0 : w (0 : Int).toNat = (qR G : Int) := hw0
  have r1 : w (1 : Int).toNat = (qC G : Int) := hw1
  have hm16 := sm4_m hG
  obtain ⟨hO, hR4, hC4⟩ := id hG
  obtain ⟨hm4, hm36⟩ := hO.m
  obtain ⟨⟨hr2, hr6⟩, ⟨hc2, hc6⟩, gL, gB, gW, gWn, gWl, gN, gNl⟩ := id hO
  refine T_body (I := mi_L_keeps) (lv := [_, _, _, _, _, _, _, _, _, _, _, _, _]) rfl (Nat.le_of_ble_eq_true rfl) rfl ?_
  refine R_aload_n rfl rfl ?_
  refine R_iconst rfl ?_
  refine R_iaload rfl (Or.inl (by omega)) m0 ⟨by omega, by omega, by omega⟩ ?_
  refine R_aload_n rfl rfl ?_
  refine R_iconst rfl ?_
  refine R_iaload rfl (Or.inl (by omega)) m0 ⟨by omega, by omega, by omega⟩ ?_
  refine R_imul rfl ?_
  refine R_istore_n (lv' := [_, _, _, _, _, _, _, _, _, _, _, _, _]) rfl rfl ?_
  refine R_bipush rfl ?_
  refine C_newI rfl ⟨by decide, by decide⟩ (show N < 1000 by omega) hwf ⟨(wfL_s trivial (wfL_s (Or.inl (by omega)) (wfL_s trivial (wfL_n (wfL_n (wfL_n (wfL_n (wfL_n (wfL_n (wfL_n (wfL_n (wfL_n (wfL_n wfL_0))))))))))))), wfT_0⟩ (Nat.le_of_ble_eq_true rfl) (Nat.le_of_ble_eq_true rfl) (fun h1 g1 g2 g3 => ?_)
  refine k2_12 (isW_fr hZ (g2 _ (by omega))) hG (by omega) g1 ⟨by omega, by omega⟩ (by rw [r0, r1]; exact qM_int G) (fun z h2 hz e2 ex => hQ z h2 hz ⟨by omega, fun j hj => (e2 j (by omega)).trans (g2 j (by omega)), fun j hj => ?_⟩)
  by_cases q : j = N
  · obtain ⟨fx, ex⟩ := ex
    rw [q, ex]
    trivial
  · rw [e2 j q]
    exact g3 j hj
set_option maxRecDepth 20000 in
theorem keeps_3 {d N : Nat} {h : AH} {G : Gr} {Q : AQ} (hZ : isW h G) (hG : sm4 G) (hN : 126 ≤ N ∧ N < 1000) (hwf : wfH N h) (hQ : ∀ (z : Int) (h1 : AH), z = bI (ruG G 3) → grw h h1 N (N + 1) → Q (.inl (some (vI z))) h1 (N + 1)) : T (d + 4) 238 [vI 3, vR 122] h N Q := by
  obtain ⟨hN1, hN2⟩ := hN
  obtain ⟨w, m0, hw0, hw1, wL, wE, wS⟩ := id hZ
  have r0 : w (0 : Int).toNat = (qR G : Int) := hw0
  have r1 : w (1 : Int).toNat = (qC G : Int) := hw1
  have hm16 := sm4_m hG
  obtain ⟨hO, hR4, hC4⟩ := id hG
  obtain ⟨hm4, hm36⟩ := hO.m
  obtain ⟨⟨hr2, hr6⟩, ⟨hc2, hc6⟩, gL, gB, gW, gWn, gWl, gN, gNl⟩ := id hO
  refine T_body (I := mi_L_keeps) (lv := [_, _, _, _, _, _, _, _, _, _, _, _, _]) rfl (Nat.le_of_ble_eq_true rfl) rfl ?_
  refine R_aload_n rfl rfl ?_
  refine R_iconst rfl ?_
  refine R_iaload rfl (Or.inl (by omega)) m0 ⟨by omega, by omega, by omega⟩ ?_
  refine R_aload_n rfl rfl ?_
  refine R_iconst rfl ?_
  refine R_iaload rfl (Or.inl (by omega)) m0 ⟨by omega, by omega, by omega⟩ ?_
  refine R_imul rfl ?_
  refine R_istore_n (lv' := [_, _, _, _, _, _, _, _, _, _, _, _, _]) rfl rfl ?_
  refine R_bipush rfl ?_
  refine C_newI rfl ⟨by decide, by decide⟩ (show N < 1000 by omega) hwf ⟨(wfL_s trivial (wfL_s (Or.inl (by omega)) (wfL_s trivial (wfL_n (wfL_n (wfL_n (wfL_n (wfL_n (wfL_n (wfL_n (wfL_n (wfL_n (wfL_n wfL_0))))))))))))), wfT_0⟩ (Nat.le_of_ble_eq_true rfl) (Nat.le_of_ble_eq_true rfl) (fun h1 g1 g2 g3 => ?_)
  refine k3_12 (isW_fr hZ (g2 _ (by omega))) hG (by omega) g1 ⟨by omega, by omega⟩ (by rw [r0, r1]; exact qM_int G) (fun z h2 hz e2 ex => hQ z h2 hz ⟨by omega, fun j hj => (e2 j (by omega)).trans (g2 j (by omega)), fun j hj => ?_⟩)
  by_cases q : j = N
  · obtain ⟨fx, ex⟩ := ex
    rw [q, ex]
    trivial
  · rw [e2 j q]
    exact g3 j hj
set_option maxRecDepth 20000 in
theorem keeps_4 {d N : Nat} {h : AH} {G : Gr} {Q : AQ} (hZ : isW h G) (hG : sm4 G) (hN : 126 ≤ N ∧ N < 1000) (hwf : wfH N h) (hQ : ∀ (z : Int) (h1 : AH), z = bI (ruG G 4) → grw h h1 N (N + 1) → Q (.inl (some (vI z))) h1 (N + 1)) : T (d + 4) 238 [vI 4, vR 122] h N Q := by
  obtain ⟨hN1, hN2⟩ := hN
  obtain ⟨w, m0, hw0, hw1, wL, wE, wS⟩ := id hZ
  have r0 : w (0 : Int).toNat = (qR G : Int) := hw0
  have r1 : w (1 : Int).toNat = (qC G : Int) := hw1
  have hm16 := sm4_m hG
  obtain ⟨hO, hR4, hC4⟩ := id hG
  obtain ⟨hm4, hm36⟩ := hO.m
  obtain ⟨⟨hr2, hr6⟩, ⟨hc2, hc6⟩, gL, gB, gW, gWn, gWl, gN, gNl⟩ := id hO
  refine T_body (I := mi_L_keeps) (lv := [_, _, _, _, _, _, _, _, _, _, _, _, _]) rfl (Nat.le_of_ble_eq_true rfl) rfl ?_
  refine R_aload_n rfl rfl ?_
  refine R_iconst rfl ?_
  refine R_iaload rfl (Or.inl (by omega)) m0 ⟨by omega, by omega, by omega⟩ ?_
  refine R_aload_n rfl rfl ?_
  refine R_iconst rfl ?_
  refine R_iaload rfl (Or.inl (by omega)) m0 ⟨by omega, by omega, by omega⟩ ?_
  refine R_imul rfl ?_
  refine R_istore_n (lv' := [_, _, _, _, _, _, _, _, _, _, _, _, _]) rfl rfl ?_
  refine R_bipush rfl ?_
  refine C_newI rfl ⟨by decide, by decide⟩ (show N < 1000 by omega) hwf ⟨(wfL_s trivial (wfL_s (Or.inl (by omega)) (wfL_s trivial (wfL_n (wfL_n (wfL_n (wfL_n (wfL_n (wfL_n (wfL_n (wfL_n (wfL_n (wfL_n wfL_0))))))))))))), wfT_0⟩ (Nat.le_of_ble_eq_true rfl) (Nat.le_of_ble_eq_true rfl) (fun h1 g1 g2 g3 => ?_)
  refine k4_12 (isW_fr hZ (g2 _ (by omega))) hG (by omega) g1 ⟨by omega, by omega⟩ (by rw [r0, r1]; exact qM_int G) (fun z h2 hz e2 ex => hQ z h2 hz ⟨by omega, fun j hj => (e2 j (by omega)).trans (g2 j (by omega)), fun j hj => ?_⟩)
  by_cases q : j = N
  · obtain ⟨fx, ex⟩ := ex
    rw [q, ex]
    trivial
  · rw [e2 j q]
    exact g3 j hj
theorem keeps_T {d N : Nat} {h : AH} {G : Gr} {Q : AQ} (hZ : isW h G) (hG : sm4 G) (hN : 126 ≤ N ∧ N < 1000) (hwf : wfH N h) {r : Nat} {zr : Int} (hr : r < 5) (hzr : zr = r) (hQ : ∀ (z : Int) (h1 : AH), z = bI (ruG G r) → grw h h1 N (N + 1) → Q (.inl (some (vI z))) h1 (N + 1)) : T (d + 4) 238 [vI zr, vR 122] h N Q := by
  subst hzr
  match r, hr with
  | 0, _ => exact keeps_0 hZ hG hN hwf hQ
  | 1, _ => exact keeps_1 hZ hG hN hwf hQ
  | 2, _ => exact keeps_2 hZ hG hN hwf hQ
  | 3, _ => exact keeps_3 hZ hG hN hwf hQ
  | 4, _ => exact keeps_4 hZ hG hN hwf hQ
set_option maxRecDepth 20000 in
theorem kept_loop {d N0 : Nat} {h0 : AH} {G : Gr} {Q : AQ} (hG : sm4 G) (hN : 126 ≤ N0 ∧ N0 + 5 < 1000) : ∀ (r i a : Nat) (h : AH) (N : Nat) (zn zi : Int) (k n : Nat), i + r = 5 → zi = i → zn = a → a ≤ i → isW h G → N = N0 + i → wfH N h → grw h0 h N0 N → k = i → n = 16 * i → (∀ (z : Int) (h1 : AH), z = ((a + ctF (ruG G) r i : Nat) : Int) → grw h0 h1 N0 (N0 + 5) → Q (.inl (some (vI z))) h1 (N0 + 5)) → Run mi_L_kept (T (d + 4)) Q 4 [some (vR 122), some (vI zn), some (vI zi)] [] h N k n := by
  intro r
  induction r using Nat.strongRecOn with
  | ind r ih =>
  intro i a h N zn zi k n hr hzi hzn hai hZ hNi hwf hgr hk hn hQ
  obtain ⟨hN1, hN2⟩ := id hN
  obtain ⟨w, m0, hw0, hw1, wL, wE, wS⟩ := id hZ
  have r0 : w (0 : Int).toNat = (qR G : Int) := hw0
  have r1 : w (1 : Int).toNat = (qC G : Int) := hw1
  have hm16 := sm4_m hG
  obtain ⟨hO, hR4, hC4⟩ := id hG
  obtain ⟨hm4, hm36⟩ := hO.m
  obtain ⟨⟨hr2, hr6⟩, ⟨hc2, hc6⟩, gL, gB, gW, gWn, gWl, gN, gNl⟩ := id hO
  refine R_iload_n rfl rfl ?_
  refine R_iconst rfl ?_
  refine R_icmpge rfl ⟨by omega, by omega⟩ ⟨by decide, by decide⟩ (fun c6 => ?_) (fun c6 => ?_)
  · have hr0 : r = 0 := by omega
    subst hr0
    obtain rfl : N = N0 + 5 := by omega
    refine R_iload_n rfl rfl ?_
    exact R_ireturn rfl (fun q => absurd q (by decide)) (show _ ≤ 5 by omega) (show _ ≤ 80 by omega) (hQ _ _ (by rw [hzn]; rfl) hgr)
  · obtain ⟨r, rfl⟩ : ∃ r1, r = r1 + 1 := ⟨r - 1, by omega⟩
    refine R_iload_n rfl rfl ?_
    refine R_iload_n rfl rfl ?_
    refine R_aload_n rfl rfl ?_
    refine R_scall rfl rfl ⟨Nat.le_of_ble_eq_true rfl, Nat.le_of_ble_eq_true rfl, (show _ + 1 ≤ 5 by omega), (show _ + 16 ≤ 80 by omega)⟩ (keeps_T (r := i) hZ hG (by omega) hwf (by omega) (by omega) (fun z12 h1 hz12 hg => aRes_g (Or.inr ⟨(wfL_s (Or.inl (by omega)) (wfL_s trivial (wfL_s trivial wfL_0))), (wfT_s trivial wfT_0)⟩) ?_))
    have hb01 := bI01 (ruG G i)
    rw [← hz12] at hb01
    refine R_ifeq rfl ⟨by omega, by omega⟩ (fun c15 => ?_) (fun c15 => ?_)
    · have hb := bI_f hz12 c15
      refine R_iconst rfl ?_
      refine R_iadd rfl ?_
      refine R_istore_n (lv' := [_, _, _]) rfl rfl ?_
      refine R_iinc (lv' := [_, _, _]) rfl rfl rfl ?_
      refine R_goto rfl ?_
      first | exact ih r (by omega) (i + 1) (a + 1) h1 _ _ _ _ _ (by omega) (by omega) (by omega) (by omega) (isW_gr hZ (by omega) hg) (by omega) hg.2.2 (grw_t hgr hg) (by omega) (by omega) (fun z h2 hz => hQ z h2 (hz.trans (congrArg Nat.cast (ct_hit (p := ruG G) hb)))) | exact ih r (by omega) (i + 1) a h1 _ _ _ _ _ (by omega) (by omega) (by omega) (by omega) (isW_gr hZ (by omega) hg) (by omega) hg.2.2 (grw_t hgr hg) (by omega) (by omega) (fun z h2 hz => hQ z h2 (hz.trans (congrArg Nat.cast (ct_skip (p := ruG G) hb))))
    · have hb := bI_t hz12 c15
      refine R_iconst rfl ?_
      refine R_goto rfl ?_
      refine R_iadd rfl ?_
      refine R_istore_n (lv' := [_, _, _]) rfl rfl ?_
      refine R_iinc (lv' := [_, _, _]) rfl rfl rfl ?_
      refine R_goto rfl ?_
      first | exact ih r (by omega) (i + 1) (a + 1) h1 _ _ _ _ _ (by omega) (by omega) (by omega) (by omega) (isW_gr hZ (by omega) hg) (by omega) hg.2.2 (grw_t hgr hg) (by omega) (by omega) (fun z h2 hz => hQ z h2 (hz.trans (congrArg Nat.cast (ct_hit (p := ruG G) hb)))) | exact ih r (by omega) (i + 1) a h1 _ _ _ _ _ (by omega) (by omega) (by omega) (by omega) (isW_gr hZ (by omega) hg) (by omega) hg.2.2 (grw_t hgr hg) (by omega) (by omega) (fun z h2 hz => hQ z h2 (hz.trans (congrArg Nat.cast (ct_skip (p := ruG G) hb))))
set_option maxRecDepth 20000 in
theorem kept_T {d N : Nat} {h : AH} {G : Gr} {Q : AQ} (hZ : isW h G) (hG : sm4 G) (hN : 126 ≤ N ∧ N + 5 < 1000) (hwf : wfH N h) (hQ : ∀ (z : Int) (h1 : AH), z = (kpG G : Nat) → grw h h1 N (N + 5) → Q (.inl (some (vI z))) h1 (N + 5)) : T (d + 5) 239 [vR 122] h N Q := by
  refine T_body (I := mi_L_kept) (lv := [_, _, _]) rfl (Nat.le_of_ble_eq_true rfl) rfl ?_
  refine R_iconst rfl ?_
  refine R_istore_n (lv' := [_, _, _]) rfl rfl ?_
  refine R_iconst rfl ?_
  refine R_istore_n (lv' := [_, _, _]) rfl rfl ?_
  exact kept_loop hG hN 5 0 0 h _ _ _ _ _ (Nat.zero_add _) rfl rfl (Nat.le_refl _) hZ rfl hwf (grw_0 hwf) rfl rfl (fun z h1 hz hg => hQ z h1 (hz.trans (congrArg Nat.cast (Nat.zero_add _))) hg)
