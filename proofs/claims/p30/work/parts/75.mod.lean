/-! ===== the model: countReadings ===== -/
def gM (G : Gr) (em : Bool) (r : Nat) (ch : List Nat) (c : Nat) : List (List Nat) := if crG G em ch c = true then mS G em r (ch ++ [c]) else []
theorem gM_no {G : Gr} {em : Bool} {r : Nat} {ch : List Nat} {c : Nat} (h : crG G em ch c = false) : gM G em r ch c = [] := if_neg (by rw [h]; decide)
theorem gM_yes {G : Gr} {em : Bool} {r : Nat} {ch : List Nat} {c : Nat} (h : crG G em ch c = true) : gM G em r ch c = mS G em r (ch ++ [c]) := if_pos h
theorem fl_at {G : Gr} {em : Bool} {r : Nat} {ch : List Nat} {m i c : Nat} (hm : i + m = qM G) (h1 : i ≤ c) (h2 : c < qM G) (hno : ∀ j, i ≤ j → j < c → crG G em ch j = false) (hc : crG G em ch c = true) : fl (gM G em r ch) m i = mS G em r (ch ++ [c]) ++ fl (gM G em r ch) (qM G - (c + 1)) (c + 1) := by
  have e1 := fl_skip (g := gM G em r ch) (m := (qM G - (c + 1)) + 1) (c - i) i (fun j h3 h4 => gM_no (hno j h3 (by omega)))
  rw [show c - i + (qM G - (c + 1) + 1) = m by omega, show i + (c - i) = c by omega] at e1
  rw [e1]
  show gM G em r ch c ++ fl (gM G em r ch) (qM G - (c + 1)) (c + 1) = _
  rw [gM_yes hc]
def ok9 (F9 : Nat → Int) (s : SS) : Prop := (∀ R, s.2 = some R → ∀ (j x : Nat), R[j]? = some x → F9 j = x) ∧ (s.1 = 0 ↔ s.2 = none)
def chX (ch : List Nat) (X : Nat → Int) : Prop := ∀ (j x : Nat), ch[j]? = some x → X j = x
theorem chX_up {ch : List Nat} {X : Nat → Int} {z : Int} {k : Nat} (h : chX ch X) (hk : ch.length ≤ k) : chX ch (va_up X k z) := by
  intro j x hj
  have hlt : j < ch.length := by
    rcases Nat.lt_or_ge j ch.length with q | q
    · exact q
    · rw [List.getElem?_eq_none q] at hj
      cases hj
  exact (va_up_ne _ _ (by omega)).trans (h j x hj)
theorem chX_pre {ch : List Nat} {c : Nat} {X : Nat → Int} (h : chX (ch ++ [c]) X) : chX ch X ∧ X ch.length = c := by
  refine ⟨fun j x hj => h j x ?_, h _ c ?_⟩
  · have hlt : j < ch.length := by
      rcases Nat.lt_or_ge j ch.length with q | q
      · exact q
      · rw [List.getElem?_eq_none q] at hj
        cases hj
    rw [List.getElem?_append_left hlt]
    exact hj
  · rw [List.getElem?_append_right (Nat.le_refl _), Nat.sub_self]
    rfl
theorem chX_app {ch : List Nat} {c : Nat} {X : Nat → Int} (h : chX ch X) (hc : X ch.length = c) : chX (ch ++ [c]) X := by
  intro j x hj
  rcases Nat.lt_or_ge j ch.length with q | q
  · rw [List.getElem?_append_left q] at hj
    exact h j x hj
  · rw [List.getElem?_append_right q] at hj
    obtain ⟨k2, hk2⟩ : ∃ k2, j - ch.length = k2 := ⟨_, rfl⟩
    rw [hk2] at hj
    cases k2 with
    | zero =>
      cases hj
      rw [show j = ch.length by omega]
      exact hc
    | succ k2 => cases hj
theorem ch_lt {ch : List Nat} {c m : Nat} (h : ∀ x, x ∈ ch → x < m) (hc : c < m) : ∀ x, x ∈ ch ++ [c] → x < m := fun x hx => by
  rcases List.mem_append.mp hx with q | q
  · exact h x q
  · rw [List.mem_singleton.mp q]
    exact hc
theorem sl_leaf {most : Nat} {s : SS} {R : List Nat} {l : List (List Nat)} (h : s.1 < most) : seL most s ([R] ++ l) = seL most (s.1 + 1, if s.1 = 0 then some R else s.2) l := by
  show seL most (seA most s R) l = _
  unfold seA
  rw [if_neg (by omega)]
theorem isMo_ch {h h' : AH} {y : Sy} {th : Int} {X F9 : Nat → Int} (hY : isMo h y th) (e1 : h' 137 = eI 9 X) (e2 : h' 138 = eI 6 F9) (hf : fr h h' 137 2) : isMo h' y th := by
  obtain ⟨hM, hG, hT, hHi, hSv, ⟨⟨a, ha⟩, ⟨b, hb⟩, hc, -, -⟩⟩ := hY
  exact ⟨isMg_f hM hf (by decide), hG, isMt_fr hT (hf _ (by omega)), isHi_fr hHi (hf _ (by omega)), isSv_fr hSv (hf _ (by omega)) (hf _ (by omega)), ⟨a, (hf _ (by omega)).trans ha⟩, ⟨b, (hf _ (by omega)).trans hb⟩, isRe_fr hc (hf _ (by omega)), ⟨X, e1⟩, F9, e2⟩
