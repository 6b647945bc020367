/-! ===== the model: the whole picture; remember ===== -/
def isHi (h : AH) (hist : List Gr) : Prop := ∃ H, h 127 = eI 2436 H ∧ hist.length ≤ 14 ∧ ∀ (j : Nat) (G : Gr), hist[j]? = some G → rwG (fun k => H (174 * j + k)) G ∧ okG G
def isSv (h : AH) (sl : Nat → Option Gr) : Prop := ∃ X U, h 128 = eI 348 X ∧ h 129 = eI 2 U ∧ ∀ i, i < 2 → (sl i = none ∧ U i = 0) ∨ ∃ G, sl i = some G ∧ U i = 1 ∧ rwG (fun k => X (174 * i + k)) G ∧ okG G
def isRows (h : AH) : Prop := (∃ D, h 125 = eI 174 D) ∧ (∃ D, h 126 = eI 174 D) ∧ isRe h ∧ (∃ D, h 137 = eI 9 D) ∧ ∃ D, h 138 = eI 6 D
/-- the whole object of the model -/
def isMo (h : AH) (y : Sy) (th : Int) : Prop := isMg h y.1 th y.2.2.2.1 y.2.1.length ∧ okG y.1 ∧ isMt h y.2.2.2.1 y.2.2.2.2 ∧ isHi h y.2.1 ∧ isSv h y.2.2.1 ∧ isRows h
theorem isHi_fr {h h' : AH} {hist : List Gr} (hH : isHi h hist) (e : h' 127 = h 127) : isHi h' hist := by
  obtain ⟨H, e0, r⟩ := hH
  exact ⟨H, e.trans e0, r⟩
theorem isSv_fr {h h' : AH} {sl : Nat → Option Gr} (hH : isSv h sl) (e : h' 128 = h 128) (e2 : h' 129 = h 129) : isSv h' sl := by
  obtain ⟨X, U, e0, e1, r⟩ := hH
  exact ⟨X, U, e.trans e0, e2.trans e1, r⟩
theorem isRe_fr {h h' : AH} (hH : isRe h) (e : h' 136 = h 136) : isRe h' := by
  obtain ⟨R, e0⟩ := hH
  exact ⟨R, e.trans e0⟩
theorem isRows_fr {h h' : AH} (hH : isRows h) (e : ∀ j, (j = 125 ∨ j = 126 ∨ j = 136 ∨ j = 137 ∨ j = 138) → h' j = h j) : isRows h' := by
  obtain ⟨⟨a, ha⟩, ⟨b, hb⟩, hc, ⟨c, hd⟩, f, hf⟩ := hH
  exact ⟨⟨a, (e _ (by omega)).trans ha⟩, ⟨b, (e _ (by omega)).trans hb⟩, isRe_fr hc (e _ (by omega)), ⟨c, (e _ (by omega)).trans hd⟩, f, (e _ (by omega)).trans hf⟩
theorem isMg_o {h : AH} {G : Gr} {th tl rm th' tl' rm' : Int} (hM : isMg h G th tl rm) : isMg (va_up h 122 (moO th' tl' rm' (nE G))) G th' tl' rm' := isMg_S (G := G) (G' := G) ⟨rfl, rfl, rfl, rfl⟩ hM (isM0_E hM.z) (fun j h1 h2 => va_up_ne _ _ (by omega))
theorem rem_row {H H' : Nat → Int} {S : Nat → Int} {l : List Gr} {G : Gr} (hl : ∀ (j : Nat) (G : Gr), l[j]? = some G → rwG (fun k => H (174 * j + k)) G ∧ okG G) (hR : rwG S G) (hG : okG G) (w1 : ∀ j, j < 174 → H' (174 * l.length + j) = S j) (w2 : ∀ j, ¬ (174 * l.length ≤ j ∧ j < 174 * l.length + 174) → H' j = H j) : ∀ (j : Nat) (G2 : Gr), (l ++ [G])[j]? = some G2 → rwG (fun k => H' (174 * j + k)) G2 ∧ okG G2 := by
  intro j G2 hj
  rcases Nat.lt_or_ge j l.length with q | q
  · rw [List.getElem?_append_left q] at hj
    obtain ⟨h1, h2⟩ := hl j G2 hj
    exact ⟨rw_congr h1 h2 (fun k hk => w2 _ (by omega)), h2⟩
  · rw [List.getElem?_append_right q] at hj
    obtain ⟨n, hn⟩ : ∃ n, j - l.length = n := ⟨_, rfl⟩
    rw [hn] at hj
    cases n with
    | zero =>
      have e : j = l.length := by omega
      cases hj
      subst e
      exact ⟨rw_congr hR hG (fun k hk => w1 k hk), hG⟩
    | succ n => cases hj
