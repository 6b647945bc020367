/-! ===== the model: fillings, hardest, mend ===== -/
theorem sm_skip {g : Nat → Nat} {m : Nat} : ∀ k i, (∀ j, i ≤ j → j < i + k → g j = 0) → smF g (k + m) i = smF g m (i + k)
  | 0, i, _ => by rw [Nat.zero_add, Nat.add_zero]
  | k + 1, i, h => by
    rw [show k + 1 + m = (k + m) + 1 by omega]
    show g i + smF g (k + m) (i + 1) = _
    rw [h i (Nat.le_refl _) (by omega), Nat.zero_add, sm_skip k (i + 1) (fun j h1 h2 => h j (by omega) (by omega)), show i + 1 + k = i + (k + 1) by omega]
theorem sm_none {g : Nat → Nat} {m i : Nat} (h : ∀ j, i ≤ j → j < i + m → g j = 0) : smF g m i = 0 := by
  have := sm_skip (g := g) (m := 0) m i h
  rw [Nat.add_zero] at this
  exact this
def gW9 (G : Gr) (r : Nat) (ch : List Nat) (w : Nat) : Nat := if okF G ch w = true then flF G r (ch ++ [w]) else 0
theorem sm_at {G : Gr} {r : Nat} {ch : List Nat} {m i c : Nat} (hm : i + m = qW G) (h1 : i ≤ c) (h2 : c < qW G) (hno : ∀ j, i ≤ j → j < c → okF G ch j = false) (hc : okF G ch c = true) : smF (gW9 G r ch) m i = flF G r (ch ++ [c]) + smF (gW9 G r ch) (qW G - (c + 1)) (c + 1) := by
  have e1 := sm_skip (g := gW9 G r ch) (m := (qW G - (c + 1)) + 1) (c - i) i (fun j h3 h4 => if_neg (by rw [hno j h3 (by omega)]; decide))
  rw [show c - i + (qW G - (c + 1) + 1) = m by omega, show i + (c - i) = c by omega] at e1
  rw [e1]
  show gW9 G r ch c + smF (gW9 G r ch) (qW G - (c + 1)) (c + 1) = _
  rw [show gW9 G r ch c = flF G r (ch ++ [c]) from if_pos hc]
theorem okF_len {G : Gr} {ch : List Nat} {w : Nat} (h : okF G ch w = true) : eN G ch.length = qWn G w := by
  unfold okF at h
  rw [Bool.and_eq_true, Bool.and_eq_true] at h
  exact fiG_len h.1.1
theorem isMo_c1 {h h' : AH} {y : Sy} {th : Int} {X : Nat → Int} (hY : isMo h y th) (e1 : h' 137 = eI 9 X) (hf : fr h h' 137 1) : isMo h' y th := by
  obtain ⟨hM, hG, hT, hHi, hSv, ⟨⟨a, ha⟩, ⟨b, hb⟩, hc, -, F9, hF⟩⟩ := hY
  exact ⟨isMg_f hM hf (by decide), hG, isMt_fr hT (hf _ (by omega)), isHi_fr hHi (hf _ (by omega)), isSv_fr hSv (hf _ (by omega)) (hf _ (by omega)), ⟨a, (hf _ (by omega)).trans ha⟩, ⟨b, (hf _ (by omega)).trans hb⟩, isRe_fr hc (hf _ (by omega)), ⟨X, e1⟩, F9, (hf _ (by omega)).trans hF⟩
def hdF (G : Gr) : Nat → Nat → Int → Nat → Int
  | 0, _, b, _ => b
  | r + 1, e, b, l => if 0 < emG G e ∧ fcG G e < l then hdF G r (e + 1) (e : Int) (fcG G e) else hdF G r (e + 1) b l
def opHardest (y : Sy) : Op := (0, hdF y.1 (nE y.1) 0 (-9) 9, y)
theorem fc_8 {G : Gr} (hG : okG G) {e : Nat} : fcG G e ≤ 8 := Nat.le_trans (ct_le _ _) hG.2.2.2.2.1
theorem em_6 {G : Gr} (hG : okG G) {e : Nat} (he : e < nE G) : emG G e ≤ 6 := Nat.le_trans (ct_le _ _) (eN_6 hG he).2
