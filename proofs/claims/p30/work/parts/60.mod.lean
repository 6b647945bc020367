/-! ===== the model: its picture; small methods ===== -/
abbrev moO (a b c e : Int) : AE := eO 7 [vI a, vR 123, vI b, vR 124, vR 125, vR 126, vR 127, vI c, vR 128, vR 129, vI e, vR 130, vR 131, vR 132, vR 133, vR 134, vR 135, vR 136, vR 137, vR 138]
/-- a row of 174 numbers is the grid -/
def rwG (S : Nat → Int) (G : Gr) : Prop := S 0 = qR G ∧ S 1 = qC G ∧ (∀ c, c < qM G → S (2 + c) = qL G c) ∧ (∀ c, c < qM G → S (38 + c) = bI (qE G c)) ∧ (∀ c, c < qM G → S (74 + c) = bI (qS G c)) ∧ S 110 = qW G ∧ (∀ w, w < qW G → S (111 + w) = qWn G w) ∧ (∀ w i, w < qW G → i < qWn G w → S (119 + 6 * w + i) = qWl G w i) ∧ S 167 = qN G ∧ ∀ i, i < qN G → S (168 + i) = qNl G i
/-- the object and the state's row -/
def isM0 (h : AH) (G : Gr) (th tl rm en : Int) : Prop := ∃ S, h 122 = moO th tl rm en ∧ h 124 = eI 174 S ∧ rwG S G
/-- the entries, too -/
def isMg (h : AH) (G : Gr) (th tl rm : Int) : Prop := ∃ F D L A W C, isM0 h G th tl rm (nE G) ∧ h 130 = eI 36 F ∧ h 131 = eI 36 D ∧ h 132 = eI 36 L ∧ h 133 = eI 36 A ∧ h 134 = eI 36 W ∧ h 135 = eI 36 C ∧ (∀ (e x : Nat) (b : Bool), (ents G)[e]? = some (x, b) → F e = x ∧ L e = ln G b x ∧ D e = bI b) ∧ (∀ x, x < qM G → A x = acr G false x) ∧ (∀ x, x < qM G → W x = acr G true x) ∧ ∀ x, x < qM G → C x = clue G x
theorem isMg.z {h : AH} {G : Gr} {th tl rm : Int} (hM : isMg h G th tl rm) : isM0 h G th tl rm (nE G) := by
  obtain ⟨F, D, L, A, W, C, hZ, -⟩ := hM
  exact hZ
theorem isM0_fr {h h' : AH} {G : Gr} {th tl rm en : Int} (hM : isM0 h G th tl rm en) (h1 : h' 122 = h 122) (h2 : h' 124 = h 124) : isM0 h' G th tl rm en := by
  obtain ⟨S, m0, m3, hR⟩ := hM
  exact ⟨S, h1.trans m0, h2.trans m3, hR⟩
theorem isMg_fr {h h' : AH} {G : Gr} {th tl rm : Int} (hM : isMg h G th tl rm) (he : ∀ j, (j = 122 ∨ j = 124 ∨ (130 ≤ j ∧ j ≤ 135)) → h' j = h j) : isMg h' G th tl rm := by
  obtain ⟨F, D, L, A, W, C, hZ, m11, m12, m13, m14, m15, m16, hr⟩ := hM
  exact ⟨F, D, L, A, W, C, isM0_fr hZ (he _ (by omega)) (he _ (by omega)), (he _ (by omega)).trans m11, (he _ (by omega)).trans m12, (he _ (by omega)).trans m13, (he _ (by omega)).trans m14, (he _ (by omega)).trans m15, (he _ (by omega)).trans m16, hr⟩
theorem qPb_f {G : Gr} (hG : okG G) {c : Nat} (hc : c < qM G) : qPb G c false = !decide (c % qC G = qC G - 1) := by
  obtain ⟨-, ⟨h1, h2⟩, -⟩ := hG
  have hm := Nat.mod_lt c (show 0 < qC G by omega)
  show (decide (c < qM G) && decide (c % qC G + 1 < qC G)) = _
  rw [decide_eq_true hc, Bool.true_and]
  by_cases q : c % qC G = qC G - 1
  · rw [decide_eq_true q, decide_eq_false (by omega)]
    rfl
  · rw [decide_eq_false q, decide_eq_true (by omega)]
    rfl
theorem qPb_t {G : Gr} (hG : okG G) {c : Nat} (hc : c < qM G) : qPb G c true = !decide (c / qC G = qR G - 1) := by
  obtain ⟨-, ⟨h1, h2⟩, -⟩ := hG
  have hp : 0 < qC G := by omega
  have hd : c / qC G < qR G := (Nat.div_lt_iff_lt_mul hp).mpr hc
  have h0 : (0 : Int) ≤ ((c / qC G : Nat) : Int) := Int.natCast_nonneg _
  have he : (c + qC G) / qC G = c / qC G + 1 := Nat.add_div_right c hp
  have hi : c + qC G < qM G ↔ c / qC G + 1 < qR G := by
    rw [← he]
    exact (Nat.div_lt_iff_lt_mul hp).symm
  show (decide (c < qM G) && decide (c + qC G < qM G)) = _
  rw [decide_eq_true hc, Bool.true_and]
  by_cases q : c / qC G = qR G - 1
  · rw [decide_eq_true q, decide_eq_false (fun k => by have := hi.mp k; omega)]
    rfl
  · rw [decide_eq_false q, decide_eq_true (hi.mpr (by omega))]
    rfl
theorem jn_b {G : Gr} {b : Bool} {c : Nat} (h : qB G b c = true) : bI (!jn G b c) = 1 := by
  unfold jn
  rw [h]
  simp [bI]
theorem jn_p {G : Gr} {b : Bool} {c : Nat} (h : qPb G c b = false) : bI (!jn G b c) = 1 := by
  unfold jn
  rw [h]
  simp [bI]
theorem jn_1 {G : Gr} {b : Bool} {c : Nat} (h : qPb G c b = true) (h' : qB G b c = false) : bI (!jn G b c) = 0 := by
  unfold jn
  rw [h, h']
  simp [bI]
theorem bI_nf {b : Bool} {z : Int} (h : z = bI (!b)) (hz : z = 0) : b = true := by
  have := bI_f h hz
  cases b with
  | true => rfl
  | false => cases this
theorem bI_nt {b : Bool} {z : Int} (h : z = bI (!b)) (hz : ¬ z = 0) : b = false := by
  have := bI_t h hz
  cases b with
  | false => rfl
  | true => cases this
theorem enC_2 {G : Gr} {x : Nat} : enC G x ≤ 2 := by
  unfold enC
  cases inE G false x <;> cases inE G true x <;> decide
