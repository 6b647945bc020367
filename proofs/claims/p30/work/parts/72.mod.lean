/-! ===== the model: words and line of the text; the whole text ===== -/
theorem rbW {n : Nat} {tx : Nat → Int} {p : Nat} {G : Gr} {c : Nat} {b : Bool} {s : Int} : qW (rbF n tx p G c b s).2 = qW G ∧ qN (rbF n tx p G c b s).2 = qN G := by
  unfold rbF
  by_cases q : qPb G c b = true ∧ sg n tx p = s
  · rw [if_pos q]
    cases b <;> exact ⟨rfl, rfl⟩
  · rw [if_neg q]
    exact ⟨rfl, rfl⟩
theorem rc_W {n : Nat} {tx : Nat → Int} : ∀ r c p G, qW (rcF n tx r c p G).2.2 = qW G ∧ qN (rcF n tx r c p G).2.2 = qN G
  | 0, _, _, _ => ⟨rfl, rfl⟩
  | r + 1, c, p, G => by
    by_cases q : sg n tx p = 46 ∨ isLb (sg n tx p) = true
    · rw [rc_S q]
      have h1 := rc_W (n := n) (tx := tx) r (c + 1) (rbF n tx (rbF n tx (p + 1) (setL G c (if sg n tx p = 46 then 0 else sg n tx p)) c false 124).1 (rbF n tx (p + 1) (setL G c (if sg n tx p = 46 then 0 else sg n tx p)) c false 124).2 c true 95).1 (rbF n tx (rbF n tx (p + 1) (setL G c (if sg n tx p = 46 then 0 else sg n tx p)) c false 124).1 (rbF n tx (p + 1) (setL G c (if sg n tx p = 46 then 0 else sg n tx p)) c false 124).2 c true 95).2
      have h2 := rbW (n := n) (tx := tx) (p := (rbF n tx (p + 1) (setL G c (if sg n tx p = 46 then 0 else sg n tx p)) c false 124).1) (G := (rbF n tx (p + 1) (setL G c (if sg n tx p = 46 then 0 else sg n tx p)) c false 124).2) (c := c) (b := true) (s := 95)
      have h3 := rbW (n := n) (tx := tx) (p := p + 1) (G := setL G c (if sg n tx p = 46 then 0 else sg n tx p)) (c := c) (b := false) (s := 124)
      exact ⟨h1.1.trans (h2.1.trans (h3.1.trans rfl)), h1.2.trans (h2.2.trans (h3.2.trans rfl))⟩
    · rw [rc_N q]
      exact ⟨rfl, rfl⟩
theorem gd_ok {n : Nat} {tx : Nat → Int} (h : (gdF n tx).1 = true) : okG (gdF n tx).2.2 := by
  unfold gdF at h ⊢
  by_cases q0 : sg n tx 0 = 71
  · rw [if_pos q0] at h ⊢
    by_cases q1 : szO n tx 1 = true
    · rw [if_pos q1] at h ⊢
      by_cases q2 : szO n tx 2 = true
      · rw [if_pos q2] at h ⊢
        have hlt : 3 ≤ n := by
          have : 2 < n := sg_lt (tx := tx) (i := 2) (by
            have := szO_t.mp q2
            omega)
          omega
        have k := rc_ok (n := n) (tx := tx) (szN n tx 1 * szN n tx 2) 0 3 (newG (szN n tx 1) (szN n tx 2)) (ok_newG (sz_n q1).1 (sz_n q2).1) hlt
        by_cases q3 : (rcF n tx (szN n tx 1 * szN n tx 2) 0 3 (newG (szN n tx 1) (szN n tx 2))).1 = true
        · rw [if_pos q3] at h ⊢
          exact rp_ok _ _ _ k.1 k.2 h
        · rw [if_neg q3] at h
          exact absurd h q3
      · rw [if_neg q2] at h
        cases h
    · rw [if_neg q1] at h
      cases h
  · rw [if_neg q0] at h
    cases h
theorem isMo_dr {h h' : AH} {y : Sy} {th : Int} {D : Nat → Int} (hY : isMo h y th) (e : h' 125 = eI 174 D) (hf : fr h h' 125 1) : isMo h' y th := by
  obtain ⟨hM, hG, hT, hHi, hSv, ⟨-, ⟨b, hb⟩, hc, ⟨c, hd⟩, f, hf2⟩⟩ := hY
  exact ⟨isMg_fr hM (fun j hj => hf j (by omega)), hG, isMt_fr hT (hf _ (by omega)), isHi_fr hHi (hf _ (by omega)), isSv_fr hSv (hf _ (by omega)) (hf _ (by omega)), ⟨D, e⟩, ⟨b, (hf _ (by omega)).trans hb⟩, isRe_fr hc (hf _ (by omega)), ⟨c, (hf _ (by omega)).trans hd⟩, f, (hf _ (by omega)).trans hf2⟩
theorem rb_le {n : Nat} {tx : Nat → Int} {p : Nat} {G : Gr} {c : Nat} {b : Bool} {s : Int} : (rbF n tx p G c b s).1 ≤ p + 1 := by
  unfold rbF
  by_cases q : qPb G c b = true ∧ sg n tx p = s
  · rw [if_pos q]
    exact Nat.le_refl _
  · rw [if_neg q]
    exact Nat.le_succ p
theorem rc_le {n : Nat} {tx : Nat → Int} : ∀ r c p G, (rcF n tx r c p G).2.1 ≤ p + 3 * r
  | 0, _, _, _ => Nat.le_refl _
  | r + 1, c, p, G => by
    by_cases q : sg n tx p = 46 ∨ isLb (sg n tx p) = true
    · rw [rc_S q]
      have h1 := rc_le (n := n) (tx := tx) r (c + 1) (rbF n tx (rbF n tx (p + 1) (setL G c (if sg n tx p = 46 then 0 else sg n tx p)) c false 124).1 (rbF n tx (p + 1) (setL G c (if sg n tx p = 46 then 0 else sg n tx p)) c false 124).2 c true 95).1 (rbF n tx (rbF n tx (p + 1) (setL G c (if sg n tx p = 46 then 0 else sg n tx p)) c false 124).1 (rbF n tx (p + 1) (setL G c (if sg n tx p = 46 then 0 else sg n tx p)) c false 124).2 c true 95).2
      have h2 := rb_le (n := n) (tx := tx) (p := (rbF n tx (p + 1) (setL G c (if sg n tx p = 46 then 0 else sg n tx p)) c false 124).1) (G := (rbF n tx (p + 1) (setL G c (if sg n tx p = 46 then 0 else sg n tx p)) c false 124).2) (c := c) (b := true) (s := 95)
      have h3 := rb_le (n := n) (tx := tx) (p := p + 1) (G := setL G c (if sg n tx p = 46 then 0 else sg n tx p)) (c := c) (b := false) (s := 124)
      omega
    · rw [rc_N q]
      show p ≤ p + 3 * (r + 1)
      omega
theorem rwF_le {n : Nat} {tx : Nat → Int} : ∀ r p G c, (rwF n tx r p G c).2.1 ≤ p + r
  | 0, _, _, _ => Nat.le_refl _
  | r + 1, p, G, c => by
    simp only [rwF]
    by_cases q : isLb (sg n tx p) = true
    · rw [if_pos q]
      have := rwF_le (n := n) (tx := tx) r (p + 1) (lenW G (sg n tx p)) (c + 1)
      omega
    · rw [if_neg q]
      show p ≤ p + (r + 1)
      omega
theorem rlF_le {n : Nat} {tx : Nat → Int} : ∀ r p G c, (rlF n tx r p G c).2.1 ≤ p + r
  | 0, _, _, _ => Nat.le_refl _
  | r + 1, p, G, c => by
    simp only [rlF]
    by_cases q : isLb (sg n tx p) = true
    · rw [if_pos q]
      have := rlF_le (n := n) (tx := tx) r (p + 1) (lenN G (sg n tx p)) (c + 1)
      omega
    · rw [if_neg q]
      show p ≤ p + (r + 1)
      omega
theorem rp_le {n : Nat} {tx : Nat → Int} : ∀ f p G, (rpF n tx f p G).2.1 ≤ p + 7 * f
  | 0, _, _ => Nat.le_refl _
  | f + 1, p, G => by
    simp only [rpF]
    have h1 := rwF_le (n := n) (tx := tx) 6 (p + 1) (begW G) 0
    have h2 := rlF_le (n := n) (tx := tx) 6 (p + 1) G 0
    have h3 := rp_le (n := n) (tx := tx) f (rwF n tx 6 (p + 1) (begW G) 0).2.1 (rwF n tx 6 (p + 1) (begW G) 0).2.2
    have h4 := rp_le (n := n) (tx := tx) f (rlF n tx 6 (p + 1) G 0).2.1 (rlF n tx 6 (p + 1) G 0).2.2
    split
    · show p ≤ _
      omega
    · split
      · split
        · omega
        · show (rwF n tx 6 (p + 1) (begW G) 0).2.1 ≤ _
          omega
      · split
        · split
          · omega
          · show (rlF n tx 6 (p + 1) G 0).2.1 ≤ _
            omega
        · show p ≤ _
          omega
theorem gd_le (n : Nat) (tx : Nat → Int) (_hn : n ≤ 150) : (gdF n tx).2.1 ≤ 200 := by
  unfold gdF
  split
  · split
    · rename_i q1
      split
      · rename_i q2
        have h1 := (sz_n q1).1
        have h2 := (sz_n q2).1
        have hm : szN n tx 1 * szN n tx 2 ≤ 36 := Nat.le_trans (Nat.mul_le_mul h1.2 h2.2) (by decide)
        have h3 := rc_le (n := n) (tx := tx) (szN n tx 1 * szN n tx 2) 0 3 (newG (szN n tx 1) (szN n tx 2))
        split
        · have h4 := rp_le (n := n) (tx := tx) 10 (rcF n tx (szN n tx 1 * szN n tx 2) 0 3 (newG (szN n tx 1) (szN n tx 2))).2.1 (rcF n tx (szN n tx 1 * szN n tx 2) 0 3 (newG (szN n tx 1) (szN n tx 2))).2.2
          omega
        · omega
      · show 2 ≤ 200
        decide
    · show 1 ≤ 200
      decide
  · show 0 ≤ 200
    decide
theorem isMa_b {h : AH} {G : Gr} {th tl rm : Int} {v : AE} (hA : isMa h G th tl rm) : isMa (va_up h 129 v) G th tl rm := by
  obtain ⟨E, F, D, L, A, W, C, hZ, m11, m12, m13, m14, m15, m16⟩ := hA
  exact ⟨E, F, D, L, A, W, C, isM0_fr hZ (va_up_ne _ _ (by decide)) (va_up_ne _ _ (by decide)), (va_up_ne _ _ (by decide)).trans m11, (va_up_ne _ _ (by decide)).trans m12, (va_up_ne _ _ (by decide)).trans m13, (va_up_ne _ _ (by decide)).trans m14, (va_up_ne _ _ (by decide)).trans m15, (va_up_ne _ _ (by decide)).trans m16⟩
