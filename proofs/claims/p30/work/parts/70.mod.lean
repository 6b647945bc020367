/-! ===== the model's face: addWord, setLine, about ===== -/
def addW (G : Gr) (c : Nat) (t : Nat → Int) : Gr := (qR G, qC G, qL G, qE G, qS G, qW G + 1, va_up (qWn G) (qW G) c, fun w i => if w = qW G ∧ i < c then t i else qWl G w i, qN G, qNl G)
def addN (G : Gr) (c : Nat) (t : Nat → Int) : Gr := (qR G, qC G, qL G, qE G, qS G, qW G, qWn G, qWl G, c, fun i => if i < c then t i else qNl G i)
theorem begW_add {G : Gr} {t : Nat → Int} : begW G = addW G 0 t := by
  have e : (fun (w i : Nat) => if w = qW G ∧ i < 0 then t i else qWl G w i) = qWl G := funext fun w => funext fun i => if_neg (fun q => absurd q.2 (Nat.not_lt_zero _))
  unfold begW addW
  rw [e]
theorem noN_add {G : Gr} {t : Nat → Int} : noN G = addN G 0 t := by
  have e : (fun (i : Nat) => if i < 0 then t i else qNl G i) = qNl G := funext fun i => if_neg (Nat.not_lt_zero _)
  unfold noN addN
  rw [e]
theorem lenW_add {G : Gr} {c : Nat} {t : Nat → Int} : lenW (addW G c t) (t c) = addW G (c + 1) t := by
  have e1 : va_up (va_up (qWn G) (qW G) c) (qW G) (c + 1) = va_up (qWn G) (qW G) (c + 1) := funext fun j => by
    by_cases q : j = qW G
    · rw [q, va_up_self, va_up_self]
    · rw [va_up_ne _ _ q, va_up_ne _ _ q, va_up_ne _ _ q]
  have e2 : (fun (w i : Nat) => if w = qW G ∧ i = c then t c else if w = qW G ∧ i < c then t i else qWl G w i) = fun (w i : Nat) => if w = qW G ∧ i < c + 1 then t i else qWl G w i := funext fun w => funext fun i => by
    by_cases q : w = qW G
    · by_cases q2 : i = c
      · rw [if_pos ⟨q, q2⟩, if_pos ⟨q, by omega⟩, q2]
      · rw [if_neg (fun k => q2 k.2)]
        by_cases q3 : i < c
        · rw [if_pos ⟨q, q3⟩, if_pos ⟨q, by omega⟩]
        · rw [if_neg (fun k => q3 k.2), if_neg (fun k => by have := k.2; omega)]
    · rw [if_neg (fun k => q k.1), if_neg (fun k => q k.1), if_neg (fun k => q k.1)]
  show (qR G, qC G, qL G, qE G, qS G, qW G + 1, va_up (va_up (qWn G) (qW G) c) (qW G) (va_up (qWn G) (qW G) c (qW G) + 1), (fun (w i : Nat) => if w = qW G ∧ i = va_up (qWn G) (qW G) c (qW G) then t c else if w = qW G ∧ i < c then t i else qWl G w i), qN G, qNl G) = _
  rw [va_up_self, e1, e2]
  rfl
theorem lenN_add {G : Gr} {c : Nat} {t : Nat → Int} : lenN (addN G c t) (t c) = addN G (c + 1) t := by
  have e2 : va_up (fun (i : Nat) => if i < c then t i else qNl G i) c (t c) = fun (i : Nat) => if i < c + 1 then t i else qNl G i := funext fun i => by
    by_cases q2 : i = c
    · rw [q2, va_up_self, if_pos (Nat.lt_succ_self c)]
    · rw [va_up_ne _ _ q2]
      by_cases q3 : i < c
      · rw [if_pos q3, if_pos (by omega)]
      · rw [if_neg q3, if_neg (by omega)]
  show (qR G, qC G, qL G, qE G, qS G, qW G, qWn G, qWl G, c + 1, va_up (fun (i : Nat) => if i < c then t i else qNl G i) c (t c)) = _
  rw [e2]
  rfl
theorem lwF_add {n : Nat} {tx : Nat → Int} {G : Gr} : ∀ r i, lwF n tx r i (addW G i (sg n tx)) = addW G (i + r) (sg n tx)
  | 0, i => rfl
  | r + 1, i => by
    simp only [lwF]
    rw [lenW_add, lwF_add r (i + 1), show i + 1 + r = i + (r + 1) by omega]
theorem liF_add {n : Nat} {tx : Nat → Int} {G : Gr} : ∀ r i, liF n tx r i (addN G i (sg n tx)) = addN G (i + r) (sg n tx)
  | 0, i => rfl
  | r + 1, i => by
    simp only [liF]
    rw [lenN_add, liF_add r (i + 1), show i + 1 + r = i + (r + 1) by omega]
theorem lw_all {n : Nat} {tx : Nat → Int} {G : Gr} : lwF n tx n 0 (begW G) = addW G n (sg n tx) := by
  rw [begW_add (t := sg n tx), lwF_add, Nat.zero_add]
theorem li_all {n : Nat} {tx : Nat → Int} {G : Gr} : liF n tx n 0 (noN G) = addN G n (sg n tx) := by
  rw [noN_add (t := sg n tx), liF_add, Nat.zero_add]
theorem ok_addW {G : Gr} (hG : okG G) {c : Nat} {t : Nat → Int} (hw : qW G < 8) (hc : 2 ≤ c ∧ c ≤ 6) (ht : ∀ j, j < c → isLet (t j)) : okG (addW G c t) := by
  obtain ⟨g1, g2, g3, g4, g5, g6, g7, g8, g9⟩ := hG
  refine ⟨g1, g2, g3, g4, show qW G + 1 ≤ 8 by omega, fun w hw2 => ?_, fun w i hw2 hi => ?_, g8, g9⟩
  · have hw2 : w < qW G + 1 := hw2
    show 2 ≤ va_up (qWn G) (qW G) c w ∧ va_up (qWn G) (qW G) c w ≤ 6
    by_cases q : w = qW G
    · rw [q, va_up_self]
      exact hc
    · rw [va_up_ne _ _ q]
      exact g6 w (by omega)
  · have hw2 : w < qW G + 1 := hw2
    have hi : i < va_up (qWn G) (qW G) c w := hi
    show isLet (if w = qW G ∧ i < c then t i else qWl G w i)
    by_cases q : w = qW G
    · rw [q, va_up_self] at hi
      rw [if_pos ⟨q, hi⟩]
      exact ht i hi
    · rw [va_up_ne _ _ q] at hi
      rw [if_neg (fun k => q k.1)]
      exact g7 w i (by omega) hi
theorem ok_addN {G : Gr} (hG : okG G) {c : Nat} {t : Nat → Int} (hc : c ≤ 6) (ht : ∀ j, j < c → isLet (t j)) : okG (addN G c t) := by
  obtain ⟨g1, g2, g3, g4, g5, g6, g7, g8, g9⟩ := hG
  refine ⟨g1, g2, g3, g4, g5, g6, g7, hc, fun i hi => ?_⟩
  have hi : i < c := hi
  show isLet (if i < c then t i else qNl G i)
  rw [if_pos hi]
  exact ht i hi
theorem rw_addW {D D' : Nat → Int} {G : Gr} (hR : rwG D G) (hm36 : qM G ≤ 36) (hW : qW G < 8) (gWn : ∀ w, w < qW G → qWn G w ≤ 6) (gN : qN G ≤ 6) {c : Nat} {t : Nat → Int} (hc : c ≤ 6) (h1 : D' 110 = qW G + 1) (h2 : D' (111 + qW G) = c) (h3 : ∀ j, j < c → D' (119 + 6 * qW G + j) = t j) (h4 : ∀ k, k < 174 → ¬ k = 110 → ¬ k = 111 + qW G → ¬ (119 + 6 * qW G ≤ k ∧ k < 119 + 6 * qW G + 6) → D' k = D k) : rwG D' (addW G c t) := by
  obtain ⟨a0, a1, aL, aE, aS, a2, aW, aT, a3, aN⟩ := hR
  refine ⟨(h4 _ (by omega) (by omega) (by omega) (by omega)).trans a0, (h4 _ (by omega) (by omega) (by omega) (by omega)).trans a1, fun j hj => ?_, fun j hj => ?_, fun j hj => ?_, ?_, fun w hw => ?_, fun w i hw hi => ?_, (h4 _ (by omega) (by omega) (by omega) (by omega)).trans a3, fun i hi => ?_⟩
  · have hj : j < qM G := hj
    exact (h4 _ (by omega) (by omega) (by omega) (by omega)).trans (aL j hj)
  · have hj : j < qM G := hj
    exact (h4 _ (by omega) (by omega) (by omega) (by omega)).trans (aE j hj)
  · have hj : j < qM G := hj
    exact (h4 _ (by omega) (by omega) (by omega) (by omega)).trans (aS j hj)
  · rw [h1]
    rfl
  · have hw : w < qW G + 1 := hw
    show D' (111 + w) = ((va_up (qWn G) (qW G) c w : Nat) : Int)
    by_cases q : w = qW G
    · rw [q, va_up_self]
      exact h2
    · rw [va_up_ne _ _ q]
      exact (h4 _ (by omega) (by omega) (by omega) (by omega)).trans (aW w (by omega))
  · have hw : w < qW G + 1 := hw
    have hi : i < va_up (qWn G) (qW G) c w := hi
    show D' (119 + 6 * w + i) = if w = qW G ∧ i < c then t i else qWl G w i
    by_cases q : w = qW G
    · rw [q, va_up_self] at hi
      rw [if_pos ⟨q, hi⟩, q]
      exact h3 i hi
    · rw [va_up_ne _ _ q] at hi
      rw [if_neg (fun k => q k.1)]
      have := gWn w (by omega)
      exact (h4 _ (by omega) (by omega) (by omega) (by omega)).trans (aT w i (by omega) hi)
  · have hi : i < qN G := hi
    exact (h4 _ (by omega) (by omega) (by omega) (by omega)).trans (aN i hi)
theorem rw_addN {D D' : Nat → Int} {G : Gr} (hR : rwG D G) (hm36 : qM G ≤ 36) (hW : qW G ≤ 8) (gWn : ∀ w, w < qW G → qWn G w ≤ 6) {c : Nat} {t : Nat → Int} (h1 : D' 167 = c) (h3 : ∀ j, j < c → D' (168 + j) = t j) (h4 : ∀ k, k < 167 → D' k = D k) : rwG D' (addN G c t) := by
  obtain ⟨a0, a1, aL, aE, aS, a2, aW, aT, a3, aN⟩ := hR
  refine ⟨(h4 _ (by omega)).trans a0, (h4 _ (by omega)).trans a1, fun j hj => ?_, fun j hj => ?_, fun j hj => ?_, (h4 _ (by omega)).trans a2, fun w hw => ?_, fun w i hw hi => ?_, h1, fun i hi => ?_⟩
  · have hj : j < qM G := hj
    exact (h4 _ (by omega)).trans (aL j hj)
  · have hj : j < qM G := hj
    exact (h4 _ (by omega)).trans (aE j hj)
  · have hj : j < qM G := hj
    exact (h4 _ (by omega)).trans (aS j hj)
  · have hw : w < qW G := hw
    exact (h4 _ (by omega)).trans (aW w hw)
  · have hw : w < qW G := hw
    have := gWn w hw
    exact (h4 _ (by have hi : i < qWn G w := hi; omega)).trans (aT w i hw hi)
  · have hi : i < c := hi
    show D' (168 + i) = if i < c then t i else qNl G i
    rw [if_pos hi]
    exact h3 i hi
theorem iw_let {n l : Nat} {tx : Nat → Int} (h : iwG n tx l = true) : (l ≤ n ∧ n ≤ 6) ∧ ∀ j, j < n → isLet (sg n tx j) := by
  unfold iwG at h
  rw [Bool.and_eq_true, Bool.and_eq_true] at h
  obtain ⟨⟨h1, h2⟩, h3⟩ := h
  exact ⟨⟨of_decide_eq_true h1, of_decide_eq_true h2⟩, fun j hj => isLb_let ((al_iff n 0).mp h3 j (Nat.zero_le _) (by omega))⟩
theorem isMg_G {h h' : AH} {G G' : Gr} {th tl rm : Int} {S' : Nat → Int} (hs : sameB G' G) (hM : isMg h G th tl rm) (e : h' 124 = eI 174 S') (hR : rwG S' G') (hf : fr h h' 124 1) : isMg h' G' th tl rm := by
  obtain ⟨S, m0, -, -⟩ := hM.z
  exact isMg_S hs hM ⟨S', (hf _ (by omega)).trans m0, e, hR⟩ (fun j h1 h2 => hf j (by omega))
def dnS : List (Nat × Bool) → Nat
  | [] => 0
  | q :: t => tn q.2 + dnS t
theorem dnS_app : ∀ l m : List (Nat × Bool), dnS (l ++ m) = dnS l + dnS m
  | [], m => (Nat.zero_add _).symm
  | q :: t, m => by
    show tn q.2 + dnS (t ++ m) = tn q.2 + dnS t + dnS m
    rw [dnS_app t m]
    omega
theorem dnS_ents {G : Gr} : ∀ c, dnS (entsTo G c) = nb G true c
  | 0 => rfl
  | c + 1 => by
    simp only [entsTo, nb]
    rw [dnS_app, dnS_ents c, dnS_app]
    cases st G false c <;> cases st G true c <;> rfl
theorem ct_dnS {p : Nat → Bool} : ∀ (l : List (Nat × Bool)) (i : Nat), (∀ (j x : Nat) (b : Bool), l[j]? = some (x, b) → p (i + j) = b) → ctF p l.length i = dnS l
  | [], _, _ => rfl
  | q :: t, i, h => by
    show tn (p i) + ctF p t.length (i + 1) = tn q.2 + dnS t
    rw [ct_dnS t (i + 1) (fun j x b hj => by rw [show i + 1 + j = i + (j + 1) by omega]; exact h (j + 1) x b hj), show p i = q.2 from h 0 q.1 q.2 rfl]
theorem cntA_nb {G : Gr} : ∀ c, cntA G c = nb G false c
  | 0 => rfl
  | c + 1 => by
    simp only [cntA, nb]
    rw [cntA_nb c]
theorem dn_cnt {G : Gr} : cntA G (qM G) + ctF (eB G) (nE G) 0 = nE G := by
  have h1 : ctF (eB G) (nE G) 0 = dnS (ents G) := by
    have hl : nE G = (ents G).length := (entsTo_len G _).symm
    rw [hl]
    refine ct_dnS (ents G) 0 (fun j x b hj => ?_)
    rw [Nat.zero_add]
    unfold eB eP
    rw [hj]
  rw [h1, cntA_nb]
  unfold ents
  rw [dnS_ents]
  exact (cnt_nb _).symm
theorem clu_36 {G : Gr} : ∀ c, clu G c ≤ c
  | 0 => Nat.le_refl _
  | c + 1 => by
    have := clu_36 (G := G) c
    simp only [clu]
    cases st G false c || st G true c <;> simp only [tn] <;> omega
