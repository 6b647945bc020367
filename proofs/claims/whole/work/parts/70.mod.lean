/-! ===== the model's face: addWord, setLine, about ===== -/
def addW (G : Gr) (c : Nat) (t : Nat → Int) : Gr := (qR G, qC G, qL G, qE G, qS G, qW G + 1, va_up (qWn G) (qW G) c, fun w i => if w = qW G ∧ i < c then t i else qWl G w i, qN G, qNl G)
def addN (G : Gr) (c : Nat) (t : Nat → Int) : Gr := (qR G, qC G, qL G, qE G, qS G, qW G, qWn G, qWl G, c, fun i => if i < c then t i else qNl G i)
theorem begW_add {G : Gr} {t : Nat → Int} : begW G = addW G 0 t := by
  have e : (fun (w i : Nat) => if w = qW G ∧ i < 0 then t i else qWl G w i) = qWl G := funext fun w => funext fun i => if_neg (fun q => absurd q.2 (Nat.not_lt_zero _))
  unfold begW addW
  rw [e]
theorem noN_add {G : Gr} {t : Nat → Int} : noN G = addN G 0 t := by
  have e : (fun (i : Nat) => if i < 0 then t i else qNl G i) = qNl G := funext fun i => if_neg (Nat.not_lt_zero _)
  unfold noN addN
  rw [e]
theorem lenW_add {G : Gr} {c : Nat} {t : Nat → Int} : lenW (addW G c t) (t c) = addW G (c + 1) t := by
  have e1 : va_up (va_up (qWn G) (qW G) c) (qW G) (c + 1) = va_up (qWn G) (qW G) (c + 1) := funext fun j => by
    by_cases q : j = qW G
    · rw [q, va_up_self, va_up_self]
    · rw [va_up_ne _ _ q, va_up_ne _ _ q, va_up_ne _ _ q]
  have e2 : (fun (w i : Nat) => if w = qW G ∧ i = c then t c else if w = qW G ∧ i < c then t i else qWl G w i) = fun (w i : Nat) => if w = qW G ∧ i < c + 1 then t i else qWl G w i := funext fun w => funext fun i => by
    by_cases q : w = qW G
    · by_cases q2 : i = c
      · rw [if_pos ⟨q, q2⟩, if_pos ⟨q, by omega⟩, q2]
      · rw [if_neg (fun k => q2 k.2)]
        by_cases q3 : i < c
        · rw [if_pos ⟨q, q3⟩, if_pos ⟨q, by omega⟩]
        · rw [if_neg (fun k => q3 k.2), if_neg (fun k => by have := k.2; omega)]
    · rw [if_neg (fun k => q k.1), if_neg (fun k => q k.1), if_neg (fun k => q k.1)]
  show (qR G, qC G, qL G, qE G, qS G, qW G + 1, va_up (va_up (qWn G) (qW G) c) (qW G) (va_up (qWn G) (qW G) c (qW G) + 1), (fun (w i : Nat) => if w = qW G ∧ i = va_up (qWn G) (qW G) c (qW G) then t c else if w = qW G ∧ i < c then t i else qWl G w i), qN G, qNl G) = _
  rw [va_up_self, e1, e2]
  rfl
theorem lenN_add {G : Gr} {c : Nat} {t : Nat → Int} : lenN (addN G c t) (t c) = addN G (c + 1) t := by
  have e2 : va_up (fun (i : Nat) => if i < c then t i else qNl G i) c (t c) = fun (i : Nat) => if i < c + 1 then t i else qNl G i := funext fun i => by
    by_cases q2 : i = c
    · rw [q2, va_up_self, if_pos (Nat.lt_succ_self c)]
    · rw [va_up_ne _ _ q2]
      by_cases q3 : i < c
      · rw [if_pos q3, if_pos (by omega)]
      · rw [if_neg q3, if_neg (by omega)]
  show (qR G, qC G, qL G, qE G, qS G, qW G, qWn G, qWl G, c + 1, va_up (fun (i : Nat) => if i < c then t i else qNl G i) c (t c)) = _
  rw [e2]
  rfl
theorem lwF_add {n : Nat} {tx : Nat → Int} {G : Gr} : ∀ r i, lwF n tx r i (addW G i (sg n tx)) = addW G (i + r) (sg n tx)
  | 0, i => rfl
  | r + 1, i => by
    simp only [lwF]
    rw [lenW_add, lwF_add r (i + 1), show i + 1 + r = i + (r + 1) by omega]
theorem liF_add {n : Nat} {tx : Nat → Int} {G : Gr} : ∀ r i, liF n tx r i (addN G i (sg n tx)) = addN G (i + r) (sg n tx)
  | 0, i => rfl
  | r + 1, i => by
    simp only [liF]
    rw [lenN_add, liF_add r (i + 1), show i + 1 + r = i + (r + 1) by omega]
theorem lw_all {n : Nat} {tx : Nat → Int} {G : Gr} : lwF n tx n 0 (begW G) = addW G n (sg n tx) := by
  rw [begW_add (t := sg n tx), lwF_add, Nat.zero_add]
theorem li_all {n : Nat} {tx : Nat → Int} {G : Gr} : liF n tx n 0 (noN G) = addN G n (sg n tx) := by
  rw [noN_add (t := sg n tx), liF_add, Nat.zero_add]
theorem ok_addW {G : Gr} (hG : okG G) {c : Nat} {t : Nat → Int} (hw : qW G < 8) (hc : 2 ≤ c ∧ c ≤ 6) (ht : ∀ j, j < c → isLet (t j)) : okG (addW G c t) := by
  obtain ⟨g1, g2, g3, g4, g5, g6, g7, g8, g9⟩ := hG
  refine ⟨g1, g2, g3, g4, show qW G + 1 ≤ 8 by omega, fun w hw2 => ?_, fun w i hw2 hi => ?_, g8, g9⟩
  · have hw2 : w < qW G + 1 := hw2
    show 2 ≤ va_up (qWn G) (qW G) c w ∧ va_up (qWn G) (qW G) c w ≤ 6
    by_cases q : w = qW G
    · rw [q, va_up_self]
      exact hc
    · rw [va_up_ne _ _ q]
      exact g6 w (by omega)
  · have hw2 : w < qW G + 1 := hw2
    have hi : i < va_up (qWn G) (qW G) c w := hi
    show isLet (if w = qW G ∧ i < c then t i else qWl G w i)
    by_cases q : w = qW G
    · rw [q, va_up_self] at hi
      rw [if_pos ⟨q, hi⟩]
      exact ht i hi
    · rw [va_up_ne _ _ q] at hi
      rw [if_neg (fun k => q k.1)]
      exact g7 w i (by omega) hi
theorem ok_addN {G : Gr} (hG : okG G) {c : Nat} {t : Nat → Int} (hc : c ≤ 6) (ht : ∀ j, j < c → isLet (t j)) : okG (addN G c t) := by
  obtain ⟨g1, g2, g3, g4, g5, g6, g7, g8, g9⟩ := hG
  refine ⟨g1, g2, g3, g4, g5, g6, g7, hc, fun i hi => ?_⟩
  have hi : i < c := hi
  show isLet (if i < c then t i else qNl G i)
  rw [if_pos hi]
  exact ht i hi
theorem rw_addW {D D' : Nat → Int} {G : Gr} (hR : rwG D G) (hm36 : qM G ≤ 36) (hW : qW G < 8) (gWn : ∀ w, w < qW G → qWn G w ≤ 6) (gN : qN G ≤ 6) {c : Nat} {t : Nat → Int} (hc : c ≤ 6) (h1 : D' 110 = qW G + 1) (h2 : D' (111 + qW G) = c) (h3 : ∀ j, j < c → D' (119 + 6 * qW G + j) = t j) (h4 : ∀ k, k < 174 → ¬ k = 110 → ¬ k = 111 + qW G → ¬ (119 + 6 * qW G ≤ k ∧ k < 119 + 6 * qW G + 6) → D' k = D k) : rwG D' (addW G c t) := by
  obtain ⟨a0, a1, aL, aE, aS, a2, aW, aT, a3, aN⟩ := hR
  refine ⟨(h4 _ (by omega) (by omega) (by omega) (by omega)).trans a0, (h4 _ (by omega) (by omega) (by omega) (by omega)).trans a1, fun j hj => ?_, fun j hj => ?_, fun j hj => ?_, ?_, fun w hw => ?_, fun w i hw hi => ?_, (h4 _ (by omega) (by omega) (by omega) (by omega)).trans a3, fun i hi => ?_⟩
  · have hj : j < qM G := hj
    exact (h4 _ (by omega) (by omega) (by omega) (by omega)).trans (aL j hj)
  · have hj : j < qM G := hj
    exact (h4 _ (by omega) (by omega) (by omega) (by omega)).trans (aE j hj)
  · have hj : j < qM G := hj
    exact (h4 _ (by omega) (by omega) (by omega) (by omega)).trans (aS j hj)
  · rw [h1]
    rfl
  · have hw : w < qW G + 1 := hw
    show D' (111 + w) = ((va_up (qWn G) (qW G) c w : Nat) : Int)
    by_cases q : w = qW G
    · rw [q, va_up_self]
      exact h2
    · rw [va_up_ne _ _ q]
      exact (h4 _ (by omega) (by omega) (by omega) (by omega)).trans (aW w (by omega))
  · have hw : w < qW G + 1 := hw
    have hi : i < va_up (qWn G) (qW G) c w := hi
    show D' (119 + 6 * w + i) = if w = qW G ∧ i < c then t i else qWl G w i
    by_cases q : w = qW G
    · rw [q, va_up_self] at hi
      rw [if_pos ⟨q, hi⟩, q]
      exact h3 i hi
    · rw [va_up_ne _ _ q] at hi
      rw [if_neg (fun k => q k.1)]
      have := gWn w (by omega)
      exact (h4 _ (by omega) (by omega) (by omega) (by omega)).trans (aT w i (by omega) hi)
  · have hi : i < qN G := hi
    exact (h4 _ (by omega) (by omega) (by omega) (by omega)).trans (aN i hi)
theorem rw_addN {D D' : Nat → Int} {G : Gr} (hR : rwG D G) (hm36 : qM G ≤ 36) (hW : qW G ≤ 8) (gWn : ∀ w, w < qW G → qWn G w ≤ 6) {c : Nat} {t : Nat → Int} (h1 : D' 167 = c) (h3 : ∀ j, j < c → D' (168 + j) = t j) (h4 : ∀ k, k < 167 → D' k = D k) : rwG D' (addN G c t) := by
  obtain ⟨a0, a1, aL, aE, aS, a2, aW, aT, a3, aN⟩ := hR
  refine ⟨(h4 _ (by omega)).trans a0, (h4 _ (by omega)).trans a1, fun j hj => ?_, fun j hj => ?_, fun j hj => ?_, (h4 _ (by omega)).trans a2, fun w hw => ?_, fun w i hw hi => ?_, h1, fun i hi => ?_⟩
  · have hj : j < qM G := hj
    exact (h4 _ (by omega)).trans (aL j hj)
  · have hj : j < qM G := hj
    exact (h4 _ (by omega)).trans (aE j hj)
  · have hj : j < qM G := hj
    exact (h4 _ (by omega)).trans (aS j hj)
  · have hw : w < qW G := hw
    exact (h4 _ (by omega)).trans (aW w hw)
  · have hw : w < qW G := hw
    have := gWn w hw
    exact (h4 _ (by have hi : i < qWn G w := hi; omega)).trans (aT w i hw hi)
  · have hi : i < c := hi
    show D' (168 + i) = if i < c then t i else qNl G i
    rw [if_pos hi]
    exact h3 i hi
theorem iw_let {n l : Nat} {tx : Nat → Int} (h : iwG n tx l = true) : (l ≤ n ∧ n ≤ 6) ∧ ∀ j, j < n → isLet (sg n tx j) := by
  unfold iwG at h
  rw [Bool.and_eq_true, Bool.and_eq_true] at h
  obtain ⟨⟨h1, h2⟩, h3⟩ := h
  exact ⟨⟨of_decide_eq_true h1, of_decide_eq_true h2⟩, fun j hj => isLb_let ((al_iff n 0).mp h3 j (Nat.zero_le _) (by omega))⟩
theorem isMg_G {h h' : AH} {G G' : Gr} {th tl rm : Int} {S' : Nat → Int} (hs : sameB G' G) (hM : isMg h G th tl rm) (e : h' 124 = eI 174 S') (hR : rwG S' G') (hf : fr h h' 124 1) : isMg h' G' th tl rm := by
  obtain ⟨S, m0, -, -⟩ := hM.z
  exact isMg_S hs hM ⟨S', (hf _ (by omega)).trans m0, e, hR⟩ (fun j h1 h2 => hf j (by omega))
theorem maw_loop {d N n : Nat} {Q : AQ} {W : Nat} (hW8 : W < 8) {th rm en : Int} {tx tf S0 : Nat → Int} (hN : 139 ≤ N) (hn6 : n ≤ 6) (htf : ∀ i, i < n → tf i = tx i ∧ 0 ≤ tf i ∧ tf i ≤ 255) : ∀ (r i : Nat) (h : AH) (S : Nat → Int) (zi : Int), i + r = n → zi = i → h 122 = moO th n rm en → h 123 = eI 150 tf → h 124 = eI 174 S → (∀ j, j < i → S ((119 + 6 * W) + j) = sg n tx j) → (∀ j, ¬ ((119 + 6 * W) ≤ j ∧ j < (119 + 6 * W) + 6) → S j = S0 j) → (∀ h' S' z', h' 122 = moO th n rm en → h' 123 = eI 150 tf → h' 124 = eI 174 S' → (∀ j, j < n → S' ((119 + 6 * W) + j) = sg n tx j) → (∀ j, ¬ ((119 + 6 * W) ≤ j ∧ j < (119 + 6 * W) + 6) → S' j = S0 j) → fr h h' 124 1 → Run mi_X9_addWord (T d) Q 86 [some (vR 122), some (vI W), some (vI z')] [] h' N 0 0) → Run mi_X9_addWord (T d) Q 52 [some (vR 122), some (vI W), some (vI zi)] [] h N 0 0 := by
  intro r
  induction r using Nat.strongRecOn with
  | ind r ih =>
  intro i h S zi hr hzi m0 m1 m3 v1 v2 kc
  refine R_iload_n rfl rfl ?_
  refine R_aload_n rfl rfl ?_
  refine R_getfield rfl rfl (by omega) m0 rfl ?_
  refine R_icmpge rfl ⟨by omega, by omega⟩ ⟨by omega, by omega⟩ (fun c57 => ?_) (fun c57 => ?_)
  · have hr0 : r = 0 := by omega
    subst hr0
    have hi : i = n := by omega
    subst hi
    exact kc h S _ m0 m1 m3 v1 v2 fr.refl
  · obtain ⟨r, rfl⟩ : ∃ r1, r = r1 + 1 := ⟨r - 1, by omega⟩
    refine R_aload_n rfl rfl ?_
    refine R_getfield rfl rfl (by omega) m0 rfl ?_
    refine R_bipush rfl ?_
    refine R_bipush rfl ?_
    refine R_iload_n rfl rfl ?_
    refine R_imul rfl ?_
    refine R_iadd rfl ?_
    refine R_iload_n rfl rfl ?_
    refine R_iadd rfl ?_
    refine R_aload_n rfl rfl ?_
    refine R_getfield rfl rfl (by omega) m0 rfl ?_
    refine R_iload_n rfl rfl ?_
    refine R_iaload rfl (Or.inl (by omega)) m1 ⟨by omega, by omega, by omega⟩ ?_
    refine R_iastore rfl (by omega) m3 ⟨by omega, by omega, by omega⟩ ?_
    refine R_iinc (lv' := [_, _, _]) rfl rfl rfl ?_
    refine R_goto rfl ?_
    exact ih r (by omega) (i + 1) _ _ _ (by omega) (by omega) ((va_up_ne _ _ (by decide)).trans m0) ((va_up_ne _ _ (by decide)).trans m1) (va_up_self _ _ _) (fun j hj => by
      by_cases q : j = i
      · rw [q, show ((119 + 6 * W) : Nat) + i = (119 + 6 * (W : Int) + zi).toNat by omega, va_up_self, show zi.toNat = i by omega, (htf i (by omega)).1]
        exact (if_pos (show i < n by omega)).symm
      · rw [va_up_ne _ _ (by omega)]
        exact v1 j (by omega)) (fun j hj => (va_up_ne _ _ (by omega)).trans (v2 j hj)) (fun h1 S1 z1 q1 q2 q3 q4 q5 q6 => kc h1 S1 z1 q1 q2 q3 q4 q5 (fr_0.trans q6))
theorem msl_loop {d N n : Nat} {Q : AQ} {th rm en : Int} {tx tf S0 : Nat → Int} (hN : 139 ≤ N) (hn6 : n ≤ 6) (htf : ∀ i, i < n → tf i = tx i ∧ 0 ≤ tf i ∧ tf i ≤ 255) : ∀ (r i : Nat) (h : AH) (S : Nat → Int) (zi : Int), i + r = n → zi = i → h 122 = moO th n rm en → h 123 = eI 150 tf → h 124 = eI 174 S → (∀ j, j < i → S (168 + j) = sg n tx j) → (∀ j, ¬ (168 ≤ j ∧ j < 168 + 6) → S j = S0 j) → (∀ h' S' z', h' 122 = moO th n rm en → h' 123 = eI 150 tf → h' 124 = eI 174 S' → (∀ j, j < n → S' (168 + j) = sg n tx j) → (∀ j, ¬ (168 ≤ j ∧ j < 168 + 6) → S' j = S0 j) → fr h h' 124 1 → Run mi_X9_setLine (T d) Q 62 [some (vR 122), some (vI z')] [] h' N 0 0) → Run mi_X9_setLine (T d) Q 32 [some (vR 122), some (vI zi)] [] h N 0 0 := by
  intro r
  induction r using Nat.strongRecOn with
  | ind r ih =>
  intro i h S zi hr hzi m0 m1 m3 v1 v2 kc
  refine R_iload_n rfl rfl ?_
  refine R_aload_n rfl rfl ?_
  refine R_getfield rfl rfl (by omega) m0 rfl ?_
  refine R_icmpge rfl ⟨by omega, by omega⟩ ⟨by omega, by omega⟩ (fun c37 => ?_) (fun c37 => ?_)
  · have hr0 : r = 0 := by omega
    subst hr0
    have hi : i = n := by omega
    subst hi
    exact kc h S _ m0 m1 m3 v1 v2 fr.refl
  · obtain ⟨r, rfl⟩ : ∃ r1, r = r1 + 1 := ⟨r - 1, by omega⟩
    refine R_aload_n rfl rfl ?_
    refine R_getfield rfl rfl (by omega) m0 rfl ?_
    refine R_sipush rfl ?_
    refine R_iload_n rfl rfl ?_
    refine R_iadd rfl ?_
    refine R_aload_n rfl rfl ?_
    refine R_getfield rfl rfl (by omega) m0 rfl ?_
    refine R_iload_n rfl rfl ?_
    refine R_iaload rfl (Or.inl (by omega)) m1 ⟨by omega, by omega, by omega⟩ ?_
    refine R_iastore rfl (by omega) m3 ⟨by omega, by omega, by omega⟩ ?_
    refine R_iinc (lv' := [_, _]) rfl rfl rfl ?_
    refine R_goto rfl ?_
    exact ih r (by omega) (i + 1) _ _ _ (by omega) (by omega) ((va_up_ne _ _ (by decide)).trans m0) ((va_up_ne _ _ (by decide)).trans m1) (va_up_self _ _ _) (fun j hj => by
      by_cases q : j = i
      · rw [q, show (168 : Nat) + i = (168 + zi).toNat by omega, va_up_self, show zi.toNat = i by omega, (htf i (by omega)).1]
        exact (if_pos (show i < n by omega)).symm
      · rw [va_up_ne _ _ (by omega)]
        exact v1 j (by omega)) (fun j hj => (va_up_ne _ _ (by omega)).trans (v2 j hj)) (fun h1 S1 z1 q1 q2 q3 q4 q5 q6 => kc h1 S1 z1 q1 q2 q3 q4 q5 (fr_0.trans q6))
theorem mAddWord_T {d N : Nat} {h : AH} {th : Int} {Q : AQ} {G : Gr} {hist : List Gr} {sl : Nat → Option Gr} {n : Nat} {tx : Nat → Int} (hY : isMo h (G, hist, sl, n, tx) th) (hN : 139 ≤ N) (hQ : moQ (opAddWord (G, hist, sl, n, tx)) h N Q) : T (d + 3) 182 [vR 122] h N Q := by
  obtain ⟨hM, hG, hT, hHi, hSv, hRw⟩ := id hY
  have hM : isMg h G th n hist.length := hM
  have hG : okG G := hG
  have hT : isMt h n tx := hT
  have hHi : isHi h hist := hHi
  have hSv : isSv h sl := hSv
  obtain ⟨F, D, L, A, W, C, hZ, m11, m12, m13, m14, m15, m16, hE, hA, hW, hC⟩ := id hM
  obtain ⟨S, m0, m3, hR⟩ := id hZ
  obtain ⟨hr0, hr1, rL, rE, rS, hr110, rWn, rWl, hr167, rNl⟩ := id hR
  have r0 : S (0 : Int).toNat = (qR G : Int) := hr0
  have r1 : S (1 : Int).toNat = (qC G : Int) := hr1
  have r110 : S (110 : Int).toNat = (qW G : Int) := hr110
  have r167 : S (167 : Int).toNat = (qN G : Int) := hr167
  obtain ⟨hm4, hm36⟩ := hG.m
  have hmi := qM_int G
  obtain ⟨⟨hr2, hr6⟩, ⟨hc2, hc6⟩, gL, gB, gW, gWn, gWl, gN, gNl⟩ := id hG
  have hn36 := nE36 hG
  obtain ⟨tf, m1, hn150, htf⟩ := id hT
  refine T_body (I := mi_X9_addWord) (lv := [_, _, _]) rfl (Nat.le_of_ble_eq_true rfl) rfl ?_
  refine R_aload_n rfl rfl ?_
  refine R_aload_n rfl rfl ?_
  refine R_iconst rfl ?_
  refine R_vcall rfl rfl ⟨(by omega), _, m0⟩ ⟨Nat.le_of_ble_eq_true rfl, Nat.le_of_ble_eq_true rfl, Nat.zero_le _, Nat.zero_le _⟩ (mIsLetters_T (l := 2) hZ hT hN rfl (by decide) (fun z3 hz3 => aRes_i (rest := [_]) ?_))
  have h01 := bI01 (iwG n tx 2)
  rw [← hz3] at h01
  refine R_ifeq rfl ⟨by omega, by omega⟩ (fun c6 => ?_) (fun c6 => ?_)
  · have ho : opAddWord (G, hist, sl, n, tx) = (0 + 1, 0, (G, hist, sl, n, tx)) := if_neg (fun q => by
      have q1 : iwG n tx 2 = true := q.1
      have q2 : qW G < 8 := q.2
      rw [bI_f hz3 (by omega)] at q1
      cases q1)
    refine R_iconst rfl ?_
    refine R_putfield rfl rfl (by omega) m0 (Nat.le_of_ble_eq_true rfl) (by first | trivial | exact trivial | omega) ?_
    have hM1 : isMg _ G 1 n hist.length := isMg_o (th' := 1) (tl' := n) (rm' := hist.length) hM
    refine R_aload_n rfl rfl ?_
    refine R_getfield rfl rfl (by omega) (va_up_self _ _ _) rfl ?_
    refine R_ifle rfl ⟨by decide, by decide⟩ (fun c0 => absurd c0 (by decide)) (fun _ => ?_)
    refine R_iconst rfl ?_
    exact R_ireturn rfl (fun q => absurd q (by decide)) (Nat.zero_le _) (Nat.zero_le _) (moQ_t hQ ho rfl (isMo_th hY) (fr_up fr.refl (by omega)))
  · refine R_aload_n rfl rfl ?_
    refine R_getfield rfl rfl (by omega) m0 rfl ?_
    refine R_bipush rfl ?_
    refine R_iaload rfl (Or.inl (by omega)) m3 ⟨by omega, by omega, by omega⟩ ?_
    refine R_bipush rfl ?_
    rw [r110]
    refine R_icmpge rfl ⟨by omega, by omega⟩ ⟨by decide, by decide⟩ (fun c18 => ?_) (fun c18 => ?_)
    · have ho : opAddWord (G, hist, sl, n, tx) = (0 + 1, 0, (G, hist, sl, n, tx)) := if_neg (fun q => by
        have q1 : iwG n tx 2 = true := q.1
        have q2 : qW G < 8 := q.2
        omega)
      refine R_iconst rfl ?_
      refine R_putfield rfl rfl (by omega) m0 (Nat.le_of_ble_eq_true rfl) (by first | trivial | exact trivial | omega) ?_
      have hM1 : isMg _ G 1 n hist.length := isMg_o (th' := 1) (tl' := n) (rm' := hist.length) hM
      refine R_aload_n rfl rfl ?_
      refine R_getfield rfl rfl (by omega) (va_up_self _ _ _) rfl ?_
      refine R_ifle rfl ⟨by decide, by decide⟩ (fun c0 => absurd c0 (by decide)) (fun _ => ?_)
      refine R_iconst rfl ?_
      exact R_ireturn rfl (fun q => absurd q (by decide)) (Nat.zero_le _) (Nat.zero_le _) (moQ_t hQ ho rfl (isMo_th hY) (fr_up fr.refl (by omega)))
    · have hiw := bI_t hz3 (by omega)
      obtain ⟨⟨hn2, hn6⟩, hlt⟩ := iw_let hiw
      have ho : opAddWord (G, hist, sl, n, tx) = (0, ((qW G : Nat) : Int), (addW G n (sg n tx), rem14 hist G, sl, n, tx)) := (if_pos (show iwG n tx 2 = true ∧ qW G < 8 from ⟨hiw, by omega⟩)).trans (by show (_, _, actS _ (lwF n tx n 0 (begW G))) = _; rw [lw_all]; rfl)
      refine R_iconst rfl ?_
      refine R_goto rfl ?_
      refine R_putfield rfl rfl (by omega) m0 (Nat.le_of_ble_eq_true rfl) (by first | trivial | exact trivial | omega) ?_
      have hM1 : isMg _ G 0 n hist.length := isMg_o (th' := 0) (tl' := n) (rm' := hist.length) hM
      refine R_aload_n rfl rfl ?_
      refine R_getfield rfl rfl (by omega) (va_up_self _ _ _) rfl ?_
      refine R_ifle rfl ⟨by decide, by decide⟩ (fun _ => ?_) (fun c0 => absurd c0 (by decide))
      refine R_aload_n rfl rfl ?_
      refine R_vcall rfl rfl ⟨(by omega), _, (va_up_self _ _ _)⟩ ⟨Nat.le_of_ble_eq_true rfl, Nat.le_of_ble_eq_true rfl, Nat.zero_le _, Nat.zero_le _⟩ (mRemember_T hM1 hG hN (isHi_fr hHi (va_up_ne _ _ (by decide))) (fun h2 hM2 hH2 f2 => aRes_v (rest := []) ?_))
      obtain ⟨S2, n0, n3, hR2⟩ := hM2.z
      have t1 : h2 123 = eI 150 tf := (f2 _ (by decide)).trans ((va_up_ne _ _ (by decide)).trans m1)
      have q110 : S2 (110 : Int).toNat = (qW G : Int) := hR2.2.2.2.2.2.1
      refine R_aload_n rfl rfl ?_
      refine R_getfield rfl rfl (by omega) n0 rfl ?_
      refine R_bipush rfl ?_
      refine R_iaload rfl (Or.inl (by omega)) n3 ⟨by omega, by omega, by omega⟩ ?_
      rw [q110]
      refine R_istore_n (lv' := [_, _, _]) rfl rfl ?_
      refine R_iconst rfl ?_
      refine R_istore_n (lv' := [_, _, _]) rfl rfl ?_
      refine maw_loop (W := qW G) (by omega) hN hn6 htf n 0 h2 S2 _ (Nat.zero_add _) rfl n0 t1 n3 (fun j hj => absurd hj (Nat.not_lt_zero _)) (fun j _ => rfl) (fun h3 S3 z3 k9 k1 k3 v1 v2 f3 => ?_)
      refine R_aload_n rfl rfl ?_
      refine R_getfield rfl rfl (by omega) k9 rfl ?_
      refine R_bipush rfl ?_
      refine R_iload_n rfl rfl ?_
      refine R_iadd rfl ?_
      refine R_aload_n rfl rfl ?_
      refine R_getfield rfl rfl (by omega) k9 rfl ?_
      refine R_iastore rfl (by omega) k3 ⟨by omega, by omega, by omega⟩ ?_
      refine R_aload_n rfl rfl ?_
      refine R_getfield rfl rfl (by omega) ((va_up_ne _ _ (by first | exact kne rfl | exact kz | exact kz.symm | omega)).trans k9) rfl ?_
      refine R_bipush rfl ?_
      refine R_dup2 rfl ⟨rfl, rfl⟩ ?_
      refine R_iaload rfl (Or.inl (by omega)) (va_up_self _ _ _) ⟨by omega, by omega, by omega⟩ ?_
      refine R_iconst rfl ?_
      refine R_iadd rfl ?_
      refine R_iastore rfl (by omega) (va_up_self _ _ _) ⟨by omega, by omega, by omega⟩ ?_
      refine R_iload_n rfl rfl ?_
      exact R_ireturn rfl (fun q => absurd q (by decide)) (Nat.zero_le _) (Nat.zero_le _) (moQ_v hQ ho (isMo_g hY (isMg_G (G := G) (G' := addW G n (sg n tx)) ⟨rfl, rfl, rfl, rfl⟩ hM2 (va_up_self _ _ _) (rw_addW hR2 hm36 (by omega) (fun w hw => (gWn w hw).2) gN (by omega) ((va_up_self _ _ _).trans (by
          rw [va_up_ne _ _ (show ¬ (110 : Int).toNat = (111 + (qW G : Int)).toNat by omega), v2 _ (by omega)]
          rw [q110])) ((va_up_ne _ _ (by omega)).trans (by
          rw [show (111 + qW G : Nat) = (111 + (qW G : Int)).toNat by omega]
          exact va_up_self _ _ _)) (fun j hj => (va_up_ne _ _ (by omega)).trans ((va_up_ne _ _ (by omega)).trans (v1 j hj))) (fun k2 h1 h2 h3 h4 => (va_up_ne _ _ (by omega)).trans ((va_up_ne _ _ (by omega)).trans (v2 k2 h4)))) (fun j hj => (va_up_ne _ _ (by omega)).trans ((va_up_ne _ _ (by omega)).trans (f3 j (by omega))))) (ok_addW hG (by omega) (by omega) hlt) (isHi_fr hH2 ((va_up_ne _ _ (by omega)).trans ((va_up_ne _ _ (by omega)).trans (f3 _ (by omega))))) (fun j hj => ((va_up_ne _ _ (by omega)).trans ((va_up_ne _ _ (by omega)).trans (f3 j (by omega)))).trans ((f2 j (by omega)).trans (va_up_ne _ _ (by omega))))) (fun j hj => ((va_up_ne _ _ (by omega)).trans ((va_up_ne _ _ (by omega)).trans (f3 j (by omega)))).trans ((f2 j (by omega)).trans (va_up_ne _ _ (by omega)))) rfl)
theorem mSetLine_T {d N : Nat} {h : AH} {th : Int} {Q : AQ} {G : Gr} {hist : List Gr} {sl : Nat → Option Gr} {n : Nat} {tx : Nat → Int} (hY : isMo h (G, hist, sl, n, tx) th) (hN : 139 ≤ N) (hQ : moQ (opSetLine (G, hist, sl, n, tx)) h N Q) : T (d + 3) 183 [vR 122] h N Q := by
  obtain ⟨hM, hG, hT, hHi, hSv, hRw⟩ := id hY
  have hM : isMg h G th n hist.length := hM
  have hG : okG G := hG
  have hT : isMt h n tx := hT
  have hHi : isHi h hist := hHi
  have hSv : isSv h sl := hSv
  obtain ⟨F, D, L, A, W, C, hZ, m11, m12, m13, m14, m15, m16, hE, hA, hW, hC⟩ := id hM
  obtain ⟨S, m0, m3, hR⟩ := id hZ
  obtain ⟨hr0, hr1, rL, rE, rS, hr110, rWn, rWl, hr167, rNl⟩ := id hR
  have r0 : S (0 : Int).toNat = (qR G : Int) := hr0
  have r1 : S (1 : Int).toNat = (qC G : Int) := hr1
  have r110 : S (110 : Int).toNat = (qW G : Int) := hr110
  have r167 : S (167 : Int).toNat = (qN G : Int) := hr167
  obtain ⟨hm4, hm36⟩ := hG.m
  have hmi := qM_int G
  obtain ⟨⟨hr2, hr6⟩, ⟨hc2, hc6⟩, gL, gB, gW, gWn, gWl, gN, gNl⟩ := id hG
  have hn36 := nE36 hG
  obtain ⟨tf, m1, hn150, htf⟩ := id hT
  refine T_body (I := mi_X9_setLine) (lv := [_, _]) rfl (Nat.le_of_ble_eq_true rfl) rfl ?_
  refine R_aload_n rfl rfl ?_
  refine R_aload_n rfl rfl ?_
  refine R_iconst rfl ?_
  refine R_vcall rfl rfl ⟨(by omega), _, m0⟩ ⟨Nat.le_of_ble_eq_true rfl, Nat.le_of_ble_eq_true rfl, Nat.zero_le _, Nat.zero_le _⟩ (mIsLetters_T (l := 1) hZ hT hN rfl (by decide) (fun z3 hz3 => aRes_i (rest := [_]) ?_))
  have h01 := bI01 (iwG n tx 1)
  rw [← hz3] at h01
  refine R_ifeq rfl ⟨by omega, by omega⟩ (fun c6 => ?_) (fun c6 => ?_)
  · have ho : opSetLine (G, hist, sl, n, tx) = (0 + 1, 0, (G, hist, sl, n, tx)) := if_neg (fun q => by
      have q1 : iwG n tx 1 = true := q
      rw [bI_f hz3 (by omega)] at q1
      cases q1)
    refine R_iconst rfl ?_
    refine R_putfield rfl rfl (by omega) m0 (Nat.le_of_ble_eq_true rfl) (by first | trivial | exact trivial | omega) ?_
    have hM1 : isMg _ G 1 n hist.length := isMg_o (th' := 1) (tl' := n) (rm' := hist.length) hM
    refine R_aload_n rfl rfl ?_
    refine R_getfield rfl rfl (by omega) (va_up_self _ _ _) rfl ?_
    refine R_ifle rfl ⟨by decide, by decide⟩ (fun c0 => absurd c0 (by decide)) (fun _ => ?_)
    refine R_iconst rfl ?_
    exact R_ireturn rfl (fun q => absurd q (by decide)) (Nat.zero_le _) (Nat.zero_le _) (moQ_t hQ ho rfl (isMo_th hY) (fr_up fr.refl (by omega)))
  · have hiw := bI_t hz3 (by omega)
    obtain ⟨⟨hn2, hn6⟩, hlt⟩ := iw_let hiw
    have ho : opSetLine (G, hist, sl, n, tx) = (0, ((n : Nat) : Int), (addN G n (sg n tx), rem14 hist G, sl, n, tx)) := (if_pos (show iwG n tx 1 = true from hiw)).trans (by show (_, _, actS _ (liF n tx n 0 (noN G))) = _; rw [li_all]; rfl)
    refine R_iconst rfl ?_
    refine R_goto rfl ?_
    refine R_putfield rfl rfl (by omega) m0 (Nat.le_of_ble_eq_true rfl) (by first | trivial | exact trivial | omega) ?_
    have hM1 : isMg _ G 0 n hist.length := isMg_o (th' := 0) (tl' := n) (rm' := hist.length) hM
    refine R_aload_n rfl rfl ?_
    refine R_getfield rfl rfl (by omega) (va_up_self _ _ _) rfl ?_
    refine R_ifle rfl ⟨by decide, by decide⟩ (fun _ => ?_) (fun c0 => absurd c0 (by decide))
    refine R_aload_n rfl rfl ?_
    refine R_vcall rfl rfl ⟨(by omega), _, (va_up_self _ _ _)⟩ ⟨Nat.le_of_ble_eq_true rfl, Nat.le_of_ble_eq_true rfl, Nat.zero_le _, Nat.zero_le _⟩ (mRemember_T hM1 hG hN (isHi_fr hHi (va_up_ne _ _ (by decide))) (fun h2 hM2 hH2 f2 => aRes_v (rest := []) ?_))
    obtain ⟨S2, n0, n3, hR2⟩ := hM2.z
    have t1 : h2 123 = eI 150 tf := (f2 _ (by decide)).trans ((va_up_ne _ _ (by decide)).trans m1)
    have q110 : S2 (110 : Int).toNat = (qW G : Int) := hR2.2.2.2.2.2.1
    refine R_iconst rfl ?_
    refine R_istore_n (lv' := [_, _]) rfl rfl ?_
    refine msl_loop hN hn6 htf n 0 h2 S2 _ (Nat.zero_add _) rfl n0 t1 n3 (fun j hj => absurd hj (Nat.not_lt_zero _)) (fun j _ => rfl) (fun h3 S3 z3 k9 k1 k3 v1 v2 f3 => ?_)
    refine R_aload_n rfl rfl ?_
    refine R_getfield rfl rfl (by omega) k9 rfl ?_
    refine R_sipush rfl ?_
    refine R_aload_n rfl rfl ?_
    refine R_getfield rfl rfl (by omega) k9 rfl ?_
    refine R_iastore rfl (by omega) k3 ⟨by omega, by omega, by omega⟩ ?_
    refine R_aload_n rfl rfl ?_
    refine R_getfield rfl rfl (by omega) ((va_up_ne _ _ (by first | exact kne rfl | exact kz | exact kz.symm | omega)).trans k9) rfl ?_
    exact R_ireturn rfl (fun q => absurd q (by decide)) (Nat.zero_le _) (Nat.zero_le _) (moQ_v hQ ho (isMo_g hY (isMg_G (G := G) (G' := addN G n (sg n tx)) ⟨rfl, rfl, rfl, rfl⟩ hM2 (va_up_self _ _ _) (rw_addN hR2 hm36 (by omega) (fun w hw => (gWn w hw).2) (va_up_self _ _ _) (fun j hj => (va_up_ne _ _ (by omega)).trans (v1 j hj)) (fun k2 h1 => (va_up_ne _ _ (by omega)).trans (v2 k2 (by omega)))) (fun j hj => (va_up_ne _ _ (by omega)).trans (f3 j (by omega)))) (ok_addN hG (by omega) hlt) (isHi_fr hH2 ((va_up_ne _ _ (by omega)).trans (f3 _ (by omega)))) (fun j hj => ((va_up_ne _ _ (by omega)).trans (f3 j (by omega))).trans ((f2 j (by omega)).trans (va_up_ne _ _ (by omega))))) (fun j hj => ((va_up_ne _ _ (by omega)).trans (f3 j (by omega))).trans ((f2 j (by omega)).trans (va_up_ne _ _ (by omega)))) rfl)
def dnS : List (Nat × Bool) → Nat
  | [] => 0
  | q :: t => tn q.2 + dnS t
theorem dnS_app : ∀ l m : List (Nat × Bool), dnS (l ++ m) = dnS l + dnS m
  | [], m => (Nat.zero_add _).symm
  | q :: t, m => by
    show tn q.2 + dnS (t ++ m) = tn q.2 + dnS t + dnS m
    rw [dnS_app t m]
    omega
theorem dnS_ents {G : Gr} : ∀ c, dnS (entsTo G c) = nb G true c
  | 0 => rfl
  | c + 1 => by
    simp only [entsTo, nb]
    rw [dnS_app, dnS_ents c, dnS_app]
    cases st G false c <;> cases st G true c <;> rfl
theorem ct_dnS {p : Nat → Bool} : ∀ (l : List (Nat × Bool)) (i : Nat), (∀ (j x : Nat) (b : Bool), l[j]? = some (x, b) → p (i + j) = b) → ctF p l.length i = dnS l
  | [], _, _ => rfl
  | q :: t, i, h => by
    show tn (p i) + ctF p t.length (i + 1) = tn q.2 + dnS t
    rw [ct_dnS t (i + 1) (fun j x b hj => by rw [show i + 1 + j = i + (j + 1) by omega]; exact h (j + 1) x b hj), show p i = q.2 from h 0 q.1 q.2 rfl]
theorem cntA_nb {G : Gr} : ∀ c, cntA G c = nb G false c
  | 0 => rfl
  | c + 1 => by
    simp only [cntA, nb]
    rw [cntA_nb c]
theorem dn_cnt {G : Gr} : cntA G (qM G) + ctF (eB G) (nE G) 0 = nE G := by
  have h1 : ctF (eB G) (nE G) 0 = dnS (ents G) := by
    have hl : nE G = (ents G).length := (entsTo_len G _).symm
    rw [hl]
    refine ct_dnS (ents G) 0 (fun j x b hj => ?_)
    rw [Nat.zero_add]
    unfold eB eP
    rw [hj]
  rw [h1, cntA_nb]
  unfold ents
  rw [dnS_ents]
  exact (cnt_nb _).symm
theorem clu_36 {G : Gr} : ∀ c, clu G c ≤ c
  | 0 => Nat.le_refl _
  | c + 1 => by
    have := clu_36 (G := G) c
    simp only [clu]
    cases st G false c || st G true c <;> simp only [tn] <;> omega
theorem maa_loop {d N : Nat} {h : AH} {G : Gr} {th tl rm : Int} {Q : AQ} (hM : isMg h G th tl rm) (hG : okG G) (hN : 139 ≤ N) {c : Int} {l4 l5 : Option AV} : ∀ (r i a : Nat) (za zi : Int), i + r = nE G → za = a → zi = i → (∀ z z2 : Int, z = ((a + ctF (eB G) r i : Nat) : Int) → Run mi_X9_about (T (d + 2)) Q 46 [some (vR 122), some (vI c), some (vI z), some (vI z2), l4, l5] [] h N 0 0) → Run mi_X9_about (T (d + 2)) Q 23 [some (vR 122), some (vI c), some (vI za), some (vI zi), l4, l5] [] h N 0 0 := by
  obtain ⟨F, D, L, A, W, C, hZ, m11, m12, m13, m14, m15, m16, hE, hA, hW, hC⟩ := id hM
  obtain ⟨S, m0, m3, hR⟩ := id hZ
  obtain ⟨hr0, hr1, rL, rE, rS, hr110, rWn, rWl, hr167, rNl⟩ := id hR
  have r0 : S (0 : Int).toNat = (qR G : Int) := hr0
  have r1 : S (1 : Int).toNat = (qC G : Int) := hr1
  have r110 : S (110 : Int).toNat = (qW G : Int) := hr110
  have r167 : S (167 : Int).toNat = (qN G : Int) := hr167
  obtain ⟨hm4, hm36⟩ := hG.m
  have hmi := qM_int G
  obtain ⟨⟨hr2, hr6⟩, ⟨hc2, hc6⟩, gL, gB, gW, gWn, gWl, gN, gNl⟩ := id hG
  have hn36 := nE36 hG
  intro r
  induction r using Nat.strongRecOn with
  | ind r ih =>
  intro i a za zi hr hza hzi kc
  refine R_iload_n rfl rfl ?_
  refine R_aload_n rfl rfl ?_
  refine R_getfield rfl rfl (by omega) m0 rfl ?_
  refine R_icmpge rfl ⟨by omega, by omega⟩ ⟨by omega, by omega⟩ (fun c28 => ?_) (fun c28 => ?_)
  · have hr0 : r = 0 := by omega
    subst hr0
    exact kc _ _ (by rw [hza]; rfl)
  · obtain ⟨r, rfl⟩ : ∃ r1, r = r1 + 1 := ⟨r - 1, by omega⟩
    obtain ⟨hF9, hL9, hD9⟩ := hE _ _ _ (ents_get (e := i) (by omega))
    have hD1 : D zi.toNat = (tn (eB G i) : Int) := by
      rw [show zi.toNat = i by omega, hD9]
      cases eB G i <;> rfl
    refine R_iload_n rfl rfl ?_
    refine R_aload_n rfl rfl ?_
    refine R_getfield rfl rfl (by omega) m0 rfl ?_
    refine R_iload_n rfl rfl ?_
    refine R_iaload rfl (Or.inl (by omega)) m12 ⟨by omega, by omega, by omega⟩ ?_
    refine R_iadd rfl ?_
    refine R_istore_n (lv' := [_, _, _, _, _, _]) rfl rfl ?_
    refine R_iinc (lv' := [_, _, _, _, _, _]) rfl rfl rfl ?_
    refine R_goto rfl ?_
    exact ih r (by omega) (i + 1) (a + tn (eB G i)) _ _ (by omega) (by omega) (by omega) (fun z z2 hz => kc z z2 (by rw [hz]; simp only [ctF]; omega))
theorem mab_loop {d N : Nat} {h : AH} {G : Gr} {th tl rm : Int} {Q : AQ} (hM : isMg h G th tl rm) (hG : okG G) (hN : 139 ≤ N) {c : Int} {zd : Int} : ∀ (r i a : Nat) (za zg zi : Int), i + r = qM G → za = a → zi = i → zg = (clu G i : Nat) → (∀ z z2 z3 : Int, z = ((a + ctF (fun x => decide (qL G x = 0)) r i : Nat) : Int) → z2 = ((clu G (qM G) : Nat) : Int) → Run mi_X9_about (T (d + 2)) Q 115 [some (vR 122), some (vI c), some (vI zd), some (vI z), some (vI z2), some (vI z3)] [] h N 0 0) → Run mi_X9_about (T (d + 2)) Q 54 [some (vR 122), some (vI c), some (vI zd), some (vI za), some (vI zg), some (vI zi)] [] h N 0 0 := by
  obtain ⟨F, D, L, A, W, C, hZ, m11, m12, m13, m14, m15, m16, hE, hA, hW, hC⟩ := id hM
  obtain ⟨S, m0, m3, hR⟩ := id hZ
  obtain ⟨hr0, hr1, rL, rE, rS, hr110, rWn, rWl, hr167, rNl⟩ := id hR
  have r0 : S (0 : Int).toNat = (qR G : Int) := hr0
  have r1 : S (1 : Int).toNat = (qC G : Int) := hr1
  have r110 : S (110 : Int).toNat = (qW G : Int) := hr110
  have r167 : S (167 : Int).toNat = (qN G : Int) := hr167
  obtain ⟨hm4, hm36⟩ := hG.m
  have hmi := qM_int G
  obtain ⟨⟨hr2, hr6⟩, ⟨hc2, hc6⟩, gL, gB, gW, gWn, gWl, gN, gNl⟩ := id hG
  have hn36 := nE36 hG
  intro r
  induction r using Nat.strongRecOn with
  | ind r ih =>
  intro i a za zg zi hr hza hzi hzg kc
  refine R_iload rfl rfl ?_
  refine R_aload_n rfl rfl ?_
  refine R_vcall rfl rfl ⟨(by omega), _, m0⟩ ⟨Nat.le_of_ble_eq_true rfl, Nat.le_of_ble_eq_true rfl, Nat.zero_le _, Nat.zero_le _⟩ (mSize_T hZ hG hN (fun z57 hz57 => aRes_i (rest := [_]) ?_))
  refine R_icmpge rfl ⟨by omega, by omega⟩ ⟨by omega, by omega⟩ (fun c60 => ?_) (fun c60 => ?_)
  · have hr0 : r = 0 := by omega
    subst hr0
    have hi : i = qM G := by omega
    subst hi
    exact kc _ _ _ (by rw [hza]; rfl) hzg
  · obtain ⟨r, rfl⟩ : ∃ r1, r = r1 + 1 := ⟨r - 1, by omega⟩
    have hLt : S ((2 : Int) + zi).toNat = qL G i := by
      rw [show ((2 : Int) + zi).toNat = 2 + i by omega]
      exact rL i (by omega)
    have hlr : 0 ≤ S ((2 : Int) + zi).toNat ∧ S ((2 : Int) + zi).toNat ≤ 122 := by
      rw [hLt]
      rcases gL i (by omega) with q | ⟨q1, q2⟩ <;> omega
    have hC9 : C zi.toNat = clue G i := by
      rw [show zi.toNat = i by omega]
      exact hC i (by omega)
    have hcl := clu_36 (G := G) i
    have hcc : (C zi.toNat = (clu G i : Int) + 1 ∧ clu G (i + 1) = clu G i + 1) ∨ (C zi.toNat = -9 ∧ clu G (i + 1) = clu G i) := by
      rw [hC9]
      unfold clue
      simp only [clu]
      cases st G false i || st G true i
      · exact Or.inr ⟨rfl, rfl⟩
      · exact Or.inl ⟨rfl, rfl⟩
    refine R_iload_n rfl rfl ?_
    refine R_aload_n rfl rfl ?_
    refine R_getfield rfl rfl (by omega) m0 rfl ?_
    refine R_iconst rfl ?_
    refine R_iload rfl rfl ?_
    refine R_iadd rfl ?_
    refine R_iaload rfl (Or.inl (by omega)) m3 ⟨by omega, by omega, by omega⟩ ?_
    refine R_ifne rfl ⟨by omega, by omega⟩ (fun c73 => ?_) (fun c73 => ?_)
    · have hp : (fun x => decide (qL G x = 0)) i = false := decide_eq_false (by omega)
      refine R_iconst rfl ?_
      refine R_iadd rfl ?_
      refine R_istore_n (lv' := [_, _, _, _, _, _]) rfl rfl ?_
      refine R_aload_n rfl rfl ?_
      refine R_getfield rfl rfl (by omega) m0 rfl ?_
      refine R_iload rfl rfl ?_
      refine R_iaload rfl (Or.inl (by omega)) m16 ⟨by omega, by omega, by omega⟩ ?_
      refine R_iload rfl rfl ?_
      refine R_icmple rfl ⟨by omega, by omega⟩ ⟨by omega, by omega⟩ (fun c92 => ?_) (fun c92 => ?_)
      · refine R_iload rfl rfl ?_
        refine R_istore (lv' := [_, _, _, _, _, _]) rfl rfl ?_
        refine R_iinc (lv' := [_, _, _, _, _, _]) rfl rfl rfl ?_
        refine R_goto rfl ?_
        first | exact ih r (by omega) (i + 1) (a + 1) _ _ _ (by omega) (by omega) (by omega) (by omega) (fun z z2 z3 hz hz2 => kc z z2 z3 (hz.trans (congrArg Nat.cast (ct_hit (p := (fun x => decide (qL G x = 0))) hp))) hz2) | exact ih r (by omega) (i + 1) a _ _ _ (by omega) (by omega) (by omega) (by omega) (fun z z2 z3 hz hz2 => kc z z2 z3 (hz.trans (congrArg Nat.cast (ct_skip (p := (fun x => decide (qL G x = 0))) hp))) hz2)
      · refine R_aload_n rfl rfl ?_
        refine R_getfield rfl rfl (by omega) m0 rfl ?_
        refine R_iload rfl rfl ?_
        refine R_iaload rfl (Or.inl (by omega)) m16 ⟨by omega, by omega, by omega⟩ ?_
        refine R_goto rfl ?_
        refine R_istore (lv' := [_, _, _, _, _, _]) rfl rfl ?_
        refine R_iinc (lv' := [_, _, _, _, _, _]) rfl rfl rfl ?_
        refine R_goto rfl ?_
        first | exact ih r (by omega) (i + 1) (a + 1) _ _ _ (by omega) (by omega) (by omega) (by omega) (fun z z2 z3 hz hz2 => kc z z2 z3 (hz.trans (congrArg Nat.cast (ct_hit (p := (fun x => decide (qL G x = 0))) hp))) hz2) | exact ih r (by omega) (i + 1) a _ _ _ (by omega) (by omega) (by omega) (by omega) (fun z z2 z3 hz hz2 => kc z z2 z3 (hz.trans (congrArg Nat.cast (ct_skip (p := (fun x => decide (qL G x = 0))) hp))) hz2)
    · have hp : (fun x => decide (qL G x = 0)) i = true := decide_eq_true (by omega)
      refine R_iconst rfl ?_
      refine R_goto rfl ?_
      refine R_iadd rfl ?_
      refine R_istore_n (lv' := [_, _, _, _, _, _]) rfl rfl ?_
      refine R_aload_n rfl rfl ?_
      refine R_getfield rfl rfl (by omega) m0 rfl ?_
      refine R_iload rfl rfl ?_
      refine R_iaload rfl (Or.inl (by omega)) m16 ⟨by omega, by omega, by omega⟩ ?_
      refine R_iload rfl rfl ?_
      refine R_icmple rfl ⟨by omega, by omega⟩ ⟨by omega, by omega⟩ (fun c92 => ?_) (fun c92 => ?_)
      · refine R_iload rfl rfl ?_
        refine R_istore (lv' := [_, _, _, _, _, _]) rfl rfl ?_
        refine R_iinc (lv' := [_, _, _, _, _, _]) rfl rfl rfl ?_
        refine R_goto rfl ?_
        first | exact ih r (by omega) (i + 1) (a + 1) _ _ _ (by omega) (by omega) (by omega) (by omega) (fun z z2 z3 hz hz2 => kc z z2 z3 (hz.trans (congrArg Nat.cast (ct_hit (p := (fun x => decide (qL G x = 0))) hp))) hz2) | exact ih r (by omega) (i + 1) a _ _ _ (by omega) (by omega) (by omega) (by omega) (fun z z2 z3 hz hz2 => kc z z2 z3 (hz.trans (congrArg Nat.cast (ct_skip (p := (fun x => decide (qL G x = 0))) hp))) hz2)
      · refine R_aload_n rfl rfl ?_
        refine R_getfield rfl rfl (by omega) m0 rfl ?_
        refine R_iload rfl rfl ?_
        refine R_iaload rfl (Or.inl (by omega)) m16 ⟨by omega, by omega, by omega⟩ ?_
        refine R_goto rfl ?_
        refine R_istore (lv' := [_, _, _, _, _, _]) rfl rfl ?_
        refine R_iinc (lv' := [_, _, _, _, _, _]) rfl rfl rfl ?_
        refine R_goto rfl ?_
        first | exact ih r (by omega) (i + 1) (a + 1) _ _ _ (by omega) (by omega) (by omega) (by omega) (fun z z2 z3 hz hz2 => kc z z2 z3 (hz.trans (congrArg Nat.cast (ct_hit (p := (fun x => decide (qL G x = 0))) hp))) hz2) | exact ih r (by omega) (i + 1) a _ _ _ (by omega) (by omega) (by omega) (by omega) (fun z z2 z3 hz hz2 => kc z z2 z3 (hz.trans (congrArg Nat.cast (ct_skip (p := (fun x => decide (qL G x = 0))) hp))) hz2)
theorem mAbout_T {d N : Nat} {h : AH} {th : Int} {Q : AQ} {G : Gr} {hist : List Gr} {sl : Nat → Option Gr} {n : Nat} {tx : Nat → Int} (hY : isMo h (G, hist, sl, n, tx) th) (hN : 139 ≤ N) {c : Int} (hc : inR c) (hQ : moQ (opAbout (G, hist, sl, n, tx) c) h N Q) : T (d + 3) 152 [vR 122, vI c] h N Q := by
  obtain ⟨hM, hG, hT, hHi, hSv, hRw⟩ := id hY
  have hM : isMg h G th n hist.length := hM
  have hG : okG G := hG
  have hT : isMt h n tx := hT
  have hHi : isHi h hist := hHi
  have hSv : isSv h sl := hSv
  obtain ⟨F, D, L, A, W, C, hZ, m11, m12, m13, m14, m15, m16, hE, hA, hW, hC⟩ := id hM
  obtain ⟨S, m0, m3, hR⟩ := id hZ
  obtain ⟨hr0, hr1, rL, rE, rS, hr110, rWn, rWl, hr167, rNl⟩ := id hR
  have r0 : S (0 : Int).toNat = (qR G : Int) := hr0
  have r1 : S (1 : Int).toNat = (qC G : Int) := hr1
  have r110 : S (110 : Int).toNat = (qW G : Int) := hr110
  have r167 : S (167 : Int).toNat = (qN G : Int) := hr167
  obtain ⟨hm4, hm36⟩ := hG.m
  have hmi := qM_int G
  obtain ⟨⟨hr2, hr6⟩, ⟨hc2, hc6⟩, gL, gB, gW, gWn, gWl, gN, gNl⟩ := id hG
  have hn36 := nE36 hG
  obtain ⟨tf, m1, hn150, htf⟩ := id hT
  obtain ⟨hc1, hc2⟩ := hc
  refine T_body (I := mi_X9_about) (lv := [_, _, _, _, _, _]) rfl (Nat.le_of_ble_eq_true rfl) rfl ?_
  refine R_aload_n rfl rfl ?_
  refine R_iload_n rfl rfl ?_
  refine R_iflt rfl ⟨by omega, by omega⟩ (fun c2 => ?_) (fun c2 => ?_)
  · have hno : ¬ (0 ≤ c ∧ c ≤ 10) := by omega
    have ho : opAbout (G, hist, sl, n, tx) c = (0 + 1, 0, (G, hist, sl, n, tx)) := if_neg hno
    refine R_iconst rfl ?_
    refine R_goto rfl ?_
    refine R_putfield rfl rfl (by omega) m0 (Nat.le_of_ble_eq_true rfl) (by first | trivial | exact trivial | omega) ?_
    have hM1 : isMg _ G 1 n hist.length := isMg_o (th' := 1) (tl' := n) (rm' := hist.length) hM
    refine R_iconst rfl ?_
    refine R_istore_n (lv' := [_, _, _, _, _, _]) rfl rfl ?_
    refine R_iconst rfl ?_
    refine R_istore_n (lv' := [_, _, _, _, _, _]) rfl rfl ?_
    refine maa_loop hM1 hG hN (nE G) 0 0 _ _ (Nat.zero_add _) rfl rfl (fun zd zy hzd => ?_)
    rw [Nat.zero_add] at hzd
    refine R_iconst rfl ?_
    refine R_istore_n (lv' := [_, _, _, _, _, _]) rfl rfl ?_
    refine R_iconst rfl ?_
    refine R_istore (lv' := [_, _, _, _, _, _]) rfl rfl ?_
    refine R_iconst rfl ?_
    refine R_istore (lv' := [_, _, _, _, _, _]) rfl rfl ?_
    refine mab_loop hM1 hG hN (qM G) 0 0 _ _ _ (Nat.zero_add _) rfl rfl rfl (fun z6 zg zx hz6e hz6g => ?_)
    refine R_iload_n rfl rfl ?_
    refine R_switch rfl ⟨by omega, by omega⟩ (fun cd116 => ?_) ⟨fun c116 => ?_, fun c116 => ?_, fun c116 => ?_, fun c116 => ?_, fun c116 => ?_, fun c116 => ?_, fun c116 => ?_, fun c116 => ?_, fun c116 => ?_, fun c116 => ?_, fun c116 => ?_, trivial⟩
    · refine R_iconst rfl ?_
      exact R_ireturn rfl (fun q => absurd q (by decide)) (Nat.zero_le _) (Nat.zero_le _) (moQ_t hQ ho rfl (isMo_th hY) (fr_up fr.refl (by omega)))
    · exact absurd (show 0 ≤ c ∧ c ≤ 10 by omega) hno
    · exact absurd (show 0 ≤ c ∧ c ≤ 10 by omega) hno
    · exact absurd (show 0 ≤ c ∧ c ≤ 10 by omega) hno
    · exact absurd (show 0 ≤ c ∧ c ≤ 10 by omega) hno
    · exact absurd (show 0 ≤ c ∧ c ≤ 10 by omega) hno
    · exact absurd (show 0 ≤ c ∧ c ≤ 10 by omega) hno
    · exact absurd (show 0 ≤ c ∧ c ≤ 10 by omega) hno
    · exact absurd (show 0 ≤ c ∧ c ≤ 10 by omega) hno
    · exact absurd (show 0 ≤ c ∧ c ≤ 10 by omega) hno
    · exact absurd (show 0 ≤ c ∧ c ≤ 10 by omega) hno
    · exact absurd (show 0 ≤ c ∧ c ≤ 10 by omega) hno
  · refine R_iload_n rfl rfl ?_
    refine R_bipush rfl ?_
    refine R_icmple rfl ⟨by omega, by omega⟩ ⟨by decide, by decide⟩ (fun c8 => ?_) (fun c8 => ?_)
    · have ho : opAbout (G, hist, sl, n, tx) c = (0, abG G c.toNat, (G, hist, sl, n, tx)) := if_pos (by omega)
      refine R_iconst rfl ?_
      refine R_putfield rfl rfl (by omega) m0 (Nat.le_of_ble_eq_true rfl) (by first | trivial | exact trivial | omega) ?_
      have hM1 : isMg _ G 0 n hist.length := isMg_o (th' := 0) (tl' := n) (rm' := hist.length) hM
      refine R_iconst rfl ?_
      refine R_istore_n (lv' := [_, _, _, _, _, _]) rfl rfl ?_
      refine R_iconst rfl ?_
      refine R_istore_n (lv' := [_, _, _, _, _, _]) rfl rfl ?_
      refine maa_loop hM1 hG hN (nE G) 0 0 _ _ (Nat.zero_add _) rfl rfl (fun zd zy hzd => ?_)
      rw [Nat.zero_add] at hzd
      refine R_iconst rfl ?_
      refine R_istore_n (lv' := [_, _, _, _, _, _]) rfl rfl ?_
      refine R_iconst rfl ?_
      refine R_istore (lv' := [_, _, _, _, _, _]) rfl rfl ?_
      refine R_iconst rfl ?_
      refine R_istore (lv' := [_, _, _, _, _, _]) rfl rfl ?_
      refine mab_loop hM1 hG hN (qM G) 0 0 _ _ _ (Nat.zero_add _) rfl rfl rfl (fun z6 zg zx hz6e hz6g => ?_)
      refine R_iload_n rfl rfl ?_
      refine R_switch rfl ⟨by omega, by omega⟩ (fun cd116 => ?_) ⟨fun c116 => ?_, fun c116 => ?_, fun c116 => ?_, fun c116 => ?_, fun c116 => ?_, fun c116 => ?_, fun c116 => ?_, fun c116 => ?_, fun c116 => ?_, fun c116 => ?_, fun c116 => ?_, trivial⟩
      · exact absurd cd116 (by omega)
      · refine R_aload_n rfl rfl ?_
        refine R_getfield rfl rfl (by omega) (va_up_self _ _ _) rfl ?_
        refine R_iconst rfl ?_
        refine R_iaload rfl (Or.inl (by omega)) ((va_up_ne _ _ (by decide)).trans m3) ⟨by omega, by omega, by omega⟩ ?_
        exact R_ireturn rfl (fun q => absurd q (by decide)) (Nat.zero_le _) (Nat.zero_le _) (moQ_v hQ ho (isMo_th hY) (fr_up fr.refl (by omega)) (by rw [show c.toNat = 0 by omega]; exact (r0)))
      · refine R_aload_n rfl rfl ?_
        refine R_getfield rfl rfl (by omega) (va_up_self _ _ _) rfl ?_
        refine R_iconst rfl ?_
        refine R_iaload rfl (Or.inl (by omega)) ((va_up_ne _ _ (by decide)).trans m3) ⟨by omega, by omega, by omega⟩ ?_
        exact R_ireturn rfl (fun q => absurd q (by decide)) (Nat.zero_le _) (Nat.zero_le _) (moQ_v hQ ho (isMo_th hY) (fr_up fr.refl (by omega)) (by rw [show c.toNat = 1 by omega]; exact (r1)))
      · refine R_aload_n rfl rfl ?_
        refine R_getfield rfl rfl (by omega) (va_up_self _ _ _) rfl ?_
        exact R_ireturn rfl (fun q => absurd q (by decide)) (Nat.zero_le _) (Nat.zero_le _) (moQ_v hQ ho (isMo_th hY) (fr_up fr.refl (by omega)) (by rw [show c.toNat = 2 by omega]; exact (rfl)))
      · refine R_aload_n rfl rfl ?_
        refine R_getfield rfl rfl (by omega) (va_up_self _ _ _) rfl ?_
        refine R_iload_n rfl rfl ?_
        refine R_isub rfl ?_
        exact R_ireturn rfl (fun q => absurd q (by decide)) (Nat.zero_le _) (Nat.zero_le _) (moQ_v hQ ho (isMo_th hY) (fr_up fr.refl (by omega)) (by rw [show c.toNat = 3 by omega]; exact (by have h9 : abG G 3 = (cntA G (qM G) : Nat) := rfl; have := dn_cnt (G := G); omega)))
      · refine R_aload_n rfl rfl ?_
        refine R_iconst rfl ?_
        refine R_vcall rfl rfl ⟨(by omega), _, (va_up_self _ _ _)⟩ ⟨Nat.le_of_ble_eq_true rfl, Nat.le_of_ble_eq_true rfl, Nat.zero_le _, Nat.zero_le _⟩ (mCellsIn_T (n := 2) hM1 hG hN rfl (by decide) (fun z204 hz204 => aRes_i (rest := []) ?_))
        exact R_ireturn rfl (fun q => absurd q (by decide)) (Nat.zero_le _) (Nat.zero_le _) (moQ_v hQ ho (isMo_th hY) (fr_up fr.refl (by omega)) (by rw [show c.toNat = 4 by omega]; exact (hz204)))
      · refine R_aload_n rfl rfl ?_
        refine R_iconst rfl ?_
        refine R_vcall rfl rfl ⟨(by omega), _, (va_up_self _ _ _)⟩ ⟨Nat.le_of_ble_eq_true rfl, Nat.le_of_ble_eq_true rfl, Nat.zero_le _, Nat.zero_le _⟩ (mCellsIn_T (n := 1) hM1 hG hN rfl (by decide) (fun z210 hz210 => aRes_i (rest := []) ?_))
        exact R_ireturn rfl (fun q => absurd q (by decide)) (Nat.zero_le _) (Nat.zero_le _) (moQ_v hQ ho (isMo_th hY) (fr_up fr.refl (by omega)) (by rw [show c.toNat = 5 by omega]; exact (hz210)))
      · refine R_iload_n rfl rfl ?_
        exact R_ireturn rfl (fun q => absurd q (by decide)) (Nat.zero_le _) (Nat.zero_le _) (moQ_v hQ ho (isMo_th hY) (fr_up fr.refl (by omega)) (by rw [show c.toNat = 6 by omega]; exact (hz6e.trans (congrArg Nat.cast (Nat.zero_add _)))))
      · refine R_aload_n rfl rfl ?_
        refine R_vcall rfl rfl ⟨(by omega), _, (va_up_self _ _ _)⟩ ⟨Nat.le_of_ble_eq_true rfl, Nat.le_of_ble_eq_true rfl, Nat.zero_le _, Nat.zero_le _⟩ (mBars_T hM1.z hG hN (fun z217 hz217 => aRes_i (rest := []) ?_))
        exact R_ireturn rfl (fun q => absurd q (by decide)) (Nat.zero_le _) (Nat.zero_le _) (moQ_v hQ ho (isMo_th hY) (fr_up fr.refl (by omega)) (by rw [show c.toNat = 7 by omega]; exact (hz217)))
      · refine R_aload_n rfl rfl ?_
        refine R_getfield rfl rfl (by omega) (va_up_self _ _ _) rfl ?_
        refine R_bipush rfl ?_
        refine R_iaload rfl (Or.inl (by omega)) ((va_up_ne _ _ (by decide)).trans m3) ⟨by omega, by omega, by omega⟩ ?_
        exact R_ireturn rfl (fun q => absurd q (by decide)) (Nat.zero_le _) (Nat.zero_le _) (moQ_v hQ ho (isMo_th hY) (fr_up fr.refl (by omega)) (by rw [show c.toNat = 8 by omega]; exact (r110)))
      · refine R_aload_n rfl rfl ?_
        refine R_getfield rfl rfl (by omega) (va_up_self _ _ _) rfl ?_
        refine R_sipush rfl ?_
        refine R_iaload rfl (Or.inl (by omega)) ((va_up_ne _ _ (by decide)).trans m3) ⟨by omega, by omega, by omega⟩ ?_
        exact R_ireturn rfl (fun q => absurd q (by decide)) (Nat.zero_le _) (Nat.zero_le _) (moQ_v hQ ho (isMo_th hY) (fr_up fr.refl (by omega)) (by rw [show c.toNat = 9 by omega]; exact (r167)))
      · refine R_iload rfl rfl ?_
        exact R_ireturn rfl (fun q => absurd q (by decide)) (Nat.zero_le _) (Nat.zero_le _) (moQ_v hQ ho (isMo_th hY) (fr_up fr.refl (by omega)) (by rw [show c.toNat = 10 by omega]; exact (hz6g)))
    · have hno : ¬ (0 ≤ c ∧ c ≤ 10) := by omega
      have ho : opAbout (G, hist, sl, n, tx) c = (0 + 1, 0, (G, hist, sl, n, tx)) := if_neg hno
      refine R_iconst rfl ?_
      refine R_goto rfl ?_
      refine R_putfield rfl rfl (by omega) m0 (Nat.le_of_ble_eq_true rfl) (by first | trivial | exact trivial | omega) ?_
      have hM1 : isMg _ G 1 n hist.length := isMg_o (th' := 1) (tl' := n) (rm' := hist.length) hM
      refine R_iconst rfl ?_
      refine R_istore_n (lv' := [_, _, _, _, _, _]) rfl rfl ?_
      refine R_iconst rfl ?_
      refine R_istore_n (lv' := [_, _, _, _, _, _]) rfl rfl ?_
      refine maa_loop hM1 hG hN (nE G) 0 0 _ _ (Nat.zero_add _) rfl rfl (fun zd zy hzd => ?_)
      rw [Nat.zero_add] at hzd
      refine R_iconst rfl ?_
      refine R_istore_n (lv' := [_, _, _, _, _, _]) rfl rfl ?_
      refine R_iconst rfl ?_
      refine R_istore (lv' := [_, _, _, _, _, _]) rfl rfl ?_
      refine R_iconst rfl ?_
      refine R_istore (lv' := [_, _, _, _, _, _]) rfl rfl ?_
      refine mab_loop hM1 hG hN (qM G) 0 0 _ _ _ (Nat.zero_add _) rfl rfl rfl (fun z6 zg zx hz6e hz6g => ?_)
      refine R_iload_n rfl rfl ?_
      refine R_switch rfl ⟨by omega, by omega⟩ (fun cd116 => ?_) ⟨fun c116 => ?_, fun c116 => ?_, fun c116 => ?_, fun c116 => ?_, fun c116 => ?_, fun c116 => ?_, fun c116 => ?_, fun c116 => ?_, fun c116 => ?_, fun c116 => ?_, fun c116 => ?_, trivial⟩
      · refine R_iconst rfl ?_
        exact R_ireturn rfl (fun q => absurd q (by decide)) (Nat.zero_le _) (Nat.zero_le _) (moQ_t hQ ho rfl (isMo_th hY) (fr_up fr.refl (by omega)))
      · exact absurd (show 0 ≤ c ∧ c ≤ 10 by omega) hno
      · exact absurd (show 0 ≤ c ∧ c ≤ 10 by omega) hno
      · exact absurd (show 0 ≤ c ∧ c ≤ 10 by omega) hno
      · exact absurd (show 0 ≤ c ∧ c ≤ 10 by omega) hno
      · exact absurd (show 0 ≤ c ∧ c ≤ 10 by omega) hno
      · exact absurd (show 0 ≤ c ∧ c ≤ 10 by omega) hno
      · exact absurd (show 0 ≤ c ∧ c ≤ 10 by omega) hno
      · exact absurd (show 0 ≤ c ∧ c ≤ 10 by omega) hno
      · exact absurd (show 0 ≤ c ∧ c ≤ 10 by omega) hno
      · exact absurd (show 0 ≤ c ∧ c ≤ 10 by omega) hno
      · exact absurd (show 0 ≤ c ∧ c ≤ 10 by omega) hno
