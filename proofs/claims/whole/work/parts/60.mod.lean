/-! ===== the model: its picture; small methods ===== -/
abbrev moO (a b c e : Int) : AE := eO 7 [vI a, vR 123, vI b, vR 124, vR 125, vR 126, vR 127, vI c, vR 128, vR 129, vI e, vR 130, vR 131, vR 132, vR 133, vR 134, vR 135, vR 136, vR 137, vR 138]
/-- a row of 174 numbers is the grid -/
def rwG (S : Nat → Int) (G : Gr) : Prop := S 0 = qR G ∧ S 1 = qC G ∧ (∀ c, c < qM G → S (2 + c) = qL G c) ∧ (∀ c, c < qM G → S (38 + c) = bI (qE G c)) ∧ (∀ c, c < qM G → S (74 + c) = bI (qS G c)) ∧ S 110 = qW G ∧ (∀ w, w < qW G → S (111 + w) = qWn G w) ∧ (∀ w i, w < qW G → i < qWn G w → S (119 + 6 * w + i) = qWl G w i) ∧ S 167 = qN G ∧ ∀ i, i < qN G → S (168 + i) = qNl G i
/-- the object and the state's row -/
def isM0 (h : AH) (G : Gr) (th tl rm en : Int) : Prop := ∃ S, h 122 = moO th tl rm en ∧ h 124 = eI 174 S ∧ rwG S G
/-- the entries, too -/
def isMg (h : AH) (G : Gr) (th tl rm : Int) : Prop := ∃ F D L A W C, isM0 h G th tl rm (nE G) ∧ h 130 = eI 36 F ∧ h 131 = eI 36 D ∧ h 132 = eI 36 L ∧ h 133 = eI 36 A ∧ h 134 = eI 36 W ∧ h 135 = eI 36 C ∧ (∀ (e x : Nat) (b : Bool), (ents G)[e]? = some (x, b) → F e = x ∧ L e = ln G b x ∧ D e = bI b) ∧ (∀ x, x < qM G → A x = acr G false x) ∧ (∀ x, x < qM G → W x = acr G true x) ∧ ∀ x, x < qM G → C x = clue G x
theorem isMg.z {h : AH} {G : Gr} {th tl rm : Int} (hM : isMg h G th tl rm) : isM0 h G th tl rm (nE G) := by
  obtain ⟨F, D, L, A, W, C, hZ, -⟩ := hM
  exact hZ
theorem isM0_fr {h h' : AH} {G : Gr} {th tl rm en : Int} (hM : isM0 h G th tl rm en) (h1 : h' 122 = h 122) (h2 : h' 124 = h 124) : isM0 h' G th tl rm en := by
  obtain ⟨S, m0, m3, hR⟩ := hM
  exact ⟨S, h1.trans m0, h2.trans m3, hR⟩
theorem isMg_fr {h h' : AH} {G : Gr} {th tl rm : Int} (hM : isMg h G th tl rm) (he : ∀ j, (j = 122 ∨ j = 124 ∨ (130 ≤ j ∧ j ≤ 135)) → h' j = h j) : isMg h' G th tl rm := by
  obtain ⟨F, D, L, A, W, C, hZ, m11, m12, m13, m14, m15, m16, hr⟩ := hM
  exact ⟨F, D, L, A, W, C, isM0_fr hZ (he _ (by omega)) (he _ (by omega)), (he _ (by omega)).trans m11, (he _ (by omega)).trans m12, (he _ (by omega)).trans m13, (he _ (by omega)).trans m14, (he _ (by omega)).trans m15, (he _ (by omega)).trans m16, hr⟩
theorem qPb_f {G : Gr} (hG : okG G) {c : Nat} (hc : c < qM G) : qPb G c false = !decide (c % qC G = qC G - 1) := by
  obtain ⟨-, ⟨h1, h2⟩, -⟩ := hG
  have hm := Nat.mod_lt c (show 0 < qC G by omega)
  show (decide (c < qM G) && decide (c % qC G + 1 < qC G)) = _
  rw [decide_eq_true hc, Bool.true_and]
  by_cases q : c % qC G = qC G - 1
  · rw [decide_eq_true q, decide_eq_false (by omega)]
    rfl
  · rw [decide_eq_false q, decide_eq_true (by omega)]
    rfl
theorem qPb_t {G : Gr} (hG : okG G) {c : Nat} (hc : c < qM G) : qPb G c true = !decide (c / qC G = qR G - 1) := by
  obtain ⟨-, ⟨h1, h2⟩, -⟩ := hG
  have hp : 0 < qC G := by omega
  have hd : c / qC G < qR G := (Nat.div_lt_iff_lt_mul hp).mpr hc
  have h0 : (0 : Int) ≤ ((c / qC G : Nat) : Int) := Int.natCast_nonneg _
  have he : (c + qC G) / qC G = c / qC G + 1 := Nat.add_div_right c hp
  have hi : c + qC G < qM G ↔ c / qC G + 1 < qR G := by
    rw [← he]
    exact (Nat.div_lt_iff_lt_mul hp).symm
  show (decide (c < qM G) && decide (c + qC G < qM G)) = _
  rw [decide_eq_true hc, Bool.true_and]
  by_cases q : c / qC G = qR G - 1
  · rw [decide_eq_true q, decide_eq_false (fun k => by have := hi.mp k; omega)]
    rfl
  · rw [decide_eq_false q, decide_eq_true (hi.mpr (by omega))]
    rfl
theorem jn_b {G : Gr} {b : Bool} {c : Nat} (h : qB G b c = true) : bI (!jn G b c) = 1 := by
  unfold jn
  rw [h]
  simp [bI]
theorem jn_p {G : Gr} {b : Bool} {c : Nat} (h : qPb G c b = false) : bI (!jn G b c) = 1 := by
  unfold jn
  rw [h]
  simp [bI]
theorem jn_1 {G : Gr} {b : Bool} {c : Nat} (h : qPb G c b = true) (h' : qB G b c = false) : bI (!jn G b c) = 0 := by
  unfold jn
  rw [h, h']
  simp [bI]
theorem bI_nf {b : Bool} {z : Int} (h : z = bI (!b)) (hz : z = 0) : b = true := by
  have := bI_f h hz
  cases b with
  | true => rfl
  | false => cases this
theorem bI_nt {b : Bool} {z : Int} (h : z = bI (!b)) (hz : ¬ z = 0) : b = false := by
  have := bI_t h hz
  cases b with
  | false => rfl
  | true => cases this
theorem mThrown_T {d N : Nat} {h : AH} {G : Gr} {th tl rm en : Int} {Q : AQ} (hZ : isM0 h G th tl rm en) (hG : okG G) (hN : 139 ≤ N) (hQ : ∀ z : Int, z = th → Q (.inl (some (vI z))) h N) : T (d + 1) 126 [vR 122] h N Q := by
  obtain ⟨S, m0, m3, hR⟩ := id hZ
  obtain ⟨hr0, hr1, rL, rE, rS, hr110, rWn, rWl, hr167, rNl⟩ := id hR
  have r0 : S (0 : Int).toNat = (qR G : Int) := hr0
  have r1 : S (1 : Int).toNat = (qC G : Int) := hr1
  have r110 : S (110 : Int).toNat = (qW G : Int) := hr110
  have r167 : S (167 : Int).toNat = (qN G : Int) := hr167
  obtain ⟨hm4, hm36⟩ := hG.m
  have hmi := qM_int G
  obtain ⟨⟨hr2, hr6⟩, ⟨hc2, hc6⟩, gL, gB, gW, gWn, gWl, gN, gNl⟩ := id hG
  refine T_body (I := mi_X9_thrown) (lv := [_]) rfl (Nat.le_of_ble_eq_true rfl) rfl ?_
  refine R_aload_n rfl rfl ?_
  refine R_getfield rfl rfl (by omega) m0 rfl ?_
  exact R_ireturn rfl (fun q => absurd q (by decide)) (Nat.zero_le _) (Nat.zero_le _) (hQ _ rfl)
theorem mSize_T {d N : Nat} {h : AH} {G : Gr} {th tl rm en : Int} {Q : AQ} (hZ : isM0 h G th tl rm en) (hG : okG G) (hN : 139 ≤ N) (hQ : ∀ z : Int, z = (qM G : Nat) → Q (.inl (some (vI z))) h N) : T (d + 1) 137 [vR 122] h N Q := by
  obtain ⟨S, m0, m3, hR⟩ := id hZ
  obtain ⟨hr0, hr1, rL, rE, rS, hr110, rWn, rWl, hr167, rNl⟩ := id hR
  have r0 : S (0 : Int).toNat = (qR G : Int) := hr0
  have r1 : S (1 : Int).toNat = (qC G : Int) := hr1
  have r110 : S (110 : Int).toNat = (qW G : Int) := hr110
  have r167 : S (167 : Int).toNat = (qN G : Int) := hr167
  obtain ⟨hm4, hm36⟩ := hG.m
  have hmi := qM_int G
  obtain ⟨⟨hr2, hr6⟩, ⟨hc2, hc6⟩, gL, gB, gW, gWn, gWl, gN, gNl⟩ := id hG
  refine T_body (I := mi_X9_size) (lv := [_]) rfl (Nat.le_of_ble_eq_true rfl) rfl ?_
  refine R_aload_n rfl rfl ?_
  refine R_getfield rfl rfl (by omega) m0 rfl ?_
  refine R_iconst rfl ?_
  refine R_iaload rfl (Or.inl (by omega)) m3 ⟨by omega, by omega, by omega⟩ ?_
  refine R_aload_n rfl rfl ?_
  refine R_getfield rfl rfl (by omega) m0 rfl ?_
  refine R_iconst rfl ?_
  refine R_iaload rfl (Or.inl (by omega)) m3 ⟨by omega, by omega, by omega⟩ ?_
  refine R_imul rfl ?_
  exact R_ireturn rfl (fun q => absurd q (by decide)) (Nat.zero_le _) (Nat.zero_le _) (hQ _ (by rw [r0, r1]; exact hmi))
theorem mIsCell_T {d N : Nat} {h : AH} {G : Gr} {th tl rm en : Int} {Q : AQ} (hZ : isM0 h G th tl rm en) (hG : okG G) (hN : 139 ≤ N) {c : Int} (hc : inR c) (hQ : ∀ z : Int, (z = 1 ∧ 0 ≤ c ∧ c < qM G) ∨ (z = 0 ∧ ¬ (0 ≤ c ∧ c < qM G)) → Q (.inl (some (vI z))) h N) : T (d + 2) 138 [vR 122, vI c] h N Q := by
  obtain ⟨S, m0, m3, hR⟩ := id hZ
  obtain ⟨hr0, hr1, rL, rE, rS, hr110, rWn, rWl, hr167, rNl⟩ := id hR
  have r0 : S (0 : Int).toNat = (qR G : Int) := hr0
  have r1 : S (1 : Int).toNat = (qC G : Int) := hr1
  have r110 : S (110 : Int).toNat = (qW G : Int) := hr110
  have r167 : S (167 : Int).toNat = (qN G : Int) := hr167
  obtain ⟨hm4, hm36⟩ := hG.m
  have hmi := qM_int G
  obtain ⟨⟨hr2, hr6⟩, ⟨hc2, hc6⟩, gL, gB, gW, gWn, gWl, gN, gNl⟩ := id hG
  obtain ⟨hc1, hc2⟩ := hc
  refine T_body (I := mi_X9_isCell) (lv := [_, _]) rfl (Nat.le_of_ble_eq_true rfl) rfl ?_
  refine R_iload_n rfl rfl ?_
  refine R_iflt rfl ⟨by omega, by omega⟩ (fun c1 => ?_) (fun c1 => ?_)
  · refine R_iconst rfl ?_
    exact R_ireturn rfl (fun _ => by omega) (Nat.zero_le _) (Nat.zero_le _) (hQ _ (by omega))
  · refine R_iload_n rfl rfl ?_
    refine R_aload_n rfl rfl ?_
    refine R_vcall rfl rfl ⟨(by omega), _, m0⟩ ⟨Nat.le_of_ble_eq_true rfl, Nat.le_of_ble_eq_true rfl, Nat.zero_le _, Nat.zero_le _⟩ (mSize_T hZ hG hN (fun z6 hz6 => aRes_i (rest := [_]) ?_))
    refine R_icmpge rfl ⟨by omega, by omega⟩ ⟨by omega, by omega⟩ (fun c9 => ?_) (fun c9 => ?_)
    · refine R_iconst rfl ?_
      exact R_ireturn rfl (fun _ => by omega) (Nat.zero_le _) (Nat.zero_le _) (hQ _ (by omega))
    · refine R_iconst rfl ?_
      refine R_goto rfl ?_
      exact R_ireturn rfl (fun _ => by omega) (Nat.zero_le _) (Nat.zero_le _) (hQ _ (by omega))
theorem mIsLastColumn_T {d N : Nat} {h : AH} {G : Gr} {th tl rm en : Int} {Q : AQ} (hZ : isM0 h G th tl rm en) (hG : okG G) (hN : 139 ≤ N) {c : Nat} {cz : Int} (hcz : cz = c) (hc : c < qM G) (hQ : ∀ z : Int, z = bI (!qPb G c false) → Q (.inl (some (vI z))) h N) : T (d + 1) 139 [vR 122, vI cz] h N Q := by
  obtain ⟨S, m0, m3, hR⟩ := id hZ
  obtain ⟨hr0, hr1, rL, rE, rS, hr110, rWn, rWl, hr167, rNl⟩ := id hR
  have r0 : S (0 : Int).toNat = (qR G : Int) := hr0
  have r1 : S (1 : Int).toNat = (qC G : Int) := hr1
  have r110 : S (110 : Int).toNat = (qW G : Int) := hr110
  have r167 : S (167 : Int).toNat = (qN G : Int) := hr167
  obtain ⟨hm4, hm36⟩ := hG.m
  have hmi := qM_int G
  obtain ⟨⟨hr2, hr6⟩, ⟨hc2, hc6⟩, gL, gB, gW, gWn, gWl, gN, gNl⟩ := id hG
  subst hcz
  have hmd : (c : Int) % (qC G : Int) = ((c % qC G : Nat) : Int) := rfl
  have hml := Nat.mod_lt c (show 0 < qC G by omega)
  refine T_body (I := mi_X9_isLastColumn) (lv := [_, _]) rfl (Nat.le_of_ble_eq_true rfl) rfl ?_
  refine R_iload_n rfl rfl ?_
  refine R_aload_n rfl rfl ?_
  refine R_getfield rfl rfl (by omega) m0 rfl ?_
  refine R_iconst rfl ?_
  refine R_iaload rfl (Or.inl (by omega)) m3 ⟨by omega, by omega, by omega⟩ ?_
  rw [r1]
  refine R_irem rfl ⟨by omega, by omega, by omega, by omega⟩ ?_
  rw [hmd]
  refine R_aload_n rfl rfl ?_
  refine R_getfield rfl rfl (by omega) m0 rfl ?_
  refine R_iconst rfl ?_
  refine R_iaload rfl (Or.inl (by omega)) m3 ⟨by omega, by omega, by omega⟩ ?_
  rw [r1]
  refine R_iconst rfl ?_
  refine R_isub rfl ?_
  refine R_icmpne rfl ⟨by omega, by omega⟩ ⟨by omega, by omega⟩ (fun c16 => ?_) (fun c16 => ?_)
  · refine R_iconst rfl ?_
    exact R_ireturn rfl (fun _ => by omega) (Nat.zero_le _) (Nat.zero_le _) (hQ _ (by rw [qPb_f hG hc, decide_eq_false (show ¬ c % qC G = qC G - 1 by omega)]; rfl))
  · refine R_iconst rfl ?_
    refine R_goto rfl ?_
    exact R_ireturn rfl (fun _ => by omega) (Nat.zero_le _) (Nat.zero_le _) (hQ _ (by rw [qPb_f hG hc, decide_eq_true (show c % qC G = qC G - 1 by omega)]; rfl))
theorem mIsLastRow_T {d N : Nat} {h : AH} {G : Gr} {th tl rm en : Int} {Q : AQ} (hZ : isM0 h G th tl rm en) (hG : okG G) (hN : 139 ≤ N) {c : Nat} {cz : Int} (hcz : cz = c) (hc : c < qM G) (hQ : ∀ z : Int, z = bI (!qPb G c true) → Q (.inl (some (vI z))) h N) : T (d + 1) 140 [vR 122, vI cz] h N Q := by
  obtain ⟨S, m0, m3, hR⟩ := id hZ
  obtain ⟨hr0, hr1, rL, rE, rS, hr110, rWn, rWl, hr167, rNl⟩ := id hR
  have r0 : S (0 : Int).toNat = (qR G : Int) := hr0
  have r1 : S (1 : Int).toNat = (qC G : Int) := hr1
  have r110 : S (110 : Int).toNat = (qW G : Int) := hr110
  have r167 : S (167 : Int).toNat = (qN G : Int) := hr167
  obtain ⟨hm4, hm36⟩ := hG.m
  have hmi := qM_int G
  obtain ⟨⟨hr2, hr6⟩, ⟨hc2, hc6⟩, gL, gB, gW, gWn, gWl, gN, gNl⟩ := id hG
  subst hcz
  have hmd : (c : Int) / (qC G : Int) = ((c / qC G : Nat) : Int) := rfl
  have hml : c / qC G < qR G := (Nat.div_lt_iff_lt_mul (show 0 < qC G by omega)).mpr hc
  have hm0 : (0 : Int) ≤ ((c / qC G : Nat) : Int) := Int.natCast_nonneg _
  refine T_body (I := mi_X9_isLastRow) (lv := [_, _]) rfl (Nat.le_of_ble_eq_true rfl) rfl ?_
  refine R_iload_n rfl rfl ?_
  refine R_aload_n rfl rfl ?_
  refine R_getfield rfl rfl (by omega) m0 rfl ?_
  refine R_iconst rfl ?_
  refine R_iaload rfl (Or.inl (by omega)) m3 ⟨by omega, by omega, by omega⟩ ?_
  rw [r1]
  refine R_idiv rfl ⟨by omega, by omega, by omega, by omega⟩ ?_
  rw [hmd]
  refine R_aload_n rfl rfl ?_
  refine R_getfield rfl rfl (by omega) m0 rfl ?_
  refine R_iconst rfl ?_
  refine R_iaload rfl (Or.inl (by omega)) m3 ⟨by omega, by omega, by omega⟩ ?_
  rw [r0]
  refine R_iconst rfl ?_
  refine R_isub rfl ?_
  refine R_icmpne rfl ⟨by omega, by omega⟩ ⟨by omega, by omega⟩ (fun c16 => ?_) (fun c16 => ?_)
  · refine R_iconst rfl ?_
    exact R_ireturn rfl (fun _ => by omega) (Nat.zero_le _) (Nat.zero_le _) (hQ _ (by rw [qPb_t hG hc, decide_eq_false (show ¬ c / qC G = qR G - 1 by omega)]; rfl))
  · refine R_iconst rfl ?_
    refine R_goto rfl ?_
    exact R_ireturn rfl (fun _ => by omega) (Nat.zero_le _) (Nat.zero_le _) (hQ _ (by rw [qPb_t hG hc, decide_eq_true (show c / qC G = qR G - 1 by omega)]; rfl))
theorem mEndsRight_T {d N : Nat} {h : AH} {G : Gr} {th tl rm en : Int} {Q : AQ} (hZ : isM0 h G th tl rm en) (hG : okG G) (hN : 139 ≤ N) {c : Nat} {cz : Int} (hcz : cz = c) (hc : c < qM G) (hQ : ∀ z : Int, z = bI (!jn G false c) → Q (.inl (some (vI z))) h N) : T (d + 2) 141 [vR 122, vI cz] h N Q := by
  obtain ⟨S, m0, m3, hR⟩ := id hZ
  obtain ⟨hr0, hr1, rL, rE, rS, hr110, rWn, rWl, hr167, rNl⟩ := id hR
  have r0 : S (0 : Int).toNat = (qR G : Int) := hr0
  have r1 : S (1 : Int).toNat = (qC G : Int) := hr1
  have r110 : S (110 : Int).toNat = (qW G : Int) := hr110
  have r167 : S (167 : Int).toNat = (qN G : Int) := hr167
  obtain ⟨hm4, hm36⟩ := hG.m
  have hmi := qM_int G
  obtain ⟨⟨hr2, hr6⟩, ⟨hc2, hc6⟩, gL, gB, gW, gWn, gWl, gN, gNl⟩ := id hG
  subst hcz
  have hB9 : S ((38 : Int) + (c : Int)).toNat = bI (qE G c) := rE c hc
  have hB1 := bI01 (qE G c)
  rw [← hB9] at hB1
  refine T_body (I := mi_X9_endsRight) (lv := [_, _]) rfl (Nat.le_of_ble_eq_true rfl) rfl ?_
  refine R_aload_n rfl rfl ?_
  refine R_iload_n rfl rfl ?_
  refine R_vcall rfl rfl ⟨(by omega), _, m0⟩ ⟨Nat.le_of_ble_eq_true rfl, Nat.le_of_ble_eq_true rfl, Nat.zero_le _, Nat.zero_le _⟩ (mIsLastColumn_T hZ hG hN rfl hc (fun z2 hz2 => aRes_i (rest := []) ?_))
  have hz9 := bI01 (!qPb G c false)
  rw [← hz2] at hz9
  refine R_ifne rfl ⟨by omega, by omega⟩ (fun c5 => ?_) (fun c5 => ?_)
  · refine R_iconst rfl ?_
    refine R_goto rfl ?_
    exact R_ireturn rfl (fun _ => by omega) (Nat.zero_le _) (Nat.zero_le _) (hQ _ (by first | exact (jn_p (bI_nt hz2 c5)).symm | exact (jn_b (b := false) (bI_t hB9 (by omega))).symm))
  · refine R_aload_n rfl rfl ?_
    refine R_getfield rfl rfl (by omega) m0 rfl ?_
    refine R_bipush rfl ?_
    refine R_iload_n rfl rfl ?_
    refine R_iadd rfl ?_
    refine R_iaload rfl (Or.inl (by omega)) m3 ⟨by omega, by omega, by omega⟩ ?_
    refine R_iconst rfl ?_
    refine R_icmpne rfl ⟨by omega, by omega⟩ ⟨by decide, by decide⟩ (fun c18 => ?_) (fun c18 => ?_)
    · refine R_iconst rfl ?_
      exact R_ireturn rfl (fun _ => by omega) (Nat.zero_le _) (Nat.zero_le _) (hQ _ (jn_1 (b := false) (bI_nf hz2 (by omega)) (bI_f hB9 (by omega))).symm)
    · refine R_iconst rfl ?_
      refine R_goto rfl ?_
      exact R_ireturn rfl (fun _ => by omega) (Nat.zero_le _) (Nat.zero_le _) (hQ _ (by first | exact (jn_p (bI_nt hz2 c5)).symm | exact (jn_b (b := false) (bI_t hB9 (by omega))).symm))
theorem mEndsBelow_T {d N : Nat} {h : AH} {G : Gr} {th tl rm en : Int} {Q : AQ} (hZ : isM0 h G th tl rm en) (hG : okG G) (hN : 139 ≤ N) {c : Nat} {cz : Int} (hcz : cz = c) (hc : c < qM G) (hQ : ∀ z : Int, z = bI (!jn G true c) → Q (.inl (some (vI z))) h N) : T (d + 2) 142 [vR 122, vI cz] h N Q := by
  obtain ⟨S, m0, m3, hR⟩ := id hZ
  obtain ⟨hr0, hr1, rL, rE, rS, hr110, rWn, rWl, hr167, rNl⟩ := id hR
  have r0 : S (0 : Int).toNat = (qR G : Int) := hr0
  have r1 : S (1 : Int).toNat = (qC G : Int) := hr1
  have r110 : S (110 : Int).toNat = (qW G : Int) := hr110
  have r167 : S (167 : Int).toNat = (qN G : Int) := hr167
  obtain ⟨hm4, hm36⟩ := hG.m
  have hmi := qM_int G
  obtain ⟨⟨hr2, hr6⟩, ⟨hc2, hc6⟩, gL, gB, gW, gWn, gWl, gN, gNl⟩ := id hG
  subst hcz
  have hB9 : S ((74 : Int) + (c : Int)).toNat = bI (qS G c) := rS c hc
  have hB1 := bI01 (qS G c)
  rw [← hB9] at hB1
  refine T_body (I := mi_X9_endsBelow) (lv := [_, _]) rfl (Nat.le_of_ble_eq_true rfl) rfl ?_
  refine R_aload_n rfl rfl ?_
  refine R_iload_n rfl rfl ?_
  refine R_vcall rfl rfl ⟨(by omega), _, m0⟩ ⟨Nat.le_of_ble_eq_true rfl, Nat.le_of_ble_eq_true rfl, Nat.zero_le _, Nat.zero_le _⟩ (mIsLastRow_T hZ hG hN rfl hc (fun z2 hz2 => aRes_i (rest := []) ?_))
  have hz9 := bI01 (!qPb G c true)
  rw [← hz2] at hz9
  refine R_ifne rfl ⟨by omega, by omega⟩ (fun c5 => ?_) (fun c5 => ?_)
  · refine R_iconst rfl ?_
    refine R_goto rfl ?_
    exact R_ireturn rfl (fun _ => by omega) (Nat.zero_le _) (Nat.zero_le _) (hQ _ (by first | exact (jn_p (bI_nt hz2 c5)).symm | exact (jn_b (b := true) (bI_t hB9 (by omega))).symm))
  · refine R_aload_n rfl rfl ?_
    refine R_getfield rfl rfl (by omega) m0 rfl ?_
    refine R_bipush rfl ?_
    refine R_iload_n rfl rfl ?_
    refine R_iadd rfl ?_
    refine R_iaload rfl (Or.inl (by omega)) m3 ⟨by omega, by omega, by omega⟩ ?_
    refine R_iconst rfl ?_
    refine R_icmpne rfl ⟨by omega, by omega⟩ ⟨by decide, by decide⟩ (fun c18 => ?_) (fun c18 => ?_)
    · refine R_iconst rfl ?_
      exact R_ireturn rfl (fun _ => by omega) (Nat.zero_le _) (Nat.zero_le _) (hQ _ (jn_1 (b := true) (bI_nf hz2 (by omega)) (bI_f hB9 (by omega))).symm)
    · refine R_iconst rfl ?_
      refine R_goto rfl ?_
      exact R_ireturn rfl (fun _ => by omega) (Nat.zero_le _) (Nat.zero_le _) (hQ _ (by first | exact (jn_p (bI_nt hz2 c5)).symm | exact (jn_b (b := true) (bI_t hB9 (by omega))).symm))
theorem mIsEntry_T {d N : Nat} {h : AH} {G : Gr} {th tl rm : Int} {Q : AQ} (hM : isMg h G th tl rm) (hG : okG G) (hN : 139 ≤ N) {e : Int} (hc : inR e) (hQ : ∀ z : Int, (z = 1 ∧ 0 ≤ e ∧ e < nE G) ∨ (z = 0 ∧ ¬ (0 ≤ e ∧ e < nE G)) → Q (.inl (some (vI z))) h N) : T (d + 1) 145 [vR 122, vI e] h N Q := by
  obtain ⟨F, D, L, A, W, C, hZ, m11, m12, m13, m14, m15, m16, hE, hA, hW, hC⟩ := id hM
  obtain ⟨S, m0, m3, hR⟩ := id hZ
  obtain ⟨hr0, hr1, rL, rE, rS, hr110, rWn, rWl, hr167, rNl⟩ := id hR
  have r0 : S (0 : Int).toNat = (qR G : Int) := hr0
  have r1 : S (1 : Int).toNat = (qC G : Int) := hr1
  have r110 : S (110 : Int).toNat = (qW G : Int) := hr110
  have r167 : S (167 : Int).toNat = (qN G : Int) := hr167
  obtain ⟨hm4, hm36⟩ := hG.m
  have hmi := qM_int G
  obtain ⟨⟨hr2, hr6⟩, ⟨hc2, hc6⟩, gL, gB, gW, gWn, gWl, gN, gNl⟩ := id hG
  have hn36 := nE36 hG
  obtain ⟨hc1, hc2⟩ := hc
  refine T_body (I := mi_X9_isEntry) (lv := [_, _]) rfl (Nat.le_of_ble_eq_true rfl) rfl ?_
  refine R_iload_n rfl rfl ?_
  refine R_iflt rfl ⟨by omega, by omega⟩ (fun c1 => ?_) (fun c1 => ?_)
  · refine R_iconst rfl ?_
    exact R_ireturn rfl (fun _ => by omega) (Nat.zero_le _) (Nat.zero_le _) (hQ _ (by omega))
  · refine R_iload_n rfl rfl ?_
    refine R_aload_n rfl rfl ?_
    refine R_getfield rfl rfl (by omega) m0 rfl ?_
    refine R_icmpge rfl ⟨by omega, by omega⟩ ⟨by omega, by omega⟩ (fun c9 => ?_) (fun c9 => ?_)
    · refine R_iconst rfl ?_
      exact R_ireturn rfl (fun _ => by omega) (Nat.zero_le _) (Nat.zero_le _) (hQ _ (by omega))
    · refine R_iconst rfl ?_
      refine R_goto rfl ?_
      exact R_ireturn rfl (fun _ => by omega) (Nat.zero_le _) (Nat.zero_le _) (hQ _ (by omega))
theorem mCellOf_T {d N : Nat} {h : AH} {G : Gr} {th tl rm : Int} {Q : AQ} (hM : isMg h G th tl rm) (hG : okG G) (hN : 139 ≤ N) {e : Nat} {ez : Int} (hez : ez = e) (he : e < nE G) {i : Nat} {iz : Int} (hi : iz = i) (hQ : ∀ z : Int, z = (cel G e i : Nat) → Q (.inl (some (vI z))) h N) : T (d + 1) 146 [vR 122, vI ez, vI iz] h N Q := by
  obtain ⟨F, D, L, A, W, C, hZ, m11, m12, m13, m14, m15, m16, hE, hA, hW, hC⟩ := id hM
  obtain ⟨S, m0, m3, hR⟩ := id hZ
  obtain ⟨hr0, hr1, rL, rE, rS, hr110, rWn, rWl, hr167, rNl⟩ := id hR
  have r0 : S (0 : Int).toNat = (qR G : Int) := hr0
  have r1 : S (1 : Int).toNat = (qC G : Int) := hr1
  have r110 : S (110 : Int).toNat = (qW G : Int) := hr110
  have r167 : S (167 : Int).toNat = (qN G : Int) := hr167
  obtain ⟨hm4, hm36⟩ := hG.m
  have hmi := qM_int G
  obtain ⟨⟨hr2, hr6⟩, ⟨hc2, hc6⟩, gL, gB, gW, gWn, gWl, gN, gNl⟩ := id hG
  have hn36 := nE36 hG
  subst hez
  obtain ⟨hF9, hL9, hD9⟩ := hE _ _ _ (ents_get he)
  have hF1 : F ((e : Int)).toNat = (eC G e : Int) := hF9
  have hL1 : L ((e : Int)).toNat = (eN G e : Int) := hL9
  have hD1 : D ((e : Int)).toNat = bI (eB G e) := hD9
  have hD01 : D ((e : Int)).toNat = 0 ∨ D ((e : Int)).toNat = 1 := by
    rw [hD1]
    exact bI01 _
  have he6 := eN_6 hG he
  subst hi
  refine T_body (I := mi_X9_cellOf) (lv := [_, _, _]) rfl (Nat.le_of_ble_eq_true rfl) rfl ?_
  refine R_aload_n rfl rfl ?_
  refine R_getfield rfl rfl (by omega) m0 rfl ?_
  refine R_iload_n rfl rfl ?_
  refine R_iaload rfl (Or.inl (by omega)) m11 ⟨by omega, by omega, by omega⟩ ?_
  refine R_iload_n rfl rfl ?_
  refine R_aload_n rfl rfl ?_
  refine R_getfield rfl rfl (by omega) m0 rfl ?_
  refine R_iload_n rfl rfl ?_
  refine R_iaload rfl (Or.inl (by omega)) m12 ⟨by omega, by omega, by omega⟩ ?_
  refine R_iconst rfl ?_
  refine R_icmpne rfl ⟨by omega, by omega⟩ ⟨by decide, by decide⟩ (fun c14 => ?_) (fun c14 => ?_)
  · refine R_iconst rfl ?_
    refine R_imul rfl ?_
    refine R_iadd rfl ?_
    exact R_ireturn rfl (fun q => absurd q (by decide)) (Nat.zero_le _) (Nat.zero_le _) (hQ _ (by first | exact celF (bI_f hD1 (by omega)) hF1 | exact celT (bI_t hD1 (by omega)) hF1))
  · refine R_aload_n rfl rfl ?_
    refine R_getfield rfl rfl (by omega) m0 rfl ?_
    refine R_iconst rfl ?_
    refine R_iaload rfl (Or.inl (by omega)) m3 ⟨by omega, by omega, by omega⟩ ?_
    rw [r1]
    refine R_goto rfl ?_
    refine R_imul rfl ?_
    refine R_iadd rfl ?_
    exact R_ireturn rfl (fun q => absurd q (by decide)) (Nat.zero_le _) (Nat.zero_le _) (hQ _ (by first | exact celF (bI_f hD1 (by omega)) hF1 | exact celT (bI_t hD1 (by omega)) hF1))
theorem mEntriesOf_T {d N : Nat} {h : AH} {G : Gr} {th tl rm : Int} {Q : AQ} (hM : isMg h G th tl rm) (hG : okG G) (hN : 139 ≤ N) {x : Nat} {xz : Int} (hxz : xz = x) (hx : x < qM G) (hQ : ∀ z : Int, z = (enC G x : Nat) → Q (.inl (some (vI z))) h N) : T (d + 1) 147 [vR 122, vI xz] h N Q := by
  obtain ⟨F, D, L, A, W, C, hZ, m11, m12, m13, m14, m15, m16, hE, hA, hW, hC⟩ := id hM
  obtain ⟨S, m0, m3, hR⟩ := id hZ
  obtain ⟨hr0, hr1, rL, rE, rS, hr110, rWn, rWl, hr167, rNl⟩ := id hR
  have r0 : S (0 : Int).toNat = (qR G : Int) := hr0
  have r1 : S (1 : Int).toNat = (qC G : Int) := hr1
  have r110 : S (110 : Int).toNat = (qW G : Int) := hr110
  have r167 : S (167 : Int).toNat = (qN G : Int) := hr167
  obtain ⟨hm4, hm36⟩ := hG.m
  have hmi := qM_int G
  obtain ⟨⟨hr2, hr6⟩, ⟨hc2, hc6⟩, gL, gB, gW, gWn, gWl, gN, gNl⟩ := id hG
  have hn36 := nE36 hG
  subst hxz
  have hA9 : A ((x : Int)).toNat = acr G false x := hA x hx
  have hA8 := acr_cases hG (b := false) hx
  have hAb : -9 ≤ A ((x : Int)).toNat ∧ A ((x : Int)).toNat < 36 := by
    rw [hA9]
    rcases hA8 with ⟨q, -⟩ | ⟨n, q, q2, -⟩ <;> omega
  have hW9 : W ((x : Int)).toNat = acr G true x := hW x hx
  have hW8 := acr_cases hG (b := true) hx
  have hWb : -9 ≤ W ((x : Int)).toNat ∧ W ((x : Int)).toNat < 36 := by
    rw [hW9]
    rcases hW8 with ⟨q, -⟩ | ⟨n, q, q2, -⟩ <;> omega
  refine T_body (I := mi_X9_entriesOf) (lv := [_, _]) rfl (Nat.le_of_ble_eq_true rfl) rfl ?_
  refine R_aload_n rfl rfl ?_
  refine R_getfield rfl rfl (by omega) m0 rfl ?_
  refine R_iload_n rfl rfl ?_
  refine R_iaload rfl (Or.inl (by omega)) m14 ⟨by omega, by omega, by omega⟩ ?_
  refine R_bipush rfl ?_
  refine R_icmpne rfl ⟨by omega, by omega⟩ ⟨by decide, by decide⟩ (fun c8 => ?_) (fun c8 => ?_)
  · have ha : inE G false x = true := by
      rcases hA8 with ⟨q, -⟩ | ⟨n, -, -, q⟩
      · exact absurd (hA9.trans q) c8
      · exact q
    refine R_iconst rfl ?_
    refine R_aload_n rfl rfl ?_
    refine R_getfield rfl rfl (by omega) m0 rfl ?_
    refine R_iload_n rfl rfl ?_
    refine R_iaload rfl (Or.inl (by omega)) m15 ⟨by omega, by omega, by omega⟩ ?_
    refine R_bipush rfl ?_
    refine R_icmpne rfl ⟨by omega, by omega⟩ ⟨by decide, by decide⟩ (fun c24 => ?_) (fun c24 => ?_)
    · have hd : inE G true x = true := by
        rcases hW8 with ⟨q, -⟩ | ⟨n, -, -, q⟩
        · exact absurd (hW9.trans q) c24
        · exact q
      refine R_iconst rfl ?_
      refine R_iadd rfl ?_
      exact R_ireturn rfl (fun q => absurd q (by decide)) (Nat.zero_le _) (Nat.zero_le _) (hQ _ (by unfold enC; rw [ha, hd]; rfl))
    · have hd : inE G true x = false := by
        rcases hW8 with ⟨-, q⟩ | ⟨n, q, -, -⟩
        · exact q
        · omega
      refine R_iconst rfl ?_
      refine R_goto rfl ?_
      refine R_iadd rfl ?_
      exact R_ireturn rfl (fun q => absurd q (by decide)) (Nat.zero_le _) (Nat.zero_le _) (hQ _ (by unfold enC; rw [ha, hd]; rfl))
  · have ha : inE G false x = false := by
      rcases hA8 with ⟨-, q⟩ | ⟨n, q, -, -⟩
      · exact q
      · omega
    refine R_iconst rfl ?_
    refine R_goto rfl ?_
    refine R_aload_n rfl rfl ?_
    refine R_getfield rfl rfl (by omega) m0 rfl ?_
    refine R_iload_n rfl rfl ?_
    refine R_iaload rfl (Or.inl (by omega)) m15 ⟨by omega, by omega, by omega⟩ ?_
    refine R_bipush rfl ?_
    refine R_icmpne rfl ⟨by omega, by omega⟩ ⟨by decide, by decide⟩ (fun c24 => ?_) (fun c24 => ?_)
    · have hd : inE G true x = true := by
        rcases hW8 with ⟨q, -⟩ | ⟨n, -, -, q⟩
        · exact absurd (hW9.trans q) c24
        · exact q
      refine R_iconst rfl ?_
      refine R_iadd rfl ?_
      exact R_ireturn rfl (fun q => absurd q (by decide)) (Nat.zero_le _) (Nat.zero_le _) (hQ _ (by unfold enC; rw [ha, hd]; rfl))
    · have hd : inE G true x = false := by
        rcases hW8 with ⟨-, q⟩ | ⟨n, q, -, -⟩
        · exact q
        · omega
      refine R_iconst rfl ?_
      refine R_goto rfl ?_
      refine R_iadd rfl ?_
      exact R_ireturn rfl (fun q => absurd q (by decide)) (Nat.zero_le _) (Nat.zero_le _) (hQ _ (by unfold enC; rw [ha, hd]; rfl))
theorem enC_2 {G : Gr} {x : Nat} : enC G x ≤ 2 := by
  unfold enC
  cases inE G false x <;> cases inE G true x <;> decide
theorem mci_loop {d N : Nat} {h : AH} {G : Gr} {th tl rm : Int} {Q : AQ} (hM : isMg h G th tl rm) (hG : okG G) (hN : 139 ≤ N) {n : Nat} {nz : Int} (hnz : nz = n) (hn2 : n ≤ 2) : ∀ (r i a : Nat) (za zi : Int), i + r = qM G → za = a → zi = i → (∀ z : Int, z = ((a + ctF (fun x => decide (enC G x = n)) r i : Nat) : Int) → Q (.inl (some (vI z))) h N) → Run mi_X9_cellsIn (T (d + 1)) Q 4 [some (vR 122), some (vI nz), some (vI za), some (vI zi)] [] h N 0 0 := by
  obtain ⟨F, D, L, A, W, C, hZ, m11, m12, m13, m14, m15, m16, hE, hA, hW, hC⟩ := id hM
  obtain ⟨S, m0, m3, hR⟩ := id hZ
  obtain ⟨hr0, hr1, rL, rE, rS, hr110, rWn, rWl, hr167, rNl⟩ := id hR
  have r0 : S (0 : Int).toNat = (qR G : Int) := hr0
  have r1 : S (1 : Int).toNat = (qC G : Int) := hr1
  have r110 : S (110 : Int).toNat = (qW G : Int) := hr110
  have r167 : S (167 : Int).toNat = (qN G : Int) := hr167
  obtain ⟨hm4, hm36⟩ := hG.m
  have hmi := qM_int G
  obtain ⟨⟨hr2, hr6⟩, ⟨hc2, hc6⟩, gL, gB, gW, gWn, gWl, gN, gNl⟩ := id hG
  have hn36 := nE36 hG
  intro r
  induction r using Nat.strongRecOn with
  | ind r ih =>
  intro i a za zi hr hza hzi hQ
  have hcz : zi.toNat = i := by omega
  refine R_iload_n rfl rfl ?_
  refine R_aload_n rfl rfl ?_
  refine R_vcall rfl rfl ⟨(by omega), _, m0⟩ ⟨Nat.le_of_ble_eq_true rfl, Nat.le_of_ble_eq_true rfl, Nat.zero_le _, Nat.zero_le _⟩ (mSize_T hZ hG hN (fun z6 hz6 => aRes_i (rest := [_]) ?_))
  refine R_icmpge rfl ⟨by omega, by omega⟩ ⟨by omega, by omega⟩ (fun c9 => ?_) (fun c9 => ?_)
  · have hr0 : r = 0 := by omega
    subst hr0
    refine R_iload_n rfl rfl ?_
    exact R_ireturn rfl (fun q => absurd q (by decide)) (Nat.zero_le _) (Nat.zero_le _) (hQ _ (by rw [hza]; rfl))
  · obtain ⟨r, rfl⟩ : ∃ r1, r = r1 + 1 := ⟨r - 1, by omega⟩
    refine R_iload_n rfl rfl ?_
    refine R_aload_n rfl rfl ?_
    refine R_iload_n rfl rfl ?_
    refine R_vcall rfl rfl ⟨(by omega), _, m0⟩ ⟨Nat.le_of_ble_eq_true rfl, Nat.le_of_ble_eq_true rfl, Nat.zero_le _, Nat.zero_le _⟩ (mEntriesOf_T (x := i) hM hG hN (by omega) (by omega) (fun z15 hz15 => aRes_i (rest := [_]) ?_))
    have hen := enC_2 (G := G) (x := i)
    refine R_iload_n rfl rfl ?_
    refine R_icmpne rfl ⟨by omega, by omega⟩ ⟨by omega, by omega⟩ (fun c19 => ?_) (fun c19 => ?_)
    · have hp : (fun x => decide (enC G x = n)) i = false := decide_eq_false (by omega)
      refine R_iconst rfl ?_
      refine R_iadd rfl ?_
      refine R_istore_n (lv' := [_, _, _, _]) rfl rfl ?_
      refine R_iinc (lv' := [_, _, _, _]) rfl rfl rfl ?_
      refine R_goto rfl ?_
      first | exact ih r (by omega) (i + 1) (a + 1) _ _ (by omega) (by omega) (by omega) (fun z hz => hQ z (hz.trans (congrArg Nat.cast (ct_hit (p := (fun x => decide (enC G x = n))) hp)))) | exact ih r (by omega) (i + 1) a _ _ (by omega) (by omega) (by omega) (fun z hz => hQ z (hz.trans (congrArg Nat.cast (ct_skip (p := (fun x => decide (enC G x = n))) hp))))
    · have hp : (fun x => decide (enC G x = n)) i = true := decide_eq_true (by omega)
      refine R_iconst rfl ?_
      refine R_goto rfl ?_
      refine R_iadd rfl ?_
      refine R_istore_n (lv' := [_, _, _, _]) rfl rfl ?_
      refine R_iinc (lv' := [_, _, _, _]) rfl rfl rfl ?_
      refine R_goto rfl ?_
      first | exact ih r (by omega) (i + 1) (a + 1) _ _ (by omega) (by omega) (by omega) (fun z hz => hQ z (hz.trans (congrArg Nat.cast (ct_hit (p := (fun x => decide (enC G x = n))) hp)))) | exact ih r (by omega) (i + 1) a _ _ (by omega) (by omega) (by omega) (fun z hz => hQ z (hz.trans (congrArg Nat.cast (ct_skip (p := (fun x => decide (enC G x = n))) hp))))
theorem mCellsIn_T {d N : Nat} {h : AH} {G : Gr} {th tl rm : Int} {Q : AQ} (hM : isMg h G th tl rm) (hG : okG G) (hN : 139 ≤ N) {n : Nat} {nz : Int} (hnz : nz = n) (hn2 : n ≤ 2) (hQ : ∀ z : Int, z = (ciG G n : Nat) → Q (.inl (some (vI z))) h N) : T (d + 2) 150 [vR 122, vI nz] h N Q := by
  obtain ⟨F, D, L, A, W, C, hZ, m11, m12, m13, m14, m15, m16, hE, hA, hW, hC⟩ := id hM
  obtain ⟨S, m0, m3, hR⟩ := id hZ
  obtain ⟨hr0, hr1, rL, rE, rS, hr110, rWn, rWl, hr167, rNl⟩ := id hR
  have r0 : S (0 : Int).toNat = (qR G : Int) := hr0
  have r1 : S (1 : Int).toNat = (qC G : Int) := hr1
  have r110 : S (110 : Int).toNat = (qW G : Int) := hr110
  have r167 : S (167 : Int).toNat = (qN G : Int) := hr167
  obtain ⟨hm4, hm36⟩ := hG.m
  have hmi := qM_int G
  obtain ⟨⟨hr2, hr6⟩, ⟨hc2, hc6⟩, gL, gB, gW, gWn, gWl, gN, gNl⟩ := id hG
  have hn36 := nE36 hG
  refine T_body (I := mi_X9_cellsIn) (lv := [_, _, _, _]) rfl (Nat.le_of_ble_eq_true rfl) rfl ?_
  refine R_iconst rfl ?_
  refine R_istore_n (lv' := [_, _, _, _]) rfl rfl ?_
  refine R_iconst rfl ?_
  refine R_istore_n (lv' := [_, _, _, _]) rfl rfl ?_
  exact mci_loop hM hG hN hnz hn2 (qM G) 0 0 _ _ (Nat.zero_add _) rfl rfl (fun z hz => hQ z (hz.trans (congrArg Nat.cast (Nat.zero_add _))))
theorem mun_loop {d N : Nat} {h : AH} {G : Gr} {th tl rm : Int} {Q : AQ} (hM : isMg h G th tl rm) (hG : okG G) (hN : 139 ≤ N) {e : Nat} (he : e < nE G) : ∀ (r i a : Nat) (za zi : Int), i + r = eN G e → za = a → zi = i → (∀ z : Int, z = ((a + ctF (pUn G e) r i : Nat) : Int) → Q (.inl (some (vI z))) h N) → Run mi_X9_uncheckedIn (T (d + 1)) Q 4 [some (vR 122), some (vI e), some (vI za), some (vI zi)] [] h N 0 0 := by
  obtain ⟨F, D, L, A, W, C, hZ, m11, m12, m13, m14, m15, m16, hE, hA, hW, hC⟩ := id hM
  obtain ⟨S, m0, m3, hR⟩ := id hZ
  obtain ⟨hr0, hr1, rL, rE, rS, hr110, rWn, rWl, hr167, rNl⟩ := id hR
  have r0 : S (0 : Int).toNat = (qR G : Int) := hr0
  have r1 : S (1 : Int).toNat = (qC G : Int) := hr1
  have r110 : S (110 : Int).toNat = (qW G : Int) := hr110
  have r167 : S (167 : Int).toNat = (qN G : Int) := hr167
  obtain ⟨hm4, hm36⟩ := hG.m
  have hmi := qM_int G
  obtain ⟨⟨hr2, hr6⟩, ⟨hc2, hc6⟩, gL, gB, gW, gWn, gWl, gN, gNl⟩ := id hG
  have hn36 := nE36 hG
  obtain ⟨hF9, hL9, hD9⟩ := hE _ _ _ (ents_get he)
  have hF1 : F ((e : Int)).toNat = (eC G e : Int) := hF9
  have hL1 : L ((e : Int)).toNat = (eN G e : Int) := hL9
  have hD1 : D ((e : Int)).toNat = bI (eB G e) := hD9
  have hD01 : D ((e : Int)).toNat = 0 ∨ D ((e : Int)).toNat = 1 := by
    rw [hD1]
    exact bI01 _
  have he6 := eN_6 hG he
  intro r
  induction r using Nat.strongRecOn with
  | ind r ih =>
  intro i a za zi hr hza hzi hQ
  have hcz : zi.toNat = i := by omega
  refine R_iload_n rfl rfl ?_
  refine R_aload_n rfl rfl ?_
  refine R_getfield rfl rfl (by omega) m0 rfl ?_
  refine R_iload_n rfl rfl ?_
  refine R_iaload rfl (Or.inl (by omega)) m13 ⟨by omega, by omega, by omega⟩ ?_
  refine R_icmpge rfl ⟨by omega, by omega⟩ ⟨by omega, by omega⟩ (fun c11 => ?_) (fun c11 => ?_)
  · have hr0 : r = 0 := by omega
    subst hr0
    refine R_iload_n rfl rfl ?_
    exact R_ireturn rfl (fun q => absurd q (by decide)) (Nat.zero_le _) (Nat.zero_le _) (hQ _ (by rw [hza]; rfl))
  · obtain ⟨r, rfl⟩ : ∃ r1, r = r1 + 1 := ⟨r - 1, by omega⟩
    refine R_iload_n rfl rfl ?_
    refine R_aload_n rfl rfl ?_
    refine R_aload_n rfl rfl ?_
    refine R_iload_n rfl rfl ?_
    refine R_iload_n rfl rfl ?_
    refine R_vcall rfl rfl ⟨(by omega), _, m0⟩ ⟨Nat.le_of_ble_eq_true rfl, Nat.le_of_ble_eq_true rfl, Nat.zero_le _, Nat.zero_le _⟩ (mCellOf_T (i := i) hM hG hN rfl he (by omega) (fun z19 hz19 => aRes_i (rest := [_, _]) ?_))
    have hcl := cel_lt hG he (i := i) (by omega)
    refine R_vcall rfl rfl ⟨(by omega), _, m0⟩ ⟨Nat.le_of_ble_eq_true rfl, Nat.le_of_ble_eq_true rfl, Nat.zero_le _, Nat.zero_le _⟩ (mEntriesOf_T (x := cel G e i) hM hG hN (by omega) (by omega) (fun z22 hz22 => aRes_i (rest := [_]) ?_))
    have hen := enC_2 (G := G) (x := cel G e i)
    refine R_iconst rfl ?_
    refine R_icmpne rfl ⟨by omega, by omega⟩ ⟨by decide, by decide⟩ (fun c26 => ?_) (fun c26 => ?_)
    · have hp : pUn G e i = false := decide_eq_false (by omega)
      refine R_iconst rfl ?_
      refine R_iadd rfl ?_
      refine R_istore_n (lv' := [_, _, _, _]) rfl rfl ?_
      refine R_iinc (lv' := [_, _, _, _]) rfl rfl rfl ?_
      refine R_goto rfl ?_
      first | exact ih r (by omega) (i + 1) (a + 1) _ _ (by omega) (by omega) (by omega) (fun z hz => hQ z (hz.trans (congrArg Nat.cast (ct_hit (p := (pUn G e)) hp)))) | exact ih r (by omega) (i + 1) a _ _ (by omega) (by omega) (by omega) (fun z hz => hQ z (hz.trans (congrArg Nat.cast (ct_skip (p := (pUn G e)) hp))))
    · have hp : pUn G e i = true := decide_eq_true (by omega)
      refine R_iconst rfl ?_
      refine R_goto rfl ?_
      refine R_iadd rfl ?_
      refine R_istore_n (lv' := [_, _, _, _]) rfl rfl ?_
      refine R_iinc (lv' := [_, _, _, _]) rfl rfl rfl ?_
      refine R_goto rfl ?_
      first | exact ih r (by omega) (i + 1) (a + 1) _ _ (by omega) (by omega) (by omega) (fun z hz => hQ z (hz.trans (congrArg Nat.cast (ct_hit (p := (pUn G e)) hp)))) | exact ih r (by omega) (i + 1) a _ _ (by omega) (by omega) (by omega) (fun z hz => hQ z (hz.trans (congrArg Nat.cast (ct_skip (p := (pUn G e)) hp))))
theorem mUncheckedIn_T {d N : Nat} {h : AH} {G : Gr} {th tl rm : Int} {Q : AQ} (hM : isMg h G th tl rm) (hG : okG G) (hN : 139 ≤ N) {e : Nat} {ez : Int} (hez : ez = e) (he : e < nE G) (hQ : ∀ z : Int, z = (unG G e : Nat) → Q (.inl (some (vI z))) h N) : T (d + 2) 148 [vR 122, vI ez] h N Q := by
  obtain ⟨F, D, L, A, W, C, hZ, m11, m12, m13, m14, m15, m16, hE, hA, hW, hC⟩ := id hM
  obtain ⟨S, m0, m3, hR⟩ := id hZ
  obtain ⟨hr0, hr1, rL, rE, rS, hr110, rWn, rWl, hr167, rNl⟩ := id hR
  have r0 : S (0 : Int).toNat = (qR G : Int) := hr0
  have r1 : S (1 : Int).toNat = (qC G : Int) := hr1
  have r110 : S (110 : Int).toNat = (qW G : Int) := hr110
  have r167 : S (167 : Int).toNat = (qN G : Int) := hr167
  obtain ⟨hm4, hm36⟩ := hG.m
  have hmi := qM_int G
  obtain ⟨⟨hr2, hr6⟩, ⟨hc2, hc6⟩, gL, gB, gW, gWn, gWl, gN, gNl⟩ := id hG
  have hn36 := nE36 hG
  subst hez
  refine T_body (I := mi_X9_uncheckedIn) (lv := [_, _, _, _]) rfl (Nat.le_of_ble_eq_true rfl) rfl ?_
  refine R_iconst rfl ?_
  refine R_istore_n (lv' := [_, _, _, _]) rfl rfl ?_
  refine R_iconst rfl ?_
  refine R_istore_n (lv' := [_, _, _, _]) rfl rfl ?_
  exact mun_loop hM hG hN he (eN G e) 0 0 _ _ (Nat.zero_add _) rfl rfl (fun z hz => hQ z (hz.trans (congrArg Nat.cast (Nat.zero_add _))))
theorem mem_loop {d N : Nat} {h : AH} {G : Gr} {th tl rm : Int} {Q : AQ} (hM : isMg h G th tl rm) (hG : okG G) (hN : 139 ≤ N) {e : Nat} (he : e < nE G) : ∀ (r i a : Nat) (za zi : Int), i + r = eN G e → za = a → zi = i → (∀ z : Int, z = ((a + ctF (pEm G e) r i : Nat) : Int) → Q (.inl (some (vI z))) h N) → Run mi_X9_emptyIn (T (d + 1)) Q 4 [some (vR 122), some (vI e), some (vI za), some (vI zi)] [] h N 0 0 := by
  obtain ⟨F, D, L, A, W, C, hZ, m11, m12, m13, m14, m15, m16, hE, hA, hW, hC⟩ := id hM
  obtain ⟨S, m0, m3, hR⟩ := id hZ
  obtain ⟨hr0, hr1, rL, rE, rS, hr110, rWn, rWl, hr167, rNl⟩ := id hR
  have r0 : S (0 : Int).toNat = (qR G : Int) := hr0
  have r1 : S (1 : Int).toNat = (qC G : Int) := hr1
  have r110 : S (110 : Int).toNat = (qW G : Int) := hr110
  have r167 : S (167 : Int).toNat = (qN G : Int) := hr167
  obtain ⟨hm4, hm36⟩ := hG.m
  have hmi := qM_int G
  obtain ⟨⟨hr2, hr6⟩, ⟨hc2, hc6⟩, gL, gB, gW, gWn, gWl, gN, gNl⟩ := id hG
  have hn36 := nE36 hG
  obtain ⟨hF9, hL9, hD9⟩ := hE _ _ _ (ents_get he)
  have hF1 : F ((e : Int)).toNat = (eC G e : Int) := hF9
  have hL1 : L ((e : Int)).toNat = (eN G e : Int) := hL9
  have hD1 : D ((e : Int)).toNat = bI (eB G e) := hD9
  have hD01 : D ((e : Int)).toNat = 0 ∨ D ((e : Int)).toNat = 1 := by
    rw [hD1]
    exact bI01 _
  have he6 := eN_6 hG he
  intro r
  induction r using Nat.strongRecOn with
  | ind r ih =>
  intro i a za zi hr hza hzi hQ
  have hcz : zi.toNat = i := by omega
  refine R_iload_n rfl rfl ?_
  refine R_aload_n rfl rfl ?_
  refine R_getfield rfl rfl (by omega) m0 rfl ?_
  refine R_iload_n rfl rfl ?_
  refine R_iaload rfl (Or.inl (by omega)) m13 ⟨by omega, by omega, by omega⟩ ?_
  refine R_icmpge rfl ⟨by omega, by omega⟩ ⟨by omega, by omega⟩ (fun c11 => ?_) (fun c11 => ?_)
  · have hr0 : r = 0 := by omega
    subst hr0
    refine R_iload_n rfl rfl ?_
    exact R_ireturn rfl (fun q => absurd q (by decide)) (Nat.zero_le _) (Nat.zero_le _) (hQ _ (by rw [hza]; rfl))
  · obtain ⟨r, rfl⟩ : ∃ r1, r = r1 + 1 := ⟨r - 1, by omega⟩
    refine R_iload_n rfl rfl ?_
    refine R_aload_n rfl rfl ?_
    refine R_getfield rfl rfl (by omega) m0 rfl ?_
    refine R_iconst rfl ?_
    refine R_aload_n rfl rfl ?_
    refine R_iload_n rfl rfl ?_
    refine R_iload_n rfl rfl ?_
    refine R_vcall rfl rfl ⟨(by omega), _, m0⟩ ⟨Nat.le_of_ble_eq_true rfl, Nat.le_of_ble_eq_true rfl, Nat.zero_le _, Nat.zero_le _⟩ (mCellOf_T (i := i) hM hG hN rfl he (by omega) (fun z23 hz23 => aRes_i (rest := [_, _, _]) ?_))
    have hcl := cel_lt hG he (i := i) (by omega)
    have hLt : S (2 + z23).toNat = qL G (cel G e i) := by
      rw [show (2 + z23).toNat = 2 + cel G e i by omega]
      exact rL _ hcl
    have hlr : 0 ≤ S (2 + z23).toNat ∧ S (2 + z23).toNat ≤ 122 := by
      rw [hLt]
      rcases gL _ hcl with q | ⟨q1, q2⟩ <;> omega
    refine R_iadd rfl ?_
    refine R_iaload rfl (Or.inl (by omega)) m3 ⟨by omega, by omega, by omega⟩ ?_
    refine R_ifne rfl ⟨by omega, by omega⟩ (fun c28 => ?_) (fun c28 => ?_)
    · have hp : pEm G e i = false := decide_eq_false (by omega)
      refine R_iconst rfl ?_
      refine R_iadd rfl ?_
      refine R_istore_n (lv' := [_, _, _, _]) rfl rfl ?_
      refine R_iinc (lv' := [_, _, _, _]) rfl rfl rfl ?_
      refine R_goto rfl ?_
      first | exact ih r (by omega) (i + 1) (a + 1) _ _ (by omega) (by omega) (by omega) (fun z hz => hQ z (hz.trans (congrArg Nat.cast (ct_hit (p := (pEm G e)) hp)))) | exact ih r (by omega) (i + 1) a _ _ (by omega) (by omega) (by omega) (fun z hz => hQ z (hz.trans (congrArg Nat.cast (ct_skip (p := (pEm G e)) hp))))
    · have hp : pEm G e i = true := decide_eq_true (by omega)
      refine R_iconst rfl ?_
      refine R_goto rfl ?_
      refine R_iadd rfl ?_
      refine R_istore_n (lv' := [_, _, _, _]) rfl rfl ?_
      refine R_iinc (lv' := [_, _, _, _]) rfl rfl rfl ?_
      refine R_goto rfl ?_
      first | exact ih r (by omega) (i + 1) (a + 1) _ _ (by omega) (by omega) (by omega) (fun z hz => hQ z (hz.trans (congrArg Nat.cast (ct_hit (p := (pEm G e)) hp)))) | exact ih r (by omega) (i + 1) a _ _ (by omega) (by omega) (by omega) (fun z hz => hQ z (hz.trans (congrArg Nat.cast (ct_skip (p := (pEm G e)) hp))))
theorem mEmptyIn_T {d N : Nat} {h : AH} {G : Gr} {th tl rm : Int} {Q : AQ} (hM : isMg h G th tl rm) (hG : okG G) (hN : 139 ≤ N) {e : Nat} {ez : Int} (hez : ez = e) (he : e < nE G) (hQ : ∀ z : Int, z = (emG G e : Nat) → Q (.inl (some (vI z))) h N) : T (d + 2) 149 [vR 122, vI ez] h N Q := by
  obtain ⟨F, D, L, A, W, C, hZ, m11, m12, m13, m14, m15, m16, hE, hA, hW, hC⟩ := id hM
  obtain ⟨S, m0, m3, hR⟩ := id hZ
  obtain ⟨hr0, hr1, rL, rE, rS, hr110, rWn, rWl, hr167, rNl⟩ := id hR
  have r0 : S (0 : Int).toNat = (qR G : Int) := hr0
  have r1 : S (1 : Int).toNat = (qC G : Int) := hr1
  have r110 : S (110 : Int).toNat = (qW G : Int) := hr110
  have r167 : S (167 : Int).toNat = (qN G : Int) := hr167
  obtain ⟨hm4, hm36⟩ := hG.m
  have hmi := qM_int G
  obtain ⟨⟨hr2, hr6⟩, ⟨hc2, hc6⟩, gL, gB, gW, gWn, gWl, gN, gNl⟩ := id hG
  have hn36 := nE36 hG
  subst hez
  refine T_body (I := mi_X9_emptyIn) (lv := [_, _, _, _]) rfl (Nat.le_of_ble_eq_true rfl) rfl ?_
  refine R_iconst rfl ?_
  refine R_istore_n (lv' := [_, _, _, _]) rfl rfl ?_
  refine R_iconst rfl ?_
  refine R_istore_n (lv' := [_, _, _, _]) rfl rfl ?_
  exact mem_loop hM hG hN he (eN G e) 0 0 _ _ (Nat.zero_add _) rfl rfl (fun z hz => hQ z (hz.trans (congrArg Nat.cast (Nat.zero_add _))))
theorem mba_loop {d N : Nat} {h : AH} {G : Gr} {th tl rm en : Int} {Q : AQ} (hZ : isM0 h G th tl rm en) (hG : okG G) (hN : 139 ≤ N) : ∀ (r i : Nat) (a za zi : Int), i + r = qM G → za = a → zi = i → (∀ z : Int, z = a + ((ctF (qE G) r i + ctF (qS G) r i : Nat) : Int) → Q (.inl (some (vI z))) h N) → Run mi_X9_bars (T (d + 1)) Q 4 [some (vR 122), some (vI za), some (vI zi)] [] h N 0 0 := by
  obtain ⟨S, m0, m3, hR⟩ := id hZ
  obtain ⟨hr0, hr1, rL, rE, rS, hr110, rWn, rWl, hr167, rNl⟩ := id hR
  have r0 : S (0 : Int).toNat = (qR G : Int) := hr0
  have r1 : S (1 : Int).toNat = (qC G : Int) := hr1
  have r110 : S (110 : Int).toNat = (qW G : Int) := hr110
  have r167 : S (167 : Int).toNat = (qN G : Int) := hr167
  obtain ⟨hm4, hm36⟩ := hG.m
  have hmi := qM_int G
  obtain ⟨⟨hr2, hr6⟩, ⟨hc2, hc6⟩, gL, gB, gW, gWn, gWl, gN, gNl⟩ := id hG
  intro r
  induction r using Nat.strongRecOn with
  | ind r ih =>
  intro i a za zi hr hza hzi hQ
  refine R_iload_n rfl rfl ?_
  refine R_aload_n rfl rfl ?_
  refine R_vcall rfl rfl ⟨(by omega), _, m0⟩ ⟨Nat.le_of_ble_eq_true rfl, Nat.le_of_ble_eq_true rfl, Nat.zero_le _, Nat.zero_le _⟩ (mSize_T hZ hG hN (fun z6 hz6 => aRes_i (rest := [_]) ?_))
  refine R_icmpge rfl ⟨by omega, by omega⟩ ⟨by omega, by omega⟩ (fun c9 => ?_) (fun c9 => ?_)
  · have hr0 : r = 0 := by omega
    subst hr0
    refine R_iload_n rfl rfl ?_
    exact R_ireturn rfl (fun q => absurd q (by decide)) (Nat.zero_le _) (Nat.zero_le _) (hQ _ (by rw [hza]; simp only [ctF]; omega))
  · obtain ⟨r, rfl⟩ : ∃ r1, r = r1 + 1 := ⟨r - 1, by omega⟩
    have hB1 : S ((38 : Int) + zi).toNat = (tn (qE G i) : Int) := by
      rw [show ((38 : Int) + zi).toNat = 38 + i by omega, rE i (by omega)]
      cases qE G i <;> rfl
    have hB2 : S ((74 : Int) + zi).toNat = (tn (qS G i) : Int) := by
      rw [show ((74 : Int) + zi).toNat = 74 + i by omega, rS i (by omega)]
      cases qS G i <;> rfl
    refine R_iload_n rfl rfl ?_
    refine R_aload_n rfl rfl ?_
    refine R_getfield rfl rfl (by omega) m0 rfl ?_
    refine R_bipush rfl ?_
    refine R_iload_n rfl rfl ?_
    refine R_iadd rfl ?_
    refine R_iaload rfl (Or.inl (by omega)) m3 ⟨by omega, by omega, by omega⟩ ?_
    refine R_aload_n rfl rfl ?_
    refine R_getfield rfl rfl (by omega) m0 rfl ?_
    refine R_bipush rfl ?_
    refine R_iload_n rfl rfl ?_
    refine R_iadd rfl ?_
    refine R_iaload rfl (Or.inl (by omega)) m3 ⟨by omega, by omega, by omega⟩ ?_
    refine R_iadd rfl ?_
    refine R_iadd rfl ?_
    refine R_istore_n (lv' := [_, _, _]) rfl rfl ?_
    refine R_iinc (lv' := [_, _, _]) rfl rfl rfl ?_
    refine R_goto rfl ?_
    exact ih r (by omega) (i + 1) _ _ _ (by omega) rfl (by omega) (fun z hz => hQ z (by rw [hz]; simp only [ctF]; omega))
theorem mBars_T {d N : Nat} {h : AH} {G : Gr} {th tl rm en : Int} {Q : AQ} (hZ : isM0 h G th tl rm en) (hG : okG G) (hN : 139 ≤ N) (hQ : ∀ z : Int, z = (brG G : Nat) → Q (.inl (some (vI z))) h N) : T (d + 2) 151 [vR 122] h N Q := by
  obtain ⟨S, m0, m3, hR⟩ := id hZ
  obtain ⟨hr0, hr1, rL, rE, rS, hr110, rWn, rWl, hr167, rNl⟩ := id hR
  have r0 : S (0 : Int).toNat = (qR G : Int) := hr0
  have r1 : S (1 : Int).toNat = (qC G : Int) := hr1
  have r110 : S (110 : Int).toNat = (qW G : Int) := hr110
  have r167 : S (167 : Int).toNat = (qN G : Int) := hr167
  obtain ⟨hm4, hm36⟩ := hG.m
  have hmi := qM_int G
  obtain ⟨⟨hr2, hr6⟩, ⟨hc2, hc6⟩, gL, gB, gW, gWn, gWl, gN, gNl⟩ := id hG
  refine T_body (I := mi_X9_bars) (lv := [_, _, _]) rfl (Nat.le_of_ble_eq_true rfl) rfl ?_
  refine R_iconst rfl ?_
  refine R_istore_n (lv' := [_, _, _]) rfl rfl ?_
  refine R_iconst rfl ?_
  refine R_istore_n (lv' := [_, _, _]) rfl rfl ?_
  exact mba_loop hZ hG hN (qM G) 0 0 _ _ (Nat.zero_add _) rfl rfl (fun z hz => hQ z (hz.trans (Int.zero_add _)))
