/-! ===== the model: canFill, fillings, hardest ===== -/
theorem mcf_F46 {d N : Nat} {h : AH} {G : Gr} {th tl rm : Int} {Q : AQ} (hM : isMg h G th tl rm) (hG : okG G) (hN : 139 ≤ N) {ch : List Nat} {X : Nat → Int} (m18 : h 137 = eI 9 X) (hX : chX ch X) (hoc : okc G ch) (hn8 : nE G ≤ 8) {w : Nat} (he : ch.length < nE G) (hw : w < qW G) {zi : Int} {l5 l6 l7 : Option AV} (hzi : inR zi) (hQ : ∀ z : Int, z = 0 → Q (.inl (some (vI z))) h N) : Run mi_X9_canFill (T (d + 2)) Q 46 [some (vR 122), some (vI ch.length), some (vI w), some (vI 0), some (vI zi), l5, l6, l7] [] h N 0 0 := by
  obtain ⟨hz1, hz2⟩ := hzi
  obtain ⟨F, D, L, A, W, C, hZ, m11, m12, m13, m14, m15, m16, hE, hA, hW, hC⟩ := id hM
  obtain ⟨S, m0, m3, hR⟩ := id hZ
  obtain ⟨hr0, hr1, rL, rE, rS, hr110, rWn, rWl, hr167, rNl⟩ := id hR
  have r0 : S (0 : Int).toNat = (qR G : Int) := hr0
  have r1 : S (1 : Int).toNat = (qC G : Int) := hr1
  have r110 : S (110 : Int).toNat = (qW G : Int) := hr110
  have r167 : S (167 : Int).toNat = (qN G : Int) := hr167
  obtain ⟨hm4, hm36⟩ := hG.m
  have hmi := qM_int G
  obtain ⟨⟨hr2, hr6⟩, ⟨hc2, hc6⟩, gL, gB, gW, gWn, gWl, gN, gNl⟩ := id hG
  have hn36 := nE36 hG
  obtain ⟨hF9, hL9, hD9⟩ := hE _ _ _ (ents_get he)
  have hF1 : F ((ch.length : Int)).toNat = (eC G ch.length : Int) := hF9
  have hL1 : L ((ch.length : Int)).toNat = (eN G ch.length : Int) := hL9
  have hD1 : D ((ch.length : Int)).toNat = bI (eB G ch.length) := hD9
  have hD01 : D ((ch.length : Int)).toNat = 0 ∨ D ((ch.length : Int)).toNat = 1 := by
    rw [hD1]
    exact bI01 _
  have he6 := eN_6 hG he
  refine R_iload rfl rfl ?_
  refine R_aload_n rfl rfl ?_
  refine R_getfield rfl rfl (by omega) m0 rfl ?_
  refine R_iload_n rfl rfl ?_
  refine R_iaload rfl (Or.inl (by omega)) m13 ⟨by omega, by omega, by omega⟩ ?_
  refine R_icmpge rfl ⟨by omega, by omega⟩ ⟨by omega, by omega⟩ (fun c54 => ?_) (fun c54 => ?_)
  · refine R_iload_n rfl rfl ?_
    exact R_ireturn rfl (fun _ => by omega) (Nat.zero_le _) (Nat.zero_le _) (hQ 0 rfl)
  · refine R_iload_n rfl rfl ?_
    refine R_ifeq rfl ⟨by decide, by decide⟩ (fun _ => ?_) (fun c0 => absurd c0 (by decide))
    refine R_iload_n rfl rfl ?_
    exact R_ireturn rfl (fun _ => by omega) (Nat.zero_le _) (Nat.zero_le _) (hQ 0 rfl)
theorem mcf_F10 {d N : Nat} {h : AH} {G : Gr} {th tl rm : Int} {Q : AQ} (hM : isMg h G th tl rm) (hG : okG G) (hN : 139 ≤ N) {ch : List Nat} {X : Nat → Int} (m18 : h 137 = eI 9 X) (hX : chX ch X) (hoc : okc G ch) (hn8 : nE G ≤ 8) {w : Nat} (he : ch.length < nE G) (hw : w < qW G) {zi : Int} {l5 l6 l7 : Option AV} (hzi : inR zi) (hQ : ∀ z : Int, z = 0 → Q (.inl (some (vI z))) h N) : Run mi_X9_canFill (T (d + 2)) Q 10 [some (vR 122), some (vI ch.length), some (vI w), some (vI 0), some (vI zi), l5, l6, l7] [] h N 0 0 := by
  obtain ⟨hz1, hz2⟩ := hzi
  obtain ⟨F, D, L, A, W, C, hZ, m11, m12, m13, m14, m15, m16, hE, hA, hW, hC⟩ := id hM
  obtain ⟨S, m0, m3, hR⟩ := id hZ
  obtain ⟨hr0, hr1, rL, rE, rS, hr110, rWn, rWl, hr167, rNl⟩ := id hR
  have r0 : S (0 : Int).toNat = (qR G : Int) := hr0
  have r1 : S (1 : Int).toNat = (qC G : Int) := hr1
  have r110 : S (110 : Int).toNat = (qW G : Int) := hr110
  have r167 : S (167 : Int).toNat = (qN G : Int) := hr167
  obtain ⟨hm4, hm36⟩ := hG.m
  have hmi := qM_int G
  obtain ⟨⟨hr2, hr6⟩, ⟨hc2, hc6⟩, gL, gB, gW, gWn, gWl, gN, gNl⟩ := id hG
  have hn36 := nE36 hG
  obtain ⟨hF9, hL9, hD9⟩ := hE _ _ _ (ents_get he)
  have hF1 : F ((ch.length : Int)).toNat = (eC G ch.length : Int) := hF9
  have hL1 : L ((ch.length : Int)).toNat = (eN G ch.length : Int) := hL9
  have hD1 : D ((ch.length : Int)).toNat = bI (eB G ch.length) := hD9
  have hD01 : D ((ch.length : Int)).toNat = 0 ∨ D ((ch.length : Int)).toNat = 1 := by
    rw [hD1]
    exact bI01 _
  have he6 := eN_6 hG he
  refine R_iload rfl rfl ?_
  refine R_iload_n rfl rfl ?_
  refine R_icmpge rfl ⟨by omega, by omega⟩ ⟨by omega, by omega⟩ (fun c13 => ?_) (fun c13 => ?_)
  · refine R_iconst rfl ?_
    refine R_istore (lv' := [_, _, _, _, _, _, _, _]) rfl rfl ?_
    exact mcf_F46 hM hG hN m18 hX hoc hn8 he hw ⟨by decide, by decide⟩ hQ
  · refine R_iload_n rfl rfl ?_
    refine R_ifeq rfl ⟨by decide, by decide⟩ (fun _ => ?_) (fun c0 => absurd c0 (by decide))
    refine R_iconst rfl ?_
    refine R_istore (lv' := [_, _, _, _, _, _, _, _]) rfl rfl ?_
    exact mcf_F46 hM hG hN m18 hX hoc hn8 he hw ⟨by decide, by decide⟩ hQ
theorem mcf_T46 {d N : Nat} {h : AH} {G : Gr} {th tl rm : Int} {Q : AQ} (hM : isMg h G th tl rm) (hG : okG G) (hN : 139 ≤ N) {ch : List Nat} {X : Nat → Int} (m18 : h 137 = eI 9 X) (hX : chX ch X) (hoc : okc G ch) (hn8 : nE G ≤ 8) {w : Nat} (he : ch.length < nE G) (hw : w < qW G) (hl : eN G ch.length = qWn G w) : ∀ (r i : Nat) (zi : Int) (l5 l6 l7 : Option AV), i + r = eN G ch.length → zi = i → (∀ z : Int, z = bI (alF (pAg G ch w) r i) → Q (.inl (some (vI z))) h N) → Run mi_X9_canFill (T (d + 2)) Q 46 [some (vR 122), some (vI ch.length), some (vI w), some (vI 1), some (vI zi), l5, l6, l7] [] h N 0 0 := by
  obtain ⟨F, D, L, A, W, C, hZ, m11, m12, m13, m14, m15, m16, hE, hA, hW, hC⟩ := id hM
  obtain ⟨S, m0, m3, hR⟩ := id hZ
  obtain ⟨hr0, hr1, rL, rE, rS, hr110, rWn, rWl, hr167, rNl⟩ := id hR
  have r0 : S (0 : Int).toNat = (qR G : Int) := hr0
  have r1 : S (1 : Int).toNat = (qC G : Int) := hr1
  have r110 : S (110 : Int).toNat = (qW G : Int) := hr110
  have r167 : S (167 : Int).toNat = (qN G : Int) := hr167
  obtain ⟨hm4, hm36⟩ := hG.m
  have hmi := qM_int G
  obtain ⟨⟨hr2, hr6⟩, ⟨hc2, hc6⟩, gL, gB, gW, gWn, gWl, gN, gNl⟩ := id hG
  have hn36 := nE36 hG
  obtain ⟨hF9, hL9, hD9⟩ := hE _ _ _ (ents_get he)
  have hF1 : F ((ch.length : Int)).toNat = (eC G ch.length : Int) := hF9
  have hL1 : L ((ch.length : Int)).toNat = (eN G ch.length : Int) := hL9
  have hD1 : D ((ch.length : Int)).toNat = bI (eB G ch.length) := hD9
  have hD01 : D ((ch.length : Int)).toNat = 0 ∨ D ((ch.length : Int)).toNat = 1 := by
    rw [hD1]
    exact bI01 _
  have he6 := eN_6 hG he
  intro r
  induction r using Nat.strongRecOn with
  | ind r ih =>
  intro i zi l5 l6 l7 hr hzi hQ
  refine R_iload rfl rfl ?_
  refine R_aload_n rfl rfl ?_
  refine R_getfield rfl rfl (by omega) m0 rfl ?_
  refine R_iload_n rfl rfl ?_
  refine R_iaload rfl (Or.inl (by omega)) m13 ⟨by omega, by omega, by omega⟩ ?_
  refine R_icmpge rfl ⟨by omega, by omega⟩ ⟨by omega, by omega⟩ (fun c54 => ?_) (fun c54 => ?_)
  · have hr0 : r = 0 := by omega
    subst hr0
    refine R_iload_n rfl rfl ?_
    exact R_ireturn rfl (fun _ => by omega) (Nat.zero_le _) (Nat.zero_le _) (hQ _ rfl)
  · obtain ⟨r, rfl⟩ : ∃ r1, r = r1 + 1 := ⟨r - 1, by omega⟩
    refine R_iload_n rfl rfl ?_
    refine R_ifeq rfl ⟨by decide, by decide⟩ (fun c0 => absurd c0 (by decide)) (fun _ => ?_)
    refine R_aload_n rfl rfl ?_
    refine R_iload_n rfl rfl ?_
    refine R_iload rfl rfl ?_
    refine R_vcall rfl rfl ⟨(by omega), _, m0⟩ ⟨Nat.le_of_ble_eq_true rfl, Nat.le_of_ble_eq_true rfl, Nat.zero_le _, Nat.zero_le _⟩ (mCellOf_T (e := ch.length) (i := i) hM hG hN rfl he hzi (fun z65 hz65 => aRes_i (rest := []) ?_))
    have hcl := cel_lt hG he (i := i) (by omega)
    have hJ97 : ∀ zo : Int, zo = acr G (!eB G ch.length) (cel G ch.length i) → Run mi_X9_canFill (T (d + 2)) Q 97 [some (vR 122), some (vI ch.length), some (vI w), some (vI 1), some (vI zi), some (vI z65), l6, l7] [vI zo] h N 0 0 := by
      intro zo hzo
      have hac := acr_cases hG (b := !eB G ch.length) (x := cel G ch.length i) hcl
      rw [← hzo] at hac
      refine R_istore (lv' := [_, _, _, _, _, _, _, _]) rfl rfl ?_
      refine R_iload rfl rfl ?_
      refine R_bipush rfl ?_
      refine R_icmpeq rfl ⟨by first | omega | (rcases hac with ⟨q, -⟩ | ⟨n, q, q2, -⟩ <;> omega), by first | omega | (rcases hac with ⟨q, -⟩ | ⟨n, q, q2, -⟩ <;> omega)⟩ ⟨by decide, by decide⟩ (fun c103 => ?_) (fun c103 => ?_)
      · have hp : pAg G ch w i = true := by
          unfold pAg
          exact if_neg (fun q => by have q1 := q.1; have q2 := q.2; omega)
        refine R_iinc (lv' := [_, _, _, _, _, _, _, _]) rfl rfl rfl ?_
        refine R_goto rfl ?_
        exact ih r (by omega) (i + 1) _ _ _ _ (by omega) (by omega) (fun z hz => hQ z (hz.trans (congrArg bI (al_skip (p := pAg G ch w) hp))))
      · refine R_iload rfl rfl ?_
        refine R_iload_n rfl rfl ?_
        refine R_icmpge rfl ⟨by first | omega | (rcases hac with ⟨q, -⟩ | ⟨n, q, q2, -⟩ <;> omega), by first | omega | (rcases hac with ⟨q, -⟩ | ⟨n, q, q2, -⟩ <;> omega)⟩ ⟨by first | omega | (rcases hac with ⟨q, -⟩ | ⟨n, q, q2, -⟩ <;> omega), by first | omega | (rcases hac with ⟨q, -⟩ | ⟨n, q, q2, -⟩ <;> omega)⟩ (fun c109 => ?_) (fun c109 => ?_)
        · have hp : pAg G ch w i = true := by
            unfold pAg
            exact if_neg (fun q => by have q1 := q.1; have q2 := q.2; omega)
          refine R_iinc (lv' := [_, _, _, _, _, _, _, _]) rfl rfl rfl ?_
          refine R_goto rfl ?_
          exact ih r (by omega) (i + 1) _ _ _ _ (by omega) (by omega) (fun z hz => hQ z (hz.trans (congrArg bI (al_skip (p := pAg G ch w) hp))))
        · obtain ⟨n, hn9, hn8x⟩ : ∃ n : Nat, zo = n ∧ n < nE G := by
            rcases hac with ⟨q, -⟩ | ⟨n, q, q2, -⟩
            · omega
            · exact ⟨n, q, q2⟩
          have hto : (acr G (!eB G ch.length) (cel G ch.length i)).toNat = n := by omega
          obtain ⟨-, hbn, i9, hi9, hc9⟩ := acr_cel hG hcl (show acr G (!eB G ch.length) (cel G ch.length i) = (n : Nat) by omega)
          obtain ⟨w9, hgw⟩ : ∃ w9, ch[n]? = some w9 := ⟨_, List.getElem?_eq_getElem (show n < ch.length by omega)⟩
          obtain ⟨hw9, hlw⟩ := hoc n w9 hgw
          have hgd : ch.getD n 0 = w9 := by
            rw [List.getD_eq_getElem?_getD, hgw]
            rfl
          have hix : ixF G n (cel G ch.length i) = i9 := by
            rw [hc9]
            exact ix_cel hG
          have hx9 : X zo.toNat = (w9 : Int) := by
            rw [show zo.toNat = n by omega]
            exact hX n w9 hgw
          have hsp := sp_pos hG (eB G n)
          obtain ⟨hFn, hLn, hDn⟩ := hE _ _ _ (ents_get (e := n) hn8x)
          have hFo : F zo.toNat = (eC G n : Int) := by
            rw [show zo.toNat = n by omega]
            exact hFn
          have hDo : D zo.toNat = bI (eB G n) := by
            rw [show zo.toNat = n by omega]
            exact hDn
          have hDo1 := bI01 (eB G n)
          rw [← hDo] at hDo1
          have heC := (eST hn8x).1
          have hJ133 : ∀ zs : Int, zs = (sp G (eB G n) : Nat) → Run mi_X9_canFill (T (d + 2)) Q 133 [some (vR 122), some (vI ch.length), some (vI w), some (vI 1), some (vI zi), some (vI z65), some (vI zo), l7] [vI zs] h N 0 0 := by
            intro zs hzs
            have hdv : ((z65 : Int) - F zo.toNat) / zs = ((i9 : Nat) : Int) := by
              rw [hFo, hz65, hc9, hzs]
              have hc7 : cel G n i9 = eC G n + i9 * sp G (eB G n) := rfl
              have h9 : ((cel G n i9 : Nat) : Int) - (eC G n : Int) = ((i9 * sp G (eB G n) : Nat) : Int) := by
                rw [hc7]
                omega
              rw [h9]
              exact congrArg Nat.cast (Nat.mul_div_cancel _ (show 0 < sp G (eB G n) by omega))
            have hge : eC G n ≤ cel G n i9 := Nat.le_add_right _ _
            refine R_istore (lv' := [_, _, _, _, _, _, _, _]) rfl rfl ?_
            refine R_aload_n rfl rfl ?_
            refine R_aload_n rfl rfl ?_
            refine R_getfield rfl rfl (by omega) m0 rfl ?_
            refine R_iload rfl rfl ?_
            refine R_iaload rfl (Or.inl (by omega)) m18 ⟨by omega, by omega, by omega⟩ ?_
            refine R_iload rfl rfl ?_
            refine R_aload_n rfl rfl ?_
            refine R_getfield rfl rfl (by omega) m0 rfl ?_
            refine R_iload rfl rfl ?_
            refine R_iaload rfl (Or.inl (by omega)) m11 ⟨by omega, by omega, by omega⟩ ?_
            refine R_isub rfl ?_
            refine R_iload rfl rfl ?_
            refine R_idiv rfl ⟨by omega, by omega, by omega, by omega⟩ ?_
            refine R_vcall rfl rfl ⟨(by omega), _, m0⟩ ⟨Nat.le_of_ble_eq_true rfl, Nat.le_of_ble_eq_true rfl, Nat.zero_le _, Nat.zero_le _⟩ (mLetterOf_T (w := w9) (i := i9) hZ hG hN hx9 hdv hw9 (by omega) (fun z156 hz156 => aRes_i (rest := []) ?_))
            have hl1 : 97 ≤ qWl G w9 i9 ∧ qWl G w9 i9 ≤ 122 := gWl w9 i9 hw9 (by omega)
            refine R_aload_n rfl rfl ?_
            refine R_iload_n rfl rfl ?_
            refine R_iload rfl rfl ?_
            refine R_vcall rfl rfl ⟨(by omega), _, m0⟩ ⟨Nat.le_of_ble_eq_true rfl, Nat.le_of_ble_eq_true rfl, Nat.zero_le _, Nat.zero_le _⟩ (mLetterOf_T (w := w) (i := i) hZ hG hN rfl hzi hw (by omega) (fun z163 hz163 => aRes_i (rest := [_]) ?_))
            have hl2 : 97 ≤ qWl G w i ∧ qWl G w i ≤ 122 := gWl w i hw (by omega)
            refine R_icmpne rfl ⟨by omega, by omega⟩ ⟨by omega, by omega⟩ (fun c166 => ?_) (fun c166 => ?_)
            · have hp : pAg G ch w i = false := by
                unfold pAg
                rw [if_pos ⟨by omega, by omega⟩, hto, hgd, hix]
                exact decide_eq_false (show ¬ qWl G w9 i9 = qWl G w i by omega)
              refine R_iconst rfl ?_
              refine R_istore_n (lv' := [_, _, _, _, _, _, _, _]) rfl rfl ?_
              refine R_iinc (lv' := [_, _, _, _, _, _, _, _]) rfl rfl rfl ?_
              refine R_goto rfl ?_
              exact mcf_F46 hM hG hN m18 hX hoc hn8 he hw ⟨by omega, by omega⟩ (fun z hz => hQ z (hz.trans (congrArg bI (al_hit (p := pAg G ch w) hp))))
            · have hp : pAg G ch w i = true := by
                unfold pAg
                rw [if_pos ⟨by omega, by omega⟩, hto, hgd, hix]
                exact decide_eq_true (show qWl G w9 i9 = qWl G w i by omega)
              refine R_iconst rfl ?_
              refine R_goto rfl ?_
              refine R_istore_n (lv' := [_, _, _, _, _, _, _, _]) rfl rfl ?_
              refine R_iinc (lv' := [_, _, _, _, _, _, _, _]) rfl rfl rfl ?_
              refine R_goto rfl ?_
              exact ih r (by omega) (i + 1) _ _ _ _ (by omega) (by omega) (fun z hz => hQ z (hz.trans (congrArg bI (al_skip (p := pAg G ch w) hp))))
          refine R_aload_n rfl rfl ?_
          refine R_getfield rfl rfl (by omega) m0 rfl ?_
          refine R_iload rfl rfl ?_
          refine R_iaload rfl (Or.inl (by omega)) m12 ⟨by omega, by omega, by omega⟩ ?_
          refine R_iconst rfl ?_
          refine R_icmpne rfl ⟨by first | omega | (rcases hac with ⟨q, -⟩ | ⟨n, q, q2, -⟩ <;> omega), by first | omega | (rcases hac with ⟨q, -⟩ | ⟨n, q, q2, -⟩ <;> omega)⟩ ⟨by decide, by decide⟩ (fun c120 => ?_) (fun c120 => ?_)
          · have hbo : eB G n = false := bI_f hDo (by omega)
            refine R_iconst rfl ?_
            exact hJ133 _ (by rw [hbo]; rfl)
          · have hbo : eB G n = true := bI_t hDo (by omega)
            refine R_aload_n rfl rfl ?_
            refine R_getfield rfl rfl (by omega) m0 rfl ?_
            refine R_iconst rfl ?_
            refine R_iaload rfl (Or.inl (by omega)) m3 ⟨by omega, by omega, by omega⟩ ?_
            rw [r1]
            refine R_goto rfl ?_
            exact hJ133 _ (by rw [hbo]; rfl)
    refine R_istore (lv' := [_, _, _, _, _, _, _, _]) rfl rfl ?_
    refine R_aload_n rfl rfl ?_
    refine R_getfield rfl rfl (by omega) m0 rfl ?_
    refine R_iload_n rfl rfl ?_
    refine R_iaload rfl (Or.inl (by omega)) m12 ⟨by omega, by omega, by omega⟩ ?_
    refine R_iconst rfl ?_
    refine R_icmpne rfl ⟨by omega, by omega⟩ ⟨by decide, by decide⟩ (fun c77 => ?_) (fun c77 => ?_)
    · have hb9 : eB G ch.length = false := bI_f hD1 (by omega)
      refine R_aload_n rfl rfl ?_
      refine R_getfield rfl rfl (by omega) m0 rfl ?_
      refine R_iload rfl rfl ?_
      refine R_iaload rfl (Or.inl (by omega)) m15 ⟨by omega, by omega, by omega⟩ ?_
      exact hJ97 _ (by
        rw [show z65.toNat = cel G ch.length i by omega, hb9]
        exact hW _ hcl)
    · have hb9 : eB G ch.length = true := bI_t hD1 (by omega)
      refine R_aload_n rfl rfl ?_
      refine R_getfield rfl rfl (by omega) m0 rfl ?_
      refine R_iload rfl rfl ?_
      refine R_iaload rfl (Or.inl (by omega)) m14 ⟨by omega, by omega, by omega⟩ ?_
      refine R_goto rfl ?_
      exact hJ97 _ (by
        rw [show z65.toNat = cel G ch.length i by omega, hb9]
        exact hA _ hcl)
theorem mcf_T10 {d N : Nat} {h : AH} {G : Gr} {th tl rm : Int} {Q : AQ} (hM : isMg h G th tl rm) (hG : okG G) (hN : 139 ≤ N) {ch : List Nat} {X : Nat → Int} (m18 : h 137 = eI 9 X) (hX : chX ch X) (hoc : okc G ch) (hn8 : nE G ≤ 8) {w : Nat} (he : ch.length < nE G) (hw : w < qW G) : ∀ (r i : Nat) (zi : Int) (l5 l6 l7 : Option AV), i + r = ch.length → zi = i → (∀ j, j < i → ∀ x, ch[j]? = some x → ¬ x = w) → (¬ w ∈ ch → ∀ l5 l6 l7, Run mi_X9_canFill (T (d + 2)) Q 46 [some (vR 122), some (vI ch.length), some (vI w), some (vI 1), some (vI 0), l5, l6, l7] [] h N 0 0) → (∀ z : Int, z = 0 → w ∈ ch → Q (.inl (some (vI z))) h N) → Run mi_X9_canFill (T (d + 2)) Q 10 [some (vR 122), some (vI ch.length), some (vI w), some (vI 1), some (vI zi), l5, l6, l7] [] h N 0 0 := by
  obtain ⟨F, D, L, A, W, C, hZ, m11, m12, m13, m14, m15, m16, hE, hA, hW, hC⟩ := id hM
  obtain ⟨S, m0, m3, hR⟩ := id hZ
  obtain ⟨hr0, hr1, rL, rE, rS, hr110, rWn, rWl, hr167, rNl⟩ := id hR
  have r0 : S (0 : Int).toNat = (qR G : Int) := hr0
  have r1 : S (1 : Int).toNat = (qC G : Int) := hr1
  have r110 : S (110 : Int).toNat = (qW G : Int) := hr110
  have r167 : S (167 : Int).toNat = (qN G : Int) := hr167
  obtain ⟨hm4, hm36⟩ := hG.m
  have hmi := qM_int G
  obtain ⟨⟨hr2, hr6⟩, ⟨hc2, hc6⟩, gL, gB, gW, gWn, gWl, gN, gNl⟩ := id hG
  have hn36 := nE36 hG
  obtain ⟨hF9, hL9, hD9⟩ := hE _ _ _ (ents_get he)
  have hF1 : F ((ch.length : Int)).toNat = (eC G ch.length : Int) := hF9
  have hL1 : L ((ch.length : Int)).toNat = (eN G ch.length : Int) := hL9
  have hD1 : D ((ch.length : Int)).toNat = bI (eB G ch.length) := hD9
  have hD01 : D ((ch.length : Int)).toNat = 0 ∨ D ((ch.length : Int)).toNat = 1 := by
    rw [hD1]
    exact bI01 _
  have he6 := eN_6 hG he
  intro r
  induction r using Nat.strongRecOn with
  | ind r ih =>
  intro i zi l5 l6 l7 hr hzi hno k1 k0
  refine R_iload rfl rfl ?_
  refine R_iload_n rfl rfl ?_
  refine R_icmpge rfl ⟨by omega, by omega⟩ ⟨by omega, by omega⟩ (fun c13 => ?_) (fun c13 => ?_)
  · have hr0 : r = 0 := by omega
    subst hr0
    have hi : i = ch.length := by omega
    subst hi
    have hni : ¬ w ∈ ch := fun q => by
      obtain ⟨j, hj⟩ := List.mem_iff_getElem?.mp q
      have hjl : j < ch.length := by
        rcases Nat.lt_or_ge j ch.length with k | k
        · exact k
        · rw [List.getElem?_eq_none k] at hj
          cases hj
      exact hno j hjl w hj rfl
    refine R_iconst rfl ?_
    refine R_istore (lv' := [_, _, _, _, _, _, _, _]) rfl rfl ?_
    exact k1 hni _ _ _
  · obtain ⟨r, rfl⟩ : ∃ r1, r = r1 + 1 := ⟨r - 1, by omega⟩
    obtain ⟨x, hx⟩ : ∃ x, ch[i]? = some x := ⟨_, List.getElem?_eq_getElem (show i < ch.length by omega)⟩
    have hxw := (hoc i x hx).1
    have hx8 : X zi.toNat = (x : Int) := by
      rw [show zi.toNat = i by omega]
      exact hX i x hx
    refine R_iload_n rfl rfl ?_
    refine R_ifeq rfl ⟨by decide, by decide⟩ (fun c0 => absurd c0 (by decide)) (fun _ => ?_)
    refine R_aload_n rfl rfl ?_
    refine R_getfield rfl rfl (by omega) m0 rfl ?_
    refine R_iload rfl rfl ?_
    refine R_iaload rfl (Or.inl (by omega)) m18 ⟨by omega, by omega, by omega⟩ ?_
    refine R_iload_n rfl rfl ?_
    refine R_icmpeq rfl ⟨by omega, by omega⟩ ⟨by omega, by omega⟩ (fun c28 => ?_) (fun c28 => ?_)
    · have hxe : x = w := by omega
      refine R_iconst rfl ?_
      refine R_istore_n (lv' := [_, _, _, _, _, _, _, _]) rfl rfl ?_
      refine R_iinc (lv' := [_, _, _, _, _, _, _, _]) rfl rfl rfl ?_
      refine R_goto rfl ?_
      exact mcf_F10 hM hG hN m18 hX hoc hn8 he hw ⟨by omega, by omega⟩ (fun z hz => k0 z hz (by rw [← hxe]; exact List.mem_of_getElem? hx))
    · have hxe : ¬ x = w := by omega
      refine R_iconst rfl ?_
      refine R_goto rfl ?_
      refine R_istore_n (lv' := [_, _, _, _, _, _, _, _]) rfl rfl ?_
      refine R_iinc (lv' := [_, _, _, _, _, _, _, _]) rfl rfl rfl ?_
      refine R_goto rfl ?_
      exact ih r (by omega) (i + 1) _ _ _ _ (by omega) (by omega) (fun j hj x2 hx2 => by
        by_cases q : j = i
        · rw [q, hx] at hx2
          cases hx2
          exact hxe
        · exact hno j (by omega) x2 hx2) k1 k0
theorem mCanFill_T {d N : Nat} {h : AH} {G : Gr} {th tl rm : Int} {Q : AQ} (hM : isMg h G th tl rm) (hG : okG G) (hN : 139 ≤ N) {ch : List Nat} {X : Nat → Int} (m18 : h 137 = eI 9 X) (hX : chX ch X) (hoc : okc G ch) (hn8 : nE G ≤ 8) {w : Nat} (he : ch.length < nE G) (hw : w < qW G) {ez wz : Int} (hez : ez = ch.length) (hwz : wz = w) (hQ : ∀ z : Int, z = bI (okF G ch w) → Q (.inl (some (vI z))) h N) : T (d + 3) 190 [vR 122, vI ez, vI wz] h N Q := by
  obtain ⟨F, D, L, A, W, C, hZ, m11, m12, m13, m14, m15, m16, hE, hA, hW, hC⟩ := id hM
  obtain ⟨S, m0, m3, hR⟩ := id hZ
  obtain ⟨hr0, hr1, rL, rE, rS, hr110, rWn, rWl, hr167, rNl⟩ := id hR
  have r0 : S (0 : Int).toNat = (qR G : Int) := hr0
  have r1 : S (1 : Int).toNat = (qC G : Int) := hr1
  have r110 : S (110 : Int).toNat = (qW G : Int) := hr110
  have r167 : S (167 : Int).toNat = (qN G : Int) := hr167
  obtain ⟨hm4, hm36⟩ := hG.m
  have hmi := qM_int G
  obtain ⟨⟨hr2, hr6⟩, ⟨hc2, hc6⟩, gL, gB, gW, gWn, gWl, gN, gNl⟩ := id hG
  have hn36 := nE36 hG
  subst hez
  subst hwz
  refine T_body (I := mi_X9_canFill) (lv := [_, _, _, _, _, _, _, _]) rfl (Nat.le_of_ble_eq_true rfl) rfl ?_
  refine R_aload_n rfl rfl ?_
  refine R_iload_n rfl rfl ?_
  refine R_iload_n rfl rfl ?_
  refine R_vcall rfl rfl ⟨(by omega), _, m0⟩ ⟨Nat.le_of_ble_eq_true rfl, Nat.le_of_ble_eq_true rfl, Nat.zero_le _, Nat.zero_le _⟩ (mIsFitting_T (e := ch.length) (w := w) hM hG hN rfl he rfl hw (fun z3 hz3 => aRes_i (rest := []) ?_))
  cases hfi : fiG G ch.length w with
  | false =>
    rw [hz3, hfi]
    refine R_istore_n (lv' := [_, _, _, _, _, _, _, _]) rfl rfl ?_
    refine R_iconst rfl ?_
    refine R_istore (lv' := [_, _, _, _, _, _, _, _]) rfl rfl ?_
    exact mcf_F10 hM hG hN m18 hX hoc hn8 he hw ⟨by decide, by decide⟩ (fun z hz => hQ z (hz.trans (by
      unfold okF
      rw [hfi]
      rfl)))
  | true =>
    rw [hz3, hfi]
    refine R_istore_n (lv' := [_, _, _, _, _, _, _, _]) rfl rfl ?_
    refine R_iconst rfl ?_
    refine R_istore (lv' := [_, _, _, _, _, _, _, _]) rfl rfl ?_
    have hl := fiG_len hfi
    exact mcf_T10 hM hG hN m18 hX hoc hn8 he hw ch.length 0 _ _ _ _ (Nat.zero_add _) rfl (fun j hj => absurd hj (Nat.not_lt_zero _)) (fun hni l5 l6 l7 => mcf_T46 hM hG hN m18 hX hoc hn8 he hw hl (eN G ch.length) 0 _ _ _ _ (Nat.zero_add _) rfl (fun z hz => hQ z (hz.trans (by
      unfold okF
      rw [hfi, cont_f hni]
      rfl)))) (fun z hz hin => hQ z (hz.trans (by
      unfold okF
      rw [hfi, cont_t hin]
      rfl)))
