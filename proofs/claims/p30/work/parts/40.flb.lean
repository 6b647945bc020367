/-! ===== the filler ===== -/
theorem msk_t {f : Nat → Bool} {i : Nat} (h : f i = true) : va_up (fun j => decide (j < i) && f j) i true = fun j => decide (j < i + 1) && f j := by
  funext j
  by_cases q : j = i
  · rw [q, va_up_self, h, decide_eq_true (by omega)]
    rfl
  · rw [va_up_ne _ _ q]
    by_cases r : j < i
    · rw [decide_eq_true r, decide_eq_true (by omega)]
    · rw [decide_eq_false r, decide_eq_false (by omega)]
theorem msk_f {f : Nat → Bool} {i : Nat} (h : f i = false) : (fun j => decide (j < i) && f j) = fun j => decide (j < i + 1) && f j := by
  funext j
  by_cases q : j = i
  · rw [q, h, Bool.and_false, Bool.and_false]
  · by_cases r : j < i
    · rw [decide_eq_true r, decide_eq_true (by omega)]
    · rw [decide_eq_false r, decide_eq_false (by omega)]
def okc (G : Gr) (ch : List Nat) : Prop := ∀ (j w : Nat), ch[j]? = some w → w < qW G ∧ eN G j = qWn G w
def flH (h : AH) (G : Gr) (ways : Nat) (ch : List Nat) : Prop := ∃ (us : Int) (FT GV : Nat → Int), h 119 = eO 0 [vI ways, vI us, vR 120, vR 121] ∧ h 120 = eI 8 FT ∧ h 121 = eI 8 GV ∧ isBi us (fun j => ch.contains j) ∧ (∀ e, e < nE G → isBi (FT e) (fun j => decide (j < qW G) && fiG G e j)) ∧ ∀ (j w : Nat), ch[j]? = some w → GV j = w
theorem wtf_loop {d k N : Nat} {h : AH} {G : Gr} {Q : AQ} (hP : isPz h k G) (hG : okG G) (hN : k + 12 ≤ N) {e : Nat} (he : e < nE G) : ∀ (r i : Nat) (a : Int), i + r = qW G → isBi a (fun j => decide (j < i) && fiG G e j) → (∀ z : Int, isBi z (fun j => decide (j < qW G) && fiG G e j) → Q (.inl (some (vI z))) h N) → Run mi_X1_wordsThatFit (T (d + 4)) Q 4 [some (vR k), some (vI e), some (vI a), some (vI i)] [] h N 0 0 := by
  obtain ⟨F, Ln, Dn, Ac, Dw, Cl, ⟨p0, hS, p2, p3, p4, p5, p6, p7⟩, hE, hAc, hDw, hCl⟩ := id hP
  obtain ⟨hm4, hm36⟩ := hG.m
  have hn36 := nE36 hG
  have hnE : cnt G (qM G) = nE G := rfl
  obtain ⟨rb, bb, s0⟩ := hS.e0
  have hW8 := hG.2.2.2.2.1
  intro r
  induction r using Nat.strongRecOn with
  | ind r ih =>
  intro i a hr ha hQ
  refine R_iload_n rfl rfl ?_
  refine R_aload_n rfl rfl ?_
  refine R_getfield rfl rfl (by omega) p0 rfl ?_
  refine R_getfield rfl rfl (by omega) s0 rfl ?_
  refine R_icmpge rfl ⟨by omega, by omega⟩ ⟨by omega, by omega⟩ (fun c12 => ?_) (fun c12 => ?_)
  · have hr0 : r = 0 := by omega
    subst hr0
    have hi0 : i = qW G := by omega
    subst hi0
    refine R_iload_n rfl rfl ?_
    exact R_ireturn rfl (fun q => absurd q (by decide)) (Nat.zero_le _) (Nat.zero_le _) (hQ _ ha)
  · obtain ⟨r, rfl⟩ : ∃ r1, r = r1 + 1 := ⟨r - 1, by omega⟩
    refine R_aload_n rfl rfl ?_
    refine R_iload_n rfl rfl ?_
    refine R_iload_n rfl rfl ?_
    refine R_vcall rfl rfl ⟨(by omega), _, p0⟩ ⟨Nat.le_of_ble_eq_true rfl, Nat.le_of_ble_eq_true rfl, Nat.zero_le _, Nat.zero_le _⟩ (fitsWord_T hP hG hN ⟨by omega, by omega⟩ ⟨by omega, by omega⟩ (fun z18 hz18 => aRes_i (rest := []) ?_))
    have hfz18 : z18 = bI (fiG G (e) (i)) := by
      rcases hz18 with ⟨q1, -, -, -, -, q2⟩ | ⟨q1, q2⟩
      · have q3 : fiG G (e) (i) = true := q2
        rw [q1, q3]
        rfl
      · cases q : fiG G (e) (i) with
        | false => exact q1
        | true => exact absurd ⟨by omega, by omega, by omega, by omega, q⟩ q2
    have hf01 := bI01 (fiG G (e) (i))
    refine R_ifeq rfl ⟨by omega, by omega⟩ (fun c21 => ?_) (fun c21 => ?_)
    · have hp := bI_f hfz18 c21
      refine R_iinc (lv' := [_, _, _, _]) rfl rfl rfl ?_
      refine R_goto rfl ?_
      first | exact ih r (by omega) (i + 1) _ (by omega) (by rw [← msk_t (f := fiG G e) hp]; exact bi_or ha (by omega)) hQ | exact ih r (by omega) (i + 1) a (by omega) (by rw [← msk_f (f := fiG G e) hp]; exact ha) hQ
    · have hp := bI_t hfz18 c21
      refine R_iload_n rfl rfl ?_
      refine R_iconst rfl ?_
      refine R_iload_n rfl rfl ?_
      refine R_ishl rfl ?_
      refine R_ior rfl ?_
      refine R_istore_n (lv' := [_, _, _, _]) rfl rfl ?_
      refine R_iinc (lv' := [_, _, _, _]) rfl rfl rfl ?_
      refine R_goto rfl ?_
      first | exact ih r (by omega) (i + 1) _ (by omega) (by rw [← msk_t (f := fiG G e) hp]; exact bi_or ha (by omega)) hQ | exact ih r (by omega) (i + 1) a (by omega) (by rw [← msk_f (f := fiG G e) hp]; exact ha) hQ
theorem wordsThatFit_T {d k N : Nat} {h : AH} {G : Gr} {Q : AQ} (hP : isPz h k G) (hG : okG G) (hN : k + 12 ≤ N) {e : Nat} (he : e < nE G) (hQ : ∀ z : Int, isBi z (fun j => decide (j < qW G) && fiG G e j) → Q (.inl (some (vI z))) h N) : T (d + 5) 6 [vR k, vI e] h N Q := by
  refine T_body (I := mi_X1_wordsThatFit) (lv := [_, _, _, _]) rfl (Nat.le_of_ble_eq_true rfl) rfl ?_
  refine R_iconst rfl ?_
  refine R_istore_n (lv' := [_, _, _, _]) rfl rfl ?_
  refine R_iconst rfl ?_
  refine R_istore_n (lv' := [_, _, _, _]) rfl rfl ?_
  exact wtf_loop hP hG hN he (qW G) 0 0 (Nat.zero_add _) (fun j hj => (bi_zero j hj).trans (by show false = (decide (j < 0) && fiG G e j); rw [decide_eq_false (Nat.not_lt_zero j)]; rfl)) hQ
theorem agr_loop {d k N ways : Nat} {h : AH} {G : Gr} {Q : AQ} {ch : List Nat} (hP : isPz h k G) (hG : okG G) (hk : k + 12 ≤ 116) (hN : 122 ≤ N) (hH : flH h G ways ch) (hoc : okc G ch) (hn8 : nE G ≤ 8) {w : Nat} (he : ch.length < nE G) (hw : w < qW G) (hl : eN G ch.length = qWn G w) : ∀ (r i : Nat) (l5 l6 l7 : Option AV), i + r = eN G ch.length → (∀ z : Int, z = bI (alF (pAg G ch w) r i) → Q (.inl (some (vI z))) h N) → Run mi_X1_agrees (T (d + 3)) Q 3 [some (vR 119), some (vR k), some (vI ch.length), some (vI w), some (vI i), l5, l6, l7] [] h N 0 0 := by
  obtain ⟨us, FT, GV, u0, u1, u2, hus, hFT, hGV⟩ := id hH
  obtain ⟨F, Ln, Dn, Ac, Dw, Cl, ⟨p0, hS, p2, p3, p4, p5, p6, p7⟩, hE, hAc, hDw, hCl⟩ := id hP
  obtain ⟨hm4, hm36⟩ := hG.m
  have hn36 := nE36 hG
  have hnE : cnt G (qM G) = nE G := rfl
  obtain ⟨rb, bb, s0⟩ := hS.e0
  have hW8 := hG.2.2.2.2.1
  have he6 := eN_6 hG he
  intro r
  induction r using Nat.strongRecOn with
  | ind r ih =>
  intro i l5 l6 l7 hr hQ
  refine R_iload rfl rfl ?_
  refine R_aload_n rfl rfl ?_
  refine R_iload_n rfl rfl ?_
  refine R_vcall rfl rfl ⟨(by omega), _, p0⟩ ⟨Nat.le_of_ble_eq_true rfl, Nat.le_of_ble_eq_true rfl, Nat.zero_le _, Nat.zero_le _⟩ (lengthOf_T hP hG (by omega) he (fun z7 hz7 => aRes_i (rest := [_]) ?_))
  refine R_icmpge rfl ⟨by omega, by omega⟩ ⟨by omega, by omega⟩ (fun c10 => ?_) (fun c10 => ?_)
  · have hr0 : r = 0 := by omega
    subst hr0
    refine R_iconst rfl ?_
    exact R_ireturn rfl (fun _ => by omega) (Nat.zero_le _) (Nat.zero_le _) (hQ _ rfl)
  · obtain ⟨r, rfl⟩ : ∃ r1, r = r1 + 1 := ⟨r - 1, by omega⟩
    refine R_aload_n rfl rfl ?_
    refine R_iload_n rfl rfl ?_
    refine R_iload rfl rfl ?_
    refine R_vcall rfl rfl ⟨(by omega), _, p0⟩ ⟨Nat.le_of_ble_eq_true rfl, Nat.le_of_ble_eq_true rfl, Nat.zero_le _, Nat.zero_le _⟩ (cellOf_T hP hG (by omega) he (i := i) rfl (fun z17 hz17 => aRes_i (rest := []) ?_))
    have hcl17 := cel_lt hG he (i := i) (by omega)
    have hJ41 : ∀ z38 : Int, z38 = acr G (!eB G ch.length) (cel G ch.length i) → Run mi_X1_agrees (T (d + 3)) Q 41 [some (vR 119), some (vR k), some (vI ch.length), some (vI w), some (vI i), some (vI z17), l6, l7] [vI z38] h N 0 0 := by
      intro z38 hz38
      have hab := acr_cases hG (b := !eB G ch.length) (x := cel G ch.length i) (by omega)
      have hrg : -9 ≤ z38 ∧ z38 < 36 := by
        rw [hz38]
        rcases hab with ⟨q, -⟩ | ⟨n, q, q2, -⟩ <;> omega
      refine R_istore (lv' := [_, _, _, _, _, _, _, _]) rfl rfl ?_
      refine R_iload rfl rfl ?_
      refine R_iflt rfl ⟨by omega, by omega⟩ (fun c45 => ?_) (fun c45 => ?_)
      · have hx0 : ¬ (0 ≤ acr G (!eB G ch.length) (cel G ch.length i) ∧ acr G (!eB G ch.length) (cel G ch.length i) < ch.length) := by omega
        have hp : pAg G ch w i = true := by
          unfold pAg
          rw [if_neg hx0]
        refine R_iinc (lv' := [_, _, _, _, _, _, _, _]) rfl rfl rfl ?_
        refine R_goto rfl ?_
        exact ih r (by omega) (i + 1) _ _ _ (by omega) (fun z hz => hQ z (hz.trans (congrArg bI (al_skip (p := pAg G ch w) hp))))
      · refine R_iload rfl rfl ?_
        refine R_iload_n rfl rfl ?_
        refine R_icmpge rfl ⟨by omega, by omega⟩ ⟨by omega, by omega⟩ (fun c51 => ?_) (fun c51 => ?_)
        · have hx0 : ¬ (0 ≤ acr G (!eB G ch.length) (cel G ch.length i) ∧ acr G (!eB G ch.length) (cel G ch.length i) < ch.length) := by omega
          have hp : pAg G ch w i = true := by
            unfold pAg
            rw [if_neg hx0]
          refine R_iinc (lv' := [_, _, _, _, _, _, _, _]) rfl rfl rfl ?_
          refine R_goto rfl ?_
          exact ih r (by omega) (i + 1) _ _ _ (by omega) (fun z hz => hQ z (hz.trans (congrArg bI (al_skip (p := pAg G ch w) hp))))
        · refine R_iload rfl rfl ?_
          refine R_bipush rfl ?_
          refine R_icmpge rfl ⟨by omega, by omega⟩ ⟨by decide, by decide⟩ (fun c58 => ?_) (fun c58 => ?_)
          · exact absurd c58 (by omega)
          · have hx0 : 0 ≤ acr G (!eB G ch.length) (cel G ch.length i) ∧ acr G (!eB G ch.length) (cel G ch.length i) < ch.length := by omega
            obtain ⟨o, ho9⟩ := Int.eq_ofNat_of_zero_le hx0.1
            obtain ⟨ho, hob, j, hj, hxj⟩ := acr_cel hG (by omega) ho9
            have hol : o < ch.length := by omega
            obtain ⟨g, hg⟩ : ∃ g, ch[o]? = some g := ⟨_, List.getElem?_eq_getElem hol⟩
            obtain ⟨hgw, hgn⟩ := hoc o g hg
            have hgv : GV o = g := hGV o g hg
            have hgd : ch.getD o 0 = g := by rw [List.getD_eq_getElem?_getD, hg]; rfl
            have hix : ixF G o (cel G ch.length i) = j := by rw [hxj]; exact ix_cel hG
            have hpg : pAg G ch w i = decide (qWl G g j = qWl G w i) := by
              unfold pAg
              rw [if_pos hx0, ho9]
              show decide (qWl G (ch.getD o 0) (ixF G o (cel G ch.length i)) = _) = _
              rw [hgd, hix]
            have hg6 := hG.2.2.2.2.2.1 g hgw
            have hzo : z38 = (o : Int) := hz38.trans ho9
            subst hzo
            have hgv2 : GV ((o : Int)).toNat = (g : Int) := hgv
            refine R_aload_n rfl rfl ?_
            refine R_getfield rfl rfl (by omega) p0 rfl ?_
            refine R_aload_n rfl rfl ?_
            refine R_getfield rfl rfl (by omega) u0 rfl ?_
            refine R_iload rfl rfl ?_
            refine R_iaload rfl (Or.inl (by omega)) u2 ⟨by omega, by omega, by decide⟩ ?_
            refine R_aload_n rfl rfl ?_
            refine R_iload rfl rfl ?_
            refine R_iload rfl rfl ?_
            refine R_vcall rfl rfl ⟨(by omega), _, p0⟩ ⟨Nat.le_of_ble_eq_true rfl, Nat.le_of_ble_eq_true rfl, Nat.zero_le _, Nat.zero_le _⟩ (indexIn_T (e := o) (i := j) hP hG (by omega) ho hj (by omega) (fun z77 hz77 => aRes_i (rest := [_, _]) ?_))
            refine R_vcall rfl rfl ⟨(by omega), hS.rcv⟩ ⟨Nat.le_of_ble_eq_true rfl, Nat.le_of_ble_eq_true rfl, Nat.zero_le _, Nat.zero_le _⟩ (letterOfWord_T hS hG (by omega) ⟨by omega, by omega⟩ ⟨by omega, by omega⟩ (fun z80 hz80 => aRes_i (rest := []) ?_))
            have hw80 : z80 = qWl G (g) (j) := by
              rcases hz80 with ⟨-, -, -, -, q⟩ | ⟨q, -⟩
              · exact q.trans (congr (congrArg (qWl G) (by omega)) (by omega))
              · exact absurd ⟨by omega, by omega, by omega, by rw [show (GV ((o : Int)).toNat).toNat = g by omega]; omega⟩ q
            have hlw80 : isLet (qWl G (g) (j)) := hG.2.2.2.2.2.2.1 _ _ (by omega) (by omega)
            have hlx80 : 97 ≤ z80 ∧ z80 ≤ 122 := by
              rw [hw80]
              exact hlw80
            refine R_istore (lv' := [_, _, _, _, _, _, _, _]) rfl rfl ?_
            refine R_iload rfl rfl ?_
            refine R_aload_n rfl rfl ?_
            refine R_getfield rfl rfl (by omega) p0 rfl ?_
            refine R_iload_n rfl rfl ?_
            refine R_iload rfl rfl ?_
            refine R_vcall rfl rfl ⟨(by omega), hS.rcv⟩ ⟨Nat.le_of_ble_eq_true rfl, Nat.le_of_ble_eq_true rfl, Nat.zero_le _, Nat.zero_le _⟩ (letterOfWord_T hS hG (by omega) ⟨by omega, by omega⟩ ⟨by omega, by omega⟩ (fun z94 hz94 => aRes_i (rest := [_]) ?_))
            have hw94 : z94 = qWl G (w) (i) := by
              rcases hz94 with ⟨-, -, -, -, q⟩ | ⟨q, -⟩
              · exact q.trans (congr (congrArg (qWl G) (by omega)) (by omega))
              · exact absurd ⟨by omega, by omega, by omega, by rw [show (((w : Nat) : Int)).toNat = w by omega]; omega⟩ q
            have hlw94 : isLet (qWl G (w) (i)) := hG.2.2.2.2.2.2.1 _ _ (by omega) (by omega)
            have hlx94 : 97 ≤ z94 ∧ z94 ≤ 122 := by
              rw [hw94]
              exact hlw94
            refine R_icmpeq rfl ⟨by omega, by omega⟩ ⟨by omega, by omega⟩ (fun c97 => ?_) (fun c97 => ?_)
            · have hp : pAg G ch w i = true := by
                rw [hpg]
                exact decide_eq_true (by omega)
              refine R_iinc (lv' := [_, _, _, _, _, _, _, _]) rfl rfl rfl ?_
              refine R_goto rfl ?_
              exact ih r (by omega) (i + 1) _ _ _ (by omega) (fun z hz => hQ z (hz.trans (congrArg bI (al_skip (p := pAg G ch w) hp))))
            · have hp : pAg G ch w i = false := by
                rw [hpg]
                exact decide_eq_false (by omega)
              refine R_iconst rfl ?_
              exact R_ireturn rfl (fun _ => by omega) (Nat.zero_le _) (Nat.zero_le _) (hQ _ (congrArg bI (al_hit (p := pAg G ch w) hp)))
    refine R_istore (lv' := [_, _, _, _, _, _, _, _]) rfl rfl ?_
    refine R_aload_n rfl rfl ?_
    refine R_iload rfl rfl ?_
    refine R_aload_n rfl rfl ?_
    refine R_iload_n rfl rfl ?_
    refine R_vcall rfl rfl ⟨(by omega), _, p0⟩ ⟨Nat.le_of_ble_eq_true rfl, Nat.le_of_ble_eq_true rfl, Nat.zero_le _, Nat.zero_le _⟩ (isDown_T hP hG (by omega) he (fun z27 hz27 => aRes_i (rest := [_, _]) ?_))
    have hd01 := bI01 (eB G ch.length)
    refine R_ifne rfl ⟨by omega, by omega⟩ (fun c30 => ?_) (fun c30 => ?_)
    · have hbe : (!eB G ch.length) = false := by rw [bI_t hz27 c30]; rfl
      refine R_iconst rfl ?_
      refine R_vcall rfl rfl ⟨(by omega), _, p0⟩ ⟨Nat.le_of_ble_eq_true rfl, Nat.le_of_ble_eq_true rfl, Nat.zero_le _, Nat.zero_le _⟩ (entryAt_T (b := false) hP hG (by omega) (x := cel G ch.length i) (by omega) (by omega) (fun z38 hz38 => aRes_i (rest := []) ?_))
      exact hJ41 z38 (by rw [hbe]; exact hz38)
    · have hbe : (!eB G ch.length) = true := by rw [bI_f hz27 (by omega)]; rfl
      refine R_iconst rfl ?_
      refine R_goto rfl ?_
      refine R_vcall rfl rfl ⟨(by omega), _, p0⟩ ⟨Nat.le_of_ble_eq_true rfl, Nat.le_of_ble_eq_true rfl, Nat.zero_le _, Nat.zero_le _⟩ (entryAt_T (b := true) hP hG (by omega) (x := cel G ch.length i) (by omega) (by omega) (fun z38 hz38 => aRes_i (rest := []) ?_))
      exact hJ41 z38 (by rw [hbe]; exact hz38)
theorem agrees_T {d k N ways : Nat} {h : AH} {G : Gr} {Q : AQ} {ch : List Nat} (hP : isPz h k G) (hG : okG G) (hk : k + 12 ≤ 116) (hN : 122 ≤ N) (hH : flH h G ways ch) (hoc : okc G ch) (hn8 : nE G ≤ 8) {w : Nat} (he : ch.length < nE G) (hw : w < qW G) (hl : eN G ch.length = qWn G w) (hQ : ∀ z : Int, z = bI (agG G ch w) → Q (.inl (some (vI z))) h N) : T (d + 4) 9 [vR 119, vR k, vI ch.length, vI w] h N Q := by
  refine T_body (I := mi_X1_agrees) (lv := [_, _, _, _, _, _, _, _]) rfl (Nat.le_of_ble_eq_true rfl) rfl ?_
  refine R_iconst rfl ?_
  refine R_istore (lv' := [_, _, _, _, _, _, _, _]) rfl rfl ?_
  exact agr_loop hP hG hk hN hH hoc hn8 he hw hl (eN G ch.length) 0 _ _ _ (Nat.zero_add _) hQ
