/-! ===== the same bars make the same entries ===== -/
def sameB (G' G : Gr) : Prop := qR G' = qR G ∧ qC G' = qC G ∧ qE G' = qE G ∧ qS G' = qS G
theorem qM_S {G' G : Gr} (hs : sameB G' G) : qM G' = qM G := by
  unfold qM
  rw [hs.1, hs.2.1]
theorem jn_S {G' G : Gr} (hs : sameB G' G) (b : Bool) (c : Nat) : jn G' b c = jn G b c := by
  obtain ⟨r', c', l', e', s', w'⟩ := G'
  obtain ⟨r, c1, l, e, s, w⟩ := G
  obtain ⟨h1, h2, h3, h4⟩ := hs
  have h1 : r' = r := h1
  have h2 : c' = c1 := h2
  have h3 : e' = e := h3
  have h4 : s' = s := h4
  subst h1
  subst h2
  subst h3
  subst h4
  cases b <;> rfl
theorem sp_S {G' G : Gr} (hs : sameB G' G) (b : Bool) : sp G' b = sp G b := by
  cases b
  · rfl
  · exact hs.2.1
theorem pj_S {G' G : Gr} (hs : sameB G' G) (b : Bool) (c : Nat) : pj G' b c = pj G b c := by
  unfold pj
  rw [sp_S hs, jn_S hs]
theorem st_S {G' G : Gr} (hs : sameB G' G) (b : Bool) (c : Nat) : st G' b c = st G b c := by
  unfold st
  rw [pj_S hs, jn_S hs]
theorem cnt_S {G' G : Gr} (hs : sameB G' G) : ∀ n, cnt G' n = cnt G n
  | 0 => rfl
  | n + 1 => by
    simp only [cnt]
    rw [st_S hs, st_S hs, cnt_S hs n]
theorem cntA_S {G' G : Gr} (hs : sameB G' G) : ∀ n, cntA G' n = cntA G n
  | 0 => rfl
  | n + 1 => by
    simp only [cntA]
    rw [st_S hs, cntA_S hs n]
theorem clu_S {G' G : Gr} (hs : sameB G' G) : ∀ n, clu G' n = clu G n
  | 0 => rfl
  | n + 1 => by
    simp only [clu]
    rw [st_S hs, st_S hs, clu_S hs n]
theorem entsTo_S {G' G : Gr} (hs : sameB G' G) : ∀ n, entsTo G' n = entsTo G n
  | 0 => rfl
  | n + 1 => by
    simp only [entsTo]
    rw [st_S hs, st_S hs, entsTo_S hs n]
theorem lnF_S {G' G : Gr} (hs : sameB G' G) (b : Bool) : ∀ f c, lnF G' b f c = lnF G b f c
  | 0, _ => rfl
  | f + 1, c => by
    simp only [lnF]
    rw [jn_S hs, sp_S hs, lnF_S hs b f]
theorem rsF_S {G' G : Gr} (hs : sameB G' G) (b : Bool) : ∀ f c, rsF G' b f c = rsF G b f c
  | 0, _ => rfl
  | f + 1, c => by
    simp only [rsF]
    rw [pj_S hs, sp_S hs, rsF_S hs b f]
theorem ln_S {G' G : Gr} (hs : sameB G' G) (b : Bool) (c : Nat) : ln G' b c = ln G b c := lnF_S hs b 6 c
theorem rs_S {G' G : Gr} (hs : sameB G' G) (b : Bool) (c : Nat) : rs G' b c = rs G b c := rsF_S hs b 6 c
theorem inE_S {G' G : Gr} (hs : sameB G' G) (b : Bool) (c : Nat) : inE G' b c = inE G b c := by
  unfold inE
  rw [pj_S hs, jn_S hs]
theorem eIx_S {G' G : Gr} (hs : sameB G' G) (b : Bool) (c : Nat) : eIx G' b c = eIx G b c := by
  unfold eIx
  rw [cnt_S hs, st_S hs]
theorem acr_S {G' G : Gr} (hs : sameB G' G) (b : Bool) (c : Nat) : acr G' b c = acr G b c := by
  unfold acr
  rw [inE_S hs, rs_S hs, eIx_S hs]
theorem clue_S {G' G : Gr} (hs : sameB G' G) (c : Nat) : clue G' c = clue G c := by
  unfold clue
  rw [st_S hs, st_S hs, clu_S hs]
theorem ents_S {G' G : Gr} (hs : sameB G' G) : ents G' = ents G := by
  unfold ents
  rw [qM_S hs, entsTo_S hs]
theorem nE_S {G' G : Gr} (hs : sameB G' G) : nE G' = nE G := by
  unfold nE
  rw [qM_S hs, cnt_S hs]
theorem eP_S {G' G : Gr} (hs : sameB G' G) (e : Nat) : eP G' e = eP G e := by
  unfold eP
  rw [ents_S hs]
theorem eC_S {G' G : Gr} (hs : sameB G' G) (e : Nat) : eC G' e = eC G e := congrArg Prod.fst (eP_S hs e)
theorem eB_S {G' G : Gr} (hs : sameB G' G) (e : Nat) : eB G' e = eB G e := congrArg Prod.snd (eP_S hs e)
theorem eN_S {G' G : Gr} (hs : sameB G' G) (e : Nat) : eN G' e = eN G e := by
  unfold eN
  rw [eC_S hs, eB_S hs, ln_S hs]
theorem cel_S {G' G : Gr} (hs : sameB G' G) (e i : Nat) : cel G' e i = cel G e i := by
  unfold cel
  rw [eC_S hs, eB_S hs, sp_S hs]
theorem enC_S {G' G : Gr} (hs : sameB G' G) (x : Nat) : enC G' x = enC G x := by
  unfold enC
  rw [inE_S hs, inE_S hs]
theorem isPz_S {G' G : Gr} (hs : sameB G' G) {h h' : AH} {k : Nat} (hP : isPz h k G) (hS : isSt h' (k + 1) G') (hf : fr h h' (k + 1) 5) : isPz h' k G' := by
  obtain ⟨F, Ln, Dn, Ac, Dw, Cl, ⟨p0, -, p2, p3, p4, p5, p6, p7⟩, hE, hAc, hDw, hCl⟩ := hP
  refine ⟨F, Ln, Dn, Ac, Dw, Cl, ⟨?_, hS, (hf _ (by omega)).trans p2, (hf _ (by omega)).trans p3, (hf _ (by omega)).trans p4, (hf _ (by omega)).trans p5, (hf _ (by omega)).trans p6, (hf _ (by omega)).trans p7⟩, fun e x b he => ?_, fun x hx => ?_, fun x hx => ?_, fun x hx => ?_⟩
  · rw [qM_S hs, cnt_S hs, cntA_S hs, clu_S hs]
    exact (hf _ (by omega)).trans p0
  · rw [ents_S hs] at he
    rw [ln_S hs]
    exact hE e x b he
  · rw [qM_S hs] at hx
    rw [acr_S hs]
    exact hAc x hx
  · rw [qM_S hs] at hx
    rw [acr_S hs]
    exact hDw x hx
  · rw [qM_S hs] at hx
    rw [clue_S hs]
    exact hCl x hx
/-- other letters -/
def setLs (G : Gr) (L : Nat → Int) : Gr := (qR G, qC G, L, qE G, qS G, qW G, qWn G, qWl G, qN G, qNl G)
theorem setLs_S {G : Gr} {L : Nat → Int} : sameB (setLs G L) G := ⟨rfl, rfl, rfl, rfl⟩
theorem ok_setLs {G : Gr} {L : Nat → Int} (hG : okG G) (hL : ∀ c, c < qM G → L c = 0 ∨ isLet (L c)) : okG (setLs G L) := by
  obtain ⟨g1, g2, g3, g4⟩ := hG
  exact ⟨g1, g2, hL, g4⟩
theorem up_let {G : Gr} {L : Nat → Int} {x : Nat} {z : Int} (hL : ∀ c, c < qM G → L c = 0 ∨ isLet (L c)) (hz : z = 0 ∨ isLet z) : ∀ c, c < qM G → va_up L x z c = 0 ∨ isLet (va_up L x z c) := by
  intro c hc
  by_cases q : c = x
  · subst q
    rw [va_up_self]
    exact hz
  · rw [va_up_ne _ _ q]
    exact hL c hc
theorem isPz.st {h : AH} {k : Nat} {G : Gr} (hP : isPz h k G) : isSt h (k + 1) G := hP.a.st
theorem fit_loop {d k N : Nat} {h : AH} {G : Gr} {Q : AQ} (hP : isPz h k G) (hG : okG G) (hN : k + 12 ≤ N) {e : Nat} (he : e < nE G) {w : Nat} (hw : w < qW G) (hl : eN G e = qWn G w) : ∀ (r i : Nat) (l4 : Option AV), i + r = eN G e → (∀ z : Int, z = bI (alF (pFt G e w) r i) → Q (.inl (some (vI z))) h N) → Run mi_X4_fitsWord (T (d + 3)) Q 39 [some (vR k), some (vI e), some (vI w), some (vI i), l4] [] h N 0 0 := by
  obtain ⟨F, Ln, Dn, Ac, Dw, Cl, ⟨p0, hS, p2, p3, p4, p5, p6, p7⟩, hE, hAc, hDw, hCl⟩ := id hP
  obtain ⟨hm4, hm36⟩ := hG.m
  have hn36 := nE36 hG
  have hnE : cnt G (qM G) = nE G := rfl
  obtain ⟨rb, bb, s0⟩ := hS.e0
  have he6 := eN_6 hG he
  have hW8 := hG.2.2.2.2.1
  intro r
  induction r using Nat.strongRecOn with
  | ind r ih =>
  intro i l4 hr hQ
  refine R_iload_n rfl rfl ?_
  refine R_aload_n rfl rfl ?_
  refine R_iload_n rfl rfl ?_
  refine R_vcall rfl rfl ⟨(by omega), _, p0⟩ ⟨Nat.le_of_ble_eq_true rfl, Nat.le_of_ble_eq_true rfl, Nat.zero_le _, Nat.zero_le _⟩ (lengthOf_T hP hG hN he (fun z42 hz42 => aRes_i (rest := [_]) ?_))
  refine R_icmpge rfl ⟨by omega, by omega⟩ ⟨by omega, by omega⟩ (fun c45 => ?_) (fun c45 => ?_)
  · have hr0 : r = 0 := by omega
    subst hr0
    refine R_iconst rfl ?_
    exact R_ireturn rfl (fun _ => by omega) (Nat.zero_le _) (Nat.zero_le _) (hQ _ rfl)
  · obtain ⟨r, rfl⟩ : ∃ r1, r = r1 + 1 := ⟨r - 1, by omega⟩
    refine R_aload_n rfl rfl ?_
    refine R_getfield rfl rfl (by omega) p0 rfl ?_
    refine R_aload_n rfl rfl ?_
    refine R_iload_n rfl rfl ?_
    refine R_iload_n rfl rfl ?_
    refine R_vcall rfl rfl ⟨(by omega), _, p0⟩ ⟨Nat.le_of_ble_eq_true rfl, Nat.le_of_ble_eq_true rfl, Nat.zero_le _, Nat.zero_le _⟩ (cellOf_T hP hG hN he (i := i) (by omega) (fun z55 hz55 => aRes_i (rest := [_]) ?_))
    have hcl55 := cel_lt hG he (i := i) (by omega)
    refine R_vcall rfl rfl ⟨(by omega), hS.rcv⟩ ⟨Nat.le_of_ble_eq_true rfl, Nat.le_of_ble_eq_true rfl, Nat.zero_le _, Nat.zero_le _⟩ (letterAt_T hS hG (by omega) ⟨by omega, by omega⟩ (fun z58 hz58 => aRes_i (rest := []) ?_))
    have hl58 : z58 = qL G (cel G e i) := by
      rcases hz58 with ⟨-, -, q⟩ | ⟨q, -⟩
      · exact q.trans (congrArg (qL G) (by omega))
      · exact absurd (by omega) q
    have hlr58 : 0 ≤ z58 ∧ z58 ≤ 122 := by
      rcases hG.2.2.1 (cel G e i) (by omega) with q | q
      · omega
      · obtain ⟨q1, q2⟩ := q
        omega
    refine R_istore (lv' := [_, _, _, _, _]) rfl rfl ?_
    refine R_iload rfl rfl ?_
    refine R_ifeq rfl ⟨by omega, by omega⟩ (fun c65 => ?_) (fun c65 => ?_)
    · have hp : pFt G e w i = true := by
        unfold pFt
        rw [decide_eq_true (show qL G (cel G e i) = 0 by omega), Bool.true_or]
      refine R_iinc (lv' := [_, _, _, _, _]) rfl rfl rfl ?_
      refine R_goto rfl ?_
      exact ih r (by omega) (i + 1) _ (by omega) (fun z hz => hQ z (hz.trans (congrArg bI (al_skip (p := pFt G e w) hp))))
    · refine R_iload rfl rfl ?_
      refine R_aload_n rfl rfl ?_
      refine R_getfield rfl rfl (by omega) p0 rfl ?_
      refine R_iload_n rfl rfl ?_
      refine R_iload_n rfl rfl ?_
      refine R_vcall rfl rfl ⟨(by omega), hS.rcv⟩ ⟨Nat.le_of_ble_eq_true rfl, Nat.le_of_ble_eq_true rfl, Nat.zero_le _, Nat.zero_le _⟩ (letterOfWord_T hS hG (by omega) ⟨by omega, by omega⟩ ⟨by omega, by omega⟩ (fun z76 hz76 => aRes_i (rest := [_]) ?_))
      have hw76 : z76 = qWl G (w) (i) := by
        rcases hz76 with ⟨-, -, -, -, q⟩ | ⟨q, -⟩
        · exact q
        · exact absurd ⟨by omega, by omega, by omega, Int.ofNat_lt.mpr (show (i) < qWn G (w) by omega)⟩ q
      have hlw76 : isLet (qWl G (w) (i)) := hG.2.2.2.2.2.2.1 _ _ (by omega) (by omega)
      have hlx76 : 97 ≤ z76 ∧ z76 ≤ 122 := by
        rw [hw76]
        exact hlw76
      refine R_icmpeq rfl ⟨by omega, by omega⟩ ⟨by omega, by omega⟩ (fun c79 => ?_) (fun c79 => ?_)
      · have hp : pFt G e w i = true := by
          unfold pFt
          rw [decide_eq_true (show qL G (cel G e i) = qWl G w i by omega), Bool.or_true]
        refine R_iinc (lv' := [_, _, _, _, _]) rfl rfl rfl ?_
        refine R_goto rfl ?_
        exact ih r (by omega) (i + 1) _ (by omega) (fun z hz => hQ z (hz.trans (congrArg bI (al_skip (p := pFt G e w) hp))))
      · have hp : pFt G e w i = false := by
          unfold pFt
          rw [decide_eq_false (show ¬ qL G (cel G e i) = 0 by omega), decide_eq_false (show ¬ qL G (cel G e i) = qWl G w i by omega)]
          rfl
        refine R_iconst rfl ?_
        exact R_ireturn rfl (fun _ => by omega) (Nat.zero_le _) (Nat.zero_le _) (hQ _ (congrArg bI (al_hit (p := pFt G e w) hp)))
theorem fitsWord_T {d k N : Nat} {h : AH} {G : Gr} {Q : AQ} (hP : isPz h k G) (hG : okG G) (hN : k + 12 ≤ N) {e w : Int} (hce : inR e) (hcw : inR w) (hQ : ∀ z : Int, (z = 1 ∧ 0 ≤ e ∧ e < nE G ∧ 0 ≤ w ∧ w < qW G ∧ fiG G e.toNat w.toNat = true) ∨ (z = 0 ∧ ¬ (0 ≤ e ∧ e < nE G ∧ 0 ≤ w ∧ w < qW G ∧ fiG G e.toNat w.toNat = true)) → Q (.inl (some (vI z))) h N) : T (d + 4) 42 [vR k, vI e, vI w] h N Q := by
  obtain ⟨F, Ln, Dn, Ac, Dw, Cl, ⟨p0, hS, p2, p3, p4, p5, p6, p7⟩, hE, hAc, hDw, hCl⟩ := id hP
  obtain ⟨hm4, hm36⟩ := hG.m
  have hn36 := nE36 hG
  have hnE : cnt G (qM G) = nE G := rfl
  obtain ⟨rb, bb, s0⟩ := hS.e0
  obtain ⟨hc1, hc2⟩ := hce
  obtain ⟨hc3, hc4⟩ := hcw
  have hW8 := hG.2.2.2.2.1
  refine T_body (I := mi_X4_fitsWord) (lv := [_, _, _, _, _]) rfl (Nat.le_of_ble_eq_true rfl) rfl ?_
  refine R_aload_n rfl rfl ?_
  refine R_iload_n rfl rfl ?_
  refine R_vcall rfl rfl ⟨(by omega), _, p0⟩ ⟨Nat.le_of_ble_eq_true rfl, Nat.le_of_ble_eq_true rfl, Nat.zero_le _, Nat.zero_le _⟩ (hasEntry_T hP hG hN ⟨by omega, by omega⟩ (fun z2 hz2 => aRes_i (rest := []) ?_))
  refine R_ifeq rfl ⟨by omega, by omega⟩ (fun c5 => ?_) (fun c5 => ?_)
  · refine R_iconst rfl ?_
    exact R_ireturn rfl (fun _ => by omega) (Nat.zero_le _) (Nat.zero_le _) (hQ _ (Or.inr ⟨rfl, fun u => by
    first
    | omega
    | (have u9 : fiG G e w = true := u.2.2.2.2
       unfold fiG at u9
       rw [decide_eq_false hl, Bool.false_and] at u9
       exact absurd u9 (by decide))⟩))
  · obtain ⟨e, rfl⟩ := Int.eq_ofNat_of_zero_le (show 0 ≤ e by omega)
    have he : e < nE G := by omega
    have he6 := eN_6 hG he
    refine R_aload_n rfl rfl ?_
    refine R_getfield rfl rfl (by omega) p0 rfl ?_
    refine R_iload_n rfl rfl ?_
    refine R_vcall rfl rfl ⟨(by omega), hS.rcv⟩ ⟨Nat.le_of_ble_eq_true rfl, Nat.le_of_ble_eq_true rfl, Nat.zero_le _, Nat.zero_le _⟩ (hasWord_T hS hG (by omega) ⟨by omega, by omega⟩ (fun z13 hz13 => aRes_i (rest := []) ?_))
    refine R_ifeq rfl ⟨by omega, by omega⟩ (fun c16 => ?_) (fun c16 => ?_)
    · refine R_iconst rfl ?_
      exact R_ireturn rfl (fun _ => by omega) (Nat.zero_le _) (Nat.zero_le _) (hQ _ (Or.inr ⟨rfl, fun u => by
    first
    | omega
    | (have u9 : fiG G e w = true := u.2.2.2.2
       unfold fiG at u9
       rw [decide_eq_false hl, Bool.false_and] at u9
       exact absurd u9 (by decide))⟩))
    · obtain ⟨w, rfl⟩ := Int.eq_ofNat_of_zero_le (show 0 ≤ w by omega)
      have hw : w < qW G := by omega
      have hwn := hG.2.2.2.2.2.1 w hw
      refine R_aload_n rfl rfl ?_
      refine R_iload_n rfl rfl ?_
      refine R_vcall rfl rfl ⟨(by omega), _, p0⟩ ⟨Nat.le_of_ble_eq_true rfl, Nat.le_of_ble_eq_true rfl, Nat.zero_le _, Nat.zero_le _⟩ (lengthOf_T hP hG hN he (fun z21 hz21 => aRes_i (rest := []) ?_))
      refine R_aload_n rfl rfl ?_
      refine R_getfield rfl rfl (by omega) p0 rfl ?_
      refine R_iload_n rfl rfl ?_
      refine R_vcall rfl rfl ⟨(by omega), hS.rcv⟩ ⟨Nat.le_of_ble_eq_true rfl, Nat.le_of_ble_eq_true rfl, Nat.zero_le _, Nat.zero_le _⟩ (lengthOfWord_T hS hG (by omega) ⟨by omega, by omega⟩ (fun z29 hz29 => aRes_i (rest := [_]) ?_))
      have hz29b : z29 = (qWn G w : Nat) := by
        rcases hz29 with ⟨-, -, q⟩ | ⟨q, -⟩
        · exact q
        · exact absurd ⟨by omega, by omega⟩ q
      refine R_icmpeq rfl ⟨by omega, by omega⟩ ⟨by omega, by omega⟩ (fun c32 => ?_) (fun c32 => ?_)
      · have hl : eN G e = qWn G w := by omega
        refine R_iconst rfl ?_
        refine R_istore_n (lv' := [_, _, _, _, _]) rfl rfl ?_
        exact fit_loop hP hG hN he hw hl (eN G e) 0 _ (Nat.zero_add _) (fun z hz => hQ z (by
          have e9 : fiG G e w = alF (pFt G e w) (eN G e) 0 := by
            unfold fiG
            rw [decide_eq_true hl, Bool.true_and]
          rw [← e9] at hz
          cases q : fiG G e w with
          | true =>
            rw [q] at hz
            exact Or.inl ⟨hz, by omega, by omega, by omega, by omega, q⟩
          | false =>
            rw [q] at hz
            exact Or.inr ⟨hz, fun u => absurd (q.symm.trans u.2.2.2.2) (by decide)⟩))
      · have hl : ¬ eN G e = qWn G w := by omega
        refine R_iconst rfl ?_
        exact R_ireturn rfl (fun _ => by omega) (Nat.zero_le _) (Nat.zero_le _) (hQ _ (Or.inr ⟨rfl, fun u => by
    first
    | omega
    | (have u9 : fiG G e w = true := u.2.2.2.2
       unfold fiG at u9
       rw [decide_eq_false hl, Bool.false_and] at u9
       exact absurd u9 (by decide))⟩))
theorem fic_loop {d k N : Nat} {h : AH} {G : Gr} {Q : AQ} (hP : isPz h k G) (hG : okG G) (hN : k + 12 ≤ N) {e : Nat} (he : e < nE G) : ∀ (r i a : Nat), i + r = qW G → a ≤ i → (∀ z : Int, z = ((a + ctF (fiG G e) r i : Nat) : Int) → Q (.inl (some (vI z))) h N) → Run mi_X4_fitCount (T (d + 4)) Q 4 [some (vR k), some (vI e), some (vI a), some (vI i)] [] h N 0 0 := by
  obtain ⟨F, Ln, Dn, Ac, Dw, Cl, ⟨p0, hS, p2, p3, p4, p5, p6, p7⟩, hE, hAc, hDw, hCl⟩ := id hP
  obtain ⟨hm4, hm36⟩ := hG.m
  have hn36 := nE36 hG
  have hnE : cnt G (qM G) = nE G := rfl
  obtain ⟨rb, bb, s0⟩ := hS.e0
  have hW8 := hG.2.2.2.2.1
  intro r
  induction r using Nat.strongRecOn with
  | ind r ih =>
  intro i a hr ha hQ
  refine R_iload_n rfl rfl ?_
  refine R_aload_n rfl rfl ?_
  refine R_getfield rfl rfl (by omega) p0 rfl ?_
  refine R_getfield rfl rfl (by omega) s0 rfl ?_
  refine R_icmpge rfl ⟨by omega, by omega⟩ ⟨by omega, by omega⟩ (fun c12 => ?_) (fun c12 => ?_)
  · have hr0 : r = 0 := by omega
    subst hr0
    refine R_iload_n rfl rfl ?_
    exact R_ireturn rfl (fun q => absurd q (by decide)) (Nat.zero_le _) (Nat.zero_le _) (hQ _ rfl)
  · obtain ⟨r, rfl⟩ : ∃ r1, r = r1 + 1 := ⟨r - 1, by omega⟩
    refine R_aload_n rfl rfl ?_
    refine R_iload_n rfl rfl ?_
    refine R_iload_n rfl rfl ?_
    refine R_vcall rfl rfl ⟨(by omega), _, p0⟩ ⟨Nat.le_of_ble_eq_true rfl, Nat.le_of_ble_eq_true rfl, Nat.zero_le _, Nat.zero_le _⟩ (fitsWord_T hP hG hN ⟨by omega, by omega⟩ ⟨by omega, by omega⟩ (fun z18 hz18 => aRes_i (rest := []) ?_))
    have hfz18 : z18 = bI (fiG G (e) (i)) := by
      rcases hz18 with ⟨q1, -, -, -, -, q2⟩ | ⟨q1, q2⟩
      · have q3 : fiG G (e) (i) = true := q2
        rw [q1, q3]
        rfl
      · cases q : fiG G (e) (i) with
        | false => exact q1
        | true => exact absurd ⟨by omega, by omega, by omega, by omega, q⟩ q2
    have hf01 := bI01 (fiG G (e) (i))
    refine R_ifeq rfl ⟨by omega, by omega⟩ (fun c21 => ?_) (fun c21 => ?_)
    · have hp := bI_f hfz18 c21
      refine R_iinc (lv' := [_, _, _, _]) rfl rfl rfl ?_
      refine R_goto rfl ?_
      first | exact ih r (by omega) (i + 1) (a + 1) (by omega) (by omega) (fun z hz => hQ z (hz.trans (congrArg Nat.cast (ct_hit (p := (fiG G e)) hp)))) | exact ih r (by omega) (i + 1) a (by omega) (by omega) (fun z hz => hQ z (hz.trans (congrArg Nat.cast (ct_skip (p := (fiG G e)) hp))))
    · have hp := bI_t hfz18 c21
      refine R_iinc (lv' := [_, _, _, _]) rfl rfl rfl ?_
      refine R_iinc (lv' := [_, _, _, _]) rfl rfl rfl ?_
      refine R_goto rfl ?_
      first | exact ih r (by omega) (i + 1) (a + 1) (by omega) (by omega) (fun z hz => hQ z (hz.trans (congrArg Nat.cast (ct_hit (p := (fiG G e)) hp)))) | exact ih r (by omega) (i + 1) a (by omega) (by omega) (fun z hz => hQ z (hz.trans (congrArg Nat.cast (ct_skip (p := (fiG G e)) hp))))
theorem fitCount_T {d k N : Nat} {h : AH} {G : Gr} {Q : AQ} (hP : isPz h k G) (hG : okG G) (hN : k + 12 ≤ N) {e : Nat} (he : e < nE G) (hQ : ∀ z : Int, z = (fcG G e : Nat) → Q (.inl (some (vI z))) h N) : T (d + 5) 43 [vR k, vI e] h N Q := by
  obtain ⟨F, Ln, Dn, Ac, Dw, Cl, ⟨p0, hS, p2, p3, p4, p5, p6, p7⟩, hE, hAc, hDw, hCl⟩ := id hP
  obtain ⟨hm4, hm36⟩ := hG.m
  have hn36 := nE36 hG
  have hnE : cnt G (qM G) = nE G := rfl
  obtain ⟨rb, bb, s0⟩ := hS.e0
  refine T_body (I := mi_X4_fitCount) (lv := [_, _, _, _]) rfl (Nat.le_of_ble_eq_true rfl) rfl ?_
  refine R_iconst rfl ?_
  refine R_istore_n (lv' := [_, _, _, _]) rfl rfl ?_
  refine R_iconst rfl ?_
  refine R_istore_n (lv' := [_, _, _, _]) rfl rfl ?_
  exact fic_loop hP hG hN he (qW G) 0 0 (Nat.zero_add _) (Nat.le_refl _) (fun z hz => hQ z (hz.trans (congrArg Nat.cast (Nat.zero_add _))))
theorem wi_loop {d k N : Nat} {h : AH} {G : Gr} {Q : AQ} (hP : isPz h k G) (hG : okG G) (hN : k + 12 ≤ N) {e : Nat} (he : e < nE G) : ∀ (r i : Nat), i + r = qW G → (∀ z : Int, z = fsF (fiG G e) r i → Q (.inl (some (vI z))) h N) → Run mi_X4_wordIn (T (d + 4)) Q 13 [some (vR k), some (vI e), some (vI i)] [] h N 0 0 := by
  obtain ⟨F, Ln, Dn, Ac, Dw, Cl, ⟨p0, hS, p2, p3, p4, p5, p6, p7⟩, hE, hAc, hDw, hCl⟩ := id hP
  obtain ⟨hm4, hm36⟩ := hG.m
  have hn36 := nE36 hG
  have hnE : cnt G (qM G) = nE G := rfl
  obtain ⟨rb, bb, s0⟩ := hS.e0
  have hW8 := hG.2.2.2.2.1
  intro r
  induction r using Nat.strongRecOn with
  | ind r ih =>
  intro i hr hQ
  refine R_iload_n rfl rfl ?_
  refine R_aload_n rfl rfl ?_
  refine R_getfield rfl rfl (by omega) p0 rfl ?_
  refine R_getfield rfl rfl (by omega) s0 rfl ?_
  refine R_icmpge rfl ⟨by omega, by omega⟩ ⟨by omega, by omega⟩ (fun c21 => ?_) (fun c21 => ?_)
  · have hr0 : r = 0 := by omega
    subst hr0
    refine R_bipush rfl ?_
    exact R_ireturn rfl (fun q => absurd q (by decide)) (Nat.zero_le _) (Nat.zero_le _) (hQ _ rfl)
  · obtain ⟨r, rfl⟩ : ∃ r1, r = r1 + 1 := ⟨r - 1, by omega⟩
    refine R_aload_n rfl rfl ?_
    refine R_iload_n rfl rfl ?_
    refine R_iload_n rfl rfl ?_
    refine R_vcall rfl rfl ⟨(by omega), _, p0⟩ ⟨Nat.le_of_ble_eq_true rfl, Nat.le_of_ble_eq_true rfl, Nat.zero_le _, Nat.zero_le _⟩ (fitsWord_T hP hG hN ⟨by omega, by omega⟩ ⟨by omega, by omega⟩ (fun z27 hz27 => aRes_i (rest := []) ?_))
    have hfz27 : z27 = bI (fiG G (e) (i)) := by
      rcases hz27 with ⟨q1, -, -, -, -, q2⟩ | ⟨q1, q2⟩
      · have q3 : fiG G (e) (i) = true := q2
        rw [q1, q3]
        rfl
      · cases q : fiG G (e) (i) with
        | false => exact q1
        | true => exact absurd ⟨by omega, by omega, by omega, by omega, q⟩ q2
    have hf01 := bI01 (fiG G (e) (i))
    refine R_ifeq rfl ⟨by omega, by omega⟩ (fun c30 => ?_) (fun c30 => ?_)
    · have hp := bI_f hfz27 c30
      refine R_iinc (lv' := [_, _, _]) rfl rfl rfl ?_
      refine R_goto rfl ?_
      exact ih r (by omega) (i + 1) (by omega) (fun z hz => hQ z (hz.trans (fs_skip (p := fiG G e) hp)))
    · have hp := bI_t hfz27 c30
      refine R_iload_n rfl rfl ?_
      exact R_ireturn rfl (fun q => absurd q (by decide)) (Nat.zero_le _) (Nat.zero_le _) (hQ _ (fs_hit (p := fiG G e) hp))
theorem wordIn_T {d k N : Nat} {h : AH} {G : Gr} {Q : AQ} (hP : isPz h k G) (hG : okG G) (hN : k + 12 ≤ N) {e : Nat} (he : e < nE G) (hQ : ∀ z : Int, z = wiG G e → Q (.inl (some (vI z))) h N) : T (d + 5) 44 [vR k, vI e] h N Q := by
  obtain ⟨F, Ln, Dn, Ac, Dw, Cl, ⟨p0, hS, p2, p3, p4, p5, p6, p7⟩, hE, hAc, hDw, hCl⟩ := id hP
  obtain ⟨hm4, hm36⟩ := hG.m
  have hn36 := nE36 hG
  have hnE : cnt G (qM G) = nE G := rfl
  obtain ⟨rb, bb, s0⟩ := hS.e0
  refine T_body (I := mi_X4_wordIn) (lv := [_, _, _]) rfl (Nat.le_of_ble_eq_true rfl) rfl ?_
  refine R_aload_n rfl rfl ?_
  refine R_iload_n rfl rfl ?_
  refine R_vcall rfl rfl ⟨(by omega), _, p0⟩ ⟨Nat.le_of_ble_eq_true rfl, Nat.le_of_ble_eq_true rfl, Nat.zero_le _, Nat.zero_le _⟩ (emptyIn_T (e := e) hP hG hN (by omega) (fun z2 hz2 => aRes_i (rest := []) ?_))
  have hem2 : emG G (e) ≤ 6 := by
    have q1 := ct_le (p := pEm G (e)) (eN G (e)) 0
    have q2 := eN_6 hG (e := e) (by omega)
    show ctF _ _ _ ≤ 6
    omega
  refine R_ifle rfl ⟨by omega, by omega⟩ (fun c5 => ?_) (fun c5 => ?_)
  · have hw0 : wiG G e = fsF (fiG G e) (qW G) 0 := by
      unfold wiG
      rw [if_pos (by omega)]
    refine R_iconst rfl ?_
    refine R_istore_n (lv' := [_, _, _]) rfl rfl ?_
    exact wi_loop hP hG hN he (qW G) 0 (Nat.zero_add _) (fun z hz => hQ z (hz.trans hw0.symm))
  · have hw0 : wiG G e = -9 := by
      unfold wiG
      rw [if_neg (by omega)]
    refine R_bipush rfl ?_
    exact R_ireturn rfl (fun q => absurd q (by decide)) (Nat.zero_le _) (Nat.zero_le _) (hQ _ hw0.symm)
