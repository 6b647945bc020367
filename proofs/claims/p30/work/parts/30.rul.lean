/-! ===== the rules ===== -/
def pTu (G : Gr) (c : Nat) : Bool := (!qE G c || qE G (qM G - 1 - (c + 1))) && (!qS G c || qS G (qM G - 1 - (c + qC G)))
def tuG (G : Gr) : Bool := alF (pTu G) (qM G) 0
def pWe (G : Gr) (e : Nat) : Bool := decide (2 * unG G e ≤ eN G e)
def weG (G : Gr) : Bool := alF (pWe G) (nE G) 0
def pPr (G : Gr) (e i : Nat) : Bool := !(decide (enC G (cel G e (i - 1)) = 1) && decide (enC G (cel G e i) = 1))
def pPe (G : Gr) (e : Nat) : Bool := alF (pPr G e) (eN G e - 1) 1
def prG (G : Gr) : Bool := alF (pPe G) (nE G) 0
theorem tu_loop {d k N : Nat} {h : AH} {G : Gr} {Q : AQ} (hS : isSt h k G) (hG : okG G) (hN : k + 5 ≤ N) {y : Int} (hy : y = (qM G : Int) - 1) : ∀ (r i : Nat), i + r = qM G → (∀ z : Int, z = bI (alF (pTu G) r i) → Q (.inl (some (vI z))) h N) → Run mi_X5_isSameTurned (T (d + 2)) Q 9 [some (vR k), some (vI y), some (vI i)] [] h N 0 0 := by
  have hG0 := hG
  obtain ⟨rb, bb, L, WL, WT, LN, e0, e1, e2, e3, e4, hrb, hbb, hL, hWL, hWT, hLN⟩ := id hS
  obtain ⟨hm4, hm36⟩ := hG.m
  have hmi := qM_int G
  obtain ⟨⟨hr2, hr6⟩, ⟨hc2, hc6⟩, gL, gB, gW, gWn, gWl, gN, gNl⟩ := id hG
  intro r
  induction r using Nat.strongRecOn with
  | ind r ih =>
  intro i hr hQ
  refine R_iload_n rfl rfl ?_
  refine R_iload_n rfl rfl ?_
  refine R_icmpgt rfl ⟨by omega, by omega⟩ ⟨by omega, by omega⟩ (fun c11 => ?_) (fun c11 => ?_)
  · have hr0 : r = 0 := by omega
    subst hr0
    refine R_iconst rfl ?_
    exact R_ireturn rfl (fun _ => by omega) (Nat.zero_le _) (Nat.zero_le _) (hQ _ rfl)
  · obtain ⟨r, rfl⟩ : ∃ r1, r = r1 + 1 := ⟨r - 1, by omega⟩
    refine R_aload_n rfl rfl ?_
    refine R_iload_n rfl rfl ?_
    refine R_iconst rfl ?_
    refine R_vcall rfl rfl ⟨(by omega), _, e0⟩ ⟨Nat.le_of_ble_eq_true rfl, Nat.le_of_ble_eq_true rfl, Nat.zero_le _, Nat.zero_le _⟩ (hasBar_T (b := false) hS hG hN ⟨by omega, by omega⟩ (fun z17 hz17 => aRes_i (rest := []) ?_))
    have hb17 : z17 = bI (qE G (i)) := by
      rcases hz17 with ⟨q1, -, -, q2⟩ | ⟨q1, q2⟩
      · have q3 : qE G (i) = true := (congrArg (qE G) (by omega)).trans q2
        rw [q1, q3]
        rfl
      · cases q : qE G (i) with
        | false => exact q1
        | true => exact absurd ⟨by omega, by omega, (congrArg (qE G) (by omega)).trans q⟩ q2
    have hb0117 := bI01 (qE G (i))
    refine R_ifeq rfl ⟨by omega, by omega⟩ (fun c20 => ?_) (fun c20 => ?_)
    · have ha1 := bI_f hb17 (by omega)
      have haa : (!qE G i || qE G (qM G - 1 - (i + 1))) = true := by rw [ha1]; rfl
      refine R_aload_n rfl rfl ?_
      refine R_iload_n rfl rfl ?_
      refine R_iconst rfl ?_
      refine R_vcall rfl rfl ⟨(by omega), _, e0⟩ ⟨Nat.le_of_ble_eq_true rfl, Nat.le_of_ble_eq_true rfl, Nat.zero_le _, Nat.zero_le _⟩ (hasBar_T (b := true) hS hG hN ⟨by omega, by omega⟩ (fun z41 hz41 => aRes_i (rest := []) ?_))
      have hb41 : z41 = bI (qS G (i)) := by
        rcases hz41 with ⟨q1, -, -, q2⟩ | ⟨q1, q2⟩
        · have q3 : qS G (i) = true := (congrArg (qS G) (by omega)).trans q2
          rw [q1, q3]
          rfl
        · cases q : qS G (i) with
          | false => exact q1
          | true => exact absurd ⟨by omega, by omega, (congrArg (qS G) (by omega)).trans q⟩ q2
      have hb0141 := bI01 (qS G (i))
      refine R_ifeq rfl ⟨by omega, by omega⟩ (fun c44 => ?_) (fun c44 => ?_)
      · have hd1 := bI_f hb41 (by omega)
        have hp : pTu G i = true := by
          unfold pTu
          rw [haa, hd1]
          rfl
        refine R_iinc (lv' := [_, _, _]) rfl rfl rfl ?_
        refine R_goto rfl ?_
        exact ih r (by omega) (i + 1) (by omega) (fun z hz => hQ z (hz.trans (congrArg bI (al_skip (p := pTu G) hp))))
      · have hd1 := bI_t hb41 c44
        have hpl := gB true i hd1
        have hpn := pos_next hG0 hpl
        have hpn2 : i + qC G < qM G := hpn.2.1
        refine R_aload_n rfl rfl ?_
        refine R_iload_n rfl rfl ?_
        refine R_iload_n rfl rfl ?_
        refine R_aload_n rfl rfl ?_
        refine R_getfield rfl rfl (by omega) e0 rfl ?_
        refine R_iadd rfl ?_
        refine R_isub rfl ?_
        refine R_iconst rfl ?_
        refine R_vcall rfl rfl ⟨(by omega), _, e0⟩ ⟨Nat.le_of_ble_eq_true rfl, Nat.le_of_ble_eq_true rfl, Nat.zero_le _, Nat.zero_le _⟩ (hasBar_T (b := true) hS hG hN ⟨by omega, by omega⟩ (fun z57 hz57 => aRes_i (rest := []) ?_))
        have hb57 : z57 = bI (qS G (qM G - 1 - (i + qC G))) := by
          rcases hz57 with ⟨q1, -, -, q2⟩ | ⟨q1, q2⟩
          · have q3 : qS G (qM G - 1 - (i + qC G)) = true := (congrArg (qS G) (by omega)).trans q2
            rw [q1, q3]
            rfl
          · cases q : qS G (qM G - 1 - (i + qC G)) with
            | false => exact q1
            | true => exact absurd ⟨by omega, by omega, (congrArg (qS G) (by omega)).trans q⟩ q2
        have hb0157 := bI01 (qS G (qM G - 1 - (i + qC G)))
        refine R_ifne rfl ⟨by omega, by omega⟩ (fun c60 => ?_) (fun c60 => ?_)
        · have hd2 := bI_t hb57 c60
          have hp : pTu G i = true := by
            unfold pTu
            rw [haa, hd2, Bool.or_true]
            rfl
          refine R_iinc (lv' := [_, _, _]) rfl rfl rfl ?_
          refine R_goto rfl ?_
          exact ih r (by omega) (i + 1) (by omega) (fun z hz => hQ z (hz.trans (congrArg bI (al_skip (p := pTu G) hp))))
        · have hd2 := bI_f hb57 (by omega)
          have hp : pTu G i = false := by
            unfold pTu
            rw [haa, hd1, hd2]
            rfl
          refine R_iconst rfl ?_
          exact R_ireturn rfl (fun _ => by omega) (Nat.zero_le _) (Nat.zero_le _) (hQ _ (congrArg bI (al_hit (p := pTu G) hp)))
    · have ha1 := bI_t hb17 c20
      have hpl := gB false i ha1
      have hpn := pos_next hG0 hpl
      have hpn2 : i + 1 < qM G := hpn.2.1
      refine R_aload_n rfl rfl ?_
      refine R_iload_n rfl rfl ?_
      refine R_iload_n rfl rfl ?_
      refine R_iconst rfl ?_
      refine R_iadd rfl ?_
      refine R_isub rfl ?_
      refine R_iconst rfl ?_
      refine R_vcall rfl rfl ⟨(by omega), _, e0⟩ ⟨Nat.le_of_ble_eq_true rfl, Nat.le_of_ble_eq_true rfl, Nat.zero_le _, Nat.zero_le _⟩ (hasBar_T (b := false) hS hG hN ⟨by omega, by omega⟩ (fun z30 hz30 => aRes_i (rest := []) ?_))
      have hb30 : z30 = bI (qE G (qM G - 1 - (i + 1))) := by
        rcases hz30 with ⟨q1, -, -, q2⟩ | ⟨q1, q2⟩
        · have q3 : qE G (qM G - 1 - (i + 1)) = true := (congrArg (qE G) (by omega)).trans q2
          rw [q1, q3]
          rfl
        · cases q : qE G (qM G - 1 - (i + 1)) with
          | false => exact q1
          | true => exact absurd ⟨by omega, by omega, (congrArg (qE G) (by omega)).trans q⟩ q2
      have hb0130 := bI01 (qE G (qM G - 1 - (i + 1)))
      refine R_ifne rfl ⟨by omega, by omega⟩ (fun c33 => ?_) (fun c33 => ?_)
      · have ha2 := bI_t hb30 c33
        have haa : (!qE G i || qE G (qM G - 1 - (i + 1))) = true := by rw [ha2, Bool.or_true]
        refine R_aload_n rfl rfl ?_
        refine R_iload_n rfl rfl ?_
        refine R_iconst rfl ?_
        refine R_vcall rfl rfl ⟨(by omega), _, e0⟩ ⟨Nat.le_of_ble_eq_true rfl, Nat.le_of_ble_eq_true rfl, Nat.zero_le _, Nat.zero_le _⟩ (hasBar_T (b := true) hS hG hN ⟨by omega, by omega⟩ (fun z41 hz41 => aRes_i (rest := []) ?_))
        have hb41 : z41 = bI (qS G (i)) := by
          rcases hz41 with ⟨q1, -, -, q2⟩ | ⟨q1, q2⟩
          · have q3 : qS G (i) = true := (congrArg (qS G) (by omega)).trans q2
            rw [q1, q3]
            rfl
          · cases q : qS G (i) with
            | false => exact q1
            | true => exact absurd ⟨by omega, by omega, (congrArg (qS G) (by omega)).trans q⟩ q2
        have hb0141 := bI01 (qS G (i))
        refine R_ifeq rfl ⟨by omega, by omega⟩ (fun c44 => ?_) (fun c44 => ?_)
        · have hd1 := bI_f hb41 (by omega)
          have hp : pTu G i = true := by
            unfold pTu
            rw [haa, hd1]
            rfl
          refine R_iinc (lv' := [_, _, _]) rfl rfl rfl ?_
          refine R_goto rfl ?_
          exact ih r (by omega) (i + 1) (by omega) (fun z hz => hQ z (hz.trans (congrArg bI (al_skip (p := pTu G) hp))))
        · have hd1 := bI_t hb41 c44
          have hpl := gB true i hd1
          have hpn := pos_next hG0 hpl
          have hpn2 : i + qC G < qM G := hpn.2.1
          refine R_aload_n rfl rfl ?_
          refine R_iload_n rfl rfl ?_
          refine R_iload_n rfl rfl ?_
          refine R_aload_n rfl rfl ?_
          refine R_getfield rfl rfl (by omega) e0 rfl ?_
          refine R_iadd rfl ?_
          refine R_isub rfl ?_
          refine R_iconst rfl ?_
          refine R_vcall rfl rfl ⟨(by omega), _, e0⟩ ⟨Nat.le_of_ble_eq_true rfl, Nat.le_of_ble_eq_true rfl, Nat.zero_le _, Nat.zero_le _⟩ (hasBar_T (b := true) hS hG hN ⟨by omega, by omega⟩ (fun z57 hz57 => aRes_i (rest := []) ?_))
          have hb57 : z57 = bI (qS G (qM G - 1 - (i + qC G))) := by
            rcases hz57 with ⟨q1, -, -, q2⟩ | ⟨q1, q2⟩
            · have q3 : qS G (qM G - 1 - (i + qC G)) = true := (congrArg (qS G) (by omega)).trans q2
              rw [q1, q3]
              rfl
            · cases q : qS G (qM G - 1 - (i + qC G)) with
              | false => exact q1
              | true => exact absurd ⟨by omega, by omega, (congrArg (qS G) (by omega)).trans q⟩ q2
          have hb0157 := bI01 (qS G (qM G - 1 - (i + qC G)))
          refine R_ifne rfl ⟨by omega, by omega⟩ (fun c60 => ?_) (fun c60 => ?_)
          · have hd2 := bI_t hb57 c60
            have hp : pTu G i = true := by
              unfold pTu
              rw [haa, hd2, Bool.or_true]
              rfl
            refine R_iinc (lv' := [_, _, _]) rfl rfl rfl ?_
            refine R_goto rfl ?_
            exact ih r (by omega) (i + 1) (by omega) (fun z hz => hQ z (hz.trans (congrArg bI (al_skip (p := pTu G) hp))))
          · have hd2 := bI_f hb57 (by omega)
            have hp : pTu G i = false := by
              unfold pTu
              rw [haa, hd1, hd2]
              rfl
            refine R_iconst rfl ?_
            exact R_ireturn rfl (fun _ => by omega) (Nat.zero_le _) (Nat.zero_le _) (hQ _ (congrArg bI (al_hit (p := pTu G) hp)))
      · have ha2 := bI_f hb30 (by omega)
        have hp : pTu G i = false := by
          unfold pTu
          rw [ha1, ha2]
          rfl
        refine R_iconst rfl ?_
        exact R_ireturn rfl (fun _ => by omega) (Nat.zero_le _) (Nat.zero_le _) (hQ _ (congrArg bI (al_hit (p := pTu G) hp)))
theorem isSameTurned_T {d k N : Nat} {h : AH} {G : Gr} {Q : AQ} (hS : isSt h k G) (hG : okG G) (hN : k + 5 ≤ N) (hQ : ∀ z : Int, z = bI (tuG G) → Q (.inl (some (vI z))) h N) : T (d + 3) 49 [vR k] h N Q := by
  obtain ⟨rb, bb, L, WL, WT, LN, e0, e1, e2, e3, e4, hrb, hbb, hL, hWL, hWT, hLN⟩ := id hS
  obtain ⟨hm4, hm36⟩ := hG.m
  have hmi := qM_int G
  obtain ⟨⟨hr2, hr6⟩, ⟨hc2, hc6⟩, gL, gB, gW, gWn, gWl, gN, gNl⟩ := id hG
  refine T_body (I := mi_X5_isSameTurned) (lv := [_, _, _]) rfl (Nat.le_of_ble_eq_true rfl) rfl ?_
  refine R_aload_n rfl rfl ?_
  refine R_vcall rfl rfl ⟨(by omega), _, e0⟩ ⟨Nat.le_of_ble_eq_true rfl, Nat.le_of_ble_eq_true rfl, Nat.zero_le _, Nat.zero_le _⟩ (cells_T hS hG hN (fun z1 hz1 => aRes_i (rest := []) ?_))
  refine R_iconst rfl ?_
  refine R_isub rfl ?_
  refine R_istore_n (lv' := [_, _, _]) rfl rfl ?_
  refine R_iconst rfl ?_
  refine R_istore_n (lv' := [_, _, _]) rfl rfl ?_
  exact tu_loop hS hG hN (by omega) (qM G) 0 (Nat.zero_add _) hQ
theorem we_loop {d k N : Nat} {h : AH} {G : Gr} {Q : AQ} (hP : isPz h k G) (hG : okG G) (hN : k + 12 ≤ N) : ∀ (r i : Nat), i + r = nE G → (∀ z : Int, z = bI (alF (pWe G) r i) → Q (.inl (some (vI z))) h N) → Run mi_X5_isCheckedEnough (T (d + 3)) Q 2 [some (vR k), some (vI i)] [] h N 0 0 := by
  obtain ⟨F, Ln, Dn, Ac, Dw, Cl, ⟨p0, hS, p2, p3, p4, p5, p6, p7⟩, hE, hAc, hDw, hCl⟩ := id hP
  obtain ⟨hm4, hm36⟩ := hG.m
  have hn36 := nE36 hG
  have hnE : cnt G (qM G) = nE G := rfl
  obtain ⟨rb, bb, s0⟩ := hS.e0
  intro r
  induction r using Nat.strongRecOn with
  | ind r ih =>
  intro i hr hQ
  refine R_iload_n rfl rfl ?_
  refine R_aload_n rfl rfl ?_
  refine R_getfield rfl rfl (by omega) p0 rfl ?_
  refine R_icmpge rfl ⟨by omega, by omega⟩ ⟨by omega, by omega⟩ (fun c7 => ?_) (fun c7 => ?_)
  · have hr0 : r = 0 := by omega
    subst hr0
    refine R_iconst rfl ?_
    exact R_ireturn rfl (fun _ => by omega) (Nat.zero_le _) (Nat.zero_le _) (hQ _ rfl)
  · obtain ⟨r, rfl⟩ : ∃ r1, r = r1 + 1 := ⟨r - 1, by omega⟩
    refine R_iconst rfl ?_
    refine R_aload_n rfl rfl ?_
    refine R_iload_n rfl rfl ?_
    refine R_vcall rfl rfl ⟨(by omega), _, p0⟩ ⟨Nat.le_of_ble_eq_true rfl, Nat.le_of_ble_eq_true rfl, Nat.zero_le _, Nat.zero_le _⟩ (uncheckedIn_T (e := i) hP hG hN (by omega) (fun z13 hz13 => aRes_i (rest := [_]) ?_))
    have hun13 : unG G (i) ≤ 6 := by
      have q1 := ct_le (p := pUn G (i)) (eN G (i)) 0
      have q2 := eN_6 hG (e := i) (by omega)
      show ctF _ _ _ ≤ 6
      omega
    refine R_imul rfl ?_
    refine R_aload_n rfl rfl ?_
    refine R_iload_n rfl rfl ?_
    refine R_vcall rfl rfl ⟨(by omega), _, p0⟩ ⟨Nat.le_of_ble_eq_true rfl, Nat.le_of_ble_eq_true rfl, Nat.zero_le _, Nat.zero_le _⟩ (lengthOf_T (e := i) hP hG hN (by omega) (fun z19 hz19 => aRes_i (rest := [_]) ?_))
    have hl619 := eN_6 hG (e := i) (by omega)
    refine R_icmple rfl ⟨by omega, by omega⟩ ⟨by omega, by omega⟩ (fun c22 => ?_) (fun c22 => ?_)
    · have hp : pWe G i = true := decide_eq_true (by omega)
      refine R_iinc (lv' := [_, _]) rfl rfl rfl ?_
      refine R_goto rfl ?_
      exact ih r (by omega) (i + 1) (by omega) (fun z hz => hQ z (hz.trans (congrArg bI (al_skip (p := pWe G) hp))))
    · have hp : pWe G i = false := decide_eq_false (by omega)
      refine R_iconst rfl ?_
      exact R_ireturn rfl (fun _ => by omega) (Nat.zero_le _) (Nat.zero_le _) (hQ _ (congrArg bI (al_hit (p := pWe G) hp)))
theorem isCheckedEnough_T {d k N : Nat} {h : AH} {G : Gr} {Q : AQ} (hP : isPz h k G) (hG : okG G) (hN : k + 12 ≤ N) (hQ : ∀ z : Int, z = bI (weG G) → Q (.inl (some (vI z))) h N) : T (d + 4) 50 [vR k] h N Q := by
  obtain ⟨F, Ln, Dn, Ac, Dw, Cl, ⟨p0, hS, p2, p3, p4, p5, p6, p7⟩, hE, hAc, hDw, hCl⟩ := id hP
  obtain ⟨hm4, hm36⟩ := hG.m
  have hn36 := nE36 hG
  have hnE : cnt G (qM G) = nE G := rfl
  obtain ⟨rb, bb, s0⟩ := hS.e0
  refine T_body (I := mi_X5_isCheckedEnough) (lv := [_, _]) rfl (Nat.le_of_ble_eq_true rfl) rfl ?_
  refine R_iconst rfl ?_
  refine R_istore_n (lv' := [_, _]) rfl rfl ?_
  exact we_loop hP hG hN (nE G) 0 (Nat.zero_add _) hQ
theorem pr_loop {d k N : Nat} {h : AH} {G : Gr} {Q : AQ} (hP : isPz h k G) (hG : okG G) (hN : k + 12 ≤ N) {e : Nat} (he : e < nE G) : ∀ (r i : Nat), 1 ≤ i → i + r = eN G e → (∀ z : Int, z = 0 → alF (pPr G e) r i = false → Q (.inl (some (vI z))) h N) → (alF (pPr G e) r i = true → ∀ l, Run mi_X5_hasNoUncheckedPair (T (d + 3)) Q 59 [some (vR k), some (vI e), l] [] h N 0 0) → Run mi_X5_hasNoUncheckedPair (T (d + 3)) Q 12 [some (vR k), some (vI e), some (vI i)] [] h N 0 0 := by
  obtain ⟨F, Ln, Dn, Ac, Dw, Cl, ⟨p0, hS, p2, p3, p4, p5, p6, p7⟩, hE, hAc, hDw, hCl⟩ := id hP
  obtain ⟨hm4, hm36⟩ := hG.m
  have hn36 := nE36 hG
  have hnE : cnt G (qM G) = nE G := rfl
  obtain ⟨rb, bb, s0⟩ := hS.e0
  have he6 := eN_6 hG he
  intro r
  induction r using Nat.strongRecOn with
  | ind r ih =>
  intro i hi1 hr hQ k0
  refine R_iload_n rfl rfl ?_
  refine R_aload_n rfl rfl ?_
  refine R_iload_n rfl rfl ?_
  refine R_vcall rfl rfl ⟨(by omega), _, p0⟩ ⟨Nat.le_of_ble_eq_true rfl, Nat.le_of_ble_eq_true rfl, Nat.zero_le _, Nat.zero_le _⟩ (lengthOf_T hP hG hN he (fun z15 hz15 => aRes_i (rest := [_]) ?_))
  refine R_icmpge rfl ⟨by omega, by omega⟩ ⟨by omega, by omega⟩ (fun c18 => ?_) (fun c18 => ?_)
  · have hr0 : r = 0 := by omega
    subst hr0
    exact k0 rfl _
  · obtain ⟨r, rfl⟩ : ∃ r1, r = r1 + 1 := ⟨r - 1, by omega⟩
    refine R_aload_n rfl rfl ?_
    refine R_aload_n rfl rfl ?_
    refine R_iload_n rfl rfl ?_
    refine R_iload_n rfl rfl ?_
    refine R_iconst rfl ?_
    refine R_isub rfl ?_
    refine R_vcall rfl rfl ⟨(by omega), _, p0⟩ ⟨Nat.le_of_ble_eq_true rfl, Nat.le_of_ble_eq_true rfl, Nat.zero_le _, Nat.zero_le _⟩ (cellOf_T (e := e) hP hG hN he (i := i - 1) (by omega) (fun z27 hz27 => aRes_i (rest := [_]) ?_))
    have hcl27 := cel_lt hG he (i := i - 1) (by omega)
    refine R_vcall rfl rfl ⟨(by omega), _, p0⟩ ⟨Nat.le_of_ble_eq_true rfl, Nat.le_of_ble_eq_true rfl, Nat.zero_le _, Nat.zero_le _⟩ (entriesAt_T (x := cel G e (i - 1)) hP hG hN (by omega) (by omega) (fun z30 hz30 => aRes_i (rest := []) ?_))
    have hen30 : enC G (cel G e (i - 1)) ≤ 2 := by
      unfold enC
      cases inE G false (cel G e (i - 1)) <;> cases inE G true (cel G e (i - 1)) <;> decide
    refine R_iconst rfl ?_
    refine R_icmpne rfl ⟨by omega, by omega⟩ ⟨by decide, by decide⟩ (fun c34 => ?_) (fun c34 => ?_)
    · have hp : pPr G e i = true := by
        unfold pPr
        rw [decide_eq_false (show ¬ enC G (cel G e (i - 1)) = 1 by omega)]
        rfl
      refine R_iinc (lv' := [_, _, _]) rfl rfl rfl ?_
      refine R_goto rfl ?_
      exact ih r (by omega) (i + 1) (by omega) (by omega) (fun z hz hf => hQ z hz ((al_skip (p := pPr G e) hp).symm.trans hf)) (fun hf l => k0 ((al_skip (p := pPr G e) hp).symm.trans hf) l)
    · refine R_aload_n rfl rfl ?_
      refine R_aload_n rfl rfl ?_
      refine R_iload_n rfl rfl ?_
      refine R_iload_n rfl rfl ?_
      refine R_vcall rfl rfl ⟨(by omega), _, p0⟩ ⟨Nat.le_of_ble_eq_true rfl, Nat.le_of_ble_eq_true rfl, Nat.zero_le _, Nat.zero_le _⟩ (cellOf_T (e := e) hP hG hN he (i := i) (by omega) (fun z41 hz41 => aRes_i (rest := [_]) ?_))
      have hcl41 := cel_lt hG he (i := i) (by omega)
      refine R_vcall rfl rfl ⟨(by omega), _, p0⟩ ⟨Nat.le_of_ble_eq_true rfl, Nat.le_of_ble_eq_true rfl, Nat.zero_le _, Nat.zero_le _⟩ (entriesAt_T (x := cel G e i) hP hG hN (by omega) (by omega) (fun z44 hz44 => aRes_i (rest := []) ?_))
      have hen44 : enC G (cel G e i) ≤ 2 := by
        unfold enC
        cases inE G false (cel G e i) <;> cases inE G true (cel G e i) <;> decide
      refine R_iconst rfl ?_
      refine R_icmpne rfl ⟨by omega, by omega⟩ ⟨by decide, by decide⟩ (fun c48 => ?_) (fun c48 => ?_)
      · have hp : pPr G e i = true := by
          unfold pPr
          rw [decide_eq_false (show ¬ enC G (cel G e i) = 1 by omega), Bool.and_false]
          rfl
        refine R_iinc (lv' := [_, _, _]) rfl rfl rfl ?_
        refine R_goto rfl ?_
        exact ih r (by omega) (i + 1) (by omega) (by omega) (fun z hz hf => hQ z hz ((al_skip (p := pPr G e) hp).symm.trans hf)) (fun hf l => k0 ((al_skip (p := pPr G e) hp).symm.trans hf) l)
      · have hp : pPr G e i = false := by
          unfold pPr
          rw [decide_eq_true (show enC G (cel G e (i - 1)) = 1 by omega), decide_eq_true (show enC G (cel G e i) = 1 by omega)]
          rfl
        refine R_iconst rfl ?_
        exact R_ireturn rfl (fun _ => by omega) (Nat.zero_le _) (Nat.zero_le _) (hQ _ rfl (al_hit (p := pPr G e) hp).symm)
theorem pe_loop {d k N : Nat} {h : AH} {G : Gr} {Q : AQ} (hP : isPz h k G) (hG : okG G) (hN : k + 12 ≤ N) : ∀ (r i : Nat) (l : Option AV), i + r = nE G → (∀ z : Int, z = bI (alF (pPe G) r i) → Q (.inl (some (vI z))) h N) → Run mi_X5_hasNoUncheckedPair (T (d + 3)) Q 2 [some (vR k), some (vI i), l] [] h N 0 0 := by
  obtain ⟨F, Ln, Dn, Ac, Dw, Cl, ⟨p0, hS, p2, p3, p4, p5, p6, p7⟩, hE, hAc, hDw, hCl⟩ := id hP
  obtain ⟨hm4, hm36⟩ := hG.m
  have hn36 := nE36 hG
  have hnE : cnt G (qM G) = nE G := rfl
  obtain ⟨rb, bb, s0⟩ := hS.e0
  intro r
  induction r using Nat.strongRecOn with
  | ind r ih =>
  intro i l hr hQ
  refine R_iload_n rfl rfl ?_
  refine R_aload_n rfl rfl ?_
  refine R_getfield rfl rfl (by omega) p0 rfl ?_
  refine R_icmpge rfl ⟨by omega, by omega⟩ ⟨by omega, by omega⟩ (fun c7 => ?_) (fun c7 => ?_)
  · have hr0 : r = 0 := by omega
    subst hr0
    refine R_iconst rfl ?_
    exact R_ireturn rfl (fun _ => by omega) (Nat.zero_le _) (Nat.zero_le _) (hQ _ rfl)
  · obtain ⟨r, rfl⟩ : ∃ r1, r = r1 + 1 := ⟨r - 1, by omega⟩
    refine R_iconst rfl ?_
    refine R_istore_n (lv' := [_, _, _]) rfl rfl ?_
    have he6 := eN_6 hG (e := i) (by omega)
    exact pr_loop hP hG hN (e := i) (by omega) (eN G i - 1) 1 (by omega) (by omega) (fun z hz hf => hQ z (hz.trans (congrArg bI (al_hit (p := pPe G) hf)))) (fun hf l => by
      refine R_iinc (lv' := [_, _, _]) rfl rfl rfl ?_
      refine R_goto rfl ?_
      exact ih r (by omega) (i + 1) _ (by omega) (fun z hz => hQ z (hz.trans (congrArg bI (al_skip (p := pPe G) hf)))))
theorem hasNoUncheckedPair_T {d k N : Nat} {h : AH} {G : Gr} {Q : AQ} (hP : isPz h k G) (hG : okG G) (hN : k + 12 ≤ N) (hQ : ∀ z : Int, z = bI (prG G) → Q (.inl (some (vI z))) h N) : T (d + 4) 51 [vR k] h N Q := by
  obtain ⟨F, Ln, Dn, Ac, Dw, Cl, ⟨p0, hS, p2, p3, p4, p5, p6, p7⟩, hE, hAc, hDw, hCl⟩ := id hP
  obtain ⟨hm4, hm36⟩ := hG.m
  have hn36 := nE36 hG
  have hnE : cnt G (qM G) = nE G := rfl
  obtain ⟨rb, bb, s0⟩ := hS.e0
  refine T_body (I := mi_X5_hasNoUncheckedPair) (lv := [_, _, _]) rfl (Nat.le_of_ble_eq_true rfl) rfl ?_
  refine R_iconst rfl ?_
  refine R_istore_n (lv' := [_, _, _]) rfl rfl ?_
  exact pe_loop hP hG hN (nE G) 0 _ (Nat.zero_add _) hQ
