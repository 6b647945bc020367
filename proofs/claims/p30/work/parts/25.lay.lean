/-! ===== layOut ===== -/
def layAt (G : Gr) (c : Nat) (F Ln Dn Ac Dw Cl : Nat → Int) : Prop := (∀ (e x : Nat) (b : Bool), (entsTo G c)[e]? = some (x, b) → F e = x ∧ Ln e = ln G b x ∧ Dn e = bI b) ∧ (∀ x, x < qM G → Ac x = acrTo G false c x) ∧ (∀ x, x < qM G → Dw x = acrTo G true c x) ∧ ∀ x, x < qM G → Cl x = if x < c then clue G x else -9
def isPz (h : AH) (k : Nat) (G : Gr) : Prop := ∃ F Ln Dn Ac Dw Cl, isPx h k G (cnt G (qM G)) (cntA G (qM G)) (clu G (qM G)) F Ln Dn Ac Dw Cl ∧ (∀ (e x : Nat) (b : Bool), (ents G)[e]? = some (x, b) → F e = x ∧ Ln e = ln G b x ∧ Dn e = bI b) ∧ (∀ x, x < qM G → Ac x = acr G false x) ∧ (∀ x, x < qM G → Dw x = acr G true x) ∧ ∀ x, x < qM G → Cl x = clue G x
def isPa (h : AH) (k : Nat) (G : Gr) : Prop := ∃ E A C F Ln Dn Ac Dw Cl, isPx h k G E A C F Ln Dn Ac Dw Cl
theorem isPz.a {h : AH} {k : Nat} {G : Gr} (hP : isPz h k G) : isPa h k G := by
  obtain ⟨F, Ln, Dn, Ac, Dw, Cl, p, -⟩ := hP
  exact ⟨_, _, _, F, Ln, Dn, Ac, Dw, Cl, p⟩
theorem layE {G : Gr} {c : Nat} {F Ln Dn F' Ln' Dn' : Nat → Int} (hold : ∀ (e x : Nat) (b : Bool), (entsTo G c)[e]? = some (x, b) → F e = x ∧ Ln e = ln G b x ∧ Dn e = bI b) (h1 : ∀ j, j < cnt G c → F' j = F j ∧ Ln' j = Ln j ∧ Dn' j = Dn j) (h2 : ∀ b, st G b c = true → F' (eIx G b c) = c ∧ Ln' (eIx G b c) = ln G b c ∧ Dn' (eIx G b c) = bI b) : ∀ (e x : Nat) (b : Bool), (entsTo G (c + 1))[e]? = some (x, b) → F' e = x ∧ Ln' e = ln G b x ∧ Dn' e = bI b := by
  intro e x b he
  obtain ⟨q1, q2, q3⟩ := entsTo_spec (c + 1) e x b he
  subst q3
  rcases Nat.lt_or_ge x c with q | q
  · have h3 := entsTo_get q2 c q
    have h4 := (List.getElem?_eq_some_iff.mp h3).1
    rw [entsTo_len] at h4
    obtain ⟨a1, a2, a3⟩ := h1 _ h4
    obtain ⟨b1, b2, b3⟩ := hold _ _ _ h3
    exact ⟨a1.trans b1, a2.trans b2, a3.trans b3⟩
  · have q4 : x = c := by omega
    subst q4
    exact h2 b q2
theorem layX {G : Gr} (hG : okG G) {b : Bool} {c : Nat} {A X : Nat → Int} (hA : ∀ x, x < qM G → A x = acrTo G b c x) (hs : st G b c = true) (h1 : ∀ i, i < ln G b c → X (c + i * sp G b) = ((eIx G b c : Nat) : Int)) (h2 : ∀ y, (¬ ∃ i, i < ln G b c ∧ y = c + i * sp G b) → X y = A y) : ∀ x, x < qM G → X x = acrTo G b (c + 1) x := by
  intro x hx
  by_cases q : ∃ i, i < ln G b c ∧ x = c + i * sp G b
  · obtain ⟨i, hi, rfl⟩ := q
    rw [h1 i hi, acrTo_run hG hs hi]
  · rw [h2 x q, acrTo_else hG hs q]
    exact hA x hx
theorem layN {G : Gr} (hG : okG G) {b : Bool} {c : Nat} {A : Nat → Int} (hA : ∀ x, x < qM G → A x = acrTo G b c x) (hs : st G b c = false) : ∀ x, x < qM G → A x = acrTo G b (c + 1) x := fun x hx => (hA x hx).trans (acrTo_no hG hs).symm
theorem layC1 {G : Gr} {c i : Nat} {Cl : Nat → Int} {z : Int} (hC : ∀ x, x < qM G → Cl x = if x < c then clue G x else -9) (hs : (st G false c || st G true c) = true) (hz : z = (clu G c : Int) + 1) (hi : i = c) : ∀ x, x < qM G → va_up Cl i z x = if x < c + 1 then clue G x else -9 := by
  subst hi
  intro x hx
  by_cases q : x = i
  · subst q
    rw [va_up_self, if_pos (by omega), hz]
    unfold clue
    rw [if_pos hs]
    simp only [clu]
    rw [hs]
    rfl
  · rw [va_up_ne _ _ q, hC x hx]
    by_cases r : x < i
    · rw [if_pos r, if_pos (by omega)]
    · rw [if_neg r, if_neg (by omega)]
theorem layC0 {G : Gr} {c : Nat} {Cl : Nat → Int} (hC : ∀ x, x < qM G → Cl x = if x < c then clue G x else -9) (hs : (st G false c || st G true c) = false) : ∀ x, x < qM G → Cl x = if x < c + 1 then clue G x else -9 := by
  intro x hx
  rw [hC x hx]
  by_cases q : x = c
  · subst q
    rw [if_neg (by omega), if_pos (by omega)]
    unfold clue
    rw [if_neg (by rw [hs]; decide)]
  · by_cases r : x < c
    · rw [if_pos r, if_pos (by omega)]
    · rw [if_neg r, if_neg (by omega)]
theorem isPx_set {h : AH} {k : Nat} {G : Gr} {E A C E' A' C' : Int} {F Ln Dn Ac Dw Cl : Nat → Int} (hP : isPx h k G E A C F Ln Dn Ac Dw Cl) : isPx (va_up h k (eO 3 [vR (k + 1), vI E', vI A', vI C', vR (k + 6), vR (k + 7), vR (k + 8), vR (k + 9), vR (k + 10), vR (k + 11)])) k G E' A' C' F Ln Dn Ac Dw Cl := by
  obtain ⟨p0, hS, p2, p3, p4, p5, p6, p7⟩ := hP
  exact ⟨va_up_self _ _ _, isSt_fr hS (fun j h1 h2 => va_up_ne _ _ (by omega)), (va_up_ne _ _ (by omega)).trans p2, (va_up_ne _ _ (by omega)).trans p3, (va_up_ne _ _ (by omega)).trans p4, (va_up_ne _ _ (by omega)).trans p5, (va_up_ne _ _ (by omega)).trans p6, (va_up_ne _ _ (by omega)).trans p7⟩
theorem isPx_cl {h : AH} {k : Nat} {G : Gr} {E A C : Int} {F Ln Dn Ac Dw Cl Cl' : Nat → Int} (hP : isPx h k G E A C F Ln Dn Ac Dw Cl) : isPx (va_up h (k + 11) (eI 36 Cl')) k G E A C F Ln Dn Ac Dw Cl' := by
  obtain ⟨p0, hS, p2, p3, p4, p5, p6, p7⟩ := hP
  exact ⟨(va_up_ne _ _ (by omega)).trans p0, isSt_fr hS (fun j h1 h2 => va_up_ne _ _ (by omega)), (va_up_ne _ _ (by omega)).trans p2, (va_up_ne _ _ (by omega)).trans p3, (va_up_ne _ _ (by omega)).trans p4, (va_up_ne _ _ (by omega)).trans p5, (va_up_ne _ _ (by omega)).trans p6, va_up_self _ _ _⟩
theorem fr_up {h h' : AH} {a n i : Nat} {v : AE} (h1 : fr h h' a n) (hi : a ≤ i ∧ i < a + n) : fr h (va_up h' i v) a n := fun j hj => (va_up_ne _ _ (by omega)).trans (h1 j hj)
theorem lay_step {dd k N c : Nat} {h : AH} {G : Gr} {Q : AQ} {F Ln Dn Ac Dw Cl : Nat → Int} (hG : okG G) (hN : k + 12 ≤ N) (hc : c < qM G) (hP : isPx h k G (cnt G c) (cntA G c) (clu G c) F Ln Dn Ac Dw Cl) (hL : layAt G c F Ln Dn Ac Dw Cl) {a d : Bool} (ha : st G false c = a) (hd : st G true c = d) (k0 : ∀ h' F' Ln' Dn' Ac' Dw' Cl', isPx h' k G (cnt G (c + 1)) (cntA G (c + 1)) (clu G (c + 1)) F' Ln' Dn' Ac' Dw' Cl' → layAt G (c + 1) F' Ln' Dn' Ac' Dw' Cl' → fr h h' k 12 → Run mi_X4_layOut (T (dd + 3)) Q 44 [some (vR k), some (vI ((c + 1 : Nat) : Int)), some (vI (bI a)), some (vI (bI d))] [] h' N 0 0) : Run mi_X4_layOut (T (dd + 3)) Q 131 [some (vR k), some (vI (c : Int)), some (vI (bI a)), some (vI (bI d))] [] h N 0 0 := by
  obtain ⟨p0, hS, p2, p3, p4, p5, p6, p7⟩ := id hP
  obtain ⟨l1, l2, l3, l4⟩ := hL
  obtain ⟨hm4, hm36⟩ := hG.m
  have hA36 : a = true → cnt G c < 36 := fun q => (eIx_lt hG (b := false) (ha.trans q)).2
  have hD36 : d = true → cnt G c + tn a < 36 := fun q => by
    have := (eIx_lt hG (b := true) (hd.trans q)).2
    simp only [eIx, ha] at this
    exact this
  cases a <;> cases d
  · refine R_iload_n rfl rfl ?_
    refine R_ifeq rfl ⟨by decide, by decide⟩ (fun _ => ?_) (fun c0 => absurd c0 (by decide))
    refine R_iload_n rfl rfl ?_
    refine R_ifeq rfl ⟨by decide, by decide⟩ (fun _ => ?_) (fun c0 => absurd c0 (by decide))
    refine R_iload_n rfl rfl ?_
    refine R_ifne rfl ⟨by decide, by decide⟩ (fun c0 => absurd c0 (by decide)) (fun _ => ?_)
    refine R_iload_n rfl rfl ?_
    refine R_ifeq rfl ⟨by decide, by decide⟩ (fun _ => ?_) (fun c0 => absurd c0 (by decide))
    refine R_iinc (lv' := [_, _, _, _]) rfl rfl rfl ?_
    refine R_goto rfl ?_
    rw [show cnt G (c + 1) = cnt G c + 0 by simp only [cnt, ha, hd, tn], show cntA G (c + 1) = cntA G c + 0 by simp only [cntA, ha, tn], show clu G (c + 1) = clu G c + 0 by simp only [clu, ha, hd]; rfl] at k0
    have eD : eIx G true c = cnt G c := by simp only [eIx, ha, tn, Nat.add_zero]
    exact k0 _ F Ln Dn _ _ _ (hP) ⟨layE l1 (fun j hj => ⟨rfl, rfl, rfl⟩) (fun b hb => by
      cases b
      · show _ ∧ _ ∧ _
        exact absurd (ha.symm.trans hb) (by decide)
      · rw [eD]
        exact absurd (hd.symm.trans hb) (by decide)), layN hG l2 ha, layN hG l3 hd, layC0 l4 (by rw [ha, hd]; rfl)⟩ (fr.refl)
  · have h36d : cnt G c + 0 < 36 := hD36 rfl
    refine R_iload_n rfl rfl ?_
    refine R_ifeq rfl ⟨by decide, by decide⟩ (fun _ => ?_) (fun c0 => absurd c0 (by decide))
    refine R_iload_n rfl rfl ?_
    refine R_ifeq rfl ⟨by decide, by decide⟩ (fun c0 => absurd c0 (by decide)) (fun _ => ?_)
    refine R_aload_n rfl rfl ?_
    refine R_iload_n rfl rfl ?_
    refine R_iconst rfl ?_
    refine R_vcall rfl rfl ⟨(by omega), _, p0⟩ ⟨Nat.le_of_ble_eq_true rfl, Nat.le_of_ble_eq_true rfl, Nat.zero_le _, Nat.zero_le _⟩ (addEntryD_T (e := cnt G c) (hP) hG hN (by omega) hc (fun h1 X1 P1 x1 y1 f1 => aRes_v (rest := []) ?_))
    obtain ⟨p0, hS, p2, p3, p4, p5, p6, p7⟩ := id P1
    have g1 := (fr.refl).trans f1
    refine R_iload_n rfl rfl ?_
    refine R_ifne rfl ⟨by decide, by decide⟩ (fun c0 => absurd c0 (by decide)) (fun _ => ?_)
    refine R_iload_n rfl rfl ?_
    refine R_ifeq rfl ⟨by decide, by decide⟩ (fun c0 => absurd c0 (by decide)) (fun _ => ?_)
    refine R_aload_n rfl rfl ?_
    refine R_dup rfl rfl ?_
    refine R_getfield rfl rfl (by omega) p0 rfl ?_
    refine R_iconst rfl ?_
    refine R_iadd rfl ?_
    refine R_putfield rfl rfl (by omega) p0 (Nat.le_of_ble_eq_true rfl) (by first | trivial | exact trivial | omega) ?_
    refine R_aload_n rfl rfl ?_
    refine R_getfield rfl rfl (by omega) (va_up_self _ _ _) rfl ?_
    refine R_iload_n rfl rfl ?_
    refine R_aload_n rfl rfl ?_
    refine R_getfield rfl rfl (by omega) (va_up_self _ _ _) rfl ?_
    refine R_iastore rfl (by omega) ((va_up_ne _ _ (by first | exact kne rfl | exact kz | exact kz.symm | omega)).trans p7) ⟨by omega, by omega, by omega⟩ ?_
    refine R_iinc (lv' := [_, _, _, _]) rfl rfl rfl ?_
    refine R_goto rfl ?_
    rw [show cnt G (c + 1) = cnt G c + 1 by simp only [cnt, ha, hd, tn], show cntA G (c + 1) = cntA G c + 0 by simp only [cntA, ha, tn], show clu G (c + 1) = clu G c + 1 by simp only [clu, ha, hd]; rfl] at k0
    have eD : eIx G true c = cnt G c := by simp only [eIx, ha, tn, Nat.add_zero]
    exact k0 _ (va_up F (cnt G c) c) (va_up Ln (cnt G c) (ln G true c)) (va_up Dn (cnt G c) (bI true)) _ _ _ (isPx_cl (isPx_set (P1))) ⟨layE l1 (fun j hj => ⟨va_up_ne _ _ (by omega), va_up_ne _ _ (by omega), va_up_ne _ _ (by omega)⟩) (fun b hb => by
      cases b
      · show _ ∧ _ ∧ _
        exact absurd (ha.symm.trans hb) (by decide)
      · rw [eD]
        exact ⟨va_up_self _ _ _, va_up_self _ _ _, va_up_self _ _ _⟩), layN hG l2 ha, layX hG l3 hd (by rw [eD]; exact x1) y1, layC1 l4 (by rw [ha, hd]; rfl) rfl rfl⟩ (fr_up (fr_up (g1) (by omega)) (by omega))
  · have h36 := hA36 rfl
    refine R_iload_n rfl rfl ?_
    refine R_ifeq rfl ⟨by decide, by decide⟩ (fun c0 => absurd c0 (by decide)) (fun _ => ?_)
    refine R_aload_n rfl rfl ?_
    refine R_iload_n rfl rfl ?_
    refine R_iconst rfl ?_
    refine R_vcall rfl rfl ⟨(by omega), _, p0⟩ ⟨Nat.le_of_ble_eq_true rfl, Nat.le_of_ble_eq_true rfl, Nat.zero_le _, Nat.zero_le _⟩ (addEntryA_T (e := cnt G c) (hP) hG hN (by omega) hc (fun h1 X1 P1 x1 y1 f1 => aRes_v (rest := []) ?_))
    obtain ⟨p0, hS, p2, p3, p4, p5, p6, p7⟩ := id P1
    have g1 := (fr.refl).trans f1
    refine R_aload_n rfl rfl ?_
    refine R_dup rfl rfl ?_
    refine R_getfield rfl rfl (by omega) p0 rfl ?_
    refine R_iconst rfl ?_
    refine R_iadd rfl ?_
    refine R_putfield rfl rfl (by omega) p0 (Nat.le_of_ble_eq_true rfl) (by first | trivial | exact trivial | omega) ?_
    refine R_iload_n rfl rfl ?_
    refine R_ifeq rfl ⟨by decide, by decide⟩ (fun _ => ?_) (fun c0 => absurd c0 (by decide))
    refine R_iload_n rfl rfl ?_
    refine R_ifne rfl ⟨by decide, by decide⟩ (fun _ => ?_) (fun c0 => absurd c0 (by decide))
    refine R_aload_n rfl rfl ?_
    refine R_dup rfl rfl ?_
    refine R_getfield rfl rfl (by omega) (va_up_self _ _ _) rfl ?_
    refine R_iconst rfl ?_
    refine R_iadd rfl ?_
    refine R_putfield rfl rfl (by omega) (va_up_self _ _ _) (Nat.le_of_ble_eq_true rfl) (by first | trivial | exact trivial | omega) ?_
    refine R_aload_n rfl rfl ?_
    refine R_getfield rfl rfl (by omega) (va_up_self _ _ _) rfl ?_
    refine R_iload_n rfl rfl ?_
    refine R_aload_n rfl rfl ?_
    refine R_getfield rfl rfl (by omega) (va_up_self _ _ _) rfl ?_
    refine R_iastore rfl (by omega) ((va_up_ne _ _ (by first | exact kne rfl | exact kz | exact kz.symm | omega)).trans ((va_up_ne _ _ (by first | exact kne rfl | exact kz | exact kz.symm | omega)).trans p7)) ⟨by omega, by omega, by omega⟩ ?_
    refine R_iinc (lv' := [_, _, _, _]) rfl rfl rfl ?_
    refine R_goto rfl ?_
    rw [show cnt G (c + 1) = cnt G c + 1 by simp only [cnt, ha, hd, tn], show cntA G (c + 1) = cntA G c + 1 by simp only [cntA, ha, tn], show clu G (c + 1) = clu G c + 1 by simp only [clu, ha, hd]; rfl] at k0
    have eD : eIx G true c = cnt G c + 1 := by simp only [eIx, ha, tn]
    exact k0 _ (va_up F (cnt G c) c) (va_up Ln (cnt G c) (ln G false c)) (va_up Dn (cnt G c) (bI false)) _ _ _ (isPx_cl (isPx_set (isPx_set (P1)))) ⟨layE l1 (fun j hj => ⟨va_up_ne _ _ (by omega), va_up_ne _ _ (by omega), va_up_ne _ _ (by omega)⟩) (fun b hb => by
      cases b
      · show _ ∧ _ ∧ _
        exact ⟨va_up_self _ _ _, va_up_self _ _ _, va_up_self _ _ _⟩
      · rw [eD]
        exact absurd (hd.symm.trans hb) (by decide)), layX hG l2 ha x1 y1, layN hG l3 hd, layC1 l4 (by rw [ha, hd]; rfl) rfl rfl⟩ (fr_up (fr_up (fr_up (g1) (by omega)) (by omega)) (by omega))
  · have h36 := hA36 rfl
    have h36d : cnt G c + 1 < 36 := hD36 rfl
    refine R_iload_n rfl rfl ?_
    refine R_ifeq rfl ⟨by decide, by decide⟩ (fun c0 => absurd c0 (by decide)) (fun _ => ?_)
    refine R_aload_n rfl rfl ?_
    refine R_iload_n rfl rfl ?_
    refine R_iconst rfl ?_
    refine R_vcall rfl rfl ⟨(by omega), _, p0⟩ ⟨Nat.le_of_ble_eq_true rfl, Nat.le_of_ble_eq_true rfl, Nat.zero_le _, Nat.zero_le _⟩ (addEntryA_T (e := cnt G c) (hP) hG hN (by omega) hc (fun h1 X1 P1 x1 y1 f1 => aRes_v (rest := []) ?_))
    obtain ⟨p0, hS, p2, p3, p4, p5, p6, p7⟩ := id P1
    have g1 := (fr.refl).trans f1
    refine R_aload_n rfl rfl ?_
    refine R_dup rfl rfl ?_
    refine R_getfield rfl rfl (by omega) p0 rfl ?_
    refine R_iconst rfl ?_
    refine R_iadd rfl ?_
    refine R_putfield rfl rfl (by omega) p0 (Nat.le_of_ble_eq_true rfl) (by first | trivial | exact trivial | omega) ?_
    refine R_iload_n rfl rfl ?_
    refine R_ifeq rfl ⟨by decide, by decide⟩ (fun c0 => absurd c0 (by decide)) (fun _ => ?_)
    refine R_aload_n rfl rfl ?_
    refine R_iload_n rfl rfl ?_
    refine R_iconst rfl ?_
    refine R_vcall rfl rfl ⟨(by omega), _, (va_up_self _ _ _)⟩ ⟨Nat.le_of_ble_eq_true rfl, Nat.le_of_ble_eq_true rfl, Nat.zero_le _, Nat.zero_le _⟩ (addEntryD_T (e := cnt G c + 1) (isPx_set (P1)) hG hN (by omega) hc (fun h2 X2 P2 x2 y2 f2 => aRes_v (rest := []) ?_))
    obtain ⟨p0, hS, p2, p3, p4, p5, p6, p7⟩ := id P2
    have g2 := (fr_up (g1) (by omega)).trans f2
    refine R_iload_n rfl rfl ?_
    refine R_ifne rfl ⟨by decide, by decide⟩ (fun _ => ?_) (fun c0 => absurd c0 (by decide))
    refine R_aload_n rfl rfl ?_
    refine R_dup rfl rfl ?_
    refine R_getfield rfl rfl (by omega) p0 rfl ?_
    refine R_iconst rfl ?_
    refine R_iadd rfl ?_
    refine R_putfield rfl rfl (by omega) p0 (Nat.le_of_ble_eq_true rfl) (by first | trivial | exact trivial | omega) ?_
    refine R_aload_n rfl rfl ?_
    refine R_getfield rfl rfl (by omega) (va_up_self _ _ _) rfl ?_
    refine R_iload_n rfl rfl ?_
    refine R_aload_n rfl rfl ?_
    refine R_getfield rfl rfl (by omega) (va_up_self _ _ _) rfl ?_
    refine R_iastore rfl (by omega) ((va_up_ne _ _ (by first | exact kne rfl | exact kz | exact kz.symm | omega)).trans p7) ⟨by omega, by omega, by omega⟩ ?_
    refine R_iinc (lv' := [_, _, _, _]) rfl rfl rfl ?_
    refine R_goto rfl ?_
    rw [show cnt G (c + 1) = cnt G c + 2 by simp only [cnt, ha, hd, tn], show cntA G (c + 1) = cntA G c + 1 by simp only [cntA, ha, tn], show clu G (c + 1) = clu G c + 1 by simp only [clu, ha, hd]; rfl] at k0
    have eD : eIx G true c = cnt G c + 1 := by simp only [eIx, ha, tn]
    exact k0 _ (va_up (va_up F (cnt G c) c) (cnt G c + 1) c) (va_up (va_up Ln (cnt G c) (ln G false c)) (cnt G c + 1) (ln G true c)) (va_up (va_up Dn (cnt G c) (bI false)) (cnt G c + 1) (bI true)) _ _ _ (isPx_cl (isPx_set (P2))) ⟨layE l1 (fun j hj => ⟨(va_up_ne _ _ (by omega)).trans (va_up_ne _ _ (by omega)), (va_up_ne _ _ (by omega)).trans (va_up_ne _ _ (by omega)), (va_up_ne _ _ (by omega)).trans (va_up_ne _ _ (by omega))⟩) (fun b hb => by
      cases b
      · show _ ∧ _ ∧ _
        exact ⟨(va_up_ne _ _ (by show cnt G c ≠ cnt G c + 1; omega)).trans (va_up_self _ _ _), (va_up_ne _ _ (by show cnt G c ≠ cnt G c + 1; omega)).trans (va_up_self _ _ _), (va_up_ne _ _ (by show cnt G c ≠ cnt G c + 1; omega)).trans (va_up_self _ _ _)⟩
      · rw [eD]
        exact ⟨va_up_self _ _ _, va_up_self _ _ _, va_up_self _ _ _⟩), layX hG l2 ha x1 y1, layX hG l3 hd (by rw [eD]; exact x2) y2, layC1 l4 (by rw [ha, hd]; rfl) rfl rfl⟩ (fr_up (fr_up (g2) (by omega)) (by omega))
theorem st_res0 {G : Gr} {b : Bool} {c : Nat} {z : Int} (h : z = bI (jn G b c)) (hz : z = 0) : (0 : Int) = bI (st G b c) := by
  unfold st
  cases q : jn G b c with
  | false => rfl
  | true =>
    rw [q] at h
    exact absurd (h.symm.trans hz) (by decide)
theorem st_res1 {G : Gr} {b : Bool} {c : Nat} {z : Int} (h : z = bI (pj G b c)) (hz : ¬ z = 0) : (0 : Int) = bI (st G b c) := by
  unfold st
  cases q : pj G b c with
  | true =>
    cases jn G b c <;> rfl
  | false =>
    rw [q] at h
    exact absurd h hz
theorem st_res2 {G : Gr} {b : Bool} {c : Nat} {z z' : Int} (h : z = bI (jn G b c)) (h' : z' = bI (pj G b c)) (hz : ¬ z = 0) (hz' : ¬ ¬ z' = 0) : (1 : Int) = bI (st G b c) := by
  unfold st
  cases q : jn G b c with
  | false =>
    rw [q] at h
    exact absurd h hz
  | true =>
    cases q2 : pj G b c with
    | false => rfl
    | true =>
      rw [q2] at h'
      exact absurd (fun e => absurd (h'.symm.trans e) (by decide)) hz'
theorem isPx_r9 {h h' : AH} {k : Nat} {G : Gr} {E A C : Int} {F Ln Dn Ac Dw Cl f : Nat → Int} (hP : isPx h k G E A C F Ln Dn Ac Dw Cl) (he : h' (k + 9) = eI 36 f) (ho : ∀ j, j ≠ k + 9 → h' j = h j) : isPx h' k G E A C F Ln Dn f Dw Cl := by
  obtain ⟨p0, hS, p2, p3, p4, p5, p6, p7⟩ := hP
  exact ⟨(ho _ (by omega)).trans p0, isSt_fr hS (fun j h1 h2 => ho j (by omega)), (ho _ (by omega)).trans p2, (ho _ (by omega)).trans p3, (ho _ (by omega)).trans p4, he, (ho _ (by omega)).trans p6, (ho _ (by omega)).trans p7⟩
theorem isPx_r10 {h h' : AH} {k : Nat} {G : Gr} {E A C : Int} {F Ln Dn Ac Dw Cl f : Nat → Int} (hP : isPx h k G E A C F Ln Dn Ac Dw Cl) (he : h' (k + 10) = eI 36 f) (ho : ∀ j, j ≠ k + 10 → h' j = h j) : isPx h' k G E A C F Ln Dn Ac f Cl := by
  obtain ⟨p0, hS, p2, p3, p4, p5, p6, p7⟩ := hP
  exact ⟨(ho _ (by omega)).trans p0, isSt_fr hS (fun j h1 h2 => ho j (by omega)), (ho _ (by omega)).trans p2, (ho _ (by omega)).trans p3, (ho _ (by omega)).trans p4, (ho _ (by omega)).trans p5, he, (ho _ (by omega)).trans p7⟩
theorem isPx_r11 {h h' : AH} {k : Nat} {G : Gr} {E A C : Int} {F Ln Dn Ac Dw Cl f : Nat → Int} (hP : isPx h k G E A C F Ln Dn Ac Dw Cl) (he : h' (k + 11) = eI 36 f) (ho : ∀ j, j ≠ k + 11 → h' j = h j) : isPx h' k G E A C F Ln Dn Ac Dw f := by
  obtain ⟨p0, hS, p2, p3, p4, p5, p6, p7⟩ := hP
  exact ⟨(ho _ (by omega)).trans p0, isSt_fr hS (fun j h1 h2 => ho j (by omega)), (ho _ (by omega)).trans p2, (ho _ (by omega)).trans p3, (ho _ (by omega)).trans p4, (ho _ (by omega)).trans p5, (ho _ (by omega)).trans p6, he⟩
theorem fr_1 {h h' : AH} {a n i : Nat} (ho : ∀ j, j ≠ i → h' j = h j) (hi : a ≤ i ∧ i < a + n) : fr h h' a n := fun j hj => ho j (by omega)
theorem lay_loop {dd k N : Nat} {G : Gr} {Q : AQ} (hG : okG G) (hN : k + 12 ≤ N) : ∀ (r c : Nat) (h : AH) (F Ln Dn Ac Dw Cl : Nat → Int) (l2 l3 : Option AV), c + r = qM G → isPx h k G (cnt G c) (cntA G c) (clu G c) F Ln Dn Ac Dw Cl → layAt G c F Ln Dn Ac Dw Cl → (∀ h', isPz h' k G → fr h h' k 12 → Q (.inl none) h' N) → Run mi_X4_layOut (T (dd + 3)) Q 44 [some (vR k), some (vI (c : Int)), l2, l3] [] h N 0 0 := by
  intro r
  induction r using Nat.strongRecOn with
  | ind r ih =>
  intro c h F Ln Dn Ac Dw Cl l2 l3 hr hP hL hQ
  obtain ⟨p0, hS, p2, p3, p4, p5, p6, p7⟩ := id hP
  obtain ⟨l1, l2', l3', l4⟩ := id hL
  obtain ⟨hm4, hm36⟩ := hG.m
  have hC6 := hG.2.1
  obtain ⟨rb, bb, s0⟩ := hS.e0
  refine R_iload_n rfl rfl ?_
  refine R_aload_n rfl rfl ?_
  refine R_getfield rfl rfl (by omega) p0 rfl ?_
  refine R_vcall rfl rfl ⟨(by omega), hS.rcv⟩ ⟨Nat.le_of_ble_eq_true rfl, Nat.le_of_ble_eq_true rfl, Nat.zero_le _, Nat.zero_le _⟩ (cells_T hS hG (by omega) (fun z49 hz49 => aRes_i (rest := [_]) ?_))
  refine R_icmpge rfl ⟨by omega, by omega⟩ ⟨by omega, by omega⟩ (fun c52 => ?_) (fun c52 => ?_)
  · have hcM : c = qM G := by omega
    subst hcM
    exact R_return rfl (Nat.zero_le _) (Nat.zero_le _) (hQ h ⟨F, Ln, Dn, Ac, Dw, Cl, hP, l1, fun x hx => (l2' x hx).trans (acrTo_all hG hx), fun x hx => (l3' x hx).trans (acrTo_all hG hx), fun x hx => (l4 x hx).trans (if_pos hx)⟩ fr.refl)
  · have hc : c < qM G := by omega
    have hD : ∀ z1, z1 = bI (st G false c) → ∀ z2, z2 = bI (st G true c) → Run mi_X4_layOut (T (dd + 3)) Q 130 [some (vR k), some (vI (c : Int)), some (vI z1), l3] [vI z2] h N 0 0 := by
      intro z1 hz1 z2 hz2
      subst hz1
      subst hz2
      refine R_istore_n (lv' := [_, _, _, _]) rfl rfl ?_
      exact lay_step hG hN hc hP hL rfl rfl (fun h' F' Ln' Dn' Ac' Dw' Cl' P' L' f' => ih (r - 1) (by omega) (c + 1) h' F' Ln' Dn' Ac' Dw' Cl' _ _ (by omega) P' L' (fun h2 q1 q2 => hQ h2 q1 (f'.trans q2)))
    have hB : ∀ z1, z1 = bI (st G false c) → Run mi_X4_layOut (T (dd + 3)) Q 92 [some (vR k), some (vI (c : Int)), l2, l3] [vI z1] h N 0 0 := by
      intro z1 hz1
      refine R_istore_n (lv' := [_, _, _, _]) rfl rfl ?_
      refine R_aload_n rfl rfl ?_
      refine R_getfield rfl rfl (by omega) p0 rfl ?_
      refine R_iload_n rfl rfl ?_
      refine R_iconst rfl ?_
      refine R_vcall rfl rfl ⟨(by omega), hS.rcv⟩ ⟨Nat.le_of_ble_eq_true rfl, Nat.le_of_ble_eq_true rfl, Nat.zero_le _, Nat.zero_le _⟩ (isJoined_T (b := true) hS hG (by omega) ⟨by omega, by omega⟩ (fun z99 hz99 => aRes_i (rest := []) ?_))
      have hj99 := jn_res (b := true) (x := c) rfl hz99
      refine R_ifeq rfl ⟨by omega, by omega⟩ (fun c102 => ?_) (fun c102 => ?_)
      · refine R_iconst rfl ?_
        exact hD _ hz1 _ (by first | exact st_res2 hj99 hj119 c102 c122 | exact st_res1 hj119 c122 | exact st_res0 hj99 c102)
      · refine R_aload_n rfl rfl ?_
        refine R_getfield rfl rfl (by omega) p0 rfl ?_
        refine R_iload_n rfl rfl ?_
        refine R_aload_n rfl rfl ?_
        refine R_getfield rfl rfl (by omega) p0 rfl ?_
        refine R_getfield rfl rfl (by omega) s0 rfl ?_
        refine R_isub rfl ?_
        refine R_iconst rfl ?_
        refine R_vcall rfl rfl ⟨(by omega), hS.rcv⟩ ⟨Nat.le_of_ble_eq_true rfl, Nat.le_of_ble_eq_true rfl, Nat.zero_le _, Nat.zero_le _⟩ (isJoined_T (b := true) hS hG (by omega) ⟨by omega, by omega⟩ (fun z119 hz119 => aRes_i (rest := []) ?_))
        have hj119 := pj_res (b := true) (x := c) rfl hz119
        refine R_ifne rfl ⟨by omega, by omega⟩ (fun c122 => ?_) (fun c122 => ?_)
        · refine R_iconst rfl ?_
          exact hD _ hz1 _ (by first | exact st_res2 hj99 hj119 c102 c122 | exact st_res1 hj119 c122 | exact st_res0 hj99 c102)
        · refine R_iconst rfl ?_
          refine R_goto rfl ?_
          exact hD _ hz1 _ (by first | exact st_res2 hj99 hj119 c102 c122 | exact st_res1 hj119 c122 | exact st_res0 hj99 c102)
    refine R_iload_n rfl rfl ?_
    refine R_bipush rfl ?_
    refine R_icmpge rfl ⟨by omega, by omega⟩ ⟨by decide, by decide⟩ (fun c58 => ?_) (fun c58 => ?_)
    · exact absurd c58 (by omega)
    · refine R_aload_n rfl rfl ?_
      refine R_getfield rfl rfl (by omega) p0 rfl ?_
      refine R_iload_n rfl rfl ?_
      refine R_iconst rfl ?_
      refine R_vcall rfl rfl ⟨(by omega), hS.rcv⟩ ⟨Nat.le_of_ble_eq_true rfl, Nat.le_of_ble_eq_true rfl, Nat.zero_le _, Nat.zero_le _⟩ (isJoined_T (b := false) hS hG (by omega) ⟨by omega, by omega⟩ (fun z67 hz67 => aRes_i (rest := []) ?_))
      have hj67 := jn_res (b := false) (x := c) rfl hz67
      refine R_ifeq rfl ⟨by omega, by omega⟩ (fun c70 => ?_) (fun c70 => ?_)
      · refine R_iconst rfl ?_
        exact hB _ (by first | exact st_res2 hj67 hj81 c70 c84 | exact st_res1 hj81 c84 | exact st_res0 hj67 c70)
      · refine R_aload_n rfl rfl ?_
        refine R_getfield rfl rfl (by omega) p0 rfl ?_
        refine R_iload_n rfl rfl ?_
        refine R_iconst rfl ?_
        refine R_isub rfl ?_
        refine R_iconst rfl ?_
        refine R_vcall rfl rfl ⟨(by omega), hS.rcv⟩ ⟨Nat.le_of_ble_eq_true rfl, Nat.le_of_ble_eq_true rfl, Nat.zero_le _, Nat.zero_le _⟩ (isJoined_T (b := false) hS hG (by omega) ⟨by omega, by omega⟩ (fun z81 hz81 => aRes_i (rest := []) ?_))
        have hj81 := pj_res (b := false) (x := c) rfl hz81
        refine R_ifne rfl ⟨by omega, by omega⟩ (fun c84 => ?_) (fun c84 => ?_)
        · refine R_iconst rfl ?_
          exact hB _ (by first | exact st_res2 hj67 hj81 c70 c84 | exact st_res1 hj81 c84 | exact st_res0 hj67 c70)
        · refine R_iconst rfl ?_
          refine R_goto rfl ?_
          exact hB _ (by first | exact st_res2 hj67 hj81 c70 c84 | exact st_res1 hj81 c84 | exact st_res0 hj67 c70)
theorem layOut_T {dd k N : Nat} {h : AH} {G : Gr} {Q : AQ} (hA : isPa h k G) (hG : okG G) (hN : k + 12 ≤ N) (hQ : (∀ h', isPz h' k G → fr h h' k 12 → Q (.inl none) h' N)) : T (dd + 4) 29 [vR k] h N Q := by
  obtain ⟨E, A, C, F, Ln, Dn, Ac, Dw, Cl, hP⟩ := hA
  obtain ⟨p0, hS, p2, p3, p4, p5, p6, p7⟩ := id hP
  obtain ⟨hm4, hm36⟩ := hG.m
  refine T_body (I := mi_X4_layOut) (lv := [_, _, _, _]) rfl (Nat.le_of_ble_eq_true rfl) rfl ?_
  refine R_aload_n rfl rfl ?_
  refine R_iconst rfl ?_
  refine R_putfield rfl rfl (by omega) p0 (Nat.le_of_ble_eq_true rfl) (by first | trivial | exact trivial | omega) ?_
  refine R_aload_n rfl rfl ?_
  refine R_iconst rfl ?_
  refine R_putfield rfl rfl (by omega) (va_up_self _ _ _) (Nat.le_of_ble_eq_true rfl) (by first | trivial | exact trivial | omega) ?_
  refine R_aload_n rfl rfl ?_
  refine R_iconst rfl ?_
  refine R_putfield rfl rfl (by omega) (va_up_self _ _ _) (Nat.le_of_ble_eq_true rfl) (by first | trivial | exact trivial | omega) ?_
  refine R_aload_n rfl rfl ?_
  refine R_getfield rfl rfl (by omega) (va_up_self _ _ _) rfl ?_
  refine R_bipush rfl ?_
  refine R_scall rfl rfl ⟨Nat.le_of_ble_eq_true rfl, Nat.le_of_ble_eq_true rfl, Nat.zero_le _, Nat.zero_le _⟩ (fill_T (m := 36) (by omega) (by decide) (((va_up_ne _ _ (by first | exact kne rfl | exact kz | exact kz.symm | omega)).trans ((va_up_ne _ _ (by first | exact kne rfl | exact kz | exact kz.symm | omega)).trans ((va_up_ne _ _ (by first | exact kne rfl | exact kz | exact kz.symm | omega)).trans p5)))) (fun h21 f21 w21 v21 o21 => aRes_v (rest := []) ?_))
  have P21 := isPx_r9 (isPx_set (isPx_set (isPx_set hP))) w21 o21
  have g21 : fr h h21 k 12 := (fr_up (fr_up (fr_up fr.refl (by omega)) (by omega)) (by omega)).trans (fr_1 o21 (by omega))
  obtain ⟨p0, hS, p2, p3, p4, p5, p6, p7⟩ := id P21
  refine R_aload_n rfl rfl ?_
  refine R_getfield rfl rfl (by omega) p0 rfl ?_
  refine R_bipush rfl ?_
  refine R_scall rfl rfl ⟨Nat.le_of_ble_eq_true rfl, Nat.le_of_ble_eq_true rfl, Nat.zero_le _, Nat.zero_le _⟩ (fill_T (m := 36) (by omega) (by decide) (p6) (fun h30 f30 w30 v30 o30 => aRes_v (rest := []) ?_))
  have P30 := isPx_r10 (P21) w30 o30
  have g30 : fr h h30 k 12 := (g21).trans (fr_1 o30 (by omega))
  obtain ⟨p0, hS, p2, p3, p4, p5, p6, p7⟩ := id P30
  refine R_aload_n rfl rfl ?_
  refine R_getfield rfl rfl (by omega) p0 rfl ?_
  refine R_bipush rfl ?_
  refine R_scall rfl rfl ⟨Nat.le_of_ble_eq_true rfl, Nat.le_of_ble_eq_true rfl, Nat.zero_le _, Nat.zero_le _⟩ (fill_T (m := 36) (by omega) (by decide) (p7) (fun h39 f39 w39 v39 o39 => aRes_v (rest := []) ?_))
  have P39 := isPx_r11 (P30) w39 o39
  have g39 : fr h h39 k 12 := (g30).trans (fr_1 o39 (by omega))
  obtain ⟨p0, hS, p2, p3, p4, p5, p6, p7⟩ := id P39
  refine R_iconst rfl ?_
  refine R_istore_n (lv' := [_, _, _, _]) rfl rfl ?_
  exact lay_loop hG hN (qM G) 0 _ F Ln Dn f21 f30 f39 _ _ (Nat.zero_add _) P39 ⟨fun e x b he => absurd (show ([] : List (Nat × Bool))[e]? = some (x, b) from he) (by rw [List.getElem?_nil]; exact fun q => by cases q), fun x hx => (v21 x (by omega)).trans acrTo_zero.symm, fun x hx => (v30 x (by omega)).trans acrTo_zero.symm, fun x hx => (v39 x (by omega)).trans (if_neg (Nat.not_lt_zero _)).symm⟩ (fun h2 q1 q2 => hQ h2 q1 (g39.trans q2))
theorem isPa_st {h h' : AH} {k : Nat} {G0 G : Gr} (hA : isPa h k G0) (hS' : isSt h' (k + 1) G) (hf : fr h h' (k + 1) 5) : isPa h' k G := by
  obtain ⟨E, A, C, F, Ln, Dn, Ac, Dw, Cl, p0, hS, p2, p3, p4, p5, p6, p7⟩ := hA
  exact ⟨E, A, C, F, Ln, Dn, Ac, Dw, Cl, (hf _ (by omega)).trans p0, hS', (hf _ (by omega)).trans p2, (hf _ (by omega)).trans p3, (hf _ (by omega)).trans p4, (hf _ (by omega)).trans p5, (hf _ (by omega)).trans p6, (hf _ (by omega)).trans p7⟩
theorem isPa.st {h : AH} {k : Nat} {G : Gr} (hA : isPa h k G) : isSt h (k + 1) G := by
  obtain ⟨E, A, C, F, Ln, Dn, Ac, Dw, Cl, p0, hS, -⟩ := hA
  exact hS
theorem take_T {dd k k2 N : Nat} {h : AH} {G0 G : Gr} {Q : AQ} (hA : isPa h k G0) (hS2 : isSt h k2 G) (hG : okG G) (hN : k + 12 ≤ N) (hk : k2 + 5 ≤ N ∧ (k + 6 ≤ k2 ∨ k2 + 5 ≤ k + 1)) (hQ : (∀ h', isPz h' k G → fr h h' k 12 → Q (.inl none) h' N)) : T (dd + 5) 27 [vR k, vR k2] h N Q := by
  have hS := hA.st
  obtain ⟨E, A, C, F, Ln, Dn, Ac, Dw, Cl, p0, -⟩ := id hA
  refine T_body (I := mi_X4_take) (lv := [_, _]) rfl (Nat.le_of_ble_eq_true rfl) rfl ?_
  refine R_aload_n rfl rfl ?_
  refine R_getfield rfl rfl (by omega) p0 rfl ?_
  refine R_aload_n rfl rfl ?_
  refine R_vcall rfl rfl ⟨(by omega), hS.rcv⟩ ⟨Nat.le_of_ble_eq_true rfl, Nat.le_of_ble_eq_true rfl, Nat.zero_le _, Nat.zero_le _⟩ (copyFrom_T hS hS2 hG (by omega) (by omega) (fun h1 hS1 f1 => aRes_v (rest := []) ?_))
  have hA1 := isPa_st hA hS1 f1
  replace p0 := (f1 _ (by omega)).trans p0
  refine R_aload_n rfl rfl ?_
  refine R_vcall rfl rfl ⟨(by omega), _, p0⟩ ⟨Nat.le_of_ble_eq_true rfl, Nat.le_of_ble_eq_true rfl, Nat.zero_le _, Nat.zero_le _⟩ (layOut_T hA1 (hG) hN (fun h2 P2 f2 => aRes_v (rest := []) ?_))
  exact R_return rfl (Nat.zero_le _) (Nat.zero_le _) (hQ h2 P2 ((f1.wide (by omega)).trans f2))
theorem changeBar_T {dd k N : Nat} {h : AH} {G : Gr} {Q : AQ} {c : Int} {b v : Bool} (hA : isPa h k G) (hG : okG G) (hN : k + 12 ≤ N) (hc : inR c) (hQ1 : 0 ≤ c → qP G c.toNat b → ∀ h', isPz h' k (setBr G c.toNat b v) → fr h h' k 12 → Q (.inl (some (vI 1))) h' N) (hQ0 : ¬ (0 ≤ c ∧ qP G c.toNat b) → Q (.inl (some (vI 0))) h N) : T (dd + 5) 28 [vR k, vI c, vI (bI b), vI (bI v)] h N Q := by
  have hS := hA.st
  obtain ⟨E, A, C, F, Ln, Dn, Ac, Dw, Cl, p0, -⟩ := id hA
  refine T_body (I := mi_X4_changeBar) (lv := [_, _, _, _]) rfl (Nat.le_of_ble_eq_true rfl) rfl ?_
  refine R_aload_n rfl rfl ?_
  refine R_getfield rfl rfl (by omega) p0 rfl ?_
  refine R_iload_n rfl rfl ?_
  refine R_iload_n rfl rfl ?_
  refine R_vcall rfl rfl ⟨(by omega), hS.rcv⟩ ⟨Nat.le_of_ble_eq_true rfl, Nat.le_of_ble_eq_true rfl, Nat.zero_le _, Nat.zero_le _⟩ (isPlace_T (b := b) hS hG (by omega) hc (fun z6 hz6 => aRes_i (rest := []) ?_))
  refine R_ifne rfl ⟨by omega, by omega⟩ (fun c9 => ?_) (fun c9 => ?_)
  · have hp : 0 ≤ c ∧ qP G c.toNat b := by
      rcases hz6 with ⟨q1, q2⟩ | ⟨q1, q2⟩
      · exact q2
      · omega
    refine R_aload_n rfl rfl ?_
    refine R_getfield rfl rfl (by omega) p0 rfl ?_
    refine R_iload_n rfl rfl ?_
    refine R_iload_n rfl rfl ?_
    refine R_iload_n rfl rfl ?_
    refine R_vcall rfl rfl ⟨(by omega), hS.rcv⟩ ⟨Nat.le_of_ble_eq_true rfl, Nat.le_of_ble_eq_true rfl, Nat.zero_le _, Nat.zero_le _⟩ (drawBar_T (b := b) (v := v) hS hG (by omega) hp.1 hp.2 (fun h1 hS1 f1 => aRes_v (rest := []) ?_))
    have hA1 := isPa_st hA hS1 f1
    replace p0 := (f1 _ (by omega)).trans p0
    refine R_aload_n rfl rfl ?_
    refine R_vcall rfl rfl ⟨(by omega), _, p0⟩ ⟨Nat.le_of_ble_eq_true rfl, Nat.le_of_ble_eq_true rfl, Nat.zero_le _, Nat.zero_le _⟩ (layOut_T hA1 (ok_setBr hG hp.2) hN (fun h2 P2 f2 => aRes_v (rest := []) ?_))
    refine R_iconst rfl ?_
    exact R_ireturn rfl (fun _ => by omega) (Nat.zero_le _) (Nat.zero_le _) (hQ1 hp.1 hp.2 h2 P2 ((f1.wide (by omega)).trans f2))
  · have hp : ¬ (0 ≤ c ∧ qP G c.toNat b) := by
      rcases hz6 with ⟨q1, q2⟩ | ⟨q1, q2⟩
      · omega
      · exact q2
    refine R_iconst rfl ?_
    exact R_ireturn rfl (fun _ => by omega) (Nat.zero_le _) (Nat.zero_le _) (hQ0 hp)
