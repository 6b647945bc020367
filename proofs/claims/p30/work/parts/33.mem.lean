/-! ===== the memory ===== -/
def mP (o j : Nat) : Nat := 36 + 5 * ((o + j) % 14)
def memS (h : AH) (hist : List Gr) (sl : Nat → Option Gr) (o : Nat) (u : Nat → Int) : Prop := (∀ i, i < 14 → ∃ G, isSt h (36 + 5 * i) G) ∧ (∀ i, i < 2 → ∃ G, isSt h (106 + 5 * i) G) ∧ (∀ (j : Nat) (G : Gr), hist[j]? = some G → isSt h (mP o j) G ∧ okG G) ∧ ∀ i, i < 2 → (sl i = none ∧ u i = 0) ∨ ∃ G, sl i = some G ∧ u i = 1 ∧ isSt h (106 + 5 * i) G ∧ okG G
def isMem (h : AH) (hist : List Gr) (sl : Nat → Option Gr) : Prop := ∃ (o : Nat) (u : Nat → Int) (R S : Nat → Option Nat), o < 14 ∧ hist.length ≤ 14 ∧ h 32 = eO 2 [vI hist.length, vI o, vR 33, vR 34, vR 35] ∧ h 33 = eR 14 R ∧ (∀ i, i < 14 → R i = some (36 + 5 * i)) ∧ h 34 = eR 2 S ∧ ((∀ i k, R i = some k → k < 116 ∨ aRO ≤ k) ∧ ∀ i k, S i = some k → k < 116 ∨ aRO ≤ k) ∧ h 35 = eZ 2 u ∧ memS h hist sl o u
def rem14 (hist : List Gr) (G : Gr) : List Gr := (if hist.length = 14 then hist.tail else hist) ++ [G]
theorem mP_lt {o j : Nat} : 36 ≤ mP o j ∧ mP o j + 5 ≤ 106 := by
  unfold mP
  omega
theorem memS_fr {h h' : AH} {hist : List Gr} {sl : Nat → Option Gr} {o : Nat} {u : Nat → Int} (hM : memS h hist sl o u) (he : ∀ j, 36 ≤ j → j < 116 → h' j = h j) : memS h' hist sl o u := by
  obtain ⟨m1, m2, m3, m4⟩ := hM
  refine ⟨fun i hi => ?_, fun i hi => ?_, fun j G hj => ?_, fun i hi => ?_⟩
  · obtain ⟨G, hS⟩ := m1 i hi
    exact ⟨G, isSt_fr hS (fun j h1 h2 => he j (by omega) (by omega))⟩
  · obtain ⟨G, hS⟩ := m2 i hi
    exact ⟨G, isSt_fr hS (fun j h1 h2 => he j (by omega) (by omega))⟩
  · obtain ⟨hS, hG⟩ := m3 j G hj
    have := mP_lt (o := o) (j := j)
    exact ⟨isSt_fr hS (fun j h1 h2 => he j (by omega) (by omega)), hG⟩
  · rcases m4 i hi with q | ⟨G, q1, q2, q3, q4⟩
    · exact Or.inl q
    · exact Or.inr ⟨G, q1, q2, isSt_fr q3 (fun j h1 h2 => he j (by omega) (by omega)), q4⟩
theorem isMem_fr {h h' : AH} {hist : List Gr} {sl : Nat → Option Gr} (hM : isMem h hist sl) (he : ∀ j, 32 ≤ j → j < 116 → h' j = h j) : isMem h' hist sl := by
  obtain ⟨o, u, R, S, ho, hl, e0, e1, hR, e2, hSl, e3, hm⟩ := hM
  exact ⟨o, u, R, S, ho, hl, (he _ (by omega) (by omega)).trans e0, (he _ (by omega) (by omega)).trans e1, hR, (he _ (by omega) (by omega)).trans e2, hSl, (he _ (by omega) (by omega)).trans e3, memS_fr hm (fun j h1 h2 => he j (by omega) (by omega))⟩
theorem all28 {P : Nat → Prop} [DecidablePred P] (h : (List.range 28).all (fun n => decide (P n)) = true) {n : Nat} (hn : n < 28) : P n := by
  have := List.all_eq_true.mp h n (List.mem_range.mpr hn)
  exact of_decide_eq_true this
theorem xor14 {n : Nat} (hn : n < 28) : 0 ≤ (iI (n : Int) ^^^ iI 14).toInt ∧ (iI (n : Int) ^^^ iI 14).toInt < 2147483648 := all28 (P := fun n => 0 ≤ (iI (n : Int) ^^^ iI 14).toInt ∧ (iI (n : Int) ^^^ iI 14).toInt < 2147483648) (by decide +kernel) hn
theorem floorMod_T {d N a : Nat} {h : AH} {Q : AQ} (ha : a < 28) (hQ : ∀ z : Int, z = ((a % 14 : Nat) : Int) → Q (.inl (some (vI z))) h N) : T (d + 1) 206 [vI a, vI 14] h N Q := by
  refine T_body (I := mi_J9_floorMod_7cf53) (lv := [_, _, _]) rfl (Nat.le_of_ble_eq_true rfl) rfl ?_
  have hx := xor14 ha
  refine R_iload_n rfl rfl ?_
  refine R_iload_n rfl rfl ?_
  refine R_irem rfl ⟨by omega, by omega, by omega, by omega⟩ ?_
  refine R_istore_n (lv' := [_, _, _]) rfl rfl ?_
  refine R_iload_n rfl rfl ?_
  refine R_iload_n rfl rfl ?_
  refine R_ixor rfl ?_
  refine R_ifge rfl ⟨by omega, by omega⟩ (fun c7 => ?_) (fun c7 => ?_)
  · refine R_iload_n rfl rfl ?_
    exact R_ireturn rfl (fun q => absurd q (by decide)) (Nat.zero_le _) (Nat.zero_le _) (hQ _ (by omega))
  · exact absurd hx.1 c7
theorem at_T {d N o n i : Nat} {h : AH} {R : Nat → Option Nat} {Q : AQ} (e0 : h 32 = eO 2 [vI n, vI o, vR 33, vR 34, vR 35]) (e1 : h 33 = eR 14 R) (hR : ∀ i, i < 14 → R i = some (36 + 5 * i)) (ho : o < 14) (hi : i ≤ 13) (hN : 116 ≤ N) (hQ : Q (.inl (some (vR (mP o i)))) h N) : T (d + 2) 21 [vR 32, vI i] h N Q := by
  refine T_body (I := mi_X3_at) (lv := [_, _]) rfl (Nat.le_of_ble_eq_true rfl) rfl ?_
  refine R_aload_n rfl rfl ?_
  refine R_getfield rfl rfl (by omega) e0 rfl ?_
  refine R_aload_n rfl rfl ?_
  refine R_getfield rfl rfl (by omega) e0 rfl ?_
  refine R_iload_n rfl rfl ?_
  refine R_iadd rfl ?_
  refine R_bipush rfl ?_
  refine R_scall rfl rfl ⟨Nat.le_of_ble_eq_true rfl, Nat.le_of_ble_eq_true rfl, Nat.zero_le _, Nat.zero_le _⟩ (floorMod_T (a := o + i) (by omega) (fun z12 hz12 => aRes_i (rest := [_]) ?_))
  refine R_aaload rfl (by omega) e1 ⟨by omega, by omega, by omega⟩ ?_
  exact R_areturn rfl (Nat.zero_le _) (Nat.zero_le _) (by rw [show R z12.toNat = some (mP o i) from (congrArg R (show z12.toNat = (o + i) % 14 by omega)).trans (hR _ (Nat.mod_lt _ (by decide)))]; exact hQ)
theorem rem_tail {d N : Nat} {h : AH} {hist : List Gr} {sl : Nat → Option Gr} {Q : AQ} (hM : isMem h hist sl) (hN : 116 ≤ N) {k : Nat} {G : Gr} (hS : isSt h k G) (hG : okG G) (hk : k + 5 ≤ 32) (hl14 : hist.length < 14) (hQ : ∀ h', isMem h' (hist ++ [G]) sl → fr h h' 32 84 → Q (.inl none) h' N) : Run mi_X3_remember (T (d + 2)) Q 32 [some (vR 32), some (vR k)] [] h N 0 0 := by
  obtain ⟨o, u, R, S, ho, hl, e0, e1, hR, e2, hSl, e3, hm⟩ := id hM
  have hmp := mP_lt (o := o) (j := hist.length)
  obtain ⟨G0, hS0⟩ : ∃ G0, isSt h (mP o hist.length) G0 := hm.1 _ (Nat.mod_lt _ (by decide))
  refine R_aload_n rfl rfl ?_
  refine R_aload_n rfl rfl ?_
  refine R_getfield rfl rfl (by omega) e0 rfl ?_
  refine R_vcall rfl rfl ⟨(by omega), _, e0⟩ ⟨Nat.le_of_ble_eq_true rfl, Nat.le_of_ble_eq_true rfl, Nat.zero_le _, Nat.zero_le _⟩ (at_T (i := hist.length) e0 e1 hR ho (by omega) hN (aRes_i (rest := []) ?_))
  refine R_aload_n rfl rfl ?_
  refine R_vcall rfl rfl ⟨(by omega), hS0.rcv⟩ ⟨Nat.le_of_ble_eq_true rfl, Nat.le_of_ble_eq_true rfl, Nat.zero_le _, Nat.zero_le _⟩ (copyFrom_T hS0 hS hG ⟨by omega, by omega⟩ (by omega) (fun h1 hS1 f1 => aRes_v (rest := []) ?_))
  refine R_aload_n rfl rfl ?_
  refine R_dup rfl rfl ?_
  refine R_getfield rfl rfl (by omega) ((f1 _ (by omega)).trans e0) rfl ?_
  refine R_iconst rfl ?_
  refine R_iadd rfl ?_
  refine R_putfield rfl rfl (by omega) ((f1 _ (by omega)).trans e0) (Nat.le_of_ble_eq_true rfl) (by first | trivial | exact trivial | omega) ?_
  exact R_return rfl (Nat.zero_le _) (Nat.zero_le _) (hQ _ (by
    refine ⟨o, u, R, S, ho, by rw [List.length_append]; show hist.length + 1 ≤ 14; omega, ?_, (va_up_ne _ _ (by decide)).trans ((f1 _ (by omega)).trans e1), hR, (va_up_ne _ _ (by decide)).trans ((f1 _ (by omega)).trans e2), hSl, (va_up_ne _ _ (by decide)).trans ((f1 _ (by omega)).trans e3), memS_fr (h := h1) ?_ (fun j h1 h2 => va_up_ne _ _ (by omega))⟩
    · rw [List.length_append]
      exact va_up_self _ _ _
    · obtain ⟨m1, m2, m3, m4⟩ := hm
      refine ⟨fun i hi => ?_, fun i hi => ?_, fun j G2 hj => ?_, fun i hi => ?_⟩
      · by_cases q : 36 + 5 * i = mP o hist.length
        · rw [q]
          exact ⟨G, hS1⟩
        · obtain ⟨G2, hS2⟩ := m1 i hi
          exact ⟨G2, isSt_fr hS2 (fun j h1 h2 => f1 j (by unfold mP at q ⊢; omega))⟩
      · obtain ⟨G2, hS2⟩ := m2 i hi
        exact ⟨G2, isSt_fr hS2 (fun j h1 h2 => f1 j (by omega))⟩
      · rcases Nat.lt_or_ge j hist.length with q | q
        · rw [List.getElem?_append_left q] at hj
          obtain ⟨hS2, hG2⟩ := m3 j G2 hj
          exact ⟨isSt_fr hS2 (fun x h1 h2 => f1 x (by unfold mP at h1 h2 ⊢; omega)), hG2⟩
        · rw [List.getElem?_append_right q] at hj
          have q2 : j - hist.length = 0 := by
            rcases Nat.eq_zero_or_pos (j - hist.length) with r | r
            · exact r
            · rw [List.getElem?_eq_none (by show 1 ≤ _; omega)] at hj
              cases hj
          rw [q2] at hj
          have hj : some G = some G2 := hj
          cases hj
          rw [show j = hist.length by omega]
          exact ⟨hS1, hG⟩
      · rcases m4 i hi with q | ⟨G2, q1, q2, q3, q4⟩
        · exact Or.inl q
        · exact Or.inr ⟨G2, q1, q2, isSt_fr q3 (fun j h1 h2 => f1 j (by omega)), q4⟩) (fun j hj => (va_up_ne _ _ (by omega)).trans (f1 j (by omega))))
theorem remember_T {d N : Nat} {h : AH} {hist : List Gr} {sl : Nat → Option Gr} {Q : AQ} (hM : isMem h hist sl) (hN : 116 ≤ N) {k : Nat} {G : Gr} (hS : isSt h k G) (hG : okG G) (hk : k + 5 ≤ 32) (hQ : ∀ h', isMem h' (rem14 hist G) sl → fr h h' 32 84 → Q (.inl none) h' N) : T (d + 3) 18 [vR 32, vR k] h N Q := by
  obtain ⟨o, u, R, S, ho, hl, e0, e1, hR, e2, hSl, e3, hm⟩ := id hM
  refine T_body (I := mi_X3_remember) (lv := [_, _]) rfl (Nat.le_of_ble_eq_true rfl) rfl ?_
  refine R_aload_n rfl rfl ?_
  refine R_getfield rfl rfl (by omega) e0 rfl ?_
  refine R_bipush rfl ?_
  refine R_icmpne rfl ⟨by omega, by omega⟩ ⟨by decide, by decide⟩ (fun c6 => ?_) (fun c6 => ?_)
  · have hl14 : hist.length < 14 := by omega
    have hr : rem14 hist G = hist ++ [G] := by
      unfold rem14
      rw [if_neg (by omega)]
    rw [hr] at hQ
    exact rem_tail hM hN hS hG hk hl14 hQ
  · have hl14 : hist.length = 14 := by omega
    have hr : rem14 hist G = hist.tail ++ [G] := by
      unfold rem14
      rw [if_pos hl14]
    rw [hr] at hQ
    refine R_aload_n rfl rfl ?_
    refine R_aload_n rfl rfl ?_
    refine R_getfield rfl rfl (by omega) e0 rfl ?_
    refine R_iconst rfl ?_
    refine R_iadd rfl ?_
    refine R_bipush rfl ?_
    refine R_irem rfl ⟨by omega, by omega, by omega, by omega⟩ ?_
    refine R_putfield rfl rfl (by omega) e0 (Nat.le_of_ble_eq_true rfl) (by first | trivial | exact trivial | omega) ?_
    refine R_aload_n rfl rfl ?_
    refine R_dup rfl rfl ?_
    refine R_getfield rfl rfl (by omega) (va_up_self _ _ _) rfl ?_
    refine R_iconst rfl ?_
    refine R_isub rfl ?_
    refine R_putfield rfl rfl (by omega) (va_up_self _ _ _) (Nat.le_of_ble_eq_true rfl) (by first | trivial | exact trivial | omega) ?_
    have ht : hist.tail.length = 13 := by rw [List.length_tail, hl14]
    refine rem_tail (hist := hist.tail) ⟨(o + 1) % 14, u, R, S, Nat.mod_lt _ (by decide), by omega, ?_, (va_up_ne _ _ (by decide)).trans ((va_up_ne _ _ (by decide)).trans e1), hR, (va_up_ne _ _ (by decide)).trans ((va_up_ne _ _ (by decide)).trans e2), hSl, (va_up_ne _ _ (by decide)).trans ((va_up_ne _ _ (by decide)).trans e3), memS_fr (h := h) ?_ (fun j h1 h2 => (va_up_ne _ _ (by omega)).trans (va_up_ne _ _ (by omega)))⟩ hN (isSt_fr hS (fun j h1 h2 => (va_up_ne _ _ (by omega)).trans (va_up_ne _ _ (by omega)))) hG hk (by omega) (fun h2 q1 q2 => hQ h2 q1 (fun j hj => (q2 j hj).trans ((va_up_ne _ _ (by omega)).trans (va_up_ne _ _ (by omega)))))
    · rw [ht]
      refine (va_up_self _ _ _).trans ?_
      rw [hl14]
      rfl
    · obtain ⟨m1, m2, m3, m4⟩ := hm
      refine ⟨m1, m2, fun j G2 hj => ?_, m4⟩
      have hj : hist[j + 1]? = some G2 := by
        rw [← hj]
        cases hist with
        | nil => rfl
        | cons a l => rfl
      have q := m3 (j + 1) G2 hj
      have e : mP ((o + 1) % 14) j = mP o (j + 1) := by
        unfold mP
        omega
      rw [e]
      exact q
theorem takeLast_T {d N : Nat} {h : AH} {hist : List Gr} {sl : Nat → Option Gr} {Q : AQ} {G : Gr} (hM : isMem h (hist ++ [G]) sl) (hN : 116 ≤ N) (hQ : ∀ h' p, isMem h' hist sl → isSt h' p G → (36 ≤ p ∧ p + 5 ≤ 106) → fr h h' 32 1 → Q (.inl (some (vR p))) h' N) : T (d + 3) 19 [vR 32] h N Q := by
  obtain ⟨o, u, R, S, ho, hl, e0, e1, hR, e2, hSl, e3, hm⟩ := id hM
  have hmp := mP_lt (o := o) (j := hist.length)
  rw [List.length_append] at hl e0
  have hl : hist.length + 1 ≤ 14 := hl
  have e0 : h 32 = eO 2 [vI ((hist.length + 1 : Nat) : Int), vI o, vR 33, vR 34, vR 35] := e0
  have hSG : isSt h (mP o hist.length) G := (hm.2.2.1 hist.length G (by rw [List.getElem?_append_right (Nat.le_refl _), Nat.sub_self]; rfl)).1
  refine T_body (I := mi_X3_takeLast) (lv := [_]) rfl (Nat.le_of_ble_eq_true rfl) rfl ?_
  refine R_aload_n rfl rfl ?_
  refine R_getfield rfl rfl (by omega) e0 rfl ?_
  refine R_ifle rfl ⟨by omega, by omega⟩ (fun c4 => ?_) (fun c4 => ?_)
  · exact absurd c4 (by omega)
  · refine R_aload_n rfl rfl ?_
    refine R_dup rfl rfl ?_
    refine R_getfield rfl rfl (by omega) e0 rfl ?_
    refine R_iconst rfl ?_
    refine R_isub rfl ?_
    refine R_putfield rfl rfl (by omega) e0 (Nat.le_of_ble_eq_true rfl) (by first | trivial | exact trivial | omega) ?_
    rw [show ((hist.length + 1 : Nat) : Int) - 1 = (hist.length : Int) by omega]
    refine R_aload_n rfl rfl ?_
    refine R_aload_n rfl rfl ?_
    refine R_getfield rfl rfl (by omega) (va_up_self _ _ _) rfl ?_
    refine R_vcall rfl rfl ⟨(by omega), _, (va_up_self _ _ _)⟩ ⟨Nat.le_of_ble_eq_true rfl, Nat.le_of_ble_eq_true rfl, Nat.zero_le _, Nat.zero_le _⟩ (at_T (n := hist.length) (i := hist.length) (va_up_self _ _ _) ((va_up_ne _ _ (by decide)).trans e1) hR ho (by omega) hN (aRes_i (rest := []) ?_))
    exact R_areturn rfl (Nat.zero_le _) (Nat.zero_le _) (hQ _ (mP o hist.length) (by
    refine ⟨o, u, R, S, ho, by omega, va_up_self _ _ _, (va_up_ne _ _ (by decide)).trans e1, hR, (va_up_ne _ _ (by decide)).trans e2, hSl, (va_up_ne _ _ (by decide)).trans e3, memS_fr (h := h) ?_ (fun j h1 h2 => va_up_ne _ _ (by omega))⟩
    obtain ⟨m1, m2, m3, m4⟩ := hm
    exact ⟨m1, m2, fun j G2 hj => m3 j G2 (by rw [List.getElem?_append_left (List.getElem?_eq_some_iff.mp hj).1]; exact hj), m4⟩) (isSt_fr hSG (fun j h1 h2 => va_up_ne _ _ (by omega))) hmp (fun j hj => va_up_ne _ _ (by omega)))
theorem forgetActions_T {d N : Nat} {h : AH} {hist : List Gr} {sl : Nat → Option Gr} {Q : AQ} (hM : isMem h hist sl) (hN : 116 ≤ N) (hQ : ∀ h', isMem h' [] sl → fr h h' 32 1 → Q (.inl none) h' N) : T (d + 1) 20 [vR 32] h N Q := by
  obtain ⟨o, u, R, S, ho, hl, e0, e1, hR, e2, hSl, e3, hm⟩ := id hM
  refine T_body (I := mi_X3_forgetActions) (lv := [_]) rfl (Nat.le_of_ble_eq_true rfl) rfl ?_
  refine R_aload_n rfl rfl ?_
  refine R_iconst rfl ?_
  refine R_putfield rfl rfl (by omega) e0 (Nat.le_of_ble_eq_true rfl) (by first | trivial | exact trivial | omega) ?_
  exact R_return rfl (Nat.zero_le _) (Nat.zero_le _) (hQ _ ⟨o, u, R, S, ho, Nat.zero_le _, va_up_self _ _ _, (va_up_ne _ _ (by decide)).trans e1, hR, (va_up_ne _ _ (by decide)).trans e2, hSl, (va_up_ne _ _ (by decide)).trans e3, memS_fr (h := h) ⟨hm.1, hm.2.1, fun j G2 hj => absurd hj (by rw [List.getElem?_nil]; exact fun q => by cases q), hm.2.2.2⟩ (fun j h1 h2 => va_up_ne _ _ (by omega))⟩ (fun j hj => va_up_ne _ _ (by omega)))
theorem emptySlots_T {d N : Nat} {h : AH} {hist : List Gr} {sl : Nat → Option Gr} {Q : AQ} (hM : isMem h hist sl) (hN : 116 ≤ N) (hQ : ∀ h', isMem h' hist (fun _ => none) → fr h h' 32 84 → Q (.inl none) h' N) : T (d + 1) 25 [vR 32] h N Q := by
  obtain ⟨o, u, R, S, ho, hl, e0, e1, hR, e2, hSl, e3, hm⟩ := id hM
  refine T_body (I := mi_X3_emptySlots) (lv := [_, _]) rfl (Nat.le_of_ble_eq_true rfl) rfl ?_
  refine R_iconst rfl ?_
  refine R_istore_n (lv' := [_, _]) rfl rfl ?_
  refine R_iload_n rfl rfl ?_
  refine R_iconst rfl ?_
  refine R_icmpge rfl ⟨by decide, by decide⟩ ⟨by decide, by decide⟩ (fun c0 => absurd c0 (by decide)) (fun _ => ?_)
  refine R_aload_n rfl rfl ?_
  refine R_getfield rfl rfl (by omega) e0 rfl ?_
  refine R_iload_n rfl rfl ?_
  refine R_iconst rfl ?_
  refine R_bastore rfl (by omega) (by first | exact Or.inl rfl | exact Or.inr rfl | omega) e3 ⟨by omega, by omega, by omega⟩ ?_
  refine R_iinc (lv' := [_, _]) rfl rfl rfl ?_
  refine R_goto rfl ?_
  refine R_iload_n rfl rfl ?_
  refine R_iconst rfl ?_
  refine R_icmpge rfl ⟨by decide, by decide⟩ ⟨by decide, by decide⟩ (fun c0 => absurd c0 (by decide)) (fun _ => ?_)
  refine R_aload_n rfl rfl ?_
  refine R_getfield rfl rfl (by omega) ((va_up_ne _ _ (by first | exact kne rfl | exact kz | exact kz.symm | omega)).trans e0) rfl ?_
  refine R_iload_n rfl rfl ?_
  refine R_iconst rfl ?_
  refine R_bastore rfl (by omega) (by first | exact Or.inl rfl | exact Or.inr rfl | omega) (va_up_self _ _ _) ⟨by omega, by omega, by omega⟩ ?_
  refine R_iinc (lv' := [_, _]) rfl rfl rfl ?_
  refine R_goto rfl ?_
  refine R_iload_n rfl rfl ?_
  refine R_iconst rfl ?_
  refine R_icmpge rfl ⟨by decide, by decide⟩ ⟨by decide, by decide⟩ (fun _ => ?_) (fun c0 => absurd c0 (by decide))
  exact R_return rfl (Nat.zero_le _) (Nat.zero_le _) (hQ _ ⟨o, _, R, S, ho, hl, (va_up_ne _ _ (by decide)).trans ((va_up_ne _ _ (by decide)).trans e0), (va_up_ne _ _ (by decide)).trans ((va_up_ne _ _ (by decide)).trans e1), hR, (va_up_ne _ _ (by decide)).trans ((va_up_ne _ _ (by decide)).trans e2), hSl, va_up_self _ _ _, memS_fr (h := h) ⟨hm.1, hm.2.1, hm.2.2.1, fun i hi => Or.inl ⟨rfl, (by
    rcases (show i = 0 ∨ i = 1 by omega) with q | q
    · rw [q]
      exact (va_up_ne _ _ (by decide)).trans (va_up_self _ _ _)
    · rw [q]
      exact va_up_self _ _ _)⟩⟩ (fun j h1 h2 => (va_up_ne _ _ (by omega)).trans (va_up_ne _ _ (by omega)))⟩ (fun j hj => (va_up_ne _ _ (by omega)).trans (va_up_ne _ _ (by omega))))
