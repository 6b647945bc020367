/-! ===== the state: more ===== -/
def newG (r c : Nat) : Gr := (r, c, fun _ => 0, fun _ => false, fun _ => false, 0, fun _ => 0, fun _ _ => 0, 0, fun _ => 0)
def lenW (G : Gr) (z : Int) : Gr := (qR G, qC G, qL G, qE G, qS G, qW G, va_up (qWn G) (qW G - 1) (qWn G (qW G - 1) + 1), fun w i => if w = qW G - 1 ∧ i = qWn G (qW G - 1) then z else qWl G w i, qN G, qNl G)
def lenN (G : Gr) (z : Int) : Gr := (qR G, qC G, qL G, qE G, qS G, qW G, qWn G, qWl G, qN G + 1, va_up (qNl G) (qN G) z)
def noN (G : Gr) : Gr := (qR G, qC G, qL G, qE G, qS G, qW G, qWn G, qWl G, 0, qNl G)
def wkG (G : Gr) : Prop := (2 ≤ qR G ∧ qR G ≤ 6) ∧ (2 ≤ qC G ∧ qC G ≤ 6) ∧ qW G ≤ 8 ∧ (∀ w, w < qW G → qWn G w ≤ 6) ∧ qN G ≤ 6
theorem okG.wk {G : Gr} (h : okG G) : wkG G := ⟨h.1, h.2.1, h.2.2.2.2.1, fun w hw => (h.2.2.2.2.2.1 w hw).2, h.2.2.2.2.2.2.2.1⟩
theorem ok_newG {r c : Nat} (hr : 2 ≤ r ∧ r ≤ 6) (hc : 2 ≤ c ∧ c ≤ 6) : okG (newG r c) := by
  refine ⟨hr, hc, fun _ _ => Or.inl rfl, fun b c h => ?_, Nat.zero_le _, fun w hw => absurd hw (Nat.not_lt_zero _), fun w i hw => absurd hw (Nat.not_lt_zero _), Nat.zero_le _, fun i hi => absurd hi (Nat.not_lt_zero _)⟩
  cases b <;> exact absurd h (by show ¬ false = true; decide)
theorem bits_zero : isBits (Int64.ofNat (0 : Fin 2)) (fun _ => false) := fun j hj => all64 (P := fun j => (Int64.ofNat ((0 : Fin 2) : Nat)).toBitVec.getLsbD j = false) (by decide +kernel) hj
theorem hasWord_W {d k N : Nat} {h : AH} {G : Gr} {Q : AQ} (hS : isSt h k G) (hG : wkG G) (hN : k + 5 ≤ N) {c : Int} (hc : inR c) (hQ : ∀ z : Int, (z = 1 ∧ 0 ≤ c ∧ c < qW G) ∨ (z = 0 ∧ ¬ (0 ≤ c ∧ c < qW G)) → Q (.inl (some (vI z))) h N) : T (d + 1) 69 [vR k, vI c] h N Q := by
  obtain ⟨rb, bb, L, WL, WT, LN, e0, e1, e2, e3, e4, hrb, hbb, hL, hWL, hWT, hLN⟩ := id hS
  obtain ⟨⟨hr2, hr6⟩, ⟨hc2, hc6⟩, gW, gWn, gN⟩ := id hG
  obtain ⟨hc1, hcx⟩ := id hc
  refine T_body (I := mi_X6_hasWord) (lv := [_, _]) rfl (Nat.le_of_ble_eq_true rfl) rfl ?_
  refine R_iload_n rfl rfl ?_
  refine R_iflt rfl ⟨by omega, by omega⟩ (fun c1 => ?_) (fun c1 => ?_)
  · refine R_iconst rfl ?_
    exact R_ireturn rfl (fun _ => by omega) (Nat.zero_le _) (Nat.zero_le _) (hQ _ (by omega))
  · refine R_iload_n rfl rfl ?_
    refine R_aload_n rfl rfl ?_
    refine R_getfield rfl rfl (by omega) e0 rfl ?_
    refine R_icmpge rfl ⟨by omega, by omega⟩ ⟨by omega, by omega⟩ (fun c9 => ?_) (fun c9 => ?_)
    · refine R_iconst rfl ?_
      exact R_ireturn rfl (fun _ => by omega) (Nat.zero_le _) (Nat.zero_le _) (hQ _ (by omega))
    · refine R_iload_n rfl rfl ?_
      refine R_bipush rfl ?_
      refine R_icmpge rfl ⟨by omega, by omega⟩ ⟨by decide, by decide⟩ (fun c15 => ?_) (fun c15 => ?_)
      · refine R_iconst rfl ?_
        exact R_ireturn rfl (fun _ => by omega) (Nat.zero_le _) (Nat.zero_le _) (hQ _ (by omega))
      · refine R_iconst rfl ?_
        refine R_goto rfl ?_
        exact R_ireturn rfl (fun _ => by omega) (Nat.zero_le _) (Nat.zero_le _) (hQ _ (by omega))
theorem lengthOfWord_W {d k N : Nat} {h : AH} {G : Gr} {Q : AQ} (hS : isSt h k G) (hG : wkG G) (hN : k + 5 ≤ N) {c : Int} (hc : inR c) (hQ : ∀ z : Int, (0 ≤ c ∧ c < qW G ∧ z = qWn G c.toNat) ∨ (¬ (0 ≤ c ∧ c < qW G) ∧ z = 0) → Q (.inl (some (vI z))) h N) : T (d + 2) 70 [vR k, vI c] h N Q := by
  obtain ⟨rb, bb, L, WL, WT, LN, e0, e1, e2, e3, e4, hrb, hbb, hL, hWL, hWT, hLN⟩ := id hS
  obtain ⟨⟨hr2, hr6⟩, ⟨hc2, hc6⟩, gW, gWn, gN⟩ := id hG
  obtain ⟨hc1, hcx⟩ := id hc
  refine T_body (I := mi_X6_lengthOfWord) (lv := [_, _]) rfl (Nat.le_of_ble_eq_true rfl) rfl ?_
  refine R_aload_n rfl rfl ?_
  refine R_iload_n rfl rfl ?_
  refine R_vcall rfl rfl ⟨(by omega), _, e0⟩ ⟨Nat.le_of_ble_eq_true rfl, Nat.le_of_ble_eq_true rfl, Nat.zero_le _, Nat.zero_le _⟩ (hasWord_W hS hG hN ⟨by omega, by omega⟩ (fun z2 hz2 => aRes_i (rest := []) ?_))
  refine R_ifeq rfl ⟨by omega, by omega⟩ (fun c5 => ?_) (fun c5 => ?_)
  · refine R_iconst rfl ?_
    exact R_ireturn rfl (fun q => absurd q (by decide)) (Nat.zero_le _) (Nat.zero_le _) (hQ _ (by omega))
  · refine R_aload_n rfl rfl ?_
    refine R_getfield rfl rfl (by omega) e0 rfl ?_
    refine R_iload_n rfl rfl ?_
    refine R_iaload rfl (Or.inl (by omega)) e2 ⟨by omega, by omega, by omega⟩ ?_
    refine R_goto rfl ?_
    exact R_ireturn rfl (fun q => absurd q (by decide)) (Nat.zero_le _) (Nat.zero_le _) (hQ _ (Or.inl ⟨by omega, by omega, hWL _ (by omega)⟩))
theorem begin_T {d k N r c0 : Nat} {h : AH} {G : Gr} {Q : AQ} (hS : isSt h k G) (hN : k + 5 ≤ N) (hr : 2 ≤ r ∧ r ≤ 6) (hc0 : 2 ≤ c0 ∧ c0 ≤ 6) (hQ : ∀ h', isSt h' k (newG r c0) → fr h h' k 5 → Q (.inl none) h' N) : T (d + 2) 56 [vR k, vI r, vI c0] h N Q := by
  obtain ⟨rb, bb, L, WL, WT, LN, e0, e1, e2, e3, e4, hrb, hbb, hL, hWL, hWT, hLN⟩ := id hS
  have h36 : ∀ c, c < r * c0 → c < 36 := fun c hc => by
    have q : r * c0 ≤ 6 * 6 := Nat.mul_le_mul hr.2 hc0.2
    omega
  refine T_body (I := mi_X6_begin) (lv := [_, _, _]) rfl (Nat.le_of_ble_eq_true rfl) rfl ?_
  refine R_aload_n rfl rfl ?_
  refine R_iload_n rfl rfl ?_
  refine R_putfield rfl rfl (by omega) e0 (Nat.le_of_ble_eq_true rfl) (by first | trivial | exact trivial | omega) ?_
  refine R_aload_n rfl rfl ?_
  refine R_iload_n rfl rfl ?_
  refine R_putfield rfl rfl (by omega) (va_up_self _ _ _) (Nat.le_of_ble_eq_true rfl) (by first | trivial | exact trivial | omega) ?_
  refine R_aload_n rfl rfl ?_
  refine R_iconst rfl ?_
  refine R_putfield rfl rfl (by omega) (va_up_self _ _ _) (Nat.le_of_ble_eq_true rfl) (by first | trivial | exact trivial | omega) ?_
  refine R_aload_n rfl rfl ?_
  refine R_iconst rfl ?_
  refine R_putfield rfl rfl (by omega) (va_up_self _ _ _) (Nat.le_of_ble_eq_true rfl) (by first | trivial | exact trivial | omega) ?_
  refine R_aload_n rfl rfl ?_
  refine R_lconst rfl ?_
  refine R_putfield rfl rfl (by omega) (va_up_self _ _ _) (Nat.le_of_ble_eq_true rfl) (by first | trivial | exact trivial | omega) ?_
  refine R_aload_n rfl rfl ?_
  refine R_lconst rfl ?_
  refine R_putfield rfl rfl (by omega) (va_up_self _ _ _) (Nat.le_of_ble_eq_true rfl) (by first | trivial | exact trivial | omega) ?_
  refine R_aload_n rfl rfl ?_
  refine R_getfield rfl rfl (by omega) (va_up_self _ _ _) rfl ?_
  refine R_iconst rfl ?_
  refine R_scall rfl rfl ⟨Nat.le_of_ble_eq_true rfl, Nat.le_of_ble_eq_true rfl, Nat.zero_le _, Nat.zero_le _⟩ (fill_T (m := 36) (by omega) (by decide) (((va_up_ne _ _ (by first | exact kne rfl | exact kz | exact kz.symm | omega)).trans ((va_up_ne _ _ (by first | exact kne rfl | exact kz | exact kz.symm | omega)).trans ((va_up_ne _ _ (by first | exact kne rfl | exact kz | exact kz.symm | omega)).trans ((va_up_ne _ _ (by first | exact kne rfl | exact kz | exact kz.symm | omega)).trans ((va_up_ne _ _ (by first | exact kne rfl | exact kz | exact kz.symm | omega)).trans ((va_up_ne _ _ (by first | exact kne rfl | exact kz | exact kz.symm | omega)).trans e1))))))) (fun h1 f1 w1 v1 o1 => aRes_v (rest := []) ?_))
  exact R_return rfl (Nat.zero_le _) (Nat.zero_le _) (hQ h1 ⟨_, _, f1, WL, WT, LN, (o1 _ (by omega)).trans (va_up_self _ _ _), w1, ((o1 _ (by omega)).trans ((va_up_ne _ _ (by omega)).trans ((va_up_ne _ _ (by omega)).trans ((va_up_ne _ _ (by omega)).trans ((va_up_ne _ _ (by omega)).trans ((va_up_ne _ _ (by omega)).trans ((va_up_ne _ _ (by omega)).trans (e2)))))))), ((o1 _ (by omega)).trans ((va_up_ne _ _ (by omega)).trans ((va_up_ne _ _ (by omega)).trans ((va_up_ne _ _ (by omega)).trans ((va_up_ne _ _ (by omega)).trans ((va_up_ne _ _ (by omega)).trans ((va_up_ne _ _ (by omega)).trans (e3)))))))), ((o1 _ (by omega)).trans ((va_up_ne _ _ (by omega)).trans ((va_up_ne _ _ (by omega)).trans ((va_up_ne _ _ (by omega)).trans ((va_up_ne _ _ (by omega)).trans ((va_up_ne _ _ (by omega)).trans ((va_up_ne _ _ (by omega)).trans (e4)))))))), bits_zero, bits_zero, fun c hc => v1 c (h36 c hc), fun w hw => absurd hw (Nat.not_lt_zero _), fun w i hw => absurd hw (Nat.not_lt_zero _), fun i hi => absurd hi (Nat.not_lt_zero _)⟩ (fun j hj => (o1 _ (by omega)).trans ((va_up_ne _ _ (by omega)).trans ((va_up_ne _ _ (by omega)).trans ((va_up_ne _ _ (by omega)).trans ((va_up_ne _ _ (by omega)).trans ((va_up_ne _ _ (by omega)).trans ((va_up_ne _ _ (by omega)).trans (rfl)))))))))
theorem beginWord_T {d k N : Nat} {h : AH} {G : Gr} {Q : AQ} (hS : isSt h k G) (hG : wkG G) (hN : k + 5 ≤ N) (hw : qW G < 8) (hQ : ∀ h', isSt h' k (begW G) → fr h h' k 5 → Q (.inl none) h' N) : T (d + 1) 72 [vR k] h N Q := by
  obtain ⟨rb, bb, L, WL, WT, LN, e0, e1, e2, e3, e4, hrb, hbb, hL, hWL, hWT, hLN⟩ := id hS
  obtain ⟨⟨hr2, hr6⟩, ⟨hc2, hc6⟩, gW, gWn, gN⟩ := id hG
  refine T_body (I := mi_X6_beginWord) (lv := [_]) rfl (Nat.le_of_ble_eq_true rfl) rfl ?_
  refine R_aload_n rfl rfl ?_
  refine R_getfield rfl rfl (by omega) e0 rfl ?_
  refine R_iflt rfl ⟨by omega, by omega⟩ (fun c4 => ?_) (fun c4 => ?_)
  · exact absurd c4 (by omega)
  · refine R_aload_n rfl rfl ?_
    refine R_getfield rfl rfl (by omega) e0 rfl ?_
    refine R_bipush rfl ?_
    refine R_icmpge rfl ⟨by omega, by omega⟩ ⟨by decide, by decide⟩ (fun c13 => ?_) (fun c13 => ?_)
    · exact absurd c13 (by omega)
    · refine R_aload_n rfl rfl ?_
      refine R_getfield rfl rfl (by omega) e0 rfl ?_
      refine R_aload_n rfl rfl ?_
      refine R_getfield rfl rfl (by omega) e0 rfl ?_
      refine R_iconst rfl ?_
      refine R_iastore rfl (by omega) e2 ⟨by omega, by omega, by omega⟩ ?_
      refine R_aload_n rfl rfl ?_
      refine R_dup rfl rfl ?_
      refine R_getfield rfl rfl (by omega) ((va_up_ne _ _ (by first | exact kne rfl | exact kz | exact kz.symm | omega)).trans e0) rfl ?_
      refine R_iconst rfl ?_
      refine R_iadd rfl ?_
      refine R_putfield rfl rfl (by omega) ((va_up_ne _ _ (by first | exact kne rfl | exact kz | exact kz.symm | omega)).trans e0) (Nat.le_of_ble_eq_true rfl) (by first | trivial | exact trivial | omega) ?_
      exact R_return rfl (Nat.zero_le _) (Nat.zero_le _) (hQ _ ⟨rb, bb, L, va_up WL (qW G) 0, WT, LN, va_up_self _ _ _, (va_up_ne _ _ (by omega)).trans ((va_up_ne _ _ (by omega)).trans (e1)), (va_up_ne _ _ (by omega)).trans (va_up_self _ _ _), (va_up_ne _ _ (by omega)).trans ((va_up_ne _ _ (by omega)).trans (e3)), (va_up_ne _ _ (by omega)).trans ((va_up_ne _ _ (by omega)).trans (e4)), hrb, hbb, hL, fun w hw => (by
      show va_up WL (qW G) 0 w = ((va_up (qWn G) (qW G) 0 w : Nat) : Int)
      by_cases q : w = qW G
      · rw [q, va_up_self, va_up_self]; rfl
      · rw [va_up_ne _ _ q, va_up_ne _ _ q]
        exact hWL w (by have hw : w < qW G + 1 := hw; omega)), fun w i hw hi => (by
      have hi : i < va_up (qWn G) (qW G) 0 w := hi
      by_cases q : w = qW G
      · rw [q, va_up_self] at hi
        omega
      · rw [va_up_ne _ _ q] at hi
        exact hWT w i (by have hw : w < qW G + 1 := hw; omega) hi), hLN⟩ (fun j hj => (va_up_ne _ _ (by omega)).trans (va_up_ne _ _ (by omega))))
theorem lengthenWord_T {d k N : Nat} {h : AH} {G : Gr} {Q : AQ} (hS : isSt h k G) (hG : wkG G) (hN : k + 5 ≤ N) {W n : Nat} {z : Int} (hW : qW G = W + 1) (hn : qWn G W = n) (hn6 : n < 6) (hQ : ∀ h', isSt h' k (lenW G z) → fr h h' k 5 → Q (.inl none) h' N) : T (d + 3) 73 [vR k, vI z] h N Q := by
  obtain ⟨rb, bb, L, WL, WT, LN, e0, e1, e2, e3, e4, hrb, hbb, hL, hWL, hWT, hLN⟩ := id hS
  obtain ⟨⟨hr2, hr6⟩, ⟨hc2, hc6⟩, gW, gWn, gN⟩ := id hG
  refine T_body (I := mi_X6_lengthenWord) (lv := [_, _, _, _]) rfl (Nat.le_of_ble_eq_true rfl) rfl ?_
  refine R_aload_n rfl rfl ?_
  refine R_getfield rfl rfl (by omega) e0 rfl ?_
  refine R_iconst rfl ?_
  refine R_isub rfl ?_
  refine R_istore_n (lv' := [_, _, _, _]) rfl rfl ?_
  refine R_aload_n rfl rfl ?_
  refine R_iload_n rfl rfl ?_
  refine R_vcall rfl rfl ⟨(by omega), _, e0⟩ ⟨Nat.le_of_ble_eq_true rfl, Nat.le_of_ble_eq_true rfl, Nat.zero_le _, Nat.zero_le _⟩ (lengthOfWord_W hS hG hN ⟨by omega, by omega⟩ (fun z9 hz9 => aRes_i (rest := []) ?_))
  have hzn : z9 = (n : Nat) := by
    rcases hz9 with ⟨-, -, q⟩ | ⟨q, -⟩
    · rw [q, show ((qW G : Int) - 1).toNat = W by omega, hn]
    · exact absurd (by omega) q
  refine R_istore_n (lv' := [_, _, _, _]) rfl rfl ?_
  refine R_aload_n rfl rfl ?_
  refine R_iload_n rfl rfl ?_
  refine R_vcall rfl rfl ⟨(by omega), _, e0⟩ ⟨Nat.le_of_ble_eq_true rfl, Nat.le_of_ble_eq_true rfl, Nat.zero_le _, Nat.zero_le _⟩ (hasWord_W hS hG hN ⟨by omega, by omega⟩ (fun z15 hz15 => aRes_i (rest := []) ?_))
  refine R_ifeq rfl ⟨by omega, by omega⟩ (fun c18 => ?_) (fun c18 => ?_)
  · exact absurd c18 (by omega)
  · refine R_iload_n rfl rfl ?_
    refine R_iflt rfl ⟨by omega, by omega⟩ (fun c22 => ?_) (fun c22 => ?_)
    · exact absurd c22 (by omega)
    · refine R_iload_n rfl rfl ?_
      refine R_bipush rfl ?_
      refine R_icmpge rfl ⟨by omega, by omega⟩ ⟨by decide, by decide⟩ (fun c28 => ?_) (fun c28 => ?_)
      · exact absurd c28 (by omega)
      · refine R_aload_n rfl rfl ?_
        refine R_getfield rfl rfl (by omega) e0 rfl ?_
        refine R_iload_n rfl rfl ?_
        refine R_bipush rfl ?_
        refine R_imul rfl ?_
        refine R_iload_n rfl rfl ?_
        refine R_iadd rfl ?_
        refine R_iload_n rfl rfl ?_
        refine R_iastore rfl (by omega) e3 ⟨by omega, by omega, by omega⟩ ?_
        refine R_aload_n rfl rfl ?_
        refine R_getfield rfl rfl (by omega) ((va_up_ne _ _ (by first | exact kne rfl | exact kz | exact kz.symm | omega)).trans e0) rfl ?_
        refine R_iload_n rfl rfl ?_
        refine R_iload_n rfl rfl ?_
        refine R_iconst rfl ?_
        refine R_iadd rfl ?_
        refine R_iastore rfl (by omega) ((va_up_ne _ _ (by first | exact kne rfl | exact kz | exact kz.symm | omega)).trans e2) ⟨by omega, by omega, by omega⟩ ?_
        exact R_return rfl (Nat.zero_le _) (Nat.zero_le _) (hQ _ ⟨rb, bb, L, va_up WL ((qW G : Int) - 1).toNat (z9 + 1), va_up WT (((qW G : Int) - 1) * 6 + z9).toNat z, LN, (va_up_ne _ _ (by omega)).trans ((va_up_ne _ _ (by omega)).trans (e0)), (va_up_ne _ _ (by omega)).trans ((va_up_ne _ _ (by omega)).trans (e1)), va_up_self _ _ _, (va_up_ne _ _ (by omega)).trans (va_up_self _ _ _), (va_up_ne _ _ (by omega)).trans ((va_up_ne _ _ (by omega)).trans (e4)), hrb, hbb, hL, fun w hw => (by
      show va_up WL _ _ w = ((va_up (qWn G) (qW G - 1) (qWn G (qW G - 1) + 1) w : Nat) : Int)
      rw [show ((qW G : Int) - 1).toNat = W by omega, show qW G - 1 = W by omega]
      by_cases q : w = W
      · rw [q, va_up_self, va_up_self, hzn, hn]
        rfl
      · rw [va_up_ne _ _ q, va_up_ne _ _ q]
        exact hWL w hw), fun w i hw hi => (by
      have hi : i < va_up (qWn G) (qW G - 1) (qWn G (qW G - 1) + 1) w := hi
      have hw : w < qW G := hw
      show va_up WT _ _ _ = if w = qW G - 1 ∧ i = qWn G (qW G - 1) then z else qWl G w i
      rw [show qW G - 1 = W by omega, hn] at hi ⊢
      rw [show (((qW G : Int) - 1) * 6 + z9).toNat = W * 6 + n by omega]
      have hw6 := gWn w hw
      by_cases q : w = W
      · rw [q, va_up_self] at hi
        by_cases q2 : i = n
        · rw [q, q2, va_up_self, if_pos ⟨rfl, rfl⟩]
        · rw [if_neg (fun u => q2 u.2), va_up_ne _ _ (by omega)]
          exact hWT w i hw (by rw [q, hn]; omega)
      · rw [va_up_ne _ _ q] at hi
        rw [if_neg (fun u => q u.1), va_up_ne _ _ (by omega)]
        exact hWT w i hw hi), hLN⟩ (fun j hj => (va_up_ne _ _ (by omega)).trans (va_up_ne _ _ (by omega))))
theorem lengthenLine_T {d k N : Nat} {h : AH} {G : Gr} {Q : AQ} (hS : isSt h k G) (hG : wkG G) (hN : k + 5 ≤ N) {z : Int} (hw : qN G < 6) (hQ : ∀ h', isSt h' k (lenN G z) → fr h h' k 5 → Q (.inl none) h' N) : T (d + 1) 75 [vR k, vI z] h N Q := by
  obtain ⟨rb, bb, L, WL, WT, LN, e0, e1, e2, e3, e4, hrb, hbb, hL, hWL, hWT, hLN⟩ := id hS
  obtain ⟨⟨hr2, hr6⟩, ⟨hc2, hc6⟩, gW, gWn, gN⟩ := id hG
  refine T_body (I := mi_X6_lengthenLine) (lv := [_, _]) rfl (Nat.le_of_ble_eq_true rfl) rfl ?_
  refine R_aload_n rfl rfl ?_
  refine R_getfield rfl rfl (by omega) e0 rfl ?_
  refine R_iflt rfl ⟨by omega, by omega⟩ (fun c4 => ?_) (fun c4 => ?_)
  · exact absurd c4 (by omega)
  · refine R_aload_n rfl rfl ?_
    refine R_getfield rfl rfl (by omega) e0 rfl ?_
    refine R_bipush rfl ?_
    refine R_icmpge rfl ⟨by omega, by omega⟩ ⟨by decide, by decide⟩ (fun c13 => ?_) (fun c13 => ?_)
    · exact absurd c13 (by omega)
    · refine R_aload_n rfl rfl ?_
      refine R_getfield rfl rfl (by omega) e0 rfl ?_
      refine R_aload_n rfl rfl ?_
      refine R_getfield rfl rfl (by omega) e0 rfl ?_
      refine R_iload_n rfl rfl ?_
      refine R_iastore rfl (by omega) e4 ⟨by omega, by omega, by omega⟩ ?_
      refine R_aload_n rfl rfl ?_
      refine R_dup rfl rfl ?_
      refine R_getfield rfl rfl (by omega) ((va_up_ne _ _ (by first | exact kne rfl | exact kz | exact kz.symm | omega)).trans e0) rfl ?_
      refine R_iconst rfl ?_
      refine R_iadd rfl ?_
      refine R_putfield rfl rfl (by omega) ((va_up_ne _ _ (by first | exact kne rfl | exact kz | exact kz.symm | omega)).trans e0) (Nat.le_of_ble_eq_true rfl) (by first | trivial | exact trivial | omega) ?_
      exact R_return rfl (Nat.zero_le _) (Nat.zero_le _) (hQ _ ⟨rb, bb, L, WL, WT, va_up LN (qN G) z, va_up_self _ _ _, (va_up_ne _ _ (by omega)).trans ((va_up_ne _ _ (by omega)).trans (e1)), (va_up_ne _ _ (by omega)).trans ((va_up_ne _ _ (by omega)).trans (e2)), (va_up_ne _ _ (by omega)).trans ((va_up_ne _ _ (by omega)).trans (e3)), (va_up_ne _ _ (by omega)).trans (va_up_self _ _ _), hrb, hbb, hL, hWL, hWT, fun i hi => (by
      show va_up LN (qN G) z i = va_up (qNl G) (qN G) z i
      by_cases q : i = qN G
      · rw [q, va_up_self, va_up_self]
      · rw [va_up_ne _ _ q, va_up_ne _ _ q]
        exact hLN i (by have hi : i < qN G + 1 := hi; omega))⟩ (fun j hj => (va_up_ne _ _ (by omega)).trans (va_up_ne _ _ (by omega))))
theorem emc_loop {d k N : Nat} {h : AH} {G : Gr} {Q : AQ} (hS : isSt h k G) (hG : okG G) (hN : k + 5 ≤ N) : ∀ (r i a : Nat), i + r = qM G → a ≤ i → (∀ z : Int, z = ((a + ctF (fun x => decide (qL G x = 0)) r i : Nat) : Int) → Q (.inl (some (vI z))) h N) → Run mi_X6_emptyCells (T (d + 2)) Q 4 [some (vR k), some (vI a), some (vI i)] [] h N 0 0 := by
  obtain ⟨rb, bb, L, WL, WT, LN, e0, e1, e2, e3, e4, hrb, hbb, hL, hWL, hWT, hLN⟩ := id hS
  obtain ⟨hm4, hm36⟩ := hG.m
  have hmi := qM_int G
  obtain ⟨⟨hr2, hr6⟩, ⟨hc2, hc6⟩, gL, gB, gW, gWn, gWl, gN, gNl⟩ := id hG
  intro r
  induction r using Nat.strongRecOn with
  | ind r ih =>
  intro i a hr hai hQ
  refine R_iload_n rfl rfl ?_
  refine R_aload_n rfl rfl ?_
  refine R_getfield rfl rfl (by omega) e0 rfl ?_
  refine R_aload_n rfl rfl ?_
  refine R_getfield rfl rfl (by omega) e0 rfl ?_
  refine R_imul rfl ?_
  refine R_icmpge rfl ⟨by omega, by omega⟩ ⟨by omega, by omega⟩ (fun c14 => ?_) (fun c14 => ?_)
  · have hr0 : r = 0 := by omega
    subst hr0
    refine R_iload_n rfl rfl ?_
    exact R_ireturn rfl (fun q => absurd q (by decide)) (Nat.zero_le _) (Nat.zero_le _) (hQ _ rfl)
  · obtain ⟨r, rfl⟩ : ∃ r1, r = r1 + 1 := ⟨r - 1, by omega⟩
    refine R_aload_n rfl rfl ?_
    refine R_iload_n rfl rfl ?_
    refine R_vcall rfl rfl ⟨(by omega), _, e0⟩ ⟨Nat.le_of_ble_eq_true rfl, Nat.le_of_ble_eq_true rfl, Nat.zero_le _, Nat.zero_le _⟩ (letterAt_T hS hG hN ⟨by omega, by omega⟩ (fun z19 hz19 => aRes_i (rest := []) ?_))
    have hl19 : z19 = qL G i := by
      rcases hz19 with ⟨-, -, q⟩ | ⟨q, -⟩
      · exact q
      · exact absurd (by omega) q
    have hlr19 : 0 ≤ z19 ∧ z19 ≤ 122 := by
      rcases hG.2.2.1 i (by omega) with q | q
      · omega
      · obtain ⟨q1, q2⟩ := q
        omega
    refine R_ifne rfl ⟨by omega, by omega⟩ (fun c22 => ?_) (fun c22 => ?_)
    · have hp : (fun x => decide (qL G x = 0)) i = false := decide_eq_false (by omega)
      refine R_iinc (lv' := [_, _, _]) rfl rfl rfl ?_
      refine R_goto rfl ?_
      first | exact ih r (by omega) (i + 1) (a + 1) (by omega) (by omega) (fun z hz => hQ z (hz.trans (congrArg Nat.cast (ct_hit (p := (fun x => decide (qL G x = 0))) hp)))) | exact ih r (by omega) (i + 1) a (by omega) (by omega) (fun z hz => hQ z (hz.trans (congrArg Nat.cast (ct_skip (p := (fun x => decide (qL G x = 0))) hp))))
    · have hp : (fun x => decide (qL G x = 0)) i = true := decide_eq_true (by omega)
      refine R_iinc (lv' := [_, _, _]) rfl rfl rfl ?_
      refine R_iinc (lv' := [_, _, _]) rfl rfl rfl ?_
      refine R_goto rfl ?_
      first | exact ih r (by omega) (i + 1) (a + 1) (by omega) (by omega) (fun z hz => hQ z (hz.trans (congrArg Nat.cast (ct_hit (p := (fun x => decide (qL G x = 0))) hp)))) | exact ih r (by omega) (i + 1) a (by omega) (by omega) (fun z hz => hQ z (hz.trans (congrArg Nat.cast (ct_skip (p := (fun x => decide (qL G x = 0))) hp))))
def ecG (G : Gr) : Nat := ctF (fun x => decide (qL G x = 0)) (qM G) 0
theorem emptyCells_T {d k N : Nat} {h : AH} {G : Gr} {Q : AQ} (hS : isSt h k G) (hG : okG G) (hN : k + 5 ≤ N) (hQ : ∀ z : Int, z = (ecG G : Nat) → Q (.inl (some (vI z))) h N) : T (d + 3) 63 [vR k] h N Q := by
  obtain ⟨rb, bb, L, WL, WT, LN, e0, e1, e2, e3, e4, hrb, hbb, hL, hWL, hWT, hLN⟩ := id hS
  obtain ⟨hm4, hm36⟩ := hG.m
  have hmi := qM_int G
  obtain ⟨⟨hr2, hr6⟩, ⟨hc2, hc6⟩, gL, gB, gW, gWn, gWl, gN, gNl⟩ := id hG
  refine T_body (I := mi_X6_emptyCells) (lv := [_, _, _]) rfl (Nat.le_of_ble_eq_true rfl) rfl ?_
  refine R_iconst rfl ?_
  refine R_istore_n (lv' := [_, _, _]) rfl rfl ?_
  refine R_iconst rfl ?_
  refine R_istore_n (lv' := [_, _, _]) rfl rfl ?_
  exact emc_loop hS hG hN (qM G) 0 0 (Nat.zero_add _) (Nat.le_refl _) (fun z hz => hQ z (hz.trans (congrArg Nat.cast (Nat.zero_add _))))
