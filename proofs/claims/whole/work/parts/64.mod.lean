/-! ===== the model: findEntries ===== -/
/-- a picture of the entries' arrays, whatever they hold -/
def isMx (h : AH) (G : Gr) (th tl rm E : Int) (F D L A W C : Nat → Int) : Prop := isM0 h G th tl rm E ∧ h 130 = eI 36 F ∧ h 131 = eI 36 D ∧ h 132 = eI 36 L ∧ h 133 = eI 36 A ∧ h 134 = eI 36 W ∧ h 135 = eI 36 C
/-- nothing but the grid's places is changed -/
def frG (h h' : AH) : Prop := ∀ j, ¬ (j = 122 ∨ j = 124 ∨ (130 ≤ j ∧ j ≤ 135)) → h' j = h j
theorem frG.refl {h : AH} : frG h h := fun _ _ => rfl
theorem frG.trans {h h' h'' : AH} (h1 : frG h h') (h2 : frG h' h'') : frG h h'' := fun j hj => (h2 j hj).trans (h1 j hj)
theorem frG_up {h h' : AH} {i : Nat} {v : AE} (h1 : frG h h') (hi : i = 122 ∨ i = 124 ∨ (130 ≤ i ∧ i ≤ 135)) : frG h (va_up h' i v) := fun j hj => (va_up_ne _ _ (by omega)).trans (h1 j hj)
theorem isM0_E {h : AH} {G : Gr} {th tl rm E : Int} (hZ : isM0 h G th tl rm E) {th' tl' rm' E' : Int} : isM0 (va_up h 122 (moO th' tl' rm' E')) G th' tl' rm' E' := by
  obtain ⟨S, m0, m3, hR⟩ := hZ
  exact ⟨S, va_up_self _ _ _, (va_up_ne _ _ (by decide)).trans m3, hR⟩
theorem isMx_F {h : AH} {G : Gr} {th tl rm E : Int} {F D L A W C : Nat → Int} (hX : isMx h G th tl rm E F D L A W C) {X : Nat → Int} : isMx (va_up h 130 (eI 36 X)) G th tl rm E X D L A W C := by
  obtain ⟨hZ, m11, m12, m13, m14, m15, m16⟩ := hX
  exact ⟨isM0_fr hZ (va_up_ne _ _ (by decide)) (va_up_ne _ _ (by decide)), va_up_self _ _ _, (va_up_ne _ _ (by decide)).trans m12, (va_up_ne _ _ (by decide)).trans m13, (va_up_ne _ _ (by decide)).trans m14, (va_up_ne _ _ (by decide)).trans m15, (va_up_ne _ _ (by decide)).trans m16⟩
theorem isMx_D {h : AH} {G : Gr} {th tl rm E : Int} {F D L A W C : Nat → Int} (hX : isMx h G th tl rm E F D L A W C) {X : Nat → Int} : isMx (va_up h 131 (eI 36 X)) G th tl rm E F X L A W C := by
  obtain ⟨hZ, m11, m12, m13, m14, m15, m16⟩ := hX
  exact ⟨isM0_fr hZ (va_up_ne _ _ (by decide)) (va_up_ne _ _ (by decide)), (va_up_ne _ _ (by decide)).trans m11, va_up_self _ _ _, (va_up_ne _ _ (by decide)).trans m13, (va_up_ne _ _ (by decide)).trans m14, (va_up_ne _ _ (by decide)).trans m15, (va_up_ne _ _ (by decide)).trans m16⟩
theorem isMx_L {h : AH} {G : Gr} {th tl rm E : Int} {F D L A W C : Nat → Int} (hX : isMx h G th tl rm E F D L A W C) {X : Nat → Int} : isMx (va_up h 132 (eI 36 X)) G th tl rm E F D X A W C := by
  obtain ⟨hZ, m11, m12, m13, m14, m15, m16⟩ := hX
  exact ⟨isM0_fr hZ (va_up_ne _ _ (by decide)) (va_up_ne _ _ (by decide)), (va_up_ne _ _ (by decide)).trans m11, (va_up_ne _ _ (by decide)).trans m12, va_up_self _ _ _, (va_up_ne _ _ (by decide)).trans m14, (va_up_ne _ _ (by decide)).trans m15, (va_up_ne _ _ (by decide)).trans m16⟩
theorem isMx_A {h : AH} {G : Gr} {th tl rm E : Int} {F D L A W C : Nat → Int} (hX : isMx h G th tl rm E F D L A W C) {X : Nat → Int} : isMx (va_up h 133 (eI 36 X)) G th tl rm E F D L X W C := by
  obtain ⟨hZ, m11, m12, m13, m14, m15, m16⟩ := hX
  exact ⟨isM0_fr hZ (va_up_ne _ _ (by decide)) (va_up_ne _ _ (by decide)), (va_up_ne _ _ (by decide)).trans m11, (va_up_ne _ _ (by decide)).trans m12, (va_up_ne _ _ (by decide)).trans m13, va_up_self _ _ _, (va_up_ne _ _ (by decide)).trans m15, (va_up_ne _ _ (by decide)).trans m16⟩
theorem isMx_W {h : AH} {G : Gr} {th tl rm E : Int} {F D L A W C : Nat → Int} (hX : isMx h G th tl rm E F D L A W C) {X : Nat → Int} : isMx (va_up h 134 (eI 36 X)) G th tl rm E F D L A X C := by
  obtain ⟨hZ, m11, m12, m13, m14, m15, m16⟩ := hX
  exact ⟨isM0_fr hZ (va_up_ne _ _ (by decide)) (va_up_ne _ _ (by decide)), (va_up_ne _ _ (by decide)).trans m11, (va_up_ne _ _ (by decide)).trans m12, (va_up_ne _ _ (by decide)).trans m13, (va_up_ne _ _ (by decide)).trans m14, va_up_self _ _ _, (va_up_ne _ _ (by decide)).trans m16⟩
theorem isMx_C {h : AH} {G : Gr} {th tl rm E : Int} {F D L A W C : Nat → Int} (hX : isMx h G th tl rm E F D L A W C) {X : Nat → Int} : isMx (va_up h 135 (eI 36 X)) G th tl rm E F D L A W X := by
  obtain ⟨hZ, m11, m12, m13, m14, m15, m16⟩ := hX
  exact ⟨isM0_fr hZ (va_up_ne _ _ (by decide)) (va_up_ne _ _ (by decide)), (va_up_ne _ _ (by decide)).trans m11, (va_up_ne _ _ (by decide)).trans m12, (va_up_ne _ _ (by decide)).trans m13, (va_up_ne _ _ (by decide)).trans m14, (va_up_ne _ _ (by decide)).trans m15, va_up_self _ _ _⟩
theorem isMx_E {h : AH} {G : Gr} {th tl rm E : Int} {F D L A W C : Nat → Int} (hX : isMx h G th tl rm E F D L A W C) {E' : Int} : isMx (va_up h 122 (moO th tl rm E')) G th tl rm E' F D L A W C := by
  obtain ⟨hZ, m11, m12, m13, m14, m15, m16⟩ := hX
  exact ⟨isM0_E hZ, (va_up_ne _ _ (by decide)).trans m11, (va_up_ne _ _ (by decide)).trans m12, (va_up_ne _ _ (by decide)).trans m13, (va_up_ne _ _ (by decide)).trans m14, (va_up_ne _ _ (by decide)).trans m15, (va_up_ne _ _ (by decide)).trans m16⟩
theorem mad_false {d N c e : Nat} {G : Gr} {th tl rm : Int} {Q : AQ} (hG : okG G) (hN : 139 ≤ N) (hc : c < qM G) {F D L Y C : Nat → Int} : ∀ (r i : Nat) (h : AH) (X : Nat → Int) (zi : Int), i + r = ln G false c → zi = i → isMx h G th tl rm (e : Nat) F D L X Y C → (∀ h' X' z', isMx h' G th tl rm (e : Nat) F D L X' Y C → (∀ j, i ≤ j → j < ln G false c → X' (c + j * sp G false) = e) → (∀ y, (∀ j, i ≤ j → j < ln G false c → y ≠ c + j * sp G false) → X' y = X y) → frG h h' → Run mi_X9_addEntry (T d) Q 86 [some (vR 122), some (vI c), some (vI (bI false)), some (vI (ln G false c)), some (vI z')] [] h' N 0 0) → Run mi_X9_addEntry (T d) Q 33 [some (vR 122), some (vI c), some (vI (bI false)), some (vI (ln G false c)), some (vI zi)] [] h N 0 0 := by
  intro r
  induction r using Nat.strongRecOn with
  | ind r ih =>
  intro i h X zi hr hzi hX k
  obtain ⟨hZ, m11, m12, m13, m14, m15, m16⟩ := id hX
  obtain ⟨S, m0, m3, hR⟩ := id hZ
  obtain ⟨hr0, hr1, rL, rE, rS, hr110, rWn, rWl, hr167, rNl⟩ := id hR
  have r0 : S (0 : Int).toNat = (qR G : Int) := hr0
  have r1 : S (1 : Int).toNat = (qC G : Int) := hr1
  have r110 : S (110 : Int).toNat = (qW G : Int) := hr110
  have r167 : S (167 : Int).toNat = (qN G : Int) := hr167
  obtain ⟨hm4, hm36⟩ := hG.m
  have hmi := qM_int G
  obtain ⟨⟨hr2, hr6⟩, ⟨hc2, hc6⟩, gL, gB, gW, gWn, gWl, gN, gNl⟩ := id hG
  obtain ⟨hl1, hl2, hl3, hl6⟩ := ln_spec hG (b := false) hc
  refine R_iload rfl rfl ?_
  refine R_iload_n rfl rfl ?_
  refine R_icmpge rfl ⟨by omega, by omega⟩ ⟨by omega, by omega⟩ (fun c36 => ?_) (fun c36 => ?_)
  · have hr0 : r = 0 := by omega
    subst hr0
    exact k h X _ hX (fun j h1 h2 => absurd h1 (by omega)) (fun y _ => rfl) frG.refl
  · obtain ⟨r, rfl⟩ : ∃ r1, r = r1 + 1 := ⟨r - 1, by omega⟩
    have hrc := run_cell hG hc (b := false) (i := i) (by omega)
    refine R_iload_n rfl rfl ?_
    refine R_iconst rfl ?_
    refine R_icmpne rfl ⟨by decide, by decide⟩ ⟨by decide, by decide⟩ (fun _ => ?_) (fun c0 => absurd c0 (by decide))
    refine R_aload_n rfl rfl ?_
    refine R_getfield rfl rfl (by omega) m0 rfl ?_
    refine R_iload_n rfl rfl ?_
    refine R_iload rfl rfl ?_
    refine R_iadd rfl ?_
    rw [show ((c : Int) + zi) = ((c + i * sp G false : Nat) : Int) by rw [show sp G false = 1 from rfl]; omega]
    refine R_aload_n rfl rfl ?_
    refine R_getfield rfl rfl (by omega) m0 rfl ?_
    refine R_iastore rfl (by omega) m14 ⟨by omega, by omega, by omega⟩ ?_
    refine R_iinc (lv' := [_, _, _, _, _]) rfl rfl rfl ?_
    refine R_goto rfl ?_
    refine ih r (by omega) (i + 1) _ _ _ (by omega) (by omega) (isMx_A hX) (fun h1 X1 z1 hX1 v1 v2 f1 => k h1 X1 z1 hX1 (fun j h1 h2 => ?_) (fun y hy => ?_) ((frG_up frG.refl (by decide)).trans f1))
    · by_cases q : j = i
      · rw [q, v2 _ (fun j2 h3 h4 => run_ne hG (by omega))]
        exact va_up_self _ _ _
      · exact v1 j (by omega) h2
    · rw [v2 y (fun j h3 h4 => hy j (by omega) h4)]
      exact va_up_ne _ _ (hy i (Nat.le_refl _) (by omega))
theorem mAddEntry_false {d N c e : Nat} {G : Gr} {th tl rm : Int} {Q : AQ} (hG : okG G) (hN : 139 ≤ N) (hc : c < qM G) (he : e < 36) {h : AH} {F D L A W C : Nat → Int} (hX : isMx h G th tl rm (e : Nat) F D L A W C) {mz : Int} (hmz : mz = (ln G false c : Nat)) (hQ : ∀ h' X, isMx h' G th tl rm (e + 1 : Nat) (va_up F e c) (va_up D e (bI false)) (va_up L e (ln G false c)) X W C → (∀ i, i < ln G false c → X (c + i * sp G false) = e) → (∀ y, (¬ ∃ i, i < ln G false c ∧ y = c + i * sp G false) → X y = A y) → frG h h' → Q (.inl none) h' N) : T (d + 1) 144 [vR 122, vI c, vI (bI false), vI mz] h N Q := by
  obtain ⟨hZ, m11, m12, m13, m14, m15, m16⟩ := id hX
  obtain ⟨S, m0, m3, hR⟩ := id hZ
  obtain ⟨hr0, hr1, rL, rE, rS, hr110, rWn, rWl, hr167, rNl⟩ := id hR
  have r0 : S (0 : Int).toNat = (qR G : Int) := hr0
  have r1 : S (1 : Int).toNat = (qC G : Int) := hr1
  have r110 : S (110 : Int).toNat = (qW G : Int) := hr110
  have r167 : S (167 : Int).toNat = (qN G : Int) := hr167
  obtain ⟨hm4, hm36⟩ := hG.m
  have hmi := qM_int G
  obtain ⟨⟨hr2, hr6⟩, ⟨hc2, hc6⟩, gL, gB, gW, gWn, gWl, gN, gNl⟩ := id hG
  subst hmz
  obtain ⟨hl1, hl2, hl3, hl6⟩ := ln_spec hG (b := false) hc
  refine T_body (I := mi_X9_addEntry) (lv := [_, _, _, _, _]) rfl (Nat.le_of_ble_eq_true rfl) rfl ?_
  refine R_aload_n rfl rfl ?_
  refine R_getfield rfl rfl (by omega) m0 rfl ?_
  refine R_aload_n rfl rfl ?_
  refine R_getfield rfl rfl (by omega) m0 rfl ?_
  refine R_iload_n rfl rfl ?_
  refine R_iastore rfl (by omega) m11 ⟨by omega, by omega, by omega⟩ ?_
  refine R_aload_n rfl rfl ?_
  refine R_getfield rfl rfl (by omega) ((va_up_ne _ _ (by first | exact kne rfl | exact kz | exact kz.symm | omega)).trans m0) rfl ?_
  refine R_aload_n rfl rfl ?_
  refine R_getfield rfl rfl (by omega) ((va_up_ne _ _ (by first | exact kne rfl | exact kz | exact kz.symm | omega)).trans m0) rfl ?_
  refine R_iload_n rfl rfl ?_
  refine R_iastore rfl (by omega) ((va_up_ne _ _ (by first | exact kne rfl | exact kz | exact kz.symm | omega)).trans m12) ⟨by omega, by omega, by omega⟩ ?_
  refine R_aload_n rfl rfl ?_
  refine R_getfield rfl rfl (by omega) ((va_up_ne _ _ (by first | exact kne rfl | exact kz | exact kz.symm | omega)).trans ((va_up_ne _ _ (by first | exact kne rfl | exact kz | exact kz.symm | omega)).trans m0)) rfl ?_
  refine R_aload_n rfl rfl ?_
  refine R_getfield rfl rfl (by omega) ((va_up_ne _ _ (by first | exact kne rfl | exact kz | exact kz.symm | omega)).trans ((va_up_ne _ _ (by first | exact kne rfl | exact kz | exact kz.symm | omega)).trans m0)) rfl ?_
  refine R_iload_n rfl rfl ?_
  refine R_iastore rfl (by omega) ((va_up_ne _ _ (by first | exact kne rfl | exact kz | exact kz.symm | omega)).trans ((va_up_ne _ _ (by first | exact kne rfl | exact kz | exact kz.symm | omega)).trans m13)) ⟨by omega, by omega, by omega⟩ ?_
  refine R_iconst rfl ?_
  refine R_istore (lv' := [_, _, _, _, _]) rfl rfl ?_
  refine mad_false hG hN hc (ln G false c) 0 _ A _ (Nat.zero_add _) rfl (isMx_L (isMx_D (isMx_F hX))) (fun h1 X1 z1 hX1 v1 v2 f1 => ?_)
  obtain ⟨hZ1, -⟩ := id hX1
  obtain ⟨S1, m0, -⟩ := id hZ1
  refine R_aload_n rfl rfl ?_
  refine R_dup rfl rfl ?_
  refine R_getfield rfl rfl (by omega) m0 rfl ?_
  refine R_iconst rfl ?_
  refine R_iadd rfl ?_
  refine R_putfield rfl rfl (by omega) m0 (Nat.le_of_ble_eq_true rfl) (by first | trivial | exact trivial | omega) ?_
  exact R_return rfl (Nat.zero_le _) (Nat.zero_le _) (hQ _ X1 (isMx_E hX1) (fun j hj => v1 j (Nat.zero_le _) hj) (fun y hy => v2 y (fun j _ h2 q => hy ⟨j, h2, q⟩)) (frG_up ((frG_up (frG_up (frG_up frG.refl (by decide)) (by decide)) (by decide)).trans f1) (by decide)))
theorem mad_true {d N c e : Nat} {G : Gr} {th tl rm : Int} {Q : AQ} (hG : okG G) (hN : 139 ≤ N) (hc : c < qM G) {F D L Y C : Nat → Int} : ∀ (r i : Nat) (h : AH) (X : Nat → Int) (zi : Int), i + r = ln G true c → zi = i → isMx h G th tl rm (e : Nat) F D L Y X C → (∀ h' X' z', isMx h' G th tl rm (e : Nat) F D L Y X' C → (∀ j, i ≤ j → j < ln G true c → X' (c + j * sp G true) = e) → (∀ y, (∀ j, i ≤ j → j < ln G true c → y ≠ c + j * sp G true) → X' y = X y) → frG h h' → Run mi_X9_addEntry (T d) Q 86 [some (vR 122), some (vI c), some (vI (bI true)), some (vI (ln G true c)), some (vI z')] [] h' N 0 0) → Run mi_X9_addEntry (T d) Q 33 [some (vR 122), some (vI c), some (vI (bI true)), some (vI (ln G true c)), some (vI zi)] [] h N 0 0 := by
  intro r
  induction r using Nat.strongRecOn with
  | ind r ih =>
  intro i h X zi hr hzi hX k
  obtain ⟨hZ, m11, m12, m13, m14, m15, m16⟩ := id hX
  obtain ⟨S, m0, m3, hR⟩ := id hZ
  obtain ⟨hr0, hr1, rL, rE, rS, hr110, rWn, rWl, hr167, rNl⟩ := id hR
  have r0 : S (0 : Int).toNat = (qR G : Int) := hr0
  have r1 : S (1 : Int).toNat = (qC G : Int) := hr1
  have r110 : S (110 : Int).toNat = (qW G : Int) := hr110
  have r167 : S (167 : Int).toNat = (qN G : Int) := hr167
  obtain ⟨hm4, hm36⟩ := hG.m
  have hmi := qM_int G
  obtain ⟨⟨hr2, hr6⟩, ⟨hc2, hc6⟩, gL, gB, gW, gWn, gWl, gN, gNl⟩ := id hG
  obtain ⟨hl1, hl2, hl3, hl6⟩ := ln_spec hG (b := true) hc
  refine R_iload rfl rfl ?_
  refine R_iload_n rfl rfl ?_
  refine R_icmpge rfl ⟨by omega, by omega⟩ ⟨by omega, by omega⟩ (fun c36 => ?_) (fun c36 => ?_)
  · have hr0 : r = 0 := by omega
    subst hr0
    exact k h X _ hX (fun j h1 h2 => absurd h1 (by omega)) (fun y _ => rfl) frG.refl
  · obtain ⟨r, rfl⟩ : ∃ r1, r = r1 + 1 := ⟨r - 1, by omega⟩
    have hrc := run_cell hG hc (b := true) (i := i) (by omega)
    refine R_iload_n rfl rfl ?_
    refine R_iconst rfl ?_
    refine R_icmpne rfl ⟨by decide, by decide⟩ ⟨by decide, by decide⟩ (fun c0 => absurd c0 (by decide)) (fun _ => ?_)
    refine R_aload_n rfl rfl ?_
    refine R_getfield rfl rfl (by omega) m0 rfl ?_
    refine R_iload_n rfl rfl ?_
    refine R_iload rfl rfl ?_
    refine R_aload_n rfl rfl ?_
    refine R_getfield rfl rfl (by omega) m0 rfl ?_
    refine R_iconst rfl ?_
    refine R_iaload rfl (Or.inl (by omega)) m3 ⟨by omega, by omega, by omega⟩ ?_
    rw [r1]
    refine R_imul rfl ?_
    refine R_iadd rfl ?_
    rw [show ((c : Int) + zi * (qC G : Int)) = ((c + i * sp G true : Nat) : Int) by rw [hzi, Int.natCast_add, Int.natCast_mul]; rfl]
    refine R_aload_n rfl rfl ?_
    refine R_getfield rfl rfl (by omega) m0 rfl ?_
    refine R_iastore rfl (by omega) m15 ⟨by omega, by omega, by omega⟩ ?_
    refine R_goto rfl ?_
    refine R_iinc (lv' := [_, _, _, _, _]) rfl rfl rfl ?_
    refine R_goto rfl ?_
    refine ih r (by omega) (i + 1) _ _ _ (by omega) (by omega) (isMx_W hX) (fun h1 X1 z1 hX1 v1 v2 f1 => k h1 X1 z1 hX1 (fun j h1 h2 => ?_) (fun y hy => ?_) ((frG_up frG.refl (by decide)).trans f1))
    · by_cases q : j = i
      · rw [q, v2 _ (fun j2 h3 h4 => run_ne hG (by omega))]
        exact va_up_self _ _ _
      · exact v1 j (by omega) h2
    · rw [v2 y (fun j h3 h4 => hy j (by omega) h4)]
      exact va_up_ne _ _ (hy i (Nat.le_refl _) (by omega))
theorem mAddEntry_true {d N c e : Nat} {G : Gr} {th tl rm : Int} {Q : AQ} (hG : okG G) (hN : 139 ≤ N) (hc : c < qM G) (he : e < 36) {h : AH} {F D L A W C : Nat → Int} (hX : isMx h G th tl rm (e : Nat) F D L A W C) {mz : Int} (hmz : mz = (ln G true c : Nat)) (hQ : ∀ h' X, isMx h' G th tl rm (e + 1 : Nat) (va_up F e c) (va_up D e (bI true)) (va_up L e (ln G true c)) A X C → (∀ i, i < ln G true c → X (c + i * sp G true) = e) → (∀ y, (¬ ∃ i, i < ln G true c ∧ y = c + i * sp G true) → X y = W y) → frG h h' → Q (.inl none) h' N) : T (d + 1) 144 [vR 122, vI c, vI (bI true), vI mz] h N Q := by
  obtain ⟨hZ, m11, m12, m13, m14, m15, m16⟩ := id hX
  obtain ⟨S, m0, m3, hR⟩ := id hZ
  obtain ⟨hr0, hr1, rL, rE, rS, hr110, rWn, rWl, hr167, rNl⟩ := id hR
  have r0 : S (0 : Int).toNat = (qR G : Int) := hr0
  have r1 : S (1 : Int).toNat = (qC G : Int) := hr1
  have r110 : S (110 : Int).toNat = (qW G : Int) := hr110
  have r167 : S (167 : Int).toNat = (qN G : Int) := hr167
  obtain ⟨hm4, hm36⟩ := hG.m
  have hmi := qM_int G
  obtain ⟨⟨hr2, hr6⟩, ⟨hc2, hc6⟩, gL, gB, gW, gWn, gWl, gN, gNl⟩ := id hG
  subst hmz
  obtain ⟨hl1, hl2, hl3, hl6⟩ := ln_spec hG (b := true) hc
  refine T_body (I := mi_X9_addEntry) (lv := [_, _, _, _, _]) rfl (Nat.le_of_ble_eq_true rfl) rfl ?_
  refine R_aload_n rfl rfl ?_
  refine R_getfield rfl rfl (by omega) m0 rfl ?_
  refine R_aload_n rfl rfl ?_
  refine R_getfield rfl rfl (by omega) m0 rfl ?_
  refine R_iload_n rfl rfl ?_
  refine R_iastore rfl (by omega) m11 ⟨by omega, by omega, by omega⟩ ?_
  refine R_aload_n rfl rfl ?_
  refine R_getfield rfl rfl (by omega) ((va_up_ne _ _ (by first | exact kne rfl | exact kz | exact kz.symm | omega)).trans m0) rfl ?_
  refine R_aload_n rfl rfl ?_
  refine R_getfield rfl rfl (by omega) ((va_up_ne _ _ (by first | exact kne rfl | exact kz | exact kz.symm | omega)).trans m0) rfl ?_
  refine R_iload_n rfl rfl ?_
  refine R_iastore rfl (by omega) ((va_up_ne _ _ (by first | exact kne rfl | exact kz | exact kz.symm | omega)).trans m12) ⟨by omega, by omega, by omega⟩ ?_
  refine R_aload_n rfl rfl ?_
  refine R_getfield rfl rfl (by omega) ((va_up_ne _ _ (by first | exact kne rfl | exact kz | exact kz.symm | omega)).trans ((va_up_ne _ _ (by first | exact kne rfl | exact kz | exact kz.symm | omega)).trans m0)) rfl ?_
  refine R_aload_n rfl rfl ?_
  refine R_getfield rfl rfl (by omega) ((va_up_ne _ _ (by first | exact kne rfl | exact kz | exact kz.symm | omega)).trans ((va_up_ne _ _ (by first | exact kne rfl | exact kz | exact kz.symm | omega)).trans m0)) rfl ?_
  refine R_iload_n rfl rfl ?_
  refine R_iastore rfl (by omega) ((va_up_ne _ _ (by first | exact kne rfl | exact kz | exact kz.symm | omega)).trans ((va_up_ne _ _ (by first | exact kne rfl | exact kz | exact kz.symm | omega)).trans m13)) ⟨by omega, by omega, by omega⟩ ?_
  refine R_iconst rfl ?_
  refine R_istore (lv' := [_, _, _, _, _]) rfl rfl ?_
  refine mad_true hG hN hc (ln G true c) 0 _ W _ (Nat.zero_add _) rfl (isMx_L (isMx_D (isMx_F hX))) (fun h1 X1 z1 hX1 v1 v2 f1 => ?_)
  obtain ⟨hZ1, -⟩ := id hX1
  obtain ⟨S1, m0, -⟩ := id hZ1
  refine R_aload_n rfl rfl ?_
  refine R_dup rfl rfl ?_
  refine R_getfield rfl rfl (by omega) m0 rfl ?_
  refine R_iconst rfl ?_
  refine R_iadd rfl ?_
  refine R_putfield rfl rfl (by omega) m0 (Nat.le_of_ble_eq_true rfl) (by first | trivial | exact trivial | omega) ?_
  exact R_return rfl (Nat.zero_le _) (Nat.zero_le _) (hQ _ X1 (isMx_E hX1) (fun j hj => v1 j (Nat.zero_le _) hj) (fun y hy => v2 y (fun j _ h2 q => hy ⟨j, h2, q⟩)) (frG_up ((frG_up (frG_up (frG_up frG.refl (by decide)) (by decide)) (by decide)).trans f1) (by decide)))
