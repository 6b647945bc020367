/-! ===== the puzzle: what lays out its entries ===== -/
def lvle : AL → AL → Prop
  | [], [] => True
  | a :: l, b :: r => (a = none ∨ a = b) ∧ lvle l r
  | _, _ => False
theorem lvle_len : ∀ {l r : AL}, lvle l r → l.length = r.length
  | [], [], _ => rfl
  | _ :: _, _ :: _, h => congrArg (· + 1) (lvle_len h.2)
theorem lvle_ld : ∀ {l r : AL}, lvle l r → ∀ i v, aLd l i = some v → aLd r i = some v
  | [], [], _, _, _, q => q
  | a :: l, b :: r, h, 0, v, q => by
    rcases h.1 with e | e
    · subst e
      cases q
    · subst e
      exact q
  | a :: l, b :: r, h, i + 1, v, q => lvle_ld h.2 i v q
theorem Run.lv {I : MI} {d : Nat} {Q : AQ} {pc : Nat} {lv lv' : AL} {st : List AV} {h : AH} {N k n : Nat} (hr : Run I (T d) Q pc lv' st h N k n) (hl : lvle lv' lv) : Run I (T d) Q pc lv st h N k n := hr.less (lvle_len hl) (lvle_ld hl)
theorem up_lt {f : Nat → Int} {z : Int} {i x : Nat} (hx : x = i) (hf : ∀ j, j < i → f j = z) : ∀ j, j < i + 1 → va_up f x z j = z := by
  subst hx
  intro j hj
  by_cases q : j = x
  · rw [q, va_up_self]
  · rw [va_up_ne _ _ q]
    exact hf j (by omega)
theorem isSt_fr {h h' : AH} {k : Nat} {G : Gr} (hS : isSt h k G) (he : ∀ j, k ≤ j → j < k + 5 → h' j = h j) : isSt h' k G := by
  obtain ⟨rb, bb, L, WL, WT, LN, e0, e1, e2, e3, e4, hr⟩ := hS
  exact ⟨rb, bb, L, WL, WT, LN, (he k (by omega) (by omega)).trans e0, (he (k + 1) (by omega) (by omega)).trans e1, (he (k + 2) (by omega) (by omega)).trans e2, (he (k + 3) (by omega) (by omega)).trans e3, (he (k + 4) (by omega) (by omega)).trans e4, hr⟩
theorem isSt.e0 {h : AH} {k : Nat} {G : Gr} (hS : isSt h k G) : ∃ rb bb, h k = eO 4 [vI (qR G), vI (qC G), vI (qW G), vI (qN G), vL rb, vL bb, vR (k + 1), vR (k + 2), vR (k + 3), vR (k + 4)] := by
  obtain ⟨rb, bb, L, WL, WT, LN, e0, -⟩ := hS
  exact ⟨rb, bb, e0⟩
theorem isSt.rcv {h : AH} {k : Nat} {G : Gr} (hS : isSt h k G) : ∃ fs, h k = eO 4 fs := by
  obtain ⟨rb, bb, e⟩ := hS.e0
  exact ⟨_, e⟩
theorem jn_res {G : Gr} {z c : Int} {x : Nat} {b : Bool} (hc : c = x) (h : (z = 1 ∧ 0 ≤ c ∧ qJ G c.toNat b) ∨ (z = 0 ∧ ¬ (0 ≤ c ∧ qJ G c.toNat b))) : z = bI (jn G b x) := by
  subst hc
  rcases h with ⟨h1, h2, h3⟩ | ⟨h1, h2⟩
  · have : jn G b x = true := jn_iff.mpr h3
    rw [this, h1]
    rfl
  · cases q : jn G b x with
    | false => rw [h1]; rfl
    | true => exact absurd ⟨by omega, jn_iff.mp q⟩ h2
/-- joined with the one before, as the code asks it -/
theorem pj_res {G : Gr} {z c : Int} {x : Nat} {b : Bool} (hc : c = (x : Int) - (sp G b : Int)) (h : (z = 1 ∧ 0 ≤ c ∧ qJ G c.toNat b) ∨ (z = 0 ∧ ¬ (0 ≤ c ∧ qJ G c.toNat b))) : z = bI (pj G b x) := by
  subst hc
  rcases h with ⟨h1, h2, h3⟩ | ⟨h1, h2⟩
  · have e : ((x : Int) - (sp G b : Int)).toNat = x - sp G b := by omega
    rw [e] at h3
    have : pj G b x = true := by
      unfold pj
      rw [jn_iff.mpr h3, Bool.and_true]
      exact decide_eq_true (by omega)
    rw [this, h1]
    rfl
  · cases q : pj G b x with
    | false => rw [h1]; rfl
    | true =>
      obtain ⟨y, rfl, hy⟩ := pj_ex q
      have e : (((y + sp G b : Nat) : Int) - (sp G b : Int)).toNat = y := by omega
      exact absurd ⟨by omega, by rw [e]; exact jn_iff.mp hy⟩ h2
theorem fill_loop {d a m N : Nat} {Q : AQ} {z : Int} (ha : a < N) (hm : m < 2147483648) : ∀ (r : Nat) (h : AH) (f : Nat → Int) (i : Nat) (zi : Int), zi = i → i + r = m → h a = eI m f → (∀ j, j < i → f j = z) → (hQ : ∀ h' f', h' a = eI m f' → (∀ j, j < m → f' j = z) → (∀ j, j ≠ a → h' j = h j) → Q (.inl none) h' N) → Run mi_J7_fill_53178 (T d) Q 5 [some (vR a), some (vI z), some (vI zi), some (vI m)] [] h N 0 0 := by
  intro r
  induction r using Nat.strongRecOn with
  | ind r ih =>
  intro h f i zi hi hr he hf hQ
  refine R_iload_n rfl rfl ?_
  refine R_iload_n rfl rfl ?_
  refine R_icmpge rfl ⟨by omega, by omega⟩ ⟨by omega, by omega⟩ (fun c7 => ?_) (fun c7 => ?_)
  · exact R_return rfl (Nat.zero_le _) (Nat.zero_le _) (hQ h f he (fun j hj => hf j (by omega)) (fun _ _ => rfl))
  · refine R_aload_n rfl rfl ?_
    refine R_iload_n rfl rfl ?_
    refine R_iload_n rfl rfl ?_
    refine R_iastore rfl ha he ⟨by omega, by omega, hm⟩ ?_
    refine R_iinc (lv' := [_, _, _, _]) rfl rfl rfl ?_
    refine R_goto rfl ?_
    exact ih (r - 1) (by omega) _ _ (i + 1) _ (by omega) (by omega) (va_up_self _ _ _) (up_lt (by omega) hf) (fun h' f' q1 q2 q3 => hQ h' f' q1 q2 (fun j hj => (q3 j hj).trans (va_up_ne _ _ hj)))
theorem fill_T {d a m N : Nat} {h : AH} {f : Nat → Int} {Q : AQ} {z : Int} (ha : a < N) (hm : m < 2147483648) (he : h a = eI m f) (hQ : ∀ h' f', h' a = eI m f' → (∀ j, j < m → f' j = z) → (∀ j, j ≠ a → h' j = h j) → Q (.inl none) h' N) : T (d + 1) 207 [vR a, vI z] h N Q := by
  refine T_body (I := mi_J7_fill_53178) (lv := [_, _, _, _]) rfl (Nat.le_of_ble_eq_true rfl) rfl ?_
  refine R_iconst rfl ?_
  refine R_istore_n (lv' := [_, _, _, _]) rfl rfl ?_
  refine R_aload_n rfl rfl ?_
  refine R_alen rfl (Or.inl ha) he ?_
  refine R_istore_n (lv' := [_, _, _, _]) rfl rfl ?_
  exact fill_loop ha hm m h f 0 _ rfl (Nat.zero_add _) he (fun j hj => absurd hj (Nat.not_lt_zero _)) hQ
/-- the puzzle's picture, with all its numbers and rows -/
def isPx (h : AH) (k : Nat) (G : Gr) (E A C : Int) (F Ln Dn Ac Dw Cl : Nat → Int) : Prop := h k = eO 3 [vR (k + 1), vI E, vI A, vI C, vR (k + 6), vR (k + 7), vR (k + 8), vR (k + 9), vR (k + 10), vR (k + 11)] ∧ isSt h (k + 1) G ∧ h (k + 6) = eI 36 F ∧ h (k + 7) = eI 36 Ln ∧ h (k + 8) = eZ 36 Dn ∧ h (k + 9) = eI 36 Ac ∧ h (k + 10) = eI 36 Dw ∧ h (k + 11) = eI 36 Cl
theorem fr.refl {h : AH} {a n : Nat} : fr h h a n := fun _ _ => rfl
theorem fr.trans {h h' h'' : AH} {a n : Nat} (h1 : fr h h' a n) (h2 : fr h' h'' a n) : fr h h'' a n := fun j hj => (h2 j hj).trans (h1 j hj)
theorem fr.wide {h h' : AH} {a n b m : Nat} (h1 : fr h h' a n) (hb : b ≤ a ∧ a + n ≤ b + m) : fr h h' b m := fun j hj => h1 j (by omega)
theorem addLoopA {d k N c : Nat} {G : Gr} {Q : AQ} {e : Nat} {fs : List AV} (hG : okG G) (hN : k + 12 ≤ N) (hc : c < qM G) : ∀ (r i x : Nat) (zc zi zg : Int) (h : AH) (X : Nat → Int), i + r = ln G false c → x = c + i * sp G false → zc = x → zi = i → ((zg = 1 ∧ 0 < r) ∨ (zg = 0 ∧ r = 0)) → h k = eO 3 (vR (k + 1) :: fs) → isSt h (k + 1) G → h (k + 9) = eI 36 X → (∀ h' X' z' g', h' (k + 9) = eI 36 X' → (∀ j, j ≠ k + 9 → h' j = h j) → (∀ j, i ≤ j → j < ln G false c → X' (c + j * sp G false) = e) → (∀ y, (∀ j, i ≤ j → j < ln G false c → y ≠ c + j * sp G false) → X' y = X y) → Run mi_X4_addEntry (T (d + 2)) Q 114 [some (vR k), some (vI c), some (vI (bI false)), some (vI e), some (vR (k + 9)), some (vI (sp G false)), some (vI z'), some (vI (ln G false c)), some (vI g')] [] h' N 0 0) → Run mi_X4_addEntry (T (d + 2)) Q 59 [some (vR k), some (vI c), some (vI (bI false)), some (vI e), some (vR (k + 9)), some (vI (sp G false)), some (vI zc), some (vI zi), some (vI zg)] [] h N 0 0 := by
  intro r
  induction r using Nat.strongRecOn with
  | ind r ih =>
  intro i x zc zi zg h X hi hx hz hzi hg p0 hS hX k0
  obtain ⟨hm4, hm36⟩ := hG.m
  obtain ⟨-, -, hl1, hl6⟩ := ln_spec hG (b := false) hc
  obtain ⟨rb, bb, s0⟩ := hS.e0
  refine R_iload rfl rfl ?_
  refine R_ifeq rfl ⟨by omega, by omega⟩ (fun c61 => ?_) (fun c61 => ?_)
  · have hr0 : r = 0 := by omega
    have hi : zi = ln G false c := by omega
    subst hi
    exact k0 h X _ _ hX (fun _ _ => rfl) (fun j h1 h2 => absurd h1 (by omega)) (fun y hy => rfl)
  · have hr0 : 0 < r := by omega
    have hxm : x < qM G := by
      rw [hx]
      exact run_cell hG hc (by omega)
    refine R_iload rfl rfl ?_
    refine R_bipush rfl ?_
    refine R_icmpge rfl ⟨by omega, by omega⟩ ⟨by decide, by decide⟩ (fun c68 => ?_) (fun c68 => ?_)
    · exact absurd c68 (by omega)
    · refine R_aload_n rfl rfl ?_
      refine R_getfield rfl rfl (by omega) p0 rfl ?_
      refine R_iload rfl rfl ?_
      refine R_vcall rfl rfl ⟨(by omega), hS.rcv⟩ ⟨Nat.le_of_ble_eq_true rfl, Nat.le_of_ble_eq_true rfl, Nat.zero_le _, Nat.zero_le _⟩ (hasCell_T hS hG (by omega) ⟨by omega, by omega⟩ (fun z77 hz77 => aRes_i (rest := []) ?_))
      refine R_ifeq rfl ⟨by omega, by omega⟩ (fun c80 => ?_) (fun c80 => ?_)
      · exact absurd c80 (by omega)
      · refine R_aload rfl rfl ?_
        refine R_iload rfl rfl ?_
        refine R_iload_n rfl rfl ?_
        refine R_iastore rfl (by omega) hX ⟨by omega, by omega, by decide⟩ ?_
        have hS : isSt (va_up h (k + 9) (eI 36 (va_up X zc.toNat e))) (k + 1) G := isSt_fr hS (fun j h1 h2 => va_up_ne _ _ (by omega))
        refine R_iinc (lv' := [_, _, _, _, _, _, _, _, _]) rfl rfl rfl ?_
        refine R_aload_n rfl rfl ?_
        refine R_getfield rfl rfl (by omega) ((va_up_ne _ _ (by first | exact kne rfl | exact kz | exact kz.symm | omega)).trans p0) rfl ?_
        refine R_iload rfl rfl ?_
        refine R_iload_n rfl rfl ?_
        refine R_vcall rfl rfl ⟨(by omega), hS.rcv⟩ ⟨Nat.le_of_ble_eq_true rfl, Nat.le_of_ble_eq_true rfl, Nat.zero_le _, Nat.zero_le _⟩ (isJoined_T hS hG (by omega) ⟨by omega, by omega⟩ (fun z99 hz99 => aRes_i (rest := []) ?_))
        have hj99 := jn_res hz hz99
        rw [hx, run_jn hG hc (by omega)] at hj99
        refine R_istore (lv' := [_, _, _, _, _, _, _, _, _]) rfl rfl ?_
        refine R_iload rfl rfl ?_
        refine R_iload rfl rfl ?_
        refine R_iadd rfl ?_
        refine R_istore (lv' := [_, _, _, _, _, _, _, _, _]) rfl rfl ?_
        refine R_goto rfl ?_
        rw [hj99]
        exact ih (r - 1) (by omega) (i + 1) (x + sp G false) _ _ _ _ _ (by omega) (by rw [hx, step_eq]) (by omega) (by omega) (by
          by_cases q : i + 1 < ln G false c
          · exact Or.inl ⟨congrArg bI (decide_eq_true q), by omega⟩
          · exact Or.inr ⟨congrArg bI (decide_eq_false q), by omega⟩) ((va_up_ne _ _ (by omega)).trans p0) hS (va_up_self _ _ _) (fun h' X' z' g' q1 q2 q3 q4 => k0 h' X' z' g' q1 (fun j hj => (q2 j hj).trans (va_up_ne _ _ hj)) (fun j h1 h2 => by
            rcases Nat.lt_or_ge i j with q | q
            · exact q3 j (by omega) h2
            · have e1 : j = i := by omega
              rw [e1, q4 _ (fun j h1 h2 => run_ne hG (by omega)), ← hx, show zc.toNat = x by omega, va_up_self]) (fun y hy => by
            rw [q4 y (fun j h1 h2 => hy j (by omega) h2), va_up_ne]
            rw [show zc.toNat = x by omega, hx]
            exact hy i (Nat.le_refl _) (by omega)))
theorem addLoopD {d k N c : Nat} {G : Gr} {Q : AQ} {e : Nat} {fs : List AV} (hG : okG G) (hN : k + 12 ≤ N) (hc : c < qM G) : ∀ (r i x : Nat) (zc zi zg : Int) (h : AH) (X : Nat → Int), i + r = ln G true c → x = c + i * sp G true → zc = x → zi = i → ((zg = 1 ∧ 0 < r) ∨ (zg = 0 ∧ r = 0)) → h k = eO 3 (vR (k + 1) :: fs) → isSt h (k + 1) G → h (k + 10) = eI 36 X → (∀ h' X' z' g', h' (k + 10) = eI 36 X' → (∀ j, j ≠ k + 10 → h' j = h j) → (∀ j, i ≤ j → j < ln G true c → X' (c + j * sp G true) = e) → (∀ y, (∀ j, i ≤ j → j < ln G true c → y ≠ c + j * sp G true) → X' y = X y) → Run mi_X4_addEntry (T (d + 2)) Q 114 [some (vR k), some (vI c), some (vI (bI true)), some (vI e), some (vR (k + 10)), some (vI (sp G true)), some (vI z'), some (vI (ln G true c)), some (vI g')] [] h' N 0 0) → Run mi_X4_addEntry (T (d + 2)) Q 59 [some (vR k), some (vI c), some (vI (bI true)), some (vI e), some (vR (k + 10)), some (vI (sp G true)), some (vI zc), some (vI zi), some (vI zg)] [] h N 0 0 := by
  intro r
  induction r using Nat.strongRecOn with
  | ind r ih =>
  intro i x zc zi zg h X hi hx hz hzi hg p0 hS hX k0
  obtain ⟨hm4, hm36⟩ := hG.m
  obtain ⟨-, -, hl1, hl6⟩ := ln_spec hG (b := true) hc
  obtain ⟨rb, bb, s0⟩ := hS.e0
  refine R_iload rfl rfl ?_
  refine R_ifeq rfl ⟨by omega, by omega⟩ (fun c61 => ?_) (fun c61 => ?_)
  · have hr0 : r = 0 := by omega
    have hi : zi = ln G true c := by omega
    subst hi
    exact k0 h X _ _ hX (fun _ _ => rfl) (fun j h1 h2 => absurd h1 (by omega)) (fun y hy => rfl)
  · have hr0 : 0 < r := by omega
    have hxm : x < qM G := by
      rw [hx]
      exact run_cell hG hc (by omega)
    refine R_iload rfl rfl ?_
    refine R_bipush rfl ?_
    refine R_icmpge rfl ⟨by omega, by omega⟩ ⟨by decide, by decide⟩ (fun c68 => ?_) (fun c68 => ?_)
    · exact absurd c68 (by omega)
    · refine R_aload_n rfl rfl ?_
      refine R_getfield rfl rfl (by omega) p0 rfl ?_
      refine R_iload rfl rfl ?_
      refine R_vcall rfl rfl ⟨(by omega), hS.rcv⟩ ⟨Nat.le_of_ble_eq_true rfl, Nat.le_of_ble_eq_true rfl, Nat.zero_le _, Nat.zero_le _⟩ (hasCell_T hS hG (by omega) ⟨by omega, by omega⟩ (fun z77 hz77 => aRes_i (rest := []) ?_))
      refine R_ifeq rfl ⟨by omega, by omega⟩ (fun c80 => ?_) (fun c80 => ?_)
      · exact absurd c80 (by omega)
      · refine R_aload rfl rfl ?_
        refine R_iload rfl rfl ?_
        refine R_iload_n rfl rfl ?_
        refine R_iastore rfl (by omega) hX ⟨by omega, by omega, by decide⟩ ?_
        have hS : isSt (va_up h (k + 10) (eI 36 (va_up X zc.toNat e))) (k + 1) G := isSt_fr hS (fun j h1 h2 => va_up_ne _ _ (by omega))
        refine R_iinc (lv' := [_, _, _, _, _, _, _, _, _]) rfl rfl rfl ?_
        refine R_aload_n rfl rfl ?_
        refine R_getfield rfl rfl (by omega) ((va_up_ne _ _ (by first | exact kne rfl | exact kz | exact kz.symm | omega)).trans p0) rfl ?_
        refine R_iload rfl rfl ?_
        refine R_iload_n rfl rfl ?_
        refine R_vcall rfl rfl ⟨(by omega), hS.rcv⟩ ⟨Nat.le_of_ble_eq_true rfl, Nat.le_of_ble_eq_true rfl, Nat.zero_le _, Nat.zero_le _⟩ (isJoined_T hS hG (by omega) ⟨by omega, by omega⟩ (fun z99 hz99 => aRes_i (rest := []) ?_))
        have hj99 := jn_res hz hz99
        rw [hx, run_jn hG hc (by omega)] at hj99
        refine R_istore (lv' := [_, _, _, _, _, _, _, _, _]) rfl rfl ?_
        refine R_iload rfl rfl ?_
        refine R_iload rfl rfl ?_
        refine R_iadd rfl ?_
        refine R_istore (lv' := [_, _, _, _, _, _, _, _, _]) rfl rfl ?_
        refine R_goto rfl ?_
        rw [hj99]
        exact ih (r - 1) (by omega) (i + 1) (x + sp G true) _ _ _ _ _ (by omega) (by rw [hx, step_eq]) (by omega) (by omega) (by
          by_cases q : i + 1 < ln G true c
          · exact Or.inl ⟨congrArg bI (decide_eq_true q), by omega⟩
          · exact Or.inr ⟨congrArg bI (decide_eq_false q), by omega⟩) ((va_up_ne _ _ (by omega)).trans p0) hS (va_up_self _ _ _) (fun h' X' z' g' q1 q2 q3 q4 => k0 h' X' z' g' q1 (fun j hj => (q2 j hj).trans (va_up_ne _ _ hj)) (fun j h1 h2 => by
            rcases Nat.lt_or_ge i j with q | q
            · exact q3 j (by omega) h2
            · have e1 : j = i := by omega
              rw [e1, q4 _ (fun j h1 h2 => run_ne hG (by omega)), ← hx, show zc.toNat = x by omega, va_up_self]) (fun y hy => by
            rw [q4 y (fun j h1 h2 => hy j (by omega) h2), va_up_ne]
            rw [show zc.toNat = x by omega, hx]
            exact hy i (Nat.le_refl _) (by omega)))
theorem addEntryA_T {d k N c e : Nat} {h : AH} {G : Gr} {Q : AQ} {A C : Int} {F Ln Dn Ac Dw Cl : Nat → Int} (hP : isPx h k G e A C F Ln Dn Ac Dw Cl) (hG : okG G) (hN : k + 12 ≤ N) (he : e < 36) (hc : c < qM G) (hQ : ∀ h' X, isPx h' k G (e + 1 : Nat) A C (va_up F e c) (va_up Ln e (ln G false c)) (va_up Dn e (bI false)) X Dw Cl → (∀ i, i < ln G false c → X (c + i * sp G false) = e) → (∀ y, (¬ ∃ i, i < ln G false c ∧ y = c + i * sp G false) → X y = Ac y) → fr h h' k 12 → Q (.inl none) h' N) : T (d + 3) 30 [vR k, vI c, vI (bI false)] h N Q := by
  obtain ⟨p0, hS, p2, p3, p4, p5, p6, p7⟩ := hP
  obtain ⟨hm4, hm36⟩ := hG.m
  obtain ⟨-, -, hl1, hl6⟩ := ln_spec hG (b := false) hc
  obtain ⟨rb, bb, s0⟩ := hS.e0
  refine T_body (I := mi_X4_addEntry) (lv := [_, _, _, _, _, _, _, _, _]) rfl (Nat.le_of_ble_eq_true rfl) rfl ?_
  refine R_aload_n rfl rfl ?_
  refine R_getfield rfl rfl (by omega) p0 rfl ?_
  refine R_istore_n (lv' := [_, _, _, _, _, _, _, _, _]) rfl rfl ?_
  refine R_iload_n rfl rfl ?_
  refine R_iflt rfl ⟨by omega, by omega⟩ (fun c6 => ?_) (fun c6 => ?_)
  · exact absurd c6 (by omega)
  · refine R_iload_n rfl rfl ?_
    refine R_bipush rfl ?_
    refine R_icmplt rfl ⟨by omega, by omega⟩ ⟨by decide, by decide⟩ (fun c12 => ?_) (fun c12 => ?_)
    · refine R_iload_n rfl rfl ?_
      refine R_ifeq rfl ⟨by decide, by decide⟩ (fun _ => ?_) (fun c0 => absurd c0 (by decide))
      refine R_aload_n rfl rfl ?_
      refine R_getfield rfl rfl (by omega) p0 rfl ?_
      refine R_astore (lv' := [_, _, _, _, _, _, _, _, _]) rfl rfl ?_
      refine R_iload_n rfl rfl ?_
      refine R_ifeq rfl ⟨by decide, by decide⟩ (fun _ => ?_) (fun c0 => absurd c0 (by decide))
      refine R_iconst rfl ?_
      refine R_istore (lv' := [_, _, _, _, _, _, _, _, _]) rfl rfl ?_
      refine R_iload_n rfl rfl ?_
      refine R_istore (lv' := [_, _, _, _, _, _, _, _, _]) rfl rfl ?_
      refine R_iconst rfl ?_
      refine R_istore (lv' := [_, _, _, _, _, _, _, _, _]) rfl rfl ?_
      refine R_iconst rfl ?_
      refine R_istore (lv' := [_, _, _, _, _, _, _, _, _]) rfl rfl ?_
      refine addLoopA hG hN hc (ln G false c) 0 c _ _ _ h _ (Nat.zero_add _) (by rw [Nat.zero_mul]; rfl) rfl rfl (Or.inl ⟨rfl, by omega⟩) p0 hS p5 (fun h1 X1 z1 g1 x1 x2 x3 x4 => ?_)
      replace p0 := (x2 _ (by omega)).trans p0
      replace p2 := (x2 _ (by omega)).trans p2
      replace p3 := (x2 _ (by omega)).trans p3
      replace p4 := (x2 _ (by omega)).trans p4
      replace p6 := (x2 _ (by omega)).trans p6
      replace p7 := (x2 _ (by omega)).trans p7
      replace hS := isSt_fr hS (fun j h1 h2 => x2 j (by omega))
      refine R_aload_n rfl rfl ?_
      refine R_getfield rfl rfl (by omega) p0 rfl ?_
      refine R_iload_n rfl rfl ?_
      refine R_iload_n rfl rfl ?_
      refine R_iastore rfl (by omega) p2 ⟨by omega, by omega, by omega⟩ ?_
      refine R_aload_n rfl rfl ?_
      refine R_getfield rfl rfl (by omega) ((va_up_ne _ _ (by first | exact kne rfl | exact kz | exact kz.symm | omega)).trans p0) rfl ?_
      refine R_iload_n rfl rfl ?_
      refine R_iload rfl rfl ?_
      refine R_iastore rfl (by omega) ((va_up_ne _ _ (by first | exact kne rfl | exact kz | exact kz.symm | omega)).trans p3) ⟨by omega, by omega, by omega⟩ ?_
      refine R_aload_n rfl rfl ?_
      refine R_getfield rfl rfl (by omega) ((va_up_ne _ _ (by first | exact kne rfl | exact kz | exact kz.symm | omega)).trans ((va_up_ne _ _ (by first | exact kne rfl | exact kz | exact kz.symm | omega)).trans p0)) rfl ?_
      refine R_iload_n rfl rfl ?_
      refine R_iload_n rfl rfl ?_
      refine R_bastore rfl (by omega) (by first | exact Or.inl rfl | exact Or.inr rfl | omega) ((va_up_ne _ _ (by first | exact kne rfl | exact kz | exact kz.symm | omega)).trans ((va_up_ne _ _ (by first | exact kne rfl | exact kz | exact kz.symm | omega)).trans p4)) ⟨by omega, by omega, by omega⟩ ?_
      refine R_aload_n rfl rfl ?_
      refine R_dup rfl rfl ?_
      refine R_getfield rfl rfl (by omega) ((va_up_ne _ _ (by first | exact kne rfl | exact kz | exact kz.symm | omega)).trans ((va_up_ne _ _ (by first | exact kne rfl | exact kz | exact kz.symm | omega)).trans ((va_up_ne _ _ (by first | exact kne rfl | exact kz | exact kz.symm | omega)).trans p0))) rfl ?_
      refine R_iconst rfl ?_
      refine R_iadd rfl ?_
      refine R_putfield rfl rfl (by omega) ((va_up_ne _ _ (by first | exact kne rfl | exact kz | exact kz.symm | omega)).trans ((va_up_ne _ _ (by first | exact kne rfl | exact kz | exact kz.symm | omega)).trans ((va_up_ne _ _ (by first | exact kne rfl | exact kz | exact kz.symm | omega)).trans p0))) (Nat.le_of_ble_eq_true rfl) (by first | trivial | exact trivial | omega) ?_
      exact R_return rfl (Nat.zero_le _) (Nat.zero_le _) (hQ _ X1 ⟨(va_up_self _ _ _), isSt_fr hS (fun j h1 h2 => (va_up_ne _ _ (by omega)).trans ((va_up_ne _ _ (by omega)).trans ((va_up_ne _ _ (by omega)).trans (va_up_ne _ _ (by omega))))), ((va_up_ne _ _ (by first | exact kne rfl | exact kz | exact kz.symm | omega)).trans ((va_up_ne _ _ (by first | exact kne rfl | exact kz | exact kz.symm | omega)).trans ((va_up_ne _ _ (by first | exact kne rfl | exact kz | exact kz.symm | omega)).trans (va_up_self _ _ _)))), ((va_up_ne _ _ (by first | exact kne rfl | exact kz | exact kz.symm | omega)).trans ((va_up_ne _ _ (by first | exact kne rfl | exact kz | exact kz.symm | omega)).trans (va_up_self _ _ _))), ((va_up_ne _ _ (by first | exact kne rfl | exact kz | exact kz.symm | omega)).trans (va_up_self _ _ _)), ((va_up_ne _ _ (by first | exact kne rfl | exact kz | exact kz.symm | omega)).trans ((va_up_ne _ _ (by first | exact kne rfl | exact kz | exact kz.symm | omega)).trans ((va_up_ne _ _ (by first | exact kne rfl | exact kz | exact kz.symm | omega)).trans ((va_up_ne _ _ (by first | exact kne rfl | exact kz | exact kz.symm | omega)).trans x1)))), ((va_up_ne _ _ (by first | exact kne rfl | exact kz | exact kz.symm | omega)).trans ((va_up_ne _ _ (by first | exact kne rfl | exact kz | exact kz.symm | omega)).trans ((va_up_ne _ _ (by first | exact kne rfl | exact kz | exact kz.symm | omega)).trans ((va_up_ne _ _ (by first | exact kne rfl | exact kz | exact kz.symm | omega)).trans p6)))), ((va_up_ne _ _ (by first | exact kne rfl | exact kz | exact kz.symm | omega)).trans ((va_up_ne _ _ (by first | exact kne rfl | exact kz | exact kz.symm | omega)).trans ((va_up_ne _ _ (by first | exact kne rfl | exact kz | exact kz.symm | omega)).trans ((va_up_ne _ _ (by first | exact kne rfl | exact kz | exact kz.symm | omega)).trans p7))))⟩ (fun i hi => x3 i (Nat.zero_le _) hi) (fun y hy => x4 y (fun j _ h2 q => hy ⟨j, h2, q⟩)) (fun j hj => (va_up_ne _ _ (by omega)).trans ((va_up_ne _ _ (by omega)).trans ((va_up_ne _ _ (by omega)).trans ((va_up_ne _ _ (by omega)).trans (x2 j (by omega)))))))
    · exact absurd c12 (by omega)
theorem addEntryD_T {d k N c e : Nat} {h : AH} {G : Gr} {Q : AQ} {A C : Int} {F Ln Dn Ac Dw Cl : Nat → Int} (hP : isPx h k G e A C F Ln Dn Ac Dw Cl) (hG : okG G) (hN : k + 12 ≤ N) (he : e < 36) (hc : c < qM G) (hQ : ∀ h' X, isPx h' k G (e + 1 : Nat) A C (va_up F e c) (va_up Ln e (ln G true c)) (va_up Dn e (bI true)) Ac X Cl → (∀ i, i < ln G true c → X (c + i * sp G true) = e) → (∀ y, (¬ ∃ i, i < ln G true c ∧ y = c + i * sp G true) → X y = Dw y) → fr h h' k 12 → Q (.inl none) h' N) : T (d + 3) 30 [vR k, vI c, vI (bI true)] h N Q := by
  obtain ⟨p0, hS, p2, p3, p4, p5, p6, p7⟩ := hP
  obtain ⟨hm4, hm36⟩ := hG.m
  obtain ⟨-, -, hl1, hl6⟩ := ln_spec hG (b := true) hc
  obtain ⟨rb, bb, s0⟩ := hS.e0
  refine T_body (I := mi_X4_addEntry) (lv := [_, _, _, _, _, _, _, _, _]) rfl (Nat.le_of_ble_eq_true rfl) rfl ?_
  refine R_aload_n rfl rfl ?_
  refine R_getfield rfl rfl (by omega) p0 rfl ?_
  refine R_istore_n (lv' := [_, _, _, _, _, _, _, _, _]) rfl rfl ?_
  refine R_iload_n rfl rfl ?_
  refine R_iflt rfl ⟨by omega, by omega⟩ (fun c6 => ?_) (fun c6 => ?_)
  · exact absurd c6 (by omega)
  · refine R_iload_n rfl rfl ?_
    refine R_bipush rfl ?_
    refine R_icmplt rfl ⟨by omega, by omega⟩ ⟨by decide, by decide⟩ (fun c12 => ?_) (fun c12 => ?_)
    · refine R_iload_n rfl rfl ?_
      refine R_ifeq rfl ⟨by decide, by decide⟩ (fun c0 => absurd c0 (by decide)) (fun _ => ?_)
      refine R_aload_n rfl rfl ?_
      refine R_getfield rfl rfl (by omega) p0 rfl ?_
      refine R_goto rfl ?_
      refine R_astore (lv' := [_, _, _, _, _, _, _, _, _]) rfl rfl ?_
      refine R_iload_n rfl rfl ?_
      refine R_ifeq rfl ⟨by decide, by decide⟩ (fun c0 => absurd c0 (by decide)) (fun _ => ?_)
      refine R_aload_n rfl rfl ?_
      refine R_getfield rfl rfl (by omega) p0 rfl ?_
      refine R_getfield rfl rfl (by omega) s0 rfl ?_
      refine R_goto rfl ?_
      refine R_istore (lv' := [_, _, _, _, _, _, _, _, _]) rfl rfl ?_
      refine R_iload_n rfl rfl ?_
      refine R_istore (lv' := [_, _, _, _, _, _, _, _, _]) rfl rfl ?_
      refine R_iconst rfl ?_
      refine R_istore (lv' := [_, _, _, _, _, _, _, _, _]) rfl rfl ?_
      refine R_iconst rfl ?_
      refine R_istore (lv' := [_, _, _, _, _, _, _, _, _]) rfl rfl ?_
      refine addLoopD hG hN hc (ln G true c) 0 c _ _ _ h _ (Nat.zero_add _) (by rw [Nat.zero_mul]; rfl) rfl rfl (Or.inl ⟨rfl, by omega⟩) p0 hS p6 (fun h1 X1 z1 g1 x1 x2 x3 x4 => ?_)
      replace p0 := (x2 _ (by omega)).trans p0
      replace p2 := (x2 _ (by omega)).trans p2
      replace p3 := (x2 _ (by omega)).trans p3
      replace p4 := (x2 _ (by omega)).trans p4
      replace p5 := (x2 _ (by omega)).trans p5
      replace p7 := (x2 _ (by omega)).trans p7
      replace hS := isSt_fr hS (fun j h1 h2 => x2 j (by omega))
      refine R_aload_n rfl rfl ?_
      refine R_getfield rfl rfl (by omega) p0 rfl ?_
      refine R_iload_n rfl rfl ?_
      refine R_iload_n rfl rfl ?_
      refine R_iastore rfl (by omega) p2 ⟨by omega, by omega, by omega⟩ ?_
      refine R_aload_n rfl rfl ?_
      refine R_getfield rfl rfl (by omega) ((va_up_ne _ _ (by first | exact kne rfl | exact kz | exact kz.symm | omega)).trans p0) rfl ?_
      refine R_iload_n rfl rfl ?_
      refine R_iload rfl rfl ?_
      refine R_iastore rfl (by omega) ((va_up_ne _ _ (by first | exact kne rfl | exact kz | exact kz.symm | omega)).trans p3) ⟨by omega, by omega, by omega⟩ ?_
      refine R_aload_n rfl rfl ?_
      refine R_getfield rfl rfl (by omega) ((va_up_ne _ _ (by first | exact kne rfl | exact kz | exact kz.symm | omega)).trans ((va_up_ne _ _ (by first | exact kne rfl | exact kz | exact kz.symm | omega)).trans p0)) rfl ?_
      refine R_iload_n rfl rfl ?_
      refine R_iload_n rfl rfl ?_
      refine R_bastore rfl (by omega) (by first | exact Or.inl rfl | exact Or.inr rfl | omega) ((va_up_ne _ _ (by first | exact kne rfl | exact kz | exact kz.symm | omega)).trans ((va_up_ne _ _ (by first | exact kne rfl | exact kz | exact kz.symm | omega)).trans p4)) ⟨by omega, by omega, by omega⟩ ?_
      refine R_aload_n rfl rfl ?_
      refine R_dup rfl rfl ?_
      refine R_getfield rfl rfl (by omega) ((va_up_ne _ _ (by first | exact kne rfl | exact kz | exact kz.symm | omega)).trans ((va_up_ne _ _ (by first | exact kne rfl | exact kz | exact kz.symm | omega)).trans ((va_up_ne _ _ (by first | exact kne rfl | exact kz | exact kz.symm | omega)).trans p0))) rfl ?_
      refine R_iconst rfl ?_
      refine R_iadd rfl ?_
      refine R_putfield rfl rfl (by omega) ((va_up_ne _ _ (by first | exact kne rfl | exact kz | exact kz.symm | omega)).trans ((va_up_ne _ _ (by first | exact kne rfl | exact kz | exact kz.symm | omega)).trans ((va_up_ne _ _ (by first | exact kne rfl | exact kz | exact kz.symm | omega)).trans p0))) (Nat.le_of_ble_eq_true rfl) (by first | trivial | exact trivial | omega) ?_
      exact R_return rfl (Nat.zero_le _) (Nat.zero_le _) (hQ _ X1 ⟨(va_up_self _ _ _), isSt_fr hS (fun j h1 h2 => (va_up_ne _ _ (by omega)).trans ((va_up_ne _ _ (by omega)).trans ((va_up_ne _ _ (by omega)).trans (va_up_ne _ _ (by omega))))), ((va_up_ne _ _ (by first | exact kne rfl | exact kz | exact kz.symm | omega)).trans ((va_up_ne _ _ (by first | exact kne rfl | exact kz | exact kz.symm | omega)).trans ((va_up_ne _ _ (by first | exact kne rfl | exact kz | exact kz.symm | omega)).trans (va_up_self _ _ _)))), ((va_up_ne _ _ (by first | exact kne rfl | exact kz | exact kz.symm | omega)).trans ((va_up_ne _ _ (by first | exact kne rfl | exact kz | exact kz.symm | omega)).trans (va_up_self _ _ _))), ((va_up_ne _ _ (by first | exact kne rfl | exact kz | exact kz.symm | omega)).trans (va_up_self _ _ _)), ((va_up_ne _ _ (by first | exact kne rfl | exact kz | exact kz.symm | omega)).trans ((va_up_ne _ _ (by first | exact kne rfl | exact kz | exact kz.symm | omega)).trans ((va_up_ne _ _ (by first | exact kne rfl | exact kz | exact kz.symm | omega)).trans ((va_up_ne _ _ (by first | exact kne rfl | exact kz | exact kz.symm | omega)).trans p5)))), ((va_up_ne _ _ (by first | exact kne rfl | exact kz | exact kz.symm | omega)).trans ((va_up_ne _ _ (by first | exact kne rfl | exact kz | exact kz.symm | omega)).trans ((va_up_ne _ _ (by first | exact kne rfl | exact kz | exact kz.symm | omega)).trans ((va_up_ne _ _ (by first | exact kne rfl | exact kz | exact kz.symm | omega)).trans x1)))), ((va_up_ne _ _ (by first | exact kne rfl | exact kz | exact kz.symm | omega)).trans ((va_up_ne _ _ (by first | exact kne rfl | exact kz | exact kz.symm | omega)).trans ((va_up_ne _ _ (by first | exact kne rfl | exact kz | exact kz.symm | omega)).trans ((va_up_ne _ _ (by first | exact kne rfl | exact kz | exact kz.symm | omega)).trans p7))))⟩ (fun i hi => x3 i (Nat.zero_le _) hi) (fun y hy => x4 y (fun j _ h2 q => hy ⟨j, h2, q⟩)) (fun j hj => (va_up_ne _ _ (by omega)).trans ((va_up_ne _ _ (by omega)).trans ((va_up_ne _ _ (by omega)).trans ((va_up_ne _ _ (by omega)).trans (x2 j (by omega)))))))
    · exact absurd c12 (by omega)
