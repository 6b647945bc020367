/-! ===== the model: fillings, hardest, mend ===== -/
theorem sm_skip {g : Nat → Nat} {m : Nat} : ∀ k i, (∀ j, i ≤ j → j < i + k → g j = 0) → smF g (k + m) i = smF g m (i + k)
  | 0, i, _ => by rw [Nat.zero_add, Nat.add_zero]
  | k + 1, i, h => by
    rw [show k + 1 + m = (k + m) + 1 by omega]
    show g i + smF g (k + m) (i + 1) = _
    rw [h i (Nat.le_refl _) (by omega), Nat.zero_add, sm_skip k (i + 1) (fun j h1 h2 => h j (by omega) (by omega)), show i + 1 + k = i + (k + 1) by omega]
theorem sm_none {g : Nat → Nat} {m i : Nat} (h : ∀ j, i ≤ j → j < i + m → g j = 0) : smF g m i = 0 := by
  have := sm_skip (g := g) (m := 0) m i h
  rw [Nat.add_zero] at this
  exact this
def gW9 (G : Gr) (r : Nat) (ch : List Nat) (w : Nat) : Nat := if okF G ch w = true then flF G r (ch ++ [w]) else 0
theorem sm_at {G : Gr} {r : Nat} {ch : List Nat} {m i c : Nat} (hm : i + m = qW G) (h1 : i ≤ c) (h2 : c < qW G) (hno : ∀ j, i ≤ j → j < c → okF G ch j = false) (hc : okF G ch c = true) : smF (gW9 G r ch) m i = flF G r (ch ++ [c]) + smF (gW9 G r ch) (qW G - (c + 1)) (c + 1) := by
  have e1 := sm_skip (g := gW9 G r ch) (m := (qW G - (c + 1)) + 1) (c - i) i (fun j h3 h4 => if_neg (by rw [hno j h3 (by omega)]; decide))
  rw [show c - i + (qW G - (c + 1) + 1) = m by omega, show i + (c - i) = c by omega] at e1
  rw [e1]
  show gW9 G r ch c + smF (gW9 G r ch) (qW G - (c + 1)) (c + 1) = _
  rw [show gW9 G r ch c = flF G r (ch ++ [c]) from if_pos hc]
theorem okF_len {G : Gr} {ch : List Nat} {w : Nat} (h : okF G ch w = true) : eN G ch.length = qWn G w := by
  unfold okF at h
  rw [Bool.and_eq_true, Bool.and_eq_true] at h
  exact fiG_len h.1.1
def lvW (d N : Nat) (G : Gr) (th tl rm : Int) (Q : AQ) (r : Nat) : Prop := ∀ (ch : List Nat), ch.length + r + 1 = nE G → okc G ch → ∀ (m i a : Nat) (h : AH) (X : Nat → Int) (zn zd : Int) (l3 : Option AV), i + m = qW G → isMg h G th tl rm → h 137 = eI 9 X → chX ch X → X ch.length = (i : Int) - 1 → zn = a → zd = ch.length → (∀ h' X' l3', h' 137 = eI 9 X' → chX ch X' → fr h h' 137 1 → Run mi_X9_fillings (T (d + 3)) Q 50 [some (vR 122), some (vI ((a + smF (gW9 G r ch) m i : Nat) : Int)), some (vI ((ch.length : Int) - 1)), l3'] [] h' N 0 0) → Run mi_X9_fillings (T (d + 3)) Q 50 [some (vR 122), some (vI zn), some (vI zd), l3] [] h N 0 0
theorem msw_loop {d N : Nat} {h : AH} {G : Gr} {th tl rm : Int} {Q : AQ} (hM : isMg h G th tl rm) (hG : okG G) (hN : 139 ≤ N) {ch : List Nat} {X : Nat → Int} (m18 : h 137 = eI 9 X) (hX : chX ch X) (hoc : okc G ch) (hn8 : nE G ≤ 8) (he : ch.length < nE G) {zd : Int} (hzd : zd = ch.length) {nz : Int} : ∀ (r i : Nat) (zi : Int), i + r = qW G → zi = i → (∀ (c : Nat) (zc : Int), zc = c → i ≤ c → c ≤ qW G → (∀ j, i ≤ j → j < c → okF G ch j = false) → (c < qW G → okF G ch c = true) → Run mi_X9_fillings (T (d + 3)) Q 89 [some (vR 122), some (vI nz), some (vI zd), some (vI zc)] [] h N 0 0) → Run mi_X9_fillings (T (d + 3)) Q 63 [some (vR 122), some (vI nz), some (vI zd), some (vI zi)] [] h N 0 0 := by
  obtain ⟨F, D, L, A, W, C, hZ, m11, m12, m13, m14, m15, m16, hE, hA, hW, hC⟩ := id hM
  obtain ⟨S, m0, m3, hR⟩ := id hZ
  obtain ⟨hr0, hr1, rL, rE, rS, hr110, rWn, rWl, hr167, rNl⟩ := id hR
  have r0 : S (0 : Int).toNat = (qR G : Int) := hr0
  have r1 : S (1 : Int).toNat = (qC G : Int) := hr1
  have r110 : S (110 : Int).toNat = (qW G : Int) := hr110
  have r167 : S (167 : Int).toNat = (qN G : Int) := hr167
  obtain ⟨hm4, hm36⟩ := hG.m
  have hmi := qM_int G
  obtain ⟨⟨hr2, hr6⟩, ⟨hc2, hc6⟩, gL, gB, gW, gWn, gWl, gN, gNl⟩ := id hG
  have hn36 := nE36 hG
  intro r
  induction r using Nat.strongRecOn with
  | ind r ih =>
  intro i zi hr hzi kc
  refine R_iload_n rfl rfl ?_
  refine R_aload_n rfl rfl ?_
  refine R_getfield rfl rfl (by omega) m0 rfl ?_
  refine R_bipush rfl ?_
  refine R_iaload rfl (Or.inl (by omega)) m3 ⟨by omega, by omega, by omega⟩ ?_
  rw [r110]
  refine R_icmpge rfl ⟨by omega, by omega⟩ ⟨by omega, by omega⟩ (fun c71 => ?_) (fun c71 => ?_)
  · have hr0 : r = 0 := by omega
    subst hr0
    first
    | exact kc i _ hzi (Nat.le_refl _) (by omega) (fun j h1 h2 => absurd h1 (by omega)) (fun q => absurd q (by omega))
    | exact kc i _ hzi (Nat.le_refl _) (by omega) (fun j h1 h2 => absurd h1 (by omega)) (fun _ => hp)
  · obtain ⟨r, rfl⟩ : ∃ r1, r = r1 + 1 := ⟨r - 1, by omega⟩
    refine R_aload_n rfl rfl ?_
    refine R_iload_n rfl rfl ?_
    refine R_iload_n rfl rfl ?_
    refine R_vcall rfl rfl ⟨(by omega), _, m0⟩ ⟨Nat.le_of_ble_eq_true rfl, Nat.le_of_ble_eq_true rfl, Nat.zero_le _, Nat.zero_le _⟩ (mCanFill_T (ch := ch) (w := i) hM hG hN m18 hX hoc hn8 he (by omega) hzd hzi (fun z77 hz77 => aRes_i (rest := []) ?_))
    have h01 := bI01 (okF G ch i)
    rw [← hz77] at h01
    refine R_ifne rfl ⟨by omega, by omega⟩ (fun c80 => ?_) (fun c80 => ?_)
    · have hp : okF G ch i = true := bI_t hz77 (by omega)
      first
      | exact kc i _ hzi (Nat.le_refl _) (by omega) (fun j h1 h2 => absurd h1 (by omega)) (fun q => absurd q (by omega))
      | exact kc i _ hzi (Nat.le_refl _) (by omega) (fun j h1 h2 => absurd h1 (by omega)) (fun _ => hp)
    · have hp : okF G ch i = false := bI_f hz77 (by omega)
      refine R_iinc (lv' := [_, _, _, _]) rfl rfl rfl ?_
      refine R_goto rfl ?_
      exact ih r (by omega) (i + 1) _ (by omega) (by omega) (fun c1 z1 h1 h2 h3 h4 h5 => kc c1 z1 h1 (by omega) h3 (fun j h6 h7 => by
        by_cases q : j = i
        · rw [q]
          exact hp
        · exact h4 j (by omega) h7) h5)
theorem mlw_0 {d N : Nat} {G : Gr} {th tl rm : Int} {Q : AQ} (hG : okG G) (hN : 139 ≤ N) (hn8 : nE G ≤ 8) : lvW d N G th tl rm Q 0 := by
  intro ch hr hoc m
  induction m using Nat.strongRecOn with
  | ind m ih =>
  intro i a h X zn zd l3 hm hM m18 hX hXi hzn hzd kK
  obtain ⟨F, D, L, A, W, C, hZ, m11, m12, m13, m14, m15, m16, hE, hA, hW, hC⟩ := id hM
  obtain ⟨S, m0, m3, hR⟩ := id hZ
  obtain ⟨hr0, hr1, rL, rE, rS, hr110, rWn, rWl, hr167, rNl⟩ := id hR
  have r0 : S (0 : Int).toNat = (qR G : Int) := hr0
  have r1 : S (1 : Int).toNat = (qC G : Int) := hr1
  have r110 : S (110 : Int).toNat = (qW G : Int) := hr110
  have r167 : S (167 : Int).toNat = (qN G : Int) := hr167
  obtain ⟨hm4, hm36⟩ := hG.m
  have hmi := qM_int G
  obtain ⟨⟨hr2, hr6⟩, ⟨hc2, hc6⟩, gL, gB, gW, gWn, gWl, gN, gNl⟩ := id hG
  have hn36 := nE36 hG
  refine R_iload_n rfl rfl ?_
  refine R_iflt rfl ⟨by omega, by omega⟩ (fun c51 => ?_) (fun c51 => ?_)
  · exact absurd c51 (by omega)
  · refine R_aload_n rfl rfl ?_
    refine R_getfield rfl rfl (by omega) m0 rfl ?_
    refine R_iload_n rfl rfl ?_
    refine R_iaload rfl (Or.inl (by omega)) m18 ⟨by omega, by omega, by omega⟩ ?_
    refine R_iconst rfl ?_
    refine R_iadd rfl ?_
    refine R_istore_n (lv' := [_, _, _, _]) rfl rfl ?_
    have hxi : X zd.toNat = (i : Int) - 1 := by
      rw [show zd.toNat = ch.length by omega]
      exact hXi
    refine msw_loop hM hG hN m18 hX hoc hn8 (by omega) hzd m i (X zd.toNat + 1) hm (by omega) (fun c zc hzc h1 h2 hno hyes => ?_)
    refine R_aload_n rfl rfl ?_
    refine R_getfield rfl rfl (by omega) m0 rfl ?_
    refine R_iload_n rfl rfl ?_
    refine R_iload_n rfl rfl ?_
    refine R_iastore rfl (by omega) m18 ⟨by omega, by omega, by omega⟩ ?_
    refine R_iload_n rfl rfl ?_
    refine R_aload_n rfl rfl ?_
    refine R_getfield rfl rfl (by omega) ((va_up_ne _ _ (by first | exact kne rfl | exact kz | exact kz.symm | omega)).trans m0) rfl ?_
    refine R_bipush rfl ?_
    refine R_iaload rfl (Or.inl (by omega)) ((va_up_ne _ _ (by first | exact kne rfl | exact kz | exact kz.symm | omega)).trans m3) ⟨by omega, by omega, by omega⟩ ?_
    rw [r110]
    refine R_icmpne rfl ⟨by omega, by omega⟩ ⟨by omega, by omega⟩ (fun c104 => ?_) (fun c104 => ?_)
    · have hcl : c < qW G := by omega
      have hcr := hyes hcl
      have hfl := sm_at (r := 0) hm h1 hcl hno hcr
      have hx9 : va_up X zd.toNat zc ch.length = (c : Int) := by
        rw [show ch.length = zd.toNat by omega, va_up_self, hzc]
      have hX9 : chX ch (va_up X zd.toNat zc) := chX_up hX (by omega)
      have hXc := chX_app hX9 hx9
      rw [hfl] at kK
      refine R_iload_n rfl rfl ?_
      refine R_iconst rfl ?_
      refine R_iadd rfl ?_
      refine R_aload_n rfl rfl ?_
      refine R_getfield rfl rfl (by omega) ((va_up_ne _ _ (by first | exact kne rfl | exact kz | exact kz.symm | omega)).trans m0) rfl ?_
      refine R_icmpne rfl ⟨by omega, by omega⟩ ⟨by omega, by omega⟩ (fun c120 => ?_) (fun c120 => ?_)
      · exact absurd c120 (by omega)
      · refine R_iinc (lv' := [_, _, _, _]) rfl rfl rfl ?_
        refine R_goto rfl ?_
        refine R_goto rfl ?_
        exact ih (qW G - (c + 1)) (by omega) (c + 1) (a + 1) _ (va_up X zd.toNat zc) _ _ _ (by omega) (isMg_f hM (fr_0 (a := 137)) (by decide)) (va_up_self _ _ _) hX9 (by rw [hx9]; omega) (by omega) hzd (fun h9 X' l3' q1 q2 q3 => by
          have := kK h9 X' l3' q1 q2 (fr_0.trans q3)
          rw [show flF G 0 (ch ++ [c]) = 1 from rfl, ← Nat.add_assoc] at this
          exact this)
    · have hcm : c = qW G := by omega
      have hnil : smF (gW9 G 0 ch) m i = 0 := sm_none (fun j h3 h4 => if_neg (by rw [hno j h3 (by omega)]; decide))
      rw [hnil] at kK
      refine R_iinc (lv' := [_, _, _, _]) rfl rfl rfl ?_
      refine R_goto rfl ?_
      refine R_goto rfl ?_
      rw [show zd + -1 = (ch.length : Int) - 1 by omega, hzn]
      exact kK _ (va_up X zd.toNat zc) _ (va_up_self _ _ _) (chX_up hX (by omega)) fr_0
theorem mlw_s {d N : Nat} {G : Gr} {th tl rm : Int} {Q : AQ} (hG : okG G) (hN : 139 ≤ N) (hn8 : nE G ≤ 8) {r : Nat} (HV : lvW d N G th tl rm Q r) : lvW d N G th tl rm Q (r + 1) := by
  intro ch hr hoc m
  induction m using Nat.strongRecOn with
  | ind m ih =>
  intro i a h X zn zd l3 hm hM m18 hX hXi hzn hzd kK
  obtain ⟨F, D, L, A, W, C, hZ, m11, m12, m13, m14, m15, m16, hE, hA, hW, hC⟩ := id hM
  obtain ⟨S, m0, m3, hR⟩ := id hZ
  obtain ⟨hr0, hr1, rL, rE, rS, hr110, rWn, rWl, hr167, rNl⟩ := id hR
  have r0 : S (0 : Int).toNat = (qR G : Int) := hr0
  have r1 : S (1 : Int).toNat = (qC G : Int) := hr1
  have r110 : S (110 : Int).toNat = (qW G : Int) := hr110
  have r167 : S (167 : Int).toNat = (qN G : Int) := hr167
  obtain ⟨hm4, hm36⟩ := hG.m
  have hmi := qM_int G
  obtain ⟨⟨hr2, hr6⟩, ⟨hc2, hc6⟩, gL, gB, gW, gWn, gWl, gN, gNl⟩ := id hG
  have hn36 := nE36 hG
  refine R_iload_n rfl rfl ?_
  refine R_iflt rfl ⟨by omega, by omega⟩ (fun c51 => ?_) (fun c51 => ?_)
  · exact absurd c51 (by omega)
  · refine R_aload_n rfl rfl ?_
    refine R_getfield rfl rfl (by omega) m0 rfl ?_
    refine R_iload_n rfl rfl ?_
    refine R_iaload rfl (Or.inl (by omega)) m18 ⟨by omega, by omega, by omega⟩ ?_
    refine R_iconst rfl ?_
    refine R_iadd rfl ?_
    refine R_istore_n (lv' := [_, _, _, _]) rfl rfl ?_
    have hxi : X zd.toNat = (i : Int) - 1 := by
      rw [show zd.toNat = ch.length by omega]
      exact hXi
    refine msw_loop hM hG hN m18 hX hoc hn8 (by omega) hzd m i (X zd.toNat + 1) hm (by omega) (fun c zc hzc h1 h2 hno hyes => ?_)
    refine R_aload_n rfl rfl ?_
    refine R_getfield rfl rfl (by omega) m0 rfl ?_
    refine R_iload_n rfl rfl ?_
    refine R_iload_n rfl rfl ?_
    refine R_iastore rfl (by omega) m18 ⟨by omega, by omega, by omega⟩ ?_
    refine R_iload_n rfl rfl ?_
    refine R_aload_n rfl rfl ?_
    refine R_getfield rfl rfl (by omega) ((va_up_ne _ _ (by first | exact kne rfl | exact kz | exact kz.symm | omega)).trans m0) rfl ?_
    refine R_bipush rfl ?_
    refine R_iaload rfl (Or.inl (by omega)) ((va_up_ne _ _ (by first | exact kne rfl | exact kz | exact kz.symm | omega)).trans m3) ⟨by omega, by omega, by omega⟩ ?_
    rw [r110]
    refine R_icmpne rfl ⟨by omega, by omega⟩ ⟨by omega, by omega⟩ (fun c104 => ?_) (fun c104 => ?_)
    · have hcl : c < qW G := by omega
      have hcr := hyes hcl
      have hfl := sm_at (r := (r + 1)) hm h1 hcl hno hcr
      have hx9 : va_up X zd.toNat zc ch.length = (c : Int) := by
        rw [show ch.length = zd.toNat by omega, va_up_self, hzc]
      have hX9 : chX ch (va_up X zd.toNat zc) := chX_up hX (by omega)
      have hXc := chX_app hX9 hx9
      rw [hfl] at kK
      refine R_iload_n rfl rfl ?_
      refine R_iconst rfl ?_
      refine R_iadd rfl ?_
      refine R_aload_n rfl rfl ?_
      refine R_getfield rfl rfl (by omega) ((va_up_ne _ _ (by first | exact kne rfl | exact kz | exact kz.symm | omega)).trans m0) rfl ?_
      refine R_icmpne rfl ⟨by omega, by omega⟩ ⟨by omega, by omega⟩ (fun c120 => ?_) (fun c120 => ?_)
      · refine R_iinc (lv' := [_, _, _, _]) rfl rfl rfl ?_
        refine R_aload_n rfl rfl ?_
        refine R_getfield rfl rfl (by omega) ((va_up_ne _ _ (by first | exact kne rfl | exact kz | exact kz.symm | omega)).trans m0) rfl ?_
        refine R_iload_n rfl rfl ?_
        refine R_iconst rfl ?_
        refine R_iastore rfl (by omega) (va_up_self _ _ _) ⟨by omega, by omega, by omega⟩ ?_
        refine R_goto rfl ?_
        refine HV (ch ++ [c]) (by rw [List.length_append]; show ch.length + 1 + r + 1 = nE G; omega) (okc_app hoc hcl (okF_len hcr)) (qW G) 0 a _ _ _ _ _ (Nat.zero_add _) (isMg_f hM fr_2 (by decide)) (va_up_self _ _ _) (chX_up hXc (by rw [List.length_append]; show ch.length + 1 ≤ (zd + 1).toNat; omega)) (by
          rw [List.length_append, show ch.length + [c].length = (zd + 1).toNat by show ch.length + 1 = _; omega, va_up_self]
          rfl) hzn (by rw [List.length_append]; show zd + 1 = ((ch.length + 1 : Nat) : Int); omega) (fun h9 X' l3' q1 q2 q3 => ?_)
        have q6 := chX_pre q2
        have hlen : ((ch ++ [c]).length : Int) - 1 = (ch.length : Int) := by
          rw [List.length_append]
          show ((ch.length + 1 : Nat) : Int) - 1 = _
          omega
        rw [hlen]
        have hse : flF G (r + 1) (ch ++ [c]) = smF (gW9 G r (ch ++ [c])) (qW G) 0 := rfl
        rw [hse, ← Nat.add_assoc] at kK
        exact ih (qW G - (c + 1)) (by omega) (c + 1) (a + smF (gW9 G r (ch ++ [c])) (qW G) 0) h9 X' _ _ _ (by omega) (isMg_f hM (fr_2.trans q3) (by decide)) q1 q6.1 (by rw [q6.2]; omega) rfl rfl (fun h8 X8 l8 p1 p2 p3 => kK h8 X8 l8 p1 p2 (fr_2.trans (q3.trans p3)))
      · exact absurd c120 (by omega)
    · have hcm : c = qW G := by omega
      have hnil : smF (gW9 G (r + 1) ch) m i = 0 := sm_none (fun j h3 h4 => if_neg (by rw [hno j h3 (by omega)]; decide))
      rw [hnil] at kK
      refine R_iinc (lv' := [_, _, _, _]) rfl rfl rfl ?_
      refine R_goto rfl ?_
      refine R_goto rfl ?_
      rw [show zd + -1 = (ch.length : Int) - 1 by omega, hzn]
      exact kK _ (va_up X zd.toNat zc) _ (va_up_self _ _ _) (chX_up hX (by omega)) fr_0
theorem mlw {d N : Nat} {G : Gr} {th tl rm : Int} {Q : AQ} (hG : okG G) (hN : 139 ≤ N) (hn8 : nE G ≤ 8) : ∀ r, lvW d N G th tl rm Q r
  | 0 => mlw_0 hG hN hn8
  | r + 1 => mlw_s hG hN hn8 (mlw hG hN hn8 r)
theorem isMo_c1 {h h' : AH} {y : Sy} {th : Int} {X : Nat → Int} (hY : isMo h y th) (e1 : h' 137 = eI 9 X) (hf : fr h h' 137 1) : isMo h' y th := by
  obtain ⟨hM, hG, hT, hHi, hSv, ⟨⟨a, ha⟩, ⟨b, hb⟩, hc, -, F9, hF⟩⟩ := hY
  exact ⟨isMg_f hM hf (by decide), hG, isMt_fr hT (hf _ (by omega)), isHi_fr hHi (hf _ (by omega)), isSv_fr hSv (hf _ (by omega)) (hf _ (by omega)), ⟨a, (hf _ (by omega)).trans ha⟩, ⟨b, (hf _ (by omega)).trans hb⟩, isRe_fr hc (hf _ (by omega)), ⟨X, e1⟩, F9, (hf _ (by omega)).trans hF⟩
theorem mFillings_T {d N : Nat} {h : AH} {th : Int} {Q : AQ} {G : Gr} {hist : List Gr} {sl : Nat → Option Gr} {n : Nat} {tx : Nat → Int} (hY : isMo h (G, hist, sl, n, tx) th) (hN : 139 ≤ N) (hQ : moQ (opFillings (G, hist, sl, n, tx)) h N Q) : T (d + 4) 191 [vR 122] h N Q := by
  obtain ⟨hM, hG, hT, hHi, hSv, hRw⟩ := id hY
  have hM : isMg h G th n hist.length := hM
  have hG : okG G := hG
  have hT : isMt h n tx := hT
  have hHi : isHi h hist := hHi
  have hSv : isSv h sl := hSv
  obtain ⟨F, D, L, A, W, C, hZ, m11, m12, m13, m14, m15, m16, hE, hA, hW, hC⟩ := id hM
  obtain ⟨S, m0, m3, hR⟩ := id hZ
  obtain ⟨hr0, hr1, rL, rE, rS, hr110, rWn, rWl, hr167, rNl⟩ := id hR
  have r0 : S (0 : Int).toNat = (qR G : Int) := hr0
  have r1 : S (1 : Int).toNat = (qC G : Int) := hr1
  have r110 : S (110 : Int).toNat = (qW G : Int) := hr110
  have r167 : S (167 : Int).toNat = (qN G : Int) := hr167
  obtain ⟨hm4, hm36⟩ := hG.m
  have hmi := qM_int G
  obtain ⟨⟨hr2, hr6⟩, ⟨hc2, hc6⟩, gL, gB, gW, gWn, gWl, gN, gNl⟩ := id hG
  have hn36 := nE36 hG
  obtain ⟨tf, m1, hn150, htf⟩ := id hT
  obtain ⟨X, m18⟩ := hRw.2.2.2.1
  refine T_body (I := mi_X9_fillings) (lv := [_, _, _, _]) rfl (Nat.le_of_ble_eq_true rfl) rfl ?_
  refine R_aload_n rfl rfl ?_
  refine R_iconst rfl ?_
  refine R_putfield rfl rfl (by omega) m0 (Nat.le_of_ble_eq_true rfl) (by first | trivial | exact trivial | omega) ?_
  refine R_aload_n rfl rfl ?_
  refine R_getfield rfl rfl (by omega) (va_up_self _ _ _) rfl ?_
  refine R_ifeq rfl ⟨by omega, by omega⟩ (fun c9 => ?_) (fun c9 => ?_)
  · refine R_aload_n rfl rfl ?_
    refine R_getfield rfl rfl (by omega) (va_up_self _ _ _) rfl ?_
    refine R_ifne rfl ⟨by omega, by omega⟩ (fun c30 => ?_) (fun c30 => ?_)
    · have hfv : (0 : Int) = ((flG G : Nat) : Int) := by
        unfold flG
        rw [if_pos (by omega)]
        rfl
      refine R_iconst rfl ?_
      exact R_ireturn rfl (fun q => absurd q (by decide)) (Nat.zero_le _) (Nat.zero_le _) (moQ_v hQ rfl (isMo_th hY) (fr_up fr.refl (by omega)) hfv)
    · have hfv : (1 : Int) = ((flG G : Nat) : Int) := by
        unfold flG
        rw [if_neg (by omega), show nE G = 0 by omega]
        rfl
      refine R_iconst rfl ?_
      refine R_goto rfl ?_
      exact R_ireturn rfl (fun q => absurd q (by decide)) (Nat.zero_le _) (Nat.zero_le _) (moQ_v hQ rfl (isMo_th hY) (fr_up fr.refl (by omega)) hfv)
  · refine R_aload_n rfl rfl ?_
    refine R_getfield rfl rfl (by omega) (va_up_self _ _ _) rfl ?_
    refine R_aload_n rfl rfl ?_
    refine R_getfield rfl rfl (by omega) (va_up_self _ _ _) rfl ?_
    refine R_bipush rfl ?_
    refine R_iaload rfl (Or.inl (by omega)) ((va_up_ne _ _ (by first | exact kne rfl | exact kz | exact kz.symm | omega)).trans m3) ⟨by omega, by omega, by omega⟩ ?_
    rw [r110]
    refine R_icmple rfl ⟨by omega, by omega⟩ ⟨by omega, by omega⟩ (fun c23 => ?_) (fun c23 => ?_)
    · refine R_iconst rfl ?_
      refine R_istore_n (lv' := [_, _, _, _]) rfl rfl ?_
      refine R_iconst rfl ?_
      refine R_istore_n (lv' := [_, _, _, _]) rfl rfl ?_
      refine R_aload_n rfl rfl ?_
      refine R_getfield rfl rfl (by omega) (va_up_self _ _ _) rfl ?_
      refine R_iconst rfl ?_
      refine R_iconst rfl ?_
      refine R_iastore rfl (by omega) ((va_up_ne _ _ (by first | exact kne rfl | exact kz | exact kz.symm | omega)).trans m18) ⟨by omega, by omega, by omega⟩ ?_
      have hfv : 0 + smF (gW9 G (nE G - 1) []) (qW G) 0 = flG G := by
        rw [Nat.zero_add]
        unfold flG
        rw [if_neg (by omega), show nE G = (nE G - 1) + 1 by omega]
        rfl
      refine mlw hG hN (show nE G ≤ 8 by omega) (nE G - 1) [] (by show 0 + (nE G - 1) + 1 = nE G; omega) (fun j w hj => by cases hj) (qW G) 0 0 _ _ _ _ _ (Nat.zero_add _) (isMg_f (isMg_o (th' := 0) (tl' := n) (rm' := hist.length) hM) fr_0 (by decide)) (va_up_self _ _ _) (fun j x hj => by cases hj) rfl rfl rfl (fun h9 X' l3' q1 q2 q3 => ?_)
      rw [show ((([] : List Nat).length : Int) - 1) = -1 from rfl]
      refine R_iload_n rfl rfl ?_
      refine R_iflt rfl ⟨by decide, by decide⟩ (fun _ => ?_) (fun c0 => absurd c0 (by decide))
      refine R_iload_n rfl rfl ?_
      exact R_ireturn rfl (fun q => absurd q (by decide)) (Nat.zero_le _) (Nat.zero_le _) (moQ_v hQ rfl (isMo_c1 (isMo_th (th' := 0) hY) q1 (fr_0.trans q3)) ((fr_up fr.refl (by omega)).trans ((fr_0.trans q3).wide (by omega))) (congrArg Nat.cast hfv))
    · refine R_aload_n rfl rfl ?_
      refine R_getfield rfl rfl (by omega) (va_up_self _ _ _) rfl ?_
      refine R_ifne rfl ⟨by omega, by omega⟩ (fun c30 => ?_) (fun c30 => ?_)
      · have hfv : (0 : Int) = ((flG G : Nat) : Int) := by
          unfold flG
          rw [if_pos (by omega)]
          rfl
        refine R_iconst rfl ?_
        exact R_ireturn rfl (fun q => absurd q (by decide)) (Nat.zero_le _) (Nat.zero_le _) (moQ_v hQ rfl (isMo_th hY) (fr_up fr.refl (by omega)) hfv)
      · have hfv : (1 : Int) = ((flG G : Nat) : Int) := by
          unfold flG
          rw [if_neg (by omega), show nE G = 0 by omega]
          rfl
        refine R_iconst rfl ?_
        refine R_goto rfl ?_
        exact R_ireturn rfl (fun q => absurd q (by decide)) (Nat.zero_le _) (Nat.zero_le _) (moQ_v hQ rfl (isMo_th hY) (fr_up fr.refl (by omega)) hfv)
def hdF (G : Gr) : Nat → Nat → Int → Nat → Int
  | 0, _, b, _ => b
  | r + 1, e, b, l => if 0 < emG G e ∧ fcG G e < l then hdF G r (e + 1) (e : Int) (fcG G e) else hdF G r (e + 1) b l
def opHardest (y : Sy) : Op := (0, hdF y.1 (nE y.1) 0 (-9) 9, y)
theorem fc_8 {G : Gr} (hG : okG G) {e : Nat} : fcG G e ≤ 8 := Nat.le_trans (ct_le _ _) hG.2.2.2.2.1
theorem em_6 {G : Gr} (hG : okG G) {e : Nat} (he : e < nE G) : emG G e ≤ 6 := Nat.le_trans (ct_le _ _) (eN_6 hG he).2
theorem mhd_loop {d N : Nat} {h : AH} {G : Gr} {th tl rm : Int} {Q : AQ} (hM : isMg h G th tl rm) (hG : okG G) (hN : 139 ≤ N) : ∀ (r i : Nat) (b : Int) (l : Nat) (zl zi : Int) (l4 : Option AV), i + r = nE G → zi = i → l ≤ 9 → zl = l → (∀ z : Int, z = hdF G r i b l → Q (.inl (some (vI z))) h N) → Run mi_X9_hardest (T (d + 3)) Q 13 [some (vR 122), some (vI b), some (vI zl), some (vI zi), l4] [] h N 0 0 := by
  obtain ⟨F, D, L, A, W, C, hZ, m11, m12, m13, m14, m15, m16, hE, hA, hW, hC⟩ := id hM
  obtain ⟨S, m0, m3, hR⟩ := id hZ
  obtain ⟨hr0, hr1, rL, rE, rS, hr110, rWn, rWl, hr167, rNl⟩ := id hR
  have r0 : S (0 : Int).toNat = (qR G : Int) := hr0
  have r1 : S (1 : Int).toNat = (qC G : Int) := hr1
  have r110 : S (110 : Int).toNat = (qW G : Int) := hr110
  have r167 : S (167 : Int).toNat = (qN G : Int) := hr167
  obtain ⟨hm4, hm36⟩ := hG.m
  have hmi := qM_int G
  obtain ⟨⟨hr2, hr6⟩, ⟨hc2, hc6⟩, gL, gB, gW, gWn, gWl, gN, gNl⟩ := id hG
  have hn36 := nE36 hG
  intro r
  induction r using Nat.strongRecOn with
  | ind r ih =>
  intro i b l zl zi l4 hr hzi hl9 hzl kc
  refine R_iload_n rfl rfl ?_
  refine R_aload_n rfl rfl ?_
  refine R_getfield rfl rfl (by omega) m0 rfl ?_
  refine R_icmpge rfl ⟨by omega, by omega⟩ ⟨by omega, by omega⟩ (fun c18 => ?_) (fun c18 => ?_)
  · have hr0 : r = 0 := by omega
    subst hr0
    refine R_iload_n rfl rfl ?_
    exact R_ireturn rfl (fun q => absurd q (by decide)) (Nat.zero_le _) (Nat.zero_le _) (kc _ rfl)
  · obtain ⟨r, rfl⟩ : ∃ r1, r = r1 + 1 := ⟨r - 1, by omega⟩
    subst hzi
    refine R_aload_n rfl rfl ?_
    refine R_iload_n rfl rfl ?_
    refine R_vcall rfl rfl ⟨(by omega), _, m0⟩ ⟨Nat.le_of_ble_eq_true rfl, Nat.le_of_ble_eq_true rfl, Nat.zero_le _, Nat.zero_le _⟩ (mEmptyIn_T (e := i) hM hG hN (by omega) (by omega) (fun z23 hz23 => aRes_i (rest := []) ?_))
    have hem := em_6 hG (e := i) (by omega)
    refine R_ifle rfl ⟨by omega, by omega⟩ (fun c26 => ?_) (fun c26 => ?_)
    · have hh : hdF G (r + 1) i b l = hdF G r (i + 1) b l := if_neg (by omega)
      refine R_iconst rfl ?_
      refine R_istore (lv' := [_, _, _, _, _]) rfl rfl ?_
      refine R_iload rfl rfl ?_
      refine R_ifeq rfl ⟨by decide, by decide⟩ (fun _ => ?_) (fun c0 => absurd c0 (by decide))
      refine R_iload_n rfl rfl ?_
      refine R_istore_n (lv' := [_, _, _, _, _]) rfl rfl ?_
      refine R_iload rfl rfl ?_
      refine R_ifeq rfl ⟨by decide, by decide⟩ (fun _ => ?_) (fun c0 => absurd c0 (by decide))
      refine R_iload_n rfl rfl ?_
      refine R_istore_n (lv' := [_, _, _, _, _]) rfl rfl ?_
      refine R_iinc (lv' := [_, _, _, _, _]) rfl rfl rfl ?_
      refine R_goto rfl ?_
      rw [hh] at kc
      first | exact ih r (by omega) (i + 1) _ _ _ _ _ (by omega) (by omega) hl9 hzl kc | exact ih r (by omega) (i + 1) (i : Int) (fcG G i) _ _ _ (by omega) (by omega) (by omega) (by omega) kc
    · refine R_aload_n rfl rfl ?_
      refine R_iload_n rfl rfl ?_
      refine R_vcall rfl rfl ⟨(by omega), _, m0⟩ ⟨Nat.le_of_ble_eq_true rfl, Nat.le_of_ble_eq_true rfl, Nat.zero_le _, Nat.zero_le _⟩ (mFitsOf_T (e := i) hM hG hN (by omega) (by omega) (fun z31 hz31 => aRes_i (rest := []) ?_))
      have hfc31 := fc_8 hG (e := i)
      refine R_iload_n rfl rfl ?_
      refine R_icmpge rfl ⟨by omega, by omega⟩ ⟨by omega, by omega⟩ (fun c35 => ?_) (fun c35 => ?_)
      · have hh : hdF G (r + 1) i b l = hdF G r (i + 1) b l := if_neg (by omega)
        refine R_iconst rfl ?_
        refine R_istore (lv' := [_, _, _, _, _]) rfl rfl ?_
        refine R_iload rfl rfl ?_
        refine R_ifeq rfl ⟨by decide, by decide⟩ (fun _ => ?_) (fun c0 => absurd c0 (by decide))
        refine R_iload_n rfl rfl ?_
        refine R_istore_n (lv' := [_, _, _, _, _]) rfl rfl ?_
        refine R_iload rfl rfl ?_
        refine R_ifeq rfl ⟨by decide, by decide⟩ (fun _ => ?_) (fun c0 => absurd c0 (by decide))
        refine R_iload_n rfl rfl ?_
        refine R_istore_n (lv' := [_, _, _, _, _]) rfl rfl ?_
        refine R_iinc (lv' := [_, _, _, _, _]) rfl rfl rfl ?_
        refine R_goto rfl ?_
        rw [hh] at kc
        first | exact ih r (by omega) (i + 1) _ _ _ _ _ (by omega) (by omega) hl9 hzl kc | exact ih r (by omega) (i + 1) (i : Int) (fcG G i) _ _ _ (by omega) (by omega) (by omega) (by omega) kc
      · have hh : hdF G (r + 1) i b l = hdF G r (i + 1) (i : Int) (fcG G i) := if_pos ⟨by omega, by omega⟩
        refine R_iconst rfl ?_
        refine R_goto rfl ?_
        refine R_istore (lv' := [_, _, _, _, _]) rfl rfl ?_
        refine R_iload rfl rfl ?_
        refine R_ifeq rfl ⟨by decide, by decide⟩ (fun c0 => absurd c0 (by decide)) (fun _ => ?_)
        refine R_iload_n rfl rfl ?_
        refine R_goto rfl ?_
        refine R_istore_n (lv' := [_, _, _, _, _]) rfl rfl ?_
        refine R_iload rfl rfl ?_
        refine R_ifeq rfl ⟨by decide, by decide⟩ (fun c0 => absurd c0 (by decide)) (fun _ => ?_)
        refine R_aload_n rfl rfl ?_
        refine R_iload_n rfl rfl ?_
        refine R_vcall rfl rfl ⟨(by omega), _, m0⟩ ⟨Nat.le_of_ble_eq_true rfl, Nat.le_of_ble_eq_true rfl, Nat.zero_le _, Nat.zero_le _⟩ (mFitsOf_T (e := i) hM hG hN (by omega) (by omega) (fun z63 hz63 => aRes_i (rest := []) ?_))
        have hfc63 := fc_8 hG (e := i)
        refine R_goto rfl ?_
        refine R_istore_n (lv' := [_, _, _, _, _]) rfl rfl ?_
        refine R_iinc (lv' := [_, _, _, _, _]) rfl rfl rfl ?_
        refine R_goto rfl ?_
        rw [hh] at kc
        first | exact ih r (by omega) (i + 1) _ _ _ _ _ (by omega) (by omega) hl9 hzl kc | exact ih r (by omega) (i + 1) (i : Int) (fcG G i) _ _ _ (by omega) (by omega) (by omega) (by omega) kc
theorem mHardest_T {d N : Nat} {h : AH} {th : Int} {Q : AQ} {G : Gr} {hist : List Gr} {sl : Nat → Option Gr} {n : Nat} {tx : Nat → Int} (hY : isMo h (G, hist, sl, n, tx) th) (hN : 139 ≤ N) (hQ : moQ (opHardest (G, hist, sl, n, tx)) h N Q) : T (d + 4) 194 [vR 122] h N Q := by
  obtain ⟨hM, hG, hT, hHi, hSv, hRw⟩ := id hY
  have hM : isMg h G th n hist.length := hM
  have hG : okG G := hG
  have hT : isMt h n tx := hT
  have hHi : isHi h hist := hHi
  have hSv : isSv h sl := hSv
  obtain ⟨F, D, L, A, W, C, hZ, m11, m12, m13, m14, m15, m16, hE, hA, hW, hC⟩ := id hM
  obtain ⟨S, m0, m3, hR⟩ := id hZ
  obtain ⟨hr0, hr1, rL, rE, rS, hr110, rWn, rWl, hr167, rNl⟩ := id hR
  have r0 : S (0 : Int).toNat = (qR G : Int) := hr0
  have r1 : S (1 : Int).toNat = (qC G : Int) := hr1
  have r110 : S (110 : Int).toNat = (qW G : Int) := hr110
  have r167 : S (167 : Int).toNat = (qN G : Int) := hr167
  obtain ⟨hm4, hm36⟩ := hG.m
  have hmi := qM_int G
  obtain ⟨⟨hr2, hr6⟩, ⟨hc2, hc6⟩, gL, gB, gW, gWn, gWl, gN, gNl⟩ := id hG
  have hn36 := nE36 hG
  obtain ⟨tf, m1, hn150, htf⟩ := id hT
  refine T_body (I := mi_X9_hardest) (lv := [_, _, _, _, _]) rfl (Nat.le_of_ble_eq_true rfl) rfl ?_
  refine R_aload_n rfl rfl ?_
  refine R_iconst rfl ?_
  refine R_putfield rfl rfl (by omega) m0 (Nat.le_of_ble_eq_true rfl) (by first | trivial | exact trivial | omega) ?_
  refine R_bipush rfl ?_
  refine R_istore_n (lv' := [_, _, _, _, _]) rfl rfl ?_
  refine R_bipush rfl ?_
  refine R_istore_n (lv' := [_, _, _, _, _]) rfl rfl ?_
  refine R_iconst rfl ?_
  refine R_istore_n (lv' := [_, _, _, _, _]) rfl rfl ?_
  exact mhd_loop (isMg_o (th' := 0) (tl' := n) (rm' := hist.length) hM) hG hN (nE G) 0 (-9) 9 _ _ _ (Nat.zero_add _) rfl (Nat.le_refl _) rfl (fun z hz => moQ_v hQ rfl (isMo_th hY) (fr_up fr.refl (by omega)) hz)
