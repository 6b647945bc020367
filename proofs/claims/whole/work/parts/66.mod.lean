/-! ===== the model: move, bars, writing and erasing words ===== -/
theorem rw_let {S : Nat → Int} {G : Gr} (hR : rwG S G) (hm36 : qM G ≤ 36) {c : Nat} (hc : c < qM G) {z : Int} : rwG (va_up S (2 + c) z) (setL G c z) := by
  obtain ⟨a0, a1, aL, aE, aS, a2, aW, aT, a3, aN⟩ := hR
  refine ⟨(va_up_ne _ _ (by omega)).trans a0, (va_up_ne _ _ (by omega)).trans a1, fun j hj => ?_, fun j hj => ?_, fun j hj => ?_, (va_up_ne _ _ (by omega)).trans a2, fun j hj => ?_, fun j i hj hi => ?_, (va_up_ne _ _ (by omega)).trans a3, fun j hj => ?_⟩
  · have hj : j < qM G := hj
    by_cases q : j = c
    · rw [q]
      exact (va_up_self _ _ _).trans (va_up_self _ _ _).symm
    · exact (va_up_ne _ _ (by omega)).trans ((aL j hj).trans (va_up_ne _ _ q).symm)
  · have hj : j < qM G := hj
    exact (va_up_ne _ _ (by omega)).trans (aE j hj)
  · have hj : j < qM G := hj
    exact (va_up_ne _ _ (by omega)).trans (aS j hj)
  · have hj : j < qW G := hj
    exact (va_up_ne _ _ (by omega)).trans (aW j hj)
  · have hj : j < qW G := hj
    exact (va_up_ne _ _ (by omega)).trans (aT j i hj hi)
  · have hj : j < qN G := hj
    exact (va_up_ne _ _ (by omega)).trans (aN j hj)
theorem rw_barE {S : Nat → Int} {G : Gr} (hR : rwG S G) (hm36 : qM G ≤ 36) {c : Nat} (hc : c < qM G) {v : Bool} : rwG (va_up S (38 + c) (bI v)) (setBr G c false v) := by
  obtain ⟨a0, a1, aL, aE, aS, a2, aW, aT, a3, aN⟩ := hR
  refine ⟨(va_up_ne _ _ (by omega)).trans a0, (va_up_ne _ _ (by omega)).trans a1, fun j hj => ?_, fun j hj => ?_, fun j hj => ?_, (va_up_ne _ _ (by omega)).trans a2, fun j hj => ?_, fun j i hj hi => ?_, (va_up_ne _ _ (by omega)).trans a3, fun j hj => ?_⟩
  · have hj : j < qM G := hj
    exact (va_up_ne _ _ (by omega)).trans (aL j hj)
  · have hj : j < qM G := hj
    by_cases q : j = c
    · rw [q]
      exact (va_up_self _ _ _).trans (congrArg bI (va_up_self _ _ _).symm)
    · exact (va_up_ne _ _ (by omega)).trans ((aE j hj).trans (congrArg bI (va_up_ne _ _ q).symm))
  · have hj : j < qM G := hj
    exact (va_up_ne _ _ (by omega)).trans (aS j hj)
  · have hj : j < qW G := hj
    exact (va_up_ne _ _ (by omega)).trans (aW j hj)
  · have hj : j < qW G := hj
    exact (va_up_ne _ _ (by omega)).trans (aT j i hj hi)
  · have hj : j < qN G := hj
    exact (va_up_ne _ _ (by omega)).trans (aN j hj)
theorem rw_barS {S : Nat → Int} {G : Gr} (hR : rwG S G) (hm36 : qM G ≤ 36) {c : Nat} (hc : c < qM G) {v : Bool} : rwG (va_up S (74 + c) (bI v)) (setBr G c true v) := by
  obtain ⟨a0, a1, aL, aE, aS, a2, aW, aT, a3, aN⟩ := hR
  refine ⟨(va_up_ne _ _ (by omega)).trans a0, (va_up_ne _ _ (by omega)).trans a1, fun j hj => ?_, fun j hj => ?_, fun j hj => ?_, (va_up_ne _ _ (by omega)).trans a2, fun j hj => ?_, fun j i hj hi => ?_, (va_up_ne _ _ (by omega)).trans a3, fun j hj => ?_⟩
  · have hj : j < qM G := hj
    exact (va_up_ne _ _ (by omega)).trans (aL j hj)
  · have hj : j < qM G := hj
    exact (va_up_ne _ _ (by omega)).trans (aE j hj)
  · have hj : j < qM G := hj
    by_cases q : j = c
    · rw [q]
      exact (va_up_self _ _ _).trans (congrArg bI (va_up_self _ _ _).symm)
    · exact (va_up_ne _ _ (by omega)).trans ((aS j hj).trans (congrArg bI (va_up_ne _ _ q).symm))
  · have hj : j < qW G := hj
    exact (va_up_ne _ _ (by omega)).trans (aW j hj)
  · have hj : j < qW G := hj
    exact (va_up_ne _ _ (by omega)).trans (aT j i hj hi)
  · have hj : j < qN G := hj
    exact (va_up_ne _ _ (by omega)).trans (aN j hj)
theorem rw_congr {S S' : Nat → Int} {G : Gr} (hR : rwG S G) (hG : okG G) (h : ∀ k, k < 174 → S' k = S k) : rwG S' G := by
  obtain ⟨hm4, hm36⟩ := hG.m
  obtain ⟨-, -, -, -, gW, gWn, -, gN, -⟩ := hG
  obtain ⟨a0, a1, aL, aE, aS, a2, aW, aT, a3, aN⟩ := hR
  exact ⟨(h _ (by omega)).trans a0, (h _ (by omega)).trans a1, fun j hj => (h _ (by omega)).trans (aL j hj), fun j hj => (h _ (by omega)).trans (aE j hj), fun j hj => (h _ (by omega)).trans (aS j hj), (h _ (by omega)).trans a2, fun j hj => (h _ (by omega)).trans (aW j hj), fun j i hj hi => (h _ (by have := (gWn j hj).2; omega)).trans (aT j i hj hi), (h _ (by omega)).trans a3, fun j hj => (h _ (by omega)).trans (aN j hj)⟩
theorem isMa_st {h h' : AH} {G G' : Gr} {th tl rm : Int} {S' : Nat → Int} (hA : isMa h G th tl rm) (e : h' 124 = eI 174 S') (hR : rwG S' G') (ho : ∀ j, ¬ j = 124 → h' j = h j) : isMa h' G' th tl rm := by
  obtain ⟨E, F, D, L, A, W, C, ⟨S, m0, m3, -⟩, m11, m12, m13, m14, m15, m16⟩ := hA
  exact ⟨E, F, D, L, A, W, C, ⟨S', (ho _ (by decide)).trans m0, e, hR⟩, (ho _ (by decide)).trans m11, (ho _ (by decide)).trans m12, (ho _ (by decide)).trans m13, (ho _ (by decide)).trans m14, (ho _ (by decide)).trans m15, (ho _ (by decide)).trans m16⟩
theorem isMg_S {G' G : Gr} (hs : sameB G' G) {h h' : AH} {th tl rm th' tl' rm' : Int} (hM : isMg h G th tl rm) (hZ : isM0 h' G' th' tl' rm' (nE G)) (he : ∀ j, 130 ≤ j → j ≤ 135 → h' j = h j) : isMg h' G' th' tl' rm' := by
  obtain ⟨F, D, L, A, W, C, -, m11, m12, m13, m14, m15, m16, hE, hA, hW, hC⟩ := hM
  refine ⟨F, D, L, A, W, C, by rw [nE_S hs]; exact hZ, (he _ (by omega) (by omega)).trans m11, (he _ (by omega) (by omega)).trans m12, (he _ (by omega) (by omega)).trans m13, (he _ (by omega) (by omega)).trans m14, (he _ (by omega) (by omega)).trans m15, (he _ (by omega) (by omega)).trans m16, fun e x b he => ?_, fun x hx => ?_, fun x hx => ?_, fun x hx => ?_⟩
  · rw [ents_S hs] at he
    rw [ln_S hs]
    exact hE e x b he
  · rw [qM_S hs] at hx
    rw [acr_S hs]
    exact hA x hx
  · rw [qM_S hs] at hx
    rw [acr_S hs]
    exact hW x hx
  · rw [qM_S hs] at hx
    rw [clue_S hs]
    exact hC x hx
theorem isMg_w {h : AH} {G : Gr} {th tl rm : Int} {S' : Nat → Int} {L L' : Nat → Int} (hM : isMg h (setLs G L) th tl rm) (hR : rwG S' (setLs G L')) : isMg (va_up h 124 (eI 174 S')) (setLs G L') th tl rm := by
  obtain ⟨S, m0, -, -⟩ := hM.z
  exact isMg_S (G := setLs G L) (G' := setLs G L') ⟨rfl, rfl, rfl, rfl⟩ hM ⟨S', (va_up_ne _ _ (by decide)).trans m0, va_up_self _ _ _, hR⟩ (fun j h1 h2 => va_up_ne _ _ (by omega))
theorem mmv_loop {d N a b m m' s t : Nat} {f g0 : Nat → Int} {Q : AQ} (ha : a < N) (hb : b < N) (hab : ¬ a = b) (hs : s + 174 ≤ m) (ht : t + 174 ≤ m') (hm : m < 100000) (hm2 : m' < 100000) : ∀ (r i : Nat) (h : AH) (g : Nat → Int) (zi : Int), i + r = 174 → zi = i → h a = eI m f → h b = eI m' g → (∀ j, j < i → g (t + j) = f (s + j)) → (∀ j, ¬ (t ≤ j ∧ j < t + 174) → g j = g0 j) → (∀ h' g', h' b = eI m' g' → (∀ j, j < 174 → g' (t + j) = f (s + j)) → (∀ j, ¬ (t ≤ j ∧ j < t + 174) → g' j = g0 j) → fr h h' b 1 → Q (.inl none) h' N) → Run mi_X9_move (T d) Q 3 [some (vR a), some (vI s), some (vR b), some (vI t), some (vI zi)] [] h N 0 0 := by
  intro r
  induction r using Nat.strongRecOn with
  | ind r ih =>
  intro i h g zi hr hzi ea eb v1 v2 hQ
  refine R_iload rfl rfl ?_
  refine R_sipush rfl ?_
  refine R_icmpge rfl ⟨by omega, by omega⟩ ⟨by decide, by decide⟩ (fun c8 => ?_) (fun c8 => ?_)
  · have hr0 : r = 0 := by omega
    subst hr0
    have hi : i = 174 := by omega
    subst hi
    exact R_return rfl (Nat.zero_le _) (Nat.zero_le _) (hQ h g eb v1 v2 fr.refl)
  · obtain ⟨r, rfl⟩ : ∃ r1, r = r1 + 1 := ⟨r - 1, by omega⟩
    refine R_aload_n rfl rfl ?_
    refine R_iload_n rfl rfl ?_
    refine R_iload rfl rfl ?_
    refine R_iadd rfl ?_
    refine R_aload_n rfl rfl ?_
    refine R_iload_n rfl rfl ?_
    refine R_iload rfl rfl ?_
    refine R_iadd rfl ?_
    refine R_iaload rfl (Or.inl ha) ea ⟨by omega, by omega, by omega⟩ ?_
    refine R_iastore rfl hb eb ⟨by omega, by omega, by omega⟩ ?_
    refine R_iinc (lv' := [_, _, _, _, _]) rfl rfl rfl ?_
    refine R_goto rfl ?_
    exact ih r (by omega) (i + 1) _ _ _ (by omega) (by omega) ((va_up_ne _ _ hab).trans ea) (va_up_self _ _ _) (fun j hj => by
      by_cases q : j = i
      · rw [q, show t + i = ((t : Int) + zi).toNat by omega, va_up_self, show ((s : Int) + zi).toNat = s + i by omega]
      · rw [va_up_ne _ _ (by omega)]
        exact v1 j (by omega)) (fun j hj => by
      rw [va_up_ne _ _ (by omega)]
      exact v2 j hj) (fun h1 g1 e1 w1 w2 f1 => hQ h1 g1 e1 w1 w2 (fr_0.trans f1))
theorem mMove_T {d N a b m m' s t : Nat} {f g0 : Nat → Int} {h : AH} {Q : AQ} (ha : a < N) (hb : b < N) (hab : ¬ a = b) (hs : s + 174 ≤ m) (ht : t + 174 ≤ m') (hm : m < 100000) (hm2 : m' < 100000) (ea : h a = eI m f) (eb : h b = eI m' g0) {sz tz : Int} (hsz : sz = s) (htz : tz = t) (hQ : (∀ h' g', h' b = eI m' g' → (∀ j, j < 174 → g' (t + j) = f (s + j)) → (∀ j, ¬ (t ≤ j ∧ j < t + 174) → g' j = g0 j) → fr h h' b 1 → Q (.inl none) h' N)) : T (d + 1) 127 [vR a, vI sz, vR b, vI tz] h N Q := by
  subst hsz
  subst htz
  refine T_body (I := mi_X9_move) (lv := [_, _, _, _, _]) rfl (Nat.le_of_ble_eq_true rfl) rfl ?_
  refine R_iconst rfl ?_
  refine R_istore (lv' := [_, _, _, _, _]) rfl rfl ?_
  exact mmv_loop ha hb hab hs ht hm hm2 174 0 h g0 _ (Nat.zero_add _) rfl ea eb (fun j hj => absurd hj (by omega)) (fun j _ => rfl) hQ
theorem mBar_T {d N : Nat} {h : AH} {G : Gr} {th tl rm : Int} {Q : AQ} (hA9 : isMa h G th tl rm) (hG : okG G) (hN : 139 ≤ N) {c : Nat} {cz : Int} {b v : Bool} (hcz : cz = c) (hp : qPb G c b = true) (hQ : ∀ h', isMg h' (setBr G c b v) th tl rm → frG h h' → Q (.inl none) h' N) : T (d + 4) 179 [vR 122, vI cz, vI (bI b), vI (bI v)] h N Q := by
  obtain ⟨E, F, D, L, A, W, C, hX⟩ := id hA9
  obtain ⟨hZ, m11, m12, m13, m14, m15, m16⟩ := id hX
  obtain ⟨S, m0, m3, hR⟩ := id hZ
  obtain ⟨hr0, hr1, rL, rE, rS, hr110, rWn, rWl, hr167, rNl⟩ := id hR
  have r0 : S (0 : Int).toNat = (qR G : Int) := hr0
  have r1 : S (1 : Int).toNat = (qC G : Int) := hr1
  have r110 : S (110 : Int).toNat = (qW G : Int) := hr110
  have r167 : S (167 : Int).toNat = (qN G : Int) := hr167
  obtain ⟨hm4, hm36⟩ := hG.m
  have hmi := qM_int G
  obtain ⟨⟨hr2, hr6⟩, ⟨hc2, hc6⟩, gL, gB, gW, gWn, gWl, gN, gNl⟩ := id hG
  subst hcz
  have hv01 := bI01 v
  refine T_body (I := mi_X9_bar) (lv := [_, _, _, _]) rfl (Nat.le_of_ble_eq_true rfl) rfl ?_
  cases b
  · have hc : c < qM G := (qPb_iff.mp hp).1
    have hRb : rwG (va_up S (38 + (c : Int)).toNat (bI v)) (setBr G c false v) := by
      rw [show (38 + (c : Int)).toNat = 38 + c by omega]
      exact rw_barE hR hm36 hc
    refine R_aload_n rfl rfl ?_
    refine R_getfield rfl rfl (by omega) m0 rfl ?_
    refine R_iload_n rfl rfl ?_
    refine R_ifeq rfl ⟨by decide, by decide⟩ (fun _ => ?_) (fun c0 => absurd c0 (by decide))
    refine R_bipush rfl ?_
    refine R_iload_n rfl rfl ?_
    refine R_iadd rfl ?_
    refine R_iload_n rfl rfl ?_
    refine R_iastore rfl (by omega) m3 ⟨by omega, by omega, by omega⟩ ?_
    refine R_aload_n rfl rfl ?_
    refine R_vcall rfl rfl ⟨(by omega), _, ((va_up_ne _ _ (by first | exact kne rfl | exact kz | exact kz.symm | omega)).trans m0)⟩ ⟨Nat.le_of_ble_eq_true rfl, Nat.le_of_ble_eq_true rfl, Nat.zero_le _, Nat.zero_le _⟩ (mFindEntries_T (isMa_st hA9 (va_up_self _ _ _) hRb (fun j hj => va_up_ne _ _ hj)) (ok_setBr hG (qPb_iff.mp hp)) hN (fun h1 hM1 f1 => aRes_v (rest := []) ?_))
    exact R_return rfl (Nat.zero_le _) (Nat.zero_le _) (hQ h1 hM1 ((frG_up frG.refl (by decide)).trans f1))
  · have hc : c < qM G := (qPb_iff.mp hp).1
    have hRb : rwG (va_up S (74 + (c : Int)).toNat (bI v)) (setBr G c true v) := by
      rw [show (74 + (c : Int)).toNat = 74 + c by omega]
      exact rw_barS hR hm36 hc
    refine R_aload_n rfl rfl ?_
    refine R_getfield rfl rfl (by omega) m0 rfl ?_
    refine R_iload_n rfl rfl ?_
    refine R_ifeq rfl ⟨by decide, by decide⟩ (fun c0 => absurd c0 (by decide)) (fun _ => ?_)
    refine R_bipush rfl ?_
    refine R_goto rfl ?_
    refine R_iload_n rfl rfl ?_
    refine R_iadd rfl ?_
    refine R_iload_n rfl rfl ?_
    refine R_iastore rfl (by omega) m3 ⟨by omega, by omega, by omega⟩ ?_
    refine R_aload_n rfl rfl ?_
    refine R_vcall rfl rfl ⟨(by omega), _, ((va_up_ne _ _ (by first | exact kne rfl | exact kz | exact kz.symm | omega)).trans m0)⟩ ⟨Nat.le_of_ble_eq_true rfl, Nat.le_of_ble_eq_true rfl, Nat.zero_le _, Nat.zero_le _⟩ (mFindEntries_T (isMa_st hA9 (va_up_self _ _ _) hRb (fun j hj => va_up_ne _ _ hj)) (ok_setBr hG (qPb_iff.mp hp)) hN (fun h1 hM1 f1 => aRes_v (rest := []) ?_))
    exact R_return rfl (Nat.zero_le _) (Nat.zero_le _) (hQ h1 hM1 ((frG_up frG.refl (by decide)).trans f1))
theorem mChange_T {d N : Nat} {h : AH} {G : Gr} {th tl rm : Int} {Q : AQ} (hA9 : isMa h G th tl rm) (hG : okG G) (hN : 139 ≤ N) {c : Nat} {cz : Int} {b : Bool} (hcz : cz = c) (hp : qPb G c b = true) (hQ : ∀ h', isMg h' (setBr G c b (!qB G b c)) th tl rm → frG h h' → Q (.inl none) h' N) : T (d + 5) 192 [vR 122, vI cz, vI (bI b)] h N Q := by
  obtain ⟨E, F, D, L, A, W, C, hX⟩ := id hA9
  obtain ⟨hZ, m11, m12, m13, m14, m15, m16⟩ := id hX
  obtain ⟨S, m0, m3, hR⟩ := id hZ
  obtain ⟨hr0, hr1, rL, rE, rS, hr110, rWn, rWl, hr167, rNl⟩ := id hR
  have r0 : S (0 : Int).toNat = (qR G : Int) := hr0
  have r1 : S (1 : Int).toNat = (qC G : Int) := hr1
  have r110 : S (110 : Int).toNat = (qW G : Int) := hr110
  have r167 : S (167 : Int).toNat = (qN G : Int) := hr167
  obtain ⟨hm4, hm36⟩ := hG.m
  have hmi := qM_int G
  obtain ⟨⟨hr2, hr6⟩, ⟨hc2, hc6⟩, gL, gB, gW, gWn, gWl, gN, gNl⟩ := id hG
  subst hcz
  refine T_body (I := mi_X9_change) (lv := [_, _, _]) rfl (Nat.le_of_ble_eq_true rfl) rfl ?_
  cases b
  · have hc : c < qM G := (qPb_iff.mp hp).1
    refine R_aload_n rfl rfl ?_
    refine R_iload_n rfl rfl ?_
    refine R_iload_n rfl rfl ?_
    refine R_iconst rfl ?_
    refine R_aload_n rfl rfl ?_
    refine R_getfield rfl rfl (by omega) m0 rfl ?_
    refine R_iload_n rfl rfl ?_
    refine R_ifeq rfl ⟨by decide, by decide⟩ (fun _ => ?_) (fun c0 => absurd c0 (by decide))
    refine R_bipush rfl ?_
    refine R_iload_n rfl rfl ?_
    refine R_iadd rfl ?_
    refine R_iaload rfl (Or.inl (by omega)) m3 ⟨by omega, by omega, by omega⟩ ?_
    refine R_isub rfl ?_
    rw [show 1 - S (38 + (c : Int)).toNat = bI (!qB G false c) from by
      rw [show (38 + (c : Int)).toNat = 38 + c by omega, rE c hc]
      show 1 - bI (qE G c) = bI (!qE G c)
      cases qE G c <;> rfl]
    refine R_vcall rfl rfl ⟨(by omega), _, m0⟩ ⟨Nat.le_of_ble_eq_true rfl, Nat.le_of_ble_eq_true rfl, Nat.zero_le _, Nat.zero_le _⟩ (mBar_T (b := false) (v := !qB G false c) hA9 hG hN rfl hp (fun h1 hM1 f1 => aRes_v (rest := []) ?_))
    exact R_return rfl (Nat.zero_le _) (Nat.zero_le _) (hQ h1 hM1 f1)
  · have hc : c < qM G := (qPb_iff.mp hp).1
    refine R_aload_n rfl rfl ?_
    refine R_iload_n rfl rfl ?_
    refine R_iload_n rfl rfl ?_
    refine R_iconst rfl ?_
    refine R_aload_n rfl rfl ?_
    refine R_getfield rfl rfl (by omega) m0 rfl ?_
    refine R_iload_n rfl rfl ?_
    refine R_ifeq rfl ⟨by decide, by decide⟩ (fun c0 => absurd c0 (by decide)) (fun _ => ?_)
    refine R_bipush rfl ?_
    refine R_goto rfl ?_
    refine R_iload_n rfl rfl ?_
    refine R_iadd rfl ?_
    refine R_iaload rfl (Or.inl (by omega)) m3 ⟨by omega, by omega, by omega⟩ ?_
    refine R_isub rfl ?_
    rw [show 1 - S (74 + (c : Int)).toNat = bI (!qB G true c) from by
      rw [show (74 + (c : Int)).toNat = 74 + c by omega, rS c hc]
      show 1 - bI (qS G c) = bI (!qS G c)
      cases qS G c <;> rfl]
    refine R_vcall rfl rfl ⟨(by omega), _, m0⟩ ⟨Nat.le_of_ble_eq_true rfl, Nat.le_of_ble_eq_true rfl, Nat.zero_le _, Nat.zero_le _⟩ (mBar_T (b := true) (v := !qB G true c) hA9 hG hN rfl hp (fun h1 hM1 f1 => aRes_v (rest := []) ?_))
    exact R_return rfl (Nat.zero_le _) (Nat.zero_le _) (hQ h1 hM1 f1)
theorem mww_loop {d N : Nat} {G : Gr} {th tl rm : Int} {Q : AQ} (hG0 : okG G) (hN : 139 ≤ N) {e : Nat} (he : e < nE G) {w : Nat} (hw : w < qW G) (hl : eN G e = qWn G w) : ∀ (r i : Nat) (h : AH) (LL : Nat → Int) (zi : Int), i + r = eN G e → zi = i → isMg h (setLs G LL) th tl rm → okL G LL → (∀ h', isMg h' (setLs G (filL G e w r i LL)) th tl rm → fr h h' 124 1 → Q (.inl none) h' N) → Run mi_X9_writeWord (T (d + 1)) Q 2 [some (vR 122), some (vI e), some (vI w), some (vI zi)] [] h N 0 0 := by
  intro r
  induction r using Nat.strongRecOn with
  | ind r ih =>
  intro i h LL zi hr hzi hM hL hQ
  have hG := ok_setLs hG0 hL
  have hmS : qM (setLs G LL) = qM G := rfl
  have hnS : nE (setLs G LL) = nE G := nE_S setLs_S
  have heS : e < nE (setLs G LL) := by omega
  have hNe : eN (setLs G LL) e = eN G e := eN_S setLs_S e
  obtain ⟨F, D, L, A, W, C, hZ, m11, m12, m13, m14, m15, m16, hE, hA, hW, hC⟩ := id hM
  obtain ⟨S, m0, m3, hR⟩ := id hZ
  obtain ⟨hr0, hr1, rL, rE, rS, hr110, rWn, rWl, hr167, rNl⟩ := id hR
  have r0 : S (0 : Int).toNat = (qR G : Int) := hr0
  have r1 : S (1 : Int).toNat = (qC G : Int) := hr1
  have r110 : S (110 : Int).toNat = (qW G : Int) := hr110
  have r167 : S (167 : Int).toNat = (qN G : Int) := hr167
  obtain ⟨hm4, hm36⟩ := hG.m
  have hmi := qM_int G
  obtain ⟨⟨hr2, hr6⟩, ⟨hc2, hc6⟩, gL, gB, gW, gWn, gWl, gN, gNl⟩ := id hG
  have hn36 := nE36 hG
  obtain ⟨hF9, hL9, hD9⟩ := hE _ _ _ (ents_get heS)
  have hF1 : F ((e : Int)).toNat = (eC (setLs G LL) e : Int) := hF9
  have hL1 : L ((e : Int)).toNat = (eN (setLs G LL) e : Int) := hL9
  have hD1 : D ((e : Int)).toNat = bI (eB (setLs G LL) e) := hD9
  have hD01 : D ((e : Int)).toNat = 0 ∨ D ((e : Int)).toNat = 1 := by
    rw [hD1]
    exact bI01 _
  have he6 := eN_6 hG heS
  refine R_iload_n rfl rfl ?_
  refine R_aload_n rfl rfl ?_
  refine R_getfield rfl rfl (by omega) m0 rfl ?_
  refine R_iload_n rfl rfl ?_
  refine R_iaload rfl (Or.inl (by omega)) m13 ⟨by omega, by omega, by omega⟩ ?_
  refine R_icmpge rfl ⟨by omega, by omega⟩ ⟨by omega, by omega⟩ (fun c9 => ?_) (fun c9 => ?_)
  · have hr0 : r = 0 := by omega
    subst hr0
    exact R_return rfl (Nat.zero_le _) (Nat.zero_le _) (hQ h hM fr.refl)
  · obtain ⟨r, rfl⟩ : ∃ r1, r = r1 + 1 := ⟨r - 1, by omega⟩
    refine R_aload_n rfl rfl ?_
    refine R_getfield rfl rfl (by omega) m0 rfl ?_
    refine R_iconst rfl ?_
    refine R_aload_n rfl rfl ?_
    refine R_iload_n rfl rfl ?_
    refine R_iload_n rfl rfl ?_
    refine R_vcall rfl rfl ⟨(by omega), _, m0⟩ ⟨Nat.le_of_ble_eq_true rfl, Nat.le_of_ble_eq_true rfl, Nat.zero_le _, Nat.zero_le _⟩ (mCellOf_T (i := i) hM hG hN rfl heS (by omega) (fun z20 hz20 => aRes_i (rest := [_, _]) ?_))
    rw [cel_S setLs_S] at hz20
    have hcl : cel G e i < qM G := cel_lt hG0 he (i := i) (by omega)
    refine R_iadd rfl ?_
    refine R_aload_n rfl rfl ?_
    refine R_iload_n rfl rfl ?_
    refine R_iload_n rfl rfl ?_
    refine R_vcall rfl rfl ⟨(by omega), _, m0⟩ ⟨Nat.le_of_ble_eq_true rfl, Nat.le_of_ble_eq_true rfl, Nat.zero_le _, Nat.zero_le _⟩ (mLetterOf_T (w := w) (i := i) hZ hG hN rfl (by omega) hw (show i < qWn G w by omega) (fun z27 hz27 => aRes_i (rest := [_, _]) ?_))
    have hz27 : z27 = qWl G w i := hz27
    refine R_iastore rfl (by omega) m3 ⟨by omega, by omega, by omega⟩ ?_
    refine R_iinc (lv' := [_, _, _, _]) rfl rfl rfl ?_
    refine R_goto rfl ?_
    have hR9 : rwG (va_up S (2 + z20).toNat z27) (setLs G (va_up LL (cel G e i) (qWl G w i))) := by
      rw [show (2 + z20).toNat = 2 + cel G e i by omega, hz27, ← setL_is]
      exact rw_let hR hm36 hcl
    exact ih r (by omega) (i + 1) _ _ _ (by omega) (by omega) (isMg_w hM hR9) (up_let hL (Or.inr (hG0.2.2.2.2.2.2.1 w i hw (by omega)))) (fun h2 q1 q2 => hQ h2 q1 (fr_0.trans q2))
theorem mWriteWord_T {d N : Nat} {h : AH} {G : Gr} {th tl rm : Int} {Q : AQ} (hM : isMg h G th tl rm) (hG : okG G) (hN : 139 ≤ N) {e : Nat} {ez : Int} (hez : ez = e) (he : e < nE G) {w : Nat} {wz : Int} (hwz : wz = w) (hw : w < qW G) (hl : eN G e = qWn G w) (hQ : ∀ h', isMg h' (setLs G (filL G e w (eN G e) 0 (qL G))) th tl rm → fr h h' 124 1 → Q (.inl none) h' N) : T (d + 2) 184 [vR 122, vI ez, vI wz] h N Q := by
  obtain ⟨F, D, L, A, W, C, hZ, m11, m12, m13, m14, m15, m16, hE, hA, hW, hC⟩ := id hM
  obtain ⟨S, m0, m3, hR⟩ := id hZ
  obtain ⟨hr0, hr1, rL, rE, rS, hr110, rWn, rWl, hr167, rNl⟩ := id hR
  have r0 : S (0 : Int).toNat = (qR G : Int) := hr0
  have r1 : S (1 : Int).toNat = (qC G : Int) := hr1
  have r110 : S (110 : Int).toNat = (qW G : Int) := hr110
  have r167 : S (167 : Int).toNat = (qN G : Int) := hr167
  obtain ⟨hm4, hm36⟩ := hG.m
  have hmi := qM_int G
  obtain ⟨⟨hr2, hr6⟩, ⟨hc2, hc6⟩, gL, gB, gW, gWn, gWl, gN, gNl⟩ := id hG
  have hn36 := nE36 hG
  subst hez
  subst hwz
  refine T_body (I := mi_X9_writeWord) (lv := [_, _, _, _]) rfl (Nat.le_of_ble_eq_true rfl) rfl ?_
  refine R_iconst rfl ?_
  refine R_istore_n (lv' := [_, _, _, _]) rfl rfl ?_
  exact mww_loop hG hN he hw hl (eN G e) 0 h (qL G) _ (Nat.zero_add _) rfl hM hG.2.2.1 hQ
theorem mer_loop {d N : Nat} {G : Gr} {th tl rm : Int} {Q : AQ} (hG0 : okG G) (hN : 139 ≤ N) {e : Nat} (he : e < nE G) : ∀ (r i a : Nat) (h : AH) (LL : Nat → Int) (za zi : Int) (l4 l5 l6 : Option AV), i + r = eN G e → za = a → zi = i → isMg h (setLs G LL) th tl rm → okL G LL → (∀ h', isMg h' (setLs G (claF G e r i LL a).1) th tl rm → fr h h' 124 1 → Q (.inl (some (vI (((claF G e r i LL a).2 : Nat) : Int)))) h' N) → Run mi_X9_eraseEntry (T (d + 2)) Q 4 [some (vR 122), some (vI e), some (vI za), some (vI zi), l4, l5, l6] [] h N 0 0 := by
  intro r
  induction r using Nat.strongRecOn with
  | ind r ih =>
  intro i a h LL za zi l4 l5 l6 hr hza hzi hM hL hQ
  have hG := ok_setLs hG0 hL
  have hmS : qM (setLs G LL) = qM G := rfl
  have hnS : nE (setLs G LL) = nE G := nE_S setLs_S
  have heS : e < nE (setLs G LL) := by omega
  have hNe : eN (setLs G LL) e = eN G e := eN_S setLs_S e
  obtain ⟨F, D, L, A, W, C, hZ, m11, m12, m13, m14, m15, m16, hE, hA, hW, hC⟩ := id hM
  obtain ⟨S, m0, m3, hR⟩ := id hZ
  obtain ⟨hr0, hr1, rL, rE, rS, hr110, rWn, rWl, hr167, rNl⟩ := id hR
  have r0 : S (0 : Int).toNat = (qR G : Int) := hr0
  have r1 : S (1 : Int).toNat = (qC G : Int) := hr1
  have r110 : S (110 : Int).toNat = (qW G : Int) := hr110
  have r167 : S (167 : Int).toNat = (qN G : Int) := hr167
  obtain ⟨hm4, hm36⟩ := hG.m
  have hmi := qM_int G
  obtain ⟨⟨hr2, hr6⟩, ⟨hc2, hc6⟩, gL, gB, gW, gWn, gWl, gN, gNl⟩ := id hG
  have hn36 := nE36 hG
  obtain ⟨hF9, hL9, hD9⟩ := hE _ _ _ (ents_get heS)
  have hF1 : F ((e : Int)).toNat = (eC (setLs G LL) e : Int) := hF9
  have hL1 : L ((e : Int)).toNat = (eN (setLs G LL) e : Int) := hL9
  have hD1 : D ((e : Int)).toNat = bI (eB (setLs G LL) e) := hD9
  have hD01 : D ((e : Int)).toNat = 0 ∨ D ((e : Int)).toNat = 1 := by
    rw [hD1]
    exact bI01 _
  have he6 := eN_6 hG heS
  refine R_iload_n rfl rfl ?_
  refine R_aload_n rfl rfl ?_
  refine R_getfield rfl rfl (by omega) m0 rfl ?_
  refine R_iload_n rfl rfl ?_
  refine R_iaload rfl (Or.inl (by omega)) m13 ⟨by omega, by omega, by omega⟩ ?_
  refine R_icmpge rfl ⟨by omega, by omega⟩ ⟨by omega, by omega⟩ (fun c11 => ?_) (fun c11 => ?_)
  · have hr0 : r = 0 := by omega
    subst hr0
    refine R_iload_n rfl rfl ?_
    exact R_ireturn rfl (fun q => absurd q (by decide)) (Nat.zero_le _) (Nat.zero_le _) (by rw [hza]; exact hQ h hM fr.refl)
  · obtain ⟨r, rfl⟩ : ∃ r1, r = r1 + 1 := ⟨r - 1, by omega⟩
    refine R_aload_n rfl rfl ?_
    refine R_iload_n rfl rfl ?_
    refine R_iload_n rfl rfl ?_
    refine R_vcall rfl rfl ⟨(by omega), _, m0⟩ ⟨Nat.le_of_ble_eq_true rfl, Nat.le_of_ble_eq_true rfl, Nat.zero_le _, Nat.zero_le _⟩ (mCellOf_T (i := i) hM hG hN rfl heS (by omega) (fun z14 hz14 => aRes_i (rest := []) ?_))
    rw [cel_S setLs_S] at hz14
    have hcl : cel G e i < qM G := cel_lt hG0 he (i := i) (by omega)
    have hLt : S (2 + z14).toNat = LL (cel G e i) := by
      rw [show (2 + z14).toNat = 2 + cel G e i by omega]
      exact rL _ hcl
    have hlr : 0 ≤ S (2 + z14).toNat ∧ S (2 + z14).toNat ≤ 122 := by
      rw [hLt]
      rcases hL _ hcl with q | ⟨q1, q2⟩ <;> omega
    have hJ49 : ∀ zo : Int, zo = acr G (!eB G e) (cel G e i) → Run mi_X9_eraseEntry (T (d + 2)) Q 49 [some (vR 122), some (vI e), some (vI za), some (vI zi), some (vI z14), l5, l6] [vI zo] h N 0 0 := by
      intro zo hc37
      have hac := acr_cases hG0 (b := !eB G e) (x := cel G e i) (by omega)
      rw [← hc37] at hac
      refine R_istore (lv' := [_, _, _, _, _, _, _]) rfl rfl ?_
      have hJ84 : ∀ y : Int, y = bI (goB G e LL (cel G e i)) → Run mi_X9_eraseEntry (T (d + 2)) Q 84 [some (vR 122), some (vI e), some (vI za), some (vI zi), some (vI z14), some (vI zo), l6] [vI y] h N 0 0 := by
        intro y hy
        have hy1 := bI01 (goB G e LL (cel G e i))
        rw [← hy] at hy1
        refine R_istore (lv' := [_, _, _, _, _, _, _]) rfl rfl ?_
        refine R_iload rfl rfl ?_
        refine R_ifeq rfl ⟨by omega, by omega⟩ (fun c88 => ?_) (fun c88 => ?_)
        · have hgo : goB G e LL (cel G e i) = false := bI_f hy (by omega)
          refine R_iinc (lv' := [_, _, _, _, _, _, _]) rfl rfl rfl ?_
          refine R_goto rfl ?_
          exact ih r (by omega) (i + 1) a _ _ _ _ _ _ _ (by omega) (by omega) (by omega) hM hL (fun h2 q1 q2 => by
            simp only [claF, hgo, if_false, Bool.false_eq_true] at hQ
            exact hQ h2 q1 q2)
        · have hgo : goB G e LL (cel G e i) = true := bI_t hy c88
          refine R_aload_n rfl rfl ?_
          refine R_getfield rfl rfl (by omega) m0 rfl ?_
          refine R_iconst rfl ?_
          refine R_iload rfl rfl ?_
          refine R_iadd rfl ?_
          refine R_iconst rfl ?_
          refine R_iastore rfl (by omega) m3 ⟨by omega, by omega, by omega⟩ ?_
          refine R_iinc (lv' := [_, _, _, _, _, _, _]) rfl rfl rfl ?_
          refine R_iinc (lv' := [_, _, _, _, _, _, _]) rfl rfl rfl ?_
          refine R_goto rfl ?_
          have hR9 : rwG (va_up S (2 + z14).toNat 0) (setLs G (va_up LL (cel G e i) 0)) := by
            rw [show (2 + z14).toNat = 2 + cel G e i by omega, ← setL_is]
            exact rw_let hR hm36 hcl
          exact ih r (by omega) (i + 1) (a + 1) _ _ _ _ _ _ _ (by omega) (by omega) (by omega) (isMg_w hM hR9) (up_let hL (Or.inl rfl)) (fun h2 q1 q2 => by
            simp only [claF, hgo, if_true] at hQ
            exact hQ h2 q1 (fr_0.trans q2))
      refine R_aload_n rfl rfl ?_
      refine R_getfield rfl rfl (by omega) m0 rfl ?_
      refine R_iconst rfl ?_
      refine R_iload rfl rfl ?_
      refine R_iadd rfl ?_
      refine R_iaload rfl (Or.inl (by omega)) m3 ⟨by omega, by omega, by omega⟩ ?_
      refine R_ifeq rfl ⟨by first | omega | (rcases hac with ⟨q, -⟩ | ⟨n, q, q2, -⟩ <;> omega), by first | omega | (rcases hac with ⟨q, -⟩ | ⟨n, q, q2, -⟩ <;> omega)⟩ (fun c60 => ?_) (fun c60 => ?_)
      · have hgo : goB G e LL (cel G e i) = false := by
          unfold goB
          rw [decide_eq_true (show LL (cel G e i) = 0 by omega)]
          rfl
        refine R_iconst rfl ?_
        rw [hgo] at hJ84
        exact hJ84 _ rfl
      · refine R_iload rfl rfl ?_
        refine R_bipush rfl ?_
        refine R_icmpeq rfl ⟨by first | omega | (rcases hac with ⟨q, -⟩ | ⟨n, q, q2, -⟩ <;> omega), by first | omega | (rcases hac with ⟨q, -⟩ | ⟨n, q, q2, -⟩ <;> omega)⟩ ⟨by decide, by decide⟩ (fun c67 => ?_) (fun c67 => ?_)
        · have hgo : goB G e LL (cel G e i) = true := by
            unfold goB
            rw [decide_eq_false (show ¬ LL (cel G e i) = 0 by omega), decide_eq_true (show acr G (!eB G e) (cel G e i) = -9 by omega)]
            rfl
          refine R_iconst rfl ?_
          refine R_goto rfl ?_
          rw [hgo] at hJ84
          exact hJ84 _ rfl
        · obtain ⟨n, hn9, hn8⟩ : ∃ n : Nat, zo = n ∧ n < nE G := by
            rcases hac with ⟨q, -⟩ | ⟨n, q, q2, -⟩
            · omega
            · exact ⟨n, q, q2⟩
          have hx9 : ¬ acr G (!eB G e) (cel G e i) = -9 := by omega
          have hx8 : (acr G (!eB G e) (cel G e i)).toNat = n := by omega
          refine R_aload_n rfl rfl ?_
          refine R_iload rfl rfl ?_
          refine R_vcall rfl rfl ⟨(by omega), _, m0⟩ ⟨Nat.le_of_ble_eq_true rfl, Nat.le_of_ble_eq_true rfl, Nat.zero_le _, Nat.zero_le _⟩ (mEmptyIn_T (e := n) hM hG hN hn9 (by omega) (fun z73 hz73 => aRes_i (rest := []) ?_))
          have hem : emG (setLs G LL) n ≤ 6 := by
            have q1 := ct_le (p := pEm (setLs G LL) n) (eN (setLs G LL) n) 0
            have q2 := eN_6 hG (e := n) (by omega)
            show ctF _ _ _ ≤ 6
            omega
          refine R_ifle rfl ⟨by first | omega | (rcases hac with ⟨q, -⟩ | ⟨n, q, q2, -⟩ <;> omega), by first | omega | (rcases hac with ⟨q, -⟩ | ⟨n, q, q2, -⟩ <;> omega)⟩ (fun c76 => ?_) (fun c76 => ?_)
          · have hgo : goB G e LL (cel G e i) = false := by
              unfold goB
              rw [hx8, decide_eq_false hx9, decide_eq_true (show emG (setLs G LL) n = 0 by omega)]
              simp
            refine R_iconst rfl ?_
            rw [hgo] at hJ84
            exact hJ84 _ rfl
          · have hgo : goB G e LL (cel G e i) = true := by
              unfold goB
              rw [hx8, decide_eq_false (show ¬ LL (cel G e i) = 0 by omega), decide_eq_false (show ¬ emG (setLs G LL) n = 0 by omega)]
              simp
            refine R_iconst rfl ?_
            refine R_goto rfl ?_
            rw [hgo] at hJ84
            exact hJ84 _ rfl
    refine R_istore (lv' := [_, _, _, _, _, _, _]) rfl rfl ?_
    refine R_aload_n rfl rfl ?_
    refine R_getfield rfl rfl (by omega) m0 rfl ?_
    refine R_iload_n rfl rfl ?_
    refine R_iaload rfl (Or.inl (by omega)) m12 ⟨by omega, by omega, by omega⟩ ?_
    refine R_iconst rfl ?_
    refine R_icmpne rfl ⟨by omega, by omega⟩ ⟨by decide, by decide⟩ (fun c29 => ?_) (fun c29 => ?_)
    · have hb9 : eB G e = false := (eB_S setLs_S e).symm.trans (bI_f hD1 (by omega))
      refine R_aload_n rfl rfl ?_
      refine R_getfield rfl rfl (by omega) m0 rfl ?_
      refine R_iload rfl rfl ?_
      refine R_iaload rfl (Or.inl (by omega)) m15 ⟨by omega, by omega, by omega⟩ ?_
      exact hJ49 _ (by
        rw [show z14.toNat = cel G e i by omega, hb9]
        exact (hW _ hcl).trans (acr_S setLs_S _ _))
    · have hb9 : eB G e = true := (eB_S setLs_S e).symm.trans (bI_t hD1 (by omega))
      refine R_aload_n rfl rfl ?_
      refine R_getfield rfl rfl (by omega) m0 rfl ?_
      refine R_iload rfl rfl ?_
      refine R_iaload rfl (Or.inl (by omega)) m14 ⟨by omega, by omega, by omega⟩ ?_
      refine R_goto rfl ?_
      exact hJ49 _ (by
        rw [show z14.toNat = cel G e i by omega, hb9]
        exact (hA _ hcl).trans (acr_S setLs_S _ _))
theorem mEraseEntry_T {d N : Nat} {h : AH} {G : Gr} {th tl rm : Int} {Q : AQ} (hM : isMg h G th tl rm) (hG : okG G) (hN : 139 ≤ N) {e : Nat} {ez : Int} (hez : ez = e) (he : e < nE G) (hQ : ∀ h', isMg h' (setLs G (claF G e (eN G e) 0 (qL G) 0).1) th tl rm → fr h h' 124 1 → Q (.inl (some (vI (((claF G e (eN G e) 0 (qL G) 0).2 : Nat) : Int)))) h' N) : T (d + 3) 186 [vR 122, vI ez] h N Q := by
  obtain ⟨F, D, L, A, W, C, hZ, m11, m12, m13, m14, m15, m16, hE, hA, hW, hC⟩ := id hM
  obtain ⟨S, m0, m3, hR⟩ := id hZ
  obtain ⟨hr0, hr1, rL, rE, rS, hr110, rWn, rWl, hr167, rNl⟩ := id hR
  have r0 : S (0 : Int).toNat = (qR G : Int) := hr0
  have r1 : S (1 : Int).toNat = (qC G : Int) := hr1
  have r110 : S (110 : Int).toNat = (qW G : Int) := hr110
  have r167 : S (167 : Int).toNat = (qN G : Int) := hr167
  obtain ⟨hm4, hm36⟩ := hG.m
  have hmi := qM_int G
  obtain ⟨⟨hr2, hr6⟩, ⟨hc2, hc6⟩, gL, gB, gW, gWn, gWl, gN, gNl⟩ := id hG
  have hn36 := nE36 hG
  subst hez
  refine T_body (I := mi_X9_eraseEntry) (lv := [_, _, _, _, _, _, _]) rfl (Nat.le_of_ble_eq_true rfl) rfl ?_
  refine R_iconst rfl ?_
  refine R_istore_n (lv' := [_, _, _, _, _, _, _]) rfl rfl ?_
  refine R_iconst rfl ?_
  refine R_istore_n (lv' := [_, _, _, _, _, _, _]) rfl rfl ?_
  exact mer_loop hG hN he (eN G e) 0 0 h (qL G) _ _ _ _ _ (Nat.zero_add _) rfl rfl hM hG.2.2.1 hQ
