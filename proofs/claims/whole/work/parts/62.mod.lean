/-! ===== the model: rules ===== -/
theorem al_iff {p : Nat → Bool} : ∀ (r i : Nat), alF p r i = true ↔ ∀ j, i ≤ j → j < i + r → p j = true
  | 0, i => ⟨fun _ j h1 h2 => absurd h2 (by omega), fun _ => rfl⟩
  | r + 1, i => by
    simp only [alF, Bool.and_eq_true]
    constructor
    · intro ⟨h1, h2⟩ j h3 h4
      rcases Nat.lt_or_ge i j with q | q
      · exact (al_iff r (i + 1)).mp h2 j q (by omega)
      · rw [show j = i by omega]
        exact h1
    · intro h
      exact ⟨h i (Nat.le_refl _) (by omega), (al_iff r (i + 1)).mpr (fun j h1 h2 => h j (by omega) (by omega))⟩
def pTr (G : Gr) (c : Nat) : Bool := !qPb G c false || decide (qE G c = qE G (qM G - 2 - c))
def pTd (G : Gr) (c : Nat) : Bool := !qPb G c true || decide (qS G c = qS G (qM G - 1 - qC G - c))
def pTm (G : Gr) (c : Nat) : Bool := pTr G c && pTd G c
theorem tu_sym {f : Nat → Bool} {m s : Nat} (h : ∀ c, c < m → (!f c || f (m - 1 - (c + s))) = true) {c : Nat} (hc : c + s < m) : f c = f (m - 1 - s - c) := by
  have h1 := h c (by omega)
  have h2 := h (m - 1 - s - c) (by omega)
  rw [show m - 1 - (c + s) = m - 1 - s - c by omega] at h1
  rw [show m - 1 - (m - 1 - s - c + s) = c by omega] at h2
  cases q1 : f c <;> cases q2 : f (m - 1 - s - c) <;> rw [q1, q2] at h1 h2 <;> first | rfl | exact absurd h1 (by decide) | exact absurd h2 (by decide)
theorem tm_eq {G : Gr} (hG : okG G) : alF (pTm G) (qM G) 0 = tuG G := by
  have hm := hG.m
  obtain ⟨⟨hr2, hr6⟩, ⟨hc2, hc6⟩, gL, gB, -⟩ := hG
  have e : (alF (pTm G) (qM G) 0 = true) ↔ (tuG G = true) := by
    unfold tuG
    rw [al_iff, al_iff]
    constructor
    · intro h j h1 h2
      have hj := h j h1 h2
      unfold pTm at hj
      rw [Bool.and_eq_true] at hj
      obtain ⟨a1, a2⟩ := hj
      unfold pTu
      rw [Bool.and_eq_true]
      constructor
      · cases q : qE G j with
        | false => rfl
        | true =>
          have hp : qPb G j false = true := qPb_iff.mpr (gB false j q)
          unfold pTr at a1
          rw [hp, q] at a1
          have a1 : decide (true = qE G (qM G - 2 - j)) = true := a1
          rw [show qM G - 1 - (j + 1) = qM G - 2 - j by omega, ← of_decide_eq_true a1]
          rfl
      · cases q : qS G j with
        | false => rfl
        | true =>
          have hp : qPb G j true = true := qPb_iff.mpr (gB true j q)
          unfold pTd at a2
          rw [hp, q] at a2
          have a2 : decide (true = qS G (qM G - 1 - qC G - j)) = true := a2
          rw [show qM G - 1 - (j + qC G) = qM G - 1 - qC G - j by omega, ← of_decide_eq_true a2]
          rfl
    · intro h j h1 h2
      have hE : ∀ c, c < qM G → (!qE G c || qE G (qM G - 1 - (c + 1))) = true := fun c hc => by
        have := h c (Nat.zero_le _) (by omega)
        unfold pTu at this
        exact (Bool.and_eq_true _ _ ▸ this).1
      have hS : ∀ c, c < qM G → (!qS G c || qS G (qM G - 1 - (c + qC G))) = true := fun c hc => by
        have := h c (Nat.zero_le _) (by omega)
        unfold pTu at this
        exact (Bool.and_eq_true _ _ ▸ this).2
      unfold pTm
      rw [Bool.and_eq_true]
      constructor
      · unfold pTr
        cases q : qPb G j false with
        | false => rfl
        | true =>
          have hp := qPb_iff.mp q
          have hlt : j + 1 < qM G := by
            have h3 := hp.1
            have h4 : j % qC G + 1 < qC G := hp.2
            rcases Nat.lt_or_ge (j + 1) (qM G) with k | k
            · exact k
            · have e1 : j + 1 = qM G := by omega
              have e2 : (j + 1) % qC G = 0 := by
                rw [e1]
                exact Nat.mul_mod_left _ _
              have e3 : (j + 1) % qC G = j % qC G + 1 := by
                rw [Nat.add_mod, Nat.mod_eq_of_lt (show 1 < qC G by omega)]
                exact Nat.mod_eq_of_lt h4
              omega
          have ht := tu_sym (s := 1) hE hlt
          rw [show qM G - 1 - 1 - j = qM G - 2 - j by omega] at ht
          rw [decide_eq_true ht]
          rfl
      · unfold pTd
        cases q : qPb G j true with
        | false => rfl
        | true =>
          rw [decide_eq_true (tu_sym (s := qC G) hS (qPb_iff.mp q).2)]
          rfl
  exact Bool.eq_iff_iff.mpr e
theorem pl_r {G : Gr} (hG : okG G) {j : Nat} (h : qPb G j false = true) : j + 1 < qM G := (pos_next hG (qPb_iff.mp h)).2.1
theorem pl_d {G : Gr} {j : Nat} (h : qPb G j true = true) : j + qC G < qM G := (qPb_iff.mp h).2
theorem bI_inj {a b : Bool} (h : bI a = bI b) : a = b := by
  cases a <;> cases b <;> first | rfl | cases h
theorem mtu_r_true {d N : Nat} {h : AH} {G : Gr} {th tl rm en : Int} {Q : AQ} (hZ : isM0 h G th tl rm en) (hG : okG G) (hN : 139 ≤ N) {c : Nat} {zl zi : Int} (hzl : zl = (qM G : Int) - 1) (hzi : zi = c) (hc : c < qM G) (k : Run mi_X9_isTurned (T (d + 1)) Q 59 [some (vR 122), some (vI (bI (true && pTr G c))), some (vI zl), some (vI zi)] [] h N 0 0) : Run mi_X9_isTurned (T (d + 1)) Q 16 [some (vR 122), some (vI (bI true)), some (vI zl), some (vI zi)] [] h N 0 0 := by
  obtain ⟨S, m0, m3, hR⟩ := id hZ
  obtain ⟨hr0, hr1, rL, rE, rS, hr110, rWn, rWl, hr167, rNl⟩ := id hR
  have r0 : S (0 : Int).toNat = (qR G : Int) := hr0
  have r1 : S (1 : Int).toNat = (qC G : Int) := hr1
  have r110 : S (110 : Int).toNat = (qW G : Int) := hr110
  have r167 : S (167 : Int).toNat = (qN G : Int) := hr167
  obtain ⟨hm4, hm36⟩ := hG.m
  have hmi := qM_int G
  obtain ⟨⟨hr2, hr6⟩, ⟨hc2, hc6⟩, gL, gB, gW, gWn, gWl, gN, gNl⟩ := id hG
  subst hzi
  refine R_aload_n rfl rfl ?_
  refine R_iload_n rfl rfl ?_
  refine R_vcall rfl rfl ⟨(by omega), _, m0⟩ ⟨Nat.le_of_ble_eq_true rfl, Nat.le_of_ble_eq_true rfl, Nat.zero_le _, Nat.zero_le _⟩ (mIsLastColumn_T hZ hG hN (by omega) hc (fun z18 hz18 => aRes_i (rest := []) ?_))
  have hz9 := bI01 (!qPb G c false)
  rw [← hz18] at hz9
  refine R_ifne rfl ⟨by omega, by omega⟩ (fun c21 => ?_) (fun c21 => ?_)
  · have hp9 : qPb G c false = false := bI_nt hz18 c21
    have hv : pTr G c = true := by
      unfold pTr
      rw [hp9]
      rfl
    rw [hv, Bool.and_true] at k
    exact k
  · have hp9 : qPb G c false = true := bI_nf hz18 (by omega)
    have hlt := pl_r hG hp9
    have e1 : S ((38 : Int) + (c : Int)).toNat = bI (qE G c) := rE c hc
    have e2 : S (38 + zl - 1 - (c : Int)).toNat = bI (qE G (qM G - 2 - c)) := by
      rw [show (38 + zl - 1 - (c : Int)).toNat = 38 + (qM G - 2 - c) by omega]
      exact rE _ (by omega)
    have e3 := bI01 (qE G c)
    have e4 := bI01 (qE G (qM G - 2 - c))
    rw [← e1] at e3
    rw [← e2] at e4
    refine R_iload_n rfl rfl ?_
    refine R_ifeq rfl ⟨by decide, by decide⟩ (fun c0 => absurd c0 (by decide)) (fun _ => ?_)
    refine R_aload_n rfl rfl ?_
    refine R_getfield rfl rfl (by omega) m0 rfl ?_
    refine R_bipush rfl ?_
    refine R_iload_n rfl rfl ?_
    refine R_iadd rfl ?_
    refine R_iaload rfl (Or.inl (by omega)) m3 ⟨by omega, by omega, by omega⟩ ?_
    refine R_aload_n rfl rfl ?_
    refine R_getfield rfl rfl (by omega) m0 rfl ?_
    refine R_bipush rfl ?_
    refine R_iload_n rfl rfl ?_
    refine R_iadd rfl ?_
    refine R_iconst rfl ?_
    refine R_isub rfl ?_
    refine R_iload_n rfl rfl ?_
    refine R_isub rfl ?_
    refine R_iaload rfl (Or.inl (by omega)) m3 ⟨by omega, by omega, by omega⟩ ?_
    refine R_icmpne rfl ⟨by omega, by omega⟩ ⟨by omega, by omega⟩ (fun c50 => ?_) (fun c50 => ?_)
    · have hv : pTr G c = false := by
        unfold pTr
        rw [hp9, decide_eq_false (fun q => c50 (e1.trans ((congrArg bI q).trans e2.symm)))]
        rfl
      rw [hv] at k
      refine R_iconst rfl ?_
      refine R_istore_n (lv' := [_, _, _, _]) rfl rfl ?_
      exact k
    · have hv : pTr G c = true := by
        unfold pTr
        rw [hp9, decide_eq_true (bI_inj (e1.symm.trans ((show S ((38 : Int) + (c : Int)).toNat = S (38 + zl - 1 - (c : Int)).toNat by omega).trans e2)))]
        rfl
      rw [hv] at k
      refine R_iconst rfl ?_
      refine R_goto rfl ?_
      refine R_istore_n (lv' := [_, _, _, _]) rfl rfl ?_
      exact k
theorem mtu_r_false {d N : Nat} {h : AH} {G : Gr} {th tl rm en : Int} {Q : AQ} (hZ : isM0 h G th tl rm en) (hG : okG G) (hN : 139 ≤ N) {c : Nat} {zl zi : Int} (hzl : zl = (qM G : Int) - 1) (hzi : zi = c) (hc : c < qM G) (k : Run mi_X9_isTurned (T (d + 1)) Q 59 [some (vR 122), some (vI (bI (false && pTr G c))), some (vI zl), some (vI zi)] [] h N 0 0) : Run mi_X9_isTurned (T (d + 1)) Q 16 [some (vR 122), some (vI (bI false)), some (vI zl), some (vI zi)] [] h N 0 0 := by
  obtain ⟨S, m0, m3, hR⟩ := id hZ
  obtain ⟨hr0, hr1, rL, rE, rS, hr110, rWn, rWl, hr167, rNl⟩ := id hR
  have r0 : S (0 : Int).toNat = (qR G : Int) := hr0
  have r1 : S (1 : Int).toNat = (qC G : Int) := hr1
  have r110 : S (110 : Int).toNat = (qW G : Int) := hr110
  have r167 : S (167 : Int).toNat = (qN G : Int) := hr167
  obtain ⟨hm4, hm36⟩ := hG.m
  have hmi := qM_int G
  obtain ⟨⟨hr2, hr6⟩, ⟨hc2, hc6⟩, gL, gB, gW, gWn, gWl, gN, gNl⟩ := id hG
  subst hzi
  refine R_aload_n rfl rfl ?_
  refine R_iload_n rfl rfl ?_
  refine R_vcall rfl rfl ⟨(by omega), _, m0⟩ ⟨Nat.le_of_ble_eq_true rfl, Nat.le_of_ble_eq_true rfl, Nat.zero_le _, Nat.zero_le _⟩ (mIsLastColumn_T hZ hG hN (by omega) hc (fun z18 hz18 => aRes_i (rest := []) ?_))
  have hz9 := bI01 (!qPb G c false)
  rw [← hz18] at hz9
  refine R_ifne rfl ⟨by omega, by omega⟩ (fun c21 => ?_) (fun c21 => ?_)
  · have hp9 : qPb G c false = false := bI_nt hz18 c21
    have hv : pTr G c = true := by
      unfold pTr
      rw [hp9]
      rfl
    rw [hv, Bool.and_true] at k
    exact k
  · have hp9 : qPb G c false = true := bI_nf hz18 (by omega)
    have hlt := pl_r hG hp9
    refine R_iload_n rfl rfl ?_
    refine R_ifeq rfl ⟨by decide, by decide⟩ (fun _ => ?_) (fun c0 => absurd c0 (by decide))
    refine R_iconst rfl ?_
    refine R_istore_n (lv' := [_, _, _, _]) rfl rfl ?_
    exact k
theorem mtu_r {d N : Nat} {h : AH} {G : Gr} {th tl rm en : Int} {Q : AQ} (hZ : isM0 h G th tl rm en) (hG : okG G) (hN : 139 ≤ N) {c : Nat} {zl zi : Int} {b : Bool} (hzl : zl = (qM G : Int) - 1) (hzi : zi = c) (hc : c < qM G) (k : Run mi_X9_isTurned (T (d + 1)) Q 59 [some (vR 122), some (vI (bI (b && pTr G c))), some (vI zl), some (vI zi)] [] h N 0 0) : Run mi_X9_isTurned (T (d + 1)) Q 16 [some (vR 122), some (vI (bI b)), some (vI zl), some (vI zi)] [] h N 0 0 := by
  cases b
  · exact mtu_r_false hZ hG hN hzl hzi hc k
  · exact mtu_r_true hZ hG hN hzl hzi hc k
theorem mtu_d_true {d N : Nat} {h : AH} {G : Gr} {th tl rm en : Int} {Q : AQ} (hZ : isM0 h G th tl rm en) (hG : okG G) (hN : 139 ≤ N) {c : Nat} {zl zi : Int} (hzl : zl = (qM G : Int) - 1) (hzi : zi = c) (hc : c < qM G) (k : Run mi_X9_isTurned (T (d + 1)) Q 107 [some (vR 122), some (vI (bI (true && pTd G c))), some (vI zl), some (vI zi)] [] h N 0 0) : Run mi_X9_isTurned (T (d + 1)) Q 59 [some (vR 122), some (vI (bI true)), some (vI zl), some (vI zi)] [] h N 0 0 := by
  obtain ⟨S, m0, m3, hR⟩ := id hZ
  obtain ⟨hr0, hr1, rL, rE, rS, hr110, rWn, rWl, hr167, rNl⟩ := id hR
  have r0 : S (0 : Int).toNat = (qR G : Int) := hr0
  have r1 : S (1 : Int).toNat = (qC G : Int) := hr1
  have r110 : S (110 : Int).toNat = (qW G : Int) := hr110
  have r167 : S (167 : Int).toNat = (qN G : Int) := hr167
  obtain ⟨hm4, hm36⟩ := hG.m
  have hmi := qM_int G
  obtain ⟨⟨hr2, hr6⟩, ⟨hc2, hc6⟩, gL, gB, gW, gWn, gWl, gN, gNl⟩ := id hG
  subst hzi
  refine R_aload_n rfl rfl ?_
  refine R_iload_n rfl rfl ?_
  refine R_vcall rfl rfl ⟨(by omega), _, m0⟩ ⟨Nat.le_of_ble_eq_true rfl, Nat.le_of_ble_eq_true rfl, Nat.zero_le _, Nat.zero_le _⟩ (mIsLastRow_T hZ hG hN (by omega) hc (fun z61 hz61 => aRes_i (rest := []) ?_))
  have hz9 := bI01 (!qPb G c true)
  rw [← hz61] at hz9
  refine R_ifne rfl ⟨by omega, by omega⟩ (fun c64 => ?_) (fun c64 => ?_)
  · have hp9 : qPb G c true = false := bI_nt hz61 c64
    have hv : pTd G c = true := by
      unfold pTd
      rw [hp9]
      rfl
    rw [hv, Bool.and_true] at k
    exact k
  · have hp9 : qPb G c true = true := bI_nf hz61 (by omega)
    have hlt := pl_d hp9
    have e1 : S ((74 : Int) + (c : Int)).toNat = bI (qS G c) := rS c hc
    have e2 : S (74 + zl - S (1 : Int).toNat - (c : Int)).toNat = bI (qS G (qM G - 1 - qC G - c)) := by
      rw [show (74 + zl - S (1 : Int).toNat - (c : Int)).toNat = 74 + (qM G - 1 - qC G - c) by omega]
      exact rS _ (by omega)
    have e3 := bI01 (qS G c)
    have e4 := bI01 (qS G (qM G - 1 - qC G - c))
    rw [← e1] at e3
    rw [← e2] at e4
    refine R_iload_n rfl rfl ?_
    refine R_ifeq rfl ⟨by decide, by decide⟩ (fun c0 => absurd c0 (by decide)) (fun _ => ?_)
    refine R_aload_n rfl rfl ?_
    refine R_getfield rfl rfl (by omega) m0 rfl ?_
    refine R_bipush rfl ?_
    refine R_iload_n rfl rfl ?_
    refine R_iadd rfl ?_
    refine R_iaload rfl (Or.inl (by omega)) m3 ⟨by omega, by omega, by omega⟩ ?_
    refine R_aload_n rfl rfl ?_
    refine R_getfield rfl rfl (by omega) m0 rfl ?_
    refine R_bipush rfl ?_
    refine R_iload_n rfl rfl ?_
    refine R_iadd rfl ?_
    refine R_aload_n rfl rfl ?_
    refine R_getfield rfl rfl (by omega) m0 rfl ?_
    refine R_iconst rfl ?_
    refine R_iaload rfl (Or.inl (by omega)) m3 ⟨by omega, by omega, by omega⟩ ?_
    refine R_isub rfl ?_
    refine R_iload_n rfl rfl ?_
    refine R_isub rfl ?_
    refine R_iaload rfl (Or.inl (by omega)) m3 ⟨by omega, by omega, by omega⟩ ?_
    refine R_icmpne rfl ⟨by omega, by omega⟩ ⟨by omega, by omega⟩ (fun c98 => ?_) (fun c98 => ?_)
    · have hv : pTd G c = false := by
        unfold pTd
        rw [hp9, decide_eq_false (fun q => c98 (e1.trans ((congrArg bI q).trans e2.symm)))]
        rfl
      rw [hv] at k
      refine R_iconst rfl ?_
      refine R_istore_n (lv' := [_, _, _, _]) rfl rfl ?_
      exact k
    · have hv : pTd G c = true := by
        unfold pTd
        rw [hp9, decide_eq_true (bI_inj (e1.symm.trans ((show S ((74 : Int) + (c : Int)).toNat = S (74 + zl - S (1 : Int).toNat - (c : Int)).toNat by omega).trans e2)))]
        rfl
      rw [hv] at k
      refine R_iconst rfl ?_
      refine R_goto rfl ?_
      refine R_istore_n (lv' := [_, _, _, _]) rfl rfl ?_
      exact k
theorem mtu_d_false {d N : Nat} {h : AH} {G : Gr} {th tl rm en : Int} {Q : AQ} (hZ : isM0 h G th tl rm en) (hG : okG G) (hN : 139 ≤ N) {c : Nat} {zl zi : Int} (hzl : zl = (qM G : Int) - 1) (hzi : zi = c) (hc : c < qM G) (k : Run mi_X9_isTurned (T (d + 1)) Q 107 [some (vR 122), some (vI (bI (false && pTd G c))), some (vI zl), some (vI zi)] [] h N 0 0) : Run mi_X9_isTurned (T (d + 1)) Q 59 [some (vR 122), some (vI (bI false)), some (vI zl), some (vI zi)] [] h N 0 0 := by
  obtain ⟨S, m0, m3, hR⟩ := id hZ
  obtain ⟨hr0, hr1, rL, rE, rS, hr110, rWn, rWl, hr167, rNl⟩ := id hR
  have r0 : S (0 : Int).toNat = (qR G : Int) := hr0
  have r1 : S (1 : Int).toNat = (qC G : Int) := hr1
  have r110 : S (110 : Int).toNat = (qW G : Int) := hr110
  have r167 : S (167 : Int).toNat = (qN G : Int) := hr167
  obtain ⟨hm4, hm36⟩ := hG.m
  have hmi := qM_int G
  obtain ⟨⟨hr2, hr6⟩, ⟨hc2, hc6⟩, gL, gB, gW, gWn, gWl, gN, gNl⟩ := id hG
  subst hzi
  refine R_aload_n rfl rfl ?_
  refine R_iload_n rfl rfl ?_
  refine R_vcall rfl rfl ⟨(by omega), _, m0⟩ ⟨Nat.le_of_ble_eq_true rfl, Nat.le_of_ble_eq_true rfl, Nat.zero_le _, Nat.zero_le _⟩ (mIsLastRow_T hZ hG hN (by omega) hc (fun z61 hz61 => aRes_i (rest := []) ?_))
  have hz9 := bI01 (!qPb G c true)
  rw [← hz61] at hz9
  refine R_ifne rfl ⟨by omega, by omega⟩ (fun c64 => ?_) (fun c64 => ?_)
  · have hp9 : qPb G c true = false := bI_nt hz61 c64
    have hv : pTd G c = true := by
      unfold pTd
      rw [hp9]
      rfl
    rw [hv, Bool.and_true] at k
    exact k
  · have hp9 : qPb G c true = true := bI_nf hz61 (by omega)
    have hlt := pl_d hp9
    refine R_iload_n rfl rfl ?_
    refine R_ifeq rfl ⟨by decide, by decide⟩ (fun _ => ?_) (fun c0 => absurd c0 (by decide))
    refine R_iconst rfl ?_
    refine R_istore_n (lv' := [_, _, _, _]) rfl rfl ?_
    exact k
theorem mtu_d {d N : Nat} {h : AH} {G : Gr} {th tl rm en : Int} {Q : AQ} (hZ : isM0 h G th tl rm en) (hG : okG G) (hN : 139 ≤ N) {c : Nat} {zl zi : Int} {b : Bool} (hzl : zl = (qM G : Int) - 1) (hzi : zi = c) (hc : c < qM G) (k : Run mi_X9_isTurned (T (d + 1)) Q 107 [some (vR 122), some (vI (bI (b && pTd G c))), some (vI zl), some (vI zi)] [] h N 0 0) : Run mi_X9_isTurned (T (d + 1)) Q 59 [some (vR 122), some (vI (bI b)), some (vI zl), some (vI zi)] [] h N 0 0 := by
  cases b
  · exact mtu_d_false hZ hG hN hzl hzi hc k
  · exact mtu_d_true hZ hG hN hzl hzi hc k
theorem mtu_loop {d N : Nat} {h : AH} {G : Gr} {th tl rm en : Int} {Q : AQ} (hZ : isM0 h G th tl rm en) (hG : okG G) (hN : 139 ≤ N) {zl : Int} (hzl : zl = (qM G : Int) - 1) : ∀ (r i : Nat) (b : Bool) (zi : Int), i + r = qM G → zi = i → (∀ z : Int, z = bI (b && alF (pTm G) r i) → Q (.inl (some (vI z))) h N) → Run mi_X9_isTurned (T (d + 1)) Q 11 [some (vR 122), some (vI (bI b)), some (vI zl), some (vI zi)] [] h N 0 0 := by
  obtain ⟨S, m0, m3, hR⟩ := id hZ
  obtain ⟨hr0, hr1, rL, rE, rS, hr110, rWn, rWl, hr167, rNl⟩ := id hR
  have r0 : S (0 : Int).toNat = (qR G : Int) := hr0
  have r1 : S (1 : Int).toNat = (qC G : Int) := hr1
  have r110 : S (110 : Int).toNat = (qW G : Int) := hr110
  have r167 : S (167 : Int).toNat = (qN G : Int) := hr167
  obtain ⟨hm4, hm36⟩ := hG.m
  have hmi := qM_int G
  obtain ⟨⟨hr2, hr6⟩, ⟨hc2, hc6⟩, gL, gB, gW, gWn, gWl, gN, gNl⟩ := id hG
  intro r
  induction r using Nat.strongRecOn with
  | ind r ih =>
  intro i b zi hr hzi hQ
  refine R_iload_n rfl rfl ?_
  refine R_iload_n rfl rfl ?_
  refine R_icmpgt rfl ⟨by omega, by omega⟩ ⟨by omega, by omega⟩ (fun c13 => ?_) (fun c13 => ?_)
  · have hr0 : r = 0 := by omega
    subst hr0
    refine R_iload_n rfl rfl ?_
    exact R_ireturn rfl (fun _ => bI01 _) (Nat.zero_le _) (Nat.zero_le _) (hQ _ (by simp only [alF, Bool.and_true]))
  · obtain ⟨r, rfl⟩ : ∃ r1, r = r1 + 1 := ⟨r - 1, by omega⟩
    refine mtu_r hZ hG hN (c := i) hzl hzi (by omega) (mtu_d hZ hG hN (c := i) hzl hzi (by omega) ?_)
    refine R_iinc (lv' := [_, _, _, _]) rfl rfl rfl ?_
    refine R_goto rfl ?_
    exact ih r (by omega) (i + 1) _ _ (by omega) (by omega) (fun z hz => hQ z (by rw [hz]; simp only [alF, pTm, Bool.and_assoc]))
theorem mIsTurned_T {d N : Nat} {h : AH} {G : Gr} {th tl rm en : Int} {Q : AQ} (hZ : isM0 h G th tl rm en) (hG : okG G) (hN : 139 ≤ N) (hQ : ∀ z : Int, z = bI (tuG G) → Q (.inl (some (vI z))) h N) : T (d + 2) 162 [vR 122] h N Q := by
  obtain ⟨S, m0, m3, hR⟩ := id hZ
  obtain ⟨hr0, hr1, rL, rE, rS, hr110, rWn, rWl, hr167, rNl⟩ := id hR
  have r0 : S (0 : Int).toNat = (qR G : Int) := hr0
  have r1 : S (1 : Int).toNat = (qC G : Int) := hr1
  have r110 : S (110 : Int).toNat = (qW G : Int) := hr110
  have r167 : S (167 : Int).toNat = (qN G : Int) := hr167
  obtain ⟨hm4, hm36⟩ := hG.m
  have hmi := qM_int G
  obtain ⟨⟨hr2, hr6⟩, ⟨hc2, hc6⟩, gL, gB, gW, gWn, gWl, gN, gNl⟩ := id hG
  refine T_body (I := mi_X9_isTurned) (lv := [_, _, _, _]) rfl (Nat.le_of_ble_eq_true rfl) rfl ?_
  refine R_iconst rfl ?_
  refine R_istore_n (lv' := [_, _, _, _]) rfl rfl ?_
  refine R_aload_n rfl rfl ?_
  refine R_vcall rfl rfl ⟨(by omega), _, m0⟩ ⟨Nat.le_of_ble_eq_true rfl, Nat.le_of_ble_eq_true rfl, Nat.zero_le _, Nat.zero_le _⟩ (mSize_T hZ hG hN (fun z3 hz3 => aRes_i (rest := []) ?_))
  refine R_iconst rfl ?_
  refine R_isub rfl ?_
  refine R_istore_n (lv' := [_, _, _, _]) rfl rfl ?_
  refine R_iconst rfl ?_
  refine R_istore_n (lv' := [_, _, _, _]) rfl rfl ?_
  exact mtu_loop hZ hG hN (by omega) (qM G) 0 true _ (Nat.zero_add _) rfl (fun z hz => hQ z (by rw [hz, Bool.true_and, tm_eq hG]))
theorem mwc_F {d N : Nat} {h : AH} {G : Gr} {th tl rm : Int} {Q : AQ} (hM : isMg h G th tl rm) (hG : okG G) (hN : 139 ≤ N) : ∀ (r i : Nat) (zi : Int), i + r = nE G → zi = i → (∀ z : Int, z = 0 → Q (.inl (some (vI z))) h N) → Run mi_X9_isWellChecked (T (d + 2)) Q 4 [some (vR 122), some (vI 0), some (vI zi)] [] h N 0 0 := by
  obtain ⟨F, D, L, A, W, C, hZ, m11, m12, m13, m14, m15, m16, hE, hA, hW, hC⟩ := id hM
  obtain ⟨S, m0, m3, hR⟩ := id hZ
  obtain ⟨hr0, hr1, rL, rE, rS, hr110, rWn, rWl, hr167, rNl⟩ := id hR
  have r0 : S (0 : Int).toNat = (qR G : Int) := hr0
  have r1 : S (1 : Int).toNat = (qC G : Int) := hr1
  have r110 : S (110 : Int).toNat = (qW G : Int) := hr110
  have r167 : S (167 : Int).toNat = (qN G : Int) := hr167
  obtain ⟨hm4, hm36⟩ := hG.m
  have hmi := qM_int G
  obtain ⟨⟨hr2, hr6⟩, ⟨hc2, hc6⟩, gL, gB, gW, gWn, gWl, gN, gNl⟩ := id hG
  have hn36 := nE36 hG
  intro r
  induction r using Nat.strongRecOn with
  | ind r ih =>
  intro i zi hr hzi hQ
  refine R_iload_n rfl rfl ?_
  refine R_aload_n rfl rfl ?_
  refine R_getfield rfl rfl (by omega) m0 rfl ?_
  refine R_icmpge rfl ⟨by omega, by omega⟩ ⟨by omega, by omega⟩ (fun c9 => ?_) (fun c9 => ?_)
  · have hr0 : r = 0 := by omega
    subst hr0
    refine R_iload_n rfl rfl ?_
    exact R_ireturn rfl (fun _ => by omega) (Nat.zero_le _) (Nat.zero_le _) (hQ _ rfl)
  · obtain ⟨r, rfl⟩ : ∃ r1, r = r1 + 1 := ⟨r - 1, by omega⟩
    obtain ⟨hF9, hL9, hD9⟩ := hE _ _ _ (ents_get (e := i) (by omega))
    have hcz : zi.toNat = i := by omega
    have hL1 : L zi.toNat = (eN G i : Int) := (congrArg L hcz).trans hL9
    have he6 := eN_6 hG (e := i) (by omega)
    refine R_iload_n rfl rfl ?_
    refine R_ifeq rfl ⟨by decide, by decide⟩ (fun _ => ?_) (fun c0 => absurd c0 (by decide))
    refine R_iconst rfl ?_
    refine R_istore_n (lv' := [_, _, _]) rfl rfl ?_
    refine R_iinc (lv' := [_, _, _]) rfl rfl rfl ?_
    refine R_goto rfl ?_
    exact ih r (by omega) (i + 1) _ (by omega) (by omega) hQ
theorem mwc_T {d N : Nat} {h : AH} {G : Gr} {th tl rm : Int} {Q : AQ} (hM : isMg h G th tl rm) (hG : okG G) (hN : 139 ≤ N) : ∀ (r i : Nat) (zi : Int), i + r = nE G → zi = i → (∀ z : Int, z = bI (alF (pWe G) r i) → Q (.inl (some (vI z))) h N) → Run mi_X9_isWellChecked (T (d + 2)) Q 4 [some (vR 122), some (vI 1), some (vI zi)] [] h N 0 0 := by
  obtain ⟨F, D, L, A, W, C, hZ, m11, m12, m13, m14, m15, m16, hE, hA, hW, hC⟩ := id hM
  obtain ⟨S, m0, m3, hR⟩ := id hZ
  obtain ⟨hr0, hr1, rL, rE, rS, hr110, rWn, rWl, hr167, rNl⟩ := id hR
  have r0 : S (0 : Int).toNat = (qR G : Int) := hr0
  have r1 : S (1 : Int).toNat = (qC G : Int) := hr1
  have r110 : S (110 : Int).toNat = (qW G : Int) := hr110
  have r167 : S (167 : Int).toNat = (qN G : Int) := hr167
  obtain ⟨hm4, hm36⟩ := hG.m
  have hmi := qM_int G
  obtain ⟨⟨hr2, hr6⟩, ⟨hc2, hc6⟩, gL, gB, gW, gWn, gWl, gN, gNl⟩ := id hG
  have hn36 := nE36 hG
  intro r
  induction r using Nat.strongRecOn with
  | ind r ih =>
  intro i zi hr hzi hQ
  refine R_iload_n rfl rfl ?_
  refine R_aload_n rfl rfl ?_
  refine R_getfield rfl rfl (by omega) m0 rfl ?_
  refine R_icmpge rfl ⟨by omega, by omega⟩ ⟨by omega, by omega⟩ (fun c9 => ?_) (fun c9 => ?_)
  · have hr0 : r = 0 := by omega
    subst hr0
    refine R_iload_n rfl rfl ?_
    exact R_ireturn rfl (fun _ => by omega) (Nat.zero_le _) (Nat.zero_le _) (hQ _ rfl)
  · obtain ⟨r, rfl⟩ : ∃ r1, r = r1 + 1 := ⟨r - 1, by omega⟩
    obtain ⟨hF9, hL9, hD9⟩ := hE _ _ _ (ents_get (e := i) (by omega))
    have hcz : zi.toNat = i := by omega
    have hL1 : L zi.toNat = (eN G i : Int) := (congrArg L hcz).trans hL9
    have he6 := eN_6 hG (e := i) (by omega)
    refine R_iload_n rfl rfl ?_
    refine R_ifeq rfl ⟨by decide, by decide⟩ (fun c0 => absurd c0 (by decide)) (fun _ => ?_)
    refine R_iconst rfl ?_
    refine R_aload_n rfl rfl ?_
    refine R_iload_n rfl rfl ?_
    refine R_vcall rfl rfl ⟨(by omega), _, m0⟩ ⟨Nat.le_of_ble_eq_true rfl, Nat.le_of_ble_eq_true rfl, Nat.zero_le _, Nat.zero_le _⟩ (mUncheckedIn_T (e := i) hM hG hN (by omega) (by omega) (fun z19 hz19 => aRes_i (rest := [_]) ?_))
    have hle := ct_le (p := pUn G i) (eN G i) 0
    have hun : unG G i = ctF (pUn G i) (eN G i) 0 := rfl
    refine R_imul rfl ?_
    refine R_aload_n rfl rfl ?_
    refine R_getfield rfl rfl (by omega) m0 rfl ?_
    refine R_iload_n rfl rfl ?_
    refine R_iaload rfl (Or.inl (by omega)) m13 ⟨by omega, by omega, by omega⟩ ?_
    refine R_icmpgt rfl ⟨by omega, by omega⟩ ⟨by omega, by omega⟩ (fun c29 => ?_) (fun c29 => ?_)
    · have hp : pWe G i = false := decide_eq_false (by omega)
      refine R_iconst rfl ?_
      refine R_istore_n (lv' := [_, _, _]) rfl rfl ?_
      refine R_iinc (lv' := [_, _, _]) rfl rfl rfl ?_
      refine R_goto rfl ?_
      exact mwc_F hM hG hN r (i + 1) _ (by omega) (by omega) (fun z hz => hQ z (hz.trans (congrArg bI (al_hit (p := pWe G) hp))))
    · have hp : pWe G i = true := decide_eq_true (by omega)
      refine R_iconst rfl ?_
      refine R_goto rfl ?_
      refine R_istore_n (lv' := [_, _, _]) rfl rfl ?_
      refine R_iinc (lv' := [_, _, _]) rfl rfl rfl ?_
      refine R_goto rfl ?_
      exact ih r (by omega) (i + 1) _ (by omega) (by omega) (fun z hz => hQ z (hz.trans (congrArg bI (al_skip (p := pWe G) hp))))
theorem mIsWellChecked_T {d N : Nat} {h : AH} {G : Gr} {th tl rm : Int} {Q : AQ} (hM : isMg h G th tl rm) (hG : okG G) (hN : 139 ≤ N) (hQ : ∀ z : Int, z = bI (weG G) → Q (.inl (some (vI z))) h N) : T (d + 3) 163 [vR 122] h N Q := by
  obtain ⟨F, D, L, A, W, C, hZ, m11, m12, m13, m14, m15, m16, hE, hA, hW, hC⟩ := id hM
  obtain ⟨S, m0, m3, hR⟩ := id hZ
  obtain ⟨hr0, hr1, rL, rE, rS, hr110, rWn, rWl, hr167, rNl⟩ := id hR
  have r0 : S (0 : Int).toNat = (qR G : Int) := hr0
  have r1 : S (1 : Int).toNat = (qC G : Int) := hr1
  have r110 : S (110 : Int).toNat = (qW G : Int) := hr110
  have r167 : S (167 : Int).toNat = (qN G : Int) := hr167
  obtain ⟨hm4, hm36⟩ := hG.m
  have hmi := qM_int G
  obtain ⟨⟨hr2, hr6⟩, ⟨hc2, hc6⟩, gL, gB, gW, gWn, gWl, gN, gNl⟩ := id hG
  have hn36 := nE36 hG
  refine T_body (I := mi_X9_isWellChecked) (lv := [_, _, _]) rfl (Nat.le_of_ble_eq_true rfl) rfl ?_
  refine R_iconst rfl ?_
  refine R_istore_n (lv' := [_, _, _]) rfl rfl ?_
  refine R_iconst rfl ?_
  refine R_istore_n (lv' := [_, _, _]) rfl rfl ?_
  exact mwc_T hM hG hN (nE G) 0 _ (Nat.zero_add _) rfl hQ
theorem mpi_F {d N : Nat} {h : AH} {G : Gr} {th tl rm : Int} {Q : AQ} (hM : isMg h G th tl rm) (hG : okG G) (hN : 139 ≤ N) {e : Nat} (he : e < nE G) : ∀ (r i : Nat) (zi : Int), i + 1 + r = eN G e → zi = i → (∀ l, Run mi_X9_isWithoutPairs (T (d + 1)) Q 72 [some (vR 122), some (vI 0), some (vI e), l] [] h N 0 0) → Run mi_X9_isWithoutPairs (T (d + 1)) Q 14 [some (vR 122), some (vI 0), some (vI e), some (vI zi)] [] h N 0 0 := by
  obtain ⟨F, D, L, A, W, C, hZ, m11, m12, m13, m14, m15, m16, hE, hA, hW, hC⟩ := id hM
  obtain ⟨S, m0, m3, hR⟩ := id hZ
  obtain ⟨hr0, hr1, rL, rE, rS, hr110, rWn, rWl, hr167, rNl⟩ := id hR
  have r0 : S (0 : Int).toNat = (qR G : Int) := hr0
  have r1 : S (1 : Int).toNat = (qC G : Int) := hr1
  have r110 : S (110 : Int).toNat = (qW G : Int) := hr110
  have r167 : S (167 : Int).toNat = (qN G : Int) := hr167
  obtain ⟨hm4, hm36⟩ := hG.m
  have hmi := qM_int G
  obtain ⟨⟨hr2, hr6⟩, ⟨hc2, hc6⟩, gL, gB, gW, gWn, gWl, gN, gNl⟩ := id hG
  have hn36 := nE36 hG
  obtain ⟨hF9, hL9, hD9⟩ := hE _ _ _ (ents_get he)
  have hF1 : F ((e : Int)).toNat = (eC G e : Int) := hF9
  have hL1 : L ((e : Int)).toNat = (eN G e : Int) := hL9
  have hD1 : D ((e : Int)).toNat = bI (eB G e) := hD9
  have hD01 : D ((e : Int)).toNat = 0 ∨ D ((e : Int)).toNat = 1 := by
    rw [hD1]
    exact bI01 _
  have he6 := eN_6 hG he
  intro r
  induction r using Nat.strongRecOn with
  | ind r ih =>
  intro i zi hr hzi k
  refine R_iload_n rfl rfl ?_
  refine R_iconst rfl ?_
  refine R_iadd rfl ?_
  refine R_aload_n rfl rfl ?_
  refine R_getfield rfl rfl (by omega) m0 rfl ?_
  refine R_iload_n rfl rfl ?_
  refine R_iaload rfl (Or.inl (by omega)) m13 ⟨by omega, by omega, by omega⟩ ?_
  refine R_icmpge rfl ⟨by omega, by omega⟩ ⟨by omega, by omega⟩ (fun c23 => ?_) (fun c23 => ?_)
  · have hr0 : r = 0 := by omega
    subst hr0
    exact k _
  · obtain ⟨r, rfl⟩ : ∃ r1, r = r1 + 1 := ⟨r - 1, by omega⟩
    refine R_iload_n rfl rfl ?_
    refine R_ifeq rfl ⟨by decide, by decide⟩ (fun _ => ?_) (fun c0 => absurd c0 (by decide))
    refine R_iconst rfl ?_
    refine R_istore_n (lv' := [_, _, _, _]) rfl rfl ?_
    refine R_iinc (lv' := [_, _, _, _]) rfl rfl rfl ?_
    refine R_goto rfl ?_
    exact ih r (by omega) (i + 1) _ (by omega) (by omega) k
theorem mpi_T {d N : Nat} {h : AH} {G : Gr} {th tl rm : Int} {Q : AQ} (hM : isMg h G th tl rm) (hG : okG G) (hN : 139 ≤ N) {e : Nat} (he : e < nE G) : ∀ (r i : Nat) (zi : Int), i + 1 + r = eN G e → zi = i → (alF (pPr G e) r (i + 1) = true → ∀ l, Run mi_X9_isWithoutPairs (T (d + 1)) Q 72 [some (vR 122), some (vI 1), some (vI e), l] [] h N 0 0) → (alF (pPr G e) r (i + 1) = false → ∀ l, Run mi_X9_isWithoutPairs (T (d + 1)) Q 72 [some (vR 122), some (vI 0), some (vI e), l] [] h N 0 0) → Run mi_X9_isWithoutPairs (T (d + 1)) Q 14 [some (vR 122), some (vI 1), some (vI e), some (vI zi)] [] h N 0 0 := by
  obtain ⟨F, D, L, A, W, C, hZ, m11, m12, m13, m14, m15, m16, hE, hA, hW, hC⟩ := id hM
  obtain ⟨S, m0, m3, hR⟩ := id hZ
  obtain ⟨hr0, hr1, rL, rE, rS, hr110, rWn, rWl, hr167, rNl⟩ := id hR
  have r0 : S (0 : Int).toNat = (qR G : Int) := hr0
  have r1 : S (1 : Int).toNat = (qC G : Int) := hr1
  have r110 : S (110 : Int).toNat = (qW G : Int) := hr110
  have r167 : S (167 : Int).toNat = (qN G : Int) := hr167
  obtain ⟨hm4, hm36⟩ := hG.m
  have hmi := qM_int G
  obtain ⟨⟨hr2, hr6⟩, ⟨hc2, hc6⟩, gL, gB, gW, gWn, gWl, gN, gNl⟩ := id hG
  have hn36 := nE36 hG
  obtain ⟨hF9, hL9, hD9⟩ := hE _ _ _ (ents_get he)
  have hF1 : F ((e : Int)).toNat = (eC G e : Int) := hF9
  have hL1 : L ((e : Int)).toNat = (eN G e : Int) := hL9
  have hD1 : D ((e : Int)).toNat = bI (eB G e) := hD9
  have hD01 : D ((e : Int)).toNat = 0 ∨ D ((e : Int)).toNat = 1 := by
    rw [hD1]
    exact bI01 _
  have he6 := eN_6 hG he
  intro r
  induction r using Nat.strongRecOn with
  | ind r ih =>
  intro i zi hr hzi k1 k0
  refine R_iload_n rfl rfl ?_
  refine R_iconst rfl ?_
  refine R_iadd rfl ?_
  refine R_aload_n rfl rfl ?_
  refine R_getfield rfl rfl (by omega) m0 rfl ?_
  refine R_iload_n rfl rfl ?_
  refine R_iaload rfl (Or.inl (by omega)) m13 ⟨by omega, by omega, by omega⟩ ?_
  refine R_icmpge rfl ⟨by omega, by omega⟩ ⟨by omega, by omega⟩ (fun c23 => ?_) (fun c23 => ?_)
  · have hr0 : r = 0 := by omega
    subst hr0
    exact k1 rfl _
  · obtain ⟨r, rfl⟩ : ∃ r1, r = r1 + 1 := ⟨r - 1, by omega⟩
    refine R_iload_n rfl rfl ?_
    refine R_ifeq rfl ⟨by decide, by decide⟩ (fun c0 => absurd c0 (by decide)) (fun _ => ?_)
    refine R_aload_n rfl rfl ?_
    refine R_aload_n rfl rfl ?_
    refine R_iload_n rfl rfl ?_
    refine R_iload_n rfl rfl ?_
    refine R_vcall rfl rfl ⟨(by omega), _, m0⟩ ⟨Nat.le_of_ble_eq_true rfl, Nat.le_of_ble_eq_true rfl, Nat.zero_le _, Nat.zero_le _⟩ (mCellOf_T (i := i) hM hG hN rfl he (by omega) (fun z34 hz34 => aRes_i (rest := [_]) ?_))
    have hcl34 := cel_lt hG he (i := i) (by omega)
    refine R_vcall rfl rfl ⟨(by omega), _, m0⟩ ⟨Nat.le_of_ble_eq_true rfl, Nat.le_of_ble_eq_true rfl, Nat.zero_le _, Nat.zero_le _⟩ (mEntriesOf_T (x := cel G e i) hM hG hN (by omega) (by omega) (fun z37 hz37 => aRes_i (rest := []) ?_))
    have hen37 := enC_2 (G := G) (x := cel G e i)
    refine R_iconst rfl ?_
    refine R_icmpne rfl ⟨by omega, by omega⟩ ⟨by decide, by decide⟩ (fun c41 => ?_) (fun c41 => ?_)
    · have hp : pPr G e (i + 1) = true := by
        unfold pPr
        rw [show i + 1 - 1 = i from rfl, decide_eq_false (show ¬ enC G (cel G e i) = 1 by omega)]
        rfl
      refine R_iconst rfl ?_
      refine R_goto rfl ?_
      refine R_istore_n (lv' := [_, _, _, _]) rfl rfl ?_
      refine R_iinc (lv' := [_, _, _, _]) rfl rfl rfl ?_
      refine R_goto rfl ?_
      exact ih r (by omega) (i + 1) _ (by omega) (by omega) (fun q l => k1 ((al_skip (p := pPr G e) hp).symm.trans q) l) (fun q l => k0 ((al_skip (p := pPr G e) hp).symm.trans q) l)
    · refine R_aload_n rfl rfl ?_
      refine R_aload_n rfl rfl ?_
      refine R_iload_n rfl rfl ?_
      refine R_iload_n rfl rfl ?_
      refine R_iconst rfl ?_
      refine R_iadd rfl ?_
      refine R_vcall rfl rfl ⟨(by omega), _, m0⟩ ⟨Nat.le_of_ble_eq_true rfl, Nat.le_of_ble_eq_true rfl, Nat.zero_le _, Nat.zero_le _⟩ (mCellOf_T (i := i + 1) hM hG hN rfl he (by omega) (fun z50 hz50 => aRes_i (rest := [_]) ?_))
      have hcl50 := cel_lt hG he (i := i + 1) (by omega)
      refine R_vcall rfl rfl ⟨(by omega), _, m0⟩ ⟨Nat.le_of_ble_eq_true rfl, Nat.le_of_ble_eq_true rfl, Nat.zero_le _, Nat.zero_le _⟩ (mEntriesOf_T (x := cel G e (i + 1)) hM hG hN (by omega) (by omega) (fun z53 hz53 => aRes_i (rest := []) ?_))
      have hen53 := enC_2 (G := G) (x := cel G e (i + 1))
      refine R_iconst rfl ?_
      refine R_icmpeq rfl ⟨by omega, by omega⟩ ⟨by decide, by decide⟩ (fun c57 => ?_) (fun c57 => ?_)
      · have hp : pPr G e (i + 1) = false := by
          unfold pPr
          rw [show i + 1 - 1 = i from rfl, decide_eq_true (show enC G (cel G e i) = 1 by omega), decide_eq_true (show enC G (cel G e (i + 1)) = 1 by omega)]
          rfl
        refine R_iconst rfl ?_
        refine R_istore_n (lv' := [_, _, _, _]) rfl rfl ?_
        refine R_iinc (lv' := [_, _, _, _]) rfl rfl rfl ?_
        refine R_goto rfl ?_
        exact mpi_F hM hG hN he r (i + 1) _ (by omega) (by omega) (k0 (al_hit (p := pPr G e) hp).symm)
      · have hp : pPr G e (i + 1) = true := by
          unfold pPr
          rw [show i + 1 - 1 = i from rfl, decide_eq_false (show ¬ enC G (cel G e (i + 1)) = 1 by omega), Bool.and_false]
          rfl
        refine R_iconst rfl ?_
        refine R_goto rfl ?_
        refine R_istore_n (lv' := [_, _, _, _]) rfl rfl ?_
        refine R_iinc (lv' := [_, _, _, _]) rfl rfl rfl ?_
        refine R_goto rfl ?_
        exact ih r (by omega) (i + 1) _ (by omega) (by omega) (fun q l => k1 ((al_skip (p := pPr G e) hp).symm.trans q) l) (fun q l => k0 ((al_skip (p := pPr G e) hp).symm.trans q) l)
theorem mpo_F {d N : Nat} {h : AH} {G : Gr} {th tl rm : Int} {Q : AQ} (hM : isMg h G th tl rm) (hG : okG G) (hN : 139 ≤ N) : ∀ (r i : Nat) (zi : Int) (l : Option AV), i + r = nE G → zi = i → (∀ z : Int, z = 0 → Q (.inl (some (vI z))) h N) → Run mi_X9_isWithoutPairs (T (d + 1)) Q 4 [some (vR 122), some (vI 0), some (vI zi), l] [] h N 0 0 := by
  obtain ⟨F, D, L, A, W, C, hZ, m11, m12, m13, m14, m15, m16, hE, hA, hW, hC⟩ := id hM
  obtain ⟨S, m0, m3, hR⟩ := id hZ
  obtain ⟨hr0, hr1, rL, rE, rS, hr110, rWn, rWl, hr167, rNl⟩ := id hR
  have r0 : S (0 : Int).toNat = (qR G : Int) := hr0
  have r1 : S (1 : Int).toNat = (qC G : Int) := hr1
  have r110 : S (110 : Int).toNat = (qW G : Int) := hr110
  have r167 : S (167 : Int).toNat = (qN G : Int) := hr167
  obtain ⟨hm4, hm36⟩ := hG.m
  have hmi := qM_int G
  obtain ⟨⟨hr2, hr6⟩, ⟨hc2, hc6⟩, gL, gB, gW, gWn, gWl, gN, gNl⟩ := id hG
  have hn36 := nE36 hG
  intro r
  induction r using Nat.strongRecOn with
  | ind r ih =>
  intro i zi l hr hzi hQ
  refine R_iload_n rfl rfl ?_
  refine R_aload_n rfl rfl ?_
  refine R_getfield rfl rfl (by omega) m0 rfl ?_
  refine R_icmpge rfl ⟨by omega, by omega⟩ ⟨by omega, by omega⟩ (fun c9 => ?_) (fun c9 => ?_)
  · have hr0 : r = 0 := by omega
    subst hr0
    refine R_iload_n rfl rfl ?_
    exact R_ireturn rfl (fun _ => by omega) (Nat.zero_le _) (Nat.zero_le _) (hQ _ rfl)
  · obtain ⟨r, rfl⟩ : ∃ r1, r = r1 + 1 := ⟨r - 1, by omega⟩
    subst hzi
    have he6 := eN_6 hG (e := i) (by omega)
    refine R_iconst rfl ?_
    refine R_istore_n (lv' := [_, _, _, _]) rfl rfl ?_
    refine mpi_F hM hG hN (e := i) (by omega) (eN G i - 1) 0 _ (by omega) rfl (fun l => ?_)
    refine R_iinc (lv' := [_, _, _, _]) rfl rfl rfl ?_
    refine R_goto rfl ?_
    exact ih r (by omega) (i + 1) _ _ (by omega) (by omega) hQ
theorem mpo_T {d N : Nat} {h : AH} {G : Gr} {th tl rm : Int} {Q : AQ} (hM : isMg h G th tl rm) (hG : okG G) (hN : 139 ≤ N) : ∀ (r i : Nat) (zi : Int) (l : Option AV), i + r = nE G → zi = i → (∀ z : Int, z = bI (alF (pPe G) r i) → Q (.inl (some (vI z))) h N) → Run mi_X9_isWithoutPairs (T (d + 1)) Q 4 [some (vR 122), some (vI 1), some (vI zi), l] [] h N 0 0 := by
  obtain ⟨F, D, L, A, W, C, hZ, m11, m12, m13, m14, m15, m16, hE, hA, hW, hC⟩ := id hM
  obtain ⟨S, m0, m3, hR⟩ := id hZ
  obtain ⟨hr0, hr1, rL, rE, rS, hr110, rWn, rWl, hr167, rNl⟩ := id hR
  have r0 : S (0 : Int).toNat = (qR G : Int) := hr0
  have r1 : S (1 : Int).toNat = (qC G : Int) := hr1
  have r110 : S (110 : Int).toNat = (qW G : Int) := hr110
  have r167 : S (167 : Int).toNat = (qN G : Int) := hr167
  obtain ⟨hm4, hm36⟩ := hG.m
  have hmi := qM_int G
  obtain ⟨⟨hr2, hr6⟩, ⟨hc2, hc6⟩, gL, gB, gW, gWn, gWl, gN, gNl⟩ := id hG
  have hn36 := nE36 hG
  intro r
  induction r using Nat.strongRecOn with
  | ind r ih =>
  intro i zi l hr hzi hQ
  refine R_iload_n rfl rfl ?_
  refine R_aload_n rfl rfl ?_
  refine R_getfield rfl rfl (by omega) m0 rfl ?_
  refine R_icmpge rfl ⟨by omega, by omega⟩ ⟨by omega, by omega⟩ (fun c9 => ?_) (fun c9 => ?_)
  · have hr0 : r = 0 := by omega
    subst hr0
    refine R_iload_n rfl rfl ?_
    exact R_ireturn rfl (fun _ => by omega) (Nat.zero_le _) (Nat.zero_le _) (hQ _ rfl)
  · obtain ⟨r, rfl⟩ : ∃ r1, r = r1 + 1 := ⟨r - 1, by omega⟩
    subst hzi
    have he6 := eN_6 hG (e := i) (by omega)
    refine R_iconst rfl ?_
    refine R_istore_n (lv' := [_, _, _, _]) rfl rfl ?_
    refine mpi_T hM hG hN (e := i) (by omega) (eN G i - 1) 0 _ (by omega) rfl (fun hp l => ?_) (fun hp l => ?_)
    · refine R_iinc (lv' := [_, _, _, _]) rfl rfl rfl ?_
      refine R_goto rfl ?_
      exact ih r (by omega) (i + 1) _ _ (by omega) (by omega) (fun z hz => hQ z (hz.trans (congrArg bI (al_skip (p := pPe G) hp))))
    · refine R_iinc (lv' := [_, _, _, _]) rfl rfl rfl ?_
      refine R_goto rfl ?_
      exact mpo_F hM hG hN r (i + 1) _ _ (by omega) (by omega) (fun z hz => hQ z (hz.trans (congrArg bI (al_hit (p := pPe G) hp))))
theorem mIsWithoutPairs_T {d N : Nat} {h : AH} {G : Gr} {th tl rm : Int} {Q : AQ} (hM : isMg h G th tl rm) (hG : okG G) (hN : 139 ≤ N) (hQ : ∀ z : Int, z = bI (prG G) → Q (.inl (some (vI z))) h N) : T (d + 2) 164 [vR 122] h N Q := by
  obtain ⟨F, D, L, A, W, C, hZ, m11, m12, m13, m14, m15, m16, hE, hA, hW, hC⟩ := id hM
  obtain ⟨S, m0, m3, hR⟩ := id hZ
  obtain ⟨hr0, hr1, rL, rE, rS, hr110, rWn, rWl, hr167, rNl⟩ := id hR
  have r0 : S (0 : Int).toNat = (qR G : Int) := hr0
  have r1 : S (1 : Int).toNat = (qC G : Int) := hr1
  have r110 : S (110 : Int).toNat = (qW G : Int) := hr110
  have r167 : S (167 : Int).toNat = (qN G : Int) := hr167
  obtain ⟨hm4, hm36⟩ := hG.m
  have hmi := qM_int G
  obtain ⟨⟨hr2, hr6⟩, ⟨hc2, hc6⟩, gL, gB, gW, gWn, gWl, gN, gNl⟩ := id hG
  have hn36 := nE36 hG
  refine T_body (I := mi_X9_isWithoutPairs) (lv := [_, _, _, _]) rfl (Nat.le_of_ble_eq_true rfl) rfl ?_
  refine R_iconst rfl ?_
  refine R_istore_n (lv' := [_, _, _, _]) rfl rfl ?_
  refine R_iconst rfl ?_
  refine R_istore_n (lv' := [_, _, _, _]) rfl rfl ?_
  exact mpo_T hM hG hN (nE G) 0 _ _ (Nat.zero_add _) rfl hQ
