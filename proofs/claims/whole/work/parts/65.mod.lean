/-! ===== the model: findEntries, its loops ===== -/
theorem pj_f0 {G : Gr} (hG : okG G) {c : Nat} (h : c % qC G = 0) : pj G false c = false := by
  cases q : pj G false c with
  | false => rfl
  | true =>
    obtain ⟨y, e, hy⟩ := pj_ex q
    have h3 := (pos_next hG (jn_qP hy)).2.2
    rw [← e] at h3
    have h3 : c % qC G = y % qC G + 1 := h3
    omega
theorem pj_f1 {G : Gr} (hG : okG G) {c : Nat} (hc : c < qM G) (h : ¬ c % qC G = 0) : 1 ≤ c ∧ pj G false c = !qE G (c - 1) := by
  have hC := hG.2.1
  cases c with
  | zero => exact absurd (Nat.zero_mod _) h
  | succ x =>
    refine ⟨by omega, ?_⟩
    have hp : qPb G x false = true := qPb_iff.mpr ⟨by omega, by
      show x % qC G + 1 < qC G
      have hm := Nat.mod_lt x (show 0 < qC G by omega)
      rcases Nat.lt_or_ge (x % qC G + 1) (qC G) with k | k
      · exact k
      · refine absurd ?_ h
        rw [Nat.add_mod, Nat.mod_eq_of_lt (show 1 < qC G by omega), show x % qC G + 1 = qC G by omega, Nat.mod_self]⟩
    show (decide (1 ≤ x + 1) && (qPb G x false && !qB G false x)) = _
    rw [hp, decide_eq_true (by omega)]
    rfl
theorem pj_t0 {G : Gr} {c : Nat} (h : c < qC G) : pj G true c = false := by
  show (decide (qC G ≤ c) && jn G true (c - qC G)) = false
  rw [decide_eq_false (by omega)]
  rfl
theorem pj_t1 {G : Gr} {c : Nat} (hc : c < qM G) (h : ¬ c < qC G) : pj G true c = !qS G (c - qC G) := by
  have hp : qPb G (c - qC G) true = true := qPb_iff.mpr ⟨by omega, by
    show c - qC G + qC G < qM G
    omega⟩
  show (decide (qC G ≤ c) && (qPb G (c - qC G) true && !qB G true (c - qC G))) = _
  rw [hp, decide_eq_true (by omega)]
  rfl
theorem mfe_a {d N : Nat} {h : AH} {G : Gr} {th tl rm en : Int} {Q : AQ} (hZ : isM0 h G th tl rm en) (hG : okG G) (hN : 139 ≤ N) {c : Nat} {zk : Int} {l4 l5 l6 : Option AV} (hc : c < qM G) (k : Run mi_X9_findEntries (T (d + 2)) Q 98 [some (vR 122), some (vI (qC G)), some (vI zk), some (vI c), l4, l5, l6] [vI (bI (st G false c))] h N 0 0) : Run mi_X9_findEntries (T (d + 2)) Q 64 [some (vR 122), some (vI (qC G)), some (vI zk), some (vI c), l4, l5, l6] [] h N 0 0 := by
  obtain ⟨S, m0, m3, hR⟩ := id hZ
  obtain ⟨hr0, hr1, rL, rE, rS, hr110, rWn, rWl, hr167, rNl⟩ := id hR
  have r0 : S (0 : Int).toNat = (qR G : Int) := hr0
  have r1 : S (1 : Int).toNat = (qC G : Int) := hr1
  have r110 : S (110 : Int).toNat = (qW G : Int) := hr110
  have r167 : S (167 : Int).toNat = (qN G : Int) := hr167
  obtain ⟨hm4, hm36⟩ := hG.m
  have hmi := qM_int G
  obtain ⟨⟨hr2, hr6⟩, ⟨hc2, hc6⟩, gL, gB, gW, gWn, gWl, gN, gNl⟩ := id hG
  have hmd : (c : Int) % (qC G : Int) = ((c % qC G : Nat) : Int) := rfl
  have hml := Nat.mod_lt c (show 0 < qC G by omega)
  refine R_iload_n rfl rfl ?_
  refine R_iload_n rfl rfl ?_
  refine R_irem rfl ⟨by omega, by omega, by omega, by omega⟩ ?_
  rw [hmd]
  refine R_ifeq rfl ⟨by omega, by omega⟩ (fun c67 => ?_) (fun c67 => ?_)
  · have hp : pj G false c = false := pj_f0 hG (by omega)
    refine R_aload_n rfl rfl ?_
    refine R_iload_n rfl rfl ?_
    refine R_vcall rfl rfl ⟨(by omega), _, m0⟩ ⟨Nat.le_of_ble_eq_true rfl, Nat.le_of_ble_eq_true rfl, Nat.zero_le _, Nat.zero_le _⟩ (mEndsRight_T hZ hG hN rfl hc (fun z87 hz87 => aRes_i (rest := []) ?_))
    have hz9 := bI01 (!jn G false c)
    rw [← hz87] at hz9
    refine R_ifne rfl ⟨by omega, by omega⟩ (fun c90 => ?_) (fun c90 => ?_)
    · have hs : st G false c = false := by
        unfold st
        rw [bI_nt hz87 c90]
        rfl
      refine R_iconst rfl ?_
      rw [hs] at k
      exact k
    · have hs : st G false c = true := by
        unfold st
        rw [bI_nf hz87 (by omega), hp]
        rfl
      refine R_iconst rfl ?_
      refine R_goto rfl ?_
      rw [hs] at k
      exact k
  · obtain ⟨h1c, hpq⟩ := pj_f1 hG hc (by omega)
    have eL : S (38 + (c : Int) - 1).toNat = bI (qE G (c - 1)) := by
      rw [show (38 + (c : Int) - 1).toNat = 38 + (c - 1) by omega]
      exact rE _ (by omega)
    have eL2 := bI01 (qE G (c - 1))
    rw [← eL] at eL2
    refine R_aload_n rfl rfl ?_
    refine R_getfield rfl rfl (by omega) m0 rfl ?_
    refine R_bipush rfl ?_
    refine R_iload_n rfl rfl ?_
    refine R_iadd rfl ?_
    refine R_iconst rfl ?_
    refine R_isub rfl ?_
    refine R_iaload rfl (Or.inl (by omega)) m3 ⟨by omega, by omega, by omega⟩ ?_
    refine R_iconst rfl ?_
    refine R_icmpne rfl ⟨by omega, by omega⟩ ⟨by decide, by decide⟩ (fun c82 => ?_) (fun c82 => ?_)
    · have hs : st G false c = false := by
        unfold st
        rw [hpq, bI_f eL (by omega)]
        exact Bool.and_false _
      refine R_iconst rfl ?_
      rw [hs] at k
      exact k
    · have hp : pj G false c = false := by
        rw [hpq, bI_t eL (by omega)]
        rfl
      refine R_aload_n rfl rfl ?_
      refine R_iload_n rfl rfl ?_
      refine R_vcall rfl rfl ⟨(by omega), _, m0⟩ ⟨Nat.le_of_ble_eq_true rfl, Nat.le_of_ble_eq_true rfl, Nat.zero_le _, Nat.zero_le _⟩ (mEndsRight_T hZ hG hN rfl hc (fun z87 hz87 => aRes_i (rest := []) ?_))
      have hz9 := bI01 (!jn G false c)
      rw [← hz87] at hz9
      refine R_ifne rfl ⟨by omega, by omega⟩ (fun c90 => ?_) (fun c90 => ?_)
      · have hs : st G false c = false := by
          unfold st
          rw [bI_nt hz87 c90]
          rfl
        refine R_iconst rfl ?_
        rw [hs] at k
        exact k
      · have hs : st G false c = true := by
          unfold st
          rw [bI_nf hz87 (by omega), hp]
          rfl
        refine R_iconst rfl ?_
        refine R_goto rfl ?_
        rw [hs] at k
        exact k
theorem mfe_b {d N : Nat} {h : AH} {G : Gr} {th tl rm en : Int} {Q : AQ} (hZ : isM0 h G th tl rm en) (hG : okG G) (hN : 139 ≤ N) {c : Nat} {zk : Int} {l4 l5 l6 : Option AV} (hc : c < qM G) (k : Run mi_X9_findEntries (T (d + 2)) Q 133 [some (vR 122), some (vI (qC G)), some (vI zk), some (vI c), l4, l5, l6] [vI (bI (st G true c))] h N 0 0) : Run mi_X9_findEntries (T (d + 2)) Q 100 [some (vR 122), some (vI (qC G)), some (vI zk), some (vI c), l4, l5, l6] [] h N 0 0 := by
  obtain ⟨S, m0, m3, hR⟩ := id hZ
  obtain ⟨hr0, hr1, rL, rE, rS, hr110, rWn, rWl, hr167, rNl⟩ := id hR
  have r0 : S (0 : Int).toNat = (qR G : Int) := hr0
  have r1 : S (1 : Int).toNat = (qC G : Int) := hr1
  have r110 : S (110 : Int).toNat = (qW G : Int) := hr110
  have r167 : S (167 : Int).toNat = (qN G : Int) := hr167
  obtain ⟨hm4, hm36⟩ := hG.m
  have hmi := qM_int G
  obtain ⟨⟨hr2, hr6⟩, ⟨hc2, hc6⟩, gL, gB, gW, gWn, gWl, gN, gNl⟩ := id hG
  have hmd : (c : Int) % (qC G : Int) = ((c % qC G : Nat) : Int) := rfl
  have hml := Nat.mod_lt c (show 0 < qC G by omega)
  refine R_iload_n rfl rfl ?_
  refine R_iload_n rfl rfl ?_
  refine R_icmplt rfl ⟨by omega, by omega⟩ ⟨by omega, by omega⟩ (fun c102 => ?_) (fun c102 => ?_)
  · have hp : pj G true c = false := pj_t0 (by omega)
    refine R_aload_n rfl rfl ?_
    refine R_iload_n rfl rfl ?_
    refine R_vcall rfl rfl ⟨(by omega), _, m0⟩ ⟨Nat.le_of_ble_eq_true rfl, Nat.le_of_ble_eq_true rfl, Nat.zero_le _, Nat.zero_le _⟩ (mEndsBelow_T hZ hG hN rfl hc (fun z122 hz122 => aRes_i (rest := []) ?_))
    have hz9 := bI01 (!jn G true c)
    rw [← hz122] at hz9
    refine R_ifne rfl ⟨by omega, by omega⟩ (fun c125 => ?_) (fun c125 => ?_)
    · have hs : st G true c = false := by
        unfold st
        rw [bI_nt hz122 c125]
        rfl
      refine R_iconst rfl ?_
      rw [hs] at k
      exact k
    · have hs : st G true c = true := by
        unfold st
        rw [bI_nf hz122 (by omega), hp]
        rfl
      refine R_iconst rfl ?_
      refine R_goto rfl ?_
      rw [hs] at k
      exact k
  · have hpq := pj_t1 (G := G) hc (by omega)
    have eL : S (74 + (c : Int) - (qC G : Int)).toNat = bI (qS G (c - qC G)) := by
      rw [show (74 + (c : Int) - (qC G : Int)).toNat = 74 + (c - qC G) by omega]
      exact rS _ (by omega)
    have eL2 := bI01 (qS G (c - qC G))
    rw [← eL] at eL2
    refine R_aload_n rfl rfl ?_
    refine R_getfield rfl rfl (by omega) m0 rfl ?_
    refine R_bipush rfl ?_
    refine R_iload_n rfl rfl ?_
    refine R_iadd rfl ?_
    refine R_iload_n rfl rfl ?_
    refine R_isub rfl ?_
    refine R_iaload rfl (Or.inl (by omega)) m3 ⟨by omega, by omega, by omega⟩ ?_
    refine R_iconst rfl ?_
    refine R_icmpne rfl ⟨by omega, by omega⟩ ⟨by decide, by decide⟩ (fun c117 => ?_) (fun c117 => ?_)
    · have hs : st G true c = false := by
        unfold st
        rw [hpq, bI_f eL (by omega)]
        exact Bool.and_false _
      refine R_iconst rfl ?_
      rw [hs] at k
      exact k
    · have hp : pj G true c = false := by
        rw [hpq, bI_t eL (by omega)]
        rfl
      refine R_aload_n rfl rfl ?_
      refine R_iload_n rfl rfl ?_
      refine R_vcall rfl rfl ⟨(by omega), _, m0⟩ ⟨Nat.le_of_ble_eq_true rfl, Nat.le_of_ble_eq_true rfl, Nat.zero_le _, Nat.zero_le _⟩ (mEndsBelow_T hZ hG hN rfl hc (fun z122 hz122 => aRes_i (rest := []) ?_))
      have hz9 := bI01 (!jn G true c)
      rw [← hz122] at hz9
      refine R_ifne rfl ⟨by omega, by omega⟩ (fun c125 => ?_) (fun c125 => ?_)
      · have hs : st G true c = false := by
          unfold st
          rw [bI_nt hz122 c125]
          rfl
        refine R_iconst rfl ?_
        rw [hs] at k
        exact k
      · have hs : st G true c = true := by
          unfold st
          rw [bI_nf hz122 (by omega), hp]
          rfl
        refine R_iconst rfl ?_
        refine R_goto rfl ?_
        rw [hs] at k
        exact k
theorem mfe_lfalse {d N : Nat} {h : AH} {G : Gr} {th tl rm en : Int} {Q : AQ} (hZ : isM0 h G th tl rm en) (hG : okG G) (hN : 139 ≤ N) {c : Nat} {zk : Int} {z4 z5 : Int} (hc : c < qM G) : ∀ (r i : Nat) (zl : Int), i + 1 + r = ln G false c → zl = ((c + i * sp G false : Nat) : Int) → (∀ z' : Int, z' = ((c + (ln G false c - 1) * sp G false : Nat) : Int) → Run mi_X9_findEntries (T (d + 2)) Q 158 [some (vR 122), some (vI (qC G)), some (vI zk), some (vI c), some (vI z4), some (vI z5), some (vI z')] [] h N 0 0) → Run mi_X9_findEntries (T (d + 2)) Q 143 [some (vR 122), some (vI (qC G)), some (vI zk), some (vI c), some (vI z4), some (vI z5), some (vI zl)] [] h N 0 0 := by
  obtain ⟨S, m0, m3, hR⟩ := id hZ
  obtain ⟨hr0, hr1, rL, rE, rS, hr110, rWn, rWl, hr167, rNl⟩ := id hR
  have r0 : S (0 : Int).toNat = (qR G : Int) := hr0
  have r1 : S (1 : Int).toNat = (qC G : Int) := hr1
  have r110 : S (110 : Int).toNat = (qW G : Int) := hr110
  have r167 : S (167 : Int).toNat = (qN G : Int) := hr167
  obtain ⟨hm4, hm36⟩ := hG.m
  have hmi := qM_int G
  obtain ⟨⟨hr2, hr6⟩, ⟨hc2, hc6⟩, gL, gB, gW, gWn, gWl, gN, gNl⟩ := id hG
  intro r
  induction r using Nat.strongRecOn with
  | ind r ih =>
  intro i zl hr hzl k
  have hrc := run_cell hG hc (b := false) (i := i) (by omega)
  refine R_aload_n rfl rfl ?_
  refine R_iload rfl rfl ?_
  refine R_vcall rfl rfl ⟨(by omega), _, m0⟩ ⟨Nat.le_of_ble_eq_true rfl, Nat.le_of_ble_eq_true rfl, Nat.zero_le _, Nat.zero_le _⟩ (mEndsRight_T hZ hG hN hzl hrc (fun z146 hz146 => aRes_i (rest := []) ?_))
  have hz9 := bI01 (!jn G false (c + i * sp G false))
  rw [← hz146] at hz9
  refine R_ifne rfl ⟨by omega, by omega⟩ (fun c149 => ?_) (fun c149 => ?_)
  · have hj9 := (run_jn hG hc (b := false) (i := i) (by omega)).symm.trans (bI_nt hz146 c149)
    have hi9 := of_decide_eq_false hj9
    have hi8 : i = ln G false c - 1 := by omega
    rw [hi8] at hzl
    exact k _ hzl
  · have hj9 := (run_jn hG hc (b := false) (i := i) (by omega)).symm.trans (bI_nf hz146 (by omega))
    have hi9 := of_decide_eq_true hj9
    obtain ⟨r, rfl⟩ : ∃ r1, r = r1 + 1 := ⟨r - 1, by omega⟩
    have e9 : zl + 1 = ((c + (i + 1) * sp G false : Nat) : Int) := by
      rw [step_eq, hzl]
      rfl
    refine R_iinc (lv' := [_, _, _, _, _, _, _]) rfl rfl rfl ?_
    refine R_goto rfl ?_
    exact ih r (by omega) (i + 1) _ (by omega) e9 k
theorem mfe_ltrue {d N : Nat} {h : AH} {G : Gr} {th tl rm en : Int} {Q : AQ} (hZ : isM0 h G th tl rm en) (hG : okG G) (hN : 139 ≤ N) {c : Nat} {zk : Int} {z4 z5 : Int} (hc : c < qM G) : ∀ (r i : Nat) (zl : Int), i + 1 + r = ln G true c → zl = ((c + i * sp G true : Nat) : Int) → (∀ z' : Int, z' = ((c + (ln G true c - 1) * sp G true : Nat) : Int) → Run mi_X9_findEntries (T (d + 2)) Q 196 [some (vR 122), some (vI (qC G)), some (vI zk), some (vI c), some (vI z4), some (vI z5), some (vI z')] [] h N 0 0) → Run mi_X9_findEntries (T (d + 2)) Q 178 [some (vR 122), some (vI (qC G)), some (vI zk), some (vI c), some (vI z4), some (vI z5), some (vI zl)] [] h N 0 0 := by
  obtain ⟨S, m0, m3, hR⟩ := id hZ
  obtain ⟨hr0, hr1, rL, rE, rS, hr110, rWn, rWl, hr167, rNl⟩ := id hR
  have r0 : S (0 : Int).toNat = (qR G : Int) := hr0
  have r1 : S (1 : Int).toNat = (qC G : Int) := hr1
  have r110 : S (110 : Int).toNat = (qW G : Int) := hr110
  have r167 : S (167 : Int).toNat = (qN G : Int) := hr167
  obtain ⟨hm4, hm36⟩ := hG.m
  have hmi := qM_int G
  obtain ⟨⟨hr2, hr6⟩, ⟨hc2, hc6⟩, gL, gB, gW, gWn, gWl, gN, gNl⟩ := id hG
  intro r
  induction r using Nat.strongRecOn with
  | ind r ih =>
  intro i zl hr hzl k
  have hrc := run_cell hG hc (b := true) (i := i) (by omega)
  refine R_aload_n rfl rfl ?_
  refine R_iload rfl rfl ?_
  refine R_vcall rfl rfl ⟨(by omega), _, m0⟩ ⟨Nat.le_of_ble_eq_true rfl, Nat.le_of_ble_eq_true rfl, Nat.zero_le _, Nat.zero_le _⟩ (mEndsBelow_T hZ hG hN hzl hrc (fun z181 hz181 => aRes_i (rest := []) ?_))
  have hz9 := bI01 (!jn G true (c + i * sp G true))
  rw [← hz181] at hz9
  refine R_ifne rfl ⟨by omega, by omega⟩ (fun c184 => ?_) (fun c184 => ?_)
  · have hj9 := (run_jn hG hc (b := true) (i := i) (by omega)).symm.trans (bI_nt hz181 c184)
    have hi9 := of_decide_eq_false hj9
    have hi8 : i = ln G true c - 1 := by omega
    rw [hi8] at hzl
    exact k _ hzl
  · have hj9 := (run_jn hG hc (b := true) (i := i) (by omega)).symm.trans (bI_nf hz181 (by omega))
    have hi9 := of_decide_eq_true hj9
    obtain ⟨r, rfl⟩ : ∃ r1, r = r1 + 1 := ⟨r - 1, by omega⟩
    have e9 : zl + (qC G : Int) = ((c + (i + 1) * sp G true : Nat) : Int) := by
      rw [step_eq, hzl]
      rfl
    refine R_iload rfl rfl ?_
    refine R_iload_n rfl rfl ?_
    refine R_iadd rfl ?_
    refine R_istore (lv' := [_, _, _, _, _, _, _]) rfl rfl ?_
    refine R_goto rfl ?_
    exact ih r (by omega) (i + 1) _ (by omega) e9 k
theorem mfe_sfalse {d N c e : Nat} {G : Gr} {th tl rm zk : Int} {Q : AQ} (hG : okG G) (hN : 139 ≤ N) (hc : c < qM G) {v : Bool} (hd : st G false c = v) (hee : v = true → e = eIx G false c ∧ e < 36) {h : AH} {F D L A W C : Nat → Int} (hX : isMx h G th tl rm (e : Nat) F D L A W C) (hA : ∀ x, x < qM G → A x = acrTo G false c x) {z5 : Int} {l6 : Option AV} (k : ∀ h' F' D' L' X l6', isMx h' G th tl rm (e + tn v : Nat) F' D' L' X W C → (∀ j, j < e → F' j = F j ∧ L' j = L j ∧ D' j = D j) → (v = true → F' e = c ∧ L' e = ln G false c ∧ D' e = bI false) → (∀ x, x < qM G → X x = acrTo G false (c + 1) x) → frG h h' → Run mi_X9_findEntries (T (d + 2)) Q 170 [some (vR 122), some (vI (qC G)), some (vI zk), some (vI c), some (vI (bI v)), some (vI z5), l6'] [] h' N 0 0) : Run mi_X9_findEntries (T (d + 2)) Q 135 [some (vR 122), some (vI (qC G)), some (vI zk), some (vI c), some (vI (bI v)), some (vI z5), l6] [] h N 0 0 := by
  obtain ⟨hZ, m11, m12, m13, m14, m15, m16⟩ := id hX
  obtain ⟨S, m0, m3, hR⟩ := id hZ
  obtain ⟨hr0, hr1, rL, rE, rS, hr110, rWn, rWl, hr167, rNl⟩ := id hR
  have r0 : S (0 : Int).toNat = (qR G : Int) := hr0
  have r1 : S (1 : Int).toNat = (qC G : Int) := hr1
  have r110 : S (110 : Int).toNat = (qW G : Int) := hr110
  have r167 : S (167 : Int).toNat = (qN G : Int) := hr167
  obtain ⟨hm4, hm36⟩ := hG.m
  have hmi := qM_int G
  obtain ⟨⟨hr2, hr6⟩, ⟨hc2, hc6⟩, gL, gB, gW, gWn, gWl, gN, gNl⟩ := id hG
  cases v
  · refine R_iload rfl rfl ?_
    refine R_ifeq rfl ⟨by decide, by decide⟩ (fun _ => ?_) (fun c0 => absurd c0 (by decide))
    exact k h F D L A _ hX (fun j hj => ⟨rfl, rfl, rfl⟩) (fun q => by cases q) (fun x hx => (hA x hx).trans (acrTo_no hG hd).symm) frG.refl
  · obtain ⟨hee1, h36⟩ := hee rfl
    obtain ⟨hl1, hl2, hl3, hl6⟩ := ln_spec hG (b := false) hc
    refine R_iload rfl rfl ?_
    refine R_ifeq rfl ⟨by decide, by decide⟩ (fun c0 => absurd c0 (by decide)) (fun _ => ?_)
    refine R_iload_n rfl rfl ?_
    refine R_istore (lv' := [_, _, _, _, _, _, _]) rfl rfl ?_
    refine mfe_lfalse hZ hG hN hc (ln G false c - 1) 0 _ (by omega) (by rw [Nat.zero_mul]; rfl) (fun zl hzl => ?_)
    have hmz : zl - (c : Int) + 1 = ((ln G false c : Nat) : Int) := by
      have h9 : zl = ((c + (ln G false c - 1) * 1 : Nat) : Int) := hzl
      omega
    refine R_aload_n rfl rfl ?_
    refine R_iload_n rfl rfl ?_
    refine R_iconst rfl ?_
    refine R_iload rfl rfl ?_
    refine R_iload_n rfl rfl ?_
    refine R_isub rfl ?_
    refine R_iconst rfl ?_
    refine R_iadd rfl ?_
    refine R_vcall rfl rfl ⟨(by omega), _, m0⟩ ⟨Nat.le_of_ble_eq_true rfl, Nat.le_of_ble_eq_true rfl, Nat.zero_le _, Nat.zero_le _⟩ (mAddEntry_false (e := e) hG hN hc h36 hX (hmz) (fun h1 X hX1 x1 y1 f1 => aRes_v (rest := []) ?_))
    exact k h1 _ _ _ X _ hX1 (fun j hj => ⟨va_up_ne _ _ (by omega), va_up_ne _ _ (by omega), va_up_ne _ _ (by omega)⟩) (fun _ => ⟨va_up_self _ _ _, va_up_self _ _ _, va_up_self _ _ _⟩) (layX hG hA hd (fun i hi => (x1 i hi).trans (congrArg Nat.cast hee1)) y1) f1
theorem mfe_strue {d N c e : Nat} {G : Gr} {th tl rm zk : Int} {Q : AQ} (hG : okG G) (hN : 139 ≤ N) (hc : c < qM G) {v : Bool} (hd : st G true c = v) (hee : v = true → e = eIx G true c ∧ e < 36) {h : AH} {F D L A W C : Nat → Int} (hX : isMx h G th tl rm (e : Nat) F D L A W C) (hA : ∀ x, x < qM G → W x = acrTo G true c x) {z4 : Int} {l6 : Option AV} (k : ∀ h' F' D' L' X l6', isMx h' G th tl rm (e + tn v : Nat) F' D' L' A X C → (∀ j, j < e → F' j = F j ∧ L' j = L j ∧ D' j = D j) → (v = true → F' e = c ∧ L' e = ln G true c ∧ D' e = bI true) → (∀ x, x < qM G → X x = acrTo G true (c + 1) x) → frG h h' → Run mi_X9_findEntries (T (d + 2)) Q 210 [some (vR 122), some (vI (qC G)), some (vI zk), some (vI c), some (vI z4), some (vI (bI v)), l6'] [] h' N 0 0) : Run mi_X9_findEntries (T (d + 2)) Q 170 [some (vR 122), some (vI (qC G)), some (vI zk), some (vI c), some (vI z4), some (vI (bI v)), l6] [] h N 0 0 := by
  obtain ⟨hZ, m11, m12, m13, m14, m15, m16⟩ := id hX
  obtain ⟨S, m0, m3, hR⟩ := id hZ
  obtain ⟨hr0, hr1, rL, rE, rS, hr110, rWn, rWl, hr167, rNl⟩ := id hR
  have r0 : S (0 : Int).toNat = (qR G : Int) := hr0
  have r1 : S (1 : Int).toNat = (qC G : Int) := hr1
  have r110 : S (110 : Int).toNat = (qW G : Int) := hr110
  have r167 : S (167 : Int).toNat = (qN G : Int) := hr167
  obtain ⟨hm4, hm36⟩ := hG.m
  have hmi := qM_int G
  obtain ⟨⟨hr2, hr6⟩, ⟨hc2, hc6⟩, gL, gB, gW, gWn, gWl, gN, gNl⟩ := id hG
  cases v
  · refine R_iload rfl rfl ?_
    refine R_ifeq rfl ⟨by decide, by decide⟩ (fun _ => ?_) (fun c0 => absurd c0 (by decide))
    exact k h F D L W _ hX (fun j hj => ⟨rfl, rfl, rfl⟩) (fun q => by cases q) (fun x hx => (hA x hx).trans (acrTo_no hG hd).symm) frG.refl
  · obtain ⟨hee1, h36⟩ := hee rfl
    obtain ⟨hl1, hl2, hl3, hl6⟩ := ln_spec hG (b := true) hc
    refine R_iload rfl rfl ?_
    refine R_ifeq rfl ⟨by decide, by decide⟩ (fun c0 => absurd c0 (by decide)) (fun _ => ?_)
    refine R_iload_n rfl rfl ?_
    refine R_istore (lv' := [_, _, _, _, _, _, _]) rfl rfl ?_
    refine mfe_ltrue hZ hG hN hc (ln G true c - 1) 0 _ (by omega) (by rw [Nat.zero_mul]; rfl) (fun zl hzl => ?_)
    have h9 : zl - (c : Int) = (((ln G true c - 1) * qC G : Nat) : Int) := by
      rw [hzl, show sp G true = qC G from rfl]
      omega
    have hdv : (zl - (c : Int)) / (qC G : Int) = ((ln G true c - 1 : Nat) : Int) := by
      rw [h9]
      exact congrArg Nat.cast (Nat.mul_div_cancel _ (show 0 < qC G by omega))
    have hmz : (zl - (c : Int)) / (qC G : Int) + 1 = ((ln G true c : Nat) : Int) := by
      rw [hdv]
      omega
    have hlm : (ln G true c - 1) * qC G ≤ 36 := Nat.le_trans (Nat.mul_le_mul (show ln G true c - 1 ≤ 6 by omega) hc6) (by decide)
    refine R_aload_n rfl rfl ?_
    refine R_iload_n rfl rfl ?_
    refine R_iconst rfl ?_
    refine R_iload rfl rfl ?_
    refine R_iload_n rfl rfl ?_
    refine R_isub rfl ?_
    refine R_iload_n rfl rfl ?_
    refine R_idiv rfl ⟨by omega, by omega, by omega, by omega⟩ ?_
    refine R_iconst rfl ?_
    refine R_iadd rfl ?_
    refine R_vcall rfl rfl ⟨(by omega), _, m0⟩ ⟨Nat.le_of_ble_eq_true rfl, Nat.le_of_ble_eq_true rfl, Nat.zero_le _, Nat.zero_le _⟩ (mAddEntry_true (e := e) hG hN hc h36 hX (hmz) (fun h1 X hX1 x1 y1 f1 => aRes_v (rest := []) ?_))
    exact k h1 _ _ _ X _ hX1 (fun j hj => ⟨va_up_ne _ _ (by omega), va_up_ne _ _ (by omega), va_up_ne _ _ (by omega)⟩) (fun _ => ⟨va_up_self _ _ _, va_up_self _ _ _, va_up_self _ _ _⟩) (layX hG hA hd (fun i hi => (x1 i hi).trans (congrArg Nat.cast hee1)) y1) f1
theorem mfe_c {d N c : Nat} {G : Gr} {th tl rm zk : Int} {Q : AQ} (hG : okG G) (hN : 139 ≤ N) (hc : c < qM G) {E : Int} {a v : Bool} (ha : st G false c = a) (hd : st G true c = v) {h : AH} {F D L A W C : Nat → Int} (hX : isMx h G th tl rm E F D L A W C) (hzk : zk = (clu G c : Nat)) (hC : ∀ x, x < qM G → C x = if x < c then clue G x else -9) {l6 : Option AV} (k : ∀ h' C' z', isMx h' G th tl rm E F D L A W C' → z' = ((clu G (c + 1) : Nat) : Int) → (∀ x, x < qM G → C' x = if x < c + 1 then clue G x else -9) → frG h h' → Run mi_X9_findEntries (T (d + 2)) Q 230 [some (vR 122), some (vI (qC G)), some (vI z'), some (vI c), some (vI (bI a)), some (vI (bI v)), l6] [] h' N 0 0) : Run mi_X9_findEntries (T (d + 2)) Q 210 [some (vR 122), some (vI (qC G)), some (vI zk), some (vI c), some (vI (bI a)), some (vI (bI v)), l6] [] h N 0 0 := by
  obtain ⟨hZ, m11, m12, m13, m14, m15, m16⟩ := id hX
  obtain ⟨S, m0, m3, hR⟩ := id hZ
  obtain ⟨hr0, hr1, rL, rE, rS, hr110, rWn, rWl, hr167, rNl⟩ := id hR
  have r0 : S (0 : Int).toNat = (qR G : Int) := hr0
  have r1 : S (1 : Int).toNat = (qC G : Int) := hr1
  have r110 : S (110 : Int).toNat = (qW G : Int) := hr110
  have r167 : S (167 : Int).toNat = (qN G : Int) := hr167
  obtain ⟨hm4, hm36⟩ := hG.m
  have hmi := qM_int G
  obtain ⟨⟨hr2, hr6⟩, ⟨hc2, hc6⟩, gL, gB, gW, gWn, gWl, gN, gNl⟩ := id hG
  have hzk1 : zk + 1 = (clu G c : Int) + 1 := by rw [hzk]
  cases a <;> cases v
  · refine R_iload rfl rfl ?_
    refine R_ifne rfl ⟨by decide, by decide⟩ (fun c0 => absurd c0 (by decide)) (fun _ => ?_)
    refine R_iload rfl rfl ?_
    refine R_ifeq rfl ⟨by decide, by decide⟩ (fun _ => ?_) (fun c0 => absurd c0 (by decide))
    exact k _ C _ hX (by simp only [clu, ha, hd]; rw [hzk]; rfl) (layC0 hC (by rw [ha, hd]; rfl)) frG.refl
  · refine R_iload rfl rfl ?_
    refine R_ifne rfl ⟨by decide, by decide⟩ (fun c0 => absurd c0 (by decide)) (fun _ => ?_)
    refine R_iload rfl rfl ?_
    refine R_ifeq rfl ⟨by decide, by decide⟩ (fun c0 => absurd c0 (by decide)) (fun _ => ?_)
    refine R_iinc (lv' := [_, _, _, _, _, _, _]) rfl rfl rfl ?_
    refine R_aload_n rfl rfl ?_
    refine R_getfield rfl rfl (by omega) m0 rfl ?_
    refine R_iload_n rfl rfl ?_
    refine R_iload_n rfl rfl ?_
    refine R_iastore rfl (by omega) m16 ⟨by omega, by omega, by omega⟩ ?_
    exact k _ _ _ (isMx_C hX) (by simp only [clu, ha, hd]; rw [hzk]; rfl) (layC1 hC (by rw [ha, hd]; rfl) hzk1 rfl) (frG_up frG.refl (by decide))
  · refine R_iload rfl rfl ?_
    refine R_ifne rfl ⟨by decide, by decide⟩ (fun _ => ?_) (fun c0 => absurd c0 (by decide))
    refine R_iinc (lv' := [_, _, _, _, _, _, _]) rfl rfl rfl ?_
    refine R_aload_n rfl rfl ?_
    refine R_getfield rfl rfl (by omega) m0 rfl ?_
    refine R_iload_n rfl rfl ?_
    refine R_iload_n rfl rfl ?_
    refine R_iastore rfl (by omega) m16 ⟨by omega, by omega, by omega⟩ ?_
    exact k _ _ _ (isMx_C hX) (by simp only [clu, ha, hd]; rw [hzk]; rfl) (layC1 hC (by rw [ha, hd]; rfl) hzk1 rfl) (frG_up frG.refl (by decide))
  · refine R_iload rfl rfl ?_
    refine R_ifne rfl ⟨by decide, by decide⟩ (fun _ => ?_) (fun c0 => absurd c0 (by decide))
    refine R_iinc (lv' := [_, _, _, _, _, _, _]) rfl rfl rfl ?_
    refine R_aload_n rfl rfl ?_
    refine R_getfield rfl rfl (by omega) m0 rfl ?_
    refine R_iload_n rfl rfl ?_
    refine R_iload_n rfl rfl ?_
    refine R_iastore rfl (by omega) m16 ⟨by omega, by omega, by omega⟩ ?_
    exact k _ _ _ (isMx_C hX) (by simp only [clu, ha, hd]; rw [hzk]; rfl) (layC1 hC (by rw [ha, hd]; rfl) hzk1 rfl) (frG_up frG.refl (by decide))
theorem mfe_loop {d N : Nat} {G : Gr} {th tl rm : Int} {Q : AQ} (hG : okG G) (hN : 139 ≤ N) : ∀ (r i : Nat) (h : AH) (F D L A W C : Nat → Int) (zk zi : Int) (l4 l5 l6 : Option AV), i + r = qM G → zi = i → zk = (clu G i : Nat) → isMx h G th tl rm (cnt G i : Nat) F D L A W C → layAt G i F L D A W C → (∀ h', isMg h' G th tl rm → frG h h' → Q (.inl none) h' N) → Run mi_X9_findEntries (T (d + 2)) Q 56 [some (vR 122), some (vI (qC G)), some (vI zk), some (vI zi), l4, l5, l6] [] h N 0 0 := by
  intro r
  induction r using Nat.strongRecOn with
  | ind r ih =>
  intro i h F D L A W C zk zi l4 l5 l6 hr hzi hzk hX hL hQ
  obtain ⟨hZ, m11, m12, m13, m14, m15, m16⟩ := id hX
  obtain ⟨S, m0, m3, hR⟩ := id hZ
  obtain ⟨hr0, hr1, rL, rE, rS, hr110, rWn, rWl, hr167, rNl⟩ := id hR
  have r0 : S (0 : Int).toNat = (qR G : Int) := hr0
  have r1 : S (1 : Int).toNat = (qC G : Int) := hr1
  have r110 : S (110 : Int).toNat = (qW G : Int) := hr110
  have r167 : S (167 : Int).toNat = (qN G : Int) := hr167
  obtain ⟨hm4, hm36⟩ := hG.m
  have hmi := qM_int G
  obtain ⟨⟨hr2, hr6⟩, ⟨hc2, hc6⟩, gL, gB, gW, gWn, gWl, gN, gNl⟩ := id hG
  obtain ⟨l1', l2', l3', l4'⟩ := id hL
  refine R_iload_n rfl rfl ?_
  refine R_aload_n rfl rfl ?_
  refine R_vcall rfl rfl ⟨(by omega), _, m0⟩ ⟨Nat.le_of_ble_eq_true rfl, Nat.le_of_ble_eq_true rfl, Nat.zero_le _, Nat.zero_le _⟩ (mSize_T hZ hG hN (fun z58 hz58 => aRes_i (rest := [_]) ?_))
  refine R_icmpge rfl ⟨by omega, by omega⟩ ⟨by omega, by omega⟩ (fun c61 => ?_) (fun c61 => ?_)
  · have hr0 : r = 0 := by omega
    subst hr0
    have hi : i = qM G := by omega
    subst hi
    exact R_return rfl (Nat.zero_le _) (Nat.zero_le _) (hQ h ⟨F, D, L, A, W, C, hZ, m11, m12, m13, m14, m15, m16, l1', fun x hx => (l2' x hx).trans (acrTo_all hG hx), fun x hx => (l3' x hx).trans (acrTo_all hG hx), fun x hx => (l4' x hx).trans (if_pos hx)⟩ frG.refl)
  · obtain ⟨r, rfl⟩ : ∃ r1, r = r1 + 1 := ⟨r - 1, by omega⟩
    subst hzi
    have hi : i < qM G := by omega
    have hC0 := l4'
    refine mfe_a hZ hG hN (c := i) hi ?_
    refine R_istore (lv' := [_, _, _, _, _, _, _]) rfl rfl ?_
    refine mfe_b hZ hG hN (c := i) hi ?_
    refine R_istore (lv' := [_, _, _, _, _, _, _]) rfl rfl ?_
    obtain ⟨a, ha⟩ : ∃ a, st G false i = a := ⟨_, rfl⟩
    obtain ⟨v, hv⟩ : ∃ v, st G true i = v := ⟨_, rfl⟩
    have eT : eIx G true i = cnt G i + tn (st G false i) := rfl
    rw [ha, hv]
    refine mfe_sfalse hG hN hi (e := cnt G i) ha (fun q => ⟨rfl, (eIx_lt hG (b := false) (ha.trans q)).2⟩) hX l2' (fun h1 F1 D1 L1 A1 x6 hX1 o1 n1 a1 f1 => ?_)
    refine mfe_strue hG hN hi (e := cnt G i + tn a) hv (fun q => ⟨by rw [eT, ha], by have := (eIx_lt hG (b := true) (hv.trans q)).2; rw [eT, ha] at this; exact this⟩) hX1 l3' (fun h2 F2 D2 L2 W2 y6 hX2 o2 n2 a2 f2 => ?_)
    refine mfe_c hG hN hi ha hv hX2 hzk hC0 (fun h3 C3 z3 hX3 hz3 c3 f3 => ?_)
    have hcn : cnt G i + tn a + tn v = cnt G (i + 1) := by
      simp only [cnt, ha, hv]
    rw [hcn] at hX3
    refine R_iinc (lv' := [_, _, _, _, _, _, _]) rfl rfl rfl ?_
    refine R_goto rfl ?_
    refine ih r (by omega) (i + 1) h3 F2 D2 L2 A1 W2 C3 _ _ _ _ _ (by omega) (by omega) hz3 hX3 ⟨layE (G := G) l1' (fun j hj => ?_) (fun b hb => ?_), a1, a2, c3⟩ (fun h4 q1 q2 => hQ h4 q1 (((f1.trans f2).trans f3).trans q2))
    · obtain ⟨e1, e2, e3⟩ := o2 j (by omega)
      obtain ⟨e4, e5, e6⟩ := o1 j hj
      exact ⟨e1.trans e4, e2.trans e5, e3.trans e6⟩
    · cases b
      · have hat : a = true := ha.symm.trans hb
        obtain ⟨e4, e5, e6⟩ := n1 hat
        obtain ⟨e1, e2, e3⟩ := o2 (cnt G i) (by rw [hat]; simp only [tn]; omega)
        exact ⟨e1.trans e4, e2.trans e5, e3.trans e6⟩
      · have hvt : v = true := hv.symm.trans hb
        rw [eT, ha]
        exact n2 hvt
theorem mfe_i {d N : Nat} {G : Gr} {th tl rm E zk : Int} {Q : AQ} (hG : okG G) (hN : 139 ≤ N) {F D L : Nat → Int} {l4 l5 l6 : Option AV} : ∀ (r i : Nat) (h : AH) (A W C : Nat → Int) (zi : Int), i + r = qM G → zi = i → isMx h G th tl rm E F D L A W C → (∀ j, j < i → A j = -9) → (∀ j, j < i → W j = -9) → (∀ j, j < i → C j = -9) → (∀ h' A' W' C' z', isMx h' G th tl rm E F D L A' W' C' → (∀ j, j < qM G → A' j = -9) → (∀ j, j < qM G → W' j = -9) → (∀ j, j < qM G → C' j = -9) → frG h h' → Run mi_X9_findEntries (T (d + 2)) Q 54 [some (vR 122), some (vI (qC G)), some (vI zk), some (vI z'), l4, l5, l6] [] h' N 0 0) → Run mi_X9_findEntries (T (d + 2)) Q 16 [some (vR 122), some (vI (qC G)), some (vI zk), some (vI zi), l4, l5, l6] [] h N 0 0 := by
  intro r
  induction r using Nat.strongRecOn with
  | ind r ih =>
  intro i h A W C zi hr hzi hX vA vW vC k
  obtain ⟨hZ, m11, m12, m13, m14, m15, m16⟩ := id hX
  obtain ⟨S, m0, m3, hR⟩ := id hZ
  obtain ⟨hr0, hr1, rL, rE, rS, hr110, rWn, rWl, hr167, rNl⟩ := id hR
  have r0 : S (0 : Int).toNat = (qR G : Int) := hr0
  have r1 : S (1 : Int).toNat = (qC G : Int) := hr1
  have r110 : S (110 : Int).toNat = (qW G : Int) := hr110
  have r167 : S (167 : Int).toNat = (qN G : Int) := hr167
  obtain ⟨hm4, hm36⟩ := hG.m
  have hmi := qM_int G
  obtain ⟨⟨hr2, hr6⟩, ⟨hc2, hc6⟩, gL, gB, gW, gWn, gWl, gN, gNl⟩ := id hG
  refine R_iload_n rfl rfl ?_
  refine R_aload_n rfl rfl ?_
  refine R_vcall rfl rfl ⟨(by omega), _, m0⟩ ⟨Nat.le_of_ble_eq_true rfl, Nat.le_of_ble_eq_true rfl, Nat.zero_le _, Nat.zero_le _⟩ (mSize_T hZ hG hN (fun z18 hz18 => aRes_i (rest := [_]) ?_))
  refine R_icmpge rfl ⟨by omega, by omega⟩ ⟨by omega, by omega⟩ (fun c21 => ?_) (fun c21 => ?_)
  · have hr0 : r = 0 := by omega
    subst hr0
    exact k h A W C _ hX (fun j hj => vA j (by omega)) (fun j hj => vW j (by omega)) (fun j hj => vC j (by omega)) frG.refl
  · obtain ⟨r, rfl⟩ : ∃ r1, r = r1 + 1 := ⟨r - 1, by omega⟩
    refine R_aload_n rfl rfl ?_
    refine R_getfield rfl rfl (by omega) m0 rfl ?_
    refine R_iload_n rfl rfl ?_
    refine R_bipush rfl ?_
    refine R_iastore rfl (by omega) m14 ⟨by omega, by omega, by omega⟩ ?_
    refine R_aload_n rfl rfl ?_
    refine R_getfield rfl rfl (by omega) ((va_up_ne _ _ (by first | exact kne rfl | exact kz | exact kz.symm | omega)).trans m0) rfl ?_
    refine R_iload_n rfl rfl ?_
    refine R_bipush rfl ?_
    refine R_iastore rfl (by omega) ((va_up_ne _ _ (by first | exact kne rfl | exact kz | exact kz.symm | omega)).trans m15) ⟨by omega, by omega, by omega⟩ ?_
    refine R_aload_n rfl rfl ?_
    refine R_getfield rfl rfl (by omega) ((va_up_ne _ _ (by first | exact kne rfl | exact kz | exact kz.symm | omega)).trans ((va_up_ne _ _ (by first | exact kne rfl | exact kz | exact kz.symm | omega)).trans m0)) rfl ?_
    refine R_iload_n rfl rfl ?_
    refine R_bipush rfl ?_
    refine R_iastore rfl (by omega) ((va_up_ne _ _ (by first | exact kne rfl | exact kz | exact kz.symm | omega)).trans ((va_up_ne _ _ (by first | exact kne rfl | exact kz | exact kz.symm | omega)).trans m16)) ⟨by omega, by omega, by omega⟩ ?_
    refine R_iinc (lv' := [_, _, _, _, _, _, _]) rfl rfl rfl ?_
    refine R_goto rfl ?_
    exact ih r (by omega) (i + 1) _ _ _ _ _ (by omega) (by omega) (isMx_C (isMx_W (isMx_A hX))) (fun j hj => by
      by_cases q : j = zi.toNat
      · rw [q]
        exact va_up_self _ _ _
      · exact (va_up_ne _ _ q).trans (vA j (by omega))) (fun j hj => by
      by_cases q : j = zi.toNat
      · rw [q]
        exact va_up_self _ _ _
      · exact (va_up_ne _ _ q).trans (vW j (by omega))) (fun j hj => by
      by_cases q : j = zi.toNat
      · rw [q]
        exact va_up_self _ _ _
      · exact (va_up_ne _ _ q).trans (vC j (by omega))) (fun h1 A1 W1 C1 z1 hX1 a1 w1 c1 f1 => k h1 A1 W1 C1 z1 hX1 a1 w1 c1 ((frG_up (frG_up (frG_up frG.refl (by decide)) (by decide)) (by decide)).trans f1))
def isMa (h : AH) (G : Gr) (th tl rm : Int) : Prop := ∃ E F D L A W C, isMx h G th tl rm E F D L A W C
theorem isMg.a {h : AH} {G : Gr} {th tl rm : Int} (hM : isMg h G th tl rm) : isMa h G th tl rm := by
  obtain ⟨F, D, L, A, W, C, hZ, m11, m12, m13, m14, m15, m16, -⟩ := hM
  exact ⟨_, F, D, L, A, W, C, hZ, m11, m12, m13, m14, m15, m16⟩
theorem mFindEntries_T {d N : Nat} {G : Gr} {th tl rm : Int} {h : AH} {Q : AQ} (hA9 : isMa h G th tl rm) (hG : okG G) (hN : 139 ≤ N) (hQ : (∀ h', isMg h' G th tl rm → frG h h' → Q (.inl none) h' N)) : T (d + 3) 143 [vR 122] h N Q := by
  obtain ⟨E, F, D, L, A, W, C, hX⟩ := hA9
  obtain ⟨hZ, m11, m12, m13, m14, m15, m16⟩ := id hX
  obtain ⟨S, m0, m3, hR⟩ := id hZ
  obtain ⟨hr0, hr1, rL, rE, rS, hr110, rWn, rWl, hr167, rNl⟩ := id hR
  have r0 : S (0 : Int).toNat = (qR G : Int) := hr0
  have r1 : S (1 : Int).toNat = (qC G : Int) := hr1
  have r110 : S (110 : Int).toNat = (qW G : Int) := hr110
  have r167 : S (167 : Int).toNat = (qN G : Int) := hr167
  obtain ⟨hm4, hm36⟩ := hG.m
  have hmi := qM_int G
  obtain ⟨⟨hr2, hr6⟩, ⟨hc2, hc6⟩, gL, gB, gW, gWn, gWl, gN, gNl⟩ := id hG
  refine T_body (I := mi_X9_findEntries) (lv := [_, _, _, _, _, _, _]) rfl (Nat.le_of_ble_eq_true rfl) rfl ?_
  refine R_aload_n rfl rfl ?_
  refine R_getfield rfl rfl (by omega) m0 rfl ?_
  refine R_iconst rfl ?_
  refine R_iaload rfl (Or.inl (by omega)) m3 ⟨by omega, by omega, by omega⟩ ?_
  rw [r1]
  refine R_istore_n (lv' := [_, _, _, _, _, _, _]) rfl rfl ?_
  refine R_iconst rfl ?_
  refine R_istore_n (lv' := [_, _, _, _, _, _, _]) rfl rfl ?_
  refine R_aload_n rfl rfl ?_
  refine R_iconst rfl ?_
  refine R_putfield rfl rfl (by omega) m0 (Nat.le_of_ble_eq_true rfl) (by first | trivial | exact trivial | omega) ?_
  refine R_iconst rfl ?_
  refine R_istore_n (lv' := [_, _, _, _, _, _, _]) rfl rfl ?_
  refine mfe_i hG hN (qM G) 0 _ A W C _ (Nat.zero_add _) rfl (isMx_E hX) (fun j hj => absurd hj (by omega)) (fun j hj => absurd hj (by omega)) (fun j hj => absurd hj (by omega)) (fun h1 A1 W1 C1 z1 hX1 a1 w1 c1 f1 => ?_)
  refine R_iconst rfl ?_
  refine R_istore_n (lv' := [_, _, _, _, _, _, _]) rfl rfl ?_
  exact mfe_loop hG hN (qM G) 0 h1 F D L A1 W1 C1 _ _ _ _ _ (Nat.zero_add _) rfl rfl hX1 ⟨fun e x b he => absurd (show ([] : List (Nat × Bool))[e]? = some (x, b) from he) (by rw [List.getElem?_nil]; exact fun q => by cases q), fun x hx => (a1 x hx).trans acrTo_zero.symm, fun x hx => (w1 x hx).trans acrTo_zero.symm, fun x hx => (c1 x hx).trans (if_neg (Nat.not_lt_zero _)).symm⟩ (fun h2 q1 q2 => hQ h2 q1 (((frG_up frG.refl (by decide)).trans f1).trans q2))
