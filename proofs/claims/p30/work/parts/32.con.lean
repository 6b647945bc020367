/-! ===== connected; all rules; how many bars ===== -/
def spr (G : Gr) (b : Bool) (c : Nat) (S : Nat → Bool) : Nat → Bool := if (jn G b c && (S c || S (c + sp G b))) = true then va_up (va_up S c true) (c + sp G b) true else S
def swp (G : Gr) : Nat → Nat → (Nat → Bool) → (Nat → Bool)
  | 0, _, S => S
  | r + 1, i, S => swp G r (i + 1) (spr G true i (spr G false i S))
def itr (G : Gr) : Nat → (Nat → Bool) → (Nat → Bool)
  | 0, S => S
  | n + 1, S => itr G n (swp G (qM G) 0 S)
def coS : Nat → Bool := fun x => decide (x = 0)
def coG (G : Gr) : Bool := alF (itr G (qM G) coS) (qM G) 0
theorem cmp0 (a b : Int64) : (lg_cmp a b).toInt = 0 ↔ a = b := by
  unfold lg_cmp
  by_cases h1 : a > b
  · rw [if_pos h1]
    constructor
    · intro h
      exact absurd h (by decide)
    · intro h
      subst h
      rw [gt_iff_lt, Int64.lt_iff_toInt_lt] at h1
      omega
  · rw [if_neg h1]
    by_cases h2 : a = b
    · rw [if_pos h2]
      exact ⟨fun _ => h2, fun _ => rfl⟩
    · rw [if_neg h2]
      exact ⟨fun h => absurd h (by decide), fun h => absurd h h2⟩
theorem cmp_r (a b : Int64) : -1 ≤ (lg_cmp a b).toInt ∧ (lg_cmp a b).toInt ≤ 1 := by
  unfold lg_cmp
  split
  · decide
  · split <;> decide
def pB (c : Nat) : Int64 := Int64.ofNat (1 : Fin 2) <<< ((iI (c : Int)).toInt64 &&& 63)
theorem pair_bit {c n : Nat} (hc : c < 64) (hn : n < 64) {j : Nat} (hj : j < 64) : (pB c ||| pB n).toBitVec.getLsbD j = (decide (j = c) || decide (j = n)) := by
  rw [Int64.toBitVec_or, BitVec.getLsbD_or]
  unfold pB
  rw [sh_one hc j hj, sh_one hn j hj]
theorem and_pair {x : Int64} {S : Nat → Bool} (hx : isBits x S) {c n : Nat} (hc : c < 64) (hn : n < 64) : (x &&& (pB c ||| pB n)) = Int64.ofNat (0 : Fin 2) ↔ (S c = false ∧ S n = false) := by
  constructor
  · intro h
    have key : ∀ j, j < 64 → (S j && (decide (j = c) || decide (j = n))) = false := by
      intro j hj
      have e := congrArg (fun y : Int64 => y.toBitVec.getLsbD j) h
      have e : (x &&& (pB c ||| pB n)).toBitVec.getLsbD j = (Int64.ofNat ((0 : Fin 2) : Nat)).toBitVec.getLsbD j := e
      rw [Int64.toBitVec_and, BitVec.getLsbD_and, hx j hj, pair_bit hc hn hj] at e
      exact e.trans (bits_zero j hj)
    have k1 := key c hc
    have k2 := key n hn
    rw [decide_eq_true rfl, Bool.true_or, Bool.and_true] at k1
    rw [decide_eq_true (show n = n from rfl), Bool.or_true, Bool.and_true] at k2
    exact ⟨k1, k2⟩
  · intro ⟨h1, h2⟩
    apply Int64.toBitVec_inj.mp
    apply BitVec.eq_of_getLsbD_eq
    intro j hj
    rw [Int64.toBitVec_and, BitVec.getLsbD_and, hx j hj, pair_bit hc hn hj]
    refine Eq.trans ?_ (bits_zero j hj).symm
    by_cases q : j = c
    · rw [q, h1]
      rfl
    · by_cases q2 : j = n
      · rw [q2, h2]
        rfl
      · rw [decide_eq_false q, decide_eq_false q2]
        cases S j <;> rfl
theorem or_pair {x : Int64} {S : Nat → Bool} (hx : isBits x S) {c n : Nat} (hc : c < 64) (hn : n < 64) : isBits (x ||| (pB c ||| pB n)) (va_up (va_up S c true) n true) := by
  intro j hj
  rw [Int64.toBitVec_or, BitVec.getLsbD_or, hx j hj, pair_bit hc hn hj]
  by_cases q2 : j = n
  · rw [q2, va_up_self, decide_eq_true (show n = n from rfl), Bool.or_true, Bool.or_true]
  · rw [va_up_ne _ _ q2, decide_eq_false q2, Bool.or_false]
    by_cases q : j = c
    · rw [q, va_up_self, decide_eq_true (show c = c from rfl), Bool.or_true]
    · rw [va_up_ne _ _ q, decide_eq_false q, Bool.or_false]
def zM (G : Gr) (S : Nat → Bool) : Prop := ∀ j, qM G ≤ j → S j = false
theorem spr_z {G : Gr} (hG : okG G) {b : Bool} {c : Nat} {S : Nat → Bool} (hz : zM G S) : zM G (spr G b c S) := by
  intro j hj
  unfold spr
  by_cases q : (jn G b c && (S c || S (c + sp G b))) = true
  · rw [if_pos q]
    have h := pos_next hG (jn_qP (Bool.and_eq_true_iff.mp q).1)
    rw [va_up_ne _ _ (by omega), va_up_ne _ _ (by omega)]
    exact hz j hj
  · rw [if_neg q]
    exact hz j hj
theorem swp_z {G : Gr} (hG : okG G) : ∀ r i S, zM G S → zM G (swp G r i S)
  | 0, _, _, h => h
  | r + 1, i, S, h => swp_z hG r (i + 1) _ (spr_z hG (spr_z hG h))
theorem bits_eq {G : Gr} (hG : okG G) {x : Int64} {S S' : Nat → Bool} (h : isBits x S) (h' : isBits x S') (hz : zM G S) (hz' : zM G S') : S = S' := by
  funext j
  rcases Nat.lt_or_ge j 64 with q | q
  · exact (h j q).symm.trans (h' j q)
  · have := hG.m.2
    rw [hz j (by omega), hz' j (by omega)]
theorem itr_fix {G : Gr} {S : Nat → Bool} (h : swp G (qM G) 0 S = S) : ∀ n, itr G n S = S
  | 0 => rfl
  | n + 1 => by
    simp only [itr]
    rw [h]
    exact itr_fix h n
theorem ct_split {p : Nat → Bool} : ∀ (r s i : Nat), ctF p (r + s) i = ctF p r i + ctF p s (i + r)
  | 0, s, i => by
    rw [Nat.zero_add]
    simp only [ctF, Nat.add_zero, Nat.zero_add]
  | r + 1, s, i => by
    rw [show r + 1 + s = (r + s) + 1 by omega]
    simp only [ctF]
    rw [ct_split r s (i + 1), show i + 1 + r = i + (r + 1) by omega]
    omega
theorem ct_none {p : Nat → Bool} : ∀ (r i : Nat), (∀ j, i ≤ j → p j = false) → ctF p r i = 0
  | 0, _, _ => rfl
  | r + 1, i, h => by
    simp only [ctF]
    rw [h i (Nat.le_refl _), ct_none r (i + 1) (fun j hj => h j (by omega))]
    rfl
theorem ct_all {p : Nat → Bool} : ∀ (r i : Nat), ctF p r i = r ↔ alF p r i = true
  | 0, _ => ⟨fun _ => rfl, fun _ => rfl⟩
  | r + 1, i => by
    have ih := ct_all (p := p) r (i + 1)
    have h := ct_le (p := p) r (i + 1)
    simp only [ctF, alF]
    rcases Bool.eq_false_or_eq_true (p i) with hb | hb
    · rw [hb, Bool.true_and, ← ih]
      show 1 + ctF p r (i + 1) = r + 1 ↔ _
      omega
    · rw [hb, Bool.false_and]
      constructor
      · intro q
        have q : 0 + ctF p r (i + 1) = r + 1 := q
        omega
      · intro q
        cases q
theorem pop_all {G : Gr} (hG : okG G) {x : Int64} {S : Nat → Bool} (hx : isBits x S) (hz : zM G S) : pop x = ctF S (qM G) 0 := by
  have hm := hG.m.2
  have e : pop x = ctF S 64 0 := ct_congr 64 0 (fun j _ hj => hx j (by omega))
  have e2 := ct_split (p := S) (qM G) (64 - qM G) 0
  rw [show qM G + (64 - qM G) = 64 by omega, Nat.zero_add, ct_none (64 - qM G) (qM G) hz, Nat.add_zero] at e2
  exact e.trans e2
theorem spread_T {d k N : Nat} {h : AH} {G : Gr} {Q : AQ} (hS : isSt h k G) (hG : okG G) (hN : k + 5 ≤ N) {x : Int64} {S : Nat → Bool} (hx : isBits x S) {b : Bool} {c : Nat} (hc : c < qM G) (hQ : ∀ x', isBits x' (spr G b c S) → Q (.inl (some (vL x'))) h N) : T (d + 3) 53 [vR k, vL x, vI c, vI (bI b)] h N Q := by
  have hG0 := hG
  obtain ⟨rb, bb, L, WL, WT, LN, e0, e1, e2, e3, e4, hrb, hbb, hL, hWL, hWT, hLN⟩ := id hS
  obtain ⟨hm4, hm36⟩ := hG.m
  have hmi := qM_int G
  obtain ⟨⟨hr2, hr6⟩, ⟨hc2, hc6⟩, gL, gB, gW, gWn, gWl, gN, gNl⟩ := id hG
  refine T_body (I := mi_X5_spread) (lv := [_, _, _, _, _, _, _, _]) rfl (Nat.le_of_ble_eq_true rfl) rfl ?_
  cases b
  · refine R_aload_n rfl rfl ?_
    refine R_iload_n rfl rfl ?_
    refine R_iload rfl rfl ?_
    refine R_vcall rfl rfl ⟨(by omega), _, e0⟩ ⟨Nat.le_of_ble_eq_true rfl, Nat.le_of_ble_eq_true rfl, Nat.zero_le _, Nat.zero_le _⟩ (isJoined_T (b := false) hS hG hN ⟨by omega, by omega⟩ (fun z4 hz4 => aRes_i (rest := []) ?_))
    have hj := jn_res (b := false) (x := c) rfl hz4
    have hj01 := bI01 (jn G false c)
    refine R_ifne rfl ⟨by first | omega | exact Int.le_trans (by decide) hr45.1, by first | omega | exact Int.lt_of_le_of_lt hr45.2 (by decide)⟩ (fun c7 => ?_) (fun c7 => ?_)
    · have hjj := bI_t hj c7
      have hpn := pos_next hG0 (jn_qP hjj)
      refine R_iload_n rfl rfl ?_
      refine R_iload rfl rfl ?_
      refine R_ifeq rfl ⟨by decide, by decide⟩ (fun _ => ?_) (fun c0 => absurd c0 (by decide))
      refine R_iconst rfl ?_
      refine R_iadd rfl ?_
      rw [show ((c : Int) + 1) = ((c + sp G false : Nat) : Int) from rfl]
      refine R_istore (lv' := [_, _, _, _, _, _, _, _]) rfl rfl ?_
      refine R_lconst rfl ?_
      refine R_iload_n rfl rfl ?_
      refine R_lshl rfl ?_
      refine R_lconst rfl ?_
      refine R_iload rfl rfl ?_
      refine R_lshl rfl ?_
      refine R_lor rfl ?_
      refine R_lstore (lv' := [_, _, _, _, _, _, _, _]) rfl rfl ?_
      refine R_lload_n rfl rfl ?_
      refine R_lload rfl rfl ?_
      refine R_land rfl ?_
      refine R_lconst rfl ?_
      refine R_lcmp rfl ?_
      have hr45 := cmp_r (x &&& (pB c ||| pB (c + sp G false))) (Int64.ofNat (0 : Fin 2))
      refine R_ifeq rfl ⟨by first | omega | exact Int.le_trans (by decide) hr45.1, by first | omega | exact Int.lt_of_le_of_lt hr45.2 (by decide)⟩ (fun c45 => ?_) (fun c45 => ?_)
      · have hq := (and_pair hx (c := c) (n := c + sp G false) (by omega) (by omega)).mp ((cmp0 _ _).mp c45)
        have hsp : spr G false c S = S := by
          unfold spr
          rw [hjj, hq.1, hq.2]
          rfl
        rw [hsp] at hQ
        refine R_lload_n rfl rfl ?_
        exact R_lreturn rfl (Nat.zero_le _) (Nat.zero_le _) (by first | exact hQ _ hx | exact hQ _ (or_pair hx (by omega) (by omega)))
      · have hq : ¬ (S c = false ∧ S (c + sp G false) = false) := fun q => c45 ((cmp0 _ _).mpr ((and_pair hx (by omega) (by omega)).mpr q))
        have hsp : spr G false c S = va_up (va_up S c true) (c + sp G false) true := by
          unfold spr
          rw [if_pos]
          rw [hjj, Bool.true_and]
          cases q1 : S c with
          | true => rfl
          | false =>
            cases q2 : S (c + sp G false) with
            | true => rfl
            | false => exact absurd ⟨q1, q2⟩ hq
        rw [hsp] at hQ
        refine R_lload_n rfl rfl ?_
        refine R_lload rfl rfl ?_
        refine R_lor rfl ?_
        refine R_goto rfl ?_
        exact R_lreturn rfl (Nat.zero_le _) (Nat.zero_le _) (by first | exact hQ _ hx | exact hQ _ (or_pair hx (by omega) (by omega)))
    · have hjj := bI_f hj (by omega)
      have hsp : spr G false c S = S := by
        unfold spr
        rw [hjj]
        rfl
      rw [hsp] at hQ
      refine R_lload_n rfl rfl ?_
      exact R_lreturn rfl (Nat.zero_le _) (Nat.zero_le _) (by first | exact hQ _ hx | exact hQ _ (or_pair hx (by omega) (by omega)))
  · refine R_aload_n rfl rfl ?_
    refine R_iload_n rfl rfl ?_
    refine R_iload rfl rfl ?_
    refine R_vcall rfl rfl ⟨(by omega), _, e0⟩ ⟨Nat.le_of_ble_eq_true rfl, Nat.le_of_ble_eq_true rfl, Nat.zero_le _, Nat.zero_le _⟩ (isJoined_T (b := true) hS hG hN ⟨by omega, by omega⟩ (fun z4 hz4 => aRes_i (rest := []) ?_))
    have hj := jn_res (b := true) (x := c) rfl hz4
    have hj01 := bI01 (jn G true c)
    refine R_ifne rfl ⟨by first | omega | exact Int.le_trans (by decide) hr45.1, by first | omega | exact Int.lt_of_le_of_lt hr45.2 (by decide)⟩ (fun c7 => ?_) (fun c7 => ?_)
    · have hjj := bI_t hj c7
      have hpn := pos_next hG0 (jn_qP hjj)
      refine R_iload_n rfl rfl ?_
      refine R_iload rfl rfl ?_
      refine R_ifeq rfl ⟨by decide, by decide⟩ (fun c0 => absurd c0 (by decide)) (fun _ => ?_)
      refine R_aload_n rfl rfl ?_
      refine R_getfield rfl rfl (by omega) e0 rfl ?_
      refine R_goto rfl ?_
      refine R_iadd rfl ?_
      rw [show ((c : Int) + (qC G : Int)) = ((c + sp G true : Nat) : Int) from rfl]
      refine R_istore (lv' := [_, _, _, _, _, _, _, _]) rfl rfl ?_
      refine R_lconst rfl ?_
      refine R_iload_n rfl rfl ?_
      refine R_lshl rfl ?_
      refine R_lconst rfl ?_
      refine R_iload rfl rfl ?_
      refine R_lshl rfl ?_
      refine R_lor rfl ?_
      refine R_lstore (lv' := [_, _, _, _, _, _, _, _]) rfl rfl ?_
      refine R_lload_n rfl rfl ?_
      refine R_lload rfl rfl ?_
      refine R_land rfl ?_
      refine R_lconst rfl ?_
      refine R_lcmp rfl ?_
      have hr45 := cmp_r (x &&& (pB c ||| pB (c + sp G true))) (Int64.ofNat (0 : Fin 2))
      refine R_ifeq rfl ⟨by first | omega | exact Int.le_trans (by decide) hr45.1, by first | omega | exact Int.lt_of_le_of_lt hr45.2 (by decide)⟩ (fun c45 => ?_) (fun c45 => ?_)
      · have hq := (and_pair hx (c := c) (n := c + sp G true) (by omega) (by omega)).mp ((cmp0 _ _).mp c45)
        have hsp : spr G true c S = S := by
          unfold spr
          rw [hjj, hq.1, hq.2]
          rfl
        rw [hsp] at hQ
        refine R_lload_n rfl rfl ?_
        exact R_lreturn rfl (Nat.zero_le _) (Nat.zero_le _) (by first | exact hQ _ hx | exact hQ _ (or_pair hx (by omega) (by omega)))
      · have hq : ¬ (S c = false ∧ S (c + sp G true) = false) := fun q => c45 ((cmp0 _ _).mpr ((and_pair hx (by omega) (by omega)).mpr q))
        have hsp : spr G true c S = va_up (va_up S c true) (c + sp G true) true := by
          unfold spr
          rw [if_pos]
          rw [hjj, Bool.true_and]
          cases q1 : S c with
          | true => rfl
          | false =>
            cases q2 : S (c + sp G true) with
            | true => rfl
            | false => exact absurd ⟨q1, q2⟩ hq
        rw [hsp] at hQ
        refine R_lload_n rfl rfl ?_
        refine R_lload rfl rfl ?_
        refine R_lor rfl ?_
        refine R_goto rfl ?_
        exact R_lreturn rfl (Nat.zero_le _) (Nat.zero_le _) (by first | exact hQ _ hx | exact hQ _ (or_pair hx (by omega) (by omega)))
    · have hjj := bI_f hj (by omega)
      have hsp : spr G true c S = S := by
        unfold spr
        rw [hjj]
        rfl
      rw [hsp] at hQ
      refine R_lload_n rfl rfl ?_
      exact R_lreturn rfl (Nat.zero_le _) (Nat.zero_le _) (by first | exact hQ _ hx | exact hQ _ (or_pair hx (by omega) (by omega)))
theorem sw_loop {d k N : Nat} {h : AH} {G : Gr} {Q : AQ} (hS : isSt h k G) (hG : okG G) (hN : k + 5 ≤ N) {m rd : Int} {bf : Int64} (hm : m = (qM G : Int)) : ∀ (r i : Nat) (x : Int64) (S : Nat → Bool), i + r = qM G → isBits x S → (∀ x', isBits x' (swp G r i S) → ∀ l, Run mi_X5_isConnected (T (d + 3)) Q 52 [some (vR k), some (vI m), some (vL x'), none, some (vI rd), some (vL bf), none, l] [] h N 0 0) → Run mi_X5_isConnected (T (d + 3)) Q 22 [some (vR k), some (vI m), some (vL x), none, some (vI rd), some (vL bf), none, some (vI i)] [] h N 0 0 := by
  obtain ⟨rb, bb, L, WL, WT, LN, e0, e1, e2, e3, e4, hrb, hbb, hL, hWL, hWT, hLN⟩ := id hS
  obtain ⟨hm4, hm36⟩ := hG.m
  have hmi := qM_int G
  obtain ⟨⟨hr2, hr6⟩, ⟨hc2, hc6⟩, gL, gB, gW, gWn, gWl, gN, gNl⟩ := id hG
  intro r
  induction r using Nat.strongRecOn with
  | ind r ih =>
  intro i x S hr hx k0
  refine R_iload rfl rfl ?_
  refine R_iload_n rfl rfl ?_
  refine R_icmpge rfl ⟨by omega, by omega⟩ ⟨by omega, by omega⟩ (fun c25 => ?_) (fun c25 => ?_)
  · have hr0 : r = 0 := by omega
    subst hr0
    exact k0 _ hx _
  · obtain ⟨r, rfl⟩ : ∃ r1, r = r1 + 1 := ⟨r - 1, by omega⟩
    refine R_aload_n rfl rfl ?_
    refine R_lload_n rfl rfl ?_
    refine R_iload rfl rfl ?_
    refine R_iconst rfl ?_
    refine R_scall rfl rfl ⟨Nat.le_of_ble_eq_true rfl, Nat.le_of_ble_eq_true rfl, Nat.zero_le _, Nat.zero_le _⟩ (spread_T (b := false) (c := i) hS hG hN hx (by omega) (fun x33 hx33 => aRes_i (rest := []) ?_))
    refine R_lstore_n (lv' := [_, _, _, _, _, _, _, _]) rfl rfl ?_
    refine R_aload_n rfl rfl ?_
    refine R_lload_n rfl rfl ?_
    refine R_iload rfl rfl ?_
    refine R_iconst rfl ?_
    refine R_scall rfl rfl ⟨Nat.le_of_ble_eq_true rfl, Nat.le_of_ble_eq_true rfl, Nat.zero_le _, Nat.zero_le _⟩ (spread_T (b := true) (c := i) hS hG hN hx33 (by omega) (fun x42 hx42 => aRes_i (rest := []) ?_))
    refine R_lstore_n (lv' := [_, _, _, _, _, _, _, _]) rfl rfl ?_
    refine R_iinc (lv' := [_, _, _, _, _, _, _, _]) rfl rfl rfl ?_
    refine R_goto rfl ?_
    exact ih r (by omega) (i + 1) _ _ (by omega) hx42 k0
theorem co_end {d k N : Nat} {h : AH} {G : Gr} {Q : AQ} (hS : isSt h k G) (hG : okG G) (hN : k + 5 ≤ N) {x : Int64} {S : Nat → Bool} (hx : isBits x S) (hz : zM G S) {m : Int} (hm : m = (qM G : Int)) {l3 l4 l5 l6 l7 : Option AV} (hQ : ∀ z : Int, z = bI (alF S (qM G) 0) → Q (.inl (some (vI z))) h N) : Run mi_X5_isConnected (T (d + 3)) Q 68 [some (vR k), some (vI m), some (vL x), l3, l4, l5, l6, l7] [] h N 0 0 := by
  have hG0 := hG
  obtain ⟨rb, bb, L, WL, WT, LN, e0, e1, e2, e3, e4, hrb, hbb, hL, hWL, hWT, hLN⟩ := id hS
  obtain ⟨hm4, hm36⟩ := hG.m
  have hmi := qM_int G
  obtain ⟨⟨hr2, hr6⟩, ⟨hc2, hc6⟩, gL, gB, gW, gWn, gWl, gN, gNl⟩ := id hG
  refine R_lload_n rfl rfl ?_
  refine R_scall rfl rfl ⟨Nat.le_of_ble_eq_true rfl, Nat.le_of_ble_eq_true rfl, Nat.zero_le _, Nat.zero_le _⟩ (bitCount_T (fun z69 hz69 => aRes_i (rest := []) ?_))
  rw [pop_all hG0 hx hz] at hz69
  have hle := ct_le (p := S) (qM G) 0
  refine R_iload_n rfl rfl ?_
  refine R_icmpne rfl ⟨by omega, by omega⟩ ⟨by omega, by omega⟩ (fun c73 => ?_) (fun c73 => ?_)
  · have hal : alF S (qM G) 0 = false := Bool.eq_false_iff.mpr (fun q => absurd ((ct_all _ _).mpr q) (by omega))
    refine R_iconst rfl ?_
    exact R_ireturn rfl (fun _ => by omega) (Nat.zero_le _) (Nat.zero_le _) (hQ _ (by rw [hal]; rfl))
  · have hal : alF S (qM G) 0 = true := (ct_all _ _).mp (by omega)
    refine R_iconst rfl ?_
    refine R_goto rfl ?_
    exact R_ireturn rfl (fun _ => by omega) (Nat.zero_le _) (Nat.zero_le _) (hQ _ (by rw [hal]; rfl))
theorem co_loop {d k N : Nat} {h : AH} {G : Gr} {Q : AQ} (hS : isSt h k G) (hG : okG G) (hN : k + 5 ≤ N) {m : Int} (hm : m = (qM G : Int)) : ∀ (r i : Nat) (x : Int64) (S : Nat → Bool) (l5 l7 : Option AV), i + r = qM G → isBits x S → zM G S → (∀ z : Int, z = bI (alF (itr G r S) (qM G) 0) → Q (.inl (some (vI z))) h N) → Run mi_X5_isConnected (T (d + 3)) Q 10 [some (vR k), some (vI m), some (vL x), none, some (vI i), l5, none, l7] [] h N 0 0 := by
  have hG0 := hG
  obtain ⟨rb, bb, L, WL, WT, LN, e0, e1, e2, e3, e4, hrb, hbb, hL, hWL, hWT, hLN⟩ := id hS
  obtain ⟨hm4, hm36⟩ := hG.m
  have hmi := qM_int G
  obtain ⟨⟨hr2, hr6⟩, ⟨hc2, hc6⟩, gL, gB, gW, gWn, gWl, gN, gNl⟩ := id hG
  intro r
  induction r using Nat.strongRecOn with
  | ind r ih =>
  intro i x S l5 l7 hr hx hz hQ
  refine R_iload rfl rfl ?_
  refine R_iload_n rfl rfl ?_
  refine R_icmpge rfl ⟨by omega, by omega⟩ ⟨by omega, by omega⟩ (fun c13 => ?_) (fun c13 => ?_)
  · have hr0 : r = 0 := by omega
    subst hr0
    exact co_end hS hG hN hx hz hm hQ
  · obtain ⟨r, rfl⟩ : ∃ r1, r = r1 + 1 := ⟨r - 1, by omega⟩
    refine R_lload_n rfl rfl ?_
    refine R_lstore (lv' := [_, _, _, _, _, _, _, _]) rfl rfl ?_
    refine R_iconst rfl ?_
    refine R_istore (lv' := [_, _, _, _, _, _, _, _]) rfl rfl ?_
    refine sw_loop hS hG hN hm (qM G) 0 x S (Nat.zero_add _) hx (fun x' hx' l => ?_)
    refine R_lload_n rfl rfl ?_
    refine R_lload rfl rfl ?_
    refine R_lcmp rfl ?_
    have hcr := cmp_r x' x
    refine R_ifne rfl ⟨by omega, by omega⟩ (fun c56 => ?_) (fun c56 => ?_)
    · refine R_iinc (lv' := [_, _, _, _, _, _, _, _]) rfl rfl rfl ?_
      refine R_goto rfl ?_
      exact ih r (by omega) (i + 1) x' _ _ _ (by omega) hx' (swp_z hG0 _ _ _ hz) hQ
    · refine R_goto rfl ?_
      have hxe := (cmp0 _ _).mp (show (lg_cmp x' x).toInt = 0 by omega)
      subst hxe
      have hSe := bits_eq hG0 hx hx' hz (swp_z hG0 _ _ _ hz)
      refine co_end hS hG hN hx hz hm (fun z hz9 => hQ z ?_)
      rw [itr_fix hSe.symm]
      exact hz9
theorem isConnected_T {d k N : Nat} {h : AH} {G : Gr} {Q : AQ} (hS : isSt h k G) (hG : okG G) (hN : k + 5 ≤ N) (hQ : ∀ z : Int, z = bI (coG G) → Q (.inl (some (vI z))) h N) : T (d + 4) 52 [vR k] h N Q := by
  obtain ⟨rb, bb, L, WL, WT, LN, e0, e1, e2, e3, e4, hrb, hbb, hL, hWL, hWT, hLN⟩ := id hS
  obtain ⟨hm4, hm36⟩ := hG.m
  have hmi := qM_int G
  obtain ⟨⟨hr2, hr6⟩, ⟨hc2, hc6⟩, gL, gB, gW, gWn, gWl, gN, gNl⟩ := id hG
  refine T_body (I := mi_X5_isConnected) (lv := [_, _, _, _, _, _, _, _]) rfl (Nat.le_of_ble_eq_true rfl) rfl ?_
  refine R_aload_n rfl rfl ?_
  refine R_vcall rfl rfl ⟨(by omega), _, e0⟩ ⟨Nat.le_of_ble_eq_true rfl, Nat.le_of_ble_eq_true rfl, Nat.zero_le _, Nat.zero_le _⟩ (cells_T hS hG hN (fun z1 hz1 => aRes_i (rest := []) ?_))
  refine R_istore_n (lv' := [_, _, _, _, _, _, _, _]) rfl rfl ?_
  refine R_lconst rfl ?_
  refine R_lstore_n (lv' := [_, _, _, _, _, _, _, _]) rfl rfl ?_
  refine R_iconst rfl ?_
  refine R_istore (lv' := [_, _, _, _, _, _, _, _]) rfl rfl ?_
  exact co_loop hS hG hN (by omega) (qM G) 0 _ coS _ _ (Nat.zero_add _) (fun j hj => all64 (P := fun j => (Int64.ofNat ((1 : Fin 2) : Nat)).toBitVec.getLsbD j = decide (j = 0)) (by decide +kernel) hj) (fun j hj => decide_eq_false (by omega)) hQ
def ruG (G : Gr) (k : Nat) : Bool := match k with
  | 0 => tuG G
  | 1 => decide (ciG G 0 = 0)
  | 2 => weG G
  | 3 => prG G
  | 4 => coG G
  | _ => false
def kpG (G : Gr) : Nat := ctF (ruG G) 5 0
theorem areKept_T {d k N : Nat} {h : AH} {G : Gr} {Q : AQ} (hP : isPz h k G) (hG : okG G) (hN : k + 12 ≤ N) {r : Nat} (hr5 : r < 5) (hQ : ∀ z : Int, z = bI (ruG G r) → Q (.inl (some (vI z))) h N) : T (d + 5) 48 [vR k, vI r] h N Q := by
  obtain ⟨F, Ln, Dn, Ac, Dw, Cl, ⟨p0, hS, p2, p3, p4, p5, p6, p7⟩, hE, hAc, hDw, hCl⟩ := id hP
  obtain ⟨hm4, hm36⟩ := hG.m
  have hn36 := nE36 hG
  have hnE : cnt G (qM G) = nE G := rfl
  obtain ⟨rb, bb, s0⟩ := hS.e0
  refine T_body (I := mi_X5_areKept) (lv := [_, _]) rfl (Nat.le_of_ble_eq_true rfl) rfl ?_
  refine R_iload_n rfl rfl ?_
  refine R_switch rfl ⟨by omega, by omega⟩ (fun cd1 => ?_) ⟨fun c1 => ?_, fun c1 => ?_, fun c1 => ?_, fun c1 => ?_, fun c1 => ?_, trivial⟩
  · exact absurd cd1 (by omega)
  · have hrj : r = 0 := by omega
    subst hrj
    refine R_aload_n rfl rfl ?_
    refine R_getfield rfl rfl (by omega) p0 rfl ?_
    refine R_scall rfl rfl ⟨Nat.le_of_ble_eq_true rfl, Nat.le_of_ble_eq_true rfl, Nat.zero_le _, Nat.zero_le _⟩ (isSameTurned_T hS hG (by omega) (fun z40 hz40 => aRes_i (rest := []) ?_))
    have hzz : z40 = 0 ∨ z40 = 1 := by
      rw [hz40]
      exact bI01 _
    exact R_ireturn rfl (fun _ => by first | omega | exact hzz) (Nat.zero_le _) (Nat.zero_le _) (hQ _ (by first | assumption | (rw [hb]; rfl)))
  · have hrj : r = 1 := by omega
    subst hrj
    refine R_aload_n rfl rfl ?_
    refine R_iconst rfl ?_
    refine R_vcall rfl rfl ⟨(by omega), _, p0⟩ ⟨Nat.le_of_ble_eq_true rfl, Nat.le_of_ble_eq_true rfl, Nat.zero_le _, Nat.zero_le _⟩ (cellsInEntries_T (n := 0) hP hG hN (by decide) (fun z46 hz46 => aRes_i (rest := []) ?_))
    have hci : ciG G 0 ≤ 36 := by
      have := ct_le (p := fun x => decide (enC G x = 0)) (qM G) 0
      show ctF _ _ _ ≤ 36
      omega
    refine R_ifne rfl ⟨by omega, by omega⟩ (fun c49 => ?_) (fun c49 => ?_)
    · have hb : ruG G 1 = false := decide_eq_false (by omega)
      refine R_iconst rfl ?_
      exact R_ireturn rfl (fun _ => by first | omega | exact hzz) (Nat.zero_le _) (Nat.zero_le _) (hQ _ (by first | assumption | (rw [hb]; rfl)))
    · have hb : ruG G 1 = true := decide_eq_true (by omega)
      refine R_iconst rfl ?_
      refine R_goto rfl ?_
      exact R_ireturn rfl (fun _ => by first | omega | exact hzz) (Nat.zero_le _) (Nat.zero_le _) (hQ _ (by first | assumption | (rw [hb]; rfl)))
  · have hrj : r = 2 := by omega
    subst hrj
    refine R_aload_n rfl rfl ?_
    refine R_scall rfl rfl ⟨Nat.le_of_ble_eq_true rfl, Nat.le_of_ble_eq_true rfl, Nat.zero_le _, Nat.zero_le _⟩ (isCheckedEnough_T hP hG hN (fun z59 hz59 => aRes_i (rest := []) ?_))
    have hzz : z59 = 0 ∨ z59 = 1 := by
      rw [hz59]
      exact bI01 _
    exact R_ireturn rfl (fun _ => by first | omega | exact hzz) (Nat.zero_le _) (Nat.zero_le _) (hQ _ (by first | assumption | (rw [hb]; rfl)))
  · have hrj : r = 3 := by omega
    subst hrj
    refine R_aload_n rfl rfl ?_
    refine R_scall rfl rfl ⟨Nat.le_of_ble_eq_true rfl, Nat.le_of_ble_eq_true rfl, Nat.zero_le _, Nat.zero_le _⟩ (hasNoUncheckedPair_T hP hG hN (fun z64 hz64 => aRes_i (rest := []) ?_))
    have hzz : z64 = 0 ∨ z64 = 1 := by
      rw [hz64]
      exact bI01 _
    exact R_ireturn rfl (fun _ => by first | omega | exact hzz) (Nat.zero_le _) (Nat.zero_le _) (hQ _ (by first | assumption | (rw [hb]; rfl)))
  · have hrj : r = 4 := by omega
    subst hrj
    refine R_aload_n rfl rfl ?_
    refine R_getfield rfl rfl (by omega) p0 rfl ?_
    refine R_scall rfl rfl ⟨Nat.le_of_ble_eq_true rfl, Nat.le_of_ble_eq_true rfl, Nat.zero_le _, Nat.zero_le _⟩ (isConnected_T hS hG (by omega) (fun z72 hz72 => aRes_i (rest := []) ?_))
    have hzz : z72 = 0 ∨ z72 = 1 := by
      rw [hz72]
      exact bI01 _
    exact R_ireturn rfl (fun _ => by first | omega | exact hzz) (Nat.zero_le _) (Nat.zero_le _) (hQ _ (by first | assumption | (rw [hb]; rfl)))
theorem kp_loop {d k N : Nat} {h : AH} {G : Gr} {Q : AQ} (hP : isPz h k G) (hG : okG G) (hN : k + 12 ≤ N) : ∀ (r i a : Nat), i + r = 5 → a ≤ i → (∀ z : Int, z = ((a + ctF (ruG G) r i : Nat) : Int) → Q (.inl (some (vI z))) h N) → Run mi_X5_countKept (T (d + 5)) Q 4 [some (vR k), some (vI a), some (vI i)] [] h N 0 0 := by
  intro r
  induction r using Nat.strongRecOn with
  | ind r ih =>
  intro i a hr hai hQ
  refine R_iload_n rfl rfl ?_
  refine R_iconst rfl ?_
  refine R_icmpge rfl ⟨by omega, by omega⟩ ⟨by decide, by decide⟩ (fun c6 => ?_) (fun c6 => ?_)
  · have hr0 : r = 0 := by omega
    subst hr0
    refine R_iload_n rfl rfl ?_
    exact R_ireturn rfl (fun q => absurd q (by decide)) (Nat.zero_le _) (Nat.zero_le _) (hQ _ rfl)
  · obtain ⟨r, rfl⟩ : ∃ r1, r = r1 + 1 := ⟨r - 1, by omega⟩
    refine R_aload_n rfl rfl ?_
    refine R_iload_n rfl rfl ?_
    refine R_scall rfl rfl ⟨Nat.le_of_ble_eq_true rfl, Nat.le_of_ble_eq_true rfl, Nat.zero_le _, Nat.zero_le _⟩ (areKept_T (r := i) hP hG hN (by omega) (fun z11 hz11 => aRes_i (rest := []) ?_))
    have h01 := bI01 (ruG G i)
    refine R_ifeq rfl ⟨by omega, by omega⟩ (fun c14 => ?_) (fun c14 => ?_)
    · have hp := bI_f hz11 (by omega)
      refine R_iinc (lv' := [_, _, _]) rfl rfl rfl ?_
      refine R_goto rfl ?_
      first | exact ih r (by omega) (i + 1) (a + 1) (by omega) (by omega) (fun z hz => hQ z (hz.trans (congrArg Nat.cast (ct_hit (p := ruG G) hp)))) | exact ih r (by omega) (i + 1) a (by omega) (by omega) (fun z hz => hQ z (hz.trans (congrArg Nat.cast (ct_skip (p := ruG G) hp))))
    · have hp := bI_t hz11 c14
      refine R_iinc (lv' := [_, _, _]) rfl rfl rfl ?_
      refine R_iinc (lv' := [_, _, _]) rfl rfl rfl ?_
      refine R_goto rfl ?_
      first | exact ih r (by omega) (i + 1) (a + 1) (by omega) (by omega) (fun z hz => hQ z (hz.trans (congrArg Nat.cast (ct_hit (p := ruG G) hp)))) | exact ih r (by omega) (i + 1) a (by omega) (by omega) (fun z hz => hQ z (hz.trans (congrArg Nat.cast (ct_skip (p := ruG G) hp))))
theorem countKept_T {d k N : Nat} {h : AH} {G : Gr} {Q : AQ} (hP : isPz h k G) (hG : okG G) (hN : k + 12 ≤ N) (hQ : ∀ z : Int, z = (kpG G : Nat) → Q (.inl (some (vI z))) h N) : T (d + 6) 47 [vR k] h N Q := by
  refine T_body (I := mi_X5_countKept) (lv := [_, _, _]) rfl (Nat.le_of_ble_eq_true rfl) rfl ?_
  refine R_iconst rfl ?_
  refine R_istore_n (lv' := [_, _, _]) rfl rfl ?_
  refine R_iconst rfl ?_
  refine R_istore_n (lv' := [_, _, _]) rfl rfl ?_
  exact kp_loop hP hG hN 5 0 0 rfl (Nat.le_refl _) (fun z hz => hQ z (hz.trans (congrArg Nat.cast (Nat.zero_add _))))
def brG (G : Gr) : Nat := ctF (qE G) (qM G) 0 + ctF (qS G) (qM G) 0
theorem ok_zE {G : Gr} (hG : okG G) : zM G (qE G) := fun j hj => by
  cases q : qE G j with
  | false => rfl
  | true =>
    have := (hG.2.2.2.1 false j q).1
    omega
theorem ok_zS {G : Gr} (hG : okG G) : zM G (qS G) := fun j hj => by
  cases q : qS G j with
  | false => rfl
  | true =>
    have := (hG.2.2.2.1 true j q).1
    omega
theorem barCount_T {d k N : Nat} {h : AH} {G : Gr} {Q : AQ} (hS : isSt h k G) (hG : okG G) (hN : k + 5 ≤ N) (hQ : ∀ z : Int, z = (brG G : Nat) → Q (.inl (some (vI z))) h N) : T (d + 2) 67 [vR k] h N Q := by
  have hG0 := hG
  obtain ⟨rb, bb, L, WL, WT, LN, e0, e1, e2, e3, e4, hrb, hbb, hL, hWL, hWT, hLN⟩ := id hS
  obtain ⟨hm4, hm36⟩ := hG.m
  have hmi := qM_int G
  obtain ⟨⟨hr2, hr6⟩, ⟨hc2, hc6⟩, gL, gB, gW, gWn, gWl, gN, gNl⟩ := id hG
  refine T_body (I := mi_X6_barCount) (lv := [_]) rfl (Nat.le_of_ble_eq_true rfl) rfl ?_
  refine R_aload_n rfl rfl ?_
  refine R_getfield rfl rfl (by omega) e0 rfl ?_
  refine R_scall rfl rfl ⟨Nat.le_of_ble_eq_true rfl, Nat.le_of_ble_eq_true rfl, Nat.zero_le _, Nat.zero_le _⟩ (bitCount_T (fun z4 hz4 => aRes_i (rest := []) ?_))
  rw [pop_all hG0 hrb (ok_zE hG0)] at hz4
  refine R_aload_n rfl rfl ?_
  refine R_getfield rfl rfl (by omega) e0 rfl ?_
  refine R_scall rfl rfl ⟨Nat.le_of_ble_eq_true rfl, Nat.le_of_ble_eq_true rfl, Nat.zero_le _, Nat.zero_le _⟩ (bitCount_T (fun z11 hz11 => aRes_i (rest := [_]) ?_))
  rw [pop_all hG0 hbb (ok_zS hG0)] at hz11
  refine R_iadd rfl ?_
  exact R_ireturn rfl (fun q => absurd q (by decide)) (Nat.zero_le _) (Nat.zero_le _) (hQ _ (by rw [hz4, hz11]; rfl))
