/-! ===== the model: words and line of the text; the whole text ===== -/
theorem rbW {n : Nat} {tx : Nat → Int} {p : Nat} {G : Gr} {c : Nat} {b : Bool} {s : Int} : qW (rbF n tx p G c b s).2 = qW G ∧ qN (rbF n tx p G c b s).2 = qN G := by
  unfold rbF
  by_cases q : qPb G c b = true ∧ sg n tx p = s
  · rw [if_pos q]
    cases b <;> exact ⟨rfl, rfl⟩
  · rw [if_neg q]
    exact ⟨rfl, rfl⟩
theorem rc_W {n : Nat} {tx : Nat → Int} : ∀ r c p G, qW (rcF n tx r c p G).2.2 = qW G ∧ qN (rcF n tx r c p G).2.2 = qN G
  | 0, _, _, _ => ⟨rfl, rfl⟩
  | r + 1, c, p, G => by
    by_cases q : sg n tx p = 46 ∨ isLb (sg n tx p) = true
    · rw [rc_S q]
      have h1 := rc_W (n := n) (tx := tx) r (c + 1) (rbF n tx (rbF n tx (p + 1) (setL G c (if sg n tx p = 46 then 0 else sg n tx p)) c false 124).1 (rbF n tx (p + 1) (setL G c (if sg n tx p = 46 then 0 else sg n tx p)) c false 124).2 c true 95).1 (rbF n tx (rbF n tx (p + 1) (setL G c (if sg n tx p = 46 then 0 else sg n tx p)) c false 124).1 (rbF n tx (p + 1) (setL G c (if sg n tx p = 46 then 0 else sg n tx p)) c false 124).2 c true 95).2
      have h2 := rbW (n := n) (tx := tx) (p := (rbF n tx (p + 1) (setL G c (if sg n tx p = 46 then 0 else sg n tx p)) c false 124).1) (G := (rbF n tx (p + 1) (setL G c (if sg n tx p = 46 then 0 else sg n tx p)) c false 124).2) (c := c) (b := true) (s := 95)
      have h3 := rbW (n := n) (tx := tx) (p := p + 1) (G := setL G c (if sg n tx p = 46 then 0 else sg n tx p)) (c := c) (b := false) (s := 124)
      exact ⟨h1.1.trans (h2.1.trans (h3.1.trans rfl)), h1.2.trans (h2.2.trans (h3.2.trans rfl))⟩
    · rw [rc_N q]
      exact ⟨rfl, rfl⟩
theorem gd_ok {n : Nat} {tx : Nat → Int} (h : (gdF n tx).1 = true) : okG (gdF n tx).2.2 := by
  unfold gdF at h ⊢
  by_cases q0 : sg n tx 0 = 71
  · rw [if_pos q0] at h ⊢
    by_cases q1 : szO n tx 1 = true
    · rw [if_pos q1] at h ⊢
      by_cases q2 : szO n tx 2 = true
      · rw [if_pos q2] at h ⊢
        have hlt : 3 ≤ n := by
          have : 2 < n := sg_lt (tx := tx) (i := 2) (by
            have := szO_t.mp q2
            omega)
          omega
        have k := rc_ok (n := n) (tx := tx) (szN n tx 1 * szN n tx 2) 0 3 (newG (szN n tx 1) (szN n tx 2)) (ok_newG (sz_n q1).1 (sz_n q2).1) hlt
        by_cases q3 : (rcF n tx (szN n tx 1 * szN n tx 2) 0 3 (newG (szN n tx 1) (szN n tx 2))).1 = true
        · rw [if_pos q3] at h ⊢
          exact rp_ok _ _ _ k.1 k.2 h
        · rw [if_neg q3] at h
          exact absurd h q3
      · rw [if_neg q2] at h
        cases h
    · rw [if_neg q1] at h
      cases h
  · rw [if_neg q0] at h
    cases h
theorem mrw_loop {d N n : Nat} {G : Gr} {th rm en : Int} {tx : Nat → Int} {Q : AQ} (hN : 139 ≤ N) {W p0 : Nat} {zk zf : Int} {Gd : Gr} {D0 : Nat → Int} (hW : W ≤ 8) (hp0 : p0 ≤ 200) (hW8 : W < 8) : ∀ (r m : Nat) (h : AH) (D : Nat → Int) (zp zm : Int), m + r = 6 → zm = m → zp = ((p0 + m : Nat) : Int) → p0 + m ≤ n → isM0 h G th n rm en → isMt h n tx → h 125 = eI 174 D → (∀ j, j < m → isLet (sg n tx (p0 + j))) → (∀ j, j < m → D ((119 + 6 * W) + j) = sg n tx (p0 + j)) → (∀ j, ¬ ((119 + 6 * W) ≤ j ∧ j < (119 + 6 * W) + 6) → D j = D0 j) → (∀ h' D' m', m ≤ m' → m' ≤ 6 → p0 + m' ≤ n → rwF n tx r (p0 + m) (addW Gd m (fun j => sg n tx (p0 + j))) m = (m', p0 + m', addW Gd m' (fun j => sg n tx (p0 + j))) → (∀ j, j < m' → isLet (sg n tx (p0 + j))) → (∀ j, j < m' → D' ((119 + 6 * W) + j) = sg n tx (p0 + j)) → (∀ j, ¬ ((119 + 6 * W) ≤ j ∧ j < (119 + 6 * W) + 6) → D' j = D0 j) → isM0 h' G th n rm en → isMt h' n tx → h' 125 = eI 174 D' → fr h h' 125 1 → Run mi_X9_readParts (T (d + 2)) Q 165 [some (vR 122), some (vI zf), some (vI ((p0 + m' : Nat) : Int)), some (vI zk), some (vI 1), some (vI 0), some (vI W), some (vI (m' : Nat))] [] h' N 0 0) → Run mi_X9_readParts (T (d + 2)) Q 103 [some (vR 122), some (vI zf), some (vI zp), some (vI zk), some (vI 1), some (vI 0), some (vI W), some (vI zm)] [] h N 0 0 := by
  intro r
  induction r using Nat.strongRecOn with
  | ind r ih =>
  intro m h D zp zm hr hzm hzp hp hZ hT m4 v0 v1 v2 kc
  obtain ⟨S, m0, m3, hR⟩ := id hZ
  obtain ⟨tf9, m1, hn150, hf⟩ := id hT
  refine R_iload rfl rfl ?_
  refine R_bipush rfl ?_
  refine R_icmpge rfl ⟨by omega, by omega⟩ ⟨by decide, by decide⟩ (fun c107 => ?_) (fun c107 => ?_)
  · have hr0 : r = 0 := by omega
    subst hr0
    have hm : m = 6 := by omega
    subst hm
    have he9 : rwF n tx 0 (p0 + 6) (addW Gd 6 (fun j => sg n tx (p0 + j))) 6 = (6, p0 + 6, addW Gd 6 (fun j => sg n tx (p0 + j))) := rfl
    rw [show zp = ((p0 + 6 : Nat) : Int) by omega, show zm = ((6 : Nat) : Int) by omega]
    exact kc h D _ (by omega) (by omega) hp he9 v0 v1 v2 hZ hT m4 fr.refl
  · obtain ⟨r, rfl⟩ : ∃ r1, r = r1 + 1 := ⟨r - 1, by omega⟩
    refine R_aload_n rfl rfl ?_
    refine R_iload_n rfl rfl ?_
    refine R_vcall rfl rfl ⟨(by omega), _, m0⟩ ⟨Nat.le_of_ble_eq_true rfl, Nat.le_of_ble_eq_true rfl, Nat.zero_le _, Nat.zero_le _⟩ (mChar_T (i := p0 + m) hZ hT hN (by omega) (by omega) (fun z112 hz112 => aRes_i (rest := []) ?_))
    have hs112 := sg_m hT (p0 + m)
    rw [← hz112] at hs112
    refine R_scall rfl rfl ⟨Nat.le_of_ble_eq_true rfl, Nat.le_of_ble_eq_true rfl, Nat.zero_le _, Nat.zero_le _⟩ (mIsLetter_T ⟨by omega, by omega⟩ (fun z115 hz115 => aRes_i (rest := []) ?_))
    rw [hz112] at hz115
    have h01 := bI01 (isLb (sg n tx (p0 + m)))
    rw [← hz115] at h01
    refine R_ifeq rfl ⟨by omega, by omega⟩ (fun c118 => ?_) (fun c118 => ?_)
    · have hb9 : ¬ isLb (sg n tx (p0 + m)) = true := fun q => by
        rw [bI_f hz115 (by omega)] at q
        cases q
      have he9 : rwF n tx (r + 1) (p0 + m) (addW Gd m (fun j => sg n tx (p0 + j))) m = (m, p0 + m, addW Gd m (fun j => sg n tx (p0 + j))) := if_neg hb9
      rw [show zp = ((p0 + m : Nat) : Int) by omega, show zm = ((m : Nat) : Int) by omega]
      exact kc h D _ (by omega) (by omega) hp he9 v0 v1 v2 hZ hT m4 fr.refl
    · have hb9 : isLb (sg n tx (p0 + m)) = true := bI_t hz115 c118
      have hlt : p0 + m < n := sg_lt (tx := tx) (i := p0 + m) (by
        have := isLb_t.mp hb9
        omega)
      have he9 : rwF n tx (r + 1) (p0 + m) (addW Gd m (fun j => sg n tx (p0 + j))) m = rwF n tx r (p0 + (m + 1)) (addW Gd (m + 1) (fun j => sg n tx (p0 + j))) (m + 1) := by
        refine (if_pos hb9).trans ?_
        rw [show (fun j => sg n tx (p0 + j)) = (fun j => sg n tx (p0 + j)) from rfl, ← lenW_add (G := Gd) (c := m) (t := (fun j => sg n tx (p0 + j)))]
        rfl
      refine R_aload_n rfl rfl ?_
      refine R_getfield rfl rfl (by omega) m0 rfl ?_
      refine R_iload rfl rfl ?_
      refine R_ifeq rfl ⟨by decide, by decide⟩ (fun c0 => absurd c0 (by decide)) (fun _ => ?_)
      refine R_bipush rfl ?_
      refine R_bipush rfl ?_
      refine R_iload rfl rfl ?_
      refine R_imul rfl ?_
      refine R_iadd rfl ?_
      refine R_iload rfl rfl ?_
      refine R_iadd rfl ?_
      refine R_goto rfl ?_
      refine R_aload_n rfl rfl ?_
      refine R_iload_n rfl rfl ?_
      refine R_vcall rfl rfl ⟨(by omega), _, m0⟩ ⟨Nat.le_of_ble_eq_true rfl, Nat.le_of_ble_eq_true rfl, Nat.zero_le _, Nat.zero_le _⟩ (mChar_T (i := p0 + m) hZ hT hN (by omega) (by omega) (fun z152 hz152 => aRes_i (rest := [_, _]) ?_))
      have hs152 := sg_m hT (p0 + m)
      rw [← hz152] at hs152
      refine R_iastore rfl (by omega) m4 ⟨by omega, by omega, by omega⟩ ?_
      refine R_iinc (lv' := [_, _, _, _, _, _, _, _]) rfl rfl rfl ?_
      refine R_iinc (lv' := [_, _, _, _, _, _, _, _]) rfl rfl rfl ?_
      refine R_goto rfl ?_
      rw [he9] at kc
      exact ih r (by omega) (m + 1) _ _ _ _ (by omega) (by omega) (by omega) (by omega) (isM0_f hZ fr_0 (by decide)) (isMt_f hT fr_0 (by decide)) (va_up_self _ _ _) (fun j hj => by
        by_cases q : j = m
        · rw [q]
          exact isLb_let hb9
        · exact v0 j (by omega)) (fun j hj => by
        by_cases q : j = m
        · rw [q, show ((119 + 6 * W) : Nat) + m = (119 + 6 * (W : Int) + zm).toNat by omega, va_up_self]
          exact hz152
        · rw [va_up_ne _ _ (by omega)]
          exact v1 j (by omega)) (fun j hj => (va_up_ne _ _ (by omega)).trans (v2 j hj)) (fun h1 D1 m1 q1 q2 q3 q4 q5 q6 q7 q8 q9 qa qb => kc h1 D1 m1 (by omega) q2 q3 q4 q5 q6 q7 q8 q9 qa (fr_0.trans qb))
theorem mrn_loop {d N n : Nat} {G : Gr} {th rm en : Int} {tx : Nat → Int} {Q : AQ} (hN : 139 ≤ N) {W p0 : Nat} {zk zf : Int} {Gd : Gr} {D0 : Nat → Int} (hW : W ≤ 8) (hp0 : p0 ≤ 200) : ∀ (r m : Nat) (h : AH) (D : Nat → Int) (zp zm : Int), m + r = 6 → zm = m → zp = ((p0 + m : Nat) : Int) → p0 + m ≤ n → isM0 h G th n rm en → isMt h n tx → h 125 = eI 174 D → (∀ j, j < m → isLet (sg n tx (p0 + j))) → (∀ j, j < m → D (168 + j) = sg n tx (p0 + j)) → (∀ j, ¬ (168 ≤ j ∧ j < 168 + 6) → D j = D0 j) → (∀ h' D' m', m ≤ m' → m' ≤ 6 → p0 + m' ≤ n → rlF n tx r (p0 + m) (addN Gd m (fun j => sg n tx (p0 + j))) m = (m', p0 + m', addN Gd m' (fun j => sg n tx (p0 + j))) → (∀ j, j < m' → isLet (sg n tx (p0 + j))) → (∀ j, j < m' → D' (168 + j) = sg n tx (p0 + j)) → (∀ j, ¬ (168 ≤ j ∧ j < 168 + 6) → D' j = D0 j) → isM0 h' G th n rm en → isMt h' n tx → h' 125 = eI 174 D' → fr h h' 125 1 → Run mi_X9_readParts (T (d + 2)) Q 165 [some (vR 122), some (vI zf), some (vI ((p0 + m' : Nat) : Int)), some (vI zk), some (vI 0), some (vI 1), some (vI W), some (vI (m' : Nat))] [] h' N 0 0) → Run mi_X9_readParts (T (d + 2)) Q 103 [some (vR 122), some (vI zf), some (vI zp), some (vI zk), some (vI 0), some (vI 1), some (vI W), some (vI zm)] [] h N 0 0 := by
  intro r
  induction r using Nat.strongRecOn with
  | ind r ih =>
  intro m h D zp zm hr hzm hzp hp hZ hT m4 v0 v1 v2 kc
  obtain ⟨S, m0, m3, hR⟩ := id hZ
  obtain ⟨tf9, m1, hn150, hf⟩ := id hT
  refine R_iload rfl rfl ?_
  refine R_bipush rfl ?_
  refine R_icmpge rfl ⟨by omega, by omega⟩ ⟨by decide, by decide⟩ (fun c107 => ?_) (fun c107 => ?_)
  · have hr0 : r = 0 := by omega
    subst hr0
    have hm : m = 6 := by omega
    subst hm
    have he9 : rlF n tx 0 (p0 + 6) (addN Gd 6 (fun j => sg n tx (p0 + j))) 6 = (6, p0 + 6, addN Gd 6 (fun j => sg n tx (p0 + j))) := rfl
    rw [show zp = ((p0 + 6 : Nat) : Int) by omega, show zm = ((6 : Nat) : Int) by omega]
    exact kc h D _ (by omega) (by omega) hp he9 v0 v1 v2 hZ hT m4 fr.refl
  · obtain ⟨r, rfl⟩ : ∃ r1, r = r1 + 1 := ⟨r - 1, by omega⟩
    refine R_aload_n rfl rfl ?_
    refine R_iload_n rfl rfl ?_
    refine R_vcall rfl rfl ⟨(by omega), _, m0⟩ ⟨Nat.le_of_ble_eq_true rfl, Nat.le_of_ble_eq_true rfl, Nat.zero_le _, Nat.zero_le _⟩ (mChar_T (i := p0 + m) hZ hT hN (by omega) (by omega) (fun z112 hz112 => aRes_i (rest := []) ?_))
    have hs112 := sg_m hT (p0 + m)
    rw [← hz112] at hs112
    refine R_scall rfl rfl ⟨Nat.le_of_ble_eq_true rfl, Nat.le_of_ble_eq_true rfl, Nat.zero_le _, Nat.zero_le _⟩ (mIsLetter_T ⟨by omega, by omega⟩ (fun z115 hz115 => aRes_i (rest := []) ?_))
    rw [hz112] at hz115
    have h01 := bI01 (isLb (sg n tx (p0 + m)))
    rw [← hz115] at h01
    refine R_ifeq rfl ⟨by omega, by omega⟩ (fun c118 => ?_) (fun c118 => ?_)
    · have hb9 : ¬ isLb (sg n tx (p0 + m)) = true := fun q => by
        rw [bI_f hz115 (by omega)] at q
        cases q
      have he9 : rlF n tx (r + 1) (p0 + m) (addN Gd m (fun j => sg n tx (p0 + j))) m = (m, p0 + m, addN Gd m (fun j => sg n tx (p0 + j))) := if_neg hb9
      rw [show zp = ((p0 + m : Nat) : Int) by omega, show zm = ((m : Nat) : Int) by omega]
      exact kc h D _ (by omega) (by omega) hp he9 v0 v1 v2 hZ hT m4 fr.refl
    · have hb9 : isLb (sg n tx (p0 + m)) = true := bI_t hz115 c118
      have hlt : p0 + m < n := sg_lt (tx := tx) (i := p0 + m) (by
        have := isLb_t.mp hb9
        omega)
      have he9 : rlF n tx (r + 1) (p0 + m) (addN Gd m (fun j => sg n tx (p0 + j))) m = rlF n tx r (p0 + (m + 1)) (addN Gd (m + 1) (fun j => sg n tx (p0 + j))) (m + 1) := by
        refine (if_pos hb9).trans ?_
        rw [show (fun j => sg n tx (p0 + j)) = (fun j => sg n tx (p0 + j)) from rfl, ← lenN_add (G := Gd) (c := m) (t := (fun j => sg n tx (p0 + j)))]
        rfl
      refine R_aload_n rfl rfl ?_
      refine R_getfield rfl rfl (by omega) m0 rfl ?_
      refine R_iload rfl rfl ?_
      refine R_ifeq rfl ⟨by decide, by decide⟩ (fun _ => ?_) (fun c0 => absurd c0 (by decide))
      refine R_sipush rfl ?_
      refine R_iload rfl rfl ?_
      refine R_iadd rfl ?_
      refine R_aload_n rfl rfl ?_
      refine R_iload_n rfl rfl ?_
      refine R_vcall rfl rfl ⟨(by omega), _, m0⟩ ⟨Nat.le_of_ble_eq_true rfl, Nat.le_of_ble_eq_true rfl, Nat.zero_le _, Nat.zero_le _⟩ (mChar_T (i := p0 + m) hZ hT hN (by omega) (by omega) (fun z152 hz152 => aRes_i (rest := [_, _]) ?_))
      have hs152 := sg_m hT (p0 + m)
      rw [← hz152] at hs152
      refine R_iastore rfl (by omega) m4 ⟨by omega, by omega, by omega⟩ ?_
      refine R_iinc (lv' := [_, _, _, _, _, _, _, _]) rfl rfl rfl ?_
      refine R_iinc (lv' := [_, _, _, _, _, _, _, _]) rfl rfl rfl ?_
      refine R_goto rfl ?_
      rw [he9] at kc
      exact ih r (by omega) (m + 1) _ _ _ _ (by omega) (by omega) (by omega) (by omega) (isM0_f hZ fr_0 (by decide)) (isMt_f hT fr_0 (by decide)) (va_up_self _ _ _) (fun j hj => by
        by_cases q : j = m
        · rw [q]
          exact isLb_let hb9
        · exact v0 j (by omega)) (fun j hj => by
        by_cases q : j = m
        · rw [q, show (168 : Nat) + m = (168 + zm).toNat by omega, va_up_self]
          exact hz152
        · rw [va_up_ne _ _ (by omega)]
          exact v1 j (by omega)) (fun j hj => (va_up_ne _ _ (by omega)).trans (v2 j hj)) (fun h1 D1 m1 q1 q2 q3 q4 q5 q6 q7 q8 q9 qa qb => kc h1 D1 m1 (by omega) q2 q3 q4 q5 q6 q7 q8 q9 qa (fr_0.trans qb))
theorem mrp_loop {d N n : Nat} {G : Gr} {th rm en : Int} {tx : Nat → Int} {Q : AQ} (hN : 139 ≤ N) {zf : Int} : ∀ (f k p : Nat) (h : AH) (D : Nat → Int) (Gd : Gr) (zp zk : Int) (l4 l5 l6 l7 : Option AV), k + f = 9 → k = qW Gd + tn (decide (¬ qN Gd = 0)) → zp = p → zk = k → p ≤ n → okG Gd → isM0 h G th n rm en → isMt h n tx → h 125 = eI 174 D → rwG D Gd → (∀ h' D', h' 125 = eI 174 D' → ((rpF n tx (f + 1) p Gd).1 = true → rwG D' (rpF n tx (f + 1) p Gd).2.2) → fr h h' 125 1 → ∀ z : Int, z = (if (rpF n tx (f + 1) p Gd).1 = true then -9 else (((rpF n tx (f + 1) p Gd).2.1 : Nat) : Int)) → Q (.inl (some (vI z))) h' N) → Run mi_X9_readParts (T (d + 2)) Q 4 [some (vR 122), some (vI zf), some (vI zp), some (vI zk), l4, l5, l6, l7] [] h N 0 0 := by
  intro f
  induction f using Nat.strongRecOn with
  | ind f ih =>
  intro k p h D Gd zp zk l4 l5 l6 l7 hr hk hzp hzk hp hGd hZ hT m4 hD hQ
  obtain ⟨S, m0, m3, hR⟩ := id hZ
  obtain ⟨tf9, m1, hn150, hf⟩ := id hT
  obtain ⟨a0, a1, aL, aE, aS, a2, aW, aT, a3, aN⟩ := id hD
  have d0 : D (0 : Int).toNat = (qR Gd : Int) := a0
  have d1 : D (1 : Int).toNat = (qC Gd : Int) := a1
  have d110 : D (110 : Int).toNat = (qW Gd : Int) := a2
  have d167 : D (167 : Int).toNat = (qN Gd : Int) := a3
  obtain ⟨hm4, hm36⟩ := hGd.m
  have hmi := qM_int Gd
  obtain ⟨⟨hr2, hr6⟩, ⟨hc2, hc6⟩, gL, gB, gW, gWn, gWl, gN, gNl⟩ := id hGd
  refine R_iload_n rfl rfl ?_
  refine R_sipush rfl ?_
  refine R_icmpge rfl ⟨by omega, by omega⟩ ⟨by decide, by decide⟩ (fun c8 => ?_) (fun c8 => ?_)
  · exact absurd c8 (by omega)
  · refine R_iload_n rfl rfl ?_
    refine R_aload_n rfl rfl ?_
    refine R_getfield rfl rfl (by omega) m0 rfl ?_
    refine R_icmpge rfl ⟨by omega, by omega⟩ ⟨by omega, by omega⟩ (fun c16 => ?_) (fun c16 => ?_)
    · have he0 : rpF n tx (f + 1) p Gd = (true, p, Gd) := if_pos (by omega)
      refine R_bipush rfl ?_
      exact R_ireturn rfl (fun q => absurd q (by decide)) (Nat.zero_le _) (Nat.zero_le _) (hQ h D m4 (fun _ => by rw [he0]; exact hD) fr.refl _ (by rw [he0]; rfl))
    · have hnp : ¬ n ≤ p := by omega
      by_cases hPW : qW Gd < 8 ∧ sg n tx p = 47
      · refine R_aload_n rfl rfl ?_
        refine R_iload_n rfl rfl ?_
        refine R_vcall rfl rfl ⟨(by omega), _, m0⟩ ⟨Nat.le_of_ble_eq_true rfl, Nat.le_of_ble_eq_true rfl, Nat.zero_le _, Nat.zero_le _⟩ (mChar_T (i := p) hZ hT hN (by omega) (by omega) (fun z21 hz21 => aRes_i (rest := []) ?_))
        have hs21 := sg_m hT (p)
        rw [← hz21] at hs21
        refine R_bipush rfl ?_
        refine R_icmpne rfl ⟨by omega, by omega⟩ ⟨by decide, by decide⟩ (fun c26 => ?_) (fun c26 => ?_)
        · exact absurd hPW.2 (by omega)
        · refine R_aload_n rfl rfl ?_
          refine R_getfield rfl rfl (by omega) m0 rfl ?_
          refine R_bipush rfl ?_
          refine R_iaload rfl (Or.inl (by omega)) m4 ⟨by omega, by omega, by omega⟩ ?_
          rw [d110]
          refine R_bipush rfl ?_
          refine R_icmpge rfl ⟨by omega, by omega⟩ ⟨by decide, by decide⟩ (fun c38 => ?_) (fun c38 => ?_)
          · exact absurd hPW.1 (by omega)
          · refine R_iconst rfl ?_
            refine R_goto rfl ?_
            refine R_istore (lv' := [_, _, _, _, _, _, _, _]) rfl rfl ?_
            refine R_aload_n rfl rfl ?_
            refine R_iload_n rfl rfl ?_
            refine R_vcall rfl rfl ⟨(by omega), _, m0⟩ ⟨Nat.le_of_ble_eq_true rfl, Nat.le_of_ble_eq_true rfl, Nat.zero_le _, Nat.zero_le _⟩ (mChar_T (i := p) hZ hT hN (by omega) (by omega) (fun z50 hz50 => aRes_i (rest := []) ?_))
            have hs50 := sg_m hT (p)
            rw [← hz50] at hs50
            refine R_bipush rfl ?_
            refine R_icmpne rfl ⟨by omega, by omega⟩ ⟨by decide, by decide⟩ (fun c55 => ?_) (fun c55 => ?_)
            · refine R_iconst rfl ?_
              refine R_istore (lv' := [_, _, _, _, _, _, _, _]) rfl rfl ?_
              refine R_iload rfl rfl ?_
              refine R_ifne rfl ⟨by decide, by decide⟩ (fun _ => ?_) (fun c0 => absurd c0 (by decide))
              refine R_iinc (lv' := [_, _, _, _, _, _, _, _]) rfl rfl rfl ?_
              refine R_aload_n rfl rfl ?_
              refine R_getfield rfl rfl (by omega) m0 rfl ?_
              refine R_bipush rfl ?_
              refine R_iaload rfl (Or.inl (by omega)) m4 ⟨by omega, by omega, by omega⟩ ?_
              rw [d110]
              refine R_istore (lv' := [_, _, _, _, _, _, _, _]) rfl rfl ?_
              refine R_iconst rfl ?_
              refine R_istore (lv' := [_, _, _, _, _, _, _, _]) rfl rfl ?_
              have hf9 : f = (f - 1) + 1 := by
                have h1 := hPW.1
                have h2 : tn (decide (¬ qN Gd = 0)) ≤ 1 := by cases decide (¬ qN Gd = 0) <;> decide
                omega
              obtain ⟨f, rfl⟩ : ∃ f1, f = f1 + 1 := ⟨f - 1, hf9⟩
              refine mrw_loop hN (W := qW Gd) (p0 := p + 1) (Gd := Gd) (D0 := D) gW (by omega) hPW.1 6 0 h D _ _ rfl rfl (by omega) (by omega) hZ hT m4 (fun j hj => absurd hj (Nat.not_lt_zero _)) (fun j hj => absurd hj (Nat.not_lt_zero _)) (fun j _ => rfl) (fun h1 D1 m' _ q2 q3 he9 v0 v1 v2 hZ1 hT1 x9m4 f1 => ?_)
              obtain ⟨S1, x9m0, -⟩ := id hZ1
              rw [Nat.add_zero, ← begW_add] at he9
              refine R_iload rfl rfl ?_
              refine R_iload rfl rfl ?_
              refine R_ifeq rfl ⟨by decide, by decide⟩ (fun c0 => absurd c0 (by decide)) (fun _ => ?_)
              refine R_iconst rfl ?_
              refine R_goto rfl ?_
              refine R_icmpge rfl ⟨by omega, by omega⟩ ⟨by decide, by decide⟩ (fun c177 => ?_) (fun c177 => ?_)
              · refine R_iload rfl rfl ?_
                refine R_ifeq rfl ⟨by decide, by decide⟩ (fun c0 => absurd c0 (by decide)) (fun _ => ?_)
                refine R_aload_n rfl rfl ?_
                refine R_getfield rfl rfl (by omega) x9m0 rfl ?_
                refine R_bipush rfl ?_
                refine R_iload rfl rfl ?_
                refine R_iadd rfl ?_
                refine R_iload rfl rfl ?_
                refine R_iastore rfl (by omega) x9m4 ⟨by omega, by omega, by omega⟩ ?_
                refine R_aload_n rfl rfl ?_
                refine R_getfield rfl rfl (by omega) ((va_up_ne _ _ (by first | exact kne rfl | exact kz | exact kz.symm | omega)).trans x9m0) rfl ?_
                refine R_bipush rfl ?_
                refine R_dup2 rfl ⟨rfl, rfl⟩ ?_
                refine R_iaload rfl (Or.inl (by omega)) (va_up_self _ _ _) ⟨by omega, by omega, by omega⟩ ?_
                refine R_iconst rfl ?_
                refine R_iadd rfl ?_
                refine R_iastore rfl (by omega) (va_up_self _ _ _) ⟨by omega, by omega, by omega⟩ ?_
                refine R_goto rfl ?_
                refine R_iinc (lv' := [_, _, _, _, _, _, _, _]) rfl rfl rfl ?_
                refine R_goto rfl ?_
                have hrp : rpF n tx (f + 1 + 1) p Gd = rpF n tx (f + 1) (p + 1 + m') (addW Gd m' (fun j => sg n tx (p + 1 + j))) := by
                  refine (if_neg hnp).trans ((if_pos hPW).trans ?_)
                  rw [he9]
                  exact if_pos (show 2 ≤ m' by omega)
                rw [hrp] at hQ
                have hD2 : rwG (va_up (va_up D1 (111 + (qW Gd : Int)).toNat (m' : Int)) (110 : Int).toNat (va_up D1 (111 + (qW Gd : Int)).toNat (m' : Int) (110 : Int).toNat + 1)) (addW Gd m' (fun j => sg n tx (p + 1 + j))) := rw_addW hD hm36 hPW.1 (fun w hw => (gWn w hw).2) gN q2 ((va_up_self _ _ _).trans (by
                  rw [va_up_ne _ _ (show ¬ (110 : Int).toNat = (111 + (qW Gd : Int)).toNat by omega), v2 _ (by omega), d110])) ((va_up_ne _ _ (by omega)).trans (by
                  rw [show (111 + qW Gd : Nat) = (111 + (qW Gd : Int)).toNat by omega]
                  exact va_up_self _ _ _)) (fun j hj => (va_up_ne _ _ (by omega)).trans ((va_up_ne _ _ (by omega)).trans (v1 j hj))) (fun k2 h1 h2 h3 h4 => (va_up_ne _ _ (by omega)).trans ((va_up_ne _ _ (by omega)).trans (v2 k2 h4)))
                have hk9 : k + 1 = qW (addW Gd m' (fun j => sg n tx (p + 1 + j))) + tn (decide (¬ qN (addW Gd m' (fun j => sg n tx (p + 1 + j))) = 0)) := by
                  show k + 1 = qW Gd + 1 + tn (decide (¬ qN Gd = 0))
                  omega
                exact ih f (by omega) (k + 1) (p + 1 + m') _ _ _ _ _ _ _ _ _ (by omega) hk9 rfl (by omega) q3 (ok_addW hGd hPW.1 ⟨by omega, q2⟩ v0) (isM0_f hZ1 fr_2 (by decide)) (isMt_f hT1 fr_2 (by decide)) (va_up_self _ _ _) hD2 (fun h3 D3 r1 r2 r3 => hQ h3 D3 r1 r2 ((f1.trans fr_2).trans r3))
              · have hrp : rpF n tx (f + 1 + 1) p Gd = (false, p + 1 + m', addW Gd m' (fun j => sg n tx (p + 1 + j))) := by
                  refine (if_neg hnp).trans ((if_pos hPW).trans ?_)
                  rw [he9]
                  exact if_neg (show ¬ 2 ≤ m' by omega)
                rw [hrp] at hQ
                refine R_iload_n rfl rfl ?_
                exact R_ireturn rfl (fun q => absurd q (by decide)) (Nat.zero_le _) (Nat.zero_le _) (hQ h1 D1 x9m4 (fun q => by cases q) f1 _ rfl)
            · exact absurd hPW.2 (by omega)
      · by_cases hPN : qN Gd = 0 ∧ sg n tx p = 61
        · refine R_aload_n rfl rfl ?_
          refine R_iload_n rfl rfl ?_
          refine R_vcall rfl rfl ⟨(by omega), _, m0⟩ ⟨Nat.le_of_ble_eq_true rfl, Nat.le_of_ble_eq_true rfl, Nat.zero_le _, Nat.zero_le _⟩ (mChar_T (i := p) hZ hT hN (by omega) (by omega) (fun z21 hz21 => aRes_i (rest := []) ?_))
          have hs21 := sg_m hT (p)
          rw [← hz21] at hs21
          refine R_bipush rfl ?_
          refine R_icmpne rfl ⟨by omega, by omega⟩ ⟨by decide, by decide⟩ (fun c26 => ?_) (fun c26 => ?_)
          · refine R_iconst rfl ?_
            refine R_istore (lv' := [_, _, _, _, _, _, _, _]) rfl rfl ?_
            refine R_aload_n rfl rfl ?_
            refine R_iload_n rfl rfl ?_
            refine R_vcall rfl rfl ⟨(by omega), _, m0⟩ ⟨Nat.le_of_ble_eq_true rfl, Nat.le_of_ble_eq_true rfl, Nat.zero_le _, Nat.zero_le _⟩ (mChar_T (i := p) hZ hT hN (by omega) (by omega) (fun z50 hz50 => aRes_i (rest := []) ?_))
            have hs50 := sg_m hT (p)
            rw [← hz50] at hs50
            refine R_bipush rfl ?_
            refine R_icmpne rfl ⟨by omega, by omega⟩ ⟨by decide, by decide⟩ (fun c55 => ?_) (fun c55 => ?_)
            · exact absurd hPN.2 (by omega)
            · refine R_aload_n rfl rfl ?_
              refine R_getfield rfl rfl (by omega) m0 rfl ?_
              refine R_sipush rfl ?_
              refine R_iaload rfl (Or.inl (by omega)) m4 ⟨by omega, by omega, by omega⟩ ?_
              rw [d167]
              refine R_ifne rfl ⟨by omega, by omega⟩ (fun c66 => ?_) (fun c66 => ?_)
              · exact absurd hPN.1 (by omega)
              · refine R_iconst rfl ?_
                refine R_goto rfl ?_
                refine R_istore (lv' := [_, _, _, _, _, _, _, _]) rfl rfl ?_
                refine R_iload rfl rfl ?_
                refine R_ifne rfl ⟨by decide, by decide⟩ (fun c0 => absurd c0 (by decide)) (fun _ => ?_)
                refine R_iload rfl rfl ?_
                refine R_ifne rfl ⟨by decide, by decide⟩ (fun _ => ?_) (fun c0 => absurd c0 (by decide))
                refine R_iinc (lv' := [_, _, _, _, _, _, _, _]) rfl rfl rfl ?_
                refine R_aload_n rfl rfl ?_
                refine R_getfield rfl rfl (by omega) m0 rfl ?_
                refine R_bipush rfl ?_
                refine R_iaload rfl (Or.inl (by omega)) m4 ⟨by omega, by omega, by omega⟩ ?_
                rw [d110]
                refine R_istore (lv' := [_, _, _, _, _, _, _, _]) rfl rfl ?_
                refine R_iconst rfl ?_
                refine R_istore (lv' := [_, _, _, _, _, _, _, _]) rfl rfl ?_
                have hf9 : f = (f - 1) + 1 := by
                  have h2 : tn (decide (¬ qN Gd = 0)) = 0 := by rw [decide_eq_false (fun q => q hPN.1)]; rfl
                  omega
                obtain ⟨f, rfl⟩ : ∃ f1, f = f1 + 1 := ⟨f - 1, hf9⟩
                refine mrn_loop hN (W := qW Gd) (p0 := p + 1) (Gd := Gd) (D0 := D) gW (by omega) 6 0 h D _ _ rfl rfl (by omega) (by omega) hZ hT m4 (fun j hj => absurd hj (Nat.not_lt_zero _)) (fun j hj => absurd hj (Nat.not_lt_zero _)) (fun j _ => rfl) (fun h1 D1 m' _ q2 q3 he9 v0 v1 v2 hZ1 hT1 x9m4 f1 => ?_)
                obtain ⟨S1, x9m0, -⟩ := id hZ1
                rw [Nat.add_zero, show addN Gd 0 (fun j => sg n tx (p + 1 + j)) = Gd from by rw [← noN_add]; unfold noN; rw [show (0 : Nat) = qN Gd from hPN.1.symm]] at he9
                refine R_iload rfl rfl ?_
                refine R_iload rfl rfl ?_
                refine R_ifeq rfl ⟨by decide, by decide⟩ (fun _ => ?_) (fun c0 => absurd c0 (by decide))
                refine R_iconst rfl ?_
                refine R_icmpge rfl ⟨by omega, by omega⟩ ⟨by decide, by decide⟩ (fun c177 => ?_) (fun c177 => ?_)
                · refine R_iload rfl rfl ?_
                  refine R_ifeq rfl ⟨by decide, by decide⟩ (fun _ => ?_) (fun c0 => absurd c0 (by decide))
                  refine R_aload_n rfl rfl ?_
                  refine R_getfield rfl rfl (by omega) x9m0 rfl ?_
                  refine R_sipush rfl ?_
                  refine R_iload rfl rfl ?_
                  refine R_iastore rfl (by omega) x9m4 ⟨by omega, by omega, by omega⟩ ?_
                  refine R_iinc (lv' := [_, _, _, _, _, _, _, _]) rfl rfl rfl ?_
                  refine R_goto rfl ?_
                  have hrp : rpF n tx (f + 1 + 1) p Gd = rpF n tx (f + 1) (p + 1 + m') (addN Gd m' (fun j => sg n tx (p + 1 + j))) := by
                    refine (if_neg hnp).trans ((if_neg hPW).trans ((if_pos hPN).trans ?_))
                    rw [he9]
                    exact if_pos (show 1 ≤ m' by omega)
                  rw [hrp] at hQ
                  have hD2 : rwG (va_up D1 (167 : Int).toNat (m' : Int)) (addN Gd m' (fun j => sg n tx (p + 1 + j))) := rw_addN hD hm36 gW (fun w hw => (gWn w hw).2) (va_up_self _ _ _) (fun j hj => (va_up_ne _ _ (by omega)).trans (v1 j hj)) (fun k2 h1 => (va_up_ne _ _ (by omega)).trans (v2 k2 (by omega)))
                  have hk9 : k + 1 = qW (addN Gd m' (fun j => sg n tx (p + 1 + j))) + tn (decide (¬ qN (addN Gd m' (fun j => sg n tx (p + 1 + j))) = 0)) := by
                    show k + 1 = qW Gd + tn (decide (¬ m' = 0))
                    rw [decide_eq_true (show ¬ m' = 0 by omega)]
                    rw [decide_eq_false (fun q => q hPN.1)] at hk
                    rw [hk]
                    rfl
                  exact ih f (by omega) (k + 1) (p + 1 + m') _ _ _ _ _ _ _ _ _ (by omega) hk9 rfl (by omega) q3 (ok_addN hGd q2 v0) (isM0_f hZ1 fr_0 (by decide)) (isMt_f hT1 fr_0 (by decide)) (va_up_self _ _ _) hD2 (fun h3 D3 r1 r2 r3 => hQ h3 D3 r1 r2 ((f1.trans fr_0).trans r3))
                · have hrp : rpF n tx (f + 1 + 1) p Gd = (false, p + 1 + m', addN Gd m' (fun j => sg n tx (p + 1 + j))) := by
                    refine (if_neg hnp).trans ((if_neg hPW).trans ((if_pos hPN).trans ?_))
                    rw [he9]
                    exact if_neg (show ¬ 1 ≤ m' by omega)
                  rw [hrp] at hQ
                  refine R_iload_n rfl rfl ?_
                  exact R_ireturn rfl (fun q => absurd q (by decide)) (Nat.zero_le _) (Nat.zero_le _) (hQ h1 D1 x9m4 (fun q => by cases q) f1 _ rfl)
          · exact absurd hPN.2 (by omega)
        · have he0 : rpF n tx (f + 1) p Gd = (false, p, Gd) := (if_neg hnp).trans ((if_neg hPW).trans (if_neg hPN))
          refine R_aload_n rfl rfl ?_
          refine R_iload_n rfl rfl ?_
          refine R_vcall rfl rfl ⟨(by omega), _, m0⟩ ⟨Nat.le_of_ble_eq_true rfl, Nat.le_of_ble_eq_true rfl, Nat.zero_le _, Nat.zero_le _⟩ (mChar_T (i := p) hZ hT hN (by omega) (by omega) (fun z21 hz21 => aRes_i (rest := []) ?_))
          have hs21 := sg_m hT (p)
          rw [← hz21] at hs21
          refine R_bipush rfl ?_
          refine R_icmpne rfl ⟨by omega, by omega⟩ ⟨by decide, by decide⟩ (fun c26 => ?_) (fun c26 => ?_)
          · refine R_iconst rfl ?_
            refine R_istore (lv' := [_, _, _, _, _, _, _, _]) rfl rfl ?_
            refine R_aload_n rfl rfl ?_
            refine R_iload_n rfl rfl ?_
            refine R_vcall rfl rfl ⟨(by omega), _, m0⟩ ⟨Nat.le_of_ble_eq_true rfl, Nat.le_of_ble_eq_true rfl, Nat.zero_le _, Nat.zero_le _⟩ (mChar_T (i := p) hZ hT hN (by omega) (by omega) (fun z50 hz50 => aRes_i (rest := []) ?_))
            have hs50 := sg_m hT (p)
            rw [← hz50] at hs50
            refine R_bipush rfl ?_
            refine R_icmpne rfl ⟨by omega, by omega⟩ ⟨by decide, by decide⟩ (fun c55 => ?_) (fun c55 => ?_)
            · refine R_iconst rfl ?_
              refine R_istore (lv' := [_, _, _, _, _, _, _, _]) rfl rfl ?_
              refine R_iload rfl rfl ?_
              refine R_ifne rfl ⟨by decide, by decide⟩ (fun c0 => absurd c0 (by decide)) (fun _ => ?_)
              refine R_iload rfl rfl ?_
              refine R_ifne rfl ⟨by decide, by decide⟩ (fun c0 => absurd c0 (by decide)) (fun _ => ?_)
              refine R_iload_n rfl rfl ?_
              exact R_ireturn rfl (fun q => absurd q (by decide)) (Nat.zero_le _) (Nat.zero_le _) (by rw [hzp]; exact hQ h D m4 (fun q => by rw [he0] at q; cases q) fr.refl _ (by rw [he0]; rfl))
            · refine R_aload_n rfl rfl ?_
              refine R_getfield rfl rfl (by omega) m0 rfl ?_
              refine R_sipush rfl ?_
              refine R_iaload rfl (Or.inl (by omega)) m4 ⟨by omega, by omega, by omega⟩ ?_
              rw [d167]
              refine R_ifne rfl ⟨by omega, by omega⟩ (fun c66 => ?_) (fun c66 => ?_)
              · refine R_iconst rfl ?_
                refine R_istore (lv' := [_, _, _, _, _, _, _, _]) rfl rfl ?_
                refine R_iload rfl rfl ?_
                refine R_ifne rfl ⟨by decide, by decide⟩ (fun c0 => absurd c0 (by decide)) (fun _ => ?_)
                refine R_iload rfl rfl ?_
                refine R_ifne rfl ⟨by decide, by decide⟩ (fun c0 => absurd c0 (by decide)) (fun _ => ?_)
                refine R_iload_n rfl rfl ?_
                exact R_ireturn rfl (fun q => absurd q (by decide)) (Nat.zero_le _) (Nat.zero_le _) (by rw [hzp]; exact hQ h D m4 (fun q => by rw [he0] at q; cases q) fr.refl _ (by rw [he0]; rfl))
              · exact absurd (show qN Gd = 0 ∧ sg n tx p = 61 from ⟨by omega, by omega⟩) hPN
          · refine R_aload_n rfl rfl ?_
            refine R_getfield rfl rfl (by omega) m0 rfl ?_
            refine R_bipush rfl ?_
            refine R_iaload rfl (Or.inl (by omega)) m4 ⟨by omega, by omega, by omega⟩ ?_
            rw [d110]
            refine R_bipush rfl ?_
            refine R_icmpge rfl ⟨by omega, by omega⟩ ⟨by decide, by decide⟩ (fun c38 => ?_) (fun c38 => ?_)
            · refine R_iconst rfl ?_
              refine R_istore (lv' := [_, _, _, _, _, _, _, _]) rfl rfl ?_
              refine R_aload_n rfl rfl ?_
              refine R_iload_n rfl rfl ?_
              refine R_vcall rfl rfl ⟨(by omega), _, m0⟩ ⟨Nat.le_of_ble_eq_true rfl, Nat.le_of_ble_eq_true rfl, Nat.zero_le _, Nat.zero_le _⟩ (mChar_T (i := p) hZ hT hN (by omega) (by omega) (fun z50 hz50 => aRes_i (rest := []) ?_))
              have hs50 := sg_m hT (p)
              rw [← hz50] at hs50
              refine R_bipush rfl ?_
              refine R_icmpne rfl ⟨by omega, by omega⟩ ⟨by decide, by decide⟩ (fun c55 => ?_) (fun c55 => ?_)
              · refine R_iconst rfl ?_
                refine R_istore (lv' := [_, _, _, _, _, _, _, _]) rfl rfl ?_
                refine R_iload rfl rfl ?_
                refine R_ifne rfl ⟨by decide, by decide⟩ (fun c0 => absurd c0 (by decide)) (fun _ => ?_)
                refine R_iload rfl rfl ?_
                refine R_ifne rfl ⟨by decide, by decide⟩ (fun c0 => absurd c0 (by decide)) (fun _ => ?_)
                refine R_iload_n rfl rfl ?_
                exact R_ireturn rfl (fun q => absurd q (by decide)) (Nat.zero_le _) (Nat.zero_le _) (by rw [hzp]; exact hQ h D m4 (fun q => by rw [he0] at q; cases q) fr.refl _ (by rw [he0]; rfl))
              · refine R_aload_n rfl rfl ?_
                refine R_getfield rfl rfl (by omega) m0 rfl ?_
                refine R_sipush rfl ?_
                refine R_iaload rfl (Or.inl (by omega)) m4 ⟨by omega, by omega, by omega⟩ ?_
                rw [d167]
                refine R_ifne rfl ⟨by omega, by omega⟩ (fun c66 => ?_) (fun c66 => ?_)
                · refine R_iconst rfl ?_
                  refine R_istore (lv' := [_, _, _, _, _, _, _, _]) rfl rfl ?_
                  refine R_iload rfl rfl ?_
                  refine R_ifne rfl ⟨by decide, by decide⟩ (fun c0 => absurd c0 (by decide)) (fun _ => ?_)
                  refine R_iload rfl rfl ?_
                  refine R_ifne rfl ⟨by decide, by decide⟩ (fun c0 => absurd c0 (by decide)) (fun _ => ?_)
                  refine R_iload_n rfl rfl ?_
                  exact R_ireturn rfl (fun q => absurd q (by decide)) (Nat.zero_le _) (Nat.zero_le _) (by rw [hzp]; exact hQ h D m4 (fun q => by rw [he0] at q; cases q) fr.refl _ (by rw [he0]; rfl))
                · exact absurd (show qN Gd = 0 ∧ sg n tx p = 61 from ⟨by omega, by omega⟩) hPN
            · exact absurd (show qW Gd < 8 ∧ sg n tx p = 47 from ⟨by omega, by omega⟩) hPW
theorem mReadParts_T {d N n : Nat} {G : Gr} {th rm en : Int} {tx : Nat → Int} {Q : AQ} (hN : 139 ≤ N) {p : Nat} {zp : Int} {Gd : Gr} {h : AH} {D : Nat → Int} (hzp : zp = p) (hp : p ≤ n) (hGd : okG Gd) (hq1 : qW Gd = 0) (hq2 : qN Gd = 0) (hZ : isM0 h G th n rm en) (hT : isMt h n tx) (m4 : h 125 = eI 174 D) (hD : rwG D Gd) (hQ : (∀ h' D', h' 125 = eI 174 D' → ((rpF n tx 10 p Gd).1 = true → rwG D' (rpF n tx 10 p Gd).2.2) → fr h h' 125 1 → ∀ z : Int, z = (if (rpF n tx 10 p Gd).1 = true then -9 else (((rpF n tx 10 p Gd).2.1 : Nat) : Int)) → Q (.inl (some (vI z))) h' N)) : T (d + 3) 134 [vR 122, vI zp] h N Q := by
  refine T_body (I := mi_X9_readParts) (lv := [_, _, _, _, _, _, _, _]) rfl (Nat.le_of_ble_eq_true rfl) rfl ?_
  refine R_iload_n rfl rfl ?_
  refine R_istore_n (lv' := [_, _, _, _, _, _, _, _]) rfl rfl ?_
  refine R_iconst rfl ?_
  refine R_istore_n (lv' := [_, _, _, _, _, _, _, _]) rfl rfl ?_
  exact mrp_loop hN 9 0 p h D Gd _ _ _ _ _ _ rfl (by rw [hq1, hq2]; rfl) hzp rfl hp hGd hZ hT m4 hD hQ
theorem mReadText_T {d N n : Nat} {G : Gr} {th rm en : Int} {tx : Nat → Int} {Q : AQ} (hN : 139 ≤ N) {h : AH} (hZ : isM0 h G th n rm en) (hT : isMt h n tx) (hD0 : ∃ D, h 125 = eI 174 D) (hQ : (∀ h' D', h' 125 = eI 174 D' → ((gdF n tx).1 = true → rwG D' (gdF n tx).2.2) → fr h h' 125 1 → ∀ z : Int, z = (if (gdF n tx).1 = true then -9 else (((gdF n tx).2.1 : Nat) : Int)) → Q (.inl (some (vI z))) h' N)) : T (d + 4) 133 [vR 122] h N Q := by
  obtain ⟨D, m4⟩ := hD0
  obtain ⟨S, m0, m3, hR⟩ := id hZ
  obtain ⟨tf9, m1, hn150, hf⟩ := id hT
  refine T_body (I := mi_X9_readText) (lv := [_, _, _]) rfl (Nat.le_of_ble_eq_true rfl) rfl ?_
  refine R_iconst rfl ?_
  refine R_istore_n (lv' := [_, _, _]) rfl rfl ?_
  refine mrt_z hN 174 0 h D _ (Nat.zero_add _) rfl hZ hT m4 (fun j hj => absurd hj (Nat.not_lt_zero _)) (fun h1 D1 z1 hZ1 hT1 x9m4 v1 f1 => ?_)
  obtain ⟨S1, x9m0, -⟩ := id hZ1
  obtain ⟨f9, x9m1, -⟩ := id hT1
  refine R_aload_n rfl rfl ?_
  refine R_iconst rfl ?_
  refine R_vcall rfl rfl ⟨(by omega), _, x9m0⟩ ⟨Nat.le_of_ble_eq_true rfl, Nat.le_of_ble_eq_true rfl, Nat.zero_le _, Nat.zero_le _⟩ (mChar_T (i := 0) hZ1 hT1 hN rfl (by omega) (fun z24 hz24 => aRes_i (rest := []) ?_))
  have hs24 := sg_m hT1 (0)
  rw [← hz24] at hs24
  refine R_bipush rfl ?_
  refine R_icmpeq rfl ⟨by omega, by omega⟩ ⟨by decide, by decide⟩ (fun c29 => ?_) (fun c29 => ?_)
  · have h71 : sg n tx 0 = 71 := by omega
    refine R_aload_n rfl rfl ?_
    refine R_iconst rfl ?_
    refine R_vcall rfl rfl ⟨(by omega), _, x9m0⟩ ⟨Nat.le_of_ble_eq_true rfl, Nat.le_of_ble_eq_true rfl, Nat.zero_le _, Nat.zero_le _⟩ (mChar_T (i := 1) hZ1 hT1 hN rfl (by omega) (fun z36 hz36 => aRes_i (rest := []) ?_))
    have hs36 := sg_m hT1 (1)
    rw [← hz36] at hs36
    refine R_scall rfl rfl ⟨Nat.le_of_ble_eq_true rfl, Nat.le_of_ble_eq_true rfl, Nat.zero_le _, Nat.zero_le _⟩ (mIsSide_T ⟨by omega, by omega⟩ (fun z39 hz39 => aRes_i (rest := []) ?_))
    refine R_ifne rfl ⟨by omega, by omega⟩ (fun c42 => ?_) (fun c42 => ?_)
    · have hq1 : szO n tx 1 = true := szO_t.mpr (by omega)
      refine R_aload_n rfl rfl ?_
      refine R_iconst rfl ?_
      refine R_vcall rfl rfl ⟨(by omega), _, x9m0⟩ ⟨Nat.le_of_ble_eq_true rfl, Nat.le_of_ble_eq_true rfl, Nat.zero_le _, Nat.zero_le _⟩ (mChar_T (i := 2) hZ1 hT1 hN rfl (by omega) (fun z49 hz49 => aRes_i (rest := []) ?_))
      have hs49 := sg_m hT1 (2)
      rw [← hz49] at hs49
      refine R_scall rfl rfl ⟨Nat.le_of_ble_eq_true rfl, Nat.le_of_ble_eq_true rfl, Nat.zero_le _, Nat.zero_le _⟩ (mIsSide_T ⟨by omega, by omega⟩ (fun z52 hz52 => aRes_i (rest := []) ?_))
      refine R_ifne rfl ⟨by omega, by omega⟩ (fun c55 => ?_) (fun c55 => ?_)
      · have hq2 : szO n tx 2 = true := szO_t.mpr (by omega)
        refine R_aload_n rfl rfl ?_
        refine R_getfield rfl rfl (by omega) x9m0 rfl ?_
        refine R_iconst rfl ?_
        refine R_aload_n rfl rfl ?_
        refine R_iconst rfl ?_
        refine R_vcall rfl rfl ⟨(by omega), _, x9m0⟩ ⟨Nat.le_of_ble_eq_true rfl, Nat.le_of_ble_eq_true rfl, Nat.zero_le _, Nat.zero_le _⟩ (mChar_T (i := 1) hZ1 hT1 hN rfl (by omega) (fun z67 hz67 => aRes_i (rest := [_, _]) ?_))
        have hs67 := sg_m hT1 (1)
        rw [← hz67] at hs67
        refine R_bipush rfl ?_
        refine R_isub rfl ?_
        refine R_iastore rfl (by omega) x9m4 ⟨by omega, by omega, by omega⟩ ?_
        refine R_aload_n rfl rfl ?_
        refine R_getfield rfl rfl (by omega) ((va_up_ne _ _ (by first | exact kne rfl | exact kz | exact kz.symm | omega)).trans x9m0) rfl ?_
        refine R_iconst rfl ?_
        refine R_aload_n rfl rfl ?_
        refine R_iconst rfl ?_
        refine R_vcall rfl rfl ⟨(by omega), _, ((va_up_ne _ _ (by first | exact kne rfl | exact kz | exact kz.symm | omega)).trans x9m0)⟩ ⟨Nat.le_of_ble_eq_true rfl, Nat.le_of_ble_eq_true rfl, Nat.zero_le _, Nat.zero_le _⟩ (mChar_T (i := 2) (isM0_f hZ1 fr_0 (by decide)) (isMt_f hT1 fr_0 (by decide)) hN rfl (by omega) (fun z81 hz81 => aRes_i (rest := [_, _]) ?_))
        refine R_bipush rfl ?_
        refine R_isub rfl ?_
        refine R_iastore rfl (by omega) (va_up_self _ _ _) ⟨by omega, by omega, by omega⟩ ?_
        refine R_iconst rfl ?_
        refine R_istore_n (lv' := [_, _, _]) rfl rfl ?_
        refine R_iconst rfl ?_
        refine R_istore_n (lv' := [_, _, _]) rfl rfl ?_
        have hsz1 := sz_n hq1
        have hsz2 := sz_n hq2
        have hlt : 3 ≤ n := by
          have : 2 < n := sg_lt (tx := tx) (i := 2) (by
            have := szO_t.mp hq2
            omega)
          omega
        have hmul : szN n tx 1 * szN n tx 2 ≤ 36 := Nat.le_trans (Nat.mul_le_mul hsz1.1.2 hsz2.1.2) (by decide)
        have hDn : rwG (va_up (va_up D1 (0 : Int).toNat (z67 - 48)) (1 : Int).toNat (z81 - 48)) (newG (szN n tx 1) (szN n tx 2)) := rw_new ((va_up_ne _ _ (by decide)).trans ((va_up_self _ _ _).trans (by omega))) ((va_up_self _ _ _).trans (by omega)) (fun j h1 h2 => (va_up_ne _ _ (by omega)).trans ((va_up_ne _ _ (by omega)).trans (v1 j h2))) hmul
        have hkn := ok_newG hsz1.1 hsz2.1
        have hk1 := rc_ok (n := n) (tx := tx) (szN n tx 1 * szN n tx 2) 0 3 (newG (szN n tx 1) (szN n tx 2)) hkn hlt
        refine mrt_loop hN (szN n tx 1 * szN n tx 2) 0 3 _ _ (newG (szN n tx 1) (szN n tx 2)) _ _ (Nat.zero_add _) rfl rfl hlt hkn (isM0_f hZ1 fr_2 (by decide)) (isMt_f hT1 fr_2 (by decide)) (va_up_self _ _ _) hDn (fun h3 D3 hb e3 f3 => ?_) (fun h3 D3 hb hD3 hZ3 hT3 e3 f3 l3 => ?_)
        · have hg1 : gdF n tx = rcF n tx (szN n tx 1 * szN n tx 2) 0 3 (newG (szN n tx 1) (szN n tx 2)) := (if_pos h71).trans ((if_pos hq1).trans ((if_pos hq2).trans (if_neg (fun q => by rw [hb] at q; cases q))))
          exact hQ h3 D3 e3 (fun q => by rw [hg1, hb] at q; cases q) ((f1.trans fr_2).trans f3) _ (by rw [hg1, hb]; rfl)
        · have hg1 : gdF n tx = rpF n tx 10 (rcF n tx (szN n tx 1 * szN n tx 2) 0 3 (newG (szN n tx 1) (szN n tx 2))).2.1 (rcF n tx (szN n tx 1 * szN n tx 2) 0 3 (newG (szN n tx 1) (szN n tx 2))).2.2 := (if_pos h71).trans ((if_pos hq1).trans ((if_pos hq2).trans (if_pos hb)))
          obtain ⟨S3, y9m0, -⟩ := id hZ3
          refine R_aload_n rfl rfl ?_
          refine R_iload_n rfl rfl ?_
          refine R_vcall rfl rfl ⟨(by omega), _, y9m0⟩ ⟨Nat.le_of_ble_eq_true rfl, Nat.le_of_ble_eq_true rfl, Nat.zero_le _, Nat.zero_le _⟩ (mReadParts_T hN rfl hk1.2 hk1.1 ((rc_W _ _ _ _).1) ((rc_W _ _ _ _).2) hZ3 hT3 e3 hD3 (fun h4 D4 e4 hD4 f4 z254 hz254 => aRes_i (rest := []) ?_))
          exact R_ireturn rfl (fun q => absurd q (by decide)) (Nat.zero_le _) (Nat.zero_le _) (hQ h4 D4 e4 (fun q => by rw [hg1] at q ⊢; exact hD4 q) (((f1.trans fr_2).trans f3).trans f4) _ (by rw [hz254, hg1]))
      · have hg0 : gdF n tx = (false, 2, newG 3 3) := (if_pos h71).trans ((if_pos hq1).trans (if_neg (fun q => by have := szO_t.mp q; omega)))
        refine R_iconst rfl ?_
        exact R_ireturn rfl (fun q => absurd q (by decide)) (Nat.zero_le _) (Nat.zero_le _) (hQ h1 D1 x9m4 (fun q => by rw [hg0] at q; cases q) f1 _ (by rw [hg0]; rfl))
    · have hg0 : gdF n tx = (false, 1, newG 3 3) := (if_pos h71).trans (if_neg (fun q => by have := szO_t.mp q; omega))
      refine R_iconst rfl ?_
      exact R_ireturn rfl (fun q => absurd q (by decide)) (Nat.zero_le _) (Nat.zero_le _) (hQ h1 D1 x9m4 (fun q => by rw [hg0] at q; cases q) f1 _ (by rw [hg0]; rfl))
  · have hg0 : gdF n tx = (false, 0, newG 3 3) := if_neg (by omega)
    refine R_iconst rfl ?_
    exact R_ireturn rfl (fun q => absurd q (by decide)) (Nat.zero_le _) (Nat.zero_le _) (hQ h1 D1 x9m4 (fun q => by rw [hg0] at q; cases q) f1 _ (by rw [hg0]; rfl))
theorem isMo_dr {h h' : AH} {y : Sy} {th : Int} {D : Nat → Int} (hY : isMo h y th) (e : h' 125 = eI 174 D) (hf : fr h h' 125 1) : isMo h' y th := by
  obtain ⟨hM, hG, hT, hHi, hSv, ⟨-, ⟨b, hb⟩, hc, ⟨c, hd⟩, f, hf2⟩⟩ := hY
  exact ⟨isMg_fr hM (fun j hj => hf j (by omega)), hG, isMt_fr hT (hf _ (by omega)), isHi_fr hHi (hf _ (by omega)), isSv_fr hSv (hf _ (by omega)) (hf _ (by omega)), ⟨D, e⟩, ⟨b, (hf _ (by omega)).trans hb⟩, isRe_fr hc (hf _ (by omega)), ⟨c, (hf _ (by omega)).trans hd⟩, f, (hf _ (by omega)).trans hf2⟩
theorem mErrorPosition_T {d N : Nat} {h : AH} {th : Int} {Q : AQ} {G : Gr} {hist : List Gr} {sl : Nat → Option Gr} {n : Nat} {tx : Nat → Int} (hY : isMo h (G, hist, sl, n, tx) th) (hN : 139 ≤ N) (hQ : moQ (opErr (G, hist, sl, n, tx)) h N Q) : T (d + 5) 135 [vR 122] h N Q := by
  obtain ⟨hM, hG, hT, hHi, hSv, hRw⟩ := id hY
  have hM : isMg h G th n hist.length := hM
  have hG : okG G := hG
  have hT : isMt h n tx := hT
  have hHi : isHi h hist := hHi
  have hSv : isSv h sl := hSv
  obtain ⟨F, D, L, A, W, C, hZ, m11, m12, m13, m14, m15, m16, hE, hA, hW, hC⟩ := id hM
  obtain ⟨S, m0, m3, hR⟩ := id hZ
  obtain ⟨hr0, hr1, rL, rE, rS, hr110, rWn, rWl, hr167, rNl⟩ := id hR
  have r0 : S (0 : Int).toNat = (qR G : Int) := hr0
  have r1 : S (1 : Int).toNat = (qC G : Int) := hr1
  have r110 : S (110 : Int).toNat = (qW G : Int) := hr110
  have r167 : S (167 : Int).toNat = (qN G : Int) := hr167
  obtain ⟨hm4, hm36⟩ := hG.m
  have hmi := qM_int G
  obtain ⟨⟨hr2, hr6⟩, ⟨hc2, hc6⟩, gL, gB, gW, gWn, gWl, gN, gNl⟩ := id hG
  have hn36 := nE36 hG
  obtain ⟨tf, m1, hn150, htf⟩ := id hT
  refine T_body (I := mi_X9_errorPosition) (lv := [_]) rfl (Nat.le_of_ble_eq_true rfl) rfl ?_
  refine R_aload_n rfl rfl ?_
  refine R_iconst rfl ?_
  refine R_putfield rfl rfl (by omega) m0 (Nat.le_of_ble_eq_true rfl) (by first | trivial | exact trivial | omega) ?_
  refine R_aload_n rfl rfl ?_
  refine R_vcall rfl rfl ⟨(by omega), _, (va_up_self _ _ _)⟩ ⟨Nat.le_of_ble_eq_true rfl, Nat.le_of_ble_eq_true rfl, Nat.zero_le _, Nat.zero_le _⟩ (mReadText_T hN (isMo_th (th' := 0) hY).1.z (isMo_th (th' := 0) hY).2.2.1 (isMo_th (th' := 0) hY).2.2.2.2.2.1 (fun h2 D2 e2 hD2 f2 z6 hz6 => aRes_i (rest := []) ?_))
  exact R_ireturn rfl (fun q => absurd q (by decide)) (Nat.zero_le _) (Nat.zero_le _) (moQ_v hQ rfl (isMo_dr (isMo_th hY) e2 f2) ((fr_up fr.refl (by omega)).trans (f2.wide (by omega))) hz6)
theorem rb_le {n : Nat} {tx : Nat → Int} {p : Nat} {G : Gr} {c : Nat} {b : Bool} {s : Int} : (rbF n tx p G c b s).1 ≤ p + 1 := by
  unfold rbF
  by_cases q : qPb G c b = true ∧ sg n tx p = s
  · rw [if_pos q]
    exact Nat.le_refl _
  · rw [if_neg q]
    exact Nat.le_succ p
theorem rc_le {n : Nat} {tx : Nat → Int} : ∀ r c p G, (rcF n tx r c p G).2.1 ≤ p + 3 * r
  | 0, _, _, _ => Nat.le_refl _
  | r + 1, c, p, G => by
    by_cases q : sg n tx p = 46 ∨ isLb (sg n tx p) = true
    · rw [rc_S q]
      have h1 := rc_le (n := n) (tx := tx) r (c + 1) (rbF n tx (rbF n tx (p + 1) (setL G c (if sg n tx p = 46 then 0 else sg n tx p)) c false 124).1 (rbF n tx (p + 1) (setL G c (if sg n tx p = 46 then 0 else sg n tx p)) c false 124).2 c true 95).1 (rbF n tx (rbF n tx (p + 1) (setL G c (if sg n tx p = 46 then 0 else sg n tx p)) c false 124).1 (rbF n tx (p + 1) (setL G c (if sg n tx p = 46 then 0 else sg n tx p)) c false 124).2 c true 95).2
      have h2 := rb_le (n := n) (tx := tx) (p := (rbF n tx (p + 1) (setL G c (if sg n tx p = 46 then 0 else sg n tx p)) c false 124).1) (G := (rbF n tx (p + 1) (setL G c (if sg n tx p = 46 then 0 else sg n tx p)) c false 124).2) (c := c) (b := true) (s := 95)
      have h3 := rb_le (n := n) (tx := tx) (p := p + 1) (G := setL G c (if sg n tx p = 46 then 0 else sg n tx p)) (c := c) (b := false) (s := 124)
      omega
    · rw [rc_N q]
      show p ≤ p + 3 * (r + 1)
      omega
theorem rwF_le {n : Nat} {tx : Nat → Int} : ∀ r p G c, (rwF n tx r p G c).2.1 ≤ p + r
  | 0, _, _, _ => Nat.le_refl _
  | r + 1, p, G, c => by
    simp only [rwF]
    by_cases q : isLb (sg n tx p) = true
    · rw [if_pos q]
      have := rwF_le (n := n) (tx := tx) r (p + 1) (lenW G (sg n tx p)) (c + 1)
      omega
    · rw [if_neg q]
      show p ≤ p + (r + 1)
      omega
theorem rlF_le {n : Nat} {tx : Nat → Int} : ∀ r p G c, (rlF n tx r p G c).2.1 ≤ p + r
  | 0, _, _, _ => Nat.le_refl _
  | r + 1, p, G, c => by
    simp only [rlF]
    by_cases q : isLb (sg n tx p) = true
    · rw [if_pos q]
      have := rlF_le (n := n) (tx := tx) r (p + 1) (lenN G (sg n tx p)) (c + 1)
      omega
    · rw [if_neg q]
      show p ≤ p + (r + 1)
      omega
theorem rp_le {n : Nat} {tx : Nat → Int} : ∀ f p G, (rpF n tx f p G).2.1 ≤ p + 7 * f
  | 0, _, _ => Nat.le_refl _
  | f + 1, p, G => by
    simp only [rpF]
    have h1 := rwF_le (n := n) (tx := tx) 6 (p + 1) (begW G) 0
    have h2 := rlF_le (n := n) (tx := tx) 6 (p + 1) G 0
    have h3 := rp_le (n := n) (tx := tx) f (rwF n tx 6 (p + 1) (begW G) 0).2.1 (rwF n tx 6 (p + 1) (begW G) 0).2.2
    have h4 := rp_le (n := n) (tx := tx) f (rlF n tx 6 (p + 1) G 0).2.1 (rlF n tx 6 (p + 1) G 0).2.2
    split
    · show p ≤ _
      omega
    · split
      · split
        · omega
        · show (rwF n tx 6 (p + 1) (begW G) 0).2.1 ≤ _
          omega
      · split
        · split
          · omega
          · show (rlF n tx 6 (p + 1) G 0).2.1 ≤ _
            omega
        · show p ≤ _
          omega
theorem gd_le (n : Nat) (tx : Nat → Int) (_hn : n ≤ 150) : (gdF n tx).2.1 ≤ 200 := by
  unfold gdF
  split
  · split
    · rename_i q1
      split
      · rename_i q2
        have h1 := (sz_n q1).1
        have h2 := (sz_n q2).1
        have hm : szN n tx 1 * szN n tx 2 ≤ 36 := Nat.le_trans (Nat.mul_le_mul h1.2 h2.2) (by decide)
        have h3 := rc_le (n := n) (tx := tx) (szN n tx 1 * szN n tx 2) 0 3 (newG (szN n tx 1) (szN n tx 2))
        split
        · have h4 := rp_le (n := n) (tx := tx) 10 (rcF n tx (szN n tx 1 * szN n tx 2) 0 3 (newG (szN n tx 1) (szN n tx 2))).2.1 (rcF n tx (szN n tx 1 * szN n tx 2) 0 3 (newG (szN n tx 1) (szN n tx 2))).2.2
          omega
        · omega
      · show 2 ≤ 200
        decide
    · show 1 ≤ 200
      decide
  · show 0 ≤ 200
    decide
theorem isMa_b {h : AH} {G : Gr} {th tl rm : Int} {v : AE} (hA : isMa h G th tl rm) : isMa (va_up h 129 v) G th tl rm := by
  obtain ⟨E, F, D, L, A, W, C, hZ, m11, m12, m13, m14, m15, m16⟩ := hA
  exact ⟨E, F, D, L, A, W, C, isM0_fr hZ (va_up_ne _ _ (by decide)) (va_up_ne _ _ (by decide)), (va_up_ne _ _ (by decide)).trans m11, (va_up_ne _ _ (by decide)).trans m12, (va_up_ne _ _ (by decide)).trans m13, (va_up_ne _ _ (by decide)).trans m14, (va_up_ne _ _ (by decide)).trans m15, (va_up_ne _ _ (by decide)).trans m16⟩
theorem mLoad_T {d N : Nat} {h : AH} {th : Int} {Q : AQ} {G : Gr} {hist : List Gr} {sl : Nat → Option Gr} {n : Nat} {tx : Nat → Int} (hY : isMo h (G, hist, sl, n, tx) th) (hN : 139 ≤ N) (hQ : moQ (opLoad (G, hist, sl, n, tx)) h N Q) : T (d + 5) 136 [vR 122] h N Q := by
  obtain ⟨hM, hG, hT, hHi, hSv, hRw⟩ := id hY
  have hM : isMg h G th n hist.length := hM
  have hG : okG G := hG
  have hT : isMt h n tx := hT
  have hHi : isHi h hist := hHi
  have hSv : isSv h sl := hSv
  obtain ⟨F, D, L, A, W, C, hZ, m11, m12, m13, m14, m15, m16, hE, hA, hW, hC⟩ := id hM
  obtain ⟨S, m0, m3, hR⟩ := id hZ
  obtain ⟨hr0, hr1, rL, rE, rS, hr110, rWn, rWl, hr167, rNl⟩ := id hR
  have r0 : S (0 : Int).toNat = (qR G : Int) := hr0
  have r1 : S (1 : Int).toNat = (qC G : Int) := hr1
  have r110 : S (110 : Int).toNat = (qW G : Int) := hr110
  have r167 : S (167 : Int).toNat = (qN G : Int) := hr167
  obtain ⟨hm4, hm36⟩ := hG.m
  have hmi := qM_int G
  obtain ⟨⟨hr2, hr6⟩, ⟨hc2, hc6⟩, gL, gB, gW, gWn, gWl, gN, gNl⟩ := id hG
  have hn36 := nE36 hG
  obtain ⟨tf, m1, hn150, htf⟩ := id hT
  refine T_body (I := mi_X9_load) (lv := [_]) rfl (Nat.le_of_ble_eq_true rfl) rfl ?_
  refine R_aload_n rfl rfl ?_
  refine R_aload_n rfl rfl ?_
  refine R_vcall rfl rfl ⟨(by omega), _, m0⟩ ⟨Nat.le_of_ble_eq_true rfl, Nat.le_of_ble_eq_true rfl, Nat.zero_le _, Nat.zero_le _⟩ (mReadText_T hN hZ hT hRw.1 (fun h2 D2 e2 hD2 f2 z2 hz2 => aRes_i (rest := [_]) ?_))
  have hzr : -9 ≤ z2 ∧ z2 ≤ 200 := by
    rw [hz2]
    split
    · omega
    · have := gd_le n tx hn150
      omega
  have hY2 := isMo_dr hY e2 f2
  have hM2 := hY2.1
  obtain ⟨x9S, x9m0, x9m3, x9R⟩ := hM2.z
  obtain ⟨X9, U9, x9m8, x9m9, -⟩ := id hY2.2.2.2.2.1
  refine R_bipush rfl ?_
  refine R_icmpne rfl ⟨by omega, by omega⟩ ⟨by decide, by decide⟩ (fun c7 => ?_) (fun c7 => ?_)
  · have hgf : ¬ (gdF n tx).1 = true := fun q => by
      rw [if_pos q] at hz2
      exact c7 hz2
    have ho : opLoad (G, hist, sl, n, tx) = (0 + 1, 0, (G, hist, sl, n, tx)) := if_neg hgf
    refine R_iconst rfl ?_
    refine R_putfield rfl rfl (by omega) x9m0 (Nat.le_of_ble_eq_true rfl) (by first | trivial | exact trivial | omega) ?_
    refine R_aload_n rfl rfl ?_
    refine R_getfield rfl rfl (by omega) (va_up_self _ _ _) rfl ?_
    refine R_ifle rfl ⟨by decide, by decide⟩ (fun c0 => absurd c0 (by decide)) (fun _ => ?_)
    refine R_iconst rfl ?_
    exact R_ireturn rfl (fun q => absurd q (by decide)) (Nat.zero_le _) (Nat.zero_le _) (moQ_t hQ ho rfl (isMo_th hY2) (fr_up (f2.wide (by omega)) (by omega)))
  · have hgt : (gdF n tx).1 = true := by
      cases q : (gdF n tx).1 with
      | true => rfl
      | false =>
        rw [q] at hz2
        have hz2 : z2 = ((gdF n tx).2.1 : Int) := hz2
        omega
    have hGd := gd_ok hgt
    have ho : opLoad (G, hist, sl, n, tx) = (0, ((qM (gdF n tx).2.2 : Nat) : Int), ((gdF n tx).2.2, [], fun _ => none, n, tx)) := if_pos hgt
    refine R_iconst rfl ?_
    refine R_goto rfl ?_
    refine R_putfield rfl rfl (by omega) x9m0 (Nat.le_of_ble_eq_true rfl) (by first | trivial | exact trivial | omega) ?_
    refine R_aload_n rfl rfl ?_
    refine R_getfield rfl rfl (by omega) (va_up_self _ _ _) rfl ?_
    refine R_ifle rfl ⟨by decide, by decide⟩ (fun _ => ?_) (fun c0 => absurd c0 (by decide))
    refine R_aload_n rfl rfl ?_
    refine R_getfield rfl rfl (by omega) (va_up_self _ _ _) rfl ?_
    refine R_iconst rfl ?_
    refine R_aload_n rfl rfl ?_
    refine R_getfield rfl rfl (by omega) (va_up_self _ _ _) rfl ?_
    refine R_iconst rfl ?_
    refine R_scall rfl rfl ⟨Nat.le_of_ble_eq_true rfl, Nat.le_of_ble_eq_true rfl, Nat.zero_le _, Nat.zero_le _⟩ (mMove_T (s := 0) (t := 0) (by omega) (by omega) (by decide) (by decide) (by decide) (by decide) (by decide) ((va_up_ne _ _ (by first | exact kne rfl | exact kz | exact kz.symm | omega)).trans e2) ((va_up_ne _ _ (by first | exact kne rfl | exact kz | exact kz.symm | omega)).trans x9m3) rfl rfl (fun h3 g3 e3 w1 w2 f3 => aRes_v (rest := []) ?_))
    refine R_aload_n rfl rfl ?_
    refine R_iconst rfl ?_
    refine R_putfield rfl rfl (by omega) ((f3 _ (by omega)).trans (va_up_self _ _ _)) (Nat.le_of_ble_eq_true rfl) (by first | trivial | exact trivial | omega) ?_
    refine R_aload_n rfl rfl ?_
    refine R_getfield rfl rfl (by omega) (va_up_self _ _ _) rfl ?_
    refine R_iconst rfl ?_
    refine R_iconst rfl ?_
    refine R_iastore rfl (by omega) ((va_up_ne _ _ (by first | exact kne rfl | exact kz | exact kz.symm | omega)).trans ((f3 _ (by omega)).trans ((va_up_ne _ _ (by first | exact kne rfl | exact kz | exact kz.symm | omega)).trans x9m9))) ⟨by omega, by omega, by omega⟩ ?_
    refine R_aload_n rfl rfl ?_
    refine R_getfield rfl rfl (by omega) ((va_up_ne _ _ (by first | exact kne rfl | exact kz | exact kz.symm | omega)).trans (va_up_self _ _ _)) rfl ?_
    refine R_iconst rfl ?_
    refine R_iconst rfl ?_
    refine R_iastore rfl (by omega) (va_up_self _ _ _) ⟨by omega, by omega, by omega⟩ ?_
    refine R_aload_n rfl rfl ?_
    refine R_vcall rfl rfl ⟨(by omega), _, ((va_up_ne _ _ (by first | exact kne rfl | exact kz | exact kz.symm | omega)).trans ((va_up_ne _ _ (by first | exact kne rfl | exact kz | exact kz.symm | omega)).trans (va_up_self _ _ _)))⟩ ⟨Nat.le_of_ble_eq_true rfl, Nat.le_of_ble_eq_true rfl, Nat.zero_le _, Nat.zero_le _⟩ (mFindEntries_T (isMa_b (isMa_b (isMa_o (th' := 0) (tl' := n) (rm' := 0) (E' := nE G) (isMa_st (isMg_o (th' := 0) (tl' := n) (rm' := hist.length) hM2).a e3 (rw_congr (hD2 hgt) hGd (fun k2 hk2 => (congrArg g3 (Nat.zero_add k2).symm).trans ((w1 k2 hk2).trans (congrArg D2 (Nat.zero_add k2))))) (fun j hj => f3 j (by omega))) (va_up_self _ _ _) (fun j hj => va_up_ne _ _ hj)))) hGd hN (fun h4 hM4 f4 => aRes_v (rest := []) ?_))
    obtain ⟨S4, k9m0, k9m3, hR4⟩ := hM4.z
    refine R_aload_n rfl rfl ?_
    refine R_vcall rfl rfl ⟨(by omega), _, k9m0⟩ ⟨Nat.le_of_ble_eq_true rfl, Nat.le_of_ble_eq_true rfl, Nat.zero_le _, Nat.zero_le _⟩ (mSize_T hM4.z hGd hN (fun z64 hz64 => aRes_i (rest := []) ?_))
    exact R_ireturn rfl (fun q => absurd q (by decide)) (Nat.zero_le _) (Nat.zero_le _) (moQ_v hQ ho ⟨hM4, hGd, isMt_fr hT ((f4 _ (by omega)).trans ((va_up_ne _ _ (by omega)).trans ((va_up_ne _ _ (by omega)).trans ((va_up_ne _ _ (by omega)).trans ((f3 _ (by omega)).trans ((va_up_ne _ _ (by omega)).trans (f2 _ (by omega)))))))), by
    obtain ⟨H, e9, -⟩ := hHi
    exact ⟨H, ((f4 _ (by omega)).trans ((va_up_ne _ _ (by omega)).trans ((va_up_ne _ _ (by omega)).trans ((va_up_ne _ _ (by omega)).trans ((f3 _ (by omega)).trans ((va_up_ne _ _ (by omega)).trans (f2 _ (by omega)))))))).trans e9, Nat.zero_le _, fun j G9 hj => by rw [show ([] : List Gr)[j]? = none from List.getElem?_nil] at hj; cases hj⟩, by
    obtain ⟨X, U, e8, e9, -⟩ := hSv
    exact ⟨X, _, ((f4 _ (by omega)).trans ((va_up_ne _ _ (by omega)).trans ((va_up_ne _ _ (by omega)).trans ((va_up_ne _ _ (by omega)).trans ((f3 _ (by omega)).trans ((va_up_ne _ _ (by omega)).trans (f2 _ (by omega)))))))).trans e8, (f4 _ (by omega)).trans (va_up_self _ _ _), fun i hi => Or.inl ⟨rfl, by
      rcases (show i = 0 ∨ i = 1 by omega) with q | q
      · rw [q]
        exact (va_up_ne _ _ (by decide)).trans (va_up_self _ _ _)
      · rw [q]
        exact va_up_self _ _ _⟩⟩, isRows_fr (isMo_dr hY e2 f2).2.2.2.2.2 (fun j hj => (f4 j (by omega)).trans ((va_up_ne _ _ (by omega)).trans ((va_up_ne _ _ (by omega)).trans ((va_up_ne _ _ (by omega)).trans ((f3 j (by omega)).trans (va_up_ne _ _ (by omega)))))))⟩ (fun j hj => ((f4 j (by omega)).trans ((va_up_ne _ _ (by omega)).trans ((va_up_ne _ _ (by omega)).trans ((va_up_ne _ _ (by omega)).trans ((f3 j (by omega)).trans ((va_up_ne _ _ (by omega)).trans (f2 j (by omega))))))))) hz64)
