/-! ===== the model: reading the text ===== -/
theorem isMt_f {h h' : AH} {n : Nat} {tx : Nat → Int} {a m : Nat} (hT : isMt h n tx) (hf : fr h h' a m) (ha : 124 ≤ a) : isMt h' n tx := isMt_fr hT (hf _ (by omega))
theorem rc_S {n : Nat} {tx : Nat → Int} {r c p : Nat} {G : Gr} (h : sg n tx p = 46 ∨ isLb (sg n tx p) = true) : rcF n tx (r + 1) c p G = rcF n tx r (c + 1) (rbF n tx (rbF n tx (p + 1) (setL G c (if sg n tx p = 46 then 0 else sg n tx p)) c false 124).1 (rbF n tx (p + 1) (setL G c (if sg n tx p = 46 then 0 else sg n tx p)) c false 124).2 c true 95).1 (rbF n tx (rbF n tx (p + 1) (setL G c (if sg n tx p = 46 then 0 else sg n tx p)) c false 124).1 (rbF n tx (p + 1) (setL G c (if sg n tx p = 46 then 0 else sg n tx p)) c false 124).2 c true 95).2 := if_pos h
theorem rc_N {n : Nat} {tx : Nat → Int} {r c p : Nat} {G : Gr} (h : ¬ (sg n tx p = 46 ∨ isLb (sg n tx p) = true)) : rcF n tx (r + 1) c p G = (false, p, G) := if_neg h
theorem rw_new {D : Nat → Int} {r c : Nat} (h0 : D 0 = r) (h1 : D 1 = c) (h : ∀ j, 2 ≤ j → j < 174 → D j = 0) (hm : r * c ≤ 36) : rwG D (newG r c) := by
  refine ⟨h0, h1, fun j hj => ?_, fun j hj => ?_, fun j hj => ?_, h _ (by omega) (by omega), fun w hw => absurd hw (Nat.not_lt_zero _), fun w i hw _ => absurd hw (Nat.not_lt_zero _), h _ (by omega) (by omega), fun i hi => absurd hi (Nat.not_lt_zero _)⟩ <;> (have hj : j < r * c := hj; exact h _ (by omega) (by omega))
theorem sz_n {n : Nat} {tx : Nat → Int} {i : Nat} (h : szO n tx i = true) : (2 ≤ szN n tx i ∧ szN n tx i ≤ 6) ∧ ((szN n tx i : Nat) : Int) = sg n tx i - 48 := by
  have := szO_t.mp h
  unfold szN
  omega
theorem mrt_z {d N n : Nat} {G : Gr} {th rm en : Int} {tx : Nat → Int} {Q : AQ} (hN : 139 ≤ N) {l : Option AV} : ∀ (r i : Nat) (h : AH) (D : Nat → Int) (zi : Int), i + r = 174 → zi = i → isM0 h G th n rm en → isMt h n tx → h 125 = eI 174 D → (∀ j, j < i → D j = 0) → (∀ h' D' z', isM0 h' G th n rm en → isMt h' n tx → h' 125 = eI 174 D' → (∀ j, j < 174 → D' j = 0) → fr h h' 125 1 → Run mi_X9_readText (T (d + 3)) Q 22 [some (vR 122), some (vI z'), l] [] h' N 0 0) → Run mi_X9_readText (T (d + 3)) Q 2 [some (vR 122), some (vI zi), l] [] h N 0 0 := by
  intro r
  induction r using Nat.strongRecOn with
  | ind r ih =>
  intro i h D zi hr hzi hZ hT m4 v1 kc
  obtain ⟨S, m0, m3, hR⟩ := id hZ
  obtain ⟨f, m1, hn150, hf⟩ := id hT
  refine R_iload_n rfl rfl ?_
  refine R_sipush rfl ?_
  refine R_icmpge rfl ⟨by omega, by omega⟩ ⟨by decide, by decide⟩ (fun c6 => ?_) (fun c6 => ?_)
  · have hr0 : r = 0 := by omega
    subst hr0
    exact kc h D _ hZ hT m4 (fun j hj => v1 j (by omega)) fr.refl
  · obtain ⟨r, rfl⟩ : ∃ r1, r = r1 + 1 := ⟨r - 1, by omega⟩
    refine R_aload_n rfl rfl ?_
    refine R_getfield rfl rfl (by omega) m0 rfl ?_
    refine R_iload_n rfl rfl ?_
    refine R_iconst rfl ?_
    refine R_iastore rfl (by omega) m4 ⟨by omega, by omega, by omega⟩ ?_
    refine R_iinc (lv' := [_, _, _]) rfl rfl rfl ?_
    refine R_goto rfl ?_
    exact ih r (by omega) (i + 1) _ _ _ (by omega) (by omega) (isM0_f hZ fr_0 (by decide)) (isMt_f hT fr_0 (by decide)) (va_up_self _ _ _) (fun j hj => by
      by_cases q : j = zi.toNat
      · rw [q]
        exact va_up_self _ _ _
      · exact (va_up_ne _ _ q).trans (v1 j (by omega))) (fun h1 D1 z1 q1 q2 q3 q4 q5 => kc h1 D1 z1 q1 q2 q3 q4 (fr_0.trans q5))
theorem mrt_r {d N n : Nat} {G : Gr} {th rm en : Int} {tx : Nat → Int} {Q : AQ} (hN : 139 ≤ N) {c p : Nat} {zp : Int} {Gd : Gr} (hGd : okG Gd) (hc : c < qM Gd) (hzp : zp = p) (hp : p ≤ n) {h : AH} {D : Nat → Int} (hZ : isM0 h G th n rm en) (hT : isMt h n tx) (m4 : h 125 = eI 174 D) (hD : rwG D Gd) (kc : ∀ h' D', isM0 h' G th n rm en → isMt h' n tx → h' 125 = eI 174 D' → rwG D' (rbF n tx p Gd c false 124).2 → fr h h' 125 1 → Run mi_X9_readText (T (d + 3)) Q 204 [some (vR 122), some (vI ((rbF n tx p Gd c false 124).1 : Nat)), some (vI c)] [] h' N 0 0) : Run mi_X9_readText (T (d + 3)) Q 162 [some (vR 122), some (vI zp), some (vI c)] [] h N 0 0 := by
  obtain ⟨S, m0, m3, hR⟩ := id hZ
  obtain ⟨f, m1, hn150, hf⟩ := id hT
  obtain ⟨a0, a1, aL, aE, aS, a2, aW, aT, a3, aN⟩ := id hD
  have d0 : D (0 : Int).toNat = (qR Gd : Int) := a0
  have d1 : D (1 : Int).toNat = (qC Gd : Int) := a1
  have d110 : D (110 : Int).toNat = (qW Gd : Int) := a2
  have d167 : D (167 : Int).toNat = (qN Gd : Int) := a3
  obtain ⟨hm4, hm36⟩ := hGd.m
  have hmi := qM_int Gd
  obtain ⟨⟨hr2, hr6⟩, ⟨hc2, hc6⟩, gL, gB, gW, gWn, gWl, gN, gNl⟩ := id hGd
  have hmd : (c : Int) % (qC Gd : Int) = ((c % qC Gd : Nat) : Int) := rfl
  have hml := Nat.mod_lt c (show 0 < qC Gd by omega)
  refine R_aload_n rfl rfl ?_
  refine R_iload_n rfl rfl ?_
  refine R_vcall rfl rfl ⟨(by omega), _, m0⟩ ⟨Nat.le_of_ble_eq_true rfl, Nat.le_of_ble_eq_true rfl, Nat.zero_le _, Nat.zero_le _⟩ (mChar_T (i := p) hZ hT hN (by omega) (by omega) (fun z164 hz164 => aRes_i (rest := []) ?_))
  have hs164 := sg_m hT (p)
  rw [← hz164] at hs164
  refine R_bipush rfl ?_
  refine R_icmpne rfl ⟨by omega, by omega⟩ ⟨by decide, by decide⟩ (fun c169 => ?_) (fun c169 => ?_)
  · have hb9 : rbF n tx p Gd c false 124 = (p, Gd) := if_neg (fun k => by have := k.2; omega)
    rw [hb9] at kc
    rw [hzp]
    exact kc h D hZ hT m4 hD fr.refl
  · refine R_iload_n rfl rfl ?_
    refine R_aload_n rfl rfl ?_
    refine R_getfield rfl rfl (by omega) m0 rfl ?_
    refine R_iconst rfl ?_
    refine R_iaload rfl (Or.inl (by omega)) m4 ⟨by omega, by omega, by omega⟩ ?_
    rw [d1]
    refine R_irem rfl ⟨by omega, by omega, by omega, by omega⟩ ?_
    rw [hmd]
    refine R_aload_n rfl rfl ?_
    refine R_getfield rfl rfl (by omega) m0 rfl ?_
    refine R_iconst rfl ?_
    refine R_iaload rfl (Or.inl (by omega)) m4 ⟨by omega, by omega, by omega⟩ ?_
    refine R_iconst rfl ?_
    rw [d1]
    refine R_isub rfl ?_
    refine R_icmpge rfl ⟨by omega, by omega⟩ ⟨by omega, by omega⟩ (fun c188 => ?_) (fun c188 => ?_)
    · have hb9 : rbF n tx p Gd c false 124 = (p, Gd) := if_neg (fun k => by
        have k1 := k.1
        rw [qPb_f hGd hc, decide_eq_true (show c % qC Gd = qC Gd - 1 by omega)] at k1
        cases k1)
      rw [hb9] at kc
      rw [hzp]
      exact kc h D hZ hT m4 hD fr.refl
    · have hb9 : rbF n tx p Gd c false 124 = (p + 1, setBr Gd c false true) := if_pos ⟨by
        rw [qPb_f hGd hc, decide_eq_false (show ¬ c % qC Gd = qC Gd - 1 by omega)]
        rfl, by omega⟩
      refine R_aload_n rfl rfl ?_
      refine R_getfield rfl rfl (by omega) m0 rfl ?_
      refine R_bipush rfl ?_
      refine R_iload_n rfl rfl ?_
      refine R_iadd rfl ?_
      refine R_iconst rfl ?_
      refine R_iastore rfl (by omega) m4 ⟨by omega, by omega, by omega⟩ ?_
      refine R_iinc (lv' := [_, _, _]) rfl rfl rfl ?_
      rw [hb9] at kc
      rw [show zp + 1 = ((p + 1 : Nat) : Int) by omega]
      exact kc _ _ (isM0_f hZ fr_0 (by decide)) (isMt_f hT fr_0 (by decide)) (va_up_self _ _ _) (by
        rw [show (38 + (c : Int)).toNat = 38 + c by omega]
        exact rw_barE (v := true) hD hm36 hc) fr_0
theorem mrt_d {d N n : Nat} {G : Gr} {th rm en : Int} {tx : Nat → Int} {Q : AQ} (hN : 139 ≤ N) {c p : Nat} {zp : Int} {Gd : Gr} (hGd : okG Gd) (hc : c < qM Gd) (hzp : zp = p) (hp : p ≤ n) {h : AH} {D : Nat → Int} (hZ : isM0 h G th n rm en) (hT : isMt h n tx) (m4 : h 125 = eI 174 D) (hD : rwG D Gd) (kc : ∀ h' D', isM0 h' G th n rm en → isMt h' n tx → h' 125 = eI 174 D' → rwG D' (rbF n tx p Gd c true 95).2 → fr h h' 125 1 → Run mi_X9_readText (T (d + 3)) Q 246 [some (vR 122), some (vI ((rbF n tx p Gd c true 95).1 : Nat)), some (vI c)] [] h' N 0 0) : Run mi_X9_readText (T (d + 3)) Q 204 [some (vR 122), some (vI zp), some (vI c)] [] h N 0 0 := by
  obtain ⟨S, m0, m3, hR⟩ := id hZ
  obtain ⟨f, m1, hn150, hf⟩ := id hT
  obtain ⟨a0, a1, aL, aE, aS, a2, aW, aT, a3, aN⟩ := id hD
  have d0 : D (0 : Int).toNat = (qR Gd : Int) := a0
  have d1 : D (1 : Int).toNat = (qC Gd : Int) := a1
  have d110 : D (110 : Int).toNat = (qW Gd : Int) := a2
  have d167 : D (167 : Int).toNat = (qN Gd : Int) := a3
  obtain ⟨hm4, hm36⟩ := hGd.m
  have hmi := qM_int Gd
  obtain ⟨⟨hr2, hr6⟩, ⟨hc2, hc6⟩, gL, gB, gW, gWn, gWl, gN, gNl⟩ := id hGd
  have hmd : (c : Int) / (qC Gd : Int) = ((c / qC Gd : Nat) : Int) := rfl
  have hml : c / qC Gd < qR Gd := (Nat.div_lt_iff_lt_mul (show 0 < qC Gd by omega)).mpr hc
  have hm0 : (0 : Int) ≤ ((c / qC Gd : Nat) : Int) := Int.natCast_nonneg _
  refine R_aload_n rfl rfl ?_
  refine R_iload_n rfl rfl ?_
  refine R_vcall rfl rfl ⟨(by omega), _, m0⟩ ⟨Nat.le_of_ble_eq_true rfl, Nat.le_of_ble_eq_true rfl, Nat.zero_le _, Nat.zero_le _⟩ (mChar_T (i := p) hZ hT hN (by omega) (by omega) (fun z206 hz206 => aRes_i (rest := []) ?_))
  have hs206 := sg_m hT (p)
  rw [← hz206] at hs206
  refine R_bipush rfl ?_
  refine R_icmpne rfl ⟨by omega, by omega⟩ ⟨by decide, by decide⟩ (fun c211 => ?_) (fun c211 => ?_)
  · have hb9 : rbF n tx p Gd c true 95 = (p, Gd) := if_neg (fun k => by have := k.2; omega)
    rw [hb9] at kc
    rw [hzp]
    exact kc h D hZ hT m4 hD fr.refl
  · refine R_iload_n rfl rfl ?_
    refine R_aload_n rfl rfl ?_
    refine R_getfield rfl rfl (by omega) m0 rfl ?_
    refine R_iconst rfl ?_
    refine R_iaload rfl (Or.inl (by omega)) m4 ⟨by omega, by omega, by omega⟩ ?_
    rw [d1]
    refine R_idiv rfl ⟨by omega, by omega, by omega, by omega⟩ ?_
    rw [hmd]
    refine R_aload_n rfl rfl ?_
    refine R_getfield rfl rfl (by omega) m0 rfl ?_
    refine R_iconst rfl ?_
    refine R_iaload rfl (Or.inl (by omega)) m4 ⟨by omega, by omega, by omega⟩ ?_
    refine R_iconst rfl ?_
    rw [d0]
    refine R_isub rfl ?_
    refine R_icmpge rfl ⟨by omega, by omega⟩ ⟨by omega, by omega⟩ (fun c230 => ?_) (fun c230 => ?_)
    · have hb9 : rbF n tx p Gd c true 95 = (p, Gd) := if_neg (fun k => by
        have k1 := k.1
        rw [qPb_t hGd hc, decide_eq_true (show c / qC Gd = qR Gd - 1 by omega)] at k1
        cases k1)
      rw [hb9] at kc
      rw [hzp]
      exact kc h D hZ hT m4 hD fr.refl
    · have hb9 : rbF n tx p Gd c true 95 = (p + 1, setBr Gd c true true) := if_pos ⟨by
        rw [qPb_t hGd hc, decide_eq_false (show ¬ c / qC Gd = qR Gd - 1 by omega)]
        rfl, by omega⟩
      refine R_aload_n rfl rfl ?_
      refine R_getfield rfl rfl (by omega) m0 rfl ?_
      refine R_bipush rfl ?_
      refine R_iload_n rfl rfl ?_
      refine R_iadd rfl ?_
      refine R_iconst rfl ?_
      refine R_iastore rfl (by omega) m4 ⟨by omega, by omega, by omega⟩ ?_
      refine R_iinc (lv' := [_, _, _]) rfl rfl rfl ?_
      rw [hb9] at kc
      rw [show zp + 1 = ((p + 1 : Nat) : Int) by omega]
      exact kc _ _ (isM0_f hZ fr_0 (by decide)) (isMt_f hT fr_0 (by decide)) (va_up_self _ _ _) (by
        rw [show (74 + (c : Int)).toNat = 74 + c by omega]
        exact rw_barS (v := true) hD hm36 hc) fr_0
theorem mrt_c {d N n : Nat} {G : Gr} {th rm en : Int} {tx : Nat → Int} {Q : AQ} (hN : 139 ≤ N) {c p : Nat} {zp : Int} {Gd : Gr} (hGd : okG Gd) (hc : c < qM Gd) (hzp : zp = p) (hok : sg n tx p = 46 ∨ isLb (sg n tx p) = true) {h : AH} {D : Nat → Int} (hZ : isM0 h G th n rm en) (hT : isMt h n tx) (m4 : h 125 = eI 174 D) (hD : rwG D Gd) (kc : ∀ h' D', isM0 h' G th n rm en → isMt h' n tx → h' 125 = eI 174 D' → rwG D' (rbF n tx (rbF n tx (p + 1) (setL Gd c (if sg n tx p = 46 then 0 else sg n tx p)) c false 124).1 (rbF n tx (p + 1) (setL Gd c (if sg n tx p = 46 then 0 else sg n tx p)) c false 124).2 c true 95).2 → fr h h' 125 1 → Run mi_X9_readText (T (d + 3)) Q 246 [some (vR 122), some (vI ((rbF n tx (rbF n tx (p + 1) (setL Gd c (if sg n tx p = 46 then 0 else sg n tx p)) c false 124).1 (rbF n tx (p + 1) (setL Gd c (if sg n tx p = 46 then 0 else sg n tx p)) c false 124).2 c true 95).1 : Nat)), some (vI c)] [] h' N 0 0) : Run mi_X9_readText (T (d + 3)) Q 132 [some (vR 122), some (vI zp), some (vI c)] [] h N 0 0 := by
  obtain ⟨S, m0, m3, hR⟩ := id hZ
  obtain ⟨f, m1, hn150, hf⟩ := id hT
  obtain ⟨a0, a1, aL, aE, aS, a2, aW, aT, a3, aN⟩ := id hD
  have d0 : D (0 : Int).toNat = (qR Gd : Int) := a0
  have d1 : D (1 : Int).toNat = (qC Gd : Int) := a1
  have d110 : D (110 : Int).toNat = (qW Gd : Int) := a2
  have d167 : D (167 : Int).toNat = (qN Gd : Int) := a3
  obtain ⟨hm4, hm36⟩ := hGd.m
  have hmi := qM_int Gd
  obtain ⟨⟨hr2, hr6⟩, ⟨hc2, hc6⟩, gL, gB, gW, gWn, gWl, gN, gNl⟩ := id hGd
  have hp1 : p + 1 ≤ n := by
    have : p < n := sg_lt (tx := tx) (i := p) (by
      rcases hok with q | q
      · omega
      · have := isLb_t.mp q
        omega)
    omega
  refine R_aload_n rfl rfl ?_
  refine R_getfield rfl rfl (by omega) m0 rfl ?_
  refine R_iconst rfl ?_
  refine R_iload_n rfl rfl ?_
  refine R_iadd rfl ?_
  refine R_aload_n rfl rfl ?_
  refine R_iload_n rfl rfl ?_
  refine R_vcall rfl rfl ⟨(by omega), _, m0⟩ ⟨Nat.le_of_ble_eq_true rfl, Nat.le_of_ble_eq_true rfl, Nat.zero_le _, Nat.zero_le _⟩ (mChar_T (i := p) hZ hT hN (by omega) (by omega) (fun z141 hz141 => aRes_i (rest := [_, _]) ?_))
  have hs141 := sg_m hT (p)
  rw [← hz141] at hs141
  refine R_bipush rfl ?_
  refine R_icmpne rfl ⟨by omega, by omega⟩ ⟨by decide, by decide⟩ (fun c146 => ?_) (fun c146 => ?_)
  · refine R_aload_n rfl rfl ?_
    refine R_iload_n rfl rfl ?_
    refine R_vcall rfl rfl ⟨(by omega), _, m0⟩ ⟨Nat.le_of_ble_eq_true rfl, Nat.le_of_ble_eq_true rfl, Nat.zero_le _, Nat.zero_le _⟩ (mChar_T (i := p) hZ hT hN (by omega) (by omega) (fun z155 hz155 => aRes_i (rest := [_, _]) ?_))
    have hs155 := sg_m hT (p)
    rw [← hz155] at hs155
    have hv9 : (if sg n tx p = 46 then 0 else sg n tx p) = z155 := (if_neg (by omega)).trans hz155.symm
    have hok1 : okG (setL Gd c (if sg n tx p = 46 then 0 else sg n tx p)) := ok_setL hGd (by
      by_cases q : sg n tx p = 46
      · rw [if_pos q]
        exact Or.inl rfl
      · rw [if_neg q]
        exact Or.inr (isLb_let (hok.resolve_left q)))
    have hb1 := rb_ok (n := n) (tx := tx) (p := p + 1) (c := c) (b := false) (s := 124) hok1 (by decide) hp1
    have hD1 : rwG (va_up D (2 + (c : Int)).toNat z155) (setL Gd c (if sg n tx p = 46 then 0 else sg n tx p)) := by
      rw [hv9, show (2 + (c : Int)).toNat = 2 + c by omega]
      exact rw_let hD hm36 hc
    refine R_iastore rfl (by omega) m4 ⟨by omega, by omega, by omega⟩ ?_
    refine R_iinc (lv' := [_, _, _]) rfl rfl rfl ?_
    refine mrt_r hN hok1 hc (by omega) hp1 (isM0_f hZ fr_0 (by decide)) (isMt_f hT fr_0 (by decide)) (va_up_self _ _ _) hD1 (fun h2 D2 hZ2 hT2 e2 hD2 f2 => ?_)
    refine mrt_d hN hb1.1 (by rw [hb1.2.1]; exact hc) rfl hb1.2.2 hZ2 hT2 e2 hD2 (fun h3 D3 hZ3 hT3 e3 hD3 f3 => ?_)
    exact kc h3 D3 hZ3 hT3 e3 hD3 ((fr_0.trans f2).trans f3)
  · have hv9 : (if sg n tx p = 46 then 0 else sg n tx p) = (0 : Int) := if_pos (by omega)
    have hok1 : okG (setL Gd c (if sg n tx p = 46 then 0 else sg n tx p)) := ok_setL hGd (by
      by_cases q : sg n tx p = 46
      · rw [if_pos q]
        exact Or.inl rfl
      · rw [if_neg q]
        exact Or.inr (isLb_let (hok.resolve_left q)))
    have hb1 := rb_ok (n := n) (tx := tx) (p := p + 1) (c := c) (b := false) (s := 124) hok1 (by decide) hp1
    have hD1 : rwG (va_up D (2 + (c : Int)).toNat (0 : Int)) (setL Gd c (if sg n tx p = 46 then 0 else sg n tx p)) := by
      rw [hv9, show (2 + (c : Int)).toNat = 2 + c by omega]
      exact rw_let hD hm36 hc
    refine R_iconst rfl ?_
    refine R_goto rfl ?_
    refine R_iastore rfl (by omega) m4 ⟨by omega, by omega, by omega⟩ ?_
    refine R_iinc (lv' := [_, _, _]) rfl rfl rfl ?_
    refine mrt_r hN hok1 hc (by omega) hp1 (isM0_f hZ fr_0 (by decide)) (isMt_f hT fr_0 (by decide)) (va_up_self _ _ _) hD1 (fun h2 D2 hZ2 hT2 e2 hD2 f2 => ?_)
    refine mrt_d hN hb1.1 (by rw [hb1.2.1]; exact hc) rfl hb1.2.2 hZ2 hT2 e2 hD2 (fun h3 D3 hZ3 hT3 e3 hD3 f3 => ?_)
    exact kc h3 D3 hZ3 hT3 e3 hD3 ((fr_0.trans f2).trans f3)
theorem mrt_loop {d N n : Nat} {G : Gr} {th rm en : Int} {tx : Nat → Int} {Q : AQ} (hN : 139 ≤ N) : ∀ (r c p : Nat) (h : AH) (D : Nat → Int) (Gd : Gr) (zp zc : Int), c + r = qM Gd → zp = p → zc = c → p ≤ n → okG Gd → isM0 h G th n rm en → isMt h n tx → h 125 = eI 174 D → rwG D Gd → (∀ h' D', (rcF n tx r c p Gd).1 = false → h' 125 = eI 174 D' → fr h h' 125 1 → Q (.inl (some (vI ((rcF n tx r c p Gd).2.1 : Nat)))) h' N) → (∀ h' D', (rcF n tx r c p Gd).1 = true → rwG D' (rcF n tx r c p Gd).2.2 → isM0 h' G th n rm en → isMt h' n tx → h' 125 = eI 174 D' → fr h h' 125 1 → ∀ l, Run mi_X9_readText (T (d + 3)) Q 252 [some (vR 122), some (vI ((rcF n tx r c p Gd).2.1 : Nat)), l] [] h' N 0 0) → Run mi_X9_readText (T (d + 3)) Q 92 [some (vR 122), some (vI zp), some (vI zc)] [] h N 0 0 := by
  intro r
  induction r using Nat.strongRecOn with
  | ind r ih =>
  intro c p h D Gd zp zc hr hzp hzc hp hGd hZ hT m4 hD kF kT
  obtain ⟨S, m0, m3, hR⟩ := id hZ
  obtain ⟨f, m1, hn150, hf⟩ := id hT
  obtain ⟨a0, a1, aL, aE, aS, a2, aW, aT, a3, aN⟩ := id hD
  have d0 : D (0 : Int).toNat = (qR Gd : Int) := a0
  have d1 : D (1 : Int).toNat = (qC Gd : Int) := a1
  have d110 : D (110 : Int).toNat = (qW Gd : Int) := a2
  have d167 : D (167 : Int).toNat = (qN Gd : Int) := a3
  obtain ⟨hm4, hm36⟩ := hGd.m
  have hmi := qM_int Gd
  obtain ⟨⟨hr2, hr6⟩, ⟨hc2, hc6⟩, gL, gB, gW, gWn, gWl, gN, gNl⟩ := id hGd
  refine R_iload_n rfl rfl ?_
  refine R_aload_n rfl rfl ?_
  refine R_getfield rfl rfl (by omega) m0 rfl ?_
  refine R_iconst rfl ?_
  refine R_iaload rfl (Or.inl (by omega)) m4 ⟨by omega, by omega, by omega⟩ ?_
  refine R_aload_n rfl rfl ?_
  refine R_getfield rfl rfl (by omega) m0 rfl ?_
  refine R_iconst rfl ?_
  refine R_iaload rfl (Or.inl (by omega)) m4 ⟨by omega, by omega, by omega⟩ ?_
  rw [d0, d1]
  refine R_imul rfl ?_
  refine R_icmpge rfl ⟨by omega, by omega⟩ ⟨by omega, by omega⟩ (fun c106 => ?_) (fun c106 => ?_)
  · have hr0 : r = 0 := by omega
    subst hr0
    rw [hzp]
    exact kT h D rfl hD hZ hT m4 fr.refl _
  · obtain ⟨r, rfl⟩ : ∃ r1, r = r1 + 1 := ⟨r - 1, by omega⟩
    subst hzc
    have hJ : (sg n tx p = 46 ∨ isLb (sg n tx p) = true) → Run mi_X9_readText (T (d + 3)) Q 132 [some (vR 122), some (vI zp), some (vI c)] [] h N 0 0 := by
      intro hok
      refine mrt_c hN hGd (by omega) hzp hok hZ hT m4 hD (fun h1 D1 hZ1 hT1 e1 hD1 f1 => ?_)
      have hok1 : okG (setL Gd c (if sg n tx p = 46 then 0 else sg n tx p)) := ok_setL hGd (by
        by_cases q : sg n tx p = 46
        · rw [if_pos q]
          exact Or.inl rfl
        · rw [if_neg q]
          exact Or.inr (isLb_let (hok.resolve_left q)))
      have hp1 : p + 1 ≤ n := by
        have : p < n := sg_lt (tx := tx) (i := p) (by
          rcases hok with q | q
          · omega
          · have := isLb_t.mp q
            omega)
        omega
      have hb1 := rb_ok (n := n) (tx := tx) (p := p + 1) (c := c) (b := false) (s := 124) hok1 (by decide) hp1
      have hb2 := rb_ok (n := n) (tx := tx) (p := (rbF n tx (p + 1) (setL Gd c (if sg n tx p = 46 then 0 else sg n tx p)) c false 124).1) (c := c) (b := true) (s := 95) hb1.1 (by decide) hb1.2.2
      have hqm : qM (setL Gd c (if sg n tx p = 46 then 0 else sg n tx p)) = qM Gd := rfl
      rw [rc_S hok] at kF kT
      refine R_iinc (lv' := [_, _, _]) rfl rfl rfl ?_
      refine R_goto rfl ?_
      exact ih r (by omega) (c + 1) _ h1 D1 _ _ _ (by rw [hb2.2.1, hb1.2.1, hqm]; omega) rfl (by omega) hb2.2.2 hb2.1 hZ1 hT1 e1 hD1 (fun h2 D2 q1 q2 q3 => kF h2 D2 q1 q2 (f1.trans q3)) (fun h2 D2 q1 q2 q3 q4 q5 q6 l => kT h2 D2 q1 q2 q3 q4 q5 (f1.trans q6) l)
    refine R_aload_n rfl rfl ?_
    refine R_iload_n rfl rfl ?_
    refine R_vcall rfl rfl ⟨(by omega), _, m0⟩ ⟨Nat.le_of_ble_eq_true rfl, Nat.le_of_ble_eq_true rfl, Nat.zero_le _, Nat.zero_le _⟩ (mChar_T (i := p) hZ hT hN (by omega) (by omega) (fun z111 hz111 => aRes_i (rest := []) ?_))
    have hs111 := sg_m hT (p)
    rw [← hz111] at hs111
    refine R_scall rfl rfl ⟨Nat.le_of_ble_eq_true rfl, Nat.le_of_ble_eq_true rfl, Nat.zero_le _, Nat.zero_le _⟩ (mIsLetter_T ⟨by omega, by omega⟩ (fun z114 hz114 => aRes_i (rest := []) ?_))
    rw [hz111] at hz114
    have h01 := bI01 (isLb (sg n tx p))
    rw [← hz114] at h01
    refine R_ifne rfl ⟨by omega, by omega⟩ (fun c117 => ?_) (fun c117 => ?_)
    · have hok : isLb (sg n tx p) = true := bI_t hz114 c117
      first | exact hJ (Or.inr hok) | exact hJ (Or.inl (by omega))
    · have hnl : isLb (sg n tx p) = false := bI_f hz114 (by omega)
      refine R_aload_n rfl rfl ?_
      refine R_iload_n rfl rfl ?_
      refine R_vcall rfl rfl ⟨(by omega), _, m0⟩ ⟨Nat.le_of_ble_eq_true rfl, Nat.le_of_ble_eq_true rfl, Nat.zero_le _, Nat.zero_le _⟩ (mChar_T (i := p) hZ hT hN (by omega) (by omega) (fun z122 hz122 => aRes_i (rest := []) ?_))
      have hs122 := sg_m hT (p)
      rw [← hz122] at hs122
      refine R_bipush rfl ?_
      refine R_icmpeq rfl ⟨by omega, by omega⟩ ⟨by decide, by decide⟩ (fun c127 => ?_) (fun c127 => ?_)
      · first | exact hJ (Or.inr hok) | exact hJ (Or.inl (by omega))
      · refine R_iload_n rfl rfl ?_
        exact R_ireturn rfl (fun q => absurd q (by decide)) (Nat.zero_le _) (Nat.zero_le _) (by
    have hno : ¬ (sg n tx p = 46 ∨ isLb (sg n tx p) = true) := fun q => by
      rcases q with q | q
      · omega
      · rw [hnl] at q
        cases q
    rw [rc_N hno] at kF
    rw [hzp]
    exact kF h D rfl m4 fr.refl)
