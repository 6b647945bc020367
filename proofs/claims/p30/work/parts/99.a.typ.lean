/-! ===== the law types, and its text is loaded ===== -/
theorem eI_inj {n : Nat} {f g : Nat → Int} (h : eI n f = eI n g) : f = g := congrArg Prod.snd (congrArg Prod.snd (Sum.inl.inj (Sum.inr.inj h)))
theorem wf_st {h : AH} {k N : Nat} {G : Gr} (hS : isSt h k G) (hk : k + 5 ≤ N) : ∀ j, k ≤ j → j < k + 5 → wfE N (h j) := by
  obtain ⟨rb, bb, L, WL, WT, LN, e0, e1, e2, e3, e4, -⟩ := hS
  intro j h1 h2
  have hj : j = k ∨ j = k + 1 ∨ j = k + 2 ∨ j = k + 3 ∨ j = k + 4 := by omega
  rcases hj with q | q | q | q | q
  · rw [q, e0]
    exact wfT_s trivial (wfT_s trivial (wfT_s trivial (wfT_s trivial (wfT_s trivial (wfT_s trivial (wfT_s (Or.inl (by omega)) (wfT_s (Or.inl (by omega)) (wfT_s (Or.inl (by omega)) (wfT_s (Or.inl (by omega)) wfT_0)))))))))
  · rw [q, e1]; trivial
  · rw [q, e2]; trivial
  · rw [q, e3]; trivial
  · rw [q, e4]; trivial
theorem wf_px {h : AH} {k N : Nat} {G : Gr} {E A C : Int} {F Ln Dn Ac Dw Cl : Nat → Int} (hS : isPx h k G E A C F Ln Dn Ac Dw Cl) (hk : k + 12 ≤ N) : ∀ j, k ≤ j → j < k + 12 → wfE N (h j) := by
  obtain ⟨e0, e1, e6, e7, e8, e9, e10, e11⟩ := hS
  intro j h1 h2
  by_cases q : k + 1 ≤ j ∧ j < k + 6
  · exact wf_st e1 (by omega) j q.1 (by omega)
  · have hj : j = k ∨ j = k + 6 ∨ j = k + 7 ∨ j = k + 8 ∨ j = k + 9 ∨ j = k + 10 ∨ j = k + 11 := by omega
    rcases hj with q | q | q | q | q | q | q
    · rw [q, e0]
      exact wfT_s (Or.inl (by omega)) (wfT_s trivial (wfT_s trivial (wfT_s trivial (wfT_s (Or.inl (by omega)) (wfT_s (Or.inl (by omega)) (wfT_s (Or.inl (by omega)) (wfT_s (Or.inl (by omega)) (wfT_s (Or.inl (by omega)) (wfT_s (Or.inl (by omega)) wfT_0)))))))))
    · rw [q, e6]; trivial
    · rw [q, e7]; trivial
    · rw [q, e8]; trivial
    · rw [q, e9]; trivial
    · rw [q, e10]; trivial
    · rw [q, e11]; trivial
theorem wf_face {h : AH} {y : Sy} (hF : isFace h y) : wfH 122 h := by
  obtain ⟨b0, ⟨px, hT⟩, ⟨Gt, hSt⟩, hP, hG, ⟨Gr9, hPt⟩, hM, hSe, hFl, hst⟩ := hF
  intro j hj
  by_cases q0 : j = 0
  · rw [q0, b0]
    exact wfT_s (Or.inl (by decide)) (wfT_s (Or.inl (by decide)) (wfT_s (Or.inl (by decide)) (wfT_s (Or.inl (by decide)) (wfT_s (Or.inl (by decide)) (wfT_s (Or.inl (by decide)) wfT_0)))))
  by_cases q1 : 2 ≤ j ∧ j < 7
  · exact wf_st hSt (by decide) j q1.1 (by omega)
  by_cases q2 : j < 8
  · obtain ⟨f, t0, t1, -⟩ := hT
    by_cases q : j = 1
    · rw [q, t0]
      exact wfT_s trivial (wfT_s (Or.inl (by decide)) (wfT_s trivial (wfT_s (Or.inl (by decide)) wfT_0)))
    · rw [show j = 7 by omega, t1]
      trivial
  by_cases q3 : j < 20
  · obtain ⟨F, Ln, Dn, Ac, Dw, Cl, hX, -⟩ := hP
    exact wf_px hX (by decide) j (by omega) (by omega)
  by_cases q4 : j < 32
  · obtain ⟨E, A, C, F, Ln, Dn, Ac, Dw, Cl, hX⟩ := hPt
    exact wf_px hX (by decide) j (by omega) (by omega)
  by_cases q5 : j < 116
  · obtain ⟨o, u, R, S, -, -, e0, e1, -, e2, ⟨w1, w2⟩, e3, m1, m2, -⟩ := hM
    by_cases q6 : 106 ≤ j
    · by_cases q7 : j < 111
      · obtain ⟨G, hG2⟩ := m2 0 (by decide)
        exact wf_st hG2 (by decide) j (by omega) (by omega)
      · obtain ⟨G, hG2⟩ := m2 1 (by decide)
        exact wf_st hG2 (by decide) j (by omega) (by omega)
    by_cases q7 : 36 ≤ j
    · obtain ⟨G, hG2⟩ := m1 ((j - 36) / 5) (by omega)
      exact wf_st hG2 (by omega) j (by omega) (by omega)
    have hq : j = 32 ∨ j = 33 ∨ j = 34 ∨ j = 35 := by omega
    rcases hq with q | q | q | q
    · rw [q, e0]
      exact wfT_s trivial (wfT_s trivial (wfT_s (Or.inl (by decide)) (wfT_s (Or.inl (by decide)) (wfT_s (Or.inl (by decide)) wfT_0))))
    · rw [q, e1]
      intro i k hk
      have := w1 i k hk
      omega
    · rw [q, e2]
      intro i k hk
      have := w2 i k hk
      omega
    · rw [q, e3]; trivial
  by_cases q6 : j < 119
  · obtain ⟨e, l, f, g, us, P, FP, s0, s1, s2⟩ := hSe
    have hq : j = 116 ∨ j = 117 ∨ j = 118 := by omega
    rcases hq with q | q | q
    · rw [q, s0]
      exact wfT_s trivial (wfT_s trivial (wfT_s trivial (wfT_s trivial (wfT_s trivial (wfT_s (Or.inl (by decide)) (wfT_s (Or.inl (by decide)) wfT_0))))))
    · rw [q, s1]; trivial
    · rw [q, s2]; trivial
  · obtain ⟨w, u, FT, GV, s0, s1, s2⟩ := hFl
    have hq : j = 119 ∨ j = 120 ∨ j = 121 := by omega
    rcases hq with q | q | q
    · rw [q, s0]
      exact wfT_s trivial (wfT_s trivial (wfT_s (Or.inl (by decide)) (wfT_s (Or.inl (by decide)) wfT_0)))
    · rw [q, s1]; trivial
    · rw [q, s2]; trivial
theorem wf_call {h h' : AH} {y : Sy} {N : Nat} (hF : isFace h' y) (ho : ∀ j, 122 ≤ j → h' j = h j) (hw : wfH N h) (hN : 122 ≤ N) : wfH N h' := by
  intro j hj
  rcases Nat.lt_or_ge j 122 with q | q
  · exact wfE_mono hN (wf_face hF j q)
  · rw [ho j q]
    exact hw j hj
set_option maxRecDepth 20000 in
theorem typed_L {d N R C W9 L : Nat} {h : AH} {Q : AQ} {w v l xs : Nat → Int} {tx0 : Nat → Int} (hF : isFace h (ys 0 tx0)) (m0 : h 122 = eI 64 w) (hw : w 0 = R ∧ w 1 = C) (mv : h 123 = eI 16 v) (ml : h 124 = eI 4 l) (hs : h aRO = eI L xs) (hL : L < 1000) (hR : 2 ≤ R ∧ R ≤ 4) (hC : 2 ≤ C ∧ C ≤ 4) (hW9 : W9 ≤ 4) (hN : 126 ≤ N) (hQ : ∀ (z : Int) (h1 : AH) (G : Gr) (n : Nat) (tx : Nat → Int), z = 1 → isFace h1 (G, [], fun _ => none, n, tx) → isW h1 G → isWo h1 G → isLi h1 G → sm4 G → qW G = W9 → (∀ x, 125 ≤ x → h1 x = h x) → Q (.inl (some (vI z))) h1 N) : T (d + 8) 247 [vR 0, vR aRO, vI (W9 : Int), vR 122, vR 123, vR 124] h N Q := by
  obtain ⟨hw0, hw1⟩ := hw
  have r0 : w (0 : Int).toNat = (R : Int) := hw0
  have r1 : w (1 : Int).toNat = (C : Int) := hw1
  obtain ⟨hR2, hR4⟩ := id hR
  obtain ⟨hC2, hC4⟩ := id hC
  have hM : R * C ≤ 16 := Nat.mul_le_mul hR4 hC4
  refine T_body (I := mi_L_typed) (lv := [_, _, _, _, _, _, _, _, _, _]) rfl (Nat.le_of_ble_eq_true rfl) rfl ?_
  refine R_iconst rfl ?_
  refine R_istore (lv' := [_, _, _, _, _, _, _, _, _, _]) rfl rfl ?_
  refine R_aload_n rfl rfl ?_
  refine R_bipush rfl ?_
  refine R_vcall rfl rfl ⟨(by omega), _, hF.1⟩ ⟨Nat.le_of_ble_eq_true rfl, Nat.le_of_ble_eq_true rfl, Nat.le_of_ble_eq_true rfl, Nat.le_of_ble_eq_true rfl⟩ (app_9 hF (by omega) (by omega) ⟨by omega, by omega⟩ (fun h6 z6 hz6 hF6 ho6 => aRes_g (Or.inl rfl) ?_))
  
  refine R_iconst rfl ?_
  refine R_icmpne rfl ⟨by omega, by omega⟩ ⟨by decide, by decide⟩ (fun c10 => ?_) (fun c10 => ?_)
  · exact absurd (show z6 = 1 by omega) c10
  · refine R_aload_n rfl rfl ?_
    refine R_bipush rfl ?_
    refine R_aload_n rfl rfl ?_
    refine R_iconst rfl ?_
    refine R_iaload rfl (Or.inl (by omega)) ((ho6 _ (by omega)).trans m0) ⟨by omega, by omega, by omega⟩ ?_
    rw [r0]
    refine R_iadd rfl ?_
    refine R_vcall rfl rfl ⟨(by omega), _, hF6.1⟩ ⟨Nat.le_of_ble_eq_true rfl, Nat.le_of_ble_eq_true rfl, Nat.le_of_ble_eq_true rfl, Nat.le_of_ble_eq_true rfl⟩ (app_9 hF6 (by omega) (by omega) ⟨by omega, by omega⟩ (fun h20 z20 hz20 hF20 ho20 => aRes_g (Or.inl rfl) ?_))
    
    refine R_iconst rfl ?_
    refine R_icmpne rfl ⟨by omega, by omega⟩ ⟨by decide, by decide⟩ (fun c24 => ?_) (fun c24 => ?_)
    · exact absurd (show z20 = 2 by omega) c24
    · refine R_aload_n rfl rfl ?_
      refine R_bipush rfl ?_
      refine R_aload_n rfl rfl ?_
      refine R_iconst rfl ?_
      refine R_iaload rfl (Or.inl (by omega)) ((ho20 _ (by omega)).trans ((ho6 _ (by omega)).trans m0)) ⟨by omega, by omega, by omega⟩ ?_
      rw [r1]
      refine R_iadd rfl ?_
      refine R_vcall rfl rfl ⟨(by omega), _, hF20.1⟩ ⟨Nat.le_of_ble_eq_true rfl, Nat.le_of_ble_eq_true rfl, Nat.le_of_ble_eq_true rfl, Nat.le_of_ble_eq_true rfl⟩ (app_9 hF20 (by omega) (by omega) ⟨by omega, by omega⟩ (fun h34 z34 hz34 hF34 ho34 => aRes_g (Or.inl rfl) ?_))
      
      refine R_iconst rfl ?_
      refine R_icmpeq rfl ⟨by omega, by omega⟩ ⟨by decide, by decide⟩ (fun c38 => ?_) (fun c38 => ?_)
      · refine R_iconst rfl ?_
        refine R_istore (lv' := [_, _, _, _, _, _, _, _, _, _]) rfl rfl ?_
        have hoh : ∀ x, 122 ≤ x → h34 x = h x := fun x hx => (ho34 x hx).trans ((ho20 x hx).trans (ho6 x hx))
        refine tc_loop (h0 := h34) (R := R) (C := C) ((hoh _ (by decide)).trans hs) hL hR hC hN (R * C) 0 3 _ w (newG R C) h34 3 18 _ _ (Nat.zero_add _) rfl rfl (Nat.le_refl _) (Nat.le_refl _) (Nat.le_refl _) (Nat.le_refl _) hF34 ((hoh _ (by omega)).trans m0) (fun _ _ => rfl) ⟨⟨hw0, hw1⟩, ⟨rfl, rfl, rfl, rfl⟩, fun x hx => absurd hx (Nat.not_lt_zero _), fun _ _ => ⟨rfl, rfl⟩⟩ invC_0 ⟨rfl, rfl, rfl⟩ (fun h3 n3 tx3 w3 G3 k3 s3 zn3 zc3 hz3 hn3 hn33 hk3 hs3 hF3 m3 ho3 hp3 hi3 hh3 => ?_)
        refine R_iconst rfl ?_
        refine R_istore (lv' := [_, _, _, _, _, _, _, _, _, _]) rfl rfl ?_
        refine tw_loop (R := R) (C := C) (h0 := h3) (W9 := W9) ((ho3 _ (by decide)).trans ((hoh _ (by decide)).trans hs)) hL hN hW9 W9 0 n3 tx3 v G3 h3 k3 s3 _ _ (Nat.zero_add _) rfl hz3 (by omega) hk3 hs3 hF3 ((ho3 _ (by decide)).trans ((hoh _ (by decide)).trans mv)) (fun _ _ => rfl) ⟨⟨w3, m3, pic_rw hp3⟩, hp3.2.1.1, hp3.2.1.2.1⟩ hp3.2.1.2.2.2 hp3.2.1.2.2.1 (fun k hk => absurd hk (Nat.not_lt_zero _)) (invCP hR hC hh3 (by omega) hi3) (fun h4 n4 tx4 v4 G4 k4 s4 zn4 zj4 hz4 hn4 hk4 hs4 hF4 mv4 ho4 hZ4 hqN4 hqW4 hW4 hi4 => ?_)
        have hb4 : ∀ x, 125 ≤ x → h4 x = h x := fun x hx => (ho4 x (by omega)).trans ((ho3 x (by omega)).trans (hoh x (by omega)))
        refine tl1 ((ho4 _ (by decide)).trans ((ho3 _ (by decide)).trans ((hoh _ (by decide)).trans ml))) hF4 hz4 (by omega) (by omega) (by omega) hN ((hb4 _ (by decide)).trans hs) hL (fun h5 m zn5 n5 tx5 k5 s5 hm3 ml5 hz5 hc5 hF5 ho5 hk5 hs59 => ?_)
        have hZ5 : sW R C h5 G4 := sW_fr hZ4 (ho5 _ (by omega) (by omega))
        obtain ⟨⟨w0x, m0x, hRx⟩, hrx1, hrx2⟩ := id hZ5
        have hm16 : qM G4 ≤ 16 := by
          unfold qM
          rw [hrx1, hrx2]
          exact hM
        refine R_iconst rfl ?_
        refine R_istore (lv' := [_, _, _, _, _, _, _, _, _, _]) rfl rfl ?_
        cases hm : decide (m = 0) with
        | true =>
          have hm0 := of_decide_eq_true hm
          subst hm0
          have hn54 : n5 = n4 ∧ tx5 = tx4 := by
            rcases hc5 with ⟨-, q1, q2⟩ | ⟨q, -, -⟩
            · exact ⟨q1, q2⟩
            · exact absurd q (Nat.lt_irrefl 0)
          obtain ⟨hn54a, hn54b⟩ := hn54
          rw [← hn54a, ← hn54b] at hi4
          refine R_iload rfl rfl ?_
          refine R_aload rfl rfl ?_
          refine R_iconst rfl ?_
          refine R_iaload rfl (Or.inl (by omega)) ml5 ⟨by omega, by omega, by omega⟩ ?_
          rw [show va_up l 0 ((0 : Nat) : Int) (0 : Int).toNat = 0 from va_up_self _ _ _]
          refine R_icmpge rfl ⟨by decide, by decide⟩ ⟨by omega, by omega⟩ (fun c437 => ?_) (fun c437 => ?_)
          · exact te1 m0x hRx ml5 (by rw [va_up_self, hqN4]) (by rw [hqW4]) hF5 (invP_end (f := 9 - W9) (by rw [show 9 - W9 + 1 = 10 - W9 by omega]; exact hi4)) hm16 (by omega) (by omega) (by omega) (by omega) hN (fun z h6 hz hF6 ho6 => hQ z h6 G4 n5 tx5 hz hF6 (isW_fr hZ5.1 (ho6 _ (by decide))) ⟨by omega, v4, (ho6 _ (by decide)).trans ((ho5 _ (by omega) (by omega)).trans mv4), by rw [hqW4]; exact hW4⟩ ⟨by omega, _, (ho6 _ (by decide)).trans ml5, by rw [va_up_self, hqN4], fun i hi => absurd hi (by omega)⟩ ⟨hF6.2.2.2.2.1, by omega, by omega⟩ hqW4 (fun x hx => (ho6 x (by omega)).trans ((ho5 x (by omega) (by omega)).trans (hb4 x hx))))
          · exact absurd (show (0 : Int) ≤ 0 by decide) c437
        | false =>
          have hm0 := of_decide_eq_false hm
          have hn54 : n5 = n4 + 1 ∧ tx5 = va_up tx4 n4 61 := by
            rcases hc5 with ⟨q, -, -⟩ | ⟨-, q1, q2⟩
            · exact absurd q hm0
            · exact ⟨q1, q2⟩
          obtain ⟨hn54a, hn54b⟩ := hn54
          subst hn54a
          subst hn54b
          refine tl_loop (R := R) (C := C) (h0 := h5) (v := v4) (f := 9 - W9) (W9 := W9) ((ho5 _ (by decide) (by decide)).trans ((hb4 _ (by decide)).trans hs)) hL hN (by omega) hm3 m 0 (n4 + 1) _ _ G4 h5 k5 s5 _ _ (Nat.zero_add _) rfl hz5 (by omega) (by omega) (by omega) hF5 ml5 (va_up_self _ _ _) (fun _ _ _ => rfl) hZ5 hqW4 hW4 ⟨hqN4, fun k hk => absurd hk (Nat.not_lt_zero _)⟩ (invN_0 (f := 9 - W9) (by rw [show 9 - W9 + 1 = 10 - W9 by omega]; exact hi4) hqN4) (fun h6 n6 tx6 l6 G6 k6 s6 zn6 zi6 g1 g2 g3 g4 hF6 ml6 hl6 ho6 hZ6 hqW6 hW6 hP6 hi6 => ?_)
          obtain ⟨⟨w6, m6, hR6⟩, hr61, hr62⟩ := id hZ6
          have hm166 : qM G6 ≤ 16 := by
            unfold qM
            rw [hr61, hr62]
            exact hM
          have hqN6 := hP6.1
          exact te1 m6 hR6 ml6 (by rw [hl6, hqN6]) (by rw [hqW6]) hF6 (invP_end (f := 8 - W9) (by rw [show 8 - W9 + 1 = 9 - W9 by omega]; exact hi6)) hm166 (by omega) (by omega) (by omega) (by omega) hN (fun z h7 hz hF7 ho7 => hQ z h7 G6 n6 tx6 hz hF7 (isW_fr hZ6.1 (ho7 _ (by decide))) ⟨by omega, v4, (ho7 _ (by decide)).trans ((ho6 _ (by omega) (by omega)).trans ((ho5 _ (by omega) (by omega)).trans mv4)), by rw [hqW6]; exact hW6⟩ ⟨by omega, l6, (ho7 _ (by decide)).trans ml6, by rw [hl6, hqN6], fun i hi => hP6.2 i (by omega)⟩ ⟨hF7.2.2.2.2.1, by omega, by omega⟩ hqW6 (fun x hx => (ho7 x (by omega)).trans ((ho6 x (by omega) (by omega)).trans ((ho5 x (by omega) (by omega)).trans (hb4 x hx)))))
      · exact absurd (show z34 = 3 by omega) c38
