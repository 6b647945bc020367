/-! ===== the model: countReadings ===== -/
def gM (G : Gr) (em : Bool) (r : Nat) (ch : List Nat) (c : Nat) : List (List Nat) := if crG G em ch c = true then mS G em r (ch ++ [c]) else []
theorem gM_no {G : Gr} {em : Bool} {r : Nat} {ch : List Nat} {c : Nat} (h : crG G em ch c = false) : gM G em r ch c = [] := if_neg (by rw [h]; decide)
theorem gM_yes {G : Gr} {em : Bool} {r : Nat} {ch : List Nat} {c : Nat} (h : crG G em ch c = true) : gM G em r ch c = mS G em r (ch ++ [c]) := if_pos h
theorem fl_at {G : Gr} {em : Bool} {r : Nat} {ch : List Nat} {m i c : Nat} (hm : i + m = qM G) (h1 : i ≤ c) (h2 : c < qM G) (hno : ∀ j, i ≤ j → j < c → crG G em ch j = false) (hc : crG G em ch c = true) : fl (gM G em r ch) m i = mS G em r (ch ++ [c]) ++ fl (gM G em r ch) (qM G - (c + 1)) (c + 1) := by
  have e1 := fl_skip (g := gM G em r ch) (m := (qM G - (c + 1)) + 1) (c - i) i (fun j h3 h4 => gM_no (hno j h3 (by omega)))
  rw [show c - i + (qM G - (c + 1) + 1) = m by omega, show i + (c - i) = c by omega] at e1
  rw [e1]
  show gM G em r ch c ++ fl (gM G em r ch) (qM G - (c + 1)) (c + 1) = _
  rw [gM_yes hc]
def ok9 (F9 : Nat → Int) (s : SS) : Prop := (∀ R, s.2 = some R → ∀ (j x : Nat), R[j]? = some x → F9 j = x) ∧ (s.1 = 0 ↔ s.2 = none)
def chX (ch : List Nat) (X : Nat → Int) : Prop := ∀ (j x : Nat), ch[j]? = some x → X j = x
theorem chX_up {ch : List Nat} {X : Nat → Int} {z : Int} {k : Nat} (h : chX ch X) (hk : ch.length ≤ k) : chX ch (va_up X k z) := by
  intro j x hj
  have hlt : j < ch.length := by
    rcases Nat.lt_or_ge j ch.length with q | q
    · exact q
    · rw [List.getElem?_eq_none q] at hj
      cases hj
  exact (va_up_ne _ _ (by omega)).trans (h j x hj)
theorem chX_pre {ch : List Nat} {c : Nat} {X : Nat → Int} (h : chX (ch ++ [c]) X) : chX ch X ∧ X ch.length = c := by
  refine ⟨fun j x hj => h j x ?_, h _ c ?_⟩
  · have hlt : j < ch.length := by
      rcases Nat.lt_or_ge j ch.length with q | q
      · exact q
      · rw [List.getElem?_eq_none q] at hj
        cases hj
    rw [List.getElem?_append_left hlt]
    exact hj
  · rw [List.getElem?_append_right (Nat.le_refl _), Nat.sub_self]
    rfl
theorem chX_app {ch : List Nat} {c : Nat} {X : Nat → Int} (h : chX ch X) (hc : X ch.length = c) : chX (ch ++ [c]) X := by
  intro j x hj
  rcases Nat.lt_or_ge j ch.length with q | q
  · rw [List.getElem?_append_left q] at hj
    exact h j x hj
  · rw [List.getElem?_append_right q] at hj
    obtain ⟨k2, hk2⟩ : ∃ k2, j - ch.length = k2 := ⟨_, rfl⟩
    rw [hk2] at hj
    cases k2 with
    | zero =>
      cases hj
      rw [show j = ch.length by omega]
      exact hc
    | succ k2 => cases hj
theorem ch_lt {ch : List Nat} {c m : Nat} (h : ∀ x, x ∈ ch → x < m) (hc : c < m) : ∀ x, x ∈ ch ++ [c] → x < m := fun x hx => by
  rcases List.mem_append.mp hx with q | q
  · exact h x q
  · rw [List.mem_singleton.mp q]
    exact hc
theorem sl_leaf {most : Nat} {s : SS} {R : List Nat} {l : List (List Nat)} (h : s.1 < most) : seL most s ([R] ++ l) = seL most (s.1 + 1, if s.1 = 0 then some R else s.2) l := by
  show seL most (seA most s R) l = _
  unfold seA
  rw [if_neg (by omega)]
def lvP (d N : Nat) (G : Gr) (th tl rm : Int) (Q : AQ) (em : Bool) (most r : Nat) : Prop := ∀ (ch : List Nat), ch.length + r + 1 = qN G → (∀ x, x ∈ ch → x < qM G) → ∀ (m i : Nat) (h : AH) (X F9 : Nat → Int) (s : SS) (zn zd : Int) (l5 l6 : Option AV), i + m = qM G → isMg h G th tl rm → h 137 = eI 9 X → h 138 = eI 6 F9 → chX ch X → X ch.length = (i : Int) - 1 → ok9 F9 s → s.1 ≤ most → zn = s.1 → zd = ch.length → (∀ h' X' F' l5' l6', h' 137 = eI 9 X' → h' 138 = eI 6 F' → chX ch X' → ok9 F' (seL most s (fl (gM G em r ch) m i)) → fr h h' 137 2 → Run mi_X9_countReadings (T (d + 3)) Q 27 [some (vR 122), some (vI (bI em)), some (vI most), some (vI ((seL most s (fl (gM G em r ch) m i)).1 : Nat)), some (vI ((ch.length : Int) - 1)), l5', l6'] [] h' N 0 0) → (∀ h' X' F', h' 137 = eI 9 X' → h' 138 = eI 6 F' → ok9 F' (seL most s (fl (gM G em r ch) m i)) → fr h h' 137 2 → most ≤ (seL most s (fl (gM G em r ch) m i)).1 → Q (.inl (some (vI ((seL most s (fl (gM G em r ch) m i)).1 : Nat)))) h' N) → Run mi_X9_countReadings (T (d + 3)) Q 27 [some (vR 122), some (vI (bI em)), some (vI most), some (vI zn), some (vI zd), l5, l6] [] h N 0 0
theorem mlv_0 {d N : Nat} {G : Gr} {th tl rm : Int} {Q : AQ} {em : Bool} {most : Nat} (hG : okG G) (hN : 139 ≤ N) (hmost : most ≤ 10000000) : lvP d N G th tl rm Q em most 0 := by
  intro ch hr hch m
  induction m using Nat.strongRecOn with
  | ind m ih =>
  intro i h X F9 s zn zd l5 l6 hm hM m18 m19 hX hXi hok hle hzn hzd kK kE
  obtain ⟨F, D, L, A, W, C, hZ, m11, m12, m13, m14, m15, m16, hE, hA, hW, hC⟩ := id hM
  obtain ⟨S, m0, m3, hR⟩ := id hZ
  obtain ⟨hr0, hr1, rL, rE, rS, hr110, rWn, rWl, hr167, rNl⟩ := id hR
  have r0 : S (0 : Int).toNat = (qR G : Int) := hr0
  have r1 : S (1 : Int).toNat = (qC G : Int) := hr1
  have r110 : S (110 : Int).toNat = (qW G : Int) := hr110
  have r167 : S (167 : Int).toNat = (qN G : Int) := hr167
  obtain ⟨hm4, hm36⟩ := hG.m
  have hmi := qM_int G
  obtain ⟨⟨hr2, hr6⟩, ⟨hc2, hc6⟩, gL, gB, gW, gWn, gWl, gN, gNl⟩ := id hG
  have hn36 := nE36 hG
  refine R_iload rfl rfl ?_
  refine R_iflt rfl ⟨by omega, by omega⟩ (fun c29 => ?_) (fun c29 => ?_)
  · exact absurd c29 (by omega)
  · refine R_iload_n rfl rfl ?_
    refine R_iload_n rfl rfl ?_
    refine R_icmpge rfl ⟨by omega, by omega⟩ ⟨by omega, by omega⟩ (fun c34 => ?_) (fun c34 => ?_)
    · have hfull := seL_full (lim := most) (s := s) (by omega) (fl (gM G em 0 ch) m i)
      rw [hfull] at kE
      refine R_iload_n rfl rfl ?_
      exact R_ireturn rfl (fun q => absurd q (by decide)) (Nat.zero_le _) (Nat.zero_le _) (by rw [hzn]; exact kE h X F9 m18 m19 hok fr.refl (by omega))
    · refine R_aload_n rfl rfl ?_
      refine R_getfield rfl rfl (by omega) m0 rfl ?_
      refine R_iload rfl rfl ?_
      have hxi : X zd.toNat = (i : Int) - 1 := by
        rw [show zd.toNat = ch.length by omega]
        exact hXi
      refine R_iaload rfl (Or.inl (by omega)) m18 ⟨by omega, by omega, by omega⟩ ?_
      refine R_iconst rfl ?_
      refine R_iadd rfl ?_
      refine R_istore (lv' := [_, _, _, _, _, _, _]) rfl rfl ?_
      refine msc_loop hM hG hN m18 hX hch (by omega) hzd m i (X zd.toNat + 1) hm (by omega) (fun c zc hzc h1 h2 hno hyes => ?_)
      refine R_aload_n rfl rfl ?_
      refine R_getfield rfl rfl (by omega) m0 rfl ?_
      refine R_iload rfl rfl ?_
      refine R_iload rfl rfl ?_
      refine R_iastore rfl (by omega) m18 ⟨by omega, by omega, by omega⟩ ?_
      refine R_iload rfl rfl ?_
      refine R_aload_n rfl rfl ?_
      refine R_vcall rfl rfl ⟨(by omega), _, ((va_up_ne _ _ (by first | exact kne rfl | exact kz | exact kz.symm | omega)).trans m0)⟩ ⟨Nat.le_of_ble_eq_true rfl, Nat.le_of_ble_eq_true rfl, Nat.zero_le _, Nat.zero_le _⟩ (mSize_T (isM0_f hZ fr_0 (by decide)) hG hN (fun z87 hz87 => aRes_i (rest := [_]) ?_))
      refine R_icmpne rfl ⟨by omega, by omega⟩ ⟨by omega, by omega⟩ (fun c90 => ?_) (fun c90 => ?_)
      · have hcl : c < qM G := by omega
        have hcr := hyes hcl
        have hfl := fl_at (r := 0) hm h1 hcl hno hcr
        have hx9 : va_up X zd.toNat zc ch.length = (c : Int) := by
          rw [show ch.length = zd.toNat by omega, va_up_self, hzc]
        have hX9 : chX ch (va_up X zd.toNat zc) := chX_up hX (by omega)
        have hXc := chX_app hX9 hx9
        refine R_iload rfl rfl ?_
        refine R_iconst rfl ?_
        refine R_iadd rfl ?_
        refine R_aload_n rfl rfl ?_
        refine R_getfield rfl rfl (by omega) ((va_up_ne _ _ (by first | exact kne rfl | exact kz | exact kz.symm | omega)).trans m0) rfl ?_
        refine R_sipush rfl ?_
        refine R_iaload rfl (Or.inl (by omega)) ((va_up_ne _ _ (by first | exact kne rfl | exact kz | exact kz.symm | omega)).trans m3) ⟨by omega, by omega, by omega⟩ ?_
        refine R_icmpne rfl ⟨by omega, by omega⟩ ⟨by omega, by omega⟩ (fun c111 => ?_) (fun c111 => ?_)
        · exact absurd (show zd + 1 = S (167 : Int).toNat by omega) c111
        · rw [hfl, show mS G em 0 (ch ++ [c]) = [ch ++ [c]] from rfl, sl_leaf (show s.1 < most by omega)] at kK kE
          refine R_iconst rfl ?_
          refine R_istore (lv' := [_, _, _, _, _, _, _]) rfl rfl ?_
          by_cases hs0 : s.1 = 0
          · have hz0 : zn = 0 := by omega
            rw [hz0]
            refine mkf_loop hG hN (ch := ch ++ [c]) (zd := zd) hXc (by rw [List.length_append]; show zd = ((ch.length + 1 : Nat) : Int) - 1; omega) (by rw [List.length_append]; show ch.length + 1 ≤ 6; omega) (ch ++ [c]).length 0 _ F9 _ (Nat.zero_add _) rfl (isMg_f hM fr_0 (by decide)) (va_up_self _ _ _) ((va_up_ne _ _ (by decide)).trans m19) (fun j hj => absurd hj (Nat.not_lt_zero _)) (fun h5 F5 z5 g5 v5 f5 => ?_)
            refine R_iinc (lv' := [_, _, _, _, _, _, _]) rfl rfl rfl ?_
            refine R_goto rfl ?_
            refine R_goto rfl ?_
            exact ih (qM G - (c + 1)) (by omega) (c + 1) h5 (va_up X zd.toNat zc) F5 _ _ _ _ _ (by omega) (isMg_f hM ((fr_0 (a := 137)).wide (b := 137) (m := 2) (by omega) |>.trans (f5.wide (by omega))) (by decide)) ((f5 _ (by omega)).trans (va_up_self _ _ _)) g5 hX9 (by rw [hx9]; omega) ⟨fun R hR2 => by rw [if_pos hs0] at hR2; cases hR2; exact fun j x hj => v5 j (by rcases Nat.lt_or_ge j (ch ++ [c]).length with q | q; exact q; rw [List.getElem?_eq_none q] at hj; cases hj) x hj, ⟨fun q => absurd q (Nat.succ_ne_zero _), fun q => by rw [if_pos hs0] at q; cases q⟩⟩ (show s.1 + 1 ≤ most by omega) (show (0 : Int) + 1 = ((s.1 + 1 : Nat) : Int) by omega) hzd (fun h9 X' F' l5' l6' q1 q2 q3 q4 q5 => kK h9 X' F' l5' l6' q1 q2 q3 q4 ((((fr_0 (a := 137)).wide (by omega)).trans (f5.wide (by omega))).trans q5)) (fun h9 X' F' q1 q2 q3 q4 q5 => kE h9 X' F' q1 q2 q3 ((((fr_0 (a := 137)).wide (by omega)).trans (f5.wide (by omega))).trans q4) q5)
          · refine R_iload rfl rfl ?_
            refine R_iload rfl rfl ?_
            refine R_icmpgt rfl ⟨by decide, by decide⟩ ⟨by omega, by omega⟩ (fun c121 => ?_) (fun c121 => ?_)
            · exact absurd c121 (by omega)
            · refine R_iload_n rfl rfl ?_
              refine R_ifne rfl ⟨by omega, by omega⟩ (fun c125 => ?_) (fun c125 => ?_)
              · refine R_iinc (lv' := [_, _, _, _, _, _, _]) rfl rfl rfl ?_
                refine R_goto rfl ?_
                refine R_goto rfl ?_
                exact ih (qM G - (c + 1)) (by omega) (c + 1) _ (va_up X zd.toNat zc) F9 _ _ _ _ _ (by omega) (isMg_f hM (fr_0 (a := 137)) (by decide)) (va_up_self _ _ _) ((va_up_ne _ _ (by decide)).trans m19) hX9 (by rw [hx9]; omega) ⟨fun R hR2 => by rw [if_neg hs0] at hR2; exact hok.1 R hR2, ⟨fun q => absurd q (Nat.succ_ne_zero _), fun q => by rw [if_neg hs0] at q; exact absurd (hok.2.mpr q) hs0⟩⟩ (show s.1 + 1 ≤ most by omega) (show zn + 1 = ((s.1 + 1 : Nat) : Int) by omega) hzd (fun h9 X' F' l5' l6' q1 q2 q3 q4 q5 => kK h9 X' F' l5' l6' q1 q2 q3 q4 (((fr_0 (a := 137)).wide (by omega)).trans q5)) (fun h9 X' F' q1 q2 q3 q4 q5 => kE h9 X' F' q1 q2 q3 (((fr_0 (a := 137)).wide (by omega)).trans q4) q5)
              · exact absurd (show zn = 0 by omega) (by omega)
      · have hcm : c = qM G := by omega
        have hnil : fl (gM G em 0 ch) m i = [] := fl_none (fun j h3 h4 => gM_no (hno j h3 (by omega)))
        rw [hnil] at kK
        refine R_iinc (lv' := [_, _, _, _, _, _, _]) rfl rfl rfl ?_
        refine R_goto rfl ?_
        refine R_goto rfl ?_
        rw [show zd + -1 = (ch.length : Int) - 1 by omega, hzn]
        exact kK _ (va_up X zd.toNat zc) F9 _ _ (va_up_self _ _ _) ((va_up_ne _ _ (by decide)).trans m19) (chX_up hX (by omega)) hok ((fr_0 (a := 137)).wide (by omega))
theorem mlv_s {d N : Nat} {G : Gr} {th tl rm : Int} {Q : AQ} {em : Bool} {most : Nat} (hG : okG G) (hN : 139 ≤ N) (hmost : most ≤ 10000000) {r : Nat} (HV : lvP d N G th tl rm Q em most r) : lvP d N G th tl rm Q em most (r + 1) := by
  intro ch hr hch m
  induction m using Nat.strongRecOn with
  | ind m ih =>
  intro i h X F9 s zn zd l5 l6 hm hM m18 m19 hX hXi hok hle hzn hzd kK kE
  obtain ⟨F, D, L, A, W, C, hZ, m11, m12, m13, m14, m15, m16, hE, hA, hW, hC⟩ := id hM
  obtain ⟨S, m0, m3, hR⟩ := id hZ
  obtain ⟨hr0, hr1, rL, rE, rS, hr110, rWn, rWl, hr167, rNl⟩ := id hR
  have r0 : S (0 : Int).toNat = (qR G : Int) := hr0
  have r1 : S (1 : Int).toNat = (qC G : Int) := hr1
  have r110 : S (110 : Int).toNat = (qW G : Int) := hr110
  have r167 : S (167 : Int).toNat = (qN G : Int) := hr167
  obtain ⟨hm4, hm36⟩ := hG.m
  have hmi := qM_int G
  obtain ⟨⟨hr2, hr6⟩, ⟨hc2, hc6⟩, gL, gB, gW, gWn, gWl, gN, gNl⟩ := id hG
  have hn36 := nE36 hG
  refine R_iload rfl rfl ?_
  refine R_iflt rfl ⟨by omega, by omega⟩ (fun c29 => ?_) (fun c29 => ?_)
  · exact absurd c29 (by omega)
  · refine R_iload_n rfl rfl ?_
    refine R_iload_n rfl rfl ?_
    refine R_icmpge rfl ⟨by omega, by omega⟩ ⟨by omega, by omega⟩ (fun c34 => ?_) (fun c34 => ?_)
    · have hfull := seL_full (lim := most) (s := s) (by omega) (fl (gM G em (r + 1) ch) m i)
      rw [hfull] at kE
      refine R_iload_n rfl rfl ?_
      exact R_ireturn rfl (fun q => absurd q (by decide)) (Nat.zero_le _) (Nat.zero_le _) (by rw [hzn]; exact kE h X F9 m18 m19 hok fr.refl (by omega))
    · refine R_aload_n rfl rfl ?_
      refine R_getfield rfl rfl (by omega) m0 rfl ?_
      refine R_iload rfl rfl ?_
      have hxi : X zd.toNat = (i : Int) - 1 := by
        rw [show zd.toNat = ch.length by omega]
        exact hXi
      refine R_iaload rfl (Or.inl (by omega)) m18 ⟨by omega, by omega, by omega⟩ ?_
      refine R_iconst rfl ?_
      refine R_iadd rfl ?_
      refine R_istore (lv' := [_, _, _, _, _, _, _]) rfl rfl ?_
      refine msc_loop hM hG hN m18 hX hch (by omega) hzd m i (X zd.toNat + 1) hm (by omega) (fun c zc hzc h1 h2 hno hyes => ?_)
      refine R_aload_n rfl rfl ?_
      refine R_getfield rfl rfl (by omega) m0 rfl ?_
      refine R_iload rfl rfl ?_
      refine R_iload rfl rfl ?_
      refine R_iastore rfl (by omega) m18 ⟨by omega, by omega, by omega⟩ ?_
      refine R_iload rfl rfl ?_
      refine R_aload_n rfl rfl ?_
      refine R_vcall rfl rfl ⟨(by omega), _, ((va_up_ne _ _ (by first | exact kne rfl | exact kz | exact kz.symm | omega)).trans m0)⟩ ⟨Nat.le_of_ble_eq_true rfl, Nat.le_of_ble_eq_true rfl, Nat.zero_le _, Nat.zero_le _⟩ (mSize_T (isM0_f hZ fr_0 (by decide)) hG hN (fun z87 hz87 => aRes_i (rest := [_]) ?_))
      refine R_icmpne rfl ⟨by omega, by omega⟩ ⟨by omega, by omega⟩ (fun c90 => ?_) (fun c90 => ?_)
      · have hcl : c < qM G := by omega
        have hcr := hyes hcl
        have hfl := fl_at (r := (r + 1)) hm h1 hcl hno hcr
        have hx9 : va_up X zd.toNat zc ch.length = (c : Int) := by
          rw [show ch.length = zd.toNat by omega, va_up_self, hzc]
        have hX9 : chX ch (va_up X zd.toNat zc) := chX_up hX (by omega)
        have hXc := chX_app hX9 hx9
        refine R_iload rfl rfl ?_
        refine R_iconst rfl ?_
        refine R_iadd rfl ?_
        refine R_aload_n rfl rfl ?_
        refine R_getfield rfl rfl (by omega) ((va_up_ne _ _ (by first | exact kne rfl | exact kz | exact kz.symm | omega)).trans m0) rfl ?_
        refine R_sipush rfl ?_
        refine R_iaload rfl (Or.inl (by omega)) ((va_up_ne _ _ (by first | exact kne rfl | exact kz | exact kz.symm | omega)).trans m3) ⟨by omega, by omega, by omega⟩ ?_
        refine R_icmpne rfl ⟨by omega, by omega⟩ ⟨by omega, by omega⟩ (fun c111 => ?_) (fun c111 => ?_)
        · rw [hfl, seL_app] at kK kE
          refine R_iinc (lv' := [_, _, _, _, _, _, _]) rfl rfl rfl ?_
          refine R_aload_n rfl rfl ?_
          refine R_getfield rfl rfl (by omega) ((va_up_ne _ _ (by first | exact kne rfl | exact kz | exact kz.symm | omega)).trans m0) rfl ?_
          refine R_iload rfl rfl ?_
          refine R_iconst rfl ?_
          refine R_iastore rfl (by omega) (va_up_self _ _ _) ⟨by omega, by omega, by omega⟩ ?_
          refine R_goto rfl ?_
          refine HV (ch ++ [c]) (by rw [List.length_append]; show ch.length + 1 + r + 1 = qN G; omega) (ch_lt hch hcl) (qM G) 0 _ _ F9 s _ _ _ _ (Nat.zero_add _) (isMg_f hM fr_2 (by decide)) (va_up_self _ _ _) ((va_up_ne _ _ (by decide)).trans ((va_up_ne _ _ (by decide)).trans m19)) (chX_up hXc (by rw [List.length_append]; show ch.length + 1 ≤ (zd + 1).toNat; omega)) (by
            rw [List.length_append, show ch.length + [c].length = (zd + 1).toNat by show ch.length + 1 = _; omega, va_up_self]
            rfl) hok hle hzn (by rw [List.length_append]; show zd + 1 = ((ch.length + 1 : Nat) : Int); omega) (fun h9 X' F' l5' l6' q1 q2 q3 q4 q5 => ?_) (fun h9 X' F' q1 q2 q3 q4 q5 => ?_)
          · have q6 := chX_pre q3
            have hlen : ((ch ++ [c]).length : Int) - 1 = (ch.length : Int) := by
              rw [List.length_append]
              show ((ch.length + 1 : Nat) : Int) - 1 = _
              omega
            rw [hlen]
            have hse : seL most s (mS G em (r + 1) (ch ++ [c])) = seL most s (fl (gM G em r (ch ++ [c])) (qM G) 0) := rfl
            rw [hse] at kK kE
            exact ih (qM G - (c + 1)) (by omega) (c + 1) h9 X' F' _ _ _ _ _ (by omega) (isMg_f hM ((fr_2 (a := 137)).wide (b := 137) (m := 2) (by omega) |>.trans q5) (by decide)) q1 q2 q6.1 (by rw [q6.2]; omega) q4 (seL_le _ _ hle) rfl rfl (fun h8 X8 F8 l5 l6 p1 p2 p3 p4 p5 => kK h8 X8 F8 l5 l6 p1 p2 p3 p4 (((fr_2 (a := 137)).wide (by omega)).trans (q5.trans p5))) (fun h8 X8 F8 p1 p2 p3 p4 p5 => kE h8 X8 F8 p1 p2 p3 (((fr_2 (a := 137)).wide (by omega)).trans (q5.trans p4)) p5)
          · have hse : seL most s (mS G em (r + 1) (ch ++ [c])) = seL most s (fl (gM G em r (ch ++ [c])) (qM G) 0) := rfl
            have hful := seL_full (lim := most) q5 (fl (gM G em (r + 1) ch) (qM G - (c + 1)) (c + 1))
            rw [hse, hful] at kE
            exact kE h9 X' F' q1 q2 q3 (((fr_2 (a := 137)).wide (by omega)).trans q4) q5
        · exact absurd c111 (by omega)
      · have hcm : c = qM G := by omega
        have hnil : fl (gM G em (r + 1) ch) m i = [] := fl_none (fun j h3 h4 => gM_no (hno j h3 (by omega)))
        rw [hnil] at kK
        refine R_iinc (lv' := [_, _, _, _, _, _, _]) rfl rfl rfl ?_
        refine R_goto rfl ?_
        refine R_goto rfl ?_
        rw [show zd + -1 = (ch.length : Int) - 1 by omega, hzn]
        exact kK _ (va_up X zd.toNat zc) F9 _ _ (va_up_self _ _ _) ((va_up_ne _ _ (by decide)).trans m19) (chX_up hX (by omega)) hok ((fr_0 (a := 137)).wide (by omega))
theorem mlv {d N : Nat} {G : Gr} {th tl rm : Int} {Q : AQ} {em : Bool} {most : Nat} (hG : okG G) (hN : 139 ≤ N) (hmost : most ≤ 10000000) : ∀ r, lvP d N G th tl rm Q em most r
  | 0 => mlv_0 hG hN hmost
  | r + 1 => mlv_s hG hN hmost (mlv hG hN hmost r)
theorem mCount_T {d N : Nat} {h : AH} {G : Gr} {th tl rm : Int} {Q : AQ} (hM : isMg h G th tl rm) (hG : okG G) (hN : 139 ≤ N) (hX0 : ∃ X, h 137 = eI 9 X) (hF0 : ∃ F, h 138 = eI 6 F) {em : Bool} {most : Nat} (hmost : most ≤ 10000000) (hQ : ∀ h' X' F', h' 137 = eI 9 X' → h' 138 = eI 6 F' → ok9 F' (rdS G em most) → fr h h' 137 2 → Q (.inl (some (vI ((rdS G em most).1 : Nat)))) h' N) : T (d + 4) 172 [vR 122, vI (bI em), vI most] h N Q := by
  obtain ⟨F, D, L, A, W, C, hZ, m11, m12, m13, m14, m15, m16, hE, hA, hW, hC⟩ := id hM
  obtain ⟨S, m0, m3, hR⟩ := id hZ
  obtain ⟨hr0, hr1, rL, rE, rS, hr110, rWn, rWl, hr167, rNl⟩ := id hR
  have r0 : S (0 : Int).toNat = (qR G : Int) := hr0
  have r1 : S (1 : Int).toNat = (qC G : Int) := hr1
  have r110 : S (110 : Int).toNat = (qW G : Int) := hr110
  have r167 : S (167 : Int).toNat = (qN G : Int) := hr167
  obtain ⟨hm4, hm36⟩ := hG.m
  have hmi := qM_int G
  obtain ⟨⟨hr2, hr6⟩, ⟨hc2, hc6⟩, gL, gB, gW, gWn, gWl, gN, gNl⟩ := id hG
  have hn36 := nE36 hG
  obtain ⟨X, m18⟩ := hX0
  obtain ⟨F9, m19⟩ := hF0
  refine T_body (I := mi_X9_countReadings) (lv := [_, _, _, _, _, _, _]) rfl (Nat.le_of_ble_eq_true rfl) rfl ?_
  refine R_iconst rfl ?_
  refine R_istore_n (lv' := [_, _, _, _, _, _, _]) rfl rfl ?_
  refine R_aload_n rfl rfl ?_
  refine R_getfield rfl rfl (by omega) m0 rfl ?_
  refine R_sipush rfl ?_
  refine R_iaload rfl (Or.inl (by omega)) m3 ⟨by omega, by omega, by omega⟩ ?_
  refine R_ifne rfl ⟨by omega, by omega⟩ (fun c10 => ?_) (fun c10 => ?_)
  · refine R_iconst rfl ?_
    refine R_istore (lv' := [_, _, _, _, _, _, _]) rfl rfl ?_
    refine R_aload_n rfl rfl ?_
    refine R_getfield rfl rfl (by omega) m0 rfl ?_
    refine R_iconst rfl ?_
    refine R_iconst rfl ?_
    refine R_iastore rfl (by omega) m18 ⟨by omega, by omega, by omega⟩ ?_
    have hrd := rdS_mS hG (em := em) (lim := most) (show ¬ qN G = 0 by omega)
    rw [show rdS G em most = seL most (0, none) (fl (gM G em (qN G - 1) []) (qM G) 0) from hrd] at hQ
    refine mlv hG hN hmost (qN G - 1) [] (by show 0 + (qN G - 1) + 1 = qN G; omega) (fun x hx => absurd hx List.not_mem_nil) (qM G) 0 _ _ F9 (0, none) _ _ _ _ (Nat.zero_add _) (isMg_f hM fr_0 (by decide)) (va_up_self _ _ _) ((va_up_ne _ _ (by decide)).trans m19) (fun j x hj => by cases hj) rfl ⟨fun R q => (by cases q), ⟨fun _ => rfl, fun _ => rfl⟩⟩ (Nat.zero_le _) rfl rfl (fun h9 X' F' l5' l6' q1 q2 q3 q4 q5 => ?_) (fun h9 X' F' q1 q2 q3 q4 q5 => hQ h9 X' F' q1 q2 q3 (((fr_0 (a := 137)).wide (by omega)).trans q4))
    rw [show ((([] : List Nat).length : Int) - 1) = -1 from rfl]
    refine R_iload rfl rfl ?_
    refine R_iflt rfl ⟨by decide, by decide⟩ (fun _ => ?_) (fun c0 => absurd c0 (by decide))
    refine R_iload_n rfl rfl ?_
    exact R_ireturn rfl (fun q => absurd q (by decide)) (Nat.zero_le _) (Nat.zero_le _) (hQ h9 X' F' q1 q2 q4 (((fr_0 (a := 137)).wide (by omega)).trans q5))
  · refine R_iconst rfl ?_
    refine R_goto rfl ?_
    refine R_istore (lv' := [_, _, _, _, _, _, _]) rfl rfl ?_
    refine R_aload_n rfl rfl ?_
    refine R_getfield rfl rfl (by omega) m0 rfl ?_
    refine R_iconst rfl ?_
    refine R_iconst rfl ?_
    refine R_iastore rfl (by omega) m18 ⟨by omega, by omega, by omega⟩ ?_
    have hrd : rdS G em most = (0, none) := by
      unfold rdS rdG
      rw [if_pos (show qN G = 0 by omega)]
      rfl
    rw [hrd] at hQ
    refine R_iload rfl rfl ?_
    refine R_iflt rfl ⟨by decide, by decide⟩ (fun _ => ?_) (fun c0 => absurd c0 (by decide))
    refine R_iload_n rfl rfl ?_
    exact R_ireturn rfl (fun q => absurd q (by decide)) (Nat.zero_le _) (Nat.zero_le _) (hQ _ _ F9 (va_up_self _ _ _) ((va_up_ne _ _ (by decide)).trans m19) ⟨fun R q => (by cases q), ⟨fun _ => rfl, fun _ => rfl⟩⟩ ((fr_0 (a := 137)).wide (by omega)))
theorem isMo_ch {h h' : AH} {y : Sy} {th : Int} {X F9 : Nat → Int} (hY : isMo h y th) (e1 : h' 137 = eI 9 X) (e2 : h' 138 = eI 6 F9) (hf : fr h h' 137 2) : isMo h' y th := by
  obtain ⟨hM, hG, hT, hHi, hSv, ⟨⟨a, ha⟩, ⟨b, hb⟩, hc, -, -⟩⟩ := hY
  exact ⟨isMg_f hM hf (by decide), hG, isMt_fr hT (hf _ (by omega)), isHi_fr hHi (hf _ (by omega)), isSv_fr hSv (hf _ (by omega)) (hf _ (by omega)), ⟨a, (hf _ (by omega)).trans ha⟩, ⟨b, (hf _ (by omega)).trans hb⟩, isRe_fr hc (hf _ (by omega)), ⟨X, e1⟩, F9, e2⟩
theorem mReadings_T {d N : Nat} {h : AH} {th : Int} {Q : AQ} {G : Gr} {hist : List Gr} {sl : Nat → Option Gr} {n : Nat} {tx : Nat → Int} (hY : isMo h (G, hist, sl, n, tx) th) (hN : 139 ≤ N) (hQ : moQ (opReadings (G, hist, sl, n, tx)) h N Q) : T (d + 5) 173 [vR 122] h N Q := by
  obtain ⟨hM, hG, hT, hHi, hSv, hRw⟩ := id hY
  have hM : isMg h G th n hist.length := hM
  have hG : okG G := hG
  have hT : isMt h n tx := hT
  have hHi : isHi h hist := hHi
  have hSv : isSv h sl := hSv
  obtain ⟨F, D, L, A, W, C, hZ, m11, m12, m13, m14, m15, m16, hE, hA, hW, hC⟩ := id hM
  obtain ⟨S, m0, m3, hR⟩ := id hZ
  obtain ⟨hr0, hr1, rL, rE, rS, hr110, rWn, rWl, hr167, rNl⟩ := id hR
  have r0 : S (0 : Int).toNat = (qR G : Int) := hr0
  have r1 : S (1 : Int).toNat = (qC G : Int) := hr1
  have r110 : S (110 : Int).toNat = (qW G : Int) := hr110
  have r167 : S (167 : Int).toNat = (qN G : Int) := hr167
  obtain ⟨hm4, hm36⟩ := hG.m
  have hmi := qM_int G
  obtain ⟨⟨hr2, hr6⟩, ⟨hc2, hc6⟩, gL, gB, gW, gWn, gWl, gN, gNl⟩ := id hG
  have hn36 := nE36 hG
  obtain ⟨tf, m1, hn150, htf⟩ := id hT
  refine T_body (I := mi_X9_readings) (lv := [_]) rfl (Nat.le_of_ble_eq_true rfl) rfl ?_
  refine R_aload_n rfl rfl ?_
  refine R_iconst rfl ?_
  refine R_putfield rfl rfl (by omega) m0 (Nat.le_of_ble_eq_true rfl) (by first | trivial | exact trivial | omega) ?_
  refine R_aload_n rfl rfl ?_
  refine R_iconst rfl ?_
  refine R_ldc rfl rfl ?_
  refine R_vcall rfl rfl ⟨(by omega), _, (va_up_self _ _ _)⟩ ⟨Nat.le_of_ble_eq_true rfl, Nat.le_of_ble_eq_true rfl, Nat.zero_le _, Nat.zero_le _⟩ (mCount_T (em := false) (most := 10000000) (G := G) (isMo_th (th' := 0) hY).1 hG hN (isMo_th (th' := 0) hY).2.2.2.2.2.2.2.2.1 (isMo_th (th' := 0) hY).2.2.2.2.2.2.2.2.2 (by decide) (fun h2 X2 F2 e1 e2 hok f2 => aRes_i (rest := []) ?_))
  have hY2 := isMo_ch (isMo_th (th' := 0) hY) e1 e2 f2
  obtain ⟨S2, x9m0, x9m3, x9R⟩ := hY2.1.z
  exact R_ireturn rfl (fun q => absurd q (by decide)) (Nat.zero_le _) (Nat.zero_le _) (moQ_v hQ rfl hY2 ((fr_up fr.refl (by omega)).trans (f2.wide (by omega))) (by show _ = (((rdS G false 2147483647).1 : Nat) : Int); rw [rd_big hG]))
theorem mPossible_T {d N : Nat} {h : AH} {th : Int} {Q : AQ} {G : Gr} {hist : List Gr} {sl : Nat → Option Gr} {n : Nat} {tx : Nat → Int} (hY : isMo h (G, hist, sl, n, tx) th) (hN : 139 ≤ N) (hQ : moQ (opPossible (G, hist, sl, n, tx)) h N Q) : T (d + 5) 189 [vR 122] h N Q := by
  obtain ⟨hM, hG, hT, hHi, hSv, hRw⟩ := id hY
  have hM : isMg h G th n hist.length := hM
  have hG : okG G := hG
  have hT : isMt h n tx := hT
  have hHi : isHi h hist := hHi
  have hSv : isSv h sl := hSv
  obtain ⟨F, D, L, A, W, C, hZ, m11, m12, m13, m14, m15, m16, hE, hA, hW, hC⟩ := id hM
  obtain ⟨S, m0, m3, hR⟩ := id hZ
  obtain ⟨hr0, hr1, rL, rE, rS, hr110, rWn, rWl, hr167, rNl⟩ := id hR
  have r0 : S (0 : Int).toNat = (qR G : Int) := hr0
  have r1 : S (1 : Int).toNat = (qC G : Int) := hr1
  have r110 : S (110 : Int).toNat = (qW G : Int) := hr110
  have r167 : S (167 : Int).toNat = (qN G : Int) := hr167
  obtain ⟨hm4, hm36⟩ := hG.m
  have hmi := qM_int G
  obtain ⟨⟨hr2, hr6⟩, ⟨hc2, hc6⟩, gL, gB, gW, gWn, gWl, gN, gNl⟩ := id hG
  have hn36 := nE36 hG
  obtain ⟨tf, m1, hn150, htf⟩ := id hT
  refine T_body (I := mi_X9_possible) (lv := [_]) rfl (Nat.le_of_ble_eq_true rfl) rfl ?_
  refine R_aload_n rfl rfl ?_
  refine R_iconst rfl ?_
  refine R_putfield rfl rfl (by omega) m0 (Nat.le_of_ble_eq_true rfl) (by first | trivial | exact trivial | omega) ?_
  refine R_aload_n rfl rfl ?_
  refine R_iconst rfl ?_
  refine R_sipush rfl ?_
  refine R_vcall rfl rfl ⟨(by omega), _, (va_up_self _ _ _)⟩ ⟨Nat.le_of_ble_eq_true rfl, Nat.le_of_ble_eq_true rfl, Nat.zero_le _, Nat.zero_le _⟩ (mCount_T (em := true) (most := 9999) (G := G) (isMo_th (th' := 0) hY).1 hG hN (isMo_th (th' := 0) hY).2.2.2.2.2.2.2.2.1 (isMo_th (th' := 0) hY).2.2.2.2.2.2.2.2.2 (by decide) (fun h2 X2 F2 e1 e2 hok f2 => aRes_i (rest := []) ?_))
  have hY2 := isMo_ch (isMo_th (th' := 0) hY) e1 e2 f2
  obtain ⟨S2, x9m0, x9m3, x9R⟩ := hY2.1.z
  exact R_ireturn rfl (fun q => absurd q (by decide)) (Nat.zero_le _) (Nat.zero_le _) (moQ_v hQ rfl hY2 ((fr_up fr.refl (by omega)).trans (f2.wide (by omega))) rfl)
theorem mReading_T {d N : Nat} {h : AH} {th : Int} {Q : AQ} {G : Gr} {hist : List Gr} {sl : Nat → Option Gr} {n : Nat} {tx : Nat → Int} (hY : isMo h (G, hist, sl, n, tx) th) (hN : 139 ≤ N) {c : Int} (hc : inR c) (hQ : moQ (opReading (G, hist, sl, n, tx) c) h N Q) : T (d + 5) 174 [vR 122, vI c] h N Q := by
  obtain ⟨hM, hG, hT, hHi, hSv, hRw⟩ := id hY
  have hM : isMg h G th n hist.length := hM
  have hG : okG G := hG
  have hT : isMt h n tx := hT
  have hHi : isHi h hist := hHi
  have hSv : isSv h sl := hSv
  obtain ⟨F, D, L, A, W, C, hZ, m11, m12, m13, m14, m15, m16, hE, hA, hW, hC⟩ := id hM
  obtain ⟨S, m0, m3, hR⟩ := id hZ
  obtain ⟨hr0, hr1, rL, rE, rS, hr110, rWn, rWl, hr167, rNl⟩ := id hR
  have r0 : S (0 : Int).toNat = (qR G : Int) := hr0
  have r1 : S (1 : Int).toNat = (qC G : Int) := hr1
  have r110 : S (110 : Int).toNat = (qW G : Int) := hr110
  have r167 : S (167 : Int).toNat = (qN G : Int) := hr167
  obtain ⟨hm4, hm36⟩ := hG.m
  have hmi := qM_int G
  obtain ⟨⟨hr2, hr6⟩, ⟨hc2, hc6⟩, gL, gB, gW, gWn, gWl, gN, gNl⟩ := id hG
  have hn36 := nE36 hG
  obtain ⟨tf, m1, hn150, htf⟩ := id hT
  obtain ⟨hc1, hc2⟩ := hc
  refine T_body (I := mi_X9_reading) (lv := [_, _]) rfl (Nat.le_of_ble_eq_true rfl) rfl ?_
  refine R_aload_n rfl rfl ?_
  refine R_iload_n rfl rfl ?_
  refine R_ifge rfl ⟨by omega, by omega⟩ (fun c2 => ?_) (fun c2 => ?_)
  · have ho : opReading (G, hist, sl, n, tx) c = (0, fstG G c.toNat, (G, hist, sl, n, tx)) := if_pos (by omega)
    refine R_iconst rfl ?_
    refine R_putfield rfl rfl (by omega) m0 (Nat.le_of_ble_eq_true rfl) (by first | trivial | exact trivial | omega) ?_
    refine R_aload_n rfl rfl ?_
    refine R_getfield rfl rfl (by omega) (va_up_self _ _ _) rfl ?_
    refine R_ifle rfl ⟨by decide, by decide⟩ (fun _ => ?_) (fun c0 => absurd c0 (by decide))
    refine R_aload_n rfl rfl ?_
    refine R_iconst rfl ?_
    refine R_iconst rfl ?_
    refine R_vcall rfl rfl ⟨(by omega), _, (va_up_self _ _ _)⟩ ⟨Nat.le_of_ble_eq_true rfl, Nat.le_of_ble_eq_true rfl, Nat.zero_le _, Nat.zero_le _⟩ (mCount_T (em := false) (most := 1) (G := G) (isMo_th (th' := 0) hY).1 hG hN (isMo_th (th' := 0) hY).2.2.2.2.2.2.2.2.1 (isMo_th (th' := 0) hY).2.2.2.2.2.2.2.2.2 (by decide) (fun h2 X2 F2 e1 e2 hok f2 => aRes_i (rest := []) ?_))
    have hY2 := isMo_ch (isMo_th (th' := 0) hY) e1 e2 f2
    obtain ⟨S2, x9m0, x9m3, x9R⟩ := hY2.1.z
    have hle : (rdS G false 1).1 ≤ 1 := by
      rw [rdS_min]
      omega
    have x9q : S2 (167 : Int).toNat = (qN G : Int) := x9R.2.2.2.2.2.2.2.2.1
    refine R_ifeq rfl ⟨by omega, by omega⟩ (fun c28 => ?_) (fun c28 => ?_)
    · have hv : (-9 : Int) = fstG G c.toNat := by
        unfold fstG
        rw [rdS_none.mp (by omega)]
      refine R_bipush rfl ?_
      refine R_goto rfl ?_
      exact R_ireturn rfl (fun q => absurd q (by decide)) (Nat.zero_le _) (Nat.zero_le _) (moQ_v hQ ho hY2 ((fr_up fr.refl (by omega)).trans (f2.wide (by omega))) hv)
    · obtain ⟨R, hRe⟩ : ∃ R, (rdS G false 1).2 = some R := by
        cases q : (rdS G false 1).2 with
        | some R => exact ⟨R, rfl⟩
        | none => exact absurd (rdS_none.mpr q) (by omega)
      have hRl := rdS_len hG hRe
      refine R_iload_n rfl rfl ?_
      refine R_aload_n rfl rfl ?_
      refine R_getfield rfl rfl (by omega) x9m0 rfl ?_
      refine R_sipush rfl ?_
      refine R_iaload rfl (Or.inl (by omega)) x9m3 ⟨by omega, by omega, by omega⟩ ?_
      refine R_icmplt rfl ⟨by omega, by omega⟩ ⟨by omega, by omega⟩ (fun c40 => ?_) (fun c40 => ?_)
      · obtain ⟨x, hx⟩ : ∃ x, R[c.toNat]? = some x := ⟨_, List.getElem?_eq_getElem (show c.toNat < R.length by omega)⟩
        have hfx := hok.1 R hRe _ x hx
        have hv : F2 c.toNat = fstG G c.toNat := by
          unfold fstG
          rw [hRe]
          simp only []
          rw [hx]
          exact hfx
        refine R_aload_n rfl rfl ?_
        refine R_getfield rfl rfl (by omega) x9m0 rfl ?_
        refine R_iload_n rfl rfl ?_
        refine R_iaload rfl (Or.inl (by omega)) e2 ⟨by omega, by omega, by omega⟩ ?_
        exact R_ireturn rfl (fun q => absurd q (by decide)) (Nat.zero_le _) (Nat.zero_le _) (moQ_v hQ ho hY2 ((fr_up fr.refl (by omega)).trans (f2.wide (by omega))) hv)
      · have hv : (-9 : Int) = fstG G c.toNat := by
          unfold fstG
          rw [hRe]
          simp only []
          rw [List.getElem?_eq_none (by omega)]
        refine R_bipush rfl ?_
        refine R_goto rfl ?_
        exact R_ireturn rfl (fun q => absurd q (by decide)) (Nat.zero_le _) (Nat.zero_le _) (moQ_v hQ ho hY2 ((fr_up fr.refl (by omega)).trans (f2.wide (by omega))) hv)
  · have ho : opReading (G, hist, sl, n, tx) c = (0 + 1, 0, (G, hist, sl, n, tx)) := if_neg (by omega)
    refine R_iconst rfl ?_
    refine R_goto rfl ?_
    refine R_putfield rfl rfl (by omega) m0 (Nat.le_of_ble_eq_true rfl) (by first | trivial | exact trivial | omega) ?_
    refine R_aload_n rfl rfl ?_
    refine R_getfield rfl rfl (by omega) (va_up_self _ _ _) rfl ?_
    refine R_ifle rfl ⟨by decide, by decide⟩ (fun c0 => absurd c0 (by decide)) (fun _ => ?_)
    refine R_iconst rfl ?_
    exact R_ireturn rfl (fun q => absurd q (by decide)) (Nat.zero_le _) (Nat.zero_le _) (moQ_t hQ ho rfl (isMo_th hY) (fr_up fr.refl (by omega)))
