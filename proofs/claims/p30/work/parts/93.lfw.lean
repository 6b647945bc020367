/-! ===== the law's fillings: the walk ===== -/
set_option maxRecDepth 20000 in
theorem fs0 {d N a : Nat} {h : AH} {G : Gr} {Q : AQ} {f g : Nat → Int} {zw : Int} (hZ : isW h G) (hG : sm4 G) (haN : 126 ≤ a ∧ a + 1 < N) (me : h a = eI 32 f) (md : h (a + 1) = eI 32 g) {l : List (Nat × Bool)} (hl : arrL f g l) (hln : l.length < 32) {c : Nat} (hc : c < qM G) {zm : Int} (hzm : zm = l.length) (k : ∀ (h1 : AH) (f1 g1 : Nat → Int) (zm1 : Int), h1 a = eI 32 f1 → h1 (a + 1) = eI 32 g1 → (∀ j, j ≠ a → j ≠ a + 1 → h1 j = h j) → arrL f1 g1 (l ++ (if st G false c = true then [(c, false)] else [])) → zm1 = (l ++ (if st G false c = true then [(c, false)] else [])).length → Run mi_L_fillings (T (d + 4)) Q 65 [some (vI zw), some (vR 122), some (vR 123), some (vR a), some (vR (a + 1)), some (vI zm1), some (vI (c : Int)), some (vI 0), none, none, none, none, none, none, none, none] [] h1 N 2 64) : Run mi_L_fillings (T (d + 4)) Q 38 [some (vI zw), some (vR 122), some (vR 123), some (vR a), some (vR (a + 1)), some (vI zm), some (vI (c : Int)), some (vI 0), none, none, none, none, none, none, none, none] [] h N 2 64 := by
  obtain ⟨w, m0, hw0, hw1, wL, wE, wS⟩ := id hZ
  have r0 : w (0 : Int).toNat = (qR G : Int) := hw0
  have r1 : w (1 : Int).toNat = (qC G : Int) := hw1
  have hm16 := sm4_m hG
  obtain ⟨hO, hR4, hC4⟩ := id hG
  obtain ⟨hm4, hm36⟩ := hO.m
  obtain ⟨⟨hr2, hr6⟩, ⟨hc2, hc6⟩, gL, gB, gW, gWn, gWl, gN, gNl⟩ := id hO
  obtain ⟨haN1, haN2⟩ := haN
  refine R_iload rfl rfl ?_
  refine R_iload rfl rfl ?_
  refine R_aload_n rfl rfl ?_
  refine R_scall rfl rfl ⟨Nat.le_of_ble_eq_true rfl, Nat.le_of_ble_eq_true rfl, Nat.le_of_ble_eq_true rfl, Nat.le_of_ble_eq_true rfl⟩ (starts_T (b := false) (c := c) hZ hG (by omega) rfl rfl hc (fun z43 hz43 => aRes_i (rest := []) ?_))
  have hs9 := bI01 (st G false c)
  rw [← hz43] at hs9
  refine R_ifeq rfl ⟨by omega, by omega⟩ (fun c46 => ?_) (fun c46 => ?_)
  · have hst := bI_f hz43 c46
    exact k h f g _ me md (fun _ _ _ => rfl) (by rw [hst, if_neg (by decide), List.append_nil]; exact hl) (by rw [hst, if_neg (by decide), List.append_nil]; exact hzm)
  · have hst := bI_t hz43 c46
    subst hzm
    refine R_aload_n rfl rfl ?_
    refine R_iload rfl rfl ?_
    refine R_iload rfl rfl ?_
    refine R_iastore rfl (by omega) me ⟨by omega, by omega, by omega⟩ ?_
    refine R_aload rfl rfl ?_
    refine R_iload rfl rfl ?_
    refine R_iinc (lv' := [_, _, _, _, _, _, _, _, _, _, _, _, _, _, _, _]) rfl rfl rfl ?_
    refine R_iload rfl rfl ?_
    refine R_iastore rfl (by omega) ((va_up_ne _ _ (by first | exact kne rfl | exact kz | exact kz.symm | omega)).trans md) ⟨by omega, by omega, by omega⟩ ?_
    exact k _ _ _ _ ((va_up_ne _ _ (by omega)).trans (va_up_self _ _ _)) (va_up_self _ _ _) (fun j h1 h2 => (va_up_ne _ _ h2).trans (va_up_ne _ _ h1)) (by rw [hst, if_pos rfl]; exact arrL_app hl) (by rw [hst, if_pos rfl, List.length_append]; rfl)
set_option maxRecDepth 20000 in
theorem fs1 {d N a : Nat} {h : AH} {G : Gr} {Q : AQ} {f g : Nat → Int} {zw : Int} (hZ : isW h G) (hG : sm4 G) (haN : 126 ≤ a ∧ a + 1 < N) (me : h a = eI 32 f) (md : h (a + 1) = eI 32 g) {l : List (Nat × Bool)} (hl : arrL f g l) (hln : l.length < 32) {c : Nat} (hc : c < qM G) {zm : Int} (hzm : zm = l.length) (k : ∀ (h1 : AH) (f1 g1 : Nat → Int) (zm1 : Int), h1 a = eI 32 f1 → h1 (a + 1) = eI 32 g1 → (∀ j, j ≠ a → j ≠ a + 1 → h1 j = h j) → arrL f1 g1 (l ++ (if st G true c = true then [(c, true)] else [])) → zm1 = (l ++ (if st G true c = true then [(c, true)] else [])).length → Run mi_L_fillings (T (d + 4)) Q 65 [some (vI zw), some (vR 122), some (vR 123), some (vR a), some (vR (a + 1)), some (vI zm1), some (vI (c : Int)), some (vI 1), none, none, none, none, none, none, none, none] [] h1 N 2 64) : Run mi_L_fillings (T (d + 4)) Q 38 [some (vI zw), some (vR 122), some (vR 123), some (vR a), some (vR (a + 1)), some (vI zm), some (vI (c : Int)), some (vI 1), none, none, none, none, none, none, none, none] [] h N 2 64 := by
  obtain ⟨w, m0, hw0, hw1, wL, wE, wS⟩ := id hZ
  have r0 : w (0 : Int).toNat = (qR G : Int) := hw0
  have r1 : w (1 : Int).toNat = (qC G : Int) := hw1
  have hm16 := sm4_m hG
  obtain ⟨hO, hR4, hC4⟩ := id hG
  obtain ⟨hm4, hm36⟩ := hO.m
  obtain ⟨⟨hr2, hr6⟩, ⟨hc2, hc6⟩, gL, gB, gW, gWn, gWl, gN, gNl⟩ := id hO
  obtain ⟨haN1, haN2⟩ := haN
  refine R_iload rfl rfl ?_
  refine R_iload rfl rfl ?_
  refine R_aload_n rfl rfl ?_
  refine R_scall rfl rfl ⟨Nat.le_of_ble_eq_true rfl, Nat.le_of_ble_eq_true rfl, Nat.le_of_ble_eq_true rfl, Nat.le_of_ble_eq_true rfl⟩ (starts_T (b := true) (c := c) hZ hG (by omega) rfl rfl hc (fun z43 hz43 => aRes_i (rest := []) ?_))
  have hs9 := bI01 (st G true c)
  rw [← hz43] at hs9
  refine R_ifeq rfl ⟨by omega, by omega⟩ (fun c46 => ?_) (fun c46 => ?_)
  · have hst := bI_f hz43 c46
    exact k h f g _ me md (fun _ _ _ => rfl) (by rw [hst, if_neg (by decide), List.append_nil]; exact hl) (by rw [hst, if_neg (by decide), List.append_nil]; exact hzm)
  · have hst := bI_t hz43 c46
    subst hzm
    refine R_aload_n rfl rfl ?_
    refine R_iload rfl rfl ?_
    refine R_iload rfl rfl ?_
    refine R_iastore rfl (by omega) me ⟨by omega, by omega, by omega⟩ ?_
    refine R_aload rfl rfl ?_
    refine R_iload rfl rfl ?_
    refine R_iinc (lv' := [_, _, _, _, _, _, _, _, _, _, _, _, _, _, _, _]) rfl rfl rfl ?_
    refine R_iload rfl rfl ?_
    refine R_iastore rfl (by omega) ((va_up_ne _ _ (by first | exact kne rfl | exact kz | exact kz.symm | omega)).trans md) ⟨by omega, by omega, by omega⟩ ?_
    exact k _ _ _ _ ((va_up_ne _ _ (by omega)).trans (va_up_self _ _ _)) (va_up_self _ _ _) (fun j h1 h2 => (va_up_ne _ _ h2).trans (va_up_ne _ _ h1)) (by rw [hst, if_pos rfl]; exact arrL_app hl) (by rw [hst, if_pos rfl, List.length_append]; rfl)
set_option maxRecDepth 20000 in
theorem fb_loop {d N a : Nat} {h0 : AH} {G : Gr} {Q : AQ} {zw : Int} (hG : sm4 G) (haN : 126 ≤ a ∧ a + 1 < N) : ∀ (r c : Nat) (h : AH) (f g : Nat → Int) (zm zc : Int), c + r = qM G → zc = c → zm = (cnt G c : Nat) → isW h G → h a = eI 32 f → h (a + 1) = eI 32 g → arrL f g (entsTo G c) → (∀ j, j ≠ a → j ≠ a + 1 → h j = h0 j) → (∀ (h1 : AH) (f1 g1 : Nat → Int) (zc1 : Int), isW h1 G → h1 a = eI 32 f1 → h1 (a + 1) = eI 32 g1 → arrL f1 g1 (ents G) → (∀ j, j ≠ a → j ≠ a + 1 → h1 j = h0 j) → Run mi_L_fillings (T (d + 4)) Q 77 [some (vI zw), some (vR 122), some (vR 123), some (vR a), some (vR (a + 1)), some (vI ((nE G : Nat) : Int)), some (vI zc1), none, none, none, none, none, none, none, none, none] [] h1 N 2 64) → Run mi_L_fillings (T (d + 4)) Q 17 [some (vI zw), some (vR 122), some (vR 123), some (vR a), some (vR (a + 1)), some (vI zm), some (vI zc), none, none, none, none, none, none, none, none, none] [] h N 2 64 := by
  intro r
  induction r using Nat.strongRecOn with
  | ind r ih =>
  intro c h f g zm zc hr hzc hzm hZ me md hl hoo k
  have hmi := qM_int G
  obtain ⟨w, m0, hw0, hw1, wL, wE, wS⟩ := id hZ
  have r0 : w (0 : Int).toNat = (qR G : Int) := hw0
  have r1 : w (1 : Int).toNat = (qC G : Int) := hw1
  have hm16 := sm4_m hG
  obtain ⟨hO, hR4, hC4⟩ := id hG
  obtain ⟨hm4, hm36⟩ := hO.m
  obtain ⟨⟨hr2, hr6⟩, ⟨hc2, hc6⟩, gL, gB, gW, gWn, gWl, gN, gNl⟩ := id hO
  obtain ⟨haN1, haN2⟩ := id haN
  refine R_iload rfl rfl ?_
  refine R_aload_n rfl rfl ?_
  refine R_iconst rfl ?_
  refine R_iaload rfl (Or.inl (by omega)) m0 ⟨by omega, by omega, by omega⟩ ?_
  rw [r0]
  refine R_aload_n rfl rfl ?_
  refine R_iconst rfl ?_
  refine R_iaload rfl (Or.inl (by omega)) m0 ⟨by omega, by omega, by omega⟩ ?_
  rw [r1]
  refine R_imul rfl ?_
  rw [hmi]
  refine R_icmpge rfl ⟨by omega, by omega⟩ ⟨by omega, by omega⟩ (fun c26 => ?_) (fun c26 => ?_)
  · have hr0 : r = 0 := by omega
    subst hr0
    obtain rfl : c = qM G := by omega
    subst hzm
    exact k h f g _ hZ me md hl hoo
  · obtain ⟨r, rfl⟩ : ∃ r1, r = r1 + 1 := ⟨r - 1, by omega⟩
    subst hzc
    refine R_iconst rfl ?_
    refine R_istore (lv' := [_, _, _, _, _, _, _, _, _, _, _, _, _, _, _, _]) rfl rfl ?_
    refine R_iload rfl rfl ?_
    refine R_iconst rfl ?_
    refine R_icmpge rfl ⟨by decide, by decide⟩ ⟨by decide, by decide⟩ (fun c0 => absurd c0 (by decide)) (fun _ => ?_)
    refine fs0 hZ hG haN me md hl (by have := cnt_2 (G := G) c; rw [entsTo_len]; omega) (c := c) (by omega) (by rw [hzm, entsTo_len]) (fun h1 f1 g1 zm1 e1 e2 e3 e4 hzm1 => ?_)
    refine R_iinc (lv' := [_, _, _, _, _, _, _, _, _, _, _, _, _, _, _, _]) rfl rfl rfl ?_
    refine R_goto rfl ?_
    refine R_iload rfl rfl ?_
    refine R_iconst rfl ?_
    refine R_icmpge rfl ⟨by decide, by decide⟩ ⟨by decide, by decide⟩ (fun c0 => absurd c0 (by decide)) (fun _ => ?_)
    refine fs1 (hZ := isW_fr hZ (e3 122 (by omega) (by omega))) hG haN e1 e2 e4 (by have := cnt_2 (G := G) c; rw [List.length_append, entsTo_len]; cases st G false c <;> simp <;> omega) (c := c) (by omega) hzm1 (fun h2 f2 g2 zm2 e5 e6 e7 e8 e10 => ?_)
    have hZ2 := isW_fr (isW_fr hZ (e3 122 (by omega) (by omega))) (e7 122 (by omega) (by omega))
    refine R_iinc (lv' := [_, _, _, _, _, _, _, _, _, _, _, _, _, _, _, _]) rfl rfl rfl ?_
    refine R_goto rfl ?_
    refine R_iload rfl rfl ?_
    refine R_iconst rfl ?_
    refine R_icmpge rfl ⟨by decide, by decide⟩ ⟨by decide, by decide⟩ (fun _ => ?_) (fun c0 => absurd c0 (by decide))
    refine R_iinc (lv' := [_, _, _, _, _, _, _, _, _, _, _, _, _, _, _, _]) rfl rfl rfl ?_
    refine R_goto rfl ?_
    refine Run.lv (lv' := [_, _, _, _, _, _, _, none, none, none, none, none, none, none, none, none]) ?_ ⟨Or.inr rfl, Or.inr rfl, Or.inr rfl, Or.inr rfl, Or.inr rfl, Or.inr rfl, Or.inr rfl, Or.inl rfl, Or.inl rfl, Or.inl rfl, Or.inl rfl, Or.inl rfl, Or.inl rfl, Or.inl rfl, Or.inl rfl, Or.inl rfl, trivial⟩
    have e9 : entsTo G c ++ (if st G false c = true then [(c, false)] else []) ++ (if st G true c = true then [(c, true)] else []) = entsTo G (c + 1) := List.append_assoc _ _ _
    rw [e9] at e8 e10
    exact ih r (by omega) (c + 1) h2 f2 g2 _ _ (by omega) (by omega) (by rw [e10, entsTo_len]) hZ2 e5 e6 e8 (fun j h3 h4 => (e7 j h3 h4).trans ((e3 j h3 h4).trans (hoo j h3 h4))) k
/-- the law's rows while it fills -/
def fS (h : AH) (a : Nat) (G : Gr) (g f9 : Nat → Int) : Prop := isW h G ∧ isWo h G ∧ (∃ F D, h a = eI 32 F ∧ h (a + 1) = eI 32 D ∧ ∀ e, e < nE G → F e = (eC G e : Int) ∧ D e = bI (eB G e)) ∧ h (a + 2) = eI 16 g ∧ h (a + 3) = eI 4 f9
theorem fS_g {h h1 : AH} {a : Nat} {G : Gr} {g f9 g1 : Nat → Int} (hS : fS h a G g f9) (ha : 126 ≤ a) (h2 : h1 (a + 2) = eI 16 g1) (h3 : ∀ j, j ≠ a + 2 → h1 j = h j) : fS h1 a G g1 f9 := by
  obtain ⟨s1, s2, ⟨F, D, s3, s4, s5⟩, s6, s7⟩ := hS
  exact ⟨isW_fr s1 (h3 _ (by omega)), isWo_fr s2 (h3 _ (by omega)), ⟨F, D, (h3 _ (by omega)).trans s3, (h3 _ (by omega)).trans s4, s5⟩, h2, (h3 _ (by omega)).trans s7⟩
theorem fS_o {h h1 : AH} {a : Nat} {G : Gr} {g f9 f1 : Nat → Int} (hS : fS h a G g f9) (ha : 126 ≤ a) (h2 : h1 (a + 3) = eI 4 f1) (h3 : ∀ j, j ≠ a + 3 → h1 j = h j) : fS h1 a G g f1 := by
  obtain ⟨s1, s2, ⟨F, D, s3, s4, s5⟩, s6, s7⟩ := hS
  exact ⟨isW_fr s1 (h3 _ (by omega)), isWo_fr s2 (h3 _ (by omega)), ⟨F, D, (h3 _ (by omega)).trans s3, (h3 _ (by omega)).trans s4, s5⟩, (h3 _ (by omega)).trans s6, h2⟩
theorem ne_dist {ch : List Nat} {w : Nat} {f9 : Nat → Int} (hX : chX ch f9) (hw : f9 ch.length = (w : Int)) : alF (fun k => !decide (f9 k = f9 ch.length)) ch.length 0 = !ch.contains w := by
  apply Bool.eq_iff_iff.mpr
  rw [al_iff]
  constructor
  · intro h
    cases hc : ch.contains w with
    | false => rfl
    | true =>
      have hm : w ∈ ch := by simpa using hc
      obtain ⟨j, hj, hjw⟩ := List.getElem_of_mem hm
      have h1 := h j (Nat.zero_le _) (by omega)
      have h2 := hX j w (by rw [List.getElem?_eq_getElem hj, hjw])
      rw [hw, h2, decide_eq_true rfl] at h1
      cases h1
  · intro h j _ hj
    have hj : j < ch.length := by omega
    have h2 := hX j ch[j] (List.getElem?_eq_getElem hj)
    have hne : ch[j] ≠ w := fun q => by
      have : w ∈ ch := by rw [← q]; exact List.getElem_mem hj
      have hc : ch.contains w = true := by simpa using this
      rw [hc] at h
      cases h
    rw [h2, hw, decide_eq_false (by omega)]
    rfl
set_option maxRecDepth 20000 in
theorem zr_loop {d N a : Nat} {h0 : AH} {G : Gr} {Q : AQ} {f9 : Nat → Int} {zy zn zo zr : Int} (hG : sm4 G) (haN : 126 ≤ a ∧ a + 3 < N) : ∀ (r i : Nat) (h : AH) (g : Nat → Int) (zi : Int), i + r = 16 → zi = i → fS h a G g f9 → (∀ j, j ≠ a + 2 → h j = h0 j) → (∀ j, j < i → g j = 0) → (∀ (h1 : AH) (g1 : Nat → Int) (zi1 : Int), fS h1 a G g1 f9 → (∀ j, j ≠ a + 2 → h1 j = h0 j) → (∀ j, j < 16 → g1 j = 0) → Run mi_L_fillings (T (d + 4)) Q 177 [some (vI ((qW G : Nat) : Int)), some (vR 122), some (vR 123), some (vR a), some (vR (a + 1)), some (vI ((nE G : Nat) : Int)), some (vI zy), some (vI zn), some (vR (a + 2)), some (vR (a + 3)), some (vI zo), some (vI zr), some (vI 1), some (vI zi1), none, none] [] h1 N 4 84) → Run mi_L_fillings (T (d + 4)) Q 158 [some (vI ((qW G : Nat) : Int)), some (vR 122), some (vR 123), some (vR a), some (vR (a + 1)), some (vI ((nE G : Nat) : Int)), some (vI zy), some (vI zn), some (vR (a + 2)), some (vR (a + 3)), some (vI zo), some (vI zr), some (vI 1), some (vI zi), none, none] [] h N 4 84 := by
  intro r
  induction r using Nat.strongRecOn with
  | ind r ih =>
  intro i h g zi hr hzi hS hoo hz k
  obtain ⟨hZ, hV, ⟨F, D, me, md, hE⟩, mg, mo⟩ := id hS
  obtain ⟨w, m0, hw0, hw1, wL, wE, wS⟩ := id hZ
  have r0 : w (0 : Int).toNat = (qR G : Int) := hw0
  have r1 : w (1 : Int).toNat = (qC G : Int) := hw1
  have hm16 := sm4_m hG
  obtain ⟨hO, hR4, hC4⟩ := id hG
  obtain ⟨hm4, hm36⟩ := hO.m
  obtain ⟨⟨hr2, hr6⟩, ⟨hc2, hc6⟩, gL, gB, gW, gWn, gWl, gN, gNl⟩ := id hO
  obtain ⟨hw4, v, mv, hv⟩ := id hV
  obtain ⟨haN1, haN2⟩ := id haN
  refine R_iload rfl rfl ?_
  refine R_bipush rfl ?_
  refine R_icmpge rfl ⟨by omega, by omega⟩ ⟨by decide, by decide⟩ (fun c162 => ?_) (fun c162 => ?_)
  · have hr0 : r = 0 := by omega
    subst hr0
    exact k h g _ hS hoo (fun j hj => hz j (by omega))
  · obtain ⟨r, rfl⟩ : ∃ r1, r = r1 + 1 := ⟨r - 1, by omega⟩
    subst hzi
    refine R_aload rfl rfl ?_
    refine R_iload rfl rfl ?_
    refine R_iconst rfl ?_
    refine R_iastore rfl (by omega) mg ⟨by omega, by omega, by omega⟩ ?_
    refine R_iinc (lv' := [_, _, _, _, _, _, _, _, _, _, _, _, _, _, _, _]) rfl rfl rfl ?_
    refine R_goto rfl ?_
    exact ih r (by omega) (i + 1) _ (va_up g i 0) _ (by omega) (by omega) (fS_g hS haN1 (va_up_self _ _ _) (fun j hj => va_up_ne _ _ hj)) (fun j hj => (va_up_ne _ _ hj).trans (hoo j hj)) (fun j hj => by
      by_cases q : j = i
      · rw [q, va_up_self]
      · rw [va_up_ne _ _ q]
        exact hz j (by omega)) k
set_option maxRecDepth 20000 in
theorem fk_true {d N a : Nat} {h : AH} {G : Gr} {Q : AQ} {g f9 : Nat → Int} (hS : fS h a G g f9) (hG : sm4 G) (haN : 126 ≤ a ∧ a + 3 < N) (hn4 : nE G ≤ 4) {e : Nat} {zy zn zo zr : Int} (he : e < 4) (hfr : ∀ j, j ≤ e → 0 ≤ f9 j ∧ f9 j < 8) {j : Nat} (hj : j < e) (k : Run mi_L_fillings (T (d + 4)) Q 242 [some (vI ((qW G : Nat) : Int)), some (vR 122), some (vR 123), some (vR a), some (vR (a + 1)), some (vI ((nE G : Nat) : Int)), some (vI zy), some (vI zn), some (vR (a + 2)), some (vR (a + 3)), some (vI zo), some (vI zr), some (vI (bI (true && !decide (f9 j = f9 e)))), some (vI (e : Int)), some (vI (j : Int)), none] [] h N 4 84) : Run mi_L_fillings (T (d + 4)) Q 217 [some (vI ((qW G : Nat) : Int)), some (vR 122), some (vR 123), some (vR a), some (vR (a + 1)), some (vI ((nE G : Nat) : Int)), some (vI zy), some (vI zn), some (vR (a + 2)), some (vR (a + 3)), some (vI zo), some (vI zr), some (vI (bI true)), some (vI (e : Int)), some (vI (j : Int)), none] [] h N 4 84 := by
  obtain ⟨hZ, hV, ⟨F, D, me, md, hE⟩, mg, mo⟩ := id hS
  obtain ⟨w, m0, hw0, hw1, wL, wE, wS⟩ := id hZ
  have r0 : w (0 : Int).toNat = (qR G : Int) := hw0
  have r1 : w (1 : Int).toNat = (qC G : Int) := hw1
  have hm16 := sm4_m hG
  obtain ⟨hO, hR4, hC4⟩ := id hG
  obtain ⟨hm4, hm36⟩ := hO.m
  obtain ⟨⟨hr2, hr6⟩, ⟨hc2, hc6⟩, gL, gB, gW, gWn, gWl, gN, gNl⟩ := id hO
  obtain ⟨hw4, v, mv, hv⟩ := id hV
  obtain ⟨haN1, haN2⟩ := id haN
  have hfj : 0 ≤ f9 ((j : Int)).toNat ∧ f9 ((j : Int)).toNat < 8 := hfr j (by omega)
  have hfe : 0 ≤ f9 ((e : Int)).toNat ∧ f9 ((e : Int)).toNat < 8 := hfr e (Nat.le_refl _)
  have ej : f9 ((j : Int)).toNat = f9 j := rfl
  have ee : f9 ((e : Int)).toNat = f9 e := rfl
  refine R_iload rfl rfl ?_
  refine R_ifeq rfl ⟨by decide, by decide⟩ (fun c0 => absurd c0 (by decide)) (fun _ => ?_)
  refine R_aload rfl rfl ?_
  refine R_iload rfl rfl ?_
  refine R_iaload rfl (Or.inl (by omega)) mo ⟨by omega, by omega, by omega⟩ ?_
  refine R_aload rfl rfl ?_
  refine R_iload rfl rfl ?_
  refine R_iaload rfl (Or.inl (by omega)) mo ⟨by omega, by omega, by omega⟩ ?_
  refine R_icmpeq rfl ⟨by omega, by omega⟩ ⟨by omega, by omega⟩ (fun c232 => ?_) (fun c232 => ?_)
  · have hv9 : (!decide (f9 j = f9 e)) = false := by
      rw [decide_eq_true (show f9 j = f9 e by omega)]
      rfl
    rw [hv9] at k
    refine R_iconst rfl ?_
    refine R_istore (lv' := [_, _, _, _, _, _, _, _, _, _, _, _, _, _, _, _]) rfl rfl ?_
    exact k
  · have hv9 : (!decide (f9 j = f9 e)) = true := by
      rw [decide_eq_false (show ¬ f9 j = f9 e by omega)]
      rfl
    rw [hv9] at k
    refine R_iconst rfl ?_
    refine R_goto rfl ?_
    refine R_istore (lv' := [_, _, _, _, _, _, _, _, _, _, _, _, _, _, _, _]) rfl rfl ?_
    exact k
set_option maxRecDepth 20000 in
theorem fk_false {d N a : Nat} {h : AH} {G : Gr} {Q : AQ} {g f9 : Nat → Int} (hS : fS h a G g f9) (hG : sm4 G) (haN : 126 ≤ a ∧ a + 3 < N) (hn4 : nE G ≤ 4) {e : Nat} {zy zn zo zr : Int} (he : e < 4) (hfr : ∀ j, j ≤ e → 0 ≤ f9 j ∧ f9 j < 8) {j : Nat} (hj : j < e) (k : Run mi_L_fillings (T (d + 4)) Q 242 [some (vI ((qW G : Nat) : Int)), some (vR 122), some (vR 123), some (vR a), some (vR (a + 1)), some (vI ((nE G : Nat) : Int)), some (vI zy), some (vI zn), some (vR (a + 2)), some (vR (a + 3)), some (vI zo), some (vI zr), some (vI (bI (false && !decide (f9 j = f9 e)))), some (vI (e : Int)), some (vI (j : Int)), none] [] h N 4 84) : Run mi_L_fillings (T (d + 4)) Q 217 [some (vI ((qW G : Nat) : Int)), some (vR 122), some (vR 123), some (vR a), some (vR (a + 1)), some (vI ((nE G : Nat) : Int)), some (vI zy), some (vI zn), some (vR (a + 2)), some (vR (a + 3)), some (vI zo), some (vI zr), some (vI (bI false)), some (vI (e : Int)), some (vI (j : Int)), none] [] h N 4 84 := by
  obtain ⟨hZ, hV, ⟨F, D, me, md, hE⟩, mg, mo⟩ := id hS
  obtain ⟨w, m0, hw0, hw1, wL, wE, wS⟩ := id hZ
  have r0 : w (0 : Int).toNat = (qR G : Int) := hw0
  have r1 : w (1 : Int).toNat = (qC G : Int) := hw1
  have hm16 := sm4_m hG
  obtain ⟨hO, hR4, hC4⟩ := id hG
  obtain ⟨hm4, hm36⟩ := hO.m
  obtain ⟨⟨hr2, hr6⟩, ⟨hc2, hc6⟩, gL, gB, gW, gWn, gWl, gN, gNl⟩ := id hO
  obtain ⟨hw4, v, mv, hv⟩ := id hV
  obtain ⟨haN1, haN2⟩ := id haN
  have hfj : 0 ≤ f9 ((j : Int)).toNat ∧ f9 ((j : Int)).toNat < 8 := hfr j (by omega)
  have hfe : 0 ≤ f9 ((e : Int)).toNat ∧ f9 ((e : Int)).toNat < 8 := hfr e (Nat.le_refl _)
  have ej : f9 ((j : Int)).toNat = f9 j := rfl
  have ee : f9 ((e : Int)).toNat = f9 e := rfl
  refine R_iload rfl rfl ?_
  refine R_ifeq rfl ⟨by decide, by decide⟩ (fun _ => ?_) (fun c0 => absurd c0 (by decide))
  refine R_iconst rfl ?_
  refine R_istore (lv' := [_, _, _, _, _, _, _, _, _, _, _, _, _, _, _, _]) rfl rfl ?_
  exact k
set_option maxRecDepth 20000 in
theorem fk {d N a : Nat} {h : AH} {G : Gr} {Q : AQ} {g f9 : Nat → Int} (hS : fS h a G g f9) (hG : sm4 G) (haN : 126 ≤ a ∧ a + 3 < N) (hn4 : nE G ≤ 4) {e : Nat} {zy zn zo zr : Int} (he : e < 4) (hfr : ∀ j, j ≤ e → 0 ≤ f9 j ∧ f9 j < 8) {b : Bool} {j : Nat} (hj : j < e) (k : Run mi_L_fillings (T (d + 4)) Q 242 [some (vI ((qW G : Nat) : Int)), some (vR 122), some (vR 123), some (vR a), some (vR (a + 1)), some (vI ((nE G : Nat) : Int)), some (vI zy), some (vI zn), some (vR (a + 2)), some (vR (a + 3)), some (vI zo), some (vI zr), some (vI (bI (b && !decide (f9 j = f9 e)))), some (vI (e : Int)), some (vI (j : Int)), none] [] h N 4 84) : Run mi_L_fillings (T (d + 4)) Q 217 [some (vI ((qW G : Nat) : Int)), some (vR 122), some (vR 123), some (vR a), some (vR (a + 1)), some (vI ((nE G : Nat) : Int)), some (vI zy), some (vI zn), some (vR (a + 2)), some (vR (a + 3)), some (vI zo), some (vI zr), some (vI (bI b)), some (vI (e : Int)), some (vI (j : Int)), none] [] h N 4 84 := by
  cases b
  · exact fk_false hS hG haN hn4 he hfr hj k
  · exact fk_true hS hG haN hn4 he hfr hj k
set_option maxRecDepth 20000 in
theorem fk_loop {d N a : Nat} {h : AH} {G : Gr} {Q : AQ} {g f9 : Nat → Int} (hS : fS h a G g f9) (hG : sm4 G) (haN : 126 ≤ a ∧ a + 3 < N) (hn4 : nE G ≤ 4) {e : Nat} {zy zn zo zr : Int} (he : e < 4) (hfr : ∀ j, j ≤ e → 0 ≤ f9 j ∧ f9 j < 8) : ∀ (r j : Nat) (b : Bool) (zj : Int), j + r = e → zj = j → (∀ (b1 : Bool) (zj1 : Int), b1 = (b && alF (fun k => !decide (f9 k = f9 e)) r j) → Run mi_L_fillings (T (d + 4)) Q 248 [some (vI ((qW G : Nat) : Int)), some (vR 122), some (vR 123), some (vR a), some (vR (a + 1)), some (vI ((nE G : Nat) : Int)), some (vI zy), some (vI zn), some (vR (a + 2)), some (vR (a + 3)), some (vI zo), some (vI zr), some (vI (bI b1)), some (vI (e : Int)), some (vI zj1), none] [] h N 4 84) → Run mi_L_fillings (T (d + 4)) Q 210 [some (vI ((qW G : Nat) : Int)), some (vR 122), some (vR 123), some (vR a), some (vR (a + 1)), some (vI ((nE G : Nat) : Int)), some (vI zy), some (vI zn), some (vR (a + 2)), some (vR (a + 3)), some (vI zo), some (vI zr), some (vI (bI b)), some (vI (e : Int)), some (vI zj), none] [] h N 4 84 := by
  obtain ⟨hZ, hV, ⟨F, D, me, md, hE⟩, mg, mo⟩ := id hS
  obtain ⟨w, m0, hw0, hw1, wL, wE, wS⟩ := id hZ
  have r0 : w (0 : Int).toNat = (qR G : Int) := hw0
  have r1 : w (1 : Int).toNat = (qC G : Int) := hw1
  have hm16 := sm4_m hG
  obtain ⟨hO, hR4, hC4⟩ := id hG
  obtain ⟨hm4, hm36⟩ := hO.m
  obtain ⟨⟨hr2, hr6⟩, ⟨hc2, hc6⟩, gL, gB, gW, gWn, gWl, gN, gNl⟩ := id hO
  obtain ⟨hw4, v, mv, hv⟩ := id hV
  obtain ⟨haN1, haN2⟩ := id haN
  intro r
  induction r using Nat.strongRecOn with
  | ind r ih =>
  intro j b zj hr hzj k
  refine R_iload rfl rfl ?_
  refine R_iload rfl rfl ?_
  refine R_icmpge rfl ⟨by omega, by omega⟩ ⟨by omega, by omega⟩ (fun c214 => ?_) (fun c214 => ?_)
  · have hr0 : r = 0 := by omega
    subst hr0
    exact k _ _ (by simp only [alF, Bool.and_true])
  · obtain ⟨r, rfl⟩ : ∃ r1, r = r1 + 1 := ⟨r - 1, by omega⟩
    subst hzj
    refine fk hS hG haN hn4 he hfr (j := j) (by omega) ?_
    refine R_iinc (lv' := [_, _, _, _, _, _, _, _, _, _, _, _, _, _, _, _]) rfl rfl rfl ?_
    refine R_goto rfl ?_
    exact ih r (by omega) (j + 1) _ _ (by omega) (by omega) (fun b2 j2 hb2 => k b2 j2 (by rw [hb2]; simp only [alF, Bool.and_assoc]))
set_option maxRecDepth 20000 in
theorem ff_true {d N a : Nat} {h : AH} {G : Gr} {Q : AQ} {g f9 : Nat → Int} (hS : fS h a G g f9) (hG : sm4 G) (haN : 126 ≤ a ∧ a + 3 < N) (hn4 : nE G ≤ 4) {e x : Nat} {zy zn zo zr zk : Int} (he : e < nE G) (hx : x < qW G) (hfx : f9 e = (x : Int)) (k : Run mi_L_fillings (T (d + 4)) Q 282 [some (vI ((qW G : Nat) : Int)), some (vR 122), some (vR 123), some (vR a), some (vR (a + 1)), some (vI ((nE G : Nat) : Int)), some (vI zy), some (vI zn), some (vR (a + 2)), some (vR (a + 3)), some (vI zo), some (vI zr), some (vI (bI (true && fiG G e x))), some (vI (e : Int)), some (vI zk), none] [] h N 4 84) : Run mi_L_fillings (T (d + 4)) Q 248 [some (vI ((qW G : Nat) : Int)), some (vR 122), some (vR 123), some (vR a), some (vR (a + 1)), some (vI ((nE G : Nat) : Int)), some (vI zy), some (vI zn), some (vR (a + 2)), some (vR (a + 3)), some (vI zo), some (vI zr), some (vI (bI true)), some (vI (e : Int)), some (vI zk), none] [] h N 4 84 := by
  obtain ⟨hZ, hV, ⟨F, D, me, md, hE⟩, mg, mo⟩ := id hS
  obtain ⟨w, m0, hw0, hw1, wL, wE, wS⟩ := id hZ
  have r0 : w (0 : Int).toNat = (qR G : Int) := hw0
  have r1 : w (1 : Int).toNat = (qC G : Int) := hw1
  have hm16 := sm4_m hG
  obtain ⟨hO, hR4, hC4⟩ := id hG
  obtain ⟨hm4, hm36⟩ := hO.m
  obtain ⟨⟨hr2, hr6⟩, ⟨hc2, hc6⟩, gL, gB, gW, gWn, gWl, gN, gNl⟩ := id hO
  obtain ⟨hw4, v, mv, hv⟩ := id hV
  obtain ⟨haN1, haN2⟩ := id haN
  obtain ⟨hfe, hge⟩ := hE e he
  obtain ⟨hs1, hs2, hs3⟩ := eST he
  refine R_iload rfl rfl ?_
  refine R_ifeq rfl ⟨by decide, by decide⟩ (fun c0 => absurd c0 (by decide)) (fun _ => ?_)
  refine R_aload rfl rfl ?_
  refine R_iload rfl rfl ?_
  refine R_iaload rfl (Or.inl (by omega)) md ⟨by omega, by omega, by omega⟩ ?_
  refine R_aload_n rfl rfl ?_
  refine R_iload rfl rfl ?_
  refine R_iaload rfl (Or.inl (by omega)) me ⟨by omega, by omega, by omega⟩ ?_
  refine R_aload rfl rfl ?_
  refine R_iload rfl rfl ?_
  refine R_iaload rfl (Or.inl (by omega)) mo ⟨by omega, by omega, by omega⟩ ?_
  refine R_aload_n rfl rfl ?_
  refine R_aload_n rfl rfl ?_
  refine R_scall rfl rfl ⟨Nat.le_of_ble_eq_true rfl, Nat.le_of_ble_eq_true rfl, Nat.le_of_ble_eq_true rfl, Nat.le_of_ble_eq_true rfl⟩ (fits_L (c := eC G e) (j := x) (b := eB G e) hZ hV hG (by omega) hs1 hx hge hfe hfx hs2 (fun z269 hz269 => aRes_i (rest := []) ?_))
  rw [fi2_e] at hz269
  have hfb := bI01 (fiG G e x)
  rw [← hz269] at hfb
  refine R_ifeq rfl ⟨by omega, by omega⟩ (fun c272 => ?_) (fun c272 => ?_)
  · have hv9 := bI_f hz269 c272
    rw [hv9] at k
    refine R_iconst rfl ?_
    refine R_istore (lv' := [_, _, _, _, _, _, _, _, _, _, _, _, _, _, _, _]) rfl rfl ?_
    exact k
  · have hv9 := bI_t hz269 c272
    rw [hv9] at k
    refine R_iconst rfl ?_
    refine R_goto rfl ?_
    refine R_istore (lv' := [_, _, _, _, _, _, _, _, _, _, _, _, _, _, _, _]) rfl rfl ?_
    exact k
set_option maxRecDepth 20000 in
theorem ff_false {d N a : Nat} {h : AH} {G : Gr} {Q : AQ} {g f9 : Nat → Int} (hS : fS h a G g f9) (hG : sm4 G) (haN : 126 ≤ a ∧ a + 3 < N) (hn4 : nE G ≤ 4) {e x : Nat} {zy zn zo zr zk : Int} (he : e < nE G) (hx : x < qW G) (hfx : f9 e = (x : Int)) (k : Run mi_L_fillings (T (d + 4)) Q 282 [some (vI ((qW G : Nat) : Int)), some (vR 122), some (vR 123), some (vR a), some (vR (a + 1)), some (vI ((nE G : Nat) : Int)), some (vI zy), some (vI zn), some (vR (a + 2)), some (vR (a + 3)), some (vI zo), some (vI zr), some (vI (bI (false && fiG G e x))), some (vI (e : Int)), some (vI zk), none] [] h N 4 84) : Run mi_L_fillings (T (d + 4)) Q 248 [some (vI ((qW G : Nat) : Int)), some (vR 122), some (vR 123), some (vR a), some (vR (a + 1)), some (vI ((nE G : Nat) : Int)), some (vI zy), some (vI zn), some (vR (a + 2)), some (vR (a + 3)), some (vI zo), some (vI zr), some (vI (bI false)), some (vI (e : Int)), some (vI zk), none] [] h N 4 84 := by
  obtain ⟨hZ, hV, ⟨F, D, me, md, hE⟩, mg, mo⟩ := id hS
  obtain ⟨w, m0, hw0, hw1, wL, wE, wS⟩ := id hZ
  have r0 : w (0 : Int).toNat = (qR G : Int) := hw0
  have r1 : w (1 : Int).toNat = (qC G : Int) := hw1
  have hm16 := sm4_m hG
  obtain ⟨hO, hR4, hC4⟩ := id hG
  obtain ⟨hm4, hm36⟩ := hO.m
  obtain ⟨⟨hr2, hr6⟩, ⟨hc2, hc6⟩, gL, gB, gW, gWn, gWl, gN, gNl⟩ := id hO
  obtain ⟨hw4, v, mv, hv⟩ := id hV
  obtain ⟨haN1, haN2⟩ := id haN
  obtain ⟨hfe, hge⟩ := hE e he
  obtain ⟨hs1, hs2, hs3⟩ := eST he
  refine R_iload rfl rfl ?_
  refine R_ifeq rfl ⟨by decide, by decide⟩ (fun _ => ?_) (fun c0 => absurd c0 (by decide))
  refine R_iconst rfl ?_
  refine R_istore (lv' := [_, _, _, _, _, _, _, _, _, _, _, _, _, _, _, _]) rfl rfl ?_
  exact k
set_option maxRecDepth 20000 in
theorem ff {d N a : Nat} {h : AH} {G : Gr} {Q : AQ} {g f9 : Nat → Int} (hS : fS h a G g f9) (hG : sm4 G) (haN : 126 ≤ a ∧ a + 3 < N) (hn4 : nE G ≤ 4) {e x : Nat} {zy zn zo zr zk : Int} (he : e < nE G) (hx : x < qW G) (hfx : f9 e = (x : Int)) {b : Bool} (k : Run mi_L_fillings (T (d + 4)) Q 282 [some (vI ((qW G : Nat) : Int)), some (vR 122), some (vR 123), some (vR a), some (vR (a + 1)), some (vI ((nE G : Nat) : Int)), some (vI zy), some (vI zn), some (vR (a + 2)), some (vR (a + 3)), some (vI zo), some (vI zr), some (vI (bI (b && fiG G e x))), some (vI (e : Int)), some (vI zk), none] [] h N 4 84) : Run mi_L_fillings (T (d + 4)) Q 248 [some (vI ((qW G : Nat) : Int)), some (vR 122), some (vR 123), some (vR a), some (vR (a + 1)), some (vI ((nE G : Nat) : Int)), some (vI zy), some (vI zn), some (vR (a + 2)), some (vR (a + 3)), some (vI zo), some (vI zr), some (vI (bI b)), some (vI (e : Int)), some (vI zk), none] [] h N 4 84 := by
  cases b
  · exact ff_false hS hG haN hn4 he hx hfx k
  · exact ff_true hS hG haN hn4 he hx hfx k
set_option maxRecDepth 20000 in
theorem fo_f {d N a : Nat} {h : AH} {G : Gr} {Q : AQ} {g f9 : Nat → Int} (hS : fS h a G g f9) (hG : sm4 G) (haN : 126 ≤ a ∧ a + 3 < N) (hn4 : nE G ≤ 4) {e x : Nat} {zy zn zo zr zk : Int} (he : e < nE G) (hx : x < qW G) (hfx : f9 e = (x : Int)) {zi : Int} {l15 : Option AV} (hzi : 0 ≤ zi ∧ zi < 8) (k : Run mi_L_fillings (T (d + 4)) Q 391 [some (vI ((qW G : Nat) : Int)), some (vR 122), some (vR 123), some (vR a), some (vR (a + 1)), some (vI ((nE G : Nat) : Int)), some (vI zy), some (vI zn), some (vR (a + 2)), some (vR (a + 3)), some (vI zo), some (vI zr), some (vI 0), some (vI (e : Int)), some (vI zi), l15] [] h N 4 84) : Run mi_L_fillings (T (d + 4)) Q 285 [some (vI ((qW G : Nat) : Int)), some (vR 122), some (vR 123), some (vR a), some (vR (a + 1)), some (vI ((nE G : Nat) : Int)), some (vI zy), some (vI zn), some (vR (a + 2)), some (vR (a + 3)), some (vI zo), some (vI zr), some (vI 0), some (vI (e : Int)), some (vI zi), l15] [] h N 4 84 := by
  obtain ⟨hZ, hV, ⟨F, D, me, md, hE⟩, mg, mo⟩ := id hS
  obtain ⟨w, m0, hw0, hw1, wL, wE, wS⟩ := id hZ
  have r0 : w (0 : Int).toNat = (qR G : Int) := hw0
  have r1 : w (1 : Int).toNat = (qC G : Int) := hw1
  have hm16 := sm4_m hG
  obtain ⟨hO, hR4, hC4⟩ := id hG
  obtain ⟨hm4, hm36⟩ := hO.m
  obtain ⟨⟨hr2, hr6⟩, ⟨hc2, hc6⟩, gL, gB, gW, gWn, gWl, gN, gNl⟩ := id hO
  obtain ⟨hw4, v, mv, hv⟩ := id hV
  obtain ⟨haN1, haN2⟩ := id haN
  have hfx9 : f9 ((e : Int)).toNat = (x : Int) := hfx
  have hvn : v ((4 : Int) * f9 ((e : Int)).toNat).toNat = (qWn G x : Int) := by
    rw [show ((4 : Int) * f9 ((e : Int)).toNat).toNat = 4 * x by rw [hfx9]; omega]
    exact (hv x hx).1
  have hq3 := (hv x hx).2.1
  have hq2 := gWn x hx
  obtain ⟨hzi1, hzi2⟩ := hzi
  refine R_iload rfl rfl ?_
  refine R_aload_n rfl rfl ?_
  refine R_iconst rfl ?_
  refine R_aload rfl rfl ?_
  refine R_iload rfl rfl ?_
  refine R_iaload rfl (Or.inl (by omega)) mo ⟨by omega, by omega, by omega⟩ ?_
  refine R_imul rfl ?_
  refine R_iaload rfl (Or.inl (by omega)) mv ⟨by omega, by omega, by omega⟩ ?_
  rw [hvn]
  refine R_icmpge rfl ⟨by omega, by omega⟩ ⟨by omega, by omega⟩ (fun c296 => ?_) (fun c296 => ?_)
  · exact k
  · refine R_iload rfl rfl ?_
    refine R_ifeq rfl ⟨by decide, by decide⟩ (fun _ => ?_) (fun c0 => absurd c0 (by decide))
    exact k
set_option maxRecDepth 20000 in
theorem fc_c {d N a : Nat} {h : AH} {G : Gr} {Q : AQ} {g f9 : Nat → Int} (hS : fS h a G g f9) (hG : sm4 G) (haN : 126 ≤ a ∧ a + 3 < N) (hn4 : nE G ≤ 4) {e x : Nat} {zy zn zo zr zk : Int} (he : e < nE G) (hx : x < qW G) (hfx : f9 e = (x : Int)) {i : Nat} (hi : i < eN G e) {l15 : Option AV} (k : Run mi_L_fillings (T (d + 4)) Q 327 [some (vI ((qW G : Nat) : Int)), some (vR 122), some (vR 123), some (vR a), some (vR (a + 1)), some (vI ((nE G : Nat) : Int)), some (vI zy), some (vI zn), some (vR (a + 2)), some (vR (a + 3)), some (vI zo), some (vI zr), some (vI 1), some (vI (e : Int)), some (vI (i : Int)), l15] [vI ((cel G e i : Nat) : Int)] h N 4 84) : Run mi_L_fillings (T (d + 4)) Q 304 [some (vI ((qW G : Nat) : Int)), some (vR 122), some (vR 123), some (vR a), some (vR (a + 1)), some (vI ((nE G : Nat) : Int)), some (vI zy), some (vI zn), some (vR (a + 2)), some (vR (a + 3)), some (vI zo), some (vI zr), some (vI 1), some (vI (e : Int)), some (vI (i : Int)), l15] [] h N 4 84 := by
  obtain ⟨hZ, hV, ⟨F, D, me, md, hE⟩, mg, mo⟩ := id hS
  obtain ⟨w, m0, hw0, hw1, wL, wE, wS⟩ := id hZ
  have r0 : w (0 : Int).toNat = (qR G : Int) := hw0
  have r1 : w (1 : Int).toNat = (qC G : Int) := hw1
  have hm16 := sm4_m hG
  obtain ⟨hO, hR4, hC4⟩ := id hG
  obtain ⟨hm4, hm36⟩ := hO.m
  obtain ⟨⟨hr2, hr6⟩, ⟨hc2, hc6⟩, gL, gB, gW, gWn, gWl, gN, gNl⟩ := id hO
  obtain ⟨hw4, v, mv, hv⟩ := id hV
  obtain ⟨haN1, haN2⟩ := id haN
  obtain ⟨hfe, hge⟩ := hE e he
  obtain ⟨hs1, hs2, hs3⟩ := eST he
  have hfe9 : F ((e : Int)).toNat = (eC G e : Int) := hfe
  have hge9 : D ((e : Int)).toNat = bI (eB G e) := hge
  have hbb := bI01 (eB G e)
  have hmz0 : eB G e = false → (eC G e : Int) + (i : Int) * 1 = ((cel G e i : Nat) : Int) := fun hb => by
    unfold cel
    rw [hb]
    show _ = ((eC G e + i * 1 : Nat) : Int)
    omega
  have hmz1 : eB G e = true → (eC G e : Int) + (i : Int) * (qC G : Int) = ((cel G e i : Nat) : Int) := fun hb => by
    unfold cel
    rw [hb]
    rfl
  refine R_aload_n rfl rfl ?_
  refine R_iload rfl rfl ?_
  refine R_iaload rfl (Or.inl (by omega)) me ⟨by omega, by omega, by omega⟩ ?_
  rw [hfe9]
  refine R_iload rfl rfl ?_
  refine R_aload rfl rfl ?_
  refine R_iload rfl rfl ?_
  refine R_iaload rfl (Or.inl (by omega)) md ⟨by omega, by omega, by omega⟩ ?_
  rw [hge9]
  refine R_ifne rfl ⟨by omega, by omega⟩ (fun c315 => ?_) (fun c315 => ?_)
  · have hb9 := bI_t rfl c315
    refine R_aload_n rfl rfl ?_
    refine R_iconst rfl ?_
    refine R_iaload rfl (Or.inl (by omega)) m0 ⟨by omega, by omega, by omega⟩ ?_
    refine R_imul rfl ?_
    refine R_iadd rfl ?_
    first | (rw [r1, hmz1 hb9]; exact k) | (rw [hmz0 hb9]; exact k)
  · have hb9 := bI_f rfl (show bI (eB G e) = 0 by omega)
    refine R_iconst rfl ?_
    refine R_goto rfl ?_
    refine R_imul rfl ?_
    refine R_iadd rfl ?_
    first | (rw [r1, hmz1 hb9]; exact k) | (rw [hmz0 hb9]; exact k)
set_option maxRecDepth 20000 in
theorem fc_u {d N a : Nat} {h : AH} {G : Gr} {Q : AQ} {g f9 : Nat → Int} (hS : fS h a G g f9) (hG : sm4 G) (haN : 126 ≤ a ∧ a + 3 < N) (hn4 : nE G ≤ 4) {e x : Nat} {zy zn zo zr zk : Int} (he : e < nE G) (hx : x < qW G) (hfx : f9 e = (x : Int)) {i : Nat} (hi : i < eN G e) (hqn : eN G e = qWn G x) (hgr : g (cel G e i) = 0 ∨ isLet (g (cel G e i))) {l15 : Option AV} (k : ∀ h1 : AH, h1 (a + 2) = eI 16 (va_up g (cel G e i) (qWl G x i)) → (∀ j, j ≠ a + 2 → h1 j = h j) → Run mi_L_fillings (T (d + 4)) Q 385 [some (vI ((qW G : Nat) : Int)), some (vR 122), some (vR 123), some (vR a), some (vR (a + 1)), some (vI ((nE G : Nat) : Int)), some (vI zy), some (vI zn), some (vR (a + 2)), some (vR (a + 3)), some (vI zo), some (vI zr), some (vI (bI (decide (g (cel G e i) = 0) || decide (g (cel G e i) = qWl G x i)))), some (vI (e : Int)), some (vI (i : Int)), some (vI ((cel G e i : Nat) : Int))] [] h1 N 4 84) : Run mi_L_fillings (T (d + 4)) Q 327 [some (vI ((qW G : Nat) : Int)), some (vR 122), some (vR 123), some (vR a), some (vR (a + 1)), some (vI ((nE G : Nat) : Int)), some (vI zy), some (vI zn), some (vR (a + 2)), some (vR (a + 3)), some (vI zo), some (vI zr), some (vI 1), some (vI (e : Int)), some (vI (i : Int)), l15] [vI ((cel G e i : Nat) : Int)] h N 4 84 := by
  obtain ⟨hZ, hV, ⟨F, D, me, md, hE⟩, mg, mo⟩ := id hS
  obtain ⟨w, m0, hw0, hw1, wL, wE, wS⟩ := id hZ
  have r0 : w (0 : Int).toNat = (qR G : Int) := hw0
  have r1 : w (1 : Int).toNat = (qC G : Int) := hw1
  have hm16 := sm4_m hG
  obtain ⟨hO, hR4, hC4⟩ := id hG
  obtain ⟨hm4, hm36⟩ := hO.m
  obtain ⟨⟨hr2, hr6⟩, ⟨hc2, hc6⟩, gL, gB, gW, gWn, gWl, gN, gNl⟩ := id hO
  obtain ⟨hw4, v, mv, hv⟩ := id hV
  obtain ⟨haN1, haN2⟩ := id haN
  have hfx9 : f9 ((e : Int)).toNat = (x : Int) := hfx
  have hvn : v ((4 : Int) * f9 ((e : Int)).toNat).toNat = (qWn G x : Int) := by
    rw [show ((4 : Int) * f9 ((e : Int)).toNat).toNat = 4 * x by rw [hfx9]; omega]
    exact (hv x hx).1
  have hq3 := (hv x hx).2.1
  have hq2 := gWn x hx
  have hvl : v ((4 : Int) * f9 ((e : Int)).toNat + 1 + (i : Int)).toNat = qWl G x i := by
    rw [show ((4 : Int) * f9 ((e : Int)).toNat + 1 + (i : Int)).toNat = 4 * x + 1 + i by rw [hfx9]; omega]
    exact (hv x hx).2.2 i (by omega)
  have hcl := cel_lt hO he hi
  have hg9 : g (((cel G e i : Nat) : Int)).toNat = g (cel G e i) := rfl
  obtain ⟨hgw1, hgw2⟩ := gWl x i hx (by omega)
  have hgrr : 0 ≤ g (cel G e i) ∧ g (cel G e i) ≤ 122 := by
    rcases hgr with q | ⟨q1, q2⟩ <;> omega
  refine R_istore (lv' := [_, _, _, _, _, _, _, _, _, _, _, _, _, _, _, _]) rfl rfl ?_
  refine R_aload rfl rfl ?_
  refine R_iload rfl rfl ?_
  refine R_iaload rfl (Or.inl (by omega)) mg ⟨by omega, by omega, by omega⟩ ?_
  rw [hg9]
  refine R_ifeq rfl ⟨by omega, by omega⟩ (fun c334 => ?_) (fun c334 => ?_)
  · have hp : (decide (g (cel G e i) = 0) || decide (g (cel G e i) = qWl G x i)) = true := by
      rw [decide_eq_true c334]
      rfl
    rw [hp] at k
    refine R_iconst rfl ?_
    refine R_goto rfl ?_
    refine R_istore (lv' := [_, _, _, _, _, _, _, _, _, _, _, _, _, _, _, _]) rfl rfl ?_
    refine R_aload rfl rfl ?_
    refine R_iload rfl rfl ?_
    refine R_aload_n rfl rfl ?_
    refine R_iconst rfl ?_
    refine R_aload rfl rfl ?_
    refine R_iload rfl rfl ?_
    refine R_iaload rfl (Or.inl (by omega)) mo ⟨by omega, by omega, by omega⟩ ?_
    refine R_imul rfl ?_
    refine R_iconst rfl ?_
    refine R_iadd rfl ?_
    refine R_iload rfl rfl ?_
    refine R_iadd rfl ?_
    refine R_iaload rfl (Or.inl (by omega)) mv ⟨by omega, by omega, by omega⟩ ?_
    rw [hvl]
    refine R_iastore rfl (by omega) mg ⟨by omega, by omega, by omega⟩ ?_
    exact k _ (va_up_self _ _ _) (fun j hj => va_up_ne _ _ hj)
  · refine R_aload rfl rfl ?_
    refine R_iload rfl rfl ?_
    refine R_iaload rfl (Or.inl (by omega)) mg ⟨by omega, by omega, by omega⟩ ?_
    rw [hg9]
    refine R_aload_n rfl rfl ?_
    refine R_iconst rfl ?_
    refine R_aload rfl rfl ?_
    refine R_iload rfl rfl ?_
    refine R_iaload rfl (Or.inl (by omega)) mo ⟨by omega, by omega, by omega⟩ ?_
    refine R_imul rfl ?_
    refine R_iconst rfl ?_
    refine R_iadd rfl ?_
    refine R_iload rfl rfl ?_
    refine R_iadd rfl ?_
    refine R_iaload rfl (Or.inl (by omega)) mv ⟨by omega, by omega, by omega⟩ ?_
    rw [hvl]
    refine R_icmpne rfl ⟨by omega, by omega⟩ ⟨by omega, by omega⟩ (fun c356 => ?_) (fun c356 => ?_)
    · have hp : (decide (g (cel G e i) = 0) || decide (g (cel G e i) = qWl G x i)) = false := by
        rw [decide_eq_false c334, decide_eq_false c356]
        rfl
      rw [hp] at k
      refine R_iconst rfl ?_
      refine R_istore (lv' := [_, _, _, _, _, _, _, _, _, _, _, _, _, _, _, _]) rfl rfl ?_
      refine R_aload rfl rfl ?_
      refine R_iload rfl rfl ?_
      refine R_aload_n rfl rfl ?_
      refine R_iconst rfl ?_
      refine R_aload rfl rfl ?_
      refine R_iload rfl rfl ?_
      refine R_iaload rfl (Or.inl (by omega)) mo ⟨by omega, by omega, by omega⟩ ?_
      refine R_imul rfl ?_
      refine R_iconst rfl ?_
      refine R_iadd rfl ?_
      refine R_iload rfl rfl ?_
      refine R_iadd rfl ?_
      refine R_iaload rfl (Or.inl (by omega)) mv ⟨by omega, by omega, by omega⟩ ?_
      rw [hvl]
      refine R_iastore rfl (by omega) mg ⟨by omega, by omega, by omega⟩ ?_
      exact k _ (va_up_self _ _ _) (fun j hj => va_up_ne _ _ hj)
    · have hp : (decide (g (cel G e i) = 0) || decide (g (cel G e i) = qWl G x i)) = true := by
        rw [decide_eq_true (show g (cel G e i) = qWl G x i from Classical.byContradiction c356), Bool.or_true]
      rw [hp] at k
      refine R_iconst rfl ?_
      refine R_goto rfl ?_
      refine R_istore (lv' := [_, _, _, _, _, _, _, _, _, _, _, _, _, _, _, _]) rfl rfl ?_
      refine R_aload rfl rfl ?_
      refine R_iload rfl rfl ?_
      refine R_aload_n rfl rfl ?_
      refine R_iconst rfl ?_
      refine R_aload rfl rfl ?_
      refine R_iload rfl rfl ?_
      refine R_iaload rfl (Or.inl (by omega)) mo ⟨by omega, by omega, by omega⟩ ?_
      refine R_imul rfl ?_
      refine R_iconst rfl ?_
      refine R_iadd rfl ?_
      refine R_iload rfl rfl ?_
      refine R_iadd rfl ?_
      refine R_iaload rfl (Or.inl (by omega)) mv ⟨by omega, by omega, by omega⟩ ?_
      rw [hvl]
      refine R_iastore rfl (by omega) mg ⟨by omega, by omega, by omega⟩ ?_
      exact k _ (va_up_self _ _ _) (fun j hj => va_up_ne _ _ hj)
theorem cel_inj {G : Gr} (hG : okG G) {e i j : Nat} (h : cel G e i = cel G e j) : i = j := by
  rcases Nat.lt_trichotomy i j with q | q | q
  · exact absurd h (run_ne hG q)
  · exact q
  · exact absurd h.symm (run_ne hG q)
set_option maxRecDepth 20000 in
theorem fo_loop {d N a : Nat} {h0 : AH} {G : Gr} {Q : AQ} {g0 f9 : Nat → Int} {ch : List Nat} {e x : Nat} {zy zn zo zr : Int} (hG : sm4 G) (haN : 126 ≤ a ∧ a + 3 < N) (hn4 : nE G ≤ 4) (he : e < nE G) (hx : x < qW G) (hfx : f9 e = (x : Int)) (hqn : eN G e = qWn G x) (hech : e = ch.length) (hov : isOv G ch g0) (hoc : okc G ch) : ∀ (r i : Nat) (h : AH) (g : Nat → Int) (zi : Int) (l15 : Option AV), i + r = eN G e → zi = i → fS h a G g f9 → (∀ j, j ≠ a + 2 → h j = h0 j) → ((∀ j, j < i → g (cel G e j) = qWl G x j) ∧ ∀ y, (∀ j, j < i → y ≠ cel G e j) → g y = g0 y) → (∀ (h1 : AH) (g1 : Nat → Int) (b1 : Bool) (zi1 : Int) (l : Option AV), b1 = alF (pAg G ch x) r i → fS h1 a G g1 f9 → (∀ j, j ≠ a + 2 → h1 j = h0 j) → (b1 = true → (∀ j, j < eN G e → g1 (cel G e j) = qWl G x j) ∧ ∀ y, (∀ j, j < eN G e → y ≠ cel G e j) → g1 y = g0 y) → Run mi_L_fillings (T (d + 4)) Q 391 [some (vI ((qW G : Nat) : Int)), some (vR 122), some (vR 123), some (vR a), some (vR (a + 1)), some (vI ((nE G : Nat) : Int)), some (vI zy), some (vI zn), some (vR (a + 2)), some (vR (a + 3)), some (vI zo), some (vI zr), some (vI (bI b1)), some (vI (e : Int)), some (vI zi1), l] [] h1 N 4 84) → Run mi_L_fillings (T (d + 4)) Q 285 [some (vI ((qW G : Nat) : Int)), some (vR 122), some (vR 123), some (vR a), some (vR (a + 1)), some (vI ((nE G : Nat) : Int)), some (vI zy), some (vI zn), some (vR (a + 2)), some (vR (a + 3)), some (vI zo), some (vI zr), some (vI 1), some (vI (e : Int)), some (vI zi), l15] [] h N 4 84 := by
  intro r
  induction r using Nat.strongRecOn with
  | ind r ih =>
  intro i h g zi l15 hr hzi hS hoo hgp k
  obtain ⟨hg1, hg2⟩ := hgp
  obtain ⟨hZ, hV, ⟨F, D, me, md, hE⟩, mg, mo⟩ := id hS
  obtain ⟨w, m0, hw0, hw1, wL, wE, wS⟩ := id hZ
  have r0 : w (0 : Int).toNat = (qR G : Int) := hw0
  have r1 : w (1 : Int).toNat = (qC G : Int) := hw1
  have hm16 := sm4_m hG
  obtain ⟨hO, hR4, hC4⟩ := id hG
  obtain ⟨hm4, hm36⟩ := hO.m
  obtain ⟨⟨hr2, hr6⟩, ⟨hc2, hc6⟩, gL, gB, gW, gWn, gWl, gN, gNl⟩ := id hO
  obtain ⟨hw4, v, mv, hv⟩ := id hV
  obtain ⟨haN1, haN2⟩ := id haN
  have hfx9 : f9 ((e : Int)).toNat = (x : Int) := hfx
  have hvn : v ((4 : Int) * f9 ((e : Int)).toNat).toNat = (qWn G x : Int) := by
    rw [show ((4 : Int) * f9 ((e : Int)).toNat).toNat = 4 * x by rw [hfx9]; omega]
    exact (hv x hx).1
  have hq3 := (hv x hx).2.1
  have hq2 := gWn x hx
  refine R_iload rfl rfl ?_
  refine R_aload_n rfl rfl ?_
  refine R_iconst rfl ?_
  refine R_aload rfl rfl ?_
  refine R_iload rfl rfl ?_
  refine R_iaload rfl (Or.inl (by omega)) mo ⟨by omega, by omega, by omega⟩ ?_
  refine R_imul rfl ?_
  refine R_iaload rfl (Or.inl (by omega)) mv ⟨by omega, by omega, by omega⟩ ?_
  rw [hvn]
  refine R_icmpge rfl ⟨by omega, by omega⟩ ⟨by omega, by omega⟩ (fun c296 => ?_) (fun c296 => ?_)
  · have hr0 : r = 0 := by omega
    subst hr0
    exact k h g true _ _ rfl hS hoo (fun _ => ⟨fun j hj => hg1 j (by omega), fun y hy => hg2 y (fun j hj => hy j (by omega))⟩)
  · obtain ⟨r, rfl⟩ : ∃ r1, r = r1 + 1 := ⟨r - 1, by omega⟩
    subst hzi
    refine R_iload rfl rfl ?_
    refine R_ifeq rfl ⟨by decide, by decide⟩ (fun c0 => absurd c0 (by decide)) (fun _ => ?_)
    have hgi : g (cel G e i) = g0 (cel G e i) := hg2 _ (fun j hj q2 => by have := cel_inj hO q2; omega)
    obtain ⟨hgw1, hgw2⟩ := gWl x i hx (by omega)
    have hovc := ov_cell hO hov hoc (by omega) (i := i) (w := x) (by rw [← hech]; omega) (by omega)
    rw [← hech] at hovc
    obtain ⟨ho1, ho2⟩ := hovc
    rw [← hgi] at ho1 ho2
    refine fc_c (zk := 0) hS hG haN hn4 he hx hfx (i := i) (by omega) ?_
    refine fc_u (zk := 0) hS hG haN hn4 he hx hfx (i := i) (by omega) hqn ho1 (fun h1 e1 e2 => ?_)
    have hS1 := fS_g hS haN1 e1 e2
    rw [ho2]
    cases hb : pAg G ch x i with
    | true =>
      refine R_iinc (lv' := [_, _, _, _, _, _, _, _, _, _, _, _, _, _, _, _]) rfl rfl rfl ?_
      refine R_goto rfl ?_
      exact ih r (by omega) (i + 1) h1 _ _ _ (by omega) (by omega) hS1 (fun j hj => (e2 j hj).trans (hoo j hj)) ⟨fun j hj => by
        by_cases q : j = i
        · rw [q, va_up_self]
        · rw [va_up_ne _ _ (fun q2 => q (cel_inj hO q2))]
          exact hg1 j (by omega), fun y hy => by
        rw [va_up_ne _ _ (hy i (by omega))]
        exact hg2 y (fun j hj => hy j (by omega))⟩ (fun h2 g2 b2 zi2 l2 hb2 => k h2 g2 b2 zi2 l2 (by rw [hb2, ← al_skip (p := pAg G ch x) hb]))
    | false =>
      refine R_iinc (lv' := [_, _, _, _, _, _, _, _, _, _, _, _, _, _, _, _]) rfl rfl rfl ?_
      refine R_goto rfl ?_
      refine fo_f (zk := 0) hS1 hG haN hn4 he hx hfx ⟨by omega, by omega⟩ ?_
      exact k h1 _ false _ _ (by rw [← al_hit (p := pAg G ch x) hb]) hS1 (fun j hj => (e2 j hj).trans (hoo j hj)) (fun q => by cases q)
set_option maxRecDepth 20000 in
theorem el_loop {d N a : Nat} {h0 : AH} {G : Gr} {Q : AQ} {zy zn zo : Int} (hG : sm4 G) (haN : 126 ≤ a ∧ a + 3 < N) (hn4 : nE G ≤ 4) (hwp : 0 < qW G) : ∀ (r : Nat) (ch : List Nat) (h : AH) (g f9 : Nat → Int) (rest : Nat) (ze zr : Int), ch.length + r = nE G → ze = ch.length → zr = rest → rest < 300 → okc G ch → chX ch f9 → fS h a G g f9 → isOv G ch g → (∀ j, j ≠ a + 2 → j ≠ a + 3 → h j = h0 j) → (∀ (h1 : AH) (g1 f1 : Nat → Int) (b1 : Bool) (ze1 zr1 : Int), b1 = okS G r ch rest → fS h1 a G g1 f1 → (∀ j, j ≠ a + 2 → j ≠ a + 3 → h1 j = h0 j) → Run mi_L_fillings (T (d + 4)) Q 397 [some (vI ((qW G : Nat) : Int)), some (vR 122), some (vR 123), some (vR a), some (vR (a + 1)), some (vI ((nE G : Nat) : Int)), some (vI zy), some (vI zn), some (vR (a + 2)), some (vR (a + 3)), some (vI zo), some (vI zr1), some (vI (bI b1)), some (vI ze1), none, none] [] h1 N 4 84) → Run mi_L_fillings (T (d + 4)) Q 180 [some (vI ((qW G : Nat) : Int)), some (vR 122), some (vR 123), some (vR a), some (vR (a + 1)), some (vI ((nE G : Nat) : Int)), some (vI zy), some (vI zn), some (vR (a + 2)), some (vR (a + 3)), some (vI zo), some (vI zr), some (vI 1), some (vI ze), none, none] [] h N 4 84 := by
  intro r
  induction r using Nat.strongRecOn with
  | ind r ih =>
  intro ch h g f9 rest ze zr hr hze hzr hrest hoc hX hS hov hoo k
  obtain ⟨hZ, hV, ⟨F, D, me, md, hE⟩, mg, mo⟩ := id hS
  obtain ⟨w, m0, hw0, hw1, wL, wE, wS⟩ := id hZ
  have r0 : w (0 : Int).toNat = (qR G : Int) := hw0
  have r1 : w (1 : Int).toNat = (qC G : Int) := hw1
  have hm16 := sm4_m hG
  obtain ⟨hO, hR4, hC4⟩ := id hG
  obtain ⟨hm4, hm36⟩ := hO.m
  obtain ⟨⟨hr2, hr6⟩, ⟨hc2, hc6⟩, gL, gB, gW, gWn, gWl, gN, gNl⟩ := id hO
  obtain ⟨hw4, v, mv, hv⟩ := id hV
  obtain ⟨haN1, haN2⟩ := id haN
  refine R_iload rfl rfl ?_
  refine R_iload rfl rfl ?_
  refine R_icmpge rfl ⟨by omega, by omega⟩ ⟨by omega, by omega⟩ (fun c184 => ?_) (fun c184 => ?_)
  · have hr0 : r = 0 := by omega
    subst hr0
    exact k h g f9 true _ _ rfl hS hoo
  · obtain ⟨r, rfl⟩ : ∃ r1, r = r1 + 1 := ⟨r - 1, by omega⟩
    subst hze
    subst hzr
    have hrm : (rest : Int) % ((qW G : Nat) : Int) = ((rest % qW G : Nat) : Int) := rfl
    have hrd : (rest : Int) / ((qW G : Nat) : Int) = ((rest / qW G : Nat) : Int) := rfl
    refine R_iload rfl rfl ?_
    refine R_ifeq rfl ⟨by decide, by decide⟩ (fun c0 => absurd c0 (by decide)) (fun _ => ?_)
    refine R_aload rfl rfl ?_
    refine R_iload rfl rfl ?_
    refine R_iload rfl rfl ?_
    refine R_iload_n rfl rfl ?_
    refine R_irem rfl ⟨by omega, by omega, by omega, by omega⟩ ?_
    rw [hrm]
    refine R_iastore rfl (by omega) mo ⟨by omega, by omega, by omega⟩ ?_
    refine R_iload rfl rfl ?_
    refine R_iload_n rfl rfl ?_
    refine R_idiv rfl ⟨by omega, by omega, by omega, by omega⟩ ?_
    rw [hrd]
    refine R_istore (lv' := [_, _, _, _, _, _, _, _, _, _, _, _, _, _, _, _]) rfl rfl ?_
    refine R_iconst rfl ?_
    refine R_istore (lv' := [_, _, _, _, _, _, _, _, _, _, _, _, _, _, _, _]) rfl rfl ?_
    have hx : rest % qW G < qW G := Nat.mod_lt _ (by omega)
    have hfx : va_up f9 ((ch.length : Int)).toNat ((rest % qW G : Nat) : Int) ch.length = ((rest % qW G : Nat) : Int) := va_up_self _ _ _
    have hX0 : chX ch (va_up f9 ((ch.length : Int)).toNat ((rest % qW G : Nat) : Int)) := chX_up hX (Nat.le_refl _)
    have hX1 : chX (ch ++ [rest % qW G]) (va_up f9 ((ch.length : Int)).toNat ((rest % qW G : Nat) : Int)) := chX_app hX0 hfx
    have hfr : ∀ j, j ≤ ch.length → 0 ≤ va_up f9 ((ch.length : Int)).toNat ((rest % qW G : Nat) : Int) j ∧ va_up f9 ((ch.length : Int)).toNat ((rest % qW G : Nat) : Int) j < 8 := fun j hj => by
      rcases Nat.lt_or_ge j ch.length with q | q
      · have e1 := hX0 j ch[j] (List.getElem?_eq_getElem q)
        have e2 := (hoc j ch[j] (List.getElem?_eq_getElem q)).1
        rw [e1]
        omega
      · rw [show j = ch.length by omega, hfx]
        omega
    have hS1 := fS_o hS haN1 (va_up_self h (a + 3) (eI 4 (va_up f9 ((ch.length : Int)).toNat ((rest % qW G : Nat) : Int)))) (fun j hj => va_up_ne _ _ hj)
    have hoo1 : ∀ j, j ≠ a + 2 → j ≠ a + 3 → va_up h (a + 3) (eI 4 (va_up f9 ((ch.length : Int)).toNat ((rest % qW G : Nat) : Int))) j = h0 j := fun j q1 q2 => (va_up_ne _ _ q2).trans (hoo j q1 q2)
    generalize va_up h (a + 3) (eI 4 (va_up f9 ((ch.length : Int)).toNat ((rest % qW G : Nat) : Int))) = h1 at hS1 hoo1 ⊢
    refine fk_loop hS1 hG haN hn4 (e := ch.length) (by omega) hfr ch.length 0 true _ (Nat.zero_add _) rfl (fun b1 zj1 hb0 => ?_)
    rw [Bool.true_and, ne_dist hX0 hfx] at hb0
    refine ff hS1 hG haN hn4 (e := ch.length) (by omega) hx hfx ?_
    subst hb0
    refine R_iconst rfl ?_
    refine R_istore (lv' := [_, _, _, _, _, _, _, _, _, _, _, _, _, _, _, _]) rfl rfl ?_
    cases hb1 : (!ch.contains (rest % qW G)) && fiG G ch.length (rest % qW G) with
    | false =>
      have hfalse : false = okS G (r + 1) ch rest := by
        show _ = (okF G ch (rest % qW G) && _)
        unfold okF
        rw [Bool.and_comm] at hb1
        rw [hb1]
        rfl
      have hS3 := hS1
      have hoo3 := hoo1
      refine fo_f (zk := 0) hS1 hG haN hn4 (e := ch.length) (by omega) hx hfx ⟨by decide, by decide⟩ ?_
      generalize hg3 : g = g3
      rw [hg3] at hS3
      generalize hh3 : h1 = h3
      rw [hh3] at hS3 hoo3
      refine R_iinc (lv' := [_, _, _, _, _, _, _, _, _, _, _, _, _, _, _, _]) rfl rfl rfl ?_
      refine R_goto rfl ?_
      refine Run.lv (lv' := [_, _, _, _, _, _, _, _, _, _, _, _, _, _, none, none]) ?_ ⟨Or.inr rfl, Or.inr rfl, Or.inr rfl, Or.inr rfl, Or.inr rfl, Or.inr rfl, Or.inr rfl, Or.inr rfl, Or.inr rfl, Or.inr rfl, Or.inr rfl, Or.inr rfl, Or.inr rfl, Or.inr rfl, Or.inl rfl, Or.inl rfl, trivial⟩
      refine R_iload rfl rfl ?_
      refine R_iload rfl rfl ?_
      refine R_icmpge rfl ⟨by omega, by omega⟩ ⟨by omega, by omega⟩ (fun c184 => ?_) (fun c184 => ?_)
      · exact k h3 g3 _ false _ _ hfalse hS3 hoo3
      · refine R_iload rfl rfl ?_
        refine R_ifeq rfl ⟨by decide, by decide⟩ (fun _ => ?_) (fun c0 => absurd c0 (by decide))
        exact k h3 g3 _ false _ _ hfalse hS3 hoo3
    | true =>
      have hfi : fiG G ch.length (rest % qW G) = true := (Bool.and_eq_true _ _ ▸ hb1).2
      have hqn : eN G ch.length = qWn G (rest % qW G) := by
        have := hfi
        unfold fiG at this
        exact of_decide_eq_true (Bool.and_eq_true _ _ ▸ this).1
      have hwl : ∀ i, i < eN G ch.length → ¬ qWl G (rest % qW G) i = 0 := fun i hi => by
        obtain ⟨q1, q2⟩ := gWl _ i hx (by omega)
        omega
      refine fo_loop hG haN hn4 (e := ch.length) (ch := ch) (by omega) hx hfx hqn rfl hov hoc (eN G ch.length) 0 h1 g _ _ (Nat.zero_add _) rfl hS1 (fun _ _ => rfl) ⟨fun j hj => absurd hj (Nat.not_lt_zero _), fun y _ => rfl⟩ (fun h3 g3 b2 zi2 l2 hb2 hS3 hoo2 hfull => ?_)
      have hoo3 : ∀ j, j ≠ a + 2 → j ≠ a + 3 → h3 j = h0 j := fun j q1 q2 => (hoo2 j q1).trans (hoo1 j q1 q2)
      have hag9 : b2 = agG G ch (rest % qW G) := hb2
      have hok9 : okF G ch (rest % qW G) = b2 := by
        unfold okF
        rw [Bool.and_comm] at hb1
        rw [hb1, hag9]
        rfl
      clear hb2
      cases hb2 : b2 with
      | false =>
        have hfalse : false = okS G (r + 1) ch rest := by
          show _ = (okF G ch (rest % qW G) && _)
          rw [hok9, hb2]
          rfl
        refine R_iinc (lv' := [_, _, _, _, _, _, _, _, _, _, _, _, _, _, _, _]) rfl rfl rfl ?_
        refine R_goto rfl ?_
        refine Run.lv (lv' := [_, _, _, _, _, _, _, _, _, _, _, _, _, _, none, none]) ?_ ⟨Or.inr rfl, Or.inr rfl, Or.inr rfl, Or.inr rfl, Or.inr rfl, Or.inr rfl, Or.inr rfl, Or.inr rfl, Or.inr rfl, Or.inr rfl, Or.inr rfl, Or.inr rfl, Or.inr rfl, Or.inr rfl, Or.inl rfl, Or.inl rfl, trivial⟩
        refine R_iload rfl rfl ?_
        refine R_iload rfl rfl ?_
        refine R_icmpge rfl ⟨by omega, by omega⟩ ⟨by omega, by omega⟩ (fun c184 => ?_) (fun c184 => ?_)
        · exact k h3 g3 _ false _ _ hfalse hS3 hoo3
        · refine R_iload rfl rfl ?_
          refine R_ifeq rfl ⟨by decide, by decide⟩ (fun _ => ?_) (fun c0 => absurd c0 (by decide))
          exact k h3 g3 _ false _ _ hfalse hS3 hoo3
      | true =>
        have hok : okF G ch (rest % qW G) = true := hok9.trans hb2
        have hag : agG G ch (rest % qW G) = true := hag9.symm.trans hb2
        refine R_iinc (lv' := [_, _, _, _, _, _, _, _, _, _, _, _, _, _, _, _]) rfl rfl rfl ?_
        refine R_goto rfl ?_
        refine Run.lv (lv' := [_, _, _, _, _, _, _, _, _, _, _, _, _, _, none, none]) ?_ ⟨Or.inr rfl, Or.inr rfl, Or.inr rfl, Or.inr rfl, Or.inr rfl, Or.inr rfl, Or.inr rfl, Or.inr rfl, Or.inr rfl, Or.inr rfl, Or.inr rfl, Or.inr rfl, Or.inr rfl, Or.inr rfl, Or.inl rfl, Or.inl rfl, trivial⟩
        exact ih r (by omega) (ch ++ [rest % qW G]) h3 g3 _ (rest / qW G) _ _ (by rw [List.length_append]; show ch.length + 1 + r = _; omega) (by rw [List.length_append]; rfl) rfl (Nat.lt_of_le_of_lt (Nat.div_le_self _ _) hrest) (okc_app hoc hx hqn) hX1 hS3 (ov_next hO hov (by omega) hag hoc hwl (hfull hb2).1 (hfull hb2).2) hoo3 (fun h4 g4 f4 b4 ze4 zr4 hb4 => k h4 g4 f4 b4 ze4 zr4 (by rw [hb4]; show _ = (okF G ch (rest % qW G) && _); rw [hok, Bool.true_and]))
set_option maxRecDepth 20000 in
theorem wy_loop {d N a ways : Nat} {h0 : AH} {G : Gr} {Q : AQ} (hG : sm4 G) (haN : 126 ≤ a ∧ a + 3 < N) (hn4 : nE G ≤ 4) (hwp : 0 < qW G) (hws : ways ≤ 256) : ∀ (r i a9 : Nat) (h : AH) (g f9 : Nat → Int) (zn zi : Int), i + r = ways → zi = i → zn = a9 → a9 ≤ i → fS h a G g f9 → (∀ j, j ≠ a + 2 → j ≠ a + 3 → h j = h0 j) → (∀ (z : Int) (h1 : AH) (g1 f1 : Nat → Int), z = ((a9 + ctF (okS G (nE G) []) r i : Nat) : Int) → fS h1 a G g1 f1 → (∀ j, j ≠ a + 2 → j ≠ a + 3 → h1 j = h0 j) → Q (.inl (some (vI z))) h1 N) → Run mi_L_fillings (T (d + 4)) Q 141 [some (vI ((qW G : Nat) : Int)), some (vR 122), some (vR 123), some (vR a), some (vR (a + 1)), some (vI ((nE G : Nat) : Int)), some (vI ((ways : Nat) : Int)), some (vI zn), some (vR (a + 2)), some (vR (a + 3)), some (vI zi), none, none, none, none, none] [] h N 4 84 := by
  intro r
  induction r using Nat.strongRecOn with
  | ind r ih =>
  intro i a9 h g f9 zn zi hr hzi hzn hai hS hoo hQ
  obtain ⟨hZ, hV, ⟨F, D, me, md, hE⟩, mg, mo⟩ := id hS
  obtain ⟨w, m0, hw0, hw1, wL, wE, wS⟩ := id hZ
  have r0 : w (0 : Int).toNat = (qR G : Int) := hw0
  have r1 : w (1 : Int).toNat = (qC G : Int) := hw1
  have hm16 := sm4_m hG
  obtain ⟨hO, hR4, hC4⟩ := id hG
  obtain ⟨hm4, hm36⟩ := hO.m
  obtain ⟨⟨hr2, hr6⟩, ⟨hc2, hc6⟩, gL, gB, gW, gWn, gWl, gN, gNl⟩ := id hO
  obtain ⟨hw4, v, mv, hv⟩ := id hV
  obtain ⟨haN1, haN2⟩ := id haN
  refine R_iload rfl rfl ?_
  refine R_iload rfl rfl ?_
  refine R_icmpge rfl ⟨by omega, by omega⟩ ⟨by omega, by omega⟩ (fun c145 => ?_) (fun c145 => ?_)
  · have hr0 : r = 0 := by omega
    subst hr0
    refine R_iload rfl rfl ?_
    exact R_ireturn rfl (fun q => absurd q (by decide)) (Nat.le_of_ble_eq_true rfl) (Nat.le_of_ble_eq_true rfl) (hQ _ _ _ _ (by rw [hzn]; rfl) hS hoo)
  · obtain ⟨r, rfl⟩ : ∃ r1, r = r1 + 1 := ⟨r - 1, by omega⟩
    subst hzi
    refine R_iload rfl rfl ?_
    refine R_istore (lv' := [_, _, _, _, _, _, _, _, _, _, _, _, _, _, _, _]) rfl rfl ?_
    refine R_iconst rfl ?_
    refine R_istore (lv' := [_, _, _, _, _, _, _, _, _, _, _, _, _, _, _, _]) rfl rfl ?_
    refine R_iconst rfl ?_
    refine R_istore (lv' := [_, _, _, _, _, _, _, _, _, _, _, _, _, _, _, _]) rfl rfl ?_
    refine zr_loop hG haN 16 0 h g _ rfl rfl hS (fun _ _ => rfl) (fun j hj => absurd hj (Nat.not_lt_zero _)) (fun h1 g1 zi1 hS1 hoo1 hz1 => ?_)
    refine R_iconst rfl ?_
    refine R_istore (lv' := [_, _, _, _, _, _, _, _, _, _, _, _, _, _, _, _]) rfl rfl ?_
    refine el_loop hG haN hn4 hwp (nE G) [] h1 g1 f9 i _ _ (Nat.zero_add _) rfl rfl (by omega) (fun j w hj => by simp at hj) (fun j x hj => by simp at hj) hS1 (fun x hx => ⟨fun b n w _ hv => by simp at hv, fun _ => hz1 x (by omega)⟩) (fun _ _ _ => rfl) (fun h2 g2 f2 b1 ze1 zr1 hb hS2 hoo2 => ?_)
    cases b1 with
    | true =>
      refine R_iload rfl rfl ?_
      refine R_iload rfl rfl ?_
      refine R_ifeq rfl ⟨by decide, by decide⟩ (fun c0 => absurd c0 (by decide)) (fun _ => ?_)
      refine R_iconst rfl ?_
      refine R_goto rfl ?_
      refine R_iadd rfl ?_
      refine R_istore (lv' := [_, _, _, _, _, _, _, _, _, _, _, _, _, _, _, _]) rfl rfl ?_
      refine R_iinc (lv' := [_, _, _, _, _, _, _, _, _, _, _, _, _, _, _, _]) rfl rfl rfl ?_
      refine R_goto rfl ?_
      refine Run.lv (lv' := [_, _, _, _, _, _, _, _, _, _, _, none, none, none, none, none]) ?_ ⟨Or.inr rfl, Or.inr rfl, Or.inr rfl, Or.inr rfl, Or.inr rfl, Or.inr rfl, Or.inr rfl, Or.inr rfl, Or.inr rfl, Or.inr rfl, Or.inr rfl, Or.inl rfl, Or.inl rfl, Or.inl rfl, Or.inl rfl, Or.inl rfl, trivial⟩
      exact ih r (by omega) (i + 1) (a9 + 1) h2 g2 f2 _ _ (by omega) (by omega) (by omega) (by omega) hS2 (fun j q1 q2 => (hoo2 j q1 q2).trans ((hoo1 j q1).trans (hoo j q1 q2))) (fun z h3 g3 f3 hz => hQ z h3 g3 f3 (hz.trans (congrArg Nat.cast (ct_hit (p := okS G (nE G) []) hb.symm))))
    | false =>
      refine R_iload rfl rfl ?_
      refine R_iload rfl rfl ?_
      refine R_ifeq rfl ⟨by decide, by decide⟩ (fun _ => ?_) (fun c0 => absurd c0 (by decide))
      refine R_iconst rfl ?_
      refine R_iadd rfl ?_
      refine R_istore (lv' := [_, _, _, _, _, _, _, _, _, _, _, _, _, _, _, _]) rfl rfl ?_
      refine R_iinc (lv' := [_, _, _, _, _, _, _, _, _, _, _, _, _, _, _, _]) rfl rfl rfl ?_
      refine R_goto rfl ?_
      refine Run.lv (lv' := [_, _, _, _, _, _, _, _, _, _, _, none, none, none, none, none]) ?_ ⟨Or.inr rfl, Or.inr rfl, Or.inr rfl, Or.inr rfl, Or.inr rfl, Or.inr rfl, Or.inr rfl, Or.inr rfl, Or.inr rfl, Or.inr rfl, Or.inr rfl, Or.inl rfl, Or.inl rfl, Or.inl rfl, Or.inl rfl, Or.inl rfl, trivial⟩
      exact ih r (by omega) (i + 1) a9 h2 g2 f2 _ _ (by omega) (by omega) (by omega) (by omega) hS2 (fun j q1 q2 => (hoo2 j q1 q2).trans ((hoo1 j q1).trans (hoo j q1 q2))) (fun z h3 g3 f3 hz => hQ z h3 g3 f3 (hz.trans (congrArg Nat.cast (ct_skip (p := okS G (nE G) []) hb.symm))))
set_option maxRecDepth 20000 in
theorem pw_loop {d N a : Nat} {h : AH} {G : Gr} {Q : AQ} (hn4 : nE G ≤ 4) : ∀ (r i : Nat) (zy zi : Int), i + r = nE G → zi = i → zy = ((qW G ^ i : Nat) : Int) → (∀ zi1 : Int, Run mi_L_fillings (T (d + 4)) Q 124 [some (vI ((qW G : Nat) : Int)), some (vR 122), some (vR 123), some (vR a), some (vR (a + 1)), some (vI ((nE G : Nat) : Int)), some (vI ((qW G ^ nE G : Nat) : Int)), some (vI zi1), none, none, none, none, none, none, none, none] [] h N 2 64) → Run mi_L_fillings (T (d + 4)) Q 105 [some (vI ((qW G : Nat) : Int)), some (vR 122), some (vR 123), some (vR a), some (vR (a + 1)), some (vI ((nE G : Nat) : Int)), some (vI zy), some (vI zi), none, none, none, none, none, none, none, none] [] h N 2 64 := by
  intro r
  induction r using Nat.strongRecOn with
  | ind r ih =>
  intro i zy zi hr hzi hzy k
  refine R_iload rfl rfl ?_
  refine R_iload rfl rfl ?_
  refine R_icmpge rfl ⟨by omega, by omega⟩ ⟨by omega, by omega⟩ (fun c109 => ?_) (fun c109 => ?_)
  · have hr0 : r = 0 := by omega
    subst hr0
    obtain rfl : i = nE G := by omega
    subst hzy
    exact k _
  · obtain ⟨r, rfl⟩ : ∃ r1, r = r1 + 1 := ⟨r - 1, by omega⟩
    subst hzi
    subst hzy
    refine R_iload rfl rfl ?_
    refine R_iload_n rfl rfl ?_
    refine R_imul rfl ?_
    refine R_istore (lv' := [_, _, _, _, _, _, _, _, _, _, _, _, _, _, _, _]) rfl rfl ?_
    refine R_iinc (lv' := [_, _, _, _, _, _, _, _, _, _, _, _, _, _, _, _]) rfl rfl rfl ?_
    refine R_goto rfl ?_
    exact ih r (by omega) (i + 1) _ _ (by omega) (by omega) (by rw [Nat.pow_succ]; rfl) k
set_option maxRecDepth 20000 in
theorem fillings_L {d N : Nat} {h : AH} {G : Gr} {Q : AQ} {zw : Int} (hZ : isW h G) (hV : isWo h G) (hG : sm4 G) (hN : 126 ≤ N ∧ N + 4 < 1000) (hwf : wfH N h) (hzw : zw = qW G) (hQ : ∀ (z : Int) (h1 : AH) (N1 : Nat), z = ((flG G : Nat) : Int) → N1 ≤ N + 4 → grw h h1 N N1 → Q (.inl (some (vI z))) h1 N1) : T (d + 5) 243 [vI zw, vR 122, vR 123] h N Q := by
  obtain ⟨hN1, hN2⟩ := hN
  subst hzw
  obtain ⟨w, m0, hw0, hw1, wL, wE, wS⟩ := id hZ
  have r0 : w (0 : Int).toNat = (qR G : Int) := hw0
  have r1 : w (1 : Int).toNat = (qC G : Int) := hw1
  have hm16 := sm4_m hG
  obtain ⟨hO, hR4, hC4⟩ := id hG
  obtain ⟨hm4, hm36⟩ := hO.m
  obtain ⟨⟨hr2, hr6⟩, ⟨hc2, hc6⟩, gL, gB, gW, gWn, gWl, gN, gNl⟩ := id hO
  obtain ⟨hw4, v, mv, hv⟩ := id hV
  have hn36 := nE36 hO
  refine T_body (I := mi_L_fillings) (lv := [_, _, _, _, _, _, _, _, _, _, _, _, _, _, _, _]) rfl (Nat.le_of_ble_eq_true rfl) rfl ?_
  refine R_bipush rfl ?_
  refine C_newI rfl ⟨by decide, by decide⟩ (show _ < 1000 by omega) hwf ⟨(wfL_s trivial (wfL_s (Or.inl (by omega)) (wfL_s (Or.inl (by omega)) (wfL_n (wfL_n (wfL_n (wfL_n (wfL_n (wfL_n (wfL_n (wfL_n (wfL_n (wfL_n (wfL_n (wfL_n (wfL_n wfL_0)))))))))))))))), wfT_0⟩ (Nat.le_of_ble_eq_true rfl) (Nat.le_of_ble_eq_true rfl) (fun h1 c1 c2 c3 => ?_)
  refine R_astore_n (lv' := [_, _, _, _, _, _, _, _, _, _, _, _, _, _, _, _]) rfl rfl ?_
  refine R_bipush rfl ?_
  refine C_newI rfl ⟨by decide, by decide⟩ (show _ < 1000 by omega) c3 ⟨(wfL_s trivial (wfL_s (Or.inl (by omega)) (wfL_s (Or.inl (by omega)) (wfL_s (Or.inl (by omega)) (wfL_n (wfL_n (wfL_n (wfL_n (wfL_n (wfL_n (wfL_n (wfL_n (wfL_n (wfL_n (wfL_n (wfL_n wfL_0)))))))))))))))), wfT_0⟩ (Nat.le_of_ble_eq_true rfl) (Nat.le_of_ble_eq_true rfl) (fun h2 d1 d2 d3 => ?_)
  refine R_astore (lv' := [_, _, _, _, _, _, _, _, _, _, _, _, _, _, _, _]) rfl rfl ?_
  refine R_iconst rfl ?_
  refine R_istore (lv' := [_, _, _, _, _, _, _, _, _, _, _, _, _, _, _, _]) rfl rfl ?_
  refine R_iconst rfl ?_
  refine R_istore (lv' := [_, _, _, _, _, _, _, _, _, _, _, _, _, _, _, _]) rfl rfl ?_
  refine fb_loop hG ⟨hN1, by omega⟩ (qM G) 0 h2 (fun _ => 0) (fun _ => 0) _ _ (Nat.zero_add _) rfl rfl (isW_fr hZ ((d2 _ (by omega)).trans (c2 _ (by omega)))) ((d2 _ (by omega)).trans c1) d1 (fun e x b hx => by simp [entsTo] at hx) (fun _ _ _ => rfl) (fun h3 f3 g3 zc3 hZ3 e8 e9 hal hoo3 => ?_)
  have hV3 : isWo h3 G := isWo_fr hV ((hoo3 _ (by omega) (by omega)).trans ((d2 _ (by omega)).trans (c2 _ (by omega))))
  have hw3 : wfH (N + 1 + 1) h3 := fun j hj => by
    by_cases p1 : j = N
    · rw [p1, e8]
      trivial
    · by_cases p2 : j = N + 1
      · rw [p2, e9]
        trivial
      · rw [hoo3 j p1 p2]
        exact d3 j hj
  have gf2 : ∀ h3 : AH, h3 N = eI 32 f3 → h3 (N + 1) = eI 32 g3 → (∀ j, j ≠ N → j ≠ N + 1 → h3 j = h2 j) → grw h h3 N (N + 1 + 1) := fun h3 e8 e9 hoo3 => ⟨by omega, fun j hj => (hoo3 j (by omega) (by omega)).trans ((d2 j (by omega)).trans (c2 j (by omega))), fun j hj => by
    by_cases p1 : j = N
    · rw [p1, e8]
      trivial
    · by_cases p2 : j = N + 1
      · rw [p2, e9]
        trivial
      · rw [hoo3 j p1 p2]
        exact d3 j hj⟩
  refine R_iload rfl rfl ?_
  refine R_ifeq rfl ⟨by omega, by omega⟩ (fun c79 => ?_) (fun c79 => ?_)
  · refine R_iload rfl rfl ?_
    refine R_ifne rfl ⟨by omega, by omega⟩ (fun c90 => ?_) (fun c90 => ?_)
    · refine R_iconst rfl ?_
      exact R_ireturn rfl (fun q => absurd q (by decide)) (Nat.le_of_ble_eq_true rfl) (Nat.le_of_ble_eq_true rfl) (hQ _ _ _ (by unfold flG; rw [if_pos (by omega)]; rfl) (by omega) (gf2 h3 e8 e9 hoo3))
    · refine R_iconst rfl ?_
      refine R_goto rfl ?_
      exact R_ireturn rfl (fun q => absurd q (by decide)) (Nat.le_of_ble_eq_true rfl) (Nat.le_of_ble_eq_true rfl) (hQ _ _ _ (by unfold flG; rw [if_neg (by omega), show nE G = 0 by omega]; rfl) (by omega) (gf2 h3 e8 e9 hoo3))
  · refine R_iload rfl rfl ?_
    refine R_iload_n rfl rfl ?_
    refine R_icmple rfl ⟨by omega, by omega⟩ ⟨by omega, by omega⟩ (fun c85 => ?_) (fun c85 => ?_)
    · refine R_iconst rfl ?_
      refine R_istore (lv' := [_, _, _, _, _, _, _, _, _, _, _, _, _, _, _, _]) rfl rfl ?_
      refine R_iconst rfl ?_
      refine R_istore (lv' := [_, _, _, _, _, _, _, _, _, _, _, _, _, _, _, _]) rfl rfl ?_
      have hn4 : nE G ≤ 4 := by omega
      have hpw : qW G ^ nE G ≤ 256 := by
        have h1 : qW G ^ nE G ≤ 4 ^ nE G := Nat.pow_le_pow_left hw4 _
        have h2 : 4 ^ nE G ≤ 4 ^ 4 := Nat.pow_le_pow_right (by decide) hn4
        exact Nat.le_trans h1 h2
      refine pw_loop hn4 (nE G) 0 _ _ (Nat.zero_add _) rfl rfl (fun zi1 => ?_)
      refine R_iconst rfl ?_
      refine R_istore (lv' := [_, _, _, _, _, _, _, _, _, _, _, _, _, _, _, _]) rfl rfl ?_
      refine R_bipush rfl ?_
      refine C_newI rfl ⟨by decide, by decide⟩ (show _ < 1000 by omega) hw3 ⟨(wfL_s trivial (wfL_s (Or.inl (by omega)) (wfL_s (Or.inl (by omega)) (wfL_s (Or.inl (by omega)) (wfL_s (Or.inl (by omega)) (wfL_s trivial (wfL_s trivial (wfL_s trivial (wfL_n (wfL_n (wfL_n (wfL_n (wfL_n (wfL_n (wfL_n (wfL_n wfL_0)))))))))))))))), wfT_0⟩ (Nat.le_of_ble_eq_true rfl) (Nat.le_of_ble_eq_true rfl) (fun h4 a1 a2 a3 => ?_)
      refine R_astore (lv' := [_, _, _, _, _, _, _, _, _, _, _, _, _, _, _, _]) rfl rfl ?_
      refine R_iconst rfl ?_
      refine C_newI rfl ⟨by decide, by decide⟩ (show _ < 1000 by omega) a3 ⟨(wfL_s trivial (wfL_s (Or.inl (by omega)) (wfL_s (Or.inl (by omega)) (wfL_s (Or.inl (by omega)) (wfL_s (Or.inl (by omega)) (wfL_s trivial (wfL_s trivial (wfL_s trivial (wfL_s (Or.inl (by omega)) (wfL_n (wfL_n (wfL_n (wfL_n (wfL_n (wfL_n (wfL_n wfL_0)))))))))))))))), wfT_0⟩ (Nat.le_of_ble_eq_true rfl) (Nat.le_of_ble_eq_true rfl) (fun h5 b1 b2 b3 => ?_)
      refine R_astore (lv' := [_, _, _, _, _, _, _, _, _, _, _, _, _, _, _, _]) rfl rfl ?_
      refine R_iconst rfl ?_
      refine R_istore (lv' := [_, _, _, _, _, _, _, _, _, _, _, _, _, _, _, _]) rfl rfl ?_
      refine wy_loop hG ⟨hN1, by omega⟩ hn4 (by omega) hpw (qW G ^ nE G) 0 0 h5 (fun _ => 0) (fun _ => 0) _ _ (Nat.zero_add _) rfl rfl (Nat.le_refl _) ⟨isW_fr hZ3 ((b2 _ (by omega)).trans (a2 _ (by omega))), isWo_fr hV3 ((b2 _ (by omega)).trans (a2 _ (by omega))), ⟨f3, g3, (b2 _ (by omega)).trans ((a2 _ (by omega)).trans e8), (b2 _ (by omega)).trans ((a2 _ (by omega)).trans e9), fun e he => hal e _ _ (ents_get he)⟩, (b2 _ (by omega)).trans a1, b1⟩ (fun _ _ _ => rfl) (fun z h6 g6 f6 hz hS6 hoo6 => hQ z h6 (N + 4) (by rw [hz, Nat.zero_add]; unfold flG; rw [if_neg (by omega), ← fl_law (by omega), ct_sm]) (Nat.le_refl _) ⟨by omega, fun j hj => (hoo6 j (by omega) (by omega)).trans ((b2 j (by omega)).trans ((a2 j (by omega)).trans ((hoo3 j (by omega) (by omega)).trans ((d2 j (by omega)).trans (c2 j (by omega)))))), fun j hj => ?_⟩)
      obtain ⟨-, -, ⟨F6, D6, q1, q2, -⟩, q3, q4⟩ := hS6
      by_cases p1 : j = N + 2
      · rw [p1, q3]
        trivial
      · by_cases p2 : j = N + 3
        · rw [p2, q4]
          trivial
        · rw [hoo6 j p1 p2]
          exact b3 j (by omega)
    · refine R_iload rfl rfl ?_
      refine R_ifne rfl ⟨by omega, by omega⟩ (fun c90 => ?_) (fun c90 => ?_)
      · refine R_iconst rfl ?_
        exact R_ireturn rfl (fun q => absurd q (by decide)) (Nat.le_of_ble_eq_true rfl) (Nat.le_of_ble_eq_true rfl) (hQ _ _ _ (by unfold flG; rw [if_pos (by omega)]; rfl) (by omega) (gf2 h3 e8 e9 hoo3))
      · refine R_iconst rfl ?_
        refine R_goto rfl ?_
        exact R_ireturn rfl (fun q => absurd q (by decide)) (Nat.le_of_ble_eq_true rfl) (Nat.le_of_ble_eq_true rfl) (hQ _ _ _ (by unfold flG; rw [if_neg (by omega), show nE G = 0 by omega]; rfl) (by omega) (gf2 h3 e8 e9 hoo3))
