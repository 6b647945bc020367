/-! ===== the law's mend ===== -/
/-- how a heap has grown, the law's own grid apart -/
def grX (h h' : AH) (N N' : Nat) : Prop := N ≤ N' ∧ (∀ j, j ≠ 122 → (j < N ∨ N' ≤ j) → h' j = h j) ∧ wfH N' h'
theorem grX_0 {h : AH} {N : Nat} (hw : wfH N h) : grX h h N N := ⟨Nat.le_refl _, fun _ _ _ => rfl, hw⟩
theorem grX_t {h h1 h2 : AH} {N N1 N2 : Nat} (a : grX h h1 N N1) (b : grX h1 h2 N1 N2) : grX h h2 N N2 := ⟨Nat.le_trans a.1 b.1, fun j hx hj => (b.2.1 j hx (by have := a.1; have := b.1; omega)).trans (a.2.1 j hx (by have := a.1; have := b.1; omega)), b.2.2⟩
theorem grw_x {h h1 : AH} {N N1 : Nat} (a : grw h h1 N N1) : grX h h1 N N1 := ⟨a.1, fun j _ hj => a.2.1 j hj, a.2.2⟩
theorem grX_u {h : AH} {N : Nat} {m : Nat} {f : Nat → Int} (hw : wfH N h) : grX h (va_up h 122 (eI m f)) N N := ⟨Nat.le_refl _, fun j hj _ => va_up_ne _ _ hj, wfH_up hw trivial⟩
def ofB (b : Bool) : Nat := match b with
  | true => 34
  | false => 18
theorem sm4_bar {G : Gr} (hG : sm4 G) {c : Nat} {b v : Bool} (hp : qP G c b) : sm4 (setBr G c b v) := by
  refine ⟨ok_setBr hG.1 hp, ?_⟩
  cases b <;> exact hG.2
theorem rwL_bar {w : Nat → Int} {G : Gr} (hG : sm4 G) (hR : rwL w G) {c : Nat} {b v : Bool} (hc : c < qM G) : rwL (va_up w (ofB b + c) (bI v)) (setBr G c b v) := by
  obtain ⟨h0, h1, hL, hE, hS⟩ := hR
  have hm := sm4_m hG
  cases b
  · refine ⟨(va_up_ne _ _ (by show 0 ≠ 18 + c; omega)).trans h0, (va_up_ne _ _ (by show 1 ≠ 18 + c; omega)).trans h1, fun x hx => (va_up_ne _ _ ?_).trans (hL x hx), fun x hx => ?_, fun x hx => (va_up_ne _ _ ?_).trans (hS x hx)⟩
    · have hx : x < qM G := hx
      show 2 + x ≠ 18 + c
      omega
    · show va_up w (18 + c) (bI v) (18 + x) = bI (va_up (qE G) c v x)
      by_cases q : x = c
      · rw [q, va_up_self, va_up_self]
      · rw [va_up_ne _ _ (by omega), va_up_ne _ _ q]
        exact hE x hx
    · have hx : x < qM G := hx
      show 34 + x ≠ 18 + c
      omega
  · refine ⟨(va_up_ne _ _ (by show 0 ≠ 34 + c; omega)).trans h0, (va_up_ne _ _ (by show 1 ≠ 34 + c; omega)).trans h1, fun x hx => (va_up_ne _ _ ?_).trans (hL x hx), fun x hx => (va_up_ne _ _ ?_).trans (hE x hx), fun x hx => ?_⟩
    · have hx : x < qM G := hx
      show 2 + x ≠ 34 + c
      omega
    · have hx : x < qM G := hx
      show 18 + x ≠ 34 + c
      omega
    · show va_up w (34 + c) (bI v) (34 + x) = bI (va_up (qS G) c v x)
      by_cases q : x = c
      · rw [q, va_up_self, va_up_self]
      · rw [va_up_ne _ _ (by omega), va_up_ne _ _ q]
        exact hS x hx
theorem rwL_at {w : Nat → Int} {G : Gr} (hR : rwL w G) {c : Nat} {b : Bool} (hc : c < qM G) : w (ofB b + c) = bI (qB G b c) := by
  obtain ⟨h0, h1, hL, hE, hS⟩ := hR
  cases b
  · exact hE c hc
  · exact hS c hc
theorem one_not {b : Bool} : (1 : Int) - bI b = bI (!b) := by cases b <;> rfl
/-- a bar is changed in the row -/
theorem isW_chg {h : AH} {w : Nat → Int} {G : Gr} (hG : sm4 G) (hR : rwL w G) {c : Nat} {b : Bool} {z : Int} {x : Nat} (hc : c < qM G) (hx : x = ofB b + c) (hz : z = 1 - w x) : isW (va_up h 122 (eI 64 (va_up w x z))) (setBr G c b (!qB G b c)) := by
  subst hx
  subst hz
  refine ⟨_, va_up_self _ _ _, ?_⟩
  rw [rwL_at hR hc, one_not]
  exact rwL_bar hG hR hc
set_option maxRecDepth 20000 in
theorem mdA {d N k n : Nat} {h : AH} {G : Gr} {Q : AQ} (hZ : isW h G) (hG : sm4 G) (hN : 126 ≤ N) {i : Nat} {zb zm : Int} (hi : i < 2 * qM G) (k0 : ∀ z : Int, z = bI (!qPb G (i / 2) (decide (i % 2 = 1))) → Run mi_L_mend (T (d + 5)) Q 75 [some (vR 122), some (vI zb), some (vI zm), some (vI (i : Int)), some (vI ((i / 2 : Nat) : Int)), none, none] [vI z] h N k n) : Run mi_L_mend (T (d + 5)) Q 23 [some (vR 122), some (vI zb), some (vI zm), some (vI (i : Int)), none, none, none] [] h N k n := by
  obtain ⟨w, m0, hw0, hw1, wL, wE, wS⟩ := id hZ
  have r0 : w (0 : Int).toNat = (qR G : Int) := hw0
  have r1 : w (1 : Int).toNat = (qC G : Int) := hw1
  have hm16 := sm4_m hG
  obtain ⟨hO, hR4, hC4⟩ := id hG
  obtain ⟨hm4, hm36⟩ := hO.m
  obtain ⟨⟨hr2, hr6⟩, ⟨hc2, hc6⟩, gL, gB, gW, gWn, gWl, gN, gNl⟩ := id hO
  have hc : i / 2 < qM G := by omega
  have hml := Nat.mod_lt (i / 2) (show 0 < qC G by omega)
  have hdl : (i / 2) / qC G < qR G := (Nat.div_lt_iff_lt_mul (show 0 < qC G by omega)).mpr hc
  have hi2 : (i : Int) / 2 = ((i / 2 : Nat) : Int) := rfl
  have hi3 : (i : Int) % 2 = ((i % 2 : Nat) : Int) := rfl
  have hmd : ((i / 2 : Nat) : Int) % (qC G : Int) = (((i / 2) % qC G : Nat) : Int) := rfl
  have hdd : ((i / 2 : Nat) : Int) / (qC G : Int) = (((i / 2) / qC G : Nat) : Int) := rfl
  have hd0 : (0 : Int) ≤ (((i / 2) / qC G : Nat) : Int) := Int.natCast_nonneg _
  refine R_iload_n rfl rfl ?_
  refine R_iconst rfl ?_
  refine R_idiv rfl ⟨by omega, by omega, by omega, by omega⟩ ?_
  rw [hi2]
  refine R_istore (lv' := [_, _, _, _, _, _, _]) rfl rfl ?_
  refine R_iload_n rfl rfl ?_
  refine R_iconst rfl ?_
  refine R_irem rfl ⟨by omega, by omega, by omega, by omega⟩ ?_
  rw [hi3]
  refine R_ifne rfl ⟨by omega, by omega⟩ (fun c31 => ?_) (fun c31 => ?_)
  · have hb : decide (i % 2 = 1) = true := decide_eq_true (by omega)
    rw [hb] at k0
    refine R_iload rfl rfl ?_
    refine R_aload_n rfl rfl ?_
    refine R_iconst rfl ?_
    refine R_iaload rfl (Or.inl (by omega)) m0 ⟨by omega, by omega, by omega⟩ ?_
    rw [r1]
    refine R_idiv rfl ⟨by omega, by omega, by omega, by omega⟩ ?_
    rw [hdd]
    refine R_aload_n rfl rfl ?_
    refine R_iconst rfl ?_
    refine R_iaload rfl (Or.inl (by omega)) m0 ⟨by omega, by omega, by omega⟩ ?_
    rw [r0]
    refine R_iconst rfl ?_
    refine R_isub rfl ?_
    refine R_icmpne rfl ⟨by omega, by omega⟩ ⟨by omega, by omega⟩ (fun c67 => ?_) (fun c67 => ?_)
    · have hv : qPb G (i / 2) true = true := by
        rw [qPb_t hO hc, decide_eq_false (by omega)]
        rfl
      refine R_iconst rfl ?_
      exact k0 _ (by rw [hv]; rfl)
    · have hv : qPb G (i / 2) true = false := by
        rw [qPb_t hO hc, decide_eq_true (by omega)]
        rfl
      refine R_iconst rfl ?_
      refine R_goto rfl ?_
      exact k0 _ (by rw [hv]; rfl)
  · have hb : decide (i % 2 = 1) = false := decide_eq_false (by omega)
    rw [hb] at k0
    refine R_iload rfl rfl ?_
    refine R_aload_n rfl rfl ?_
    refine R_iconst rfl ?_
    refine R_iaload rfl (Or.inl (by omega)) m0 ⟨by omega, by omega, by omega⟩ ?_
    rw [r1]
    refine R_irem rfl ⟨by omega, by omega, by omega, by omega⟩ ?_
    rw [hmd]
    refine R_aload_n rfl rfl ?_
    refine R_iconst rfl ?_
    refine R_iaload rfl (Or.inl (by omega)) m0 ⟨by omega, by omega, by omega⟩ ?_
    rw [r1]
    refine R_iconst rfl ?_
    refine R_isub rfl ?_
    refine R_icmpne rfl ⟨by omega, by omega⟩ ⟨by omega, by omega⟩ (fun c45 => ?_) (fun c45 => ?_)
    · have hv : qPb G (i / 2) false = true := by
        rw [qPb_f hO hc, decide_eq_false (by omega)]
        rfl
      refine R_iconst rfl ?_
      refine R_goto rfl ?_
      exact k0 _ (by rw [hv]; rfl)
    · have hv : qPb G (i / 2) false = false := by
        rw [qPb_f hO hc, decide_eq_true (by omega)]
        rfl
      refine R_iconst rfl ?_
      refine R_goto rfl ?_
      exact k0 _ (by rw [hv]; rfl)
set_option maxRecDepth 20000 in
theorem mdB {d N k n : Nat} {h : AH} {G : Gr} {Q : AQ} (hZ : isW h G) (hG : sm4 G) (hN : 126 ≤ N) {i : Nat} {zb zm : Int} (hi : i < 2 * qM G) {zr : Int} (k0 : ∀ z : Int, z = ((ofB (decide (i % 2 = 1)) + i / 2 : Nat) : Int) → Run mi_L_mend (T (d + 5)) Q 95 [some (vR 122), some (vI zb), some (vI zm), some (vI (i : Int)), some (vI ((i / 2 : Nat) : Int)), some (vI zr), some (vI z)] [] h N k n) : Run mi_L_mend (T (d + 5)) Q 75 [some (vR 122), some (vI zb), some (vI zm), some (vI (i : Int)), some (vI ((i / 2 : Nat) : Int)), none, none] [vI zr] h N k n := by
  obtain ⟨w, m0, hw0, hw1, wL, wE, wS⟩ := id hZ
  have r0 : w (0 : Int).toNat = (qR G : Int) := hw0
  have r1 : w (1 : Int).toNat = (qC G : Int) := hw1
  have hm16 := sm4_m hG
  obtain ⟨hO, hR4, hC4⟩ := id hG
  obtain ⟨hm4, hm36⟩ := hO.m
  obtain ⟨⟨hr2, hr6⟩, ⟨hc2, hc6⟩, gL, gB, gW, gWn, gWl, gN, gNl⟩ := id hO
  have hc : i / 2 < qM G := by omega
  have hml := Nat.mod_lt (i / 2) (show 0 < qC G by omega)
  have hdl : (i / 2) / qC G < qR G := (Nat.div_lt_iff_lt_mul (show 0 < qC G by omega)).mpr hc
  have hi2 : (i : Int) / 2 = ((i / 2 : Nat) : Int) := rfl
  have hi3 : (i : Int) % 2 = ((i % 2 : Nat) : Int) := rfl
  have hmd : ((i / 2 : Nat) : Int) % (qC G : Int) = (((i / 2) % qC G : Nat) : Int) := rfl
  have hdd : ((i / 2 : Nat) : Int) / (qC G : Int) = (((i / 2) / qC G : Nat) : Int) := rfl
  have hd0 : (0 : Int) ≤ (((i / 2) / qC G : Nat) : Int) := Int.natCast_nonneg _
  refine R_istore (lv' := [_, _, _, _, _, _, _]) rfl rfl ?_
  refine R_iload_n rfl rfl ?_
  refine R_iconst rfl ?_
  refine R_irem rfl ⟨by omega, by omega, by omega, by omega⟩ ?_
  rw [hi3]
  refine R_ifne rfl ⟨by omega, by omega⟩ (fun c80 => ?_) (fun c80 => ?_)
  · have hb : ofB (decide (i % 2 = 1)) = 34 := by rw [decide_eq_true (by omega)]; rfl
    refine R_bipush rfl ?_
    refine R_iload rfl rfl ?_
    refine R_iadd rfl ?_
    refine R_istore (lv' := [_, _, _, _, _, _, _]) rfl rfl ?_
    exact k0 _ (by omega)
  · have hb : ofB (decide (i % 2 = 1)) = 18 := by rw [decide_eq_false (by omega)]; rfl
    refine R_bipush rfl ?_
    refine R_goto rfl ?_
    refine R_iload rfl rfl ?_
    refine R_iadd rfl ?_
    refine R_istore (lv' := [_, _, _, _, _, _, _]) rfl rfl ?_
    exact k0 _ (by omega)
theorem isW_back {h : AH} {w : Nat → Int} {G G1 : Gr} {c x : Nat} {b : Bool} {z : Int} (hG : sm4 G1) (hR : rwL w G1) (hat : c < qM G1 ∧ x = ofB b + c ∧ z = 1 - w x ∧ G1 = setBr G c b (!qB G b c)) : isW (va_up h 122 (eI 64 (va_up w x z))) G := by
  obtain ⟨hc, hx, hz, rfl⟩ := hat
  have h1 := isW_chg (h := h) (b := b) hG hR hc hx hz
  rw [qB_set] at h1
  have e : (!(!qB G b c)) = qB G b c := by cases qB G b c <;> rfl
  rw [e, setBr_back] at h1
  exact h1
set_option maxRecDepth 20000 in
theorem mdC {d N k n : Nat} {h : AH} {G : Gr} {Q : AQ} (hN : 126 ≤ N) {c x : Nat} {b : Bool} {zb zm zp zc zr zx : Int} (hZ1 : isW h (setBr G c b (!qB G b c))) (hG1 : sm4 (setBr G c b (!qB G b c))) (hc : c < qM G) (hx : x = ofB b + c) (hzx : zx = x) (hwf : wfH N h) (k0 : ∀ h1 : AH, isW h1 G → grX h h1 N N → Run mi_L_mend (T (d + 5)) Q 138 [some (vR 122), some (vI zb), some (vI zm), some (vI zp), some (vI zc), some (vI zr), some (vI zx)] [] h1 N k n) : Run mi_L_mend (T (d + 5)) Q 128 [some (vR 122), some (vI zb), some (vI zm), some (vI zp), some (vI zc), some (vI zr), some (vI zx)] [] h N k n := by
  obtain ⟨w, m0, hR⟩ := id hZ1
  have hm16 : qM G ≤ 16 := by
    have := sm4_m hG1
    cases b <;> exact this
  have hx49 : x ≤ 49 := by
    cases b
    · have : x = 18 + c := hx
      omega
    · have : x = 34 + c := hx
      omega
  have hxz : zx.toNat = x := by omega
  refine R_aload_n rfl rfl ?_
  refine R_iload rfl rfl ?_
  refine R_iconst rfl ?_
  refine R_aload_n rfl rfl ?_
  refine R_iload rfl rfl ?_
  refine R_iaload rfl (Or.inl (by omega)) m0 ⟨by omega, by omega, by omega⟩ ?_
  refine R_isub rfl ?_
  refine R_iastore rfl (by omega) m0 ⟨by omega, by omega, by omega⟩ ?_
  exact k0 _ (isW_back hG1 hR ⟨by cases b <;> exact hc, hxz.trans hx, rfl, rfl⟩) (grX_u hwf)
set_option maxRecDepth 20000 in
theorem mdD {d N k n : Nat} {h : AH} {G : Gr} {Q : AQ} (hZ : isW h G) (hG : sm4 G) (hN : 126 ≤ N) {i : Nat} {zb zm : Int} (hi : i < 2 * qM G) {zr zx : Int} {m x : Nat} (hzm : zm = m) (hm5 : m ≤ 5) (hzr : zr = bI (!qPb G (i / 2) (decide (i % 2 = 1)))) (hx : x = ofB (decide (i % 2 = 1)) + i / 2) (hzx : zx = x) (hwf : wfH N h) (hN2 : N + 10 < 1000) (hk : k + 10 ≤ 325) (hn : n + 160 ≤ 5200) (k1 : ∀ (h1 : AH) (N1 : Nat) (zb1 zm1 zb2 : Int) (m1 k1 n1 : Nat), N1 ≤ N + 10 → k1 ≤ k + 10 → n1 ≤ n + 160 → m1 ≤ 5 → zm1 = m1 → isW h1 G → grX h h1 N N1 → (∀ r, mdF G (r + 1) i zb m = mdF G r (i + 1) zb1 m1) → Run mi_L_mend (T (d + 5)) Q 138 [some (vR 122), some (vI zb1), some (vI zm1), some (vI (i : Int)), some (vI ((i / 2 : Nat) : Int)), some (vI zr), some (vI zx)] [] h1 N1 k1 n1) : Run mi_L_mend (T (d + 5)) Q 95 [some (vR 122), some (vI zb), some (vI zm), some (vI (i : Int)), some (vI ((i / 2 : Nat) : Int)), some (vI zr), some (vI zx)] [] h N k n := by
  obtain ⟨w, m0, hw0, hw1, wL, wE, wS⟩ := id hZ
  have r0 : w (0 : Int).toNat = (qR G : Int) := hw0
  have r1 : w (1 : Int).toNat = (qC G : Int) := hw1
  have hm16 := sm4_m hG
  obtain ⟨hO, hR4, hC4⟩ := id hG
  obtain ⟨hm4, hm36⟩ := hO.m
  obtain ⟨⟨hr2, hr6⟩, ⟨hc2, hc6⟩, gL, gB, gW, gWn, gWl, gN, gNl⟩ := id hO
  have hc : i / 2 < qM G := by omega
  have hml := Nat.mod_lt (i / 2) (show 0 < qC G by omega)
  have hdl : (i / 2) / qC G < qR G := (Nat.div_lt_iff_lt_mul (show 0 < qC G by omega)).mpr hc
  have hi2 : (i : Int) / 2 = ((i / 2 : Nat) : Int) := rfl
  have hi3 : (i : Int) % 2 = ((i % 2 : Nat) : Int) := rfl
  have hmd : ((i / 2 : Nat) : Int) % (qC G : Int) = (((i / 2) % qC G : Nat) : Int) := rfl
  have hdd : ((i / 2 : Nat) : Int) / (qC G : Int) = (((i / 2) / qC G : Nat) : Int) := rfl
  have hd0 : (0 : Int) ≤ (((i / 2) / qC G : Nat) : Int) := Int.natCast_nonneg _
  have hR : rwL w G := ⟨hw0, hw1, wL, wE, wS⟩
  have hbr := bI01 (!qPb G (i / 2) (decide (i % 2 = 1)))
  rw [← hzr] at hbr
  have hx49 : x ≤ 49 ∧ 18 ≤ x := by
    cases hb : decide (i % 2 = 1) with
    | false =>
      rw [hb] at hx
      have : x = 18 + i / 2 := hx
      omega
    | true =>
      rw [hb] at hx
      have : x = 34 + i / 2 := hx
      omega
  have hxz : zx.toNat = x := by omega
  refine R_iload rfl rfl ?_
  refine R_ifeq rfl ⟨by omega, by omega⟩ (fun c97 => ?_) (fun c97 => ?_)
  · have hv : qPb G (i / 2) (decide (i % 2 = 1)) = true := bI_nf hzr c97
    refine R_aload_n rfl rfl ?_
    refine R_iload rfl rfl ?_
    refine R_iconst rfl ?_
    refine R_aload_n rfl rfl ?_
    refine R_iload rfl rfl ?_
    refine R_iaload rfl (Or.inl (by omega)) m0 ⟨by omega, by omega, by omega⟩ ?_
    refine R_isub rfl ?_
    refine R_iastore rfl (by omega) m0 ⟨by omega, by omega, by omega⟩ ?_
    have hp := qPb_iff.mp hv
    have hG1 : sm4 (setBr G (i / 2) (decide (i % 2 = 1)) (!qB G (decide (i % 2 = 1)) (i / 2))) := sm4_bar hG hp
    have hZ1 := isW_chg (h := h) (b := decide (i % 2 = 1)) (z := 1 - w zx.toNat) hG hR hc (hxz.trans hx) rfl
    have hk5 := kp_5 (G := (setBr G (i / 2) (decide (i % 2 = 1)) (!qB G (decide (i % 2 = 1)) (i / 2))))
    refine R_aload_n rfl rfl ?_
    refine R_scall rfl rfl ⟨Nat.le_of_ble_eq_true rfl, Nat.le_of_ble_eq_true rfl, (show _ + 5 ≤ 325 by omega), (show _ + 80 ≤ 5200 by omega)⟩ (kept_T hZ1 hG1 ⟨by omega, by omega⟩ (wfH_up hwf trivial) (fun z114 h1 hz114 hg1 => aRes_g (Or.inr ⟨(wfL_s (Or.inl (by omega)) (wfL_s trivial (wfL_s trivial (wfL_s trivial (wfL_s trivial (wfL_s trivial (wfL_s trivial wfL_0))))))), wfT_0⟩) ?_))
    obtain ⟨w1, m1, hR1⟩ := id (isW_gr hZ1 hN hg1)
    refine R_iload_n rfl rfl ?_
    refine R_icmple rfl ⟨by omega, by omega⟩ ⟨by omega, by omega⟩ (fun c118 => ?_) (fun c118 => ?_)
    · refine mdC (by omega) (isW_gr hZ1 hN hg1) hG1 hc hx hzx hg1.2.2 (fun h3 hZ3 hg3 => ?_)
      exact k1 h3 (N + 5) _ _ zb m (k + 5) (n + 80) (by omega) (by omega) (by omega) (by omega) hzm hZ3 (grX_t (grX_t (grX_u hwf) (grw_x hg1)) hg3) (fun r => by simp only [mdF]; rw [if_neg (fun q => by have := q.2; unfold kpB at this; omega)])
    · refine R_aload_n rfl rfl ?_
      refine R_scall rfl rfl ⟨Nat.le_of_ble_eq_true rfl, Nat.le_of_ble_eq_true rfl, (show _ + 5 ≤ 325 by omega), (show _ + 80 ≤ 5200 by omega)⟩ (kept_T (isW_gr hZ1 hN hg1) hG1 ⟨by omega, by omega⟩ hg1.2.2 (fun z122 h2 hz122 hg2 => aRes_g (Or.inr ⟨(wfL_s (Or.inl (by omega)) (wfL_s trivial (wfL_s trivial (wfL_s trivial (wfL_s trivial (wfL_s trivial (wfL_s trivial wfL_0))))))), wfT_0⟩) ?_))
      obtain ⟨w2, m2, hR2⟩ := id (isW_gr (isW_gr hZ1 hN hg1) (by omega) hg2)
      refine R_istore_n (lv' := [_, _, _, _, _, _, _]) rfl rfl ?_
      refine R_iload_n rfl rfl ?_
      refine R_istore_n (lv' := [_, _, _, _, _, _, _]) rfl rfl ?_
      refine mdC (by omega) (isW_gr (isW_gr hZ1 hN hg1) (by omega) hg2) hG1 hc hx hzx hg2.2.2 (fun h3 hZ3 hg3 => ?_)
      exact k1 h3 (N + 10) _ _ (i : Int) (kpB G i) (k + 10) (n + 160) (by omega) (by omega) (by omega) kp_5 hz122 hZ3 (grX_t (grX_t (grX_t (grX_u hwf) (grw_x hg1)) (grw_x hg2)) hg3) (fun r => by simp only [mdF]; rw [if_pos ⟨hv, (show m < kpB G i by unfold kpB; omega)⟩])
  · have hv : qPb G (i / 2) (decide (i % 2 = 1)) = false := bI_nt hzr c97
    refine R_goto rfl ?_
    exact k1 h N _ _ zb m k n (by omega) (by omega) (by omega) (by omega) hzm hZ (grX_0 hwf) (fun r => by simp only [mdF]; rw [if_neg (fun q => by rw [hv] at q; exact absurd q.1 (by decide))])
set_option maxRecDepth 20000 in
theorem md_loop {d N0 : Nat} {h0 : AH} {G : Gr} {Q : AQ} (hG : sm4 G) (hN : 126 ≤ N0 ∧ N0 + 325 < 1000) : ∀ (r i : Nat) (h : AH) (N : Nat) (zb zm zi : Int) (m k n : Nat), i + r = 2 * qM G → zi = i → zm = m → m ≤ 5 → isW h G → N ≤ N0 + 5 + 10 * i → wfH N h → grX h0 h N0 N → k ≤ 5 + 10 * i → n ≤ 80 + 160 * i → (∀ (z : Int) (h1 : AH) (N1 : Nat), z = mdF G r i zb m → N1 ≤ N0 + 325 → isW h1 G → grX h0 h1 N0 N1 → Q (.inl (some (vI z))) h1 N1) → Run mi_L_mend (T (d + 5)) Q 10 [some (vR 122), some (vI zb), some (vI zm), some (vI zi), none, none, none] [] h N k n := by
  intro r
  induction r using Nat.strongRecOn with
  | ind r ih =>
  intro i h N zb zm zi m k n hr hzi hzm hm5 hZ hNN hwf hgr hk hn hQ
  have hmi := qM_int G
  obtain ⟨hN1, hN2⟩ := id hN
  have hN3 := hgr.1
  obtain ⟨w, m0, hw0, hw1, wL, wE, wS⟩ := id hZ
  have r0 : w (0 : Int).toNat = (qR G : Int) := hw0
  have r1 : w (1 : Int).toNat = (qC G : Int) := hw1
  have hm16 := sm4_m hG
  obtain ⟨hO, hR4, hC4⟩ := id hG
  obtain ⟨hm4, hm36⟩ := hO.m
  obtain ⟨⟨hr2, hr6⟩, ⟨hc2, hc6⟩, gL, gB, gW, gWn, gWl, gN, gNl⟩ := id hO
  refine R_iload_n rfl rfl ?_
  refine R_iconst rfl ?_
  refine R_aload_n rfl rfl ?_
  refine R_iconst rfl ?_
  refine R_iaload rfl (Or.inl (by omega)) m0 ⟨by omega, by omega, by omega⟩ ?_
  rw [r0]
  refine R_imul rfl ?_
  refine R_aload_n rfl rfl ?_
  refine R_iconst rfl ?_
  refine R_iaload rfl (Or.inl (by omega)) m0 ⟨by omega, by omega, by omega⟩ ?_
  rw [r1]
  refine R_imul rfl ?_
  rw [Int.mul_assoc, hmi]
  refine R_icmpge rfl ⟨by omega, by omega⟩ ⟨by omega, by omega⟩ (fun c20 => ?_) (fun c20 => ?_)
  · have hr0 : r = 0 := by omega
    subst hr0
    refine R_iload_n rfl rfl ?_
    exact R_ireturn rfl (fun q => absurd q (by decide)) (show _ ≤ 325 by omega) (show _ ≤ 5200 by omega) (hQ _ _ _ (by simp only [mdF]) (by omega) hZ hgr)
  · obtain ⟨r, rfl⟩ : ∃ r1, r = r1 + 1 := ⟨r - 1, by omega⟩
    subst hzi
    refine mdA hZ hG (by omega) (i := i) (by omega) (fun zr hzr => ?_)
    refine mdB hZ hG (by omega) (i := i) (by omega) (fun zx hzx => ?_)
    refine mdD hZ hG (by omega) (i := i) (by omega) hzm hm5 hzr rfl hzx hwf (by omega) (by omega) (by omega) (fun h1 N1 zb1 zm1 zb2 m1 k1 n1 e1 e2 e3 e4 e5 e6 e7 e8 => ?_)
    refine R_iinc (lv' := [_, _, _, _, _, _, _]) rfl rfl rfl ?_
    refine R_goto rfl ?_
    refine Run.lv (lv' := [_, _, _, _, none, none, none]) ?_ ⟨Or.inr rfl, Or.inr rfl, Or.inr rfl, Or.inr rfl, Or.inl rfl, Or.inl rfl, Or.inl rfl, trivial⟩
    exact ih r (by omega) (i + 1) h1 N1 _ _ _ m1 k1 n1 (by omega) (by omega) e5 e4 e6 (by omega) e7.2.2 (grX_t hgr e7) (by omega) (by omega) (fun z h2 N2 hz => hQ z h2 N2 (hz.trans (e8 r).symm))
set_option maxRecDepth 20000 in
theorem mend_L {d N : Nat} {h : AH} {G : Gr} {Q : AQ} (hZ : isW h G) (hG : sm4 G) (hN : 126 ≤ N ∧ N + 325 < 1000) (hwf : wfH N h) (hQ : ∀ (z : Int) (h1 : AH) (N1 : Nat), z = mdF G (2 * qM G) 0 (-9) (kpG G) → N1 ≤ N + 325 → isW h1 G → grX h h1 N N1 → Q (.inl (some (vI z))) h1 N1) : T (d + 6) 246 [vR 122] h N Q := by
  obtain ⟨hN1, hN2⟩ := id hN
  refine T_body (I := mi_L_mend) (lv := [_, _, _, _, _, _, _]) rfl (Nat.le_of_ble_eq_true rfl) rfl ?_
  refine R_bipush rfl ?_
  refine R_istore_n (lv' := [_, _, _, _, _, _, _]) rfl rfl ?_
  refine R_aload_n rfl rfl ?_
  refine R_scall rfl rfl ⟨Nat.le_of_ble_eq_true rfl, Nat.le_of_ble_eq_true rfl, Nat.le_of_ble_eq_true rfl, Nat.le_of_ble_eq_true rfl⟩ (kept_T hZ hG ⟨by omega, by omega⟩ hwf (fun z4 h1 hz4 hg1 => aRes_g (Or.inr ⟨(wfL_s (Or.inl (by omega)) (wfL_s trivial (wfL_n (wfL_n (wfL_n (wfL_n (wfL_n wfL_0))))))), wfT_0⟩) ?_))
  have hk5 := kp_5 (G := G)
  refine R_istore_n (lv' := [_, _, _, _, _, _, _]) rfl rfl ?_
  refine R_iconst rfl ?_
  refine R_istore_n (lv' := [_, _, _, _, _, _, _]) rfl rfl ?_
  exact md_loop hG hN (2 * qM G) 0 h1 (N + 5) _ _ _ (kpG G) 5 80 (Nat.zero_add _) rfl hz4 hk5 (isW_gr hZ (by omega) hg1) (by omega) hg1.2.2 (grw_x hg1) (by omega) (by omega) hQ
