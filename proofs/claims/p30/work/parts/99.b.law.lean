/-! ===== the law ===== -/
/-- all that stands between two steps of the law -/
def lS (L : Nat) (xs : Nat → Int) (h : AH) (y : Sy) (G : Gr) (N : Nat) : Prop := isFace h y ∧ y.1 = G ∧ isW h G ∧ isWo h G ∧ isLi h G ∧ sm4 G ∧ (∃ g, h 125 = eI 4 g) ∧ wfH N h ∧ h aRO = eI L xs ∧ L < 1000 ∧ 126 ≤ N ∧ N < 600
theorem lS_call {L : Nat} {xs : Nat → Int} {h h' : AH} {y : Sy} {G : Gr} {N : Nat} (hS : lS L xs h y G N) (hF : isFace h' y) (ho : ∀ j, 122 ≤ j → h' j = h j) : lS L xs h' y G N := by
  obtain ⟨-, s2, s3, s4, s5, s6, ⟨g, s7⟩, s8, s9, s10, s11, s12⟩ := hS
  exact ⟨hF, s2, isW_fr s3 (ho _ (by decide)), isWo_fr s4 (ho _ (by decide)), isLi_fr s5 (ho _ (by decide)), s6, ⟨g, (ho _ (by decide)).trans s7⟩, wf_call hF ho s8 (by omega), (ho _ (by decide)).trans s9, s10, s11, s12⟩
theorem lS_grw {L : Nat} {xs : Nat → Int} {h h' : AH} {y : Sy} {G : Gr} {N N' : Nat} (hS : lS L xs h y G N) (hg : grw h h' N N') (hN : N' < 600) : lS L xs h' y G N' := by
  obtain ⟨s1, s2, s3, s4, s5, s6, ⟨g, s7⟩, s8, s9, s10, s11, s12⟩ := hS
  have hRO : aRO = 1000 := rfl
  have ho : ∀ j, (j < 126 ∨ 1000 ≤ j) → h' j = h j := fun j hj => hg.2.1 j (by omega)
  exact ⟨isFace_lo s1 (fun j hj => ho j (by omega)), s2, isW_fr s3 (ho _ (by decide)), isWo_fr s4 (ho _ (by decide)), isLi_fr s5 (ho _ (by decide)), s6, ⟨g, (ho _ (by decide)).trans s7⟩, hg.2.2, (ho _ (by decide)).trans s9, s10, by have := hg.1; omega, hN⟩
theorem lS_grX {L : Nat} {xs : Nat → Int} {h h' : AH} {y : Sy} {G : Gr} {N N' : Nat} (hS : lS L xs h y G N) (hW : isW h' G) (hg : grX h h' N N') (hN : N' < 600) : lS L xs h' y G N' := by
  obtain ⟨s1, s2, s3, s4, s5, s6, ⟨g, s7⟩, s8, s9, s10, s11, s12⟩ := hS
  have hRO : aRO = 1000 := rfl
  have ho : ∀ j, j ≠ 122 → (j < 126 ∨ 1000 ≤ j) → h' j = h j := fun j h1 hj => hg.2.1 j h1 (by omega)
  exact ⟨isFace_lo s1 (fun j hj => ho j (by omega) (by omega)), s2, hW, isWo_fr s4 (ho _ (by decide) (by decide)), isLi_fr s5 (ho _ (by decide) (by decide)), s6, ⟨g, (ho _ (by decide) (by decide)).trans s7⟩, hg.2.2, (ho _ (by decide) (by decide)).trans s9, s10, by have := hg.1; omega, hN⟩
theorem lS_got {L : Nat} {xs : Nat → Int} {h h' : AH} {y : Sy} {G : Gr} {N : Nat} {g : Nat → Int} (hS : lS L xs h y G N) (hg : h' 125 = eI 4 g) (ho : ∀ j, j ≠ 125 → (j < N ∨ N + 1 ≤ j) → h' j = h j) (hw : wfH (N + 1) h') (hN : N + 1 < 600) : lS L xs h' y G (N + 1) := by
  obtain ⟨s1, s2, s3, s4, s5, s6, -, s8, s9, s10, s11, s12⟩ := hS
  have hRO : aRO = 1000 := rfl
  have ho : ∀ j, j ≠ 125 → (j < 126 ∨ 1000 ≤ j) → h' j = h j := fun j h1 hj => ho j h1 (by omega)
  exact ⟨isFace_lo s1 (fun j hj => ho j (by omega) (by omega)), s2, isW_fr s3 (ho _ (by decide) (by decide)), isWo_fr s4 (ho _ (by decide) (by decide)), isLi_fr s5 (ho _ (by decide) (by decide)), s6, ⟨g, hg⟩, hw, (ho _ (by decide) (by decide)).trans s9, s10, by omega, hN⟩
/-- the law's row has changed: another grid -/
theorem lS_row {L : Nat} {xs : Nat → Int} {h : AH} {y y' : Sy} {G G' : Gr} {N : Nat} {w' : Nat → Int} (hS : lS L xs h y G N) (hF : isFace h y') (hy : y'.1 = G') (hR : rwL w' G') (h1 : qR G' = qR G) (h2 : qC G' = qC G) (h3 : qW G' = qW G) (h4 : qWn G' = qWn G) (h5 : qWl G' = qWl G) (h6 : qN G' = qN G) (h7 : qNl G' = qNl G) : lS L xs (va_up h 122 (eI 64 w')) y' G' N := by
  obtain ⟨s1, s2, s3, s4, s5, s6, ⟨g, s7⟩, s8, s9, s10, s11, s12⟩ := hS
  have hRO : aRO = 1000 := rfl
  have hF2 := isFace_up hF (h' := va_up h 122 (eI 64 w')) (fun j hj => va_up_ne _ _ hj)
  have hok : okG G' := by
    have := hF.2.2.2.2.1
    rw [hy] at this
    exact this
  refine ⟨hF2, hy, ⟨w', va_up_self _ _ _, hR⟩, ?_, ?_, ⟨hok, by rw [h1]; exact s6.2.1, by rw [h2]; exact s6.2.2⟩, ⟨g, (va_up_ne _ _ (by decide)).trans s7⟩, wfH_up s8 trivial, (va_up_ne _ _ (by decide)).trans s9, s10, s11, s12⟩
  · obtain ⟨a1, v, a2, a3⟩ := s4
    refine ⟨by rw [h3]; exact a1, v, (va_up_ne _ _ (by decide)).trans a2, ?_⟩
    rw [h3, h4, h5]
    exact a3
  · obtain ⟨a1, l, a2, a3, a4⟩ := s5
    refine ⟨by rw [h6]; exact a1, l, (va_up_ne _ _ (by decide)).trans a2, ?_⟩
    rw [h6, h7]
    exact ⟨a3, a4⟩
theorem rwL_let {w : Nat → Int} {G : Gr} {c : Nat} {z : Int} (hR : rwL w G) (hm : qM G ≤ 16) (hc : c < qM G) : rwL (va_up w (2 + c) z) (setL G c z) := by
  obtain ⟨h0, h1, hL, hE, hS⟩ := hR
  refine ⟨(va_up_ne _ _ (by omega)).trans h0, (va_up_ne _ _ (by omega)).trans h1, fun x hx => ?_, fun x hx => (va_up_ne _ _ ?_).trans (hE x hx), fun x hx => (va_up_ne _ _ ?_).trans (hS x hx)⟩
  · have hx : x < qM G := hx
    show va_up w (2 + c) z (2 + x) = va_up (qL G) c z x
    by_cases q : x = c
    · rw [q, va_up_self, va_up_self]
    · rw [va_up_ne _ _ (by omega), va_up_ne _ _ q]
      exact hL x hx
  · have hx : x < qM G := hx
    omega
  · have hx : x < qM G := hx
    omega
theorem setL_back {G : Gr} {c : Nat} {z : Int} : setL (setL G c z) c (qL G c) = G := by
  have e : va_up (va_up (qL G) c z) c (qL G c) = qL G := funext fun j => by
    by_cases q : j = c
    · rw [q, va_up_self]
    · rw [va_up_ne _ _ q, va_up_ne _ _ q]
  show (qR G, qC G, va_up (va_up (qL G) c z) c (qL G c), qE G, qS G, qW G, qWn G, qWl G, qN G, qNl G) = G
  rw [e]
theorem rd_head {G : Gr} : (rdS G false 1).2 = (rdG G false).head? := by
  unfold rdS
  cases h : rdG G false with
  | nil => rfl
  | cons R l =>
    show (seL 1 (seA 1 (0, none) R) l).2 = some R
    have e : seA 1 (0, none) R = (1, some R) := rfl
    rw [e, seL_full (lim := 1) (s := (1, some R)) (Nat.le_refl 1)]
theorem rd_mem {G : Gr} (hG : sm4 G) (hn : qN G ≤ 3) {em : Bool} {R : List Nat} (h : R ∈ rdG G em) : ∃ row, R = chR G row := by
  rw [rwn_rd hG.1 hn] at h
  obtain ⟨row, hr⟩ := fl_mem _ _ h
  unfold gR at hr
  split at hr
  · exact ⟨row, List.mem_singleton.mp hr⟩
  · exact absurd hr List.not_mem_nil
theorem fl_len1 {α : Type} {g : Nat → List α} (h : ∀ j, (g j).length ≤ 1) : ∀ m i, (fl g m i).length ≤ m
  | 0, _ => Nat.le_refl _
  | m + 1, i => by
    show (g i ++ fl g m (i + 1)).length ≤ m + 1
    rw [List.length_append]
    have := h i
    have := fl_len1 h m (i + 1)
    omega
theorem rd_4096 {G : Gr} (hG : sm4 G) (hn : qN G ≤ 3) {em : Bool} : (rdG G em).length ≤ 4096 := by
  rw [rwn_rd hG.1 hn]
  refine Nat.le_trans (fl_len1 (fun j => ?_) _ _) (rwn_b hG hn)
  unfold gR
  split
  · exact Nat.le_refl _
  · exact Nat.zero_le _
theorem rd_all {G : Gr} (hG : sm4 G) (hn : qN G ≤ 3) {em : Bool} {lim : Nat} (hl : 4096 ≤ lim) : (rdS G em lim).1 = (rdG G em).length := by
  have := rd_4096 hG hn (em := em)
  rw [rdS_min]
  omega
/-- what reading() answers, by the row that the law found -/
theorem fst_L {G : Gr} (hG : sm4 G) (hn : qN G ≤ 3) {g : Nat → Int} (hg : gotR (rdG G false).head? g) (i : Nat) : (-9 ≤ fstG G i ∧ fstG G i ≤ 16) ∧ fstG G i = if (rdG G false).length = 0 ∨ qN G ≤ i then -9 else g i := by
  have hm := sm4_m hG
  unfold fstG
  rw [rd_head]
  cases h : rdG G false with
  | nil => exact ⟨⟨show (-9 : Int) ≤ -9 by decide, show (-9 : Int) ≤ 16 by decide⟩, rfl⟩
  | cons R l =>
    rw [h] at hg
    have hR : R ∈ rdG G false := by rw [h]; exact List.mem_cons_self
    have hlen := rd_len hG.1 hR
    obtain ⟨row, hrow⟩ := rd_mem hG hn hR
    have hne : ¬ (R :: l).length = 0 := by rw [List.length_cons]; omega
    have key : ∀ v : Int, v = (match R[i]? with
      | some x => (x : Int)
      | none => -9) → (-9 ≤ v ∧ v ≤ 16) ∧ v = if (R :: l).length = 0 ∨ qN G ≤ i then -9 else g i := by
      intro v hv
      cases hx : R[i]? with
      | none =>
        rw [hx] at hv
        have hv : v = -9 := hv
        have hq : qN G ≤ i := by
          have := List.getElem?_eq_none_iff.mp hx
          omega
        rw [if_pos (Or.inr hq)]
        exact ⟨⟨by omega, by omega⟩, hv⟩
      | some x =>
        rw [hx] at hv
        have hv : v = (x : Int) := hv
        have hi := (List.getElem?_eq_some_iff.mp hx).1
        have hxm : x < qM G := by
          have hx2 := hx
          rw [hrow] at hx2
          obtain ⟨-, q⟩ := ch_get hx2
          rw [q]
          exact Nat.mod_lt _ (by have := hG.1.m; omega)
        rw [if_neg (fun q => by
          rcases q with q | q
          · exact hne q
          · omega)]
        exact ⟨⟨by omega, by omega⟩, hv.trans (hg R rfl i x hx).symm⟩
    exact key _ rfl
theorem md_r {G : Gr} : ∀ (r p : Nat) (b : Int) (m : Nat), -9 ≤ b → b ≤ p + r → -9 ≤ mdF G r p b m ∧ mdF G r p b m ≤ p + r
  | 0, p, b, m, h1, h2 => ⟨h1, h2⟩
  | r + 1, p, b, m, h1, h2 => by
    simp only [mdF]
    split
    · have := md_r (G := G) r (p + 1) (p : Int) (kpB G p) (by omega) (by omega)
      omega
    · have := md_r (G := G) r (p + 1) b m h1 (by omega)
      omega
theorem fl_256 {G : Gr} (hw4 : qW G ≤ 4) : flG G ≤ 256 := by
  unfold flG
  split
  · exact Nat.zero_le _
  · rename_i hq
    by_cases h0 : qW G = 0
    · rw [show nE G = 0 by omega]
      exact Nat.le_of_ble_eq_true rfl
    · rw [← fl_law (by omega), ← ct_sm]
      refine Nat.le_trans (ct_le _ _) ?_
      have h1 : qW G ^ nE G ≤ 4 ^ nE G := Nat.pow_le_pow_left hw4 _
      have h2 : 4 ^ nE G ≤ 4 ^ 4 := Nat.pow_le_pow_right (by decide) (by omega)
      exact Nat.le_trans h1 h2
set_option maxRecDepth 20000 in
theorem law_ru {d L : Nat} {xs : Nat → Int} {y : Sy} {G G0 : Gr} : ∀ (r i : Nat) (h : AH) (N k n : Nat) (zi : Int), i + r = 5 → zi = i → lS L xs h y G N → N + r ≤ 500 → k + 2 * r ≤ 10000 → n + 22 * r ≤ 100000 → (∀ (h1 : AH) (N1 k1 n1 : Nat) (zi1 : Int), lS L xs h1 y G N1 → N1 ≤ N + r → k1 ≤ k + 2 * r → n1 ≤ n + 22 * r → Run mi_L_law (T (d + 40)) qLaw 136 [some (vR aRO), some (vR 0), some (vR 122), some (vR 123), some (vR 124), some (vR 125), some (vI ((qW G0 : Nat) : Int)), some (vI zi1), none, none, none, none, none, none] [] h1 N1 k1 n1) → Run mi_L_law (T (d + 40)) qLaw 107 [some (vR aRO), some (vR 0), some (vR 122), some (vR 123), some (vR 124), some (vR 125), some (vI ((qW G0 : Nat) : Int)), some (vI zi), none, none, none, none, none, none] [] h N k n := by
  intro r
  induction r using Nat.strongRecOn with
  | ind r ih =>
  intro i h N k n zi hr hzi hS hN5 hk hn K
  have hRO : aRO = 1000 := rfl
  have hNb := hS.2.2.2.2.2.2.2.2.2.2
  refine R_iload rfl rfl ?_
  refine R_iconst rfl ?_
  refine R_icmpge rfl ⟨by omega, by omega⟩ ⟨by decide, by decide⟩ (fun c110 => ?_) (fun c110 => ?_)
  · have hr0 : r = 0 := by omega
    subst hr0
    exact K h N k n _ hS (by omega) (by omega) (by omega)
  · obtain ⟨r, rfl⟩ : ∃ r1, r = r1 + 1 := ⟨r - 1, by omega⟩
    subst hzi
    refine R_aload_n rfl rfl ?_
    refine R_iload rfl rfl ?_
    refine R_vcall rfl rfl ⟨(by omega), _, hS.1.1⟩ ⟨Nat.le_of_ble_eq_true rfl, Nat.le_of_ble_eq_true rfl, (show _ ≤ 600130 by omega), (show _ ≤ 7301079 by omega)⟩ (rule_C hS.1 (by omega) (c := (i : Int)) ⟨by omega, by omega⟩ (fun h1 hF1 ho1 => ?_))
    have hor : opRule y (i : Int) = (0, bI (ruG G i), y) := by
      unfold opRule
      rw [if_pos ⟨by omega, by omega⟩, ← hS.2.1]
      rfl
    rw [hor] at hF1 ⊢
    have hS1 : lS L xs h1 y G N := lS_call hS hF1 ho1
    refine aRes_g (v := vI (bI (ruG G i))) (Or.inl rfl) ?_
    have hb1 := bI01 (ruG G i)
    refine R_iload rfl rfl ?_
    refine R_aload_n rfl rfl ?_
    refine R_scall rfl rfl ⟨Nat.le_of_ble_eq_true rfl, Nat.le_of_ble_eq_true rfl, (show _ ≤ 600130 by omega), (show _ ≤ 7301079 by omega)⟩ (keeps_T (r := i) hS1.2.2.1 hS.2.2.2.2.2.1 ⟨by omega, by omega⟩ hS1.2.2.2.2.2.2.2.1 (by omega) rfl (fun z122 h2 hz122 hg2 => aRes_g (Or.inr ⟨(wfL_s (Or.inr (Nat.le_refl _)) (wfL_s (Or.inl (by omega)) (wfL_s (Or.inl (by omega)) (wfL_s (Or.inl (by omega)) (wfL_s (Or.inl (by omega)) (wfL_s (Or.inl (by omega)) (wfL_s trivial (wfL_s trivial (wfL_n (wfL_n (wfL_n (wfL_n (wfL_n (wfL_n wfL_0)))))))))))))), (wfT_s trivial wfT_0)⟩) ?_))
    
    refine R_icmpeq rfl ⟨by omega, by omega⟩ ⟨by omega, by omega⟩ (fun c125 => ?_) (fun c125 => ?_)
    · refine R_iinc (lv' := [_, _, _, _, _, _, _, _, _, _, _, _, _, _]) rfl rfl rfl ?_
      refine R_goto rfl ?_
      exact ih r (by omega) (i + 1) h2 (N + 1) _ _ _ (by omega) (by omega) (lS_grw hS1 hg2 (by omega)) (by omega) (by omega) (by omega) (fun h3 N3 k3 n3 z3 a1 a2 a3 a4 => K h3 N3 k3 n3 z3 a1 (by omega) (by omega) (by omega))
    · exact absurd hz122.symm c125
set_option maxRecDepth 20000 in
theorem law_re1 {d L N k n : Nat} {xs : Nat → Int} {h : AH} {y : Sy} {G G0 : Gr} {z7 : Int} (hS : lS L xs h y G N) (hN5 : N ≤ 500) (hk : k ≤ 10000) (hn : n ≤ 100000) (K : ∀ (h1 : AH) (g1 : Nat → Int) (zm : Int), lS L xs h1 y G (N + 1) → zm = ((rdG G false).length : Nat) → h1 125 = eI 4 g1 → gotR (rdG G false).head? g1 → Run mi_L_law (T (d + 40)) qLaw 161 [some (vR aRO), some (vR 0), some (vR 122), some (vR 123), some (vR 124), some (vR 125), some (vI ((qW G0 : Nat) : Int)), some (vI zm), some (vI 0), none, none, none, none, none] [] h1 (N + 1) (k + 1) (n + 4)) : Run mi_L_law (T (d + 40)) qLaw 136 [some (vR aRO), some (vR 0), some (vR 122), some (vR 123), some (vR 124), some (vR 125), some (vI ((qW G0 : Nat) : Int)), some (vI z7), none, none, none, none, none, none] [] h N k n := by
  have hRO : aRO = 1000 := rfl
  have hNb := hS.2.2.2.2.2.2.2.2.2.2
  obtain ⟨w, m0, hw0, hw1, wL, wE, wS⟩ := id hS.2.2.1
  have r0 : w (0 : Int).toNat = (qR G : Int) := hw0
  have r1 : w (1 : Int).toNat = (qC G : Int) := hw1
  obtain ⟨g0, mg⟩ := hS.2.2.2.2.2.2.1
  have hG := hS.2.2.2.2.2.1
  obtain ⟨hn3, l, ml, hl0, hll⟩ := id hS.2.2.2.2.1
  have q0 : l (0 : Int).toNat = (qN G : Int) := hl0
  have hm16 := sm4_m hG
  refine R_iconst rfl ?_
  refine R_aload_n rfl rfl ?_
  refine R_aload rfl rfl ?_
  refine R_aload rfl rfl ?_
  refine R_scall rfl rfl ⟨Nat.le_of_ble_eq_true rfl, Nat.le_of_ble_eq_true rfl, (show _ ≤ 600130 by omega), (show _ ≤ 7301079 by omega)⟩ (readings_L (em := false) hS.2.2.1 hS.2.2.2.2.1 hG ⟨by omega, by omega⟩ hS.2.2.2.2.2.2.2.1 rfl mg (fun z142 h1 g1 hz142 e1 hgo e2 e3 => aRes_g (Or.inr ⟨(wfL_s (Or.inr (Nat.le_refl _)) (wfL_s (Or.inl (by omega)) (wfL_s (Or.inl (by omega)) (wfL_s (Or.inl (by omega)) (wfL_s (Or.inl (by omega)) (wfL_s (Or.inl (by omega)) (wfL_s trivial (wfL_s trivial (wfL_n (wfL_n (wfL_n (wfL_n (wfL_n (wfL_n wfL_0)))))))))))))), wfT_0⟩) ?_))
  have hS1 : lS L xs h1 y G (N + 1) := lS_got hS e1 e2 e3 (by omega)
  refine R_istore (lv' := [_, _, _, _, _, _, _, _, _, _, _, _, _, _]) rfl rfl ?_
  refine R_aload_n rfl rfl ?_
  refine R_vcall rfl rfl ⟨(by omega), _, hS1.1.1⟩ ⟨Nat.le_of_ble_eq_true rfl, Nat.le_of_ble_eq_true rfl, (show _ ≤ 600130 by omega), (show _ ≤ 7301079 by omega)⟩ (readings_C hS1.1 (by omega) (fun h2 hF2 ho2 => ?_))
  have hS2 : lS L xs h2 y G (N + 1) := lS_call hS1 hF2 ho2
  have hrq : (rdS y.1 false 2147483647).1 = (rdG G false).length := by rw [hS.2.1]; exact rd_all hG hn3 (by decide)
  refine aRes_g (v := vI (((rdS y.1 false 2147483647).1 : Nat) : Int)) (Or.inl rfl) ?_
  rw [hrq]
  have hr4 := rd_4096 hG hn3 (em := false)
  refine R_iload rfl rfl ?_
  refine R_icmpeq rfl ⟨by omega, by omega⟩ ⟨by omega, by omega⟩ (fun c153 => ?_) (fun c153 => ?_)
  · refine R_iconst rfl ?_
    refine R_istore (lv' := [_, _, _, _, _, _, _, _, _, _, _, _, _, _]) rfl rfl ?_
    exact K h2 g1 _ hS2 hz142 ((ho2 _ (by decide)).trans e1) hgo
  · exact absurd hz142.symm c153
set_option maxRecDepth 20000 in
theorem law_re2 {d L N : Nat} {xs : Nat → Int} {y : Sy} {G G0 : Gr} {g : Nat → Int} {zm : Int} (hzm : zm = ((rdG G false).length : Nat)) (hgo : gotR (rdG G false).head? g) : ∀ (r i : Nat) (h : AH) (k n : Nat) (zi : Int), i + r = 4 → zi = i → lS L xs h y G N → h 125 = eI 4 g → k + r ≤ 10000 → n + 6 * r ≤ 100000 → (∀ (h1 : AH) (N1 k1 n1 : Nat) (zi1 : Int), lS L xs h1 y G N1 → N1 ≤ N → k1 ≤ k + r → n1 ≤ n + 6 * r → Run mi_L_law (T (d + 40)) qLaw 208 [some (vR aRO), some (vR 0), some (vR 122), some (vR 123), some (vR 124), some (vR 125), some (vI ((qW G0 : Nat) : Int)), some (vI zm), some (vI zi1), none, none, none, none, none] [] h1 N1 k1 n1) → Run mi_L_law (T (d + 40)) qLaw 161 [some (vR aRO), some (vR 0), some (vR 122), some (vR 123), some (vR 124), some (vR 125), some (vI ((qW G0 : Nat) : Int)), some (vI zm), some (vI zi), none, none, none, none, none] [] h N k n := by
  intro r
  induction r using Nat.strongRecOn with
  | ind r ih =>
  intro i h k n zi hr hzi hS mgg hk hn K
  have hRO : aRO = 1000 := rfl
  have hNb := hS.2.2.2.2.2.2.2.2.2.2
  obtain ⟨w, m0, hw0, hw1, wL, wE, wS⟩ := id hS.2.2.1
  have r0 : w (0 : Int).toNat = (qR G : Int) := hw0
  have r1 : w (1 : Int).toNat = (qC G : Int) := hw1
  obtain ⟨g0, mg⟩ := hS.2.2.2.2.2.2.1
  have hG := hS.2.2.2.2.2.1
  obtain ⟨hn3, l, ml, hl0, hll⟩ := id hS.2.2.2.2.1
  have q0 : l (0 : Int).toNat = (qN G : Int) := hl0
  have hm16 := sm4_m hG
  have hr4 := rd_4096 hG hn3 (em := false)
  refine R_iload rfl rfl ?_
  refine R_iconst rfl ?_
  refine R_icmpge rfl ⟨by omega, by omega⟩ ⟨by decide, by decide⟩ (fun c164 => ?_) (fun c164 => ?_)
  · have hr0 : r = 0 := by omega
    subst hr0
    exact K h N k n _ hS (Nat.le_refl _) (by omega) (by omega)
  · obtain ⟨r, rfl⟩ : ∃ r1, r = r1 + 1 := ⟨r - 1, by omega⟩
    subst hzi
    refine R_aload_n rfl rfl ?_
    refine R_iload rfl rfl ?_
    refine R_vcall rfl rfl ⟨(by omega), _, hS.1.1⟩ ⟨Nat.le_of_ble_eq_true rfl, Nat.le_of_ble_eq_true rfl, (show _ ≤ 600130 by omega), (show _ ≤ 7301079 by omega)⟩ (reading_C hS.1 (by omega) (c := (i : Int)) ⟨by omega, by omega⟩ (fun h1 hF1 ho1 => ?_))
    have hor : opReading y (i : Int) = (0, fstG G i, y) := by
      unfold opReading
      rw [if_pos (by omega), ← hS.2.1]
      rfl
    rw [hor] at hF1 ⊢
    have hS1 : lS L xs h1 y G N := lS_call hS hF1 ho1
    refine aRes_g (v := vI (fstG G i)) (Or.inl rfl) ?_
    obtain ⟨⟨hf1, hf2⟩, hf3⟩ := fst_L hG hn3 hgo i
    have ml1 : h1 124 = eI 4 l := (ho1 _ (by decide)).trans ml
    have mg1 : h1 125 = eI 4 g := (ho1 _ (by decide)).trans mgg
    refine R_iload rfl rfl ?_
    refine R_ifeq rfl ⟨by omega, by omega⟩ (fun c175 => ?_) (fun c175 => ?_)
    · have hv : fstG G i = -9 := hf3.trans (if_pos (Or.inl (by omega)))
      rw [hv]
      refine R_bipush rfl ?_
      refine R_goto rfl ?_
      refine R_icmpeq rfl ⟨by omega, by omega⟩ ⟨by decide, by decide⟩ (fun c197 => ?_) (fun c197 => ?_)
      · refine R_iinc (lv' := [_, _, _, _, _, _, _, _, _, _, _, _, _, _]) rfl rfl rfl ?_
        refine R_goto rfl ?_
        exact ih r (by omega) (i + 1) h1 (k + 1) (n + 6) _ (by omega) (by omega) hS1 ((ho1 _ (by decide)).trans mgg) (by omega) (by omega) (fun h2 N2 k2 n2 z2 a1 a2 a3 a4 => K h2 N2 k2 n2 z2 a1 a2 (by omega) (by omega))
      · exact absurd (by first | rfl | exact hv) c197
    · refine R_iload rfl rfl ?_
      refine R_aload rfl rfl ?_
      refine R_iconst rfl ?_
      refine R_iaload rfl (Or.inl (by omega)) ml1 ⟨by omega, by omega, by omega⟩ ?_
      rw [q0]
      refine R_icmplt rfl ⟨by omega, by omega⟩ ⟨by omega, by omega⟩ (fun c184 => ?_) (fun c184 => ?_)
      · have hv : fstG G i = g ((i : Int)).toNat := hf3.trans (if_neg (fun q => by omega))
        refine R_aload rfl rfl ?_
        refine R_iload rfl rfl ?_
        refine R_iaload rfl (Or.inl (by omega)) mg1 ⟨by omega, by omega, by omega⟩ ?_
        refine R_icmpeq rfl ⟨by omega, by omega⟩ ⟨by omega, by omega⟩ (fun c197 => ?_) (fun c197 => ?_)
        · refine R_iinc (lv' := [_, _, _, _, _, _, _, _, _, _, _, _, _, _]) rfl rfl rfl ?_
          refine R_goto rfl ?_
          exact ih r (by omega) (i + 1) h1 (k + 1) (n + 6) _ (by omega) (by omega) hS1 ((ho1 _ (by decide)).trans mgg) (by omega) (by omega) (fun h2 N2 k2 n2 z2 a1 a2 a3 a4 => K h2 N2 k2 n2 z2 a1 a2 (by omega) (by omega))
        · exact absurd (by first | rfl | exact hv) c197
      · have hv : fstG G i = -9 := hf3.trans (if_pos (Or.inr (by omega)))
        rw [hv]
        refine R_bipush rfl ?_
        refine R_goto rfl ?_
        refine R_icmpeq rfl ⟨by omega, by omega⟩ ⟨by decide, by decide⟩ (fun c197 => ?_) (fun c197 => ?_)
        · refine R_iinc (lv' := [_, _, _, _, _, _, _, _, _, _, _, _, _, _]) rfl rfl rfl ?_
          refine R_goto rfl ?_
          exact ih r (by omega) (i + 1) h1 (k + 1) (n + 6) _ (by omega) (by omega) hS1 ((ho1 _ (by decide)).trans mgg) (by omega) (by omega) (fun h2 N2 k2 n2 z2 a1 a2 a3 a4 => K h2 N2 k2 n2 z2 a1 a2 (by omega) (by omega))
        · exact absurd (by first | rfl | exact hv) c197
set_option maxRecDepth 20000 in
theorem law_po {d L N k n : Nat} {xs : Nat → Int} {h : AH} {y : Sy} {G G0 : Gr} {z7 z8 : Int} (hS : lS L xs h y G N) (hq0 : qW G = qW G0) (hN5 : N ≤ 500) (hk : k ≤ 10000) (hn : n ≤ 100000) (K : ∀ (h1 : AH) (N1 k1 n1 : Nat) (z7a : Int), lS L xs h1 y G N1 → N1 ≤ N + 5 → k1 ≤ k + 5 → n1 ≤ n + 88 → Run mi_L_law (T (d + 40)) qLaw 244 [some (vR aRO), some (vR 0), some (vR 122), some (vR 123), some (vR 124), some (vR 125), some (vI ((qW G0 : Nat) : Int)), some (vI z7a), some (vI z8), none, none, none, none, none] [] h1 N1 k1 n1) : Run mi_L_law (T (d + 40)) qLaw 208 [some (vR aRO), some (vR 0), some (vR 122), some (vR 123), some (vR 124), some (vR 125), some (vI ((qW G0 : Nat) : Int)), some (vI z7), some (vI z8), none, none, none, none, none] [] h N k n := by
  have hRO : aRO = 1000 := rfl
  have hNb := hS.2.2.2.2.2.2.2.2.2.2
  obtain ⟨w, m0, hw0, hw1, wL, wE, wS⟩ := id hS.2.2.1
  have r0 : w (0 : Int).toNat = (qR G : Int) := hw0
  have r1 : w (1 : Int).toNat = (qC G : Int) := hw1
  obtain ⟨g0, mg⟩ := hS.2.2.2.2.2.2.1
  have hG := hS.2.2.2.2.2.1
  obtain ⟨hn3, l, ml, hl0, hll⟩ := id hS.2.2.2.2.1
  have q0 : l (0 : Int).toNat = (qN G : Int) := hl0
  have hm16 := sm4_m hG
  refine R_iconst rfl ?_
  refine R_aload_n rfl rfl ?_
  refine R_aload rfl rfl ?_
  refine R_aload rfl rfl ?_
  refine R_scall rfl rfl ⟨Nat.le_of_ble_eq_true rfl, Nat.le_of_ble_eq_true rfl, (show _ ≤ 600130 by omega), (show _ ≤ 7301079 by omega)⟩ (readings_L (em := true) hS.2.2.1 hS.2.2.2.2.1 hG ⟨by omega, by omega⟩ hS.2.2.2.2.2.2.2.1 rfl mg (fun z214 h1 g1 hz214 e1 hgo e2 e3 => aRes_g (Or.inr ⟨(wfL_s (Or.inr (Nat.le_refl _)) (wfL_s (Or.inl (by omega)) (wfL_s (Or.inl (by omega)) (wfL_s (Or.inl (by omega)) (wfL_s (Or.inl (by omega)) (wfL_s (Or.inl (by omega)) (wfL_s trivial (wfL_s trivial (wfL_s trivial (wfL_n (wfL_n (wfL_n (wfL_n (wfL_n wfL_0)))))))))))))), wfT_0⟩) ?_))
  have hS1 : lS L xs h1 y G (N + 1) := lS_got hS e1 e2 e3 (by omega)
  refine R_istore (lv' := [_, _, _, _, _, _, _, _, _, _, _, _, _, _]) rfl rfl ?_
  refine R_aload_n rfl rfl ?_
  refine R_vcall rfl rfl ⟨(by omega), _, hS1.1.1⟩ ⟨Nat.le_of_ble_eq_true rfl, Nat.le_of_ble_eq_true rfl, (show _ ≤ 600130 by omega), (show _ ≤ 7301079 by omega)⟩ (possible_C hS1.1 (by omega) (fun h2 hF2 ho2 => ?_))
  have hS2 : lS L xs h2 y G (N + 1) := lS_call hS1 hF2 ho2
  have hrq : (rdS y.1 true 9999).1 = (rdG G true).length := by rw [hS.2.1]; exact rd_all hG hn3 (by decide)
  refine aRes_g (v := vI (((rdS y.1 true 9999).1 : Nat) : Int)) (Or.inl rfl) ?_
  rw [hrq]
  have hr4 := rd_4096 hG hn3 (em := true)
  refine R_iload rfl rfl ?_
  refine R_icmpne rfl ⟨by omega, by omega⟩ ⟨by omega, by omega⟩ (fun c225 => ?_) (fun c225 => ?_)
  · exact absurd hz214.symm c225
  · refine R_aload_n rfl rfl ?_
    refine R_vcall rfl rfl ⟨(by omega), _, hS2.1.1⟩ ⟨Nat.le_of_ble_eq_true rfl, Nat.le_of_ble_eq_true rfl, (show _ ≤ 600130 by omega), (show _ ≤ 7301079 by omega)⟩ (fillings_C hS2.1 (by omega) (fun h3 hF229 ho229 => ?_))
    have hS3 : lS L xs h3 y G (N + 1) := lS_call hS2 hF229 ho229
    have hfq229 : flG y.1 = flG G := by rw [hS2.2.1]
    refine aRes_g (v := vI ((flG y.1 : Nat) : Int)) (Or.inl rfl) ?_
    rw [hfq229]
    have hf256 := fl_256 (G := G) hS2.2.2.2.1.1
    refine R_iload rfl rfl ?_
    refine R_aload_n rfl rfl ?_
    refine R_aload_n rfl rfl ?_
    refine R_scall rfl rfl ⟨Nat.le_of_ble_eq_true rfl, Nat.le_of_ble_eq_true rfl, (show _ ≤ 600130 by omega), (show _ ≤ 7301079 by omega)⟩ (fillings_L (G := G) hS3.2.2.1 hS3.2.2.2.1 hS3.2.2.2.2.2.1 ⟨by omega, by omega⟩ hS3.2.2.2.2.2.2.2.1 (by omega) (fun z236 h4 N236 hz236 hNN236 hg236 => aRes_g (Or.inr ⟨(wfL_s (Or.inr (Nat.le_refl _)) (wfL_s (Or.inl (by omega)) (wfL_s (Or.inl (by omega)) (wfL_s (Or.inl (by omega)) (wfL_s (Or.inl (by omega)) (wfL_s (Or.inl (by omega)) (wfL_s trivial (wfL_s trivial (wfL_s trivial (wfL_n (wfL_n (wfL_n (wfL_n (wfL_n wfL_0)))))))))))))), (wfT_s trivial wfT_0)⟩) ?_))
    
    refine R_icmpeq rfl ⟨by omega, by omega⟩ ⟨by omega, by omega⟩ (fun c239 => ?_) (fun c239 => ?_)
    · exact K h4 N236 _ _ _ (lS_grw hS3 hg236 (by omega)) (by omega) (Nat.le_refl _) (Nat.le_refl _)
    · exact absurd hz236.symm c239
set_option maxRecDepth 20000 in
theorem law_me {d L N k n : Nat} {xs : Nat → Int} {h : AH} {y : Sy} {G G0 : Gr} {z7 z8 : Int} (hS : lS L xs h y G N) (hN5 : N ≤ 200) (hk : k ≤ 10000) (hn : n ≤ 100000) (K : ∀ (h1 : AH) (N1 k1 n1 : Nat), lS L xs h1 y G N1 → N1 ≤ N + 325 → k1 ≤ k + 325 → n1 ≤ n + 5200 → Run mi_L_law (T (d + 40)) qLaw 257 [some (vR aRO), some (vR 0), some (vR 122), some (vR 123), some (vR 124), some (vR 125), some (vI ((qW G0 : Nat) : Int)), some (vI z7), some (vI z8), none, none, none, none, none] [] h1 N1 k1 n1) : Run mi_L_law (T (d + 40)) qLaw 244 [some (vR aRO), some (vR 0), some (vR 122), some (vR 123), some (vR 124), some (vR 125), some (vI ((qW G0 : Nat) : Int)), some (vI z7), some (vI z8), none, none, none, none, none] [] h N k n := by
  have hRO : aRO = 1000 := rfl
  have hNb := hS.2.2.2.2.2.2.2.2.2.2
  obtain ⟨w, m0, hw0, hw1, wL, wE, wS⟩ := id hS.2.2.1
  have r0 : w (0 : Int).toNat = (qR G : Int) := hw0
  have r1 : w (1 : Int).toNat = (qC G : Int) := hw1
  obtain ⟨g0, mg⟩ := hS.2.2.2.2.2.2.1
  have hG := hS.2.2.2.2.2.1
  obtain ⟨hn3, l, ml, hl0, hll⟩ := id hS.2.2.2.2.1
  have q0 : l (0 : Int).toNat = (qN G : Int) := hl0
  have hm16 := sm4_m hG
  refine R_aload_n rfl rfl ?_
  refine R_vcall rfl rfl ⟨(by omega), _, hS.1.1⟩ ⟨Nat.le_of_ble_eq_true rfl, Nat.le_of_ble_eq_true rfl, (show _ ≤ 600130 by omega), (show _ ≤ 7301079 by omega)⟩ (mend_C hS.1 (by omega) (fun h1 hF1 ho1 => ?_))
  have hS1 : lS L xs h1 y G N := lS_call hS hF1 ho1
  have hmq : mdF y.1 (2 * qM y.1) 0 (-9) (kpG y.1) = mdF G (2 * qM G) 0 (-9) (kpG G) := by rw [hS.2.1]
  refine aRes_g (v := vI (mdF y.1 (2 * qM y.1) 0 (-9) (kpG y.1))) (Or.inl rfl) ?_
  rw [hmq]
  have hmr := md_r (G := G) (2 * qM G) 0 (-9) (kpG G) (by decide) (by omega)
  refine R_aload_n rfl rfl ?_
  refine R_scall rfl rfl ⟨Nat.le_of_ble_eq_true rfl, Nat.le_of_ble_eq_true rfl, (show _ ≤ 600130 by omega), (show _ ≤ 7301079 by omega)⟩ (mend_L hS1.2.2.1 hG ⟨by omega, by omega⟩ hS1.2.2.2.2.2.2.2.1 (fun z249 h2 N2 hz249 hN2 hW2 hg2 => aRes_g (Or.inr ⟨(wfL_s (Or.inr (Nat.le_refl _)) (wfL_s (Or.inl (by omega)) (wfL_s (Or.inl (by omega)) (wfL_s (Or.inl (by omega)) (wfL_s (Or.inl (by omega)) (wfL_s (Or.inl (by omega)) (wfL_s trivial (wfL_s trivial (wfL_s trivial (wfL_n (wfL_n (wfL_n (wfL_n (wfL_n wfL_0)))))))))))))), (wfT_s trivial wfT_0)⟩) ?_))
  
  refine R_icmpeq rfl ⟨by omega, by omega⟩ ⟨by omega, by omega⟩ (fun c252 => ?_) (fun c252 => ?_)
  · exact K h2 N2 _ _ (lS_grX hS1 hW2 hg2 (by omega)) (by omega) (Nat.le_refl _) (Nat.le_refl _)
  · exact absurd hz249.symm c252
