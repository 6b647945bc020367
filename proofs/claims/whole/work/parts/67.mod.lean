/-! ===== the model: the whole picture; remember ===== -/
def isHi (h : AH) (hist : List Gr) : Prop := ∃ H, h 127 = eI 2436 H ∧ hist.length ≤ 14 ∧ ∀ (j : Nat) (G : Gr), hist[j]? = some G → rwG (fun k => H (174 * j + k)) G ∧ okG G
def isSv (h : AH) (sl : Nat → Option Gr) : Prop := ∃ X U, h 128 = eI 348 X ∧ h 129 = eI 2 U ∧ ∀ i, i < 2 → (sl i = none ∧ U i = 0) ∨ ∃ G, sl i = some G ∧ U i = 1 ∧ rwG (fun k => X (174 * i + k)) G ∧ okG G
def isRows (h : AH) : Prop := (∃ D, h 125 = eI 174 D) ∧ (∃ D, h 126 = eI 174 D) ∧ isRe h ∧ (∃ D, h 137 = eI 9 D) ∧ ∃ D, h 138 = eI 6 D
/-- the whole object of the model -/
def isMo (h : AH) (y : Sy) (th : Int) : Prop := isMg h y.1 th y.2.2.2.1 y.2.1.length ∧ okG y.1 ∧ isMt h y.2.2.2.1 y.2.2.2.2 ∧ isHi h y.2.1 ∧ isSv h y.2.2.1 ∧ isRows h
theorem isHi_fr {h h' : AH} {hist : List Gr} (hH : isHi h hist) (e : h' 127 = h 127) : isHi h' hist := by
  obtain ⟨H, e0, r⟩ := hH
  exact ⟨H, e.trans e0, r⟩
theorem isSv_fr {h h' : AH} {sl : Nat → Option Gr} (hH : isSv h sl) (e : h' 128 = h 128) (e2 : h' 129 = h 129) : isSv h' sl := by
  obtain ⟨X, U, e0, e1, r⟩ := hH
  exact ⟨X, U, e.trans e0, e2.trans e1, r⟩
theorem isRe_fr {h h' : AH} (hH : isRe h) (e : h' 136 = h 136) : isRe h' := by
  obtain ⟨R, e0⟩ := hH
  exact ⟨R, e.trans e0⟩
theorem isRows_fr {h h' : AH} (hH : isRows h) (e : ∀ j, (j = 125 ∨ j = 126 ∨ j = 136 ∨ j = 137 ∨ j = 138) → h' j = h j) : isRows h' := by
  obtain ⟨⟨a, ha⟩, ⟨b, hb⟩, hc, ⟨c, hd⟩, f, hf⟩ := hH
  exact ⟨⟨a, (e _ (by omega)).trans ha⟩, ⟨b, (e _ (by omega)).trans hb⟩, isRe_fr hc (e _ (by omega)), ⟨c, (e _ (by omega)).trans hd⟩, f, (e _ (by omega)).trans hf⟩
theorem isMg_o {h : AH} {G : Gr} {th tl rm th' tl' rm' : Int} (hM : isMg h G th tl rm) : isMg (va_up h 122 (moO th' tl' rm' (nE G))) G th' tl' rm' := isMg_S (G := G) (G' := G) ⟨rfl, rfl, rfl, rfl⟩ hM (isM0_E hM.z) (fun j h1 h2 => va_up_ne _ _ (by omega))
theorem rem_row {H H' : Nat → Int} {S : Nat → Int} {l : List Gr} {G : Gr} (hl : ∀ (j : Nat) (G : Gr), l[j]? = some G → rwG (fun k => H (174 * j + k)) G ∧ okG G) (hR : rwG S G) (hG : okG G) (w1 : ∀ j, j < 174 → H' (174 * l.length + j) = S j) (w2 : ∀ j, ¬ (174 * l.length ≤ j ∧ j < 174 * l.length + 174) → H' j = H j) : ∀ (j : Nat) (G2 : Gr), (l ++ [G])[j]? = some G2 → rwG (fun k => H' (174 * j + k)) G2 ∧ okG G2 := by
  intro j G2 hj
  rcases Nat.lt_or_ge j l.length with q | q
  · rw [List.getElem?_append_left q] at hj
    obtain ⟨h1, h2⟩ := hl j G2 hj
    exact ⟨rw_congr h1 h2 (fun k hk => w2 _ (by omega)), h2⟩
  · rw [List.getElem?_append_right q] at hj
    obtain ⟨n, hn⟩ : ∃ n, j - l.length = n := ⟨_, rfl⟩
    rw [hn] at hj
    cases n with
    | zero =>
      have e : j = l.length := by omega
      cases hj
      subst e
      exact ⟨rw_congr hR hG (fun k hk => w1 k hk), hG⟩
    | succ n => cases hj
theorem mrem_tail {d N : Nat} {h : AH} {G : Gr} {th tl : Int} {Q : AQ} {hist : List Gr} (hM : isMg h G th tl hist.length) (hG : okG G) (hN : 139 ≤ N) (hH : isHi h hist) (hlt : hist.length < 14) {l : Option AV} (hQ : ∀ h', isMg h' G th tl ((hist ++ [G]).length : Nat) → isHi h' (hist ++ [G]) → (∀ j, ¬ (j = 122 ∨ j = 127) → h' j = h j) → Q (.inl none) h' N) : Run mi_X9_remember (T (d + 1)) Q 50 [some (vR 122), l] [] h N 0 0 := by
  obtain ⟨F, D, L, A, W, C, hZ, m11, m12, m13, m14, m15, m16, hE, hA, hW, hC⟩ := id hM
  obtain ⟨S, m0, m3, hR⟩ := id hZ
  obtain ⟨hr0, hr1, rL, rE, rS, hr110, rWn, rWl, hr167, rNl⟩ := id hR
  have r0 : S (0 : Int).toNat = (qR G : Int) := hr0
  have r1 : S (1 : Int).toNat = (qC G : Int) := hr1
  have r110 : S (110 : Int).toNat = (qW G : Int) := hr110
  have r167 : S (167 : Int).toNat = (qN G : Int) := hr167
  obtain ⟨hm4, hm36⟩ := hG.m
  have hmi := qM_int G
  obtain ⟨⟨hr2, hr6⟩, ⟨hc2, hc6⟩, gL, gB, gW, gWn, gWl, gN, gNl⟩ := id hG
  have hn36 := nE36 hG
  obtain ⟨H, m6, hh14, hhi⟩ := id hH
  refine R_aload_n rfl rfl ?_
  refine R_getfield rfl rfl (by omega) m0 rfl ?_
  refine R_iconst rfl ?_
  refine R_aload_n rfl rfl ?_
  refine R_getfield rfl rfl (by omega) m0 rfl ?_
  refine R_aload_n rfl rfl ?_
  refine R_getfield rfl rfl (by omega) m0 rfl ?_
  refine R_sipush rfl ?_
  refine R_imul rfl ?_
  refine R_scall rfl rfl ⟨Nat.le_of_ble_eq_true rfl, Nat.le_of_ble_eq_true rfl, Nat.zero_le _, Nat.zero_le _⟩ (mMove_T (s := 0) (t := 174 * hist.length) (by omega) (by omega) (by decide) (by decide) (by omega) (by decide) (by decide) m3 m6 rfl (by omega) (fun h1 H1 e1 w1 w2 f1 => aRes_v (rest := []) ?_))
  refine R_aload_n rfl rfl ?_
  refine R_dup rfl rfl ?_
  refine R_getfield rfl rfl (by omega) ((f1 _ (by omega)).trans m0) rfl ?_
  refine R_iconst rfl ?_
  refine R_iadd rfl ?_
  refine R_putfield rfl rfl (by omega) ((f1 _ (by omega)).trans m0) (Nat.le_of_ble_eq_true rfl) (by first | trivial | exact trivial | omega) ?_
  exact R_return rfl (Nat.zero_le _) (Nat.zero_le _) (hQ _ (by
    have hM1 := isMg_o (th' := th) (tl' := tl) (rm' := (hist.length : Int) + 1) (isMg_fr hM (fun j hj => f1 j (by omega)))
    rw [show ((hist ++ [G]).length : Int) = (hist.length : Int) + 1 by rw [List.length_append]; rfl]
    exact hM1) ⟨H1, (va_up_ne _ _ (by decide)).trans e1, by rw [List.length_append]; exact hlt, rem_row hhi hR hG (fun j hj => (w1 j hj).trans (congrArg S (Nat.zero_add j))) w2⟩ (fun j hj => (va_up_ne _ _ (by omega)).trans (f1 j (by omega))))
theorem mrem_loop {d N : Nat} {h0 : AH} {G : Gr} {th tl : Int} {Q : AQ} {hist : List Gr} (hG : okG G) (hN : 139 ≤ N) {H : Nat → Int} (h14 : hist.length = 14) (hhi : ∀ (j : Nat) (G : Gr), hist[j]? = some G → rwG (fun k => H (174 * j + k)) G ∧ okG G) (hQ : ∀ h', isMg h' G th tl ((hist.tail ++ [G]).length : Nat) → isHi h' (hist.tail ++ [G]) → (∀ j, ¬ (j = 122 ∨ j = 127) → h' j = h0 j) → Q (.inl none) h' N) : ∀ (r i : Nat) (h : AH) (X : Nat → Int) (zi : Int), i + r = 2262 → zi = i → isMg h G th tl (14 : Int) → h 127 = eI 2436 X → (∀ j, j < i → X j = H (j + 174)) → (∀ j, i ≤ j → X j = H j) → (∀ j, ¬ (j = 122 ∨ j = 127) → h j = h0 j) → Run mi_X9_remember (T (d + 1)) Q 11 [some (vR 122), some (vI zi)] [] h N 0 0 := by
  intro r
  induction r using Nat.strongRecOn with
  | ind r ih =>
  intro i h X zi hr hzi hM m6 v1 v2 hfr
  obtain ⟨F, D, L, A, W, C, hZ, m11, m12, m13, m14, m15, m16, hE, hA, hW, hC⟩ := id hM
  obtain ⟨S, m0, m3, hR⟩ := id hZ
  obtain ⟨hr0, hr1, rL, rE, rS, hr110, rWn, rWl, hr167, rNl⟩ := id hR
  have r0 : S (0 : Int).toNat = (qR G : Int) := hr0
  have r1 : S (1 : Int).toNat = (qC G : Int) := hr1
  have r110 : S (110 : Int).toNat = (qW G : Int) := hr110
  have r167 : S (167 : Int).toNat = (qN G : Int) := hr167
  obtain ⟨hm4, hm36⟩ := hG.m
  have hmi := qM_int G
  obtain ⟨⟨hr2, hr6⟩, ⟨hc2, hc6⟩, gL, gB, gW, gWn, gWl, gN, gNl⟩ := id hG
  have hn36 := nE36 hG
  refine R_iload_n rfl rfl ?_
  refine R_sipush rfl ?_
  refine R_icmpge rfl ⟨by omega, by omega⟩ ⟨by decide, by decide⟩ (fun c15 => ?_) (fun c15 => ?_)
  · have hr0 : r = 0 := by omega
    subst hr0
    have hi : i = 2262 := by omega
    subst hi
    refine R_aload_n rfl rfl ?_
    refine R_dup rfl rfl ?_
    refine R_getfield rfl rfl (by omega) m0 rfl ?_
    refine R_iconst rfl ?_
    refine R_isub rfl ?_
    refine R_putfield rfl rfl (by omega) m0 (Nat.le_of_ble_eq_true rfl) (by first | trivial | exact trivial | omega) ?_
    have hM1 := isMg_o (th' := th) (tl' := tl) (rm' := (14 : Int) - 1) hM
    refine mrem_tail (hist := hist.tail) (by rw [List.length_tail, h14]; exact hM1) hG hN ⟨X, (va_up_ne _ _ (by decide)).trans m6, by rw [List.length_tail]; omega, fun j G2 hj => ?_⟩ (by rw [List.length_tail]; omega) (fun h1 q1 q2 q3 => hQ h1 q1 q2 (fun j hj => (q3 j hj).trans ((va_up_ne _ _ (by omega)).trans (hfr j hj))))
    have hj13 : j < 13 := by
      rcases Nat.lt_or_ge j 13 with q | q
      · exact q
      · rw [List.getElem?_eq_none (by rw [List.length_tail]; omega)] at hj
        cases hj
    rw [List.getElem?_tail] at hj
    obtain ⟨g1, g2⟩ := hhi (j + 1) G2 hj
    exact ⟨rw_congr g1 g2 (fun k hk => (v1 _ (by omega)).trans (congrArg H (show 174 * j + k + 174 = 174 * (j + 1) + k by omega))), g2⟩
  · obtain ⟨r, rfl⟩ : ∃ r1, r = r1 + 1 := ⟨r - 1, by omega⟩
    refine R_aload_n rfl rfl ?_
    refine R_getfield rfl rfl (by omega) m0 rfl ?_
    refine R_iload_n rfl rfl ?_
    refine R_aload_n rfl rfl ?_
    refine R_getfield rfl rfl (by omega) m0 rfl ?_
    refine R_iload_n rfl rfl ?_
    refine R_sipush rfl ?_
    refine R_iadd rfl ?_
    refine R_iaload rfl (Or.inl (by omega)) m6 ⟨by omega, by omega, by omega⟩ ?_
    refine R_iastore rfl (by omega) m6 ⟨by omega, by omega, by omega⟩ ?_
    refine R_iinc (lv' := [_, _]) rfl rfl rfl ?_
    refine R_goto rfl ?_
    exact ih r (by omega) (i + 1) _ _ _ (by omega) (by omega) (isMg_fr hM (fun j hj => va_up_ne _ _ (by omega))) (va_up_self _ _ _) (fun j hj => by
      by_cases q : j = i
      · rw [q, show i = zi.toNat by omega, va_up_self, v2 _ (by omega), show (zi + 174).toNat = zi.toNat + 174 by omega]
      · rw [va_up_ne _ _ (by omega)]
        exact v1 j (by omega)) (fun j hj => (va_up_ne _ _ (by omega)).trans (v2 j (by omega))) (fun j hj => (va_up_ne _ _ (by omega)).trans (hfr j hj))
theorem mRemember_T {d N : Nat} {h : AH} {G : Gr} {th tl : Int} {Q : AQ} {hist : List Gr} (hM : isMg h G th tl hist.length) (hG : okG G) (hN : 139 ≤ N) (hH : isHi h hist) (hQ : ∀ h', isMg h' G th tl ((rem14 hist G).length : Nat) → isHi h' (rem14 hist G) → (∀ j, ¬ (j = 122 ∨ j = 127) → h' j = h j) → Q (.inl none) h' N) : T (d + 2) 175 [vR 122] h N Q := by
  obtain ⟨F, D, L, A, W, C, hZ, m11, m12, m13, m14, m15, m16, hE, hA, hW, hC⟩ := id hM
  obtain ⟨S, m0, m3, hR⟩ := id hZ
  obtain ⟨hr0, hr1, rL, rE, rS, hr110, rWn, rWl, hr167, rNl⟩ := id hR
  have r0 : S (0 : Int).toNat = (qR G : Int) := hr0
  have r1 : S (1 : Int).toNat = (qC G : Int) := hr1
  have r110 : S (110 : Int).toNat = (qW G : Int) := hr110
  have r167 : S (167 : Int).toNat = (qN G : Int) := hr167
  obtain ⟨hm4, hm36⟩ := hG.m
  have hmi := qM_int G
  obtain ⟨⟨hr2, hr6⟩, ⟨hc2, hc6⟩, gL, gB, gW, gWn, gWl, gN, gNl⟩ := id hG
  have hn36 := nE36 hG
  obtain ⟨H, m6, hh14, hhi⟩ := id hH
  refine T_body (I := mi_X9_remember) (lv := [_, _]) rfl (Nat.le_of_ble_eq_true rfl) rfl ?_
  refine R_aload_n rfl rfl ?_
  refine R_getfield rfl rfl (by omega) m0 rfl ?_
  refine R_bipush rfl ?_
  refine R_icmpne rfl ⟨by omega, by omega⟩ ⟨by decide, by decide⟩ (fun c6 => ?_) (fun c6 => ?_)
  · have e14 : rem14 hist G = hist ++ [G] := by
      unfold rem14
      rw [if_neg (by omega)]
    rw [e14] at hQ
    exact mrem_tail hM hG hN hH (by omega) hQ
  · have h14 : hist.length = 14 := by omega
    have e14 : rem14 hist G = hist.tail ++ [G] := by
      unfold rem14
      rw [if_pos h14]
    rw [e14] at hQ
    rw [h14] at hM
    refine R_iconst rfl ?_
    refine R_istore_n (lv' := [_, _]) rfl rfl ?_
    exact mrem_loop hG hN h14 hhi hQ 2262 0 h H _ (Nat.zero_add _) rfl hM m6 (fun j hj => absurd hj (Nat.not_lt_zero _)) (fun j _ => rfl) (fun j _ => rfl)
