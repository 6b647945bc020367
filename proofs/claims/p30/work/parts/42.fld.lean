/-! ===== the filler: its count ===== -/
def isFl (h : AH) : Prop := ∃ w u FT GV, h 119 = eO 0 [vI w, vI u, vR 120, vR 121] ∧ h 120 = eI 8 FT ∧ h 121 = eI 8 GV
theorem flH.fl {h : AH} {G : Gr} {ways : Nat} {ch : List Nat} (hH : flH h G ways ch) : isFl h := by
  obtain ⟨us, FT, GV, u0, u1, u2, -⟩ := hH
  exact ⟨_, us, FT, GV, u0, u1, u2⟩
theorem fc_loop {d N k : Nat} {G : Gr} {Q : AQ} {GV : Nat → Int} (hG : okG G) (hk : k + 12 ≤ 116) (hN : 122 ≤ N) (hnq : nE G ≤ qW G) : ∀ (r i : Nat) (h : AH) (FT : Nat → Int), i + r = nE G → isPz h k G → h 119 = eO 0 [vI 0, vI 0, vR 120, vR 121] → h 120 = eI 8 FT → h 121 = eI 8 GV → (∀ e, e < i → isBi (FT e) (fun j => decide (j < qW G) && fiG G e j)) → (∀ h', flH h' G (flF G (nE G) []) [] → fr h h' 119 3 → Q (.inl (some (vI ((flF G (nE G) [] : Nat) : Int)))) h' N) → Run mi_X1_count (T (d + 25)) Q 28 [some (vR 119), some (vR k), some (vI i)] [] h N 0 0 := by
  intro r
  induction r using Nat.strongRecOn with
  | ind r ih =>
  intro i h FT hr hP u0 u1 u2 hFT hQ
  obtain ⟨F, Ln, Dn, Ac, Dw, Cl, ⟨p0, hS, p2, p3, p4, p5, p6, p7⟩, hE, hAc, hDw, hCl⟩ := id hP
  obtain ⟨hm4, hm36⟩ := hG.m
  have hn36 := nE36 hG
  have hnE : cnt G (qM G) = nE G := rfl
  obtain ⟨rb, bb, s0⟩ := hS.e0
  have hW8 := hG.2.2.2.2.1
  refine R_iload_n rfl rfl ?_
  refine R_aload_n rfl rfl ?_
  refine R_getfield rfl rfl (by omega) p0 rfl ?_
  refine R_icmpge rfl ⟨by omega, by omega⟩ ⟨by omega, by omega⟩ (fun c33 => ?_) (fun c33 => ?_)
  · have hr0 : r = 0 := by omega
    subst hr0
    refine R_aload_n rfl rfl ?_
    refine R_aload_n rfl rfl ?_
    refine R_iconst rfl ?_
    refine R_vcall rfl rfl ⟨(by omega), _, u0⟩ ⟨Nat.le_of_ble_eq_true rfl, Nat.le_of_ble_eq_true rfl, Nat.zero_le _, Nat.zero_le _⟩ (giveFrom_T hG (by omega) (nE G) (d + 25) (by omega) N k _ _ 0 [] hP hk hN ⟨0, FT, GV, u0, u1, u2, fun j hj => bi_zero j hj, fun e he => hFT e (by omega), fun j x hj => (by cases hj)⟩ (fun j x hj => (by cases hj)) (by show 0 + nE G = nE G; omega) (fun h1 hH1 f1 => aRes_v (rest := []) ?_))
    rw [Nat.zero_add] at hH1
    obtain ⟨us1, FT1, GV1, u0, u1, u2, -⟩ := id hH1
    refine R_aload_n rfl rfl ?_
    refine R_getfield rfl rfl (by omega) u0 rfl ?_
    exact R_ireturn rfl (fun q => absurd q (by decide)) (Nat.zero_le _) (Nat.zero_le _) (hQ h1 hH1 f1)
  · obtain ⟨r, rfl⟩ : ∃ r1, r = r1 + 1 := ⟨r - 1, by omega⟩
    refine R_iload_n rfl rfl ?_
    refine R_bipush rfl ?_
    refine R_icmpge rfl ⟨by omega, by omega⟩ ⟨by decide, by decide⟩ (fun c39 => ?_) (fun c39 => ?_)
    · exact absurd c39 (by omega)
    · refine R_aload_n rfl rfl ?_
      refine R_getfield rfl rfl (by omega) u0 rfl ?_
      refine R_iload_n rfl rfl ?_
      refine R_aload_n rfl rfl ?_
      refine R_iload_n rfl rfl ?_
      refine R_scall rfl rfl ⟨Nat.le_of_ble_eq_true rfl, Nat.le_of_ble_eq_true rfl, Nat.zero_le _, Nat.zero_le _⟩ (wordsThatFit_T (e := i) hP hG (by omega) (by omega) (fun z49 hz49 => aRes_i (rest := [_, _]) ?_))
      refine R_iastore rfl (by omega) u1 ⟨by omega, by omega, by decide⟩ ?_
      refine R_iinc (lv' := [_, _, _]) rfl rfl rfl ?_
      refine R_goto rfl ?_
      exact ih r (by omega) (i + 1) _ (va_up FT i z49) (by omega) (isPz_fr hP (fun j q1 q2 => va_up_ne _ _ (by omega))) ((va_up_ne _ _ (by decide)).trans u0) (va_up_self _ _ _) ((va_up_ne _ _ (by decide)).trans u2) (fun e he => (by
        by_cases q : e = i
        · rw [q, va_up_self]
          exact hz49
        · rw [va_up_ne _ _ q]
          exact hFT e (by omega))) (fun h2 q1 q2 => hQ h2 q1 (fun j hj => (q2 j hj).trans (va_up_ne _ _ (by omega))))
theorem fillings_T {d N k : Nat} {h : AH} {G : Gr} {Q : AQ} (hP : isPz h k G) (hG : okG G) (hk : k + 12 ≤ 116) (hN : 122 ≤ N) (hL : isFl h) (hQ : ∀ h', isFl h' → fr h h' 119 3 → Q (.inl (some (vI ((flG G : Nat) : Int)))) h' N) : T (d + 26) 5 [vR 119, vR k] h N Q := by
  obtain ⟨ww, uu, FT, GV, u0, u1, u2⟩ := id hL
  obtain ⟨F, Ln, Dn, Ac, Dw, Cl, ⟨p0, hS, p2, p3, p4, p5, p6, p7⟩, hE, hAc, hDw, hCl⟩ := id hP
  obtain ⟨hm4, hm36⟩ := hG.m
  have hn36 := nE36 hG
  have hnE : cnt G (qM G) = nE G := rfl
  obtain ⟨rb, bb, s0⟩ := hS.e0
  have hW8 := hG.2.2.2.2.1
  refine T_body (I := mi_X1_count) (lv := [_, _, _]) rfl (Nat.le_of_ble_eq_true rfl) rfl ?_
  refine R_aload_n rfl rfl ?_
  refine R_iconst rfl ?_
  refine R_putfield rfl rfl (by omega) u0 (Nat.le_of_ble_eq_true rfl) (by first | trivial | exact trivial | omega) ?_
  refine R_aload_n rfl rfl ?_
  refine R_iconst rfl ?_
  refine R_putfield rfl rfl (by omega) (va_up_self _ _ _) (Nat.le_of_ble_eq_true rfl) (by first | trivial | exact trivial | omega) ?_
  refine R_aload_n rfl rfl ?_
  refine R_getfield rfl rfl (by omega) ((va_up_ne _ _ (by first | exact kne rfl | exact kz | exact kz.symm | omega)).trans ((va_up_ne _ _ (by first | exact kne rfl | exact kz | exact kz.symm | omega)).trans p0)) rfl ?_
  refine R_aload_n rfl rfl ?_
  refine R_getfield rfl rfl (by omega) ((va_up_ne _ _ (by first | exact kne rfl | exact kz | exact kz.symm | omega)).trans ((va_up_ne _ _ (by first | exact kne rfl | exact kz | exact kz.symm | omega)).trans p0)) rfl ?_
  refine R_getfield rfl rfl (by omega) ((va_up_ne _ _ (by first | exact kne rfl | exact kz | exact kz.symm | omega)).trans ((va_up_ne _ _ (by first | exact kne rfl | exact kz | exact kz.symm | omega)).trans s0)) rfl ?_
  refine R_icmple rfl ⟨by omega, by omega⟩ ⟨by omega, by omega⟩ (fun c21 => ?_) (fun c21 => ?_)
  · have hg : flG G = flF G (nE G) [] := by
      unfold flG
      rw [if_neg (by omega)]
    rw [hg] at hQ
    refine R_iconst rfl ?_
    refine R_istore_n (lv' := [_, _, _]) rfl rfl ?_
    exact fc_loop hG hk hN (by omega) (nE G) 0 _ FT (Nat.zero_add _) (isPz_fr hP (fun j q1 q2 => (va_up_ne _ _ (by omega)).trans (va_up_ne _ _ (by omega)))) (va_up_self _ _ _) ((va_up_ne _ _ (by decide)).trans ((va_up_ne _ _ (by decide)).trans u1)) ((va_up_ne _ _ (by decide)).trans ((va_up_ne _ _ (by decide)).trans u2)) (fun e he => absurd he (Nat.not_lt_zero _)) (fun h2 q1 q2 => hQ h2 q1.fl (fun j hj => (q2 j hj).trans ((va_up_ne _ _ (by omega)).trans (va_up_ne _ _ (by omega)))))
  · have hg : flG G = 0 := by
      unfold flG
      rw [if_pos (by omega)]
    rw [hg] at hQ
    refine R_iconst rfl ?_
    exact R_ireturn rfl (fun q => absurd q (by decide)) (Nat.zero_le _) (Nat.zero_le _) (hQ _ ⟨_, _, FT, GV, va_up_self _ _ _, (va_up_ne _ _ (by decide)).trans ((va_up_ne _ _ (by decide)).trans u1), (va_up_ne _ _ (by decide)).trans ((va_up_ne _ _ (by decide)).trans u2)⟩ (fun j hj => (va_up_ne _ _ (by omega)).trans (va_up_ne _ _ (by omega))))
