/-! ===== visit; count ===== -/
theorem visit_0 {n : Nat} {G : Gr} {em : Bool} {lim : Nat} (hG : okG G) (hn : n = qN G) {L : Nat} : ∀ (N k c : Nat) (h : AH) (Q : AQ) (s : SS) (ch : List Nat), isPz h k G → isStp h → k + 12 ≤ 116 → 119 ≤ N → seH h n em lim s ch → ch.length + 0 + 1 = n → c < qM G → (∀ h', seH h' n em lim (seL lim s (viR G em 0 ch c)) ch → fr h h' 116 3 → Q (.inl none) h' N) → T (L + 4) 13 [vR 116, vR k, vI ch.length, vI c] h N Q := by
  intro N k c h Q s ch hP hst hk hN hH hr hc hQ
  have hN6 := hG.2.2.2.2.2.2.2.1
  obtain ⟨us, P, FP, fl, u0, u1, u2, hus, hPa, hfd, hlim, hfs, hfn⟩ := id hH
  obtain ⟨F, Ln, Dn, Ac, Dw, Cl, ⟨p0, hS, p2, p3, p4, p5, p6, p7⟩, hE, hAc, hDw, hCl⟩ := id hP
  obtain ⟨hm4, hm36⟩ := hG.m
  have hn36 := nE36 hG
  have hnE : cnt G (qM G) = nE G := rfl
  obtain ⟨rb, bb, s0⟩ := hS.e0
  refine T_body (I := mi_X2_visit) (lv := [_, _, _, _, _]) rfl (Nat.le_of_ble_eq_true rfl) rfl ?_
  refine R_aload_n rfl rfl ?_
  refine R_getfield rfl rfl (by omega) p0 rfl ?_
  refine R_astore (lv' := [_, _, _, _, _]) rfl rfl ?_
  refine R_aload_n rfl rfl ?_
  refine R_getfield rfl rfl (by omega) u0 rfl ?_
  refine R_aload_n rfl rfl ?_
  refine R_getfield rfl rfl (by omega) u0 rfl ?_
  refine R_icmpge rfl ⟨by omega, by omega⟩ ⟨by omega, by omega⟩ (fun c14 => ?_) (fun c14 => ?_)
  · have hs : seL lim s (viR G em 0 ch c) = s := seL_full (by omega) _
    rw [hs] at hQ
    exact R_return rfl (Nat.zero_le _) (Nat.zero_le _) (hQ h hH fr.refl)
  · refine R_iload_n rfl rfl ?_
    refine R_iflt rfl ⟨by omega, by omega⟩ (fun c18 => ?_) (fun c18 => ?_)
    · exact absurd c18 (by omega)
    · refine R_iload_n rfl rfl ?_
      refine R_aload rfl rfl ?_
      refine R_getfield rfl rfl (by omega) s0 rfl ?_
      refine R_icmpge rfl ⟨by omega, by omega⟩ ⟨by omega, by omega⟩ (fun c27 => ?_) (fun c27 => ?_)
      · exact absurd c27 (by omega)
      · refine R_iload_n rfl rfl ?_
        refine R_bipush rfl ?_
        refine R_icmpge rfl ⟨by omega, by omega⟩ ⟨by decide, by decide⟩ (fun c33 => ?_) (fun c33 => ?_)
        · exact absurd c33 (by omega)
        · refine R_aload_n rfl rfl ?_
          refine R_aload_n rfl rfl ?_
          refine R_iload_n rfl rfl ?_
          refine R_iload_n rfl rfl ?_
          refine R_vcall rfl rfl ⟨(by omega), _, u0⟩ ⟨Nat.le_of_ble_eq_true rfl, Nat.le_of_ble_eq_true rfl, Nat.zero_le _, Nat.zero_le _⟩ (isAllowed_T hP hG hk hN hH hc (by omega) (fun z40 hz40 => aRes_i (rest := []) ?_))
          have h01 := bI01 (alw G em ch c)
          refine R_ifne rfl ⟨by omega, by omega⟩ (fun c43 => ?_) (fun c43 => ?_)
          · have ha := bI_t hz40 c43
            have hv : viR G em 0 ch c = ext G em 0 (ch ++ [c]) := if_pos ha
            rw [hv] at hQ
            have hac := alw_c ha
            refine R_aload_n rfl rfl ?_
            refine R_getfield rfl rfl (by omega) u0 rfl ?_
            refine R_iload_n rfl rfl ?_
            refine R_iload_n rfl rfl ?_
            refine R_iastore rfl (by omega) u1 ⟨by omega, by omega, by decide⟩ ?_
            refine R_iload_n rfl rfl ?_
            refine R_aload rfl rfl ?_
            refine R_getfield rfl rfl (by omega) ((va_up_ne _ _ (by first | exact kne rfl | exact kz | exact kz.symm | omega)).trans s0) rfl ?_
            refine R_iconst rfl ?_
            refine R_isub rfl ?_
            refine R_icmpne rfl ⟨by omega, by omega⟩ ⟨by omega, by omega⟩ (fun c62 => ?_) (fun c62 => ?_)
            · exact absurd c62 (by omega)
            · refine R_aload_n rfl rfl ?_
              refine R_iload_n rfl rfl ?_
              refine R_iconst rfl ?_
              refine R_iadd rfl ?_
              rw [show ((ch.length : Nat) : Int) + 1 = (n : Int) by omega]
              refine R_vcall rfl rfl ⟨(by omega), _, ((va_up_ne _ _ (by first | exact kne rfl | exact kz | exact kz.symm | omega)).trans u0)⟩ ⟨Nat.le_of_ble_eq_true rfl, Nat.le_of_ble_eq_true rfl, Nat.zero_le _, Nat.zero_le _⟩ (keepPath_T (fd := s.1) (nn := n) (em9 := bI em) (lim9 := lim) (fl := fl) (us := us) (P := va_up P ch.length c) (FP := FP) (((va_up_ne _ _ (by first | exact kne rfl | exact kz | exact kz.symm | omega)).trans u0)) ((va_up_self _ _ _)) (((va_up_ne _ _ (by first | exact kne rfl | exact kz | exact kz.symm | omega)).trans u2)) hN (by omega) (fun hz h2 w0 w1 w2 f2 => aRes_v (rest := []) ?_) (fun hz h2 w0 w1 w2 f2 => aRes_v (rest := []) ?_))
              · have hsA : seL lim s (ext G em 0 (ch ++ [c])) = (s.1 + 1, some (ch ++ [c])) := by
                  show seA lim s (ch ++ [c]) = _
                  unfold seA
                  rw [if_neg (by omega), if_pos hz]
                rw [hsA] at hQ
                exact R_return rfl (Nat.zero_le _) (Nat.zero_le _) (hQ h2 ⟨us, va_up P ch.length c, aCpy (va_up P ch.length c) FP 0 0 6, n, w0, w1, w2, hus, path_old hPa, by show s.1 + 1 ≤ lim; omega, hlim, fun R2 q => ⟨rfl, fun j x hj => by
                  cases q
                  rw [aCpy_full (by have := (List.getElem?_eq_some_iff.mp hj).1; rw [List.length_append] at this; have this : j < ch.length + 1 := this; omega)]
                  exact path_app hPa j x hj⟩, fun q => by cases q⟩ (fun j hj => (f2 j hj).trans (va_up_ne _ _ (by omega))))
              · have hsA : seL lim s (ext G em 0 (ch ++ [c])) = (s.1 + 1, s.2) := by
                  show seA lim s (ch ++ [c]) = _
                  unfold seA
                  rw [if_neg (by omega), if_neg hz]
                rw [hsA] at hQ
                exact R_return rfl (Nat.zero_le _) (Nat.zero_le _) (hQ h2 ⟨us, va_up P ch.length c, FP, fl, w0, w1, w2, hus, path_old hPa, by show s.1 + 1 ≤ lim; omega, hlim, hfs, hfn⟩ (fun j hj => (f2 j hj).trans (va_up_ne _ _ (by omega))))
          · have ha := bI_f hz40 (by omega)
            have hs : seL lim s (viR G em 0 ch c) = s := by
              unfold viR
              rw [if_neg (by rw [ha]; decide)]
              rfl
            rw [hs] at hQ
            exact R_return rfl (Nat.zero_le _) (Nat.zero_le _) (hQ h hH fr.refl)
theorem visitBehind_T {L n r : Nat} {G : Gr} {em : Bool} {lim : Nat} (hG : okG G) (hn6 : n ≤ 6) (hV : ∀ (N k c : Nat) (h : AH) (Q : AQ) (s : SS) (ch : List Nat), isPz h k G → isStp h → k + 12 ≤ 116 → 119 ≤ N → seH h n em lim s ch → ch.length + r + 1 = n → c < qM G → (∀ h', seH h' n em lim (seL lim s (viR G em r ch c)) ch → fr h h' 116 3 → Q (.inl none) h' N) → T (L + 1) 13 [vR 116, vR k, vI ch.length, vI c] h N Q) {N k c : Nat} {h : AH} {s : SS} {Q : AQ} {ch : List Nat} (hk : k + 12 ≤ 116) (hN : 119 ≤ N) (hr : ch.length + 1 + r + 1 = n) (hc : c < qM G) (hP : isPz h k G) (hst : isStp h) (hH : seH h n em lim s (ch ++ [c])) (hQ : ∀ h', seH h' n em lim (seL lim s ((knF G c 8 0).flatMap (viR G em r (ch ++ [c])))) (ch ++ [c]) → fr h h' 116 3 → Q (.inl none) h' N) : T (L + 2) 14 [vR 116, vR k, vI ch.length, vI c] h N Q := by
  obtain ⟨us, P, FP, fl, u0, u1, u2, hus, hPa, hfd, hlim, hfs, hfn⟩ := id hH
  obtain ⟨F, Ln, Dn, Ac, Dw, Cl, ⟨p0, hS, p2, p3, p4, p5, p6, p7⟩, hE, hAc, hDw, hCl⟩ := id hP
  obtain ⟨hm4, hm36⟩ := hG.m
  have hn36 := nE36 hG
  have hnE : cnt G (qM G) = nE G := rfl
  obtain ⟨rb, bb, s0⟩ := hS.e0
  refine T_body (I := mi_X2_visitBehind) (lv := [_, _, _, _, _, _, _, _]) rfl (Nat.le_of_ble_eq_true rfl) rfl ?_
  refine R_aload_n rfl rfl ?_
  refine R_getfield rfl rfl (by omega) p0 rfl ?_
  refine R_astore (lv' := [_, _, _, _, _, _, _, _]) rfl rfl ?_
  refine R_iconst rfl ?_
  refine R_istore (lv' := [_, _, _, _, _, _, _, _]) rfl rfl ?_
  exact vb_loop hG hn6 hV hk hN hr hc 8 0 h s _ _ rfl hP hst hH hQ
theorem visit_s {n : Nat} {G : Gr} {em : Bool} {lim : Nat} (hG : okG G) (hn : n = qN G) {L r : Nat} (hV : ∀ (N k c : Nat) (h : AH) (Q : AQ) (s : SS) (ch : List Nat), isPz h k G → isStp h → k + 12 ≤ 116 → 119 ≤ N → seH h n em lim s ch → ch.length + r + 1 = n → c < qM G → (∀ h', seH h' n em lim (seL lim s (viR G em r ch c)) ch → fr h h' 116 3 → Q (.inl none) h' N) → T (L + 2) 13 [vR 116, vR k, vI ch.length, vI c] h N Q) : ∀ (N k c : Nat) (h : AH) (Q : AQ) (s : SS) (ch : List Nat), isPz h k G → isStp h → k + 12 ≤ 116 → 119 ≤ N → seH h n em lim s ch → ch.length + (r + 1) + 1 = n → c < qM G → (∀ h', seH h' n em lim (seL lim s (viR G em (r + 1) ch c)) ch → fr h h' 116 3 → Q (.inl none) h' N) → T (L + 4) 13 [vR 116, vR k, vI ch.length, vI c] h N Q := by
  intro N k c h Q s ch hP hst hk hN hH hr hc hQ
  have hN6 := hG.2.2.2.2.2.2.2.1
  obtain ⟨us, P, FP, fl, u0, u1, u2, hus, hPa, hfd, hlim, hfs, hfn⟩ := id hH
  obtain ⟨F, Ln, Dn, Ac, Dw, Cl, ⟨p0, hS, p2, p3, p4, p5, p6, p7⟩, hE, hAc, hDw, hCl⟩ := id hP
  obtain ⟨hm4, hm36⟩ := hG.m
  have hn36 := nE36 hG
  have hnE : cnt G (qM G) = nE G := rfl
  obtain ⟨rb, bb, s0⟩ := hS.e0
  refine T_body (I := mi_X2_visit) (lv := [_, _, _, _, _]) rfl (Nat.le_of_ble_eq_true rfl) rfl ?_
  refine R_aload_n rfl rfl ?_
  refine R_getfield rfl rfl (by omega) p0 rfl ?_
  refine R_astore (lv' := [_, _, _, _, _]) rfl rfl ?_
  refine R_aload_n rfl rfl ?_
  refine R_getfield rfl rfl (by omega) u0 rfl ?_
  refine R_aload_n rfl rfl ?_
  refine R_getfield rfl rfl (by omega) u0 rfl ?_
  refine R_icmpge rfl ⟨by omega, by omega⟩ ⟨by omega, by omega⟩ (fun c14 => ?_) (fun c14 => ?_)
  · have hs : seL lim s (viR G em (r + 1) ch c) = s := seL_full (by omega) _
    rw [hs] at hQ
    exact R_return rfl (Nat.zero_le _) (Nat.zero_le _) (hQ h hH fr.refl)
  · refine R_iload_n rfl rfl ?_
    refine R_iflt rfl ⟨by omega, by omega⟩ (fun c18 => ?_) (fun c18 => ?_)
    · exact absurd c18 (by omega)
    · refine R_iload_n rfl rfl ?_
      refine R_aload rfl rfl ?_
      refine R_getfield rfl rfl (by omega) s0 rfl ?_
      refine R_icmpge rfl ⟨by omega, by omega⟩ ⟨by omega, by omega⟩ (fun c27 => ?_) (fun c27 => ?_)
      · exact absurd c27 (by omega)
      · refine R_iload_n rfl rfl ?_
        refine R_bipush rfl ?_
        refine R_icmpge rfl ⟨by omega, by omega⟩ ⟨by decide, by decide⟩ (fun c33 => ?_) (fun c33 => ?_)
        · exact absurd c33 (by omega)
        · refine R_aload_n rfl rfl ?_
          refine R_aload_n rfl rfl ?_
          refine R_iload_n rfl rfl ?_
          refine R_iload_n rfl rfl ?_
          refine R_vcall rfl rfl ⟨(by omega), _, u0⟩ ⟨Nat.le_of_ble_eq_true rfl, Nat.le_of_ble_eq_true rfl, Nat.zero_le _, Nat.zero_le _⟩ (isAllowed_T hP hG hk hN hH hc (by omega) (fun z40 hz40 => aRes_i (rest := []) ?_))
          have h01 := bI01 (alw G em ch c)
          refine R_ifne rfl ⟨by omega, by omega⟩ (fun c43 => ?_) (fun c43 => ?_)
          · have ha := bI_t hz40 c43
            have hv : viR G em (r + 1) ch c = ext G em (r + 1) (ch ++ [c]) := if_pos ha
            rw [hv] at hQ
            have hac := alw_c ha
            rw [ext_flat] at hQ
            refine R_aload_n rfl rfl ?_
            refine R_getfield rfl rfl (by omega) u0 rfl ?_
            refine R_iload_n rfl rfl ?_
            refine R_iload_n rfl rfl ?_
            refine R_iastore rfl (by omega) u1 ⟨by omega, by omega, by decide⟩ ?_
            refine R_iload_n rfl rfl ?_
            refine R_aload rfl rfl ?_
            refine R_getfield rfl rfl (by omega) ((va_up_ne _ _ (by first | exact kne rfl | exact kz | exact kz.symm | omega)).trans s0) rfl ?_
            refine R_iconst rfl ?_
            refine R_isub rfl ?_
            refine R_icmpne rfl ⟨by omega, by omega⟩ ⟨by omega, by omega⟩ (fun c62 => ?_) (fun c62 => ?_)
            · refine R_aload_n rfl rfl ?_
              refine R_dup rfl rfl ?_
              refine R_getfield rfl rfl (by omega) ((va_up_ne _ _ (by first | exact kne rfl | exact kz | exact kz.symm | omega)).trans u0) rfl ?_
              refine R_lconst rfl ?_
              refine R_iload_n rfl rfl ?_
              refine R_lshl rfl ?_
              refine R_lor rfl ?_
              refine R_putfield rfl rfl (by omega) ((va_up_ne _ _ (by first | exact kne rfl | exact kz | exact kz.symm | omega)).trans u0) (Nat.le_of_ble_eq_true rfl) (by first | trivial | exact trivial | omega) ?_
              have hH2 : seH (va_up (va_up h 117 (eI 6 (va_up P ((ch.length : Nat) : Int).toNat c))) 116 (eO 1 [vI (bI em), vI lim, vI s.1, vI fl, vL (us ||| pB c), vR 117, vR 118])) n em lim s (ch ++ [c]) := ⟨us ||| pB c, va_up P ch.length c, FP, fl, va_up_self _ _ _, (va_up_ne _ _ (by decide)).trans (va_up_self _ _ _), (va_up_ne _ _ (by decide)).trans ((va_up_ne _ _ (by decide)).trans u2), fun j hj => ((bits_or hus (n := c) (by omega)) j hj).trans (cont_app ch c j).symm, path_app hPa, hfd, hlim, hfs, hfn⟩
              refine R_aload_n rfl rfl ?_
              refine R_aload_n rfl rfl ?_
              refine R_iload_n rfl rfl ?_
              refine R_iload_n rfl rfl ?_
              refine R_vcall rfl rfl ⟨(by omega), _, (va_up_self _ _ _)⟩ ⟨Nat.le_of_ble_eq_true rfl, Nat.le_of_ble_eq_true rfl, Nat.zero_le _, Nat.zero_le _⟩ (visitBehind_T hG (by omega) hV hk hN (by omega) hc (isPz_fr hP (fun j q1 q2 => (va_up_ne _ _ (by omega)).trans (va_up_ne _ _ (by omega)))) ⟨(va_up_ne _ _ (by decide)).trans ((va_up_ne _ _ (by decide)).trans hst.1), (va_up_ne _ _ (by decide)).trans ((va_up_ne _ _ (by decide)).trans hst.2)⟩ hH2 (fun h3 hH3 f3 => aRes_v (rest := []) ?_))
              obtain ⟨us3, P3, FP3, fl3, u0, u1, u2, hus3, hPa3, hfd3, hlim3, hfs3, hfn3⟩ := id hH3
              refine R_aload_n rfl rfl ?_
              refine R_dup rfl rfl ?_
              refine R_getfield rfl rfl (by omega) u0 rfl ?_
              refine R_lconst rfl ?_
              refine R_iload_n rfl rfl ?_
              refine R_lshl rfl ?_
              refine R_ldc2_w rfl rfl ?_
              refine R_lxor rfl ?_
              refine R_land rfl ?_
              refine R_putfield rfl rfl (by omega) u0 (Nat.le_of_ble_eq_true rfl) (by first | trivial | exact trivial | omega) ?_
              exact R_return rfl (Nat.zero_le _) (Nat.zero_le _) (hQ _ ⟨_, P3, FP3, fl3, (va_up_self _ _ _), ((va_up_ne _ _ (by first | exact kne rfl | exact kz | exact kz.symm | omega)).trans u1), ((va_up_ne _ _ (by first | exact kne rfl | exact kz | exact kz.symm | omega)).trans u2), fun j hj => ((bits_andn hus3 (n := c) (by omega)) j hj).trans (cont_old hac j).symm, fun j x hj => hPa3 j x (by rw [List.getElem?_append_left (List.getElem?_eq_some_iff.mp hj).1]; exact hj), hfd3, hlim, hfs3, hfn3⟩ (fun j hj => (va_up_ne _ _ (by omega)).trans ((f3 j hj).trans ((va_up_ne _ _ (by omega)).trans (va_up_ne _ _ (by omega))))))
            · exact absurd c62 (by omega)
          · have ha := bI_f hz40 (by omega)
            have hs : seL lim s (viR G em (r + 1) ch c) = s := by
              unfold viR
              rw [if_neg (by rw [ha]; decide)]
              rfl
            rw [hs] at hQ
            exact R_return rfl (Nat.zero_le _) (Nat.zero_le _) (hQ h hH fr.refl)
theorem visit_T {n : Nat} {G : Gr} {em : Bool} {lim : Nat} (hG : okG G) (hn : n = qN G) : ∀ (r L : Nat), 2 * r + 5 ≤ L → ∀ (N k c : Nat) (h : AH) (Q : AQ) (s : SS) (ch : List Nat), isPz h k G → isStp h → k + 12 ≤ 116 → 119 ≤ N → seH h n em lim s ch → ch.length + r + 1 = n → c < qM G → (∀ h', seH h' n em lim (seL lim s (viR G em r ch c)) ch → fr h h' 116 3 → Q (.inl none) h' N) → T L 13 [vR 116, vR k, vI ch.length, vI c] h N Q
  | 0, L, hL => by
    obtain ⟨l, rfl⟩ : ∃ l, L = l + 4 := ⟨L - 4, by omega⟩
    exact visit_0 hG hn
  | r + 1, L, hL => by
    obtain ⟨l, rfl⟩ : ∃ l, L = l + 4 := ⟨L - 4, by omega⟩
    exact visit_s hG hn (visit_T hG hn r (l + 2) (by omega))
def rdF (G : Gr) (em : Bool) : Nat → Nat → List (List Nat)
  | 0, _ => []
  | r + 1, c => viR G em (qN G - 1) [] c ++ rdF G em r (c + 1)
/-- all readings, in their order -/
def rdG (G : Gr) (em : Bool) : List (List Nat) := if qN G = 0 then [] else rdF G em (qM G) 0
def isSe (h : AH) : Prop := ∃ e l f g us P FP, h 116 = eO 1 [vI e, vI l, vI f, vI g, vL us, vR 117, vR 118] ∧ h 117 = eI 6 P ∧ h 118 = eI 6 FP
theorem seH_new {h : AH} {n : Nat} {em : Bool} {lim : Nat} {P FP : Nat → Int} (w0 : h 116 = eO 1 [vI (bI em), vI lim, vI 0, vI 0, vL (Int64.ofNat (0 : Fin 2)), vR 117, vR 118]) (w1 : h 117 = eI 6 P) (w2 : h 118 = eI 6 FP) (hlim : lim ≤ 2147483647) : seH h n em lim (0, none) [] := ⟨Int64.ofNat (0 : Fin 2), P, FP, 0, w0, w1, w2, fun j hj => bits_zero j hj, fun j x hj => (by cases hj), Nat.zero_le _, hlim, fun R q => (by cases q), fun _ => rfl⟩
theorem seH.se {h : AH} {n : Nat} {em : Bool} {lim : Nat} {s : SS} {ch : List Nat} (hH : seH h n em lim s ch) : isSe h := by
  obtain ⟨us, P, FP, fl, u0, u1, u2, -⟩ := hH
  exact ⟨_, _, _, _, us, P, FP, u0, u1, u2⟩
theorem cnt_loop {d N k lim : Nat} {G : Gr} {em : Bool} {Q : AQ} {e9 l9 : Int} (hG : okG G) (hk : k + 12 ≤ 116) (hN : 119 ≤ N) (hq0 : ¬ qN G = 0) : ∀ (r i : Nat) (h : AH) (s : SS), i + r = qM G → isPz h k G → isStp h → seH h (qN G) em lim s [] → (∀ h', seH h' (qN G) em lim (seL lim s (rdF G em r i)) [] → fr h h' 116 3 → Q (.inl (some (vI (((seL lim s (rdF G em r i)).1 : Nat) : Int)))) h' N) → Run mi_X2_count (T (d + 16)) Q 28 [some (vR 116), some (vR k), some (vI e9), some (vI l9), some (vI i)] [] h N 0 0 := by
  intro r
  induction r using Nat.strongRecOn with
  | ind r ih =>
  intro i h s hr hP hst hH hQ
  have hN6 := hG.2.2.2.2.2.2.2.1
  obtain ⟨us, P, FP, fl, u0, u1, u2, hus, hPa, hfd, hlim, hfs, hfn⟩ := id hH
  obtain ⟨F, Ln, Dn, Ac, Dw, Cl, ⟨p0, hS, p2, p3, p4, p5, p6, p7⟩, hE, hAc, hDw, hCl⟩ := id hP
  obtain ⟨hm4, hm36⟩ := hG.m
  have hn36 := nE36 hG
  have hnE : cnt G (qM G) = nE G := rfl
  obtain ⟨rb, bb, s0⟩ := hS.e0
  refine R_iload rfl rfl ?_
  refine R_aload_n rfl rfl ?_
  refine R_getfield rfl rfl (by omega) p0 rfl ?_
  refine R_vcall rfl rfl ⟨(by omega), hS.rcv⟩ ⟨Nat.le_of_ble_eq_true rfl, Nat.le_of_ble_eq_true rfl, Nat.zero_le _, Nat.zero_le _⟩ (cells_T hS hG (by omega) (fun z34 hz34 => aRes_i (rest := [_]) ?_))
  refine R_icmpge rfl ⟨by omega, by omega⟩ ⟨by omega, by omega⟩ (fun c37 => ?_) (fun c37 => ?_)
  · have hr0 : r = 0 := by omega
    subst hr0
    refine R_aload_n rfl rfl ?_
    refine R_getfield rfl rfl (by omega) u0 rfl ?_
    exact R_ireturn rfl (fun q => absurd q (by decide)) (Nat.zero_le _) (Nat.zero_le _) (hQ h hH fr.refl)
  · obtain ⟨r, rfl⟩ : ∃ r1, r = r1 + 1 := ⟨r - 1, by omega⟩
    have hrd : seL lim s (rdF G em (r + 1) i) = seL lim (seL lim s (viR G em (qN G - 1) [] i)) (rdF G em r (i + 1)) := seL_app
    rw [hrd] at hQ
    refine R_aload_n rfl rfl ?_
    refine R_aload_n rfl rfl ?_
    refine R_iconst rfl ?_
    refine R_iload rfl rfl ?_
    refine R_vcall rfl rfl ⟨(by omega), _, u0⟩ ⟨Nat.le_of_ble_eq_true rfl, Nat.le_of_ble_eq_true rfl, Nat.zero_le _, Nat.zero_le _⟩ (visit_T hG rfl (qN G - 1) (d + 16) (by omega) N k i h _ s [] hP hst hk hN hH (by show 0 + (qN G - 1) + 1 = qN G; omega) (by omega) (fun h1 hH1 f1 => aRes_v (rest := []) ?_))
    refine R_iinc (lv' := [_, _, _, _, _]) rfl rfl rfl ?_
    refine R_goto rfl ?_
    exact ih r (by omega) (i + 1) h1 _ (by omega) (isPz_fr hP (fun j q1 q2 => f1 j (by omega))) ⟨(f1 _ (by omega)).trans hst.1, (f1 _ (by omega)).trans hst.2⟩ hH1 (fun h2 q1 q2 => hQ h2 q1 (f1.trans q2))
theorem visit_n {L N k c lim : Nat} {h : AH} {G : Gr} {em : Bool} {s : SS} {Q : AQ} (hG : okG G) (hk : k + 12 ≤ 116) (hN : 119 ≤ N) (hP : isPz h k G) (hH : seH h (qN G) em lim s []) (hq0 : qN G = 0) (hc : c < qM G) (hQ : ∀ h', seH h' (qN G) em lim s [] → fr h h' 116 3 → Q (.inl none) h' N) : T (L + 1) 13 [vR 116, vR k, vI 0, vI c] h N Q := by
  obtain ⟨us, P, FP, fl, u0, u1, u2, hus, hPa, hfd, hlim, hfs, hfn⟩ := id hH
  obtain ⟨F, Ln, Dn, Ac, Dw, Cl, ⟨p0, hS, p2, p3, p4, p5, p6, p7⟩, hE, hAc, hDw, hCl⟩ := id hP
  obtain ⟨hm4, hm36⟩ := hG.m
  have hn36 := nE36 hG
  have hnE : cnt G (qM G) = nE G := rfl
  obtain ⟨rb, bb, s0⟩ := hS.e0
  refine T_body (I := mi_X2_visit) (lv := [_, _, _, _, _]) rfl (Nat.le_of_ble_eq_true rfl) rfl ?_
  refine R_aload_n rfl rfl ?_
  refine R_getfield rfl rfl (by omega) p0 rfl ?_
  refine R_astore (lv' := [_, _, _, _, _]) rfl rfl ?_
  refine R_aload_n rfl rfl ?_
  refine R_getfield rfl rfl (by omega) u0 rfl ?_
  refine R_aload_n rfl rfl ?_
  refine R_getfield rfl rfl (by omega) u0 rfl ?_
  refine R_icmpge rfl ⟨by omega, by omega⟩ ⟨by omega, by omega⟩ (fun c14 => ?_) (fun c14 => ?_)
  · exact R_return rfl (Nat.zero_le _) (Nat.zero_le _) (hQ h hH fr.refl)
  · refine R_iload_n rfl rfl ?_
    refine R_iflt rfl ⟨by decide, by decide⟩ (fun c0 => absurd c0 (by decide)) (fun _ => ?_)
    refine R_iload_n rfl rfl ?_
    refine R_aload rfl rfl ?_
    refine R_getfield rfl rfl (by omega) s0 rfl ?_
    refine R_icmpge rfl ⟨by decide, by decide⟩ ⟨by omega, by omega⟩ (fun c27 => ?_) (fun c27 => ?_)
    · exact R_return rfl (Nat.zero_le _) (Nat.zero_le _) (hQ h hH fr.refl)
    · exact absurd c27 (by omega)
theorem cnt_loop0 {d N k lim : Nat} {G : Gr} {em : Bool} {s : SS} {Q : AQ} {e9 l9 : Int} (hG : okG G) (hk : k + 12 ≤ 116) (hN : 119 ≤ N) (hq0 : qN G = 0) : ∀ (r i : Nat) (h : AH), i + r = qM G → isPz h k G → seH h (qN G) em lim s [] → (∀ h', seH h' (qN G) em lim s [] → fr h h' 116 3 → Q (.inl (some (vI ((s.1 : Nat) : Int)))) h' N) → Run mi_X2_count (T (d + 16)) Q 28 [some (vR 116), some (vR k), some (vI e9), some (vI l9), some (vI i)] [] h N 0 0 := by
  intro r
  induction r using Nat.strongRecOn with
  | ind r ih =>
  intro i h hr hP hH hQ
  obtain ⟨us, P, FP, fl, u0, u1, u2, hus, hPa, hfd, hlim, hfs, hfn⟩ := id hH
  obtain ⟨F, Ln, Dn, Ac, Dw, Cl, ⟨p0, hS, p2, p3, p4, p5, p6, p7⟩, hE, hAc, hDw, hCl⟩ := id hP
  obtain ⟨hm4, hm36⟩ := hG.m
  have hn36 := nE36 hG
  have hnE : cnt G (qM G) = nE G := rfl
  obtain ⟨rb, bb, s0⟩ := hS.e0
  refine R_iload rfl rfl ?_
  refine R_aload_n rfl rfl ?_
  refine R_getfield rfl rfl (by omega) p0 rfl ?_
  refine R_vcall rfl rfl ⟨(by omega), hS.rcv⟩ ⟨Nat.le_of_ble_eq_true rfl, Nat.le_of_ble_eq_true rfl, Nat.zero_le _, Nat.zero_le _⟩ (cells_T hS hG (by omega) (fun z34 hz34 => aRes_i (rest := [_]) ?_))
  refine R_icmpge rfl ⟨by omega, by omega⟩ ⟨by omega, by omega⟩ (fun c37 => ?_) (fun c37 => ?_)
  · have hr0 : r = 0 := by omega
    refine R_aload_n rfl rfl ?_
    refine R_getfield rfl rfl (by omega) u0 rfl ?_
    exact R_ireturn rfl (fun q => absurd q (by decide)) (Nat.zero_le _) (Nat.zero_le _) (hQ h hH fr.refl)
  · obtain ⟨r, rfl⟩ : ∃ r1, r = r1 + 1 := ⟨r - 1, by omega⟩
    refine R_aload_n rfl rfl ?_
    refine R_aload_n rfl rfl ?_
    refine R_iconst rfl ?_
    refine R_iload rfl rfl ?_
    refine R_vcall rfl rfl ⟨(by omega), _, u0⟩ ⟨Nat.le_of_ble_eq_true rfl, Nat.le_of_ble_eq_true rfl, Nat.zero_le _, Nat.zero_le _⟩ (visit_n hG hk hN hP hH hq0 (by omega) (fun h1 hH1 f1 => aRes_v (rest := []) ?_))
    refine R_iinc (lv' := [_, _, _, _, _]) rfl rfl rfl ?_
    refine R_goto rfl ?_
    exact ih r (by omega) (i + 1) h1 (by omega) (isPz_fr hP (fun j q1 q2 => f1 j (by omega))) hH1 (fun h2 q1 q2 => hQ h2 q1 (f1.trans q2))
def rdS (G : Gr) (em : Bool) (lim : Nat) : SS := seL lim (0, none) (rdG G em)
theorem count_T {d N k lim : Nat} {h : AH} {G : Gr} {em : Bool} {Q : AQ} (hP : isPz h k G) (hG : okG G) (hk : k + 12 ≤ 116) (hN : 119 ≤ N) (hst : isStp h) (hE : isSe h) (hlim : lim ≤ 2147483647) (hQ : ∀ h', seH h' (qN G) em lim (rdS G em lim) [] → fr h h' 116 3 → Q (.inl (some (vI (((rdS G em lim).1 : Nat) : Int)))) h' N) : T (d + 17) 11 [vR 116, vR k, vI (bI em), vI lim] h N Q := by
  obtain ⟨e8, l8, f8, g8, us, P, FP, u0, u1, u2⟩ := id hE
  refine T_body (I := mi_X2_count) (lv := [_, _, _, _, _]) rfl (Nat.le_of_ble_eq_true rfl) rfl ?_
  refine R_aload_n rfl rfl ?_
  refine R_iload_n rfl rfl ?_
  refine R_putfield rfl rfl (by omega) u0 (Nat.le_of_ble_eq_true rfl) (by first | trivial | exact trivial | exact bI01 _ | omega) ?_
  refine R_aload_n rfl rfl ?_
  refine R_iload_n rfl rfl ?_
  refine R_putfield rfl rfl (by omega) (va_up_self _ _ _) (Nat.le_of_ble_eq_true rfl) (by first | trivial | exact trivial | exact bI01 _ | omega) ?_
  refine R_aload_n rfl rfl ?_
  refine R_iconst rfl ?_
  refine R_putfield rfl rfl (by omega) (va_up_self _ _ _) (Nat.le_of_ble_eq_true rfl) (by first | trivial | exact trivial | exact bI01 _ | omega) ?_
  refine R_aload_n rfl rfl ?_
  refine R_iconst rfl ?_
  refine R_putfield rfl rfl (by omega) (va_up_self _ _ _) (Nat.le_of_ble_eq_true rfl) (by first | trivial | exact trivial | exact bI01 _ | omega) ?_
  refine R_aload_n rfl rfl ?_
  refine R_lconst rfl ?_
  refine R_putfield rfl rfl (by omega) (va_up_self _ _ _) (Nat.le_of_ble_eq_true rfl) (by first | trivial | exact trivial | exact bI01 _ | omega) ?_
  refine R_iconst rfl ?_
  refine R_istore (lv' := [_, _, _, _, _]) rfl rfl ?_
  by_cases hq0 : qN G = 0
  · have hrd : rdS G em lim = (0, none) := by
      unfold rdS rdG
      rw [if_pos hq0]
      rfl
    rw [hrd] at hQ
    exact cnt_loop0 hG hk hN hq0 (qM G) 0 _ (Nat.zero_add _) (isPz_fr hP (fun j q1 q2 => (va_up_ne _ _ (by omega)).trans ((va_up_ne _ _ (by omega)).trans ((va_up_ne _ _ (by omega)).trans ((va_up_ne _ _ (by omega)).trans (va_up_ne _ _ (by omega))))))) (seH_new ((va_up_self _ _ _)) (((va_up_ne _ _ (by first | exact kne rfl | exact kz | exact kz.symm | omega)).trans ((va_up_ne _ _ (by first | exact kne rfl | exact kz | exact kz.symm | omega)).trans ((va_up_ne _ _ (by first | exact kne rfl | exact kz | exact kz.symm | omega)).trans ((va_up_ne _ _ (by first | exact kne rfl | exact kz | exact kz.symm | omega)).trans ((va_up_ne _ _ (by first | exact kne rfl | exact kz | exact kz.symm | omega)).trans u1)))))) (((va_up_ne _ _ (by first | exact kne rfl | exact kz | exact kz.symm | omega)).trans ((va_up_ne _ _ (by first | exact kne rfl | exact kz | exact kz.symm | omega)).trans ((va_up_ne _ _ (by first | exact kne rfl | exact kz | exact kz.symm | omega)).trans ((va_up_ne _ _ (by first | exact kne rfl | exact kz | exact kz.symm | omega)).trans ((va_up_ne _ _ (by first | exact kne rfl | exact kz | exact kz.symm | omega)).trans u2)))))) hlim) (fun h2 q1 q2 => hQ h2 q1 (fun j hj => (q2 j hj).trans ((va_up_ne _ _ (by omega)).trans ((va_up_ne _ _ (by omega)).trans ((va_up_ne _ _ (by omega)).trans ((va_up_ne _ _ (by omega)).trans (va_up_ne _ _ (by omega))))))))
  · have hrd : rdS G em lim = seL lim (0, none) (rdF G em (qM G) 0) := by
      unfold rdS rdG
      rw [if_neg hq0]
    rw [hrd] at hQ
    exact cnt_loop hG hk hN hq0 (qM G) 0 _ _ (Nat.zero_add _) (isPz_fr hP (fun j q1 q2 => (va_up_ne _ _ (by omega)).trans ((va_up_ne _ _ (by omega)).trans ((va_up_ne _ _ (by omega)).trans ((va_up_ne _ _ (by omega)).trans (va_up_ne _ _ (by omega))))))) ⟨((va_up_ne _ _ (by decide)).trans ((va_up_ne _ _ (by decide)).trans ((va_up_ne _ _ (by decide)).trans ((va_up_ne _ _ (by decide)).trans (va_up_ne _ _ (by decide)))))).trans hst.1, ((va_up_ne _ _ (by decide)).trans ((va_up_ne _ _ (by decide)).trans ((va_up_ne _ _ (by decide)).trans ((va_up_ne _ _ (by decide)).trans (va_up_ne _ _ (by decide)))))).trans hst.2⟩ (seH_new ((va_up_self _ _ _)) (((va_up_ne _ _ (by first | exact kne rfl | exact kz | exact kz.symm | omega)).trans ((va_up_ne _ _ (by first | exact kne rfl | exact kz | exact kz.symm | omega)).trans ((va_up_ne _ _ (by first | exact kne rfl | exact kz | exact kz.symm | omega)).trans ((va_up_ne _ _ (by first | exact kne rfl | exact kz | exact kz.symm | omega)).trans ((va_up_ne _ _ (by first | exact kne rfl | exact kz | exact kz.symm | omega)).trans u1)))))) (((va_up_ne _ _ (by first | exact kne rfl | exact kz | exact kz.symm | omega)).trans ((va_up_ne _ _ (by first | exact kne rfl | exact kz | exact kz.symm | omega)).trans ((va_up_ne _ _ (by first | exact kne rfl | exact kz | exact kz.symm | omega)).trans ((va_up_ne _ _ (by first | exact kne rfl | exact kz | exact kz.symm | omega)).trans ((va_up_ne _ _ (by first | exact kne rfl | exact kz | exact kz.symm | omega)).trans u2)))))) hlim) (fun h2 q1 q2 => hQ h2 q1 (fun j hj => (q2 j hj).trans ((va_up_ne _ _ (by omega)).trans ((va_up_ne _ _ (by omega)).trans ((va_up_ne _ _ (by omega)).trans ((va_up_ne _ _ (by omega)).trans (va_up_ne _ _ (by omega))))))))
theorem cellOfFirst_T {d N i : Nat} {h : AH} {Q : AQ} {e l f : Int} {g : Nat} {us : Int64} {P FP : Nat → Int} (u0 : h 116 = eO 1 [vI e, vI l, vI f, vI g, vL us, vR 117, vR 118]) (u2 : h 118 = eI 6 FP) (hN : 119 ≤ N) (hg : g ≤ 6) (hi : i < 2147483648) (hQ : ∀ z : Int, (i < g ∧ z = FP i) ∨ (g ≤ i ∧ z = -9) → Q (.inl (some (vI z))) h N) : T (d + 1) 12 [vR 116, vI i] h N Q := by
  refine T_body (I := mi_X2_cellOfFirst) (lv := [_, _]) rfl (Nat.le_of_ble_eq_true rfl) rfl ?_
  refine R_iload_n rfl rfl ?_
  refine R_iflt rfl ⟨by omega, by omega⟩ (fun c1 => ?_) (fun c1 => ?_)
  · exact absurd c1 (by omega)
  · refine R_iload_n rfl rfl ?_
    refine R_aload_n rfl rfl ?_
    refine R_getfield rfl rfl (by omega) u0 rfl ?_
    refine R_icmpge rfl ⟨by omega, by omega⟩ ⟨by omega, by omega⟩ (fun c9 => ?_) (fun c9 => ?_)
    · refine R_bipush rfl ?_
      exact R_ireturn rfl (fun q => absurd q (by decide)) (Nat.zero_le _) (Nat.zero_le _) (hQ _ (Or.inr ⟨by omega, rfl⟩))
    · refine R_iload_n rfl rfl ?_
      refine R_bipush rfl ?_
      refine R_icmpge rfl ⟨by omega, by omega⟩ ⟨by decide, by decide⟩ (fun c15 => ?_) (fun c15 => ?_)
      · refine R_bipush rfl ?_
        exact R_ireturn rfl (fun q => absurd q (by decide)) (Nat.zero_le _) (Nat.zero_le _) (hQ _ (Or.inr ⟨by omega, rfl⟩))
      · refine R_aload_n rfl rfl ?_
        refine R_getfield rfl rfl (by omega) u0 rfl ?_
        refine R_iload_n rfl rfl ?_
        refine R_iaload rfl (Or.inl (by omega)) u2 ⟨by omega, by omega, by decide⟩ ?_
        refine R_goto rfl ?_
        exact R_ireturn rfl (fun q => absurd q (by decide)) (Nat.zero_le _) (Nat.zero_le _) (hQ _ (Or.inl ⟨by omega, rfl⟩))
