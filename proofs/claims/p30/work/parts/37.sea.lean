/-! ===== the search for readings ===== -/
def mvC (G : Gr) (a k : Nat) : Option Nat := if 0 ≤ ((a / qC G : Nat) : Int) + stepRows k ∧ ((a / qC G : Nat) : Int) + stepRows k < qR G ∧ 0 ≤ ((a % qC G : Nat) : Int) + stepCols k ∧ ((a % qC G : Nat) : Int) + stepCols k < qC G then some ((((a / qC G : Nat) : Int) + stepRows k) * qC G + (((a % qC G : Nat) : Int) + stepCols k)).toNat else none
def knF (G : Gr) (a : Nat) : Nat → Nat → List Nat
  | 0, _ => []
  | r + 1, k => (match mvC G a k with
    | some x => [x]
    | none => []) ++ knF G a r (k + 1)
def alw (G : Gr) (em : Bool) (ch : List Nat) (c : Nat) : Bool := !ch.contains c && decide (enC G c = 1) && (if qL G c = 0 then em else decide (qL G c = qNl G ch.length))
def ext (G : Gr) (em : Bool) : Nat → List Nat → List (List Nat)
  | 0, ch => [ch]
  | r + 1, ch => ((knF G (ch.getLastD 0) 8 0).filter (alw G em ch)).flatMap (fun c => ext G em r (ch ++ [c]))
abbrev SS : Type := Nat × Option (List Nat)
def seA (lim : Nat) (s : SS) (R : List Nat) : SS := if lim ≤ s.1 then s else (s.1 + 1, if s.1 = 0 then some R else s.2)
def seL (lim : Nat) (s : SS) (l : List (List Nat)) : SS := l.foldl (seA lim) s
theorem seL_app {lim : Nat} {s : SS} {l m : List (List Nat)} : seL lim s (l ++ m) = seL lim (seL lim s l) m := List.foldl_append
theorem seL_full {lim : Nat} {s : SS} (h : lim ≤ s.1) : ∀ l, seL lim s l = s
  | [] => rfl
  | R :: l => by
    show seL lim (seA lim s R) l = s
    unfold seA
    rw [if_pos h]
    exact seL_full h l
theorem seA_le {lim : Nat} {s : SS} (h : s.1 ≤ lim) (R : List Nat) : (seA lim s R).1 ≤ lim := by
  unfold seA
  by_cases q : lim ≤ s.1
  · rw [if_pos q]
    exact h
  · rw [if_neg q]
    show s.1 + 1 ≤ lim
    omega
theorem seL_le {lim : Nat} : ∀ (l : List (List Nat)) (s : SS), s.1 ≤ lim → (seL lim s l).1 ≤ lim
  | [], _, h => h
  | R :: l, s, h => seL_le l (seA lim s R) (seA_le h R)
/-- what a visit of a cell finds -/
def viR (G : Gr) (em : Bool) (r : Nat) (ch : List Nat) (c : Nat) : List (List Nat) := if alw G em ch c = true then ext G em r (ch ++ [c]) else []
theorem flat_fil {α β : Type} (p : α → Bool) (f : α → List β) : ∀ l : List α, (l.filter p).flatMap f = l.flatMap (fun c => if p c = true then f c else [])
  | [] => rfl
  | a :: l => by
    rw [List.flatMap_cons, ← flat_fil p f l]
    cases h : p a with
    | true =>
      rw [List.filter_cons_of_pos h, List.flatMap_cons, if_pos rfl]
    | false =>
      rw [List.filter_cons_of_neg (by rw [h]; decide), if_neg (by decide)]
      rfl
def seH (h : AH) (n : Nat) (em : Bool) (lim : Nat) (s : SS) (ch : List Nat) : Prop := ∃ (us : Int64) (P FP : Nat → Int) (fl : Int), h 116 = eO 1 [vI (bI em), vI lim, vI s.1, vI fl, vL us, vR 117, vR 118] ∧ h 117 = eI 6 P ∧ h 118 = eI 6 FP ∧ isBits us (fun j => ch.contains j) ∧ (∀ (j x : Nat), ch[j]? = some x → P j = x) ∧ s.1 ≤ lim ∧ lim ≤ 2147483647 ∧ (∀ R, s.2 = some R → fl = n ∧ ∀ (j x : Nat), R[j]? = some x → FP j = x) ∧ (s.2 = none → fl = 0)
def isStp (h : AH) : Prop := h 1001 = eI 8 stepRows ∧ h 1002 = eI 8 stepCols
theorem isPz_fr {h h' : AH} {k : Nat} {G : Gr} (hP : isPz h k G) (he : ∀ j, k ≤ j → j < k + 12 → h' j = h j) : isPz h' k G := by
  obtain ⟨F, Ln, Dn, Ac, Dw, Cl, ⟨p0, hS, p2, p3, p4, p5, p6, p7⟩, hr⟩ := hP
  exact ⟨F, Ln, Dn, Ac, Dw, Cl, ⟨(he _ (by omega) (by omega)).trans p0, isSt_fr hS (fun j h1 h2 => he j (by omega) (by omega)), (he _ (by omega) (by omega)).trans p2, (he _ (by omega) (by omega)).trans p3, (he _ (by omega) (by omega)).trans p4, (he _ (by omega) (by omega)).trans p5, (he _ (by omega) (by omega)).trans p6, (he _ (by omega) (by omega)).trans p7⟩, hr⟩
theorem isAllowed_T {d k N n : Nat} {h : AH} {G : Gr} {Q : AQ} {em : Bool} {lim : Nat} {s : SS} {ch : List Nat} (hP : isPz h k G) (hG : okG G) (hk : k + 12 ≤ 116) (hN : 119 ≤ N) (hH : seH h n em lim s ch) {c : Nat} (hc : c < qM G) (hdn : ch.length < qN G) (hQ : ∀ z : Int, z = bI (alw G em ch c) → Q (.inl (some (vI z))) h N) : T (d + 3) 15 [vR 116, vR k, vI ch.length, vI c] h N Q := by
  obtain ⟨us, P, FP, fl, u0, u1, u2, hus, hPa, hfd, hlim, hfs, hfn⟩ := id hH
  obtain ⟨F, Ln, Dn, Ac, Dw, Cl, ⟨p0, hS, p2, p3, p4, p5, p6, p7⟩, hE, hAc, hDw, hCl⟩ := id hP
  obtain ⟨hm4, hm36⟩ := hG.m
  have hn36 := nE36 hG
  have hnE : cnt G (qM G) = nE G := rfl
  obtain ⟨rb, bb, s0⟩ := hS.e0
  have hN6 := hG.2.2.2.2.2.2.2.1
  refine T_body (I := mi_X2_isAllowed) (lv := [_, _, _, _, _]) rfl (Nat.le_of_ble_eq_true rfl) rfl ?_
  refine R_aload_n rfl rfl ?_
  refine R_getfield rfl rfl (by omega) u0 rfl ?_
  refine R_iload_n rfl rfl ?_
  refine R_lshr rfl ?_
  refine R_lconst rfl ?_
  refine R_land rfl ?_
  refine R_lconst rfl ?_
  refine R_lcmp rfl ?_
  rw [bit_cmp (x := us) (n := c) (by omega), hus c (by omega)]
  refine R_ifeq rfl ⟨by first | omega | (split <;> omega), by first | omega | (split <;> omega)⟩ (fun c10 => ?_) (fun c10 => ?_)
  · have ha : ch.contains c = true := by
      cases q : ch.contains c with
      | true => rfl
      | false => exact absurd (show (if ch.contains c = true then (0 : Int) else -1) = 0 from c10) (by rw [q]; decide)
    have hr : alw G em ch c = false := by
      unfold alw
      rw [ha]
      rfl
    refine R_iconst rfl ?_
    exact R_ireturn rfl (fun _ => by omega) (Nat.zero_le _) (Nat.zero_le _) (hQ _ (by rw [hr]; try rfl))
  · have ha : ch.contains c = false := by
      cases q : ch.contains c with
      | false => rfl
      | true => exact absurd (show (if ch.contains c = true then (0 : Int) else -1) = 0 by rw [q]; rfl) c10
    refine R_aload_n rfl rfl ?_
    refine R_iload_n rfl rfl ?_
    refine R_vcall rfl rfl ⟨(by omega), _, p0⟩ ⟨Nat.le_of_ble_eq_true rfl, Nat.le_of_ble_eq_true rfl, Nat.zero_le _, Nat.zero_le _⟩ (entriesAt_T (x := c) hP hG (by omega) rfl hc (fun z15 hz15 => aRes_i (rest := []) ?_))
    have hen : enC G c ≤ 2 := by
      unfold enC
      cases inE G false c <;> cases inE G true c <;> decide
    refine R_iconst rfl ?_
    refine R_icmpeq rfl ⟨by first | omega | (split <;> omega), by first | omega | (split <;> omega)⟩ ⟨by decide, by decide⟩ (fun c19 => ?_) (fun c19 => ?_)
    · have he1 : decide (enC G c = 1) = true := decide_eq_true (by omega)
      refine R_aload_n rfl rfl ?_
      refine R_getfield rfl rfl (by omega) p0 rfl ?_
      refine R_iload_n rfl rfl ?_
      refine R_vcall rfl rfl ⟨(by omega), hS.rcv⟩ ⟨Nat.le_of_ble_eq_true rfl, Nat.le_of_ble_eq_true rfl, Nat.zero_le _, Nat.zero_le _⟩ (letterAt_T hS hG (by omega) ⟨by omega, by omega⟩ (fun z29 hz29 => aRes_i (rest := []) ?_))
      have hl : z29 = qL G c := by
        rcases hz29 with ⟨-, -, q⟩ | ⟨q, -⟩
        · exact q
        · exact absurd (by omega) q
      have hlr : 0 ≤ z29 ∧ z29 ≤ 122 := by
        rcases hG.2.2.1 c hc with q | q
        · omega
        · obtain ⟨q1, q2⟩ := q
          omega
      refine R_istore (lv' := [_, _, _, _, _]) rfl rfl ?_
      refine R_iload rfl rfl ?_
      refine R_ifne rfl ⟨by first | omega | (split <;> omega), by first | omega | (split <;> omega)⟩ (fun c36 => ?_) (fun c36 => ?_)
      · refine R_iload rfl rfl ?_
        refine R_aload_n rfl rfl ?_
        refine R_getfield rfl rfl (by omega) p0 rfl ?_
        refine R_iload_n rfl rfl ?_
        refine R_vcall rfl rfl ⟨(by omega), hS.rcv⟩ ⟨Nat.le_of_ble_eq_true rfl, Nat.le_of_ble_eq_true rfl, Nat.zero_le _, Nat.zero_le _⟩ (letterOfLine_T hS hG (by omega) ⟨by omega, by omega⟩ (fun z53 hz53 => aRes_i (rest := [_]) ?_))
        have hn9 : z53 = qNl G ch.length := by
          rcases hz53 with ⟨-, -, q⟩ | ⟨q, -⟩
          · exact q
          · exact absurd (by omega) q
        have hnr : 97 ≤ z53 ∧ z53 ≤ 122 := by
          rw [hn9]
          exact hG.2.2.2.2.2.2.2.2 _ hdn
        refine R_icmpne rfl ⟨by first | omega | (split <;> omega), by first | omega | (split <;> omega)⟩ ⟨by first | omega | (split <;> omega), by first | omega | (split <;> omega)⟩ (fun c56 => ?_) (fun c56 => ?_)
        · have hr : alw G em ch c = false := by
            unfold alw
            rw [ha, he1, if_neg (by omega), decide_eq_false (by omega)]
            rfl
          refine R_iconst rfl ?_
          exact R_ireturn rfl (fun _ => by omega) (Nat.zero_le _) (Nat.zero_le _) (hQ _ (by rw [hr]; try rfl))
        · have hr : alw G em ch c = true := by
            unfold alw
            rw [ha, he1, if_neg (by omega), decide_eq_true (by omega)]
            rfl
          refine R_iconst rfl ?_
          refine R_goto rfl ?_
          exact R_ireturn rfl (fun _ => by omega) (Nat.zero_le _) (Nat.zero_le _) (hQ _ (by rw [hr]; try rfl))
      · have hr : alw G em ch c = em := by
          unfold alw
          rw [ha, he1, if_pos (by omega)]
          rfl
        have hem := bI01 em
        refine R_aload_n rfl rfl ?_
        refine R_getfield rfl rfl (by omega) u0 rfl ?_
        refine R_goto rfl ?_
        exact R_ireturn rfl (fun _ => by omega) (Nat.zero_le _) (Nat.zero_le _) (hQ _ (by rw [hr]; try rfl))
    · have hr : alw G em ch c = false := by
        unfold alw
        rw [decide_eq_false (show ¬ enC G c = 1 by omega), Bool.and_false]
        rfl
      refine R_iconst rfl ?_
      exact R_ireturn rfl (fun _ => by omega) (Nat.zero_le _) (Nat.zero_le _) (hQ _ (by rw [hr]; try rfl))
theorem keepPath_T {d N fd : Nat} {h : AH} {Q : AQ} {em9 lim9 fl nn : Int} {us : Int64} {P FP : Nat → Int} (u0 : h 116 = eO 1 [vI em9, vI lim9, vI (fd : Int), vI fl, vL us, vR 117, vR 118]) (u1 : h 117 = eI 6 P) (u2 : h 118 = eI 6 FP) (hN : 119 ≤ N) (hfd : fd < 2147483647) (hQ0 : fd = 0 → ∀ h', h' 116 = eO 1 [vI em9, vI lim9, vI ((fd + 1 : Nat) : Int), vI nn, vL us, vR 117, vR 118] → h' 117 = eI 6 P → h' 118 = eI 6 (aCpy P FP 0 0 6) → fr h h' 116 3 → Q (.inl none) h' N) (hQ1 : ¬ fd = 0 → ∀ h', h' 116 = eO 1 [vI em9, vI lim9, vI ((fd + 1 : Nat) : Int), vI fl, vL us, vR 117, vR 118] → h' 117 = eI 6 P → h' 118 = eI 6 FP → fr h h' 116 3 → Q (.inl none) h' N) : T (d + 1) 16 [vR 116, vI nn] h N Q := by
  refine T_body (I := mi_X2_keepPath) (lv := [_, _]) rfl (Nat.le_of_ble_eq_true rfl) rfl ?_
  refine R_aload_n rfl rfl ?_
  refine R_getfield rfl rfl (by omega) u0 rfl ?_
  refine R_ifne rfl ⟨by omega, by omega⟩ (fun c4 => ?_) (fun c4 => ?_)
  · have hz0 : ¬ fd = 0 := by omega
    refine R_aload_n rfl rfl ?_
    refine R_dup rfl rfl ?_
    refine R_getfield rfl rfl (by omega) u0 rfl ?_
    refine R_iconst rfl ?_
    refine R_iadd rfl ?_
    refine R_putfield rfl rfl (by omega) u0 (Nat.le_of_ble_eq_true rfl) (by first | trivial | exact trivial | omega) ?_
    exact R_return rfl (Nat.zero_le _) (Nat.zero_le _) (hQ1 hz0 _ ((va_up_self _ _ _)) (((va_up_ne _ _ (by first | exact kne rfl | exact kz | exact kz.symm | omega)).trans u1)) (((va_up_ne _ _ (by first | exact kne rfl | exact kz | exact kz.symm | omega)).trans u2)) (fun j hj => by (first | exact va_up_ne _ _ (by omega) | exact (va_up_ne _ _ (by omega)).trans ((va_up_ne _ _ (by omega)).trans (va_up_ne _ _ (by omega))))))
  · have hz0 : fd = 0 := by omega
    refine R_aload_n rfl rfl ?_
    refine R_getfield rfl rfl (by omega) u0 rfl ?_
    refine R_iconst rfl ?_
    refine R_aload_n rfl rfl ?_
    refine R_getfield rfl rfl (by omega) u0 rfl ?_
    refine R_iconst rfl ?_
    refine R_bipush rfl ?_
    refine R_copy rfl rfl (by omega) (by omega) (Nat.le_of_ble_eq_true rfl) u1 u2 ⟨by omega, by omega, by omega, by omega, by omega, by omega, by omega⟩ ?_
    refine R_aload_n rfl rfl ?_
    refine R_iload_n rfl rfl ?_
    refine R_putfield rfl rfl (by omega) ((va_up_ne _ _ (by first | exact kne rfl | exact kz | exact kz.symm | omega)).trans u0) (Nat.le_of_ble_eq_true rfl) (by first | trivial | exact trivial | omega) ?_
    refine R_aload_n rfl rfl ?_
    refine R_dup rfl rfl ?_
    refine R_getfield rfl rfl (by omega) (va_up_self _ _ _) rfl ?_
    refine R_iconst rfl ?_
    refine R_iadd rfl ?_
    refine R_putfield rfl rfl (by omega) (va_up_self _ _ _) (Nat.le_of_ble_eq_true rfl) (by first | trivial | exact trivial | omega) ?_
    exact R_return rfl (Nat.zero_le _) (Nat.zero_le _) (hQ0 hz0 _ ((va_up_self _ _ _)) (((va_up_ne _ _ (by first | exact kne rfl | exact kz | exact kz.symm | omega)).trans ((va_up_ne _ _ (by first | exact kne rfl | exact kz | exact kz.symm | omega)).trans ((va_up_ne _ _ (by first | exact kne rfl | exact kz | exact kz.symm | omega)).trans u1)))) (((va_up_ne _ _ (by first | exact kne rfl | exact kz | exact kz.symm | omega)).trans ((va_up_ne _ _ (by first | exact kne rfl | exact kz | exact kz.symm | omega)).trans (va_up_self _ _ _)))) (fun j hj => by (first | exact va_up_ne _ _ (by omega) | exact (va_up_ne _ _ (by omega)).trans ((va_up_ne _ _ (by omega)).trans (va_up_ne _ _ (by omega))))))
theorem path_app {ch : List Nat} {P : Nat → Int} {c : Nat} (hPa : ∀ (j x : Nat), ch[j]? = some x → P j = x) : ∀ (j x : Nat), (ch ++ [c])[j]? = some x → va_up P ch.length c j = x := by
  intro j x hj
  rcases Nat.lt_or_ge j ch.length with q | q
  · rw [List.getElem?_append_left q] at hj
    rw [va_up_ne _ _ (by omega)]
    exact hPa j x hj
  · rw [List.getElem?_append_right q] at hj
    have q2 : j - ch.length = 0 := by
      rcases Nat.eq_zero_or_pos (j - ch.length) with r | r
      · exact r
      · rw [List.getElem?_eq_none (by show 1 ≤ _; omega)] at hj
        cases hj
    rw [q2] at hj
    have hj : some c = some x := hj
    cases hj
    rw [show j = ch.length by omega, va_up_self]
theorem path_old {ch : List Nat} {P : Nat → Int} {z : Int} (hPa : ∀ (j x : Nat), ch[j]? = some x → P j = x) : ∀ (j x : Nat), ch[j]? = some x → va_up P ch.length z j = x := by
  intro j x hj
  have := (List.getElem?_eq_some_iff.mp hj).1
  rw [va_up_ne _ _ (by omega)]
  exact hPa j x hj
theorem cont_app (ch : List Nat) (c j : Nat) : (ch ++ [c]).contains j = va_up (fun j => ch.contains j) c true j := by
  by_cases q : j = c
  · rw [q, va_up_self]
    simp
  · rw [va_up_ne _ _ q]
    simp [q]
theorem cont_old {ch : List Nat} {c : Nat} (hc : ch.contains c = false) (j : Nat) : ch.contains j = va_up (fun j => (ch ++ [c]).contains j) c false j := by
  by_cases q : j = c
  · rw [q, va_up_self, hc]
  · rw [va_up_ne _ _ q, cont_app, va_up_ne _ _ q]
theorem alw_c {G : Gr} {em : Bool} {ch : List Nat} {c : Nat} (h : alw G em ch c = true) : ch.contains c = false := by
  unfold alw at h
  cases q : ch.contains c with
  | false => rfl
  | true =>
    rw [q] at h
    cases h
theorem stp8 {i : Nat} (hi : i < 8) : (-2 ≤ stepRows i ∧ stepRows i ≤ 2) ∧ -2 ≤ stepCols i ∧ stepCols i ≤ 2 := by
  have h : (List.range 8).all (fun i => decide ((-2 ≤ stepRows i ∧ stepRows i ≤ 2) ∧ -2 ≤ stepCols i ∧ stepCols i ≤ 2)) = true := by decide +kernel
  exact of_decide_eq_true (List.all_eq_true.mp h i (List.mem_range.mpr hi))
theorem ext_flat {G : Gr} {em : Bool} {r : Nat} {ch : List Nat} {c : Nat} : ext G em (r + 1) (ch ++ [c]) = (knF G c 8 0).flatMap (viR G em r (ch ++ [c])) := by
  simp only [ext]
  rw [flat_fil]
  have e : (ch ++ [c]).getLastD 0 = c := by simp
  rw [e]
  rfl
theorem vb_loop {L n r : Nat} {G : Gr} {em : Bool} {lim : Nat} (hG : okG G) (hn6 : n ≤ 6) (hV : ∀ (N k c : Nat) (h : AH) (Q : AQ) (s : SS) (ch : List Nat), isPz h k G → isStp h → k + 12 ≤ 116 → 119 ≤ N → seH h n em lim s ch → ch.length + r + 1 = n → c < qM G → (∀ h', seH h' n em lim (seL lim s (viR G em r ch c)) ch → fr h h' 116 3 → Q (.inl none) h' N) → T (L + 1) 13 [vR 116, vR k, vI ch.length, vI c] h N Q) {N k c : Nat} {Q : AQ} {ch : List Nat} (hk : k + 12 ≤ 116) (hN : 119 ≤ N) (hr : ch.length + 1 + r + 1 = n) (hc : c < qM G) : ∀ (m i : Nat) (h : AH) (s : SS) (l6 l7 : Option AV), i + m = 8 → isPz h k G → isStp h → seH h n em lim s (ch ++ [c]) → (∀ h', seH h' n em lim (seL lim s ((knF G c m i).flatMap (viR G em r (ch ++ [c])))) (ch ++ [c]) → fr h h' 116 3 → Q (.inl none) h' N) → Run mi_X2_visitBehind (T (L + 1)) Q 9 [some (vR 116), some (vR k), some (vI ch.length), some (vI c), some (vR (k + 1)), some (vI i), l6, l7] [] h N 0 0 := by
  intro m
  induction m using Nat.strongRecOn with
  | ind m ih =>
  intro i h s l6 l7 hi hP hst hH hQ
  obtain ⟨us, P, FP, fl, u0, u1, u2, hus, hPa, hfd, hlim, hfs, hfn⟩ := id hH
  obtain ⟨F, Ln, Dn, Ac, Dw, Cl, ⟨p0, hS, p2, p3, p4, p5, p6, p7⟩, hE, hAc, hDw, hCl⟩ := id hP
  obtain ⟨hm4, hm36⟩ := hG.m
  have hn36 := nE36 hG
  have hnE : cnt G (qM G) = nE G := rfl
  obtain ⟨rb, bb, s0⟩ := hS.e0
  refine R_iload rfl rfl ?_
  refine R_getstatic rfl ?_
  refine R_alen rfl (Or.inr (Or.inr (Or.inl rfl))) hst.1 ?_
  refine R_icmpge rfl ⟨by omega, by omega⟩ ⟨by omega, by omega⟩ (fun c15 => ?_) (fun c15 => ?_)
  · have hm0 : m = 0 := by omega
    subst hm0
    exact R_return rfl (Nat.zero_le _) (Nat.zero_le _) (hQ h hH fr.refl)
  · obtain ⟨m, rfl⟩ : ∃ m1, m = m1 + 1 := ⟨m - 1, by omega⟩
    have hs8 := stp8 (i := i) (by omega)
    have hs9 : (-2 ≤ stepRows ((i : Int)).toNat ∧ stepRows ((i : Int)).toNat ≤ 2) ∧ -2 ≤ stepCols ((i : Int)).toNat ∧ stepCols ((i : Int)).toNat ≤ 2 := hs8
    have hrr : stepRows ((i : Int)).toNat = stepRows i := rfl
    have hcc : stepCols ((i : Int)).toNat = stepCols i := rfl
    have hRC := hG.1
    have hCC := hG.2.1
    have hrw : c / qC G ≤ 36 := Nat.le_trans (Nat.div_le_self _ _) (by omega)
    have hcw : c % qC G ≤ 36 := Nat.le_trans (Nat.mod_le _ _) (by omega)
    refine R_iload rfl rfl ?_
    refine R_getstatic rfl ?_
    refine R_alen rfl (Or.inr (Or.inr (Or.inr rfl))) hst.2 ?_
    refine R_icmpge rfl ⟨by omega, by omega⟩ ⟨by omega, by omega⟩ (fun c24 => ?_) (fun c24 => ?_)
    · exact absurd c24 (by omega)
    · refine R_aload rfl rfl ?_
      refine R_iload_n rfl rfl ?_
      refine R_vcall rfl rfl ⟨(by omega), hS.rcv⟩ ⟨Nat.le_of_ble_eq_true rfl, Nat.le_of_ble_eq_true rfl, Nat.zero_le _, Nat.zero_le _⟩ (rowOf_T hS hG (by omega) ⟨by omega, by omega⟩ (fun z30 hz30 => aRes_i (rest := []) ?_))
      rw [Int.toNat_natCast] at hz30
      have hb30 : 0 ≤ z30 ∧ z30 ≤ 36 := by
        rw [hz30]
        exact ⟨Int.natCast_nonneg _, Int.ofNat_le.mpr hrw⟩
      refine R_getstatic rfl ?_
      refine R_iload rfl rfl ?_
      refine R_iaload rfl (Or.inr (Or.inr (Or.inl rfl))) hst.1 ⟨by omega, by omega, by decide⟩ ?_
      refine R_iadd rfl ?_
      refine R_istore (lv' := [_, _, _, _, _, _, _, _]) rfl rfl ?_
      refine R_aload rfl rfl ?_
      refine R_iload_n rfl rfl ?_
      refine R_vcall rfl rfl ⟨(by omega), hS.rcv⟩ ⟨Nat.le_of_ble_eq_true rfl, Nat.le_of_ble_eq_true rfl, Nat.zero_le _, Nat.zero_le _⟩ (columnOf_T hS hG (by omega) ⟨by omega, by omega⟩ (fun z45 hz45 => aRes_i (rest := []) ?_))
      rw [Int.toNat_natCast] at hz45
      have hb45 : 0 ≤ z45 ∧ z45 ≤ 36 := by
        rw [hz45]
        exact ⟨Int.natCast_nonneg _, Int.ofNat_le.mpr hcw⟩
      refine R_getstatic rfl ?_
      refine R_iload rfl rfl ?_
      refine R_iaload rfl (Or.inr (Or.inr (Or.inr rfl))) hst.2 ⟨by omega, by omega, by decide⟩ ?_
      refine R_iadd rfl ?_
      refine R_istore (lv' := [_, _, _, _, _, _, _, _]) rfl rfl ?_
      refine R_iload rfl rfl ?_
      refine R_iflt rfl ⟨by omega, by omega⟩ (fun c59 => ?_) (fun c59 => ?_)
      · have hm9 : mvC G c i = none := by
          unfold mvC
          rw [if_neg (by omega)]
        have hkn : knF G c (m + 1) i = knF G c m (i + 1) := by
          simp only [knF]
          rw [hm9]
          rfl
        rw [hkn] at hQ
        refine R_iinc (lv' := [_, _, _, _, _, _, _, _]) rfl rfl rfl ?_
        refine R_goto rfl ?_
        (first | exact ih m (by omega) (i + 1) h1 _ _ _ (by omega) (isPz_fr hP (fun j q1 q2 => f1 j (by omega))) ⟨(f1 _ (by omega)).trans hst.1, (f1 _ (by omega)).trans hst.2⟩ hH1 (fun h2 q1 q2 => hQ h2 q1 (f1.trans q2)) | exact ih m (by omega) (i + 1) h _ _ _ (by omega) hP hst hH hQ)
      · refine R_iload rfl rfl ?_
        refine R_aload rfl rfl ?_
        refine R_getfield rfl rfl (by omega) s0 rfl ?_
        refine R_icmpge rfl ⟨by omega, by omega⟩ ⟨by omega, by omega⟩ (fun c69 => ?_) (fun c69 => ?_)
        · have hm9 : mvC G c i = none := by
            unfold mvC
            rw [if_neg (by omega)]
          have hkn : knF G c (m + 1) i = knF G c m (i + 1) := by
            simp only [knF]
            rw [hm9]
            rfl
          rw [hkn] at hQ
          refine R_iinc (lv' := [_, _, _, _, _, _, _, _]) rfl rfl rfl ?_
          refine R_goto rfl ?_
          (first | exact ih m (by omega) (i + 1) h1 _ _ _ (by omega) (isPz_fr hP (fun j q1 q2 => f1 j (by omega))) ⟨(f1 _ (by omega)).trans hst.1, (f1 _ (by omega)).trans hst.2⟩ hH1 (fun h2 q1 q2 => hQ h2 q1 (f1.trans q2)) | exact ih m (by omega) (i + 1) h _ _ _ (by omega) hP hst hH hQ)
        · refine R_iload rfl rfl ?_
          refine R_iflt rfl ⟨by omega, by omega⟩ (fun c74 => ?_) (fun c74 => ?_)
          · have hm9 : mvC G c i = none := by
              unfold mvC
              rw [if_neg (by omega)]
            have hkn : knF G c (m + 1) i = knF G c m (i + 1) := by
              simp only [knF]
              rw [hm9]
              rfl
            rw [hkn] at hQ
            refine R_iinc (lv' := [_, _, _, _, _, _, _, _]) rfl rfl rfl ?_
            refine R_goto rfl ?_
            (first | exact ih m (by omega) (i + 1) h1 _ _ _ (by omega) (isPz_fr hP (fun j q1 q2 => f1 j (by omega))) ⟨(f1 _ (by omega)).trans hst.1, (f1 _ (by omega)).trans hst.2⟩ hH1 (fun h2 q1 q2 => hQ h2 q1 (f1.trans q2)) | exact ih m (by omega) (i + 1) h _ _ _ (by omega) hP hst hH hQ)
          · refine R_iload rfl rfl ?_
            refine R_aload rfl rfl ?_
            refine R_getfield rfl rfl (by omega) s0 rfl ?_
            refine R_icmpge rfl ⟨by omega, by omega⟩ ⟨by omega, by omega⟩ (fun c84 => ?_) (fun c84 => ?_)
            · have hm9 : mvC G c i = none := by
                unfold mvC
                rw [if_neg (by omega)]
              have hkn : knF G c (m + 1) i = knF G c m (i + 1) := by
                simp only [knF]
                rw [hm9]
                rfl
              rw [hkn] at hQ
              refine R_iinc (lv' := [_, _, _, _, _, _, _, _]) rfl rfl rfl ?_
              refine R_goto rfl ?_
              (first | exact ih m (by omega) (i + 1) h1 _ _ _ (by omega) (isPz_fr hP (fun j q1 q2 => f1 j (by omega))) ⟨(f1 _ (by omega)).trans hst.1, (f1 _ (by omega)).trans hst.2⟩ hH1 (fun h2 q1 q2 => hQ h2 q1 (f1.trans q2)) | exact ih m (by omega) (i + 1) h _ _ _ (by omega) hP hst hH hQ)
            · obtain ⟨ρ, hρ⟩ := Int.eq_ofNat_of_zero_le (show 0 ≤ z30 + stepRows ((i : Int)).toNat by omega)
              obtain ⟨κ, hκ⟩ := Int.eq_ofNat_of_zero_le (show 0 ≤ z45 + stepCols ((i : Int)).toNat by omega)
              have hρ2 : ((c / qC G : Nat) : Int) + stepRows i = ρ := by rw [← hz30]; exact hρ
              have hκ2 : ((c % qC G : Nat) : Int) + stepCols i = κ := by rw [← hz45]; exact hκ
              obtain ⟨x, hx⟩ : ∃ x, x = ρ * qC G + κ := ⟨_, rfl⟩
              have hm9 : mvC G c i = some x := by
                unfold mvC
                rw [hρ2, hκ2, if_pos (by omega), hx]
                rfl
              have hxM : x < qM G := by
                have q1 : (ρ + 1) * qC G ≤ qR G * qC G := Nat.mul_le_mul_right _ (by omega)
                rw [Nat.add_mul, Nat.one_mul] at q1
                show x < qR G * qC G
                omega
              have hkn : knF G c (m + 1) i = x :: knF G c m (i + 1) := by
                simp only [knF]
                rw [hm9]
                rfl
              rw [hkn, List.flatMap_cons, seL_app] at hQ
              refine R_aload_n rfl rfl ?_
              refine R_aload_n rfl rfl ?_
              refine R_iload_n rfl rfl ?_
              refine R_iconst rfl ?_
              refine R_iadd rfl ?_
              refine R_iload rfl rfl ?_
              refine R_aload rfl rfl ?_
              refine R_getfield rfl rfl (by omega) s0 rfl ?_
              refine R_imul rfl ?_
              refine R_iload rfl rfl ?_
              refine R_iadd rfl ?_
              rw [show (z30 + stepRows ((i : Int)).toNat) * (qC G : Int) + (z45 + stepCols ((i : Int)).toNat) = ((x : Nat) : Int) by rw [hρ, hκ, hx, Int.natCast_add, Int.natCast_mul]; try rfl, show ((ch.length : Int)) + 1 = (((ch ++ [c]).length : Nat) : Int) by rw [List.length_append]; try rfl]
              refine R_vcall rfl rfl ⟨(by omega), _, u0⟩ ⟨Nat.le_of_ble_eq_true rfl, Nat.le_of_ble_eq_true rfl, Nat.zero_le _, Nat.zero_le _⟩ (hV N k x h _ s (ch ++ [c]) hP hst hk hN hH (by rw [List.length_append]; show ch.length + 1 + r + 1 = n; omega) hxM (fun h1 hH1 f1 => aRes_v (rest := []) ?_))
              refine R_iinc (lv' := [_, _, _, _, _, _, _, _]) rfl rfl rfl ?_
              refine R_goto rfl ?_
              (first | exact ih m (by omega) (i + 1) h1 _ _ _ (by omega) (isPz_fr hP (fun j q1 q2 => f1 j (by omega))) ⟨(f1 _ (by omega)).trans hst.1, (f1 _ (by omega)).trans hst.2⟩ hH1 (fun h2 q1 q2 => hQ h2 q1 (f1.trans q2)) | exact ih m (by omega) (i + 1) h _ _ _ (by omega) hP hst hH hQ)
