/-! ===== the search for readings ===== -/
def mvC (G : Gr) (a k : Nat) : Option Nat := if 0 ≤ ((a / qC G : Nat) : Int) + stepRows k ∧ ((a / qC G : Nat) : Int) + stepRows k < qR G ∧ 0 ≤ ((a % qC G : Nat) : Int) + stepCols k ∧ ((a % qC G : Nat) : Int) + stepCols k < qC G then some ((((a / qC G : Nat) : Int) + stepRows k) * qC G + (((a % qC G : Nat) : Int) + stepCols k)).toNat else none
def knF (G : Gr) (a : Nat) : Nat → Nat → List Nat
  | 0, _ => []
  | r + 1, k => (match mvC G a k with
    | some x => [x]
    | none => []) ++ knF G a r (k + 1)
def alw (G : Gr) (em : Bool) (ch : List Nat) (c : Nat) : Bool := !ch.contains c && decide (enC G c = 1) && (if qL G c = 0 then em else decide (qL G c = qNl G ch.length))
def ext (G : Gr) (em : Bool) : Nat → List Nat → List (List Nat)
  | 0, ch => [ch]
  | r + 1, ch => ((knF G (ch.getLastD 0) 8 0).filter (alw G em ch)).flatMap (fun c => ext G em r (ch ++ [c]))
abbrev SS : Type := Nat × Option (List Nat)
def seA (lim : Nat) (s : SS) (R : List Nat) : SS := if lim ≤ s.1 then s else (s.1 + 1, if s.1 = 0 then some R else s.2)
def seL (lim : Nat) (s : SS) (l : List (List Nat)) : SS := l.foldl (seA lim) s
theorem seL_app {lim : Nat} {s : SS} {l m : List (List Nat)} : seL lim s (l ++ m) = seL lim (seL lim s l) m := List.foldl_append
theorem seL_full {lim : Nat} {s : SS} (h : lim ≤ s.1) : ∀ l, seL lim s l = s
  | [] => rfl
  | R :: l => by
    show seL lim (seA lim s R) l = s
    unfold seA
    rw [if_pos h]
    exact seL_full h l
theorem seA_le {lim : Nat} {s : SS} (h : s.1 ≤ lim) (R : List Nat) : (seA lim s R).1 ≤ lim := by
  unfold seA
  by_cases q : lim ≤ s.1
  · rw [if_pos q]
    exact h
  · rw [if_neg q]
    show s.1 + 1 ≤ lim
    omega
theorem seL_le {lim : Nat} : ∀ (l : List (List Nat)) (s : SS), s.1 ≤ lim → (seL lim s l).1 ≤ lim
  | [], _, h => h
  | R :: l, s, h => seL_le l (seA lim s R) (seA_le h R)
/-- what a visit of a cell finds -/
def viR (G : Gr) (em : Bool) (r : Nat) (ch : List Nat) (c : Nat) : List (List Nat) := if alw G em ch c = true then ext G em r (ch ++ [c]) else []
theorem flat_fil {α β : Type} (p : α → Bool) (f : α → List β) : ∀ l : List α, (l.filter p).flatMap f = l.flatMap (fun c => if p c = true then f c else [])
  | [] => rfl
  | a :: l => by
    rw [List.flatMap_cons, ← flat_fil p f l]
    cases h : p a with
    | true =>
      rw [List.filter_cons_of_pos h, List.flatMap_cons, if_pos rfl]
    | false =>
      rw [List.filter_cons_of_neg (by rw [h]; decide), if_neg (by decide)]
      rfl
def seH (h : AH) (n : Nat) (em : Bool) (lim : Nat) (s : SS) (ch : List Nat) : Prop := ∃ (us : Int64) (P FP : Nat → Int) (fl : Int), h 116 = eO 1 [vI (bI em), vI lim, vI s.1, vI fl, vL us, vR 117, vR 118] ∧ h 117 = eI 6 P ∧ h 118 = eI 6 FP ∧ isBits us (fun j => ch.contains j) ∧ (∀ (j x : Nat), ch[j]? = some x → P j = x) ∧ s.1 ≤ lim ∧ lim ≤ 2147483647 ∧ (∀ R, s.2 = some R → fl = n ∧ ∀ (j x : Nat), R[j]? = some x → FP j = x) ∧ (s.2 = none → fl = 0)
def isStp (h : AH) : Prop := h 1001 = eI 8 stepRows ∧ h 1002 = eI 8 stepCols
theorem isPz_fr {h h' : AH} {k : Nat} {G : Gr} (hP : isPz h k G) (he : ∀ j, k ≤ j → j < k + 12 → h' j = h j) : isPz h' k G := by
  obtain ⟨F, Ln, Dn, Ac, Dw, Cl, ⟨p0, hS, p2, p3, p4, p5, p6, p7⟩, hr⟩ := hP
  exact ⟨F, Ln, Dn, Ac, Dw, Cl, ⟨(he _ (by omega) (by omega)).trans p0, isSt_fr hS (fun j h1 h2 => he j (by omega) (by omega)), (he _ (by omega) (by omega)).trans p2, (he _ (by omega) (by omega)).trans p3, (he _ (by omega) (by omega)).trans p4, (he _ (by omega) (by omega)).trans p5, (he _ (by omega) (by omega)).trans p6, (he _ (by omega) (by omega)).trans p7⟩, hr⟩
theorem isAllowed_T {d k N n : Nat} {h : AH} {G : Gr} {Q : AQ} {em : Bool} {lim : Nat} {s : SS} {ch : List Nat} (hP : isPz h k G) (hG : okG G) (hk : k + 12 ≤ 116) (hN : 119 ≤ N) (hH : seH h n em lim s ch) {c : Nat} (hc : c < qM G) (hdn : ch.length < qN G) (hQ : ∀ z : Int, z = bI (alw G em ch c) → Q (.inl (some (vI z))) h N) : T (d + 3) 15 [vR 116, vR k, vI ch.length, vI c] h N Q := by
  obtain ⟨us, P, FP, fl, u0, u1, u2, hus, hPa, hfd, hlim, hfs, hfn⟩ := id hH
  obtain ⟨F, Ln, Dn, Ac, Dw, Cl, ⟨p0, hS, p2, p3, p4, p5, p6, p7⟩, hE, hAc, hDw, hCl⟩ := id hP
  obtain ⟨hm4, hm36⟩ := hG.m
  have hn36 := nE36 hG
  have hnE : cnt G (qM G) = nE G := rfl
  obtain ⟨rb, bb, s0⟩ := hS.e0
  have hN6 := hG.2.2.2.2.2.2.2.1
  refine T_body (I := mi_X2_isAllowed) (lv := [_, _, _, _, _]) rfl (Nat.le_of_ble_eq_true rfl) rfl ?_
  refine R_aload_n rfl rfl ?_
  refine R_getfield rfl rfl (by omega) u0 rfl ?_
  refine R_iload_n rfl rfl ?_
  refine R_lshr rfl ?_
  refine R_lconst rfl ?_
  refine R_land rfl ?_
  refine R_lconst rfl ?_
  refine R_lcmp rfl ?_
  rw [bit_cmp (x := us) (n := c) (by omega), hus c (by omega)]
  refine R_ifeq rfl ⟨by first | omega | (split <;> omega), by first | omega | (split <;> omega)⟩ (fun c10 => ?_) (fun c10 => ?_)
  · have ha : ch.contains c = true := by
      cases q : ch.contains c with
      | true => rfl
      | false => exact absurd (show (if ch.contains c = true then (0 : Int) else -1) = 0 from c10) (by rw [q]; decide)
    have hr : alw G em ch c = false := by
      unfold alw
      rw [ha]
      rfl
    refine R_iconst rfl ?_
    exact R_ireturn rfl (fun _ => by omega) (Nat.zero_le _) (Nat.zero_le _) (hQ _ (by rw [hr]; try rfl))
  · have ha : ch.contains c = false := by
      cases q : ch.contains c with
      | false => rfl
      | true => exact absurd (show (if ch.contains c = true then (0 : Int) else -1) = 0 by rw [q]; rfl) c10
    refine R_aload_n rfl rfl ?_
    refine R_iload_n rfl rfl ?_
    refine R_vcall rfl rfl ⟨(by omega), _, p0⟩ ⟨Nat.le_of_ble_eq_true rfl, Nat.le_of_ble_eq_true rfl, Nat.zero_le _, Nat.zero_le _⟩ (entriesAt_T (x := c) hP hG (by omega) rfl hc (fun z15 hz15 => aRes_i (rest := []) ?_))
    have hen : enC G c ≤ 2 := by
      unfold enC
      cases inE G false c <;> cases inE G true c <;> decide
    refine R_iconst rfl ?_
    refine R_icmpeq rfl ⟨by first | omega | (split <;> omega), by first | omega | (split <;> omega)⟩ ⟨by decide, by decide⟩ (fun c19 => ?_) (fun c19 => ?_)
    · have he1 : decide (enC G c = 1) = true := decide_eq_true (by omega)
      refine R_aload_n rfl rfl ?_
      refine R_getfield rfl rfl (by omega) p0 rfl ?_
      refine R_iload_n rfl rfl ?_
      refine R_vcall rfl rfl ⟨(by omega), hS.rcv⟩ ⟨Nat.le_of_ble_eq_true rfl, Nat.le_of_ble_eq_true rfl, Nat.zero_le _, Nat.zero_le _⟩ (letterAt_T hS hG (by omega) ⟨by omega, by omega⟩ (fun z29 hz29 => aRes_i (rest := []) ?_))
      have hl : z29 = qL G c := by
        rcases hz29 with ⟨-, -, q⟩ | ⟨q, -⟩
        · exact q
        · exact absurd (by omega) q
      have hlr : 0 ≤ z29 ∧ z29 ≤ 122 := by
        rcases hG.2.2.1 c hc with q | q
        · omega
        · obtain ⟨q1, q2⟩ := q
          omega
      refine R_istore (lv' := [_, _, _, _, _]) rfl rfl ?_
      refine R_iload rfl rfl ?_
      refine R_ifne rfl ⟨by first | omega | (split <;> omega), by first | omega | (split <;> omega)⟩ (fun c36 => ?_) (fun c36 => ?_)
      · refine R_iload rfl rfl ?_
        refine R_aload_n rfl rfl ?_
        refine R_getfield rfl rfl (by omega) p0 rfl ?_
        refine R_iload_n rfl rfl ?_
        refine R_vcall rfl rfl ⟨(by omega), hS.rcv⟩ ⟨Nat.le_of_ble_eq_true rfl, Nat.le_of_ble_eq_true rfl, Nat.zero_le _, Nat.zero_le _⟩ (letterOfLine_T hS hG (by omega) ⟨by omega, by omega⟩ (fun z53 hz53 => aRes_i (rest := [_]) ?_))
        have hn9 : z53 = qNl G ch.length := by
          rcases hz53 with ⟨-, -, q⟩ | ⟨q, -⟩
          · exact q
          · exact absurd (by omega) q
        have hnr : 97 ≤ z53 ∧ z53 ≤ 122 := by
          rw [hn9]
          exact hG.2.2.2.2.2.2.2.2 _ hdn
        refine R_icmpne rfl ⟨by first | omega | (split <;> omega), by first | omega | (split <;> omega)⟩ ⟨by first | omega | (split <;> omega), by first | omega | (split <;> omega)⟩ (fun c56 => ?_) (fun c56 => ?_)
        · have hr : alw G em ch c = false := by
            unfold alw
            rw [ha, he1, if_neg (by omega), decide_eq_false (by omega)]
            rfl
          refine R_iconst rfl ?_
          exact R_ireturn rfl (fun _ => by omega) (Nat.zero_le _) (Nat.zero_le _) (hQ _ (by rw [hr]; try rfl))
        · have hr : alw G em ch c = true := by
            unfold alw
            rw [ha, he1, if_neg (by omega), decide_eq_true (by omega)]
            rfl
          refine R_iconst rfl ?_
          refine R_goto rfl ?_
          exact R_ireturn rfl (fun _ => by omega) (Nat.zero_le _) (Nat.zero_le _) (hQ _ (by rw [hr]; try rfl))
      · have hr : alw G em ch c = em := by
          unfold alw
          rw [ha, he1, if_pos (by omega)]
          rfl
        have hem := bI01 em
        refine R_aload_n rfl rfl ?_
        refine R_getfield rfl rfl (by omega) u0 rfl ?_
        refine R_goto rfl ?_
        exact R_ireturn rfl (fun _ => by omega) (Nat.zero_le _) (Nat.zero_le _) (hQ _ (by rw [hr]; try rfl))
    · have hr : alw G em ch c = false := by
        unfold alw
        rw [decide_eq_false (show ¬ enC G c = 1 by omega), Bool.and_false]
        rfl
      refine R_iconst rfl ?_
      exact R_ireturn rfl (fun _ => by omega) (Nat.zero_le _) (Nat.zero_le _) (hQ _ (by rw [hr]; try rfl))
