/-! ===== the law's readings ===== -/
theorem fl_mul {α : Type} {g : Nat → List α} {m : Nat} : ∀ n i, fl g (n * m) (i * m) = fl (fun c => fl (fun q => g (c * m + q)) m 0) n i
  | 0, i => by
    rw [Nat.zero_mul]
    rfl
  | n + 1, i => by
    have key : ∀ (r s x : Nat), fl g (r + s) x = fl g r x ++ fl g s (x + r) := by
      intro r
      induction r with
      | zero => intro s x; rw [Nat.zero_add]; rfl
      | succ r ih =>
        intro s x
        rw [show r + 1 + s = (r + s) + 1 by omega]
        show g x ++ fl g (r + s) (x + 1) = (g x ++ fl g r (x + 1)) ++ fl g s (x + (r + 1))
        rw [ih, List.append_assoc, show x + 1 + r = x + (r + 1) by omega]
    have sh : ∀ (r x y : Nat), fl g r (x + y) = fl (fun q => g (x + q)) r y := by
      intro r
      induction r with
      | zero => intro x y; rfl
      | succ r ih =>
        intro x y
        show g (x + y) ++ fl g r (x + y + 1) = g (x + y) ++ fl (fun q => g (x + q)) r (y + 1)
        rw [← ih x (y + 1)]
        rfl
    have e1 : (n + 1) * m = m + n * m := by rw [Nat.add_mul, Nat.one_mul, Nat.add_comm]
    have e2 : i * m + m = (i + 1) * m := by rw [Nat.add_mul, Nat.one_mul]
    rw [e1, key, e2, fl_mul n (i + 1)]
    show _ = fl (fun q => g (i * m + q)) m 0 ++ _
    rw [← sh m (i * m) 0]
    rfl
theorem fl_mul0 {α : Type} {g : Nat → List α} (m n : Nat) : fl g (n * m) 0 = fl (fun c => fl (fun q => g (c * m + q)) m 0) n 0 := by
  have := fl_mul (g := g) (m := m) n 0
  rw [Nat.zero_mul] at this
  exact this
/-- the i-th cell of a row's number -/
def dgt (G : Gr) (row i : Nat) : Nat := row / qM G ^ (qN G - 1 - i) % qM G
def lA (G : Gr) (em : Bool) (i x : Nat) : Bool := decide (enC G x = 1) && (if qL G x = 0 then em else decide (qL G x = qNl G i))
def pNe (D : Nat → Nat) (i j : Nat) : Bool := !decide (D i = D j)
def lI (G : Gr) (em : Bool) (D : Nat → Nat) (i : Nat) : Bool := ((lA G em i (D i)) && alF (pNe D i) (qN G - 1 - i) (i + 1)) && (decide (i + 1 = qN G) || knS G (D i) (D (i + 1)))
def okR (G : Gr) (em : Bool) (row : Nat) : Bool := alF (lI G em (dgt G row)) (qN G) 0
def chR (G : Gr) (row : Nat) : List Nat := (List.range (qN G)).map (dgt G row)
def gR (G : Gr) (em : Bool) (row : Nat) : List (List Nat) := if okR G em row = true then [chR G row] else []
theorem dg_0 {n c q : Nat} (hq : q < n) (hc : c < n) : (c * n + q) / n ^ 1 % n = c ∧ (c * n + q) / n ^ 0 % n = q := by
  have hn : 0 < n := by omega
  rw [Nat.pow_one, Nat.pow_zero, Nat.div_one]
  refine ⟨?_, ?_⟩
  · rw [Nat.add_comm, Nat.add_mul_div_right _ _ hn, Nat.div_eq_of_lt hq, Nat.zero_add, Nat.mod_eq_of_lt hc]
  · rw [Nat.add_comm, Nat.add_mul_mod_self_right, Nat.mod_eq_of_lt hq]
theorem dg_3 {n c x q : Nat} (hq : q < n) (hx : x < n) (hc : c < n) : (c * (n * n) + (x * n + q)) / n ^ 2 % n = c ∧ (c * (n * n) + (x * n + q)) / n ^ 1 % n = x ∧ (c * (n * n) + (x * n + q)) / n ^ 0 % n = q := by
  have hn : 0 < n := by omega
  have e : c * (n * n) + (x * n + q) = q + (x + c * n) * n := by
    rw [Nat.add_mul, Nat.mul_assoc]
    omega
  have h1 : (q + (x + c * n) * n) / n = x + c * n := by
    rw [Nat.add_mul_div_right _ _ hn, Nat.div_eq_of_lt hq, Nat.zero_add]
  have e2 : n ^ 2 = n * n := by rw [Nat.pow_succ, Nat.pow_one]
  rw [e, Nat.pow_one, Nat.pow_zero, Nat.div_one, e2, ← Nat.div_div_eq_div_mul, h1]
  refine ⟨?_, ?_, ?_⟩
  · rw [Nat.add_mul_div_right _ _ hn, Nat.div_eq_of_lt hx, Nat.zero_add, Nat.mod_eq_of_lt hc]
  · rw [Nat.add_mul_mod_self_right, Nat.mod_eq_of_lt hx]
  · rw [Nat.add_mul_mod_self_right, Nat.mod_eq_of_lt hq]
theorem lI2 {G : Gr} {em : Bool} {D : Nat → Nat} (h : qN G = 2) : alF (lI G em D) 2 0 = (((lA G em 0 (D 0) && (!decide (D 0 = D 1) && true)) && (false || knS G (D 0) (D 1))) && (((lA G em 1 (D 1) && true) && true) && true)) := by
  show (lI G em D 0 && (lI G em D 1 && true)) = _
  unfold lI
  rw [h]
  rfl
theorem lI3 {G : Gr} {em : Bool} {D : Nat → Nat} (h : qN G = 3) : alF (lI G em D) 3 0 = (((lA G em 0 (D 0) && (!decide (D 0 = D 1) && (!decide (D 0 = D 2) && true))) && (false || knS G (D 0) (D 1))) && ((((lA G em 1 (D 1)) && (!decide (D 1 = D 2) && true)) && (false || knS G (D 1) (D 2))) && (((lA G em 2 (D 2) && true) && true) && true))) := by
  show (lI G em D 0 && (lI G em D 1 && (lI G em D 2 && true))) = _
  unfold lI
  rw [h]
  rfl
theorem rd_law {G : Gr} (hG : okG G) {em : Bool} (h1 : 1 ≤ qN G) (h3 : qN G ≤ 3) : rdG G em = fl (gR G em) (qM G ^ qN G) 0 := by
  unfold rdG
  rw [if_neg (by omega), rd_mS hG _ _ (by omega)]
  have hc : qN G = 1 ∨ qN G = 2 ∨ qN G = 3 := by omega
  have a0 : ∀ c, crG G em [] c = lA G em 0 c := fun c => by
    rw [crG_nil]
    rfl
  have a1 : ∀ x c, crG G em [x] c = ((!decide (c = x) && lA G em 1 c) && knS G x c) := fun x c => by
    rw [show [x] = [] ++ [x] from rfl, crG_app]
    unfold alw lA
    simp [List.contains_cons, Bool.and_assoc]
  have a2 : ∀ x y c, crG G em [x, y] c = ((!decide (c = x) && !decide (c = y) && lA G em 2 c) && knS G y c) := fun x y c => by
    rw [show [x, y] = [x] ++ [y] from rfl, crG_app]
    unfold alw lA
    simp [List.contains_cons, Bool.and_assoc]
  rcases hc with h | h | h
  · rw [h, Nat.pow_one]
    refine fl_congr _ _ (fun c _ hc => ?_)
    have e0 : dgt G c 0 = c := by
      unfold dgt
      rw [h, Nat.pow_zero, Nat.div_one, Nat.mod_eq_of_lt (by omega)]
    have e1 : okR G em c = lA G em 0 c := by
      unfold okR
      rw [h]
      show (lI G em (dgt G c) 0 && true) = _
      unfold lI
      rw [h, e0]
      show (((lA G em 0 c && true) && true) && true) = _
      simp
    have e2 : chR G c = [c] := by
      unfold chR
      rw [h]
      show [dgt G c 0] = [c]
      rw [e0]
    unfold gR
    rw [e1, e2, a0]
    rfl
  · rw [h, show qM G ^ 2 = qM G * qM G by rw [Nat.pow_succ, Nat.pow_one], fl_mul0]
    refine fl_congr _ _ (fun c _ hc => ?_)
    rw [a0]
    show (if lA G em 0 c = true then fl (fun x => if crG G em [c] x = true then [[c, x]] else []) (qM G) 0 else []) = _
    have key : ∀ x, x < qM G → gR G em (c * qM G + x) = if lA G em 0 c = true then (if crG G em [c] x = true then [[c, x]] else []) else [] := fun x hx => by
      obtain ⟨d0, d1⟩ := dg_0 (n := qM G) (c := c) (q := x) hx (by omega)
      have e0 : dgt G (c * qM G + x) 0 = c := by
        unfold dgt
        rw [h]
        exact d0
      have e1 : dgt G (c * qM G + x) 1 = x := by
        unfold dgt
        rw [h]
        exact d1
      have e2 : okR G em (c * qM G + x) = (lA G em 0 c && (((!decide (x = c)) && lA G em 1 x) && knS G c x)) := by
        unfold okR
        rw [h, lI2 h, e0, e1]
        have e9 : decide (c = x) = decide (x = c) := decide_eq_decide.mpr ⟨Eq.symm, Eq.symm⟩
        rw [e9]
        cases lA G em 0 c <;> cases lA G em 1 x <;> cases knS G c x <;> cases decide (x = c) <;> rfl
      have e3 : chR G (c * qM G + x) = [c, x] := by
        unfold chR
        rw [h]
        show [dgt G (c * qM G + x) 0, dgt G (c * qM G + x) 1] = [c, x]
        rw [e0, e1]
      unfold gR
      rw [e2, e3, a1]
      cases lA G em 0 c <;> rfl
    cases q : lA G em 0 c with
    | true =>
      rw [if_pos rfl]
      refine fl_congr _ _ (fun x _ hx => ?_)
      rw [key x (by omega), q, if_pos rfl]
    | false =>
      rw [if_neg (by decide)]
      exact (fl_none (fun x _ hx => by rw [key x (by omega), q, if_neg (by decide)])).symm
  · rw [h, show qM G ^ 3 = qM G * (qM G * qM G) by rw [Nat.pow_succ, Nat.pow_succ, Nat.pow_one, Nat.mul_assoc], fl_mul0]
    refine fl_congr _ _ (fun c _ hc => ?_)
    rw [fl_mul0, a0]
    show (if lA G em 0 c = true then fl (fun x => if crG G em [c] x = true then fl (fun y => if crG G em [c, x] y = true then [[c, x, y]] else []) (qM G) 0 else []) (qM G) 0 else []) = _
    have key : ∀ x y, x < qM G → y < qM G → gR G em (c * (qM G * qM G) + (x * qM G + y)) = if lA G em 0 c = true then (if crG G em [c] x = true then (if crG G em [c, x] y = true then [[c, x, y]] else []) else []) else [] := fun x y hx hy => by
      obtain ⟨d0, d1, d2⟩ := dg_3 (n := qM G) (c := c) (x := x) (q := y) hy hx (by omega)
      have e0 : dgt G (c * (qM G * qM G) + (x * qM G + y)) 0 = c := by
        unfold dgt
        rw [h]
        exact d0
      have e1 : dgt G (c * (qM G * qM G) + (x * qM G + y)) 1 = x := by
        unfold dgt
        rw [h]
        exact d1
      have e2 : dgt G (c * (qM G * qM G) + (x * qM G + y)) 2 = y := by
        unfold dgt
        rw [h]
        exact d2
      have e4 : okR G em (c * (qM G * qM G) + (x * qM G + y)) = (lA G em 0 c && ((((!decide (x = c)) && lA G em 1 x) && knS G c x) && ((!decide (y = c) && !decide (y = x) && lA G em 2 y) && knS G x y))) := by
        unfold okR
        rw [h, lI3 h, e0, e1, e2]
        have e9 : decide (c = x) = decide (x = c) := decide_eq_decide.mpr ⟨Eq.symm, Eq.symm⟩
        have e8 : decide (c = y) = decide (y = c) := decide_eq_decide.mpr ⟨Eq.symm, Eq.symm⟩
        have e7 : decide (x = y) = decide (y = x) := decide_eq_decide.mpr ⟨Eq.symm, Eq.symm⟩
        rw [e9, e8, e7]
        generalize lA G em 0 c = t0
        generalize lA G em 1 x = t1
        generalize lA G em 2 y = t2
        generalize knS G c x = t3
        generalize knS G x y = t4
        generalize decide (x = c) = t5
        generalize decide (y = c) = t6
        generalize decide (y = x) = t7
        revert t0 t1 t2 t3 t4 t5 t6 t7
        decide
      have e5 : chR G (c * (qM G * qM G) + (x * qM G + y)) = [c, x, y] := by
        unfold chR
        rw [h]
        show [dgt G (c * (qM G * qM G) + (x * qM G + y)) 0, dgt G (c * (qM G * qM G) + (x * qM G + y)) 1, dgt G (c * (qM G * qM G) + (x * qM G + y)) 2] = [c, x, y]
        rw [e0, e1, e2]
      unfold gR
      rw [e4, e5, a1, a2]
      cases lA G em 0 c with
      | false => rfl
      | true =>
        rw [if_pos rfl, Bool.true_and]
        cases (((!decide (x = c)) && lA G em 1 x) && knS G c x) with
        | false => rfl
        | true => rfl
    cases q : lA G em 0 c with
    | true =>
      rw [if_pos rfl]
      refine fl_congr _ _ (fun x _ hx => ?_)
      cases q2 : crG G em [c] x with
      | true =>
        rw [if_pos rfl]
        refine fl_congr _ _ (fun y _ hy => ?_)
        rw [key x y (by omega) (by omega), q, if_pos rfl, q2, if_pos rfl]
      | false =>
        rw [if_neg (by decide)]
        exact (fl_none (fun y _ hy => by rw [key x y (by omega) (by omega), q, if_pos rfl, q2, if_neg (by decide)])).symm
    | false =>
      rw [if_neg (by decide)]
      exact (fl_none (fun x _ hx => fl_none (fun y _ hy => by rw [key x y (by omega) (by omega), q, if_neg (by decide)]))).symm
/-- the law's line -/
def isLi (h : AH) (G : Gr) : Prop := qN G ≤ 3 ∧ ∃ l, h 124 = eI 4 l ∧ l 0 = qN G ∧ ∀ i, i < qN G → l (1 + i) = qNl G i
theorem isLi_fr {h h' : AH} {G : Gr} (hW : isLi h G) (he : h' 124 = h 124) : isLi h' G := by
  obtain ⟨a, l, h1, h2⟩ := hW
  exact ⟨a, l, he.trans h1, h2⟩
theorem sq3 {a : Int} (h1 : -3 ≤ a) (h2 : a ≤ 3) : a * a = 0 ∨ a * a = 1 ∨ a * a = 4 ∨ a * a = 9 := by
  have h : a = -3 ∨ a = -2 ∨ a = -1 ∨ a = 0 ∨ a = 1 ∨ a = 2 ∨ a = 3 := by omega
  rcases h with h | h | h | h | h | h | h <;> subst h <;> decide
set_option maxRecDepth 20000 in
theorem knight_T {d N : Nat} {h : AH} {G : Gr} {Q : AQ} (hZ : isW h G) (hG : sm4 G) (hN : 126 ≤ N) {x y : Nat} {zx zy : Int} (hzx : zx = x) (hzy : zy = y) (hx : x < qM G) (hy : y < qM G) (hQ : ∀ z : Int, z = bI (knS G x y) → Q (.inl (some (vI z))) h N) : T (d + 1) 240 [vI zx, vI zy, vR 122] h N Q := by
  subst hzx
  subst hzy
  obtain ⟨w, m0, hw0, hw1, wL, wE, wS⟩ := id hZ
  have r0 : w (0 : Int).toNat = (qR G : Int) := hw0
  have r1 : w (1 : Int).toNat = (qC G : Int) := hw1
  have hm16 := sm4_m hG
  obtain ⟨hO, hR4, hC4⟩ := id hG
  obtain ⟨hm4, hm36⟩ := hO.m
  obtain ⟨⟨hr2, hr6⟩, ⟨hc2, hc6⟩, gL, gB, gW, gWn, gWl, gN, gNl⟩ := id hO
  have hdx : x / qC G < qR G := (Nat.div_lt_iff_lt_mul (show 0 < qC G by omega)).mpr hx
  have hdy : y / qC G < qR G := (Nat.div_lt_iff_lt_mul (show 0 < qC G by omega)).mpr hy
  have hmx := Nat.mod_lt x (show 0 < qC G by omega)
  have hmy := Nat.mod_lt y (show 0 < qC G by omega)
  have hq1 : (x : Int) / (qC G : Int) = ((x / qC G : Nat) : Int) := rfl
  have hq2 : (y : Int) / (qC G : Int) = ((y / qC G : Nat) : Int) := rfl
  have hq3 : (x : Int) % (qC G : Int) = ((x % qC G : Nat) : Int) := rfl
  have hq4 : (y : Int) % (qC G : Int) = ((y % qC G : Nat) : Int) := rfl
  refine T_body (I := mi_L_knight) (lv := [_, _, _, _, _]) rfl (Nat.le_of_ble_eq_true rfl) rfl ?_
  refine R_iload_n rfl rfl ?_
  refine R_aload_n rfl rfl ?_
  refine R_iconst rfl ?_
  refine R_iaload rfl (Or.inl (by omega)) m0 ⟨by omega, by omega, by omega⟩ ?_
  rw [r1]
  refine R_idiv rfl ⟨by omega, by omega, by omega, by omega⟩ ?_
  rw [hq1]
  refine R_iload_n rfl rfl ?_
  refine R_aload_n rfl rfl ?_
  refine R_iconst rfl ?_
  refine R_iaload rfl (Or.inl (by omega)) m0 ⟨by omega, by omega, by omega⟩ ?_
  rw [r1]
  refine R_idiv rfl ⟨by omega, by omega, by omega, by omega⟩ ?_
  rw [hq2]
  refine R_isub rfl ?_
  refine R_istore_n (lv' := [_, _, _, _, _]) rfl rfl ?_
  refine R_iload_n rfl rfl ?_
  refine R_aload_n rfl rfl ?_
  refine R_iconst rfl ?_
  refine R_iaload rfl (Or.inl (by omega)) m0 ⟨by omega, by omega, by omega⟩ ?_
  rw [r1]
  refine R_irem rfl ⟨by omega, by omega, by omega, by omega⟩ ?_
  rw [hq3]
  refine R_iload_n rfl rfl ?_
  refine R_aload_n rfl rfl ?_
  refine R_iconst rfl ?_
  refine R_iaload rfl (Or.inl (by omega)) m0 ⟨by omega, by omega, by omega⟩ ?_
  rw [r1]
  refine R_irem rfl ⟨by omega, by omega, by omega, by omega⟩ ?_
  rw [hq4]
  refine R_isub rfl ?_
  refine R_istore (lv' := [_, _, _, _, _]) rfl rfl ?_
  have hkn : knS G x y = decide ((((x / qC G : Nat) : Int) - ((y / qC G : Nat) : Int)) * (((x / qC G : Nat) : Int) - ((y / qC G : Nat) : Int)) + (((x % qC G : Nat) : Int) - ((y % qC G : Nat) : Int)) * (((x % qC G : Nat) : Int) - ((y % qC G : Nat) : Int)) = 5) := rfl
  have hR : -3 ≤ ((x / qC G : Nat) : Int) - ((y / qC G : Nat) : Int) ∧ ((x / qC G : Nat) : Int) - ((y / qC G : Nat) : Int) ≤ 3 := by
    have h1 := Int.natCast_nonneg (x / qC G)
    have h2 := Int.natCast_nonneg (y / qC G)
    omega
  have hC : -3 ≤ ((x % qC G : Nat) : Int) - ((y % qC G : Nat) : Int) ∧ ((x % qC G : Nat) : Int) - ((y % qC G : Nat) : Int) ≤ 3 := by omega
  generalize ((x / qC G : Nat) : Int) - ((y / qC G : Nat) : Int) = R at *
  generalize ((x % qC G : Nat) : Int) - ((y % qC G : Nat) : Int) = C at *
  have hsR := sq3 hR.1 hR.2
  have hsC := sq3 hC.1 hC.2
  refine R_iload_n rfl rfl ?_
  refine R_iload_n rfl rfl ?_
  refine R_imul rfl ?_
  refine R_iconst rfl ?_
  refine R_icmpne rfl ⟨by omega, by omega⟩ ⟨by decide, by decide⟩ (fun c29 => ?_) (fun c29 => ?_)
  · refine R_iload_n rfl rfl ?_
    refine R_iload_n rfl rfl ?_
    refine R_imul rfl ?_
    refine R_iconst rfl ?_
    refine R_icmpne rfl ⟨by omega, by omega⟩ ⟨by decide, by decide⟩ (fun c45 => ?_) (fun c45 => ?_)
    · refine R_iconst rfl ?_
      exact R_ireturn rfl (fun _ => by omega) (Nat.zero_le _) (Nat.zero_le _) (hQ _ (by rw [hkn]; first | (rw [decide_eq_true (by omega)]; rfl) | (rw [decide_eq_false (by omega)]; rfl)))
    · refine R_iload rfl rfl ?_
      refine R_iload rfl rfl ?_
      refine R_imul rfl ?_
      refine R_iconst rfl ?_
      refine R_icmpne rfl ⟨by omega, by omega⟩ ⟨by decide, by decide⟩ (fun c54 => ?_) (fun c54 => ?_)
      · refine R_iconst rfl ?_
        exact R_ireturn rfl (fun _ => by omega) (Nat.zero_le _) (Nat.zero_le _) (hQ _ (by rw [hkn]; first | (rw [decide_eq_true (by omega)]; rfl) | (rw [decide_eq_false (by omega)]; rfl)))
      · refine R_iconst rfl ?_
        refine R_goto rfl ?_
        exact R_ireturn rfl (fun _ => by omega) (Nat.zero_le _) (Nat.zero_le _) (hQ _ (by rw [hkn]; first | (rw [decide_eq_true (by omega)]; rfl) | (rw [decide_eq_false (by omega)]; rfl)))
  · refine R_iload rfl rfl ?_
    refine R_iload rfl rfl ?_
    refine R_imul rfl ?_
    refine R_iconst rfl ?_
    refine R_icmpeq rfl ⟨by omega, by omega⟩ ⟨by decide, by decide⟩ (fun c38 => ?_) (fun c38 => ?_)
    · refine R_iconst rfl ?_
      refine R_goto rfl ?_
      exact R_ireturn rfl (fun _ => by omega) (Nat.zero_le _) (Nat.zero_le _) (hQ _ (by rw [hkn]; first | (rw [decide_eq_true (by omega)]; rfl) | (rw [decide_eq_false (by omega)]; rfl)))
    · refine R_iload_n rfl rfl ?_
      refine R_iload_n rfl rfl ?_
      refine R_imul rfl ?_
      refine R_iconst rfl ?_
      refine R_icmpne rfl ⟨by omega, by omega⟩ ⟨by decide, by decide⟩ (fun c45 => ?_) (fun c45 => ?_)
      · refine R_iconst rfl ?_
        exact R_ireturn rfl (fun _ => by omega) (Nat.zero_le _) (Nat.zero_le _) (hQ _ (by rw [hkn]; first | (rw [decide_eq_true (by omega)]; rfl) | (rw [decide_eq_false (by omega)]; rfl)))
      · refine R_iload rfl rfl ?_
        refine R_iload rfl rfl ?_
        refine R_imul rfl ?_
        refine R_iconst rfl ?_
        refine R_icmpne rfl ⟨by omega, by omega⟩ ⟨by decide, by decide⟩ (fun c54 => ?_) (fun c54 => ?_)
        · refine R_iconst rfl ?_
          exact R_ireturn rfl (fun _ => by omega) (Nat.zero_le _) (Nat.zero_le _) (hQ _ (by rw [hkn]; first | (rw [decide_eq_true (by omega)]; rfl) | (rw [decide_eq_false (by omega)]; rfl)))
        · refine R_iconst rfl ?_
          refine R_goto rfl ?_
          exact R_ireturn rfl (fun _ => by omega) (Nat.zero_le _) (Nat.zero_le _) (hQ _ (by rw [hkn]; first | (rw [decide_eq_true (by omega)]; rfl) | (rw [decide_eq_false (by omega)]; rfl)))
set_option maxRecDepth 20000 in
theorem rs1 {d N a : Nat} {h : AH} {G : Gr} {Q : AQ} {em : Bool} {f : Nat → Int} (hZ : isW h G) (hL : isLi h G) (hG : sm4 G) (haN : 126 ≤ a ∧ a < N) (mo : h a = eI 4 f) {i rest : Nat} {zs zm zo : Int} {b : Bool} (hN : 127 ≤ N) (hi : i < qN G) (hr : rest < 5000) (k : ∀ h1 : AH, h1 a = eI 4 (va_up f ((i : Int)).toNat ((rest % qM G : Nat) : Int)) → (∀ j, j ≠ a → h1 j = h j) → Run mi_L_readings (T (d + 3)) Q 121 [some (vI (bI em)), some (vR 122), some (vR 124), some (vR 125), some (vI ((qM G : Nat) : Int)), some (vI zs), some (vR a), some (vI zm), some (vI zo), some (vI ((rest / qM G : Nat) : Int)), some (vI (bI b)), some (vI (i : Int)), some (vI (qL G (rest % qM G))), none] [] h1 N 1 4) : Run mi_L_readings (T (d + 3)) Q 93 [some (vI (bI em)), some (vR 122), some (vR 124), some (vR 125), some (vI ((qM G : Nat) : Int)), some (vI zs), some (vR a), some (vI zm), some (vI zo), some (vI (rest : Int)), some (vI (bI b)), some (vI (i : Int)), none, none] [] h N 1 4 := by
  obtain ⟨w, m0, hw0, hw1, wL, wE, wS⟩ := id hZ
  have r0 : w (0 : Int).toNat = (qR G : Int) := hw0
  have r1 : w (1 : Int).toNat = (qC G : Int) := hw1
  have hm16 := sm4_m hG
  obtain ⟨hO, hR4, hC4⟩ := id hG
  obtain ⟨hm4, hm36⟩ := hO.m
  obtain ⟨⟨hr2, hr6⟩, ⟨hc2, hc6⟩, gL, gB, gW, gWn, gWl, gN, gNl⟩ := id hO
  obtain ⟨hn3, l, ml, hl0, hll⟩ := id hL
  have q0 : l (0 : Int).toNat = (qN G : Int) := hl0
  obtain ⟨haN1, haN2⟩ := id haN
  have hrm : (rest : Int) % ((qM G : Nat) : Int) = ((rest % qM G : Nat) : Int) := rfl
  have hrd : (rest : Int) / ((qM G : Nat) : Int) = ((rest / qM G : Nat) : Int) := rfl
  have hml := Nat.mod_lt rest (show 0 < qM G by omega)
  have hlt : w ((2 : Int) + ((rest % qM G : Nat) : Int)).toNat = qL G (rest % qM G) := by
    rw [show ((2 : Int) + ((rest % qM G : Nat) : Int)).toNat = 2 + rest % qM G by omega]
    exact wL _ hml
  refine R_aload rfl rfl ?_
  refine R_iload rfl rfl ?_
  refine R_iload rfl rfl ?_
  refine R_iload rfl rfl ?_
  refine R_irem rfl ⟨by omega, by omega, by omega, by omega⟩ ?_
  rw [hrm]
  refine R_iastore rfl (by omega) mo ⟨by omega, by omega, by omega⟩ ?_
  refine R_iload rfl rfl ?_
  refine R_iload rfl rfl ?_
  refine R_idiv rfl ⟨by omega, by omega, by omega, by omega⟩ ?_
  rw [hrd]
  refine R_istore (lv' := [_, _, _, _, _, _, _, _, _, _, _, _, _, _]) rfl rfl ?_
  refine R_aload_n rfl rfl ?_
  refine R_iconst rfl ?_
  refine R_aload rfl rfl ?_
  refine R_iload rfl rfl ?_
  refine R_iaload rfl (Or.inl (by omega)) (va_up_self _ _ _) ⟨by omega, by omega, by omega⟩ ?_
  rw [va_up_self]
  refine R_iadd rfl ?_
  refine R_iaload rfl (Or.inl (by omega)) ((va_up_ne _ _ (by first | exact kne rfl | exact kz | exact kz.symm | omega)).trans m0) ⟨by omega, by omega, by omega⟩ ?_
  rw [hlt]
  refine R_istore (lv' := [_, _, _, _, _, _, _, _, _, _, _, _, _, _]) rfl rfl ?_
  exact k _ (va_up_self _ _ _) (fun j hj => va_up_ne _ _ hj)
set_option maxRecDepth 20000 in
theorem rs2_true {d N a : Nat} {h : AH} {G : Gr} {Q : AQ} {em : Bool} {f : Nat → Int} (hZ : isW h G) (hL : isLi h G) (hG : sm4 G) (haN : 126 ≤ a ∧ a < N) (mo : h a = eI 4 f) {i x rest : Nat} {zs zm zo : Int} (hN : 127 ≤ N) (hi : i < qN G) (hx : x < qM G) (hfx0 : f i = (x : Int)) (k : Run mi_L_readings (T (d + 3)) Q 166 [some (vI (bI em)), some (vR 122), some (vR 124), some (vR 125), some (vI ((qM G : Nat) : Int)), some (vI zs), some (vR a), some (vI zm), some (vI zo), some (vI (rest : Int)), some (vI (bI (true && lA G em i x))), some (vI (i : Int)), some (vI (qL G x)), none] [] h N 1 4) : Run mi_L_readings (T (d + 3)) Q 121 [some (vI (bI em)), some (vR 122), some (vR 124), some (vR 125), some (vI ((qM G : Nat) : Int)), some (vI zs), some (vR a), some (vI zm), some (vI zo), some (vI (rest : Int)), some (vI (bI true)), some (vI (i : Int)), some (vI (qL G x)), none] [] h N 1 4 := by
  obtain ⟨w, m0, hw0, hw1, wL, wE, wS⟩ := id hZ
  have r0 : w (0 : Int).toNat = (qR G : Int) := hw0
  have r1 : w (1 : Int).toNat = (qC G : Int) := hw1
  have hm16 := sm4_m hG
  obtain ⟨hO, hR4, hC4⟩ := id hG
  obtain ⟨hm4, hm36⟩ := hO.m
  obtain ⟨⟨hr2, hr6⟩, ⟨hc2, hc6⟩, gL, gB, gW, gWn, gWl, gN, gNl⟩ := id hO
  obtain ⟨hn3, l, ml, hl0, hll⟩ := id hL
  have q0 : l (0 : Int).toNat = (qN G : Int) := hl0
  obtain ⟨haN1, haN2⟩ := id haN
  have hfx : f ((i : Int)).toNat = (x : Int) := hfx0
  have hli : l ((1 : Int) + (i : Int)).toNat = qNl G i := by
    rw [show ((1 : Int) + (i : Int)).toNat = 1 + i by omega]
    exact hll i hi
  have hNl := gNl i hi
  obtain ⟨hNl1, hNl2⟩ := hNl
  have hLx : 0 ≤ qL G x ∧ qL G x ≤ 122 := by
    rcases gL x hx with q | ⟨q1, q2⟩ <;> omega
  have hem1 := bI01 em
  refine R_iload rfl rfl ?_
  refine R_ifeq rfl ⟨by decide, by decide⟩ (fun c0 => absurd c0 (by decide)) (fun _ => ?_)
  refine R_aload rfl rfl ?_
  refine R_iload rfl rfl ?_
  refine R_iaload rfl (Or.inl (by omega)) mo ⟨by omega, by omega, by omega⟩ ?_
  rw [hfx]
  refine R_aload_n rfl rfl ?_
  refine R_scall rfl rfl ⟨Nat.le_of_ble_eq_true rfl, Nat.le_of_ble_eq_true rfl, Nat.le_of_ble_eq_true rfl, Nat.le_of_ble_eq_true rfl⟩ (in_T (c := x) hZ hG (by omega) rfl hx (fun z132 hz132 => aRes_i (rest := []) ?_))
  have hen := enC_2 (G := G) (x := x)
  refine R_iconst rfl ?_
  refine R_icmpne rfl ⟨by omega, by omega⟩ ⟨by decide, by decide⟩ (fun c136 => ?_) (fun c136 => ?_)
  · have hv : lA G em i x = false := by
      unfold lA
      rw [decide_eq_false (by omega)]
      rfl
    rw [hv] at k
    refine R_iconst rfl ?_
    refine R_istore (lv' := [_, _, _, _, _, _, _, _, _, _, _, _, _, _]) rfl rfl ?_
    exact k
  · refine R_iload rfl rfl ?_
    refine R_aload_n rfl rfl ?_
    refine R_iconst rfl ?_
    refine R_iload rfl rfl ?_
    refine R_iadd rfl ?_
    refine R_iaload rfl (Or.inl (by omega)) ml ⟨by omega, by omega, by omega⟩ ?_
    rw [hli]
    refine R_icmpeq rfl ⟨by omega, by omega⟩ ⟨by omega, by omega⟩ (fun c147 => ?_) (fun c147 => ?_)
    · have hv : lA G em i x = true := by
        unfold lA
        rw [decide_eq_true (by omega), Bool.true_and]
        rw [if_neg (by omega), decide_eq_true c147]
      rw [hv] at k
      refine R_iconst rfl ?_
      refine R_goto rfl ?_
      refine R_istore (lv' := [_, _, _, _, _, _, _, _, _, _, _, _, _, _]) rfl rfl ?_
      exact k
    · refine R_iload_n rfl rfl ?_
      refine R_ifeq rfl ⟨by omega, by omega⟩ (fun c151 => ?_) (fun c151 => ?_)
      · have hem : em = false := bI_f rfl c151
        have hv : lA G em i x = false := by
          unfold lA
          rw [decide_eq_true (show enC G x = 1 by omega), Bool.true_and, hem]
          by_cases q : qL G x = 0
          · rw [if_pos q]
          · rw [if_neg q, decide_eq_false c147]
        rw [hv] at k
        refine R_iconst rfl ?_
        refine R_istore (lv' := [_, _, _, _, _, _, _, _, _, _, _, _, _, _]) rfl rfl ?_
        exact k
      · refine R_iload rfl rfl ?_
        refine R_ifne rfl ⟨by omega, by omega⟩ (fun c156 => ?_) (fun c156 => ?_)
        · have hv : lA G em i x = false := by
            unfold lA
            rw [decide_eq_true (show enC G x = 1 by omega), Bool.true_and, if_neg c156]
            exact decide_eq_false c147
          rw [hv] at k
          refine R_iconst rfl ?_
          refine R_istore (lv' := [_, _, _, _, _, _, _, _, _, _, _, _, _, _]) rfl rfl ?_
          exact k
        · have hem : em = true := bI_t rfl c151
          have hv : lA G em i x = true := by
            unfold lA
            rw [decide_eq_true (by omega), Bool.true_and]
            rw [if_pos (by omega), hem]
          rw [hv] at k
          refine R_iconst rfl ?_
          refine R_goto rfl ?_
          refine R_istore (lv' := [_, _, _, _, _, _, _, _, _, _, _, _, _, _]) rfl rfl ?_
          exact k
set_option maxRecDepth 20000 in
theorem rs2_false {d N a : Nat} {h : AH} {G : Gr} {Q : AQ} {em : Bool} {f : Nat → Int} (hZ : isW h G) (hL : isLi h G) (hG : sm4 G) (haN : 126 ≤ a ∧ a < N) (mo : h a = eI 4 f) {i x rest : Nat} {zs zm zo : Int} (hN : 127 ≤ N) (hi : i < qN G) (hx : x < qM G) (hfx0 : f i = (x : Int)) (k : Run mi_L_readings (T (d + 3)) Q 166 [some (vI (bI em)), some (vR 122), some (vR 124), some (vR 125), some (vI ((qM G : Nat) : Int)), some (vI zs), some (vR a), some (vI zm), some (vI zo), some (vI (rest : Int)), some (vI (bI (false && lA G em i x))), some (vI (i : Int)), some (vI (qL G x)), none] [] h N 1 4) : Run mi_L_readings (T (d + 3)) Q 121 [some (vI (bI em)), some (vR 122), some (vR 124), some (vR 125), some (vI ((qM G : Nat) : Int)), some (vI zs), some (vR a), some (vI zm), some (vI zo), some (vI (rest : Int)), some (vI (bI false)), some (vI (i : Int)), some (vI (qL G x)), none] [] h N 1 4 := by
  obtain ⟨w, m0, hw0, hw1, wL, wE, wS⟩ := id hZ
  have r0 : w (0 : Int).toNat = (qR G : Int) := hw0
  have r1 : w (1 : Int).toNat = (qC G : Int) := hw1
  have hm16 := sm4_m hG
  obtain ⟨hO, hR4, hC4⟩ := id hG
  obtain ⟨hm4, hm36⟩ := hO.m
  obtain ⟨⟨hr2, hr6⟩, ⟨hc2, hc6⟩, gL, gB, gW, gWn, gWl, gN, gNl⟩ := id hO
  obtain ⟨hn3, l, ml, hl0, hll⟩ := id hL
  have q0 : l (0 : Int).toNat = (qN G : Int) := hl0
  obtain ⟨haN1, haN2⟩ := id haN
  have hfx : f ((i : Int)).toNat = (x : Int) := hfx0
  have hli : l ((1 : Int) + (i : Int)).toNat = qNl G i := by
    rw [show ((1 : Int) + (i : Int)).toNat = 1 + i by omega]
    exact hll i hi
  have hNl := gNl i hi
  obtain ⟨hNl1, hNl2⟩ := hNl
  have hLx : 0 ≤ qL G x ∧ qL G x ≤ 122 := by
    rcases gL x hx with q | ⟨q1, q2⟩ <;> omega
  have hem1 := bI01 em
  refine R_iload rfl rfl ?_
  refine R_ifeq rfl ⟨by decide, by decide⟩ (fun _ => ?_) (fun c0 => absurd c0 (by decide))
  refine R_iconst rfl ?_
  refine R_istore (lv' := [_, _, _, _, _, _, _, _, _, _, _, _, _, _]) rfl rfl ?_
  exact k
set_option maxRecDepth 20000 in
theorem rs2 {d N a : Nat} {h : AH} {G : Gr} {Q : AQ} {em : Bool} {f : Nat → Int} (hZ : isW h G) (hL : isLi h G) (hG : sm4 G) (haN : 126 ≤ a ∧ a < N) (mo : h a = eI 4 f) {b : Bool} {i x rest : Nat} {zs zm zo : Int} (hN : 127 ≤ N) (hi : i < qN G) (hx : x < qM G) (hfx0 : f i = (x : Int)) (k : Run mi_L_readings (T (d + 3)) Q 166 [some (vI (bI em)), some (vR 122), some (vR 124), some (vR 125), some (vI ((qM G : Nat) : Int)), some (vI zs), some (vR a), some (vI zm), some (vI zo), some (vI (rest : Int)), some (vI (bI (b && lA G em i x))), some (vI (i : Int)), some (vI (qL G x)), none] [] h N 1 4) : Run mi_L_readings (T (d + 3)) Q 121 [some (vI (bI em)), some (vR 122), some (vR 124), some (vR 125), some (vI ((qM G : Nat) : Int)), some (vI zs), some (vR a), some (vI zm), some (vI zo), some (vI (rest : Int)), some (vI (bI b)), some (vI (i : Int)), some (vI (qL G x)), none] [] h N 1 4 := by
  cases b
  · exact rs2_false hZ hL hG haN mo hN hi hx hfx0 k
  · exact rs2_true hZ hL hG haN mo hN hi hx hfx0 k
set_option maxRecDepth 20000 in
theorem rs3_true {d N a : Nat} {h : AH} {G : Gr} {Q : AQ} {em : Bool} {f : Nat → Int} (hZ : isW h G) (hL : isLi h G) (hG : sm4 G) (haN : 126 ≤ a ∧ a < N) (mo : h a = eI 4 f) {D : Nat → Nat} {i : Nat} {zs zm zo zr zl : Int} (hN : 127 ≤ N) (hD : ∀ j, i ≤ j → j < qN G → D j < qM G ∧ f j = (D j : Int)) {j : Nat} (hij : i < j) (hj : j < qN G) (k : Run mi_L_readings (T (d + 3)) Q 205 [some (vI (bI em)), some (vR 122), some (vR 124), some (vR 125), some (vI ((qM G : Nat) : Int)), some (vI zs), some (vR a), some (vI zm), some (vI zo), some (vI zr), some (vI (bI (true && pNe D i j))), some (vI (i : Int)), some (vI zl), some (vI (j : Int))] [] h N 1 4) : Run mi_L_readings (T (d + 3)) Q 180 [some (vI (bI em)), some (vR 122), some (vR 124), some (vR 125), some (vI ((qM G : Nat) : Int)), some (vI zs), some (vR a), some (vI zm), some (vI zo), some (vI zr), some (vI (bI true)), some (vI (i : Int)), some (vI zl), some (vI (j : Int))] [] h N 1 4 := by
  obtain ⟨w, m0, hw0, hw1, wL, wE, wS⟩ := id hZ
  have r0 : w (0 : Int).toNat = (qR G : Int) := hw0
  have r1 : w (1 : Int).toNat = (qC G : Int) := hw1
  have hm16 := sm4_m hG
  obtain ⟨hO, hR4, hC4⟩ := id hG
  obtain ⟨hm4, hm36⟩ := hO.m
  obtain ⟨⟨hr2, hr6⟩, ⟨hc2, hc6⟩, gL, gB, gW, gWn, gWl, gN, gNl⟩ := id hO
  obtain ⟨hn3, l, ml, hl0, hll⟩ := id hL
  have q0 : l (0 : Int).toNat = (qN G : Int) := hl0
  obtain ⟨haN1, haN2⟩ := id haN
  obtain ⟨hd1, hd2⟩ := hD i (Nat.le_refl _) (by omega)
  obtain ⟨hd3, hd4⟩ := hD j (by omega) hj
  have hfi : f ((i : Int)).toNat = (D i : Int) := hd2
  have hfj : f ((j : Int)).toNat = (D j : Int) := hd4
  refine R_iload rfl rfl ?_
  refine R_ifeq rfl ⟨by decide, by decide⟩ (fun c0 => absurd c0 (by decide)) (fun _ => ?_)
  refine R_aload rfl rfl ?_
  refine R_iload rfl rfl ?_
  refine R_iaload rfl (Or.inl (by omega)) mo ⟨by omega, by omega, by omega⟩ ?_
  refine R_aload rfl rfl ?_
  refine R_iload rfl rfl ?_
  refine R_iaload rfl (Or.inl (by omega)) mo ⟨by omega, by omega, by omega⟩ ?_
  refine R_icmpeq rfl ⟨by omega, by omega⟩ ⟨by omega, by omega⟩ (fun c195 => ?_) (fun c195 => ?_)
  · have hv : pNe D i j = false := by
      unfold pNe
      rw [decide_eq_true (by omega)]
      rfl
    rw [hv] at k
    refine R_iconst rfl ?_
    refine R_istore (lv' := [_, _, _, _, _, _, _, _, _, _, _, _, _, _]) rfl rfl ?_
    exact k
  · have hv : pNe D i j = true := by
      unfold pNe
      rw [decide_eq_false (by omega)]
      rfl
    rw [hv] at k
    refine R_iconst rfl ?_
    refine R_goto rfl ?_
    refine R_istore (lv' := [_, _, _, _, _, _, _, _, _, _, _, _, _, _]) rfl rfl ?_
    exact k
set_option maxRecDepth 20000 in
theorem rs3_false {d N a : Nat} {h : AH} {G : Gr} {Q : AQ} {em : Bool} {f : Nat → Int} (hZ : isW h G) (hL : isLi h G) (hG : sm4 G) (haN : 126 ≤ a ∧ a < N) (mo : h a = eI 4 f) {D : Nat → Nat} {i : Nat} {zs zm zo zr zl : Int} (hN : 127 ≤ N) (hD : ∀ j, i ≤ j → j < qN G → D j < qM G ∧ f j = (D j : Int)) {j : Nat} (hij : i < j) (hj : j < qN G) (k : Run mi_L_readings (T (d + 3)) Q 205 [some (vI (bI em)), some (vR 122), some (vR 124), some (vR 125), some (vI ((qM G : Nat) : Int)), some (vI zs), some (vR a), some (vI zm), some (vI zo), some (vI zr), some (vI (bI (false && pNe D i j))), some (vI (i : Int)), some (vI zl), some (vI (j : Int))] [] h N 1 4) : Run mi_L_readings (T (d + 3)) Q 180 [some (vI (bI em)), some (vR 122), some (vR 124), some (vR 125), some (vI ((qM G : Nat) : Int)), some (vI zs), some (vR a), some (vI zm), some (vI zo), some (vI zr), some (vI (bI false)), some (vI (i : Int)), some (vI zl), some (vI (j : Int))] [] h N 1 4 := by
  obtain ⟨w, m0, hw0, hw1, wL, wE, wS⟩ := id hZ
  have r0 : w (0 : Int).toNat = (qR G : Int) := hw0
  have r1 : w (1 : Int).toNat = (qC G : Int) := hw1
  have hm16 := sm4_m hG
  obtain ⟨hO, hR4, hC4⟩ := id hG
  obtain ⟨hm4, hm36⟩ := hO.m
  obtain ⟨⟨hr2, hr6⟩, ⟨hc2, hc6⟩, gL, gB, gW, gWn, gWl, gN, gNl⟩ := id hO
  obtain ⟨hn3, l, ml, hl0, hll⟩ := id hL
  have q0 : l (0 : Int).toNat = (qN G : Int) := hl0
  obtain ⟨haN1, haN2⟩ := id haN
  obtain ⟨hd1, hd2⟩ := hD i (Nat.le_refl _) (by omega)
  obtain ⟨hd3, hd4⟩ := hD j (by omega) hj
  have hfi : f ((i : Int)).toNat = (D i : Int) := hd2
  have hfj : f ((j : Int)).toNat = (D j : Int) := hd4
  refine R_iload rfl rfl ?_
  refine R_ifeq rfl ⟨by decide, by decide⟩ (fun _ => ?_) (fun c0 => absurd c0 (by decide))
  refine R_iconst rfl ?_
  refine R_istore (lv' := [_, _, _, _, _, _, _, _, _, _, _, _, _, _]) rfl rfl ?_
  exact k
set_option maxRecDepth 20000 in
theorem rs3 {d N a : Nat} {h : AH} {G : Gr} {Q : AQ} {em : Bool} {f : Nat → Int} (hZ : isW h G) (hL : isLi h G) (hG : sm4 G) (haN : 126 ≤ a ∧ a < N) (mo : h a = eI 4 f) {b : Bool} {D : Nat → Nat} {i : Nat} {zs zm zo zr zl : Int} (hN : 127 ≤ N) (hD : ∀ j, i ≤ j → j < qN G → D j < qM G ∧ f j = (D j : Int)) {j : Nat} (hij : i < j) (hj : j < qN G) (k : Run mi_L_readings (T (d + 3)) Q 205 [some (vI (bI em)), some (vR 122), some (vR 124), some (vR 125), some (vI ((qM G : Nat) : Int)), some (vI zs), some (vR a), some (vI zm), some (vI zo), some (vI zr), some (vI (bI (b && pNe D i j))), some (vI (i : Int)), some (vI zl), some (vI (j : Int))] [] h N 1 4) : Run mi_L_readings (T (d + 3)) Q 180 [some (vI (bI em)), some (vR 122), some (vR 124), some (vR 125), some (vI ((qM G : Nat) : Int)), some (vI zs), some (vR a), some (vI zm), some (vI zo), some (vI zr), some (vI (bI b)), some (vI (i : Int)), some (vI zl), some (vI (j : Int))] [] h N 1 4 := by
  cases b
  · exact rs3_false hZ hL hG haN mo hN hD hij hj k
  · exact rs3_true hZ hL hG haN mo hN hD hij hj k
set_option maxRecDepth 20000 in
theorem rs3_loop {d N a : Nat} {h : AH} {G : Gr} {Q : AQ} {em : Bool} {f : Nat → Int} (hZ : isW h G) (hL : isLi h G) (hG : sm4 G) (haN : 126 ≤ a ∧ a < N) (mo : h a = eI 4 f) {D : Nat → Nat} {i : Nat} {zs zm zo zr zl : Int} (hN : 127 ≤ N) (hD : ∀ j, i ≤ j → j < qN G → D j < qM G ∧ f j = (D j : Int)) : ∀ (r j : Nat) (b : Bool) (zj : Int), j + r = qN G → i < j → zj = j → (∀ (b1 : Bool) (zj1 : Int), b1 = (b && alF (pNe D i) r j) → Run mi_L_readings (T (d + 3)) Q 211 [some (vI (bI em)), some (vR 122), some (vR 124), some (vR 125), some (vI ((qM G : Nat) : Int)), some (vI zs), some (vR a), some (vI zm), some (vI zo), some (vI zr), some (vI (bI b1)), some (vI (i : Int)), some (vI zl), some (vI zj1)] [] h N 1 4) → Run mi_L_readings (T (d + 3)) Q 172 [some (vI (bI em)), some (vR 122), some (vR 124), some (vR 125), some (vI ((qM G : Nat) : Int)), some (vI zs), some (vR a), some (vI zm), some (vI zo), some (vI zr), some (vI (bI b)), some (vI (i : Int)), some (vI zl), some (vI zj)] [] h N 1 4 := by
  obtain ⟨w, m0, hw0, hw1, wL, wE, wS⟩ := id hZ
  have r0 : w (0 : Int).toNat = (qR G : Int) := hw0
  have r1 : w (1 : Int).toNat = (qC G : Int) := hw1
  have hm16 := sm4_m hG
  obtain ⟨hO, hR4, hC4⟩ := id hG
  obtain ⟨hm4, hm36⟩ := hO.m
  obtain ⟨⟨hr2, hr6⟩, ⟨hc2, hc6⟩, gL, gB, gW, gWn, gWl, gN, gNl⟩ := id hO
  obtain ⟨hn3, l, ml, hl0, hll⟩ := id hL
  have q0 : l (0 : Int).toNat = (qN G : Int) := hl0
  obtain ⟨haN1, haN2⟩ := id haN
  intro r
  induction r using Nat.strongRecOn with
  | ind r ih =>
  intro j b zj hr hij hzj k
  refine R_iload rfl rfl ?_
  refine R_aload_n rfl rfl ?_
  refine R_iconst rfl ?_
  refine R_iaload rfl (Or.inl (by omega)) ml ⟨by omega, by omega, by omega⟩ ?_
  rw [q0]
  refine R_icmpge rfl ⟨by omega, by omega⟩ ⟨by omega, by omega⟩ (fun c177 => ?_) (fun c177 => ?_)
  · have hr0 : r = 0 := by omega
    subst hr0
    exact k _ _ (by simp only [alF, Bool.and_true])
  · obtain ⟨r, rfl⟩ : ∃ r1, r = r1 + 1 := ⟨r - 1, by omega⟩
    subst hzj
    refine rs3 hZ hL hG haN mo hN hD (j := j) (by omega) (by omega) ?_
    refine R_iinc (lv' := [_, _, _, _, _, _, _, _, _, _, _, _, _, _]) rfl rfl rfl ?_
    refine R_goto rfl ?_
    exact ih r (by omega) (j + 1) _ _ (by omega) (by omega) (by omega) (fun b2 j2 hb2 => k b2 j2 (by rw [hb2]; simp only [alF, Bool.and_assoc]))
set_option maxRecDepth 20000 in
theorem rs4_true {d N a : Nat} {h : AH} {G : Gr} {Q : AQ} {em : Bool} {f : Nat → Int} (hZ : isW h G) (hL : isLi h G) (hG : sm4 G) (haN : 126 ≤ a ∧ a < N) (mo : h a = eI 4 f) {D : Nat → Nat} {i : Nat} {zs zm zo zr zl : Int} (hN : 127 ≤ N) (hD : ∀ j, i ≤ j → j < qN G → D j < qM G ∧ f j = (D j : Int)) {zj : Int} (hi : i < qN G) (k : Run mi_L_readings (T (d + 3)) Q 252 [some (vI (bI em)), some (vR 122), some (vR 124), some (vR 125), some (vI ((qM G : Nat) : Int)), some (vI zs), some (vR a), some (vI zm), some (vI zo), some (vI zr), some (vI (bI (true && (decide (i + 1 = qN G) || knS G (D i) (D (i + 1)))))), some (vI (i : Int)), some (vI zl), some (vI zj)] [] h N 1 4) : Run mi_L_readings (T (d + 3)) Q 211 [some (vI (bI em)), some (vR 122), some (vR 124), some (vR 125), some (vI ((qM G : Nat) : Int)), some (vI zs), some (vR a), some (vI zm), some (vI zo), some (vI zr), some (vI (bI true)), some (vI (i : Int)), some (vI zl), some (vI zj)] [] h N 1 4 := by
  obtain ⟨w, m0, hw0, hw1, wL, wE, wS⟩ := id hZ
  have r0 : w (0 : Int).toNat = (qR G : Int) := hw0
  have r1 : w (1 : Int).toNat = (qC G : Int) := hw1
  have hm16 := sm4_m hG
  obtain ⟨hO, hR4, hC4⟩ := id hG
  obtain ⟨hm4, hm36⟩ := hO.m
  obtain ⟨⟨hr2, hr6⟩, ⟨hc2, hc6⟩, gL, gB, gW, gWn, gWl, gN, gNl⟩ := id hO
  obtain ⟨hn3, l, ml, hl0, hll⟩ := id hL
  have q0 : l (0 : Int).toNat = (qN G : Int) := hl0
  obtain ⟨haN1, haN2⟩ := id haN
  obtain ⟨hd1, hd2⟩ := hD i (Nat.le_refl _) hi
  have hfi : f ((i : Int)).toNat = (D i : Int) := hd2
  refine R_iload rfl rfl ?_
  refine R_ifeq rfl ⟨by decide, by decide⟩ (fun c0 => absurd c0 (by decide)) (fun _ => ?_)
  refine R_iload rfl rfl ?_
  refine R_iconst rfl ?_
  refine R_iadd rfl ?_
  refine R_aload_n rfl rfl ?_
  refine R_iconst rfl ?_
  refine R_iaload rfl (Or.inl (by omega)) ml ⟨by omega, by omega, by omega⟩ ?_
  rw [q0]
  refine R_icmpeq rfl ⟨by omega, by omega⟩ ⟨by omega, by omega⟩ (fun c223 => ?_) (fun c223 => ?_)
  · have hv : (decide (i + 1 = qN G) || knS G (D i) (D (i + 1))) = true := by
      rw [decide_eq_true (by omega)]
      rfl
    rw [hv] at k
    refine R_iconst rfl ?_
    refine R_goto rfl ?_
    refine R_istore (lv' := [_, _, _, _, _, _, _, _, _, _, _, _, _, _]) rfl rfl ?_
    exact k
  · refine R_aload rfl rfl ?_
    refine R_iload rfl rfl ?_
    refine R_iaload rfl (Or.inl (by omega)) mo ⟨by omega, by omega, by omega⟩ ?_
    rw [hfi]
    refine R_aload rfl rfl ?_
    refine R_iload rfl rfl ?_
    refine R_iconst rfl ?_
    refine R_iadd rfl ?_
    refine R_iaload rfl (Or.inl (by omega)) mo ⟨by omega, by omega, by omega⟩ ?_
    rw [show f ((i : Int) + 1).toNat = (D (i + 1) : Int) from (congrArg f (show ((i : Int) + 1).toNat = i + 1 by omega)).trans (hD (i + 1) (by omega) (by omega)).2]
    refine R_aload_n rfl rfl ?_
    refine R_scall rfl rfl ⟨Nat.le_of_ble_eq_true rfl, Nat.le_of_ble_eq_true rfl, Nat.le_of_ble_eq_true rfl, Nat.le_of_ble_eq_true rfl⟩ (knight_T (x := D i) (y := D (i + 1)) hZ hG (by omega) rfl rfl hd1 (hD (i + 1) (by omega) (by omega)).1 (fun z239 hz239 => aRes_i (rest := []) ?_))
    have hkb := bI01 (knS G (D i) (D (i + 1)))
    rw [← hz239] at hkb
    refine R_ifeq rfl ⟨by omega, by omega⟩ (fun c242 => ?_) (fun c242 => ?_)
    · have hv : (decide (i + 1 = qN G) || knS G (D i) (D (i + 1))) = false := by
        rw [decide_eq_false (by omega), bI_f hz239 c242]
        rfl
      rw [hv] at k
      refine R_iconst rfl ?_
      refine R_istore (lv' := [_, _, _, _, _, _, _, _, _, _, _, _, _, _]) rfl rfl ?_
      exact k
    · have hv : (decide (i + 1 = qN G) || knS G (D i) (D (i + 1))) = true := by
        rw [bI_t hz239 c242, Bool.or_true]
      rw [hv] at k
      refine R_iconst rfl ?_
      refine R_goto rfl ?_
      refine R_istore (lv' := [_, _, _, _, _, _, _, _, _, _, _, _, _, _]) rfl rfl ?_
      exact k
set_option maxRecDepth 20000 in
theorem rs4_false {d N a : Nat} {h : AH} {G : Gr} {Q : AQ} {em : Bool} {f : Nat → Int} (hZ : isW h G) (hL : isLi h G) (hG : sm4 G) (haN : 126 ≤ a ∧ a < N) (mo : h a = eI 4 f) {D : Nat → Nat} {i : Nat} {zs zm zo zr zl : Int} (hN : 127 ≤ N) (hD : ∀ j, i ≤ j → j < qN G → D j < qM G ∧ f j = (D j : Int)) {zj : Int} (hi : i < qN G) (k : Run mi_L_readings (T (d + 3)) Q 252 [some (vI (bI em)), some (vR 122), some (vR 124), some (vR 125), some (vI ((qM G : Nat) : Int)), some (vI zs), some (vR a), some (vI zm), some (vI zo), some (vI zr), some (vI (bI (false && (decide (i + 1 = qN G) || knS G (D i) (D (i + 1)))))), some (vI (i : Int)), some (vI zl), some (vI zj)] [] h N 1 4) : Run mi_L_readings (T (d + 3)) Q 211 [some (vI (bI em)), some (vR 122), some (vR 124), some (vR 125), some (vI ((qM G : Nat) : Int)), some (vI zs), some (vR a), some (vI zm), some (vI zo), some (vI zr), some (vI (bI false)), some (vI (i : Int)), some (vI zl), some (vI zj)] [] h N 1 4 := by
  obtain ⟨w, m0, hw0, hw1, wL, wE, wS⟩ := id hZ
  have r0 : w (0 : Int).toNat = (qR G : Int) := hw0
  have r1 : w (1 : Int).toNat = (qC G : Int) := hw1
  have hm16 := sm4_m hG
  obtain ⟨hO, hR4, hC4⟩ := id hG
  obtain ⟨hm4, hm36⟩ := hO.m
  obtain ⟨⟨hr2, hr6⟩, ⟨hc2, hc6⟩, gL, gB, gW, gWn, gWl, gN, gNl⟩ := id hO
  obtain ⟨hn3, l, ml, hl0, hll⟩ := id hL
  have q0 : l (0 : Int).toNat = (qN G : Int) := hl0
  obtain ⟨haN1, haN2⟩ := id haN
  obtain ⟨hd1, hd2⟩ := hD i (Nat.le_refl _) hi
  have hfi : f ((i : Int)).toNat = (D i : Int) := hd2
  refine R_iload rfl rfl ?_
  refine R_ifeq rfl ⟨by decide, by decide⟩ (fun _ => ?_) (fun c0 => absurd c0 (by decide))
  refine R_iconst rfl ?_
  refine R_istore (lv' := [_, _, _, _, _, _, _, _, _, _, _, _, _, _]) rfl rfl ?_
  exact k
set_option maxRecDepth 20000 in
theorem rs4 {d N a : Nat} {h : AH} {G : Gr} {Q : AQ} {em : Bool} {f : Nat → Int} (hZ : isW h G) (hL : isLi h G) (hG : sm4 G) (haN : 126 ≤ a ∧ a < N) (mo : h a = eI 4 f) {b : Bool} {D : Nat → Nat} {i : Nat} {zs zm zo zr zl : Int} (hN : 127 ≤ N) (hD : ∀ j, i ≤ j → j < qN G → D j < qM G ∧ f j = (D j : Int)) {zj : Int} (hi : i < qN G) (k : Run mi_L_readings (T (d + 3)) Q 252 [some (vI (bI em)), some (vR 122), some (vR 124), some (vR 125), some (vI ((qM G : Nat) : Int)), some (vI zs), some (vR a), some (vI zm), some (vI zo), some (vI zr), some (vI (bI (b && (decide (i + 1 = qN G) || knS G (D i) (D (i + 1)))))), some (vI (i : Int)), some (vI zl), some (vI zj)] [] h N 1 4) : Run mi_L_readings (T (d + 3)) Q 211 [some (vI (bI em)), some (vR 122), some (vR 124), some (vR 125), some (vI ((qM G : Nat) : Int)), some (vI zs), some (vR a), some (vI zm), some (vI zo), some (vI zr), some (vI (bI b)), some (vI (i : Int)), some (vI zl), some (vI zj)] [] h N 1 4 := by
  cases b
  · exact rs4_false hZ hL hG haN mo hN hD hi k
  · exact rs4_true hZ hL hG haN mo hN hD hi k
theorem al_last {p : Nat → Bool} : ∀ r i, alF p (r + 1) i = (alF p r i && p (i + r))
  | 0, i => by
    show (p i && true) = (true && p (i + 0))
    rw [Bool.and_true, Bool.true_and, Nat.add_zero]
  | r + 1, i => by
    show (p i && alF p (r + 1) (i + 1)) = ((p i && alF p r (i + 1)) && p (i + (r + 1)))
    rw [al_last r (i + 1), Bool.and_assoc, show i + 1 + r = i + (r + 1) by omega]
theorem lI_acc {G : Gr} {em : Bool} {D : Nat → Nat} {r : Nat} {b : Bool} : (alF (lI G em D) r 0 && (((b && lA G em r (D r)) && alF (pNe D r) (qN G - 1 - r) (r + 1)) && (decide (r + 1 = qN G) || knS G (D r) (D (r + 1))))) = (alF (lI G em D) (r + 1) 0 && b) := by
  rw [al_last, Nat.zero_add]
  unfold lI
  generalize alF _ r 0 = t1
  generalize lA G em r (D r) = t2
  generalize alF (pNe D r) (qN G - 1 - r) (r + 1) = t3
  generalize (decide (r + 1 = qN G) || knS G (D r) (D (r + 1))) = t4
  cases b <;> cases t1 <;> cases t2 <;> cases t3 <;> cases t4 <;> rfl
set_option maxRecDepth 20000 in
theorem rs_loop {d N a row : Nat} {h0 : AH} {G : Gr} {Q : AQ} {em : Bool} {zs zm zo : Int} (hG : sm4 G) (haN : 126 ≤ a ∧ a < N) (hN : 127 ≤ N) (hrow : row < 5000) : ∀ (r : Nat) (h : AH) (f : Nat → Int) (b : Bool) (zi zr : Int), r ≤ qN G → zi = (r : Int) - 1 → zr = ((row / qM G ^ (qN G - r) : Nat) : Int) → isW h G → isLi h G → h a = eI 4 f → (∀ j, j ≠ a → h j = h0 j) → (∀ j, r ≤ j → j < qN G → f j = (dgt G row j : Int)) → (∀ (h1 : AH) (f1 : Nat → Int) (b1 : Bool) (zi1 zr1 : Int), b1 = (alF (lI G em (dgt G row)) r 0 && b) → h1 a = eI 4 f1 → (∀ j, j ≠ a → h1 j = h0 j) → (∀ j, j < qN G → f1 j = (dgt G row j : Int)) → Run mi_L_readings (T (d + 3)) Q 258 [some (vI (bI em)), some (vR 122), some (vR 124), some (vR 125), some (vI ((qM G : Nat) : Int)), some (vI zs), some (vR a), some (vI zm), some (vI zo), some (vI zr1), some (vI (bI b1)), some (vI zi1), none, none] [] h1 N 1 4) → Run mi_L_readings (T (d + 3)) Q 88 [some (vI (bI em)), some (vR 122), some (vR 124), some (vR 125), some (vI ((qM G : Nat) : Int)), some (vI zs), some (vR a), some (vI zm), some (vI zo), some (vI zr), some (vI (bI b)), some (vI zi), none, none] [] h N 1 4 := by
  intro r
  induction r using Nat.strongRecOn with
  | ind r ih =>
  intro h f b zi zr hr hzi hzr hZ hL mo hoo hf k
  obtain ⟨w, m0, hw0, hw1, wL, wE, wS⟩ := id hZ
  have r0 : w (0 : Int).toNat = (qR G : Int) := hw0
  have r1 : w (1 : Int).toNat = (qC G : Int) := hw1
  have hm16 := sm4_m hG
  obtain ⟨hO, hR4, hC4⟩ := id hG
  obtain ⟨hm4, hm36⟩ := hO.m
  obtain ⟨⟨hr2, hr6⟩, ⟨hc2, hc6⟩, gL, gB, gW, gWn, gWl, gN, gNl⟩ := id hO
  obtain ⟨hn3, l, ml, hl0, hll⟩ := id hL
  have q0 : l (0 : Int).toNat = (qN G : Int) := hl0
  obtain ⟨haN1, haN2⟩ := id haN
  subst hzr
  refine R_iload rfl rfl ?_
  refine R_iflt rfl ⟨by omega, by omega⟩ (fun c90 => ?_) (fun c90 => ?_)
  · have hr0 : r = 0 := by omega
    subst hr0
    exact k h f b _ _ (by simp only [alF, Bool.true_and]) mo hoo (fun j hj => hf j (Nat.zero_le _) hj)
  · obtain ⟨r, rfl⟩ : ∃ r1, r = r1 + 1 := ⟨r - 1, by omega⟩
    subst hzi
    rw [show ((r + 1 : Nat) : Int) - 1 = (r : Int) by omega]
    have hpw : row / qM G ^ (qN G - (r + 1)) ≤ row := Nat.div_le_self _ _
    refine rs1 hZ hL hG haN mo hN (i := r) (by omega) (by omega) (fun h1 e1 e2 => ?_)
    have hdg : row / qM G ^ (qN G - (r + 1)) % qM G = dgt G row r := by
      unfold dgt
      rw [show qN G - 1 - r = qN G - (r + 1) by omega]
    rw [hdg] at e1 ⊢
    have hml : dgt G row r < qM G := Nat.mod_lt _ (by omega)
    have hZ1 := isW_fr hZ (e2 122 (by omega))
    have hL1 := isLi_fr hL (e2 124 (by omega))
    have hD : ∀ j, r ≤ j → j < qN G → dgt G row j < qM G ∧ va_up f ((r : Int)).toNat ((dgt G row r : Nat) : Int) j = (dgt G row j : Int) := fun j h3 h4 => by
      refine ⟨Nat.mod_lt _ (by omega), ?_⟩
      by_cases q : j = r
      · subst q
        exact va_up_self _ _ _
      · rw [va_up_ne _ _ (show j ≠ ((r : Int)).toNat from q)]
        exact hf j (by omega) h4
    refine rs2 hZ1 hL1 hG haN e1 hN (i := r) (by omega) hml (va_up_self _ _ _) ?_
    refine R_iload rfl rfl ?_
    refine R_iconst rfl ?_
    refine R_iadd rfl ?_
    refine R_istore (lv' := [_, _, _, _, _, _, _, _, _, _, _, _, _, _]) rfl rfl ?_
    refine rs3_loop hZ1 hL1 hG haN e1 hN (D := dgt G row) hD (qN G - 1 - r) (r + 1) _ _ (by omega) (by omega) (by omega) (fun b1 zj1 hb1 => ?_)
    refine rs4 hZ1 hL1 hG haN e1 hN (D := dgt G row) hD (by omega) ?_
    refine R_iinc (lv' := [_, _, _, _, _, _, _, _, _, _, _, _, _, _]) rfl rfl rfl ?_
    refine R_goto rfl ?_
    refine Run.lv (lv' := [_, _, _, _, _, _, _, _, _, _, _, _, none, none]) ?_ ⟨Or.inr rfl, Or.inr rfl, Or.inr rfl, Or.inr rfl, Or.inr rfl, Or.inr rfl, Or.inr rfl, Or.inr rfl, Or.inr rfl, Or.inr rfl, Or.inr rfl, Or.inr rfl, Or.inl rfl, Or.inl rfl, trivial⟩
    exact ih r (by omega) h1 _ _ _ _ (by omega) (by omega) (by rw [Nat.div_div_eq_div_mul, ← Nat.pow_succ, show (qN G - (r + 1)).succ = qN G - r by omega]) hZ1 hL1 e1 (fun j hj => (e2 j hj).trans (hoo j hj)) (fun j h3 h4 => (hD j h3 h4).2) (fun h2 f2 b2 zi2 zr2 hb2 => k h2 f2 b2 zi2 zr2 (by rw [hb2, hb1]; exact lI_acc))
set_option maxRecDepth 20000 in
theorem cp_loop {d N a : Nat} {h0 : AH} {G : Gr} {Q : AQ} {em : Bool} {f : Nat → Int} {zs zo zr : Int} (hG : sm4 G) (haN : 126 ≤ a ∧ a < N) (hN : 127 ≤ N) : ∀ (r i : Nat) (h : AH) (g : Nat → Int) (zi : Int), i + r = qN G → zi = i → isW h G → isLi h G → h a = eI 4 f → h 125 = eI 4 g → (∀ j, j ≠ 125 → h j = h0 j) → (∀ j, j < i → g j = f j) → (∀ (h1 : AH) (g1 : Nat → Int) (zi1 : Int), h1 125 = eI 4 g1 → (∀ j, j ≠ 125 → h1 j = h0 j) → (∀ j, j < qN G → g1 j = f j) → Run mi_L_readings (T (d + 3)) Q 294 [some (vI (bI em)), some (vR 122), some (vR 124), some (vR 125), some (vI ((qM G : Nat) : Int)), some (vI zs), some (vR a), some (vI 0), some (vI zo), some (vI zr), some (vI 1), some (vI zi1), none, none] [] h1 N 1 4) → Run mi_L_readings (T (d + 3)) Q 261 [some (vI (bI em)), some (vR 122), some (vR 124), some (vR 125), some (vI ((qM G : Nat) : Int)), some (vI zs), some (vR a), some (vI 0), some (vI zo), some (vI zr), some (vI 1), some (vI zi), none, none] [] h N 1 4 := by
  intro r
  induction r using Nat.strongRecOn with
  | ind r ih =>
  intro i h g zi hr hzi hZ hL mo mg hoo hg k
  obtain ⟨w, m0, hw0, hw1, wL, wE, wS⟩ := id hZ
  have r0 : w (0 : Int).toNat = (qR G : Int) := hw0
  have r1 : w (1 : Int).toNat = (qC G : Int) := hw1
  have hm16 := sm4_m hG
  obtain ⟨hO, hR4, hC4⟩ := id hG
  obtain ⟨hm4, hm36⟩ := hO.m
  obtain ⟨⟨hr2, hr6⟩, ⟨hc2, hc6⟩, gL, gB, gW, gWn, gWl, gN, gNl⟩ := id hO
  obtain ⟨hn3, l, ml, hl0, hll⟩ := id hL
  have q0 : l (0 : Int).toNat = (qN G : Int) := hl0
  obtain ⟨haN1, haN2⟩ := id haN
  refine R_iload rfl rfl ?_
  refine R_aload_n rfl rfl ?_
  refine R_iconst rfl ?_
  refine R_iaload rfl (Or.inl (by omega)) ml ⟨by omega, by omega, by omega⟩ ?_
  rw [q0]
  refine R_icmpge rfl ⟨by omega, by omega⟩ ⟨by omega, by omega⟩ (fun c266 => ?_) (fun c266 => ?_)
  · have hr0 : r = 0 := by omega
    subst hr0
    exact k h g _ mg hoo (fun j hj => hg j (by omega))
  · obtain ⟨r, rfl⟩ : ∃ r1, r = r1 + 1 := ⟨r - 1, by omega⟩
    subst hzi
    refine R_iload rfl rfl ?_
    refine R_ifeq rfl ⟨by decide, by decide⟩ (fun c0 => absurd c0 (by decide)) (fun _ => ?_)
    refine R_iload rfl rfl ?_
    refine R_ifne rfl ⟨by decide, by decide⟩ (fun c0 => absurd c0 (by decide)) (fun _ => ?_)
    refine R_aload_n rfl rfl ?_
    refine R_iload rfl rfl ?_
    refine R_aload rfl rfl ?_
    refine R_iload rfl rfl ?_
    refine R_iaload rfl (Or.inl (by omega)) mo ⟨by omega, by omega, by omega⟩ ?_
    refine R_iastore rfl (by omega) mg ⟨by omega, by omega, by omega⟩ ?_
    refine R_iinc (lv' := [_, _, _, _, _, _, _, _, _, _, _, _, _, _]) rfl rfl rfl ?_
    refine R_goto rfl ?_
    exact ih r (by omega) (i + 1) _ (va_up g i (f i)) _ (by omega) (by omega) (isW_fr hZ (va_up_ne _ _ (by omega))) (isLi_fr hL (va_up_ne _ _ (by omega))) ((va_up_ne _ _ (by omega)).trans mo) (va_up_self _ _ _) (fun j hj => (va_up_ne _ _ hj).trans (hoo j hj)) (fun j hj => by
      by_cases q : j = i
      · rw [q, va_up_self]
      · rw [va_up_ne _ _ q]
        exact hg j (by omega)) k
set_option maxRecDepth 20000 in
theorem rs5_f {d N a : Nat} {h : AH} {G : Gr} {Q : AQ} {em : Bool} {f : Nat → Int} (hZ : isW h G) (hL : isLi h G) (hG : sm4 G) (haN : 126 ≤ a ∧ a < N) (mo : h a = eI 4 f) {g : Nat → Int} {zs zo zr zi : Int} (hN : 127 ≤ N) (mg : h 125 = eI 4 g) (hn1 : 1 ≤ qN G) {zm : Int} (k : ∀ zi1 : Int, Run mi_L_readings (T (d + 3)) Q 294 [some (vI (bI em)), some (vR 122), some (vR 124), some (vR 125), some (vI ((qM G : Nat) : Int)), some (vI zs), some (vR a), some (vI zm), some (vI zo), some (vI zr), some (vI (bI false)), some (vI zi1), none, none] [] h N 1 4) : Run mi_L_readings (T (d + 3)) Q 258 [some (vI (bI em)), some (vR 122), some (vR 124), some (vR 125), some (vI ((qM G : Nat) : Int)), some (vI zs), some (vR a), some (vI zm), some (vI zo), some (vI zr), some (vI (bI false)), some (vI zi), none, none] [] h N 1 4 := by
  obtain ⟨w, m0, hw0, hw1, wL, wE, wS⟩ := id hZ
  have r0 : w (0 : Int).toNat = (qR G : Int) := hw0
  have r1 : w (1 : Int).toNat = (qC G : Int) := hw1
  have hm16 := sm4_m hG
  obtain ⟨hO, hR4, hC4⟩ := id hG
  obtain ⟨hm4, hm36⟩ := hO.m
  obtain ⟨⟨hr2, hr6⟩, ⟨hc2, hc6⟩, gL, gB, gW, gWn, gWl, gN, gNl⟩ := id hO
  obtain ⟨hn3, l, ml, hl0, hll⟩ := id hL
  have q0 : l (0 : Int).toNat = (qN G : Int) := hl0
  obtain ⟨haN1, haN2⟩ := id haN
  refine R_iconst rfl ?_
  refine R_istore (lv' := [_, _, _, _, _, _, _, _, _, _, _, _, _, _]) rfl rfl ?_
  refine R_iload rfl rfl ?_
  refine R_aload_n rfl rfl ?_
  refine R_iconst rfl ?_
  refine R_iaload rfl (Or.inl (by omega)) ml ⟨by omega, by omega, by omega⟩ ?_
  rw [q0]
  refine R_icmpge rfl ⟨by decide, by decide⟩ ⟨by omega, by omega⟩ (fun c266 => ?_) (fun c266 => ?_)
  · exact k _
  · refine R_iload rfl rfl ?_
    refine R_ifeq rfl ⟨by decide, by decide⟩ (fun _ => ?_) (fun c0 => absurd c0 (by decide))
    exact k _
set_option maxRecDepth 20000 in
theorem rs5_m {d N a : Nat} {h : AH} {G : Gr} {Q : AQ} {em : Bool} {f : Nat → Int} (hZ : isW h G) (hL : isLi h G) (hG : sm4 G) (haN : 126 ≤ a ∧ a < N) (mo : h a = eI 4 f) {g : Nat → Int} {zs zo zr zi : Int} (hN : 127 ≤ N) (mg : h 125 = eI 4 g) (hn1 : 1 ≤ qN G) {zm : Int} (hzm : 1 ≤ zm ∧ zm < 5000) (k : ∀ zi1 : Int, Run mi_L_readings (T (d + 3)) Q 294 [some (vI (bI em)), some (vR 122), some (vR 124), some (vR 125), some (vI ((qM G : Nat) : Int)), some (vI zs), some (vR a), some (vI zm), some (vI zo), some (vI zr), some (vI (bI true)), some (vI zi1), none, none] [] h N 1 4) : Run mi_L_readings (T (d + 3)) Q 258 [some (vI (bI em)), some (vR 122), some (vR 124), some (vR 125), some (vI ((qM G : Nat) : Int)), some (vI zs), some (vR a), some (vI zm), some (vI zo), some (vI zr), some (vI (bI true)), some (vI zi), none, none] [] h N 1 4 := by
  obtain ⟨w, m0, hw0, hw1, wL, wE, wS⟩ := id hZ
  have r0 : w (0 : Int).toNat = (qR G : Int) := hw0
  have r1 : w (1 : Int).toNat = (qC G : Int) := hw1
  have hm16 := sm4_m hG
  obtain ⟨hO, hR4, hC4⟩ := id hG
  obtain ⟨hm4, hm36⟩ := hO.m
  obtain ⟨⟨hr2, hr6⟩, ⟨hc2, hc6⟩, gL, gB, gW, gWn, gWl, gN, gNl⟩ := id hO
  obtain ⟨hn3, l, ml, hl0, hll⟩ := id hL
  have q0 : l (0 : Int).toNat = (qN G : Int) := hl0
  obtain ⟨haN1, haN2⟩ := id haN
  refine R_iconst rfl ?_
  refine R_istore (lv' := [_, _, _, _, _, _, _, _, _, _, _, _, _, _]) rfl rfl ?_
  refine R_iload rfl rfl ?_
  refine R_aload_n rfl rfl ?_
  refine R_iconst rfl ?_
  refine R_iaload rfl (Or.inl (by omega)) ml ⟨by omega, by omega, by omega⟩ ?_
  rw [q0]
  refine R_icmpge rfl ⟨by decide, by decide⟩ ⟨by omega, by omega⟩ (fun c266 => ?_) (fun c266 => ?_)
  · exact k _
  · refine R_iload rfl rfl ?_
    refine R_ifeq rfl ⟨by decide, by decide⟩ (fun c0 => absurd c0 (by decide)) (fun _ => ?_)
    refine R_iload rfl rfl ?_
    refine R_ifne rfl ⟨by omega, by omega⟩ (fun c276 => ?_) (fun c276 => ?_)
    · exact k _
    · exact absurd hzm (by omega)
set_option maxRecDepth 20000 in
theorem rs5_0 {d N a : Nat} {h : AH} {G : Gr} {Q : AQ} {em : Bool} {f : Nat → Int} (hZ : isW h G) (hL : isLi h G) (hG : sm4 G) (haN : 126 ≤ a ∧ a < N) (mo : h a = eI 4 f) {g : Nat → Int} {zs zo zr zi : Int} (hN : 127 ≤ N) (mg : h 125 = eI 4 g) (hn1 : 1 ≤ qN G) (k : ∀ (h1 : AH) (g1 : Nat → Int) (zi1 : Int), h1 125 = eI 4 g1 → (∀ j, j ≠ 125 → h1 j = h j) → (∀ j, j < qN G → g1 j = f j) → Run mi_L_readings (T (d + 3)) Q 294 [some (vI (bI em)), some (vR 122), some (vR 124), some (vR 125), some (vI ((qM G : Nat) : Int)), some (vI zs), some (vR a), some (vI 0), some (vI zo), some (vI zr), some (vI 1), some (vI zi1), none, none] [] h1 N 1 4) : Run mi_L_readings (T (d + 3)) Q 258 [some (vI (bI em)), some (vR 122), some (vR 124), some (vR 125), some (vI ((qM G : Nat) : Int)), some (vI zs), some (vR a), some (vI 0), some (vI zo), some (vI zr), some (vI 1), some (vI zi), none, none] [] h N 1 4 := by
  obtain ⟨w, m0, hw0, hw1, wL, wE, wS⟩ := id hZ
  have r0 : w (0 : Int).toNat = (qR G : Int) := hw0
  have r1 : w (1 : Int).toNat = (qC G : Int) := hw1
  have hm16 := sm4_m hG
  obtain ⟨hO, hR4, hC4⟩ := id hG
  obtain ⟨hm4, hm36⟩ := hO.m
  obtain ⟨⟨hr2, hr6⟩, ⟨hc2, hc6⟩, gL, gB, gW, gWn, gWl, gN, gNl⟩ := id hO
  obtain ⟨hn3, l, ml, hl0, hll⟩ := id hL
  have q0 : l (0 : Int).toNat = (qN G : Int) := hl0
  obtain ⟨haN1, haN2⟩ := id haN
  refine R_iconst rfl ?_
  refine R_istore (lv' := [_, _, _, _, _, _, _, _, _, _, _, _, _, _]) rfl rfl ?_
  exact cp_loop hG haN hN (qN G) 0 h g _ (Nat.zero_add _) rfl hZ hL mo mg (fun _ _ => rfl) (fun j hj => absurd hj (Nat.not_lt_zero _)) k
set_option maxRecDepth 20000 in
theorem rs6_true {d N a : Nat} {h : AH} {G : Gr} {Q : AQ} {em : Bool} {zs zm zo zr zi : Int} (k : Run mi_L_readings (T (d + 3)) Q 67 [some (vI (bI em)), some (vR 122), some (vR 124), some (vR 125), some (vI ((qM G : Nat) : Int)), some (vI zs), some (vR a), some (vI (zm + 1)), some (vI (zo + 1)), none, none, none, none, none] [] h N 1 4) : Run mi_L_readings (T (d + 3)) Q 294 [some (vI (bI em)), some (vR 122), some (vR 124), some (vR 125), some (vI ((qM G : Nat) : Int)), some (vI zs), some (vR a), some (vI zm), some (vI zo), some (vI zr), some (vI (bI true)), some (vI zi), none, none] [] h N 1 4 := by
  refine R_iload rfl rfl ?_
  refine R_iload rfl rfl ?_
  refine R_ifeq rfl ⟨by decide, by decide⟩ (fun c0 => absurd c0 (by decide)) (fun _ => ?_)
  refine R_iconst rfl ?_
  refine R_goto rfl ?_
  refine R_iadd rfl ?_
  refine R_istore (lv' := [_, _, _, _, _, _, _, _, _, _, _, _, _, _]) rfl rfl ?_
  refine R_iinc (lv' := [_, _, _, _, _, _, _, _, _, _, _, _, _, _]) rfl rfl rfl ?_
  refine R_goto rfl ?_
  refine Run.lv (lv' := [_, _, _, _, _, _, _, _, _, none, none, none, none, none]) ?_ ⟨Or.inr rfl, Or.inr rfl, Or.inr rfl, Or.inr rfl, Or.inr rfl, Or.inr rfl, Or.inr rfl, Or.inr rfl, Or.inr rfl, Or.inl rfl, Or.inl rfl, Or.inl rfl, Or.inl rfl, Or.inl rfl, trivial⟩
  exact k
set_option maxRecDepth 20000 in
theorem rs6_false {d N a : Nat} {h : AH} {G : Gr} {Q : AQ} {em : Bool} {zs zm zo zr zi : Int} (k : Run mi_L_readings (T (d + 3)) Q 67 [some (vI (bI em)), some (vR 122), some (vR 124), some (vR 125), some (vI ((qM G : Nat) : Int)), some (vI zs), some (vR a), some (vI (zm + 0)), some (vI (zo + 1)), none, none, none, none, none] [] h N 1 4) : Run mi_L_readings (T (d + 3)) Q 294 [some (vI (bI em)), some (vR 122), some (vR 124), some (vR 125), some (vI ((qM G : Nat) : Int)), some (vI zs), some (vR a), some (vI zm), some (vI zo), some (vI zr), some (vI (bI false)), some (vI zi), none, none] [] h N 1 4 := by
  refine R_iload rfl rfl ?_
  refine R_iload rfl rfl ?_
  refine R_ifeq rfl ⟨by decide, by decide⟩ (fun _ => ?_) (fun c0 => absurd c0 (by decide))
  refine R_iconst rfl ?_
  refine R_iadd rfl ?_
  refine R_istore (lv' := [_, _, _, _, _, _, _, _, _, _, _, _, _, _]) rfl rfl ?_
  refine R_iinc (lv' := [_, _, _, _, _, _, _, _, _, _, _, _, _, _]) rfl rfl rfl ?_
  refine R_goto rfl ?_
  refine Run.lv (lv' := [_, _, _, _, _, _, _, _, _, none, none, none, none, none]) ?_ ⟨Or.inr rfl, Or.inr rfl, Or.inr rfl, Or.inr rfl, Or.inr rfl, Or.inr rfl, Or.inr rfl, Or.inr rfl, Or.inr rfl, Or.inl rfl, Or.inl rfl, Or.inl rfl, Or.inl rfl, Or.inl rfl, trivial⟩
  exact k
/-- the first that was found, behind what had been found -/
def foR (fo : Option (List Nat)) (l : List (List Nat)) : Option (List Nat) := match fo with
  | some R => some R
  | none => l.head?
theorem foR_app {fo : Option (List Nat)} {l m : List (List Nat)} : foR fo (l ++ m) = foR (foR fo l) m := by
  cases fo with
  | some R => rfl
  | none =>
    cases l with
    | nil => rfl
    | cons a t => rfl
theorem ch_get {G : Gr} {row j x : Nat} (h : (chR G row)[j]? = some x) : j < qN G ∧ x = dgt G row j := by
  unfold chR at h
  rw [List.getElem?_map] at h
  by_cases q : j < qN G
  · rw [List.getElem?_range q] at h
    cases h
    exact ⟨q, rfl⟩
  · rw [List.getElem?_eq_none (by rw [List.length_range]; omega)] at h
    cases h
def gotR (fo : Option (List Nat)) (g : Nat → Int) : Prop := ∀ R, fo = some R → ∀ (j x : Nat), R[j]? = some x → g j = (x : Int)
set_option maxRecDepth 20000 in
theorem rdw_loop {d N a rows : Nat} {h0 : AH} {G : Gr} {Q : AQ} {em : Bool} (hG : sm4 G) (haN : 126 ≤ a ∧ a < N) (hN : 127 ≤ N) (hrw : rows ≤ 4096) (hq1 : 0 < rows → 1 ≤ qN G) : ∀ (r i a9 : Nat) (h : AH) (g : Nat → Int) (fo : Option (List Nat)) (zm zi : Int), i + r = rows → zi = i → zm = a9 → a9 ≤ i → (a9 = 0 ↔ fo = none) → isW h G → isLi h G → (∃ f, h a = eI 4 f) → h 125 = eI 4 g → gotR fo g → (∀ j, j ≠ a → j ≠ 125 → h j = h0 j) → (∀ (z : Int) (h1 : AH) (g1 : Nat → Int), z = ((a9 + (fl (gR G em) r i).length : Nat) : Int) → h1 125 = eI 4 g1 → gotR (foR fo (fl (gR G em) r i)) g1 → (∃ f, h1 a = eI 4 f) → (∀ j, j ≠ a → j ≠ 125 → h1 j = h0 j) → Q (.inl (some (vI z))) h1 N) → Run mi_L_readings (T (d + 3)) Q 67 [some (vI (bI em)), some (vR 122), some (vR 124), some (vR 125), some (vI ((qM G : Nat) : Int)), some (vI (rows : Int)), some (vR a), some (vI zm), some (vI zi), none, none, none, none, none] [] h N 1 4 := by
  intro r
  induction r using Nat.strongRecOn with
  | ind r ih =>
  intro i a9 h g fo zm zi hr hzi hzm hai hfo hZ hL hmo mg hgo hoo hQ
  obtain ⟨f, mo⟩ := id hmo
  obtain ⟨w, m0, hw0, hw1, wL, wE, wS⟩ := id hZ
  have r0 : w (0 : Int).toNat = (qR G : Int) := hw0
  have r1 : w (1 : Int).toNat = (qC G : Int) := hw1
  have hm16 := sm4_m hG
  obtain ⟨hO, hR4, hC4⟩ := id hG
  obtain ⟨hm4, hm36⟩ := hO.m
  obtain ⟨⟨hr2, hr6⟩, ⟨hc2, hc6⟩, gL, gB, gW, gWn, gWl, gN, gNl⟩ := id hO
  obtain ⟨hn3, l, ml, hl0, hll⟩ := id hL
  have q0 : l (0 : Int).toNat = (qN G : Int) := hl0
  obtain ⟨haN1, haN2⟩ := id haN
  refine R_iload rfl rfl ?_
  refine R_iload rfl rfl ?_
  refine R_icmpge rfl ⟨by omega, by omega⟩ ⟨by omega, by omega⟩ (fun c71 => ?_) (fun c71 => ?_)
  · have hr0 : r = 0 := by omega
    subst hr0
    refine R_iload rfl rfl ?_
    exact R_ireturn rfl (fun q => absurd q (by decide)) (Nat.le_of_ble_eq_true rfl) (Nat.le_of_ble_eq_true rfl) (hQ _ _ _ (by rw [hzm]; rfl) mg (by cases fo <;> exact hgo) ⟨f, mo⟩ hoo)
  · obtain ⟨r, rfl⟩ : ∃ r1, r = r1 + 1 := ⟨r - 1, by omega⟩
    subst hzi
    have hn1 := hq1 (by omega)
    refine R_iload rfl rfl ?_
    refine R_istore (lv' := [_, _, _, _, _, _, _, _, _, _, _, _, _, _]) rfl rfl ?_
    refine R_iconst rfl ?_
    refine R_istore (lv' := [_, _, _, _, _, _, _, _, _, _, _, _, _, _]) rfl rfl ?_
    refine R_aload_n rfl rfl ?_
    refine R_iconst rfl ?_
    refine R_iaload rfl (Or.inl (by omega)) ml ⟨by omega, by omega, by omega⟩ ?_
    rw [q0]
    refine R_iconst rfl ?_
    refine R_isub rfl ?_
    refine R_istore (lv' := [_, _, _, _, _, _, _, _, _, _, _, _, _, _]) rfl rfl ?_
    refine rs_loop hG haN hN (row := i) (by omega) (qN G) h f true _ _ (Nat.le_refl _) rfl (by rw [Nat.sub_self, Nat.pow_zero, Nat.div_one]) hZ hL mo (fun _ _ => rfl) (fun j h3 h4 => absurd h4 (by omega)) (fun h1 f1 b1 zi1 zr1 hb1 e1 e2 e3 => ?_)
    have hZ1 := isW_fr hZ (e2 122 (by omega))
    have hL1 := isLi_fr hL (e2 124 (by omega))
    have mg1 : h1 125 = eI 4 g := (e2 125 (by omega)).trans mg
    have hoo1 : ∀ j, j ≠ a → j ≠ 125 → h1 j = h0 j := fun j h3 h4 => (e2 j h3).trans (hoo j h3 h4)
    rw [Bool.and_true] at hb1
    have hfl : fl (gR G em) (r + 1) i = gR G em i ++ fl (gR G em) r (i + 1) := rfl
    cases b1 with
    | false =>
      have hg : gR G em i = [] := if_neg (by rw [show okR G em i = false from hb1.symm]; decide)
      rw [hg, List.nil_append] at hfl
      refine rs5_f hZ1 hL1 hG haN e1 hN mg1 hn1 (fun zi2 => ?_)
      refine rs6_false ?_
      exact ih r (by omega) (i + 1) a9 h1 g fo _ _ (by omega) (by omega) (by omega) (by omega) hfo hZ1 hL1 ⟨f1, e1⟩ mg1 hgo hoo1 (fun z h2 g2 hz e4 e5 => hQ z h2 g2 (by rw [hfl]; exact hz) e4 (by rw [hfl]; exact e5))
    | true =>
      have hg : gR G em i = [chR G i] := if_pos hb1.symm
      rw [hg] at hfl
      by_cases hz : a9 = 0
      · subst hz
        have hzm0 : zm = 0 := hzm
        subst hzm0
        have hfn := hfo.mp rfl
        subst hfn
        refine rs5_0 hZ1 hL1 hG haN e1 hN mg1 hn1 (fun h2 g2 zi2 e4 e5 e6 => ?_)
        refine rs6_true ?_
        exact ih r (by omega) (i + 1) 1 h2 g2 (some (chR G i)) _ _ (by omega) (by omega) (by omega) (by omega) ⟨fun q => absurd q (by decide), fun q => by cases q⟩ (isW_fr hZ1 (e5 122 (by omega))) (isLi_fr hL1 (e5 124 (by omega))) ⟨f1, (e5 a (by omega)).trans e1⟩ e4 (fun R hR j x hx => by
          cases hR
          obtain ⟨q1, q2⟩ := ch_get hx
          rw [e6 j q1, e3 j q1, q2]) (fun j h3 h4 => (e5 j h4).trans (hoo1 j h3 h4)) (fun z h3 g3 hz e7 e8 => hQ z h3 g3 (by rw [hfl, hz, List.length_append]; show _ = ((0 + (1 + _) : Nat) : Int); omega) e7 (by rw [hfl, foR_app]; exact e8))
      · refine rs5_m hZ1 hL1 hG haN e1 hN mg1 hn1 (zm := zm) (by omega) (fun zi2 => ?_)
        refine rs6_true ?_
        have hfs : ∃ R, fo = some R := by
          cases fo with
          | none => exact absurd (hfo.mpr rfl) hz
          | some R => exact ⟨R, rfl⟩
        obtain ⟨R0, hR0⟩ := hfs
        subst hR0
        exact ih r (by omega) (i + 1) (a9 + 1) h1 g (some R0) _ _ (by omega) (by omega) (by omega) (by omega) ⟨fun q => absurd q (by omega), fun q => by cases q⟩ hZ1 hL1 ⟨f1, e1⟩ mg1 hgo hoo1 (fun z h3 g3 hz e7 e8 => hQ z h3 g3 (by rw [hfl, hz, List.length_append]; show _ = ((a9 + (1 + _) : Nat) : Int); omega) e7 (by rw [hfl, foR_app]; exact e8))
def rwn (G : Gr) : Nat := if qN G = 0 then 0 else qM G ^ qN G
theorem rwn_b {G : Gr} (hG : sm4 G) (hn : qN G ≤ 3) : rwn G ≤ 4096 := by
  unfold rwn
  have hm := sm4_m hG
  split
  · omega
  · have h1 : qM G ^ qN G ≤ 16 ^ qN G := Nat.pow_le_pow_left hm _
    have h2 : 16 ^ qN G ≤ 16 ^ 3 := Nat.pow_le_pow_right (by decide) hn
    exact Nat.le_trans h1 h2
theorem rwn_rd {G : Gr} (hG : okG G) {em : Bool} (hn : qN G ≤ 3) : rdG G em = fl (gR G em) (rwn G) 0 := by
  unfold rwn
  by_cases q : qN G = 0
  · rw [if_pos q]
    unfold rdG
    rw [if_pos q]
    rfl
  · rw [if_neg q]
    exact rd_law hG (by omega) hn
set_option maxRecDepth 20000 in
theorem readings_L {d N : Nat} {h : AH} {G : Gr} {Q : AQ} {em : Bool} {zb : Int} {g0 : Nat → Int} (hZ : isW h G) (hL : isLi h G) (hG : sm4 G) (hN : 126 ≤ N ∧ N < 1000) (hwf : wfH N h) (hzb : zb = bI em) (mg : h 125 = eI 4 g0) (hQ : ∀ (z : Int) (h1 : AH) (g1 : Nat → Int), z = ((rdG G em).length : Nat) → h1 125 = eI 4 g1 → gotR (rdG G em).head? g1 → (∀ j, j ≠ 125 → (j < N ∨ N + 1 ≤ j) → h1 j = h j) → wfH (N + 1) h1 → Q (.inl (some (vI z))) h1 (N + 1)) : T (d + 4) 241 [vI zb, vR 122, vR 124, vR 125] h N Q := by
  obtain ⟨hN1, hN2⟩ := hN
  subst hzb
  obtain ⟨w, m0, hw0, hw1, wL, wE, wS⟩ := id hZ
  have r0 : w (0 : Int).toNat = (qR G : Int) := hw0
  have r1 : w (1 : Int).toNat = (qC G : Int) := hw1
  have hm16 := sm4_m hG
  obtain ⟨hO, hR4, hC4⟩ := id hG
  obtain ⟨hm4, hm36⟩ := hO.m
  obtain ⟨⟨hr2, hr6⟩, ⟨hc2, hc6⟩, gL, gB, gW, gWn, gWl, gN, gNl⟩ := id hO
  obtain ⟨hn3, l, ml, hl0, hll⟩ := id hL
  have q0 : l (0 : Int).toNat = (qN G : Int) := hl0
  have hmi := qM_int G
  have k54 : ∀ zs : Int, zs = (rwn G : Nat) → Run mi_L_readings (T (d + 3)) Q 54 [some (vI (bI em)), some (vR 122), some (vR 124), some (vR 125), some (vI ((qM G : Nat) : Int)), none, none, none, none, none, none, none, none, none] [vI zs] h N 0 0 := by
    intro zs hzs
    refine R_istore (lv' := [_, _, _, _, _, _, _, _, _, _, _, _, _, _]) rfl rfl ?_
    refine R_iconst rfl ?_
    subst hzs
    refine C_newI rfl ⟨by decide, by decide⟩ (show N < 1000 by omega) hwf ⟨(wfL_s trivial (wfL_s (Or.inl (by omega)) (wfL_s (Or.inl (by omega)) (wfL_s (Or.inl (by omega)) (wfL_s trivial (wfL_s trivial (wfL_n (wfL_n (wfL_n (wfL_n (wfL_n (wfL_n (wfL_n (wfL_n wfL_0)))))))))))))), wfT_0⟩ (Nat.le_of_ble_eq_true rfl) (Nat.le_of_ble_eq_true rfl) (fun h1 e1 f1 w1 => ?_)
    refine R_astore (lv' := [_, _, _, _, _, _, _, _, _, _, _, _, _, _]) rfl rfl ?_
    refine R_iconst rfl ?_
    refine R_istore (lv' := [_, _, _, _, _, _, _, _, _, _, _, _, _, _]) rfl rfl ?_
    refine R_iconst rfl ?_
    refine R_istore (lv' := [_, _, _, _, _, _, _, _, _, _, _, _, _, _]) rfl rfl ?_
    refine rdw_loop hG ⟨hN1, Nat.lt_succ_self N⟩ (by omega) (rwn_b hG hn3) (fun q => by
      unfold rwn at q
      by_cases q2 : qN G = 0
      · rw [if_pos q2] at q
        omega
      · omega) (rwn G) 0 0 h1 g0 none _ _ (Nat.zero_add _) rfl rfl (Nat.le_refl _) ⟨fun _ => rfl, fun _ => rfl⟩ (isW_fr hZ (f1 _ (by omega))) (isLi_fr hL (f1 _ (by omega))) ⟨_, e1⟩ ((f1 _ (by omega)).trans mg) (fun R hR => by cases hR) (fun _ _ _ => rfl) (fun z h2 g2 hz e2 e3 e4 e5 => hQ z h2 g2 (by rw [rwn_rd hO hn3, hz, Nat.zero_add]) e2 (by rw [rwn_rd hO hn3]; exact e3) (fun j h3 h4 => (e5 j (by omega) h3).trans (f1 j (by omega))) (fun j hj => ?_))
    by_cases q : j = N
    · obtain ⟨f2, e4⟩ := e4
      rw [q, e4]
      trivial
    · by_cases q2 : j = 125
      · rw [q2, e2]
        trivial
      · rw [e5 j q q2]
        exact w1 j hj
  refine T_body (I := mi_L_readings) (lv := [_, _, _, _, _, _, _, _, _, _, _, _, _, _]) rfl (Nat.le_of_ble_eq_true rfl) rfl ?_
  refine R_aload_n rfl rfl ?_
  refine R_iconst rfl ?_
  refine R_iaload rfl (Or.inl (by omega)) m0 ⟨by omega, by omega, by omega⟩ ?_
  rw [r0]
  refine R_aload_n rfl rfl ?_
  refine R_iconst rfl ?_
  refine R_iaload rfl (Or.inl (by omega)) m0 ⟨by omega, by omega, by omega⟩ ?_
  rw [r1]
  refine R_imul rfl ?_
  rw [hmi]
  refine R_istore (lv' := [_, _, _, _, _, _, _, _, _, _, _, _, _, _]) rfl rfl ?_
  refine R_aload_n rfl rfl ?_
  refine R_iconst rfl ?_
  refine R_iaload rfl (Or.inl (by omega)) ml ⟨by omega, by omega, by omega⟩ ?_
  rw [q0]
  refine R_ifne rfl ⟨by omega, by omega⟩ (fun c12 => ?_) (fun c12 => ?_)
  · refine R_aload_n rfl rfl ?_
    refine R_iconst rfl ?_
    refine R_iaload rfl (Or.inl (by omega)) ml ⟨by omega, by omega, by omega⟩ ?_
    rw [q0]
    refine R_iconst rfl ?_
    refine R_icmpne rfl ⟨by omega, by omega⟩ ⟨by decide, by decide⟩ (fun c23 => ?_) (fun c23 => ?_)
    · refine R_aload_n rfl rfl ?_
      refine R_iconst rfl ?_
      refine R_iaload rfl (Or.inl (by omega)) ml ⟨by omega, by omega, by omega⟩ ?_
      rw [q0]
      refine R_iconst rfl ?_
      refine R_icmpne rfl ⟨by omega, by omega⟩ ⟨by decide, by decide⟩ (fun c35 => ?_) (fun c35 => ?_)
      · refine R_iload rfl rfl ?_
        refine R_iload rfl rfl ?_
        refine R_imul rfl ?_
        refine R_iload rfl rfl ?_
        refine R_imul rfl ?_
        exact k54 _ (by unfold rwn; first | (rw [if_pos (show qN G = 0 by omega)]; rfl) | (rw [if_neg (show ¬ qN G = 0 by omega), show qN G = 1 by omega, Nat.pow_one]) | (rw [if_neg (show ¬ qN G = 0 by omega), show qN G = 2 by omega, Nat.pow_succ, Nat.pow_one]; rfl) | (rw [if_neg (show ¬ qN G = 0 by omega), show qN G = 3 by omega, Nat.pow_succ, Nat.pow_succ, Nat.pow_one]; rfl))
      · refine R_iload rfl rfl ?_
        refine R_iload rfl rfl ?_
        refine R_imul rfl ?_
        refine R_goto rfl ?_
        exact k54 _ (by unfold rwn; first | (rw [if_pos (show qN G = 0 by omega)]; rfl) | (rw [if_neg (show ¬ qN G = 0 by omega), show qN G = 1 by omega, Nat.pow_one]) | (rw [if_neg (show ¬ qN G = 0 by omega), show qN G = 2 by omega, Nat.pow_succ, Nat.pow_one]; rfl) | (rw [if_neg (show ¬ qN G = 0 by omega), show qN G = 3 by omega, Nat.pow_succ, Nat.pow_succ, Nat.pow_one]; rfl))
    · refine R_iload rfl rfl ?_
      refine R_goto rfl ?_
      exact k54 _ (by unfold rwn; first | (rw [if_pos (show qN G = 0 by omega)]; rfl) | (rw [if_neg (show ¬ qN G = 0 by omega), show qN G = 1 by omega, Nat.pow_one]) | (rw [if_neg (show ¬ qN G = 0 by omega), show qN G = 2 by omega, Nat.pow_succ, Nat.pow_one]; rfl) | (rw [if_neg (show ¬ qN G = 0 by omega), show qN G = 3 by omega, Nat.pow_succ, Nat.pow_succ, Nat.pow_one]; rfl))
  · refine R_iconst rfl ?_
    refine R_goto rfl ?_
    exact k54 _ (by unfold rwn; first | (rw [if_pos (show qN G = 0 by omega)]; rfl) | (rw [if_neg (show ¬ qN G = 0 by omega), show qN G = 1 by omega, Nat.pow_one]) | (rw [if_neg (show ¬ qN G = 0 by omega), show qN G = 2 by omega, Nat.pow_succ, Nat.pow_one]; rfl) | (rw [if_neg (show ¬ qN G = 0 by omega), show qN G = 3 by omega, Nat.pow_succ, Nat.pow_succ, Nat.pow_one]; rfl))
