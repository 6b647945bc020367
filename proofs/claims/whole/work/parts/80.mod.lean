/-! ===== the model: runScript, simulate ===== -/
theorem i64_div {a b : Int64} {x y : Nat} (ha : a.toInt = x) (hb : b.toInt = y) : (a / b).toInt = ((x / y : Nat) : Int) := by
  rw [Int64.toInt_div_of_ne_right a b (fun q => by
    rw [q] at hb
    have : (-1 : Int64).toInt = -1 := by decide
    omega), ha, hb]
  exact (Int.ofNat_tdiv x y).symm
theorem i64_rem {a b : Int64} {x y : Nat} (ha : a.toInt = x) (hb : b.toInt = y) : (a - a / b * b).toInt = ((x % y : Nat) : Int) := by
  have hx := Int64.toInt_lt a
  rw [ha] at hx
  have hq := i64_div ha hb
  have hle : x / y * y ≤ x := Nat.div_mul_le_self x y
  have hmm := Nat.div_add_mod' x y
  have hm : (a / b * b).toInt = ((x / y * y : Nat) : Int) := by
    rw [Int64.toInt_mul, hq, hb, ← Int.natCast_mul]
    exact Int.bmod_eq_of_le_mul_two (by omega) (by omega)
  rw [Int64.toInt_sub, ha, hm, Int.bmod_eq_of_le_mul_two (by omega) (by omega)]
  omega
theorem i64_l2i {a : Int64} {x : Nat} (ha : a.toInt = x) (hx : x < 2147483648) : a.toInt32.toInt = (x : Int) := by
  rw [Int64.toInt_toInt32, ha]
  exact Int.bmod_eq_of_le_mul_two (by omega) (by omega)
theorem cmp_lt (a b : Int64) : (lg_cmp a b).toInt < 0 ↔ a.toInt < b.toInt := by
  unfold lg_cmp
  by_cases h1 : a > b
  · rw [if_pos h1]
    rw [gt_iff_lt, Int64.lt_iff_toInt_lt] at h1
    exact ⟨fun h => absurd h (by decide), fun h => by omega⟩
  · rw [if_neg h1]
    rw [gt_iff_lt, Int64.lt_iff_toInt_lt] at h1
    by_cases h2 : a = b
    · rw [if_pos h2, h2]
      exact ⟨fun h => absurd h (by decide), fun h => by omega⟩
    · rw [if_neg h2]
      have h3 : ¬ a.toInt = b.toInt := fun q => h2 (Int64.toInt_inj.mp q)
      exact ⟨fun _ => by omega, fun _ => by decide⟩
def gk9 (s r : Nat) : Nat := s / 100000 ^ r % 100000
/-- a script's commands, one behind the other: r are left, k have been run -/
def scF (s : Nat) : Nat → Nat → Gr → Int
  | 0, _, _ => -9
  | r + 1, k, G => if (cmF G (gk9 s r)).1 = true then scF s r (k + 1) (cmF G (gk9 s r)).2 else (k : Int)
def opRunScript (y : Sy) (n : Int) (sc : Int64) : Op := if (1 ≤ n ∧ n ≤ 3) ∧ 0 ≤ sc.toInt ∧ sc.toInt < 100000 ^ n.toNat then (0, scF sc.toInt.toNat n.toNat 0 y.1, y) else (1, 0, y)
def rnd (x : Int64) : Nat := uN x / 2 ^ 33
theorem rnd_lt (x : Int64) : rnd x < 2147483648 := by
  have := uN_lt x
  unfold rnd
  omega
theorem rnd_eq (x : Int64) : ((x.toUInt64 >>> ((iI 33).toInt64.toUInt64 &&& Int64.toUInt64 63)).toInt64).toInt32.toInt = ((rnd x : Nat) : Int) := by
  have h1 : uN (lsr x 33) = uN x / 2 ^ 33 := uN_lsr x (by decide)
  have h2 := rnd_lt x
  have h3 : (lsr x 33).toInt = ((rnd x : Nat) : Int) := by
    show (lsr x 33).toBitVec.toInt = _
    have h4 : (lsr x 33).toBitVec.toNat = rnd x := h1
    rw [BitVec.toInt_eq_toNat_of_lt (by rw [h4]; omega), h4]
  exact i64_l2i h3 h2
def smS (G : Gr) (r : Nat) : Gr := if r % 2 = 1 then setL G (r / 2 % qM G) (97 + ((r / 128 % 3 : Nat) : Int)) else
  (if qPb G (r / 2 % (2 * qM G) / 2) (decide (r / 2 % (2 * qM G) % 2 = 1)) = true then setBr G (r / 2 % (2 * qM G) / 2) (decide (r / 2 % (2 * qM G) % 2 = 1)) (!qB G (decide (r / 2 % (2 * qM G) % 2 = 1)) (r / 2 % (2 * qM G) / 2)) else G)
def nxL (x : Int64) : Int64 := x * 6364136223846793005 + 1442695040888963407
def smG (f : Int64 → Int64) (g : Int64 → Nat) : Nat → Int64 → Gr → Gr
  | 0, _, G => G
  | r + 1, x, G => smG f g r (f x) (smS G (g (f x)))
theorem smG_S {f : Int64 → Int64} {g : Int64 → Nat} {r : Nat} {x : Int64} {G : Gr} : smG f g (r + 1) x G = smG f g r (f x) (smS G (g (f x))) := rfl
def opSimulate (y : Sy) (x : Int64) (m : Int) : Op := if 1 ≤ m ∧ m ≤ 99 then (0, 1000 * ((kpG (smG nxL rnd m.toNat x y.1) : Nat) : Int) + 10 * ((nE (smG nxL rnd m.toNat x y.1) : Nat) : Int) + (((rdS (smG nxL rnd m.toNat x y.1) false 9).1 : Nat) : Int), y) else (1, 0, y)
theorem sm_ok {G : Gr} (hG : okG G) {r : Nat} : okG (smS G r) := by
  unfold smS
  split
  · exact ok_setL hG (Or.inr ⟨by omega, by omega⟩)
  · split
    · rename_i q
      exact ok_setBr hG (qPb_iff.mp q)
    · exact hG
theorem smG_ok {f : Int64 → Int64} {g : Int64 → Nat} (r : Nat) : ∀ (x : Int64) (G : Gr), okG G → okG (smG f g r x G) := by
  induction r with
  | zero =>
    intro x G h
    exact h
  | succ r ih =>
    intro x G h
    rw [smG_S]
    exact ih _ _ (sm_ok h)
theorem isMo_w2 {h h' : AH} {G : Gr} {hist : List Gr} {sl : Nat → Option Gr} {n : Nat} {tx : Nat → Int} {th th' : Int} {D : Nat → Int} (hY : isMo h (G, hist, sl, n, tx) th) (hM : isMg h' G th' n hist.length) (hW : isWk h') (e : h' 126 = eI 174 D) (hf : ∀ j, ¬ (j = 122 ∨ j = 124 ∨ j = 126 ∨ (130 ≤ j ∧ j ≤ 138)) → h' j = h j) : isMo h' (G, hist, sl, n, tx) th' := by
  obtain ⟨-, hG, hT, hHi, hSv, ⟨⟨a, ha⟩, -, -, -, -⟩⟩ := hY
  exact ⟨hM, hG, isMt_fr hT (hf _ (by decide)), isHi_fr hHi (hf _ (by decide)), isSv_fr hSv (hf _ (by decide)) (hf _ (by decide)), ⟨a, (hf _ (by decide)).trans ha⟩, ⟨D, e⟩, hW.1, hW.2.1, hW.2.2⟩
theorem mrs_loop {d N : Nat} {th tl rm : Int} {Q : AQ} (hN : 139 ≤ N) {s n : Nat} {sc bd : Int64} (hs : sc.toInt = s) (hn3 : n ≤ 3) : ∀ (r k : Nat) (h : AH) (G : Gr) (gp : Int64) (zk : Int), k + r = n → zk = k → (0 < r → gp.toInt = ((100000 ^ (r - 1) : Nat) : Int)) → isMg h G th tl rm → okG G → isWk h → (∀ h' G' gp' zk', isMg h' G' th tl rm → okG G' → isWk h' → frW h h' → Run mi_X9_runScript (T (d + 6)) Q 148 [some (vR 122), some (vI n), some (vL sc), none, some (vL bd), none, some (vI (scF s r k G)), some (vL gp'), none, some (vI zk')] [] h' N 0 0) → Run mi_X9_runScript (T (d + 6)) Q 96 [some (vR 122), some (vI n), some (vL sc), none, some (vL bd), none, some (vI (-9)), some (vL gp), none, some (vI zk)] [] h N 0 0 := by
  intro r
  induction r using Nat.strongRecOn with
  | ind r ih =>
  intro k h G gp zk hr hzk hgp hM hG hW kc
  obtain ⟨F, D, L, A, W, C, hZ, m11, m12, m13, m14, m15, m16, hE, hA, hW9, hC⟩ := id hM
  obtain ⟨S, m0, m3, hR⟩ := id hZ
  obtain ⟨hr0, hr1, rL, rE, rS, hr110, rWn, rWl, hr167, rNl⟩ := id hR
  have r0 : S (0 : Int).toNat = (qR G : Int) := hr0
  have r1 : S (1 : Int).toNat = (qC G : Int) := hr1
  have r110 : S (110 : Int).toNat = (qW G : Int) := hr110
  have r167 : S (167 : Int).toNat = (qN G : Int) := hr167
  obtain ⟨hm4, hm36⟩ := hG.m
  have hmi := qM_int G
  obtain ⟨⟨hr2, hr6⟩, ⟨hc2, hc6⟩, gL, gB, gW, gWn, gWl, gN, gNl⟩ := id hG
  have hn36 := nE36 hG
  refine R_iload rfl rfl ?_
  refine R_iload_n rfl rfl ?_
  refine R_icmpge rfl ⟨by omega, by omega⟩ ⟨by omega, by omega⟩ (fun c99 => ?_) (fun c99 => ?_)
  · have hr0 : r = 0 := by omega
    subst hr0
    exact kc h G _ _ hM hG hW frW.refl
  · obtain ⟨r, rfl⟩ : ∃ r1, r = r1 + 1 := ⟨r - 1, by omega⟩
    subst hzk
    have hgv := hgp (Nat.succ_pos r)
    have hgp0 : ¬ gp = 0 := fun q => by
      rw [q] at hgv
      have h1 : (0 : Int64).toInt = 0 := by decide
      have h2 : 0 < 100000 ^ (r + 1 - 1) := Nat.pow_pos (by decide)
      omega
    have hgv : gp.toInt = ((100000 ^ r : Nat) : Int) := hgv
    have hk0 : (100000 : Int64).toInt = ((100000 : Nat) : Int) := by decide
    have hgk : (sc / gp - sc / gp / 100000 * 100000).toInt32.toInt = ((gk9 s r : Nat) : Int) := i64_l2i (i64_rem (i64_div hs hgv) hk0) (Nat.lt_of_lt_of_le (Nat.mod_lt _ (by decide)) (by decide))
    refine R_iload rfl rfl ?_
    refine R_bipush rfl ?_
    refine R_icmpne rfl ⟨by decide, by decide⟩ ⟨by decide, by decide⟩ (fun c0 => absurd c0 (by decide)) (fun _ => ?_)
    refine R_aload_n rfl rfl ?_
    refine R_lload_n rfl rfl ?_
    refine R_lload rfl rfl ?_
    refine R_ldiv rfl (by first | exact hgp0 | decide) ?_
    refine R_ldc2_w rfl rfl ?_
    refine R_lrem rfl (by first | exact hgp0 | decide) ?_
    refine R_l2i rfl ?_
    refine R_vcall rfl rfl ⟨(by omega), _, m0⟩ ⟨Nat.le_of_ble_eq_true rfl, Nat.le_of_ble_eq_true rfl, Nat.zero_le _, Nat.zero_le _⟩ (mRuns_T (g := gk9 s r) hM hG hN hW hgk (Nat.mod_lt _ (by decide)) (fun h1 hM1 hW1 f1 => aRes_i (rest := []) ?_))
    have h01 := bI01 (cmF G (gk9 s r)).1
    refine R_ifeq rfl ⟨by omega, by omega⟩ (fun c122 => ?_) (fun c122 => ?_)
    · refine R_iload rfl rfl ?_
      refine R_istore (lv' := [_, _, _, _, _, _, _, _, _, _]) rfl rfl ?_
      refine R_lload rfl rfl ?_
      refine R_ldc2_w rfl rfl ?_
      refine R_ldiv rfl (by first | exact hgp0 | decide) ?_
      refine R_lstore (lv' := [_, _, _, _, _, _, _, _, _, _]) rfl rfl ?_
      refine R_iinc (lv' := [_, _, _, _, _, _, _, _, _, _]) rfl rfl rfl ?_
      refine R_goto rfl ?_
      have hb9 := bI_f rfl (show bI (cmF G (gk9 s r)).1 = 0 by omega)
      have hq : scF s (r + 1) k G = (k : Int) := if_neg (by rw [hb9]; decide)
      rw [hq] at kc
      refine R_iload rfl rfl ?_
      refine R_iload_n rfl rfl ?_
      refine R_icmpge rfl ⟨by omega, by omega⟩ ⟨by omega, by omega⟩ (fun c99 => ?_) (fun c99 => ?_)
      · exact kc h1 _ _ _ hM1 (cm_ok hG) hW1 f1
      · refine R_iload rfl rfl ?_
        refine R_bipush rfl ?_
        refine R_icmpne rfl ⟨by omega, by omega⟩ ⟨by decide, by decide⟩ (fun c106 => ?_) (fun c106 => ?_)
        · exact kc h1 _ _ _ hM1 (cm_ok hG) hW1 f1
        · exact absurd c106 (by omega)
    · refine R_bipush rfl ?_
      refine R_goto rfl ?_
      refine R_istore (lv' := [_, _, _, _, _, _, _, _, _, _]) rfl rfl ?_
      refine R_lload rfl rfl ?_
      refine R_ldc2_w rfl rfl ?_
      refine R_ldiv rfl (by first | exact hgp0 | decide) ?_
      refine R_lstore (lv' := [_, _, _, _, _, _, _, _, _, _]) rfl rfl ?_
      refine R_iinc (lv' := [_, _, _, _, _, _, _, _, _, _]) rfl rfl rfl ?_
      refine R_goto rfl ?_
      have hb9 := bI_t rfl c122
      have hq : scF s (r + 1) k G = scF s r (k + 1) (cmF G (gk9 s r)).2 := if_pos hb9
      rw [hq] at kc
      exact ih r (by omega) (k + 1) h1 (cmF G (gk9 s r)).2 _ _ (by omega) (by omega) (fun h0 => by
        obtain ⟨r, rfl⟩ : ∃ r1, r = r1 + 1 := ⟨r - 1, by omega⟩
        rw [i64_div hgv hk0]
        exact congrArg Nat.cast (Nat.mul_div_cancel _ (by decide))) hM1 (cm_ok hG) hW1 (fun h2 G2 g2 z2 q1 q2 q3 q4 => kc h2 G2 g2 z2 q1 q2 q3 (f1.trans q4))
theorem mRunScript_T {d N : Nat} {h : AH} {th : Int} {Q : AQ} {G : Gr} {hist : List Gr} {sl : Nat → Option Gr} {n : Nat} {tx : Nat → Int} (hY : isMo h (G, hist, sl, n, tx) th) (hN : 139 ≤ N) {n9 : Int} {sc : Int64} (hc : inR n9) (hQ : moQ (opRunScript (G, hist, sl, n, tx) n9 sc) h N Q) : T (d + 7) 200 [vR 122, vI n9, vL sc] h N Q := by
  obtain ⟨hM, hG, hT, hHi, hSv, hRw⟩ := id hY
  have hM : isMg h G th n hist.length := hM
  have hG : okG G := hG
  have hT : isMt h n tx := hT
  have hHi : isHi h hist := hHi
  have hSv : isSv h sl := hSv
  obtain ⟨F, D, L, A, W, C, hZ, m11, m12, m13, m14, m15, m16, hE, hA, hW, hC⟩ := id hM
  obtain ⟨S, m0, m3, hR⟩ := id hZ
  obtain ⟨hr0, hr1, rL, rE, rS, hr110, rWn, rWl, hr167, rNl⟩ := id hR
  have r0 : S (0 : Int).toNat = (qR G : Int) := hr0
  have r1 : S (1 : Int).toNat = (qC G : Int) := hr1
  have r110 : S (110 : Int).toNat = (qW G : Int) := hr110
  have r167 : S (167 : Int).toNat = (qN G : Int) := hr167
  obtain ⟨hm4, hm36⟩ := hG.m
  have hmi := qM_int G
  obtain ⟨⟨hr2, hr6⟩, ⟨hc2, hc6⟩, gL, gB, gW, gWn, gWl, gN, gNl⟩ := id hG
  have hn36 := nE36 hG
  obtain ⟨tf, m1, hn150, htf⟩ := id hT
  obtain ⟨hc1, hc2⟩ := hc
  obtain ⟨x9D, m5⟩ := hRw.2.1
  refine T_body (I := mi_X9_runScript) (lv := [_, _, _, _, _, _, _, _, _, _]) rfl (Nat.le_of_ble_eq_true rfl) rfl ?_
  have hJ25 : ∀ bd : Int64, (1 ≤ n9 → n9 ≤ 3 → bd.toInt = 100000 ^ n9.toNat) → Run mi_X9_runScript (T (d + 6)) Q 25 [some (vR 122), some (vI n9), some (vL sc), none, none, none, none, none, none, none] [vL bd] h N 0 0 := by
    intro bd hbd0
    refine R_lstore (lv' := [_, _, _, _, _, _, _, _, _, _]) rfl rfl ?_
    refine R_aload_n rfl rfl ?_
    refine R_iload_n rfl rfl ?_
    refine R_iconst rfl ?_
    refine R_icmplt rfl ⟨by first | omega | (have := (cmp_r sc bd).1; omega) | (have := (cmp_r sc (Int64.ofNat ((0 : Fin 2) : Nat))).1; omega), by first | omega | (have := (cmp_r sc bd).2; omega) | (have := (cmp_r sc (Int64.ofNat ((0 : Fin 2) : Nat))).2; omega)⟩ ⟨by decide, by decide⟩ (fun c30 => ?_) (fun c30 => ?_)
    · have ho : opRunScript (G, hist, sl, n, tx) n9 sc = (0 + 1, 0, (G, hist, sl, n, tx)) := if_neg (fun q => by have := q.1; omega)
      refine R_iconst rfl ?_
      refine R_goto rfl ?_
      refine R_putfield rfl rfl (by omega) m0 (Nat.le_of_ble_eq_true rfl) (by first | trivial | exact trivial | omega) ?_
      refine R_aload_n rfl rfl ?_
      refine R_getfield rfl rfl (by omega) (va_up_self _ _ _) rfl ?_
      refine R_ifle rfl ⟨by decide, by decide⟩ (fun c0 => absurd c0 (by decide)) (fun _ => ?_)
      refine R_iconst rfl ?_
      exact R_ireturn rfl (fun q => absurd q (by decide)) (Nat.zero_le _) (Nat.zero_le _) (moQ_t hQ ho rfl (isMo_th hY) (fr_up fr.refl (by omega)))
    · refine R_iload_n rfl rfl ?_
      refine R_iconst rfl ?_
      refine R_icmpgt rfl ⟨by first | omega | (have := (cmp_r sc bd).1; omega) | (have := (cmp_r sc (Int64.ofNat ((0 : Fin 2) : Nat))).1; omega), by first | omega | (have := (cmp_r sc bd).2; omega) | (have := (cmp_r sc (Int64.ofNat ((0 : Fin 2) : Nat))).2; omega)⟩ ⟨by decide, by decide⟩ (fun c35 => ?_) (fun c35 => ?_)
      · have ho : opRunScript (G, hist, sl, n, tx) n9 sc = (0 + 1, 0, (G, hist, sl, n, tx)) := if_neg (fun q => by have := q.1; omega)
        refine R_iconst rfl ?_
        refine R_goto rfl ?_
        refine R_putfield rfl rfl (by omega) m0 (Nat.le_of_ble_eq_true rfl) (by first | trivial | exact trivial | omega) ?_
        refine R_aload_n rfl rfl ?_
        refine R_getfield rfl rfl (by omega) (va_up_self _ _ _) rfl ?_
        refine R_ifle rfl ⟨by decide, by decide⟩ (fun c0 => absurd c0 (by decide)) (fun _ => ?_)
        refine R_iconst rfl ?_
        exact R_ireturn rfl (fun q => absurd q (by decide)) (Nat.zero_le _) (Nat.zero_le _) (moQ_t hQ ho rfl (isMo_th hY) (fr_up fr.refl (by omega)))
      · refine R_lload_n rfl rfl ?_
        refine R_lconst rfl ?_
        refine R_lcmp rfl ?_
        refine R_iflt rfl ⟨by first | omega | (have := (cmp_r sc bd).1; omega) | (have := (cmp_r sc (Int64.ofNat ((0 : Fin 2) : Nat))).1; omega), by first | omega | (have := (cmp_r sc bd).2; omega) | (have := (cmp_r sc (Int64.ofNat ((0 : Fin 2) : Nat))).2; omega)⟩ (fun c41 => ?_) (fun c41 => ?_)
        · have ho : opRunScript (G, hist, sl, n, tx) n9 sc = (0 + 1, 0, (G, hist, sl, n, tx)) := if_neg (fun q => by
            have h1 := (cmp_lt _ _).mp c41
            have h2 : (Int64.ofNat ((0 : Fin 2) : Nat)).toInt = 0 := by decide
            have h3 := q.2.1
            omega)
          refine R_iconst rfl ?_
          refine R_goto rfl ?_
          refine R_putfield rfl rfl (by omega) m0 (Nat.le_of_ble_eq_true rfl) (by first | trivial | exact trivial | omega) ?_
          refine R_aload_n rfl rfl ?_
          refine R_getfield rfl rfl (by omega) (va_up_self _ _ _) rfl ?_
          refine R_ifle rfl ⟨by decide, by decide⟩ (fun c0 => absurd c0 (by decide)) (fun _ => ?_)
          refine R_iconst rfl ?_
          exact R_ireturn rfl (fun q => absurd q (by decide)) (Nat.zero_le _) (Nat.zero_le _) (moQ_t hQ ho rfl (isMo_th hY) (fr_up fr.refl (by omega)))
        · refine R_lload_n rfl rfl ?_
          refine R_lload rfl rfl ?_
          refine R_lcmp rfl ?_
          refine R_iflt rfl ⟨by first | omega | (have := (cmp_r sc bd).1; omega) | (have := (cmp_r sc (Int64.ofNat ((0 : Fin 2) : Nat))).1; omega), by first | omega | (have := (cmp_r sc bd).2; omega) | (have := (cmp_r sc (Int64.ofNat ((0 : Fin 2) : Nat))).2; omega)⟩ (fun c48 => ?_) (fun c48 => ?_)
          · have h48 := (cmp_lt _ _).mp c48
            have h41 : 0 ≤ sc.toInt := by
              have h1 : ¬ sc.toInt < (Int64.ofNat ((0 : Fin 2) : Nat)).toInt := fun k => c41 ((cmp_lt _ _).mpr k)
              have h2 : (Int64.ofNat ((0 : Fin 2) : Nat)).toInt = 0 := by decide
              omega
            rw [hbd0 (by omega) (by omega)] at h48
            obtain ⟨nn, rfl⟩ := Int.eq_ofNat_of_zero_le (show 0 ≤ n9 by omega)
            have hn3 : nn ≤ 3 := by omega
            have hn1 : 1 ≤ nn := by omega
            have hbd : bd.toInt = ((100000 ^ nn : Nat) : Int) := (hbd0 (by omega) (by omega)).trans (by rw [Int.natCast_pow]; rfl)
            have ho : opRunScript (G, hist, sl, n, tx) nn sc = (0, scF sc.toInt.toNat nn 0 G, (G, hist, sl, n, tx)) := if_pos ⟨⟨by omega, by omega⟩, h41, h48⟩
            refine R_iconst rfl ?_
            refine R_putfield rfl rfl (by omega) m0 (Nat.le_of_ble_eq_true rfl) (by first | trivial | exact trivial | omega) ?_
            refine R_aload_n rfl rfl ?_
            refine R_getfield rfl rfl (by omega) (va_up_self _ _ _) rfl ?_
            refine R_ifle rfl ⟨by decide, by decide⟩ (fun _ => ?_) (fun c0 => absurd c0 (by decide))
            refine R_aload_n rfl rfl ?_
            refine R_getfield rfl rfl (by omega) (va_up_self _ _ _) rfl ?_
            refine R_iconst rfl ?_
            refine R_aload_n rfl rfl ?_
            refine R_getfield rfl rfl (by omega) (va_up_self _ _ _) rfl ?_
            refine R_iconst rfl ?_
            refine R_scall rfl rfl ⟨Nat.le_of_ble_eq_true rfl, Nat.le_of_ble_eq_true rfl, Nat.zero_le _, Nat.zero_le _⟩ (mMove_T (s := 0) (t := 0) (by omega) (by omega) (by decide) (by decide) (by decide) (by decide) (by decide) ((va_up_ne _ _ (by first | exact kne rfl | exact kz | exact kz.symm | omega)).trans m3) ((va_up_ne _ _ (by decide)).trans m5) rfl rfl (fun h2 g2 e2 w1 w2 f2 => aRes_v (rest := []) ?_))
            refine R_bipush rfl ?_
            refine R_istore (lv' := [_, _, _, _, _, _, _, _, _, _]) rfl rfl ?_
            refine R_lload rfl rfl ?_
            refine R_ldc2_w rfl rfl ?_
            refine R_ldiv rfl (by decide) ?_
            refine R_lstore (lv' := [_, _, _, _, _, _, _, _, _, _]) rfl rfl ?_
            refine R_iconst rfl ?_
            refine R_istore (lv' := [_, _, _, _, _, _, _, _, _, _]) rfl rfl ?_
            have hM2 : isMg h2 G 0 n hist.length := isMg_fr (isMg_o (th' := 0) (tl' := n) (rm' := hist.length) hM) (fun j hj => f2 j (by omega))
            have hW2 : isWk h2 := isWk_fr (isMo_th (th' := 0) hY).wk (fun j h1 h2 => f2 j (by omega))
            refine mrs_loop hN (s := sc.toInt.toNat) (n := nn) (by omega) hn3 nn 0 h2 G _ _ (Nat.zero_add _) rfl (fun h0 => ?_) hM2 hG hW2 (fun h3 G3 gp3 z3 x9M x9G x9W x9f => ?_)
            · rw [i64_div hbd (show (100000 : Int64).toInt = ((100000 : Nat) : Int) by decide)]
              obtain ⟨k2, rfl⟩ : ∃ k2, nn = k2 + 1 := ⟨nn - 1, by omega⟩
              exact congrArg Nat.cast (Nat.mul_div_cancel _ (by decide))
            obtain ⟨S9, x9m0, x9m3, x9R⟩ := id x9M.z
            have x9e : h3 126 = eI 174 g2 := (x9f _ (by decide)).trans e2
            refine R_aload_n rfl rfl ?_
            refine R_getfield rfl rfl (by omega) x9m0 rfl ?_
            refine R_iconst rfl ?_
            refine R_aload_n rfl rfl ?_
            refine R_getfield rfl rfl (by omega) x9m0 rfl ?_
            refine R_iconst rfl ?_
            refine R_scall rfl rfl ⟨Nat.le_of_ble_eq_true rfl, Nat.le_of_ble_eq_true rfl, Nat.zero_le _, Nat.zero_le _⟩ (mMove_T (s := 0) (t := 0) (by omega) (by omega) (by decide) (by decide) (by decide) (by decide) (by decide) x9e x9m3 rfl rfl (fun h4 g4 e4 w3 w4 f4 => aRes_v (rest := []) ?_))
            refine R_aload_n rfl rfl ?_
            refine R_vcall rfl rfl ⟨(by omega), _, ((f4 _ (by omega)).trans x9m0)⟩ ⟨Nat.le_of_ble_eq_true rfl, Nat.le_of_ble_eq_true rfl, Nat.zero_le _, Nat.zero_le _⟩ (mFindEntries_T (isMa_st x9M.a e4 (rw_congr hR hG (fun k2 hk2 => (congrArg g4 (Nat.zero_add k2).symm).trans ((w3 k2 hk2).trans ((w1 k2 hk2).trans (congrArg S (Nat.zero_add k2)))))) (fun j hj => f4 j (by omega))) hG hN (fun h5 hM5 f5 => aRes_v (rest := []) ?_))
            obtain ⟨S5, y9m0, -⟩ := id hM5.z
            refine R_iload rfl rfl ?_
            exact R_ireturn rfl (fun q => absurd q (by decide)) (Nat.zero_le _) (Nat.zero_le _) (moQ_v hQ ho (isMo_w2 hY hM5 (isWk_fr (isWk_fr x9W (fun j h1 h2 => f4 j (by omega))) (fun j h1 h2 => f5 j (by omega))) ((f5 _ (by decide)).trans ((f4 _ (by omega)).trans x9e)) (fun j hj => (f5 j (by omega)).trans ((f4 j (by omega)).trans ((x9f j (by omega)).trans ((f2 j (by omega)).trans (va_up_ne _ _ (by omega))))))) (fun j hj => (f5 j (by omega)).trans ((f4 j (by omega)).trans ((x9f j (by omega)).trans ((f2 j (by omega)).trans (va_up_ne _ _ (by omega)))))) rfl)
          · have ho : opRunScript (G, hist, sl, n, tx) n9 sc = (0 + 1, 0, (G, hist, sl, n, tx)) := if_neg (fun q => by
              have h1 : ¬ sc.toInt < bd.toInt := fun k => c48 ((cmp_lt _ _).mpr k)
              rw [hbd0 (by omega) (by omega)] at h1
              exact h1 q.2.2)
            refine R_iconst rfl ?_
            refine R_goto rfl ?_
            refine R_putfield rfl rfl (by omega) m0 (Nat.le_of_ble_eq_true rfl) (by first | trivial | exact trivial | omega) ?_
            refine R_aload_n rfl rfl ?_
            refine R_getfield rfl rfl (by omega) (va_up_self _ _ _) rfl ?_
            refine R_ifle rfl ⟨by decide, by decide⟩ (fun c0 => absurd c0 (by decide)) (fun _ => ?_)
            refine R_iconst rfl ?_
            exact R_ireturn rfl (fun q => absurd q (by decide)) (Nat.zero_le _) (Nat.zero_le _) (moQ_t hQ ho rfl (isMo_th hY) (fr_up fr.refl (by omega)))
  refine R_iload_n rfl rfl ?_
  refine R_iconst rfl ?_
  refine R_icmpne rfl ⟨by omega, by omega⟩ ⟨by decide, by decide⟩ (fun c2 => ?_) (fun c2 => ?_)
  · refine R_iload_n rfl rfl ?_
    refine R_iconst rfl ?_
    refine R_icmpne rfl ⟨by omega, by omega⟩ ⟨by decide, by decide⟩ (fun c13 => ?_) (fun c13 => ?_)
    · refine R_ldc2_w rfl rfl ?_
      exact hJ25 _ (fun h1 h2 => by
        first
        | (rw [show n9 = 1 by omega]; decide +kernel)
        | (rw [show n9 = 2 by omega]; decide +kernel)
        | (rw [show n9 = 3 by omega]; decide +kernel))
    · refine R_ldc2_w rfl rfl ?_
      refine R_goto rfl ?_
      exact hJ25 _ (fun h1 h2 => by
        first
        | (rw [show n9 = 1 by omega]; decide +kernel)
        | (rw [show n9 = 2 by omega]; decide +kernel)
        | (rw [show n9 = 3 by omega]; decide +kernel))
  · refine R_ldc2_w rfl rfl ?_
    refine R_goto rfl ?_
    exact hJ25 _ (fun h1 h2 => by
      first
      | (rw [show n9 = 1 by omega]; decide +kernel)
      | (rw [show n9 = 2 by omega]; decide +kernel)
      | (rw [show n9 = 3 by omega]; decide +kernel))
