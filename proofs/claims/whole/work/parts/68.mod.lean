/-! ===== what each call answers: 0 and the value, or which throw; the state then ===== -/
abbrev Op : Type := Nat × Int × Sy
def opAppend (y : Sy) (c : Int) : Op := if 0 ≤ c ∧ c ≤ 255 then (if y.2.2.2.1 = 150 then (2, 0, y) else (0, ((y.2.2.2.1 + 1 : Nat) : Int), (y.1, y.2.1, y.2.2.1, y.2.2.2.1 + 1, va_up y.2.2.2.2 y.2.2.2.1 c))) else (1, 0, y)
def opClear (y : Sy) : Op := (0, ((y.2.2.2.1 : Nat) : Int), (y.1, y.2.1, y.2.2.1, 0, y.2.2.2.2))
def opErr (y : Sy) : Op := (0, (if (gdF y.2.2.2.1 y.2.2.2.2).1 = true then -9 else ((gdF y.2.2.2.1 y.2.2.2.2).2.1 : Int)), y)
def opLoad (y : Sy) : Op := if (gdF y.2.2.2.1 y.2.2.2.2).1 = true then (0, ((qM (gdF y.2.2.2.1 y.2.2.2.2).2.2 : Nat) : Int), ((gdF y.2.2.2.1 y.2.2.2.2).2.2, [], fun _ => none, y.2.2.2)) else (1, 0, y)
def opAbout (y : Sy) (c : Int) : Op := if 0 ≤ c ∧ c ≤ 10 then (0, abG y.1 c.toNat, y) else (1, 0, y)
def opCell (y : Sy) (c k : Int) : Op := if 0 ≤ c ∧ c < qM y.1 then (if 0 ≤ k ∧ k ≤ 6 then (0, celG y.1 c.toNat k.toNat, y) else (2, 0, y)) else (1, 0, y)
def opEntry (y : Sy) (c k : Int) : Op := if 0 ≤ c ∧ c < nE y.1 then (if 0 ≤ k ∧ k ≤ 6 then (0, entG y.1 c.toNat k.toNat, y) else (2, 0, y)) else (1, 0, y)
def opWord (y : Sy) (c k : Int) : Op := if 0 ≤ c ∧ c < qW y.1 then (if 0 ≤ k then (0, worG y.1 c.toNat k.toNat, y) else (2, 0, y)) else (1, 0, y)
def opFits (y : Sy) (c : Int) : Op := if 0 ≤ c ∧ c < nE y.1 then (0, ((fcG y.1 c.toNat : Nat) : Int), y) else (1, 0, y)
def opRule (y : Sy) (c : Int) : Op := if 0 ≤ c ∧ c < 5 then (0, bI (ruG y.1 c.toNat), y) else (1, 0, y)
def opReadings (y : Sy) : Op := (0, (((rdS y.1 false 2147483647).1 : Nat) : Int), y)
def fstG (G : Gr) (i : Nat) : Int := match (rdS G false 1).2 with
  | some R => (match R[i]? with
    | some x => (x : Int)
    | none => -9)
  | none => -9
def opReading (y : Sy) (i : Int) : Op := if 0 ≤ i then (0, fstG y.1 i.toNat, y) else (1, 0, y)
def actS (y : Sy) (G : Gr) : Sy := (G, rem14 y.2.1 y.1, y.2.2)
def opPut (y : Sy) (c l : Int) : Op := if 0 ≤ c ∧ c < qM y.1 then (if l = 0 ∨ isLb l = true then (0, qL y.1 c.toNat, actS y (setL y.1 c.toNat l)) else (2, 0, y)) else (1, 0, y)
def opSetBar (y : Sy) (c : Int) (b v : Bool) : Op := if 0 ≤ c ∧ c < qM y.1 then (if qPb y.1 c.toNat b = true then (0, ((nE (setBr y.1 c.toNat b v) : Nat) : Int), actS y (setBr y.1 c.toNat b v)) else (2, 0, y)) else (1, 0, y)
def lwF (n : Nat) (tx : Nat → Int) : Nat → Nat → Gr → Gr
  | 0, _, G => G
  | r + 1, i, G => lwF n tx r (i + 1) (lenW G (sg n tx i))
def liF (n : Nat) (tx : Nat → Int) : Nat → Nat → Gr → Gr
  | 0, _, G => G
  | r + 1, i, G => liF n tx r (i + 1) (lenN G (sg n tx i))
def opAddWord (y : Sy) : Op := if iwG y.2.2.2.1 y.2.2.2.2 2 = true ∧ qW y.1 < 8 then (0, ((qW y.1 : Nat) : Int), actS y (lwF y.2.2.2.1 y.2.2.2.2 y.2.2.2.1 0 (begW y.1))) else (1, 0, y)
def opSetLine (y : Sy) : Op := if iwG y.2.2.2.1 y.2.2.2.2 1 = true then (0, ((y.2.2.2.1 : Nat) : Int), actS y (liF y.2.2.2.1 y.2.2.2.2 y.2.2.2.1 0 (noN y.1))) else (1, 0, y)
def opWrite (y : Sy) (e w : Int) : Op := if (0 ≤ e ∧ e < nE y.1) ∧ 0 ≤ w ∧ w < qW y.1 then (if fiG y.1 e.toNat w.toNat = true then (0, ((emG y.1 e.toNat : Nat) : Int), actS y (setLs y.1 (filL y.1 e.toNat w.toNat (eN y.1 e.toNat) 0 (qL y.1)))) else (2, 0, y)) else (1, 0, y)
def opErase (y : Sy) (e : Int) : Op := if 0 ≤ e ∧ e < nE y.1 then (0, (((claF y.1 e.toNat (eN y.1 e.toNat) 0 (qL y.1) 0).2 : Nat) : Int), actS y (setLs y.1 (claF y.1 e.toNat (eN y.1 e.toNat) 0 (qL y.1) 0).1)) else (1, 0, y)
def opUndo (y : Sy) : Op := match y.2.1.getLast? with
  | some G => (0, ((y.2.1.length - 1 : Nat) : Int), (G, y.2.1.dropLast, y.2.2))
  | none => (1, 0, y)
def opPossible (y : Sy) : Op := (0, (((rdS y.1 true 9999).1 : Nat) : Int), y)
def opFillings (y : Sy) : Op := (0, ((flG y.1 : Nat) : Int), y)
def opSave (y : Sy) (s : Int) : Op := if 0 ≤ s ∧ s < 2 then (0, ((nE y.1 : Nat) : Int), (y.1, y.2.1, va_up y.2.2.1 s.toNat (some y.1), y.2.2.2)) else (1, 0, y)
def opRestore (y : Sy) (s : Int) : Op := if 0 ≤ s ∧ s < 2 then (match y.2.2.1 s.toNat with
  | some G => (0, ((nE G : Nat) : Int), (G, [], y.2.2))
  | none => (2, 0, y)) else (1, 0, y)
/-- the model's call: what it leaves and answers -/
def moQ (p : Op) (h : AH) (N : Nat) (Q : AQ) : Prop := ∀ h' b, isMo h' p.2.2 p.1 → fr h h' 122 17 → (p.1 = 0 → b = p.2.1) → Q (.inl (some (vI b))) h' N
theorem moQ_t {p : Op} {h h' : AH} {N k : Nat} {Q : AQ} {y : Sy} {kz v b : Int} (hQ : moQ p h N Q) (ho : p = (k + 1, v, y)) (hz : kz = ((k + 1 : Nat) : Int)) (hM : isMo h' y kz) (hf : fr h h' 122 17) : Q (.inl (some (vI b))) h' N := by
  subst hz
  subst ho
  exact hQ h' b hM hf (fun q => absurd q (Nat.succ_ne_zero k))
theorem moQ_v {p : Op} {h h' : AH} {N : Nat} {Q : AQ} {y : Sy} {v b : Int} (hQ : moQ p h N Q) (ho : p = (0, v, y)) (hM : isMo h' y 0) (hf : fr h h' 122 17) (hv : b = v) : Q (.inl (some (vI b))) h' N := by
  subst ho
  exact hQ h' b hM hf (fun _ => hv)
theorem isMo_th {h : AH} {G : Gr} {hist : List Gr} {sl : Nat → Option Gr} {n : Nat} {tx : Nat → Int} {th th' : Int} (hY : isMo h (G, hist, sl, n, tx) th) : isMo (va_up h 122 (moO th' n hist.length (nE G))) (G, hist, sl, n, tx) th' := by
  obtain ⟨hM, hG, hT, hHi, hSv, hRw⟩ := hY
  exact ⟨isMg_o hM, hG, isMt_fr hT (va_up_ne _ _ (by decide)), isHi_fr hHi (va_up_ne _ _ (by decide)), isSv_fr hSv (va_up_ne _ _ (by decide)) (va_up_ne _ _ (by decide)), isRows_fr hRw (fun j hj => va_up_ne _ _ (by omega))⟩
theorem isMo_g {h h' : AH} {G G' : Gr} {hist hist' : List Gr} {sl : Nat → Option Gr} {n : Nat} {tx : Nat → Int} {th th' : Int} (hY : isMo h (G, hist, sl, n, tx) th) (hM : isMg h' G' th' n hist'.length) (hG : okG G') (hH : isHi h' hist') (hf : ∀ j, ¬ (j = 122 ∨ j = 124 ∨ j = 127 ∨ (130 ≤ j ∧ j ≤ 135)) → h' j = h j) : isMo h' (G', hist', sl, n, tx) th' := by
  obtain ⟨-, -, hT, -, hSv, hRw⟩ := hY
  exact ⟨hM, hG, isMt_fr hT (hf _ (by decide)), hH, isSv_fr hSv (hf _ (by decide)) (hf _ (by decide)), isRows_fr hRw (fun j hj => hf _ (by omega))⟩
theorem mAppend_T {d N : Nat} {h : AH} {th : Int} {Q : AQ} {G : Gr} {hist : List Gr} {sl : Nat → Option Gr} {n : Nat} {tx : Nat → Int} (hY : isMo h (G, hist, sl, n, tx) th) (hN : 139 ≤ N) {c : Int} (hc : inR c) (hQ : moQ (opAppend (G, hist, sl, n, tx) c) h N Q) : T (d + 1) 128 [vR 122, vI c] h N Q := by
  obtain ⟨hM, hG, hT, hHi, hSv, hRw⟩ := id hY
  have hM : isMg h G th n hist.length := hM
  have hG : okG G := hG
  have hT : isMt h n tx := hT
  have hHi : isHi h hist := hHi
  have hSv : isSv h sl := hSv
  obtain ⟨F, D, L, A, W, C, hZ, m11, m12, m13, m14, m15, m16, hE, hA, hW, hC⟩ := id hM
  obtain ⟨S, m0, m3, hR⟩ := id hZ
  obtain ⟨hr0, hr1, rL, rE, rS, hr110, rWn, rWl, hr167, rNl⟩ := id hR
  have r0 : S (0 : Int).toNat = (qR G : Int) := hr0
  have r1 : S (1 : Int).toNat = (qC G : Int) := hr1
  have r110 : S (110 : Int).toNat = (qW G : Int) := hr110
  have r167 : S (167 : Int).toNat = (qN G : Int) := hr167
  obtain ⟨hm4, hm36⟩ := hG.m
  have hmi := qM_int G
  obtain ⟨⟨hr2, hr6⟩, ⟨hc2, hc6⟩, gL, gB, gW, gWn, gWl, gN, gNl⟩ := id hG
  have hn36 := nE36 hG
  obtain ⟨tf, m1, hn150, htf⟩ := id hT
  obtain ⟨hc1, hc2⟩ := hc
  refine T_body (I := mi_X9_append) (lv := [_, _]) rfl (Nat.le_of_ble_eq_true rfl) rfl ?_
  refine R_aload_n rfl rfl ?_
  refine R_iload_n rfl rfl ?_
  refine R_iflt rfl ⟨by omega, by omega⟩ (fun c2 => ?_) (fun c2 => ?_)
  · have ho : opAppend (G, hist, sl, n, tx) c = (0 + 1, 0, (G, hist, sl, n, tx)) := if_neg (by omega)
    refine R_iconst rfl ?_
    refine R_goto rfl ?_
    refine R_putfield rfl rfl (by omega) m0 (Nat.le_of_ble_eq_true rfl) (by first | trivial | exact trivial | omega) ?_
    refine R_aload_n rfl rfl ?_
    refine R_getfield rfl rfl (by omega) (va_up_self _ _ _) rfl ?_
    refine R_ifle rfl ⟨by decide, by decide⟩ (fun c0 => absurd c0 (by decide)) (fun _ => ?_)
    refine R_iconst rfl ?_
    exact R_ireturn rfl (fun q => absurd q (by decide)) (Nat.zero_le _) (Nat.zero_le _) (moQ_t hQ ho rfl (isMo_th hY) (fr_up fr.refl (by omega)))
  · refine R_iload_n rfl rfl ?_
    refine R_sipush rfl ?_
    refine R_icmple rfl ⟨by omega, by omega⟩ ⟨by decide, by decide⟩ (fun c9 => ?_) (fun c9 => ?_)
    · refine R_aload_n rfl rfl ?_
      refine R_getfield rfl rfl (by omega) m0 rfl ?_
      refine R_sipush rfl ?_
      refine R_icmpne rfl ⟨by omega, by omega⟩ ⟨by decide, by decide⟩ (fun c23 => ?_) (fun c23 => ?_)
      · have ho : opAppend (G, hist, sl, n, tx) c = (0, ((n + 1 : Nat) : Int), (G, hist, sl, n + 1, va_up tx n c)) := (if_pos (by omega)).trans (if_neg (show ¬ n = 150 by omega))
        refine R_iconst rfl ?_
        refine R_putfield rfl rfl (by omega) m0 (Nat.le_of_ble_eq_true rfl) (by first | trivial | exact trivial | omega) ?_
        refine R_aload_n rfl rfl ?_
        refine R_getfield rfl rfl (by omega) (va_up_self _ _ _) rfl ?_
        refine R_ifle rfl ⟨by decide, by decide⟩ (fun _ => ?_) (fun c0 => absurd c0 (by decide))
        refine R_aload_n rfl rfl ?_
        refine R_getfield rfl rfl (by omega) (va_up_self _ _ _) rfl ?_
        refine R_aload_n rfl rfl ?_
        refine R_getfield rfl rfl (by omega) (va_up_self _ _ _) rfl ?_
        refine R_iload_n rfl rfl ?_
        refine R_iastore rfl (by omega) ((va_up_ne _ _ (by first | exact kne rfl | exact kz | exact kz.symm | omega)).trans m1) ⟨by omega, by omega, by omega⟩ ?_
        refine R_aload_n rfl rfl ?_
        refine R_dup rfl rfl ?_
        refine R_getfield rfl rfl (by omega) ((va_up_ne _ _ (by first | exact kne rfl | exact kz | exact kz.symm | omega)).trans (va_up_self _ _ _)) rfl ?_
        refine R_iconst rfl ?_
        refine R_iadd rfl ?_
        refine R_putfield rfl rfl (by omega) ((va_up_ne _ _ (by first | exact kne rfl | exact kz | exact kz.symm | omega)).trans (va_up_self _ _ _)) (Nat.le_of_ble_eq_true rfl) (by first | trivial | exact trivial | omega) ?_
        refine R_aload_n rfl rfl ?_
        refine R_getfield rfl rfl (by omega) (va_up_self _ _ _) rfl ?_
        exact R_ireturn rfl (fun q => absurd q (by decide)) (Nat.zero_le _) (Nat.zero_le _) (moQ_v hQ ho ⟨isMg_o (isMg_fr (isMg_o (th' := 0) (tl' := n) (rm' := hist.length) hM) (fun j hj => va_up_ne _ _ (by omega))), hG, ⟨va_up tf n c, (va_up_ne _ _ (by decide)).trans (va_up_self _ _ _), by show n + 1 ≤ 150; omega, fun i hi => by
    have hi : i < n + 1 := hi
    by_cases q : i = n
    · subst q
      rw [va_up_self]
      exact ⟨(va_up_self _ _ _).symm, by omega, by omega⟩
    · rw [va_up_ne _ _ q]
      have := htf i (by omega)
      exact ⟨this.1.trans (va_up_ne _ _ q).symm, this.2⟩⟩, isHi_fr hHi ((va_up_ne _ _ (by decide)).trans ((va_up_ne _ _ (by decide)).trans (va_up_ne _ _ (by decide)))), isSv_fr hSv ((va_up_ne _ _ (by decide)).trans ((va_up_ne _ _ (by decide)).trans (va_up_ne _ _ (by decide)))) ((va_up_ne _ _ (by decide)).trans ((va_up_ne _ _ (by decide)).trans (va_up_ne _ _ (by decide)))), isRows_fr hRw (fun j hj => (va_up_ne _ _ (by omega)).trans ((va_up_ne _ _ (by omega)).trans (va_up_ne _ _ (by omega))))⟩ (fr_up (fr_up (fr_up fr.refl (by omega)) (by omega)) (by omega)) rfl)
      · have ho : opAppend (G, hist, sl, n, tx) c = (1 + 1, 0, (G, hist, sl, n, tx)) := (if_pos (by omega)).trans (if_pos (show n = 150 by omega))
        refine R_iconst rfl ?_
        refine R_goto rfl ?_
        refine R_putfield rfl rfl (by omega) m0 (Nat.le_of_ble_eq_true rfl) (by first | trivial | exact trivial | omega) ?_
        refine R_aload_n rfl rfl ?_
        refine R_getfield rfl rfl (by omega) (va_up_self _ _ _) rfl ?_
        refine R_ifle rfl ⟨by decide, by decide⟩ (fun c0 => absurd c0 (by decide)) (fun _ => ?_)
        refine R_iconst rfl ?_
        exact R_ireturn rfl (fun q => absurd q (by decide)) (Nat.zero_le _) (Nat.zero_le _) (moQ_t hQ ho rfl (isMo_th hY) (fr_up fr.refl (by omega)))
    · have ho : opAppend (G, hist, sl, n, tx) c = (0 + 1, 0, (G, hist, sl, n, tx)) := if_neg (by omega)
      refine R_iconst rfl ?_
      refine R_goto rfl ?_
      refine R_putfield rfl rfl (by omega) m0 (Nat.le_of_ble_eq_true rfl) (by first | trivial | exact trivial | omega) ?_
      refine R_aload_n rfl rfl ?_
      refine R_getfield rfl rfl (by omega) (va_up_self _ _ _) rfl ?_
      refine R_ifle rfl ⟨by decide, by decide⟩ (fun c0 => absurd c0 (by decide)) (fun _ => ?_)
      refine R_iconst rfl ?_
      exact R_ireturn rfl (fun q => absurd q (by decide)) (Nat.zero_le _) (Nat.zero_le _) (moQ_t hQ ho rfl (isMo_th hY) (fr_up fr.refl (by omega)))
theorem mClearText_T {d N : Nat} {h : AH} {th : Int} {Q : AQ} {G : Gr} {hist : List Gr} {sl : Nat → Option Gr} {n : Nat} {tx : Nat → Int} (hY : isMo h (G, hist, sl, n, tx) th) (hN : 139 ≤ N) (hQ : moQ (opClear (G, hist, sl, n, tx)) h N Q) : T (d + 1) 129 [vR 122] h N Q := by
  obtain ⟨hM, hG, hT, hHi, hSv, hRw⟩ := id hY
  have hM : isMg h G th n hist.length := hM
  have hG : okG G := hG
  have hT : isMt h n tx := hT
  have hHi : isHi h hist := hHi
  have hSv : isSv h sl := hSv
  obtain ⟨F, D, L, A, W, C, hZ, m11, m12, m13, m14, m15, m16, hE, hA, hW, hC⟩ := id hM
  obtain ⟨S, m0, m3, hR⟩ := id hZ
  obtain ⟨hr0, hr1, rL, rE, rS, hr110, rWn, rWl, hr167, rNl⟩ := id hR
  have r0 : S (0 : Int).toNat = (qR G : Int) := hr0
  have r1 : S (1 : Int).toNat = (qC G : Int) := hr1
  have r110 : S (110 : Int).toNat = (qW G : Int) := hr110
  have r167 : S (167 : Int).toNat = (qN G : Int) := hr167
  obtain ⟨hm4, hm36⟩ := hG.m
  have hmi := qM_int G
  obtain ⟨⟨hr2, hr6⟩, ⟨hc2, hc6⟩, gL, gB, gW, gWn, gWl, gN, gNl⟩ := id hG
  have hn36 := nE36 hG
  obtain ⟨tf, m1, hn150, htf⟩ := id hT
  refine T_body (I := mi_X9_clearText) (lv := [_, _]) rfl (Nat.le_of_ble_eq_true rfl) rfl ?_
  refine R_aload_n rfl rfl ?_
  refine R_iconst rfl ?_
  refine R_putfield rfl rfl (by omega) m0 (Nat.le_of_ble_eq_true rfl) (by first | trivial | exact trivial | omega) ?_
  refine R_aload_n rfl rfl ?_
  refine R_getfield rfl rfl (by omega) (va_up_self _ _ _) rfl ?_
  refine R_istore_n (lv' := [_, _]) rfl rfl ?_
  refine R_aload_n rfl rfl ?_
  refine R_iconst rfl ?_
  refine R_putfield rfl rfl (by omega) (va_up_self _ _ _) (Nat.le_of_ble_eq_true rfl) (by first | trivial | exact trivial | omega) ?_
  refine R_iload_n rfl rfl ?_
  exact R_ireturn rfl (fun q => absurd q (by decide)) (Nat.zero_le _) (Nat.zero_le _) (moQ_v (y := (G, hist, sl, 0, tx)) hQ rfl ⟨isMg_o (isMg_o (th' := 0) (tl' := n) (rm' := hist.length) hM), hG, ⟨tf, (va_up_ne _ _ (by decide)).trans ((va_up_ne _ _ (by decide)).trans m1), Nat.zero_le _, fun i hi => absurd hi (Nat.not_lt_zero _)⟩, isHi_fr hHi ((va_up_ne _ _ (by decide)).trans (va_up_ne _ _ (by decide))), isSv_fr hSv ((va_up_ne _ _ (by decide)).trans (va_up_ne _ _ (by decide))) ((va_up_ne _ _ (by decide)).trans (va_up_ne _ _ (by decide))), isRows_fr hRw (fun j hj => (va_up_ne _ _ (by omega)).trans (va_up_ne _ _ (by omega)))⟩ (fr_up (fr_up fr.refl (by omega)) (by omega)) rfl)
theorem mCell_T {d N : Nat} {h : AH} {th : Int} {Q : AQ} {G : Gr} {hist : List Gr} {sl : Nat → Option Gr} {n : Nat} {tx : Nat → Int} (hY : isMo h (G, hist, sl, n, tx) th) (hN : 139 ≤ N) {c k : Int} (hc : inR c) (hk : inR k) (hQ : moQ (opCell (G, hist, sl, n, tx) c k) h N Q) : T (d + 3) 153 [vR 122, vI c, vI k] h N Q := by
  obtain ⟨hM, hG, hT, hHi, hSv, hRw⟩ := id hY
  have hM : isMg h G th n hist.length := hM
  have hG : okG G := hG
  have hT : isMt h n tx := hT
  have hHi : isHi h hist := hHi
  have hSv : isSv h sl := hSv
  obtain ⟨F, D, L, A, W, C, hZ, m11, m12, m13, m14, m15, m16, hE, hA, hW, hC⟩ := id hM
  obtain ⟨S, m0, m3, hR⟩ := id hZ
  obtain ⟨hr0, hr1, rL, rE, rS, hr110, rWn, rWl, hr167, rNl⟩ := id hR
  have r0 : S (0 : Int).toNat = (qR G : Int) := hr0
  have r1 : S (1 : Int).toNat = (qC G : Int) := hr1
  have r110 : S (110 : Int).toNat = (qW G : Int) := hr110
  have r167 : S (167 : Int).toNat = (qN G : Int) := hr167
  obtain ⟨hm4, hm36⟩ := hG.m
  have hmi := qM_int G
  obtain ⟨⟨hr2, hr6⟩, ⟨hc2, hc6⟩, gL, gB, gW, gWn, gWl, gN, gNl⟩ := id hG
  have hn36 := nE36 hG
  obtain ⟨tf, m1, hn150, htf⟩ := id hT
  obtain ⟨hc1, hc2⟩ := hc
  obtain ⟨hk1, hk2⟩ := hk
  refine T_body (I := mi_X9_cell) (lv := [_, _, _]) rfl (Nat.le_of_ble_eq_true rfl) rfl ?_
  refine R_aload_n rfl rfl ?_
  refine R_aload_n rfl rfl ?_
  refine R_iload_n rfl rfl ?_
  refine R_vcall rfl rfl ⟨(by omega), _, m0⟩ ⟨Nat.le_of_ble_eq_true rfl, Nat.le_of_ble_eq_true rfl, Nat.zero_le _, Nat.zero_le _⟩ (mIsCell_T hZ hG hN ⟨by omega, by omega⟩ (fun z3 hz3 => aRes_i (rest := [_]) ?_))
  refine R_ifne rfl ⟨by omega, by omega⟩ (fun c6 => ?_) (fun c6 => ?_)
  · refine R_iload_n rfl rfl ?_
    refine R_iflt rfl ⟨by omega, by omega⟩ (fun c14 => ?_) (fun c14 => ?_)
    · have ho : opCell (G, hist, sl, n, tx) c k = (1 + 1, 0, (G, hist, sl, n, tx)) := (if_pos (show 0 ≤ c ∧ c < qM G by omega)).trans (if_neg (show ¬ (0 ≤ k ∧ k ≤ 6) by omega))
      refine R_iconst rfl ?_
      refine R_goto rfl ?_
      refine R_putfield rfl rfl (by omega) m0 (Nat.le_of_ble_eq_true rfl) (by first | trivial | exact trivial | omega) ?_
      have hM1 : isMg _ G 2 n hist.length := isMg_o (th' := 2) (tl' := n) (rm' := hist.length) hM
      refine R_aload_n rfl rfl ?_
      refine R_getfield rfl rfl (by omega) (va_up_self _ _ _) rfl ?_
      refine R_ifle rfl ⟨by decide, by decide⟩ (fun c0 => absurd c0 (by decide)) (fun _ => ?_)
      refine R_iconst rfl ?_
      exact R_ireturn rfl (fun q => absurd q (by decide)) (Nat.zero_le _) (Nat.zero_le _) (moQ_t hQ ho rfl (isMo_th hY) (fr_up fr.refl (by omega)))
    · refine R_iload_n rfl rfl ?_
      refine R_bipush rfl ?_
      refine R_icmple rfl ⟨by omega, by omega⟩ ⟨by decide, by decide⟩ (fun c20 => ?_) (fun c20 => ?_)
      · have ho : opCell (G, hist, sl, n, tx) c k = (0, celG G c.toNat k.toNat, (G, hist, sl, n, tx)) := (if_pos (show 0 ≤ c ∧ c < qM G by omega)).trans (if_pos (show 0 ≤ k ∧ k ≤ 6 by omega))
        obtain ⟨x, rfl⟩ := Int.eq_ofNat_of_zero_le (show 0 ≤ c by omega)
        have hx : x < qM G := by omega
        refine R_iconst rfl ?_
        refine R_putfield rfl rfl (by omega) m0 (Nat.le_of_ble_eq_true rfl) (by first | trivial | exact trivial | omega) ?_
        have hM1 : isMg _ G 0 n hist.length := isMg_o (th' := 0) (tl' := n) (rm' := hist.length) hM
        refine R_aload_n rfl rfl ?_
        refine R_getfield rfl rfl (by omega) (va_up_self _ _ _) rfl ?_
        refine R_ifle rfl ⟨by decide, by decide⟩ (fun _ => ?_) (fun c0 => absurd c0 (by decide))
        refine R_iload_n rfl rfl ?_
        refine R_switch rfl ⟨by omega, by omega⟩ (fun cd41 => ?_) ⟨fun c41 => ?_, fun c41 => ?_, fun c41 => ?_, fun c41 => ?_, fun c41 => ?_, fun c41 => ?_, trivial⟩
        · refine R_aload_n rfl rfl ?_
          refine R_getfield rfl rfl (by omega) (va_up_self _ _ _) rfl ?_
          refine R_iload_n rfl rfl ?_
          refine R_iaload rfl (Or.inl (by omega)) ((va_up_ne _ _ (by first | exact kne rfl | exact kz | exact kz.symm | omega)).trans m16) ⟨by omega, by omega, by omega⟩ ?_
          exact R_ireturn rfl (fun q => absurd q (by decide)) (Nat.zero_le _) (Nat.zero_le _) (moQ_v hQ ho (isMo_th hY) (fr_up fr.refl (by omega)) (by rw [show k.toNat = 6 by omega]; exact hC x hx))
        · refine R_aload_n rfl rfl ?_
          refine R_getfield rfl rfl (by omega) (va_up_self _ _ _) rfl ?_
          refine R_iconst rfl ?_
          refine R_iload_n rfl rfl ?_
          refine R_iadd rfl ?_
          refine R_iaload rfl (Or.inl (by omega)) ((va_up_ne _ _ (by first | exact kne rfl | exact kz | exact kz.symm | omega)).trans m3) ⟨by omega, by omega, by omega⟩ ?_
          exact R_ireturn rfl (fun q => absurd q (by decide)) (Nat.zero_le _) (Nat.zero_le _) (moQ_v hQ ho (isMo_th hY) (fr_up fr.refl (by omega)) (by rw [show k.toNat = 0 by omega]; exact rL x hx))
        · refine R_aload_n rfl rfl ?_
          refine R_getfield rfl rfl (by omega) (va_up_self _ _ _) rfl ?_
          refine R_bipush rfl ?_
          refine R_iload_n rfl rfl ?_
          refine R_iadd rfl ?_
          refine R_iaload rfl (Or.inl (by omega)) ((va_up_ne _ _ (by first | exact kne rfl | exact kz | exact kz.symm | omega)).trans m3) ⟨by omega, by omega, by omega⟩ ?_
          exact R_ireturn rfl (fun q => absurd q (by decide)) (Nat.zero_le _) (Nat.zero_le _) (moQ_v hQ ho (isMo_th hY) (fr_up fr.refl (by omega)) (by rw [show k.toNat = 1 by omega]; exact rE x hx))
        · refine R_aload_n rfl rfl ?_
          refine R_getfield rfl rfl (by omega) (va_up_self _ _ _) rfl ?_
          refine R_bipush rfl ?_
          refine R_iload_n rfl rfl ?_
          refine R_iadd rfl ?_
          refine R_iaload rfl (Or.inl (by omega)) ((va_up_ne _ _ (by first | exact kne rfl | exact kz | exact kz.symm | omega)).trans m3) ⟨by omega, by omega, by omega⟩ ?_
          exact R_ireturn rfl (fun q => absurd q (by decide)) (Nat.zero_le _) (Nat.zero_le _) (moQ_v hQ ho (isMo_th hY) (fr_up fr.refl (by omega)) (by rw [show k.toNat = 2 by omega]; exact rS x hx))
        · refine R_aload_n rfl rfl ?_
          refine R_getfield rfl rfl (by omega) (va_up_self _ _ _) rfl ?_
          refine R_iload_n rfl rfl ?_
          refine R_iaload rfl (Or.inl (by omega)) ((va_up_ne _ _ (by first | exact kne rfl | exact kz | exact kz.symm | omega)).trans m14) ⟨by omega, by omega, by omega⟩ ?_
          exact R_ireturn rfl (fun q => absurd q (by decide)) (Nat.zero_le _) (Nat.zero_le _) (moQ_v hQ ho (isMo_th hY) (fr_up fr.refl (by omega)) (by rw [show k.toNat = 3 by omega]; exact hA x hx))
        · refine R_aload_n rfl rfl ?_
          refine R_getfield rfl rfl (by omega) (va_up_self _ _ _) rfl ?_
          refine R_iload_n rfl rfl ?_
          refine R_iaload rfl (Or.inl (by omega)) ((va_up_ne _ _ (by first | exact kne rfl | exact kz | exact kz.symm | omega)).trans m15) ⟨by omega, by omega, by omega⟩ ?_
          exact R_ireturn rfl (fun q => absurd q (by decide)) (Nat.zero_le _) (Nat.zero_le _) (moQ_v hQ ho (isMo_th hY) (fr_up fr.refl (by omega)) (by rw [show k.toNat = 4 by omega]; exact hW x hx))
        · refine R_aload_n rfl rfl ?_
          refine R_iload_n rfl rfl ?_
          refine R_vcall rfl rfl ⟨(by omega), _, (va_up_self _ _ _)⟩ ⟨Nat.le_of_ble_eq_true rfl, Nat.le_of_ble_eq_true rfl, Nat.zero_le _, Nat.zero_le _⟩ (mEntriesOf_T (x := x) hM1 hG hN rfl hx (fun z125 hz125 => aRes_i (rest := []) ?_))
          exact R_ireturn rfl (fun q => absurd q (by decide)) (Nat.zero_le _) (Nat.zero_le _) (moQ_v hQ ho (isMo_th hY) (fr_up fr.refl (by omega)) (by rw [show k.toNat = 5 by omega]; exact hz125))
      · have ho : opCell (G, hist, sl, n, tx) c k = (1 + 1, 0, (G, hist, sl, n, tx)) := (if_pos (show 0 ≤ c ∧ c < qM G by omega)).trans (if_neg (show ¬ (0 ≤ k ∧ k ≤ 6) by omega))
        refine R_iconst rfl ?_
        refine R_goto rfl ?_
        refine R_putfield rfl rfl (by omega) m0 (Nat.le_of_ble_eq_true rfl) (by first | trivial | exact trivial | omega) ?_
        have hM1 : isMg _ G 2 n hist.length := isMg_o (th' := 2) (tl' := n) (rm' := hist.length) hM
        refine R_aload_n rfl rfl ?_
        refine R_getfield rfl rfl (by omega) (va_up_self _ _ _) rfl ?_
        refine R_ifle rfl ⟨by decide, by decide⟩ (fun c0 => absurd c0 (by decide)) (fun _ => ?_)
        refine R_iconst rfl ?_
        exact R_ireturn rfl (fun q => absurd q (by decide)) (Nat.zero_le _) (Nat.zero_le _) (moQ_t hQ ho rfl (isMo_th hY) (fr_up fr.refl (by omega)))
  · have ho : opCell (G, hist, sl, n, tx) c k = (0 + 1, 0, (G, hist, sl, n, tx)) := if_neg (show ¬ (0 ≤ c ∧ c < qM G) by omega)
    refine R_iconst rfl ?_
    refine R_goto rfl ?_
    refine R_putfield rfl rfl (by omega) m0 (Nat.le_of_ble_eq_true rfl) (by first | trivial | exact trivial | omega) ?_
    have hM1 : isMg _ G 1 n hist.length := isMg_o (th' := 1) (tl' := n) (rm' := hist.length) hM
    refine R_aload_n rfl rfl ?_
    refine R_getfield rfl rfl (by omega) (va_up_self _ _ _) rfl ?_
    refine R_ifle rfl ⟨by decide, by decide⟩ (fun c0 => absurd c0 (by decide)) (fun _ => ?_)
    refine R_iconst rfl ?_
    exact R_ireturn rfl (fun q => absurd q (by decide)) (Nat.zero_le _) (Nat.zero_le _) (moQ_t hQ ho rfl (isMo_th hY) (fr_up fr.refl (by omega)))
theorem mEntry_T {d N : Nat} {h : AH} {th : Int} {Q : AQ} {G : Gr} {hist : List Gr} {sl : Nat → Option Gr} {n : Nat} {tx : Nat → Int} (hY : isMo h (G, hist, sl, n, tx) th) (hN : 139 ≤ N) {c k : Int} (hc : inR c) (hk : inR k) (hQ : moQ (opEntry (G, hist, sl, n, tx) c k) h N Q) : T (d + 4) 154 [vR 122, vI c, vI k] h N Q := by
  obtain ⟨hM, hG, hT, hHi, hSv, hRw⟩ := id hY
  have hM : isMg h G th n hist.length := hM
  have hG : okG G := hG
  have hT : isMt h n tx := hT
  have hHi : isHi h hist := hHi
  have hSv : isSv h sl := hSv
  obtain ⟨F, D, L, A, W, C, hZ, m11, m12, m13, m14, m15, m16, hE, hA, hW, hC⟩ := id hM
  obtain ⟨S, m0, m3, hR⟩ := id hZ
  obtain ⟨hr0, hr1, rL, rE, rS, hr110, rWn, rWl, hr167, rNl⟩ := id hR
  have r0 : S (0 : Int).toNat = (qR G : Int) := hr0
  have r1 : S (1 : Int).toNat = (qC G : Int) := hr1
  have r110 : S (110 : Int).toNat = (qW G : Int) := hr110
  have r167 : S (167 : Int).toNat = (qN G : Int) := hr167
  obtain ⟨hm4, hm36⟩ := hG.m
  have hmi := qM_int G
  obtain ⟨⟨hr2, hr6⟩, ⟨hc2, hc6⟩, gL, gB, gW, gWn, gWl, gN, gNl⟩ := id hG
  have hn36 := nE36 hG
  obtain ⟨tf, m1, hn150, htf⟩ := id hT
  obtain ⟨hc1, hc2⟩ := hc
  obtain ⟨hk1, hk2⟩ := hk
  refine T_body (I := mi_X9_entry) (lv := [_, _, _]) rfl (Nat.le_of_ble_eq_true rfl) rfl ?_
  refine R_aload_n rfl rfl ?_
  refine R_aload_n rfl rfl ?_
  refine R_iload_n rfl rfl ?_
  refine R_vcall rfl rfl ⟨(by omega), _, m0⟩ ⟨Nat.le_of_ble_eq_true rfl, Nat.le_of_ble_eq_true rfl, Nat.zero_le _, Nat.zero_le _⟩ (mIsEntry_T hM hG hN ⟨by omega, by omega⟩ (fun z3 hz3 => aRes_i (rest := [_]) ?_))
  refine R_ifne rfl ⟨by omega, by omega⟩ (fun c6 => ?_) (fun c6 => ?_)
  · refine R_iload_n rfl rfl ?_
    refine R_iflt rfl ⟨by omega, by omega⟩ (fun c14 => ?_) (fun c14 => ?_)
    · have ho : opEntry (G, hist, sl, n, tx) c k = (1 + 1, 0, (G, hist, sl, n, tx)) := (if_pos (show 0 ≤ c ∧ c < nE G by omega)).trans (if_neg (show ¬ (0 ≤ k ∧ k ≤ 6) by omega))
      refine R_iconst rfl ?_
      refine R_goto rfl ?_
      refine R_putfield rfl rfl (by omega) m0 (Nat.le_of_ble_eq_true rfl) (by first | trivial | exact trivial | omega) ?_
      have hM1 : isMg _ G 2 n hist.length := isMg_o (th' := 2) (tl' := n) (rm' := hist.length) hM
      refine R_aload_n rfl rfl ?_
      refine R_getfield rfl rfl (by omega) (va_up_self _ _ _) rfl ?_
      refine R_ifle rfl ⟨by decide, by decide⟩ (fun c0 => absurd c0 (by decide)) (fun _ => ?_)
      refine R_iconst rfl ?_
      exact R_ireturn rfl (fun q => absurd q (by decide)) (Nat.zero_le _) (Nat.zero_le _) (moQ_t hQ ho rfl (isMo_th hY) (fr_up fr.refl (by omega)))
    · refine R_iload_n rfl rfl ?_
      refine R_bipush rfl ?_
      refine R_icmple rfl ⟨by omega, by omega⟩ ⟨by decide, by decide⟩ (fun c20 => ?_) (fun c20 => ?_)
      · have ho : opEntry (G, hist, sl, n, tx) c k = (0, entG G c.toNat k.toNat, (G, hist, sl, n, tx)) := (if_pos (show 0 ≤ c ∧ c < nE G by omega)).trans (if_pos (show 0 ≤ k ∧ k ≤ 6 by omega))
        obtain ⟨e, rfl⟩ := Int.eq_ofNat_of_zero_le (show 0 ≤ c by omega)
        have he : e < nE G := by omega
        obtain ⟨hF9, hL9, hD9⟩ := hE _ _ _ (ents_get he)
        have hF1 : F ((e : Int)).toNat = (eC G e : Int) := hF9
        have hL1 : L ((e : Int)).toNat = (eN G e : Int) := hL9
        have hD1 : D ((e : Int)).toNat = bI (eB G e) := hD9
        have hD01 : D ((e : Int)).toNat = 0 ∨ D ((e : Int)).toNat = 1 := by
          rw [hD1]
          exact bI01 _
        have he6 := eN_6 hG he
        refine R_iconst rfl ?_
        refine R_putfield rfl rfl (by omega) m0 (Nat.le_of_ble_eq_true rfl) (by first | trivial | exact trivial | omega) ?_
        have hM1 : isMg _ G 0 n hist.length := isMg_o (th' := 0) (tl' := n) (rm' := hist.length) hM
        refine R_aload_n rfl rfl ?_
        refine R_getfield rfl rfl (by omega) (va_up_self _ _ _) rfl ?_
        refine R_ifle rfl ⟨by decide, by decide⟩ (fun _ => ?_) (fun c0 => absurd c0 (by decide))
        refine R_iload_n rfl rfl ?_
        refine R_switch rfl ⟨by omega, by omega⟩ (fun cd41 => ?_) ⟨fun c41 => ?_, fun c41 => ?_, fun c41 => ?_, fun c41 => ?_, fun c41 => ?_, fun c41 => ?_, trivial⟩
        · refine R_aload_n rfl rfl ?_
          refine R_iload_n rfl rfl ?_
          refine R_vcall rfl rfl ⟨(by omega), _, (va_up_self _ _ _)⟩ ⟨Nat.le_of_ble_eq_true rfl, Nat.le_of_ble_eq_true rfl, Nat.zero_le _, Nat.zero_le _⟩ (mWordIn_T (e := e) hM1 hG hN rfl he (fun z127 hz127 => aRes_i (rest := []) ?_))
          exact R_ireturn rfl (fun q => absurd q (by decide)) (Nat.zero_le _) (Nat.zero_le _) (moQ_v hQ ho (isMo_th hY) (fr_up fr.refl (by omega)) (by rw [show k.toNat = 6 by omega]; exact hz127))
        · refine R_aload_n rfl rfl ?_
          refine R_getfield rfl rfl (by omega) (va_up_self _ _ _) rfl ?_
          refine R_iload_n rfl rfl ?_
          refine R_iaload rfl (Or.inl (by omega)) ((va_up_ne _ _ (by first | exact kne rfl | exact kz | exact kz.symm | omega)).trans m11) ⟨by omega, by omega, by omega⟩ ?_
          exact R_ireturn rfl (fun q => absurd q (by decide)) (Nat.zero_le _) (Nat.zero_le _) (moQ_v hQ ho (isMo_th hY) (fr_up fr.refl (by omega)) (by rw [show k.toNat = 0 by omega]; exact hF1))
        · refine R_aload_n rfl rfl ?_
          refine R_getfield rfl rfl (by omega) (va_up_self _ _ _) rfl ?_
          refine R_iload_n rfl rfl ?_
          refine R_iaload rfl (Or.inl (by omega)) ((va_up_ne _ _ (by first | exact kne rfl | exact kz | exact kz.symm | omega)).trans m12) ⟨by omega, by omega, by omega⟩ ?_
          exact R_ireturn rfl (fun q => absurd q (by decide)) (Nat.zero_le _) (Nat.zero_le _) (moQ_v hQ ho (isMo_th hY) (fr_up fr.refl (by omega)) (by rw [show k.toNat = 1 by omega]; exact hD1))
        · refine R_aload_n rfl rfl ?_
          refine R_getfield rfl rfl (by omega) (va_up_self _ _ _) rfl ?_
          refine R_iload_n rfl rfl ?_
          refine R_iaload rfl (Or.inl (by omega)) ((va_up_ne _ _ (by first | exact kne rfl | exact kz | exact kz.symm | omega)).trans m13) ⟨by omega, by omega, by omega⟩ ?_
          exact R_ireturn rfl (fun q => absurd q (by decide)) (Nat.zero_le _) (Nat.zero_le _) (moQ_v hQ ho (isMo_th hY) (fr_up fr.refl (by omega)) (by rw [show k.toNat = 2 by omega]; exact hL1))
        · refine R_aload_n rfl rfl ?_
          refine R_iload_n rfl rfl ?_
          refine R_vcall rfl rfl ⟨(by omega), _, (va_up_self _ _ _)⟩ ⟨Nat.le_of_ble_eq_true rfl, Nat.le_of_ble_eq_true rfl, Nat.zero_le _, Nat.zero_le _⟩ (mUncheckedIn_T (e := e) hM1 hG hN rfl he (fun z103 hz103 => aRes_i (rest := []) ?_))
          exact R_ireturn rfl (fun q => absurd q (by decide)) (Nat.zero_le _) (Nat.zero_le _) (moQ_v hQ ho (isMo_th hY) (fr_up fr.refl (by omega)) (by rw [show k.toNat = 3 by omega]; exact hz103))
        · refine R_aload_n rfl rfl ?_
          refine R_iload_n rfl rfl ?_
          refine R_vcall rfl rfl ⟨(by omega), _, (va_up_self _ _ _)⟩ ⟨Nat.le_of_ble_eq_true rfl, Nat.le_of_ble_eq_true rfl, Nat.zero_le _, Nat.zero_le _⟩ (mEmptyIn_T (e := e) hM1 hG hN rfl he (fun z109 hz109 => aRes_i (rest := []) ?_))
          exact R_ireturn rfl (fun q => absurd q (by decide)) (Nat.zero_le _) (Nat.zero_le _) (moQ_v hQ ho (isMo_th hY) (fr_up fr.refl (by omega)) (by rw [show k.toNat = 4 by omega]; exact hz109))
        · refine R_aload_n rfl rfl ?_
          refine R_getfield rfl rfl (by omega) (va_up_self _ _ _) rfl ?_
          refine R_aload_n rfl rfl ?_
          refine R_getfield rfl rfl (by omega) (va_up_self _ _ _) rfl ?_
          refine R_iload_n rfl rfl ?_
          refine R_iaload rfl (Or.inl (by omega)) ((va_up_ne _ _ (by first | exact kne rfl | exact kz | exact kz.symm | omega)).trans m11) ⟨by omega, by omega, by omega⟩ ?_
          have heC := (eST he).1
          refine R_iaload rfl (Or.inl (by omega)) ((va_up_ne _ _ (by first | exact kne rfl | exact kz | exact kz.symm | omega)).trans m16) ⟨by omega, by omega, by omega⟩ ?_
          exact R_ireturn rfl (fun q => absurd q (by decide)) (Nat.zero_le _) (Nat.zero_le _) (moQ_v hQ ho (isMo_th hY) (fr_up fr.refl (by omega)) (by rw [show k.toNat = 5 by omega, hF1]; exact hC _ (eST he).1))
      · have ho : opEntry (G, hist, sl, n, tx) c k = (1 + 1, 0, (G, hist, sl, n, tx)) := (if_pos (show 0 ≤ c ∧ c < nE G by omega)).trans (if_neg (show ¬ (0 ≤ k ∧ k ≤ 6) by omega))
        refine R_iconst rfl ?_
        refine R_goto rfl ?_
        refine R_putfield rfl rfl (by omega) m0 (Nat.le_of_ble_eq_true rfl) (by first | trivial | exact trivial | omega) ?_
        have hM1 : isMg _ G 2 n hist.length := isMg_o (th' := 2) (tl' := n) (rm' := hist.length) hM
        refine R_aload_n rfl rfl ?_
        refine R_getfield rfl rfl (by omega) (va_up_self _ _ _) rfl ?_
        refine R_ifle rfl ⟨by decide, by decide⟩ (fun c0 => absurd c0 (by decide)) (fun _ => ?_)
        refine R_iconst rfl ?_
        exact R_ireturn rfl (fun q => absurd q (by decide)) (Nat.zero_le _) (Nat.zero_le _) (moQ_t hQ ho rfl (isMo_th hY) (fr_up fr.refl (by omega)))
  · have ho : opEntry (G, hist, sl, n, tx) c k = (0 + 1, 0, (G, hist, sl, n, tx)) := if_neg (show ¬ (0 ≤ c ∧ c < nE G) by omega)
    refine R_iconst rfl ?_
    refine R_goto rfl ?_
    refine R_putfield rfl rfl (by omega) m0 (Nat.le_of_ble_eq_true rfl) (by first | trivial | exact trivial | omega) ?_
    have hM1 : isMg _ G 1 n hist.length := isMg_o (th' := 1) (tl' := n) (rm' := hist.length) hM
    refine R_aload_n rfl rfl ?_
    refine R_getfield rfl rfl (by omega) (va_up_self _ _ _) rfl ?_
    refine R_ifle rfl ⟨by decide, by decide⟩ (fun c0 => absurd c0 (by decide)) (fun _ => ?_)
    refine R_iconst rfl ?_
    exact R_ireturn rfl (fun q => absurd q (by decide)) (Nat.zero_le _) (Nat.zero_le _) (moQ_t hQ ho rfl (isMo_th hY) (fr_up fr.refl (by omega)))
theorem mWord_T {d N : Nat} {h : AH} {th : Int} {Q : AQ} {G : Gr} {hist : List Gr} {sl : Nat → Option Gr} {n : Nat} {tx : Nat → Int} (hY : isMo h (G, hist, sl, n, tx) th) (hN : 139 ≤ N) {c k : Int} (hc : inR c) (hk : inR k) (hQ : moQ (opWord (G, hist, sl, n, tx) c k) h N Q) : T (d + 2) 158 [vR 122, vI c, vI k] h N Q := by
  obtain ⟨hM, hG, hT, hHi, hSv, hRw⟩ := id hY
  have hM : isMg h G th n hist.length := hM
  have hG : okG G := hG
  have hT : isMt h n tx := hT
  have hHi : isHi h hist := hHi
  have hSv : isSv h sl := hSv
  obtain ⟨F, D, L, A, W, C, hZ, m11, m12, m13, m14, m15, m16, hE, hA, hW, hC⟩ := id hM
  obtain ⟨S, m0, m3, hR⟩ := id hZ
  obtain ⟨hr0, hr1, rL, rE, rS, hr110, rWn, rWl, hr167, rNl⟩ := id hR
  have r0 : S (0 : Int).toNat = (qR G : Int) := hr0
  have r1 : S (1 : Int).toNat = (qC G : Int) := hr1
  have r110 : S (110 : Int).toNat = (qW G : Int) := hr110
  have r167 : S (167 : Int).toNat = (qN G : Int) := hr167
  obtain ⟨hm4, hm36⟩ := hG.m
  have hmi := qM_int G
  obtain ⟨⟨hr2, hr6⟩, ⟨hc2, hc6⟩, gL, gB, gW, gWn, gWl, gN, gNl⟩ := id hG
  have hn36 := nE36 hG
  obtain ⟨tf, m1, hn150, htf⟩ := id hT
  obtain ⟨hc1, hc2⟩ := hc
  obtain ⟨hk1, hk2⟩ := hk
  refine T_body (I := mi_X9_word) (lv := [_, _, _]) rfl (Nat.le_of_ble_eq_true rfl) rfl ?_
  refine R_aload_n rfl rfl ?_
  refine R_aload_n rfl rfl ?_
  refine R_iload_n rfl rfl ?_
  refine R_vcall rfl rfl ⟨(by omega), _, m0⟩ ⟨Nat.le_of_ble_eq_true rfl, Nat.le_of_ble_eq_true rfl, Nat.zero_le _, Nat.zero_le _⟩ (mIsWord_T hZ hG hN ⟨by omega, by omega⟩ (fun z3 hz3 => aRes_i (rest := [_]) ?_))
  refine R_ifne rfl ⟨by omega, by omega⟩ (fun c6 => ?_) (fun c6 => ?_)
  · refine R_iload_n rfl rfl ?_
    refine R_ifge rfl ⟨by omega, by omega⟩ (fun c14 => ?_) (fun c14 => ?_)
    · have ho : opWord (G, hist, sl, n, tx) c k = (0, worG G c.toNat k.toNat, (G, hist, sl, n, tx)) := (if_pos (show 0 ≤ c ∧ c < qW G by omega)).trans (if_pos (show 0 ≤ k by omega))
      obtain ⟨w, rfl⟩ := Int.eq_ofNat_of_zero_le (show 0 ≤ c by omega)
      obtain ⟨i, rfl⟩ := Int.eq_ofNat_of_zero_le (show 0 ≤ k by omega)
      have hw : w < qW G := by omega
      have hwn := gWn w hw
      have hn9 : S ((111 : Int) + (w : Int)).toNat = (qWn G w : Int) := rWn w hw
      refine R_iconst rfl ?_
      refine R_putfield rfl rfl (by omega) m0 (Nat.le_of_ble_eq_true rfl) (by first | trivial | exact trivial | omega) ?_
      have hM1 : isMg _ G 0 n hist.length := isMg_o (th' := 0) (tl' := n) (rm' := hist.length) hM
      refine R_aload_n rfl rfl ?_
      refine R_getfield rfl rfl (by omega) (va_up_self _ _ _) rfl ?_
      refine R_ifle rfl ⟨by decide, by decide⟩ (fun _ => ?_) (fun c0 => absurd c0 (by decide))
      refine R_iload_n rfl rfl ?_
      refine R_aload_n rfl rfl ?_
      refine R_getfield rfl rfl (by omega) (va_up_self _ _ _) rfl ?_
      refine R_bipush rfl ?_
      refine R_iload_n rfl rfl ?_
      refine R_iadd rfl ?_
      refine R_iaload rfl (Or.inl (by omega)) ((va_up_ne _ _ (by first | exact kne rfl | exact kz | exact kz.symm | omega)).trans m3) ⟨by omega, by omega, by omega⟩ ?_
      refine R_icmpge rfl ⟨by omega, by omega⟩ ⟨by omega, by omega⟩ (fun c44 => ?_) (fun c44 => ?_)
      · refine R_bipush rfl ?_
        exact R_ireturn rfl (fun q => absurd q (by decide)) (Nat.zero_le _) (Nat.zero_le _) (moQ_v hQ ho (isMo_th hY) (fr_up fr.refl (by omega)) (by first | exact hz50.trans (if_pos (show i < qWn G w by omega)).symm | exact (if_neg (show ¬ i < qWn G w by omega)).symm))
      · refine R_aload_n rfl rfl ?_
        refine R_iload_n rfl rfl ?_
        refine R_iload_n rfl rfl ?_
        refine R_vcall rfl rfl ⟨(by omega), _, (va_up_self _ _ _)⟩ ⟨Nat.le_of_ble_eq_true rfl, Nat.le_of_ble_eq_true rfl, Nat.zero_le _, Nat.zero_le _⟩ (mLetterOf_T (w := w) (i := i) hM1.z hG hN rfl rfl hw (by omega) (fun z50 hz50 => aRes_i (rest := []) ?_))
        refine R_goto rfl ?_
        exact R_ireturn rfl (fun q => absurd q (by decide)) (Nat.zero_le _) (Nat.zero_le _) (moQ_v hQ ho (isMo_th hY) (fr_up fr.refl (by omega)) (by first | exact hz50.trans (if_pos (show i < qWn G w by omega)).symm | exact (if_neg (show ¬ i < qWn G w by omega)).symm))
    · have ho : opWord (G, hist, sl, n, tx) c k = (1 + 1, 0, (G, hist, sl, n, tx)) := (if_pos (show 0 ≤ c ∧ c < qW G by omega)).trans (if_neg (show ¬ (0 ≤ k) by omega))
      refine R_iconst rfl ?_
      refine R_goto rfl ?_
      refine R_putfield rfl rfl (by omega) m0 (Nat.le_of_ble_eq_true rfl) (by first | trivial | exact trivial | omega) ?_
      have hM1 : isMg _ G 2 n hist.length := isMg_o (th' := 2) (tl' := n) (rm' := hist.length) hM
      refine R_aload_n rfl rfl ?_
      refine R_getfield rfl rfl (by omega) (va_up_self _ _ _) rfl ?_
      refine R_ifle rfl ⟨by decide, by decide⟩ (fun c0 => absurd c0 (by decide)) (fun _ => ?_)
      refine R_iconst rfl ?_
      exact R_ireturn rfl (fun q => absurd q (by decide)) (Nat.zero_le _) (Nat.zero_le _) (moQ_t hQ ho rfl (isMo_th hY) (fr_up fr.refl (by omega)))
  · have ho : opWord (G, hist, sl, n, tx) c k = (0 + 1, 0, (G, hist, sl, n, tx)) := if_neg (show ¬ (0 ≤ c ∧ c < qW G) by omega)
    refine R_iconst rfl ?_
    refine R_goto rfl ?_
    refine R_putfield rfl rfl (by omega) m0 (Nat.le_of_ble_eq_true rfl) (by first | trivial | exact trivial | omega) ?_
    have hM1 : isMg _ G 1 n hist.length := isMg_o (th' := 1) (tl' := n) (rm' := hist.length) hM
    refine R_aload_n rfl rfl ?_
    refine R_getfield rfl rfl (by omega) (va_up_self _ _ _) rfl ?_
    refine R_ifle rfl ⟨by decide, by decide⟩ (fun c0 => absurd c0 (by decide)) (fun _ => ?_)
    refine R_iconst rfl ?_
    exact R_ireturn rfl (fun q => absurd q (by decide)) (Nat.zero_le _) (Nat.zero_le _) (moQ_t hQ ho rfl (isMo_th hY) (fr_up fr.refl (by omega)))
theorem mFits_T {d N : Nat} {h : AH} {th : Int} {Q : AQ} {G : Gr} {hist : List Gr} {sl : Nat → Option Gr} {n : Nat} {tx : Nat → Int} (hY : isMo h (G, hist, sl, n, tx) th) (hN : 139 ≤ N) {c : Int} (hc : inR c) (hQ : moQ (opFits (G, hist, sl, n, tx) c) h N Q) : T (d + 4) 161 [vR 122, vI c] h N Q := by
  obtain ⟨hM, hG, hT, hHi, hSv, hRw⟩ := id hY
  have hM : isMg h G th n hist.length := hM
  have hG : okG G := hG
  have hT : isMt h n tx := hT
  have hHi : isHi h hist := hHi
  have hSv : isSv h sl := hSv
  obtain ⟨F, D, L, A, W, C, hZ, m11, m12, m13, m14, m15, m16, hE, hA, hW, hC⟩ := id hM
  obtain ⟨S, m0, m3, hR⟩ := id hZ
  obtain ⟨hr0, hr1, rL, rE, rS, hr110, rWn, rWl, hr167, rNl⟩ := id hR
  have r0 : S (0 : Int).toNat = (qR G : Int) := hr0
  have r1 : S (1 : Int).toNat = (qC G : Int) := hr1
  have r110 : S (110 : Int).toNat = (qW G : Int) := hr110
  have r167 : S (167 : Int).toNat = (qN G : Int) := hr167
  obtain ⟨hm4, hm36⟩ := hG.m
  have hmi := qM_int G
  obtain ⟨⟨hr2, hr6⟩, ⟨hc2, hc6⟩, gL, gB, gW, gWn, gWl, gN, gNl⟩ := id hG
  have hn36 := nE36 hG
  obtain ⟨tf, m1, hn150, htf⟩ := id hT
  obtain ⟨hc1, hc2⟩ := hc
  refine T_body (I := mi_X9_fits) (lv := [_, _]) rfl (Nat.le_of_ble_eq_true rfl) rfl ?_
  refine R_aload_n rfl rfl ?_
  refine R_aload_n rfl rfl ?_
  refine R_iload_n rfl rfl ?_
  refine R_vcall rfl rfl ⟨(by omega), _, m0⟩ ⟨Nat.le_of_ble_eq_true rfl, Nat.le_of_ble_eq_true rfl, Nat.zero_le _, Nat.zero_le _⟩ (mIsEntry_T hM hG hN ⟨by omega, by omega⟩ (fun z3 hz3 => aRes_i (rest := [_]) ?_))
  refine R_ifeq rfl ⟨by omega, by omega⟩ (fun c6 => ?_) (fun c6 => ?_)
  · have ho : opFits (G, hist, sl, n, tx) c = (0 + 1, 0, (G, hist, sl, n, tx)) := if_neg (show ¬ (0 ≤ c ∧ c < nE G) by omega)
    refine R_iconst rfl ?_
    refine R_putfield rfl rfl (by omega) m0 (Nat.le_of_ble_eq_true rfl) (by first | trivial | exact trivial | omega) ?_
    have hM1 : isMg _ G 1 n hist.length := isMg_o (th' := 1) (tl' := n) (rm' := hist.length) hM
    refine R_aload_n rfl rfl ?_
    refine R_getfield rfl rfl (by omega) (va_up_self _ _ _) rfl ?_
    refine R_ifle rfl ⟨by decide, by decide⟩ (fun c0 => absurd c0 (by decide)) (fun _ => ?_)
    refine R_iconst rfl ?_
    refine R_goto rfl ?_
    exact R_ireturn rfl (fun q => absurd q (by decide)) (Nat.zero_le _) (Nat.zero_le _) (moQ_t hQ ho rfl (isMo_th hY) (fr_up fr.refl (by omega)))
  · have ho : opFits (G, hist, sl, n, tx) c = (0, ((fcG G c.toNat : Nat) : Int), (G, hist, sl, n, tx)) := if_pos (show 0 ≤ c ∧ c < nE G by omega)
    refine R_iconst rfl ?_
    refine R_goto rfl ?_
    refine R_putfield rfl rfl (by omega) m0 (Nat.le_of_ble_eq_true rfl) (by first | trivial | exact trivial | omega) ?_
    have hM1 : isMg _ G 0 n hist.length := isMg_o (th' := 0) (tl' := n) (rm' := hist.length) hM
    refine R_aload_n rfl rfl ?_
    refine R_getfield rfl rfl (by omega) (va_up_self _ _ _) rfl ?_
    refine R_ifle rfl ⟨by decide, by decide⟩ (fun _ => ?_) (fun c0 => absurd c0 (by decide))
    refine R_aload_n rfl rfl ?_
    refine R_iload_n rfl rfl ?_
    refine R_vcall rfl rfl ⟨(by omega), _, (va_up_self _ _ _)⟩ ⟨Nat.le_of_ble_eq_true rfl, Nat.le_of_ble_eq_true rfl, Nat.zero_le _, Nat.zero_le _⟩ (mFitsOf_T (e := c.toNat) hM1 hG hN (by omega) (by omega) (fun z30 hz30 => aRes_i (rest := []) ?_))
    exact R_ireturn rfl (fun q => absurd q (by decide)) (Nat.zero_le _) (Nat.zero_le _) (moQ_v hQ ho (isMo_th hY) (fr_up fr.refl (by omega)) (hz30))
theorem isMo_re {h h' : AH} {y : Sy} {th : Int} (hY : isMo h y th) (hE : isRe h') (hf : fr h h' 136 1) : isMo h' y th := by
  obtain ⟨hM, hG, hT, hHi, hSv, ⟨⟨a, ha⟩, ⟨b, hb⟩, -, ⟨c, hd⟩, f, hf2⟩⟩ := hY
  exact ⟨isMg_f hM hf (by decide), hG, isMt_fr hT (hf _ (by omega)), isHi_fr hHi (hf _ (by omega)), isSv_fr hSv (hf _ (by omega)) (hf _ (by omega)), ⟨a, (hf _ (by omega)).trans ha⟩, ⟨b, (hf _ (by omega)).trans hb⟩, hE, ⟨c, (hf _ (by omega)).trans hd⟩, f, (hf _ (by omega)).trans hf2⟩
theorem mRule_T {d N : Nat} {h : AH} {th : Int} {Q : AQ} {G : Gr} {hist : List Gr} {sl : Nat → Option Gr} {n : Nat} {tx : Nat → Int} (hY : isMo h (G, hist, sl, n, tx) th) (hN : 139 ≤ N) {c : Int} (hc : inR c) (hQ : moQ (opRule (G, hist, sl, n, tx) c) h N Q) : T (d + 5) 169 [vR 122, vI c] h N Q := by
  obtain ⟨hM, hG, hT, hHi, hSv, hRw⟩ := id hY
  have hM : isMg h G th n hist.length := hM
  have hG : okG G := hG
  have hT : isMt h n tx := hT
  have hHi : isHi h hist := hHi
  have hSv : isSv h sl := hSv
  obtain ⟨F, D, L, A, W, C, hZ, m11, m12, m13, m14, m15, m16, hE, hA, hW, hC⟩ := id hM
  obtain ⟨S, m0, m3, hR⟩ := id hZ
  obtain ⟨hr0, hr1, rL, rE, rS, hr110, rWn, rWl, hr167, rNl⟩ := id hR
  have r0 : S (0 : Int).toNat = (qR G : Int) := hr0
  have r1 : S (1 : Int).toNat = (qC G : Int) := hr1
  have r110 : S (110 : Int).toNat = (qW G : Int) := hr110
  have r167 : S (167 : Int).toNat = (qN G : Int) := hr167
  obtain ⟨hm4, hm36⟩ := hG.m
  have hmi := qM_int G
  obtain ⟨⟨hr2, hr6⟩, ⟨hc2, hc6⟩, gL, gB, gW, gWn, gWl, gN, gNl⟩ := id hG
  have hn36 := nE36 hG
  obtain ⟨tf, m1, hn150, htf⟩ := id hT
  obtain ⟨hc1, hc2⟩ := hc
  refine T_body (I := mi_X9_rule) (lv := [_, _]) rfl (Nat.le_of_ble_eq_true rfl) rfl ?_
  refine R_aload_n rfl rfl ?_
  refine R_iload_n rfl rfl ?_
  refine R_scall rfl rfl ⟨Nat.le_of_ble_eq_true rfl, Nat.le_of_ble_eq_true rfl, Nat.zero_le _, Nat.zero_le _⟩ (mIsRule_T ⟨by omega, by omega⟩ (fun z2 hz2 => aRes_i (rest := [_]) ?_))
  refine R_ifeq rfl ⟨by omega, by omega⟩ (fun c5 => ?_) (fun c5 => ?_)
  · have ho : opRule (G, hist, sl, n, tx) c = (0 + 1, 0, (G, hist, sl, n, tx)) := if_neg (by omega)
    refine R_iconst rfl ?_
    refine R_putfield rfl rfl (by omega) m0 (Nat.le_of_ble_eq_true rfl) (by first | trivial | exact trivial | omega) ?_
    have hM1 : isMg _ G 1 n hist.length := isMg_o (th' := 1) (tl' := n) (rm' := hist.length) hM
    refine R_aload_n rfl rfl ?_
    refine R_getfield rfl rfl (by omega) (va_up_self _ _ _) rfl ?_
    refine R_ifne rfl ⟨by decide, by decide⟩ (fun _ => ?_) (fun c0 => absurd c0 (by decide))
    refine R_iconst rfl ?_
    exact R_ireturn rfl (fun _ => by first | exact Or.inl rfl | exact Or.inr rfl) (Nat.zero_le _) (Nat.zero_le _) (by first | exact moQ_v hQ ho hY2 ((fr_up fr.refl (by omega)).trans (f2.wide (by omega))) hv | exact moQ_t hQ ho rfl (isMo_th hY) (fr_up fr.refl (by omega)))
  · have ho : opRule (G, hist, sl, n, tx) c = (0, bI (ruG G c.toNat), (G, hist, sl, n, tx)) := if_pos (by omega)
    refine R_iconst rfl ?_
    refine R_goto rfl ?_
    refine R_putfield rfl rfl (by omega) m0 (Nat.le_of_ble_eq_true rfl) (by first | trivial | exact trivial | omega) ?_
    have hM1 : isMg _ G 0 n hist.length := isMg_o (th' := 0) (tl' := n) (rm' := hist.length) hM
    refine R_aload_n rfl rfl ?_
    refine R_getfield rfl rfl (by omega) (va_up_self _ _ _) rfl ?_
    refine R_ifne rfl ⟨by decide, by decide⟩ (fun c0 => absurd c0 (by decide)) (fun _ => ?_)
    refine R_aload_n rfl rfl ?_
    refine R_iload_n rfl rfl ?_
    refine R_vcall rfl rfl ⟨(by omega), _, (va_up_self _ _ _)⟩ ⟨Nat.le_of_ble_eq_true rfl, Nat.le_of_ble_eq_true rfl, Nat.zero_le _, Nat.zero_le _⟩ (mKeeps_T (r := c.toNat) hM1 hG hN (isRe_fr hRw.2.2.1 (va_up_ne _ _ (by decide))) (by omega) (by omega) (fun h2 hE2 f2 z25 hz25 => aRes_i (rest := []) ?_))
    have h01 := bI01 (ruG G c.toNat)
    rw [← hz25] at h01
    have hY2 := isMo_re (isMo_th (th' := 0) hY) hE2 f2
    refine R_ifeq rfl ⟨by omega, by omega⟩ (fun c28 => ?_) (fun c28 => ?_)
    · have hv : (0 : Int) = bI (ruG G c.toNat) := by omega
      refine R_iconst rfl ?_
      exact R_ireturn rfl (fun _ => by first | exact Or.inl rfl | exact Or.inr rfl) (Nat.zero_le _) (Nat.zero_le _) (by first | exact moQ_v hQ ho hY2 ((fr_up fr.refl (by omega)).trans (f2.wide (by omega))) hv | exact moQ_t hQ ho rfl (isMo_th hY) (fr_up fr.refl (by omega)))
    · have hv : (1 : Int) = bI (ruG G c.toNat) := by omega
      refine R_iconst rfl ?_
      refine R_goto rfl ?_
      exact R_ireturn rfl (fun _ => by first | exact Or.inl rfl | exact Or.inr rfl) (Nat.zero_le _) (Nat.zero_le _) (by first | exact moQ_v hQ ho hY2 ((fr_up fr.refl (by omega)).trans (f2.wide (by omega))) hv | exact moQ_t hQ ho rfl (isMo_th hY) (fr_up fr.refl (by omega)))
