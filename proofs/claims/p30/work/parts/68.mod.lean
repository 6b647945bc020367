/-! ===== what each call answers: 0 and the value, or which throw; the state then ===== -/
abbrev Op : Type := Nat × Int × Sy
def opAppend (y : Sy) (c : Int) : Op := if 0 ≤ c ∧ c ≤ 255 then (if y.2.2.2.1 = 150 then (2, 0, y) else (0, ((y.2.2.2.1 + 1 : Nat) : Int), (y.1, y.2.1, y.2.2.1, y.2.2.2.1 + 1, va_up y.2.2.2.2 y.2.2.2.1 c))) else (1, 0, y)
def opClear (y : Sy) : Op := (0, ((y.2.2.2.1 : Nat) : Int), (y.1, y.2.1, y.2.2.1, 0, y.2.2.2.2))
def opErr (y : Sy) : Op := (0, (if (gdF y.2.2.2.1 y.2.2.2.2).1 = true then -9 else ((gdF y.2.2.2.1 y.2.2.2.2).2.1 : Int)), y)
def opLoad (y : Sy) : Op := if (gdF y.2.2.2.1 y.2.2.2.2).1 = true then (0, ((qM (gdF y.2.2.2.1 y.2.2.2.2).2.2 : Nat) : Int), ((gdF y.2.2.2.1 y.2.2.2.2).2.2, [], fun _ => none, y.2.2.2)) else (1, 0, y)
def opAbout (y : Sy) (c : Int) : Op := if 0 ≤ c ∧ c ≤ 10 then (0, abG y.1 c.toNat, y) else (1, 0, y)
def opCell (y : Sy) (c k : Int) : Op := if 0 ≤ c ∧ c < qM y.1 then (if 0 ≤ k ∧ k ≤ 6 then (0, celG y.1 c.toNat k.toNat, y) else (2, 0, y)) else (1, 0, y)
def opEntry (y : Sy) (c k : Int) : Op := if 0 ≤ c ∧ c < nE y.1 then (if 0 ≤ k ∧ k ≤ 6 then (0, entG y.1 c.toNat k.toNat, y) else (2, 0, y)) else (1, 0, y)
def opWord (y : Sy) (c k : Int) : Op := if 0 ≤ c ∧ c < qW y.1 then (if 0 ≤ k then (0, worG y.1 c.toNat k.toNat, y) else (2, 0, y)) else (1, 0, y)
def opFits (y : Sy) (c : Int) : Op := if 0 ≤ c ∧ c < nE y.1 then (0, ((fcG y.1 c.toNat : Nat) : Int), y) else (1, 0, y)
def opRule (y : Sy) (c : Int) : Op := if 0 ≤ c ∧ c < 5 then (0, bI (ruG y.1 c.toNat), y) else (1, 0, y)
def opReadings (y : Sy) : Op := (0, (((rdS y.1 false 2147483647).1 : Nat) : Int), y)
def fstG (G : Gr) (i : Nat) : Int := match (rdS G false 1).2 with
  | some R => (match R[i]? with
    | some x => (x : Int)
    | none => -9)
  | none => -9
def opReading (y : Sy) (i : Int) : Op := if 0 ≤ i then (0, fstG y.1 i.toNat, y) else (1, 0, y)
def actS (y : Sy) (G : Gr) : Sy := (G, rem14 y.2.1 y.1, y.2.2)
def opPut (y : Sy) (c l : Int) : Op := if 0 ≤ c ∧ c < qM y.1 then (if l = 0 ∨ isLb l = true then (0, qL y.1 c.toNat, actS y (setL y.1 c.toNat l)) else (2, 0, y)) else (1, 0, y)
def opSetBar (y : Sy) (c : Int) (b v : Bool) : Op := if 0 ≤ c ∧ c < qM y.1 then (if qPb y.1 c.toNat b = true then (0, ((nE (setBr y.1 c.toNat b v) : Nat) : Int), actS y (setBr y.1 c.toNat b v)) else (2, 0, y)) else (1, 0, y)
def lwF (n : Nat) (tx : Nat → Int) : Nat → Nat → Gr → Gr
  | 0, _, G => G
  | r + 1, i, G => lwF n tx r (i + 1) (lenW G (sg n tx i))
def liF (n : Nat) (tx : Nat → Int) : Nat → Nat → Gr → Gr
  | 0, _, G => G
  | r + 1, i, G => liF n tx r (i + 1) (lenN G (sg n tx i))
def opAddWord (y : Sy) : Op := if iwG y.2.2.2.1 y.2.2.2.2 2 = true ∧ qW y.1 < 8 then (0, ((qW y.1 : Nat) : Int), actS y (lwF y.2.2.2.1 y.2.2.2.2 y.2.2.2.1 0 (begW y.1))) else (1, 0, y)
def opSetLine (y : Sy) : Op := if iwG y.2.2.2.1 y.2.2.2.2 1 = true then (0, ((y.2.2.2.1 : Nat) : Int), actS y (liF y.2.2.2.1 y.2.2.2.2 y.2.2.2.1 0 (noN y.1))) else (1, 0, y)
def opWrite (y : Sy) (e w : Int) : Op := if (0 ≤ e ∧ e < nE y.1) ∧ 0 ≤ w ∧ w < qW y.1 then (if fiG y.1 e.toNat w.toNat = true then (0, ((emG y.1 e.toNat : Nat) : Int), actS y (setLs y.1 (filL y.1 e.toNat w.toNat (eN y.1 e.toNat) 0 (qL y.1)))) else (2, 0, y)) else (1, 0, y)
def opErase (y : Sy) (e : Int) : Op := if 0 ≤ e ∧ e < nE y.1 then (0, (((claF y.1 e.toNat (eN y.1 e.toNat) 0 (qL y.1) 0).2 : Nat) : Int), actS y (setLs y.1 (claF y.1 e.toNat (eN y.1 e.toNat) 0 (qL y.1) 0).1)) else (1, 0, y)
def opUndo (y : Sy) : Op := match y.2.1.getLast? with
  | some G => (0, ((y.2.1.length - 1 : Nat) : Int), (G, y.2.1.dropLast, y.2.2))
  | none => (1, 0, y)
def opPossible (y : Sy) : Op := (0, (((rdS y.1 true 9999).1 : Nat) : Int), y)
def opFillings (y : Sy) : Op := (0, ((flG y.1 : Nat) : Int), y)
def opSave (y : Sy) (s : Int) : Op := if 0 ≤ s ∧ s < 2 then (0, ((nE y.1 : Nat) : Int), (y.1, y.2.1, va_up y.2.2.1 s.toNat (some y.1), y.2.2.2)) else (1, 0, y)
def opRestore (y : Sy) (s : Int) : Op := if 0 ≤ s ∧ s < 2 then (match y.2.2.1 s.toNat with
  | some G => (0, ((nE G : Nat) : Int), (G, [], y.2.2))
  | none => (2, 0, y)) else (1, 0, y)
/-- the model's call: what it leaves and answers -/
def moQ (p : Op) (h : AH) (N : Nat) (Q : AQ) : Prop := ∀ h' b, isMo h' p.2.2 p.1 → fr h h' 122 17 → (p.1 = 0 → b = p.2.1) → Q (.inl (some (vI b))) h' N
theorem moQ_t {p : Op} {h h' : AH} {N k : Nat} {Q : AQ} {y : Sy} {kz v b : Int} (hQ : moQ p h N Q) (ho : p = (k + 1, v, y)) (hz : kz = ((k + 1 : Nat) : Int)) (hM : isMo h' y kz) (hf : fr h h' 122 17) : Q (.inl (some (vI b))) h' N := by
  subst hz
  subst ho
  exact hQ h' b hM hf (fun q => absurd q (Nat.succ_ne_zero k))
theorem moQ_v {p : Op} {h h' : AH} {N : Nat} {Q : AQ} {y : Sy} {v b : Int} (hQ : moQ p h N Q) (ho : p = (0, v, y)) (hM : isMo h' y 0) (hf : fr h h' 122 17) (hv : b = v) : Q (.inl (some (vI b))) h' N := by
  subst ho
  exact hQ h' b hM hf (fun _ => hv)
theorem isMo_th {h : AH} {G : Gr} {hist : List Gr} {sl : Nat → Option Gr} {n : Nat} {tx : Nat → Int} {th th' : Int} (hY : isMo h (G, hist, sl, n, tx) th) : isMo (va_up h 122 (moO th' n hist.length (nE G))) (G, hist, sl, n, tx) th' := by
  obtain ⟨hM, hG, hT, hHi, hSv, hRw⟩ := hY
  exact ⟨isMg_o hM, hG, isMt_fr hT (va_up_ne _ _ (by decide)), isHi_fr hHi (va_up_ne _ _ (by decide)), isSv_fr hSv (va_up_ne _ _ (by decide)) (va_up_ne _ _ (by decide)), isRows_fr hRw (fun j hj => va_up_ne _ _ (by omega))⟩
theorem isMo_g {h h' : AH} {G G' : Gr} {hist hist' : List Gr} {sl : Nat → Option Gr} {n : Nat} {tx : Nat → Int} {th th' : Int} (hY : isMo h (G, hist, sl, n, tx) th) (hM : isMg h' G' th' n hist'.length) (hG : okG G') (hH : isHi h' hist') (hf : ∀ j, ¬ (j = 122 ∨ j = 124 ∨ j = 127 ∨ (130 ≤ j ∧ j ≤ 135)) → h' j = h j) : isMo h' (G', hist', sl, n, tx) th' := by
  obtain ⟨-, -, hT, -, hSv, hRw⟩ := hY
  exact ⟨hM, hG, isMt_fr hT (hf _ (by decide)), hH, isSv_fr hSv (hf _ (by decide)) (hf _ (by decide)), isRows_fr hRw (fun j hj => hf _ (by omega))⟩
theorem isMo_re {h h' : AH} {y : Sy} {th : Int} (hY : isMo h y th) (hE : isRe h') (hf : fr h h' 136 1) : isMo h' y th := by
  obtain ⟨hM, hG, hT, hHi, hSv, ⟨⟨a, ha⟩, ⟨b, hb⟩, -, ⟨c, hd⟩, f, hf2⟩⟩ := hY
  exact ⟨isMg_f hM hf (by decide), hG, isMt_fr hT (hf _ (by omega)), isHi_fr hHi (hf _ (by omega)), isSv_fr hSv (hf _ (by omega)) (hf _ (by omega)), ⟨a, (hf _ (by omega)).trans ha⟩, ⟨b, (hf _ (by omega)).trans hb⟩, hE, ⟨c, (hf _ (by omega)).trans hd⟩, f, (hf _ (by omega)).trans hf2⟩
