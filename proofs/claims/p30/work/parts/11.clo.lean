/-! ===== throws and handlers; all rows together ===== -/
def exNames : List String := ["java/lang/RuntimeException", "java/lang/Exception"]
def ThrOk (own : String) (cc : ByteArray) (pc : Nat) (X : String) : Prop :=
  own = RX8 ∧ X ∈ aExc ∧ ∃ (ik is ic : Nat) (text : String), decode cc pc = .ok (.new ik, 3) ∧ decode cc (pc + 3) = .ok (.dup, 1) ∧
    ((decode cc (pc + 4) = .ok (.ldc is, 2) ∧ decode cc (pc + 6) = .ok (.invokespecial ic, 3) ∧ decode cc (pc + 9) = .ok (.athrow, 1)) ∨ (decode cc (pc + 4) = .ok (.ldc_w is, 3) ∧ decode cc (pc + 7) = .ok (.invokespecial ic, 3) ∧ decode cc (pc + 10) = .ok (.athrow, 1))) ∧
    Jvm.Cond.classLink RX8 ik X ∈ wG ∧ Jvm.Cond.initialized X ∈ wG ∧ (is, text) ∈ aStr ∧ (∀ w ∈ (vx_atS RX8 ic X exNames).filter goodWord, w ∈ wG) ∧ (∀ w ∈ (vx_atS RX8 ic X exNames).filter (fun w => !goodWord w), w ∈ Jvm.Cond.castable X X :: aDcl.map Jvm.Cond.declares) ∧
    (∀ w ∈ Jvm.Cond.classLink RX8 ik X :: Jvm.Cond.initialized X :: vx_atS RX8 ic X exNames, vx_ot w = true) ∧ Bundle.fit X = true ∧ ∀ n ∈ exNames, Bundle.fit n = true
def HndOk (own : String) (cc : ByteArray) (nL : Nat) (a : Nat × Nat × Nat × Nat × String) (b : Nat × Nat × Nat × Nat) : Prop := False
def iLen : Instr → Nat
  | .bipush _ | .ldc _ | .iload _ | .lload _ | .aload _ | .istore _ | .lstore _ | .astore _ | .newarray _ => 2
  | .sipush _ | .ldc_w _ | .ldc2_w _ | .getfield _ | .putfield _ | .getstatic _ | .invokevirtual _ | .invokestatic _ | .invokespecial _ | .new _ | .anewarray _ | .goto _ | .ifCond _ _ | .if_icmp _ _ | .iinc _ _ => 3
  | _ => 1
def chk2 (own : String) (nL : Nat) (nm : String) (I : MI) (pc : Nat) (i : Instr) (tg : List Nat) : Bool := match i with
  | .bipush z => decide ((Int8.ofInt z).toInt32 = iI z)
  | .sipush z => decide ((Int16.ofInt z).toInt32 = iI z)
  | .istore a => decide (a < nL)
  | .istore_n a => decide ((a : Nat) < nL)
  | .astore a => decide (a < nL)
  | .astore_n a => decide ((a : Nat) < nL)
  | .lstore a => decide (a + 1 < nL)
  | .lstore_n a => decide ((a : Nat) + 1 < nL)
  | .goto off => match tg with
    | t :: _ => decide ((pc : Int) + off = (t : Int))
    | [] => false
  | .ifCond _ off => match tg with
    | t :: _ => decide ((pc : Int) + off = (t : Int))
    | [] => false
  | .if_icmp _ off => match tg with
    | t :: _ => decide ((pc : Int) + off = (t : Int))
    | [] => false
  | .putfield x => match lk I.fld x with
    | some (ci, j) => match vwCl[ci]? with
      | some q => !(q.2.1 j).2.2.2 || (decide (nm = "<init>") && decide ((q.2.1 j).1 = own))
      | none => false
    | none => false
  | .getstatic x => decide (own = RX2) && (decide (x = 68 ∧ tg = [1001]) || decide (x = 71 ∧ tg = [1002]))
  | _ => true
def chkSw (cc : ByteArray) (pc : Nat) (i : Instr) (d lo hi : Int) (offs : Array Int) (tg : List Nat) : Bool := (match decode cc pc with
    | .ok (j, _) => decide (j = i)
    | _ => false) && match tg with
    | t :: ts => decide ((pc : Int) + d = (t : Int)) && decide (offs.size = ts.length) && decide ((ts.length : Int) = hi - lo + 1) && (List.range ts.length).all (fun q => decide ((pc : Int) + offs.toList.getD q 0 = ((ts.getD q 0 : Nat) : Int)))
    | [] => false
def chk (own : String) (cc : ByteArray) (nL : Nat) (nm : String) (I : MI) (pc : Nat) (i : Instr) (nx : Nat) (tg : List Nat) : Bool := match i with
  | .tableswitch d lo hi offs => chkSw cc pc i d lo hi offs tg
  | _ => decide (decode cc pc = .ok (i, iLen i)) && decide (nx = pc + iLen i) && chk2 own nL nm I pc i tg
theorem chk_spec {own : String} {cc : ByteArray} {nL : Nat} {nm : String} {I : MI} {pc : Nat} {i : Instr} {nx : Nat} {tg : List Nat} (h : chk own cc nL nm I pc i nx tg = true) (hi : ∀ d lo hi offs, i ≠ .tableswitch d lo hi offs) : decode cc pc = .ok (i, iLen i) ∧ nx = pc + iLen i ∧ chk2 own nL nm I pc i tg = true := by
  unfold chk at h
  split at h
  · exact absurd rfl (hi _ _ _ _)
  · simp only [Bool.and_eq_true, decide_eq_true_eq] at h
    exact ⟨h.1.1, h.1.2, h.2⟩
/-- what is decided of a method -/
def MOk (own : String) (cc : ByteArray) (nL : Nat) (nm : String) (I : MI) (hh : List (Nat × Nat × Nat × Nat)) : Prop :=
  (∀ pc i nx tg, lk I.code pc = some (i, nx, tg) → lk I.thr pc = none → chk own cc nL nm I pc i nx tg = true) ∧
  (∀ x ci j, lk I.fld x = some (ci, j) → ∃ q, vwCl[ci]? = some q ∧ j < q.2.2 ∧ Jvm.Cond.fieldLink own x (q.2.1 j).1 (q.2.1 j).2.1 (q.2.1 j).2.2.1 ∈ wG) ∧
  (∀ x e, lk I.mth x = some e → MthOk own x e) ∧
  (∀ pc X, lk I.thr pc = some X → ThrOk own cc pc X) ∧
  (∀ x ci, lk I.cls x = some ci → ∃ q, vwCl[ci]? = some q ∧ Jvm.Cond.classLink own x q.1 ∈ wG ∧ Jvm.Cond.instantiable q.1 q.2.2 ∈ wG ∧ Jvm.Cond.initialized q.1 ∈ wG) ∧
  (∀ pc x nx tg v, lk I.code pc = some (.ldc x, nx, tg) → lk I.cst x = some v → ∃ w : Int32, v.toInt = w.toInt ∧ Jvm.Cond.constant own x w ∈ wG) ∧
  (∀ pc x nx tg v, lk I.code pc = some (.ldc2_w x, nx, tg) → lk I.cst x = some v → Jvm.Cond.constantLong own x v ∈ wG) ∧
  (∀ pc x nx tg, lk I.code pc = some (.anewarray x, nx, tg) → Jvm.Cond.classLink own x RX6 ∈ wG) ∧
  (∀ pc X i nx tg, lk I.thr pc = some X → lk I.code pc = some (i, nx, tg) → ∃ x, i = .new x) ∧
  I.hnd.length = hh.length ∧ ∀ (i : Nat) a b, I.hnd[i]? = some a → hh[i]? = some b → HndOk own cc nL a b
section AMT
variable {p : Program} {l : Launch} {e : Env} {R : Room} {s : State} {m : MethodId} {args : Array Value} {below : List Frame} {meth : Method} {c : Code} {Qf : State → Prop}
variable {cc : ByteArray} {E : AEnv} {ad0 : Nat → Nat} {N0 nL pc : Nat} {lv : AL} {st : List AV} {h : AH} {N k n : Nat} {I : MI} {Q : AQ}
/-- a thrown exception, caught here -/
theorem r_catch {own X : String} {hh : List (Nat × Nat × Nat × Nat)} {a : Nat × Nat × Nat × Nat × String} {ce : Cell} {q : Addr} {ad : Nat → Nat} {H : Heap} {locs : List Loc} {ls : Array Slot} {rest : List Value} (hx : p.tables.exec = Jvm.exec) (hb : c.code = cc) (hown : s.vm.findClass own = some m.cls) (hG : ∀ w ∈ wG, w.before args s = true) (hA : Amb E s)
    (htab : c.exceptionTable.toList = tableOf hh) (hln : I.hnd.length = hh.length) (hok : ∀ (i : Nat) a b, I.hnd[i]? = some a → hh[i]? = some b → HndOk own cc nL a b)
    (hf : I.hnd.find? (fun q => decide (q.1 ≤ pc) && decide (pc < q.2.1) && decide (q.2.2.2.2 = X)) = some a) (hj : amJ p l e R s m args below meth c Qf E ad0 N0 nL a.2.2.1 (aUn a.2.2.2.1 lv) [] h N k n)
    (hR : Rel E s ad0 N0 ad h N H locs) (hL : Lh ad ls nL lv) (hce : H[q]? = some ce) (hcv : ce.vm = .none) (hcl : s.vm.findClass X = some ce.cls) : vx_W p l e R s m args below meth c H locs k n Qf (F0 m pc ls rest) q := by
  obtain ⟨hpa, i, hi, hia, hlt⟩ := List.find?_eq_some_iff_getElem.mp hf
  have hi2 : i < hh.length := by omega
  have ea : I.hnd[i]? = some a := by rw [List.getElem?_eq_getElem hi, hia]
  exact (hok i a hh[i] ea (List.getElem?_eq_getElem hi2)).elim
/-- how a body ends: a throw of its own, a callee's throw that goes through, a return -/
def Ends (p : Program) (l : Launch) (e : Env) (R : Room) (s : State) (m : MethodId) (args : Array Value) (below : List Frame) (meth : Method) (c : Code) (Qf : State → Prop) (E : AEnv) (ad0 : Nat → Nat) (N0 nL : Nat) (I : MI) (C : AC) (Q : AQ) : Prop :=
  (∀ pc lv st h N k n X, lk I.thr pc = some X → aCats st ≤ 8 → k + 1 ≤ I.mc → n + 6 ≤ I.ms → I.hnd = [] → Q (.inr X) h N → amJ p l e R s m args below meth c Qf E ad0 N0 nL pc lv st h N k n) ∧
  (∀ pc X h N k n ce q ad H locs ls rest, I.hnd = [] → Q (.inr X) h N → k ≤ I.mc → n ≤ I.ms → Rel E s ad0 N0 ad h N H locs → H[q]? = some ce → ce.vm = .none → s.vm.findClass X = some ce.cls → vx_W p l e R s m args below meth c H locs k n Qf (F0 m pc ls rest) q) ∧
  (∀ pc i nx tg lv st h N k n, lk I.code pc = some (i, nx, tg) → (i = .ireturn ∨ i = .lreturn ∨ i = .areturn ∨ i = .return_) → stepI I C Q (amJ p l e R s m args below meth c Qf E ad0 N0 nL) i nx tg pc lv st h N k n → amJ p l e R s m args below meth c Qf E ad0 N0 nL pc lv st h N k n)
theorem am_clo {own : String} {hh : List (Nat × Nat × Nat × Nat)} {d : Nat} {C : AC} (hx : p.tables.exec = Jvm.exec) (hb : c.code = cc) (hml : c.maxLocals = nL) (hown : s.vm.findClass own = some m.cls) (hG : ∀ w ∈ wG, w.before args s = true) (hCl : ∀ ci q, vwCl[ci]? = some q → ClOk ci q) (hAC : Jvm.Cond.arrayClass .int ∈ wG ∧ Jvm.Cond.arrayClass .boolean ∈ wG) (hA : Amb E s)
    (hRf : d + 9 ≤ R.frames) (hRl : 140 + 40 * d ≤ R.locals) (hRc : I.mc ≤ R.cells) (hRs : I.ms ≤ R.slots) (hOk : MOk own cc nL meth.name I hh) (htab : I.hnd ≠ [] → c.exceptionTable.toList = tableOf hh)
    (hT : ∀ y as h N Qy, C y as h N Qy → MetY l E d y as h N Qy) (hE : Ends p l e R s m args below meth c Qf E ad0 N0 nL I C Q) : Clo I C Q (amJ p l e R s m args below meth c Qf E ad0 N0 nL) := by
  obtain ⟨k1, k2, k3, k4, k5, k6, k7, k8, k0, k9, k10⟩ := hOk
  have k11 : ∀ pc X i nx tg, lk I.thr pc = some X → lk I.code pc = some (i, nx, tg) → (∀ x, i ≠ .new x) → False := fun pc X i nx tg h1 h2 h3 => by
    obtain ⟨x, hx⟩ := k0 pc X i nx tg h1 h2
    exact h3 x hx
  obtain ⟨e1, e2, e3⟩ := hE
  have hK := hA.2.1
  have hAm := hA.1
  -- a callee's throw
  have hthr : ∀ {pc : Nat} {lv : AL} {k n : Nat} {ls : Array Slot} {rest : List Value} (X : String) (ce : Cell) (q : Addr) (ad' : Nat → Nat) (H1 : Heap) (locs1 : List Loc) (h' : AH) (N' : Nat), aThr I Q (amJ p l e R s m args below meth c Qf E ad0 N0 nL) X pc lv h' N' k n → Rel E s ad0 N0 ad' h' N' H1 locs1 → Lh ad' ls nL lv → H1[q]? = some ce → ce.vm = .none → s.vm.findClass X = some ce.cls → vx_W p l e R s m args below meth c H1 locs1 k n Qf (F0 m pc ls rest) q := by
    intro pc lv k n ls rest X ce q ad' H1 locs1 h' N' ht hR hL hce hcv hcl
    unfold aThr at ht
    split at ht
    · rename_i a hf
      exact r_catch hx hb hown hG hA (htab (fun hz => by rw [hz] at hf; cases hf)) k9 k10 hf ht hR hL hce hcv hcl
    · exact e2 _ _ _ _ _ _ _ _ _ _ _ _ _ ht.1 ht.2.1 ht.2.2.1 ht.2.2.2 hR hce hcv hcl
  -- a call
  have hcall : ∀ {pc x : Nat} {lv : AL} {st : List AV} {h : AH} {N k n : Nat} {y kd na mc ms rc : Nat} {thr : Bool}, lk I.mth x = some (y, kd, na, mc, ms, rc) →
      ((kd = 0 ∧ aRcv rc (st.take na).reverse h N ∧ decode cc pc = .ok (.invokevirtual x, 3)) ∨ ((kd = 1 ∨ kd = 7 ∨ kd = 3) ∧ decode cc pc = .ok (.invokestatic x, 3)) ∨ ((kd = 2 ∨ kd = 4) ∧ decode cc pc = .ok (.invokespecial x, 3))) →
      (kd = 3 ∨ kd = 2 ∨ kd = 4 → thr = false) → (kd = 2 ∨ kd = 4 → aRecR (st.take na).reverse) → aCall I C Q (amJ p l e R s m args below meth c Qf E ad0 N0 nL) thr y na mc ms (pc + 3) pc lv st h N k n → amJ p l e R s m args below meth c Qf E ad0 N0 nL pc lv st h N k n := by
    intro pc x lv st h N k n y kd na mc ms rc thr hm hk hnt hrec hc
    obtain ⟨⟨c1, c2, c3, c4⟩, hc⟩ := hc
    intro ad H locs ls hR hL
    obtain ⟨a, hrun⟩ := r_call (k := k) (n := n) hx hb hml hown hG hA hRf hRl (k3 _ _ hm) (hT _ _ _ _ _ hc) hk (fun q X h' N' hz => by
      have h1 := hnt q
      obtain ⟨-, h2, -⟩ := hz
      rw [h1] at h2
      cases h2) hrec c1 c2 (by omega) (by omega) hR hL
    exact r_run hR hL hrun (fun X ce q ad' H1 locs1 h' N' _ ht => hthr X ce q ad' H1 locs1 h' N' ht)
  refine ⟨fun pc lv st h N k n hs => ?_, fun pc lv lv' st h N k n hl hle hj => fun ad H locs ls hR hL => hj ad H locs ls hR (hL.less hl hle)⟩
  unfold step at hs
  split at hs
  case h_2 => exact hs.elim
  rename_i i nx tg hc
  cases hth : lk I.thr pc with
  | some X =>
    cases i with
    | new x =>
      simp only [stepI, hth] at hs
      exact e1 _ _ _ _ _ _ _ _ hth hs.1 hs.2.1 hs.2.2.1 hs.2.2.2.1 hs.2.2.2.2
    | _ => exact (k11 _ _ _ _ _ hth hc (fun _ h => by cases h)).elim
  | none =>
    have hk := k1 pc i nx tg hc hth
    cases i with
    | iconst z =>
      obtain ⟨hd, hn, hk2⟩ := chk_spec hk (by intros; intro hz; cases hz)
      clear hk
      try simp only [chk2, decide_eq_true_eq] at hk2
      subst hn
      simp only [stepI] at hs
      exact r_iconst hx hb hd hs
    | bipush z =>
      obtain ⟨hd, hn, hk2⟩ := chk_spec hk (by intros; intro hz; cases hz)
      clear hk
      try simp only [chk2, decide_eq_true_eq] at hk2
      have hz := hk2
      subst hn
      simp only [stepI] at hs
      exact r_bipush hx hb hd hz hs
    | sipush z =>
      obtain ⟨hd, hn, hk2⟩ := chk_spec hk (by intros; intro hz; cases hz)
      clear hk
      try simp only [chk2, decide_eq_true_eq] at hk2
      have hz := hk2
      subst hn
      simp only [stepI] at hs
      exact r_sipush hx hb hd hz hs
    | lconst z =>
      obtain ⟨hd, hn, hk2⟩ := chk_spec hk (by intros; intro hz; cases hz)
      clear hk
      try simp only [chk2, decide_eq_true_eq] at hk2
      subst hn
      simp only [stepI] at hs
      exact r_lconst hx hb hd hs
    | ldc x =>
      obtain ⟨hd, hn, hk2⟩ := chk_spec hk (by intros; intro hz; cases hz)
      clear hk
      try simp only [chk2, decide_eq_true_eq] at hk2
      subst hn
      simp only [stepI] at hs
      split at hs
      case h_2 => exact hs.elim
      rename_i v hv
      obtain ⟨w, w1, w2⟩ := k6 _ _ _ _ _ hc hv
      rw [w1] at hs
      exact r_ldc hx hb hown (hG _ w2) hd hs
    | ldc2_w x =>
      obtain ⟨hd, hn, hk2⟩ := chk_spec hk (by intros; intro hz; cases hz)
      clear hk
      try simp only [chk2, decide_eq_true_eq] at hk2
      subst hn
      simp only [stepI] at hs
      split at hs
      case h_2 => exact hs.elim
      rename_i v hv
      exact r_ldc2 hx hb hown (hG _ (k7 _ _ _ _ _ hc hv)) hd hs
    | iload a =>
      obtain ⟨hd, hn, hk2⟩ := chk_spec hk (by intros; intro hz; cases hz)
      clear hk
      try simp only [chk2, decide_eq_true_eq] at hk2
      subst hn
      simp only [stepI] at hs
      split at hs
      case h_2 => exact hs.elim
      rename_i z hv
      exact r_iload hx hb hd hv hs
    | iload_n a =>
      obtain ⟨hd, hn, hk2⟩ := chk_spec hk (by intros; intro hz; cases hz)
      clear hk
      try simp only [chk2, decide_eq_true_eq] at hk2
      subst hn
      simp only [stepI] at hs
      split at hs
      case h_2 => exact hs.elim
      rename_i z hv
      exact r_iload_n hx hb hd hv hs
    | lload a =>
      obtain ⟨hd, hn, hk2⟩ := chk_spec hk (by intros; intro hz; cases hz)
      clear hk
      try simp only [chk2, decide_eq_true_eq] at hk2
      subst hn
      simp only [stepI] at hs
      split at hs
      case h_2 => exact hs.elim
      rename_i z hv
      exact r_lload hx hb hd hv hs
    | lload_n a =>
      obtain ⟨hd, hn, hk2⟩ := chk_spec hk (by intros; intro hz; cases hz)
      clear hk
      try simp only [chk2, decide_eq_true_eq] at hk2
      subst hn
      simp only [stepI] at hs
      split at hs
      case h_2 => exact hs.elim
      rename_i z hv
      exact r_lload_n hx hb hd hv hs
    | aload a =>
      obtain ⟨hd, hn, hk2⟩ := chk_spec hk (by intros; intro hz; cases hz)
      clear hk
      try simp only [chk2, decide_eq_true_eq] at hk2
      subst hn
      simp only [stepI] at hs
      split at hs
      case h_2 => exact hs.elim
      rename_i z hv
      exact r_aload hx hb hd hv hs
    | aload_n a =>
      obtain ⟨hd, hn, hk2⟩ := chk_spec hk (by intros; intro hz; cases hz)
      clear hk
      try simp only [chk2, decide_eq_true_eq] at hk2
      subst hn
      simp only [stepI] at hs
      split at hs
      case h_2 => exact hs.elim
      rename_i z hv
      exact r_aload_n hx hb hd hv hs
    | istore a =>
      obtain ⟨hd, hn, hk2⟩ := chk_spec hk (by intros; intro hz; cases hz)
      clear hk
      try simp only [chk2, decide_eq_true_eq] at hk2
      have hi := hk2
      subst hn
      simp only [stepI] at hs
      split at hs
      case h_2 => exact hs.elim
      exact r_istore hx hb hi hd hs
    | istore_n a =>
      obtain ⟨hd, hn, hk2⟩ := chk_spec hk (by intros; intro hz; cases hz)
      clear hk
      try simp only [chk2, decide_eq_true_eq] at hk2
      have hi := hk2
      subst hn
      simp only [stepI] at hs
      split at hs
      case h_2 => exact hs.elim
      exact r_istore_n hx hb hi hd hs
    | lstore a =>
      obtain ⟨hd, hn, hk2⟩ := chk_spec hk (by intros; intro hz; cases hz)
      clear hk
      try simp only [chk2, decide_eq_true_eq] at hk2
      have hi := hk2
      subst hn
      simp only [stepI] at hs
      split at hs
      case h_2 => exact hs.elim
      exact r_lstore hx hb hi hd hs
    | lstore_n a =>
      obtain ⟨hd, hn, hk2⟩ := chk_spec hk (by intros; intro hz; cases hz)
      clear hk
      try simp only [chk2, decide_eq_true_eq] at hk2
      have hi := hk2
      subst hn
      simp only [stepI] at hs
      split at hs
      case h_2 => exact hs.elim
      exact r_lstore_n hx hb hi hd hs
    | astore a =>
      obtain ⟨hd, hn, hk2⟩ := chk_spec hk (by intros; intro hz; cases hz)
      clear hk
      try simp only [chk2, decide_eq_true_eq] at hk2
      have hi := hk2
      subst hn
      simp only [stepI] at hs
      split at hs
      case h_2 => exact hs.elim
      exact r_astore hx hb hi hd hs
    | astore_n a =>
      obtain ⟨hd, hn, hk2⟩ := chk_spec hk (by intros; intro hz; cases hz)
      clear hk
      try simp only [chk2, decide_eq_true_eq] at hk2
      have hi := hk2
      subst hn
      simp only [stepI] at hs
      split at hs
      case h_2 => exact hs.elim
      exact r_astore_n hx hb hi hd hs
    | iinc a y =>
      obtain ⟨hd, hn, hk2⟩ := chk_spec hk (by intros; intro hz; cases hz)
      clear hk
      try simp only [chk2, decide_eq_true_eq] at hk2
      subst hn
      simp only [stepI] at hs
      split at hs
      case h_2 => exact hs.elim
      rename_i z hv
      exact r_iinc hx hb hd hv hs
    | iadd =>
      obtain ⟨hd, hn, hk2⟩ := chk_spec hk (by intros; intro hz; cases hz)
      clear hk
      try simp only [chk2, decide_eq_true_eq] at hk2
      subst hn
      simp only [stepI] at hs
      split at hs
      case h_2 => exact hs.elim
      exact r_iadd hx hb hd hs
    | isub =>
      obtain ⟨hd, hn, hk2⟩ := chk_spec hk (by intros; intro hz; cases hz)
      clear hk
      try simp only [chk2, decide_eq_true_eq] at hk2
      subst hn
      simp only [stepI] at hs
      split at hs
      case h_2 => exact hs.elim
      exact r_isub hx hb hd hs
    | imul =>
      obtain ⟨hd, hn, hk2⟩ := chk_spec hk (by intros; intro hz; cases hz)
      clear hk
      try simp only [chk2, decide_eq_true_eq] at hk2
      subst hn
      simp only [stepI] at hs
      split at hs
      case h_2 => exact hs.elim
      exact r_imul hx hb hd hs
    | iand =>
      obtain ⟨hd, hn, hk2⟩ := chk_spec hk (by intros; intro hz; cases hz)
      clear hk
      try simp only [chk2, decide_eq_true_eq] at hk2
      subst hn
      simp only [stepI] at hs
      split at hs
      case h_2 => exact hs.elim
      exact r_iand hx hb hd hs
    | ior =>
      obtain ⟨hd, hn, hk2⟩ := chk_spec hk (by intros; intro hz; cases hz)
      clear hk
      try simp only [chk2, decide_eq_true_eq] at hk2
      subst hn
      simp only [stepI] at hs
      split at hs
      case h_2 => exact hs.elim
      exact r_ior hx hb hd hs
    | ixor =>
      obtain ⟨hd, hn, hk2⟩ := chk_spec hk (by intros; intro hz; cases hz)
      clear hk
      try simp only [chk2, decide_eq_true_eq] at hk2
      subst hn
      simp only [stepI] at hs
      split at hs
      case h_2 => exact hs.elim
      exact r_ixor hx hb hd hs
    | ishl =>
      obtain ⟨hd, hn, hk2⟩ := chk_spec hk (by intros; intro hz; cases hz)
      clear hk
      try simp only [chk2, decide_eq_true_eq] at hk2
      subst hn
      simp only [stepI] at hs
      split at hs
      case h_2 => exact hs.elim
      exact r_ishl hx hb hd hs
    | ishr =>
      obtain ⟨hd, hn, hk2⟩ := chk_spec hk (by intros; intro hz; cases hz)
      clear hk
      try simp only [chk2, decide_eq_true_eq] at hk2
      subst hn
      simp only [stepI] at hs
      split at hs
      case h_2 => exact hs.elim
      exact r_ishr hx hb hd hs
    | ladd =>
      obtain ⟨hd, hn, hk2⟩ := chk_spec hk (by intros; intro hz; cases hz)
      clear hk
      try simp only [chk2, decide_eq_true_eq] at hk2
      subst hn
      simp only [stepI] at hs
      split at hs
      case h_2 => exact hs.elim
      exact r_ladd hx hb hd hs
    | lsub =>
      obtain ⟨hd, hn, hk2⟩ := chk_spec hk (by intros; intro hz; cases hz)
      clear hk
      try simp only [chk2, decide_eq_true_eq] at hk2
      subst hn
      simp only [stepI] at hs
      split at hs
      case h_2 => exact hs.elim
      exact r_lsub hx hb hd hs
    | lmul =>
      obtain ⟨hd, hn, hk2⟩ := chk_spec hk (by intros; intro hz; cases hz)
      clear hk
      try simp only [chk2, decide_eq_true_eq] at hk2
      subst hn
      simp only [stepI] at hs
      split at hs
      case h_2 => exact hs.elim
      exact r_lmul hx hb hd hs
    | land =>
      obtain ⟨hd, hn, hk2⟩ := chk_spec hk (by intros; intro hz; cases hz)
      clear hk
      try simp only [chk2, decide_eq_true_eq] at hk2
      subst hn
      simp only [stepI] at hs
      split at hs
      case h_2 => exact hs.elim
      exact r_land hx hb hd hs
    | lor =>
      obtain ⟨hd, hn, hk2⟩ := chk_spec hk (by intros; intro hz; cases hz)
      clear hk
      try simp only [chk2, decide_eq_true_eq] at hk2
      subst hn
      simp only [stepI] at hs
      split at hs
      case h_2 => exact hs.elim
      exact r_lor hx hb hd hs
    | lxor =>
      obtain ⟨hd, hn, hk2⟩ := chk_spec hk (by intros; intro hz; cases hz)
      clear hk
      try simp only [chk2, decide_eq_true_eq] at hk2
      subst hn
      simp only [stepI] at hs
      split at hs
      case h_2 => exact hs.elim
      exact r_lxor hx hb hd hs
    | lshl =>
      obtain ⟨hd, hn, hk2⟩ := chk_spec hk (by intros; intro hz; cases hz)
      clear hk
      try simp only [chk2, decide_eq_true_eq] at hk2
      subst hn
      simp only [stepI] at hs
      split at hs
      case h_2 => exact hs.elim
      exact r_lshl hx hb hd hs
    | lshr =>
      obtain ⟨hd, hn, hk2⟩ := chk_spec hk (by intros; intro hz; cases hz)
      clear hk
      try simp only [chk2, decide_eq_true_eq] at hk2
      subst hn
      simp only [stepI] at hs
      split at hs
      case h_2 => exact hs.elim
      exact r_lshr hx hb hd hs
    | lushr =>
      obtain ⟨hd, hn, hk2⟩ := chk_spec hk (by intros; intro hz; cases hz)
      clear hk
      try simp only [chk2, decide_eq_true_eq] at hk2
      subst hn
      simp only [stepI] at hs
      split at hs
      case h_2 => exact hs.elim
      exact r_lushr hx hb hd hs
    | lcmp =>
      obtain ⟨hd, hn, hk2⟩ := chk_spec hk (by intros; intro hz; cases hz)
      clear hk
      try simp only [chk2, decide_eq_true_eq] at hk2
      subst hn
      simp only [stepI] at hs
      split at hs
      case h_2 => exact hs.elim
      exact r_lcmp hx hb hd hs
    | i2l =>
      obtain ⟨hd, hn, hk2⟩ := chk_spec hk (by intros; intro hz; cases hz)
      clear hk
      try simp only [chk2, decide_eq_true_eq] at hk2
      subst hn
      simp only [stepI] at hs
      split at hs
      case h_2 => exact hs.elim
      exact r_i2l hx hb hd hs
    | l2i =>
      obtain ⟨hd, hn, hk2⟩ := chk_spec hk (by intros; intro hz; cases hz)
      clear hk
      try simp only [chk2, decide_eq_true_eq] at hk2
      subst hn
      simp only [stepI] at hs
      split at hs
      case h_2 => exact hs.elim
      exact r_l2i hx hb hd hs
    | idiv =>
      obtain ⟨hd, hn, hk2⟩ := chk_spec hk (by intros; intro hz; cases hz)
      clear hk
      try simp only [chk2, decide_eq_true_eq] at hk2
      subst hn
      simp only [stepI] at hs
      split at hs
      case h_2 => exact hs.elim
      exact r_idiv hx hb hd hs.1 hs.2
    | irem =>
      obtain ⟨hd, hn, hk2⟩ := chk_spec hk (by intros; intro hz; cases hz)
      clear hk
      try simp only [chk2, decide_eq_true_eq] at hk2
      subst hn
      simp only [stepI] at hs
      split at hs
      case h_2 => exact hs.elim
      exact r_irem hx hb hd hs.1 hs.2
    | ldiv =>
      obtain ⟨hd, hn, hk2⟩ := chk_spec hk (by intros; intro hz; cases hz)
      clear hk
      try simp only [chk2, decide_eq_true_eq] at hk2
      subst hn
      simp only [stepI] at hs
      split at hs
      case h_2 => exact hs.elim
      exact r_ldiv hx hb hd hs.1 hs.2
    | lrem =>
      obtain ⟨hd, hn, hk2⟩ := chk_spec hk (by intros; intro hz; cases hz)
      clear hk
      try simp only [chk2, decide_eq_true_eq] at hk2
      subst hn
      simp only [stepI] at hs
      split at hs
      case h_2 => exact hs.elim
      exact r_lrem hx hb hd hs.1 hs.2
    | dup =>
      obtain ⟨hd, hn, hk2⟩ := chk_spec hk (by intros; intro hz; cases hz)
      clear hk
      try simp only [chk2, decide_eq_true_eq] at hk2
      subst hn
      simp only [stepI] at hs
      split at hs
      case h_2 => exact hs.elim
      exact r_dup hx hb hs.1 hd hs.2
    | dup2 =>
      obtain ⟨hd, hn, hk2⟩ := chk_spec hk (by intros; intro hz; cases hz)
      clear hk
      try simp only [chk2, decide_eq_true_eq] at hk2
      subst hn
      simp only [stepI] at hs
      split at hs
      case h_2 => exact hs.elim
      exact r_dup2 hx hb hs.1.1 hs.1.2 hd hs.2
    | pop =>
      obtain ⟨hd, hn, hk2⟩ := chk_spec hk (by intros; intro hz; cases hz)
      clear hk
      try simp only [chk2, decide_eq_true_eq] at hk2
      subst hn
      simp only [stepI] at hs
      split at hs
      case h_2 => exact hs.elim
      exact r_pop hx hb hs.1 hd hs.2
    | goto off =>
      obtain ⟨hd, hn, hk2⟩ := chk_spec hk (by intros; intro hz; cases hz)
      clear hk
      try simp only [chk2, decide_eq_true_eq] at hk2
      subst hn
      simp only [stepI] at hs
      split at hs
      case h_2 => exact hs.elim
      exact r_goto hx hb hd (of_decide_eq_true hk2) hs
    | ifCond cd off =>
      obtain ⟨hd, hn, hk2⟩ := chk_spec hk (by intros; intro hz; cases hz)
      clear hk
      try simp only [chk2, decide_eq_true_eq] at hk2
      subst hn
      simp only [stepI] at hs
      split at hs
      case h_2 => exact hs.elim
      exact r_if hx hb hs.1 hd (of_decide_eq_true hk2) hs.2.1 hs.2.2
    | if_icmp cd off =>
      obtain ⟨hd, hn, hk2⟩ := chk_spec hk (by intros; intro hz; cases hz)
      clear hk
      try simp only [chk2, decide_eq_true_eq] at hk2
      subst hn
      simp only [stepI] at hs
      split at hs
      case h_2 => exact hs.elim
      exact r_icmp hx hb hs.1.1 hs.1.2 hd (of_decide_eq_true hk2) hs.2.1 hs.2.2
    | tableswitch dflt lo hi offs =>
      simp only [stepI] at hs
      split at hs
      case h_2 => exact hs.elim
      rename_i t ts a r
      simp only [chk, chkSw, Bool.and_eq_true, decide_eq_true_eq, List.all_eq_true, List.mem_range] at hk
      obtain ⟨hd, ⟨⟨h1, h2⟩, h3⟩, h4⟩ := hk
      split at hd
      case h_2 => cases hd
      rename_i j len hd2
      rw [decide_eq_true_eq] at hd
      subst hd
      refine r_switch hx hb hs.1 hd2 h1 ⟨h2, h3⟩ (fun i o u ho hu => ?_) hs.2.1 hs.2.2
      have hi : i < ts.length := (List.getElem?_eq_some_iff.mp hu).1
      have h5 := h4 i hi
      rw [List.getD_eq_getElem?_getD, List.getD_eq_getElem?_getD, hu, Array.getElem?_toList, ho] at h5
      exact h5
    | getfield x =>
      obtain ⟨hd, hn, hk2⟩ := chk_spec hk (by intros; intro hz; cases hz)
      clear hk
      try simp only [chk2, decide_eq_true_eq] at hk2
      subst hn
      simp only [stepI] at hs
      split at hs
      case h_2 => exact hs.elim
      rename_i ci j a r hf
      obtain ⟨ha, fs, v, he, hv, hj⟩ := hs
      exact r_getfield hx hb hG hCl hK hown (k2 _ _ _ hf) hd ha he hv hj
    | putfield x =>
      simp only [stepI] at hs
      split at hs
      case h_2 => exact hs.elim
      rename_i ci j v a r hf
      obtain ⟨hd, hn, hfin⟩ := chk_spec hk (by intros; intro hz; cases hz)
      simp only [chk2, hf] at hfin
      subst hn
      obtain ⟨ha, fs, he, hl, hfit, hj⟩ := hs
      obtain ⟨q, hq, hjn, hw⟩ := k2 _ _ _ hf
      rw [hq] at hfin
      refine r_putfield hx hb hG hCl hK hown ⟨q, hq, hjn, hw, fun hz => ?_⟩ hd ha he hl hfit hj
      simp only [hz, Bool.not_true, Bool.false_or, Bool.and_eq_true, decide_eq_true_eq] at hfin
      exact hfin
    | iaload =>
      obtain ⟨hd, hn, hk2⟩ := chk_spec hk (by intros; intro hz; cases hz)
      clear hk
      try simp only [chk2, decide_eq_true_eq] at hk2
      subst hn
      simp only [stepI] at hs
      split at hs
      case h_2 => exact hs.elim
      obtain ⟨ha, mm, f, he, hi, hj⟩ := hs
      exact r_iaload hx hb hK hAm hd ha he hi hj
    | baload =>
      obtain ⟨hd, hn, hk2⟩ := chk_spec hk (by intros; intro hz; cases hz)
      clear hk
      try simp only [chk2, decide_eq_true_eq] at hk2
      subst hn
      simp only [stepI] at hs
      split at hs
      case h_2 => exact hs.elim
      obtain ⟨ha, mm, f, he, hi, hj⟩ := hs
      exact r_baload hx hb hK hd ha he hi hj
    | aaload =>
      obtain ⟨hd, hn, hk2⟩ := chk_spec hk (by intros; intro hz; cases hz)
      clear hk
      try simp only [chk2, decide_eq_true_eq] at hk2
      subst hn
      simp only [stepI] at hs
      split at hs
      case h_2 => exact hs.elim
      obtain ⟨ha, mm, f, he, hi, hj⟩ := hs
      exact r_aaload hx hb hK hd ha he hi hj
    | iastore =>
      obtain ⟨hd, hn, hk2⟩ := chk_spec hk (by intros; intro hz; cases hz)
      clear hk
      try simp only [chk2, decide_eq_true_eq] at hk2
      subst hn
      simp only [stepI] at hs
      split at hs
      case h_2 => exact hs.elim
      obtain ⟨ha, mm, f, he, hi, hj⟩ := hs
      exact r_iastore hx hb hK hd ha he hi hj
    | bastore =>
      obtain ⟨hd, hn, hk2⟩ := chk_spec hk (by intros; intro hz; cases hz)
      clear hk
      try simp only [chk2, decide_eq_true_eq] at hk2
      subst hn
      simp only [stepI] at hs
      split at hs
      case h_2 => exact hs.elim
      obtain ⟨ha, hz, mm, f, he, hi, hj⟩ := hs
      exact r_bastore hx hb hK hz hd ha he hi hj
    | aastore =>
      obtain ⟨hd, hn, hk2⟩ := chk_spec hk (by intros; intro hz; cases hz)
      clear hk
      try simp only [chk2, decide_eq_true_eq] at hk2
      subst hn
      simp only [stepI] at hs
      split at hs
      case h_2 => exact hs.elim
      obtain ⟨ha, hbN, ⟨vs, hbe⟩, mm, f, he, hi, hj⟩ := hs
      exact r_aastore hx hb hK hbN hbe hd ha he hi hj
    | arraylength =>
      obtain ⟨hd, hn, hk2⟩ := chk_spec hk (by intros; intro hz; cases hz)
      clear hk
      try simp only [chk2, decide_eq_true_eq] at hk2
      subst hn
      simp only [stepI] at hs
      split at hs
      case h_2 => exact hs.elim
      obtain ⟨ha, mm, f, he, hj⟩ := hs
      exact r_alen hx hb hK hAm hd ha he hj
    | getstatic x =>
      obtain ⟨hd, hn, hk2⟩ := chk_spec hk (by intros; intro hz; cases hz)
      clear hk
      simp only [chk2, Bool.and_eq_true, Bool.or_eq_true, decide_eq_true_eq] at hk2
      obtain ⟨ho, hk3⟩ := hk2
      subst hn
      subst ho
      simp only [stepI] at hs
      rcases hk3 with ⟨hx1, hx2⟩ | ⟨hx1, hx2⟩
      · subst hx1
        subst hx2
        intro ad H locs ls hR hL
        have hz := hs ad H locs ls hR hL
        have e9 : cv ad (vR 1001) = .ref (gr E) := by
          have := hR.1.2.2.2.2.1
          show va_rf (some (ad (aRO + 1))) = _
          rw [this]
          rfl
        rw [List.map_cons, e9] at hz
        exact va_getsN hx hb hA.2.2.2.2.1.2 hR.2.1 hown (va_Nw.use rfl hA.2.2.2.2.1.1) (fun _ h => h) hd hz
      · subst hx1
        subst hx2
        intro ad H locs ls hR hL
        have hz := hs ad H locs ls hR hL
        have e9 : cv ad (vR 1002) = .ref (gc E) := by
          have := hR.1.2.2.2.2.2.1
          show va_rf (some (ad (aRO + 2))) = _
          rw [this]
          rfl
        rw [List.map_cons, e9] at hz
        exact va_getsN hx hb hA.2.2.2.2.2.1.2 hR.2.1 hown (va_Nw.use rfl hA.2.2.2.2.2.1.1) (fun _ h => h) hd hz
    | new x =>
      obtain ⟨hd, hn, hk2⟩ := chk_spec hk (by intros; intro hz; cases hz)
      clear hk
      try simp only [chk2, decide_eq_true_eq] at hk2
      subst hn
      simp only [stepI, hth] at hs
      split at hs
      case h_2 => exact hs.elim
      rename_i ci hci
      obtain ⟨⟨h1, h2, h3, h4, h5⟩, hj⟩ := hs
      exact r_new hx hb hG hCl hK hAm hown (k5 _ _ hci) hd (by omega) (by omega) h1 h2 h3 hj
    | newarray t =>
      obtain ⟨hd, hn, hk2⟩ := chk_spec hk (by intros; intro hz; cases hz)
      clear hk
      try simp only [chk2, decide_eq_true_eq] at hk2
      subst hn
      simp only [stepI] at hs
      split at hs
      case h_3 => exact hs.elim
      · obtain ⟨⟨h1, h2, h3, h4, h5, h6, h7⟩, hj⟩ := hs
        exact r_newI hx hb hG hK hAm hAC.1 hd ⟨h1, h2⟩ (by omega) (by omega) h3 h4 h5 hj
      · obtain ⟨⟨h1, h2, h3, h4, h5, h6, h7⟩, hj⟩ := hs
        exact r_newZ hx hb hG hK hAm hAC.2 hd ⟨h1, h2⟩ (by omega) (by omega) h3 h4 h5 hj
    | anewarray x =>
      obtain ⟨hd, hn, hk2⟩ := chk_spec hk (by intros; intro hz; cases hz)
      clear hk
      try simp only [chk2, decide_eq_true_eq] at hk2
      subst hn
      simp only [stepI] at hs
      split at hs
      case h_2 => exact hs.elim
      obtain ⟨⟨h1, h2, h3, h4, h5, h6, h7⟩, hj⟩ := hs
      exact r_newR hx hb hG hK hAm hA.2.2.1 hown (k8 _ _ _ _ hc) hd ⟨h1, h2⟩ (by omega) (by omega) h3 h4 h5 hj
    | invokevirtual x =>
      obtain ⟨hd, hn, hk2⟩ := chk_spec hk (by intros; intro hz; cases hz)
      clear hk
      try simp only [chk2, decide_eq_true_eq] at hk2
      subst hn
      simp only [stepI] at hs
      split at hs
      case h_2 => exact hs.elim
      rename_i y na mc ms rc hm
      exact hcall hm (Or.inl ⟨rfl, hs.1, hd⟩) (fun q => by omega) (fun q => by omega) hs.2
    | invokestatic x =>
      obtain ⟨hd, hn, hk2⟩ := chk_spec hk (by intros; intro hz; cases hz)
      clear hk
      try simp only [chk2, decide_eq_true_eq] at hk2
      subst hn
      simp only [stepI] at hs
      split at hs
      case h_5 => exact hs.elim
      · rename_i hm
        split at hs
        case h_2 => exact hs.elim
        obtain ⟨ha, hbN, hcat, mm, mm', f, g, he, hbe, hi, hj⟩ := hs
        exact r_copy hx hb hG hK hml hown (k3 _ _ hm) (by omega) (by omega) hcat hd ha hbN he hbe hi hj
      · rename_i hm
        exact hcall hm (Or.inr (Or.inl ⟨Or.inl rfl, hd⟩)) (fun q => by omega) (fun q => by omega) hs
      · rename_i hm
        exact hcall hm (Or.inr (Or.inl ⟨Or.inr (Or.inl rfl), hd⟩)) (fun q => by omega) (fun q => by omega) hs
      · rename_i hm
        exact hcall hm (Or.inr (Or.inl ⟨Or.inr (Or.inr rfl), hd⟩)) (fun _ => rfl) (fun q => by omega) hs
    | invokespecial x =>
      obtain ⟨hd, hn, hk2⟩ := chk_spec hk (by intros; intro hz; cases hz)
      clear hk
      try simp only [chk2, decide_eq_true_eq] at hk2
      subst hn
      simp only [stepI] at hs
      split at hs
      case h_4 => exact hs.elim
      · rename_i hm
        split at hs
        case h_2 => exact hs.elim
        obtain ⟨hcat, hj⟩ := hs
        obtain ⟨w1, w2, w3⟩ := k3 _ _ hm
        intro ad H locs ls hR hL
        refine W.objInit (g := F0 m pc ls _) hx hb hown (hG _ w1) (hG _ w2) (hG _ w3) rfl (by rw [hml]; exact hL.size) rfl hd (by omega) ?_ (hj ad H locs ls hR hL)
        have := lv_room (m := m) (pc := pc) (ls := ls) (rest := []) (st := (List.map (cv ad) _)) (by rw [cats_cv]; exact hcat)
        have e9 : (F0 m pc ls []).monitorRoom = 0 := rfl
        show 2 * 0 + _ + 12 ≤ _
        omega
      · rename_i hm
        exact hcall hm (Or.inr (Or.inr ⟨Or.inl rfl, hd⟩)) (fun _ => rfl) (fun _ => hs.1) hs.2
      · rename_i hm
        exact hcall hm (Or.inr (Or.inr ⟨Or.inr rfl, hd⟩)) (fun _ => rfl) (fun _ => hs.1) hs.2
    | ireturn =>
      exact e3 _ _ _ _ _ _ _ _ _ _ hc (Or.inl rfl) hs
    | lreturn =>
      exact e3 _ _ _ _ _ _ _ _ _ _ hc (Or.inr (Or.inl rfl)) hs
    | areturn =>
      exact e3 _ _ _ _ _ _ _ _ _ _ hc (Or.inr (Or.inr (Or.inl rfl))) hs
    | return_ =>
      exact e3 _ _ _ _ _ _ _ _ _ _ hc (Or.inr (Or.inr (Or.inr rfl))) hs
    | _ =>
      exact (show False from hs).elim
end AMT
