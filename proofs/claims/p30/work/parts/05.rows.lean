/-! ===== one row an instruction: the small machine's step is the great one's ===== -/
def wG : List Jvm.Cond := lw_tbl.filter goodWord
def RelS (E : AEnv) (ad : Nat → Nat) (h : AH) (N : Nat) (H : Heap) : Prop :=
  va_P (gD E) vwCl (wl E ad h N) H ∧ va_D (gA E) (wl E ad h N) ∧ N ≤ aRO ∧ ad aRO = gb E ∧ ad (aRO + 1) = gr E ∧ ad (aRO + 2) = gc E ∧ h aRO = eI (gL E) (fun j => (gx E j).toInt) ∧ h (aRO + 1) = eI 8 stepRows ∧ h (aRO + 2) = eI 8 stepCols
def Rel (E : AEnv) (s : State) (ad0 : Nat → Nat) (N0 : Nat) (ad : Nat → Nat) (h : AH) (N : Nat) (H : Heap) (locs : List Loc) : Prop :=
  RelS E ad h N H ∧ va_S (gA E) s.heap H locs ∧ N0 ≤ N ∧ ∀ k, k < N0 ∨ N ≤ k → ad k = ad0 k
/-- what is read off the start and never changes: the heap's part -/
def AmbH (E : AEnv) (s : State) : Prop :=
  g0 E ≤ s.heap.size ∧ (va_X (gb E) (gL E) (gx E) s s.heap ∧ gb E < s.heap.size ∧ ¬ gA E (gb E)) ∧ va_T .int (gr E) 8 (fun j => .int (iI (stepRows j))) (gA E) s s.heap ∧ va_T .int (gc E) 8 (fun j => .int (iI (stepCols j))) (gA E) s s.heap
def amJ (p : Program) (l : Launch) (e : Env) (R : Room) (s : State) (m : MethodId) (args : Array Value) (below : List Frame) (meth : Method) (c : Code) (Qf : State → Prop) (E : AEnv) (ad0 : Nat → Nat) (N0 nL : Nat) : AJ := fun pc lv st h N k n =>
  ∀ (ad : Nat → Nat) (H : Heap) (locs : List Loc) (ls : Array Slot), Rel E s ad0 N0 ad h N H locs → Lh ad ls nL lv → W p l e R s m args below meth c H locs k n Qf (F0 m pc ls (st.map (cv ad)))
section AMR
variable {p : Program} {l : Launch} {e : Env} {R : Room} {s : State} {m : MethodId} {args : Array Value} {below : List Frame} {meth : Method} {c : Code} {Qf : State → Prop}
variable {cc : ByteArray} {E : AEnv} {ad0 : Nat → Nat} {N0 nL pc : Nat} {lv : AL} {st r : List AV} {h : AH} {N k n : Nat}
theorem r_iconst (hx : p.tables.exec = Jvm.exec) (hb : c.code = cc) {z : Int} (hd : decode cc pc = .ok (.iconst z, 1)) (hj : amJ p l e R s m args below meth c Qf E ad0 N0 nL (pc + 1) lv (vI z :: st) h N k n) : amJ p l e R s m args below meth c Qf E ad0 N0 nL pc lv st h N k n := by
  intro ad H locs ls hR hL
  exact lv_iconst hx hb hd rfl (hj ad H locs ls hR hL)
theorem r_bipush (hx : p.tables.exec = Jvm.exec) (hb : c.code = cc) {z : Int} (hd : decode cc pc = .ok (.bipush z, 2)) (hz : (Int8.ofInt z).toInt32 = iI z) (hj : amJ p l e R s m args below meth c Qf E ad0 N0 nL (pc + 2) lv (vI z :: st) h N k n) : amJ p l e R s m args below meth c Qf E ad0 N0 nL pc lv st h N k n := by
  intro ad H locs ls hR hL
  exact lv_bipush hx hb hd hz (hj ad H locs ls hR hL)
theorem r_sipush (hx : p.tables.exec = Jvm.exec) (hb : c.code = cc) {z : Int} (hd : decode cc pc = .ok (.sipush z, 3)) (hz : (Int16.ofInt z).toInt32 = iI z) (hj : amJ p l e R s m args below meth c Qf E ad0 N0 nL (pc + 3) lv (vI z :: st) h N k n) : amJ p l e R s m args below meth c Qf E ad0 N0 nL pc lv st h N k n := by
  intro ad H locs ls hR hL
  exact lv_sipush hx hb hd hz (hj ad H locs ls hR hL)
theorem r_lconst (hx : p.tables.exec = Jvm.exec) (hb : c.code = cc) {z : Fin 2} (hd : decode cc pc = .ok (.lconst z, 1)) (hj : amJ p l e R s m args below meth c Qf E ad0 N0 nL (pc + 1) lv (vL (Int64.ofNat z) :: st) h N k n) : amJ p l e R s m args below meth c Qf E ad0 N0 nL pc lv st h N k n := by
  intro ad H locs ls hR hL
  exact lv_lconst hx hb hd rfl (hj ad H locs ls hR hL)
theorem r_ldc (hx : p.tables.exec = Jvm.exec) (hb : c.code = cc) {own : String} (hown : s.vm.findClass own = some m.cls) {x : Nat} {v : Int32} (hw : (Jvm.Cond.constant own x v).before args s = true) (hd : decode cc pc = .ok (.ldc x, 2)) (hj : amJ p l e R s m args below meth c Qf E ad0 N0 nL (pc + 2) lv (vI v.toInt :: st) h N k n) : amJ p l e R s m args below meth c Qf E ad0 N0 nL pc lv st h N k n := by
  intro ad H locs ls hR hL
  refine lv_ldc hx hb hown hw hd ?_
  have := hj ad H locs ls hR hL
  simp only [List.map_cons, cv, iI_of] at this
  exact this
theorem r_ldc2 (hx : p.tables.exec = Jvm.exec) (hb : c.code = cc) {own : String} (hown : s.vm.findClass own = some m.cls) {x : Nat} {v : Int64} (hw : (Jvm.Cond.constantLong own x v).before args s = true) (hd : decode cc pc = .ok (.ldc2_w x, 3)) (hj : amJ p l e R s m args below meth c Qf E ad0 N0 nL (pc + 3) lv (vL v :: st) h N k n) : amJ p l e R s m args below meth c Qf E ad0 N0 nL pc lv st h N k n := by
  intro ad H locs ls hR hL
  exact lv_ldc2 hx hb hown hw hd (hj ad H locs ls hR hL)
theorem r_iload (hx : p.tables.exec = Jvm.exec) (hb : c.code = cc) {i : Nat} {z : Int} (hd : decode cc pc = .ok (.iload i, 2)) (hv : aLd lv i = some (.inl z)) (hj : amJ p l e R s m args below meth c Qf E ad0 N0 nL (pc + 2) lv (vI z :: st) h N k n) : amJ p l e R s m args below meth c Qf E ad0 N0 nL pc lv st h N k n := by
  intro ad H locs ls hR hL
  exact lv_iload hx hb hd (hL.at hv) (hj ad H locs ls hR hL)
theorem r_iload_n (hx : p.tables.exec = Jvm.exec) (hb : c.code = cc) {i : Fin 4} {z : Int} (hd : decode cc pc = .ok (.iload_n i, 1)) (hv : aLd lv i = some (.inl z)) (hj : amJ p l e R s m args below meth c Qf E ad0 N0 nL (pc + 1) lv (vI z :: st) h N k n) : amJ p l e R s m args below meth c Qf E ad0 N0 nL pc lv st h N k n := by
  intro ad H locs ls hR hL
  exact lv_iload_n hx hb hd rfl (hL.at hv) (hj ad H locs ls hR hL)
theorem r_lload (hx : p.tables.exec = Jvm.exec) (hb : c.code = cc) {i : Nat} {z : Int64} (hd : decode cc pc = .ok (.lload i, 2)) (hv : aLd lv i = some (.inr (.inl z))) (hj : amJ p l e R s m args below meth c Qf E ad0 N0 nL (pc + 2) lv (vL z :: st) h N k n) : amJ p l e R s m args below meth c Qf E ad0 N0 nL pc lv st h N k n := by
  intro ad H locs ls hR hL
  exact lv_lload hx hb hd (hL.at hv) (hj ad H locs ls hR hL)
theorem r_lload_n (hx : p.tables.exec = Jvm.exec) (hb : c.code = cc) {i : Fin 4} {z : Int64} (hd : decode cc pc = .ok (.lload_n i, 1)) (hv : aLd lv i = some (.inr (.inl z))) (hj : amJ p l e R s m args below meth c Qf E ad0 N0 nL (pc + 1) lv (vL z :: st) h N k n) : amJ p l e R s m args below meth c Qf E ad0 N0 nL pc lv st h N k n := by
  intro ad H locs ls hR hL
  exact lv_lload_n hx hb hd rfl (hL.at hv) (hj ad H locs ls hR hL)
theorem r_aload (hx : p.tables.exec = Jvm.exec) (hb : c.code = cc) {i z : Nat} (hd : decode cc pc = .ok (.aload i, 2)) (hv : aLd lv i = some (vR z)) (hj : amJ p l e R s m args below meth c Qf E ad0 N0 nL (pc + 2) lv (vR z :: st) h N k n) : amJ p l e R s m args below meth c Qf E ad0 N0 nL pc lv st h N k n := by
  intro ad H locs ls hR hL
  exact lv_aload hx hb hd (hL.at hv) (hj ad H locs ls hR hL)
theorem r_aload_n (hx : p.tables.exec = Jvm.exec) (hb : c.code = cc) {i : Fin 4} {z : Nat} (hd : decode cc pc = .ok (.aload_n i, 1)) (hv : aLd lv i = some (vR z)) (hj : amJ p l e R s m args below meth c Qf E ad0 N0 nL (pc + 1) lv (vR z :: st) h N k n) : amJ p l e R s m args below meth c Qf E ad0 N0 nL pc lv st h N k n := by
  intro ad H locs ls hR hL
  exact lv_aload_n hx hb hd rfl (hL.at hv) (hj ad H locs ls hR hL)
theorem r_istore (hx : p.tables.exec = Jvm.exec) (hb : c.code = cc) {i : Nat} {z : Int} (hi : i < nL) (hd : decode cc pc = .ok (.istore i, 2)) (hj : amJ p l e R s m args below meth c Qf E ad0 N0 nL (pc + 2) (aSt i (vI z) lv) r h N k n) : amJ p l e R s m args below meth c Qf E ad0 N0 nL pc lv (vI z :: r) h N k n := by
  intro ad H locs ls hR hL
  exact lv_istore hx hb hd hL.2 hi rfl (fun ls' hl' => hj ad H locs ls' hR (Lh.st (v := vI z) hL.1 hl'))
theorem r_istore_n (hx : p.tables.exec = Jvm.exec) (hb : c.code = cc) {i : Fin 4} {z : Int} (hi : (i : Nat) < nL) (hd : decode cc pc = .ok (.istore_n i, 1)) (hj : amJ p l e R s m args below meth c Qf E ad0 N0 nL (pc + 1) (aSt i (vI z) lv) r h N k n) : amJ p l e R s m args below meth c Qf E ad0 N0 nL pc lv (vI z :: r) h N k n := by
  intro ad H locs ls hR hL
  exact lv_istore_n hx hb hd rfl hL.2 hi rfl (fun ls' hl' => hj ad H locs ls' hR (Lh.st (v := vI z) hL.1 hl'))
theorem r_lstore (hx : p.tables.exec = Jvm.exec) (hb : c.code = cc) {i : Nat} {z : Int64} (hi : i + 1 < nL) (hd : decode cc pc = .ok (.lstore i, 2)) (hj : amJ p l e R s m args below meth c Qf E ad0 N0 nL (pc + 2) (aSt2 i (vL z) lv) r h N k n) : amJ p l e R s m args below meth c Qf E ad0 N0 nL pc lv (vL z :: r) h N k n := by
  intro ad H locs ls hR hL
  exact lv_lstore hx hb hd hL.2 hi rfl (fun ls' hl' => hj ad H locs ls' hR (Lh.st2 (v := vL z) hL.1 hl'))
theorem r_lstore_n (hx : p.tables.exec = Jvm.exec) (hb : c.code = cc) {i : Fin 4} {z : Int64} (hi : (i : Nat) + 1 < nL) (hd : decode cc pc = .ok (.lstore_n i, 1)) (hj : amJ p l e R s m args below meth c Qf E ad0 N0 nL (pc + 1) (aSt2 i (vL z) lv) r h N k n) : amJ p l e R s m args below meth c Qf E ad0 N0 nL pc lv (vL z :: r) h N k n := by
  intro ad H locs ls hR hL
  exact lv_lstore_n hx hb hd rfl hL.2 hi rfl (fun ls' hl' => hj ad H locs ls' hR (Lh.st2 (v := vL z) hL.1 hl'))
theorem r_astore (hx : p.tables.exec = Jvm.exec) (hb : c.code = cc) {i z : Nat} (hi : i < nL) (hd : decode cc pc = .ok (.astore i, 2)) (hj : amJ p l e R s m args below meth c Qf E ad0 N0 nL (pc + 2) (aSt i (vR z) lv) r h N k n) : amJ p l e R s m args below meth c Qf E ad0 N0 nL pc lv (vR z :: r) h N k n := by
  intro ad H locs ls hR hL
  exact lv_astore hx hb hd hL.2 hi rfl (fun ls' hl' => hj ad H locs ls' hR (Lh.st (v := vR z) hL.1 hl'))
theorem r_astore_n (hx : p.tables.exec = Jvm.exec) (hb : c.code = cc) {i : Fin 4} {z : Nat} (hi : (i : Nat) < nL) (hd : decode cc pc = .ok (.astore_n i, 1)) (hj : amJ p l e R s m args below meth c Qf E ad0 N0 nL (pc + 1) (aSt i (vR z) lv) r h N k n) : amJ p l e R s m args below meth c Qf E ad0 N0 nL pc lv (vR z :: r) h N k n := by
  intro ad H locs ls hR hL
  exact lv_astore_n hx hb hd rfl hL.2 hi rfl (fun ls' hl' => hj ad H locs ls' hR (Lh.st (v := vR z) hL.1 hl'))
theorem r_iinc (hx : p.tables.exec = Jvm.exec) (hb : c.code = cc) {i : Nat} {z y : Int} (hd : decode cc pc = .ok (.iinc i y, 3)) (hv : aLd lv i = some (.inl z)) (hj : amJ p l e R s m args below meth c Qf E ad0 N0 nL (pc + 3) (aSt i (vI (z + y)) lv) st h N k n) : amJ p l e R s m args below meth c Qf E ad0 N0 nL pc lv st h N k n := by
  intro ad H locs ls hR hL
  obtain ⟨q, hq⟩ := List.getElem?_of_mem (lp_mem (ad := ad) hv)
  have hi : i < nL := by rw [← hL.1]; exact aLd_lt hv
  exact lv_iinc (v := iI (z + y)) hx hb hd hL.2 hq (iI_add z y) hi rfl (fun ls' hl' => hj ad H locs ls' hR (Lh.st (v := vI (z + y)) hL.1 hl'))
theorem r_iadd (hx : p.tables.exec = Jvm.exec) (hb : c.code = cc) {a b : Int} (hd : decode cc pc = .ok (.iadd, 1)) (hj : amJ p l e R s m args below meth c Qf E ad0 N0 nL (pc + 1) lv (vI (a + b) :: r) h N k n) : amJ p l e R s m args below meth c Qf E ad0 N0 nL pc lv (vI b :: vI a :: r) h N k n := by
  intro ad H locs ls hR hL
  refine lv_iadd (x := iI a) (y := iI b) hx hb hd ?_
  rw [iI_add]
  exact hj ad H locs ls hR hL
theorem r_isub (hx : p.tables.exec = Jvm.exec) (hb : c.code = cc) {a b : Int} (hd : decode cc pc = .ok (.isub, 1)) (hj : amJ p l e R s m args below meth c Qf E ad0 N0 nL (pc + 1) lv (vI (a - b) :: r) h N k n) : amJ p l e R s m args below meth c Qf E ad0 N0 nL pc lv (vI b :: vI a :: r) h N k n := by
  intro ad H locs ls hR hL
  refine lv_isub (x := iI a) (y := iI b) hx hb hd ?_
  rw [iI_sub]
  exact hj ad H locs ls hR hL
theorem r_imul (hx : p.tables.exec = Jvm.exec) (hb : c.code = cc) {a b : Int} (hd : decode cc pc = .ok (.imul, 1)) (hj : amJ p l e R s m args below meth c Qf E ad0 N0 nL (pc + 1) lv (vI (a * b) :: r) h N k n) : amJ p l e R s m args below meth c Qf E ad0 N0 nL pc lv (vI b :: vI a :: r) h N k n := by
  intro ad H locs ls hR hL
  refine lv_imul (x := iI a) (y := iI b) hx hb hd ?_
  rw [iI_mul]
  exact hj ad H locs ls hR hL
theorem r_idiv (hx : p.tables.exec = Jvm.exec) (hb : c.code = cc) {a b : Int} (hd : decode cc pc = .ok (.idiv, 1)) (hc : 0 ≤ a ∧ a < 2147483648 ∧ 0 < b ∧ b < 2147483648) (hj : amJ p l e R s m args below meth c Qf E ad0 N0 nL (pc + 1) lv (vI (a / b) :: r) h N k n) : amJ p l e R s m args below meth c Qf E ad0 N0 nL pc lv (vI b :: vI a :: r) h N k n := by
  intro ad H locs ls hR hL
  refine lv_idiv (x := iI a) (y := iI b) hx hb hd (iI_ne0 hc.2.2.1 hc.2.2.2) ?_
  rw [iI_div hc.1 hc.2.1 hc.2.2.1 hc.2.2.2]
  exact hj ad H locs ls hR hL
theorem r_irem (hx : p.tables.exec = Jvm.exec) (hb : c.code = cc) {a b : Int} (hd : decode cc pc = .ok (.irem, 1)) (hc : 0 ≤ a ∧ a < 2147483648 ∧ 0 < b ∧ b < 2147483648) (hj : amJ p l e R s m args below meth c Qf E ad0 N0 nL (pc + 1) lv (vI (a % b) :: r) h N k n) : amJ p l e R s m args below meth c Qf E ad0 N0 nL pc lv (vI b :: vI a :: r) h N k n := by
  intro ad H locs ls hR hL
  refine lv_irem (x := iI a) (y := iI b) hx hb hd (iI_ne0 hc.2.2.1 hc.2.2.2) ?_
  rw [iI_rem hc.1 hc.2.1 hc.2.2.1 hc.2.2.2]
  exact hj ad H locs ls hR hL
theorem r_iand (hx : p.tables.exec = Jvm.exec) (hb : c.code = cc) {a b : Int} (hd : decode cc pc = .ok (.iand, 1)) (hj : amJ p l e R s m args below meth c Qf E ad0 N0 nL (pc + 1) lv (vI (iI a &&& iI b).toInt :: r) h N k n) : amJ p l e R s m args below meth c Qf E ad0 N0 nL pc lv (vI b :: vI a :: r) h N k n := by
  intro ad H locs ls hR hL
  refine lv_iand (x := iI a) (y := iI b) hx hb hd ?_
  rw [← iI_of (iI a &&& iI b)]
  exact hj ad H locs ls hR hL
theorem r_ior (hx : p.tables.exec = Jvm.exec) (hb : c.code = cc) {a b : Int} (hd : decode cc pc = .ok (.ior, 1)) (hj : amJ p l e R s m args below meth c Qf E ad0 N0 nL (pc + 1) lv (vI (iI a ||| iI b).toInt :: r) h N k n) : amJ p l e R s m args below meth c Qf E ad0 N0 nL pc lv (vI b :: vI a :: r) h N k n := by
  intro ad H locs ls hR hL
  refine lv_ior (x := iI a) (y := iI b) hx hb hd ?_
  rw [← iI_of (iI a ||| iI b)]
  exact hj ad H locs ls hR hL
theorem r_ixor (hx : p.tables.exec = Jvm.exec) (hb : c.code = cc) {a b : Int} (hd : decode cc pc = .ok (.ixor, 1)) (hj : amJ p l e R s m args below meth c Qf E ad0 N0 nL (pc + 1) lv (vI (iI a ^^^ iI b).toInt :: r) h N k n) : amJ p l e R s m args below meth c Qf E ad0 N0 nL pc lv (vI b :: vI a :: r) h N k n := by
  intro ad H locs ls hR hL
  refine lv_ixor (x := iI a) (y := iI b) hx hb hd ?_
  rw [← iI_of (iI a ^^^ iI b)]
  exact hj ad H locs ls hR hL
theorem r_ishl (hx : p.tables.exec = Jvm.exec) (hb : c.code = cc) {a b : Int} (hd : decode cc pc = .ok (.ishl, 1)) (hj : amJ p l e R s m args below meth c Qf E ad0 N0 nL (pc + 1) lv (vI (iI a <<< (iI b &&& 31)).toInt :: r) h N k n) : amJ p l e R s m args below meth c Qf E ad0 N0 nL pc lv (vI b :: vI a :: r) h N k n := by
  intro ad H locs ls hR hL
  refine lv_ishl (x := iI a) (y := iI b) hx hb hd ?_
  rw [← iI_of (iI a <<< (iI b &&& 31))]
  exact hj ad H locs ls hR hL
theorem r_ishr (hx : p.tables.exec = Jvm.exec) (hb : c.code = cc) {a b : Int} (hd : decode cc pc = .ok (.ishr, 1)) (hj : amJ p l e R s m args below meth c Qf E ad0 N0 nL (pc + 1) lv (vI (iI a >>> (iI b &&& 31)).toInt :: r) h N k n) : amJ p l e R s m args below meth c Qf E ad0 N0 nL pc lv (vI b :: vI a :: r) h N k n := by
  intro ad H locs ls hR hL
  refine lv_ishr (x := iI a) (y := iI b) hx hb hd ?_
  rw [← iI_of (iI a >>> (iI b &&& 31))]
  exact hj ad H locs ls hR hL
theorem r_ladd (hx : p.tables.exec = Jvm.exec) (hb : c.code = cc) {a b : Int64} (hd : decode cc pc = .ok (.ladd, 1)) (hj : amJ p l e R s m args below meth c Qf E ad0 N0 nL (pc + 1) lv (vL (a + b) :: r) h N k n) : amJ p l e R s m args below meth c Qf E ad0 N0 nL pc lv (vL b :: vL a :: r) h N k n := by
  intro ad H locs ls hR hL
  exact lv_ladd hx hb hd (hj ad H locs ls hR hL)
theorem r_lsub (hx : p.tables.exec = Jvm.exec) (hb : c.code = cc) {a b : Int64} (hd : decode cc pc = .ok (.lsub, 1)) (hj : amJ p l e R s m args below meth c Qf E ad0 N0 nL (pc + 1) lv (vL (a - b) :: r) h N k n) : amJ p l e R s m args below meth c Qf E ad0 N0 nL pc lv (vL b :: vL a :: r) h N k n := by
  intro ad H locs ls hR hL
  exact lv_lsub hx hb hd (hj ad H locs ls hR hL)
theorem r_lmul (hx : p.tables.exec = Jvm.exec) (hb : c.code = cc) {a b : Int64} (hd : decode cc pc = .ok (.lmul, 1)) (hj : amJ p l e R s m args below meth c Qf E ad0 N0 nL (pc + 1) lv (vL (a * b) :: r) h N k n) : amJ p l e R s m args below meth c Qf E ad0 N0 nL pc lv (vL b :: vL a :: r) h N k n := by
  intro ad H locs ls hR hL
  exact lv_lmul hx hb hd (hj ad H locs ls hR hL)
theorem r_ldiv (hx : p.tables.exec = Jvm.exec) (hb : c.code = cc) {a b : Int64} (hd : decode cc pc = .ok (.ldiv, 1)) (hn : ¬ b = 0) (hj : amJ p l e R s m args below meth c Qf E ad0 N0 nL (pc + 1) lv (vL (a / b) :: r) h N k n) : amJ p l e R s m args below meth c Qf E ad0 N0 nL pc lv (vL b :: vL a :: r) h N k n := by
  intro ad H locs ls hR hL
  exact lv_ldiv hx hb hd hn (hj ad H locs ls hR hL)
theorem r_lrem (hx : p.tables.exec = Jvm.exec) (hb : c.code = cc) {a b : Int64} (hd : decode cc pc = .ok (.lrem, 1)) (hn : ¬ b = 0) (hj : amJ p l e R s m args below meth c Qf E ad0 N0 nL (pc + 1) lv (vL (a - a / b * b) :: r) h N k n) : amJ p l e R s m args below meth c Qf E ad0 N0 nL pc lv (vL b :: vL a :: r) h N k n := by
  intro ad H locs ls hR hL
  exact lv_lrem hx hb hd hn (hj ad H locs ls hR hL)
theorem r_land (hx : p.tables.exec = Jvm.exec) (hb : c.code = cc) {a b : Int64} (hd : decode cc pc = .ok (.land, 1)) (hj : amJ p l e R s m args below meth c Qf E ad0 N0 nL (pc + 1) lv (vL (a &&& b) :: r) h N k n) : amJ p l e R s m args below meth c Qf E ad0 N0 nL pc lv (vL b :: vL a :: r) h N k n := by
  intro ad H locs ls hR hL
  exact lv_land hx hb hd (hj ad H locs ls hR hL)
theorem r_lor (hx : p.tables.exec = Jvm.exec) (hb : c.code = cc) {a b : Int64} (hd : decode cc pc = .ok (.lor, 1)) (hj : amJ p l e R s m args below meth c Qf E ad0 N0 nL (pc + 1) lv (vL (a ||| b) :: r) h N k n) : amJ p l e R s m args below meth c Qf E ad0 N0 nL pc lv (vL b :: vL a :: r) h N k n := by
  intro ad H locs ls hR hL
  exact lv_lor hx hb hd (hj ad H locs ls hR hL)
theorem r_lxor (hx : p.tables.exec = Jvm.exec) (hb : c.code = cc) {a b : Int64} (hd : decode cc pc = .ok (.lxor, 1)) (hj : amJ p l e R s m args below meth c Qf E ad0 N0 nL (pc + 1) lv (vL (a ^^^ b) :: r) h N k n) : amJ p l e R s m args below meth c Qf E ad0 N0 nL pc lv (vL b :: vL a :: r) h N k n := by
  intro ad H locs ls hR hL
  exact lv_lxor hx hb hd (hj ad H locs ls hR hL)
theorem r_lshl (hx : p.tables.exec = Jvm.exec) (hb : c.code = cc) {a : Int64} {b : Int} (hd : decode cc pc = .ok (.lshl, 1)) (hj : amJ p l e R s m args below meth c Qf E ad0 N0 nL (pc + 1) lv (vL (a <<< ((iI b).toInt64 &&& 63)) :: r) h N k n) : amJ p l e R s m args below meth c Qf E ad0 N0 nL pc lv (vI b :: vL a :: r) h N k n := by
  intro ad H locs ls hR hL
  exact lv_lshl hx hb hd rfl (hj ad H locs ls hR hL)
theorem r_lshr (hx : p.tables.exec = Jvm.exec) (hb : c.code = cc) {a : Int64} {b : Int} (hd : decode cc pc = .ok (.lshr, 1)) (hj : amJ p l e R s m args below meth c Qf E ad0 N0 nL (pc + 1) lv (vL (a >>> ((iI b).toInt64 &&& 63)) :: r) h N k n) : amJ p l e R s m args below meth c Qf E ad0 N0 nL pc lv (vI b :: vL a :: r) h N k n := by
  intro ad H locs ls hR hL
  exact lv_lshr hx hb hd rfl (hj ad H locs ls hR hL)
theorem r_lushr (hx : p.tables.exec = Jvm.exec) (hb : c.code = cc) {a : Int64} {b : Int} (hd : decode cc pc = .ok (.lushr, 1)) (hj : amJ p l e R s m args below meth c Qf E ad0 N0 nL (pc + 1) lv (vL (a.toUInt64 >>> ((iI b).toInt64.toUInt64 &&& Int64.toUInt64 63)).toInt64 :: r) h N k n) : amJ p l e R s m args below meth c Qf E ad0 N0 nL pc lv (vI b :: vL a :: r) h N k n := by
  intro ad H locs ls hR hL
  exact lv_lushr hx hb hd rfl (hj ad H locs ls hR hL)
theorem r_lcmp (hx : p.tables.exec = Jvm.exec) (hb : c.code = cc) {a b : Int64} (hd : decode cc pc = .ok (.lcmp, 1)) (hj : amJ p l e R s m args below meth c Qf E ad0 N0 nL (pc + 1) lv (vI (lg_cmp a b).toInt :: r) h N k n) : amJ p l e R s m args below meth c Qf E ad0 N0 nL pc lv (vL b :: vL a :: r) h N k n := by
  intro ad H locs ls hR hL
  refine W.lcmp (x := a) (y := b) hx hb hd ?_
  rw [← iI_of (lg_cmp a b)]
  exact hj ad H locs ls hR hL
theorem r_i2l (hx : p.tables.exec = Jvm.exec) (hb : c.code = cc) {a : Int} (hd : decode cc pc = .ok (.i2l, 1)) (hj : amJ p l e R s m args below meth c Qf E ad0 N0 nL (pc + 1) lv (vL (iI a).toInt64 :: r) h N k n) : amJ p l e R s m args below meth c Qf E ad0 N0 nL pc lv (vI a :: r) h N k n := by
  intro ad H locs ls hR hL
  exact lv_i2l hx hb hd rfl (hj ad H locs ls hR hL)
theorem r_l2i (hx : p.tables.exec = Jvm.exec) (hb : c.code = cc) {a : Int64} (hd : decode cc pc = .ok (.l2i, 1)) (hj : amJ p l e R s m args below meth c Qf E ad0 N0 nL (pc + 1) lv (vI a.toInt32.toInt :: r) h N k n) : amJ p l e R s m args below meth c Qf E ad0 N0 nL pc lv (vL a :: r) h N k n := by
  intro ad H locs ls hR hL
  exact lv_l2i hx hb hd (iI_of _).symm (hj ad H locs ls hR hL)
theorem r_dup (hx : p.tables.exec = Jvm.exec) (hb : c.code = cc) {v : AV} (hv : aCat v = 1) (hd : decode cc pc = .ok (.dup, 1)) (hj : amJ p l e R s m args below meth c Qf E ad0 N0 nL (pc + 1) lv (v :: v :: r) h N k n) : amJ p l e R s m args below meth c Qf E ad0 N0 nL pc lv (v :: r) h N k n := by
  intro ad H locs ls hR hL
  exact lv_dup hx hb hd (by rw [cat_cv]; exact hv) (hj ad H locs ls hR hL)
theorem r_dup2 (hx : p.tables.exec = Jvm.exec) (hb : c.code = cc) {v w : AV} (hv : aCat v = 1) (hw : aCat w = 1) (hd : decode cc pc = .ok (.dup2, 1)) (hj : amJ p l e R s m args below meth c Qf E ad0 N0 nL (pc + 1) lv (v :: w :: v :: w :: r) h N k n) : amJ p l e R s m args below meth c Qf E ad0 N0 nL pc lv (v :: w :: r) h N k n := by
  intro ad H locs ls hR hL
  exact lv_dup2_11 hx hb hd (by rw [cat_cv]; exact hv) (by rw [cat_cv]; exact hw) (hj ad H locs ls hR hL)
theorem r_pop (hx : p.tables.exec = Jvm.exec) (hb : c.code = cc) {v : AV} (hv : aCat v = 1) (hd : decode cc pc = .ok (.pop, 1)) (hj : amJ p l e R s m args below meth c Qf E ad0 N0 nL (pc + 1) lv r h N k n) : amJ p l e R s m args below meth c Qf E ad0 N0 nL pc lv (v :: r) h N k n := by
  intro ad H locs ls hR hL
  exact lv_pop hx hb hd (by rw [cat_cv]; exact hv) (hj ad H locs ls hR hL)
theorem r_goto (hx : p.tables.exec = Jvm.exec) (hb : c.code = cc) {off : Int} {tgt : Nat} (hd : decode cc pc = .ok (.goto off, 3)) (ht : (pc : Int) + off = (tgt : Int)) (hj : amJ p l e R s m args below meth c Qf E ad0 N0 nL tgt lv st h N k n) : amJ p l e R s m args below meth c Qf E ad0 N0 nL pc lv st h N k n := by
  intro ad H locs ls hR hL
  exact lv_goto hx hb hd ht (hj ad H locs ls hR hL)
theorem r_if (hx : p.tables.exec = Jvm.exec) (hb : c.code = cc) {cd : Jvm.ClassFile.Cond} {off a : Int} {tgt : Nat} (ha : inR a) (hd : decode cc pc = .ok (.ifCond cd off, 3)) (ht : (pc : Int) + off = (tgt : Int)) (h1 : aCmp cd a 0 → amJ p l e R s m args below meth c Qf E ad0 N0 nL tgt lv r h N k n) (h2 : ¬ aCmp cd a 0 → amJ p l e R s m args below meth c Qf E ad0 N0 nL (pc + 3) lv r h N k n) : amJ p l e R s m args below meth c Qf E ad0 N0 nL pc lv (vI a :: r) h N k n := by
  intro ad H locs ls hR hL
  have e1 : iI a = 0 ↔ a = 0 := iI_eq ha inR_0
  have e2 : iI a < 0 ↔ a < 0 := iI_lt ha inR_0
  have e3 : 0 ≤ iI a ↔ 0 ≤ a := iI_le inR_0 ha
  have e4 : 0 < iI a ↔ 0 < a := iI_lt inR_0 ha
  have e5 : iI a ≤ 0 ↔ a ≤ 0 := iI_le ha inR_0
  cases cd
  · exact lv_if_eq hx hb hd ht (fun q => h1 (e1.mp q) ad H locs ls hR hL) (fun q => h2 (fun z => q (e1.mpr z)) ad H locs ls hR hL)
  · exact lv_if_ne hx hb hd ht (fun q => h1 (fun z => q (e1.mpr z)) ad H locs ls hR hL) (fun q => h2 (fun z => z (e1.mp q)) ad H locs ls hR hL)
  · exact lv_if_lt hx hb hd ht (fun q => h1 (e2.mp q) ad H locs ls hR hL) (fun q => h2 (fun z => q (e2.mpr z)) ad H locs ls hR hL)
  · exact lv_if_ge hx hb hd ht (fun q => h1 (e3.mp q) ad H locs ls hR hL) (fun q => h2 (fun z => q (e3.mpr z)) ad H locs ls hR hL)
  · exact lv_if_gt hx hb hd ht (fun q => h1 (e4.mp q) ad H locs ls hR hL) (fun q => h2 (fun z => q (e4.mpr z)) ad H locs ls hR hL)
  · exact lv_if_le hx hb hd ht (fun q => h1 (e5.mp q) ad H locs ls hR hL) (fun q => h2 (fun z => q (e5.mpr z)) ad H locs ls hR hL)
theorem r_icmp (hx : p.tables.exec = Jvm.exec) (hb : c.code = cc) {cd : Jvm.ClassFile.Cond} {off a b : Int} {tgt : Nat} (ha : inR a) (hb' : inR b) (hd : decode cc pc = .ok (.if_icmp cd off, 3)) (ht : (pc : Int) + off = (tgt : Int)) (h1 : aCmp cd a b → amJ p l e R s m args below meth c Qf E ad0 N0 nL tgt lv r h N k n) (h2 : ¬ aCmp cd a b → amJ p l e R s m args below meth c Qf E ad0 N0 nL (pc + 3) lv r h N k n) : amJ p l e R s m args below meth c Qf E ad0 N0 nL pc lv (vI b :: vI a :: r) h N k n := by
  intro ad H locs ls hR hL
  have e1 : iI a = iI b ↔ a = b := iI_eq ha hb'
  have e2 : iI a < iI b ↔ a < b := iI_lt ha hb'
  have e3 : iI b ≤ iI a ↔ b ≤ a := iI_le hb' ha
  have e4 : iI b < iI a ↔ b < a := iI_lt hb' ha
  have e5 : iI a ≤ iI b ↔ a ≤ b := iI_le ha hb'
  cases cd
  · exact lv_icmp_eq hx hb hd ht (fun q => h1 (e1.mp q) ad H locs ls hR hL) (fun q => h2 (fun z => q (e1.mpr z)) ad H locs ls hR hL)
  · exact lv_icmp_ne hx hb hd ht (fun q => h1 (fun z => q (e1.mpr z)) ad H locs ls hR hL) (fun q => h2 (fun z => z (e1.mp q)) ad H locs ls hR hL)
  · exact lv_icmp_lt hx hb hd ht (fun q => h1 (e2.mp q) ad H locs ls hR hL) (fun q => h2 (fun z => q (e2.mpr z)) ad H locs ls hR hL)
  · exact lv_icmp_ge hx hb hd ht (fun q => h1 (e3.mp q) ad H locs ls hR hL) (fun q => h2 (fun z => q (e3.mpr z)) ad H locs ls hR hL)
  · exact lv_icmp_gt hx hb hd ht (fun q => h1 (e4.mp q) ad H locs ls hR hL) (fun q => h2 (fun z => q (e4.mpr z)) ad H locs ls hR hL)
  · exact lv_icmp_le hx hb hd ht (fun q => h1 (e5.mp q) ad H locs ls hR hL) (fun q => h2 (fun z => q (e5.mpr z)) ad H locs ls hR hL)
end AMR
