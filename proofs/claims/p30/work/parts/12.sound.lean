/-! ===== T stands for the great machine's contracts ===== -/
def RetOk (y : Nat) : Prop := ∀ pc i nx tg, lk (mI y).code pc = some (i, nx, tg) →
  (i = .ireturn → mR y = some .int ∨ (mR y = some .boolean ∧ (mI y).rt = 1)) ∧ (i = .lreturn → mR y = some .long) ∧ (i = .areturn → ∃ C, mR y = some (.object C)) ∧ (i = .return_ → mR y = none)
/-- what is decided of method y -/
def MStat (y : Nat) : Prop := MOk (mN y).cls (mB y) (mL y) (mN y).name (mI y) (mH y) ∧ plainFor (mN y) = true ∧ RetOk y
/-- the methods' numbers -/
def aYs : List Nat := t_mI.map Prod.fst
/-- what is decided of all -/
def GStat : Prop := (∀ ci q, vwCl[ci]? = some q → ClOk ci q) ∧ (Jvm.Cond.arrayClass .int ∈ wG ∧ Jvm.Cond.arrayClass .boolean ∈ wG) ∧ ∀ y, y ∈ aYs → MStat y
theorem run_nil {C : AC} {Q : AQ} {pc : Nat} {lv : AL} {st : List AV} {h : AH} {N k n : Nat} {I : MI} (hI : I.code = []) (hr : Run I C Q pc lv st h N k n) : False := by
  refine hr (fun _ _ _ _ _ _ _ => False) ⟨fun pc lv st h N k n hs => ?_, fun _ _ _ _ _ _ _ _ _ _ h => h⟩
  unfold step at hs
  rw [hI] at hs
  exact hs
theorem lk_none {α : Type} : ∀ (t : List (Nat × α)) {y : Nat}, ¬ y ∈ t.map Prod.fst → lk t y = none
  | [], _, _ => rfl
  | (a1, a2) :: t, y, h => by
    have h2 : Nat.beq a1 y = false := by
      cases hb : Nat.beq a1 y with
      | false => rfl
      | true => exact absurd (by rw [Nat.eq_of_beq_eq_true hb]; exact List.mem_cons_self) h
    show cond (Nat.beq a1 y) (some a2) (lk t y) = none
    rw [h2]
    exact lk_none t (fun q => h (List.mem_cons_of_mem _ q))
theorem mI_big {y : Nat} (h : ¬ y ∈ aYs) : (mI y).code = [] := by
  have : lk t_mI y = none := lk_none t_mI h
  unfold mI
  rw [this]
  rfl
section SND
variable {p : Program} {l : Launch} {e : Env} {s : State} {m : MethodId} {args : Array Value} {below : List Frame} {meth : Method} {c : Code} {E : AEnv}
theorem ends_body {d y : Nat} {ad : Nat → Nat} {N : Nat} {Q : AQ} {C : AC} (hl : l.stackTraces = false) (hx : p.tables.exec = Jvm.exec) (hb : c.code = mB y) (hml : c.maxLocals = mL y) (hr : meth.sig.returnType = mR y) (hlocks : meth.locks = false) (hown : s.vm.findClass (mN y).cls = some m.cls) (hG : ∀ w ∈ wG, w.before args s = true) (hA : Amb E s)
    (hS : MStat y) (htab : c.exceptionTable.toList = tableOf (mH y)) : Ends p l e (rmT (d + 1) y) s m args below meth c (vx_MQ below (aQc E ad N Q) (aXC E ad N Q) args s (mI y).mc (mI y).ms (gA E)) E ad N (mL y) (mI y) C Q := by
  obtain ⟨⟨k1, k2, k3, k4, k5, k6, k7, k8, k0, k9, k10⟩, -, hret⟩ := hS
  have tabnil : (mI y).hnd = [] → ∀ x ∈ c.exceptionTable.toList, False := by
    intro hn x hx9
    rw [htab] at hx9
    have : (mH y).length = 0 := by rw [← k9, hn]; rfl
    rw [List.length_eq_zero_iff.mp this] at hx9
    cases hx9
  have hq : ∀ {ad' : Nat → Nat} {h : AH} {N' : Nat} {H : Heap} {locs : List Loc} (o : Option AV), Q (.inl o) h N' → Rel E s ad N ad' h N' H locs → ∀ t : State, t.heap = H → aQc E ad N Q args s (.returned (o.map (cv ad'))) t := by
    intro ad' h N' H locs o hQ hR t ht
    exact ⟨o, h, N', ad', rfl, hQ, by rw [ht]; exact hR.1, hR.2.2.1, hR.2.2.2, hR.2.1.F ht⟩
  refine ⟨fun pc lv st h N' k n X hth hcat hk hn hnd hQ => ?_, fun pc X h N' k n ce q ad' H locs ls rest hnd hQ hk hn hR hce hcv hcl => ?_, fun pc i nx tg lv st h N' k n hc hi hs => ?_⟩
  · obtain ⟨ho, hX, ik, is, ic, text, d0, d3, dd, w1, w2, w3, w4, w5, w6, w7, w8⟩ := k4 _ _ hth
    rw [ho] at hown
    intro ad' H locs ls hR hL
    obtain ⟨sa, hsa⟩ := hA.2.2.2.2.2.2.2.2.1 _ w3
    have hat : ∀ w ∈ vx_atS RX8 ic X exNames, w.before args s = true := vx_hat (fun w hw => hG w (w4 w hw)) w5 (vx_c (va_Nw.use rfl (hA.2.2.2.2.2.2.2.2.2.1 X hX)) (fun w hw => by
      obtain ⟨x, hx9, rfl⟩ := List.mem_map.mp hw
      exact va_Nw.use rfl (hA.2.2.2.2.2.2.2.2.2.2.2 x hx9)))
    have hout : ∀ q, ∀ x ∈ c.exceptionTable.toList, covers x q = false := fun q x hx9 => (tabnil hnd x hx9).elim
    have hxc : ∀ t : State, s.vm.Alike t.vm → H.size ≤ t.heap.size → (∀ q : Nat, q < H.size → t.heap[q]? = H[q]?) → aXC E ad N Q X s t := by
      intro t _ hz hk
      refine ⟨h, N', ad', hQ, ?_, hR.2.2.1, hR.2.2.2, ?_, ?_⟩
      · obtain ⟨g1, g2, g3⟩ := hR.1
        exact ⟨g1.kept (fun k q hq => hk _ ((g1 k q hq).lt)), g2, g3⟩
      · exact Nat.le_trans hR.2.1.1 hz
      · intro q hq1 hq2
        rw [hk q (Nat.lt_of_lt_of_le hq1 hR.2.1.1)]
        exact hR.2.1.2.1 q hq1 hq2
    have r1 : exNames.length + 3 < (rmT (d + 1) y).frames := by show 2 + 3 < d + 1 + 8; omega
    have r2 : ((st.map (cv ad')).map fun v => v.category).sum + (13 * (exNames.length + 1) + 43) ≤ (rmT (d + 1) y).locals := by
      rw [cats_cv]
      show _ + (13 * (2 + 1) + 43) ≤ 100 + 40 * (d + 1)
      omega
    rcases dd with ⟨d4, d6, d9⟩ | ⟨d4, d6, d9⟩
    · exact vx_throwS hx hb hl hown w7 w8 (hG _ w1) (hG _ w2) hsa hat w6 hA.2.2.2.2.2.2.1 hA.2.2.2.2.2.2.2.1 hR.2.1 (by rw [hml]; exact hL.size) d0 d3 d4 d6 d9 (hout _) r1 r2 hk hn hlocks hxc hR.2.1.2.2 hk hn
    · exact vx_throwSW hx hb hl hown w7 w8 (hG _ w1) (hG _ w2) hsa hat w6 hA.2.2.2.2.2.2.1 hA.2.2.2.2.2.2.2.1 hR.2.1 (by rw [hml]; exact hL.size) d0 d3 d4 d6 d9 (hout _) r1 r2 hk hn hlocks hxc hR.2.1.2.2 hk hn
  · exact vx_out (fun x hx9 => (tabnil hnd x hx9).elim) hlocks hce hcv hcl (fun t ht _ => ⟨h, N', ad', hQ, by rw [ht]; exact hR.1, hR.2.2.1, hR.2.2.2, hR.2.1.F ht⟩) hR.2.1.2.2 hk hn
  · have hth : lk (mI y).thr pc = none := by
      cases hth : lk (mI y).thr pc with
      | none => rfl
      | some X =>
        obtain ⟨x, hx9⟩ := k0 _ _ _ _ _ hth hc
        rw [hx9] at hi
        rcases hi with hi | hi | hi | hi <;> cases hi
    have hk := k1 _ _ _ _ hc hth
    obtain ⟨hd, -, -⟩ := chk_spec hk (by
      intro d lo hh offs hz
      rw [hz] at hi
      rcases hi with hi | hi | hi | hi <;> cases hi)
    obtain ⟨t1, t2, t3, t4⟩ := hret _ _ _ _ hc
    intro ad' H locs ls hR hL
    rcases hi with rfl | rfl | rfl | rfl
    · simp only [stepI] at hs
      split at hs
      case h_2 => exact hs.elim
      rename_i a
      obtain ⟨h1, h2, h3, h4⟩ := hs
      refine W.widen h3 h4 (vx_ret ?_)
      rcases t1 rfl with ht | ⟨ht, hrt⟩
      · exact W.iret (v := iI a) hx hb (by rw [hr, ht]) (fun t ht _ => hq (some (vI a)) h2 hR t ht) hR.2.1.2.2 hd hlocks
      · exact W.zret (v := iI a) (ty := .boolean) hx hb (by rw [hr, ht]) (by rcases h1 hrt with rfl | rfl <;> rfl) (fun t ht _ => hq (some (vI a)) h2 hR t ht) hR.2.1.2.2 hd hlocks
    · simp only [stepI] at hs
      split at hs
      case h_2 => exact hs.elim
      rename_i a
      obtain ⟨h2, h3, h4⟩ := hs
      exact W.widen h3 h4 (vx_ret (W.lret (v := a) hx hb (by rw [hr, t2 rfl]) (fun t ht _ => hq (some (vL a)) h2 hR t ht) hR.2.1.2.2 hd hlocks))
    · simp only [stepI] at hs
      split at hs
      case h_2 => exact hs.elim
      rename_i a
      obtain ⟨h2, h3, h4⟩ := hs
      obtain ⟨C9, hC⟩ := t3 rfl
      exact W.widen h3 h4 (vx_ret (W.aret (v := va_rf (a.map ad')) (rt := .object C9) hx hb (by rw [hr, hC]) (Or.inl ⟨_, rfl⟩) (va_rf_or _) (fun t ht _ => hq (some (vF a)) h2 hR t ht) hR.2.1.2.2 hd hlocks))
    · simp only [stepI] at hs
      split at hs
      case h_2 => exact hs.elim
      obtain ⟨h2, h3, h4⟩ := hs
      exact W.widen h3 h4 (vx_ret (W.vret hx hb (by rw [hr, t4 rfl]) (fun t ht _ => hq none h2 hR t ht) hR.2.1.2.2 hd hlocks))
end SND
theorem ofWF {l : Launch} {y : MethodName} {ws ws' : List Cond} {rm : Room} {Pc : Array Value → State → Prop} {Qc : Array Value → State → Outcome → State → Prop} {XC : String → State → State → Prop} {mc ms : Nat} {free : Addr → Prop} {cc : ByteArray} {maxL : Nat} {ret : Option FieldType}
    (hy : plainFor y = true) (hw : ws = Cond.code y cc maxL ret :: ws')
    (body : ∀ p e s m args below meth c s₁, BodyLoose p l y (headSpec ws rm) cc maxL ret e s m args below meth c s₁ → c.maxLocals = maxL → (∀ x ∈ c.exceptionTable.toList, False) → Pc args s →
      W p l e (headSpec ws rm).room s m args below meth c s.heap [] 0 0 (vx_MQ below Qc XC args s mc ms free) (entryFrame m args maxL)) : vx_Met l y ws rm Pc Qc XC mc ms free := by
  refine MetFree.of_bodySF (code := cc) (maxLocals := maxL) (ret := ret) hy ?_ ?_
  · intro args s m h hn
    obtain ⟨meth, c, h1, h2, h3, h4, h5, h6, -, -⟩ := Cond.code_spec hn (atoms_spec (ws := ws) h _ (by rw [hw]; exact List.mem_cons_self))
    exact ⟨meth, c, h1, h2, h3, h4, h5, h6⟩
  · intro p e s m args below meth c s₁ B hml hP _
    have hh0 : s₁.heap = s.heap := by rw [B.state]; rfl
    have ht : ∀ x ∈ c.exceptionTable.toList, False := by
      obtain ⟨meth9, c9, h1, h2, -, -, -, -, h7, -⟩ := Cond.code_spec B.named (atoms_spec (ws := ws) B.pre _ (by rw [hw]; exact List.mem_cons_self))
      cases Option.some.inj (h1.symm.trans B.method)
      cases Option.some.inj (h2.symm.trans (Stand.of_body B).code)
      intro x hx
      rw [Array.isEmpty_iff.mp h7] at hx
      cases hx
    obtain ⟨t, a1, o, b1, b2, b3⟩ := body p e s m args below meth c s₁ B hml ht hP s₁ hh0 (Stand.of_body B)
    exact ⟨t, o, a1, b1, b2, b3⟩
theorem ofWHF {l : Launch} {y : MethodName} {ws ws' : List Cond} {rm : Room} {Pc : Array Value → State → Prop} {Qc : Array Value → State → Outcome → State → Prop} {XC : String → State → State → Prop} {mc ms : Nat} {free : Addr → Prop} {cc : ByteArray} {maxL : Nat} {ret : Option FieldType} {hh : List (Nat × Nat × Nat × Nat)}
    (hy : plainFor y = true) (hw : ws = Cond.codeWith y cc maxL ret hh :: ws')
    (body : ∀ p e s m args below meth c s₁, BodyLoose p l y (headSpec ws rm) cc maxL ret e s m args below meth c s₁ → c.maxLocals = maxL → Pc args s →
      W p l e (headSpec ws rm).room s m args below meth c s.heap [] 0 0 (vx_MQ below Qc XC args s mc ms free) (entryFrame m args maxL)) : vx_Met l y ws rm Pc Qc XC mc ms free := by
  refine MetFree.of_bodySF (code := cc) (maxLocals := maxL) (ret := ret) hy ?_ ?_
  · intro args s m h hn
    obtain ⟨m9, meth, c, hn9, h1, h2, h3, h4, -, h5, h6, -⟩ := Cond.codeWith_spec (atoms_spec (ws := ws) h _ (by rw [hw]; exact List.mem_cons_self))
    cases hn.symm.trans hn9
    exact ⟨meth, c, h1, h2, h3, h4, h5, h6⟩
  · intro p e s m args below meth c s₁ B hml hP _
    have hh0 : s₁.heap = s.heap := by rw [B.state]; rfl
    obtain ⟨t, a1, o, b1, b2, b3⟩ := body p e s m args below meth c s₁ B hml hP s₁ hh0 (Stand.of_body B)
    exact ⟨t, o, a1, b1, b2, b3⟩
theorem T_sound {l : Launch} (hl : l.stackTraces = false) (E : AEnv) (hg : GStat) : ∀ (d y : Nat) (as : List AV) (h : AH) (N : Nat) (Q : AQ), T d y as h N Q → MetY l E d y as h N Q := by
  intro d
  induction d with
  | zero => intro y as h N Q ht; exact ht.elim
  | succ d ih =>
    intro y as h N Q ht ad
    obtain ⟨hlen, hrun⟩ := ht
    by_cases hy : y ∈ aYs
    · have hS := hg.2.2 y hy
      have fin : ∀ {p : Program} {e : Env} {s : State} {m : MethodId} {args : Array Value} {below : List Frame} {meth : Method} {c : Code} {s₁ : State}, BodyLoose p l (mN y) (headSpec (mWs y) (rmT (d + 1) y)) (mB y) (mL y) (mR y) e s m args below meth c s₁ → c.maxLocals = mL y → c.exceptionTable.toList = tableOf (mH y) → aPc E ad as h N args s →
          W p l e (rmT (d + 1) y) s m args below meth c s.heap [] 0 0 (vx_MQ below (aQc E ad N Q) (aXC E ad N Q) args s (mI y).mc (mI y).ms (gA E)) (entryFrame m args (mL y)) := by
        intro p e s m args below meth c s₁ B hml htab hP
        obtain ⟨rfl, hA, hRS⟩ := hP
        have hts := atoms_spec (ws := mWs y) B.pre
        have hG : ∀ w ∈ wG, w.before (as.map (cv ad)).toArray s = true := fun w hw => hts w (List.mem_cons_of_mem _ hw)
        have hown : s.vm.findClass (mN y).cls = some m.cls := findClass_of_methodNamed B.named
        have hnm : meth.name = (mN y).name := (name_of_methodNamed B.named B.method).1
        have hOk : MOk (mN y).cls (mB y) (mL y) meth.name (mI y) (mH y) := by rw [hnm]; exact hS.1
        have hE := ends_body (d := d) (ad := ad) (N := N) (Q := Q) (C := T d) (below := below) (e := e) hl B.exec B.bytes hml B.returns B.notSynchronized hown hG hA hS htab
        have hclo := am_clo (d := d) (C := T d) (R := rmT (d + 1) y) B.exec B.bytes hml hown hG hg.1 hg.2.1 hA (by show d + 9 ≤ d + 1 + 8; omega) (by show _ ≤ 100 + 40 * (d + 1); omega) (Nat.le_refl _) (Nat.le_refl _) hOk (fun _ => htab) (fun y as h N Qy hc => ih y as h N Qy hc) hE
        rw [lg_entry_eq]
        exact hrun _ hclo ad s.heap [] _ ⟨hRS, va_S.rf, Nat.le_refl _, fun _ _ => rfl⟩ (aEnt_Lh hlen)
      by_cases hh : mH y = []
      · refine ofWF (cc := mB y) (maxL := mL y) (ret := mR y) hS.2.1 (by unfold mWs; rw [mW_nil hh]) (fun p e s m args below meth c s₁ B hml htab hP => fin B hml ?_ hP)
        rw [hh]
        cases hz : c.exceptionTable.toList with
        | nil => rfl
        | cons x t => exact (htab x (by rw [hz]; exact List.mem_cons_self)).elim
      · refine ofWHF (cc := mB y) (maxL := mL y) (ret := mR y) (hh := mH y) hS.2.1 (by unfold mWs; rw [mW_hh hh]) (fun p e s m args below meth c s₁ B hml hP => fin B hml ?_ hP)
        refine vx_table (x := mN y) B (bytes := mB y) (maxL' := mL y) (ret' := mR y) (atoms_spec (ws := mWs y) B.pre _ ?_)
        unfold mWs
        rw [mW_hh hh]
        exact List.mem_cons_self
    · exact (run_nil (mI_big hy) hrun).elim
