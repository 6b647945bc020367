/-! ===== what never changes; a method's start ===== -/
def aExc : List String := ["java/lang/IllegalArgumentException", "java/lang/IllegalStateException", "java/lang/IndexOutOfBoundsException"]
/-- the links between nest mates: own, pool index, the method's number, the host -/
def aNest : List (String × Nat × Nat × String) := [(RX3, 31, 54, RX8), (RX4, 11, 54, RX8), (RX7, 17, 54, RX8), (RX7, 33, 122, RX8), (RX8, 9, 76, RX8), (RX8, 35, 10, RX8), (RX8, 42, 4, RX8)]
/-- the texts of the exceptions: pool index, text -/
def aStr : List (Nat × String) := [(49, "no character code"), (60, "the text is full"), (74, "the text is not a grid"), (129, "what is not 0 to 10"), (152, "what is not 0 to 6"), (188, "no such rule"), (201, "no such cell of a reading"), (209, "neither a letter nor 0"), (221, "there is the rim"), (264, "no state is remembered"), (320, "no such cell"), (326, "no such entry")]
def aDcl : List MethodName := [Bundle.initS "java/lang/RuntimeException", Bundle.initS "java/lang/Exception", Bundle.initS Bundle.tN]
def Amb (E : AEnv) (s : State) : Prop :=
  AmbH E s ∧ va_K (gD E) vwCl (gT E) s ∧ va_AO RX6 s ∧ (∀ q ∈ aNest, va_Nw (.methodLinkNest q.1 q.2.1 (mN q.2.2.1) q.2.2.2) s) ∧
  (va_Nw (.fieldLinkNest RX2 68 RX8 "STEP_ROWS" "[I" RX8) s ∧ va_Z RX8 "STEP_ROWS" "[I" (.ref (gr E)) (gA E) s s.heap) ∧
  (va_Nw (.fieldLinkNest RX2 71 RX8 "STEP_COLUMNS" "[I" RX8) s ∧ va_Z RX8 "STEP_COLUMNS" "[I" (.ref (gc E)) (gA E) s s.heap) ∧
  vx_Zq Bundle.tN "UNASSIGNED_STACK" Bundle.steD (gA E) s s.heap ∧ vx_Zq Bundle.tN "SUPPRESSED_SENTINEL" Bundle.listD (gA E) s s.heap ∧
  (∀ q ∈ aStr, ∃ sa, vk_R RX8 q.1 q.2 sa s) ∧ (∀ X ∈ aExc, va_Nw (.castable X X) s) ∧ True ∧ ∀ x ∈ aDcl, va_Nw (.declares x) s
theorem Amb.move {E : AEnv} {s U : State} (h : Amb E s) (hW : s.WarmedH U.vm) (hz : s.heap.size ≤ U.heap.size) (hk : ∀ q : Nat, q < s.heap.size → ¬ gA E q → U.heap[q]? = s.heap[q]?) : Amb E U := by
  obtain ⟨⟨a0, ⟨a1, a2, a3⟩, b1, c1⟩, h2, h3, h4, ⟨h5, h6⟩, ⟨h7, h8⟩, h9, h10, h11, h12, h13, h14⟩ := h
  have hv := hW.alike
  exact ⟨⟨Nat.le_trans a0 hz, ⟨(a1.moved hv).kept (hk _ a2 a3), Nat.lt_of_lt_of_le a2 hz, a3⟩, (b1.moved hv).kept hk, (c1.moved hv).kept hk⟩,
    va_K.moved hv h2, h3.moved hv, fun q hq => va_Nw.warmM hW (h4 q hq), ⟨va_Nw.warmF hW h5, (h6.moved hv).kept hk⟩, ⟨va_Nw.warmF hW h7, (h8.moved hv).kept hk⟩,
    (h9.moved hv).kept hk, (h10.moved hv).kept hk, fun q hq => by obtain ⟨sa, h⟩ := h11 q hq; exact ⟨sa, vk_R.warm hW h⟩, fun X hX => va_Nw.warmC hW (h12 X hX), h13, fun x hx => va_Nw.warmD hW (h14 x hx)⟩
def aPc (E : AEnv) (ad : Nat → Nat) (as : List AV) (h : AH) (N : Nat) : Array Value → State → Prop := fun v U => v = (as.map (cv ad)).toArray ∧ Amb E U ∧ RelS E ad h N U.heap
def aQc (E : AEnv) (ad : Nat → Nat) (N : Nat) (Q : AQ) : Array Value → State → Outcome → State → Prop := fun _ st o t => ∃ (r : Option AV) (h' : AH) (N' : Nat) (ad' : Nat → Nat), o = .returned (r.map (cv ad')) ∧ Q (.inl r) h' N' ∧ RelS E ad' h' N' t.heap ∧ N ≤ N' ∧ (∀ k, k < N ∨ N' ≤ k → ad' k = ad k) ∧ va_F (gA E) st t
def aXC (E : AEnv) (ad : Nat → Nat) (N : Nat) (Q : AQ) : String → State → State → Prop := fun X st t => ∃ (h' : AH) (N' : Nat) (ad' : Nat → Nat), Q (.inr X) h' N' ∧ RelS E ad' h' N' t.heap ∧ N ≤ N' ∧ (∀ k, k < N ∨ N' ≤ k → ad' k = ad k) ∧ va_F (gA E) st t
/-- method y's contract over the great machine -/
def MetY (l : Launch) (E : AEnv) (d y : Nat) (as : List AV) (h : AH) (N : Nat) (Q : AQ) : Prop := ∀ ad : Nat → Nat, vx_Met l (mN y) (mWs y) (rmT d y) (aPc E ad as h N) (aQc E ad N Q) (aXC E ad N Q) (mI y).mc (mI y).ms (gA E)
theorem aPc_blind {E : AEnv} {ad : Nat → Nat} {as : List AV} {h : AH} {N : Nat} : FrameBlind (aPc E ad as h N) := fun a U g mk q =>
  ⟨q.1, Amb.move (U := U.calling g mk a) q.2.1 (State.WarmedH.refl U) (Nat.le_refl _) (fun _ _ _ => rfl), q.2.2⟩
theorem met_of_vx {l : Launch} {y : MethodName} {ws : List Jvm.Cond} {rm : Room} {Pc : Array Value → State → Prop} {Qc : Array Value → State → Outcome → State → Prop} {XC : String → State → State → Prop} {mc ms : Nat} {free : Addr → Prop} (h : vx_Met l y ws rm Pc Qc XC mc ms free) (hx : ∀ X st t, ¬ XC X st t) : Met l y ws rm Pc Qc mc ms free := by
  intro p e ha hc hk s m args below hf happ hP hK
  obtain ⟨n, o, h1, h2, h3, h4⟩ := h p e ha hc hk s m args below hf happ hP hK
  refine ⟨n, o, h1, h2, h3, ?_⟩
  rcases h4 with h4 | ⟨q, -, X, ce, L, hX, -⟩
  · exact h4
  · exact (hx _ _ _ hX).elim
/-! the first locals -/
theorem aArgs_len (ad : Nat → Nat) : ∀ as : List AV, (aArgs as).length = (lg_sl (as.map (cv ad))).length
  | [] => rfl
  | .inl z :: t => by
    have := aArgs_len ad t
    simp only [aArgs, lg_sl, List.map_cons, List.flatMap_cons, List.length_cons, List.length_append, this]
    simp [cv, Value.category]
    omega
  | .inr (.inl x) :: t => by
    have := aArgs_len ad t
    simp only [aArgs, lg_sl, List.map_cons, List.flatMap_cons, List.length_cons, List.length_append, this]
    simp [cv, Value.category]
    omega
  | .inr (.inr r) :: t => by
    have := aArgs_len ad t
    simp only [aArgs, lg_sl, List.map_cons, List.flatMap_cons, List.length_cons, List.length_append, this]
    cases r <;> simp [cv, va_rf, Value.category] <;> omega
theorem aLd_cons {o : Option AV} {t : AL} {i : Nat} {v : AV} (h : aLd (o :: t) i = some v) : (i = 0 ∧ o = some v) ∨ ∃ j, i = j + 1 ∧ aLd t j = some v := by
  cases i with
  | zero => exact Or.inl ⟨rfl, h⟩
  | succ j => exact Or.inr ⟨j, rfl, h⟩
theorem aLd_none {n i : Nat} {v : AV} (h : aLd (List.replicate n none) i = some v) : False := by
  unfold aLd at h
  rw [List.getD_eq_getElem?_getD, List.getElem?_replicate] at h
  split at h <;> cases h
theorem aArgs_in (ad : Nat → Nat) (n : Nat) : ∀ (as : List AV) (off i : Nat) (v : AV), aLd (aArgs as ++ List.replicate n none) i = some v → (off + i, cv ad v) ∈ lv_args off (as.map (cv ad))
  | [], off, i, v, h => (aLd_none h).elim
  | .inl z :: t, off, i, v, h => by
    rcases aLd_cons h with ⟨rfl, e⟩ | ⟨j, rfl, e⟩
    · cases e
      exact List.mem_cons_self
    · refine List.mem_cons_of_mem _ ?_
      have := aArgs_in ad n t (off + 1) j v e
      rw [show off + (j + 1) = off + 1 + j by omega]
      exact this
  | .inr (.inl x) :: t, off, i, v, h => by
    rcases aLd_cons h with ⟨rfl, e⟩ | ⟨j, rfl, e⟩
    · cases e
      exact List.mem_cons_self
    · rcases aLd_cons e with ⟨rfl, e⟩ | ⟨j, rfl, e⟩
      · cases e
      · refine List.mem_cons_of_mem _ ?_
        have := aArgs_in ad n t (off + 2) j v e
        rw [show off + (j + 1 + 1) = off + 2 + j by omega]
        exact this
  | .inr (.inr r) :: t, off, i, v, h => by
    rcases aLd_cons h with ⟨rfl, e⟩ | ⟨j, rfl, e⟩
    · cases e
      exact List.mem_cons_self
    · refine List.mem_cons_of_mem _ ?_
      have := aArgs_in ad n t (off + 1) j v e
      rw [show off + (j + 1) = off + 1 + j by omega]
      cases r <;> exact this
theorem aEnt_Lh {ad : Nat → Nat} {as : List AV} {nL : Nat} (h : (aArgs as).length ≤ nL) : Lh ad ((lg_sl (as.map (cv ad)) ++ List.replicate (nL - (lg_sl (as.map (cv ad))).length) Slot.unset).toArray) nL (aEnt nL as) := by
  have hl := aArgs_len ad as
  have hv := lv_entry (as.map (cv ad)) (n := nL) (by omega)
  refine ⟨by simp [aEnt]; omega, hv.1, hv.2.1, fun q hq => ?_⟩
  obtain ⟨v, h1, h2⟩ := lp_of hq
  have := aArgs_in ad _ as 0 q.1 v h1
  rw [Nat.zero_add] at this
  rw [h2]
  exact hv.2.2 _ this
