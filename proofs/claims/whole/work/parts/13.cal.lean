/-! ===== what is decided: the words of the tables, and the methods that are called ===== -/
theorem wG_m {w : Jvm.Cond} (i : Nat) (h : lw_tbl[i]? = some w) (hg : goodWord w = true) : w ∈ wG := List.mem_filter.mpr ⟨List.mem_of_getElem? h, hg⟩
theorem wG_t1 {w : Jvm.Cond} (i : Nat) (h : tables_1_1[i]? = some w) (hg : goodWord w = true) : w ∈ wG := by
  have h := List.mem_of_getElem? h
  exact List.mem_filter.mpr ⟨List.mem_append_right _ (show w ∈ tables_1 from (List.mem_append_left _ h)), hg⟩
theorem wG_t2 {w : Jvm.Cond} (i : Nat) (h : tables_1_2[i]? = some w) (hg : goodWord w = true) : w ∈ wG := by
  have h := List.mem_of_getElem? h
  exact List.mem_filter.mpr ⟨List.mem_append_right _ (show w ∈ tables_1 from (List.mem_append_right _ (List.mem_append_left _ h))), hg⟩
theorem wG_t3 {w : Jvm.Cond} (i : Nat) (h : tables_1_3[i]? = some w) (hg : goodWord w = true) : w ∈ wG := by
  have h := List.mem_of_getElem? h
  exact List.mem_filter.mpr ⟨List.mem_append_right _ (show w ∈ tables_1 from (List.mem_append_right _ (List.mem_append_right _ (List.mem_append_left _ h)))), hg⟩
theorem wG_t4 {w : Jvm.Cond} (i : Nat) (h : tables_1_4[i]? = some w) (hg : goodWord w = true) : w ∈ wG := by
  have h := List.mem_of_getElem? h
  exact List.mem_filter.mpr ⟨List.mem_append_right _ (show w ∈ tables_1 from (List.mem_append_right _ (List.mem_append_right _ (List.mem_append_right _ (List.mem_append_left _ h))))), hg⟩
theorem wG_t5 {w : Jvm.Cond} (i : Nat) (h : tables_1_5[i]? = some w) (hg : goodWord w = true) : w ∈ wG := by
  have h := List.mem_of_getElem? h
  exact List.mem_filter.mpr ⟨List.mem_append_right _ (show w ∈ tables_1 from (List.mem_append_right _ (List.mem_append_right _ (List.mem_append_right _ (List.mem_append_right _ (List.mem_append_left _ h)))))), hg⟩
theorem wG_t6 {w : Jvm.Cond} (i : Nat) (h : tables_1_6[i]? = some w) (hg : goodWord w = true) : w ∈ wG := by
  have h := List.mem_of_getElem? h
  exact List.mem_filter.mpr ⟨List.mem_append_right _ (show w ∈ tables_1 from (List.mem_append_right _ (List.mem_append_right _ (List.mem_append_right _ (List.mem_append_right _ (List.mem_append_right _ (h))))))), hg⟩
def CalV (y n mc ms rc : Nat) : Prop := CalOk y n mc ms ∧ mH y = [] ∧ Jvm.Cond.instanceMethod (mN y) ∈ wG ∧ Jvm.Cond.selects (mN y).cls (mN y) (mN y) ∈ wG ∧ ∃ q, vwCl[rc]? = some q ∧ q.1 = (mN y).cls
def CalS (y n mc ms : Nat) : Prop := CalOk y n mc ms ∧ mH y = [] ∧ Jvm.Cond.static (mN y) ∈ wG
def CalX (y n mc ms : Nat) : Prop := CalOk y n mc ms ∧ mH y ≠ [] ∧ Jvm.Cond.static (mN y) ∈ wG
def CalC (y n mc ms : Nat) : Prop := CalOk y n mc ms ∧ mH y = [] ∧ mR y = none ∧ Jvm.Cond.instanceMethod (mN y) ∈ wG ∧ (mN y).name = "<init>"
theorem m_0 {own : String} {x y n mc ms rc : Nat} (h : CalV y n mc ms rc) (w : Jvm.Cond.methodLink own x (mN y) ∈ wG) : MthOk own x (y, 0, n + 1, mc, ms, rc) := ⟨n, rfl, h.1, h.2.1, w, h.2.2.1, h.2.2.2.1, h.2.2.2.2⟩
theorem m_1 {own : String} {x y n mc ms rc : Nat} (h : CalS y n mc ms) (w : Jvm.Cond.methodLink own x (mN y) ∈ wG) : MthOk own x (y, 1, n, mc, ms, rc) := ⟨h.1, h.2.1, w, h.2.2⟩
theorem m_7 {own : String} {x y n mc ms rc : Nat} (h : CalX y n mc ms) (w : Jvm.Cond.methodLink own x (mN y) ∈ wG) : MthOk own x (y, 7, n, mc, ms, rc) := ⟨h.1, h.2.1, w, h.2.2⟩
theorem m_2 {own : String} {x y n mc ms rc : Nat} (h : CalC y n mc ms) (w : Jvm.Cond.methodLink own x (mN y) ∈ wG) : MthOk own x (y, 2, n + 1, mc, ms, rc) := ⟨n, rfl, h.1, h.2.1, h.2.2.1, w, h.2.2.2.1, h.2.2.2.2⟩
theorem m_3 {own : String} {x y n mc ms rc : Nat} (h : CalS y n mc ms) (w : (own, x, y, RX8) ∈ aNest) : MthOk own x (y, 3, n, mc, ms, rc) := ⟨h.1, h.2.1, w, h.2.2⟩
theorem m_4 {own : String} {x y n mc ms rc : Nat} (h : CalC y n mc ms) (w : (own, x, y, RX8) ∈ aNest) : MthOk own x (y, 4, n + 1, mc, ms, rc) := ⟨n, rfl, h.1, h.2.1, h.2.2.1, w, h.2.2.2.1, h.2.2.2.2⟩
theorem lk_mem {α : Type} : ∀ (t : List (Nat × α)) {x : Nat} {v : α}, lk t x = some v → (x, v) ∈ t
  | [], x, v, h => by cases h
  | (k, a) :: t, x, v, h => by
    cases hb : Nat.beq k x with
    | true =>
      have h : cond (Nat.beq k x) (some a) (lk t x) = some v := h
      rw [hb] at h
      cases h
      rw [Nat.eq_of_beq_eq_true hb]
      exact List.mem_cons_self
    | false =>
      have h : cond (Nat.beq k x) (some a) (lk t x) = some v := h
      rw [hb] at h
      exact List.mem_cons_of_mem _ (lk_mem t h)
theorem lk_all {α : Type} {t : List (Nat × α)} {P : Nat → α → Prop} (h : ∀ q ∈ t, P q.1 q.2) {x : Nat} {v : α} (hx : lk t x = some v) : P x v := h _ (lk_mem t hx)
def fldW (own : String) (t : List (Nat × Nat × Nat)) : List Jvm.Cond := t.map (fun r => match vwCl[r.2.1]? with
  | some q => .fieldLink own r.1 (q.2.1 r.2.2).1 (q.2.1 r.2.2).2.1 (q.2.1 r.2.2).2.2.1
  | none => .tt)
def fldC (t : List (Nat × Nat × Nat)) : Bool := t.all (fun r => match vwCl[r.2.1]? with
  | some q => decide (r.2.2 < q.2.2)
  | none => false)
theorem wG_of {ws : List Jvm.Cond} (ps : List Nat) (hp : ws = ps.filterMap (fun i => lw_tbl[i]?)) (hg : ws.all goodWord = true) : ∀ w ∈ ws, w ∈ wG := by
  intro w hw
  refine List.mem_filter.mpr ⟨?_, List.all_eq_true.mp hg w hw⟩
  rw [hp] at hw
  obtain ⟨i, -, hi⟩ := List.mem_filterMap.mp hw
  exact List.mem_of_getElem? hi
theorem fld_ok {own : String} {t : List (Nat × Nat × Nat)} (hw : ∀ w ∈ fldW own t, w ∈ wG) (hc : fldC t = true) : ∀ x ci j, lk t x = some (ci, j) → ∃ q, vwCl[ci]? = some q ∧ j < q.2.2 ∧ Jvm.Cond.fieldLink own x (q.2.1 j).1 (q.2.1 j).2.1 (q.2.1 j).2.2.1 ∈ wG := by
  intro x ci j h
  have hm := lk_mem t h
  have h1 := List.all_eq_true.mp hc _ hm
  dsimp only at h1
  cases hq : vwCl[ci]? with
  | none => rw [hq] at h1; cases h1
  | some q =>
    rw [hq] at h1
    refine ⟨q, rfl, of_decide_eq_true h1, hw _ ?_⟩
    have := List.mem_map_of_mem (f := fun r : Nat × Nat × Nat => match vwCl[r.2.1]? with
      | some q => Jvm.Cond.fieldLink own r.1 (q.2.1 r.2.2).1 (q.2.1 r.2.2).2.1 (q.2.1 r.2.2).2.2.1
      | none => .tt) hm
    dsimp only at this
    rw [hq] at this
    exact this
def rowsC (own : String) (cc : ByteArray) (nL : Nat) (nm : String) (I : MI) : Bool := I.code.all (fun r => match lk I.thr r.1 with
  | some _ => match r.2.1 with
    | .new _ => true
    | _ => false
  | none => chk own cc nL nm I r.1 r.2.1 r.2.2.1 r.2.2.2)
theorem rows_ok {own : String} {cc : ByteArray} {nL : Nat} {nm : String} {I : MI} (h : rowsC own cc nL nm I = true) : (∀ pc i nx tg, lk I.code pc = some (i, nx, tg) → lk I.thr pc = none → chk own cc nL nm I pc i nx tg = true) ∧ ∀ pc X i nx tg, lk I.thr pc = some X → lk I.code pc = some (i, nx, tg) → ∃ x, i = .new x := by
  refine ⟨fun pc i nx tg hc ht => ?_, fun pc X i nx tg ht hc => ?_⟩
  · have h1 := List.all_eq_true.mp h _ (lk_mem _ hc)
    dsimp only at h1
    rw [ht] at h1
    exact h1
  · have h1 := List.all_eq_true.mp h _ (lk_mem _ hc)
    dsimp only at h1
    rw [ht] at h1
    dsimp only at h1
    split at h1
    · exact ⟨_, rfl⟩
    · cases h1
def retC (ret : Option FieldType) (I : MI) : Bool := I.code.all (fun r => match r.2.1 with
  | .ireturn => decide (ret = some .int) || (decide (ret = some .boolean) && decide (I.rt = 1))
  | .lreturn => decide (ret = some .long)
  | .areturn => match ret with
    | some (.object _) => true
    | _ => false
  | .return_ => decide (ret = none)
  | _ => true)
theorem ret_ok {y : Nat} (h : retC (mR y) (mI y) = true) : RetOk y := by
  intro pc i nx tg hc
  have h1 := List.all_eq_true.mp h _ (lk_mem _ hc)
  dsimp only at h1
  refine ⟨fun e => ?_, fun e => ?_, fun e => ?_, fun e => ?_⟩
  · subst e
    simp only [Bool.or_eq_true, Bool.and_eq_true, decide_eq_true_eq] at h1
    exact h1
  · subst e
    exact of_decide_eq_true h1
  · subst e
    dsimp only at h1
    split at h1
    · exact ⟨_, by assumption⟩
    · cases h1
  · subst e
    exact of_decide_eq_true h1
/-- no constants, no made arrays of objects -/
def noC (I : MI) : Bool := I.code.all (fun r => match r.2.1 with
  | .ldc _ => (lk I.thr (r.1 - 4)).isSome
  | .ldc2_w _ => false
  | .anewarray _ => false
  | _ => true)
set_option maxRecDepth 20000 in
theorem cal_X0_succeeds : CalS 0 3 0 0 := ⟨⟨wG_t4 185 rfl rfl, wG_t1 20 (by decide +kernel) rfl, ⟨by decide, by decide⟩, ⟨rfl, rfl⟩, by decide, by decide +kernel⟩, rfl, wG_t4 184 (by decide +kernel) rfl⟩
set_option maxRecDepth 20000 in
theorem cal_X0_putsLetter : CalS 1 3 0 0 := ⟨⟨wG_t4 188 rfl rfl, wG_t1 20 (by decide +kernel) rfl, ⟨by decide, by decide⟩, ⟨rfl, rfl⟩, by decide, by decide +kernel⟩, rfl, wG_t4 187 (by decide +kernel) rfl⟩
set_option maxRecDepth 20000 in
theorem cal_X0_fillsEntry : CalS 2 3 0 0 := ⟨⟨wG_t4 195 rfl rfl, wG_t1 20 (by decide +kernel) rfl, ⟨by decide, by decide⟩, ⟨rfl, rfl⟩, by decide, by decide +kernel⟩, rfl, wG_t4 194 (by decide +kernel) rfl⟩
set_option maxRecDepth 20000 in
theorem cal_X0_clearsEntry : CalS 3 2 0 0 := ⟨⟨wG_t4 200 rfl rfl, wG_t1 20 (by decide +kernel) rfl, ⟨by decide, by decide⟩, ⟨rfl, rfl⟩, by decide, by decide +kernel⟩, rfl, wG_t4 199 (by decide +kernel) rfl⟩
set_option maxRecDepth 20000 in
theorem cal_X1_init : CalC 4 0 2 16 := ⟨⟨wG_t2 1 rfl rfl, wG_t1 8 (by decide +kernel) rfl, ⟨by decide, by decide⟩, ⟨rfl, rfl⟩, by decide, by decide +kernel⟩, rfl, rfl, wG_t2 0 (by decide +kernel) rfl, rfl⟩
set_option maxRecDepth 20000 in
theorem cal_X1_count : CalV 5 1 0 0 0 := ⟨⟨wG_t2 188 rfl rfl, wG_t1 8 (by decide +kernel) rfl, ⟨by decide, by decide⟩, ⟨rfl, rfl⟩, by decide, by decide +kernel⟩, rfl, wG_t2 186 (by decide +kernel) rfl, wG_t2 187 (by decide +kernel) rfl, _, rfl, rfl⟩
set_option maxRecDepth 20000 in
theorem cal_X1_wordsThatFit : CalS 6 2 0 0 := ⟨⟨wG_t2 191 rfl rfl, wG_t1 8 (by decide +kernel) rfl, ⟨by decide, by decide⟩, ⟨rfl, rfl⟩, by decide, by decide +kernel⟩, rfl, wG_t2 190 (by decide +kernel) rfl⟩
set_option maxRecDepth 20000 in
theorem cal_X1_giveFrom : CalV 7 2 0 0 0 := ⟨⟨wG_t2 218 rfl rfl, wG_t1 8 (by decide +kernel) rfl, ⟨by decide, by decide⟩, ⟨rfl, rfl⟩, by decide, by decide +kernel⟩, rfl, wG_t2 217 (by decide +kernel) rfl, wG_m 13 (by decide +kernel) rfl, _, rfl, rfl⟩
set_option maxRecDepth 20000 in
theorem cal_X1_give : CalV 8 3 0 0 0 := ⟨⟨wG_t3 2 rfl rfl, wG_t1 8 (by decide +kernel) rfl, ⟨by decide, by decide⟩, ⟨rfl, rfl⟩, by decide, by decide +kernel⟩, rfl, wG_t3 1 (by decide +kernel) rfl, wG_m 15 (by decide +kernel) rfl, _, rfl, rfl⟩
set_option maxRecDepth 20000 in
theorem cal_X1_agrees : CalV 9 3 0 0 0 := ⟨⟨wG_t2 222 rfl rfl, wG_t1 8 (by decide +kernel) rfl, ⟨by decide, by decide⟩, ⟨rfl, rfl⟩, by decide, by decide +kernel⟩, rfl, wG_t2 221 (by decide +kernel) rfl, wG_m 14 (by decide +kernel) rfl, _, rfl, rfl⟩
set_option maxRecDepth 20000 in
theorem cal_X2_init : CalC 10 0 2 12 := ⟨⟨wG_t1 213 rfl rfl, wG_t1 7 (by decide +kernel) rfl, ⟨by decide, by decide⟩, ⟨rfl, rfl⟩, by decide, by decide +kernel⟩, rfl, rfl, wG_t1 212 (by decide +kernel) rfl, rfl⟩
set_option maxRecDepth 20000 in
theorem cal_X2_count : CalV 11 3 0 0 1 := ⟨⟨wG_t2 131 rfl rfl, wG_t1 7 (by decide +kernel) rfl, ⟨by decide, by decide⟩, ⟨rfl, rfl⟩, by decide, by decide +kernel⟩, rfl, wG_t2 129 (by decide +kernel) rfl, wG_t2 130 (by decide +kernel) rfl, _, rfl, rfl⟩
set_option maxRecDepth 20000 in
theorem cal_X2_cellOfFirst : CalV 12 1 0 0 1 := ⟨⟨wG_t4 77 rfl rfl, wG_t1 7 (by decide +kernel) rfl, ⟨by decide, by decide⟩, ⟨rfl, rfl⟩, by decide, by decide +kernel⟩, rfl, wG_t4 75 (by decide +kernel) rfl, wG_t4 76 (by decide +kernel) rfl, _, rfl, rfl⟩
set_option maxRecDepth 20000 in
theorem cal_X2_visit : CalV 13 3 0 0 1 := ⟨⟨wG_t2 136 rfl rfl, wG_t1 7 (by decide +kernel) rfl, ⟨by decide, by decide⟩, ⟨rfl, rfl⟩, by decide, by decide +kernel⟩, rfl, wG_t2 135 (by decide +kernel) rfl, wG_m 9 (by decide +kernel) rfl, _, rfl, rfl⟩
set_option maxRecDepth 20000 in
theorem cal_X2_visitBehind : CalV 14 3 0 0 1 := ⟨⟨wG_t2 163 rfl rfl, wG_t1 7 (by decide +kernel) rfl, ⟨by decide, by decide⟩, ⟨rfl, rfl⟩, by decide, by decide +kernel⟩, rfl, wG_t2 162 (by decide +kernel) rfl, wG_m 12 (by decide +kernel) rfl, _, rfl, rfl⟩
set_option maxRecDepth 20000 in
theorem cal_X2_isAllowed : CalV 15 3 0 0 1 := ⟨⟨wG_t2 140 rfl rfl, wG_t1 7 (by decide +kernel) rfl, ⟨by decide, by decide⟩, ⟨rfl, rfl⟩, by decide, by decide +kernel⟩, rfl, wG_t2 139 (by decide +kernel) rfl, wG_m 10 (by decide +kernel) rfl, _, rfl, rfl⟩
set_option maxRecDepth 20000 in
theorem cal_X2_keepPath : CalV 16 1 0 0 1 := ⟨⟨wG_t2 156 rfl rfl, wG_t1 7 (by decide +kernel) rfl, ⟨by decide, by decide⟩, ⟨rfl, rfl⟩, by decide, by decide +kernel⟩, rfl, wG_t2 155 (by decide +kernel) rfl, wG_m 11 (by decide +kernel) rfl, _, rfl, rfl⟩
set_option maxRecDepth 20000 in
theorem cal_X3_init : CalC 17 0 83 1746 := ⟨⟨wG_t1 187 rfl rfl, wG_t1 6 (by decide +kernel) rfl, ⟨by decide, by decide⟩, ⟨rfl, rfl⟩, by decide, by decide +kernel⟩, rfl, rfl, wG_t1 186 (by decide +kernel) rfl, rfl⟩
set_option maxRecDepth 20000 in
theorem cal_X3_remember : CalV 18 1 0 0 2 := ⟨⟨wG_t4 90 rfl rfl, wG_t1 6 (by decide +kernel) rfl, ⟨by decide, by decide⟩, ⟨rfl, rfl⟩, by decide, by decide +kernel⟩, rfl, wG_t4 88 (by decide +kernel) rfl, wG_t4 89 (by decide +kernel) rfl, _, rfl, rfl⟩
set_option maxRecDepth 20000 in
theorem cal_X3_takeLast : CalV 19 0 0 0 2 := ⟨⟨wG_t4 170 rfl rfl, wG_t1 6 (by decide +kernel) rfl, ⟨by decide, by decide⟩, ⟨rfl, rfl⟩, by decide, by decide +kernel⟩, rfl, wG_t4 168 (by decide +kernel) rfl, wG_t4 169 (by decide +kernel) rfl, _, rfl, rfl⟩
set_option maxRecDepth 20000 in
theorem cal_X3_forgetActions : CalV 20 0 0 0 2 := ⟨⟨wG_t3 192 rfl rfl, wG_t1 6 (by decide +kernel) rfl, ⟨by decide, by decide⟩, ⟨rfl, rfl⟩, by decide, by decide +kernel⟩, rfl, wG_t3 190 (by decide +kernel) rfl, wG_t3 191 (by decide +kernel) rfl, _, rfl, rfl⟩
set_option maxRecDepth 20000 in
theorem cal_X3_at : CalV 21 1 0 0 2 := ⟨⟨wG_t4 94 rfl rfl, wG_t1 6 (by decide +kernel) rfl, ⟨by decide, by decide⟩, ⟨rfl, rfl⟩, by decide, by decide +kernel⟩, rfl, wG_t4 93 (by decide +kernel) rfl, wG_m 20 (by decide +kernel) rfl, _, rfl, rfl⟩
set_option maxRecDepth 20000 in
theorem cal_X3_store : CalV 22 2 0 0 2 := ⟨⟨wG_t4 235 rfl rfl, wG_t1 6 (by decide +kernel) rfl, ⟨by decide, by decide⟩, ⟨rfl, rfl⟩, by decide, by decide +kernel⟩, rfl, wG_t4 233 (by decide +kernel) rfl, wG_t4 234 (by decide +kernel) rfl, _, rfl, rfl⟩
set_option maxRecDepth 20000 in
theorem cal_X3_isStored : CalV 23 1 0 0 2 := ⟨⟨wG_t5 6 rfl rfl, wG_t1 6 (by decide +kernel) rfl, ⟨by decide, by decide⟩, ⟨rfl, rfl⟩, by decide, by decide +kernel⟩, rfl, wG_t5 4 (by decide +kernel) rfl, wG_t5 5 (by decide +kernel) rfl, _, rfl, rfl⟩
set_option maxRecDepth 20000 in
theorem cal_X3_stored : CalV 24 1 0 0 2 := ⟨⟨wG_t5 11 rfl rfl, wG_t1 6 (by decide +kernel) rfl, ⟨by decide, by decide⟩, ⟨rfl, rfl⟩, by decide, by decide +kernel⟩, rfl, wG_t5 9 (by decide +kernel) rfl, wG_t5 10 (by decide +kernel) rfl, _, rfl, rfl⟩
set_option maxRecDepth 20000 in
theorem cal_X3_emptySlots : CalV 25 0 0 0 2 := ⟨⟨wG_t3 196 rfl rfl, wG_t1 6 (by decide +kernel) rfl, ⟨by decide, by decide⟩, ⟨rfl, rfl⟩, by decide, by decide +kernel⟩, rfl, wG_t3 194 (by decide +kernel) rfl, wG_t3 195 (by decide +kernel) rfl, _, rfl, rfl⟩
set_option maxRecDepth 20000 in
theorem cal_X4_init : CalC 26 0 11 324 := ⟨⟨wG_t1 105 rfl rfl, wG_t1 4 (by decide +kernel) rfl, ⟨by decide, by decide⟩, ⟨rfl, rfl⟩, by decide, by decide +kernel⟩, rfl, rfl, wG_t1 104 (by decide +kernel) rfl, rfl⟩
set_option maxRecDepth 20000 in
theorem cal_X4_take : CalV 27 1 0 0 3 := ⟨⟨wG_t3 10 rfl rfl, wG_t1 4 (by decide +kernel) rfl, ⟨by decide, by decide⟩, ⟨rfl, rfl⟩, by decide, by decide +kernel⟩, rfl, wG_t3 8 (by decide +kernel) rfl, wG_t3 9 (by decide +kernel) rfl, _, rfl, rfl⟩
set_option maxRecDepth 20000 in
theorem cal_X4_changeBar : CalV 28 3 0 0 3 := ⟨⟨wG_t3 64 rfl rfl, wG_t1 4 (by decide +kernel) rfl, ⟨by decide, by decide⟩, ⟨rfl, rfl⟩, by decide, by decide +kernel⟩, rfl, wG_t3 62 (by decide +kernel) rfl, wG_t3 63 (by decide +kernel) rfl, _, rfl, rfl⟩
set_option maxRecDepth 20000 in
theorem cal_X4_layOut : CalV 29 0 0 0 3 := ⟨⟨wG_t1 112 rfl rfl, wG_t1 4 (by decide +kernel) rfl, ⟨by decide, by decide⟩, ⟨rfl, rfl⟩, by decide, by decide +kernel⟩, rfl, wG_t1 111 (by decide +kernel) rfl, wG_m 0 (by decide +kernel) rfl, _, rfl, rfl⟩
set_option maxRecDepth 20000 in
theorem cal_X4_addEntry : CalV 30 2 0 0 3 := ⟨⟨wG_t1 135 rfl rfl, wG_t1 4 (by decide +kernel) rfl, ⟨by decide, by decide⟩, ⟨rfl, rfl⟩, by decide, by decide +kernel⟩, rfl, wG_t1 134 (by decide +kernel) rfl, wG_m 1 (by decide +kernel) rfl, _, rfl, rfl⟩
set_option maxRecDepth 20000 in
theorem cal_X4_hasEntry : CalV 31 1 0 0 3 := ⟨⟨wG_t2 199 rfl rfl, wG_t1 4 (by decide +kernel) rfl, ⟨by decide, by decide⟩, ⟨rfl, rfl⟩, by decide, by decide +kernel⟩, rfl, wG_t2 197 (by decide +kernel) rfl, wG_t2 198 (by decide +kernel) rfl, _, rfl, rfl⟩
set_option maxRecDepth 20000 in
theorem cal_X4_isDown : CalV 32 1 0 0 3 := ⟨⟨wG_t2 228 rfl rfl, wG_t1 4 (by decide +kernel) rfl, ⟨by decide, by decide⟩, ⟨rfl, rfl⟩, by decide, by decide +kernel⟩, rfl, wG_t2 226 (by decide +kernel) rfl, wG_t2 227 (by decide +kernel) rfl, _, rfl, rfl⟩
set_option maxRecDepth 20000 in
theorem cal_X4_lengthOf : CalV 33 1 0 0 3 := ⟨⟨wG_t2 204 rfl rfl, wG_t1 4 (by decide +kernel) rfl, ⟨by decide, by decide⟩, ⟨rfl, rfl⟩, by decide, by decide +kernel⟩, rfl, wG_t2 202 (by decide +kernel) rfl, wG_t2 203 (by decide +kernel) rfl, _, rfl, rfl⟩
set_option maxRecDepth 20000 in
theorem cal_X4_cellOf : CalV 34 2 0 0 3 := ⟨⟨wG_t2 209 rfl rfl, wG_t1 4 (by decide +kernel) rfl, ⟨by decide, by decide⟩, ⟨rfl, rfl⟩, by decide, by decide +kernel⟩, rfl, wG_t2 207 (by decide +kernel) rfl, wG_t2 208 (by decide +kernel) rfl, _, rfl, rfl⟩
set_option maxRecDepth 20000 in
theorem cal_X4_indexIn : CalV 35 2 0 0 3 := ⟨⟨wG_t2 236 rfl rfl, wG_t1 4 (by decide +kernel) rfl, ⟨by decide, by decide⟩, ⟨rfl, rfl⟩, by decide, by decide +kernel⟩, rfl, wG_t2 234 (by decide +kernel) rfl, wG_t2 235 (by decide +kernel) rfl, _, rfl, rfl⟩
set_option maxRecDepth 20000 in
theorem cal_X4_entryAt : CalV 36 2 0 0 3 := ⟨⟨wG_t2 232 rfl rfl, wG_t1 4 (by decide +kernel) rfl, ⟨by decide, by decide⟩, ⟨rfl, rfl⟩, by decide, by decide +kernel⟩, rfl, wG_t2 230 (by decide +kernel) rfl, wG_t2 231 (by decide +kernel) rfl, _, rfl, rfl⟩
set_option maxRecDepth 20000 in
theorem cal_X4_clueAt : CalV 37 1 0 0 3 := ⟨⟨wG_t4 11 rfl rfl, wG_t1 4 (by decide +kernel) rfl, ⟨by decide, by decide⟩, ⟨rfl, rfl⟩, by decide, by decide +kernel⟩, rfl, wG_t4 9 (by decide +kernel) rfl, wG_t4 10 (by decide +kernel) rfl, _, rfl, rfl⟩
set_option maxRecDepth 20000 in
theorem cal_X4_entriesAt : CalV 38 1 0 0 3 := ⟨⟨wG_t2 144 rfl rfl, wG_t1 4 (by decide +kernel) rfl, ⟨by decide, by decide⟩, ⟨rfl, rfl⟩, by decide, by decide +kernel⟩, rfl, wG_t2 142 (by decide +kernel) rfl, wG_t2 143 (by decide +kernel) rfl, _, rfl, rfl⟩
set_option maxRecDepth 20000 in
theorem cal_X4_cellsInEntries : CalV 39 1 0 0 3 := ⟨⟨wG_t3 30 rfl rfl, wG_t1 4 (by decide +kernel) rfl, ⟨by decide, by decide⟩, ⟨rfl, rfl⟩, by decide, by decide +kernel⟩, rfl, wG_t3 28 (by decide +kernel) rfl, wG_t3 29 (by decide +kernel) rfl, _, rfl, rfl⟩
set_option maxRecDepth 20000 in
theorem cal_X4_uncheckedIn : CalV 40 1 0 0 3 := ⟨⟨wG_t3 38 rfl rfl, wG_t1 4 (by decide +kernel) rfl, ⟨by decide, by decide⟩, ⟨rfl, rfl⟩, by decide, by decide +kernel⟩, rfl, wG_t3 36 (by decide +kernel) rfl, wG_t3 37 (by decide +kernel) rfl, _, rfl, rfl⟩
set_option maxRecDepth 20000 in
theorem cal_X4_emptyIn : CalV 41 1 0 0 3 := ⟨⟨wG_t3 74 rfl rfl, wG_t1 4 (by decide +kernel) rfl, ⟨by decide, by decide⟩, ⟨rfl, rfl⟩, by decide, by decide +kernel⟩, rfl, wG_t3 72 (by decide +kernel) rfl, wG_t3 73 (by decide +kernel) rfl, _, rfl, rfl⟩
set_option maxRecDepth 20000 in
theorem cal_X4_fitsWord : CalV 42 2 0 0 3 := ⟨⟨wG_t2 195 rfl rfl, wG_t1 4 (by decide +kernel) rfl, ⟨by decide, by decide⟩, ⟨rfl, rfl⟩, by decide, by decide +kernel⟩, rfl, wG_t2 193 (by decide +kernel) rfl, wG_t2 194 (by decide +kernel) rfl, _, rfl, rfl⟩
set_option maxRecDepth 20000 in
theorem cal_X4_fitCount : CalV 43 1 0 0 3 := ⟨⟨wG_t3 78 rfl rfl, wG_t1 4 (by decide +kernel) rfl, ⟨by decide, by decide⟩, ⟨rfl, rfl⟩, by decide, by decide +kernel⟩, rfl, wG_t3 76 (by decide +kernel) rfl, wG_t3 77 (by decide +kernel) rfl, _, rfl, rfl⟩
set_option maxRecDepth 20000 in
theorem cal_X4_wordIn : CalV 44 1 0 0 3 := ⟨⟨wG_t4 33 rfl rfl, wG_t1 4 (by decide +kernel) rfl, ⟨by decide, by decide⟩, ⟨rfl, rfl⟩, by decide, by decide +kernel⟩, rfl, wG_t4 31 (by decide +kernel) rfl, wG_t4 32 (by decide +kernel) rfl, _, rfl, rfl⟩
set_option maxRecDepth 20000 in
theorem cal_X4_fillEntry : CalV 45 2 0 0 3 := ⟨⟨wG_t4 144 rfl rfl, wG_t1 4 (by decide +kernel) rfl, ⟨by decide, by decide⟩, ⟨rfl, rfl⟩, by decide, by decide +kernel⟩, rfl, wG_t4 142 (by decide +kernel) rfl, wG_t4 143 (by decide +kernel) rfl, _, rfl, rfl⟩
set_option maxRecDepth 20000 in
theorem cal_X4_clearEntry : CalV 46 1 0 0 3 := ⟨⟨wG_t4 156 rfl rfl, wG_t1 4 (by decide +kernel) rfl, ⟨by decide, by decide⟩, ⟨rfl, rfl⟩, by decide, by decide +kernel⟩, rfl, wG_t4 154 (by decide +kernel) rfl, wG_t4 155 (by decide +kernel) rfl, _, rfl, rfl⟩
set_option maxRecDepth 20000 in
theorem cal_X5_countKept : CalS 47 1 0 0 := ⟨⟨wG_t3 18 rfl rfl, wG_t1 18 (by decide +kernel) rfl, ⟨by decide, by decide⟩, ⟨rfl, rfl⟩, by decide, by decide +kernel⟩, rfl, wG_t3 17 (by decide +kernel) rfl⟩
set_option maxRecDepth 20000 in
theorem cal_X5_areKept : CalS 48 2 0 0 := ⟨⟨wG_t3 21 rfl rfl, wG_t1 18 (by decide +kernel) rfl, ⟨by decide, by decide⟩, ⟨rfl, rfl⟩, by decide, by decide +kernel⟩, rfl, wG_t3 20 (by decide +kernel) rfl⟩
set_option maxRecDepth 20000 in
theorem cal_X5_isSameTurned : CalS 49 1 0 0 := ⟨⟨wG_t3 24 rfl rfl, wG_t1 18 (by decide +kernel) rfl, ⟨by decide, by decide⟩, ⟨rfl, rfl⟩, by decide, by decide +kernel⟩, rfl, wG_t3 23 (by decide +kernel) rfl⟩
set_option maxRecDepth 20000 in
theorem cal_X5_isCheckedEnough : CalS 50 1 0 0 := ⟨⟨wG_t3 34 rfl rfl, wG_t1 18 (by decide +kernel) rfl, ⟨by decide, by decide⟩, ⟨rfl, rfl⟩, by decide, by decide +kernel⟩, rfl, wG_t3 33 (by decide +kernel) rfl⟩
set_option maxRecDepth 20000 in
theorem cal_X5_hasNoUncheckedPair : CalS 51 1 0 0 := ⟨⟨wG_t3 42 rfl rfl, wG_t1 18 (by decide +kernel) rfl, ⟨by decide, by decide⟩, ⟨rfl, rfl⟩, by decide, by decide +kernel⟩, rfl, wG_t3 41 (by decide +kernel) rfl⟩
set_option maxRecDepth 20000 in
theorem cal_X5_isConnected : CalS 52 1 0 0 := ⟨⟨wG_t3 47 rfl rfl, wG_t1 18 (by decide +kernel) rfl, ⟨by decide, by decide⟩, ⟨rfl, rfl⟩, by decide, by decide +kernel⟩, rfl, wG_t3 46 (by decide +kernel) rfl⟩
set_option maxRecDepth 20000 in
theorem cal_X5_spread : CalS 53 4 0 0 := ⟨⟨wG_t3 50 rfl rfl, wG_t1 18 (by decide +kernel) rfl, ⟨by decide, by decide⟩, ⟨rfl, rfl⟩, by decide, by decide +kernel⟩, rfl, wG_t3 49 (by decide +kernel) rfl⟩
set_option maxRecDepth 20000 in
theorem cal_X6_init : CalC 54 0 4 98 := ⟨⟨wG_t1 39 rfl rfl, wG_t1 3 (by decide +kernel) rfl, ⟨by decide, by decide⟩, ⟨rfl, rfl⟩, by decide, by decide +kernel⟩, rfl, rfl, wG_t1 38 (by decide +kernel) rfl, rfl⟩
set_option maxRecDepth 20000 in
theorem cal_X6_copyFrom : CalV 55 1 0 0 4 := ⟨⟨wG_t3 14 rfl rfl, wG_t1 3 (by decide +kernel) rfl, ⟨by decide, by decide⟩, ⟨rfl, rfl⟩, by decide, by decide +kernel⟩, rfl, wG_t3 12 (by decide +kernel) rfl, wG_t3 13 (by decide +kernel) rfl, _, rfl, rfl⟩
set_option maxRecDepth 20000 in
theorem cal_X6_begin : CalV 56 2 0 0 4 := ⟨⟨wG_t2 66 rfl rfl, wG_t1 3 (by decide +kernel) rfl, ⟨by decide, by decide⟩, ⟨rfl, rfl⟩, by decide, by decide +kernel⟩, rfl, wG_t2 64 (by decide +kernel) rfl, wG_t2 65 (by decide +kernel) rfl, _, rfl, rfl⟩
set_option maxRecDepth 20000 in
theorem cal_X6_cells : CalV 57 0 0 0 4 := ⟨⟨wG_t1 119 rfl rfl, wG_t1 3 (by decide +kernel) rfl, ⟨by decide, by decide⟩, ⟨rfl, rfl⟩, by decide, by decide +kernel⟩, rfl, wG_t1 117 (by decide +kernel) rfl, wG_t1 118 (by decide +kernel) rfl, _, rfl, rfl⟩
set_option maxRecDepth 20000 in
theorem cal_X6_hasCell : CalV 58 1 0 0 4 := ⟨⟨wG_t1 139 rfl rfl, wG_t1 3 (by decide +kernel) rfl, ⟨by decide, by decide⟩, ⟨rfl, rfl⟩, by decide, by decide +kernel⟩, rfl, wG_t1 137 (by decide +kernel) rfl, wG_t1 138 (by decide +kernel) rfl, _, rfl, rfl⟩
set_option maxRecDepth 20000 in
theorem cal_X6_columnOf : CalV 59 1 0 0 4 := ⟨⟨wG_t2 175 rfl rfl, wG_t1 3 (by decide +kernel) rfl, ⟨by decide, by decide⟩, ⟨rfl, rfl⟩, by decide, by decide +kernel⟩, rfl, wG_t2 173 (by decide +kernel) rfl, wG_t2 174 (by decide +kernel) rfl, _, rfl, rfl⟩
set_option maxRecDepth 20000 in
theorem cal_X6_rowOf : CalV 60 1 0 0 4 := ⟨⟨wG_t2 171 rfl rfl, wG_t1 3 (by decide +kernel) rfl, ⟨by decide, by decide⟩, ⟨rfl, rfl⟩, by decide, by decide +kernel⟩, rfl, wG_t2 169 (by decide +kernel) rfl, wG_t2 170 (by decide +kernel) rfl, _, rfl, rfl⟩
set_option maxRecDepth 20000 in
theorem cal_X6_letterAt : CalV 61 1 0 0 4 := ⟨⟨wG_t2 148 rfl rfl, wG_t1 3 (by decide +kernel) rfl, ⟨by decide, by decide⟩, ⟨rfl, rfl⟩, by decide, by decide +kernel⟩, rfl, wG_t2 146 (by decide +kernel) rfl, wG_t2 147 (by decide +kernel) rfl, _, rfl, rfl⟩
set_option maxRecDepth 20000 in
theorem cal_X6_setLetter : CalV 62 2 0 0 4 := ⟨⟨wG_t2 79 rfl rfl, wG_t1 3 (by decide +kernel) rfl, ⟨by decide, by decide⟩, ⟨rfl, rfl⟩, by decide, by decide +kernel⟩, rfl, wG_t2 77 (by decide +kernel) rfl, wG_t2 78 (by decide +kernel) rfl, _, rfl, rfl⟩
set_option maxRecDepth 20000 in
theorem cal_X6_emptyCells : CalV 63 0 0 0 4 := ⟨⟨wG_t3 208 rfl rfl, wG_t1 3 (by decide +kernel) rfl, ⟨by decide, by decide⟩, ⟨rfl, rfl⟩, by decide, by decide +kernel⟩, rfl, wG_t3 206 (by decide +kernel) rfl, wG_t3 207 (by decide +kernel) rfl, _, rfl, rfl⟩
set_option maxRecDepth 20000 in
theorem cal_X6_isPlace : CalV 64 2 0 0 4 := ⟨⟨wG_t1 127 rfl rfl, wG_t1 3 (by decide +kernel) rfl, ⟨by decide, by decide⟩, ⟨rfl, rfl⟩, by decide, by decide +kernel⟩, rfl, wG_t1 125 (by decide +kernel) rfl, wG_t1 126 (by decide +kernel) rfl, _, rfl, rfl⟩
set_option maxRecDepth 20000 in
theorem cal_X6_hasBar : CalV 65 2 0 0 4 := ⟨⟨wG_t1 131 rfl rfl, wG_t1 3 (by decide +kernel) rfl, ⟨by decide, by decide⟩, ⟨rfl, rfl⟩, by decide, by decide +kernel⟩, rfl, wG_t1 129 (by decide +kernel) rfl, wG_t1 130 (by decide +kernel) rfl, _, rfl, rfl⟩
set_option maxRecDepth 20000 in
theorem cal_X6_drawBar : CalV 66 3 0 0 4 := ⟨⟨wG_t2 89 rfl rfl, wG_t1 3 (by decide +kernel) rfl, ⟨by decide, by decide⟩, ⟨rfl, rfl⟩, by decide, by decide +kernel⟩, rfl, wG_t2 87 (by decide +kernel) rfl, wG_t2 88 (by decide +kernel) rfl, _, rfl, rfl⟩
set_option maxRecDepth 20000 in
theorem cal_X6_barCount : CalV 67 0 0 0 4 := ⟨⟨wG_t3 213 rfl rfl, wG_t1 3 (by decide +kernel) rfl, ⟨by decide, by decide⟩, ⟨rfl, rfl⟩, by decide, by decide +kernel⟩, rfl, wG_t3 211 (by decide +kernel) rfl, wG_t3 212 (by decide +kernel) rfl, _, rfl, rfl⟩
set_option maxRecDepth 20000 in
theorem cal_X6_isJoined : CalV 68 2 0 0 4 := ⟨⟨wG_t1 123 rfl rfl, wG_t1 3 (by decide +kernel) rfl, ⟨by decide, by decide⟩, ⟨rfl, rfl⟩, by decide, by decide +kernel⟩, rfl, wG_t1 121 (by decide +kernel) rfl, wG_t1 122 (by decide +kernel) rfl, _, rfl, rfl⟩
set_option maxRecDepth 20000 in
theorem cal_X6_hasWord : CalV 69 1 0 0 4 := ⟨⟨wG_t2 114 rfl rfl, wG_t1 3 (by decide +kernel) rfl, ⟨by decide, by decide⟩, ⟨rfl, rfl⟩, by decide, by decide +kernel⟩, rfl, wG_t2 112 (by decide +kernel) rfl, wG_t2 113 (by decide +kernel) rfl, _, rfl, rfl⟩
set_option maxRecDepth 20000 in
theorem cal_X6_lengthOfWord : CalV 70 1 0 0 4 := ⟨⟨wG_t2 110 rfl rfl, wG_t1 3 (by decide +kernel) rfl, ⟨by decide, by decide⟩, ⟨rfl, rfl⟩, by decide, by decide +kernel⟩, rfl, wG_t2 108 (by decide +kernel) rfl, wG_t2 109 (by decide +kernel) rfl, _, rfl, rfl⟩
set_option maxRecDepth 20000 in
theorem cal_X6_letterOfWord : CalV 71 2 0 0 4 := ⟨⟨wG_t2 214 rfl rfl, wG_t1 3 (by decide +kernel) rfl, ⟨by decide, by decide⟩, ⟨rfl, rfl⟩, by decide, by decide +kernel⟩, rfl, wG_t2 212 (by decide +kernel) rfl, wG_t2 213 (by decide +kernel) rfl, _, rfl, rfl⟩
set_option maxRecDepth 20000 in
theorem cal_X6_beginWord : CalV 72 0 0 0 4 := ⟨⟨wG_t2 102 rfl rfl, wG_t1 3 (by decide +kernel) rfl, ⟨by decide, by decide⟩, ⟨rfl, rfl⟩, by decide, by decide +kernel⟩, rfl, wG_t2 100 (by decide +kernel) rfl, wG_t2 101 (by decide +kernel) rfl, _, rfl, rfl⟩
set_option maxRecDepth 20000 in
theorem cal_X6_lengthenWord : CalV 73 1 0 0 4 := ⟨⟨wG_t2 106 rfl rfl, wG_t1 3 (by decide +kernel) rfl, ⟨by decide, by decide⟩, ⟨rfl, rfl⟩, by decide, by decide +kernel⟩, rfl, wG_t2 104 (by decide +kernel) rfl, wG_t2 105 (by decide +kernel) rfl, _, rfl, rfl⟩
set_option maxRecDepth 20000 in
theorem cal_X6_letterOfLine : CalV 74 1 0 0 4 := ⟨⟨wG_t2 152 rfl rfl, wG_t1 3 (by decide +kernel) rfl, ⟨by decide, by decide⟩, ⟨rfl, rfl⟩, by decide, by decide +kernel⟩, rfl, wG_t2 150 (by decide +kernel) rfl, wG_t2 151 (by decide +kernel) rfl, _, rfl, rfl⟩
set_option maxRecDepth 20000 in
theorem cal_X6_lengthenLine : CalV 75 1 0 0 4 := ⟨⟨wG_t2 122 rfl rfl, wG_t1 3 (by decide +kernel) rfl, ⟨by decide, by decide⟩, ⟨rfl, rfl⟩, by decide, by decide +kernel⟩, rfl, wG_t2 120 (by decide +kernel) rfl, wG_t2 121 (by decide +kernel) rfl, _, rfl, rfl⟩
set_option maxRecDepth 20000 in
theorem cal_X7_init : CalC 76 0 6 258 := ⟨⟨wG_t1 33 rfl rfl, wG_t1 2 (by decide +kernel) rfl, ⟨by decide, by decide⟩, ⟨rfl, rfl⟩, by decide, by decide +kernel⟩, rfl, rfl, wG_t1 32 (by decide +kernel) rfl, rfl⟩
set_option maxRecDepth 20000 in
theorem cal_X7_isFull : CalV 77 0 0 0 5 := ⟨⟨wG_t3 160 rfl rfl, wG_t1 2 (by decide +kernel) rfl, ⟨by decide, by decide⟩, ⟨rfl, rfl⟩, by decide, by decide +kernel⟩, rfl, wG_t3 158 (by decide +kernel) rfl, wG_t3 159 (by decide +kernel) rfl, _, rfl, rfl⟩
set_option maxRecDepth 20000 in
theorem cal_X7_add : CalV 78 1 0 0 5 := ⟨⟨wG_t3 180 rfl rfl, wG_t1 2 (by decide +kernel) rfl, ⟨by decide, by decide⟩, ⟨rfl, rfl⟩, by decide, by decide +kernel⟩, rfl, wG_t3 178 (by decide +kernel) rfl, wG_t3 179 (by decide +kernel) rfl, _, rfl, rfl⟩
set_option maxRecDepth 20000 in
theorem cal_X7_empty : CalV 79 0 0 0 5 := ⟨⟨wG_t2 42 rfl rfl, wG_t1 2 (by decide +kernel) rfl, ⟨by decide, by decide⟩, ⟨rfl, rfl⟩, by decide, by decide +kernel⟩, rfl, wG_t2 40 (by decide +kernel) rfl, wG_t2 41 (by decide +kernel) rfl, _, rfl, rfl⟩
set_option maxRecDepth 20000 in
theorem cal_X7_signAt : CalV 80 1 0 0 5 := ⟨⟨wG_t2 58 rfl rfl, wG_t1 2 (by decide +kernel) rfl, ⟨by decide, by decide⟩, ⟨rfl, rfl⟩, by decide, by decide +kernel⟩, rfl, wG_t2 56 (by decide +kernel) rfl, wG_t2 57 (by decide +kernel) rfl, _, rfl, rfl⟩
set_option maxRecDepth 20000 in
theorem cal_X7_isWord : CalV 81 1 0 0 5 := ⟨⟨wG_t4 118 rfl rfl, wG_t1 2 (by decide +kernel) rfl, ⟨by decide, by decide⟩, ⟨rfl, rfl⟩, by decide, by decide +kernel⟩, rfl, wG_t4 116 (by decide +kernel) rfl, wG_t4 117 (by decide +kernel) rfl, _, rfl, rfl⟩
set_option maxRecDepth 20000 in
theorem cal_X7_readGrid : CalV 82 0 0 0 5 := ⟨⟨wG_t2 50 rfl rfl, wG_t1 2 (by decide +kernel) rfl, ⟨by decide, by decide⟩, ⟨rfl, rfl⟩, by decide, by decide +kernel⟩, rfl, wG_t2 48 (by decide +kernel) rfl, wG_t2 49 (by decide +kernel) rfl, _, rfl, rfl⟩
set_option maxRecDepth 20000 in
theorem cal_X7_goesPast : CalV 83 1 0 0 5 := ⟨⟨wG_t2 54 rfl rfl, wG_t1 2 (by decide +kernel) rfl, ⟨by decide, by decide⟩, ⟨rfl, rfl⟩, by decide, by decide +kernel⟩, rfl, wG_t2 53 (by decide +kernel) rfl, wG_m 2 (by decide +kernel) rfl, _, rfl, rfl⟩
set_option maxRecDepth 20000 in
theorem cal_X7_readSize : CalV 84 0 0 0 5 := ⟨⟨wG_t2 62 rfl rfl, wG_t1 2 (by decide +kernel) rfl, ⟨by decide, by decide⟩, ⟨rfl, rfl⟩, by decide, by decide +kernel⟩, rfl, wG_t2 61 (by decide +kernel) rfl, wG_m 3 (by decide +kernel) rfl, _, rfl, rfl⟩
set_option maxRecDepth 20000 in
theorem cal_X7_readCells : CalV 85 0 0 0 5 := ⟨⟨wG_t2 71 rfl rfl, wG_t1 2 (by decide +kernel) rfl, ⟨by decide, by decide⟩, ⟨rfl, rfl⟩, by decide, by decide +kernel⟩, rfl, wG_t2 70 (by decide +kernel) rfl, wG_m 4 (by decide +kernel) rfl, _, rfl, rfl⟩
set_option maxRecDepth 20000 in
theorem cal_X7_readBar : CalV 86 3 0 0 5 := ⟨⟨wG_t2 84 rfl rfl, wG_t1 2 (by decide +kernel) rfl, ⟨by decide, by decide⟩, ⟨rfl, rfl⟩, by decide, by decide +kernel⟩, rfl, wG_t2 83 (by decide +kernel) rfl, wG_m 5 (by decide +kernel) rfl, _, rfl, rfl⟩
set_option maxRecDepth 20000 in
theorem cal_X7_readParts : CalV 87 0 0 0 5 := ⟨⟨wG_t2 94 rfl rfl, wG_t1 2 (by decide +kernel) rfl, ⟨by decide, by decide⟩, ⟨rfl, rfl⟩, by decide, by decide +kernel⟩, rfl, wG_t2 93 (by decide +kernel) rfl, wG_m 6 (by decide +kernel) rfl, _, rfl, rfl⟩
set_option maxRecDepth 20000 in
theorem cal_X7_readWord : CalV 88 0 0 0 5 := ⟨⟨wG_t2 98 rfl rfl, wG_t1 2 (by decide +kernel) rfl, ⟨by decide, by decide⟩, ⟨rfl, rfl⟩, by decide, by decide +kernel⟩, rfl, wG_t2 97 (by decide +kernel) rfl, wG_m 7 (by decide +kernel) rfl, _, rfl, rfl⟩
set_option maxRecDepth 20000 in
theorem cal_X7_readLine : CalV 89 0 0 0 5 := ⟨⟨wG_t2 118 rfl rfl, wG_t1 2 (by decide +kernel) rfl, ⟨by decide, by decide⟩, ⟨rfl, rfl⟩, by decide, by decide +kernel⟩, rfl, wG_t2 117 (by decide +kernel) rfl, wG_m 8 (by decide +kernel) rfl, _, rfl, rfl⟩
set_option maxRecDepth 20000 in
theorem cal_X8_init : CalC 90 0 121 2720 := ⟨⟨wG_t1 25 rfl rfl, wG_t1 1 (by decide +kernel) rfl, ⟨by decide, by decide⟩, ⟨rfl, rfl⟩, by decide, by decide +kernel⟩, rfl, rfl, wG_t1 24 (by decide +kernel) rfl, rfl⟩
set_option maxRecDepth 20000 in
theorem cal_X8_append : CalV 91 1 1 6 6 := ⟨⟨wG_t3 88 rfl rfl, wG_t1 1 (by decide +kernel) rfl, ⟨by decide, by decide⟩, ⟨rfl, rfl⟩, by decide, by decide +kernel⟩, rfl, wG_t3 86 (by decide +kernel) rfl, wG_t3 87 (by decide +kernel) rfl, _, rfl, rfl⟩
set_option maxRecDepth 20000 in
theorem cal_X8_clearText : CalV 92 0 0 0 6 := ⟨⟨wG_t2 38 rfl rfl, wG_t1 1 (by decide +kernel) rfl, ⟨by decide, by decide⟩, ⟨rfl, rfl⟩, by decide, by decide +kernel⟩, rfl, wG_t2 36 (by decide +kernel) rfl, wG_t2 37 (by decide +kernel) rfl, _, rfl, rfl⟩
set_option maxRecDepth 20000 in
theorem cal_X8_errorPosition : CalV 93 0 0 0 6 := ⟨⟨wG_t2 46 rfl rfl, wG_t1 1 (by decide +kernel) rfl, ⟨by decide, by decide⟩, ⟨rfl, rfl⟩, by decide, by decide +kernel⟩, rfl, wG_t2 44 (by decide +kernel) rfl, wG_t2 45 (by decide +kernel) rfl, _, rfl, rfl⟩
set_option maxRecDepth 20000 in
theorem cal_X8_load : CalV 94 0 1 6 6 := ⟨⟨wG_t3 187 rfl rfl, wG_t1 1 (by decide +kernel) rfl, ⟨by decide, by decide⟩, ⟨rfl, rfl⟩, by decide, by decide +kernel⟩, rfl, wG_t3 185 (by decide +kernel) rfl, wG_t3 186 (by decide +kernel) rfl, _, rfl, rfl⟩
set_option maxRecDepth 20000 in
theorem cal_X8_about : CalV 95 1 1 6 6 := ⟨⟨wG_t3 203 rfl rfl, wG_t1 1 (by decide +kernel) rfl, ⟨by decide, by decide⟩, ⟨rfl, rfl⟩, by decide, by decide +kernel⟩, rfl, wG_t3 201 (by decide +kernel) rfl, wG_t3 202 (by decide +kernel) rfl, _, rfl, rfl⟩
set_option maxRecDepth 20000 in
theorem cal_X8_cell : CalV 96 2 2 12 6 := ⟨⟨wG_t3 223 rfl rfl, wG_t1 1 (by decide +kernel) rfl, ⟨by decide, by decide⟩, ⟨rfl, rfl⟩, by decide, by decide +kernel⟩, rfl, wG_t3 221 (by decide +kernel) rfl, wG_t3 222 (by decide +kernel) rfl, _, rfl, rfl⟩
set_option maxRecDepth 20000 in
theorem cal_X8_entry : CalV 97 2 2 12 6 := ⟨⟨wG_t4 19 rfl rfl, wG_t1 1 (by decide +kernel) rfl, ⟨by decide, by decide⟩, ⟨rfl, rfl⟩, by decide, by decide +kernel⟩, rfl, wG_t4 17 (by decide +kernel) rfl, wG_t4 18 (by decide +kernel) rfl, _, rfl, rfl⟩
set_option maxRecDepth 20000 in
theorem cal_X8_word : CalV 98 2 2 12 6 := ⟨⟨wG_t4 41 rfl rfl, wG_t1 1 (by decide +kernel) rfl, ⟨by decide, by decide⟩, ⟨rfl, rfl⟩, by decide, by decide +kernel⟩, rfl, wG_t4 39 (by decide +kernel) rfl, wG_t4 40 (by decide +kernel) rfl, _, rfl, rfl⟩
set_option maxRecDepth 20000 in
theorem cal_X8_fits : CalV 99 1 1 6 6 := ⟨⟨wG_t4 56 rfl rfl, wG_t1 1 (by decide +kernel) rfl, ⟨by decide, by decide⟩, ⟨rfl, rfl⟩, by decide, by decide +kernel⟩, rfl, wG_t4 54 (by decide +kernel) rfl, wG_t4 55 (by decide +kernel) rfl, _, rfl, rfl⟩
set_option maxRecDepth 20000 in
theorem cal_X8_rule : CalV 100 1 1 6 6 := ⟨⟨wG_t4 63 rfl rfl, wG_t1 1 (by decide +kernel) rfl, ⟨by decide, by decide⟩, ⟨rfl, rfl⟩, by decide, by decide +kernel⟩, rfl, wG_t4 61 (by decide +kernel) rfl, wG_t4 62 (by decide +kernel) rfl, _, rfl, rfl⟩
set_option maxRecDepth 20000 in
theorem cal_X8_readings : CalV 101 0 0 0 6 := ⟨⟨wG_t2 126 rfl rfl, wG_t1 1 (by decide +kernel) rfl, ⟨by decide, by decide⟩, ⟨rfl, rfl⟩, by decide, by decide +kernel⟩, rfl, wG_t2 124 (by decide +kernel) rfl, wG_t2 125 (by decide +kernel) rfl, _, rfl, rfl⟩
set_option maxRecDepth 20000 in
theorem cal_X8_reading : CalV 102 1 1 6 6 := ⟨⟨wG_t4 72 rfl rfl, wG_t1 1 (by decide +kernel) rfl, ⟨by decide, by decide⟩, ⟨rfl, rfl⟩, by decide, by decide +kernel⟩, rfl, wG_t4 70 (by decide +kernel) rfl, wG_t4 71 (by decide +kernel) rfl, _, rfl, rfl⟩
set_option maxRecDepth 20000 in
theorem cal_X8_put : CalV 103 2 2 12 6 := ⟨⟨wG_t4 84 rfl rfl, wG_t1 1 (by decide +kernel) rfl, ⟨by decide, by decide⟩, ⟨rfl, rfl⟩, by decide, by decide +kernel⟩, rfl, wG_t4 82 (by decide +kernel) rfl, wG_t4 83 (by decide +kernel) rfl, _, rfl, rfl⟩
set_option maxRecDepth 20000 in
theorem cal_X8_setBar : CalV 104 3 2 12 6 := ⟨⟨wG_t4 106 rfl rfl, wG_t1 1 (by decide +kernel) rfl, ⟨by decide, by decide⟩, ⟨rfl, rfl⟩, by decide, by decide +kernel⟩, rfl, wG_t4 104 (by decide +kernel) rfl, wG_t4 105 (by decide +kernel) rfl, _, rfl, rfl⟩
set_option maxRecDepth 20000 in
theorem cal_X8_addWord : CalV 105 0 1 6 6 := ⟨⟨wG_t4 114 rfl rfl, wG_t1 1 (by decide +kernel) rfl, ⟨by decide, by decide⟩, ⟨rfl, rfl⟩, by decide, by decide +kernel⟩, rfl, wG_t4 112 (by decide +kernel) rfl, wG_t4 113 (by decide +kernel) rfl, _, rfl, rfl⟩
set_option maxRecDepth 20000 in
theorem cal_X8_setLine : CalV 106 0 1 6 6 := ⟨⟨wG_t4 129 rfl rfl, wG_t1 1 (by decide +kernel) rfl, ⟨by decide, by decide⟩, ⟨rfl, rfl⟩, by decide, by decide +kernel⟩, rfl, wG_t4 127 (by decide +kernel) rfl, wG_t4 128 (by decide +kernel) rfl, _, rfl, rfl⟩
set_option maxRecDepth 20000 in
theorem cal_X8_write : CalV 107 2 3 18 6 := ⟨⟨wG_t4 138 rfl rfl, wG_t1 1 (by decide +kernel) rfl, ⟨by decide, by decide⟩, ⟨rfl, rfl⟩, by decide, by decide +kernel⟩, rfl, wG_t4 136 (by decide +kernel) rfl, wG_t4 137 (by decide +kernel) rfl, _, rfl, rfl⟩
set_option maxRecDepth 20000 in
theorem cal_X8_erase : CalV 108 1 1 6 6 := ⟨⟨wG_t4 152 rfl rfl, wG_t1 1 (by decide +kernel) rfl, ⟨by decide, by decide⟩, ⟨rfl, rfl⟩, by decide, by decide +kernel⟩, rfl, wG_t4 150 (by decide +kernel) rfl, wG_t4 151 (by decide +kernel) rfl, _, rfl, rfl⟩
set_option maxRecDepth 20000 in
theorem cal_X8_undo : CalV 109 0 1 6 6 := ⟨⟨wG_t4 165 rfl rfl, wG_t1 1 (by decide +kernel) rfl, ⟨by decide, by decide⟩, ⟨rfl, rfl⟩, by decide, by decide +kernel⟩, rfl, wG_t4 163 (by decide +kernel) rfl, wG_t4 164 (by decide +kernel) rfl, _, rfl, rfl⟩
set_option maxRecDepth 20000 in
theorem cal_X8_possible : CalV 110 0 0 0 6 := ⟨⟨wG_t2 180 rfl rfl, wG_t1 1 (by decide +kernel) rfl, ⟨by decide, by decide⟩, ⟨rfl, rfl⟩, by decide, by decide +kernel⟩, rfl, wG_t2 178 (by decide +kernel) rfl, wG_t2 179 (by decide +kernel) rfl, _, rfl, rfl⟩
set_option maxRecDepth 20000 in
theorem cal_X8_fillings : CalV 111 0 0 0 6 := ⟨⟨wG_t2 184 rfl rfl, wG_t1 1 (by decide +kernel) rfl, ⟨by decide, by decide⟩, ⟨rfl, rfl⟩, by decide, by decide +kernel⟩, rfl, wG_t2 182 (by decide +kernel) rfl, wG_t2 183 (by decide +kernel) rfl, _, rfl, rfl⟩
set_option maxRecDepth 20000 in
theorem cal_X8_mend : CalV 112 0 0 0 6 := ⟨⟨wG_t3 6 rfl rfl, wG_t1 1 (by decide +kernel) rfl, ⟨by decide, by decide⟩, ⟨rfl, rfl⟩, by decide, by decide +kernel⟩, rfl, wG_t3 4 (by decide +kernel) rfl, wG_t3 5 (by decide +kernel) rfl, _, rfl, rfl⟩
set_option maxRecDepth 20000 in
theorem cal_X8_hardest : CalV 113 0 0 0 6 := ⟨⟨wG_t3 70 rfl rfl, wG_t1 1 (by decide +kernel) rfl, ⟨by decide, by decide⟩, ⟨rfl, rfl⟩, by decide, by decide +kernel⟩, rfl, wG_t3 68 (by decide +kernel) rfl, wG_t3 69 (by decide +kernel) rfl, _, rfl, rfl⟩
set_option maxRecDepth 20000 in
theorem cal_X8_runScript : CalV 114 2 1 6 6 := ⟨⟨wG_t4 177 rfl rfl, wG_t1 1 (by decide +kernel) rfl, ⟨by decide, by decide⟩, ⟨rfl, rfl⟩, by decide, by decide +kernel⟩, rfl, wG_t4 175 (by decide +kernel) rfl, wG_t4 176 (by decide +kernel) rfl, _, rfl, rfl⟩
set_option maxRecDepth 20000 in
theorem cal_X8_simulate : CalV 115 2 1 6 6 := ⟨⟨wG_t4 213 rfl rfl, wG_t1 1 (by decide +kernel) rfl, ⟨by decide, by decide⟩, ⟨rfl, rfl⟩, by decide, by decide +kernel⟩, rfl, wG_t4 211 (by decide +kernel) rfl, wG_t4 212 (by decide +kernel) rfl, _, rfl, rfl⟩
set_option maxRecDepth 20000 in
theorem cal_X8_save : CalV 116 1 1 6 6 := ⟨⟨wG_t4 227 rfl rfl, wG_t1 1 (by decide +kernel) rfl, ⟨by decide, by decide⟩, ⟨rfl, rfl⟩, by decide, by decide +kernel⟩, rfl, wG_t4 225 (by decide +kernel) rfl, wG_t4 226 (by decide +kernel) rfl, _, rfl, rfl⟩
set_option maxRecDepth 20000 in
theorem cal_X8_restore : CalV 117 1 2 12 6 := ⟨⟨wG_t5 2 rfl rfl, wG_t1 1 (by decide +kernel) rfl, ⟨by decide, by decide⟩, ⟨rfl, rfl⟩, by decide, by decide +kernel⟩, rfl, wG_t5 0 (by decide +kernel) rfl, wG_t5 1 (by decide +kernel) rfl, _, rfl, rfl⟩
set_option maxRecDepth 20000 in
theorem cal_X8_requireCell : CalV 118 1 1 6 6 := ⟨⟨wG_t3 227 rfl rfl, wG_t1 1 (by decide +kernel) rfl, ⟨by decide, by decide⟩, ⟨rfl, rfl⟩, by decide, by decide +kernel⟩, rfl, wG_t3 226 (by decide +kernel) rfl, wG_m 17 (by decide +kernel) rfl, _, rfl, rfl⟩
set_option maxRecDepth 20000 in
theorem cal_X8_requireEntry : CalV 119 1 1 6 6 := ⟨⟨wG_t4 23 rfl rfl, wG_t1 1 (by decide +kernel) rfl, ⟨by decide, by decide⟩, ⟨rfl, rfl⟩, by decide, by decide +kernel⟩, rfl, wG_t4 22 (by decide +kernel) rfl, wG_m 18 (by decide +kernel) rfl, _, rfl, rfl⟩
set_option maxRecDepth 20000 in
theorem cal_X8_requireWord : CalV 120 1 1 6 6 := ⟨⟨wG_t4 45 rfl rfl, wG_t1 1 (by decide +kernel) rfl, ⟨by decide, by decide⟩, ⟨rfl, rfl⟩, by decide, by decide +kernel⟩, rfl, wG_t4 44 (by decide +kernel) rfl, wG_m 19 (by decide +kernel) rfl, _, rfl, rfl⟩
set_option maxRecDepth 20000 in
theorem cal_X8_requireSlot : CalS 121 1 1 6 := ⟨⟨wG_t4 230 rfl rfl, wG_t1 1 (by decide +kernel) rfl, ⟨by decide, by decide⟩, ⟨rfl, rfl⟩, by decide, by decide +kernel⟩, rfl, wG_t4 229 (by decide +kernel) rfl⟩
set_option maxRecDepth 20000 in
theorem cal_X8_isLetter : CalS 122 1 0 0 := ⟨⟨wG_t2 75 rfl rfl, wG_t1 1 (by decide +kernel) rfl, ⟨by decide, by decide⟩, ⟨rfl, rfl⟩, by decide, by decide +kernel⟩, rfl, wG_t2 74 (by decide +kernel) rfl⟩
set_option maxRecDepth 20000 in
theorem cal_X8_withoutGroups : CalS 123 2 0 0 := ⟨⟨wG_t4 180 rfl rfl, wG_t1 1 (by decide +kernel) rfl, ⟨by decide, by decide⟩, ⟨rfl, rfl⟩, by decide, by decide +kernel⟩, rfl, wG_t4 179 (by decide +kernel) rfl⟩
set_option maxRecDepth 20000 in
theorem cal_X8_simulateRound : CalV 124 1 0 0 6 := ⟨⟨wG_t4 220 rfl rfl, wG_t1 1 (by decide +kernel) rfl, ⟨by decide, by decide⟩, ⟨rfl, rfl⟩, by decide, by decide +kernel⟩, rfl, wG_t4 219 (by decide +kernel) rfl, wG_m 21 (by decide +kernel) rfl, _, rfl, rfl⟩
set_option maxRecDepth 20000 in
theorem cal_X9_init : CalC 125 0 16 3725 := ⟨⟨wG_t5 16 rfl rfl, wG_t1 9 (by decide +kernel) rfl, ⟨by decide, by decide⟩, ⟨rfl, rfl⟩, by decide, by decide +kernel⟩, rfl, rfl, wG_t5 15 (by decide +kernel) rfl, rfl⟩
set_option maxRecDepth 20000 in
theorem cal_X9_thrown : CalV 126 0 0 0 7 := ⟨⟨wG_t5 110 rfl rfl, wG_t1 9 (by decide +kernel) rfl, ⟨by decide, by decide⟩, ⟨rfl, rfl⟩, by decide, by decide +kernel⟩, rfl, wG_t5 108 (by decide +kernel) rfl, wG_t5 109 (by decide +kernel) rfl, _, rfl, rfl⟩
set_option maxRecDepth 20000 in
theorem cal_X9_move : CalS 127 4 0 0 := ⟨⟨wG_t5 147 rfl rfl, wG_t1 9 (by decide +kernel) rfl, ⟨by decide, by decide⟩, ⟨rfl, rfl⟩, by decide, by decide +kernel⟩, rfl, wG_t5 146 (by decide +kernel) rfl⟩
set_option maxRecDepth 20000 in
theorem cal_X9_append : CalV 128 1 0 0 7 := ⟨⟨wG_t5 114 rfl rfl, wG_t1 9 (by decide +kernel) rfl, ⟨by decide, by decide⟩, ⟨rfl, rfl⟩, by decide, by decide +kernel⟩, rfl, wG_t5 112 (by decide +kernel) rfl, wG_t5 113 (by decide +kernel) rfl, _, rfl, rfl⟩
set_option maxRecDepth 20000 in
theorem cal_X9_clearText : CalV 129 0 0 0 7 := ⟨⟨wG_t5 118 rfl rfl, wG_t1 9 (by decide +kernel) rfl, ⟨by decide, by decide⟩, ⟨rfl, rfl⟩, by decide, by decide +kernel⟩, rfl, wG_t5 116 (by decide +kernel) rfl, wG_t5 117 (by decide +kernel) rfl, _, rfl, rfl⟩
set_option maxRecDepth 20000 in
theorem cal_X9_character : CalV 130 1 0 0 7 := ⟨⟨wG_t5 130 rfl rfl, wG_t1 9 (by decide +kernel) rfl, ⟨by decide, by decide⟩, ⟨rfl, rfl⟩, by decide, by decide +kernel⟩, rfl, wG_t5 129 (by decide +kernel) rfl, wG_m 30 (by decide +kernel) rfl, _, rfl, rfl⟩
set_option maxRecDepth 20000 in
theorem cal_X9_isLetter : CalS 131 1 0 0 := ⟨⟨wG_t5 136 rfl rfl, wG_t1 9 (by decide +kernel) rfl, ⟨by decide, by decide⟩, ⟨rfl, rfl⟩, by decide, by decide +kernel⟩, rfl, wG_t5 135 (by decide +kernel) rfl⟩
set_option maxRecDepth 20000 in
theorem cal_X9_isSide : CalS 132 1 0 0 := ⟨⟨wG_t5 133 rfl rfl, wG_t1 9 (by decide +kernel) rfl, ⟨by decide, by decide⟩, ⟨rfl, rfl⟩, by decide, by decide +kernel⟩, rfl, wG_t5 132 (by decide +kernel) rfl⟩
set_option maxRecDepth 20000 in
theorem cal_X9_readText : CalV 133 0 0 0 7 := ⟨⟨wG_t5 126 rfl rfl, wG_t1 9 (by decide +kernel) rfl, ⟨by decide, by decide⟩, ⟨rfl, rfl⟩, by decide, by decide +kernel⟩, rfl, wG_t5 125 (by decide +kernel) rfl, wG_m 29 (by decide +kernel) rfl, _, rfl, rfl⟩
set_option maxRecDepth 20000 in
theorem cal_X9_readParts : CalV 134 1 0 0 7 := ⟨⟨wG_t5 140 rfl rfl, wG_t1 9 (by decide +kernel) rfl, ⟨by decide, by decide⟩, ⟨rfl, rfl⟩, by decide, by decide +kernel⟩, rfl, wG_t5 139 (by decide +kernel) rfl, wG_m 31 (by decide +kernel) rfl, _, rfl, rfl⟩
set_option maxRecDepth 20000 in
theorem cal_X9_errorPosition : CalV 135 0 0 0 7 := ⟨⟨wG_t5 122 rfl rfl, wG_t1 9 (by decide +kernel) rfl, ⟨by decide, by decide⟩, ⟨rfl, rfl⟩, by decide, by decide +kernel⟩, rfl, wG_t5 120 (by decide +kernel) rfl, wG_t5 121 (by decide +kernel) rfl, _, rfl, rfl⟩
set_option maxRecDepth 20000 in
theorem cal_X9_load : CalV 136 0 0 0 7 := ⟨⟨wG_t5 144 rfl rfl, wG_t1 9 (by decide +kernel) rfl, ⟨by decide, by decide⟩, ⟨rfl, rfl⟩, by decide, by decide +kernel⟩, rfl, wG_t5 142 (by decide +kernel) rfl, wG_t5 143 (by decide +kernel) rfl, _, rfl, rfl⟩
set_option maxRecDepth 20000 in
theorem cal_X9_size : CalV 137 0 0 0 7 := ⟨⟨wG_t5 25 rfl rfl, wG_t1 9 (by decide +kernel) rfl, ⟨by decide, by decide⟩, ⟨rfl, rfl⟩, by decide, by decide +kernel⟩, rfl, wG_t5 24 (by decide +kernel) rfl, wG_m 23 (by decide +kernel) rfl, _, rfl, rfl⟩
set_option maxRecDepth 20000 in
theorem cal_X9_isCell : CalV 138 1 0 0 7 := ⟨⟨wG_t5 171 rfl rfl, wG_t1 9 (by decide +kernel) rfl, ⟨by decide, by decide⟩, ⟨rfl, rfl⟩, by decide, by decide +kernel⟩, rfl, wG_t5 170 (by decide +kernel) rfl, wG_m 35 (by decide +kernel) rfl, _, rfl, rfl⟩
set_option maxRecDepth 20000 in
theorem cal_X9_isLastColumn : CalV 139 1 0 0 7 := ⟨⟨wG_t5 33 rfl rfl, wG_t1 9 (by decide +kernel) rfl, ⟨by decide, by decide⟩, ⟨rfl, rfl⟩, by decide, by decide +kernel⟩, rfl, wG_t5 32 (by decide +kernel) rfl, wG_m 25 (by decide +kernel) rfl, _, rfl, rfl⟩
set_option maxRecDepth 20000 in
theorem cal_X9_isLastRow : CalV 140 1 0 0 7 := ⟨⟨wG_t5 41 rfl rfl, wG_t1 9 (by decide +kernel) rfl, ⟨by decide, by decide⟩, ⟨rfl, rfl⟩, by decide, by decide +kernel⟩, rfl, wG_t5 40 (by decide +kernel) rfl, wG_m 27 (by decide +kernel) rfl, _, rfl, rfl⟩
set_option maxRecDepth 20000 in
theorem cal_X9_endsRight : CalV 141 1 0 0 7 := ⟨⟨wG_t5 29 rfl rfl, wG_t1 9 (by decide +kernel) rfl, ⟨by decide, by decide⟩, ⟨rfl, rfl⟩, by decide, by decide +kernel⟩, rfl, wG_t5 28 (by decide +kernel) rfl, wG_m 24 (by decide +kernel) rfl, _, rfl, rfl⟩
set_option maxRecDepth 20000 in
theorem cal_X9_endsBelow : CalV 142 1 0 0 7 := ⟨⟨wG_t5 37 rfl rfl, wG_t1 9 (by decide +kernel) rfl, ⟨by decide, by decide⟩, ⟨rfl, rfl⟩, by decide, by decide +kernel⟩, rfl, wG_t5 36 (by decide +kernel) rfl, wG_m 26 (by decide +kernel) rfl, _, rfl, rfl⟩
set_option maxRecDepth 20000 in
theorem cal_X9_findEntries : CalV 143 0 0 0 7 := ⟨⟨wG_t5 21 rfl rfl, wG_t1 9 (by decide +kernel) rfl, ⟨by decide, by decide⟩, ⟨rfl, rfl⟩, by decide, by decide +kernel⟩, rfl, wG_t5 20 (by decide +kernel) rfl, wG_m 22 (by decide +kernel) rfl, _, rfl, rfl⟩
set_option maxRecDepth 20000 in
theorem cal_X9_addEntry : CalV 144 3 0 0 7 := ⟨⟨wG_t5 45 rfl rfl, wG_t1 9 (by decide +kernel) rfl, ⟨by decide, by decide⟩, ⟨rfl, rfl⟩, by decide, by decide +kernel⟩, rfl, wG_t5 44 (by decide +kernel) rfl, wG_m 28 (by decide +kernel) rfl, _, rfl, rfl⟩
set_option maxRecDepth 20000 in
theorem cal_X9_isEntry : CalV 145 1 0 0 7 := ⟨⟨wG_t5 179 rfl rfl, wG_t1 9 (by decide +kernel) rfl, ⟨by decide, by decide⟩, ⟨rfl, rfl⟩, by decide, by decide +kernel⟩, rfl, wG_t5 178 (by decide +kernel) rfl, wG_m 36 (by decide +kernel) rfl, _, rfl, rfl⟩
set_option maxRecDepth 20000 in
theorem cal_X9_cellOf : CalV 146 2 0 0 7 := ⟨⟨wG_t5 187 rfl rfl, wG_t1 9 (by decide +kernel) rfl, ⟨by decide, by decide⟩, ⟨rfl, rfl⟩, by decide, by decide +kernel⟩, rfl, wG_t5 186 (by decide +kernel) rfl, wG_m 38 (by decide +kernel) rfl, _, rfl, rfl⟩
set_option maxRecDepth 20000 in
theorem cal_X9_entriesOf : CalV 147 1 0 0 7 := ⟨⟨wG_t5 159 rfl rfl, wG_t1 9 (by decide +kernel) rfl, ⟨by decide, by decide⟩, ⟨rfl, rfl⟩, by decide, by decide +kernel⟩, rfl, wG_t5 158 (by decide +kernel) rfl, wG_m 33 (by decide +kernel) rfl, _, rfl, rfl⟩
set_option maxRecDepth 20000 in
theorem cal_X9_uncheckedIn : CalV 148 1 0 0 7 := ⟨⟨wG_t5 183 rfl rfl, wG_t1 9 (by decide +kernel) rfl, ⟨by decide, by decide⟩, ⟨rfl, rfl⟩, by decide, by decide +kernel⟩, rfl, wG_t5 182 (by decide +kernel) rfl, wG_m 37 (by decide +kernel) rfl, _, rfl, rfl⟩
set_option maxRecDepth 20000 in
theorem cal_X9_emptyIn : CalV 149 1 0 0 7 := ⟨⟨wG_t5 191 rfl rfl, wG_t1 9 (by decide +kernel) rfl, ⟨by decide, by decide⟩, ⟨rfl, rfl⟩, by decide, by decide +kernel⟩, rfl, wG_t5 190 (by decide +kernel) rfl, wG_m 39 (by decide +kernel) rfl, _, rfl, rfl⟩
set_option maxRecDepth 20000 in
theorem cal_X9_cellsIn : CalV 150 1 0 0 7 := ⟨⟨wG_t5 155 rfl rfl, wG_t1 9 (by decide +kernel) rfl, ⟨by decide, by decide⟩, ⟨rfl, rfl⟩, by decide, by decide +kernel⟩, rfl, wG_t5 154 (by decide +kernel) rfl, wG_m 32 (by decide +kernel) rfl, _, rfl, rfl⟩
set_option maxRecDepth 20000 in
theorem cal_X9_bars : CalV 151 0 0 0 7 := ⟨⟨wG_t5 163 rfl rfl, wG_t1 9 (by decide +kernel) rfl, ⟨by decide, by decide⟩, ⟨rfl, rfl⟩, by decide, by decide +kernel⟩, rfl, wG_t5 162 (by decide +kernel) rfl, wG_m 34 (by decide +kernel) rfl, _, rfl, rfl⟩
set_option maxRecDepth 20000 in
theorem cal_X9_about : CalV 152 1 0 0 7 := ⟨⟨wG_t5 151 rfl rfl, wG_t1 9 (by decide +kernel) rfl, ⟨by decide, by decide⟩, ⟨rfl, rfl⟩, by decide, by decide +kernel⟩, rfl, wG_t5 149 (by decide +kernel) rfl, wG_t5 150 (by decide +kernel) rfl, _, rfl, rfl⟩
set_option maxRecDepth 20000 in
theorem cal_X9_cell : CalV 153 2 0 0 7 := ⟨⟨wG_t5 167 rfl rfl, wG_t1 9 (by decide +kernel) rfl, ⟨by decide, by decide⟩, ⟨rfl, rfl⟩, by decide, by decide +kernel⟩, rfl, wG_t5 165 (by decide +kernel) rfl, wG_t5 166 (by decide +kernel) rfl, _, rfl, rfl⟩
set_option maxRecDepth 20000 in
theorem cal_X9_entry : CalV 154 2 0 0 7 := ⟨⟨wG_t5 175 rfl rfl, wG_t1 9 (by decide +kernel) rfl, ⟨by decide, by decide⟩, ⟨rfl, rfl⟩, by decide, by decide +kernel⟩, rfl, wG_t5 173 (by decide +kernel) rfl, wG_t5 174 (by decide +kernel) rfl, _, rfl, rfl⟩
set_option maxRecDepth 20000 in
theorem cal_X9_wordIn : CalV 155 1 0 0 7 := ⟨⟨wG_t5 195 rfl rfl, wG_t1 9 (by decide +kernel) rfl, ⟨by decide, by decide⟩, ⟨rfl, rfl⟩, by decide, by decide +kernel⟩, rfl, wG_t5 194 (by decide +kernel) rfl, wG_m 40 (by decide +kernel) rfl, _, rfl, rfl⟩
set_option maxRecDepth 20000 in
theorem cal_X9_isWord : CalV 156 1 0 0 7 := ⟨⟨wG_t5 211 rfl rfl, wG_t1 9 (by decide +kernel) rfl, ⟨by decide, by decide⟩, ⟨rfl, rfl⟩, by decide, by decide +kernel⟩, rfl, wG_t5 210 (by decide +kernel) rfl, wG_m 43 (by decide +kernel) rfl, _, rfl, rfl⟩
set_option maxRecDepth 20000 in
theorem cal_X9_letterOf : CalV 157 2 0 0 7 := ⟨⟨wG_t5 203 rfl rfl, wG_t1 9 (by decide +kernel) rfl, ⟨by decide, by decide⟩, ⟨rfl, rfl⟩, by decide, by decide +kernel⟩, rfl, wG_t5 202 (by decide +kernel) rfl, wG_m 42 (by decide +kernel) rfl, _, rfl, rfl⟩
set_option maxRecDepth 20000 in
theorem cal_X9_word : CalV 158 2 0 0 7 := ⟨⟨wG_t5 207 rfl rfl, wG_t1 9 (by decide +kernel) rfl, ⟨by decide, by decide⟩, ⟨rfl, rfl⟩, by decide, by decide +kernel⟩, rfl, wG_t5 205 (by decide +kernel) rfl, wG_t5 206 (by decide +kernel) rfl, _, rfl, rfl⟩
set_option maxRecDepth 20000 in
theorem cal_X9_isFitting : CalV 159 2 0 0 7 := ⟨⟨wG_t5 199 rfl rfl, wG_t1 9 (by decide +kernel) rfl, ⟨by decide, by decide⟩, ⟨rfl, rfl⟩, by decide, by decide +kernel⟩, rfl, wG_t5 198 (by decide +kernel) rfl, wG_m 41 (by decide +kernel) rfl, _, rfl, rfl⟩
set_option maxRecDepth 20000 in
theorem cal_X9_fitsOf : CalV 160 1 0 0 7 := ⟨⟨wG_t5 219 rfl rfl, wG_t1 9 (by decide +kernel) rfl, ⟨by decide, by decide⟩, ⟨rfl, rfl⟩, by decide, by decide +kernel⟩, rfl, wG_t5 218 (by decide +kernel) rfl, wG_m 44 (by decide +kernel) rfl, _, rfl, rfl⟩
set_option maxRecDepth 20000 in
theorem cal_X9_fits : CalV 161 1 0 0 7 := ⟨⟨wG_t5 215 rfl rfl, wG_t1 9 (by decide +kernel) rfl, ⟨by decide, by decide⟩, ⟨rfl, rfl⟩, by decide, by decide +kernel⟩, rfl, wG_t5 213 (by decide +kernel) rfl, wG_t5 214 (by decide +kernel) rfl, _, rfl, rfl⟩
set_option maxRecDepth 20000 in
theorem cal_X9_isTurned : CalV 162 0 0 0 7 := ⟨⟨wG_t5 234 rfl rfl, wG_t1 9 (by decide +kernel) rfl, ⟨by decide, by decide⟩, ⟨rfl, rfl⟩, by decide, by decide +kernel⟩, rfl, wG_t5 233 (by decide +kernel) rfl, wG_m 46 (by decide +kernel) rfl, _, rfl, rfl⟩
set_option maxRecDepth 20000 in
theorem cal_X9_isWellChecked : CalV 163 0 0 0 7 := ⟨⟨wG_t5 238 rfl rfl, wG_t1 9 (by decide +kernel) rfl, ⟨by decide, by decide⟩, ⟨rfl, rfl⟩, by decide, by decide +kernel⟩, rfl, wG_t5 237 (by decide +kernel) rfl, wG_m 47 (by decide +kernel) rfl, _, rfl, rfl⟩
set_option maxRecDepth 20000 in
theorem cal_X9_isWithoutPairs : CalV 164 0 0 0 7 := ⟨⟨wG_t6 2 rfl rfl, wG_t1 9 (by decide +kernel) rfl, ⟨by decide, by decide⟩, ⟨rfl, rfl⟩, by decide, by decide +kernel⟩, rfl, wG_t6 1 (by decide +kernel) rfl, wG_m 48 (by decide +kernel) rfl, _, rfl, rfl⟩
set_option maxRecDepth 20000 in
theorem cal_X9_isConnected : CalV 165 0 0 0 7 := ⟨⟨wG_t6 6 rfl rfl, wG_t1 9 (by decide +kernel) rfl, ⟨by decide, by decide⟩, ⟨rfl, rfl⟩, by decide, by decide +kernel⟩, rfl, wG_t6 5 (by decide +kernel) rfl, wG_m 49 (by decide +kernel) rfl, _, rfl, rfl⟩
set_option maxRecDepth 20000 in
theorem cal_X9_keeps : CalV 166 1 0 0 7 := ⟨⟨wG_t5 230 rfl rfl, wG_t1 9 (by decide +kernel) rfl, ⟨by decide, by decide⟩, ⟨rfl, rfl⟩, by decide, by decide +kernel⟩, rfl, wG_t5 229 (by decide +kernel) rfl, wG_m 45 (by decide +kernel) rfl, _, rfl, rfl⟩
set_option maxRecDepth 20000 in
theorem cal_X9_kept : CalV 167 0 0 0 7 := ⟨⟨wG_t6 102 rfl rfl, wG_t1 9 (by decide +kernel) rfl, ⟨by decide, by decide⟩, ⟨rfl, rfl⟩, by decide, by decide +kernel⟩, rfl, wG_t6 101 (by decide +kernel) rfl, wG_m 60 (by decide +kernel) rfl, _, rfl, rfl⟩
set_option maxRecDepth 20000 in
theorem cal_X9_isRule : CalS 168 1 0 0 := ⟨⟨wG_t5 226 rfl rfl, wG_t1 9 (by decide +kernel) rfl, ⟨by decide, by decide⟩, ⟨rfl, rfl⟩, by decide, by decide +kernel⟩, rfl, wG_t5 225 (by decide +kernel) rfl⟩
set_option maxRecDepth 20000 in
theorem cal_X9_rule : CalV 169 1 0 0 7 := ⟨⟨wG_t5 223 rfl rfl, wG_t1 9 (by decide +kernel) rfl, ⟨by decide, by decide⟩, ⟨rfl, rfl⟩, by decide, by decide +kernel⟩, rfl, wG_t5 221 (by decide +kernel) rfl, wG_t5 222 (by decide +kernel) rfl, _, rfl, rfl⟩
set_option maxRecDepth 20000 in
theorem cal_X9_isKnightStep : CalV 170 2 0 0 7 := ⟨⟨wG_t6 23 rfl rfl, wG_t1 9 (by decide +kernel) rfl, ⟨by decide, by decide⟩, ⟨rfl, rfl⟩, by decide, by decide +kernel⟩, rfl, wG_t6 22 (by decide +kernel) rfl, wG_m 52 (by decide +kernel) rfl, _, rfl, rfl⟩
set_option maxRecDepth 20000 in
theorem cal_X9_canRead : CalV 171 3 0 0 7 := ⟨⟨wG_t6 19 rfl rfl, wG_t1 9 (by decide +kernel) rfl, ⟨by decide, by decide⟩, ⟨rfl, rfl⟩, by decide, by decide +kernel⟩, rfl, wG_t6 18 (by decide +kernel) rfl, wG_m 51 (by decide +kernel) rfl, _, rfl, rfl⟩
set_option maxRecDepth 20000 in
theorem cal_X9_countReadings : CalV 172 2 0 0 7 := ⟨⟨wG_t6 15 rfl rfl, wG_t1 9 (by decide +kernel) rfl, ⟨by decide, by decide⟩, ⟨rfl, rfl⟩, by decide, by decide +kernel⟩, rfl, wG_t6 14 (by decide +kernel) rfl, wG_m 50 (by decide +kernel) rfl, _, rfl, rfl⟩
set_option maxRecDepth 20000 in
theorem cal_X9_readings : CalV 173 0 0 0 7 := ⟨⟨wG_t6 10 rfl rfl, wG_t1 9 (by decide +kernel) rfl, ⟨by decide, by decide⟩, ⟨rfl, rfl⟩, by decide, by decide +kernel⟩, rfl, wG_t6 8 (by decide +kernel) rfl, wG_t6 9 (by decide +kernel) rfl, _, rfl, rfl⟩
set_option maxRecDepth 20000 in
theorem cal_X9_reading : CalV 174 1 0 0 7 := ⟨⟨wG_t6 27 rfl rfl, wG_t1 9 (by decide +kernel) rfl, ⟨by decide, by decide⟩, ⟨rfl, rfl⟩, by decide, by decide +kernel⟩, rfl, wG_t6 25 (by decide +kernel) rfl, wG_t6 26 (by decide +kernel) rfl, _, rfl, rfl⟩
set_option maxRecDepth 20000 in
theorem cal_X9_remember : CalV 175 0 0 0 7 := ⟨⟨wG_t6 38 rfl rfl, wG_t1 9 (by decide +kernel) rfl, ⟨by decide, by decide⟩, ⟨rfl, rfl⟩, by decide, by decide +kernel⟩, rfl, wG_t6 37 (by decide +kernel) rfl, wG_m 53 (by decide +kernel) rfl, _, rfl, rfl⟩
set_option maxRecDepth 20000 in
theorem cal_X9_isWritable : CalS 176 1 0 0 := ⟨⟨wG_t6 34 rfl rfl, wG_t1 9 (by decide +kernel) rfl, ⟨by decide, by decide⟩, ⟨rfl, rfl⟩, by decide, by decide +kernel⟩, rfl, wG_t6 33 (by decide +kernel) rfl⟩
set_option maxRecDepth 20000 in
theorem cal_X9_put : CalV 177 2 0 0 7 := ⟨⟨wG_t6 31 rfl rfl, wG_t1 9 (by decide +kernel) rfl, ⟨by decide, by decide⟩, ⟨rfl, rfl⟩, by decide, by decide +kernel⟩, rfl, wG_t6 29 (by decide +kernel) rfl, wG_t6 30 (by decide +kernel) rfl, _, rfl, rfl⟩
set_option maxRecDepth 20000 in
theorem cal_X9_isRim : CalV 178 2 0 0 7 := ⟨⟨wG_t6 46 rfl rfl, wG_t1 9 (by decide +kernel) rfl, ⟨by decide, by decide⟩, ⟨rfl, rfl⟩, by decide, by decide +kernel⟩, rfl, wG_t6 45 (by decide +kernel) rfl, wG_m 54 (by decide +kernel) rfl, _, rfl, rfl⟩
set_option maxRecDepth 20000 in
theorem cal_X9_bar : CalV 179 3 0 0 7 := ⟨⟨wG_t6 50 rfl rfl, wG_t1 9 (by decide +kernel) rfl, ⟨by decide, by decide⟩, ⟨rfl, rfl⟩, by decide, by decide +kernel⟩, rfl, wG_t6 49 (by decide +kernel) rfl, wG_m 55 (by decide +kernel) rfl, _, rfl, rfl⟩
set_option maxRecDepth 20000 in
theorem cal_X9_setBar : CalV 180 3 0 0 7 := ⟨⟨wG_t6 42 rfl rfl, wG_t1 9 (by decide +kernel) rfl, ⟨by decide, by decide⟩, ⟨rfl, rfl⟩, by decide, by decide +kernel⟩, rfl, wG_t6 40 (by decide +kernel) rfl, wG_t6 41 (by decide +kernel) rfl, _, rfl, rfl⟩
set_option maxRecDepth 20000 in
theorem cal_X9_isLetters : CalV 181 1 0 0 7 := ⟨⟨wG_t6 58 rfl rfl, wG_t1 9 (by decide +kernel) rfl, ⟨by decide, by decide⟩, ⟨rfl, rfl⟩, by decide, by decide +kernel⟩, rfl, wG_t6 57 (by decide +kernel) rfl, wG_m 56 (by decide +kernel) rfl, _, rfl, rfl⟩
set_option maxRecDepth 20000 in
theorem cal_X9_addWord : CalV 182 0 0 0 7 := ⟨⟨wG_t6 54 rfl rfl, wG_t1 9 (by decide +kernel) rfl, ⟨by decide, by decide⟩, ⟨rfl, rfl⟩, by decide, by decide +kernel⟩, rfl, wG_t6 52 (by decide +kernel) rfl, wG_t6 53 (by decide +kernel) rfl, _, rfl, rfl⟩
set_option maxRecDepth 20000 in
theorem cal_X9_setLine : CalV 183 0 0 0 7 := ⟨⟨wG_t6 62 rfl rfl, wG_t1 9 (by decide +kernel) rfl, ⟨by decide, by decide⟩, ⟨rfl, rfl⟩, by decide, by decide +kernel⟩, rfl, wG_t6 60 (by decide +kernel) rfl, wG_t6 61 (by decide +kernel) rfl, _, rfl, rfl⟩
set_option maxRecDepth 20000 in
theorem cal_X9_writeWord : CalV 184 2 0 0 7 := ⟨⟨wG_t6 70 rfl rfl, wG_t1 9 (by decide +kernel) rfl, ⟨by decide, by decide⟩, ⟨rfl, rfl⟩, by decide, by decide +kernel⟩, rfl, wG_t6 69 (by decide +kernel) rfl, wG_m 57 (by decide +kernel) rfl, _, rfl, rfl⟩
set_option maxRecDepth 20000 in
theorem cal_X9_write : CalV 185 2 0 0 7 := ⟨⟨wG_t6 66 rfl rfl, wG_t1 9 (by decide +kernel) rfl, ⟨by decide, by decide⟩, ⟨rfl, rfl⟩, by decide, by decide +kernel⟩, rfl, wG_t6 64 (by decide +kernel) rfl, wG_t6 65 (by decide +kernel) rfl, _, rfl, rfl⟩
set_option maxRecDepth 20000 in
theorem cal_X9_eraseEntry : CalV 186 1 0 0 7 := ⟨⟨wG_t6 78 rfl rfl, wG_t1 9 (by decide +kernel) rfl, ⟨by decide, by decide⟩, ⟨rfl, rfl⟩, by decide, by decide +kernel⟩, rfl, wG_t6 77 (by decide +kernel) rfl, wG_m 58 (by decide +kernel) rfl, _, rfl, rfl⟩
set_option maxRecDepth 20000 in
theorem cal_X9_erase : CalV 187 1 0 0 7 := ⟨⟨wG_t6 74 rfl rfl, wG_t1 9 (by decide +kernel) rfl, ⟨by decide, by decide⟩, ⟨rfl, rfl⟩, by decide, by decide +kernel⟩, rfl, wG_t6 72 (by decide +kernel) rfl, wG_t6 73 (by decide +kernel) rfl, _, rfl, rfl⟩
set_option maxRecDepth 20000 in
theorem cal_X9_undo : CalV 188 0 0 0 7 := ⟨⟨wG_t6 82 rfl rfl, wG_t1 9 (by decide +kernel) rfl, ⟨by decide, by decide⟩, ⟨rfl, rfl⟩, by decide, by decide +kernel⟩, rfl, wG_t6 80 (by decide +kernel) rfl, wG_t6 81 (by decide +kernel) rfl, _, rfl, rfl⟩
set_option maxRecDepth 20000 in
theorem cal_X9_possible : CalV 189 0 0 0 7 := ⟨⟨wG_t6 86 rfl rfl, wG_t1 9 (by decide +kernel) rfl, ⟨by decide, by decide⟩, ⟨rfl, rfl⟩, by decide, by decide +kernel⟩, rfl, wG_t6 84 (by decide +kernel) rfl, wG_t6 85 (by decide +kernel) rfl, _, rfl, rfl⟩
set_option maxRecDepth 20000 in
theorem cal_X9_canFill : CalV 190 2 0 0 7 := ⟨⟨wG_t6 94 rfl rfl, wG_t1 9 (by decide +kernel) rfl, ⟨by decide, by decide⟩, ⟨rfl, rfl⟩, by decide, by decide +kernel⟩, rfl, wG_t6 93 (by decide +kernel) rfl, wG_m 59 (by decide +kernel) rfl, _, rfl, rfl⟩
set_option maxRecDepth 20000 in
theorem cal_X9_fillings : CalV 191 0 0 0 7 := ⟨⟨wG_t6 90 rfl rfl, wG_t1 9 (by decide +kernel) rfl, ⟨by decide, by decide⟩, ⟨rfl, rfl⟩, by decide, by decide +kernel⟩, rfl, wG_t6 88 (by decide +kernel) rfl, wG_t6 89 (by decide +kernel) rfl, _, rfl, rfl⟩
set_option maxRecDepth 20000 in
theorem cal_X9_change : CalV 192 2 0 0 7 := ⟨⟨wG_t6 106 rfl rfl, wG_t1 9 (by decide +kernel) rfl, ⟨by decide, by decide⟩, ⟨rfl, rfl⟩, by decide, by decide +kernel⟩, rfl, wG_t6 105 (by decide +kernel) rfl, wG_m 61 (by decide +kernel) rfl, _, rfl, rfl⟩
set_option maxRecDepth 20000 in
theorem cal_X9_mend : CalV 193 0 0 0 7 := ⟨⟨wG_t6 98 rfl rfl, wG_t1 9 (by decide +kernel) rfl, ⟨by decide, by decide⟩, ⟨rfl, rfl⟩, by decide, by decide +kernel⟩, rfl, wG_t6 96 (by decide +kernel) rfl, wG_t6 97 (by decide +kernel) rfl, _, rfl, rfl⟩
set_option maxRecDepth 20000 in
theorem cal_X9_hardest : CalV 194 0 0 0 7 := ⟨⟨wG_t6 110 rfl rfl, wG_t1 9 (by decide +kernel) rfl, ⟨by decide, by decide⟩, ⟨rfl, rfl⟩, by decide, by decide +kernel⟩, rfl, wG_t6 108 (by decide +kernel) rfl, wG_t6 109 (by decide +kernel) rfl, _, rfl, rfl⟩
set_option maxRecDepth 20000 in
theorem cal_X9_putsLetter : CalV 195 2 0 0 7 := ⟨⟨wG_t6 125 rfl rfl, wG_t1 9 (by decide +kernel) rfl, ⟨by decide, by decide⟩, ⟨rfl, rfl⟩, by decide, by decide +kernel⟩, rfl, wG_t6 124 (by decide +kernel) rfl, wG_m 63 (by decide +kernel) rfl, _, rfl, rfl⟩
set_option maxRecDepth 20000 in
theorem cal_X9_setsBar : CalV 196 3 0 0 7 := ⟨⟨wG_t6 129 rfl rfl, wG_t1 9 (by decide +kernel) rfl, ⟨by decide, by decide⟩, ⟨rfl, rfl⟩, by decide, by decide +kernel⟩, rfl, wG_t6 128 (by decide +kernel) rfl, wG_m 64 (by decide +kernel) rfl, _, rfl, rfl⟩
set_option maxRecDepth 20000 in
theorem cal_X9_writes : CalV 197 2 0 0 7 := ⟨⟨wG_t6 133 rfl rfl, wG_t1 9 (by decide +kernel) rfl, ⟨by decide, by decide⟩, ⟨rfl, rfl⟩, by decide, by decide +kernel⟩, rfl, wG_t6 132 (by decide +kernel) rfl, wG_m 65 (by decide +kernel) rfl, _, rfl, rfl⟩
set_option maxRecDepth 20000 in
theorem cal_X9_erases : CalV 198 1 0 0 7 := ⟨⟨wG_t6 137 rfl rfl, wG_t1 9 (by decide +kernel) rfl, ⟨by decide, by decide⟩, ⟨rfl, rfl⟩, by decide, by decide +kernel⟩, rfl, wG_t6 136 (by decide +kernel) rfl, wG_m 66 (by decide +kernel) rfl, _, rfl, rfl⟩
set_option maxRecDepth 20000 in
theorem cal_X9_runs : CalV 199 1 0 0 7 := ⟨⟨wG_t6 121 rfl rfl, wG_t1 9 (by decide +kernel) rfl, ⟨by decide, by decide⟩, ⟨rfl, rfl⟩, by decide, by decide +kernel⟩, rfl, wG_t6 120 (by decide +kernel) rfl, wG_m 62 (by decide +kernel) rfl, _, rfl, rfl⟩
set_option maxRecDepth 20000 in
theorem cal_X9_runScript : CalV 200 2 0 0 7 := ⟨⟨wG_t6 114 rfl rfl, wG_t1 9 (by decide +kernel) rfl, ⟨by decide, by decide⟩, ⟨rfl, rfl⟩, by decide, by decide +kernel⟩, rfl, wG_t6 112 (by decide +kernel) rfl, wG_t6 113 (by decide +kernel) rfl, _, rfl, rfl⟩
set_option maxRecDepth 20000 in
theorem cal_X9_simulate : CalV 201 2 0 0 7 := ⟨⟨wG_t6 141 rfl rfl, wG_t1 9 (by decide +kernel) rfl, ⟨by decide, by decide⟩, ⟨rfl, rfl⟩, by decide, by decide +kernel⟩, rfl, wG_t6 139 (by decide +kernel) rfl, wG_t6 140 (by decide +kernel) rfl, _, rfl, rfl⟩
set_option maxRecDepth 20000 in
theorem cal_X9_isSlot : CalS 202 1 0 0 := ⟨⟨wG_t6 150 rfl rfl, wG_t1 9 (by decide +kernel) rfl, ⟨by decide, by decide⟩, ⟨rfl, rfl⟩, by decide, by decide +kernel⟩, rfl, wG_t6 149 (by decide +kernel) rfl⟩
set_option maxRecDepth 20000 in
theorem cal_X9_save : CalV 203 1 0 0 7 := ⟨⟨wG_t6 147 rfl rfl, wG_t1 9 (by decide +kernel) rfl, ⟨by decide, by decide⟩, ⟨rfl, rfl⟩, by decide, by decide +kernel⟩, rfl, wG_t6 145 (by decide +kernel) rfl, wG_t6 146 (by decide +kernel) rfl, _, rfl, rfl⟩
set_option maxRecDepth 20000 in
theorem cal_X9_restore : CalV 204 1 0 0 7 := ⟨⟨wG_t6 154 rfl rfl, wG_t1 9 (by decide +kernel) rfl, ⟨by decide, by decide⟩, ⟨rfl, rfl⟩, by decide, by decide +kernel⟩, rfl, wG_t6 152 (by decide +kernel) rfl, wG_t6 153 (by decide +kernel) rfl, _, rfl, rfl⟩
set_option maxRecDepth 20000 in
theorem cal_J13_bitCount_95d88 : CalS 205 1 0 0 := ⟨⟨wG_t3 54 rfl rfl, wG_t1 16 (by decide +kernel) rfl, ⟨by decide, by decide⟩, ⟨rfl, rfl⟩, by decide, by decide +kernel⟩, rfl, wG_t3 53 (by decide +kernel) rfl⟩
set_option maxRecDepth 20000 in
theorem cal_J9_floorMod_7cf53 : CalS 206 2 0 0 := ⟨⟨wG_t4 97 rfl rfl, wG_t1 19 (by decide +kernel) rfl, ⟨by decide, by decide⟩, ⟨rfl, rfl⟩, by decide, by decide +kernel⟩, rfl, wG_t4 96 (by decide +kernel) rfl⟩
set_option maxRecDepth 20000 in
theorem cal_J7_fill_53178 : CalS 207 2 0 0 := ⟨⟨wG_t1 115 rfl rfl, wG_t1 5 (by decide +kernel) rfl, ⟨by decide, by decide⟩, ⟨rfl, rfl⟩, by decide, by decide +kernel⟩, rfl, wG_t1 114 (by decide +kernel) rfl⟩
set_option maxRecDepth 20000 in
theorem cal_L_append : CalX 208 3 1 6 := ⟨⟨wG_t3 82 rfl rfl, wG_t1 0 (by decide +kernel) rfl, ⟨by decide, by decide⟩, ⟨rfl, rfl⟩, by decide, by decide +kernel⟩, by decide, wG_t3 81 (by decide +kernel) rfl⟩
set_option maxRecDepth 20000 in
theorem cal_L_load : CalX 209 2 1 6 := ⟨⟨wG_t3 183 rfl rfl, wG_t1 0 (by decide +kernel) rfl, ⟨by decide, by decide⟩, ⟨rfl, rfl⟩, by decide, by decide +kernel⟩, by decide, wG_t3 182 (by decide +kernel) rfl⟩
set_option maxRecDepth 20000 in
theorem cal_L_about : CalX 210 3 1 6 := ⟨⟨wG_t3 199 rfl rfl, wG_t1 0 (by decide +kernel) rfl, ⟨by decide, by decide⟩, ⟨rfl, rfl⟩, by decide, by decide +kernel⟩, by decide, wG_t3 198 (by decide +kernel) rfl⟩
set_option maxRecDepth 20000 in
theorem cal_L_cell : CalX 211 4 2 12 := ⟨⟨wG_t3 218 rfl rfl, wG_t1 0 (by decide +kernel) rfl, ⟨by decide, by decide⟩, ⟨rfl, rfl⟩, by decide, by decide +kernel⟩, by decide, wG_t3 217 (by decide +kernel) rfl⟩
set_option maxRecDepth 20000 in
theorem cal_L_entry : CalX 212 4 2 12 := ⟨⟨wG_t4 15 rfl rfl, wG_t1 0 (by decide +kernel) rfl, ⟨by decide, by decide⟩, ⟨rfl, rfl⟩, by decide, by decide +kernel⟩, by decide, wG_t4 14 (by decide +kernel) rfl⟩
set_option maxRecDepth 20000 in
theorem cal_L_word : CalX 213 4 2 12 := ⟨⟨wG_t4 37 rfl rfl, wG_t1 0 (by decide +kernel) rfl, ⟨by decide, by decide⟩, ⟨rfl, rfl⟩, by decide, by decide +kernel⟩, by decide, wG_t4 36 (by decide +kernel) rfl⟩
set_option maxRecDepth 20000 in
theorem cal_L_fits : CalX 214 3 1 6 := ⟨⟨wG_t4 52 rfl rfl, wG_t1 0 (by decide +kernel) rfl, ⟨by decide, by decide⟩, ⟨rfl, rfl⟩, by decide, by decide +kernel⟩, by decide, wG_t4 51 (by decide +kernel) rfl⟩
set_option maxRecDepth 20000 in
theorem cal_L_rule : CalX 215 3 1 6 := ⟨⟨wG_t4 59 rfl rfl, wG_t1 0 (by decide +kernel) rfl, ⟨by decide, by decide⟩, ⟨rfl, rfl⟩, by decide, by decide +kernel⟩, by decide, wG_t4 58 (by decide +kernel) rfl⟩
set_option maxRecDepth 20000 in
theorem cal_L_reading : CalX 216 3 1 6 := ⟨⟨wG_t4 68 rfl rfl, wG_t1 0 (by decide +kernel) rfl, ⟨by decide, by decide⟩, ⟨rfl, rfl⟩, by decide, by decide +kernel⟩, by decide, wG_t4 67 (by decide +kernel) rfl⟩
set_option maxRecDepth 20000 in
theorem cal_L_put : CalX 217 4 2 12 := ⟨⟨wG_t4 80 rfl rfl, wG_t1 0 (by decide +kernel) rfl, ⟨by decide, by decide⟩, ⟨rfl, rfl⟩, by decide, by decide +kernel⟩, by decide, wG_t4 79 (by decide +kernel) rfl⟩
set_option maxRecDepth 20000 in
theorem cal_L_setBar : CalX 218 5 2 12 := ⟨⟨wG_t4 102 rfl rfl, wG_t1 0 (by decide +kernel) rfl, ⟨by decide, by decide⟩, ⟨rfl, rfl⟩, by decide, by decide +kernel⟩, by decide, wG_t4 101 (by decide +kernel) rfl⟩
set_option maxRecDepth 20000 in
theorem cal_L_addWord : CalX 219 2 1 6 := ⟨⟨wG_t4 110 rfl rfl, wG_t1 0 (by decide +kernel) rfl, ⟨by decide, by decide⟩, ⟨rfl, rfl⟩, by decide, by decide +kernel⟩, by decide, wG_t4 109 (by decide +kernel) rfl⟩
set_option maxRecDepth 20000 in
theorem cal_L_setLine : CalX 220 2 1 6 := ⟨⟨wG_t4 125 rfl rfl, wG_t1 0 (by decide +kernel) rfl, ⟨by decide, by decide⟩, ⟨rfl, rfl⟩, by decide, by decide +kernel⟩, by decide, wG_t4 124 (by decide +kernel) rfl⟩
set_option maxRecDepth 20000 in
theorem cal_L_write : CalX 221 4 3 18 := ⟨⟨wG_t4 134 rfl rfl, wG_t1 0 (by decide +kernel) rfl, ⟨by decide, by decide⟩, ⟨rfl, rfl⟩, by decide, by decide +kernel⟩, by decide, wG_t4 133 (by decide +kernel) rfl⟩
set_option maxRecDepth 20000 in
theorem cal_L_erase : CalX 222 3 1 6 := ⟨⟨wG_t4 148 rfl rfl, wG_t1 0 (by decide +kernel) rfl, ⟨by decide, by decide⟩, ⟨rfl, rfl⟩, by decide, by decide +kernel⟩, by decide, wG_t4 147 (by decide +kernel) rfl⟩
set_option maxRecDepth 20000 in
theorem cal_L_undo : CalX 223 2 1 6 := ⟨⟨wG_t4 161 rfl rfl, wG_t1 0 (by decide +kernel) rfl, ⟨by decide, by decide⟩, ⟨rfl, rfl⟩, by decide, by decide +kernel⟩, by decide, wG_t4 160 (by decide +kernel) rfl⟩
set_option maxRecDepth 20000 in
theorem cal_L_runScript : CalX 224 4 1 6 := ⟨⟨wG_t4 173 rfl rfl, wG_t1 0 (by decide +kernel) rfl, ⟨by decide, by decide⟩, ⟨rfl, rfl⟩, by decide, by decide +kernel⟩, by decide, wG_t4 172 (by decide +kernel) rfl⟩
set_option maxRecDepth 20000 in
theorem cal_L_simulate : CalX 225 4 1 6 := ⟨⟨wG_t4 209 rfl rfl, wG_t1 0 (by decide +kernel) rfl, ⟨by decide, by decide⟩, ⟨rfl, rfl⟩, by decide, by decide +kernel⟩, by decide, wG_t4 208 (by decide +kernel) rfl⟩
set_option maxRecDepth 20000 in
theorem cal_L_save : CalX 226 3 1 6 := ⟨⟨wG_t4 223 rfl rfl, wG_t1 0 (by decide +kernel) rfl, ⟨by decide, by decide⟩, ⟨rfl, rfl⟩, by decide, by decide +kernel⟩, by decide, wG_t4 222 (by decide +kernel) rfl⟩
set_option maxRecDepth 20000 in
theorem cal_L_restore : CalX 227 3 2 12 := ⟨⟨wG_t4 238 rfl rfl, wG_t1 0 (by decide +kernel) rfl, ⟨by decide, by decide⟩, ⟨rfl, rfl⟩, by decide, by decide +kernel⟩, by decide, wG_t4 237 (by decide +kernel) rfl⟩
