/-! ===== what is decided: the words of the tables, and the methods that are called ===== -/
theorem wG_m {w : Jvm.Cond} (i : Nat) (h : lw_tbl[i]? = some w) (hg : goodWord w = true) : w ∈ wG := List.mem_filter.mpr ⟨List.mem_of_getElem? h, hg⟩
theorem wG_t1 {w : Jvm.Cond} (i : Nat) (h : tables_1_1[i]? = some w) (hg : goodWord w = true) : w ∈ wG := by
  have h := List.mem_of_getElem? h
  exact List.mem_filter.mpr ⟨List.mem_append_right _ (show w ∈ tables_1 from (List.mem_append_left _ h)), hg⟩
theorem wG_t2 {w : Jvm.Cond} (i : Nat) (h : tables_1_2[i]? = some w) (hg : goodWord w = true) : w ∈ wG := by
  have h := List.mem_of_getElem? h
  exact List.mem_filter.mpr ⟨List.mem_append_right _ (show w ∈ tables_1 from (List.mem_append_right _ (List.mem_append_left _ h))), hg⟩
theorem wG_t3 {w : Jvm.Cond} (i : Nat) (h : tables_1_3[i]? = some w) (hg : goodWord w = true) : w ∈ wG := by
  have h := List.mem_of_getElem? h
  exact List.mem_filter.mpr ⟨List.mem_append_right _ (show w ∈ tables_1 from (List.mem_append_right _ (List.mem_append_right _ (List.mem_append_left _ h)))), hg⟩
theorem wG_t4 {w : Jvm.Cond} (i : Nat) (h : tables_1_4[i]? = some w) (hg : goodWord w = true) : w ∈ wG := by
  have h := List.mem_of_getElem? h
  exact List.mem_filter.mpr ⟨List.mem_append_right _ (show w ∈ tables_1 from (List.mem_append_right _ (List.mem_append_right _ (List.mem_append_right _ (h))))), hg⟩
def CalV (y n mc ms rc : Nat) : Prop := CalOk y n mc ms ∧ mH y = [] ∧ Jvm.Cond.instanceMethod (mN y) ∈ wG ∧ Jvm.Cond.selects (mN y).cls (mN y) (mN y) ∈ wG ∧ ∃ q, vwCl[rc]? = some q ∧ q.1 = (mN y).cls
def CalS (y n mc ms : Nat) : Prop := CalOk y n mc ms ∧ mH y = [] ∧ Jvm.Cond.static (mN y) ∈ wG
def CalX (y n mc ms : Nat) : Prop := CalOk y n mc ms ∧ mH y ≠ [] ∧ Jvm.Cond.static (mN y) ∈ wG
def CalC (y n mc ms : Nat) : Prop := CalOk y n mc ms ∧ mH y = [] ∧ mR y = none ∧ Jvm.Cond.instanceMethod (mN y) ∈ wG ∧ (mN y).name = "<init>"
theorem m_0 {own : String} {x y n mc ms rc : Nat} (h : CalV y n mc ms rc) (w : Jvm.Cond.methodLink own x (mN y) ∈ wG) : MthOk own x (y, 0, n + 1, mc, ms, rc) := ⟨n, rfl, h.1, h.2.1, w, h.2.2.1, h.2.2.2.1, h.2.2.2.2⟩
theorem m_1 {own : String} {x y n mc ms rc : Nat} (h : CalS y n mc ms) (w : Jvm.Cond.methodLink own x (mN y) ∈ wG) : MthOk own x (y, 1, n, mc, ms, rc) := ⟨h.1, h.2.1, w, h.2.2⟩
theorem m_7 {own : String} {x y n mc ms rc : Nat} (h : CalX y n mc ms) (w : Jvm.Cond.methodLink own x (mN y) ∈ wG) : MthOk own x (y, 7, n, mc, ms, rc) := ⟨h.1, h.2.1, w, h.2.2⟩
theorem m_2 {own : String} {x y n mc ms rc : Nat} (h : CalC y n mc ms) (w : Jvm.Cond.methodLink own x (mN y) ∈ wG) : MthOk own x (y, 2, n + 1, mc, ms, rc) := ⟨n, rfl, h.1, h.2.1, h.2.2.1, w, h.2.2.2.1, h.2.2.2.2⟩
theorem m_3 {own : String} {x y n mc ms rc : Nat} (h : CalS y n mc ms) (w : (own, x, y, RX8) ∈ aNest) : MthOk own x (y, 3, n, mc, ms, rc) := ⟨h.1, h.2.1, w, h.2.2⟩
theorem m_4 {own : String} {x y n mc ms rc : Nat} (h : CalC y n mc ms) (w : (own, x, y, RX8) ∈ aNest) : MthOk own x (y, 4, n + 1, mc, ms, rc) := ⟨n, rfl, h.1, h.2.1, h.2.2.1, w, h.2.2.2.1, h.2.2.2.2⟩
theorem lk_mem {α : Type} : ∀ (t : List (Nat × α)) {x : Nat} {v : α}, lk t x = some v → (x, v) ∈ t
  | [], x, v, h => by cases h
  | (k, a) :: t, x, v, h => by
    cases hb : Nat.beq k x with
    | true =>
      have h : cond (Nat.beq k x) (some a) (lk t x) = some v := h
      rw [hb] at h
      cases h
      rw [Nat.eq_of_beq_eq_true hb]
      exact List.mem_cons_self
    | false =>
      have h : cond (Nat.beq k x) (some a) (lk t x) = some v := h
      rw [hb] at h
      exact List.mem_cons_of_mem _ (lk_mem t h)
theorem lk_all {α : Type} {t : List (Nat × α)} {P : Nat → α → Prop} (h : ∀ q ∈ t, P q.1 q.2) {x : Nat} {v : α} (hx : lk t x = some v) : P x v := h _ (lk_mem t hx)
def fldW (own : String) (t : List (Nat × Nat × Nat)) : List Jvm.Cond := t.map (fun r => match vwCl[r.2.1]? with
  | some q => .fieldLink own r.1 (q.2.1 r.2.2).1 (q.2.1 r.2.2).2.1 (q.2.1 r.2.2).2.2.1
  | none => .tt)
def fldC (t : List (Nat × Nat × Nat)) : Bool := t.all (fun r => match vwCl[r.2.1]? with
  | some q => decide (r.2.2 < q.2.2)
  | none => false)
theorem wG_of {ws : List Jvm.Cond} (ps : List Nat) (hp : ws = ps.filterMap (fun i => lw_tbl[i]?)) (hg : ws.all goodWord = true) : ∀ w ∈ ws, w ∈ wG := by
  intro w hw
  refine List.mem_filter.mpr ⟨?_, List.all_eq_true.mp hg w hw⟩
  rw [hp] at hw
  obtain ⟨i, -, hi⟩ := List.mem_filterMap.mp hw
  exact List.mem_of_getElem? hi
theorem fld_ok {own : String} {t : List (Nat × Nat × Nat)} (hw : ∀ w ∈ fldW own t, w ∈ wG) (hc : fldC t = true) : ∀ x ci j, lk t x = some (ci, j) → ∃ q, vwCl[ci]? = some q ∧ j < q.2.2 ∧ Jvm.Cond.fieldLink own x (q.2.1 j).1 (q.2.1 j).2.1 (q.2.1 j).2.2.1 ∈ wG := by
  intro x ci j h
  have hm := lk_mem t h
  have h1 := List.all_eq_true.mp hc _ hm
  dsimp only at h1
  cases hq : vwCl[ci]? with
  | none => rw [hq] at h1; cases h1
  | some q =>
    rw [hq] at h1
    refine ⟨q, rfl, of_decide_eq_true h1, hw _ ?_⟩
    have := List.mem_map_of_mem (f := fun r : Nat × Nat × Nat => match vwCl[r.2.1]? with
      | some q => Jvm.Cond.fieldLink own r.1 (q.2.1 r.2.2).1 (q.2.1 r.2.2).2.1 (q.2.1 r.2.2).2.2.1
      | none => .tt) hm
    dsimp only at this
    rw [hq] at this
    exact this
def rowsC (own : String) (cc : ByteArray) (nL : Nat) (nm : String) (I : MI) : Bool := I.code.all (fun r => match lk I.thr r.1 with
  | some _ => match r.2.1 with
    | .new _ => true
    | _ => false
  | none => chk own cc nL nm I r.1 r.2.1 r.2.2.1 r.2.2.2)
theorem rows_ok {own : String} {cc : ByteArray} {nL : Nat} {nm : String} {I : MI} (h : rowsC own cc nL nm I = true) : (∀ pc i nx tg, lk I.code pc = some (i, nx, tg) → lk I.thr pc = none → chk own cc nL nm I pc i nx tg = true) ∧ ∀ pc X i nx tg, lk I.thr pc = some X → lk I.code pc = some (i, nx, tg) → ∃ x, i = .new x := by
  refine ⟨fun pc i nx tg hc ht => ?_, fun pc X i nx tg ht hc => ?_⟩
  · have h1 := List.all_eq_true.mp h _ (lk_mem _ hc)
    dsimp only at h1
    rw [ht] at h1
    exact h1
  · have h1 := List.all_eq_true.mp h _ (lk_mem _ hc)
    dsimp only at h1
    rw [ht] at h1
    dsimp only at h1
    split at h1
    · exact ⟨_, rfl⟩
    · cases h1
def retC (ret : Option FieldType) (I : MI) : Bool := I.code.all (fun r => match r.2.1 with
  | .ireturn => decide (ret = some .int) || (decide (ret = some .boolean) && decide (I.rt = 1))
  | .lreturn => decide (ret = some .long)
  | .areturn => match ret with
    | some (.object _) => true
    | _ => false
  | .return_ => decide (ret = none)
  | _ => true)
theorem ret_ok {y : Nat} (h : retC (mR y) (mI y) = true) : RetOk y := by
  intro pc i nx tg hc
  have h1 := List.all_eq_true.mp h _ (lk_mem _ hc)
  dsimp only at h1
  refine ⟨fun e => ?_, fun e => ?_, fun e => ?_, fun e => ?_⟩
  · subst e
    simp only [Bool.or_eq_true, Bool.and_eq_true, decide_eq_true_eq] at h1
    exact h1
  · subst e
    exact of_decide_eq_true h1
  · subst e
    dsimp only at h1
    split at h1
    · exact ⟨_, by assumption⟩
    · cases h1
  · subst e
    exact of_decide_eq_true h1
/-- no constants, no made arrays of objects -/
def noC (I : MI) : Bool := I.code.all (fun r => match r.2.1 with
  | .ldc _ => (lk I.thr (r.1 - 4)).isSome
  | .ldc2_w _ => false
  | .anewarray _ => false
  | _ => true)
set_option maxRecDepth 20000 in
theorem cal_X1_init : CalC 4 0 2 16 := ⟨⟨wG_t1 236 rfl rfl, wG_t1 8 (by decide +kernel) rfl, ⟨by decide, by decide⟩, ⟨rfl, rfl⟩, by decide, by decide +kernel⟩, rfl, rfl, wG_t1 235 (by decide +kernel) rfl, rfl⟩
set_option maxRecDepth 20000 in
theorem cal_X1_count : CalV 5 1 0 0 0 := ⟨⟨wG_t3 99 rfl rfl, wG_t1 8 (by decide +kernel) rfl, ⟨by decide, by decide⟩, ⟨rfl, rfl⟩, by decide, by decide +kernel⟩, rfl, wG_t3 97 (by decide +kernel) rfl, wG_t3 98 (by decide +kernel) rfl, _, rfl, rfl⟩
set_option maxRecDepth 20000 in
theorem cal_X1_wordsThatFit : CalS 6 2 0 0 := ⟨⟨wG_t3 102 rfl rfl, wG_t1 8 (by decide +kernel) rfl, ⟨by decide, by decide⟩, ⟨rfl, rfl⟩, by decide, by decide +kernel⟩, rfl, wG_t3 101 (by decide +kernel) rfl⟩
set_option maxRecDepth 20000 in
theorem cal_X1_giveFrom : CalV 7 2 0 0 0 := ⟨⟨wG_t3 125 rfl rfl, wG_t1 8 (by decide +kernel) rfl, ⟨by decide, by decide⟩, ⟨rfl, rfl⟩, by decide, by decide +kernel⟩, rfl, wG_t3 124 (by decide +kernel) rfl, wG_m 9 (by decide +kernel) rfl, _, rfl, rfl⟩
set_option maxRecDepth 20000 in
theorem cal_X1_give : CalV 8 3 0 0 0 := ⟨⟨wG_t3 149 rfl rfl, wG_t1 8 (by decide +kernel) rfl, ⟨by decide, by decide⟩, ⟨rfl, rfl⟩, by decide, by decide +kernel⟩, rfl, wG_t3 148 (by decide +kernel) rfl, wG_m 11 (by decide +kernel) rfl, _, rfl, rfl⟩
set_option maxRecDepth 20000 in
theorem cal_X1_agrees : CalV 9 3 0 0 0 := ⟨⟨wG_t3 129 rfl rfl, wG_t1 8 (by decide +kernel) rfl, ⟨by decide, by decide⟩, ⟨rfl, rfl⟩, by decide, by decide +kernel⟩, rfl, wG_t3 128 (by decide +kernel) rfl, wG_m 10 (by decide +kernel) rfl, _, rfl, rfl⟩
set_option maxRecDepth 20000 in
theorem cal_X2_init : CalC 10 0 2 12 := ⟨⟨wG_t1 208 rfl rfl, wG_t1 7 (by decide +kernel) rfl, ⟨by decide, by decide⟩, ⟨rfl, rfl⟩, by decide, by decide +kernel⟩, rfl, rfl, wG_t1 207 (by decide +kernel) rfl, rfl⟩
set_option maxRecDepth 20000 in
theorem cal_X2_count : CalV 11 3 0 0 1 := ⟨⟨wG_t2 184 rfl rfl, wG_t1 7 (by decide +kernel) rfl, ⟨by decide, by decide⟩, ⟨rfl, rfl⟩, by decide, by decide +kernel⟩, rfl, wG_t2 182 (by decide +kernel) rfl, wG_t2 183 (by decide +kernel) rfl, _, rfl, rfl⟩
set_option maxRecDepth 20000 in
theorem cal_X2_cellOfFirst : CalV 12 1 0 0 1 := ⟨⟨wG_t2 232 rfl rfl, wG_t1 7 (by decide +kernel) rfl, ⟨by decide, by decide⟩, ⟨rfl, rfl⟩, by decide, by decide +kernel⟩, rfl, wG_t2 230 (by decide +kernel) rfl, wG_t2 231 (by decide +kernel) rfl, _, rfl, rfl⟩
set_option maxRecDepth 20000 in
theorem cal_X2_visit : CalV 13 3 0 0 1 := ⟨⟨wG_t2 189 rfl rfl, wG_t1 7 (by decide +kernel) rfl, ⟨by decide, by decide⟩, ⟨rfl, rfl⟩, by decide, by decide +kernel⟩, rfl, wG_t2 188 (by decide +kernel) rfl, wG_m 3 (by decide +kernel) rfl, _, rfl, rfl⟩
set_option maxRecDepth 20000 in
theorem cal_X2_visitBehind : CalV 14 3 0 0 1 := ⟨⟨wG_t2 210 rfl rfl, wG_t1 7 (by decide +kernel) rfl, ⟨by decide, by decide⟩, ⟨rfl, rfl⟩, by decide, by decide +kernel⟩, rfl, wG_t2 209 (by decide +kernel) rfl, wG_m 6 (by decide +kernel) rfl, _, rfl, rfl⟩
set_option maxRecDepth 20000 in
theorem cal_X2_isAllowed : CalV 15 3 0 0 1 := ⟨⟨wG_t2 193 rfl rfl, wG_t1 7 (by decide +kernel) rfl, ⟨by decide, by decide⟩, ⟨rfl, rfl⟩, by decide, by decide +kernel⟩, rfl, wG_t2 192 (by decide +kernel) rfl, wG_m 4 (by decide +kernel) rfl, _, rfl, rfl⟩
set_option maxRecDepth 20000 in
theorem cal_X2_keepPath : CalV 16 1 0 0 1 := ⟨⟨wG_t2 203 rfl rfl, wG_t1 7 (by decide +kernel) rfl, ⟨by decide, by decide⟩, ⟨rfl, rfl⟩, by decide, by decide +kernel⟩, rfl, wG_t2 202 (by decide +kernel) rfl, wG_m 5 (by decide +kernel) rfl, _, rfl, rfl⟩
set_option maxRecDepth 20000 in
theorem cal_X3_init : CalC 17 0 83 1746 := ⟨⟨wG_t1 182 rfl rfl, wG_t1 6 (by decide +kernel) rfl, ⟨by decide, by decide⟩, ⟨rfl, rfl⟩, by decide, by decide +kernel⟩, rfl, rfl, wG_t1 181 (by decide +kernel) rfl, rfl⟩
set_option maxRecDepth 20000 in
theorem cal_X3_remember : CalV 18 1 0 0 2 := ⟨⟨wG_t3 25 rfl rfl, wG_t1 6 (by decide +kernel) rfl, ⟨by decide, by decide⟩, ⟨rfl, rfl⟩, by decide, by decide +kernel⟩, rfl, wG_t3 23 (by decide +kernel) rfl, wG_t3 24 (by decide +kernel) rfl, _, rfl, rfl⟩
set_option maxRecDepth 20000 in
theorem cal_X3_takeLast : CalV 19 0 0 0 2 := ⟨⟨wG_t3 82 rfl rfl, wG_t1 6 (by decide +kernel) rfl, ⟨by decide, by decide⟩, ⟨rfl, rfl⟩, by decide, by decide +kernel⟩, rfl, wG_t3 80 (by decide +kernel) rfl, wG_t3 81 (by decide +kernel) rfl, _, rfl, rfl⟩
set_option maxRecDepth 20000 in
theorem cal_X3_forgetActions : CalV 20 0 0 0 2 := ⟨⟨wG_t4 108 rfl rfl, wG_t1 6 (by decide +kernel) rfl, ⟨by decide, by decide⟩, ⟨rfl, rfl⟩, by decide, by decide +kernel⟩, rfl, wG_t4 106 (by decide +kernel) rfl, wG_t4 107 (by decide +kernel) rfl, _, rfl, rfl⟩
set_option maxRecDepth 20000 in
theorem cal_X3_at : CalV 21 1 0 0 2 := ⟨⟨wG_t3 29 rfl rfl, wG_t1 6 (by decide +kernel) rfl, ⟨by decide, by decide⟩, ⟨rfl, rfl⟩, by decide, by decide +kernel⟩, rfl, wG_t3 28 (by decide +kernel) rfl, wG_m 8 (by decide +kernel) rfl, _, rfl, rfl⟩
set_option maxRecDepth 20000 in
theorem cal_X3_emptySlots : CalV 25 0 0 0 2 := ⟨⟨wG_t4 112 rfl rfl, wG_t1 6 (by decide +kernel) rfl, ⟨by decide, by decide⟩, ⟨rfl, rfl⟩, by decide, by decide +kernel⟩, rfl, wG_t4 110 (by decide +kernel) rfl, wG_t4 111 (by decide +kernel) rfl, _, rfl, rfl⟩
set_option maxRecDepth 20000 in
theorem cal_X4_init : CalC 26 0 11 324 := ⟨⟨wG_t1 102 rfl rfl, wG_t1 4 (by decide +kernel) rfl, ⟨by decide, by decide⟩, ⟨rfl, rfl⟩, by decide, by decide +kernel⟩, rfl, rfl, wG_t1 101 (by decide +kernel) rfl, rfl⟩
set_option maxRecDepth 20000 in
theorem cal_X4_take : CalV 27 1 0 0 3 := ⟨⟨wG_t3 86 rfl rfl, wG_t1 4 (by decide +kernel) rfl, ⟨by decide, by decide⟩, ⟨rfl, rfl⟩, by decide, by decide +kernel⟩, rfl, wG_t3 84 (by decide +kernel) rfl, wG_t3 85 (by decide +kernel) rfl, _, rfl, rfl⟩
set_option maxRecDepth 20000 in
theorem cal_X4_changeBar : CalV 28 3 0 0 3 := ⟨⟨wG_t3 52 rfl rfl, wG_t1 4 (by decide +kernel) rfl, ⟨by decide, by decide⟩, ⟨rfl, rfl⟩, by decide, by decide +kernel⟩, rfl, wG_t3 50 (by decide +kernel) rfl, wG_t3 51 (by decide +kernel) rfl, _, rfl, rfl⟩
set_option maxRecDepth 20000 in
theorem cal_X4_layOut : CalV 29 0 0 0 3 := ⟨⟨wG_t1 109 rfl rfl, wG_t1 4 (by decide +kernel) rfl, ⟨by decide, by decide⟩, ⟨rfl, rfl⟩, by decide, by decide +kernel⟩, rfl, wG_t1 108 (by decide +kernel) rfl, wG_m 0 (by decide +kernel) rfl, _, rfl, rfl⟩
set_option maxRecDepth 20000 in
theorem cal_X4_addEntry : CalV 30 2 0 0 3 := ⟨⟨wG_t1 132 rfl rfl, wG_t1 4 (by decide +kernel) rfl, ⟨by decide, by decide⟩, ⟨rfl, rfl⟩, by decide, by decide +kernel⟩, rfl, wG_t1 131 (by decide +kernel) rfl, wG_m 1 (by decide +kernel) rfl, _, rfl, rfl⟩
set_option maxRecDepth 20000 in
theorem cal_X4_hasEntry : CalV 31 1 0 0 3 := ⟨⟨wG_t2 157 rfl rfl, wG_t1 4 (by decide +kernel) rfl, ⟨by decide, by decide⟩, ⟨rfl, rfl⟩, by decide, by decide +kernel⟩, rfl, wG_t2 155 (by decide +kernel) rfl, wG_t2 156 (by decide +kernel) rfl, _, rfl, rfl⟩
set_option maxRecDepth 20000 in
theorem cal_X4_isDown : CalV 32 1 0 0 3 := ⟨⟨wG_t3 135 rfl rfl, wG_t1 4 (by decide +kernel) rfl, ⟨by decide, by decide⟩, ⟨rfl, rfl⟩, by decide, by decide +kernel⟩, rfl, wG_t3 133 (by decide +kernel) rfl, wG_t3 134 (by decide +kernel) rfl, _, rfl, rfl⟩
set_option maxRecDepth 20000 in
theorem cal_X4_lengthOf : CalV 33 1 0 0 3 := ⟨⟨wG_t2 153 rfl rfl, wG_t1 4 (by decide +kernel) rfl, ⟨by decide, by decide⟩, ⟨rfl, rfl⟩, by decide, by decide +kernel⟩, rfl, wG_t2 151 (by decide +kernel) rfl, wG_t2 152 (by decide +kernel) rfl, _, rfl, rfl⟩
set_option maxRecDepth 20000 in
theorem cal_X4_cellOf : CalV 34 2 0 0 3 := ⟨⟨wG_t2 161 rfl rfl, wG_t1 4 (by decide +kernel) rfl, ⟨by decide, by decide⟩, ⟨rfl, rfl⟩, by decide, by decide +kernel⟩, rfl, wG_t2 159 (by decide +kernel) rfl, wG_t2 160 (by decide +kernel) rfl, _, rfl, rfl⟩
set_option maxRecDepth 20000 in
theorem cal_X4_indexIn : CalV 35 2 0 0 3 := ⟨⟨wG_t3 143 rfl rfl, wG_t1 4 (by decide +kernel) rfl, ⟨by decide, by decide⟩, ⟨rfl, rfl⟩, by decide, by decide +kernel⟩, rfl, wG_t3 141 (by decide +kernel) rfl, wG_t3 142 (by decide +kernel) rfl, _, rfl, rfl⟩
set_option maxRecDepth 20000 in
theorem cal_X4_entryAt : CalV 36 2 0 0 3 := ⟨⟨wG_t3 139 rfl rfl, wG_t1 4 (by decide +kernel) rfl, ⟨by decide, by decide⟩, ⟨rfl, rfl⟩, by decide, by decide +kernel⟩, rfl, wG_t3 137 (by decide +kernel) rfl, wG_t3 138 (by decide +kernel) rfl, _, rfl, rfl⟩
set_option maxRecDepth 20000 in
theorem cal_X4_clueAt : CalV 37 1 0 0 3 := ⟨⟨wG_t3 208 rfl rfl, wG_t1 4 (by decide +kernel) rfl, ⟨by decide, by decide⟩, ⟨rfl, rfl⟩, by decide, by decide +kernel⟩, rfl, wG_t3 206 (by decide +kernel) rfl, wG_t3 207 (by decide +kernel) rfl, _, rfl, rfl⟩
set_option maxRecDepth 20000 in
theorem cal_X4_entriesAt : CalV 38 1 0 0 3 := ⟨⟨wG_t2 41 rfl rfl, wG_t1 4 (by decide +kernel) rfl, ⟨by decide, by decide⟩, ⟨rfl, rfl⟩, by decide, by decide +kernel⟩, rfl, wG_t2 39 (by decide +kernel) rfl, wG_t2 40 (by decide +kernel) rfl, _, rfl, rfl⟩
set_option maxRecDepth 20000 in
theorem cal_X4_cellsInEntries : CalV 39 1 0 0 3 := ⟨⟨wG_t2 37 rfl rfl, wG_t1 4 (by decide +kernel) rfl, ⟨by decide, by decide⟩, ⟨rfl, rfl⟩, by decide, by decide +kernel⟩, rfl, wG_t2 35 (by decide +kernel) rfl, wG_t2 36 (by decide +kernel) rfl, _, rfl, rfl⟩
set_option maxRecDepth 20000 in
theorem cal_X4_uncheckedIn : CalV 40 1 0 0 3 := ⟨⟨wG_t2 149 rfl rfl, wG_t1 4 (by decide +kernel) rfl, ⟨by decide, by decide⟩, ⟨rfl, rfl⟩, by decide, by decide +kernel⟩, rfl, wG_t2 147 (by decide +kernel) rfl, wG_t2 148 (by decide +kernel) rfl, _, rfl, rfl⟩
set_option maxRecDepth 20000 in
theorem cal_X4_emptyIn : CalV 41 1 0 0 3 := ⟨⟨wG_t3 236 rfl rfl, wG_t1 4 (by decide +kernel) rfl, ⟨by decide, by decide⟩, ⟨rfl, rfl⟩, by decide, by decide +kernel⟩, rfl, wG_t3 234 (by decide +kernel) rfl, wG_t3 235 (by decide +kernel) rfl, _, rfl, rfl⟩
set_option maxRecDepth 20000 in
theorem cal_X4_fitsWord : CalV 42 2 0 0 3 := ⟨⟨wG_t3 106 rfl rfl, wG_t1 4 (by decide +kernel) rfl, ⟨by decide, by decide⟩, ⟨rfl, rfl⟩, by decide, by decide +kernel⟩, rfl, wG_t3 104 (by decide +kernel) rfl, wG_t3 105 (by decide +kernel) rfl, _, rfl, rfl⟩
set_option maxRecDepth 20000 in
theorem cal_X4_fitCount : CalV 43 1 0 0 3 := ⟨⟨wG_t4 10 rfl rfl, wG_t1 4 (by decide +kernel) rfl, ⟨by decide, by decide⟩, ⟨rfl, rfl⟩, by decide, by decide +kernel⟩, rfl, wG_t4 8 (by decide +kernel) rfl, wG_t4 9 (by decide +kernel) rfl, _, rfl, rfl⟩
set_option maxRecDepth 20000 in
theorem cal_X4_wordIn : CalV 44 1 0 0 3 := ⟨⟨wG_t4 0 rfl rfl, wG_t1 4 (by decide +kernel) rfl, ⟨by decide, by decide⟩, ⟨rfl, rfl⟩, by decide, by decide +kernel⟩, rfl, wG_t3 238 (by decide +kernel) rfl, wG_t3 239 (by decide +kernel) rfl, _, rfl, rfl⟩
set_option maxRecDepth 20000 in
theorem cal_X5_countKept : CalS 47 1 0 0 := ⟨⟨wG_t3 156 rfl rfl, wG_t1 17 (by decide +kernel) rfl, ⟨by decide, by decide⟩, ⟨rfl, rfl⟩, by decide, by decide +kernel⟩, rfl, wG_t3 155 (by decide +kernel) rfl⟩
set_option maxRecDepth 20000 in
theorem cal_X5_areKept : CalS 48 2 0 0 := ⟨⟨wG_t2 136 rfl rfl, wG_t1 17 (by decide +kernel) rfl, ⟨by decide, by decide⟩, ⟨rfl, rfl⟩, by decide, by decide +kernel⟩, rfl, wG_t2 135 (by decide +kernel) rfl⟩
set_option maxRecDepth 20000 in
theorem cal_X5_isSameTurned : CalS 49 1 0 0 := ⟨⟨wG_t2 139 rfl rfl, wG_t1 17 (by decide +kernel) rfl, ⟨by decide, by decide⟩, ⟨rfl, rfl⟩, by decide, by decide +kernel⟩, rfl, wG_t2 138 (by decide +kernel) rfl⟩
set_option maxRecDepth 20000 in
theorem cal_X5_isCheckedEnough : CalS 50 1 0 0 := ⟨⟨wG_t2 145 rfl rfl, wG_t1 17 (by decide +kernel) rfl, ⟨by decide, by decide⟩, ⟨rfl, rfl⟩, by decide, by decide +kernel⟩, rfl, wG_t2 144 (by decide +kernel) rfl⟩
set_option maxRecDepth 20000 in
theorem cal_X5_hasNoUncheckedPair : CalS 51 1 0 0 := ⟨⟨wG_t2 165 rfl rfl, wG_t1 17 (by decide +kernel) rfl, ⟨by decide, by decide⟩, ⟨rfl, rfl⟩, by decide, by decide +kernel⟩, rfl, wG_t2 164 (by decide +kernel) rfl⟩
set_option maxRecDepth 20000 in
theorem cal_X5_isConnected : CalS 52 1 0 0 := ⟨⟨wG_t2 170 rfl rfl, wG_t1 17 (by decide +kernel) rfl, ⟨by decide, by decide⟩, ⟨rfl, rfl⟩, by decide, by decide +kernel⟩, rfl, wG_t2 169 (by decide +kernel) rfl⟩
set_option maxRecDepth 20000 in
theorem cal_X5_spread : CalS 53 4 0 0 := ⟨⟨wG_t2 173 rfl rfl, wG_t1 17 (by decide +kernel) rfl, ⟨by decide, by decide⟩, ⟨rfl, rfl⟩, by decide, by decide +kernel⟩, rfl, wG_t2 172 (by decide +kernel) rfl⟩
set_option maxRecDepth 20000 in
theorem cal_X6_init : CalC 54 0 4 98 := ⟨⟨wG_t1 37 rfl rfl, wG_t1 3 (by decide +kernel) rfl, ⟨by decide, by decide⟩, ⟨rfl, rfl⟩, by decide, by decide +kernel⟩, rfl, rfl, wG_t1 36 (by decide +kernel) rfl, rfl⟩
set_option maxRecDepth 20000 in
theorem cal_X6_copyFrom : CalV 55 1 0 0 4 := ⟨⟨wG_t3 36 rfl rfl, wG_t1 3 (by decide +kernel) rfl, ⟨by decide, by decide⟩, ⟨rfl, rfl⟩, by decide, by decide +kernel⟩, rfl, wG_t3 34 (by decide +kernel) rfl, wG_t3 35 (by decide +kernel) rfl, _, rfl, rfl⟩
set_option maxRecDepth 20000 in
theorem cal_X6_begin : CalV 56 2 0 0 4 := ⟨⟨wG_t4 61 rfl rfl, wG_t1 3 (by decide +kernel) rfl, ⟨by decide, by decide⟩, ⟨rfl, rfl⟩, by decide, by decide +kernel⟩, rfl, wG_t4 59 (by decide +kernel) rfl, wG_t4 60 (by decide +kernel) rfl, _, rfl, rfl⟩
set_option maxRecDepth 20000 in
theorem cal_X6_cells : CalV 57 0 0 0 4 := ⟨⟨wG_t1 116 rfl rfl, wG_t1 3 (by decide +kernel) rfl, ⟨by decide, by decide⟩, ⟨rfl, rfl⟩, by decide, by decide +kernel⟩, rfl, wG_t1 114 (by decide +kernel) rfl, wG_t1 115 (by decide +kernel) rfl, _, rfl, rfl⟩
set_option maxRecDepth 20000 in
theorem cal_X6_hasCell : CalV 58 1 0 0 4 := ⟨⟨wG_t1 136 rfl rfl, wG_t1 3 (by decide +kernel) rfl, ⟨by decide, by decide⟩, ⟨rfl, rfl⟩, by decide, by decide +kernel⟩, rfl, wG_t1 134 (by decide +kernel) rfl, wG_t1 135 (by decide +kernel) rfl, _, rfl, rfl⟩
set_option maxRecDepth 20000 in
theorem cal_X6_columnOf : CalV 59 1 0 0 4 := ⟨⟨wG_t2 222 rfl rfl, wG_t1 3 (by decide +kernel) rfl, ⟨by decide, by decide⟩, ⟨rfl, rfl⟩, by decide, by decide +kernel⟩, rfl, wG_t2 220 (by decide +kernel) rfl, wG_t2 221 (by decide +kernel) rfl, _, rfl, rfl⟩
set_option maxRecDepth 20000 in
theorem cal_X6_rowOf : CalV 60 1 0 0 4 := ⟨⟨wG_t2 218 rfl rfl, wG_t1 3 (by decide +kernel) rfl, ⟨by decide, by decide⟩, ⟨rfl, rfl⟩, by decide, by decide +kernel⟩, rfl, wG_t2 216 (by decide +kernel) rfl, wG_t2 217 (by decide +kernel) rfl, _, rfl, rfl⟩
set_option maxRecDepth 20000 in
theorem cal_X6_letterAt : CalV 61 1 0 0 4 := ⟨⟨wG_t2 49 rfl rfl, wG_t1 3 (by decide +kernel) rfl, ⟨by decide, by decide⟩, ⟨rfl, rfl⟩, by decide, by decide +kernel⟩, rfl, wG_t2 47 (by decide +kernel) rfl, wG_t2 48 (by decide +kernel) rfl, _, rfl, rfl⟩
set_option maxRecDepth 20000 in
theorem cal_X6_setLetter : CalV 62 2 0 0 4 := ⟨⟨wG_t3 42 rfl rfl, wG_t1 3 (by decide +kernel) rfl, ⟨by decide, by decide⟩, ⟨rfl, rfl⟩, by decide, by decide +kernel⟩, rfl, wG_t3 40 (by decide +kernel) rfl, wG_t3 41 (by decide +kernel) rfl, _, rfl, rfl⟩
set_option maxRecDepth 20000 in
theorem cal_X6_emptyCells : CalV 63 0 0 0 4 := ⟨⟨wG_t2 45 rfl rfl, wG_t1 3 (by decide +kernel) rfl, ⟨by decide, by decide⟩, ⟨rfl, rfl⟩, by decide, by decide +kernel⟩, rfl, wG_t2 43 (by decide +kernel) rfl, wG_t2 44 (by decide +kernel) rfl, _, rfl, rfl⟩
set_option maxRecDepth 20000 in
theorem cal_X6_isPlace : CalV 64 2 0 0 4 := ⟨⟨wG_t1 124 rfl rfl, wG_t1 3 (by decide +kernel) rfl, ⟨by decide, by decide⟩, ⟨rfl, rfl⟩, by decide, by decide +kernel⟩, rfl, wG_t1 122 (by decide +kernel) rfl, wG_t1 123 (by decide +kernel) rfl, _, rfl, rfl⟩
set_option maxRecDepth 20000 in
theorem cal_X6_hasBar : CalV 65 2 0 0 4 := ⟨⟨wG_t1 128 rfl rfl, wG_t1 3 (by decide +kernel) rfl, ⟨by decide, by decide⟩, ⟨rfl, rfl⟩, by decide, by decide +kernel⟩, rfl, wG_t1 126 (by decide +kernel) rfl, wG_t1 127 (by decide +kernel) rfl, _, rfl, rfl⟩
set_option maxRecDepth 20000 in
theorem cal_X6_drawBar : CalV 66 3 0 0 4 := ⟨⟨wG_t3 57 rfl rfl, wG_t1 3 (by decide +kernel) rfl, ⟨by decide, by decide⟩, ⟨rfl, rfl⟩, by decide, by decide +kernel⟩, rfl, wG_t3 55 (by decide +kernel) rfl, wG_t3 56 (by decide +kernel) rfl, _, rfl, rfl⟩
set_option maxRecDepth 20000 in
theorem cal_X6_barCount : CalV 67 0 0 0 4 := ⟨⟨wG_t2 54 rfl rfl, wG_t1 3 (by decide +kernel) rfl, ⟨by decide, by decide⟩, ⟨rfl, rfl⟩, by decide, by decide +kernel⟩, rfl, wG_t2 52 (by decide +kernel) rfl, wG_t2 53 (by decide +kernel) rfl, _, rfl, rfl⟩
set_option maxRecDepth 20000 in
theorem cal_X6_isJoined : CalV 68 2 0 0 4 := ⟨⟨wG_t1 120 rfl rfl, wG_t1 3 (by decide +kernel) rfl, ⟨by decide, by decide⟩, ⟨rfl, rfl⟩, by decide, by decide +kernel⟩, rfl, wG_t1 118 (by decide +kernel) rfl, wG_t1 119 (by decide +kernel) rfl, _, rfl, rfl⟩
set_option maxRecDepth 20000 in
theorem cal_X6_hasWord : CalV 69 1 0 0 4 := ⟨⟨wG_t3 110 rfl rfl, wG_t1 3 (by decide +kernel) rfl, ⟨by decide, by decide⟩, ⟨rfl, rfl⟩, by decide, by decide +kernel⟩, rfl, wG_t3 108 (by decide +kernel) rfl, wG_t3 109 (by decide +kernel) rfl, _, rfl, rfl⟩
set_option maxRecDepth 20000 in
theorem cal_X6_lengthOfWord : CalV 70 1 0 0 4 := ⟨⟨wG_t3 114 rfl rfl, wG_t1 3 (by decide +kernel) rfl, ⟨by decide, by decide⟩, ⟨rfl, rfl⟩, by decide, by decide +kernel⟩, rfl, wG_t3 112 (by decide +kernel) rfl, wG_t3 113 (by decide +kernel) rfl, _, rfl, rfl⟩
set_option maxRecDepth 20000 in
theorem cal_X6_letterOfWord : CalV 71 2 0 0 4 := ⟨⟨wG_t3 120 rfl rfl, wG_t1 3 (by decide +kernel) rfl, ⟨by decide, by decide⟩, ⟨rfl, rfl⟩, by decide, by decide +kernel⟩, rfl, wG_t3 118 (by decide +kernel) rfl, wG_t3 119 (by decide +kernel) rfl, _, rfl, rfl⟩
set_option maxRecDepth 20000 in
theorem cal_X6_beginWord : CalV 72 0 0 0 4 := ⟨⟨wG_t4 87 rfl rfl, wG_t1 3 (by decide +kernel) rfl, ⟨by decide, by decide⟩, ⟨rfl, rfl⟩, by decide, by decide +kernel⟩, rfl, wG_t4 85 (by decide +kernel) rfl, wG_t4 86 (by decide +kernel) rfl, _, rfl, rfl⟩
set_option maxRecDepth 20000 in
theorem cal_X6_lengthenWord : CalV 73 1 0 0 4 := ⟨⟨wG_t4 91 rfl rfl, wG_t1 3 (by decide +kernel) rfl, ⟨by decide, by decide⟩, ⟨rfl, rfl⟩, by decide, by decide +kernel⟩, rfl, wG_t4 89 (by decide +kernel) rfl, wG_t4 90 (by decide +kernel) rfl, _, rfl, rfl⟩
set_option maxRecDepth 20000 in
theorem cal_X6_letterOfLine : CalV 74 1 0 0 4 := ⟨⟨wG_t2 199 rfl rfl, wG_t1 3 (by decide +kernel) rfl, ⟨by decide, by decide⟩, ⟨rfl, rfl⟩, by decide, by decide +kernel⟩, rfl, wG_t2 197 (by decide +kernel) rfl, wG_t2 198 (by decide +kernel) rfl, _, rfl, rfl⟩
set_option maxRecDepth 20000 in
theorem cal_X6_lengthenLine : CalV 75 1 0 0 4 := ⟨⟨wG_t4 99 rfl rfl, wG_t1 3 (by decide +kernel) rfl, ⟨by decide, by decide⟩, ⟨rfl, rfl⟩, by decide, by decide +kernel⟩, rfl, wG_t4 97 (by decide +kernel) rfl, wG_t4 98 (by decide +kernel) rfl, _, rfl, rfl⟩
set_option maxRecDepth 20000 in
theorem cal_X7_init : CalC 76 0 6 258 := ⟨⟨wG_t1 31 rfl rfl, wG_t1 2 (by decide +kernel) rfl, ⟨by decide, by decide⟩, ⟨rfl, rfl⟩, by decide, by decide +kernel⟩, rfl, rfl, wG_t1 30 (by decide +kernel) rfl, rfl⟩
set_option maxRecDepth 20000 in
theorem cal_X7_isFull : CalV 77 0 0 0 5 := ⟨⟨wG_t4 32 rfl rfl, wG_t1 2 (by decide +kernel) rfl, ⟨by decide, by decide⟩, ⟨rfl, rfl⟩, by decide, by decide +kernel⟩, rfl, wG_t4 30 (by decide +kernel) rfl, wG_t4 31 (by decide +kernel) rfl, _, rfl, rfl⟩
set_option maxRecDepth 20000 in
theorem cal_X7_add : CalV 78 1 0 0 5 := ⟨⟨wG_t4 37 rfl rfl, wG_t1 2 (by decide +kernel) rfl, ⟨by decide, by decide⟩, ⟨rfl, rfl⟩, by decide, by decide +kernel⟩, rfl, wG_t4 35 (by decide +kernel) rfl, wG_t4 36 (by decide +kernel) rfl, _, rfl, rfl⟩
set_option maxRecDepth 20000 in
theorem cal_X7_signAt : CalV 80 1 0 0 5 := ⟨⟨wG_t4 53 rfl rfl, wG_t1 2 (by decide +kernel) rfl, ⟨by decide, by decide⟩, ⟨rfl, rfl⟩, by decide, by decide +kernel⟩, rfl, wG_t4 51 (by decide +kernel) rfl, wG_t4 52 (by decide +kernel) rfl, _, rfl, rfl⟩
set_option maxRecDepth 20000 in
theorem cal_X7_readGrid : CalV 82 0 0 0 5 := ⟨⟨wG_t4 45 rfl rfl, wG_t1 2 (by decide +kernel) rfl, ⟨by decide, by decide⟩, ⟨rfl, rfl⟩, by decide, by decide +kernel⟩, rfl, wG_t4 43 (by decide +kernel) rfl, wG_t4 44 (by decide +kernel) rfl, _, rfl, rfl⟩
set_option maxRecDepth 20000 in
theorem cal_X7_goesPast : CalV 83 1 0 0 5 := ⟨⟨wG_t4 49 rfl rfl, wG_t1 2 (by decide +kernel) rfl, ⟨by decide, by decide⟩, ⟨rfl, rfl⟩, by decide, by decide +kernel⟩, rfl, wG_t4 48 (by decide +kernel) rfl, wG_m 13 (by decide +kernel) rfl, _, rfl, rfl⟩
set_option maxRecDepth 20000 in
theorem cal_X7_readSize : CalV 84 0 0 0 5 := ⟨⟨wG_t4 57 rfl rfl, wG_t1 2 (by decide +kernel) rfl, ⟨by decide, by decide⟩, ⟨rfl, rfl⟩, by decide, by decide +kernel⟩, rfl, wG_t4 56 (by decide +kernel) rfl, wG_m 14 (by decide +kernel) rfl, _, rfl, rfl⟩
set_option maxRecDepth 20000 in
theorem cal_X7_readCells : CalV 85 0 0 0 5 := ⟨⟨wG_t4 66 rfl rfl, wG_t1 2 (by decide +kernel) rfl, ⟨by decide, by decide⟩, ⟨rfl, rfl⟩, by decide, by decide +kernel⟩, rfl, wG_t4 65 (by decide +kernel) rfl, wG_m 15 (by decide +kernel) rfl, _, rfl, rfl⟩
set_option maxRecDepth 20000 in
theorem cal_X7_readBar : CalV 86 3 0 0 5 := ⟨⟨wG_t4 73 rfl rfl, wG_t1 2 (by decide +kernel) rfl, ⟨by decide, by decide⟩, ⟨rfl, rfl⟩, by decide, by decide +kernel⟩, rfl, wG_t4 72 (by decide +kernel) rfl, wG_m 16 (by decide +kernel) rfl, _, rfl, rfl⟩
set_option maxRecDepth 20000 in
theorem cal_X7_readParts : CalV 87 0 0 0 5 := ⟨⟨wG_t4 79 rfl rfl, wG_t1 2 (by decide +kernel) rfl, ⟨by decide, by decide⟩, ⟨rfl, rfl⟩, by decide, by decide +kernel⟩, rfl, wG_t4 78 (by decide +kernel) rfl, wG_m 17 (by decide +kernel) rfl, _, rfl, rfl⟩
set_option maxRecDepth 20000 in
theorem cal_X7_readWord : CalV 88 0 0 0 5 := ⟨⟨wG_t4 83 rfl rfl, wG_t1 2 (by decide +kernel) rfl, ⟨by decide, by decide⟩, ⟨rfl, rfl⟩, by decide, by decide +kernel⟩, rfl, wG_t4 82 (by decide +kernel) rfl, wG_m 18 (by decide +kernel) rfl, _, rfl, rfl⟩
set_option maxRecDepth 20000 in
theorem cal_X7_readLine : CalV 89 0 0 0 5 := ⟨⟨wG_t4 95 rfl rfl, wG_t1 2 (by decide +kernel) rfl, ⟨by decide, by decide⟩, ⟨rfl, rfl⟩, by decide, by decide +kernel⟩, rfl, wG_t4 94 (by decide +kernel) rfl, wG_m 19 (by decide +kernel) rfl, _, rfl, rfl⟩
set_option maxRecDepth 20000 in
theorem cal_X8_init : CalC 90 0 121 2720 := ⟨⟨wG_t1 23 rfl rfl, wG_t1 1 (by decide +kernel) rfl, ⟨by decide, by decide⟩, ⟨rfl, rfl⟩, by decide, by decide +kernel⟩, rfl, rfl, wG_t1 22 (by decide +kernel) rfl, rfl⟩
set_option maxRecDepth 20000 in
theorem cal_X8_append : CalV 91 1 1 6 6 := ⟨⟨wG_t4 27 rfl rfl, wG_t1 1 (by decide +kernel) rfl, ⟨by decide, by decide⟩, ⟨rfl, rfl⟩, by decide, by decide +kernel⟩, rfl, wG_t4 25 (by decide +kernel) rfl, wG_t4 26 (by decide +kernel) rfl, _, rfl, rfl⟩
set_option maxRecDepth 20000 in
theorem cal_X8_errorPosition : CalV 93 0 0 0 6 := ⟨⟨wG_t4 41 rfl rfl, wG_t1 1 (by decide +kernel) rfl, ⟨by decide, by decide⟩, ⟨rfl, rfl⟩, by decide, by decide +kernel⟩, rfl, wG_t4 39 (by decide +kernel) rfl, wG_t4 40 (by decide +kernel) rfl, _, rfl, rfl⟩
set_option maxRecDepth 20000 in
theorem cal_X8_load : CalV 94 0 1 6 6 := ⟨⟨wG_t4 103 rfl rfl, wG_t1 1 (by decide +kernel) rfl, ⟨by decide, by decide⟩, ⟨rfl, rfl⟩, by decide, by decide +kernel⟩, rfl, wG_t4 101 (by decide +kernel) rfl, wG_t4 102 (by decide +kernel) rfl, _, rfl, rfl⟩
set_option maxRecDepth 20000 in
theorem cal_X8_about : CalV 95 1 1 6 6 := ⟨⟨wG_t2 33 rfl rfl, wG_t1 1 (by decide +kernel) rfl, ⟨by decide, by decide⟩, ⟨rfl, rfl⟩, by decide, by decide +kernel⟩, rfl, wG_t2 31 (by decide +kernel) rfl, wG_t2 32 (by decide +kernel) rfl, _, rfl, rfl⟩
set_option maxRecDepth 20000 in
theorem cal_X8_cell : CalV 96 2 2 12 6 := ⟨⟨wG_t3 202 rfl rfl, wG_t1 1 (by decide +kernel) rfl, ⟨by decide, by decide⟩, ⟨rfl, rfl⟩, by decide, by decide +kernel⟩, rfl, wG_t3 200 (by decide +kernel) rfl, wG_t3 201 (by decide +kernel) rfl, _, rfl, rfl⟩
set_option maxRecDepth 20000 in
theorem cal_X8_entry : CalV 97 2 2 12 6 := ⟨⟨wG_t3 222 rfl rfl, wG_t1 1 (by decide +kernel) rfl, ⟨by decide, by decide⟩, ⟨rfl, rfl⟩, by decide, by decide +kernel⟩, rfl, wG_t3 220 (by decide +kernel) rfl, wG_t3 221 (by decide +kernel) rfl, _, rfl, rfl⟩
set_option maxRecDepth 20000 in
theorem cal_X8_fits : CalV 99 1 1 6 6 := ⟨⟨wG_t4 6 rfl rfl, wG_t1 1 (by decide +kernel) rfl, ⟨by decide, by decide⟩, ⟨rfl, rfl⟩, by decide, by decide +kernel⟩, rfl, wG_t4 4 (by decide +kernel) rfl, wG_t4 5 (by decide +kernel) rfl, _, rfl, rfl⟩
set_option maxRecDepth 20000 in
theorem cal_X8_rule : CalV 100 1 1 6 6 := ⟨⟨wG_t2 132 rfl rfl, wG_t1 1 (by decide +kernel) rfl, ⟨by decide, by decide⟩, ⟨rfl, rfl⟩, by decide, by decide +kernel⟩, rfl, wG_t2 130 (by decide +kernel) rfl, wG_t2 131 (by decide +kernel) rfl, _, rfl, rfl⟩
set_option maxRecDepth 20000 in
theorem cal_X8_readings : CalV 101 0 0 0 6 := ⟨⟨wG_t2 179 rfl rfl, wG_t1 1 (by decide +kernel) rfl, ⟨by decide, by decide⟩, ⟨rfl, rfl⟩, by decide, by decide +kernel⟩, rfl, wG_t2 177 (by decide +kernel) rfl, wG_t2 178 (by decide +kernel) rfl, _, rfl, rfl⟩
set_option maxRecDepth 20000 in
theorem cal_X8_reading : CalV 102 1 1 6 6 := ⟨⟨wG_t2 227 rfl rfl, wG_t1 1 (by decide +kernel) rfl, ⟨by decide, by decide⟩, ⟨rfl, rfl⟩, by decide, by decide +kernel⟩, rfl, wG_t2 225 (by decide +kernel) rfl, wG_t2 226 (by decide +kernel) rfl, _, rfl, rfl⟩
set_option maxRecDepth 20000 in
theorem cal_X8_put : CalV 103 2 2 12 6 := ⟨⟨wG_t2 236 rfl rfl, wG_t1 1 (by decide +kernel) rfl, ⟨by decide, by decide⟩, ⟨rfl, rfl⟩, by decide, by decide +kernel⟩, rfl, wG_t2 234 (by decide +kernel) rfl, wG_t2 235 (by decide +kernel) rfl, _, rfl, rfl⟩
set_option maxRecDepth 20000 in
theorem cal_X8_setBar : CalV 104 3 2 12 6 := ⟨⟨wG_t3 46 rfl rfl, wG_t1 1 (by decide +kernel) rfl, ⟨by decide, by decide⟩, ⟨rfl, rfl⟩, by decide, by decide +kernel⟩, rfl, wG_t3 44 (by decide +kernel) rfl, wG_t3 45 (by decide +kernel) rfl, _, rfl, rfl⟩
set_option maxRecDepth 20000 in
theorem cal_X8_undo : CalV 109 0 1 6 6 := ⟨⟨wG_t3 62 rfl rfl, wG_t1 1 (by decide +kernel) rfl, ⟨by decide, by decide⟩, ⟨rfl, rfl⟩, by decide, by decide +kernel⟩, rfl, wG_t3 60 (by decide +kernel) rfl, wG_t3 61 (by decide +kernel) rfl, _, rfl, rfl⟩
set_option maxRecDepth 20000 in
theorem cal_X8_possible : CalV 110 0 0 0 6 := ⟨⟨wG_t3 91 rfl rfl, wG_t1 1 (by decide +kernel) rfl, ⟨by decide, by decide⟩, ⟨rfl, rfl⟩, by decide, by decide +kernel⟩, rfl, wG_t3 89 (by decide +kernel) rfl, wG_t3 90 (by decide +kernel) rfl, _, rfl, rfl⟩
set_option maxRecDepth 20000 in
theorem cal_X8_fillings : CalV 111 0 0 0 6 := ⟨⟨wG_t3 95 rfl rfl, wG_t1 1 (by decide +kernel) rfl, ⟨by decide, by decide⟩, ⟨rfl, rfl⟩, by decide, by decide +kernel⟩, rfl, wG_t3 93 (by decide +kernel) rfl, wG_t3 94 (by decide +kernel) rfl, _, rfl, rfl⟩
set_option maxRecDepth 20000 in
theorem cal_X8_mend : CalV 112 0 0 0 6 := ⟨⟨wG_t3 153 rfl rfl, wG_t1 1 (by decide +kernel) rfl, ⟨by decide, by decide⟩, ⟨rfl, rfl⟩, by decide, by decide +kernel⟩, rfl, wG_t3 151 (by decide +kernel) rfl, wG_t3 152 (by decide +kernel) rfl, _, rfl, rfl⟩
set_option maxRecDepth 20000 in
theorem cal_X8_hardest : CalV 113 0 0 0 6 := ⟨⟨wG_t4 14 rfl rfl, wG_t1 1 (by decide +kernel) rfl, ⟨by decide, by decide⟩, ⟨rfl, rfl⟩, by decide, by decide +kernel⟩, rfl, wG_t4 12 (by decide +kernel) rfl, wG_t4 13 (by decide +kernel) rfl, _, rfl, rfl⟩
set_option maxRecDepth 20000 in
theorem cal_X8_requireCell : CalV 118 1 1 6 6 := ⟨⟨wG_t3 0 rfl rfl, wG_t1 1 (by decide +kernel) rfl, ⟨by decide, by decide⟩, ⟨rfl, rfl⟩, by decide, by decide +kernel⟩, rfl, wG_t2 239 (by decide +kernel) rfl, wG_m 7 (by decide +kernel) rfl, _, rfl, rfl⟩
set_option maxRecDepth 20000 in
theorem cal_X8_requireEntry : CalV 119 1 1 6 6 := ⟨⟨wG_t3 226 rfl rfl, wG_t1 1 (by decide +kernel) rfl, ⟨by decide, by decide⟩, ⟨rfl, rfl⟩, by decide, by decide +kernel⟩, rfl, wG_t3 225 (by decide +kernel) rfl, wG_m 12 (by decide +kernel) rfl, _, rfl, rfl⟩
set_option maxRecDepth 20000 in
theorem cal_X8_isLetter : CalS 122 1 0 0 := ⟨⟨wG_t3 20 rfl rfl, wG_t1 1 (by decide +kernel) rfl, ⟨by decide, by decide⟩, ⟨rfl, rfl⟩, by decide, by decide +kernel⟩, rfl, wG_t3 19 (by decide +kernel) rfl⟩
set_option maxRecDepth 20000 in
theorem cal_J13_bitCount_95d88 : CalS 205 1 0 0 := ⟨⟨wG_t2 57 rfl rfl, wG_t1 15 (by decide +kernel) rfl, ⟨by decide, by decide⟩, ⟨rfl, rfl⟩, by decide, by decide +kernel⟩, rfl, wG_t2 56 (by decide +kernel) rfl⟩
set_option maxRecDepth 20000 in
theorem cal_J9_floorMod_7cf53 : CalS 206 2 0 0 := ⟨⟨wG_t3 32 rfl rfl, wG_t1 18 (by decide +kernel) rfl, ⟨by decide, by decide⟩, ⟨rfl, rfl⟩, by decide, by decide +kernel⟩, rfl, wG_t3 31 (by decide +kernel) rfl⟩
set_option maxRecDepth 20000 in
theorem cal_J7_fill_53178 : CalS 207 2 0 0 := ⟨⟨wG_t1 112 rfl rfl, wG_t1 5 (by decide +kernel) rfl, ⟨by decide, by decide⟩, ⟨rfl, rfl⟩, by decide, by decide +kernel⟩, rfl, wG_t1 111 (by decide +kernel) rfl⟩
set_option maxRecDepth 20000 in
theorem cal_L_cell : CalS 230 2 0 0 := ⟨⟨wG_t3 162 rfl rfl, wG_t1 0 (by decide +kernel) rfl, ⟨by decide, by decide⟩, ⟨rfl, rfl⟩, by decide, by decide +kernel⟩, rfl, wG_t3 161 (by decide +kernel) rfl⟩
set_option maxRecDepth 20000 in
theorem cal_L_low : CalS 231 2 0 0 := ⟨⟨wG_t3 167 rfl rfl, wG_t1 0 (by decide +kernel) rfl, ⟨by decide, by decide⟩, ⟨rfl, rfl⟩, by decide, by decide +kernel⟩, rfl, wG_t3 166 (by decide +kernel) rfl⟩
set_option maxRecDepth 20000 in
theorem cal_L_first : CalS 232 3 0 0 := ⟨⟨wG_t3 180 rfl rfl, wG_t1 0 (by decide +kernel) rfl, ⟨by decide, by decide⟩, ⟨rfl, rfl⟩, by decide, by decide +kernel⟩, rfl, wG_t3 179 (by decide +kernel) rfl⟩
set_option maxRecDepth 20000 in
theorem cal_L_length : CalS 233 3 0 0 := ⟨⟨wG_t3 177 rfl rfl, wG_t1 0 (by decide +kernel) rfl, ⟨by decide, by decide⟩, ⟨rfl, rfl⟩, by decide, by decide +kernel⟩, rfl, wG_t3 176 (by decide +kernel) rfl⟩
set_option maxRecDepth 20000 in
theorem cal_L_starts : CalS 234 3 0 0 := ⟨⟨wG_t3 183 rfl rfl, wG_t1 0 (by decide +kernel) rfl, ⟨by decide, by decide⟩, ⟨rfl, rfl⟩, by decide, by decide +kernel⟩, rfl, wG_t3 182 (by decide +kernel) rfl⟩
set_option maxRecDepth 20000 in
theorem cal_L_in : CalS 235 2 0 0 := ⟨⟨wG_t3 174 rfl rfl, wG_t1 0 (by decide +kernel) rfl, ⟨by decide, by decide⟩, ⟨rfl, rfl⟩, by decide, by decide +kernel⟩, rfl, wG_t3 173 (by decide +kernel) rfl⟩
set_option maxRecDepth 20000 in
theorem cal_L_entry : CalS 236 3 0 0 := ⟨⟨wG_t3 212 rfl rfl, wG_t1 0 (by decide +kernel) rfl, ⟨by decide, by decide⟩, ⟨rfl, rfl⟩, by decide, by decide +kernel⟩, rfl, wG_t3 211 (by decide +kernel) rfl⟩
set_option maxRecDepth 20000 in
theorem cal_L_clue : CalS 237 2 0 0 := ⟨⟨wG_t3 215 rfl rfl, wG_t1 0 (by decide +kernel) rfl, ⟨by decide, by decide⟩, ⟨rfl, rfl⟩, by decide, by decide +kernel⟩, rfl, wG_t3 214 (by decide +kernel) rfl⟩
set_option maxRecDepth 20000 in
theorem cal_L_keeps : CalS 238 2 1 16 := ⟨⟨wG_t3 171 rfl rfl, wG_t1 0 (by decide +kernel) rfl, ⟨by decide, by decide⟩, ⟨rfl, rfl⟩, by decide, by decide +kernel⟩, rfl, wG_t3 170 (by decide +kernel) rfl⟩
set_option maxRecDepth 20000 in
theorem cal_L_kept : CalS 239 1 5 80 := ⟨⟨wG_t4 20 rfl rfl, wG_t1 0 (by decide +kernel) rfl, ⟨by decide, by decide⟩, ⟨rfl, rfl⟩, by decide, by decide +kernel⟩, rfl, wG_t4 19 (by decide +kernel) rfl⟩
set_option maxRecDepth 20000 in
theorem cal_L_knight : CalS 240 3 0 0 := ⟨⟨wG_t3 189 rfl rfl, wG_t1 0 (by decide +kernel) rfl, ⟨by decide, by decide⟩, ⟨rfl, rfl⟩, by decide, by decide +kernel⟩, rfl, wG_t3 188 (by decide +kernel) rfl⟩
set_option maxRecDepth 20000 in
theorem cal_L_readings : CalS 241 4 1 4 := ⟨⟨wG_t3 186 rfl rfl, wG_t1 0 (by decide +kernel) rfl, ⟨by decide, by decide⟩, ⟨rfl, rfl⟩, by decide, by decide +kernel⟩, rfl, wG_t3 185 (by decide +kernel) rfl⟩
set_option maxRecDepth 20000 in
theorem cal_L_fits : CalS 242 5 0 0 := ⟨⟨wG_t3 195 rfl rfl, wG_t1 0 (by decide +kernel) rfl, ⟨by decide, by decide⟩, ⟨rfl, rfl⟩, by decide, by decide +kernel⟩, rfl, wG_t3 194 (by decide +kernel) rfl⟩
set_option maxRecDepth 20000 in
theorem cal_L_fillings : CalS 243 3 4 84 := ⟨⟨wG_t3 192 rfl rfl, wG_t1 0 (by decide +kernel) rfl, ⟨by decide, by decide⟩, ⟨rfl, rfl⟩, by decide, by decide +kernel⟩, rfl, wG_t3 191 (by decide +kernel) rfl⟩
set_option maxRecDepth 20000 in
theorem cal_L_cells : CalS 244 2 240 1440 := ⟨⟨wG_t3 198 rfl rfl, wG_t1 0 (by decide +kernel) rfl, ⟨by decide, by decide⟩, ⟨rfl, rfl⟩, by decide, by decide +kernel⟩, rfl, wG_t3 197 (by decide +kernel) rfl⟩
set_option maxRecDepth 20000 in
theorem cal_L_entries : CalS 245 4 490 2940 := ⟨⟨wG_t3 218 rfl rfl, wG_t1 0 (by decide +kernel) rfl, ⟨by decide, by decide⟩, ⟨rfl, rfl⟩, by decide, by decide +kernel⟩, rfl, wG_t3 217 (by decide +kernel) rfl⟩
set_option maxRecDepth 20000 in
theorem cal_L_mend : CalS 246 1 325 5200 := ⟨⟨wG_t4 17 rfl rfl, wG_t1 0 (by decide +kernel) rfl, ⟨by decide, by decide⟩, ⟨rfl, rfl⟩, by decide, by decide +kernel⟩, rfl, wG_t4 16 (by decide +kernel) rfl⟩
set_option maxRecDepth 20000 in
theorem cal_L_typed : CalS 247 6 80 480 := ⟨⟨wG_t4 23 rfl rfl, wG_t1 0 (by decide +kernel) rfl, ⟨by decide, by decide⟩, ⟨rfl, rfl⟩, by decide, by decide +kernel⟩, rfl, wG_t4 22 (by decide +kernel) rfl⟩
