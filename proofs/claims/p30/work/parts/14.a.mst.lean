/-! ===== what is decided of every method ===== -/
theorem at_0 : ∀ w ∈ (vx_atS RX8 51 "java/lang/IllegalArgumentException" exNames).filter goodWord, w ∈ wG := fun w h => List.mem_filter.mpr ⟨(show ∀ w ∈ (vx_atS RX8 51 "java/lang/IllegalArgumentException" exNames).filter goodWord, w ∈ lw_tbl by decide +kernel) w h, (List.mem_filter.mp h).2⟩
theorem at_1 : ∀ w ∈ (vx_atS RX8 62 "java/lang/IllegalStateException" exNames).filter goodWord, w ∈ wG := fun w h => List.mem_filter.mpr ⟨(show ∀ w ∈ (vx_atS RX8 62 "java/lang/IllegalStateException" exNames).filter goodWord, w ∈ lw_tbl by decide +kernel) w h, (List.mem_filter.mp h).2⟩
theorem at_2 : ∀ w ∈ (vx_atS RX8 322 "java/lang/IndexOutOfBoundsException" exNames).filter goodWord, w ∈ wG := fun w h => List.mem_filter.mpr ⟨(show ∀ w ∈ (vx_atS RX8 322 "java/lang/IndexOutOfBoundsException" exNames).filter goodWord, w ∈ lw_tbl by decide +kernel) w h, (List.mem_filter.mp h).2⟩
theorem an_0 : ∀ w ∈ (vx_atS RX8 51 "java/lang/IllegalArgumentException" exNames).filter (fun w => !goodWord w), w ∈ Jvm.Cond.castable "java/lang/IllegalArgumentException" "java/lang/IllegalArgumentException" :: aDcl.map Jvm.Cond.declares := by decide +kernel
theorem an_1 : ∀ w ∈ (vx_atS RX8 62 "java/lang/IllegalStateException" exNames).filter (fun w => !goodWord w), w ∈ Jvm.Cond.castable "java/lang/IllegalStateException" "java/lang/IllegalStateException" :: aDcl.map Jvm.Cond.declares := by decide +kernel
theorem an_2 : ∀ w ∈ (vx_atS RX8 322 "java/lang/IndexOutOfBoundsException" exNames).filter (fun w => !goodWord w), w ∈ Jvm.Cond.castable "java/lang/IndexOutOfBoundsException" "java/lang/IndexOutOfBoundsException" :: aDcl.map Jvm.Cond.declares := by decide +kernel
theorem thr_ok {own : String} {cc : ByteArray} {t : List (Nat × String)} (h : ∀ q ∈ t, ThrOk own cc q.1 q.2) : ∀ pc X, lk t pc = some X → ThrOk own cc pc X := fun _ _ hx => lk_all (P := fun pc X => ThrOk own cc pc X) h hx
theorem mth_ok {own : String} {t : List (Nat × AMth)} (h : ∀ q ∈ t, MthOk own q.1 q.2) : ∀ x e, lk t x = some e → MthOk own x e := fun _ _ hx => lk_all (P := fun x e => MthOk own x e) h hx
theorem cls_ok {own : String} {t : List (Nat × Nat)} (h : ∀ r ∈ t, ∃ q, vwCl[r.2]? = some q ∧ Jvm.Cond.classLink own r.1 q.1 ∈ wG ∧ Jvm.Cond.instantiable q.1 q.2.2 ∈ wG ∧ Jvm.Cond.initialized q.1 ∈ wG) : ∀ x ci, lk t x = some ci → ∃ q, vwCl[ci]? = some q ∧ Jvm.Cond.classLink own x q.1 ∈ wG ∧ Jvm.Cond.instantiable q.1 q.2.2 ∈ wG ∧ Jvm.Cond.initialized q.1 ∈ wG := fun _ _ hx => lk_all (P := fun x ci => ∃ q, vwCl[ci]? = some q ∧ Jvm.Cond.classLink own x q.1 ∈ wG ∧ Jvm.Cond.instantiable q.1 q.2.2 ∈ wG ∧ Jvm.Cond.initialized q.1 ∈ wG) h hx
theorem c32_ok {own : String} {cd : List (Nat × ARow)} {t : List (Nat × Int64)} (h : ∀ q ∈ t, (∃ w : Int32, q.2.toInt = w.toInt ∧ Jvm.Cond.constant own q.1 w ∈ wG) ∨ cd.all (fun r => decide (r.2.1 ≠ .ldc q.1)) = true) : ∀ pc x nx tg v, lk cd pc = some (.ldc x, nx, tg) → lk t x = some v → ∃ w : Int32, v.toInt = w.toInt ∧ Jvm.Cond.constant own x w ∈ wG := by
  intro pc x nx tg v hc hx
  rcases h _ (lk_mem _ hx) with h1 | h1
  · exact h1
  · have := List.all_eq_true.mp h1 _ (lk_mem _ hc)
    simp at this
theorem c64_ok {own : String} {cd : List (Nat × ARow)} {t : List (Nat × Int64)} (h : ∀ q ∈ t, Jvm.Cond.constantLong own q.1 q.2 ∈ wG ∨ cd.all (fun r => decide (r.2.1 ≠ .ldc2_w q.1)) = true) : ∀ pc x nx tg v, lk cd pc = some (.ldc2_w x, nx, tg) → lk t x = some v → Jvm.Cond.constantLong own x v ∈ wG := by
  intro pc x nx tg v hc hx
  rcases h _ (lk_mem _ hx) with h1 | h1
  · exact h1
  · have := List.all_eq_true.mp h1 _ (lk_mem _ hc)
    simp at this
def anB (cd : List (Nat × ARow)) (x0 : Nat) : Bool := cd.all (fun r => match r.2.1 with
  | .anewarray x => decide (x = x0)
  | _ => true)
theorem an_ok {own : String} {cd : List (Nat × ARow)} (x0 : Nat) (h : anB cd x0 = true) (hw : x0 ≠ 0 → Jvm.Cond.classLink own x0 RX6 ∈ wG) (h0 : x0 = 0 → cd.all (fun r => decide (r.2.1 ≠ .anewarray 0)) = true) : ∀ pc x nx tg, lk cd pc = some (.anewarray x, nx, tg) → Jvm.Cond.classLink own x RX6 ∈ wG := by
  intro pc x nx tg hc
  have h1 := List.all_eq_true.mp h _ (lk_mem _ hc)
  have h1 : x = x0 := of_decide_eq_true h1
  subst h1
  by_cases hz : x = 0
  · have := List.all_eq_true.mp (h0 hz) _ (lk_mem _ hc)
    subst hz
    simp at this
  · exact hw hz
theorem rows_cut {f : Nat × ARow → Bool} {l : List (Nat × ARow)} {a : Nat} (h1 : ((l.drop a).take 50).all f = true) (h2 : (l.drop (a + 50)).all f = true) : (l.drop a).all f = true := by
  rw [← List.take_append_drop 50 (l.drop a), List.all_append, h1, List.drop_drop, h2]
  rfl
theorem rows_nil {f : Nat × ARow → Bool} {l : List (Nat × ARow)} {a : Nat} (h : decide (l.length ≤ a) = true) : (l.drop a).all f = true := by
  rw [List.drop_eq_nil_of_le (of_decide_eq_true h)]
  rfl
theorem rows_0 {f : Nat × ARow → Bool} {l : List (Nat × ARow)} (h : (l.drop 0).all f = true) : l.all f = true := h
theorem hnd_0 {own : String} {cc : ByteArray} {nL : Nat} : ∀ (i : Nat) a b, ([] : List (Nat × Nat × Nat × Nat × String))[i]? = some a → ([] : List (Nat × Nat × Nat × Nat))[i]? = some b → HndOk own cc nL a b := fun i a b h _ => by simp at h
theorem hnd_1 {own : String} {cc : ByteArray} {nL : Nat} {x : Nat × Nat × Nat × Nat × String} {y : Nat × Nat × Nat × Nat} (h : HndOk own cc nL x y) : ∀ (i : Nat) a b, [x][i]? = some a → [y][i]? = some b → HndOk own cc nL a b := by
  intro i a b h1 h2
  match i with
  | 0 =>
    simp at h1 h2
    subst h1; subst h2
    exact h
  | i + 1 => simp at h1
theorem hnd_2 {own : String} {cc : ByteArray} {nL : Nat} {x x' : Nat × Nat × Nat × Nat × String} {y y' : Nat × Nat × Nat × Nat} (h : HndOk own cc nL x y) (h' : HndOk own cc nL x' y') : ∀ (i : Nat) a b, [x, x'][i]? = some a → [y, y'][i]? = some b → HndOk own cc nL a b := by
  intro i a b h1 h2
  match i with
  | 0 =>
    simp at h1 h2
    subst h1; subst h2
    exact h
  | 1 =>
    simp at h1 h2
    subst h1; subst h2
    exact h'
  | i + 2 => simp at h1
set_option maxRecDepth 20000 in
theorem mr_X1_init : rowsC RX1 cX1_init 1 "<init>" mi_X1_init = true := by decide +kernel
set_option maxRecDepth 20000 in
theorem mo_X1_init : MOk RX1 cX1_init 1 "<init>" mi_X1_init [] := ⟨(rows_ok mr_X1_init).1, fld_ok (wG_of [258, 259, 260, 261] (by decide +kernel) (by decide +kernel)) (by decide +kernel), mth_ok (List.forall_mem_cons.mpr ⟨⟨wG_t1 237 (by decide +kernel) rfl, wG_t1 25 (by decide +kernel) rfl, wG_t1 26 rfl rfl⟩, List.forall_mem_nil _⟩), thr_ok (by intro q h; cases h), cls_ok (by intro q h; cases h), c32_ok (by intro q h; cases h), c64_ok (by intro q h; cases h), an_ok 0 (by decide +kernel) (fun h => absurd rfl h) (fun _ => by decide +kernel), (rows_ok mr_X1_init).2, rfl, hnd_0⟩
set_option maxRecDepth 20000 in
theorem ms_X1_init : MStat 4 := ⟨mo_X1_init, by decide +kernel, ret_ok (by decide +kernel)⟩
set_option maxRecDepth 20000 in
theorem mr_X1_count : rowsC RX1 cX1_count 3 "count" mi_X1_count = true := by decide +kernel
set_option maxRecDepth 20000 in
theorem mo_X1_count : MOk RX1 cX1_count 3 "count" mi_X1_count [] := ⟨(rows_ok mr_X1_count).1, fld_ok (wG_of [258, 259, 260, 163, 158, 68] (by decide +kernel) (by decide +kernel)) (by decide +kernel), mth_ok (List.forall_mem_cons.mpr ⟨m_1 cal_X1_wordsThatFit (wG_t3 100 (by decide +kernel) rfl), List.forall_mem_cons.mpr ⟨m_0 cal_X1_giveFrom (wG_t3 122 (by decide +kernel) rfl), List.forall_mem_nil _⟩⟩), thr_ok (by intro q h; cases h), cls_ok (by intro q h; cases h), c32_ok (by intro q h; cases h), c64_ok (by intro q h; cases h), an_ok 0 (by decide +kernel) (fun h => absurd rfl h) (fun _ => by decide +kernel), (rows_ok mr_X1_count).2, rfl, hnd_0⟩
set_option maxRecDepth 20000 in
theorem ms_X1_count : MStat 5 := ⟨mo_X1_count, by decide +kernel, ret_ok (by decide +kernel)⟩
set_option maxRecDepth 20000 in
theorem mr_X1_wordsThatFit : rowsC RX1 cX1_wordsThatFit 4 "wordsThatFit" mi_X1_wordsThatFit = true := by decide +kernel
set_option maxRecDepth 20000 in
theorem mo_X1_wordsThatFit : MOk RX1 cX1_wordsThatFit 4 "wordsThatFit" mi_X1_wordsThatFit [] := ⟨(rows_ok mr_X1_wordsThatFit).1, fld_ok (wG_of [158, 68] (by decide +kernel) (by decide +kernel)) (by decide +kernel), mth_ok (List.forall_mem_cons.mpr ⟨m_0 cal_X4_fitsWord (wG_t3 103 (by decide +kernel) rfl), List.forall_mem_nil _⟩), thr_ok (by intro q h; cases h), cls_ok (by intro q h; cases h), c32_ok (by intro q h; cases h), c64_ok (by intro q h; cases h), an_ok 0 (by decide +kernel) (fun h => absurd rfl h) (fun _ => by decide +kernel), (rows_ok mr_X1_wordsThatFit).2, rfl, hnd_0⟩
set_option maxRecDepth 20000 in
theorem ms_X1_wordsThatFit : MStat 6 := ⟨mo_X1_wordsThatFit, by decide +kernel, ret_ok (by decide +kernel)⟩
set_option maxRecDepth 20000 in
theorem mr_X1_giveFrom : rowsC RX1 cX1_giveFrom 5 "giveFrom" mi_X1_giveFrom = true := by decide +kernel
set_option maxRecDepth 20000 in
theorem mo_X1_giveFrom : MOk RX1 cX1_giveFrom 5 "giveFrom" mi_X1_giveFrom [] := ⟨(rows_ok mr_X1_giveFrom).1, fld_ok (wG_of [258, 259, 260, 163, 158, 68] (by decide +kernel) (by decide +kernel)) (by decide +kernel), mth_ok (List.forall_mem_cons.mpr ⟨m_0 cal_X1_agrees (wG_t3 126 (by decide +kernel) rfl), List.forall_mem_cons.mpr ⟨m_0 cal_X1_give (wG_t3 146 (by decide +kernel) rfl), List.forall_mem_nil _⟩⟩), thr_ok (by intro q h; cases h), cls_ok (by intro q h; cases h), c32_ok (by intro q h; cases h), c64_ok (by intro q h; cases h), an_ok 0 (by decide +kernel) (fun h => absurd rfl h) (fun _ => by decide +kernel), (rows_ok mr_X1_giveFrom).2, rfl, hnd_0⟩
set_option maxRecDepth 20000 in
theorem ms_X1_giveFrom : MStat 7 := ⟨mo_X1_giveFrom, by decide +kernel, ret_ok (by decide +kernel)⟩
set_option maxRecDepth 20000 in
theorem mr_X1_give : rowsC RX1 cX1_give 4 "give" mi_X1_give = true := by decide +kernel
set_option maxRecDepth 20000 in
theorem mo_X1_give : MOk RX1 cX1_give 4 "give" mi_X1_give [] := ⟨(rows_ok mr_X1_give).1, fld_ok (wG_of [259, 261] (by decide +kernel) (by decide +kernel)) (by decide +kernel), mth_ok (List.forall_mem_cons.mpr ⟨m_0 cal_X1_giveFrom (wG_t3 122 (by decide +kernel) rfl), List.forall_mem_nil _⟩), thr_ok (by intro q h; cases h), cls_ok (by intro q h; cases h), c32_ok (by intro q h; cases h), c64_ok (by intro q h; cases h), an_ok 0 (by decide +kernel) (fun h => absurd rfl h) (fun _ => by decide +kernel), (rows_ok mr_X1_give).2, rfl, hnd_0⟩
set_option maxRecDepth 20000 in
theorem ms_X1_give : MStat 8 := ⟨mo_X1_give, by decide +kernel, ret_ok (by decide +kernel)⟩
set_option maxRecDepth 20000 in
theorem mr_X1_agrees : rowsC RX1 cX1_agrees 8 "agrees" mi_X1_agrees = true := by decide +kernel
set_option maxRecDepth 20000 in
theorem mo_X1_agrees : MOk RX1 cX1_agrees 8 "agrees" mi_X1_agrees [] := ⟨(rows_ok mr_X1_agrees).1, fld_ok (wG_of [261, 158] (by decide +kernel) (by decide +kernel)) (by decide +kernel), mth_ok (List.forall_mem_cons.mpr ⟨m_0 cal_X4_lengthOf (wG_t3 130 (by decide +kernel) rfl), List.forall_mem_cons.mpr ⟨m_0 cal_X4_cellOf (wG_t3 131 (by decide +kernel) rfl), List.forall_mem_cons.mpr ⟨m_0 cal_X4_isDown (wG_t3 132 (by decide +kernel) rfl), List.forall_mem_cons.mpr ⟨m_0 cal_X4_entryAt (wG_t3 136 (by decide +kernel) rfl), List.forall_mem_cons.mpr ⟨m_0 cal_X4_indexIn (wG_t3 140 (by decide +kernel) rfl), List.forall_mem_cons.mpr ⟨m_0 cal_X6_letterOfWord (wG_t3 145 (by decide +kernel) rfl), List.forall_mem_nil _⟩⟩⟩⟩⟩⟩), thr_ok (by intro q h; cases h), cls_ok (by intro q h; cases h), c32_ok (by intro q h; cases h), c64_ok (by intro q h; cases h), an_ok 0 (by decide +kernel) (fun h => absurd rfl h) (fun _ => by decide +kernel), (rows_ok mr_X1_agrees).2, rfl, hnd_0⟩
set_option maxRecDepth 20000 in
theorem ms_X1_agrees : MStat 9 := ⟨mo_X1_agrees, by decide +kernel, ret_ok (by decide +kernel)⟩
set_option maxRecDepth 20000 in
theorem mr_X2_init : rowsC RX2 cX2_init 1 "<init>" mi_X2_init = true := by decide +kernel
set_option maxRecDepth 20000 in
theorem mo_X2_init : MOk RX2 cX2_init 1 "<init>" mi_X2_init [] := ⟨(rows_ok mr_X2_init).1, fld_ok (wG_of [230, 231, 232, 233, 234, 235, 236] (by decide +kernel) (by decide +kernel)) (by decide +kernel), mth_ok (List.forall_mem_cons.mpr ⟨⟨wG_t1 209 (by decide +kernel) rfl, wG_t1 25 (by decide +kernel) rfl, wG_t1 26 rfl rfl⟩, List.forall_mem_nil _⟩), thr_ok (by intro q h; cases h), cls_ok (by intro q h; cases h), c32_ok (by intro q h; cases h), c64_ok (by intro q h; cases h), an_ok 0 (by decide +kernel) (fun h => absurd rfl h) (fun _ => by decide +kernel), (rows_ok mr_X2_init).2, rfl, hnd_0⟩
set_option maxRecDepth 20000 in
theorem ms_X2_init : MStat 10 := ⟨mo_X2_init, by decide +kernel, ret_ok (by decide +kernel)⟩
set_option maxRecDepth 20000 in
theorem mr_X2_count : rowsC RX2 cX2_count 5 "count" mi_X2_count = true := by decide +kernel
set_option maxRecDepth 20000 in
theorem mo_X2_count : MOk RX2 cX2_count 5 "count" mi_X2_count [] := ⟨(rows_ok mr_X2_count).1, fld_ok (wG_of [230, 231, 232, 233, 234, 159] (by decide +kernel) (by decide +kernel)) (by decide +kernel), mth_ok (List.forall_mem_cons.mpr ⟨m_0 cal_X6_cells (wG_t2 185 (by decide +kernel) rfl), List.forall_mem_cons.mpr ⟨m_0 cal_X2_visit (wG_t2 186 (by decide +kernel) rfl), List.forall_mem_nil _⟩⟩), thr_ok (by intro q h; cases h), cls_ok (by intro q h; cases h), c32_ok (by intro q h; cases h), c64_ok (by intro q h; cases h), an_ok 0 (by decide +kernel) (fun h => absurd rfl h) (fun _ => by decide +kernel), (rows_ok mr_X2_count).2, rfl, hnd_0⟩
set_option maxRecDepth 20000 in
theorem ms_X2_count : MStat 11 := ⟨mo_X2_count, by decide +kernel, ret_ok (by decide +kernel)⟩
set_option maxRecDepth 20000 in
theorem mr_X2_cellOfFirst : rowsC RX2 cX2_cellOfFirst 2 "cellOfFirst" mi_X2_cellOfFirst = true := by decide +kernel
set_option maxRecDepth 20000 in
theorem mo_X2_cellOfFirst : MOk RX2 cX2_cellOfFirst 2 "cellOfFirst" mi_X2_cellOfFirst [] := ⟨(rows_ok mr_X2_cellOfFirst).1, fld_ok (wG_of [233, 236] (by decide +kernel) (by decide +kernel)) (by decide +kernel), mth_ok (by intro q h; cases h), thr_ok (by intro q h; cases h), cls_ok (by intro q h; cases h), c32_ok (by intro q h; cases h), c64_ok (by intro q h; cases h), an_ok 0 (by decide +kernel) (fun h => absurd rfl h) (fun _ => by decide +kernel), (rows_ok mr_X2_cellOfFirst).2, rfl, hnd_0⟩
set_option maxRecDepth 20000 in
theorem ms_X2_cellOfFirst : MStat 12 := ⟨mo_X2_cellOfFirst, by decide +kernel, ret_ok (by decide +kernel)⟩
set_option maxRecDepth 20000 in
theorem mr_X2_visit : rowsC RX2 cX2_visit 5 "visit" mi_X2_visit = true := by decide +kernel
set_option maxRecDepth 20000 in
theorem mo_X2_visit : MOk RX2 cX2_visit 5 "visit" mi_X2_visit [] := ⟨(rows_ok mr_X2_visit).1, fld_ok (wG_of [231, 232, 234, 235, 159, 73] (by decide +kernel) (by decide +kernel)) (by decide +kernel), mth_ok (List.forall_mem_cons.mpr ⟨m_0 cal_X2_isAllowed (wG_t2 190 (by decide +kernel) rfl), List.forall_mem_cons.mpr ⟨m_0 cal_X2_keepPath (wG_t2 200 (by decide +kernel) rfl), List.forall_mem_cons.mpr ⟨m_0 cal_X2_visitBehind (wG_t2 207 (by decide +kernel) rfl), List.forall_mem_nil _⟩⟩⟩), thr_ok (by intro q h; cases h), cls_ok (by intro q h; cases h), c32_ok (List.forall_mem_cons.mpr ⟨Or.inr (by decide +kernel), List.forall_mem_nil _⟩), c64_ok (List.forall_mem_cons.mpr ⟨Or.inl (wG_t2 223 (by decide +kernel) rfl), List.forall_mem_nil _⟩), an_ok 0 (by decide +kernel) (fun h => absurd rfl h) (fun _ => by decide +kernel), (rows_ok mr_X2_visit).2, rfl, hnd_0⟩
set_option maxRecDepth 20000 in
theorem ms_X2_visit : MStat 13 := ⟨mo_X2_visit, by decide +kernel, ret_ok (by decide +kernel)⟩
set_option maxRecDepth 20000 in
theorem mr_X2_visitBehind : rowsC RX2 cX2_visitBehind 8 "visitBehind" mi_X2_visitBehind = true := by decide +kernel
set_option maxRecDepth 20000 in
theorem mo_X2_visitBehind : MOk RX2 cX2_visitBehind 8 "visitBehind" mi_X2_visitBehind [] := ⟨(rows_ok mr_X2_visitBehind).1, fld_ok (wG_of [159, 60, 65] (by decide +kernel) (by decide +kernel)) (by decide +kernel), mth_ok (List.forall_mem_cons.mpr ⟨m_0 cal_X2_visit (wG_t2 186 (by decide +kernel) rfl), List.forall_mem_cons.mpr ⟨m_0 cal_X6_rowOf (wG_t2 215 (by decide +kernel) rfl), List.forall_mem_cons.mpr ⟨m_0 cal_X6_columnOf (wG_t2 219 (by decide +kernel) rfl), List.forall_mem_nil _⟩⟩⟩), thr_ok (by intro q h; cases h), cls_ok (by intro q h; cases h), c32_ok (by intro q h; cases h), c64_ok (by intro q h; cases h), an_ok 0 (by decide +kernel) (fun h => absurd rfl h) (fun _ => by decide +kernel), (rows_ok mr_X2_visitBehind).2, rfl, hnd_0⟩
set_option maxRecDepth 20000 in
theorem ms_X2_visitBehind : MStat 14 := ⟨mo_X2_visitBehind, by decide +kernel, ret_ok (by decide +kernel)⟩
set_option maxRecDepth 20000 in
theorem mr_X2_isAllowed : rowsC RX2 cX2_isAllowed 5 "isAllowed" mi_X2_isAllowed = true := by decide +kernel
set_option maxRecDepth 20000 in
theorem mo_X2_isAllowed : MOk RX2 cX2_isAllowed 5 "isAllowed" mi_X2_isAllowed [] := ⟨(rows_ok mr_X2_isAllowed).1, fld_ok (wG_of [230, 234, 159] (by decide +kernel) (by decide +kernel)) (by decide +kernel), mth_ok (List.forall_mem_cons.mpr ⟨m_0 cal_X4_entriesAt (wG_t2 194 (by decide +kernel) rfl), List.forall_mem_cons.mpr ⟨m_0 cal_X6_letterAt (wG_t2 195 (by decide +kernel) rfl), List.forall_mem_cons.mpr ⟨m_0 cal_X6_letterOfLine (wG_t2 196 (by decide +kernel) rfl), List.forall_mem_nil _⟩⟩⟩), thr_ok (by intro q h; cases h), cls_ok (by intro q h; cases h), c32_ok (by intro q h; cases h), c64_ok (by intro q h; cases h), an_ok 0 (by decide +kernel) (fun h => absurd rfl h) (fun _ => by decide +kernel), (rows_ok mr_X2_isAllowed).2, rfl, hnd_0⟩
set_option maxRecDepth 20000 in
theorem ms_X2_isAllowed : MStat 15 := ⟨mo_X2_isAllowed, by decide +kernel, ret_ok (by decide +kernel)⟩
set_option maxRecDepth 20000 in
theorem mr_X2_keepPath : rowsC RX2 cX2_keepPath 2 "keepPath" mi_X2_keepPath = true := by decide +kernel
set_option maxRecDepth 20000 in
theorem mo_X2_keepPath : MOk RX2 cX2_keepPath 2 "keepPath" mi_X2_keepPath [] := ⟨(rows_ok mr_X2_keepPath).1, fld_ok (wG_of [232, 233, 235, 236] (by decide +kernel) (by decide +kernel)) (by decide +kernel), mth_ok (List.forall_mem_cons.mpr ⟨⟨wG_t2 204 (by decide +kernel) rfl, wG_t2 206 (by decide +kernel) rfl, wG_t2 205 (by decide +kernel) rfl, wG_t1 14 (by decide +kernel) rfl⟩, List.forall_mem_nil _⟩), thr_ok (by intro q h; cases h), cls_ok (by intro q h; cases h), c32_ok (by intro q h; cases h), c64_ok (by intro q h; cases h), an_ok 0 (by decide +kernel) (fun h => absurd rfl h) (fun _ => by decide +kernel), (rows_ok mr_X2_keepPath).2, rfl, hnd_0⟩
set_option maxRecDepth 20000 in
theorem ms_X2_keepPath : MStat 16 := ⟨mo_X2_keepPath, by decide +kernel, ret_ok (by decide +kernel)⟩
set_option maxRecDepth 20000 in
theorem mr_X3_init : rowsC RX3 cX3_init 2 "<init>" mi_X3_init = true := by decide +kernel
set_option maxRecDepth 20000 in
theorem mo_X3_init : MOk RX3 cX3_init 2 "<init>" mi_X3_init [] := ⟨(rows_ok mr_X3_init).1, fld_ok (wG_of [207, 209, 210, 211, 212] (by decide +kernel) (by decide +kernel)) (by decide +kernel), mth_ok (List.forall_mem_cons.mpr ⟨⟨wG_t1 183 (by decide +kernel) rfl, wG_t1 25 (by decide +kernel) rfl, wG_t1 26 rfl rfl⟩, List.forall_mem_cons.mpr ⟨m_4 cal_X6_init (by decide +kernel), List.forall_mem_nil _⟩⟩), thr_ok (by intro q h; cases h), cls_ok (List.forall_mem_cons.mpr ⟨⟨_, rfl, wG_t1 184 (by decide +kernel) rfl, wG_t1 34 (by decide +kernel) rfl, wG_t1 3 (by decide +kernel) rfl⟩, List.forall_mem_nil _⟩), c32_ok (by intro q h; cases h), c64_ok (by intro q h; cases h), an_ok 18 (by decide +kernel) (fun _ => wG_t1 184 (by decide +kernel) rfl) (fun h => by cases h), (rows_ok mr_X3_init).2, rfl, hnd_0⟩
set_option maxRecDepth 20000 in
theorem ms_X3_init : MStat 17 := ⟨mo_X3_init, by decide +kernel, ret_ok (by decide +kernel)⟩
set_option maxRecDepth 20000 in
theorem mr_X3_remember : rowsC RX3 cX3_remember 2 "remember" mi_X3_remember = true := by decide +kernel
set_option maxRecDepth 20000 in
theorem mo_X3_remember : MOk RX3 cX3_remember 2 "remember" mi_X3_remember [] := ⟨(rows_ok mr_X3_remember).1, fld_ok (wG_of [207, 209] (by decide +kernel) (by decide +kernel)) (by decide +kernel), mth_ok (List.forall_mem_cons.mpr ⟨m_0 cal_X3_at (wG_t3 26 (by decide +kernel) rfl), List.forall_mem_cons.mpr ⟨m_0 cal_X6_copyFrom (wG_t3 33 (by decide +kernel) rfl), List.forall_mem_nil _⟩⟩), thr_ok (by intro q h; cases h), cls_ok (by intro q h; cases h), c32_ok (by intro q h; cases h), c64_ok (by intro q h; cases h), an_ok 0 (by decide +kernel) (fun h => absurd rfl h) (fun _ => by decide +kernel), (rows_ok mr_X3_remember).2, rfl, hnd_0⟩
set_option maxRecDepth 20000 in
theorem ms_X3_remember : MStat 18 := ⟨mo_X3_remember, by decide +kernel, ret_ok (by decide +kernel)⟩
set_option maxRecDepth 20000 in
theorem mr_X3_takeLast : rowsC RX3 cX3_takeLast 1 "takeLast" mi_X3_takeLast = true := by decide +kernel
set_option maxRecDepth 20000 in
theorem mo_X3_takeLast : MOk RX3 cX3_takeLast 1 "takeLast" mi_X3_takeLast [] := ⟨(rows_ok mr_X3_takeLast).1, fld_ok (wG_of [207] (by decide +kernel) (by decide +kernel)) (by decide +kernel), mth_ok (List.forall_mem_cons.mpr ⟨m_0 cal_X3_at (wG_t3 26 (by decide +kernel) rfl), List.forall_mem_nil _⟩), thr_ok (by intro q h; cases h), cls_ok (by intro q h; cases h), c32_ok (by intro q h; cases h), c64_ok (by intro q h; cases h), an_ok 0 (by decide +kernel) (fun h => absurd rfl h) (fun _ => by decide +kernel), (rows_ok mr_X3_takeLast).2, rfl, hnd_0⟩
set_option maxRecDepth 20000 in
theorem ms_X3_takeLast : MStat 19 := ⟨mo_X3_takeLast, by decide +kernel, ret_ok (by decide +kernel)⟩
set_option maxRecDepth 20000 in
theorem mr_X3_forgetActions : rowsC RX3 cX3_forgetActions 1 "forgetActions" mi_X3_forgetActions = true := by decide +kernel
set_option maxRecDepth 20000 in
theorem mo_X3_forgetActions : MOk RX3 cX3_forgetActions 1 "forgetActions" mi_X3_forgetActions [] := ⟨(rows_ok mr_X3_forgetActions).1, fld_ok (wG_of [207] (by decide +kernel) (by decide +kernel)) (by decide +kernel), mth_ok (by intro q h; cases h), thr_ok (by intro q h; cases h), cls_ok (by intro q h; cases h), c32_ok (by intro q h; cases h), c64_ok (by intro q h; cases h), an_ok 0 (by decide +kernel) (fun h => absurd rfl h) (fun _ => by decide +kernel), (rows_ok mr_X3_forgetActions).2, rfl, hnd_0⟩
set_option maxRecDepth 20000 in
theorem ms_X3_forgetActions : MStat 20 := ⟨mo_X3_forgetActions, by decide +kernel, ret_ok (by decide +kernel)⟩
set_option maxRecDepth 20000 in
theorem mr_X3_at : rowsC RX3 cX3_at 2 "at" mi_X3_at = true := by decide +kernel
set_option maxRecDepth 20000 in
theorem mo_X3_at : MOk RX3 cX3_at 2 "at" mi_X3_at [] := ⟨(rows_ok mr_X3_at).1, fld_ok (wG_of [209, 210] (by decide +kernel) (by decide +kernel)) (by decide +kernel), mth_ok (List.forall_mem_cons.mpr ⟨m_1 cal_J9_floorMod_7cf53 (wG_t3 30 (by decide +kernel) rfl), List.forall_mem_nil _⟩), thr_ok (by intro q h; cases h), cls_ok (by intro q h; cases h), c32_ok (by intro q h; cases h), c64_ok (by intro q h; cases h), an_ok 0 (by decide +kernel) (fun h => absurd rfl h) (fun _ => by decide +kernel), (rows_ok mr_X3_at).2, rfl, hnd_0⟩
set_option maxRecDepth 20000 in
theorem ms_X3_at : MStat 21 := ⟨mo_X3_at, by decide +kernel, ret_ok (by decide +kernel)⟩
set_option maxRecDepth 20000 in
theorem mr_X3_emptySlots : rowsC RX3 cX3_emptySlots 2 "emptySlots" mi_X3_emptySlots = true := by decide +kernel
set_option maxRecDepth 20000 in
theorem mo_X3_emptySlots : MOk RX3 cX3_emptySlots 2 "emptySlots" mi_X3_emptySlots [] := ⟨(rows_ok mr_X3_emptySlots).1, fld_ok (wG_of [212] (by decide +kernel) (by decide +kernel)) (by decide +kernel), mth_ok (by intro q h; cases h), thr_ok (by intro q h; cases h), cls_ok (by intro q h; cases h), c32_ok (by intro q h; cases h), c64_ok (by intro q h; cases h), an_ok 0 (by decide +kernel) (fun h => absurd rfl h) (fun _ => by decide +kernel), (rows_ok mr_X3_emptySlots).2, rfl, hnd_0⟩
set_option maxRecDepth 20000 in
theorem ms_X3_emptySlots : MStat 25 := ⟨mo_X3_emptySlots, by decide +kernel, ret_ok (by decide +kernel)⟩
set_option maxRecDepth 20000 in
theorem mr_X4_init : rowsC RX4 cX4_init 1 "<init>" mi_X4_init = true := by decide +kernel
set_option maxRecDepth 20000 in
theorem mo_X4_init : MOk RX4 cX4_init 1 "<init>" mi_X4_init [] := ⟨(rows_ok mr_X4_init).1, fld_ok (wG_of [157, 162, 166, 168, 170, 171, 172, 173, 174, 175] (by decide +kernel) (by decide +kernel)) (by decide +kernel), mth_ok (List.forall_mem_cons.mpr ⟨⟨wG_t1 103 (by decide +kernel) rfl, wG_t1 25 (by decide +kernel) rfl, wG_t1 26 rfl rfl⟩, List.forall_mem_cons.mpr ⟨m_4 cal_X6_init (by decide +kernel), List.forall_mem_cons.mpr ⟨m_0 cal_X4_layOut (wG_t1 106 (by decide +kernel) rfl), List.forall_mem_nil _⟩⟩⟩), thr_ok (by intro q h; cases h), cls_ok (List.forall_mem_cons.mpr ⟨⟨_, rfl, wG_t1 104 (by decide +kernel) rfl, wG_t1 34 (by decide +kernel) rfl, wG_t1 3 (by decide +kernel) rfl⟩, List.forall_mem_nil _⟩), c32_ok (by intro q h; cases h), c64_ok (by intro q h; cases h), an_ok 0 (by decide +kernel) (fun h => absurd rfl h) (fun _ => by decide +kernel), (rows_ok mr_X4_init).2, rfl, hnd_0⟩
set_option maxRecDepth 20000 in
theorem ms_X4_init : MStat 26 := ⟨mo_X4_init, by decide +kernel, ret_ok (by decide +kernel)⟩
set_option maxRecDepth 20000 in
theorem mr_X4_take : rowsC RX4 cX4_take 2 "take" mi_X4_take = true := by decide +kernel
set_option maxRecDepth 20000 in
theorem mo_X4_take : MOk RX4 cX4_take 2 "take" mi_X4_take [] := ⟨(rows_ok mr_X4_take).1, fld_ok (wG_of [157] (by decide +kernel) (by decide +kernel)) (by decide +kernel), mth_ok (List.forall_mem_cons.mpr ⟨m_0 cal_X4_layOut (wG_t1 106 (by decide +kernel) rfl), List.forall_mem_cons.mpr ⟨m_0 cal_X6_copyFrom (wG_t3 87 (by decide +kernel) rfl), List.forall_mem_nil _⟩⟩), thr_ok (by intro q h; cases h), cls_ok (by intro q h; cases h), c32_ok (by intro q h; cases h), c64_ok (by intro q h; cases h), an_ok 0 (by decide +kernel) (fun h => absurd rfl h) (fun _ => by decide +kernel), (rows_ok mr_X4_take).2, rfl, hnd_0⟩
set_option maxRecDepth 20000 in
theorem ms_X4_take : MStat 27 := ⟨mo_X4_take, by decide +kernel, ret_ok (by decide +kernel)⟩
set_option maxRecDepth 20000 in
theorem mr_X4_changeBar : rowsC RX4 cX4_changeBar 4 "changeBar" mi_X4_changeBar = true := by decide +kernel
set_option maxRecDepth 20000 in
theorem mo_X4_changeBar : MOk RX4 cX4_changeBar 4 "changeBar" mi_X4_changeBar [] := ⟨(rows_ok mr_X4_changeBar).1, fld_ok (wG_of [157] (by decide +kernel) (by decide +kernel)) (by decide +kernel), mth_ok (List.forall_mem_cons.mpr ⟨m_0 cal_X4_layOut (wG_t1 106 (by decide +kernel) rfl), List.forall_mem_cons.mpr ⟨m_0 cal_X6_isPlace (wG_t3 53 (by decide +kernel) rfl), List.forall_mem_cons.mpr ⟨m_0 cal_X6_drawBar (wG_t3 54 (by decide +kernel) rfl), List.forall_mem_nil _⟩⟩⟩), thr_ok (by intro q h; cases h), cls_ok (by intro q h; cases h), c32_ok (by intro q h; cases h), c64_ok (by intro q h; cases h), an_ok 0 (by decide +kernel) (fun h => absurd rfl h) (fun _ => by decide +kernel), (rows_ok mr_X4_changeBar).2, rfl, hnd_0⟩
set_option maxRecDepth 20000 in
theorem ms_X4_changeBar : MStat 28 := ⟨mo_X4_changeBar, by decide +kernel, ret_ok (by decide +kernel)⟩
set_option maxRecDepth 20000 in
theorem mr_X4_layOut_0 : ((cd_X4_layOut.drop 0).take 50).all (fun r : Nat × ARow => match lk mi_X4_layOut.thr r.1 with
  | some _ => match r.2.1 with
    | .new _ => true
    | _ => false
  | none => chk RX4 cX4_layOut 4 "layOut" mi_X4_layOut r.1 r.2.1 r.2.2.1 r.2.2.2) = true := by decide +kernel
set_option maxRecDepth 20000 in
theorem mr_X4_layOut_50 : ((cd_X4_layOut.drop 50).take 50).all (fun r : Nat × ARow => match lk mi_X4_layOut.thr r.1 with
  | some _ => match r.2.1 with
    | .new _ => true
    | _ => false
  | none => chk RX4 cX4_layOut 4 "layOut" mi_X4_layOut r.1 r.2.1 r.2.2.1 r.2.2.2) = true := by decide +kernel
set_option maxRecDepth 20000 in
theorem mr_X4_layOut_100 : ((cd_X4_layOut.drop 100).take 50).all (fun r : Nat × ARow => match lk mi_X4_layOut.thr r.1 with
  | some _ => match r.2.1 with
    | .new _ => true
    | _ => false
  | none => chk RX4 cX4_layOut 4 "layOut" mi_X4_layOut r.1 r.2.1 r.2.2.1 r.2.2.2) = true := by decide +kernel
set_option maxRecDepth 20000 in
theorem mr_X4_layOut : rowsC RX4 cX4_layOut 4 "layOut" mi_X4_layOut = true := rows_0 (rows_cut (a := 0) mr_X4_layOut_0 (rows_cut (a := 50) mr_X4_layOut_50 (rows_cut (a := 100) mr_X4_layOut_100 (rows_nil (by decide +kernel)))))
set_option maxRecDepth 20000 in
theorem mo_X4_layOut : MOk RX4 cX4_layOut 4 "layOut" mi_X4_layOut [] := ⟨(rows_ok mr_X4_layOut).1, fld_ok (wG_of [157, 162, 166, 168, 173, 174, 175, 64] (by decide +kernel) (by decide +kernel)) (by decide +kernel), mth_ok (List.forall_mem_cons.mpr ⟨m_1 cal_J7_fill_53178 (wG_t1 110 (by decide +kernel) rfl), List.forall_mem_cons.mpr ⟨m_0 cal_X6_cells (wG_t1 113 (by decide +kernel) rfl), List.forall_mem_cons.mpr ⟨m_0 cal_X6_isJoined (wG_t1 117 (by decide +kernel) rfl), List.forall_mem_cons.mpr ⟨m_0 cal_X4_addEntry (wG_t1 129 (by decide +kernel) rfl), List.forall_mem_nil _⟩⟩⟩⟩), thr_ok (by intro q h; cases h), cls_ok (by intro q h; cases h), c32_ok (by intro q h; cases h), c64_ok (by intro q h; cases h), an_ok 0 (by decide +kernel) (fun h => absurd rfl h) (fun _ => by decide +kernel), (rows_ok mr_X4_layOut).2, rfl, hnd_0⟩
set_option maxRecDepth 20000 in
theorem ms_X4_layOut : MStat 29 := ⟨mo_X4_layOut, by decide +kernel, ret_ok (by decide +kernel)⟩
set_option maxRecDepth 20000 in
theorem mr_X4_addEntry : rowsC RX4 cX4_addEntry 9 "addEntry" mi_X4_addEntry = true := by decide +kernel
set_option maxRecDepth 20000 in
theorem mo_X4_addEntry : MOk RX4 cX4_addEntry 9 "addEntry" mi_X4_addEntry [] := ⟨(rows_ok mr_X4_addEntry).1, fld_ok (wG_of [157, 162, 170, 171, 172, 173, 174, 64] (by decide +kernel) (by decide +kernel)) (by decide +kernel), mth_ok (List.forall_mem_cons.mpr ⟨m_0 cal_X6_isJoined (wG_t1 117 (by decide +kernel) rfl), List.forall_mem_cons.mpr ⟨m_0 cal_X6_hasCell (wG_t1 133 (by decide +kernel) rfl), List.forall_mem_nil _⟩⟩), thr_ok (by intro q h; cases h), cls_ok (by intro q h; cases h), c32_ok (by intro q h; cases h), c64_ok (by intro q h; cases h), an_ok 0 (by decide +kernel) (fun h => absurd rfl h) (fun _ => by decide +kernel), (rows_ok mr_X4_addEntry).2, rfl, hnd_0⟩
set_option maxRecDepth 20000 in
theorem ms_X4_addEntry : MStat 30 := ⟨mo_X4_addEntry, by decide +kernel, ret_ok (by decide +kernel)⟩
set_option maxRecDepth 20000 in
theorem mr_X4_hasEntry : rowsC RX4 cX4_hasEntry 2 "hasEntry" mi_X4_hasEntry = true := by decide +kernel
set_option maxRecDepth 20000 in
theorem mo_X4_hasEntry : MOk RX4 cX4_hasEntry 2 "hasEntry" mi_X4_hasEntry [] := ⟨(rows_ok mr_X4_hasEntry).1, fld_ok (wG_of [162] (by decide +kernel) (by decide +kernel)) (by decide +kernel), mth_ok (by intro q h; cases h), thr_ok (by intro q h; cases h), cls_ok (by intro q h; cases h), c32_ok (by intro q h; cases h), c64_ok (by intro q h; cases h), an_ok 0 (by decide +kernel) (fun h => absurd rfl h) (fun _ => by decide +kernel), (rows_ok mr_X4_hasEntry).2, rfl, hnd_0⟩
set_option maxRecDepth 20000 in
theorem ms_X4_hasEntry : MStat 31 := ⟨mo_X4_hasEntry, by decide +kernel, ret_ok (by decide +kernel)⟩
set_option maxRecDepth 20000 in
theorem mr_X4_isDown : rowsC RX4 cX4_isDown 2 "isDown" mi_X4_isDown = true := by decide +kernel
set_option maxRecDepth 20000 in
theorem mo_X4_isDown : MOk RX4 cX4_isDown 2 "isDown" mi_X4_isDown [] := ⟨(rows_ok mr_X4_isDown).1, fld_ok (wG_of [172] (by decide +kernel) (by decide +kernel)) (by decide +kernel), mth_ok (List.forall_mem_cons.mpr ⟨m_0 cal_X4_hasEntry (wG_t2 154 (by decide +kernel) rfl), List.forall_mem_nil _⟩), thr_ok (by intro q h; cases h), cls_ok (by intro q h; cases h), c32_ok (by intro q h; cases h), c64_ok (by intro q h; cases h), an_ok 0 (by decide +kernel) (fun h => absurd rfl h) (fun _ => by decide +kernel), (rows_ok mr_X4_isDown).2, rfl, hnd_0⟩
set_option maxRecDepth 20000 in
theorem ms_X4_isDown : MStat 32 := ⟨mo_X4_isDown, by decide +kernel, ret_ok (by decide +kernel)⟩
set_option maxRecDepth 20000 in
theorem mr_X4_lengthOf : rowsC RX4 cX4_lengthOf 2 "lengthOf" mi_X4_lengthOf = true := by decide +kernel
set_option maxRecDepth 20000 in
theorem mo_X4_lengthOf : MOk RX4 cX4_lengthOf 2 "lengthOf" mi_X4_lengthOf [] := ⟨(rows_ok mr_X4_lengthOf).1, fld_ok (wG_of [171] (by decide +kernel) (by decide +kernel)) (by decide +kernel), mth_ok (List.forall_mem_cons.mpr ⟨m_0 cal_X4_hasEntry (wG_t2 154 (by decide +kernel) rfl), List.forall_mem_nil _⟩), thr_ok (by intro q h; cases h), cls_ok (by intro q h; cases h), c32_ok (by intro q h; cases h), c64_ok (by intro q h; cases h), an_ok 0 (by decide +kernel) (fun h => absurd rfl h) (fun _ => by decide +kernel), (rows_ok mr_X4_lengthOf).2, rfl, hnd_0⟩
set_option maxRecDepth 20000 in
theorem ms_X4_lengthOf : MStat 33 := ⟨mo_X4_lengthOf, by decide +kernel, ret_ok (by decide +kernel)⟩
set_option maxRecDepth 20000 in
theorem mr_X4_cellOf : rowsC RX4 cX4_cellOf 3 "cellOf" mi_X4_cellOf = true := by decide +kernel
set_option maxRecDepth 20000 in
theorem mo_X4_cellOf : MOk RX4 cX4_cellOf 3 "cellOf" mi_X4_cellOf [] := ⟨(rows_ok mr_X4_cellOf).1, fld_ok (wG_of [157, 170, 172, 64] (by decide +kernel) (by decide +kernel)) (by decide +kernel), mth_ok (List.forall_mem_cons.mpr ⟨m_0 cal_X4_hasEntry (wG_t2 154 (by decide +kernel) rfl), List.forall_mem_nil _⟩), thr_ok (by intro q h; cases h), cls_ok (by intro q h; cases h), c32_ok (by intro q h; cases h), c64_ok (by intro q h; cases h), an_ok 0 (by decide +kernel) (fun h => absurd rfl h) (fun _ => by decide +kernel), (rows_ok mr_X4_cellOf).2, rfl, hnd_0⟩
set_option maxRecDepth 20000 in
theorem ms_X4_cellOf : MStat 34 := ⟨mo_X4_cellOf, by decide +kernel, ret_ok (by decide +kernel)⟩
set_option maxRecDepth 20000 in
theorem mr_X4_indexIn : rowsC RX4 cX4_indexIn 3 "indexIn" mi_X4_indexIn = true := by decide +kernel
set_option maxRecDepth 20000 in
theorem mo_X4_indexIn : MOk RX4 cX4_indexIn 3 "indexIn" mi_X4_indexIn [] := ⟨(rows_ok mr_X4_indexIn).1, fld_ok (wG_of [157, 170, 172] (by decide +kernel) (by decide +kernel)) (by decide +kernel), mth_ok (List.forall_mem_cons.mpr ⟨m_0 cal_X4_hasEntry (wG_t2 154 (by decide +kernel) rfl), List.forall_mem_cons.mpr ⟨m_0 cal_X6_rowOf (wG_t3 144 (by decide +kernel) rfl), List.forall_mem_nil _⟩⟩), thr_ok (by intro q h; cases h), cls_ok (by intro q h; cases h), c32_ok (by intro q h; cases h), c64_ok (by intro q h; cases h), an_ok 0 (by decide +kernel) (fun h => absurd rfl h) (fun _ => by decide +kernel), (rows_ok mr_X4_indexIn).2, rfl, hnd_0⟩
set_option maxRecDepth 20000 in
theorem ms_X4_indexIn : MStat 35 := ⟨mo_X4_indexIn, by decide +kernel, ret_ok (by decide +kernel)⟩
set_option maxRecDepth 20000 in
theorem mr_X4_entryAt : rowsC RX4 cX4_entryAt 3 "entryAt" mi_X4_entryAt = true := by decide +kernel
set_option maxRecDepth 20000 in
theorem mo_X4_entryAt : MOk RX4 cX4_entryAt 3 "entryAt" mi_X4_entryAt [] := ⟨(rows_ok mr_X4_entryAt).1, fld_ok (wG_of [157, 173, 174] (by decide +kernel) (by decide +kernel)) (by decide +kernel), mth_ok (List.forall_mem_cons.mpr ⟨m_0 cal_X6_hasCell (wG_t1 133 (by decide +kernel) rfl), List.forall_mem_nil _⟩), thr_ok (by intro q h; cases h), cls_ok (by intro q h; cases h), c32_ok (by intro q h; cases h), c64_ok (by intro q h; cases h), an_ok 0 (by decide +kernel) (fun h => absurd rfl h) (fun _ => by decide +kernel), (rows_ok mr_X4_entryAt).2, rfl, hnd_0⟩
set_option maxRecDepth 20000 in
theorem ms_X4_entryAt : MStat 36 := ⟨mo_X4_entryAt, by decide +kernel, ret_ok (by decide +kernel)⟩
set_option maxRecDepth 20000 in
theorem mr_X4_clueAt : rowsC RX4 cX4_clueAt 2 "clueAt" mi_X4_clueAt = true := by decide +kernel
set_option maxRecDepth 20000 in
theorem mo_X4_clueAt : MOk RX4 cX4_clueAt 2 "clueAt" mi_X4_clueAt [] := ⟨(rows_ok mr_X4_clueAt).1, fld_ok (wG_of [157, 175] (by decide +kernel) (by decide +kernel)) (by decide +kernel), mth_ok (List.forall_mem_cons.mpr ⟨m_0 cal_X6_hasCell (wG_t1 133 (by decide +kernel) rfl), List.forall_mem_nil _⟩), thr_ok (by intro q h; cases h), cls_ok (by intro q h; cases h), c32_ok (by intro q h; cases h), c64_ok (by intro q h; cases h), an_ok 0 (by decide +kernel) (fun h => absurd rfl h) (fun _ => by decide +kernel), (rows_ok mr_X4_clueAt).2, rfl, hnd_0⟩
set_option maxRecDepth 20000 in
theorem ms_X4_clueAt : MStat 37 := ⟨mo_X4_clueAt, by decide +kernel, ret_ok (by decide +kernel)⟩
set_option maxRecDepth 20000 in
theorem mr_X4_entriesAt : rowsC RX4 cX4_entriesAt 2 "entriesAt" mi_X4_entriesAt = true := by decide +kernel
set_option maxRecDepth 20000 in
theorem mo_X4_entriesAt : MOk RX4 cX4_entriesAt 2 "entriesAt" mi_X4_entriesAt [] := ⟨(rows_ok mr_X4_entriesAt).1, fld_ok (wG_of [157, 173, 174] (by decide +kernel) (by decide +kernel)) (by decide +kernel), mth_ok (List.forall_mem_cons.mpr ⟨m_0 cal_X6_hasCell (wG_t1 133 (by decide +kernel) rfl), List.forall_mem_nil _⟩), thr_ok (by intro q h; cases h), cls_ok (by intro q h; cases h), c32_ok (by intro q h; cases h), c64_ok (by intro q h; cases h), an_ok 0 (by decide +kernel) (fun h => absurd rfl h) (fun _ => by decide +kernel), (rows_ok mr_X4_entriesAt).2, rfl, hnd_0⟩
set_option maxRecDepth 20000 in
theorem ms_X4_entriesAt : MStat 38 := ⟨mo_X4_entriesAt, by decide +kernel, ret_ok (by decide +kernel)⟩
set_option maxRecDepth 20000 in
theorem mr_X4_cellsInEntries : rowsC RX4 cX4_cellsInEntries 4 "cellsInEntries" mi_X4_cellsInEntries = true := by decide +kernel
set_option maxRecDepth 20000 in
theorem mo_X4_cellsInEntries : MOk RX4 cX4_cellsInEntries 4 "cellsInEntries" mi_X4_cellsInEntries [] := ⟨(rows_ok mr_X4_cellsInEntries).1, fld_ok (wG_of [157] (by decide +kernel) (by decide +kernel)) (by decide +kernel), mth_ok (List.forall_mem_cons.mpr ⟨m_0 cal_X6_cells (wG_t1 113 (by decide +kernel) rfl), List.forall_mem_cons.mpr ⟨m_0 cal_X4_entriesAt (wG_t2 38 (by decide +kernel) rfl), List.forall_mem_nil _⟩⟩), thr_ok (by intro q h; cases h), cls_ok (by intro q h; cases h), c32_ok (by intro q h; cases h), c64_ok (by intro q h; cases h), an_ok 0 (by decide +kernel) (fun h => absurd rfl h) (fun _ => by decide +kernel), (rows_ok mr_X4_cellsInEntries).2, rfl, hnd_0⟩
set_option maxRecDepth 20000 in
theorem ms_X4_cellsInEntries : MStat 39 := ⟨mo_X4_cellsInEntries, by decide +kernel, ret_ok (by decide +kernel)⟩
set_option maxRecDepth 20000 in
theorem mr_X4_uncheckedIn : rowsC RX4 cX4_uncheckedIn 4 "uncheckedIn" mi_X4_uncheckedIn = true := by decide +kernel
set_option maxRecDepth 20000 in
theorem mo_X4_uncheckedIn : MOk RX4 cX4_uncheckedIn 4 "uncheckedIn" mi_X4_uncheckedIn [] := ⟨(rows_ok mr_X4_uncheckedIn).1, fld_ok (wG_of [] (by decide +kernel) (by decide +kernel)) (by decide +kernel), mth_ok (List.forall_mem_cons.mpr ⟨m_0 cal_X4_entriesAt (wG_t2 38 (by decide +kernel) rfl), List.forall_mem_cons.mpr ⟨m_0 cal_X4_lengthOf (wG_t2 150 (by decide +kernel) rfl), List.forall_mem_cons.mpr ⟨m_0 cal_X4_cellOf (wG_t2 158 (by decide +kernel) rfl), List.forall_mem_nil _⟩⟩⟩), thr_ok (by intro q h; cases h), cls_ok (by intro q h; cases h), c32_ok (by intro q h; cases h), c64_ok (by intro q h; cases h), an_ok 0 (by decide +kernel) (fun h => absurd rfl h) (fun _ => by decide +kernel), (rows_ok mr_X4_uncheckedIn).2, rfl, hnd_0⟩
set_option maxRecDepth 20000 in
theorem ms_X4_uncheckedIn : MStat 40 := ⟨mo_X4_uncheckedIn, by decide +kernel, ret_ok (by decide +kernel)⟩
set_option maxRecDepth 20000 in
theorem mr_X4_emptyIn : rowsC RX4 cX4_emptyIn 4 "emptyIn" mi_X4_emptyIn = true := by decide +kernel
set_option maxRecDepth 20000 in
theorem mo_X4_emptyIn : MOk RX4 cX4_emptyIn 4 "emptyIn" mi_X4_emptyIn [] := ⟨(rows_ok mr_X4_emptyIn).1, fld_ok (wG_of [157] (by decide +kernel) (by decide +kernel)) (by decide +kernel), mth_ok (List.forall_mem_cons.mpr ⟨m_0 cal_X4_lengthOf (wG_t2 150 (by decide +kernel) rfl), List.forall_mem_cons.mpr ⟨m_0 cal_X4_cellOf (wG_t2 158 (by decide +kernel) rfl), List.forall_mem_cons.mpr ⟨m_0 cal_X6_letterAt (wG_t3 116 (by decide +kernel) rfl), List.forall_mem_nil _⟩⟩⟩), thr_ok (by intro q h; cases h), cls_ok (by intro q h; cases h), c32_ok (by intro q h; cases h), c64_ok (by intro q h; cases h), an_ok 0 (by decide +kernel) (fun h => absurd rfl h) (fun _ => by decide +kernel), (rows_ok mr_X4_emptyIn).2, rfl, hnd_0⟩
set_option maxRecDepth 20000 in
theorem ms_X4_emptyIn : MStat 41 := ⟨mo_X4_emptyIn, by decide +kernel, ret_ok (by decide +kernel)⟩
set_option maxRecDepth 20000 in
theorem mr_X4_fitsWord : rowsC RX4 cX4_fitsWord 5 "fitsWord" mi_X4_fitsWord = true := by decide +kernel
set_option maxRecDepth 20000 in
theorem mo_X4_fitsWord : MOk RX4 cX4_fitsWord 5 "fitsWord" mi_X4_fitsWord [] := ⟨(rows_ok mr_X4_fitsWord).1, fld_ok (wG_of [157] (by decide +kernel) (by decide +kernel)) (by decide +kernel), mth_ok (List.forall_mem_cons.mpr ⟨m_0 cal_X4_hasEntry (wG_t2 154 (by decide +kernel) rfl), List.forall_mem_cons.mpr ⟨m_0 cal_X4_lengthOf (wG_t2 150 (by decide +kernel) rfl), List.forall_mem_cons.mpr ⟨m_0 cal_X4_cellOf (wG_t2 158 (by decide +kernel) rfl), List.forall_mem_cons.mpr ⟨m_0 cal_X6_letterAt (wG_t3 116 (by decide +kernel) rfl), List.forall_mem_cons.mpr ⟨m_0 cal_X6_hasWord (wG_t3 107 (by decide +kernel) rfl), List.forall_mem_cons.mpr ⟨m_0 cal_X6_lengthOfWord (wG_t3 111 (by decide +kernel) rfl), List.forall_mem_cons.mpr ⟨m_0 cal_X6_letterOfWord (wG_t3 117 (by decide +kernel) rfl), List.forall_mem_nil _⟩⟩⟩⟩⟩⟩⟩), thr_ok (by intro q h; cases h), cls_ok (by intro q h; cases h), c32_ok (by intro q h; cases h), c64_ok (by intro q h; cases h), an_ok 0 (by decide +kernel) (fun h => absurd rfl h) (fun _ => by decide +kernel), (rows_ok mr_X4_fitsWord).2, rfl, hnd_0⟩
set_option maxRecDepth 20000 in
theorem ms_X4_fitsWord : MStat 42 := ⟨mo_X4_fitsWord, by decide +kernel, ret_ok (by decide +kernel)⟩
set_option maxRecDepth 20000 in
theorem mr_X4_fitCount : rowsC RX4 cX4_fitCount 4 "fitCount" mi_X4_fitCount = true := by decide +kernel
set_option maxRecDepth 20000 in
theorem mo_X4_fitCount : MOk RX4 cX4_fitCount 4 "fitCount" mi_X4_fitCount [] := ⟨(rows_ok mr_X4_fitCount).1, fld_ok (wG_of [157, 71] (by decide +kernel) (by decide +kernel)) (by decide +kernel), mth_ok (List.forall_mem_cons.mpr ⟨m_0 cal_X4_fitsWord (wG_t4 2 (by decide +kernel) rfl), List.forall_mem_nil _⟩), thr_ok (by intro q h; cases h), cls_ok (by intro q h; cases h), c32_ok (by intro q h; cases h), c64_ok (by intro q h; cases h), an_ok 0 (by decide +kernel) (fun h => absurd rfl h) (fun _ => by decide +kernel), (rows_ok mr_X4_fitCount).2, rfl, hnd_0⟩
set_option maxRecDepth 20000 in
theorem ms_X4_fitCount : MStat 43 := ⟨mo_X4_fitCount, by decide +kernel, ret_ok (by decide +kernel)⟩
set_option maxRecDepth 20000 in
theorem mr_X4_wordIn : rowsC RX4 cX4_wordIn 3 "wordIn" mi_X4_wordIn = true := by decide +kernel
set_option maxRecDepth 20000 in
theorem mo_X4_wordIn : MOk RX4 cX4_wordIn 3 "wordIn" mi_X4_wordIn [] := ⟨(rows_ok mr_X4_wordIn).1, fld_ok (wG_of [157, 71] (by decide +kernel) (by decide +kernel)) (by decide +kernel), mth_ok (List.forall_mem_cons.mpr ⟨m_0 cal_X4_fitsWord (wG_t4 2 (by decide +kernel) rfl), List.forall_mem_cons.mpr ⟨m_0 cal_X4_emptyIn (wG_t4 1 (by decide +kernel) rfl), List.forall_mem_nil _⟩⟩), thr_ok (by intro q h; cases h), cls_ok (by intro q h; cases h), c32_ok (by intro q h; cases h), c64_ok (by intro q h; cases h), an_ok 0 (by decide +kernel) (fun h => absurd rfl h) (fun _ => by decide +kernel), (rows_ok mr_X4_wordIn).2, rfl, hnd_0⟩
set_option maxRecDepth 20000 in
theorem ms_X4_wordIn : MStat 44 := ⟨mo_X4_wordIn, by decide +kernel, ret_ok (by decide +kernel)⟩
set_option maxRecDepth 20000 in
theorem mr_X5_countKept : rowsC RX5 cX5_countKept 3 "countKept" mi_X5_countKept = true := by decide +kernel
set_option maxRecDepth 20000 in
theorem mo_X5_countKept : MOk RX5 cX5_countKept 3 "countKept" mi_X5_countKept [] := ⟨(rows_ok mr_X5_countKept).1, fld_ok (wG_of [] (by decide +kernel) (by decide +kernel)) (by decide +kernel), mth_ok (List.forall_mem_cons.mpr ⟨m_1 cal_X5_areKept (wG_t3 157 (by decide +kernel) rfl), List.forall_mem_nil _⟩), thr_ok (by intro q h; cases h), cls_ok (by intro q h; cases h), c32_ok (by intro q h; cases h), c64_ok (by intro q h; cases h), an_ok 0 (by decide +kernel) (fun h => absurd rfl h) (fun _ => by decide +kernel), (rows_ok mr_X5_countKept).2, rfl, hnd_0⟩
set_option maxRecDepth 20000 in
theorem ms_X5_countKept : MStat 47 := ⟨mo_X5_countKept, by decide +kernel, ret_ok (by decide +kernel)⟩
set_option maxRecDepth 20000 in
theorem mr_X5_areKept : rowsC RX5 cX5_areKept 2 "areKept" mi_X5_areKept = true := by decide +kernel
set_option maxRecDepth 20000 in
theorem mo_X5_areKept : MOk RX5 cX5_areKept 2 "areKept" mi_X5_areKept [] := ⟨(rows_ok mr_X5_areKept).1, fld_ok (wG_of [160] (by decide +kernel) (by decide +kernel)) (by decide +kernel), mth_ok (List.forall_mem_cons.mpr ⟨m_1 cal_X5_isSameTurned (wG_t2 137 (by decide +kernel) rfl), List.forall_mem_cons.mpr ⟨m_0 cal_X4_cellsInEntries (wG_t2 142 (by decide +kernel) rfl), List.forall_mem_cons.mpr ⟨m_1 cal_X5_isCheckedEnough (wG_t2 143 (by decide +kernel) rfl), List.forall_mem_cons.mpr ⟨m_1 cal_X5_hasNoUncheckedPair (wG_t2 163 (by decide +kernel) rfl), List.forall_mem_cons.mpr ⟨m_1 cal_X5_isConnected (wG_t2 168 (by decide +kernel) rfl), List.forall_mem_nil _⟩⟩⟩⟩⟩), thr_ok (by intro q h; cases h), cls_ok (by intro q h; cases h), c32_ok (by intro q h; cases h), c64_ok (by intro q h; cases h), an_ok 0 (by decide +kernel) (fun h => absurd rfl h) (fun _ => by decide +kernel), (rows_ok mr_X5_areKept).2, rfl, hnd_0⟩
set_option maxRecDepth 20000 in
theorem ms_X5_areKept : MStat 48 := ⟨mo_X5_areKept, by decide +kernel, ret_ok (by decide +kernel)⟩
set_option maxRecDepth 20000 in
theorem mr_X5_isSameTurned : rowsC RX5 cX5_isSameTurned 3 "isSameTurned" mi_X5_isSameTurned = true := by decide +kernel
set_option maxRecDepth 20000 in
theorem mo_X5_isSameTurned : MOk RX5 cX5_isSameTurned 3 "isSameTurned" mi_X5_isSameTurned [] := ⟨(rows_ok mr_X5_isSameTurned).1, fld_ok (wG_of [63] (by decide +kernel) (by decide +kernel)) (by decide +kernel), mth_ok (List.forall_mem_cons.mpr ⟨m_0 cal_X6_cells (wG_t2 140 (by decide +kernel) rfl), List.forall_mem_cons.mpr ⟨m_0 cal_X6_hasBar (wG_t2 141 (by decide +kernel) rfl), List.forall_mem_nil _⟩⟩), thr_ok (by intro q h; cases h), cls_ok (by intro q h; cases h), c32_ok (by intro q h; cases h), c64_ok (by intro q h; cases h), an_ok 0 (by decide +kernel) (fun h => absurd rfl h) (fun _ => by decide +kernel), (rows_ok mr_X5_isSameTurned).2, rfl, hnd_0⟩
set_option maxRecDepth 20000 in
theorem ms_X5_isSameTurned : MStat 49 := ⟨mo_X5_isSameTurned, by decide +kernel, ret_ok (by decide +kernel)⟩
set_option maxRecDepth 20000 in
theorem mr_X5_isCheckedEnough : rowsC RX5 cX5_isCheckedEnough 2 "isCheckedEnough" mi_X5_isCheckedEnough = true := by decide +kernel
set_option maxRecDepth 20000 in
theorem mo_X5_isCheckedEnough : MOk RX5 cX5_isCheckedEnough 2 "isCheckedEnough" mi_X5_isCheckedEnough [] := ⟨(rows_ok mr_X5_isCheckedEnough).1, fld_ok (wG_of [164] (by decide +kernel) (by decide +kernel)) (by decide +kernel), mth_ok (List.forall_mem_cons.mpr ⟨m_0 cal_X4_uncheckedIn (wG_t2 146 (by decide +kernel) rfl), List.forall_mem_cons.mpr ⟨m_0 cal_X4_lengthOf (wG_t2 162 (by decide +kernel) rfl), List.forall_mem_nil _⟩⟩), thr_ok (by intro q h; cases h), cls_ok (by intro q h; cases h), c32_ok (by intro q h; cases h), c64_ok (by intro q h; cases h), an_ok 0 (by decide +kernel) (fun h => absurd rfl h) (fun _ => by decide +kernel), (rows_ok mr_X5_isCheckedEnough).2, rfl, hnd_0⟩
set_option maxRecDepth 20000 in
theorem ms_X5_isCheckedEnough : MStat 50 := ⟨mo_X5_isCheckedEnough, by decide +kernel, ret_ok (by decide +kernel)⟩
set_option maxRecDepth 20000 in
theorem mr_X5_hasNoUncheckedPair : rowsC RX5 cX5_hasNoUncheckedPair 3 "hasNoUncheckedPair" mi_X5_hasNoUncheckedPair = true := by decide +kernel
set_option maxRecDepth 20000 in
theorem mo_X5_hasNoUncheckedPair : MOk RX5 cX5_hasNoUncheckedPair 3 "hasNoUncheckedPair" mi_X5_hasNoUncheckedPair [] := ⟨(rows_ok mr_X5_hasNoUncheckedPair).1, fld_ok (wG_of [164] (by decide +kernel) (by decide +kernel)) (by decide +kernel), mth_ok (List.forall_mem_cons.mpr ⟨m_0 cal_X4_lengthOf (wG_t2 162 (by decide +kernel) rfl), List.forall_mem_cons.mpr ⟨m_0 cal_X4_cellOf (wG_t2 166 (by decide +kernel) rfl), List.forall_mem_cons.mpr ⟨m_0 cal_X4_entriesAt (wG_t2 167 (by decide +kernel) rfl), List.forall_mem_nil _⟩⟩⟩), thr_ok (by intro q h; cases h), cls_ok (by intro q h; cases h), c32_ok (by intro q h; cases h), c64_ok (by intro q h; cases h), an_ok 0 (by decide +kernel) (fun h => absurd rfl h) (fun _ => by decide +kernel), (rows_ok mr_X5_hasNoUncheckedPair).2, rfl, hnd_0⟩
set_option maxRecDepth 20000 in
theorem ms_X5_hasNoUncheckedPair : MStat 51 := ⟨mo_X5_hasNoUncheckedPair, by decide +kernel, ret_ok (by decide +kernel)⟩
set_option maxRecDepth 20000 in
theorem mr_X5_isConnected : rowsC RX5 cX5_isConnected 8 "isConnected" mi_X5_isConnected = true := by decide +kernel
set_option maxRecDepth 20000 in
theorem mo_X5_isConnected : MOk RX5 cX5_isConnected 8 "isConnected" mi_X5_isConnected [] := ⟨(rows_ok mr_X5_isConnected).1, fld_ok (wG_of [] (by decide +kernel) (by decide +kernel)) (by decide +kernel), mth_ok (List.forall_mem_cons.mpr ⟨m_0 cal_X6_cells (wG_t2 140 (by decide +kernel) rfl), List.forall_mem_cons.mpr ⟨m_1 cal_X5_spread (wG_t2 171 (by decide +kernel) rfl), List.forall_mem_cons.mpr ⟨m_1 cal_J13_bitCount_95d88 (wG_t2 175 (by decide +kernel) rfl), List.forall_mem_nil _⟩⟩⟩), thr_ok (by intro q h; cases h), cls_ok (by intro q h; cases h), c32_ok (by intro q h; cases h), c64_ok (by intro q h; cases h), an_ok 0 (by decide +kernel) (fun h => absurd rfl h) (fun _ => by decide +kernel), (rows_ok mr_X5_isConnected).2, rfl, hnd_0⟩
set_option maxRecDepth 20000 in
theorem ms_X5_isConnected : MStat 52 := ⟨mo_X5_isConnected, by decide +kernel, ret_ok (by decide +kernel)⟩
set_option maxRecDepth 20000 in
theorem mr_X5_spread : rowsC RX5 cX5_spread 8 "spread" mi_X5_spread = true := by decide +kernel
set_option maxRecDepth 20000 in
theorem mo_X5_spread : MOk RX5 cX5_spread 8 "spread" mi_X5_spread [] := ⟨(rows_ok mr_X5_spread).1, fld_ok (wG_of [63] (by decide +kernel) (by decide +kernel)) (by decide +kernel), mth_ok (List.forall_mem_cons.mpr ⟨m_0 cal_X6_isJoined (wG_t2 174 (by decide +kernel) rfl), List.forall_mem_nil _⟩), thr_ok (by intro q h; cases h), cls_ok (by intro q h; cases h), c32_ok (by intro q h; cases h), c64_ok (by intro q h; cases h), an_ok 0 (by decide +kernel) (fun h => absurd rfl h) (fun _ => by decide +kernel), (rows_ok mr_X5_spread).2, rfl, hnd_0⟩
set_option maxRecDepth 20000 in
theorem ms_X5_spread : MStat 53 := ⟨mo_X5_spread, by decide +kernel, ret_ok (by decide +kernel)⟩
set_option maxRecDepth 20000 in
theorem mr_X6_init : rowsC RX6 cX6_init 1 "<init>" mi_X6_init = true := by decide +kernel
set_option maxRecDepth 20000 in
theorem mo_X6_init : MOk RX6 cX6_init 1 "<init>" mi_X6_init [] := ⟨(rows_ok mr_X6_init).1, fld_ok (wG_of [59, 62, 67, 72, 76, 77, 78, 79, 80, 81] (by decide +kernel) (by decide +kernel)) (by decide +kernel), mth_ok (List.forall_mem_cons.mpr ⟨⟨wG_t1 38 (by decide +kernel) rfl, wG_t1 25 (by decide +kernel) rfl, wG_t1 26 rfl rfl⟩, List.forall_mem_nil _⟩), thr_ok (by intro q h; cases h), cls_ok (by intro q h; cases h), c32_ok (by intro q h; cases h), c64_ok (by intro q h; cases h), an_ok 0 (by decide +kernel) (fun h => absurd rfl h) (fun _ => by decide +kernel), (rows_ok mr_X6_init).2, rfl, hnd_0⟩
set_option maxRecDepth 20000 in
theorem ms_X6_init : MStat 54 := ⟨mo_X6_init, by decide +kernel, ret_ok (by decide +kernel)⟩
set_option maxRecDepth 20000 in
theorem mr_X6_copyFrom : rowsC RX6 cX6_copyFrom 2 "copyFrom" mi_X6_copyFrom = true := by decide +kernel
set_option maxRecDepth 20000 in
theorem mo_X6_copyFrom : MOk RX6 cX6_copyFrom 2 "copyFrom" mi_X6_copyFrom [] := ⟨(rows_ok mr_X6_copyFrom).1, fld_ok (wG_of [59, 62, 67, 72, 76, 77, 78, 79, 80, 81] (by decide +kernel) (by decide +kernel)) (by decide +kernel), mth_ok (List.forall_mem_cons.mpr ⟨⟨wG_t3 37 (by decide +kernel) rfl, wG_t2 206 (by decide +kernel) rfl, wG_t2 205 (by decide +kernel) rfl, wG_t1 14 (by decide +kernel) rfl⟩, List.forall_mem_nil _⟩), thr_ok (by intro q h; cases h), cls_ok (by intro q h; cases h), c32_ok (by intro q h; cases h), c64_ok (by intro q h; cases h), an_ok 0 (by decide +kernel) (fun h => absurd rfl h) (fun _ => by decide +kernel), (rows_ok mr_X6_copyFrom).2, rfl, hnd_0⟩
set_option maxRecDepth 20000 in
theorem ms_X6_copyFrom : MStat 55 := ⟨mo_X6_copyFrom, by decide +kernel, ret_ok (by decide +kernel)⟩
set_option maxRecDepth 20000 in
theorem mr_X6_begin : rowsC RX6 cX6_begin 3 "begin" mi_X6_begin = true := by decide +kernel
set_option maxRecDepth 20000 in
theorem mo_X6_begin : MOk RX6 cX6_begin 3 "begin" mi_X6_begin [] := ⟨(rows_ok mr_X6_begin).1, fld_ok (wG_of [59, 62, 67, 72, 76, 77, 78] (by decide +kernel) (by decide +kernel)) (by decide +kernel), mth_ok (List.forall_mem_cons.mpr ⟨m_1 cal_J7_fill_53178 (wG_t4 62 (by decide +kernel) rfl), List.forall_mem_nil _⟩), thr_ok (by intro q h; cases h), cls_ok (by intro q h; cases h), c32_ok (by intro q h; cases h), c64_ok (by intro q h; cases h), an_ok 0 (by decide +kernel) (fun h => absurd rfl h) (fun _ => by decide +kernel), (rows_ok mr_X6_begin).2, rfl, hnd_0⟩
set_option maxRecDepth 20000 in
theorem ms_X6_begin : MStat 56 := ⟨mo_X6_begin, by decide +kernel, ret_ok (by decide +kernel)⟩
set_option maxRecDepth 20000 in
theorem mr_X6_cells : rowsC RX6 cX6_cells 1 "cells" mi_X6_cells = true := by decide +kernel
set_option maxRecDepth 20000 in
theorem mo_X6_cells : MOk RX6 cX6_cells 1 "cells" mi_X6_cells [] := ⟨(rows_ok mr_X6_cells).1, fld_ok (wG_of [59, 62] (by decide +kernel) (by decide +kernel)) (by decide +kernel), mth_ok (by intro q h; cases h), thr_ok (by intro q h; cases h), cls_ok (by intro q h; cases h), c32_ok (by intro q h; cases h), c64_ok (by intro q h; cases h), an_ok 0 (by decide +kernel) (fun h => absurd rfl h) (fun _ => by decide +kernel), (rows_ok mr_X6_cells).2, rfl, hnd_0⟩
set_option maxRecDepth 20000 in
theorem ms_X6_cells : MStat 57 := ⟨mo_X6_cells, by decide +kernel, ret_ok (by decide +kernel)⟩
set_option maxRecDepth 20000 in
theorem mr_X6_hasCell : rowsC RX6 cX6_hasCell 2 "hasCell" mi_X6_hasCell = true := by decide +kernel
set_option maxRecDepth 20000 in
theorem mo_X6_hasCell : MOk RX6 cX6_hasCell 2 "hasCell" mi_X6_hasCell [] := ⟨(rows_ok mr_X6_hasCell).1, fld_ok (wG_of [59, 62] (by decide +kernel) (by decide +kernel)) (by decide +kernel), mth_ok (by intro q h; cases h), thr_ok (by intro q h; cases h), cls_ok (by intro q h; cases h), c32_ok (by intro q h; cases h), c64_ok (by intro q h; cases h), an_ok 0 (by decide +kernel) (fun h => absurd rfl h) (fun _ => by decide +kernel), (rows_ok mr_X6_hasCell).2, rfl, hnd_0⟩
set_option maxRecDepth 20000 in
theorem ms_X6_hasCell : MStat 58 := ⟨mo_X6_hasCell, by decide +kernel, ret_ok (by decide +kernel)⟩
set_option maxRecDepth 20000 in
theorem mr_X6_columnOf : rowsC RX6 cX6_columnOf 2 "columnOf" mi_X6_columnOf = true := by decide +kernel
set_option maxRecDepth 20000 in
theorem mo_X6_columnOf : MOk RX6 cX6_columnOf 2 "columnOf" mi_X6_columnOf [] := ⟨(rows_ok mr_X6_columnOf).1, fld_ok (wG_of [62] (by decide +kernel) (by decide +kernel)) (by decide +kernel), mth_ok (by intro q h; cases h), thr_ok (by intro q h; cases h), cls_ok (by intro q h; cases h), c32_ok (by intro q h; cases h), c64_ok (by intro q h; cases h), an_ok 0 (by decide +kernel) (fun h => absurd rfl h) (fun _ => by decide +kernel), (rows_ok mr_X6_columnOf).2, rfl, hnd_0⟩
set_option maxRecDepth 20000 in
theorem ms_X6_columnOf : MStat 59 := ⟨mo_X6_columnOf, by decide +kernel, ret_ok (by decide +kernel)⟩
set_option maxRecDepth 20000 in
theorem mr_X6_rowOf : rowsC RX6 cX6_rowOf 2 "rowOf" mi_X6_rowOf = true := by decide +kernel
set_option maxRecDepth 20000 in
theorem mo_X6_rowOf : MOk RX6 cX6_rowOf 2 "rowOf" mi_X6_rowOf [] := ⟨(rows_ok mr_X6_rowOf).1, fld_ok (wG_of [62] (by decide +kernel) (by decide +kernel)) (by decide +kernel), mth_ok (by intro q h; cases h), thr_ok (by intro q h; cases h), cls_ok (by intro q h; cases h), c32_ok (by intro q h; cases h), c64_ok (by intro q h; cases h), an_ok 0 (by decide +kernel) (fun h => absurd rfl h) (fun _ => by decide +kernel), (rows_ok mr_X6_rowOf).2, rfl, hnd_0⟩
set_option maxRecDepth 20000 in
theorem ms_X6_rowOf : MStat 60 := ⟨mo_X6_rowOf, by decide +kernel, ret_ok (by decide +kernel)⟩
set_option maxRecDepth 20000 in
theorem mr_X6_letterAt : rowsC RX6 cX6_letterAt 2 "letterAt" mi_X6_letterAt = true := by decide +kernel
set_option maxRecDepth 20000 in
theorem mo_X6_letterAt : MOk RX6 cX6_letterAt 2 "letterAt" mi_X6_letterAt [] := ⟨(rows_ok mr_X6_letterAt).1, fld_ok (wG_of [78] (by decide +kernel) (by decide +kernel)) (by decide +kernel), mth_ok (List.forall_mem_cons.mpr ⟨m_0 cal_X6_hasCell (wG_t2 50 (by decide +kernel) rfl), List.forall_mem_nil _⟩), thr_ok (by intro q h; cases h), cls_ok (by intro q h; cases h), c32_ok (by intro q h; cases h), c64_ok (by intro q h; cases h), an_ok 0 (by decide +kernel) (fun h => absurd rfl h) (fun _ => by decide +kernel), (rows_ok mr_X6_letterAt).2, rfl, hnd_0⟩
set_option maxRecDepth 20000 in
theorem ms_X6_letterAt : MStat 61 := ⟨mo_X6_letterAt, by decide +kernel, ret_ok (by decide +kernel)⟩
set_option maxRecDepth 20000 in
theorem mr_X6_setLetter : rowsC RX6 cX6_setLetter 3 "setLetter" mi_X6_setLetter = true := by decide +kernel
set_option maxRecDepth 20000 in
theorem mo_X6_setLetter : MOk RX6 cX6_setLetter 3 "setLetter" mi_X6_setLetter [] := ⟨(rows_ok mr_X6_setLetter).1, fld_ok (wG_of [78] (by decide +kernel) (by decide +kernel)) (by decide +kernel), mth_ok (List.forall_mem_cons.mpr ⟨m_0 cal_X6_hasCell (wG_t2 50 (by decide +kernel) rfl), List.forall_mem_nil _⟩), thr_ok (by intro q h; cases h), cls_ok (by intro q h; cases h), c32_ok (by intro q h; cases h), c64_ok (by intro q h; cases h), an_ok 0 (by decide +kernel) (fun h => absurd rfl h) (fun _ => by decide +kernel), (rows_ok mr_X6_setLetter).2, rfl, hnd_0⟩
set_option maxRecDepth 20000 in
theorem ms_X6_setLetter : MStat 62 := ⟨mo_X6_setLetter, by decide +kernel, ret_ok (by decide +kernel)⟩
set_option maxRecDepth 20000 in
theorem mr_X6_emptyCells : rowsC RX6 cX6_emptyCells 3 "emptyCells" mi_X6_emptyCells = true := by decide +kernel
set_option maxRecDepth 20000 in
theorem mo_X6_emptyCells : MOk RX6 cX6_emptyCells 3 "emptyCells" mi_X6_emptyCells [] := ⟨(rows_ok mr_X6_emptyCells).1, fld_ok (wG_of [59, 62] (by decide +kernel) (by decide +kernel)) (by decide +kernel), mth_ok (List.forall_mem_cons.mpr ⟨m_0 cal_X6_letterAt (wG_t2 46 (by decide +kernel) rfl), List.forall_mem_nil _⟩), thr_ok (by intro q h; cases h), cls_ok (by intro q h; cases h), c32_ok (by intro q h; cases h), c64_ok (by intro q h; cases h), an_ok 0 (by decide +kernel) (fun h => absurd rfl h) (fun _ => by decide +kernel), (rows_ok mr_X6_emptyCells).2, rfl, hnd_0⟩
set_option maxRecDepth 20000 in
theorem ms_X6_emptyCells : MStat 63 := ⟨mo_X6_emptyCells, by decide +kernel, ret_ok (by decide +kernel)⟩
set_option maxRecDepth 20000 in
theorem mr_X6_isPlace : rowsC RX6 cX6_isPlace 3 "isPlace" mi_X6_isPlace = true := by decide +kernel
set_option maxRecDepth 20000 in
theorem mo_X6_isPlace : MOk RX6 cX6_isPlace 3 "isPlace" mi_X6_isPlace [] := ⟨(rows_ok mr_X6_isPlace).1, fld_ok (wG_of [59, 62] (by decide +kernel) (by decide +kernel)) (by decide +kernel), mth_ok (by intro q h; cases h), thr_ok (by intro q h; cases h), cls_ok (by intro q h; cases h), c32_ok (by intro q h; cases h), c64_ok (by intro q h; cases h), an_ok 0 (by decide +kernel) (fun h => absurd rfl h) (fun _ => by decide +kernel), (rows_ok mr_X6_isPlace).2, rfl, hnd_0⟩
set_option maxRecDepth 20000 in
theorem ms_X6_isPlace : MStat 64 := ⟨mo_X6_isPlace, by decide +kernel, ret_ok (by decide +kernel)⟩
set_option maxRecDepth 20000 in
theorem mr_X6_hasBar : rowsC RX6 cX6_hasBar 5 "hasBar" mi_X6_hasBar = true := by decide +kernel
set_option maxRecDepth 20000 in
theorem mo_X6_hasBar : MOk RX6 cX6_hasBar 5 "hasBar" mi_X6_hasBar [] := ⟨(rows_ok mr_X6_hasBar).1, fld_ok (wG_of [76, 77] (by decide +kernel) (by decide +kernel)) (by decide +kernel), mth_ok (by intro q h; cases h), thr_ok (by intro q h; cases h), cls_ok (by intro q h; cases h), c32_ok (by intro q h; cases h), c64_ok (by intro q h; cases h), an_ok 0 (by decide +kernel) (fun h => absurd rfl h) (fun _ => by decide +kernel), (rows_ok mr_X6_hasBar).2, rfl, hnd_0⟩
set_option maxRecDepth 20000 in
theorem ms_X6_hasBar : MStat 65 := ⟨mo_X6_hasBar, by decide +kernel, ret_ok (by decide +kernel)⟩
