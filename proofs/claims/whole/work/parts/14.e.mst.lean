set_option maxRecDepth 20000 in
theorem mr_L_erase : rowsC RL cL_erase 4 "erase" mi_L_erase = true := by decide +kernel
set_option maxRecDepth 20000 in
theorem mo_L_erase : MOk RL cL_erase 4 "erase" mi_L_erase [(0, 9, 12, 28)] := ⟨(rows_ok mr_L_erase).1, fld_ok (wG_of [] (by decide +kernel) (by decide +kernel)) (by decide +kernel), mth_ok (List.forall_mem_cons.mpr ⟨m_0 cal_X8_erase (wG_t4 149 (by decide +kernel) rfl), List.forall_mem_nil _⟩), thr_ok (by intro q h; cases h), cls_ok (by intro q h; cases h), c32_ok (by intro q h; cases h), c64_ok (by intro q h; cases h), an_ok 0 (by decide +kernel) (fun h => absurd rfl h) (fun _ => by decide +kernel), (rows_ok mr_L_erase).2, rfl, hnd_1 (⟨rfl, rfl, by decide, by decide +kernel, wG_t3 219 (by decide +kernel) rfl, by decide, Or.inr ⟨3, rfl, by decide +kernel, rfl⟩⟩)⟩
set_option maxRecDepth 20000 in
theorem ms_L_erase : MStat 222 := ⟨mo_L_erase, by decide +kernel, ret_ok (by decide +kernel)⟩
set_option maxRecDepth 20000 in
theorem mr_L_undo : rowsC RL cL_undo 3 "undo" mi_L_undo = true := by decide +kernel
set_option maxRecDepth 20000 in
theorem mo_L_undo : MOk RL cL_undo 3 "undo" mi_L_undo [(0, 8, 11, 15)] := ⟨(rows_ok mr_L_undo).1, fld_ok (wG_of [] (by decide +kernel) (by decide +kernel)) (by decide +kernel), mth_ok (List.forall_mem_cons.mpr ⟨m_0 cal_X8_undo (wG_t4 162 (by decide +kernel) rfl), List.forall_mem_nil _⟩), thr_ok (by intro q h; cases h), cls_ok (by intro q h; cases h), c32_ok (by intro q h; cases h), c64_ok (by intro q h; cases h), an_ok 0 (by decide +kernel) (fun h => absurd rfl h) (fun _ => by decide +kernel), (rows_ok mr_L_undo).2, rfl, hnd_1 (⟨rfl, rfl, by decide, by decide +kernel, wG_t3 84 (by decide +kernel) rfl, by decide, Or.inr ⟨2, rfl, by decide +kernel, rfl⟩⟩)⟩
set_option maxRecDepth 20000 in
theorem ms_L_undo : MStat 223 := ⟨mo_L_undo, by decide +kernel, ret_ok (by decide +kernel)⟩
set_option maxRecDepth 20000 in
theorem mr_L_runScript : rowsC RL cL_runScript 6 "runScript" mi_L_runScript = true := by decide +kernel
set_option maxRecDepth 20000 in
theorem mo_L_runScript : MOk RL cL_runScript 6 "runScript" mi_L_runScript [(0, 11, 14, 13)] := ⟨(rows_ok mr_L_runScript).1, fld_ok (wG_of [] (by decide +kernel) (by decide +kernel)) (by decide +kernel), mth_ok (List.forall_mem_cons.mpr ⟨m_0 cal_X8_runScript (wG_t4 174 (by decide +kernel) rfl), List.forall_mem_nil _⟩), thr_ok (by intro q h; cases h), cls_ok (by intro q h; cases h), c32_ok (by intro q h; cases h), c64_ok (by intro q h; cases h), an_ok 0 (by decide +kernel) (fun h => absurd rfl h) (fun _ => by decide +kernel), (rows_ok mr_L_runScript).2, rfl, hnd_1 (⟨rfl, rfl, by decide, by decide +kernel, wG_t3 83 (by decide +kernel) rfl, by decide, Or.inl ⟨by decide +kernel, rfl⟩⟩)⟩
set_option maxRecDepth 20000 in
theorem ms_L_runScript : MStat 224 := ⟨mo_L_runScript, by decide +kernel, ret_ok (by decide +kernel)⟩
set_option maxRecDepth 20000 in
theorem mr_L_simulate : rowsC RL cL_simulate 6 "simulate" mi_L_simulate = true := by decide +kernel
set_option maxRecDepth 20000 in
theorem mo_L_simulate : MOk RL cL_simulate 6 "simulate" mi_L_simulate [(0, 11, 14, 13)] := ⟨(rows_ok mr_L_simulate).1, fld_ok (wG_of [] (by decide +kernel) (by decide +kernel)) (by decide +kernel), mth_ok (List.forall_mem_cons.mpr ⟨m_0 cal_X8_simulate (wG_t4 210 (by decide +kernel) rfl), List.forall_mem_nil _⟩), thr_ok (by intro q h; cases h), cls_ok (by intro q h; cases h), c32_ok (by intro q h; cases h), c64_ok (by intro q h; cases h), an_ok 0 (by decide +kernel) (fun h => absurd rfl h) (fun _ => by decide +kernel), (rows_ok mr_L_simulate).2, rfl, hnd_1 (⟨rfl, rfl, by decide, by decide +kernel, wG_t3 83 (by decide +kernel) rfl, by decide, Or.inl ⟨by decide +kernel, rfl⟩⟩)⟩
set_option maxRecDepth 20000 in
theorem ms_L_simulate : MStat 225 := ⟨mo_L_simulate, by decide +kernel, ret_ok (by decide +kernel)⟩
set_option maxRecDepth 20000 in
theorem mr_L_save : rowsC RL cL_save 4 "save" mi_L_save = true := by decide +kernel
set_option maxRecDepth 20000 in
theorem mo_L_save : MOk RL cL_save 4 "save" mi_L_save [(0, 9, 12, 28)] := ⟨(rows_ok mr_L_save).1, fld_ok (wG_of [] (by decide +kernel) (by decide +kernel)) (by decide +kernel), mth_ok (List.forall_mem_cons.mpr ⟨m_0 cal_X8_save (wG_t4 224 (by decide +kernel) rfl), List.forall_mem_nil _⟩), thr_ok (by intro q h; cases h), cls_ok (by intro q h; cases h), c32_ok (by intro q h; cases h), c64_ok (by intro q h; cases h), an_ok 0 (by decide +kernel) (fun h => absurd rfl h) (fun _ => by decide +kernel), (rows_ok mr_L_save).2, rfl, hnd_1 (⟨rfl, rfl, by decide, by decide +kernel, wG_t3 219 (by decide +kernel) rfl, by decide, Or.inr ⟨3, rfl, by decide +kernel, rfl⟩⟩)⟩
set_option maxRecDepth 20000 in
theorem ms_L_save : MStat 226 := ⟨mo_L_save, by decide +kernel, ret_ok (by decide +kernel)⟩
set_option maxRecDepth 20000 in
theorem mr_L_restore : rowsC RL cL_restore 4 "restore" mi_L_restore = true := by decide +kernel
set_option maxRecDepth 20000 in
theorem mo_L_restore : MOk RL cL_restore 4 "restore" mi_L_restore [(0, 9, 12, 28), (0, 9, 15, 15)] := ⟨(rows_ok mr_L_restore).1, fld_ok (wG_of [] (by decide +kernel) (by decide +kernel)) (by decide +kernel), mth_ok (List.forall_mem_cons.mpr ⟨m_0 cal_X8_restore (wG_t4 239 (by decide +kernel) rfl), List.forall_mem_nil _⟩), thr_ok (by intro q h; cases h), cls_ok (by intro q h; cases h), c32_ok (by intro q h; cases h), c64_ok (by intro q h; cases h), an_ok 0 (by decide +kernel) (fun h => absurd rfl h) (fun _ => by decide +kernel), (rows_ok mr_L_restore).2, rfl, hnd_2 (⟨rfl, rfl, by decide, by decide +kernel, wG_t3 219 (by decide +kernel) rfl, by decide, Or.inr ⟨3, rfl, by decide +kernel, rfl⟩⟩) (⟨rfl, rfl, by decide, by decide +kernel, wG_t3 84 (by decide +kernel) rfl, by decide, Or.inr ⟨3, rfl, by decide +kernel, rfl⟩⟩)⟩
set_option maxRecDepth 20000 in
theorem ms_L_restore : MStat 227 := ⟨mo_L_restore, by decide +kernel, ret_ok (by decide +kernel)⟩
set_option maxRecDepth 20000 in
theorem mr_L_law_0 : ((cd_L_law.drop 0).take 50).all (fun r : Nat × ARow => match lk mi_L_law.thr r.1 with
  | some _ => match r.2.1 with
    | .new _ => true
    | _ => false
  | none => chk RL cL_law 7 "law" mi_L_law r.1 r.2.1 r.2.2.1 r.2.2.2) = true := by decide +kernel
set_option maxRecDepth 20000 in
theorem mr_L_law_50 : ((cd_L_law.drop 50).take 50).all (fun r : Nat × ARow => match lk mi_L_law.thr r.1 with
  | some _ => match r.2.1 with
    | .new _ => true
    | _ => false
  | none => chk RL cL_law 7 "law" mi_L_law r.1 r.2.1 r.2.2.1 r.2.2.2) = true := by decide +kernel
set_option maxRecDepth 20000 in
theorem mr_L_law_100 : ((cd_L_law.drop 100).take 50).all (fun r : Nat × ARow => match lk mi_L_law.thr r.1 with
  | some _ => match r.2.1 with
    | .new _ => true
    | _ => false
  | none => chk RL cL_law 7 "law" mi_L_law r.1 r.2.1 r.2.2.1 r.2.2.2) = true := by decide +kernel
set_option maxRecDepth 20000 in
theorem mr_L_law_150 : ((cd_L_law.drop 150).take 50).all (fun r : Nat × ARow => match lk mi_L_law.thr r.1 with
  | some _ => match r.2.1 with
    | .new _ => true
    | _ => false
  | none => chk RL cL_law 7 "law" mi_L_law r.1 r.2.1 r.2.2.1 r.2.2.2) = true := by decide +kernel
set_option maxRecDepth 20000 in
theorem mr_L_law_200 : ((cd_L_law.drop 200).take 50).all (fun r : Nat × ARow => match lk mi_L_law.thr r.1 with
  | some _ => match r.2.1 with
    | .new _ => true
    | _ => false
  | none => chk RL cL_law 7 "law" mi_L_law r.1 r.2.1 r.2.2.1 r.2.2.2) = true := by decide +kernel
set_option maxRecDepth 20000 in
theorem mr_L_law_250 : ((cd_L_law.drop 250).take 50).all (fun r : Nat × ARow => match lk mi_L_law.thr r.1 with
  | some _ => match r.2.1 with
    | .new _ => true
    | _ => false
  | none => chk RL cL_law 7 "law" mi_L_law r.1 r.2.1 r.2.2.1 r.2.2.2) = true := by decide +kernel
set_option maxRecDepth 20000 in
theorem mr_L_law_300 : ((cd_L_law.drop 300).take 50).all (fun r : Nat × ARow => match lk mi_L_law.thr r.1 with
  | some _ => match r.2.1 with
    | .new _ => true
    | _ => false
  | none => chk RL cL_law 7 "law" mi_L_law r.1 r.2.1 r.2.2.1 r.2.2.2) = true := by decide +kernel
set_option maxRecDepth 20000 in
theorem mr_L_law_350 : ((cd_L_law.drop 350).take 50).all (fun r : Nat × ARow => match lk mi_L_law.thr r.1 with
  | some _ => match r.2.1 with
    | .new _ => true
    | _ => false
  | none => chk RL cL_law 7 "law" mi_L_law r.1 r.2.1 r.2.2.1 r.2.2.2) = true := by decide +kernel
set_option maxRecDepth 20000 in
theorem mr_L_law_400 : ((cd_L_law.drop 400).take 50).all (fun r : Nat × ARow => match lk mi_L_law.thr r.1 with
  | some _ => match r.2.1 with
    | .new _ => true
    | _ => false
  | none => chk RL cL_law 7 "law" mi_L_law r.1 r.2.1 r.2.2.1 r.2.2.2) = true := by decide +kernel
set_option maxRecDepth 20000 in
theorem mr_L_law_450 : ((cd_L_law.drop 450).take 50).all (fun r : Nat × ARow => match lk mi_L_law.thr r.1 with
  | some _ => match r.2.1 with
    | .new _ => true
    | _ => false
  | none => chk RL cL_law 7 "law" mi_L_law r.1 r.2.1 r.2.2.1 r.2.2.2) = true := by decide +kernel
set_option maxRecDepth 20000 in
theorem mr_L_law_500 : ((cd_L_law.drop 500).take 50).all (fun r : Nat × ARow => match lk mi_L_law.thr r.1 with
  | some _ => match r.2.1 with
    | .new _ => true
    | _ => false
  | none => chk RL cL_law 7 "law" mi_L_law r.1 r.2.1 r.2.2.1 r.2.2.2) = true := by decide +kernel
set_option maxRecDepth 20000 in
theorem mr_L_law_550 : ((cd_L_law.drop 550).take 50).all (fun r : Nat × ARow => match lk mi_L_law.thr r.1 with
  | some _ => match r.2.1 with
    | .new _ => true
    | _ => false
  | none => chk RL cL_law 7 "law" mi_L_law r.1 r.2.1 r.2.2.1 r.2.2.2) = true := by decide +kernel
set_option maxRecDepth 20000 in
theorem mr_L_law_600 : ((cd_L_law.drop 600).take 50).all (fun r : Nat × ARow => match lk mi_L_law.thr r.1 with
  | some _ => match r.2.1 with
    | .new _ => true
    | _ => false
  | none => chk RL cL_law 7 "law" mi_L_law r.1 r.2.1 r.2.2.1 r.2.2.2) = true := by decide +kernel
set_option maxRecDepth 20000 in
theorem mr_L_law_650 : ((cd_L_law.drop 650).take 50).all (fun r : Nat × ARow => match lk mi_L_law.thr r.1 with
  | some _ => match r.2.1 with
    | .new _ => true
    | _ => false
  | none => chk RL cL_law 7 "law" mi_L_law r.1 r.2.1 r.2.2.1 r.2.2.2) = true := by decide +kernel
set_option maxRecDepth 20000 in
theorem mr_L_law_700 : ((cd_L_law.drop 700).take 50).all (fun r : Nat × ARow => match lk mi_L_law.thr r.1 with
  | some _ => match r.2.1 with
    | .new _ => true
    | _ => false
  | none => chk RL cL_law 7 "law" mi_L_law r.1 r.2.1 r.2.2.1 r.2.2.2) = true := by decide +kernel
set_option maxRecDepth 20000 in
theorem mr_L_law_750 : ((cd_L_law.drop 750).take 50).all (fun r : Nat × ARow => match lk mi_L_law.thr r.1 with
  | some _ => match r.2.1 with
    | .new _ => true
    | _ => false
  | none => chk RL cL_law 7 "law" mi_L_law r.1 r.2.1 r.2.2.1 r.2.2.2) = true := by decide +kernel
set_option maxRecDepth 20000 in
theorem mr_L_law_800 : ((cd_L_law.drop 800).take 50).all (fun r : Nat × ARow => match lk mi_L_law.thr r.1 with
  | some _ => match r.2.1 with
    | .new _ => true
    | _ => false
  | none => chk RL cL_law 7 "law" mi_L_law r.1 r.2.1 r.2.2.1 r.2.2.2) = true := by decide +kernel
set_option maxRecDepth 20000 in
theorem mr_L_law_850 : ((cd_L_law.drop 850).take 50).all (fun r : Nat × ARow => match lk mi_L_law.thr r.1 with
  | some _ => match r.2.1 with
    | .new _ => true
    | _ => false
  | none => chk RL cL_law 7 "law" mi_L_law r.1 r.2.1 r.2.2.1 r.2.2.2) = true := by decide +kernel
set_option maxRecDepth 20000 in
theorem mr_L_law : rowsC RL cL_law 7 "law" mi_L_law = true := rows_0 (rows_cut (a := 0) mr_L_law_0 (rows_cut (a := 50) mr_L_law_50 (rows_cut (a := 100) mr_L_law_100 (rows_cut (a := 150) mr_L_law_150 (rows_cut (a := 200) mr_L_law_200 (rows_cut (a := 250) mr_L_law_250 (rows_cut (a := 300) mr_L_law_300 (rows_cut (a := 350) mr_L_law_350 (rows_cut (a := 400) mr_L_law_400 (rows_cut (a := 450) mr_L_law_450 (rows_cut (a := 500) mr_L_law_500 (rows_cut (a := 550) mr_L_law_550 (rows_cut (a := 600) mr_L_law_600 (rows_cut (a := 650) mr_L_law_650 (rows_cut (a := 700) mr_L_law_700 (rows_cut (a := 750) mr_L_law_750 (rows_cut (a := 800) mr_L_law_800 (rows_cut (a := 850) mr_L_law_850 (rows_nil (by decide +kernel))))))))))))))))))))
set_option maxRecDepth 20000 in
theorem mo_L_law : MOk RL cL_law 7 "law" mi_L_law [] := ⟨(rows_ok mr_L_law).1, fld_ok (wG_of [] (by decide +kernel) (by decide +kernel)) (by decide +kernel), mth_ok (List.forall_mem_cons.mpr ⟨m_2 cal_X8_init (wG_t1 23 (by decide +kernel) rfl), List.forall_mem_cons.mpr ⟨m_2 cal_X9_init (wG_t5 14 (by decide +kernel) rfl), List.forall_mem_cons.mpr ⟨m_7 cal_L_append (wG_t3 80 (by decide +kernel) rfl), List.forall_mem_cons.mpr ⟨m_0 cal_X9_append (wG_t5 111 (by decide +kernel) rfl), List.forall_mem_cons.mpr ⟨m_0 cal_X9_thrown (wG_t5 107 (by decide +kernel) rfl), List.forall_mem_cons.mpr ⟨m_0 cal_X8_clearText (wG_t2 35 (by decide +kernel) rfl), List.forall_mem_cons.mpr ⟨m_0 cal_X9_clearText (wG_t5 115 (by decide +kernel) rfl), List.forall_mem_cons.mpr ⟨m_0 cal_X8_errorPosition (wG_t2 43 (by decide +kernel) rfl), List.forall_mem_cons.mpr ⟨m_0 cal_X9_errorPosition (wG_t5 119 (by decide +kernel) rfl), List.forall_mem_cons.mpr ⟨m_7 cal_L_load (wG_t3 181 (by decide +kernel) rfl), List.forall_mem_cons.mpr ⟨m_0 cal_X9_load (wG_t5 141 (by decide +kernel) rfl), List.forall_mem_cons.mpr ⟨m_7 cal_L_about (wG_t3 197 (by decide +kernel) rfl), List.forall_mem_cons.mpr ⟨m_0 cal_X9_about (wG_t5 148 (by decide +kernel) rfl), List.forall_mem_cons.mpr ⟨m_7 cal_L_cell (wG_t3 216 (by decide +kernel) rfl), List.forall_mem_cons.mpr ⟨m_0 cal_X9_cell (wG_t5 164 (by decide +kernel) rfl), List.forall_mem_cons.mpr ⟨m_7 cal_L_entry (wG_t4 13 (by decide +kernel) rfl), List.forall_mem_cons.mpr ⟨m_0 cal_X9_entry (wG_t5 172 (by decide +kernel) rfl), List.forall_mem_cons.mpr ⟨m_7 cal_L_word (wG_t4 35 (by decide +kernel) rfl), List.forall_mem_cons.mpr ⟨m_0 cal_X9_word (wG_t5 204 (by decide +kernel) rfl), List.forall_mem_cons.mpr ⟨m_7 cal_L_fits (wG_t4 50 (by decide +kernel) rfl), List.forall_mem_cons.mpr ⟨m_0 cal_X9_fits (wG_t5 212 (by decide +kernel) rfl), List.forall_mem_cons.mpr ⟨m_7 cal_L_rule (wG_t4 57 (by decide +kernel) rfl), List.forall_mem_cons.mpr ⟨m_0 cal_X9_rule (wG_t5 220 (by decide +kernel) rfl), List.forall_mem_cons.mpr ⟨m_0 cal_X8_readings (wG_t2 123 (by decide +kernel) rfl), List.forall_mem_cons.mpr ⟨m_0 cal_X9_readings (wG_t6 7 (by decide +kernel) rfl), List.forall_mem_cons.mpr ⟨m_7 cal_L_reading (wG_t4 66 (by decide +kernel) rfl), List.forall_mem_cons.mpr ⟨m_0 cal_X9_reading (wG_t6 24 (by decide +kernel) rfl), List.forall_mem_cons.mpr ⟨m_7 cal_L_put (wG_t4 78 (by decide +kernel) rfl), List.forall_mem_cons.mpr ⟨m_0 cal_X9_put (wG_t6 28 (by decide +kernel) rfl), List.forall_mem_cons.mpr ⟨m_7 cal_L_setBar (wG_t4 100 (by decide +kernel) rfl), List.forall_mem_cons.mpr ⟨m_0 cal_X9_setBar (wG_t6 39 (by decide +kernel) rfl), List.forall_mem_cons.mpr ⟨m_7 cal_L_addWord (wG_t4 108 (by decide +kernel) rfl), List.forall_mem_cons.mpr ⟨m_0 cal_X9_addWord (wG_t6 51 (by decide +kernel) rfl), List.forall_mem_cons.mpr ⟨m_7 cal_L_setLine (wG_t4 123 (by decide +kernel) rfl), List.forall_mem_cons.mpr ⟨m_0 cal_X9_setLine (wG_t6 59 (by decide +kernel) rfl), List.forall_mem_cons.mpr ⟨m_7 cal_L_write (wG_t4 132 (by decide +kernel) rfl), List.forall_mem_cons.mpr ⟨m_0 cal_X9_write (wG_t6 63 (by decide +kernel) rfl), List.forall_mem_cons.mpr ⟨m_7 cal_L_erase (wG_t4 146 (by decide +kernel) rfl), List.forall_mem_cons.mpr ⟨m_0 cal_X9_erase (wG_t6 71 (by decide +kernel) rfl), List.forall_mem_cons.mpr ⟨m_7 cal_L_undo (wG_t4 159 (by decide +kernel) rfl), List.forall_mem_cons.mpr ⟨m_0 cal_X9_undo (wG_t6 79 (by decide +kernel) rfl), List.forall_mem_cons.mpr ⟨m_0 cal_X8_possible (wG_t2 177 (by decide +kernel) rfl), List.forall_mem_cons.mpr ⟨m_0 cal_X9_possible (wG_t6 83 (by decide +kernel) rfl), List.forall_mem_cons.mpr ⟨m_0 cal_X8_fillings (wG_t2 181 (by decide +kernel) rfl), List.forall_mem_cons.mpr ⟨m_0 cal_X9_fillings (wG_t6 87 (by decide +kernel) rfl), List.forall_mem_cons.mpr ⟨m_0 cal_X8_mend (wG_t3 3 (by decide +kernel) rfl), List.forall_mem_cons.mpr ⟨m_0 cal_X9_mend (wG_t6 95 (by decide +kernel) rfl), List.forall_mem_cons.mpr ⟨m_0 cal_X8_hardest (wG_t3 67 (by decide +kernel) rfl), List.forall_mem_cons.mpr ⟨m_0 cal_X9_hardest (wG_t6 107 (by decide +kernel) rfl), List.forall_mem_cons.mpr ⟨m_7 cal_L_runScript (wG_t4 171 (by decide +kernel) rfl), List.forall_mem_cons.mpr ⟨m_0 cal_X9_runScript (wG_t6 111 (by decide +kernel) rfl), List.forall_mem_cons.mpr ⟨m_7 cal_L_simulate (wG_t4 207 (by decide +kernel) rfl), List.forall_mem_cons.mpr ⟨m_0 cal_X9_simulate (wG_t6 138 (by decide +kernel) rfl), List.forall_mem_cons.mpr ⟨m_7 cal_L_save (wG_t4 221 (by decide +kernel) rfl), List.forall_mem_cons.mpr ⟨m_0 cal_X9_save (wG_t6 144 (by decide +kernel) rfl), List.forall_mem_cons.mpr ⟨m_7 cal_L_restore (wG_t4 236 (by decide +kernel) rfl), List.forall_mem_cons.mpr ⟨m_0 cal_X9_restore (wG_t6 151 (by decide +kernel) rfl), List.forall_mem_nil _⟩⟩⟩⟩⟩⟩⟩⟩⟩⟩⟩⟩⟩⟩⟩⟩⟩⟩⟩⟩⟩⟩⟩⟩⟩⟩⟩⟩⟩⟩⟩⟩⟩⟩⟩⟩⟩⟩⟩⟩⟩⟩⟩⟩⟩⟩⟩⟩⟩⟩⟩⟩⟩⟩⟩⟩⟩), thr_ok (by intro q h; cases h), cls_ok (List.forall_mem_cons.mpr ⟨⟨_, rfl, wG_t1 21 (by decide +kernel) rfl, wG_t1 22 (by decide +kernel) rfl, wG_t1 1 (by decide +kernel) rfl⟩, List.forall_mem_cons.mpr ⟨⟨_, rfl, wG_t5 12 (by decide +kernel) rfl, wG_t5 13 (by decide +kernel) rfl, wG_t1 9 (by decide +kernel) rfl⟩, List.forall_mem_nil _⟩⟩), c32_ok (List.forall_mem_cons.mpr ⟨Or.inr (by decide +kernel), List.forall_mem_nil _⟩), c64_ok (List.forall_mem_cons.mpr ⟨Or.inl (wG_t6 155 (by decide +kernel) rfl), List.forall_mem_nil _⟩), an_ok 0 (by decide +kernel) (fun h => absurd rfl h) (fun _ => by decide +kernel), (rows_ok mr_L_law).2, rfl, hnd_0⟩
set_option maxRecDepth 20000 in
theorem ms_L_law : MStat 228 := ⟨mo_L_law, by decide +kernel, ret_ok (by decide +kernel)⟩
