set_option maxRecDepth 20000 in
theorem mr_L_knight : rowsC RL cL_knight 5 "knight" mi_L_knight = true := by decide +kernel
set_option maxRecDepth 20000 in
theorem mo_L_knight : MOk RL cL_knight 5 "knight" mi_L_knight [] := ⟨(rows_ok mr_L_knight).1, fld_ok (wG_of [] (by decide +kernel) (by decide +kernel)) (by decide +kernel), mth_ok (by intro q h; cases h), thr_ok (by intro q h; cases h), cls_ok (by intro q h; cases h), c32_ok (by intro q h; cases h), c64_ok (by intro q h; cases h), an_ok 0 (by decide +kernel) (fun h => absurd rfl h) (fun _ => by decide +kernel), (rows_ok mr_L_knight).2, rfl, hnd_0⟩
set_option maxRecDepth 20000 in
theorem ms_L_knight : MStat 240 := ⟨mo_L_knight, by decide +kernel, ret_ok (by decide +kernel)⟩
set_option maxRecDepth 20000 in
theorem mr_L_readings_0 : ((cd_L_readings.drop 0).take 50).all (fun r : Nat × ARow => match lk mi_L_readings.thr r.1 with
  | some _ => match r.2.1 with
    | .new _ => true
    | _ => false
  | none => chk RL cL_readings 14 "readings" mi_L_readings r.1 r.2.1 r.2.2.1 r.2.2.2) = true := by decide +kernel
set_option maxRecDepth 20000 in
theorem mr_L_readings_50 : ((cd_L_readings.drop 50).take 50).all (fun r : Nat × ARow => match lk mi_L_readings.thr r.1 with
  | some _ => match r.2.1 with
    | .new _ => true
    | _ => false
  | none => chk RL cL_readings 14 "readings" mi_L_readings r.1 r.2.1 r.2.2.1 r.2.2.2) = true := by decide +kernel
set_option maxRecDepth 20000 in
theorem mr_L_readings_100 : ((cd_L_readings.drop 100).take 50).all (fun r : Nat × ARow => match lk mi_L_readings.thr r.1 with
  | some _ => match r.2.1 with
    | .new _ => true
    | _ => false
  | none => chk RL cL_readings 14 "readings" mi_L_readings r.1 r.2.1 r.2.2.1 r.2.2.2) = true := by decide +kernel
set_option maxRecDepth 20000 in
theorem mr_L_readings_150 : ((cd_L_readings.drop 150).take 50).all (fun r : Nat × ARow => match lk mi_L_readings.thr r.1 with
  | some _ => match r.2.1 with
    | .new _ => true
    | _ => false
  | none => chk RL cL_readings 14 "readings" mi_L_readings r.1 r.2.1 r.2.2.1 r.2.2.2) = true := by decide +kernel
set_option maxRecDepth 20000 in
theorem mr_L_readings : rowsC RL cL_readings 14 "readings" mi_L_readings = true := rows_0 (rows_cut (a := 0) mr_L_readings_0 (rows_cut (a := 50) mr_L_readings_50 (rows_cut (a := 100) mr_L_readings_100 (rows_cut (a := 150) mr_L_readings_150 (rows_nil (by decide +kernel))))))
set_option maxRecDepth 20000 in
theorem mo_L_readings : MOk RL cL_readings 14 "readings" mi_L_readings [] := ⟨(rows_ok mr_L_readings).1, fld_ok (wG_of [] (by decide +kernel) (by decide +kernel)) (by decide +kernel), mth_ok (List.forall_mem_cons.mpr ⟨m_1 cal_L_in (wG_t3 172 (by decide +kernel) rfl), List.forall_mem_cons.mpr ⟨m_1 cal_L_knight (wG_t3 187 (by decide +kernel) rfl), List.forall_mem_nil _⟩⟩), thr_ok (by intro q h; cases h), cls_ok (by intro q h; cases h), c32_ok (by intro q h; cases h), c64_ok (by intro q h; cases h), an_ok 0 (by decide +kernel) (fun h => absurd rfl h) (fun _ => by decide +kernel), (rows_ok mr_L_readings).2, rfl, hnd_0⟩
set_option maxRecDepth 20000 in
theorem ms_L_readings : MStat 241 := ⟨mo_L_readings, by decide +kernel, ret_ok (by decide +kernel)⟩
set_option maxRecDepth 20000 in
theorem mr_L_fits : rowsC RL cL_fits 9 "fits" mi_L_fits = true := by decide +kernel
set_option maxRecDepth 20000 in
theorem mo_L_fits : MOk RL cL_fits 9 "fits" mi_L_fits [] := ⟨(rows_ok mr_L_fits).1, fld_ok (wG_of [] (by decide +kernel) (by decide +kernel)) (by decide +kernel), mth_ok (List.forall_mem_cons.mpr ⟨m_1 cal_L_length (wG_t3 175 (by decide +kernel) rfl), List.forall_mem_nil _⟩), thr_ok (by intro q h; cases h), cls_ok (by intro q h; cases h), c32_ok (by intro q h; cases h), c64_ok (by intro q h; cases h), an_ok 0 (by decide +kernel) (fun h => absurd rfl h) (fun _ => by decide +kernel), (rows_ok mr_L_fits).2, rfl, hnd_0⟩
set_option maxRecDepth 20000 in
theorem ms_L_fits : MStat 242 := ⟨mo_L_fits, by decide +kernel, ret_ok (by decide +kernel)⟩
set_option maxRecDepth 20000 in
theorem mr_L_fillings_0 : ((cd_L_fillings.drop 0).take 50).all (fun r : Nat × ARow => match lk mi_L_fillings.thr r.1 with
  | some _ => match r.2.1 with
    | .new _ => true
    | _ => false
  | none => chk RL cL_fillings 16 "fillings" mi_L_fillings r.1 r.2.1 r.2.2.1 r.2.2.2) = true := by decide +kernel
set_option maxRecDepth 20000 in
theorem mr_L_fillings_50 : ((cd_L_fillings.drop 50).take 50).all (fun r : Nat × ARow => match lk mi_L_fillings.thr r.1 with
  | some _ => match r.2.1 with
    | .new _ => true
    | _ => false
  | none => chk RL cL_fillings 16 "fillings" mi_L_fillings r.1 r.2.1 r.2.2.1 r.2.2.2) = true := by decide +kernel
set_option maxRecDepth 20000 in
theorem mr_L_fillings_100 : ((cd_L_fillings.drop 100).take 50).all (fun r : Nat × ARow => match lk mi_L_fillings.thr r.1 with
  | some _ => match r.2.1 with
    | .new _ => true
    | _ => false
  | none => chk RL cL_fillings 16 "fillings" mi_L_fillings r.1 r.2.1 r.2.2.1 r.2.2.2) = true := by decide +kernel
set_option maxRecDepth 20000 in
theorem mr_L_fillings_150 : ((cd_L_fillings.drop 150).take 50).all (fun r : Nat × ARow => match lk mi_L_fillings.thr r.1 with
  | some _ => match r.2.1 with
    | .new _ => true
    | _ => false
  | none => chk RL cL_fillings 16 "fillings" mi_L_fillings r.1 r.2.1 r.2.2.1 r.2.2.2) = true := by decide +kernel
set_option maxRecDepth 20000 in
theorem mr_L_fillings_200 : ((cd_L_fillings.drop 200).take 50).all (fun r : Nat × ARow => match lk mi_L_fillings.thr r.1 with
  | some _ => match r.2.1 with
    | .new _ => true
    | _ => false
  | none => chk RL cL_fillings 16 "fillings" mi_L_fillings r.1 r.2.1 r.2.2.1 r.2.2.2) = true := by decide +kernel
set_option maxRecDepth 20000 in
theorem mr_L_fillings : rowsC RL cL_fillings 16 "fillings" mi_L_fillings = true := rows_0 (rows_cut (a := 0) mr_L_fillings_0 (rows_cut (a := 50) mr_L_fillings_50 (rows_cut (a := 100) mr_L_fillings_100 (rows_cut (a := 150) mr_L_fillings_150 (rows_cut (a := 200) mr_L_fillings_200 (rows_nil (by decide +kernel)))))))
set_option maxRecDepth 20000 in
theorem mo_L_fillings : MOk RL cL_fillings 16 "fillings" mi_L_fillings [] := ⟨(rows_ok mr_L_fillings).1, fld_ok (wG_of [] (by decide +kernel) (by decide +kernel)) (by decide +kernel), mth_ok (List.forall_mem_cons.mpr ⟨m_1 cal_L_starts (wG_t3 181 (by decide +kernel) rfl), List.forall_mem_cons.mpr ⟨m_1 cal_L_fits (wG_t3 193 (by decide +kernel) rfl), List.forall_mem_nil _⟩⟩), thr_ok (by intro q h; cases h), cls_ok (by intro q h; cases h), c32_ok (by intro q h; cases h), c64_ok (by intro q h; cases h), an_ok 0 (by decide +kernel) (fun h => absurd rfl h) (fun _ => by decide +kernel), (rows_ok mr_L_fillings).2, rfl, hnd_0⟩
set_option maxRecDepth 20000 in
theorem ms_L_fillings : MStat 243 := ⟨mo_L_fillings, by decide +kernel, ret_ok (by decide +kernel)⟩
set_option maxRecDepth 20000 in
theorem mr_L_cells_0 : ((cd_L_cells.drop 0).take 50).all (fun r : Nat × ARow => match lk mi_L_cells.thr r.1 with
  | some _ => match r.2.1 with
    | .new _ => true
    | _ => false
  | none => chk RL cL_cells 11 "cells" mi_L_cells r.1 r.2.1 r.2.2.1 r.2.2.2) = true := by decide +kernel
set_option maxRecDepth 20000 in
theorem mr_L_cells_50 : ((cd_L_cells.drop 50).take 50).all (fun r : Nat × ARow => match lk mi_L_cells.thr r.1 with
  | some _ => match r.2.1 with
    | .new _ => true
    | _ => false
  | none => chk RL cL_cells 11 "cells" mi_L_cells r.1 r.2.1 r.2.2.1 r.2.2.2) = true := by decide +kernel
set_option maxRecDepth 20000 in
theorem mr_L_cells_100 : ((cd_L_cells.drop 100).take 50).all (fun r : Nat × ARow => match lk mi_L_cells.thr r.1 with
  | some _ => match r.2.1 with
    | .new _ => true
    | _ => false
  | none => chk RL cL_cells 11 "cells" mi_L_cells r.1 r.2.1 r.2.2.1 r.2.2.2) = true := by decide +kernel
set_option maxRecDepth 20000 in
theorem mr_L_cells_150 : ((cd_L_cells.drop 150).take 50).all (fun r : Nat × ARow => match lk mi_L_cells.thr r.1 with
  | some _ => match r.2.1 with
    | .new _ => true
    | _ => false
  | none => chk RL cL_cells 11 "cells" mi_L_cells r.1 r.2.1 r.2.2.1 r.2.2.2) = true := by decide +kernel
set_option maxRecDepth 20000 in
theorem mr_L_cells_200 : ((cd_L_cells.drop 200).take 50).all (fun r : Nat × ARow => match lk mi_L_cells.thr r.1 with
  | some _ => match r.2.1 with
    | .new _ => true
    | _ => false
  | none => chk RL cL_cells 11 "cells" mi_L_cells r.1 r.2.1 r.2.2.1 r.2.2.2) = true := by decide +kernel
set_option maxRecDepth 20000 in
theorem mr_L_cells : rowsC RL cL_cells 11 "cells" mi_L_cells = true := rows_0 (rows_cut (a := 0) mr_L_cells_0 (rows_cut (a := 50) mr_L_cells_50 (rows_cut (a := 100) mr_L_cells_100 (rows_cut (a := 150) mr_L_cells_150 (rows_cut (a := 200) mr_L_cells_200 (rows_nil (by decide +kernel)))))))
set_option maxRecDepth 20000 in
theorem mo_L_cells : MOk RL cL_cells 11 "cells" mi_L_cells [] := ⟨(rows_ok mr_L_cells).1, fld_ok (wG_of [] (by decide +kernel) (by decide +kernel)) (by decide +kernel), mth_ok (List.forall_mem_cons.mpr ⟨m_1 cal_L_starts (wG_t3 181 (by decide +kernel) rfl), List.forall_mem_cons.mpr ⟨m_1 cal_L_in (wG_t3 172 (by decide +kernel) rfl), List.forall_mem_cons.mpr ⟨m_0 cal_X8_cell (wG_t3 199 (by decide +kernel) rfl), List.forall_mem_cons.mpr ⟨m_1 cal_L_entry (wG_t3 210 (by decide +kernel) rfl), List.forall_mem_cons.mpr ⟨m_1 cal_L_clue (wG_t3 213 (by decide +kernel) rfl), List.forall_mem_cons.mpr ⟨m_0 cal_X8_about (wG_t2 30 (by decide +kernel) rfl), List.forall_mem_nil _⟩⟩⟩⟩⟩⟩), thr_ok (by intro q h; cases h), cls_ok (by intro q h; cases h), c32_ok (by intro q h; cases h), c64_ok (by intro q h; cases h), an_ok 0 (by decide +kernel) (fun h => absurd rfl h) (fun _ => by decide +kernel), (rows_ok mr_L_cells).2, rfl, hnd_0⟩
set_option maxRecDepth 20000 in
theorem ms_L_cells : MStat 244 := ⟨mo_L_cells, by decide +kernel, ret_ok (by decide +kernel)⟩
set_option maxRecDepth 20000 in
theorem mr_L_entries_0 : ((cd_L_entries.drop 0).take 50).all (fun r : Nat × ARow => match lk mi_L_entries.thr r.1 with
  | some _ => match r.2.1 with
    | .new _ => true
    | _ => false
  | none => chk RL cL_entries 15 "entries" mi_L_entries r.1 r.2.1 r.2.2.1 r.2.2.2) = true := by decide +kernel
set_option maxRecDepth 20000 in
theorem mr_L_entries_50 : ((cd_L_entries.drop 50).take 50).all (fun r : Nat × ARow => match lk mi_L_entries.thr r.1 with
  | some _ => match r.2.1 with
    | .new _ => true
    | _ => false
  | none => chk RL cL_entries 15 "entries" mi_L_entries r.1 r.2.1 r.2.2.1 r.2.2.2) = true := by decide +kernel
set_option maxRecDepth 20000 in
theorem mr_L_entries_100 : ((cd_L_entries.drop 100).take 50).all (fun r : Nat × ARow => match lk mi_L_entries.thr r.1 with
  | some _ => match r.2.1 with
    | .new _ => true
    | _ => false
  | none => chk RL cL_entries 15 "entries" mi_L_entries r.1 r.2.1 r.2.2.1 r.2.2.2) = true := by decide +kernel
set_option maxRecDepth 20000 in
theorem mr_L_entries_150 : ((cd_L_entries.drop 150).take 50).all (fun r : Nat × ARow => match lk mi_L_entries.thr r.1 with
  | some _ => match r.2.1 with
    | .new _ => true
    | _ => false
  | none => chk RL cL_entries 15 "entries" mi_L_entries r.1 r.2.1 r.2.2.1 r.2.2.2) = true := by decide +kernel
set_option maxRecDepth 20000 in
theorem mr_L_entries_200 : ((cd_L_entries.drop 200).take 50).all (fun r : Nat × ARow => match lk mi_L_entries.thr r.1 with
  | some _ => match r.2.1 with
    | .new _ => true
    | _ => false
  | none => chk RL cL_entries 15 "entries" mi_L_entries r.1 r.2.1 r.2.2.1 r.2.2.2) = true := by decide +kernel
set_option maxRecDepth 20000 in
theorem mr_L_entries : rowsC RL cL_entries 15 "entries" mi_L_entries = true := rows_0 (rows_cut (a := 0) mr_L_entries_0 (rows_cut (a := 50) mr_L_entries_50 (rows_cut (a := 100) mr_L_entries_100 (rows_cut (a := 150) mr_L_entries_150 (rows_cut (a := 200) mr_L_entries_200 (rows_nil (by decide +kernel)))))))
set_option maxRecDepth 20000 in
theorem mo_L_entries : MOk RL cL_entries 15 "entries" mi_L_entries [] := ⟨(rows_ok mr_L_entries).1, fld_ok (wG_of [] (by decide +kernel) (by decide +kernel)) (by decide +kernel), mth_ok (List.forall_mem_cons.mpr ⟨m_1 cal_L_length (wG_t3 175 (by decide +kernel) rfl), List.forall_mem_cons.mpr ⟨m_1 cal_L_starts (wG_t3 181 (by decide +kernel) rfl), List.forall_mem_cons.mpr ⟨m_1 cal_L_in (wG_t3 172 (by decide +kernel) rfl), List.forall_mem_cons.mpr ⟨m_1 cal_L_fits (wG_t3 193 (by decide +kernel) rfl), List.forall_mem_cons.mpr ⟨m_1 cal_L_entry (wG_t3 210 (by decide +kernel) rfl), List.forall_mem_cons.mpr ⟨m_1 cal_L_clue (wG_t3 213 (by decide +kernel) rfl), List.forall_mem_cons.mpr ⟨m_0 cal_X8_entry (wG_t3 219 (by decide +kernel) rfl), List.forall_mem_cons.mpr ⟨m_0 cal_X8_fits (wG_t4 3 (by decide +kernel) rfl), List.forall_mem_cons.mpr ⟨m_0 cal_X8_hardest (wG_t4 11 (by decide +kernel) rfl), List.forall_mem_nil _⟩⟩⟩⟩⟩⟩⟩⟩⟩), thr_ok (by intro q h; cases h), cls_ok (by intro q h; cases h), c32_ok (by intro q h; cases h), c64_ok (by intro q h; cases h), an_ok 0 (by decide +kernel) (fun h => absurd rfl h) (fun _ => by decide +kernel), (rows_ok mr_L_entries).2, rfl, hnd_0⟩
set_option maxRecDepth 20000 in
theorem ms_L_entries : MStat 245 := ⟨mo_L_entries, by decide +kernel, ret_ok (by decide +kernel)⟩
set_option maxRecDepth 20000 in
theorem mr_L_mend_0 : ((cd_L_mend.drop 0).take 50).all (fun r : Nat × ARow => match lk mi_L_mend.thr r.1 with
  | some _ => match r.2.1 with
    | .new _ => true
    | _ => false
  | none => chk RL cL_mend 7 "mend" mi_L_mend r.1 r.2.1 r.2.2.1 r.2.2.2) = true := by decide +kernel
set_option maxRecDepth 20000 in
theorem mr_L_mend_50 : ((cd_L_mend.drop 50).take 50).all (fun r : Nat × ARow => match lk mi_L_mend.thr r.1 with
  | some _ => match r.2.1 with
    | .new _ => true
    | _ => false
  | none => chk RL cL_mend 7 "mend" mi_L_mend r.1 r.2.1 r.2.2.1 r.2.2.2) = true := by decide +kernel
set_option maxRecDepth 20000 in
theorem mr_L_mend : rowsC RL cL_mend 7 "mend" mi_L_mend = true := rows_0 (rows_cut (a := 0) mr_L_mend_0 (rows_cut (a := 50) mr_L_mend_50 (rows_nil (by decide +kernel))))
set_option maxRecDepth 20000 in
theorem mo_L_mend : MOk RL cL_mend 7 "mend" mi_L_mend [] := ⟨(rows_ok mr_L_mend).1, fld_ok (wG_of [] (by decide +kernel) (by decide +kernel)) (by decide +kernel), mth_ok (List.forall_mem_cons.mpr ⟨m_1 cal_L_kept (wG_t4 18 (by decide +kernel) rfl), List.forall_mem_nil _⟩), thr_ok (by intro q h; cases h), cls_ok (by intro q h; cases h), c32_ok (by intro q h; cases h), c64_ok (by intro q h; cases h), an_ok 0 (by decide +kernel) (fun h => absurd rfl h) (fun _ => by decide +kernel), (rows_ok mr_L_mend).2, rfl, hnd_0⟩
set_option maxRecDepth 20000 in
theorem ms_L_mend : MStat 246 := ⟨mo_L_mend, by decide +kernel, ret_ok (by decide +kernel)⟩
set_option maxRecDepth 20000 in
theorem mr_L_typed_0 : ((cd_L_typed.drop 0).take 50).all (fun r : Nat × ARow => match lk mi_L_typed.thr r.1 with
  | some _ => match r.2.1 with
    | .new _ => true
    | _ => false
  | none => chk RL cL_typed 10 "typed" mi_L_typed r.1 r.2.1 r.2.2.1 r.2.2.2) = true := by decide +kernel
set_option maxRecDepth 20000 in
theorem mr_L_typed_50 : ((cd_L_typed.drop 50).take 50).all (fun r : Nat × ARow => match lk mi_L_typed.thr r.1 with
  | some _ => match r.2.1 with
    | .new _ => true
    | _ => false
  | none => chk RL cL_typed 10 "typed" mi_L_typed r.1 r.2.1 r.2.2.1 r.2.2.2) = true := by decide +kernel
set_option maxRecDepth 20000 in
theorem mr_L_typed_100 : ((cd_L_typed.drop 100).take 50).all (fun r : Nat × ARow => match lk mi_L_typed.thr r.1 with
  | some _ => match r.2.1 with
    | .new _ => true
    | _ => false
  | none => chk RL cL_typed 10 "typed" mi_L_typed r.1 r.2.1 r.2.2.1 r.2.2.2) = true := by decide +kernel
set_option maxRecDepth 20000 in
theorem mr_L_typed_150 : ((cd_L_typed.drop 150).take 50).all (fun r : Nat × ARow => match lk mi_L_typed.thr r.1 with
  | some _ => match r.2.1 with
    | .new _ => true
    | _ => false
  | none => chk RL cL_typed 10 "typed" mi_L_typed r.1 r.2.1 r.2.2.1 r.2.2.2) = true := by decide +kernel
set_option maxRecDepth 20000 in
theorem mr_L_typed_200 : ((cd_L_typed.drop 200).take 50).all (fun r : Nat × ARow => match lk mi_L_typed.thr r.1 with
  | some _ => match r.2.1 with
    | .new _ => true
    | _ => false
  | none => chk RL cL_typed 10 "typed" mi_L_typed r.1 r.2.1 r.2.2.1 r.2.2.2) = true := by decide +kernel
set_option maxRecDepth 20000 in
theorem mr_L_typed_250 : ((cd_L_typed.drop 250).take 50).all (fun r : Nat × ARow => match lk mi_L_typed.thr r.1 with
  | some _ => match r.2.1 with
    | .new _ => true
    | _ => false
  | none => chk RL cL_typed 10 "typed" mi_L_typed r.1 r.2.1 r.2.2.1 r.2.2.2) = true := by decide +kernel
set_option maxRecDepth 20000 in
theorem mr_L_typed_300 : ((cd_L_typed.drop 300).take 50).all (fun r : Nat × ARow => match lk mi_L_typed.thr r.1 with
  | some _ => match r.2.1 with
    | .new _ => true
    | _ => false
  | none => chk RL cL_typed 10 "typed" mi_L_typed r.1 r.2.1 r.2.2.1 r.2.2.2) = true := by decide +kernel
set_option maxRecDepth 20000 in
theorem mr_L_typed : rowsC RL cL_typed 10 "typed" mi_L_typed = true := rows_0 (rows_cut (a := 0) mr_L_typed_0 (rows_cut (a := 50) mr_L_typed_50 (rows_cut (a := 100) mr_L_typed_100 (rows_cut (a := 150) mr_L_typed_150 (rows_cut (a := 200) mr_L_typed_200 (rows_cut (a := 250) mr_L_typed_250 (rows_cut (a := 300) mr_L_typed_300 (rows_nil (by decide +kernel)))))))))
set_option maxRecDepth 20000 in
theorem mo_L_typed : MOk RL cL_typed 10 "typed" mi_L_typed [] := ⟨(rows_ok mr_L_typed).1, fld_ok (wG_of [] (by decide +kernel) (by decide +kernel)) (by decide +kernel), mth_ok (List.forall_mem_cons.mpr ⟨m_0 cal_X8_about (wG_t2 30 (by decide +kernel) rfl), List.forall_mem_cons.mpr ⟨m_0 cal_X8_append (wG_t4 24 (by decide +kernel) rfl), List.forall_mem_cons.mpr ⟨m_1 cal_L_cell (wG_t3 160 (by decide +kernel) rfl), List.forall_mem_cons.mpr ⟨m_1 cal_L_low (wG_t3 165 (by decide +kernel) rfl), List.forall_mem_cons.mpr ⟨m_0 cal_X8_errorPosition (wG_t4 38 (by decide +kernel) rfl), List.forall_mem_cons.mpr ⟨m_0 cal_X8_load (wG_t4 100 (by decide +kernel) rfl), List.forall_mem_nil _⟩⟩⟩⟩⟩⟩), thr_ok (by intro q h; cases h), cls_ok (by intro q h; cases h), c32_ok (by intro q h; cases h), c64_ok (by intro q h; cases h), an_ok 0 (by decide +kernel) (fun h => absurd rfl h) (fun _ => by decide +kernel), (rows_ok mr_L_typed).2, rfl, hnd_0⟩
set_option maxRecDepth 20000 in
theorem ms_L_typed : MStat 247 := ⟨mo_L_typed, by decide +kernel, ret_ok (by decide +kernel)⟩
set_option maxRecDepth 20000 in
theorem mr_L_law_0 : ((cd_L_law.drop 0).take 50).all (fun r : Nat × ARow => match lk mi_L_law.thr r.1 with
  | some _ => match r.2.1 with
    | .new _ => true
    | _ => false
  | none => chk RL cL_law 14 "law" mi_L_law r.1 r.2.1 r.2.2.1 r.2.2.2) = true := by decide +kernel
set_option maxRecDepth 20000 in
theorem mr_L_law_50 : ((cd_L_law.drop 50).take 50).all (fun r : Nat × ARow => match lk mi_L_law.thr r.1 with
  | some _ => match r.2.1 with
    | .new _ => true
    | _ => false
  | none => chk RL cL_law 14 "law" mi_L_law r.1 r.2.1 r.2.2.1 r.2.2.2) = true := by decide +kernel
set_option maxRecDepth 20000 in
theorem mr_L_law_100 : ((cd_L_law.drop 100).take 50).all (fun r : Nat × ARow => match lk mi_L_law.thr r.1 with
  | some _ => match r.2.1 with
    | .new _ => true
    | _ => false
  | none => chk RL cL_law 14 "law" mi_L_law r.1 r.2.1 r.2.2.1 r.2.2.2) = true := by decide +kernel
set_option maxRecDepth 20000 in
theorem mr_L_law_150 : ((cd_L_law.drop 150).take 50).all (fun r : Nat × ARow => match lk mi_L_law.thr r.1 with
  | some _ => match r.2.1 with
    | .new _ => true
    | _ => false
  | none => chk RL cL_law 14 "law" mi_L_law r.1 r.2.1 r.2.2.1 r.2.2.2) = true := by decide +kernel
set_option maxRecDepth 20000 in
theorem mr_L_law_200 : ((cd_L_law.drop 200).take 50).all (fun r : Nat × ARow => match lk mi_L_law.thr r.1 with
  | some _ => match r.2.1 with
    | .new _ => true
    | _ => false
  | none => chk RL cL_law 14 "law" mi_L_law r.1 r.2.1 r.2.2.1 r.2.2.2) = true := by decide +kernel
set_option maxRecDepth 20000 in
theorem mr_L_law_250 : ((cd_L_law.drop 250).take 50).all (fun r : Nat × ARow => match lk mi_L_law.thr r.1 with
  | some _ => match r.2.1 with
    | .new _ => true
    | _ => false
  | none => chk RL cL_law 14 "law" mi_L_law r.1 r.2.1 r.2.2.1 r.2.2.2) = true := by decide +kernel
set_option maxRecDepth 20000 in
theorem mr_L_law_300 : ((cd_L_law.drop 300).take 50).all (fun r : Nat × ARow => match lk mi_L_law.thr r.1 with
  | some _ => match r.2.1 with
    | .new _ => true
    | _ => false
  | none => chk RL cL_law 14 "law" mi_L_law r.1 r.2.1 r.2.2.1 r.2.2.2) = true := by decide +kernel
set_option maxRecDepth 20000 in
theorem mr_L_law : rowsC RL cL_law 14 "law" mi_L_law = true := rows_0 (rows_cut (a := 0) mr_L_law_0 (rows_cut (a := 50) mr_L_law_50 (rows_cut (a := 100) mr_L_law_100 (rows_cut (a := 150) mr_L_law_150 (rows_cut (a := 200) mr_L_law_200 (rows_cut (a := 250) mr_L_law_250 (rows_cut (a := 300) mr_L_law_300 (rows_nil (by decide +kernel)))))))))
set_option maxRecDepth 20000 in
theorem mo_L_law : MOk RL cL_law 14 "law" mi_L_law [] := ⟨(rows_ok mr_L_law).1, fld_ok (wG_of [] (by decide +kernel) (by decide +kernel)) (by decide +kernel), mth_ok (List.forall_mem_cons.mpr ⟨m_1 cal_L_keeps (wG_t3 169 (by decide +kernel) rfl), List.forall_mem_cons.mpr ⟨m_0 cal_X8_about (wG_t2 30 (by decide +kernel) rfl), List.forall_mem_cons.mpr ⟨m_1 cal_L_cell (wG_t3 160 (by decide +kernel) rfl), List.forall_mem_cons.mpr ⟨m_1 cal_L_low (wG_t3 165 (by decide +kernel) rfl), List.forall_mem_cons.mpr ⟨m_2 cal_X8_init (wG_t1 21 (by decide +kernel) rfl), List.forall_mem_cons.mpr ⟨m_1 cal_L_typed (wG_t4 21 (by decide +kernel) rfl), List.forall_mem_cons.mpr ⟨m_1 cal_L_cells (wG_t3 196 (by decide +kernel) rfl), List.forall_mem_cons.mpr ⟨m_1 cal_L_entries (wG_t3 216 (by decide +kernel) rfl), List.forall_mem_cons.mpr ⟨m_0 cal_X8_rule (wG_t2 129 (by decide +kernel) rfl), List.forall_mem_cons.mpr ⟨m_1 cal_L_readings (wG_t3 184 (by decide +kernel) rfl), List.forall_mem_cons.mpr ⟨m_0 cal_X8_readings (wG_t2 176 (by decide +kernel) rfl), List.forall_mem_cons.mpr ⟨m_0 cal_X8_reading (wG_t2 224 (by decide +kernel) rfl), List.forall_mem_cons.mpr ⟨m_0 cal_X8_possible (wG_t3 88 (by decide +kernel) rfl), List.forall_mem_cons.mpr ⟨m_0 cal_X8_fillings (wG_t3 92 (by decide +kernel) rfl), List.forall_mem_cons.mpr ⟨m_1 cal_L_fillings (wG_t3 190 (by decide +kernel) rfl), List.forall_mem_cons.mpr ⟨m_0 cal_X8_mend (wG_t3 150 (by decide +kernel) rfl), List.forall_mem_cons.mpr ⟨m_1 cal_L_mend (wG_t4 15 (by decide +kernel) rfl), List.forall_mem_cons.mpr ⟨m_0 cal_X8_put (wG_t2 233 (by decide +kernel) rfl), List.forall_mem_cons.mpr ⟨m_0 cal_X8_setBar (wG_t3 43 (by decide +kernel) rfl), List.forall_mem_cons.mpr ⟨m_0 cal_X8_undo (wG_t3 59 (by decide +kernel) rfl), List.forall_mem_nil _⟩⟩⟩⟩⟩⟩⟩⟩⟩⟩⟩⟩⟩⟩⟩⟩⟩⟩⟩⟩), thr_ok (by intro q h; cases h), cls_ok (List.forall_mem_cons.mpr ⟨⟨_, rfl, wG_t1 19 (by decide +kernel) rfl, wG_t1 20 (by decide +kernel) rfl, wG_t1 1 (by decide +kernel) rfl⟩, List.forall_mem_nil _⟩), c32_ok (by intro q h; cases h), c64_ok (by intro q h; cases h), an_ok 0 (by decide +kernel) (fun h => absurd rfl h) (fun _ => by decide +kernel), (rows_ok mr_L_law).2, rfl, hnd_0⟩
set_option maxRecDepth 20000 in
theorem ms_L_law : MStat 248 := ⟨mo_L_law, by decide +kernel, ret_ok (by decide +kernel)⟩
