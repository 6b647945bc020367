set_option maxRecDepth 20000 in
theorem mr_X8_runScript : rowsC RX8 cX8_runScript 6 "runScript" mi_X8_runScript = true := by decide +kernel
set_option maxRecDepth 20000 in
theorem mo_X8_runScript : MOk RX8 cX8_runScript 6 "runScript" mi_X8_runScript [] := ⟨(rows_ok mr_X8_runScript).1, fld_ok (wG_of [324, 325, 327, 212] (by decide +kernel) (by decide +kernel)) (by decide +kernel), mth_ok (List.forall_mem_cons.mpr ⟨m_0 cal_X4_take (wG_t3 7 (by decide +kernel) rfl), List.forall_mem_cons.mpr ⟨m_1 cal_X8_withoutGroups (wG_t4 178 (by decide +kernel) rfl), List.forall_mem_cons.mpr ⟨m_1 cal_X0_succeeds (wG_t4 183 (by decide +kernel) rfl), List.forall_mem_nil _⟩⟩⟩), thr_ok (List.forall_mem_cons.mpr ⟨⟨rfl, by decide +kernel, 47, 280, 51, "n or script is out of range", by decide +kernel, by decide +kernel, Or.inr ⟨by decide +kernel, by decide +kernel, by decide +kernel⟩, wG_t3 89 (by decide +kernel) rfl, wG_t1 13 (by decide +kernel) rfl, by decide +kernel, at_0, an_0, by decide +kernel, by decide +kernel, by decide +kernel⟩, List.forall_mem_nil _⟩), cls_ok (by intro q h; cases h), c32_ok (List.forall_mem_cons.mpr ⟨Or.inr (by decide +kernel), List.forall_mem_nil _⟩), c64_ok (List.forall_mem_cons.mpr ⟨Or.inl (wG_t4 181 (by decide +kernel) rfl), List.forall_mem_nil _⟩), an_ok 0 (by decide +kernel) (fun h => absurd rfl h) (fun _ => by decide +kernel), (rows_ok mr_X8_runScript).2, rfl, hnd_0⟩
set_option maxRecDepth 20000 in
theorem ms_X8_runScript : MStat 114 := ⟨mo_X8_runScript, by decide +kernel, ret_ok (by decide +kernel)⟩
set_option maxRecDepth 20000 in
theorem mr_X8_simulate : rowsC RX8 cX8_simulate 7 "simulate" mi_X8_simulate = true := by decide +kernel
set_option maxRecDepth 20000 in
theorem mo_X8_simulate : MOk RX8 cX8_simulate 7 "simulate" mi_X8_simulate [] := ⟨(rows_ok mr_X8_simulate).1, fld_ok (wG_of [324, 325, 327, 212, 217] (by decide +kernel) (by decide +kernel)) (by decide +kernel), mth_ok (List.forall_mem_cons.mpr ⟨m_0 cal_X4_take (wG_t3 7 (by decide +kernel) rfl), List.forall_mem_cons.mpr ⟨m_0 cal_X2_count (wG_t2 128 (by decide +kernel) rfl), List.forall_mem_cons.mpr ⟨m_1 cal_X5_countKept (wG_t3 16 (by decide +kernel) rfl), List.forall_mem_cons.mpr ⟨m_0 cal_X8_simulateRound (wG_t4 217 (by decide +kernel) rfl), List.forall_mem_nil _⟩⟩⟩⟩), thr_ok (List.forall_mem_cons.mpr ⟨⟨rfl, by decide +kernel, 47, 290, 51, "m is out of range", by decide +kernel, by decide +kernel, Or.inr ⟨by decide +kernel, by decide +kernel, by decide +kernel⟩, wG_t3 89 (by decide +kernel) rfl, wG_t1 13 (by decide +kernel) rfl, by decide +kernel, at_0, an_0, by decide +kernel, by decide +kernel, by decide +kernel⟩, List.forall_mem_nil _⟩), cls_ok (by intro q h; cases h), c32_ok (List.forall_mem_cons.mpr ⟨Or.inr (by decide +kernel), List.forall_mem_cons.mpr ⟨Or.inr (by decide +kernel), List.forall_mem_nil _⟩⟩), c64_ok (List.forall_mem_cons.mpr ⟨Or.inl (wG_t4 215 (by decide +kernel) rfl), List.forall_mem_cons.mpr ⟨Or.inl (wG_t4 216 (by decide +kernel) rfl), List.forall_mem_nil _⟩⟩), an_ok 0 (by decide +kernel) (fun h => absurd rfl h) (fun _ => by decide +kernel), (rows_ok mr_X8_simulate).2, rfl, hnd_0⟩
set_option maxRecDepth 20000 in
theorem ms_X8_simulate : MStat 115 := ⟨mo_X8_simulate, by decide +kernel, ret_ok (by decide +kernel)⟩
set_option maxRecDepth 20000 in
theorem mr_X8_save : rowsC RX8 cX8_save 2 "save" mi_X8_save = true := by decide +kernel
set_option maxRecDepth 20000 in
theorem mo_X8_save : MOk RX8 cX8_save 2 "save" mi_X8_save [] := ⟨(rows_ok mr_X8_save).1, fld_ok (wG_of [324, 326, 212, 217] (by decide +kernel) (by decide +kernel)) (by decide +kernel), mth_ok (List.forall_mem_cons.mpr ⟨m_1 cal_X8_requireSlot (wG_t4 228 (by decide +kernel) rfl), List.forall_mem_cons.mpr ⟨m_0 cal_X3_store (wG_t4 232 (by decide +kernel) rfl), List.forall_mem_nil _⟩⟩), thr_ok (by intro q h; cases h), cls_ok (by intro q h; cases h), c32_ok (by intro q h; cases h), c64_ok (by intro q h; cases h), an_ok 0 (by decide +kernel) (fun h => absurd rfl h) (fun _ => by decide +kernel), (rows_ok mr_X8_save).2, rfl, hnd_0⟩
set_option maxRecDepth 20000 in
theorem ms_X8_save : MStat 116 := ⟨mo_X8_save, by decide +kernel, ret_ok (by decide +kernel)⟩
set_option maxRecDepth 20000 in
theorem mr_X8_restore : rowsC RX8 cX8_restore 2 "restore" mi_X8_restore = true := by decide +kernel
set_option maxRecDepth 20000 in
theorem mo_X8_restore : MOk RX8 cX8_restore 2 "restore" mi_X8_restore [] := ⟨(rows_ok mr_X8_restore).1, fld_ok (wG_of [324, 326, 217] (by decide +kernel) (by decide +kernel)) (by decide +kernel), mth_ok (List.forall_mem_cons.mpr ⟨m_0 cal_X4_take (wG_t3 7 (by decide +kernel) rfl), List.forall_mem_cons.mpr ⟨m_0 cal_X3_forgetActions (wG_t3 189 (by decide +kernel) rfl), List.forall_mem_cons.mpr ⟨m_1 cal_X8_requireSlot (wG_t4 228 (by decide +kernel) rfl), List.forall_mem_cons.mpr ⟨m_0 cal_X3_isStored (wG_t5 3 (by decide +kernel) rfl), List.forall_mem_cons.mpr ⟨m_0 cal_X3_stored (wG_t5 8 (by decide +kernel) rfl), List.forall_mem_nil _⟩⟩⟩⟩⟩), thr_ok (List.forall_mem_cons.mpr ⟨⟨rfl, by decide +kernel, 58, 309, 62, "nothing has been saved in the slot", by decide +kernel, by decide +kernel, Or.inr ⟨by decide +kernel, by decide +kernel, by decide +kernel⟩, wG_t3 161 (by decide +kernel) rfl, wG_t1 14 (by decide +kernel) rfl, by decide +kernel, at_1, an_1, by decide +kernel, by decide +kernel, by decide +kernel⟩, List.forall_mem_nil _⟩), cls_ok (by intro q h; cases h), c32_ok (by intro q h; cases h), c64_ok (by intro q h; cases h), an_ok 0 (by decide +kernel) (fun h => absurd rfl h) (fun _ => by decide +kernel), (rows_ok mr_X8_restore).2, rfl, hnd_0⟩
set_option maxRecDepth 20000 in
theorem ms_X8_restore : MStat 117 := ⟨mo_X8_restore, by decide +kernel, ret_ok (by decide +kernel)⟩
set_option maxRecDepth 20000 in
theorem mr_X8_requireCell : rowsC RX8 cX8_requireCell 2 "requireCell" mi_X8_requireCell = true := by decide +kernel
set_option maxRecDepth 20000 in
theorem mo_X8_requireCell : MOk RX8 cX8_requireCell 2 "requireCell" mi_X8_requireCell [] := ⟨(rows_ok mr_X8_requireCell).1, fld_ok (wG_of [324, 212] (by decide +kernel) (by decide +kernel)) (by decide +kernel), mth_ok (List.forall_mem_cons.mpr ⟨m_0 cal_X6_hasCell (wG_t3 228 (by decide +kernel) rfl), List.forall_mem_nil _⟩), thr_ok (List.forall_mem_cons.mpr ⟨⟨rfl, by decide +kernel, 318, 320, 322, "no such cell", by decide +kernel, by decide +kernel, Or.inr ⟨by decide +kernel, by decide +kernel, by decide +kernel⟩, wG_t3 229 (by decide +kernel) rfl, wG_t1 17 (by decide +kernel) rfl, by decide +kernel, at_2, an_2, by decide +kernel, by decide +kernel, by decide +kernel⟩, List.forall_mem_nil _⟩), cls_ok (by intro q h; cases h), c32_ok (by intro q h; cases h), c64_ok (by intro q h; cases h), an_ok 0 (by decide +kernel) (fun h => absurd rfl h) (fun _ => by decide +kernel), (rows_ok mr_X8_requireCell).2, rfl, hnd_0⟩
set_option maxRecDepth 20000 in
theorem ms_X8_requireCell : MStat 118 := ⟨mo_X8_requireCell, by decide +kernel, ret_ok (by decide +kernel)⟩
set_option maxRecDepth 20000 in
theorem mr_X8_requireEntry : rowsC RX8 cX8_requireEntry 2 "requireEntry" mi_X8_requireEntry = true := by decide +kernel
set_option maxRecDepth 20000 in
theorem mo_X8_requireEntry : MOk RX8 cX8_requireEntry 2 "requireEntry" mi_X8_requireEntry [] := ⟨(rows_ok mr_X8_requireEntry).1, fld_ok (wG_of [324] (by decide +kernel) (by decide +kernel)) (by decide +kernel), mth_ok (List.forall_mem_cons.mpr ⟨m_0 cal_X4_hasEntry (wG_t4 24 (by decide +kernel) rfl), List.forall_mem_nil _⟩), thr_ok (List.forall_mem_cons.mpr ⟨⟨rfl, by decide +kernel, 318, 326, 322, "no such entry", by decide +kernel, by decide +kernel, Or.inr ⟨by decide +kernel, by decide +kernel, by decide +kernel⟩, wG_t3 229 (by decide +kernel) rfl, wG_t1 17 (by decide +kernel) rfl, by decide +kernel, at_2, an_2, by decide +kernel, by decide +kernel, by decide +kernel⟩, List.forall_mem_nil _⟩), cls_ok (by intro q h; cases h), c32_ok (by intro q h; cases h), c64_ok (by intro q h; cases h), an_ok 0 (by decide +kernel) (fun h => absurd rfl h) (fun _ => by decide +kernel), (rows_ok mr_X8_requireEntry).2, rfl, hnd_0⟩
set_option maxRecDepth 20000 in
theorem ms_X8_requireEntry : MStat 119 := ⟨mo_X8_requireEntry, by decide +kernel, ret_ok (by decide +kernel)⟩
set_option maxRecDepth 20000 in
theorem mr_X8_requireWord : rowsC RX8 cX8_requireWord 2 "requireWord" mi_X8_requireWord = true := by decide +kernel
set_option maxRecDepth 20000 in
theorem mo_X8_requireWord : MOk RX8 cX8_requireWord 2 "requireWord" mi_X8_requireWord [] := ⟨(rows_ok mr_X8_requireWord).1, fld_ok (wG_of [324, 212] (by decide +kernel) (by decide +kernel)) (by decide +kernel), mth_ok (List.forall_mem_cons.mpr ⟨m_0 cal_X6_hasWord (wG_t4 46 (by decide +kernel) rfl), List.forall_mem_nil _⟩), thr_ok (List.forall_mem_cons.mpr ⟨⟨rfl, by decide +kernel, 318, 331, 322, "no such word", by decide +kernel, by decide +kernel, Or.inr ⟨by decide +kernel, by decide +kernel, by decide +kernel⟩, wG_t3 229 (by decide +kernel) rfl, wG_t1 17 (by decide +kernel) rfl, by decide +kernel, at_2, an_2, by decide +kernel, by decide +kernel, by decide +kernel⟩, List.forall_mem_nil _⟩), cls_ok (by intro q h; cases h), c32_ok (by intro q h; cases h), c64_ok (by intro q h; cases h), an_ok 0 (by decide +kernel) (fun h => absurd rfl h) (fun _ => by decide +kernel), (rows_ok mr_X8_requireWord).2, rfl, hnd_0⟩
set_option maxRecDepth 20000 in
theorem ms_X8_requireWord : MStat 120 := ⟨mo_X8_requireWord, by decide +kernel, ret_ok (by decide +kernel)⟩
set_option maxRecDepth 20000 in
theorem mr_X8_requireSlot : rowsC RX8 cX8_requireSlot 1 "requireSlot" mi_X8_requireSlot = true := by decide +kernel
set_option maxRecDepth 20000 in
theorem mo_X8_requireSlot : MOk RX8 cX8_requireSlot 1 "requireSlot" mi_X8_requireSlot [] := ⟨(rows_ok mr_X8_requireSlot).1, fld_ok (wG_of [] (by decide +kernel) (by decide +kernel)) (by decide +kernel), mth_ok (by intro q h; cases h), thr_ok (List.forall_mem_cons.mpr ⟨⟨rfl, by decide +kernel, 318, 333, 322, "no such save slot", by decide +kernel, by decide +kernel, Or.inr ⟨by decide +kernel, by decide +kernel, by decide +kernel⟩, wG_t3 229 (by decide +kernel) rfl, wG_t1 17 (by decide +kernel) rfl, by decide +kernel, at_2, an_2, by decide +kernel, by decide +kernel, by decide +kernel⟩, List.forall_mem_nil _⟩), cls_ok (by intro q h; cases h), c32_ok (by intro q h; cases h), c64_ok (by intro q h; cases h), an_ok 0 (by decide +kernel) (fun h => absurd rfl h) (fun _ => by decide +kernel), (rows_ok mr_X8_requireSlot).2, rfl, hnd_0⟩
set_option maxRecDepth 20000 in
theorem ms_X8_requireSlot : MStat 121 := ⟨mo_X8_requireSlot, by decide +kernel, ret_ok (by decide +kernel)⟩
set_option maxRecDepth 20000 in
theorem mr_X8_isLetter : rowsC RX8 cX8_isLetter 1 "isLetter" mi_X8_isLetter = true := by decide +kernel
set_option maxRecDepth 20000 in
theorem mo_X8_isLetter : MOk RX8 cX8_isLetter 1 "isLetter" mi_X8_isLetter [] := ⟨(rows_ok mr_X8_isLetter).1, fld_ok (wG_of [] (by decide +kernel) (by decide +kernel)) (by decide +kernel), mth_ok (by intro q h; cases h), thr_ok (by intro q h; cases h), cls_ok (by intro q h; cases h), c32_ok (by intro q h; cases h), c64_ok (by intro q h; cases h), an_ok 0 (by decide +kernel) (fun h => absurd rfl h) (fun _ => by decide +kernel), (rows_ok mr_X8_isLetter).2, rfl, hnd_0⟩
set_option maxRecDepth 20000 in
theorem ms_X8_isLetter : MStat 122 := ⟨mo_X8_isLetter, by decide +kernel, ret_ok (by decide +kernel)⟩
set_option maxRecDepth 20000 in
theorem mr_X8_withoutGroups : rowsC RX8 cX8_withoutGroups 6 "withoutGroups" mi_X8_withoutGroups = true := by decide +kernel
set_option maxRecDepth 20000 in
theorem mo_X8_withoutGroups : MOk RX8 cX8_withoutGroups 6 "withoutGroups" mi_X8_withoutGroups [] := ⟨(rows_ok mr_X8_withoutGroups).1, fld_ok (wG_of [] (by decide +kernel) (by decide +kernel)) (by decide +kernel), mth_ok (by intro q h; cases h), thr_ok (by intro q h; cases h), cls_ok (by intro q h; cases h), c32_ok (List.forall_mem_cons.mpr ⟨Or.inr (by decide +kernel), List.forall_mem_nil _⟩), c64_ok (List.forall_mem_cons.mpr ⟨Or.inl (wG_t4 181 (by decide +kernel) rfl), List.forall_mem_nil _⟩), an_ok 0 (by decide +kernel) (fun h => absurd rfl h) (fun _ => by decide +kernel), (rows_ok mr_X8_withoutGroups).2, rfl, hnd_0⟩
set_option maxRecDepth 20000 in
theorem ms_X8_withoutGroups : MStat 123 := ⟨mo_X8_withoutGroups, by decide +kernel, ret_ok (by decide +kernel)⟩
set_option maxRecDepth 20000 in
theorem mr_X8_simulateRound : rowsC RX8 cX8_simulateRound 6 "simulateRound" mi_X8_simulateRound = true := by decide +kernel
set_option maxRecDepth 20000 in
theorem mo_X8_simulateRound : MOk RX8 cX8_simulateRound 6 "simulateRound" mi_X8_simulateRound [] := ⟨(rows_ok mr_X8_simulateRound).1, fld_ok (wG_of [325, 212] (by decide +kernel) (by decide +kernel)) (by decide +kernel), mth_ok (List.forall_mem_cons.mpr ⟨m_0 cal_X6_cells (wG_t3 58 (by decide +kernel) rfl), List.forall_mem_cons.mpr ⟨m_0 cal_X6_hasBar (wG_t3 60 (by decide +kernel) rfl), List.forall_mem_cons.mpr ⟨m_0 cal_X6_setLetter (wG_t4 99 (by decide +kernel) rfl), List.forall_mem_cons.mpr ⟨m_0 cal_X4_changeBar (wG_t3 61 (by decide +kernel) rfl), List.forall_mem_nil _⟩⟩⟩⟩), thr_ok (by intro q h; cases h), cls_ok (by intro q h; cases h), c32_ok (by intro q h; cases h), c64_ok (by intro q h; cases h), an_ok 0 (by decide +kernel) (fun h => absurd rfl h) (fun _ => by decide +kernel), (rows_ok mr_X8_simulateRound).2, rfl, hnd_0⟩
set_option maxRecDepth 20000 in
theorem ms_X8_simulateRound : MStat 124 := ⟨mo_X8_simulateRound, by decide +kernel, ret_ok (by decide +kernel)⟩
set_option maxRecDepth 20000 in
theorem mr_X9_init : rowsC RX9 cX9_init 1 "<init>" mi_X9_init = true := by decide +kernel
set_option maxRecDepth 20000 in
theorem mo_X9_init : MOk RX9 cX9_init 1 "<init>" mi_X9_init [] := ⟨(rows_ok mr_X9_init).1, fld_ok (wG_of [1074, 1076, 1077, 1078, 1079, 1081, 1082, 1084, 1085, 1086, 1087, 1088, 1089, 1090, 1091, 1092] (by decide +kernel) (by decide +kernel)) (by decide +kernel), mth_ok (List.forall_mem_cons.mpr ⟨⟨wG_t5 17 (by decide +kernel) rfl, wG_t1 27 (by decide +kernel) rfl, wG_t1 28 rfl rfl⟩, List.forall_mem_cons.mpr ⟨m_0 cal_X9_findEntries (wG_t5 18 (by decide +kernel) rfl), List.forall_mem_nil _⟩⟩), thr_ok (by intro q h; cases h), cls_ok (by intro q h; cases h), c32_ok (by intro q h; cases h), c64_ok (by intro q h; cases h), an_ok 0 (by decide +kernel) (fun h => absurd rfl h) (fun _ => by decide +kernel), (rows_ok mr_X9_init).2, rfl, hnd_0⟩
set_option maxRecDepth 20000 in
theorem ms_X9_init : MStat 125 := ⟨mo_X9_init, by decide +kernel, ret_ok (by decide +kernel)⟩
set_option maxRecDepth 20000 in
theorem mr_X9_thrown : rowsC RX9 cX9_thrown 1 "thrown" mi_X9_thrown = true := by decide +kernel
set_option maxRecDepth 20000 in
theorem mo_X9_thrown : MOk RX9 cX9_thrown 1 "thrown" mi_X9_thrown [] := ⟨(rows_ok mr_X9_thrown).1, fld_ok (wG_of [1073] (by decide +kernel) (by decide +kernel)) (by decide +kernel), mth_ok (by intro q h; cases h), thr_ok (by intro q h; cases h), cls_ok (by intro q h; cases h), c32_ok (by intro q h; cases h), c64_ok (by intro q h; cases h), an_ok 0 (by decide +kernel) (fun h => absurd rfl h) (fun _ => by decide +kernel), (rows_ok mr_X9_thrown).2, rfl, hnd_0⟩
set_option maxRecDepth 20000 in
theorem ms_X9_thrown : MStat 126 := ⟨mo_X9_thrown, by decide +kernel, ret_ok (by decide +kernel)⟩
set_option maxRecDepth 20000 in
theorem mr_X9_move : rowsC RX9 cX9_move 5 "move" mi_X9_move = true := by decide +kernel
set_option maxRecDepth 20000 in
theorem mo_X9_move : MOk RX9 cX9_move 5 "move" mi_X9_move [] := ⟨(rows_ok mr_X9_move).1, fld_ok (wG_of [] (by decide +kernel) (by decide +kernel)) (by decide +kernel), mth_ok (by intro q h; cases h), thr_ok (by intro q h; cases h), cls_ok (by intro q h; cases h), c32_ok (by intro q h; cases h), c64_ok (by intro q h; cases h), an_ok 0 (by decide +kernel) (fun h => absurd rfl h) (fun _ => by decide +kernel), (rows_ok mr_X9_move).2, rfl, hnd_0⟩
set_option maxRecDepth 20000 in
theorem ms_X9_move : MStat 127 := ⟨mo_X9_move, by decide +kernel, ret_ok (by decide +kernel)⟩
set_option maxRecDepth 20000 in
theorem mr_X9_append : rowsC RX9 cX9_append 2 "append" mi_X9_append = true := by decide +kernel
set_option maxRecDepth 20000 in
theorem mo_X9_append : MOk RX9 cX9_append 2 "append" mi_X9_append [] := ⟨(rows_ok mr_X9_append).1, fld_ok (wG_of [1074, 1073, 1075] (by decide +kernel) (by decide +kernel)) (by decide +kernel), mth_ok (by intro q h; cases h), thr_ok (by intro q h; cases h), cls_ok (by intro q h; cases h), c32_ok (by intro q h; cases h), c64_ok (by intro q h; cases h), an_ok 0 (by decide +kernel) (fun h => absurd rfl h) (fun _ => by decide +kernel), (rows_ok mr_X9_append).2, rfl, hnd_0⟩
set_option maxRecDepth 20000 in
theorem ms_X9_append : MStat 128 := ⟨mo_X9_append, by decide +kernel, ret_ok (by decide +kernel)⟩
set_option maxRecDepth 20000 in
theorem mr_X9_clearText : rowsC RX9 cX9_clearText 2 "clearText" mi_X9_clearText = true := by decide +kernel
set_option maxRecDepth 20000 in
theorem mo_X9_clearText : MOk RX9 cX9_clearText 2 "clearText" mi_X9_clearText [] := ⟨(rows_ok mr_X9_clearText).1, fld_ok (wG_of [1073, 1075] (by decide +kernel) (by decide +kernel)) (by decide +kernel), mth_ok (by intro q h; cases h), thr_ok (by intro q h; cases h), cls_ok (by intro q h; cases h), c32_ok (by intro q h; cases h), c64_ok (by intro q h; cases h), an_ok 0 (by decide +kernel) (fun h => absurd rfl h) (fun _ => by decide +kernel), (rows_ok mr_X9_clearText).2, rfl, hnd_0⟩
set_option maxRecDepth 20000 in
theorem ms_X9_clearText : MStat 129 := ⟨mo_X9_clearText, by decide +kernel, ret_ok (by decide +kernel)⟩
set_option maxRecDepth 20000 in
theorem mr_X9_character : rowsC RX9 cX9_character 2 "character" mi_X9_character = true := by decide +kernel
set_option maxRecDepth 20000 in
theorem mo_X9_character : MOk RX9 cX9_character 2 "character" mi_X9_character [] := ⟨(rows_ok mr_X9_character).1, fld_ok (wG_of [1074, 1075] (by decide +kernel) (by decide +kernel)) (by decide +kernel), mth_ok (by intro q h; cases h), thr_ok (by intro q h; cases h), cls_ok (by intro q h; cases h), c32_ok (by intro q h; cases h), c64_ok (by intro q h; cases h), an_ok 0 (by decide +kernel) (fun h => absurd rfl h) (fun _ => by decide +kernel), (rows_ok mr_X9_character).2, rfl, hnd_0⟩
set_option maxRecDepth 20000 in
theorem ms_X9_character : MStat 130 := ⟨mo_X9_character, by decide +kernel, ret_ok (by decide +kernel)⟩
set_option maxRecDepth 20000 in
theorem mr_X9_isLetter : rowsC RX9 cX9_isLetter 1 "isLetter" mi_X9_isLetter = true := by decide +kernel
set_option maxRecDepth 20000 in
theorem mo_X9_isLetter : MOk RX9 cX9_isLetter 1 "isLetter" mi_X9_isLetter [] := ⟨(rows_ok mr_X9_isLetter).1, fld_ok (wG_of [] (by decide +kernel) (by decide +kernel)) (by decide +kernel), mth_ok (by intro q h; cases h), thr_ok (by intro q h; cases h), cls_ok (by intro q h; cases h), c32_ok (by intro q h; cases h), c64_ok (by intro q h; cases h), an_ok 0 (by decide +kernel) (fun h => absurd rfl h) (fun _ => by decide +kernel), (rows_ok mr_X9_isLetter).2, rfl, hnd_0⟩
set_option maxRecDepth 20000 in
theorem ms_X9_isLetter : MStat 131 := ⟨mo_X9_isLetter, by decide +kernel, ret_ok (by decide +kernel)⟩
set_option maxRecDepth 20000 in
theorem mr_X9_isSide : rowsC RX9 cX9_isSide 1 "isSide" mi_X9_isSide = true := by decide +kernel
set_option maxRecDepth 20000 in
theorem mo_X9_isSide : MOk RX9 cX9_isSide 1 "isSide" mi_X9_isSide [] := ⟨(rows_ok mr_X9_isSide).1, fld_ok (wG_of [] (by decide +kernel) (by decide +kernel)) (by decide +kernel), mth_ok (by intro q h; cases h), thr_ok (by intro q h; cases h), cls_ok (by intro q h; cases h), c32_ok (by intro q h; cases h), c64_ok (by intro q h; cases h), an_ok 0 (by decide +kernel) (fun h => absurd rfl h) (fun _ => by decide +kernel), (rows_ok mr_X9_isSide).2, rfl, hnd_0⟩
set_option maxRecDepth 20000 in
theorem ms_X9_isSide : MStat 132 := ⟨mo_X9_isSide, by decide +kernel, ret_ok (by decide +kernel)⟩
set_option maxRecDepth 20000 in
theorem mr_X9_readText_0 : ((cd_X9_readText.drop 0).take 50).all (fun r : Nat × ARow => match lk mi_X9_readText.thr r.1 with
  | some _ => match r.2.1 with
    | .new _ => true
    | _ => false
  | none => chk RX9 cX9_readText 3 "readText" mi_X9_readText r.1 r.2.1 r.2.2.1 r.2.2.2) = true := by decide +kernel
set_option maxRecDepth 20000 in
theorem mr_X9_readText_50 : ((cd_X9_readText.drop 50).take 50).all (fun r : Nat × ARow => match lk mi_X9_readText.thr r.1 with
  | some _ => match r.2.1 with
    | .new _ => true
    | _ => false
  | none => chk RX9 cX9_readText 3 "readText" mi_X9_readText r.1 r.2.1 r.2.2.1 r.2.2.2) = true := by decide +kernel
set_option maxRecDepth 20000 in
theorem mr_X9_readText_100 : ((cd_X9_readText.drop 100).take 50).all (fun r : Nat × ARow => match lk mi_X9_readText.thr r.1 with
  | some _ => match r.2.1 with
    | .new _ => true
    | _ => false
  | none => chk RX9 cX9_readText 3 "readText" mi_X9_readText r.1 r.2.1 r.2.2.1 r.2.2.2) = true := by decide +kernel
set_option maxRecDepth 20000 in
theorem mr_X9_readText_150 : ((cd_X9_readText.drop 150).take 50).all (fun r : Nat × ARow => match lk mi_X9_readText.thr r.1 with
  | some _ => match r.2.1 with
    | .new _ => true
    | _ => false
  | none => chk RX9 cX9_readText 3 "readText" mi_X9_readText r.1 r.2.1 r.2.2.1 r.2.2.2) = true := by decide +kernel
set_option maxRecDepth 20000 in
theorem mr_X9_readText : rowsC RX9 cX9_readText 3 "readText" mi_X9_readText = true := rows_0 (rows_cut (a := 0) mr_X9_readText_0 (rows_cut (a := 50) mr_X9_readText_50 (rows_cut (a := 100) mr_X9_readText_100 (rows_cut (a := 150) mr_X9_readText_150 (rows_nil (by decide +kernel))))))
set_option maxRecDepth 20000 in
theorem mo_X9_readText : MOk RX9 cX9_readText 3 "readText" mi_X9_readText [] := ⟨(rows_ok mr_X9_readText).1, fld_ok (wG_of [1077] (by decide +kernel) (by decide +kernel)) (by decide +kernel), mth_ok (List.forall_mem_cons.mpr ⟨m_0 cal_X9_character (wG_t5 127 (by decide +kernel) rfl), List.forall_mem_cons.mpr ⟨m_1 cal_X9_isSide (wG_t5 131 (by decide +kernel) rfl), List.forall_mem_cons.mpr ⟨m_1 cal_X9_isLetter (wG_t5 134 (by decide +kernel) rfl), List.forall_mem_cons.mpr ⟨m_0 cal_X9_readParts (wG_t5 137 (by decide +kernel) rfl), List.forall_mem_nil _⟩⟩⟩⟩), thr_ok (by intro q h; cases h), cls_ok (by intro q h; cases h), c32_ok (by intro q h; cases h), c64_ok (by intro q h; cases h), an_ok 0 (by decide +kernel) (fun h => absurd rfl h) (fun _ => by decide +kernel), (rows_ok mr_X9_readText).2, rfl, hnd_0⟩
set_option maxRecDepth 20000 in
theorem ms_X9_readText : MStat 133 := ⟨mo_X9_readText, by decide +kernel, ret_ok (by decide +kernel)⟩
set_option maxRecDepth 20000 in
theorem mr_X9_readParts_0 : ((cd_X9_readParts.drop 0).take 50).all (fun r : Nat × ARow => match lk mi_X9_readParts.thr r.1 with
  | some _ => match r.2.1 with
    | .new _ => true
    | _ => false
  | none => chk RX9 cX9_readParts 8 "readParts" mi_X9_readParts r.1 r.2.1 r.2.2.1 r.2.2.2) = true := by decide +kernel
set_option maxRecDepth 20000 in
theorem mr_X9_readParts_50 : ((cd_X9_readParts.drop 50).take 50).all (fun r : Nat × ARow => match lk mi_X9_readParts.thr r.1 with
  | some _ => match r.2.1 with
    | .new _ => true
    | _ => false
  | none => chk RX9 cX9_readParts 8 "readParts" mi_X9_readParts r.1 r.2.1 r.2.2.1 r.2.2.2) = true := by decide +kernel
set_option maxRecDepth 20000 in
theorem mr_X9_readParts_100 : ((cd_X9_readParts.drop 100).take 50).all (fun r : Nat × ARow => match lk mi_X9_readParts.thr r.1 with
  | some _ => match r.2.1 with
    | .new _ => true
    | _ => false
  | none => chk RX9 cX9_readParts 8 "readParts" mi_X9_readParts r.1 r.2.1 r.2.2.1 r.2.2.2) = true := by decide +kernel
set_option maxRecDepth 20000 in
theorem mr_X9_readParts : rowsC RX9 cX9_readParts 8 "readParts" mi_X9_readParts = true := rows_0 (rows_cut (a := 0) mr_X9_readParts_0 (rows_cut (a := 50) mr_X9_readParts_50 (rows_cut (a := 100) mr_X9_readParts_100 (rows_nil (by decide +kernel)))))
set_option maxRecDepth 20000 in
theorem mo_X9_readParts : MOk RX9 cX9_readParts 8 "readParts" mi_X9_readParts [] := ⟨(rows_ok mr_X9_readParts).1, fld_ok (wG_of [1077, 1075] (by decide +kernel) (by decide +kernel)) (by decide +kernel), mth_ok (List.forall_mem_cons.mpr ⟨m_0 cal_X9_character (wG_t5 127 (by decide +kernel) rfl), List.forall_mem_cons.mpr ⟨m_1 cal_X9_isLetter (wG_t5 134 (by decide +kernel) rfl), List.forall_mem_nil _⟩⟩), thr_ok (by intro q h; cases h), cls_ok (by intro q h; cases h), c32_ok (by intro q h; cases h), c64_ok (by intro q h; cases h), an_ok 0 (by decide +kernel) (fun h => absurd rfl h) (fun _ => by decide +kernel), (rows_ok mr_X9_readParts).2, rfl, hnd_0⟩
set_option maxRecDepth 20000 in
theorem ms_X9_readParts : MStat 134 := ⟨mo_X9_readParts, by decide +kernel, ret_ok (by decide +kernel)⟩
set_option maxRecDepth 20000 in
theorem mr_X9_errorPosition : rowsC RX9 cX9_errorPosition 1 "errorPosition" mi_X9_errorPosition = true := by decide +kernel
set_option maxRecDepth 20000 in
theorem mo_X9_errorPosition : MOk RX9 cX9_errorPosition 1 "errorPosition" mi_X9_errorPosition [] := ⟨(rows_ok mr_X9_errorPosition).1, fld_ok (wG_of [1073] (by decide +kernel) (by decide +kernel)) (by decide +kernel), mth_ok (List.forall_mem_cons.mpr ⟨m_0 cal_X9_readText (wG_t5 123 (by decide +kernel) rfl), List.forall_mem_nil _⟩), thr_ok (by intro q h; cases h), cls_ok (by intro q h; cases h), c32_ok (by intro q h; cases h), c64_ok (by intro q h; cases h), an_ok 0 (by decide +kernel) (fun h => absurd rfl h) (fun _ => by decide +kernel), (rows_ok mr_X9_errorPosition).2, rfl, hnd_0⟩
set_option maxRecDepth 20000 in
theorem ms_X9_errorPosition : MStat 135 := ⟨mo_X9_errorPosition, by decide +kernel, ret_ok (by decide +kernel)⟩
set_option maxRecDepth 20000 in
theorem mr_X9_load : rowsC RX9 cX9_load 1 "load" mi_X9_load = true := by decide +kernel
set_option maxRecDepth 20000 in
theorem mo_X9_load : MOk RX9 cX9_load 1 "load" mi_X9_load [] := ⟨(rows_ok mr_X9_load).1, fld_ok (wG_of [1076, 1077, 1082, 1073, 1080] (by decide +kernel) (by decide +kernel)) (by decide +kernel), mth_ok (List.forall_mem_cons.mpr ⟨m_0 cal_X9_findEntries (wG_t5 18 (by decide +kernel) rfl), List.forall_mem_cons.mpr ⟨m_0 cal_X9_readText (wG_t5 123 (by decide +kernel) rfl), List.forall_mem_cons.mpr ⟨m_1 cal_X9_move (wG_t5 145 (by decide +kernel) rfl), List.forall_mem_cons.mpr ⟨m_0 cal_X9_size (wG_t5 22 (by decide +kernel) rfl), List.forall_mem_nil _⟩⟩⟩⟩), thr_ok (by intro q h; cases h), cls_ok (by intro q h; cases h), c32_ok (by intro q h; cases h), c64_ok (by intro q h; cases h), an_ok 0 (by decide +kernel) (fun h => absurd rfl h) (fun _ => by decide +kernel), (rows_ok mr_X9_load).2, rfl, hnd_0⟩
set_option maxRecDepth 20000 in
theorem ms_X9_load : MStat 136 := ⟨mo_X9_load, by decide +kernel, ret_ok (by decide +kernel)⟩
set_option maxRecDepth 20000 in
theorem mr_X9_size : rowsC RX9 cX9_size 1 "size" mi_X9_size = true := by decide +kernel
set_option maxRecDepth 20000 in
theorem mo_X9_size : MOk RX9 cX9_size 1 "size" mi_X9_size [] := ⟨(rows_ok mr_X9_size).1, fld_ok (wG_of [1076] (by decide +kernel) (by decide +kernel)) (by decide +kernel), mth_ok (by intro q h; cases h), thr_ok (by intro q h; cases h), cls_ok (by intro q h; cases h), c32_ok (by intro q h; cases h), c64_ok (by intro q h; cases h), an_ok 0 (by decide +kernel) (fun h => absurd rfl h) (fun _ => by decide +kernel), (rows_ok mr_X9_size).2, rfl, hnd_0⟩
set_option maxRecDepth 20000 in
theorem ms_X9_size : MStat 137 := ⟨mo_X9_size, by decide +kernel, ret_ok (by decide +kernel)⟩
set_option maxRecDepth 20000 in
theorem mr_X9_isCell : rowsC RX9 cX9_isCell 2 "isCell" mi_X9_isCell = true := by decide +kernel
set_option maxRecDepth 20000 in
theorem mo_X9_isCell : MOk RX9 cX9_isCell 2 "isCell" mi_X9_isCell [] := ⟨(rows_ok mr_X9_isCell).1, fld_ok (wG_of [] (by decide +kernel) (by decide +kernel)) (by decide +kernel), mth_ok (List.forall_mem_cons.mpr ⟨m_0 cal_X9_size (wG_t5 22 (by decide +kernel) rfl), List.forall_mem_nil _⟩), thr_ok (by intro q h; cases h), cls_ok (by intro q h; cases h), c32_ok (by intro q h; cases h), c64_ok (by intro q h; cases h), an_ok 0 (by decide +kernel) (fun h => absurd rfl h) (fun _ => by decide +kernel), (rows_ok mr_X9_isCell).2, rfl, hnd_0⟩
set_option maxRecDepth 20000 in
theorem ms_X9_isCell : MStat 138 := ⟨mo_X9_isCell, by decide +kernel, ret_ok (by decide +kernel)⟩
set_option maxRecDepth 20000 in
theorem mr_X9_isLastColumn : rowsC RX9 cX9_isLastColumn 2 "isLastColumn" mi_X9_isLastColumn = true := by decide +kernel
set_option maxRecDepth 20000 in
theorem mo_X9_isLastColumn : MOk RX9 cX9_isLastColumn 2 "isLastColumn" mi_X9_isLastColumn [] := ⟨(rows_ok mr_X9_isLastColumn).1, fld_ok (wG_of [1076] (by decide +kernel) (by decide +kernel)) (by decide +kernel), mth_ok (by intro q h; cases h), thr_ok (by intro q h; cases h), cls_ok (by intro q h; cases h), c32_ok (by intro q h; cases h), c64_ok (by intro q h; cases h), an_ok 0 (by decide +kernel) (fun h => absurd rfl h) (fun _ => by decide +kernel), (rows_ok mr_X9_isLastColumn).2, rfl, hnd_0⟩
set_option maxRecDepth 20000 in
theorem ms_X9_isLastColumn : MStat 139 := ⟨mo_X9_isLastColumn, by decide +kernel, ret_ok (by decide +kernel)⟩
set_option maxRecDepth 20000 in
theorem mr_X9_isLastRow : rowsC RX9 cX9_isLastRow 2 "isLastRow" mi_X9_isLastRow = true := by decide +kernel
set_option maxRecDepth 20000 in
theorem mo_X9_isLastRow : MOk RX9 cX9_isLastRow 2 "isLastRow" mi_X9_isLastRow [] := ⟨(rows_ok mr_X9_isLastRow).1, fld_ok (wG_of [1076] (by decide +kernel) (by decide +kernel)) (by decide +kernel), mth_ok (by intro q h; cases h), thr_ok (by intro q h; cases h), cls_ok (by intro q h; cases h), c32_ok (by intro q h; cases h), c64_ok (by intro q h; cases h), an_ok 0 (by decide +kernel) (fun h => absurd rfl h) (fun _ => by decide +kernel), (rows_ok mr_X9_isLastRow).2, rfl, hnd_0⟩
set_option maxRecDepth 20000 in
theorem ms_X9_isLastRow : MStat 140 := ⟨mo_X9_isLastRow, by decide +kernel, ret_ok (by decide +kernel)⟩
set_option maxRecDepth 20000 in
theorem mr_X9_endsRight : rowsC RX9 cX9_endsRight 2 "endsRight" mi_X9_endsRight = true := by decide +kernel
set_option maxRecDepth 20000 in
theorem mo_X9_endsRight : MOk RX9 cX9_endsRight 2 "endsRight" mi_X9_endsRight [] := ⟨(rows_ok mr_X9_endsRight).1, fld_ok (wG_of [1076] (by decide +kernel) (by decide +kernel)) (by decide +kernel), mth_ok (List.forall_mem_cons.mpr ⟨m_0 cal_X9_isLastColumn (wG_t5 30 (by decide +kernel) rfl), List.forall_mem_nil _⟩), thr_ok (by intro q h; cases h), cls_ok (by intro q h; cases h), c32_ok (by intro q h; cases h), c64_ok (by intro q h; cases h), an_ok 0 (by decide +kernel) (fun h => absurd rfl h) (fun _ => by decide +kernel), (rows_ok mr_X9_endsRight).2, rfl, hnd_0⟩
set_option maxRecDepth 20000 in
theorem ms_X9_endsRight : MStat 141 := ⟨mo_X9_endsRight, by decide +kernel, ret_ok (by decide +kernel)⟩
set_option maxRecDepth 20000 in
theorem mr_X9_endsBelow : rowsC RX9 cX9_endsBelow 2 "endsBelow" mi_X9_endsBelow = true := by decide +kernel
set_option maxRecDepth 20000 in
theorem mo_X9_endsBelow : MOk RX9 cX9_endsBelow 2 "endsBelow" mi_X9_endsBelow [] := ⟨(rows_ok mr_X9_endsBelow).1, fld_ok (wG_of [1076] (by decide +kernel) (by decide +kernel)) (by decide +kernel), mth_ok (List.forall_mem_cons.mpr ⟨m_0 cal_X9_isLastRow (wG_t5 38 (by decide +kernel) rfl), List.forall_mem_nil _⟩), thr_ok (by intro q h; cases h), cls_ok (by intro q h; cases h), c32_ok (by intro q h; cases h), c64_ok (by intro q h; cases h), an_ok 0 (by decide +kernel) (fun h => absurd rfl h) (fun _ => by decide +kernel), (rows_ok mr_X9_endsBelow).2, rfl, hnd_0⟩
set_option maxRecDepth 20000 in
theorem ms_X9_endsBelow : MStat 142 := ⟨mo_X9_endsBelow, by decide +kernel, ret_ok (by decide +kernel)⟩
set_option maxRecDepth 20000 in
theorem mr_X9_findEntries_0 : ((cd_X9_findEntries.drop 0).take 50).all (fun r : Nat × ARow => match lk mi_X9_findEntries.thr r.1 with
  | some _ => match r.2.1 with
    | .new _ => true
    | _ => false
  | none => chk RX9 cX9_findEntries 7 "findEntries" mi_X9_findEntries r.1 r.2.1 r.2.2.1 r.2.2.2) = true := by decide +kernel
set_option maxRecDepth 20000 in
theorem mr_X9_findEntries_50 : ((cd_X9_findEntries.drop 50).take 50).all (fun r : Nat × ARow => match lk mi_X9_findEntries.thr r.1 with
  | some _ => match r.2.1 with
    | .new _ => true
    | _ => false
  | none => chk RX9 cX9_findEntries 7 "findEntries" mi_X9_findEntries r.1 r.2.1 r.2.2.1 r.2.2.2) = true := by decide +kernel
set_option maxRecDepth 20000 in
theorem mr_X9_findEntries_100 : ((cd_X9_findEntries.drop 100).take 50).all (fun r : Nat × ARow => match lk mi_X9_findEntries.thr r.1 with
  | some _ => match r.2.1 with
    | .new _ => true
    | _ => false
  | none => chk RX9 cX9_findEntries 7 "findEntries" mi_X9_findEntries r.1 r.2.1 r.2.2.1 r.2.2.2) = true := by decide +kernel
set_option maxRecDepth 20000 in
theorem mr_X9_findEntries : rowsC RX9 cX9_findEntries 7 "findEntries" mi_X9_findEntries = true := rows_0 (rows_cut (a := 0) mr_X9_findEntries_0 (rows_cut (a := 50) mr_X9_findEntries_50 (rows_cut (a := 100) mr_X9_findEntries_100 (rows_nil (by decide +kernel)))))
set_option maxRecDepth 20000 in
theorem mo_X9_findEntries : MOk RX9 cX9_findEntries 7 "findEntries" mi_X9_findEntries [] := ⟨(rows_ok mr_X9_findEntries).1, fld_ok (wG_of [1076, 1087, 1088, 1089, 1083] (by decide +kernel) (by decide +kernel)) (by decide +kernel), mth_ok (List.forall_mem_cons.mpr ⟨m_0 cal_X9_size (wG_t5 22 (by decide +kernel) rfl), List.forall_mem_cons.mpr ⟨m_0 cal_X9_endsRight (wG_t5 26 (by decide +kernel) rfl), List.forall_mem_cons.mpr ⟨m_0 cal_X9_endsBelow (wG_t5 34 (by decide +kernel) rfl), List.forall_mem_cons.mpr ⟨m_0 cal_X9_addEntry (wG_t5 42 (by decide +kernel) rfl), List.forall_mem_nil _⟩⟩⟩⟩), thr_ok (by intro q h; cases h), cls_ok (by intro q h; cases h), c32_ok (by intro q h; cases h), c64_ok (by intro q h; cases h), an_ok 0 (by decide +kernel) (fun h => absurd rfl h) (fun _ => by decide +kernel), (rows_ok mr_X9_findEntries).2, rfl, hnd_0⟩
set_option maxRecDepth 20000 in
theorem ms_X9_findEntries : MStat 143 := ⟨mo_X9_findEntries, by decide +kernel, ret_ok (by decide +kernel)⟩
set_option maxRecDepth 20000 in
theorem mr_X9_addEntry : rowsC RX9 cX9_addEntry 5 "addEntry" mi_X9_addEntry = true := by decide +kernel
set_option maxRecDepth 20000 in
theorem mo_X9_addEntry : MOk RX9 cX9_addEntry 5 "addEntry" mi_X9_addEntry [] := ⟨(rows_ok mr_X9_addEntry).1, fld_ok (wG_of [1076, 1084, 1085, 1086, 1087, 1088, 1083] (by decide +kernel) (by decide +kernel)) (by decide +kernel), mth_ok (by intro q h; cases h), thr_ok (by intro q h; cases h), cls_ok (by intro q h; cases h), c32_ok (by intro q h; cases h), c64_ok (by intro q h; cases h), an_ok 0 (by decide +kernel) (fun h => absurd rfl h) (fun _ => by decide +kernel), (rows_ok mr_X9_addEntry).2, rfl, hnd_0⟩
set_option maxRecDepth 20000 in
theorem ms_X9_addEntry : MStat 144 := ⟨mo_X9_addEntry, by decide +kernel, ret_ok (by decide +kernel)⟩
set_option maxRecDepth 20000 in
theorem mr_X9_isEntry : rowsC RX9 cX9_isEntry 2 "isEntry" mi_X9_isEntry = true := by decide +kernel
set_option maxRecDepth 20000 in
theorem mo_X9_isEntry : MOk RX9 cX9_isEntry 2 "isEntry" mi_X9_isEntry [] := ⟨(rows_ok mr_X9_isEntry).1, fld_ok (wG_of [1083] (by decide +kernel) (by decide +kernel)) (by decide +kernel), mth_ok (by intro q h; cases h), thr_ok (by intro q h; cases h), cls_ok (by intro q h; cases h), c32_ok (by intro q h; cases h), c64_ok (by intro q h; cases h), an_ok 0 (by decide +kernel) (fun h => absurd rfl h) (fun _ => by decide +kernel), (rows_ok mr_X9_isEntry).2, rfl, hnd_0⟩
set_option maxRecDepth 20000 in
theorem ms_X9_isEntry : MStat 145 := ⟨mo_X9_isEntry, by decide +kernel, ret_ok (by decide +kernel)⟩
set_option maxRecDepth 20000 in
theorem mr_X9_cellOf : rowsC RX9 cX9_cellOf 3 "cellOf" mi_X9_cellOf = true := by decide +kernel
set_option maxRecDepth 20000 in
theorem mo_X9_cellOf : MOk RX9 cX9_cellOf 3 "cellOf" mi_X9_cellOf [] := ⟨(rows_ok mr_X9_cellOf).1, fld_ok (wG_of [1076, 1084, 1085] (by decide +kernel) (by decide +kernel)) (by decide +kernel), mth_ok (by intro q h; cases h), thr_ok (by intro q h; cases h), cls_ok (by intro q h; cases h), c32_ok (by intro q h; cases h), c64_ok (by intro q h; cases h), an_ok 0 (by decide +kernel) (fun h => absurd rfl h) (fun _ => by decide +kernel), (rows_ok mr_X9_cellOf).2, rfl, hnd_0⟩
set_option maxRecDepth 20000 in
theorem ms_X9_cellOf : MStat 146 := ⟨mo_X9_cellOf, by decide +kernel, ret_ok (by decide +kernel)⟩
set_option maxRecDepth 20000 in
theorem mr_X9_entriesOf : rowsC RX9 cX9_entriesOf 2 "entriesOf" mi_X9_entriesOf = true := by decide +kernel
set_option maxRecDepth 20000 in
theorem mo_X9_entriesOf : MOk RX9 cX9_entriesOf 2 "entriesOf" mi_X9_entriesOf [] := ⟨(rows_ok mr_X9_entriesOf).1, fld_ok (wG_of [1087, 1088] (by decide +kernel) (by decide +kernel)) (by decide +kernel), mth_ok (by intro q h; cases h), thr_ok (by intro q h; cases h), cls_ok (by intro q h; cases h), c32_ok (by intro q h; cases h), c64_ok (by intro q h; cases h), an_ok 0 (by decide +kernel) (fun h => absurd rfl h) (fun _ => by decide +kernel), (rows_ok mr_X9_entriesOf).2, rfl, hnd_0⟩
set_option maxRecDepth 20000 in
theorem ms_X9_entriesOf : MStat 147 := ⟨mo_X9_entriesOf, by decide +kernel, ret_ok (by decide +kernel)⟩
set_option maxRecDepth 20000 in
theorem mr_X9_uncheckedIn : rowsC RX9 cX9_uncheckedIn 4 "uncheckedIn" mi_X9_uncheckedIn = true := by decide +kernel
set_option maxRecDepth 20000 in
theorem mo_X9_uncheckedIn : MOk RX9 cX9_uncheckedIn 4 "uncheckedIn" mi_X9_uncheckedIn [] := ⟨(rows_ok mr_X9_uncheckedIn).1, fld_ok (wG_of [1086] (by decide +kernel) (by decide +kernel)) (by decide +kernel), mth_ok (List.forall_mem_cons.mpr ⟨m_0 cal_X9_cellOf (wG_t5 184 (by decide +kernel) rfl), List.forall_mem_cons.mpr ⟨m_0 cal_X9_entriesOf (wG_t5 156 (by decide +kernel) rfl), List.forall_mem_nil _⟩⟩), thr_ok (by intro q h; cases h), cls_ok (by intro q h; cases h), c32_ok (by intro q h; cases h), c64_ok (by intro q h; cases h), an_ok 0 (by decide +kernel) (fun h => absurd rfl h) (fun _ => by decide +kernel), (rows_ok mr_X9_uncheckedIn).2, rfl, hnd_0⟩
set_option maxRecDepth 20000 in
theorem ms_X9_uncheckedIn : MStat 148 := ⟨mo_X9_uncheckedIn, by decide +kernel, ret_ok (by decide +kernel)⟩
set_option maxRecDepth 20000 in
theorem mr_X9_emptyIn : rowsC RX9 cX9_emptyIn 4 "emptyIn" mi_X9_emptyIn = true := by decide +kernel
set_option maxRecDepth 20000 in
theorem mo_X9_emptyIn : MOk RX9 cX9_emptyIn 4 "emptyIn" mi_X9_emptyIn [] := ⟨(rows_ok mr_X9_emptyIn).1, fld_ok (wG_of [1076, 1086] (by decide +kernel) (by decide +kernel)) (by decide +kernel), mth_ok (List.forall_mem_cons.mpr ⟨m_0 cal_X9_cellOf (wG_t5 184 (by decide +kernel) rfl), List.forall_mem_nil _⟩), thr_ok (by intro q h; cases h), cls_ok (by intro q h; cases h), c32_ok (by intro q h; cases h), c64_ok (by intro q h; cases h), an_ok 0 (by decide +kernel) (fun h => absurd rfl h) (fun _ => by decide +kernel), (rows_ok mr_X9_emptyIn).2, rfl, hnd_0⟩
set_option maxRecDepth 20000 in
theorem ms_X9_emptyIn : MStat 149 := ⟨mo_X9_emptyIn, by decide +kernel, ret_ok (by decide +kernel)⟩
set_option maxRecDepth 20000 in
theorem mr_X9_cellsIn : rowsC RX9 cX9_cellsIn 4 "cellsIn" mi_X9_cellsIn = true := by decide +kernel
set_option maxRecDepth 20000 in
theorem mo_X9_cellsIn : MOk RX9 cX9_cellsIn 4 "cellsIn" mi_X9_cellsIn [] := ⟨(rows_ok mr_X9_cellsIn).1, fld_ok (wG_of [] (by decide +kernel) (by decide +kernel)) (by decide +kernel), mth_ok (List.forall_mem_cons.mpr ⟨m_0 cal_X9_size (wG_t5 22 (by decide +kernel) rfl), List.forall_mem_cons.mpr ⟨m_0 cal_X9_entriesOf (wG_t5 156 (by decide +kernel) rfl), List.forall_mem_nil _⟩⟩), thr_ok (by intro q h; cases h), cls_ok (by intro q h; cases h), c32_ok (by intro q h; cases h), c64_ok (by intro q h; cases h), an_ok 0 (by decide +kernel) (fun h => absurd rfl h) (fun _ => by decide +kernel), (rows_ok mr_X9_cellsIn).2, rfl, hnd_0⟩
set_option maxRecDepth 20000 in
theorem ms_X9_cellsIn : MStat 150 := ⟨mo_X9_cellsIn, by decide +kernel, ret_ok (by decide +kernel)⟩
set_option maxRecDepth 20000 in
theorem mr_X9_bars : rowsC RX9 cX9_bars 3 "bars" mi_X9_bars = true := by decide +kernel
set_option maxRecDepth 20000 in
theorem mo_X9_bars : MOk RX9 cX9_bars 3 "bars" mi_X9_bars [] := ⟨(rows_ok mr_X9_bars).1, fld_ok (wG_of [1076] (by decide +kernel) (by decide +kernel)) (by decide +kernel), mth_ok (List.forall_mem_cons.mpr ⟨m_0 cal_X9_size (wG_t5 22 (by decide +kernel) rfl), List.forall_mem_nil _⟩), thr_ok (by intro q h; cases h), cls_ok (by intro q h; cases h), c32_ok (by intro q h; cases h), c64_ok (by intro q h; cases h), an_ok 0 (by decide +kernel) (fun h => absurd rfl h) (fun _ => by decide +kernel), (rows_ok mr_X9_bars).2, rfl, hnd_0⟩
set_option maxRecDepth 20000 in
theorem ms_X9_bars : MStat 151 := ⟨mo_X9_bars, by decide +kernel, ret_ok (by decide +kernel)⟩
set_option maxRecDepth 20000 in
theorem mr_X9_about_0 : ((cd_X9_about.drop 0).take 50).all (fun r : Nat × ARow => match lk mi_X9_about.thr r.1 with
  | some _ => match r.2.1 with
    | .new _ => true
    | _ => false
  | none => chk RX9 cX9_about 6 "about" mi_X9_about r.1 r.2.1 r.2.2.1 r.2.2.2) = true := by decide +kernel
set_option maxRecDepth 20000 in
theorem mr_X9_about_50 : ((cd_X9_about.drop 50).take 50).all (fun r : Nat × ARow => match lk mi_X9_about.thr r.1 with
  | some _ => match r.2.1 with
    | .new _ => true
    | _ => false
  | none => chk RX9 cX9_about 6 "about" mi_X9_about r.1 r.2.1 r.2.2.1 r.2.2.2) = true := by decide +kernel
set_option maxRecDepth 20000 in
theorem mr_X9_about_100 : ((cd_X9_about.drop 100).take 50).all (fun r : Nat × ARow => match lk mi_X9_about.thr r.1 with
  | some _ => match r.2.1 with
    | .new _ => true
    | _ => false
  | none => chk RX9 cX9_about 6 "about" mi_X9_about r.1 r.2.1 r.2.2.1 r.2.2.2) = true := by decide +kernel
set_option maxRecDepth 20000 in
theorem mr_X9_about : rowsC RX9 cX9_about 6 "about" mi_X9_about = true := rows_0 (rows_cut (a := 0) mr_X9_about_0 (rows_cut (a := 50) mr_X9_about_50 (rows_cut (a := 100) mr_X9_about_100 (rows_nil (by decide +kernel)))))
set_option maxRecDepth 20000 in
theorem mo_X9_about : MOk RX9 cX9_about 6 "about" mi_X9_about [] := ⟨(rows_ok mr_X9_about).1, fld_ok (wG_of [1076, 1085, 1089, 1073, 1083] (by decide +kernel) (by decide +kernel)) (by decide +kernel), mth_ok (List.forall_mem_cons.mpr ⟨m_0 cal_X9_size (wG_t5 22 (by decide +kernel) rfl), List.forall_mem_cons.mpr ⟨m_0 cal_X9_cellsIn (wG_t5 152 (by decide +kernel) rfl), List.forall_mem_cons.mpr ⟨m_0 cal_X9_bars (wG_t5 160 (by decide +kernel) rfl), List.forall_mem_nil _⟩⟩⟩), thr_ok (by intro q h; cases h), cls_ok (by intro q h; cases h), c32_ok (by intro q h; cases h), c64_ok (by intro q h; cases h), an_ok 0 (by decide +kernel) (fun h => absurd rfl h) (fun _ => by decide +kernel), (rows_ok mr_X9_about).2, rfl, hnd_0⟩
set_option maxRecDepth 20000 in
theorem ms_X9_about : MStat 152 := ⟨mo_X9_about, by decide +kernel, ret_ok (by decide +kernel)⟩
set_option maxRecDepth 20000 in
theorem mr_X9_cell : rowsC RX9 cX9_cell 3 "cell" mi_X9_cell = true := by decide +kernel
set_option maxRecDepth 20000 in
theorem mo_X9_cell : MOk RX9 cX9_cell 3 "cell" mi_X9_cell [] := ⟨(rows_ok mr_X9_cell).1, fld_ok (wG_of [1076, 1087, 1088, 1089, 1073] (by decide +kernel) (by decide +kernel)) (by decide +kernel), mth_ok (List.forall_mem_cons.mpr ⟨m_0 cal_X9_entriesOf (wG_t5 156 (by decide +kernel) rfl), List.forall_mem_cons.mpr ⟨m_0 cal_X9_isCell (wG_t5 168 (by decide +kernel) rfl), List.forall_mem_nil _⟩⟩), thr_ok (by intro q h; cases h), cls_ok (by intro q h; cases h), c32_ok (by intro q h; cases h), c64_ok (by intro q h; cases h), an_ok 0 (by decide +kernel) (fun h => absurd rfl h) (fun _ => by decide +kernel), (rows_ok mr_X9_cell).2, rfl, hnd_0⟩
set_option maxRecDepth 20000 in
theorem ms_X9_cell : MStat 153 := ⟨mo_X9_cell, by decide +kernel, ret_ok (by decide +kernel)⟩
set_option maxRecDepth 20000 in
theorem mr_X9_entry : rowsC RX9 cX9_entry 3 "entry" mi_X9_entry = true := by decide +kernel
set_option maxRecDepth 20000 in
theorem mo_X9_entry : MOk RX9 cX9_entry 3 "entry" mi_X9_entry [] := ⟨(rows_ok mr_X9_entry).1, fld_ok (wG_of [1084, 1085, 1086, 1089, 1073] (by decide +kernel) (by decide +kernel)) (by decide +kernel), mth_ok (List.forall_mem_cons.mpr ⟨m_0 cal_X9_isEntry (wG_t5 176 (by decide +kernel) rfl), List.forall_mem_cons.mpr ⟨m_0 cal_X9_uncheckedIn (wG_t5 180 (by decide +kernel) rfl), List.forall_mem_cons.mpr ⟨m_0 cal_X9_emptyIn (wG_t5 188 (by decide +kernel) rfl), List.forall_mem_cons.mpr ⟨m_0 cal_X9_wordIn (wG_t5 192 (by decide +kernel) rfl), List.forall_mem_nil _⟩⟩⟩⟩), thr_ok (by intro q h; cases h), cls_ok (by intro q h; cases h), c32_ok (by intro q h; cases h), c64_ok (by intro q h; cases h), an_ok 0 (by decide +kernel) (fun h => absurd rfl h) (fun _ => by decide +kernel), (rows_ok mr_X9_entry).2, rfl, hnd_0⟩
set_option maxRecDepth 20000 in
theorem ms_X9_entry : MStat 154 := ⟨mo_X9_entry, by decide +kernel, ret_ok (by decide +kernel)⟩
set_option maxRecDepth 20000 in
theorem mr_X9_wordIn : rowsC RX9 cX9_wordIn 3 "wordIn" mi_X9_wordIn = true := by decide +kernel
set_option maxRecDepth 20000 in
theorem mo_X9_wordIn : MOk RX9 cX9_wordIn 3 "wordIn" mi_X9_wordIn [] := ⟨(rows_ok mr_X9_wordIn).1, fld_ok (wG_of [1076] (by decide +kernel) (by decide +kernel)) (by decide +kernel), mth_ok (List.forall_mem_cons.mpr ⟨m_0 cal_X9_emptyIn (wG_t5 188 (by decide +kernel) rfl), List.forall_mem_cons.mpr ⟨m_0 cal_X9_isFitting (wG_t5 196 (by decide +kernel) rfl), List.forall_mem_nil _⟩⟩), thr_ok (by intro q h; cases h), cls_ok (by intro q h; cases h), c32_ok (by intro q h; cases h), c64_ok (by intro q h; cases h), an_ok 0 (by decide +kernel) (fun h => absurd rfl h) (fun _ => by decide +kernel), (rows_ok mr_X9_wordIn).2, rfl, hnd_0⟩
set_option maxRecDepth 20000 in
theorem ms_X9_wordIn : MStat 155 := ⟨mo_X9_wordIn, by decide +kernel, ret_ok (by decide +kernel)⟩
set_option maxRecDepth 20000 in
theorem mr_X9_isWord : rowsC RX9 cX9_isWord 2 "isWord" mi_X9_isWord = true := by decide +kernel
set_option maxRecDepth 20000 in
theorem mo_X9_isWord : MOk RX9 cX9_isWord 2 "isWord" mi_X9_isWord [] := ⟨(rows_ok mr_X9_isWord).1, fld_ok (wG_of [1076] (by decide +kernel) (by decide +kernel)) (by decide +kernel), mth_ok (by intro q h; cases h), thr_ok (by intro q h; cases h), cls_ok (by intro q h; cases h), c32_ok (by intro q h; cases h), c64_ok (by intro q h; cases h), an_ok 0 (by decide +kernel) (fun h => absurd rfl h) (fun _ => by decide +kernel), (rows_ok mr_X9_isWord).2, rfl, hnd_0⟩
set_option maxRecDepth 20000 in
theorem ms_X9_isWord : MStat 156 := ⟨mo_X9_isWord, by decide +kernel, ret_ok (by decide +kernel)⟩
set_option maxRecDepth 20000 in
theorem mr_X9_letterOf : rowsC RX9 cX9_letterOf 3 "letterOf" mi_X9_letterOf = true := by decide +kernel
set_option maxRecDepth 20000 in
theorem mo_X9_letterOf : MOk RX9 cX9_letterOf 3 "letterOf" mi_X9_letterOf [] := ⟨(rows_ok mr_X9_letterOf).1, fld_ok (wG_of [1076] (by decide +kernel) (by decide +kernel)) (by decide +kernel), mth_ok (by intro q h; cases h), thr_ok (by intro q h; cases h), cls_ok (by intro q h; cases h), c32_ok (by intro q h; cases h), c64_ok (by intro q h; cases h), an_ok 0 (by decide +kernel) (fun h => absurd rfl h) (fun _ => by decide +kernel), (rows_ok mr_X9_letterOf).2, rfl, hnd_0⟩
set_option maxRecDepth 20000 in
theorem ms_X9_letterOf : MStat 157 := ⟨mo_X9_letterOf, by decide +kernel, ret_ok (by decide +kernel)⟩
set_option maxRecDepth 20000 in
theorem mr_X9_word : rowsC RX9 cX9_word 3 "word" mi_X9_word = true := by decide +kernel
set_option maxRecDepth 20000 in
theorem mo_X9_word : MOk RX9 cX9_word 3 "word" mi_X9_word [] := ⟨(rows_ok mr_X9_word).1, fld_ok (wG_of [1076, 1073] (by decide +kernel) (by decide +kernel)) (by decide +kernel), mth_ok (List.forall_mem_cons.mpr ⟨m_0 cal_X9_isWord (wG_t5 208 (by decide +kernel) rfl), List.forall_mem_cons.mpr ⟨m_0 cal_X9_letterOf (wG_t5 200 (by decide +kernel) rfl), List.forall_mem_nil _⟩⟩), thr_ok (by intro q h; cases h), cls_ok (by intro q h; cases h), c32_ok (by intro q h; cases h), c64_ok (by intro q h; cases h), an_ok 0 (by decide +kernel) (fun h => absurd rfl h) (fun _ => by decide +kernel), (rows_ok mr_X9_word).2, rfl, hnd_0⟩
set_option maxRecDepth 20000 in
theorem ms_X9_word : MStat 158 := ⟨mo_X9_word, by decide +kernel, ret_ok (by decide +kernel)⟩
set_option maxRecDepth 20000 in
theorem mr_X9_isFitting : rowsC RX9 cX9_isFitting 6 "isFitting" mi_X9_isFitting = true := by decide +kernel
set_option maxRecDepth 20000 in
theorem mo_X9_isFitting : MOk RX9 cX9_isFitting 6 "isFitting" mi_X9_isFitting [] := ⟨(rows_ok mr_X9_isFitting).1, fld_ok (wG_of [1076, 1086] (by decide +kernel) (by decide +kernel)) (by decide +kernel), mth_ok (List.forall_mem_cons.mpr ⟨m_0 cal_X9_cellOf (wG_t5 184 (by decide +kernel) rfl), List.forall_mem_cons.mpr ⟨m_0 cal_X9_letterOf (wG_t5 200 (by decide +kernel) rfl), List.forall_mem_nil _⟩⟩), thr_ok (by intro q h; cases h), cls_ok (by intro q h; cases h), c32_ok (by intro q h; cases h), c64_ok (by intro q h; cases h), an_ok 0 (by decide +kernel) (fun h => absurd rfl h) (fun _ => by decide +kernel), (rows_ok mr_X9_isFitting).2, rfl, hnd_0⟩
set_option maxRecDepth 20000 in
theorem ms_X9_isFitting : MStat 159 := ⟨mo_X9_isFitting, by decide +kernel, ret_ok (by decide +kernel)⟩
set_option maxRecDepth 20000 in
theorem mr_X9_fitsOf : rowsC RX9 cX9_fitsOf 4 "fitsOf" mi_X9_fitsOf = true := by decide +kernel
set_option maxRecDepth 20000 in
theorem mo_X9_fitsOf : MOk RX9 cX9_fitsOf 4 "fitsOf" mi_X9_fitsOf [] := ⟨(rows_ok mr_X9_fitsOf).1, fld_ok (wG_of [1076] (by decide +kernel) (by decide +kernel)) (by decide +kernel), mth_ok (List.forall_mem_cons.mpr ⟨m_0 cal_X9_isFitting (wG_t5 196 (by decide +kernel) rfl), List.forall_mem_nil _⟩), thr_ok (by intro q h; cases h), cls_ok (by intro q h; cases h), c32_ok (by intro q h; cases h), c64_ok (by intro q h; cases h), an_ok 0 (by decide +kernel) (fun h => absurd rfl h) (fun _ => by decide +kernel), (rows_ok mr_X9_fitsOf).2, rfl, hnd_0⟩
set_option maxRecDepth 20000 in
theorem ms_X9_fitsOf : MStat 160 := ⟨mo_X9_fitsOf, by decide +kernel, ret_ok (by decide +kernel)⟩
set_option maxRecDepth 20000 in
theorem mr_X9_fits : rowsC RX9 cX9_fits 2 "fits" mi_X9_fits = true := by decide +kernel
set_option maxRecDepth 20000 in
theorem mo_X9_fits : MOk RX9 cX9_fits 2 "fits" mi_X9_fits [] := ⟨(rows_ok mr_X9_fits).1, fld_ok (wG_of [1073] (by decide +kernel) (by decide +kernel)) (by decide +kernel), mth_ok (List.forall_mem_cons.mpr ⟨m_0 cal_X9_isEntry (wG_t5 176 (by decide +kernel) rfl), List.forall_mem_cons.mpr ⟨m_0 cal_X9_fitsOf (wG_t5 216 (by decide +kernel) rfl), List.forall_mem_nil _⟩⟩), thr_ok (by intro q h; cases h), cls_ok (by intro q h; cases h), c32_ok (by intro q h; cases h), c64_ok (by intro q h; cases h), an_ok 0 (by decide +kernel) (fun h => absurd rfl h) (fun _ => by decide +kernel), (rows_ok mr_X9_fits).2, rfl, hnd_0⟩
set_option maxRecDepth 20000 in
theorem ms_X9_fits : MStat 161 := ⟨mo_X9_fits, by decide +kernel, ret_ok (by decide +kernel)⟩
set_option maxRecDepth 20000 in
theorem mr_X9_isTurned : rowsC RX9 cX9_isTurned 4 "isTurned" mi_X9_isTurned = true := by decide +kernel
set_option maxRecDepth 20000 in
theorem mo_X9_isTurned : MOk RX9 cX9_isTurned 4 "isTurned" mi_X9_isTurned [] := ⟨(rows_ok mr_X9_isTurned).1, fld_ok (wG_of [1076] (by decide +kernel) (by decide +kernel)) (by decide +kernel), mth_ok (List.forall_mem_cons.mpr ⟨m_0 cal_X9_size (wG_t5 22 (by decide +kernel) rfl), List.forall_mem_cons.mpr ⟨m_0 cal_X9_isLastColumn (wG_t5 30 (by decide +kernel) rfl), List.forall_mem_cons.mpr ⟨m_0 cal_X9_isLastRow (wG_t5 38 (by decide +kernel) rfl), List.forall_mem_nil _⟩⟩⟩), thr_ok (by intro q h; cases h), cls_ok (by intro q h; cases h), c32_ok (by intro q h; cases h), c64_ok (by intro q h; cases h), an_ok 0 (by decide +kernel) (fun h => absurd rfl h) (fun _ => by decide +kernel), (rows_ok mr_X9_isTurned).2, rfl, hnd_0⟩
set_option maxRecDepth 20000 in
theorem ms_X9_isTurned : MStat 162 := ⟨mo_X9_isTurned, by decide +kernel, ret_ok (by decide +kernel)⟩
set_option maxRecDepth 20000 in
theorem mr_X9_isWellChecked : rowsC RX9 cX9_isWellChecked 3 "isWellChecked" mi_X9_isWellChecked = true := by decide +kernel
set_option maxRecDepth 20000 in
theorem mo_X9_isWellChecked : MOk RX9 cX9_isWellChecked 3 "isWellChecked" mi_X9_isWellChecked [] := ⟨(rows_ok mr_X9_isWellChecked).1, fld_ok (wG_of [1086, 1083] (by decide +kernel) (by decide +kernel)) (by decide +kernel), mth_ok (List.forall_mem_cons.mpr ⟨m_0 cal_X9_uncheckedIn (wG_t5 180 (by decide +kernel) rfl), List.forall_mem_nil _⟩), thr_ok (by intro q h; cases h), cls_ok (by intro q h; cases h), c32_ok (by intro q h; cases h), c64_ok (by intro q h; cases h), an_ok 0 (by decide +kernel) (fun h => absurd rfl h) (fun _ => by decide +kernel), (rows_ok mr_X9_isWellChecked).2, rfl, hnd_0⟩
set_option maxRecDepth 20000 in
theorem ms_X9_isWellChecked : MStat 163 := ⟨mo_X9_isWellChecked, by decide +kernel, ret_ok (by decide +kernel)⟩
set_option maxRecDepth 20000 in
theorem mr_X9_isWithoutPairs : rowsC RX9 cX9_isWithoutPairs 4 "isWithoutPairs" mi_X9_isWithoutPairs = true := by decide +kernel
set_option maxRecDepth 20000 in
theorem mo_X9_isWithoutPairs : MOk RX9 cX9_isWithoutPairs 4 "isWithoutPairs" mi_X9_isWithoutPairs [] := ⟨(rows_ok mr_X9_isWithoutPairs).1, fld_ok (wG_of [1086, 1083] (by decide +kernel) (by decide +kernel)) (by decide +kernel), mth_ok (List.forall_mem_cons.mpr ⟨m_0 cal_X9_cellOf (wG_t5 184 (by decide +kernel) rfl), List.forall_mem_cons.mpr ⟨m_0 cal_X9_entriesOf (wG_t5 156 (by decide +kernel) rfl), List.forall_mem_nil _⟩⟩), thr_ok (by intro q h; cases h), cls_ok (by intro q h; cases h), c32_ok (by intro q h; cases h), c64_ok (by intro q h; cases h), an_ok 0 (by decide +kernel) (fun h => absurd rfl h) (fun _ => by decide +kernel), (rows_ok mr_X9_isWithoutPairs).2, rfl, hnd_0⟩
set_option maxRecDepth 20000 in
theorem ms_X9_isWithoutPairs : MStat 164 := ⟨mo_X9_isWithoutPairs, by decide +kernel, ret_ok (by decide +kernel)⟩
set_option maxRecDepth 20000 in
theorem mr_X9_isConnected_0 : ((cd_X9_isConnected.drop 0).take 50).all (fun r : Nat × ARow => match lk mi_X9_isConnected.thr r.1 with
  | some _ => match r.2.1 with
    | .new _ => true
    | _ => false
  | none => chk RX9 cX9_isConnected 4 "isConnected" mi_X9_isConnected r.1 r.2.1 r.2.2.1 r.2.2.2) = true := by decide +kernel
set_option maxRecDepth 20000 in
theorem mr_X9_isConnected_50 : ((cd_X9_isConnected.drop 50).take 50).all (fun r : Nat × ARow => match lk mi_X9_isConnected.thr r.1 with
  | some _ => match r.2.1 with
    | .new _ => true
    | _ => false
  | none => chk RX9 cX9_isConnected 4 "isConnected" mi_X9_isConnected r.1 r.2.1 r.2.2.1 r.2.2.2) = true := by decide +kernel
set_option maxRecDepth 20000 in
theorem mr_X9_isConnected_100 : ((cd_X9_isConnected.drop 100).take 50).all (fun r : Nat × ARow => match lk mi_X9_isConnected.thr r.1 with
  | some _ => match r.2.1 with
    | .new _ => true
    | _ => false
  | none => chk RX9 cX9_isConnected 4 "isConnected" mi_X9_isConnected r.1 r.2.1 r.2.2.1 r.2.2.2) = true := by decide +kernel
set_option maxRecDepth 20000 in
theorem mr_X9_isConnected : rowsC RX9 cX9_isConnected 4 "isConnected" mi_X9_isConnected = true := rows_0 (rows_cut (a := 0) mr_X9_isConnected_0 (rows_cut (a := 50) mr_X9_isConnected_50 (rows_cut (a := 100) mr_X9_isConnected_100 (rows_nil (by decide +kernel)))))
set_option maxRecDepth 20000 in
theorem mo_X9_isConnected : MOk RX9 cX9_isConnected 4 "isConnected" mi_X9_isConnected [] := ⟨(rows_ok mr_X9_isConnected).1, fld_ok (wG_of [1076, 1090] (by decide +kernel) (by decide +kernel)) (by decide +kernel), mth_ok (List.forall_mem_cons.mpr ⟨m_0 cal_X9_size (wG_t5 22 (by decide +kernel) rfl), List.forall_mem_cons.mpr ⟨m_0 cal_X9_endsRight (wG_t5 26 (by decide +kernel) rfl), List.forall_mem_cons.mpr ⟨m_0 cal_X9_endsBelow (wG_t5 34 (by decide +kernel) rfl), List.forall_mem_nil _⟩⟩⟩), thr_ok (by intro q h; cases h), cls_ok (by intro q h; cases h), c32_ok (by intro q h; cases h), c64_ok (by intro q h; cases h), an_ok 0 (by decide +kernel) (fun h => absurd rfl h) (fun _ => by decide +kernel), (rows_ok mr_X9_isConnected).2, rfl, hnd_0⟩
set_option maxRecDepth 20000 in
theorem ms_X9_isConnected : MStat 165 := ⟨mo_X9_isConnected, by decide +kernel, ret_ok (by decide +kernel)⟩
set_option maxRecDepth 20000 in
theorem mr_X9_keeps : rowsC RX9 cX9_keeps 2 "keeps" mi_X9_keeps = true := by decide +kernel
set_option maxRecDepth 20000 in
theorem mo_X9_keeps : MOk RX9 cX9_keeps 2 "keeps" mi_X9_keeps [] := ⟨(rows_ok mr_X9_keeps).1, fld_ok (wG_of [] (by decide +kernel) (by decide +kernel)) (by decide +kernel), mth_ok (List.forall_mem_cons.mpr ⟨m_0 cal_X9_cellsIn (wG_t5 152 (by decide +kernel) rfl), List.forall_mem_cons.mpr ⟨m_0 cal_X9_isTurned (wG_t5 231 (by decide +kernel) rfl), List.forall_mem_cons.mpr ⟨m_0 cal_X9_isWellChecked (wG_t5 235 (by decide +kernel) rfl), List.forall_mem_cons.mpr ⟨m_0 cal_X9_isWithoutPairs (wG_t5 239 (by decide +kernel) rfl), List.forall_mem_cons.mpr ⟨m_0 cal_X9_isConnected (wG_t6 3 (by decide +kernel) rfl), List.forall_mem_nil _⟩⟩⟩⟩⟩), thr_ok (by intro q h; cases h), cls_ok (by intro q h; cases h), c32_ok (by intro q h; cases h), c64_ok (by intro q h; cases h), an_ok 0 (by decide +kernel) (fun h => absurd rfl h) (fun _ => by decide +kernel), (rows_ok mr_X9_keeps).2, rfl, hnd_0⟩
set_option maxRecDepth 20000 in
theorem ms_X9_keeps : MStat 166 := ⟨mo_X9_keeps, by decide +kernel, ret_ok (by decide +kernel)⟩
