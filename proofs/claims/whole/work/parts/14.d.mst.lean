set_option maxRecDepth 20000 in
theorem mr_X9_kept : rowsC RX9 cX9_kept 3 "kept" mi_X9_kept = true := by decide +kernel
set_option maxRecDepth 20000 in
theorem mo_X9_kept : MOk RX9 cX9_kept 3 "kept" mi_X9_kept [] := ⟨(rows_ok mr_X9_kept).1, fld_ok (wG_of [] (by decide +kernel) (by decide +kernel)) (by decide +kernel), mth_ok (List.forall_mem_cons.mpr ⟨m_0 cal_X9_keeps (wG_t5 227 (by decide +kernel) rfl), List.forall_mem_nil _⟩), thr_ok (by intro q h; cases h), cls_ok (by intro q h; cases h), c32_ok (by intro q h; cases h), c64_ok (by intro q h; cases h), an_ok 0 (by decide +kernel) (fun h => absurd rfl h) (fun _ => by decide +kernel), (rows_ok mr_X9_kept).2, rfl, hnd_0⟩
set_option maxRecDepth 20000 in
theorem ms_X9_kept : MStat 167 := ⟨mo_X9_kept, by decide +kernel, ret_ok (by decide +kernel)⟩
set_option maxRecDepth 20000 in
theorem mr_X9_isRule : rowsC RX9 cX9_isRule 1 "isRule" mi_X9_isRule = true := by decide +kernel
set_option maxRecDepth 20000 in
theorem mo_X9_isRule : MOk RX9 cX9_isRule 1 "isRule" mi_X9_isRule [] := ⟨(rows_ok mr_X9_isRule).1, fld_ok (wG_of [] (by decide +kernel) (by decide +kernel)) (by decide +kernel), mth_ok (by intro q h; cases h), thr_ok (by intro q h; cases h), cls_ok (by intro q h; cases h), c32_ok (by intro q h; cases h), c64_ok (by intro q h; cases h), an_ok 0 (by decide +kernel) (fun h => absurd rfl h) (fun _ => by decide +kernel), (rows_ok mr_X9_isRule).2, rfl, hnd_0⟩
set_option maxRecDepth 20000 in
theorem ms_X9_isRule : MStat 168 := ⟨mo_X9_isRule, by decide +kernel, ret_ok (by decide +kernel)⟩
set_option maxRecDepth 20000 in
theorem mr_X9_rule : rowsC RX9 cX9_rule 2 "rule" mi_X9_rule = true := by decide +kernel
set_option maxRecDepth 20000 in
theorem mo_X9_rule : MOk RX9 cX9_rule 2 "rule" mi_X9_rule [] := ⟨(rows_ok mr_X9_rule).1, fld_ok (wG_of [1073] (by decide +kernel) (by decide +kernel)) (by decide +kernel), mth_ok (List.forall_mem_cons.mpr ⟨m_0 cal_X9_keeps (wG_t5 227 (by decide +kernel) rfl), List.forall_mem_cons.mpr ⟨m_1 cal_X9_isRule (wG_t5 224 (by decide +kernel) rfl), List.forall_mem_nil _⟩⟩), thr_ok (by intro q h; cases h), cls_ok (by intro q h; cases h), c32_ok (by intro q h; cases h), c64_ok (by intro q h; cases h), an_ok 0 (by decide +kernel) (fun h => absurd rfl h) (fun _ => by decide +kernel), (rows_ok mr_X9_rule).2, rfl, hnd_0⟩
set_option maxRecDepth 20000 in
theorem ms_X9_rule : MStat 169 := ⟨mo_X9_rule, by decide +kernel, ret_ok (by decide +kernel)⟩
set_option maxRecDepth 20000 in
theorem mr_X9_isKnightStep : rowsC RX9 cX9_isKnightStep 5 "isKnightStep" mi_X9_isKnightStep = true := by decide +kernel
set_option maxRecDepth 20000 in
theorem mo_X9_isKnightStep : MOk RX9 cX9_isKnightStep 5 "isKnightStep" mi_X9_isKnightStep [] := ⟨(rows_ok mr_X9_isKnightStep).1, fld_ok (wG_of [1076] (by decide +kernel) (by decide +kernel)) (by decide +kernel), mth_ok (by intro q h; cases h), thr_ok (by intro q h; cases h), cls_ok (by intro q h; cases h), c32_ok (by intro q h; cases h), c64_ok (by intro q h; cases h), an_ok 0 (by decide +kernel) (fun h => absurd rfl h) (fun _ => by decide +kernel), (rows_ok mr_X9_isKnightStep).2, rfl, hnd_0⟩
set_option maxRecDepth 20000 in
theorem ms_X9_isKnightStep : MStat 170 := ⟨mo_X9_isKnightStep, by decide +kernel, ret_ok (by decide +kernel)⟩
set_option maxRecDepth 20000 in
theorem mr_X9_canRead : rowsC RX9 cX9_canRead 7 "canRead" mi_X9_canRead = true := by decide +kernel
set_option maxRecDepth 20000 in
theorem mo_X9_canRead : MOk RX9 cX9_canRead 7 "canRead" mi_X9_canRead [] := ⟨(rows_ok mr_X9_canRead).1, fld_ok (wG_of [1076, 1091] (by decide +kernel) (by decide +kernel)) (by decide +kernel), mth_ok (List.forall_mem_cons.mpr ⟨m_0 cal_X9_entriesOf (wG_t5 156 (by decide +kernel) rfl), List.forall_mem_cons.mpr ⟨m_0 cal_X9_isKnightStep (wG_t6 20 (by decide +kernel) rfl), List.forall_mem_nil _⟩⟩), thr_ok (by intro q h; cases h), cls_ok (by intro q h; cases h), c32_ok (by intro q h; cases h), c64_ok (by intro q h; cases h), an_ok 0 (by decide +kernel) (fun h => absurd rfl h) (fun _ => by decide +kernel), (rows_ok mr_X9_canRead).2, rfl, hnd_0⟩
set_option maxRecDepth 20000 in
theorem ms_X9_canRead : MStat 171 := ⟨mo_X9_canRead, by decide +kernel, ret_ok (by decide +kernel)⟩
set_option maxRecDepth 20000 in
theorem mr_X9_countReadings : rowsC RX9 cX9_countReadings 7 "countReadings" mi_X9_countReadings = true := by decide +kernel
set_option maxRecDepth 20000 in
theorem mo_X9_countReadings : MOk RX9 cX9_countReadings 7 "countReadings" mi_X9_countReadings [] := ⟨(rows_ok mr_X9_countReadings).1, fld_ok (wG_of [1076, 1091, 1092] (by decide +kernel) (by decide +kernel)) (by decide +kernel), mth_ok (List.forall_mem_cons.mpr ⟨m_0 cal_X9_size (wG_t5 22 (by decide +kernel) rfl), List.forall_mem_cons.mpr ⟨m_0 cal_X9_canRead (wG_t6 16 (by decide +kernel) rfl), List.forall_mem_nil _⟩⟩), thr_ok (by intro q h; cases h), cls_ok (by intro q h; cases h), c32_ok (by intro q h; cases h), c64_ok (by intro q h; cases h), an_ok 0 (by decide +kernel) (fun h => absurd rfl h) (fun _ => by decide +kernel), (rows_ok mr_X9_countReadings).2, rfl, hnd_0⟩
set_option maxRecDepth 20000 in
theorem ms_X9_countReadings : MStat 172 := ⟨mo_X9_countReadings, by decide +kernel, ret_ok (by decide +kernel)⟩
set_option maxRecDepth 20000 in
theorem mr_X9_readings : rowsC RX9 cX9_readings 1 "readings" mi_X9_readings = true := by decide +kernel
set_option maxRecDepth 20000 in
theorem mo_X9_readings : MOk RX9 cX9_readings 1 "readings" mi_X9_readings [] := ⟨(rows_ok mr_X9_readings).1, fld_ok (wG_of [1073] (by decide +kernel) (by decide +kernel)) (by decide +kernel), mth_ok (List.forall_mem_cons.mpr ⟨m_0 cal_X9_countReadings (wG_t6 12 (by decide +kernel) rfl), List.forall_mem_nil _⟩), thr_ok (by intro q h; cases h), cls_ok (by intro q h; cases h), c32_ok (List.forall_mem_cons.mpr ⟨Or.inl ⟨10000000, by decide +kernel, wG_t6 11 (by decide +kernel) rfl⟩, List.forall_mem_nil _⟩), c64_ok (List.forall_mem_cons.mpr ⟨Or.inr (by decide +kernel), List.forall_mem_nil _⟩), an_ok 0 (by decide +kernel) (fun h => absurd rfl h) (fun _ => by decide +kernel), (rows_ok mr_X9_readings).2, rfl, hnd_0⟩
set_option maxRecDepth 20000 in
theorem ms_X9_readings : MStat 173 := ⟨mo_X9_readings, by decide +kernel, ret_ok (by decide +kernel)⟩
set_option maxRecDepth 20000 in
theorem mr_X9_reading : rowsC RX9 cX9_reading 2 "reading" mi_X9_reading = true := by decide +kernel
set_option maxRecDepth 20000 in
theorem mo_X9_reading : MOk RX9 cX9_reading 2 "reading" mi_X9_reading [] := ⟨(rows_ok mr_X9_reading).1, fld_ok (wG_of [1076, 1092, 1073] (by decide +kernel) (by decide +kernel)) (by decide +kernel), mth_ok (List.forall_mem_cons.mpr ⟨m_0 cal_X9_countReadings (wG_t6 12 (by decide +kernel) rfl), List.forall_mem_nil _⟩), thr_ok (by intro q h; cases h), cls_ok (by intro q h; cases h), c32_ok (by intro q h; cases h), c64_ok (by intro q h; cases h), an_ok 0 (by decide +kernel) (fun h => absurd rfl h) (fun _ => by decide +kernel), (rows_ok mr_X9_reading).2, rfl, hnd_0⟩
set_option maxRecDepth 20000 in
theorem ms_X9_reading : MStat 174 := ⟨mo_X9_reading, by decide +kernel, ret_ok (by decide +kernel)⟩
set_option maxRecDepth 20000 in
theorem mr_X9_remember : rowsC RX9 cX9_remember 2 "remember" mi_X9_remember = true := by decide +kernel
set_option maxRecDepth 20000 in
theorem mo_X9_remember : MOk RX9 cX9_remember 2 "remember" mi_X9_remember [] := ⟨(rows_ok mr_X9_remember).1, fld_ok (wG_of [1076, 1079, 1080] (by decide +kernel) (by decide +kernel)) (by decide +kernel), mth_ok (List.forall_mem_cons.mpr ⟨m_1 cal_X9_move (wG_t5 145 (by decide +kernel) rfl), List.forall_mem_nil _⟩), thr_ok (by intro q h; cases h), cls_ok (by intro q h; cases h), c32_ok (by intro q h; cases h), c64_ok (by intro q h; cases h), an_ok 0 (by decide +kernel) (fun h => absurd rfl h) (fun _ => by decide +kernel), (rows_ok mr_X9_remember).2, rfl, hnd_0⟩
set_option maxRecDepth 20000 in
theorem ms_X9_remember : MStat 175 := ⟨mo_X9_remember, by decide +kernel, ret_ok (by decide +kernel)⟩
set_option maxRecDepth 20000 in
theorem mr_X9_isWritable : rowsC RX9 cX9_isWritable 1 "isWritable" mi_X9_isWritable = true := by decide +kernel
set_option maxRecDepth 20000 in
theorem mo_X9_isWritable : MOk RX9 cX9_isWritable 1 "isWritable" mi_X9_isWritable [] := ⟨(rows_ok mr_X9_isWritable).1, fld_ok (wG_of [] (by decide +kernel) (by decide +kernel)) (by decide +kernel), mth_ok (List.forall_mem_cons.mpr ⟨m_1 cal_X9_isLetter (wG_t5 134 (by decide +kernel) rfl), List.forall_mem_nil _⟩), thr_ok (by intro q h; cases h), cls_ok (by intro q h; cases h), c32_ok (by intro q h; cases h), c64_ok (by intro q h; cases h), an_ok 0 (by decide +kernel) (fun h => absurd rfl h) (fun _ => by decide +kernel), (rows_ok mr_X9_isWritable).2, rfl, hnd_0⟩
set_option maxRecDepth 20000 in
theorem ms_X9_isWritable : MStat 176 := ⟨mo_X9_isWritable, by decide +kernel, ret_ok (by decide +kernel)⟩
set_option maxRecDepth 20000 in
theorem mr_X9_put : rowsC RX9 cX9_put 4 "put" mi_X9_put = true := by decide +kernel
set_option maxRecDepth 20000 in
theorem mo_X9_put : MOk RX9 cX9_put 4 "put" mi_X9_put [] := ⟨(rows_ok mr_X9_put).1, fld_ok (wG_of [1076, 1073] (by decide +kernel) (by decide +kernel)) (by decide +kernel), mth_ok (List.forall_mem_cons.mpr ⟨m_0 cal_X9_isCell (wG_t5 168 (by decide +kernel) rfl), List.forall_mem_cons.mpr ⟨m_1 cal_X9_isWritable (wG_t6 32 (by decide +kernel) rfl), List.forall_mem_cons.mpr ⟨m_0 cal_X9_remember (wG_t6 35 (by decide +kernel) rfl), List.forall_mem_nil _⟩⟩⟩), thr_ok (by intro q h; cases h), cls_ok (by intro q h; cases h), c32_ok (by intro q h; cases h), c64_ok (by intro q h; cases h), an_ok 0 (by decide +kernel) (fun h => absurd rfl h) (fun _ => by decide +kernel), (rows_ok mr_X9_put).2, rfl, hnd_0⟩
set_option maxRecDepth 20000 in
theorem ms_X9_put : MStat 177 := ⟨mo_X9_put, by decide +kernel, ret_ok (by decide +kernel)⟩
set_option maxRecDepth 20000 in
theorem mr_X9_isRim : rowsC RX9 cX9_isRim 3 "isRim" mi_X9_isRim = true := by decide +kernel
set_option maxRecDepth 20000 in
theorem mo_X9_isRim : MOk RX9 cX9_isRim 3 "isRim" mi_X9_isRim [] := ⟨(rows_ok mr_X9_isRim).1, fld_ok (wG_of [] (by decide +kernel) (by decide +kernel)) (by decide +kernel), mth_ok (List.forall_mem_cons.mpr ⟨m_0 cal_X9_isLastColumn (wG_t5 30 (by decide +kernel) rfl), List.forall_mem_cons.mpr ⟨m_0 cal_X9_isLastRow (wG_t5 38 (by decide +kernel) rfl), List.forall_mem_nil _⟩⟩), thr_ok (by intro q h; cases h), cls_ok (by intro q h; cases h), c32_ok (by intro q h; cases h), c64_ok (by intro q h; cases h), an_ok 0 (by decide +kernel) (fun h => absurd rfl h) (fun _ => by decide +kernel), (rows_ok mr_X9_isRim).2, rfl, hnd_0⟩
set_option maxRecDepth 20000 in
theorem ms_X9_isRim : MStat 178 := ⟨mo_X9_isRim, by decide +kernel, ret_ok (by decide +kernel)⟩
set_option maxRecDepth 20000 in
theorem mr_X9_bar : rowsC RX9 cX9_bar 4 "bar" mi_X9_bar = true := by decide +kernel
set_option maxRecDepth 20000 in
theorem mo_X9_bar : MOk RX9 cX9_bar 4 "bar" mi_X9_bar [] := ⟨(rows_ok mr_X9_bar).1, fld_ok (wG_of [1076] (by decide +kernel) (by decide +kernel)) (by decide +kernel), mth_ok (List.forall_mem_cons.mpr ⟨m_0 cal_X9_findEntries (wG_t5 18 (by decide +kernel) rfl), List.forall_mem_nil _⟩), thr_ok (by intro q h; cases h), cls_ok (by intro q h; cases h), c32_ok (by intro q h; cases h), c64_ok (by intro q h; cases h), an_ok 0 (by decide +kernel) (fun h => absurd rfl h) (fun _ => by decide +kernel), (rows_ok mr_X9_bar).2, rfl, hnd_0⟩
set_option maxRecDepth 20000 in
theorem ms_X9_bar : MStat 179 := ⟨mo_X9_bar, by decide +kernel, ret_ok (by decide +kernel)⟩
set_option maxRecDepth 20000 in
theorem mr_X9_setBar : rowsC RX9 cX9_setBar 4 "setBar" mi_X9_setBar = true := by decide +kernel
set_option maxRecDepth 20000 in
theorem mo_X9_setBar : MOk RX9 cX9_setBar 4 "setBar" mi_X9_setBar [] := ⟨(rows_ok mr_X9_setBar).1, fld_ok (wG_of [1073, 1083] (by decide +kernel) (by decide +kernel)) (by decide +kernel), mth_ok (List.forall_mem_cons.mpr ⟨m_0 cal_X9_isCell (wG_t5 168 (by decide +kernel) rfl), List.forall_mem_cons.mpr ⟨m_0 cal_X9_remember (wG_t6 35 (by decide +kernel) rfl), List.forall_mem_cons.mpr ⟨m_0 cal_X9_isRim (wG_t6 43 (by decide +kernel) rfl), List.forall_mem_cons.mpr ⟨m_0 cal_X9_bar (wG_t6 47 (by decide +kernel) rfl), List.forall_mem_nil _⟩⟩⟩⟩), thr_ok (by intro q h; cases h), cls_ok (by intro q h; cases h), c32_ok (by intro q h; cases h), c64_ok (by intro q h; cases h), an_ok 0 (by decide +kernel) (fun h => absurd rfl h) (fun _ => by decide +kernel), (rows_ok mr_X9_setBar).2, rfl, hnd_0⟩
set_option maxRecDepth 20000 in
theorem ms_X9_setBar : MStat 180 := ⟨mo_X9_setBar, by decide +kernel, ret_ok (by decide +kernel)⟩
set_option maxRecDepth 20000 in
theorem mr_X9_isLetters : rowsC RX9 cX9_isLetters 4 "isLetters" mi_X9_isLetters = true := by decide +kernel
set_option maxRecDepth 20000 in
theorem mo_X9_isLetters : MOk RX9 cX9_isLetters 4 "isLetters" mi_X9_isLetters [] := ⟨(rows_ok mr_X9_isLetters).1, fld_ok (wG_of [1074, 1075] (by decide +kernel) (by decide +kernel)) (by decide +kernel), mth_ok (List.forall_mem_cons.mpr ⟨m_1 cal_X9_isLetter (wG_t5 134 (by decide +kernel) rfl), List.forall_mem_nil _⟩), thr_ok (by intro q h; cases h), cls_ok (by intro q h; cases h), c32_ok (by intro q h; cases h), c64_ok (by intro q h; cases h), an_ok 0 (by decide +kernel) (fun h => absurd rfl h) (fun _ => by decide +kernel), (rows_ok mr_X9_isLetters).2, rfl, hnd_0⟩
set_option maxRecDepth 20000 in
theorem ms_X9_isLetters : MStat 181 := ⟨mo_X9_isLetters, by decide +kernel, ret_ok (by decide +kernel)⟩
set_option maxRecDepth 20000 in
theorem mr_X9_addWord : rowsC RX9 cX9_addWord 3 "addWord" mi_X9_addWord = true := by decide +kernel
set_option maxRecDepth 20000 in
theorem mo_X9_addWord : MOk RX9 cX9_addWord 3 "addWord" mi_X9_addWord [] := ⟨(rows_ok mr_X9_addWord).1, fld_ok (wG_of [1074, 1076, 1073, 1075] (by decide +kernel) (by decide +kernel)) (by decide +kernel), mth_ok (List.forall_mem_cons.mpr ⟨m_0 cal_X9_remember (wG_t6 35 (by decide +kernel) rfl), List.forall_mem_cons.mpr ⟨m_0 cal_X9_isLetters (wG_t6 55 (by decide +kernel) rfl), List.forall_mem_nil _⟩⟩), thr_ok (by intro q h; cases h), cls_ok (by intro q h; cases h), c32_ok (by intro q h; cases h), c64_ok (by intro q h; cases h), an_ok 0 (by decide +kernel) (fun h => absurd rfl h) (fun _ => by decide +kernel), (rows_ok mr_X9_addWord).2, rfl, hnd_0⟩
set_option maxRecDepth 20000 in
theorem ms_X9_addWord : MStat 182 := ⟨mo_X9_addWord, by decide +kernel, ret_ok (by decide +kernel)⟩
set_option maxRecDepth 20000 in
theorem mr_X9_setLine : rowsC RX9 cX9_setLine 2 "setLine" mi_X9_setLine = true := by decide +kernel
set_option maxRecDepth 20000 in
theorem mo_X9_setLine : MOk RX9 cX9_setLine 2 "setLine" mi_X9_setLine [] := ⟨(rows_ok mr_X9_setLine).1, fld_ok (wG_of [1074, 1076, 1073, 1075] (by decide +kernel) (by decide +kernel)) (by decide +kernel), mth_ok (List.forall_mem_cons.mpr ⟨m_0 cal_X9_remember (wG_t6 35 (by decide +kernel) rfl), List.forall_mem_cons.mpr ⟨m_0 cal_X9_isLetters (wG_t6 55 (by decide +kernel) rfl), List.forall_mem_nil _⟩⟩), thr_ok (by intro q h; cases h), cls_ok (by intro q h; cases h), c32_ok (by intro q h; cases h), c64_ok (by intro q h; cases h), an_ok 0 (by decide +kernel) (fun h => absurd rfl h) (fun _ => by decide +kernel), (rows_ok mr_X9_setLine).2, rfl, hnd_0⟩
set_option maxRecDepth 20000 in
theorem ms_X9_setLine : MStat 183 := ⟨mo_X9_setLine, by decide +kernel, ret_ok (by decide +kernel)⟩
set_option maxRecDepth 20000 in
theorem mr_X9_writeWord : rowsC RX9 cX9_writeWord 4 "writeWord" mi_X9_writeWord = true := by decide +kernel
set_option maxRecDepth 20000 in
theorem mo_X9_writeWord : MOk RX9 cX9_writeWord 4 "writeWord" mi_X9_writeWord [] := ⟨(rows_ok mr_X9_writeWord).1, fld_ok (wG_of [1076, 1086] (by decide +kernel) (by decide +kernel)) (by decide +kernel), mth_ok (List.forall_mem_cons.mpr ⟨m_0 cal_X9_cellOf (wG_t5 184 (by decide +kernel) rfl), List.forall_mem_cons.mpr ⟨m_0 cal_X9_letterOf (wG_t5 200 (by decide +kernel) rfl), List.forall_mem_nil _⟩⟩), thr_ok (by intro q h; cases h), cls_ok (by intro q h; cases h), c32_ok (by intro q h; cases h), c64_ok (by intro q h; cases h), an_ok 0 (by decide +kernel) (fun h => absurd rfl h) (fun _ => by decide +kernel), (rows_ok mr_X9_writeWord).2, rfl, hnd_0⟩
set_option maxRecDepth 20000 in
theorem ms_X9_writeWord : MStat 184 := ⟨mo_X9_writeWord, by decide +kernel, ret_ok (by decide +kernel)⟩
set_option maxRecDepth 20000 in
theorem mr_X9_write : rowsC RX9 cX9_write 4 "write" mi_X9_write = true := by decide +kernel
set_option maxRecDepth 20000 in
theorem mo_X9_write : MOk RX9 cX9_write 4 "write" mi_X9_write [] := ⟨(rows_ok mr_X9_write).1, fld_ok (wG_of [1073] (by decide +kernel) (by decide +kernel)) (by decide +kernel), mth_ok (List.forall_mem_cons.mpr ⟨m_0 cal_X9_isEntry (wG_t5 176 (by decide +kernel) rfl), List.forall_mem_cons.mpr ⟨m_0 cal_X9_emptyIn (wG_t5 188 (by decide +kernel) rfl), List.forall_mem_cons.mpr ⟨m_0 cal_X9_isFitting (wG_t5 196 (by decide +kernel) rfl), List.forall_mem_cons.mpr ⟨m_0 cal_X9_isWord (wG_t5 208 (by decide +kernel) rfl), List.forall_mem_cons.mpr ⟨m_0 cal_X9_remember (wG_t6 35 (by decide +kernel) rfl), List.forall_mem_cons.mpr ⟨m_0 cal_X9_writeWord (wG_t6 67 (by decide +kernel) rfl), List.forall_mem_nil _⟩⟩⟩⟩⟩⟩), thr_ok (by intro q h; cases h), cls_ok (by intro q h; cases h), c32_ok (by intro q h; cases h), c64_ok (by intro q h; cases h), an_ok 0 (by decide +kernel) (fun h => absurd rfl h) (fun _ => by decide +kernel), (rows_ok mr_X9_write).2, rfl, hnd_0⟩
set_option maxRecDepth 20000 in
theorem ms_X9_write : MStat 185 := ⟨mo_X9_write, by decide +kernel, ret_ok (by decide +kernel)⟩
set_option maxRecDepth 20000 in
theorem mr_X9_eraseEntry : rowsC RX9 cX9_eraseEntry 7 "eraseEntry" mi_X9_eraseEntry = true := by decide +kernel
set_option maxRecDepth 20000 in
theorem mo_X9_eraseEntry : MOk RX9 cX9_eraseEntry 7 "eraseEntry" mi_X9_eraseEntry [] := ⟨(rows_ok mr_X9_eraseEntry).1, fld_ok (wG_of [1076, 1085, 1086, 1087, 1088] (by decide +kernel) (by decide +kernel)) (by decide +kernel), mth_ok (List.forall_mem_cons.mpr ⟨m_0 cal_X9_cellOf (wG_t5 184 (by decide +kernel) rfl), List.forall_mem_cons.mpr ⟨m_0 cal_X9_emptyIn (wG_t5 188 (by decide +kernel) rfl), List.forall_mem_nil _⟩⟩), thr_ok (by intro q h; cases h), cls_ok (by intro q h; cases h), c32_ok (by intro q h; cases h), c64_ok (by intro q h; cases h), an_ok 0 (by decide +kernel) (fun h => absurd rfl h) (fun _ => by decide +kernel), (rows_ok mr_X9_eraseEntry).2, rfl, hnd_0⟩
set_option maxRecDepth 20000 in
theorem ms_X9_eraseEntry : MStat 186 := ⟨mo_X9_eraseEntry, by decide +kernel, ret_ok (by decide +kernel)⟩
set_option maxRecDepth 20000 in
theorem mr_X9_erase : rowsC RX9 cX9_erase 2 "erase" mi_X9_erase = true := by decide +kernel
set_option maxRecDepth 20000 in
theorem mo_X9_erase : MOk RX9 cX9_erase 2 "erase" mi_X9_erase [] := ⟨(rows_ok mr_X9_erase).1, fld_ok (wG_of [1073] (by decide +kernel) (by decide +kernel)) (by decide +kernel), mth_ok (List.forall_mem_cons.mpr ⟨m_0 cal_X9_isEntry (wG_t5 176 (by decide +kernel) rfl), List.forall_mem_cons.mpr ⟨m_0 cal_X9_remember (wG_t6 35 (by decide +kernel) rfl), List.forall_mem_cons.mpr ⟨m_0 cal_X9_eraseEntry (wG_t6 75 (by decide +kernel) rfl), List.forall_mem_nil _⟩⟩⟩), thr_ok (by intro q h; cases h), cls_ok (by intro q h; cases h), c32_ok (by intro q h; cases h), c64_ok (by intro q h; cases h), an_ok 0 (by decide +kernel) (fun h => absurd rfl h) (fun _ => by decide +kernel), (rows_ok mr_X9_erase).2, rfl, hnd_0⟩
set_option maxRecDepth 20000 in
theorem ms_X9_erase : MStat 187 := ⟨mo_X9_erase, by decide +kernel, ret_ok (by decide +kernel)⟩
set_option maxRecDepth 20000 in
theorem mr_X9_undo : rowsC RX9 cX9_undo 1 "undo" mi_X9_undo = true := by decide +kernel
set_option maxRecDepth 20000 in
theorem mo_X9_undo : MOk RX9 cX9_undo 1 "undo" mi_X9_undo [] := ⟨(rows_ok mr_X9_undo).1, fld_ok (wG_of [1076, 1079, 1073, 1080] (by decide +kernel) (by decide +kernel)) (by decide +kernel), mth_ok (List.forall_mem_cons.mpr ⟨m_0 cal_X9_findEntries (wG_t5 18 (by decide +kernel) rfl), List.forall_mem_cons.mpr ⟨m_1 cal_X9_move (wG_t5 145 (by decide +kernel) rfl), List.forall_mem_nil _⟩⟩), thr_ok (by intro q h; cases h), cls_ok (by intro q h; cases h), c32_ok (by intro q h; cases h), c64_ok (by intro q h; cases h), an_ok 0 (by decide +kernel) (fun h => absurd rfl h) (fun _ => by decide +kernel), (rows_ok mr_X9_undo).2, rfl, hnd_0⟩
set_option maxRecDepth 20000 in
theorem ms_X9_undo : MStat 188 := ⟨mo_X9_undo, by decide +kernel, ret_ok (by decide +kernel)⟩
set_option maxRecDepth 20000 in
theorem mr_X9_possible : rowsC RX9 cX9_possible 1 "possible" mi_X9_possible = true := by decide +kernel
set_option maxRecDepth 20000 in
theorem mo_X9_possible : MOk RX9 cX9_possible 1 "possible" mi_X9_possible [] := ⟨(rows_ok mr_X9_possible).1, fld_ok (wG_of [1073] (by decide +kernel) (by decide +kernel)) (by decide +kernel), mth_ok (List.forall_mem_cons.mpr ⟨m_0 cal_X9_countReadings (wG_t6 12 (by decide +kernel) rfl), List.forall_mem_nil _⟩), thr_ok (by intro q h; cases h), cls_ok (by intro q h; cases h), c32_ok (by intro q h; cases h), c64_ok (by intro q h; cases h), an_ok 0 (by decide +kernel) (fun h => absurd rfl h) (fun _ => by decide +kernel), (rows_ok mr_X9_possible).2, rfl, hnd_0⟩
set_option maxRecDepth 20000 in
theorem ms_X9_possible : MStat 189 := ⟨mo_X9_possible, by decide +kernel, ret_ok (by decide +kernel)⟩
set_option maxRecDepth 20000 in
theorem mr_X9_canFill_0 : ((cd_X9_canFill.drop 0).take 50).all (fun r : Nat × ARow => match lk mi_X9_canFill.thr r.1 with
  | some _ => match r.2.1 with
    | .new _ => true
    | _ => false
  | none => chk RX9 cX9_canFill 8 "canFill" mi_X9_canFill r.1 r.2.1 r.2.2.1 r.2.2.2) = true := by decide +kernel
set_option maxRecDepth 20000 in
theorem mr_X9_canFill_50 : ((cd_X9_canFill.drop 50).take 50).all (fun r : Nat × ARow => match lk mi_X9_canFill.thr r.1 with
  | some _ => match r.2.1 with
    | .new _ => true
    | _ => false
  | none => chk RX9 cX9_canFill 8 "canFill" mi_X9_canFill r.1 r.2.1 r.2.2.1 r.2.2.2) = true := by decide +kernel
set_option maxRecDepth 20000 in
theorem mr_X9_canFill_100 : ((cd_X9_canFill.drop 100).take 50).all (fun r : Nat × ARow => match lk mi_X9_canFill.thr r.1 with
  | some _ => match r.2.1 with
    | .new _ => true
    | _ => false
  | none => chk RX9 cX9_canFill 8 "canFill" mi_X9_canFill r.1 r.2.1 r.2.2.1 r.2.2.2) = true := by decide +kernel
set_option maxRecDepth 20000 in
theorem mr_X9_canFill : rowsC RX9 cX9_canFill 8 "canFill" mi_X9_canFill = true := rows_0 (rows_cut (a := 0) mr_X9_canFill_0 (rows_cut (a := 50) mr_X9_canFill_50 (rows_cut (a := 100) mr_X9_canFill_100 (rows_nil (by decide +kernel)))))
set_option maxRecDepth 20000 in
theorem mo_X9_canFill : MOk RX9 cX9_canFill 8 "canFill" mi_X9_canFill [] := ⟨(rows_ok mr_X9_canFill).1, fld_ok (wG_of [1076, 1084, 1085, 1086, 1087, 1088, 1091] (by decide +kernel) (by decide +kernel)) (by decide +kernel), mth_ok (List.forall_mem_cons.mpr ⟨m_0 cal_X9_cellOf (wG_t5 184 (by decide +kernel) rfl), List.forall_mem_cons.mpr ⟨m_0 cal_X9_isFitting (wG_t5 196 (by decide +kernel) rfl), List.forall_mem_cons.mpr ⟨m_0 cal_X9_letterOf (wG_t5 200 (by decide +kernel) rfl), List.forall_mem_nil _⟩⟩⟩), thr_ok (by intro q h; cases h), cls_ok (by intro q h; cases h), c32_ok (by intro q h; cases h), c64_ok (by intro q h; cases h), an_ok 0 (by decide +kernel) (fun h => absurd rfl h) (fun _ => by decide +kernel), (rows_ok mr_X9_canFill).2, rfl, hnd_0⟩
set_option maxRecDepth 20000 in
theorem ms_X9_canFill : MStat 190 := ⟨mo_X9_canFill, by decide +kernel, ret_ok (by decide +kernel)⟩
set_option maxRecDepth 20000 in
theorem mr_X9_fillings : rowsC RX9 cX9_fillings 4 "fillings" mi_X9_fillings = true := by decide +kernel
set_option maxRecDepth 20000 in
theorem mo_X9_fillings : MOk RX9 cX9_fillings 4 "fillings" mi_X9_fillings [] := ⟨(rows_ok mr_X9_fillings).1, fld_ok (wG_of [1076, 1091, 1073, 1083] (by decide +kernel) (by decide +kernel)) (by decide +kernel), mth_ok (List.forall_mem_cons.mpr ⟨m_0 cal_X9_canFill (wG_t6 91 (by decide +kernel) rfl), List.forall_mem_nil _⟩), thr_ok (by intro q h; cases h), cls_ok (by intro q h; cases h), c32_ok (by intro q h; cases h), c64_ok (by intro q h; cases h), an_ok 0 (by decide +kernel) (fun h => absurd rfl h) (fun _ => by decide +kernel), (rows_ok mr_X9_fillings).2, rfl, hnd_0⟩
set_option maxRecDepth 20000 in
theorem ms_X9_fillings : MStat 191 := ⟨mo_X9_fillings, by decide +kernel, ret_ok (by decide +kernel)⟩
set_option maxRecDepth 20000 in
theorem mr_X9_change : rowsC RX9 cX9_change 3 "change" mi_X9_change = true := by decide +kernel
set_option maxRecDepth 20000 in
theorem mo_X9_change : MOk RX9 cX9_change 3 "change" mi_X9_change [] := ⟨(rows_ok mr_X9_change).1, fld_ok (wG_of [1076] (by decide +kernel) (by decide +kernel)) (by decide +kernel), mth_ok (List.forall_mem_cons.mpr ⟨m_0 cal_X9_bar (wG_t6 47 (by decide +kernel) rfl), List.forall_mem_nil _⟩), thr_ok (by intro q h; cases h), cls_ok (by intro q h; cases h), c32_ok (by intro q h; cases h), c64_ok (by intro q h; cases h), an_ok 0 (by decide +kernel) (fun h => absurd rfl h) (fun _ => by decide +kernel), (rows_ok mr_X9_change).2, rfl, hnd_0⟩
set_option maxRecDepth 20000 in
theorem ms_X9_change : MStat 192 := ⟨mo_X9_change, by decide +kernel, ret_ok (by decide +kernel)⟩
set_option maxRecDepth 20000 in
theorem mr_X9_mend : rowsC RX9 cX9_mend 7 "mend" mi_X9_mend = true := by decide +kernel
set_option maxRecDepth 20000 in
theorem mo_X9_mend : MOk RX9 cX9_mend 7 "mend" mi_X9_mend [] := ⟨(rows_ok mr_X9_mend).1, fld_ok (wG_of [1073] (by decide +kernel) (by decide +kernel)) (by decide +kernel), mth_ok (List.forall_mem_cons.mpr ⟨m_0 cal_X9_size (wG_t5 22 (by decide +kernel) rfl), List.forall_mem_cons.mpr ⟨m_0 cal_X9_isRim (wG_t6 43 (by decide +kernel) rfl), List.forall_mem_cons.mpr ⟨m_0 cal_X9_kept (wG_t6 99 (by decide +kernel) rfl), List.forall_mem_cons.mpr ⟨m_0 cal_X9_change (wG_t6 103 (by decide +kernel) rfl), List.forall_mem_nil _⟩⟩⟩⟩), thr_ok (by intro q h; cases h), cls_ok (by intro q h; cases h), c32_ok (by intro q h; cases h), c64_ok (by intro q h; cases h), an_ok 0 (by decide +kernel) (fun h => absurd rfl h) (fun _ => by decide +kernel), (rows_ok mr_X9_mend).2, rfl, hnd_0⟩
set_option maxRecDepth 20000 in
theorem ms_X9_mend : MStat 193 := ⟨mo_X9_mend, by decide +kernel, ret_ok (by decide +kernel)⟩
set_option maxRecDepth 20000 in
theorem mr_X9_hardest : rowsC RX9 cX9_hardest 5 "hardest" mi_X9_hardest = true := by decide +kernel
set_option maxRecDepth 20000 in
theorem mo_X9_hardest : MOk RX9 cX9_hardest 5 "hardest" mi_X9_hardest [] := ⟨(rows_ok mr_X9_hardest).1, fld_ok (wG_of [1073, 1083] (by decide +kernel) (by decide +kernel)) (by decide +kernel), mth_ok (List.forall_mem_cons.mpr ⟨m_0 cal_X9_emptyIn (wG_t5 188 (by decide +kernel) rfl), List.forall_mem_cons.mpr ⟨m_0 cal_X9_fitsOf (wG_t5 216 (by decide +kernel) rfl), List.forall_mem_nil _⟩⟩), thr_ok (by intro q h; cases h), cls_ok (by intro q h; cases h), c32_ok (by intro q h; cases h), c64_ok (by intro q h; cases h), an_ok 0 (by decide +kernel) (fun h => absurd rfl h) (fun _ => by decide +kernel), (rows_ok mr_X9_hardest).2, rfl, hnd_0⟩
set_option maxRecDepth 20000 in
theorem ms_X9_hardest : MStat 194 := ⟨mo_X9_hardest, by decide +kernel, ret_ok (by decide +kernel)⟩
set_option maxRecDepth 20000 in
theorem mr_X9_putsLetter : rowsC RX9 cX9_putsLetter 5 "putsLetter" mi_X9_putsLetter = true := by decide +kernel
set_option maxRecDepth 20000 in
theorem mo_X9_putsLetter : MOk RX9 cX9_putsLetter 5 "putsLetter" mi_X9_putsLetter [] := ⟨(rows_ok mr_X9_putsLetter).1, fld_ok (wG_of [1076] (by decide +kernel) (by decide +kernel)) (by decide +kernel), mth_ok (List.forall_mem_cons.mpr ⟨m_0 cal_X9_isCell (wG_t5 168 (by decide +kernel) rfl), List.forall_mem_cons.mpr ⟨m_1 cal_X9_isWritable (wG_t6 32 (by decide +kernel) rfl), List.forall_mem_nil _⟩⟩), thr_ok (by intro q h; cases h), cls_ok (by intro q h; cases h), c32_ok (by intro q h; cases h), c64_ok (by intro q h; cases h), an_ok 0 (by decide +kernel) (fun h => absurd rfl h) (fun _ => by decide +kernel), (rows_ok mr_X9_putsLetter).2, rfl, hnd_0⟩
set_option maxRecDepth 20000 in
theorem ms_X9_putsLetter : MStat 195 := ⟨mo_X9_putsLetter, by decide +kernel, ret_ok (by decide +kernel)⟩
set_option maxRecDepth 20000 in
theorem mr_X9_setsBar : rowsC RX9 cX9_setsBar 5 "setsBar" mi_X9_setsBar = true := by decide +kernel
set_option maxRecDepth 20000 in
theorem mo_X9_setsBar : MOk RX9 cX9_setsBar 5 "setsBar" mi_X9_setsBar [] := ⟨(rows_ok mr_X9_setsBar).1, fld_ok (wG_of [] (by decide +kernel) (by decide +kernel)) (by decide +kernel), mth_ok (List.forall_mem_cons.mpr ⟨m_0 cal_X9_isCell (wG_t5 168 (by decide +kernel) rfl), List.forall_mem_cons.mpr ⟨m_0 cal_X9_isRim (wG_t6 43 (by decide +kernel) rfl), List.forall_mem_cons.mpr ⟨m_0 cal_X9_bar (wG_t6 47 (by decide +kernel) rfl), List.forall_mem_nil _⟩⟩⟩), thr_ok (by intro q h; cases h), cls_ok (by intro q h; cases h), c32_ok (by intro q h; cases h), c64_ok (by intro q h; cases h), an_ok 0 (by decide +kernel) (fun h => absurd rfl h) (fun _ => by decide +kernel), (rows_ok mr_X9_setsBar).2, rfl, hnd_0⟩
set_option maxRecDepth 20000 in
theorem ms_X9_setsBar : MStat 196 := ⟨mo_X9_setsBar, by decide +kernel, ret_ok (by decide +kernel)⟩
set_option maxRecDepth 20000 in
theorem mr_X9_writes : rowsC RX9 cX9_writes 4 "writes" mi_X9_writes = true := by decide +kernel
set_option maxRecDepth 20000 in
theorem mo_X9_writes : MOk RX9 cX9_writes 4 "writes" mi_X9_writes [] := ⟨(rows_ok mr_X9_writes).1, fld_ok (wG_of [] (by decide +kernel) (by decide +kernel)) (by decide +kernel), mth_ok (List.forall_mem_cons.mpr ⟨m_0 cal_X9_isEntry (wG_t5 176 (by decide +kernel) rfl), List.forall_mem_cons.mpr ⟨m_0 cal_X9_isFitting (wG_t5 196 (by decide +kernel) rfl), List.forall_mem_cons.mpr ⟨m_0 cal_X9_isWord (wG_t5 208 (by decide +kernel) rfl), List.forall_mem_cons.mpr ⟨m_0 cal_X9_writeWord (wG_t6 67 (by decide +kernel) rfl), List.forall_mem_nil _⟩⟩⟩⟩), thr_ok (by intro q h; cases h), cls_ok (by intro q h; cases h), c32_ok (by intro q h; cases h), c64_ok (by intro q h; cases h), an_ok 0 (by decide +kernel) (fun h => absurd rfl h) (fun _ => by decide +kernel), (rows_ok mr_X9_writes).2, rfl, hnd_0⟩
set_option maxRecDepth 20000 in
theorem ms_X9_writes : MStat 197 := ⟨mo_X9_writes, by decide +kernel, ret_ok (by decide +kernel)⟩
set_option maxRecDepth 20000 in
theorem mr_X9_erases : rowsC RX9 cX9_erases 3 "erases" mi_X9_erases = true := by decide +kernel
set_option maxRecDepth 20000 in
theorem mo_X9_erases : MOk RX9 cX9_erases 3 "erases" mi_X9_erases [] := ⟨(rows_ok mr_X9_erases).1, fld_ok (wG_of [] (by decide +kernel) (by decide +kernel)) (by decide +kernel), mth_ok (List.forall_mem_cons.mpr ⟨m_0 cal_X9_isEntry (wG_t5 176 (by decide +kernel) rfl), List.forall_mem_cons.mpr ⟨m_0 cal_X9_eraseEntry (wG_t6 75 (by decide +kernel) rfl), List.forall_mem_nil _⟩⟩), thr_ok (by intro q h; cases h), cls_ok (by intro q h; cases h), c32_ok (by intro q h; cases h), c64_ok (by intro q h; cases h), an_ok 0 (by decide +kernel) (fun h => absurd rfl h) (fun _ => by decide +kernel), (rows_ok mr_X9_erases).2, rfl, hnd_0⟩
set_option maxRecDepth 20000 in
theorem ms_X9_erases : MStat 198 := ⟨mo_X9_erases, by decide +kernel, ret_ok (by decide +kernel)⟩
set_option maxRecDepth 20000 in
theorem mr_X9_runs_0 : ((cd_X9_runs.drop 0).take 50).all (fun r : Nat × ARow => match lk mi_X9_runs.thr r.1 with
  | some _ => match r.2.1 with
    | .new _ => true
    | _ => false
  | none => chk RX9 cX9_runs 9 "runs" mi_X9_runs r.1 r.2.1 r.2.2.1 r.2.2.2) = true := by decide +kernel
set_option maxRecDepth 20000 in
theorem mr_X9_runs_50 : ((cd_X9_runs.drop 50).take 50).all (fun r : Nat × ARow => match lk mi_X9_runs.thr r.1 with
  | some _ => match r.2.1 with
    | .new _ => true
    | _ => false
  | none => chk RX9 cX9_runs 9 "runs" mi_X9_runs r.1 r.2.1 r.2.2.1 r.2.2.2) = true := by decide +kernel
set_option maxRecDepth 20000 in
theorem mr_X9_runs_100 : ((cd_X9_runs.drop 100).take 50).all (fun r : Nat × ARow => match lk mi_X9_runs.thr r.1 with
  | some _ => match r.2.1 with
    | .new _ => true
    | _ => false
  | none => chk RX9 cX9_runs 9 "runs" mi_X9_runs r.1 r.2.1 r.2.2.1 r.2.2.2) = true := by decide +kernel
set_option maxRecDepth 20000 in
theorem mr_X9_runs : rowsC RX9 cX9_runs 9 "runs" mi_X9_runs = true := rows_0 (rows_cut (a := 0) mr_X9_runs_0 (rows_cut (a := 50) mr_X9_runs_50 (rows_cut (a := 100) mr_X9_runs_100 (rows_nil (by decide +kernel)))))
set_option maxRecDepth 20000 in
theorem mo_X9_runs : MOk RX9 cX9_runs 9 "runs" mi_X9_runs [] := ⟨(rows_ok mr_X9_runs).1, fld_ok (wG_of [1083] (by decide +kernel) (by decide +kernel)) (by decide +kernel), mth_ok (List.forall_mem_cons.mpr ⟨m_0 cal_X9_entriesOf (wG_t5 156 (by decide +kernel) rfl), List.forall_mem_cons.mpr ⟨m_0 cal_X9_isCell (wG_t5 168 (by decide +kernel) rfl), List.forall_mem_cons.mpr ⟨m_0 cal_X9_isEntry (wG_t5 176 (by decide +kernel) rfl), List.forall_mem_cons.mpr ⟨m_0 cal_X9_fitsOf (wG_t5 216 (by decide +kernel) rfl), List.forall_mem_cons.mpr ⟨m_0 cal_X9_keeps (wG_t5 227 (by decide +kernel) rfl), List.forall_mem_cons.mpr ⟨m_1 cal_X9_isRule (wG_t5 224 (by decide +kernel) rfl), List.forall_mem_cons.mpr ⟨m_0 cal_X9_countReadings (wG_t6 12 (by decide +kernel) rfl), List.forall_mem_cons.mpr ⟨m_0 cal_X9_putsLetter (wG_t6 122 (by decide +kernel) rfl), List.forall_mem_cons.mpr ⟨m_0 cal_X9_setsBar (wG_t6 126 (by decide +kernel) rfl), List.forall_mem_cons.mpr ⟨m_0 cal_X9_writes (wG_t6 130 (by decide +kernel) rfl), List.forall_mem_cons.mpr ⟨m_0 cal_X9_erases (wG_t6 134 (by decide +kernel) rfl), List.forall_mem_nil _⟩⟩⟩⟩⟩⟩⟩⟩⟩⟩⟩), thr_ok (by intro q h; cases h), cls_ok (by intro q h; cases h), c32_ok (by intro q h; cases h), c64_ok (by intro q h; cases h), an_ok 0 (by decide +kernel) (fun h => absurd rfl h) (fun _ => by decide +kernel), (rows_ok mr_X9_runs).2, rfl, hnd_0⟩
set_option maxRecDepth 20000 in
theorem ms_X9_runs : MStat 199 := ⟨mo_X9_runs, by decide +kernel, ret_ok (by decide +kernel)⟩
set_option maxRecDepth 20000 in
theorem mr_X9_runScript : rowsC RX9 cX9_runScript 10 "runScript" mi_X9_runScript = true := by decide +kernel
set_option maxRecDepth 20000 in
theorem mo_X9_runScript : MOk RX9 cX9_runScript 10 "runScript" mi_X9_runScript [] := ⟨(rows_ok mr_X9_runScript).1, fld_ok (wG_of [1076, 1078, 1073] (by decide +kernel) (by decide +kernel)) (by decide +kernel), mth_ok (List.forall_mem_cons.mpr ⟨m_0 cal_X9_findEntries (wG_t5 18 (by decide +kernel) rfl), List.forall_mem_cons.mpr ⟨m_1 cal_X9_move (wG_t5 145 (by decide +kernel) rfl), List.forall_mem_cons.mpr ⟨m_0 cal_X9_runs (wG_t6 118 (by decide +kernel) rfl), List.forall_mem_nil _⟩⟩⟩), thr_ok (by intro q h; cases h), cls_ok (by intro q h; cases h), c32_ok (List.forall_mem_cons.mpr ⟨Or.inr (by decide +kernel), List.forall_mem_cons.mpr ⟨Or.inr (by decide +kernel), List.forall_mem_cons.mpr ⟨Or.inr (by decide +kernel), List.forall_mem_nil _⟩⟩⟩), c64_ok (List.forall_mem_cons.mpr ⟨Or.inl (wG_t6 115 (by decide +kernel) rfl), List.forall_mem_cons.mpr ⟨Or.inl (wG_t6 116 (by decide +kernel) rfl), List.forall_mem_cons.mpr ⟨Or.inl (wG_t6 117 (by decide +kernel) rfl), List.forall_mem_nil _⟩⟩⟩), an_ok 0 (by decide +kernel) (fun h => absurd rfl h) (fun _ => by decide +kernel), (rows_ok mr_X9_runScript).2, rfl, hnd_0⟩
set_option maxRecDepth 20000 in
theorem ms_X9_runScript : MStat 200 := ⟨mo_X9_runScript, by decide +kernel, ret_ok (by decide +kernel)⟩
set_option maxRecDepth 20000 in
theorem mr_X9_simulate_0 : ((cd_X9_simulate.drop 0).take 50).all (fun r : Nat × ARow => match lk mi_X9_simulate.thr r.1 with
  | some _ => match r.2.1 with
    | .new _ => true
    | _ => false
  | none => chk RX9 cX9_simulate 9 "simulate" mi_X9_simulate r.1 r.2.1 r.2.2.1 r.2.2.2) = true := by decide +kernel
set_option maxRecDepth 20000 in
theorem mr_X9_simulate_50 : ((cd_X9_simulate.drop 50).take 50).all (fun r : Nat × ARow => match lk mi_X9_simulate.thr r.1 with
  | some _ => match r.2.1 with
    | .new _ => true
    | _ => false
  | none => chk RX9 cX9_simulate 9 "simulate" mi_X9_simulate r.1 r.2.1 r.2.2.1 r.2.2.2) = true := by decide +kernel
set_option maxRecDepth 20000 in
theorem mr_X9_simulate_100 : ((cd_X9_simulate.drop 100).take 50).all (fun r : Nat × ARow => match lk mi_X9_simulate.thr r.1 with
  | some _ => match r.2.1 with
    | .new _ => true
    | _ => false
  | none => chk RX9 cX9_simulate 9 "simulate" mi_X9_simulate r.1 r.2.1 r.2.2.1 r.2.2.2) = true := by decide +kernel
set_option maxRecDepth 20000 in
theorem mr_X9_simulate : rowsC RX9 cX9_simulate 9 "simulate" mi_X9_simulate = true := rows_0 (rows_cut (a := 0) mr_X9_simulate_0 (rows_cut (a := 50) mr_X9_simulate_50 (rows_cut (a := 100) mr_X9_simulate_100 (rows_nil (by decide +kernel)))))
set_option maxRecDepth 20000 in
theorem mo_X9_simulate : MOk RX9 cX9_simulate 9 "simulate" mi_X9_simulate [] := ⟨(rows_ok mr_X9_simulate).1, fld_ok (wG_of [1076, 1078, 1073, 1083] (by decide +kernel) (by decide +kernel)) (by decide +kernel), mth_ok (List.forall_mem_cons.mpr ⟨m_0 cal_X9_findEntries (wG_t5 18 (by decide +kernel) rfl), List.forall_mem_cons.mpr ⟨m_1 cal_X9_move (wG_t5 145 (by decide +kernel) rfl), List.forall_mem_cons.mpr ⟨m_0 cal_X9_size (wG_t5 22 (by decide +kernel) rfl), List.forall_mem_cons.mpr ⟨m_0 cal_X9_countReadings (wG_t6 12 (by decide +kernel) rfl), List.forall_mem_cons.mpr ⟨m_0 cal_X9_isRim (wG_t6 43 (by decide +kernel) rfl), List.forall_mem_cons.mpr ⟨m_0 cal_X9_kept (wG_t6 99 (by decide +kernel) rfl), List.forall_mem_cons.mpr ⟨m_0 cal_X9_change (wG_t6 103 (by decide +kernel) rfl), List.forall_mem_nil _⟩⟩⟩⟩⟩⟩⟩), thr_ok (by intro q h; cases h), cls_ok (by intro q h; cases h), c32_ok (List.forall_mem_cons.mpr ⟨Or.inr (by decide +kernel), List.forall_mem_cons.mpr ⟨Or.inr (by decide +kernel), List.forall_mem_nil _⟩⟩), c64_ok (List.forall_mem_cons.mpr ⟨Or.inl (wG_t6 142 (by decide +kernel) rfl), List.forall_mem_cons.mpr ⟨Or.inl (wG_t6 143 (by decide +kernel) rfl), List.forall_mem_nil _⟩⟩), an_ok 0 (by decide +kernel) (fun h => absurd rfl h) (fun _ => by decide +kernel), (rows_ok mr_X9_simulate).2, rfl, hnd_0⟩
set_option maxRecDepth 20000 in
theorem ms_X9_simulate : MStat 201 := ⟨mo_X9_simulate, by decide +kernel, ret_ok (by decide +kernel)⟩
set_option maxRecDepth 20000 in
theorem mr_X9_isSlot : rowsC RX9 cX9_isSlot 1 "isSlot" mi_X9_isSlot = true := by decide +kernel
set_option maxRecDepth 20000 in
theorem mo_X9_isSlot : MOk RX9 cX9_isSlot 1 "isSlot" mi_X9_isSlot [] := ⟨(rows_ok mr_X9_isSlot).1, fld_ok (wG_of [] (by decide +kernel) (by decide +kernel)) (by decide +kernel), mth_ok (by intro q h; cases h), thr_ok (by intro q h; cases h), cls_ok (by intro q h; cases h), c32_ok (by intro q h; cases h), c64_ok (by intro q h; cases h), an_ok 0 (by decide +kernel) (fun h => absurd rfl h) (fun _ => by decide +kernel), (rows_ok mr_X9_isSlot).2, rfl, hnd_0⟩
set_option maxRecDepth 20000 in
theorem ms_X9_isSlot : MStat 202 := ⟨mo_X9_isSlot, by decide +kernel, ret_ok (by decide +kernel)⟩
set_option maxRecDepth 20000 in
theorem mr_X9_save : rowsC RX9 cX9_save 2 "save" mi_X9_save = true := by decide +kernel
set_option maxRecDepth 20000 in
theorem mo_X9_save : MOk RX9 cX9_save 2 "save" mi_X9_save [] := ⟨(rows_ok mr_X9_save).1, fld_ok (wG_of [1076, 1081, 1082, 1073, 1083] (by decide +kernel) (by decide +kernel)) (by decide +kernel), mth_ok (List.forall_mem_cons.mpr ⟨m_1 cal_X9_move (wG_t5 145 (by decide +kernel) rfl), List.forall_mem_cons.mpr ⟨m_1 cal_X9_isSlot (wG_t6 148 (by decide +kernel) rfl), List.forall_mem_nil _⟩⟩), thr_ok (by intro q h; cases h), cls_ok (by intro q h; cases h), c32_ok (by intro q h; cases h), c64_ok (by intro q h; cases h), an_ok 0 (by decide +kernel) (fun h => absurd rfl h) (fun _ => by decide +kernel), (rows_ok mr_X9_save).2, rfl, hnd_0⟩
set_option maxRecDepth 20000 in
theorem ms_X9_save : MStat 203 := ⟨mo_X9_save, by decide +kernel, ret_ok (by decide +kernel)⟩
set_option maxRecDepth 20000 in
theorem mr_X9_restore : rowsC RX9 cX9_restore 2 "restore" mi_X9_restore = true := by decide +kernel
set_option maxRecDepth 20000 in
theorem mo_X9_restore : MOk RX9 cX9_restore 2 "restore" mi_X9_restore [] := ⟨(rows_ok mr_X9_restore).1, fld_ok (wG_of [1076, 1081, 1082, 1073, 1080, 1083] (by decide +kernel) (by decide +kernel)) (by decide +kernel), mth_ok (List.forall_mem_cons.mpr ⟨m_0 cal_X9_findEntries (wG_t5 18 (by decide +kernel) rfl), List.forall_mem_cons.mpr ⟨m_1 cal_X9_move (wG_t5 145 (by decide +kernel) rfl), List.forall_mem_cons.mpr ⟨m_1 cal_X9_isSlot (wG_t6 148 (by decide +kernel) rfl), List.forall_mem_nil _⟩⟩⟩), thr_ok (by intro q h; cases h), cls_ok (by intro q h; cases h), c32_ok (by intro q h; cases h), c64_ok (by intro q h; cases h), an_ok 0 (by decide +kernel) (fun h => absurd rfl h) (fun _ => by decide +kernel), (rows_ok mr_X9_restore).2, rfl, hnd_0⟩
set_option maxRecDepth 20000 in
theorem ms_X9_restore : MStat 204 := ⟨mo_X9_restore, by decide +kernel, ret_ok (by decide +kernel)⟩
set_option maxRecDepth 20000 in
theorem mr_J13_bitCount_95d88 : rowsC RJ13 cJ13_bitCount_95d88 2 "bitCount" mi_J13_bitCount_95d88 = true := by decide +kernel
set_option maxRecDepth 20000 in
theorem mo_J13_bitCount_95d88 : MOk RJ13 cJ13_bitCount_95d88 2 "bitCount" mi_J13_bitCount_95d88 [] := ⟨(rows_ok mr_J13_bitCount_95d88).1, fld_ok (wG_of [] (by decide +kernel) (by decide +kernel)) (by decide +kernel), mth_ok (by intro q h; cases h), thr_ok (by intro q h; cases h), cls_ok (by intro q h; cases h), c32_ok (List.forall_mem_cons.mpr ⟨Or.inr (by decide +kernel), List.forall_mem_cons.mpr ⟨Or.inr (by decide +kernel), List.forall_mem_cons.mpr ⟨Or.inr (by decide +kernel), List.forall_mem_nil _⟩⟩⟩), c64_ok (List.forall_mem_cons.mpr ⟨Or.inl (wG_t3 55 (by decide +kernel) rfl), List.forall_mem_cons.mpr ⟨Or.inl (wG_t3 56 (by decide +kernel) rfl), List.forall_mem_cons.mpr ⟨Or.inl (wG_t3 57 (by decide +kernel) rfl), List.forall_mem_nil _⟩⟩⟩), an_ok 0 (by decide +kernel) (fun h => absurd rfl h) (fun _ => by decide +kernel), (rows_ok mr_J13_bitCount_95d88).2, rfl, hnd_0⟩
set_option maxRecDepth 20000 in
theorem ms_J13_bitCount_95d88 : MStat 205 := ⟨mo_J13_bitCount_95d88, by decide +kernel, ret_ok (by decide +kernel)⟩
set_option maxRecDepth 20000 in
theorem mr_J9_floorMod_7cf53 : rowsC RJ9 cJ9_floorMod_7cf53 3 "floorMod" mi_J9_floorMod_7cf53 = true := by decide +kernel
set_option maxRecDepth 20000 in
theorem mo_J9_floorMod_7cf53 : MOk RJ9 cJ9_floorMod_7cf53 3 "floorMod" mi_J9_floorMod_7cf53 [] := ⟨(rows_ok mr_J9_floorMod_7cf53).1, fld_ok (wG_of [] (by decide +kernel) (by decide +kernel)) (by decide +kernel), mth_ok (by intro q h; cases h), thr_ok (by intro q h; cases h), cls_ok (by intro q h; cases h), c32_ok (by intro q h; cases h), c64_ok (by intro q h; cases h), an_ok 0 (by decide +kernel) (fun h => absurd rfl h) (fun _ => by decide +kernel), (rows_ok mr_J9_floorMod_7cf53).2, rfl, hnd_0⟩
set_option maxRecDepth 20000 in
theorem ms_J9_floorMod_7cf53 : MStat 206 := ⟨mo_J9_floorMod_7cf53, by decide +kernel, ret_ok (by decide +kernel)⟩
set_option maxRecDepth 20000 in
theorem mr_J7_fill_53178 : rowsC RJ7 cJ7_fill_53178 4 "fill" mi_J7_fill_53178 = true := by decide +kernel
set_option maxRecDepth 20000 in
theorem mo_J7_fill_53178 : MOk RJ7 cJ7_fill_53178 4 "fill" mi_J7_fill_53178 [] := ⟨(rows_ok mr_J7_fill_53178).1, fld_ok (wG_of [] (by decide +kernel) (by decide +kernel)) (by decide +kernel), mth_ok (by intro q h; cases h), thr_ok (by intro q h; cases h), cls_ok (by intro q h; cases h), c32_ok (by intro q h; cases h), c64_ok (by intro q h; cases h), an_ok 0 (by decide +kernel) (fun h => absurd rfl h) (fun _ => by decide +kernel), (rows_ok mr_J7_fill_53178).2, rfl, hnd_0⟩
set_option maxRecDepth 20000 in
theorem ms_J7_fill_53178 : MStat 207 := ⟨mo_J7_fill_53178, by decide +kernel, ret_ok (by decide +kernel)⟩
set_option maxRecDepth 20000 in
theorem mr_L_append : rowsC RL cL_append 4 "append" mi_L_append = true := by decide +kernel
set_option maxRecDepth 20000 in
theorem mo_L_append : MOk RL cL_append 4 "append" mi_L_append [(0, 9, 12, 13), (0, 9, 15, 15)] := ⟨(rows_ok mr_L_append).1, fld_ok (wG_of [] (by decide +kernel) (by decide +kernel)) (by decide +kernel), mth_ok (List.forall_mem_cons.mpr ⟨m_0 cal_X8_append (wG_t3 85 (by decide +kernel) rfl), List.forall_mem_nil _⟩), thr_ok (by intro q h; cases h), cls_ok (by intro q h; cases h), c32_ok (by intro q h; cases h), c64_ok (by intro q h; cases h), an_ok 0 (by decide +kernel) (fun h => absurd rfl h) (fun _ => by decide +kernel), (rows_ok mr_L_append).2, rfl, hnd_2 (⟨rfl, rfl, by decide, by decide +kernel, wG_t3 83 (by decide +kernel) rfl, by decide, Or.inr ⟨3, rfl, by decide +kernel, rfl⟩⟩) (⟨rfl, rfl, by decide, by decide +kernel, wG_t3 84 (by decide +kernel) rfl, by decide, Or.inr ⟨3, rfl, by decide +kernel, rfl⟩⟩)⟩
set_option maxRecDepth 20000 in
theorem ms_L_append : MStat 208 := ⟨mo_L_append, by decide +kernel, ret_ok (by decide +kernel)⟩
set_option maxRecDepth 20000 in
theorem mr_L_load : rowsC RL cL_load 3 "load" mi_L_load = true := by decide +kernel
set_option maxRecDepth 20000 in
theorem mo_L_load : MOk RL cL_load 3 "load" mi_L_load [(0, 8, 11, 15)] := ⟨(rows_ok mr_L_load).1, fld_ok (wG_of [] (by decide +kernel) (by decide +kernel)) (by decide +kernel), mth_ok (List.forall_mem_cons.mpr ⟨m_0 cal_X8_load (wG_t3 184 (by decide +kernel) rfl), List.forall_mem_nil _⟩), thr_ok (by intro q h; cases h), cls_ok (by intro q h; cases h), c32_ok (by intro q h; cases h), c64_ok (by intro q h; cases h), an_ok 0 (by decide +kernel) (fun h => absurd rfl h) (fun _ => by decide +kernel), (rows_ok mr_L_load).2, rfl, hnd_1 (⟨rfl, rfl, by decide, by decide +kernel, wG_t3 84 (by decide +kernel) rfl, by decide, Or.inr ⟨2, rfl, by decide +kernel, rfl⟩⟩)⟩
set_option maxRecDepth 20000 in
theorem ms_L_load : MStat 209 := ⟨mo_L_load, by decide +kernel, ret_ok (by decide +kernel)⟩
set_option maxRecDepth 20000 in
theorem mr_L_about : rowsC RL cL_about 4 "about" mi_L_about = true := by decide +kernel
set_option maxRecDepth 20000 in
theorem mo_L_about : MOk RL cL_about 4 "about" mi_L_about [(0, 9, 12, 13)] := ⟨(rows_ok mr_L_about).1, fld_ok (wG_of [] (by decide +kernel) (by decide +kernel)) (by decide +kernel), mth_ok (List.forall_mem_cons.mpr ⟨m_0 cal_X8_about (wG_t3 200 (by decide +kernel) rfl), List.forall_mem_nil _⟩), thr_ok (by intro q h; cases h), cls_ok (by intro q h; cases h), c32_ok (by intro q h; cases h), c64_ok (by intro q h; cases h), an_ok 0 (by decide +kernel) (fun h => absurd rfl h) (fun _ => by decide +kernel), (rows_ok mr_L_about).2, rfl, hnd_1 (⟨rfl, rfl, by decide, by decide +kernel, wG_t3 83 (by decide +kernel) rfl, by decide, Or.inr ⟨3, rfl, by decide +kernel, rfl⟩⟩)⟩
set_option maxRecDepth 20000 in
theorem ms_L_about : MStat 210 := ⟨mo_L_about, by decide +kernel, ret_ok (by decide +kernel)⟩
set_option maxRecDepth 20000 in
theorem mr_L_cell : rowsC RL cL_cell 5 "cell" mi_L_cell = true := by decide +kernel
set_option maxRecDepth 20000 in
theorem mo_L_cell : MOk RL cL_cell 5 "cell" mi_L_cell [(0, 10, 13, 28), (0, 10, 17, 13)] := ⟨(rows_ok mr_L_cell).1, fld_ok (wG_of [] (by decide +kernel) (by decide +kernel)) (by decide +kernel), mth_ok (List.forall_mem_cons.mpr ⟨m_0 cal_X8_cell (wG_t3 220 (by decide +kernel) rfl), List.forall_mem_nil _⟩), thr_ok (by intro q h; cases h), cls_ok (by intro q h; cases h), c32_ok (by intro q h; cases h), c64_ok (by intro q h; cases h), an_ok 0 (by decide +kernel) (fun h => absurd rfl h) (fun _ => by decide +kernel), (rows_ok mr_L_cell).2, rfl, hnd_2 (⟨rfl, rfl, by decide, by decide +kernel, wG_t3 219 (by decide +kernel) rfl, by decide, Or.inl ⟨by decide +kernel, rfl⟩⟩) (⟨rfl, rfl, by decide, by decide +kernel, wG_t3 83 (by decide +kernel) rfl, by decide, Or.inl ⟨by decide +kernel, rfl⟩⟩)⟩
set_option maxRecDepth 20000 in
theorem ms_L_cell : MStat 211 := ⟨mo_L_cell, by decide +kernel, ret_ok (by decide +kernel)⟩
set_option maxRecDepth 20000 in
theorem mr_L_entry : rowsC RL cL_entry 5 "entry" mi_L_entry = true := by decide +kernel
set_option maxRecDepth 20000 in
theorem mo_L_entry : MOk RL cL_entry 5 "entry" mi_L_entry [(0, 10, 13, 28), (0, 10, 17, 13)] := ⟨(rows_ok mr_L_entry).1, fld_ok (wG_of [] (by decide +kernel) (by decide +kernel)) (by decide +kernel), mth_ok (List.forall_mem_cons.mpr ⟨m_0 cal_X8_entry (wG_t4 16 (by decide +kernel) rfl), List.forall_mem_nil _⟩), thr_ok (by intro q h; cases h), cls_ok (by intro q h; cases h), c32_ok (by intro q h; cases h), c64_ok (by intro q h; cases h), an_ok 0 (by decide +kernel) (fun h => absurd rfl h) (fun _ => by decide +kernel), (rows_ok mr_L_entry).2, rfl, hnd_2 (⟨rfl, rfl, by decide, by decide +kernel, wG_t3 219 (by decide +kernel) rfl, by decide, Or.inl ⟨by decide +kernel, rfl⟩⟩) (⟨rfl, rfl, by decide, by decide +kernel, wG_t3 83 (by decide +kernel) rfl, by decide, Or.inl ⟨by decide +kernel, rfl⟩⟩)⟩
set_option maxRecDepth 20000 in
theorem ms_L_entry : MStat 212 := ⟨mo_L_entry, by decide +kernel, ret_ok (by decide +kernel)⟩
set_option maxRecDepth 20000 in
theorem mr_L_word : rowsC RL cL_word 5 "word" mi_L_word = true := by decide +kernel
set_option maxRecDepth 20000 in
theorem mo_L_word : MOk RL cL_word 5 "word" mi_L_word [(0, 10, 13, 28), (0, 10, 17, 13)] := ⟨(rows_ok mr_L_word).1, fld_ok (wG_of [] (by decide +kernel) (by decide +kernel)) (by decide +kernel), mth_ok (List.forall_mem_cons.mpr ⟨m_0 cal_X8_word (wG_t4 38 (by decide +kernel) rfl), List.forall_mem_nil _⟩), thr_ok (by intro q h; cases h), cls_ok (by intro q h; cases h), c32_ok (by intro q h; cases h), c64_ok (by intro q h; cases h), an_ok 0 (by decide +kernel) (fun h => absurd rfl h) (fun _ => by decide +kernel), (rows_ok mr_L_word).2, rfl, hnd_2 (⟨rfl, rfl, by decide, by decide +kernel, wG_t3 219 (by decide +kernel) rfl, by decide, Or.inl ⟨by decide +kernel, rfl⟩⟩) (⟨rfl, rfl, by decide, by decide +kernel, wG_t3 83 (by decide +kernel) rfl, by decide, Or.inl ⟨by decide +kernel, rfl⟩⟩)⟩
set_option maxRecDepth 20000 in
theorem ms_L_word : MStat 213 := ⟨mo_L_word, by decide +kernel, ret_ok (by decide +kernel)⟩
set_option maxRecDepth 20000 in
theorem mr_L_fits : rowsC RL cL_fits 4 "fits" mi_L_fits = true := by decide +kernel
set_option maxRecDepth 20000 in
theorem mo_L_fits : MOk RL cL_fits 4 "fits" mi_L_fits [(0, 9, 12, 28)] := ⟨(rows_ok mr_L_fits).1, fld_ok (wG_of [] (by decide +kernel) (by decide +kernel)) (by decide +kernel), mth_ok (List.forall_mem_cons.mpr ⟨m_0 cal_X8_fits (wG_t4 53 (by decide +kernel) rfl), List.forall_mem_nil _⟩), thr_ok (by intro q h; cases h), cls_ok (by intro q h; cases h), c32_ok (by intro q h; cases h), c64_ok (by intro q h; cases h), an_ok 0 (by decide +kernel) (fun h => absurd rfl h) (fun _ => by decide +kernel), (rows_ok mr_L_fits).2, rfl, hnd_1 (⟨rfl, rfl, by decide, by decide +kernel, wG_t3 219 (by decide +kernel) rfl, by decide, Or.inr ⟨3, rfl, by decide +kernel, rfl⟩⟩)⟩
set_option maxRecDepth 20000 in
theorem ms_L_fits : MStat 214 := ⟨mo_L_fits, by decide +kernel, ret_ok (by decide +kernel)⟩
set_option maxRecDepth 20000 in
theorem mr_L_rule : rowsC RL cL_rule 4 "rule" mi_L_rule = true := by decide +kernel
set_option maxRecDepth 20000 in
theorem mo_L_rule : MOk RL cL_rule 4 "rule" mi_L_rule [(0, 16, 19, 13)] := ⟨(rows_ok mr_L_rule).1, fld_ok (wG_of [] (by decide +kernel) (by decide +kernel)) (by decide +kernel), mth_ok (List.forall_mem_cons.mpr ⟨m_0 cal_X8_rule (wG_t4 60 (by decide +kernel) rfl), List.forall_mem_nil _⟩), thr_ok (by intro q h; cases h), cls_ok (by intro q h; cases h), c32_ok (by intro q h; cases h), c64_ok (by intro q h; cases h), an_ok 0 (by decide +kernel) (fun h => absurd rfl h) (fun _ => by decide +kernel), (rows_ok mr_L_rule).2, rfl, hnd_1 (⟨rfl, rfl, by decide, by decide +kernel, wG_t3 83 (by decide +kernel) rfl, by decide, Or.inr ⟨3, rfl, by decide +kernel, rfl⟩⟩)⟩
set_option maxRecDepth 20000 in
theorem ms_L_rule : MStat 215 := ⟨mo_L_rule, by decide +kernel, ret_ok (by decide +kernel)⟩
set_option maxRecDepth 20000 in
theorem mr_L_reading : rowsC RL cL_reading 4 "reading" mi_L_reading = true := by decide +kernel
set_option maxRecDepth 20000 in
theorem mo_L_reading : MOk RL cL_reading 4 "reading" mi_L_reading [(0, 9, 12, 13)] := ⟨(rows_ok mr_L_reading).1, fld_ok (wG_of [] (by decide +kernel) (by decide +kernel)) (by decide +kernel), mth_ok (List.forall_mem_cons.mpr ⟨m_0 cal_X8_reading (wG_t4 69 (by decide +kernel) rfl), List.forall_mem_nil _⟩), thr_ok (by intro q h; cases h), cls_ok (by intro q h; cases h), c32_ok (by intro q h; cases h), c64_ok (by intro q h; cases h), an_ok 0 (by decide +kernel) (fun h => absurd rfl h) (fun _ => by decide +kernel), (rows_ok mr_L_reading).2, rfl, hnd_1 (⟨rfl, rfl, by decide, by decide +kernel, wG_t3 83 (by decide +kernel) rfl, by decide, Or.inr ⟨3, rfl, by decide +kernel, rfl⟩⟩)⟩
set_option maxRecDepth 20000 in
theorem ms_L_reading : MStat 216 := ⟨mo_L_reading, by decide +kernel, ret_ok (by decide +kernel)⟩
set_option maxRecDepth 20000 in
theorem mr_L_put : rowsC RL cL_put 5 "put" mi_L_put = true := by decide +kernel
set_option maxRecDepth 20000 in
theorem mo_L_put : MOk RL cL_put 5 "put" mi_L_put [(0, 10, 13, 28), (0, 10, 17, 13)] := ⟨(rows_ok mr_L_put).1, fld_ok (wG_of [] (by decide +kernel) (by decide +kernel)) (by decide +kernel), mth_ok (List.forall_mem_cons.mpr ⟨m_0 cal_X8_put (wG_t4 81 (by decide +kernel) rfl), List.forall_mem_nil _⟩), thr_ok (by intro q h; cases h), cls_ok (by intro q h; cases h), c32_ok (by intro q h; cases h), c64_ok (by intro q h; cases h), an_ok 0 (by decide +kernel) (fun h => absurd rfl h) (fun _ => by decide +kernel), (rows_ok mr_L_put).2, rfl, hnd_2 (⟨rfl, rfl, by decide, by decide +kernel, wG_t3 219 (by decide +kernel) rfl, by decide, Or.inl ⟨by decide +kernel, rfl⟩⟩) (⟨rfl, rfl, by decide, by decide +kernel, wG_t3 83 (by decide +kernel) rfl, by decide, Or.inl ⟨by decide +kernel, rfl⟩⟩)⟩
set_option maxRecDepth 20000 in
theorem ms_L_put : MStat 217 := ⟨mo_L_put, by decide +kernel, ret_ok (by decide +kernel)⟩
set_option maxRecDepth 20000 in
theorem mr_L_setBar : rowsC RL cL_setBar 6 "setBar" mi_L_setBar = true := by decide +kernel
set_option maxRecDepth 20000 in
theorem mo_L_setBar : MOk RL cL_setBar 6 "setBar" mi_L_setBar [(0, 12, 15, 28), (0, 12, 19, 13)] := ⟨(rows_ok mr_L_setBar).1, fld_ok (wG_of [] (by decide +kernel) (by decide +kernel)) (by decide +kernel), mth_ok (List.forall_mem_cons.mpr ⟨m_0 cal_X8_setBar (wG_t4 103 (by decide +kernel) rfl), List.forall_mem_nil _⟩), thr_ok (by intro q h; cases h), cls_ok (by intro q h; cases h), c32_ok (by intro q h; cases h), c64_ok (by intro q h; cases h), an_ok 0 (by decide +kernel) (fun h => absurd rfl h) (fun _ => by decide +kernel), (rows_ok mr_L_setBar).2, rfl, hnd_2 (⟨rfl, rfl, by decide, by decide +kernel, wG_t3 219 (by decide +kernel) rfl, by decide, Or.inl ⟨by decide +kernel, rfl⟩⟩) (⟨rfl, rfl, by decide, by decide +kernel, wG_t3 83 (by decide +kernel) rfl, by decide, Or.inl ⟨by decide +kernel, rfl⟩⟩)⟩
set_option maxRecDepth 20000 in
theorem ms_L_setBar : MStat 218 := ⟨mo_L_setBar, by decide +kernel, ret_ok (by decide +kernel)⟩
set_option maxRecDepth 20000 in
theorem mr_L_addWord : rowsC RL cL_addWord 3 "addWord" mi_L_addWord = true := by decide +kernel
set_option maxRecDepth 20000 in
theorem mo_L_addWord : MOk RL cL_addWord 3 "addWord" mi_L_addWord [(0, 8, 11, 15)] := ⟨(rows_ok mr_L_addWord).1, fld_ok (wG_of [] (by decide +kernel) (by decide +kernel)) (by decide +kernel), mth_ok (List.forall_mem_cons.mpr ⟨m_0 cal_X8_addWord (wG_t4 111 (by decide +kernel) rfl), List.forall_mem_nil _⟩), thr_ok (by intro q h; cases h), cls_ok (by intro q h; cases h), c32_ok (by intro q h; cases h), c64_ok (by intro q h; cases h), an_ok 0 (by decide +kernel) (fun h => absurd rfl h) (fun _ => by decide +kernel), (rows_ok mr_L_addWord).2, rfl, hnd_1 (⟨rfl, rfl, by decide, by decide +kernel, wG_t3 84 (by decide +kernel) rfl, by decide, Or.inr ⟨2, rfl, by decide +kernel, rfl⟩⟩)⟩
set_option maxRecDepth 20000 in
theorem ms_L_addWord : MStat 219 := ⟨mo_L_addWord, by decide +kernel, ret_ok (by decide +kernel)⟩
set_option maxRecDepth 20000 in
theorem mr_L_setLine : rowsC RL cL_setLine 3 "setLine" mi_L_setLine = true := by decide +kernel
set_option maxRecDepth 20000 in
theorem mo_L_setLine : MOk RL cL_setLine 3 "setLine" mi_L_setLine [(0, 8, 11, 15)] := ⟨(rows_ok mr_L_setLine).1, fld_ok (wG_of [] (by decide +kernel) (by decide +kernel)) (by decide +kernel), mth_ok (List.forall_mem_cons.mpr ⟨m_0 cal_X8_setLine (wG_t4 126 (by decide +kernel) rfl), List.forall_mem_nil _⟩), thr_ok (by intro q h; cases h), cls_ok (by intro q h; cases h), c32_ok (by intro q h; cases h), c64_ok (by intro q h; cases h), an_ok 0 (by decide +kernel) (fun h => absurd rfl h) (fun _ => by decide +kernel), (rows_ok mr_L_setLine).2, rfl, hnd_1 (⟨rfl, rfl, by decide, by decide +kernel, wG_t3 84 (by decide +kernel) rfl, by decide, Or.inr ⟨2, rfl, by decide +kernel, rfl⟩⟩)⟩
set_option maxRecDepth 20000 in
theorem ms_L_setLine : MStat 220 := ⟨mo_L_setLine, by decide +kernel, ret_ok (by decide +kernel)⟩
set_option maxRecDepth 20000 in
theorem mr_L_write : rowsC RL cL_write 5 "write" mi_L_write = true := by decide +kernel
set_option maxRecDepth 20000 in
theorem mo_L_write : MOk RL cL_write 5 "write" mi_L_write [(0, 10, 13, 28), (0, 10, 17, 15)] := ⟨(rows_ok mr_L_write).1, fld_ok (wG_of [] (by decide +kernel) (by decide +kernel)) (by decide +kernel), mth_ok (List.forall_mem_cons.mpr ⟨m_0 cal_X8_write (wG_t4 135 (by decide +kernel) rfl), List.forall_mem_nil _⟩), thr_ok (by intro q h; cases h), cls_ok (by intro q h; cases h), c32_ok (by intro q h; cases h), c64_ok (by intro q h; cases h), an_ok 0 (by decide +kernel) (fun h => absurd rfl h) (fun _ => by decide +kernel), (rows_ok mr_L_write).2, rfl, hnd_2 (⟨rfl, rfl, by decide, by decide +kernel, wG_t3 219 (by decide +kernel) rfl, by decide, Or.inl ⟨by decide +kernel, rfl⟩⟩) (⟨rfl, rfl, by decide, by decide +kernel, wG_t3 84 (by decide +kernel) rfl, by decide, Or.inl ⟨by decide +kernel, rfl⟩⟩)⟩
set_option maxRecDepth 20000 in
theorem ms_L_write : MStat 221 := ⟨mo_L_write, by decide +kernel, ret_ok (by decide +kernel)⟩
