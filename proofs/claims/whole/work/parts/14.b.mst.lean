set_option maxRecDepth 20000 in
theorem mr_X6_begin : rowsC RX6 cX6_begin 3 "begin" mi_X6_begin = true := by decide +kernel
set_option maxRecDepth 20000 in
theorem mo_X6_begin : MOk RX6 cX6_begin 3 "begin" mi_X6_begin [] := ⟨(rows_ok mr_X6_begin).1, fld_ok (wG_of [108, 111, 116, 121, 125, 126, 127] (by decide +kernel) (by decide +kernel)) (by decide +kernel), mth_ok (List.forall_mem_cons.mpr ⟨m_1 cal_J7_fill_53178 (wG_t2 67 (by decide +kernel) rfl), List.forall_mem_nil _⟩), thr_ok (by intro q h; cases h), cls_ok (by intro q h; cases h), c32_ok (by intro q h; cases h), c64_ok (by intro q h; cases h), an_ok 0 (by decide +kernel) (fun h => absurd rfl h) (fun _ => by decide +kernel), (rows_ok mr_X6_begin).2, rfl, hnd_0⟩
set_option maxRecDepth 20000 in
theorem ms_X6_begin : MStat 56 := ⟨mo_X6_begin, by decide +kernel, ret_ok (by decide +kernel)⟩
set_option maxRecDepth 20000 in
theorem mr_X6_cells : rowsC RX6 cX6_cells 1 "cells" mi_X6_cells = true := by decide +kernel
set_option maxRecDepth 20000 in
theorem mo_X6_cells : MOk RX6 cX6_cells 1 "cells" mi_X6_cells [] := ⟨(rows_ok mr_X6_cells).1, fld_ok (wG_of [108, 111] (by decide +kernel) (by decide +kernel)) (by decide +kernel), mth_ok (by intro q h; cases h), thr_ok (by intro q h; cases h), cls_ok (by intro q h; cases h), c32_ok (by intro q h; cases h), c64_ok (by intro q h; cases h), an_ok 0 (by decide +kernel) (fun h => absurd rfl h) (fun _ => by decide +kernel), (rows_ok mr_X6_cells).2, rfl, hnd_0⟩
set_option maxRecDepth 20000 in
theorem ms_X6_cells : MStat 57 := ⟨mo_X6_cells, by decide +kernel, ret_ok (by decide +kernel)⟩
set_option maxRecDepth 20000 in
theorem mr_X6_hasCell : rowsC RX6 cX6_hasCell 2 "hasCell" mi_X6_hasCell = true := by decide +kernel
set_option maxRecDepth 20000 in
theorem mo_X6_hasCell : MOk RX6 cX6_hasCell 2 "hasCell" mi_X6_hasCell [] := ⟨(rows_ok mr_X6_hasCell).1, fld_ok (wG_of [108, 111] (by decide +kernel) (by decide +kernel)) (by decide +kernel), mth_ok (by intro q h; cases h), thr_ok (by intro q h; cases h), cls_ok (by intro q h; cases h), c32_ok (by intro q h; cases h), c64_ok (by intro q h; cases h), an_ok 0 (by decide +kernel) (fun h => absurd rfl h) (fun _ => by decide +kernel), (rows_ok mr_X6_hasCell).2, rfl, hnd_0⟩
set_option maxRecDepth 20000 in
theorem ms_X6_hasCell : MStat 58 := ⟨mo_X6_hasCell, by decide +kernel, ret_ok (by decide +kernel)⟩
set_option maxRecDepth 20000 in
theorem mr_X6_columnOf : rowsC RX6 cX6_columnOf 2 "columnOf" mi_X6_columnOf = true := by decide +kernel
set_option maxRecDepth 20000 in
theorem mo_X6_columnOf : MOk RX6 cX6_columnOf 2 "columnOf" mi_X6_columnOf [] := ⟨(rows_ok mr_X6_columnOf).1, fld_ok (wG_of [111] (by decide +kernel) (by decide +kernel)) (by decide +kernel), mth_ok (by intro q h; cases h), thr_ok (by intro q h; cases h), cls_ok (by intro q h; cases h), c32_ok (by intro q h; cases h), c64_ok (by intro q h; cases h), an_ok 0 (by decide +kernel) (fun h => absurd rfl h) (fun _ => by decide +kernel), (rows_ok mr_X6_columnOf).2, rfl, hnd_0⟩
set_option maxRecDepth 20000 in
theorem ms_X6_columnOf : MStat 59 := ⟨mo_X6_columnOf, by decide +kernel, ret_ok (by decide +kernel)⟩
set_option maxRecDepth 20000 in
theorem mr_X6_rowOf : rowsC RX6 cX6_rowOf 2 "rowOf" mi_X6_rowOf = true := by decide +kernel
set_option maxRecDepth 20000 in
theorem mo_X6_rowOf : MOk RX6 cX6_rowOf 2 "rowOf" mi_X6_rowOf [] := ⟨(rows_ok mr_X6_rowOf).1, fld_ok (wG_of [111] (by decide +kernel) (by decide +kernel)) (by decide +kernel), mth_ok (by intro q h; cases h), thr_ok (by intro q h; cases h), cls_ok (by intro q h; cases h), c32_ok (by intro q h; cases h), c64_ok (by intro q h; cases h), an_ok 0 (by decide +kernel) (fun h => absurd rfl h) (fun _ => by decide +kernel), (rows_ok mr_X6_rowOf).2, rfl, hnd_0⟩
set_option maxRecDepth 20000 in
theorem ms_X6_rowOf : MStat 60 := ⟨mo_X6_rowOf, by decide +kernel, ret_ok (by decide +kernel)⟩
set_option maxRecDepth 20000 in
theorem mr_X6_letterAt : rowsC RX6 cX6_letterAt 2 "letterAt" mi_X6_letterAt = true := by decide +kernel
set_option maxRecDepth 20000 in
theorem mo_X6_letterAt : MOk RX6 cX6_letterAt 2 "letterAt" mi_X6_letterAt [] := ⟨(rows_ok mr_X6_letterAt).1, fld_ok (wG_of [127] (by decide +kernel) (by decide +kernel)) (by decide +kernel), mth_ok (List.forall_mem_cons.mpr ⟨m_0 cal_X6_hasCell (wG_t2 80 (by decide +kernel) rfl), List.forall_mem_nil _⟩), thr_ok (by intro q h; cases h), cls_ok (by intro q h; cases h), c32_ok (by intro q h; cases h), c64_ok (by intro q h; cases h), an_ok 0 (by decide +kernel) (fun h => absurd rfl h) (fun _ => by decide +kernel), (rows_ok mr_X6_letterAt).2, rfl, hnd_0⟩
set_option maxRecDepth 20000 in
theorem ms_X6_letterAt : MStat 61 := ⟨mo_X6_letterAt, by decide +kernel, ret_ok (by decide +kernel)⟩
set_option maxRecDepth 20000 in
theorem mr_X6_setLetter : rowsC RX6 cX6_setLetter 3 "setLetter" mi_X6_setLetter = true := by decide +kernel
set_option maxRecDepth 20000 in
theorem mo_X6_setLetter : MOk RX6 cX6_setLetter 3 "setLetter" mi_X6_setLetter [] := ⟨(rows_ok mr_X6_setLetter).1, fld_ok (wG_of [127] (by decide +kernel) (by decide +kernel)) (by decide +kernel), mth_ok (List.forall_mem_cons.mpr ⟨m_0 cal_X6_hasCell (wG_t2 80 (by decide +kernel) rfl), List.forall_mem_nil _⟩), thr_ok (by intro q h; cases h), cls_ok (by intro q h; cases h), c32_ok (by intro q h; cases h), c64_ok (by intro q h; cases h), an_ok 0 (by decide +kernel) (fun h => absurd rfl h) (fun _ => by decide +kernel), (rows_ok mr_X6_setLetter).2, rfl, hnd_0⟩
set_option maxRecDepth 20000 in
theorem ms_X6_setLetter : MStat 62 := ⟨mo_X6_setLetter, by decide +kernel, ret_ok (by decide +kernel)⟩
set_option maxRecDepth 20000 in
theorem mr_X6_emptyCells : rowsC RX6 cX6_emptyCells 3 "emptyCells" mi_X6_emptyCells = true := by decide +kernel
set_option maxRecDepth 20000 in
theorem mo_X6_emptyCells : MOk RX6 cX6_emptyCells 3 "emptyCells" mi_X6_emptyCells [] := ⟨(rows_ok mr_X6_emptyCells).1, fld_ok (wG_of [108, 111] (by decide +kernel) (by decide +kernel)) (by decide +kernel), mth_ok (List.forall_mem_cons.mpr ⟨m_0 cal_X6_letterAt (wG_t3 209 (by decide +kernel) rfl), List.forall_mem_nil _⟩), thr_ok (by intro q h; cases h), cls_ok (by intro q h; cases h), c32_ok (by intro q h; cases h), c64_ok (by intro q h; cases h), an_ok 0 (by decide +kernel) (fun h => absurd rfl h) (fun _ => by decide +kernel), (rows_ok mr_X6_emptyCells).2, rfl, hnd_0⟩
set_option maxRecDepth 20000 in
theorem ms_X6_emptyCells : MStat 63 := ⟨mo_X6_emptyCells, by decide +kernel, ret_ok (by decide +kernel)⟩
set_option maxRecDepth 20000 in
theorem mr_X6_isPlace : rowsC RX6 cX6_isPlace 3 "isPlace" mi_X6_isPlace = true := by decide +kernel
set_option maxRecDepth 20000 in
theorem mo_X6_isPlace : MOk RX6 cX6_isPlace 3 "isPlace" mi_X6_isPlace [] := ⟨(rows_ok mr_X6_isPlace).1, fld_ok (wG_of [108, 111] (by decide +kernel) (by decide +kernel)) (by decide +kernel), mth_ok (by intro q h; cases h), thr_ok (by intro q h; cases h), cls_ok (by intro q h; cases h), c32_ok (by intro q h; cases h), c64_ok (by intro q h; cases h), an_ok 0 (by decide +kernel) (fun h => absurd rfl h) (fun _ => by decide +kernel), (rows_ok mr_X6_isPlace).2, rfl, hnd_0⟩
set_option maxRecDepth 20000 in
theorem ms_X6_isPlace : MStat 64 := ⟨mo_X6_isPlace, by decide +kernel, ret_ok (by decide +kernel)⟩
set_option maxRecDepth 20000 in
theorem mr_X6_hasBar : rowsC RX6 cX6_hasBar 5 "hasBar" mi_X6_hasBar = true := by decide +kernel
set_option maxRecDepth 20000 in
theorem mo_X6_hasBar : MOk RX6 cX6_hasBar 5 "hasBar" mi_X6_hasBar [] := ⟨(rows_ok mr_X6_hasBar).1, fld_ok (wG_of [125, 126] (by decide +kernel) (by decide +kernel)) (by decide +kernel), mth_ok (by intro q h; cases h), thr_ok (by intro q h; cases h), cls_ok (by intro q h; cases h), c32_ok (by intro q h; cases h), c64_ok (by intro q h; cases h), an_ok 0 (by decide +kernel) (fun h => absurd rfl h) (fun _ => by decide +kernel), (rows_ok mr_X6_hasBar).2, rfl, hnd_0⟩
set_option maxRecDepth 20000 in
theorem ms_X6_hasBar : MStat 65 := ⟨mo_X6_hasBar, by decide +kernel, ret_ok (by decide +kernel)⟩
set_option maxRecDepth 20000 in
theorem mr_X6_drawBar : rowsC RX6 cX6_drawBar 6 "drawBar" mi_X6_drawBar = true := by decide +kernel
set_option maxRecDepth 20000 in
theorem mo_X6_drawBar : MOk RX6 cX6_drawBar 6 "drawBar" mi_X6_drawBar [] := ⟨(rows_ok mr_X6_drawBar).1, fld_ok (wG_of [125, 126] (by decide +kernel) (by decide +kernel)) (by decide +kernel), mth_ok (List.forall_mem_cons.mpr ⟨m_0 cal_X6_isPlace (wG_t1 124 (by decide +kernel) rfl), List.forall_mem_nil _⟩), thr_ok (by intro q h; cases h), cls_ok (by intro q h; cases h), c32_ok (List.forall_mem_cons.mpr ⟨Or.inr (by decide +kernel), List.forall_mem_nil _⟩), c64_ok (List.forall_mem_cons.mpr ⟨Or.inl (wG_t2 90 (by decide +kernel) rfl), List.forall_mem_nil _⟩), an_ok 0 (by decide +kernel) (fun h => absurd rfl h) (fun _ => by decide +kernel), (rows_ok mr_X6_drawBar).2, rfl, hnd_0⟩
set_option maxRecDepth 20000 in
theorem ms_X6_drawBar : MStat 66 := ⟨mo_X6_drawBar, by decide +kernel, ret_ok (by decide +kernel)⟩
set_option maxRecDepth 20000 in
theorem mr_X6_barCount : rowsC RX6 cX6_barCount 1 "barCount" mi_X6_barCount = true := by decide +kernel
set_option maxRecDepth 20000 in
theorem mo_X6_barCount : MOk RX6 cX6_barCount 1 "barCount" mi_X6_barCount [] := ⟨(rows_ok mr_X6_barCount).1, fld_ok (wG_of [125, 126] (by decide +kernel) (by decide +kernel)) (by decide +kernel), mth_ok (List.forall_mem_cons.mpr ⟨m_1 cal_J13_bitCount_95d88 (wG_t3 214 (by decide +kernel) rfl), List.forall_mem_nil _⟩), thr_ok (by intro q h; cases h), cls_ok (by intro q h; cases h), c32_ok (by intro q h; cases h), c64_ok (by intro q h; cases h), an_ok 0 (by decide +kernel) (fun h => absurd rfl h) (fun _ => by decide +kernel), (rows_ok mr_X6_barCount).2, rfl, hnd_0⟩
set_option maxRecDepth 20000 in
theorem ms_X6_barCount : MStat 67 := ⟨mo_X6_barCount, by decide +kernel, ret_ok (by decide +kernel)⟩
set_option maxRecDepth 20000 in
theorem mr_X6_isJoined : rowsC RX6 cX6_isJoined 3 "isJoined" mi_X6_isJoined = true := by decide +kernel
set_option maxRecDepth 20000 in
theorem mo_X6_isJoined : MOk RX6 cX6_isJoined 3 "isJoined" mi_X6_isJoined [] := ⟨(rows_ok mr_X6_isJoined).1, fld_ok (wG_of [] (by decide +kernel) (by decide +kernel)) (by decide +kernel), mth_ok (List.forall_mem_cons.mpr ⟨m_0 cal_X6_isPlace (wG_t1 124 (by decide +kernel) rfl), List.forall_mem_cons.mpr ⟨m_0 cal_X6_hasBar (wG_t1 128 (by decide +kernel) rfl), List.forall_mem_nil _⟩⟩), thr_ok (by intro q h; cases h), cls_ok (by intro q h; cases h), c32_ok (by intro q h; cases h), c64_ok (by intro q h; cases h), an_ok 0 (by decide +kernel) (fun h => absurd rfl h) (fun _ => by decide +kernel), (rows_ok mr_X6_isJoined).2, rfl, hnd_0⟩
set_option maxRecDepth 20000 in
theorem ms_X6_isJoined : MStat 68 := ⟨mo_X6_isJoined, by decide +kernel, ret_ok (by decide +kernel)⟩
set_option maxRecDepth 20000 in
theorem mr_X6_hasWord : rowsC RX6 cX6_hasWord 2 "hasWord" mi_X6_hasWord = true := by decide +kernel
set_option maxRecDepth 20000 in
theorem mo_X6_hasWord : MOk RX6 cX6_hasWord 2 "hasWord" mi_X6_hasWord [] := ⟨(rows_ok mr_X6_hasWord).1, fld_ok (wG_of [116] (by decide +kernel) (by decide +kernel)) (by decide +kernel), mth_ok (by intro q h; cases h), thr_ok (by intro q h; cases h), cls_ok (by intro q h; cases h), c32_ok (by intro q h; cases h), c64_ok (by intro q h; cases h), an_ok 0 (by decide +kernel) (fun h => absurd rfl h) (fun _ => by decide +kernel), (rows_ok mr_X6_hasWord).2, rfl, hnd_0⟩
set_option maxRecDepth 20000 in
theorem ms_X6_hasWord : MStat 69 := ⟨mo_X6_hasWord, by decide +kernel, ret_ok (by decide +kernel)⟩
set_option maxRecDepth 20000 in
theorem mr_X6_lengthOfWord : rowsC RX6 cX6_lengthOfWord 2 "lengthOfWord" mi_X6_lengthOfWord = true := by decide +kernel
set_option maxRecDepth 20000 in
theorem mo_X6_lengthOfWord : MOk RX6 cX6_lengthOfWord 2 "lengthOfWord" mi_X6_lengthOfWord [] := ⟨(rows_ok mr_X6_lengthOfWord).1, fld_ok (wG_of [128] (by decide +kernel) (by decide +kernel)) (by decide +kernel), mth_ok (List.forall_mem_cons.mpr ⟨m_0 cal_X6_hasWord (wG_t2 111 (by decide +kernel) rfl), List.forall_mem_nil _⟩), thr_ok (by intro q h; cases h), cls_ok (by intro q h; cases h), c32_ok (by intro q h; cases h), c64_ok (by intro q h; cases h), an_ok 0 (by decide +kernel) (fun h => absurd rfl h) (fun _ => by decide +kernel), (rows_ok mr_X6_lengthOfWord).2, rfl, hnd_0⟩
set_option maxRecDepth 20000 in
theorem ms_X6_lengthOfWord : MStat 70 := ⟨mo_X6_lengthOfWord, by decide +kernel, ret_ok (by decide +kernel)⟩
set_option maxRecDepth 20000 in
theorem mr_X6_letterOfWord : rowsC RX6 cX6_letterOfWord 3 "letterOfWord" mi_X6_letterOfWord = true := by decide +kernel
set_option maxRecDepth 20000 in
theorem mo_X6_letterOfWord : MOk RX6 cX6_letterOfWord 3 "letterOfWord" mi_X6_letterOfWord [] := ⟨(rows_ok mr_X6_letterOfWord).1, fld_ok (wG_of [129] (by decide +kernel) (by decide +kernel)) (by decide +kernel), mth_ok (List.forall_mem_cons.mpr ⟨m_0 cal_X6_lengthOfWord (wG_t2 107 (by decide +kernel) rfl), List.forall_mem_nil _⟩), thr_ok (by intro q h; cases h), cls_ok (by intro q h; cases h), c32_ok (by intro q h; cases h), c64_ok (by intro q h; cases h), an_ok 0 (by decide +kernel) (fun h => absurd rfl h) (fun _ => by decide +kernel), (rows_ok mr_X6_letterOfWord).2, rfl, hnd_0⟩
set_option maxRecDepth 20000 in
theorem ms_X6_letterOfWord : MStat 71 := ⟨mo_X6_letterOfWord, by decide +kernel, ret_ok (by decide +kernel)⟩
set_option maxRecDepth 20000 in
theorem mr_X6_beginWord : rowsC RX6 cX6_beginWord 1 "beginWord" mi_X6_beginWord = true := by decide +kernel
set_option maxRecDepth 20000 in
theorem mo_X6_beginWord : MOk RX6 cX6_beginWord 1 "beginWord" mi_X6_beginWord [] := ⟨(rows_ok mr_X6_beginWord).1, fld_ok (wG_of [116, 128] (by decide +kernel) (by decide +kernel)) (by decide +kernel), mth_ok (by intro q h; cases h), thr_ok (by intro q h; cases h), cls_ok (by intro q h; cases h), c32_ok (by intro q h; cases h), c64_ok (by intro q h; cases h), an_ok 0 (by decide +kernel) (fun h => absurd rfl h) (fun _ => by decide +kernel), (rows_ok mr_X6_beginWord).2, rfl, hnd_0⟩
set_option maxRecDepth 20000 in
theorem ms_X6_beginWord : MStat 72 := ⟨mo_X6_beginWord, by decide +kernel, ret_ok (by decide +kernel)⟩
set_option maxRecDepth 20000 in
theorem mr_X6_lengthenWord : rowsC RX6 cX6_lengthenWord 4 "lengthenWord" mi_X6_lengthenWord = true := by decide +kernel
set_option maxRecDepth 20000 in
theorem mo_X6_lengthenWord : MOk RX6 cX6_lengthenWord 4 "lengthenWord" mi_X6_lengthenWord [] := ⟨(rows_ok mr_X6_lengthenWord).1, fld_ok (wG_of [116, 128, 129] (by decide +kernel) (by decide +kernel)) (by decide +kernel), mth_ok (List.forall_mem_cons.mpr ⟨m_0 cal_X6_hasWord (wG_t2 111 (by decide +kernel) rfl), List.forall_mem_cons.mpr ⟨m_0 cal_X6_lengthOfWord (wG_t2 107 (by decide +kernel) rfl), List.forall_mem_nil _⟩⟩), thr_ok (by intro q h; cases h), cls_ok (by intro q h; cases h), c32_ok (by intro q h; cases h), c64_ok (by intro q h; cases h), an_ok 0 (by decide +kernel) (fun h => absurd rfl h) (fun _ => by decide +kernel), (rows_ok mr_X6_lengthenWord).2, rfl, hnd_0⟩
set_option maxRecDepth 20000 in
theorem ms_X6_lengthenWord : MStat 73 := ⟨mo_X6_lengthenWord, by decide +kernel, ret_ok (by decide +kernel)⟩
set_option maxRecDepth 20000 in
theorem mr_X6_letterOfLine : rowsC RX6 cX6_letterOfLine 2 "letterOfLine" mi_X6_letterOfLine = true := by decide +kernel
set_option maxRecDepth 20000 in
theorem mo_X6_letterOfLine : MOk RX6 cX6_letterOfLine 2 "letterOfLine" mi_X6_letterOfLine [] := ⟨(rows_ok mr_X6_letterOfLine).1, fld_ok (wG_of [121, 130] (by decide +kernel) (by decide +kernel)) (by decide +kernel), mth_ok (by intro q h; cases h), thr_ok (by intro q h; cases h), cls_ok (by intro q h; cases h), c32_ok (by intro q h; cases h), c64_ok (by intro q h; cases h), an_ok 0 (by decide +kernel) (fun h => absurd rfl h) (fun _ => by decide +kernel), (rows_ok mr_X6_letterOfLine).2, rfl, hnd_0⟩
set_option maxRecDepth 20000 in
theorem ms_X6_letterOfLine : MStat 74 := ⟨mo_X6_letterOfLine, by decide +kernel, ret_ok (by decide +kernel)⟩
set_option maxRecDepth 20000 in
theorem mr_X6_lengthenLine : rowsC RX6 cX6_lengthenLine 2 "lengthenLine" mi_X6_lengthenLine = true := by decide +kernel
set_option maxRecDepth 20000 in
theorem mo_X6_lengthenLine : MOk RX6 cX6_lengthenLine 2 "lengthenLine" mi_X6_lengthenLine [] := ⟨(rows_ok mr_X6_lengthenLine).1, fld_ok (wG_of [121, 130] (by decide +kernel) (by decide +kernel)) (by decide +kernel), mth_ok (by intro q h; cases h), thr_ok (by intro q h; cases h), cls_ok (by intro q h; cases h), c32_ok (by intro q h; cases h), c64_ok (by intro q h; cases h), an_ok 0 (by decide +kernel) (fun h => absurd rfl h) (fun _ => by decide +kernel), (rows_ok mr_X6_lengthenLine).2, rfl, hnd_0⟩
set_option maxRecDepth 20000 in
theorem ms_X6_lengthenLine : MStat 75 := ⟨mo_X6_lengthenLine, by decide +kernel, ret_ok (by decide +kernel)⟩
set_option maxRecDepth 20000 in
theorem mr_X7_init : rowsC RX7 cX7_init 1 "<init>" mi_X7_init = true := by decide +kernel
set_option maxRecDepth 20000 in
theorem mo_X7_init : MOk RX7 cX7_init 1 "<init>" mi_X7_init [] := ⟨(rows_ok mr_X7_init).1, fld_ok (wG_of [153, 155, 157, 158] (by decide +kernel) (by decide +kernel)) (by decide +kernel), mth_ok (List.forall_mem_cons.mpr ⟨⟨wG_t1 34 (by decide +kernel) rfl, wG_t1 27 (by decide +kernel) rfl, wG_t1 28 rfl rfl⟩, List.forall_mem_cons.mpr ⟨m_4 cal_X6_init (by decide +kernel), List.forall_mem_nil _⟩⟩), thr_ok (by intro q h; cases h), cls_ok (List.forall_mem_cons.mpr ⟨⟨_, rfl, wG_t1 35 (by decide +kernel) rfl, wG_t1 36 (by decide +kernel) rfl, wG_t1 3 (by decide +kernel) rfl⟩, List.forall_mem_nil _⟩), c32_ok (by intro q h; cases h), c64_ok (by intro q h; cases h), an_ok 0 (by decide +kernel) (fun h => absurd rfl h) (fun _ => by decide +kernel), (rows_ok mr_X7_init).2, rfl, hnd_0⟩
set_option maxRecDepth 20000 in
theorem ms_X7_init : MStat 76 := ⟨mo_X7_init, by decide +kernel, ret_ok (by decide +kernel)⟩
set_option maxRecDepth 20000 in
theorem mr_X7_isFull : rowsC RX7 cX7_isFull 1 "isFull" mi_X7_isFull = true := by decide +kernel
set_option maxRecDepth 20000 in
theorem mo_X7_isFull : MOk RX7 cX7_isFull 1 "isFull" mi_X7_isFull [] := ⟨(rows_ok mr_X7_isFull).1, fld_ok (wG_of [153] (by decide +kernel) (by decide +kernel)) (by decide +kernel), mth_ok (by intro q h; cases h), thr_ok (by intro q h; cases h), cls_ok (by intro q h; cases h), c32_ok (by intro q h; cases h), c64_ok (by intro q h; cases h), an_ok 0 (by decide +kernel) (fun h => absurd rfl h) (fun _ => by decide +kernel), (rows_ok mr_X7_isFull).2, rfl, hnd_0⟩
set_option maxRecDepth 20000 in
theorem ms_X7_isFull : MStat 77 := ⟨mo_X7_isFull, by decide +kernel, ret_ok (by decide +kernel)⟩
set_option maxRecDepth 20000 in
theorem mr_X7_add : rowsC RX7 cX7_add 2 "add" mi_X7_add = true := by decide +kernel
set_option maxRecDepth 20000 in
theorem mo_X7_add : MOk RX7 cX7_add 2 "add" mi_X7_add [] := ⟨(rows_ok mr_X7_add).1, fld_ok (wG_of [153, 158] (by decide +kernel) (by decide +kernel)) (by decide +kernel), mth_ok (by intro q h; cases h), thr_ok (by intro q h; cases h), cls_ok (by intro q h; cases h), c32_ok (by intro q h; cases h), c64_ok (by intro q h; cases h), an_ok 0 (by decide +kernel) (fun h => absurd rfl h) (fun _ => by decide +kernel), (rows_ok mr_X7_add).2, rfl, hnd_0⟩
set_option maxRecDepth 20000 in
theorem ms_X7_add : MStat 78 := ⟨mo_X7_add, by decide +kernel, ret_ok (by decide +kernel)⟩
set_option maxRecDepth 20000 in
theorem mr_X7_empty : rowsC RX7 cX7_empty 2 "empty" mi_X7_empty = true := by decide +kernel
set_option maxRecDepth 20000 in
theorem mo_X7_empty : MOk RX7 cX7_empty 2 "empty" mi_X7_empty [] := ⟨(rows_ok mr_X7_empty).1, fld_ok (wG_of [153] (by decide +kernel) (by decide +kernel)) (by decide +kernel), mth_ok (by intro q h; cases h), thr_ok (by intro q h; cases h), cls_ok (by intro q h; cases h), c32_ok (by intro q h; cases h), c64_ok (by intro q h; cases h), an_ok 0 (by decide +kernel) (fun h => absurd rfl h) (fun _ => by decide +kernel), (rows_ok mr_X7_empty).2, rfl, hnd_0⟩
set_option maxRecDepth 20000 in
theorem ms_X7_empty : MStat 79 := ⟨mo_X7_empty, by decide +kernel, ret_ok (by decide +kernel)⟩
set_option maxRecDepth 20000 in
theorem mr_X7_signAt : rowsC RX7 cX7_signAt 2 "signAt" mi_X7_signAt = true := by decide +kernel
set_option maxRecDepth 20000 in
theorem mo_X7_signAt : MOk RX7 cX7_signAt 2 "signAt" mi_X7_signAt [] := ⟨(rows_ok mr_X7_signAt).1, fld_ok (wG_of [153, 158] (by decide +kernel) (by decide +kernel)) (by decide +kernel), mth_ok (by intro q h; cases h), thr_ok (by intro q h; cases h), cls_ok (by intro q h; cases h), c32_ok (by intro q h; cases h), c64_ok (by intro q h; cases h), an_ok 0 (by decide +kernel) (fun h => absurd rfl h) (fun _ => by decide +kernel), (rows_ok mr_X7_signAt).2, rfl, hnd_0⟩
set_option maxRecDepth 20000 in
theorem ms_X7_signAt : MStat 80 := ⟨mo_X7_signAt, by decide +kernel, ret_ok (by decide +kernel)⟩
set_option maxRecDepth 20000 in
theorem mr_X7_isWord : rowsC RX7 cX7_isWord 3 "isWord" mi_X7_isWord = true := by decide +kernel
set_option maxRecDepth 20000 in
theorem mo_X7_isWord : MOk RX7 cX7_isWord 3 "isWord" mi_X7_isWord [] := ⟨(rows_ok mr_X7_isWord).1, fld_ok (wG_of [153] (by decide +kernel) (by decide +kernel)) (by decide +kernel), mth_ok (List.forall_mem_cons.mpr ⟨m_0 cal_X7_signAt (wG_t2 55 (by decide +kernel) rfl), List.forall_mem_cons.mpr ⟨m_3 cal_X8_isLetter (by decide +kernel), List.forall_mem_nil _⟩⟩), thr_ok (by intro q h; cases h), cls_ok (by intro q h; cases h), c32_ok (by intro q h; cases h), c64_ok (by intro q h; cases h), an_ok 0 (by decide +kernel) (fun h => absurd rfl h) (fun _ => by decide +kernel), (rows_ok mr_X7_isWord).2, rfl, hnd_0⟩
set_option maxRecDepth 20000 in
theorem ms_X7_isWord : MStat 81 := ⟨mo_X7_isWord, by decide +kernel, ret_ok (by decide +kernel)⟩
set_option maxRecDepth 20000 in
theorem mr_X7_readGrid : rowsC RX7 cX7_readGrid 1 "readGrid" mi_X7_readGrid = true := by decide +kernel
set_option maxRecDepth 20000 in
theorem mo_X7_readGrid : MOk RX7 cX7_readGrid 1 "readGrid" mi_X7_readGrid [] := ⟨(rows_ok mr_X7_readGrid).1, fld_ok (wG_of [157] (by decide +kernel) (by decide +kernel)) (by decide +kernel), mth_ok (List.forall_mem_cons.mpr ⟨m_0 cal_X7_goesPast (wG_t2 51 (by decide +kernel) rfl), List.forall_mem_cons.mpr ⟨m_0 cal_X7_readSize (wG_t2 59 (by decide +kernel) rfl), List.forall_mem_cons.mpr ⟨m_0 cal_X7_readCells (wG_t2 68 (by decide +kernel) rfl), List.forall_mem_cons.mpr ⟨m_0 cal_X7_readParts (wG_t2 91 (by decide +kernel) rfl), List.forall_mem_nil _⟩⟩⟩⟩), thr_ok (by intro q h; cases h), cls_ok (by intro q h; cases h), c32_ok (by intro q h; cases h), c64_ok (by intro q h; cases h), an_ok 0 (by decide +kernel) (fun h => absurd rfl h) (fun _ => by decide +kernel), (rows_ok mr_X7_readGrid).2, rfl, hnd_0⟩
set_option maxRecDepth 20000 in
theorem ms_X7_readGrid : MStat 82 := ⟨mo_X7_readGrid, by decide +kernel, ret_ok (by decide +kernel)⟩
set_option maxRecDepth 20000 in
theorem mr_X7_goesPast : rowsC RX7 cX7_goesPast 2 "goesPast" mi_X7_goesPast = true := by decide +kernel
set_option maxRecDepth 20000 in
theorem mo_X7_goesPast : MOk RX7 cX7_goesPast 2 "goesPast" mi_X7_goesPast [] := ⟨(rows_ok mr_X7_goesPast).1, fld_ok (wG_of [157] (by decide +kernel) (by decide +kernel)) (by decide +kernel), mth_ok (List.forall_mem_cons.mpr ⟨m_0 cal_X7_signAt (wG_t2 55 (by decide +kernel) rfl), List.forall_mem_nil _⟩), thr_ok (by intro q h; cases h), cls_ok (by intro q h; cases h), c32_ok (by intro q h; cases h), c64_ok (by intro q h; cases h), an_ok 0 (by decide +kernel) (fun h => absurd rfl h) (fun _ => by decide +kernel), (rows_ok mr_X7_goesPast).2, rfl, hnd_0⟩
set_option maxRecDepth 20000 in
theorem ms_X7_goesPast : MStat 83 := ⟨mo_X7_goesPast, by decide +kernel, ret_ok (by decide +kernel)⟩
set_option maxRecDepth 20000 in
theorem mr_X7_readSize : rowsC RX7 cX7_readSize 3 "readSize" mi_X7_readSize = true := by decide +kernel
set_option maxRecDepth 20000 in
theorem mo_X7_readSize : MOk RX7 cX7_readSize 3 "readSize" mi_X7_readSize [] := ⟨(rows_ok mr_X7_readSize).1, fld_ok (wG_of [155, 157] (by decide +kernel) (by decide +kernel)) (by decide +kernel), mth_ok (List.forall_mem_cons.mpr ⟨m_0 cal_X7_signAt (wG_t2 55 (by decide +kernel) rfl), List.forall_mem_cons.mpr ⟨m_0 cal_X6_begin (wG_t2 63 (by decide +kernel) rfl), List.forall_mem_nil _⟩⟩), thr_ok (by intro q h; cases h), cls_ok (by intro q h; cases h), c32_ok (by intro q h; cases h), c64_ok (by intro q h; cases h), an_ok 0 (by decide +kernel) (fun h => absurd rfl h) (fun _ => by decide +kernel), (rows_ok mr_X7_readSize).2, rfl, hnd_0⟩
set_option maxRecDepth 20000 in
theorem ms_X7_readSize : MStat 84 := ⟨mo_X7_readSize, by decide +kernel, ret_ok (by decide +kernel)⟩
set_option maxRecDepth 20000 in
theorem mr_X7_readCells : rowsC RX7 cX7_readCells 3 "readCells" mi_X7_readCells = true := by decide +kernel
set_option maxRecDepth 20000 in
theorem mo_X7_readCells : MOk RX7 cX7_readCells 3 "readCells" mi_X7_readCells [] := ⟨(rows_ok mr_X7_readCells).1, fld_ok (wG_of [155, 157] (by decide +kernel) (by decide +kernel)) (by decide +kernel), mth_ok (List.forall_mem_cons.mpr ⟨m_0 cal_X7_signAt (wG_t2 55 (by decide +kernel) rfl), List.forall_mem_cons.mpr ⟨m_3 cal_X8_isLetter (by decide +kernel), List.forall_mem_cons.mpr ⟨m_0 cal_X6_cells (wG_t2 72 (by decide +kernel) rfl), List.forall_mem_cons.mpr ⟨m_0 cal_X6_setLetter (wG_t2 76 (by decide +kernel) rfl), List.forall_mem_cons.mpr ⟨m_0 cal_X7_readBar (wG_t2 81 (by decide +kernel) rfl), List.forall_mem_nil _⟩⟩⟩⟩⟩), thr_ok (by intro q h; cases h), cls_ok (by intro q h; cases h), c32_ok (by intro q h; cases h), c64_ok (by intro q h; cases h), an_ok 0 (by decide +kernel) (fun h => absurd rfl h) (fun _ => by decide +kernel), (rows_ok mr_X7_readCells).2, rfl, hnd_0⟩
set_option maxRecDepth 20000 in
theorem ms_X7_readCells : MStat 85 := ⟨mo_X7_readCells, by decide +kernel, ret_ok (by decide +kernel)⟩
set_option maxRecDepth 20000 in
theorem mr_X7_readBar : rowsC RX7 cX7_readBar 4 "readBar" mi_X7_readBar = true := by decide +kernel
set_option maxRecDepth 20000 in
theorem mo_X7_readBar : MOk RX7 cX7_readBar 4 "readBar" mi_X7_readBar [] := ⟨(rows_ok mr_X7_readBar).1, fld_ok (wG_of [155] (by decide +kernel) (by decide +kernel)) (by decide +kernel), mth_ok (List.forall_mem_cons.mpr ⟨m_0 cal_X7_goesPast (wG_t2 51 (by decide +kernel) rfl), List.forall_mem_cons.mpr ⟨m_0 cal_X6_isPlace (wG_t2 85 (by decide +kernel) rfl), List.forall_mem_cons.mpr ⟨m_0 cal_X6_drawBar (wG_t2 86 (by decide +kernel) rfl), List.forall_mem_nil _⟩⟩⟩), thr_ok (by intro q h; cases h), cls_ok (by intro q h; cases h), c32_ok (by intro q h; cases h), c64_ok (by intro q h; cases h), an_ok 0 (by decide +kernel) (fun h => absurd rfl h) (fun _ => by decide +kernel), (rows_ok mr_X7_readBar).2, rfl, hnd_0⟩
set_option maxRecDepth 20000 in
theorem ms_X7_readBar : MStat 86 := ⟨mo_X7_readBar, by decide +kernel, ret_ok (by decide +kernel)⟩
set_option maxRecDepth 20000 in
theorem mr_X7_readParts : rowsC RX7 cX7_readParts 3 "readParts" mi_X7_readParts = true := by decide +kernel
set_option maxRecDepth 20000 in
theorem mo_X7_readParts : MOk RX7 cX7_readParts 3 "readParts" mi_X7_readParts [] := ⟨(rows_ok mr_X7_readParts).1, fld_ok (wG_of [153, 155, 157, 119, 124] (by decide +kernel) (by decide +kernel)) (by decide +kernel), mth_ok (List.forall_mem_cons.mpr ⟨m_0 cal_X7_goesPast (wG_t2 51 (by decide +kernel) rfl), List.forall_mem_cons.mpr ⟨m_0 cal_X7_readWord (wG_t2 95 (by decide +kernel) rfl), List.forall_mem_cons.mpr ⟨m_0 cal_X7_readLine (wG_t2 115 (by decide +kernel) rfl), List.forall_mem_nil _⟩⟩⟩), thr_ok (by intro q h; cases h), cls_ok (by intro q h; cases h), c32_ok (by intro q h; cases h), c64_ok (by intro q h; cases h), an_ok 0 (by decide +kernel) (fun h => absurd rfl h) (fun _ => by decide +kernel), (rows_ok mr_X7_readParts).2, rfl, hnd_0⟩
set_option maxRecDepth 20000 in
theorem ms_X7_readParts : MStat 87 := ⟨mo_X7_readParts, by decide +kernel, ret_ok (by decide +kernel)⟩
set_option maxRecDepth 20000 in
theorem mr_X7_readWord : rowsC RX7 cX7_readWord 2 "readWord" mi_X7_readWord = true := by decide +kernel
set_option maxRecDepth 20000 in
theorem mo_X7_readWord : MOk RX7 cX7_readWord 2 "readWord" mi_X7_readWord [] := ⟨(rows_ok mr_X7_readWord).1, fld_ok (wG_of [155, 157] (by decide +kernel) (by decide +kernel)) (by decide +kernel), mth_ok (List.forall_mem_cons.mpr ⟨m_0 cal_X7_signAt (wG_t2 55 (by decide +kernel) rfl), List.forall_mem_cons.mpr ⟨m_3 cal_X8_isLetter (by decide +kernel), List.forall_mem_cons.mpr ⟨m_0 cal_X6_beginWord (wG_t2 99 (by decide +kernel) rfl), List.forall_mem_cons.mpr ⟨m_0 cal_X6_lengthenWord (wG_t2 103 (by decide +kernel) rfl), List.forall_mem_nil _⟩⟩⟩⟩), thr_ok (by intro q h; cases h), cls_ok (by intro q h; cases h), c32_ok (by intro q h; cases h), c64_ok (by intro q h; cases h), an_ok 0 (by decide +kernel) (fun h => absurd rfl h) (fun _ => by decide +kernel), (rows_ok mr_X7_readWord).2, rfl, hnd_0⟩
set_option maxRecDepth 20000 in
theorem ms_X7_readWord : MStat 88 := ⟨mo_X7_readWord, by decide +kernel, ret_ok (by decide +kernel)⟩
set_option maxRecDepth 20000 in
theorem mr_X7_readLine : rowsC RX7 cX7_readLine 2 "readLine" mi_X7_readLine = true := by decide +kernel
set_option maxRecDepth 20000 in
theorem mo_X7_readLine : MOk RX7 cX7_readLine 2 "readLine" mi_X7_readLine [] := ⟨(rows_ok mr_X7_readLine).1, fld_ok (wG_of [155, 157] (by decide +kernel) (by decide +kernel)) (by decide +kernel), mth_ok (List.forall_mem_cons.mpr ⟨m_0 cal_X7_signAt (wG_t2 55 (by decide +kernel) rfl), List.forall_mem_cons.mpr ⟨m_3 cal_X8_isLetter (by decide +kernel), List.forall_mem_cons.mpr ⟨m_0 cal_X6_lengthenLine (wG_t2 119 (by decide +kernel) rfl), List.forall_mem_nil _⟩⟩⟩), thr_ok (by intro q h; cases h), cls_ok (by intro q h; cases h), c32_ok (by intro q h; cases h), c64_ok (by intro q h; cases h), an_ok 0 (by decide +kernel) (fun h => absurd rfl h) (fun _ => by decide +kernel), (rows_ok mr_X7_readLine).2, rfl, hnd_0⟩
set_option maxRecDepth 20000 in
theorem ms_X7_readLine : MStat 89 := ⟨mo_X7_readLine, by decide +kernel, ret_ok (by decide +kernel)⟩
set_option maxRecDepth 20000 in
theorem mr_X8_init : rowsC RX8 cX8_init 1 "<init>" mi_X8_init = true := by decide +kernel
set_option maxRecDepth 20000 in
theorem mo_X8_init : MOk RX8 cX8_init 1 "<init>" mi_X8_init [] := ⟨(rows_ok mr_X8_init).1, fld_ok (wG_of [323, 324, 325, 326, 327, 328] (by decide +kernel) (by decide +kernel)) (by decide +kernel), mth_ok (List.forall_mem_cons.mpr ⟨⟨wG_t1 26 (by decide +kernel) rfl, wG_t1 27 (by decide +kernel) rfl, wG_t1 28 rfl rfl⟩, List.forall_mem_cons.mpr ⟨m_4 cal_X7_init (by decide +kernel), List.forall_mem_cons.mpr ⟨m_2 cal_X4_init (wG_t1 103 (by decide +kernel) rfl), List.forall_mem_cons.mpr ⟨m_2 cal_X3_init (wG_t1 185 (by decide +kernel) rfl), List.forall_mem_cons.mpr ⟨m_4 cal_X2_init (by decide +kernel), List.forall_mem_cons.mpr ⟨m_4 cal_X1_init (by decide +kernel), List.forall_mem_nil _⟩⟩⟩⟩⟩⟩), thr_ok (by intro q h; cases h), cls_ok (List.forall_mem_cons.mpr ⟨⟨_, rfl, wG_t1 29 (by decide +kernel) rfl, wG_t1 30 (by decide +kernel) rfl, wG_t1 2 (by decide +kernel) rfl⟩, List.forall_mem_cons.mpr ⟨⟨_, rfl, wG_t1 101 (by decide +kernel) rfl, wG_t1 102 (by decide +kernel) rfl, wG_t1 4 (by decide +kernel) rfl⟩, List.forall_mem_cons.mpr ⟨⟨_, rfl, wG_t1 183 (by decide +kernel) rfl, wG_t1 184 (by decide +kernel) rfl, wG_t1 6 (by decide +kernel) rfl⟩, List.forall_mem_cons.mpr ⟨⟨_, rfl, wG_t1 209 (by decide +kernel) rfl, wG_t1 210 (by decide +kernel) rfl, wG_t1 7 (by decide +kernel) rfl⟩, List.forall_mem_cons.mpr ⟨⟨_, rfl, wG_t1 237 (by decide +kernel) rfl, wG_t1 238 (by decide +kernel) rfl, wG_t1 8 (by decide +kernel) rfl⟩, List.forall_mem_nil _⟩⟩⟩⟩⟩), c32_ok (by intro q h; cases h), c64_ok (by intro q h; cases h), an_ok 0 (by decide +kernel) (fun h => absurd rfl h) (fun _ => by decide +kernel), (rows_ok mr_X8_init).2, rfl, hnd_0⟩
set_option maxRecDepth 20000 in
theorem ms_X8_init : MStat 90 := ⟨mo_X8_init, by decide +kernel, ret_ok (by decide +kernel)⟩
set_option maxRecDepth 20000 in
theorem mr_X8_append : rowsC RX8 cX8_append 2 "append" mi_X8_append = true := by decide +kernel
set_option maxRecDepth 20000 in
theorem mo_X8_append : MOk RX8 cX8_append 2 "append" mi_X8_append [] := ⟨(rows_ok mr_X8_append).1, fld_ok (wG_of [323] (by decide +kernel) (by decide +kernel)) (by decide +kernel), mth_ok (List.forall_mem_cons.mpr ⟨m_0 cal_X7_isFull (wG_t3 157 (by decide +kernel) rfl), List.forall_mem_cons.mpr ⟨m_0 cal_X7_add (wG_t3 177 (by decide +kernel) rfl), List.forall_mem_nil _⟩⟩), thr_ok (List.forall_mem_cons.mpr ⟨⟨rfl, by decide +kernel, 47, 49, 51, "no character code", by decide +kernel, by decide +kernel, Or.inl ⟨by decide +kernel, by decide +kernel, by decide +kernel⟩, wG_t3 89 (by decide +kernel) rfl, wG_t1 13 (by decide +kernel) rfl, by decide +kernel, at_0, an_0, by decide +kernel, by decide +kernel, by decide +kernel⟩, List.forall_mem_cons.mpr ⟨⟨rfl, by decide +kernel, 58, 60, 62, "the text is full", by decide +kernel, by decide +kernel, Or.inl ⟨by decide +kernel, by decide +kernel, by decide +kernel⟩, wG_t3 161 (by decide +kernel) rfl, wG_t1 14 (by decide +kernel) rfl, by decide +kernel, at_1, an_1, by decide +kernel, by decide +kernel, by decide +kernel⟩, List.forall_mem_nil _⟩⟩), cls_ok (by intro q h; cases h), c32_ok (by intro q h; cases h), c64_ok (by intro q h; cases h), an_ok 0 (by decide +kernel) (fun h => absurd rfl h) (fun _ => by decide +kernel), (rows_ok mr_X8_append).2, rfl, hnd_0⟩
set_option maxRecDepth 20000 in
theorem ms_X8_append : MStat 91 := ⟨mo_X8_append, by decide +kernel, ret_ok (by decide +kernel)⟩
set_option maxRecDepth 20000 in
theorem mr_X8_clearText : rowsC RX8 cX8_clearText 1 "clearText" mi_X8_clearText = true := by decide +kernel
set_option maxRecDepth 20000 in
theorem mo_X8_clearText : MOk RX8 cX8_clearText 1 "clearText" mi_X8_clearText [] := ⟨(rows_ok mr_X8_clearText).1, fld_ok (wG_of [323] (by decide +kernel) (by decide +kernel)) (by decide +kernel), mth_ok (List.forall_mem_cons.mpr ⟨m_0 cal_X7_empty (wG_t2 39 (by decide +kernel) rfl), List.forall_mem_nil _⟩), thr_ok (by intro q h; cases h), cls_ok (by intro q h; cases h), c32_ok (by intro q h; cases h), c64_ok (by intro q h; cases h), an_ok 0 (by decide +kernel) (fun h => absurd rfl h) (fun _ => by decide +kernel), (rows_ok mr_X8_clearText).2, rfl, hnd_0⟩
set_option maxRecDepth 20000 in
theorem ms_X8_clearText : MStat 92 := ⟨mo_X8_clearText, by decide +kernel, ret_ok (by decide +kernel)⟩
set_option maxRecDepth 20000 in
theorem mr_X8_errorPosition : rowsC RX8 cX8_errorPosition 1 "errorPosition" mi_X8_errorPosition = true := by decide +kernel
set_option maxRecDepth 20000 in
theorem mo_X8_errorPosition : MOk RX8 cX8_errorPosition 1 "errorPosition" mi_X8_errorPosition [] := ⟨(rows_ok mr_X8_errorPosition).1, fld_ok (wG_of [323] (by decide +kernel) (by decide +kernel)) (by decide +kernel), mth_ok (List.forall_mem_cons.mpr ⟨m_0 cal_X7_readGrid (wG_t2 47 (by decide +kernel) rfl), List.forall_mem_nil _⟩), thr_ok (by intro q h; cases h), cls_ok (by intro q h; cases h), c32_ok (by intro q h; cases h), c64_ok (by intro q h; cases h), an_ok 0 (by decide +kernel) (fun h => absurd rfl h) (fun _ => by decide +kernel), (rows_ok mr_X8_errorPosition).2, rfl, hnd_0⟩
set_option maxRecDepth 20000 in
theorem ms_X8_errorPosition : MStat 93 := ⟨mo_X8_errorPosition, by decide +kernel, ret_ok (by decide +kernel)⟩
set_option maxRecDepth 20000 in
theorem mr_X8_load : rowsC RX8 cX8_load 1 "load" mi_X8_load = true := by decide +kernel
set_option maxRecDepth 20000 in
theorem mo_X8_load : MOk RX8 cX8_load 1 "load" mi_X8_load [] := ⟨(rows_ok mr_X8_load).1, fld_ok (wG_of [323, 324, 326, 156, 212] (by decide +kernel) (by decide +kernel)) (by decide +kernel), mth_ok (List.forall_mem_cons.mpr ⟨m_0 cal_X7_readGrid (wG_t2 47 (by decide +kernel) rfl), List.forall_mem_cons.mpr ⟨m_0 cal_X4_take (wG_t3 7 (by decide +kernel) rfl), List.forall_mem_cons.mpr ⟨m_0 cal_X3_forgetActions (wG_t3 189 (by decide +kernel) rfl), List.forall_mem_cons.mpr ⟨m_0 cal_X3_emptySlots (wG_t3 193 (by decide +kernel) rfl), List.forall_mem_cons.mpr ⟨m_0 cal_X6_cells (wG_t3 58 (by decide +kernel) rfl), List.forall_mem_nil _⟩⟩⟩⟩⟩), thr_ok (List.forall_mem_cons.mpr ⟨⟨rfl, by decide +kernel, 58, 74, 62, "the text is not a grid", by decide +kernel, by decide +kernel, Or.inl ⟨by decide +kernel, by decide +kernel, by decide +kernel⟩, wG_t3 161 (by decide +kernel) rfl, wG_t1 14 (by decide +kernel) rfl, by decide +kernel, at_1, an_1, by decide +kernel, by decide +kernel, by decide +kernel⟩, List.forall_mem_nil _⟩), cls_ok (by intro q h; cases h), c32_ok (by intro q h; cases h), c64_ok (by intro q h; cases h), an_ok 0 (by decide +kernel) (fun h => absurd rfl h) (fun _ => by decide +kernel), (rows_ok mr_X8_load).2, rfl, hnd_0⟩
set_option maxRecDepth 20000 in
theorem ms_X8_load : MStat 94 := ⟨mo_X8_load, by decide +kernel, ret_ok (by decide +kernel)⟩
set_option maxRecDepth 20000 in
theorem mr_X8_about : rowsC RX8 cX8_about 2 "about" mi_X8_about = true := by decide +kernel
set_option maxRecDepth 20000 in
theorem mo_X8_about : MOk RX8 cX8_about 2 "about" mi_X8_about [] := ⟨(rows_ok mr_X8_about).1, fld_ok (wG_of [324, 212, 110, 115, 217, 219, 118, 123, 221] (by decide +kernel) (by decide +kernel)) (by decide +kernel), mth_ok (List.forall_mem_cons.mpr ⟨m_0 cal_X4_cellsInEntries (wG_t3 204 (by decide +kernel) rfl), List.forall_mem_cons.mpr ⟨m_0 cal_X6_emptyCells (wG_t3 205 (by decide +kernel) rfl), List.forall_mem_cons.mpr ⟨m_0 cal_X6_barCount (wG_t3 210 (by decide +kernel) rfl), List.forall_mem_nil _⟩⟩⟩), thr_ok (List.forall_mem_cons.mpr ⟨⟨rfl, by decide +kernel, 47, 129, 51, "what is not 0 to 10", by decide +kernel, by decide +kernel, Or.inl ⟨by decide +kernel, by decide +kernel, by decide +kernel⟩, wG_t3 89 (by decide +kernel) rfl, wG_t1 13 (by decide +kernel) rfl, by decide +kernel, at_0, an_0, by decide +kernel, by decide +kernel, by decide +kernel⟩, List.forall_mem_nil _⟩), cls_ok (by intro q h; cases h), c32_ok (by intro q h; cases h), c64_ok (by intro q h; cases h), an_ok 0 (by decide +kernel) (fun h => absurd rfl h) (fun _ => by decide +kernel), (rows_ok mr_X8_about).2, rfl, hnd_0⟩
set_option maxRecDepth 20000 in
theorem ms_X8_about : MStat 95 := ⟨mo_X8_about, by decide +kernel, ret_ok (by decide +kernel)⟩
set_option maxRecDepth 20000 in
theorem mr_X8_cell : rowsC RX8 cX8_cell 3 "cell" mi_X8_cell = true := by decide +kernel
set_option maxRecDepth 20000 in
theorem mo_X8_cell : MOk RX8 cX8_cell 3 "cell" mi_X8_cell [] := ⟨(rows_ok mr_X8_cell).1, fld_ok (wG_of [324, 212] (by decide +kernel) (by decide +kernel)) (by decide +kernel), mth_ok (List.forall_mem_cons.mpr ⟨m_0 cal_X8_requireCell (wG_t3 224 (by decide +kernel) rfl), List.forall_mem_cons.mpr ⟨m_0 cal_X6_letterAt (wG_t4 5 (by decide +kernel) rfl), List.forall_mem_cons.mpr ⟨m_0 cal_X6_hasBar (wG_t3 60 (by decide +kernel) rfl), List.forall_mem_cons.mpr ⟨m_0 cal_X4_entryAt (wG_t4 6 (by decide +kernel) rfl), List.forall_mem_cons.mpr ⟨m_0 cal_X4_entriesAt (wG_t4 7 (by decide +kernel) rfl), List.forall_mem_cons.mpr ⟨m_0 cal_X4_clueAt (wG_t4 8 (by decide +kernel) rfl), List.forall_mem_nil _⟩⟩⟩⟩⟩⟩), thr_ok (List.forall_mem_cons.mpr ⟨⟨rfl, by decide +kernel, 47, 152, 51, "what is not 0 to 6", by decide +kernel, by decide +kernel, Or.inl ⟨by decide +kernel, by decide +kernel, by decide +kernel⟩, wG_t3 89 (by decide +kernel) rfl, wG_t1 13 (by decide +kernel) rfl, by decide +kernel, at_0, an_0, by decide +kernel, by decide +kernel, by decide +kernel⟩, List.forall_mem_nil _⟩), cls_ok (by intro q h; cases h), c32_ok (by intro q h; cases h), c64_ok (by intro q h; cases h), an_ok 0 (by decide +kernel) (fun h => absurd rfl h) (fun _ => by decide +kernel), (rows_ok mr_X8_cell).2, rfl, hnd_0⟩
set_option maxRecDepth 20000 in
theorem ms_X8_cell : MStat 96 := ⟨mo_X8_cell, by decide +kernel, ret_ok (by decide +kernel)⟩
set_option maxRecDepth 20000 in
theorem mr_X8_entry : rowsC RX8 cX8_entry 3 "entry" mi_X8_entry = true := by decide +kernel
set_option maxRecDepth 20000 in
theorem mo_X8_entry : MOk RX8 cX8_entry 3 "entry" mi_X8_entry [] := ⟨(rows_ok mr_X8_entry).1, fld_ok (wG_of [324] (by decide +kernel) (by decide +kernel)) (by decide +kernel), mth_ok (List.forall_mem_cons.mpr ⟨m_0 cal_X4_clueAt (wG_t4 8 (by decide +kernel) rfl), List.forall_mem_cons.mpr ⟨m_0 cal_X8_requireEntry (wG_t4 20 (by decide +kernel) rfl), List.forall_mem_cons.mpr ⟨m_0 cal_X4_cellOf (wG_t4 26 (by decide +kernel) rfl), List.forall_mem_cons.mpr ⟨m_0 cal_X4_isDown (wG_t4 27 (by decide +kernel) rfl), List.forall_mem_cons.mpr ⟨m_0 cal_X4_lengthOf (wG_t4 28 (by decide +kernel) rfl), List.forall_mem_cons.mpr ⟨m_0 cal_X4_uncheckedIn (wG_t4 29 (by decide +kernel) rfl), List.forall_mem_cons.mpr ⟨m_0 cal_X4_emptyIn (wG_t3 71 (by decide +kernel) rfl), List.forall_mem_cons.mpr ⟨m_0 cal_X4_wordIn (wG_t4 30 (by decide +kernel) rfl), List.forall_mem_nil _⟩⟩⟩⟩⟩⟩⟩⟩), thr_ok (List.forall_mem_cons.mpr ⟨⟨rfl, by decide +kernel, 47, 152, 51, "what is not 0 to 6", by decide +kernel, by decide +kernel, Or.inl ⟨by decide +kernel, by decide +kernel, by decide +kernel⟩, wG_t3 89 (by decide +kernel) rfl, wG_t1 13 (by decide +kernel) rfl, by decide +kernel, at_0, an_0, by decide +kernel, by decide +kernel, by decide +kernel⟩, List.forall_mem_nil _⟩), cls_ok (by intro q h; cases h), c32_ok (by intro q h; cases h), c64_ok (by intro q h; cases h), an_ok 0 (by decide +kernel) (fun h => absurd rfl h) (fun _ => by decide +kernel), (rows_ok mr_X8_entry).2, rfl, hnd_0⟩
set_option maxRecDepth 20000 in
theorem ms_X8_entry : MStat 97 := ⟨mo_X8_entry, by decide +kernel, ret_ok (by decide +kernel)⟩
set_option maxRecDepth 20000 in
theorem mr_X8_word : rowsC RX8 cX8_word 3 "word" mi_X8_word = true := by decide +kernel
set_option maxRecDepth 20000 in
theorem mo_X8_word : MOk RX8 cX8_word 3 "word" mi_X8_word [] := ⟨(rows_ok mr_X8_word).1, fld_ok (wG_of [324, 212] (by decide +kernel) (by decide +kernel)) (by decide +kernel), mth_ok (List.forall_mem_cons.mpr ⟨m_0 cal_X8_requireWord (wG_t4 42 (by decide +kernel) rfl), List.forall_mem_cons.mpr ⟨m_0 cal_X6_letterOfWord (wG_t4 49 (by decide +kernel) rfl), List.forall_mem_nil _⟩⟩), thr_ok (List.forall_mem_cons.mpr ⟨⟨rfl, by decide +kernel, 47, 180, 51, "no such letter", by decide +kernel, by decide +kernel, Or.inl ⟨by decide +kernel, by decide +kernel, by decide +kernel⟩, wG_t3 89 (by decide +kernel) rfl, wG_t1 13 (by decide +kernel) rfl, by decide +kernel, at_0, an_0, by decide +kernel, by decide +kernel, by decide +kernel⟩, List.forall_mem_nil _⟩), cls_ok (by intro q h; cases h), c32_ok (by intro q h; cases h), c64_ok (by intro q h; cases h), an_ok 0 (by decide +kernel) (fun h => absurd rfl h) (fun _ => by decide +kernel), (rows_ok mr_X8_word).2, rfl, hnd_0⟩
set_option maxRecDepth 20000 in
theorem ms_X8_word : MStat 98 := ⟨mo_X8_word, by decide +kernel, ret_ok (by decide +kernel)⟩
set_option maxRecDepth 20000 in
theorem mr_X8_fits : rowsC RX8 cX8_fits 2 "fits" mi_X8_fits = true := by decide +kernel
set_option maxRecDepth 20000 in
theorem mo_X8_fits : MOk RX8 cX8_fits 2 "fits" mi_X8_fits [] := ⟨(rows_ok mr_X8_fits).1, fld_ok (wG_of [324] (by decide +kernel) (by decide +kernel)) (by decide +kernel), mth_ok (List.forall_mem_cons.mpr ⟨m_0 cal_X8_requireEntry (wG_t4 20 (by decide +kernel) rfl), List.forall_mem_cons.mpr ⟨m_0 cal_X4_fitCount (wG_t3 75 (by decide +kernel) rfl), List.forall_mem_nil _⟩⟩), thr_ok (by intro q h; cases h), cls_ok (by intro q h; cases h), c32_ok (by intro q h; cases h), c64_ok (by intro q h; cases h), an_ok 0 (by decide +kernel) (fun h => absurd rfl h) (fun _ => by decide +kernel), (rows_ok mr_X8_fits).2, rfl, hnd_0⟩
set_option maxRecDepth 20000 in
theorem ms_X8_fits : MStat 99 := ⟨mo_X8_fits, by decide +kernel, ret_ok (by decide +kernel)⟩
set_option maxRecDepth 20000 in
theorem mr_X8_rule : rowsC RX8 cX8_rule 2 "rule" mi_X8_rule = true := by decide +kernel
set_option maxRecDepth 20000 in
theorem mo_X8_rule : MOk RX8 cX8_rule 2 "rule" mi_X8_rule [] := ⟨(rows_ok mr_X8_rule).1, fld_ok (wG_of [324] (by decide +kernel) (by decide +kernel)) (by decide +kernel), mth_ok (List.forall_mem_cons.mpr ⟨m_1 cal_X5_areKept (wG_t4 65 (by decide +kernel) rfl), List.forall_mem_nil _⟩), thr_ok (List.forall_mem_cons.mpr ⟨⟨rfl, by decide +kernel, 47, 188, 51, "no such rule", by decide +kernel, by decide +kernel, Or.inl ⟨by decide +kernel, by decide +kernel, by decide +kernel⟩, wG_t3 89 (by decide +kernel) rfl, wG_t1 13 (by decide +kernel) rfl, by decide +kernel, at_0, an_0, by decide +kernel, by decide +kernel, by decide +kernel⟩, List.forall_mem_nil _⟩), cls_ok (by intro q h; cases h), c32_ok (by intro q h; cases h), c64_ok (by intro q h; cases h), an_ok 0 (by decide +kernel) (fun h => absurd rfl h) (fun _ => by decide +kernel), (rows_ok mr_X8_rule).2, rfl, hnd_0⟩
set_option maxRecDepth 20000 in
theorem ms_X8_rule : MStat 100 := ⟨mo_X8_rule, by decide +kernel, ret_ok (by decide +kernel)⟩
set_option maxRecDepth 20000 in
theorem mr_X8_readings : rowsC RX8 cX8_readings 1 "readings" mi_X8_readings = true := by decide +kernel
set_option maxRecDepth 20000 in
theorem mo_X8_readings : MOk RX8 cX8_readings 1 "readings" mi_X8_readings [] := ⟨(rows_ok mr_X8_readings).1, fld_ok (wG_of [324, 327] (by decide +kernel) (by decide +kernel)) (by decide +kernel), mth_ok (List.forall_mem_cons.mpr ⟨m_0 cal_X2_count (wG_t2 128 (by decide +kernel) rfl), List.forall_mem_nil _⟩), thr_ok (by intro q h; cases h), cls_ok (by intro q h; cases h), c32_ok (List.forall_mem_cons.mpr ⟨Or.inl ⟨2147483647, by decide +kernel, wG_t2 127 (by decide +kernel) rfl⟩, List.forall_mem_nil _⟩), c64_ok (List.forall_mem_cons.mpr ⟨Or.inr (by decide +kernel), List.forall_mem_nil _⟩), an_ok 0 (by decide +kernel) (fun h => absurd rfl h) (fun _ => by decide +kernel), (rows_ok mr_X8_readings).2, rfl, hnd_0⟩
set_option maxRecDepth 20000 in
theorem ms_X8_readings : MStat 101 := ⟨mo_X8_readings, by decide +kernel, ret_ok (by decide +kernel)⟩
set_option maxRecDepth 20000 in
theorem mr_X8_reading : rowsC RX8 cX8_reading 3 "reading" mi_X8_reading = true := by decide +kernel
set_option maxRecDepth 20000 in
theorem mo_X8_reading : MOk RX8 cX8_reading 3 "reading" mi_X8_reading [] := ⟨(rows_ok mr_X8_reading).1, fld_ok (wG_of [324, 327] (by decide +kernel) (by decide +kernel)) (by decide +kernel), mth_ok (List.forall_mem_cons.mpr ⟨m_0 cal_X2_count (wG_t2 128 (by decide +kernel) rfl), List.forall_mem_cons.mpr ⟨m_0 cal_X2_cellOfFirst (wG_t4 74 (by decide +kernel) rfl), List.forall_mem_nil _⟩⟩), thr_ok (List.forall_mem_cons.mpr ⟨⟨rfl, by decide +kernel, 47, 201, 51, "no such cell of a reading", by decide +kernel, by decide +kernel, Or.inl ⟨by decide +kernel, by decide +kernel, by decide +kernel⟩, wG_t3 89 (by decide +kernel) rfl, wG_t1 13 (by decide +kernel) rfl, by decide +kernel, at_0, an_0, by decide +kernel, by decide +kernel, by decide +kernel⟩, List.forall_mem_nil _⟩), cls_ok (by intro q h; cases h), c32_ok (by intro q h; cases h), c64_ok (by intro q h; cases h), an_ok 0 (by decide +kernel) (fun h => absurd rfl h) (fun _ => by decide +kernel), (rows_ok mr_X8_reading).2, rfl, hnd_0⟩
set_option maxRecDepth 20000 in
theorem ms_X8_reading : MStat 102 := ⟨mo_X8_reading, by decide +kernel, ret_ok (by decide +kernel)⟩
set_option maxRecDepth 20000 in
theorem mr_X8_put : rowsC RX8 cX8_put 4 "put" mi_X8_put = true := by decide +kernel
set_option maxRecDepth 20000 in
theorem mo_X8_put : MOk RX8 cX8_put 4 "put" mi_X8_put [] := ⟨(rows_ok mr_X8_put).1, fld_ok (wG_of [324, 326, 212] (by decide +kernel) (by decide +kernel)) (by decide +kernel), mth_ok (List.forall_mem_cons.mpr ⟨m_0 cal_X8_requireCell (wG_t3 224 (by decide +kernel) rfl), List.forall_mem_cons.mpr ⟨m_0 cal_X6_letterAt (wG_t4 5 (by decide +kernel) rfl), List.forall_mem_cons.mpr ⟨m_1 cal_X8_isLetter (wG_t4 85 (by decide +kernel) rfl), List.forall_mem_cons.mpr ⟨m_0 cal_X3_remember (wG_t4 87 (by decide +kernel) rfl), List.forall_mem_cons.mpr ⟨m_0 cal_X6_setLetter (wG_t4 99 (by decide +kernel) rfl), List.forall_mem_nil _⟩⟩⟩⟩⟩), thr_ok (List.forall_mem_cons.mpr ⟨⟨rfl, by decide +kernel, 47, 209, 51, "neither a letter nor 0", by decide +kernel, by decide +kernel, Or.inl ⟨by decide +kernel, by decide +kernel, by decide +kernel⟩, wG_t3 89 (by decide +kernel) rfl, wG_t1 13 (by decide +kernel) rfl, by decide +kernel, at_0, an_0, by decide +kernel, by decide +kernel, by decide +kernel⟩, List.forall_mem_nil _⟩), cls_ok (by intro q h; cases h), c32_ok (by intro q h; cases h), c64_ok (by intro q h; cases h), an_ok 0 (by decide +kernel) (fun h => absurd rfl h) (fun _ => by decide +kernel), (rows_ok mr_X8_put).2, rfl, hnd_0⟩
set_option maxRecDepth 20000 in
theorem ms_X8_put : MStat 103 := ⟨mo_X8_put, by decide +kernel, ret_ok (by decide +kernel)⟩
set_option maxRecDepth 20000 in
theorem mr_X8_setBar : rowsC RX8 cX8_setBar 4 "setBar" mi_X8_setBar = true := by decide +kernel
set_option maxRecDepth 20000 in
theorem mo_X8_setBar : MOk RX8 cX8_setBar 4 "setBar" mi_X8_setBar [] := ⟨(rows_ok mr_X8_setBar).1, fld_ok (wG_of [324, 326, 212, 217] (by decide +kernel) (by decide +kernel)) (by decide +kernel), mth_ok (List.forall_mem_cons.mpr ⟨m_0 cal_X8_requireCell (wG_t3 224 (by decide +kernel) rfl), List.forall_mem_cons.mpr ⟨m_0 cal_X3_remember (wG_t4 87 (by decide +kernel) rfl), List.forall_mem_cons.mpr ⟨m_0 cal_X6_isPlace (wG_t3 59 (by decide +kernel) rfl), List.forall_mem_cons.mpr ⟨m_0 cal_X4_changeBar (wG_t3 61 (by decide +kernel) rfl), List.forall_mem_nil _⟩⟩⟩⟩), thr_ok (List.forall_mem_cons.mpr ⟨⟨rfl, by decide +kernel, 47, 221, 51, "there is the rim", by decide +kernel, by decide +kernel, Or.inl ⟨by decide +kernel, by decide +kernel, by decide +kernel⟩, wG_t3 89 (by decide +kernel) rfl, wG_t1 13 (by decide +kernel) rfl, by decide +kernel, at_0, an_0, by decide +kernel, by decide +kernel, by decide +kernel⟩, List.forall_mem_nil _⟩), cls_ok (by intro q h; cases h), c32_ok (by intro q h; cases h), c64_ok (by intro q h; cases h), an_ok 0 (by decide +kernel) (fun h => absurd rfl h) (fun _ => by decide +kernel), (rows_ok mr_X8_setBar).2, rfl, hnd_0⟩
set_option maxRecDepth 20000 in
theorem ms_X8_setBar : MStat 104 := ⟨mo_X8_setBar, by decide +kernel, ret_ok (by decide +kernel)⟩
set_option maxRecDepth 20000 in
theorem mr_X8_addWord : rowsC RX8 cX8_addWord 2 "addWord" mi_X8_addWord = true := by decide +kernel
set_option maxRecDepth 20000 in
theorem mo_X8_addWord : MOk RX8 cX8_addWord 2 "addWord" mi_X8_addWord [] := ⟨(rows_ok mr_X8_addWord).1, fld_ok (wG_of [323, 324, 326, 212, 118, 154] (by decide +kernel) (by decide +kernel)) (by decide +kernel), mth_ok (List.forall_mem_cons.mpr ⟨m_0 cal_X3_remember (wG_t4 87 (by decide +kernel) rfl), List.forall_mem_cons.mpr ⟨m_0 cal_X7_isWord (wG_t4 115 (by decide +kernel) rfl), List.forall_mem_cons.mpr ⟨m_0 cal_X6_beginWord (wG_t4 120 (by decide +kernel) rfl), List.forall_mem_cons.mpr ⟨m_0 cal_X7_signAt (wG_t4 121 (by decide +kernel) rfl), List.forall_mem_cons.mpr ⟨m_0 cal_X6_lengthenWord (wG_t4 122 (by decide +kernel) rfl), List.forall_mem_nil _⟩⟩⟩⟩⟩), thr_ok (List.forall_mem_cons.mpr ⟨⟨rfl, by decide +kernel, 58, 230, 62, "the text is no word, or there are 8 words", by decide +kernel, by decide +kernel, Or.inl ⟨by decide +kernel, by decide +kernel, by decide +kernel⟩, wG_t3 161 (by decide +kernel) rfl, wG_t1 14 (by decide +kernel) rfl, by decide +kernel, at_1, an_1, by decide +kernel, by decide +kernel, by decide +kernel⟩, List.forall_mem_nil _⟩), cls_ok (by intro q h; cases h), c32_ok (by intro q h; cases h), c64_ok (by intro q h; cases h), an_ok 0 (by decide +kernel) (fun h => absurd rfl h) (fun _ => by decide +kernel), (rows_ok mr_X8_addWord).2, rfl, hnd_0⟩
set_option maxRecDepth 20000 in
theorem ms_X8_addWord : MStat 105 := ⟨mo_X8_addWord, by decide +kernel, ret_ok (by decide +kernel)⟩
set_option maxRecDepth 20000 in
theorem mr_X8_setLine : rowsC RX8 cX8_setLine 2 "setLine" mi_X8_setLine = true := by decide +kernel
set_option maxRecDepth 20000 in
theorem mo_X8_setLine : MOk RX8 cX8_setLine 2 "setLine" mi_X8_setLine [] := ⟨(rows_ok mr_X8_setLine).1, fld_ok (wG_of [323, 324, 326, 212, 123, 154] (by decide +kernel) (by decide +kernel)) (by decide +kernel), mth_ok (List.forall_mem_cons.mpr ⟨m_0 cal_X3_remember (wG_t4 87 (by decide +kernel) rfl), List.forall_mem_cons.mpr ⟨m_0 cal_X7_isWord (wG_t4 115 (by decide +kernel) rfl), List.forall_mem_cons.mpr ⟨m_0 cal_X7_signAt (wG_t4 121 (by decide +kernel) rfl), List.forall_mem_cons.mpr ⟨m_0 cal_X6_lengthenLine (wG_t4 131 (by decide +kernel) rfl), List.forall_mem_nil _⟩⟩⟩⟩), thr_ok (List.forall_mem_cons.mpr ⟨⟨rfl, by decide +kernel, 58, 244, 62, "the text is no line", by decide +kernel, by decide +kernel, Or.inl ⟨by decide +kernel, by decide +kernel, by decide +kernel⟩, wG_t3 161 (by decide +kernel) rfl, wG_t1 14 (by decide +kernel) rfl, by decide +kernel, at_1, an_1, by decide +kernel, by decide +kernel, by decide +kernel⟩, List.forall_mem_nil _⟩), cls_ok (by intro q h; cases h), c32_ok (by intro q h; cases h), c64_ok (by intro q h; cases h), an_ok 0 (by decide +kernel) (fun h => absurd rfl h) (fun _ => by decide +kernel), (rows_ok mr_X8_setLine).2, rfl, hnd_0⟩
set_option maxRecDepth 20000 in
theorem ms_X8_setLine : MStat 106 := ⟨mo_X8_setLine, by decide +kernel, ret_ok (by decide +kernel)⟩
set_option maxRecDepth 20000 in
theorem mr_X8_write : rowsC RX8 cX8_write 3 "write" mi_X8_write = true := by decide +kernel
set_option maxRecDepth 20000 in
theorem mo_X8_write : MOk RX8 cX8_write 3 "write" mi_X8_write [] := ⟨(rows_ok mr_X8_write).1, fld_ok (wG_of [324, 326, 212] (by decide +kernel) (by decide +kernel)) (by decide +kernel), mth_ok (List.forall_mem_cons.mpr ⟨m_0 cal_X8_requireEntry (wG_t4 20 (by decide +kernel) rfl), List.forall_mem_cons.mpr ⟨m_0 cal_X8_requireWord (wG_t4 42 (by decide +kernel) rfl), List.forall_mem_cons.mpr ⟨m_0 cal_X3_remember (wG_t4 87 (by decide +kernel) rfl), List.forall_mem_cons.mpr ⟨m_0 cal_X4_fitsWord (wG_t4 139 (by decide +kernel) rfl), List.forall_mem_cons.mpr ⟨m_0 cal_X4_fillEntry (wG_t4 141 (by decide +kernel) rfl), List.forall_mem_nil _⟩⟩⟩⟩⟩), thr_ok (List.forall_mem_cons.mpr ⟨⟨rfl, by decide +kernel, 58, 253, 62, "the entry does not fit the word", by decide +kernel, by decide +kernel, Or.inl ⟨by decide +kernel, by decide +kernel, by decide +kernel⟩, wG_t3 161 (by decide +kernel) rfl, wG_t1 14 (by decide +kernel) rfl, by decide +kernel, at_1, an_1, by decide +kernel, by decide +kernel, by decide +kernel⟩, List.forall_mem_nil _⟩), cls_ok (by intro q h; cases h), c32_ok (by intro q h; cases h), c64_ok (by intro q h; cases h), an_ok 0 (by decide +kernel) (fun h => absurd rfl h) (fun _ => by decide +kernel), (rows_ok mr_X8_write).2, rfl, hnd_0⟩
set_option maxRecDepth 20000 in
theorem ms_X8_write : MStat 107 := ⟨mo_X8_write, by decide +kernel, ret_ok (by decide +kernel)⟩
set_option maxRecDepth 20000 in
theorem mr_X8_erase : rowsC RX8 cX8_erase 2 "erase" mi_X8_erase = true := by decide +kernel
set_option maxRecDepth 20000 in
theorem mo_X8_erase : MOk RX8 cX8_erase 2 "erase" mi_X8_erase [] := ⟨(rows_ok mr_X8_erase).1, fld_ok (wG_of [324, 326, 212] (by decide +kernel) (by decide +kernel)) (by decide +kernel), mth_ok (List.forall_mem_cons.mpr ⟨m_0 cal_X8_requireEntry (wG_t4 20 (by decide +kernel) rfl), List.forall_mem_cons.mpr ⟨m_0 cal_X3_remember (wG_t4 87 (by decide +kernel) rfl), List.forall_mem_cons.mpr ⟨m_0 cal_X4_clearEntry (wG_t4 153 (by decide +kernel) rfl), List.forall_mem_nil _⟩⟩⟩), thr_ok (by intro q h; cases h), cls_ok (by intro q h; cases h), c32_ok (by intro q h; cases h), c64_ok (by intro q h; cases h), an_ok 0 (by decide +kernel) (fun h => absurd rfl h) (fun _ => by decide +kernel), (rows_ok mr_X8_erase).2, rfl, hnd_0⟩
set_option maxRecDepth 20000 in
theorem ms_X8_erase : MStat 108 := ⟨mo_X8_erase, by decide +kernel, ret_ok (by decide +kernel)⟩
set_option maxRecDepth 20000 in
theorem mr_X8_undo : rowsC RX8 cX8_undo 1 "undo" mi_X8_undo = true := by decide +kernel
set_option maxRecDepth 20000 in
theorem mo_X8_undo : MOk RX8 cX8_undo 1 "undo" mi_X8_undo [] := ⟨(rows_ok mr_X8_undo).1, fld_ok (wG_of [324, 326, 260] (by decide +kernel) (by decide +kernel)) (by decide +kernel), mth_ok (List.forall_mem_cons.mpr ⟨m_0 cal_X4_take (wG_t3 7 (by decide +kernel) rfl), List.forall_mem_cons.mpr ⟨m_0 cal_X3_takeLast (wG_t4 167 (by decide +kernel) rfl), List.forall_mem_nil _⟩⟩), thr_ok (List.forall_mem_cons.mpr ⟨⟨rfl, by decide +kernel, 58, 264, 62, "no state is remembered", by decide +kernel, by decide +kernel, Or.inr ⟨by decide +kernel, by decide +kernel, by decide +kernel⟩, wG_t3 161 (by decide +kernel) rfl, wG_t1 14 (by decide +kernel) rfl, by decide +kernel, at_1, an_1, by decide +kernel, by decide +kernel, by decide +kernel⟩, List.forall_mem_nil _⟩), cls_ok (by intro q h; cases h), c32_ok (by intro q h; cases h), c64_ok (by intro q h; cases h), an_ok 0 (by decide +kernel) (fun h => absurd rfl h) (fun _ => by decide +kernel), (rows_ok mr_X8_undo).2, rfl, hnd_0⟩
set_option maxRecDepth 20000 in
theorem ms_X8_undo : MStat 109 := ⟨mo_X8_undo, by decide +kernel, ret_ok (by decide +kernel)⟩
set_option maxRecDepth 20000 in
theorem mr_X8_possible : rowsC RX8 cX8_possible 1 "possible" mi_X8_possible = true := by decide +kernel
set_option maxRecDepth 20000 in
theorem mo_X8_possible : MOk RX8 cX8_possible 1 "possible" mi_X8_possible [] := ⟨(rows_ok mr_X8_possible).1, fld_ok (wG_of [324, 327] (by decide +kernel) (by decide +kernel)) (by decide +kernel), mth_ok (List.forall_mem_cons.mpr ⟨m_0 cal_X2_count (wG_t2 128 (by decide +kernel) rfl), List.forall_mem_nil _⟩), thr_ok (by intro q h; cases h), cls_ok (by intro q h; cases h), c32_ok (by intro q h; cases h), c64_ok (by intro q h; cases h), an_ok 0 (by decide +kernel) (fun h => absurd rfl h) (fun _ => by decide +kernel), (rows_ok mr_X8_possible).2, rfl, hnd_0⟩
set_option maxRecDepth 20000 in
theorem ms_X8_possible : MStat 110 := ⟨mo_X8_possible, by decide +kernel, ret_ok (by decide +kernel)⟩
set_option maxRecDepth 20000 in
theorem mr_X8_fillings : rowsC RX8 cX8_fillings 1 "fillings" mi_X8_fillings = true := by decide +kernel
set_option maxRecDepth 20000 in
theorem mo_X8_fillings : MOk RX8 cX8_fillings 1 "fillings" mi_X8_fillings [] := ⟨(rows_ok mr_X8_fillings).1, fld_ok (wG_of [324, 328] (by decide +kernel) (by decide +kernel)) (by decide +kernel), mth_ok (List.forall_mem_cons.mpr ⟨m_0 cal_X1_count (wG_t2 185 (by decide +kernel) rfl), List.forall_mem_nil _⟩), thr_ok (by intro q h; cases h), cls_ok (by intro q h; cases h), c32_ok (by intro q h; cases h), c64_ok (by intro q h; cases h), an_ok 0 (by decide +kernel) (fun h => absurd rfl h) (fun _ => by decide +kernel), (rows_ok mr_X8_fillings).2, rfl, hnd_0⟩
set_option maxRecDepth 20000 in
theorem ms_X8_fillings : MStat 111 := ⟨mo_X8_fillings, by decide +kernel, ret_ok (by decide +kernel)⟩
set_option maxRecDepth 20000 in
theorem mr_X8_mend : rowsC RX8 cX8_mend 9 "mend" mi_X8_mend = true := by decide +kernel
set_option maxRecDepth 20000 in
theorem mo_X8_mend : MOk RX8 cX8_mend 9 "mend" mi_X8_mend [] := ⟨(rows_ok mr_X8_mend).1, fld_ok (wG_of [324, 325, 212] (by decide +kernel) (by decide +kernel)) (by decide +kernel), mth_ok (List.forall_mem_cons.mpr ⟨m_0 cal_X4_take (wG_t3 7 (by decide +kernel) rfl), List.forall_mem_cons.mpr ⟨m_0 cal_X6_cells (wG_t3 58 (by decide +kernel) rfl), List.forall_mem_cons.mpr ⟨m_0 cal_X6_hasBar (wG_t3 60 (by decide +kernel) rfl), List.forall_mem_cons.mpr ⟨m_0 cal_X6_isPlace (wG_t3 59 (by decide +kernel) rfl), List.forall_mem_cons.mpr ⟨m_0 cal_X4_changeBar (wG_t3 61 (by decide +kernel) rfl), List.forall_mem_cons.mpr ⟨m_1 cal_X5_countKept (wG_t3 16 (by decide +kernel) rfl), List.forall_mem_nil _⟩⟩⟩⟩⟩⟩), thr_ok (by intro q h; cases h), cls_ok (by intro q h; cases h), c32_ok (by intro q h; cases h), c64_ok (by intro q h; cases h), an_ok 0 (by decide +kernel) (fun h => absurd rfl h) (fun _ => by decide +kernel), (rows_ok mr_X8_mend).2, rfl, hnd_0⟩
set_option maxRecDepth 20000 in
theorem ms_X8_mend : MStat 112 := ⟨mo_X8_mend, by decide +kernel, ret_ok (by decide +kernel)⟩
set_option maxRecDepth 20000 in
theorem mr_X8_hardest : rowsC RX8 cX8_hardest 5 "hardest" mi_X8_hardest = true := by decide +kernel
set_option maxRecDepth 20000 in
theorem mo_X8_hardest : MOk RX8 cX8_hardest 5 "hardest" mi_X8_hardest [] := ⟨(rows_ok mr_X8_hardest).1, fld_ok (wG_of [324, 217] (by decide +kernel) (by decide +kernel)) (by decide +kernel), mth_ok (List.forall_mem_cons.mpr ⟨m_0 cal_X4_emptyIn (wG_t3 71 (by decide +kernel) rfl), List.forall_mem_cons.mpr ⟨m_0 cal_X4_fitCount (wG_t3 75 (by decide +kernel) rfl), List.forall_mem_nil _⟩⟩), thr_ok (by intro q h; cases h), cls_ok (by intro q h; cases h), c32_ok (by intro q h; cases h), c64_ok (by intro q h; cases h), an_ok 0 (by decide +kernel) (fun h => absurd rfl h) (fun _ => by decide +kernel), (rows_ok mr_X8_hardest).2, rfl, hnd_0⟩
set_option maxRecDepth 20000 in
theorem ms_X8_hardest : MStat 113 := ⟨mo_X8_hardest, by decide +kernel, ret_ok (by decide +kernel)⟩
