set_option maxRecDepth 20000 in
theorem mr_X6_drawBar : rowsC RX6 cX6_drawBar 6 "drawBar" mi_X6_drawBar = true := by decide +kernel
set_option maxRecDepth 20000 in
theorem mo_X6_drawBar : MOk RX6 cX6_drawBar 6 "drawBar" mi_X6_drawBar [] := ⟨(rows_ok mr_X6_drawBar).1, fld_ok (wG_of [76, 77] (by decide +kernel) (by decide +kernel)) (by decide +kernel), mth_ok (List.forall_mem_cons.mpr ⟨m_0 cal_X6_isPlace (wG_t1 121 (by decide +kernel) rfl), List.forall_mem_nil _⟩), thr_ok (by intro q h; cases h), cls_ok (by intro q h; cases h), c32_ok (List.forall_mem_cons.mpr ⟨Or.inr (by decide +kernel), List.forall_mem_nil _⟩), c64_ok (List.forall_mem_cons.mpr ⟨Or.inl (wG_t3 58 (by decide +kernel) rfl), List.forall_mem_nil _⟩), an_ok 0 (by decide +kernel) (fun h => absurd rfl h) (fun _ => by decide +kernel), (rows_ok mr_X6_drawBar).2, rfl, hnd_0⟩
set_option maxRecDepth 20000 in
theorem ms_X6_drawBar : MStat 66 := ⟨mo_X6_drawBar, by decide +kernel, ret_ok (by decide +kernel)⟩
set_option maxRecDepth 20000 in
theorem mr_X6_barCount : rowsC RX6 cX6_barCount 1 "barCount" mi_X6_barCount = true := by decide +kernel
set_option maxRecDepth 20000 in
theorem mo_X6_barCount : MOk RX6 cX6_barCount 1 "barCount" mi_X6_barCount [] := ⟨(rows_ok mr_X6_barCount).1, fld_ok (wG_of [76, 77] (by decide +kernel) (by decide +kernel)) (by decide +kernel), mth_ok (List.forall_mem_cons.mpr ⟨m_1 cal_J13_bitCount_95d88 (wG_t2 55 (by decide +kernel) rfl), List.forall_mem_nil _⟩), thr_ok (by intro q h; cases h), cls_ok (by intro q h; cases h), c32_ok (by intro q h; cases h), c64_ok (by intro q h; cases h), an_ok 0 (by decide +kernel) (fun h => absurd rfl h) (fun _ => by decide +kernel), (rows_ok mr_X6_barCount).2, rfl, hnd_0⟩
set_option maxRecDepth 20000 in
theorem ms_X6_barCount : MStat 67 := ⟨mo_X6_barCount, by decide +kernel, ret_ok (by decide +kernel)⟩
set_option maxRecDepth 20000 in
theorem mr_X6_isJoined : rowsC RX6 cX6_isJoined 3 "isJoined" mi_X6_isJoined = true := by decide +kernel
set_option maxRecDepth 20000 in
theorem mo_X6_isJoined : MOk RX6 cX6_isJoined 3 "isJoined" mi_X6_isJoined [] := ⟨(rows_ok mr_X6_isJoined).1, fld_ok (wG_of [] (by decide +kernel) (by decide +kernel)) (by decide +kernel), mth_ok (List.forall_mem_cons.mpr ⟨m_0 cal_X6_isPlace (wG_t1 121 (by decide +kernel) rfl), List.forall_mem_cons.mpr ⟨m_0 cal_X6_hasBar (wG_t1 125 (by decide +kernel) rfl), List.forall_mem_nil _⟩⟩), thr_ok (by intro q h; cases h), cls_ok (by intro q h; cases h), c32_ok (by intro q h; cases h), c64_ok (by intro q h; cases h), an_ok 0 (by decide +kernel) (fun h => absurd rfl h) (fun _ => by decide +kernel), (rows_ok mr_X6_isJoined).2, rfl, hnd_0⟩
set_option maxRecDepth 20000 in
theorem ms_X6_isJoined : MStat 68 := ⟨mo_X6_isJoined, by decide +kernel, ret_ok (by decide +kernel)⟩
set_option maxRecDepth 20000 in
theorem mr_X6_hasWord : rowsC RX6 cX6_hasWord 2 "hasWord" mi_X6_hasWord = true := by decide +kernel
set_option maxRecDepth 20000 in
theorem mo_X6_hasWord : MOk RX6 cX6_hasWord 2 "hasWord" mi_X6_hasWord [] := ⟨(rows_ok mr_X6_hasWord).1, fld_ok (wG_of [67] (by decide +kernel) (by decide +kernel)) (by decide +kernel), mth_ok (by intro q h; cases h), thr_ok (by intro q h; cases h), cls_ok (by intro q h; cases h), c32_ok (by intro q h; cases h), c64_ok (by intro q h; cases h), an_ok 0 (by decide +kernel) (fun h => absurd rfl h) (fun _ => by decide +kernel), (rows_ok mr_X6_hasWord).2, rfl, hnd_0⟩
set_option maxRecDepth 20000 in
theorem ms_X6_hasWord : MStat 69 := ⟨mo_X6_hasWord, by decide +kernel, ret_ok (by decide +kernel)⟩
set_option maxRecDepth 20000 in
theorem mr_X6_lengthOfWord : rowsC RX6 cX6_lengthOfWord 2 "lengthOfWord" mi_X6_lengthOfWord = true := by decide +kernel
set_option maxRecDepth 20000 in
theorem mo_X6_lengthOfWord : MOk RX6 cX6_lengthOfWord 2 "lengthOfWord" mi_X6_lengthOfWord [] := ⟨(rows_ok mr_X6_lengthOfWord).1, fld_ok (wG_of [79] (by decide +kernel) (by decide +kernel)) (by decide +kernel), mth_ok (List.forall_mem_cons.mpr ⟨m_0 cal_X6_hasWord (wG_t3 115 (by decide +kernel) rfl), List.forall_mem_nil _⟩), thr_ok (by intro q h; cases h), cls_ok (by intro q h; cases h), c32_ok (by intro q h; cases h), c64_ok (by intro q h; cases h), an_ok 0 (by decide +kernel) (fun h => absurd rfl h) (fun _ => by decide +kernel), (rows_ok mr_X6_lengthOfWord).2, rfl, hnd_0⟩
set_option maxRecDepth 20000 in
theorem ms_X6_lengthOfWord : MStat 70 := ⟨mo_X6_lengthOfWord, by decide +kernel, ret_ok (by decide +kernel)⟩
set_option maxRecDepth 20000 in
theorem mr_X6_letterOfWord : rowsC RX6 cX6_letterOfWord 3 "letterOfWord" mi_X6_letterOfWord = true := by decide +kernel
set_option maxRecDepth 20000 in
theorem mo_X6_letterOfWord : MOk RX6 cX6_letterOfWord 3 "letterOfWord" mi_X6_letterOfWord [] := ⟨(rows_ok mr_X6_letterOfWord).1, fld_ok (wG_of [80] (by decide +kernel) (by decide +kernel)) (by decide +kernel), mth_ok (List.forall_mem_cons.mpr ⟨m_0 cal_X6_lengthOfWord (wG_t3 121 (by decide +kernel) rfl), List.forall_mem_nil _⟩), thr_ok (by intro q h; cases h), cls_ok (by intro q h; cases h), c32_ok (by intro q h; cases h), c64_ok (by intro q h; cases h), an_ok 0 (by decide +kernel) (fun h => absurd rfl h) (fun _ => by decide +kernel), (rows_ok mr_X6_letterOfWord).2, rfl, hnd_0⟩
set_option maxRecDepth 20000 in
theorem ms_X6_letterOfWord : MStat 71 := ⟨mo_X6_letterOfWord, by decide +kernel, ret_ok (by decide +kernel)⟩
set_option maxRecDepth 20000 in
theorem mr_X6_beginWord : rowsC RX6 cX6_beginWord 1 "beginWord" mi_X6_beginWord = true := by decide +kernel
set_option maxRecDepth 20000 in
theorem mo_X6_beginWord : MOk RX6 cX6_beginWord 1 "beginWord" mi_X6_beginWord [] := ⟨(rows_ok mr_X6_beginWord).1, fld_ok (wG_of [67, 79] (by decide +kernel) (by decide +kernel)) (by decide +kernel), mth_ok (by intro q h; cases h), thr_ok (by intro q h; cases h), cls_ok (by intro q h; cases h), c32_ok (by intro q h; cases h), c64_ok (by intro q h; cases h), an_ok 0 (by decide +kernel) (fun h => absurd rfl h) (fun _ => by decide +kernel), (rows_ok mr_X6_beginWord).2, rfl, hnd_0⟩
set_option maxRecDepth 20000 in
theorem ms_X6_beginWord : MStat 72 := ⟨mo_X6_beginWord, by decide +kernel, ret_ok (by decide +kernel)⟩
set_option maxRecDepth 20000 in
theorem mr_X6_lengthenWord : rowsC RX6 cX6_lengthenWord 4 "lengthenWord" mi_X6_lengthenWord = true := by decide +kernel
set_option maxRecDepth 20000 in
theorem mo_X6_lengthenWord : MOk RX6 cX6_lengthenWord 4 "lengthenWord" mi_X6_lengthenWord [] := ⟨(rows_ok mr_X6_lengthenWord).1, fld_ok (wG_of [67, 79, 80] (by decide +kernel) (by decide +kernel)) (by decide +kernel), mth_ok (List.forall_mem_cons.mpr ⟨m_0 cal_X6_hasWord (wG_t3 115 (by decide +kernel) rfl), List.forall_mem_cons.mpr ⟨m_0 cal_X6_lengthOfWord (wG_t3 121 (by decide +kernel) rfl), List.forall_mem_nil _⟩⟩), thr_ok (by intro q h; cases h), cls_ok (by intro q h; cases h), c32_ok (by intro q h; cases h), c64_ok (by intro q h; cases h), an_ok 0 (by decide +kernel) (fun h => absurd rfl h) (fun _ => by decide +kernel), (rows_ok mr_X6_lengthenWord).2, rfl, hnd_0⟩
set_option maxRecDepth 20000 in
theorem ms_X6_lengthenWord : MStat 73 := ⟨mo_X6_lengthenWord, by decide +kernel, ret_ok (by decide +kernel)⟩
set_option maxRecDepth 20000 in
theorem mr_X6_letterOfLine : rowsC RX6 cX6_letterOfLine 2 "letterOfLine" mi_X6_letterOfLine = true := by decide +kernel
set_option maxRecDepth 20000 in
theorem mo_X6_letterOfLine : MOk RX6 cX6_letterOfLine 2 "letterOfLine" mi_X6_letterOfLine [] := ⟨(rows_ok mr_X6_letterOfLine).1, fld_ok (wG_of [72, 81] (by decide +kernel) (by decide +kernel)) (by decide +kernel), mth_ok (by intro q h; cases h), thr_ok (by intro q h; cases h), cls_ok (by intro q h; cases h), c32_ok (by intro q h; cases h), c64_ok (by intro q h; cases h), an_ok 0 (by decide +kernel) (fun h => absurd rfl h) (fun _ => by decide +kernel), (rows_ok mr_X6_letterOfLine).2, rfl, hnd_0⟩
set_option maxRecDepth 20000 in
theorem ms_X6_letterOfLine : MStat 74 := ⟨mo_X6_letterOfLine, by decide +kernel, ret_ok (by decide +kernel)⟩
set_option maxRecDepth 20000 in
theorem mr_X6_lengthenLine : rowsC RX6 cX6_lengthenLine 2 "lengthenLine" mi_X6_lengthenLine = true := by decide +kernel
set_option maxRecDepth 20000 in
theorem mo_X6_lengthenLine : MOk RX6 cX6_lengthenLine 2 "lengthenLine" mi_X6_lengthenLine [] := ⟨(rows_ok mr_X6_lengthenLine).1, fld_ok (wG_of [72, 81] (by decide +kernel) (by decide +kernel)) (by decide +kernel), mth_ok (by intro q h; cases h), thr_ok (by intro q h; cases h), cls_ok (by intro q h; cases h), c32_ok (by intro q h; cases h), c64_ok (by intro q h; cases h), an_ok 0 (by decide +kernel) (fun h => absurd rfl h) (fun _ => by decide +kernel), (rows_ok mr_X6_lengthenLine).2, rfl, hnd_0⟩
set_option maxRecDepth 20000 in
theorem ms_X6_lengthenLine : MStat 75 := ⟨mo_X6_lengthenLine, by decide +kernel, ret_ok (by decide +kernel)⟩
set_option maxRecDepth 20000 in
theorem mr_X7_init : rowsC RX7 cX7_init 1 "<init>" mi_X7_init = true := by decide +kernel
set_option maxRecDepth 20000 in
theorem mo_X7_init : MOk RX7 cX7_init 1 "<init>" mi_X7_init [] := ⟨(rows_ok mr_X7_init).1, fld_ok (wG_of [104, 105, 107, 108] (by decide +kernel) (by decide +kernel)) (by decide +kernel), mth_ok (List.forall_mem_cons.mpr ⟨⟨wG_t1 32 (by decide +kernel) rfl, wG_t1 25 (by decide +kernel) rfl, wG_t1 26 rfl rfl⟩, List.forall_mem_cons.mpr ⟨m_4 cal_X6_init (by decide +kernel), List.forall_mem_nil _⟩⟩), thr_ok (by intro q h; cases h), cls_ok (List.forall_mem_cons.mpr ⟨⟨_, rfl, wG_t1 33 (by decide +kernel) rfl, wG_t1 34 (by decide +kernel) rfl, wG_t1 3 (by decide +kernel) rfl⟩, List.forall_mem_nil _⟩), c32_ok (by intro q h; cases h), c64_ok (by intro q h; cases h), an_ok 0 (by decide +kernel) (fun h => absurd rfl h) (fun _ => by decide +kernel), (rows_ok mr_X7_init).2, rfl, hnd_0⟩
set_option maxRecDepth 20000 in
theorem ms_X7_init : MStat 76 := ⟨mo_X7_init, by decide +kernel, ret_ok (by decide +kernel)⟩
set_option maxRecDepth 20000 in
theorem mr_X7_isFull : rowsC RX7 cX7_isFull 1 "isFull" mi_X7_isFull = true := by decide +kernel
set_option maxRecDepth 20000 in
theorem mo_X7_isFull : MOk RX7 cX7_isFull 1 "isFull" mi_X7_isFull [] := ⟨(rows_ok mr_X7_isFull).1, fld_ok (wG_of [104] (by decide +kernel) (by decide +kernel)) (by decide +kernel), mth_ok (by intro q h; cases h), thr_ok (by intro q h; cases h), cls_ok (by intro q h; cases h), c32_ok (by intro q h; cases h), c64_ok (by intro q h; cases h), an_ok 0 (by decide +kernel) (fun h => absurd rfl h) (fun _ => by decide +kernel), (rows_ok mr_X7_isFull).2, rfl, hnd_0⟩
set_option maxRecDepth 20000 in
theorem ms_X7_isFull : MStat 77 := ⟨mo_X7_isFull, by decide +kernel, ret_ok (by decide +kernel)⟩
set_option maxRecDepth 20000 in
theorem mr_X7_add : rowsC RX7 cX7_add 2 "add" mi_X7_add = true := by decide +kernel
set_option maxRecDepth 20000 in
theorem mo_X7_add : MOk RX7 cX7_add 2 "add" mi_X7_add [] := ⟨(rows_ok mr_X7_add).1, fld_ok (wG_of [104, 108] (by decide +kernel) (by decide +kernel)) (by decide +kernel), mth_ok (by intro q h; cases h), thr_ok (by intro q h; cases h), cls_ok (by intro q h; cases h), c32_ok (by intro q h; cases h), c64_ok (by intro q h; cases h), an_ok 0 (by decide +kernel) (fun h => absurd rfl h) (fun _ => by decide +kernel), (rows_ok mr_X7_add).2, rfl, hnd_0⟩
set_option maxRecDepth 20000 in
theorem ms_X7_add : MStat 78 := ⟨mo_X7_add, by decide +kernel, ret_ok (by decide +kernel)⟩
set_option maxRecDepth 20000 in
theorem mr_X7_signAt : rowsC RX7 cX7_signAt 2 "signAt" mi_X7_signAt = true := by decide +kernel
set_option maxRecDepth 20000 in
theorem mo_X7_signAt : MOk RX7 cX7_signAt 2 "signAt" mi_X7_signAt [] := ⟨(rows_ok mr_X7_signAt).1, fld_ok (wG_of [104, 108] (by decide +kernel) (by decide +kernel)) (by decide +kernel), mth_ok (by intro q h; cases h), thr_ok (by intro q h; cases h), cls_ok (by intro q h; cases h), c32_ok (by intro q h; cases h), c64_ok (by intro q h; cases h), an_ok 0 (by decide +kernel) (fun h => absurd rfl h) (fun _ => by decide +kernel), (rows_ok mr_X7_signAt).2, rfl, hnd_0⟩
set_option maxRecDepth 20000 in
theorem ms_X7_signAt : MStat 80 := ⟨mo_X7_signAt, by decide +kernel, ret_ok (by decide +kernel)⟩
set_option maxRecDepth 20000 in
theorem mr_X7_readGrid : rowsC RX7 cX7_readGrid 1 "readGrid" mi_X7_readGrid = true := by decide +kernel
set_option maxRecDepth 20000 in
theorem mo_X7_readGrid : MOk RX7 cX7_readGrid 1 "readGrid" mi_X7_readGrid [] := ⟨(rows_ok mr_X7_readGrid).1, fld_ok (wG_of [107] (by decide +kernel) (by decide +kernel)) (by decide +kernel), mth_ok (List.forall_mem_cons.mpr ⟨m_0 cal_X7_goesPast (wG_t4 46 (by decide +kernel) rfl), List.forall_mem_cons.mpr ⟨m_0 cal_X7_readSize (wG_t4 54 (by decide +kernel) rfl), List.forall_mem_cons.mpr ⟨m_0 cal_X7_readCells (wG_t4 63 (by decide +kernel) rfl), List.forall_mem_cons.mpr ⟨m_0 cal_X7_readParts (wG_t4 76 (by decide +kernel) rfl), List.forall_mem_nil _⟩⟩⟩⟩), thr_ok (by intro q h; cases h), cls_ok (by intro q h; cases h), c32_ok (by intro q h; cases h), c64_ok (by intro q h; cases h), an_ok 0 (by decide +kernel) (fun h => absurd rfl h) (fun _ => by decide +kernel), (rows_ok mr_X7_readGrid).2, rfl, hnd_0⟩
set_option maxRecDepth 20000 in
theorem ms_X7_readGrid : MStat 82 := ⟨mo_X7_readGrid, by decide +kernel, ret_ok (by decide +kernel)⟩
set_option maxRecDepth 20000 in
theorem mr_X7_goesPast : rowsC RX7 cX7_goesPast 2 "goesPast" mi_X7_goesPast = true := by decide +kernel
set_option maxRecDepth 20000 in
theorem mo_X7_goesPast : MOk RX7 cX7_goesPast 2 "goesPast" mi_X7_goesPast [] := ⟨(rows_ok mr_X7_goesPast).1, fld_ok (wG_of [107] (by decide +kernel) (by decide +kernel)) (by decide +kernel), mth_ok (List.forall_mem_cons.mpr ⟨m_0 cal_X7_signAt (wG_t4 50 (by decide +kernel) rfl), List.forall_mem_nil _⟩), thr_ok (by intro q h; cases h), cls_ok (by intro q h; cases h), c32_ok (by intro q h; cases h), c64_ok (by intro q h; cases h), an_ok 0 (by decide +kernel) (fun h => absurd rfl h) (fun _ => by decide +kernel), (rows_ok mr_X7_goesPast).2, rfl, hnd_0⟩
set_option maxRecDepth 20000 in
theorem ms_X7_goesPast : MStat 83 := ⟨mo_X7_goesPast, by decide +kernel, ret_ok (by decide +kernel)⟩
set_option maxRecDepth 20000 in
theorem mr_X7_readSize : rowsC RX7 cX7_readSize 3 "readSize" mi_X7_readSize = true := by decide +kernel
set_option maxRecDepth 20000 in
theorem mo_X7_readSize : MOk RX7 cX7_readSize 3 "readSize" mi_X7_readSize [] := ⟨(rows_ok mr_X7_readSize).1, fld_ok (wG_of [105, 107] (by decide +kernel) (by decide +kernel)) (by decide +kernel), mth_ok (List.forall_mem_cons.mpr ⟨m_0 cal_X7_signAt (wG_t4 50 (by decide +kernel) rfl), List.forall_mem_cons.mpr ⟨m_0 cal_X6_begin (wG_t4 58 (by decide +kernel) rfl), List.forall_mem_nil _⟩⟩), thr_ok (by intro q h; cases h), cls_ok (by intro q h; cases h), c32_ok (by intro q h; cases h), c64_ok (by intro q h; cases h), an_ok 0 (by decide +kernel) (fun h => absurd rfl h) (fun _ => by decide +kernel), (rows_ok mr_X7_readSize).2, rfl, hnd_0⟩
set_option maxRecDepth 20000 in
theorem ms_X7_readSize : MStat 84 := ⟨mo_X7_readSize, by decide +kernel, ret_ok (by decide +kernel)⟩
set_option maxRecDepth 20000 in
theorem mr_X7_readCells : rowsC RX7 cX7_readCells 3 "readCells" mi_X7_readCells = true := by decide +kernel
set_option maxRecDepth 20000 in
theorem mo_X7_readCells : MOk RX7 cX7_readCells 3 "readCells" mi_X7_readCells [] := ⟨(rows_ok mr_X7_readCells).1, fld_ok (wG_of [105, 107] (by decide +kernel) (by decide +kernel)) (by decide +kernel), mth_ok (List.forall_mem_cons.mpr ⟨m_0 cal_X7_signAt (wG_t4 50 (by decide +kernel) rfl), List.forall_mem_cons.mpr ⟨m_3 cal_X8_isLetter (by decide +kernel), List.forall_mem_cons.mpr ⟨m_0 cal_X6_cells (wG_t4 67 (by decide +kernel) rfl), List.forall_mem_cons.mpr ⟨m_0 cal_X6_setLetter (wG_t4 69 (by decide +kernel) rfl), List.forall_mem_cons.mpr ⟨m_0 cal_X7_readBar (wG_t4 70 (by decide +kernel) rfl), List.forall_mem_nil _⟩⟩⟩⟩⟩), thr_ok (by intro q h; cases h), cls_ok (by intro q h; cases h), c32_ok (by intro q h; cases h), c64_ok (by intro q h; cases h), an_ok 0 (by decide +kernel) (fun h => absurd rfl h) (fun _ => by decide +kernel), (rows_ok mr_X7_readCells).2, rfl, hnd_0⟩
set_option maxRecDepth 20000 in
theorem ms_X7_readCells : MStat 85 := ⟨mo_X7_readCells, by decide +kernel, ret_ok (by decide +kernel)⟩
set_option maxRecDepth 20000 in
theorem mr_X7_readBar : rowsC RX7 cX7_readBar 4 "readBar" mi_X7_readBar = true := by decide +kernel
set_option maxRecDepth 20000 in
theorem mo_X7_readBar : MOk RX7 cX7_readBar 4 "readBar" mi_X7_readBar [] := ⟨(rows_ok mr_X7_readBar).1, fld_ok (wG_of [105] (by decide +kernel) (by decide +kernel)) (by decide +kernel), mth_ok (List.forall_mem_cons.mpr ⟨m_0 cal_X7_goesPast (wG_t4 46 (by decide +kernel) rfl), List.forall_mem_cons.mpr ⟨m_0 cal_X6_isPlace (wG_t4 74 (by decide +kernel) rfl), List.forall_mem_cons.mpr ⟨m_0 cal_X6_drawBar (wG_t4 75 (by decide +kernel) rfl), List.forall_mem_nil _⟩⟩⟩), thr_ok (by intro q h; cases h), cls_ok (by intro q h; cases h), c32_ok (by intro q h; cases h), c64_ok (by intro q h; cases h), an_ok 0 (by decide +kernel) (fun h => absurd rfl h) (fun _ => by decide +kernel), (rows_ok mr_X7_readBar).2, rfl, hnd_0⟩
set_option maxRecDepth 20000 in
theorem ms_X7_readBar : MStat 86 := ⟨mo_X7_readBar, by decide +kernel, ret_ok (by decide +kernel)⟩
set_option maxRecDepth 20000 in
theorem mr_X7_readParts : rowsC RX7 cX7_readParts 3 "readParts" mi_X7_readParts = true := by decide +kernel
set_option maxRecDepth 20000 in
theorem mo_X7_readParts : MOk RX7 cX7_readParts 3 "readParts" mi_X7_readParts [] := ⟨(rows_ok mr_X7_readParts).1, fld_ok (wG_of [104, 105, 107, 70, 75] (by decide +kernel) (by decide +kernel)) (by decide +kernel), mth_ok (List.forall_mem_cons.mpr ⟨m_0 cal_X7_goesPast (wG_t4 46 (by decide +kernel) rfl), List.forall_mem_cons.mpr ⟨m_0 cal_X7_readWord (wG_t4 80 (by decide +kernel) rfl), List.forall_mem_cons.mpr ⟨m_0 cal_X7_readLine (wG_t4 92 (by decide +kernel) rfl), List.forall_mem_nil _⟩⟩⟩), thr_ok (by intro q h; cases h), cls_ok (by intro q h; cases h), c32_ok (by intro q h; cases h), c64_ok (by intro q h; cases h), an_ok 0 (by decide +kernel) (fun h => absurd rfl h) (fun _ => by decide +kernel), (rows_ok mr_X7_readParts).2, rfl, hnd_0⟩
set_option maxRecDepth 20000 in
theorem ms_X7_readParts : MStat 87 := ⟨mo_X7_readParts, by decide +kernel, ret_ok (by decide +kernel)⟩
set_option maxRecDepth 20000 in
theorem mr_X7_readWord : rowsC RX7 cX7_readWord 2 "readWord" mi_X7_readWord = true := by decide +kernel
set_option maxRecDepth 20000 in
theorem mo_X7_readWord : MOk RX7 cX7_readWord 2 "readWord" mi_X7_readWord [] := ⟨(rows_ok mr_X7_readWord).1, fld_ok (wG_of [105, 107] (by decide +kernel) (by decide +kernel)) (by decide +kernel), mth_ok (List.forall_mem_cons.mpr ⟨m_0 cal_X7_signAt (wG_t4 50 (by decide +kernel) rfl), List.forall_mem_cons.mpr ⟨m_3 cal_X8_isLetter (by decide +kernel), List.forall_mem_cons.mpr ⟨m_0 cal_X6_beginWord (wG_t4 84 (by decide +kernel) rfl), List.forall_mem_cons.mpr ⟨m_0 cal_X6_lengthenWord (wG_t4 88 (by decide +kernel) rfl), List.forall_mem_nil _⟩⟩⟩⟩), thr_ok (by intro q h; cases h), cls_ok (by intro q h; cases h), c32_ok (by intro q h; cases h), c64_ok (by intro q h; cases h), an_ok 0 (by decide +kernel) (fun h => absurd rfl h) (fun _ => by decide +kernel), (rows_ok mr_X7_readWord).2, rfl, hnd_0⟩
set_option maxRecDepth 20000 in
theorem ms_X7_readWord : MStat 88 := ⟨mo_X7_readWord, by decide +kernel, ret_ok (by decide +kernel)⟩
set_option maxRecDepth 20000 in
theorem mr_X7_readLine : rowsC RX7 cX7_readLine 2 "readLine" mi_X7_readLine = true := by decide +kernel
set_option maxRecDepth 20000 in
theorem mo_X7_readLine : MOk RX7 cX7_readLine 2 "readLine" mi_X7_readLine [] := ⟨(rows_ok mr_X7_readLine).1, fld_ok (wG_of [105, 107] (by decide +kernel) (by decide +kernel)) (by decide +kernel), mth_ok (List.forall_mem_cons.mpr ⟨m_0 cal_X7_signAt (wG_t4 50 (by decide +kernel) rfl), List.forall_mem_cons.mpr ⟨m_3 cal_X8_isLetter (by decide +kernel), List.forall_mem_cons.mpr ⟨m_0 cal_X6_lengthenLine (wG_t4 96 (by decide +kernel) rfl), List.forall_mem_nil _⟩⟩⟩), thr_ok (by intro q h; cases h), cls_ok (by intro q h; cases h), c32_ok (by intro q h; cases h), c64_ok (by intro q h; cases h), an_ok 0 (by decide +kernel) (fun h => absurd rfl h) (fun _ => by decide +kernel), (rows_ok mr_X7_readLine).2, rfl, hnd_0⟩
set_option maxRecDepth 20000 in
theorem ms_X7_readLine : MStat 89 := ⟨mo_X7_readLine, by decide +kernel, ret_ok (by decide +kernel)⟩
set_option maxRecDepth 20000 in
theorem mr_X8_init : rowsC RX8 cX8_init 1 "<init>" mi_X8_init = true := by decide +kernel
set_option maxRecDepth 20000 in
theorem mo_X8_init : MOk RX8 cX8_init 1 "<init>" mi_X8_init [] := ⟨(rows_ok mr_X8_init).1, fld_ok (wG_of [271, 272, 273, 274, 275, 276] (by decide +kernel) (by decide +kernel)) (by decide +kernel), mth_ok (List.forall_mem_cons.mpr ⟨⟨wG_t1 24 (by decide +kernel) rfl, wG_t1 25 (by decide +kernel) rfl, wG_t1 26 rfl rfl⟩, List.forall_mem_cons.mpr ⟨m_4 cal_X7_init (by decide +kernel), List.forall_mem_cons.mpr ⟨m_2 cal_X4_init (wG_t1 100 (by decide +kernel) rfl), List.forall_mem_cons.mpr ⟨m_2 cal_X3_init (wG_t1 180 (by decide +kernel) rfl), List.forall_mem_cons.mpr ⟨m_4 cal_X2_init (by decide +kernel), List.forall_mem_cons.mpr ⟨m_4 cal_X1_init (by decide +kernel), List.forall_mem_nil _⟩⟩⟩⟩⟩⟩), thr_ok (by intro q h; cases h), cls_ok (List.forall_mem_cons.mpr ⟨⟨_, rfl, wG_t1 27 (by decide +kernel) rfl, wG_t1 28 (by decide +kernel) rfl, wG_t1 2 (by decide +kernel) rfl⟩, List.forall_mem_cons.mpr ⟨⟨_, rfl, wG_t1 98 (by decide +kernel) rfl, wG_t1 99 (by decide +kernel) rfl, wG_t1 4 (by decide +kernel) rfl⟩, List.forall_mem_cons.mpr ⟨⟨_, rfl, wG_t1 178 (by decide +kernel) rfl, wG_t1 179 (by decide +kernel) rfl, wG_t1 6 (by decide +kernel) rfl⟩, List.forall_mem_cons.mpr ⟨⟨_, rfl, wG_t1 204 (by decide +kernel) rfl, wG_t1 205 (by decide +kernel) rfl, wG_t1 7 (by decide +kernel) rfl⟩, List.forall_mem_cons.mpr ⟨⟨_, rfl, wG_t1 232 (by decide +kernel) rfl, wG_t1 233 (by decide +kernel) rfl, wG_t1 8 (by decide +kernel) rfl⟩, List.forall_mem_nil _⟩⟩⟩⟩⟩), c32_ok (by intro q h; cases h), c64_ok (by intro q h; cases h), an_ok 0 (by decide +kernel) (fun h => absurd rfl h) (fun _ => by decide +kernel), (rows_ok mr_X8_init).2, rfl, hnd_0⟩
set_option maxRecDepth 20000 in
theorem ms_X8_init : MStat 90 := ⟨mo_X8_init, by decide +kernel, ret_ok (by decide +kernel)⟩
set_option maxRecDepth 20000 in
theorem mr_X8_append : rowsC RX8 cX8_append 2 "append" mi_X8_append = true := by decide +kernel
set_option maxRecDepth 20000 in
theorem mo_X8_append : MOk RX8 cX8_append 2 "append" mi_X8_append [] := ⟨(rows_ok mr_X8_append).1, fld_ok (wG_of [271] (by decide +kernel) (by decide +kernel)) (by decide +kernel), mth_ok (List.forall_mem_cons.mpr ⟨m_0 cal_X7_isFull (wG_t4 29 (by decide +kernel) rfl), List.forall_mem_cons.mpr ⟨m_0 cal_X7_add (wG_t4 34 (by decide +kernel) rfl), List.forall_mem_nil _⟩⟩), thr_ok (List.forall_mem_cons.mpr ⟨⟨rfl, by decide +kernel, 47, 49, 51, "no character code", by decide +kernel, by decide +kernel, Or.inl ⟨by decide +kernel, by decide +kernel, by decide +kernel⟩, wG_t2 61 (by decide +kernel) rfl, wG_t1 12 (by decide +kernel) rfl, by decide +kernel, at_0, an_0, by decide +kernel, by decide +kernel, by decide +kernel⟩, List.forall_mem_cons.mpr ⟨⟨rfl, by decide +kernel, 58, 60, 62, "the text is full", by decide +kernel, by decide +kernel, Or.inl ⟨by decide +kernel, by decide +kernel, by decide +kernel⟩, wG_t3 63 (by decide +kernel) rfl, wG_t1 13 (by decide +kernel) rfl, by decide +kernel, at_1, an_1, by decide +kernel, by decide +kernel, by decide +kernel⟩, List.forall_mem_nil _⟩⟩), cls_ok (by intro q h; cases h), c32_ok (by intro q h; cases h), c64_ok (by intro q h; cases h), an_ok 0 (by decide +kernel) (fun h => absurd rfl h) (fun _ => by decide +kernel), (rows_ok mr_X8_append).2, rfl, hnd_0⟩
set_option maxRecDepth 20000 in
theorem ms_X8_append : MStat 91 := ⟨mo_X8_append, by decide +kernel, ret_ok (by decide +kernel)⟩
set_option maxRecDepth 20000 in
theorem mr_X8_errorPosition : rowsC RX8 cX8_errorPosition 1 "errorPosition" mi_X8_errorPosition = true := by decide +kernel
set_option maxRecDepth 20000 in
theorem mo_X8_errorPosition : MOk RX8 cX8_errorPosition 1 "errorPosition" mi_X8_errorPosition [] := ⟨(rows_ok mr_X8_errorPosition).1, fld_ok (wG_of [271] (by decide +kernel) (by decide +kernel)) (by decide +kernel), mth_ok (List.forall_mem_cons.mpr ⟨m_0 cal_X7_readGrid (wG_t4 42 (by decide +kernel) rfl), List.forall_mem_nil _⟩), thr_ok (by intro q h; cases h), cls_ok (by intro q h; cases h), c32_ok (by intro q h; cases h), c64_ok (by intro q h; cases h), an_ok 0 (by decide +kernel) (fun h => absurd rfl h) (fun _ => by decide +kernel), (rows_ok mr_X8_errorPosition).2, rfl, hnd_0⟩
set_option maxRecDepth 20000 in
theorem ms_X8_errorPosition : MStat 93 := ⟨mo_X8_errorPosition, by decide +kernel, ret_ok (by decide +kernel)⟩
set_option maxRecDepth 20000 in
theorem mr_X8_load : rowsC RX8 cX8_load 1 "load" mi_X8_load = true := by decide +kernel
set_option maxRecDepth 20000 in
theorem mo_X8_load : MOk RX8 cX8_load 1 "load" mi_X8_load [] := ⟨(rows_ok mr_X8_load).1, fld_ok (wG_of [271, 272, 274, 106, 161] (by decide +kernel) (by decide +kernel)) (by decide +kernel), mth_ok (List.forall_mem_cons.mpr ⟨m_0 cal_X7_readGrid (wG_t4 42 (by decide +kernel) rfl), List.forall_mem_cons.mpr ⟨m_0 cal_X4_take (wG_t3 83 (by decide +kernel) rfl), List.forall_mem_cons.mpr ⟨m_0 cal_X3_forgetActions (wG_t4 105 (by decide +kernel) rfl), List.forall_mem_cons.mpr ⟨m_0 cal_X3_emptySlots (wG_t4 109 (by decide +kernel) rfl), List.forall_mem_cons.mpr ⟨m_0 cal_X6_cells (wG_t3 158 (by decide +kernel) rfl), List.forall_mem_nil _⟩⟩⟩⟩⟩), thr_ok (List.forall_mem_cons.mpr ⟨⟨rfl, by decide +kernel, 58, 74, 62, "the text is not a grid", by decide +kernel, by decide +kernel, Or.inl ⟨by decide +kernel, by decide +kernel, by decide +kernel⟩, wG_t3 63 (by decide +kernel) rfl, wG_t1 13 (by decide +kernel) rfl, by decide +kernel, at_1, an_1, by decide +kernel, by decide +kernel, by decide +kernel⟩, List.forall_mem_nil _⟩), cls_ok (by intro q h; cases h), c32_ok (by intro q h; cases h), c64_ok (by intro q h; cases h), an_ok 0 (by decide +kernel) (fun h => absurd rfl h) (fun _ => by decide +kernel), (rows_ok mr_X8_load).2, rfl, hnd_0⟩
set_option maxRecDepth 20000 in
theorem ms_X8_load : MStat 94 := ⟨mo_X8_load, by decide +kernel, ret_ok (by decide +kernel)⟩
set_option maxRecDepth 20000 in
theorem mr_X8_about : rowsC RX8 cX8_about 2 "about" mi_X8_about = true := by decide +kernel
set_option maxRecDepth 20000 in
theorem mo_X8_about : MOk RX8 cX8_about 2 "about" mi_X8_about [] := ⟨(rows_ok mr_X8_about).1, fld_ok (wG_of [272, 161, 61, 66, 165, 167, 69, 74, 169] (by decide +kernel) (by decide +kernel)) (by decide +kernel), mth_ok (List.forall_mem_cons.mpr ⟨m_0 cal_X4_cellsInEntries (wG_t2 34 (by decide +kernel) rfl), List.forall_mem_cons.mpr ⟨m_0 cal_X6_emptyCells (wG_t2 42 (by decide +kernel) rfl), List.forall_mem_cons.mpr ⟨m_0 cal_X6_barCount (wG_t2 51 (by decide +kernel) rfl), List.forall_mem_nil _⟩⟩⟩), thr_ok (List.forall_mem_cons.mpr ⟨⟨rfl, by decide +kernel, 47, 129, 51, "what is not 0 to 10", by decide +kernel, by decide +kernel, Or.inl ⟨by decide +kernel, by decide +kernel, by decide +kernel⟩, wG_t2 61 (by decide +kernel) rfl, wG_t1 12 (by decide +kernel) rfl, by decide +kernel, at_0, an_0, by decide +kernel, by decide +kernel, by decide +kernel⟩, List.forall_mem_nil _⟩), cls_ok (by intro q h; cases h), c32_ok (by intro q h; cases h), c64_ok (by intro q h; cases h), an_ok 0 (by decide +kernel) (fun h => absurd rfl h) (fun _ => by decide +kernel), (rows_ok mr_X8_about).2, rfl, hnd_0⟩
set_option maxRecDepth 20000 in
theorem ms_X8_about : MStat 95 := ⟨mo_X8_about, by decide +kernel, ret_ok (by decide +kernel)⟩
set_option maxRecDepth 20000 in
theorem mr_X8_cell : rowsC RX8 cX8_cell 3 "cell" mi_X8_cell = true := by decide +kernel
set_option maxRecDepth 20000 in
theorem mo_X8_cell : MOk RX8 cX8_cell 3 "cell" mi_X8_cell [] := ⟨(rows_ok mr_X8_cell).1, fld_ok (wG_of [272, 161] (by decide +kernel) (by decide +kernel)) (by decide +kernel), mth_ok (List.forall_mem_cons.mpr ⟨m_0 cal_X8_requireCell (wG_t2 237 (by decide +kernel) rfl), List.forall_mem_cons.mpr ⟨m_0 cal_X6_letterAt (wG_t3 38 (by decide +kernel) rfl), List.forall_mem_cons.mpr ⟨m_0 cal_X6_hasBar (wG_t3 159 (by decide +kernel) rfl), List.forall_mem_cons.mpr ⟨m_0 cal_X4_entryAt (wG_t3 203 (by decide +kernel) rfl), List.forall_mem_cons.mpr ⟨m_0 cal_X4_entriesAt (wG_t3 204 (by decide +kernel) rfl), List.forall_mem_cons.mpr ⟨m_0 cal_X4_clueAt (wG_t3 205 (by decide +kernel) rfl), List.forall_mem_nil _⟩⟩⟩⟩⟩⟩), thr_ok (List.forall_mem_cons.mpr ⟨⟨rfl, by decide +kernel, 47, 152, 51, "what is not 0 to 6", by decide +kernel, by decide +kernel, Or.inl ⟨by decide +kernel, by decide +kernel, by decide +kernel⟩, wG_t2 61 (by decide +kernel) rfl, wG_t1 12 (by decide +kernel) rfl, by decide +kernel, at_0, an_0, by decide +kernel, by decide +kernel, by decide +kernel⟩, List.forall_mem_nil _⟩), cls_ok (by intro q h; cases h), c32_ok (by intro q h; cases h), c64_ok (by intro q h; cases h), an_ok 0 (by decide +kernel) (fun h => absurd rfl h) (fun _ => by decide +kernel), (rows_ok mr_X8_cell).2, rfl, hnd_0⟩
set_option maxRecDepth 20000 in
theorem ms_X8_cell : MStat 96 := ⟨mo_X8_cell, by decide +kernel, ret_ok (by decide +kernel)⟩
set_option maxRecDepth 20000 in
theorem mr_X8_entry : rowsC RX8 cX8_entry 3 "entry" mi_X8_entry = true := by decide +kernel
set_option maxRecDepth 20000 in
theorem mo_X8_entry : MOk RX8 cX8_entry 3 "entry" mi_X8_entry [] := ⟨(rows_ok mr_X8_entry).1, fld_ok (wG_of [272] (by decide +kernel) (by decide +kernel)) (by decide +kernel), mth_ok (List.forall_mem_cons.mpr ⟨m_0 cal_X4_clueAt (wG_t3 205 (by decide +kernel) rfl), List.forall_mem_cons.mpr ⟨m_0 cal_X8_requireEntry (wG_t3 223 (by decide +kernel) rfl), List.forall_mem_cons.mpr ⟨m_0 cal_X4_cellOf (wG_t3 229 (by decide +kernel) rfl), List.forall_mem_cons.mpr ⟨m_0 cal_X4_isDown (wG_t3 230 (by decide +kernel) rfl), List.forall_mem_cons.mpr ⟨m_0 cal_X4_lengthOf (wG_t3 231 (by decide +kernel) rfl), List.forall_mem_cons.mpr ⟨m_0 cal_X4_uncheckedIn (wG_t3 232 (by decide +kernel) rfl), List.forall_mem_cons.mpr ⟨m_0 cal_X4_emptyIn (wG_t3 233 (by decide +kernel) rfl), List.forall_mem_cons.mpr ⟨m_0 cal_X4_wordIn (wG_t3 237 (by decide +kernel) rfl), List.forall_mem_nil _⟩⟩⟩⟩⟩⟩⟩⟩), thr_ok (List.forall_mem_cons.mpr ⟨⟨rfl, by decide +kernel, 47, 152, 51, "what is not 0 to 6", by decide +kernel, by decide +kernel, Or.inl ⟨by decide +kernel, by decide +kernel, by decide +kernel⟩, wG_t2 61 (by decide +kernel) rfl, wG_t1 12 (by decide +kernel) rfl, by decide +kernel, at_0, an_0, by decide +kernel, by decide +kernel, by decide +kernel⟩, List.forall_mem_nil _⟩), cls_ok (by intro q h; cases h), c32_ok (by intro q h; cases h), c64_ok (by intro q h; cases h), an_ok 0 (by decide +kernel) (fun h => absurd rfl h) (fun _ => by decide +kernel), (rows_ok mr_X8_entry).2, rfl, hnd_0⟩
set_option maxRecDepth 20000 in
theorem ms_X8_entry : MStat 97 := ⟨mo_X8_entry, by decide +kernel, ret_ok (by decide +kernel)⟩
set_option maxRecDepth 20000 in
theorem mr_X8_fits : rowsC RX8 cX8_fits 2 "fits" mi_X8_fits = true := by decide +kernel
set_option maxRecDepth 20000 in
theorem mo_X8_fits : MOk RX8 cX8_fits 2 "fits" mi_X8_fits [] := ⟨(rows_ok mr_X8_fits).1, fld_ok (wG_of [272] (by decide +kernel) (by decide +kernel)) (by decide +kernel), mth_ok (List.forall_mem_cons.mpr ⟨m_0 cal_X8_requireEntry (wG_t3 223 (by decide +kernel) rfl), List.forall_mem_cons.mpr ⟨m_0 cal_X4_fitCount (wG_t4 7 (by decide +kernel) rfl), List.forall_mem_nil _⟩⟩), thr_ok (by intro q h; cases h), cls_ok (by intro q h; cases h), c32_ok (by intro q h; cases h), c64_ok (by intro q h; cases h), an_ok 0 (by decide +kernel) (fun h => absurd rfl h) (fun _ => by decide +kernel), (rows_ok mr_X8_fits).2, rfl, hnd_0⟩
set_option maxRecDepth 20000 in
theorem ms_X8_fits : MStat 99 := ⟨mo_X8_fits, by decide +kernel, ret_ok (by decide +kernel)⟩
set_option maxRecDepth 20000 in
theorem mr_X8_rule : rowsC RX8 cX8_rule 2 "rule" mi_X8_rule = true := by decide +kernel
set_option maxRecDepth 20000 in
theorem mo_X8_rule : MOk RX8 cX8_rule 2 "rule" mi_X8_rule [] := ⟨(rows_ok mr_X8_rule).1, fld_ok (wG_of [272] (by decide +kernel) (by decide +kernel)) (by decide +kernel), mth_ok (List.forall_mem_cons.mpr ⟨m_1 cal_X5_areKept (wG_t2 134 (by decide +kernel) rfl), List.forall_mem_nil _⟩), thr_ok (List.forall_mem_cons.mpr ⟨⟨rfl, by decide +kernel, 47, 188, 51, "no such rule", by decide +kernel, by decide +kernel, Or.inl ⟨by decide +kernel, by decide +kernel, by decide +kernel⟩, wG_t2 61 (by decide +kernel) rfl, wG_t1 12 (by decide +kernel) rfl, by decide +kernel, at_0, an_0, by decide +kernel, by decide +kernel, by decide +kernel⟩, List.forall_mem_nil _⟩), cls_ok (by intro q h; cases h), c32_ok (by intro q h; cases h), c64_ok (by intro q h; cases h), an_ok 0 (by decide +kernel) (fun h => absurd rfl h) (fun _ => by decide +kernel), (rows_ok mr_X8_rule).2, rfl, hnd_0⟩
set_option maxRecDepth 20000 in
theorem ms_X8_rule : MStat 100 := ⟨mo_X8_rule, by decide +kernel, ret_ok (by decide +kernel)⟩
set_option maxRecDepth 20000 in
theorem mr_X8_readings : rowsC RX8 cX8_readings 1 "readings" mi_X8_readings = true := by decide +kernel
set_option maxRecDepth 20000 in
theorem mo_X8_readings : MOk RX8 cX8_readings 1 "readings" mi_X8_readings [] := ⟨(rows_ok mr_X8_readings).1, fld_ok (wG_of [272, 275] (by decide +kernel) (by decide +kernel)) (by decide +kernel), mth_ok (List.forall_mem_cons.mpr ⟨m_0 cal_X2_count (wG_t2 181 (by decide +kernel) rfl), List.forall_mem_nil _⟩), thr_ok (by intro q h; cases h), cls_ok (by intro q h; cases h), c32_ok (List.forall_mem_cons.mpr ⟨Or.inl ⟨2147483647, by decide +kernel, wG_t2 180 (by decide +kernel) rfl⟩, List.forall_mem_nil _⟩), c64_ok (List.forall_mem_cons.mpr ⟨Or.inr (by decide +kernel), List.forall_mem_nil _⟩), an_ok 0 (by decide +kernel) (fun h => absurd rfl h) (fun _ => by decide +kernel), (rows_ok mr_X8_readings).2, rfl, hnd_0⟩
set_option maxRecDepth 20000 in
theorem ms_X8_readings : MStat 101 := ⟨mo_X8_readings, by decide +kernel, ret_ok (by decide +kernel)⟩
set_option maxRecDepth 20000 in
theorem mr_X8_reading : rowsC RX8 cX8_reading 3 "reading" mi_X8_reading = true := by decide +kernel
set_option maxRecDepth 20000 in
theorem mo_X8_reading : MOk RX8 cX8_reading 3 "reading" mi_X8_reading [] := ⟨(rows_ok mr_X8_reading).1, fld_ok (wG_of [272, 275] (by decide +kernel) (by decide +kernel)) (by decide +kernel), mth_ok (List.forall_mem_cons.mpr ⟨m_0 cal_X2_count (wG_t2 181 (by decide +kernel) rfl), List.forall_mem_cons.mpr ⟨m_0 cal_X2_cellOfFirst (wG_t2 229 (by decide +kernel) rfl), List.forall_mem_nil _⟩⟩), thr_ok (List.forall_mem_cons.mpr ⟨⟨rfl, by decide +kernel, 47, 201, 51, "no such cell of a reading", by decide +kernel, by decide +kernel, Or.inl ⟨by decide +kernel, by decide +kernel, by decide +kernel⟩, wG_t2 61 (by decide +kernel) rfl, wG_t1 12 (by decide +kernel) rfl, by decide +kernel, at_0, an_0, by decide +kernel, by decide +kernel, by decide +kernel⟩, List.forall_mem_nil _⟩), cls_ok (by intro q h; cases h), c32_ok (by intro q h; cases h), c64_ok (by intro q h; cases h), an_ok 0 (by decide +kernel) (fun h => absurd rfl h) (fun _ => by decide +kernel), (rows_ok mr_X8_reading).2, rfl, hnd_0⟩
set_option maxRecDepth 20000 in
theorem ms_X8_reading : MStat 102 := ⟨mo_X8_reading, by decide +kernel, ret_ok (by decide +kernel)⟩
set_option maxRecDepth 20000 in
theorem mr_X8_put : rowsC RX8 cX8_put 4 "put" mi_X8_put = true := by decide +kernel
set_option maxRecDepth 20000 in
theorem mo_X8_put : MOk RX8 cX8_put 4 "put" mi_X8_put [] := ⟨(rows_ok mr_X8_put).1, fld_ok (wG_of [272, 274, 161] (by decide +kernel) (by decide +kernel)) (by decide +kernel), mth_ok (List.forall_mem_cons.mpr ⟨m_0 cal_X8_requireCell (wG_t2 237 (by decide +kernel) rfl), List.forall_mem_cons.mpr ⟨m_0 cal_X6_letterAt (wG_t3 38 (by decide +kernel) rfl), List.forall_mem_cons.mpr ⟨m_1 cal_X8_isLetter (wG_t3 18 (by decide +kernel) rfl), List.forall_mem_cons.mpr ⟨m_0 cal_X3_remember (wG_t3 22 (by decide +kernel) rfl), List.forall_mem_cons.mpr ⟨m_0 cal_X6_setLetter (wG_t3 39 (by decide +kernel) rfl), List.forall_mem_nil _⟩⟩⟩⟩⟩), thr_ok (List.forall_mem_cons.mpr ⟨⟨rfl, by decide +kernel, 47, 209, 51, "neither a letter nor 0", by decide +kernel, by decide +kernel, Or.inl ⟨by decide +kernel, by decide +kernel, by decide +kernel⟩, wG_t2 61 (by decide +kernel) rfl, wG_t1 12 (by decide +kernel) rfl, by decide +kernel, at_0, an_0, by decide +kernel, by decide +kernel, by decide +kernel⟩, List.forall_mem_nil _⟩), cls_ok (by intro q h; cases h), c32_ok (by intro q h; cases h), c64_ok (by intro q h; cases h), an_ok 0 (by decide +kernel) (fun h => absurd rfl h) (fun _ => by decide +kernel), (rows_ok mr_X8_put).2, rfl, hnd_0⟩
set_option maxRecDepth 20000 in
theorem ms_X8_put : MStat 103 := ⟨mo_X8_put, by decide +kernel, ret_ok (by decide +kernel)⟩
set_option maxRecDepth 20000 in
theorem mr_X8_setBar : rowsC RX8 cX8_setBar 4 "setBar" mi_X8_setBar = true := by decide +kernel
set_option maxRecDepth 20000 in
theorem mo_X8_setBar : MOk RX8 cX8_setBar 4 "setBar" mi_X8_setBar [] := ⟨(rows_ok mr_X8_setBar).1, fld_ok (wG_of [272, 274, 161, 165] (by decide +kernel) (by decide +kernel)) (by decide +kernel), mth_ok (List.forall_mem_cons.mpr ⟨m_0 cal_X8_requireCell (wG_t2 237 (by decide +kernel) rfl), List.forall_mem_cons.mpr ⟨m_0 cal_X3_remember (wG_t3 22 (by decide +kernel) rfl), List.forall_mem_cons.mpr ⟨m_0 cal_X6_isPlace (wG_t3 47 (by decide +kernel) rfl), List.forall_mem_cons.mpr ⟨m_0 cal_X4_changeBar (wG_t3 49 (by decide +kernel) rfl), List.forall_mem_nil _⟩⟩⟩⟩), thr_ok (List.forall_mem_cons.mpr ⟨⟨rfl, by decide +kernel, 47, 221, 51, "there is the rim", by decide +kernel, by decide +kernel, Or.inl ⟨by decide +kernel, by decide +kernel, by decide +kernel⟩, wG_t2 61 (by decide +kernel) rfl, wG_t1 12 (by decide +kernel) rfl, by decide +kernel, at_0, an_0, by decide +kernel, by decide +kernel, by decide +kernel⟩, List.forall_mem_nil _⟩), cls_ok (by intro q h; cases h), c32_ok (by intro q h; cases h), c64_ok (by intro q h; cases h), an_ok 0 (by decide +kernel) (fun h => absurd rfl h) (fun _ => by decide +kernel), (rows_ok mr_X8_setBar).2, rfl, hnd_0⟩
set_option maxRecDepth 20000 in
theorem ms_X8_setBar : MStat 104 := ⟨mo_X8_setBar, by decide +kernel, ret_ok (by decide +kernel)⟩
set_option maxRecDepth 20000 in
theorem mr_X8_undo : rowsC RX8 cX8_undo 1 "undo" mi_X8_undo = true := by decide +kernel
set_option maxRecDepth 20000 in
theorem mo_X8_undo : MOk RX8 cX8_undo 1 "undo" mi_X8_undo [] := ⟨(rows_ok mr_X8_undo).1, fld_ok (wG_of [272, 274, 208] (by decide +kernel) (by decide +kernel)) (by decide +kernel), mth_ok (List.forall_mem_cons.mpr ⟨m_0 cal_X4_take (wG_t3 83 (by decide +kernel) rfl), List.forall_mem_cons.mpr ⟨m_0 cal_X3_takeLast (wG_t3 79 (by decide +kernel) rfl), List.forall_mem_nil _⟩⟩), thr_ok (List.forall_mem_cons.mpr ⟨⟨rfl, by decide +kernel, 58, 264, 62, "no state is remembered", by decide +kernel, by decide +kernel, Or.inr ⟨by decide +kernel, by decide +kernel, by decide +kernel⟩, wG_t3 63 (by decide +kernel) rfl, wG_t1 13 (by decide +kernel) rfl, by decide +kernel, at_1, an_1, by decide +kernel, by decide +kernel, by decide +kernel⟩, List.forall_mem_nil _⟩), cls_ok (by intro q h; cases h), c32_ok (by intro q h; cases h), c64_ok (by intro q h; cases h), an_ok 0 (by decide +kernel) (fun h => absurd rfl h) (fun _ => by decide +kernel), (rows_ok mr_X8_undo).2, rfl, hnd_0⟩
set_option maxRecDepth 20000 in
theorem ms_X8_undo : MStat 109 := ⟨mo_X8_undo, by decide +kernel, ret_ok (by decide +kernel)⟩
set_option maxRecDepth 20000 in
theorem mr_X8_possible : rowsC RX8 cX8_possible 1 "possible" mi_X8_possible = true := by decide +kernel
set_option maxRecDepth 20000 in
theorem mo_X8_possible : MOk RX8 cX8_possible 1 "possible" mi_X8_possible [] := ⟨(rows_ok mr_X8_possible).1, fld_ok (wG_of [272, 275] (by decide +kernel) (by decide +kernel)) (by decide +kernel), mth_ok (List.forall_mem_cons.mpr ⟨m_0 cal_X2_count (wG_t2 181 (by decide +kernel) rfl), List.forall_mem_nil _⟩), thr_ok (by intro q h; cases h), cls_ok (by intro q h; cases h), c32_ok (by intro q h; cases h), c64_ok (by intro q h; cases h), an_ok 0 (by decide +kernel) (fun h => absurd rfl h) (fun _ => by decide +kernel), (rows_ok mr_X8_possible).2, rfl, hnd_0⟩
set_option maxRecDepth 20000 in
theorem ms_X8_possible : MStat 110 := ⟨mo_X8_possible, by decide +kernel, ret_ok (by decide +kernel)⟩
set_option maxRecDepth 20000 in
theorem mr_X8_fillings : rowsC RX8 cX8_fillings 1 "fillings" mi_X8_fillings = true := by decide +kernel
set_option maxRecDepth 20000 in
theorem mo_X8_fillings : MOk RX8 cX8_fillings 1 "fillings" mi_X8_fillings [] := ⟨(rows_ok mr_X8_fillings).1, fld_ok (wG_of [272, 276] (by decide +kernel) (by decide +kernel)) (by decide +kernel), mth_ok (List.forall_mem_cons.mpr ⟨m_0 cal_X1_count (wG_t3 96 (by decide +kernel) rfl), List.forall_mem_nil _⟩), thr_ok (by intro q h; cases h), cls_ok (by intro q h; cases h), c32_ok (by intro q h; cases h), c64_ok (by intro q h; cases h), an_ok 0 (by decide +kernel) (fun h => absurd rfl h) (fun _ => by decide +kernel), (rows_ok mr_X8_fillings).2, rfl, hnd_0⟩
set_option maxRecDepth 20000 in
theorem ms_X8_fillings : MStat 111 := ⟨mo_X8_fillings, by decide +kernel, ret_ok (by decide +kernel)⟩
set_option maxRecDepth 20000 in
theorem mr_X8_mend : rowsC RX8 cX8_mend 9 "mend" mi_X8_mend = true := by decide +kernel
set_option maxRecDepth 20000 in
theorem mo_X8_mend : MOk RX8 cX8_mend 9 "mend" mi_X8_mend [] := ⟨(rows_ok mr_X8_mend).1, fld_ok (wG_of [272, 273, 161] (by decide +kernel) (by decide +kernel)) (by decide +kernel), mth_ok (List.forall_mem_cons.mpr ⟨m_0 cal_X4_take (wG_t3 83 (by decide +kernel) rfl), List.forall_mem_cons.mpr ⟨m_0 cal_X6_cells (wG_t3 158 (by decide +kernel) rfl), List.forall_mem_cons.mpr ⟨m_0 cal_X6_hasBar (wG_t3 159 (by decide +kernel) rfl), List.forall_mem_cons.mpr ⟨m_0 cal_X6_isPlace (wG_t3 47 (by decide +kernel) rfl), List.forall_mem_cons.mpr ⟨m_0 cal_X4_changeBar (wG_t3 49 (by decide +kernel) rfl), List.forall_mem_cons.mpr ⟨m_1 cal_X5_countKept (wG_t3 154 (by decide +kernel) rfl), List.forall_mem_nil _⟩⟩⟩⟩⟩⟩), thr_ok (by intro q h; cases h), cls_ok (by intro q h; cases h), c32_ok (by intro q h; cases h), c64_ok (by intro q h; cases h), an_ok 0 (by decide +kernel) (fun h => absurd rfl h) (fun _ => by decide +kernel), (rows_ok mr_X8_mend).2, rfl, hnd_0⟩
set_option maxRecDepth 20000 in
theorem ms_X8_mend : MStat 112 := ⟨mo_X8_mend, by decide +kernel, ret_ok (by decide +kernel)⟩
set_option maxRecDepth 20000 in
theorem mr_X8_hardest : rowsC RX8 cX8_hardest 5 "hardest" mi_X8_hardest = true := by decide +kernel
set_option maxRecDepth 20000 in
theorem mo_X8_hardest : MOk RX8 cX8_hardest 5 "hardest" mi_X8_hardest [] := ⟨(rows_ok mr_X8_hardest).1, fld_ok (wG_of [272, 165] (by decide +kernel) (by decide +kernel)) (by decide +kernel), mth_ok (List.forall_mem_cons.mpr ⟨m_0 cal_X4_emptyIn (wG_t3 233 (by decide +kernel) rfl), List.forall_mem_cons.mpr ⟨m_0 cal_X4_fitCount (wG_t4 7 (by decide +kernel) rfl), List.forall_mem_nil _⟩⟩), thr_ok (by intro q h; cases h), cls_ok (by intro q h; cases h), c32_ok (by intro q h; cases h), c64_ok (by intro q h; cases h), an_ok 0 (by decide +kernel) (fun h => absurd rfl h) (fun _ => by decide +kernel), (rows_ok mr_X8_hardest).2, rfl, hnd_0⟩
set_option maxRecDepth 20000 in
theorem ms_X8_hardest : MStat 113 := ⟨mo_X8_hardest, by decide +kernel, ret_ok (by decide +kernel)⟩
set_option maxRecDepth 20000 in
theorem mr_X8_requireCell : rowsC RX8 cX8_requireCell 2 "requireCell" mi_X8_requireCell = true := by decide +kernel
set_option maxRecDepth 20000 in
theorem mo_X8_requireCell : MOk RX8 cX8_requireCell 2 "requireCell" mi_X8_requireCell [] := ⟨(rows_ok mr_X8_requireCell).1, fld_ok (wG_of [272, 161] (by decide +kernel) (by decide +kernel)) (by decide +kernel), mth_ok (List.forall_mem_cons.mpr ⟨m_0 cal_X6_hasCell (wG_t3 1 (by decide +kernel) rfl), List.forall_mem_nil _⟩), thr_ok (List.forall_mem_cons.mpr ⟨⟨rfl, by decide +kernel, 318, 320, 322, "no such cell", by decide +kernel, by decide +kernel, Or.inr ⟨by decide +kernel, by decide +kernel, by decide +kernel⟩, wG_t3 2 (by decide +kernel) rfl, wG_t1 16 (by decide +kernel) rfl, by decide +kernel, at_2, an_2, by decide +kernel, by decide +kernel, by decide +kernel⟩, List.forall_mem_nil _⟩), cls_ok (by intro q h; cases h), c32_ok (by intro q h; cases h), c64_ok (by intro q h; cases h), an_ok 0 (by decide +kernel) (fun h => absurd rfl h) (fun _ => by decide +kernel), (rows_ok mr_X8_requireCell).2, rfl, hnd_0⟩
set_option maxRecDepth 20000 in
theorem ms_X8_requireCell : MStat 118 := ⟨mo_X8_requireCell, by decide +kernel, ret_ok (by decide +kernel)⟩
set_option maxRecDepth 20000 in
theorem mr_X8_requireEntry : rowsC RX8 cX8_requireEntry 2 "requireEntry" mi_X8_requireEntry = true := by decide +kernel
set_option maxRecDepth 20000 in
theorem mo_X8_requireEntry : MOk RX8 cX8_requireEntry 2 "requireEntry" mi_X8_requireEntry [] := ⟨(rows_ok mr_X8_requireEntry).1, fld_ok (wG_of [272] (by decide +kernel) (by decide +kernel)) (by decide +kernel), mth_ok (List.forall_mem_cons.mpr ⟨m_0 cal_X4_hasEntry (wG_t3 227 (by decide +kernel) rfl), List.forall_mem_nil _⟩), thr_ok (List.forall_mem_cons.mpr ⟨⟨rfl, by decide +kernel, 318, 326, 322, "no such entry", by decide +kernel, by decide +kernel, Or.inr ⟨by decide +kernel, by decide +kernel, by decide +kernel⟩, wG_t3 2 (by decide +kernel) rfl, wG_t1 16 (by decide +kernel) rfl, by decide +kernel, at_2, an_2, by decide +kernel, by decide +kernel, by decide +kernel⟩, List.forall_mem_nil _⟩), cls_ok (by intro q h; cases h), c32_ok (by intro q h; cases h), c64_ok (by intro q h; cases h), an_ok 0 (by decide +kernel) (fun h => absurd rfl h) (fun _ => by decide +kernel), (rows_ok mr_X8_requireEntry).2, rfl, hnd_0⟩
set_option maxRecDepth 20000 in
theorem ms_X8_requireEntry : MStat 119 := ⟨mo_X8_requireEntry, by decide +kernel, ret_ok (by decide +kernel)⟩
set_option maxRecDepth 20000 in
theorem mr_X8_isLetter : rowsC RX8 cX8_isLetter 1 "isLetter" mi_X8_isLetter = true := by decide +kernel
set_option maxRecDepth 20000 in
theorem mo_X8_isLetter : MOk RX8 cX8_isLetter 1 "isLetter" mi_X8_isLetter [] := ⟨(rows_ok mr_X8_isLetter).1, fld_ok (wG_of [] (by decide +kernel) (by decide +kernel)) (by decide +kernel), mth_ok (by intro q h; cases h), thr_ok (by intro q h; cases h), cls_ok (by intro q h; cases h), c32_ok (by intro q h; cases h), c64_ok (by intro q h; cases h), an_ok 0 (by decide +kernel) (fun h => absurd rfl h) (fun _ => by decide +kernel), (rows_ok mr_X8_isLetter).2, rfl, hnd_0⟩
set_option maxRecDepth 20000 in
theorem ms_X8_isLetter : MStat 122 := ⟨mo_X8_isLetter, by decide +kernel, ret_ok (by decide +kernel)⟩
set_option maxRecDepth 20000 in
theorem mr_J13_bitCount_95d88 : rowsC RJ13 cJ13_bitCount_95d88 2 "bitCount" mi_J13_bitCount_95d88 = true := by decide +kernel
set_option maxRecDepth 20000 in
theorem mo_J13_bitCount_95d88 : MOk RJ13 cJ13_bitCount_95d88 2 "bitCount" mi_J13_bitCount_95d88 [] := ⟨(rows_ok mr_J13_bitCount_95d88).1, fld_ok (wG_of [] (by decide +kernel) (by decide +kernel)) (by decide +kernel), mth_ok (by intro q h; cases h), thr_ok (by intro q h; cases h), cls_ok (by intro q h; cases h), c32_ok (List.forall_mem_cons.mpr ⟨Or.inr (by decide +kernel), List.forall_mem_cons.mpr ⟨Or.inr (by decide +kernel), List.forall_mem_cons.mpr ⟨Or.inr (by decide +kernel), List.forall_mem_nil _⟩⟩⟩), c64_ok (List.forall_mem_cons.mpr ⟨Or.inl (wG_t2 58 (by decide +kernel) rfl), List.forall_mem_cons.mpr ⟨Or.inl (wG_t2 59 (by decide +kernel) rfl), List.forall_mem_cons.mpr ⟨Or.inl (wG_t2 60 (by decide +kernel) rfl), List.forall_mem_nil _⟩⟩⟩), an_ok 0 (by decide +kernel) (fun h => absurd rfl h) (fun _ => by decide +kernel), (rows_ok mr_J13_bitCount_95d88).2, rfl, hnd_0⟩
set_option maxRecDepth 20000 in
theorem ms_J13_bitCount_95d88 : MStat 205 := ⟨mo_J13_bitCount_95d88, by decide +kernel, ret_ok (by decide +kernel)⟩
set_option maxRecDepth 20000 in
theorem mr_J9_floorMod_7cf53 : rowsC RJ9 cJ9_floorMod_7cf53 3 "floorMod" mi_J9_floorMod_7cf53 = true := by decide +kernel
set_option maxRecDepth 20000 in
theorem mo_J9_floorMod_7cf53 : MOk RJ9 cJ9_floorMod_7cf53 3 "floorMod" mi_J9_floorMod_7cf53 [] := ⟨(rows_ok mr_J9_floorMod_7cf53).1, fld_ok (wG_of [] (by decide +kernel) (by decide +kernel)) (by decide +kernel), mth_ok (by intro q h; cases h), thr_ok (by intro q h; cases h), cls_ok (by intro q h; cases h), c32_ok (by intro q h; cases h), c64_ok (by intro q h; cases h), an_ok 0 (by decide +kernel) (fun h => absurd rfl h) (fun _ => by decide +kernel), (rows_ok mr_J9_floorMod_7cf53).2, rfl, hnd_0⟩
set_option maxRecDepth 20000 in
theorem ms_J9_floorMod_7cf53 : MStat 206 := ⟨mo_J9_floorMod_7cf53, by decide +kernel, ret_ok (by decide +kernel)⟩
set_option maxRecDepth 20000 in
theorem mr_J7_fill_53178 : rowsC RJ7 cJ7_fill_53178 4 "fill" mi_J7_fill_53178 = true := by decide +kernel
set_option maxRecDepth 20000 in
theorem mo_J7_fill_53178 : MOk RJ7 cJ7_fill_53178 4 "fill" mi_J7_fill_53178 [] := ⟨(rows_ok mr_J7_fill_53178).1, fld_ok (wG_of [] (by decide +kernel) (by decide +kernel)) (by decide +kernel), mth_ok (by intro q h; cases h), thr_ok (by intro q h; cases h), cls_ok (by intro q h; cases h), c32_ok (by intro q h; cases h), c64_ok (by intro q h; cases h), an_ok 0 (by decide +kernel) (fun h => absurd rfl h) (fun _ => by decide +kernel), (rows_ok mr_J7_fill_53178).2, rfl, hnd_0⟩
set_option maxRecDepth 20000 in
theorem ms_J7_fill_53178 : MStat 207 := ⟨mo_J7_fill_53178, by decide +kernel, ret_ok (by decide +kernel)⟩
set_option maxRecDepth 20000 in
theorem mr_L_cell : rowsC RL cL_cell 2 "cell" mi_L_cell = true := by decide +kernel
set_option maxRecDepth 20000 in
theorem mo_L_cell : MOk RL cL_cell 2 "cell" mi_L_cell [] := ⟨(rows_ok mr_L_cell).1, fld_ok (wG_of [] (by decide +kernel) (by decide +kernel)) (by decide +kernel), mth_ok (by intro q h; cases h), thr_ok (by intro q h; cases h), cls_ok (by intro q h; cases h), c32_ok (List.forall_mem_cons.mpr ⟨Or.inl ⟨625341585, by decide +kernel, wG_t3 163 (by decide +kernel) rfl⟩, List.forall_mem_cons.mpr ⟨Or.inl ⟨1332534557, by decide +kernel, wG_t3 164 (by decide +kernel) rfl⟩, List.forall_mem_nil _⟩⟩), c64_ok (List.forall_mem_cons.mpr ⟨Or.inr (by decide +kernel), List.forall_mem_cons.mpr ⟨Or.inr (by decide +kernel), List.forall_mem_nil _⟩⟩), an_ok 0 (by decide +kernel) (fun h => absurd rfl h) (fun _ => by decide +kernel), (rows_ok mr_L_cell).2, rfl, hnd_0⟩
set_option maxRecDepth 20000 in
theorem ms_L_cell : MStat 230 := ⟨mo_L_cell, by decide +kernel, ret_ok (by decide +kernel)⟩
set_option maxRecDepth 20000 in
theorem mr_L_low : rowsC RL cL_low 2 "low" mi_L_low = true := by decide +kernel
set_option maxRecDepth 20000 in
theorem mo_L_low : MOk RL cL_low 2 "low" mi_L_low [] := ⟨(rows_ok mr_L_low).1, fld_ok (wG_of [] (by decide +kernel) (by decide +kernel)) (by decide +kernel), mth_ok (by intro q h; cases h), thr_ok (by intro q h; cases h), cls_ok (by intro q h; cases h), c32_ok (List.forall_mem_cons.mpr ⟨Or.inl ⟨2147483647, by decide +kernel, wG_t3 168 (by decide +kernel) rfl⟩, List.forall_mem_nil _⟩), c64_ok (List.forall_mem_cons.mpr ⟨Or.inr (by decide +kernel), List.forall_mem_nil _⟩), an_ok 0 (by decide +kernel) (fun h => absurd rfl h) (fun _ => by decide +kernel), (rows_ok mr_L_low).2, rfl, hnd_0⟩
set_option maxRecDepth 20000 in
theorem ms_L_low : MStat 231 := ⟨mo_L_low, by decide +kernel, ret_ok (by decide +kernel)⟩
set_option maxRecDepth 20000 in
theorem mr_L_first : rowsC RL cL_first 4 "first" mi_L_first = true := by decide +kernel
set_option maxRecDepth 20000 in
theorem mo_L_first : MOk RL cL_first 4 "first" mi_L_first [] := ⟨(rows_ok mr_L_first).1, fld_ok (wG_of [] (by decide +kernel) (by decide +kernel)) (by decide +kernel), mth_ok (by intro q h; cases h), thr_ok (by intro q h; cases h), cls_ok (by intro q h; cases h), c32_ok (by intro q h; cases h), c64_ok (by intro q h; cases h), an_ok 0 (by decide +kernel) (fun h => absurd rfl h) (fun _ => by decide +kernel), (rows_ok mr_L_first).2, rfl, hnd_0⟩
set_option maxRecDepth 20000 in
theorem ms_L_first : MStat 232 := ⟨mo_L_first, by decide +kernel, ret_ok (by decide +kernel)⟩
set_option maxRecDepth 20000 in
theorem mr_L_length : rowsC RL cL_length 5 "length" mi_L_length = true := by decide +kernel
set_option maxRecDepth 20000 in
theorem mo_L_length : MOk RL cL_length 5 "length" mi_L_length [] := ⟨(rows_ok mr_L_length).1, fld_ok (wG_of [] (by decide +kernel) (by decide +kernel)) (by decide +kernel), mth_ok (List.forall_mem_cons.mpr ⟨m_1 cal_L_first (wG_t3 178 (by decide +kernel) rfl), List.forall_mem_nil _⟩), thr_ok (by intro q h; cases h), cls_ok (by intro q h; cases h), c32_ok (by intro q h; cases h), c64_ok (by intro q h; cases h), an_ok 0 (by decide +kernel) (fun h => absurd rfl h) (fun _ => by decide +kernel), (rows_ok mr_L_length).2, rfl, hnd_0⟩
set_option maxRecDepth 20000 in
theorem ms_L_length : MStat 233 := ⟨mo_L_length, by decide +kernel, ret_ok (by decide +kernel)⟩
set_option maxRecDepth 20000 in
theorem mr_L_starts : rowsC RL cL_starts 3 "starts" mi_L_starts = true := by decide +kernel
set_option maxRecDepth 20000 in
theorem mo_L_starts : MOk RL cL_starts 3 "starts" mi_L_starts [] := ⟨(rows_ok mr_L_starts).1, fld_ok (wG_of [] (by decide +kernel) (by decide +kernel)) (by decide +kernel), mth_ok (List.forall_mem_cons.mpr ⟨m_1 cal_L_first (wG_t3 178 (by decide +kernel) rfl), List.forall_mem_cons.mpr ⟨m_1 cal_L_length (wG_t3 175 (by decide +kernel) rfl), List.forall_mem_nil _⟩⟩), thr_ok (by intro q h; cases h), cls_ok (by intro q h; cases h), c32_ok (by intro q h; cases h), c64_ok (by intro q h; cases h), an_ok 0 (by decide +kernel) (fun h => absurd rfl h) (fun _ => by decide +kernel), (rows_ok mr_L_starts).2, rfl, hnd_0⟩
set_option maxRecDepth 20000 in
theorem ms_L_starts : MStat 234 := ⟨mo_L_starts, by decide +kernel, ret_ok (by decide +kernel)⟩
set_option maxRecDepth 20000 in
theorem mr_L_in : rowsC RL cL_in 2 "in" mi_L_in = true := by decide +kernel
set_option maxRecDepth 20000 in
theorem mo_L_in : MOk RL cL_in 2 "in" mi_L_in [] := ⟨(rows_ok mr_L_in).1, fld_ok (wG_of [] (by decide +kernel) (by decide +kernel)) (by decide +kernel), mth_ok (List.forall_mem_cons.mpr ⟨m_1 cal_L_length (wG_t3 175 (by decide +kernel) rfl), List.forall_mem_nil _⟩), thr_ok (by intro q h; cases h), cls_ok (by intro q h; cases h), c32_ok (by intro q h; cases h), c64_ok (by intro q h; cases h), an_ok 0 (by decide +kernel) (fun h => absurd rfl h) (fun _ => by decide +kernel), (rows_ok mr_L_in).2, rfl, hnd_0⟩
set_option maxRecDepth 20000 in
theorem ms_L_in : MStat 235 := ⟨mo_L_in, by decide +kernel, ret_ok (by decide +kernel)⟩
set_option maxRecDepth 20000 in
theorem mr_L_entry : rowsC RL cL_entry 6 "entry" mi_L_entry = true := by decide +kernel
set_option maxRecDepth 20000 in
theorem mo_L_entry : MOk RL cL_entry 6 "entry" mi_L_entry [] := ⟨(rows_ok mr_L_entry).1, fld_ok (wG_of [] (by decide +kernel) (by decide +kernel)) (by decide +kernel), mth_ok (List.forall_mem_cons.mpr ⟨m_1 cal_L_first (wG_t3 178 (by decide +kernel) rfl), List.forall_mem_cons.mpr ⟨m_1 cal_L_length (wG_t3 175 (by decide +kernel) rfl), List.forall_mem_cons.mpr ⟨m_1 cal_L_starts (wG_t3 181 (by decide +kernel) rfl), List.forall_mem_nil _⟩⟩⟩), thr_ok (by intro q h; cases h), cls_ok (by intro q h; cases h), c32_ok (by intro q h; cases h), c64_ok (by intro q h; cases h), an_ok 0 (by decide +kernel) (fun h => absurd rfl h) (fun _ => by decide +kernel), (rows_ok mr_L_entry).2, rfl, hnd_0⟩
set_option maxRecDepth 20000 in
theorem ms_L_entry : MStat 236 := ⟨mo_L_entry, by decide +kernel, ret_ok (by decide +kernel)⟩
set_option maxRecDepth 20000 in
theorem mr_L_clue : rowsC RL cL_clue 4 "clue" mi_L_clue = true := by decide +kernel
set_option maxRecDepth 20000 in
theorem mo_L_clue : MOk RL cL_clue 4 "clue" mi_L_clue [] := ⟨(rows_ok mr_L_clue).1, fld_ok (wG_of [] (by decide +kernel) (by decide +kernel)) (by decide +kernel), mth_ok (List.forall_mem_cons.mpr ⟨m_1 cal_L_starts (wG_t3 181 (by decide +kernel) rfl), List.forall_mem_nil _⟩), thr_ok (by intro q h; cases h), cls_ok (by intro q h; cases h), c32_ok (by intro q h; cases h), c64_ok (by intro q h; cases h), an_ok 0 (by decide +kernel) (fun h => absurd rfl h) (fun _ => by decide +kernel), (rows_ok mr_L_clue).2, rfl, hnd_0⟩
set_option maxRecDepth 20000 in
theorem ms_L_clue : MStat 237 := ⟨mo_L_clue, by decide +kernel, ret_ok (by decide +kernel)⟩
set_option maxRecDepth 20000 in
theorem mr_L_keeps_0 : ((cd_L_keeps.drop 0).take 50).all (fun r : Nat × ARow => match lk mi_L_keeps.thr r.1 with
  | some _ => match r.2.1 with
    | .new _ => true
    | _ => false
  | none => chk RL cL_keeps 13 "keeps" mi_L_keeps r.1 r.2.1 r.2.2.1 r.2.2.2) = true := by decide +kernel
set_option maxRecDepth 20000 in
theorem mr_L_keeps_50 : ((cd_L_keeps.drop 50).take 50).all (fun r : Nat × ARow => match lk mi_L_keeps.thr r.1 with
  | some _ => match r.2.1 with
    | .new _ => true
    | _ => false
  | none => chk RL cL_keeps 13 "keeps" mi_L_keeps r.1 r.2.1 r.2.2.1 r.2.2.2) = true := by decide +kernel
set_option maxRecDepth 20000 in
theorem mr_L_keeps_100 : ((cd_L_keeps.drop 100).take 50).all (fun r : Nat × ARow => match lk mi_L_keeps.thr r.1 with
  | some _ => match r.2.1 with
    | .new _ => true
    | _ => false
  | none => chk RL cL_keeps 13 "keeps" mi_L_keeps r.1 r.2.1 r.2.2.1 r.2.2.2) = true := by decide +kernel
set_option maxRecDepth 20000 in
theorem mr_L_keeps_150 : ((cd_L_keeps.drop 150).take 50).all (fun r : Nat × ARow => match lk mi_L_keeps.thr r.1 with
  | some _ => match r.2.1 with
    | .new _ => true
    | _ => false
  | none => chk RL cL_keeps 13 "keeps" mi_L_keeps r.1 r.2.1 r.2.2.1 r.2.2.2) = true := by decide +kernel
set_option maxRecDepth 20000 in
theorem mr_L_keeps_200 : ((cd_L_keeps.drop 200).take 50).all (fun r : Nat × ARow => match lk mi_L_keeps.thr r.1 with
  | some _ => match r.2.1 with
    | .new _ => true
    | _ => false
  | none => chk RL cL_keeps 13 "keeps" mi_L_keeps r.1 r.2.1 r.2.2.1 r.2.2.2) = true := by decide +kernel
set_option maxRecDepth 20000 in
theorem mr_L_keeps_250 : ((cd_L_keeps.drop 250).take 50).all (fun r : Nat × ARow => match lk mi_L_keeps.thr r.1 with
  | some _ => match r.2.1 with
    | .new _ => true
    | _ => false
  | none => chk RL cL_keeps 13 "keeps" mi_L_keeps r.1 r.2.1 r.2.2.1 r.2.2.2) = true := by decide +kernel
set_option maxRecDepth 20000 in
theorem mr_L_keeps_300 : ((cd_L_keeps.drop 300).take 50).all (fun r : Nat × ARow => match lk mi_L_keeps.thr r.1 with
  | some _ => match r.2.1 with
    | .new _ => true
    | _ => false
  | none => chk RL cL_keeps 13 "keeps" mi_L_keeps r.1 r.2.1 r.2.2.1 r.2.2.2) = true := by decide +kernel
set_option maxRecDepth 20000 in
theorem mr_L_keeps_350 : ((cd_L_keeps.drop 350).take 50).all (fun r : Nat × ARow => match lk mi_L_keeps.thr r.1 with
  | some _ => match r.2.1 with
    | .new _ => true
    | _ => false
  | none => chk RL cL_keeps 13 "keeps" mi_L_keeps r.1 r.2.1 r.2.2.1 r.2.2.2) = true := by decide +kernel
set_option maxRecDepth 20000 in
theorem mr_L_keeps : rowsC RL cL_keeps 13 "keeps" mi_L_keeps = true := rows_0 (rows_cut (a := 0) mr_L_keeps_0 (rows_cut (a := 50) mr_L_keeps_50 (rows_cut (a := 100) mr_L_keeps_100 (rows_cut (a := 150) mr_L_keeps_150 (rows_cut (a := 200) mr_L_keeps_200 (rows_cut (a := 250) mr_L_keeps_250 (rows_cut (a := 300) mr_L_keeps_300 (rows_cut (a := 350) mr_L_keeps_350 (rows_nil (by decide +kernel))))))))))
set_option maxRecDepth 20000 in
theorem mo_L_keeps : MOk RL cL_keeps 13 "keeps" mi_L_keeps [] := ⟨(rows_ok mr_L_keeps).1, fld_ok (wG_of [] (by decide +kernel) (by decide +kernel)) (by decide +kernel), mth_ok (List.forall_mem_cons.mpr ⟨m_1 cal_L_length (wG_t3 175 (by decide +kernel) rfl), List.forall_mem_cons.mpr ⟨m_1 cal_L_starts (wG_t3 181 (by decide +kernel) rfl), List.forall_mem_cons.mpr ⟨m_1 cal_L_in (wG_t3 172 (by decide +kernel) rfl), List.forall_mem_nil _⟩⟩⟩), thr_ok (by intro q h; cases h), cls_ok (by intro q h; cases h), c32_ok (by intro q h; cases h), c64_ok (by intro q h; cases h), an_ok 0 (by decide +kernel) (fun h => absurd rfl h) (fun _ => by decide +kernel), (rows_ok mr_L_keeps).2, rfl, hnd_0⟩
set_option maxRecDepth 20000 in
theorem ms_L_keeps : MStat 238 := ⟨mo_L_keeps, by decide +kernel, ret_ok (by decide +kernel)⟩
set_option maxRecDepth 20000 in
theorem mr_L_kept : rowsC RL cL_kept 3 "kept" mi_L_kept = true := by decide +kernel
set_option maxRecDepth 20000 in
theorem mo_L_kept : MOk RL cL_kept 3 "kept" mi_L_kept [] := ⟨(rows_ok mr_L_kept).1, fld_ok (wG_of [] (by decide +kernel) (by decide +kernel)) (by decide +kernel), mth_ok (List.forall_mem_cons.mpr ⟨m_1 cal_L_keeps (wG_t3 169 (by decide +kernel) rfl), List.forall_mem_nil _⟩), thr_ok (by intro q h; cases h), cls_ok (by intro q h; cases h), c32_ok (by intro q h; cases h), c64_ok (by intro q h; cases h), an_ok 0 (by decide +kernel) (fun h => absurd rfl h) (fun _ => by decide +kernel), (rows_ok mr_L_kept).2, rfl, hnd_0⟩
set_option maxRecDepth 20000 in
theorem ms_L_kept : MStat 239 := ⟨mo_L_kept, by decide +kernel, ret_ok (by decide +kernel)⟩
