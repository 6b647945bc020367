/-! ===== all that is decided ===== -/
theorem cok_0 : ClOk 0 (RX1, TX1, 4) := ⟨wG_of [314, 316, 318, 320] (by decide +kernel) (by decide +kernel), tyX1_ok, nmX1, rfl, fun k hk ad => by
  have hk : k < 4 := hk
  match k, hk with
  | 0, _ => rfl
  | 1, _ => rfl
  | 2, _ => rfl
  | 3, _ => rfl
  | n + 4, hk => exact absurd hk (by omega)⟩
theorem cok_1 : ClOk 1 (RX2, TX2, 7) := ⟨wG_of [289, 291, 293, 295, 297, 299, 301] (by decide +kernel) (by decide +kernel), tyX2_ok, nmX2, rfl, fun k hk ad => by
  have hk : k < 7 := hk
  match k, hk with
  | 0, _ => rfl
  | 1, _ => rfl
  | 2, _ => rfl
  | 3, _ => rfl
  | 4, _ => rfl
  | 5, _ => rfl
  | 6, _ => rfl
  | n + 7, hk => exact absurd hk (by omega)⟩
theorem cok_2 : ClOk 2 (RX3, TX3, 5) := ⟨wG_of [265, 267, 269, 271, 273] (by decide +kernel) (by decide +kernel), tyX3_ok, nmX3, rfl, fun k hk ad => by
  have hk : k < 5 := hk
  match k, hk with
  | 0, _ => rfl
  | 1, _ => rfl
  | 2, _ => rfl
  | 3, _ => rfl
  | 4, _ => rfl
  | n + 5, hk => exact absurd hk (by omega)⟩
theorem cok_3 : ClOk 3 (RX4, TX4, 10) := ⟨wG_of [228, 230, 232, 234, 236, 238, 240, 242, 244, 246] (by decide +kernel) (by decide +kernel), tyX4_ok, nmX4, rfl, fun k hk ad => by
  have hk : k < 10 := hk
  match k, hk with
  | 0, _ => rfl
  | 1, _ => rfl
  | 2, _ => rfl
  | 3, _ => rfl
  | 4, _ => rfl
  | 5, _ => rfl
  | 6, _ => rfl
  | 7, _ => rfl
  | 8, _ => rfl
  | 9, _ => rfl
  | n + 10, hk => exact absurd hk (by omega)⟩
theorem cok_4 : ClOk 4 (RX6, TX6, 10) := ⟨wG_of [131, 133, 135, 137, 139, 141, 143, 145, 147, 149] (by decide +kernel) (by decide +kernel), tyX6_ok, nmX6, rfl, fun k hk ad => by
  have hk : k < 10 := hk
  match k, hk with
  | 0, _ => rfl
  | 1, _ => rfl
  | 2, _ => rfl
  | 3, _ => rfl
  | 4, _ => rfl
  | 5, _ => rfl
  | 6, _ => rfl
  | 7, _ => rfl
  | 8, _ => rfl
  | 9, _ => rfl
  | n + 10, hk => exact absurd hk (by omega)⟩
theorem cok_5 : ClOk 5 (RX7, TX7, 4) := ⟨wG_of [159, 161, 163, 165] (by decide +kernel) (by decide +kernel), tyX7_ok, nmX7, rfl, fun k hk ad => by
  have hk : k < 4 := hk
  match k, hk with
  | 0, _ => rfl
  | 1, _ => rfl
  | 2, _ => rfl
  | 3, _ => rfl
  | n + 4, hk => exact absurd hk (by omega)⟩
theorem cok_6 : ClOk 6 (RX8, TX8, 6) := ⟨wG_of [329, 331, 333, 335, 337, 339] (by decide +kernel) (by decide +kernel), tyX8_ok, nmX8, rfl, fun k hk ad => by
  have hk : k < 6 := hk
  match k, hk with
  | 0, _ => rfl
  | 1, _ => rfl
  | 2, _ => rfl
  | 3, _ => rfl
  | 4, _ => rfl
  | 5, _ => rfl
  | n + 6, hk => exact absurd hk (by omega)⟩
theorem cok_7 : ClOk 7 (RX9, TX9, 20) := ⟨wG_of [1093, 1095, 1097, 1099, 1101, 1103, 1105, 1107, 1109, 1111, 1113, 1115, 1117, 1119, 1121, 1123, 1125, 1127, 1129, 1131] (by decide +kernel) (by decide +kernel), tyX9_ok, nmX9, rfl, fun k hk ad => by
  have hk : k < 20 := hk
  match k, hk with
  | 0, _ => rfl
  | 1, _ => rfl
  | 2, _ => rfl
  | 3, _ => rfl
  | 4, _ => rfl
  | 5, _ => rfl
  | 6, _ => rfl
  | 7, _ => rfl
  | 8, _ => rfl
  | 9, _ => rfl
  | 10, _ => rfl
  | 11, _ => rfl
  | 12, _ => rfl
  | 13, _ => rfl
  | 14, _ => rfl
  | 15, _ => rfl
  | 16, _ => rfl
  | 17, _ => rfl
  | 18, _ => rfl
  | 19, _ => rfl
  | n + 20, hk => exact absurd hk (by omega)⟩
theorem cok : ∀ ci q, vwCl[ci]? = some q → ClOk ci q := by
  intro ci q h
  match ci with
  | 0 =>
    cases h
    exact cok_0
  | 1 =>
    cases h
    exact cok_1
  | 2 =>
    cases h
    exact cok_2
  | 3 =>
    cases h
    exact cok_3
  | 4 =>
    cases h
    exact cok_4
  | 5 =>
    cases h
    exact cok_5
  | 6 =>
    cases h
    exact cok_6
  | 7 =>
    cases h
    exact cok_7
  | n + 8 => simp [vwCl] at h
theorem acw : Jvm.Cond.arrayClass .int ∈ wG ∧ Jvm.Cond.arrayClass .boolean ∈ wG ∧ Jvm.Cond.arrayClass .long ∈ wG := ⟨wG_t1 85 (by decide +kernel) rfl, wG_t1 182 (by decide +kernel) rfl, wG_t6 156 (by decide +kernel) rfl⟩
theorem gst : GStat := by
  refine ⟨cok, acw, fun y hy => ?_⟩
  match y, hy with
  | 0, _ => exact ms_X0_succeeds
  | 1, _ => exact ms_X0_putsLetter
  | 2, _ => exact ms_X0_fillsEntry
  | 3, _ => exact ms_X0_clearsEntry
  | 4, _ => exact ms_X1_init
  | 5, _ => exact ms_X1_count
  | 6, _ => exact ms_X1_wordsThatFit
  | 7, _ => exact ms_X1_giveFrom
  | 8, _ => exact ms_X1_give
  | 9, _ => exact ms_X1_agrees
  | 10, _ => exact ms_X2_init
  | 11, _ => exact ms_X2_count
  | 12, _ => exact ms_X2_cellOfFirst
  | 13, _ => exact ms_X2_visit
  | 14, _ => exact ms_X2_visitBehind
  | 15, _ => exact ms_X2_isAllowed
  | 16, _ => exact ms_X2_keepPath
  | 17, _ => exact ms_X3_init
  | 18, _ => exact ms_X3_remember
  | 19, _ => exact ms_X3_takeLast
  | 20, _ => exact ms_X3_forgetActions
  | 21, _ => exact ms_X3_at
  | 22, _ => exact ms_X3_store
  | 23, _ => exact ms_X3_isStored
  | 24, _ => exact ms_X3_stored
  | 25, _ => exact ms_X3_emptySlots
  | 26, _ => exact ms_X4_init
  | 27, _ => exact ms_X4_take
  | 28, _ => exact ms_X4_changeBar
  | 29, _ => exact ms_X4_layOut
  | 30, _ => exact ms_X4_addEntry
  | 31, _ => exact ms_X4_hasEntry
  | 32, _ => exact ms_X4_isDown
  | 33, _ => exact ms_X4_lengthOf
  | 34, _ => exact ms_X4_cellOf
  | 35, _ => exact ms_X4_indexIn
  | 36, _ => exact ms_X4_entryAt
  | 37, _ => exact ms_X4_clueAt
  | 38, _ => exact ms_X4_entriesAt
  | 39, _ => exact ms_X4_cellsInEntries
  | 40, _ => exact ms_X4_uncheckedIn
  | 41, _ => exact ms_X4_emptyIn
  | 42, _ => exact ms_X4_fitsWord
  | 43, _ => exact ms_X4_fitCount
  | 44, _ => exact ms_X4_wordIn
  | 45, _ => exact ms_X4_fillEntry
  | 46, _ => exact ms_X4_clearEntry
  | 47, _ => exact ms_X5_countKept
  | 48, _ => exact ms_X5_areKept
  | 49, _ => exact ms_X5_isSameTurned
  | 50, _ => exact ms_X5_isCheckedEnough
  | 51, _ => exact ms_X5_hasNoUncheckedPair
  | 52, _ => exact ms_X5_isConnected
  | 53, _ => exact ms_X5_spread
  | 54, _ => exact ms_X6_init
  | 55, _ => exact ms_X6_copyFrom
  | 56, _ => exact ms_X6_begin
  | 57, _ => exact ms_X6_cells
  | 58, _ => exact ms_X6_hasCell
  | 59, _ => exact ms_X6_columnOf
  | 60, _ => exact ms_X6_rowOf
  | 61, _ => exact ms_X6_letterAt
  | 62, _ => exact ms_X6_setLetter
  | 63, _ => exact ms_X6_emptyCells
  | 64, _ => exact ms_X6_isPlace
  | 65, _ => exact ms_X6_hasBar
  | 66, _ => exact ms_X6_drawBar
  | 67, _ => exact ms_X6_barCount
  | 68, _ => exact ms_X6_isJoined
  | 69, _ => exact ms_X6_hasWord
  | 70, _ => exact ms_X6_lengthOfWord
  | 71, _ => exact ms_X6_letterOfWord
  | 72, _ => exact ms_X6_beginWord
  | 73, _ => exact ms_X6_lengthenWord
  | 74, _ => exact ms_X6_letterOfLine
  | 75, _ => exact ms_X6_lengthenLine
  | 76, _ => exact ms_X7_init
  | 77, _ => exact ms_X7_isFull
  | 78, _ => exact ms_X7_add
  | 79, _ => exact ms_X7_empty
  | 80, _ => exact ms_X7_signAt
  | 81, _ => exact ms_X7_isWord
  | 82, _ => exact ms_X7_readGrid
  | 83, _ => exact ms_X7_goesPast
  | 84, _ => exact ms_X7_readSize
  | 85, _ => exact ms_X7_readCells
  | 86, _ => exact ms_X7_readBar
  | 87, _ => exact ms_X7_readParts
  | 88, _ => exact ms_X7_readWord
  | 89, _ => exact ms_X7_readLine
  | 90, _ => exact ms_X8_init
  | 91, _ => exact ms_X8_append
  | 92, _ => exact ms_X8_clearText
  | 93, _ => exact ms_X8_errorPosition
  | 94, _ => exact ms_X8_load
  | 95, _ => exact ms_X8_about
  | 96, _ => exact ms_X8_cell
  | 97, _ => exact ms_X8_entry
  | 98, _ => exact ms_X8_word
  | 99, _ => exact ms_X8_fits
  | 100, _ => exact ms_X8_rule
  | 101, _ => exact ms_X8_readings
  | 102, _ => exact ms_X8_reading
  | 103, _ => exact ms_X8_put
  | 104, _ => exact ms_X8_setBar
  | 105, _ => exact ms_X8_addWord
  | 106, _ => exact ms_X8_setLine
  | 107, _ => exact ms_X8_write
  | 108, _ => exact ms_X8_erase
  | 109, _ => exact ms_X8_undo
  | 110, _ => exact ms_X8_possible
  | 111, _ => exact ms_X8_fillings
  | 112, _ => exact ms_X8_mend
  | 113, _ => exact ms_X8_hardest
  | 114, _ => exact ms_X8_runScript
  | 115, _ => exact ms_X8_simulate
  | 116, _ => exact ms_X8_save
  | 117, _ => exact ms_X8_restore
  | 118, _ => exact ms_X8_requireCell
  | 119, _ => exact ms_X8_requireEntry
  | 120, _ => exact ms_X8_requireWord
  | 121, _ => exact ms_X8_requireSlot
  | 122, _ => exact ms_X8_isLetter
  | 123, _ => exact ms_X8_withoutGroups
  | 124, _ => exact ms_X8_simulateRound
  | 125, _ => exact ms_X9_init
  | 126, _ => exact ms_X9_thrown
  | 127, _ => exact ms_X9_move
  | 128, _ => exact ms_X9_append
  | 129, _ => exact ms_X9_clearText
  | 130, _ => exact ms_X9_character
  | 131, _ => exact ms_X9_isLetter
  | 132, _ => exact ms_X9_isSide
  | 133, _ => exact ms_X9_readText
  | 134, _ => exact ms_X9_readParts
  | 135, _ => exact ms_X9_errorPosition
  | 136, _ => exact ms_X9_load
  | 137, _ => exact ms_X9_size
  | 138, _ => exact ms_X9_isCell
  | 139, _ => exact ms_X9_isLastColumn
  | 140, _ => exact ms_X9_isLastRow
  | 141, _ => exact ms_X9_endsRight
  | 142, _ => exact ms_X9_endsBelow
  | 143, _ => exact ms_X9_findEntries
  | 144, _ => exact ms_X9_addEntry
  | 145, _ => exact ms_X9_isEntry
  | 146, _ => exact ms_X9_cellOf
  | 147, _ => exact ms_X9_entriesOf
  | 148, _ => exact ms_X9_uncheckedIn
  | 149, _ => exact ms_X9_emptyIn
  | 150, _ => exact ms_X9_cellsIn
  | 151, _ => exact ms_X9_bars
  | 152, _ => exact ms_X9_about
  | 153, _ => exact ms_X9_cell
  | 154, _ => exact ms_X9_entry
  | 155, _ => exact ms_X9_wordIn
  | 156, _ => exact ms_X9_isWord
  | 157, _ => exact ms_X9_letterOf
  | 158, _ => exact ms_X9_word
  | 159, _ => exact ms_X9_isFitting
  | 160, _ => exact ms_X9_fitsOf
  | 161, _ => exact ms_X9_fits
  | 162, _ => exact ms_X9_isTurned
  | 163, _ => exact ms_X9_isWellChecked
  | 164, _ => exact ms_X9_isWithoutPairs
  | 165, _ => exact ms_X9_isConnected
  | 166, _ => exact ms_X9_keeps
  | 167, _ => exact ms_X9_kept
  | 168, _ => exact ms_X9_isRule
  | 169, _ => exact ms_X9_rule
  | 170, _ => exact ms_X9_isKnightStep
  | 171, _ => exact ms_X9_canRead
  | 172, _ => exact ms_X9_countReadings
  | 173, _ => exact ms_X9_readings
  | 174, _ => exact ms_X9_reading
  | 175, _ => exact ms_X9_remember
  | 176, _ => exact ms_X9_isWritable
  | 177, _ => exact ms_X9_put
  | 178, _ => exact ms_X9_isRim
  | 179, _ => exact ms_X9_bar
  | 180, _ => exact ms_X9_setBar
  | 181, _ => exact ms_X9_isLetters
  | 182, _ => exact ms_X9_addWord
  | 183, _ => exact ms_X9_setLine
  | 184, _ => exact ms_X9_writeWord
  | 185, _ => exact ms_X9_write
  | 186, _ => exact ms_X9_eraseEntry
  | 187, _ => exact ms_X9_erase
  | 188, _ => exact ms_X9_undo
  | 189, _ => exact ms_X9_possible
  | 190, _ => exact ms_X9_canFill
  | 191, _ => exact ms_X9_fillings
  | 192, _ => exact ms_X9_change
  | 193, _ => exact ms_X9_mend
  | 194, _ => exact ms_X9_hardest
  | 195, _ => exact ms_X9_putsLetter
  | 196, _ => exact ms_X9_setsBar
  | 197, _ => exact ms_X9_writes
  | 198, _ => exact ms_X9_erases
  | 199, _ => exact ms_X9_runs
  | 200, _ => exact ms_X9_runScript
  | 201, _ => exact ms_X9_simulate
  | 202, _ => exact ms_X9_isSlot
  | 203, _ => exact ms_X9_save
  | 204, _ => exact ms_X9_restore
  | 205, _ => exact ms_J13_bitCount_95d88
  | 206, _ => exact ms_J9_floorMod_7cf53
  | 207, _ => exact ms_J7_fill_53178
  | 208, _ => exact ms_L_append
  | 209, _ => exact ms_L_load
  | 210, _ => exact ms_L_about
  | 211, _ => exact ms_L_cell
  | 212, _ => exact ms_L_entry
  | 213, _ => exact ms_L_word
  | 214, _ => exact ms_L_fits
  | 215, _ => exact ms_L_rule
  | 216, _ => exact ms_L_reading
  | 217, _ => exact ms_L_put
  | 218, _ => exact ms_L_setBar
  | 219, _ => exact ms_L_addWord
  | 220, _ => exact ms_L_setLine
  | 221, _ => exact ms_L_write
  | 222, _ => exact ms_L_erase
  | 223, _ => exact ms_L_undo
  | 224, _ => exact ms_L_runScript
  | 225, _ => exact ms_L_simulate
  | 226, _ => exact ms_L_save
  | 227, _ => exact ms_L_restore
  | 228, _ => exact ms_L_law
  | n + 229, h => exact absurd h (by omega)
