/-! ===== all that is decided ===== -/
theorem cok_0 : ClOk 0 (RX1, TX1, 4) := ⟨wG_of [262, 264, 266, 268] (by decide +kernel) (by decide +kernel), tyX1_ok, nmX1, rfl, fun k hk ad => by
  have hk : k < 4 := hk
  match k, hk with
  | 0, _ => rfl
  | 1, _ => rfl
  | 2, _ => rfl
  | 3, _ => rfl
  | n + 4, hk => exact absurd hk (by omega)⟩
theorem cok_1 : ClOk 1 (RX2, TX2, 7) := ⟨wG_of [237, 239, 241, 243, 245, 247, 249] (by decide +kernel) (by decide +kernel), tyX2_ok, nmX2, rfl, fun k hk ad => by
  have hk : k < 7 := hk
  match k, hk with
  | 0, _ => rfl
  | 1, _ => rfl
  | 2, _ => rfl
  | 3, _ => rfl
  | 4, _ => rfl
  | 5, _ => rfl
  | 6, _ => rfl
  | n + 7, hk => exact absurd hk (by omega)⟩
theorem cok_2 : ClOk 2 (RX3, TX3, 5) := ⟨wG_of [213, 215, 217, 219, 221] (by decide +kernel) (by decide +kernel), tyX3_ok, nmX3, rfl, fun k hk ad => by
  have hk : k < 5 := hk
  match k, hk with
  | 0, _ => rfl
  | 1, _ => rfl
  | 2, _ => rfl
  | 3, _ => rfl
  | 4, _ => rfl
  | n + 5, hk => exact absurd hk (by omega)⟩
theorem cok_3 : ClOk 3 (RX4, TX4, 10) := ⟨wG_of [176, 178, 180, 182, 184, 186, 188, 190, 192, 194] (by decide +kernel) (by decide +kernel), tyX4_ok, nmX4, rfl, fun k hk ad => by
  have hk : k < 10 := hk
  match k, hk with
  | 0, _ => rfl
  | 1, _ => rfl
  | 2, _ => rfl
  | 3, _ => rfl
  | 4, _ => rfl
  | 5, _ => rfl
  | 6, _ => rfl
  | 7, _ => rfl
  | 8, _ => rfl
  | 9, _ => rfl
  | n + 10, hk => exact absurd hk (by omega)⟩
theorem cok_4 : ClOk 4 (RX6, TX6, 10) := ⟨wG_of [82, 84, 86, 88, 90, 92, 94, 96, 98, 100] (by decide +kernel) (by decide +kernel), tyX6_ok, nmX6, rfl, fun k hk ad => by
  have hk : k < 10 := hk
  match k, hk with
  | 0, _ => rfl
  | 1, _ => rfl
  | 2, _ => rfl
  | 3, _ => rfl
  | 4, _ => rfl
  | 5, _ => rfl
  | 6, _ => rfl
  | 7, _ => rfl
  | 8, _ => rfl
  | 9, _ => rfl
  | n + 10, hk => exact absurd hk (by omega)⟩
theorem cok_5 : ClOk 5 (RX7, TX7, 4) := ⟨wG_of [109, 111, 113, 115] (by decide +kernel) (by decide +kernel), tyX7_ok, nmX7, rfl, fun k hk ad => by
  have hk : k < 4 := hk
  match k, hk with
  | 0, _ => rfl
  | 1, _ => rfl
  | 2, _ => rfl
  | 3, _ => rfl
  | n + 4, hk => exact absurd hk (by omega)⟩
theorem cok_6 : ClOk 6 (RX8, TX8, 6) := ⟨wG_of [277, 279, 281, 283, 285, 287] (by decide +kernel) (by decide +kernel), tyX8_ok, nmX8, rfl, fun k hk ad => by
  have hk : k < 6 := hk
  match k, hk with
  | 0, _ => rfl
  | 1, _ => rfl
  | 2, _ => rfl
  | 3, _ => rfl
  | 4, _ => rfl
  | 5, _ => rfl
  | n + 6, hk => exact absurd hk (by omega)⟩
theorem cok : ∀ ci q, vwCl[ci]? = some q → ClOk ci q := by
  intro ci q h
  match ci with
  | 0 =>
    cases h
    exact cok_0
  | 1 =>
    cases h
    exact cok_1
  | 2 =>
    cases h
    exact cok_2
  | 3 =>
    cases h
    exact cok_3
  | 4 =>
    cases h
    exact cok_4
  | 5 =>
    cases h
    exact cok_5
  | 6 =>
    cases h
    exact cok_6
  | n + 7 => simp [vwCl] at h
theorem acw : Jvm.Cond.arrayClass .int ∈ wG ∧ Jvm.Cond.arrayClass .boolean ∈ wG := ⟨wG_t1 83 (by decide +kernel) rfl, wG_t1 177 (by decide +kernel) rfl⟩
theorem gst : GStat := ⟨cok, acw, List.forall_mem_cons.mpr ⟨ms_X1_init, List.forall_mem_cons.mpr ⟨ms_X1_count, List.forall_mem_cons.mpr ⟨ms_X1_wordsThatFit, List.forall_mem_cons.mpr ⟨ms_X1_giveFrom, List.forall_mem_cons.mpr ⟨ms_X1_give, List.forall_mem_cons.mpr ⟨ms_X1_agrees, List.forall_mem_cons.mpr ⟨ms_X2_init, List.forall_mem_cons.mpr ⟨ms_X2_count, List.forall_mem_cons.mpr ⟨ms_X2_cellOfFirst, List.forall_mem_cons.mpr ⟨ms_X2_visit, List.forall_mem_cons.mpr ⟨ms_X2_visitBehind, List.forall_mem_cons.mpr ⟨ms_X2_isAllowed, List.forall_mem_cons.mpr ⟨ms_X2_keepPath, List.forall_mem_cons.mpr ⟨ms_X3_init, List.forall_mem_cons.mpr ⟨ms_X3_remember, List.forall_mem_cons.mpr ⟨ms_X3_takeLast, List.forall_mem_cons.mpr ⟨ms_X3_forgetActions, List.forall_mem_cons.mpr ⟨ms_X3_at, List.forall_mem_cons.mpr ⟨ms_X3_emptySlots, List.forall_mem_cons.mpr ⟨ms_X4_init, List.forall_mem_cons.mpr ⟨ms_X4_take, List.forall_mem_cons.mpr ⟨ms_X4_changeBar, List.forall_mem_cons.mpr ⟨ms_X4_layOut, List.forall_mem_cons.mpr ⟨ms_X4_addEntry, List.forall_mem_cons.mpr ⟨ms_X4_hasEntry, List.forall_mem_cons.mpr ⟨ms_X4_isDown, List.forall_mem_cons.mpr ⟨ms_X4_lengthOf, List.forall_mem_cons.mpr ⟨ms_X4_cellOf, List.forall_mem_cons.mpr ⟨ms_X4_indexIn, List.forall_mem_cons.mpr ⟨ms_X4_entryAt, List.forall_mem_cons.mpr ⟨ms_X4_clueAt, List.forall_mem_cons.mpr ⟨ms_X4_entriesAt, List.forall_mem_cons.mpr ⟨ms_X4_cellsInEntries, List.forall_mem_cons.mpr ⟨ms_X4_uncheckedIn, List.forall_mem_cons.mpr ⟨ms_X4_emptyIn, List.forall_mem_cons.mpr ⟨ms_X4_fitsWord, List.forall_mem_cons.mpr ⟨ms_X4_fitCount, List.forall_mem_cons.mpr ⟨ms_X4_wordIn, List.forall_mem_cons.mpr ⟨ms_X5_countKept, List.forall_mem_cons.mpr ⟨ms_X5_areKept, List.forall_mem_cons.mpr ⟨ms_X5_isSameTurned, List.forall_mem_cons.mpr ⟨ms_X5_isCheckedEnough, List.forall_mem_cons.mpr ⟨ms_X5_hasNoUncheckedPair, List.forall_mem_cons.mpr ⟨ms_X5_isConnected, List.forall_mem_cons.mpr ⟨ms_X5_spread, List.forall_mem_cons.mpr ⟨ms_X6_init, List.forall_mem_cons.mpr ⟨ms_X6_copyFrom, List.forall_mem_cons.mpr ⟨ms_X6_begin, List.forall_mem_cons.mpr ⟨ms_X6_cells, List.forall_mem_cons.mpr ⟨ms_X6_hasCell, List.forall_mem_cons.mpr ⟨ms_X6_columnOf, List.forall_mem_cons.mpr ⟨ms_X6_rowOf, List.forall_mem_cons.mpr ⟨ms_X6_letterAt, List.forall_mem_cons.mpr ⟨ms_X6_setLetter, List.forall_mem_cons.mpr ⟨ms_X6_emptyCells, List.forall_mem_cons.mpr ⟨ms_X6_isPlace, List.forall_mem_cons.mpr ⟨ms_X6_hasBar, List.forall_mem_cons.mpr ⟨ms_X6_drawBar, List.forall_mem_cons.mpr ⟨ms_X6_barCount, List.forall_mem_cons.mpr ⟨ms_X6_isJoined, List.forall_mem_cons.mpr ⟨ms_X6_hasWord, List.forall_mem_cons.mpr ⟨ms_X6_lengthOfWord, List.forall_mem_cons.mpr ⟨ms_X6_letterOfWord, List.forall_mem_cons.mpr ⟨ms_X6_beginWord, List.forall_mem_cons.mpr ⟨ms_X6_lengthenWord, List.forall_mem_cons.mpr ⟨ms_X6_letterOfLine, List.forall_mem_cons.mpr ⟨ms_X6_lengthenLine, List.forall_mem_cons.mpr ⟨ms_X7_init, List.forall_mem_cons.mpr ⟨ms_X7_isFull, List.forall_mem_cons.mpr ⟨ms_X7_add, List.forall_mem_cons.mpr ⟨ms_X7_signAt, List.forall_mem_cons.mpr ⟨ms_X7_readGrid, List.forall_mem_cons.mpr ⟨ms_X7_goesPast, List.forall_mem_cons.mpr ⟨ms_X7_readSize, List.forall_mem_cons.mpr ⟨ms_X7_readCells, List.forall_mem_cons.mpr ⟨ms_X7_readBar, List.forall_mem_cons.mpr ⟨ms_X7_readParts, List.forall_mem_cons.mpr ⟨ms_X7_readWord, List.forall_mem_cons.mpr ⟨ms_X7_readLine, List.forall_mem_cons.mpr ⟨ms_X8_init, List.forall_mem_cons.mpr ⟨ms_X8_append, List.forall_mem_cons.mpr ⟨ms_X8_errorPosition, List.forall_mem_cons.mpr ⟨ms_X8_load, List.forall_mem_cons.mpr ⟨ms_X8_about, List.forall_mem_cons.mpr ⟨ms_X8_cell, List.forall_mem_cons.mpr ⟨ms_X8_entry, List.forall_mem_cons.mpr ⟨ms_X8_fits, List.forall_mem_cons.mpr ⟨ms_X8_rule, List.forall_mem_cons.mpr ⟨ms_X8_readings, List.forall_mem_cons.mpr ⟨ms_X8_reading, List.forall_mem_cons.mpr ⟨ms_X8_put, List.forall_mem_cons.mpr ⟨ms_X8_setBar, List.forall_mem_cons.mpr ⟨ms_X8_undo, List.forall_mem_cons.mpr ⟨ms_X8_possible, List.forall_mem_cons.mpr ⟨ms_X8_fillings, List.forall_mem_cons.mpr ⟨ms_X8_mend, List.forall_mem_cons.mpr ⟨ms_X8_hardest, List.forall_mem_cons.mpr ⟨ms_X8_requireCell, List.forall_mem_cons.mpr ⟨ms_X8_requireEntry, List.forall_mem_cons.mpr ⟨ms_X8_isLetter, List.forall_mem_cons.mpr ⟨ms_J13_bitCount_95d88, List.forall_mem_cons.mpr ⟨ms_J9_floorMod_7cf53, List.forall_mem_cons.mpr ⟨ms_J7_fill_53178, List.forall_mem_cons.mpr ⟨ms_L_cell, List.forall_mem_cons.mpr ⟨ms_L_low, List.forall_mem_cons.mpr ⟨ms_L_first, List.forall_mem_cons.mpr ⟨ms_L_length, List.forall_mem_cons.mpr ⟨ms_L_starts, List.forall_mem_cons.mpr ⟨ms_L_in, List.forall_mem_cons.mpr ⟨ms_L_entry, List.forall_mem_cons.mpr ⟨ms_L_clue, List.forall_mem_cons.mpr ⟨ms_L_keeps, List.forall_mem_cons.mpr ⟨ms_L_kept, List.forall_mem_cons.mpr ⟨ms_L_knight, List.forall_mem_cons.mpr ⟨ms_L_readings, List.forall_mem_cons.mpr ⟨ms_L_fits, List.forall_mem_cons.mpr ⟨ms_L_fillings, List.forall_mem_cons.mpr ⟨ms_L_cells, List.forall_mem_cons.mpr ⟨ms_L_entries, List.forall_mem_cons.mpr ⟨ms_L_mend, List.forall_mem_cons.mpr ⟨ms_L_typed, List.forall_mem_cons.mpr ⟨ms_L_law, fun _ h => absurd h List.not_mem_nil⟩⟩⟩⟩⟩⟩⟩⟩⟩⟩⟩⟩⟩⟩⟩⟩⟩⟩⟩⟩⟩⟩⟩⟩⟩⟩⟩⟩⟩⟩⟩⟩⟩⟩⟩⟩⟩⟩⟩⟩⟩⟩⟩⟩⟩⟩⟩⟩⟩⟩⟩⟩⟩⟩⟩⟩⟩⟩⟩⟩⟩⟩⟩⟩⟩⟩⟩⟩⟩⟩⟩⟩⟩⟩⟩⟩⟩⟩⟩⟩⟩⟩⟩⟩⟩⟩⟩⟩⟩⟩⟩⟩⟩⟩⟩⟩⟩⟩⟩⟩⟩⟩⟩⟩⟩⟩⟩⟩⟩⟩⟩⟩⟩⟩⟩⟩⟩⟩⟩⟩⟩⟩⟩
