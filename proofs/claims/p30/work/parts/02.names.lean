/-! ===== BEGIN printed: names, fields, word lists, decode rows ===== -/
def RX0 : String := "BarredGrid$Command"
def TX0 : u_T := fun k => match k with
  | _ => ("", "", "", false)
def tyX0 : Nat → FieldType := fun k => match k with
  | _ => .int
abbrev wsX00 : List Cond := u_ws RX0 TX0 0
theorem nmX0 : ∀ a, a < 0 → ∀ b, b < 0 → a ≠ b → (TX0 a).2.1 ≠ (TX0 b).2.1 := by decide +kernel
theorem tyX0_ok : ∀ k, k < 0 → parseFieldDescriptor (TX0 k).2.2.1 = some (tyX0 k) := by decide +kernel
def RX1 : String := "BarredGrid$Filler"
def TX1 : u_T := fun k => match k with
  | 0 => ("BarredGrid$Filler", "ways", "I", false)
  | 1 => ("BarredGrid$Filler", "used", "I", false)
  | 2 => ("BarredGrid$Filler", "fitting", "[I", true)
  | _ => ("BarredGrid$Filler", "given", "[I", true)
def tyX1 : Nat → FieldType := fun k => match k with
  | 0 => .int
  | 1 => .int
  | 2 => .array .int
  | _ => .array .int
abbrev wsX10 : List Cond := u_ws RX1 TX1 4
theorem nmX1 : ∀ a, a < 4 → ∀ b, b < 4 → a ≠ b → (TX1 a).2.1 ≠ (TX1 b).2.1 := by decide +kernel
theorem tyX1_ok : ∀ k, k < 4 → parseFieldDescriptor (TX1 k).2.2.1 = some (tyX1 k) := by decide +kernel
abbrev cX1_init : ByteArray := prog_3_method_1_code
def yX1_init : MethodName := ⟨RX1, "<init>", "()V"⟩
abbrev cX1_count : ByteArray := prog_3_method_2_code
def yX1_count : MethodName := ⟨RX1, "count", "(LBarredGrid$Puzzle;)I"⟩
abbrev cX1_wordsThatFit : ByteArray := prog_3_method_3_code
def yX1_wordsThatFit : MethodName := ⟨RX1, "wordsThatFit", "(LBarredGrid$Puzzle;I)I"⟩
abbrev cX1_giveFrom : ByteArray := prog_3_method_4_code
def yX1_giveFrom : MethodName := ⟨RX1, "giveFrom", "(LBarredGrid$Puzzle;I)V"⟩
abbrev cX1_give : ByteArray := prog_3_method_5_code
def yX1_give : MethodName := ⟨RX1, "give", "(LBarredGrid$Puzzle;II)V"⟩
abbrev cX1_agrees : ByteArray := prog_3_method_6_code
def yX1_agrees : MethodName := ⟨RX1, "agrees", "(LBarredGrid$Puzzle;II)Z"⟩
def RX2 : String := "BarredGrid$LineSearch"
def TX2 : u_T := fun k => match k with
  | 0 => ("BarredGrid$LineSearch", "emptyToo", "Z", false)
  | 1 => ("BarredGrid$LineSearch", "limit", "I", false)
  | 2 => ("BarredGrid$LineSearch", "found", "I", false)
  | 3 => ("BarredGrid$LineSearch", "firstLength", "I", false)
  | 4 => ("BarredGrid$LineSearch", "used", "J", false)
  | 5 => ("BarredGrid$LineSearch", "path", "[I", true)
  | _ => ("BarredGrid$LineSearch", "firstPath", "[I", true)
def tyX2 : Nat → FieldType := fun k => match k with
  | 0 => .boolean
  | 1 => .int
  | 2 => .int
  | 3 => .int
  | 4 => .long
  | 5 => .array .int
  | _ => .array .int
abbrev wsX20 : List Cond := u_ws RX2 TX2 7
theorem nmX2 : ∀ a, a < 7 → ∀ b, b < 7 → a ≠ b → (TX2 a).2.1 ≠ (TX2 b).2.1 := by decide +kernel
theorem tyX2_ok : ∀ k, k < 7 → parseFieldDescriptor (TX2 k).2.2.1 = some (tyX2 k) := by decide +kernel
abbrev cX2_init : ByteArray := prog_4_method_1_code
def yX2_init : MethodName := ⟨RX2, "<init>", "()V"⟩
abbrev cX2_count : ByteArray := prog_4_method_2_code
def yX2_count : MethodName := ⟨RX2, "count", "(LBarredGrid$Puzzle;ZI)I"⟩
abbrev cX2_cellOfFirst : ByteArray := prog_4_method_3_code
def yX2_cellOfFirst : MethodName := ⟨RX2, "cellOfFirst", "(I)I"⟩
abbrev cX2_visit : ByteArray := prog_4_method_4_code
def yX2_visit : MethodName := ⟨RX2, "visit", "(LBarredGrid$Puzzle;II)V"⟩
abbrev cX2_visitBehind : ByteArray := prog_4_method_5_code
def yX2_visitBehind : MethodName := ⟨RX2, "visitBehind", "(LBarredGrid$Puzzle;II)V"⟩
abbrev cX2_isAllowed : ByteArray := prog_4_method_6_code
def yX2_isAllowed : MethodName := ⟨RX2, "isAllowed", "(LBarredGrid$Puzzle;II)Z"⟩
abbrev cX2_keepPath : ByteArray := prog_4_method_7_code
def yX2_keepPath : MethodName := ⟨RX2, "keepPath", "(I)V"⟩
def RX3 : String := "BarredGrid$Memory"
def TX3 : u_T := fun k => match k with
  | 0 => ("BarredGrid$Memory", "actions", "I", false)
  | 1 => ("BarredGrid$Memory", "oldest", "I", false)
  | 2 => ("BarredGrid$Memory", "remembered", "[LBarredGrid$State;", true)
  | 3 => ("BarredGrid$Memory", "slots", "[LBarredGrid$State;", true)
  | _ => ("BarredGrid$Memory", "isUsed", "[Z", true)
def tyX3 : Nat → FieldType := fun k => match k with
  | 0 => .int
  | 1 => .int
  | 2 => .array (.object "BarredGrid$State")
  | 3 => .array (.object "BarredGrid$State")
  | _ => .array .boolean
abbrev wsX30 : List Cond := u_ws RX3 TX3 5
theorem nmX3 : ∀ a, a < 5 → ∀ b, b < 5 → a ≠ b → (TX3 a).2.1 ≠ (TX3 b).2.1 := by decide +kernel
theorem tyX3_ok : ∀ k, k < 5 → parseFieldDescriptor (TX3 k).2.2.1 = some (tyX3 k) := by decide +kernel
abbrev cX3_init : ByteArray := prog_5_method_1_code
def yX3_init : MethodName := ⟨RX3, "<init>", "()V"⟩
abbrev cX3_remember : ByteArray := prog_5_method_2_code
def yX3_remember : MethodName := ⟨RX3, "remember", "(LBarredGrid$State;)V"⟩
abbrev cX3_takeLast : ByteArray := prog_5_method_3_code
def yX3_takeLast : MethodName := ⟨RX3, "takeLast", "()LBarredGrid$State;"⟩
abbrev cX3_forgetActions : ByteArray := prog_5_method_4_code
def yX3_forgetActions : MethodName := ⟨RX3, "forgetActions", "()V"⟩
abbrev cX3_at : ByteArray := prog_5_method_5_code
def yX3_at : MethodName := ⟨RX3, "at", "(I)LBarredGrid$State;"⟩
abbrev cX3_emptySlots : ByteArray := prog_5_method_9_code
def yX3_emptySlots : MethodName := ⟨RX3, "emptySlots", "()V"⟩
def RX4 : String := "BarredGrid$Puzzle"
def TX4 : u_T := fun k => match k with
  | 0 => ("BarredGrid$Puzzle", "state", "LBarredGrid$State;", true)
  | 1 => ("BarredGrid$Puzzle", "entryCount", "I", false)
  | 2 => ("BarredGrid$Puzzle", "acrossCount", "I", false)
  | 3 => ("BarredGrid$Puzzle", "greatestClue", "I", false)
  | 4 => ("BarredGrid$Puzzle", "firstCells", "[I", true)
  | 5 => ("BarredGrid$Puzzle", "lengths", "[I", true)
  | 6 => ("BarredGrid$Puzzle", "downward", "[Z", true)
  | 7 => ("BarredGrid$Puzzle", "acrossOf", "[I", true)
  | 8 => ("BarredGrid$Puzzle", "downOf", "[I", true)
  | _ => ("BarredGrid$Puzzle", "clueOf", "[I", true)
def tyX4 : Nat → FieldType := fun k => match k with
  | 0 => .object "BarredGrid$State"
  | 1 => .int
  | 2 => .int
  | 3 => .int
  | 4 => .array .int
  | 5 => .array .int
  | 6 => .array .boolean
  | 7 => .array .int
  | 8 => .array .int
  | _ => .array .int
abbrev wsX40 : List Cond := u_ws RX4 TX4 10
theorem nmX4 : ∀ a, a < 10 → ∀ b, b < 10 → a ≠ b → (TX4 a).2.1 ≠ (TX4 b).2.1 := by decide +kernel
theorem tyX4_ok : ∀ k, k < 10 → parseFieldDescriptor (TX4 k).2.2.1 = some (tyX4 k) := by decide +kernel
abbrev cX4_init : ByteArray := prog_6_method_1_code
def yX4_init : MethodName := ⟨RX4, "<init>", "()V"⟩
abbrev cX4_take : ByteArray := prog_6_method_2_code
def yX4_take : MethodName := ⟨RX4, "take", "(LBarredGrid$State;)V"⟩
abbrev cX4_changeBar : ByteArray := prog_6_method_3_code
def yX4_changeBar : MethodName := ⟨RX4, "changeBar", "(IZZ)Z"⟩
abbrev cX4_layOut : ByteArray := prog_6_method_4_code
def yX4_layOut : MethodName := ⟨RX4, "layOut", "()V"⟩
abbrev cX4_addEntry : ByteArray := prog_6_method_5_code
def yX4_addEntry : MethodName := ⟨RX4, "addEntry", "(IZ)V"⟩
abbrev cX4_hasEntry : ByteArray := prog_6_method_6_code
def yX4_hasEntry : MethodName := ⟨RX4, "hasEntry", "(I)Z"⟩
abbrev cX4_isDown : ByteArray := prog_6_method_7_code
def yX4_isDown : MethodName := ⟨RX4, "isDown", "(I)Z"⟩
abbrev cX4_lengthOf : ByteArray := prog_6_method_8_code
def yX4_lengthOf : MethodName := ⟨RX4, "lengthOf", "(I)I"⟩
abbrev cX4_cellOf : ByteArray := prog_6_method_9_code
def yX4_cellOf : MethodName := ⟨RX4, "cellOf", "(II)I"⟩
abbrev cX4_indexIn : ByteArray := prog_6_method_10_code
def yX4_indexIn : MethodName := ⟨RX4, "indexIn", "(II)I"⟩
abbrev cX4_entryAt : ByteArray := prog_6_method_11_code
def yX4_entryAt : MethodName := ⟨RX4, "entryAt", "(IZ)I"⟩
abbrev cX4_clueAt : ByteArray := prog_6_method_12_code
def yX4_clueAt : MethodName := ⟨RX4, "clueAt", "(I)I"⟩
abbrev cX4_entriesAt : ByteArray := prog_6_method_13_code
def yX4_entriesAt : MethodName := ⟨RX4, "entriesAt", "(I)I"⟩
abbrev cX4_cellsInEntries : ByteArray := prog_6_method_14_code
def yX4_cellsInEntries : MethodName := ⟨RX4, "cellsInEntries", "(I)I"⟩
abbrev cX4_uncheckedIn : ByteArray := prog_6_method_15_code
def yX4_uncheckedIn : MethodName := ⟨RX4, "uncheckedIn", "(I)I"⟩
abbrev cX4_emptyIn : ByteArray := prog_6_method_16_code
def yX4_emptyIn : MethodName := ⟨RX4, "emptyIn", "(I)I"⟩
abbrev cX4_fitsWord : ByteArray := prog_6_method_17_code
def yX4_fitsWord : MethodName := ⟨RX4, "fitsWord", "(II)Z"⟩
abbrev cX4_fitCount : ByteArray := prog_6_method_18_code
def yX4_fitCount : MethodName := ⟨RX4, "fitCount", "(I)I"⟩
abbrev cX4_wordIn : ByteArray := prog_6_method_19_code
def yX4_wordIn : MethodName := ⟨RX4, "wordIn", "(I)I"⟩
def RX5 : String := "BarredGrid$Rules"
def TX5 : u_T := fun k => match k with
  | _ => ("", "", "", false)
def tyX5 : Nat → FieldType := fun k => match k with
  | _ => .int
abbrev wsX50 : List Cond := u_ws RX5 TX5 0
theorem nmX5 : ∀ a, a < 0 → ∀ b, b < 0 → a ≠ b → (TX5 a).2.1 ≠ (TX5 b).2.1 := by decide +kernel
theorem tyX5_ok : ∀ k, k < 0 → parseFieldDescriptor (TX5 k).2.2.1 = some (tyX5 k) := by decide +kernel
abbrev cX5_countKept : ByteArray := prog_7_method_2_code
def yX5_countKept : MethodName := ⟨RX5, "countKept", "(LBarredGrid$Puzzle;)I"⟩
abbrev cX5_areKept : ByteArray := prog_7_method_3_code
def yX5_areKept : MethodName := ⟨RX5, "areKept", "(LBarredGrid$Puzzle;I)Z"⟩
abbrev cX5_isSameTurned : ByteArray := prog_7_method_4_code
def yX5_isSameTurned : MethodName := ⟨RX5, "isSameTurned", "(LBarredGrid$State;)Z"⟩
abbrev cX5_isCheckedEnough : ByteArray := prog_7_method_5_code
def yX5_isCheckedEnough : MethodName := ⟨RX5, "isCheckedEnough", "(LBarredGrid$Puzzle;)Z"⟩
abbrev cX5_hasNoUncheckedPair : ByteArray := prog_7_method_6_code
def yX5_hasNoUncheckedPair : MethodName := ⟨RX5, "hasNoUncheckedPair", "(LBarredGrid$Puzzle;)Z"⟩
abbrev cX5_isConnected : ByteArray := prog_7_method_7_code
def yX5_isConnected : MethodName := ⟨RX5, "isConnected", "(LBarredGrid$State;)Z"⟩
abbrev cX5_spread : ByteArray := prog_7_method_8_code
def yX5_spread : MethodName := ⟨RX5, "spread", "(LBarredGrid$State;JIZ)J"⟩
def RX6 : String := "BarredGrid$State"
def TX6 : u_T := fun k => match k with
  | 0 => ("BarredGrid$State", "rows", "I", false)
  | 1 => ("BarredGrid$State", "columns", "I", false)
  | 2 => ("BarredGrid$State", "wordCount", "I", false)
  | 3 => ("BarredGrid$State", "lineLength", "I", false)
  | 4 => ("BarredGrid$State", "rightBars", "J", false)
  | 5 => ("BarredGrid$State", "belowBars", "J", false)
  | 6 => ("BarredGrid$State", "letters", "[I", true)
  | 7 => ("BarredGrid$State", "wordLengths", "[I", true)
  | 8 => ("BarredGrid$State", "wordLetters", "[I", true)
  | _ => ("BarredGrid$State", "line", "[I", true)
def tyX6 : Nat → FieldType := fun k => match k with
  | 0 => .int
  | 1 => .int
  | 2 => .int
  | 3 => .int
  | 4 => .long
  | 5 => .long
  | 6 => .array .int
  | 7 => .array .int
  | 8 => .array .int
  | _ => .array .int
abbrev wsX60 : List Cond := u_ws RX6 TX6 10
theorem nmX6 : ∀ a, a < 10 → ∀ b, b < 10 → a ≠ b → (TX6 a).2.1 ≠ (TX6 b).2.1 := by decide +kernel
theorem tyX6_ok : ∀ k, k < 10 → parseFieldDescriptor (TX6 k).2.2.1 = some (tyX6 k) := by decide +kernel
abbrev cX6_init : ByteArray := prog_8_method_1_code
def yX6_init : MethodName := ⟨RX6, "<init>", "()V"⟩
abbrev cX6_copyFrom : ByteArray := prog_8_method_2_code
def yX6_copyFrom : MethodName := ⟨RX6, "copyFrom", "(LBarredGrid$State;)V"⟩
abbrev cX6_begin : ByteArray := prog_8_method_3_code
def yX6_begin : MethodName := ⟨RX6, "begin", "(II)V"⟩
abbrev cX6_cells : ByteArray := prog_8_method_4_code
def yX6_cells : MethodName := ⟨RX6, "cells", "()I"⟩
abbrev cX6_hasCell : ByteArray := prog_8_method_5_code
def yX6_hasCell : MethodName := ⟨RX6, "hasCell", "(I)Z"⟩
abbrev cX6_columnOf : ByteArray := prog_8_method_6_code
def yX6_columnOf : MethodName := ⟨RX6, "columnOf", "(I)I"⟩
abbrev cX6_rowOf : ByteArray := prog_8_method_7_code
def yX6_rowOf : MethodName := ⟨RX6, "rowOf", "(I)I"⟩
abbrev cX6_letterAt : ByteArray := prog_8_method_8_code
def yX6_letterAt : MethodName := ⟨RX6, "letterAt", "(I)I"⟩
abbrev cX6_setLetter : ByteArray := prog_8_method_9_code
def yX6_setLetter : MethodName := ⟨RX6, "setLetter", "(II)V"⟩
abbrev cX6_emptyCells : ByteArray := prog_8_method_10_code
def yX6_emptyCells : MethodName := ⟨RX6, "emptyCells", "()I"⟩
abbrev cX6_isPlace : ByteArray := prog_8_method_11_code
def yX6_isPlace : MethodName := ⟨RX6, "isPlace", "(IZ)Z"⟩
abbrev cX6_hasBar : ByteArray := prog_8_method_12_code
def yX6_hasBar : MethodName := ⟨RX6, "hasBar", "(IZ)Z"⟩
abbrev cX6_drawBar : ByteArray := prog_8_method_13_code
def yX6_drawBar : MethodName := ⟨RX6, "drawBar", "(IZZ)V"⟩
abbrev cX6_barCount : ByteArray := prog_8_method_14_code
def yX6_barCount : MethodName := ⟨RX6, "barCount", "()I"⟩
abbrev cX6_isJoined : ByteArray := prog_8_method_15_code
def yX6_isJoined : MethodName := ⟨RX6, "isJoined", "(IZ)Z"⟩
abbrev cX6_hasWord : ByteArray := prog_8_method_16_code
def yX6_hasWord : MethodName := ⟨RX6, "hasWord", "(I)Z"⟩
abbrev cX6_lengthOfWord : ByteArray := prog_8_method_17_code
def yX6_lengthOfWord : MethodName := ⟨RX6, "lengthOfWord", "(I)I"⟩
abbrev cX6_letterOfWord : ByteArray := prog_8_method_18_code
def yX6_letterOfWord : MethodName := ⟨RX6, "letterOfWord", "(II)I"⟩
abbrev cX6_beginWord : ByteArray := prog_8_method_19_code
def yX6_beginWord : MethodName := ⟨RX6, "beginWord", "()V"⟩
abbrev cX6_lengthenWord : ByteArray := prog_8_method_20_code
def yX6_lengthenWord : MethodName := ⟨RX6, "lengthenWord", "(I)V"⟩
abbrev cX6_letterOfLine : ByteArray := prog_8_method_21_code
def yX6_letterOfLine : MethodName := ⟨RX6, "letterOfLine", "(I)I"⟩
abbrev cX6_lengthenLine : ByteArray := prog_8_method_22_code
def yX6_lengthenLine : MethodName := ⟨RX6, "lengthenLine", "(I)V"⟩
def RX7 : String := "BarredGrid$TextBuffer"
def TX7 : u_T := fun k => match k with
  | 0 => ("BarredGrid$TextBuffer", "length", "I", false)
  | 1 => ("BarredGrid$TextBuffer", "grid", "LBarredGrid$State;", true)
  | 2 => ("BarredGrid$TextBuffer", "position", "I", false)
  | _ => ("BarredGrid$TextBuffer", "signs", "[I", true)
def tyX7 : Nat → FieldType := fun k => match k with
  | 0 => .int
  | 1 => .object "BarredGrid$State"
  | 2 => .int
  | _ => .array .int
abbrev wsX70 : List Cond := u_ws RX7 TX7 4
theorem nmX7 : ∀ a, a < 4 → ∀ b, b < 4 → a ≠ b → (TX7 a).2.1 ≠ (TX7 b).2.1 := by decide +kernel
theorem tyX7_ok : ∀ k, k < 4 → parseFieldDescriptor (TX7 k).2.2.1 = some (tyX7 k) := by decide +kernel
abbrev cX7_init : ByteArray := prog_9_method_1_code
def yX7_init : MethodName := ⟨RX7, "<init>", "()V"⟩
abbrev cX7_isFull : ByteArray := prog_9_method_2_code
def yX7_isFull : MethodName := ⟨RX7, "isFull", "()Z"⟩
abbrev cX7_add : ByteArray := prog_9_method_3_code
def yX7_add : MethodName := ⟨RX7, "add", "(I)I"⟩
abbrev cX7_signAt : ByteArray := prog_9_method_5_code
def yX7_signAt : MethodName := ⟨RX7, "signAt", "(I)I"⟩
abbrev cX7_readGrid : ByteArray := prog_9_method_7_code
def yX7_readGrid : MethodName := ⟨RX7, "readGrid", "()I"⟩
abbrev cX7_goesPast : ByteArray := prog_9_method_8_code
def yX7_goesPast : MethodName := ⟨RX7, "goesPast", "(I)Z"⟩
abbrev cX7_readSize : ByteArray := prog_9_method_9_code
def yX7_readSize : MethodName := ⟨RX7, "readSize", "()Z"⟩
abbrev cX7_readCells : ByteArray := prog_9_method_10_code
def yX7_readCells : MethodName := ⟨RX7, "readCells", "()Z"⟩
abbrev cX7_readBar : ByteArray := prog_9_method_11_code
def yX7_readBar : MethodName := ⟨RX7, "readBar", "(IZI)V"⟩
abbrev cX7_readParts : ByteArray := prog_9_method_12_code
def yX7_readParts : MethodName := ⟨RX7, "readParts", "()Z"⟩
abbrev cX7_readWord : ByteArray := prog_9_method_13_code
def yX7_readWord : MethodName := ⟨RX7, "readWord", "()Z"⟩
abbrev cX7_readLine : ByteArray := prog_9_method_14_code
def yX7_readLine : MethodName := ⟨RX7, "readLine", "()Z"⟩
def RX8 : String := "BarredGrid"
def TX8 : u_T := fun k => match k with
  | 0 => ("BarredGrid", "text", "LBarredGrid$TextBuffer;", true)
  | 1 => ("BarredGrid", "now", "LBarredGrid$Puzzle;", true)
  | 2 => ("BarredGrid", "trial", "LBarredGrid$Puzzle;", true)
  | 3 => ("BarredGrid", "memory", "LBarredGrid$Memory;", true)
  | 4 => ("BarredGrid", "search", "LBarredGrid$LineSearch;", true)
  | _ => ("BarredGrid", "filler", "LBarredGrid$Filler;", true)
def tyX8 : Nat → FieldType := fun k => match k with
  | 0 => .object "BarredGrid$TextBuffer"
  | 1 => .object "BarredGrid$Puzzle"
  | 2 => .object "BarredGrid$Puzzle"
  | 3 => .object "BarredGrid$Memory"
  | 4 => .object "BarredGrid$LineSearch"
  | _ => .object "BarredGrid$Filler"
abbrev wsX80 : List Cond := u_ws RX8 TX8 6
theorem nmX8 : ∀ a, a < 6 → ∀ b, b < 6 → a ≠ b → (TX8 a).2.1 ≠ (TX8 b).2.1 := by decide +kernel
theorem tyX8_ok : ∀ k, k < 6 → parseFieldDescriptor (TX8 k).2.2.1 = some (tyX8 k) := by decide +kernel
abbrev cX8_init : ByteArray := prog_1_method_1_code
def yX8_init : MethodName := ⟨RX8, "<init>", "()V"⟩
abbrev cX8_append : ByteArray := prog_1_method_2_code
def yX8_append : MethodName := ⟨RX8, "append", "(I)I"⟩
abbrev cX8_errorPosition : ByteArray := prog_1_method_4_code
def yX8_errorPosition : MethodName := ⟨RX8, "errorPosition", "()I"⟩
abbrev cX8_load : ByteArray := prog_1_method_5_code
def yX8_load : MethodName := ⟨RX8, "load", "()I"⟩
abbrev cX8_about : ByteArray := prog_1_method_6_code
def yX8_about : MethodName := ⟨RX8, "about", "(I)I"⟩
abbrev cX8_cell : ByteArray := prog_1_method_7_code
def yX8_cell : MethodName := ⟨RX8, "cell", "(II)I"⟩
abbrev cX8_entry : ByteArray := prog_1_method_8_code
def yX8_entry : MethodName := ⟨RX8, "entry", "(II)I"⟩
abbrev cX8_fits : ByteArray := prog_1_method_10_code
def yX8_fits : MethodName := ⟨RX8, "fits", "(I)I"⟩
abbrev cX8_rule : ByteArray := prog_1_method_11_code
def yX8_rule : MethodName := ⟨RX8, "rule", "(I)Z"⟩
abbrev cX8_readings : ByteArray := prog_1_method_12_code
def yX8_readings : MethodName := ⟨RX8, "readings", "()I"⟩
abbrev cX8_reading : ByteArray := prog_1_method_13_code
def yX8_reading : MethodName := ⟨RX8, "reading", "(I)I"⟩
abbrev cX8_put : ByteArray := prog_1_method_14_code
def yX8_put : MethodName := ⟨RX8, "put", "(II)I"⟩
abbrev cX8_setBar : ByteArray := prog_1_method_15_code
def yX8_setBar : MethodName := ⟨RX8, "setBar", "(IZZ)I"⟩
abbrev cX8_undo : ByteArray := prog_1_method_20_code
def yX8_undo : MethodName := ⟨RX8, "undo", "()I"⟩
abbrev cX8_possible : ByteArray := prog_1_method_21_code
def yX8_possible : MethodName := ⟨RX8, "possible", "()I"⟩
abbrev cX8_fillings : ByteArray := prog_1_method_22_code
def yX8_fillings : MethodName := ⟨RX8, "fillings", "()I"⟩
abbrev cX8_mend : ByteArray := prog_1_method_23_code
def yX8_mend : MethodName := ⟨RX8, "mend", "()I"⟩
abbrev cX8_hardest : ByteArray := prog_1_method_24_code
def yX8_hardest : MethodName := ⟨RX8, "hardest", "()I"⟩
abbrev cX8_requireCell : ByteArray := prog_1_method_29_code
def yX8_requireCell : MethodName := ⟨RX8, "requireCell", "(I)V"⟩
abbrev cX8_requireEntry : ByteArray := prog_1_method_30_code
def yX8_requireEntry : MethodName := ⟨RX8, "requireEntry", "(I)V"⟩
abbrev cX8_isLetter : ByteArray := prog_1_method_33_code
def yX8_isLetter : MethodName := ⟨RX8, "isLetter", "(I)Z"⟩
def RX9 : String := "BarredGridModel"
def TX9 : u_T := fun k => match k with
  | _ => ("", "", "", false)
def tyX9 : Nat → FieldType := fun k => match k with
  | _ => .int
abbrev wsX90 : List Cond := u_ws RX9 TX9 0
theorem nmX9 : ∀ a, a < 0 → ∀ b, b < 0 → a ≠ b → (TX9 a).2.1 ≠ (TX9 b).2.1 := by decide +kernel
theorem tyX9_ok : ∀ k, k < 0 → parseFieldDescriptor (TX9 k).2.2.1 = some (tyX9 k) := by decide +kernel
def RJx145de : String := "java/io/Serializable"
def TJx145de : u_T := fun k => match k with
  | _ => ("", "", "", false)
def tyJx145de : Nat → FieldType := fun k => match k with
  | _ => .int
abbrev wsJx145de0 : List Cond := u_ws RJx145de TJx145de 0
theorem nmJx145de : ∀ a, a < 0 → ∀ b, b < 0 → a ≠ b → (TJx145de a).2.1 ≠ (TJx145de b).2.1 := by decide +kernel
theorem tyJx145de_ok : ∀ k, k < 0 → parseFieldDescriptor (TJx145de k).2.2.1 = some (tyJx145de k) := by decide +kernel
def RJ13 : String := "java/lang/Long"
def TJ13 : u_T := fun k => match k with
  | _ => ("", "", "", false)
def tyJ13 : Nat → FieldType := fun k => match k with
  | _ => .int
abbrev wsJ130 : List Cond := u_ws RJ13 TJ13 0
theorem nmJ13 : ∀ a, a < 0 → ∀ b, b < 0 → a ≠ b → (TJ13 a).2.1 ≠ (TJ13 b).2.1 := by decide +kernel
theorem tyJ13_ok : ∀ k, k < 0 → parseFieldDescriptor (TJ13 k).2.2.1 = some (tyJ13 k) := by decide +kernel
abbrev cJ13_bitCount_95d88 : ByteArray := prog_16_method_50_code
def yJ13_bitCount_95d88 : MethodName := ⟨RJ13, "bitCount", "(J)I"⟩
def RJ9 : String := "java/lang/Math"
def TJ9 : u_T := fun k => match k with
  | _ => ("", "", "", false)
def tyJ9 : Nat → FieldType := fun k => match k with
  | _ => .int
abbrev wsJ90 : List Cond := u_ws RJ9 TJ9 0
theorem nmJ9 : ∀ a, a < 0 → ∀ b, b < 0 → a ≠ b → (TJ9 a).2.1 ≠ (TJ9 b).2.1 := by decide +kernel
theorem tyJ9_ok : ∀ k, k < 0 → parseFieldDescriptor (TJ9 k).2.2.1 = some (tyJ9 k) := by decide +kernel
abbrev cJ9_floorMod_7cf53 : ByteArray := prog_17_method_50_code
def yJ9_floorMod_7cf53 : MethodName := ⟨RJ9, "floorMod", "(II)I"⟩
def RJ0 : String := "java/lang/String"
def TJ0 : u_T := fun k => match k with
  | _ => ("", "", "", false)
def tyJ0 : Nat → FieldType := fun k => match k with
  | _ => .int
abbrev wsJ00 : List Cond := u_ws RJ0 TJ0 0
theorem nmJ0 : ∀ a, a < 0 → ∀ b, b < 0 → a ≠ b → (TJ0 a).2.1 ≠ (TJ0 b).2.1 := by decide +kernel
theorem tyJ0_ok : ∀ k, k < 0 → parseFieldDescriptor (TJ0 k).2.2.1 = some (tyJ0 k) := by decide +kernel
def RJ10 : String := "java/lang/System"
def TJ10 : u_T := fun k => match k with
  | _ => ("", "", "", false)
def tyJ10 : Nat → FieldType := fun k => match k with
  | _ => .int
abbrev wsJ100 : List Cond := u_ws RJ10 TJ10 0
theorem nmJ10 : ∀ a, a < 0 → ∀ b, b < 0 → a ≠ b → (TJ10 a).2.1 ≠ (TJ10 b).2.1 := by decide +kernel
theorem tyJ10_ok : ∀ k, k < 0 → parseFieldDescriptor (TJ10 k).2.2.1 = some (tyJ10 k) := by decide +kernel
def RJ7 : String := "java/util/Arrays"
def TJ7 : u_T := fun k => match k with
  | _ => ("", "", "", false)
def tyJ7 : Nat → FieldType := fun k => match k with
  | _ => .int
abbrev wsJ70 : List Cond := u_ws RJ7 TJ7 0
theorem nmJ7 : ∀ a, a < 0 → ∀ b, b < 0 → a ≠ b → (TJ7 a).2.1 ≠ (TJ7 b).2.1 := by decide +kernel
theorem tyJ7_ok : ∀ k, k < 0 → parseFieldDescriptor (TJ7 k).2.2.1 = some (tyJ7 k) := by decide +kernel
abbrev cJ7_fill_53178 : ByteArray := prog_22_method_103_code
def yJ7_fill_53178 : MethodName := ⟨RJ7, "fill", "([II)V"⟩
def RL : String := "BarredGridLaw"
abbrev cL_cell : ByteArray := method_2_code
def yL_cell : MethodName := ⟨RL, "cell", "([II)I"⟩
abbrev cL_low : ByteArray := method_3_code
def yL_low : MethodName := ⟨RL, "low", "(II)I"⟩
abbrev cL_first : ByteArray := method_4_code
def yL_first : MethodName := ⟨RL, "first", "(II[I)I"⟩
abbrev cL_length : ByteArray := method_5_code
def yL_length : MethodName := ⟨RL, "length", "(II[I)I"⟩
abbrev cL_starts : ByteArray := method_6_code
def yL_starts : MethodName := ⟨RL, "starts", "(II[I)Z"⟩
abbrev cL_in : ByteArray := method_7_code
def yL_in : MethodName := ⟨RL, "in", "(I[I)I"⟩
abbrev cL_entry : ByteArray := method_8_code
def yL_entry : MethodName := ⟨RL, "entry", "(II[I)I"⟩
abbrev cL_clue : ByteArray := method_9_code
def yL_clue : MethodName := ⟨RL, "clue", "(I[I)I"⟩
abbrev cL_keeps : ByteArray := method_10_code
def yL_keeps : MethodName := ⟨RL, "keeps", "(I[I)Z"⟩
abbrev cL_kept : ByteArray := method_11_code
def yL_kept : MethodName := ⟨RL, "kept", "([I)I"⟩
abbrev cL_knight : ByteArray := method_12_code
def yL_knight : MethodName := ⟨RL, "knight", "(II[I)Z"⟩
abbrev cL_readings : ByteArray := method_13_code
def yL_readings : MethodName := ⟨RL, "readings", "(Z[I[I[I)I"⟩
abbrev cL_fits : ByteArray := method_14_code
def yL_fits : MethodName := ⟨RL, "fits", "(III[I[I)Z"⟩
abbrev cL_fillings : ByteArray := method_15_code
def yL_fillings : MethodName := ⟨RL, "fillings", "(I[I[I)I"⟩
abbrev cL_cells : ByteArray := method_16_code
def yL_cells : MethodName := ⟨RL, "cells", "(LBarredGrid;[I)Z"⟩
abbrev cL_entries : ByteArray := method_17_code
def yL_entries : MethodName := ⟨RL, "entries", "(LBarredGrid;I[I[I)Z"⟩
abbrev cL_mend : ByteArray := method_18_code
def yL_mend : MethodName := ⟨RL, "mend", "([I)I"⟩
abbrev cL_typed : ByteArray := method_19_code
def yL_typed : MethodName := ⟨RL, "typed", "(LBarredGrid;[II[I[I[I)Z"⟩
abbrev cL_law : ByteArray := code
def yL_law : MethodName := ⟨RL, "law", "([I)Z"⟩
set_option maxRecDepth 20000 in
abbrev vwCl : List vw_C := [(RX1, TX1, 4), (RX2, TX2, 7), (RX3, TX3, 5), (RX4, TX4, 10), (RX6, TX6, 10), (RX7, TX7, 4), (RX8, TX8, 6)]
/-! ===== END printed: names ===== -/

