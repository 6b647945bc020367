section
-- ===== PART A: goes FIRST, ahead of the names: the tables' words, and 'selects' of the private methods out of them =====
/-- a private method of a class that the tables say can be made, by its rows of tables_1 -/
def lw_okq (q : MethodName × Nat) : Prop := (q.1.cls ≠ "java/lang/invoke/MethodHandle" ∧ q.1.cls ≠ "java/lang/invoke/VarHandle") ∧ Cond.instantiable q.1.cls q.2 ∈ tables_1 ∧ Cond.privateMethod q.1 ∈ tables_1 ∧ Cond.instanceMethod q.1 ∈ tables_1
theorem lw_p0 : lw_okq (⟨"BarredGrid$Puzzle", "layOut", "()V"⟩, 10) := ⟨⟨by decide +kernel, by decide +kernel⟩, List.mem_of_getElem? (i := 102) (by decide +kernel), List.mem_of_getElem? (i := 110) (by decide +kernel), List.mem_of_getElem? (i := 111) (by decide +kernel)⟩
theorem lw_p1 : lw_okq (⟨"BarredGrid$Puzzle", "addEntry", "(IZ)V"⟩, 10) := ⟨⟨by decide +kernel, by decide +kernel⟩, List.mem_of_getElem? (i := 102) (by decide +kernel), List.mem_of_getElem? (i := 133) (by decide +kernel), List.mem_of_getElem? (i := 134) (by decide +kernel)⟩
theorem lw_p2 : lw_okq (⟨"BarredGrid$TextBuffer", "goesPast", "(I)Z"⟩, 4) := ⟨⟨by decide +kernel, by decide +kernel⟩, List.mem_of_getElem? (i := 30) (by decide +kernel), List.mem_of_getElem? (i := 292) (by decide +kernel), List.mem_of_getElem? (i := 293) (by decide +kernel)⟩
theorem lw_p3 : lw_okq (⟨"BarredGrid$TextBuffer", "readSize", "()Z"⟩, 4) := ⟨⟨by decide +kernel, by decide +kernel⟩, List.mem_of_getElem? (i := 30) (by decide +kernel), List.mem_of_getElem? (i := 300) (by decide +kernel), List.mem_of_getElem? (i := 301) (by decide +kernel)⟩
theorem lw_p4 : lw_okq (⟨"BarredGrid$TextBuffer", "readCells", "()Z"⟩, 4) := ⟨⟨by decide +kernel, by decide +kernel⟩, List.mem_of_getElem? (i := 30) (by decide +kernel), List.mem_of_getElem? (i := 309) (by decide +kernel), List.mem_of_getElem? (i := 310) (by decide +kernel)⟩
theorem lw_p5 : lw_okq (⟨"BarredGrid$TextBuffer", "readBar", "(IZI)V"⟩, 4) := ⟨⟨by decide +kernel, by decide +kernel⟩, List.mem_of_getElem? (i := 30) (by decide +kernel), List.mem_of_getElem? (i := 322) (by decide +kernel), List.mem_of_getElem? (i := 323) (by decide +kernel)⟩
theorem lw_p6 : lw_okq (⟨"BarredGrid$TextBuffer", "readParts", "()Z"⟩, 4) := ⟨⟨by decide +kernel, by decide +kernel⟩, List.mem_of_getElem? (i := 30) (by decide +kernel), List.mem_of_getElem? (i := 332) (by decide +kernel), List.mem_of_getElem? (i := 333) (by decide +kernel)⟩
theorem lw_p7 : lw_okq (⟨"BarredGrid$TextBuffer", "readWord", "()Z"⟩, 4) := ⟨⟨by decide +kernel, by decide +kernel⟩, List.mem_of_getElem? (i := 30) (by decide +kernel), List.mem_of_getElem? (i := 336) (by decide +kernel), List.mem_of_getElem? (i := 337) (by decide +kernel)⟩
theorem lw_p8 : lw_okq (⟨"BarredGrid$TextBuffer", "readLine", "()Z"⟩, 4) := ⟨⟨by decide +kernel, by decide +kernel⟩, List.mem_of_getElem? (i := 30) (by decide +kernel), List.mem_of_getElem? (i := 356) (by decide +kernel), List.mem_of_getElem? (i := 357) (by decide +kernel)⟩
theorem lw_p9 : lw_okq (⟨"BarredGrid$LineSearch", "visit", "(LBarredGrid$Puzzle;II)V"⟩, 7) := ⟨⟨by decide +kernel, by decide +kernel⟩, List.mem_of_getElem? (i := 210) (by decide +kernel), List.mem_of_getElem? (i := 374) (by decide +kernel), List.mem_of_getElem? (i := 375) (by decide +kernel)⟩
theorem lw_p10 : lw_okq (⟨"BarredGrid$LineSearch", "isAllowed", "(LBarredGrid$Puzzle;II)Z"⟩, 7) := ⟨⟨by decide +kernel, by decide +kernel⟩, List.mem_of_getElem? (i := 210) (by decide +kernel), List.mem_of_getElem? (i := 378) (by decide +kernel), List.mem_of_getElem? (i := 379) (by decide +kernel)⟩
theorem lw_p11 : lw_okq (⟨"BarredGrid$LineSearch", "keepPath", "(I)V"⟩, 7) := ⟨⟨by decide +kernel, by decide +kernel⟩, List.mem_of_getElem? (i := 210) (by decide +kernel), List.mem_of_getElem? (i := 394) (by decide +kernel), List.mem_of_getElem? (i := 395) (by decide +kernel)⟩
theorem lw_p12 : lw_okq (⟨"BarredGrid$LineSearch", "visitBehind", "(LBarredGrid$Puzzle;II)V"⟩, 7) := ⟨⟨by decide +kernel, by decide +kernel⟩, List.mem_of_getElem? (i := 210) (by decide +kernel), List.mem_of_getElem? (i := 401) (by decide +kernel), List.mem_of_getElem? (i := 402) (by decide +kernel)⟩
theorem lw_p13 : lw_okq (⟨"BarredGrid$Filler", "giveFrom", "(LBarredGrid$Puzzle;I)V"⟩, 4) := ⟨⟨by decide +kernel, by decide +kernel⟩, List.mem_of_getElem? (i := 238) (by decide +kernel), List.mem_of_getElem? (i := 456) (by decide +kernel), List.mem_of_getElem? (i := 457) (by decide +kernel)⟩
theorem lw_p14 : lw_okq (⟨"BarredGrid$Filler", "agrees", "(LBarredGrid$Puzzle;II)Z"⟩, 4) := ⟨⟨by decide +kernel, by decide +kernel⟩, List.mem_of_getElem? (i := 238) (by decide +kernel), List.mem_of_getElem? (i := 460) (by decide +kernel), List.mem_of_getElem? (i := 461) (by decide +kernel)⟩
theorem lw_p15 : lw_okq (⟨"BarredGrid$Filler", "give", "(LBarredGrid$Puzzle;II)V"⟩, 4) := ⟨⟨by decide +kernel, by decide +kernel⟩, List.mem_of_getElem? (i := 238) (by decide +kernel), List.mem_of_getElem? (i := 480) (by decide +kernel), List.mem_of_getElem? (i := 481) (by decide +kernel)⟩
def lw_privs_1 : List (MethodName × Nat) := [(⟨"BarredGrid$Puzzle", "layOut", "()V"⟩, 10), (⟨"BarredGrid$Puzzle", "addEntry", "(IZ)V"⟩, 10), (⟨"BarredGrid$TextBuffer", "goesPast", "(I)Z"⟩, 4), (⟨"BarredGrid$TextBuffer", "readSize", "()Z"⟩, 4), (⟨"BarredGrid$TextBuffer", "readCells", "()Z"⟩, 4), (⟨"BarredGrid$TextBuffer", "readBar", "(IZI)V"⟩, 4), (⟨"BarredGrid$TextBuffer", "readParts", "()Z"⟩, 4), (⟨"BarredGrid$TextBuffer", "readWord", "()Z"⟩, 4), (⟨"BarredGrid$TextBuffer", "readLine", "()Z"⟩, 4), (⟨"BarredGrid$LineSearch", "visit", "(LBarredGrid$Puzzle;II)V"⟩, 7), (⟨"BarredGrid$LineSearch", "isAllowed", "(LBarredGrid$Puzzle;II)Z"⟩, 7), (⟨"BarredGrid$LineSearch", "keepPath", "(I)V"⟩, 7), (⟨"BarredGrid$LineSearch", "visitBehind", "(LBarredGrid$Puzzle;II)V"⟩, 7), (⟨"BarredGrid$Filler", "giveFrom", "(LBarredGrid$Puzzle;I)V"⟩, 4), (⟨"BarredGrid$Filler", "agrees", "(LBarredGrid$Puzzle;II)Z"⟩, 4), (⟨"BarredGrid$Filler", "give", "(LBarredGrid$Puzzle;II)V"⟩, 4)]
theorem lw_r1 : ∀ q ∈ lw_privs_1, lw_okq q := List.forall_mem_cons.mpr ⟨lw_p0, List.forall_mem_cons.mpr ⟨lw_p1, List.forall_mem_cons.mpr ⟨lw_p2, List.forall_mem_cons.mpr ⟨lw_p3, List.forall_mem_cons.mpr ⟨lw_p4, List.forall_mem_cons.mpr ⟨lw_p5, List.forall_mem_cons.mpr ⟨lw_p6, List.forall_mem_cons.mpr ⟨lw_p7, List.forall_mem_cons.mpr ⟨lw_p8, List.forall_mem_cons.mpr ⟨lw_p9, List.forall_mem_cons.mpr ⟨lw_p10, List.forall_mem_cons.mpr ⟨lw_p11, List.forall_mem_cons.mpr ⟨lw_p12, List.forall_mem_cons.mpr ⟨lw_p13, List.forall_mem_cons.mpr ⟨lw_p14, List.forall_mem_cons.mpr ⟨lw_p15, fun _ h => absurd h List.not_mem_nil⟩⟩⟩⟩⟩⟩⟩⟩⟩⟩⟩⟩⟩⟩⟩⟩
theorem lw_p16 : lw_okq (⟨"java/lang/Throwable", "fillInStackTrace", "(I)Ljava/lang/Throwable;"⟩, 6) := ⟨⟨by decide +kernel, by decide +kernel⟩, List.mem_of_getElem? (i := 608) (by decide +kernel), List.mem_of_getElem? (i := 606) (by decide +kernel), List.mem_of_getElem? (i := 607) (by decide +kernel)⟩
theorem lw_p17 : lw_okq (⟨"BarredGrid", "requireCell", "(I)V"⟩, 6) := ⟨⟨by decide +kernel, by decide +kernel⟩, List.mem_of_getElem? (i := 22) (by decide +kernel), List.mem_of_getElem? (i := 705) (by decide +kernel), List.mem_of_getElem? (i := 706) (by decide +kernel)⟩
theorem lw_p18 : lw_okq (⟨"BarredGrid", "requireEntry", "(I)V"⟩, 6) := ⟨⟨by decide +kernel, by decide +kernel⟩, List.mem_of_getElem? (i := 22) (by decide +kernel), List.mem_of_getElem? (i := 741) (by decide +kernel), List.mem_of_getElem? (i := 742) (by decide +kernel)⟩
theorem lw_p19 : lw_okq (⟨"BarredGrid", "requireWord", "(I)V"⟩, 6) := ⟨⟨by decide +kernel, by decide +kernel⟩, List.mem_of_getElem? (i := 22) (by decide +kernel), List.mem_of_getElem? (i := 763) (by decide +kernel), List.mem_of_getElem? (i := 764) (by decide +kernel)⟩
theorem lw_p20 : lw_okq (⟨"BarredGrid$Memory", "at", "(I)LBarredGrid$State;"⟩, 5) := ⟨⟨by decide +kernel, by decide +kernel⟩, List.mem_of_getElem? (i := 184) (by decide +kernel), List.mem_of_getElem? (i := 812) (by decide +kernel), List.mem_of_getElem? (i := 813) (by decide +kernel)⟩
theorem lw_p21 : lw_okq (⟨"BarredGrid", "simulateRound", "(I)V"⟩, 6) := ⟨⟨by decide +kernel, by decide +kernel⟩, List.mem_of_getElem? (i := 22) (by decide +kernel), List.mem_of_getElem? (i := 938) (by decide +kernel), List.mem_of_getElem? (i := 939) (by decide +kernel)⟩
theorem lw_p22 : lw_okq (⟨"BarredGridModel", "findEntries", "()V"⟩, 20) := ⟨⟨by decide +kernel, by decide +kernel⟩, List.mem_of_getElem? (i := 973) (by decide +kernel), List.mem_of_getElem? (i := 979) (by decide +kernel), List.mem_of_getElem? (i := 980) (by decide +kernel)⟩
theorem lw_p23 : lw_okq (⟨"BarredGridModel", "size", "()I"⟩, 20) := ⟨⟨by decide +kernel, by decide +kernel⟩, List.mem_of_getElem? (i := 973) (by decide +kernel), List.mem_of_getElem? (i := 983) (by decide +kernel), List.mem_of_getElem? (i := 984) (by decide +kernel)⟩
theorem lw_p24 : lw_okq (⟨"BarredGridModel", "endsRight", "(I)Z"⟩, 20) := ⟨⟨by decide +kernel, by decide +kernel⟩, List.mem_of_getElem? (i := 973) (by decide +kernel), List.mem_of_getElem? (i := 987) (by decide +kernel), List.mem_of_getElem? (i := 988) (by decide +kernel)⟩
theorem lw_p25 : lw_okq (⟨"BarredGridModel", "isLastColumn", "(I)Z"⟩, 20) := ⟨⟨by decide +kernel, by decide +kernel⟩, List.mem_of_getElem? (i := 973) (by decide +kernel), List.mem_of_getElem? (i := 991) (by decide +kernel), List.mem_of_getElem? (i := 992) (by decide +kernel)⟩
theorem lw_p26 : lw_okq (⟨"BarredGridModel", "endsBelow", "(I)Z"⟩, 20) := ⟨⟨by decide +kernel, by decide +kernel⟩, List.mem_of_getElem? (i := 973) (by decide +kernel), List.mem_of_getElem? (i := 995) (by decide +kernel), List.mem_of_getElem? (i := 996) (by decide +kernel)⟩
theorem lw_p27 : lw_okq (⟨"BarredGridModel", "isLastRow", "(I)Z"⟩, 20) := ⟨⟨by decide +kernel, by decide +kernel⟩, List.mem_of_getElem? (i := 973) (by decide +kernel), List.mem_of_getElem? (i := 999) (by decide +kernel), List.mem_of_getElem? (i := 1000) (by decide +kernel)⟩
theorem lw_p28 : lw_okq (⟨"BarredGridModel", "addEntry", "(III)V"⟩, 20) := ⟨⟨by decide +kernel, by decide +kernel⟩, List.mem_of_getElem? (i := 973) (by decide +kernel), List.mem_of_getElem? (i := 1003) (by decide +kernel), List.mem_of_getElem? (i := 1004) (by decide +kernel)⟩
theorem lw_p29 : lw_okq (⟨"BarredGridModel", "readText", "()I"⟩, 20) := ⟨⟨by decide +kernel, by decide +kernel⟩, List.mem_of_getElem? (i := 973) (by decide +kernel), List.mem_of_getElem? (i := 1084) (by decide +kernel), List.mem_of_getElem? (i := 1085) (by decide +kernel)⟩
theorem lw_p30 : lw_okq (⟨"BarredGridModel", "character", "(I)I"⟩, 20) := ⟨⟨by decide +kernel, by decide +kernel⟩, List.mem_of_getElem? (i := 973) (by decide +kernel), List.mem_of_getElem? (i := 1088) (by decide +kernel), List.mem_of_getElem? (i := 1089) (by decide +kernel)⟩
theorem lw_p31 : lw_okq (⟨"BarredGridModel", "readParts", "(I)I"⟩, 20) := ⟨⟨by decide +kernel, by decide +kernel⟩, List.mem_of_getElem? (i := 973) (by decide +kernel), List.mem_of_getElem? (i := 1098) (by decide +kernel), List.mem_of_getElem? (i := 1099) (by decide +kernel)⟩
def lw_privs_2 : List (MethodName × Nat) := [(⟨"java/lang/Throwable", "fillInStackTrace", "(I)Ljava/lang/Throwable;"⟩, 6), (⟨"BarredGrid", "requireCell", "(I)V"⟩, 6), (⟨"BarredGrid", "requireEntry", "(I)V"⟩, 6), (⟨"BarredGrid", "requireWord", "(I)V"⟩, 6), (⟨"BarredGrid$Memory", "at", "(I)LBarredGrid$State;"⟩, 5), (⟨"BarredGrid", "simulateRound", "(I)V"⟩, 6), (⟨"BarredGridModel", "findEntries", "()V"⟩, 20), (⟨"BarredGridModel", "size", "()I"⟩, 20), (⟨"BarredGridModel", "endsRight", "(I)Z"⟩, 20), (⟨"BarredGridModel", "isLastColumn", "(I)Z"⟩, 20), (⟨"BarredGridModel", "endsBelow", "(I)Z"⟩, 20), (⟨"BarredGridModel", "isLastRow", "(I)Z"⟩, 20), (⟨"BarredGridModel", "addEntry", "(III)V"⟩, 20), (⟨"BarredGridModel", "readText", "()I"⟩, 20), (⟨"BarredGridModel", "character", "(I)I"⟩, 20), (⟨"BarredGridModel", "readParts", "(I)I"⟩, 20)]
theorem lw_r2 : ∀ q ∈ lw_privs_2, lw_okq q := List.forall_mem_cons.mpr ⟨lw_p16, List.forall_mem_cons.mpr ⟨lw_p17, List.forall_mem_cons.mpr ⟨lw_p18, List.forall_mem_cons.mpr ⟨lw_p19, List.forall_mem_cons.mpr ⟨lw_p20, List.forall_mem_cons.mpr ⟨lw_p21, List.forall_mem_cons.mpr ⟨lw_p22, List.forall_mem_cons.mpr ⟨lw_p23, List.forall_mem_cons.mpr ⟨lw_p24, List.forall_mem_cons.mpr ⟨lw_p25, List.forall_mem_cons.mpr ⟨lw_p26, List.forall_mem_cons.mpr ⟨lw_p27, List.forall_mem_cons.mpr ⟨lw_p28, List.forall_mem_cons.mpr ⟨lw_p29, List.forall_mem_cons.mpr ⟨lw_p30, List.forall_mem_cons.mpr ⟨lw_p31, fun _ h => absurd h List.not_mem_nil⟩⟩⟩⟩⟩⟩⟩⟩⟩⟩⟩⟩⟩⟩⟩⟩
theorem lw_p32 : lw_okq (⟨"BarredGridModel", "cellsIn", "(I)I"⟩, 20) := ⟨⟨by decide +kernel, by decide +kernel⟩, List.mem_of_getElem? (i := 973) (by decide +kernel), List.mem_of_getElem? (i := 1113) (by decide +kernel), List.mem_of_getElem? (i := 1114) (by decide +kernel)⟩
theorem lw_p33 : lw_okq (⟨"BarredGridModel", "entriesOf", "(I)I"⟩, 20) := ⟨⟨by decide +kernel, by decide +kernel⟩, List.mem_of_getElem? (i := 973) (by decide +kernel), List.mem_of_getElem? (i := 1117) (by decide +kernel), List.mem_of_getElem? (i := 1118) (by decide +kernel)⟩
theorem lw_p34 : lw_okq (⟨"BarredGridModel", "bars", "()I"⟩, 20) := ⟨⟨by decide +kernel, by decide +kernel⟩, List.mem_of_getElem? (i := 973) (by decide +kernel), List.mem_of_getElem? (i := 1121) (by decide +kernel), List.mem_of_getElem? (i := 1122) (by decide +kernel)⟩
theorem lw_p35 : lw_okq (⟨"BarredGridModel", "isCell", "(I)Z"⟩, 20) := ⟨⟨by decide +kernel, by decide +kernel⟩, List.mem_of_getElem? (i := 973) (by decide +kernel), List.mem_of_getElem? (i := 1129) (by decide +kernel), List.mem_of_getElem? (i := 1130) (by decide +kernel)⟩
theorem lw_p36 : lw_okq (⟨"BarredGridModel", "isEntry", "(I)Z"⟩, 20) := ⟨⟨by decide +kernel, by decide +kernel⟩, List.mem_of_getElem? (i := 973) (by decide +kernel), List.mem_of_getElem? (i := 1137) (by decide +kernel), List.mem_of_getElem? (i := 1138) (by decide +kernel)⟩
theorem lw_p37 : lw_okq (⟨"BarredGridModel", "uncheckedIn", "(I)I"⟩, 20) := ⟨⟨by decide +kernel, by decide +kernel⟩, List.mem_of_getElem? (i := 973) (by decide +kernel), List.mem_of_getElem? (i := 1141) (by decide +kernel), List.mem_of_getElem? (i := 1142) (by decide +kernel)⟩
theorem lw_p38 : lw_okq (⟨"BarredGridModel", "cellOf", "(II)I"⟩, 20) := ⟨⟨by decide +kernel, by decide +kernel⟩, List.mem_of_getElem? (i := 973) (by decide +kernel), List.mem_of_getElem? (i := 1145) (by decide +kernel), List.mem_of_getElem? (i := 1146) (by decide +kernel)⟩
theorem lw_p39 : lw_okq (⟨"BarredGridModel", "emptyIn", "(I)I"⟩, 20) := ⟨⟨by decide +kernel, by decide +kernel⟩, List.mem_of_getElem? (i := 973) (by decide +kernel), List.mem_of_getElem? (i := 1149) (by decide +kernel), List.mem_of_getElem? (i := 1150) (by decide +kernel)⟩
theorem lw_p40 : lw_okq (⟨"BarredGridModel", "wordIn", "(I)I"⟩, 20) := ⟨⟨by decide +kernel, by decide +kernel⟩, List.mem_of_getElem? (i := 973) (by decide +kernel), List.mem_of_getElem? (i := 1153) (by decide +kernel), List.mem_of_getElem? (i := 1154) (by decide +kernel)⟩
theorem lw_p41 : lw_okq (⟨"BarredGridModel", "isFitting", "(II)Z"⟩, 20) := ⟨⟨by decide +kernel, by decide +kernel⟩, List.mem_of_getElem? (i := 973) (by decide +kernel), List.mem_of_getElem? (i := 1157) (by decide +kernel), List.mem_of_getElem? (i := 1158) (by decide +kernel)⟩
theorem lw_p42 : lw_okq (⟨"BarredGridModel", "letterOf", "(II)I"⟩, 20) := ⟨⟨by decide +kernel, by decide +kernel⟩, List.mem_of_getElem? (i := 973) (by decide +kernel), List.mem_of_getElem? (i := 1161) (by decide +kernel), List.mem_of_getElem? (i := 1162) (by decide +kernel)⟩
theorem lw_p43 : lw_okq (⟨"BarredGridModel", "isWord", "(I)Z"⟩, 20) := ⟨⟨by decide +kernel, by decide +kernel⟩, List.mem_of_getElem? (i := 973) (by decide +kernel), List.mem_of_getElem? (i := 1169) (by decide +kernel), List.mem_of_getElem? (i := 1170) (by decide +kernel)⟩
theorem lw_p44 : lw_okq (⟨"BarredGridModel", "fitsOf", "(I)I"⟩, 20) := ⟨⟨by decide +kernel, by decide +kernel⟩, List.mem_of_getElem? (i := 973) (by decide +kernel), List.mem_of_getElem? (i := 1177) (by decide +kernel), List.mem_of_getElem? (i := 1178) (by decide +kernel)⟩
theorem lw_p45 : lw_okq (⟨"BarredGridModel", "keeps", "(I)Z"⟩, 20) := ⟨⟨by decide +kernel, by decide +kernel⟩, List.mem_of_getElem? (i := 973) (by decide +kernel), List.mem_of_getElem? (i := 1188) (by decide +kernel), List.mem_of_getElem? (i := 1189) (by decide +kernel)⟩
theorem lw_p46 : lw_okq (⟨"BarredGridModel", "isTurned", "()Z"⟩, 20) := ⟨⟨by decide +kernel, by decide +kernel⟩, List.mem_of_getElem? (i := 973) (by decide +kernel), List.mem_of_getElem? (i := 1192) (by decide +kernel), List.mem_of_getElem? (i := 1193) (by decide +kernel)⟩
theorem lw_p47 : lw_okq (⟨"BarredGridModel", "isWellChecked", "()Z"⟩, 20) := ⟨⟨by decide +kernel, by decide +kernel⟩, List.mem_of_getElem? (i := 973) (by decide +kernel), List.mem_of_getElem? (i := 1196) (by decide +kernel), List.mem_of_getElem? (i := 1197) (by decide +kernel)⟩
def lw_privs_3 : List (MethodName × Nat) := [(⟨"BarredGridModel", "cellsIn", "(I)I"⟩, 20), (⟨"BarredGridModel", "entriesOf", "(I)I"⟩, 20), (⟨"BarredGridModel", "bars", "()I"⟩, 20), (⟨"BarredGridModel", "isCell", "(I)Z"⟩, 20), (⟨"BarredGridModel", "isEntry", "(I)Z"⟩, 20), (⟨"BarredGridModel", "uncheckedIn", "(I)I"⟩, 20), (⟨"BarredGridModel", "cellOf", "(II)I"⟩, 20), (⟨"BarredGridModel", "emptyIn", "(I)I"⟩, 20), (⟨"BarredGridModel", "wordIn", "(I)I"⟩, 20), (⟨"BarredGridModel", "isFitting", "(II)Z"⟩, 20), (⟨"BarredGridModel", "letterOf", "(II)I"⟩, 20), (⟨"BarredGridModel", "isWord", "(I)Z"⟩, 20), (⟨"BarredGridModel", "fitsOf", "(I)I"⟩, 20), (⟨"BarredGridModel", "keeps", "(I)Z"⟩, 20), (⟨"BarredGridModel", "isTurned", "()Z"⟩, 20), (⟨"BarredGridModel", "isWellChecked", "()Z"⟩, 20)]
theorem lw_r3 : ∀ q ∈ lw_privs_3, lw_okq q := List.forall_mem_cons.mpr ⟨lw_p32, List.forall_mem_cons.mpr ⟨lw_p33, List.forall_mem_cons.mpr ⟨lw_p34, List.forall_mem_cons.mpr ⟨lw_p35, List.forall_mem_cons.mpr ⟨lw_p36, List.forall_mem_cons.mpr ⟨lw_p37, List.forall_mem_cons.mpr ⟨lw_p38, List.forall_mem_cons.mpr ⟨lw_p39, List.forall_mem_cons.mpr ⟨lw_p40, List.forall_mem_cons.mpr ⟨lw_p41, List.forall_mem_cons.mpr ⟨lw_p42, List.forall_mem_cons.mpr ⟨lw_p43, List.forall_mem_cons.mpr ⟨lw_p44, List.forall_mem_cons.mpr ⟨lw_p45, List.forall_mem_cons.mpr ⟨lw_p46, List.forall_mem_cons.mpr ⟨lw_p47, fun _ h => absurd h List.not_mem_nil⟩⟩⟩⟩⟩⟩⟩⟩⟩⟩⟩⟩⟩⟩⟩⟩
theorem lw_p48 : lw_okq (⟨"BarredGridModel", "isWithoutPairs", "()Z"⟩, 20) := ⟨⟨by decide +kernel, by decide +kernel⟩, List.mem_of_getElem? (i := 973) (by decide +kernel), List.mem_of_getElem? (i := 1200) (by decide +kernel), List.mem_of_getElem? (i := 1201) (by decide +kernel)⟩
theorem lw_p49 : lw_okq (⟨"BarredGridModel", "isConnected", "()Z"⟩, 20) := ⟨⟨by decide +kernel, by decide +kernel⟩, List.mem_of_getElem? (i := 973) (by decide +kernel), List.mem_of_getElem? (i := 1204) (by decide +kernel), List.mem_of_getElem? (i := 1205) (by decide +kernel)⟩
theorem lw_p50 : lw_okq (⟨"BarredGridModel", "countReadings", "(ZI)I"⟩, 20) := ⟨⟨by decide +kernel, by decide +kernel⟩, List.mem_of_getElem? (i := 973) (by decide +kernel), List.mem_of_getElem? (i := 1213) (by decide +kernel), List.mem_of_getElem? (i := 1214) (by decide +kernel)⟩
theorem lw_p51 : lw_okq (⟨"BarredGridModel", "canRead", "(IIZ)Z"⟩, 20) := ⟨⟨by decide +kernel, by decide +kernel⟩, List.mem_of_getElem? (i := 973) (by decide +kernel), List.mem_of_getElem? (i := 1217) (by decide +kernel), List.mem_of_getElem? (i := 1218) (by decide +kernel)⟩
theorem lw_p52 : lw_okq (⟨"BarredGridModel", "isKnightStep", "(II)Z"⟩, 20) := ⟨⟨by decide +kernel, by decide +kernel⟩, List.mem_of_getElem? (i := 973) (by decide +kernel), List.mem_of_getElem? (i := 1221) (by decide +kernel), List.mem_of_getElem? (i := 1222) (by decide +kernel)⟩
theorem lw_p53 : lw_okq (⟨"BarredGridModel", "remember", "()V"⟩, 20) := ⟨⟨by decide +kernel, by decide +kernel⟩, List.mem_of_getElem? (i := 973) (by decide +kernel), List.mem_of_getElem? (i := 1236) (by decide +kernel), List.mem_of_getElem? (i := 1237) (by decide +kernel)⟩
theorem lw_p54 : lw_okq (⟨"BarredGridModel", "isRim", "(IZ)Z"⟩, 20) := ⟨⟨by decide +kernel, by decide +kernel⟩, List.mem_of_getElem? (i := 973) (by decide +kernel), List.mem_of_getElem? (i := 1244) (by decide +kernel), List.mem_of_getElem? (i := 1245) (by decide +kernel)⟩
theorem lw_p55 : lw_okq (⟨"BarredGridModel", "bar", "(IZI)V"⟩, 20) := ⟨⟨by decide +kernel, by decide +kernel⟩, List.mem_of_getElem? (i := 973) (by decide +kernel), List.mem_of_getElem? (i := 1248) (by decide +kernel), List.mem_of_getElem? (i := 1249) (by decide +kernel)⟩
theorem lw_p56 : lw_okq (⟨"BarredGridModel", "isLetters", "(I)Z"⟩, 20) := ⟨⟨by decide +kernel, by decide +kernel⟩, List.mem_of_getElem? (i := 973) (by decide +kernel), List.mem_of_getElem? (i := 1256) (by decide +kernel), List.mem_of_getElem? (i := 1257) (by decide +kernel)⟩
theorem lw_p57 : lw_okq (⟨"BarredGridModel", "writeWord", "(II)V"⟩, 20) := ⟨⟨by decide +kernel, by decide +kernel⟩, List.mem_of_getElem? (i := 973) (by decide +kernel), List.mem_of_getElem? (i := 1268) (by decide +kernel), List.mem_of_getElem? (i := 1269) (by decide +kernel)⟩
theorem lw_p58 : lw_okq (⟨"BarredGridModel", "eraseEntry", "(I)I"⟩, 20) := ⟨⟨by decide +kernel, by decide +kernel⟩, List.mem_of_getElem? (i := 973) (by decide +kernel), List.mem_of_getElem? (i := 1276) (by decide +kernel), List.mem_of_getElem? (i := 1277) (by decide +kernel)⟩
theorem lw_p59 : lw_okq (⟨"BarredGridModel", "canFill", "(II)Z"⟩, 20) := ⟨⟨by decide +kernel, by decide +kernel⟩, List.mem_of_getElem? (i := 973) (by decide +kernel), List.mem_of_getElem? (i := 1292) (by decide +kernel), List.mem_of_getElem? (i := 1293) (by decide +kernel)⟩
theorem lw_p60 : lw_okq (⟨"BarredGridModel", "kept", "()I"⟩, 20) := ⟨⟨by decide +kernel, by decide +kernel⟩, List.mem_of_getElem? (i := 973) (by decide +kernel), List.mem_of_getElem? (i := 1300) (by decide +kernel), List.mem_of_getElem? (i := 1301) (by decide +kernel)⟩
theorem lw_p61 : lw_okq (⟨"BarredGridModel", "change", "(IZ)V"⟩, 20) := ⟨⟨by decide +kernel, by decide +kernel⟩, List.mem_of_getElem? (i := 973) (by decide +kernel), List.mem_of_getElem? (i := 1304) (by decide +kernel), List.mem_of_getElem? (i := 1305) (by decide +kernel)⟩
theorem lw_p62 : lw_okq (⟨"BarredGridModel", "runs", "(I)Z"⟩, 20) := ⟨⟨by decide +kernel, by decide +kernel⟩, List.mem_of_getElem? (i := 973) (by decide +kernel), List.mem_of_getElem? (i := 1319) (by decide +kernel), List.mem_of_getElem? (i := 1320) (by decide +kernel)⟩
theorem lw_p63 : lw_okq (⟨"BarredGridModel", "putsLetter", "(II)Z"⟩, 20) := ⟨⟨by decide +kernel, by decide +kernel⟩, List.mem_of_getElem? (i := 973) (by decide +kernel), List.mem_of_getElem? (i := 1323) (by decide +kernel), List.mem_of_getElem? (i := 1324) (by decide +kernel)⟩
def lw_privs_4 : List (MethodName × Nat) := [(⟨"BarredGridModel", "isWithoutPairs", "()Z"⟩, 20), (⟨"BarredGridModel", "isConnected", "()Z"⟩, 20), (⟨"BarredGridModel", "countReadings", "(ZI)I"⟩, 20), (⟨"BarredGridModel", "canRead", "(IIZ)Z"⟩, 20), (⟨"BarredGridModel", "isKnightStep", "(II)Z"⟩, 20), (⟨"BarredGridModel", "remember", "()V"⟩, 20), (⟨"BarredGridModel", "isRim", "(IZ)Z"⟩, 20), (⟨"BarredGridModel", "bar", "(IZI)V"⟩, 20), (⟨"BarredGridModel", "isLetters", "(I)Z"⟩, 20), (⟨"BarredGridModel", "writeWord", "(II)V"⟩, 20), (⟨"BarredGridModel", "eraseEntry", "(I)I"⟩, 20), (⟨"BarredGridModel", "canFill", "(II)Z"⟩, 20), (⟨"BarredGridModel", "kept", "()I"⟩, 20), (⟨"BarredGridModel", "change", "(IZ)V"⟩, 20), (⟨"BarredGridModel", "runs", "(I)Z"⟩, 20), (⟨"BarredGridModel", "putsLetter", "(II)Z"⟩, 20)]
theorem lw_r4 : ∀ q ∈ lw_privs_4, lw_okq q := List.forall_mem_cons.mpr ⟨lw_p48, List.forall_mem_cons.mpr ⟨lw_p49, List.forall_mem_cons.mpr ⟨lw_p50, List.forall_mem_cons.mpr ⟨lw_p51, List.forall_mem_cons.mpr ⟨lw_p52, List.forall_mem_cons.mpr ⟨lw_p53, List.forall_mem_cons.mpr ⟨lw_p54, List.forall_mem_cons.mpr ⟨lw_p55, List.forall_mem_cons.mpr ⟨lw_p56, List.forall_mem_cons.mpr ⟨lw_p57, List.forall_mem_cons.mpr ⟨lw_p58, List.forall_mem_cons.mpr ⟨lw_p59, List.forall_mem_cons.mpr ⟨lw_p60, List.forall_mem_cons.mpr ⟨lw_p61, List.forall_mem_cons.mpr ⟨lw_p62, List.forall_mem_cons.mpr ⟨lw_p63, fun _ h => absurd h List.not_mem_nil⟩⟩⟩⟩⟩⟩⟩⟩⟩⟩⟩⟩⟩⟩⟩⟩
theorem lw_p64 : lw_okq (⟨"BarredGridModel", "setsBar", "(III)Z"⟩, 20) := ⟨⟨by decide +kernel, by decide +kernel⟩, List.mem_of_getElem? (i := 973) (by decide +kernel), List.mem_of_getElem? (i := 1327) (by decide +kernel), List.mem_of_getElem? (i := 1328) (by decide +kernel)⟩
theorem lw_p65 : lw_okq (⟨"BarredGridModel", "writes", "(II)Z"⟩, 20) := ⟨⟨by decide +kernel, by decide +kernel⟩, List.mem_of_getElem? (i := 973) (by decide +kernel), List.mem_of_getElem? (i := 1331) (by decide +kernel), List.mem_of_getElem? (i := 1332) (by decide +kernel)⟩
theorem lw_p66 : lw_okq (⟨"BarredGridModel", "erases", "(I)Z"⟩, 20) := ⟨⟨by decide +kernel, by decide +kernel⟩, List.mem_of_getElem? (i := 973) (by decide +kernel), List.mem_of_getElem? (i := 1335) (by decide +kernel), List.mem_of_getElem? (i := 1336) (by decide +kernel)⟩
def lw_privs_5 : List (MethodName × Nat) := [(⟨"BarredGridModel", "setsBar", "(III)Z"⟩, 20), (⟨"BarredGridModel", "writes", "(II)Z"⟩, 20), (⟨"BarredGridModel", "erases", "(I)Z"⟩, 20)]
theorem lw_r5 : ∀ q ∈ lw_privs_5, lw_okq q := List.forall_mem_cons.mpr ⟨lw_p64, List.forall_mem_cons.mpr ⟨lw_p65, List.forall_mem_cons.mpr ⟨lw_p66, fun _ h => absurd h List.not_mem_nil⟩⟩⟩
def lw_privs : List (MethodName × Nat) := lw_privs_1 ++ (lw_privs_2 ++ (lw_privs_3 ++ (lw_privs_4 ++ (lw_privs_5))))
def lw_tbl : List Cond := k2_sels lw_privs ++ tables_1
theorem lw_privs_ok : ∀ q ∈ lw_privs, lw_okq q := by
  show ∀ q ∈ lw_privs_1 ++ (lw_privs_2 ++ (lw_privs_3 ++ (lw_privs_4 ++ (lw_privs_5)))), lw_okq q
  exact List.forall_mem_append.mpr ⟨lw_r1, List.forall_mem_append.mpr ⟨lw_r2, List.forall_mem_append.mpr ⟨lw_r3, List.forall_mem_append.mpr ⟨lw_r4, lw_r5⟩⟩⟩⟩
-- ===== end of PART A
/-! ===== BEGIN words of one list among another's, by their places ===== -/
theorem goodIn_r {big : List Cond} (ws : List Cond) (ps : List Nat) (hp : ws = ps.filterMap (fun i => big[i]?)) (h : ws.all goodWord = true) : GoodIn big ws := by
  intro w hw
  have h1 := List.all_eq_true.mp h w hw
  rw [hp] at hw
  obtain ⟨i, -, hi⟩ := List.mem_filterMap.mp hw
  have hm : w ∈ big := by first | exact List.mem_of_getElem? hi | exact List.getElem?_mem hi
  exact ⟨hm, good_of_word h1⟩
theorem goodIn_app {big a b : List Cond} (ha : GoodIn big a) (hb : GoodIn big b) : GoodIn big (a ++ b) := fun w h => (List.mem_append.mp h).elim (ha w) (hb w)
theorem goodIn_ca {big a b : List Cond} {c : Cond} (ha : GoodIn big (c :: a)) (hb : GoodIn big b) : GoodIn big (c :: (a ++ b)) := fun w h => (List.mem_cons.mp h).elim (fun e => ha w (List.mem_cons.mpr (Or.inl e))) (fun h => (List.mem_append.mp h).elim (fun h => ha w (List.mem_cons.mpr (Or.inr h))) (hb w))
theorem goodIn_sub {big ws : List Cond} (hm : ∀ w ∈ ws, w ∈ big) (h : ws.all goodWord = true) : GoodIn big ws := fun w hw => ⟨hm w hw, good_of_word (List.all_eq_true.mp h w hw)⟩
/-! ===== END ===== -/

/-! ===== BEGIN exceptions that leave a method, and their catching by the caller (launches without stack traces) ===== -/
section VXA
/-! The laws vx_back, vx_callV, vx_callS, vx_callSW, vx_throw0, vx_throwS follow proofs of the library, with one case more: JvmDerived/Free/Laws.lean (Back.of_free), Shelf42/LK1.lean (callV, callS), Shelf/KitTraced.lean (throwNew0V, throwNewS). -/
/-- where a method has thrown q: the class by its name, the cell, what was written, the world -/
def vx_T (XC : String → State → State → Prop) (st : State) (q : Addr) (t : State) (mc ms : Nat) (free : Addr → Prop) : Prop :=
  ∃ (E : String) (ce : Cell) (L : List Loc), XC E st t ∧ t.heap[q]? = some ce ∧ ce.vm = .none ∧ st.vm.findClass E = some ce.cls ∧ st.WarmedH t.vm ∧ st.sameButNew ({ t with vm := st.vm } : State) L mc ms ∧ ∀ z ∈ L, free z.base
def vx_Q (Qc : Array Value → State → Outcome → State → Prop) (XC : String → State → State → Prop) (mc ms : Nat) (free : Addr → Prop) : Array Value → State → Outcome → State → Prop := fun a st o t =>
  (Qc a st o t ∧ ∃ L, FrameEnd st o t L mc ms ∧ ∀ q ∈ L, free q.base) ∨ ∃ q, o = .threw q ∧ vx_T XC st q t mc ms free
/-- a callee that returns or throws -/
def vx_Met (l : Launch) (y : MethodName) (ws : List Cond) (rm : Room) (Pc : Array Value → State → Prop) (Qc : Array Value → State → Outcome → State → Prop) (XC : String → State → State → Prop) (mc ms : Nat) (free : Addr → Prop) : Prop :=
  MetFree l y (headSpec ws rm) Pc (fun _ _ _ _ _ => True) (vx_Q Qc XC mc ms free)
def vx_Post (XC : String → State → State → Prop) (mc ms : Nat) (free : Addr → Prop) : Pt → Array Value → Addr → Pt → Prop := fun A a q B =>
  ∃ (g : JFrame) (mk : MethodId) (t : State) (L : List Loc) (E : String) (ce : Cell), B.U.heap = t.heap ∧ B.U.vm = t.vm ∧ XC E (A.U.calling g mk a) t ∧ t.heap[q]? = some ce ∧ ce.vm = .none ∧ A.U.vm.findClass E = some ce.cls ∧ B.locs = A.locs ++ L ∧ (∀ z ∈ L, free z.base) ∧ B.cells = A.cells + mc ∧ B.slots = A.slots + ms
def vx_Back (l : Launch) (R : Room) (p : Program) (e : Env) (below : List Frame) (s : State) (sargs : Array Value) (y : MethodName) (len W9 : Nat)
    (Pre : Pt → Array Value → Prop) (Post : Pt → Array Value → Option Value → Pt → Prop) (PostX : Pt → Array Value → Addr → Pt → Prop) : Prop :=
  ∀ (m : MethodId) (meth : Method) (c : Code) (A : Pt) (g : JFrame) (ig : Instr) (mk : MethodId) (a : Array Value),
    Stand p l e R s m sargs below meth c A.U A.locs A.cells A.slots → g.method = m → g.locals.size = c.maxLocals → decode c.code g.pc = .ok (ig, len) →
    2 * g.monitorRoom + (g.stack.map fun v => v.category).sum ≤ W9 → A.U.methodNamed? y = some mk → Pre A a →
    (∃ (v : Option Value) (B : Pt), Stand p l e R s m sargs below meth c B.U B.locs B.cells B.slots ∧ Post A a v B ∧
      Steps p.tables e below (doInvoke e (A.U.setTop g) [] mk a).1 (B.U.setTop { g with pc := g.pc + len, stack := v.toList ++ g.stack })) ∨
    (∃ (q : Addr) (B : Pt), Stand p l e R s m sargs below meth c B.U B.locs B.cells B.slots ∧ PostX A a q B ∧
      Steps p.tables e below (doInvoke e (A.U.setTop g) [] mk a).1 ((B.U.setTop g).pushFrame (.throwing q)))
section Payer
variable {l : Launch} {R : Room} {p : Program} {e : Env} {below : List Frame} {s : State} {sargs : Array Value} {y : MethodName} {len W9 : Nat}
theorem vx_back {ws : List Cond} {rm : Room} {Pc : Array Value → State → Prop} {Qc : Array Value → State → Outcome → State → Prop} {XC : String → State → State → Prop} {mc ms : Nat} {free : Addr → Prop} {bytes : ByteArray} {maxL : Nat} {ret : Option FieldType}
    (hM : vx_Met l y ws rm Pc Qc XC mc ms free) (hblind : FrameBlind Pc) (hrc : rm.cells = mc) (hrs : rm.slots = ms)
    (hframes : rm.frames + 1 ≤ R.frames) (hlocals : W9 + (maxL + 11) + rm.locals ≤ R.locals)
    (hws : ∀ w ∈ ws, ∀ a' U, s.WarmedH U.vm → w.before a' U = true) (hcode : Cond.code y bytes maxL ret ∈ ws) (hinit : ∀ a' U, s.WarmedH U.vm → (Cond.initialized y.cls).before a' U = true) :
    vx_Back l R p e below s sargs y len W9 (PreOf R mc ms Pc) (PostOf Qc mc ms free) (vx_Post XC mc ms free) := by
  intro m meth c A g ig mk a X hg hsize hdg hW hn hp
  have h1 : (headSpec ws rm).pre.before a A.U = true := atoms_intro fun w hw => hws w hw _ _ X.warmed
  have h2 : (Cond.code y bytes maxL ret).before a A.U = true := hws _ hcode _ _ X.warmed
  have h3 : (Cond.initialized y.cls).before a A.U = true := hinit _ _ X.warmed
  have h4 : A.cells + (headSpec ws rm).room.cells ≤ R.cells := by rw [show (headSpec ws rm).room.cells = mc from hrc]; exact hp.1
  have h5 : A.slots + (headSpec ws rm).room.slots ≤ R.slots := by rw [show (headSpec ws rm).room.slots = ms from hrs]; exact hp.2.1
  have hPc : Pc a (A.U.calling g mk a) := hblind _ _ _ _ hp.2.2
  obtain ⟨U, Ls, c0, s0⟩ := A
  dsimp only [Pt.U, Pt.locs, Pt.cells, Pt.slots] at h1 h2 h3 h4 h5 X hn hPc ⊢
  obtain ⟨methY, cY, hmY, hcY, -, hlY, -, -, -, -⟩ := Cond.code_spec hn h2
  obtain ⟨kY, hkY, -⟩ := className_of_methodNamed hn
  have hinitY : kY.init = .initialized := Cond.initialized_spec (findClass_of_methodNamed hn) hkY h3
  have h : At U g.method c below := by rw [hg]; exact X.here
  have hlocals9 : W9 + (maxL + 11) + (headSpec ws rm).room.locals ≤ R.locals := hlocals
  have happ : (headSpec ws rm).appliesLoose y e.platform (U.calling g mk a) = true :=
    Spec.appliesLoose_calling (g := g) h hdg hn hkY hinitY
      (X.room_calling (g := g) (R' := (headSpec ws rm).room) hsize hmY hcY hframes (by rw [hlY]; omega) h4 h5) h1
  obtain ⟨mid, hmid⟩ := h.above
  have hfr : (U.setTop g).frames = (.java g :: mid) ++ below := by rw [State.frames_setTop' g h.top, hmid]; rfl
  obtain ⟨o, s₂, hsteps, -, hend, hq⟩ := Steps.callFree hM p X.admits X.cas X.clock (acts := []) hfr happ hPc trivial
  have hq' : vx_Q Qc XC mc ms free a (U.calling g mk a) o s₂ := hq
  rw [State.frames_setTop' g h.top] at hend
  obtain ⟨g₀, hg0⟩ := Option.isSome_iff_exists.mp h.top
  obtain ⟨r, hr⟩ := State.topJava?_eq_some.mp hg0
  have hr' : (({ U with heap := s₂.heap, slotsUsed := s₂.slotsUsed } : State).setVm s₂.vm).frames = .java g₀ :: r := hr
  rcases hq' with ⟨hqc, L, hfe, hL⟩ | ⟨q, rfl, E, ce, L, hx, hce, hcv, hcl, hW₂, hsm, hL⟩
  · obtain ⟨⟨v, rfl⟩, hW₂, e2, q2, q3, q4, q5, q6⟩ := id hfe
    have e3 : s₂ = ({ (U.calling g mk a).setFrames s₂.frames with heap := s₂.heap, slotsUsed := s₂.slotsUsed } : State).setVm s₂.vm := by
      have : s₂ = ({ s₂ with vm := (U.calling g mk a).vm } : State).setVm s₂.vm := rfl
      rw [e2] at this
      exact this
    obtain ⟨c₂, i₂, len₂, hc₂, hd₂, hf₂⟩ := hend
    have hW' : U.WarmedH s₂.vm := hW₂
    have hcc : c₂ = c := by
      have h1 : s₂.code? g.method = U.code? g.method := by
        rw [State.code?_eq, State.code?_eq, hW'.alike.method?]
      exact Option.some.inj (hc₂.symm.trans (h1.trans h.code))
    subst hcc
    have hlen : len₂ = len := by rw [hdg] at hd₂; cases hd₂; rfl
    subst hlen
    have hs₂ : s₂ = (({ U with heap := s₂.heap, slotsUsed := s₂.slotsUsed } : State).setVm s₂.vm).setTop { g with pc := g.pc + len₂, stack := v.toList ++ g.stack } := by
      refine e3.trans ?_
      rw [hf₂, State.calling_eq h.top, State.setFrames_setFrames, State.setTop_of_frames _ hr', hr]
      rfl
    have hsame : U.sameButNew ({ U with heap := s₂.heap, slotsUsed := s₂.slotsUsed } : State) L mc ms := by
      refine ⟨?_, q2, q3, q4, q5, q6⟩
      obtain ⟨t, ht, -⟩ := State.frames_cons hr
      show ({ U with heap := s₂.heap, slotsUsed := s₂.slotsUsed } : State) = { U.setFrames U.frames with heap := s₂.heap, slotsUsed := s₂.slotsUsed }
      rw [State.setFrames_self ht]
    subst hg
    refine Or.inl ⟨v, ⟨(({ U with heap := s₂.heap, slotsUsed := s₂.slotsUsed } : State).setVm s₂.vm), Ls ++ L, c0 + mc, s0 + ms⟩,
      ⟨X.admits, X.cas, X.clock, X.frames, X.room, X.hears, X.method, X.code, (X.here.setHeapUsed s₂.heap s₂.slotsUsed).setVm hW'.alike, X.tail, State.WarmedH.trans X.warmed hW', X.limits, X.bytes, X.same.trans (hsame.setVm s.vm)⟩,
      ⟨g, mk, s₂, L, rfl, rfl, hqc, rfl, hL, rfl, rfl⟩, ?_⟩
    show Steps p.tables e below _ ((({ U with heap := s₂.heap, slotsUsed := s₂.slotsUsed } : State).setVm s₂.vm).setTop { g with pc := g.pc + len₂, stack := v.toList ++ g.stack })
    rw [← hs₂]
    exact hsteps
  · obtain ⟨e2, q2, q3, q4, q5, q6⟩ := id hsm
    have e3 : s₂ = ({ (U.calling g mk a).setFrames s₂.frames with heap := s₂.heap, slotsUsed := s₂.slotsUsed } : State).setVm s₂.vm := by
      have : s₂ = ({ s₂ with vm := (U.calling g mk a).vm } : State).setVm s₂.vm := rfl
      rw [e2] at this
      exact this
    have hf₂ : s₂.frames = .throwing q :: .java g :: U.frames.tail := hend
    have hW' : U.WarmedH s₂.vm := hW₂
    have hs₂ : s₂ = ((({ U with heap := s₂.heap, slotsUsed := s₂.slotsUsed } : State).setVm s₂.vm).setTop g).pushFrame (.throwing q) := by
      refine e3.trans ?_
      rw [hf₂, State.calling_eq h.top, State.setFrames_setFrames, State.pushFrame, State.frames_setTop _ hr', State.setTop_of_frames _ hr', State.setFrames_setFrames, hr]
      rfl
    have hsame : U.sameButNew ({ U with heap := s₂.heap, slotsUsed := s₂.slotsUsed } : State) L mc ms := by
      refine ⟨?_, q2, q3, q4, q5, q6⟩
      obtain ⟨t, ht, -⟩ := State.frames_cons hr
      show ({ U with heap := s₂.heap, slotsUsed := s₂.slotsUsed } : State) = { U.setFrames U.frames with heap := s₂.heap, slotsUsed := s₂.slotsUsed }
      rw [State.setFrames_self ht]
    subst hg
    refine Or.inr ⟨q, ⟨(({ U with heap := s₂.heap, slotsUsed := s₂.slotsUsed } : State).setVm s₂.vm), Ls ++ L, c0 + mc, s0 + ms⟩,
      ⟨X.admits, X.cas, X.clock, X.frames, X.room, X.hears, X.method, X.code, (X.here.setHeapUsed s₂.heap s₂.slotsUsed).setVm hW'.alike, X.tail, State.WarmedH.trans X.warmed hW', X.limits, X.bytes, X.same.trans (hsame.setVm s.vm)⟩,
      ⟨g, mk, s₂, L, E, ce, rfl, rfl, hx, hce, hcv, hcl, rfl, hL, rfl, rfl⟩, ?_⟩
    show Steps p.tables e below _ (((({ U with heap := s₂.heap, slotsUsed := s₂.slotsUsed } : State).setVm s₂.vm).setTop g).pushFrame (.throwing q))
    rw [← hs₂]
    exact hsteps
end Payer
section Calls
variable {p : Program} {l : Launch} {e : Env} {R : Room} {s : State} {m : MethodId} {args : Array Value} {below : List Frame} {meth : Method} {c : Code} {T : State} {locs : List Loc} {cells slots : Nat}
theorem vx_callV (X : Stand p l e R s m args below meth c T locs cells slots) (hexec : p.tables.exec = Jvm.exec) {own C : String} {index : Nat} {y : MethodName} {bytes : ByteArray} {maxL : Nat} {ret : Option FieldType}
    (hown : s.vm.findClass own = some m.cls) (hlink : (Cond.methodLink own index y).before args s = true) (hinst : (Cond.instanceMethod y).before args s = true) (hsel : (Cond.selects C y y).before args s = true)
    (hcode : (Cond.code y bytes maxL ret).before args s = true) (hy : y.cls ≠ "java/lang/invoke/MethodHandle" ∧ y.cls ≠ "java/lang/invoke/VarHandle")
    {W9 : Nat} {Pre : Pt → Array Value → Prop} {Post : Pt → Array Value → Option Value → Pt → Prop} {PostX : Pt → Array Value → Addr → Pt → Prop} (hK : vx_Back l R p e below s args y 3 W9 Pre Post PostX)
    {b : Addr} {cellB : Cell} (hcell : T.heap[b]? = some cellB) (hobj : cellB.vm.isStatics = false) (hcls : s.vm.findClass C = some cellB.cls)
    {g : JFrame} (hg : g.method = m) (hsize : g.locals.size = c.maxLocals) {argsL rest : List Value} (hlen : ∀ sig, parseMethodDescriptor y.desc = some sig → argsL.length = sig.parameters.length)
    (hstack : g.stack = argsL.reverse ++ .ref b :: rest) (hW : 2 * g.monitorRoom + (rest.map fun v => v.category).sum ≤ W9) (hdg : decode c.code g.pc = .ok (.invokevirtual index, 3))
    (hpre : ∀ vm₁, s.WarmedH vm₁ → Pre ⟨T.setVm vm₁, locs, cells, slots⟩ (Value.ref b :: argsL).toArray) :
    (∃ (v : Option Value) (vm₁ : Vm) (B : Pt), s.WarmedH vm₁ ∧ Stand p l e R s m args below meth c B.U B.locs B.cells B.slots ∧ Post ⟨T.setVm vm₁, locs, cells, slots⟩ (Value.ref b :: argsL).toArray v B ∧
      ∀ target, Steps p.tables e below (B.U.setTop { g with pc := g.pc + 3, stack := v.toList ++ rest }) target → Steps p.tables e below (T.setTop g) target) ∨
    (∃ (q : Addr) (vm₁ : Vm) (B : Pt), s.WarmedH vm₁ ∧ Stand p l e R s m args below meth c B.U B.locs B.cells B.slots ∧ PostX ⟨T.setVm vm₁, locs, cells, slots⟩ (Value.ref b :: argsL).toArray q B ∧
      Steps p.tables e below (T.setTop g) ((B.U.setTop { g with stack := rest }).pushFrame (.throwing q))) := by
  obtain ⟨mk, methM, hnamed, hmethM, hstM, habM⟩ := Cond.instanceMethod_spec hinst
  obtain ⟨methM', cM, hmethM', -, -, -, -, -, -, hsigM⟩ := Cond.code_spec hnamed hcode
  cases hmethM.symm.trans hmethM'
  obtain ⟨c2, r2, m2, q1, q2, q3, q4, kP, hkP, hkPi⟩ := Cond.selects_spec hsel
  cases hcls.symm.trans q1
  cases (State.methodFound?_of_named hnamed hy).symm.trans q2
  cases hnamed.symm.trans q3
  have hselP : selectMethod e.platform s.vm cellB.cls mk = .method mk := by rw [Launch.admits_selectMethod X.admits]; exact q4
  obtain ⟨vm₁, X₁, hstep₁⟩ := X.invokevirtual hexec hown hlink hnamed hmethM hstM hkP hkPi hy (a := b) (cell := cellB) hcell
    (fun z h => by rw [h] at hobj; cases hobj) hselP hmethM habM hkP hkPi (g := g) hg (argsL := argsL) (rest := rest) (hlen _ hsigM) hstack hdg
  rcases hK m meth c ⟨T.setVm vm₁, locs, cells, slots⟩ { g with stack := rest } (.invokevirtual index) mk (Value.ref b :: argsL).toArray X₁ hg hsize hdg hW (X₁.named hnamed) (hpre vm₁ X₁.warmed) with ⟨v, B, X', hpost, hsteps⟩ | ⟨q, B, X', hpost, hsteps⟩
  · exact Or.inl ⟨v, vm₁, B, X₁.warmed, X', hpost, fun target h => hstep₁ _ fun acts => by rw [doInvoke_state]; exact hsteps.trans h⟩
  · exact Or.inr ⟨q, vm₁, B, X₁.warmed, X', hpost, hstep₁ _ fun acts => by rw [doInvoke_state]; exact hsteps⟩
theorem vx_callS (X : Stand p l e R s m args below meth c T locs cells slots) (hexec : p.tables.exec = Jvm.exec) {own : String} {index : Nat} {y : MethodName} {bytes : ByteArray} {maxL : Nat} {ret : Option FieldType}
    (hown : s.vm.findClass own = some m.cls) (hlink : (Cond.methodLink own index y).before args s = true) (hstat : (Cond.static y).before args s = true) (hinit : (Cond.initialized y.cls).before args s = true)
    (hcode : (Cond.code y bytes maxL ret).before args s = true) (hy : y.cls ≠ "java/lang/invoke/MethodHandle" ∧ y.cls ≠ "java/lang/invoke/VarHandle")
    {W9 : Nat} {Pre : Pt → Array Value → Prop} {Post : Pt → Array Value → Option Value → Pt → Prop} {PostX : Pt → Array Value → Addr → Pt → Prop} (hK : vx_Back l R p e below s args y 3 W9 Pre Post PostX)
    {g : JFrame} (hg : g.method = m) (hsize : g.locals.size = c.maxLocals) {argsL rest : List Value} (hlen : ∀ sig, parseMethodDescriptor y.desc = some sig → argsL.length = sig.parameters.length)
    (hstack : g.stack = argsL.reverse ++ rest) (hW : 2 * g.monitorRoom + (rest.map fun v => v.category).sum ≤ W9) (hdg : decode c.code g.pc = .ok (.invokestatic index, 3))
    (hpre : ∀ vm₁, s.WarmedH vm₁ → Pre ⟨T.setVm vm₁, locs, cells, slots⟩ argsL.toArray) :
    (∃ (v : Option Value) (vm₁ : Vm) (B : Pt), s.WarmedH vm₁ ∧ Stand p l e R s m args below meth c B.U B.locs B.cells B.slots ∧ Post ⟨T.setVm vm₁, locs, cells, slots⟩ argsL.toArray v B ∧
      ∀ target, Steps p.tables e below (B.U.setTop { g with pc := g.pc + 3, stack := v.toList ++ rest }) target → Steps p.tables e below (T.setTop g) target) ∨
    (∃ (q : Addr) (vm₁ : Vm) (B : Pt), s.WarmedH vm₁ ∧ Stand p l e R s m args below meth c B.U B.locs B.cells B.slots ∧ PostX ⟨T.setVm vm₁, locs, cells, slots⟩ argsL.toArray q B ∧
      Steps p.tables e below (T.setTop g) ((B.U.setTop { g with stack := rest }).pushFrame (.throwing q))) := by
  obtain ⟨mk, hnamed⟩ := Cond.code_named hcode
  obtain ⟨methM, cM, hmethM, -, -, -, -, -, -, hsigM⟩ := Cond.code_spec hnamed hcode
  have hstatic : methM.isStatic = true := Cond.static_spec hnamed hmethM hstat
  obtain ⟨kP, hkP, -⟩ := className_of_methodNamed hnamed
  have hinitP : kP.init = .initialized := Cond.initialized_spec (findClass_of_methodNamed hnamed) hkP hinit
  obtain ⟨vm₁, X₁, hstep₁⟩ := X.invokestatic hexec hown hlink hnamed hmethM hstatic hkP hinitP hy (g := g) hg (argsL := argsL) (rest := rest) (hlen _ hsigM) hstack hdg
  rcases hK m meth c ⟨T.setVm vm₁, locs, cells, slots⟩ { g with stack := rest } (.invokestatic index) mk argsL.toArray X₁ hg hsize hdg hW (X₁.named hnamed) (hpre vm₁ X₁.warmed) with ⟨v, B, X', hpost, hsteps⟩ | ⟨q, B, X', hpost, hsteps⟩
  · exact Or.inl ⟨v, vm₁, B, X₁.warmed, X', hpost, fun target h => hstep₁ _ fun acts => by rw [doInvoke_state]; exact hsteps.trans h⟩
  · exact Or.inr ⟨q, vm₁, B, X₁.warmed, X', hpost, hstep₁ _ fun acts => by rw [doInvoke_state]; exact hsteps⟩
end Calls
theorem vx_cls {s : State} {T : State} {vm₁ : Vm} {E : String} {k : ClassId} (hW : s.WarmedH vm₁) (h : (T.setVm vm₁).vm.findClass E = some k) : s.vm.findClass E = some k := by
  have h1 : vm₁.findClass E = some k := h
  rw [hW.alike.findClass] at h1
  exact h1
/-- the method's frame g, with q thrown over it -/
def vx_W (p : Program) (l : Launch) (e : Env) (R : Room) (s : State) (m : MethodId) (args : Array Value) (below : List Frame) (meth : Method) (c : Code) (H : Heap) (locs : List Loc) (cells slots : Nat) (Q : State → Prop) (g : JFrame) (q : Addr) : Prop :=
  ∀ T : State, T.heap = H → Stand p l e R s m args below meth c T locs cells slots → ∃ t, Steps p.tables e below ((T.setTop g).pushFrame (.throwing q)) t ∧ Q t
def vx_Run (p : Program) (l : Launch) (e : Env) (R : Room) (s : State) (m : MethodId) (args : Array Value) (below : List Frame) (meth : Method) (c : Code) (H : Heap) (locs : List Loc) (cells slots mc ms : Nat) (g : JFrame) (rest : List Value) (Qa : State → Outcome → State → Prop) (XC : String → State → State → Prop) (free : Addr → Prop) : Prop :=
  ∀ T : State, T.heap = H → Stand p l e R s m args below meth c T locs cells slots →
    (∃ (v : Option Value) (st₀ t T' : State) (L : List Loc), st₀.heap = H ∧ Stand p l e R s m args below meth c T' (locs ++ L) (cells + mc) (slots + ms) ∧ (∀ q ∈ L, free q.base) ∧ T'.heap = t.heap ∧ T'.vm = t.vm ∧ Qa st₀ (.returned v) t ∧
      Goes p e below T g T' { g with pc := g.pc + 3, stack := v.toList ++ rest }) ∨
    (∃ (q : Addr) (st₀ t T' : State) (L : List Loc) (E : String) (ce : Cell), st₀.heap = H ∧ Stand p l e R s m args below meth c T' (locs ++ L) (cells + mc) (slots + ms) ∧ (∀ z ∈ L, free z.base) ∧ T'.heap = t.heap ∧ T'.vm = t.vm ∧ XC E st₀ t ∧ t.heap[q]? = some ce ∧ ce.vm = .none ∧ s.vm.findClass E = some ce.cls ∧
      Steps p.tables e below (T.setTop g) ((T'.setTop { g with stack := rest }).pushFrame (.throwing q)))
def vx_X {S : Type} (px : S → Prop) (B : String → S → State → Prop) (A : Nat → Prop) : String → State → State → Prop := fun E st t => ∃ u : S, px u ∧ B E u t ∧ va_F A st t
section Runs
variable {p : Program} {l : Launch} {e : Env} {R : Room} {s : State} {m : MethodId} {args : Array Value} {below : List Frame} {meth : Method} {c : Code} {H : Heap} {locs : List Loc} {cells slots : Nat}
variable {y : MethodName} {bytes cc : ByteArray} {maxL nL mc ms n index : Nat} {ret : Option FieldType} {ws : List Cond} {rm : Room} {Pc : Array Value → State → Prop} {Qc : Array Value → State → Outcome → State → Prop} {XC : String → State → State → Prop} {free : Addr → Prop} {Ts : List Cond} {own C : String} {b : Addr} {As rest : List Value} {g : JFrame}
theorem vx_callBack (cb : CallB R s args own index y bytes maxL ret ws rm mc ms n) (hM : vx_Met l y ws rm Pc Qc XC mc ms free) (hbl : FrameBlind Pc) : vx_Back l R p e below s args y 3 8 (PreOf R mc ms Pc) (PostOf Qc mc ms free) (vx_Post XC mc ms free) := by
  obtain ⟨hrc, hrs, hfr, hlo, hws, hcw, -, hini, -⟩ := cb
  exact vx_back (bytes := bytes) (maxL := maxL) (ret := ret) hM hbl hrc hrs hfr hlo hws hcw (fun a' U hW => word_at hW (Or.inl (by first | rfl | simp [Cond.onTables, Cond.keeps, Cond.steady])) hini)
theorem vx_runV (S : CallFix p m c cc nL s args Ts own) (hM : vx_Met l y ws rm Pc Qc XC mc ms free) (cw : CallW R s args own C index y bytes maxL ret ws rm mc ms n) (hp : PreV s H C b Pc As)
    (hg : g.method = m) (hn : As.length = n) (hsize : g.locals.size = nL) (hstack : g.stack = As.reverse ++ .ref b :: rest) (hW : 2 * g.monitorRoom + (rest.map fun v => v.category).sum ≤ 8) (hdg : decode cc g.pc = .ok (.invokevirtual index, 3)) (hf : cells + mc ≤ R.cells ∧ slots + ms ≤ R.slots) :
    vx_Run p l e R s m args below meth c H locs cells slots mc ms g rest (Qc (Value.ref b :: As).toArray) XC free := by
  have hK : vx_Back l R p e below s args y 3 8 (PreOf R mc ms Pc) (PostOf Qc mc ms free) (vx_Post XC mc ms free) := vx_callBack cw.1 hM hp.1
  obtain ⟨⟨-, -, -, -, -, -, hcode, -, hy, hlen, hl⟩, hin, hse⟩ := cw
  obtain ⟨hx, hb, hml, ho, -⟩ := S
  obtain ⟨-, ⟨cellB, hcB, hoB, hclB⟩, hPc⟩ := hp
  intro T hT X
  rcases vx_callV X hx (C := C) (bytes := bytes) (maxL := maxL) (ret := ret) ho hl hin hse hcode hy hK (by rw [hT]; exact hcB) hoB hclB hg (hsize.trans hml.symm) (argsL := As) (rest := rest) (fun sig h => hn.trans (hlen sig h)) hstack hW (by rw [hb]; exact hdg)
    (fun vm₁ hW₁ => ⟨hf.1, hf.2, hPc (T.setVm vm₁) hT hW₁⟩) with ⟨v, vm₁, ⟨U', l2, c2, s2⟩, hW₁, X', ⟨g', mk, t, L, e1, e2, hq, h1, hL, h2, h3⟩, st⟩ | ⟨q, vm₁, ⟨U', l2, c2, s2⟩, hW₁, X', ⟨g', mk, t, L, E, ce, e1, e2, hq, hce, hcv, hcl, h1, hL, h2, h3⟩, st⟩
  · dsimp only [Pt.U, Pt.locs, Pt.cells, Pt.slots] at X' e1 e2 h1 h2 h3 st
    subst h1; subst h2; subst h3
    exact Or.inl ⟨v, (T.setVm vm₁).calling g' mk (Value.ref b :: As).toArray, t, U', L, hT, X', hL, e1, e2, hq, st⟩
  · dsimp only [Pt.U, Pt.locs, Pt.cells, Pt.slots] at X' e1 e2 h1 h2 h3 st hcl
    subst h1; subst h2; subst h3
    exact Or.inr ⟨q, (T.setVm vm₁).calling g' mk (Value.ref b :: As).toArray, t, U', L, E, ce, hT, X', hL, e1, e2, hq, hce, hcv, vx_cls hW₁ hcl, st⟩
theorem vx_runS (S : CallFix p m c cc nL s args Ts own) (hM : vx_Met l y ws rm Pc Qc XC mc ms free) (cw : CallB R s args own index y bytes maxL ret ws rm mc ms n ∧ (Cond.static y).before args s = true) (hp : PreS s H Pc As)
    (hg : g.method = m) (hn : As.length = n) (hsize : g.locals.size = nL) (hstack : g.stack = As.reverse ++ rest) (hW : 2 * g.monitorRoom + (rest.map fun v => v.category).sum ≤ 8) (hdg : decode cc g.pc = .ok (.invokestatic index, 3)) (hf : cells + mc ≤ R.cells ∧ slots + ms ≤ R.slots) :
    vx_Run p l e R s m args below meth c H locs cells slots mc ms g rest (Qc As.toArray) XC free := by
  have hK : vx_Back l R p e below s args y 3 8 (PreOf R mc ms Pc) (PostOf Qc mc ms free) (vx_Post XC mc ms free) := vx_callBack cw.1 hM hp.1
  obtain ⟨⟨-, -, -, -, -, -, hcode, hini, hy, hlen, hl⟩, hstt⟩ := cw
  obtain ⟨hx, hb, hml, ho, -⟩ := S
  intro T hT X
  rcases vx_callS X hx (bytes := bytes) (maxL := maxL) (ret := ret) ho hl hstt hini hcode hy hK hg (hsize.trans hml.symm) (argsL := As) (rest := rest) (fun sig h => hn.trans (hlen sig h)) hstack hW (by rw [hb]; exact hdg)
    (fun vm₁ hW₁ => ⟨hf.1, hf.2, hp.2 (T.setVm vm₁) hT hW₁⟩) with ⟨v, vm₁, ⟨U', l2, c2, s2⟩, hW₁, X', ⟨g', mk, t, L, e1, e2, hq, h1, hL, h2, h3⟩, st⟩ | ⟨q, vm₁, ⟨U', l2, c2, s2⟩, hW₁, X', ⟨g', mk, t, L, E, ce, e1, e2, hq, hce, hcv, hcl, h1, hL, h2, h3⟩, st⟩
  · dsimp only [Pt.U, Pt.locs, Pt.cells, Pt.slots] at X' e1 e2 h1 h2 h3 st
    subst h1; subst h2; subst h3
    exact Or.inl ⟨v, (T.setVm vm₁).calling g' mk As.toArray, t, U', L, hT, X', hL, e1, e2, hq, st⟩
  · dsimp only [Pt.U, Pt.locs, Pt.cells, Pt.slots] at X' e1 e2 h1 h2 h3 st hcl
    subst h1; subst h2; subst h3
    exact Or.inr ⟨q, (T.setVm vm₁).calling g' mk As.toArray, t, U', L, E, ce, hT, X', hL, e1, e2, hq, hce, hcv, vx_cls hW₁ hcl, st⟩
end Runs
section Rows
variable {p : Program} {l : Launch} {e : Env} {R : Room} {s : State} {m : MethodId} {args : Array Value} {below : List Frame} {meth : Method} {c : Code} {H : Heap} {locs : List Loc} {cells slots : Nat} {Q : State → Prop}
variable {mc ms : Nat} {free : Addr → Prop} {A0 A1 : Nat → Prop} {H0 : Heap} {a : Array Value} {pc : Nat} {ls : Array Slot} {st0 rest : List Value}
theorem vx_keep {st₀ t T' : State} {L : List Loc} (h0 : st₀.heap = H) (e1 : T'.heap = t.heap) (hS : va_S A0 H0 H locs) (hA : ∀ q, q < H.size → A1 q → A0 q) (hf : ∀ q, free q → A0 q) (hL : ∀ q ∈ L, free q.base) (hF : va_F A1 st₀ t) :
    H.size ≤ T'.heap.size ∧ (∀ q : Nat, q < H.size → ¬ A1 q → T'.heap[q]? = H[q]?) ∧ va_S A0 H0 T'.heap (locs ++ L) := by
  obtain ⟨hz, hk⟩ := hF
  rw [h0] at hz hk
  exact ⟨by rw [e1]; exact hz, fun q h1 h2 => by rw [e1]; exact hk q h1 h2,
    ⟨Nat.le_trans hS.1 (by rw [e1]; exact hz), fun q h1 h2 => by rw [e1, hk q (Nat.lt_of_lt_of_le h1 hS.1) (fun z => h2 (hA q (Nat.lt_of_lt_of_le h1 hS.1) z))]; exact hS.2.1 q h1 h2, fun q hq => by
      rcases List.mem_append.mp hq with h | h
      · exact hS.2.2 q h
      · exact hf _ (hL q h)⟩⟩
theorem vx_calli {S SX : Type} {post : Int32 → S → Prop} {px : SX → Prop} {B : S → State → Prop} {BX : String → SX → State → Prop} {AX : Nat → Prop} (hr : vx_Run p l e R s m args below meth c H locs cells slots mc ms (F0 m pc ls st0) rest (va_Qi post B A1 a) (vx_X px BX AX) free) (hS : va_S A0 H0 H locs) (hA : ∀ q, q < H.size → A1 q → A0 q) (hf : ∀ q, free q → A0 q) (hAX : ∀ q, q < H.size → AX q → A0 q)
    (kx : ∀ (E : String) (ce : Cell) (q9 : Addr) (u : SX) (t : State) (H1 : Heap) (locs1 : List Loc), t.heap = H1 → s.vm.Alike t.vm → px u → BX E u t → H.size ≤ H1.size → (∀ q : Nat, q < H.size → ¬ AX q → H1[q]? = H[q]?) → va_S A0 H0 H1 locs1 → H1[q9]? = some ce → ce.vm = .none → s.vm.findClass E = some ce.cls → vx_W p l e R s m args below meth c H1 locs1 (cells + mc) (slots + ms) Q (F0 m pc ls rest) q9)
    (kk : ∀ (r : Int32) (u : S) (t : State) (H1 : Heap) (locs1 : List Loc), t.heap = H1 → s.vm.Alike t.vm → post r u → B u t → H.size ≤ H1.size → (∀ q : Nat, q < H.size → ¬ A1 q → H1[q]? = H[q]?) → va_S A0 H0 H1 locs1 → W p l e R s m args below meth c H1 locs1 (cells + mc) (slots + ms) Q (F0 m (pc + 3) ls (.int r :: rest))) : W p l e R s m args below meth c H locs cells slots Q (F0 m pc ls st0) := by
  intro T hT X
  rcases hr T hT X with ⟨v, st₀, t, T', L, h0, X', hL, e1, e2, ⟨⟨r, u, hv, hp, hb⟩, hF⟩, st⟩ | ⟨q, st₀, t, T', L, E, ce, h0, X', hL, e1, e2, ⟨u, hp, hb, hF⟩, hce, hcv, hcl, st⟩
  · cases hv
    obtain ⟨k1, k2, k3⟩ := vx_keep h0 e1 hS hA hf hL hF
    obtain ⟨t2, a1, b1⟩ := kk r u t T'.heap (locs ++ L) e1.symm (by rw [← e2]; exact X'.warmed.alike) hp hb k1 k2 k3 T' rfl X'
    exact ⟨t2, st t2 a1, b1⟩
  · obtain ⟨k1, k2, k3⟩ := vx_keep h0 e1 hS hAX hf hL hF
    obtain ⟨t2, a1, b1⟩ := kx E ce q u t T'.heap (locs ++ L) e1.symm (by rw [← e2]; exact X'.warmed.alike) hp hb k1 k2 k3 (by rw [e1]; exact hce) hcv hcl T' rfl X'
    exact ⟨t2, st.trans a1, b1⟩
theorem vx_calll {S SX : Type} {post : Int64 → S → Prop} {px : SX → Prop} {B : S → State → Prop} {BX : String → SX → State → Prop} {AX : Nat → Prop} (hr : vx_Run p l e R s m args below meth c H locs cells slots mc ms (F0 m pc ls st0) rest (va_Ql post B A1 a) (vx_X px BX AX) free) (hS : va_S A0 H0 H locs) (hA : ∀ q, q < H.size → A1 q → A0 q) (hf : ∀ q, free q → A0 q) (hAX : ∀ q, q < H.size → AX q → A0 q)
    (kx : ∀ (E : String) (ce : Cell) (q9 : Addr) (u : SX) (t : State) (H1 : Heap) (locs1 : List Loc), t.heap = H1 → s.vm.Alike t.vm → px u → BX E u t → H.size ≤ H1.size → (∀ q : Nat, q < H.size → ¬ AX q → H1[q]? = H[q]?) → va_S A0 H0 H1 locs1 → H1[q9]? = some ce → ce.vm = .none → s.vm.findClass E = some ce.cls → vx_W p l e R s m args below meth c H1 locs1 (cells + mc) (slots + ms) Q (F0 m pc ls rest) q9)
    (kk : ∀ (r : Int64) (u : S) (t : State) (H1 : Heap) (locs1 : List Loc), t.heap = H1 → s.vm.Alike t.vm → post r u → B u t → H.size ≤ H1.size → (∀ q : Nat, q < H.size → ¬ A1 q → H1[q]? = H[q]?) → va_S A0 H0 H1 locs1 → W p l e R s m args below meth c H1 locs1 (cells + mc) (slots + ms) Q (F0 m (pc + 3) ls (.long r :: rest))) : W p l e R s m args below meth c H locs cells slots Q (F0 m pc ls st0) := by
  intro T hT X
  rcases hr T hT X with ⟨v, st₀, t, T', L, h0, X', hL, e1, e2, ⟨⟨r, u, hv, hp, hb⟩, hF⟩, st⟩ | ⟨q, st₀, t, T', L, E, ce, h0, X', hL, e1, e2, ⟨u, hp, hb, hF⟩, hce, hcv, hcl, st⟩
  · cases hv
    obtain ⟨k1, k2, k3⟩ := vx_keep h0 e1 hS hA hf hL hF
    obtain ⟨t2, a1, b1⟩ := kk r u t T'.heap (locs ++ L) e1.symm (by rw [← e2]; exact X'.warmed.alike) hp hb k1 k2 k3 T' rfl X'
    exact ⟨t2, st t2 a1, b1⟩
  · obtain ⟨k1, k2, k3⟩ := vx_keep h0 e1 hS hAX hf hL hF
    obtain ⟨t2, a1, b1⟩ := kx E ce q u t T'.heap (locs ++ L) e1.symm (by rw [← e2]; exact X'.warmed.alike) hp hb k1 k2 k3 (by rw [e1]; exact hce) hcv hcl T' rfl X'
    exact ⟨t2, st.trans a1, b1⟩
theorem vx_callf {S SX : Type} {post : UInt32 → S → Prop} {px : SX → Prop} {B : S → State → Prop} {BX : String → SX → State → Prop} {AX : Nat → Prop} (hr : vx_Run p l e R s m args below meth c H locs cells slots mc ms (F0 m pc ls st0) rest (va_Qf post B A1 a) (vx_X px BX AX) free) (hS : va_S A0 H0 H locs) (hA : ∀ q, q < H.size → A1 q → A0 q) (hf : ∀ q, free q → A0 q) (hAX : ∀ q, q < H.size → AX q → A0 q)
    (kx : ∀ (E : String) (ce : Cell) (q9 : Addr) (u : SX) (t : State) (H1 : Heap) (locs1 : List Loc), t.heap = H1 → s.vm.Alike t.vm → px u → BX E u t → H.size ≤ H1.size → (∀ q : Nat, q < H.size → ¬ AX q → H1[q]? = H[q]?) → va_S A0 H0 H1 locs1 → H1[q9]? = some ce → ce.vm = .none → s.vm.findClass E = some ce.cls → vx_W p l e R s m args below meth c H1 locs1 (cells + mc) (slots + ms) Q (F0 m pc ls rest) q9)
    (kk : ∀ (r : UInt32) (u : S) (t : State) (H1 : Heap) (locs1 : List Loc), t.heap = H1 → s.vm.Alike t.vm → post r u → B u t → H.size ≤ H1.size → (∀ q : Nat, q < H.size → ¬ A1 q → H1[q]? = H[q]?) → va_S A0 H0 H1 locs1 → W p l e R s m args below meth c H1 locs1 (cells + mc) (slots + ms) Q (F0 m (pc + 3) ls (.float r :: rest))) : W p l e R s m args below meth c H locs cells slots Q (F0 m pc ls st0) := by
  intro T hT X
  rcases hr T hT X with ⟨v, st₀, t, T', L, h0, X', hL, e1, e2, ⟨⟨r, u, hv, hp, hb⟩, hF⟩, st⟩ | ⟨q, st₀, t, T', L, E, ce, h0, X', hL, e1, e2, ⟨u, hp, hb, hF⟩, hce, hcv, hcl, st⟩
  · cases hv
    obtain ⟨k1, k2, k3⟩ := vx_keep h0 e1 hS hA hf hL hF
    obtain ⟨t2, a1, b1⟩ := kk r u t T'.heap (locs ++ L) e1.symm (by rw [← e2]; exact X'.warmed.alike) hp hb k1 k2 k3 T' rfl X'
    exact ⟨t2, st t2 a1, b1⟩
  · obtain ⟨k1, k2, k3⟩ := vx_keep h0 e1 hS hAX hf hL hF
    obtain ⟨t2, a1, b1⟩ := kx E ce q u t T'.heap (locs ++ L) e1.symm (by rw [← e2]; exact X'.warmed.alike) hp hb k1 k2 k3 (by rw [e1]; exact hce) hcv hcl T' rfl X'
    exact ⟨t2, st.trans a1, b1⟩
theorem vx_calld {S SX : Type} {post : UInt64 → S → Prop} {px : SX → Prop} {B : S → State → Prop} {BX : String → SX → State → Prop} {AX : Nat → Prop} (hr : vx_Run p l e R s m args below meth c H locs cells slots mc ms (F0 m pc ls st0) rest (va_Qd post B A1 a) (vx_X px BX AX) free) (hS : va_S A0 H0 H locs) (hA : ∀ q, q < H.size → A1 q → A0 q) (hf : ∀ q, free q → A0 q) (hAX : ∀ q, q < H.size → AX q → A0 q)
    (kx : ∀ (E : String) (ce : Cell) (q9 : Addr) (u : SX) (t : State) (H1 : Heap) (locs1 : List Loc), t.heap = H1 → s.vm.Alike t.vm → px u → BX E u t → H.size ≤ H1.size → (∀ q : Nat, q < H.size → ¬ AX q → H1[q]? = H[q]?) → va_S A0 H0 H1 locs1 → H1[q9]? = some ce → ce.vm = .none → s.vm.findClass E = some ce.cls → vx_W p l e R s m args below meth c H1 locs1 (cells + mc) (slots + ms) Q (F0 m pc ls rest) q9)
    (kk : ∀ (r : UInt64) (u : S) (t : State) (H1 : Heap) (locs1 : List Loc), t.heap = H1 → s.vm.Alike t.vm → post r u → B u t → H.size ≤ H1.size → (∀ q : Nat, q < H.size → ¬ A1 q → H1[q]? = H[q]?) → va_S A0 H0 H1 locs1 → W p l e R s m args below meth c H1 locs1 (cells + mc) (slots + ms) Q (F0 m (pc + 3) ls (.double r :: rest))) : W p l e R s m args below meth c H locs cells slots Q (F0 m pc ls st0) := by
  intro T hT X
  rcases hr T hT X with ⟨v, st₀, t, T', L, h0, X', hL, e1, e2, ⟨⟨r, u, hv, hp, hb⟩, hF⟩, st⟩ | ⟨q, st₀, t, T', L, E, ce, h0, X', hL, e1, e2, ⟨u, hp, hb, hF⟩, hce, hcv, hcl, st⟩
  · cases hv
    obtain ⟨k1, k2, k3⟩ := vx_keep h0 e1 hS hA hf hL hF
    obtain ⟨t2, a1, b1⟩ := kk r u t T'.heap (locs ++ L) e1.symm (by rw [← e2]; exact X'.warmed.alike) hp hb k1 k2 k3 T' rfl X'
    exact ⟨t2, st t2 a1, b1⟩
  · obtain ⟨k1, k2, k3⟩ := vx_keep h0 e1 hS hAX hf hL hF
    obtain ⟨t2, a1, b1⟩ := kx E ce q u t T'.heap (locs ++ L) e1.symm (by rw [← e2]; exact X'.warmed.alike) hp hb k1 k2 k3 (by rw [e1]; exact hce) hcv hcl T' rfl X'
    exact ⟨t2, st.trans a1, b1⟩
theorem vx_callv {S SX : Type} {post : S → Prop} {px : SX → Prop} {B : S → State → Prop} {BX : String → SX → State → Prop} {AX : Nat → Prop} (hr : vx_Run p l e R s m args below meth c H locs cells slots mc ms (F0 m pc ls st0) rest (va_Qv post B A1 a) (vx_X px BX AX) free) (hS : va_S A0 H0 H locs) (hA : ∀ q, q < H.size → A1 q → A0 q) (hf : ∀ q, free q → A0 q) (hAX : ∀ q, q < H.size → AX q → A0 q)
    (kx : ∀ (E : String) (ce : Cell) (q9 : Addr) (u : SX) (t : State) (H1 : Heap) (locs1 : List Loc), t.heap = H1 → s.vm.Alike t.vm → px u → BX E u t → H.size ≤ H1.size → (∀ q : Nat, q < H.size → ¬ AX q → H1[q]? = H[q]?) → va_S A0 H0 H1 locs1 → H1[q9]? = some ce → ce.vm = .none → s.vm.findClass E = some ce.cls → vx_W p l e R s m args below meth c H1 locs1 (cells + mc) (slots + ms) Q (F0 m pc ls rest) q9)
    (kk : ∀ (u : S) (t : State) (H1 : Heap) (locs1 : List Loc), t.heap = H1 → s.vm.Alike t.vm → post u → B u t → H.size ≤ H1.size → (∀ q : Nat, q < H.size → ¬ A1 q → H1[q]? = H[q]?) → va_S A0 H0 H1 locs1 → W p l e R s m args below meth c H1 locs1 (cells + mc) (slots + ms) Q (F0 m (pc + 3) ls (rest))) : W p l e R s m args below meth c H locs cells slots Q (F0 m pc ls st0) := by
  intro T hT X
  rcases hr T hT X with ⟨v, st₀, t, T', L, h0, X', hL, e1, e2, ⟨⟨u, hv, hp, hb⟩, hF⟩, st⟩ | ⟨q, st₀, t, T', L, E, ce, h0, X', hL, e1, e2, ⟨u, hp, hb, hF⟩, hce, hcv, hcl, st⟩
  · cases hv
    obtain ⟨k1, k2, k3⟩ := vx_keep h0 e1 hS hA hf hL hF
    obtain ⟨t2, a1, b1⟩ := kk u t T'.heap (locs ++ L) e1.symm (by rw [← e2]; exact X'.warmed.alike) hp hb k1 k2 k3 T' rfl X'
    exact ⟨t2, st t2 a1, b1⟩
  · obtain ⟨k1, k2, k3⟩ := vx_keep h0 e1 hS hAX hf hL hF
    obtain ⟨t2, a1, b1⟩ := kx E ce q u t T'.heap (locs ++ L) e1.symm (by rw [← e2]; exact X'.warmed.alike) hp hb k1 k2 k3 (by rw [e1]; exact hce) hcv hcl T' rfl X'
    exact ⟨t2, st.trans a1, b1⟩
/-- caught by the row x of this method's table; the rows ahead don't take it -/
theorem vx_catch {own name : String} {E : String} {ce : Cell} {q : Addr} (hown : s.vm.findClass own = some m.cls) (pre : List ExceptionTableEntry) (x : ExceptionTableEntry) (suf : List ExceptionTableEntry) (hsplit : c.exceptionTable.toList = pre ++ x :: suf)
    (hpass : ∀ z ∈ pre, covers z pc = false ∨ (z.catchType ≠ 0 ∧ ∃ nm : String, (Cond.classLink own z.catchType nm).before args s = true ∧ va_Nc E nm s)) (hx : covers x pc = true) (h0 : x.catchType ≠ 0)
    (hlink : (Cond.classLink own x.catchType name).before args s = true) (hcast : (Cond.castable E name).before args s = true) (hcell : H[q]? = some ce) (hv : ce.vm = .none) (hcl : s.vm.findClass E = some ce.cls)
    (kk : W p l e R s m args below meth c H locs cells slots Q (F0 m x.handlerPc ls [.ref q])) : vx_W p l e R s m args below meth c H locs cells slots Q (F0 m pc ls rest) q := by
  intro T hT X
  have hpl : e.platform.magicAccessors = ({} : Platform).magicAccessors := by rw [X.admits.platform]
  obtain ⟨c3, c4, hc3, hc4, hasg⟩ := Cond.castable_spec hcast
  cases Option.some.inj (hc3.symm.trans hcl)
  obtain ⟨c5, hc5, hcl5⟩ := Cond.classLink_spec hown hlink e.platform hpl
  cases Option.some.inj (hc4.symm.trans hc5)
  obtain ⟨vm', X', st⟩ := X.thenCaughtThrough q (g := F0 m pc ls rest) rfl (Steps.refl _) (by rw [hT]; exact hcell) (by rw [hv]; rfl) (by obtain ⟨k9, h9, -⟩ := Vm.findClass_spec hcl; exact ⟨k9, h9⟩) pre x suf hsplit
    (fun z hz => by
      rcases hpass z hz with h | ⟨hz0, nm, hl1, hn1⟩
      · exact Or.inl h
      · obtain ⟨c6, hc6, hcl6⟩ := Cond.classLink_spec hown hl1 e.platform hpl
        obtain ⟨a8, b8, h1, h2, h3⟩ := hn1
        cases Option.some.inj (h1.symm.trans hcl)
        cases Option.some.inj (h2.symm.trans hc6)
        exact Or.inr ⟨hz0, _, hcl6, h3⟩) hx (Or.inr ⟨h0, c4, hcl5, hasg⟩)
  obtain ⟨t, a1, b1⟩ := kk (T.setVm vm') hT X'
  exact ⟨t, st.trans a1, b1⟩
end Rows
section Ends
variable {p : Program} {l : Launch} {e : Env} {R : Room} {s : State} {m : MethodId} {args : Array Value} {below : List Frame} {meth : Method} {c : Code} {H : Heap} {locs : List Loc} {cells slots : Nat} {Q : State → Prop}
variable {mc ms : Nat} {free : Addr → Prop} {A0 A1 : Nat → Prop} {H0 : Heap} {a : Array Value} {ls : Array Slot} {st0 rest : List Value}
variable {Qc : Array Value → State → Outcome → State → Prop} {XC : String → State → State → Prop}
/-- what a body that may throw owes at its end -/
def vx_MQ (below : List Frame) (Qc : Array Value → State → Outcome → State → Prop) (XC : String → State → State → Prop) (a : Array Value) (s : State) (mc ms : Nat) (free : Addr → Prop) : State → Prop := fun t =>
  ∃ o, t.status = .running ∧ Ended t below o ∧ vx_Q Qc XC mc ms free a s o t
theorem vx_ret {g : JFrame} {mc ms : Nat} (k : W p l e R s m args below meth c H locs cells slots (MQ below Qc args s mc ms free) g) : W p l e R s m args below meth c H locs cells slots (vx_MQ below Qc XC args s mc ms free) g := by
  intro T hT X
  obtain ⟨t, a1, o, b1, b2, b3, b4⟩ := k T hT X
  exact ⟨t, a1, o, b1, b2, Or.inl ⟨b3, b4⟩⟩
/-- not caught here: it goes on to the caller -/
theorem vx_widen {g : JFrame} {q : Addr} {k n : Nat} (h1 : cells ≤ k) (h2 : slots ≤ n) (kk : vx_W p l e R s m args below meth c H locs k n Q g q) : vx_W p l e R s m args below meth c H locs cells slots Q g q := fun T hT X => kk T hT (stand_widen X h1 h2)
theorem vx_out {pc : Nat} {E : String} {ce : Cell} {q : Addr} {mc ms : Nat} (hout : ∀ x ∈ c.exceptionTable.toList, covers x pc = false) (hlocks : meth.locks = false) (hcell : H[q]? = some ce) (hv : ce.vm = .none) (hcl : s.vm.findClass E = some ce.cls)
    (hx : ∀ t : State, t.heap = H → s.vm.Alike t.vm → XC E s t) (hf : ∀ z ∈ locs, free z.base) (hc : cells ≤ mc) (hs : slots ≤ ms) :
    vx_W p l e R s m args below meth c H locs cells slots (vx_MQ below Qc XC args s mc ms free) (F0 m pc ls rest) q := by
  intro T hT X
  obtain ⟨st1, hrun, hend, hW, hsm⟩ := X.leaveThrown q (g := F0 m pc ls rest) rfl rfl rfl hout hlocks
  have hcell9 : (T.setFrames (.throwing q :: below)).heap[q]? = some ce := by
    show T.heap[q]? = some ce
    rw [hT]; exact hcell
  exact ⟨_, st1, .threw q, hrun, hend, Or.inr ⟨q, rfl, E, ce, locs, hx _ hT hW.alike, hcell9, hv, hcl, hW, hsm.mono hc hs, hf⟩⟩
theorem vx_frame {U : State} {k n : Nat} (h : s.sameButNew ({ U with vm := s.vm } : State) locs k n) : s.heap.size ≤ U.heap.size ∧ ∀ q : Nat, q < s.heap.size → (∀ z ∈ locs, z.base ≠ q) → U.heap[q]? = s.heap[q]? := by
  obtain ⟨-, h2, -, -, -, h6⟩ := h
  refine ⟨h2, fun q hq hz => ?_⟩
  obtain ⟨c9, e1, e2, e3, e4⟩ := h6 q _ (Array.getElem?_eq_getElem hq)
  have hs : c9.slots = (s.heap[q]).slots := Array.ext_getElem? fun i => e4 i fun hm => hz _ hm rfl
  have h9 : c9 = s.heap[q] := by
    rw [hs] at e2
    exact e2
  have e5 : U.heap[q]? = some c9 := e1
  rw [e5, h9, Array.getElem?_eq_getElem hq]
/-- the words of a throw but the four that speak of the heap -/
def vx_no (w : Cond) : Bool := decide (w ≠ .isRef (.static Bundle.tN "UNASSIGNED_STACK" Bundle.steD)) && decide (w ≠ .isRef (.static Bundle.tN "SUPPRESSED_SENTINEL" Bundle.listD)) && decide (w ≠ .laysStatic Bundle.tN "UNASSIGNED_STACK" Bundle.steD) && decide (w ≠ .laysStatic Bundle.tN "SUPPRESSED_SENTINEL" Bundle.listD)
def vx_at0 (own : String) (ic : Nat) (X : String) (names : List String) : List Cond := (Bundle.ownAtoms0 own ic X names).filter vx_no
def vx_atS (own : String) (ic : Nat) (X : String) (names : List String) : List Cond := (Bundle.ownAtoms own ic X names).filter vx_no
/-- a word that the tables alone decide, or a good one -/
def vx_ot (w : Cond) : Bool := w.onTables || goodWord w
theorem vx_ot_at {args a' : Array Value} {s U : State} {w : Cond} (hW : s.WarmedH U.vm) (hvm : s.vm = U.vm) (hg : vx_ot w = true) (h : w.before args s = true) : w.before a' U = true := by
  simp only [vx_ot, Bool.or_eq_true] at hg
  rcases hg with hg | hg
  · exact va_tabs hg hvm h
  · exact word_at hW (good_of_word hg) h
/-- a list's words: the good ones out of the method's own list, the others by premises of their own -/
theorem vx_hat {args : Array Value} {s : State} {L B : List Cond} (h1 : ∀ w ∈ L.filter goodWord, w.before args s = true) (h2 : ∀ w ∈ L.filter (fun w => !goodWord w), w ∈ B) (h3 : ∀ w ∈ B, w.before args s = true) : ∀ w ∈ L, w.before args s = true := by
  intro w hw
  by_cases g : goodWord w = true
  · exact h1 w (List.mem_filter.mpr ⟨hw, g⟩)
  · refine h3 w (h2 w (List.mem_filter.mpr ⟨hw, ?_⟩))
    show (!goodWord w) = true
    cases hgw : goodWord w
    · rfl
    · exact absurd hgw g
theorem vx_c {args : Array Value} {s : State} {w : Cond} {B : List Cond} (h : w.before args s = true) (t : ∀ w ∈ B, w.before args s = true) : ∀ w' ∈ w :: B, w'.before args s = true := fun w' h' => (List.mem_cons.mp h').elim (fun e => by rw [e]; exact h) (t w')
theorem vx_n {args : Array Value} {s : State} : ∀ w ∈ ([] : List Cond), w.before args s = true := fun _ h => nomatch h
theorem vx_own {args : Array Value} {s : State} {L : List Cond} (h1 : ∀ w ∈ L.filter vx_no, w.before args s = true)
    (hU : (Cond.isRef (.static Bundle.tN "UNASSIGNED_STACK" Bundle.steD)).before args s = true) (hN : (Cond.isRef (.static Bundle.tN "SUPPRESSED_SENTINEL" Bundle.listD)).before args s = true)
    (lU : (Cond.laysStatic Bundle.tN "UNASSIGNED_STACK" Bundle.steD).before args s = true) (lN : (Cond.laysStatic Bundle.tN "SUPPRESSED_SENTINEL" Bundle.listD).before args s = true) : ∀ w ∈ L, w.before args s = true := by
  intro w hw
  by_cases e1 : w = .isRef (.static Bundle.tN "UNASSIGNED_STACK" Bundle.steD)
  · rw [e1]; exact hU
  · by_cases e2 : w = .isRef (.static Bundle.tN "SUPPRESSED_SENTINEL" Bundle.listD)
    · rw [e2]; exact hN
    · by_cases e3 : w = .laysStatic Bundle.tN "UNASSIGNED_STACK" Bundle.steD
      · rw [e3]; exact lU
      · by_cases e4 : w = .laysStatic Bundle.tN "SUPPRESSED_SENTINEL" Bundle.listD
        · rw [e4]; exact lN
        · exact h1 w (List.mem_filter.mpr ⟨hw, by unfold vx_no; rw [decide_eq_true e1, decide_eq_true e2, decide_eq_true e3, decide_eq_true e4]; rfl⟩)
/-- where a static field lies, its class's statics cell in H -/
def vx_L (C n d : String) (A : Nat → Prop) (U : State) (H : Heap) : Prop := ∃ (c : ClassId) (k : Class) (i : Nat) (f : Field) (a : Nat) (cell : Cell), U.vm.findClass C = some c ∧ U.fieldFound? C n d = some (c, k, i, f) ∧ f.isStatic = true ∧ k.statics = some a ∧ H[a]? = some cell ∧ cell.vm.isStatics = true ∧ cell.cls = c ∧ f.slot < cell.slots.size ∧ k.staticTypes[f.slot]? = some f.type ∧ ¬ A a
theorem vx_L.moved {C n d : String} {A : Nat → Prop} {u U : State} {H : Heap} (hvm : u.vm.Alike U.vm) (h : vx_L C n d A u H) : vx_L C n d A U H := by
  obtain ⟨c, k, i, f, a, cell, h1, h2, h3, h4, h5, h6, h7, h8, h9, h10⟩ := h
  obtain ⟨k', hi', he⟩ := State.fieldFound?_setVm hvm h2
  exact ⟨c, k', i, f, a, cell, by rw [hvm.findClass]; exact h1, hi', h3, by rw [he]; exact h4, h5, h6, h7, h8, by rw [he]; exact h9, h10⟩
theorem vx_L.kept {C n d : String} {A : Nat → Prop} {U : State} {H H1 : Heap} (h : vx_L C n d A U H) (hq : ∀ a : Nat, a < H.size → ¬ A a → H1[a]? = H[a]?) : vx_L C n d A U H1 := by
  obtain ⟨c, k, i, f, a, cell, h1, h2, h3, h4, h5, h6, h7, h8, h9, h10⟩ := h
  exact ⟨c, k, i, f, a, cell, h1, h2, h3, h4, by rw [hq a (Array.getElem?_eq_some_iff.mp h5).1 h10]; exact h5, h6, h7, h8, h9, h10⟩
theorem vx_L.narrow {C n d : String} {A B : Nat → Prop} {U : State} {H : Heap} (h : vx_L C n d A U H) (hAB : ∀ q, B q → A q) : vx_L C n d B U H := by
  obtain ⟨c, k, i, f, a, cell, h1, h2, h3, h4, h5, h6, h7, h8, h9, h10⟩ := h
  exact ⟨c, k, i, f, a, cell, h1, h2, h3, h4, h5, h6, h7, h8, h9, fun z => h10 (hAB _ z)⟩
theorem vx_L.word {C n d : String} {A : Nat → Prop} {s : State} {args : Array Value} (h : vx_L C n d A s s.heap) : (Cond.laysStatic C n d).before args s = true := by
  obtain ⟨c, k, i, f, a, cell, h1, h2, h3, h4, h5, h6, h7, h8, h9, -⟩ := h
  show (Cond.laysStatic C n d).holds args s none s [] = true
  exact Cond.laysStatic_of h1 h2 h3 h4 h5 h6 h7 h8 h9
/-- .. and what it holds: null or some reference -/
def vx_Zq (C n d : String) (A : Nat → Prop) (U : State) (H : Heap) : Prop := va_Zq C n d A U H ∧ vx_L C n d A U H
theorem vx_Zq.moved {C n d : String} {A : Nat → Prop} {u U : State} {H : Heap} (hvm : u.vm.Alike U.vm) (h : vx_Zq C n d A u H) : vx_Zq C n d A U H := ⟨va_Zq.moved hvm h.1, vx_L.moved hvm h.2⟩
theorem vx_Zq.kept {C n d : String} {A : Nat → Prop} {U : State} {H H1 : Heap} (h : vx_Zq C n d A U H) (hq : ∀ a : Nat, a < H.size → ¬ A a → H1[a]? = H[a]?) : vx_Zq C n d A U H1 := ⟨va_Zq.kept h.1 hq, vx_L.kept h.2 hq⟩
theorem vx_Zq.narrow {C n d : String} {A B : Nat → Prop} {U : State} {H : Heap} (h : vx_Zq C n d A U H) (hAB : ∀ q, B q → A q) : vx_Zq C n d B U H := ⟨va_Zq.narrow h.1 hAB, vx_L.narrow h.2 hAB⟩
theorem vx_Zqof {args : Array Value} {s : State} {C n d : String} {A : Nat → Prop} (hl : (Cond.laysStatic C n d).before args s = true) (hini : (Cond.initialized C).before args s = true) (h : (Cond.isRef (.static C n d)).before args s = true) (hA : ∀ a : Nat, a < s.heap.size → ¬ A a) : vx_Zq C n d A s s.heap := by
  refine ⟨va_Zqof hl hini h hA, ?_⟩
  obtain ⟨c, k, i, f, a, cell, h1, h2, h3, h4, h5, h6, h7, h8, h9⟩ := Cond.laysStatic_spec hl
  exact ⟨c, k, i, f, a, cell, h1, h2, h3, h4, h5, h6, h7, h8, h9, hA a (Array.getElem?_eq_some_iff.mp h5).1⟩
theorem vx_isRef {C n d : String} {v : Value} {A : Nat → Prop} {s : State} {args : Array Value} (h : va_Z C n d v A s s.heap) (hv : v.isRef = true) : (Cond.isRef (.static C n d)).before args s = true := by
  obtain ⟨cf, kf, fi, f, a, cell, h1, h2, h3, h4, h5, h6, h7, -⟩ := h
  have he : (Term.static C n d).eval args s none [] s = some v := by
    simp [Term.eval, State.fieldNamed?, h1, h2, h4, h5, h6, h7]
  simp only [Cond.before, Cond.holds, Cond.value, he]
  cases v <;> simp_all [Value.isRef]
theorem vx_isRefq {C n d : String} {A : Nat → Prop} {s : State} {args : Array Value} (h : va_Zq C n d A s s.heap) : (Cond.isRef (.static C n d)).before args s = true := by
  rcases h with h | ⟨t, h⟩
  · exact vx_isRef h rfl
  · exact vx_isRef h rfl
/-- the same frame, seen from here: as if the method were called anew in this heap -/
theorem vx_rebase {T : State} (X : Stand p l e R s m args below meth c T locs cells slots) {R' : Room} (hf : R'.frames ≤ R.frames) (hl : R'.locals ≤ R.locals) (hc : cells + R'.cells ≤ R.cells) (hs : slots + R'.slots ≤ R.slots) :
    Stand p l e R' ((T.setVm s.vm).setFrames (.invoking m args :: below)) m args below meth c T [] 0 0 := by
  have htop : (T.setVm s.vm).topJava?.isSome := X.here.top
  have hF : ((T.setVm s.vm).setFrames (.invoking m args :: below)).frames = .invoking m args :: below := State.frames_setFrames _ (State.cur_lt_of_top htop)
  obtain ⟨g₀, hg0⟩ := Option.isSome_iff_exists.mp htop
  obtain ⟨r, hr⟩ := State.topJava?_eq_some.mp hg0
  have hl9 : e.platform.stackLimits (T.setVm s.vm).me = e.platform.stackLimits s.me := X.limits
  have hb9 : (T.setVm s.vm).me.stackBytes = s.me.stackBytes := X.bytes
  refine ⟨X.admits, X.cas, X.clock, hF, ?_, X.hears, X.method, X.code, X.here, X.tail, X.warmed, ?_, ?_, ?_⟩
  · have h := X.room
    have hU : ((T.setVm s.vm).setFrames (.invoking m args :: below)).localsInUse = s.localsInUse := by
      rw [State.localsInUse_invoking hF (meth := meth) (c := c) X.method X.code, State.localsInUse_invoking X.frames X.method X.code]
    simp only [State.hasRoom, Bool.and_eq_true, decide_eq_true_eq] at h ⊢
    obtain ⟨⟨⟨⟨h1, h2, h3, h4, h5, h6⟩, h7⟩, h8⟩, h9⟩ := h
    rw [X.frames, List.length_cons] at h2 h3
    have q1 := X.heapSize
    have q2 := X.used
    simp only [hF, hU, List.length_cons, State.stackLimits_setFrames, State.stackBytes_setFrames, hl9, hb9]
    refine ⟨⟨⟨⟨by omega, by omega, by omega, by omega, by omega, h6⟩, ?_⟩, ?_⟩, X.book⟩
    · show T.heap.size + R'.cells ≤ e.platform.maxCells
      omega
    · show T.slotsUsed + R'.slots ≤ e.platform.maxSlots
      omega
  · rw [State.stackLimits_setFrames]; rfl
  · rw [State.stackBytes_setFrames]; rfl
  · refine ⟨?_, Nat.le_refl _, Nat.le_refl _, ?_, ?_, fun a c9 h9 => ⟨c9, h9, rfl, rfl, fun _ _ => rfl⟩⟩
    · obtain ⟨t, ht, -⟩ := State.frames_cons hr
      show T.setVm s.vm = { ((T.setVm s.vm).setFrames (.invoking m args :: below)).setFrames (T.setVm s.vm).frames with heap := T.heap, slotsUsed := T.slotsUsed }
      rw [State.setFrames_setFrames, State.setFrames_self ht]
      rfl
    · show T.slotsUsed = T.slotsUsed + ((T.heap.toList.drop T.heap.size).map (·.slots.size)).sum
      rw [List.drop_eq_nil_of_le (Nat.le_of_eq Array.length_toList)]
      rfl
    · show ((T.heap.toList.drop T.heap.size).map (·.slots.size)).sum ≤ 0
      rw [List.drop_eq_nil_of_le (Nat.le_of_eq Array.length_toList)]
      exact Nat.le_refl _
/-- 'throw new E()': new; dup; invokespecial; athrow -/
theorem vx_throw0 {cc : ByteArray} {pc : Nat} (hexec : p.tables.exec = Jvm.exec) (hb : c.code = cc) (hl : l.stackTraces = false) {own cls : String} {names : List String} {ik ic mc ms : Nat} {A : Nat → Prop}
    (hown : s.vm.findClass own = some m.cls) (hcls : Bundle.fit cls = true) (hnames : ∀ n ∈ names, Bundle.fit n = true)
    (hk : (Cond.classLink own ik cls).before args s = true) (hini : (Cond.initialized cls).before args s = true) (hat : ∀ w ∈ vx_at0 own ic cls names, w.before args s = true)
    (hgood : ∀ w ∈ Cond.classLink own ik cls :: Cond.initialized cls :: vx_at0 own ic cls names, vx_ot w = true)
    (hU : vx_Zq Bundle.tN "UNASSIGNED_STACK" Bundle.steD A s s.heap) (hN : vx_Zq Bundle.tN "SUPPRESSED_SENTINEL" Bundle.listD A s s.heap) (hS : va_S A s.heap H locs) (hsize : ls.size = c.maxLocals)
    (d0 : decode cc pc = .ok (.new ik, 3)) (d3 : decode cc (pc + 3) = .ok (.dup, 1)) (d4 : decode cc (pc + 4) = .ok (.invokespecial ic, 3)) (d7 : decode cc (pc + 7) = .ok (.athrow, 1))
    (hout : ∀ x ∈ c.exceptionTable.toList, covers x (pc + 7) = false)
    (hRframes : names.length + 3 < R.frames) (hRlocals : (rest.map fun v => v.category).sum + (13 * (names.length + 1) + 42) ≤ R.locals) (hRcells : cells + 1 ≤ R.cells) (hRslots : slots + 6 ≤ R.slots) (hlocks : meth.locks = false)
    (hx : ∀ t : State, s.vm.Alike t.vm → H.size ≤ t.heap.size → (∀ q : Nat, q < H.size → t.heap[q]? = H[q]?) → XC cls s t)
    (hf : ∀ z ∈ locs, free z.base) (hc : cells + 1 ≤ mc) (hs : slots + 6 ≤ ms) :
    W p l e R s m args below meth c H locs cells slots (vx_MQ below Qc XC args s mc ms free) (F0 m pc ls rest) := by
  intro T hT X
  have htr : e.platform.stackTraces = false := (show e.platform.stackTraces = l.stackTraces by rw [X.admits.platform]).trans hl
  have Y := vx_rebase X (R' := { frames := R.frames, locals := R.locals, cells := 1, slots := 6 }) (Nat.le_refl _) (Nat.le_refl _) hRcells hRslots
  obtain ⟨s', hA⟩ : ∃ z, z = (T.setVm s.vm).setFrames (.invoking m args :: below) := ⟨_, rfl⟩
  rw [← hA] at Y
  have hvm : s'.vm = s.vm := by rw [hA]; rfl
  have hhp : s'.heap = H := by rw [hA]; exact hT
  have hW0 : s.WarmedH s'.vm := by rw [hvm]; exact State.WarmedH.refl s
  have hat' : ∀ w ∈ vx_at0 own ic cls names, w.before args s' = true := fun w hw => vx_ot_at hW0 hvm.symm (hgood w (List.mem_cons_of_mem _ (List.mem_cons_of_mem _ hw))) (hat w hw)
  have hk' : (Cond.classLink own ik cls).before args s' = true := vx_ot_at hW0 hvm.symm (hgood _ List.mem_cons_self) hk
  have hini' : (Cond.initialized cls).before args s' = true := vx_ot_at hW0 hvm.symm (hgood _ (List.mem_cons_of_mem _ List.mem_cons_self)) hini
  have hU' : vx_Zq Bundle.tN "UNASSIGNED_STACK" Bundle.steD A s' s'.heap := by rw [hhp]; exact vx_Zq.moved hW0.alike (hU.kept hS.2.1)
  have hN' : vx_Zq Bundle.tN "SUPPRESSED_SENTINEL" Bundle.listD A s' s'.heap := by rw [hhp]; exact vx_Zq.moved hW0.alike (hN.kept hS.2.1)
  have h : ∀ w ∈ Bundle.ownAtoms0 own ic cls names, w.before args s' = true := vx_own hat' (vx_isRefq hU'.1) (vx_isRefq hN'.1) hU'.2.word hN'.2.word
  have hown' : s'.vm.findClass own = some m.cls := by rw [hvm]; exact hown
  have hins : (Cond.instantiable cls 6).before args s' = true := h _ (by simp [Bundle.ownAtoms0])
  obtain ⟨vm₁, cX, kX, hfX, hkX, -, -, X₁, st1⟩ := Y.newCold hexec (own := own) (C := cls) (index := ik) (n := 6) hown' hk' hins hini'
    (g := F0 m pc ls rest) rfl (by rw [hb]; exact d0) (Nat.le_refl _) (Nat.le_refl _)
  generalize hT1 : (T.setVm vm₁).pushCell { cls := cX, slots := kX.instanceTypes.map defaultValue, vm := .none } = T1 at X₁ st1
  have hcat : (Value.ref T.heap.size).category = 1 := rfl
  have hcellA : T1.heap[T.heap.size]? = some (freshCell cX kX) := by rw [← hT1]; exact State.heap_pushCell_size _ _
  have d3' : decode c.code (pc + 3) = .ok (.dup, 1) := by rw [hb]; exact d3
  obtain ⟨U, hsteps, hrun, hend, hW, hsame, ce, hce, hO⟩ := X₁.ctorThrow0 hexec htr (own := own) (cls := cls) (names := names) (ic := ic) hown' hcls hnames h (fun x hx => nomatch hx) hfX hkX hcellA (by rw [hhp, hT]; exact Nat.le_refl _)
    (g := { method := m, pc := pc + 4, locals := ls, stack := .ref T.heap.size :: .ref T.heap.size :: rest, locked := none }) rfl hsize rfl rfl (rest := rest) rfl
    (by rw [hb]; exact d4) (by rw [hb]; exact d7) hout hRframes (by simp only [List.map_cons, List.sum_cons, hcat]; omega) hlocks
  obtain ⟨f1, f2⟩ := vx_frame hsame
  rw [hhp] at f1 f2
  have hWs : s.WarmedH U.vm := State.WarmedH.trans hW0 hW
  have hcl : s.vm.findClass cls = some ce.cls := by
    have h9 := hO.cls
    rw [hvm] at h9
    exact h9
  have hall : s.sameButNew ({ U with vm := s.vm } : State) locs mc ms := by
    subst hA
    obtain ⟨e1, e2⟩ := hsame
    rw [State.setFrames_setFrames] at e1
    have h2 : (T.setVm s.vm).sameButNew ({ U with vm := s.vm } : State) [] (0 + 1) (0 + 6) := ⟨e1, e2⟩
    have h3 := X.same.trans h2
    rw [List.append_nil] at h3
    exact h3.mono hc hs
  refine ⟨U, ?_, .threw T.heap.size, hrun, hend, Or.inr ⟨T.heap.size, rfl, cls, ce, locs, hx U hWs.alike f1 (fun q hq => f2 q hq (fun z hz => nomatch hz)), hce, hO.vm, hcl, hWs, hall, hf⟩⟩
  refine st1 _ ?_
  show Steps p.tables e below (T1.setTop { method := m, pc := pc + 3, locals := ls, stack := .ref T.heap.size :: rest, locked := none }) _
  jvm_step X₁.here [X₁.here.top, hexec, d3', Value.category]
  exact hsteps
/-- 'throw new E("text")': new; dup; ldc; invokespecial; athrow -/
theorem vx_throwS {cc : ByteArray} {pc : Nat} (hexec : p.tables.exec = Jvm.exec) (hb : c.code = cc) (hl : l.stackTraces = false) {own cls text : String} {names : List String} {ik is ic mc ms sa : Nat} {A : Nat → Prop}
    (hown : s.vm.findClass own = some m.cls) (hcls : Bundle.fit cls = true) (hnames : ∀ n ∈ names, Bundle.fit n = true)
    (hk : (Cond.classLink own ik cls).before args s = true) (hini : (Cond.initialized cls).before args s = true) (hstr : vk_R own is text sa s) (hat : ∀ w ∈ vx_atS own ic cls names, w.before args s = true)
    (hgood : ∀ w ∈ Cond.classLink own ik cls :: Cond.initialized cls :: vx_atS own ic cls names, vx_ot w = true)
    (hU : vx_Zq Bundle.tN "UNASSIGNED_STACK" Bundle.steD A s s.heap) (hN : vx_Zq Bundle.tN "SUPPRESSED_SENTINEL" Bundle.listD A s s.heap) (hS : va_S A s.heap H locs) (hsize : ls.size = c.maxLocals)
    (d0 : decode cc pc = .ok (.new ik, 3)) (d3 : decode cc (pc + 3) = .ok (.dup, 1)) (d4 : decode cc (pc + 4) = .ok (.ldc is, 2)) (d6 : decode cc (pc + 6) = .ok (.invokespecial ic, 3)) (d9 : decode cc (pc + 9) = .ok (.athrow, 1))
    (hout : ∀ x ∈ c.exceptionTable.toList, covers x (pc + 9) = false)
    (hRframes : names.length + 3 < R.frames) (hRlocals : (rest.map fun v => v.category).sum + (13 * (names.length + 1) + 43) ≤ R.locals) (hRcells : cells + 1 ≤ R.cells) (hRslots : slots + 6 ≤ R.slots) (hlocks : meth.locks = false)
    (hx : ∀ t : State, s.vm.Alike t.vm → H.size ≤ t.heap.size → (∀ q : Nat, q < H.size → t.heap[q]? = H[q]?) → XC cls s t)
    (hf : ∀ z ∈ locs, free z.base) (hc : cells + 1 ≤ mc) (hs : slots + 6 ≤ ms) :
    W p l e R s m args below meth c H locs cells slots (vx_MQ below Qc XC args s mc ms free) (F0 m pc ls rest) := by
  intro T hT X
  have htr : e.platform.stackTraces = false := (show e.platform.stackTraces = l.stackTraces by rw [X.admits.platform]).trans hl
  have Y := vx_rebase X (R' := { frames := R.frames, locals := R.locals, cells := 1, slots := 6 }) (Nat.le_refl _) (Nat.le_refl _) hRcells hRslots
  obtain ⟨s', hA⟩ : ∃ z, z = (T.setVm s.vm).setFrames (.invoking m args :: below) := ⟨_, rfl⟩
  rw [← hA] at Y
  have hvm : s'.vm = s.vm := by rw [hA]; rfl
  have hhp : s'.heap = H := by rw [hA]; exact hT
  have hW0 : s.WarmedH s'.vm := by rw [hvm]; exact State.WarmedH.refl s
  have hat' : ∀ w ∈ vx_atS own ic cls names, w.before args s' = true := fun w hw => vx_ot_at hW0 hvm.symm (hgood w (List.mem_cons_of_mem _ (List.mem_cons_of_mem _ hw))) (hat w hw)
  have hk' : (Cond.classLink own ik cls).before args s' = true := vx_ot_at hW0 hvm.symm (hgood _ List.mem_cons_self) hk
  have hini' : (Cond.initialized cls).before args s' = true := vx_ot_at hW0 hvm.symm (hgood _ (List.mem_cons_of_mem _ List.mem_cons_self)) hini
  have hU' : vx_Zq Bundle.tN "UNASSIGNED_STACK" Bundle.steD A s' s'.heap := by rw [hhp]; exact vx_Zq.moved hW0.alike (hU.kept hS.2.1)
  have hN' : vx_Zq Bundle.tN "SUPPRESSED_SENTINEL" Bundle.listD A s' s'.heap := by rw [hhp]; exact vx_Zq.moved hW0.alike (hN.kept hS.2.1)
  have h : ∀ w ∈ Bundle.ownAtoms own ic cls names, w.before args s' = true := vx_own hat' (vx_isRefq hU'.1) (vx_isRefq hN'.1) hU'.2.word hN'.2.word
  have hown' : s'.vm.findClass own = some m.cls := by rw [hvm]; exact hown
  have hins : (Cond.instantiable cls 6).before args s' = true := h _ (by simp [Bundle.ownAtoms])
  obtain ⟨vm₁, cX, kX, hfX, hkX, -, -, X₁, st1⟩ := Y.newCold hexec (own := own) (C := cls) (index := ik) (n := 6) hown' hk' hins hini'
    (g := F0 m pc ls rest) rfl (by rw [hb]; exact d0) (Nat.le_refl _) (Nat.le_refl _)
  generalize hT1 : (T.setVm vm₁).pushCell { cls := cX, slots := kX.instanceTypes.map defaultValue, vm := .none } = T1 at X₁ st1
  have hcat : (Value.ref T.heap.size).category = 1 := rfl
  have hcellA : T1.heap[T.heap.size]? = some (freshCell cX kX) := by rw [← hT1]; exact State.heap_pushCell_size _ _
  have d3' : decode c.code (pc + 3) = .ok (.dup, 1) := by rw [hb]; exact d3
  have d4' : decode c.code (pc + 4) = .ok (.ldc is, 2) := by rw [hb]; exact d4
  have hstr' : vk_R own is text sa s' := vk_R.warm hW0 hstr
  obtain ⟨U, hsteps, hrun, hend, hW, hsame, ce, hce, hO⟩ := X₁.ctorThrowS hexec htr (own := own) (cls := cls) (names := names) (ic := ic) hown' hcls hnames h (fun x hx => nomatch hx) hfX hkX hcellA (by rw [hhp, hT]; exact Nat.le_refl _) (msg := .ref sa) rfl
    (g := { method := m, pc := pc + 6, locals := ls, stack := .ref sa :: .ref T.heap.size :: .ref T.heap.size :: rest, locked := none }) rfl hsize rfl rfl (rest := rest) rfl
    (by rw [hb]; exact d6) (by rw [hb]; exact d9) hout hRframes (by simp only [List.map_cons, List.sum_cons, hcat]; omega) hlocks
  obtain ⟨f1, f2⟩ := vx_frame hsame
  rw [hhp] at f1 f2
  have hWs : s.WarmedH U.vm := State.WarmedH.trans hW0 hW
  have hcl : s.vm.findClass cls = some ce.cls := by
    have h9 := hO.cls
    rw [hvm] at h9
    exact h9
  have hall : s.sameButNew ({ U with vm := s.vm } : State) locs mc ms := by
    subst hA
    obtain ⟨e1, e2⟩ := hsame
    rw [State.setFrames_setFrames] at e1
    have h2 : (T.setVm s.vm).sameButNew ({ U with vm := s.vm } : State) [] (0 + 1) (0 + 6) := ⟨e1, e2⟩
    have h3 := X.same.trans h2
    rw [List.append_nil] at h3
    exact h3.mono hc hs
  refine ⟨U, ?_, .threw T.heap.size, hrun, hend, Or.inr ⟨T.heap.size, rfl, cls, ce, locs, hx U hWs.alike f1 (fun q hq => f2 q hq (fun z hz => nomatch hz)), hce, hO.vm, hcl, hWs, hall, hf⟩⟩
  refine st1 _ ?_
  show Steps p.tables e below (T1.setTop { method := m, pc := pc + 3, locals := ls, stack := .ref T.heap.size :: rest, locked := none }) _
  jvm_step X₁.here [X₁.here.top, hexec, d3', Value.category]
  exact X₁.ldcString hexec (own := own) (text := text) (index := is) (a := sa) hown' hstr'.1 hstr'.2
    (g := { method := m, pc := pc + 4, locals := ls, stack := .ref T.heap.size :: .ref T.heap.size :: rest, locked := none }) rfl d4' _ hsteps
/-- 'throw new E("text")', the text by a wide index -/
theorem vx_throwSW {cc : ByteArray} {pc : Nat} (hexec : p.tables.exec = Jvm.exec) (hb : c.code = cc) (hl : l.stackTraces = false) {own cls text : String} {names : List String} {ik is ic mc ms sa : Nat} {A : Nat → Prop}
    (hown : s.vm.findClass own = some m.cls) (hcls : Bundle.fit cls = true) (hnames : ∀ n ∈ names, Bundle.fit n = true)
    (hk : (Cond.classLink own ik cls).before args s = true) (hini : (Cond.initialized cls).before args s = true) (hstr : vk_R own is text sa s) (hat : ∀ w ∈ vx_atS own ic cls names, w.before args s = true)
    (hgood : ∀ w ∈ Cond.classLink own ik cls :: Cond.initialized cls :: vx_atS own ic cls names, vx_ot w = true)
    (hU : vx_Zq Bundle.tN "UNASSIGNED_STACK" Bundle.steD A s s.heap) (hN : vx_Zq Bundle.tN "SUPPRESSED_SENTINEL" Bundle.listD A s s.heap) (hS : va_S A s.heap H locs) (hsize : ls.size = c.maxLocals)
    (d0 : decode cc pc = .ok (.new ik, 3)) (d3 : decode cc (pc + 3) = .ok (.dup, 1)) (d4 : decode cc (pc + 4) = .ok (.ldc_w is, 3)) (d7 : decode cc (pc + 7) = .ok (.invokespecial ic, 3)) (d10 : decode cc (pc + 10) = .ok (.athrow, 1))
    (hout : ∀ x ∈ c.exceptionTable.toList, covers x (pc + 10) = false)
    (hRframes : names.length + 3 < R.frames) (hRlocals : (rest.map fun v => v.category).sum + (13 * (names.length + 1) + 43) ≤ R.locals) (hRcells : cells + 1 ≤ R.cells) (hRslots : slots + 6 ≤ R.slots) (hlocks : meth.locks = false)
    (hx : ∀ t : State, s.vm.Alike t.vm → H.size ≤ t.heap.size → (∀ q : Nat, q < H.size → t.heap[q]? = H[q]?) → XC cls s t)
    (hf : ∀ z ∈ locs, free z.base) (hc : cells + 1 ≤ mc) (hs : slots + 6 ≤ ms) :
    W p l e R s m args below meth c H locs cells slots (vx_MQ below Qc XC args s mc ms free) (F0 m pc ls rest) := by
  intro T hT X
  have htr : e.platform.stackTraces = false := (show e.platform.stackTraces = l.stackTraces by rw [X.admits.platform]).trans hl
  have Y := vx_rebase X (R' := { frames := R.frames, locals := R.locals, cells := 1, slots := 6 }) (Nat.le_refl _) (Nat.le_refl _) hRcells hRslots
  obtain ⟨s', hA⟩ : ∃ z, z = (T.setVm s.vm).setFrames (.invoking m args :: below) := ⟨_, rfl⟩
  rw [← hA] at Y
  have hvm : s'.vm = s.vm := by rw [hA]; rfl
  have hhp : s'.heap = H := by rw [hA]; exact hT
  have hW0 : s.WarmedH s'.vm := by rw [hvm]; exact State.WarmedH.refl s
  have hat' : ∀ w ∈ vx_atS own ic cls names, w.before args s' = true := fun w hw => vx_ot_at hW0 hvm.symm (hgood w (List.mem_cons_of_mem _ (List.mem_cons_of_mem _ hw))) (hat w hw)
  have hk' : (Cond.classLink own ik cls).before args s' = true := vx_ot_at hW0 hvm.symm (hgood _ List.mem_cons_self) hk
  have hini' : (Cond.initialized cls).before args s' = true := vx_ot_at hW0 hvm.symm (hgood _ (List.mem_cons_of_mem _ List.mem_cons_self)) hini
  have hU' : vx_Zq Bundle.tN "UNASSIGNED_STACK" Bundle.steD A s' s'.heap := by rw [hhp]; exact vx_Zq.moved hW0.alike (hU.kept hS.2.1)
  have hN' : vx_Zq Bundle.tN "SUPPRESSED_SENTINEL" Bundle.listD A s' s'.heap := by rw [hhp]; exact vx_Zq.moved hW0.alike (hN.kept hS.2.1)
  have h : ∀ w ∈ Bundle.ownAtoms own ic cls names, w.before args s' = true := vx_own hat' (vx_isRefq hU'.1) (vx_isRefq hN'.1) hU'.2.word hN'.2.word
  have hown' : s'.vm.findClass own = some m.cls := by rw [hvm]; exact hown
  have hins : (Cond.instantiable cls 6).before args s' = true := h _ (by simp [Bundle.ownAtoms])
  obtain ⟨vm₁, cX, kX, hfX, hkX, -, -, X₁, st1⟩ := Y.newCold hexec (own := own) (C := cls) (index := ik) (n := 6) hown' hk' hins hini'
    (g := F0 m pc ls rest) rfl (by rw [hb]; exact d0) (Nat.le_refl _) (Nat.le_refl _)
  generalize hT1 : (T.setVm vm₁).pushCell { cls := cX, slots := kX.instanceTypes.map defaultValue, vm := .none } = T1 at X₁ st1
  have hcat : (Value.ref T.heap.size).category = 1 := rfl
  have hcellA : T1.heap[T.heap.size]? = some (freshCell cX kX) := by rw [← hT1]; exact State.heap_pushCell_size _ _
  have d3' : decode c.code (pc + 3) = .ok (.dup, 1) := by rw [hb]; exact d3
  have d4' : decode c.code (pc + 4) = .ok (.ldc_w is, 3) := by rw [hb]; exact d4
  have hstr' : vk_R own is text sa s' := vk_R.warm hW0 hstr
  obtain ⟨U, hsteps, hrun, hend, hW, hsame, ce, hce, hO⟩ := X₁.ctorThrowS hexec htr (own := own) (cls := cls) (names := names) (ic := ic) hown' hcls hnames h (fun x hx => nomatch hx) hfX hkX hcellA (by rw [hhp, hT]; exact Nat.le_refl _) (msg := .ref sa) rfl
    (g := { method := m, pc := pc + 7, locals := ls, stack := .ref sa :: .ref T.heap.size :: .ref T.heap.size :: rest, locked := none }) rfl hsize rfl rfl (rest := rest) rfl
    (by rw [hb]; exact d7) (by rw [hb]; exact d10) hout hRframes (by simp only [List.map_cons, List.sum_cons, hcat]; omega) hlocks
  obtain ⟨f1, f2⟩ := vx_frame hsame
  rw [hhp] at f1 f2
  have hWs : s.WarmedH U.vm := State.WarmedH.trans hW0 hW
  have hcl : s.vm.findClass cls = some ce.cls := by
    have h9 := hO.cls
    rw [hvm] at h9
    exact h9
  have hall : s.sameButNew ({ U with vm := s.vm } : State) locs mc ms := by
    subst hA
    obtain ⟨e1, e2⟩ := hsame
    rw [State.setFrames_setFrames] at e1
    have h2 : (T.setVm s.vm).sameButNew ({ U with vm := s.vm } : State) [] (0 + 1) (0 + 6) := ⟨e1, e2⟩
    have h3 := X.same.trans h2
    rw [List.append_nil] at h3
    exact h3.mono hc hs
  refine ⟨U, ?_, .threw T.heap.size, hrun, hend, Or.inr ⟨T.heap.size, rfl, cls, ce, locs, hx U hWs.alike f1 (fun q hq => f2 q hq (fun z hz => nomatch hz)), hce, hO.vm, hcl, hWs, hall, hf⟩⟩
  refine st1 _ ?_
  show Steps p.tables e below (T1.setTop { method := m, pc := pc + 3, locals := ls, stack := .ref T.heap.size :: rest, locked := none }) _
  jvm_step X₁.here [X₁.here.top, hexec, d3', Value.category]
  exact X₁.ldcStringW hexec (own := own) (text := text) (index := is) (a := sa) hown' hstr'.1 hstr'.2
    (g := { method := m, pc := pc + 4, locals := ls, stack := .ref T.heap.size :: .ref T.heap.size :: rest, locked := none }) rfl d4' _ hsteps
end Ends
section Bodies
variable {l : Launch}
theorem vx_ofW {y : MethodName} {ws ws' : List Cond} {rm : Room} {Pc : Array Value → State → Prop} {Qc : Array Value → State → Outcome → State → Prop} {XC : String → State → State → Prop} {mc ms : Nat} {free : Addr → Prop} {cc : ByteArray} {maxL : Nat} {ret : Option FieldType}
    (hy : plainName y.cls = true) (hw : ws = Cond.code y cc maxL ret :: ws')
    (body : ∀ p e s m args below meth c s₁, BodyLoose p l y (headSpec ws rm) cc maxL ret e s m args below meth c s₁ → c.maxLocals = maxL → (∀ x ∈ c.exceptionTable.toList, False) → Pc args s →
      W p l e (headSpec ws rm).room s m args below meth c s.heap [] 0 0 (vx_MQ below Qc XC args s mc ms free) (entryFrame m args maxL)) : vx_Met l y ws rm Pc Qc XC mc ms free := by
  refine MetFree.of_bodyS (code := cc) (maxLocals := maxL) (ret := ret) hy ?_ ?_
  · intro args s m h hn
    obtain ⟨meth, c, h1, h2, h3, h4, h5, h6, -, -⟩ := Cond.code_spec hn (atoms_spec (ws := ws) h _ (by rw [hw]; exact List.mem_cons_self))
    exact ⟨meth, c, h1, h2, h3, h4, h5, h6⟩
  · intro p e s m args below meth c s₁ B hml hP _
    have hh0 : s₁.heap = s.heap := by rw [B.state]; rfl
    have ht : ∀ x ∈ c.exceptionTable.toList, False := by
      obtain ⟨meth9, c9, h1, h2, -, -, -, -, h7, -⟩ := Cond.code_spec B.named (atoms_spec (ws := ws) B.pre _ (by rw [hw]; exact List.mem_cons_self))
      cases Option.some.inj (h1.symm.trans B.method)
      cases Option.some.inj (h2.symm.trans (Stand.of_body B).code)
      intro x hx
      rw [Array.isEmpty_iff.mp h7] at hx
      cases hx
    obtain ⟨t, a1, o, b1, b2, b3⟩ := body p e s m args below meth c s₁ B hml ht hP s₁ hh0 (Stand.of_body B)
    exact ⟨t, o, a1, b1, b2, b3⟩
/-- the table of a body with handlers -/
theorem vx_table {p : Program} {x y : MethodName} {S : Spec} {cc bytes : ByteArray} {maxL maxL' : Nat} {ret ret' : Option FieldType} {e : Env} {s s₁ : State} {m : MethodId} {args : Array Value} {below : List Frame} {meth : Method} {c : Code} {hh : List (Nat × Nat × Nat × Nat)}
    (B : BodyLoose p l y S cc maxL ret e s m args below meth c s₁) (h : (Cond.codeWith y bytes maxL' ret' hh).before args s = true) : c.exceptionTable.toList = tableOf hh := by
  obtain ⟨m9, meth9, c9, hn9, h1, h2, -, -, h6, -⟩ := Cond.codeWith_spec h
  cases Option.some.inj (hn9.symm.trans B.named)
  cases Option.some.inj (h1.symm.trans B.method)
  cases Option.some.inj (h2.symm.trans (Stand.of_body B).code)
  rw [← h6, table_eq]
end Bodies
end VXA
/-! ===== END ===== -/
/-! ===== BEGIN a static call of a method with an exception table ===== -/
section VXS
variable {p : Program} {l : Launch} {e : Env} {R : Room} {s : State} {m : MethodId} {args : Array Value} {below : List Frame} {meth : Method} {c : Code} {T : State} {H : Heap} {locs : List Loc} {cells slots : Nat}
abbrev vx_CSW (R : Room) (s : State) (args : Array Value) (own : String) (index : Nat) (y : MethodName) (bytes : ByteArray) (maxL : Nat) (ret : Option FieldType) (hh : List (Nat × Nat × Nat × Nat)) (ws : List Cond) (rm : Room) (mc ms n : Nat) : Prop :=
  (rm.cells = mc ∧ rm.slots = ms ∧ rm.frames + 1 ≤ R.frames ∧ 8 + (maxL + 11) + rm.locals ≤ R.locals ∧ (∀ w ∈ ws, ∀ (a' : Array Value) (U : State), s.WarmedH U.vm → w.before a' U = true) ∧ Cond.codeWith y bytes maxL ret hh ∈ ws) ∧
  (Cond.codeWith y bytes maxL ret hh).before args s = true ∧ (Cond.initialized y.cls).before args s = true ∧ (y.cls ≠ "java/lang/invoke/MethodHandle" ∧ y.cls ≠ "java/lang/invoke/VarHandle") ∧
  (∀ sig, parseMethodDescriptor y.desc = some sig → n = sig.parameters.length) ∧ (Cond.methodLink own index y).before args s = true ∧ (Cond.static y).before args s = true
theorem vx_cwSW {own : String} {index maxL mc ms : Nat} {y : MethodName} {bytes : ByteArray} {ret : Option FieldType} {hh : List (Nat × Nat × Nat × Nat)} {Ts ws ws' : List Cond} {rm : Room} (n : Nat) (ht : ∀ w ∈ Ts, w.before args s = true) (hT : GoodIn Ts (va_wsS own index y ws)) (hw : ws = Cond.codeWith y bytes maxL ret hh :: ws') (hrc : rm.cells = mc) (hrs : rm.slots = ms)
    (hd : y.cls ≠ "java/lang/invoke/MethodHandle" ∧ y.cls ≠ "java/lang/invoke/VarHandle" ∧ (parseMethodDescriptor y.desc).map (fun d => d.parameters.length) = some n) (hR : rm.frames + 1 ≤ R.frames ∧ 8 + (maxL + 11) + rm.locals ≤ R.locals) :
    vx_CSW R s args own index y bytes maxL ret hh ws rm mc ms n := by
  have ok : ∀ w ∈ va_wsS own index y ws, w.before args s = true := fun w h => ht w (hT w h).1
  have hG : GoodIn Ts ws := fun w h => hT w (by unfold va_wsS; exact List.mem_append_right _ h)
  have hc : Cond.codeWith y bytes maxL ret hh ∈ ws := by rw [hw]; exact List.mem_cons_self
  refine ⟨⟨hrc, hrs, hR.1, hR.2, pay_in ht hG, hc⟩, ht _ (hG _ hc).1, ok _ (by simp [va_wsS]), ⟨hd.1, hd.2.1⟩, fun sig h => ?_, ok _ (by simp [va_wsS]), ok _ (by simp [va_wsS])⟩
  have h2 := hd.2.2
  rw [h] at h2
  exact (Option.some.inj h2).symm
theorem vx_callSW (X : Stand p l e R s m args below meth c T locs cells slots) (hexec : p.tables.exec = Jvm.exec) {own : String} {index : Nat} {y : MethodName} {bytes : ByteArray} {maxL : Nat} {ret : Option FieldType} {hh : List (Nat × Nat × Nat × Nat)}
    (hown : s.vm.findClass own = some m.cls) (hlink : (Cond.methodLink own index y).before args s = true) (hstat : (Cond.static y).before args s = true) (hinit : (Cond.initialized y.cls).before args s = true)
    (hcode : (Cond.codeWith y bytes maxL ret hh).before args s = true) (hy : y.cls ≠ "java/lang/invoke/MethodHandle" ∧ y.cls ≠ "java/lang/invoke/VarHandle")
    {W9 : Nat} {Pre : Pt → Array Value → Prop} {Post : Pt → Array Value → Option Value → Pt → Prop} (hK : Back l R p e below s args y 3 W9 Pre Post)
    {g : JFrame} (hg : g.method = m) (hsize : g.locals.size = c.maxLocals) {argsL rest : List Value} (hlen : ∀ sig, parseMethodDescriptor y.desc = some sig → argsL.length = sig.parameters.length)
    (hstack : g.stack = argsL.reverse ++ rest) (hW : 2 * g.monitorRoom + (rest.map fun v => v.category).sum ≤ W9) (hdg : decode c.code g.pc = .ok (.invokestatic index, 3))
    (hpre : ∀ vm₁, s.WarmedH vm₁ → Pre ⟨T.setVm vm₁, locs, cells, slots⟩ argsL.toArray) :
    ∃ (v : Option Value) (vm₁ : Vm) (B : Pt), s.WarmedH vm₁ ∧ Stand p l e R s m args below meth c B.U B.locs B.cells B.slots ∧ Post ⟨T.setVm vm₁, locs, cells, slots⟩ argsL.toArray v B ∧
      ∀ target, Steps p.tables e below (B.U.setTop { g with pc := g.pc + 3, stack := v.toList ++ rest }) target → Steps p.tables e below (T.setTop g) target := by
  obtain ⟨mk, methM, cM, hnamed, hmethM, -, -, -, -, -, -, hsigM⟩ := Cond.codeWith_spec hcode
  have hstatic : methM.isStatic = true := Cond.static_spec hnamed hmethM hstat
  obtain ⟨kP, hkP, -⟩ := className_of_methodNamed hnamed
  have hinitP : kP.init = .initialized := Cond.initialized_spec (findClass_of_methodNamed hnamed) hkP hinit
  obtain ⟨vm₁, X₁, hstep₁⟩ := X.invokestatic hexec hown hlink hnamed hmethM hstatic hkP hinitP hy (g := g) hg (argsL := argsL) (rest := rest) (hlen _ hsigM) hstack hdg
  obtain ⟨v, B, X', hpost, hsteps⟩ := hK m meth c ⟨T.setVm vm₁, locs, cells, slots⟩ { g with stack := rest } (.invokestatic index) mk argsL.toArray X₁ hg hsize hdg hW (X₁.named hnamed) (hpre vm₁ X₁.warmed)
  exact ⟨v, vm₁, B, X₁.warmed, X', hpost, fun target h => hstep₁ _ fun acts => by rw [doInvoke_state]; exact hsteps.trans h⟩
theorem vx_runSW {y : MethodName} {bytes cc : ByteArray} {maxL nL mc ms n index : Nat} {ret : Option FieldType} {hh : List (Nat × Nat × Nat × Nat)} {ws : List Cond} {rm : Room} {Pc : Array Value → State → Prop} {Qc : Array Value → State → Outcome → State → Prop} {free : Addr → Prop} {Ts : List Cond} {own : String} {As rest : List Value} {g : JFrame}
    (S : CallFix p m c cc nL s args Ts own) (hM : Met l y ws rm Pc Qc mc ms free) (cw : vx_CSW R s args own index y bytes maxL ret hh ws rm mc ms n) (hp : PreS s H Pc As)
    (hg : g.method = m) (hn : As.length = n) (hsize : g.locals.size = nL) (hstack : g.stack = As.reverse ++ rest) (hW : 2 * g.monitorRoom + (rest.map fun v => v.category).sum ≤ 8) (hdg : decode cc g.pc = .ok (.invokestatic index, 3)) (hf : cells + mc ≤ R.cells ∧ slots + ms ≤ R.slots) :
    va_Run p l e R s m args below meth c H locs cells slots mc ms g rest (Qc As.toArray) (free) := by
  obtain ⟨⟨hrc, hrs, hfr, hlo, hws, hcw⟩, hcode, hini, hy, hlen, hl, hstt⟩ := cw
  have hK : Back l R p e below s args y 3 8 (PreOf R mc ms Pc) (PostOf Qc mc ms free) := va_backW (hh := hh) (bytes := bytes) (maxL := maxL) (ret := ret) hM hp.1 hrc hrs hfr hlo hws hcw (fun a' U hW => word_at hW (Or.inl (by first | rfl | simp [Cond.onTables, Cond.keeps, Cond.steady])) hini)
  obtain ⟨hx, hb, hml, ho, -⟩ := S
  intro T hT X
  obtain ⟨v, vm₁, ⟨U', l2, c2, s2⟩, hW₁, X', ⟨g', mk, t, L, e1, e2, hq, h1, hL, h2, h3⟩, st⟩ := vx_callSW X hx (hh := hh) (bytes := bytes) (maxL := maxL) (ret := ret) ho hl hstt hini hcode hy hK hg (hsize.trans hml.symm) (argsL := As) (rest := rest) (fun sig h => hn.trans (hlen sig h)) hstack hW (by rw [hb]; exact hdg)
    (fun vm₁ hW₁ => ⟨hf.1, hf.2, hp.2 (T.setVm vm₁) hT hW₁⟩)
  dsimp only [Pt.U, Pt.locs, Pt.cells, Pt.slots] at X' e1 e2 h1 h2 h3 st
  subst h1; subst h2; subst h3
  exact ⟨v, (T.setVm vm₁).calling g' mk As.toArray, t, U', L, hT, X', hL, e1, e2, hq, st⟩
/-- not caught here, past rows that name other classes: it goes on to the caller -/
theorem vx_outP {p : Program} {l : Launch} {e : Env} {R : Room} {s : State} {m : MethodId} {args : Array Value} {below : List Frame} {meth : Method} {c : Code} {H : Heap} {locs : List Loc} {cells slots : Nat} {free : Addr → Prop} {ls : Array Slot} {rest : List Value} {Qc : Array Value → State → Outcome → State → Prop} {XC : String → State → State → Prop}
    {pc : Nat} {own E : String} {ce : Cell} {q : Addr} {mc ms : Nat} (hown : s.vm.findClass own = some m.cls) (hlocks : meth.locks = false)
    (hpass : ∀ z ∈ c.exceptionTable.toList, covers z pc = false ∨ (z.catchType ≠ 0 ∧ ∃ nm : String, (Cond.classLink own z.catchType nm).before args s = true ∧ va_Nc E nm s)) (hcell : H[q]? = some ce) (hv : ce.vm = .none) (hcl : s.vm.findClass E = some ce.cls)
    (hx : ∀ t : State, t.heap = H → s.vm.Alike t.vm → XC E s t) (hf : ∀ z ∈ locs, free z.base) (hc : cells ≤ mc) (hs : slots ≤ ms) :
    vx_W p l e R s m args below meth c H locs cells slots (vx_MQ below Qc XC args s mc ms free) (F0 m pc ls rest) q := by
  intro T hT X
  have hpl : e.platform.magicAccessors = ({} : Platform).magicAccessors := by rw [X.admits.platform]
  obtain ⟨vm', hW', X', st⟩ := X.outThrough hlocks q (g := F0 m pc ls rest) rfl rfl rfl (cell := ce) (by rw [hT]; exact hcell) (by rw [hv]; rfl)
    (by obtain ⟨k9, h9, -⟩ := Vm.findClass_spec hcl; exact ⟨k9, h9⟩) (fun z hz => by
      rcases hpass z hz with h | ⟨hz0, nm, hl1, hn1⟩
      · exact Or.inl h
      · obtain ⟨c6, hc6, hcl6⟩ := Cond.classLink_spec hown hl1 e.platform hpl
        obtain ⟨a8, b8, h1, h2, h3⟩ := hn1
        cases Option.some.inj (h1.symm.trans hcl)
        cases Option.some.inj (h2.symm.trans hc6)
        exact Or.inr ⟨hz0, _, hcl6, h3⟩)
  obtain ⟨g₀, hfr⟩ := X'.frames_eq
  have hcell9 : ((T.setVm vm').setFrames (.throwing q :: below)).heap[q]? = some ce := by
    show T.heap[q]? = some ce
    rw [hT]; exact hcell
  have hend : Ended ((T.setVm vm').setFrames (.throwing q :: below)) below (.threw q) := State.frames_setFrames _ (State.cur_lt_of_frames hfr)
  refine ⟨(T.setVm vm').setFrames (.throwing q :: below), ?_, .threw q, X'.here.running, hend, Or.inr ⟨q, rfl, E, ce, locs, hx _ hT (X'.ends _).1.alike, hcell9, hv, hcl, (X'.ends _).1, (X'.ends _).2.mono hc hs, hf⟩⟩
  rw [X.pushThrowing_eq]
  exact st
/-- a thing of a world lies in the heap -/
theorem vx_lt {D : va_G} {cl : List vw_C} {ws : va_W} {H1 : Heap} (h : va_P D cl ws H1) {k : Nat} {q : Nat × va_E} (hk : ws[k]? = some q) : q.1 < H1.size := (h k q hk).lt
end VXS
/-! ===== END ===== -/
/-! ===== BEGIN methods with a table of their own: called by a name, returning or throwing ===== -/
section VXH
/-! vx_backW, vx_callVX, vx_callSX, vx_callVW, vx_runVW, vx_runVX, vx_runSX, vx_ofWH follow the same proofs as their sisters above (Free/Laws.lean, Shelf42/LK1.lean); vx_outP calls Shelf42/NT130.lean (outThrough). -/
section
variable {l : Launch} {R : Room} {p : Program} {e : Env} {below : List Frame} {s : State} {sargs : Array Value} {y : MethodName} {len W9 : Nat}
theorem vx_backW {ws : List Cond} {rm : Room} {Pc : Array Value → State → Prop} {Qc : Array Value → State → Outcome → State → Prop} {XC : String → State → State → Prop} {mc ms : Nat} {free : Addr → Prop} {bytes : ByteArray} {maxL : Nat} {ret : Option FieldType} {hh : List (Nat × Nat × Nat × Nat)}
    (hM : vx_Met l y ws rm Pc Qc XC mc ms free) (hblind : FrameBlind Pc) (hrc : rm.cells = mc) (hrs : rm.slots = ms)
    (hframes : rm.frames + 1 ≤ R.frames) (hlocals : W9 + (maxL + 11) + rm.locals ≤ R.locals)
    (hws : ∀ w ∈ ws, ∀ a' U, s.WarmedH U.vm → w.before a' U = true) (hcode : Cond.codeWith y bytes maxL ret hh ∈ ws) (hinit : ∀ a' U, s.WarmedH U.vm → (Cond.initialized y.cls).before a' U = true) :
    vx_Back l R p e below s sargs y len W9 (PreOf R mc ms Pc) (PostOf Qc mc ms free) (vx_Post XC mc ms free) := by
  intro m meth c A g ig mk a X hg hsize hdg hW hn hp
  have h1 : (headSpec ws rm).pre.before a A.U = true := atoms_intro fun w hw => hws w hw _ _ X.warmed
  have h2 : (Cond.codeWith y bytes maxL ret hh).before a A.U = true := hws _ hcode _ _ X.warmed
  have h3 : (Cond.initialized y.cls).before a A.U = true := hinit _ _ X.warmed
  have h4 : A.cells + (headSpec ws rm).room.cells ≤ R.cells := by rw [show (headSpec ws rm).room.cells = mc from hrc]; exact hp.1
  have h5 : A.slots + (headSpec ws rm).room.slots ≤ R.slots := by rw [show (headSpec ws rm).room.slots = ms from hrs]; exact hp.2.1
  have hPc : Pc a (A.U.calling g mk a) := hblind _ _ _ _ hp.2.2
  obtain ⟨U, Ls, c0, s0⟩ := A
  dsimp only [Pt.U, Pt.locs, Pt.cells, Pt.slots] at h1 h2 h3 h4 h5 X hn hPc ⊢
  obtain ⟨m9, methY, cY, hn9, hmY, hcY, -, hlY, -⟩ := Cond.codeWith_spec h2
  cases Option.some.inj (hn9.symm.trans hn)
  obtain ⟨kY, hkY, -⟩ := className_of_methodNamed hn
  have hinitY : kY.init = .initialized := Cond.initialized_spec (findClass_of_methodNamed hn) hkY h3
  have h : At U g.method c below := by rw [hg]; exact X.here
  have hlocals9 : W9 + (maxL + 11) + (headSpec ws rm).room.locals ≤ R.locals := hlocals
  have happ : (headSpec ws rm).appliesLoose y e.platform (U.calling g mk a) = true :=
    Spec.appliesLoose_calling (g := g) h hdg hn hkY hinitY
      (X.room_calling (g := g) (R' := (headSpec ws rm).room) hsize hmY hcY hframes (by rw [hlY]; omega) h4 h5) h1
  obtain ⟨mid, hmid⟩ := h.above
  have hfr : (U.setTop g).frames = (.java g :: mid) ++ below := by rw [State.frames_setTop' g h.top, hmid]; rfl
  obtain ⟨o, s₂, hsteps, -, hend, hq⟩ := Steps.callFree hM p X.admits X.cas X.clock (acts := []) hfr happ hPc trivial
  have hq' : vx_Q Qc XC mc ms free a (U.calling g mk a) o s₂ := hq
  rw [State.frames_setTop' g h.top] at hend
  obtain ⟨g₀, hg0⟩ := Option.isSome_iff_exists.mp h.top
  obtain ⟨r, hr⟩ := State.topJava?_eq_some.mp hg0
  have hr' : (({ U with heap := s₂.heap, slotsUsed := s₂.slotsUsed } : State).setVm s₂.vm).frames = .java g₀ :: r := hr
  rcases hq' with ⟨hqc, L, hfe, hL⟩ | ⟨q, rfl, E, ce, L, hx, hce, hcv, hcl, hW₂, hsm, hL⟩
  · obtain ⟨⟨v, rfl⟩, hW₂, e2, q2, q3, q4, q5, q6⟩ := id hfe
    have e3 : s₂ = ({ (U.calling g mk a).setFrames s₂.frames with heap := s₂.heap, slotsUsed := s₂.slotsUsed } : State).setVm s₂.vm := by
      have : s₂ = ({ s₂ with vm := (U.calling g mk a).vm } : State).setVm s₂.vm := rfl
      rw [e2] at this
      exact this
    obtain ⟨c₂, i₂, len₂, hc₂, hd₂, hf₂⟩ := hend
    have hW' : U.WarmedH s₂.vm := hW₂
    have hcc : c₂ = c := by
      have h1 : s₂.code? g.method = U.code? g.method := by
        rw [State.code?_eq, State.code?_eq, hW'.alike.method?]
      exact Option.some.inj (hc₂.symm.trans (h1.trans h.code))
    subst hcc
    have hlen : len₂ = len := by rw [hdg] at hd₂; cases hd₂; rfl
    subst hlen
    have hs₂ : s₂ = (({ U with heap := s₂.heap, slotsUsed := s₂.slotsUsed } : State).setVm s₂.vm).setTop { g with pc := g.pc + len₂, stack := v.toList ++ g.stack } := by
      refine e3.trans ?_
      rw [hf₂, State.calling_eq h.top, State.setFrames_setFrames, State.setTop_of_frames _ hr', hr]
      rfl
    have hsame : U.sameButNew ({ U with heap := s₂.heap, slotsUsed := s₂.slotsUsed } : State) L mc ms := by
      refine ⟨?_, q2, q3, q4, q5, q6⟩
      obtain ⟨t, ht, -⟩ := State.frames_cons hr
      show ({ U with heap := s₂.heap, slotsUsed := s₂.slotsUsed } : State) = { U.setFrames U.frames with heap := s₂.heap, slotsUsed := s₂.slotsUsed }
      rw [State.setFrames_self ht]
    subst hg
    refine Or.inl ⟨v, ⟨(({ U with heap := s₂.heap, slotsUsed := s₂.slotsUsed } : State).setVm s₂.vm), Ls ++ L, c0 + mc, s0 + ms⟩,
      ⟨X.admits, X.cas, X.clock, X.frames, X.room, X.hears, X.method, X.code, (X.here.setHeapUsed s₂.heap s₂.slotsUsed).setVm hW'.alike, X.tail, State.WarmedH.trans X.warmed hW', X.limits, X.bytes, X.same.trans (hsame.setVm s.vm)⟩,
      ⟨g, mk, s₂, L, rfl, rfl, hqc, rfl, hL, rfl, rfl⟩, ?_⟩
    show Steps p.tables e below _ ((({ U with heap := s₂.heap, slotsUsed := s₂.slotsUsed } : State).setVm s₂.vm).setTop { g with pc := g.pc + len₂, stack := v.toList ++ g.stack })
    rw [← hs₂]
    exact hsteps
  · obtain ⟨e2, q2, q3, q4, q5, q6⟩ := id hsm
    have e3 : s₂ = ({ (U.calling g mk a).setFrames s₂.frames with heap := s₂.heap, slotsUsed := s₂.slotsUsed } : State).setVm s₂.vm := by
      have : s₂ = ({ s₂ with vm := (U.calling g mk a).vm } : State).setVm s₂.vm := rfl
      rw [e2] at this
      exact this
    have hf₂ : s₂.frames = .throwing q :: .java g :: U.frames.tail := hend
    have hW' : U.WarmedH s₂.vm := hW₂
    have hs₂ : s₂ = ((({ U with heap := s₂.heap, slotsUsed := s₂.slotsUsed } : State).setVm s₂.vm).setTop g).pushFrame (.throwing q) := by
      refine e3.trans ?_
      rw [hf₂, State.calling_eq h.top, State.setFrames_setFrames, State.pushFrame, State.frames_setTop _ hr', State.setTop_of_frames _ hr', State.setFrames_setFrames, hr]
      rfl
    have hsame : U.sameButNew ({ U with heap := s₂.heap, slotsUsed := s₂.slotsUsed } : State) L mc ms := by
      refine ⟨?_, q2, q3, q4, q5, q6⟩
      obtain ⟨t, ht, -⟩ := State.frames_cons hr
      show ({ U with heap := s₂.heap, slotsUsed := s₂.slotsUsed } : State) = { U.setFrames U.frames with heap := s₂.heap, slotsUsed := s₂.slotsUsed }
      rw [State.setFrames_self ht]
    subst hg
    refine Or.inr ⟨q, ⟨(({ U with heap := s₂.heap, slotsUsed := s₂.slotsUsed } : State).setVm s₂.vm), Ls ++ L, c0 + mc, s0 + ms⟩,
      ⟨X.admits, X.cas, X.clock, X.frames, X.room, X.hears, X.method, X.code, (X.here.setHeapUsed s₂.heap s₂.slotsUsed).setVm hW'.alike, X.tail, State.WarmedH.trans X.warmed hW', X.limits, X.bytes, X.same.trans (hsame.setVm s.vm)⟩,
      ⟨g, mk, s₂, L, E, ce, rfl, rfl, hx, hce, hcv, hcl, rfl, hL, rfl, rfl⟩, ?_⟩
    show Steps p.tables e below _ (((({ U with heap := s₂.heap, slotsUsed := s₂.slotsUsed } : State).setVm s₂.vm).setTop g).pushFrame (.throwing q))
    rw [← hs₂]
    exact hsteps
end
variable {p : Program} {l : Launch} {e : Env} {R : Room} {s : State} {m : MethodId} {args : Array Value} {below : List Frame} {meth : Method} {c : Code} {T : State} {H : Heap} {locs : List Loc} {cells slots : Nat}
theorem vx_callVX (X : Stand p l e R s m args below meth c T locs cells slots) (hexec : p.tables.exec = Jvm.exec) {own C : String} {index : Nat} {y : MethodName} {bytes : ByteArray} {maxL : Nat} {ret : Option FieldType} {hh : List (Nat × Nat × Nat × Nat)}
    (hown : s.vm.findClass own = some m.cls) (hlink : (Cond.methodLink own index y).before args s = true) (hinst : (Cond.instanceMethod y).before args s = true) (hsel : (Cond.selects C y y).before args s = true)
    (hcode : (Cond.codeWith y bytes maxL ret hh).before args s = true) (hy : y.cls ≠ "java/lang/invoke/MethodHandle" ∧ y.cls ≠ "java/lang/invoke/VarHandle")
    {W9 : Nat} {Pre : Pt → Array Value → Prop} {Post : Pt → Array Value → Option Value → Pt → Prop} {PostX : Pt → Array Value → Addr → Pt → Prop} (hK : vx_Back l R p e below s args y 3 W9 Pre Post PostX)
    {b : Addr} {cellB : Cell} (hcell : T.heap[b]? = some cellB) (hobj : cellB.vm.isStatics = false) (hcls : s.vm.findClass C = some cellB.cls)
    {g : JFrame} (hg : g.method = m) (hsize : g.locals.size = c.maxLocals) {argsL rest : List Value} (hlen : ∀ sig, parseMethodDescriptor y.desc = some sig → argsL.length = sig.parameters.length)
    (hstack : g.stack = argsL.reverse ++ .ref b :: rest) (hW : 2 * g.monitorRoom + (rest.map fun v => v.category).sum ≤ W9) (hdg : decode c.code g.pc = .ok (.invokevirtual index, 3))
    (hpre : ∀ vm₁, s.WarmedH vm₁ → Pre ⟨T.setVm vm₁, locs, cells, slots⟩ (Value.ref b :: argsL).toArray) :
    (∃ (v : Option Value) (vm₁ : Vm) (B : Pt), s.WarmedH vm₁ ∧ Stand p l e R s m args below meth c B.U B.locs B.cells B.slots ∧ Post ⟨T.setVm vm₁, locs, cells, slots⟩ (Value.ref b :: argsL).toArray v B ∧
      ∀ target, Steps p.tables e below (B.U.setTop { g with pc := g.pc + 3, stack := v.toList ++ rest }) target → Steps p.tables e below (T.setTop g) target) ∨
    (∃ (q : Addr) (vm₁ : Vm) (B : Pt), s.WarmedH vm₁ ∧ Stand p l e R s m args below meth c B.U B.locs B.cells B.slots ∧ PostX ⟨T.setVm vm₁, locs, cells, slots⟩ (Value.ref b :: argsL).toArray q B ∧
      Steps p.tables e below (T.setTop g) ((B.U.setTop { g with stack := rest }).pushFrame (.throwing q))) := by
  obtain ⟨mk, methM, hnamed, hmethM, hstM, habM⟩ := Cond.instanceMethod_spec hinst
  obtain ⟨m8, methM', cM, hn8, hmethM', -, -, -, -, -, -, hsigM⟩ := Cond.codeWith_spec hcode
  cases Option.some.inj (hn8.symm.trans hnamed)
  cases hmethM.symm.trans hmethM'
  obtain ⟨c2, r2, m2, q1, q2, q3, q4, kP, hkP, hkPi⟩ := Cond.selects_spec hsel
  cases hcls.symm.trans q1
  cases (State.methodFound?_of_named hnamed hy).symm.trans q2
  cases hnamed.symm.trans q3
  have hselP : selectMethod e.platform s.vm cellB.cls mk = .method mk := by rw [Launch.admits_selectMethod X.admits]; exact q4
  obtain ⟨vm₁, X₁, hstep₁⟩ := X.invokevirtual hexec hown hlink hnamed hmethM hstM hkP hkPi hy (a := b) (cell := cellB) hcell
    (fun z h => by rw [h] at hobj; cases hobj) hselP hmethM habM hkP hkPi (g := g) hg (argsL := argsL) (rest := rest) (hlen _ hsigM) hstack hdg
  rcases hK m meth c ⟨T.setVm vm₁, locs, cells, slots⟩ { g with stack := rest } (.invokevirtual index) mk (Value.ref b :: argsL).toArray X₁ hg hsize hdg hW (X₁.named hnamed) (hpre vm₁ X₁.warmed) with ⟨v, B, X', hpost, hsteps⟩ | ⟨q, B, X', hpost, hsteps⟩
  · exact Or.inl ⟨v, vm₁, B, X₁.warmed, X', hpost, fun target h => hstep₁ _ fun acts => by rw [doInvoke_state]; exact hsteps.trans h⟩
  · exact Or.inr ⟨q, vm₁, B, X₁.warmed, X', hpost, hstep₁ _ fun acts => by rw [doInvoke_state]; exact hsteps⟩
theorem vx_callSX (X : Stand p l e R s m args below meth c T locs cells slots) (hexec : p.tables.exec = Jvm.exec) {own : String} {index : Nat} {y : MethodName} {bytes : ByteArray} {maxL : Nat} {ret : Option FieldType} {hh : List (Nat × Nat × Nat × Nat)}
    (hown : s.vm.findClass own = some m.cls) (hlink : (Cond.methodLink own index y).before args s = true) (hstat : (Cond.static y).before args s = true) (hinit : (Cond.initialized y.cls).before args s = true)
    (hcode : (Cond.codeWith y bytes maxL ret hh).before args s = true) (hy : y.cls ≠ "java/lang/invoke/MethodHandle" ∧ y.cls ≠ "java/lang/invoke/VarHandle")
    {W9 : Nat} {Pre : Pt → Array Value → Prop} {Post : Pt → Array Value → Option Value → Pt → Prop} {PostX : Pt → Array Value → Addr → Pt → Prop} (hK : vx_Back l R p e below s args y 3 W9 Pre Post PostX)
    {g : JFrame} (hg : g.method = m) (hsize : g.locals.size = c.maxLocals) {argsL rest : List Value} (hlen : ∀ sig, parseMethodDescriptor y.desc = some sig → argsL.length = sig.parameters.length)
    (hstack : g.stack = argsL.reverse ++ rest) (hW : 2 * g.monitorRoom + (rest.map fun v => v.category).sum ≤ W9) (hdg : decode c.code g.pc = .ok (.invokestatic index, 3))
    (hpre : ∀ vm₁, s.WarmedH vm₁ → Pre ⟨T.setVm vm₁, locs, cells, slots⟩ argsL.toArray) :
    (∃ (v : Option Value) (vm₁ : Vm) (B : Pt), s.WarmedH vm₁ ∧ Stand p l e R s m args below meth c B.U B.locs B.cells B.slots ∧ Post ⟨T.setVm vm₁, locs, cells, slots⟩ argsL.toArray v B ∧
      ∀ target, Steps p.tables e below (B.U.setTop { g with pc := g.pc + 3, stack := v.toList ++ rest }) target → Steps p.tables e below (T.setTop g) target) ∨
    (∃ (q : Addr) (vm₁ : Vm) (B : Pt), s.WarmedH vm₁ ∧ Stand p l e R s m args below meth c B.U B.locs B.cells B.slots ∧ PostX ⟨T.setVm vm₁, locs, cells, slots⟩ argsL.toArray q B ∧
      Steps p.tables e below (T.setTop g) ((B.U.setTop { g with stack := rest }).pushFrame (.throwing q))) := by
  obtain ⟨mk, methM, cM, hnamed, hmethM, -, -, -, -, -, -, hsigM⟩ := Cond.codeWith_spec hcode
  have hstatic : methM.isStatic = true := Cond.static_spec hnamed hmethM hstat
  obtain ⟨kP, hkP, -⟩ := className_of_methodNamed hnamed
  have hinitP : kP.init = .initialized := Cond.initialized_spec (findClass_of_methodNamed hnamed) hkP hinit
  obtain ⟨vm₁, X₁, hstep₁⟩ := X.invokestatic hexec hown hlink hnamed hmethM hstatic hkP hinitP hy (g := g) hg (argsL := argsL) (rest := rest) (hlen _ hsigM) hstack hdg
  rcases hK m meth c ⟨T.setVm vm₁, locs, cells, slots⟩ { g with stack := rest } (.invokestatic index) mk argsL.toArray X₁ hg hsize hdg hW (X₁.named hnamed) (hpre vm₁ X₁.warmed) with ⟨v, B, X', hpost, hsteps⟩ | ⟨q, B, X', hpost, hsteps⟩
  · exact Or.inl ⟨v, vm₁, B, X₁.warmed, X', hpost, fun target h => hstep₁ _ fun acts => by rw [doInvoke_state]; exact hsteps.trans h⟩
  · exact Or.inr ⟨q, vm₁, B, X₁.warmed, X', hpost, hstep₁ _ fun acts => by rw [doInvoke_state]; exact hsteps⟩
theorem vx_callVW (X : Stand p l e R s m args below meth c T locs cells slots) (hexec : p.tables.exec = Jvm.exec) {own C : String} {index : Nat} {y : MethodName} {bytes : ByteArray} {maxL : Nat} {ret : Option FieldType} {hh : List (Nat × Nat × Nat × Nat)}
    (hown : s.vm.findClass own = some m.cls) (hlink : (Cond.methodLink own index y).before args s = true) (hinst : (Cond.instanceMethod y).before args s = true) (hsel : (Cond.selects C y y).before args s = true)
    (hcode : (Cond.codeWith y bytes maxL ret hh).before args s = true) (hy : y.cls ≠ "java/lang/invoke/MethodHandle" ∧ y.cls ≠ "java/lang/invoke/VarHandle")
    {W9 : Nat} {Pre : Pt → Array Value → Prop} {Post : Pt → Array Value → Option Value → Pt → Prop} (hK : Back l R p e below s args y 3 W9 Pre Post)
    {b : Addr} {cellB : Cell} (hcell : T.heap[b]? = some cellB) (hobj : cellB.vm.isStatics = false) (hcls : s.vm.findClass C = some cellB.cls)
    {g : JFrame} (hg : g.method = m) (hsize : g.locals.size = c.maxLocals) {argsL rest : List Value} (hlen : ∀ sig, parseMethodDescriptor y.desc = some sig → argsL.length = sig.parameters.length)
    (hstack : g.stack = argsL.reverse ++ .ref b :: rest) (hW : 2 * g.monitorRoom + (rest.map fun v => v.category).sum ≤ W9) (hdg : decode c.code g.pc = .ok (.invokevirtual index, 3))
    (hpre : ∀ vm₁, s.WarmedH vm₁ → Pre ⟨T.setVm vm₁, locs, cells, slots⟩ (Value.ref b :: argsL).toArray) :
    ∃ (v : Option Value) (vm₁ : Vm) (B : Pt), s.WarmedH vm₁ ∧ Stand p l e R s m args below meth c B.U B.locs B.cells B.slots ∧ Post ⟨T.setVm vm₁, locs, cells, slots⟩ (Value.ref b :: argsL).toArray v B ∧
      ∀ target, Steps p.tables e below (B.U.setTop { g with pc := g.pc + 3, stack := v.toList ++ rest }) target → Steps p.tables e below (T.setTop g) target := by
  obtain ⟨mk, methM, hnamed, hmethM, hstM, habM⟩ := Cond.instanceMethod_spec hinst
  obtain ⟨m8, methM', cM, hn8, hmethM', -, -, -, -, -, -, hsigM⟩ := Cond.codeWith_spec hcode
  cases Option.some.inj (hn8.symm.trans hnamed)
  cases hmethM.symm.trans hmethM'
  obtain ⟨c2, r2, m2, q1, q2, q3, q4, kP, hkP, hkPi⟩ := Cond.selects_spec hsel
  cases hcls.symm.trans q1
  cases (State.methodFound?_of_named hnamed hy).symm.trans q2
  cases hnamed.symm.trans q3
  have hselP : selectMethod e.platform s.vm cellB.cls mk = .method mk := by rw [Launch.admits_selectMethod X.admits]; exact q4
  obtain ⟨vm₁, X₁, hstep₁⟩ := X.invokevirtual hexec hown hlink hnamed hmethM hstM hkP hkPi hy (a := b) (cell := cellB) hcell
    (fun z h => by rw [h] at hobj; cases hobj) hselP hmethM habM hkP hkPi (g := g) hg (argsL := argsL) (rest := rest) (hlen _ hsigM) hstack hdg
  obtain ⟨v, B, X', hpost, hsteps⟩ := hK m meth c ⟨T.setVm vm₁, locs, cells, slots⟩ { g with stack := rest } (.invokevirtual index) mk (Value.ref b :: argsL).toArray X₁ hg hsize hdg hW (X₁.named hnamed) (hpre vm₁ X₁.warmed)
  exact ⟨v, vm₁, B, X₁.warmed, X', hpost, fun target h => hstep₁ _ fun acts => by rw [doInvoke_state]; exact hsteps.trans h⟩
abbrev vx_CVW (R : Room) (s : State) (args : Array Value) (own C : String) (index : Nat) (y : MethodName) (bytes : ByteArray) (maxL : Nat) (ret : Option FieldType) (hh : List (Nat × Nat × Nat × Nat)) (ws : List Cond) (rm : Room) (mc ms n : Nat) : Prop :=
  (rm.cells = mc ∧ rm.slots = ms ∧ rm.frames + 1 ≤ R.frames ∧ 8 + (maxL + 11) + rm.locals ≤ R.locals ∧ (∀ w ∈ ws, ∀ (a' : Array Value) (U : State), s.WarmedH U.vm → w.before a' U = true) ∧ Cond.codeWith y bytes maxL ret hh ∈ ws) ∧
  (Cond.codeWith y bytes maxL ret hh).before args s = true ∧ (Cond.initialized y.cls).before args s = true ∧ (y.cls ≠ "java/lang/invoke/MethodHandle" ∧ y.cls ≠ "java/lang/invoke/VarHandle") ∧
  (∀ sig, parseMethodDescriptor y.desc = some sig → n = sig.parameters.length) ∧ (Cond.methodLink own index y).before args s = true ∧ (Cond.instanceMethod y).before args s = true ∧ (Cond.selects C y y).before args s = true
theorem vx_cwVW {own C : String} {index maxL mc ms : Nat} {y : MethodName} {bytes : ByteArray} {ret : Option FieldType} {hh : List (Nat × Nat × Nat × Nat)} {Ts ws ws' : List Cond} {rm : Room} (n : Nat) (ht : ∀ w ∈ Ts, w.before args s = true) (hT : GoodIn Ts (wsV own index C y ws)) (hw : ws = Cond.codeWith y bytes maxL ret hh :: ws') (hrc : rm.cells = mc) (hrs : rm.slots = ms)
    (hd : y.cls = C ∧ y.cls ≠ "java/lang/invoke/MethodHandle" ∧ y.cls ≠ "java/lang/invoke/VarHandle" ∧ (parseMethodDescriptor y.desc).map (fun d => d.parameters.length) = some n) (hR : rm.frames + 1 ≤ R.frames ∧ 8 + (maxL + 11) + rm.locals ≤ R.locals) :
    vx_CVW R s args own C index y bytes maxL ret hh ws rm mc ms n := by
  obtain ⟨hC, hd⟩ := hd
  subst hC
  have ok : ∀ w ∈ wsV own index y.cls y ws, w.before args s = true := fun w h => ht w (hT w h).1
  have hG : GoodIn Ts ws := fun w h => hT w (by unfold wsV; exact List.mem_append_right _ h)
  have hc : Cond.codeWith y bytes maxL ret hh ∈ ws := by rw [hw]; exact List.mem_cons_self
  refine ⟨⟨hrc, hrs, hR.1, hR.2, pay_in ht hG, hc⟩, ht _ (hG _ hc).1, ok _ (by simp [wsV]), ⟨hd.1, hd.2.1⟩, fun sig h => ?_, ok _ (by simp [wsV]), ok _ (by simp [wsV]), ok _ (by simp [wsV])⟩
  have h2 := hd.2.2
  rw [h] at h2
  exact (Option.some.inj h2).symm
theorem vx_runVW {y : MethodName} {bytes cc : ByteArray} {maxL nL mc ms n index : Nat} {ret : Option FieldType} {hh : List (Nat × Nat × Nat × Nat)} {ws : List Cond} {rm : Room} {Pc : Array Value → State → Prop} {Qc : Array Value → State → Outcome → State → Prop} {free : Addr → Prop} {Ts : List Cond} {own C : String} {b : Addr} {As rest : List Value} {g : JFrame}
    (S : CallFix p m c cc nL s args Ts own) (hM : Met l y ws rm Pc Qc mc ms free) (cw : vx_CVW R s args own C index y bytes maxL ret hh ws rm mc ms n) (hp : PreV s H C b Pc As)
    (hg : g.method = m) (hn : As.length = n) (hsize : g.locals.size = nL) (hstack : g.stack = As.reverse ++ .ref b :: rest) (hW : 2 * g.monitorRoom + (rest.map fun v => v.category).sum ≤ 8) (hdg : decode cc g.pc = .ok (.invokevirtual index, 3)) (hf : cells + mc ≤ R.cells ∧ slots + ms ≤ R.slots) :
    va_Run p l e R s m args below meth c H locs cells slots mc ms g rest (Qc (Value.ref b :: As).toArray) free := by
  obtain ⟨⟨hrc, hrs, hfr, hlo, hws, hcw⟩, hcode, hini, hy, hlen, hl, hin, hse⟩ := cw
  have hK : Back l R p e below s args y 3 8 (PreOf R mc ms Pc) (PostOf Qc mc ms free) := va_backW (hh := hh) (bytes := bytes) (maxL := maxL) (ret := ret) hM hp.1 hrc hrs hfr hlo hws hcw (fun a' U hW => word_at hW (Or.inl (by first | rfl | simp [Cond.onTables, Cond.keeps, Cond.steady])) hini)
  obtain ⟨hx, hb, hml, ho, -⟩ := S
  obtain ⟨-, ⟨cellB, hcB, hoB, hclB⟩, hPc⟩ := hp
  intro T hT X
  obtain ⟨v, vm₁, ⟨U', l2, c2, s2⟩, hW₁, X', ⟨g', mk, t, L, e1, e2, hq, h1, hL, h2, h3⟩, st⟩ := vx_callVW X hx (C := C) (hh := hh) (bytes := bytes) (maxL := maxL) (ret := ret) ho hl hin hse hcode hy hK (by rw [hT]; exact hcB) hoB hclB hg (hsize.trans hml.symm) (argsL := As) (rest := rest) (fun sig h => hn.trans (hlen sig h)) hstack hW (by rw [hb]; exact hdg)
    (fun vm₁ hW₁ => ⟨hf.1, hf.2, hPc (T.setVm vm₁) hT hW₁⟩)
  dsimp only [Pt.U, Pt.locs, Pt.cells, Pt.slots] at X' e1 e2 h1 h2 h3 st
  subst h1; subst h2; subst h3
  exact ⟨v, (T.setVm vm₁).calling g' mk (Value.ref b :: As).toArray, t, U', L, hT, X', hL, e1, e2, hq, st⟩
section
variable {y : MethodName} {bytes cc : ByteArray} {maxL nL mc ms n index : Nat} {ret : Option FieldType} {ws : List Cond} {rm : Room} {Pc : Array Value → State → Prop} {Qc : Array Value → State → Outcome → State → Prop} {XC : String → State → State → Prop} {free : Addr → Prop} {Ts : List Cond} {own C : String} {b : Addr} {As rest : List Value} {g : JFrame}
theorem vx_runVX {hh : List (Nat × Nat × Nat × Nat)} (S : CallFix p m c cc nL s args Ts own) (hM : vx_Met l y ws rm Pc Qc XC mc ms free) (cw : vx_CVW R s args own C index y bytes maxL ret hh ws rm mc ms n) (hp : PreV s H C b Pc As)
    (hg : g.method = m) (hn : As.length = n) (hsize : g.locals.size = nL) (hstack : g.stack = As.reverse ++ .ref b :: rest) (hW : 2 * g.monitorRoom + (rest.map fun v => v.category).sum ≤ 8) (hdg : decode cc g.pc = .ok (.invokevirtual index, 3)) (hf : cells + mc ≤ R.cells ∧ slots + ms ≤ R.slots) :
    vx_Run p l e R s m args below meth c H locs cells slots mc ms g rest (Qc (Value.ref b :: As).toArray) XC free := by
  obtain ⟨⟨hrc, hrs, hfr, hlo, hws, hcw⟩, hcode, hini, hy, hlen, hl, hin, hse⟩ := cw
  have hK : vx_Back l R p e below s args y 3 8 (PreOf R mc ms Pc) (PostOf Qc mc ms free) (vx_Post XC mc ms free) := vx_backW (hh := hh) (bytes := bytes) (maxL := maxL) (ret := ret) hM hp.1 hrc hrs hfr hlo hws hcw (fun a' U hW => word_at hW (Or.inl (by first | rfl | simp [Cond.onTables, Cond.keeps, Cond.steady])) hini)
  obtain ⟨hx, hb, hml, ho, -⟩ := S
  obtain ⟨-, ⟨cellB, hcB, hoB, hclB⟩, hPc⟩ := hp
  intro T hT X
  rcases vx_callVX X hx (C := C) (hh := hh) (bytes := bytes) (maxL := maxL) (ret := ret) ho hl hin hse hcode hy hK (by rw [hT]; exact hcB) hoB hclB hg (hsize.trans hml.symm) (argsL := As) (rest := rest) (fun sig h => hn.trans (hlen sig h)) hstack hW (by rw [hb]; exact hdg)
    (fun vm₁ hW₁ => ⟨hf.1, hf.2, hPc (T.setVm vm₁) hT hW₁⟩) with ⟨v, vm₁, ⟨U', l2, c2, s2⟩, hW₁, X', ⟨g', mk, t, L, e1, e2, hq, h1, hL, h2, h3⟩, st⟩ | ⟨q, vm₁, ⟨U', l2, c2, s2⟩, hW₁, X', ⟨g', mk, t, L, E, ce, e1, e2, hq, hce, hcv, hcl, h1, hL, h2, h3⟩, st⟩
  · dsimp only [Pt.U, Pt.locs, Pt.cells, Pt.slots] at X' e1 e2 h1 h2 h3 st
    subst h1; subst h2; subst h3
    exact Or.inl ⟨v, (T.setVm vm₁).calling g' mk (Value.ref b :: As).toArray, t, U', L, hT, X', hL, e1, e2, hq, st⟩
  · dsimp only [Pt.U, Pt.locs, Pt.cells, Pt.slots] at X' e1 e2 h1 h2 h3 st hcl
    subst h1; subst h2; subst h3
    exact Or.inr ⟨q, (T.setVm vm₁).calling g' mk (Value.ref b :: As).toArray, t, U', L, E, ce, hT, X', hL, e1, e2, hq, hce, hcv, vx_cls hW₁ hcl, st⟩
theorem vx_runSX {hh : List (Nat × Nat × Nat × Nat)} (S : CallFix p m c cc nL s args Ts own) (hM : vx_Met l y ws rm Pc Qc XC mc ms free) (cw : vx_CSW R s args own index y bytes maxL ret hh ws rm mc ms n) (hp : PreS s H Pc As)
    (hg : g.method = m) (hn : As.length = n) (hsize : g.locals.size = nL) (hstack : g.stack = As.reverse ++ rest) (hW : 2 * g.monitorRoom + (rest.map fun v => v.category).sum ≤ 8) (hdg : decode cc g.pc = .ok (.invokestatic index, 3)) (hf : cells + mc ≤ R.cells ∧ slots + ms ≤ R.slots) :
    vx_Run p l e R s m args below meth c H locs cells slots mc ms g rest (Qc As.toArray) XC free := by
  obtain ⟨⟨hrc, hrs, hfr, hlo, hws, hcw⟩, hcode, hini, hy, hlen, hl, hstt⟩ := cw
  have hK : vx_Back l R p e below s args y 3 8 (PreOf R mc ms Pc) (PostOf Qc mc ms free) (vx_Post XC mc ms free) := vx_backW (hh := hh) (bytes := bytes) (maxL := maxL) (ret := ret) hM hp.1 hrc hrs hfr hlo hws hcw (fun a' U hW => word_at hW (Or.inl (by first | rfl | simp [Cond.onTables, Cond.keeps, Cond.steady])) hini)
  obtain ⟨hx, hb, hml, ho, -⟩ := S
  intro T hT X
  rcases vx_callSX X hx (hh := hh) (bytes := bytes) (maxL := maxL) (ret := ret) ho hl hstt hini hcode hy hK hg (hsize.trans hml.symm) (argsL := As) (rest := rest) (fun sig h => hn.trans (hlen sig h)) hstack hW (by rw [hb]; exact hdg)
    (fun vm₁ hW₁ => ⟨hf.1, hf.2, hp.2 (T.setVm vm₁) hT hW₁⟩) with ⟨v, vm₁, ⟨U', l2, c2, s2⟩, hW₁, X', ⟨g', mk, t, L, e1, e2, hq, h1, hL, h2, h3⟩, st⟩ | ⟨q, vm₁, ⟨U', l2, c2, s2⟩, hW₁, X', ⟨g', mk, t, L, E, ce, e1, e2, hq, hce, hcv, hcl, h1, hL, h2, h3⟩, st⟩
  · dsimp only [Pt.U, Pt.locs, Pt.cells, Pt.slots] at X' e1 e2 h1 h2 h3 st
    subst h1; subst h2; subst h3
    exact Or.inl ⟨v, (T.setVm vm₁).calling g' mk As.toArray, t, U', L, hT, X', hL, e1, e2, hq, st⟩
  · dsimp only [Pt.U, Pt.locs, Pt.cells, Pt.slots] at X' e1 e2 h1 h2 h3 st hcl
    subst h1; subst h2; subst h3
    exact Or.inr ⟨q, (T.setVm vm₁).calling g' mk As.toArray, t, U', L, E, ce, hT, X', hL, e1, e2, hq, hce, hcv, vx_cls hW₁ hcl, st⟩
end
end VXH
theorem vx_ofWH {l : Launch} {y : MethodName} {ws ws' : List Cond} {rm : Room} {Pc : Array Value → State → Prop} {Qc : Array Value → State → Outcome → State → Prop} {XC : String → State → State → Prop} {mc ms : Nat} {free : Addr → Prop} {cc : ByteArray} {maxL : Nat} {ret : Option FieldType} {hh : List (Nat × Nat × Nat × Nat)}
    (hy : plainName y.cls = true) (hw : ws = Cond.codeWith y cc maxL ret hh :: ws')
    (body : ∀ p e s m args below meth c s₁, BodyLoose p l y (headSpec ws rm) cc maxL ret e s m args below meth c s₁ → c.maxLocals = maxL → Pc args s →
      W p l e (headSpec ws rm).room s m args below meth c s.heap [] 0 0 (vx_MQ below Qc XC args s mc ms free) (entryFrame m args maxL)) : vx_Met l y ws rm Pc Qc XC mc ms free := by
  refine MetFree.of_bodyS (code := cc) (maxLocals := maxL) (ret := ret) hy ?_ ?_
  · intro args s m h hn
    obtain ⟨m9, meth, c, hn9, h1, h2, h3, h4, -, h5, h6, -⟩ := Cond.codeWith_spec (atoms_spec (ws := ws) h _ (by rw [hw]; exact List.mem_cons_self))
    cases hn.symm.trans hn9
    exact ⟨meth, c, h1, h2, h3, h4, h5, h6⟩
  · intro p e s m args below meth c s₁ B hml hP _
    have hh0 : s₁.heap = s.heap := by rw [B.state]; rfl
    obtain ⟨t, a1, o, b1, b2, b3⟩ := body p e s m args below meth c s₁ B hml hP s₁ hh0 (Stand.of_body B)
    exact ⟨t, o, a1, b1, b2, b3⟩
/-! ===== END ===== -/
end
section
/-! ===== BEGIN printed: names, fields, word lists, decode rows ===== -/
def RX0 : String := "BarredGrid$Command"
def TX0 : u_T := fun k => match k with
  | _ => ("", "", "", false)
def tyX0 : Nat → FieldType := fun k => match k with
  | _ => .int
abbrev wsX00 : List Cond := u_ws RX0 TX0 0
theorem nmX0 : ∀ a, a < 0 → ∀ b, b < 0 → a ≠ b → (TX0 a).2.1 ≠ (TX0 b).2.1 := by decide +kernel
theorem tyX0_ok : ∀ k, k < 0 → parseFieldDescriptor (TX0 k).2.2.1 = some (tyX0 k) := by decide +kernel
abbrev cX0_succeeds : ByteArray := prog_2_method_2_code
def yX0_succeeds : MethodName := ⟨RX0, "succeeds", "(LBarredGrid$Puzzle;LBarredGrid$LineSearch;I)Z"⟩
abbrev cX0_putsLetter : ByteArray := prog_2_method_3_code
def yX0_putsLetter : MethodName := ⟨RX0, "putsLetter", "(LBarredGrid$Puzzle;II)Z"⟩
abbrev cX0_fillsEntry : ByteArray := prog_2_method_4_code
def yX0_fillsEntry : MethodName := ⟨RX0, "fillsEntry", "(LBarredGrid$Puzzle;II)Z"⟩
abbrev cX0_clearsEntry : ByteArray := prog_2_method_5_code
def yX0_clearsEntry : MethodName := ⟨RX0, "clearsEntry", "(LBarredGrid$Puzzle;I)Z"⟩
def RX1 : String := "BarredGrid$Filler"
def TX1 : u_T := fun k => match k with
  | 0 => ("BarredGrid$Filler", "ways", "I", false)
  | 1 => ("BarredGrid$Filler", "used", "I", false)
  | 2 => ("BarredGrid$Filler", "fitting", "[I", true)
  | _ => ("BarredGrid$Filler", "given", "[I", true)
def tyX1 : Nat → FieldType := fun k => match k with
  | 0 => .int
  | 1 => .int
  | 2 => .array .int
  | _ => .array .int
abbrev wsX10 : List Cond := u_ws RX1 TX1 4
theorem nmX1 : ∀ a, a < 4 → ∀ b, b < 4 → a ≠ b → (TX1 a).2.1 ≠ (TX1 b).2.1 := by decide +kernel
theorem tyX1_ok : ∀ k, k < 4 → parseFieldDescriptor (TX1 k).2.2.1 = some (tyX1 k) := by decide +kernel
abbrev cX1_init : ByteArray := prog_3_method_1_code
def yX1_init : MethodName := ⟨RX1, "<init>", "()V"⟩
abbrev cX1_count : ByteArray := prog_3_method_2_code
def yX1_count : MethodName := ⟨RX1, "count", "(LBarredGrid$Puzzle;)I"⟩
abbrev cX1_wordsThatFit : ByteArray := prog_3_method_3_code
def yX1_wordsThatFit : MethodName := ⟨RX1, "wordsThatFit", "(LBarredGrid$Puzzle;I)I"⟩
abbrev cX1_giveFrom : ByteArray := prog_3_method_4_code
def yX1_giveFrom : MethodName := ⟨RX1, "giveFrom", "(LBarredGrid$Puzzle;I)V"⟩
abbrev cX1_give : ByteArray := prog_3_method_5_code
def yX1_give : MethodName := ⟨RX1, "give", "(LBarredGrid$Puzzle;II)V"⟩
abbrev cX1_agrees : ByteArray := prog_3_method_6_code
def yX1_agrees : MethodName := ⟨RX1, "agrees", "(LBarredGrid$Puzzle;II)Z"⟩
def RX2 : String := "BarredGrid$LineSearch"
def TX2 : u_T := fun k => match k with
  | 0 => ("BarredGrid$LineSearch", "emptyToo", "Z", false)
  | 1 => ("BarredGrid$LineSearch", "limit", "I", false)
  | 2 => ("BarredGrid$LineSearch", "found", "I", false)
  | 3 => ("BarredGrid$LineSearch", "firstLength", "I", false)
  | 4 => ("BarredGrid$LineSearch", "used", "J", false)
  | 5 => ("BarredGrid$LineSearch", "path", "[I", true)
  | _ => ("BarredGrid$LineSearch", "firstPath", "[I", true)
def tyX2 : Nat → FieldType := fun k => match k with
  | 0 => .boolean
  | 1 => .int
  | 2 => .int
  | 3 => .int
  | 4 => .long
  | 5 => .array .int
  | _ => .array .int
abbrev wsX20 : List Cond := u_ws RX2 TX2 7
theorem nmX2 : ∀ a, a < 7 → ∀ b, b < 7 → a ≠ b → (TX2 a).2.1 ≠ (TX2 b).2.1 := by decide +kernel
theorem tyX2_ok : ∀ k, k < 7 → parseFieldDescriptor (TX2 k).2.2.1 = some (tyX2 k) := by decide +kernel
abbrev cX2_init : ByteArray := prog_4_method_1_code
def yX2_init : MethodName := ⟨RX2, "<init>", "()V"⟩
abbrev cX2_count : ByteArray := prog_4_method_2_code
def yX2_count : MethodName := ⟨RX2, "count", "(LBarredGrid$Puzzle;ZI)I"⟩
abbrev cX2_cellOfFirst : ByteArray := prog_4_method_3_code
def yX2_cellOfFirst : MethodName := ⟨RX2, "cellOfFirst", "(I)I"⟩
abbrev cX2_visit : ByteArray := prog_4_method_4_code
def yX2_visit : MethodName := ⟨RX2, "visit", "(LBarredGrid$Puzzle;II)V"⟩
abbrev cX2_visitBehind : ByteArray := prog_4_method_5_code
def yX2_visitBehind : MethodName := ⟨RX2, "visitBehind", "(LBarredGrid$Puzzle;II)V"⟩
abbrev cX2_isAllowed : ByteArray := prog_4_method_6_code
def yX2_isAllowed : MethodName := ⟨RX2, "isAllowed", "(LBarredGrid$Puzzle;II)Z"⟩
abbrev cX2_keepPath : ByteArray := prog_4_method_7_code
def yX2_keepPath : MethodName := ⟨RX2, "keepPath", "(I)V"⟩
def RX3 : String := "BarredGrid$Memory"
def TX3 : u_T := fun k => match k with
  | 0 => ("BarredGrid$Memory", "actions", "I", false)
  | 1 => ("BarredGrid$Memory", "oldest", "I", false)
  | 2 => ("BarredGrid$Memory", "remembered", "[LBarredGrid$State;", true)
  | 3 => ("BarredGrid$Memory", "slots", "[LBarredGrid$State;", true)
  | _ => ("BarredGrid$Memory", "isUsed", "[Z", true)
def tyX3 : Nat → FieldType := fun k => match k with
  | 0 => .int
  | 1 => .int
  | 2 => .array (.object "BarredGrid$State")
  | 3 => .array (.object "BarredGrid$State")
  | _ => .array .boolean
abbrev wsX30 : List Cond := u_ws RX3 TX3 5
theorem nmX3 : ∀ a, a < 5 → ∀ b, b < 5 → a ≠ b → (TX3 a).2.1 ≠ (TX3 b).2.1 := by decide +kernel
theorem tyX3_ok : ∀ k, k < 5 → parseFieldDescriptor (TX3 k).2.2.1 = some (tyX3 k) := by decide +kernel
abbrev cX3_init : ByteArray := prog_5_method_1_code
def yX3_init : MethodName := ⟨RX3, "<init>", "()V"⟩
abbrev cX3_remember : ByteArray := prog_5_method_2_code
def yX3_remember : MethodName := ⟨RX3, "remember", "(LBarredGrid$State;)V"⟩
abbrev cX3_takeLast : ByteArray := prog_5_method_3_code
def yX3_takeLast : MethodName := ⟨RX3, "takeLast", "()LBarredGrid$State;"⟩
abbrev cX3_forgetActions : ByteArray := prog_5_method_4_code
def yX3_forgetActions : MethodName := ⟨RX3, "forgetActions", "()V"⟩
abbrev cX3_at : ByteArray := prog_5_method_5_code
def yX3_at : MethodName := ⟨RX3, "at", "(I)LBarredGrid$State;"⟩
abbrev cX3_store : ByteArray := prog_5_method_6_code
def yX3_store : MethodName := ⟨RX3, "store", "(ILBarredGrid$State;)V"⟩
abbrev cX3_isStored : ByteArray := prog_5_method_7_code
def yX3_isStored : MethodName := ⟨RX3, "isStored", "(I)Z"⟩
abbrev cX3_stored : ByteArray := prog_5_method_8_code
def yX3_stored : MethodName := ⟨RX3, "stored", "(I)LBarredGrid$State;"⟩
abbrev cX3_emptySlots : ByteArray := prog_5_method_9_code
def yX3_emptySlots : MethodName := ⟨RX3, "emptySlots", "()V"⟩
def RX4 : String := "BarredGrid$Puzzle"
def TX4 : u_T := fun k => match k with
  | 0 => ("BarredGrid$Puzzle", "state", "LBarredGrid$State;", true)
  | 1 => ("BarredGrid$Puzzle", "entryCount", "I", false)
  | 2 => ("BarredGrid$Puzzle", "acrossCount", "I", false)
  | 3 => ("BarredGrid$Puzzle", "greatestClue", "I", false)
  | 4 => ("BarredGrid$Puzzle", "firstCells", "[I", true)
  | 5 => ("BarredGrid$Puzzle", "lengths", "[I", true)
  | 6 => ("BarredGrid$Puzzle", "downward", "[Z", true)
  | 7 => ("BarredGrid$Puzzle", "acrossOf", "[I", true)
  | 8 => ("BarredGrid$Puzzle", "downOf", "[I", true)
  | _ => ("BarredGrid$Puzzle", "clueOf", "[I", true)
def tyX4 : Nat → FieldType := fun k => match k with
  | 0 => .object "BarredGrid$State"
  | 1 => .int
  | 2 => .int
  | 3 => .int
  | 4 => .array .int
  | 5 => .array .int
  | 6 => .array .boolean
  | 7 => .array .int
  | 8 => .array .int
  | _ => .array .int
abbrev wsX40 : List Cond := u_ws RX4 TX4 10
theorem nmX4 : ∀ a, a < 10 → ∀ b, b < 10 → a ≠ b → (TX4 a).2.1 ≠ (TX4 b).2.1 := by decide +kernel
theorem tyX4_ok : ∀ k, k < 10 → parseFieldDescriptor (TX4 k).2.2.1 = some (tyX4 k) := by decide +kernel
abbrev cX4_init : ByteArray := prog_6_method_1_code
def yX4_init : MethodName := ⟨RX4, "<init>", "()V"⟩
abbrev cX4_take : ByteArray := prog_6_method_2_code
def yX4_take : MethodName := ⟨RX4, "take", "(LBarredGrid$State;)V"⟩
abbrev cX4_changeBar : ByteArray := prog_6_method_3_code
def yX4_changeBar : MethodName := ⟨RX4, "changeBar", "(IZZ)Z"⟩
abbrev cX4_layOut : ByteArray := prog_6_method_4_code
def yX4_layOut : MethodName := ⟨RX4, "layOut", "()V"⟩
abbrev cX4_addEntry : ByteArray := prog_6_method_5_code
def yX4_addEntry : MethodName := ⟨RX4, "addEntry", "(IZ)V"⟩
abbrev cX4_hasEntry : ByteArray := prog_6_method_6_code
def yX4_hasEntry : MethodName := ⟨RX4, "hasEntry", "(I)Z"⟩
abbrev cX4_isDown : ByteArray := prog_6_method_7_code
def yX4_isDown : MethodName := ⟨RX4, "isDown", "(I)Z"⟩
abbrev cX4_lengthOf : ByteArray := prog_6_method_8_code
def yX4_lengthOf : MethodName := ⟨RX4, "lengthOf", "(I)I"⟩
abbrev cX4_cellOf : ByteArray := prog_6_method_9_code
def yX4_cellOf : MethodName := ⟨RX4, "cellOf", "(II)I"⟩
abbrev cX4_indexIn : ByteArray := prog_6_method_10_code
def yX4_indexIn : MethodName := ⟨RX4, "indexIn", "(II)I"⟩
abbrev cX4_entryAt : ByteArray := prog_6_method_11_code
def yX4_entryAt : MethodName := ⟨RX4, "entryAt", "(IZ)I"⟩
abbrev cX4_clueAt : ByteArray := prog_6_method_12_code
def yX4_clueAt : MethodName := ⟨RX4, "clueAt", "(I)I"⟩
abbrev cX4_entriesAt : ByteArray := prog_6_method_13_code
def yX4_entriesAt : MethodName := ⟨RX4, "entriesAt", "(I)I"⟩
abbrev cX4_cellsInEntries : ByteArray := prog_6_method_14_code
def yX4_cellsInEntries : MethodName := ⟨RX4, "cellsInEntries", "(I)I"⟩
abbrev cX4_uncheckedIn : ByteArray := prog_6_method_15_code
def yX4_uncheckedIn : MethodName := ⟨RX4, "uncheckedIn", "(I)I"⟩
abbrev cX4_emptyIn : ByteArray := prog_6_method_16_code
def yX4_emptyIn : MethodName := ⟨RX4, "emptyIn", "(I)I"⟩
abbrev cX4_fitsWord : ByteArray := prog_6_method_17_code
def yX4_fitsWord : MethodName := ⟨RX4, "fitsWord", "(II)Z"⟩
abbrev cX4_fitCount : ByteArray := prog_6_method_18_code
def yX4_fitCount : MethodName := ⟨RX4, "fitCount", "(I)I"⟩
abbrev cX4_wordIn : ByteArray := prog_6_method_19_code
def yX4_wordIn : MethodName := ⟨RX4, "wordIn", "(I)I"⟩
abbrev cX4_fillEntry : ByteArray := prog_6_method_20_code
def yX4_fillEntry : MethodName := ⟨RX4, "fillEntry", "(II)I"⟩
abbrev cX4_clearEntry : ByteArray := prog_6_method_21_code
def yX4_clearEntry : MethodName := ⟨RX4, "clearEntry", "(I)I"⟩
def RX5 : String := "BarredGrid$Rules"
def TX5 : u_T := fun k => match k with
  | _ => ("", "", "", false)
def tyX5 : Nat → FieldType := fun k => match k with
  | _ => .int
abbrev wsX50 : List Cond := u_ws RX5 TX5 0
theorem nmX5 : ∀ a, a < 0 → ∀ b, b < 0 → a ≠ b → (TX5 a).2.1 ≠ (TX5 b).2.1 := by decide +kernel
theorem tyX5_ok : ∀ k, k < 0 → parseFieldDescriptor (TX5 k).2.2.1 = some (tyX5 k) := by decide +kernel
abbrev cX5_countKept : ByteArray := prog_7_method_2_code
def yX5_countKept : MethodName := ⟨RX5, "countKept", "(LBarredGrid$Puzzle;)I"⟩
abbrev cX5_areKept : ByteArray := prog_7_method_3_code
def yX5_areKept : MethodName := ⟨RX5, "areKept", "(LBarredGrid$Puzzle;I)Z"⟩
abbrev cX5_isSameTurned : ByteArray := prog_7_method_4_code
def yX5_isSameTurned : MethodName := ⟨RX5, "isSameTurned", "(LBarredGrid$State;)Z"⟩
abbrev cX5_isCheckedEnough : ByteArray := prog_7_method_5_code
def yX5_isCheckedEnough : MethodName := ⟨RX5, "isCheckedEnough", "(LBarredGrid$Puzzle;)Z"⟩
abbrev cX5_hasNoUncheckedPair : ByteArray := prog_7_method_6_code
def yX5_hasNoUncheckedPair : MethodName := ⟨RX5, "hasNoUncheckedPair", "(LBarredGrid$Puzzle;)Z"⟩
abbrev cX5_isConnected : ByteArray := prog_7_method_7_code
def yX5_isConnected : MethodName := ⟨RX5, "isConnected", "(LBarredGrid$State;)Z"⟩
abbrev cX5_spread : ByteArray := prog_7_method_8_code
def yX5_spread : MethodName := ⟨RX5, "spread", "(LBarredGrid$State;JIZ)J"⟩
def RX6 : String := "BarredGrid$State"
def TX6 : u_T := fun k => match k with
  | 0 => ("BarredGrid$State", "rows", "I", false)
  | 1 => ("BarredGrid$State", "columns", "I", false)
  | 2 => ("BarredGrid$State", "wordCount", "I", false)
  | 3 => ("BarredGrid$State", "lineLength", "I", false)
  | 4 => ("BarredGrid$State", "rightBars", "J", false)
  | 5 => ("BarredGrid$State", "belowBars", "J", false)
  | 6 => ("BarredGrid$State", "letters", "[I", true)
  | 7 => ("BarredGrid$State", "wordLengths", "[I", true)
  | 8 => ("BarredGrid$State", "wordLetters", "[I", true)
  | _ => ("BarredGrid$State", "line", "[I", true)
def tyX6 : Nat → FieldType := fun k => match k with
  | 0 => .int
  | 1 => .int
  | 2 => .int
  | 3 => .int
  | 4 => .long
  | 5 => .long
  | 6 => .array .int
  | 7 => .array .int
  | 8 => .array .int
  | _ => .array .int
abbrev wsX60 : List Cond := u_ws RX6 TX6 10
theorem nmX6 : ∀ a, a < 10 → ∀ b, b < 10 → a ≠ b → (TX6 a).2.1 ≠ (TX6 b).2.1 := by decide +kernel
theorem tyX6_ok : ∀ k, k < 10 → parseFieldDescriptor (TX6 k).2.2.1 = some (tyX6 k) := by decide +kernel
abbrev cX6_init : ByteArray := prog_8_method_1_code
def yX6_init : MethodName := ⟨RX6, "<init>", "()V"⟩
abbrev cX6_copyFrom : ByteArray := prog_8_method_2_code
def yX6_copyFrom : MethodName := ⟨RX6, "copyFrom", "(LBarredGrid$State;)V"⟩
abbrev cX6_begin : ByteArray := prog_8_method_3_code
def yX6_begin : MethodName := ⟨RX6, "begin", "(II)V"⟩
abbrev cX6_cells : ByteArray := prog_8_method_4_code
def yX6_cells : MethodName := ⟨RX6, "cells", "()I"⟩
abbrev cX6_hasCell : ByteArray := prog_8_method_5_code
def yX6_hasCell : MethodName := ⟨RX6, "hasCell", "(I)Z"⟩
abbrev cX6_columnOf : ByteArray := prog_8_method_6_code
def yX6_columnOf : MethodName := ⟨RX6, "columnOf", "(I)I"⟩
abbrev cX6_rowOf : ByteArray := prog_8_method_7_code
def yX6_rowOf : MethodName := ⟨RX6, "rowOf", "(I)I"⟩
abbrev cX6_letterAt : ByteArray := prog_8_method_8_code
def yX6_letterAt : MethodName := ⟨RX6, "letterAt", "(I)I"⟩
abbrev cX6_setLetter : ByteArray := prog_8_method_9_code
def yX6_setLetter : MethodName := ⟨RX6, "setLetter", "(II)V"⟩
abbrev cX6_emptyCells : ByteArray := prog_8_method_10_code
def yX6_emptyCells : MethodName := ⟨RX6, "emptyCells", "()I"⟩
abbrev cX6_isPlace : ByteArray := prog_8_method_11_code
def yX6_isPlace : MethodName := ⟨RX6, "isPlace", "(IZ)Z"⟩
abbrev cX6_hasBar : ByteArray := prog_8_method_12_code
def yX6_hasBar : MethodName := ⟨RX6, "hasBar", "(IZ)Z"⟩
abbrev cX6_drawBar : ByteArray := prog_8_method_13_code
def yX6_drawBar : MethodName := ⟨RX6, "drawBar", "(IZZ)V"⟩
abbrev cX6_barCount : ByteArray := prog_8_method_14_code
def yX6_barCount : MethodName := ⟨RX6, "barCount", "()I"⟩
abbrev cX6_isJoined : ByteArray := prog_8_method_15_code
def yX6_isJoined : MethodName := ⟨RX6, "isJoined", "(IZ)Z"⟩
abbrev cX6_hasWord : ByteArray := prog_8_method_16_code
def yX6_hasWord : MethodName := ⟨RX6, "hasWord", "(I)Z"⟩
abbrev cX6_lengthOfWord : ByteArray := prog_8_method_17_code
def yX6_lengthOfWord : MethodName := ⟨RX6, "lengthOfWord", "(I)I"⟩
abbrev cX6_letterOfWord : ByteArray := prog_8_method_18_code
def yX6_letterOfWord : MethodName := ⟨RX6, "letterOfWord", "(II)I"⟩
abbrev cX6_beginWord : ByteArray := prog_8_method_19_code
def yX6_beginWord : MethodName := ⟨RX6, "beginWord", "()V"⟩
abbrev cX6_lengthenWord : ByteArray := prog_8_method_20_code
def yX6_lengthenWord : MethodName := ⟨RX6, "lengthenWord", "(I)V"⟩
abbrev cX6_letterOfLine : ByteArray := prog_8_method_21_code
def yX6_letterOfLine : MethodName := ⟨RX6, "letterOfLine", "(I)I"⟩
abbrev cX6_lengthenLine : ByteArray := prog_8_method_22_code
def yX6_lengthenLine : MethodName := ⟨RX6, "lengthenLine", "(I)V"⟩
def RX7 : String := "BarredGrid$TextBuffer"
def TX7 : u_T := fun k => match k with
  | 0 => ("BarredGrid$TextBuffer", "length", "I", false)
  | 1 => ("BarredGrid$TextBuffer", "grid", "LBarredGrid$State;", true)
  | 2 => ("BarredGrid$TextBuffer", "position", "I", false)
  | _ => ("BarredGrid$TextBuffer", "signs", "[I", true)
def tyX7 : Nat → FieldType := fun k => match k with
  | 0 => .int
  | 1 => .object "BarredGrid$State"
  | 2 => .int
  | _ => .array .int
abbrev wsX70 : List Cond := u_ws RX7 TX7 4
theorem nmX7 : ∀ a, a < 4 → ∀ b, b < 4 → a ≠ b → (TX7 a).2.1 ≠ (TX7 b).2.1 := by decide +kernel
theorem tyX7_ok : ∀ k, k < 4 → parseFieldDescriptor (TX7 k).2.2.1 = some (tyX7 k) := by decide +kernel
abbrev cX7_init : ByteArray := prog_9_method_1_code
def yX7_init : MethodName := ⟨RX7, "<init>", "()V"⟩
abbrev cX7_isFull : ByteArray := prog_9_method_2_code
def yX7_isFull : MethodName := ⟨RX7, "isFull", "()Z"⟩
abbrev cX7_add : ByteArray := prog_9_method_3_code
def yX7_add : MethodName := ⟨RX7, "add", "(I)I"⟩
abbrev cX7_empty : ByteArray := prog_9_method_4_code
def yX7_empty : MethodName := ⟨RX7, "empty", "()I"⟩
abbrev cX7_signAt : ByteArray := prog_9_method_5_code
def yX7_signAt : MethodName := ⟨RX7, "signAt", "(I)I"⟩
abbrev cX7_isWord : ByteArray := prog_9_method_6_code
def yX7_isWord : MethodName := ⟨RX7, "isWord", "(I)Z"⟩
abbrev cX7_readGrid : ByteArray := prog_9_method_7_code
def yX7_readGrid : MethodName := ⟨RX7, "readGrid", "()I"⟩
abbrev cX7_goesPast : ByteArray := prog_9_method_8_code
def yX7_goesPast : MethodName := ⟨RX7, "goesPast", "(I)Z"⟩
abbrev cX7_readSize : ByteArray := prog_9_method_9_code
def yX7_readSize : MethodName := ⟨RX7, "readSize", "()Z"⟩
abbrev cX7_readCells : ByteArray := prog_9_method_10_code
def yX7_readCells : MethodName := ⟨RX7, "readCells", "()Z"⟩
abbrev cX7_readBar : ByteArray := prog_9_method_11_code
def yX7_readBar : MethodName := ⟨RX7, "readBar", "(IZI)V"⟩
abbrev cX7_readParts : ByteArray := prog_9_method_12_code
def yX7_readParts : MethodName := ⟨RX7, "readParts", "()Z"⟩
abbrev cX7_readWord : ByteArray := prog_9_method_13_code
def yX7_readWord : MethodName := ⟨RX7, "readWord", "()Z"⟩
abbrev cX7_readLine : ByteArray := prog_9_method_14_code
def yX7_readLine : MethodName := ⟨RX7, "readLine", "()Z"⟩
def RX8 : String := "BarredGrid"
def TX8 : u_T := fun k => match k with
  | 0 => ("BarredGrid", "text", "LBarredGrid$TextBuffer;", true)
  | 1 => ("BarredGrid", "now", "LBarredGrid$Puzzle;", true)
  | 2 => ("BarredGrid", "trial", "LBarredGrid$Puzzle;", true)
  | 3 => ("BarredGrid", "memory", "LBarredGrid$Memory;", true)
  | 4 => ("BarredGrid", "search", "LBarredGrid$LineSearch;", true)
  | _ => ("BarredGrid", "filler", "LBarredGrid$Filler;", true)
def tyX8 : Nat → FieldType := fun k => match k with
  | 0 => .object "BarredGrid$TextBuffer"
  | 1 => .object "BarredGrid$Puzzle"
  | 2 => .object "BarredGrid$Puzzle"
  | 3 => .object "BarredGrid$Memory"
  | 4 => .object "BarredGrid$LineSearch"
  | _ => .object "BarredGrid$Filler"
abbrev wsX80 : List Cond := u_ws RX8 TX8 6
theorem nmX8 : ∀ a, a < 6 → ∀ b, b < 6 → a ≠ b → (TX8 a).2.1 ≠ (TX8 b).2.1 := by decide +kernel
theorem tyX8_ok : ∀ k, k < 6 → parseFieldDescriptor (TX8 k).2.2.1 = some (tyX8 k) := by decide +kernel
abbrev cX8_init : ByteArray := prog_1_method_1_code
def yX8_init : MethodName := ⟨RX8, "<init>", "()V"⟩
abbrev cX8_append : ByteArray := prog_1_method_2_code
def yX8_append : MethodName := ⟨RX8, "append", "(I)I"⟩
abbrev cX8_clearText : ByteArray := prog_1_method_3_code
def yX8_clearText : MethodName := ⟨RX8, "clearText", "()I"⟩
abbrev cX8_errorPosition : ByteArray := prog_1_method_4_code
def yX8_errorPosition : MethodName := ⟨RX8, "errorPosition", "()I"⟩
abbrev cX8_load : ByteArray := prog_1_method_5_code
def yX8_load : MethodName := ⟨RX8, "load", "()I"⟩
abbrev cX8_about : ByteArray := prog_1_method_6_code
def yX8_about : MethodName := ⟨RX8, "about", "(I)I"⟩
abbrev cX8_cell : ByteArray := prog_1_method_7_code
def yX8_cell : MethodName := ⟨RX8, "cell", "(II)I"⟩
abbrev cX8_entry : ByteArray := prog_1_method_8_code
def yX8_entry : MethodName := ⟨RX8, "entry", "(II)I"⟩
abbrev cX8_word : ByteArray := prog_1_method_9_code
def yX8_word : MethodName := ⟨RX8, "word", "(II)I"⟩
abbrev cX8_fits : ByteArray := prog_1_method_10_code
def yX8_fits : MethodName := ⟨RX8, "fits", "(I)I"⟩
abbrev cX8_rule : ByteArray := prog_1_method_11_code
def yX8_rule : MethodName := ⟨RX8, "rule", "(I)Z"⟩
abbrev cX8_readings : ByteArray := prog_1_method_12_code
def yX8_readings : MethodName := ⟨RX8, "readings", "()I"⟩
abbrev cX8_reading : ByteArray := prog_1_method_13_code
def yX8_reading : MethodName := ⟨RX8, "reading", "(I)I"⟩
abbrev cX8_put : ByteArray := prog_1_method_14_code
def yX8_put : MethodName := ⟨RX8, "put", "(II)I"⟩
abbrev cX8_setBar : ByteArray := prog_1_method_15_code
def yX8_setBar : MethodName := ⟨RX8, "setBar", "(IZZ)I"⟩
abbrev cX8_addWord : ByteArray := prog_1_method_16_code
def yX8_addWord : MethodName := ⟨RX8, "addWord", "()I"⟩
abbrev cX8_setLine : ByteArray := prog_1_method_17_code
def yX8_setLine : MethodName := ⟨RX8, "setLine", "()I"⟩
abbrev cX8_write : ByteArray := prog_1_method_18_code
def yX8_write : MethodName := ⟨RX8, "write", "(II)I"⟩
abbrev cX8_erase : ByteArray := prog_1_method_19_code
def yX8_erase : MethodName := ⟨RX8, "erase", "(I)I"⟩
abbrev cX8_undo : ByteArray := prog_1_method_20_code
def yX8_undo : MethodName := ⟨RX8, "undo", "()I"⟩
abbrev cX8_possible : ByteArray := prog_1_method_21_code
def yX8_possible : MethodName := ⟨RX8, "possible", "()I"⟩
abbrev cX8_fillings : ByteArray := prog_1_method_22_code
def yX8_fillings : MethodName := ⟨RX8, "fillings", "()I"⟩
abbrev cX8_mend : ByteArray := prog_1_method_23_code
def yX8_mend : MethodName := ⟨RX8, "mend", "()I"⟩
abbrev cX8_hardest : ByteArray := prog_1_method_24_code
def yX8_hardest : MethodName := ⟨RX8, "hardest", "()I"⟩
abbrev cX8_runScript : ByteArray := prog_1_method_25_code
def yX8_runScript : MethodName := ⟨RX8, "runScript", "(IJ)I"⟩
abbrev cX8_simulate : ByteArray := prog_1_method_26_code
def yX8_simulate : MethodName := ⟨RX8, "simulate", "(JI)I"⟩
abbrev cX8_save : ByteArray := prog_1_method_27_code
def yX8_save : MethodName := ⟨RX8, "save", "(I)I"⟩
abbrev cX8_restore : ByteArray := prog_1_method_28_code
def yX8_restore : MethodName := ⟨RX8, "restore", "(I)I"⟩
abbrev cX8_requireCell : ByteArray := prog_1_method_29_code
def yX8_requireCell : MethodName := ⟨RX8, "requireCell", "(I)V"⟩
abbrev cX8_requireEntry : ByteArray := prog_1_method_30_code
def yX8_requireEntry : MethodName := ⟨RX8, "requireEntry", "(I)V"⟩
abbrev cX8_requireWord : ByteArray := prog_1_method_31_code
def yX8_requireWord : MethodName := ⟨RX8, "requireWord", "(I)V"⟩
abbrev cX8_requireSlot : ByteArray := prog_1_method_32_code
def yX8_requireSlot : MethodName := ⟨RX8, "requireSlot", "(I)V"⟩
abbrev cX8_isLetter : ByteArray := prog_1_method_33_code
def yX8_isLetter : MethodName := ⟨RX8, "isLetter", "(I)Z"⟩
abbrev cX8_withoutGroups : ByteArray := prog_1_method_34_code
def yX8_withoutGroups : MethodName := ⟨RX8, "withoutGroups", "(JI)J"⟩
abbrev cX8_simulateRound : ByteArray := prog_1_method_35_code
def yX8_simulateRound : MethodName := ⟨RX8, "simulateRound", "(I)V"⟩
def RX9 : String := "BarredGridModel"
def TX9 : u_T := fun k => match k with
  | 0 => ("BarredGridModel", "thrown", "I", false)
  | 1 => ("BarredGridModel", "text", "[I", true)
  | 2 => ("BarredGridModel", "textLength", "I", false)
  | 3 => ("BarredGridModel", "state", "[I", true)
  | 4 => ("BarredGridModel", "draft", "[I", true)
  | 5 => ("BarredGridModel", "copy", "[I", true)
  | 6 => ("BarredGridModel", "history", "[I", true)
  | 7 => ("BarredGridModel", "remembered", "I", false)
  | 8 => ("BarredGridModel", "slots", "[I", true)
  | 9 => ("BarredGridModel", "isSaved", "[I", true)
  | 10 => ("BarredGridModel", "entries", "I", false)
  | 11 => ("BarredGridModel", "first", "[I", true)
  | 12 => ("BarredGridModel", "isDown", "[I", true)
  | 13 => ("BarredGridModel", "cells", "[I", true)
  | 14 => ("BarredGridModel", "across", "[I", true)
  | 15 => ("BarredGridModel", "down", "[I", true)
  | 16 => ("BarredGridModel", "clue", "[I", true)
  | 17 => ("BarredGridModel", "reached", "[I", true)
  | 18 => ("BarredGridModel", "chosen", "[I", true)
  | _ => ("BarredGridModel", "firstReading", "[I", true)
def tyX9 : Nat → FieldType := fun k => match k with
  | 0 => .int
  | 1 => .array .int
  | 2 => .int
  | 3 => .array .int
  | 4 => .array .int
  | 5 => .array .int
  | 6 => .array .int
  | 7 => .int
  | 8 => .array .int
  | 9 => .array .int
  | 10 => .int
  | 11 => .array .int
  | 12 => .array .int
  | 13 => .array .int
  | 14 => .array .int
  | 15 => .array .int
  | 16 => .array .int
  | 17 => .array .int
  | 18 => .array .int
  | _ => .array .int
abbrev wsX90 : List Cond := u_ws RX9 TX9 20
theorem nmX9 : ∀ a, a < 20 → ∀ b, b < 20 → a ≠ b → (TX9 a).2.1 ≠ (TX9 b).2.1 := by decide +kernel
theorem tyX9_ok : ∀ k, k < 20 → parseFieldDescriptor (TX9 k).2.2.1 = some (tyX9 k) := by decide +kernel
abbrev cX9_init : ByteArray := prog_11_method_1_code
def yX9_init : MethodName := ⟨RX9, "<init>", "()V"⟩
abbrev cX9_thrown : ByteArray := prog_11_method_2_code
def yX9_thrown : MethodName := ⟨RX9, "thrown", "()I"⟩
abbrev cX9_move : ByteArray := prog_11_method_3_code
def yX9_move : MethodName := ⟨RX9, "move", "([II[II)V"⟩
abbrev cX9_append : ByteArray := prog_11_method_4_code
def yX9_append : MethodName := ⟨RX9, "append", "(I)I"⟩
abbrev cX9_clearText : ByteArray := prog_11_method_5_code
def yX9_clearText : MethodName := ⟨RX9, "clearText", "()I"⟩
abbrev cX9_character : ByteArray := prog_11_method_6_code
def yX9_character : MethodName := ⟨RX9, "character", "(I)I"⟩
abbrev cX9_isLetter : ByteArray := prog_11_method_7_code
def yX9_isLetter : MethodName := ⟨RX9, "isLetter", "(I)Z"⟩
abbrev cX9_isSide : ByteArray := prog_11_method_8_code
def yX9_isSide : MethodName := ⟨RX9, "isSide", "(I)Z"⟩
abbrev cX9_readText : ByteArray := prog_11_method_9_code
def yX9_readText : MethodName := ⟨RX9, "readText", "()I"⟩
abbrev cX9_readParts : ByteArray := prog_11_method_10_code
def yX9_readParts : MethodName := ⟨RX9, "readParts", "(I)I"⟩
abbrev cX9_errorPosition : ByteArray := prog_11_method_11_code
def yX9_errorPosition : MethodName := ⟨RX9, "errorPosition", "()I"⟩
abbrev cX9_load : ByteArray := prog_11_method_12_code
def yX9_load : MethodName := ⟨RX9, "load", "()I"⟩
abbrev cX9_size : ByteArray := prog_11_method_13_code
def yX9_size : MethodName := ⟨RX9, "size", "()I"⟩
abbrev cX9_isCell : ByteArray := prog_11_method_14_code
def yX9_isCell : MethodName := ⟨RX9, "isCell", "(I)Z"⟩
abbrev cX9_isLastColumn : ByteArray := prog_11_method_15_code
def yX9_isLastColumn : MethodName := ⟨RX9, "isLastColumn", "(I)Z"⟩
abbrev cX9_isLastRow : ByteArray := prog_11_method_16_code
def yX9_isLastRow : MethodName := ⟨RX9, "isLastRow", "(I)Z"⟩
abbrev cX9_endsRight : ByteArray := prog_11_method_17_code
def yX9_endsRight : MethodName := ⟨RX9, "endsRight", "(I)Z"⟩
abbrev cX9_endsBelow : ByteArray := prog_11_method_18_code
def yX9_endsBelow : MethodName := ⟨RX9, "endsBelow", "(I)Z"⟩
abbrev cX9_findEntries : ByteArray := prog_11_method_19_code
def yX9_findEntries : MethodName := ⟨RX9, "findEntries", "()V"⟩
abbrev cX9_addEntry : ByteArray := prog_11_method_20_code
def yX9_addEntry : MethodName := ⟨RX9, "addEntry", "(III)V"⟩
abbrev cX9_isEntry : ByteArray := prog_11_method_21_code
def yX9_isEntry : MethodName := ⟨RX9, "isEntry", "(I)Z"⟩
abbrev cX9_cellOf : ByteArray := prog_11_method_22_code
def yX9_cellOf : MethodName := ⟨RX9, "cellOf", "(II)I"⟩
abbrev cX9_entriesOf : ByteArray := prog_11_method_23_code
def yX9_entriesOf : MethodName := ⟨RX9, "entriesOf", "(I)I"⟩
abbrev cX9_uncheckedIn : ByteArray := prog_11_method_24_code
def yX9_uncheckedIn : MethodName := ⟨RX9, "uncheckedIn", "(I)I"⟩
abbrev cX9_emptyIn : ByteArray := prog_11_method_25_code
def yX9_emptyIn : MethodName := ⟨RX9, "emptyIn", "(I)I"⟩
abbrev cX9_cellsIn : ByteArray := prog_11_method_26_code
def yX9_cellsIn : MethodName := ⟨RX9, "cellsIn", "(I)I"⟩
abbrev cX9_bars : ByteArray := prog_11_method_27_code
def yX9_bars : MethodName := ⟨RX9, "bars", "()I"⟩
abbrev cX9_about : ByteArray := prog_11_method_28_code
def yX9_about : MethodName := ⟨RX9, "about", "(I)I"⟩
abbrev cX9_cell : ByteArray := prog_11_method_29_code
def yX9_cell : MethodName := ⟨RX9, "cell", "(II)I"⟩
abbrev cX9_entry : ByteArray := prog_11_method_30_code
def yX9_entry : MethodName := ⟨RX9, "entry", "(II)I"⟩
abbrev cX9_wordIn : ByteArray := prog_11_method_31_code
def yX9_wordIn : MethodName := ⟨RX9, "wordIn", "(I)I"⟩
abbrev cX9_isWord : ByteArray := prog_11_method_32_code
def yX9_isWord : MethodName := ⟨RX9, "isWord", "(I)Z"⟩
abbrev cX9_letterOf : ByteArray := prog_11_method_33_code
def yX9_letterOf : MethodName := ⟨RX9, "letterOf", "(II)I"⟩
abbrev cX9_word : ByteArray := prog_11_method_34_code
def yX9_word : MethodName := ⟨RX9, "word", "(II)I"⟩
abbrev cX9_isFitting : ByteArray := prog_11_method_35_code
def yX9_isFitting : MethodName := ⟨RX9, "isFitting", "(II)Z"⟩
abbrev cX9_fitsOf : ByteArray := prog_11_method_36_code
def yX9_fitsOf : MethodName := ⟨RX9, "fitsOf", "(I)I"⟩
abbrev cX9_fits : ByteArray := prog_11_method_37_code
def yX9_fits : MethodName := ⟨RX9, "fits", "(I)I"⟩
abbrev cX9_isTurned : ByteArray := prog_11_method_38_code
def yX9_isTurned : MethodName := ⟨RX9, "isTurned", "()Z"⟩
abbrev cX9_isWellChecked : ByteArray := prog_11_method_39_code
def yX9_isWellChecked : MethodName := ⟨RX9, "isWellChecked", "()Z"⟩
abbrev cX9_isWithoutPairs : ByteArray := prog_11_method_40_code
def yX9_isWithoutPairs : MethodName := ⟨RX9, "isWithoutPairs", "()Z"⟩
abbrev cX9_isConnected : ByteArray := prog_11_method_41_code
def yX9_isConnected : MethodName := ⟨RX9, "isConnected", "()Z"⟩
abbrev cX9_keeps : ByteArray := prog_11_method_42_code
def yX9_keeps : MethodName := ⟨RX9, "keeps", "(I)Z"⟩
abbrev cX9_kept : ByteArray := prog_11_method_43_code
def yX9_kept : MethodName := ⟨RX9, "kept", "()I"⟩
abbrev cX9_isRule : ByteArray := prog_11_method_44_code
def yX9_isRule : MethodName := ⟨RX9, "isRule", "(I)Z"⟩
abbrev cX9_rule : ByteArray := prog_11_method_45_code
def yX9_rule : MethodName := ⟨RX9, "rule", "(I)Z"⟩
abbrev cX9_isKnightStep : ByteArray := prog_11_method_46_code
def yX9_isKnightStep : MethodName := ⟨RX9, "isKnightStep", "(II)Z"⟩
abbrev cX9_canRead : ByteArray := prog_11_method_47_code
def yX9_canRead : MethodName := ⟨RX9, "canRead", "(IIZ)Z"⟩
abbrev cX9_countReadings : ByteArray := prog_11_method_48_code
def yX9_countReadings : MethodName := ⟨RX9, "countReadings", "(ZI)I"⟩
abbrev cX9_readings : ByteArray := prog_11_method_49_code
def yX9_readings : MethodName := ⟨RX9, "readings", "()I"⟩
abbrev cX9_reading : ByteArray := prog_11_method_50_code
def yX9_reading : MethodName := ⟨RX9, "reading", "(I)I"⟩
abbrev cX9_remember : ByteArray := prog_11_method_51_code
def yX9_remember : MethodName := ⟨RX9, "remember", "()V"⟩
abbrev cX9_isWritable : ByteArray := prog_11_method_52_code
def yX9_isWritable : MethodName := ⟨RX9, "isWritable", "(I)Z"⟩
abbrev cX9_put : ByteArray := prog_11_method_53_code
def yX9_put : MethodName := ⟨RX9, "put", "(II)I"⟩
abbrev cX9_isRim : ByteArray := prog_11_method_54_code
def yX9_isRim : MethodName := ⟨RX9, "isRim", "(IZ)Z"⟩
abbrev cX9_bar : ByteArray := prog_11_method_55_code
def yX9_bar : MethodName := ⟨RX9, "bar", "(IZI)V"⟩
abbrev cX9_setBar : ByteArray := prog_11_method_56_code
def yX9_setBar : MethodName := ⟨RX9, "setBar", "(IZZ)I"⟩
abbrev cX9_isLetters : ByteArray := prog_11_method_57_code
def yX9_isLetters : MethodName := ⟨RX9, "isLetters", "(I)Z"⟩
abbrev cX9_addWord : ByteArray := prog_11_method_58_code
def yX9_addWord : MethodName := ⟨RX9, "addWord", "()I"⟩
abbrev cX9_setLine : ByteArray := prog_11_method_59_code
def yX9_setLine : MethodName := ⟨RX9, "setLine", "()I"⟩
abbrev cX9_writeWord : ByteArray := prog_11_method_60_code
def yX9_writeWord : MethodName := ⟨RX9, "writeWord", "(II)V"⟩
abbrev cX9_write : ByteArray := prog_11_method_61_code
def yX9_write : MethodName := ⟨RX9, "write", "(II)I"⟩
abbrev cX9_eraseEntry : ByteArray := prog_11_method_62_code
def yX9_eraseEntry : MethodName := ⟨RX9, "eraseEntry", "(I)I"⟩
abbrev cX9_erase : ByteArray := prog_11_method_63_code
def yX9_erase : MethodName := ⟨RX9, "erase", "(I)I"⟩
abbrev cX9_undo : ByteArray := prog_11_method_64_code
def yX9_undo : MethodName := ⟨RX9, "undo", "()I"⟩
abbrev cX9_possible : ByteArray := prog_11_method_65_code
def yX9_possible : MethodName := ⟨RX9, "possible", "()I"⟩
abbrev cX9_canFill : ByteArray := prog_11_method_66_code
def yX9_canFill : MethodName := ⟨RX9, "canFill", "(II)Z"⟩
abbrev cX9_fillings : ByteArray := prog_11_method_67_code
def yX9_fillings : MethodName := ⟨RX9, "fillings", "()I"⟩
abbrev cX9_change : ByteArray := prog_11_method_68_code
def yX9_change : MethodName := ⟨RX9, "change", "(IZ)V"⟩
abbrev cX9_mend : ByteArray := prog_11_method_69_code
def yX9_mend : MethodName := ⟨RX9, "mend", "()I"⟩
abbrev cX9_hardest : ByteArray := prog_11_method_70_code
def yX9_hardest : MethodName := ⟨RX9, "hardest", "()I"⟩
abbrev cX9_putsLetter : ByteArray := prog_11_method_71_code
def yX9_putsLetter : MethodName := ⟨RX9, "putsLetter", "(II)Z"⟩
abbrev cX9_setsBar : ByteArray := prog_11_method_72_code
def yX9_setsBar : MethodName := ⟨RX9, "setsBar", "(III)Z"⟩
abbrev cX9_writes : ByteArray := prog_11_method_73_code
def yX9_writes : MethodName := ⟨RX9, "writes", "(II)Z"⟩
abbrev cX9_erases : ByteArray := prog_11_method_74_code
def yX9_erases : MethodName := ⟨RX9, "erases", "(I)Z"⟩
abbrev cX9_runs : ByteArray := prog_11_method_75_code
def yX9_runs : MethodName := ⟨RX9, "runs", "(I)Z"⟩
abbrev cX9_runScript : ByteArray := prog_11_method_76_code
def yX9_runScript : MethodName := ⟨RX9, "runScript", "(IJ)I"⟩
abbrev cX9_simulate : ByteArray := prog_11_method_77_code
def yX9_simulate : MethodName := ⟨RX9, "simulate", "(JI)I"⟩
abbrev cX9_isSlot : ByteArray := prog_11_method_78_code
def yX9_isSlot : MethodName := ⟨RX9, "isSlot", "(I)Z"⟩
abbrev cX9_save : ByteArray := prog_11_method_79_code
def yX9_save : MethodName := ⟨RX9, "save", "(I)I"⟩
abbrev cX9_restore : ByteArray := prog_11_method_80_code
def yX9_restore : MethodName := ⟨RX9, "restore", "(I)I"⟩
def RJx145de : String := "java/io/Serializable"
def RJ13 : String := "java/lang/Long"
abbrev cJ13_bitCount_95d88 : ByteArray := prog_16_method_50_code
def yJ13_bitCount_95d88 : MethodName := ⟨RJ13, "bitCount", "(J)I"⟩
def RJ9 : String := "java/lang/Math"
abbrev cJ9_floorMod_7cf53 : ByteArray := prog_17_method_50_code
def yJ9_floorMod_7cf53 : MethodName := ⟨RJ9, "floorMod", "(II)I"⟩
def RJ0 : String := "java/lang/String"
def RJ10 : String := "java/lang/System"
def RJ7 : String := "java/util/Arrays"
abbrev cJ7_fill_53178 : ByteArray := prog_22_method_103_code
def yJ7_fill_53178 : MethodName := ⟨RJ7, "fill", "([II)V"⟩
def RL : String := "BarredGridLaw"
abbrev cL_append : ByteArray := method_3_code
def yL_append : MethodName := ⟨RL, "append", "(LBarredGrid;I[J)I"⟩
abbrev cL_load : ByteArray := method_4_code
def yL_load : MethodName := ⟨RL, "load", "(LBarredGrid;[J)I"⟩
abbrev cL_about : ByteArray := method_5_code
def yL_about : MethodName := ⟨RL, "about", "(LBarredGrid;I[J)I"⟩
abbrev cL_cell : ByteArray := method_6_code
def yL_cell : MethodName := ⟨RL, "cell", "(LBarredGrid;II[J)I"⟩
abbrev cL_entry : ByteArray := method_7_code
def yL_entry : MethodName := ⟨RL, "entry", "(LBarredGrid;II[J)I"⟩
abbrev cL_word : ByteArray := method_8_code
def yL_word : MethodName := ⟨RL, "word", "(LBarredGrid;II[J)I"⟩
abbrev cL_fits : ByteArray := method_9_code
def yL_fits : MethodName := ⟨RL, "fits", "(LBarredGrid;I[J)I"⟩
abbrev cL_rule : ByteArray := method_10_code
def yL_rule : MethodName := ⟨RL, "rule", "(LBarredGrid;I[J)I"⟩
abbrev cL_reading : ByteArray := method_11_code
def yL_reading : MethodName := ⟨RL, "reading", "(LBarredGrid;I[J)I"⟩
abbrev cL_put : ByteArray := method_12_code
def yL_put : MethodName := ⟨RL, "put", "(LBarredGrid;II[J)I"⟩
abbrev cL_setBar : ByteArray := method_13_code
def yL_setBar : MethodName := ⟨RL, "setBar", "(LBarredGrid;IZZ[J)I"⟩
abbrev cL_addWord : ByteArray := method_14_code
def yL_addWord : MethodName := ⟨RL, "addWord", "(LBarredGrid;[J)I"⟩
abbrev cL_setLine : ByteArray := method_15_code
def yL_setLine : MethodName := ⟨RL, "setLine", "(LBarredGrid;[J)I"⟩
abbrev cL_write : ByteArray := method_16_code
def yL_write : MethodName := ⟨RL, "write", "(LBarredGrid;II[J)I"⟩
abbrev cL_erase : ByteArray := method_17_code
def yL_erase : MethodName := ⟨RL, "erase", "(LBarredGrid;I[J)I"⟩
abbrev cL_undo : ByteArray := method_18_code
def yL_undo : MethodName := ⟨RL, "undo", "(LBarredGrid;[J)I"⟩
abbrev cL_runScript : ByteArray := method_19_code
def yL_runScript : MethodName := ⟨RL, "runScript", "(LBarredGrid;IJ[J)I"⟩
abbrev cL_simulate : ByteArray := method_20_code
def yL_simulate : MethodName := ⟨RL, "simulate", "(LBarredGrid;JI[J)I"⟩
abbrev cL_save : ByteArray := method_21_code
def yL_save : MethodName := ⟨RL, "save", "(LBarredGrid;I[J)I"⟩
abbrev cL_restore : ByteArray := method_22_code
def yL_restore : MethodName := ⟨RL, "restore", "(LBarredGrid;I[J)I"⟩
abbrev cL_law : ByteArray := code
def yL_law : MethodName := ⟨RL, "law", "([I)Z"⟩
abbrev vwCl : List vw_C := [(RX1, TX1, 4), (RX2, TX2, 7), (RX3, TX3, 5), (RX4, TX4, 10), (RX6, TX6, 10), (RX7, TX7, 4), (RX8, TX8, 6), (RX9, TX9, 20)]
/-! ===== END printed: names ===== -/
end
section
/-! ===== the small machine: values, heaps, one step ===== -/
abbrev AV : Type := Int ⊕ (Int64 ⊕ Option Nat)
abbrev AE : Type := (Nat × List AV) ⊕ ((Bool × Nat × (Nat → Int)) ⊕ ((Nat × (Nat → Int64)) ⊕ (Nat × (Nat → Option Nat))))
abbrev AH : Type := Nat → AE
abbrev ARes : Type := Option AV ⊕ String
abbrev AQ : Type := ARes → AH → Nat → Prop
abbrev AC : Type := Nat → List AV → AH → Nat → AQ → Prop
abbrev AL : Type := List (Option AV)
abbrev AJ : Type := Nat → AL → List AV → AH → Nat → Nat → Nat → Prop
abbrev vI (z : Int) : AV := .inl z
abbrev vL (x : Int64) : AV := .inr (.inl x)
abbrev vF (r : Option Nat) : AV := .inr (.inr r)
abbrev vR (k : Nat) : AV := .inr (.inr (some k))
abbrev eO (ci : Nat) (fs : List AV) : AE := .inl (ci, fs)
abbrev eI (n : Nat) (f : Nat → Int) : AE := .inr (.inl (false, n, f))
abbrev eZ (n : Nat) (f : Nat → Int) : AE := .inr (.inl (true, n, f))
abbrev eL (n : Nat) (f : Nat → Int64) : AE := .inr (.inr (.inl (n, f)))
abbrev eR (n : Nat) (f : Nat → Option Nat) : AE := .inr (.inr (.inr (n, f)))
def iI (z : Int) : Int32 := Int32.ofInt z
/-- an int that fits -/
def inR (z : Int) : Prop := -2147483648 ≤ z ∧ z < 2147483648
def lk {α : Type} : List (Nat × α) → Nat → Option α
  | [], _ => none
  | (k, a) :: t, n => cond (Nat.beq k n) (some a) (lk t n)
/-- a row of a method's code: the instruction, the next pc, the targets -/
abbrev ARow : Type := Instr × Nat × List Nat
/-- a call's row: the method's number, its kind (0 virtual, 1 static, 2 special, 3 static nest mate, 4 special nest mate, 5 Object.<init>, 6 arraycopy, 7 static with handlers of its own), how many values it takes with the receiver, the cells and slots that it makes, the receiver's kind of object -/
abbrev AMth : Type := Nat × Nat × Nat × Nat × Nat × Nat
/-- a method: code; fields by pool index (class number, place); calls by pool index; handlers (from, to, pc behind the store, the slot stored to, catch type's name); throw sites; made classes by pool index; cells and slots that it may make; 1 where it answers a boolean -/
abbrev MI : Type := List (Nat × ARow) × List (Nat × Nat × Nat) × List (Nat × AMth) × List (Nat × Nat × Nat × Nat × String) × List (Nat × String) × List (Nat × Nat) × List (Nat × Int64) × Nat × Nat × Nat
abbrev MI.code (I : MI) : List (Nat × ARow) := I.1
abbrev MI.fld (I : MI) : List (Nat × Nat × Nat) := I.2.1
abbrev MI.mth (I : MI) : List (Nat × AMth) := I.2.2.1
abbrev MI.hnd (I : MI) : List (Nat × Nat × Nat × Nat × String) := I.2.2.2.1
abbrev MI.thr (I : MI) : List (Nat × String) := I.2.2.2.2.1
abbrev MI.cls (I : MI) : List (Nat × Nat) := I.2.2.2.2.2.1
abbrev MI.cst (I : MI) : List (Nat × Int64) := I.2.2.2.2.2.2.1
abbrev MI.mc (I : MI) : Nat := I.2.2.2.2.2.2.2.1
abbrev MI.ms (I : MI) : Nat := I.2.2.2.2.2.2.2.2.1
abbrev MI.rt (I : MI) : Nat := I.2.2.2.2.2.2.2.2.2
/-- the first place behind all that is made: the script, the two tables of steps stand behind it -/
def aRO : Nat := 1000
def aRd (N a : Nat) : Prop := a < N ∨ a = aRO ∨ a = aRO + 1 ∨ a = aRO + 2
def aLd (I : AL) (i : Nat) : Option AV := I.getD i none
def aKill (i : Nat) (lv : AL) : AL := match i with
  | 0 => lv
  | j + 1 => match lv.getD j none with
    | some (.inr (.inl _)) => lv.set j none
    | _ => lv
def aSt (i : Nat) (v : AV) (lv : AL) : AL := (aKill i lv).set i (some v)
def aSt2 (i : Nat) (v : AV) (lv : AL) : AL := (aSt i v lv).set (i + 1) none
def aUn (i : Nat) (lv : AL) : AL := (aKill i lv).set i none
def aCat (v : AV) : Nat := match v with
  | .inr (.inl _) => 2
  | _ => 1
def aCats : List AV → Nat
  | [] => 0
  | v :: t => aCat v + aCats t
def wfV (N : Nat) (v : AV) : Prop := match v with
  | .inr (.inr (some k)) => k < N ∨ aRO ≤ k
  | _ => True
def wfE (N : Nat) (e : AE) : Prop := match e with
  | .inl (_, fs) => ∀ v ∈ fs, wfV N v
  | .inr (.inr (.inr (_, f))) => ∀ j k, f j = some k → k < N ∨ aRO ≤ k
  | _ => True
def wfH (N : Nat) (h : AH) : Prop := ∀ k, k < N → wfE N (h k)
def wfS (N : Nat) (lv : AL) (st : List AV) : Prop := (∀ o ∈ lv, ∀ v, o = some v → wfV N v) ∧ ∀ v ∈ st, wfV N v
/-- the values that a new object's fields have -/
def aDef (ty : FieldType) : AV := match ty with
  | .long => vL 0
  | .object _ => vF none
  | .array _ => vF none
  | _ => vI 0
/-- may a field of this type hold the value as it is? -/
def aFit (ty : FieldType) (v : AV) : Prop := match ty, v with
  | .int, .inl _ => True
  | .boolean, .inl z => z = 0 ∨ z = 1
  | .long, .inr (.inl _) => True
  | .object _, .inr (.inr _) => True
  | .array _, .inr (.inr _) => True
  | _, _ => False
def aTy (ci k : Nat) : FieldType := match ci with
  | 0 => tyX1 k
  | 1 => tyX2 k
  | 2 => tyX3 k
  | 3 => tyX4 k
  | 4 => tyX6 k
  | 5 => tyX7 k
  | 6 => tyX8 k
  | _ => tyX9 k
def aNf (ci : Nat) : Nat := match ci with
  | 0 => 4
  | 1 => 7
  | 2 => 5
  | 3 => 10
  | 4 => 10
  | 5 => 4
  | 6 => 6
  | 7 => 20
  | _ => 0
def aFs (ci : Nat) : List AV := (List.range (aNf ci)).map (fun k => aDef (aTy ci k))
def aCmp (c : Jvm.ClassFile.Cond) (a b : Int) : Prop := match c with
  | .eq => a = b
  | .ne => ¬ a = b
  | .lt => a < b
  | .ge => b ≤ a
  | .gt => b < a
  | .le => a ≤ b
/-- the cases of a tableswitch -/
def aSw (J : Nat → Prop) (a : Int) (lo : Int) : List Nat → Prop
  | [] => True
  | t :: ts => (a = lo → J t) ∧ aSw J a (lo + 1) ts
/-- a thrown exception: caught here, or out -/
def aThr (I : MI) (Q : AQ) (J : AJ) (E : String) (pc : Nat) (lv : AL) (h : AH) (N k n : Nat) : Prop :=
  match I.hnd.find? (fun q => decide (q.1 ≤ pc) && decide (pc < q.2.1) && decide (q.2.2.2.2 = E)) with
  | some q => J q.2.2.1 (aUn q.2.2.2.1 lv) [] h N k n
  | none => I.hnd = [] ∧ Q (.inr E) h N ∧ k ≤ I.mc ∧ n ≤ I.ms
/-- what is behind a call -/
def aRes (I : MI) (Q : AQ) (J : AJ) (thr : Bool) (nx pc : Nat) (lv : AL) (rest : List AV) (N k n : Nat) : AQ := fun r h' N' => (N' = N ∨ wfS N lv rest) ∧ match r with
  | .inl o => J nx lv (o.toList ++ rest) h' N' k n
  | .inr E => thr = true ∧ aThr I Q J E pc lv h' N' k n
def aCall (I : MI) (C : AC) (Q : AQ) (J : AJ) (thr : Bool) (y na mc ms nx pc : Nat) (lv : AL) (st : List AV) (h : AH) (N k n : Nat) : Prop :=
  (aCats (st.drop na) ≤ 8 ∧ na ≤ st.length ∧ k + mc ≤ I.mc ∧ n + ms ≤ I.ms) ∧ C y (st.take na).reverse h N (aRes I Q J thr nx pc lv (st.drop na) N (k + mc) (n + ms))
def aRcv (rc : Nat) (as : List AV) (h : AH) (N : Nat) : Prop := match as with
  | .inr (.inr (some a)) :: _ => a < N ∧ ∃ fs, h a = eO rc fs
  | _ => False
def aRecR (as : List AV) : Prop := match as with
  | .inr (.inr (some _)) :: _ => True
  | _ => False
def aCpy (f g : Nat → Int) (sp dp n : Nat) : Nat → Int := fun j => if dp ≤ j ∧ j < dp + n then f (sp + (j - dp)) else g j
def stepI (I : MI) (C : AC) (Q : AQ) (J : AJ) (i : Instr) (nx : Nat) (tg : List Nat) (pc : Nat) (lv : AL) (st : List AV) (h : AH) (N k n : Nat) : Prop :=
  match i with
  | .iconst c => J nx lv (vI c :: st) h N k n
  | .bipush c => J nx lv (vI c :: st) h N k n
  | .sipush c => J nx lv (vI c :: st) h N k n
  | .lconst c => J nx lv (vL (Int64.ofNat c) :: st) h N k n
  | .ldc x => match lk I.cst x with
    | some v => J nx lv (vI v.toInt :: st) h N k n
    | none => False
  | .ldc2_w x => match lk I.cst x with
    | some v => J nx lv (vL v :: st) h N k n
    | none => False
  | .iload a => match aLd lv a with
    | some (.inl z) => J nx lv (vI z :: st) h N k n
    | _ => False
  | .iload_n a => match aLd lv a with
    | some (.inl z) => J nx lv (vI z :: st) h N k n
    | _ => False
  | .lload a => match aLd lv a with
    | some (.inr (.inl z)) => J nx lv (vL z :: st) h N k n
    | _ => False
  | .lload_n a => match aLd lv a with
    | some (.inr (.inl z)) => J nx lv (vL z :: st) h N k n
    | _ => False
  | .aload a => match aLd lv a with
    | some (.inr (.inr (some z))) => J nx lv (vR z :: st) h N k n
    | _ => False
  | .aload_n a => match aLd lv a with
    | some (.inr (.inr (some z))) => J nx lv (vR z :: st) h N k n
    | _ => False
  | .istore a => match st with
    | .inl z :: r => J nx (aSt a (vI z) lv) r h N k n
    | _ => False
  | .istore_n a => match st with
    | .inl z :: r => J nx (aSt a (vI z) lv) r h N k n
    | _ => False
  | .lstore a => match st with
    | .inr (.inl z) :: r => J nx (aSt2 a (vL z) lv) r h N k n
    | _ => False
  | .lstore_n a => match st with
    | .inr (.inl z) :: r => J nx (aSt2 a (vL z) lv) r h N k n
    | _ => False
  | .astore a => match st with
    | .inr (.inr (some z)) :: r => J nx (aSt a (vR z) lv) r h N k n
    | _ => False
  | .astore_n a => match st with
    | .inr (.inr (some z)) :: r => J nx (aSt a (vR z) lv) r h N k n
    | _ => False
  | .iinc a c => match aLd lv a with
    | some (.inl z) => J nx (aSt a (vI (z + c)) lv) st h N k n
    | _ => False
  | .iadd => match st with
    | .inl b :: .inl a :: r => J nx lv (vI (a + b) :: r) h N k n
    | _ => False
  | .isub => match st with
    | .inl b :: .inl a :: r => J nx lv (vI (a - b) :: r) h N k n
    | _ => False
  | .imul => match st with
    | .inl b :: .inl a :: r => J nx lv (vI (a * b) :: r) h N k n
    | _ => False
  | .idiv => match st with
    | .inl b :: .inl a :: r => (0 ≤ a ∧ a < 2147483648 ∧ 0 < b ∧ b < 2147483648) ∧ J nx lv (vI (a / b) :: r) h N k n
    | _ => False
  | .irem => match st with
    | .inl b :: .inl a :: r => (0 ≤ a ∧ a < 2147483648 ∧ 0 < b ∧ b < 2147483648) ∧ J nx lv (vI (a % b) :: r) h N k n
    | _ => False
  | .iand => match st with
    | .inl b :: .inl a :: r => J nx lv (vI (iI a &&& iI b).toInt :: r) h N k n
    | _ => False
  | .ior => match st with
    | .inl b :: .inl a :: r => J nx lv (vI (iI a ||| iI b).toInt :: r) h N k n
    | _ => False
  | .ixor => match st with
    | .inl b :: .inl a :: r => J nx lv (vI (iI a ^^^ iI b).toInt :: r) h N k n
    | _ => False
  | .ishl => match st with
    | .inl b :: .inl a :: r => J nx lv (vI (iI a <<< (iI b &&& 31)).toInt :: r) h N k n
    | _ => False
  | .ishr => match st with
    | .inl b :: .inl a :: r => J nx lv (vI (iI a >>> (iI b &&& 31)).toInt :: r) h N k n
    | _ => False
  | .ladd => match st with
    | .inr (.inl b) :: .inr (.inl a) :: r => J nx lv (vL (a + b) :: r) h N k n
    | _ => False
  | .lsub => match st with
    | .inr (.inl b) :: .inr (.inl a) :: r => J nx lv (vL (a - b) :: r) h N k n
    | _ => False
  | .lmul => match st with
    | .inr (.inl b) :: .inr (.inl a) :: r => J nx lv (vL (a * b) :: r) h N k n
    | _ => False
  | .ldiv => match st with
    | .inr (.inl b) :: .inr (.inl a) :: r => (¬ b = 0) ∧ J nx lv (vL (a / b) :: r) h N k n
    | _ => False
  | .lrem => match st with
    | .inr (.inl b) :: .inr (.inl a) :: r => (¬ b = 0) ∧ J nx lv (vL (a - a / b * b) :: r) h N k n
    | _ => False
  | .land => match st with
    | .inr (.inl b) :: .inr (.inl a) :: r => J nx lv (vL (a &&& b) :: r) h N k n
    | _ => False
  | .lor => match st with
    | .inr (.inl b) :: .inr (.inl a) :: r => J nx lv (vL (a ||| b) :: r) h N k n
    | _ => False
  | .lxor => match st with
    | .inr (.inl b) :: .inr (.inl a) :: r => J nx lv (vL (a ^^^ b) :: r) h N k n
    | _ => False
  | .lshl => match st with
    | .inl b :: .inr (.inl a) :: r => J nx lv (vL (a <<< ((iI b).toInt64 &&& 63)) :: r) h N k n
    | _ => False
  | .lshr => match st with
    | .inl b :: .inr (.inl a) :: r => J nx lv (vL (a >>> ((iI b).toInt64 &&& 63)) :: r) h N k n
    | _ => False
  | .lushr => match st with
    | .inl b :: .inr (.inl a) :: r => J nx lv (vL (a.toUInt64 >>> ((iI b).toInt64.toUInt64 &&& Int64.toUInt64 63)).toInt64 :: r) h N k n
    | _ => False
  | .lcmp => match st with
    | .inr (.inl b) :: .inr (.inl a) :: r => J nx lv (vI (lg_cmp a b).toInt :: r) h N k n
    | _ => False
  | .i2l => match st with
    | .inl a :: r => J nx lv (vL (iI a).toInt64 :: r) h N k n
    | _ => False
  | .l2i => match st with
    | .inr (.inl a) :: r => J nx lv (vI a.toInt32.toInt :: r) h N k n
    | _ => False
  | .dup => match st with
    | v :: r => aCat v = 1 ∧ J nx lv (v :: v :: r) h N k n
    | _ => False
  | .dup2 => match st with
    | v :: w :: r => (aCat v = 1 ∧ aCat w = 1) ∧ J nx lv (v :: w :: v :: w :: r) h N k n
    | _ => False
  | .pop => match st with
    | v :: r => aCat v = 1 ∧ J nx lv r h N k n
    | _ => False
  | .goto _ => match tg with
    | t :: _ => J t lv st h N k n
    | _ => False
  | .ifCond c _ => match tg, st with
    | t :: _, .inl a :: r => inR a ∧ (aCmp c a 0 → J t lv r h N k n) ∧ (¬ aCmp c a 0 → J nx lv r h N k n)
    | _, _ => False
  | .if_icmp c _ => match tg, st with
    | t :: _, .inl b :: .inl a :: r => (inR a ∧ inR b) ∧ (aCmp c a b → J t lv r h N k n) ∧ (¬ aCmp c a b → J nx lv r h N k n)
    | _, _ => False
  | .tableswitch _ lo hi _ => match tg, st with
    | t :: ts, .inl a :: r => inR a ∧ (a < lo ∨ hi < a → J t lv r h N k n) ∧ aSw (fun u => J u lv r h N k n) a lo ts
    | _, _ => False
  | .getfield x => match lk I.fld x, st with
    | some (ci, j), .inr (.inr (some a)) :: r => a < N ∧ ∃ fs v, h a = eO ci fs ∧ fs[j]? = some v ∧ J nx lv (v :: r) h N k n
    | _, _ => False
  | .putfield x => match lk I.fld x, st with
    | some (ci, j), v :: .inr (.inr (some a)) :: r => a < N ∧ ∃ fs, h a = eO ci fs ∧ j < fs.length ∧ aFit (aTy ci j) v ∧ J nx lv r (va_up h a (eO ci (fs.set j v))) N k n
    | _, _ => False
  | .iaload => match st with
    | .inl i :: .inr (.inr (some a)) :: r => aRd N a ∧ ∃ m f, h a = eI m f ∧ (0 ≤ i ∧ i < m ∧ m < 2147483648) ∧ J nx lv (vI (f i.toNat) :: r) h N k n
    | _ => False
  | .baload => match st with
    | .inl i :: .inr (.inr (some a)) :: r => a < N ∧ ∃ m f, h a = eZ m f ∧ (0 ≤ i ∧ i < m ∧ m < 2147483648) ∧ J nx lv (vI (f i.toNat) :: r) h N k n
    | _ => False
  | .laload => match st with
    | .inl i :: .inr (.inr (some a)) :: r => a < N ∧ ∃ m f, h a = eL m f ∧ (0 ≤ i ∧ i < m ∧ m < 2147483648) ∧ J nx lv (vL (f i.toNat) :: r) h N k n
    | _ => False
  | .aaload => match st with
    | .inl i :: .inr (.inr (some a)) :: r => a < N ∧ ∃ m f, h a = eR m f ∧ (0 ≤ i ∧ i < m ∧ m < 2147483648) ∧ J nx lv (vF (f i.toNat) :: r) h N k n
    | _ => False
  | .iastore => match st with
    | .inl x :: .inl i :: .inr (.inr (some a)) :: r => a < N ∧ ∃ m f, h a = eI m f ∧ (0 ≤ i ∧ i < m ∧ m < 2147483648) ∧ J nx lv r (va_up h a (eI m (va_up f i.toNat x))) N k n
    | _ => False
  | .bastore => match st with
    | .inl x :: .inl i :: .inr (.inr (some a)) :: r => a < N ∧ (x = 0 ∨ x = 1) ∧ ∃ m f, h a = eZ m f ∧ (0 ≤ i ∧ i < m ∧ m < 2147483648) ∧ J nx lv r (va_up h a (eZ m (va_up f i.toNat x))) N k n
    | _ => False
  | .lastore => match st with
    | .inr (.inl x) :: .inl i :: .inr (.inr (some a)) :: r => a < N ∧ ∃ m f, h a = eL m f ∧ (0 ≤ i ∧ i < m ∧ m < 2147483648) ∧ J nx lv r (va_up h a (eL m (va_up f i.toNat x))) N k n
    | _ => False
  | .aastore => match st with
    | .inr (.inr (some b)) :: .inl i :: .inr (.inr (some a)) :: r => a < N ∧ b < N ∧ (∃ vs, h b = eO 4 vs) ∧ ∃ m f, h a = eR m f ∧ (0 ≤ i ∧ i < m ∧ m < 2147483648) ∧ J nx lv r (va_up h a (eR m (va_up f i.toNat (some b)))) N k n
    | _ => False
  | .arraylength => match st with
    | .inr (.inr (some a)) :: r => aRd N a ∧ ∃ m f, h a = eI m f ∧ J nx lv (vI (m : Int) :: r) h N k n
    | _ => False
  | .getstatic _ => match tg with
    | t :: _ => J nx lv (vR t :: st) h N k n
    | _ => False
  | .new x => match lk I.thr pc with
    | some E => aCats st ≤ 8 ∧ k + 1 ≤ I.mc ∧ n + 6 ≤ I.ms ∧ I.hnd = [] ∧ Q (.inr E) h N
    | none => match lk I.cls x with
      | some ci => (N < aRO ∧ wfH N h ∧ wfS N lv st ∧ k + 1 ≤ I.mc ∧ n + aNf ci ≤ I.ms) ∧ J nx lv (vR N :: st) (va_up h N (eO ci (aFs ci))) (N + 1) (k + 1) (n + aNf ci)
      | none => False
  | .newarray t => match t, st with
    | .int, .inl a :: r => (0 ≤ a ∧ a < 100000 ∧ N < aRO ∧ wfH N h ∧ wfS N lv r ∧ k + 1 ≤ I.mc ∧ n + a.toNat ≤ I.ms) ∧ J nx lv (vR N :: r) (va_up h N (eI a.toNat (fun _ => 0))) (N + 1) (k + 1) (n + a.toNat)
    | .boolean, .inl a :: r => (0 ≤ a ∧ a < 100000 ∧ N < aRO ∧ wfH N h ∧ wfS N lv r ∧ k + 1 ≤ I.mc ∧ n + a.toNat ≤ I.ms) ∧ J nx lv (vR N :: r) (va_up h N (eZ a.toNat (fun _ => 0))) (N + 1) (k + 1) (n + a.toNat)
    | .long, .inl a :: r => (0 ≤ a ∧ a < 100000 ∧ N < aRO ∧ wfH N h ∧ wfS N lv r ∧ k + 1 ≤ I.mc ∧ n + a.toNat ≤ I.ms) ∧ J nx lv (vR N :: r) (va_up h N (eL a.toNat (fun _ => 0))) (N + 1) (k + 1) (n + a.toNat)
    | _, _ => False
  | .anewarray _ => match st with
    | .inl a :: r => (0 ≤ a ∧ a < 100000 ∧ N < aRO ∧ wfH N h ∧ wfS N lv r ∧ k + 1 ≤ I.mc ∧ n + a.toNat ≤ I.ms) ∧ J nx lv (vR N :: r) (va_up h N (eR a.toNat (fun _ => none))) (N + 1) (k + 1) (n + a.toNat)
    | _ => False
  | .invokevirtual x => match lk I.mth x with
    | some (y, 0, na, mc, ms, rc) => aRcv rc (st.take na).reverse h N ∧ aCall I C Q J true y na mc ms nx pc lv st h N k n
    | _ => False
  | .invokestatic x => match lk I.mth x with
    | some (_, 6, _, _, _, _) => match st with
      | .inl ln :: .inl dp :: .inr (.inr (some b)) :: .inl sp :: .inr (.inr (some a)) :: r => a < N ∧ b < N ∧ aCats r ≤ 8 ∧ ∃ m m' f g, h a = eI m f ∧ h b = eI m' g ∧ (0 ≤ sp ∧ 0 ≤ dp ∧ 0 ≤ ln ∧ sp + ln ≤ m ∧ dp + ln ≤ m' ∧ m < 2147483648 ∧ m' < 2147483648) ∧ J nx lv r (va_up h b (eI m' (aCpy f g sp.toNat dp.toNat ln.toNat))) N k n
      | _ => False
    | some (y, 1, na, mc, ms, _) => aCall I C Q J true y na mc ms nx pc lv st h N k n
    | some (y, 7, na, mc, ms, _) => aCall I C Q J true y na mc ms nx pc lv st h N k n
    | some (y, 3, na, mc, ms, _) => aCall I C Q J false y na mc ms nx pc lv st h N k n
    | _ => False
  | .invokespecial x => match lk I.mth x with
    | some (_, 5, _, _, _, _) => match st with
      | .inr (.inr (some _)) :: r => aCats r ≤ 8 ∧ J nx lv r h N k n
      | _ => False
    | some (y, 2, na, mc, ms, _) => aRecR (st.take na).reverse ∧ aCall I C Q J false y na mc ms nx pc lv st h N k n
    | some (y, 4, na, mc, ms, _) => aRecR (st.take na).reverse ∧ aCall I C Q J false y na mc ms nx pc lv st h N k n
    | _ => False
  | .ireturn => match st with
    | [.inl a] => (I.rt = 1 → a = 0 ∨ a = 1) ∧ Q (.inl (some (vI a))) h N ∧ k ≤ I.mc ∧ n ≤ I.ms
    | _ => False
  | .lreturn => match st with
    | [.inr (.inl a)] => Q (.inl (some (vL a))) h N ∧ k ≤ I.mc ∧ n ≤ I.ms
    | _ => False
  | .areturn => match st with
    | [.inr (.inr a)] => Q (.inl (some (vF a))) h N ∧ k ≤ I.mc ∧ n ≤ I.ms
    | _ => False
  | .return_ => match st with
    | [] => Q (.inl none) h N ∧ k ≤ I.mc ∧ n ≤ I.ms
    | _ => False
  | _ => False
def step (I : MI) (C : AC) (Q : AQ) (J : AJ) (pc : Nat) (lv : AL) (st : List AV) (h : AH) (N k n : Nat) : Prop := match lk I.code pc with
  | some (i, nx, tg) => stepI I C Q J i nx tg pc lv st h N k n
  | none => False
/-- closed under the step, and under forgetting locals -/
def Clo (I : MI) (C : AC) (Q : AQ) (J : AJ) : Prop := (∀ pc lv st h N k n, step I C Q J pc lv st h N k n → J pc lv st h N k n) ∧ ∀ pc lv lv' st h N k n, lv'.length = lv.length → (∀ i v, aLd lv' i = some v → aLd lv i = some v) → J pc lv' st h N k n → J pc lv st h N k n
/-- from here the method ends with Q -/
def Run (I : MI) (C : AC) (Q : AQ) (pc : Nat) (lv : AL) (st : List AV) (h : AH) (N k n : Nat) : Prop := ∀ J, Clo I C Q J → J pc lv st h N k n
/-- the first locals: a long takes two -/
def aArgs : List AV → AL
  | [] => []
  | .inr (.inl x) :: t => some (vL x) :: none :: aArgs t
  | v :: t => some v :: aArgs t
def aEnt (nL : Nat) (as : List AV) : AL := aArgs as ++ List.replicate (nL - (aArgs as).length) none
end
section
/-! ===== the small machine stands for the great one: values, worlds, locals ===== -/
/-- what is fixed for a whole run: the numbers of the objects' and of the four arrays' kinds, three addresses (script, two tables), the script, the first address that is the run's own -/
abbrev AEnv : Type := va_G × (ClassId × ClassId × ClassId × ClassId) × (Nat × Nat × Nat) × (Nat × (Nat → Int32)) × Nat
abbrev gD (E : AEnv) : va_G := E.1
abbrev gI (E : AEnv) : ClassId := E.2.1.1
abbrev gZ (E : AEnv) : ClassId := E.2.1.2.1
abbrev gJ (E : AEnv) : ClassId := E.2.1.2.2.1
abbrev gS (E : AEnv) : ClassId := E.2.1.2.2.2
abbrev gb (E : AEnv) : Nat := E.2.2.1.1
abbrev gr (E : AEnv) : Nat := E.2.2.1.2.1
abbrev gc (E : AEnv) : Nat := E.2.2.1.2.2
abbrev gL (E : AEnv) : Nat := E.2.2.2.1.1
abbrev gx (E : AEnv) : Nat → Int32 := E.2.2.2.1.2
abbrev g0 (E : AEnv) : Nat := E.2.2.2.2
abbrev gT (E : AEnv) : List (ClassId × FieldType) := [(gI E, .int), (gZ E, .boolean), (gJ E, .long), (gS E, .object RX6)]
def gA (E : AEnv) : Nat → Prop := fun q => g0 E ≤ q
def cv (ad : Nat → Nat) (v : AV) : Value := match v with
  | .inl z => .int (iI z)
  | .inr (.inl x) => .long x
  | .inr (.inr r) => va_rf (r.map ad)
def ce (E : AEnv) (ad : Nat → Nat) (e : AE) : va_E := match e with
  | .inl (ci, fs) => .inr (ci, fs.map (cv ad))
  | .inr (.inl (z, n, f)) => .inl (cond z (gZ E) (gI E), n, .inl (fun j => iI (f j)))
  | .inr (.inr (.inl (n, f))) => .inl (gJ E, n, .inr (.inl f))
  | .inr (.inr (.inr (n, f))) => .inl (gS E, n, .inr (.inr (.inr (.inr (fun j => (f j).map ad)))))
def wl (E : AEnv) (ad : Nat → Nat) (h : AH) (N : Nat) : va_W := (List.range N).map (fun k => (ad k, ce E ad (h k)))
def stepRows : Nat → Int := fun j => [-2, -2, -1, -1, 1, 1, 2, 2].getD j 0
def stepCols : Nat → Int := fun j => [-1, 1, -2, 2, -2, 2, -1, 1].getD j 0
theorem wl_get {E : AEnv} {ad : Nat → Nat} {h : AH} {N k : Nat} (hk : k < N) : (wl E ad h N)[k]? = some (ad k, ce E ad (h k)) := by simp [wl, hk]
theorem wl_set {E : AEnv} {ad : Nat → Nat} {h : AH} {N a : Nat} (e : AE) : (wl E ad h N).set a (ad a, ce E ad e) = wl E ad (va_up h a e) N := by
  apply List.ext_getElem?
  intro i
  by_cases hi : i < N
  · by_cases hia : i = a
    · subst hia
      rw [wl_get hi, List.getElem?_set_self (by simp [wl, hi]), va_up_self]
    · rw [wl_get hi, List.getElem?_set_ne (Ne.symm hia), wl_get hi, va_up_ne _ _ hia]
  · rw [List.getElem?_eq_none (by simp [wl]; omega), List.getElem?_eq_none (by simp [wl]; omega)]
theorem cv_wf {ad : Nat → Nat} {N q : Nat} {v : AV} (hN : N < aRO) (hv : wfV N v) : cv (va_up ad N q) v = cv ad v := by
  rcases v with z | x | r | r
  · rfl
  · rfl
  · rfl
  · show va_rf (some (va_up ad N q r)) = va_rf (some (ad r))
    rw [va_up_ne]
    have hv : r < N ∨ aRO ≤ r := hv
    omega
theorem ce_wf {E : AEnv} {ad : Nat → Nat} {N q : Nat} {e : AE} (hN : N < aRO) (hv : wfE N e) : ce E (va_up ad N q) e = ce E ad e := by
  rcases e with ⟨ci, fs⟩ | ⟨z, n, f⟩ | ⟨n, f⟩ | ⟨n, f⟩
  · have hv : ∀ v ∈ fs, wfV N v := hv
    show (Sum.inr (ci, fs.map (cv (va_up ad N q))) : va_E) = .inr (ci, fs.map (cv ad))
    rw [List.map_congr_left (fun v h => cv_wf hN (hv v h))]
  · rfl
  · rfl
  · have hv : ∀ j k, f j = some k → k < N ∨ aRO ≤ k := hv
    show (Sum.inl (gS E, n, .inr (.inr (.inr (.inr (fun j => (f j).map (va_up ad N q)))))) : va_E) = .inl (gS E, n, .inr (.inr (.inr (.inr (fun j => (f j).map ad)))))
    have : (fun j => (f j).map (va_up ad N q)) = (fun j => (f j).map ad) := by
      funext j
      cases hj : f j with
      | none => rfl
      | some r =>
        have := hv j r hj
        show some (va_up ad N q r) = some (ad r)
        rw [va_up_ne]
        omega
    rw [this]
theorem wl_push {E : AEnv} {ad : Nat → Nat} {h : AH} {N q : Nat} {e : AE} {x : va_E} (hN : N < aRO) (hw : wfH N h) (hx : x = ce E (va_up ad N q) e) : wl E ad h N ++ [(q, x)] = wl E (va_up ad N q) (va_up h N e) (N + 1) := by
  subst hx
  unfold wl
  rw [List.range_succ, List.map_append]
  congr 1
  · apply List.map_congr_left
    intro k hk
    have hk : k < N := List.mem_range.mp hk
    rw [va_up_ne _ _ (by omega), va_up_ne _ _ (by omega), ce_wf hN (hw k hk)]
  · simp [va_up_self]
theorem iI_add (a b : Int) : iI a + iI b = iI (a + b) := (Int32.ofInt_add a b).symm
theorem iI_sub (a b : Int) : iI a - iI b = iI (a - b) := (Int32.ofInt_sub a b).symm
theorem iI_mul (a b : Int) : iI a * iI b = iI (a * b) := (Int32.ofInt_mul a b).symm
theorem iI_toInt {a : Int} (h : inR a) : (iI a).toInt = a := by
  unfold iI
  rw [Int32.toInt_ofInt]
  have h1 := h.1
  have h2 := h.2
  have hs : (Int32.size : Int) = 4294967296 := rfl
  exact Int.bmod_eq_of_le (by omega) (by omega)
theorem iI_of (x : Int32) : iI x.toInt = x := Int32.ofInt_toInt x
theorem inR_of (x : Int32) : inR x.toInt := ⟨by have := Int32.minValue_le_toInt x; simpa using this, by have := Int32.toInt_lt x; simpa using this⟩
theorem iI_eq {a b : Int} (ha : inR a) (hb : inR b) : iI a = iI b ↔ a = b := by
  rw [← Int32.toInt_inj, iI_toInt ha, iI_toInt hb]
theorem iI_lt {a b : Int} (ha : inR a) (hb : inR b) : iI a < iI b ↔ a < b := by
  rw [Int32.lt_iff_toInt_lt, iI_toInt ha, iI_toInt hb]
theorem iI_le {a b : Int} (ha : inR a) (hb : inR b) : iI a ≤ iI b ↔ a ≤ b := by
  rw [Int32.le_iff_toInt_le, iI_toInt ha, iI_toInt hb]
theorem iI_nat (n : Nat) : iI (n : Int) = nI n := rfl
theorem iI_cl {i : Int} (h0 : 0 ≤ i) (h1 : i < 2147483648) : (iI i).toNatClampNeg = i.toNat := by
  show (iI i).toInt.toNat = i.toNat
  rw [iI_toInt ⟨by omega, h1⟩]
theorem iI_in {i : Int} {m : Nat} (h0 : 0 ≤ i) (h1 : i < m) (h2 : m < 2147483648) : vp_in (iI i) m := by
  have h3 : (iI i).toInt = i := iI_toInt ⟨by omega, by omega⟩
  rw [vp_in_iff, h3]
  exact ⟨h0, h1⟩
theorem inR_0 : inR 0 := ⟨by decide, by decide⟩
theorem iI_0 : iI 0 = 0 := rfl
theorem iI_div {a b : Int} (h0 : 0 ≤ a) (h1 : a < 2147483648) (h2 : 0 < b) (h3 : b < 2147483648) : iI a / iI b = iI (a / b) := by
  obtain ⟨x, rfl⟩ := Int.eq_ofNat_of_zero_le h0
  obtain ⟨y, rfl⟩ := Int.eq_ofNat_of_zero_le (Int.le_of_lt h2)
  rw [iI_nat, iI_nat, pk_div (by omega) (by omega) (by omega), ← iI_nat, Int.natCast_ediv]
theorem iI_rem {a b : Int} (h0 : 0 ≤ a) (h1 : a < 2147483648) (h2 : 0 < b) (h3 : b < 2147483648) : iI a - iI a / iI b * iI b = iI (a % b) := by
  obtain ⟨x, rfl⟩ := Int.eq_ofNat_of_zero_le h0
  obtain ⟨y, rfl⟩ := Int.eq_ofNat_of_zero_le (Int.le_of_lt h2)
  rw [iI_nat, iI_nat, pk_rem (by omega) (by omega) (by omega), ← iI_nat, Int.natCast_emod]
theorem iI_ne0 {b : Int} (h2 : 0 < b) (h3 : b < 2147483648) : ¬ iI b = 0 := by
  rw [← iI_0, iI_eq ⟨by omega, h3⟩ inR_0]
  omega
/-! locals -/
def lp (ad : Nat → Nat) (lv : AL) : List (Nat × Value) := (List.range lv.length).filterMap (fun i => (aLd lv i).map (fun v => (i, cv ad v)))
def Lh (ad : Nat → Nat) (ls : Array Slot) (nL : Nat) (lv : AL) : Prop := lv.length = nL ∧ lv_has ls nL (lp ad lv)
theorem aLd_lt {lv : AL} {i : Nat} {v : AV} (h : aLd lv i = some v) : i < lv.length := by
  rcases Nat.lt_or_ge i lv.length with q | q
  · exact q
  · unfold aLd at h
    rw [List.getD_eq_getElem?_getD, List.getElem?_eq_none q] at h
    cases h
theorem lp_mem {ad : Nat → Nat} {lv : AL} {i : Nat} {v : AV} (h : aLd lv i = some v) : (i, cv ad v) ∈ lp ad lv := by
  unfold lp
  rw [List.mem_filterMap]
  exact ⟨i, List.mem_range.mpr (aLd_lt h), by rw [h]; rfl⟩
theorem lp_of {ad : Nat → Nat} {lv : AL} {q : Nat × Value} (h : q ∈ lp ad lv) : ∃ v, aLd lv q.1 = some v ∧ q.2 = cv ad v := by
  unfold lp at h
  rw [List.mem_filterMap] at h
  obtain ⟨i, -, hi⟩ := h
  cases hv : aLd lv i with
  | none => rw [hv] at hi; cases hi
  | some v =>
    rw [hv] at hi
    cases hi
    exact ⟨v, hv, rfl⟩
theorem Lh.at {ad : Nat → Nat} {ls : Array Slot} {nL : Nat} {lv : AL} (h : Lh ad ls nL lv) {i : Nat} {v : AV} (hv : aLd lv i = some v) : ls[i]? = some (.val (cv ad v)) := h.2.2.2 _ (lp_mem hv)
theorem Lh.size {ad : Nat → Nat} {ls : Array Slot} {nL : Nat} {lv : AL} (h : Lh ad ls nL lv) : ls.size = nL := h.2.1
theorem Lh.less {ad : Nat → Nat} {ls : Array Slot} {nL : Nat} {lv lv' : AL} (h : Lh ad ls nL lv) (hl : lv'.length = lv.length) (hs : ∀ i v, aLd lv' i = some v → aLd lv i = some v) : Lh ad ls nL lv' := by
  refine ⟨hl.trans h.1, h.2.1, h.2.2.1, fun q hq => ?_⟩
  obtain ⟨v, h1, h2⟩ := lp_of hq
  rw [h2]
  exact h.at (hs _ _ h1)
theorem Lh.moved {ad ad' : Nat → Nat} {ls : Array Slot} {nL : Nat} {lv : AL} (h : Lh ad ls nL lv) (hs : ∀ i v, aLd lv i = some v → cv ad' v = cv ad v) : Lh ad' ls nL lv := by
  refine ⟨h.1, h.2.1, h.2.2.1, fun q hq => ?_⟩
  obtain ⟨v, h1, h2⟩ := lp_of hq
  rw [h2, hs _ _ h1]
  exact h.at h1
theorem aKill_len (i : Nat) (lv : AL) : (aKill i lv).length = lv.length := by
  unfold aKill
  split
  · rfl
  · split
    · simp
    · rfl
theorem aSt_len (i : Nat) (v : AV) (lv : AL) : (aSt i v lv).length = lv.length := by simp [aSt, aKill_len]
theorem aSt2_len (i : Nat) (v : AV) (lv : AL) : (aSt2 i v lv).length = lv.length := by simp [aSt2, aSt_len]
theorem aUn_len (i : Nat) (lv : AL) : (aUn i lv).length = lv.length := by simp [aUn, aKill_len]
theorem aLd_set {lv : AL} {i j : Nat} {o : Option AV} {v : AV} (h : aLd (lv.set i o) j = some v) : (j = i ∧ o = some v) ∨ (j ≠ i ∧ aLd lv j = some v) := by
  have hl := aLd_lt h
  rw [List.length_set] at hl
  unfold aLd at h ⊢
  rw [List.getD_eq_getElem?_getD] at h ⊢
  by_cases hij : j = i
  · subst hij
    rw [List.getElem?_set_self hl] at h
    exact Or.inl ⟨rfl, h⟩
  · rw [List.getElem?_set_ne (Ne.symm hij)] at h
    exact Or.inr ⟨hij, h⟩
theorem aKill_ld {lv : AL} {i j : Nat} {v : AV} (h : aLd (aKill i lv) j = some v) : aLd lv j = some v ∧ (j + 1 = i → aCat v = 1) := by
  unfold aKill at h
  split at h
  · exact ⟨h, fun q => by omega⟩
  · rename_i i
    split at h
    · rcases aLd_set h with ⟨-, h2⟩ | ⟨h1, h2⟩
      · cases h2
      · exact ⟨h2, fun q => by omega⟩
    · rename_i h9
      refine ⟨h, fun q => ?_⟩
      have hj : j = i := by omega
      subst hj
      rcases v with z | x | r
      · rfl
      · exact absurd h (h9 x)
      · rfl
theorem cat_cv (ad : Nat → Nat) (v : AV) : (cv ad v).category = aCat v := by
  rcases v with z | x | r | r <;> rfl
theorem cats_cv (ad : Nat → Nat) (st : List AV) : ((st.map (cv ad)).map fun v => v.category).sum = aCats st := by
  induction st with
  | nil => rfl
  | cons v t ih =>
    simp only [List.map_cons, List.sum_cons, aCats]
    rw [ih, cat_cv]
theorem Lh.st {ad : Nat → Nat} {ls : Array Slot} {nL : Nat} {lv : AL} {i : Nat} {v : AV} (hl : lv.length = nL) (h : lv_has ls nL ((i, cv ad v) :: (lp ad lv).filter (fun q => !(q.1 == i) && !(q.1 + 1 == i && q.2.category == 2)))) : Lh ad ls nL (aSt i v lv) := by
  refine ⟨(aSt_len _ _ _).trans hl, h.1, h.2.1, fun q hq => ?_⟩
  obtain ⟨w, h1, h2⟩ := lp_of hq
  rcases aLd_set h1 with ⟨e1, e2⟩ | ⟨e1, e2⟩
  · cases e2
    have := h.2.2 (i, cv ad v) List.mem_cons_self
    rw [h2, e1]
    exact this
  · obtain ⟨g1, g2⟩ := aKill_ld e2
    have := h.2.2 (q.1, cv ad w) (List.mem_cons_of_mem _ (List.mem_filter.mpr ⟨lp_mem g1, by
      have hc := cat_cv ad w
      by_cases hq1 : q.1 + 1 = i
      · have := g2 hq1
        simp [e1, hc, this]
      · simp [e1, hq1]⟩))
    rw [h2]
    exact this
theorem Lh.st2 {ad : Nat → Nat} {ls : Array Slot} {nL : Nat} {lv : AL} {i : Nat} {v : AV} (hl : lv.length = nL) (h : lv_has ls nL ((i, cv ad v) :: (lp ad lv).filter (fun q => !(q.1 == i) && (!(q.1 == i + 1) && !(q.1 + 1 == i && q.2.category == 2))))) : Lh ad ls nL (aSt2 i v lv) := by
  refine ⟨(aSt2_len _ _ _).trans hl, h.1, h.2.1, fun q hq => ?_⟩
  obtain ⟨w, h1, h2⟩ := lp_of hq
  rcases aLd_set h1 with ⟨-, e2⟩ | ⟨e0, h1⟩
  · cases e2
  rcases aLd_set h1 with ⟨e1, e2⟩ | ⟨e1, e2⟩
  · cases e2
    have := h.2.2 (i, cv ad v) List.mem_cons_self
    rw [h2, e1]
    exact this
  · obtain ⟨g1, g2⟩ := aKill_ld e2
    have := h.2.2 (q.1, cv ad w) (List.mem_cons_of_mem _ (List.mem_filter.mpr ⟨lp_mem g1, by
      have hc := cat_cv ad w
      by_cases hq1 : q.1 + 1 = i
      · have := g2 hq1
        simp [e1, e0, hc, this]
      · simp [e1, e0, hq1]⟩))
    rw [h2]
    exact this
/-- the slot of a value that nobody speaks of -/
theorem Lh.un {ad : Nat → Nat} {ls : Array Slot} {nL : Nat} {lv : AL} {i : Nat} {x : Value} (hl : lv.length = nL) (h : lv_has ls nL ((i, x) :: (lp ad lv).filter (fun q => !(q.1 == i) && !(q.1 + 1 == i && q.2.category == 2)))) : Lh ad ls nL (aUn i lv) := by
  refine ⟨(aUn_len _ _).trans hl, h.1, h.2.1, fun q hq => ?_⟩
  obtain ⟨w, h1, h2⟩ := lp_of hq
  rcases aLd_set h1 with ⟨e1, e2⟩ | ⟨e1, e2⟩
  · cases e2
  · obtain ⟨g1, g2⟩ := aKill_ld e2
    have := h.2.2 (q.1, cv ad w) (List.mem_cons_of_mem _ (List.mem_filter.mpr ⟨lp_mem g1, by
      have hc := cat_cv ad w
      by_cases hq1 : q.1 + 1 = i
      · have := g2 hq1
        simp [e1, hc, this]
      · simp [e1, hq1]⟩))
    rw [h2]
    exact this
end
section
/-! ===== one row an instruction: the small machine's step is the great one's ===== -/
def wG : List Jvm.Cond := lw_tbl.filter goodWord
def RelS (E : AEnv) (ad : Nat → Nat) (h : AH) (N : Nat) (H : Heap) : Prop :=
  va_P (gD E) vwCl (wl E ad h N) H ∧ va_D (gA E) (wl E ad h N) ∧ N ≤ aRO ∧ ad aRO = gb E ∧ ad (aRO + 1) = gr E ∧ ad (aRO + 2) = gc E ∧ h aRO = eI (gL E) (fun j => (gx E j).toInt) ∧ h (aRO + 1) = eI 8 stepRows ∧ h (aRO + 2) = eI 8 stepCols
def Rel (E : AEnv) (s : State) (ad0 : Nat → Nat) (N0 : Nat) (ad : Nat → Nat) (h : AH) (N : Nat) (H : Heap) (locs : List Loc) : Prop :=
  RelS E ad h N H ∧ va_S (gA E) s.heap H locs ∧ N0 ≤ N ∧ ∀ k, k < N0 ∨ N ≤ k → ad k = ad0 k
/-- what is read off the start and never changes: the heap's part -/
def AmbH (E : AEnv) (s : State) : Prop :=
  g0 E ≤ s.heap.size ∧ (va_X (gb E) (gL E) (gx E) s s.heap ∧ gb E < s.heap.size ∧ ¬ gA E (gb E)) ∧ va_T .int (gr E) 8 (fun j => .int (iI (stepRows j))) (gA E) s s.heap ∧ va_T .int (gc E) 8 (fun j => .int (iI (stepCols j))) (gA E) s s.heap
def amJ (p : Program) (l : Launch) (e : Env) (R : Room) (s : State) (m : MethodId) (args : Array Value) (below : List Frame) (meth : Method) (c : Code) (Qf : State → Prop) (E : AEnv) (ad0 : Nat → Nat) (N0 nL : Nat) : AJ := fun pc lv st h N k n =>
  ∀ (ad : Nat → Nat) (H : Heap) (locs : List Loc) (ls : Array Slot), Rel E s ad0 N0 ad h N H locs → Lh ad ls nL lv → W p l e R s m args below meth c H locs k n Qf (F0 m pc ls (st.map (cv ad)))
section AMR
variable {p : Program} {l : Launch} {e : Env} {R : Room} {s : State} {m : MethodId} {args : Array Value} {below : List Frame} {meth : Method} {c : Code} {Qf : State → Prop}
variable {cc : ByteArray} {E : AEnv} {ad0 : Nat → Nat} {N0 nL pc : Nat} {lv : AL} {st r : List AV} {h : AH} {N k n : Nat}
theorem r_iconst (hx : p.tables.exec = Jvm.exec) (hb : c.code = cc) {z : Int} (hd : decode cc pc = .ok (.iconst z, 1)) (hj : amJ p l e R s m args below meth c Qf E ad0 N0 nL (pc + 1) lv (vI z :: st) h N k n) : amJ p l e R s m args below meth c Qf E ad0 N0 nL pc lv st h N k n := by
  intro ad H locs ls hR hL
  exact lv_iconst hx hb hd rfl (hj ad H locs ls hR hL)
theorem r_bipush (hx : p.tables.exec = Jvm.exec) (hb : c.code = cc) {z : Int} (hd : decode cc pc = .ok (.bipush z, 2)) (hz : (Int8.ofInt z).toInt32 = iI z) (hj : amJ p l e R s m args below meth c Qf E ad0 N0 nL (pc + 2) lv (vI z :: st) h N k n) : amJ p l e R s m args below meth c Qf E ad0 N0 nL pc lv st h N k n := by
  intro ad H locs ls hR hL
  exact lv_bipush hx hb hd hz (hj ad H locs ls hR hL)
theorem r_sipush (hx : p.tables.exec = Jvm.exec) (hb : c.code = cc) {z : Int} (hd : decode cc pc = .ok (.sipush z, 3)) (hz : (Int16.ofInt z).toInt32 = iI z) (hj : amJ p l e R s m args below meth c Qf E ad0 N0 nL (pc + 3) lv (vI z :: st) h N k n) : amJ p l e R s m args below meth c Qf E ad0 N0 nL pc lv st h N k n := by
  intro ad H locs ls hR hL
  exact lv_sipush hx hb hd hz (hj ad H locs ls hR hL)
theorem r_lconst (hx : p.tables.exec = Jvm.exec) (hb : c.code = cc) {z : Fin 2} (hd : decode cc pc = .ok (.lconst z, 1)) (hj : amJ p l e R s m args below meth c Qf E ad0 N0 nL (pc + 1) lv (vL (Int64.ofNat z) :: st) h N k n) : amJ p l e R s m args below meth c Qf E ad0 N0 nL pc lv st h N k n := by
  intro ad H locs ls hR hL
  exact lv_lconst hx hb hd rfl (hj ad H locs ls hR hL)
theorem r_ldc (hx : p.tables.exec = Jvm.exec) (hb : c.code = cc) {own : String} (hown : s.vm.findClass own = some m.cls) {x : Nat} {v : Int32} (hw : (Jvm.Cond.constant own x v).before args s = true) (hd : decode cc pc = .ok (.ldc x, 2)) (hj : amJ p l e R s m args below meth c Qf E ad0 N0 nL (pc + 2) lv (vI v.toInt :: st) h N k n) : amJ p l e R s m args below meth c Qf E ad0 N0 nL pc lv st h N k n := by
  intro ad H locs ls hR hL
  refine lv_ldc hx hb hown hw hd ?_
  have := hj ad H locs ls hR hL
  simp only [List.map_cons, cv, iI_of] at this
  exact this
theorem r_ldc2 (hx : p.tables.exec = Jvm.exec) (hb : c.code = cc) {own : String} (hown : s.vm.findClass own = some m.cls) {x : Nat} {v : Int64} (hw : (Jvm.Cond.constantLong own x v).before args s = true) (hd : decode cc pc = .ok (.ldc2_w x, 3)) (hj : amJ p l e R s m args below meth c Qf E ad0 N0 nL (pc + 3) lv (vL v :: st) h N k n) : amJ p l e R s m args below meth c Qf E ad0 N0 nL pc lv st h N k n := by
  intro ad H locs ls hR hL
  exact lv_ldc2 hx hb hown hw hd (hj ad H locs ls hR hL)
theorem r_iload (hx : p.tables.exec = Jvm.exec) (hb : c.code = cc) {i : Nat} {z : Int} (hd : decode cc pc = .ok (.iload i, 2)) (hv : aLd lv i = some (.inl z)) (hj : amJ p l e R s m args below meth c Qf E ad0 N0 nL (pc + 2) lv (vI z :: st) h N k n) : amJ p l e R s m args below meth c Qf E ad0 N0 nL pc lv st h N k n := by
  intro ad H locs ls hR hL
  exact lv_iload hx hb hd (hL.at hv) (hj ad H locs ls hR hL)
theorem r_iload_n (hx : p.tables.exec = Jvm.exec) (hb : c.code = cc) {i : Fin 4} {z : Int} (hd : decode cc pc = .ok (.iload_n i, 1)) (hv : aLd lv i = some (.inl z)) (hj : amJ p l e R s m args below meth c Qf E ad0 N0 nL (pc + 1) lv (vI z :: st) h N k n) : amJ p l e R s m args below meth c Qf E ad0 N0 nL pc lv st h N k n := by
  intro ad H locs ls hR hL
  exact lv_iload_n hx hb hd rfl (hL.at hv) (hj ad H locs ls hR hL)
theorem r_lload (hx : p.tables.exec = Jvm.exec) (hb : c.code = cc) {i : Nat} {z : Int64} (hd : decode cc pc = .ok (.lload i, 2)) (hv : aLd lv i = some (.inr (.inl z))) (hj : amJ p l e R s m args below meth c Qf E ad0 N0 nL (pc + 2) lv (vL z :: st) h N k n) : amJ p l e R s m args below meth c Qf E ad0 N0 nL pc lv st h N k n := by
  intro ad H locs ls hR hL
  exact lv_lload hx hb hd (hL.at hv) (hj ad H locs ls hR hL)
theorem r_lload_n (hx : p.tables.exec = Jvm.exec) (hb : c.code = cc) {i : Fin 4} {z : Int64} (hd : decode cc pc = .ok (.lload_n i, 1)) (hv : aLd lv i = some (.inr (.inl z))) (hj : amJ p l e R s m args below meth c Qf E ad0 N0 nL (pc + 1) lv (vL z :: st) h N k n) : amJ p l e R s m args below meth c Qf E ad0 N0 nL pc lv st h N k n := by
  intro ad H locs ls hR hL
  exact lv_lload_n hx hb hd rfl (hL.at hv) (hj ad H locs ls hR hL)
theorem r_aload (hx : p.tables.exec = Jvm.exec) (hb : c.code = cc) {i z : Nat} (hd : decode cc pc = .ok (.aload i, 2)) (hv : aLd lv i = some (vR z)) (hj : amJ p l e R s m args below meth c Qf E ad0 N0 nL (pc + 2) lv (vR z :: st) h N k n) : amJ p l e R s m args below meth c Qf E ad0 N0 nL pc lv st h N k n := by
  intro ad H locs ls hR hL
  exact lv_aload hx hb hd (hL.at hv) (hj ad H locs ls hR hL)
theorem r_aload_n (hx : p.tables.exec = Jvm.exec) (hb : c.code = cc) {i : Fin 4} {z : Nat} (hd : decode cc pc = .ok (.aload_n i, 1)) (hv : aLd lv i = some (vR z)) (hj : amJ p l e R s m args below meth c Qf E ad0 N0 nL (pc + 1) lv (vR z :: st) h N k n) : amJ p l e R s m args below meth c Qf E ad0 N0 nL pc lv st h N k n := by
  intro ad H locs ls hR hL
  exact lv_aload_n hx hb hd rfl (hL.at hv) (hj ad H locs ls hR hL)
theorem r_istore (hx : p.tables.exec = Jvm.exec) (hb : c.code = cc) {i : Nat} {z : Int} (hi : i < nL) (hd : decode cc pc = .ok (.istore i, 2)) (hj : amJ p l e R s m args below meth c Qf E ad0 N0 nL (pc + 2) (aSt i (vI z) lv) r h N k n) : amJ p l e R s m args below meth c Qf E ad0 N0 nL pc lv (vI z :: r) h N k n := by
  intro ad H locs ls hR hL
  exact lv_istore hx hb hd hL.2 hi rfl (fun ls' hl' => hj ad H locs ls' hR (Lh.st (v := vI z) hL.1 hl'))
theorem r_istore_n (hx : p.tables.exec = Jvm.exec) (hb : c.code = cc) {i : Fin 4} {z : Int} (hi : (i : Nat) < nL) (hd : decode cc pc = .ok (.istore_n i, 1)) (hj : amJ p l e R s m args below meth c Qf E ad0 N0 nL (pc + 1) (aSt i (vI z) lv) r h N k n) : amJ p l e R s m args below meth c Qf E ad0 N0 nL pc lv (vI z :: r) h N k n := by
  intro ad H locs ls hR hL
  exact lv_istore_n hx hb hd rfl hL.2 hi rfl (fun ls' hl' => hj ad H locs ls' hR (Lh.st (v := vI z) hL.1 hl'))
theorem r_lstore (hx : p.tables.exec = Jvm.exec) (hb : c.code = cc) {i : Nat} {z : Int64} (hi : i + 1 < nL) (hd : decode cc pc = .ok (.lstore i, 2)) (hj : amJ p l e R s m args below meth c Qf E ad0 N0 nL (pc + 2) (aSt2 i (vL z) lv) r h N k n) : amJ p l e R s m args below meth c Qf E ad0 N0 nL pc lv (vL z :: r) h N k n := by
  intro ad H locs ls hR hL
  exact lv_lstore hx hb hd hL.2 hi rfl (fun ls' hl' => hj ad H locs ls' hR (Lh.st2 (v := vL z) hL.1 hl'))
theorem r_lstore_n (hx : p.tables.exec = Jvm.exec) (hb : c.code = cc) {i : Fin 4} {z : Int64} (hi : (i : Nat) + 1 < nL) (hd : decode cc pc = .ok (.lstore_n i, 1)) (hj : amJ p l e R s m args below meth c Qf E ad0 N0 nL (pc + 1) (aSt2 i (vL z) lv) r h N k n) : amJ p l e R s m args below meth c Qf E ad0 N0 nL pc lv (vL z :: r) h N k n := by
  intro ad H locs ls hR hL
  exact lv_lstore_n hx hb hd rfl hL.2 hi rfl (fun ls' hl' => hj ad H locs ls' hR (Lh.st2 (v := vL z) hL.1 hl'))
theorem r_astore (hx : p.tables.exec = Jvm.exec) (hb : c.code = cc) {i z : Nat} (hi : i < nL) (hd : decode cc pc = .ok (.astore i, 2)) (hj : amJ p l e R s m args below meth c Qf E ad0 N0 nL (pc + 2) (aSt i (vR z) lv) r h N k n) : amJ p l e R s m args below meth c Qf E ad0 N0 nL pc lv (vR z :: r) h N k n := by
  intro ad H locs ls hR hL
  exact lv_astore hx hb hd hL.2 hi rfl (fun ls' hl' => hj ad H locs ls' hR (Lh.st (v := vR z) hL.1 hl'))
theorem r_astore_n (hx : p.tables.exec = Jvm.exec) (hb : c.code = cc) {i : Fin 4} {z : Nat} (hi : (i : Nat) < nL) (hd : decode cc pc = .ok (.astore_n i, 1)) (hj : amJ p l e R s m args below meth c Qf E ad0 N0 nL (pc + 1) (aSt i (vR z) lv) r h N k n) : amJ p l e R s m args below meth c Qf E ad0 N0 nL pc lv (vR z :: r) h N k n := by
  intro ad H locs ls hR hL
  exact lv_astore_n hx hb hd rfl hL.2 hi rfl (fun ls' hl' => hj ad H locs ls' hR (Lh.st (v := vR z) hL.1 hl'))
theorem r_iinc (hx : p.tables.exec = Jvm.exec) (hb : c.code = cc) {i : Nat} {z y : Int} (hd : decode cc pc = .ok (.iinc i y, 3)) (hv : aLd lv i = some (.inl z)) (hj : amJ p l e R s m args below meth c Qf E ad0 N0 nL (pc + 3) (aSt i (vI (z + y)) lv) st h N k n) : amJ p l e R s m args below meth c Qf E ad0 N0 nL pc lv st h N k n := by
  intro ad H locs ls hR hL
  obtain ⟨q, hq⟩ := List.getElem?_of_mem (lp_mem (ad := ad) hv)
  have hi : i < nL := by rw [← hL.1]; exact aLd_lt hv
  exact lv_iinc (v := iI (z + y)) hx hb hd hL.2 hq (iI_add z y) hi rfl (fun ls' hl' => hj ad H locs ls' hR (Lh.st (v := vI (z + y)) hL.1 hl'))
theorem r_iadd (hx : p.tables.exec = Jvm.exec) (hb : c.code = cc) {a b : Int} (hd : decode cc pc = .ok (.iadd, 1)) (hj : amJ p l e R s m args below meth c Qf E ad0 N0 nL (pc + 1) lv (vI (a + b) :: r) h N k n) : amJ p l e R s m args below meth c Qf E ad0 N0 nL pc lv (vI b :: vI a :: r) h N k n := by
  intro ad H locs ls hR hL
  refine lv_iadd (x := iI a) (y := iI b) hx hb hd ?_
  rw [iI_add]
  exact hj ad H locs ls hR hL
theorem r_isub (hx : p.tables.exec = Jvm.exec) (hb : c.code = cc) {a b : Int} (hd : decode cc pc = .ok (.isub, 1)) (hj : amJ p l e R s m args below meth c Qf E ad0 N0 nL (pc + 1) lv (vI (a - b) :: r) h N k n) : amJ p l e R s m args below meth c Qf E ad0 N0 nL pc lv (vI b :: vI a :: r) h N k n := by
  intro ad H locs ls hR hL
  refine lv_isub (x := iI a) (y := iI b) hx hb hd ?_
  rw [iI_sub]
  exact hj ad H locs ls hR hL
theorem r_imul (hx : p.tables.exec = Jvm.exec) (hb : c.code = cc) {a b : Int} (hd : decode cc pc = .ok (.imul, 1)) (hj : amJ p l e R s m args below meth c Qf E ad0 N0 nL (pc + 1) lv (vI (a * b) :: r) h N k n) : amJ p l e R s m args below meth c Qf E ad0 N0 nL pc lv (vI b :: vI a :: r) h N k n := by
  intro ad H locs ls hR hL
  refine lv_imul (x := iI a) (y := iI b) hx hb hd ?_
  rw [iI_mul]
  exact hj ad H locs ls hR hL
theorem r_idiv (hx : p.tables.exec = Jvm.exec) (hb : c.code = cc) {a b : Int} (hd : decode cc pc = .ok (.idiv, 1)) (hc : 0 ≤ a ∧ a < 2147483648 ∧ 0 < b ∧ b < 2147483648) (hj : amJ p l e R s m args below meth c Qf E ad0 N0 nL (pc + 1) lv (vI (a / b) :: r) h N k n) : amJ p l e R s m args below meth c Qf E ad0 N0 nL pc lv (vI b :: vI a :: r) h N k n := by
  intro ad H locs ls hR hL
  refine lv_idiv (x := iI a) (y := iI b) hx hb hd (iI_ne0 hc.2.2.1 hc.2.2.2) ?_
  rw [iI_div hc.1 hc.2.1 hc.2.2.1 hc.2.2.2]
  exact hj ad H locs ls hR hL
theorem r_irem (hx : p.tables.exec = Jvm.exec) (hb : c.code = cc) {a b : Int} (hd : decode cc pc = .ok (.irem, 1)) (hc : 0 ≤ a ∧ a < 2147483648 ∧ 0 < b ∧ b < 2147483648) (hj : amJ p l e R s m args below meth c Qf E ad0 N0 nL (pc + 1) lv (vI (a % b) :: r) h N k n) : amJ p l e R s m args below meth c Qf E ad0 N0 nL pc lv (vI b :: vI a :: r) h N k n := by
  intro ad H locs ls hR hL
  refine lv_irem (x := iI a) (y := iI b) hx hb hd (iI_ne0 hc.2.2.1 hc.2.2.2) ?_
  rw [iI_rem hc.1 hc.2.1 hc.2.2.1 hc.2.2.2]
  exact hj ad H locs ls hR hL
theorem r_iand (hx : p.tables.exec = Jvm.exec) (hb : c.code = cc) {a b : Int} (hd : decode cc pc = .ok (.iand, 1)) (hj : amJ p l e R s m args below meth c Qf E ad0 N0 nL (pc + 1) lv (vI (iI a &&& iI b).toInt :: r) h N k n) : amJ p l e R s m args below meth c Qf E ad0 N0 nL pc lv (vI b :: vI a :: r) h N k n := by
  intro ad H locs ls hR hL
  refine lv_iand (x := iI a) (y := iI b) hx hb hd ?_
  rw [← iI_of (iI a &&& iI b)]
  exact hj ad H locs ls hR hL
theorem r_ior (hx : p.tables.exec = Jvm.exec) (hb : c.code = cc) {a b : Int} (hd : decode cc pc = .ok (.ior, 1)) (hj : amJ p l e R s m args below meth c Qf E ad0 N0 nL (pc + 1) lv (vI (iI a ||| iI b).toInt :: r) h N k n) : amJ p l e R s m args below meth c Qf E ad0 N0 nL pc lv (vI b :: vI a :: r) h N k n := by
  intro ad H locs ls hR hL
  refine lv_ior (x := iI a) (y := iI b) hx hb hd ?_
  rw [← iI_of (iI a ||| iI b)]
  exact hj ad H locs ls hR hL
theorem r_ixor (hx : p.tables.exec = Jvm.exec) (hb : c.code = cc) {a b : Int} (hd : decode cc pc = .ok (.ixor, 1)) (hj : amJ p l e R s m args below meth c Qf E ad0 N0 nL (pc + 1) lv (vI (iI a ^^^ iI b).toInt :: r) h N k n) : amJ p l e R s m args below meth c Qf E ad0 N0 nL pc lv (vI b :: vI a :: r) h N k n := by
  intro ad H locs ls hR hL
  refine lv_ixor (x := iI a) (y := iI b) hx hb hd ?_
  rw [← iI_of (iI a ^^^ iI b)]
  exact hj ad H locs ls hR hL
theorem r_ishl (hx : p.tables.exec = Jvm.exec) (hb : c.code = cc) {a b : Int} (hd : decode cc pc = .ok (.ishl, 1)) (hj : amJ p l e R s m args below meth c Qf E ad0 N0 nL (pc + 1) lv (vI (iI a <<< (iI b &&& 31)).toInt :: r) h N k n) : amJ p l e R s m args below meth c Qf E ad0 N0 nL pc lv (vI b :: vI a :: r) h N k n := by
  intro ad H locs ls hR hL
  refine lv_ishl (x := iI a) (y := iI b) hx hb hd ?_
  rw [← iI_of (iI a <<< (iI b &&& 31))]
  exact hj ad H locs ls hR hL
theorem r_ishr (hx : p.tables.exec = Jvm.exec) (hb : c.code = cc) {a b : Int} (hd : decode cc pc = .ok (.ishr, 1)) (hj : amJ p l e R s m args below meth c Qf E ad0 N0 nL (pc + 1) lv (vI (iI a >>> (iI b &&& 31)).toInt :: r) h N k n) : amJ p l e R s m args below meth c Qf E ad0 N0 nL pc lv (vI b :: vI a :: r) h N k n := by
  intro ad H locs ls hR hL
  refine lv_ishr (x := iI a) (y := iI b) hx hb hd ?_
  rw [← iI_of (iI a >>> (iI b &&& 31))]
  exact hj ad H locs ls hR hL
theorem r_ladd (hx : p.tables.exec = Jvm.exec) (hb : c.code = cc) {a b : Int64} (hd : decode cc pc = .ok (.ladd, 1)) (hj : amJ p l e R s m args below meth c Qf E ad0 N0 nL (pc + 1) lv (vL (a + b) :: r) h N k n) : amJ p l e R s m args below meth c Qf E ad0 N0 nL pc lv (vL b :: vL a :: r) h N k n := by
  intro ad H locs ls hR hL
  exact lv_ladd hx hb hd (hj ad H locs ls hR hL)
theorem r_lsub (hx : p.tables.exec = Jvm.exec) (hb : c.code = cc) {a b : Int64} (hd : decode cc pc = .ok (.lsub, 1)) (hj : amJ p l e R s m args below meth c Qf E ad0 N0 nL (pc + 1) lv (vL (a - b) :: r) h N k n) : amJ p l e R s m args below meth c Qf E ad0 N0 nL pc lv (vL b :: vL a :: r) h N k n := by
  intro ad H locs ls hR hL
  exact lv_lsub hx hb hd (hj ad H locs ls hR hL)
theorem r_lmul (hx : p.tables.exec = Jvm.exec) (hb : c.code = cc) {a b : Int64} (hd : decode cc pc = .ok (.lmul, 1)) (hj : amJ p l e R s m args below meth c Qf E ad0 N0 nL (pc + 1) lv (vL (a * b) :: r) h N k n) : amJ p l e R s m args below meth c Qf E ad0 N0 nL pc lv (vL b :: vL a :: r) h N k n := by
  intro ad H locs ls hR hL
  exact lv_lmul hx hb hd (hj ad H locs ls hR hL)
theorem r_ldiv (hx : p.tables.exec = Jvm.exec) (hb : c.code = cc) {a b : Int64} (hd : decode cc pc = .ok (.ldiv, 1)) (hn : ¬ b = 0) (hj : amJ p l e R s m args below meth c Qf E ad0 N0 nL (pc + 1) lv (vL (a / b) :: r) h N k n) : amJ p l e R s m args below meth c Qf E ad0 N0 nL pc lv (vL b :: vL a :: r) h N k n := by
  intro ad H locs ls hR hL
  exact lv_ldiv hx hb hd hn (hj ad H locs ls hR hL)
theorem r_lrem (hx : p.tables.exec = Jvm.exec) (hb : c.code = cc) {a b : Int64} (hd : decode cc pc = .ok (.lrem, 1)) (hn : ¬ b = 0) (hj : amJ p l e R s m args below meth c Qf E ad0 N0 nL (pc + 1) lv (vL (a - a / b * b) :: r) h N k n) : amJ p l e R s m args below meth c Qf E ad0 N0 nL pc lv (vL b :: vL a :: r) h N k n := by
  intro ad H locs ls hR hL
  exact lv_lrem hx hb hd hn (hj ad H locs ls hR hL)
theorem r_land (hx : p.tables.exec = Jvm.exec) (hb : c.code = cc) {a b : Int64} (hd : decode cc pc = .ok (.land, 1)) (hj : amJ p l e R s m args below meth c Qf E ad0 N0 nL (pc + 1) lv (vL (a &&& b) :: r) h N k n) : amJ p l e R s m args below meth c Qf E ad0 N0 nL pc lv (vL b :: vL a :: r) h N k n := by
  intro ad H locs ls hR hL
  exact lv_land hx hb hd (hj ad H locs ls hR hL)
theorem r_lor (hx : p.tables.exec = Jvm.exec) (hb : c.code = cc) {a b : Int64} (hd : decode cc pc = .ok (.lor, 1)) (hj : amJ p l e R s m args below meth c Qf E ad0 N0 nL (pc + 1) lv (vL (a ||| b) :: r) h N k n) : amJ p l e R s m args below meth c Qf E ad0 N0 nL pc lv (vL b :: vL a :: r) h N k n := by
  intro ad H locs ls hR hL
  exact lv_lor hx hb hd (hj ad H locs ls hR hL)
theorem r_lxor (hx : p.tables.exec = Jvm.exec) (hb : c.code = cc) {a b : Int64} (hd : decode cc pc = .ok (.lxor, 1)) (hj : amJ p l e R s m args below meth c Qf E ad0 N0 nL (pc + 1) lv (vL (a ^^^ b) :: r) h N k n) : amJ p l e R s m args below meth c Qf E ad0 N0 nL pc lv (vL b :: vL a :: r) h N k n := by
  intro ad H locs ls hR hL
  exact lv_lxor hx hb hd (hj ad H locs ls hR hL)
theorem r_lshl (hx : p.tables.exec = Jvm.exec) (hb : c.code = cc) {a : Int64} {b : Int} (hd : decode cc pc = .ok (.lshl, 1)) (hj : amJ p l e R s m args below meth c Qf E ad0 N0 nL (pc + 1) lv (vL (a <<< ((iI b).toInt64 &&& 63)) :: r) h N k n) : amJ p l e R s m args below meth c Qf E ad0 N0 nL pc lv (vI b :: vL a :: r) h N k n := by
  intro ad H locs ls hR hL
  exact lv_lshl hx hb hd rfl (hj ad H locs ls hR hL)
theorem r_lshr (hx : p.tables.exec = Jvm.exec) (hb : c.code = cc) {a : Int64} {b : Int} (hd : decode cc pc = .ok (.lshr, 1)) (hj : amJ p l e R s m args below meth c Qf E ad0 N0 nL (pc + 1) lv (vL (a >>> ((iI b).toInt64 &&& 63)) :: r) h N k n) : amJ p l e R s m args below meth c Qf E ad0 N0 nL pc lv (vI b :: vL a :: r) h N k n := by
  intro ad H locs ls hR hL
  exact lv_lshr hx hb hd rfl (hj ad H locs ls hR hL)
theorem r_lushr (hx : p.tables.exec = Jvm.exec) (hb : c.code = cc) {a : Int64} {b : Int} (hd : decode cc pc = .ok (.lushr, 1)) (hj : amJ p l e R s m args below meth c Qf E ad0 N0 nL (pc + 1) lv (vL (a.toUInt64 >>> ((iI b).toInt64.toUInt64 &&& Int64.toUInt64 63)).toInt64 :: r) h N k n) : amJ p l e R s m args below meth c Qf E ad0 N0 nL pc lv (vI b :: vL a :: r) h N k n := by
  intro ad H locs ls hR hL
  exact lv_lushr hx hb hd rfl (hj ad H locs ls hR hL)
theorem r_lcmp (hx : p.tables.exec = Jvm.exec) (hb : c.code = cc) {a b : Int64} (hd : decode cc pc = .ok (.lcmp, 1)) (hj : amJ p l e R s m args below meth c Qf E ad0 N0 nL (pc + 1) lv (vI (lg_cmp a b).toInt :: r) h N k n) : amJ p l e R s m args below meth c Qf E ad0 N0 nL pc lv (vL b :: vL a :: r) h N k n := by
  intro ad H locs ls hR hL
  refine W.lcmp (x := a) (y := b) hx hb hd ?_
  rw [← iI_of (lg_cmp a b)]
  exact hj ad H locs ls hR hL
theorem r_i2l (hx : p.tables.exec = Jvm.exec) (hb : c.code = cc) {a : Int} (hd : decode cc pc = .ok (.i2l, 1)) (hj : amJ p l e R s m args below meth c Qf E ad0 N0 nL (pc + 1) lv (vL (iI a).toInt64 :: r) h N k n) : amJ p l e R s m args below meth c Qf E ad0 N0 nL pc lv (vI a :: r) h N k n := by
  intro ad H locs ls hR hL
  exact lv_i2l hx hb hd rfl (hj ad H locs ls hR hL)
theorem r_l2i (hx : p.tables.exec = Jvm.exec) (hb : c.code = cc) {a : Int64} (hd : decode cc pc = .ok (.l2i, 1)) (hj : amJ p l e R s m args below meth c Qf E ad0 N0 nL (pc + 1) lv (vI a.toInt32.toInt :: r) h N k n) : amJ p l e R s m args below meth c Qf E ad0 N0 nL pc lv (vL a :: r) h N k n := by
  intro ad H locs ls hR hL
  exact lv_l2i hx hb hd (iI_of _).symm (hj ad H locs ls hR hL)
theorem r_dup (hx : p.tables.exec = Jvm.exec) (hb : c.code = cc) {v : AV} (hv : aCat v = 1) (hd : decode cc pc = .ok (.dup, 1)) (hj : amJ p l e R s m args below meth c Qf E ad0 N0 nL (pc + 1) lv (v :: v :: r) h N k n) : amJ p l e R s m args below meth c Qf E ad0 N0 nL pc lv (v :: r) h N k n := by
  intro ad H locs ls hR hL
  exact lv_dup hx hb hd (by rw [cat_cv]; exact hv) (hj ad H locs ls hR hL)
theorem r_dup2 (hx : p.tables.exec = Jvm.exec) (hb : c.code = cc) {v w : AV} (hv : aCat v = 1) (hw : aCat w = 1) (hd : decode cc pc = .ok (.dup2, 1)) (hj : amJ p l e R s m args below meth c Qf E ad0 N0 nL (pc + 1) lv (v :: w :: v :: w :: r) h N k n) : amJ p l e R s m args below meth c Qf E ad0 N0 nL pc lv (v :: w :: r) h N k n := by
  intro ad H locs ls hR hL
  exact lv_dup2_11 hx hb hd (by rw [cat_cv]; exact hv) (by rw [cat_cv]; exact hw) (hj ad H locs ls hR hL)
theorem r_pop (hx : p.tables.exec = Jvm.exec) (hb : c.code = cc) {v : AV} (hv : aCat v = 1) (hd : decode cc pc = .ok (.pop, 1)) (hj : amJ p l e R s m args below meth c Qf E ad0 N0 nL (pc + 1) lv r h N k n) : amJ p l e R s m args below meth c Qf E ad0 N0 nL pc lv (v :: r) h N k n := by
  intro ad H locs ls hR hL
  exact lv_pop hx hb hd (by rw [cat_cv]; exact hv) (hj ad H locs ls hR hL)
theorem r_goto (hx : p.tables.exec = Jvm.exec) (hb : c.code = cc) {off : Int} {tgt : Nat} (hd : decode cc pc = .ok (.goto off, 3)) (ht : (pc : Int) + off = (tgt : Int)) (hj : amJ p l e R s m args below meth c Qf E ad0 N0 nL tgt lv st h N k n) : amJ p l e R s m args below meth c Qf E ad0 N0 nL pc lv st h N k n := by
  intro ad H locs ls hR hL
  exact lv_goto hx hb hd ht (hj ad H locs ls hR hL)
theorem r_if (hx : p.tables.exec = Jvm.exec) (hb : c.code = cc) {cd : Jvm.ClassFile.Cond} {off a : Int} {tgt : Nat} (ha : inR a) (hd : decode cc pc = .ok (.ifCond cd off, 3)) (ht : (pc : Int) + off = (tgt : Int)) (h1 : aCmp cd a 0 → amJ p l e R s m args below meth c Qf E ad0 N0 nL tgt lv r h N k n) (h2 : ¬ aCmp cd a 0 → amJ p l e R s m args below meth c Qf E ad0 N0 nL (pc + 3) lv r h N k n) : amJ p l e R s m args below meth c Qf E ad0 N0 nL pc lv (vI a :: r) h N k n := by
  intro ad H locs ls hR hL
  have e1 : iI a = 0 ↔ a = 0 := iI_eq ha inR_0
  have e2 : iI a < 0 ↔ a < 0 := iI_lt ha inR_0
  have e3 : 0 ≤ iI a ↔ 0 ≤ a := iI_le inR_0 ha
  have e4 : 0 < iI a ↔ 0 < a := iI_lt inR_0 ha
  have e5 : iI a ≤ 0 ↔ a ≤ 0 := iI_le ha inR_0
  cases cd
  · exact lv_if_eq hx hb hd ht (fun q => h1 (e1.mp q) ad H locs ls hR hL) (fun q => h2 (fun z => q (e1.mpr z)) ad H locs ls hR hL)
  · exact lv_if_ne hx hb hd ht (fun q => h1 (fun z => q (e1.mpr z)) ad H locs ls hR hL) (fun q => h2 (fun z => z (e1.mp q)) ad H locs ls hR hL)
  · exact lv_if_lt hx hb hd ht (fun q => h1 (e2.mp q) ad H locs ls hR hL) (fun q => h2 (fun z => q (e2.mpr z)) ad H locs ls hR hL)
  · exact lv_if_ge hx hb hd ht (fun q => h1 (e3.mp q) ad H locs ls hR hL) (fun q => h2 (fun z => q (e3.mpr z)) ad H locs ls hR hL)
  · exact lv_if_gt hx hb hd ht (fun q => h1 (e4.mp q) ad H locs ls hR hL) (fun q => h2 (fun z => q (e4.mpr z)) ad H locs ls hR hL)
  · exact lv_if_le hx hb hd ht (fun q => h1 (e5.mp q) ad H locs ls hR hL) (fun q => h2 (fun z => q (e5.mpr z)) ad H locs ls hR hL)
theorem r_icmp (hx : p.tables.exec = Jvm.exec) (hb : c.code = cc) {cd : Jvm.ClassFile.Cond} {off a b : Int} {tgt : Nat} (ha : inR a) (hb' : inR b) (hd : decode cc pc = .ok (.if_icmp cd off, 3)) (ht : (pc : Int) + off = (tgt : Int)) (h1 : aCmp cd a b → amJ p l e R s m args below meth c Qf E ad0 N0 nL tgt lv r h N k n) (h2 : ¬ aCmp cd a b → amJ p l e R s m args below meth c Qf E ad0 N0 nL (pc + 3) lv r h N k n) : amJ p l e R s m args below meth c Qf E ad0 N0 nL pc lv (vI b :: vI a :: r) h N k n := by
  intro ad H locs ls hR hL
  have e1 : iI a = iI b ↔ a = b := iI_eq ha hb'
  have e2 : iI a < iI b ↔ a < b := iI_lt ha hb'
  have e3 : iI b ≤ iI a ↔ b ≤ a := iI_le hb' ha
  have e4 : iI b < iI a ↔ b < a := iI_lt hb' ha
  have e5 : iI a ≤ iI b ↔ a ≤ b := iI_le ha hb'
  cases cd
  · exact lv_icmp_eq hx hb hd ht (fun q => h1 (e1.mp q) ad H locs ls hR hL) (fun q => h2 (fun z => q (e1.mpr z)) ad H locs ls hR hL)
  · exact lv_icmp_ne hx hb hd ht (fun q => h1 (fun z => q (e1.mpr z)) ad H locs ls hR hL) (fun q => h2 (fun z => z (e1.mp q)) ad H locs ls hR hL)
  · exact lv_icmp_lt hx hb hd ht (fun q => h1 (e2.mp q) ad H locs ls hR hL) (fun q => h2 (fun z => q (e2.mpr z)) ad H locs ls hR hL)
  · exact lv_icmp_ge hx hb hd ht (fun q => h1 (e3.mp q) ad H locs ls hR hL) (fun q => h2 (fun z => q (e3.mpr z)) ad H locs ls hR hL)
  · exact lv_icmp_gt hx hb hd ht (fun q => h1 (e4.mp q) ad H locs ls hR hL) (fun q => h2 (fun z => q (e4.mpr z)) ad H locs ls hR hL)
  · exact lv_icmp_le hx hb hd ht (fun q => h1 (e5.mp q) ad H locs ls hR hL) (fun q => h2 (fun z => q (e5.mpr z)) ad H locs ls hR hL)
end AMR
end
section
/-! ===== rows of the heap: fields, arrays, what is made ===== -/
/-- what is decided of an object's kind -/
def ClOk (ci : Nat) (q : vw_C) : Prop :=
  (∀ w ∈ u_ws q.1 q.2.1 q.2.2, w ∈ wG) ∧ (∀ k, k < q.2.2 → parseFieldDescriptor (q.2.1 k).2.2.1 = some (aTy ci k)) ∧ (∀ a, a < q.2.2 → ∀ b, b < q.2.2 → a ≠ b → (q.2.1 a).2.1 ≠ (q.2.1 b).2.1) ∧ q.2.2 = aNf ci ∧ ∀ k, k < q.2.2 → ∀ ad, cv ad (aDef (aTy ci k)) = defaultValue (aTy ci k)
theorem RelS.put {E : AEnv} {ad : Nat → Nat} {h : AH} {N a : Nat} {H H1 : Heap} {e : AE} (hR : RelS E ad h N H) (ha : a < N) (hP : va_P (gD E) vwCl (wl E ad (va_up h a e) N) H1) (hD : va_D (gA E) (wl E ad (va_up h a e) N)) : RelS E ad (va_up h a e) N H1 := by
  obtain ⟨-, -, h3, h4, h5, h6, h7, h8, h9⟩ := hR
  exact ⟨hP, hD, h3, h4, h5, h6, by rw [va_up_ne _ _ (by omega)]; exact h7, by rw [va_up_ne _ _ (by omega)]; exact h8, by rw [va_up_ne _ _ (by omega)]; exact h9⟩
theorem Rel.put {E : AEnv} {s : State} {ad0 ad : Nat → Nat} {h : AH} {N0 N a : Nat} {H H1 : Heap} {locs locs1 : List Loc} {e : AE} (hR : Rel E s ad0 N0 ad h N H locs) (ha : a < N) (hP : va_P (gD E) vwCl (wl E ad (va_up h a e) N) H1) (hD : va_D (gA E) (wl E ad (va_up h a e) N)) (hS : va_S (gA E) s.heap H1 locs1) : Rel E s ad0 N0 ad (va_up h a e) N H1 locs1 :=
  ⟨hR.1.put ha hP hD, hS, hR.2.2.1, hR.2.2.2⟩
theorem Rel.push {E : AEnv} {s : State} {ad0 ad : Nat → Nat} {h : AH} {N0 N q : Nat} {H H1 : Heap} {locs : List Loc} {e : AE} {x : va_E} (hR : Rel E s ad0 N0 ad h N H locs) (hN : N < aRO) (hw : wfH N h) (hx : x = ce E (va_up ad N q) e) (hP : va_P (gD E) vwCl (wl E ad h N ++ [(q, x)]) H1) (hD : va_D (gA E) (wl E ad h N ++ [(q, x)])) (hS : va_S (gA E) s.heap H1 locs) : Rel E s ad0 N0 (va_up ad N q) (va_up h N e) (N + 1) H1 locs := by
  rw [wl_push hN hw hx] at hP hD
  obtain ⟨⟨-, -, h3, h4, h5, h6, h7, h8, h9⟩, -, h11, h12⟩ := hR
  refine ⟨⟨hP, hD, by omega, by rw [va_up_ne _ _ (by omega)]; exact h4, by rw [va_up_ne _ _ (by omega)]; exact h5, by rw [va_up_ne _ _ (by omega)]; exact h6, by rw [va_up_ne _ _ (by omega)]; exact h7, by rw [va_up_ne _ _ (by omega)]; exact h8, by rw [va_up_ne _ _ (by omega)]; exact h9⟩, hS, by omega, fun k hk => ?_⟩
  rw [va_up_ne _ _ (by omega)]
  exact h12 k (by omega)
theorem fit_cv {ty : FieldType} {v : AV} {ad : Nat → Nat} (h : aFit ty v) : narrow ty (cv ad v) = cv ad v ∧ fits ty (cv ad v) = true := by
  rcases v with z | x | r | r <;> cases ty <;> first | exact h.elim | exact ⟨rfl, rfl⟩ | (rcases h with h | h <;> subst h <;> exact ⟨rfl, rfl⟩)
theorem Lh.push {ad : Nat → Nat} {ls : Array Slot} {nL N q : Nat} {lv : AL} {st : List AV} (h : Lh ad ls nL lv) (hN : N < aRO) (hw : wfS N lv st) : Lh (va_up ad N q) ls nL lv := by
  refine h.moved (fun i v hv => cv_wf hN ?_)
  have hm : (some v) ∈ lv := by
    have hl := aLd_lt hv
    unfold aLd at hv
    rw [List.getD_eq_getElem?_getD] at hv
    cases hg : lv[i]? with
    | none => rw [hg] at hv; cases hv
    | some o =>
      rw [hg] at hv
      have hv : o = some v := hv
      exact hv ▸ List.mem_of_getElem? hg
  exact hw.1 _ hm _ rfl
theorem st_push {ad : Nat → Nat} {N q : Nat} {lv : AL} {st : List AV} (hN : N < aRO) (hw : wfS N lv st) : st.map (cv (va_up ad N q)) = st.map (cv ad) :=
  List.map_congr_left (fun v hv => cv_wf hN (hw.2 v hv))
theorem aSw_at {J : Nat → Prop} {a : Int} : ∀ (ts : List Nat) (lo : Int) (i t : Nat), aSw J a lo ts → ts[i]? = some t → a = lo + i → J t
  | [], lo, i, t, _, h, _ => by simp at h
  | u :: ts, lo, 0, t, hs, h, e => by
    simp at h
    subst h
    exact hs.1 (by omega)
  | u :: ts, lo, i + 1, t, hs, h, e => by
    rw [List.getElem?_cons_succ] at h
    exact aSw_at ts (lo + 1) i t hs.2 h (by omega)
section AMH
variable {p : Program} {l : Launch} {e : Env} {R : Room} {s : State} {m : MethodId} {args : Array Value} {below : List Frame} {meth : Method} {c : Code} {Qf : State → Prop}
variable {cc : ByteArray} {E : AEnv} {ad0 : Nat → Nat} {N0 nL pc : Nat} {lv : AL} {st r : List AV} {h : AH} {N k n : Nat}
theorem r_switch (hx : p.tables.exec = Jvm.exec) (hb : c.code = cc) {dflt lo hi : Int} {offs : Array Int} {len t : Nat} {ts : List Nat} {a : Int} (ha : inR a) (hd : decode cc pc = .ok (.tableswitch dflt lo hi offs, len)) (h0 : (pc : Int) + dflt = (t : Int)) (hz : offs.size = ts.length ∧ (ts.length : Int) = hi - lo + 1) (ht : ∀ (i : Nat) (o : Int) (u : Nat), offs[i]? = some o → ts[i]? = some u → (pc : Int) + o = (u : Int))
    (h1 : a < lo ∨ hi < a → amJ p l e R s m args below meth c Qf E ad0 N0 nL t lv r h N k n) (h2 : aSw (fun u => amJ p l e R s m args below meth c Qf E ad0 N0 nL u lv r h N k n) a lo ts) : amJ p l e R s m args below meth c Qf E ad0 N0 nL pc lv (vI a :: r) h N k n := by
  intro ad H locs ls hR hL
  have ea := iI_toInt ha
  by_cases hq : a < lo ∨ hi < a
  · exact lv_tableOut (x := iI a) hx hb hd (by rw [ea]; exact hq) h0 (h1 hq ad H locs ls hR hL)
  · have hi : (a - lo).toNat < ts.length := by omega
    have e1 : offs[(a - lo).toNat]? = some offs[(a - lo).toNat] := Array.getElem?_eq_getElem (by omega)
    have e2 : ts[(a - lo).toNat]? = some ts[(a - lo).toNat] := List.getElem?_eq_getElem hi
    refine lv_tableIn (x := iI a) hx hb hd (by rw [ea]; omega) (by rw [ea]; omega) (by rw [ea]; exact e1) (ht _ _ _ e1 e2) ?_
    exact aSw_at ts lo _ _ h2 e2 (by omega) ad H locs ls hR hL
theorem ro_len {t n9 : Nat} {f : Nat → Value} {H : Heap} {locs : List Loc} {ls : Array Slot} {rest : List Value} (hx : p.tables.exec = Jvm.exec) (hb : c.code = cc) (hT : va_T .int t n9 f (gA E) s s.heap) (hS : va_S (gA E) s.heap H locs) (hd : decode cc pc = .ok (.arraylength, 1)) (kk : W p l e R s m args below meth c H locs k n Qf (F0 m (pc + 1) ls (.int (Int32.ofNat n9) :: rest))) : W p l e R s m args below meth c H locs k n Qf (F0 m pc ls (.ref t :: rest)) := by
  obtain ⟨cell, h1, h2, h3, h4, h5, h6, h7⟩ := hT
  exact W.alen (n := Int32.ofNat n9) hx hb (by rw [hS.2.1 t (Array.getElem?_eq_some_iff.mp h1).1 h7]; exact h1) h2 h5 rfl rfl hd kk
theorem r_getfield (hx : p.tables.exec = Jvm.exec) (hb : c.code = cc) (hG : ∀ w ∈ wG, w.before args s = true) (hCl : ∀ ci q, vwCl[ci]? = some q → ClOk ci q) (hK : va_K (gD E) vwCl (gT E) s) {own : String} (hown : s.vm.findClass own = some m.cls) {x ci j a : Nat} {fs : List AV} {v : AV} (hf : ∃ q, vwCl[ci]? = some q ∧ j < q.2.2 ∧ Jvm.Cond.fieldLink own x (q.2.1 j).1 (q.2.1 j).2.1 (q.2.1 j).2.2.1 ∈ wG) (hd : decode cc pc = .ok (.getfield x, 3)) (ha : a < N) (he : h a = eO ci fs) (hv : fs[j]? = some v) (hj : amJ p l e R s m args below meth c Qf E ad0 N0 nL (pc + 3) lv (v :: r) h N k n) : amJ p l e R s m args below meth c Qf E ad0 N0 nL pc lv (vR a :: r) h N k n := by
  intro ad H locs ls hR hL
  obtain ⟨⟨C, T, Nn⟩, hq, hjn, hw⟩ := hf
  exact va_get hx hb hG (hCl _ _ hq).1 hown hK hR.1.1 a (fs := fs.map (cv ad)) (by rw [wl_get ha, he]; rfl) hq j hjn (hG _ hw) (fun _ h => h) (v := cv ad v) (by rw [List.getElem?_map, hv]; rfl) hd (hj ad H locs ls hR hL)

theorem r_putfield (hx : p.tables.exec = Jvm.exec) (hb : c.code = cc) (hG : ∀ w ∈ wG, w.before args s = true) (hCl : ∀ ci q, vwCl[ci]? = some q → ClOk ci q) (hK : va_K (gD E) vwCl (gT E) s) {own : String} (hown : s.vm.findClass own = some m.cls) {x ci j a : Nat} {fs : List AV} {v : AV} (hf : ∃ q, vwCl[ci]? = some q ∧ j < q.2.2 ∧ Jvm.Cond.fieldLink own x (q.2.1 j).1 (q.2.1 j).2.1 (q.2.1 j).2.2.1 ∈ wG ∧ ((q.2.1 j).2.2.2 = true → meth.name = "<init>" ∧ (q.2.1 j).1 = own)) (hd : decode cc pc = .ok (.putfield x, 3)) (ha : a < N) (he : h a = eO ci fs) (hl : j < fs.length) (hfit : aFit (aTy ci j) v) (hj : amJ p l e R s m args below meth c Qf E ad0 N0 nL (pc + 3) lv r (va_up h a (eO ci (fs.set j v))) N k n) : amJ p l e R s m args below meth c Qf E ad0 N0 nL pc lv (v :: vR a :: r) h N k n := by
  intro ad H locs ls hR hL
  obtain ⟨⟨C, T, Nn⟩, hq, hjn, hw, hfin⟩ := hf
  obtain ⟨c1, c2, c3, c4, -⟩ := hCl _ _ hq
  obtain ⟨f1, f2⟩ := fit_cv (ad := ad) hfit
  have hset : ∀ X : va_W, X = (wl E ad h N).set a (ad a, .inr (ci, (fs.map (cv ad)).set j (cv ad v))) → X = wl E ad (va_up h a (eO ci (fs.set j v))) N := by
    intro X hX
    rw [hX, ← wl_set]
    simp only [ce, List.map_set]
  by_cases hz : (T j).2.2.2 = true
  · obtain ⟨g1, g2⟩ := hfin hz
    exact va_putF hx hb hG c1 (aTy ci) c2 c3 hown hK hR.1.1 hR.1.2.1 hR.2.1 a (fs := fs.map (cv ad)) (by rw [wl_get ha, he]; rfl) hq j hjn (hG _ hw) (fun _ h => h) hz g1 g2 (c2 j hjn) f1 f2 (by rw [List.length_map]; exact hl) hd
      (fun H1 locs1 hP hD hS => hj ad H1 locs1 ls (hR.put ha (by rw [← hset _ rfl]; exact hP) (by rw [← hset _ rfl]; exact hD) hS) hL)
  · exact va_put hx hb hG c1 (aTy ci) c2 c3 hown hK hR.1.1 hR.1.2.1 hR.2.1 a (fs := fs.map (cv ad)) (by rw [wl_get ha, he]; rfl) hq j hjn (hG _ hw) (fun _ h => h) (by simpa using hz) (c2 j hjn) f1 f2 (by rw [List.length_map]; exact hl) hd
      (fun H1 locs1 hP hD hS => hj ad H1 locs1 ls (hR.put ha (by rw [← hset _ rfl]; exact hP) (by rw [← hset _ rfl]; exact hD) hS) hL)

theorem r_iaload (hx : p.tables.exec = Jvm.exec) (hb : c.code = cc) (hK : va_K (gD E) vwCl (gT E) s) (hAm : AmbH E s) {a mm : Nat} {i : Int} {f : Nat → Int} (hd : decode cc pc = .ok (.iaload, 1)) (ha : aRd N a) (he : h a = eI mm f) (hi : 0 ≤ i ∧ i < mm ∧ mm < 2147483648) (hj : amJ p l e R s m args below meth c Qf E ad0 N0 nL (pc + 1) lv (vI (f i.toNat) :: r) h N k n) : amJ p l e R s m args below meth c Qf E ad0 N0 nL pc lv (vI i :: vR a :: r) h N k n := by
  intro ad H locs ls hR hL
  have hin := iI_in hi.1 hi.2.1 hi.2.2
  have ec : (iI i).toNatClampNeg = i.toNat := iI_cl hi.1 (by omega)
  rcases ha with ha | ha | ha | ha
  · refine va_iald (f := fun j => iI (f j)) hx hb hK hR.1.1 a 0 (by rw [wl_get ha, he]; rfl) rfl hin hd ?_
    rw [ec]
    exact hj ad H locs ls hR hL
  · obtain ⟨-, -, -, e4, -, -, e7, -, -⟩ := hR.1
    rw [ha, e7] at he
    cases he
    have := va_sld hx hb (rest := r.map (cv ad)) (ls := ls) hAm.2.1.1 hAm.2.1.2.1 hAm.2.1.2.2 hR.2.1 hin hd (by
      rw [ec]
      have := hj ad H locs ls hR hL
      simp only [List.map_cons, cv, iI_of] at this
      exact this)
    rw [← e4, ← ha] at this
    exact this
  · obtain ⟨-, -, -, -, e4, -, -, e7, -⟩ := hR.1
    rw [ha, e7] at he
    cases he
    have := va_ti hx hb (rest := r.map (cv ad)) (ls := ls) hAm.2.2.1 hR.2.1 hin (v := .int (iI (stepRows i.toNat))) (by rw [ec]) hd (hj ad H locs ls hR hL)
    rw [← e4, ← ha] at this
    exact this
  · obtain ⟨-, -, -, -, -, e4, -, -, e7⟩ := hR.1
    rw [ha, e7] at he
    cases he
    have := va_ti hx hb (rest := r.map (cv ad)) (ls := ls) hAm.2.2.2 hR.2.1 hin (v := .int (iI (stepCols i.toNat))) (by rw [ec]) hd (hj ad H locs ls hR hL)
    rw [← e4, ← ha] at this
    exact this

theorem r_baload (hx : p.tables.exec = Jvm.exec) (hb : c.code = cc) (hK : va_K (gD E) vwCl (gT E) s) {a mm : Nat} {i : Int} {f : Nat → Int} (hd : decode cc pc = .ok (.baload, 1)) (ha : a < N) (he : h a = eZ mm f) (hi : 0 ≤ i ∧ i < mm ∧ mm < 2147483648) (hj : amJ p l e R s m args below meth c Qf E ad0 N0 nL (pc + 1) lv (vI (f i.toNat) :: r) h N k n) : amJ p l e R s m args below meth c Qf E ad0 N0 nL pc lv (vI i :: vR a :: r) h N k n := by
  intro ad H locs ls hR hL
  have hin := iI_in hi.1 hi.2.1 hi.2.2
  have ec : (iI i).toNatClampNeg = i.toNat := iI_cl hi.1 (by omega)
  refine va_zald (f := (fun j => iI (f j))) hx hb hK hR.1.1 a 1 (by rw [wl_get ha, he]; rfl) rfl hin hd ?_
  rw [ec]
  exact hj ad H locs ls hR hL

theorem r_laload (hx : p.tables.exec = Jvm.exec) (hb : c.code = cc) (hK : va_K (gD E) vwCl (gT E) s) {a mm : Nat} {i : Int} {f : Nat → Int64} (hd : decode cc pc = .ok (.laload, 1)) (ha : a < N) (he : h a = eL mm f) (hi : 0 ≤ i ∧ i < mm ∧ mm < 2147483648) (hj : amJ p l e R s m args below meth c Qf E ad0 N0 nL (pc + 1) lv (vL (f i.toNat) :: r) h N k n) : amJ p l e R s m args below meth c Qf E ad0 N0 nL pc lv (vI i :: vR a :: r) h N k n := by
  intro ad H locs ls hR hL
  have hin := iI_in hi.1 hi.2.1 hi.2.2
  have ec : (iI i).toNatClampNeg = i.toNat := iI_cl hi.1 (by omega)
  refine va_lald (f := f) hx hb hK hR.1.1 a 2 (by rw [wl_get ha, he]; rfl) rfl hin hd ?_
  rw [ec]
  exact hj ad H locs ls hR hL

theorem r_aaload (hx : p.tables.exec = Jvm.exec) (hb : c.code = cc) (hK : va_K (gD E) vwCl (gT E) s) {a mm : Nat} {i : Int} {f : Nat → Option Nat} (hd : decode cc pc = .ok (.aaload, 1)) (ha : a < N) (he : h a = eR mm f) (hi : 0 ≤ i ∧ i < mm ∧ mm < 2147483648) (hj : amJ p l e R s m args below meth c Qf E ad0 N0 nL (pc + 1) lv (vF (f i.toNat) :: r) h N k n) : amJ p l e R s m args below meth c Qf E ad0 N0 nL pc lv (vI i :: vR a :: r) h N k n := by
  intro ad H locs ls hR hL
  have hin := iI_in hi.1 hi.2.1 hi.2.2
  have ec : (iI i).toNatClampNeg = i.toNat := iI_cl hi.1 (by omega)
  refine va_aldq (f := fun j => (f j).map ad) hx hb hK hR.1.1 a 3 (by rw [wl_get ha, he]; rfl) rfl hin hd ?_
  rw [ec]
  exact hj ad H locs ls hR hL

theorem r_iastore (hx : p.tables.exec = Jvm.exec) (hb : c.code = cc) (hK : va_K (gD E) vwCl (gT E) s) {a mm : Nat} {i : Int} {z : Int} {f : Nat → Int} (hd : decode cc pc = .ok (.iastore, 1)) (ha : a < N) (he : h a = eI mm f) (hi : 0 ≤ i ∧ i < mm ∧ mm < 2147483648) (hj : amJ p l e R s m args below meth c Qf E ad0 N0 nL (pc + 1) lv r (va_up h a (eI mm (va_up f i.toNat z))) N k n) : amJ p l e R s m args below meth c Qf E ad0 N0 nL pc lv (vI z :: vI i :: vR a :: r) h N k n := by
  intro ad H locs ls hR hL
  have hin := iI_in hi.1 hi.2.1 hi.2.2
  have ec : (iI i).toNatClampNeg = i.toNat := iI_cl hi.1 (by omega)
  have hset : (wl E ad h N).set a (ad a, .inl (gI E, mm, .inl (upd (fun j => iI (f j)) (iI i).toNatClampNeg (iI z)))) = wl E ad (va_up h a (eI mm (va_up f i.toNat z))) N := by
    rw [← wl_set, ec]
    have : upd (fun j => iI (f j)) i.toNat (iI z) = fun j => iI (va_up f i.toNat z j) := by
      funext q
      simp only [upd, va_up]
      split <;> rfl
    rw [this]
    rfl
  exact va_iast (f := fun j => iI (f j)) (x := iI z) hx hb hK hR.1.1 hR.1.2.1 hR.2.1 a 0 (by rw [wl_get ha, he]; rfl) rfl hin hd
    (fun H1 locs1 hP hD hS => hj ad H1 locs1 ls (hR.put ha (by rw [← hset]; exact hP) (by rw [← hset]; exact hD) hS) hL)

theorem r_bastore (hx : p.tables.exec = Jvm.exec) (hb : c.code = cc) (hK : va_K (gD E) vwCl (gT E) s) {a mm : Nat} {i : Int} {z : Int} {f : Nat → Int} (hz : z = 0 ∨ z = 1) (hd : decode cc pc = .ok (.bastore, 1)) (ha : a < N) (he : h a = eZ mm f) (hi : 0 ≤ i ∧ i < mm ∧ mm < 2147483648) (hj : amJ p l e R s m args below meth c Qf E ad0 N0 nL (pc + 1) lv r (va_up h a (eZ mm (va_up f i.toNat z))) N k n) : amJ p l e R s m args below meth c Qf E ad0 N0 nL pc lv (vI z :: vI i :: vR a :: r) h N k n := by
  intro ad H locs ls hR hL
  have hin := iI_in hi.1 hi.2.1 hi.2.2
  have ec : (iI i).toNatClampNeg = i.toNat := iI_cl hi.1 (by omega)
  have hnz : vp_nar .boolean (iI z) = iI z := by rcases hz with rfl | rfl <;> rfl
  have hset : (wl E ad h N).set a (ad a, .inl (gZ E, mm, .inl (upd (fun j => iI (f j)) (iI i).toNatClampNeg (vp_nar .boolean (iI z))))) = wl E ad (va_up h a (eZ mm (va_up f i.toNat z))) N := by
    rw [← wl_set, ec, hnz]
    have : upd (fun j => iI (f j)) i.toNat (iI z) = fun j => iI (va_up f i.toNat z j) := by
      funext q
      simp only [upd, va_up]
      split <;> rfl
    rw [this]
    rfl
  exact va_zast (f := fun j => iI (f j)) (x := iI z) hx hb hK hR.1.1 hR.1.2.1 hR.2.1 a 1 (by rw [wl_get ha, he]; rfl) rfl hin hd
    (fun H1 locs1 hP hD hS => hj ad H1 locs1 ls (hR.put ha (by rw [← hset]; exact hP) (by rw [← hset]; exact hD) hS) hL)

theorem r_lastore (hx : p.tables.exec = Jvm.exec) (hb : c.code = cc) (hK : va_K (gD E) vwCl (gT E) s) {a mm : Nat} {i : Int} {z : Int64} {f : Nat → Int64} (hd : decode cc pc = .ok (.lastore, 1)) (ha : a < N) (he : h a = eL mm f) (hi : 0 ≤ i ∧ i < mm ∧ mm < 2147483648) (hj : amJ p l e R s m args below meth c Qf E ad0 N0 nL (pc + 1) lv r (va_up h a (eL mm (va_up f i.toNat z))) N k n) : amJ p l e R s m args below meth c Qf E ad0 N0 nL pc lv (vL z :: vI i :: vR a :: r) h N k n := by
  intro ad H locs ls hR hL
  have hin := iI_in hi.1 hi.2.1 hi.2.2
  have ec : (iI i).toNatClampNeg = i.toNat := iI_cl hi.1 (by omega)
  have hset : (wl E ad h N).set a (ad a, .inl (gJ E, mm, .inr (.inl (vp_updL f (iI i).toNatClampNeg z)))) = wl E ad (va_up h a (eL mm (va_up f i.toNat z))) N := by
    rw [← wl_set, ec]
    rfl
  exact va_last (f := f) (x := z) hx hb hK hR.1.1 hR.1.2.1 hR.2.1 a 2 (by rw [wl_get ha, he]; rfl) rfl hin hd
    (fun H1 locs1 hP hD hS => hj ad H1 locs1 ls (hR.put ha (by rw [← hset]; exact hP) (by rw [← hset]; exact hD) hS) hL)

theorem r_aastore (hx : p.tables.exec = Jvm.exec) (hb : c.code = cc) (hK : va_K (gD E) vwCl (gT E) s) {a mm : Nat} {i : Int} {b : Nat} {vs : List AV} {f : Nat → Option Nat} (hbN : b < N) (hbe : h b = eO 4 vs) (hd : decode cc pc = .ok (.aastore, 1)) (ha : a < N) (he : h a = eR mm f) (hi : 0 ≤ i ∧ i < mm ∧ mm < 2147483648) (hj : amJ p l e R s m args below meth c Qf E ad0 N0 nL (pc + 1) lv r (va_up h a (eR mm (va_up f i.toNat (some b)))) N k n) : amJ p l e R s m args below meth c Qf E ad0 N0 nL pc lv (vR b :: vI i :: vR a :: r) h N k n := by
  intro ad H locs ls hR hL
  have hin := iI_in hi.1 hi.2.1 hi.2.2
  have ec : (iI i).toNatClampNeg = i.toNat := iI_cl hi.1 (by omega)
  have hset : (wl E ad h N).set a (ad a, .inl (gS E, mm, .inr (.inr (.inr (.inr (va_up (fun j => (f j).map ad) (iI i).toNatClampNeg (some (ad b)))))))) = wl E ad (va_up h a (eR mm (va_up f i.toNat (some b)))) N := by
    rw [← wl_set, ec]
    have : va_up (fun j => (f j).map ad) i.toNat (some (ad b)) = fun j => (va_up f i.toNat (some b) j).map ad := by
      funext q
      simp only [va_up]
      split <;> rfl
    rw [this]
    rfl
  exact va_astq (f := fun j => (f j).map ad) (r := (RX6, TX6, 10)) hx hb hK hR.1.1 hR.1.2.1 hR.2.1 a 3 b 4 (by rw [wl_get ha, he]; rfl) rfl (v := ad b) (vs := vs.map (cv ad)) (by rw [wl_get hbN, hbe]; rfl) rfl hin hd
    (fun H1 locs1 hP hD hS => hj ad H1 locs1 ls (hR.put ha (by rw [← hset]; exact hP) (by rw [← hset]; exact hD) hS) hL)

theorem r_alen (hx : p.tables.exec = Jvm.exec) (hb : c.code = cc) (hK : va_K (gD E) vwCl (gT E) s) (hAm : AmbH E s) {a mm : Nat} {f : Nat → Int} (hd : decode cc pc = .ok (.arraylength, 1)) (ha : aRd N a) (he : h a = eI mm f) (hj : amJ p l e R s m args below meth c Qf E ad0 N0 nL (pc + 1) lv (vI (mm : Int) :: r) h N k n) : amJ p l e R s m args below meth c Qf E ad0 N0 nL pc lv (vR a :: r) h N k n := by
  intro ad H locs ls hR hL
  rcases ha with ha | ha | ha | ha
  · exact va_alen (x := (mm, .inl (fun j => iI (f j)))) hx hb hK hR.1.1 a 0 (by rw [wl_get ha, he]; rfl) rfl rfl hd (hj ad H locs ls hR hL)
  · obtain ⟨-, -, -, e4, -, -, e7, -, -⟩ := hR.1
    rw [ha, e7] at he
    cases he
    have := va_slen hx hb (rest := r.map (cv ad)) (ls := ls) hAm.2.1.1 hAm.2.1.2.1 hAm.2.1.2.2 hR.2.1 hd (hj ad H locs ls hR hL)
    rw [← e4, ← ha] at this
    exact this
  · obtain ⟨-, -, -, -, e4, -, -, e7, -⟩ := hR.1
    rw [ha, e7] at he
    cases he
    have := ro_len hx hb (rest := r.map (cv ad)) (ls := ls) hAm.2.2.1 hR.2.1 hd (hj ad H locs ls hR hL)
    rw [← e4, ← ha] at this
    exact this
  · obtain ⟨-, -, -, -, -, e4, -, -, e7⟩ := hR.1
    rw [ha, e7] at he
    cases he
    have := ro_len hx hb (rest := r.map (cv ad)) (ls := ls) hAm.2.2.2 hR.2.1 hd (hj ad H locs ls hR hL)
    rw [← e4, ← ha] at this
    exact this

theorem r_new (hx : p.tables.exec = Jvm.exec) (hb : c.code = cc) (hG : ∀ w ∈ wG, w.before args s = true) (hCl : ∀ ci q, vwCl[ci]? = some q → ClOk ci q) (hK : va_K (gD E) vwCl (gT E) s) (hAm : AmbH E s) {own : String} (hown : s.vm.findClass own = some m.cls) {x ci : Nat} (hf : ∃ q, vwCl[ci]? = some q ∧ Jvm.Cond.classLink own x q.1 ∈ wG ∧ Jvm.Cond.instantiable q.1 q.2.2 ∈ wG ∧ Jvm.Cond.initialized q.1 ∈ wG) (hd : decode cc pc = .ok (.new x, 3)) (hc1 : k + 1 ≤ R.cells) (hc2 : n + aNf ci ≤ R.slots) (hN : N < aRO) (hw : wfH N h) (hws : wfS N lv st) (hj : amJ p l e R s m args below meth c Qf E ad0 N0 nL (pc + 3) lv (vR N :: st) (va_up h N (eO ci (aFs ci))) (N + 1) (k + 1) (n + aNf ci)) : amJ p l e R s m args below meth c Qf E ad0 N0 nL pc lv st h N k n := by
  intro ad H locs ls hR hL
  obtain ⟨⟨C, T, Nn⟩, hq, w1, w2, w3⟩ := hf
  obtain ⟨c1, c2, c3, c4, c5⟩ := hCl _ _ hq
  have c4 : Nn = aNf ci := c4
  refine va_new (ci := ci) (C := C) (T := T) (N := Nn) (fs := (List.range (aNf ci)).map (fun k => defaultValue (aTy ci k))) hx hb hG c1 (aTy ci) c2 hown (hG _ w1) (hG _ w2) (hG _ w3) hK hR.1.1 hR.1.2.1 hR.2.1 (fun q hq => Nat.le_trans hAm.1 hq) hq (fun j hj => ?_) hc1 (by rw [c4]; exact hc2) hd (fun q H1 hP hD hS => ?_)
  · rw [c4] at hj
    simp [vp_V, hj]
  · rw [c4]
    have hfs : ((List.range (aNf ci)).map (fun k => defaultValue (aTy ci k))) = (aFs ci).map (cv (va_up ad N q)) := by
      unfold aFs
      rw [List.map_map]
      apply List.map_congr_left
      intro k hk
      exact (c5 k (by rw [c4]; exact List.mem_range.mp hk) _).symm
    have hj' := hj (va_up ad N q) H1 locs ls (hR.push hN hw (e := eO ci (aFs ci)) (by rw [hfs]; rfl) hP hD hS) (hL.push hN hws)
    rw [List.map_cons, st_push hN hws] at hj'
    have e1 : cv (va_up ad N q) (vR N) = .ref q := by show va_rf (some (va_up ad N q N)) = _; rw [va_up_self]; rfl
    rw [e1] at hj'
    exact hj'

theorem r_newI (hx : p.tables.exec = Jvm.exec) (hb : c.code = cc) (hG : ∀ w ∈ wG, w.before args s = true) (hK : va_K (gD E) vwCl (gT E) s) (hAm : AmbH E s) {a : Int} (hw0 : Jvm.Cond.arrayClass .int ∈ wG) (hd : decode cc pc = .ok (.newarray .int, 2)) (ha : 0 ≤ a ∧ a < 100000) (hc1 : k + 1 ≤ R.cells) (hc2 : n + a.toNat ≤ R.slots) (hN : N < aRO) (hw : wfH N h) (hws : wfS N lv r) (hj : amJ p l e R s m args below meth c Qf E ad0 N0 nL (pc + 2) lv (vR N :: r) (va_up h N (eI a.toNat (fun _ => 0))) (N + 1) (k + 1) (n + a.toNat)) : amJ p l e R s m args below meth c Qf E ad0 N0 nL pc lv (vI a :: r) h N k n := by
  intro ad H locs ls hR hL
  have hr : inR a := ⟨by omega, by omega⟩
  refine va_newa (atype := .int) (ty := .int) (a0 := (a.toNat, (.inl (fun _ => 0)))) hx hb (hG _ hw0) rfl hK hR.1.1 hR.1.2.1 hR.2.1 (fun q hq => Nat.le_trans hAm.1 hq) (fun cA => rfl) (n := iI a) (N' := a.toNat) (by rw [← iI_0, iI_lt hr inR_0]; omega) (iI_cl ha.1 (by omega)) (by show a.toNat * _ ≤ _; simp only [componentBytes]; omega) hc1 hc2 hd (fun q cA H1 hK' hP hD hS => ?_)
  have e0 : cA = gI E := by
    have h1 := (hK'.2 4 (cA, .int) rfl).2
    have h2 := (hK.2 0 (gI E, .int) rfl).2
    exact Option.some.inj (h1.symm.trans h2)
  subst e0
  have hj' := hj (va_up ad N q) H1 locs ls (hR.push hN hw (e := eI a.toNat (fun _ => 0)) rfl hP hD hS) (hL.push hN hws)
  rw [List.map_cons, st_push hN hws] at hj'
  have e1 : cv (va_up ad N q) (vR N) = .ref q := by show va_rf (some (va_up ad N q N)) = _; rw [va_up_self]; rfl
  rw [e1] at hj'
  exact hj'

theorem r_newZ (hx : p.tables.exec = Jvm.exec) (hb : c.code = cc) (hG : ∀ w ∈ wG, w.before args s = true) (hK : va_K (gD E) vwCl (gT E) s) (hAm : AmbH E s) {a : Int} (hw0 : Jvm.Cond.arrayClass .boolean ∈ wG) (hd : decode cc pc = .ok (.newarray .boolean, 2)) (ha : 0 ≤ a ∧ a < 100000) (hc1 : k + 1 ≤ R.cells) (hc2 : n + a.toNat ≤ R.slots) (hN : N < aRO) (hw : wfH N h) (hws : wfS N lv r) (hj : amJ p l e R s m args below meth c Qf E ad0 N0 nL (pc + 2) lv (vR N :: r) (va_up h N (eZ a.toNat (fun _ => 0))) (N + 1) (k + 1) (n + a.toNat)) : amJ p l e R s m args below meth c Qf E ad0 N0 nL pc lv (vI a :: r) h N k n := by
  intro ad H locs ls hR hL
  have hr : inR a := ⟨by omega, by omega⟩
  refine va_newa (atype := .boolean) (ty := .boolean) (a0 := (a.toNat, (.inl (fun _ => 0)))) hx hb (hG _ hw0) rfl hK hR.1.1 hR.1.2.1 hR.2.1 (fun q hq => Nat.le_trans hAm.1 hq) (fun cA => rfl) (n := iI a) (N' := a.toNat) (by rw [← iI_0, iI_lt hr inR_0]; omega) (iI_cl ha.1 (by omega)) (by show a.toNat * _ ≤ _; simp only [componentBytes]; omega) hc1 hc2 hd (fun q cA H1 hK' hP hD hS => ?_)
  have e0 : cA = gZ E := by
    have h1 := (hK'.2 4 (cA, .boolean) rfl).2
    have h2 := (hK.2 1 (gZ E, .boolean) rfl).2
    exact Option.some.inj (h1.symm.trans h2)
  subst e0
  have hj' := hj (va_up ad N q) H1 locs ls (hR.push hN hw (e := eZ a.toNat (fun _ => 0)) rfl hP hD hS) (hL.push hN hws)
  rw [List.map_cons, st_push hN hws] at hj'
  have e1 : cv (va_up ad N q) (vR N) = .ref q := by show va_rf (some (va_up ad N q N)) = _; rw [va_up_self]; rfl
  rw [e1] at hj'
  exact hj'

theorem r_newL (hx : p.tables.exec = Jvm.exec) (hb : c.code = cc) (hG : ∀ w ∈ wG, w.before args s = true) (hK : va_K (gD E) vwCl (gT E) s) (hAm : AmbH E s) {a : Int} (hw0 : Jvm.Cond.arrayClass .long ∈ wG) (hd : decode cc pc = .ok (.newarray .long, 2)) (ha : 0 ≤ a ∧ a < 100000) (hc1 : k + 1 ≤ R.cells) (hc2 : n + a.toNat ≤ R.slots) (hN : N < aRO) (hw : wfH N h) (hws : wfS N lv r) (hj : amJ p l e R s m args below meth c Qf E ad0 N0 nL (pc + 2) lv (vR N :: r) (va_up h N (eL a.toNat (fun _ => 0))) (N + 1) (k + 1) (n + a.toNat)) : amJ p l e R s m args below meth c Qf E ad0 N0 nL pc lv (vI a :: r) h N k n := by
  intro ad H locs ls hR hL
  have hr : inR a := ⟨by omega, by omega⟩
  refine va_newa (atype := .long) (ty := .long) (a0 := (a.toNat, (.inr (.inl (fun _ => 0))))) hx hb (hG _ hw0) rfl hK hR.1.1 hR.1.2.1 hR.2.1 (fun q hq => Nat.le_trans hAm.1 hq) (fun cA => rfl) (n := iI a) (N' := a.toNat) (by rw [← iI_0, iI_lt hr inR_0]; omega) (iI_cl ha.1 (by omega)) (by show a.toNat * _ ≤ _; simp only [componentBytes]; omega) hc1 hc2 hd (fun q cA H1 hK' hP hD hS => ?_)
  have e0 : cA = gJ E := by
    have h1 := (hK'.2 4 (cA, .long) rfl).2
    have h2 := (hK.2 2 (gJ E, .long) rfl).2
    exact Option.some.inj (h1.symm.trans h2)
  subst e0
  have hj' := hj (va_up ad N q) H1 locs ls (hR.push hN hw (e := eL a.toNat (fun _ => 0)) rfl hP hD hS) (hL.push hN hws)
  rw [List.map_cons, st_push hN hws] at hj'
  have e1 : cv (va_up ad N q) (vR N) = .ref q := by show va_rf (some (va_up ad N q N)) = _; rw [va_up_self]; rfl
  rw [e1] at hj'
  exact hj'

theorem r_newR (hx : p.tables.exec = Jvm.exec) (hb : c.code = cc) (hG : ∀ w ∈ wG, w.before args s = true) (hK : va_K (gD E) vwCl (gT E) s) (hAm : AmbH E s) (hAO : va_AO RX6 s) {own : String} (hown : s.vm.findClass own = some m.cls) {a : Int} {x : Nat} (hw0 : Jvm.Cond.classLink own x RX6 ∈ wG) (hd : decode cc pc = .ok (.anewarray x, 3)) (ha : 0 ≤ a ∧ a < 100000) (hc1 : k + 1 ≤ R.cells) (hc2 : n + a.toNat ≤ R.slots) (hN : N < aRO) (hw : wfH N h) (hws : wfS N lv r) (hj : amJ p l e R s m args below meth c Qf E ad0 N0 nL (pc + 3) lv (vR N :: r) (va_up h N (eR a.toNat (fun _ => none))) (N + 1) (k + 1) (n + a.toNat)) : amJ p l e R s m args below meth c Qf E ad0 N0 nL pc lv (vI a :: r) h N k n := by
  intro ad H locs ls hR hL
  have hr : inR a := ⟨by omega, by omega⟩
  refine va_newq hx hb hown (hG _ hw0) hAO hK hR.1.1 hR.1.2.1 hR.2.1 (fun q hq => Nat.le_trans hAm.1 hq) (n := iI a) (N' := a.toNat) (by rw [← iI_0, iI_lt hr inR_0]; omega) (iI_cl ha.1 (by omega)) (by omega) hc1 hc2 hd (fun q cA H1 hK' hP hD hS => ?_)
  have e0 : cA = gS E := by
    obtain ⟨_, _, _, _, _, h1⟩ := (hK'.2 4 (cA, .object RX6) rfl).2
    obtain ⟨_, _, _, _, _, h2⟩ := (hK.2 3 (gS E, .object RX6) rfl).2
    exact Option.some.inj (h1.symm.trans h2)
  subst e0
  have hj' := hj (va_up ad N q) H1 locs ls (hR.push hN hw (e := eR a.toNat (fun _ => none)) rfl hP hD hS) (hL.push hN hws)
  rw [List.map_cons, st_push hN hws] at hj'
  have e1 : cv (va_up ad N q) (vR N) = .ref q := by show va_rf (some (va_up ad N q N)) = _; rw [va_up_self]; rfl
  rw [e1] at hj'
  exact hj'

theorem r_copy (hx : p.tables.exec = Jvm.exec) (hb : c.code = cc) (hG : ∀ w ∈ wG, w.before args s = true) (hK : va_K (gD E) vwCl (gT E) s) (hml : c.maxLocals = nL) {own : String} (hown : s.vm.findClass own = some m.cls) {x a b mm mm' : Nat} {sp dp ln : Int} {f g : Nat → Int} (hw : Jvm.Cond.methodLink own x arraycopyName ∈ wG ∧ Jvm.Cond.native arraycopyName ∈ wG ∧ Jvm.Cond.static arraycopyName ∈ wG ∧ Jvm.Cond.initialized "java/lang/System" ∈ wG) (hf1 : 1 ≤ R.frames) (hl1 : 100 ≤ R.locals) (hcat : aCats r ≤ 8) (hd : decode cc pc = .ok (.invokestatic x, 3)) (ha : a < N) (hbN : b < N) (he : h a = eI mm f) (hbe : h b = eI mm' g) (hi : 0 ≤ sp ∧ 0 ≤ dp ∧ 0 ≤ ln ∧ sp + ln ≤ mm ∧ dp + ln ≤ mm' ∧ mm < 2147483648 ∧ mm' < 2147483648) (hj : amJ p l e R s m args below meth c Qf E ad0 N0 nL (pc + 3) lv r (va_up h b (eI mm' (aCpy f g sp.toNat dp.toNat ln.toNat))) N k n) : amJ p l e R s m args below meth c Qf E ad0 N0 nL pc lv (vI ln :: vI dp :: vR b :: vI sp :: vR a :: r) h N k n := by
  intro ad H locs ls hR hL
  obtain ⟨i1, i2, i3, i4, i5, i6, i7⟩ := hi
  have e1 : (iI sp).toNatClampNeg = sp.toNat := iI_cl i1 (by omega)
  have e2 : (iI dp).toNatClampNeg = dp.toNat := iI_cl i2 (by omega)
  have e3 : (iI ln).toNatClampNeg = ln.toNat := iI_cl i3 (by omega)
  have hset : (wl E ad h N).set b (ad b, .inl (gI E, mm', .inl (va_cpy (fun j => iI (f j)) (fun j => iI (g j)) (iI sp).toNatClampNeg (iI dp).toNatClampNeg (iI ln).toNatClampNeg))) = wl E ad (va_up h b (eI mm' (aCpy f g sp.toNat dp.toNat ln.toNat))) N := by
    rw [← wl_set, e1, e2, e3]
    have : va_cpy (fun j => iI (f j)) (fun j => iI (g j)) sp.toNat dp.toNat ln.toNat = fun j => iI (aCpy f g sp.toNat dp.toNat ln.toNat j) := by
      funext q
      by_cases hq : dp.toNat ≤ q ∧ q < dp.toNat + ln.toNat
      · rw [pk_cpy_in hq.1 hq.2]
        simp [aCpy, hq]
      · rw [pk_cpy_out (by omega)]
        simp only [aCpy, if_neg hq]
    rw [this]
    rfl
  have hnf : nativeFrameWords "java/lang/System" "arraycopy" 5 + 11 ≤ 92 := by decide +kernel
  exact va_copyi (f := fun j => iI (f j)) (g := fun j => iI (g j)) (ty := .int) (sp := iI sp) (dp := iI dp) (n := iI ln) hx hb (by rw [hml]; exact hL.size.symm) hown (hG _ hw.1) (hG _ hw.2.1) (hG _ hw.2.2.1) (hG _ hw.2.2.2) hK hR.1.1 hR.1.2.1 hR.2.1 a b 0 0 (by rw [wl_get ha, he]; rfl) (by rw [wl_get hbN, hbe]; rfl) rfl rfl rfl
    (by rw [← iI_0, iI_lt ⟨by omega, by omega⟩ inR_0]; omega) (by rw [← iI_0, iI_lt ⟨by omega, by omega⟩ inR_0]; omega) (by rw [← iI_0, iI_lt ⟨by omega, by omega⟩ inR_0]; omega) (by rw [e1, e3]; omega) (by rw [e2, e3]; omega) (fun i _ => rfl) hf1 (by rw [cats_cv]; omega) hd
    (fun H1 locs1 hP hD hS => hj ad H1 locs1 ls (hR.put hbN (by rw [← hset]; exact hP) (by rw [← hset]; exact hD) hS) hL)
end AMH
end
section
/-! ===== the tables of the small machine, by program out of the printed names ===== -/
def cd_X0_succeeds : List (Nat × ARow) := [(0, .iload_n 2, 1, []), (1, .sipush 1000, 4, []), (4, .idiv, 5, []), (5, .bipush 10, 7, []), (7, .irem, 8, []), (8, .istore_n 3, 9, []), (9, .iload_n 2, 10, []), (10, .bipush 100, 12, []), (12, .idiv, 13, []), (13, .bipush 10, 15, []), (15, .irem, 16, []), (16, .istore 4, 18, []), (18, .iload_n 2, 19, []), (19, .bipush 10, 21, []), (21, .idiv, 22, []), (22, .bipush 10, 24, []), (24, .irem, 25, []), (25, .istore 5, 27, []), (27, .iload_n 2, 28, []), (28, .bipush 10, 30, []), (30, .irem, 31, []), (31, .istore 6, 33, []), (33, .bipush 10, 35, []), (35, .iload_n 3, 36, []), (36, .imul, 37, []), (37, .iload 4, 39, []), (39, .iadd, 40, []), (40, .istore 7, 42, []), (42, .bipush 10, 44, []), (44, .iload 5, 46, []), (46, .imul, 47, []), (47, .iload 6, 49, []), (49, .iadd, 50, []), (50, .istore 8, 52, []), (52, .bipush 100, 54, []), (54, .iload 4, 56, []), (56, .imul, 57, []), (57, .iload 8, 59, []), (59, .iadd, 60, []), (60, .istore 9, 62, []), (62, .iload_n 2, 63, []), (63, .sipush 10000, 66, []), (66, .idiv, 67, []), (67, .tableswitch 281 1 9 #[49, 58, 107, 129, 149, 173, 196, 227, 261], 116, [348, 116, 125, 174, 196, 216, 240, 263, 294, 328]), (116, .aload_n 0, 117, []), (117, .iload 7, 119, []), (119, .iload 8, 121, []), (121, .invokestatic 9, 124, []), (124, .ireturn, 125, []), (125, .iload 5, 127, []), (127, .iconst 1, 128, []), (128, .if_icmp .gt 44, 131, [172]), (131, .iload 6, 133, []), (133, .iconst 1, 134, []), (134, .if_icmp .gt 38, 137, [172]), (137, .aload_n 0, 138, []), (138, .iload 7, 140, []), (140, .iload 5, 142, []), (142, .iconst 1, 143, []), (143, .if_icmp .ne 7, 146, [150]), (146, .iconst 1, 147, []), (147, .goto 4, 150, [151]), (150, .iconst 0, 151, []), (151, .iload 6, 153, []), (153, .iconst 1, 154, []), (154, .if_icmp .ne 7, 157, [161]), (157, .iconst 1, 158, []), (158, .goto 4, 161, [162]), (161, .iconst 0, 162, []), (162, .invokevirtual 15, 165, []), (165, .ifCond .eq 7, 168, [172]), (168, .iconst 1, 169, []), (169, .goto 4, 172, [173]), (172, .iconst 0, 173, []), (173, .ireturn, 174, []), (174, .iload 6, 176, []), (176, .ifCond .ne 18, 179, [194]), (179, .aload_n 0, 180, []), (180, .iload 7, 182, []), (182, .iload 5, 184, []), (184, .invokestatic 21, 187, []), (187, .ifCond .eq 7, 190, [194]), (190, .iconst 1, 191, []), (191, .goto 4, 194, [195]), (194, .iconst 0, 195, []), (195, .ireturn, 196, []), (196, .iload 8, 198, []), (198, .ifCond .ne 16, 201, [214]), (201, .aload_n 0, 202, []), (202, .iload 7, 204, []), (204, .invokestatic 24, 207, []), (207, .ifCond .eq 7, 210, [214]), (210, .iconst 1, 211, []), (211, .goto 4, 214, [215]), (214, .iconst 0, 215, []), (215, .ireturn, 216, []), (216, .iload 4, 218, []), (218, .ifCond .ne 20, 221, [238]), (221, .iload 8, 223, []), (223, .ifCond .ne 15, 226, [238]), (226, .aload_n 0, 227, []), (227, .iload_n 3, 228, []), (228, .invokestatic 28, 231, []), (231, .ifCond .eq 7, 234, [238]), (234, .iconst 1, 235, []), (235, .goto 4, 238, [239]), (238, .iconst 0, 239, []), (239, .ireturn, 240, []), (240, .iload_n 3, 241, []), (241, .ifCond .ne 20, 244, [261]), (244, .aload_n 1, 245, []), (245, .aload_n 0, 246, []), (246, .iconst 0, 247, []), (247, .iload 9, 249, []), (249, .invokevirtual 33, 252, []), (252, .iload 9, 254, []), (254, .if_icmp .lt 7, 257, [261]), (257, .iconst 1, 258, []), (258, .goto 4, 261, [262]), (261, .iconst 0, 262, []), (262, .ireturn, 263, []), (263, .iload 5, 265, []), (265, .ifCond .ne 27, 268, [292]), (268, .aload_n 0, 269, []), (269, .iload 7, 271, []), (271, .invokevirtual 39, 274, []), (274, .ifCond .eq 18, 277, [292]), (277, .aload_n 0, 278, []), (278, .iload 7, 280, []), (280, .invokevirtual 43, 283, []), (283, .iload 6, 285, []), (285, .if_icmp .lt 7, 288, [292]), (288, .iconst 1, 289, []), (289, .goto 4, 292, [293]), (292, .iconst 0, 293, []), (293, .ireturn, 294, []), (294, .iload 5, 296, []), (296, .ifCond .ne 30, 299, [326]), (299, .aload_n 0, 300, []), (300, .getfield 47, 303, []), (303, .iload 7, 305, []), (305, .invokevirtual 51, 308, []), (308, .ifCond .eq 18, 311, [326]), (311, .aload_n 0, 312, []), (312, .iload 7, 314, []), (314, .invokevirtual 56, 317, []), (317, .iload 6, 319, []), (319, .if_icmp .ne 7, 322, [326]), (322, .iconst 1, 323, []), (323, .goto 4, 326, [327]), (326, .iconst 0, 327, []), (327, .ireturn, 328, []), (328, .iload 7, 330, []), (330, .ifCond .ne 16, 333, [346]), (333, .aload_n 0, 334, []), (334, .getfield 59, 337, []), (337, .iload 8, 339, []), (339, .if_icmp .ne 7, 342, [346]), (342, .iconst 1, 343, []), (343, .goto 4, 346, [347]), (346, .iconst 0, 347, []), (347, .ireturn, 348, []), (348, .iconst 0, 349, []), (349, .ireturn, 350, [])]
def mi_X0_succeeds : MI := (cd_X0_succeeds, [(47, 3, 0), (59, 3, 1)], [(9, 1, 1, 3, 0, 0, 0), (15, 28, 0, 4, 0, 0, 3), (21, 2, 1, 3, 0, 0, 0), (24, 3, 1, 2, 0, 0, 0), (28, 48, 1, 2, 0, 0, 0), (33, 11, 0, 4, 0, 0, 1), (39, 31, 0, 2, 0, 0, 3), (43, 43, 0, 2, 0, 0, 3), (51, 58, 0, 2, 0, 0, 4), (56, 38, 0, 2, 0, 0, 3)], [], [], [], [], 0, 0, 1)
def cd_X0_putsLetter : List (Nat × ARow) := [(0, .iload_n 2, 1, []), (1, .bipush 99, 3, []), (3, .if_icmp .ne 7, 6, [10]), (6, .iconst 0, 7, []), (7, .goto 7, 10, [14]), (10, .bipush 97, 12, []), (12, .iload_n 2, 13, []), (13, .iadd, 14, []), (14, .istore_n 3, 15, []), (15, .aload_n 0, 16, []), (16, .getfield 47, 19, []), (19, .iload_n 1, 20, []), (20, .invokevirtual 51, 23, []), (23, .ifCond .eq 14, 26, [37]), (26, .iload_n 3, 27, []), (27, .ifCond .eq 12, 30, [39]), (30, .iload_n 3, 31, []), (31, .invokestatic 63, 34, []), (34, .ifCond .ne 5, 37, [39]), (37, .iconst 0, 38, []), (38, .ireturn, 39, []), (39, .aload_n 0, 40, []), (40, .getfield 47, 43, []), (43, .iload_n 1, 44, []), (44, .iload_n 3, 45, []), (45, .invokevirtual 66, 48, []), (48, .iconst 1, 49, []), (49, .ireturn, 50, [])]
def mi_X0_putsLetter : MI := (cd_X0_putsLetter, [(47, 3, 0)], [(51, 58, 0, 2, 0, 0, 4), (63, 122, 3, 1, 0, 0, 0), (66, 62, 0, 3, 0, 0, 4)], [], [], [], [], 0, 0, 1)
def cd_X0_fillsEntry : List (Nat × ARow) := [(0, .aload_n 0, 1, []), (1, .iload_n 1, 2, []), (2, .iload_n 2, 3, []), (3, .invokevirtual 70, 6, []), (6, .ifCond .ne 5, 9, [11]), (9, .iconst 0, 10, []), (10, .ireturn, 11, []), (11, .aload_n 0, 12, []), (12, .iload_n 1, 13, []), (13, .iload_n 2, 14, []), (14, .invokevirtual 74, 17, []), (17, .pop, 18, []), (18, .iconst 1, 19, []), (19, .ireturn, 20, [])]
def mi_X0_fillsEntry : MI := (cd_X0_fillsEntry, [], [(70, 42, 0, 3, 0, 0, 3), (74, 45, 0, 3, 0, 0, 3)], [], [], [], [], 0, 0, 1)
def cd_X0_clearsEntry : List (Nat × ARow) := [(0, .aload_n 0, 1, []), (1, .iload_n 1, 2, []), (2, .invokevirtual 39, 5, []), (5, .ifCond .ne 5, 8, [10]), (8, .iconst 0, 9, []), (9, .ireturn, 10, []), (10, .aload_n 0, 11, []), (11, .iload_n 1, 12, []), (12, .invokevirtual 78, 15, []), (15, .pop, 16, []), (16, .iconst 1, 17, []), (17, .ireturn, 18, [])]
def mi_X0_clearsEntry : MI := (cd_X0_clearsEntry, [], [(39, 31, 0, 2, 0, 0, 3), (78, 46, 0, 2, 0, 0, 3)], [], [], [], [], 0, 0, 1)
def cd_X1_init : List (Nat × ARow) := [(0, .aload_n 0, 1, []), (1, .invokespecial 3, 4, []), (4, .aload_n 0, 5, []), (5, .iconst 0, 6, []), (6, .putfield 9, 9, []), (9, .aload_n 0, 10, []), (10, .iconst 0, 11, []), (11, .putfield 15, 14, []), (14, .aload_n 0, 15, []), (15, .bipush 8, 17, []), (17, .newarray .int, 19, []), (19, .putfield 18, 22, []), (22, .aload_n 0, 23, []), (23, .bipush 8, 25, []), (25, .newarray .int, 27, []), (27, .putfield 22, 30, []), (30, .return_, 31, [])]
def mi_X1_init : MI := (cd_X1_init, [(9, 0, 0), (15, 0, 1), (18, 0, 2), (22, 0, 3)], [(3, 0, 5, 1, 0, 0, 0)], [], [], [], [], 2, 16, 0)
def cd_X1_count : List (Nat × ARow) := [(0, .aload_n 0, 1, []), (1, .iconst 0, 2, []), (2, .putfield 9, 5, []), (5, .aload_n 0, 6, []), (6, .iconst 0, 7, []), (7, .putfield 15, 10, []), (10, .aload_n 1, 11, []), (11, .getfield 25, 14, []), (14, .aload_n 1, 15, []), (15, .getfield 30, 18, []), (18, .getfield 34, 21, []), (21, .if_icmp .le 5, 24, [26]), (24, .iconst 0, 25, []), (25, .ireturn, 26, []), (26, .iconst 0, 27, []), (27, .istore_n 2, 28, []), (28, .iload_n 2, 29, []), (29, .aload_n 1, 30, []), (30, .getfield 25, 33, []), (33, .if_icmp .ge 26, 36, [59]), (36, .iload_n 2, 37, []), (37, .bipush 8, 39, []), (39, .if_icmp .ge 20, 42, [59]), (42, .aload_n 0, 43, []), (43, .getfield 18, 46, []), (46, .iload_n 2, 47, []), (47, .aload_n 1, 48, []), (48, .iload_n 2, 49, []), (49, .invokestatic 39, 52, []), (52, .iastore, 53, []), (53, .iinc 2 1, 56, []), (56, .goto (-28), 59, [28]), (59, .aload_n 0, 60, []), (60, .aload_n 1, 61, []), (61, .iconst 0, 62, []), (62, .invokevirtual 43, 65, []), (65, .aload_n 0, 66, []), (66, .getfield 9, 69, []), (69, .ireturn, 70, [])]
def mi_X1_count : MI := (cd_X1_count, [(9, 0, 0), (15, 0, 1), (18, 0, 2), (25, 3, 1), (30, 3, 0), (34, 4, 2)], [(39, 6, 1, 2, 0, 0, 0), (43, 7, 0, 3, 0, 0, 0)], [], [], [], [], 0, 0, 0)
def cd_X1_wordsThatFit : List (Nat × ARow) := [(0, .iconst 0, 1, []), (1, .istore_n 2, 2, []), (2, .iconst 0, 3, []), (3, .istore_n 3, 4, []), (4, .iload_n 3, 5, []), (5, .aload_n 0, 6, []), (6, .getfield 30, 9, []), (9, .getfield 34, 12, []), (12, .if_icmp .ge 24, 15, [36]), (15, .aload_n 0, 16, []), (16, .iload_n 1, 17, []), (17, .iload_n 3, 18, []), (18, .invokevirtual 47, 21, []), (21, .ifCond .eq 9, 24, [30]), (24, .iload_n 2, 25, []), (25, .iconst 1, 26, []), (26, .iload_n 3, 27, []), (27, .ishl, 28, []), (28, .ior, 29, []), (29, .istore_n 2, 30, []), (30, .iinc 3 1, 33, []), (33, .goto (-29), 36, [4]), (36, .iload_n 2, 37, []), (37, .ireturn, 38, [])]
def mi_X1_wordsThatFit : MI := (cd_X1_wordsThatFit, [(30, 3, 0), (34, 4, 2)], [(47, 42, 0, 3, 0, 0, 3)], [], [], [], [], 0, 0, 0)
def cd_X1_giveFrom : List (Nat × ARow) := [(0, .iload_n 2, 1, []), (1, .aload_n 1, 2, []), (2, .getfield 25, 5, []), (5, .if_icmp .lt 14, 8, [19]), (8, .aload_n 0, 9, []), (9, .dup, 10, []), (10, .getfield 9, 13, []), (13, .iconst 1, 14, []), (14, .iadd, 15, []), (15, .putfield 9, 18, []), (18, .return_, 19, []), (19, .iload_n 2, 20, []), (20, .ifCond .lt 9, 23, [29]), (23, .iload_n 2, 24, []), (24, .bipush 8, 26, []), (26, .if_icmp .lt 4, 29, [30]), (29, .return_, 30, []), (30, .iconst 0, 31, []), (31, .istore_n 3, 32, []), (32, .iload_n 3, 33, []), (33, .aload_n 1, 34, []), (34, .getfield 30, 37, []), (37, .getfield 34, 40, []), (40, .if_icmp .ge 59, 43, [99]), (43, .aload_n 0, 44, []), (44, .getfield 18, 47, []), (47, .iload_n 2, 48, []), (48, .iaload, 49, []), (49, .aload_n 0, 50, []), (50, .getfield 15, 53, []), (53, .iconst (-1), 54, []), (54, .ixor, 55, []), (55, .iand, 56, []), (56, .iload_n 3, 57, []), (57, .ishr, 58, []), (58, .iconst 1, 59, []), (59, .iand, 60, []), (60, .iconst 1, 61, []), (61, .if_icmp .ne 7, 64, [68]), (64, .iconst 1, 65, []), (65, .goto 4, 68, [69]), (68, .iconst 0, 69, []), (69, .istore 4, 71, []), (71, .iload 4, 73, []), (73, .ifCond .eq 20, 76, [93]), (76, .aload_n 0, 77, []), (77, .aload_n 1, 78, []), (78, .iload_n 2, 79, []), (79, .iload_n 3, 80, []), (80, .invokevirtual 51, 83, []), (83, .ifCond .eq 10, 86, [93]), (86, .aload_n 0, 87, []), (87, .aload_n 1, 88, []), (88, .iload_n 2, 89, []), (89, .iload_n 3, 90, []), (90, .invokevirtual 55, 93, []), (93, .iinc 3 1, 96, []), (96, .goto (-64), 99, [32]), (99, .return_, 100, [])]
def mi_X1_giveFrom : MI := (cd_X1_giveFrom, [(9, 0, 0), (15, 0, 1), (18, 0, 2), (25, 3, 1), (30, 3, 0), (34, 4, 2)], [(51, 9, 0, 4, 0, 0, 0), (55, 8, 0, 4, 0, 0, 0)], [], [], [], [], 0, 0, 0)
def cd_X1_give : List (Nat × ARow) := [(0, .iload_n 2, 1, []), (1, .ifCond .lt 9, 4, [10]), (4, .iload_n 2, 5, []), (5, .bipush 8, 7, []), (7, .if_icmp .lt 4, 10, [11]), (10, .return_, 11, []), (11, .aload_n 0, 12, []), (12, .getfield 22, 15, []), (15, .iload_n 2, 16, []), (16, .iload_n 3, 17, []), (17, .iastore, 18, []), (18, .aload_n 0, 19, []), (19, .dup, 20, []), (20, .getfield 15, 23, []), (23, .iconst 1, 24, []), (24, .iload_n 3, 25, []), (25, .ishl, 26, []), (26, .ior, 27, []), (27, .putfield 15, 30, []), (30, .aload_n 0, 31, []), (31, .aload_n 1, 32, []), (32, .iload_n 2, 33, []), (33, .iconst 1, 34, []), (34, .iadd, 35, []), (35, .invokevirtual 43, 38, []), (38, .aload_n 0, 39, []), (39, .dup, 40, []), (40, .getfield 15, 43, []), (43, .iconst 1, 44, []), (44, .iload_n 3, 45, []), (45, .ishl, 46, []), (46, .iconst (-1), 47, []), (47, .ixor, 48, []), (48, .iand, 49, []), (49, .putfield 15, 52, []), (52, .return_, 53, [])]
def mi_X1_give : MI := (cd_X1_give, [(15, 0, 1), (22, 0, 3)], [(43, 7, 0, 3, 0, 0, 0)], [], [], [], [], 0, 0, 0)
def cd_X1_agrees : List (Nat × ARow) := [(0, .iconst 0, 1, []), (1, .istore 4, 3, []), (3, .iload 4, 5, []), (5, .aload_n 1, 6, []), (6, .iload_n 2, 7, []), (7, .invokevirtual 59, 10, []), (10, .if_icmp .ge 98, 13, [108]), (13, .aload_n 1, 14, []), (14, .iload_n 2, 15, []), (15, .iload 4, 17, []), (17, .invokevirtual 63, 20, []), (20, .istore 5, 22, []), (22, .aload_n 1, 23, []), (23, .iload 5, 25, []), (25, .aload_n 1, 26, []), (26, .iload_n 2, 27, []), (27, .invokevirtual 67, 30, []), (30, .ifCond .ne 7, 33, [37]), (33, .iconst 1, 34, []), (34, .goto 4, 37, [38]), (37, .iconst 0, 38, []), (38, .invokevirtual 71, 41, []), (41, .istore 6, 43, []), (43, .iload 6, 45, []), (45, .ifCond .lt 57, 48, [102]), (48, .iload 6, 50, []), (50, .iload_n 2, 51, []), (51, .if_icmp .ge 51, 54, [102]), (54, .iload 6, 56, []), (56, .bipush 8, 58, []), (58, .if_icmp .ge 44, 61, [102]), (61, .aload_n 1, 62, []), (62, .getfield 30, 65, []), (65, .aload_n 0, 66, []), (66, .getfield 22, 69, []), (69, .iload 6, 71, []), (71, .iaload, 72, []), (72, .aload_n 1, 73, []), (73, .iload 6, 75, []), (75, .iload 5, 77, []), (77, .invokevirtual 75, 80, []), (80, .invokevirtual 78, 83, []), (83, .istore 7, 85, []), (85, .iload 7, 87, []), (87, .aload_n 1, 88, []), (88, .getfield 30, 91, []), (91, .iload_n 3, 92, []), (92, .iload 4, 94, []), (94, .invokevirtual 78, 97, []), (97, .if_icmp .eq 5, 100, [102]), (100, .iconst 0, 101, []), (101, .ireturn, 102, []), (102, .iinc 4 1, 105, []), (105, .goto (-102), 108, [3]), (108, .iconst 1, 109, []), (109, .ireturn, 110, [])]
def mi_X1_agrees : MI := (cd_X1_agrees, [(22, 0, 3), (30, 3, 0)], [(59, 33, 0, 2, 0, 0, 3), (63, 34, 0, 3, 0, 0, 3), (67, 32, 0, 2, 0, 0, 3), (71, 36, 0, 3, 0, 0, 3), (75, 35, 0, 3, 0, 0, 3), (78, 71, 0, 3, 0, 0, 4)], [], [], [], [], 0, 0, 1)
def cd_X2_init : List (Nat × ARow) := [(0, .aload_n 0, 1, []), (1, .invokespecial 3, 4, []), (4, .aload_n 0, 5, []), (5, .iconst 0, 6, []), (6, .putfield 9, 9, []), (9, .aload_n 0, 10, []), (10, .iconst 0, 11, []), (11, .putfield 15, 14, []), (14, .aload_n 0, 15, []), (15, .iconst 0, 16, []), (16, .putfield 19, 19, []), (19, .aload_n 0, 20, []), (20, .iconst 0, 21, []), (21, .putfield 22, 24, []), (24, .aload_n 0, 25, []), (25, .lconst 0, 26, []), (26, .putfield 25, 29, []), (29, .aload_n 0, 30, []), (30, .bipush 6, 32, []), (32, .newarray .int, 34, []), (34, .putfield 29, 37, []), (37, .aload_n 0, 38, []), (38, .bipush 6, 40, []), (40, .newarray .int, 42, []), (42, .putfield 33, 45, []), (45, .return_, 46, [])]
def mi_X2_init : MI := (cd_X2_init, [(9, 1, 0), (15, 1, 1), (19, 1, 2), (22, 1, 3), (25, 1, 4), (29, 1, 5), (33, 1, 6)], [(3, 0, 5, 1, 0, 0, 0)], [], [], [], [], 2, 12, 0)
def cd_X2_count : List (Nat × ARow) := [(0, .aload_n 0, 1, []), (1, .iload_n 2, 2, []), (2, .putfield 9, 5, []), (5, .aload_n 0, 6, []), (6, .iload_n 3, 7, []), (7, .putfield 15, 10, []), (10, .aload_n 0, 11, []), (11, .iconst 0, 12, []), (12, .putfield 19, 15, []), (15, .aload_n 0, 16, []), (16, .iconst 0, 17, []), (17, .putfield 22, 20, []), (20, .aload_n 0, 21, []), (21, .lconst 0, 22, []), (22, .putfield 25, 25, []), (25, .iconst 0, 26, []), (26, .istore 4, 28, []), (28, .iload 4, 30, []), (30, .aload_n 1, 31, []), (31, .getfield 36, 34, []), (34, .invokevirtual 42, 37, []), (37, .if_icmp .ge 17, 40, [54]), (40, .aload_n 0, 41, []), (41, .aload_n 1, 42, []), (42, .iconst 0, 43, []), (43, .iload 4, 45, []), (45, .invokevirtual 48, 48, []), (48, .iinc 4 1, 51, []), (51, .goto (-23), 54, [28]), (54, .aload_n 0, 55, []), (55, .getfield 19, 58, []), (58, .ireturn, 59, [])]
def mi_X2_count : MI := (cd_X2_count, [(9, 1, 0), (15, 1, 1), (19, 1, 2), (22, 1, 3), (25, 1, 4), (36, 3, 0)], [(42, 57, 0, 1, 0, 0, 4), (48, 13, 0, 4, 0, 0, 1)], [], [], [], [], 0, 0, 0)
def cd_X2_cellOfFirst : List (Nat × ARow) := [(0, .iload_n 1, 1, []), (1, .ifCond .lt 26, 4, [27]), (4, .iload_n 1, 5, []), (5, .aload_n 0, 6, []), (6, .getfield 22, 9, []), (9, .if_icmp .ge 18, 12, [27]), (12, .iload_n 1, 13, []), (13, .bipush 6, 15, []), (15, .if_icmp .ge 12, 18, [27]), (18, .aload_n 0, 19, []), (19, .getfield 33, 22, []), (22, .iload_n 1, 23, []), (23, .iaload, 24, []), (24, .goto 5, 27, [29]), (27, .bipush (-9), 29, []), (29, .ireturn, 30, [])]
def mi_X2_cellOfFirst : MI := (cd_X2_cellOfFirst, [(22, 1, 3), (33, 1, 6)], [], [], [], [], [], 0, 0, 0)
def cd_X2_visit : List (Nat × ARow) := [(0, .aload_n 1, 1, []), (1, .getfield 36, 4, []), (4, .astore 4, 6, []), (6, .aload_n 0, 7, []), (7, .getfield 19, 10, []), (10, .aload_n 0, 11, []), (11, .getfield 15, 14, []), (14, .if_icmp .ge 32, 17, [46]), (17, .iload_n 2, 18, []), (18, .ifCond .lt 28, 21, [46]), (21, .iload_n 2, 22, []), (22, .aload 4, 24, []), (24, .getfield 52, 27, []), (27, .if_icmp .ge 19, 30, [46]), (30, .iload_n 2, 31, []), (31, .bipush 6, 33, []), (33, .if_icmp .ge 13, 36, [46]), (36, .aload_n 0, 37, []), (37, .aload_n 1, 38, []), (38, .iload_n 2, 39, []), (39, .iload_n 3, 40, []), (40, .invokevirtual 55, 43, []), (43, .ifCond .ne 4, 46, [47]), (46, .return_, 47, []), (47, .aload_n 0, 48, []), (48, .getfield 29, 51, []), (51, .iload_n 2, 52, []), (52, .iload_n 3, 53, []), (53, .iastore, 54, []), (54, .iload_n 2, 55, []), (55, .aload 4, 57, []), (57, .getfield 52, 60, []), (60, .iconst 1, 61, []), (61, .isub, 62, []), (62, .if_icmp .ne 11, 65, [73]), (65, .aload_n 0, 66, []), (66, .iload_n 2, 67, []), (67, .iconst 1, 68, []), (68, .iadd, 69, []), (69, .invokevirtual 59, 72, []), (72, .return_, 73, []), (73, .aload_n 0, 74, []), (74, .dup, 75, []), (75, .getfield 25, 78, []), (78, .lconst 1, 79, []), (79, .iload_n 3, 80, []), (80, .lshl, 81, []), (81, .lor, 82, []), (82, .putfield 25, 85, []), (85, .aload_n 0, 86, []), (86, .aload_n 1, 87, []), (87, .iload_n 2, 88, []), (88, .iload_n 3, 89, []), (89, .invokevirtual 63, 92, []), (92, .aload_n 0, 93, []), (93, .dup, 94, []), (94, .getfield 25, 97, []), (97, .lconst 1, 98, []), (98, .iload_n 3, 99, []), (99, .lshl, 100, []), (100, .ldc2_w 66, 103, []), (103, .lxor, 104, []), (104, .land, 105, []), (105, .putfield 25, 108, []), (108, .return_, 109, [])]
def mi_X2_visit : MI := (cd_X2_visit, [(15, 1, 1), (19, 1, 2), (25, 1, 4), (29, 1, 5), (36, 3, 0), (52, 4, 3)], [(55, 15, 0, 4, 0, 0, 1), (59, 16, 0, 2, 0, 0, 1), (63, 14, 0, 4, 0, 0, 1)], [], [], [], [(66, -1)], 0, 0, 0)
def cd_X2_visitBehind : List (Nat × ARow) := [(0, .aload_n 1, 1, []), (1, .getfield 36, 4, []), (4, .astore 4, 6, []), (6, .iconst 0, 7, []), (7, .istore 5, 9, []), (9, .iload 5, 11, []), (11, .getstatic 68, 14, [1001]), (14, .arraylength, 15, []), (15, .if_icmp .ge 97, 18, [112]), (18, .iload 5, 20, []), (20, .getstatic 71, 23, [1002]), (23, .arraylength, 24, []), (24, .if_icmp .ge 88, 27, [112]), (27, .aload 4, 29, []), (29, .iload_n 3, 30, []), (30, .invokevirtual 74, 33, []), (33, .getstatic 68, 36, [1001]), (36, .iload 5, 38, []), (38, .iaload, 39, []), (39, .iadd, 40, []), (40, .istore 6, 42, []), (42, .aload 4, 44, []), (44, .iload_n 3, 45, []), (45, .invokevirtual 78, 48, []), (48, .getstatic 71, 51, [1002]), (51, .iload 5, 53, []), (53, .iaload, 54, []), (54, .iadd, 55, []), (55, .istore 7, 57, []), (57, .iload 6, 59, []), (59, .ifCond .lt 47, 62, [106]), (62, .iload 6, 64, []), (64, .aload 4, 66, []), (66, .getfield 81, 69, []), (69, .if_icmp .ge 37, 72, [106]), (72, .iload 7, 74, []), (74, .ifCond .lt 32, 77, [106]), (77, .iload 7, 79, []), (79, .aload 4, 81, []), (81, .getfield 84, 84, []), (84, .if_icmp .ge 22, 87, [106]), (87, .aload_n 0, 88, []), (88, .aload_n 1, 89, []), (89, .iload_n 2, 90, []), (90, .iconst 1, 91, []), (91, .iadd, 92, []), (92, .iload 6, 94, []), (94, .aload 4, 96, []), (96, .getfield 84, 99, []), (99, .imul, 100, []), (100, .iload 7, 102, []), (102, .iadd, 103, []), (103, .invokevirtual 48, 106, []), (106, .iinc 5 1, 109, []), (109, .goto (-100), 112, [9]), (112, .return_, 113, [])]
def mi_X2_visitBehind : MI := (cd_X2_visitBehind, [(36, 3, 0), (81, 4, 0), (84, 4, 1)], [(48, 13, 0, 4, 0, 0, 1), (74, 60, 0, 2, 0, 0, 4), (78, 59, 0, 2, 0, 0, 4)], [], [], [], [], 0, 0, 0)
def cd_X2_isAllowed : List (Nat × ARow) := [(0, .aload_n 0, 1, []), (1, .getfield 25, 4, []), (4, .iload_n 3, 5, []), (5, .lshr, 6, []), (6, .lconst 1, 7, []), (7, .land, 8, []), (8, .lconst 1, 9, []), (9, .lcmp, 10, []), (10, .ifCond .eq 12, 13, [22]), (13, .aload_n 1, 14, []), (14, .iload_n 3, 15, []), (15, .invokevirtual 87, 18, []), (18, .iconst 1, 19, []), (19, .if_icmp .eq 5, 22, [24]), (22, .iconst 0, 23, []), (23, .ireturn, 24, []), (24, .aload_n 1, 25, []), (25, .getfield 36, 28, []), (28, .iload_n 3, 29, []), (29, .invokevirtual 90, 32, []), (32, .istore 4, 34, []), (34, .iload 4, 36, []), (36, .ifCond .ne 10, 39, [46]), (39, .aload_n 0, 40, []), (40, .getfield 9, 43, []), (43, .goto 21, 46, [64]), (46, .iload 4, 48, []), (48, .aload_n 1, 49, []), (49, .getfield 36, 52, []), (52, .iload_n 2, 53, []), (53, .invokevirtual 93, 56, []), (56, .if_icmp .ne 7, 59, [63]), (59, .iconst 1, 60, []), (60, .goto 4, 63, [64]), (63, .iconst 0, 64, []), (64, .ireturn, 65, [])]
def mi_X2_isAllowed : MI := (cd_X2_isAllowed, [(9, 1, 0), (25, 1, 4), (36, 3, 0)], [(87, 38, 0, 2, 0, 0, 3), (90, 61, 0, 2, 0, 0, 4), (93, 74, 0, 2, 0, 0, 4)], [], [], [], [], 0, 0, 1)
def cd_X2_keepPath : List (Nat × ARow) := [(0, .aload_n 0, 1, []), (1, .getfield 19, 4, []), (4, .ifCond .ne 23, 7, [27]), (7, .aload_n 0, 8, []), (8, .getfield 29, 11, []), (11, .iconst 0, 12, []), (12, .aload_n 0, 13, []), (13, .getfield 33, 16, []), (16, .iconst 0, 17, []), (17, .bipush 6, 19, []), (19, .invokestatic 96, 22, []), (22, .aload_n 0, 23, []), (23, .iload_n 1, 24, []), (24, .putfield 22, 27, []), (27, .aload_n 0, 28, []), (28, .dup, 29, []), (29, .getfield 19, 32, []), (32, .iconst 1, 33, []), (33, .iadd, 34, []), (34, .putfield 19, 37, []), (37, .return_, 38, [])]
def mi_X2_keepPath : MI := (cd_X2_keepPath, [(19, 1, 2), (22, 1, 3), (29, 1, 5), (33, 1, 6)], [(96, 0, 6, 5, 0, 0, 0)], [], [], [], [], 0, 0, 0)
def cd_X3_init : List (Nat × ARow) := [(0, .aload_n 0, 1, []), (1, .invokespecial 3, 4, []), (4, .aload_n 0, 5, []), (5, .iconst 0, 6, []), (6, .putfield 9, 9, []), (9, .aload_n 0, 10, []), (10, .iconst 0, 11, []), (11, .putfield 15, 14, []), (14, .aload_n 0, 15, []), (15, .bipush 14, 17, []), (17, .anewarray 18, 20, []), (20, .putfield 20, 23, []), (23, .aload_n 0, 24, []), (24, .iconst 2, 25, []), (25, .anewarray 18, 28, []), (28, .putfield 24, 31, []), (31, .aload_n 0, 32, []), (32, .iconst 2, 33, []), (33, .newarray .boolean, 35, []), (35, .putfield 27, 38, []), (38, .iconst 0, 39, []), (39, .istore_n 1, 40, []), (40, .iload_n 1, 41, []), (41, .bipush 14, 43, []), (43, .if_icmp .ge 22, 46, [65]), (46, .aload_n 0, 47, []), (47, .getfield 20, 50, []), (50, .iload_n 1, 51, []), (51, .new 18, 54, []), (54, .dup, 55, []), (55, .invokespecial 31, 58, []), (58, .aastore, 59, []), (59, .iinc 1 1, 62, []), (62, .goto (-22), 65, [40]), (65, .iconst 0, 66, []), (66, .istore_n 1, 67, []), (67, .iload_n 1, 68, []), (68, .iconst 2, 69, []), (69, .if_icmp .ge 22, 72, [91]), (72, .aload_n 0, 73, []), (73, .getfield 24, 76, []), (76, .iload_n 1, 77, []), (77, .new 18, 80, []), (80, .dup, 81, []), (81, .invokespecial 31, 84, []), (84, .aastore, 85, []), (85, .iinc 1 1, 88, []), (88, .goto (-21), 91, [67]), (91, .return_, 92, [])]
def mi_X3_init : MI := (cd_X3_init, [(9, 2, 0), (15, 2, 1), (20, 2, 2), (24, 2, 3), (27, 2, 4)], [(3, 0, 5, 1, 0, 0, 0), (31, 54, 4, 1, 4, 98, 0)], [], [], [(18, 4)], [], 83, 1746, 0)
def cd_X3_remember : List (Nat × ARow) := [(0, .aload_n 0, 1, []), (1, .getfield 9, 4, []), (4, .bipush 14, 6, []), (6, .if_icmp .ne 26, 9, [32]), (9, .aload_n 0, 10, []), (10, .aload_n 0, 11, []), (11, .getfield 15, 14, []), (14, .iconst 1, 15, []), (15, .iadd, 16, []), (16, .bipush 14, 18, []), (18, .irem, 19, []), (19, .putfield 15, 22, []), (22, .aload_n 0, 23, []), (23, .dup, 24, []), (24, .getfield 9, 27, []), (27, .iconst 1, 28, []), (28, .isub, 29, []), (29, .putfield 9, 32, []), (32, .aload_n 0, 33, []), (33, .aload_n 0, 34, []), (34, .getfield 9, 37, []), (37, .invokevirtual 32, 40, []), (40, .aload_n 1, 41, []), (41, .invokevirtual 36, 44, []), (44, .aload_n 0, 45, []), (45, .dup, 46, []), (46, .getfield 9, 49, []), (49, .iconst 1, 50, []), (50, .iadd, 51, []), (51, .putfield 9, 54, []), (54, .return_, 55, [])]
def mi_X3_remember : MI := (cd_X3_remember, [(9, 2, 0), (15, 2, 1)], [(32, 21, 0, 2, 0, 0, 2), (36, 55, 0, 2, 0, 0, 4)], [], [], [], [], 0, 0, 0)
def cd_X3_takeLast : List (Nat × ARow) := [(0, .aload_n 0, 1, []), (1, .getfield 9, 4, []), (4, .ifCond .le 13, 7, [17]), (7, .aload_n 0, 8, []), (8, .dup, 9, []), (9, .getfield 9, 12, []), (12, .iconst 1, 13, []), (13, .isub, 14, []), (14, .putfield 9, 17, []), (17, .aload_n 0, 18, []), (18, .aload_n 0, 19, []), (19, .getfield 9, 22, []), (22, .invokevirtual 32, 25, []), (25, .areturn, 26, [])]
def mi_X3_takeLast : MI := (cd_X3_takeLast, [(9, 2, 0)], [(32, 21, 0, 2, 0, 0, 2)], [], [], [], [], 0, 0, 0)
def cd_X3_forgetActions : List (Nat × ARow) := [(0, .aload_n 0, 1, []), (1, .iconst 0, 2, []), (2, .putfield 9, 5, []), (5, .return_, 6, [])]
def mi_X3_forgetActions : MI := (cd_X3_forgetActions, [(9, 2, 0)], [], [], [], [], [], 0, 0, 0)
def cd_X3_at : List (Nat × ARow) := [(0, .aload_n 0, 1, []), (1, .getfield 20, 4, []), (4, .aload_n 0, 5, []), (5, .getfield 15, 8, []), (8, .iload_n 1, 9, []), (9, .iadd, 10, []), (10, .bipush 14, 12, []), (12, .invokestatic 40, 15, []), (15, .aaload, 16, []), (16, .areturn, 17, [])]
def mi_X3_at : MI := (cd_X3_at, [(15, 2, 1), (20, 2, 2)], [(40, 206, 1, 2, 0, 0, 0)], [], [], [], [], 0, 0, 0)
def cd_X3_store : List (Nat × ARow) := [(0, .iload_n 1, 1, []), (1, .ifCond .lt 25, 4, [26]), (4, .iload_n 1, 5, []), (5, .iconst 2, 6, []), (6, .if_icmp .ge 20, 9, [26]), (9, .aload_n 0, 10, []), (10, .getfield 24, 13, []), (13, .iload_n 1, 14, []), (14, .aaload, 15, []), (15, .aload_n 2, 16, []), (16, .invokevirtual 36, 19, []), (19, .aload_n 0, 20, []), (20, .getfield 27, 23, []), (23, .iload_n 1, 24, []), (24, .iconst 1, 25, []), (25, .bastore, 26, []), (26, .return_, 27, [])]
def mi_X3_store : MI := (cd_X3_store, [(24, 2, 3), (27, 2, 4)], [(36, 55, 0, 2, 0, 0, 4)], [], [], [], [], 0, 0, 0)
def cd_X3_isStored : List (Nat × ARow) := [(0, .iload_n 1, 1, []), (1, .ifCond .lt 21, 4, [22]), (4, .iload_n 1, 5, []), (5, .iconst 2, 6, []), (6, .if_icmp .ge 16, 9, [22]), (9, .aload_n 0, 10, []), (10, .getfield 27, 13, []), (13, .iload_n 1, 14, []), (14, .baload, 15, []), (15, .ifCond .eq 7, 18, [22]), (18, .iconst 1, 19, []), (19, .goto 4, 22, [23]), (22, .iconst 0, 23, []), (23, .ireturn, 24, [])]
def mi_X3_isStored : MI := (cd_X3_isStored, [(27, 2, 4)], [], [], [], [], [], 0, 0, 1)
def cd_X3_stored : List (Nat × ARow) := [(0, .iload_n 1, 1, []), (1, .ifCond .lt 17, 4, [18]), (4, .iload_n 1, 5, []), (5, .iconst 2, 6, []), (6, .if_icmp .ge 12, 9, [18]), (9, .aload_n 0, 10, []), (10, .getfield 24, 13, []), (13, .iload_n 1, 14, []), (14, .aaload, 15, []), (15, .goto 9, 18, [24]), (18, .aload_n 0, 19, []), (19, .getfield 24, 22, []), (22, .iconst 0, 23, []), (23, .aaload, 24, []), (24, .areturn, 25, [])]
def mi_X3_stored : MI := (cd_X3_stored, [(24, 2, 3)], [], [], [], [], [], 0, 0, 0)
def cd_X3_emptySlots : List (Nat × ARow) := [(0, .iconst 0, 1, []), (1, .istore_n 1, 2, []), (2, .iload_n 1, 3, []), (3, .iconst 2, 4, []), (4, .if_icmp .ge 16, 7, [20]), (7, .aload_n 0, 8, []), (8, .getfield 27, 11, []), (11, .iload_n 1, 12, []), (12, .iconst 0, 13, []), (13, .bastore, 14, []), (14, .iinc 1 1, 17, []), (17, .goto (-15), 20, [2]), (20, .return_, 21, [])]
def mi_X3_emptySlots : MI := (cd_X3_emptySlots, [(27, 2, 4)], [], [], [], [], [], 0, 0, 0)
def cd_X4_init : List (Nat × ARow) := [(0, .aload_n 0, 1, []), (1, .invokespecial 3, 4, []), (4, .aload_n 0, 5, []), (5, .new 9, 8, []), (8, .dup, 9, []), (9, .invokespecial 11, 12, []), (12, .putfield 12, 15, []), (15, .aload_n 0, 16, []), (16, .iconst 0, 17, []), (17, .putfield 18, 20, []), (20, .aload_n 0, 21, []), (21, .iconst 0, 22, []), (22, .putfield 22, 25, []), (25, .aload_n 0, 26, []), (26, .iconst 0, 27, []), (27, .putfield 25, 30, []), (30, .aload_n 0, 31, []), (31, .bipush 36, 33, []), (33, .newarray .int, 35, []), (35, .putfield 28, 38, []), (38, .aload_n 0, 39, []), (39, .bipush 36, 41, []), (41, .newarray .int, 43, []), (43, .putfield 32, 46, []), (46, .aload_n 0, 47, []), (47, .bipush 36, 49, []), (49, .newarray .boolean, 51, []), (51, .putfield 35, 54, []), (54, .aload_n 0, 55, []), (55, .bipush 36, 57, []), (57, .newarray .int, 59, []), (59, .putfield 39, 62, []), (62, .aload_n 0, 63, []), (63, .bipush 36, 65, []), (65, .newarray .int, 67, []), (67, .putfield 42, 70, []), (70, .aload_n 0, 71, []), (71, .bipush 36, 73, []), (73, .newarray .int, 75, []), (75, .putfield 45, 78, []), (78, .aload_n 0, 79, []), (79, .invokevirtual 48, 82, []), (82, .return_, 83, [])]
def mi_X4_init : MI := (cd_X4_init, [(12, 3, 0), (18, 3, 1), (22, 3, 2), (25, 3, 3), (28, 3, 4), (32, 3, 5), (35, 3, 6), (39, 3, 7), (42, 3, 8), (45, 3, 9)], [(3, 0, 5, 1, 0, 0, 0), (11, 54, 4, 1, 4, 98, 0), (48, 29, 0, 1, 0, 0, 3)], [], [], [(9, 4)], [], 11, 324, 0)
def cd_X4_take : List (Nat × ARow) := [(0, .aload_n 0, 1, []), (1, .getfield 12, 4, []), (4, .aload_n 1, 5, []), (5, .invokevirtual 51, 8, []), (8, .aload_n 0, 9, []), (9, .invokevirtual 48, 12, []), (12, .return_, 13, [])]
def mi_X4_take : MI := (cd_X4_take, [(12, 3, 0)], [(48, 29, 0, 1, 0, 0, 3), (51, 55, 0, 2, 0, 0, 4)], [], [], [], [], 0, 0, 0)
def cd_X4_changeBar : List (Nat × ARow) := [(0, .aload_n 0, 1, []), (1, .getfield 12, 4, []), (4, .iload_n 1, 5, []), (5, .iload_n 2, 6, []), (6, .invokevirtual 55, 9, []), (9, .ifCond .ne 5, 12, [14]), (12, .iconst 0, 13, []), (13, .ireturn, 14, []), (14, .aload_n 0, 15, []), (15, .getfield 12, 18, []), (18, .iload_n 1, 19, []), (19, .iload_n 2, 20, []), (20, .iload_n 3, 21, []), (21, .invokevirtual 59, 24, []), (24, .aload_n 0, 25, []), (25, .invokevirtual 48, 28, []), (28, .iconst 1, 29, []), (29, .ireturn, 30, [])]
def mi_X4_changeBar : MI := (cd_X4_changeBar, [(12, 3, 0)], [(48, 29, 0, 1, 0, 0, 3), (55, 64, 0, 3, 0, 0, 4), (59, 66, 0, 4, 0, 0, 4)], [], [], [], [], 0, 0, 1)
def cd_X4_layOut : List (Nat × ARow) := [(0, .aload_n 0, 1, []), (1, .iconst 0, 2, []), (2, .putfield 18, 5, []), (5, .aload_n 0, 6, []), (6, .iconst 0, 7, []), (7, .putfield 22, 10, []), (10, .aload_n 0, 11, []), (11, .iconst 0, 12, []), (12, .putfield 25, 15, []), (15, .aload_n 0, 16, []), (16, .getfield 39, 19, []), (19, .bipush (-9), 21, []), (21, .invokestatic 63, 24, []), (24, .aload_n 0, 25, []), (25, .getfield 42, 28, []), (28, .bipush (-9), 30, []), (30, .invokestatic 63, 33, []), (33, .aload_n 0, 34, []), (34, .getfield 45, 37, []), (37, .bipush (-9), 39, []), (39, .invokestatic 63, 42, []), (42, .iconst 0, 43, []), (43, .istore_n 1, 44, []), (44, .iload_n 1, 45, []), (45, .aload_n 0, 46, []), (46, .getfield 12, 49, []), (49, .invokevirtual 69, 52, []), (52, .if_icmp .ge 143, 55, [195]), (55, .iload_n 1, 56, []), (56, .bipush 36, 58, []), (58, .if_icmp .ge 137, 61, [195]), (61, .aload_n 0, 62, []), (62, .getfield 12, 65, []), (65, .iload_n 1, 66, []), (66, .iconst 0, 67, []), (67, .invokevirtual 73, 70, []), (70, .ifCond .eq 21, 73, [91]), (73, .aload_n 0, 74, []), (74, .getfield 12, 77, []), (77, .iload_n 1, 78, []), (78, .iconst 1, 79, []), (79, .isub, 80, []), (80, .iconst 0, 81, []), (81, .invokevirtual 73, 84, []), (84, .ifCond .ne 7, 87, [91]), (87, .iconst 1, 88, []), (88, .goto 4, 91, [92]), (91, .iconst 0, 92, []), (92, .istore_n 2, 93, []), (93, .aload_n 0, 94, []), (94, .getfield 12, 97, []), (97, .iload_n 1, 98, []), (98, .iconst 1, 99, []), (99, .invokevirtual 73, 102, []), (102, .ifCond .eq 27, 105, [129]), (105, .aload_n 0, 106, []), (106, .getfield 12, 109, []), (109, .iload_n 1, 110, []), (110, .aload_n 0, 111, []), (111, .getfield 12, 114, []), (114, .getfield 76, 117, []), (117, .isub, 118, []), (118, .iconst 1, 119, []), (119, .invokevirtual 73, 122, []), (122, .ifCond .ne 7, 125, [129]), (125, .iconst 1, 126, []), (126, .goto 4, 129, [130]), (129, .iconst 0, 130, []), (130, .istore_n 3, 131, []), (131, .iload_n 2, 132, []), (132, .ifCond .eq 19, 135, [151]), (135, .aload_n 0, 136, []), (136, .iload_n 1, 137, []), (137, .iconst 0, 138, []), (138, .invokevirtual 79, 141, []), (141, .aload_n 0, 142, []), (142, .dup, 143, []), (143, .getfield 22, 146, []), (146, .iconst 1, 147, []), (147, .iadd, 148, []), (148, .putfield 22, 151, []), (151, .iload_n 3, 152, []), (152, .ifCond .eq 9, 155, [161]), (155, .aload_n 0, 156, []), (156, .iload_n 1, 157, []), (157, .iconst 1, 158, []), (158, .invokevirtual 79, 161, []), (161, .iload_n 2, 162, []), (162, .ifCond .ne 7, 165, [169]), (165, .iload_n 3, 166, []), (166, .ifCond .eq 23, 169, [189]), (169, .aload_n 0, 170, []), (170, .dup, 171, []), (171, .getfield 25, 174, []), (174, .iconst 1, 175, []), (175, .iadd, 176, []), (176, .putfield 25, 179, []), (179, .aload_n 0, 180, []), (180, .getfield 45, 183, []), (183, .iload_n 1, 184, []), (184, .aload_n 0, 185, []), (185, .getfield 25, 188, []), (188, .iastore, 189, []), (189, .iinc 1 1, 192, []), (192, .goto (-148), 195, [44]), (195, .return_, 196, [])]
def mi_X4_layOut : MI := (cd_X4_layOut, [(12, 3, 0), (18, 3, 1), (22, 3, 2), (25, 3, 3), (39, 3, 7), (42, 3, 8), (45, 3, 9), (76, 4, 1)], [(63, 207, 1, 2, 0, 0, 0), (69, 57, 0, 1, 0, 0, 4), (73, 68, 0, 3, 0, 0, 4), (79, 30, 0, 3, 0, 0, 3)], [], [], [], [], 0, 0, 0)
def cd_X4_addEntry : List (Nat × ARow) := [(0, .aload_n 0, 1, []), (1, .getfield 18, 4, []), (4, .istore_n 3, 5, []), (5, .iload_n 3, 6, []), (6, .ifCond .lt 9, 9, [15]), (9, .iload_n 3, 10, []), (10, .bipush 36, 12, []), (12, .if_icmp .lt 4, 15, [16]), (15, .return_, 16, []), (16, .iload_n 2, 17, []), (17, .ifCond .eq 10, 20, [27]), (20, .aload_n 0, 21, []), (21, .getfield 42, 24, []), (24, .goto 7, 27, [31]), (27, .aload_n 0, 28, []), (28, .getfield 39, 31, []), (31, .astore 4, 33, []), (33, .iload_n 2, 34, []), (34, .ifCond .eq 13, 37, [47]), (37, .aload_n 0, 38, []), (38, .getfield 12, 41, []), (41, .getfield 76, 44, []), (44, .goto 4, 47, [48]), (47, .iconst 1, 48, []), (48, .istore 5, 50, []), (50, .iload_n 1, 51, []), (51, .istore 6, 53, []), (53, .iconst 0, 54, []), (54, .istore 7, 56, []), (56, .iconst 1, 57, []), (57, .istore 8, 59, []), (59, .iload 8, 61, []), (61, .ifCond .eq 53, 64, [114]), (64, .iload 7, 66, []), (66, .bipush 6, 68, []), (68, .if_icmp .ge 46, 71, [114]), (71, .aload_n 0, 72, []), (72, .getfield 12, 75, []), (75, .iload 6, 77, []), (77, .invokevirtual 83, 80, []), (80, .ifCond .eq 34, 83, [114]), (83, .aload 4, 85, []), (85, .iload 6, 87, []), (87, .iload_n 3, 88, []), (88, .iastore, 89, []), (89, .iinc 7 1, 92, []), (92, .aload_n 0, 93, []), (93, .getfield 12, 96, []), (96, .iload 6, 98, []), (98, .iload_n 2, 99, []), (99, .invokevirtual 73, 102, []), (102, .istore 8, 104, []), (104, .iload 6, 106, []), (106, .iload 5, 108, []), (108, .iadd, 109, []), (109, .istore 6, 111, []), (111, .goto (-52), 114, [59]), (114, .aload_n 0, 115, []), (115, .getfield 28, 118, []), (118, .iload_n 3, 119, []), (119, .iload_n 1, 120, []), (120, .iastore, 121, []), (121, .aload_n 0, 122, []), (122, .getfield 32, 125, []), (125, .iload_n 3, 126, []), (126, .iload 7, 128, []), (128, .iastore, 129, []), (129, .aload_n 0, 130, []), (130, .getfield 35, 133, []), (133, .iload_n 3, 134, []), (134, .iload_n 2, 135, []), (135, .bastore, 136, []), (136, .aload_n 0, 137, []), (137, .dup, 138, []), (138, .getfield 18, 141, []), (141, .iconst 1, 142, []), (142, .iadd, 143, []), (143, .putfield 18, 146, []), (146, .return_, 147, [])]
def mi_X4_addEntry : MI := (cd_X4_addEntry, [(12, 3, 0), (18, 3, 1), (28, 3, 4), (32, 3, 5), (35, 3, 6), (39, 3, 7), (42, 3, 8), (76, 4, 1)], [(73, 68, 0, 3, 0, 0, 4), (83, 58, 0, 2, 0, 0, 4)], [], [], [], [], 0, 0, 0)
def cd_X4_hasEntry : List (Nat × ARow) := [(0, .iload_n 1, 1, []), (1, .ifCond .lt 21, 4, [22]), (4, .iload_n 1, 5, []), (5, .aload_n 0, 6, []), (6, .getfield 18, 9, []), (9, .if_icmp .ge 13, 12, [22]), (12, .iload_n 1, 13, []), (13, .bipush 36, 15, []), (15, .if_icmp .ge 7, 18, [22]), (18, .iconst 1, 19, []), (19, .goto 4, 22, [23]), (22, .iconst 0, 23, []), (23, .ireturn, 24, [])]
def mi_X4_hasEntry : MI := (cd_X4_hasEntry, [(18, 3, 1)], [], [], [], [], [], 0, 0, 1)
def cd_X4_isDown : List (Nat × ARow) := [(0, .aload_n 0, 1, []), (1, .iload_n 1, 2, []), (2, .invokevirtual 87, 5, []), (5, .ifCond .eq 16, 8, [21]), (8, .aload_n 0, 9, []), (9, .getfield 35, 12, []), (12, .iload_n 1, 13, []), (13, .baload, 14, []), (14, .ifCond .eq 7, 17, [21]), (17, .iconst 1, 18, []), (18, .goto 4, 21, [22]), (21, .iconst 0, 22, []), (22, .ireturn, 23, [])]
def mi_X4_isDown : MI := (cd_X4_isDown, [(35, 3, 6)], [(87, 31, 0, 2, 0, 0, 3)], [], [], [], [], 0, 0, 1)
def cd_X4_lengthOf : List (Nat × ARow) := [(0, .aload_n 0, 1, []), (1, .iload_n 1, 2, []), (2, .invokevirtual 87, 5, []), (5, .ifCond .eq 12, 8, [17]), (8, .aload_n 0, 9, []), (9, .getfield 32, 12, []), (12, .iload_n 1, 13, []), (13, .iaload, 14, []), (14, .goto 4, 17, [18]), (17, .iconst 0, 18, []), (18, .ireturn, 19, [])]
def mi_X4_lengthOf : MI := (cd_X4_lengthOf, [(32, 3, 5)], [(87, 31, 0, 2, 0, 0, 3)], [], [], [], [], 0, 0, 0)
def cd_X4_cellOf : List (Nat × ARow) := [(0, .aload_n 0, 1, []), (1, .iload_n 1, 2, []), (2, .invokevirtual 87, 5, []), (5, .ifCond .ne 6, 8, [11]), (8, .bipush (-9), 10, []), (10, .ireturn, 11, []), (11, .aload_n 0, 12, []), (12, .getfield 28, 15, []), (15, .iload_n 1, 16, []), (16, .iaload, 17, []), (17, .iload_n 2, 18, []), (18, .aload_n 0, 19, []), (19, .getfield 35, 22, []), (22, .iload_n 1, 23, []), (23, .baload, 24, []), (24, .ifCond .eq 13, 27, [37]), (27, .aload_n 0, 28, []), (28, .getfield 12, 31, []), (31, .getfield 76, 34, []), (34, .goto 4, 37, [38]), (37, .iconst 1, 38, []), (38, .imul, 39, []), (39, .iadd, 40, []), (40, .ireturn, 41, [])]
def mi_X4_cellOf : MI := (cd_X4_cellOf, [(12, 3, 0), (28, 3, 4), (35, 3, 6), (76, 4, 1)], [(87, 31, 0, 2, 0, 0, 3)], [], [], [], [], 0, 0, 0)
def cd_X4_indexIn : List (Nat × ARow) := [(0, .aload_n 0, 1, []), (1, .iload_n 1, 2, []), (2, .invokevirtual 87, 5, []), (5, .ifCond .ne 6, 8, [11]), (8, .bipush (-9), 10, []), (10, .ireturn, 11, []), (11, .aload_n 0, 12, []), (12, .getfield 35, 15, []), (15, .iload_n 1, 16, []), (16, .baload, 17, []), (17, .ifCond .eq 28, 20, [45]), (20, .aload_n 0, 21, []), (21, .getfield 12, 24, []), (24, .iload_n 2, 25, []), (25, .invokevirtual 90, 28, []), (28, .aload_n 0, 29, []), (29, .getfield 12, 32, []), (32, .aload_n 0, 33, []), (33, .getfield 28, 36, []), (36, .iload_n 1, 37, []), (37, .iaload, 38, []), (38, .invokevirtual 90, 41, []), (41, .isub, 42, []), (42, .goto 11, 45, [53]), (45, .iload_n 2, 46, []), (46, .aload_n 0, 47, []), (47, .getfield 28, 50, []), (50, .iload_n 1, 51, []), (51, .iaload, 52, []), (52, .isub, 53, []), (53, .ireturn, 54, [])]
def mi_X4_indexIn : MI := (cd_X4_indexIn, [(12, 3, 0), (28, 3, 4), (35, 3, 6)], [(87, 31, 0, 2, 0, 0, 3), (90, 60, 0, 2, 0, 0, 4)], [], [], [], [], 0, 0, 0)
def cd_X4_entryAt : List (Nat × ARow) := [(0, .aload_n 0, 1, []), (1, .getfield 12, 4, []), (4, .iload_n 1, 5, []), (5, .invokevirtual 83, 8, []), (8, .ifCond .ne 6, 11, [14]), (11, .bipush (-9), 13, []), (13, .ireturn, 14, []), (14, .iload_n 2, 15, []), (15, .ifCond .eq 12, 18, [27]), (18, .aload_n 0, 19, []), (19, .getfield 42, 22, []), (22, .iload_n 1, 23, []), (23, .iaload, 24, []), (24, .goto 9, 27, [33]), (27, .aload_n 0, 28, []), (28, .getfield 39, 31, []), (31, .iload_n 1, 32, []), (32, .iaload, 33, []), (33, .ireturn, 34, [])]
def mi_X4_entryAt : MI := (cd_X4_entryAt, [(12, 3, 0), (39, 3, 7), (42, 3, 8)], [(83, 58, 0, 2, 0, 0, 4)], [], [], [], [], 0, 0, 0)
def cd_X4_clueAt : List (Nat × ARow) := [(0, .aload_n 0, 1, []), (1, .getfield 12, 4, []), (4, .iload_n 1, 5, []), (5, .invokevirtual 83, 8, []), (8, .ifCond .eq 12, 11, [20]), (11, .aload_n 0, 12, []), (12, .getfield 45, 15, []), (15, .iload_n 1, 16, []), (16, .iaload, 17, []), (17, .goto 5, 20, [22]), (20, .bipush (-9), 22, []), (22, .ireturn, 23, [])]
def mi_X4_clueAt : MI := (cd_X4_clueAt, [(12, 3, 0), (45, 3, 9)], [(83, 58, 0, 2, 0, 0, 4)], [], [], [], [], 0, 0, 0)
def cd_X4_entriesAt : List (Nat × ARow) := [(0, .aload_n 0, 1, []), (1, .getfield 12, 4, []), (4, .iload_n 1, 5, []), (5, .invokevirtual 83, 8, []), (8, .ifCond .ne 5, 11, [13]), (11, .iconst 0, 12, []), (12, .ireturn, 13, []), (13, .aload_n 0, 14, []), (14, .getfield 39, 17, []), (17, .iload_n 1, 18, []), (18, .iaload, 19, []), (19, .bipush (-9), 21, []), (21, .if_icmp .ne 7, 24, [28]), (24, .iconst 0, 25, []), (25, .goto 4, 28, [29]), (28, .iconst 1, 29, []), (29, .aload_n 0, 30, []), (30, .getfield 42, 33, []), (33, .iload_n 1, 34, []), (34, .iaload, 35, []), (35, .bipush (-9), 37, []), (37, .if_icmp .ne 7, 40, [44]), (40, .iconst 0, 41, []), (41, .goto 4, 44, [45]), (44, .iconst 1, 45, []), (45, .iadd, 46, []), (46, .ireturn, 47, [])]
def mi_X4_entriesAt : MI := (cd_X4_entriesAt, [(12, 3, 0), (39, 3, 7), (42, 3, 8)], [(83, 58, 0, 2, 0, 0, 4)], [], [], [], [], 0, 0, 0)
def cd_X4_cellsInEntries : List (Nat × ARow) := [(0, .iconst 0, 1, []), (1, .istore_n 2, 2, []), (2, .iconst 0, 3, []), (3, .istore_n 3, 4, []), (4, .iload_n 3, 5, []), (5, .aload_n 0, 6, []), (6, .getfield 12, 9, []), (9, .invokevirtual 69, 12, []), (12, .if_icmp .ge 21, 15, [33]), (15, .aload_n 0, 16, []), (16, .iload_n 3, 17, []), (17, .invokevirtual 94, 20, []), (20, .iload_n 1, 21, []), (21, .if_icmp .ne 6, 24, [27]), (24, .iinc 2 1, 27, []), (27, .iinc 3 1, 30, []), (30, .goto (-26), 33, [4]), (33, .iload_n 2, 34, []), (34, .ireturn, 35, [])]
def mi_X4_cellsInEntries : MI := (cd_X4_cellsInEntries, [(12, 3, 0)], [(69, 57, 0, 1, 0, 0, 4), (94, 38, 0, 2, 0, 0, 3)], [], [], [], [], 0, 0, 0)
def cd_X4_uncheckedIn : List (Nat × ARow) := [(0, .iconst 0, 1, []), (1, .istore_n 2, 2, []), (2, .iconst 0, 3, []), (3, .istore_n 3, 4, []), (4, .iload_n 3, 5, []), (5, .aload_n 0, 6, []), (6, .iload_n 1, 7, []), (7, .invokevirtual 97, 10, []), (10, .if_icmp .ge 26, 13, [36]), (13, .aload_n 0, 14, []), (14, .aload_n 0, 15, []), (15, .iload_n 1, 16, []), (16, .iload_n 3, 17, []), (17, .invokevirtual 100, 20, []), (20, .invokevirtual 94, 23, []), (23, .iconst 1, 24, []), (24, .if_icmp .ne 6, 27, [30]), (27, .iinc 2 1, 30, []), (30, .iinc 3 1, 33, []), (33, .goto (-29), 36, [4]), (36, .iload_n 2, 37, []), (37, .ireturn, 38, [])]
def mi_X4_uncheckedIn : MI := (cd_X4_uncheckedIn, [], [(94, 38, 0, 2, 0, 0, 3), (97, 33, 0, 2, 0, 0, 3), (100, 34, 0, 3, 0, 0, 3)], [], [], [], [], 0, 0, 0)
def cd_X4_emptyIn : List (Nat × ARow) := [(0, .iconst 0, 1, []), (1, .istore_n 2, 2, []), (2, .iconst 0, 3, []), (3, .istore_n 3, 4, []), (4, .iload_n 3, 5, []), (5, .aload_n 0, 6, []), (6, .iload_n 1, 7, []), (7, .invokevirtual 97, 10, []), (10, .if_icmp .ge 28, 13, [38]), (13, .aload_n 0, 14, []), (14, .getfield 12, 17, []), (17, .aload_n 0, 18, []), (18, .iload_n 1, 19, []), (19, .iload_n 3, 20, []), (20, .invokevirtual 100, 23, []), (23, .invokevirtual 104, 26, []), (26, .ifCond .ne 6, 29, [32]), (29, .iinc 2 1, 32, []), (32, .iinc 3 1, 35, []), (35, .goto (-31), 38, [4]), (38, .iload_n 2, 39, []), (39, .ireturn, 40, [])]
def mi_X4_emptyIn : MI := (cd_X4_emptyIn, [(12, 3, 0)], [(97, 33, 0, 2, 0, 0, 3), (100, 34, 0, 3, 0, 0, 3), (104, 61, 0, 2, 0, 0, 4)], [], [], [], [], 0, 0, 0)
def cd_X4_fitsWord : List (Nat × ARow) := [(0, .aload_n 0, 1, []), (1, .iload_n 1, 2, []), (2, .invokevirtual 87, 5, []), (5, .ifCond .eq 30, 8, [35]), (8, .aload_n 0, 9, []), (9, .getfield 12, 12, []), (12, .iload_n 2, 13, []), (13, .invokevirtual 107, 16, []), (16, .ifCond .eq 19, 19, [35]), (19, .aload_n 0, 20, []), (20, .iload_n 1, 21, []), (21, .invokevirtual 97, 24, []), (24, .aload_n 0, 25, []), (25, .getfield 12, 28, []), (28, .iload_n 2, 29, []), (29, .invokevirtual 110, 32, []), (32, .if_icmp .eq 5, 35, [37]), (35, .iconst 0, 36, []), (36, .ireturn, 37, []), (37, .iconst 0, 38, []), (38, .istore_n 3, 39, []), (39, .iload_n 3, 40, []), (40, .aload_n 0, 41, []), (41, .iload_n 1, 42, []), (42, .invokevirtual 97, 45, []), (45, .if_icmp .ge 45, 48, [90]), (48, .aload_n 0, 49, []), (49, .getfield 12, 52, []), (52, .aload_n 0, 53, []), (53, .iload_n 1, 54, []), (54, .iload_n 3, 55, []), (55, .invokevirtual 100, 58, []), (58, .invokevirtual 104, 61, []), (61, .istore 4, 63, []), (63, .iload 4, 65, []), (65, .ifCond .eq 19, 68, [84]), (68, .iload 4, 70, []), (70, .aload_n 0, 71, []), (71, .getfield 12, 74, []), (74, .iload_n 2, 75, []), (75, .iload_n 3, 76, []), (76, .invokevirtual 113, 79, []), (79, .if_icmp .eq 5, 82, [84]), (82, .iconst 0, 83, []), (83, .ireturn, 84, []), (84, .iinc 3 1, 87, []), (87, .goto (-48), 90, [39]), (90, .iconst 1, 91, []), (91, .ireturn, 92, [])]
def mi_X4_fitsWord : MI := (cd_X4_fitsWord, [(12, 3, 0)], [(87, 31, 0, 2, 0, 0, 3), (97, 33, 0, 2, 0, 0, 3), (100, 34, 0, 3, 0, 0, 3), (104, 61, 0, 2, 0, 0, 4), (107, 69, 0, 2, 0, 0, 4), (110, 70, 0, 2, 0, 0, 4), (113, 71, 0, 3, 0, 0, 4)], [], [], [], [], 0, 0, 1)
def cd_X4_fitCount : List (Nat × ARow) := [(0, .iconst 0, 1, []), (1, .istore_n 2, 2, []), (2, .iconst 0, 3, []), (3, .istore_n 3, 4, []), (4, .iload_n 3, 5, []), (5, .aload_n 0, 6, []), (6, .getfield 12, 9, []), (9, .getfield 116, 12, []), (12, .if_icmp .ge 21, 15, [33]), (15, .aload_n 0, 16, []), (16, .iload_n 1, 17, []), (17, .iload_n 3, 18, []), (18, .invokevirtual 119, 21, []), (21, .ifCond .eq 6, 24, [27]), (24, .iinc 2 1, 27, []), (27, .iinc 3 1, 30, []), (30, .goto (-26), 33, [4]), (33, .iload_n 2, 34, []), (34, .ireturn, 35, [])]
def mi_X4_fitCount : MI := (cd_X4_fitCount, [(12, 3, 0), (116, 4, 2)], [(119, 42, 0, 3, 0, 0, 3)], [], [], [], [], 0, 0, 0)
def cd_X4_wordIn : List (Nat × ARow) := [(0, .aload_n 0, 1, []), (1, .iload_n 1, 2, []), (2, .invokevirtual 123, 5, []), (5, .ifCond .le 6, 8, [11]), (8, .bipush (-9), 10, []), (10, .ireturn, 11, []), (11, .iconst 0, 12, []), (12, .istore_n 2, 13, []), (13, .iload_n 2, 14, []), (14, .aload_n 0, 15, []), (15, .getfield 12, 18, []), (18, .getfield 116, 21, []), (21, .if_icmp .ge 20, 24, [41]), (24, .aload_n 0, 25, []), (25, .iload_n 1, 26, []), (26, .iload_n 2, 27, []), (27, .invokevirtual 119, 30, []), (30, .ifCond .eq 5, 33, [35]), (33, .iload_n 2, 34, []), (34, .ireturn, 35, []), (35, .iinc 2 1, 38, []), (38, .goto (-25), 41, [13]), (41, .bipush (-9), 43, []), (43, .ireturn, 44, [])]
def mi_X4_wordIn : MI := (cd_X4_wordIn, [(12, 3, 0), (116, 4, 2)], [(119, 42, 0, 3, 0, 0, 3), (123, 41, 0, 2, 0, 0, 3)], [], [], [], [], 0, 0, 0)
def cd_X4_fillEntry : List (Nat × ARow) := [(0, .aload_n 0, 1, []), (1, .iload_n 1, 2, []), (2, .invokevirtual 123, 5, []), (5, .istore_n 3, 6, []), (6, .iconst 0, 7, []), (7, .istore 4, 9, []), (9, .iload 4, 11, []), (11, .aload_n 0, 12, []), (12, .iload_n 1, 13, []), (13, .invokevirtual 97, 16, []), (16, .if_icmp .ge 33, 19, [49]), (19, .aload_n 0, 20, []), (20, .getfield 12, 23, []), (23, .aload_n 0, 24, []), (24, .iload_n 1, 25, []), (25, .iload 4, 27, []), (27, .invokevirtual 100, 30, []), (30, .aload_n 0, 31, []), (31, .getfield 12, 34, []), (34, .iload_n 2, 35, []), (35, .iload 4, 37, []), (37, .invokevirtual 113, 40, []), (40, .invokevirtual 126, 43, []), (43, .iinc 4 1, 46, []), (46, .goto (-37), 49, [9]), (49, .iload_n 3, 50, []), (50, .ireturn, 51, [])]
def mi_X4_fillEntry : MI := (cd_X4_fillEntry, [(12, 3, 0)], [(97, 33, 0, 2, 0, 0, 3), (100, 34, 0, 3, 0, 0, 3), (113, 71, 0, 3, 0, 0, 4), (123, 41, 0, 2, 0, 0, 3), (126, 62, 0, 3, 0, 0, 4)], [], [], [], [], 0, 0, 0)
def cd_X4_clearEntry : List (Nat × ARow) := [(0, .iconst 0, 1, []), (1, .istore_n 2, 2, []), (2, .iconst 0, 3, []), (3, .istore_n 3, 4, []), (4, .iload_n 3, 5, []), (5, .aload_n 0, 6, []), (6, .iload_n 1, 7, []), (7, .invokevirtual 97, 10, []), (10, .if_icmp .ge 93, 13, [103]), (13, .aload_n 0, 14, []), (14, .iload_n 1, 15, []), (15, .iload_n 3, 16, []), (16, .invokevirtual 100, 19, []), (19, .istore 4, 21, []), (21, .aload_n 0, 22, []), (22, .iload 4, 24, []), (24, .aload_n 0, 25, []), (25, .iload_n 1, 26, []), (26, .invokevirtual 130, 29, []), (29, .ifCond .ne 7, 32, [36]), (32, .iconst 1, 33, []), (33, .goto 4, 36, [37]), (36, .iconst 0, 37, []), (37, .invokevirtual 133, 40, []), (40, .istore 5, 42, []), (42, .aload_n 0, 43, []), (43, .iload 5, 45, []), (45, .invokevirtual 87, 48, []), (48, .ifCond .eq 16, 51, [64]), (51, .aload_n 0, 52, []), (52, .iload 5, 54, []), (54, .invokevirtual 123, 57, []), (57, .ifCond .ne 7, 60, [64]), (60, .iconst 1, 61, []), (61, .goto 4, 64, [65]), (64, .iconst 0, 65, []), (65, .istore 6, 67, []), (67, .iload 6, 69, []), (69, .ifCond .ne 28, 72, [97]), (72, .aload_n 0, 73, []), (73, .getfield 12, 76, []), (76, .iload 4, 78, []), (78, .invokevirtual 104, 81, []), (81, .ifCond .eq 16, 84, [97]), (84, .aload_n 0, 85, []), (85, .getfield 12, 88, []), (88, .iload 4, 90, []), (90, .iconst 0, 91, []), (91, .invokevirtual 126, 94, []), (94, .iinc 2 1, 97, []), (97, .iinc 3 1, 100, []), (100, .goto (-96), 103, [4]), (103, .iload_n 2, 104, []), (104, .ireturn, 105, [])]
def mi_X4_clearEntry : MI := (cd_X4_clearEntry, [(12, 3, 0)], [(87, 31, 0, 2, 0, 0, 3), (97, 33, 0, 2, 0, 0, 3), (100, 34, 0, 3, 0, 0, 3), (104, 61, 0, 2, 0, 0, 4), (123, 41, 0, 2, 0, 0, 3), (126, 62, 0, 3, 0, 0, 4), (130, 32, 0, 2, 0, 0, 3), (133, 36, 0, 3, 0, 0, 3)], [], [], [], [], 0, 0, 0)
def cd_X5_countKept : List (Nat × ARow) := [(0, .iconst 0, 1, []), (1, .istore_n 1, 2, []), (2, .iconst 0, 3, []), (3, .istore_n 2, 4, []), (4, .iload_n 2, 5, []), (5, .iconst 5, 6, []), (6, .if_icmp .ge 20, 9, [26]), (9, .aload_n 0, 10, []), (10, .iload_n 2, 11, []), (11, .invokestatic 9, 14, []), (14, .ifCond .eq 6, 17, [20]), (17, .iinc 1 1, 20, []), (20, .iinc 2 1, 23, []), (23, .goto (-19), 26, [4]), (26, .iload_n 1, 27, []), (27, .ireturn, 28, [])]
def mi_X5_countKept : MI := (cd_X5_countKept, [], [(9, 48, 1, 2, 0, 0, 0)], [], [], [], [], 0, 0, 0)
def cd_X5_areKept : List (Nat × ARow) := [(0, .iload_n 1, 1, []), (1, .tableswitch 75 0 4 #[35, 43, 57, 62, 67], 36, [76, 36, 44, 58, 63, 68]), (36, .aload_n 0, 37, []), (37, .getfield 15, 40, []), (40, .invokestatic 21, 43, []), (43, .ireturn, 44, []), (44, .aload_n 0, 45, []), (45, .iconst 0, 46, []), (46, .invokevirtual 25, 49, []), (49, .ifCond .ne 7, 52, [56]), (52, .iconst 1, 53, []), (53, .goto 4, 56, [57]), (56, .iconst 0, 57, []), (57, .ireturn, 58, []), (58, .aload_n 0, 59, []), (59, .invokestatic 29, 62, []), (62, .ireturn, 63, []), (63, .aload_n 0, 64, []), (64, .invokestatic 33, 67, []), (67, .ireturn, 68, []), (68, .aload_n 0, 69, []), (69, .getfield 15, 72, []), (72, .invokestatic 36, 75, []), (75, .ireturn, 76, []), (76, .iconst 0, 77, []), (77, .ireturn, 78, [])]
def mi_X5_areKept : MI := (cd_X5_areKept, [(15, 3, 0)], [(21, 49, 1, 1, 0, 0, 0), (25, 39, 0, 2, 0, 0, 3), (29, 50, 1, 1, 0, 0, 0), (33, 51, 1, 1, 0, 0, 0), (36, 52, 1, 1, 0, 0, 0)], [], [], [], [], 0, 0, 1)
def cd_X5_isSameTurned : List (Nat × ARow) := [(0, .aload_n 0, 1, []), (1, .invokevirtual 39, 4, []), (4, .iconst 1, 5, []), (5, .isub, 6, []), (6, .istore_n 1, 7, []), (7, .iconst 0, 8, []), (8, .istore_n 2, 9, []), (9, .iload_n 2, 10, []), (10, .iload_n 1, 11, []), (11, .if_icmp .gt 60, 14, [71]), (14, .aload_n 0, 15, []), (15, .iload_n 2, 16, []), (16, .iconst 0, 17, []), (17, .invokevirtual 45, 20, []), (20, .ifCond .eq 18, 23, [38]), (23, .aload_n 0, 24, []), (24, .iload_n 1, 25, []), (25, .iload_n 2, 26, []), (26, .iconst 1, 27, []), (27, .iadd, 28, []), (28, .isub, 29, []), (29, .iconst 0, 30, []), (30, .invokevirtual 45, 33, []), (33, .ifCond .ne 5, 36, [38]), (36, .iconst 0, 37, []), (37, .ireturn, 38, []), (38, .aload_n 0, 39, []), (39, .iload_n 2, 40, []), (40, .iconst 1, 41, []), (41, .invokevirtual 45, 44, []), (44, .ifCond .eq 21, 47, [65]), (47, .aload_n 0, 48, []), (48, .iload_n 1, 49, []), (49, .iload_n 2, 50, []), (50, .aload_n 0, 51, []), (51, .getfield 49, 54, []), (54, .iadd, 55, []), (55, .isub, 56, []), (56, .iconst 1, 57, []), (57, .invokevirtual 45, 60, []), (60, .ifCond .ne 5, 63, [65]), (63, .iconst 0, 64, []), (64, .ireturn, 65, []), (65, .iinc 2 1, 68, []), (68, .goto (-59), 71, [9]), (71, .iconst 1, 72, []), (72, .ireturn, 73, [])]
def mi_X5_isSameTurned : MI := (cd_X5_isSameTurned, [(49, 4, 1)], [(39, 57, 0, 1, 0, 0, 4), (45, 65, 0, 3, 0, 0, 4)], [], [], [], [], 0, 0, 1)
def cd_X5_isCheckedEnough : List (Nat × ARow) := [(0, .iconst 0, 1, []), (1, .istore_n 1, 2, []), (2, .iload_n 1, 3, []), (3, .aload_n 0, 4, []), (4, .getfield 53, 7, []), (7, .if_icmp .ge 26, 10, [33]), (10, .iconst 2, 11, []), (11, .aload_n 0, 12, []), (12, .iload_n 1, 13, []), (13, .invokevirtual 56, 16, []), (16, .imul, 17, []), (17, .aload_n 0, 18, []), (18, .iload_n 1, 19, []), (19, .invokevirtual 59, 22, []), (22, .if_icmp .le 5, 25, [27]), (25, .iconst 0, 26, []), (26, .ireturn, 27, []), (27, .iinc 1 1, 30, []), (30, .goto (-28), 33, [2]), (33, .iconst 1, 34, []), (34, .ireturn, 35, [])]
def mi_X5_isCheckedEnough : MI := (cd_X5_isCheckedEnough, [(53, 3, 1)], [(56, 40, 0, 2, 0, 0, 3), (59, 33, 0, 2, 0, 0, 3)], [], [], [], [], 0, 0, 1)
def cd_X5_hasNoUncheckedPair : List (Nat × ARow) := [(0, .iconst 0, 1, []), (1, .istore_n 1, 2, []), (2, .iload_n 1, 3, []), (3, .aload_n 0, 4, []), (4, .getfield 53, 7, []), (7, .if_icmp .ge 58, 10, [65]), (10, .iconst 1, 11, []), (11, .istore_n 2, 12, []), (12, .iload_n 2, 13, []), (13, .aload_n 0, 14, []), (14, .iload_n 1, 15, []), (15, .invokevirtual 59, 18, []), (18, .if_icmp .ge 41, 21, [59]), (21, .aload_n 0, 22, []), (22, .aload_n 0, 23, []), (23, .iload_n 1, 24, []), (24, .iload_n 2, 25, []), (25, .iconst 1, 26, []), (26, .isub, 27, []), (27, .invokevirtual 62, 30, []), (30, .invokevirtual 66, 33, []), (33, .iconst 1, 34, []), (34, .if_icmp .ne 19, 37, [53]), (37, .aload_n 0, 38, []), (38, .aload_n 0, 39, []), (39, .iload_n 1, 40, []), (40, .iload_n 2, 41, []), (41, .invokevirtual 62, 44, []), (44, .invokevirtual 66, 47, []), (47, .iconst 1, 48, []), (48, .if_icmp .ne 5, 51, [53]), (51, .iconst 0, 52, []), (52, .ireturn, 53, []), (53, .iinc 2 1, 56, []), (56, .goto (-44), 59, [12]), (59, .iinc 1 1, 62, []), (62, .goto (-60), 65, [2]), (65, .iconst 1, 66, []), (66, .ireturn, 67, [])]
def mi_X5_hasNoUncheckedPair : MI := (cd_X5_hasNoUncheckedPair, [(53, 3, 1)], [(59, 33, 0, 2, 0, 0, 3), (62, 34, 0, 3, 0, 0, 3), (66, 38, 0, 2, 0, 0, 3)], [], [], [], [], 0, 0, 1)
def cd_X5_isConnected : List (Nat × ARow) := [(0, .aload_n 0, 1, []), (1, .invokevirtual 39, 4, []), (4, .istore_n 1, 5, []), (5, .lconst 1, 6, []), (6, .lstore_n 2, 7, []), (7, .iconst 0, 8, []), (8, .istore 4, 10, []), (10, .iload 4, 12, []), (12, .iload_n 1, 13, []), (13, .if_icmp .ge 55, 16, [68]), (16, .lload_n 2, 17, []), (17, .lstore 5, 19, []), (19, .iconst 0, 20, []), (20, .istore 7, 22, []), (22, .iload 7, 24, []), (24, .iload_n 1, 25, []), (25, .if_icmp .ge 27, 28, [52]), (28, .aload_n 0, 29, []), (29, .lload_n 2, 30, []), (30, .iload 7, 32, []), (32, .iconst 0, 33, []), (33, .invokestatic 69, 36, []), (36, .lstore_n 2, 37, []), (37, .aload_n 0, 38, []), (38, .lload_n 2, 39, []), (39, .iload 7, 41, []), (41, .iconst 1, 42, []), (42, .invokestatic 69, 45, []), (45, .lstore_n 2, 46, []), (46, .iinc 7 1, 49, []), (49, .goto (-27), 52, [22]), (52, .lload_n 2, 53, []), (53, .lload 5, 55, []), (55, .lcmp, 56, []), (56, .ifCond .ne 6, 59, [62]), (59, .goto 9, 62, [68]), (62, .iinc 4 1, 65, []), (65, .goto (-55), 68, [10]), (68, .lload_n 2, 69, []), (69, .invokestatic 73, 72, []), (72, .iload_n 1, 73, []), (73, .if_icmp .ne 7, 76, [80]), (76, .iconst 1, 77, []), (77, .goto 4, 80, [81]), (80, .iconst 0, 81, []), (81, .ireturn, 82, [])]
def mi_X5_isConnected : MI := (cd_X5_isConnected, [], [(39, 57, 0, 1, 0, 0, 4), (69, 53, 1, 4, 0, 0, 0), (73, 205, 1, 1, 0, 0, 0)], [], [], [], [], 0, 0, 1)
def cd_X5_spread : List (Nat × ARow) := [(0, .aload_n 0, 1, []), (1, .iload_n 3, 2, []), (2, .iload 4, 4, []), (4, .invokevirtual 79, 7, []), (7, .ifCond .ne 5, 10, [12]), (10, .lload_n 1, 11, []), (11, .lreturn, 12, []), (12, .iload_n 3, 13, []), (13, .iload 4, 15, []), (15, .ifCond .eq 10, 18, [25]), (18, .aload_n 0, 19, []), (19, .getfield 49, 22, []), (22, .goto 4, 25, [26]), (25, .iconst 1, 26, []), (26, .iadd, 27, []), (27, .istore 5, 29, []), (29, .lconst 1, 30, []), (30, .iload_n 3, 31, []), (31, .lshl, 32, []), (32, .lconst 1, 33, []), (33, .iload 5, 35, []), (35, .lshl, 36, []), (36, .lor, 37, []), (37, .lstore 6, 39, []), (39, .lload_n 1, 40, []), (40, .lload 6, 42, []), (42, .land, 43, []), (43, .lconst 0, 44, []), (44, .lcmp, 45, []), (45, .ifCond .eq 10, 48, [55]), (48, .lload_n 1, 49, []), (49, .lload 6, 51, []), (51, .lor, 52, []), (52, .goto 4, 55, [56]), (55, .lload_n 1, 56, []), (56, .lreturn, 57, [])]
def mi_X5_spread : MI := (cd_X5_spread, [(49, 4, 1)], [(79, 68, 0, 3, 0, 0, 4)], [], [], [], [], 0, 0, 0)
def cd_X6_init : List (Nat × ARow) := [(0, .aload_n 0, 1, []), (1, .invokespecial 3, 4, []), (4, .aload_n 0, 5, []), (5, .iconst 3, 6, []), (6, .putfield 9, 9, []), (9, .aload_n 0, 10, []), (10, .iconst 3, 11, []), (11, .putfield 15, 14, []), (14, .aload_n 0, 15, []), (15, .iconst 0, 16, []), (16, .putfield 18, 19, []), (19, .aload_n 0, 20, []), (20, .iconst 0, 21, []), (21, .putfield 21, 24, []), (24, .aload_n 0, 25, []), (25, .lconst 0, 26, []), (26, .putfield 24, 29, []), (29, .aload_n 0, 30, []), (30, .lconst 0, 31, []), (31, .putfield 28, 34, []), (34, .aload_n 0, 35, []), (35, .bipush 36, 37, []), (37, .newarray .int, 39, []), (39, .putfield 31, 42, []), (42, .aload_n 0, 43, []), (43, .bipush 8, 45, []), (45, .newarray .int, 47, []), (47, .putfield 35, 50, []), (50, .aload_n 0, 51, []), (51, .bipush 48, 53, []), (53, .newarray .int, 55, []), (55, .putfield 38, 58, []), (58, .aload_n 0, 59, []), (59, .bipush 6, 61, []), (61, .newarray .int, 63, []), (63, .putfield 41, 66, []), (66, .return_, 67, [])]
def mi_X6_init : MI := (cd_X6_init, [(9, 4, 0), (15, 4, 1), (18, 4, 2), (21, 4, 3), (24, 4, 4), (28, 4, 5), (31, 4, 6), (35, 4, 7), (38, 4, 8), (41, 4, 9)], [(3, 0, 5, 1, 0, 0, 0)], [], [], [], [], 4, 98, 0)
def cd_X6_copyFrom : List (Nat × ARow) := [(0, .aload_n 0, 1, []), (1, .aload_n 1, 2, []), (2, .getfield 9, 5, []), (5, .putfield 9, 8, []), (8, .aload_n 0, 9, []), (9, .aload_n 1, 10, []), (10, .getfield 15, 13, []), (13, .putfield 15, 16, []), (16, .aload_n 0, 17, []), (17, .aload_n 1, 18, []), (18, .getfield 18, 21, []), (21, .putfield 18, 24, []), (24, .aload_n 0, 25, []), (25, .aload_n 1, 26, []), (26, .getfield 21, 29, []), (29, .putfield 21, 32, []), (32, .aload_n 0, 33, []), (33, .aload_n 1, 34, []), (34, .getfield 24, 37, []), (37, .putfield 24, 40, []), (40, .aload_n 0, 41, []), (41, .aload_n 1, 42, []), (42, .getfield 28, 45, []), (45, .putfield 28, 48, []), (48, .aload_n 1, 49, []), (49, .getfield 31, 52, []), (52, .iconst 0, 53, []), (53, .aload_n 0, 54, []), (54, .getfield 31, 57, []), (57, .iconst 0, 58, []), (58, .bipush 36, 60, []), (60, .invokestatic 44, 63, []), (63, .aload_n 1, 64, []), (64, .getfield 35, 67, []), (67, .iconst 0, 68, []), (68, .aload_n 0, 69, []), (69, .getfield 35, 72, []), (72, .iconst 0, 73, []), (73, .bipush 8, 75, []), (75, .invokestatic 44, 78, []), (78, .aload_n 1, 79, []), (79, .getfield 38, 82, []), (82, .iconst 0, 83, []), (83, .aload_n 0, 84, []), (84, .getfield 38, 87, []), (87, .iconst 0, 88, []), (88, .bipush 48, 90, []), (90, .invokestatic 44, 93, []), (93, .aload_n 1, 94, []), (94, .getfield 41, 97, []), (97, .iconst 0, 98, []), (98, .aload_n 0, 99, []), (99, .getfield 41, 102, []), (102, .iconst 0, 103, []), (103, .bipush 6, 105, []), (105, .invokestatic 44, 108, []), (108, .return_, 109, [])]
def mi_X6_copyFrom : MI := (cd_X6_copyFrom, [(9, 4, 0), (15, 4, 1), (18, 4, 2), (21, 4, 3), (24, 4, 4), (28, 4, 5), (31, 4, 6), (35, 4, 7), (38, 4, 8), (41, 4, 9)], [(44, 0, 6, 5, 0, 0, 0)], [], [], [], [], 0, 0, 0)
def cd_X6_begin : List (Nat × ARow) := [(0, .aload_n 0, 1, []), (1, .iload_n 1, 2, []), (2, .putfield 9, 5, []), (5, .aload_n 0, 6, []), (6, .iload_n 2, 7, []), (7, .putfield 15, 10, []), (10, .aload_n 0, 11, []), (11, .iconst 0, 12, []), (12, .putfield 18, 15, []), (15, .aload_n 0, 16, []), (16, .iconst 0, 17, []), (17, .putfield 21, 20, []), (20, .aload_n 0, 21, []), (21, .lconst 0, 22, []), (22, .putfield 24, 25, []), (25, .aload_n 0, 26, []), (26, .lconst 0, 27, []), (27, .putfield 28, 30, []), (30, .aload_n 0, 31, []), (31, .getfield 31, 34, []), (34, .iconst 0, 35, []), (35, .invokestatic 50, 38, []), (38, .return_, 39, [])]
def mi_X6_begin : MI := (cd_X6_begin, [(9, 4, 0), (15, 4, 1), (18, 4, 2), (21, 4, 3), (24, 4, 4), (28, 4, 5), (31, 4, 6)], [(50, 207, 1, 2, 0, 0, 0)], [], [], [], [], 0, 0, 0)
def cd_X6_cells : List (Nat × ARow) := [(0, .aload_n 0, 1, []), (1, .getfield 9, 4, []), (4, .aload_n 0, 5, []), (5, .getfield 15, 8, []), (8, .imul, 9, []), (9, .ireturn, 10, [])]
def mi_X6_cells : MI := (cd_X6_cells, [(9, 4, 0), (15, 4, 1)], [], [], [], [], [], 0, 0, 0)
def cd_X6_hasCell : List (Nat × ARow) := [(0, .iload_n 1, 1, []), (1, .ifCond .lt 26, 4, [27]), (4, .iload_n 1, 5, []), (5, .aload_n 0, 6, []), (6, .getfield 9, 9, []), (9, .aload_n 0, 10, []), (10, .getfield 15, 13, []), (13, .imul, 14, []), (14, .if_icmp .ge 13, 17, [27]), (17, .iload_n 1, 18, []), (18, .bipush 36, 20, []), (20, .if_icmp .ge 7, 23, [27]), (23, .iconst 1, 24, []), (24, .goto 4, 27, [28]), (27, .iconst 0, 28, []), (28, .ireturn, 29, [])]
def mi_X6_hasCell : MI := (cd_X6_hasCell, [(9, 4, 0), (15, 4, 1)], [], [], [], [], [], 0, 0, 1)
def cd_X6_columnOf : List (Nat × ARow) := [(0, .aload_n 0, 1, []), (1, .getfield 15, 4, []), (4, .ifCond .le 12, 7, [16]), (7, .iload_n 1, 8, []), (8, .aload_n 0, 9, []), (9, .getfield 15, 12, []), (12, .irem, 13, []), (13, .goto 4, 16, [17]), (16, .iconst 0, 17, []), (17, .ireturn, 18, [])]
def mi_X6_columnOf : MI := (cd_X6_columnOf, [(15, 4, 1)], [], [], [], [], [], 0, 0, 0)
def cd_X6_rowOf : List (Nat × ARow) := [(0, .aload_n 0, 1, []), (1, .getfield 15, 4, []), (4, .ifCond .le 12, 7, [16]), (7, .iload_n 1, 8, []), (8, .aload_n 0, 9, []), (9, .getfield 15, 12, []), (12, .idiv, 13, []), (13, .goto 4, 16, [17]), (16, .iconst 0, 17, []), (17, .ireturn, 18, [])]
def mi_X6_rowOf : MI := (cd_X6_rowOf, [(15, 4, 1)], [], [], [], [], [], 0, 0, 0)
def cd_X6_letterAt : List (Nat × ARow) := [(0, .aload_n 0, 1, []), (1, .iload_n 1, 2, []), (2, .invokevirtual 56, 5, []), (5, .ifCond .eq 12, 8, [17]), (8, .aload_n 0, 9, []), (9, .getfield 31, 12, []), (12, .iload_n 1, 13, []), (13, .iaload, 14, []), (14, .goto 4, 17, [18]), (17, .iconst 0, 18, []), (18, .ireturn, 19, [])]
def mi_X6_letterAt : MI := (cd_X6_letterAt, [(31, 4, 6)], [(56, 58, 0, 2, 0, 0, 4)], [], [], [], [], 0, 0, 0)
def cd_X6_setLetter : List (Nat × ARow) := [(0, .aload_n 0, 1, []), (1, .iload_n 1, 2, []), (2, .invokevirtual 56, 5, []), (5, .ifCond .eq 10, 8, [15]), (8, .aload_n 0, 9, []), (9, .getfield 31, 12, []), (12, .iload_n 1, 13, []), (13, .iload_n 2, 14, []), (14, .iastore, 15, []), (15, .return_, 16, [])]
def mi_X6_setLetter : MI := (cd_X6_setLetter, [(31, 4, 6)], [(56, 58, 0, 2, 0, 0, 4)], [], [], [], [], 0, 0, 0)
def cd_X6_emptyCells : List (Nat × ARow) := [(0, .iconst 0, 1, []), (1, .istore_n 1, 2, []), (2, .iconst 0, 3, []), (3, .istore_n 2, 4, []), (4, .iload_n 2, 5, []), (5, .aload_n 0, 6, []), (6, .getfield 9, 9, []), (9, .aload_n 0, 10, []), (10, .getfield 15, 13, []), (13, .imul, 14, []), (14, .if_icmp .ge 20, 17, [34]), (17, .aload_n 0, 18, []), (18, .iload_n 2, 19, []), (19, .invokevirtual 60, 22, []), (22, .ifCond .ne 6, 25, [28]), (25, .iinc 1 1, 28, []), (28, .iinc 2 1, 31, []), (31, .goto (-27), 34, [4]), (34, .iload_n 1, 35, []), (35, .ireturn, 36, [])]
def mi_X6_emptyCells : MI := (cd_X6_emptyCells, [(9, 4, 0), (15, 4, 1)], [(60, 61, 0, 2, 0, 0, 4)], [], [], [], [], 0, 0, 0)
def cd_X6_isPlace : List (Nat × ARow) := [(0, .iload_n 1, 1, []), (1, .ifCond .lt 24, 4, [25]), (4, .iload_n 1, 5, []), (5, .aload_n 0, 6, []), (6, .getfield 9, 9, []), (9, .aload_n 0, 10, []), (10, .getfield 15, 13, []), (13, .imul, 14, []), (14, .if_icmp .ge 11, 17, [25]), (17, .aload_n 0, 18, []), (18, .getfield 15, 21, []), (21, .iconst 1, 22, []), (22, .if_icmp .ge 5, 25, [27]), (25, .iconst 0, 26, []), (26, .ireturn, 27, []), (27, .iload_n 2, 28, []), (28, .ifCond .eq 29, 31, [57]), (31, .iload_n 1, 32, []), (32, .aload_n 0, 33, []), (33, .getfield 15, 36, []), (36, .iadd, 37, []), (37, .aload_n 0, 38, []), (38, .getfield 9, 41, []), (41, .aload_n 0, 42, []), (42, .getfield 15, 45, []), (45, .imul, 46, []), (46, .if_icmp .ge 7, 49, [53]), (49, .iconst 1, 50, []), (50, .goto 27, 53, [77]), (53, .iconst 0, 54, []), (54, .goto 23, 57, [77]), (57, .iload_n 1, 58, []), (58, .aload_n 0, 59, []), (59, .getfield 15, 62, []), (62, .irem, 63, []), (63, .aload_n 0, 64, []), (64, .getfield 15, 67, []), (67, .iconst 1, 68, []), (68, .isub, 69, []), (69, .if_icmp .ge 7, 72, [76]), (72, .iconst 1, 73, []), (73, .goto 4, 76, [77]), (76, .iconst 0, 77, []), (77, .ireturn, 78, [])]
def mi_X6_isPlace : MI := (cd_X6_isPlace, [(9, 4, 0), (15, 4, 1)], [], [], [], [], [], 0, 0, 1)
def cd_X6_hasBar : List (Nat × ARow) := [(0, .iload_n 2, 1, []), (1, .ifCond .eq 10, 4, [11]), (4, .aload_n 0, 5, []), (5, .getfield 28, 8, []), (8, .goto 7, 11, [15]), (11, .aload_n 0, 12, []), (12, .getfield 24, 15, []), (15, .lstore_n 3, 16, []), (16, .iload_n 1, 17, []), (17, .ifCond .lt 23, 20, [40]), (20, .iload_n 1, 21, []), (21, .bipush 36, 23, []), (23, .if_icmp .ge 17, 26, [40]), (26, .lload_n 3, 27, []), (27, .iload_n 1, 28, []), (28, .lshr, 29, []), (29, .lconst 1, 30, []), (30, .land, 31, []), (31, .lconst 1, 32, []), (32, .lcmp, 33, []), (33, .ifCond .ne 7, 36, [40]), (36, .iconst 1, 37, []), (37, .goto 4, 40, [41]), (40, .iconst 0, 41, []), (41, .ireturn, 42, [])]
def mi_X6_hasBar : MI := (cd_X6_hasBar, [(24, 4, 4), (28, 4, 5)], [], [], [], [], [], 0, 0, 1)
def cd_X6_drawBar : List (Nat × ARow) := [(0, .aload_n 0, 1, []), (1, .iload_n 1, 2, []), (2, .iload_n 2, 3, []), (3, .invokevirtual 64, 6, []), (6, .ifCond .ne 4, 9, [10]), (9, .return_, 10, []), (10, .lconst 1, 11, []), (11, .iload_n 1, 12, []), (12, .lshl, 13, []), (13, .lstore 4, 15, []), (15, .iload_n 2, 16, []), (16, .ifCond .eq 35, 19, [51]), (19, .aload_n 0, 20, []), (20, .iload_n 3, 21, []), (21, .ifCond .eq 13, 24, [34]), (24, .aload_n 0, 25, []), (25, .getfield 28, 28, []), (28, .lload 4, 30, []), (30, .lor, 31, []), (31, .goto 14, 34, [45]), (34, .aload_n 0, 35, []), (35, .getfield 28, 38, []), (38, .lload 4, 40, []), (40, .ldc2_w 68, 43, []), (43, .lxor, 44, []), (44, .land, 45, []), (45, .putfield 28, 48, []), (48, .goto 32, 51, [80]), (51, .aload_n 0, 52, []), (52, .iload_n 3, 53, []), (53, .ifCond .eq 13, 56, [66]), (56, .aload_n 0, 57, []), (57, .getfield 24, 60, []), (60, .lload 4, 62, []), (62, .lor, 63, []), (63, .goto 14, 66, [77]), (66, .aload_n 0, 67, []), (67, .getfield 24, 70, []), (70, .lload 4, 72, []), (72, .ldc2_w 68, 75, []), (75, .lxor, 76, []), (76, .land, 77, []), (77, .putfield 24, 80, []), (80, .return_, 81, [])]
def mi_X6_drawBar : MI := (cd_X6_drawBar, [(24, 4, 4), (28, 4, 5)], [(64, 64, 0, 3, 0, 0, 4)], [], [], [], [(68, -1)], 0, 0, 0)
def cd_X6_barCount : List (Nat × ARow) := [(0, .aload_n 0, 1, []), (1, .getfield 24, 4, []), (4, .invokestatic 70, 7, []), (7, .aload_n 0, 8, []), (8, .getfield 28, 11, []), (11, .invokestatic 70, 14, []), (14, .iadd, 15, []), (15, .ireturn, 16, [])]
def mi_X6_barCount : MI := (cd_X6_barCount, [(24, 4, 4), (28, 4, 5)], [(70, 205, 1, 1, 0, 0, 0)], [], [], [], [], 0, 0, 0)
def cd_X6_isJoined : List (Nat × ARow) := [(0, .aload_n 0, 1, []), (1, .iload_n 1, 2, []), (2, .iload_n 2, 3, []), (3, .invokevirtual 64, 6, []), (6, .ifCond .eq 16, 9, [22]), (9, .aload_n 0, 10, []), (10, .iload_n 1, 11, []), (11, .iload_n 2, 12, []), (12, .invokevirtual 76, 15, []), (15, .ifCond .ne 7, 18, [22]), (18, .iconst 1, 19, []), (19, .goto 4, 22, [23]), (22, .iconst 0, 23, []), (23, .ireturn, 24, [])]
def mi_X6_isJoined : MI := (cd_X6_isJoined, [], [(64, 64, 0, 3, 0, 0, 4), (76, 65, 0, 3, 0, 0, 4)], [], [], [], [], 0, 0, 1)
def cd_X6_hasWord : List (Nat × ARow) := [(0, .iload_n 1, 1, []), (1, .ifCond .lt 21, 4, [22]), (4, .iload_n 1, 5, []), (5, .aload_n 0, 6, []), (6, .getfield 18, 9, []), (9, .if_icmp .ge 13, 12, [22]), (12, .iload_n 1, 13, []), (13, .bipush 8, 15, []), (15, .if_icmp .ge 7, 18, [22]), (18, .iconst 1, 19, []), (19, .goto 4, 22, [23]), (22, .iconst 0, 23, []), (23, .ireturn, 24, [])]
def mi_X6_hasWord : MI := (cd_X6_hasWord, [(18, 4, 2)], [], [], [], [], [], 0, 0, 1)
def cd_X6_lengthOfWord : List (Nat × ARow) := [(0, .aload_n 0, 1, []), (1, .iload_n 1, 2, []), (2, .invokevirtual 79, 5, []), (5, .ifCond .eq 12, 8, [17]), (8, .aload_n 0, 9, []), (9, .getfield 35, 12, []), (12, .iload_n 1, 13, []), (13, .iaload, 14, []), (14, .goto 4, 17, [18]), (17, .iconst 0, 18, []), (18, .ireturn, 19, [])]
def mi_X6_lengthOfWord : MI := (cd_X6_lengthOfWord, [(35, 4, 7)], [(79, 69, 0, 2, 0, 0, 4)], [], [], [], [], 0, 0, 0)
def cd_X6_letterOfWord : List (Nat × ARow) := [(0, .iload_n 2, 1, []), (1, .ifCond .lt 18, 4, [19]), (4, .iload_n 2, 5, []), (5, .bipush 6, 7, []), (7, .if_icmp .ge 12, 10, [19]), (10, .iload_n 2, 11, []), (11, .aload_n 0, 12, []), (12, .iload_n 1, 13, []), (13, .invokevirtual 82, 16, []), (16, .if_icmp .lt 6, 19, [22]), (19, .bipush (-9), 21, []), (21, .ireturn, 22, []), (22, .aload_n 0, 23, []), (23, .getfield 38, 26, []), (26, .iload_n 1, 27, []), (27, .bipush 6, 29, []), (29, .imul, 30, []), (30, .iload_n 2, 31, []), (31, .iadd, 32, []), (32, .iaload, 33, []), (33, .ireturn, 34, [])]
def mi_X6_letterOfWord : MI := (cd_X6_letterOfWord, [(38, 4, 8)], [(82, 70, 0, 2, 0, 0, 4)], [], [], [], [], 0, 0, 0)
def cd_X6_beginWord : List (Nat × ARow) := [(0, .aload_n 0, 1, []), (1, .getfield 18, 4, []), (4, .ifCond .lt 32, 7, [36]), (7, .aload_n 0, 8, []), (8, .getfield 18, 11, []), (11, .bipush 8, 13, []), (13, .if_icmp .ge 23, 16, [36]), (16, .aload_n 0, 17, []), (17, .getfield 35, 20, []), (20, .aload_n 0, 21, []), (21, .getfield 18, 24, []), (24, .iconst 0, 25, []), (25, .iastore, 26, []), (26, .aload_n 0, 27, []), (27, .dup, 28, []), (28, .getfield 18, 31, []), (31, .iconst 1, 32, []), (32, .iadd, 33, []), (33, .putfield 18, 36, []), (36, .return_, 37, [])]
def mi_X6_beginWord : MI := (cd_X6_beginWord, [(18, 4, 2), (35, 4, 7)], [], [], [], [], [], 0, 0, 0)
def cd_X6_lengthenWord : List (Nat × ARow) := [(0, .aload_n 0, 1, []), (1, .getfield 18, 4, []), (4, .iconst 1, 5, []), (5, .isub, 6, []), (6, .istore_n 2, 7, []), (7, .aload_n 0, 8, []), (8, .iload_n 2, 9, []), (9, .invokevirtual 82, 12, []), (12, .istore_n 3, 13, []), (13, .aload_n 0, 14, []), (14, .iload_n 2, 15, []), (15, .invokevirtual 79, 18, []), (18, .ifCond .eq 34, 21, [52]), (21, .iload_n 3, 22, []), (22, .ifCond .lt 30, 25, [52]), (25, .iload_n 3, 26, []), (26, .bipush 6, 28, []), (28, .if_icmp .ge 24, 31, [52]), (31, .aload_n 0, 32, []), (32, .getfield 38, 35, []), (35, .iload_n 2, 36, []), (36, .bipush 6, 38, []), (38, .imul, 39, []), (39, .iload_n 3, 40, []), (40, .iadd, 41, []), (41, .iload_n 1, 42, []), (42, .iastore, 43, []), (43, .aload_n 0, 44, []), (44, .getfield 35, 47, []), (47, .iload_n 2, 48, []), (48, .iload_n 3, 49, []), (49, .iconst 1, 50, []), (50, .iadd, 51, []), (51, .iastore, 52, []), (52, .return_, 53, [])]
def mi_X6_lengthenWord : MI := (cd_X6_lengthenWord, [(18, 4, 2), (35, 4, 7), (38, 4, 8)], [(79, 69, 0, 2, 0, 0, 4), (82, 70, 0, 2, 0, 0, 4)], [], [], [], [], 0, 0, 0)
def cd_X6_letterOfLine : List (Nat × ARow) := [(0, .iload_n 1, 1, []), (1, .ifCond .lt 26, 4, [27]), (4, .iload_n 1, 5, []), (5, .aload_n 0, 6, []), (6, .getfield 21, 9, []), (9, .if_icmp .ge 18, 12, [27]), (12, .iload_n 1, 13, []), (13, .bipush 6, 15, []), (15, .if_icmp .ge 12, 18, [27]), (18, .aload_n 0, 19, []), (19, .getfield 41, 22, []), (22, .iload_n 1, 23, []), (23, .iaload, 24, []), (24, .goto 5, 27, [29]), (27, .bipush (-9), 29, []), (29, .ireturn, 30, [])]
def mi_X6_letterOfLine : MI := (cd_X6_letterOfLine, [(21, 4, 3), (41, 4, 9)], [], [], [], [], [], 0, 0, 0)
def cd_X6_lengthenLine : List (Nat × ARow) := [(0, .aload_n 0, 1, []), (1, .getfield 21, 4, []), (4, .ifCond .lt 32, 7, [36]), (7, .aload_n 0, 8, []), (8, .getfield 21, 11, []), (11, .bipush 6, 13, []), (13, .if_icmp .ge 23, 16, [36]), (16, .aload_n 0, 17, []), (17, .getfield 41, 20, []), (20, .aload_n 0, 21, []), (21, .getfield 21, 24, []), (24, .iload_n 1, 25, []), (25, .iastore, 26, []), (26, .aload_n 0, 27, []), (27, .dup, 28, []), (28, .getfield 21, 31, []), (31, .iconst 1, 32, []), (32, .iadd, 33, []), (33, .putfield 21, 36, []), (36, .return_, 37, [])]
def mi_X6_lengthenLine : MI := (cd_X6_lengthenLine, [(21, 4, 3), (41, 4, 9)], [], [], [], [], [], 0, 0, 0)
def cd_X7_init : List (Nat × ARow) := [(0, .aload_n 0, 1, []), (1, .invokespecial 3, 4, []), (4, .aload_n 0, 5, []), (5, .iconst 0, 6, []), (6, .putfield 9, 9, []), (9, .aload_n 0, 10, []), (10, .new 15, 13, []), (13, .dup, 14, []), (14, .invokespecial 17, 17, []), (17, .putfield 18, 20, []), (20, .aload_n 0, 21, []), (21, .iconst 0, 22, []), (22, .putfield 22, 25, []), (25, .aload_n 0, 26, []), (26, .sipush 150, 29, []), (29, .newarray .int, 31, []), (31, .putfield 25, 34, []), (34, .return_, 35, [])]
def mi_X7_init : MI := (cd_X7_init, [(9, 5, 0), (18, 5, 1), (22, 5, 2), (25, 5, 3)], [(3, 0, 5, 1, 0, 0, 0), (17, 54, 4, 1, 4, 98, 0)], [], [], [(15, 4)], [], 6, 258, 0)
def cd_X7_isFull : List (Nat × ARow) := [(0, .aload_n 0, 1, []), (1, .getfield 9, 4, []), (4, .sipush 150, 7, []), (7, .if_icmp .lt 7, 10, [14]), (10, .iconst 1, 11, []), (11, .goto 4, 14, [15]), (14, .iconst 0, 15, []), (15, .ireturn, 16, [])]
def mi_X7_isFull : MI := (cd_X7_isFull, [(9, 5, 0)], [], [], [], [], [], 0, 0, 1)
def cd_X7_add : List (Nat × ARow) := [(0, .aload_n 0, 1, []), (1, .getfield 9, 4, []), (4, .ifCond .lt 33, 7, [37]), (7, .aload_n 0, 8, []), (8, .getfield 9, 11, []), (11, .sipush 150, 14, []), (14, .if_icmp .ge 23, 17, [37]), (17, .aload_n 0, 18, []), (18, .getfield 25, 21, []), (21, .aload_n 0, 22, []), (22, .getfield 9, 25, []), (25, .iload_n 1, 26, []), (26, .iastore, 27, []), (27, .aload_n 0, 28, []), (28, .dup, 29, []), (29, .getfield 9, 32, []), (32, .iconst 1, 33, []), (33, .iadd, 34, []), (34, .putfield 9, 37, []), (37, .aload_n 0, 38, []), (38, .getfield 9, 41, []), (41, .ireturn, 42, [])]
def mi_X7_add : MI := (cd_X7_add, [(9, 5, 0), (25, 5, 3)], [], [], [], [], [], 0, 0, 0)
def cd_X7_empty : List (Nat × ARow) := [(0, .aload_n 0, 1, []), (1, .getfield 9, 4, []), (4, .istore_n 1, 5, []), (5, .aload_n 0, 6, []), (6, .iconst 0, 7, []), (7, .putfield 9, 10, []), (10, .iload_n 1, 11, []), (11, .ireturn, 12, [])]
def mi_X7_empty : MI := (cd_X7_empty, [(9, 5, 0)], [], [], [], [], [], 0, 0, 0)
def cd_X7_signAt : List (Nat × ARow) := [(0, .iload_n 1, 1, []), (1, .ifCond .lt 27, 4, [28]), (4, .iload_n 1, 5, []), (5, .aload_n 0, 6, []), (6, .getfield 9, 9, []), (9, .if_icmp .ge 19, 12, [28]), (12, .iload_n 1, 13, []), (13, .sipush 150, 16, []), (16, .if_icmp .ge 12, 19, [28]), (19, .aload_n 0, 20, []), (20, .getfield 25, 23, []), (23, .iload_n 1, 24, []), (24, .iaload, 25, []), (25, .goto 4, 28, [29]), (28, .iconst (-1), 29, []), (29, .ireturn, 30, [])]
def mi_X7_signAt : MI := (cd_X7_signAt, [(9, 5, 0), (25, 5, 3)], [], [], [], [], [], 0, 0, 0)
def cd_X7_isWord : List (Nat × ARow) := [(0, .aload_n 0, 1, []), (1, .getfield 9, 4, []), (4, .iload_n 1, 5, []), (5, .if_icmp .lt 12, 8, [17]), (8, .aload_n 0, 9, []), (9, .getfield 9, 12, []), (12, .bipush 6, 14, []), (14, .if_icmp .le 5, 17, [19]), (17, .iconst 0, 18, []), (18, .ireturn, 19, []), (19, .iconst 0, 20, []), (20, .istore_n 2, 21, []), (21, .iload_n 2, 22, []), (22, .aload_n 0, 23, []), (23, .getfield 9, 26, []), (26, .if_icmp .ge 22, 29, [48]), (29, .aload_n 0, 30, []), (30, .iload_n 2, 31, []), (31, .invokevirtual 29, 34, []), (34, .invokestatic 33, 37, []), (37, .ifCond .ne 5, 40, [42]), (40, .iconst 0, 41, []), (41, .ireturn, 42, []), (42, .iinc 2 1, 45, []), (45, .goto (-24), 48, [21]), (48, .iconst 1, 49, []), (49, .ireturn, 50, [])]
def mi_X7_isWord : MI := (cd_X7_isWord, [(9, 5, 0)], [(29, 80, 0, 2, 0, 0, 5), (33, 122, 3, 1, 0, 0, 0)], [], [], [], [], 0, 0, 1)
def cd_X7_readGrid : List (Nat × ARow) := [(0, .aload_n 0, 1, []), (1, .iconst 0, 2, []), (2, .putfield 22, 5, []), (5, .aload_n 0, 6, []), (6, .bipush 71, 8, []), (8, .invokevirtual 37, 11, []), (11, .ifCond .eq 29, 14, [40]), (14, .aload_n 0, 15, []), (15, .invokevirtual 40, 18, []), (18, .ifCond .eq 22, 21, [40]), (21, .aload_n 0, 22, []), (22, .invokevirtual 44, 25, []), (25, .ifCond .eq 15, 28, [40]), (28, .aload_n 0, 29, []), (29, .invokevirtual 47, 32, []), (32, .ifCond .eq 8, 35, [40]), (35, .bipush (-9), 37, []), (37, .goto 7, 40, [44]), (40, .aload_n 0, 41, []), (41, .getfield 22, 44, []), (44, .ireturn, 45, [])]
def mi_X7_readGrid : MI := (cd_X7_readGrid, [(22, 5, 2)], [(37, 83, 0, 2, 0, 0, 5), (40, 84, 0, 1, 0, 0, 5), (44, 85, 0, 1, 0, 0, 5), (47, 87, 0, 1, 0, 0, 5)], [], [], [], [], 0, 0, 0)
def cd_X7_goesPast : List (Nat × ARow) := [(0, .aload_n 0, 1, []), (1, .aload_n 0, 2, []), (2, .getfield 22, 5, []), (5, .invokevirtual 29, 8, []), (8, .iload_n 1, 9, []), (9, .if_icmp .eq 5, 12, [14]), (12, .iconst 0, 13, []), (13, .ireturn, 14, []), (14, .aload_n 0, 15, []), (15, .dup, 16, []), (16, .getfield 22, 19, []), (19, .iconst 1, 20, []), (20, .iadd, 21, []), (21, .putfield 22, 24, []), (24, .iconst 1, 25, []), (25, .ireturn, 26, [])]
def mi_X7_goesPast : MI := (cd_X7_goesPast, [(22, 5, 2)], [(29, 80, 0, 2, 0, 0, 5)], [], [], [], [], 0, 0, 1)
def cd_X7_readSize : List (Nat × ARow) := [(0, .aload_n 0, 1, []), (1, .aload_n 0, 2, []), (2, .getfield 22, 5, []), (5, .invokevirtual 29, 8, []), (8, .bipush 48, 10, []), (10, .isub, 11, []), (11, .istore_n 1, 12, []), (12, .iload_n 1, 13, []), (13, .iconst 2, 14, []), (14, .if_icmp .lt 9, 17, [23]), (17, .iload_n 1, 18, []), (18, .bipush 6, 20, []), (20, .if_icmp .le 5, 23, [25]), (23, .iconst 0, 24, []), (24, .ireturn, 25, []), (25, .aload_n 0, 26, []), (26, .dup, 27, []), (27, .getfield 22, 30, []), (30, .iconst 1, 31, []), (31, .iadd, 32, []), (32, .putfield 22, 35, []), (35, .aload_n 0, 36, []), (36, .aload_n 0, 37, []), (37, .getfield 22, 40, []), (40, .invokevirtual 29, 43, []), (43, .bipush 48, 45, []), (45, .isub, 46, []), (46, .istore_n 2, 47, []), (47, .iload_n 2, 48, []), (48, .iconst 2, 49, []), (49, .if_icmp .lt 9, 52, [58]), (52, .iload_n 2, 53, []), (53, .bipush 6, 55, []), (55, .if_icmp .le 5, 58, [60]), (58, .iconst 0, 59, []), (59, .ireturn, 60, []), (60, .aload_n 0, 61, []), (61, .dup, 62, []), (62, .getfield 22, 65, []), (65, .iconst 1, 66, []), (66, .iadd, 67, []), (67, .putfield 22, 70, []), (70, .aload_n 0, 71, []), (71, .getfield 18, 74, []), (74, .iload_n 1, 75, []), (75, .iload_n 2, 76, []), (76, .invokevirtual 50, 79, []), (79, .iconst 1, 80, []), (80, .ireturn, 81, [])]
def mi_X7_readSize : MI := (cd_X7_readSize, [(18, 5, 1), (22, 5, 2)], [(29, 80, 0, 2, 0, 0, 5), (50, 56, 0, 3, 0, 0, 4)], [], [], [], [], 0, 0, 1)
def cd_X7_readCells : List (Nat × ARow) := [(0, .iconst 0, 1, []), (1, .istore_n 1, 2, []), (2, .iload_n 1, 3, []), (3, .aload_n 0, 4, []), (4, .getfield 18, 7, []), (7, .invokevirtual 54, 10, []), (10, .if_icmp .ge 78, 13, [88]), (13, .aload_n 0, 14, []), (14, .aload_n 0, 15, []), (15, .getfield 22, 18, []), (18, .invokevirtual 29, 21, []), (21, .istore_n 2, 22, []), (22, .iload_n 2, 23, []), (23, .bipush 46, 25, []), (25, .if_icmp .eq 12, 28, [37]), (28, .iload_n 2, 29, []), (29, .invokestatic 33, 32, []), (32, .ifCond .ne 5, 35, [37]), (35, .iconst 0, 36, []), (36, .ireturn, 37, []), (37, .aload_n 0, 38, []), (38, .dup, 39, []), (39, .getfield 22, 42, []), (42, .iconst 1, 43, []), (43, .iadd, 44, []), (44, .putfield 22, 47, []), (47, .aload_n 0, 48, []), (48, .getfield 18, 51, []), (51, .iload_n 1, 52, []), (52, .iload_n 2, 53, []), (53, .bipush 46, 55, []), (55, .if_icmp .ne 7, 58, [62]), (58, .iconst 0, 59, []), (59, .goto 4, 62, [63]), (62, .iload_n 2, 63, []), (63, .invokevirtual 58, 66, []), (66, .aload_n 0, 67, []), (67, .iload_n 1, 68, []), (68, .iconst 0, 69, []), (69, .bipush 124, 71, []), (71, .invokevirtual 61, 74, []), (74, .aload_n 0, 75, []), (75, .iload_n 1, 76, []), (76, .iconst 1, 77, []), (77, .bipush 95, 79, []), (79, .invokevirtual 61, 82, []), (82, .iinc 1 1, 85, []), (85, .goto (-83), 88, [2]), (88, .iconst 1, 89, []), (89, .ireturn, 90, [])]
def mi_X7_readCells : MI := (cd_X7_readCells, [(18, 5, 1), (22, 5, 2)], [(29, 80, 0, 2, 0, 0, 5), (33, 122, 3, 1, 0, 0, 0), (54, 57, 0, 1, 0, 0, 4), (58, 62, 0, 3, 0, 0, 4), (61, 86, 0, 4, 0, 0, 5)], [], [], [], [], 0, 0, 1)
def cd_X7_readBar : List (Nat × ARow) := [(0, .aload_n 0, 1, []), (1, .getfield 18, 4, []), (4, .iload_n 1, 5, []), (5, .iload_n 2, 6, []), (6, .invokevirtual 65, 9, []), (9, .ifCond .eq 21, 12, [30]), (12, .aload_n 0, 13, []), (13, .iload_n 3, 14, []), (14, .invokevirtual 37, 17, []), (17, .ifCond .eq 13, 20, [30]), (20, .aload_n 0, 21, []), (21, .getfield 18, 24, []), (24, .iload_n 1, 25, []), (25, .iload_n 2, 26, []), (26, .iconst 1, 27, []), (27, .invokevirtual 69, 30, []), (30, .return_, 31, [])]
def mi_X7_readBar : MI := (cd_X7_readBar, [(18, 5, 1)], [(37, 83, 0, 2, 0, 0, 5), (65, 64, 0, 3, 0, 0, 4), (69, 66, 0, 4, 0, 0, 4)], [], [], [], [], 0, 0, 0)
def cd_X7_readParts : List (Nat × ARow) := [(0, .iconst 0, 1, []), (1, .istore_n 1, 2, []), (2, .iload_n 1, 3, []), (3, .bipush 9, 5, []), (5, .if_icmp .gt 83, 8, [88]), (8, .aload_n 0, 9, []), (9, .getfield 22, 12, []), (12, .aload_n 0, 13, []), (13, .getfield 9, 16, []), (16, .if_icmp .lt 5, 19, [21]), (19, .iconst 1, 20, []), (20, .ireturn, 21, []), (21, .iconst 0, 22, []), (22, .istore_n 2, 23, []), (23, .aload_n 0, 24, []), (24, .getfield 18, 27, []), (27, .getfield 73, 30, []), (30, .bipush 8, 32, []), (32, .if_icmp .ge 20, 35, [52]), (35, .aload_n 0, 36, []), (36, .bipush 47, 38, []), (38, .invokevirtual 37, 41, []), (41, .ifCond .eq 11, 44, [52]), (44, .aload_n 0, 45, []), (45, .invokevirtual 76, 48, []), (48, .istore_n 2, 49, []), (49, .goto 27, 52, [76]), (52, .aload_n 0, 53, []), (53, .getfield 18, 56, []), (56, .getfield 79, 59, []), (59, .ifCond .ne 17, 62, [76]), (62, .aload_n 0, 63, []), (63, .bipush 61, 65, []), (65, .invokevirtual 37, 68, []), (68, .ifCond .eq 8, 71, [76]), (71, .aload_n 0, 72, []), (72, .invokevirtual 82, 75, []), (75, .istore_n 2, 76, []), (76, .iload_n 2, 77, []), (77, .ifCond .ne 5, 80, [82]), (80, .iconst 0, 81, []), (81, .ireturn, 82, []), (82, .iinc 1 1, 85, []), (85, .goto (-83), 88, [2]), (88, .iconst 0, 89, []), (89, .ireturn, 90, [])]
def mi_X7_readParts : MI := (cd_X7_readParts, [(9, 5, 0), (18, 5, 1), (22, 5, 2), (73, 4, 2), (79, 4, 3)], [(37, 83, 0, 2, 0, 0, 5), (76, 88, 0, 1, 0, 0, 5), (82, 89, 0, 1, 0, 0, 5)], [], [], [], [], 0, 0, 1)
def cd_X7_readWord : List (Nat × ARow) := [(0, .aload_n 0, 1, []), (1, .getfield 18, 4, []), (4, .invokevirtual 85, 7, []), (7, .iconst 0, 8, []), (8, .istore_n 1, 9, []), (9, .iload_n 1, 10, []), (10, .bipush 6, 12, []), (12, .if_icmp .ge 48, 15, [60]), (15, .aload_n 0, 16, []), (16, .aload_n 0, 17, []), (17, .getfield 22, 20, []), (20, .invokevirtual 29, 23, []), (23, .invokestatic 33, 26, []), (26, .ifCond .eq 34, 29, [60]), (29, .aload_n 0, 30, []), (30, .getfield 18, 33, []), (33, .aload_n 0, 34, []), (34, .aload_n 0, 35, []), (35, .getfield 22, 38, []), (38, .invokevirtual 29, 41, []), (41, .invokevirtual 88, 44, []), (44, .aload_n 0, 45, []), (45, .dup, 46, []), (46, .getfield 22, 49, []), (49, .iconst 1, 50, []), (50, .iadd, 51, []), (51, .putfield 22, 54, []), (54, .iinc 1 1, 57, []), (57, .goto (-48), 60, [9]), (60, .iload_n 1, 61, []), (61, .iconst 2, 62, []), (62, .if_icmp .lt 7, 65, [69]), (65, .iconst 1, 66, []), (66, .goto 4, 69, [70]), (69, .iconst 0, 70, []), (70, .ireturn, 71, [])]
def mi_X7_readWord : MI := (cd_X7_readWord, [(18, 5, 1), (22, 5, 2)], [(29, 80, 0, 2, 0, 0, 5), (33, 122, 3, 1, 0, 0, 0), (85, 72, 0, 1, 0, 0, 4), (88, 73, 0, 2, 0, 0, 4)], [], [], [], [], 0, 0, 1)
def cd_X7_readLine : List (Nat × ARow) := [(0, .iconst 0, 1, []), (1, .istore_n 1, 2, []), (2, .iload_n 1, 3, []), (3, .bipush 6, 5, []), (5, .if_icmp .ge 48, 8, [53]), (8, .aload_n 0, 9, []), (9, .aload_n 0, 10, []), (10, .getfield 22, 13, []), (13, .invokevirtual 29, 16, []), (16, .invokestatic 33, 19, []), (19, .ifCond .eq 34, 22, [53]), (22, .aload_n 0, 23, []), (23, .getfield 18, 26, []), (26, .aload_n 0, 27, []), (27, .aload_n 0, 28, []), (28, .getfield 22, 31, []), (31, .invokevirtual 29, 34, []), (34, .invokevirtual 92, 37, []), (37, .aload_n 0, 38, []), (38, .dup, 39, []), (39, .getfield 22, 42, []), (42, .iconst 1, 43, []), (43, .iadd, 44, []), (44, .putfield 22, 47, []), (47, .iinc 1 1, 50, []), (50, .goto (-48), 53, [2]), (53, .iload_n 1, 54, []), (54, .iconst 1, 55, []), (55, .if_icmp .lt 7, 58, [62]), (58, .iconst 1, 59, []), (59, .goto 4, 62, [63]), (62, .iconst 0, 63, []), (63, .ireturn, 64, [])]
def mi_X7_readLine : MI := (cd_X7_readLine, [(18, 5, 1), (22, 5, 2)], [(29, 80, 0, 2, 0, 0, 5), (33, 122, 3, 1, 0, 0, 0), (92, 75, 0, 2, 0, 0, 4)], [], [], [], [], 0, 0, 1)
def cd_X8_init : List (Nat × ARow) := [(0, .aload_n 0, 1, []), (1, .invokespecial 1, 4, []), (4, .aload_n 0, 5, []), (5, .new 7, 8, []), (8, .dup, 9, []), (9, .invokespecial 9, 12, []), (12, .putfield 10, 15, []), (15, .aload_n 0, 16, []), (16, .new 16, 19, []), (19, .dup, 20, []), (20, .invokespecial 18, 23, []), (23, .putfield 19, 26, []), (26, .aload_n 0, 27, []), (27, .new 16, 30, []), (30, .dup, 31, []), (31, .invokespecial 18, 34, []), (34, .putfield 23, 37, []), (37, .aload_n 0, 38, []), (38, .new 26, 41, []), (41, .dup, 42, []), (42, .invokespecial 28, 45, []), (45, .putfield 29, 48, []), (48, .aload_n 0, 49, []), (49, .new 33, 52, []), (52, .dup, 53, []), (53, .invokespecial 35, 56, []), (56, .putfield 36, 59, []), (59, .aload_n 0, 60, []), (60, .new 40, 63, []), (63, .dup, 64, []), (64, .invokespecial 42, 67, []), (67, .putfield 43, 70, []), (70, .return_, 71, [])]
def mi_X8_init : MI := (cd_X8_init, [(10, 6, 0), (19, 6, 1), (23, 6, 2), (29, 6, 3), (36, 6, 4), (43, 6, 5)], [(1, 0, 5, 1, 0, 0, 0), (9, 76, 4, 1, 6, 258, 0), (18, 26, 2, 1, 11, 324, 0), (28, 17, 2, 1, 83, 1746, 0), (35, 10, 4, 1, 2, 12, 0), (42, 4, 4, 1, 2, 16, 0)], [], [], [(7, 5), (16, 3), (26, 2), (33, 1), (40, 0)], [], 121, 2720, 0)
def cd_X8_append : List (Nat × ARow) := [(0, .iload_n 1, 1, []), (1, .ifCond .lt 10, 4, [11]), (4, .iload_n 1, 5, []), (5, .sipush 255, 8, []), (8, .if_icmp .le 13, 11, [21]), (11, .new 47, 14, []), (14, .dup, 15, []), (15, .ldc 49, 17, []), (17, .invokespecial 51, 20, []), (20, .athrow, 21, []), (21, .aload_n 0, 22, []), (22, .getfield 10, 25, []), (25, .invokevirtual 54, 28, []), (28, .ifCond .eq 13, 31, [41]), (31, .new 58, 34, []), (34, .dup, 35, []), (35, .ldc 60, 37, []), (37, .invokespecial 62, 40, []), (40, .athrow, 41, []), (41, .aload_n 0, 42, []), (42, .getfield 10, 45, []), (45, .iload_n 1, 46, []), (46, .invokevirtual 63, 49, []), (49, .ireturn, 50, [])]
def mi_X8_append : MI := (cd_X8_append, [(10, 6, 0)], [(54, 77, 0, 1, 0, 0, 5), (63, 78, 0, 2, 0, 0, 5)], [], [(11, "java/lang/IllegalArgumentException"), (31, "java/lang/IllegalStateException")], [], [], 1, 6, 0)
def cd_X8_clearText : List (Nat × ARow) := [(0, .aload_n 0, 1, []), (1, .getfield 10, 4, []), (4, .invokevirtual 67, 7, []), (7, .ireturn, 8, [])]
def mi_X8_clearText : MI := (cd_X8_clearText, [(10, 6, 0)], [(67, 79, 0, 1, 0, 0, 5)], [], [], [], [], 0, 0, 0)
def cd_X8_errorPosition : List (Nat × ARow) := [(0, .aload_n 0, 1, []), (1, .getfield 10, 4, []), (4, .invokevirtual 71, 7, []), (7, .ireturn, 8, [])]
def mi_X8_errorPosition : MI := (cd_X8_errorPosition, [(10, 6, 0)], [(71, 82, 0, 1, 0, 0, 5)], [], [], [], [], 0, 0, 0)
def cd_X8_load : List (Nat × ARow) := [(0, .aload_n 0, 1, []), (1, .getfield 10, 4, []), (4, .invokevirtual 71, 7, []), (7, .bipush (-9), 9, []), (9, .if_icmp .eq 13, 12, [22]), (12, .new 58, 15, []), (15, .dup, 16, []), (16, .ldc 74, 18, []), (18, .invokespecial 62, 21, []), (21, .athrow, 22, []), (22, .aload_n 0, 23, []), (23, .getfield 19, 26, []), (26, .aload_n 0, 27, []), (27, .getfield 10, 30, []), (30, .getfield 76, 33, []), (33, .invokevirtual 80, 36, []), (36, .aload_n 0, 37, []), (37, .getfield 29, 40, []), (40, .invokevirtual 84, 43, []), (43, .aload_n 0, 44, []), (44, .getfield 29, 47, []), (47, .invokevirtual 87, 50, []), (50, .aload_n 0, 51, []), (51, .getfield 19, 54, []), (54, .getfield 90, 57, []), (57, .invokevirtual 93, 60, []), (60, .ireturn, 61, [])]
def mi_X8_load : MI := (cd_X8_load, [(10, 6, 0), (19, 6, 1), (29, 6, 3), (76, 5, 1), (90, 3, 0)], [(71, 82, 0, 1, 0, 0, 5), (80, 27, 0, 2, 0, 0, 3), (84, 20, 0, 1, 0, 0, 2), (87, 25, 0, 1, 0, 0, 2), (93, 57, 0, 1, 0, 0, 4)], [], [(12, "java/lang/IllegalStateException")], [], [], 1, 6, 0)
def cd_X8_about : List (Nat × ARow) := [(0, .iload_n 1, 1, []), (1, .tableswitch 167 0 10 #[59, 70, 81, 89, 97, 106, 115, 126, 137, 148, 159], 60, [168, 60, 71, 82, 90, 98, 107, 116, 127, 138, 149, 160]), (60, .aload_n 0, 61, []), (61, .getfield 19, 64, []), (64, .getfield 90, 67, []), (67, .getfield 98, 70, []), (70, .ireturn, 71, []), (71, .aload_n 0, 72, []), (72, .getfield 19, 75, []), (75, .getfield 90, 78, []), (78, .getfield 102, 81, []), (81, .ireturn, 82, []), (82, .aload_n 0, 83, []), (83, .getfield 19, 86, []), (86, .getfield 105, 89, []), (89, .ireturn, 90, []), (90, .aload_n 0, 91, []), (91, .getfield 19, 94, []), (94, .getfield 108, 97, []), (97, .ireturn, 98, []), (98, .aload_n 0, 99, []), (99, .getfield 19, 102, []), (102, .iconst 2, 103, []), (103, .invokevirtual 111, 106, []), (106, .ireturn, 107, []), (107, .aload_n 0, 108, []), (108, .getfield 19, 111, []), (111, .iconst 1, 112, []), (112, .invokevirtual 111, 115, []), (115, .ireturn, 116, []), (116, .aload_n 0, 117, []), (117, .getfield 19, 120, []), (120, .getfield 90, 123, []), (123, .invokevirtual 114, 126, []), (126, .ireturn, 127, []), (127, .aload_n 0, 128, []), (128, .getfield 19, 131, []), (131, .getfield 90, 134, []), (134, .invokevirtual 117, 137, []), (137, .ireturn, 138, []), (138, .aload_n 0, 139, []), (139, .getfield 19, 142, []), (142, .getfield 90, 145, []), (145, .getfield 120, 148, []), (148, .ireturn, 149, []), (149, .aload_n 0, 150, []), (150, .getfield 19, 153, []), (153, .getfield 90, 156, []), (156, .getfield 123, 159, []), (159, .ireturn, 160, []), (160, .aload_n 0, 161, []), (161, .getfield 19, 164, []), (164, .getfield 126, 167, []), (167, .ireturn, 168, []), (168, .new 47, 171, []), (171, .dup, 172, []), (172, .ldc 129, 174, []), (174, .invokespecial 51, 177, []), (177, .athrow, 178, [])]
def mi_X8_about : MI := (cd_X8_about, [(19, 6, 1), (90, 3, 0), (98, 4, 0), (102, 4, 1), (105, 3, 1), (108, 3, 2), (120, 4, 2), (123, 4, 3), (126, 3, 3)], [(111, 39, 0, 2, 0, 0, 3), (114, 63, 0, 1, 0, 0, 4), (117, 67, 0, 1, 0, 0, 4)], [], [(168, "java/lang/IllegalArgumentException")], [], [], 1, 6, 0)
def cd_X8_cell : List (Nat × ARow) := [(0, .aload_n 0, 1, []), (1, .iload_n 1, 2, []), (2, .invokevirtual 131, 5, []), (5, .iload_n 2, 6, []), (6, .tableswitch 134 0 6 #[42, 54, 75, 96, 106, 116, 125], 48, [140, 48, 60, 81, 102, 112, 122, 131]), (48, .aload_n 0, 49, []), (49, .getfield 19, 52, []), (52, .getfield 90, 55, []), (55, .iload_n 1, 56, []), (56, .invokevirtual 135, 59, []), (59, .ireturn, 60, []), (60, .aload_n 0, 61, []), (61, .getfield 19, 64, []), (64, .getfield 90, 67, []), (67, .iload_n 1, 68, []), (68, .iconst 0, 69, []), (69, .invokevirtual 138, 72, []), (72, .ifCond .eq 7, 75, [79]), (75, .iconst 1, 76, []), (76, .goto 4, 79, [80]), (79, .iconst 0, 80, []), (80, .ireturn, 81, []), (81, .aload_n 0, 82, []), (82, .getfield 19, 85, []), (85, .getfield 90, 88, []), (88, .iload_n 1, 89, []), (89, .iconst 1, 90, []), (90, .invokevirtual 138, 93, []), (93, .ifCond .eq 7, 96, [100]), (96, .iconst 1, 97, []), (97, .goto 4, 100, [101]), (100, .iconst 0, 101, []), (101, .ireturn, 102, []), (102, .aload_n 0, 103, []), (103, .getfield 19, 106, []), (106, .iload_n 1, 107, []), (107, .iconst 0, 108, []), (108, .invokevirtual 142, 111, []), (111, .ireturn, 112, []), (112, .aload_n 0, 113, []), (113, .getfield 19, 116, []), (116, .iload_n 1, 117, []), (117, .iconst 1, 118, []), (118, .invokevirtual 142, 121, []), (121, .ireturn, 122, []), (122, .aload_n 0, 123, []), (123, .getfield 19, 126, []), (126, .iload_n 1, 127, []), (127, .invokevirtual 146, 130, []), (130, .ireturn, 131, []), (131, .aload_n 0, 132, []), (132, .getfield 19, 135, []), (135, .iload_n 1, 136, []), (136, .invokevirtual 149, 139, []), (139, .ireturn, 140, []), (140, .new 47, 143, []), (143, .dup, 144, []), (144, .ldc 152, 146, []), (146, .invokespecial 51, 149, []), (149, .athrow, 150, [])]
def mi_X8_cell : MI := (cd_X8_cell, [(19, 6, 1), (90, 3, 0)], [(131, 118, 0, 2, 1, 6, 6), (135, 61, 0, 2, 0, 0, 4), (138, 65, 0, 3, 0, 0, 4), (142, 36, 0, 3, 0, 0, 3), (146, 38, 0, 2, 0, 0, 3), (149, 37, 0, 2, 0, 0, 3)], [], [(140, "java/lang/IllegalArgumentException")], [], [], 2, 12, 0)
def cd_X8_entry : List (Nat × ARow) := [(0, .aload_n 0, 1, []), (1, .iload_n 1, 2, []), (2, .invokevirtual 154, 5, []), (5, .iload_n 2, 6, []), (6, .tableswitch 122 0 6 #[42, 52, 69, 78, 87, 96, 113], 48, [128, 48, 58, 75, 84, 93, 102, 119]), (48, .aload_n 0, 49, []), (49, .getfield 19, 52, []), (52, .iload_n 1, 53, []), (53, .iconst 0, 54, []), (54, .invokevirtual 157, 57, []), (57, .ireturn, 58, []), (58, .aload_n 0, 59, []), (59, .getfield 19, 62, []), (62, .iload_n 1, 63, []), (63, .invokevirtual 161, 66, []), (66, .ifCond .eq 7, 69, [73]), (69, .iconst 1, 70, []), (70, .goto 4, 73, [74]), (73, .iconst 0, 74, []), (74, .ireturn, 75, []), (75, .aload_n 0, 76, []), (76, .getfield 19, 79, []), (79, .iload_n 1, 80, []), (80, .invokevirtual 165, 83, []), (83, .ireturn, 84, []), (84, .aload_n 0, 85, []), (85, .getfield 19, 88, []), (88, .iload_n 1, 89, []), (89, .invokevirtual 168, 92, []), (92, .ireturn, 93, []), (93, .aload_n 0, 94, []), (94, .getfield 19, 97, []), (97, .iload_n 1, 98, []), (98, .invokevirtual 171, 101, []), (101, .ireturn, 102, []), (102, .aload_n 0, 103, []), (103, .getfield 19, 106, []), (106, .aload_n 0, 107, []), (107, .getfield 19, 110, []), (110, .iload_n 1, 111, []), (111, .iconst 0, 112, []), (112, .invokevirtual 157, 115, []), (115, .invokevirtual 149, 118, []), (118, .ireturn, 119, []), (119, .aload_n 0, 120, []), (120, .getfield 19, 123, []), (123, .iload_n 1, 124, []), (124, .invokevirtual 174, 127, []), (127, .ireturn, 128, []), (128, .new 47, 131, []), (131, .dup, 132, []), (132, .ldc 152, 134, []), (134, .invokespecial 51, 137, []), (137, .athrow, 138, [])]
def mi_X8_entry : MI := (cd_X8_entry, [(19, 6, 1)], [(149, 37, 0, 2, 0, 0, 3), (154, 119, 0, 2, 1, 6, 6), (157, 34, 0, 3, 0, 0, 3), (161, 32, 0, 2, 0, 0, 3), (165, 33, 0, 2, 0, 0, 3), (168, 40, 0, 2, 0, 0, 3), (171, 41, 0, 2, 0, 0, 3), (174, 44, 0, 2, 0, 0, 3)], [], [(128, "java/lang/IllegalArgumentException")], [], [], 2, 12, 0)
def cd_X8_word : List (Nat × ARow) := [(0, .aload_n 0, 1, []), (1, .iload_n 1, 2, []), (2, .invokevirtual 177, 5, []), (5, .iload_n 2, 6, []), (6, .ifCond .ge 13, 9, [19]), (9, .new 47, 12, []), (12, .dup, 13, []), (13, .ldc 180, 15, []), (15, .invokespecial 51, 18, []), (18, .athrow, 19, []), (19, .aload_n 0, 20, []), (20, .getfield 19, 23, []), (23, .getfield 90, 26, []), (26, .iload_n 1, 27, []), (27, .iload_n 2, 28, []), (28, .invokevirtual 182, 31, []), (31, .ireturn, 32, [])]
def mi_X8_word : MI := (cd_X8_word, [(19, 6, 1), (90, 3, 0)], [(177, 120, 0, 2, 1, 6, 6), (182, 71, 0, 3, 0, 0, 4)], [], [(9, "java/lang/IllegalArgumentException")], [], [], 2, 12, 0)
def cd_X8_fits : List (Nat × ARow) := [(0, .aload_n 0, 1, []), (1, .iload_n 1, 2, []), (2, .invokevirtual 154, 5, []), (5, .aload_n 0, 6, []), (6, .getfield 19, 9, []), (9, .iload_n 1, 10, []), (10, .invokevirtual 185, 13, []), (13, .ireturn, 14, [])]
def mi_X8_fits : MI := (cd_X8_fits, [(19, 6, 1)], [(154, 119, 0, 2, 1, 6, 6), (185, 43, 0, 2, 0, 0, 3)], [], [], [], [], 1, 6, 0)
def cd_X8_rule : List (Nat × ARow) := [(0, .iload_n 1, 1, []), (1, .ifCond .lt 8, 4, [9]), (4, .iload_n 1, 5, []), (5, .iconst 5, 6, []), (6, .if_icmp .lt 13, 9, [19]), (9, .new 47, 12, []), (12, .dup, 13, []), (13, .ldc 188, 15, []), (15, .invokespecial 51, 18, []), (18, .athrow, 19, []), (19, .aload_n 0, 20, []), (20, .getfield 19, 23, []), (23, .iload_n 1, 24, []), (24, .invokestatic 190, 27, []), (27, .ireturn, 28, [])]
def mi_X8_rule : MI := (cd_X8_rule, [(19, 6, 1)], [(190, 48, 1, 2, 0, 0, 0)], [], [(9, "java/lang/IllegalArgumentException")], [], [], 1, 6, 1)
def cd_X8_readings : List (Nat × ARow) := [(0, .aload_n 0, 1, []), (1, .getfield 36, 4, []), (4, .aload_n 0, 5, []), (5, .getfield 19, 8, []), (8, .iconst 0, 9, []), (9, .ldc 196, 11, []), (11, .invokevirtual 197, 14, []), (14, .ireturn, 15, [])]
def mi_X8_readings : MI := (cd_X8_readings, [(19, 6, 1), (36, 6, 4)], [(197, 11, 0, 4, 0, 0, 1)], [], [], [], [(196, 2147483647)], 0, 0, 0)
def cd_X8_reading : List (Nat × ARow) := [(0, .iload_n 1, 1, []), (1, .ifCond .ge 13, 4, [14]), (4, .new 47, 7, []), (7, .dup, 8, []), (8, .ldc 201, 10, []), (10, .invokespecial 51, 13, []), (13, .athrow, 14, []), (14, .aload_n 0, 15, []), (15, .getfield 36, 18, []), (18, .aload_n 0, 19, []), (19, .getfield 19, 22, []), (22, .iconst 0, 23, []), (23, .iconst 1, 24, []), (24, .invokevirtual 197, 27, []), (27, .istore_n 2, 28, []), (28, .iload_n 2, 29, []), (29, .ifCond .le 14, 32, [43]), (32, .aload_n 0, 33, []), (33, .getfield 36, 36, []), (36, .iload_n 1, 37, []), (37, .invokevirtual 203, 40, []), (40, .goto 5, 43, [45]), (43, .bipush (-9), 45, []), (45, .ireturn, 46, [])]
def mi_X8_reading : MI := (cd_X8_reading, [(19, 6, 1), (36, 6, 4)], [(197, 11, 0, 4, 0, 0, 1), (203, 12, 0, 2, 0, 0, 1)], [], [(4, "java/lang/IllegalArgumentException")], [], [], 1, 6, 0)
def cd_X8_put : List (Nat × ARow) := [(0, .aload_n 0, 1, []), (1, .iload_n 1, 2, []), (2, .invokevirtual 131, 5, []), (5, .iload_n 2, 6, []), (6, .ifCond .eq 20, 9, [26]), (9, .iload_n 2, 10, []), (10, .invokestatic 206, 13, []), (13, .ifCond .ne 13, 16, [26]), (16, .new 47, 19, []), (19, .dup, 20, []), (20, .ldc 209, 22, []), (22, .invokespecial 51, 25, []), (25, .athrow, 26, []), (26, .aload_n 0, 27, []), (27, .getfield 29, 30, []), (30, .aload_n 0, 31, []), (31, .getfield 19, 34, []), (34, .getfield 90, 37, []), (37, .invokevirtual 211, 40, []), (40, .aload_n 0, 41, []), (41, .getfield 19, 44, []), (44, .getfield 90, 47, []), (47, .iload_n 1, 48, []), (48, .invokevirtual 135, 51, []), (51, .istore_n 3, 52, []), (52, .aload_n 0, 53, []), (53, .getfield 19, 56, []), (56, .getfield 90, 59, []), (59, .iload_n 1, 60, []), (60, .iload_n 2, 61, []), (61, .invokevirtual 214, 64, []), (64, .iload_n 3, 65, []), (65, .ireturn, 66, [])]
def mi_X8_put : MI := (cd_X8_put, [(19, 6, 1), (29, 6, 3), (90, 3, 0)], [(131, 118, 0, 2, 1, 6, 6), (135, 61, 0, 2, 0, 0, 4), (206, 122, 1, 1, 0, 0, 0), (211, 18, 0, 2, 0, 0, 2), (214, 62, 0, 3, 0, 0, 4)], [], [(16, "java/lang/IllegalArgumentException")], [], [], 2, 12, 0)
def cd_X8_setBar : List (Nat × ARow) := [(0, .aload_n 0, 1, []), (1, .iload_n 1, 2, []), (2, .invokevirtual 131, 5, []), (5, .aload_n 0, 6, []), (6, .getfield 19, 9, []), (9, .getfield 90, 12, []), (12, .iload_n 1, 13, []), (13, .iload_n 2, 14, []), (14, .invokevirtual 218, 17, []), (17, .ifCond .ne 13, 20, [30]), (20, .new 47, 23, []), (23, .dup, 24, []), (24, .ldc 221, 26, []), (26, .invokespecial 51, 29, []), (29, .athrow, 30, []), (30, .aload_n 0, 31, []), (31, .getfield 29, 34, []), (34, .aload_n 0, 35, []), (35, .getfield 19, 38, []), (38, .getfield 90, 41, []), (41, .invokevirtual 211, 44, []), (44, .aload_n 0, 45, []), (45, .getfield 19, 48, []), (48, .iload_n 1, 49, []), (49, .iload_n 2, 50, []), (50, .iload_n 3, 51, []), (51, .invokevirtual 223, 54, []), (54, .pop, 55, []), (55, .aload_n 0, 56, []), (56, .getfield 19, 59, []), (59, .getfield 105, 62, []), (62, .ireturn, 63, [])]
def mi_X8_setBar : MI := (cd_X8_setBar, [(19, 6, 1), (29, 6, 3), (90, 3, 0), (105, 3, 1)], [(131, 118, 0, 2, 1, 6, 6), (211, 18, 0, 2, 0, 0, 2), (218, 64, 0, 3, 0, 0, 4), (223, 28, 0, 4, 0, 0, 3)], [], [(20, "java/lang/IllegalArgumentException")], [], [], 2, 12, 0)
def cd_X8_addWord : List (Nat × ARow) := [(0, .aload_n 0, 1, []), (1, .getfield 10, 4, []), (4, .iconst 2, 5, []), (5, .invokevirtual 227, 8, []), (8, .ifCond .eq 18, 11, [26]), (11, .aload_n 0, 12, []), (12, .getfield 19, 15, []), (15, .getfield 90, 18, []), (18, .getfield 120, 21, []), (21, .bipush 8, 23, []), (23, .if_icmp .lt 13, 26, [36]), (26, .new 58, 29, []), (29, .dup, 30, []), (30, .ldc 230, 32, []), (32, .invokespecial 62, 35, []), (35, .athrow, 36, []), (36, .aload_n 0, 37, []), (37, .getfield 29, 40, []), (40, .aload_n 0, 41, []), (41, .getfield 19, 44, []), (44, .getfield 90, 47, []), (47, .invokevirtual 211, 50, []), (50, .aload_n 0, 51, []), (51, .getfield 19, 54, []), (54, .getfield 90, 57, []), (57, .invokevirtual 232, 60, []), (60, .iconst 0, 61, []), (61, .istore_n 1, 62, []), (62, .iload_n 1, 63, []), (63, .aload_n 0, 64, []), (64, .getfield 10, 67, []), (67, .getfield 235, 70, []), (70, .if_icmp .ge 27, 73, [97]), (73, .aload_n 0, 74, []), (74, .getfield 19, 77, []), (77, .getfield 90, 80, []), (80, .aload_n 0, 81, []), (81, .getfield 10, 84, []), (84, .iload_n 1, 85, []), (85, .invokevirtual 238, 88, []), (88, .invokevirtual 241, 91, []), (91, .iinc 1 1, 94, []), (94, .goto (-32), 97, [62]), (97, .aload_n 0, 98, []), (98, .getfield 19, 101, []), (101, .getfield 90, 104, []), (104, .getfield 120, 107, []), (107, .iconst 1, 108, []), (108, .isub, 109, []), (109, .ireturn, 110, [])]
def mi_X8_addWord : MI := (cd_X8_addWord, [(10, 6, 0), (19, 6, 1), (29, 6, 3), (90, 3, 0), (120, 4, 2), (235, 5, 0)], [(211, 18, 0, 2, 0, 0, 2), (227, 81, 0, 2, 0, 0, 5), (232, 72, 0, 1, 0, 0, 4), (238, 80, 0, 2, 0, 0, 5), (241, 73, 0, 2, 0, 0, 4)], [], [(26, "java/lang/IllegalStateException")], [], [], 1, 6, 0)
def cd_X8_setLine : List (Nat × ARow) := [(0, .aload_n 0, 1, []), (1, .getfield 10, 4, []), (4, .iconst 1, 5, []), (5, .invokevirtual 227, 8, []), (8, .ifCond .ne 13, 11, [21]), (11, .new 58, 14, []), (14, .dup, 15, []), (15, .ldc 244, 17, []), (17, .invokespecial 62, 20, []), (20, .athrow, 21, []), (21, .aload_n 0, 22, []), (22, .getfield 29, 25, []), (25, .aload_n 0, 26, []), (26, .getfield 19, 29, []), (29, .getfield 90, 32, []), (32, .invokevirtual 211, 35, []), (35, .aload_n 0, 36, []), (36, .getfield 19, 39, []), (39, .getfield 90, 42, []), (42, .iconst 0, 43, []), (43, .putfield 123, 46, []), (46, .iconst 0, 47, []), (47, .istore_n 1, 48, []), (48, .iload_n 1, 49, []), (49, .aload_n 0, 50, []), (50, .getfield 10, 53, []), (53, .getfield 235, 56, []), (56, .if_icmp .ge 27, 59, [83]), (59, .aload_n 0, 60, []), (60, .getfield 19, 63, []), (63, .getfield 90, 66, []), (66, .aload_n 0, 67, []), (67, .getfield 10, 70, []), (70, .iload_n 1, 71, []), (71, .invokevirtual 238, 74, []), (74, .invokevirtual 246, 77, []), (77, .iinc 1 1, 80, []), (80, .goto (-32), 83, [48]), (83, .aload_n 0, 84, []), (84, .getfield 19, 87, []), (87, .getfield 90, 90, []), (90, .getfield 123, 93, []), (93, .ireturn, 94, [])]
def mi_X8_setLine : MI := (cd_X8_setLine, [(10, 6, 0), (19, 6, 1), (29, 6, 3), (90, 3, 0), (123, 4, 3), (235, 5, 0)], [(211, 18, 0, 2, 0, 0, 2), (227, 81, 0, 2, 0, 0, 5), (238, 80, 0, 2, 0, 0, 5), (246, 75, 0, 2, 0, 0, 4)], [], [(11, "java/lang/IllegalStateException")], [], [], 1, 6, 0)
def cd_X8_write : List (Nat × ARow) := [(0, .aload_n 0, 1, []), (1, .iload_n 1, 2, []), (2, .invokevirtual 154, 5, []), (5, .aload_n 0, 6, []), (6, .iload_n 2, 7, []), (7, .invokevirtual 177, 10, []), (10, .aload_n 0, 11, []), (11, .getfield 19, 14, []), (14, .iload_n 1, 15, []), (15, .iload_n 2, 16, []), (16, .invokevirtual 249, 19, []), (19, .ifCond .ne 13, 22, [32]), (22, .new 58, 25, []), (25, .dup, 26, []), (26, .ldc 253, 28, []), (28, .invokespecial 62, 31, []), (31, .athrow, 32, []), (32, .aload_n 0, 33, []), (33, .getfield 29, 36, []), (36, .aload_n 0, 37, []), (37, .getfield 19, 40, []), (40, .getfield 90, 43, []), (43, .invokevirtual 211, 46, []), (46, .aload_n 0, 47, []), (47, .getfield 19, 50, []), (50, .iload_n 1, 51, []), (51, .iload_n 2, 52, []), (52, .invokevirtual 255, 55, []), (55, .ireturn, 56, [])]
def mi_X8_write : MI := (cd_X8_write, [(19, 6, 1), (29, 6, 3), (90, 3, 0)], [(154, 119, 0, 2, 1, 6, 6), (177, 120, 0, 2, 1, 6, 6), (211, 18, 0, 2, 0, 0, 2), (249, 42, 0, 3, 0, 0, 3), (255, 45, 0, 3, 0, 0, 3)], [], [(22, "java/lang/IllegalStateException")], [], [], 3, 18, 0)
def cd_X8_erase : List (Nat × ARow) := [(0, .aload_n 0, 1, []), (1, .iload_n 1, 2, []), (2, .invokevirtual 154, 5, []), (5, .aload_n 0, 6, []), (6, .getfield 29, 9, []), (9, .aload_n 0, 10, []), (10, .getfield 19, 13, []), (13, .getfield 90, 16, []), (16, .invokevirtual 211, 19, []), (19, .aload_n 0, 20, []), (20, .getfield 19, 23, []), (23, .iload_n 1, 24, []), (24, .invokevirtual 258, 27, []), (27, .ireturn, 28, [])]
def mi_X8_erase : MI := (cd_X8_erase, [(19, 6, 1), (29, 6, 3), (90, 3, 0)], [(154, 119, 0, 2, 1, 6, 6), (211, 18, 0, 2, 0, 0, 2), (258, 46, 0, 2, 0, 0, 3)], [], [], [], [], 1, 6, 0)
def cd_X8_undo : List (Nat × ARow) := [(0, .aload_n 0, 1, []), (1, .getfield 29, 4, []), (4, .getfield 261, 7, []), (7, .ifCond .ne 14, 10, [21]), (10, .new 58, 13, []), (13, .dup, 14, []), (14, .ldc_w 264, 17, []), (17, .invokespecial 62, 20, []), (20, .athrow, 21, []), (21, .aload_n 0, 22, []), (22, .getfield 19, 25, []), (25, .aload_n 0, 26, []), (26, .getfield 29, 29, []), (29, .invokevirtual 266, 32, []), (32, .invokevirtual 80, 35, []), (35, .aload_n 0, 36, []), (36, .getfield 29, 39, []), (39, .getfield 261, 42, []), (42, .ireturn, 43, [])]
def mi_X8_undo : MI := (cd_X8_undo, [(19, 6, 1), (29, 6, 3), (261, 2, 0)], [(80, 27, 0, 2, 0, 0, 3), (266, 19, 0, 1, 0, 0, 2)], [], [(10, "java/lang/IllegalStateException")], [], [], 1, 6, 0)
def cd_X8_possible : List (Nat × ARow) := [(0, .aload_n 0, 1, []), (1, .getfield 36, 4, []), (4, .aload_n 0, 5, []), (5, .getfield 19, 8, []), (8, .iconst 1, 9, []), (9, .sipush 9999, 12, []), (12, .invokevirtual 197, 15, []), (15, .ireturn, 16, [])]
def mi_X8_possible : MI := (cd_X8_possible, [(19, 6, 1), (36, 6, 4)], [(197, 11, 0, 4, 0, 0, 1)], [], [], [], [], 0, 0, 0)
def cd_X8_fillings : List (Nat × ARow) := [(0, .aload_n 0, 1, []), (1, .getfield 43, 4, []), (4, .aload_n 0, 5, []), (5, .getfield 19, 8, []), (8, .invokevirtual 270, 11, []), (11, .ireturn, 12, [])]
def mi_X8_fillings : MI := (cd_X8_fillings, [(19, 6, 1), (43, 6, 5)], [(270, 5, 0, 2, 0, 0, 0)], [], [], [], [], 0, 0, 0)
def cd_X8_mend : List (Nat × ARow) := [(0, .aload_n 0, 1, []), (1, .getfield 23, 4, []), (4, .aload_n 0, 5, []), (5, .getfield 19, 8, []), (8, .getfield 90, 11, []), (11, .invokevirtual 80, 14, []), (14, .bipush (-9), 16, []), (16, .istore_n 1, 17, []), (17, .aload_n 0, 18, []), (18, .getfield 23, 21, []), (21, .invokestatic 273, 24, []), (24, .istore_n 2, 25, []), (25, .iconst 2, 26, []), (26, .aload_n 0, 27, []), (27, .getfield 23, 30, []), (30, .getfield 90, 33, []), (33, .invokevirtual 93, 36, []), (36, .imul, 37, []), (37, .istore_n 3, 38, []), (38, .iconst 0, 39, []), (39, .istore 4, 41, []), (41, .iload 4, 43, []), (43, .iload_n 3, 44, []), (44, .if_icmp .ge 120, 47, [164]), (47, .iload 4, 49, []), (49, .iconst 2, 50, []), (50, .idiv, 51, []), (51, .istore 5, 53, []), (53, .iload 4, 55, []), (55, .iconst 2, 56, []), (56, .irem, 57, []), (57, .iconst 1, 58, []), (58, .if_icmp .ne 7, 61, [65]), (61, .iconst 1, 62, []), (62, .goto 4, 65, [66]), (65, .iconst 0, 66, []), (66, .istore 6, 68, []), (68, .aload_n 0, 69, []), (69, .getfield 23, 72, []), (72, .getfield 90, 75, []), (75, .iload 5, 77, []), (77, .iload 6, 79, []), (79, .invokevirtual 218, 82, []), (82, .ifCond .eq 76, 85, [158]), (85, .aload_n 0, 86, []), (86, .getfield 23, 89, []), (89, .getfield 90, 92, []), (92, .iload 5, 94, []), (94, .iload 6, 96, []), (96, .invokevirtual 138, 99, []), (99, .istore 7, 101, []), (101, .aload_n 0, 102, []), (102, .getfield 23, 105, []), (105, .iload 5, 107, []), (107, .iload 6, 109, []), (109, .iload 7, 111, []), (111, .ifCond .ne 7, 114, [118]), (114, .iconst 1, 115, []), (115, .goto 4, 118, [119]), (118, .iconst 0, 119, []), (119, .invokevirtual 223, 122, []), (122, .pop, 123, []), (123, .aload_n 0, 124, []), (124, .getfield 23, 127, []), (127, .invokestatic 273, 130, []), (130, .istore 8, 132, []), (132, .aload_n 0, 133, []), (133, .getfield 23, 136, []), (136, .iload 5, 138, []), (138, .iload 6, 140, []), (140, .iload 7, 142, []), (142, .invokevirtual 223, 145, []), (145, .pop, 146, []), (146, .iload 8, 148, []), (148, .iload_n 2, 149, []), (149, .if_icmp .le 9, 152, [158]), (152, .iload 8, 154, []), (154, .istore_n 2, 155, []), (155, .iload 4, 157, []), (157, .istore_n 1, 158, []), (158, .iinc 4 1, 161, []), (161, .goto (-120), 164, [41]), (164, .iload_n 1, 165, []), (165, .ireturn, 166, [])]
def mi_X8_mend : MI := (cd_X8_mend, [(19, 6, 1), (23, 6, 2), (90, 3, 0)], [(80, 27, 0, 2, 0, 0, 3), (93, 57, 0, 1, 0, 0, 4), (138, 65, 0, 3, 0, 0, 4), (218, 64, 0, 3, 0, 0, 4), (223, 28, 0, 4, 0, 0, 3), (273, 47, 1, 1, 0, 0, 0)], [], [], [], [], 0, 0, 0)
def cd_X8_hardest : List (Nat × ARow) := [(0, .bipush (-9), 2, []), (2, .istore_n 1, 3, []), (3, .bipush 9, 5, []), (5, .istore_n 2, 6, []), (6, .iconst 0, 7, []), (7, .istore_n 3, 8, []), (8, .iload_n 3, 9, []), (9, .aload_n 0, 10, []), (10, .getfield 19, 13, []), (13, .getfield 105, 16, []), (16, .if_icmp .ge 41, 19, [57]), (19, .aload_n 0, 20, []), (20, .getfield 19, 23, []), (23, .iload_n 3, 24, []), (24, .invokevirtual 171, 27, []), (27, .ifCond .le 24, 30, [51]), (30, .aload_n 0, 31, []), (31, .getfield 19, 34, []), (34, .iload_n 3, 35, []), (35, .invokevirtual 185, 38, []), (38, .istore 4, 40, []), (40, .iload 4, 42, []), (42, .iload_n 2, 43, []), (43, .if_icmp .ge 8, 46, [51]), (46, .iload 4, 48, []), (48, .istore_n 2, 49, []), (49, .iload_n 3, 50, []), (50, .istore_n 1, 51, []), (51, .iinc 3 1, 54, []), (54, .goto (-46), 57, [8]), (57, .iload_n 1, 58, []), (58, .ireturn, 59, [])]
def mi_X8_hardest : MI := (cd_X8_hardest, [(19, 6, 1), (105, 3, 1)], [(171, 41, 0, 2, 0, 0, 3), (185, 43, 0, 2, 0, 0, 3)], [], [], [], [], 0, 0, 0)
def cd_X8_runScript : List (Nat × ARow) := [(0, .iload_n 1, 1, []), (1, .iconst 1, 2, []), (2, .if_icmp .lt 24, 5, [26]), (5, .iload_n 1, 6, []), (6, .iconst 3, 7, []), (7, .if_icmp .gt 19, 10, [26]), (10, .lload_n 2, 11, []), (11, .lconst 0, 12, []), (12, .lcmp, 13, []), (13, .ifCond .lt 13, 16, [26]), (16, .lload_n 2, 17, []), (17, .iload_n 1, 18, []), (18, .invokestatic 276, 21, []), (21, .lconst 0, 22, []), (22, .lcmp, 23, []), (23, .ifCond .eq 14, 26, [37]), (26, .new 47, 29, []), (29, .dup, 30, []), (30, .ldc_w 280, 33, []), (33, .invokespecial 51, 36, []), (36, .athrow, 37, []), (37, .aload_n 0, 38, []), (38, .getfield 23, 41, []), (41, .aload_n 0, 42, []), (42, .getfield 19, 45, []), (45, .getfield 90, 48, []), (48, .invokevirtual 80, 51, []), (51, .iconst 0, 52, []), (52, .istore 4, 54, []), (54, .iload 4, 56, []), (56, .iload_n 1, 57, []), (57, .if_icmp .ge 45, 60, [102]), (60, .lload_n 2, 61, []), (61, .iload_n 1, 62, []), (62, .iconst 1, 63, []), (63, .isub, 64, []), (64, .iload 4, 66, []), (66, .isub, 67, []), (67, .invokestatic 276, 70, []), (70, .ldc2_w 282, 73, []), (73, .lrem, 74, []), (74, .l2i, 75, []), (75, .istore 5, 77, []), (77, .aload_n 0, 78, []), (78, .getfield 23, 81, []), (81, .aload_n 0, 82, []), (82, .getfield 36, 85, []), (85, .iload 5, 87, []), (87, .invokestatic 284, 90, []), (90, .ifCond .ne 6, 93, [96]), (93, .iload 4, 95, []), (95, .ireturn, 96, []), (96, .iinc 4 1, 99, []), (99, .goto (-45), 102, [54]), (102, .bipush (-9), 104, []), (104, .ireturn, 105, [])]
def mi_X8_runScript : MI := (cd_X8_runScript, [(19, 6, 1), (23, 6, 2), (36, 6, 4), (90, 3, 0)], [(80, 27, 0, 2, 0, 0, 3), (276, 123, 1, 2, 0, 0, 0), (284, 0, 1, 3, 0, 0, 0)], [], [(26, "java/lang/IllegalArgumentException")], [], [(282, 100000)], 1, 6, 0)
def cd_X8_simulate : List (Nat × ARow) := [(0, .iload_n 3, 1, []), (1, .iconst 1, 2, []), (2, .if_icmp .lt 9, 5, [11]), (5, .iload_n 3, 6, []), (6, .bipush 99, 8, []), (8, .if_icmp .le 14, 11, [22]), (11, .new 47, 14, []), (14, .dup, 15, []), (15, .ldc_w 290, 18, []), (18, .invokespecial 51, 21, []), (21, .athrow, 22, []), (22, .aload_n 0, 23, []), (23, .getfield 23, 26, []), (26, .aload_n 0, 27, []), (27, .getfield 19, 30, []), (30, .getfield 90, 33, []), (33, .invokevirtual 80, 36, []), (36, .lload_n 1, 37, []), (37, .lstore 4, 39, []), (39, .iconst 0, 40, []), (40, .istore 6, 42, []), (42, .iload 6, 44, []), (44, .iload_n 3, 45, []), (45, .if_icmp .ge 31, 48, [76]), (48, .lload 4, 50, []), (50, .ldc2_w 292, 53, []), (53, .lmul, 54, []), (54, .ldc2_w 294, 57, []), (57, .ladd, 58, []), (58, .lstore 4, 60, []), (60, .aload_n 0, 61, []), (61, .lload 4, 63, []), (63, .bipush 33, 65, []), (65, .lushr, 66, []), (66, .l2i, 67, []), (67, .invokevirtual 296, 70, []), (70, .iinc 6 1, 73, []), (73, .goto (-31), 76, [42]), (76, .aload_n 0, 77, []), (77, .getfield 36, 80, []), (80, .aload_n 0, 81, []), (81, .getfield 23, 84, []), (84, .iconst 0, 85, []), (85, .bipush 9, 87, []), (87, .invokevirtual 197, 90, []), (90, .istore 6, 92, []), (92, .sipush 1000, 95, []), (95, .aload_n 0, 96, []), (96, .getfield 23, 99, []), (99, .invokestatic 273, 102, []), (102, .imul, 103, []), (103, .bipush 10, 105, []), (105, .aload_n 0, 106, []), (106, .getfield 23, 109, []), (109, .getfield 105, 112, []), (112, .imul, 113, []), (113, .iadd, 114, []), (114, .iload 6, 116, []), (116, .iadd, 117, []), (117, .ireturn, 118, [])]
def mi_X8_simulate : MI := (cd_X8_simulate, [(19, 6, 1), (23, 6, 2), (36, 6, 4), (90, 3, 0), (105, 3, 1)], [(80, 27, 0, 2, 0, 0, 3), (197, 11, 0, 4, 0, 0, 1), (273, 47, 1, 1, 0, 0, 0), (296, 124, 0, 2, 0, 0, 6)], [], [(11, "java/lang/IllegalArgumentException")], [], [(292, 6364136223846793005), (294, 1442695040888963407)], 1, 6, 0)
def cd_X8_save : List (Nat × ARow) := [(0, .iload_n 1, 1, []), (1, .invokestatic 299, 4, []), (4, .aload_n 0, 5, []), (5, .getfield 29, 8, []), (8, .iload_n 1, 9, []), (9, .aload_n 0, 10, []), (10, .getfield 19, 13, []), (13, .getfield 90, 16, []), (16, .invokevirtual 302, 19, []), (19, .aload_n 0, 20, []), (20, .getfield 19, 23, []), (23, .getfield 105, 26, []), (26, .ireturn, 27, [])]
def mi_X8_save : MI := (cd_X8_save, [(19, 6, 1), (29, 6, 3), (90, 3, 0), (105, 3, 1)], [(299, 121, 1, 1, 1, 6, 0), (302, 22, 0, 3, 0, 0, 2)], [], [], [], [], 1, 6, 0)
def cd_X8_restore : List (Nat × ARow) := [(0, .iload_n 1, 1, []), (1, .invokestatic 299, 4, []), (4, .aload_n 0, 5, []), (5, .getfield 29, 8, []), (8, .iload_n 1, 9, []), (9, .invokevirtual 306, 12, []), (12, .ifCond .ne 14, 15, [26]), (15, .new 58, 18, []), (18, .dup, 19, []), (19, .ldc_w 309, 22, []), (22, .invokespecial 62, 25, []), (25, .athrow, 26, []), (26, .aload_n 0, 27, []), (27, .getfield 19, 30, []), (30, .aload_n 0, 31, []), (31, .getfield 29, 34, []), (34, .iload_n 1, 35, []), (35, .invokevirtual 311, 38, []), (38, .invokevirtual 80, 41, []), (41, .aload_n 0, 42, []), (42, .getfield 29, 45, []), (45, .invokevirtual 84, 48, []), (48, .aload_n 0, 49, []), (49, .getfield 19, 52, []), (52, .getfield 105, 55, []), (55, .ireturn, 56, [])]
def mi_X8_restore : MI := (cd_X8_restore, [(19, 6, 1), (29, 6, 3), (105, 3, 1)], [(80, 27, 0, 2, 0, 0, 3), (84, 20, 0, 1, 0, 0, 2), (299, 121, 1, 1, 1, 6, 0), (306, 23, 0, 2, 0, 0, 2), (311, 24, 0, 2, 0, 0, 2)], [], [(15, "java/lang/IllegalStateException")], [], [], 2, 12, 0)
def cd_X8_requireCell : List (Nat × ARow) := [(0, .aload_n 0, 1, []), (1, .getfield 19, 4, []), (4, .getfield 90, 7, []), (7, .iload_n 1, 8, []), (8, .invokevirtual 315, 11, []), (11, .ifCond .ne 14, 14, [25]), (14, .new 318, 17, []), (17, .dup, 18, []), (18, .ldc_w 320, 21, []), (21, .invokespecial 322, 24, []), (24, .athrow, 25, []), (25, .return_, 26, [])]
def mi_X8_requireCell : MI := (cd_X8_requireCell, [(19, 6, 1), (90, 3, 0)], [(315, 58, 0, 2, 0, 0, 4)], [], [(14, "java/lang/IndexOutOfBoundsException")], [], [], 1, 6, 0)
def cd_X8_requireEntry : List (Nat × ARow) := [(0, .aload_n 0, 1, []), (1, .getfield 19, 4, []), (4, .iload_n 1, 5, []), (5, .invokevirtual 323, 8, []), (8, .ifCond .ne 14, 11, [22]), (11, .new 318, 14, []), (14, .dup, 15, []), (15, .ldc_w 326, 18, []), (18, .invokespecial 322, 21, []), (21, .athrow, 22, []), (22, .return_, 23, [])]
def mi_X8_requireEntry : MI := (cd_X8_requireEntry, [(19, 6, 1)], [(323, 31, 0, 2, 0, 0, 3)], [], [(11, "java/lang/IndexOutOfBoundsException")], [], [], 1, 6, 0)
def cd_X8_requireWord : List (Nat × ARow) := [(0, .aload_n 0, 1, []), (1, .getfield 19, 4, []), (4, .getfield 90, 7, []), (7, .iload_n 1, 8, []), (8, .invokevirtual 328, 11, []), (11, .ifCond .ne 14, 14, [25]), (14, .new 318, 17, []), (17, .dup, 18, []), (18, .ldc_w 331, 21, []), (21, .invokespecial 322, 24, []), (24, .athrow, 25, []), (25, .return_, 26, [])]
def mi_X8_requireWord : MI := (cd_X8_requireWord, [(19, 6, 1), (90, 3, 0)], [(328, 69, 0, 2, 0, 0, 4)], [], [(14, "java/lang/IndexOutOfBoundsException")], [], [], 1, 6, 0)
def cd_X8_requireSlot : List (Nat × ARow) := [(0, .iload_n 0, 1, []), (1, .ifCond .lt 8, 4, [9]), (4, .iload_n 0, 5, []), (5, .iconst 2, 6, []), (6, .if_icmp .lt 14, 9, [20]), (9, .new 318, 12, []), (12, .dup, 13, []), (13, .ldc_w 333, 16, []), (16, .invokespecial 322, 19, []), (19, .athrow, 20, []), (20, .return_, 21, [])]
def mi_X8_requireSlot : MI := (cd_X8_requireSlot, [], [], [], [(9, "java/lang/IndexOutOfBoundsException")], [], [], 1, 6, 0)
def cd_X8_isLetter : List (Nat × ARow) := [(0, .iload_n 0, 1, []), (1, .bipush 97, 3, []), (3, .if_icmp .lt 13, 6, [16]), (6, .iload_n 0, 7, []), (7, .bipush 122, 9, []), (9, .if_icmp .gt 7, 12, [16]), (12, .iconst 1, 13, []), (13, .goto 4, 16, [17]), (16, .iconst 0, 17, []), (17, .ireturn, 18, [])]
def mi_X8_isLetter : MI := (cd_X8_isLetter, [], [], [], [], [], [], 0, 0, 1)
def cd_X8_withoutGroups : List (Nat × ARow) := [(0, .lload_n 0, 1, []), (1, .lstore_n 3, 2, []), (2, .iconst 0, 3, []), (3, .istore 5, 5, []), (5, .iload 5, 7, []), (7, .iload_n 2, 8, []), (8, .if_icmp .ge 15, 11, [23]), (11, .lload_n 3, 12, []), (12, .ldc2_w 282, 15, []), (15, .ldiv, 16, []), (16, .lstore_n 3, 17, []), (17, .iinc 5 1, 20, []), (20, .goto (-15), 23, [5]), (23, .lload_n 3, 24, []), (24, .lreturn, 25, [])]
def mi_X8_withoutGroups : MI := (cd_X8_withoutGroups, [], [], [], [], [], [(282, 100000)], 0, 0, 0)
def cd_X8_simulateRound : List (Nat × ARow) := [(0, .aload_n 0, 1, []), (1, .getfield 23, 4, []), (4, .getfield 90, 7, []), (7, .invokevirtual 93, 10, []), (10, .istore_n 2, 11, []), (11, .iload_n 2, 12, []), (12, .iconst 1, 13, []), (13, .if_icmp .ge 4, 16, [17]), (16, .return_, 17, []), (17, .iload_n 1, 18, []), (18, .iconst 2, 19, []), (19, .irem, 20, []), (20, .ifCond .ne 67, 23, [87]), (23, .iload_n 1, 24, []), (24, .iconst 2, 25, []), (25, .idiv, 26, []), (26, .iconst 2, 27, []), (27, .iload_n 2, 28, []), (28, .imul, 29, []), (29, .irem, 30, []), (30, .istore_n 3, 31, []), (31, .iload_n 3, 32, []), (32, .iconst 2, 33, []), (33, .idiv, 34, []), (34, .istore 4, 36, []), (36, .iload_n 3, 37, []), (37, .iconst 2, 38, []), (38, .irem, 39, []), (39, .iconst 1, 40, []), (40, .if_icmp .ne 7, 43, [47]), (43, .iconst 1, 44, []), (44, .goto 4, 47, [48]), (47, .iconst 0, 48, []), (48, .istore 5, 50, []), (50, .aload_n 0, 51, []), (51, .getfield 23, 54, []), (54, .iload 4, 56, []), (56, .iload 5, 58, []), (58, .aload_n 0, 59, []), (59, .getfield 23, 62, []), (62, .getfield 90, 65, []), (65, .iload 4, 67, []), (67, .iload 5, 69, []), (69, .invokevirtual 138, 72, []), (72, .ifCond .ne 7, 75, [79]), (75, .iconst 1, 76, []), (76, .goto 4, 79, [80]), (79, .iconst 0, 80, []), (80, .invokevirtual 223, 83, []), (83, .pop, 84, []), (84, .goto 28, 87, [112]), (87, .aload_n 0, 88, []), (88, .getfield 23, 91, []), (91, .getfield 90, 94, []), (94, .iload_n 1, 95, []), (95, .iconst 2, 96, []), (96, .idiv, 97, []), (97, .iload_n 2, 98, []), (98, .irem, 99, []), (99, .bipush 97, 101, []), (101, .iload_n 1, 102, []), (102, .sipush 128, 105, []), (105, .idiv, 106, []), (106, .iconst 3, 107, []), (107, .irem, 108, []), (108, .iadd, 109, []), (109, .invokevirtual 214, 112, []), (112, .return_, 113, [])]
def mi_X8_simulateRound : MI := (cd_X8_simulateRound, [(23, 6, 2), (90, 3, 0)], [(93, 57, 0, 1, 0, 0, 4), (138, 65, 0, 3, 0, 0, 4), (214, 62, 0, 3, 0, 0, 4), (223, 28, 0, 4, 0, 0, 3)], [], [], [], [], 0, 0, 0)
def cd_X9_init : List (Nat × ARow) := [(0, .aload_n 0, 1, []), (1, .invokespecial 1, 4, []), (4, .aload_n 0, 5, []), (5, .sipush 150, 8, []), (8, .newarray .int, 10, []), (10, .putfield 7, 13, []), (13, .aload_n 0, 14, []), (14, .sipush 174, 17, []), (17, .newarray .int, 19, []), (19, .putfield 13, 22, []), (22, .aload_n 0, 23, []), (23, .sipush 174, 26, []), (26, .newarray .int, 28, []), (28, .putfield 16, 31, []), (31, .aload_n 0, 32, []), (32, .sipush 174, 35, []), (35, .newarray .int, 37, []), (37, .putfield 19, 40, []), (40, .aload_n 0, 41, []), (41, .sipush 2436, 44, []), (44, .newarray .int, 46, []), (46, .putfield 22, 49, []), (49, .aload_n 0, 50, []), (50, .sipush 348, 53, []), (53, .newarray .int, 55, []), (55, .putfield 25, 58, []), (58, .aload_n 0, 59, []), (59, .iconst 2, 60, []), (60, .newarray .int, 62, []), (62, .putfield 28, 65, []), (65, .aload_n 0, 66, []), (66, .bipush 36, 68, []), (68, .newarray .int, 70, []), (70, .putfield 31, 73, []), (73, .aload_n 0, 74, []), (74, .bipush 36, 76, []), (76, .newarray .int, 78, []), (78, .putfield 34, 81, []), (81, .aload_n 0, 82, []), (82, .bipush 36, 84, []), (84, .newarray .int, 86, []), (86, .putfield 37, 89, []), (89, .aload_n 0, 90, []), (90, .bipush 36, 92, []), (92, .newarray .int, 94, []), (94, .putfield 40, 97, []), (97, .aload_n 0, 98, []), (98, .bipush 36, 100, []), (100, .newarray .int, 102, []), (102, .putfield 43, 105, []), (105, .aload_n 0, 106, []), (106, .bipush 36, 108, []), (108, .newarray .int, 110, []), (110, .putfield 46, 113, []), (113, .aload_n 0, 114, []), (114, .bipush 36, 116, []), (116, .newarray .int, 118, []), (118, .putfield 49, 121, []), (121, .aload_n 0, 122, []), (122, .bipush 9, 124, []), (124, .newarray .int, 126, []), (126, .putfield 52, 129, []), (129, .aload_n 0, 130, []), (130, .bipush 6, 132, []), (132, .newarray .int, 134, []), (134, .putfield 55, 137, []), (137, .aload_n 0, 138, []), (138, .getfield 13, 141, []), (141, .iconst 0, 142, []), (142, .iconst 3, 143, []), (143, .iastore, 144, []), (144, .aload_n 0, 145, []), (145, .getfield 13, 148, []), (148, .iconst 1, 149, []), (149, .iconst 3, 150, []), (150, .iastore, 151, []), (151, .aload_n 0, 152, []), (152, .invokevirtual 58, 155, []), (155, .return_, 156, [])]
def mi_X9_init : MI := (cd_X9_init, [(7, 7, 1), (13, 7, 3), (16, 7, 4), (19, 7, 5), (22, 7, 6), (25, 7, 8), (28, 7, 9), (31, 7, 11), (34, 7, 12), (37, 7, 13), (40, 7, 14), (43, 7, 15), (46, 7, 16), (49, 7, 17), (52, 7, 18), (55, 7, 19)], [(1, 0, 5, 1, 0, 0, 0), (58, 143, 0, 1, 0, 0, 7)], [], [], [], [], 16, 3725, 0)
def cd_X9_thrown : List (Nat × ARow) := [(0, .aload_n 0, 1, []), (1, .getfield 61, 4, []), (4, .ireturn, 5, [])]
def mi_X9_thrown : MI := (cd_X9_thrown, [(61, 7, 0)], [], [], [], [], [], 0, 0, 0)
def cd_X9_move : List (Nat × ARow) := [(0, .iconst 0, 1, []), (1, .istore 4, 3, []), (3, .iload 4, 5, []), (5, .sipush 174, 8, []), (8, .if_icmp .ge 21, 11, [29]), (11, .aload_n 2, 12, []), (12, .iload_n 3, 13, []), (13, .iload 4, 15, []), (15, .iadd, 16, []), (16, .aload_n 0, 17, []), (17, .iload_n 1, 18, []), (18, .iload 4, 20, []), (20, .iadd, 21, []), (21, .iaload, 22, []), (22, .iastore, 23, []), (23, .iinc 4 1, 26, []), (26, .goto (-23), 29, [3]), (29, .return_, 30, [])]
def mi_X9_move : MI := (cd_X9_move, [], [], [], [], [], [], 0, 0, 0)
def cd_X9_append : List (Nat × ARow) := [(0, .aload_n 0, 1, []), (1, .iload_n 1, 2, []), (2, .ifCond .lt 10, 5, [12]), (5, .iload_n 1, 6, []), (6, .sipush 255, 9, []), (9, .if_icmp .le 7, 12, [16]), (12, .iconst 1, 13, []), (13, .goto 18, 16, [31]), (16, .aload_n 0, 17, []), (17, .getfield 65, 20, []), (20, .sipush 150, 23, []), (23, .if_icmp .ne 7, 26, [30]), (26, .iconst 2, 27, []), (27, .goto 4, 30, [31]), (30, .iconst 0, 31, []), (31, .putfield 61, 34, []), (34, .aload_n 0, 35, []), (35, .getfield 61, 38, []), (38, .ifCond .le 5, 41, [43]), (41, .iconst 0, 42, []), (42, .ireturn, 43, []), (43, .aload_n 0, 44, []), (44, .getfield 7, 47, []), (47, .aload_n 0, 48, []), (48, .getfield 65, 51, []), (51, .iload_n 1, 52, []), (52, .iastore, 53, []), (53, .aload_n 0, 54, []), (54, .dup, 55, []), (55, .getfield 65, 58, []), (58, .iconst 1, 59, []), (59, .iadd, 60, []), (60, .putfield 65, 63, []), (63, .aload_n 0, 64, []), (64, .getfield 65, 67, []), (67, .ireturn, 68, [])]
def mi_X9_append : MI := (cd_X9_append, [(7, 7, 1), (61, 7, 0), (65, 7, 2)], [], [], [], [], [], 0, 0, 0)
def cd_X9_clearText : List (Nat × ARow) := [(0, .aload_n 0, 1, []), (1, .iconst 0, 2, []), (2, .putfield 61, 5, []), (5, .aload_n 0, 6, []), (6, .getfield 65, 9, []), (9, .istore_n 1, 10, []), (10, .aload_n 0, 11, []), (11, .iconst 0, 12, []), (12, .putfield 65, 15, []), (15, .iload_n 1, 16, []), (16, .ireturn, 17, [])]
def mi_X9_clearText : MI := (cd_X9_clearText, [(61, 7, 0), (65, 7, 2)], [], [], [], [], [], 0, 0, 0)
def cd_X9_character : List (Nat × ARow) := [(0, .iload_n 1, 1, []), (1, .aload_n 0, 2, []), (2, .getfield 65, 5, []), (5, .if_icmp .ge 12, 8, [17]), (8, .aload_n 0, 9, []), (9, .getfield 7, 12, []), (12, .iload_n 1, 13, []), (13, .iaload, 14, []), (14, .goto 4, 17, [18]), (17, .iconst (-1), 18, []), (18, .ireturn, 19, [])]
def mi_X9_character : MI := (cd_X9_character, [(7, 7, 1), (65, 7, 2)], [], [], [], [], [], 0, 0, 0)
def cd_X9_isLetter : List (Nat × ARow) := [(0, .iload_n 0, 1, []), (1, .bipush 97, 3, []), (3, .if_icmp .lt 13, 6, [16]), (6, .iload_n 0, 7, []), (7, .bipush 122, 9, []), (9, .if_icmp .gt 7, 12, [16]), (12, .iconst 1, 13, []), (13, .goto 4, 16, [17]), (16, .iconst 0, 17, []), (17, .ireturn, 18, [])]
def mi_X9_isLetter : MI := (cd_X9_isLetter, [], [], [], [], [], [], 0, 0, 1)
def cd_X9_isSide : List (Nat × ARow) := [(0, .iload_n 0, 1, []), (1, .bipush 50, 3, []), (3, .if_icmp .lt 13, 6, [16]), (6, .iload_n 0, 7, []), (7, .bipush 54, 9, []), (9, .if_icmp .gt 7, 12, [16]), (12, .iconst 1, 13, []), (13, .goto 4, 16, [17]), (16, .iconst 0, 17, []), (17, .ireturn, 18, [])]
def mi_X9_isSide : MI := (cd_X9_isSide, [], [], [], [], [], [], 0, 0, 1)
def cd_X9_readText : List (Nat × ARow) := [(0, .iconst 0, 1, []), (1, .istore_n 1, 2, []), (2, .iload_n 1, 3, []), (3, .sipush 174, 6, []), (6, .if_icmp .ge 16, 9, [22]), (9, .aload_n 0, 10, []), (10, .getfield 16, 13, []), (13, .iload_n 1, 14, []), (14, .iconst 0, 15, []), (15, .iastore, 16, []), (16, .iinc 1 1, 19, []), (19, .goto (-17), 22, [2]), (22, .aload_n 0, 23, []), (23, .iconst 0, 24, []), (24, .invokevirtual 68, 27, []), (27, .bipush 71, 29, []), (29, .if_icmp .eq 5, 32, [34]), (32, .iconst 0, 33, []), (33, .ireturn, 34, []), (34, .aload_n 0, 35, []), (35, .iconst 1, 36, []), (36, .invokevirtual 68, 39, []), (39, .invokestatic 72, 42, []), (42, .ifCond .ne 5, 45, [47]), (45, .iconst 1, 46, []), (46, .ireturn, 47, []), (47, .aload_n 0, 48, []), (48, .iconst 2, 49, []), (49, .invokevirtual 68, 52, []), (52, .invokestatic 72, 55, []), (55, .ifCond .ne 5, 58, [60]), (58, .iconst 2, 59, []), (59, .ireturn, 60, []), (60, .aload_n 0, 61, []), (61, .getfield 16, 64, []), (64, .iconst 0, 65, []), (65, .aload_n 0, 66, []), (66, .iconst 1, 67, []), (67, .invokevirtual 68, 70, []), (70, .bipush 48, 72, []), (72, .isub, 73, []), (73, .iastore, 74, []), (74, .aload_n 0, 75, []), (75, .getfield 16, 78, []), (78, .iconst 1, 79, []), (79, .aload_n 0, 80, []), (80, .iconst 2, 81, []), (81, .invokevirtual 68, 84, []), (84, .bipush 48, 86, []), (86, .isub, 87, []), (87, .iastore, 88, []), (88, .iconst 3, 89, []), (89, .istore_n 1, 90, []), (90, .iconst 0, 91, []), (91, .istore_n 2, 92, []), (92, .iload_n 2, 93, []), (93, .aload_n 0, 94, []), (94, .getfield 16, 97, []), (97, .iconst 0, 98, []), (98, .iaload, 99, []), (99, .aload_n 0, 100, []), (100, .getfield 16, 103, []), (103, .iconst 1, 104, []), (104, .iaload, 105, []), (105, .imul, 106, []), (106, .if_icmp .ge 146, 109, [252]), (109, .aload_n 0, 110, []), (110, .iload_n 1, 111, []), (111, .invokevirtual 68, 114, []), (114, .invokestatic 76, 117, []), (117, .ifCond .ne 15, 120, [132]), (120, .aload_n 0, 121, []), (121, .iload_n 1, 122, []), (122, .invokevirtual 68, 125, []), (125, .bipush 46, 127, []), (127, .if_icmp .eq 5, 130, [132]), (130, .iload_n 1, 131, []), (131, .ireturn, 132, []), (132, .aload_n 0, 133, []), (133, .getfield 16, 136, []), (136, .iconst 2, 137, []), (137, .iload_n 2, 138, []), (138, .iadd, 139, []), (139, .aload_n 0, 140, []), (140, .iload_n 1, 141, []), (141, .invokevirtual 68, 144, []), (144, .bipush 46, 146, []), (146, .if_icmp .ne 7, 149, [153]), (149, .iconst 0, 150, []), (150, .goto 8, 153, [158]), (153, .aload_n 0, 154, []), (154, .iload_n 1, 155, []), (155, .invokevirtual 68, 158, []), (158, .iastore, 159, []), (159, .iinc 1 1, 162, []), (162, .aload_n 0, 163, []), (163, .iload_n 1, 164, []), (164, .invokevirtual 68, 167, []), (167, .bipush 124, 169, []), (169, .if_icmp .ne 35, 172, [204]), (172, .iload_n 2, 173, []), (173, .aload_n 0, 174, []), (174, .getfield 16, 177, []), (177, .iconst 1, 178, []), (178, .iaload, 179, []), (179, .irem, 180, []), (180, .aload_n 0, 181, []), (181, .getfield 16, 184, []), (184, .iconst 1, 185, []), (185, .iaload, 186, []), (186, .iconst 1, 187, []), (187, .isub, 188, []), (188, .if_icmp .ge 16, 191, [204]), (191, .aload_n 0, 192, []), (192, .getfield 16, 195, []), (195, .bipush 38, 197, []), (197, .iload_n 2, 198, []), (198, .iadd, 199, []), (199, .iconst 1, 200, []), (200, .iastore, 201, []), (201, .iinc 1 1, 204, []), (204, .aload_n 0, 205, []), (205, .iload_n 1, 206, []), (206, .invokevirtual 68, 209, []), (209, .bipush 95, 211, []), (211, .if_icmp .ne 35, 214, [246]), (214, .iload_n 2, 215, []), (215, .aload_n 0, 216, []), (216, .getfield 16, 219, []), (219, .iconst 1, 220, []), (220, .iaload, 221, []), (221, .idiv, 222, []), (222, .aload_n 0, 223, []), (223, .getfield 16, 226, []), (226, .iconst 0, 227, []), (227, .iaload, 228, []), (228, .iconst 1, 229, []), (229, .isub, 230, []), (230, .if_icmp .ge 16, 233, [246]), (233, .aload_n 0, 234, []), (234, .getfield 16, 237, []), (237, .bipush 74, 239, []), (239, .iload_n 2, 240, []), (240, .iadd, 241, []), (241, .iconst 1, 242, []), (242, .iastore, 243, []), (243, .iinc 1 1, 246, []), (246, .iinc 2 1, 249, []), (249, .goto (-157), 252, [92]), (252, .aload_n 0, 253, []), (253, .iload_n 1, 254, []), (254, .invokevirtual 79, 257, []), (257, .ireturn, 258, [])]
def mi_X9_readText : MI := (cd_X9_readText, [(16, 7, 4)], [(68, 130, 0, 2, 0, 0, 7), (72, 132, 1, 1, 0, 0, 0), (76, 131, 1, 1, 0, 0, 0), (79, 134, 0, 2, 0, 0, 7)], [], [], [], [], 0, 0, 0)
def cd_X9_readParts : List (Nat × ARow) := [(0, .iload_n 1, 1, []), (1, .istore_n 2, 2, []), (2, .iconst 0, 3, []), (3, .istore_n 3, 4, []), (4, .iload_n 3, 5, []), (5, .sipush 150, 8, []), (8, .if_icmp .ge 221, 11, [229]), (11, .iload_n 2, 12, []), (12, .aload_n 0, 13, []), (13, .getfield 65, 16, []), (16, .if_icmp .ge 213, 19, [229]), (19, .aload_n 0, 20, []), (20, .iload_n 2, 21, []), (21, .invokevirtual 68, 24, []), (24, .bipush 47, 26, []), (26, .if_icmp .ne 19, 29, [45]), (29, .aload_n 0, 30, []), (30, .getfield 16, 33, []), (33, .bipush 110, 35, []), (35, .iaload, 36, []), (36, .bipush 8, 38, []), (38, .if_icmp .ge 7, 41, [45]), (41, .iconst 1, 42, []), (42, .goto 4, 45, [46]), (45, .iconst 0, 46, []), (46, .istore 4, 48, []), (48, .aload_n 0, 49, []), (49, .iload_n 2, 50, []), (50, .invokevirtual 68, 53, []), (53, .bipush 61, 55, []), (55, .if_icmp .ne 18, 58, [73]), (58, .aload_n 0, 59, []), (59, .getfield 16, 62, []), (62, .sipush 167, 65, []), (65, .iaload, 66, []), (66, .ifCond .ne 7, 69, [73]), (69, .iconst 1, 70, []), (70, .goto 4, 73, [74]), (73, .iconst 0, 74, []), (74, .istore 5, 76, []), (76, .iload 4, 78, []), (78, .ifCond .ne 10, 81, [88]), (81, .iload 5, 83, []), (83, .ifCond .ne 5, 86, [88]), (86, .iload_n 2, 87, []), (87, .ireturn, 88, []), (88, .iinc 2 1, 91, []), (91, .aload_n 0, 92, []), (92, .getfield 16, 95, []), (95, .bipush 110, 97, []), (97, .iaload, 98, []), (98, .istore 6, 100, []), (100, .iconst 0, 101, []), (101, .istore 7, 103, []), (103, .iload 7, 105, []), (105, .bipush 6, 107, []), (107, .if_icmp .ge 58, 110, [165]), (110, .aload_n 0, 111, []), (111, .iload_n 2, 112, []), (112, .invokevirtual 68, 115, []), (115, .invokestatic 76, 118, []), (118, .ifCond .eq 47, 121, [165]), (121, .aload_n 0, 122, []), (122, .getfield 16, 125, []), (125, .iload 4, 127, []), (127, .ifCond .eq 17, 130, [144]), (130, .bipush 119, 132, []), (132, .bipush 6, 134, []), (134, .iload 6, 136, []), (136, .imul, 137, []), (137, .iadd, 138, []), (138, .iload 7, 140, []), (140, .iadd, 141, []), (141, .goto 9, 144, [150]), (144, .sipush 168, 147, []), (147, .iload 7, 149, []), (149, .iadd, 150, []), (150, .aload_n 0, 151, []), (151, .iload_n 2, 152, []), (152, .invokevirtual 68, 155, []), (155, .iastore, 156, []), (156, .iinc 7 1, 159, []), (159, .iinc 2 1, 162, []), (162, .goto (-59), 165, [103]), (165, .iload 7, 167, []), (167, .iload 4, 169, []), (169, .ifCond .eq 7, 172, [176]), (172, .iconst 2, 173, []), (173, .goto 4, 176, [177]), (176, .iconst 1, 177, []), (177, .if_icmp .ge 5, 180, [182]), (180, .iload_n 2, 181, []), (181, .ireturn, 182, []), (182, .iload 4, 184, []), (184, .ifCond .eq 29, 187, [213]), (187, .aload_n 0, 188, []), (188, .getfield 16, 191, []), (191, .bipush 111, 193, []), (193, .iload 6, 195, []), (195, .iadd, 196, []), (196, .iload 7, 198, []), (198, .iastore, 199, []), (199, .aload_n 0, 200, []), (200, .getfield 16, 203, []), (203, .bipush 110, 205, []), (205, .dup2, 206, []), (206, .iaload, 207, []), (207, .iconst 1, 208, []), (208, .iadd, 209, []), (209, .iastore, 210, []), (210, .goto 13, 213, [223]), (213, .aload_n 0, 214, []), (214, .getfield 16, 217, []), (217, .sipush 167, 220, []), (220, .iload 7, 222, []), (222, .iastore, 223, []), (223, .iinc 3 1, 226, []), (226, .goto (-222), 229, [4]), (229, .bipush (-9), 231, []), (231, .ireturn, 232, [])]
def mi_X9_readParts : MI := (cd_X9_readParts, [(16, 7, 4), (65, 7, 2)], [(68, 130, 0, 2, 0, 0, 7), (76, 131, 1, 1, 0, 0, 0)], [], [], [], [], 0, 0, 0)
def cd_X9_errorPosition : List (Nat × ARow) := [(0, .aload_n 0, 1, []), (1, .iconst 0, 2, []), (2, .putfield 61, 5, []), (5, .aload_n 0, 6, []), (6, .invokevirtual 82, 9, []), (9, .ireturn, 10, [])]
def mi_X9_errorPosition : MI := (cd_X9_errorPosition, [(61, 7, 0)], [(82, 133, 0, 1, 0, 0, 7)], [], [], [], [], 0, 0, 0)
def cd_X9_load : List (Nat × ARow) := [(0, .aload_n 0, 1, []), (1, .aload_n 0, 2, []), (2, .invokevirtual 82, 5, []), (5, .bipush (-9), 7, []), (7, .if_icmp .ne 7, 10, [14]), (10, .iconst 0, 11, []), (11, .goto 4, 14, [15]), (14, .iconst 1, 15, []), (15, .putfield 61, 18, []), (18, .aload_n 0, 19, []), (19, .getfield 61, 22, []), (22, .ifCond .le 5, 25, [27]), (25, .iconst 0, 26, []), (26, .ireturn, 27, []), (27, .aload_n 0, 28, []), (28, .getfield 16, 31, []), (31, .iconst 0, 32, []), (32, .aload_n 0, 33, []), (33, .getfield 13, 36, []), (36, .iconst 0, 37, []), (37, .invokestatic 86, 40, []), (40, .aload_n 0, 41, []), (41, .iconst 0, 42, []), (42, .putfield 90, 45, []), (45, .aload_n 0, 46, []), (46, .getfield 28, 49, []), (49, .iconst 0, 50, []), (50, .iconst 0, 51, []), (51, .iastore, 52, []), (52, .aload_n 0, 53, []), (53, .getfield 28, 56, []), (56, .iconst 1, 57, []), (57, .iconst 0, 58, []), (58, .iastore, 59, []), (59, .aload_n 0, 60, []), (60, .invokevirtual 58, 63, []), (63, .aload_n 0, 64, []), (64, .invokevirtual 93, 67, []), (67, .ireturn, 68, [])]
def mi_X9_load : MI := (cd_X9_load, [(13, 7, 3), (16, 7, 4), (28, 7, 9), (61, 7, 0), (90, 7, 7)], [(58, 143, 0, 1, 0, 0, 7), (82, 133, 0, 1, 0, 0, 7), (86, 127, 1, 4, 0, 0, 0), (93, 137, 0, 1, 0, 0, 7)], [], [], [], [], 0, 0, 0)
def cd_X9_size : List (Nat × ARow) := [(0, .aload_n 0, 1, []), (1, .getfield 13, 4, []), (4, .iconst 0, 5, []), (5, .iaload, 6, []), (6, .aload_n 0, 7, []), (7, .getfield 13, 10, []), (10, .iconst 1, 11, []), (11, .iaload, 12, []), (12, .imul, 13, []), (13, .ireturn, 14, [])]
def mi_X9_size : MI := (cd_X9_size, [(13, 7, 3)], [], [], [], [], [], 0, 0, 0)
def cd_X9_isCell : List (Nat × ARow) := [(0, .iload_n 1, 1, []), (1, .ifCond .lt 15, 4, [16]), (4, .iload_n 1, 5, []), (5, .aload_n 0, 6, []), (6, .invokevirtual 93, 9, []), (9, .if_icmp .ge 7, 12, [16]), (12, .iconst 1, 13, []), (13, .goto 4, 16, [17]), (16, .iconst 0, 17, []), (17, .ireturn, 18, [])]
def mi_X9_isCell : MI := (cd_X9_isCell, [], [(93, 137, 0, 1, 0, 0, 7)], [], [], [], [], 0, 0, 1)
def cd_X9_isLastColumn : List (Nat × ARow) := [(0, .iload_n 1, 1, []), (1, .aload_n 0, 2, []), (2, .getfield 13, 5, []), (5, .iconst 1, 6, []), (6, .iaload, 7, []), (7, .irem, 8, []), (8, .aload_n 0, 9, []), (9, .getfield 13, 12, []), (12, .iconst 1, 13, []), (13, .iaload, 14, []), (14, .iconst 1, 15, []), (15, .isub, 16, []), (16, .if_icmp .ne 7, 19, [23]), (19, .iconst 1, 20, []), (20, .goto 4, 23, [24]), (23, .iconst 0, 24, []), (24, .ireturn, 25, [])]
def mi_X9_isLastColumn : MI := (cd_X9_isLastColumn, [(13, 7, 3)], [], [], [], [], [], 0, 0, 1)
def cd_X9_isLastRow : List (Nat × ARow) := [(0, .iload_n 1, 1, []), (1, .aload_n 0, 2, []), (2, .getfield 13, 5, []), (5, .iconst 1, 6, []), (6, .iaload, 7, []), (7, .idiv, 8, []), (8, .aload_n 0, 9, []), (9, .getfield 13, 12, []), (12, .iconst 0, 13, []), (13, .iaload, 14, []), (14, .iconst 1, 15, []), (15, .isub, 16, []), (16, .if_icmp .ne 7, 19, [23]), (19, .iconst 1, 20, []), (20, .goto 4, 23, [24]), (23, .iconst 0, 24, []), (24, .ireturn, 25, [])]
def mi_X9_isLastRow : MI := (cd_X9_isLastRow, [(13, 7, 3)], [], [], [], [], [], 0, 0, 1)
def cd_X9_endsRight : List (Nat × ARow) := [(0, .aload_n 0, 1, []), (1, .iload_n 1, 2, []), (2, .invokevirtual 96, 5, []), (5, .ifCond .ne 16, 8, [21]), (8, .aload_n 0, 9, []), (9, .getfield 13, 12, []), (12, .bipush 38, 14, []), (14, .iload_n 1, 15, []), (15, .iadd, 16, []), (16, .iaload, 17, []), (17, .iconst 1, 18, []), (18, .if_icmp .ne 7, 21, [25]), (21, .iconst 1, 22, []), (22, .goto 4, 25, [26]), (25, .iconst 0, 26, []), (26, .ireturn, 27, [])]
def mi_X9_endsRight : MI := (cd_X9_endsRight, [(13, 7, 3)], [(96, 139, 0, 2, 0, 0, 7)], [], [], [], [], 0, 0, 1)
def cd_X9_endsBelow : List (Nat × ARow) := [(0, .aload_n 0, 1, []), (1, .iload_n 1, 2, []), (2, .invokevirtual 99, 5, []), (5, .ifCond .ne 16, 8, [21]), (8, .aload_n 0, 9, []), (9, .getfield 13, 12, []), (12, .bipush 74, 14, []), (14, .iload_n 1, 15, []), (15, .iadd, 16, []), (16, .iaload, 17, []), (17, .iconst 1, 18, []), (18, .if_icmp .ne 7, 21, [25]), (21, .iconst 1, 22, []), (22, .goto 4, 25, [26]), (25, .iconst 0, 26, []), (26, .ireturn, 27, [])]
def mi_X9_endsBelow : MI := (cd_X9_endsBelow, [(13, 7, 3)], [(99, 140, 0, 2, 0, 0, 7)], [], [], [], [], 0, 0, 1)
def cd_X9_findEntries : List (Nat × ARow) := [(0, .aload_n 0, 1, []), (1, .getfield 13, 4, []), (4, .iconst 1, 5, []), (5, .iaload, 6, []), (6, .istore_n 1, 7, []), (7, .iconst 0, 8, []), (8, .istore_n 2, 9, []), (9, .aload_n 0, 10, []), (10, .iconst 0, 11, []), (11, .putfield 102, 14, []), (14, .iconst 0, 15, []), (15, .istore_n 3, 16, []), (16, .iload_n 3, 17, []), (17, .aload_n 0, 18, []), (18, .invokevirtual 93, 21, []), (21, .if_icmp .ge 33, 24, [54]), (24, .aload_n 0, 25, []), (25, .getfield 40, 28, []), (28, .iload_n 3, 29, []), (29, .bipush (-9), 31, []), (31, .iastore, 32, []), (32, .aload_n 0, 33, []), (33, .getfield 43, 36, []), (36, .iload_n 3, 37, []), (37, .bipush (-9), 39, []), (39, .iastore, 40, []), (40, .aload_n 0, 41, []), (41, .getfield 46, 44, []), (44, .iload_n 3, 45, []), (45, .bipush (-9), 47, []), (47, .iastore, 48, []), (48, .iinc 3 1, 51, []), (51, .goto (-35), 54, [16]), (54, .iconst 0, 55, []), (55, .istore_n 3, 56, []), (56, .iload_n 3, 57, []), (57, .aload_n 0, 58, []), (58, .invokevirtual 93, 61, []), (61, .if_icmp .ge 175, 64, [236]), (64, .iload_n 3, 65, []), (65, .iload_n 1, 66, []), (66, .irem, 67, []), (67, .ifCond .eq 18, 70, [85]), (70, .aload_n 0, 71, []), (71, .getfield 13, 74, []), (74, .bipush 38, 76, []), (76, .iload_n 3, 77, []), (77, .iadd, 78, []), (78, .iconst 1, 79, []), (79, .isub, 80, []), (80, .iaload, 81, []), (81, .iconst 1, 82, []), (82, .if_icmp .ne 15, 85, [97]), (85, .aload_n 0, 86, []), (86, .iload_n 3, 87, []), (87, .invokevirtual 105, 90, []), (90, .ifCond .ne 7, 93, [97]), (93, .iconst 1, 94, []), (94, .goto 4, 97, [98]), (97, .iconst 0, 98, []), (98, .istore 4, 100, []), (100, .iload_n 3, 101, []), (101, .iload_n 1, 102, []), (102, .if_icmp .lt 18, 105, [120]), (105, .aload_n 0, 106, []), (106, .getfield 13, 109, []), (109, .bipush 74, 111, []), (111, .iload_n 3, 112, []), (112, .iadd, 113, []), (113, .iload_n 1, 114, []), (114, .isub, 115, []), (115, .iaload, 116, []), (116, .iconst 1, 117, []), (117, .if_icmp .ne 15, 120, [132]), (120, .aload_n 0, 121, []), (121, .iload_n 3, 122, []), (122, .invokevirtual 108, 125, []), (125, .ifCond .ne 7, 128, [132]), (128, .iconst 1, 129, []), (129, .goto 4, 132, [133]), (132, .iconst 0, 133, []), (133, .istore 5, 135, []), (135, .iload 4, 137, []), (137, .ifCond .eq 33, 140, [170]), (140, .iload_n 3, 141, []), (141, .istore 6, 143, []), (143, .aload_n 0, 144, []), (144, .iload 6, 146, []), (146, .invokevirtual 105, 149, []), (149, .ifCond .ne 9, 152, [158]), (152, .iinc 6 1, 155, []), (155, .goto (-12), 158, [143]), (158, .aload_n 0, 159, []), (159, .iload_n 3, 160, []), (160, .iconst 0, 161, []), (161, .iload 6, 163, []), (163, .iload_n 3, 164, []), (164, .isub, 165, []), (165, .iconst 1, 166, []), (166, .iadd, 167, []), (167, .invokevirtual 111, 170, []), (170, .iload 5, 172, []), (172, .ifCond .eq 38, 175, [210]), (175, .iload_n 3, 176, []), (176, .istore 6, 178, []), (178, .aload_n 0, 179, []), (179, .iload 6, 181, []), (181, .invokevirtual 108, 184, []), (184, .ifCond .ne 12, 187, [196]), (187, .iload 6, 189, []), (189, .iload_n 1, 190, []), (190, .iadd, 191, []), (191, .istore 6, 193, []), (193, .goto (-15), 196, [178]), (196, .aload_n 0, 197, []), (197, .iload_n 3, 198, []), (198, .iconst 1, 199, []), (199, .iload 6, 201, []), (201, .iload_n 3, 202, []), (202, .isub, 203, []), (203, .iload_n 1, 204, []), (204, .idiv, 205, []), (205, .iconst 1, 206, []), (206, .iadd, 207, []), (207, .invokevirtual 111, 210, []), (210, .iload 4, 212, []), (212, .ifCond .ne 8, 215, [220]), (215, .iload 5, 217, []), (217, .ifCond .eq 13, 220, [230]), (220, .iinc 2 1, 223, []), (223, .aload_n 0, 224, []), (224, .getfield 46, 227, []), (227, .iload_n 3, 228, []), (228, .iload_n 2, 229, []), (229, .iastore, 230, []), (230, .iinc 3 1, 233, []), (233, .goto (-177), 236, [56]), (236, .return_, 237, [])]
def mi_X9_findEntries : MI := (cd_X9_findEntries, [(13, 7, 3), (40, 7, 14), (43, 7, 15), (46, 7, 16), (102, 7, 10)], [(93, 137, 0, 1, 0, 0, 7), (105, 141, 0, 2, 0, 0, 7), (108, 142, 0, 2, 0, 0, 7), (111, 144, 0, 4, 0, 0, 7)], [], [], [], [], 0, 0, 0)
def cd_X9_addEntry : List (Nat × ARow) := [(0, .aload_n 0, 1, []), (1, .getfield 31, 4, []), (4, .aload_n 0, 5, []), (5, .getfield 102, 8, []), (8, .iload_n 1, 9, []), (9, .iastore, 10, []), (10, .aload_n 0, 11, []), (11, .getfield 34, 14, []), (14, .aload_n 0, 15, []), (15, .getfield 102, 18, []), (18, .iload_n 2, 19, []), (19, .iastore, 20, []), (20, .aload_n 0, 21, []), (21, .getfield 37, 24, []), (24, .aload_n 0, 25, []), (25, .getfield 102, 28, []), (28, .iload_n 3, 29, []), (29, .iastore, 30, []), (30, .iconst 0, 31, []), (31, .istore 4, 33, []), (33, .iload 4, 35, []), (35, .iload_n 3, 36, []), (36, .if_icmp .ge 50, 39, [86]), (39, .iload_n 2, 40, []), (40, .iconst 1, 41, []), (41, .if_icmp .ne 26, 44, [67]), (44, .aload_n 0, 45, []), (45, .getfield 43, 48, []), (48, .iload_n 1, 49, []), (49, .iload 4, 51, []), (51, .aload_n 0, 52, []), (52, .getfield 13, 55, []), (55, .iconst 1, 56, []), (56, .iaload, 57, []), (57, .imul, 58, []), (58, .iadd, 59, []), (59, .aload_n 0, 60, []), (60, .getfield 102, 63, []), (63, .iastore, 64, []), (64, .goto 16, 67, [80]), (67, .aload_n 0, 68, []), (68, .getfield 40, 71, []), (71, .iload_n 1, 72, []), (72, .iload 4, 74, []), (74, .iadd, 75, []), (75, .aload_n 0, 76, []), (76, .getfield 102, 79, []), (79, .iastore, 80, []), (80, .iinc 4 1, 83, []), (83, .goto (-50), 86, [33]), (86, .aload_n 0, 87, []), (87, .dup, 88, []), (88, .getfield 102, 91, []), (91, .iconst 1, 92, []), (92, .iadd, 93, []), (93, .putfield 102, 96, []), (96, .return_, 97, [])]
def mi_X9_addEntry : MI := (cd_X9_addEntry, [(13, 7, 3), (31, 7, 11), (34, 7, 12), (37, 7, 13), (40, 7, 14), (43, 7, 15), (102, 7, 10)], [], [], [], [], [], 0, 0, 0)
def cd_X9_isEntry : List (Nat × ARow) := [(0, .iload_n 1, 1, []), (1, .ifCond .lt 15, 4, [16]), (4, .iload_n 1, 5, []), (5, .aload_n 0, 6, []), (6, .getfield 102, 9, []), (9, .if_icmp .ge 7, 12, [16]), (12, .iconst 1, 13, []), (13, .goto 4, 16, [17]), (16, .iconst 0, 17, []), (17, .ireturn, 18, [])]
def mi_X9_isEntry : MI := (cd_X9_isEntry, [(102, 7, 10)], [], [], [], [], [], 0, 0, 1)
def cd_X9_cellOf : List (Nat × ARow) := [(0, .aload_n 0, 1, []), (1, .getfield 31, 4, []), (4, .iload_n 1, 5, []), (5, .iaload, 6, []), (6, .iload_n 2, 7, []), (7, .aload_n 0, 8, []), (8, .getfield 34, 11, []), (11, .iload_n 1, 12, []), (12, .iaload, 13, []), (13, .iconst 1, 14, []), (14, .if_icmp .ne 12, 17, [26]), (17, .aload_n 0, 18, []), (18, .getfield 13, 21, []), (21, .iconst 1, 22, []), (22, .iaload, 23, []), (23, .goto 4, 26, [27]), (26, .iconst 1, 27, []), (27, .imul, 28, []), (28, .iadd, 29, []), (29, .ireturn, 30, [])]
def mi_X9_cellOf : MI := (cd_X9_cellOf, [(13, 7, 3), (31, 7, 11), (34, 7, 12)], [], [], [], [], [], 0, 0, 0)
def cd_X9_entriesOf : List (Nat × ARow) := [(0, .aload_n 0, 1, []), (1, .getfield 40, 4, []), (4, .iload_n 1, 5, []), (5, .iaload, 6, []), (6, .bipush (-9), 8, []), (8, .if_icmp .ne 7, 11, [15]), (11, .iconst 0, 12, []), (12, .goto 4, 15, [16]), (15, .iconst 1, 16, []), (16, .aload_n 0, 17, []), (17, .getfield 43, 20, []), (20, .iload_n 1, 21, []), (21, .iaload, 22, []), (22, .bipush (-9), 24, []), (24, .if_icmp .ne 7, 27, [31]), (27, .iconst 0, 28, []), (28, .goto 4, 31, [32]), (31, .iconst 1, 32, []), (32, .iadd, 33, []), (33, .ireturn, 34, [])]
def mi_X9_entriesOf : MI := (cd_X9_entriesOf, [(40, 7, 14), (43, 7, 15)], [], [], [], [], [], 0, 0, 0)
def cd_X9_uncheckedIn : List (Nat × ARow) := [(0, .iconst 0, 1, []), (1, .istore_n 2, 2, []), (2, .iconst 0, 3, []), (3, .istore_n 3, 4, []), (4, .iload_n 3, 5, []), (5, .aload_n 0, 6, []), (6, .getfield 37, 9, []), (9, .iload_n 1, 10, []), (10, .iaload, 11, []), (11, .if_icmp .ge 31, 14, [42]), (14, .iload_n 2, 15, []), (15, .aload_n 0, 16, []), (16, .aload_n 0, 17, []), (17, .iload_n 1, 18, []), (18, .iload_n 3, 19, []), (19, .invokevirtual 115, 22, []), (22, .invokevirtual 119, 25, []), (25, .iconst 1, 26, []), (26, .if_icmp .ne 7, 29, [33]), (29, .iconst 1, 30, []), (30, .goto 4, 33, [34]), (33, .iconst 0, 34, []), (34, .iadd, 35, []), (35, .istore_n 2, 36, []), (36, .iinc 3 1, 39, []), (39, .goto (-35), 42, [4]), (42, .iload_n 2, 43, []), (43, .ireturn, 44, [])]
def mi_X9_uncheckedIn : MI := (cd_X9_uncheckedIn, [(37, 7, 13)], [(115, 146, 0, 3, 0, 0, 7), (119, 147, 0, 2, 0, 0, 7)], [], [], [], [], 0, 0, 0)
def cd_X9_emptyIn : List (Nat × ARow) := [(0, .iconst 0, 1, []), (1, .istore_n 2, 2, []), (2, .iconst 0, 3, []), (3, .istore_n 3, 4, []), (4, .iload_n 3, 5, []), (5, .aload_n 0, 6, []), (6, .getfield 37, 9, []), (9, .iload_n 1, 10, []), (10, .iaload, 11, []), (11, .if_icmp .ge 33, 14, [44]), (14, .iload_n 2, 15, []), (15, .aload_n 0, 16, []), (16, .getfield 13, 19, []), (19, .iconst 2, 20, []), (20, .aload_n 0, 21, []), (21, .iload_n 1, 22, []), (22, .iload_n 3, 23, []), (23, .invokevirtual 115, 26, []), (26, .iadd, 27, []), (27, .iaload, 28, []), (28, .ifCond .ne 7, 31, [35]), (31, .iconst 1, 32, []), (32, .goto 4, 35, [36]), (35, .iconst 0, 36, []), (36, .iadd, 37, []), (37, .istore_n 2, 38, []), (38, .iinc 3 1, 41, []), (41, .goto (-37), 44, [4]), (44, .iload_n 2, 45, []), (45, .ireturn, 46, [])]
def mi_X9_emptyIn : MI := (cd_X9_emptyIn, [(13, 7, 3), (37, 7, 13)], [(115, 146, 0, 3, 0, 0, 7)], [], [], [], [], 0, 0, 0)
def cd_X9_cellsIn : List (Nat × ARow) := [(0, .iconst 0, 1, []), (1, .istore_n 2, 2, []), (2, .iconst 0, 3, []), (3, .istore_n 3, 4, []), (4, .iload_n 3, 5, []), (5, .aload_n 0, 6, []), (6, .invokevirtual 93, 9, []), (9, .if_icmp .ge 26, 12, [35]), (12, .iload_n 2, 13, []), (13, .aload_n 0, 14, []), (14, .iload_n 3, 15, []), (15, .invokevirtual 119, 18, []), (18, .iload_n 1, 19, []), (19, .if_icmp .ne 7, 22, [26]), (22, .iconst 1, 23, []), (23, .goto 4, 26, [27]), (26, .iconst 0, 27, []), (27, .iadd, 28, []), (28, .istore_n 2, 29, []), (29, .iinc 3 1, 32, []), (32, .goto (-28), 35, [4]), (35, .iload_n 2, 36, []), (36, .ireturn, 37, [])]
def mi_X9_cellsIn : MI := (cd_X9_cellsIn, [], [(93, 137, 0, 1, 0, 0, 7), (119, 147, 0, 2, 0, 0, 7)], [], [], [], [], 0, 0, 0)
def cd_X9_bars : List (Nat × ARow) := [(0, .iconst 0, 1, []), (1, .istore_n 1, 2, []), (2, .iconst 0, 3, []), (3, .istore_n 2, 4, []), (4, .iload_n 2, 5, []), (5, .aload_n 0, 6, []), (6, .invokevirtual 93, 9, []), (9, .if_icmp .ge 31, 12, [40]), (12, .iload_n 1, 13, []), (13, .aload_n 0, 14, []), (14, .getfield 13, 17, []), (17, .bipush 38, 19, []), (19, .iload_n 2, 20, []), (20, .iadd, 21, []), (21, .iaload, 22, []), (22, .aload_n 0, 23, []), (23, .getfield 13, 26, []), (26, .bipush 74, 28, []), (28, .iload_n 2, 29, []), (29, .iadd, 30, []), (30, .iaload, 31, []), (31, .iadd, 32, []), (32, .iadd, 33, []), (33, .istore_n 1, 34, []), (34, .iinc 2 1, 37, []), (37, .goto (-33), 40, [4]), (40, .iload_n 1, 41, []), (41, .ireturn, 42, [])]
def mi_X9_bars : MI := (cd_X9_bars, [(13, 7, 3)], [(93, 137, 0, 1, 0, 0, 7)], [], [], [], [], 0, 0, 0)
def cd_X9_about : List (Nat × ARow) := [(0, .aload_n 0, 1, []), (1, .iload_n 1, 2, []), (2, .ifCond .lt 9, 5, [11]), (5, .iload_n 1, 6, []), (6, .bipush 10, 8, []), (8, .if_icmp .le 7, 11, [15]), (11, .iconst 1, 12, []), (12, .goto 4, 15, [16]), (15, .iconst 0, 16, []), (16, .putfield 61, 19, []), (19, .iconst 0, 20, []), (20, .istore_n 2, 21, []), (21, .iconst 0, 22, []), (22, .istore_n 3, 23, []), (23, .iload_n 3, 24, []), (24, .aload_n 0, 25, []), (25, .getfield 102, 28, []), (28, .if_icmp .ge 18, 31, [46]), (31, .iload_n 2, 32, []), (32, .aload_n 0, 33, []), (33, .getfield 34, 36, []), (36, .iload_n 3, 37, []), (37, .iaload, 38, []), (38, .iadd, 39, []), (39, .istore_n 2, 40, []), (40, .iinc 3 1, 43, []), (43, .goto (-20), 46, [23]), (46, .iconst 0, 47, []), (47, .istore_n 3, 48, []), (48, .iconst 0, 49, []), (49, .istore 4, 51, []), (51, .iconst 0, 52, []), (52, .istore 5, 54, []), (54, .iload 5, 56, []), (56, .aload_n 0, 57, []), (57, .invokevirtual 93, 60, []), (60, .if_icmp .ge 55, 63, [115]), (63, .iload_n 3, 64, []), (64, .aload_n 0, 65, []), (65, .getfield 13, 68, []), (68, .iconst 2, 69, []), (69, .iload 5, 71, []), (71, .iadd, 72, []), (72, .iaload, 73, []), (73, .ifCond .ne 7, 76, [80]), (76, .iconst 1, 77, []), (77, .goto 4, 80, [81]), (80, .iconst 0, 81, []), (81, .iadd, 82, []), (82, .istore_n 3, 83, []), (83, .aload_n 0, 84, []), (84, .getfield 46, 87, []), (87, .iload 5, 89, []), (89, .iaload, 90, []), (90, .iload 4, 92, []), (92, .if_icmp .le 13, 95, [105]), (95, .aload_n 0, 96, []), (96, .getfield 46, 99, []), (99, .iload 5, 101, []), (101, .iaload, 102, []), (102, .goto 5, 105, [107]), (105, .iload 4, 107, []), (107, .istore 4, 109, []), (109, .iinc 5 1, 112, []), (112, .goto (-58), 115, [54]), (115, .iload_n 1, 116, []), (116, .tableswitch 125 0 10 #[60, 67, 74, 79, 86, 92, 98, 100, 105, 113, 122], 176, [241, 176, 183, 190, 195, 202, 208, 214, 216, 221, 229, 238]), (176, .aload_n 0, 177, []), (177, .getfield 13, 180, []), (180, .iconst 0, 181, []), (181, .iaload, 182, []), (182, .ireturn, 183, []), (183, .aload_n 0, 184, []), (184, .getfield 13, 187, []), (187, .iconst 1, 188, []), (188, .iaload, 189, []), (189, .ireturn, 190, []), (190, .aload_n 0, 191, []), (191, .getfield 102, 194, []), (194, .ireturn, 195, []), (195, .aload_n 0, 196, []), (196, .getfield 102, 199, []), (199, .iload_n 2, 200, []), (200, .isub, 201, []), (201, .ireturn, 202, []), (202, .aload_n 0, 203, []), (203, .iconst 2, 204, []), (204, .invokevirtual 122, 207, []), (207, .ireturn, 208, []), (208, .aload_n 0, 209, []), (209, .iconst 1, 210, []), (210, .invokevirtual 122, 213, []), (213, .ireturn, 214, []), (214, .iload_n 3, 215, []), (215, .ireturn, 216, []), (216, .aload_n 0, 217, []), (217, .invokevirtual 125, 220, []), (220, .ireturn, 221, []), (221, .aload_n 0, 222, []), (222, .getfield 13, 225, []), (225, .bipush 110, 227, []), (227, .iaload, 228, []), (228, .ireturn, 229, []), (229, .aload_n 0, 230, []), (230, .getfield 13, 233, []), (233, .sipush 167, 236, []), (236, .iaload, 237, []), (237, .ireturn, 238, []), (238, .iload 4, 240, []), (240, .ireturn, 241, []), (241, .iconst 0, 242, []), (242, .ireturn, 243, [])]
def mi_X9_about : MI := (cd_X9_about, [(13, 7, 3), (34, 7, 12), (46, 7, 16), (61, 7, 0), (102, 7, 10)], [(93, 137, 0, 1, 0, 0, 7), (122, 150, 0, 2, 0, 0, 7), (125, 151, 0, 1, 0, 0, 7)], [], [], [], [], 0, 0, 0)
def cd_X9_cell : List (Nat × ARow) := [(0, .aload_n 0, 1, []), (1, .aload_n 0, 2, []), (2, .iload_n 1, 3, []), (3, .invokevirtual 128, 6, []), (6, .ifCond .ne 7, 9, [13]), (9, .iconst 1, 10, []), (10, .goto 18, 13, [28]), (13, .iload_n 2, 14, []), (14, .ifCond .lt 9, 17, [23]), (17, .iload_n 2, 18, []), (18, .bipush 6, 20, []), (20, .if_icmp .le 7, 23, [27]), (23, .iconst 2, 24, []), (24, .goto 4, 27, [28]), (27, .iconst 0, 28, []), (28, .putfield 61, 31, []), (31, .aload_n 0, 32, []), (32, .getfield 61, 35, []), (35, .ifCond .le 5, 38, [40]), (38, .iconst 0, 39, []), (39, .ireturn, 40, []), (40, .iload_n 2, 41, []), (41, .tableswitch 88 0 5 #[39, 48, 58, 68, 75, 82], 80, [129, 80, 89, 99, 109, 116, 123]), (80, .aload_n 0, 81, []), (81, .getfield 13, 84, []), (84, .iconst 2, 85, []), (85, .iload_n 1, 86, []), (86, .iadd, 87, []), (87, .iaload, 88, []), (88, .ireturn, 89, []), (89, .aload_n 0, 90, []), (90, .getfield 13, 93, []), (93, .bipush 38, 95, []), (95, .iload_n 1, 96, []), (96, .iadd, 97, []), (97, .iaload, 98, []), (98, .ireturn, 99, []), (99, .aload_n 0, 100, []), (100, .getfield 13, 103, []), (103, .bipush 74, 105, []), (105, .iload_n 1, 106, []), (106, .iadd, 107, []), (107, .iaload, 108, []), (108, .ireturn, 109, []), (109, .aload_n 0, 110, []), (110, .getfield 40, 113, []), (113, .iload_n 1, 114, []), (114, .iaload, 115, []), (115, .ireturn, 116, []), (116, .aload_n 0, 117, []), (117, .getfield 43, 120, []), (120, .iload_n 1, 121, []), (121, .iaload, 122, []), (122, .ireturn, 123, []), (123, .aload_n 0, 124, []), (124, .iload_n 1, 125, []), (125, .invokevirtual 119, 128, []), (128, .ireturn, 129, []), (129, .aload_n 0, 130, []), (130, .getfield 46, 133, []), (133, .iload_n 1, 134, []), (134, .iaload, 135, []), (135, .ireturn, 136, [])]
def mi_X9_cell : MI := (cd_X9_cell, [(13, 7, 3), (40, 7, 14), (43, 7, 15), (46, 7, 16), (61, 7, 0)], [(119, 147, 0, 2, 0, 0, 7), (128, 138, 0, 2, 0, 0, 7)], [], [], [], [], 0, 0, 0)
def cd_X9_entry : List (Nat × ARow) := [(0, .aload_n 0, 1, []), (1, .aload_n 0, 2, []), (2, .iload_n 1, 3, []), (3, .invokevirtual 131, 6, []), (6, .ifCond .ne 7, 9, [13]), (9, .iconst 1, 10, []), (10, .goto 18, 13, [28]), (13, .iload_n 2, 14, []), (14, .ifCond .lt 9, 17, [23]), (17, .iload_n 2, 18, []), (18, .bipush 6, 20, []), (20, .if_icmp .le 7, 23, [27]), (23, .iconst 2, 24, []), (24, .goto 4, 27, [28]), (27, .iconst 0, 28, []), (28, .putfield 61, 31, []), (31, .aload_n 0, 32, []), (32, .getfield 61, 35, []), (35, .ifCond .le 5, 38, [40]), (38, .iconst 0, 39, []), (39, .ireturn, 40, []), (40, .iload_n 2, 41, []), (41, .tableswitch 84 0 5 #[39, 46, 53, 60, 66, 72], 80, [125, 80, 87, 94, 101, 107, 113]), (80, .aload_n 0, 81, []), (81, .getfield 31, 84, []), (84, .iload_n 1, 85, []), (85, .iaload, 86, []), (86, .ireturn, 87, []), (87, .aload_n 0, 88, []), (88, .getfield 34, 91, []), (91, .iload_n 1, 92, []), (92, .iaload, 93, []), (93, .ireturn, 94, []), (94, .aload_n 0, 95, []), (95, .getfield 37, 98, []), (98, .iload_n 1, 99, []), (99, .iaload, 100, []), (100, .ireturn, 101, []), (101, .aload_n 0, 102, []), (102, .iload_n 1, 103, []), (103, .invokevirtual 134, 106, []), (106, .ireturn, 107, []), (107, .aload_n 0, 108, []), (108, .iload_n 1, 109, []), (109, .invokevirtual 137, 112, []), (112, .ireturn, 113, []), (113, .aload_n 0, 114, []), (114, .getfield 46, 117, []), (117, .aload_n 0, 118, []), (118, .getfield 31, 121, []), (121, .iload_n 1, 122, []), (122, .iaload, 123, []), (123, .iaload, 124, []), (124, .ireturn, 125, []), (125, .aload_n 0, 126, []), (126, .iload_n 1, 127, []), (127, .invokevirtual 140, 130, []), (130, .ireturn, 131, [])]
def mi_X9_entry : MI := (cd_X9_entry, [(31, 7, 11), (34, 7, 12), (37, 7, 13), (46, 7, 16), (61, 7, 0)], [(131, 145, 0, 2, 0, 0, 7), (134, 148, 0, 2, 0, 0, 7), (137, 149, 0, 2, 0, 0, 7), (140, 155, 0, 2, 0, 0, 7)], [], [], [], [], 0, 0, 0)
def cd_X9_wordIn : List (Nat × ARow) := [(0, .aload_n 0, 1, []), (1, .iload_n 1, 2, []), (2, .invokevirtual 137, 5, []), (5, .ifCond .le 6, 8, [11]), (8, .bipush (-9), 10, []), (10, .ireturn, 11, []), (11, .iconst 0, 12, []), (12, .istore_n 2, 13, []), (13, .iload_n 2, 14, []), (14, .aload_n 0, 15, []), (15, .getfield 13, 18, []), (18, .bipush 110, 20, []), (20, .iaload, 21, []), (21, .if_icmp .ge 20, 24, [41]), (24, .aload_n 0, 25, []), (25, .iload_n 1, 26, []), (26, .iload_n 2, 27, []), (27, .invokevirtual 143, 30, []), (30, .ifCond .eq 5, 33, [35]), (33, .iload_n 2, 34, []), (34, .ireturn, 35, []), (35, .iinc 2 1, 38, []), (38, .goto (-25), 41, [13]), (41, .bipush (-9), 43, []), (43, .ireturn, 44, [])]
def mi_X9_wordIn : MI := (cd_X9_wordIn, [(13, 7, 3)], [(137, 149, 0, 2, 0, 0, 7), (143, 159, 0, 3, 0, 0, 7)], [], [], [], [], 0, 0, 0)
def cd_X9_isWord : List (Nat × ARow) := [(0, .iload_n 1, 1, []), (1, .ifCond .lt 18, 4, [19]), (4, .iload_n 1, 5, []), (5, .aload_n 0, 6, []), (6, .getfield 13, 9, []), (9, .bipush 110, 11, []), (11, .iaload, 12, []), (12, .if_icmp .ge 7, 15, [19]), (15, .iconst 1, 16, []), (16, .goto 4, 19, [20]), (19, .iconst 0, 20, []), (20, .ireturn, 21, [])]
def mi_X9_isWord : MI := (cd_X9_isWord, [(13, 7, 3)], [], [], [], [], [], 0, 0, 1)
def cd_X9_letterOf : List (Nat × ARow) := [(0, .aload_n 0, 1, []), (1, .getfield 13, 4, []), (4, .bipush 119, 6, []), (6, .bipush 6, 8, []), (8, .iload_n 1, 9, []), (9, .imul, 10, []), (10, .iadd, 11, []), (11, .iload_n 2, 12, []), (12, .iadd, 13, []), (13, .iaload, 14, []), (14, .ireturn, 15, [])]
def mi_X9_letterOf : MI := (cd_X9_letterOf, [(13, 7, 3)], [], [], [], [], [], 0, 0, 0)
def cd_X9_word : List (Nat × ARow) := [(0, .aload_n 0, 1, []), (1, .aload_n 0, 2, []), (2, .iload_n 1, 3, []), (3, .invokevirtual 147, 6, []), (6, .ifCond .ne 7, 9, [13]), (9, .iconst 1, 10, []), (10, .goto 12, 13, [22]), (13, .iload_n 2, 14, []), (14, .ifCond .ge 7, 17, [21]), (17, .iconst 2, 18, []), (18, .goto 4, 21, [22]), (21, .iconst 0, 22, []), (22, .putfield 61, 25, []), (25, .aload_n 0, 26, []), (26, .getfield 61, 29, []), (29, .ifCond .le 5, 32, [34]), (32, .iconst 0, 33, []), (33, .ireturn, 34, []), (34, .iload_n 2, 35, []), (35, .aload_n 0, 36, []), (36, .getfield 13, 39, []), (39, .bipush 111, 41, []), (41, .iload_n 1, 42, []), (42, .iadd, 43, []), (43, .iaload, 44, []), (44, .if_icmp .ge 12, 47, [56]), (47, .aload_n 0, 48, []), (48, .iload_n 1, 49, []), (49, .iload_n 2, 50, []), (50, .invokevirtual 150, 53, []), (53, .goto 5, 56, [58]), (56, .bipush (-9), 58, []), (58, .ireturn, 59, [])]
def mi_X9_word : MI := (cd_X9_word, [(13, 7, 3), (61, 7, 0)], [(147, 156, 0, 2, 0, 0, 7), (150, 157, 0, 3, 0, 0, 7)], [], [], [], [], 0, 0, 0)
def cd_X9_isFitting : List (Nat × ARow) := [(0, .aload_n 0, 1, []), (1, .getfield 37, 4, []), (4, .iload_n 1, 5, []), (5, .iaload, 6, []), (6, .aload_n 0, 7, []), (7, .getfield 13, 10, []), (10, .bipush 111, 12, []), (12, .iload_n 2, 13, []), (13, .iadd, 14, []), (14, .iaload, 15, []), (15, .if_icmp .ne 7, 18, [22]), (18, .iconst 1, 19, []), (19, .goto 4, 22, [23]), (22, .iconst 0, 23, []), (23, .istore_n 3, 24, []), (24, .iconst 0, 25, []), (25, .istore 4, 27, []), (27, .iload 4, 29, []), (29, .aload_n 0, 30, []), (30, .getfield 37, 33, []), (33, .iload_n 1, 34, []), (34, .iaload, 35, []), (35, .if_icmp .ge 52, 38, [87]), (38, .iload_n 3, 39, []), (39, .ifCond .eq 48, 42, [87]), (42, .aload_n 0, 43, []), (43, .getfield 13, 46, []), (46, .iconst 2, 47, []), (47, .aload_n 0, 48, []), (48, .iload_n 1, 49, []), (49, .iload 4, 51, []), (51, .invokevirtual 115, 54, []), (54, .iadd, 55, []), (55, .iaload, 56, []), (56, .istore 5, 58, []), (58, .iload 5, 60, []), (60, .ifCond .eq 15, 63, [75]), (63, .iload 5, 65, []), (65, .aload_n 0, 66, []), (66, .iload_n 2, 67, []), (67, .iload 4, 69, []), (69, .invokevirtual 150, 72, []), (72, .if_icmp .ne 7, 75, [79]), (75, .iconst 1, 76, []), (76, .goto 4, 79, [80]), (79, .iconst 0, 80, []), (80, .istore_n 3, 81, []), (81, .iinc 4 1, 84, []), (84, .goto (-57), 87, [27]), (87, .iload_n 3, 88, []), (88, .ireturn, 89, [])]
def mi_X9_isFitting : MI := (cd_X9_isFitting, [(13, 7, 3), (37, 7, 13)], [(115, 146, 0, 3, 0, 0, 7), (150, 157, 0, 3, 0, 0, 7)], [], [], [], [], 0, 0, 1)
def cd_X9_fitsOf : List (Nat × ARow) := [(0, .iconst 0, 1, []), (1, .istore_n 2, 2, []), (2, .iconst 0, 3, []), (3, .istore_n 3, 4, []), (4, .iload_n 3, 5, []), (5, .aload_n 0, 6, []), (6, .getfield 13, 9, []), (9, .bipush 110, 11, []), (11, .iaload, 12, []), (12, .if_icmp .ge 26, 15, [38]), (15, .iload_n 2, 16, []), (16, .aload_n 0, 17, []), (17, .iload_n 1, 18, []), (18, .iload_n 3, 19, []), (19, .invokevirtual 143, 22, []), (22, .ifCond .eq 7, 25, [29]), (25, .iconst 1, 26, []), (26, .goto 4, 29, [30]), (29, .iconst 0, 30, []), (30, .iadd, 31, []), (31, .istore_n 2, 32, []), (32, .iinc 3 1, 35, []), (35, .goto (-31), 38, [4]), (38, .iload_n 2, 39, []), (39, .ireturn, 40, [])]
def mi_X9_fitsOf : MI := (cd_X9_fitsOf, [(13, 7, 3)], [(143, 159, 0, 3, 0, 0, 7)], [], [], [], [], 0, 0, 0)
def cd_X9_fits : List (Nat × ARow) := [(0, .aload_n 0, 1, []), (1, .aload_n 0, 2, []), (2, .iload_n 1, 3, []), (3, .invokevirtual 131, 6, []), (6, .ifCond .eq 7, 9, [13]), (9, .iconst 0, 10, []), (10, .goto 4, 13, [14]), (13, .iconst 1, 14, []), (14, .putfield 61, 17, []), (17, .aload_n 0, 18, []), (18, .getfield 61, 21, []), (21, .ifCond .le 7, 24, [28]), (24, .iconst 0, 25, []), (25, .goto 8, 28, [33]), (28, .aload_n 0, 29, []), (29, .iload_n 1, 30, []), (30, .invokevirtual 153, 33, []), (33, .ireturn, 34, [])]
def mi_X9_fits : MI := (cd_X9_fits, [(61, 7, 0)], [(131, 145, 0, 2, 0, 0, 7), (153, 160, 0, 2, 0, 0, 7)], [], [], [], [], 0, 0, 0)
def cd_X9_isTurned : List (Nat × ARow) := [(0, .iconst 1, 1, []), (1, .istore_n 1, 2, []), (2, .aload_n 0, 3, []), (3, .invokevirtual 93, 6, []), (6, .iconst 1, 7, []), (7, .isub, 8, []), (8, .istore_n 2, 9, []), (9, .iconst 0, 10, []), (10, .istore_n 3, 11, []), (11, .iload_n 3, 12, []), (12, .iload_n 2, 13, []), (13, .if_icmp .gt 100, 16, [113]), (16, .aload_n 0, 17, []), (17, .iload_n 3, 18, []), (18, .invokevirtual 96, 21, []), (21, .ifCond .ne 38, 24, [59]), (24, .iload_n 1, 25, []), (25, .ifCond .eq 32, 28, [57]), (28, .aload_n 0, 29, []), (29, .getfield 13, 32, []), (32, .bipush 38, 34, []), (34, .iload_n 3, 35, []), (35, .iadd, 36, []), (36, .iaload, 37, []), (37, .aload_n 0, 38, []), (38, .getfield 13, 41, []), (41, .bipush 38, 43, []), (43, .iload_n 2, 44, []), (44, .iadd, 45, []), (45, .iconst 1, 46, []), (46, .isub, 47, []), (47, .iload_n 3, 48, []), (48, .isub, 49, []), (49, .iaload, 50, []), (50, .if_icmp .ne 7, 53, [57]), (53, .iconst 1, 54, []), (54, .goto 4, 57, [58]), (57, .iconst 0, 58, []), (58, .istore_n 1, 59, []), (59, .aload_n 0, 60, []), (60, .iload_n 3, 61, []), (61, .invokevirtual 99, 64, []), (64, .ifCond .ne 43, 67, [107]), (67, .iload_n 1, 68, []), (68, .ifCond .eq 37, 71, [105]), (71, .aload_n 0, 72, []), (72, .getfield 13, 75, []), (75, .bipush 74, 77, []), (77, .iload_n 3, 78, []), (78, .iadd, 79, []), (79, .iaload, 80, []), (80, .aload_n 0, 81, []), (81, .getfield 13, 84, []), (84, .bipush 74, 86, []), (86, .iload_n 2, 87, []), (87, .iadd, 88, []), (88, .aload_n 0, 89, []), (89, .getfield 13, 92, []), (92, .iconst 1, 93, []), (93, .iaload, 94, []), (94, .isub, 95, []), (95, .iload_n 3, 96, []), (96, .isub, 97, []), (97, .iaload, 98, []), (98, .if_icmp .ne 7, 101, [105]), (101, .iconst 1, 102, []), (102, .goto 4, 105, [106]), (105, .iconst 0, 106, []), (106, .istore_n 1, 107, []), (107, .iinc 3 1, 110, []), (110, .goto (-99), 113, [11]), (113, .iload_n 1, 114, []), (114, .ireturn, 115, [])]
def mi_X9_isTurned : MI := (cd_X9_isTurned, [(13, 7, 3)], [(93, 137, 0, 1, 0, 0, 7), (96, 139, 0, 2, 0, 0, 7), (99, 140, 0, 2, 0, 0, 7)], [], [], [], [], 0, 0, 1)
def cd_X9_isWellChecked : List (Nat × ARow) := [(0, .iconst 1, 1, []), (1, .istore_n 1, 2, []), (2, .iconst 0, 3, []), (3, .istore_n 2, 4, []), (4, .iload_n 2, 5, []), (5, .aload_n 0, 6, []), (6, .getfield 102, 9, []), (9, .if_icmp .ge 35, 12, [44]), (12, .iload_n 1, 13, []), (13, .ifCond .eq 23, 16, [36]), (16, .iconst 2, 17, []), (17, .aload_n 0, 18, []), (18, .iload_n 2, 19, []), (19, .invokevirtual 134, 22, []), (22, .imul, 23, []), (23, .aload_n 0, 24, []), (24, .getfield 37, 27, []), (27, .iload_n 2, 28, []), (28, .iaload, 29, []), (29, .if_icmp .gt 7, 32, [36]), (32, .iconst 1, 33, []), (33, .goto 4, 36, [37]), (36, .iconst 0, 37, []), (37, .istore_n 1, 38, []), (38, .iinc 2 1, 41, []), (41, .goto (-37), 44, [4]), (44, .iload_n 1, 45, []), (45, .ireturn, 46, [])]
def mi_X9_isWellChecked : MI := (cd_X9_isWellChecked, [(37, 7, 13), (102, 7, 10)], [(134, 148, 0, 2, 0, 0, 7)], [], [], [], [], 0, 0, 1)
def cd_X9_isWithoutPairs : List (Nat × ARow) := [(0, .iconst 1, 1, []), (1, .istore_n 1, 2, []), (2, .iconst 0, 3, []), (3, .istore_n 2, 4, []), (4, .iload_n 2, 5, []), (5, .aload_n 0, 6, []), (6, .getfield 102, 9, []), (9, .if_icmp .ge 69, 12, [78]), (12, .iconst 0, 13, []), (13, .istore_n 3, 14, []), (14, .iload_n 3, 15, []), (15, .iconst 1, 16, []), (16, .iadd, 17, []), (17, .aload_n 0, 18, []), (18, .getfield 37, 21, []), (21, .iload_n 2, 22, []), (22, .iaload, 23, []), (23, .if_icmp .ge 49, 26, [72]), (26, .iload_n 1, 27, []), (27, .ifCond .eq 37, 30, [64]), (30, .aload_n 0, 31, []), (31, .aload_n 0, 32, []), (32, .iload_n 2, 33, []), (33, .iload_n 3, 34, []), (34, .invokevirtual 115, 37, []), (37, .invokevirtual 119, 40, []), (40, .iconst 1, 41, []), (41, .if_icmp .ne 19, 44, [60]), (44, .aload_n 0, 45, []), (45, .aload_n 0, 46, []), (46, .iload_n 2, 47, []), (47, .iload_n 3, 48, []), (48, .iconst 1, 49, []), (49, .iadd, 50, []), (50, .invokevirtual 115, 53, []), (53, .invokevirtual 119, 56, []), (56, .iconst 1, 57, []), (57, .if_icmp .eq 7, 60, [64]), (60, .iconst 1, 61, []), (61, .goto 4, 64, [65]), (64, .iconst 0, 65, []), (65, .istore_n 1, 66, []), (66, .iinc 3 1, 69, []), (69, .goto (-55), 72, [14]), (72, .iinc 2 1, 75, []), (75, .goto (-71), 78, [4]), (78, .iload_n 1, 79, []), (79, .ireturn, 80, [])]
def mi_X9_isWithoutPairs : MI := (cd_X9_isWithoutPairs, [(37, 7, 13), (102, 7, 10)], [(115, 146, 0, 3, 0, 0, 7), (119, 147, 0, 2, 0, 0, 7)], [], [], [], [], 0, 0, 1)
def cd_X9_isConnected : List (Nat × ARow) := [(0, .iconst 0, 1, []), (1, .istore_n 1, 2, []), (2, .iload_n 1, 3, []), (3, .aload_n 0, 4, []), (4, .invokevirtual 93, 7, []), (7, .if_icmp .ge 24, 10, [31]), (10, .aload_n 0, 11, []), (11, .getfield 49, 14, []), (14, .iload_n 1, 15, []), (15, .iload_n 1, 16, []), (16, .ifCond .ne 7, 19, [23]), (19, .iconst 1, 20, []), (20, .goto 4, 23, [24]), (23, .iconst 0, 24, []), (24, .iastore, 25, []), (25, .iinc 1 1, 28, []), (28, .goto (-26), 31, [2]), (31, .iconst 0, 32, []), (32, .istore_n 1, 33, []), (33, .iload_n 1, 34, []), (34, .aload_n 0, 35, []), (35, .invokevirtual 93, 38, []), (38, .if_icmp .ge 114, 41, [152]), (41, .iconst 0, 42, []), (42, .istore_n 2, 43, []), (43, .iload_n 2, 44, []), (44, .aload_n 0, 45, []), (45, .invokevirtual 93, 48, []), (48, .if_icmp .ge 98, 51, [146]), (51, .aload_n 0, 52, []), (52, .iload_n 2, 53, []), (53, .invokevirtual 105, 56, []), (56, .ifCond .ne 37, 59, [93]), (59, .aload_n 0, 60, []), (60, .getfield 49, 63, []), (63, .iload_n 2, 64, []), (64, .iaload, 65, []), (65, .aload_n 0, 66, []), (66, .getfield 49, 69, []), (69, .iload_n 2, 70, []), (70, .iconst 1, 71, []), (71, .iadd, 72, []), (72, .iaload, 73, []), (73, .iadd, 74, []), (74, .ifCond .le 19, 77, [93]), (77, .aload_n 0, 78, []), (78, .getfield 49, 81, []), (81, .iload_n 2, 82, []), (82, .iconst 1, 83, []), (83, .iastore, 84, []), (84, .aload_n 0, 85, []), (85, .getfield 49, 88, []), (88, .iload_n 2, 89, []), (89, .iconst 1, 90, []), (90, .iadd, 91, []), (91, .iconst 1, 92, []), (92, .iastore, 93, []), (93, .iload_n 2, 94, []), (94, .aload_n 0, 95, []), (95, .getfield 13, 98, []), (98, .iconst 1, 99, []), (99, .iaload, 100, []), (100, .iadd, 101, []), (101, .istore_n 3, 102, []), (102, .aload_n 0, 103, []), (103, .iload_n 2, 104, []), (104, .invokevirtual 108, 107, []), (107, .ifCond .ne 33, 110, [140]), (110, .aload_n 0, 111, []), (111, .getfield 49, 114, []), (114, .iload_n 2, 115, []), (115, .iaload, 116, []), (116, .aload_n 0, 117, []), (117, .getfield 49, 120, []), (120, .iload_n 3, 121, []), (121, .iaload, 122, []), (122, .iadd, 123, []), (123, .ifCond .le 17, 126, [140]), (126, .aload_n 0, 127, []), (127, .getfield 49, 130, []), (130, .iload_n 2, 131, []), (131, .iconst 1, 132, []), (132, .iastore, 133, []), (133, .aload_n 0, 134, []), (134, .getfield 49, 137, []), (137, .iload_n 3, 138, []), (138, .iconst 1, 139, []), (139, .iastore, 140, []), (140, .iinc 2 1, 143, []), (143, .goto (-100), 146, [43]), (146, .iinc 1 1, 149, []), (149, .goto (-116), 152, [33]), (152, .iconst 1, 153, []), (153, .istore_n 1, 154, []), (154, .iconst 0, 155, []), (155, .istore_n 2, 156, []), (156, .iload_n 2, 157, []), (157, .aload_n 0, 158, []), (158, .invokevirtual 93, 161, []), (161, .if_icmp .ge 29, 164, [190]), (164, .iload_n 1, 165, []), (165, .ifCond .eq 17, 168, [182]), (168, .aload_n 0, 169, []), (169, .getfield 49, 172, []), (172, .iload_n 2, 173, []), (173, .iaload, 174, []), (174, .iconst 1, 175, []), (175, .if_icmp .ne 7, 178, [182]), (178, .iconst 1, 179, []), (179, .goto 4, 182, [183]), (182, .iconst 0, 183, []), (183, .istore_n 1, 184, []), (184, .iinc 2 1, 187, []), (187, .goto (-31), 190, [156]), (190, .iload_n 1, 191, []), (191, .ireturn, 192, [])]
def mi_X9_isConnected : MI := (cd_X9_isConnected, [(13, 7, 3), (49, 7, 17)], [(93, 137, 0, 1, 0, 0, 7), (105, 141, 0, 2, 0, 0, 7), (108, 142, 0, 2, 0, 0, 7)], [], [], [], [], 0, 0, 1)
def cd_X9_keeps : List (Nat × ARow) := [(0, .iload_n 1, 1, []), (1, .tableswitch 60 0 3 #[31, 36, 50, 55], 32, [61, 32, 37, 51, 56]), (32, .aload_n 0, 33, []), (33, .invokevirtual 156, 36, []), (36, .ireturn, 37, []), (37, .aload_n 0, 38, []), (38, .iconst 0, 39, []), (39, .invokevirtual 122, 42, []), (42, .ifCond .ne 7, 45, [49]), (45, .iconst 1, 46, []), (46, .goto 4, 49, [50]), (49, .iconst 0, 50, []), (50, .ireturn, 51, []), (51, .aload_n 0, 52, []), (52, .invokevirtual 160, 55, []), (55, .ireturn, 56, []), (56, .aload_n 0, 57, []), (57, .invokevirtual 163, 60, []), (60, .ireturn, 61, []), (61, .aload_n 0, 62, []), (62, .invokevirtual 166, 65, []), (65, .ireturn, 66, [])]
def mi_X9_keeps : MI := (cd_X9_keeps, [], [(122, 150, 0, 2, 0, 0, 7), (156, 162, 0, 1, 0, 0, 7), (160, 163, 0, 1, 0, 0, 7), (163, 164, 0, 1, 0, 0, 7), (166, 165, 0, 1, 0, 0, 7)], [], [], [], [], 0, 0, 1)
def cd_X9_kept : List (Nat × ARow) := [(0, .iconst 0, 1, []), (1, .istore_n 1, 2, []), (2, .iconst 0, 3, []), (3, .istore_n 2, 4, []), (4, .iload_n 2, 5, []), (5, .iconst 5, 6, []), (6, .if_icmp .ge 25, 9, [31]), (9, .iload_n 1, 10, []), (10, .aload_n 0, 11, []), (11, .iload_n 2, 12, []), (12, .invokevirtual 169, 15, []), (15, .ifCond .eq 7, 18, [22]), (18, .iconst 1, 19, []), (19, .goto 4, 22, [23]), (22, .iconst 0, 23, []), (23, .iadd, 24, []), (24, .istore_n 1, 25, []), (25, .iinc 2 1, 28, []), (28, .goto (-24), 31, [4]), (31, .iload_n 1, 32, []), (32, .ireturn, 33, [])]
def mi_X9_kept : MI := (cd_X9_kept, [], [(169, 166, 0, 2, 0, 0, 7)], [], [], [], [], 0, 0, 0)
def cd_X9_isRule : List (Nat × ARow) := [(0, .iload_n 0, 1, []), (1, .ifCond .lt 12, 4, [13]), (4, .iload_n 0, 5, []), (5, .iconst 4, 6, []), (6, .if_icmp .gt 7, 9, [13]), (9, .iconst 1, 10, []), (10, .goto 4, 13, [14]), (13, .iconst 0, 14, []), (14, .ireturn, 15, [])]
def mi_X9_isRule : MI := (cd_X9_isRule, [], [], [], [], [], [], 0, 0, 1)
def cd_X9_rule : List (Nat × ARow) := [(0, .aload_n 0, 1, []), (1, .iload_n 1, 2, []), (2, .invokestatic 172, 5, []), (5, .ifCond .eq 7, 8, [12]), (8, .iconst 0, 9, []), (9, .goto 4, 12, [13]), (12, .iconst 1, 13, []), (13, .putfield 61, 16, []), (16, .aload_n 0, 17, []), (17, .getfield 61, 20, []), (20, .ifCond .ne 15, 23, [35]), (23, .aload_n 0, 24, []), (24, .iload_n 1, 25, []), (25, .invokevirtual 169, 28, []), (28, .ifCond .eq 7, 31, [35]), (31, .iconst 1, 32, []), (32, .goto 4, 35, [36]), (35, .iconst 0, 36, []), (36, .ireturn, 37, [])]
def mi_X9_rule : MI := (cd_X9_rule, [(61, 7, 0)], [(169, 166, 0, 2, 0, 0, 7), (172, 168, 1, 1, 0, 0, 0)], [], [], [], [], 0, 0, 1)
def cd_X9_isKnightStep : List (Nat × ARow) := [(0, .iload_n 1, 1, []), (1, .aload_n 0, 2, []), (2, .getfield 13, 5, []), (5, .iconst 1, 6, []), (6, .iaload, 7, []), (7, .idiv, 8, []), (8, .iload_n 2, 9, []), (9, .aload_n 0, 10, []), (10, .getfield 13, 13, []), (13, .iconst 1, 14, []), (14, .iaload, 15, []), (15, .idiv, 16, []), (16, .isub, 17, []), (17, .istore_n 3, 18, []), (18, .iload_n 1, 19, []), (19, .aload_n 0, 20, []), (20, .getfield 13, 23, []), (23, .iconst 1, 24, []), (24, .iaload, 25, []), (25, .irem, 26, []), (26, .iload_n 2, 27, []), (27, .aload_n 0, 28, []), (28, .getfield 13, 31, []), (31, .iconst 1, 32, []), (32, .iaload, 33, []), (33, .irem, 34, []), (34, .isub, 35, []), (35, .istore 4, 37, []), (37, .iload_n 3, 38, []), (38, .iload_n 3, 39, []), (39, .imul, 40, []), (40, .iload 4, 42, []), (42, .iload 4, 44, []), (44, .imul, 45, []), (45, .iadd, 46, []), (46, .iconst 5, 47, []), (47, .if_icmp .ne 7, 50, [54]), (50, .iconst 1, 51, []), (51, .goto 4, 54, [55]), (54, .iconst 0, 55, []), (55, .ireturn, 56, [])]
def mi_X9_isKnightStep : MI := (cd_X9_isKnightStep, [(13, 7, 3)], [], [], [], [], [], 0, 0, 1)
def cd_X9_canRead : List (Nat × ARow) := [(0, .aload_n 0, 1, []), (1, .getfield 13, 4, []), (4, .iconst 2, 5, []), (5, .iload_n 1, 6, []), (6, .iadd, 7, []), (7, .iaload, 8, []), (8, .istore 4, 10, []), (10, .aload_n 0, 11, []), (11, .iload_n 1, 12, []), (12, .invokevirtual 119, 15, []), (15, .iconst 1, 16, []), (16, .if_icmp .ne 31, 19, [47]), (19, .iload 4, 21, []), (21, .aload_n 0, 22, []), (22, .getfield 13, 25, []), (25, .sipush 168, 28, []), (28, .iload_n 2, 29, []), (29, .iadd, 30, []), (30, .iaload, 31, []), (31, .if_icmp .eq 12, 34, [43]), (34, .iload_n 3, 35, []), (35, .ifCond .eq 12, 38, [47]), (38, .iload 4, 40, []), (40, .ifCond .ne 7, 43, [47]), (43, .iconst 1, 44, []), (44, .goto 4, 47, [48]), (47, .iconst 0, 48, []), (48, .istore 5, 50, []), (50, .iload 5, 52, []), (52, .ifCond .eq 27, 55, [79]), (55, .iload_n 2, 56, []), (56, .ifCond .eq 19, 59, [75]), (59, .aload_n 0, 60, []), (60, .aload_n 0, 61, []), (61, .getfield 52, 64, []), (64, .iload_n 2, 65, []), (65, .iconst 1, 66, []), (66, .isub, 67, []), (67, .iaload, 68, []), (68, .iload_n 1, 69, []), (69, .invokevirtual 175, 72, []), (72, .ifCond .eq 7, 75, [79]), (75, .iconst 1, 76, []), (76, .goto 4, 79, [80]), (79, .iconst 0, 80, []), (80, .istore 5, 82, []), (82, .iconst 0, 83, []), (83, .istore 6, 85, []), (85, .iload 6, 87, []), (87, .iload_n 2, 88, []), (88, .if_icmp .ge 32, 91, [120]), (91, .iload 5, 93, []), (93, .ifCond .eq 27, 96, [120]), (96, .aload_n 0, 97, []), (97, .getfield 52, 100, []), (100, .iload 6, 102, []), (102, .iaload, 103, []), (103, .iload_n 1, 104, []), (104, .if_icmp .eq 7, 107, [111]), (107, .iconst 1, 108, []), (108, .goto 4, 111, [112]), (111, .iconst 0, 112, []), (112, .istore 5, 114, []), (114, .iinc 6 1, 117, []), (117, .goto (-32), 120, [85]), (120, .iload 5, 122, []), (122, .ireturn, 123, [])]
def mi_X9_canRead : MI := (cd_X9_canRead, [(13, 7, 3), (52, 7, 18)], [(119, 147, 0, 2, 0, 0, 7), (175, 170, 0, 3, 0, 0, 7)], [], [], [], [], 0, 0, 1)
def cd_X9_countReadings : List (Nat × ARow) := [(0, .iconst 0, 1, []), (1, .istore_n 3, 2, []), (2, .aload_n 0, 3, []), (3, .getfield 13, 6, []), (6, .sipush 167, 9, []), (9, .iaload, 10, []), (10, .ifCond .ne 7, 13, [17]), (13, .iconst (-1), 14, []), (14, .goto 4, 17, [18]), (17, .iconst 0, 18, []), (18, .istore 4, 20, []), (20, .aload_n 0, 21, []), (21, .getfield 52, 24, []), (24, .iconst 0, 25, []), (25, .iconst (-1), 26, []), (26, .iastore, 27, []), (27, .iload 4, 29, []), (29, .ifCond .lt 139, 32, [168]), (32, .iload_n 3, 33, []), (33, .iload_n 2, 34, []), (34, .if_icmp .ge 134, 37, [168]), (37, .aload_n 0, 38, []), (38, .getfield 52, 41, []), (41, .iload 4, 43, []), (43, .iaload, 44, []), (44, .iconst 1, 45, []), (45, .iadd, 46, []), (46, .istore 5, 48, []), (48, .iload 5, 50, []), (50, .aload_n 0, 51, []), (51, .invokevirtual 93, 54, []), (54, .if_icmp .ge 21, 57, [75]), (57, .aload_n 0, 58, []), (58, .iload 5, 60, []), (60, .iload 4, 62, []), (62, .iload_n 1, 63, []), (63, .invokevirtual 178, 66, []), (66, .ifCond .ne 9, 69, [75]), (69, .iinc 5 1, 72, []), (72, .goto (-24), 75, [48]), (75, .aload_n 0, 76, []), (76, .getfield 52, 79, []), (79, .iload 4, 81, []), (81, .iload 5, 83, []), (83, .iastore, 84, []), (84, .iload 5, 86, []), (86, .aload_n 0, 87, []), (87, .invokevirtual 93, 90, []), (90, .if_icmp .ne 9, 93, [99]), (93, .iinc 4 (-1), 96, []), (96, .goto 69, 99, [165]), (99, .iload 4, 101, []), (101, .iconst 1, 102, []), (102, .iadd, 103, []), (103, .aload_n 0, 104, []), (104, .getfield 13, 107, []), (107, .sipush 167, 110, []), (110, .iaload, 111, []), (111, .if_icmp .ne 43, 114, [154]), (114, .iconst 0, 115, []), (115, .istore 6, 117, []), (117, .iload 6, 119, []), (119, .iload 4, 121, []), (121, .if_icmp .gt 27, 124, [148]), (124, .iload_n 3, 125, []), (125, .ifCond .ne 23, 128, [148]), (128, .aload_n 0, 129, []), (129, .getfield 55, 132, []), (132, .iload 6, 134, []), (134, .aload_n 0, 135, []), (135, .getfield 52, 138, []), (138, .iload 6, 140, []), (140, .iaload, 141, []), (141, .iastore, 142, []), (142, .iinc 6 1, 145, []), (145, .goto (-28), 148, [117]), (148, .iinc 3 1, 151, []), (151, .goto 14, 154, [165]), (154, .iinc 4 1, 157, []), (157, .aload_n 0, 158, []), (158, .getfield 52, 161, []), (161, .iload 4, 163, []), (163, .iconst (-1), 164, []), (164, .iastore, 165, []), (165, .goto (-138), 168, [27]), (168, .iload_n 3, 169, []), (169, .ireturn, 170, [])]
def mi_X9_countReadings : MI := (cd_X9_countReadings, [(13, 7, 3), (52, 7, 18), (55, 7, 19)], [(93, 137, 0, 1, 0, 0, 7), (178, 171, 0, 4, 0, 0, 7)], [], [], [], [], 0, 0, 0)
def cd_X9_readings : List (Nat × ARow) := [(0, .aload_n 0, 1, []), (1, .iconst 0, 2, []), (2, .putfield 61, 5, []), (5, .aload_n 0, 6, []), (6, .iconst 0, 7, []), (7, .ldc 182, 9, []), (9, .invokevirtual 183, 12, []), (12, .ireturn, 13, [])]
def mi_X9_readings : MI := (cd_X9_readings, [(61, 7, 0)], [(183, 172, 0, 3, 0, 0, 7)], [], [], [], [(182, 10000000)], 0, 0, 0)
def cd_X9_reading : List (Nat × ARow) := [(0, .aload_n 0, 1, []), (1, .iload_n 1, 2, []), (2, .ifCond .ge 7, 5, [9]), (5, .iconst 1, 6, []), (6, .goto 4, 9, [10]), (9, .iconst 0, 10, []), (10, .putfield 61, 13, []), (13, .aload_n 0, 14, []), (14, .getfield 61, 17, []), (17, .ifCond .le 5, 20, [22]), (20, .iconst 0, 21, []), (21, .ireturn, 22, []), (22, .aload_n 0, 23, []), (23, .iconst 0, 24, []), (24, .iconst 1, 25, []), (25, .invokevirtual 183, 28, []), (28, .ifCond .eq 15, 31, [43]), (31, .iload_n 1, 32, []), (32, .aload_n 0, 33, []), (33, .getfield 13, 36, []), (36, .sipush 167, 39, []), (39, .iaload, 40, []), (40, .if_icmp .lt 8, 43, [48]), (43, .bipush (-9), 45, []), (45, .goto 9, 48, [54]), (48, .aload_n 0, 49, []), (49, .getfield 55, 52, []), (52, .iload_n 1, 53, []), (53, .iaload, 54, []), (54, .ireturn, 55, [])]
def mi_X9_reading : MI := (cd_X9_reading, [(13, 7, 3), (55, 7, 19), (61, 7, 0)], [(183, 172, 0, 3, 0, 0, 7)], [], [], [], [], 0, 0, 0)
def cd_X9_remember : List (Nat × ARow) := [(0, .aload_n 0, 1, []), (1, .getfield 90, 4, []), (4, .bipush 14, 6, []), (6, .if_icmp .ne 44, 9, [50]), (9, .iconst 0, 10, []), (10, .istore_n 1, 11, []), (11, .iload_n 1, 12, []), (12, .sipush 2262, 15, []), (15, .if_icmp .ge 25, 18, [40]), (18, .aload_n 0, 19, []), (19, .getfield 22, 22, []), (22, .iload_n 1, 23, []), (23, .aload_n 0, 24, []), (24, .getfield 22, 27, []), (27, .iload_n 1, 28, []), (28, .sipush 174, 31, []), (31, .iadd, 32, []), (32, .iaload, 33, []), (33, .iastore, 34, []), (34, .iinc 1 1, 37, []), (37, .goto (-26), 40, [11]), (40, .aload_n 0, 41, []), (41, .dup, 42, []), (42, .getfield 90, 45, []), (45, .iconst 1, 46, []), (46, .isub, 47, []), (47, .putfield 90, 50, []), (50, .aload_n 0, 51, []), (51, .getfield 13, 54, []), (54, .iconst 0, 55, []), (55, .aload_n 0, 56, []), (56, .getfield 22, 59, []), (59, .aload_n 0, 60, []), (60, .getfield 90, 63, []), (63, .sipush 174, 66, []), (66, .imul, 67, []), (67, .invokestatic 86, 70, []), (70, .aload_n 0, 71, []), (71, .dup, 72, []), (72, .getfield 90, 75, []), (75, .iconst 1, 76, []), (76, .iadd, 77, []), (77, .putfield 90, 80, []), (80, .return_, 81, [])]
def mi_X9_remember : MI := (cd_X9_remember, [(13, 7, 3), (22, 7, 6), (90, 7, 7)], [(86, 127, 1, 4, 0, 0, 0)], [], [], [], [], 0, 0, 0)
def cd_X9_isWritable : List (Nat × ARow) := [(0, .iload_n 0, 1, []), (1, .ifCond .eq 10, 4, [11]), (4, .iload_n 0, 5, []), (5, .invokestatic 76, 8, []), (8, .ifCond .eq 7, 11, [15]), (11, .iconst 1, 12, []), (12, .goto 4, 15, [16]), (15, .iconst 0, 16, []), (16, .ireturn, 17, [])]
def mi_X9_isWritable : MI := (cd_X9_isWritable, [], [(76, 131, 1, 1, 0, 0, 0)], [], [], [], [], 0, 0, 1)
def cd_X9_put : List (Nat × ARow) := [(0, .aload_n 0, 1, []), (1, .aload_n 0, 2, []), (2, .iload_n 1, 3, []), (3, .invokevirtual 128, 6, []), (6, .ifCond .ne 7, 9, [13]), (9, .iconst 1, 10, []), (10, .goto 15, 13, [25]), (13, .iload_n 2, 14, []), (14, .invokestatic 187, 17, []), (17, .ifCond .eq 7, 20, [24]), (20, .iconst 0, 21, []), (21, .goto 4, 24, [25]), (24, .iconst 2, 25, []), (25, .putfield 61, 28, []), (28, .aload_n 0, 29, []), (29, .getfield 61, 32, []), (32, .ifCond .le 5, 35, [37]), (35, .iconst 0, 36, []), (36, .ireturn, 37, []), (37, .aload_n 0, 38, []), (38, .invokevirtual 190, 41, []), (41, .aload_n 0, 42, []), (42, .getfield 13, 45, []), (45, .iconst 2, 46, []), (46, .iload_n 1, 47, []), (47, .iadd, 48, []), (48, .iaload, 49, []), (49, .istore_n 3, 50, []), (50, .aload_n 0, 51, []), (51, .getfield 13, 54, []), (54, .iconst 2, 55, []), (55, .iload_n 1, 56, []), (56, .iadd, 57, []), (57, .iload_n 2, 58, []), (58, .iastore, 59, []), (59, .iload_n 3, 60, []), (60, .ireturn, 61, [])]
def mi_X9_put : MI := (cd_X9_put, [(13, 7, 3), (61, 7, 0)], [(128, 138, 0, 2, 0, 0, 7), (187, 176, 1, 1, 0, 0, 0), (190, 175, 0, 1, 0, 0, 7)], [], [], [], [], 0, 0, 0)
def cd_X9_isRim : List (Nat × ARow) := [(0, .iload_n 2, 1, []), (1, .ifCond .eq 11, 4, [12]), (4, .aload_n 0, 5, []), (5, .iload_n 1, 6, []), (6, .invokevirtual 99, 9, []), (9, .goto 8, 12, [17]), (12, .aload_n 0, 13, []), (13, .iload_n 1, 14, []), (14, .invokevirtual 96, 17, []), (17, .ireturn, 18, [])]
def mi_X9_isRim : MI := (cd_X9_isRim, [], [(96, 139, 0, 2, 0, 0, 7), (99, 140, 0, 2, 0, 0, 7)], [], [], [], [], 0, 0, 1)
def cd_X9_bar : List (Nat × ARow) := [(0, .aload_n 0, 1, []), (1, .getfield 13, 4, []), (4, .iload_n 2, 5, []), (5, .ifCond .eq 8, 8, [13]), (8, .bipush 74, 10, []), (10, .goto 5, 13, [15]), (13, .bipush 38, 15, []), (15, .iload_n 1, 16, []), (16, .iadd, 17, []), (17, .iload_n 3, 18, []), (18, .iastore, 19, []), (19, .aload_n 0, 20, []), (20, .invokevirtual 58, 23, []), (23, .return_, 24, [])]
def mi_X9_bar : MI := (cd_X9_bar, [(13, 7, 3)], [(58, 143, 0, 1, 0, 0, 7)], [], [], [], [], 0, 0, 0)
def cd_X9_setBar : List (Nat × ARow) := [(0, .aload_n 0, 1, []), (1, .aload_n 0, 2, []), (2, .iload_n 1, 3, []), (3, .invokevirtual 128, 6, []), (6, .ifCond .ne 7, 9, [13]), (9, .iconst 1, 10, []), (10, .goto 17, 13, [27]), (13, .aload_n 0, 14, []), (14, .iload_n 1, 15, []), (15, .iload_n 2, 16, []), (16, .invokevirtual 193, 19, []), (19, .ifCond .eq 7, 22, [26]), (22, .iconst 2, 23, []), (23, .goto 4, 26, [27]), (26, .iconst 0, 27, []), (27, .putfield 61, 30, []), (30, .aload_n 0, 31, []), (31, .getfield 61, 34, []), (34, .ifCond .le 5, 37, [39]), (37, .iconst 0, 38, []), (38, .ireturn, 39, []), (39, .aload_n 0, 40, []), (40, .invokevirtual 190, 43, []), (43, .aload_n 0, 44, []), (44, .iload_n 1, 45, []), (45, .iload_n 2, 46, []), (46, .iload_n 3, 47, []), (47, .ifCond .eq 7, 50, [54]), (50, .iconst 1, 51, []), (51, .goto 4, 54, [55]), (54, .iconst 0, 55, []), (55, .invokevirtual 197, 58, []), (58, .aload_n 0, 59, []), (59, .getfield 102, 62, []), (62, .ireturn, 63, [])]
def mi_X9_setBar : MI := (cd_X9_setBar, [(61, 7, 0), (102, 7, 10)], [(128, 138, 0, 2, 0, 0, 7), (190, 175, 0, 1, 0, 0, 7), (193, 178, 0, 3, 0, 0, 7), (197, 179, 0, 4, 0, 0, 7)], [], [], [], [], 0, 0, 0)
def cd_X9_isLetters : List (Nat × ARow) := [(0, .aload_n 0, 1, []), (1, .getfield 65, 4, []), (4, .iload_n 1, 5, []), (5, .if_icmp .lt 16, 8, [21]), (8, .aload_n 0, 9, []), (9, .getfield 65, 12, []), (12, .bipush 6, 14, []), (14, .if_icmp .gt 7, 17, [21]), (17, .iconst 1, 18, []), (18, .goto 4, 21, [22]), (21, .iconst 0, 22, []), (22, .istore_n 2, 23, []), (23, .iconst 0, 24, []), (24, .istore_n 3, 25, []), (25, .iload_n 3, 26, []), (26, .aload_n 0, 27, []), (27, .getfield 65, 30, []), (30, .if_icmp .ge 31, 33, [61]), (33, .iload_n 2, 34, []), (34, .ifCond .eq 19, 37, [53]), (37, .aload_n 0, 38, []), (38, .getfield 7, 41, []), (41, .iload_n 3, 42, []), (42, .iaload, 43, []), (43, .invokestatic 76, 46, []), (46, .ifCond .eq 7, 49, [53]), (49, .iconst 1, 50, []), (50, .goto 4, 53, [54]), (53, .iconst 0, 54, []), (54, .istore_n 2, 55, []), (55, .iinc 3 1, 58, []), (58, .goto (-33), 61, [25]), (61, .iload_n 2, 62, []), (62, .ireturn, 63, [])]
def mi_X9_isLetters : MI := (cd_X9_isLetters, [(7, 7, 1), (65, 7, 2)], [(76, 131, 1, 1, 0, 0, 0)], [], [], [], [], 0, 0, 1)
def cd_X9_addWord : List (Nat × ARow) := [(0, .aload_n 0, 1, []), (1, .aload_n 0, 2, []), (2, .iconst 2, 3, []), (3, .invokevirtual 201, 6, []), (6, .ifCond .eq 19, 9, [25]), (9, .aload_n 0, 10, []), (10, .getfield 13, 13, []), (13, .bipush 110, 15, []), (15, .iaload, 16, []), (16, .bipush 8, 18, []), (18, .if_icmp .ge 7, 21, [25]), (21, .iconst 0, 22, []), (22, .goto 4, 25, [26]), (25, .iconst 1, 26, []), (26, .putfield 61, 29, []), (29, .aload_n 0, 30, []), (30, .getfield 61, 33, []), (33, .ifCond .le 5, 36, [38]), (36, .iconst 0, 37, []), (37, .ireturn, 38, []), (38, .aload_n 0, 39, []), (39, .invokevirtual 190, 42, []), (42, .aload_n 0, 43, []), (43, .getfield 13, 46, []), (46, .bipush 110, 48, []), (48, .iaload, 49, []), (49, .istore_n 1, 50, []), (50, .iconst 0, 51, []), (51, .istore_n 2, 52, []), (52, .iload_n 2, 53, []), (53, .aload_n 0, 54, []), (54, .getfield 65, 57, []), (57, .if_icmp .ge 29, 60, [86]), (60, .aload_n 0, 61, []), (61, .getfield 13, 64, []), (64, .bipush 119, 66, []), (66, .bipush 6, 68, []), (68, .iload_n 1, 69, []), (69, .imul, 70, []), (70, .iadd, 71, []), (71, .iload_n 2, 72, []), (72, .iadd, 73, []), (73, .aload_n 0, 74, []), (74, .getfield 7, 77, []), (77, .iload_n 2, 78, []), (78, .iaload, 79, []), (79, .iastore, 80, []), (80, .iinc 2 1, 83, []), (83, .goto (-31), 86, [52]), (86, .aload_n 0, 87, []), (87, .getfield 13, 90, []), (90, .bipush 111, 92, []), (92, .iload_n 1, 93, []), (93, .iadd, 94, []), (94, .aload_n 0, 95, []), (95, .getfield 65, 98, []), (98, .iastore, 99, []), (99, .aload_n 0, 100, []), (100, .getfield 13, 103, []), (103, .bipush 110, 105, []), (105, .dup2, 106, []), (106, .iaload, 107, []), (107, .iconst 1, 108, []), (108, .iadd, 109, []), (109, .iastore, 110, []), (110, .iload_n 1, 111, []), (111, .ireturn, 112, [])]
def mi_X9_addWord : MI := (cd_X9_addWord, [(7, 7, 1), (13, 7, 3), (61, 7, 0), (65, 7, 2)], [(190, 175, 0, 1, 0, 0, 7), (201, 181, 0, 2, 0, 0, 7)], [], [], [], [], 0, 0, 0)
def cd_X9_setLine : List (Nat × ARow) := [(0, .aload_n 0, 1, []), (1, .aload_n 0, 2, []), (2, .iconst 1, 3, []), (3, .invokevirtual 201, 6, []), (6, .ifCond .eq 7, 9, [13]), (9, .iconst 0, 10, []), (10, .goto 4, 13, [14]), (13, .iconst 1, 14, []), (14, .putfield 61, 17, []), (17, .aload_n 0, 18, []), (18, .getfield 61, 21, []), (21, .ifCond .le 5, 24, [26]), (24, .iconst 0, 25, []), (25, .ireturn, 26, []), (26, .aload_n 0, 27, []), (27, .invokevirtual 190, 30, []), (30, .iconst 0, 31, []), (31, .istore_n 1, 32, []), (32, .iload_n 1, 33, []), (33, .aload_n 0, 34, []), (34, .getfield 65, 37, []), (37, .if_icmp .ge 25, 40, [62]), (40, .aload_n 0, 41, []), (41, .getfield 13, 44, []), (44, .sipush 168, 47, []), (47, .iload_n 1, 48, []), (48, .iadd, 49, []), (49, .aload_n 0, 50, []), (50, .getfield 7, 53, []), (53, .iload_n 1, 54, []), (54, .iaload, 55, []), (55, .iastore, 56, []), (56, .iinc 1 1, 59, []), (59, .goto (-27), 62, [32]), (62, .aload_n 0, 63, []), (63, .getfield 13, 66, []), (66, .sipush 167, 69, []), (69, .aload_n 0, 70, []), (70, .getfield 65, 73, []), (73, .iastore, 74, []), (74, .aload_n 0, 75, []), (75, .getfield 65, 78, []), (78, .ireturn, 79, [])]
def mi_X9_setLine : MI := (cd_X9_setLine, [(7, 7, 1), (13, 7, 3), (61, 7, 0), (65, 7, 2)], [(190, 175, 0, 1, 0, 0, 7), (201, 181, 0, 2, 0, 0, 7)], [], [], [], [], 0, 0, 0)
def cd_X9_writeWord : List (Nat × ARow) := [(0, .iconst 0, 1, []), (1, .istore_n 3, 2, []), (2, .iload_n 3, 3, []), (3, .aload_n 0, 4, []), (4, .getfield 37, 7, []), (7, .iload_n 1, 8, []), (8, .iaload, 9, []), (9, .if_icmp .ge 28, 12, [37]), (12, .aload_n 0, 13, []), (13, .getfield 13, 16, []), (16, .iconst 2, 17, []), (17, .aload_n 0, 18, []), (18, .iload_n 1, 19, []), (19, .iload_n 3, 20, []), (20, .invokevirtual 115, 23, []), (23, .iadd, 24, []), (24, .aload_n 0, 25, []), (25, .iload_n 2, 26, []), (26, .iload_n 3, 27, []), (27, .invokevirtual 150, 30, []), (30, .iastore, 31, []), (31, .iinc 3 1, 34, []), (34, .goto (-32), 37, [2]), (37, .return_, 38, [])]
def mi_X9_writeWord : MI := (cd_X9_writeWord, [(13, 7, 3), (37, 7, 13)], [(115, 146, 0, 3, 0, 0, 7), (150, 157, 0, 3, 0, 0, 7)], [], [], [], [], 0, 0, 0)
def cd_X9_write : List (Nat × ARow) := [(0, .aload_n 0, 1, []), (1, .aload_n 0, 2, []), (2, .iload_n 1, 3, []), (3, .invokevirtual 131, 6, []), (6, .ifCond .eq 11, 9, [17]), (9, .aload_n 0, 10, []), (10, .iload_n 2, 11, []), (11, .invokevirtual 147, 14, []), (14, .ifCond .ne 7, 17, [21]), (17, .iconst 1, 18, []), (18, .goto 17, 21, [35]), (21, .aload_n 0, 22, []), (22, .iload_n 1, 23, []), (23, .iload_n 2, 24, []), (24, .invokevirtual 143, 27, []), (27, .ifCond .eq 7, 30, [34]), (30, .iconst 0, 31, []), (31, .goto 4, 34, [35]), (34, .iconst 2, 35, []), (35, .putfield 61, 38, []), (38, .aload_n 0, 39, []), (39, .getfield 61, 42, []), (42, .ifCond .le 5, 45, [47]), (45, .iconst 0, 46, []), (46, .ireturn, 47, []), (47, .aload_n 0, 48, []), (48, .invokevirtual 190, 51, []), (51, .aload_n 0, 52, []), (52, .iload_n 1, 53, []), (53, .invokevirtual 137, 56, []), (56, .istore_n 3, 57, []), (57, .aload_n 0, 58, []), (58, .iload_n 1, 59, []), (59, .iload_n 2, 60, []), (60, .invokevirtual 204, 63, []), (63, .iload_n 3, 64, []), (64, .ireturn, 65, [])]
def mi_X9_write : MI := (cd_X9_write, [(61, 7, 0)], [(131, 145, 0, 2, 0, 0, 7), (137, 149, 0, 2, 0, 0, 7), (143, 159, 0, 3, 0, 0, 7), (147, 156, 0, 2, 0, 0, 7), (190, 175, 0, 1, 0, 0, 7), (204, 184, 0, 3, 0, 0, 7)], [], [], [], [], 0, 0, 0)
def cd_X9_eraseEntry : List (Nat × ARow) := [(0, .iconst 0, 1, []), (1, .istore_n 2, 2, []), (2, .iconst 0, 3, []), (3, .istore_n 3, 4, []), (4, .iload_n 3, 5, []), (5, .aload_n 0, 6, []), (6, .getfield 37, 9, []), (9, .iload_n 1, 10, []), (10, .iaload, 11, []), (11, .if_icmp .ge 99, 14, [110]), (14, .aload_n 0, 15, []), (15, .iload_n 1, 16, []), (16, .iload_n 3, 17, []), (17, .invokevirtual 115, 20, []), (20, .istore 4, 22, []), (22, .aload_n 0, 23, []), (23, .getfield 34, 26, []), (26, .iload_n 1, 27, []), (27, .iaload, 28, []), (28, .iconst 1, 29, []), (29, .if_icmp .ne 13, 32, [42]), (32, .aload_n 0, 33, []), (33, .getfield 40, 36, []), (36, .iload 4, 38, []), (38, .iaload, 39, []), (39, .goto 10, 42, [49]), (42, .aload_n 0, 43, []), (43, .getfield 43, 46, []), (46, .iload 4, 48, []), (48, .iaload, 49, []), (49, .istore 5, 51, []), (51, .aload_n 0, 52, []), (52, .getfield 13, 55, []), (55, .iconst 2, 56, []), (56, .iload 4, 58, []), (58, .iadd, 59, []), (59, .iaload, 60, []), (60, .ifCond .eq 23, 63, [83]), (63, .iload 5, 65, []), (65, .bipush (-9), 67, []), (67, .if_icmp .eq 12, 70, [79]), (70, .aload_n 0, 71, []), (71, .iload 5, 73, []), (73, .invokevirtual 137, 76, []), (76, .ifCond .le 7, 79, [83]), (79, .iconst 1, 80, []), (80, .goto 4, 83, [84]), (83, .iconst 0, 84, []), (84, .istore 6, 86, []), (86, .iload 6, 88, []), (88, .ifCond .eq 16, 91, [104]), (91, .aload_n 0, 92, []), (92, .getfield 13, 95, []), (95, .iconst 2, 96, []), (96, .iload 4, 98, []), (98, .iadd, 99, []), (99, .iconst 0, 100, []), (100, .iastore, 101, []), (101, .iinc 2 1, 104, []), (104, .iinc 3 1, 107, []), (107, .goto (-103), 110, [4]), (110, .iload_n 2, 111, []), (111, .ireturn, 112, [])]
def mi_X9_eraseEntry : MI := (cd_X9_eraseEntry, [(13, 7, 3), (34, 7, 12), (37, 7, 13), (40, 7, 14), (43, 7, 15)], [(115, 146, 0, 3, 0, 0, 7), (137, 149, 0, 2, 0, 0, 7)], [], [], [], [], 0, 0, 0)
def cd_X9_erase : List (Nat × ARow) := [(0, .aload_n 0, 1, []), (1, .aload_n 0, 2, []), (2, .iload_n 1, 3, []), (3, .invokevirtual 131, 6, []), (6, .ifCond .eq 7, 9, [13]), (9, .iconst 0, 10, []), (10, .goto 4, 13, [14]), (13, .iconst 1, 14, []), (14, .putfield 61, 17, []), (17, .aload_n 0, 18, []), (18, .getfield 61, 21, []), (21, .ifCond .le 5, 24, [26]), (24, .iconst 0, 25, []), (25, .ireturn, 26, []), (26, .aload_n 0, 27, []), (27, .invokevirtual 190, 30, []), (30, .aload_n 0, 31, []), (31, .iload_n 1, 32, []), (32, .invokevirtual 208, 35, []), (35, .ireturn, 36, [])]
def mi_X9_erase : MI := (cd_X9_erase, [(61, 7, 0)], [(131, 145, 0, 2, 0, 0, 7), (190, 175, 0, 1, 0, 0, 7), (208, 186, 0, 2, 0, 0, 7)], [], [], [], [], 0, 0, 0)
def cd_X9_undo : List (Nat × ARow) := [(0, .aload_n 0, 1, []), (1, .aload_n 0, 2, []), (2, .getfield 90, 5, []), (5, .ifCond .le 7, 8, [12]), (8, .iconst 0, 9, []), (9, .goto 4, 12, [13]), (12, .iconst 1, 13, []), (13, .putfield 61, 16, []), (16, .aload_n 0, 17, []), (17, .getfield 61, 20, []), (20, .ifCond .le 5, 23, [25]), (23, .iconst 0, 24, []), (24, .ireturn, 25, []), (25, .aload_n 0, 26, []), (26, .dup, 27, []), (27, .getfield 90, 30, []), (30, .iconst 1, 31, []), (31, .isub, 32, []), (32, .putfield 90, 35, []), (35, .aload_n 0, 36, []), (36, .getfield 22, 39, []), (39, .aload_n 0, 40, []), (40, .getfield 90, 43, []), (43, .sipush 174, 46, []), (46, .imul, 47, []), (47, .aload_n 0, 48, []), (48, .getfield 13, 51, []), (51, .iconst 0, 52, []), (52, .invokestatic 86, 55, []), (55, .aload_n 0, 56, []), (56, .invokevirtual 58, 59, []), (59, .aload_n 0, 60, []), (60, .getfield 90, 63, []), (63, .ireturn, 64, [])]
def mi_X9_undo : MI := (cd_X9_undo, [(13, 7, 3), (22, 7, 6), (61, 7, 0), (90, 7, 7)], [(58, 143, 0, 1, 0, 0, 7), (86, 127, 1, 4, 0, 0, 0)], [], [], [], [], 0, 0, 0)
def cd_X9_possible : List (Nat × ARow) := [(0, .aload_n 0, 1, []), (1, .iconst 0, 2, []), (2, .putfield 61, 5, []), (5, .aload_n 0, 6, []), (6, .iconst 1, 7, []), (7, .sipush 9999, 10, []), (10, .invokevirtual 183, 13, []), (13, .ireturn, 14, [])]
def mi_X9_possible : MI := (cd_X9_possible, [(61, 7, 0)], [(183, 172, 0, 3, 0, 0, 7)], [], [], [], [], 0, 0, 0)
def cd_X9_canFill : List (Nat × ARow) := [(0, .aload_n 0, 1, []), (1, .iload_n 1, 2, []), (2, .iload_n 2, 3, []), (3, .invokevirtual 143, 6, []), (6, .istore_n 3, 7, []), (7, .iconst 0, 8, []), (8, .istore 4, 10, []), (10, .iload 4, 12, []), (12, .iload_n 1, 13, []), (13, .if_icmp .ge 30, 16, [43]), (16, .iload_n 3, 17, []), (17, .ifCond .eq 26, 20, [43]), (20, .aload_n 0, 21, []), (21, .getfield 52, 24, []), (24, .iload 4, 26, []), (26, .iaload, 27, []), (27, .iload_n 2, 28, []), (28, .if_icmp .eq 7, 31, [35]), (31, .iconst 1, 32, []), (32, .goto 4, 35, [36]), (35, .iconst 0, 36, []), (36, .istore_n 3, 37, []), (37, .iinc 4 1, 40, []), (40, .goto (-30), 43, [10]), (43, .iconst 0, 44, []), (44, .istore 4, 46, []), (46, .iload 4, 48, []), (48, .aload_n 0, 49, []), (49, .getfield 37, 52, []), (52, .iload_n 1, 53, []), (53, .iaload, 54, []), (54, .if_icmp .ge 127, 57, [181]), (57, .iload_n 3, 58, []), (58, .ifCond .eq 123, 61, [181]), (61, .aload_n 0, 62, []), (62, .iload_n 1, 63, []), (63, .iload 4, 65, []), (65, .invokevirtual 115, 68, []), (68, .istore 5, 70, []), (70, .aload_n 0, 71, []), (71, .getfield 34, 74, []), (74, .iload_n 1, 75, []), (75, .iaload, 76, []), (76, .iconst 1, 77, []), (77, .if_icmp .ne 13, 80, [90]), (80, .aload_n 0, 81, []), (81, .getfield 40, 84, []), (84, .iload 5, 86, []), (86, .iaload, 87, []), (87, .goto 10, 90, [97]), (90, .aload_n 0, 91, []), (91, .getfield 43, 94, []), (94, .iload 5, 96, []), (96, .iaload, 97, []), (97, .istore 6, 99, []), (99, .iload 6, 101, []), (101, .bipush (-9), 103, []), (103, .if_icmp .eq 72, 106, [175]), (106, .iload 6, 108, []), (108, .iload_n 1, 109, []), (109, .if_icmp .ge 66, 112, [175]), (112, .aload_n 0, 113, []), (113, .getfield 34, 116, []), (116, .iload 6, 118, []), (118, .iaload, 119, []), (119, .iconst 1, 120, []), (120, .if_icmp .ne 12, 123, [132]), (123, .aload_n 0, 124, []), (124, .getfield 13, 127, []), (127, .iconst 1, 128, []), (128, .iaload, 129, []), (129, .goto 4, 132, [133]), (132, .iconst 1, 133, []), (133, .istore 7, 135, []), (135, .aload_n 0, 136, []), (136, .aload_n 0, 137, []), (137, .getfield 52, 140, []), (140, .iload 6, 142, []), (142, .iaload, 143, []), (143, .iload 5, 145, []), (145, .aload_n 0, 146, []), (146, .getfield 31, 149, []), (149, .iload 6, 151, []), (151, .iaload, 152, []), (152, .isub, 153, []), (153, .iload 7, 155, []), (155, .idiv, 156, []), (156, .invokevirtual 150, 159, []), (159, .aload_n 0, 160, []), (160, .iload_n 2, 161, []), (161, .iload 4, 163, []), (163, .invokevirtual 150, 166, []), (166, .if_icmp .ne 7, 169, [173]), (169, .iconst 1, 170, []), (170, .goto 4, 173, [174]), (173, .iconst 0, 174, []), (174, .istore_n 3, 175, []), (175, .iinc 4 1, 178, []), (178, .goto (-132), 181, [46]), (181, .iload_n 3, 182, []), (182, .ireturn, 183, [])]
def mi_X9_canFill : MI := (cd_X9_canFill, [(13, 7, 3), (31, 7, 11), (34, 7, 12), (37, 7, 13), (40, 7, 14), (43, 7, 15), (52, 7, 18)], [(115, 146, 0, 3, 0, 0, 7), (143, 159, 0, 3, 0, 0, 7), (150, 157, 0, 3, 0, 0, 7)], [], [], [], [], 0, 0, 1)
def cd_X9_fillings : List (Nat × ARow) := [(0, .aload_n 0, 1, []), (1, .iconst 0, 2, []), (2, .putfield 61, 5, []), (5, .aload_n 0, 6, []), (6, .getfield 102, 9, []), (9, .ifCond .eq 17, 12, [26]), (12, .aload_n 0, 13, []), (13, .getfield 102, 16, []), (16, .aload_n 0, 17, []), (17, .getfield 13, 20, []), (20, .bipush 110, 22, []), (22, .iaload, 23, []), (23, .if_icmp .le 16, 26, [39]), (26, .aload_n 0, 27, []), (27, .getfield 102, 30, []), (30, .ifCond .ne 7, 33, [37]), (33, .iconst 1, 34, []), (34, .goto 4, 37, [38]), (37, .iconst 0, 38, []), (38, .ireturn, 39, []), (39, .iconst 0, 40, []), (40, .istore_n 1, 41, []), (41, .iconst 0, 42, []), (42, .istore_n 2, 43, []), (43, .aload_n 0, 44, []), (44, .getfield 52, 47, []), (47, .iconst 0, 48, []), (48, .iconst (-1), 49, []), (49, .iastore, 50, []), (50, .iload_n 2, 51, []), (51, .ifCond .lt 91, 54, [142]), (54, .aload_n 0, 55, []), (55, .getfield 52, 58, []), (58, .iload_n 2, 59, []), (59, .iaload, 60, []), (60, .iconst 1, 61, []), (61, .iadd, 62, []), (62, .istore_n 3, 63, []), (63, .iload_n 3, 64, []), (64, .aload_n 0, 65, []), (65, .getfield 13, 68, []), (68, .bipush 110, 70, []), (70, .iaload, 71, []), (71, .if_icmp .ge 18, 74, [89]), (74, .aload_n 0, 75, []), (75, .iload_n 2, 76, []), (76, .iload_n 3, 77, []), (77, .invokevirtual 211, 80, []), (80, .ifCond .ne 9, 83, [89]), (83, .iinc 3 1, 86, []), (86, .goto (-23), 89, [63]), (89, .aload_n 0, 90, []), (90, .getfield 52, 93, []), (93, .iload_n 2, 94, []), (94, .iload_n 3, 95, []), (95, .iastore, 96, []), (96, .iload_n 3, 97, []), (97, .aload_n 0, 98, []), (98, .getfield 13, 101, []), (101, .bipush 110, 103, []), (103, .iaload, 104, []), (104, .if_icmp .ne 9, 107, [113]), (107, .iinc 2 (-1), 110, []), (110, .goto 29, 113, [139]), (113, .iload_n 2, 114, []), (114, .iconst 1, 115, []), (115, .iadd, 116, []), (116, .aload_n 0, 117, []), (117, .getfield 102, 120, []), (120, .if_icmp .ne 9, 123, [129]), (123, .iinc 1 1, 126, []), (126, .goto 13, 129, [139]), (129, .iinc 2 1, 132, []), (132, .aload_n 0, 133, []), (133, .getfield 52, 136, []), (136, .iload_n 2, 137, []), (137, .iconst (-1), 138, []), (138, .iastore, 139, []), (139, .goto (-89), 142, [50]), (142, .iload_n 1, 143, []), (143, .ireturn, 144, [])]
def mi_X9_fillings : MI := (cd_X9_fillings, [(13, 7, 3), (52, 7, 18), (61, 7, 0), (102, 7, 10)], [(211, 190, 0, 3, 0, 0, 7)], [], [], [], [], 0, 0, 0)
def cd_X9_change : List (Nat × ARow) := [(0, .aload_n 0, 1, []), (1, .iload_n 1, 2, []), (2, .iload_n 2, 3, []), (3, .iconst 1, 4, []), (4, .aload_n 0, 5, []), (5, .getfield 13, 8, []), (8, .iload_n 2, 9, []), (9, .ifCond .eq 8, 12, [17]), (12, .bipush 74, 14, []), (14, .goto 5, 17, [19]), (17, .bipush 38, 19, []), (19, .iload_n 1, 20, []), (20, .iadd, 21, []), (21, .iaload, 22, []), (22, .isub, 23, []), (23, .invokevirtual 197, 26, []), (26, .return_, 27, [])]
def mi_X9_change : MI := (cd_X9_change, [(13, 7, 3)], [(197, 179, 0, 4, 0, 0, 7)], [], [], [], [], 0, 0, 0)
def cd_X9_mend : List (Nat × ARow) := [(0, .aload_n 0, 1, []), (1, .iconst 0, 2, []), (2, .putfield 61, 5, []), (5, .bipush (-9), 7, []), (7, .istore_n 1, 8, []), (8, .aload_n 0, 9, []), (9, .invokevirtual 214, 12, []), (12, .istore_n 2, 13, []), (13, .iconst 0, 14, []), (14, .istore_n 3, 15, []), (15, .iload_n 3, 16, []), (16, .iconst 2, 17, []), (17, .aload_n 0, 18, []), (18, .invokevirtual 93, 21, []), (21, .imul, 22, []), (22, .if_icmp .ge 86, 25, [108]), (25, .iload_n 3, 26, []), (26, .iconst 2, 27, []), (27, .idiv, 28, []), (28, .istore 4, 30, []), (30, .iload_n 3, 31, []), (31, .iconst 2, 32, []), (32, .irem, 33, []), (33, .iconst 1, 34, []), (34, .if_icmp .ne 7, 37, [41]), (37, .iconst 1, 38, []), (38, .goto 4, 41, [42]), (41, .iconst 0, 42, []), (42, .istore 5, 44, []), (44, .aload_n 0, 45, []), (45, .iload 4, 47, []), (47, .iload 5, 49, []), (49, .invokevirtual 193, 52, []), (52, .ifCond .ne 50, 55, [102]), (55, .aload_n 0, 56, []), (56, .iload 4, 58, []), (58, .iload 5, 60, []), (60, .invokevirtual 217, 63, []), (63, .aload_n 0, 64, []), (64, .invokevirtual 214, 67, []), (67, .istore 6, 69, []), (69, .aload_n 0, 70, []), (70, .iload 4, 72, []), (72, .iload 5, 74, []), (74, .invokevirtual 217, 77, []), (77, .iload 6, 79, []), (79, .iload_n 2, 80, []), (80, .if_icmp .le 7, 83, [87]), (83, .iload_n 3, 84, []), (84, .goto 4, 87, [88]), (87, .iload_n 1, 88, []), (88, .istore_n 1, 89, []), (89, .iload 6, 91, []), (91, .iload_n 2, 92, []), (92, .if_icmp .le 8, 95, [100]), (95, .iload 6, 97, []), (97, .goto 4, 100, [101]), (100, .iload_n 2, 101, []), (101, .istore_n 2, 102, []), (102, .iinc 3 1, 105, []), (105, .goto (-90), 108, [15]), (108, .iload_n 1, 109, []), (109, .ireturn, 110, [])]
def mi_X9_mend : MI := (cd_X9_mend, [(61, 7, 0)], [(93, 137, 0, 1, 0, 0, 7), (193, 178, 0, 3, 0, 0, 7), (214, 167, 0, 1, 0, 0, 7), (217, 192, 0, 3, 0, 0, 7)], [], [], [], [], 0, 0, 0)
def cd_X9_hardest : List (Nat × ARow) := [(0, .aload_n 0, 1, []), (1, .iconst 0, 2, []), (2, .putfield 61, 5, []), (5, .bipush (-9), 7, []), (7, .istore_n 1, 8, []), (8, .bipush 9, 10, []), (10, .istore_n 2, 11, []), (11, .iconst 0, 12, []), (12, .istore_n 3, 13, []), (13, .iload_n 3, 14, []), (14, .aload_n 0, 15, []), (15, .getfield 102, 18, []), (18, .if_icmp .ge 59, 21, [77]), (21, .aload_n 0, 22, []), (22, .iload_n 3, 23, []), (23, .invokevirtual 137, 26, []), (26, .ifCond .le 16, 29, [42]), (29, .aload_n 0, 30, []), (30, .iload_n 3, 31, []), (31, .invokevirtual 153, 34, []), (34, .iload_n 2, 35, []), (35, .if_icmp .ge 7, 38, [42]), (38, .iconst 1, 39, []), (39, .goto 4, 42, [43]), (42, .iconst 0, 43, []), (43, .istore 4, 45, []), (45, .iload 4, 47, []), (47, .ifCond .eq 7, 50, [54]), (50, .iload_n 3, 51, []), (51, .goto 4, 54, [55]), (54, .iload_n 1, 55, []), (55, .istore_n 1, 56, []), (56, .iload 4, 58, []), (58, .ifCond .eq 11, 61, [69]), (61, .aload_n 0, 62, []), (62, .iload_n 3, 63, []), (63, .invokevirtual 153, 66, []), (66, .goto 4, 69, [70]), (69, .iload_n 2, 70, []), (70, .istore_n 2, 71, []), (71, .iinc 3 1, 74, []), (74, .goto (-61), 77, [13]), (77, .iload_n 1, 78, []), (78, .ireturn, 79, [])]
def mi_X9_hardest : MI := (cd_X9_hardest, [(61, 7, 0), (102, 7, 10)], [(137, 149, 0, 2, 0, 0, 7), (153, 160, 0, 2, 0, 0, 7)], [], [], [], [], 0, 0, 0)
def cd_X9_putsLetter : List (Nat × ARow) := [(0, .iload_n 2, 1, []), (1, .bipush 99, 3, []), (3, .if_icmp .ne 7, 6, [10]), (6, .iconst 0, 7, []), (7, .goto 7, 10, [14]), (10, .bipush 97, 12, []), (12, .iload_n 2, 13, []), (13, .iadd, 14, []), (14, .istore_n 3, 15, []), (15, .aload_n 0, 16, []), (16, .iload_n 1, 17, []), (17, .invokevirtual 128, 20, []), (20, .ifCond .eq 14, 23, [34]), (23, .iload_n 3, 24, []), (24, .invokestatic 187, 27, []), (27, .ifCond .eq 7, 30, [34]), (30, .iconst 1, 31, []), (31, .goto 4, 34, [35]), (34, .iconst 0, 35, []), (35, .istore 4, 37, []), (37, .iload 4, 39, []), (39, .ifCond .eq 12, 42, [51]), (42, .aload_n 0, 43, []), (43, .getfield 13, 46, []), (46, .iconst 2, 47, []), (47, .iload_n 1, 48, []), (48, .iadd, 49, []), (49, .iload_n 3, 50, []), (50, .iastore, 51, []), (51, .iload 4, 53, []), (53, .ireturn, 54, [])]
def mi_X9_putsLetter : MI := (cd_X9_putsLetter, [(13, 7, 3)], [(128, 138, 0, 2, 0, 0, 7), (187, 176, 1, 1, 0, 0, 0)], [], [], [], [], 0, 0, 1)
def cd_X9_setsBar : List (Nat × ARow) := [(0, .aload_n 0, 1, []), (1, .iload_n 1, 2, []), (2, .invokevirtual 128, 5, []), (5, .ifCond .eq 35, 8, [40]), (8, .iload_n 2, 9, []), (9, .iconst 1, 10, []), (10, .if_icmp .gt 30, 13, [40]), (13, .iload_n 3, 14, []), (14, .iconst 1, 15, []), (15, .if_icmp .gt 25, 18, [40]), (18, .aload_n 0, 19, []), (19, .iload_n 1, 20, []), (20, .iload_n 2, 21, []), (21, .iconst 1, 22, []), (22, .if_icmp .ne 7, 25, [29]), (25, .iconst 1, 26, []), (26, .goto 4, 29, [30]), (29, .iconst 0, 30, []), (30, .invokevirtual 193, 33, []), (33, .ifCond .ne 7, 36, [40]), (36, .iconst 1, 37, []), (37, .goto 4, 40, [41]), (40, .iconst 0, 41, []), (41, .istore 4, 43, []), (43, .iload 4, 45, []), (45, .ifCond .eq 19, 48, [64]), (48, .aload_n 0, 49, []), (49, .iload_n 1, 50, []), (50, .iload_n 2, 51, []), (51, .iconst 1, 52, []), (52, .if_icmp .ne 7, 55, [59]), (55, .iconst 1, 56, []), (56, .goto 4, 59, [60]), (59, .iconst 0, 60, []), (60, .iload_n 3, 61, []), (61, .invokevirtual 197, 64, []), (64, .iload 4, 66, []), (66, .ireturn, 67, [])]
def mi_X9_setsBar : MI := (cd_X9_setsBar, [], [(128, 138, 0, 2, 0, 0, 7), (193, 178, 0, 3, 0, 0, 7), (197, 179, 0, 4, 0, 0, 7)], [], [], [], [], 0, 0, 1)
def cd_X9_writes : List (Nat × ARow) := [(0, .aload_n 0, 1, []), (1, .iload_n 1, 2, []), (2, .invokevirtual 131, 5, []), (5, .ifCond .eq 24, 8, [29]), (8, .aload_n 0, 9, []), (9, .iload_n 2, 10, []), (10, .invokevirtual 147, 13, []), (13, .ifCond .eq 16, 16, [29]), (16, .aload_n 0, 17, []), (17, .iload_n 1, 18, []), (18, .iload_n 2, 19, []), (19, .invokevirtual 143, 22, []), (22, .ifCond .eq 7, 25, [29]), (25, .iconst 1, 26, []), (26, .goto 4, 29, [30]), (29, .iconst 0, 30, []), (30, .istore_n 3, 31, []), (31, .iload_n 3, 32, []), (32, .ifCond .eq 9, 35, [41]), (35, .aload_n 0, 36, []), (36, .iload_n 1, 37, []), (37, .iload_n 2, 38, []), (38, .invokevirtual 204, 41, []), (41, .iload_n 3, 42, []), (42, .ireturn, 43, [])]
def mi_X9_writes : MI := (cd_X9_writes, [], [(131, 145, 0, 2, 0, 0, 7), (143, 159, 0, 3, 0, 0, 7), (147, 156, 0, 2, 0, 0, 7), (204, 184, 0, 3, 0, 0, 7)], [], [], [], [], 0, 0, 1)
def cd_X9_erases : List (Nat × ARow) := [(0, .aload_n 0, 1, []), (1, .iload_n 1, 2, []), (2, .invokevirtual 131, 5, []), (5, .istore_n 2, 6, []), (6, .iload_n 2, 7, []), (7, .ifCond .eq 9, 10, [16]), (10, .aload_n 0, 11, []), (11, .iload_n 1, 12, []), (12, .invokevirtual 208, 15, []), (15, .pop, 16, []), (16, .iload_n 2, 17, []), (17, .ireturn, 18, [])]
def mi_X9_erases : MI := (cd_X9_erases, [], [(131, 145, 0, 2, 0, 0, 7), (208, 186, 0, 2, 0, 0, 7)], [], [], [], [], 0, 0, 1)
def cd_X9_runs : List (Nat × ARow) := [(0, .iload_n 1, 1, []), (1, .sipush 10000, 4, []), (4, .idiv, 5, []), (5, .istore_n 2, 6, []), (6, .iload_n 1, 7, []), (7, .sipush 1000, 10, []), (10, .idiv, 11, []), (11, .bipush 10, 13, []), (13, .irem, 14, []), (14, .istore_n 3, 15, []), (15, .iload_n 1, 16, []), (16, .bipush 100, 18, []), (18, .idiv, 19, []), (19, .bipush 10, 21, []), (21, .irem, 22, []), (22, .istore 4, 24, []), (24, .iload_n 1, 25, []), (25, .bipush 10, 27, []), (27, .idiv, 28, []), (28, .bipush 10, 30, []), (30, .irem, 31, []), (31, .istore 5, 33, []), (33, .iload_n 1, 34, []), (34, .bipush 10, 36, []), (36, .irem, 37, []), (37, .istore 6, 39, []), (39, .bipush 10, 41, []), (41, .iload_n 3, 42, []), (42, .imul, 43, []), (43, .iload 4, 45, []), (45, .iadd, 46, []), (46, .istore 7, 48, []), (48, .bipush 10, 50, []), (50, .iload 5, 52, []), (52, .imul, 53, []), (53, .iload 6, 55, []), (55, .iadd, 56, []), (56, .istore 8, 58, []), (58, .iload_n 2, 59, []), (59, .tableswitch 253 1 9 #[49, 58, 69, 91, 111, 142, 171, 202, 233], 108, [312, 108, 117, 128, 150, 170, 201, 230, 261, 292]), (108, .aload_n 0, 109, []), (109, .iload 7, 111, []), (111, .iload 8, 113, []), (113, .invokevirtual 221, 116, []), (116, .ireturn, 117, []), (117, .aload_n 0, 118, []), (118, .iload 7, 120, []), (120, .iload 5, 122, []), (122, .iload 6, 124, []), (124, .invokevirtual 224, 127, []), (127, .ireturn, 128, []), (128, .iload 6, 130, []), (130, .ifCond .ne 18, 133, [148]), (133, .aload_n 0, 134, []), (134, .iload 7, 136, []), (136, .iload 5, 138, []), (138, .invokevirtual 228, 141, []), (141, .ifCond .eq 7, 144, [148]), (144, .iconst 1, 145, []), (145, .goto 4, 148, [149]), (148, .iconst 0, 149, []), (149, .ireturn, 150, []), (150, .iload 8, 152, []), (152, .ifCond .ne 16, 155, [168]), (155, .aload_n 0, 156, []), (156, .iload 7, 158, []), (158, .invokevirtual 231, 161, []), (161, .ifCond .eq 7, 164, [168]), (164, .iconst 1, 165, []), (165, .goto 4, 168, [169]), (168, .iconst 0, 169, []), (169, .ireturn, 170, []), (170, .iload 4, 172, []), (172, .ifCond .ne 27, 175, [199]), (175, .iload 8, 177, []), (177, .ifCond .ne 22, 180, [199]), (180, .iload_n 3, 181, []), (181, .invokestatic 172, 184, []), (184, .ifCond .eq 15, 187, [199]), (187, .aload_n 0, 188, []), (188, .iload_n 3, 189, []), (189, .invokevirtual 169, 192, []), (192, .ifCond .eq 7, 195, [199]), (195, .iconst 1, 196, []), (196, .goto 4, 199, [200]), (199, .iconst 0, 200, []), (200, .ireturn, 201, []), (201, .iload_n 3, 202, []), (202, .ifCond .ne 26, 205, [228]), (205, .aload_n 0, 206, []), (206, .iconst 0, 207, []), (207, .sipush 1000, 210, []), (210, .invokevirtual 183, 213, []), (213, .bipush 100, 215, []), (215, .iload 4, 217, []), (217, .imul, 218, []), (218, .iload 8, 220, []), (220, .iadd, 221, []), (221, .if_icmp .lt 7, 224, [228]), (224, .iconst 1, 225, []), (225, .goto 4, 228, [229]), (228, .iconst 0, 229, []), (229, .ireturn, 230, []), (230, .iload 5, 232, []), (232, .ifCond .ne 27, 235, [259]), (235, .aload_n 0, 236, []), (236, .iload 7, 238, []), (238, .invokevirtual 131, 241, []), (241, .ifCond .eq 18, 244, [259]), (244, .aload_n 0, 245, []), (245, .iload 7, 247, []), (247, .invokevirtual 153, 250, []), (250, .iload 6, 252, []), (252, .if_icmp .lt 7, 255, [259]), (255, .iconst 1, 256, []), (256, .goto 4, 259, [260]), (259, .iconst 0, 260, []), (260, .ireturn, 261, []), (261, .iload 5, 263, []), (263, .ifCond .ne 27, 266, [290]), (266, .aload_n 0, 267, []), (267, .iload 7, 269, []), (269, .invokevirtual 128, 272, []), (272, .ifCond .eq 18, 275, [290]), (275, .aload_n 0, 276, []), (276, .iload 7, 278, []), (278, .invokevirtual 119, 281, []), (281, .iload 6, 283, []), (283, .if_icmp .ne 7, 286, [290]), (286, .iconst 1, 287, []), (287, .goto 4, 290, [291]), (290, .iconst 0, 291, []), (291, .ireturn, 292, []), (292, .iload 7, 294, []), (294, .ifCond .ne 16, 297, [310]), (297, .aload_n 0, 298, []), (298, .getfield 102, 301, []), (301, .iload 8, 303, []), (303, .if_icmp .ne 7, 306, [310]), (306, .iconst 1, 307, []), (307, .goto 4, 310, [311]), (310, .iconst 0, 311, []), (311, .ireturn, 312, []), (312, .iconst 0, 313, []), (313, .ireturn, 314, [])]
def mi_X9_runs : MI := (cd_X9_runs, [(102, 7, 10)], [(119, 147, 0, 2, 0, 0, 7), (128, 138, 0, 2, 0, 0, 7), (131, 145, 0, 2, 0, 0, 7), (153, 160, 0, 2, 0, 0, 7), (169, 166, 0, 2, 0, 0, 7), (172, 168, 1, 1, 0, 0, 0), (183, 172, 0, 3, 0, 0, 7), (221, 195, 0, 3, 0, 0, 7), (224, 196, 0, 4, 0, 0, 7), (228, 197, 0, 3, 0, 0, 7), (231, 198, 0, 2, 0, 0, 7)], [], [], [], [], 0, 0, 1)
def cd_X9_runScript : List (Nat × ARow) := [(0, .iload_n 1, 1, []), (1, .iconst 1, 2, []), (2, .if_icmp .ne 9, 5, [11]), (5, .ldc2_w 234, 8, []), (8, .goto 17, 11, [25]), (11, .iload_n 1, 12, []), (12, .iconst 2, 13, []), (13, .if_icmp .ne 9, 16, [22]), (16, .ldc2_w 236, 19, []), (19, .goto 6, 22, [25]), (22, .ldc2_w 238, 25, []), (25, .lstore 4, 27, []), (27, .aload_n 0, 28, []), (28, .iload_n 1, 29, []), (29, .iconst 1, 30, []), (30, .if_icmp .lt 21, 33, [51]), (33, .iload_n 1, 34, []), (34, .iconst 3, 35, []), (35, .if_icmp .gt 16, 38, [51]), (38, .lload_n 2, 39, []), (39, .lconst 0, 40, []), (40, .lcmp, 41, []), (41, .ifCond .lt 10, 44, [51]), (44, .lload_n 2, 45, []), (45, .lload 4, 47, []), (47, .lcmp, 48, []), (48, .ifCond .lt 7, 51, [55]), (51, .iconst 1, 52, []), (52, .goto 4, 55, [56]), (55, .iconst 0, 56, []), (56, .putfield 61, 59, []), (59, .aload_n 0, 60, []), (60, .getfield 61, 63, []), (63, .ifCond .le 5, 66, [68]), (66, .iconst 0, 67, []), (67, .ireturn, 68, []), (68, .aload_n 0, 69, []), (69, .getfield 13, 72, []), (72, .iconst 0, 73, []), (73, .aload_n 0, 74, []), (74, .getfield 19, 77, []), (77, .iconst 0, 78, []), (78, .invokestatic 86, 81, []), (81, .bipush (-9), 83, []), (83, .istore 6, 85, []), (85, .lload 4, 87, []), (87, .ldc2_w 234, 90, []), (90, .ldiv, 91, []), (91, .lstore 7, 93, []), (93, .iconst 0, 94, []), (94, .istore 9, 96, []), (96, .iload 9, 98, []), (98, .iload_n 1, 99, []), (99, .if_icmp .ge 49, 102, [148]), (102, .iload 6, 104, []), (104, .bipush (-9), 106, []), (106, .if_icmp .ne 42, 109, [148]), (109, .aload_n 0, 110, []), (110, .lload_n 2, 111, []), (111, .lload 7, 113, []), (113, .ldiv, 114, []), (114, .ldc2_w 234, 117, []), (117, .lrem, 118, []), (118, .l2i, 119, []), (119, .invokevirtual 240, 122, []), (122, .ifCond .eq 8, 125, [130]), (125, .bipush (-9), 127, []), (127, .goto 5, 130, [132]), (130, .iload 9, 132, []), (132, .istore 6, 134, []), (134, .lload 7, 136, []), (136, .ldc2_w 234, 139, []), (139, .ldiv, 140, []), (140, .lstore 7, 142, []), (142, .iinc 9 1, 145, []), (145, .goto (-49), 148, [96]), (148, .aload_n 0, 149, []), (149, .getfield 19, 152, []), (152, .iconst 0, 153, []), (153, .aload_n 0, 154, []), (154, .getfield 13, 157, []), (157, .iconst 0, 158, []), (158, .invokestatic 86, 161, []), (161, .aload_n 0, 162, []), (162, .invokevirtual 58, 165, []), (165, .iload 6, 167, []), (167, .ireturn, 168, [])]
def mi_X9_runScript : MI := (cd_X9_runScript, [(13, 7, 3), (19, 7, 5), (61, 7, 0)], [(58, 143, 0, 1, 0, 0, 7), (86, 127, 1, 4, 0, 0, 0), (240, 199, 0, 2, 0, 0, 7)], [], [], [], [(234, 100000), (236, 10000000000), (238, 1000000000000000)], 0, 0, 0)
def cd_X9_simulate : List (Nat × ARow) := [(0, .aload_n 0, 1, []), (1, .iload_n 3, 2, []), (2, .iconst 1, 3, []), (3, .if_icmp .lt 9, 6, [12]), (6, .iload_n 3, 7, []), (7, .bipush 99, 9, []), (9, .if_icmp .le 7, 12, [16]), (12, .iconst 1, 13, []), (13, .goto 4, 16, [17]), (16, .iconst 0, 17, []), (17, .putfield 61, 20, []), (20, .aload_n 0, 21, []), (21, .getfield 61, 24, []), (24, .ifCond .le 5, 27, [29]), (27, .iconst 0, 28, []), (28, .ireturn, 29, []), (29, .aload_n 0, 30, []), (30, .getfield 13, 33, []), (33, .iconst 0, 34, []), (34, .aload_n 0, 35, []), (35, .getfield 19, 38, []), (38, .iconst 0, 39, []), (39, .invokestatic 86, 42, []), (42, .lload_n 1, 43, []), (43, .lstore 4, 45, []), (45, .iconst 0, 46, []), (46, .istore 6, 48, []), (48, .iload 6, 50, []), (50, .iload_n 3, 51, []), (51, .if_icmp .ge 125, 54, [176]), (54, .lload 4, 56, []), (56, .ldc2_w 243, 59, []), (59, .lmul, 60, []), (60, .ldc2_w 245, 63, []), (63, .ladd, 64, []), (64, .lstore 4, 66, []), (66, .lload 4, 68, []), (68, .bipush 33, 70, []), (70, .lushr, 71, []), (71, .l2i, 72, []), (72, .istore 7, 74, []), (74, .iload 7, 76, []), (76, .iconst 2, 77, []), (77, .idiv, 78, []), (78, .iconst 2, 79, []), (79, .aload_n 0, 80, []), (80, .invokevirtual 93, 83, []), (83, .imul, 84, []), (84, .irem, 85, []), (85, .istore 8, 87, []), (87, .iload 7, 89, []), (89, .iconst 2, 90, []), (90, .irem, 91, []), (91, .iconst 1, 92, []), (92, .if_icmp .ne 33, 95, [125]), (95, .aload_n 0, 96, []), (96, .getfield 13, 99, []), (99, .iconst 2, 100, []), (100, .iload 7, 102, []), (102, .iconst 2, 103, []), (103, .idiv, 104, []), (104, .aload_n 0, 105, []), (105, .invokevirtual 93, 108, []), (108, .irem, 109, []), (109, .iadd, 110, []), (110, .bipush 97, 112, []), (112, .iload 7, 114, []), (114, .sipush 128, 117, []), (117, .idiv, 118, []), (118, .iconst 3, 119, []), (119, .irem, 120, []), (120, .iadd, 121, []), (121, .iastore, 122, []), (122, .goto 48, 125, [170]), (125, .aload_n 0, 126, []), (126, .iload 8, 128, []), (128, .iconst 2, 129, []), (129, .idiv, 130, []), (130, .iload 8, 132, []), (132, .iconst 2, 133, []), (133, .irem, 134, []), (134, .iconst 1, 135, []), (135, .if_icmp .ne 7, 138, [142]), (138, .iconst 1, 139, []), (139, .goto 4, 142, [143]), (142, .iconst 0, 143, []), (143, .invokevirtual 193, 146, []), (146, .ifCond .ne 24, 149, [170]), (149, .aload_n 0, 150, []), (150, .iload 8, 152, []), (152, .iconst 2, 153, []), (153, .idiv, 154, []), (154, .iload 8, 156, []), (156, .iconst 2, 157, []), (157, .irem, 158, []), (158, .iconst 1, 159, []), (159, .if_icmp .ne 7, 162, [166]), (162, .iconst 1, 163, []), (163, .goto 4, 166, [167]), (166, .iconst 0, 167, []), (167, .invokevirtual 217, 170, []), (170, .iinc 6 1, 173, []), (173, .goto (-125), 176, [48]), (176, .sipush 1000, 179, []), (179, .aload_n 0, 180, []), (180, .invokevirtual 214, 183, []), (183, .imul, 184, []), (184, .bipush 10, 186, []), (186, .aload_n 0, 187, []), (187, .getfield 102, 190, []), (190, .imul, 191, []), (191, .iadd, 192, []), (192, .aload_n 0, 193, []), (193, .iconst 0, 194, []), (194, .bipush 9, 196, []), (196, .invokevirtual 183, 199, []), (199, .iadd, 200, []), (200, .istore 6, 202, []), (202, .aload_n 0, 203, []), (203, .getfield 19, 206, []), (206, .iconst 0, 207, []), (207, .aload_n 0, 208, []), (208, .getfield 13, 211, []), (211, .iconst 0, 212, []), (212, .invokestatic 86, 215, []), (215, .aload_n 0, 216, []), (216, .invokevirtual 58, 219, []), (219, .iload 6, 221, []), (221, .ireturn, 222, [])]
def mi_X9_simulate : MI := (cd_X9_simulate, [(13, 7, 3), (19, 7, 5), (61, 7, 0), (102, 7, 10)], [(58, 143, 0, 1, 0, 0, 7), (86, 127, 1, 4, 0, 0, 0), (93, 137, 0, 1, 0, 0, 7), (183, 172, 0, 3, 0, 0, 7), (193, 178, 0, 3, 0, 0, 7), (214, 167, 0, 1, 0, 0, 7), (217, 192, 0, 3, 0, 0, 7)], [], [], [], [(243, 6364136223846793005), (245, 1442695040888963407)], 0, 0, 0)
def cd_X9_isSlot : List (Nat × ARow) := [(0, .iload_n 0, 1, []), (1, .ifCond .eq 8, 4, [9]), (4, .iload_n 0, 5, []), (5, .iconst 1, 6, []), (6, .if_icmp .ne 7, 9, [13]), (9, .iconst 1, 10, []), (10, .goto 4, 13, [14]), (13, .iconst 0, 14, []), (14, .ireturn, 15, [])]
def mi_X9_isSlot : MI := (cd_X9_isSlot, [], [], [], [], [], [], 0, 0, 1)
def cd_X9_save : List (Nat × ARow) := [(0, .aload_n 0, 1, []), (1, .iload_n 1, 2, []), (2, .invokestatic 247, 5, []), (5, .ifCond .eq 7, 8, [12]), (8, .iconst 0, 9, []), (9, .goto 4, 12, [13]), (12, .iconst 1, 13, []), (13, .putfield 61, 16, []), (16, .aload_n 0, 17, []), (17, .getfield 61, 20, []), (20, .ifCond .le 5, 23, [25]), (23, .iconst 0, 24, []), (24, .ireturn, 25, []), (25, .aload_n 0, 26, []), (26, .getfield 13, 29, []), (29, .iconst 0, 30, []), (30, .aload_n 0, 31, []), (31, .getfield 25, 34, []), (34, .sipush 174, 37, []), (37, .iload_n 1, 38, []), (38, .imul, 39, []), (39, .invokestatic 86, 42, []), (42, .aload_n 0, 43, []), (43, .getfield 28, 46, []), (46, .iload_n 1, 47, []), (47, .iconst 1, 48, []), (48, .iastore, 49, []), (49, .aload_n 0, 50, []), (50, .getfield 102, 53, []), (53, .ireturn, 54, [])]
def mi_X9_save : MI := (cd_X9_save, [(13, 7, 3), (25, 7, 8), (28, 7, 9), (61, 7, 0), (102, 7, 10)], [(86, 127, 1, 4, 0, 0, 0), (247, 202, 1, 1, 0, 0, 0)], [], [], [], [], 0, 0, 0)
def cd_X9_restore : List (Nat × ARow) := [(0, .aload_n 0, 1, []), (1, .iload_n 1, 2, []), (2, .invokestatic 247, 5, []), (5, .ifCond .ne 7, 8, [12]), (8, .iconst 1, 9, []), (9, .goto 18, 12, [27]), (12, .aload_n 0, 13, []), (13, .getfield 28, 16, []), (16, .iload_n 1, 17, []), (17, .iaload, 18, []), (18, .iconst 1, 19, []), (19, .if_icmp .ne 7, 22, [26]), (22, .iconst 0, 23, []), (23, .goto 4, 26, [27]), (26, .iconst 2, 27, []), (27, .putfield 61, 30, []), (30, .aload_n 0, 31, []), (31, .getfield 61, 34, []), (34, .ifCond .le 5, 37, [39]), (37, .iconst 0, 38, []), (38, .ireturn, 39, []), (39, .aload_n 0, 40, []), (40, .getfield 25, 43, []), (43, .sipush 174, 46, []), (46, .iload_n 1, 47, []), (47, .imul, 48, []), (48, .aload_n 0, 49, []), (49, .getfield 13, 52, []), (52, .iconst 0, 53, []), (53, .invokestatic 86, 56, []), (56, .aload_n 0, 57, []), (57, .iconst 0, 58, []), (58, .putfield 90, 61, []), (61, .aload_n 0, 62, []), (62, .invokevirtual 58, 65, []), (65, .aload_n 0, 66, []), (66, .getfield 102, 69, []), (69, .ireturn, 70, [])]
def mi_X9_restore : MI := (cd_X9_restore, [(13, 7, 3), (25, 7, 8), (28, 7, 9), (61, 7, 0), (90, 7, 7), (102, 7, 10)], [(58, 143, 0, 1, 0, 0, 7), (86, 127, 1, 4, 0, 0, 0), (247, 202, 1, 1, 0, 0, 0)], [], [], [], [], 0, 0, 0)
def cd_J13_bitCount_95d88 : List (Nat × ARow) := [(0, .lload_n 0, 1, []), (1, .lload_n 0, 2, []), (2, .iconst 1, 3, []), (3, .lushr, 4, []), (4, .ldc2_w 314, 7, []), (7, .land, 8, []), (8, .lsub, 9, []), (9, .lstore_n 0, 10, []), (10, .lload_n 0, 11, []), (11, .ldc2_w 316, 14, []), (14, .land, 15, []), (15, .lload_n 0, 16, []), (16, .iconst 2, 17, []), (17, .lushr, 18, []), (18, .ldc2_w 316, 21, []), (21, .land, 22, []), (22, .ladd, 23, []), (23, .lstore_n 0, 24, []), (24, .lload_n 0, 25, []), (25, .lload_n 0, 26, []), (26, .iconst 4, 27, []), (27, .lushr, 28, []), (28, .ladd, 29, []), (29, .ldc2_w 318, 32, []), (32, .land, 33, []), (33, .lstore_n 0, 34, []), (34, .lload_n 0, 35, []), (35, .lload_n 0, 36, []), (36, .bipush 8, 38, []), (38, .lushr, 39, []), (39, .ladd, 40, []), (40, .lstore_n 0, 41, []), (41, .lload_n 0, 42, []), (42, .lload_n 0, 43, []), (43, .bipush 16, 45, []), (45, .lushr, 46, []), (46, .ladd, 47, []), (47, .lstore_n 0, 48, []), (48, .lload_n 0, 49, []), (49, .lload_n 0, 50, []), (50, .bipush 32, 52, []), (52, .lushr, 53, []), (53, .ladd, 54, []), (54, .lstore_n 0, 55, []), (55, .lload_n 0, 56, []), (56, .l2i, 57, []), (57, .bipush 127, 59, []), (59, .iand, 60, []), (60, .ireturn, 61, [])]
def mi_J13_bitCount_95d88 : MI := (cd_J13_bitCount_95d88, [], [], [], [], [], [(314, 6148914691236517205), (316, 3689348814741910323), (318, 1085102592571150095)], 0, 0, 0)
def cd_J9_floorMod_7cf53 : List (Nat × ARow) := [(0, .iload_n 0, 1, []), (1, .iload_n 1, 2, []), (2, .irem, 3, []), (3, .istore_n 2, 4, []), (4, .iload_n 0, 5, []), (5, .iload_n 1, 6, []), (6, .ixor, 7, []), (7, .ifCond .ge 11, 10, [18]), (10, .iload_n 2, 11, []), (11, .ifCond .eq 7, 14, [18]), (14, .iload_n 2, 15, []), (15, .iload_n 1, 16, []), (16, .iadd, 17, []), (17, .ireturn, 18, []), (18, .iload_n 2, 19, []), (19, .ireturn, 20, [])]
def mi_J9_floorMod_7cf53 : MI := (cd_J9_floorMod_7cf53, [], [], [], [], [], [], 0, 0, 0)
def cd_J7_fill_53178 : List (Nat × ARow) := [(0, .iconst 0, 1, []), (1, .istore_n 2, 2, []), (2, .aload_n 0, 3, []), (3, .arraylength, 4, []), (4, .istore_n 3, 5, []), (5, .iload_n 2, 6, []), (6, .iload_n 3, 7, []), (7, .if_icmp .ge 13, 10, [20]), (10, .aload_n 0, 11, []), (11, .iload_n 2, 12, []), (12, .iload_n 1, 13, []), (13, .iastore, 14, []), (14, .iinc 2 1, 17, []), (17, .goto (-12), 20, [5]), (20, .return_, 21, [])]
def mi_J7_fill_53178 : MI := (cd_J7_fill_53178, [], [], [], [], [], [], 0, 0, 0)
def cd_L_append : List (Nat × ARow) := [(0, .aload_n 2, 1, []), (1, .iconst 0, 2, []), (2, .aload_n 0, 3, []), (3, .iload_n 1, 4, []), (4, .invokevirtual 7, 7, []), (7, .i2l, 8, []), (8, .lastore, 9, []), (9, .goto 9, 12, [18]), (12, .astore_n 3, 13, []), (13, .iconst 1, 14, []), (14, .ireturn, 15, []), (15, .astore_n 3, 16, []), (16, .iconst 2, 17, []), (17, .ireturn, 18, []), (18, .iconst 0, 19, []), (19, .ireturn, 20, [])]
def mi_L_append : MI := (cd_L_append, [], [(7, 91, 0, 2, 1, 6, 6)], [(0, 9, 13, 3, "java/lang/IllegalArgumentException"), (0, 9, 16, 3, "java/lang/IllegalStateException")], [], [], [], 1, 6, 0)
def cd_L_load : List (Nat × ARow) := [(0, .aload_n 1, 1, []), (1, .iconst 0, 2, []), (2, .aload_n 0, 3, []), (3, .invokevirtual 17, 6, []), (6, .i2l, 7, []), (7, .lastore, 8, []), (8, .goto 6, 11, [14]), (11, .astore_n 2, 12, []), (12, .iconst 1, 13, []), (13, .ireturn, 14, []), (14, .iconst 0, 15, []), (15, .ireturn, 16, [])]
def mi_L_load : MI := (cd_L_load, [], [(17, 94, 0, 1, 1, 6, 6)], [(0, 8, 12, 2, "java/lang/IllegalStateException")], [], [], [], 1, 6, 0)
def cd_L_about : List (Nat × ARow) := [(0, .aload_n 2, 1, []), (1, .iconst 0, 2, []), (2, .aload_n 0, 3, []), (3, .iload_n 1, 4, []), (4, .invokevirtual 21, 7, []), (7, .i2l, 8, []), (8, .lastore, 9, []), (9, .goto 6, 12, [15]), (12, .astore_n 3, 13, []), (13, .iconst 1, 14, []), (14, .ireturn, 15, []), (15, .iconst 0, 16, []), (16, .ireturn, 17, [])]
def mi_L_about : MI := (cd_L_about, [], [(21, 95, 0, 2, 1, 6, 6)], [(0, 9, 13, 3, "java/lang/IllegalArgumentException")], [], [], [], 1, 6, 0)
def cd_L_cell : List (Nat × ARow) := [(0, .aload_n 3, 1, []), (1, .iconst 0, 2, []), (2, .aload_n 0, 3, []), (3, .iload_n 1, 4, []), (4, .iload_n 2, 5, []), (5, .invokevirtual 24, 8, []), (8, .i2l, 9, []), (9, .lastore, 10, []), (10, .goto 11, 13, [21]), (13, .astore 4, 15, []), (15, .iconst 1, 16, []), (16, .ireturn, 17, []), (17, .astore 4, 19, []), (19, .iconst 2, 20, []), (20, .ireturn, 21, []), (21, .iconst 0, 22, []), (22, .ireturn, 23, [])]
def mi_L_cell : MI := (cd_L_cell, [], [(24, 96, 0, 3, 2, 12, 6)], [(0, 10, 15, 4, "java/lang/IndexOutOfBoundsException"), (0, 10, 19, 4, "java/lang/IllegalArgumentException")], [], [], [], 2, 12, 0)
def cd_L_entry : List (Nat × ARow) := [(0, .aload_n 3, 1, []), (1, .iconst 0, 2, []), (2, .aload_n 0, 3, []), (3, .iload_n 1, 4, []), (4, .iload_n 2, 5, []), (5, .invokevirtual 30, 8, []), (8, .i2l, 9, []), (9, .lastore, 10, []), (10, .goto 11, 13, [21]), (13, .astore 4, 15, []), (15, .iconst 1, 16, []), (16, .ireturn, 17, []), (17, .astore 4, 19, []), (19, .iconst 2, 20, []), (20, .ireturn, 21, []), (21, .iconst 0, 22, []), (22, .ireturn, 23, [])]
def mi_L_entry : MI := (cd_L_entry, [], [(30, 97, 0, 3, 2, 12, 6)], [(0, 10, 15, 4, "java/lang/IndexOutOfBoundsException"), (0, 10, 19, 4, "java/lang/IllegalArgumentException")], [], [], [], 2, 12, 0)
def cd_L_word : List (Nat × ARow) := [(0, .aload_n 3, 1, []), (1, .iconst 0, 2, []), (2, .aload_n 0, 3, []), (3, .iload_n 1, 4, []), (4, .iload_n 2, 5, []), (5, .invokevirtual 33, 8, []), (8, .i2l, 9, []), (9, .lastore, 10, []), (10, .goto 11, 13, [21]), (13, .astore 4, 15, []), (15, .iconst 1, 16, []), (16, .ireturn, 17, []), (17, .astore 4, 19, []), (19, .iconst 2, 20, []), (20, .ireturn, 21, []), (21, .iconst 0, 22, []), (22, .ireturn, 23, [])]
def mi_L_word : MI := (cd_L_word, [], [(33, 98, 0, 3, 2, 12, 6)], [(0, 10, 15, 4, "java/lang/IndexOutOfBoundsException"), (0, 10, 19, 4, "java/lang/IllegalArgumentException")], [], [], [], 2, 12, 0)
def cd_L_fits : List (Nat × ARow) := [(0, .aload_n 2, 1, []), (1, .iconst 0, 2, []), (2, .aload_n 0, 3, []), (3, .iload_n 1, 4, []), (4, .invokevirtual 36, 7, []), (7, .i2l, 8, []), (8, .lastore, 9, []), (9, .goto 6, 12, [15]), (12, .astore_n 3, 13, []), (13, .iconst 1, 14, []), (14, .ireturn, 15, []), (15, .iconst 0, 16, []), (16, .ireturn, 17, [])]
def mi_L_fits : MI := (cd_L_fits, [], [(36, 99, 0, 2, 1, 6, 6)], [(0, 9, 13, 3, "java/lang/IndexOutOfBoundsException")], [], [], [], 1, 6, 0)
def cd_L_rule : List (Nat × ARow) := [(0, .aload_n 2, 1, []), (1, .iconst 0, 2, []), (2, .aload_n 0, 3, []), (3, .iload_n 1, 4, []), (4, .invokevirtual 39, 7, []), (7, .ifCond .eq 7, 10, [14]), (10, .lconst 1, 11, []), (11, .goto 4, 14, [15]), (14, .lconst 0, 15, []), (15, .lastore, 16, []), (16, .goto 6, 19, [22]), (19, .astore_n 3, 20, []), (20, .iconst 1, 21, []), (21, .ireturn, 22, []), (22, .iconst 0, 23, []), (23, .ireturn, 24, [])]
def mi_L_rule : MI := (cd_L_rule, [], [(39, 100, 0, 2, 1, 6, 6)], [(0, 16, 20, 3, "java/lang/IllegalArgumentException")], [], [], [], 1, 6, 0)
def cd_L_reading : List (Nat × ARow) := [(0, .aload_n 2, 1, []), (1, .iconst 0, 2, []), (2, .aload_n 0, 3, []), (3, .iload_n 1, 4, []), (4, .invokevirtual 43, 7, []), (7, .i2l, 8, []), (8, .lastore, 9, []), (9, .goto 6, 12, [15]), (12, .astore_n 3, 13, []), (13, .iconst 1, 14, []), (14, .ireturn, 15, []), (15, .iconst 0, 16, []), (16, .ireturn, 17, [])]
def mi_L_reading : MI := (cd_L_reading, [], [(43, 102, 0, 2, 1, 6, 6)], [(0, 9, 13, 3, "java/lang/IllegalArgumentException")], [], [], [], 1, 6, 0)
def cd_L_put : List (Nat × ARow) := [(0, .aload_n 3, 1, []), (1, .iconst 0, 2, []), (2, .aload_n 0, 3, []), (3, .iload_n 1, 4, []), (4, .iload_n 2, 5, []), (5, .invokevirtual 46, 8, []), (8, .i2l, 9, []), (9, .lastore, 10, []), (10, .goto 11, 13, [21]), (13, .astore 4, 15, []), (15, .iconst 1, 16, []), (16, .ireturn, 17, []), (17, .astore 4, 19, []), (19, .iconst 2, 20, []), (20, .ireturn, 21, []), (21, .iconst 0, 22, []), (22, .ireturn, 23, [])]
def mi_L_put : MI := (cd_L_put, [], [(46, 103, 0, 3, 2, 12, 6)], [(0, 10, 15, 4, "java/lang/IndexOutOfBoundsException"), (0, 10, 19, 4, "java/lang/IllegalArgumentException")], [], [], [], 2, 12, 0)
def cd_L_setBar : List (Nat × ARow) := [(0, .aload 4, 2, []), (2, .iconst 0, 3, []), (3, .aload_n 0, 4, []), (4, .iload_n 1, 5, []), (5, .iload_n 2, 6, []), (6, .iload_n 3, 7, []), (7, .invokevirtual 49, 10, []), (10, .i2l, 11, []), (11, .lastore, 12, []), (12, .goto 11, 15, [23]), (15, .astore 5, 17, []), (17, .iconst 1, 18, []), (18, .ireturn, 19, []), (19, .astore 5, 21, []), (21, .iconst 2, 22, []), (22, .ireturn, 23, []), (23, .iconst 0, 24, []), (24, .ireturn, 25, [])]
def mi_L_setBar : MI := (cd_L_setBar, [], [(49, 104, 0, 4, 2, 12, 6)], [(0, 12, 17, 5, "java/lang/IndexOutOfBoundsException"), (0, 12, 21, 5, "java/lang/IllegalArgumentException")], [], [], [], 2, 12, 0)
def cd_L_addWord : List (Nat × ARow) := [(0, .aload_n 1, 1, []), (1, .iconst 0, 2, []), (2, .aload_n 0, 3, []), (3, .invokevirtual 53, 6, []), (6, .i2l, 7, []), (7, .lastore, 8, []), (8, .goto 6, 11, [14]), (11, .astore_n 2, 12, []), (12, .iconst 1, 13, []), (13, .ireturn, 14, []), (14, .iconst 0, 15, []), (15, .ireturn, 16, [])]
def mi_L_addWord : MI := (cd_L_addWord, [], [(53, 105, 0, 1, 1, 6, 6)], [(0, 8, 12, 2, "java/lang/IllegalStateException")], [], [], [], 1, 6, 0)
def cd_L_setLine : List (Nat × ARow) := [(0, .aload_n 1, 1, []), (1, .iconst 0, 2, []), (2, .aload_n 0, 3, []), (3, .invokevirtual 56, 6, []), (6, .i2l, 7, []), (7, .lastore, 8, []), (8, .goto 6, 11, [14]), (11, .astore_n 2, 12, []), (12, .iconst 1, 13, []), (13, .ireturn, 14, []), (14, .iconst 0, 15, []), (15, .ireturn, 16, [])]
def mi_L_setLine : MI := (cd_L_setLine, [], [(56, 106, 0, 1, 1, 6, 6)], [(0, 8, 12, 2, "java/lang/IllegalStateException")], [], [], [], 1, 6, 0)
def cd_L_write : List (Nat × ARow) := [(0, .aload_n 3, 1, []), (1, .iconst 0, 2, []), (2, .aload_n 0, 3, []), (3, .iload_n 1, 4, []), (4, .iload_n 2, 5, []), (5, .invokevirtual 59, 8, []), (8, .i2l, 9, []), (9, .lastore, 10, []), (10, .goto 11, 13, [21]), (13, .astore 4, 15, []), (15, .iconst 1, 16, []), (16, .ireturn, 17, []), (17, .astore 4, 19, []), (19, .iconst 2, 20, []), (20, .ireturn, 21, []), (21, .iconst 0, 22, []), (22, .ireturn, 23, [])]
def mi_L_write : MI := (cd_L_write, [], [(59, 107, 0, 3, 3, 18, 6)], [(0, 10, 15, 4, "java/lang/IndexOutOfBoundsException"), (0, 10, 19, 4, "java/lang/IllegalStateException")], [], [], [], 3, 18, 0)
def cd_L_erase : List (Nat × ARow) := [(0, .aload_n 2, 1, []), (1, .iconst 0, 2, []), (2, .aload_n 0, 3, []), (3, .iload_n 1, 4, []), (4, .invokevirtual 62, 7, []), (7, .i2l, 8, []), (8, .lastore, 9, []), (9, .goto 6, 12, [15]), (12, .astore_n 3, 13, []), (13, .iconst 1, 14, []), (14, .ireturn, 15, []), (15, .iconst 0, 16, []), (16, .ireturn, 17, [])]
def mi_L_erase : MI := (cd_L_erase, [], [(62, 108, 0, 2, 1, 6, 6)], [(0, 9, 13, 3, "java/lang/IndexOutOfBoundsException")], [], [], [], 1, 6, 0)
def cd_L_undo : List (Nat × ARow) := [(0, .aload_n 1, 1, []), (1, .iconst 0, 2, []), (2, .aload_n 0, 3, []), (3, .invokevirtual 65, 6, []), (6, .i2l, 7, []), (7, .lastore, 8, []), (8, .goto 6, 11, [14]), (11, .astore_n 2, 12, []), (12, .iconst 1, 13, []), (13, .ireturn, 14, []), (14, .iconst 0, 15, []), (15, .ireturn, 16, [])]
def mi_L_undo : MI := (cd_L_undo, [], [(65, 109, 0, 1, 1, 6, 6)], [(0, 8, 12, 2, "java/lang/IllegalStateException")], [], [], [], 1, 6, 0)
def cd_L_runScript : List (Nat × ARow) := [(0, .aload 4, 2, []), (2, .iconst 0, 3, []), (3, .aload_n 0, 4, []), (4, .iload_n 1, 5, []), (5, .lload_n 2, 6, []), (6, .invokevirtual 68, 9, []), (9, .i2l, 10, []), (10, .lastore, 11, []), (11, .goto 7, 14, [18]), (14, .astore 5, 16, []), (16, .iconst 1, 17, []), (17, .ireturn, 18, []), (18, .iconst 0, 19, []), (19, .ireturn, 20, [])]
def mi_L_runScript : MI := (cd_L_runScript, [], [(68, 114, 0, 3, 1, 6, 6)], [(0, 11, 16, 5, "java/lang/IllegalArgumentException")], [], [], [], 1, 6, 0)
def cd_L_simulate : List (Nat × ARow) := [(0, .aload 4, 2, []), (2, .iconst 0, 3, []), (3, .aload_n 0, 4, []), (4, .lload_n 1, 5, []), (5, .iload_n 3, 6, []), (6, .invokevirtual 72, 9, []), (9, .i2l, 10, []), (10, .lastore, 11, []), (11, .goto 7, 14, [18]), (14, .astore 5, 16, []), (16, .iconst 1, 17, []), (17, .ireturn, 18, []), (18, .iconst 0, 19, []), (19, .ireturn, 20, [])]
def mi_L_simulate : MI := (cd_L_simulate, [], [(72, 115, 0, 3, 1, 6, 6)], [(0, 11, 16, 5, "java/lang/IllegalArgumentException")], [], [], [], 1, 6, 0)
def cd_L_save : List (Nat × ARow) := [(0, .aload_n 2, 1, []), (1, .iconst 0, 2, []), (2, .aload_n 0, 3, []), (3, .iload_n 1, 4, []), (4, .invokevirtual 76, 7, []), (7, .i2l, 8, []), (8, .lastore, 9, []), (9, .goto 6, 12, [15]), (12, .astore_n 3, 13, []), (13, .iconst 1, 14, []), (14, .ireturn, 15, []), (15, .iconst 0, 16, []), (16, .ireturn, 17, [])]
def mi_L_save : MI := (cd_L_save, [], [(76, 116, 0, 2, 1, 6, 6)], [(0, 9, 13, 3, "java/lang/IndexOutOfBoundsException")], [], [], [], 1, 6, 0)
def cd_L_restore : List (Nat × ARow) := [(0, .aload_n 2, 1, []), (1, .iconst 0, 2, []), (2, .aload_n 0, 3, []), (3, .iload_n 1, 4, []), (4, .invokevirtual 79, 7, []), (7, .i2l, 8, []), (8, .lastore, 9, []), (9, .goto 9, 12, [18]), (12, .astore_n 3, 13, []), (13, .iconst 1, 14, []), (14, .ireturn, 15, []), (15, .astore_n 3, 16, []), (16, .iconst 2, 17, []), (17, .ireturn, 18, []), (18, .iconst 0, 19, []), (19, .ireturn, 20, [])]
def mi_L_restore : MI := (cd_L_restore, [], [(79, 117, 0, 2, 2, 12, 6)], [(0, 9, 13, 3, "java/lang/IndexOutOfBoundsException"), (0, 9, 16, 3, "java/lang/IllegalStateException")], [], [], [], 2, 12, 0)
def cd_L_law : List (Nat × ARow) := [(0, .new 8, 3, []), (3, .dup, 4, []), (4, .invokespecial 82, 7, []), (7, .astore_n 1, 8, []), (8, .new 83, 11, []), (11, .dup, 12, []), (12, .invokespecial 85, 15, []), (15, .astore_n 2, 16, []), (16, .iconst 1, 17, []), (17, .newarray .long, 19, []), (19, .astore_n 3, 20, []), (20, .iconst 0, 21, []), (21, .istore 4, 23, []), (23, .iload 4, 25, []), (25, .aload_n 0, 26, []), (26, .arraylength, 27, []), (27, .iconst 4, 28, []), (28, .isub, 29, []), (29, .if_icmp .gt 1511, 32, [1540]), (32, .aload_n 0, 33, []), (33, .iload 4, 35, []), (35, .iaload, 36, []), (36, .bipush 31, 38, []), (38, .iand, 39, []), (39, .tableswitch 1495 0 26 #[121, 177, 190, 203, 247, 303, 371, 439, 507, 563, 626, 639, 695, 763, 875, 919, 963, 1031, 1087, 1131, 1144, 1157, 1170, 1183, 1283, 1383, 1439], 160, [1534, 160, 216, 229, 242, 286, 342, 410, 478, 546, 602, 665, 678, 734, 802, 914, 958, 1002, 1070, 1126, 1170, 1183, 1196, 1209, 1222, 1322, 1422, 1478]), (160, .aload_n 1, 161, []), (161, .aload_n 0, 162, []), (162, .iload 4, 164, []), (164, .iconst 1, 165, []), (165, .iadd, 166, []), (166, .iaload, 167, []), (167, .aload_n 3, 168, []), (168, .invokestatic 86, 171, []), (171, .istore 5, 173, []), (173, .aload_n 2, 174, []), (174, .aload_n 0, 175, []), (175, .iload 4, 177, []), (177, .iconst 1, 178, []), (178, .iadd, 179, []), (179, .iaload, 180, []), (180, .invokevirtual 91, 183, []), (183, .istore 6, 185, []), (185, .aload_n 2, 186, []), (186, .invokevirtual 92, 189, []), (189, .iload 5, 191, []), (191, .if_icmp .eq 5, 194, [196]), (194, .iconst 0, 195, []), (195, .ireturn, 196, []), (196, .iload 5, 198, []), (198, .ifCond .ne 15, 201, [213]), (201, .aload_n 3, 202, []), (202, .iconst 0, 203, []), (203, .laload, 204, []), (204, .iload 6, 206, []), (206, .i2l, 207, []), (207, .lcmp, 208, []), (208, .ifCond .eq 5, 211, [213]), (211, .iconst 0, 212, []), (212, .ireturn, 213, []), (213, .goto 1321, 216, [1534]), (216, .aload_n 1, 217, []), (217, .invokevirtual 95, 220, []), (220, .aload_n 2, 221, []), (221, .invokevirtual 98, 224, []), (224, .if_icmp .eq 1310, 227, [1534]), (227, .iconst 0, 228, []), (228, .ireturn, 229, []), (229, .aload_n 1, 230, []), (230, .invokevirtual 99, 233, []), (233, .aload_n 2, 234, []), (234, .invokevirtual 102, 237, []), (237, .if_icmp .eq 1297, 240, [1534]), (240, .iconst 0, 241, []), (241, .ireturn, 242, []), (242, .aload_n 1, 243, []), (243, .aload_n 3, 244, []), (244, .invokestatic 103, 247, []), (247, .istore 5, 249, []), (249, .aload_n 2, 250, []), (250, .invokevirtual 106, 253, []), (253, .istore 6, 255, []), (255, .aload_n 2, 256, []), (256, .invokevirtual 92, 259, []), (259, .iload 5, 261, []), (261, .if_icmp .eq 5, 264, [266]), (264, .iconst 0, 265, []), (265, .ireturn, 266, []), (266, .iload 5, 268, []), (268, .ifCond .ne 15, 271, [283]), (271, .aload_n 3, 272, []), (272, .iconst 0, 273, []), (273, .laload, 274, []), (274, .iload 6, 276, []), (276, .i2l, 277, []), (277, .lcmp, 278, []), (278, .ifCond .eq 5, 281, [283]), (281, .iconst 0, 282, []), (282, .ireturn, 283, []), (283, .goto 1251, 286, [1534]), (286, .aload_n 1, 287, []), (287, .aload_n 0, 288, []), (288, .iload 4, 290, []), (290, .iconst 1, 291, []), (291, .iadd, 292, []), (292, .iaload, 293, []), (293, .aload_n 3, 294, []), (294, .invokestatic 107, 297, []), (297, .istore 5, 299, []), (299, .aload_n 2, 300, []), (300, .aload_n 0, 301, []), (301, .iload 4, 303, []), (303, .iconst 1, 304, []), (304, .iadd, 305, []), (305, .iaload, 306, []), (306, .invokevirtual 109, 309, []), (309, .istore 6, 311, []), (311, .aload_n 2, 312, []), (312, .invokevirtual 92, 315, []), (315, .iload 5, 317, []), (317, .if_icmp .eq 5, 320, [322]), (320, .iconst 0, 321, []), (321, .ireturn, 322, []), (322, .iload 5, 324, []), (324, .ifCond .ne 15, 327, [339]), (327, .aload_n 3, 328, []), (328, .iconst 0, 329, []), (329, .laload, 330, []), (330, .iload 6, 332, []), (332, .i2l, 333, []), (333, .lcmp, 334, []), (334, .ifCond .eq 5, 337, [339]), (337, .iconst 0, 338, []), (338, .ireturn, 339, []), (339, .goto 1195, 342, [1534]), (342, .aload_n 1, 343, []), (343, .aload_n 0, 344, []), (344, .iload 4, 346, []), (346, .iconst 1, 347, []), (347, .iadd, 348, []), (348, .iaload, 349, []), (349, .aload_n 0, 350, []), (350, .iload 4, 352, []), (352, .iconst 2, 353, []), (353, .iadd, 354, []), (354, .iaload, 355, []), (355, .aload_n 3, 356, []), (356, .invokestatic 110, 359, []), (359, .istore 5, 361, []), (361, .aload_n 2, 362, []), (362, .aload_n 0, 363, []), (363, .iload 4, 365, []), (365, .iconst 1, 366, []), (366, .iadd, 367, []), (367, .iaload, 368, []), (368, .aload_n 0, 369, []), (369, .iload 4, 371, []), (371, .iconst 2, 372, []), (372, .iadd, 373, []), (373, .iaload, 374, []), (374, .invokevirtual 113, 377, []), (377, .istore 6, 379, []), (379, .aload_n 2, 380, []), (380, .invokevirtual 92, 383, []), (383, .iload 5, 385, []), (385, .if_icmp .eq 5, 388, [390]), (388, .iconst 0, 389, []), (389, .ireturn, 390, []), (390, .iload 5, 392, []), (392, .ifCond .ne 15, 395, [407]), (395, .aload_n 3, 396, []), (396, .iconst 0, 397, []), (397, .laload, 398, []), (398, .iload 6, 400, []), (400, .i2l, 401, []), (401, .lcmp, 402, []), (402, .ifCond .eq 5, 405, [407]), (405, .iconst 0, 406, []), (406, .ireturn, 407, []), (407, .goto 1127, 410, [1534]), (410, .aload_n 1, 411, []), (411, .aload_n 0, 412, []), (412, .iload 4, 414, []), (414, .iconst 1, 415, []), (415, .iadd, 416, []), (416, .iaload, 417, []), (417, .aload_n 0, 418, []), (418, .iload 4, 420, []), (420, .iconst 2, 421, []), (421, .iadd, 422, []), (422, .iaload, 423, []), (423, .aload_n 3, 424, []), (424, .invokestatic 114, 427, []), (427, .istore 5, 429, []), (429, .aload_n 2, 430, []), (430, .aload_n 0, 431, []), (431, .iload 4, 433, []), (433, .iconst 1, 434, []), (434, .iadd, 435, []), (435, .iaload, 436, []), (436, .aload_n 0, 437, []), (437, .iload 4, 439, []), (439, .iconst 2, 440, []), (440, .iadd, 441, []), (441, .iaload, 442, []), (442, .invokevirtual 116, 445, []), (445, .istore 6, 447, []), (447, .aload_n 2, 448, []), (448, .invokevirtual 92, 451, []), (451, .iload 5, 453, []), (453, .if_icmp .eq 5, 456, [458]), (456, .iconst 0, 457, []), (457, .ireturn, 458, []), (458, .iload 5, 460, []), (460, .ifCond .ne 15, 463, [475]), (463, .aload_n 3, 464, []), (464, .iconst 0, 465, []), (465, .laload, 466, []), (466, .iload 6, 468, []), (468, .i2l, 469, []), (469, .lcmp, 470, []), (470, .ifCond .eq 5, 473, [475]), (473, .iconst 0, 474, []), (474, .ireturn, 475, []), (475, .goto 1059, 478, [1534]), (478, .aload_n 1, 479, []), (479, .aload_n 0, 480, []), (480, .iload 4, 482, []), (482, .iconst 1, 483, []), (483, .iadd, 484, []), (484, .iaload, 485, []), (485, .aload_n 0, 486, []), (486, .iload 4, 488, []), (488, .iconst 2, 489, []), (489, .iadd, 490, []), (490, .iaload, 491, []), (491, .aload_n 3, 492, []), (492, .invokestatic 117, 495, []), (495, .istore 5, 497, []), (497, .aload_n 2, 498, []), (498, .aload_n 0, 499, []), (499, .iload 4, 501, []), (501, .iconst 1, 502, []), (502, .iadd, 503, []), (503, .iaload, 504, []), (504, .aload_n 0, 505, []), (505, .iload 4, 507, []), (507, .iconst 2, 508, []), (508, .iadd, 509, []), (509, .iaload, 510, []), (510, .invokevirtual 119, 513, []), (513, .istore 6, 515, []), (515, .aload_n 2, 516, []), (516, .invokevirtual 92, 519, []), (519, .iload 5, 521, []), (521, .if_icmp .eq 5, 524, [526]), (524, .iconst 0, 525, []), (525, .ireturn, 526, []), (526, .iload 5, 528, []), (528, .ifCond .ne 15, 531, [543]), (531, .aload_n 3, 532, []), (532, .iconst 0, 533, []), (533, .laload, 534, []), (534, .iload 6, 536, []), (536, .i2l, 537, []), (537, .lcmp, 538, []), (538, .ifCond .eq 5, 541, [543]), (541, .iconst 0, 542, []), (542, .ireturn, 543, []), (543, .goto 991, 546, [1534]), (546, .aload_n 1, 547, []), (547, .aload_n 0, 548, []), (548, .iload 4, 550, []), (550, .iconst 1, 551, []), (551, .iadd, 552, []), (552, .iaload, 553, []), (553, .aload_n 3, 554, []), (554, .invokestatic 120, 557, []), (557, .istore 5, 559, []), (559, .aload_n 2, 560, []), (560, .aload_n 0, 561, []), (561, .iload 4, 563, []), (563, .iconst 1, 564, []), (564, .iadd, 565, []), (565, .iaload, 566, []), (566, .invokevirtual 122, 569, []), (569, .istore 6, 571, []), (571, .aload_n 2, 572, []), (572, .invokevirtual 92, 575, []), (575, .iload 5, 577, []), (577, .if_icmp .eq 5, 580, [582]), (580, .iconst 0, 581, []), (581, .ireturn, 582, []), (582, .iload 5, 584, []), (584, .ifCond .ne 15, 587, [599]), (587, .aload_n 3, 588, []), (588, .iconst 0, 589, []), (589, .laload, 590, []), (590, .iload 6, 592, []), (592, .i2l, 593, []), (593, .lcmp, 594, []), (594, .ifCond .eq 5, 597, [599]), (597, .iconst 0, 598, []), (598, .ireturn, 599, []), (599, .goto 935, 602, [1534]), (602, .aload_n 1, 603, []), (603, .aload_n 0, 604, []), (604, .iload 4, 606, []), (606, .iconst 1, 607, []), (607, .iadd, 608, []), (608, .iaload, 609, []), (609, .aload_n 3, 610, []), (610, .invokestatic 123, 613, []), (613, .istore 5, 615, []), (615, .aload_n 2, 616, []), (616, .aload_n 0, 617, []), (617, .iload 4, 619, []), (619, .iconst 1, 620, []), (620, .iadd, 621, []), (621, .iaload, 622, []), (622, .invokevirtual 125, 625, []), (625, .istore 6, 627, []), (627, .aload_n 2, 628, []), (628, .invokevirtual 92, 631, []), (631, .iload 5, 633, []), (633, .if_icmp .eq 5, 636, [638]), (636, .iconst 0, 637, []), (637, .ireturn, 638, []), (638, .iload 5, 640, []), (640, .ifCond .ne 22, 643, [662]), (643, .aload_n 3, 644, []), (644, .iconst 0, 645, []), (645, .laload, 646, []), (646, .iload 6, 648, []), (648, .ifCond .eq 7, 651, [655]), (651, .lconst 1, 652, []), (652, .goto 4, 655, [656]), (655, .lconst 0, 656, []), (656, .lcmp, 657, []), (657, .ifCond .eq 5, 660, [662]), (660, .iconst 0, 661, []), (661, .ireturn, 662, []), (662, .goto 872, 665, [1534]), (665, .aload_n 1, 666, []), (666, .invokevirtual 126, 669, []), (669, .aload_n 2, 670, []), (670, .invokevirtual 129, 673, []), (673, .if_icmp .eq 861, 676, [1534]), (676, .iconst 0, 677, []), (677, .ireturn, 678, []), (678, .aload_n 1, 679, []), (679, .aload_n 0, 680, []), (680, .iload 4, 682, []), (682, .iconst 1, 683, []), (683, .iadd, 684, []), (684, .iaload, 685, []), (685, .aload_n 3, 686, []), (686, .invokestatic 130, 689, []), (689, .istore 5, 691, []), (691, .aload_n 2, 692, []), (692, .aload_n 0, 693, []), (693, .iload 4, 695, []), (695, .iconst 1, 696, []), (696, .iadd, 697, []), (697, .iaload, 698, []), (698, .invokevirtual 132, 701, []), (701, .istore 6, 703, []), (703, .aload_n 2, 704, []), (704, .invokevirtual 92, 707, []), (707, .iload 5, 709, []), (709, .if_icmp .eq 5, 712, [714]), (712, .iconst 0, 713, []), (713, .ireturn, 714, []), (714, .iload 5, 716, []), (716, .ifCond .ne 15, 719, [731]), (719, .aload_n 3, 720, []), (720, .iconst 0, 721, []), (721, .laload, 722, []), (722, .iload 6, 724, []), (724, .i2l, 725, []), (725, .lcmp, 726, []), (726, .ifCond .eq 5, 729, [731]), (729, .iconst 0, 730, []), (730, .ireturn, 731, []), (731, .goto 803, 734, [1534]), (734, .aload_n 1, 735, []), (735, .aload_n 0, 736, []), (736, .iload 4, 738, []), (738, .iconst 1, 739, []), (739, .iadd, 740, []), (740, .iaload, 741, []), (741, .aload_n 0, 742, []), (742, .iload 4, 744, []), (744, .iconst 2, 745, []), (745, .iadd, 746, []), (746, .iaload, 747, []), (747, .aload_n 3, 748, []), (748, .invokestatic 133, 751, []), (751, .istore 5, 753, []), (753, .aload_n 2, 754, []), (754, .aload_n 0, 755, []), (755, .iload 4, 757, []), (757, .iconst 1, 758, []), (758, .iadd, 759, []), (759, .iaload, 760, []), (760, .aload_n 0, 761, []), (761, .iload 4, 763, []), (763, .iconst 2, 764, []), (764, .iadd, 765, []), (765, .iaload, 766, []), (766, .invokevirtual 135, 769, []), (769, .istore 6, 771, []), (771, .aload_n 2, 772, []), (772, .invokevirtual 92, 775, []), (775, .iload 5, 777, []), (777, .if_icmp .eq 5, 780, [782]), (780, .iconst 0, 781, []), (781, .ireturn, 782, []), (782, .iload 5, 784, []), (784, .ifCond .ne 15, 787, [799]), (787, .aload_n 3, 788, []), (788, .iconst 0, 789, []), (789, .laload, 790, []), (790, .iload 6, 792, []), (792, .i2l, 793, []), (793, .lcmp, 794, []), (794, .ifCond .eq 5, 797, [799]), (797, .iconst 0, 798, []), (798, .ireturn, 799, []), (799, .goto 735, 802, [1534]), (802, .aload_n 1, 803, []), (803, .aload_n 0, 804, []), (804, .iload 4, 806, []), (806, .iconst 1, 807, []), (807, .iadd, 808, []), (808, .iaload, 809, []), (809, .aload_n 0, 810, []), (810, .iload 4, 812, []), (812, .iconst 2, 813, []), (813, .iadd, 814, []), (814, .iaload, 815, []), (815, .ifCond .eq 7, 818, [822]), (818, .iconst 1, 819, []), (819, .goto 4, 822, [823]), (822, .iconst 0, 823, []), (823, .aload_n 0, 824, []), (824, .iload 4, 826, []), (826, .iconst 3, 827, []), (827, .iadd, 828, []), (828, .iaload, 829, []), (829, .ifCond .eq 7, 832, [836]), (832, .iconst 1, 833, []), (833, .goto 4, 836, [837]), (836, .iconst 0, 837, []), (837, .aload_n 3, 838, []), (838, .invokestatic 136, 841, []), (841, .istore 5, 843, []), (843, .aload_n 2, 844, []), (844, .aload_n 0, 845, []), (845, .iload 4, 847, []), (847, .iconst 1, 848, []), (848, .iadd, 849, []), (849, .iaload, 850, []), (850, .aload_n 0, 851, []), (851, .iload 4, 853, []), (853, .iconst 2, 854, []), (854, .iadd, 855, []), (855, .iaload, 856, []), (856, .ifCond .eq 7, 859, [863]), (859, .iconst 1, 860, []), (860, .goto 4, 863, [864]), (863, .iconst 0, 864, []), (864, .aload_n 0, 865, []), (865, .iload 4, 867, []), (867, .iconst 3, 868, []), (868, .iadd, 869, []), (869, .iaload, 870, []), (870, .ifCond .eq 7, 873, [877]), (873, .iconst 1, 874, []), (874, .goto 4, 877, [878]), (877, .iconst 0, 878, []), (878, .invokevirtual 139, 881, []), (881, .istore 6, 883, []), (883, .aload_n 2, 884, []), (884, .invokevirtual 92, 887, []), (887, .iload 5, 889, []), (889, .if_icmp .eq 5, 892, [894]), (892, .iconst 0, 893, []), (893, .ireturn, 894, []), (894, .iload 5, 896, []), (896, .ifCond .ne 15, 899, [911]), (899, .aload_n 3, 900, []), (900, .iconst 0, 901, []), (901, .laload, 902, []), (902, .iload 6, 904, []), (904, .i2l, 905, []), (905, .lcmp, 906, []), (906, .ifCond .eq 5, 909, [911]), (909, .iconst 0, 910, []), (910, .ireturn, 911, []), (911, .goto 623, 914, [1534]), (914, .aload_n 1, 915, []), (915, .aload_n 3, 916, []), (916, .invokestatic 140, 919, []), (919, .istore 5, 921, []), (921, .aload_n 2, 922, []), (922, .invokevirtual 142, 925, []), (925, .istore 6, 927, []), (927, .aload_n 2, 928, []), (928, .invokevirtual 92, 931, []), (931, .iload 5, 933, []), (933, .if_icmp .eq 5, 936, [938]), (936, .iconst 0, 937, []), (937, .ireturn, 938, []), (938, .iload 5, 940, []), (940, .ifCond .ne 15, 943, [955]), (943, .aload_n 3, 944, []), (944, .iconst 0, 945, []), (945, .laload, 946, []), (946, .iload 6, 948, []), (948, .i2l, 949, []), (949, .lcmp, 950, []), (950, .ifCond .eq 5, 953, [955]), (953, .iconst 0, 954, []), (954, .ireturn, 955, []), (955, .goto 579, 958, [1534]), (958, .aload_n 1, 959, []), (959, .aload_n 3, 960, []), (960, .invokestatic 143, 963, []), (963, .istore 5, 965, []), (965, .aload_n 2, 966, []), (966, .invokevirtual 145, 969, []), (969, .istore 6, 971, []), (971, .aload_n 2, 972, []), (972, .invokevirtual 92, 975, []), (975, .iload 5, 977, []), (977, .if_icmp .eq 5, 980, [982]), (980, .iconst 0, 981, []), (981, .ireturn, 982, []), (982, .iload 5, 984, []), (984, .ifCond .ne 15, 987, [999]), (987, .aload_n 3, 988, []), (988, .iconst 0, 989, []), (989, .laload, 990, []), (990, .iload 6, 992, []), (992, .i2l, 993, []), (993, .lcmp, 994, []), (994, .ifCond .eq 5, 997, [999]), (997, .iconst 0, 998, []), (998, .ireturn, 999, []), (999, .goto 535, 1002, [1534]), (1002, .aload_n 1, 1003, []), (1003, .aload_n 0, 1004, []), (1004, .iload 4, 1006, []), (1006, .iconst 1, 1007, []), (1007, .iadd, 1008, []), (1008, .iaload, 1009, []), (1009, .aload_n 0, 1010, []), (1010, .iload 4, 1012, []), (1012, .iconst 2, 1013, []), (1013, .iadd, 1014, []), (1014, .iaload, 1015, []), (1015, .aload_n 3, 1016, []), (1016, .invokestatic 146, 1019, []), (1019, .istore 5, 1021, []), (1021, .aload_n 2, 1022, []), (1022, .aload_n 0, 1023, []), (1023, .iload 4, 1025, []), (1025, .iconst 1, 1026, []), (1026, .iadd, 1027, []), (1027, .iaload, 1028, []), (1028, .aload_n 0, 1029, []), (1029, .iload 4, 1031, []), (1031, .iconst 2, 1032, []), (1032, .iadd, 1033, []), (1033, .iaload, 1034, []), (1034, .invokevirtual 148, 1037, []), (1037, .istore 6, 1039, []), (1039, .aload_n 2, 1040, []), (1040, .invokevirtual 92, 1043, []), (1043, .iload 5, 1045, []), (1045, .if_icmp .eq 5, 1048, [1050]), (1048, .iconst 0, 1049, []), (1049, .ireturn, 1050, []), (1050, .iload 5, 1052, []), (1052, .ifCond .ne 15, 1055, [1067]), (1055, .aload_n 3, 1056, []), (1056, .iconst 0, 1057, []), (1057, .laload, 1058, []), (1058, .iload 6, 1060, []), (1060, .i2l, 1061, []), (1061, .lcmp, 1062, []), (1062, .ifCond .eq 5, 1065, [1067]), (1065, .iconst 0, 1066, []), (1066, .ireturn, 1067, []), (1067, .goto 467, 1070, [1534]), (1070, .aload_n 1, 1071, []), (1071, .aload_n 0, 1072, []), (1072, .iload 4, 1074, []), (1074, .iconst 1, 1075, []), (1075, .iadd, 1076, []), (1076, .iaload, 1077, []), (1077, .aload_n 3, 1078, []), (1078, .invokestatic 149, 1081, []), (1081, .istore 5, 1083, []), (1083, .aload_n 2, 1084, []), (1084, .aload_n 0, 1085, []), (1085, .iload 4, 1087, []), (1087, .iconst 1, 1088, []), (1088, .iadd, 1089, []), (1089, .iaload, 1090, []), (1090, .invokevirtual 151, 1093, []), (1093, .istore 6, 1095, []), (1095, .aload_n 2, 1096, []), (1096, .invokevirtual 92, 1099, []), (1099, .iload 5, 1101, []), (1101, .if_icmp .eq 5, 1104, [1106]), (1104, .iconst 0, 1105, []), (1105, .ireturn, 1106, []), (1106, .iload 5, 1108, []), (1108, .ifCond .ne 15, 1111, [1123]), (1111, .aload_n 3, 1112, []), (1112, .iconst 0, 1113, []), (1113, .laload, 1114, []), (1114, .iload 6, 1116, []), (1116, .i2l, 1117, []), (1117, .lcmp, 1118, []), (1118, .ifCond .eq 5, 1121, [1123]), (1121, .iconst 0, 1122, []), (1122, .ireturn, 1123, []), (1123, .goto 411, 1126, [1534]), (1126, .aload_n 1, 1127, []), (1127, .aload_n 3, 1128, []), (1128, .invokestatic 152, 1131, []), (1131, .istore 5, 1133, []), (1133, .aload_n 2, 1134, []), (1134, .invokevirtual 154, 1137, []), (1137, .istore 6, 1139, []), (1139, .aload_n 2, 1140, []), (1140, .invokevirtual 92, 1143, []), (1143, .iload 5, 1145, []), (1145, .if_icmp .eq 5, 1148, [1150]), (1148, .iconst 0, 1149, []), (1149, .ireturn, 1150, []), (1150, .iload 5, 1152, []), (1152, .ifCond .ne 15, 1155, [1167]), (1155, .aload_n 3, 1156, []), (1156, .iconst 0, 1157, []), (1157, .laload, 1158, []), (1158, .iload 6, 1160, []), (1160, .i2l, 1161, []), (1161, .lcmp, 1162, []), (1162, .ifCond .eq 5, 1165, [1167]), (1165, .iconst 0, 1166, []), (1166, .ireturn, 1167, []), (1167, .goto 367, 1170, [1534]), (1170, .aload_n 1, 1171, []), (1171, .invokevirtual 155, 1174, []), (1174, .aload_n 2, 1175, []), (1175, .invokevirtual 158, 1178, []), (1178, .if_icmp .eq 356, 1181, [1534]), (1181, .iconst 0, 1182, []), (1182, .ireturn, 1183, []), (1183, .aload_n 1, 1184, []), (1184, .invokevirtual 159, 1187, []), (1187, .aload_n 2, 1188, []), (1188, .invokevirtual 162, 1191, []), (1191, .if_icmp .eq 343, 1194, [1534]), (1194, .iconst 0, 1195, []), (1195, .ireturn, 1196, []), (1196, .aload_n 1, 1197, []), (1197, .invokevirtual 163, 1200, []), (1200, .aload_n 2, 1201, []), (1201, .invokevirtual 166, 1204, []), (1204, .if_icmp .eq 330, 1207, [1534]), (1207, .iconst 0, 1208, []), (1208, .ireturn, 1209, []), (1209, .aload_n 1, 1210, []), (1210, .invokevirtual 167, 1213, []), (1213, .aload_n 2, 1214, []), (1214, .invokevirtual 170, 1217, []), (1217, .if_icmp .eq 317, 1220, [1534]), (1220, .iconst 0, 1221, []), (1221, .ireturn, 1222, []), (1222, .aload_n 1, 1223, []), (1223, .aload_n 0, 1224, []), (1224, .iload 4, 1226, []), (1226, .iconst 1, 1227, []), (1227, .iadd, 1228, []), (1228, .iaload, 1229, []), (1229, .aload_n 0, 1230, []), (1230, .iload 4, 1232, []), (1232, .iconst 2, 1233, []), (1233, .iadd, 1234, []), (1234, .iaload, 1235, []), (1235, .i2l, 1236, []), (1236, .bipush 32, 1238, []), (1238, .lshl, 1239, []), (1239, .aload_n 0, 1240, []), (1240, .iload 4, 1242, []), (1242, .iconst 3, 1243, []), (1243, .iadd, 1244, []), (1244, .iaload, 1245, []), (1245, .i2l, 1246, []), (1246, .ldc2_w 171, 1249, []), (1249, .land, 1250, []), (1250, .lor, 1251, []), (1251, .aload_n 3, 1252, []), (1252, .invokestatic 173, 1255, []), (1255, .istore 5, 1257, []), (1257, .aload_n 2, 1258, []), (1258, .aload_n 0, 1259, []), (1259, .iload 4, 1261, []), (1261, .iconst 1, 1262, []), (1262, .iadd, 1263, []), (1263, .iaload, 1264, []), (1264, .aload_n 0, 1265, []), (1265, .iload 4, 1267, []), (1267, .iconst 2, 1268, []), (1268, .iadd, 1269, []), (1269, .iaload, 1270, []), (1270, .i2l, 1271, []), (1271, .bipush 32, 1273, []), (1273, .lshl, 1274, []), (1274, .aload_n 0, 1275, []), (1275, .iload 4, 1277, []), (1277, .iconst 3, 1278, []), (1278, .iadd, 1279, []), (1279, .iaload, 1280, []), (1280, .i2l, 1281, []), (1281, .ldc2_w 171, 1284, []), (1284, .land, 1285, []), (1285, .lor, 1286, []), (1286, .invokevirtual 176, 1289, []), (1289, .istore 6, 1291, []), (1291, .aload_n 2, 1292, []), (1292, .invokevirtual 92, 1295, []), (1295, .iload 5, 1297, []), (1297, .if_icmp .eq 5, 1300, [1302]), (1300, .iconst 0, 1301, []), (1301, .ireturn, 1302, []), (1302, .iload 5, 1304, []), (1304, .ifCond .ne 15, 1307, [1319]), (1307, .aload_n 3, 1308, []), (1308, .iconst 0, 1309, []), (1309, .laload, 1310, []), (1310, .iload 6, 1312, []), (1312, .i2l, 1313, []), (1313, .lcmp, 1314, []), (1314, .ifCond .eq 5, 1317, [1319]), (1317, .iconst 0, 1318, []), (1318, .ireturn, 1319, []), (1319, .goto 215, 1322, [1534]), (1322, .aload_n 1, 1323, []), (1323, .aload_n 0, 1324, []), (1324, .iload 4, 1326, []), (1326, .iconst 1, 1327, []), (1327, .iadd, 1328, []), (1328, .iaload, 1329, []), (1329, .i2l, 1330, []), (1330, .bipush 32, 1332, []), (1332, .lshl, 1333, []), (1333, .aload_n 0, 1334, []), (1334, .iload 4, 1336, []), (1336, .iconst 2, 1337, []), (1337, .iadd, 1338, []), (1338, .iaload, 1339, []), (1339, .i2l, 1340, []), (1340, .ldc2_w 171, 1343, []), (1343, .land, 1344, []), (1344, .lor, 1345, []), (1345, .aload_n 0, 1346, []), (1346, .iload 4, 1348, []), (1348, .iconst 3, 1349, []), (1349, .iadd, 1350, []), (1350, .iaload, 1351, []), (1351, .aload_n 3, 1352, []), (1352, .invokestatic 177, 1355, []), (1355, .istore 5, 1357, []), (1357, .aload_n 2, 1358, []), (1358, .aload_n 0, 1359, []), (1359, .iload 4, 1361, []), (1361, .iconst 1, 1362, []), (1362, .iadd, 1363, []), (1363, .iaload, 1364, []), (1364, .i2l, 1365, []), (1365, .bipush 32, 1367, []), (1367, .lshl, 1368, []), (1368, .aload_n 0, 1369, []), (1369, .iload 4, 1371, []), (1371, .iconst 2, 1372, []), (1372, .iadd, 1373, []), (1373, .iaload, 1374, []), (1374, .i2l, 1375, []), (1375, .ldc2_w 171, 1378, []), (1378, .land, 1379, []), (1379, .lor, 1380, []), (1380, .aload_n 0, 1381, []), (1381, .iload 4, 1383, []), (1383, .iconst 3, 1384, []), (1384, .iadd, 1385, []), (1385, .iaload, 1386, []), (1386, .invokevirtual 180, 1389, []), (1389, .istore 6, 1391, []), (1391, .aload_n 2, 1392, []), (1392, .invokevirtual 92, 1395, []), (1395, .iload 5, 1397, []), (1397, .if_icmp .eq 5, 1400, [1402]), (1400, .iconst 0, 1401, []), (1401, .ireturn, 1402, []), (1402, .iload 5, 1404, []), (1404, .ifCond .ne 15, 1407, [1419]), (1407, .aload_n 3, 1408, []), (1408, .iconst 0, 1409, []), (1409, .laload, 1410, []), (1410, .iload 6, 1412, []), (1412, .i2l, 1413, []), (1413, .lcmp, 1414, []), (1414, .ifCond .eq 5, 1417, [1419]), (1417, .iconst 0, 1418, []), (1418, .ireturn, 1419, []), (1419, .goto 115, 1422, [1534]), (1422, .aload_n 1, 1423, []), (1423, .aload_n 0, 1424, []), (1424, .iload 4, 1426, []), (1426, .iconst 1, 1427, []), (1427, .iadd, 1428, []), (1428, .iaload, 1429, []), (1429, .aload_n 3, 1430, []), (1430, .invokestatic 181, 1433, []), (1433, .istore 5, 1435, []), (1435, .aload_n 2, 1436, []), (1436, .aload_n 0, 1437, []), (1437, .iload 4, 1439, []), (1439, .iconst 1, 1440, []), (1440, .iadd, 1441, []), (1441, .iaload, 1442, []), (1442, .invokevirtual 183, 1445, []), (1445, .istore 6, 1447, []), (1447, .aload_n 2, 1448, []), (1448, .invokevirtual 92, 1451, []), (1451, .iload 5, 1453, []), (1453, .if_icmp .eq 5, 1456, [1458]), (1456, .iconst 0, 1457, []), (1457, .ireturn, 1458, []), (1458, .iload 5, 1460, []), (1460, .ifCond .ne 15, 1463, [1475]), (1463, .aload_n 3, 1464, []), (1464, .iconst 0, 1465, []), (1465, .laload, 1466, []), (1466, .iload 6, 1468, []), (1468, .i2l, 1469, []), (1469, .lcmp, 1470, []), (1470, .ifCond .eq 5, 1473, [1475]), (1473, .iconst 0, 1474, []), (1474, .ireturn, 1475, []), (1475, .goto 59, 1478, [1534]), (1478, .aload_n 1, 1479, []), (1479, .aload_n 0, 1480, []), (1480, .iload 4, 1482, []), (1482, .iconst 1, 1483, []), (1483, .iadd, 1484, []), (1484, .iaload, 1485, []), (1485, .aload_n 3, 1486, []), (1486, .invokestatic 184, 1489, []), (1489, .istore 5, 1491, []), (1491, .aload_n 2, 1492, []), (1492, .aload_n 0, 1493, []), (1493, .iload 4, 1495, []), (1495, .iconst 1, 1496, []), (1496, .iadd, 1497, []), (1497, .iaload, 1498, []), (1498, .invokevirtual 186, 1501, []), (1501, .istore 6, 1503, []), (1503, .aload_n 2, 1504, []), (1504, .invokevirtual 92, 1507, []), (1507, .iload 5, 1509, []), (1509, .if_icmp .eq 5, 1512, [1514]), (1512, .iconst 0, 1513, []), (1513, .ireturn, 1514, []), (1514, .iload 5, 1516, []), (1516, .ifCond .ne 15, 1519, [1531]), (1519, .aload_n 3, 1520, []), (1520, .iconst 0, 1521, []), (1521, .laload, 1522, []), (1522, .iload 6, 1524, []), (1524, .i2l, 1525, []), (1525, .lcmp, 1526, []), (1526, .ifCond .eq 5, 1529, [1531]), (1529, .iconst 0, 1530, []), (1530, .ireturn, 1531, []), (1531, .goto 3, 1534, [1534]), (1534, .iinc 4 4, 1537, []), (1537, .goto (-1514), 1540, [23]), (1540, .iconst 1, 1541, []), (1541, .ireturn, 1542, [])]
def mi_L_law : MI := (cd_L_law, [], [(82, 90, 2, 1, 121, 2720, 0), (85, 125, 2, 1, 16, 3725, 0), (86, 208, 7, 3, 1, 6, 0), (91, 128, 0, 2, 0, 0, 7), (92, 126, 0, 1, 0, 0, 7), (95, 92, 0, 1, 0, 0, 6), (98, 129, 0, 1, 0, 0, 7), (99, 93, 0, 1, 0, 0, 6), (102, 135, 0, 1, 0, 0, 7), (103, 209, 7, 2, 1, 6, 0), (106, 136, 0, 1, 0, 0, 7), (107, 210, 7, 3, 1, 6, 0), (109, 152, 0, 2, 0, 0, 7), (110, 211, 7, 4, 2, 12, 0), (113, 153, 0, 3, 0, 0, 7), (114, 212, 7, 4, 2, 12, 0), (116, 154, 0, 3, 0, 0, 7), (117, 213, 7, 4, 2, 12, 0), (119, 158, 0, 3, 0, 0, 7), (120, 214, 7, 3, 1, 6, 0), (122, 161, 0, 2, 0, 0, 7), (123, 215, 7, 3, 1, 6, 0), (125, 169, 0, 2, 0, 0, 7), (126, 101, 0, 1, 0, 0, 6), (129, 173, 0, 1, 0, 0, 7), (130, 216, 7, 3, 1, 6, 0), (132, 174, 0, 2, 0, 0, 7), (133, 217, 7, 4, 2, 12, 0), (135, 177, 0, 3, 0, 0, 7), (136, 218, 7, 5, 2, 12, 0), (139, 180, 0, 4, 0, 0, 7), (140, 219, 7, 2, 1, 6, 0), (142, 182, 0, 1, 0, 0, 7), (143, 220, 7, 2, 1, 6, 0), (145, 183, 0, 1, 0, 0, 7), (146, 221, 7, 4, 3, 18, 0), (148, 185, 0, 3, 0, 0, 7), (149, 222, 7, 3, 1, 6, 0), (151, 187, 0, 2, 0, 0, 7), (152, 223, 7, 2, 1, 6, 0), (154, 188, 0, 1, 0, 0, 7), (155, 110, 0, 1, 0, 0, 6), (158, 189, 0, 1, 0, 0, 7), (159, 111, 0, 1, 0, 0, 6), (162, 191, 0, 1, 0, 0, 7), (163, 112, 0, 1, 0, 0, 6), (166, 193, 0, 1, 0, 0, 7), (167, 113, 0, 1, 0, 0, 6), (170, 194, 0, 1, 0, 0, 7), (173, 224, 7, 4, 1, 6, 0), (176, 200, 0, 3, 0, 0, 7), (177, 225, 7, 4, 1, 6, 0), (180, 201, 0, 3, 0, 0, 7), (181, 226, 7, 3, 1, 6, 0), (183, 203, 0, 2, 0, 0, 7), (184, 227, 7, 3, 2, 12, 0), (186, 204, 0, 2, 0, 0, 7)], [], [], [(8, 6), (83, 7)], [(171, 4294967295)], 601024, 7293034, 1)
def t_mI : List (Nat × MI) := [(0, mi_X0_succeeds), (1, mi_X0_putsLetter), (2, mi_X0_fillsEntry), (3, mi_X0_clearsEntry), (4, mi_X1_init), (5, mi_X1_count), (6, mi_X1_wordsThatFit), (7, mi_X1_giveFrom), (8, mi_X1_give), (9, mi_X1_agrees), (10, mi_X2_init), (11, mi_X2_count), (12, mi_X2_cellOfFirst), (13, mi_X2_visit), (14, mi_X2_visitBehind), (15, mi_X2_isAllowed), (16, mi_X2_keepPath), (17, mi_X3_init), (18, mi_X3_remember), (19, mi_X3_takeLast), (20, mi_X3_forgetActions), (21, mi_X3_at), (22, mi_X3_store), (23, mi_X3_isStored), (24, mi_X3_stored), (25, mi_X3_emptySlots), (26, mi_X4_init), (27, mi_X4_take), (28, mi_X4_changeBar), (29, mi_X4_layOut), (30, mi_X4_addEntry), (31, mi_X4_hasEntry), (32, mi_X4_isDown), (33, mi_X4_lengthOf), (34, mi_X4_cellOf), (35, mi_X4_indexIn), (36, mi_X4_entryAt), (37, mi_X4_clueAt), (38, mi_X4_entriesAt), (39, mi_X4_cellsInEntries), (40, mi_X4_uncheckedIn), (41, mi_X4_emptyIn), (42, mi_X4_fitsWord), (43, mi_X4_fitCount), (44, mi_X4_wordIn), (45, mi_X4_fillEntry), (46, mi_X4_clearEntry), (47, mi_X5_countKept), (48, mi_X5_areKept), (49, mi_X5_isSameTurned), (50, mi_X5_isCheckedEnough), (51, mi_X5_hasNoUncheckedPair), (52, mi_X5_isConnected), (53, mi_X5_spread), (54, mi_X6_init), (55, mi_X6_copyFrom), (56, mi_X6_begin), (57, mi_X6_cells), (58, mi_X6_hasCell), (59, mi_X6_columnOf), (60, mi_X6_rowOf), (61, mi_X6_letterAt), (62, mi_X6_setLetter), (63, mi_X6_emptyCells), (64, mi_X6_isPlace), (65, mi_X6_hasBar), (66, mi_X6_drawBar), (67, mi_X6_barCount), (68, mi_X6_isJoined), (69, mi_X6_hasWord), (70, mi_X6_lengthOfWord), (71, mi_X6_letterOfWord), (72, mi_X6_beginWord), (73, mi_X6_lengthenWord), (74, mi_X6_letterOfLine), (75, mi_X6_lengthenLine), (76, mi_X7_init), (77, mi_X7_isFull), (78, mi_X7_add), (79, mi_X7_empty), (80, mi_X7_signAt), (81, mi_X7_isWord), (82, mi_X7_readGrid), (83, mi_X7_goesPast), (84, mi_X7_readSize), (85, mi_X7_readCells), (86, mi_X7_readBar), (87, mi_X7_readParts), (88, mi_X7_readWord), (89, mi_X7_readLine), (90, mi_X8_init), (91, mi_X8_append), (92, mi_X8_clearText), (93, mi_X8_errorPosition), (94, mi_X8_load), (95, mi_X8_about), (96, mi_X8_cell), (97, mi_X8_entry), (98, mi_X8_word), (99, mi_X8_fits), (100, mi_X8_rule), (101, mi_X8_readings), (102, mi_X8_reading), (103, mi_X8_put), (104, mi_X8_setBar), (105, mi_X8_addWord), (106, mi_X8_setLine), (107, mi_X8_write), (108, mi_X8_erase), (109, mi_X8_undo), (110, mi_X8_possible), (111, mi_X8_fillings), (112, mi_X8_mend), (113, mi_X8_hardest), (114, mi_X8_runScript), (115, mi_X8_simulate), (116, mi_X8_save), (117, mi_X8_restore), (118, mi_X8_requireCell), (119, mi_X8_requireEntry), (120, mi_X8_requireWord), (121, mi_X8_requireSlot), (122, mi_X8_isLetter), (123, mi_X8_withoutGroups), (124, mi_X8_simulateRound), (125, mi_X9_init), (126, mi_X9_thrown), (127, mi_X9_move), (128, mi_X9_append), (129, mi_X9_clearText), (130, mi_X9_character), (131, mi_X9_isLetter), (132, mi_X9_isSide), (133, mi_X9_readText), (134, mi_X9_readParts), (135, mi_X9_errorPosition), (136, mi_X9_load), (137, mi_X9_size), (138, mi_X9_isCell), (139, mi_X9_isLastColumn), (140, mi_X9_isLastRow), (141, mi_X9_endsRight), (142, mi_X9_endsBelow), (143, mi_X9_findEntries), (144, mi_X9_addEntry), (145, mi_X9_isEntry), (146, mi_X9_cellOf), (147, mi_X9_entriesOf), (148, mi_X9_uncheckedIn), (149, mi_X9_emptyIn), (150, mi_X9_cellsIn), (151, mi_X9_bars), (152, mi_X9_about), (153, mi_X9_cell), (154, mi_X9_entry), (155, mi_X9_wordIn), (156, mi_X9_isWord), (157, mi_X9_letterOf), (158, mi_X9_word), (159, mi_X9_isFitting), (160, mi_X9_fitsOf), (161, mi_X9_fits), (162, mi_X9_isTurned), (163, mi_X9_isWellChecked), (164, mi_X9_isWithoutPairs), (165, mi_X9_isConnected), (166, mi_X9_keeps), (167, mi_X9_kept), (168, mi_X9_isRule), (169, mi_X9_rule), (170, mi_X9_isKnightStep), (171, mi_X9_canRead), (172, mi_X9_countReadings), (173, mi_X9_readings), (174, mi_X9_reading), (175, mi_X9_remember), (176, mi_X9_isWritable), (177, mi_X9_put), (178, mi_X9_isRim), (179, mi_X9_bar), (180, mi_X9_setBar), (181, mi_X9_isLetters), (182, mi_X9_addWord), (183, mi_X9_setLine), (184, mi_X9_writeWord), (185, mi_X9_write), (186, mi_X9_eraseEntry), (187, mi_X9_erase), (188, mi_X9_undo), (189, mi_X9_possible), (190, mi_X9_canFill), (191, mi_X9_fillings), (192, mi_X9_change), (193, mi_X9_mend), (194, mi_X9_hardest), (195, mi_X9_putsLetter), (196, mi_X9_setsBar), (197, mi_X9_writes), (198, mi_X9_erases), (199, mi_X9_runs), (200, mi_X9_runScript), (201, mi_X9_simulate), (202, mi_X9_isSlot), (203, mi_X9_save), (204, mi_X9_restore), (205, mi_J13_bitCount_95d88), (206, mi_J9_floorMod_7cf53), (207, mi_J7_fill_53178), (208, mi_L_append), (209, mi_L_load), (210, mi_L_about), (211, mi_L_cell), (212, mi_L_entry), (213, mi_L_word), (214, mi_L_fits), (215, mi_L_rule), (216, mi_L_reading), (217, mi_L_put), (218, mi_L_setBar), (219, mi_L_addWord), (220, mi_L_setLine), (221, mi_L_write), (222, mi_L_erase), (223, mi_L_undo), (224, mi_L_runScript), (225, mi_L_simulate), (226, mi_L_save), (227, mi_L_restore), (228, mi_L_law)]
def mI (y : Nat) : MI := (lk t_mI y).getD ([], [], [], [], [], [], [], 0, 0, 0)
def t_mN : List (Nat × MethodName) := [(0, yX0_succeeds), (1, yX0_putsLetter), (2, yX0_fillsEntry), (3, yX0_clearsEntry), (4, yX1_init), (5, yX1_count), (6, yX1_wordsThatFit), (7, yX1_giveFrom), (8, yX1_give), (9, yX1_agrees), (10, yX2_init), (11, yX2_count), (12, yX2_cellOfFirst), (13, yX2_visit), (14, yX2_visitBehind), (15, yX2_isAllowed), (16, yX2_keepPath), (17, yX3_init), (18, yX3_remember), (19, yX3_takeLast), (20, yX3_forgetActions), (21, yX3_at), (22, yX3_store), (23, yX3_isStored), (24, yX3_stored), (25, yX3_emptySlots), (26, yX4_init), (27, yX4_take), (28, yX4_changeBar), (29, yX4_layOut), (30, yX4_addEntry), (31, yX4_hasEntry), (32, yX4_isDown), (33, yX4_lengthOf), (34, yX4_cellOf), (35, yX4_indexIn), (36, yX4_entryAt), (37, yX4_clueAt), (38, yX4_entriesAt), (39, yX4_cellsInEntries), (40, yX4_uncheckedIn), (41, yX4_emptyIn), (42, yX4_fitsWord), (43, yX4_fitCount), (44, yX4_wordIn), (45, yX4_fillEntry), (46, yX4_clearEntry), (47, yX5_countKept), (48, yX5_areKept), (49, yX5_isSameTurned), (50, yX5_isCheckedEnough), (51, yX5_hasNoUncheckedPair), (52, yX5_isConnected), (53, yX5_spread), (54, yX6_init), (55, yX6_copyFrom), (56, yX6_begin), (57, yX6_cells), (58, yX6_hasCell), (59, yX6_columnOf), (60, yX6_rowOf), (61, yX6_letterAt), (62, yX6_setLetter), (63, yX6_emptyCells), (64, yX6_isPlace), (65, yX6_hasBar), (66, yX6_drawBar), (67, yX6_barCount), (68, yX6_isJoined), (69, yX6_hasWord), (70, yX6_lengthOfWord), (71, yX6_letterOfWord), (72, yX6_beginWord), (73, yX6_lengthenWord), (74, yX6_letterOfLine), (75, yX6_lengthenLine), (76, yX7_init), (77, yX7_isFull), (78, yX7_add), (79, yX7_empty), (80, yX7_signAt), (81, yX7_isWord), (82, yX7_readGrid), (83, yX7_goesPast), (84, yX7_readSize), (85, yX7_readCells), (86, yX7_readBar), (87, yX7_readParts), (88, yX7_readWord), (89, yX7_readLine), (90, yX8_init), (91, yX8_append), (92, yX8_clearText), (93, yX8_errorPosition), (94, yX8_load), (95, yX8_about), (96, yX8_cell), (97, yX8_entry), (98, yX8_word), (99, yX8_fits), (100, yX8_rule), (101, yX8_readings), (102, yX8_reading), (103, yX8_put), (104, yX8_setBar), (105, yX8_addWord), (106, yX8_setLine), (107, yX8_write), (108, yX8_erase), (109, yX8_undo), (110, yX8_possible), (111, yX8_fillings), (112, yX8_mend), (113, yX8_hardest), (114, yX8_runScript), (115, yX8_simulate), (116, yX8_save), (117, yX8_restore), (118, yX8_requireCell), (119, yX8_requireEntry), (120, yX8_requireWord), (121, yX8_requireSlot), (122, yX8_isLetter), (123, yX8_withoutGroups), (124, yX8_simulateRound), (125, yX9_init), (126, yX9_thrown), (127, yX9_move), (128, yX9_append), (129, yX9_clearText), (130, yX9_character), (131, yX9_isLetter), (132, yX9_isSide), (133, yX9_readText), (134, yX9_readParts), (135, yX9_errorPosition), (136, yX9_load), (137, yX9_size), (138, yX9_isCell), (139, yX9_isLastColumn), (140, yX9_isLastRow), (141, yX9_endsRight), (142, yX9_endsBelow), (143, yX9_findEntries), (144, yX9_addEntry), (145, yX9_isEntry), (146, yX9_cellOf), (147, yX9_entriesOf), (148, yX9_uncheckedIn), (149, yX9_emptyIn), (150, yX9_cellsIn), (151, yX9_bars), (152, yX9_about), (153, yX9_cell), (154, yX9_entry), (155, yX9_wordIn), (156, yX9_isWord), (157, yX9_letterOf), (158, yX9_word), (159, yX9_isFitting), (160, yX9_fitsOf), (161, yX9_fits), (162, yX9_isTurned), (163, yX9_isWellChecked), (164, yX9_isWithoutPairs), (165, yX9_isConnected), (166, yX9_keeps), (167, yX9_kept), (168, yX9_isRule), (169, yX9_rule), (170, yX9_isKnightStep), (171, yX9_canRead), (172, yX9_countReadings), (173, yX9_readings), (174, yX9_reading), (175, yX9_remember), (176, yX9_isWritable), (177, yX9_put), (178, yX9_isRim), (179, yX9_bar), (180, yX9_setBar), (181, yX9_isLetters), (182, yX9_addWord), (183, yX9_setLine), (184, yX9_writeWord), (185, yX9_write), (186, yX9_eraseEntry), (187, yX9_erase), (188, yX9_undo), (189, yX9_possible), (190, yX9_canFill), (191, yX9_fillings), (192, yX9_change), (193, yX9_mend), (194, yX9_hardest), (195, yX9_putsLetter), (196, yX9_setsBar), (197, yX9_writes), (198, yX9_erases), (199, yX9_runs), (200, yX9_runScript), (201, yX9_simulate), (202, yX9_isSlot), (203, yX9_save), (204, yX9_restore), (205, yJ13_bitCount_95d88), (206, yJ9_floorMod_7cf53), (207, yJ7_fill_53178), (208, yL_append), (209, yL_load), (210, yL_about), (211, yL_cell), (212, yL_entry), (213, yL_word), (214, yL_fits), (215, yL_rule), (216, yL_reading), (217, yL_put), (218, yL_setBar), (219, yL_addWord), (220, yL_setLine), (221, yL_write), (222, yL_erase), (223, yL_undo), (224, yL_runScript), (225, yL_simulate), (226, yL_save), (227, yL_restore), (228, yL_law)]
def mN (y : Nat) : MethodName := (lk t_mN y).getD ⟨"", "", ""⟩
def t_mB : List (Nat × ByteArray) := [(0, cX0_succeeds), (1, cX0_putsLetter), (2, cX0_fillsEntry), (3, cX0_clearsEntry), (4, cX1_init), (5, cX1_count), (6, cX1_wordsThatFit), (7, cX1_giveFrom), (8, cX1_give), (9, cX1_agrees), (10, cX2_init), (11, cX2_count), (12, cX2_cellOfFirst), (13, cX2_visit), (14, cX2_visitBehind), (15, cX2_isAllowed), (16, cX2_keepPath), (17, cX3_init), (18, cX3_remember), (19, cX3_takeLast), (20, cX3_forgetActions), (21, cX3_at), (22, cX3_store), (23, cX3_isStored), (24, cX3_stored), (25, cX3_emptySlots), (26, cX4_init), (27, cX4_take), (28, cX4_changeBar), (29, cX4_layOut), (30, cX4_addEntry), (31, cX4_hasEntry), (32, cX4_isDown), (33, cX4_lengthOf), (34, cX4_cellOf), (35, cX4_indexIn), (36, cX4_entryAt), (37, cX4_clueAt), (38, cX4_entriesAt), (39, cX4_cellsInEntries), (40, cX4_uncheckedIn), (41, cX4_emptyIn), (42, cX4_fitsWord), (43, cX4_fitCount), (44, cX4_wordIn), (45, cX4_fillEntry), (46, cX4_clearEntry), (47, cX5_countKept), (48, cX5_areKept), (49, cX5_isSameTurned), (50, cX5_isCheckedEnough), (51, cX5_hasNoUncheckedPair), (52, cX5_isConnected), (53, cX5_spread), (54, cX6_init), (55, cX6_copyFrom), (56, cX6_begin), (57, cX6_cells), (58, cX6_hasCell), (59, cX6_columnOf), (60, cX6_rowOf), (61, cX6_letterAt), (62, cX6_setLetter), (63, cX6_emptyCells), (64, cX6_isPlace), (65, cX6_hasBar), (66, cX6_drawBar), (67, cX6_barCount), (68, cX6_isJoined), (69, cX6_hasWord), (70, cX6_lengthOfWord), (71, cX6_letterOfWord), (72, cX6_beginWord), (73, cX6_lengthenWord), (74, cX6_letterOfLine), (75, cX6_lengthenLine), (76, cX7_init), (77, cX7_isFull), (78, cX7_add), (79, cX7_empty), (80, cX7_signAt), (81, cX7_isWord), (82, cX7_readGrid), (83, cX7_goesPast), (84, cX7_readSize), (85, cX7_readCells), (86, cX7_readBar), (87, cX7_readParts), (88, cX7_readWord), (89, cX7_readLine), (90, cX8_init), (91, cX8_append), (92, cX8_clearText), (93, cX8_errorPosition), (94, cX8_load), (95, cX8_about), (96, cX8_cell), (97, cX8_entry), (98, cX8_word), (99, cX8_fits), (100, cX8_rule), (101, cX8_readings), (102, cX8_reading), (103, cX8_put), (104, cX8_setBar), (105, cX8_addWord), (106, cX8_setLine), (107, cX8_write), (108, cX8_erase), (109, cX8_undo), (110, cX8_possible), (111, cX8_fillings), (112, cX8_mend), (113, cX8_hardest), (114, cX8_runScript), (115, cX8_simulate), (116, cX8_save), (117, cX8_restore), (118, cX8_requireCell), (119, cX8_requireEntry), (120, cX8_requireWord), (121, cX8_requireSlot), (122, cX8_isLetter), (123, cX8_withoutGroups), (124, cX8_simulateRound), (125, cX9_init), (126, cX9_thrown), (127, cX9_move), (128, cX9_append), (129, cX9_clearText), (130, cX9_character), (131, cX9_isLetter), (132, cX9_isSide), (133, cX9_readText), (134, cX9_readParts), (135, cX9_errorPosition), (136, cX9_load), (137, cX9_size), (138, cX9_isCell), (139, cX9_isLastColumn), (140, cX9_isLastRow), (141, cX9_endsRight), (142, cX9_endsBelow), (143, cX9_findEntries), (144, cX9_addEntry), (145, cX9_isEntry), (146, cX9_cellOf), (147, cX9_entriesOf), (148, cX9_uncheckedIn), (149, cX9_emptyIn), (150, cX9_cellsIn), (151, cX9_bars), (152, cX9_about), (153, cX9_cell), (154, cX9_entry), (155, cX9_wordIn), (156, cX9_isWord), (157, cX9_letterOf), (158, cX9_word), (159, cX9_isFitting), (160, cX9_fitsOf), (161, cX9_fits), (162, cX9_isTurned), (163, cX9_isWellChecked), (164, cX9_isWithoutPairs), (165, cX9_isConnected), (166, cX9_keeps), (167, cX9_kept), (168, cX9_isRule), (169, cX9_rule), (170, cX9_isKnightStep), (171, cX9_canRead), (172, cX9_countReadings), (173, cX9_readings), (174, cX9_reading), (175, cX9_remember), (176, cX9_isWritable), (177, cX9_put), (178, cX9_isRim), (179, cX9_bar), (180, cX9_setBar), (181, cX9_isLetters), (182, cX9_addWord), (183, cX9_setLine), (184, cX9_writeWord), (185, cX9_write), (186, cX9_eraseEntry), (187, cX9_erase), (188, cX9_undo), (189, cX9_possible), (190, cX9_canFill), (191, cX9_fillings), (192, cX9_change), (193, cX9_mend), (194, cX9_hardest), (195, cX9_putsLetter), (196, cX9_setsBar), (197, cX9_writes), (198, cX9_erases), (199, cX9_runs), (200, cX9_runScript), (201, cX9_simulate), (202, cX9_isSlot), (203, cX9_save), (204, cX9_restore), (205, cJ13_bitCount_95d88), (206, cJ9_floorMod_7cf53), (207, cJ7_fill_53178), (208, cL_append), (209, cL_load), (210, cL_about), (211, cL_cell), (212, cL_entry), (213, cL_word), (214, cL_fits), (215, cL_rule), (216, cL_reading), (217, cL_put), (218, cL_setBar), (219, cL_addWord), (220, cL_setLine), (221, cL_write), (222, cL_erase), (223, cL_undo), (224, cL_runScript), (225, cL_simulate), (226, cL_save), (227, cL_restore), (228, cL_law)]
def mB (y : Nat) : ByteArray := (lk t_mB y).getD ⟨#[]⟩
def t_mL : List (Nat × Nat) := [(0, 10), (1, 4), (2, 3), (3, 2), (4, 1), (5, 3), (6, 4), (7, 5), (8, 4), (9, 8), (10, 1), (11, 5), (12, 2), (13, 5), (14, 8), (15, 5), (16, 2), (17, 2), (18, 2), (19, 1), (20, 1), (21, 2), (22, 3), (23, 2), (24, 2), (25, 2), (26, 1), (27, 2), (28, 4), (29, 4), (30, 9), (31, 2), (32, 2), (33, 2), (34, 3), (35, 3), (36, 3), (37, 2), (38, 2), (39, 4), (40, 4), (41, 4), (42, 5), (43, 4), (44, 3), (45, 5), (46, 7), (47, 3), (48, 2), (49, 3), (50, 2), (51, 3), (52, 8), (53, 8), (54, 1), (55, 2), (56, 3), (57, 1), (58, 2), (59, 2), (60, 2), (61, 2), (62, 3), (63, 3), (64, 3), (65, 5), (66, 6), (67, 1), (68, 3), (69, 2), (70, 2), (71, 3), (72, 1), (73, 4), (74, 2), (75, 2), (76, 1), (77, 1), (78, 2), (79, 2), (80, 2), (81, 3), (82, 1), (83, 2), (84, 3), (85, 3), (86, 4), (87, 3), (88, 2), (89, 2), (90, 1), (91, 2), (92, 1), (93, 1), (94, 1), (95, 2), (96, 3), (97, 3), (98, 3), (99, 2), (100, 2), (101, 1), (102, 3), (103, 4), (104, 4), (105, 2), (106, 2), (107, 3), (108, 2), (109, 1), (110, 1), (111, 1), (112, 9), (113, 5), (114, 6), (115, 7), (116, 2), (117, 2), (118, 2), (119, 2), (120, 2), (121, 1), (122, 1), (123, 6), (124, 6), (125, 1), (126, 1), (127, 5), (128, 2), (129, 2), (130, 2), (131, 1), (132, 1), (133, 3), (134, 8), (135, 1), (136, 1), (137, 1), (138, 2), (139, 2), (140, 2), (141, 2), (142, 2), (143, 7), (144, 5), (145, 2), (146, 3), (147, 2), (148, 4), (149, 4), (150, 4), (151, 3), (152, 6), (153, 3), (154, 3), (155, 3), (156, 2), (157, 3), (158, 3), (159, 6), (160, 4), (161, 2), (162, 4), (163, 3), (164, 4), (165, 4), (166, 2), (167, 3), (168, 1), (169, 2), (170, 5), (171, 7), (172, 7), (173, 1), (174, 2), (175, 2), (176, 1), (177, 4), (178, 3), (179, 4), (180, 4), (181, 4), (182, 3), (183, 2), (184, 4), (185, 4), (186, 7), (187, 2), (188, 1), (189, 1), (190, 8), (191, 4), (192, 3), (193, 7), (194, 5), (195, 5), (196, 5), (197, 4), (198, 3), (199, 9), (200, 10), (201, 9), (202, 1), (203, 2), (204, 2), (205, 2), (206, 3), (207, 4), (208, 4), (209, 3), (210, 4), (211, 5), (212, 5), (213, 5), (214, 4), (215, 4), (216, 4), (217, 5), (218, 6), (219, 3), (220, 3), (221, 5), (222, 4), (223, 3), (224, 6), (225, 6), (226, 4), (227, 4), (228, 7)]
def mL (y : Nat) : Nat := (lk t_mL y).getD 0
def t_mR : List (Nat × (Option FieldType)) := [(0, (some .boolean)), (1, (some .boolean)), (2, (some .boolean)), (3, (some .boolean)), (4, none), (5, (some .int)), (6, (some .int)), (7, none), (8, none), (9, (some .boolean)), (10, none), (11, (some .int)), (12, (some .int)), (13, none), (14, none), (15, (some .boolean)), (16, none), (17, none), (18, none), (19, (some (.object "BarredGrid$State"))), (20, none), (21, (some (.object "BarredGrid$State"))), (22, none), (23, (some .boolean)), (24, (some (.object "BarredGrid$State"))), (25, none), (26, none), (27, none), (28, (some .boolean)), (29, none), (30, none), (31, (some .boolean)), (32, (some .boolean)), (33, (some .int)), (34, (some .int)), (35, (some .int)), (36, (some .int)), (37, (some .int)), (38, (some .int)), (39, (some .int)), (40, (some .int)), (41, (some .int)), (42, (some .boolean)), (43, (some .int)), (44, (some .int)), (45, (some .int)), (46, (some .int)), (47, (some .int)), (48, (some .boolean)), (49, (some .boolean)), (50, (some .boolean)), (51, (some .boolean)), (52, (some .boolean)), (53, (some .long)), (54, none), (55, none), (56, none), (57, (some .int)), (58, (some .boolean)), (59, (some .int)), (60, (some .int)), (61, (some .int)), (62, none), (63, (some .int)), (64, (some .boolean)), (65, (some .boolean)), (66, none), (67, (some .int)), (68, (some .boolean)), (69, (some .boolean)), (70, (some .int)), (71, (some .int)), (72, none), (73, none), (74, (some .int)), (75, none), (76, none), (77, (some .boolean)), (78, (some .int)), (79, (some .int)), (80, (some .int)), (81, (some .boolean)), (82, (some .int)), (83, (some .boolean)), (84, (some .boolean)), (85, (some .boolean)), (86, none), (87, (some .boolean)), (88, (some .boolean)), (89, (some .boolean)), (90, none), (91, (some .int)), (92, (some .int)), (93, (some .int)), (94, (some .int)), (95, (some .int)), (96, (some .int)), (97, (some .int)), (98, (some .int)), (99, (some .int)), (100, (some .boolean)), (101, (some .int)), (102, (some .int)), (103, (some .int)), (104, (some .int)), (105, (some .int)), (106, (some .int)), (107, (some .int)), (108, (some .int)), (109, (some .int)), (110, (some .int)), (111, (some .int)), (112, (some .int)), (113, (some .int)), (114, (some .int)), (115, (some .int)), (116, (some .int)), (117, (some .int)), (118, none), (119, none), (120, none), (121, none), (122, (some .boolean)), (123, (some .long)), (124, none), (125, none), (126, (some .int)), (127, none), (128, (some .int)), (129, (some .int)), (130, (some .int)), (131, (some .boolean)), (132, (some .boolean)), (133, (some .int)), (134, (some .int)), (135, (some .int)), (136, (some .int)), (137, (some .int)), (138, (some .boolean)), (139, (some .boolean)), (140, (some .boolean)), (141, (some .boolean)), (142, (some .boolean)), (143, none), (144, none), (145, (some .boolean)), (146, (some .int)), (147, (some .int)), (148, (some .int)), (149, (some .int)), (150, (some .int)), (151, (some .int)), (152, (some .int)), (153, (some .int)), (154, (some .int)), (155, (some .int)), (156, (some .boolean)), (157, (some .int)), (158, (some .int)), (159, (some .boolean)), (160, (some .int)), (161, (some .int)), (162, (some .boolean)), (163, (some .boolean)), (164, (some .boolean)), (165, (some .boolean)), (166, (some .boolean)), (167, (some .int)), (168, (some .boolean)), (169, (some .boolean)), (170, (some .boolean)), (171, (some .boolean)), (172, (some .int)), (173, (some .int)), (174, (some .int)), (175, none), (176, (some .boolean)), (177, (some .int)), (178, (some .boolean)), (179, none), (180, (some .int)), (181, (some .boolean)), (182, (some .int)), (183, (some .int)), (184, none), (185, (some .int)), (186, (some .int)), (187, (some .int)), (188, (some .int)), (189, (some .int)), (190, (some .boolean)), (191, (some .int)), (192, none), (193, (some .int)), (194, (some .int)), (195, (some .boolean)), (196, (some .boolean)), (197, (some .boolean)), (198, (some .boolean)), (199, (some .boolean)), (200, (some .int)), (201, (some .int)), (202, (some .boolean)), (203, (some .int)), (204, (some .int)), (205, (some .int)), (206, (some .int)), (207, none), (208, (some .int)), (209, (some .int)), (210, (some .int)), (211, (some .int)), (212, (some .int)), (213, (some .int)), (214, (some .int)), (215, (some .int)), (216, (some .int)), (217, (some .int)), (218, (some .int)), (219, (some .int)), (220, (some .int)), (221, (some .int)), (222, (some .int)), (223, (some .int)), (224, (some .int)), (225, (some .int)), (226, (some .int)), (227, (some .int)), (228, (some .boolean))]
def mR (y : Nat) : (Option FieldType) := (lk t_mR y).getD none
def t_mH : List (Nat × (List (Nat × Nat × Nat × Nat))) := [(0, []), (1, []), (2, []), (3, []), (4, []), (5, []), (6, []), (7, []), (8, []), (9, []), (10, []), (11, []), (12, []), (13, []), (14, []), (15, []), (16, []), (17, []), (18, []), (19, []), (20, []), (21, []), (22, []), (23, []), (24, []), (25, []), (26, []), (27, []), (28, []), (29, []), (30, []), (31, []), (32, []), (33, []), (34, []), (35, []), (36, []), (37, []), (38, []), (39, []), (40, []), (41, []), (42, []), (43, []), (44, []), (45, []), (46, []), (47, []), (48, []), (49, []), (50, []), (51, []), (52, []), (53, []), (54, []), (55, []), (56, []), (57, []), (58, []), (59, []), (60, []), (61, []), (62, []), (63, []), (64, []), (65, []), (66, []), (67, []), (68, []), (69, []), (70, []), (71, []), (72, []), (73, []), (74, []), (75, []), (76, []), (77, []), (78, []), (79, []), (80, []), (81, []), (82, []), (83, []), (84, []), (85, []), (86, []), (87, []), (88, []), (89, []), (90, []), (91, []), (92, []), (93, []), (94, []), (95, []), (96, []), (97, []), (98, []), (99, []), (100, []), (101, []), (102, []), (103, []), (104, []), (105, []), (106, []), (107, []), (108, []), (109, []), (110, []), (111, []), (112, []), (113, []), (114, []), (115, []), (116, []), (117, []), (118, []), (119, []), (120, []), (121, []), (122, []), (123, []), (124, []), (125, []), (126, []), (127, []), (128, []), (129, []), (130, []), (131, []), (132, []), (133, []), (134, []), (135, []), (136, []), (137, []), (138, []), (139, []), (140, []), (141, []), (142, []), (143, []), (144, []), (145, []), (146, []), (147, []), (148, []), (149, []), (150, []), (151, []), (152, []), (153, []), (154, []), (155, []), (156, []), (157, []), (158, []), (159, []), (160, []), (161, []), (162, []), (163, []), (164, []), (165, []), (166, []), (167, []), (168, []), (169, []), (170, []), (171, []), (172, []), (173, []), (174, []), (175, []), (176, []), (177, []), (178, []), (179, []), (180, []), (181, []), (182, []), (183, []), (184, []), (185, []), (186, []), (187, []), (188, []), (189, []), (190, []), (191, []), (192, []), (193, []), (194, []), (195, []), (196, []), (197, []), (198, []), (199, []), (200, []), (201, []), (202, []), (203, []), (204, []), (205, []), (206, []), (207, []), (208, [(0, 9, 12, 13), (0, 9, 15, 15)]), (209, [(0, 8, 11, 15)]), (210, [(0, 9, 12, 13)]), (211, [(0, 10, 13, 28), (0, 10, 17, 13)]), (212, [(0, 10, 13, 28), (0, 10, 17, 13)]), (213, [(0, 10, 13, 28), (0, 10, 17, 13)]), (214, [(0, 9, 12, 28)]), (215, [(0, 16, 19, 13)]), (216, [(0, 9, 12, 13)]), (217, [(0, 10, 13, 28), (0, 10, 17, 13)]), (218, [(0, 12, 15, 28), (0, 12, 19, 13)]), (219, [(0, 8, 11, 15)]), (220, [(0, 8, 11, 15)]), (221, [(0, 10, 13, 28), (0, 10, 17, 15)]), (222, [(0, 9, 12, 28)]), (223, [(0, 8, 11, 15)]), (224, [(0, 11, 14, 13)]), (225, [(0, 11, 14, 13)]), (226, [(0, 9, 12, 28)]), (227, [(0, 9, 12, 28), (0, 9, 15, 15)]), (228, [])]
def mH (y : Nat) : (List (Nat × Nat × Nat × Nat)) := (lk t_mH y).getD []
end
section
/-! ===== the calls: T d y: method y, called with no more than d calls open, ends with Q ===== -/
def T : Nat → AC
  | 0 => fun _ _ _ _ _ => False
  | d + 1 => fun y as h N Q => (aArgs as).length ≤ mL y ∧ Run (mI y) (T d) Q 0 (aEnt (mL y) as) [] h N 0 0
/-- the code's word -/
def mW (y : Nat) : Jvm.Cond := match mH y with
  | [] => .code (mN y) (mB y) (mL y) (mR y)
  | hh => .codeWith (mN y) (mB y) (mL y) (mR y) hh
def mWs (y : Nat) : List Jvm.Cond := mW y :: wG
def rmT (d y : Nat) : Room := { frames := d + 8, cells := (mI y).mc, slots := (mI y).ms, locals := 100 + 40 * d }
end
section
/-! ===== what never changes; a method's start ===== -/
def aExc : List String := ["java/lang/IllegalArgumentException", "java/lang/IllegalStateException", "java/lang/IndexOutOfBoundsException"]
/-- the links between nest mates: own, pool index, the method's number, the host -/
def aNest : List (String × Nat × Nat × String) := [(RX0, 63, 122, RX8), (RX3, 31, 54, RX8), (RX4, 11, 54, RX8), (RX7, 17, 54, RX8), (RX7, 33, 122, RX8), (RX8, 9, 76, RX8), (RX8, 35, 10, RX8), (RX8, 42, 4, RX8)]
/-- the texts of the exceptions: pool index, text -/
def aStr : List (Nat × String) := [(49, "no character code"), (60, "the text is full"), (74, "the text is not a grid"), (129, "what is not 0 to 10"), (152, "what is not 0 to 6"), (180, "no such letter"), (188, "no such rule"), (201, "no such cell of a reading"), (209, "neither a letter nor 0"), (221, "there is the rim"), (230, "the text is no word, or there are 8 words"), (244, "the text is no line"), (253, "the entry does not fit the word"), (264, "no state is remembered"), (280, "n or script is out of range"), (290, "m is out of range"), (309, "nothing has been saved in the slot"), (320, "no such cell"), (326, "no such entry"), (331, "no such word"), (333, "no such save slot")]
def aDcl : List MethodName := [Bundle.initS "java/lang/RuntimeException", Bundle.initS "java/lang/Exception", Bundle.initS Bundle.tN]
def Amb (E : AEnv) (s : State) : Prop :=
  AmbH E s ∧ va_K (gD E) vwCl (gT E) s ∧ va_AO RX6 s ∧ (∀ q ∈ aNest, va_Nw (.methodLinkNest q.1 q.2.1 (mN q.2.2.1) q.2.2.2) s) ∧
  (va_Nw (.fieldLinkNest RX2 68 RX8 "STEP_ROWS" "[I" RX8) s ∧ va_Z RX8 "STEP_ROWS" "[I" (.ref (gr E)) (gA E) s s.heap) ∧
  (va_Nw (.fieldLinkNest RX2 71 RX8 "STEP_COLUMNS" "[I" RX8) s ∧ va_Z RX8 "STEP_COLUMNS" "[I" (.ref (gc E)) (gA E) s s.heap) ∧
  vx_Zq Bundle.tN "UNASSIGNED_STACK" Bundle.steD (gA E) s s.heap ∧ vx_Zq Bundle.tN "SUPPRESSED_SENTINEL" Bundle.listD (gA E) s s.heap ∧
  (∀ q ∈ aStr, ∃ sa, vk_R RX8 q.1 q.2 sa s) ∧ (∀ X ∈ aExc, va_Nw (.castable X X) s) ∧ (∀ X ∈ aExc, ∀ Y ∈ aExc, X ≠ Y → va_Nc X Y s) ∧ ∀ x ∈ aDcl, va_Nw (.declares x) s
theorem Amb.move {E : AEnv} {s U : State} (h : Amb E s) (hW : s.WarmedH U.vm) (hz : s.heap.size ≤ U.heap.size) (hk : ∀ q : Nat, q < s.heap.size → ¬ gA E q → U.heap[q]? = s.heap[q]?) : Amb E U := by
  obtain ⟨⟨a0, ⟨a1, a2, a3⟩, b1, c1⟩, h2, h3, h4, ⟨h5, h6⟩, ⟨h7, h8⟩, h9, h10, h11, h12, h13, h14⟩ := h
  have hv := hW.alike
  exact ⟨⟨Nat.le_trans a0 hz, ⟨(a1.moved hv).kept (hk _ a2 a3), Nat.lt_of_lt_of_le a2 hz, a3⟩, (b1.moved hv).kept hk, (c1.moved hv).kept hk⟩,
    va_K.moved hv h2, h3.moved hv, fun q hq => va_Nw.warmM hW (h4 q hq), ⟨va_Nw.warmF hW h5, (h6.moved hv).kept hk⟩, ⟨va_Nw.warmF hW h7, (h8.moved hv).kept hk⟩,
    (h9.moved hv).kept hk, (h10.moved hv).kept hk, fun q hq => by obtain ⟨sa, h⟩ := h11 q hq; exact ⟨sa, vk_R.warm hW h⟩, fun X hX => va_Nw.warmC hW (h12 X hX), fun X hX Y hY n => (h13 X hX Y hY n).moved hv, fun x hx => va_Nw.warmD hW (h14 x hx)⟩
def aPc (E : AEnv) (ad : Nat → Nat) (as : List AV) (h : AH) (N : Nat) : Array Value → State → Prop := fun v U => v = (as.map (cv ad)).toArray ∧ Amb E U ∧ RelS E ad h N U.heap
def aQc (E : AEnv) (ad : Nat → Nat) (N : Nat) (Q : AQ) : Array Value → State → Outcome → State → Prop := fun _ st o t => ∃ (r : Option AV) (h' : AH) (N' : Nat) (ad' : Nat → Nat), o = .returned (r.map (cv ad')) ∧ Q (.inl r) h' N' ∧ RelS E ad' h' N' t.heap ∧ N ≤ N' ∧ (∀ k, k < N ∨ N' ≤ k → ad' k = ad k) ∧ va_F (gA E) st t
def aXC (E : AEnv) (ad : Nat → Nat) (N : Nat) (Q : AQ) : String → State → State → Prop := fun X st t => ∃ (h' : AH) (N' : Nat) (ad' : Nat → Nat), Q (.inr X) h' N' ∧ RelS E ad' h' N' t.heap ∧ N ≤ N' ∧ (∀ k, k < N ∨ N' ≤ k → ad' k = ad k) ∧ va_F (gA E) st t
/-- method y's contract over the great machine -/
def MetY (l : Launch) (E : AEnv) (d y : Nat) (as : List AV) (h : AH) (N : Nat) (Q : AQ) : Prop := ∀ ad : Nat → Nat, vx_Met l (mN y) (mWs y) (rmT d y) (aPc E ad as h N) (aQc E ad N Q) (aXC E ad N Q) (mI y).mc (mI y).ms (gA E)
theorem aPc_blind {E : AEnv} {ad : Nat → Nat} {as : List AV} {h : AH} {N : Nat} : FrameBlind (aPc E ad as h N) := fun a U g mk q =>
  ⟨q.1, Amb.move (U := U.calling g mk a) q.2.1 (State.WarmedH.refl U) (Nat.le_refl _) (fun _ _ _ => rfl), q.2.2⟩
theorem met_of_vx {l : Launch} {y : MethodName} {ws : List Jvm.Cond} {rm : Room} {Pc : Array Value → State → Prop} {Qc : Array Value → State → Outcome → State → Prop} {XC : String → State → State → Prop} {mc ms : Nat} {free : Addr → Prop} (h : vx_Met l y ws rm Pc Qc XC mc ms free) (hx : ∀ X st t, ¬ XC X st t) : Met l y ws rm Pc Qc mc ms free := by
  intro p e ha hc hk s m args below hf happ hP hK
  obtain ⟨n, o, h1, h2, h3, h4⟩ := h p e ha hc hk s m args below hf happ hP hK
  refine ⟨n, o, h1, h2, h3, ?_⟩
  rcases h4 with h4 | ⟨q, -, X, ce, L, hX, -⟩
  · exact h4
  · exact (hx _ _ _ hX).elim
/-! the first locals -/
theorem aArgs_len (ad : Nat → Nat) : ∀ as : List AV, (aArgs as).length = (lg_sl (as.map (cv ad))).length
  | [] => rfl
  | .inl z :: t => by
    have := aArgs_len ad t
    simp only [aArgs, lg_sl, List.map_cons, List.flatMap_cons, List.length_cons, List.length_append, this]
    simp [cv, Value.category]
    omega
  | .inr (.inl x) :: t => by
    have := aArgs_len ad t
    simp only [aArgs, lg_sl, List.map_cons, List.flatMap_cons, List.length_cons, List.length_append, this]
    simp [cv, Value.category]
    omega
  | .inr (.inr r) :: t => by
    have := aArgs_len ad t
    simp only [aArgs, lg_sl, List.map_cons, List.flatMap_cons, List.length_cons, List.length_append, this]
    cases r <;> simp [cv, va_rf, Value.category] <;> omega
theorem aLd_cons {o : Option AV} {t : AL} {i : Nat} {v : AV} (h : aLd (o :: t) i = some v) : (i = 0 ∧ o = some v) ∨ ∃ j, i = j + 1 ∧ aLd t j = some v := by
  cases i with
  | zero => exact Or.inl ⟨rfl, h⟩
  | succ j => exact Or.inr ⟨j, rfl, h⟩
theorem aLd_none {n i : Nat} {v : AV} (h : aLd (List.replicate n none) i = some v) : False := by
  unfold aLd at h
  rw [List.getD_eq_getElem?_getD, List.getElem?_replicate] at h
  split at h <;> cases h
theorem aArgs_in (ad : Nat → Nat) (n : Nat) : ∀ (as : List AV) (off i : Nat) (v : AV), aLd (aArgs as ++ List.replicate n none) i = some v → (off + i, cv ad v) ∈ lv_args off (as.map (cv ad))
  | [], off, i, v, h => (aLd_none h).elim
  | .inl z :: t, off, i, v, h => by
    rcases aLd_cons h with ⟨rfl, e⟩ | ⟨j, rfl, e⟩
    · cases e
      exact List.mem_cons_self
    · refine List.mem_cons_of_mem _ ?_
      have := aArgs_in ad n t (off + 1) j v e
      rw [show off + (j + 1) = off + 1 + j by omega]
      exact this
  | .inr (.inl x) :: t, off, i, v, h => by
    rcases aLd_cons h with ⟨rfl, e⟩ | ⟨j, rfl, e⟩
    · cases e
      exact List.mem_cons_self
    · rcases aLd_cons e with ⟨rfl, e⟩ | ⟨j, rfl, e⟩
      · cases e
      · refine List.mem_cons_of_mem _ ?_
        have := aArgs_in ad n t (off + 2) j v e
        rw [show off + (j + 1 + 1) = off + 2 + j by omega]
        exact this
  | .inr (.inr r) :: t, off, i, v, h => by
    rcases aLd_cons h with ⟨rfl, e⟩ | ⟨j, rfl, e⟩
    · cases e
      exact List.mem_cons_self
    · refine List.mem_cons_of_mem _ ?_
      have := aArgs_in ad n t (off + 1) j v e
      rw [show off + (j + 1) = off + 1 + j by omega]
      cases r <;> exact this
theorem aEnt_Lh {ad : Nat → Nat} {as : List AV} {nL : Nat} (h : (aArgs as).length ≤ nL) : Lh ad ((lg_sl (as.map (cv ad)) ++ List.replicate (nL - (lg_sl (as.map (cv ad))).length) Slot.unset).toArray) nL (aEnt nL as) := by
  have hl := aArgs_len ad as
  have hv := lv_entry (as.map (cv ad)) (n := nL) (by omega)
  refine ⟨by simp [aEnt]; omega, hv.1, hv.2.1, fun q hq => ?_⟩
  obtain ⟨v, h1, h2⟩ := lp_of hq
  have := aArgs_in ad _ as 0 q.1 v h1
  rw [Nat.zero_add] at this
  rw [h2]
  exact hv.2.2 _ this
end
section
/-! ===== rows of the calls ===== -/
/-- what is decided of a method that is called with n values (without the receiver) -/
def CalOk (y n mc ms : Nat) : Prop :=
  mW y ∈ wG ∧ Jvm.Cond.initialized (mN y).cls ∈ wG ∧ ((mN y).cls ≠ "java/lang/invoke/MethodHandle" ∧ (mN y).cls ≠ "java/lang/invoke/VarHandle") ∧ ((mI y).mc = mc ∧ (mI y).ms = ms) ∧ mL y ≤ 20 ∧ (parseMethodDescriptor (mN y).desc).map (fun d => d.parameters.length) = some n
def MthOk (own : String) (x : Nat) (e : AMth) : Prop := match e with
  | (y, 0, na, mc, ms, rc) => ∃ n, na = n + 1 ∧ CalOk y n mc ms ∧ mH y = [] ∧ Jvm.Cond.methodLink own x (mN y) ∈ wG ∧ Jvm.Cond.instanceMethod (mN y) ∈ wG ∧ Jvm.Cond.selects (mN y).cls (mN y) (mN y) ∈ wG ∧ ∃ q, vwCl[rc]? = some q ∧ q.1 = (mN y).cls
  | (y, 1, na, mc, ms, _) => CalOk y na mc ms ∧ mH y = [] ∧ Jvm.Cond.methodLink own x (mN y) ∈ wG ∧ Jvm.Cond.static (mN y) ∈ wG
  | (y, 7, na, mc, ms, _) => CalOk y na mc ms ∧ mH y ≠ [] ∧ Jvm.Cond.methodLink own x (mN y) ∈ wG ∧ Jvm.Cond.static (mN y) ∈ wG
  | (y, 2, na, mc, ms, _) => ∃ n, na = n + 1 ∧ CalOk y n mc ms ∧ mH y = [] ∧ mR y = none ∧ Jvm.Cond.methodLink own x (mN y) ∈ wG ∧ Jvm.Cond.instanceMethod (mN y) ∈ wG ∧ (mN y).name = "<init>"
  | (y, 3, na, mc, ms, _) => CalOk y na mc ms ∧ mH y = [] ∧ (own, x, y, RX8) ∈ aNest ∧ Jvm.Cond.static (mN y) ∈ wG
  | (y, 4, na, mc, ms, _) => ∃ n, na = n + 1 ∧ CalOk y n mc ms ∧ mH y = [] ∧ mR y = none ∧ (own, x, y, RX8) ∈ aNest ∧ Jvm.Cond.instanceMethod (mN y) ∈ wG ∧ (mN y).name = "<init>"
  | (_, 5, _, _, _, _) => Jvm.Cond.methodLink own x Lib.objectInit ∈ wG ∧ Jvm.Cond.instanceMethod Lib.objectInit ∈ wG ∧ Jvm.Cond.code Lib.objectInit ⟨#[0xb1]⟩ 1 none ∈ wG
  | (_, 6, _, _, _, _) => Jvm.Cond.methodLink own x arraycopyName ∈ wG ∧ Jvm.Cond.native arraycopyName ∈ wG ∧ Jvm.Cond.static arraycopyName ∈ wG ∧ Jvm.Cond.initialized "java/lang/System" ∈ wG
  | _ => False
theorem wG_good {w : Jvm.Cond} (h : w ∈ wG) : (w.onTables && w.keeps) = true ∨ ∃ ty, w = .arrayClass ty := good_of_word (List.mem_filter.mp h).2
theorem wG_at {args a' : Array Value} {s U : State} (hG : ∀ w ∈ wG, w.before args s = true) (hW : s.WarmedH U.vm) {w : Jvm.Cond} (h : w ∈ wG) : w.before a' U = true := word_at hW (wG_good h) (hG w h)
theorem mWs_at {args a' : Array Value} {s U : State} {y : Nat} (hG : ∀ w ∈ wG, w.before args s = true) (hy : mW y ∈ wG) (hW : s.WarmedH U.vm) : ∀ w ∈ mWs y, w.before a' U = true := by
  intro w hw
  rcases List.mem_cons.mp hw with e | hw
  · rw [e]
    exact wG_at hG hW hy
  · exact wG_at hG hW hw
theorem mW_nil {y : Nat} (h : mH y = []) : mW y = .code (mN y) (mB y) (mL y) (mR y) := by unfold mW; rw [h]
theorem mW_hh {y : Nat} (h : mH y ≠ []) : mW y = .codeWith (mN y) (mB y) (mL y) (mR y) (mH y) := by
  unfold mW
  split
  · rename_i q
    exact absurd q h
  · rfl
section AMC
variable {p : Program} {l : Launch} {e : Env} {R : Room} {s : State} {m : MethodId} {args : Array Value} {below : List Frame} {meth : Method} {c : Code} {Qf : State → Prop}
variable {cc : ByteArray} {E : AEnv} {ad0 : Nat → Nat} {N0 nL pc : Nat} {lv : AL} {st : List AV} {h : AH} {N k n : Nat} {I : MI} {Q : AQ}
/-- what is behind a call -/
theorem r_run {thr : Bool} {mc ms : Nat} {stv : List Value} {a : Array Value} {rest : List AV} {ad : Nat → Nat} {H : Heap} {locs : List Loc} {ls : Array Slot} (hR : Rel E s ad0 N0 ad h N H locs) (hL : Lh ad ls nL lv)
    (hrun : vx_Run p l e R s m args below meth c H locs k n mc ms (F0 m pc ls stv) (rest.map (cv ad)) (aQc E ad N (aRes I Q (amJ p l e R s m args below meth c Qf E ad0 N0 nL) thr (pc + 3) pc lv rest N (k + mc) (n + ms)) a) (aXC E ad N (aRes I Q (amJ p l e R s m args below meth c Qf E ad0 N0 nL) thr (pc + 3) pc lv rest N (k + mc) (n + ms))) (gA E))
    (hthr : ∀ (X : String) (ce : Cell) (q : Addr) (ad' : Nat → Nat) (H1 : Heap) (locs1 : List Loc) (h' : AH) (N' : Nat), thr = true → aThr I Q (amJ p l e R s m args below meth c Qf E ad0 N0 nL) X pc lv h' N' (k + mc) (n + ms) → Rel E s ad0 N0 ad' h' N' H1 locs1 → Lh ad' ls nL lv → H1[q]? = some ce → ce.vm = .none → s.vm.findClass X = some ce.cls → vx_W p l e R s m args below meth c H1 locs1 (k + mc) (n + ms) Qf (F0 m pc ls (rest.map (cv ad))) q) :
    W p l e R s m args below meth c H locs k n Qf (F0 m pc ls stv) := by
  have same : ∀ {N' : Nat} {ad' : Nat → Nat} {h' : AH} {H' : Heap}, RelS E ad' h' N' H' → (N' = N ∨ wfS N lv rest) → (∀ k, k < N ∨ N' ≤ k → ad' k = ad k) → (∀ i v, aLd lv i = some v → cv ad' v = cv ad v) ∧ rest.map (cv ad') = rest.map (cv ad) := by
    intro N' ad' h' H' hS hw hag
    have key : ∀ v, wfV N v ∨ N' = N → cv ad' v = cv ad v := by
      intro v hv
      rcases v with z | x | r | r
      · rfl
      · rfl
      · rfl
      · show va_rf (some (ad' r)) = va_rf (some (ad r))
        rw [hag r]
        have := hS.2.2.1
        rcases hv with hv | hv
        · have hv : r < N ∨ aRO ≤ r := hv
          omega
        · omega
    refine ⟨fun i v hv => ?_, List.map_congr_left fun v hv => ?_⟩
    · refine key v ?_
      rcases hw with hw | hw
      · exact Or.inr hw
      · have hm : (some v) ∈ lv := by
          unfold aLd at hv
          rw [List.getD_eq_getElem?_getD] at hv
          cases hg : lv[i]? with
          | none => rw [hg] at hv; cases hv
          | some o =>
            rw [hg] at hv
            have hv : o = some v := hv
            exact hv ▸ List.mem_of_getElem? hg
        exact Or.inl (hw.1 _ hm _ rfl)
    · refine key v ?_
      rcases hw with hw | hw
      · exact Or.inr hw
      · exact Or.inl (hw.2 v hv)
  obtain ⟨hR1, hR2, hR3, hR4⟩ := id hR
  intro U hU X
  rcases hrun U hU X with ⟨v, st₀, t, T', L, h0, X', hLc, e1, e2, ⟨r, h', N', ad', hv, hq, hS, hNN, hag, hF⟩, stp⟩ | ⟨q, st₀, t, T', L, Ex, ce, h0, X', hLc, e1, e2, ⟨h', N', ad', hq, hS, hNN, hag, hF⟩, hce, hcv, hcl, stp⟩
  · obtain ⟨k1, k2, k3⟩ := vx_keep h0 e1 hR2 (fun q _ h => h) (fun q h => h) hLc hF
    obtain ⟨hw, hj⟩ := hq
    obtain ⟨m1, m2⟩ := same hS hw hag
    cases hv
    have hRel : Rel E s ad0 N0 ad' h' N' T'.heap (locs ++ L) := ⟨by rw [e1]; exact hS, k3, by omega, fun q hq => (hag q (by omega)).trans (hR4 q (by omega))⟩
    obtain ⟨t2, a1, b1⟩ := hj ad' T'.heap (locs ++ L) ls hRel (hL.moved m1) T' rfl X'
    refine ⟨t2, stp t2 ?_, b1⟩
    have e9 : (r.toList ++ rest).map (cv ad') = (r.map (cv ad')).toList ++ rest.map (cv ad) := by
      rw [List.map_append, m2]
      cases r <;> rfl
    rw [e9] at a1
    exact a1
  · obtain ⟨k1, k2, k3⟩ := vx_keep h0 e1 hR2 (fun q _ h => h) (fun q h => h) hLc hF
    obtain ⟨hw, ht, hj⟩ := hq
    obtain ⟨m1, m2⟩ := same hS hw hag
    have hRel : Rel E s ad0 N0 ad' h' N' T'.heap (locs ++ L) := ⟨by rw [e1]; exact hS, k3, by omega, fun q hq => (hag q (by omega)).trans (hR4 q (by omega))⟩
    obtain ⟨t2, a1, b1⟩ := hthr Ex ce q ad' T'.heap (locs ++ L) h' N' ht hj hRel (hL.moved m1) (by rw [e1]; exact hce) hcv hcl T' rfl X'
    exact ⟨t2, stp.trans a1, b1⟩
theorem run_of_va {mc ms : Nat} {g : JFrame} {rest : List Value} {Qa : State → Outcome → State → Prop} {XC : String → State → State → Prop} {free : Addr → Prop} {H : Heap} {locs : List Loc} (hr : va_Run p l e R s m args below meth c H locs k n mc ms g rest Qa free) : vx_Run p l e R s m args below meth c H locs k n mc ms g rest Qa XC free :=
  fun T hT X => Or.inl (hr T hT X)
theorem parse_n {y : MethodName} {n : Nat} (h : (parseMethodDescriptor y.desc).map (fun d => d.parameters.length) = some n) : ∀ sig, parseMethodDescriptor y.desc = some sig → n = sig.parameters.length := by
  intro sig hs
  rw [hs] at h
  exact (Option.some.inj h).symm
theorem st_cut {ad : Nat → Nat} {na : Nat} {as : List AV} (h : (st.take na).reverse = as) : st.map (cv ad) = (as.map (cv ad)).reverse ++ (st.drop na).map (cv ad) := by
  rw [← h, List.map_reverse, List.reverse_reverse, ← List.map_append, List.take_append_drop]
/-- a call's own run, of every kind -/
theorem r_call {d x y kd na mc ms rc : Nat} {own : String} {Qy : AQ} (hx : p.tables.exec = Jvm.exec) (hb : c.code = cc) (hml : c.maxLocals = nL) (hown : s.vm.findClass own = some m.cls) (hG : ∀ w ∈ wG, w.before args s = true) (hA : Amb E s) (hRf : d + 9 ≤ R.frames) (hRl : 140 + 40 * d ≤ R.locals)
    (hok : MthOk own x (y, kd, na, mc, ms, rc)) (hM : MetY l E d y (st.take na).reverse h N Qy)
    (hk : (kd = 0 ∧ aRcv rc (st.take na).reverse h N ∧ decode cc pc = .ok (.invokevirtual x, 3)) ∨ ((kd = 1 ∨ kd = 7 ∨ kd = 3) ∧ decode cc pc = .ok (.invokestatic x, 3)) ∨ ((kd = 2 ∨ kd = 4) ∧ decode cc pc = .ok (.invokespecial x, 3)))
    (hnt : kd = 3 ∨ kd = 2 ∨ kd = 4 → ∀ X h' N', ¬ Qy (.inr X) h' N') (hrec : kd = 2 ∨ kd = 4 → aRecR (st.take na).reverse)
    (hcat : aCats (st.drop na) ≤ 8) (hlen : na ≤ st.length) (hkm : k + mc ≤ R.cells) (hnm : n + ms ≤ R.slots) {ad : Nat → Nat} {H : Heap} {locs : List Loc} {ls : Array Slot} (hR : Rel E s ad0 N0 ad h N H locs) (hL : Lh ad ls nL lv) :
    ∃ a, vx_Run p l e R s m args below meth c H locs k n mc ms (F0 m pc ls (st.map (cv ad))) ((st.drop na).map (cv ad)) (aQc E ad N Qy a) (aXC E ad N Qy) (gA E) := by
  have hsz : ls.size = nL := hL.size
  have hroom : 2 * (F0 m pc ls (st.map (cv ad))).monitorRoom + (((st.drop na).map (cv ad)).map fun v => v.category).sum ≤ 8 := lv_room (by rw [cats_cv]; exact hcat)
  have hasl : (st.take na).reverse.length = na := by rw [List.length_reverse, List.length_take]; omega
  have hpre : ∀ U : State, U.heap = H → s.WarmedH U.vm → aPc E ad (st.take na).reverse h N ((st.take na).reverse.map (cv ad)).toArray U := fun U hU hW =>
    ⟨rfl, hA.move hW (by rw [hU]; exact hR.2.1.1) (fun q h1 h2 => by rw [hU]; exact hR.2.1.2.1 q h1 h2), by rw [hU]; exact hR.1⟩
  have hM' := hM ad
  have hnx : kd = 3 ∨ kd = 2 ∨ kd = 4 → ∀ X st t, ¬ aXC E ad N Qy X st t := fun hq X st t hz => by
    obtain ⟨h', N', ad', hh, -⟩ := hz
    exact hnt hq X h' N' hh
  have hwarm : ∀ {y : Nat}, mW y ∈ wG → ∀ w ∈ mWs y, ∀ (a' : Array Value) (U : State), s.WarmedH U.vm → w.before a' U = true := fun hy w hw a' U hW => mWs_at hG hy hW w hw
  obtain ⟨q0, q1, q2⟩ | ⟨q0, q2⟩ | ⟨q0, q2⟩ := hk
  · subst q0
    obtain ⟨n', hna, ⟨c1, c2, c3, ⟨rfl, rfl⟩, c6, c7⟩, hh, w1, w2, w3, ⟨q, hq, hqc⟩⟩ := hok
    rw [mW_nil hh] at c1
    have hfm : Jvm.Cond.code (mN y) (mB y) (mL y) (mR y) ∈ mWs y := by unfold mWs; rw [mW_nil hh]; exact List.mem_cons_self
    cases has : (st.take na).reverse with
    | nil => rw [has] at q1; exact q1.elim
    | cons v as =>
      rw [has] at q1 hM' hpre hasl
      rcases v with z | z | r | b
      · exact q1.elim
      · exact q1.elim
      · exact q1.elim
      · obtain ⟨hbN, fs, hfs⟩ := q1
        have hst := st_cut (ad := ad) has
        exact ⟨_, vx_runV (rm := rmT d y) (ws := mWs y) (As := as.map (cv ad)) (b := ad b) ⟨hx, hb, hml, hown, hG⟩ hM'
          ⟨⟨rfl, rfl, by show d + 8 + 1 ≤ _; omega, by show 8 + (mL y + 11) + (100 + 40 * d) ≤ _; omega, hwarm (by rw [mW_nil hh]; exact c1), hfm, hG _ c1, hG _ c2, c3, parse_n c7, hG _ w1⟩, hG _ w2, hG _ w3⟩
          ⟨aPc_blind, by rw [← hqc]; exact va_recv hA.2.1 hR.1.1 hq (q0 := b) (by rw [wl_get hbN, hfs]; rfl), hpre⟩ rfl (by rw [List.length_map]; simp at hasl; omega) hsz (by rw [hst]; simp [cv, va_rf]) hroom q2 ⟨hkm, hnm⟩⟩
  · rcases q0 with q0 | q0 | q0
    · subst q0
      obtain ⟨⟨c1, c2, c3, ⟨rfl, rfl⟩, c6, c7⟩, hh, w1, w2⟩ := hok
      rw [mW_nil hh] at c1
      have hfm : Jvm.Cond.code (mN y) (mB y) (mL y) (mR y) ∈ mWs y := by unfold mWs; rw [mW_nil hh]; exact List.mem_cons_self
      have hst := st_cut (ad := ad) (na := na) (st := st) rfl
      exact ⟨_, vx_runS (rm := rmT d y) (ws := mWs y) (As := (st.take na).reverse.map (cv ad)) ⟨hx, hb, hml, hown, hG⟩ hM'
          ⟨⟨rfl, rfl, by show d + 8 + 1 ≤ _; omega, by show 8 + (mL y + 11) + (100 + 40 * d) ≤ _; omega, hwarm (by rw [mW_nil hh]; exact c1), hfm, hG _ c1, hG _ c2, c3, parse_n c7, hG _ w1⟩, hG _ w2⟩
          ⟨aPc_blind, hpre⟩ rfl (by rw [List.length_map]; exact hasl) hsz hst hroom q2 ⟨hkm, hnm⟩⟩
    · subst q0
      obtain ⟨⟨c1, c2, c3, ⟨rfl, rfl⟩, c6, c7⟩, hh, w1, w2⟩ := hok
      rw [mW_hh hh] at c1
      have hfm : Jvm.Cond.codeWith (mN y) (mB y) (mL y) (mR y) (mH y) ∈ mWs y := by unfold mWs; rw [mW_hh hh]; exact List.mem_cons_self
      have hst := st_cut (ad := ad) (na := na) (st := st) rfl
      exact ⟨_, vx_runSX (rm := rmT d y) (ws := mWs y) (hh := mH y) (As := (st.take na).reverse.map (cv ad)) ⟨hx, hb, hml, hown, hG⟩ hM'
          ⟨⟨rfl, rfl, by show d + 8 + 1 ≤ _; omega, by show 8 + (mL y + 11) + (100 + 40 * d) ≤ _; omega, hwarm (by rw [mW_hh hh]; exact c1), hfm⟩, hG _ c1, hG _ c2, c3, parse_n c7, hG _ w1, hG _ w2⟩
          ⟨aPc_blind, hpre⟩ rfl (by rw [List.length_map]; exact hasl) hsz hst hroom q2 ⟨hkm, hnm⟩⟩
    · subst q0
      obtain ⟨⟨c1, c2, c3, ⟨rfl, rfl⟩, c6, c7⟩, hh, w1, w2⟩ := hok
      rw [mW_nil hh] at c1
      have hfm : Jvm.Cond.code (mN y) (mB y) (mL y) (mR y) ∈ mWs y := by unfold mWs; rw [mW_nil hh]; exact List.mem_cons_self
      have hst := st_cut (ad := ad) (na := na) (st := st) rfl
      exact ⟨_, run_of_va (va_runSN (rm := rmT d y) (ws := mWs y) (As := (st.take na).reverse.map (cv ad)) ⟨hx, hb, hml, hown, hG⟩ (met_of_vx hM' (hnx (Or.inl rfl)))
          ⟨⟨⟨rfl, rfl, by show d + 8 + 1 ≤ _; omega, by show 8 + (mL y + 11) + (100 + 40 * d) ≤ _; omega, hwarm (by rw [mW_nil hh]; exact c1), hfm⟩, hG _ c1, hG _ c2, c3, parse_n c7, va_Nw.use rfl (hA.2.2.2.1 _ w1)⟩, hG _ w2, trivial⟩
          ⟨aPc_blind, hpre⟩ rfl (by rw [List.length_map]; exact hasl) hsz hst hroom q2 ⟨hkm, hnm⟩)⟩
  · obtain ⟨b, as, has⟩ : ∃ b as, (st.take na).reverse = vR b :: as := by
      have hr := hrec q0
      cases has : (st.take na).reverse with
      | nil => rw [has] at hr; exact hr.elim
      | cons v as =>
        rw [has] at hr
        rcases v with z | z | r | b
        · exact hr.elim
        · exact hr.elim
        · exact hr.elim
        · exact ⟨b, as, rfl⟩
    have hst := st_cut (ad := ad) has
    rw [has] at hM' hpre hasl
    rcases q0 with q0 | q0
    · subst q0
      obtain ⟨n', hna, ⟨c1, c2, c3, ⟨rfl, rfl⟩, c6, c7⟩, hh, hret, w1, w2, w3⟩ := hok
      rw [mW_nil hh, hret] at c1
      have hfm : Jvm.Cond.code (mN y) (mB y) (mL y) none ∈ mWs y := by unfold mWs; rw [mW_nil hh, hret]; exact List.mem_cons_self
      exact ⟨_, run_of_va (va_runI (rm := rmT d y) (ws := mWs y) (As := as.map (cv ad)) (b := ad b) ⟨hx, hb, hml, hown, hG⟩ (met_of_vx hM' (hnx (Or.inr (Or.inl rfl))))
          ⟨⟨rfl, rfl, by show d + 8 + 1 ≤ _; omega, by show 8 + (mL y + 11) + (100 + 40 * d) ≤ _; omega, hwarm (by rw [mW_nil hh, hret]; exact c1), hfm, hG _ c1, hG _ c2, c3, parse_n c7, hG _ w1⟩, w3, hG _ w2⟩
          ⟨aPc_blind, hpre⟩ rfl (by rw [List.length_map]; simp at hasl; omega) hsz (by rw [hst]; simp [cv, va_rf]) hroom q2 ⟨hkm, hnm⟩)⟩
    · subst q0
      obtain ⟨n', hna, ⟨c1, c2, c3, ⟨rfl, rfl⟩, c6, c7⟩, hh, hret, w1, w2, w3⟩ := hok
      rw [mW_nil hh, hret] at c1
      have hfm : Jvm.Cond.code (mN y) (mB y) (mL y) none ∈ mWs y := by unfold mWs; rw [mW_nil hh, hret]; exact List.mem_cons_self
      exact ⟨_, run_of_va (va_runIN (rm := rmT d y) (ws := mWs y) (As := as.map (cv ad)) (b := ad b) ⟨hx, hb, hml, hown, hG⟩ (met_of_vx hM' (hnx (Or.inr (Or.inr rfl))))
          ⟨⟨⟨rfl, rfl, by show d + 8 + 1 ≤ _; omega, by show 8 + (mL y + 11) + (100 + 40 * d) ≤ _; omega, hwarm (by rw [mW_nil hh, hret]; exact c1), hfm⟩, hG _ c1, hG _ c2, c3, parse_n c7, va_Nw.use rfl (hA.2.2.2.1 _ w1)⟩, w3, hG _ w2⟩
          ⟨aPc_blind, hpre⟩ rfl (by rw [List.length_map]; simp at hasl; omega) hsz (by rw [hst]; simp [cv, va_rf]) hroom q2 ⟨hkm, hnm⟩)⟩
end AMC
end
section
/-! ===== throws and handlers; all rows together ===== -/
def exNames : List String := ["java/lang/RuntimeException", "java/lang/Exception"]
def ThrOk (own : String) (cc : ByteArray) (pc : Nat) (X : String) : Prop :=
  own = RX8 ∧ X ∈ aExc ∧ ∃ (ik is ic : Nat) (text : String), decode cc pc = .ok (.new ik, 3) ∧ decode cc (pc + 3) = .ok (.dup, 1) ∧
    ((decode cc (pc + 4) = .ok (.ldc is, 2) ∧ decode cc (pc + 6) = .ok (.invokespecial ic, 3) ∧ decode cc (pc + 9) = .ok (.athrow, 1)) ∨ (decode cc (pc + 4) = .ok (.ldc_w is, 3) ∧ decode cc (pc + 7) = .ok (.invokespecial ic, 3) ∧ decode cc (pc + 10) = .ok (.athrow, 1))) ∧
    Jvm.Cond.classLink RX8 ik X ∈ wG ∧ Jvm.Cond.initialized X ∈ wG ∧ (is, text) ∈ aStr ∧ (∀ w ∈ (vx_atS RX8 ic X exNames).filter goodWord, w ∈ wG) ∧ (∀ w ∈ (vx_atS RX8 ic X exNames).filter (fun w => !goodWord w), w ∈ Jvm.Cond.castable X X :: aDcl.map Jvm.Cond.declares) ∧
    (∀ w ∈ Jvm.Cond.classLink RX8 ik X :: Jvm.Cond.initialized X :: vx_atS RX8 ic X exNames, vx_ot w = true) ∧ Bundle.fit X = true ∧ ∀ n ∈ exNames, Bundle.fit n = true
def HndOk (own : String) (cc : ByteArray) (nL : Nat) (a : Nat × Nat × Nat × Nat × String) (b : Nat × Nat × Nat × Nat) : Prop :=
  a.1 = b.1 ∧ a.2.1 = b.2.1 ∧ b.2.2.2 ≠ 0 ∧ a.2.2.2.2 ∈ aExc ∧ Jvm.Cond.classLink own b.2.2.2 a.2.2.2.2 ∈ wG ∧ a.2.2.2.1 < nL ∧
    ((decode cc b.2.2.1 = .ok (.astore a.2.2.2.1, 2) ∧ a.2.2.1 = b.2.2.1 + 2) ∨ ∃ i : Fin 4, (i : Nat) = a.2.2.2.1 ∧ decode cc b.2.2.1 = .ok (.astore_n i, 1) ∧ a.2.2.1 = b.2.2.1 + 1)
def iLen : Instr → Nat
  | .bipush _ | .ldc _ | .iload _ | .lload _ | .aload _ | .istore _ | .lstore _ | .astore _ | .newarray _ => 2
  | .sipush _ | .ldc2_w _ | .getfield _ | .putfield _ | .getstatic _ | .invokevirtual _ | .invokestatic _ | .invokespecial _ | .new _ | .anewarray _ | .goto _ | .ifCond _ _ | .if_icmp _ _ | .iinc _ _ => 3
  | _ => 1
def chk2 (own : String) (nL : Nat) (nm : String) (I : MI) (pc : Nat) (i : Instr) (tg : List Nat) : Bool := match i with
  | .bipush z => decide ((Int8.ofInt z).toInt32 = iI z)
  | .sipush z => decide ((Int16.ofInt z).toInt32 = iI z)
  | .istore a => decide (a < nL)
  | .istore_n a => decide ((a : Nat) < nL)
  | .astore a => decide (a < nL)
  | .astore_n a => decide ((a : Nat) < nL)
  | .lstore a => decide (a + 1 < nL)
  | .lstore_n a => decide ((a : Nat) + 1 < nL)
  | .goto off => match tg with
    | t :: _ => decide ((pc : Int) + off = (t : Int))
    | [] => false
  | .ifCond _ off => match tg with
    | t :: _ => decide ((pc : Int) + off = (t : Int))
    | [] => false
  | .if_icmp _ off => match tg with
    | t :: _ => decide ((pc : Int) + off = (t : Int))
    | [] => false
  | .putfield x => match lk I.fld x with
    | some (ci, j) => match vwCl[ci]? with
      | some q => !(q.2.1 j).2.2.2 || (decide (nm = "<init>") && decide ((q.2.1 j).1 = own))
      | none => false
    | none => false
  | .getstatic x => decide (own = RX2) && (decide (x = 68 ∧ tg = [1001]) || decide (x = 71 ∧ tg = [1002]))
  | _ => true
def chkSw (cc : ByteArray) (pc : Nat) (i : Instr) (d lo hi : Int) (offs : Array Int) (tg : List Nat) : Bool := (match decode cc pc with
    | .ok (j, _) => decide (j = i)
    | _ => false) && match tg with
    | t :: ts => decide ((pc : Int) + d = (t : Int)) && decide (offs.size = ts.length) && decide ((ts.length : Int) = hi - lo + 1) && (List.range ts.length).all (fun q => decide ((pc : Int) + offs.toList.getD q 0 = ((ts.getD q 0 : Nat) : Int)))
    | [] => false
def chk (own : String) (cc : ByteArray) (nL : Nat) (nm : String) (I : MI) (pc : Nat) (i : Instr) (nx : Nat) (tg : List Nat) : Bool := match i with
  | .tableswitch d lo hi offs => chkSw cc pc i d lo hi offs tg
  | _ => decide (decode cc pc = .ok (i, iLen i)) && decide (nx = pc + iLen i) && chk2 own nL nm I pc i tg
theorem chk_spec {own : String} {cc : ByteArray} {nL : Nat} {nm : String} {I : MI} {pc : Nat} {i : Instr} {nx : Nat} {tg : List Nat} (h : chk own cc nL nm I pc i nx tg = true) (hi : ∀ d lo hi offs, i ≠ .tableswitch d lo hi offs) : decode cc pc = .ok (i, iLen i) ∧ nx = pc + iLen i ∧ chk2 own nL nm I pc i tg = true := by
  unfold chk at h
  split at h
  · exact absurd rfl (hi _ _ _ _)
  · simp only [Bool.and_eq_true, decide_eq_true_eq] at h
    exact ⟨h.1.1, h.1.2, h.2⟩
/-- what is decided of a method -/
def MOk (own : String) (cc : ByteArray) (nL : Nat) (nm : String) (I : MI) (hh : List (Nat × Nat × Nat × Nat)) : Prop :=
  (∀ pc i nx tg, lk I.code pc = some (i, nx, tg) → lk I.thr pc = none → chk own cc nL nm I pc i nx tg = true) ∧
  (∀ x ci j, lk I.fld x = some (ci, j) → ∃ q, vwCl[ci]? = some q ∧ j < q.2.2 ∧ Jvm.Cond.fieldLink own x (q.2.1 j).1 (q.2.1 j).2.1 (q.2.1 j).2.2.1 ∈ wG) ∧
  (∀ x e, lk I.mth x = some e → MthOk own x e) ∧
  (∀ pc X, lk I.thr pc = some X → ThrOk own cc pc X) ∧
  (∀ x ci, lk I.cls x = some ci → ∃ q, vwCl[ci]? = some q ∧ Jvm.Cond.classLink own x q.1 ∈ wG ∧ Jvm.Cond.instantiable q.1 q.2.2 ∈ wG ∧ Jvm.Cond.initialized q.1 ∈ wG) ∧
  (∀ pc x nx tg v, lk I.code pc = some (.ldc x, nx, tg) → lk I.cst x = some v → ∃ w : Int32, v.toInt = w.toInt ∧ Jvm.Cond.constant own x w ∈ wG) ∧
  (∀ pc x nx tg v, lk I.code pc = some (.ldc2_w x, nx, tg) → lk I.cst x = some v → Jvm.Cond.constantLong own x v ∈ wG) ∧
  (∀ pc x nx tg, lk I.code pc = some (.anewarray x, nx, tg) → Jvm.Cond.classLink own x RX6 ∈ wG) ∧
  (∀ pc X i nx tg, lk I.thr pc = some X → lk I.code pc = some (i, nx, tg) → ∃ x, i = .new x) ∧
  I.hnd.length = hh.length ∧ ∀ (i : Nat) a b, I.hnd[i]? = some a → hh[i]? = some b → HndOk own cc nL a b
section AMT
variable {p : Program} {l : Launch} {e : Env} {R : Room} {s : State} {m : MethodId} {args : Array Value} {below : List Frame} {meth : Method} {c : Code} {Qf : State → Prop}
variable {cc : ByteArray} {E : AEnv} {ad0 : Nat → Nat} {N0 nL pc : Nat} {lv : AL} {st : List AV} {h : AH} {N k n : Nat} {I : MI} {Q : AQ}
/-- a thrown exception, caught here -/
theorem r_catch {own X : String} {hh : List (Nat × Nat × Nat × Nat)} {a : Nat × Nat × Nat × Nat × String} {ce : Cell} {q : Addr} {ad : Nat → Nat} {H : Heap} {locs : List Loc} {ls : Array Slot} {rest : List Value} (hx : p.tables.exec = Jvm.exec) (hb : c.code = cc) (hown : s.vm.findClass own = some m.cls) (hG : ∀ w ∈ wG, w.before args s = true) (hA : Amb E s)
    (htab : c.exceptionTable.toList = tableOf hh) (hln : I.hnd.length = hh.length) (hok : ∀ (i : Nat) a b, I.hnd[i]? = some a → hh[i]? = some b → HndOk own cc nL a b)
    (hf : I.hnd.find? (fun q => decide (q.1 ≤ pc) && decide (pc < q.2.1) && decide (q.2.2.2.2 = X)) = some a) (hj : amJ p l e R s m args below meth c Qf E ad0 N0 nL a.2.2.1 (aUn a.2.2.2.1 lv) [] h N k n)
    (hR : Rel E s ad0 N0 ad h N H locs) (hL : Lh ad ls nL lv) (hce : H[q]? = some ce) (hcv : ce.vm = .none) (hcl : s.vm.findClass X = some ce.cls) : vx_W p l e R s m args below meth c H locs k n Qf (F0 m pc ls rest) q := by
  obtain ⟨hpa, i, hi, hia, hlt⟩ := List.find?_eq_some_iff_getElem.mp hf
  simp only [Bool.and_eq_true, decide_eq_true_eq] at hpa
  obtain ⟨⟨g1, g2⟩, g3⟩ := hpa
  have hi2 : i < hh.length := by omega
  have ea : I.hnd[i]? = some a := by rw [List.getElem?_eq_getElem hi, hia]
  obtain ⟨o1, o2, o3, o4, o5, o6, o7⟩ := hok i a hh[i] ea (List.getElem?_eq_getElem hi2)
  have hX : X ∈ aExc := by rw [← g3]; exact o4
  have hi3 : i < (tableOf hh).length := by simpa [tableOf] using hi2
  have ex : (tableOf hh)[i] = ⟨hh[i].1, hh[i].2.1, hh[i].2.2.1, hh[i].2.2.2⟩ := by simp [tableOf]
  have hsplit : c.exceptionTable.toList = (tableOf hh).take i ++ (⟨hh[i].1, hh[i].2.1, hh[i].2.2.1, hh[i].2.2.2⟩ : ExceptionTableEntry) :: (tableOf hh).drop (i + 1) := by
    rw [htab, ← ex, ← List.drop_eq_getElem_cons hi3, List.take_append_drop]
  refine vx_catch (E := X) (own := own) (name := X) hown ((tableOf hh).take i) ⟨hh[i].1, hh[i].2.1, hh[i].2.2.1, hh[i].2.2.2⟩ ((tableOf hh).drop (i + 1)) hsplit ?_ ?_ o3 (by rw [← g3]; exact hG _ o5) (va_Nw.use rfl (hA.2.2.2.2.2.2.2.2.2.1 X hX)) hce hcv hcl ?_
  · intro z hz
    obtain ⟨j, hj1, hj2⟩ := List.getElem_of_mem hz
    rw [List.getElem_take] at hj2
    have hj3 : j < i := by
      rw [List.length_take] at hj1
      omega
    have hj4 : j < hh.length := by omega
    have hj5 : j < I.hnd.length := by omega
    have ez : z = ⟨hh[j].1, hh[j].2.1, hh[j].2.2.1, hh[j].2.2.2⟩ := by rw [← hj2]; simp [tableOf]
    obtain ⟨p1, p2, p3, p4, p5, -⟩ := hok j I.hnd[j] hh[j] (List.getElem?_eq_getElem hj5) (List.getElem?_eq_getElem hj4)
    have hn := hlt j hj3
    subst ez
    by_cases hcov : hh[j].1 ≤ pc ∧ pc < hh[j].2.1
    · refine Or.inr ⟨p3, I.hnd[j].2.2.2.2, hG _ p5, hA.2.2.2.2.2.2.2.2.2.2.1 X hX _ p4 (fun q => ?_)⟩
      rw [← p1, ← p2] at hcov
      simp [hcov.1, hcov.2, q] at hn
    · refine Or.inl ?_
      show (decide (hh[j].1 ≤ pc) && decide (pc < hh[j].2.1)) = false
      simp only [Bool.and_eq_false_iff, decide_eq_false_iff_not]
      omega
  · show (decide (hh[i].1 ≤ pc) && decide (pc < hh[i].2.1)) = true
    simp only [Bool.and_eq_true, decide_eq_true_eq]
    rw [← o1, ← o2]
    exact ⟨g1, g2⟩
  · rcases o7 with ⟨hd, hn⟩ | ⟨i4, hi4, hd, hn⟩
    · refine lv_astore (x := q) (lv := lp ad lv) hx hb hd hL.2 o6 rfl (fun ls' hl' => ?_)
      have := hj ad H locs ls' hR (Lh.un hL.1 hl')
      rw [hn] at this
      exact this
    · refine lv_astore_n (x := q) (lv := lp ad lv) hx hb hd hi4 hL.2 o6 rfl (fun ls' hl' => ?_)
      have := hj ad H locs ls' hR (Lh.un hL.1 hl')
      rw [hn] at this
      exact this
/-- how a body ends: a throw of its own, a callee's throw that goes through, a return -/
def Ends (p : Program) (l : Launch) (e : Env) (R : Room) (s : State) (m : MethodId) (args : Array Value) (below : List Frame) (meth : Method) (c : Code) (Qf : State → Prop) (E : AEnv) (ad0 : Nat → Nat) (N0 nL : Nat) (I : MI) (C : AC) (Q : AQ) : Prop :=
  (∀ pc lv st h N k n X, lk I.thr pc = some X → aCats st ≤ 8 → k + 1 ≤ I.mc → n + 6 ≤ I.ms → I.hnd = [] → Q (.inr X) h N → amJ p l e R s m args below meth c Qf E ad0 N0 nL pc lv st h N k n) ∧
  (∀ pc X h N k n ce q ad H locs ls rest, I.hnd = [] → Q (.inr X) h N → k ≤ I.mc → n ≤ I.ms → Rel E s ad0 N0 ad h N H locs → H[q]? = some ce → ce.vm = .none → s.vm.findClass X = some ce.cls → vx_W p l e R s m args below meth c H locs k n Qf (F0 m pc ls rest) q) ∧
  (∀ pc i nx tg lv st h N k n, lk I.code pc = some (i, nx, tg) → (i = .ireturn ∨ i = .lreturn ∨ i = .areturn ∨ i = .return_) → stepI I C Q (amJ p l e R s m args below meth c Qf E ad0 N0 nL) i nx tg pc lv st h N k n → amJ p l e R s m args below meth c Qf E ad0 N0 nL pc lv st h N k n)
theorem am_clo {own : String} {hh : List (Nat × Nat × Nat × Nat)} {d : Nat} {C : AC} (hx : p.tables.exec = Jvm.exec) (hb : c.code = cc) (hml : c.maxLocals = nL) (hown : s.vm.findClass own = some m.cls) (hG : ∀ w ∈ wG, w.before args s = true) (hCl : ∀ ci q, vwCl[ci]? = some q → ClOk ci q) (hAC : Jvm.Cond.arrayClass .int ∈ wG ∧ Jvm.Cond.arrayClass .boolean ∈ wG ∧ Jvm.Cond.arrayClass .long ∈ wG) (hA : Amb E s)
    (hRf : d + 9 ≤ R.frames) (hRl : 140 + 40 * d ≤ R.locals) (hRc : I.mc ≤ R.cells) (hRs : I.ms ≤ R.slots) (hOk : MOk own cc nL meth.name I hh) (htab : I.hnd ≠ [] → c.exceptionTable.toList = tableOf hh)
    (hT : ∀ y as h N Qy, C y as h N Qy → MetY l E d y as h N Qy) (hE : Ends p l e R s m args below meth c Qf E ad0 N0 nL I C Q) : Clo I C Q (amJ p l e R s m args below meth c Qf E ad0 N0 nL) := by
  obtain ⟨k1, k2, k3, k4, k5, k6, k7, k8, k0, k9, k10⟩ := hOk
  have k11 : ∀ pc X i nx tg, lk I.thr pc = some X → lk I.code pc = some (i, nx, tg) → (∀ x, i ≠ .new x) → False := fun pc X i nx tg h1 h2 h3 => by
    obtain ⟨x, hx⟩ := k0 pc X i nx tg h1 h2
    exact h3 x hx
  obtain ⟨e1, e2, e3⟩ := hE
  have hK := hA.2.1
  have hAm := hA.1
  -- a callee's throw
  have hthr : ∀ {pc : Nat} {lv : AL} {k n : Nat} {ls : Array Slot} {rest : List Value} (X : String) (ce : Cell) (q : Addr) (ad' : Nat → Nat) (H1 : Heap) (locs1 : List Loc) (h' : AH) (N' : Nat), aThr I Q (amJ p l e R s m args below meth c Qf E ad0 N0 nL) X pc lv h' N' k n → Rel E s ad0 N0 ad' h' N' H1 locs1 → Lh ad' ls nL lv → H1[q]? = some ce → ce.vm = .none → s.vm.findClass X = some ce.cls → vx_W p l e R s m args below meth c H1 locs1 k n Qf (F0 m pc ls rest) q := by
    intro pc lv k n ls rest X ce q ad' H1 locs1 h' N' ht hR hL hce hcv hcl
    unfold aThr at ht
    split at ht
    · rename_i a hf
      exact r_catch hx hb hown hG hA (htab (fun hz => by rw [hz] at hf; cases hf)) k9 k10 hf ht hR hL hce hcv hcl
    · exact e2 _ _ _ _ _ _ _ _ _ _ _ _ _ ht.1 ht.2.1 ht.2.2.1 ht.2.2.2 hR hce hcv hcl
  -- a call
  have hcall : ∀ {pc x : Nat} {lv : AL} {st : List AV} {h : AH} {N k n : Nat} {y kd na mc ms rc : Nat} {thr : Bool}, lk I.mth x = some (y, kd, na, mc, ms, rc) →
      ((kd = 0 ∧ aRcv rc (st.take na).reverse h N ∧ decode cc pc = .ok (.invokevirtual x, 3)) ∨ ((kd = 1 ∨ kd = 7 ∨ kd = 3) ∧ decode cc pc = .ok (.invokestatic x, 3)) ∨ ((kd = 2 ∨ kd = 4) ∧ decode cc pc = .ok (.invokespecial x, 3))) →
      (kd = 3 ∨ kd = 2 ∨ kd = 4 → thr = false) → (kd = 2 ∨ kd = 4 → aRecR (st.take na).reverse) → aCall I C Q (amJ p l e R s m args below meth c Qf E ad0 N0 nL) thr y na mc ms (pc + 3) pc lv st h N k n → amJ p l e R s m args below meth c Qf E ad0 N0 nL pc lv st h N k n := by
    intro pc x lv st h N k n y kd na mc ms rc thr hm hk hnt hrec hc
    obtain ⟨⟨c1, c2, c3, c4⟩, hc⟩ := hc
    intro ad H locs ls hR hL
    obtain ⟨a, hrun⟩ := r_call (k := k) (n := n) hx hb hml hown hG hA hRf hRl (k3 _ _ hm) (hT _ _ _ _ _ hc) hk (fun q X h' N' hz => by
      have h1 := hnt q
      obtain ⟨-, h2, -⟩ := hz
      rw [h1] at h2
      cases h2) hrec c1 c2 (by omega) (by omega) hR hL
    exact r_run hR hL hrun (fun X ce q ad' H1 locs1 h' N' _ ht => hthr X ce q ad' H1 locs1 h' N' ht)
  refine ⟨fun pc lv st h N k n hs => ?_, fun pc lv lv' st h N k n hl hle hj => fun ad H locs ls hR hL => hj ad H locs ls hR (hL.less hl hle)⟩
  unfold step at hs
  split at hs
  case h_2 => exact hs.elim
  rename_i i nx tg hc
  cases hth : lk I.thr pc with
  | some X =>
    cases i with
    | new x =>
      simp only [stepI, hth] at hs
      exact e1 _ _ _ _ _ _ _ _ hth hs.1 hs.2.1 hs.2.2.1 hs.2.2.2.1 hs.2.2.2.2
    | _ => exact (k11 _ _ _ _ _ hth hc (fun _ h => by cases h)).elim
  | none =>
    have hk := k1 pc i nx tg hc hth
    cases i with
    | iconst z =>
      obtain ⟨hd, hn, hk2⟩ := chk_spec hk (by intros; intro hz; cases hz)
      clear hk
      try simp only [chk2, decide_eq_true_eq] at hk2
      subst hn
      simp only [stepI] at hs
      exact r_iconst hx hb hd hs
    | bipush z =>
      obtain ⟨hd, hn, hk2⟩ := chk_spec hk (by intros; intro hz; cases hz)
      clear hk
      try simp only [chk2, decide_eq_true_eq] at hk2
      have hz := hk2
      subst hn
      simp only [stepI] at hs
      exact r_bipush hx hb hd hz hs
    | sipush z =>
      obtain ⟨hd, hn, hk2⟩ := chk_spec hk (by intros; intro hz; cases hz)
      clear hk
      try simp only [chk2, decide_eq_true_eq] at hk2
      have hz := hk2
      subst hn
      simp only [stepI] at hs
      exact r_sipush hx hb hd hz hs
    | lconst z =>
      obtain ⟨hd, hn, hk2⟩ := chk_spec hk (by intros; intro hz; cases hz)
      clear hk
      try simp only [chk2, decide_eq_true_eq] at hk2
      subst hn
      simp only [stepI] at hs
      exact r_lconst hx hb hd hs
    | ldc x =>
      obtain ⟨hd, hn, hk2⟩ := chk_spec hk (by intros; intro hz; cases hz)
      clear hk
      try simp only [chk2, decide_eq_true_eq] at hk2
      subst hn
      simp only [stepI] at hs
      split at hs
      case h_2 => exact hs.elim
      rename_i v hv
      obtain ⟨w, w1, w2⟩ := k6 _ _ _ _ _ hc hv
      rw [w1] at hs
      exact r_ldc hx hb hown (hG _ w2) hd hs
    | ldc2_w x =>
      obtain ⟨hd, hn, hk2⟩ := chk_spec hk (by intros; intro hz; cases hz)
      clear hk
      try simp only [chk2, decide_eq_true_eq] at hk2
      subst hn
      simp only [stepI] at hs
      split at hs
      case h_2 => exact hs.elim
      rename_i v hv
      exact r_ldc2 hx hb hown (hG _ (k7 _ _ _ _ _ hc hv)) hd hs
    | iload a =>
      obtain ⟨hd, hn, hk2⟩ := chk_spec hk (by intros; intro hz; cases hz)
      clear hk
      try simp only [chk2, decide_eq_true_eq] at hk2
      subst hn
      simp only [stepI] at hs
      split at hs
      case h_2 => exact hs.elim
      rename_i z hv
      exact r_iload hx hb hd hv hs
    | iload_n a =>
      obtain ⟨hd, hn, hk2⟩ := chk_spec hk (by intros; intro hz; cases hz)
      clear hk
      try simp only [chk2, decide_eq_true_eq] at hk2
      subst hn
      simp only [stepI] at hs
      split at hs
      case h_2 => exact hs.elim
      rename_i z hv
      exact r_iload_n hx hb hd hv hs
    | lload a =>
      obtain ⟨hd, hn, hk2⟩ := chk_spec hk (by intros; intro hz; cases hz)
      clear hk
      try simp only [chk2, decide_eq_true_eq] at hk2
      subst hn
      simp only [stepI] at hs
      split at hs
      case h_2 => exact hs.elim
      rename_i z hv
      exact r_lload hx hb hd hv hs
    | lload_n a =>
      obtain ⟨hd, hn, hk2⟩ := chk_spec hk (by intros; intro hz; cases hz)
      clear hk
      try simp only [chk2, decide_eq_true_eq] at hk2
      subst hn
      simp only [stepI] at hs
      split at hs
      case h_2 => exact hs.elim
      rename_i z hv
      exact r_lload_n hx hb hd hv hs
    | aload a =>
      obtain ⟨hd, hn, hk2⟩ := chk_spec hk (by intros; intro hz; cases hz)
      clear hk
      try simp only [chk2, decide_eq_true_eq] at hk2
      subst hn
      simp only [stepI] at hs
      split at hs
      case h_2 => exact hs.elim
      rename_i z hv
      exact r_aload hx hb hd hv hs
    | aload_n a =>
      obtain ⟨hd, hn, hk2⟩ := chk_spec hk (by intros; intro hz; cases hz)
      clear hk
      try simp only [chk2, decide_eq_true_eq] at hk2
      subst hn
      simp only [stepI] at hs
      split at hs
      case h_2 => exact hs.elim
      rename_i z hv
      exact r_aload_n hx hb hd hv hs
    | istore a =>
      obtain ⟨hd, hn, hk2⟩ := chk_spec hk (by intros; intro hz; cases hz)
      clear hk
      try simp only [chk2, decide_eq_true_eq] at hk2
      have hi := hk2
      subst hn
      simp only [stepI] at hs
      split at hs
      case h_2 => exact hs.elim
      exact r_istore hx hb hi hd hs
    | istore_n a =>
      obtain ⟨hd, hn, hk2⟩ := chk_spec hk (by intros; intro hz; cases hz)
      clear hk
      try simp only [chk2, decide_eq_true_eq] at hk2
      have hi := hk2
      subst hn
      simp only [stepI] at hs
      split at hs
      case h_2 => exact hs.elim
      exact r_istore_n hx hb hi hd hs
    | lstore a =>
      obtain ⟨hd, hn, hk2⟩ := chk_spec hk (by intros; intro hz; cases hz)
      clear hk
      try simp only [chk2, decide_eq_true_eq] at hk2
      have hi := hk2
      subst hn
      simp only [stepI] at hs
      split at hs
      case h_2 => exact hs.elim
      exact r_lstore hx hb hi hd hs
    | lstore_n a =>
      obtain ⟨hd, hn, hk2⟩ := chk_spec hk (by intros; intro hz; cases hz)
      clear hk
      try simp only [chk2, decide_eq_true_eq] at hk2
      have hi := hk2
      subst hn
      simp only [stepI] at hs
      split at hs
      case h_2 => exact hs.elim
      exact r_lstore_n hx hb hi hd hs
    | astore a =>
      obtain ⟨hd, hn, hk2⟩ := chk_spec hk (by intros; intro hz; cases hz)
      clear hk
      try simp only [chk2, decide_eq_true_eq] at hk2
      have hi := hk2
      subst hn
      simp only [stepI] at hs
      split at hs
      case h_2 => exact hs.elim
      exact r_astore hx hb hi hd hs
    | astore_n a =>
      obtain ⟨hd, hn, hk2⟩ := chk_spec hk (by intros; intro hz; cases hz)
      clear hk
      try simp only [chk2, decide_eq_true_eq] at hk2
      have hi := hk2
      subst hn
      simp only [stepI] at hs
      split at hs
      case h_2 => exact hs.elim
      exact r_astore_n hx hb hi hd hs
    | iinc a y =>
      obtain ⟨hd, hn, hk2⟩ := chk_spec hk (by intros; intro hz; cases hz)
      clear hk
      try simp only [chk2, decide_eq_true_eq] at hk2
      subst hn
      simp only [stepI] at hs
      split at hs
      case h_2 => exact hs.elim
      rename_i z hv
      exact r_iinc hx hb hd hv hs
    | iadd =>
      obtain ⟨hd, hn, hk2⟩ := chk_spec hk (by intros; intro hz; cases hz)
      clear hk
      try simp only [chk2, decide_eq_true_eq] at hk2
      subst hn
      simp only [stepI] at hs
      split at hs
      case h_2 => exact hs.elim
      exact r_iadd hx hb hd hs
    | isub =>
      obtain ⟨hd, hn, hk2⟩ := chk_spec hk (by intros; intro hz; cases hz)
      clear hk
      try simp only [chk2, decide_eq_true_eq] at hk2
      subst hn
      simp only [stepI] at hs
      split at hs
      case h_2 => exact hs.elim
      exact r_isub hx hb hd hs
    | imul =>
      obtain ⟨hd, hn, hk2⟩ := chk_spec hk (by intros; intro hz; cases hz)
      clear hk
      try simp only [chk2, decide_eq_true_eq] at hk2
      subst hn
      simp only [stepI] at hs
      split at hs
      case h_2 => exact hs.elim
      exact r_imul hx hb hd hs
    | iand =>
      obtain ⟨hd, hn, hk2⟩ := chk_spec hk (by intros; intro hz; cases hz)
      clear hk
      try simp only [chk2, decide_eq_true_eq] at hk2
      subst hn
      simp only [stepI] at hs
      split at hs
      case h_2 => exact hs.elim
      exact r_iand hx hb hd hs
    | ior =>
      obtain ⟨hd, hn, hk2⟩ := chk_spec hk (by intros; intro hz; cases hz)
      clear hk
      try simp only [chk2, decide_eq_true_eq] at hk2
      subst hn
      simp only [stepI] at hs
      split at hs
      case h_2 => exact hs.elim
      exact r_ior hx hb hd hs
    | ixor =>
      obtain ⟨hd, hn, hk2⟩ := chk_spec hk (by intros; intro hz; cases hz)
      clear hk
      try simp only [chk2, decide_eq_true_eq] at hk2
      subst hn
      simp only [stepI] at hs
      split at hs
      case h_2 => exact hs.elim
      exact r_ixor hx hb hd hs
    | ishl =>
      obtain ⟨hd, hn, hk2⟩ := chk_spec hk (by intros; intro hz; cases hz)
      clear hk
      try simp only [chk2, decide_eq_true_eq] at hk2
      subst hn
      simp only [stepI] at hs
      split at hs
      case h_2 => exact hs.elim
      exact r_ishl hx hb hd hs
    | ishr =>
      obtain ⟨hd, hn, hk2⟩ := chk_spec hk (by intros; intro hz; cases hz)
      clear hk
      try simp only [chk2, decide_eq_true_eq] at hk2
      subst hn
      simp only [stepI] at hs
      split at hs
      case h_2 => exact hs.elim
      exact r_ishr hx hb hd hs
    | ladd =>
      obtain ⟨hd, hn, hk2⟩ := chk_spec hk (by intros; intro hz; cases hz)
      clear hk
      try simp only [chk2, decide_eq_true_eq] at hk2
      subst hn
      simp only [stepI] at hs
      split at hs
      case h_2 => exact hs.elim
      exact r_ladd hx hb hd hs
    | lsub =>
      obtain ⟨hd, hn, hk2⟩ := chk_spec hk (by intros; intro hz; cases hz)
      clear hk
      try simp only [chk2, decide_eq_true_eq] at hk2
      subst hn
      simp only [stepI] at hs
      split at hs
      case h_2 => exact hs.elim
      exact r_lsub hx hb hd hs
    | lmul =>
      obtain ⟨hd, hn, hk2⟩ := chk_spec hk (by intros; intro hz; cases hz)
      clear hk
      try simp only [chk2, decide_eq_true_eq] at hk2
      subst hn
      simp only [stepI] at hs
      split at hs
      case h_2 => exact hs.elim
      exact r_lmul hx hb hd hs
    | land =>
      obtain ⟨hd, hn, hk2⟩ := chk_spec hk (by intros; intro hz; cases hz)
      clear hk
      try simp only [chk2, decide_eq_true_eq] at hk2
      subst hn
      simp only [stepI] at hs
      split at hs
      case h_2 => exact hs.elim
      exact r_land hx hb hd hs
    | lor =>
      obtain ⟨hd, hn, hk2⟩ := chk_spec hk (by intros; intro hz; cases hz)
      clear hk
      try simp only [chk2, decide_eq_true_eq] at hk2
      subst hn
      simp only [stepI] at hs
      split at hs
      case h_2 => exact hs.elim
      exact r_lor hx hb hd hs
    | lxor =>
      obtain ⟨hd, hn, hk2⟩ := chk_spec hk (by intros; intro hz; cases hz)
      clear hk
      try simp only [chk2, decide_eq_true_eq] at hk2
      subst hn
      simp only [stepI] at hs
      split at hs
      case h_2 => exact hs.elim
      exact r_lxor hx hb hd hs
    | lshl =>
      obtain ⟨hd, hn, hk2⟩ := chk_spec hk (by intros; intro hz; cases hz)
      clear hk
      try simp only [chk2, decide_eq_true_eq] at hk2
      subst hn
      simp only [stepI] at hs
      split at hs
      case h_2 => exact hs.elim
      exact r_lshl hx hb hd hs
    | lshr =>
      obtain ⟨hd, hn, hk2⟩ := chk_spec hk (by intros; intro hz; cases hz)
      clear hk
      try simp only [chk2, decide_eq_true_eq] at hk2
      subst hn
      simp only [stepI] at hs
      split at hs
      case h_2 => exact hs.elim
      exact r_lshr hx hb hd hs
    | lushr =>
      obtain ⟨hd, hn, hk2⟩ := chk_spec hk (by intros; intro hz; cases hz)
      clear hk
      try simp only [chk2, decide_eq_true_eq] at hk2
      subst hn
      simp only [stepI] at hs
      split at hs
      case h_2 => exact hs.elim
      exact r_lushr hx hb hd hs
    | lcmp =>
      obtain ⟨hd, hn, hk2⟩ := chk_spec hk (by intros; intro hz; cases hz)
      clear hk
      try simp only [chk2, decide_eq_true_eq] at hk2
      subst hn
      simp only [stepI] at hs
      split at hs
      case h_2 => exact hs.elim
      exact r_lcmp hx hb hd hs
    | i2l =>
      obtain ⟨hd, hn, hk2⟩ := chk_spec hk (by intros; intro hz; cases hz)
      clear hk
      try simp only [chk2, decide_eq_true_eq] at hk2
      subst hn
      simp only [stepI] at hs
      split at hs
      case h_2 => exact hs.elim
      exact r_i2l hx hb hd hs
    | l2i =>
      obtain ⟨hd, hn, hk2⟩ := chk_spec hk (by intros; intro hz; cases hz)
      clear hk
      try simp only [chk2, decide_eq_true_eq] at hk2
      subst hn
      simp only [stepI] at hs
      split at hs
      case h_2 => exact hs.elim
      exact r_l2i hx hb hd hs
    | idiv =>
      obtain ⟨hd, hn, hk2⟩ := chk_spec hk (by intros; intro hz; cases hz)
      clear hk
      try simp only [chk2, decide_eq_true_eq] at hk2
      subst hn
      simp only [stepI] at hs
      split at hs
      case h_2 => exact hs.elim
      exact r_idiv hx hb hd hs.1 hs.2
    | irem =>
      obtain ⟨hd, hn, hk2⟩ := chk_spec hk (by intros; intro hz; cases hz)
      clear hk
      try simp only [chk2, decide_eq_true_eq] at hk2
      subst hn
      simp only [stepI] at hs
      split at hs
      case h_2 => exact hs.elim
      exact r_irem hx hb hd hs.1 hs.2
    | ldiv =>
      obtain ⟨hd, hn, hk2⟩ := chk_spec hk (by intros; intro hz; cases hz)
      clear hk
      try simp only [chk2, decide_eq_true_eq] at hk2
      subst hn
      simp only [stepI] at hs
      split at hs
      case h_2 => exact hs.elim
      exact r_ldiv hx hb hd hs.1 hs.2
    | lrem =>
      obtain ⟨hd, hn, hk2⟩ := chk_spec hk (by intros; intro hz; cases hz)
      clear hk
      try simp only [chk2, decide_eq_true_eq] at hk2
      subst hn
      simp only [stepI] at hs
      split at hs
      case h_2 => exact hs.elim
      exact r_lrem hx hb hd hs.1 hs.2
    | dup =>
      obtain ⟨hd, hn, hk2⟩ := chk_spec hk (by intros; intro hz; cases hz)
      clear hk
      try simp only [chk2, decide_eq_true_eq] at hk2
      subst hn
      simp only [stepI] at hs
      split at hs
      case h_2 => exact hs.elim
      exact r_dup hx hb hs.1 hd hs.2
    | dup2 =>
      obtain ⟨hd, hn, hk2⟩ := chk_spec hk (by intros; intro hz; cases hz)
      clear hk
      try simp only [chk2, decide_eq_true_eq] at hk2
      subst hn
      simp only [stepI] at hs
      split at hs
      case h_2 => exact hs.elim
      exact r_dup2 hx hb hs.1.1 hs.1.2 hd hs.2
    | pop =>
      obtain ⟨hd, hn, hk2⟩ := chk_spec hk (by intros; intro hz; cases hz)
      clear hk
      try simp only [chk2, decide_eq_true_eq] at hk2
      subst hn
      simp only [stepI] at hs
      split at hs
      case h_2 => exact hs.elim
      exact r_pop hx hb hs.1 hd hs.2
    | goto off =>
      obtain ⟨hd, hn, hk2⟩ := chk_spec hk (by intros; intro hz; cases hz)
      clear hk
      try simp only [chk2, decide_eq_true_eq] at hk2
      subst hn
      simp only [stepI] at hs
      split at hs
      case h_2 => exact hs.elim
      exact r_goto hx hb hd (of_decide_eq_true hk2) hs
    | ifCond cd off =>
      obtain ⟨hd, hn, hk2⟩ := chk_spec hk (by intros; intro hz; cases hz)
      clear hk
      try simp only [chk2, decide_eq_true_eq] at hk2
      subst hn
      simp only [stepI] at hs
      split at hs
      case h_2 => exact hs.elim
      exact r_if hx hb hs.1 hd (of_decide_eq_true hk2) hs.2.1 hs.2.2
    | if_icmp cd off =>
      obtain ⟨hd, hn, hk2⟩ := chk_spec hk (by intros; intro hz; cases hz)
      clear hk
      try simp only [chk2, decide_eq_true_eq] at hk2
      subst hn
      simp only [stepI] at hs
      split at hs
      case h_2 => exact hs.elim
      exact r_icmp hx hb hs.1.1 hs.1.2 hd (of_decide_eq_true hk2) hs.2.1 hs.2.2
    | tableswitch dflt lo hi offs =>
      simp only [stepI] at hs
      split at hs
      case h_2 => exact hs.elim
      rename_i t ts a r
      simp only [chk, chkSw, Bool.and_eq_true, decide_eq_true_eq, List.all_eq_true, List.mem_range] at hk
      obtain ⟨hd, ⟨⟨h1, h2⟩, h3⟩, h4⟩ := hk
      split at hd
      case h_2 => cases hd
      rename_i j len hd2
      rw [decide_eq_true_eq] at hd
      subst hd
      refine r_switch hx hb hs.1 hd2 h1 ⟨h2, h3⟩ (fun i o u ho hu => ?_) hs.2.1 hs.2.2
      have hi : i < ts.length := (List.getElem?_eq_some_iff.mp hu).1
      have h5 := h4 i hi
      rw [List.getD_eq_getElem?_getD, List.getD_eq_getElem?_getD, hu, Array.getElem?_toList, ho] at h5
      exact h5
    | getfield x =>
      obtain ⟨hd, hn, hk2⟩ := chk_spec hk (by intros; intro hz; cases hz)
      clear hk
      try simp only [chk2, decide_eq_true_eq] at hk2
      subst hn
      simp only [stepI] at hs
      split at hs
      case h_2 => exact hs.elim
      rename_i ci j a r hf
      obtain ⟨ha, fs, v, he, hv, hj⟩ := hs
      exact r_getfield hx hb hG hCl hK hown (k2 _ _ _ hf) hd ha he hv hj
    | putfield x =>
      simp only [stepI] at hs
      split at hs
      case h_2 => exact hs.elim
      rename_i ci j v a r hf
      obtain ⟨hd, hn, hfin⟩ := chk_spec hk (by intros; intro hz; cases hz)
      simp only [chk2, hf] at hfin
      subst hn
      obtain ⟨ha, fs, he, hl, hfit, hj⟩ := hs
      obtain ⟨q, hq, hjn, hw⟩ := k2 _ _ _ hf
      rw [hq] at hfin
      refine r_putfield hx hb hG hCl hK hown ⟨q, hq, hjn, hw, fun hz => ?_⟩ hd ha he hl hfit hj
      simp only [hz, Bool.not_true, Bool.false_or, Bool.and_eq_true, decide_eq_true_eq] at hfin
      exact hfin
    | iaload =>
      obtain ⟨hd, hn, hk2⟩ := chk_spec hk (by intros; intro hz; cases hz)
      clear hk
      try simp only [chk2, decide_eq_true_eq] at hk2
      subst hn
      simp only [stepI] at hs
      split at hs
      case h_2 => exact hs.elim
      obtain ⟨ha, mm, f, he, hi, hj⟩ := hs
      exact r_iaload hx hb hK hAm hd ha he hi hj
    | baload =>
      obtain ⟨hd, hn, hk2⟩ := chk_spec hk (by intros; intro hz; cases hz)
      clear hk
      try simp only [chk2, decide_eq_true_eq] at hk2
      subst hn
      simp only [stepI] at hs
      split at hs
      case h_2 => exact hs.elim
      obtain ⟨ha, mm, f, he, hi, hj⟩ := hs
      exact r_baload hx hb hK hd ha he hi hj
    | laload =>
      obtain ⟨hd, hn, hk2⟩ := chk_spec hk (by intros; intro hz; cases hz)
      clear hk
      try simp only [chk2, decide_eq_true_eq] at hk2
      subst hn
      simp only [stepI] at hs
      split at hs
      case h_2 => exact hs.elim
      obtain ⟨ha, mm, f, he, hi, hj⟩ := hs
      exact r_laload hx hb hK hd ha he hi hj
    | aaload =>
      obtain ⟨hd, hn, hk2⟩ := chk_spec hk (by intros; intro hz; cases hz)
      clear hk
      try simp only [chk2, decide_eq_true_eq] at hk2
      subst hn
      simp only [stepI] at hs
      split at hs
      case h_2 => exact hs.elim
      obtain ⟨ha, mm, f, he, hi, hj⟩ := hs
      exact r_aaload hx hb hK hd ha he hi hj
    | iastore =>
      obtain ⟨hd, hn, hk2⟩ := chk_spec hk (by intros; intro hz; cases hz)
      clear hk
      try simp only [chk2, decide_eq_true_eq] at hk2
      subst hn
      simp only [stepI] at hs
      split at hs
      case h_2 => exact hs.elim
      obtain ⟨ha, mm, f, he, hi, hj⟩ := hs
      exact r_iastore hx hb hK hd ha he hi hj
    | lastore =>
      obtain ⟨hd, hn, hk2⟩ := chk_spec hk (by intros; intro hz; cases hz)
      clear hk
      try simp only [chk2, decide_eq_true_eq] at hk2
      subst hn
      simp only [stepI] at hs
      split at hs
      case h_2 => exact hs.elim
      obtain ⟨ha, mm, f, he, hi, hj⟩ := hs
      exact r_lastore hx hb hK hd ha he hi hj
    | bastore =>
      obtain ⟨hd, hn, hk2⟩ := chk_spec hk (by intros; intro hz; cases hz)
      clear hk
      try simp only [chk2, decide_eq_true_eq] at hk2
      subst hn
      simp only [stepI] at hs
      split at hs
      case h_2 => exact hs.elim
      obtain ⟨ha, hz, mm, f, he, hi, hj⟩ := hs
      exact r_bastore hx hb hK hz hd ha he hi hj
    | aastore =>
      obtain ⟨hd, hn, hk2⟩ := chk_spec hk (by intros; intro hz; cases hz)
      clear hk
      try simp only [chk2, decide_eq_true_eq] at hk2
      subst hn
      simp only [stepI] at hs
      split at hs
      case h_2 => exact hs.elim
      obtain ⟨ha, hbN, ⟨vs, hbe⟩, mm, f, he, hi, hj⟩ := hs
      exact r_aastore hx hb hK hbN hbe hd ha he hi hj
    | arraylength =>
      obtain ⟨hd, hn, hk2⟩ := chk_spec hk (by intros; intro hz; cases hz)
      clear hk
      try simp only [chk2, decide_eq_true_eq] at hk2
      subst hn
      simp only [stepI] at hs
      split at hs
      case h_2 => exact hs.elim
      obtain ⟨ha, mm, f, he, hj⟩ := hs
      exact r_alen hx hb hK hAm hd ha he hj
    | getstatic x =>
      obtain ⟨hd, hn, hk2⟩ := chk_spec hk (by intros; intro hz; cases hz)
      clear hk
      simp only [chk2, Bool.and_eq_true, Bool.or_eq_true, decide_eq_true_eq] at hk2
      obtain ⟨ho, hk3⟩ := hk2
      subst hn
      subst ho
      simp only [stepI] at hs
      rcases hk3 with ⟨hx1, hx2⟩ | ⟨hx1, hx2⟩
      · subst hx1
        subst hx2
        intro ad H locs ls hR hL
        have hz := hs ad H locs ls hR hL
        have e9 : cv ad (vR 1001) = .ref (gr E) := by
          have := hR.1.2.2.2.2.1
          show va_rf (some (ad (aRO + 1))) = _
          rw [this]
          rfl
        rw [List.map_cons, e9] at hz
        exact va_getsN hx hb hA.2.2.2.2.1.2 hR.2.1 hown (va_Nw.use rfl hA.2.2.2.2.1.1) (fun _ h => h) hd hz
      · subst hx1
        subst hx2
        intro ad H locs ls hR hL
        have hz := hs ad H locs ls hR hL
        have e9 : cv ad (vR 1002) = .ref (gc E) := by
          have := hR.1.2.2.2.2.2.1
          show va_rf (some (ad (aRO + 2))) = _
          rw [this]
          rfl
        rw [List.map_cons, e9] at hz
        exact va_getsN hx hb hA.2.2.2.2.2.1.2 hR.2.1 hown (va_Nw.use rfl hA.2.2.2.2.2.1.1) (fun _ h => h) hd hz
    | new x =>
      obtain ⟨hd, hn, hk2⟩ := chk_spec hk (by intros; intro hz; cases hz)
      clear hk
      try simp only [chk2, decide_eq_true_eq] at hk2
      subst hn
      simp only [stepI, hth] at hs
      split at hs
      case h_2 => exact hs.elim
      rename_i ci hci
      obtain ⟨⟨h1, h2, h3, h4, h5⟩, hj⟩ := hs
      exact r_new hx hb hG hCl hK hAm hown (k5 _ _ hci) hd (by omega) (by omega) h1 h2 h3 hj
    | newarray t =>
      obtain ⟨hd, hn, hk2⟩ := chk_spec hk (by intros; intro hz; cases hz)
      clear hk
      try simp only [chk2, decide_eq_true_eq] at hk2
      subst hn
      simp only [stepI] at hs
      split at hs
      case h_4 => exact hs.elim
      · obtain ⟨⟨h1, h2, h3, h4, h5, h6, h7⟩, hj⟩ := hs
        exact r_newI hx hb hG hK hAm hAC.1 hd ⟨h1, h2⟩ (by omega) (by omega) h3 h4 h5 hj
      · obtain ⟨⟨h1, h2, h3, h4, h5, h6, h7⟩, hj⟩ := hs
        exact r_newZ hx hb hG hK hAm hAC.2.1 hd ⟨h1, h2⟩ (by omega) (by omega) h3 h4 h5 hj
      · obtain ⟨⟨h1, h2, h3, h4, h5, h6, h7⟩, hj⟩ := hs
        exact r_newL hx hb hG hK hAm hAC.2.2 hd ⟨h1, h2⟩ (by omega) (by omega) h3 h4 h5 hj
    | anewarray x =>
      obtain ⟨hd, hn, hk2⟩ := chk_spec hk (by intros; intro hz; cases hz)
      clear hk
      try simp only [chk2, decide_eq_true_eq] at hk2
      subst hn
      simp only [stepI] at hs
      split at hs
      case h_2 => exact hs.elim
      obtain ⟨⟨h1, h2, h3, h4, h5, h6, h7⟩, hj⟩ := hs
      exact r_newR hx hb hG hK hAm hA.2.2.1 hown (k8 _ _ _ _ hc) hd ⟨h1, h2⟩ (by omega) (by omega) h3 h4 h5 hj
    | invokevirtual x =>
      obtain ⟨hd, hn, hk2⟩ := chk_spec hk (by intros; intro hz; cases hz)
      clear hk
      try simp only [chk2, decide_eq_true_eq] at hk2
      subst hn
      simp only [stepI] at hs
      split at hs
      case h_2 => exact hs.elim
      rename_i y na mc ms rc hm
      exact hcall hm (Or.inl ⟨rfl, hs.1, hd⟩) (fun q => by omega) (fun q => by omega) hs.2
    | invokestatic x =>
      obtain ⟨hd, hn, hk2⟩ := chk_spec hk (by intros; intro hz; cases hz)
      clear hk
      try simp only [chk2, decide_eq_true_eq] at hk2
      subst hn
      simp only [stepI] at hs
      split at hs
      case h_5 => exact hs.elim
      · rename_i hm
        split at hs
        case h_2 => exact hs.elim
        obtain ⟨ha, hbN, hcat, mm, mm', f, g, he, hbe, hi, hj⟩ := hs
        exact r_copy hx hb hG hK hml hown (k3 _ _ hm) (by omega) (by omega) hcat hd ha hbN he hbe hi hj
      · rename_i hm
        exact hcall hm (Or.inr (Or.inl ⟨Or.inl rfl, hd⟩)) (fun q => by omega) (fun q => by omega) hs
      · rename_i hm
        exact hcall hm (Or.inr (Or.inl ⟨Or.inr (Or.inl rfl), hd⟩)) (fun q => by omega) (fun q => by omega) hs
      · rename_i hm
        exact hcall hm (Or.inr (Or.inl ⟨Or.inr (Or.inr rfl), hd⟩)) (fun _ => rfl) (fun q => by omega) hs
    | invokespecial x =>
      obtain ⟨hd, hn, hk2⟩ := chk_spec hk (by intros; intro hz; cases hz)
      clear hk
      try simp only [chk2, decide_eq_true_eq] at hk2
      subst hn
      simp only [stepI] at hs
      split at hs
      case h_4 => exact hs.elim
      · rename_i hm
        split at hs
        case h_2 => exact hs.elim
        obtain ⟨hcat, hj⟩ := hs
        obtain ⟨w1, w2, w3⟩ := k3 _ _ hm
        intro ad H locs ls hR hL
        refine W.objInit (g := F0 m pc ls _) hx hb hown (hG _ w1) (hG _ w2) (hG _ w3) rfl (by rw [hml]; exact hL.size) rfl hd (by omega) ?_ (hj ad H locs ls hR hL)
        have := lv_room (m := m) (pc := pc) (ls := ls) (rest := []) (st := (List.map (cv ad) _)) (by rw [cats_cv]; exact hcat)
        have e9 : (F0 m pc ls []).monitorRoom = 0 := rfl
        show 2 * 0 + _ + 12 ≤ _
        omega
      · rename_i hm
        exact hcall hm (Or.inr (Or.inr ⟨Or.inl rfl, hd⟩)) (fun _ => rfl) (fun _ => hs.1) hs.2
      · rename_i hm
        exact hcall hm (Or.inr (Or.inr ⟨Or.inr rfl, hd⟩)) (fun _ => rfl) (fun _ => hs.1) hs.2
    | ireturn =>
      exact e3 _ _ _ _ _ _ _ _ _ _ hc (Or.inl rfl) hs
    | lreturn =>
      exact e3 _ _ _ _ _ _ _ _ _ _ hc (Or.inr (Or.inl rfl)) hs
    | areturn =>
      exact e3 _ _ _ _ _ _ _ _ _ _ hc (Or.inr (Or.inr (Or.inl rfl))) hs
    | return_ =>
      exact e3 _ _ _ _ _ _ _ _ _ _ hc (Or.inr (Or.inr (Or.inr rfl))) hs
    | _ =>
      exact (show False from hs).elim
end AMT
end
section
/-! ===== T stands for the great machine's contracts ===== -/
def RetOk (y : Nat) : Prop := ∀ pc i nx tg, lk (mI y).code pc = some (i, nx, tg) →
  (i = .ireturn → mR y = some .int ∨ (mR y = some .boolean ∧ (mI y).rt = 1)) ∧ (i = .lreturn → mR y = some .long) ∧ (i = .areturn → ∃ C, mR y = some (.object C)) ∧ (i = .return_ → mR y = none)
/-- what is decided of method y -/
def MStat (y : Nat) : Prop := MOk (mN y).cls (mB y) (mL y) (mN y).name (mI y) (mH y) ∧ plainName (mN y).cls = true ∧ RetOk y
/-- what is decided of all -/
def GStat : Prop := (∀ ci q, vwCl[ci]? = some q → ClOk ci q) ∧ (Jvm.Cond.arrayClass .int ∈ wG ∧ Jvm.Cond.arrayClass .boolean ∈ wG ∧ Jvm.Cond.arrayClass .long ∈ wG) ∧ ∀ y, y < 229 → MStat y
theorem run_nil {C : AC} {Q : AQ} {pc : Nat} {lv : AL} {st : List AV} {h : AH} {N k n : Nat} {I : MI} (hI : I.code = []) (hr : Run I C Q pc lv st h N k n) : False := by
  refine hr (fun _ _ _ _ _ _ _ => False) ⟨fun pc lv st h N k n hs => ?_, fun _ _ _ _ _ _ _ _ _ _ h => h⟩
  unfold step at hs
  rw [hI] at hs
  exact hs
theorem mI_big {y : Nat} (h : ¬ y < 229) : (mI y).code = [] := by
  have key : ∀ (t : List (Nat × MI)), (∀ q ∈ t, q.1 < 229) → lk t y = none := by
    intro t
    induction t with
    | nil => intro _; rfl
    | cons a t ih =>
      intro hq
      obtain ⟨a1, a2⟩ := a
      have h1 : a1 < 229 := hq (a1, a2) List.mem_cons_self
      have h2 : Nat.beq a1 y = false := by
        cases hb : Nat.beq a1 y with
        | false => rfl
        | true => exact absurd (Nat.eq_of_beq_eq_true hb) (by omega)
      show cond (Nat.beq a1 y) (some a2) (lk t y) = none
      rw [h2]
      exact ih (fun q hm => hq q (List.mem_cons_of_mem _ hm))
  have ha : t_mI.all (fun q => decide (q.1 < 229)) = true := by decide +kernel
  have : lk t_mI y = none := key t_mI (fun q hq => by simpa using List.all_eq_true.mp ha q hq)
  unfold mI
  rw [this]
  rfl
section SND
variable {p : Program} {l : Launch} {e : Env} {s : State} {m : MethodId} {args : Array Value} {below : List Frame} {meth : Method} {c : Code} {E : AEnv}
theorem ends_body {d y : Nat} {ad : Nat → Nat} {N : Nat} {Q : AQ} {C : AC} (hl : l.stackTraces = false) (hx : p.tables.exec = Jvm.exec) (hb : c.code = mB y) (hml : c.maxLocals = mL y) (hr : meth.sig.returnType = mR y) (hlocks : meth.locks = false) (hown : s.vm.findClass (mN y).cls = some m.cls) (hG : ∀ w ∈ wG, w.before args s = true) (hA : Amb E s)
    (hS : MStat y) (htab : c.exceptionTable.toList = tableOf (mH y)) : Ends p l e (rmT (d + 1) y) s m args below meth c (vx_MQ below (aQc E ad N Q) (aXC E ad N Q) args s (mI y).mc (mI y).ms (gA E)) E ad N (mL y) (mI y) C Q := by
  obtain ⟨⟨k1, k2, k3, k4, k5, k6, k7, k8, k0, k9, k10⟩, -, hret⟩ := hS
  have tabnil : (mI y).hnd = [] → ∀ x ∈ c.exceptionTable.toList, False := by
    intro hn x hx9
    rw [htab] at hx9
    have : (mH y).length = 0 := by rw [← k9, hn]; rfl
    rw [List.length_eq_zero_iff.mp this] at hx9
    cases hx9
  have hq : ∀ {ad' : Nat → Nat} {h : AH} {N' : Nat} {H : Heap} {locs : List Loc} (o : Option AV), Q (.inl o) h N' → Rel E s ad N ad' h N' H locs → ∀ t : State, t.heap = H → aQc E ad N Q args s (.returned (o.map (cv ad'))) t := by
    intro ad' h N' H locs o hQ hR t ht
    exact ⟨o, h, N', ad', rfl, hQ, by rw [ht]; exact hR.1, hR.2.2.1, hR.2.2.2, hR.2.1.F ht⟩
  refine ⟨fun pc lv st h N' k n X hth hcat hk hn hnd hQ => ?_, fun pc X h N' k n ce q ad' H locs ls rest hnd hQ hk hn hR hce hcv hcl => ?_, fun pc i nx tg lv st h N' k n hc hi hs => ?_⟩
  · obtain ⟨ho, hX, ik, is, ic, text, d0, d3, dd, w1, w2, w3, w4, w5, w6, w7, w8⟩ := k4 _ _ hth
    rw [ho] at hown
    intro ad' H locs ls hR hL
    obtain ⟨sa, hsa⟩ := hA.2.2.2.2.2.2.2.2.1 _ w3
    have hat : ∀ w ∈ vx_atS RX8 ic X exNames, w.before args s = true := vx_hat (fun w hw => hG w (w4 w hw)) w5 (vx_c (va_Nw.use rfl (hA.2.2.2.2.2.2.2.2.2.1 X hX)) (fun w hw => by
      obtain ⟨x, hx9, rfl⟩ := List.mem_map.mp hw
      exact va_Nw.use rfl (hA.2.2.2.2.2.2.2.2.2.2.2 x hx9)))
    have hout : ∀ q, ∀ x ∈ c.exceptionTable.toList, covers x q = false := fun q x hx9 => (tabnil hnd x hx9).elim
    have hxc : ∀ t : State, s.vm.Alike t.vm → H.size ≤ t.heap.size → (∀ q : Nat, q < H.size → t.heap[q]? = H[q]?) → aXC E ad N Q X s t := by
      intro t _ hz hk
      refine ⟨h, N', ad', hQ, ?_, hR.2.2.1, hR.2.2.2, ?_, ?_⟩
      · obtain ⟨g1, g2, g3⟩ := hR.1
        exact ⟨g1.kept (fun k q hq => hk _ ((g1 k q hq).lt)), g2, g3⟩
      · exact Nat.le_trans hR.2.1.1 hz
      · intro q hq1 hq2
        rw [hk q (Nat.lt_of_lt_of_le hq1 hR.2.1.1)]
        exact hR.2.1.2.1 q hq1 hq2
    have r1 : exNames.length + 3 < (rmT (d + 1) y).frames := by show 2 + 3 < d + 1 + 8; omega
    have r2 : ((st.map (cv ad')).map fun v => v.category).sum + (13 * (exNames.length + 1) + 43) ≤ (rmT (d + 1) y).locals := by
      rw [cats_cv]
      show _ + (13 * (2 + 1) + 43) ≤ 100 + 40 * (d + 1)
      omega
    rcases dd with ⟨d4, d6, d9⟩ | ⟨d4, d6, d9⟩
    · exact vx_throwS hx hb hl hown w7 w8 (hG _ w1) (hG _ w2) hsa hat w6 hA.2.2.2.2.2.2.1 hA.2.2.2.2.2.2.2.1 hR.2.1 (by rw [hml]; exact hL.size) d0 d3 d4 d6 d9 (hout _) r1 r2 hk hn hlocks hxc hR.2.1.2.2 hk hn
    · exact vx_throwSW hx hb hl hown w7 w8 (hG _ w1) (hG _ w2) hsa hat w6 hA.2.2.2.2.2.2.1 hA.2.2.2.2.2.2.2.1 hR.2.1 (by rw [hml]; exact hL.size) d0 d3 d4 d6 d9 (hout _) r1 r2 hk hn hlocks hxc hR.2.1.2.2 hk hn
  · exact vx_out (fun x hx9 => (tabnil hnd x hx9).elim) hlocks hce hcv hcl (fun t ht _ => ⟨h, N', ad', hQ, by rw [ht]; exact hR.1, hR.2.2.1, hR.2.2.2, hR.2.1.F ht⟩) hR.2.1.2.2 hk hn
  · have hth : lk (mI y).thr pc = none := by
      cases hth : lk (mI y).thr pc with
      | none => rfl
      | some X =>
        obtain ⟨x, hx9⟩ := k0 _ _ _ _ _ hth hc
        rw [hx9] at hi
        rcases hi with hi | hi | hi | hi <;> cases hi
    have hk := k1 _ _ _ _ hc hth
    obtain ⟨hd, -, -⟩ := chk_spec hk (by
      intro d lo hh offs hz
      rw [hz] at hi
      rcases hi with hi | hi | hi | hi <;> cases hi)
    obtain ⟨t1, t2, t3, t4⟩ := hret _ _ _ _ hc
    intro ad' H locs ls hR hL
    rcases hi with rfl | rfl | rfl | rfl
    · simp only [stepI] at hs
      split at hs
      case h_2 => exact hs.elim
      rename_i a
      obtain ⟨h1, h2, h3, h4⟩ := hs
      refine W.widen h3 h4 (vx_ret ?_)
      rcases t1 rfl with ht | ⟨ht, hrt⟩
      · exact W.iret (v := iI a) hx hb (by rw [hr, ht]) (fun t ht _ => hq (some (vI a)) h2 hR t ht) hR.2.1.2.2 hd hlocks
      · exact W.zret (v := iI a) (ty := .boolean) hx hb (by rw [hr, ht]) (by rcases h1 hrt with rfl | rfl <;> rfl) (fun t ht _ => hq (some (vI a)) h2 hR t ht) hR.2.1.2.2 hd hlocks
    · simp only [stepI] at hs
      split at hs
      case h_2 => exact hs.elim
      rename_i a
      obtain ⟨h2, h3, h4⟩ := hs
      exact W.widen h3 h4 (vx_ret (W.lret (v := a) hx hb (by rw [hr, t2 rfl]) (fun t ht _ => hq (some (vL a)) h2 hR t ht) hR.2.1.2.2 hd hlocks))
    · simp only [stepI] at hs
      split at hs
      case h_2 => exact hs.elim
      rename_i a
      obtain ⟨h2, h3, h4⟩ := hs
      obtain ⟨C9, hC⟩ := t3 rfl
      exact W.widen h3 h4 (vx_ret (W.aret (v := va_rf (a.map ad')) (rt := .object C9) hx hb (by rw [hr, hC]) (Or.inl ⟨_, rfl⟩) (va_rf_or _) (fun t ht _ => hq (some (vF a)) h2 hR t ht) hR.2.1.2.2 hd hlocks))
    · simp only [stepI] at hs
      split at hs
      case h_2 => exact hs.elim
      obtain ⟨h2, h3, h4⟩ := hs
      exact W.widen h3 h4 (vx_ret (W.vret hx hb (by rw [hr, t4 rfl]) (fun t ht _ => hq none h2 hR t ht) hR.2.1.2.2 hd hlocks))
end SND
theorem T_sound {l : Launch} (hl : l.stackTraces = false) (E : AEnv) (hg : GStat) : ∀ (d y : Nat) (as : List AV) (h : AH) (N : Nat) (Q : AQ), T d y as h N Q → MetY l E d y as h N Q := by
  intro d
  induction d with
  | zero => intro y as h N Q ht; exact ht.elim
  | succ d ih =>
    intro y as h N Q ht ad
    obtain ⟨hlen, hrun⟩ := ht
    by_cases hy : y < 229
    · have hS := hg.2.2 y hy
      have fin : ∀ {p : Program} {e : Env} {s : State} {m : MethodId} {args : Array Value} {below : List Frame} {meth : Method} {c : Code} {s₁ : State}, BodyLoose p l (mN y) (headSpec (mWs y) (rmT (d + 1) y)) (mB y) (mL y) (mR y) e s m args below meth c s₁ → c.maxLocals = mL y → c.exceptionTable.toList = tableOf (mH y) → aPc E ad as h N args s →
          W p l e (rmT (d + 1) y) s m args below meth c s.heap [] 0 0 (vx_MQ below (aQc E ad N Q) (aXC E ad N Q) args s (mI y).mc (mI y).ms (gA E)) (entryFrame m args (mL y)) := by
        intro p e s m args below meth c s₁ B hml htab hP
        obtain ⟨rfl, hA, hRS⟩ := hP
        have hts := atoms_spec (ws := mWs y) B.pre
        have hG : ∀ w ∈ wG, w.before (as.map (cv ad)).toArray s = true := fun w hw => hts w (List.mem_cons_of_mem _ hw)
        have hown : s.vm.findClass (mN y).cls = some m.cls := findClass_of_methodNamed B.named
        have hnm : meth.name = (mN y).name := (name_of_methodNamed B.named B.method).1
        have hOk : MOk (mN y).cls (mB y) (mL y) meth.name (mI y) (mH y) := by rw [hnm]; exact hS.1
        have hE := ends_body (d := d) (ad := ad) (N := N) (Q := Q) (C := T d) (below := below) (e := e) hl B.exec B.bytes hml B.returns B.notSynchronized hown hG hA hS htab
        have hclo := am_clo (d := d) (C := T d) (R := rmT (d + 1) y) B.exec B.bytes hml hown hG hg.1 hg.2.1 hA (by show d + 9 ≤ d + 1 + 8; omega) (by show _ ≤ 100 + 40 * (d + 1); omega) (Nat.le_refl _) (Nat.le_refl _) hOk (fun _ => htab) (fun y as h N Qy hc => ih y as h N Qy hc) hE
        rw [lg_entry_eq]
        exact hrun _ hclo ad s.heap [] _ ⟨hRS, va_S.rf, Nat.le_refl _, fun _ _ => rfl⟩ (aEnt_Lh hlen)
      by_cases hh : mH y = []
      · refine vx_ofW (cc := mB y) (maxL := mL y) (ret := mR y) hS.2.1 (by unfold mWs; rw [mW_nil hh]) (fun p e s m args below meth c s₁ B hml htab hP => fin B hml ?_ hP)
        rw [hh]
        cases hz : c.exceptionTable.toList with
        | nil => rfl
        | cons x t => exact (htab x (by rw [hz]; exact List.mem_cons_self)).elim
      · refine vx_ofWH (cc := mB y) (maxL := mL y) (ret := mR y) (hh := mH y) hS.2.1 (by unfold mWs; rw [mW_hh hh]) (fun p e s m args below meth c s₁ B hml hP => fin B hml ?_ hP)
        refine vx_table (x := mN y) B (bytes := mB y) (maxL' := mL y) (ret' := mR y) (atoms_spec (ws := mWs y) B.pre _ ?_)
        unfold mWs
        rw [mW_hh hh]
        exact List.mem_cons_self
    · exact (run_nil (mI_big hy) hrun).elim
end
section
/-! ===== what is decided: the words of the tables, and the methods that are called ===== -/
theorem wG_m {w : Jvm.Cond} (i : Nat) (h : lw_tbl[i]? = some w) (hg : goodWord w = true) : w ∈ wG := List.mem_filter.mpr ⟨List.mem_of_getElem? h, hg⟩
theorem wG_t1 {w : Jvm.Cond} (i : Nat) (h : tables_1_1[i]? = some w) (hg : goodWord w = true) : w ∈ wG := by
  have h := List.mem_of_getElem? h
  exact List.mem_filter.mpr ⟨List.mem_append_right _ (show w ∈ tables_1 from (List.mem_append_left _ h)), hg⟩
theorem wG_t2 {w : Jvm.Cond} (i : Nat) (h : tables_1_2[i]? = some w) (hg : goodWord w = true) : w ∈ wG := by
  have h := List.mem_of_getElem? h
  exact List.mem_filter.mpr ⟨List.mem_append_right _ (show w ∈ tables_1 from (List.mem_append_right _ (List.mem_append_left _ h))), hg⟩
theorem wG_t3 {w : Jvm.Cond} (i : Nat) (h : tables_1_3[i]? = some w) (hg : goodWord w = true) : w ∈ wG := by
  have h := List.mem_of_getElem? h
  exact List.mem_filter.mpr ⟨List.mem_append_right _ (show w ∈ tables_1 from (List.mem_append_right _ (List.mem_append_right _ (List.mem_append_left _ h)))), hg⟩
theorem wG_t4 {w : Jvm.Cond} (i : Nat) (h : tables_1_4[i]? = some w) (hg : goodWord w = true) : w ∈ wG := by
  have h := List.mem_of_getElem? h
  exact List.mem_filter.mpr ⟨List.mem_append_right _ (show w ∈ tables_1 from (List.mem_append_right _ (List.mem_append_right _ (List.mem_append_right _ (List.mem_append_left _ h))))), hg⟩
theorem wG_t5 {w : Jvm.Cond} (i : Nat) (h : tables_1_5[i]? = some w) (hg : goodWord w = true) : w ∈ wG := by
  have h := List.mem_of_getElem? h
  exact List.mem_filter.mpr ⟨List.mem_append_right _ (show w ∈ tables_1 from (List.mem_append_right _ (List.mem_append_right _ (List.mem_append_right _ (List.mem_append_right _ (List.mem_append_left _ h)))))), hg⟩
theorem wG_t6 {w : Jvm.Cond} (i : Nat) (h : tables_1_6[i]? = some w) (hg : goodWord w = true) : w ∈ wG := by
  have h := List.mem_of_getElem? h
  exact List.mem_filter.mpr ⟨List.mem_append_right _ (show w ∈ tables_1 from (List.mem_append_right _ (List.mem_append_right _ (List.mem_append_right _ (List.mem_append_right _ (List.mem_append_right _ (h))))))), hg⟩
def CalV (y n mc ms rc : Nat) : Prop := CalOk y n mc ms ∧ mH y = [] ∧ Jvm.Cond.instanceMethod (mN y) ∈ wG ∧ Jvm.Cond.selects (mN y).cls (mN y) (mN y) ∈ wG ∧ ∃ q, vwCl[rc]? = some q ∧ q.1 = (mN y).cls
def CalS (y n mc ms : Nat) : Prop := CalOk y n mc ms ∧ mH y = [] ∧ Jvm.Cond.static (mN y) ∈ wG
def CalX (y n mc ms : Nat) : Prop := CalOk y n mc ms ∧ mH y ≠ [] ∧ Jvm.Cond.static (mN y) ∈ wG
def CalC (y n mc ms : Nat) : Prop := CalOk y n mc ms ∧ mH y = [] ∧ mR y = none ∧ Jvm.Cond.instanceMethod (mN y) ∈ wG ∧ (mN y).name = "<init>"
theorem m_0 {own : String} {x y n mc ms rc : Nat} (h : CalV y n mc ms rc) (w : Jvm.Cond.methodLink own x (mN y) ∈ wG) : MthOk own x (y, 0, n + 1, mc, ms, rc) := ⟨n, rfl, h.1, h.2.1, w, h.2.2.1, h.2.2.2.1, h.2.2.2.2⟩
theorem m_1 {own : String} {x y n mc ms rc : Nat} (h : CalS y n mc ms) (w : Jvm.Cond.methodLink own x (mN y) ∈ wG) : MthOk own x (y, 1, n, mc, ms, rc) := ⟨h.1, h.2.1, w, h.2.2⟩
theorem m_7 {own : String} {x y n mc ms rc : Nat} (h : CalX y n mc ms) (w : Jvm.Cond.methodLink own x (mN y) ∈ wG) : MthOk own x (y, 7, n, mc, ms, rc) := ⟨h.1, h.2.1, w, h.2.2⟩
theorem m_2 {own : String} {x y n mc ms rc : Nat} (h : CalC y n mc ms) (w : Jvm.Cond.methodLink own x (mN y) ∈ wG) : MthOk own x (y, 2, n + 1, mc, ms, rc) := ⟨n, rfl, h.1, h.2.1, h.2.2.1, w, h.2.2.2.1, h.2.2.2.2⟩
theorem m_3 {own : String} {x y n mc ms rc : Nat} (h : CalS y n mc ms) (w : (own, x, y, RX8) ∈ aNest) : MthOk own x (y, 3, n, mc, ms, rc) := ⟨h.1, h.2.1, w, h.2.2⟩
theorem m_4 {own : String} {x y n mc ms rc : Nat} (h : CalC y n mc ms) (w : (own, x, y, RX8) ∈ aNest) : MthOk own x (y, 4, n + 1, mc, ms, rc) := ⟨n, rfl, h.1, h.2.1, h.2.2.1, w, h.2.2.2.1, h.2.2.2.2⟩
theorem lk_mem {α : Type} : ∀ (t : List (Nat × α)) {x : Nat} {v : α}, lk t x = some v → (x, v) ∈ t
  | [], x, v, h => by cases h
  | (k, a) :: t, x, v, h => by
    cases hb : Nat.beq k x with
    | true =>
      have h : cond (Nat.beq k x) (some a) (lk t x) = some v := h
      rw [hb] at h
      cases h
      rw [Nat.eq_of_beq_eq_true hb]
      exact List.mem_cons_self
    | false =>
      have h : cond (Nat.beq k x) (some a) (lk t x) = some v := h
      rw [hb] at h
      exact List.mem_cons_of_mem _ (lk_mem t h)
theorem lk_all {α : Type} {t : List (Nat × α)} {P : Nat → α → Prop} (h : ∀ q ∈ t, P q.1 q.2) {x : Nat} {v : α} (hx : lk t x = some v) : P x v := h _ (lk_mem t hx)
def fldW (own : String) (t : List (Nat × Nat × Nat)) : List Jvm.Cond := t.map (fun r => match vwCl[r.2.1]? with
  | some q => .fieldLink own r.1 (q.2.1 r.2.2).1 (q.2.1 r.2.2).2.1 (q.2.1 r.2.2).2.2.1
  | none => .tt)
def fldC (t : List (Nat × Nat × Nat)) : Bool := t.all (fun r => match vwCl[r.2.1]? with
  | some q => decide (r.2.2 < q.2.2)
  | none => false)
theorem wG_of {ws : List Jvm.Cond} (ps : List Nat) (hp : ws = ps.filterMap (fun i => lw_tbl[i]?)) (hg : ws.all goodWord = true) : ∀ w ∈ ws, w ∈ wG := by
  intro w hw
  refine List.mem_filter.mpr ⟨?_, List.all_eq_true.mp hg w hw⟩
  rw [hp] at hw
  obtain ⟨i, -, hi⟩ := List.mem_filterMap.mp hw
  exact List.mem_of_getElem? hi
theorem fld_ok {own : String} {t : List (Nat × Nat × Nat)} (hw : ∀ w ∈ fldW own t, w ∈ wG) (hc : fldC t = true) : ∀ x ci j, lk t x = some (ci, j) → ∃ q, vwCl[ci]? = some q ∧ j < q.2.2 ∧ Jvm.Cond.fieldLink own x (q.2.1 j).1 (q.2.1 j).2.1 (q.2.1 j).2.2.1 ∈ wG := by
  intro x ci j h
  have hm := lk_mem t h
  have h1 := List.all_eq_true.mp hc _ hm
  dsimp only at h1
  cases hq : vwCl[ci]? with
  | none => rw [hq] at h1; cases h1
  | some q =>
    rw [hq] at h1
    refine ⟨q, rfl, of_decide_eq_true h1, hw _ ?_⟩
    have := List.mem_map_of_mem (f := fun r : Nat × Nat × Nat => match vwCl[r.2.1]? with
      | some q => Jvm.Cond.fieldLink own r.1 (q.2.1 r.2.2).1 (q.2.1 r.2.2).2.1 (q.2.1 r.2.2).2.2.1
      | none => .tt) hm
    dsimp only at this
    rw [hq] at this
    exact this
def rowsC (own : String) (cc : ByteArray) (nL : Nat) (nm : String) (I : MI) : Bool := I.code.all (fun r => match lk I.thr r.1 with
  | some _ => match r.2.1 with
    | .new _ => true
    | _ => false
  | none => chk own cc nL nm I r.1 r.2.1 r.2.2.1 r.2.2.2)
theorem rows_ok {own : String} {cc : ByteArray} {nL : Nat} {nm : String} {I : MI} (h : rowsC own cc nL nm I = true) : (∀ pc i nx tg, lk I.code pc = some (i, nx, tg) → lk I.thr pc = none → chk own cc nL nm I pc i nx tg = true) ∧ ∀ pc X i nx tg, lk I.thr pc = some X → lk I.code pc = some (i, nx, tg) → ∃ x, i = .new x := by
  refine ⟨fun pc i nx tg hc ht => ?_, fun pc X i nx tg ht hc => ?_⟩
  · have h1 := List.all_eq_true.mp h _ (lk_mem _ hc)
    dsimp only at h1
    rw [ht] at h1
    exact h1
  · have h1 := List.all_eq_true.mp h _ (lk_mem _ hc)
    dsimp only at h1
    rw [ht] at h1
    dsimp only at h1
    split at h1
    · exact ⟨_, rfl⟩
    · cases h1
def retC (ret : Option FieldType) (I : MI) : Bool := I.code.all (fun r => match r.2.1 with
  | .ireturn => decide (ret = some .int) || (decide (ret = some .boolean) && decide (I.rt = 1))
  | .lreturn => decide (ret = some .long)
  | .areturn => match ret with
    | some (.object _) => true
    | _ => false
  | .return_ => decide (ret = none)
  | _ => true)
theorem ret_ok {y : Nat} (h : retC (mR y) (mI y) = true) : RetOk y := by
  intro pc i nx tg hc
  have h1 := List.all_eq_true.mp h _ (lk_mem _ hc)
  dsimp only at h1
  refine ⟨fun e => ?_, fun e => ?_, fun e => ?_, fun e => ?_⟩
  · subst e
    simp only [Bool.or_eq_true, Bool.and_eq_true, decide_eq_true_eq] at h1
    exact h1
  · subst e
    exact of_decide_eq_true h1
  · subst e
    dsimp only at h1
    split at h1
    · exact ⟨_, by assumption⟩
    · cases h1
  · subst e
    exact of_decide_eq_true h1
/-- no constants, no made arrays of objects -/
def noC (I : MI) : Bool := I.code.all (fun r => match r.2.1 with
  | .ldc _ => (lk I.thr (r.1 - 4)).isSome
  | .ldc2_w _ => false
  | .anewarray _ => false
  | _ => true)
set_option maxRecDepth 20000 in
theorem cal_X0_succeeds : CalS 0 3 0 0 := ⟨⟨wG_t4 185 rfl rfl, wG_t1 20 (by decide +kernel) rfl, ⟨by decide, by decide⟩, ⟨rfl, rfl⟩, by decide, by decide +kernel⟩, rfl, wG_t4 184 (by decide +kernel) rfl⟩
set_option maxRecDepth 20000 in
theorem cal_X0_putsLetter : CalS 1 3 0 0 := ⟨⟨wG_t4 188 rfl rfl, wG_t1 20 (by decide +kernel) rfl, ⟨by decide, by decide⟩, ⟨rfl, rfl⟩, by decide, by decide +kernel⟩, rfl, wG_t4 187 (by decide +kernel) rfl⟩
set_option maxRecDepth 20000 in
theorem cal_X0_fillsEntry : CalS 2 3 0 0 := ⟨⟨wG_t4 195 rfl rfl, wG_t1 20 (by decide +kernel) rfl, ⟨by decide, by decide⟩, ⟨rfl, rfl⟩, by decide, by decide +kernel⟩, rfl, wG_t4 194 (by decide +kernel) rfl⟩
set_option maxRecDepth 20000 in
theorem cal_X0_clearsEntry : CalS 3 2 0 0 := ⟨⟨wG_t4 200 rfl rfl, wG_t1 20 (by decide +kernel) rfl, ⟨by decide, by decide⟩, ⟨rfl, rfl⟩, by decide, by decide +kernel⟩, rfl, wG_t4 199 (by decide +kernel) rfl⟩
set_option maxRecDepth 20000 in
theorem cal_X1_init : CalC 4 0 2 16 := ⟨⟨wG_t2 1 rfl rfl, wG_t1 8 (by decide +kernel) rfl, ⟨by decide, by decide⟩, ⟨rfl, rfl⟩, by decide, by decide +kernel⟩, rfl, rfl, wG_t2 0 (by decide +kernel) rfl, rfl⟩
set_option maxRecDepth 20000 in
theorem cal_X1_count : CalV 5 1 0 0 0 := ⟨⟨wG_t2 188 rfl rfl, wG_t1 8 (by decide +kernel) rfl, ⟨by decide, by decide⟩, ⟨rfl, rfl⟩, by decide, by decide +kernel⟩, rfl, wG_t2 186 (by decide +kernel) rfl, wG_t2 187 (by decide +kernel) rfl, _, rfl, rfl⟩
set_option maxRecDepth 20000 in
theorem cal_X1_wordsThatFit : CalS 6 2 0 0 := ⟨⟨wG_t2 191 rfl rfl, wG_t1 8 (by decide +kernel) rfl, ⟨by decide, by decide⟩, ⟨rfl, rfl⟩, by decide, by decide +kernel⟩, rfl, wG_t2 190 (by decide +kernel) rfl⟩
set_option maxRecDepth 20000 in
theorem cal_X1_giveFrom : CalV 7 2 0 0 0 := ⟨⟨wG_t2 218 rfl rfl, wG_t1 8 (by decide +kernel) rfl, ⟨by decide, by decide⟩, ⟨rfl, rfl⟩, by decide, by decide +kernel⟩, rfl, wG_t2 217 (by decide +kernel) rfl, wG_m 13 (by decide +kernel) rfl, _, rfl, rfl⟩
set_option maxRecDepth 20000 in
theorem cal_X1_give : CalV 8 3 0 0 0 := ⟨⟨wG_t3 2 rfl rfl, wG_t1 8 (by decide +kernel) rfl, ⟨by decide, by decide⟩, ⟨rfl, rfl⟩, by decide, by decide +kernel⟩, rfl, wG_t3 1 (by decide +kernel) rfl, wG_m 15 (by decide +kernel) rfl, _, rfl, rfl⟩
set_option maxRecDepth 20000 in
theorem cal_X1_agrees : CalV 9 3 0 0 0 := ⟨⟨wG_t2 222 rfl rfl, wG_t1 8 (by decide +kernel) rfl, ⟨by decide, by decide⟩, ⟨rfl, rfl⟩, by decide, by decide +kernel⟩, rfl, wG_t2 221 (by decide +kernel) rfl, wG_m 14 (by decide +kernel) rfl, _, rfl, rfl⟩
set_option maxRecDepth 20000 in
theorem cal_X2_init : CalC 10 0 2 12 := ⟨⟨wG_t1 213 rfl rfl, wG_t1 7 (by decide +kernel) rfl, ⟨by decide, by decide⟩, ⟨rfl, rfl⟩, by decide, by decide +kernel⟩, rfl, rfl, wG_t1 212 (by decide +kernel) rfl, rfl⟩
set_option maxRecDepth 20000 in
theorem cal_X2_count : CalV 11 3 0 0 1 := ⟨⟨wG_t2 131 rfl rfl, wG_t1 7 (by decide +kernel) rfl, ⟨by decide, by decide⟩, ⟨rfl, rfl⟩, by decide, by decide +kernel⟩, rfl, wG_t2 129 (by decide +kernel) rfl, wG_t2 130 (by decide +kernel) rfl, _, rfl, rfl⟩
set_option maxRecDepth 20000 in
theorem cal_X2_cellOfFirst : CalV 12 1 0 0 1 := ⟨⟨wG_t4 77 rfl rfl, wG_t1 7 (by decide +kernel) rfl, ⟨by decide, by decide⟩, ⟨rfl, rfl⟩, by decide, by decide +kernel⟩, rfl, wG_t4 75 (by decide +kernel) rfl, wG_t4 76 (by decide +kernel) rfl, _, rfl, rfl⟩
set_option maxRecDepth 20000 in
theorem cal_X2_visit : CalV 13 3 0 0 1 := ⟨⟨wG_t2 136 rfl rfl, wG_t1 7 (by decide +kernel) rfl, ⟨by decide, by decide⟩, ⟨rfl, rfl⟩, by decide, by decide +kernel⟩, rfl, wG_t2 135 (by decide +kernel) rfl, wG_m 9 (by decide +kernel) rfl, _, rfl, rfl⟩
set_option maxRecDepth 20000 in
theorem cal_X2_visitBehind : CalV 14 3 0 0 1 := ⟨⟨wG_t2 163 rfl rfl, wG_t1 7 (by decide +kernel) rfl, ⟨by decide, by decide⟩, ⟨rfl, rfl⟩, by decide, by decide +kernel⟩, rfl, wG_t2 162 (by decide +kernel) rfl, wG_m 12 (by decide +kernel) rfl, _, rfl, rfl⟩
set_option maxRecDepth 20000 in
theorem cal_X2_isAllowed : CalV 15 3 0 0 1 := ⟨⟨wG_t2 140 rfl rfl, wG_t1 7 (by decide +kernel) rfl, ⟨by decide, by decide⟩, ⟨rfl, rfl⟩, by decide, by decide +kernel⟩, rfl, wG_t2 139 (by decide +kernel) rfl, wG_m 10 (by decide +kernel) rfl, _, rfl, rfl⟩
set_option maxRecDepth 20000 in
theorem cal_X2_keepPath : CalV 16 1 0 0 1 := ⟨⟨wG_t2 156 rfl rfl, wG_t1 7 (by decide +kernel) rfl, ⟨by decide, by decide⟩, ⟨rfl, rfl⟩, by decide, by decide +kernel⟩, rfl, wG_t2 155 (by decide +kernel) rfl, wG_m 11 (by decide +kernel) rfl, _, rfl, rfl⟩
set_option maxRecDepth 20000 in
theorem cal_X3_init : CalC 17 0 83 1746 := ⟨⟨wG_t1 187 rfl rfl, wG_t1 6 (by decide +kernel) rfl, ⟨by decide, by decide⟩, ⟨rfl, rfl⟩, by decide, by decide +kernel⟩, rfl, rfl, wG_t1 186 (by decide +kernel) rfl, rfl⟩
set_option maxRecDepth 20000 in
theorem cal_X3_remember : CalV 18 1 0 0 2 := ⟨⟨wG_t4 90 rfl rfl, wG_t1 6 (by decide +kernel) rfl, ⟨by decide, by decide⟩, ⟨rfl, rfl⟩, by decide, by decide +kernel⟩, rfl, wG_t4 88 (by decide +kernel) rfl, wG_t4 89 (by decide +kernel) rfl, _, rfl, rfl⟩
set_option maxRecDepth 20000 in
theorem cal_X3_takeLast : CalV 19 0 0 0 2 := ⟨⟨wG_t4 170 rfl rfl, wG_t1 6 (by decide +kernel) rfl, ⟨by decide, by decide⟩, ⟨rfl, rfl⟩, by decide, by decide +kernel⟩, rfl, wG_t4 168 (by decide +kernel) rfl, wG_t4 169 (by decide +kernel) rfl, _, rfl, rfl⟩
set_option maxRecDepth 20000 in
theorem cal_X3_forgetActions : CalV 20 0 0 0 2 := ⟨⟨wG_t3 192 rfl rfl, wG_t1 6 (by decide +kernel) rfl, ⟨by decide, by decide⟩, ⟨rfl, rfl⟩, by decide, by decide +kernel⟩, rfl, wG_t3 190 (by decide +kernel) rfl, wG_t3 191 (by decide +kernel) rfl, _, rfl, rfl⟩
set_option maxRecDepth 20000 in
theorem cal_X3_at : CalV 21 1 0 0 2 := ⟨⟨wG_t4 94 rfl rfl, wG_t1 6 (by decide +kernel) rfl, ⟨by decide, by decide⟩, ⟨rfl, rfl⟩, by decide, by decide +kernel⟩, rfl, wG_t4 93 (by decide +kernel) rfl, wG_m 20 (by decide +kernel) rfl, _, rfl, rfl⟩
set_option maxRecDepth 20000 in
theorem cal_X3_store : CalV 22 2 0 0 2 := ⟨⟨wG_t4 235 rfl rfl, wG_t1 6 (by decide +kernel) rfl, ⟨by decide, by decide⟩, ⟨rfl, rfl⟩, by decide, by decide +kernel⟩, rfl, wG_t4 233 (by decide +kernel) rfl, wG_t4 234 (by decide +kernel) rfl, _, rfl, rfl⟩
set_option maxRecDepth 20000 in
theorem cal_X3_isStored : CalV 23 1 0 0 2 := ⟨⟨wG_t5 6 rfl rfl, wG_t1 6 (by decide +kernel) rfl, ⟨by decide, by decide⟩, ⟨rfl, rfl⟩, by decide, by decide +kernel⟩, rfl, wG_t5 4 (by decide +kernel) rfl, wG_t5 5 (by decide +kernel) rfl, _, rfl, rfl⟩
set_option maxRecDepth 20000 in
theorem cal_X3_stored : CalV 24 1 0 0 2 := ⟨⟨wG_t5 11 rfl rfl, wG_t1 6 (by decide +kernel) rfl, ⟨by decide, by decide⟩, ⟨rfl, rfl⟩, by decide, by decide +kernel⟩, rfl, wG_t5 9 (by decide +kernel) rfl, wG_t5 10 (by decide +kernel) rfl, _, rfl, rfl⟩
set_option maxRecDepth 20000 in
theorem cal_X3_emptySlots : CalV 25 0 0 0 2 := ⟨⟨wG_t3 196 rfl rfl, wG_t1 6 (by decide +kernel) rfl, ⟨by decide, by decide⟩, ⟨rfl, rfl⟩, by decide, by decide +kernel⟩, rfl, wG_t3 194 (by decide +kernel) rfl, wG_t3 195 (by decide +kernel) rfl, _, rfl, rfl⟩
set_option maxRecDepth 20000 in
theorem cal_X4_init : CalC 26 0 11 324 := ⟨⟨wG_t1 105 rfl rfl, wG_t1 4 (by decide +kernel) rfl, ⟨by decide, by decide⟩, ⟨rfl, rfl⟩, by decide, by decide +kernel⟩, rfl, rfl, wG_t1 104 (by decide +kernel) rfl, rfl⟩
set_option maxRecDepth 20000 in
theorem cal_X4_take : CalV 27 1 0 0 3 := ⟨⟨wG_t3 10 rfl rfl, wG_t1 4 (by decide +kernel) rfl, ⟨by decide, by decide⟩, ⟨rfl, rfl⟩, by decide, by decide +kernel⟩, rfl, wG_t3 8 (by decide +kernel) rfl, wG_t3 9 (by decide +kernel) rfl, _, rfl, rfl⟩
set_option maxRecDepth 20000 in
theorem cal_X4_changeBar : CalV 28 3 0 0 3 := ⟨⟨wG_t3 64 rfl rfl, wG_t1 4 (by decide +kernel) rfl, ⟨by decide, by decide⟩, ⟨rfl, rfl⟩, by decide, by decide +kernel⟩, rfl, wG_t3 62 (by decide +kernel) rfl, wG_t3 63 (by decide +kernel) rfl, _, rfl, rfl⟩
set_option maxRecDepth 20000 in
theorem cal_X4_layOut : CalV 29 0 0 0 3 := ⟨⟨wG_t1 112 rfl rfl, wG_t1 4 (by decide +kernel) rfl, ⟨by decide, by decide⟩, ⟨rfl, rfl⟩, by decide, by decide +kernel⟩, rfl, wG_t1 111 (by decide +kernel) rfl, wG_m 0 (by decide +kernel) rfl, _, rfl, rfl⟩
set_option maxRecDepth 20000 in
theorem cal_X4_addEntry : CalV 30 2 0 0 3 := ⟨⟨wG_t1 135 rfl rfl, wG_t1 4 (by decide +kernel) rfl, ⟨by decide, by decide⟩, ⟨rfl, rfl⟩, by decide, by decide +kernel⟩, rfl, wG_t1 134 (by decide +kernel) rfl, wG_m 1 (by decide +kernel) rfl, _, rfl, rfl⟩
set_option maxRecDepth 20000 in
theorem cal_X4_hasEntry : CalV 31 1 0 0 3 := ⟨⟨wG_t2 199 rfl rfl, wG_t1 4 (by decide +kernel) rfl, ⟨by decide, by decide⟩, ⟨rfl, rfl⟩, by decide, by decide +kernel⟩, rfl, wG_t2 197 (by decide +kernel) rfl, wG_t2 198 (by decide +kernel) rfl, _, rfl, rfl⟩
set_option maxRecDepth 20000 in
theorem cal_X4_isDown : CalV 32 1 0 0 3 := ⟨⟨wG_t2 228 rfl rfl, wG_t1 4 (by decide +kernel) rfl, ⟨by decide, by decide⟩, ⟨rfl, rfl⟩, by decide, by decide +kernel⟩, rfl, wG_t2 226 (by decide +kernel) rfl, wG_t2 227 (by decide +kernel) rfl, _, rfl, rfl⟩
set_option maxRecDepth 20000 in
theorem cal_X4_lengthOf : CalV 33 1 0 0 3 := ⟨⟨wG_t2 204 rfl rfl, wG_t1 4 (by decide +kernel) rfl, ⟨by decide, by decide⟩, ⟨rfl, rfl⟩, by decide, by decide +kernel⟩, rfl, wG_t2 202 (by decide +kernel) rfl, wG_t2 203 (by decide +kernel) rfl, _, rfl, rfl⟩
set_option maxRecDepth 20000 in
theorem cal_X4_cellOf : CalV 34 2 0 0 3 := ⟨⟨wG_t2 209 rfl rfl, wG_t1 4 (by decide +kernel) rfl, ⟨by decide, by decide⟩, ⟨rfl, rfl⟩, by decide, by decide +kernel⟩, rfl, wG_t2 207 (by decide +kernel) rfl, wG_t2 208 (by decide +kernel) rfl, _, rfl, rfl⟩
set_option maxRecDepth 20000 in
theorem cal_X4_indexIn : CalV 35 2 0 0 3 := ⟨⟨wG_t2 236 rfl rfl, wG_t1 4 (by decide +kernel) rfl, ⟨by decide, by decide⟩, ⟨rfl, rfl⟩, by decide, by decide +kernel⟩, rfl, wG_t2 234 (by decide +kernel) rfl, wG_t2 235 (by decide +kernel) rfl, _, rfl, rfl⟩
set_option maxRecDepth 20000 in
theorem cal_X4_entryAt : CalV 36 2 0 0 3 := ⟨⟨wG_t2 232 rfl rfl, wG_t1 4 (by decide +kernel) rfl, ⟨by decide, by decide⟩, ⟨rfl, rfl⟩, by decide, by decide +kernel⟩, rfl, wG_t2 230 (by decide +kernel) rfl, wG_t2 231 (by decide +kernel) rfl, _, rfl, rfl⟩
set_option maxRecDepth 20000 in
theorem cal_X4_clueAt : CalV 37 1 0 0 3 := ⟨⟨wG_t4 11 rfl rfl, wG_t1 4 (by decide +kernel) rfl, ⟨by decide, by decide⟩, ⟨rfl, rfl⟩, by decide, by decide +kernel⟩, rfl, wG_t4 9 (by decide +kernel) rfl, wG_t4 10 (by decide +kernel) rfl, _, rfl, rfl⟩
set_option maxRecDepth 20000 in
theorem cal_X4_entriesAt : CalV 38 1 0 0 3 := ⟨⟨wG_t2 144 rfl rfl, wG_t1 4 (by decide +kernel) rfl, ⟨by decide, by decide⟩, ⟨rfl, rfl⟩, by decide, by decide +kernel⟩, rfl, wG_t2 142 (by decide +kernel) rfl, wG_t2 143 (by decide +kernel) rfl, _, rfl, rfl⟩
set_option maxRecDepth 20000 in
theorem cal_X4_cellsInEntries : CalV 39 1 0 0 3 := ⟨⟨wG_t3 30 rfl rfl, wG_t1 4 (by decide +kernel) rfl, ⟨by decide, by decide⟩, ⟨rfl, rfl⟩, by decide, by decide +kernel⟩, rfl, wG_t3 28 (by decide +kernel) rfl, wG_t3 29 (by decide +kernel) rfl, _, rfl, rfl⟩
set_option maxRecDepth 20000 in
theorem cal_X4_uncheckedIn : CalV 40 1 0 0 3 := ⟨⟨wG_t3 38 rfl rfl, wG_t1 4 (by decide +kernel) rfl, ⟨by decide, by decide⟩, ⟨rfl, rfl⟩, by decide, by decide +kernel⟩, rfl, wG_t3 36 (by decide +kernel) rfl, wG_t3 37 (by decide +kernel) rfl, _, rfl, rfl⟩
set_option maxRecDepth 20000 in
theorem cal_X4_emptyIn : CalV 41 1 0 0 3 := ⟨⟨wG_t3 74 rfl rfl, wG_t1 4 (by decide +kernel) rfl, ⟨by decide, by decide⟩, ⟨rfl, rfl⟩, by decide, by decide +kernel⟩, rfl, wG_t3 72 (by decide +kernel) rfl, wG_t3 73 (by decide +kernel) rfl, _, rfl, rfl⟩
set_option maxRecDepth 20000 in
theorem cal_X4_fitsWord : CalV 42 2 0 0 3 := ⟨⟨wG_t2 195 rfl rfl, wG_t1 4 (by decide +kernel) rfl, ⟨by decide, by decide⟩, ⟨rfl, rfl⟩, by decide, by decide +kernel⟩, rfl, wG_t2 193 (by decide +kernel) rfl, wG_t2 194 (by decide +kernel) rfl, _, rfl, rfl⟩
set_option maxRecDepth 20000 in
theorem cal_X4_fitCount : CalV 43 1 0 0 3 := ⟨⟨wG_t3 78 rfl rfl, wG_t1 4 (by decide +kernel) rfl, ⟨by decide, by decide⟩, ⟨rfl, rfl⟩, by decide, by decide +kernel⟩, rfl, wG_t3 76 (by decide +kernel) rfl, wG_t3 77 (by decide +kernel) rfl, _, rfl, rfl⟩
set_option maxRecDepth 20000 in
theorem cal_X4_wordIn : CalV 44 1 0 0 3 := ⟨⟨wG_t4 33 rfl rfl, wG_t1 4 (by decide +kernel) rfl, ⟨by decide, by decide⟩, ⟨rfl, rfl⟩, by decide, by decide +kernel⟩, rfl, wG_t4 31 (by decide +kernel) rfl, wG_t4 32 (by decide +kernel) rfl, _, rfl, rfl⟩
set_option maxRecDepth 20000 in
theorem cal_X4_fillEntry : CalV 45 2 0 0 3 := ⟨⟨wG_t4 144 rfl rfl, wG_t1 4 (by decide +kernel) rfl, ⟨by decide, by decide⟩, ⟨rfl, rfl⟩, by decide, by decide +kernel⟩, rfl, wG_t4 142 (by decide +kernel) rfl, wG_t4 143 (by decide +kernel) rfl, _, rfl, rfl⟩
set_option maxRecDepth 20000 in
theorem cal_X4_clearEntry : CalV 46 1 0 0 3 := ⟨⟨wG_t4 156 rfl rfl, wG_t1 4 (by decide +kernel) rfl, ⟨by decide, by decide⟩, ⟨rfl, rfl⟩, by decide, by decide +kernel⟩, rfl, wG_t4 154 (by decide +kernel) rfl, wG_t4 155 (by decide +kernel) rfl, _, rfl, rfl⟩
set_option maxRecDepth 20000 in
theorem cal_X5_countKept : CalS 47 1 0 0 := ⟨⟨wG_t3 18 rfl rfl, wG_t1 18 (by decide +kernel) rfl, ⟨by decide, by decide⟩, ⟨rfl, rfl⟩, by decide, by decide +kernel⟩, rfl, wG_t3 17 (by decide +kernel) rfl⟩
set_option maxRecDepth 20000 in
theorem cal_X5_areKept : CalS 48 2 0 0 := ⟨⟨wG_t3 21 rfl rfl, wG_t1 18 (by decide +kernel) rfl, ⟨by decide, by decide⟩, ⟨rfl, rfl⟩, by decide, by decide +kernel⟩, rfl, wG_t3 20 (by decide +kernel) rfl⟩
set_option maxRecDepth 20000 in
theorem cal_X5_isSameTurned : CalS 49 1 0 0 := ⟨⟨wG_t3 24 rfl rfl, wG_t1 18 (by decide +kernel) rfl, ⟨by decide, by decide⟩, ⟨rfl, rfl⟩, by decide, by decide +kernel⟩, rfl, wG_t3 23 (by decide +kernel) rfl⟩
set_option maxRecDepth 20000 in
theorem cal_X5_isCheckedEnough : CalS 50 1 0 0 := ⟨⟨wG_t3 34 rfl rfl, wG_t1 18 (by decide +kernel) rfl, ⟨by decide, by decide⟩, ⟨rfl, rfl⟩, by decide, by decide +kernel⟩, rfl, wG_t3 33 (by decide +kernel) rfl⟩
set_option maxRecDepth 20000 in
theorem cal_X5_hasNoUncheckedPair : CalS 51 1 0 0 := ⟨⟨wG_t3 42 rfl rfl, wG_t1 18 (by decide +kernel) rfl, ⟨by decide, by decide⟩, ⟨rfl, rfl⟩, by decide, by decide +kernel⟩, rfl, wG_t3 41 (by decide +kernel) rfl⟩
set_option maxRecDepth 20000 in
theorem cal_X5_isConnected : CalS 52 1 0 0 := ⟨⟨wG_t3 47 rfl rfl, wG_t1 18 (by decide +kernel) rfl, ⟨by decide, by decide⟩, ⟨rfl, rfl⟩, by decide, by decide +kernel⟩, rfl, wG_t3 46 (by decide +kernel) rfl⟩
set_option maxRecDepth 20000 in
theorem cal_X5_spread : CalS 53 4 0 0 := ⟨⟨wG_t3 50 rfl rfl, wG_t1 18 (by decide +kernel) rfl, ⟨by decide, by decide⟩, ⟨rfl, rfl⟩, by decide, by decide +kernel⟩, rfl, wG_t3 49 (by decide +kernel) rfl⟩
set_option maxRecDepth 20000 in
theorem cal_X6_init : CalC 54 0 4 98 := ⟨⟨wG_t1 39 rfl rfl, wG_t1 3 (by decide +kernel) rfl, ⟨by decide, by decide⟩, ⟨rfl, rfl⟩, by decide, by decide +kernel⟩, rfl, rfl, wG_t1 38 (by decide +kernel) rfl, rfl⟩
set_option maxRecDepth 20000 in
theorem cal_X6_copyFrom : CalV 55 1 0 0 4 := ⟨⟨wG_t3 14 rfl rfl, wG_t1 3 (by decide +kernel) rfl, ⟨by decide, by decide⟩, ⟨rfl, rfl⟩, by decide, by decide +kernel⟩, rfl, wG_t3 12 (by decide +kernel) rfl, wG_t3 13 (by decide +kernel) rfl, _, rfl, rfl⟩
set_option maxRecDepth 20000 in
theorem cal_X6_begin : CalV 56 2 0 0 4 := ⟨⟨wG_t2 66 rfl rfl, wG_t1 3 (by decide +kernel) rfl, ⟨by decide, by decide⟩, ⟨rfl, rfl⟩, by decide, by decide +kernel⟩, rfl, wG_t2 64 (by decide +kernel) rfl, wG_t2 65 (by decide +kernel) rfl, _, rfl, rfl⟩
set_option maxRecDepth 20000 in
theorem cal_X6_cells : CalV 57 0 0 0 4 := ⟨⟨wG_t1 119 rfl rfl, wG_t1 3 (by decide +kernel) rfl, ⟨by decide, by decide⟩, ⟨rfl, rfl⟩, by decide, by decide +kernel⟩, rfl, wG_t1 117 (by decide +kernel) rfl, wG_t1 118 (by decide +kernel) rfl, _, rfl, rfl⟩
set_option maxRecDepth 20000 in
theorem cal_X6_hasCell : CalV 58 1 0 0 4 := ⟨⟨wG_t1 139 rfl rfl, wG_t1 3 (by decide +kernel) rfl, ⟨by decide, by decide⟩, ⟨rfl, rfl⟩, by decide, by decide +kernel⟩, rfl, wG_t1 137 (by decide +kernel) rfl, wG_t1 138 (by decide +kernel) rfl, _, rfl, rfl⟩
set_option maxRecDepth 20000 in
theorem cal_X6_columnOf : CalV 59 1 0 0 4 := ⟨⟨wG_t2 175 rfl rfl, wG_t1 3 (by decide +kernel) rfl, ⟨by decide, by decide⟩, ⟨rfl, rfl⟩, by decide, by decide +kernel⟩, rfl, wG_t2 173 (by decide +kernel) rfl, wG_t2 174 (by decide +kernel) rfl, _, rfl, rfl⟩
set_option maxRecDepth 20000 in
theorem cal_X6_rowOf : CalV 60 1 0 0 4 := ⟨⟨wG_t2 171 rfl rfl, wG_t1 3 (by decide +kernel) rfl, ⟨by decide, by decide⟩, ⟨rfl, rfl⟩, by decide, by decide +kernel⟩, rfl, wG_t2 169 (by decide +kernel) rfl, wG_t2 170 (by decide +kernel) rfl, _, rfl, rfl⟩
set_option maxRecDepth 20000 in
theorem cal_X6_letterAt : CalV 61 1 0 0 4 := ⟨⟨wG_t2 148 rfl rfl, wG_t1 3 (by decide +kernel) rfl, ⟨by decide, by decide⟩, ⟨rfl, rfl⟩, by decide, by decide +kernel⟩, rfl, wG_t2 146 (by decide +kernel) rfl, wG_t2 147 (by decide +kernel) rfl, _, rfl, rfl⟩
set_option maxRecDepth 20000 in
theorem cal_X6_setLetter : CalV 62 2 0 0 4 := ⟨⟨wG_t2 79 rfl rfl, wG_t1 3 (by decide +kernel) rfl, ⟨by decide, by decide⟩, ⟨rfl, rfl⟩, by decide, by decide +kernel⟩, rfl, wG_t2 77 (by decide +kernel) rfl, wG_t2 78 (by decide +kernel) rfl, _, rfl, rfl⟩
set_option maxRecDepth 20000 in
theorem cal_X6_emptyCells : CalV 63 0 0 0 4 := ⟨⟨wG_t3 208 rfl rfl, wG_t1 3 (by decide +kernel) rfl, ⟨by decide, by decide⟩, ⟨rfl, rfl⟩, by decide, by decide +kernel⟩, rfl, wG_t3 206 (by decide +kernel) rfl, wG_t3 207 (by decide +kernel) rfl, _, rfl, rfl⟩
set_option maxRecDepth 20000 in
theorem cal_X6_isPlace : CalV 64 2 0 0 4 := ⟨⟨wG_t1 127 rfl rfl, wG_t1 3 (by decide +kernel) rfl, ⟨by decide, by decide⟩, ⟨rfl, rfl⟩, by decide, by decide +kernel⟩, rfl, wG_t1 125 (by decide +kernel) rfl, wG_t1 126 (by decide +kernel) rfl, _, rfl, rfl⟩
set_option maxRecDepth 20000 in
theorem cal_X6_hasBar : CalV 65 2 0 0 4 := ⟨⟨wG_t1 131 rfl rfl, wG_t1 3 (by decide +kernel) rfl, ⟨by decide, by decide⟩, ⟨rfl, rfl⟩, by decide, by decide +kernel⟩, rfl, wG_t1 129 (by decide +kernel) rfl, wG_t1 130 (by decide +kernel) rfl, _, rfl, rfl⟩
set_option maxRecDepth 20000 in
theorem cal_X6_drawBar : CalV 66 3 0 0 4 := ⟨⟨wG_t2 89 rfl rfl, wG_t1 3 (by decide +kernel) rfl, ⟨by decide, by decide⟩, ⟨rfl, rfl⟩, by decide, by decide +kernel⟩, rfl, wG_t2 87 (by decide +kernel) rfl, wG_t2 88 (by decide +kernel) rfl, _, rfl, rfl⟩
set_option maxRecDepth 20000 in
theorem cal_X6_barCount : CalV 67 0 0 0 4 := ⟨⟨wG_t3 213 rfl rfl, wG_t1 3 (by decide +kernel) rfl, ⟨by decide, by decide⟩, ⟨rfl, rfl⟩, by decide, by decide +kernel⟩, rfl, wG_t3 211 (by decide +kernel) rfl, wG_t3 212 (by decide +kernel) rfl, _, rfl, rfl⟩
set_option maxRecDepth 20000 in
theorem cal_X6_isJoined : CalV 68 2 0 0 4 := ⟨⟨wG_t1 123 rfl rfl, wG_t1 3 (by decide +kernel) rfl, ⟨by decide, by decide⟩, ⟨rfl, rfl⟩, by decide, by decide +kernel⟩, rfl, wG_t1 121 (by decide +kernel) rfl, wG_t1 122 (by decide +kernel) rfl, _, rfl, rfl⟩
set_option maxRecDepth 20000 in
theorem cal_X6_hasWord : CalV 69 1 0 0 4 := ⟨⟨wG_t2 114 rfl rfl, wG_t1 3 (by decide +kernel) rfl, ⟨by decide, by decide⟩, ⟨rfl, rfl⟩, by decide, by decide +kernel⟩, rfl, wG_t2 112 (by decide +kernel) rfl, wG_t2 113 (by decide +kernel) rfl, _, rfl, rfl⟩
set_option maxRecDepth 20000 in
theorem cal_X6_lengthOfWord : CalV 70 1 0 0 4 := ⟨⟨wG_t2 110 rfl rfl, wG_t1 3 (by decide +kernel) rfl, ⟨by decide, by decide⟩, ⟨rfl, rfl⟩, by decide, by decide +kernel⟩, rfl, wG_t2 108 (by decide +kernel) rfl, wG_t2 109 (by decide +kernel) rfl, _, rfl, rfl⟩
set_option maxRecDepth 20000 in
theorem cal_X6_letterOfWord : CalV 71 2 0 0 4 := ⟨⟨wG_t2 214 rfl rfl, wG_t1 3 (by decide +kernel) rfl, ⟨by decide, by decide⟩, ⟨rfl, rfl⟩, by decide, by decide +kernel⟩, rfl, wG_t2 212 (by decide +kernel) rfl, wG_t2 213 (by decide +kernel) rfl, _, rfl, rfl⟩
set_option maxRecDepth 20000 in
theorem cal_X6_beginWord : CalV 72 0 0 0 4 := ⟨⟨wG_t2 102 rfl rfl, wG_t1 3 (by decide +kernel) rfl, ⟨by decide, by decide⟩, ⟨rfl, rfl⟩, by decide, by decide +kernel⟩, rfl, wG_t2 100 (by decide +kernel) rfl, wG_t2 101 (by decide +kernel) rfl, _, rfl, rfl⟩
set_option maxRecDepth 20000 in
theorem cal_X6_lengthenWord : CalV 73 1 0 0 4 := ⟨⟨wG_t2 106 rfl rfl, wG_t1 3 (by decide +kernel) rfl, ⟨by decide, by decide⟩, ⟨rfl, rfl⟩, by decide, by decide +kernel⟩, rfl, wG_t2 104 (by decide +kernel) rfl, wG_t2 105 (by decide +kernel) rfl, _, rfl, rfl⟩
set_option maxRecDepth 20000 in
theorem cal_X6_letterOfLine : CalV 74 1 0 0 4 := ⟨⟨wG_t2 152 rfl rfl, wG_t1 3 (by decide +kernel) rfl, ⟨by decide, by decide⟩, ⟨rfl, rfl⟩, by decide, by decide +kernel⟩, rfl, wG_t2 150 (by decide +kernel) rfl, wG_t2 151 (by decide +kernel) rfl, _, rfl, rfl⟩
set_option maxRecDepth 20000 in
theorem cal_X6_lengthenLine : CalV 75 1 0 0 4 := ⟨⟨wG_t2 122 rfl rfl, wG_t1 3 (by decide +kernel) rfl, ⟨by decide, by decide⟩, ⟨rfl, rfl⟩, by decide, by decide +kernel⟩, rfl, wG_t2 120 (by decide +kernel) rfl, wG_t2 121 (by decide +kernel) rfl, _, rfl, rfl⟩
set_option maxRecDepth 20000 in
theorem cal_X7_init : CalC 76 0 6 258 := ⟨⟨wG_t1 33 rfl rfl, wG_t1 2 (by decide +kernel) rfl, ⟨by decide, by decide⟩, ⟨rfl, rfl⟩, by decide, by decide +kernel⟩, rfl, rfl, wG_t1 32 (by decide +kernel) rfl, rfl⟩
set_option maxRecDepth 20000 in
theorem cal_X7_isFull : CalV 77 0 0 0 5 := ⟨⟨wG_t3 160 rfl rfl, wG_t1 2 (by decide +kernel) rfl, ⟨by decide, by decide⟩, ⟨rfl, rfl⟩, by decide, by decide +kernel⟩, rfl, wG_t3 158 (by decide +kernel) rfl, wG_t3 159 (by decide +kernel) rfl, _, rfl, rfl⟩
set_option maxRecDepth 20000 in
theorem cal_X7_add : CalV 78 1 0 0 5 := ⟨⟨wG_t3 180 rfl rfl, wG_t1 2 (by decide +kernel) rfl, ⟨by decide, by decide⟩, ⟨rfl, rfl⟩, by decide, by decide +kernel⟩, rfl, wG_t3 178 (by decide +kernel) rfl, wG_t3 179 (by decide +kernel) rfl, _, rfl, rfl⟩
set_option maxRecDepth 20000 in
theorem cal_X7_empty : CalV 79 0 0 0 5 := ⟨⟨wG_t2 42 rfl rfl, wG_t1 2 (by decide +kernel) rfl, ⟨by decide, by decide⟩, ⟨rfl, rfl⟩, by decide, by decide +kernel⟩, rfl, wG_t2 40 (by decide +kernel) rfl, wG_t2 41 (by decide +kernel) rfl, _, rfl, rfl⟩
set_option maxRecDepth 20000 in
theorem cal_X7_signAt : CalV 80 1 0 0 5 := ⟨⟨wG_t2 58 rfl rfl, wG_t1 2 (by decide +kernel) rfl, ⟨by decide, by decide⟩, ⟨rfl, rfl⟩, by decide, by decide +kernel⟩, rfl, wG_t2 56 (by decide +kernel) rfl, wG_t2 57 (by decide +kernel) rfl, _, rfl, rfl⟩
set_option maxRecDepth 20000 in
theorem cal_X7_isWord : CalV 81 1 0 0 5 := ⟨⟨wG_t4 118 rfl rfl, wG_t1 2 (by decide +kernel) rfl, ⟨by decide, by decide⟩, ⟨rfl, rfl⟩, by decide, by decide +kernel⟩, rfl, wG_t4 116 (by decide +kernel) rfl, wG_t4 117 (by decide +kernel) rfl, _, rfl, rfl⟩
set_option maxRecDepth 20000 in
theorem cal_X7_readGrid : CalV 82 0 0 0 5 := ⟨⟨wG_t2 50 rfl rfl, wG_t1 2 (by decide +kernel) rfl, ⟨by decide, by decide⟩, ⟨rfl, rfl⟩, by decide, by decide +kernel⟩, rfl, wG_t2 48 (by decide +kernel) rfl, wG_t2 49 (by decide +kernel) rfl, _, rfl, rfl⟩
set_option maxRecDepth 20000 in
theorem cal_X7_goesPast : CalV 83 1 0 0 5 := ⟨⟨wG_t2 54 rfl rfl, wG_t1 2 (by decide +kernel) rfl, ⟨by decide, by decide⟩, ⟨rfl, rfl⟩, by decide, by decide +kernel⟩, rfl, wG_t2 53 (by decide +kernel) rfl, wG_m 2 (by decide +kernel) rfl, _, rfl, rfl⟩
set_option maxRecDepth 20000 in
theorem cal_X7_readSize : CalV 84 0 0 0 5 := ⟨⟨wG_t2 62 rfl rfl, wG_t1 2 (by decide +kernel) rfl, ⟨by decide, by decide⟩, ⟨rfl, rfl⟩, by decide, by decide +kernel⟩, rfl, wG_t2 61 (by decide +kernel) rfl, wG_m 3 (by decide +kernel) rfl, _, rfl, rfl⟩
set_option maxRecDepth 20000 in
theorem cal_X7_readCells : CalV 85 0 0 0 5 := ⟨⟨wG_t2 71 rfl rfl, wG_t1 2 (by decide +kernel) rfl, ⟨by decide, by decide⟩, ⟨rfl, rfl⟩, by decide, by decide +kernel⟩, rfl, wG_t2 70 (by decide +kernel) rfl, wG_m 4 (by decide +kernel) rfl, _, rfl, rfl⟩
set_option maxRecDepth 20000 in
theorem cal_X7_readBar : CalV 86 3 0 0 5 := ⟨⟨wG_t2 84 rfl rfl, wG_t1 2 (by decide +kernel) rfl, ⟨by decide, by decide⟩, ⟨rfl, rfl⟩, by decide, by decide +kernel⟩, rfl, wG_t2 83 (by decide +kernel) rfl, wG_m 5 (by decide +kernel) rfl, _, rfl, rfl⟩
set_option maxRecDepth 20000 in
theorem cal_X7_readParts : CalV 87 0 0 0 5 := ⟨⟨wG_t2 94 rfl rfl, wG_t1 2 (by decide +kernel) rfl, ⟨by decide, by decide⟩, ⟨rfl, rfl⟩, by decide, by decide +kernel⟩, rfl, wG_t2 93 (by decide +kernel) rfl, wG_m 6 (by decide +kernel) rfl, _, rfl, rfl⟩
set_option maxRecDepth 20000 in
theorem cal_X7_readWord : CalV 88 0 0 0 5 := ⟨⟨wG_t2 98 rfl rfl, wG_t1 2 (by decide +kernel) rfl, ⟨by decide, by decide⟩, ⟨rfl, rfl⟩, by decide, by decide +kernel⟩, rfl, wG_t2 97 (by decide +kernel) rfl, wG_m 7 (by decide +kernel) rfl, _, rfl, rfl⟩
set_option maxRecDepth 20000 in
theorem cal_X7_readLine : CalV 89 0 0 0 5 := ⟨⟨wG_t2 118 rfl rfl, wG_t1 2 (by decide +kernel) rfl, ⟨by decide, by decide⟩, ⟨rfl, rfl⟩, by decide, by decide +kernel⟩, rfl, wG_t2 117 (by decide +kernel) rfl, wG_m 8 (by decide +kernel) rfl, _, rfl, rfl⟩
set_option maxRecDepth 20000 in
theorem cal_X8_init : CalC 90 0 121 2720 := ⟨⟨wG_t1 25 rfl rfl, wG_t1 1 (by decide +kernel) rfl, ⟨by decide, by decide⟩, ⟨rfl, rfl⟩, by decide, by decide +kernel⟩, rfl, rfl, wG_t1 24 (by decide +kernel) rfl, rfl⟩
set_option maxRecDepth 20000 in
theorem cal_X8_append : CalV 91 1 1 6 6 := ⟨⟨wG_t3 88 rfl rfl, wG_t1 1 (by decide +kernel) rfl, ⟨by decide, by decide⟩, ⟨rfl, rfl⟩, by decide, by decide +kernel⟩, rfl, wG_t3 86 (by decide +kernel) rfl, wG_t3 87 (by decide +kernel) rfl, _, rfl, rfl⟩
set_option maxRecDepth 20000 in
theorem cal_X8_clearText : CalV 92 0 0 0 6 := ⟨⟨wG_t2 38 rfl rfl, wG_t1 1 (by decide +kernel) rfl, ⟨by decide, by decide⟩, ⟨rfl, rfl⟩, by decide, by decide +kernel⟩, rfl, wG_t2 36 (by decide +kernel) rfl, wG_t2 37 (by decide +kernel) rfl, _, rfl, rfl⟩
set_option maxRecDepth 20000 in
theorem cal_X8_errorPosition : CalV 93 0 0 0 6 := ⟨⟨wG_t2 46 rfl rfl, wG_t1 1 (by decide +kernel) rfl, ⟨by decide, by decide⟩, ⟨rfl, rfl⟩, by decide, by decide +kernel⟩, rfl, wG_t2 44 (by decide +kernel) rfl, wG_t2 45 (by decide +kernel) rfl, _, rfl, rfl⟩
set_option maxRecDepth 20000 in
theorem cal_X8_load : CalV 94 0 1 6 6 := ⟨⟨wG_t3 187 rfl rfl, wG_t1 1 (by decide +kernel) rfl, ⟨by decide, by decide⟩, ⟨rfl, rfl⟩, by decide, by decide +kernel⟩, rfl, wG_t3 185 (by decide +kernel) rfl, wG_t3 186 (by decide +kernel) rfl, _, rfl, rfl⟩
set_option maxRecDepth 20000 in
theorem cal_X8_about : CalV 95 1 1 6 6 := ⟨⟨wG_t3 203 rfl rfl, wG_t1 1 (by decide +kernel) rfl, ⟨by decide, by decide⟩, ⟨rfl, rfl⟩, by decide, by decide +kernel⟩, rfl, wG_t3 201 (by decide +kernel) rfl, wG_t3 202 (by decide +kernel) rfl, _, rfl, rfl⟩
set_option maxRecDepth 20000 in
theorem cal_X8_cell : CalV 96 2 2 12 6 := ⟨⟨wG_t3 223 rfl rfl, wG_t1 1 (by decide +kernel) rfl, ⟨by decide, by decide⟩, ⟨rfl, rfl⟩, by decide, by decide +kernel⟩, rfl, wG_t3 221 (by decide +kernel) rfl, wG_t3 222 (by decide +kernel) rfl, _, rfl, rfl⟩
set_option maxRecDepth 20000 in
theorem cal_X8_entry : CalV 97 2 2 12 6 := ⟨⟨wG_t4 19 rfl rfl, wG_t1 1 (by decide +kernel) rfl, ⟨by decide, by decide⟩, ⟨rfl, rfl⟩, by decide, by decide +kernel⟩, rfl, wG_t4 17 (by decide +kernel) rfl, wG_t4 18 (by decide +kernel) rfl, _, rfl, rfl⟩
set_option maxRecDepth 20000 in
theorem cal_X8_word : CalV 98 2 2 12 6 := ⟨⟨wG_t4 41 rfl rfl, wG_t1 1 (by decide +kernel) rfl, ⟨by decide, by decide⟩, ⟨rfl, rfl⟩, by decide, by decide +kernel⟩, rfl, wG_t4 39 (by decide +kernel) rfl, wG_t4 40 (by decide +kernel) rfl, _, rfl, rfl⟩
set_option maxRecDepth 20000 in
theorem cal_X8_fits : CalV 99 1 1 6 6 := ⟨⟨wG_t4 56 rfl rfl, wG_t1 1 (by decide +kernel) rfl, ⟨by decide, by decide⟩, ⟨rfl, rfl⟩, by decide, by decide +kernel⟩, rfl, wG_t4 54 (by decide +kernel) rfl, wG_t4 55 (by decide +kernel) rfl, _, rfl, rfl⟩
set_option maxRecDepth 20000 in
theorem cal_X8_rule : CalV 100 1 1 6 6 := ⟨⟨wG_t4 63 rfl rfl, wG_t1 1 (by decide +kernel) rfl, ⟨by decide, by decide⟩, ⟨rfl, rfl⟩, by decide, by decide +kernel⟩, rfl, wG_t4 61 (by decide +kernel) rfl, wG_t4 62 (by decide +kernel) rfl, _, rfl, rfl⟩
set_option maxRecDepth 20000 in
theorem cal_X8_readings : CalV 101 0 0 0 6 := ⟨⟨wG_t2 126 rfl rfl, wG_t1 1 (by decide +kernel) rfl, ⟨by decide, by decide⟩, ⟨rfl, rfl⟩, by decide, by decide +kernel⟩, rfl, wG_t2 124 (by decide +kernel) rfl, wG_t2 125 (by decide +kernel) rfl, _, rfl, rfl⟩
set_option maxRecDepth 20000 in
theorem cal_X8_reading : CalV 102 1 1 6 6 := ⟨⟨wG_t4 72 rfl rfl, wG_t1 1 (by decide +kernel) rfl, ⟨by decide, by decide⟩, ⟨rfl, rfl⟩, by decide, by decide +kernel⟩, rfl, wG_t4 70 (by decide +kernel) rfl, wG_t4 71 (by decide +kernel) rfl, _, rfl, rfl⟩
set_option maxRecDepth 20000 in
theorem cal_X8_put : CalV 103 2 2 12 6 := ⟨⟨wG_t4 84 rfl rfl, wG_t1 1 (by decide +kernel) rfl, ⟨by decide, by decide⟩, ⟨rfl, rfl⟩, by decide, by decide +kernel⟩, rfl, wG_t4 82 (by decide +kernel) rfl, wG_t4 83 (by decide +kernel) rfl, _, rfl, rfl⟩
set_option maxRecDepth 20000 in
theorem cal_X8_setBar : CalV 104 3 2 12 6 := ⟨⟨wG_t4 106 rfl rfl, wG_t1 1 (by decide +kernel) rfl, ⟨by decide, by decide⟩, ⟨rfl, rfl⟩, by decide, by decide +kernel⟩, rfl, wG_t4 104 (by decide +kernel) rfl, wG_t4 105 (by decide +kernel) rfl, _, rfl, rfl⟩
set_option maxRecDepth 20000 in
theorem cal_X8_addWord : CalV 105 0 1 6 6 := ⟨⟨wG_t4 114 rfl rfl, wG_t1 1 (by decide +kernel) rfl, ⟨by decide, by decide⟩, ⟨rfl, rfl⟩, by decide, by decide +kernel⟩, rfl, wG_t4 112 (by decide +kernel) rfl, wG_t4 113 (by decide +kernel) rfl, _, rfl, rfl⟩
set_option maxRecDepth 20000 in
theorem cal_X8_setLine : CalV 106 0 1 6 6 := ⟨⟨wG_t4 129 rfl rfl, wG_t1 1 (by decide +kernel) rfl, ⟨by decide, by decide⟩, ⟨rfl, rfl⟩, by decide, by decide +kernel⟩, rfl, wG_t4 127 (by decide +kernel) rfl, wG_t4 128 (by decide +kernel) rfl, _, rfl, rfl⟩
set_option maxRecDepth 20000 in
theorem cal_X8_write : CalV 107 2 3 18 6 := ⟨⟨wG_t4 138 rfl rfl, wG_t1 1 (by decide +kernel) rfl, ⟨by decide, by decide⟩, ⟨rfl, rfl⟩, by decide, by decide +kernel⟩, rfl, wG_t4 136 (by decide +kernel) rfl, wG_t4 137 (by decide +kernel) rfl, _, rfl, rfl⟩
set_option maxRecDepth 20000 in
theorem cal_X8_erase : CalV 108 1 1 6 6 := ⟨⟨wG_t4 152 rfl rfl, wG_t1 1 (by decide +kernel) rfl, ⟨by decide, by decide⟩, ⟨rfl, rfl⟩, by decide, by decide +kernel⟩, rfl, wG_t4 150 (by decide +kernel) rfl, wG_t4 151 (by decide +kernel) rfl, _, rfl, rfl⟩
set_option maxRecDepth 20000 in
theorem cal_X8_undo : CalV 109 0 1 6 6 := ⟨⟨wG_t4 165 rfl rfl, wG_t1 1 (by decide +kernel) rfl, ⟨by decide, by decide⟩, ⟨rfl, rfl⟩, by decide, by decide +kernel⟩, rfl, wG_t4 163 (by decide +kernel) rfl, wG_t4 164 (by decide +kernel) rfl, _, rfl, rfl⟩
set_option maxRecDepth 20000 in
theorem cal_X8_possible : CalV 110 0 0 0 6 := ⟨⟨wG_t2 180 rfl rfl, wG_t1 1 (by decide +kernel) rfl, ⟨by decide, by decide⟩, ⟨rfl, rfl⟩, by decide, by decide +kernel⟩, rfl, wG_t2 178 (by decide +kernel) rfl, wG_t2 179 (by decide +kernel) rfl, _, rfl, rfl⟩
set_option maxRecDepth 20000 in
theorem cal_X8_fillings : CalV 111 0 0 0 6 := ⟨⟨wG_t2 184 rfl rfl, wG_t1 1 (by decide +kernel) rfl, ⟨by decide, by decide⟩, ⟨rfl, rfl⟩, by decide, by decide +kernel⟩, rfl, wG_t2 182 (by decide +kernel) rfl, wG_t2 183 (by decide +kernel) rfl, _, rfl, rfl⟩
set_option maxRecDepth 20000 in
theorem cal_X8_mend : CalV 112 0 0 0 6 := ⟨⟨wG_t3 6 rfl rfl, wG_t1 1 (by decide +kernel) rfl, ⟨by decide, by decide⟩, ⟨rfl, rfl⟩, by decide, by decide +kernel⟩, rfl, wG_t3 4 (by decide +kernel) rfl, wG_t3 5 (by decide +kernel) rfl, _, rfl, rfl⟩
set_option maxRecDepth 20000 in
theorem cal_X8_hardest : CalV 113 0 0 0 6 := ⟨⟨wG_t3 70 rfl rfl, wG_t1 1 (by decide +kernel) rfl, ⟨by decide, by decide⟩, ⟨rfl, rfl⟩, by decide, by decide +kernel⟩, rfl, wG_t3 68 (by decide +kernel) rfl, wG_t3 69 (by decide +kernel) rfl, _, rfl, rfl⟩
set_option maxRecDepth 20000 in
theorem cal_X8_runScript : CalV 114 2 1 6 6 := ⟨⟨wG_t4 177 rfl rfl, wG_t1 1 (by decide +kernel) rfl, ⟨by decide, by decide⟩, ⟨rfl, rfl⟩, by decide, by decide +kernel⟩, rfl, wG_t4 175 (by decide +kernel) rfl, wG_t4 176 (by decide +kernel) rfl, _, rfl, rfl⟩
set_option maxRecDepth 20000 in
theorem cal_X8_simulate : CalV 115 2 1 6 6 := ⟨⟨wG_t4 213 rfl rfl, wG_t1 1 (by decide +kernel) rfl, ⟨by decide, by decide⟩, ⟨rfl, rfl⟩, by decide, by decide +kernel⟩, rfl, wG_t4 211 (by decide +kernel) rfl, wG_t4 212 (by decide +kernel) rfl, _, rfl, rfl⟩
set_option maxRecDepth 20000 in
theorem cal_X8_save : CalV 116 1 1 6 6 := ⟨⟨wG_t4 227 rfl rfl, wG_t1 1 (by decide +kernel) rfl, ⟨by decide, by decide⟩, ⟨rfl, rfl⟩, by decide, by decide +kernel⟩, rfl, wG_t4 225 (by decide +kernel) rfl, wG_t4 226 (by decide +kernel) rfl, _, rfl, rfl⟩
set_option maxRecDepth 20000 in
theorem cal_X8_restore : CalV 117 1 2 12 6 := ⟨⟨wG_t5 2 rfl rfl, wG_t1 1 (by decide +kernel) rfl, ⟨by decide, by decide⟩, ⟨rfl, rfl⟩, by decide, by decide +kernel⟩, rfl, wG_t5 0 (by decide +kernel) rfl, wG_t5 1 (by decide +kernel) rfl, _, rfl, rfl⟩
set_option maxRecDepth 20000 in
theorem cal_X8_requireCell : CalV 118 1 1 6 6 := ⟨⟨wG_t3 227 rfl rfl, wG_t1 1 (by decide +kernel) rfl, ⟨by decide, by decide⟩, ⟨rfl, rfl⟩, by decide, by decide +kernel⟩, rfl, wG_t3 226 (by decide +kernel) rfl, wG_m 17 (by decide +kernel) rfl, _, rfl, rfl⟩
set_option maxRecDepth 20000 in
theorem cal_X8_requireEntry : CalV 119 1 1 6 6 := ⟨⟨wG_t4 23 rfl rfl, wG_t1 1 (by decide +kernel) rfl, ⟨by decide, by decide⟩, ⟨rfl, rfl⟩, by decide, by decide +kernel⟩, rfl, wG_t4 22 (by decide +kernel) rfl, wG_m 18 (by decide +kernel) rfl, _, rfl, rfl⟩
set_option maxRecDepth 20000 in
theorem cal_X8_requireWord : CalV 120 1 1 6 6 := ⟨⟨wG_t4 45 rfl rfl, wG_t1 1 (by decide +kernel) rfl, ⟨by decide, by decide⟩, ⟨rfl, rfl⟩, by decide, by decide +kernel⟩, rfl, wG_t4 44 (by decide +kernel) rfl, wG_m 19 (by decide +kernel) rfl, _, rfl, rfl⟩
set_option maxRecDepth 20000 in
theorem cal_X8_requireSlot : CalS 121 1 1 6 := ⟨⟨wG_t4 230 rfl rfl, wG_t1 1 (by decide +kernel) rfl, ⟨by decide, by decide⟩, ⟨rfl, rfl⟩, by decide, by decide +kernel⟩, rfl, wG_t4 229 (by decide +kernel) rfl⟩
set_option maxRecDepth 20000 in
theorem cal_X8_isLetter : CalS 122 1 0 0 := ⟨⟨wG_t2 75 rfl rfl, wG_t1 1 (by decide +kernel) rfl, ⟨by decide, by decide⟩, ⟨rfl, rfl⟩, by decide, by decide +kernel⟩, rfl, wG_t2 74 (by decide +kernel) rfl⟩
set_option maxRecDepth 20000 in
theorem cal_X8_withoutGroups : CalS 123 2 0 0 := ⟨⟨wG_t4 180 rfl rfl, wG_t1 1 (by decide +kernel) rfl, ⟨by decide, by decide⟩, ⟨rfl, rfl⟩, by decide, by decide +kernel⟩, rfl, wG_t4 179 (by decide +kernel) rfl⟩
set_option maxRecDepth 20000 in
theorem cal_X8_simulateRound : CalV 124 1 0 0 6 := ⟨⟨wG_t4 220 rfl rfl, wG_t1 1 (by decide +kernel) rfl, ⟨by decide, by decide⟩, ⟨rfl, rfl⟩, by decide, by decide +kernel⟩, rfl, wG_t4 219 (by decide +kernel) rfl, wG_m 21 (by decide +kernel) rfl, _, rfl, rfl⟩
set_option maxRecDepth 20000 in
theorem cal_X9_init : CalC 125 0 16 3725 := ⟨⟨wG_t5 16 rfl rfl, wG_t1 9 (by decide +kernel) rfl, ⟨by decide, by decide⟩, ⟨rfl, rfl⟩, by decide, by decide +kernel⟩, rfl, rfl, wG_t5 15 (by decide +kernel) rfl, rfl⟩
set_option maxRecDepth 20000 in
theorem cal_X9_thrown : CalV 126 0 0 0 7 := ⟨⟨wG_t5 110 rfl rfl, wG_t1 9 (by decide +kernel) rfl, ⟨by decide, by decide⟩, ⟨rfl, rfl⟩, by decide, by decide +kernel⟩, rfl, wG_t5 108 (by decide +kernel) rfl, wG_t5 109 (by decide +kernel) rfl, _, rfl, rfl⟩
set_option maxRecDepth 20000 in
theorem cal_X9_move : CalS 127 4 0 0 := ⟨⟨wG_t5 147 rfl rfl, wG_t1 9 (by decide +kernel) rfl, ⟨by decide, by decide⟩, ⟨rfl, rfl⟩, by decide, by decide +kernel⟩, rfl, wG_t5 146 (by decide +kernel) rfl⟩
set_option maxRecDepth 20000 in
theorem cal_X9_append : CalV 128 1 0 0 7 := ⟨⟨wG_t5 114 rfl rfl, wG_t1 9 (by decide +kernel) rfl, ⟨by decide, by decide⟩, ⟨rfl, rfl⟩, by decide, by decide +kernel⟩, rfl, wG_t5 112 (by decide +kernel) rfl, wG_t5 113 (by decide +kernel) rfl, _, rfl, rfl⟩
set_option maxRecDepth 20000 in
theorem cal_X9_clearText : CalV 129 0 0 0 7 := ⟨⟨wG_t5 118 rfl rfl, wG_t1 9 (by decide +kernel) rfl, ⟨by decide, by decide⟩, ⟨rfl, rfl⟩, by decide, by decide +kernel⟩, rfl, wG_t5 116 (by decide +kernel) rfl, wG_t5 117 (by decide +kernel) rfl, _, rfl, rfl⟩
set_option maxRecDepth 20000 in
theorem cal_X9_character : CalV 130 1 0 0 7 := ⟨⟨wG_t5 130 rfl rfl, wG_t1 9 (by decide +kernel) rfl, ⟨by decide, by decide⟩, ⟨rfl, rfl⟩, by decide, by decide +kernel⟩, rfl, wG_t5 129 (by decide +kernel) rfl, wG_m 30 (by decide +kernel) rfl, _, rfl, rfl⟩
set_option maxRecDepth 20000 in
theorem cal_X9_isLetter : CalS 131 1 0 0 := ⟨⟨wG_t5 136 rfl rfl, wG_t1 9 (by decide +kernel) rfl, ⟨by decide, by decide⟩, ⟨rfl, rfl⟩, by decide, by decide +kernel⟩, rfl, wG_t5 135 (by decide +kernel) rfl⟩
set_option maxRecDepth 20000 in
theorem cal_X9_isSide : CalS 132 1 0 0 := ⟨⟨wG_t5 133 rfl rfl, wG_t1 9 (by decide +kernel) rfl, ⟨by decide, by decide⟩, ⟨rfl, rfl⟩, by decide, by decide +kernel⟩, rfl, wG_t5 132 (by decide +kernel) rfl⟩
set_option maxRecDepth 20000 in
theorem cal_X9_readText : CalV 133 0 0 0 7 := ⟨⟨wG_t5 126 rfl rfl, wG_t1 9 (by decide +kernel) rfl, ⟨by decide, by decide⟩, ⟨rfl, rfl⟩, by decide, by decide +kernel⟩, rfl, wG_t5 125 (by decide +kernel) rfl, wG_m 29 (by decide +kernel) rfl, _, rfl, rfl⟩
set_option maxRecDepth 20000 in
theorem cal_X9_readParts : CalV 134 1 0 0 7 := ⟨⟨wG_t5 140 rfl rfl, wG_t1 9 (by decide +kernel) rfl, ⟨by decide, by decide⟩, ⟨rfl, rfl⟩, by decide, by decide +kernel⟩, rfl, wG_t5 139 (by decide +kernel) rfl, wG_m 31 (by decide +kernel) rfl, _, rfl, rfl⟩
set_option maxRecDepth 20000 in
theorem cal_X9_errorPosition : CalV 135 0 0 0 7 := ⟨⟨wG_t5 122 rfl rfl, wG_t1 9 (by decide +kernel) rfl, ⟨by decide, by decide⟩, ⟨rfl, rfl⟩, by decide, by decide +kernel⟩, rfl, wG_t5 120 (by decide +kernel) rfl, wG_t5 121 (by decide +kernel) rfl, _, rfl, rfl⟩
set_option maxRecDepth 20000 in
theorem cal_X9_load : CalV 136 0 0 0 7 := ⟨⟨wG_t5 144 rfl rfl, wG_t1 9 (by decide +kernel) rfl, ⟨by decide, by decide⟩, ⟨rfl, rfl⟩, by decide, by decide +kernel⟩, rfl, wG_t5 142 (by decide +kernel) rfl, wG_t5 143 (by decide +kernel) rfl, _, rfl, rfl⟩
set_option maxRecDepth 20000 in
theorem cal_X9_size : CalV 137 0 0 0 7 := ⟨⟨wG_t5 25 rfl rfl, wG_t1 9 (by decide +kernel) rfl, ⟨by decide, by decide⟩, ⟨rfl, rfl⟩, by decide, by decide +kernel⟩, rfl, wG_t5 24 (by decide +kernel) rfl, wG_m 23 (by decide +kernel) rfl, _, rfl, rfl⟩
set_option maxRecDepth 20000 in
theorem cal_X9_isCell : CalV 138 1 0 0 7 := ⟨⟨wG_t5 171 rfl rfl, wG_t1 9 (by decide +kernel) rfl, ⟨by decide, by decide⟩, ⟨rfl, rfl⟩, by decide, by decide +kernel⟩, rfl, wG_t5 170 (by decide +kernel) rfl, wG_m 35 (by decide +kernel) rfl, _, rfl, rfl⟩
set_option maxRecDepth 20000 in
theorem cal_X9_isLastColumn : CalV 139 1 0 0 7 := ⟨⟨wG_t5 33 rfl rfl, wG_t1 9 (by decide +kernel) rfl, ⟨by decide, by decide⟩, ⟨rfl, rfl⟩, by decide, by decide +kernel⟩, rfl, wG_t5 32 (by decide +kernel) rfl, wG_m 25 (by decide +kernel) rfl, _, rfl, rfl⟩
set_option maxRecDepth 20000 in
theorem cal_X9_isLastRow : CalV 140 1 0 0 7 := ⟨⟨wG_t5 41 rfl rfl, wG_t1 9 (by decide +kernel) rfl, ⟨by decide, by decide⟩, ⟨rfl, rfl⟩, by decide, by decide +kernel⟩, rfl, wG_t5 40 (by decide +kernel) rfl, wG_m 27 (by decide +kernel) rfl, _, rfl, rfl⟩
set_option maxRecDepth 20000 in
theorem cal_X9_endsRight : CalV 141 1 0 0 7 := ⟨⟨wG_t5 29 rfl rfl, wG_t1 9 (by decide +kernel) rfl, ⟨by decide, by decide⟩, ⟨rfl, rfl⟩, by decide, by decide +kernel⟩, rfl, wG_t5 28 (by decide +kernel) rfl, wG_m 24 (by decide +kernel) rfl, _, rfl, rfl⟩
set_option maxRecDepth 20000 in
theorem cal_X9_endsBelow : CalV 142 1 0 0 7 := ⟨⟨wG_t5 37 rfl rfl, wG_t1 9 (by decide +kernel) rfl, ⟨by decide, by decide⟩, ⟨rfl, rfl⟩, by decide, by decide +kernel⟩, rfl, wG_t5 36 (by decide +kernel) rfl, wG_m 26 (by decide +kernel) rfl, _, rfl, rfl⟩
set_option maxRecDepth 20000 in
theorem cal_X9_findEntries : CalV 143 0 0 0 7 := ⟨⟨wG_t5 21 rfl rfl, wG_t1 9 (by decide +kernel) rfl, ⟨by decide, by decide⟩, ⟨rfl, rfl⟩, by decide, by decide +kernel⟩, rfl, wG_t5 20 (by decide +kernel) rfl, wG_m 22 (by decide +kernel) rfl, _, rfl, rfl⟩
set_option maxRecDepth 20000 in
theorem cal_X9_addEntry : CalV 144 3 0 0 7 := ⟨⟨wG_t5 45 rfl rfl, wG_t1 9 (by decide +kernel) rfl, ⟨by decide, by decide⟩, ⟨rfl, rfl⟩, by decide, by decide +kernel⟩, rfl, wG_t5 44 (by decide +kernel) rfl, wG_m 28 (by decide +kernel) rfl, _, rfl, rfl⟩
set_option maxRecDepth 20000 in
theorem cal_X9_isEntry : CalV 145 1 0 0 7 := ⟨⟨wG_t5 179 rfl rfl, wG_t1 9 (by decide +kernel) rfl, ⟨by decide, by decide⟩, ⟨rfl, rfl⟩, by decide, by decide +kernel⟩, rfl, wG_t5 178 (by decide +kernel) rfl, wG_m 36 (by decide +kernel) rfl, _, rfl, rfl⟩
set_option maxRecDepth 20000 in
theorem cal_X9_cellOf : CalV 146 2 0 0 7 := ⟨⟨wG_t5 187 rfl rfl, wG_t1 9 (by decide +kernel) rfl, ⟨by decide, by decide⟩, ⟨rfl, rfl⟩, by decide, by decide +kernel⟩, rfl, wG_t5 186 (by decide +kernel) rfl, wG_m 38 (by decide +kernel) rfl, _, rfl, rfl⟩
set_option maxRecDepth 20000 in
theorem cal_X9_entriesOf : CalV 147 1 0 0 7 := ⟨⟨wG_t5 159 rfl rfl, wG_t1 9 (by decide +kernel) rfl, ⟨by decide, by decide⟩, ⟨rfl, rfl⟩, by decide, by decide +kernel⟩, rfl, wG_t5 158 (by decide +kernel) rfl, wG_m 33 (by decide +kernel) rfl, _, rfl, rfl⟩
set_option maxRecDepth 20000 in
theorem cal_X9_uncheckedIn : CalV 148 1 0 0 7 := ⟨⟨wG_t5 183 rfl rfl, wG_t1 9 (by decide +kernel) rfl, ⟨by decide, by decide⟩, ⟨rfl, rfl⟩, by decide, by decide +kernel⟩, rfl, wG_t5 182 (by decide +kernel) rfl, wG_m 37 (by decide +kernel) rfl, _, rfl, rfl⟩
set_option maxRecDepth 20000 in
theorem cal_X9_emptyIn : CalV 149 1 0 0 7 := ⟨⟨wG_t5 191 rfl rfl, wG_t1 9 (by decide +kernel) rfl, ⟨by decide, by decide⟩, ⟨rfl, rfl⟩, by decide, by decide +kernel⟩, rfl, wG_t5 190 (by decide +kernel) rfl, wG_m 39 (by decide +kernel) rfl, _, rfl, rfl⟩
set_option maxRecDepth 20000 in
theorem cal_X9_cellsIn : CalV 150 1 0 0 7 := ⟨⟨wG_t5 155 rfl rfl, wG_t1 9 (by decide +kernel) rfl, ⟨by decide, by decide⟩, ⟨rfl, rfl⟩, by decide, by decide +kernel⟩, rfl, wG_t5 154 (by decide +kernel) rfl, wG_m 32 (by decide +kernel) rfl, _, rfl, rfl⟩
set_option maxRecDepth 20000 in
theorem cal_X9_bars : CalV 151 0 0 0 7 := ⟨⟨wG_t5 163 rfl rfl, wG_t1 9 (by decide +kernel) rfl, ⟨by decide, by decide⟩, ⟨rfl, rfl⟩, by decide, by decide +kernel⟩, rfl, wG_t5 162 (by decide +kernel) rfl, wG_m 34 (by decide +kernel) rfl, _, rfl, rfl⟩
set_option maxRecDepth 20000 in
theorem cal_X9_about : CalV 152 1 0 0 7 := ⟨⟨wG_t5 151 rfl rfl, wG_t1 9 (by decide +kernel) rfl, ⟨by decide, by decide⟩, ⟨rfl, rfl⟩, by decide, by decide +kernel⟩, rfl, wG_t5 149 (by decide +kernel) rfl, wG_t5 150 (by decide +kernel) rfl, _, rfl, rfl⟩
set_option maxRecDepth 20000 in
theorem cal_X9_cell : CalV 153 2 0 0 7 := ⟨⟨wG_t5 167 rfl rfl, wG_t1 9 (by decide +kernel) rfl, ⟨by decide, by decide⟩, ⟨rfl, rfl⟩, by decide, by decide +kernel⟩, rfl, wG_t5 165 (by decide +kernel) rfl, wG_t5 166 (by decide +kernel) rfl, _, rfl, rfl⟩
set_option maxRecDepth 20000 in
theorem cal_X9_entry : CalV 154 2 0 0 7 := ⟨⟨wG_t5 175 rfl rfl, wG_t1 9 (by decide +kernel) rfl, ⟨by decide, by decide⟩, ⟨rfl, rfl⟩, by decide, by decide +kernel⟩, rfl, wG_t5 173 (by decide +kernel) rfl, wG_t5 174 (by decide +kernel) rfl, _, rfl, rfl⟩
set_option maxRecDepth 20000 in
theorem cal_X9_wordIn : CalV 155 1 0 0 7 := ⟨⟨wG_t5 195 rfl rfl, wG_t1 9 (by decide +kernel) rfl, ⟨by decide, by decide⟩, ⟨rfl, rfl⟩, by decide, by decide +kernel⟩, rfl, wG_t5 194 (by decide +kernel) rfl, wG_m 40 (by decide +kernel) rfl, _, rfl, rfl⟩
set_option maxRecDepth 20000 in
theorem cal_X9_isWord : CalV 156 1 0 0 7 := ⟨⟨wG_t5 211 rfl rfl, wG_t1 9 (by decide +kernel) rfl, ⟨by decide, by decide⟩, ⟨rfl, rfl⟩, by decide, by decide +kernel⟩, rfl, wG_t5 210 (by decide +kernel) rfl, wG_m 43 (by decide +kernel) rfl, _, rfl, rfl⟩
set_option maxRecDepth 20000 in
theorem cal_X9_letterOf : CalV 157 2 0 0 7 := ⟨⟨wG_t5 203 rfl rfl, wG_t1 9 (by decide +kernel) rfl, ⟨by decide, by decide⟩, ⟨rfl, rfl⟩, by decide, by decide +kernel⟩, rfl, wG_t5 202 (by decide +kernel) rfl, wG_m 42 (by decide +kernel) rfl, _, rfl, rfl⟩
set_option maxRecDepth 20000 in
theorem cal_X9_word : CalV 158 2 0 0 7 := ⟨⟨wG_t5 207 rfl rfl, wG_t1 9 (by decide +kernel) rfl, ⟨by decide, by decide⟩, ⟨rfl, rfl⟩, by decide, by decide +kernel⟩, rfl, wG_t5 205 (by decide +kernel) rfl, wG_t5 206 (by decide +kernel) rfl, _, rfl, rfl⟩
set_option maxRecDepth 20000 in
theorem cal_X9_isFitting : CalV 159 2 0 0 7 := ⟨⟨wG_t5 199 rfl rfl, wG_t1 9 (by decide +kernel) rfl, ⟨by decide, by decide⟩, ⟨rfl, rfl⟩, by decide, by decide +kernel⟩, rfl, wG_t5 198 (by decide +kernel) rfl, wG_m 41 (by decide +kernel) rfl, _, rfl, rfl⟩
set_option maxRecDepth 20000 in
theorem cal_X9_fitsOf : CalV 160 1 0 0 7 := ⟨⟨wG_t5 219 rfl rfl, wG_t1 9 (by decide +kernel) rfl, ⟨by decide, by decide⟩, ⟨rfl, rfl⟩, by decide, by decide +kernel⟩, rfl, wG_t5 218 (by decide +kernel) rfl, wG_m 44 (by decide +kernel) rfl, _, rfl, rfl⟩
set_option maxRecDepth 20000 in
theorem cal_X9_fits : CalV 161 1 0 0 7 := ⟨⟨wG_t5 215 rfl rfl, wG_t1 9 (by decide +kernel) rfl, ⟨by decide, by decide⟩, ⟨rfl, rfl⟩, by decide, by decide +kernel⟩, rfl, wG_t5 213 (by decide +kernel) rfl, wG_t5 214 (by decide +kernel) rfl, _, rfl, rfl⟩
set_option maxRecDepth 20000 in
theorem cal_X9_isTurned : CalV 162 0 0 0 7 := ⟨⟨wG_t5 234 rfl rfl, wG_t1 9 (by decide +kernel) rfl, ⟨by decide, by decide⟩, ⟨rfl, rfl⟩, by decide, by decide +kernel⟩, rfl, wG_t5 233 (by decide +kernel) rfl, wG_m 46 (by decide +kernel) rfl, _, rfl, rfl⟩
set_option maxRecDepth 20000 in
theorem cal_X9_isWellChecked : CalV 163 0 0 0 7 := ⟨⟨wG_t5 238 rfl rfl, wG_t1 9 (by decide +kernel) rfl, ⟨by decide, by decide⟩, ⟨rfl, rfl⟩, by decide, by decide +kernel⟩, rfl, wG_t5 237 (by decide +kernel) rfl, wG_m 47 (by decide +kernel) rfl, _, rfl, rfl⟩
set_option maxRecDepth 20000 in
theorem cal_X9_isWithoutPairs : CalV 164 0 0 0 7 := ⟨⟨wG_t6 2 rfl rfl, wG_t1 9 (by decide +kernel) rfl, ⟨by decide, by decide⟩, ⟨rfl, rfl⟩, by decide, by decide +kernel⟩, rfl, wG_t6 1 (by decide +kernel) rfl, wG_m 48 (by decide +kernel) rfl, _, rfl, rfl⟩
set_option maxRecDepth 20000 in
theorem cal_X9_isConnected : CalV 165 0 0 0 7 := ⟨⟨wG_t6 6 rfl rfl, wG_t1 9 (by decide +kernel) rfl, ⟨by decide, by decide⟩, ⟨rfl, rfl⟩, by decide, by decide +kernel⟩, rfl, wG_t6 5 (by decide +kernel) rfl, wG_m 49 (by decide +kernel) rfl, _, rfl, rfl⟩
set_option maxRecDepth 20000 in
theorem cal_X9_keeps : CalV 166 1 0 0 7 := ⟨⟨wG_t5 230 rfl rfl, wG_t1 9 (by decide +kernel) rfl, ⟨by decide, by decide⟩, ⟨rfl, rfl⟩, by decide, by decide +kernel⟩, rfl, wG_t5 229 (by decide +kernel) rfl, wG_m 45 (by decide +kernel) rfl, _, rfl, rfl⟩
set_option maxRecDepth 20000 in
theorem cal_X9_kept : CalV 167 0 0 0 7 := ⟨⟨wG_t6 102 rfl rfl, wG_t1 9 (by decide +kernel) rfl, ⟨by decide, by decide⟩, ⟨rfl, rfl⟩, by decide, by decide +kernel⟩, rfl, wG_t6 101 (by decide +kernel) rfl, wG_m 60 (by decide +kernel) rfl, _, rfl, rfl⟩
set_option maxRecDepth 20000 in
theorem cal_X9_isRule : CalS 168 1 0 0 := ⟨⟨wG_t5 226 rfl rfl, wG_t1 9 (by decide +kernel) rfl, ⟨by decide, by decide⟩, ⟨rfl, rfl⟩, by decide, by decide +kernel⟩, rfl, wG_t5 225 (by decide +kernel) rfl⟩
set_option maxRecDepth 20000 in
theorem cal_X9_rule : CalV 169 1 0 0 7 := ⟨⟨wG_t5 223 rfl rfl, wG_t1 9 (by decide +kernel) rfl, ⟨by decide, by decide⟩, ⟨rfl, rfl⟩, by decide, by decide +kernel⟩, rfl, wG_t5 221 (by decide +kernel) rfl, wG_t5 222 (by decide +kernel) rfl, _, rfl, rfl⟩
set_option maxRecDepth 20000 in
theorem cal_X9_isKnightStep : CalV 170 2 0 0 7 := ⟨⟨wG_t6 23 rfl rfl, wG_t1 9 (by decide +kernel) rfl, ⟨by decide, by decide⟩, ⟨rfl, rfl⟩, by decide, by decide +kernel⟩, rfl, wG_t6 22 (by decide +kernel) rfl, wG_m 52 (by decide +kernel) rfl, _, rfl, rfl⟩
set_option maxRecDepth 20000 in
theorem cal_X9_canRead : CalV 171 3 0 0 7 := ⟨⟨wG_t6 19 rfl rfl, wG_t1 9 (by decide +kernel) rfl, ⟨by decide, by decide⟩, ⟨rfl, rfl⟩, by decide, by decide +kernel⟩, rfl, wG_t6 18 (by decide +kernel) rfl, wG_m 51 (by decide +kernel) rfl, _, rfl, rfl⟩
set_option maxRecDepth 20000 in
theorem cal_X9_countReadings : CalV 172 2 0 0 7 := ⟨⟨wG_t6 15 rfl rfl, wG_t1 9 (by decide +kernel) rfl, ⟨by decide, by decide⟩, ⟨rfl, rfl⟩, by decide, by decide +kernel⟩, rfl, wG_t6 14 (by decide +kernel) rfl, wG_m 50 (by decide +kernel) rfl, _, rfl, rfl⟩
set_option maxRecDepth 20000 in
theorem cal_X9_readings : CalV 173 0 0 0 7 := ⟨⟨wG_t6 10 rfl rfl, wG_t1 9 (by decide +kernel) rfl, ⟨by decide, by decide⟩, ⟨rfl, rfl⟩, by decide, by decide +kernel⟩, rfl, wG_t6 8 (by decide +kernel) rfl, wG_t6 9 (by decide +kernel) rfl, _, rfl, rfl⟩
set_option maxRecDepth 20000 in
theorem cal_X9_reading : CalV 174 1 0 0 7 := ⟨⟨wG_t6 27 rfl rfl, wG_t1 9 (by decide +kernel) rfl, ⟨by decide, by decide⟩, ⟨rfl, rfl⟩, by decide, by decide +kernel⟩, rfl, wG_t6 25 (by decide +kernel) rfl, wG_t6 26 (by decide +kernel) rfl, _, rfl, rfl⟩
set_option maxRecDepth 20000 in
theorem cal_X9_remember : CalV 175 0 0 0 7 := ⟨⟨wG_t6 38 rfl rfl, wG_t1 9 (by decide +kernel) rfl, ⟨by decide, by decide⟩, ⟨rfl, rfl⟩, by decide, by decide +kernel⟩, rfl, wG_t6 37 (by decide +kernel) rfl, wG_m 53 (by decide +kernel) rfl, _, rfl, rfl⟩
set_option maxRecDepth 20000 in
theorem cal_X9_isWritable : CalS 176 1 0 0 := ⟨⟨wG_t6 34 rfl rfl, wG_t1 9 (by decide +kernel) rfl, ⟨by decide, by decide⟩, ⟨rfl, rfl⟩, by decide, by decide +kernel⟩, rfl, wG_t6 33 (by decide +kernel) rfl⟩
set_option maxRecDepth 20000 in
theorem cal_X9_put : CalV 177 2 0 0 7 := ⟨⟨wG_t6 31 rfl rfl, wG_t1 9 (by decide +kernel) rfl, ⟨by decide, by decide⟩, ⟨rfl, rfl⟩, by decide, by decide +kernel⟩, rfl, wG_t6 29 (by decide +kernel) rfl, wG_t6 30 (by decide +kernel) rfl, _, rfl, rfl⟩
set_option maxRecDepth 20000 in
theorem cal_X9_isRim : CalV 178 2 0 0 7 := ⟨⟨wG_t6 46 rfl rfl, wG_t1 9 (by decide +kernel) rfl, ⟨by decide, by decide⟩, ⟨rfl, rfl⟩, by decide, by decide +kernel⟩, rfl, wG_t6 45 (by decide +kernel) rfl, wG_m 54 (by decide +kernel) rfl, _, rfl, rfl⟩
set_option maxRecDepth 20000 in
theorem cal_X9_bar : CalV 179 3 0 0 7 := ⟨⟨wG_t6 50 rfl rfl, wG_t1 9 (by decide +kernel) rfl, ⟨by decide, by decide⟩, ⟨rfl, rfl⟩, by decide, by decide +kernel⟩, rfl, wG_t6 49 (by decide +kernel) rfl, wG_m 55 (by decide +kernel) rfl, _, rfl, rfl⟩
set_option maxRecDepth 20000 in
theorem cal_X9_setBar : CalV 180 3 0 0 7 := ⟨⟨wG_t6 42 rfl rfl, wG_t1 9 (by decide +kernel) rfl, ⟨by decide, by decide⟩, ⟨rfl, rfl⟩, by decide, by decide +kernel⟩, rfl, wG_t6 40 (by decide +kernel) rfl, wG_t6 41 (by decide +kernel) rfl, _, rfl, rfl⟩
set_option maxRecDepth 20000 in
theorem cal_X9_isLetters : CalV 181 1 0 0 7 := ⟨⟨wG_t6 58 rfl rfl, wG_t1 9 (by decide +kernel) rfl, ⟨by decide, by decide⟩, ⟨rfl, rfl⟩, by decide, by decide +kernel⟩, rfl, wG_t6 57 (by decide +kernel) rfl, wG_m 56 (by decide +kernel) rfl, _, rfl, rfl⟩
set_option maxRecDepth 20000 in
theorem cal_X9_addWord : CalV 182 0 0 0 7 := ⟨⟨wG_t6 54 rfl rfl, wG_t1 9 (by decide +kernel) rfl, ⟨by decide, by decide⟩, ⟨rfl, rfl⟩, by decide, by decide +kernel⟩, rfl, wG_t6 52 (by decide +kernel) rfl, wG_t6 53 (by decide +kernel) rfl, _, rfl, rfl⟩
set_option maxRecDepth 20000 in
theorem cal_X9_setLine : CalV 183 0 0 0 7 := ⟨⟨wG_t6 62 rfl rfl, wG_t1 9 (by decide +kernel) rfl, ⟨by decide, by decide⟩, ⟨rfl, rfl⟩, by decide, by decide +kernel⟩, rfl, wG_t6 60 (by decide +kernel) rfl, wG_t6 61 (by decide +kernel) rfl, _, rfl, rfl⟩
set_option maxRecDepth 20000 in
theorem cal_X9_writeWord : CalV 184 2 0 0 7 := ⟨⟨wG_t6 70 rfl rfl, wG_t1 9 (by decide +kernel) rfl, ⟨by decide, by decide⟩, ⟨rfl, rfl⟩, by decide, by decide +kernel⟩, rfl, wG_t6 69 (by decide +kernel) rfl, wG_m 57 (by decide +kernel) rfl, _, rfl, rfl⟩
set_option maxRecDepth 20000 in
theorem cal_X9_write : CalV 185 2 0 0 7 := ⟨⟨wG_t6 66 rfl rfl, wG_t1 9 (by decide +kernel) rfl, ⟨by decide, by decide⟩, ⟨rfl, rfl⟩, by decide, by decide +kernel⟩, rfl, wG_t6 64 (by decide +kernel) rfl, wG_t6 65 (by decide +kernel) rfl, _, rfl, rfl⟩
set_option maxRecDepth 20000 in
theorem cal_X9_eraseEntry : CalV 186 1 0 0 7 := ⟨⟨wG_t6 78 rfl rfl, wG_t1 9 (by decide +kernel) rfl, ⟨by decide, by decide⟩, ⟨rfl, rfl⟩, by decide, by decide +kernel⟩, rfl, wG_t6 77 (by decide +kernel) rfl, wG_m 58 (by decide +kernel) rfl, _, rfl, rfl⟩
set_option maxRecDepth 20000 in
theorem cal_X9_erase : CalV 187 1 0 0 7 := ⟨⟨wG_t6 74 rfl rfl, wG_t1 9 (by decide +kernel) rfl, ⟨by decide, by decide⟩, ⟨rfl, rfl⟩, by decide, by decide +kernel⟩, rfl, wG_t6 72 (by decide +kernel) rfl, wG_t6 73 (by decide +kernel) rfl, _, rfl, rfl⟩
set_option maxRecDepth 20000 in
theorem cal_X9_undo : CalV 188 0 0 0 7 := ⟨⟨wG_t6 82 rfl rfl, wG_t1 9 (by decide +kernel) rfl, ⟨by decide, by decide⟩, ⟨rfl, rfl⟩, by decide, by decide +kernel⟩, rfl, wG_t6 80 (by decide +kernel) rfl, wG_t6 81 (by decide +kernel) rfl, _, rfl, rfl⟩
set_option maxRecDepth 20000 in
theorem cal_X9_possible : CalV 189 0 0 0 7 := ⟨⟨wG_t6 86 rfl rfl, wG_t1 9 (by decide +kernel) rfl, ⟨by decide, by decide⟩, ⟨rfl, rfl⟩, by decide, by decide +kernel⟩, rfl, wG_t6 84 (by decide +kernel) rfl, wG_t6 85 (by decide +kernel) rfl, _, rfl, rfl⟩
set_option maxRecDepth 20000 in
theorem cal_X9_canFill : CalV 190 2 0 0 7 := ⟨⟨wG_t6 94 rfl rfl, wG_t1 9 (by decide +kernel) rfl, ⟨by decide, by decide⟩, ⟨rfl, rfl⟩, by decide, by decide +kernel⟩, rfl, wG_t6 93 (by decide +kernel) rfl, wG_m 59 (by decide +kernel) rfl, _, rfl, rfl⟩
set_option maxRecDepth 20000 in
theorem cal_X9_fillings : CalV 191 0 0 0 7 := ⟨⟨wG_t6 90 rfl rfl, wG_t1 9 (by decide +kernel) rfl, ⟨by decide, by decide⟩, ⟨rfl, rfl⟩, by decide, by decide +kernel⟩, rfl, wG_t6 88 (by decide +kernel) rfl, wG_t6 89 (by decide +kernel) rfl, _, rfl, rfl⟩
set_option maxRecDepth 20000 in
theorem cal_X9_change : CalV 192 2 0 0 7 := ⟨⟨wG_t6 106 rfl rfl, wG_t1 9 (by decide +kernel) rfl, ⟨by decide, by decide⟩, ⟨rfl, rfl⟩, by decide, by decide +kernel⟩, rfl, wG_t6 105 (by decide +kernel) rfl, wG_m 61 (by decide +kernel) rfl, _, rfl, rfl⟩
set_option maxRecDepth 20000 in
theorem cal_X9_mend : CalV 193 0 0 0 7 := ⟨⟨wG_t6 98 rfl rfl, wG_t1 9 (by decide +kernel) rfl, ⟨by decide, by decide⟩, ⟨rfl, rfl⟩, by decide, by decide +kernel⟩, rfl, wG_t6 96 (by decide +kernel) rfl, wG_t6 97 (by decide +kernel) rfl, _, rfl, rfl⟩
set_option maxRecDepth 20000 in
theorem cal_X9_hardest : CalV 194 0 0 0 7 := ⟨⟨wG_t6 110 rfl rfl, wG_t1 9 (by decide +kernel) rfl, ⟨by decide, by decide⟩, ⟨rfl, rfl⟩, by decide, by decide +kernel⟩, rfl, wG_t6 108 (by decide +kernel) rfl, wG_t6 109 (by decide +kernel) rfl, _, rfl, rfl⟩
set_option maxRecDepth 20000 in
theorem cal_X9_putsLetter : CalV 195 2 0 0 7 := ⟨⟨wG_t6 125 rfl rfl, wG_t1 9 (by decide +kernel) rfl, ⟨by decide, by decide⟩, ⟨rfl, rfl⟩, by decide, by decide +kernel⟩, rfl, wG_t6 124 (by decide +kernel) rfl, wG_m 63 (by decide +kernel) rfl, _, rfl, rfl⟩
set_option maxRecDepth 20000 in
theorem cal_X9_setsBar : CalV 196 3 0 0 7 := ⟨⟨wG_t6 129 rfl rfl, wG_t1 9 (by decide +kernel) rfl, ⟨by decide, by decide⟩, ⟨rfl, rfl⟩, by decide, by decide +kernel⟩, rfl, wG_t6 128 (by decide +kernel) rfl, wG_m 64 (by decide +kernel) rfl, _, rfl, rfl⟩
set_option maxRecDepth 20000 in
theorem cal_X9_writes : CalV 197 2 0 0 7 := ⟨⟨wG_t6 133 rfl rfl, wG_t1 9 (by decide +kernel) rfl, ⟨by decide, by decide⟩, ⟨rfl, rfl⟩, by decide, by decide +kernel⟩, rfl, wG_t6 132 (by decide +kernel) rfl, wG_m 65 (by decide +kernel) rfl, _, rfl, rfl⟩
set_option maxRecDepth 20000 in
theorem cal_X9_erases : CalV 198 1 0 0 7 := ⟨⟨wG_t6 137 rfl rfl, wG_t1 9 (by decide +kernel) rfl, ⟨by decide, by decide⟩, ⟨rfl, rfl⟩, by decide, by decide +kernel⟩, rfl, wG_t6 136 (by decide +kernel) rfl, wG_m 66 (by decide +kernel) rfl, _, rfl, rfl⟩
set_option maxRecDepth 20000 in
theorem cal_X9_runs : CalV 199 1 0 0 7 := ⟨⟨wG_t6 121 rfl rfl, wG_t1 9 (by decide +kernel) rfl, ⟨by decide, by decide⟩, ⟨rfl, rfl⟩, by decide, by decide +kernel⟩, rfl, wG_t6 120 (by decide +kernel) rfl, wG_m 62 (by decide +kernel) rfl, _, rfl, rfl⟩
set_option maxRecDepth 20000 in
theorem cal_X9_runScript : CalV 200 2 0 0 7 := ⟨⟨wG_t6 114 rfl rfl, wG_t1 9 (by decide +kernel) rfl, ⟨by decide, by decide⟩, ⟨rfl, rfl⟩, by decide, by decide +kernel⟩, rfl, wG_t6 112 (by decide +kernel) rfl, wG_t6 113 (by decide +kernel) rfl, _, rfl, rfl⟩
set_option maxRecDepth 20000 in
theorem cal_X9_simulate : CalV 201 2 0 0 7 := ⟨⟨wG_t6 141 rfl rfl, wG_t1 9 (by decide +kernel) rfl, ⟨by decide, by decide⟩, ⟨rfl, rfl⟩, by decide, by decide +kernel⟩, rfl, wG_t6 139 (by decide +kernel) rfl, wG_t6 140 (by decide +kernel) rfl, _, rfl, rfl⟩
set_option maxRecDepth 20000 in
theorem cal_X9_isSlot : CalS 202 1 0 0 := ⟨⟨wG_t6 150 rfl rfl, wG_t1 9 (by decide +kernel) rfl, ⟨by decide, by decide⟩, ⟨rfl, rfl⟩, by decide, by decide +kernel⟩, rfl, wG_t6 149 (by decide +kernel) rfl⟩
set_option maxRecDepth 20000 in
theorem cal_X9_save : CalV 203 1 0 0 7 := ⟨⟨wG_t6 147 rfl rfl, wG_t1 9 (by decide +kernel) rfl, ⟨by decide, by decide⟩, ⟨rfl, rfl⟩, by decide, by decide +kernel⟩, rfl, wG_t6 145 (by decide +kernel) rfl, wG_t6 146 (by decide +kernel) rfl, _, rfl, rfl⟩
set_option maxRecDepth 20000 in
theorem cal_X9_restore : CalV 204 1 0 0 7 := ⟨⟨wG_t6 154 rfl rfl, wG_t1 9 (by decide +kernel) rfl, ⟨by decide, by decide⟩, ⟨rfl, rfl⟩, by decide, by decide +kernel⟩, rfl, wG_t6 152 (by decide +kernel) rfl, wG_t6 153 (by decide +kernel) rfl, _, rfl, rfl⟩
set_option maxRecDepth 20000 in
theorem cal_J13_bitCount_95d88 : CalS 205 1 0 0 := ⟨⟨wG_t3 54 rfl rfl, wG_t1 16 (by decide +kernel) rfl, ⟨by decide, by decide⟩, ⟨rfl, rfl⟩, by decide, by decide +kernel⟩, rfl, wG_t3 53 (by decide +kernel) rfl⟩
set_option maxRecDepth 20000 in
theorem cal_J9_floorMod_7cf53 : CalS 206 2 0 0 := ⟨⟨wG_t4 97 rfl rfl, wG_t1 19 (by decide +kernel) rfl, ⟨by decide, by decide⟩, ⟨rfl, rfl⟩, by decide, by decide +kernel⟩, rfl, wG_t4 96 (by decide +kernel) rfl⟩
set_option maxRecDepth 20000 in
theorem cal_J7_fill_53178 : CalS 207 2 0 0 := ⟨⟨wG_t1 115 rfl rfl, wG_t1 5 (by decide +kernel) rfl, ⟨by decide, by decide⟩, ⟨rfl, rfl⟩, by decide, by decide +kernel⟩, rfl, wG_t1 114 (by decide +kernel) rfl⟩
set_option maxRecDepth 20000 in
theorem cal_L_append : CalX 208 3 1 6 := ⟨⟨wG_t3 82 rfl rfl, wG_t1 0 (by decide +kernel) rfl, ⟨by decide, by decide⟩, ⟨rfl, rfl⟩, by decide, by decide +kernel⟩, by decide, wG_t3 81 (by decide +kernel) rfl⟩
set_option maxRecDepth 20000 in
theorem cal_L_load : CalX 209 2 1 6 := ⟨⟨wG_t3 183 rfl rfl, wG_t1 0 (by decide +kernel) rfl, ⟨by decide, by decide⟩, ⟨rfl, rfl⟩, by decide, by decide +kernel⟩, by decide, wG_t3 182 (by decide +kernel) rfl⟩
set_option maxRecDepth 20000 in
theorem cal_L_about : CalX 210 3 1 6 := ⟨⟨wG_t3 199 rfl rfl, wG_t1 0 (by decide +kernel) rfl, ⟨by decide, by decide⟩, ⟨rfl, rfl⟩, by decide, by decide +kernel⟩, by decide, wG_t3 198 (by decide +kernel) rfl⟩
set_option maxRecDepth 20000 in
theorem cal_L_cell : CalX 211 4 2 12 := ⟨⟨wG_t3 218 rfl rfl, wG_t1 0 (by decide +kernel) rfl, ⟨by decide, by decide⟩, ⟨rfl, rfl⟩, by decide, by decide +kernel⟩, by decide, wG_t3 217 (by decide +kernel) rfl⟩
set_option maxRecDepth 20000 in
theorem cal_L_entry : CalX 212 4 2 12 := ⟨⟨wG_t4 15 rfl rfl, wG_t1 0 (by decide +kernel) rfl, ⟨by decide, by decide⟩, ⟨rfl, rfl⟩, by decide, by decide +kernel⟩, by decide, wG_t4 14 (by decide +kernel) rfl⟩
set_option maxRecDepth 20000 in
theorem cal_L_word : CalX 213 4 2 12 := ⟨⟨wG_t4 37 rfl rfl, wG_t1 0 (by decide +kernel) rfl, ⟨by decide, by decide⟩, ⟨rfl, rfl⟩, by decide, by decide +kernel⟩, by decide, wG_t4 36 (by decide +kernel) rfl⟩
set_option maxRecDepth 20000 in
theorem cal_L_fits : CalX 214 3 1 6 := ⟨⟨wG_t4 52 rfl rfl, wG_t1 0 (by decide +kernel) rfl, ⟨by decide, by decide⟩, ⟨rfl, rfl⟩, by decide, by decide +kernel⟩, by decide, wG_t4 51 (by decide +kernel) rfl⟩
set_option maxRecDepth 20000 in
theorem cal_L_rule : CalX 215 3 1 6 := ⟨⟨wG_t4 59 rfl rfl, wG_t1 0 (by decide +kernel) rfl, ⟨by decide, by decide⟩, ⟨rfl, rfl⟩, by decide, by decide +kernel⟩, by decide, wG_t4 58 (by decide +kernel) rfl⟩
set_option maxRecDepth 20000 in
theorem cal_L_reading : CalX 216 3 1 6 := ⟨⟨wG_t4 68 rfl rfl, wG_t1 0 (by decide +kernel) rfl, ⟨by decide, by decide⟩, ⟨rfl, rfl⟩, by decide, by decide +kernel⟩, by decide, wG_t4 67 (by decide +kernel) rfl⟩
set_option maxRecDepth 20000 in
theorem cal_L_put : CalX 217 4 2 12 := ⟨⟨wG_t4 80 rfl rfl, wG_t1 0 (by decide +kernel) rfl, ⟨by decide, by decide⟩, ⟨rfl, rfl⟩, by decide, by decide +kernel⟩, by decide, wG_t4 79 (by decide +kernel) rfl⟩
set_option maxRecDepth 20000 in
theorem cal_L_setBar : CalX 218 5 2 12 := ⟨⟨wG_t4 102 rfl rfl, wG_t1 0 (by decide +kernel) rfl, ⟨by decide, by decide⟩, ⟨rfl, rfl⟩, by decide, by decide +kernel⟩, by decide, wG_t4 101 (by decide +kernel) rfl⟩
set_option maxRecDepth 20000 in
theorem cal_L_addWord : CalX 219 2 1 6 := ⟨⟨wG_t4 110 rfl rfl, wG_t1 0 (by decide +kernel) rfl, ⟨by decide, by decide⟩, ⟨rfl, rfl⟩, by decide, by decide +kernel⟩, by decide, wG_t4 109 (by decide +kernel) rfl⟩
set_option maxRecDepth 20000 in
theorem cal_L_setLine : CalX 220 2 1 6 := ⟨⟨wG_t4 125 rfl rfl, wG_t1 0 (by decide +kernel) rfl, ⟨by decide, by decide⟩, ⟨rfl, rfl⟩, by decide, by decide +kernel⟩, by decide, wG_t4 124 (by decide +kernel) rfl⟩
set_option maxRecDepth 20000 in
theorem cal_L_write : CalX 221 4 3 18 := ⟨⟨wG_t4 134 rfl rfl, wG_t1 0 (by decide +kernel) rfl, ⟨by decide, by decide⟩, ⟨rfl, rfl⟩, by decide, by decide +kernel⟩, by decide, wG_t4 133 (by decide +kernel) rfl⟩
set_option maxRecDepth 20000 in
theorem cal_L_erase : CalX 222 3 1 6 := ⟨⟨wG_t4 148 rfl rfl, wG_t1 0 (by decide +kernel) rfl, ⟨by decide, by decide⟩, ⟨rfl, rfl⟩, by decide, by decide +kernel⟩, by decide, wG_t4 147 (by decide +kernel) rfl⟩
set_option maxRecDepth 20000 in
theorem cal_L_undo : CalX 223 2 1 6 := ⟨⟨wG_t4 161 rfl rfl, wG_t1 0 (by decide +kernel) rfl, ⟨by decide, by decide⟩, ⟨rfl, rfl⟩, by decide, by decide +kernel⟩, by decide, wG_t4 160 (by decide +kernel) rfl⟩
set_option maxRecDepth 20000 in
theorem cal_L_runScript : CalX 224 4 1 6 := ⟨⟨wG_t4 173 rfl rfl, wG_t1 0 (by decide +kernel) rfl, ⟨by decide, by decide⟩, ⟨rfl, rfl⟩, by decide, by decide +kernel⟩, by decide, wG_t4 172 (by decide +kernel) rfl⟩
set_option maxRecDepth 20000 in
theorem cal_L_simulate : CalX 225 4 1 6 := ⟨⟨wG_t4 209 rfl rfl, wG_t1 0 (by decide +kernel) rfl, ⟨by decide, by decide⟩, ⟨rfl, rfl⟩, by decide, by decide +kernel⟩, by decide, wG_t4 208 (by decide +kernel) rfl⟩
set_option maxRecDepth 20000 in
theorem cal_L_save : CalX 226 3 1 6 := ⟨⟨wG_t4 223 rfl rfl, wG_t1 0 (by decide +kernel) rfl, ⟨by decide, by decide⟩, ⟨rfl, rfl⟩, by decide, by decide +kernel⟩, by decide, wG_t4 222 (by decide +kernel) rfl⟩
set_option maxRecDepth 20000 in
theorem cal_L_restore : CalX 227 3 2 12 := ⟨⟨wG_t4 238 rfl rfl, wG_t1 0 (by decide +kernel) rfl, ⟨by decide, by decide⟩, ⟨rfl, rfl⟩, by decide, by decide +kernel⟩, by decide, wG_t4 237 (by decide +kernel) rfl⟩
end
section
/-! ===== what is decided of every method ===== -/
theorem at_0 : ∀ w ∈ (vx_atS RX8 51 "java/lang/IllegalArgumentException" exNames).filter goodWord, w ∈ wG := fun w h => List.mem_filter.mpr ⟨(show ∀ w ∈ (vx_atS RX8 51 "java/lang/IllegalArgumentException" exNames).filter goodWord, w ∈ lw_tbl by decide +kernel) w h, (List.mem_filter.mp h).2⟩
theorem at_1 : ∀ w ∈ (vx_atS RX8 62 "java/lang/IllegalStateException" exNames).filter goodWord, w ∈ wG := fun w h => List.mem_filter.mpr ⟨(show ∀ w ∈ (vx_atS RX8 62 "java/lang/IllegalStateException" exNames).filter goodWord, w ∈ lw_tbl by decide +kernel) w h, (List.mem_filter.mp h).2⟩
theorem at_2 : ∀ w ∈ (vx_atS RX8 322 "java/lang/IndexOutOfBoundsException" exNames).filter goodWord, w ∈ wG := fun w h => List.mem_filter.mpr ⟨(show ∀ w ∈ (vx_atS RX8 322 "java/lang/IndexOutOfBoundsException" exNames).filter goodWord, w ∈ lw_tbl by decide +kernel) w h, (List.mem_filter.mp h).2⟩
theorem an_0 : ∀ w ∈ (vx_atS RX8 51 "java/lang/IllegalArgumentException" exNames).filter (fun w => !goodWord w), w ∈ Jvm.Cond.castable "java/lang/IllegalArgumentException" "java/lang/IllegalArgumentException" :: aDcl.map Jvm.Cond.declares := by decide +kernel
theorem an_1 : ∀ w ∈ (vx_atS RX8 62 "java/lang/IllegalStateException" exNames).filter (fun w => !goodWord w), w ∈ Jvm.Cond.castable "java/lang/IllegalStateException" "java/lang/IllegalStateException" :: aDcl.map Jvm.Cond.declares := by decide +kernel
theorem an_2 : ∀ w ∈ (vx_atS RX8 322 "java/lang/IndexOutOfBoundsException" exNames).filter (fun w => !goodWord w), w ∈ Jvm.Cond.castable "java/lang/IndexOutOfBoundsException" "java/lang/IndexOutOfBoundsException" :: aDcl.map Jvm.Cond.declares := by decide +kernel
theorem thr_ok {own : String} {cc : ByteArray} {t : List (Nat × String)} (h : ∀ q ∈ t, ThrOk own cc q.1 q.2) : ∀ pc X, lk t pc = some X → ThrOk own cc pc X := fun _ _ hx => lk_all (P := fun pc X => ThrOk own cc pc X) h hx
theorem mth_ok {own : String} {t : List (Nat × AMth)} (h : ∀ q ∈ t, MthOk own q.1 q.2) : ∀ x e, lk t x = some e → MthOk own x e := fun _ _ hx => lk_all (P := fun x e => MthOk own x e) h hx
theorem cls_ok {own : String} {t : List (Nat × Nat)} (h : ∀ r ∈ t, ∃ q, vwCl[r.2]? = some q ∧ Jvm.Cond.classLink own r.1 q.1 ∈ wG ∧ Jvm.Cond.instantiable q.1 q.2.2 ∈ wG ∧ Jvm.Cond.initialized q.1 ∈ wG) : ∀ x ci, lk t x = some ci → ∃ q, vwCl[ci]? = some q ∧ Jvm.Cond.classLink own x q.1 ∈ wG ∧ Jvm.Cond.instantiable q.1 q.2.2 ∈ wG ∧ Jvm.Cond.initialized q.1 ∈ wG := fun _ _ hx => lk_all (P := fun x ci => ∃ q, vwCl[ci]? = some q ∧ Jvm.Cond.classLink own x q.1 ∈ wG ∧ Jvm.Cond.instantiable q.1 q.2.2 ∈ wG ∧ Jvm.Cond.initialized q.1 ∈ wG) h hx
theorem c32_ok {own : String} {cd : List (Nat × ARow)} {t : List (Nat × Int64)} (h : ∀ q ∈ t, (∃ w : Int32, q.2.toInt = w.toInt ∧ Jvm.Cond.constant own q.1 w ∈ wG) ∨ cd.all (fun r => decide (r.2.1 ≠ .ldc q.1)) = true) : ∀ pc x nx tg v, lk cd pc = some (.ldc x, nx, tg) → lk t x = some v → ∃ w : Int32, v.toInt = w.toInt ∧ Jvm.Cond.constant own x w ∈ wG := by
  intro pc x nx tg v hc hx
  rcases h _ (lk_mem _ hx) with h1 | h1
  · exact h1
  · have := List.all_eq_true.mp h1 _ (lk_mem _ hc)
    simp at this
theorem c64_ok {own : String} {cd : List (Nat × ARow)} {t : List (Nat × Int64)} (h : ∀ q ∈ t, Jvm.Cond.constantLong own q.1 q.2 ∈ wG ∨ cd.all (fun r => decide (r.2.1 ≠ .ldc2_w q.1)) = true) : ∀ pc x nx tg v, lk cd pc = some (.ldc2_w x, nx, tg) → lk t x = some v → Jvm.Cond.constantLong own x v ∈ wG := by
  intro pc x nx tg v hc hx
  rcases h _ (lk_mem _ hx) with h1 | h1
  · exact h1
  · have := List.all_eq_true.mp h1 _ (lk_mem _ hc)
    simp at this
def anB (cd : List (Nat × ARow)) (x0 : Nat) : Bool := cd.all (fun r => match r.2.1 with
  | .anewarray x => decide (x = x0)
  | _ => true)
theorem an_ok {own : String} {cd : List (Nat × ARow)} (x0 : Nat) (h : anB cd x0 = true) (hw : x0 ≠ 0 → Jvm.Cond.classLink own x0 RX6 ∈ wG) (h0 : x0 = 0 → cd.all (fun r => decide (r.2.1 ≠ .anewarray 0)) = true) : ∀ pc x nx tg, lk cd pc = some (.anewarray x, nx, tg) → Jvm.Cond.classLink own x RX6 ∈ wG := by
  intro pc x nx tg hc
  have h1 := List.all_eq_true.mp h _ (lk_mem _ hc)
  have h1 : x = x0 := of_decide_eq_true h1
  subst h1
  by_cases hz : x = 0
  · have := List.all_eq_true.mp (h0 hz) _ (lk_mem _ hc)
    subst hz
    simp at this
  · exact hw hz
theorem hnd_0 {own : String} {cc : ByteArray} {nL : Nat} : ∀ (i : Nat) a b, ([] : List (Nat × Nat × Nat × Nat × String))[i]? = some a → ([] : List (Nat × Nat × Nat × Nat))[i]? = some b → HndOk own cc nL a b := fun i a b h _ => by simp at h
theorem hnd_1 {own : String} {cc : ByteArray} {nL : Nat} {x : Nat × Nat × Nat × Nat × String} {y : Nat × Nat × Nat × Nat} (h : HndOk own cc nL x y) : ∀ (i : Nat) a b, [x][i]? = some a → [y][i]? = some b → HndOk own cc nL a b := by
  intro i a b h1 h2
  match i with
  | 0 =>
    simp at h1 h2
    subst h1; subst h2
    exact h
  | i + 1 => simp at h1
theorem hnd_2 {own : String} {cc : ByteArray} {nL : Nat} {x x' : Nat × Nat × Nat × Nat × String} {y y' : Nat × Nat × Nat × Nat} (h : HndOk own cc nL x y) (h' : HndOk own cc nL x' y') : ∀ (i : Nat) a b, [x, x'][i]? = some a → [y, y'][i]? = some b → HndOk own cc nL a b := by
  intro i a b h1 h2
  match i with
  | 0 =>
    simp at h1 h2
    subst h1; subst h2
    exact h
  | 1 =>
    simp at h1 h2
    subst h1; subst h2
    exact h'
  | i + 2 => simp at h1
set_option maxRecDepth 20000 in
theorem mr_X0_succeeds : rowsC RX0 cX0_succeeds 10 "succeeds" mi_X0_succeeds = true := by decide +kernel
set_option maxRecDepth 20000 in
theorem mo_X0_succeeds : MOk RX0 cX0_succeeds 10 "succeeds" mi_X0_succeeds [] := ⟨(rows_ok mr_X0_succeeds).1, fld_ok (wG_of [210, 215] (by decide +kernel) (by decide +kernel)) (by decide +kernel), mth_ok (List.forall_mem_cons.mpr ⟨m_1 cal_X0_putsLetter (wG_t4 186 (by decide +kernel) rfl), List.forall_mem_cons.mpr ⟨m_0 cal_X4_changeBar (wG_t4 192 (by decide +kernel) rfl), List.forall_mem_cons.mpr ⟨m_1 cal_X0_fillsEntry (wG_t4 193 (by decide +kernel) rfl), List.forall_mem_cons.mpr ⟨m_1 cal_X0_clearsEntry (wG_t4 198 (by decide +kernel) rfl), List.forall_mem_cons.mpr ⟨m_1 cal_X5_areKept (wG_t4 203 (by decide +kernel) rfl), List.forall_mem_cons.mpr ⟨m_0 cal_X2_count (wG_t4 204 (by decide +kernel) rfl), List.forall_mem_cons.mpr ⟨m_0 cal_X4_hasEntry (wG_t4 201 (by decide +kernel) rfl), List.forall_mem_cons.mpr ⟨m_0 cal_X4_fitCount (wG_t4 205 (by decide +kernel) rfl), List.forall_mem_cons.mpr ⟨m_0 cal_X6_hasCell (wG_t4 189 (by decide +kernel) rfl), List.forall_mem_cons.mpr ⟨m_0 cal_X4_entriesAt (wG_t4 206 (by decide +kernel) rfl), List.forall_mem_nil _⟩⟩⟩⟩⟩⟩⟩⟩⟩⟩), thr_ok (by intro q h; cases h), cls_ok (by intro q h; cases h), c32_ok (by intro q h; cases h), c64_ok (by intro q h; cases h), an_ok 0 (by decide +kernel) (fun h => absurd rfl h) (fun _ => by decide +kernel), (rows_ok mr_X0_succeeds).2, rfl, hnd_0⟩
set_option maxRecDepth 20000 in
theorem ms_X0_succeeds : MStat 0 := ⟨mo_X0_succeeds, by decide +kernel, ret_ok (by decide +kernel)⟩
set_option maxRecDepth 20000 in
theorem mr_X0_putsLetter : rowsC RX0 cX0_putsLetter 4 "putsLetter" mi_X0_putsLetter = true := by decide +kernel
set_option maxRecDepth 20000 in
theorem mo_X0_putsLetter : MOk RX0 cX0_putsLetter 4 "putsLetter" mi_X0_putsLetter [] := ⟨(rows_ok mr_X0_putsLetter).1, fld_ok (wG_of [210] (by decide +kernel) (by decide +kernel)) (by decide +kernel), mth_ok (List.forall_mem_cons.mpr ⟨m_0 cal_X6_hasCell (wG_t4 189 (by decide +kernel) rfl), List.forall_mem_cons.mpr ⟨m_3 cal_X8_isLetter (by decide +kernel), List.forall_mem_cons.mpr ⟨m_0 cal_X6_setLetter (wG_t4 191 (by decide +kernel) rfl), List.forall_mem_nil _⟩⟩⟩), thr_ok (by intro q h; cases h), cls_ok (by intro q h; cases h), c32_ok (by intro q h; cases h), c64_ok (by intro q h; cases h), an_ok 0 (by decide +kernel) (fun h => absurd rfl h) (fun _ => by decide +kernel), (rows_ok mr_X0_putsLetter).2, rfl, hnd_0⟩
set_option maxRecDepth 20000 in
theorem ms_X0_putsLetter : MStat 1 := ⟨mo_X0_putsLetter, by decide +kernel, ret_ok (by decide +kernel)⟩
set_option maxRecDepth 20000 in
theorem mr_X0_fillsEntry : rowsC RX0 cX0_fillsEntry 3 "fillsEntry" mi_X0_fillsEntry = true := by decide +kernel
set_option maxRecDepth 20000 in
theorem mo_X0_fillsEntry : MOk RX0 cX0_fillsEntry 3 "fillsEntry" mi_X0_fillsEntry [] := ⟨(rows_ok mr_X0_fillsEntry).1, fld_ok (wG_of [] (by decide +kernel) (by decide +kernel)) (by decide +kernel), mth_ok (List.forall_mem_cons.mpr ⟨m_0 cal_X4_fitsWord (wG_t4 196 (by decide +kernel) rfl), List.forall_mem_cons.mpr ⟨m_0 cal_X4_fillEntry (wG_t4 197 (by decide +kernel) rfl), List.forall_mem_nil _⟩⟩), thr_ok (by intro q h; cases h), cls_ok (by intro q h; cases h), c32_ok (by intro q h; cases h), c64_ok (by intro q h; cases h), an_ok 0 (by decide +kernel) (fun h => absurd rfl h) (fun _ => by decide +kernel), (rows_ok mr_X0_fillsEntry).2, rfl, hnd_0⟩
set_option maxRecDepth 20000 in
theorem ms_X0_fillsEntry : MStat 2 := ⟨mo_X0_fillsEntry, by decide +kernel, ret_ok (by decide +kernel)⟩
set_option maxRecDepth 20000 in
theorem mr_X0_clearsEntry : rowsC RX0 cX0_clearsEntry 2 "clearsEntry" mi_X0_clearsEntry = true := by decide +kernel
set_option maxRecDepth 20000 in
theorem mo_X0_clearsEntry : MOk RX0 cX0_clearsEntry 2 "clearsEntry" mi_X0_clearsEntry [] := ⟨(rows_ok mr_X0_clearsEntry).1, fld_ok (wG_of [] (by decide +kernel) (by decide +kernel)) (by decide +kernel), mth_ok (List.forall_mem_cons.mpr ⟨m_0 cal_X4_hasEntry (wG_t4 201 (by decide +kernel) rfl), List.forall_mem_cons.mpr ⟨m_0 cal_X4_clearEntry (wG_t4 202 (by decide +kernel) rfl), List.forall_mem_nil _⟩⟩), thr_ok (by intro q h; cases h), cls_ok (by intro q h; cases h), c32_ok (by intro q h; cases h), c64_ok (by intro q h; cases h), an_ok 0 (by decide +kernel) (fun h => absurd rfl h) (fun _ => by decide +kernel), (rows_ok mr_X0_clearsEntry).2, rfl, hnd_0⟩
set_option maxRecDepth 20000 in
theorem ms_X0_clearsEntry : MStat 3 := ⟨mo_X0_clearsEntry, by decide +kernel, ret_ok (by decide +kernel)⟩
set_option maxRecDepth 20000 in
theorem mr_X1_init : rowsC RX1 cX1_init 1 "<init>" mi_X1_init = true := by decide +kernel
set_option maxRecDepth 20000 in
theorem mo_X1_init : MOk RX1 cX1_init 1 "<init>" mi_X1_init [] := ⟨(rows_ok mr_X1_init).1, fld_ok (wG_of [310, 311, 312, 313] (by decide +kernel) (by decide +kernel)) (by decide +kernel), mth_ok (List.forall_mem_cons.mpr ⟨⟨wG_t2 2 (by decide +kernel) rfl, wG_t1 27 (by decide +kernel) rfl, wG_t1 28 rfl rfl⟩, List.forall_mem_nil _⟩), thr_ok (by intro q h; cases h), cls_ok (by intro q h; cases h), c32_ok (by intro q h; cases h), c64_ok (by intro q h; cases h), an_ok 0 (by decide +kernel) (fun h => absurd rfl h) (fun _ => by decide +kernel), (rows_ok mr_X1_init).2, rfl, hnd_0⟩
set_option maxRecDepth 20000 in
theorem ms_X1_init : MStat 4 := ⟨mo_X1_init, by decide +kernel, ret_ok (by decide +kernel)⟩
set_option maxRecDepth 20000 in
theorem mr_X1_count : rowsC RX1 cX1_count 3 "count" mi_X1_count = true := by decide +kernel
set_option maxRecDepth 20000 in
theorem mo_X1_count : MOk RX1 cX1_count 3 "count" mi_X1_count [] := ⟨(rows_ok mr_X1_count).1, fld_ok (wG_of [310, 311, 312, 214, 208, 117] (by decide +kernel) (by decide +kernel)) (by decide +kernel), mth_ok (List.forall_mem_cons.mpr ⟨m_1 cal_X1_wordsThatFit (wG_t2 189 (by decide +kernel) rfl), List.forall_mem_cons.mpr ⟨m_0 cal_X1_giveFrom (wG_t2 215 (by decide +kernel) rfl), List.forall_mem_nil _⟩⟩), thr_ok (by intro q h; cases h), cls_ok (by intro q h; cases h), c32_ok (by intro q h; cases h), c64_ok (by intro q h; cases h), an_ok 0 (by decide +kernel) (fun h => absurd rfl h) (fun _ => by decide +kernel), (rows_ok mr_X1_count).2, rfl, hnd_0⟩
set_option maxRecDepth 20000 in
theorem ms_X1_count : MStat 5 := ⟨mo_X1_count, by decide +kernel, ret_ok (by decide +kernel)⟩
set_option maxRecDepth 20000 in
theorem mr_X1_wordsThatFit : rowsC RX1 cX1_wordsThatFit 4 "wordsThatFit" mi_X1_wordsThatFit = true := by decide +kernel
set_option maxRecDepth 20000 in
theorem mo_X1_wordsThatFit : MOk RX1 cX1_wordsThatFit 4 "wordsThatFit" mi_X1_wordsThatFit [] := ⟨(rows_ok mr_X1_wordsThatFit).1, fld_ok (wG_of [208, 117] (by decide +kernel) (by decide +kernel)) (by decide +kernel), mth_ok (List.forall_mem_cons.mpr ⟨m_0 cal_X4_fitsWord (wG_t2 192 (by decide +kernel) rfl), List.forall_mem_nil _⟩), thr_ok (by intro q h; cases h), cls_ok (by intro q h; cases h), c32_ok (by intro q h; cases h), c64_ok (by intro q h; cases h), an_ok 0 (by decide +kernel) (fun h => absurd rfl h) (fun _ => by decide +kernel), (rows_ok mr_X1_wordsThatFit).2, rfl, hnd_0⟩
set_option maxRecDepth 20000 in
theorem ms_X1_wordsThatFit : MStat 6 := ⟨mo_X1_wordsThatFit, by decide +kernel, ret_ok (by decide +kernel)⟩
set_option maxRecDepth 20000 in
theorem mr_X1_giveFrom : rowsC RX1 cX1_giveFrom 5 "giveFrom" mi_X1_giveFrom = true := by decide +kernel
set_option maxRecDepth 20000 in
theorem mo_X1_giveFrom : MOk RX1 cX1_giveFrom 5 "giveFrom" mi_X1_giveFrom [] := ⟨(rows_ok mr_X1_giveFrom).1, fld_ok (wG_of [310, 311, 312, 214, 208, 117] (by decide +kernel) (by decide +kernel)) (by decide +kernel), mth_ok (List.forall_mem_cons.mpr ⟨m_0 cal_X1_agrees (wG_t2 219 (by decide +kernel) rfl), List.forall_mem_cons.mpr ⟨m_0 cal_X1_give (wG_t2 239 (by decide +kernel) rfl), List.forall_mem_nil _⟩⟩), thr_ok (by intro q h; cases h), cls_ok (by intro q h; cases h), c32_ok (by intro q h; cases h), c64_ok (by intro q h; cases h), an_ok 0 (by decide +kernel) (fun h => absurd rfl h) (fun _ => by decide +kernel), (rows_ok mr_X1_giveFrom).2, rfl, hnd_0⟩
set_option maxRecDepth 20000 in
theorem ms_X1_giveFrom : MStat 7 := ⟨mo_X1_giveFrom, by decide +kernel, ret_ok (by decide +kernel)⟩
set_option maxRecDepth 20000 in
theorem mr_X1_give : rowsC RX1 cX1_give 4 "give" mi_X1_give = true := by decide +kernel
set_option maxRecDepth 20000 in
theorem mo_X1_give : MOk RX1 cX1_give 4 "give" mi_X1_give [] := ⟨(rows_ok mr_X1_give).1, fld_ok (wG_of [311, 313] (by decide +kernel) (by decide +kernel)) (by decide +kernel), mth_ok (List.forall_mem_cons.mpr ⟨m_0 cal_X1_giveFrom (wG_t2 215 (by decide +kernel) rfl), List.forall_mem_nil _⟩), thr_ok (by intro q h; cases h), cls_ok (by intro q h; cases h), c32_ok (by intro q h; cases h), c64_ok (by intro q h; cases h), an_ok 0 (by decide +kernel) (fun h => absurd rfl h) (fun _ => by decide +kernel), (rows_ok mr_X1_give).2, rfl, hnd_0⟩
set_option maxRecDepth 20000 in
theorem ms_X1_give : MStat 8 := ⟨mo_X1_give, by decide +kernel, ret_ok (by decide +kernel)⟩
set_option maxRecDepth 20000 in
theorem mr_X1_agrees : rowsC RX1 cX1_agrees 8 "agrees" mi_X1_agrees = true := by decide +kernel
set_option maxRecDepth 20000 in
theorem mo_X1_agrees : MOk RX1 cX1_agrees 8 "agrees" mi_X1_agrees [] := ⟨(rows_ok mr_X1_agrees).1, fld_ok (wG_of [313, 208] (by decide +kernel) (by decide +kernel)) (by decide +kernel), mth_ok (List.forall_mem_cons.mpr ⟨m_0 cal_X4_lengthOf (wG_t2 223 (by decide +kernel) rfl), List.forall_mem_cons.mpr ⟨m_0 cal_X4_cellOf (wG_t2 224 (by decide +kernel) rfl), List.forall_mem_cons.mpr ⟨m_0 cal_X4_isDown (wG_t2 225 (by decide +kernel) rfl), List.forall_mem_cons.mpr ⟨m_0 cal_X4_entryAt (wG_t2 229 (by decide +kernel) rfl), List.forall_mem_cons.mpr ⟨m_0 cal_X4_indexIn (wG_t2 233 (by decide +kernel) rfl), List.forall_mem_cons.mpr ⟨m_0 cal_X6_letterOfWord (wG_t2 238 (by decide +kernel) rfl), List.forall_mem_nil _⟩⟩⟩⟩⟩⟩), thr_ok (by intro q h; cases h), cls_ok (by intro q h; cases h), c32_ok (by intro q h; cases h), c64_ok (by intro q h; cases h), an_ok 0 (by decide +kernel) (fun h => absurd rfl h) (fun _ => by decide +kernel), (rows_ok mr_X1_agrees).2, rfl, hnd_0⟩
set_option maxRecDepth 20000 in
theorem ms_X1_agrees : MStat 9 := ⟨mo_X1_agrees, by decide +kernel, ret_ok (by decide +kernel)⟩
set_option maxRecDepth 20000 in
theorem mr_X2_init : rowsC RX2 cX2_init 1 "<init>" mi_X2_init = true := by decide +kernel
set_option maxRecDepth 20000 in
theorem mo_X2_init : MOk RX2 cX2_init 1 "<init>" mi_X2_init [] := ⟨(rows_ok mr_X2_init).1, fld_ok (wG_of [282, 283, 284, 285, 286, 287, 288] (by decide +kernel) (by decide +kernel)) (by decide +kernel), mth_ok (List.forall_mem_cons.mpr ⟨⟨wG_t1 214 (by decide +kernel) rfl, wG_t1 27 (by decide +kernel) rfl, wG_t1 28 rfl rfl⟩, List.forall_mem_nil _⟩), thr_ok (by intro q h; cases h), cls_ok (by intro q h; cases h), c32_ok (by intro q h; cases h), c64_ok (by intro q h; cases h), an_ok 0 (by decide +kernel) (fun h => absurd rfl h) (fun _ => by decide +kernel), (rows_ok mr_X2_init).2, rfl, hnd_0⟩
set_option maxRecDepth 20000 in
theorem ms_X2_init : MStat 10 := ⟨mo_X2_init, by decide +kernel, ret_ok (by decide +kernel)⟩
set_option maxRecDepth 20000 in
theorem mr_X2_count : rowsC RX2 cX2_count 5 "count" mi_X2_count = true := by decide +kernel
set_option maxRecDepth 20000 in
theorem mo_X2_count : MOk RX2 cX2_count 5 "count" mi_X2_count [] := ⟨(rows_ok mr_X2_count).1, fld_ok (wG_of [282, 283, 284, 285, 286, 209] (by decide +kernel) (by decide +kernel)) (by decide +kernel), mth_ok (List.forall_mem_cons.mpr ⟨m_0 cal_X6_cells (wG_t2 132 (by decide +kernel) rfl), List.forall_mem_cons.mpr ⟨m_0 cal_X2_visit (wG_t2 133 (by decide +kernel) rfl), List.forall_mem_nil _⟩⟩), thr_ok (by intro q h; cases h), cls_ok (by intro q h; cases h), c32_ok (by intro q h; cases h), c64_ok (by intro q h; cases h), an_ok 0 (by decide +kernel) (fun h => absurd rfl h) (fun _ => by decide +kernel), (rows_ok mr_X2_count).2, rfl, hnd_0⟩
set_option maxRecDepth 20000 in
theorem ms_X2_count : MStat 11 := ⟨mo_X2_count, by decide +kernel, ret_ok (by decide +kernel)⟩
set_option maxRecDepth 20000 in
theorem mr_X2_cellOfFirst : rowsC RX2 cX2_cellOfFirst 2 "cellOfFirst" mi_X2_cellOfFirst = true := by decide +kernel
set_option maxRecDepth 20000 in
theorem mo_X2_cellOfFirst : MOk RX2 cX2_cellOfFirst 2 "cellOfFirst" mi_X2_cellOfFirst [] := ⟨(rows_ok mr_X2_cellOfFirst).1, fld_ok (wG_of [285, 288] (by decide +kernel) (by decide +kernel)) (by decide +kernel), mth_ok (by intro q h; cases h), thr_ok (by intro q h; cases h), cls_ok (by intro q h; cases h), c32_ok (by intro q h; cases h), c64_ok (by intro q h; cases h), an_ok 0 (by decide +kernel) (fun h => absurd rfl h) (fun _ => by decide +kernel), (rows_ok mr_X2_cellOfFirst).2, rfl, hnd_0⟩
set_option maxRecDepth 20000 in
theorem ms_X2_cellOfFirst : MStat 12 := ⟨mo_X2_cellOfFirst, by decide +kernel, ret_ok (by decide +kernel)⟩
set_option maxRecDepth 20000 in
theorem mr_X2_visit : rowsC RX2 cX2_visit 5 "visit" mi_X2_visit = true := by decide +kernel
set_option maxRecDepth 20000 in
theorem mo_X2_visit : MOk RX2 cX2_visit 5 "visit" mi_X2_visit [] := ⟨(rows_ok mr_X2_visit).1, fld_ok (wG_of [283, 284, 286, 287, 209, 122] (by decide +kernel) (by decide +kernel)) (by decide +kernel), mth_ok (List.forall_mem_cons.mpr ⟨m_0 cal_X2_isAllowed (wG_t2 137 (by decide +kernel) rfl), List.forall_mem_cons.mpr ⟨m_0 cal_X2_keepPath (wG_t2 153 (by decide +kernel) rfl), List.forall_mem_cons.mpr ⟨m_0 cal_X2_visitBehind (wG_t2 160 (by decide +kernel) rfl), List.forall_mem_nil _⟩⟩⟩), thr_ok (by intro q h; cases h), cls_ok (by intro q h; cases h), c32_ok (List.forall_mem_cons.mpr ⟨Or.inr (by decide +kernel), List.forall_mem_nil _⟩), c64_ok (List.forall_mem_cons.mpr ⟨Or.inl (wG_t2 176 (by decide +kernel) rfl), List.forall_mem_nil _⟩), an_ok 0 (by decide +kernel) (fun h => absurd rfl h) (fun _ => by decide +kernel), (rows_ok mr_X2_visit).2, rfl, hnd_0⟩
set_option maxRecDepth 20000 in
theorem ms_X2_visit : MStat 13 := ⟨mo_X2_visit, by decide +kernel, ret_ok (by decide +kernel)⟩
set_option maxRecDepth 20000 in
theorem mr_X2_visitBehind : rowsC RX2 cX2_visitBehind 8 "visitBehind" mi_X2_visitBehind = true := by decide +kernel
set_option maxRecDepth 20000 in
theorem mo_X2_visitBehind : MOk RX2 cX2_visitBehind 8 "visitBehind" mi_X2_visitBehind [] := ⟨(rows_ok mr_X2_visitBehind).1, fld_ok (wG_of [209, 109, 114] (by decide +kernel) (by decide +kernel)) (by decide +kernel), mth_ok (List.forall_mem_cons.mpr ⟨m_0 cal_X2_visit (wG_t2 133 (by decide +kernel) rfl), List.forall_mem_cons.mpr ⟨m_0 cal_X6_rowOf (wG_t2 168 (by decide +kernel) rfl), List.forall_mem_cons.mpr ⟨m_0 cal_X6_columnOf (wG_t2 172 (by decide +kernel) rfl), List.forall_mem_nil _⟩⟩⟩), thr_ok (by intro q h; cases h), cls_ok (by intro q h; cases h), c32_ok (by intro q h; cases h), c64_ok (by intro q h; cases h), an_ok 0 (by decide +kernel) (fun h => absurd rfl h) (fun _ => by decide +kernel), (rows_ok mr_X2_visitBehind).2, rfl, hnd_0⟩
set_option maxRecDepth 20000 in
theorem ms_X2_visitBehind : MStat 14 := ⟨mo_X2_visitBehind, by decide +kernel, ret_ok (by decide +kernel)⟩
set_option maxRecDepth 20000 in
theorem mr_X2_isAllowed : rowsC RX2 cX2_isAllowed 5 "isAllowed" mi_X2_isAllowed = true := by decide +kernel
set_option maxRecDepth 20000 in
theorem mo_X2_isAllowed : MOk RX2 cX2_isAllowed 5 "isAllowed" mi_X2_isAllowed [] := ⟨(rows_ok mr_X2_isAllowed).1, fld_ok (wG_of [282, 286, 209] (by decide +kernel) (by decide +kernel)) (by decide +kernel), mth_ok (List.forall_mem_cons.mpr ⟨m_0 cal_X4_entriesAt (wG_t2 141 (by decide +kernel) rfl), List.forall_mem_cons.mpr ⟨m_0 cal_X6_letterAt (wG_t2 145 (by decide +kernel) rfl), List.forall_mem_cons.mpr ⟨m_0 cal_X6_letterOfLine (wG_t2 149 (by decide +kernel) rfl), List.forall_mem_nil _⟩⟩⟩), thr_ok (by intro q h; cases h), cls_ok (by intro q h; cases h), c32_ok (by intro q h; cases h), c64_ok (by intro q h; cases h), an_ok 0 (by decide +kernel) (fun h => absurd rfl h) (fun _ => by decide +kernel), (rows_ok mr_X2_isAllowed).2, rfl, hnd_0⟩
set_option maxRecDepth 20000 in
theorem ms_X2_isAllowed : MStat 15 := ⟨mo_X2_isAllowed, by decide +kernel, ret_ok (by decide +kernel)⟩
set_option maxRecDepth 20000 in
theorem mr_X2_keepPath : rowsC RX2 cX2_keepPath 2 "keepPath" mi_X2_keepPath = true := by decide +kernel
set_option maxRecDepth 20000 in
theorem mo_X2_keepPath : MOk RX2 cX2_keepPath 2 "keepPath" mi_X2_keepPath [] := ⟨(rows_ok mr_X2_keepPath).1, fld_ok (wG_of [284, 285, 287, 288] (by decide +kernel) (by decide +kernel)) (by decide +kernel), mth_ok (List.forall_mem_cons.mpr ⟨⟨wG_t2 157 (by decide +kernel) rfl, wG_t2 159 (by decide +kernel) rfl, wG_t2 158 (by decide +kernel) rfl, wG_t1 15 (by decide +kernel) rfl⟩, List.forall_mem_nil _⟩), thr_ok (by intro q h; cases h), cls_ok (by intro q h; cases h), c32_ok (by intro q h; cases h), c64_ok (by intro q h; cases h), an_ok 0 (by decide +kernel) (fun h => absurd rfl h) (fun _ => by decide +kernel), (rows_ok mr_X2_keepPath).2, rfl, hnd_0⟩
set_option maxRecDepth 20000 in
theorem ms_X2_keepPath : MStat 16 := ⟨mo_X2_keepPath, by decide +kernel, ret_ok (by decide +kernel)⟩
set_option maxRecDepth 20000 in
theorem mr_X3_init : rowsC RX3 cX3_init 2 "<init>" mi_X3_init = true := by decide +kernel
set_option maxRecDepth 20000 in
theorem mo_X3_init : MOk RX3 cX3_init 2 "<init>" mi_X3_init [] := ⟨(rows_ok mr_X3_init).1, fld_ok (wG_of [259, 261, 262, 263, 264] (by decide +kernel) (by decide +kernel)) (by decide +kernel), mth_ok (List.forall_mem_cons.mpr ⟨⟨wG_t1 188 (by decide +kernel) rfl, wG_t1 27 (by decide +kernel) rfl, wG_t1 28 rfl rfl⟩, List.forall_mem_cons.mpr ⟨m_4 cal_X6_init (by decide +kernel), List.forall_mem_nil _⟩⟩), thr_ok (by intro q h; cases h), cls_ok (List.forall_mem_cons.mpr ⟨⟨_, rfl, wG_t1 189 (by decide +kernel) rfl, wG_t1 36 (by decide +kernel) rfl, wG_t1 3 (by decide +kernel) rfl⟩, List.forall_mem_nil _⟩), c32_ok (by intro q h; cases h), c64_ok (by intro q h; cases h), an_ok 18 (by decide +kernel) (fun _ => wG_t1 189 (by decide +kernel) rfl) (fun h => by cases h), (rows_ok mr_X3_init).2, rfl, hnd_0⟩
set_option maxRecDepth 20000 in
theorem ms_X3_init : MStat 17 := ⟨mo_X3_init, by decide +kernel, ret_ok (by decide +kernel)⟩
set_option maxRecDepth 20000 in
theorem mr_X3_remember : rowsC RX3 cX3_remember 2 "remember" mi_X3_remember = true := by decide +kernel
set_option maxRecDepth 20000 in
theorem mo_X3_remember : MOk RX3 cX3_remember 2 "remember" mi_X3_remember [] := ⟨(rows_ok mr_X3_remember).1, fld_ok (wG_of [259, 261] (by decide +kernel) (by decide +kernel)) (by decide +kernel), mth_ok (List.forall_mem_cons.mpr ⟨m_0 cal_X3_at (wG_t4 91 (by decide +kernel) rfl), List.forall_mem_cons.mpr ⟨m_0 cal_X6_copyFrom (wG_t4 98 (by decide +kernel) rfl), List.forall_mem_nil _⟩⟩), thr_ok (by intro q h; cases h), cls_ok (by intro q h; cases h), c32_ok (by intro q h; cases h), c64_ok (by intro q h; cases h), an_ok 0 (by decide +kernel) (fun h => absurd rfl h) (fun _ => by decide +kernel), (rows_ok mr_X3_remember).2, rfl, hnd_0⟩
set_option maxRecDepth 20000 in
theorem ms_X3_remember : MStat 18 := ⟨mo_X3_remember, by decide +kernel, ret_ok (by decide +kernel)⟩
set_option maxRecDepth 20000 in
theorem mr_X3_takeLast : rowsC RX3 cX3_takeLast 1 "takeLast" mi_X3_takeLast = true := by decide +kernel
set_option maxRecDepth 20000 in
theorem mo_X3_takeLast : MOk RX3 cX3_takeLast 1 "takeLast" mi_X3_takeLast [] := ⟨(rows_ok mr_X3_takeLast).1, fld_ok (wG_of [259] (by decide +kernel) (by decide +kernel)) (by decide +kernel), mth_ok (List.forall_mem_cons.mpr ⟨m_0 cal_X3_at (wG_t4 91 (by decide +kernel) rfl), List.forall_mem_nil _⟩), thr_ok (by intro q h; cases h), cls_ok (by intro q h; cases h), c32_ok (by intro q h; cases h), c64_ok (by intro q h; cases h), an_ok 0 (by decide +kernel) (fun h => absurd rfl h) (fun _ => by decide +kernel), (rows_ok mr_X3_takeLast).2, rfl, hnd_0⟩
set_option maxRecDepth 20000 in
theorem ms_X3_takeLast : MStat 19 := ⟨mo_X3_takeLast, by decide +kernel, ret_ok (by decide +kernel)⟩
set_option maxRecDepth 20000 in
theorem mr_X3_forgetActions : rowsC RX3 cX3_forgetActions 1 "forgetActions" mi_X3_forgetActions = true := by decide +kernel
set_option maxRecDepth 20000 in
theorem mo_X3_forgetActions : MOk RX3 cX3_forgetActions 1 "forgetActions" mi_X3_forgetActions [] := ⟨(rows_ok mr_X3_forgetActions).1, fld_ok (wG_of [259] (by decide +kernel) (by decide +kernel)) (by decide +kernel), mth_ok (by intro q h; cases h), thr_ok (by intro q h; cases h), cls_ok (by intro q h; cases h), c32_ok (by intro q h; cases h), c64_ok (by intro q h; cases h), an_ok 0 (by decide +kernel) (fun h => absurd rfl h) (fun _ => by decide +kernel), (rows_ok mr_X3_forgetActions).2, rfl, hnd_0⟩
set_option maxRecDepth 20000 in
theorem ms_X3_forgetActions : MStat 20 := ⟨mo_X3_forgetActions, by decide +kernel, ret_ok (by decide +kernel)⟩
set_option maxRecDepth 20000 in
theorem mr_X3_at : rowsC RX3 cX3_at 2 "at" mi_X3_at = true := by decide +kernel
set_option maxRecDepth 20000 in
theorem mo_X3_at : MOk RX3 cX3_at 2 "at" mi_X3_at [] := ⟨(rows_ok mr_X3_at).1, fld_ok (wG_of [261, 262] (by decide +kernel) (by decide +kernel)) (by decide +kernel), mth_ok (List.forall_mem_cons.mpr ⟨m_1 cal_J9_floorMod_7cf53 (wG_t4 95 (by decide +kernel) rfl), List.forall_mem_nil _⟩), thr_ok (by intro q h; cases h), cls_ok (by intro q h; cases h), c32_ok (by intro q h; cases h), c64_ok (by intro q h; cases h), an_ok 0 (by decide +kernel) (fun h => absurd rfl h) (fun _ => by decide +kernel), (rows_ok mr_X3_at).2, rfl, hnd_0⟩
set_option maxRecDepth 20000 in
theorem ms_X3_at : MStat 21 := ⟨mo_X3_at, by decide +kernel, ret_ok (by decide +kernel)⟩
set_option maxRecDepth 20000 in
theorem mr_X3_store : rowsC RX3 cX3_store 3 "store" mi_X3_store = true := by decide +kernel
set_option maxRecDepth 20000 in
theorem mo_X3_store : MOk RX3 cX3_store 3 "store" mi_X3_store [] := ⟨(rows_ok mr_X3_store).1, fld_ok (wG_of [263, 264] (by decide +kernel) (by decide +kernel)) (by decide +kernel), mth_ok (List.forall_mem_cons.mpr ⟨m_0 cal_X6_copyFrom (wG_t4 98 (by decide +kernel) rfl), List.forall_mem_nil _⟩), thr_ok (by intro q h; cases h), cls_ok (by intro q h; cases h), c32_ok (by intro q h; cases h), c64_ok (by intro q h; cases h), an_ok 0 (by decide +kernel) (fun h => absurd rfl h) (fun _ => by decide +kernel), (rows_ok mr_X3_store).2, rfl, hnd_0⟩
set_option maxRecDepth 20000 in
theorem ms_X3_store : MStat 22 := ⟨mo_X3_store, by decide +kernel, ret_ok (by decide +kernel)⟩
set_option maxRecDepth 20000 in
theorem mr_X3_isStored : rowsC RX3 cX3_isStored 2 "isStored" mi_X3_isStored = true := by decide +kernel
set_option maxRecDepth 20000 in
theorem mo_X3_isStored : MOk RX3 cX3_isStored 2 "isStored" mi_X3_isStored [] := ⟨(rows_ok mr_X3_isStored).1, fld_ok (wG_of [264] (by decide +kernel) (by decide +kernel)) (by decide +kernel), mth_ok (by intro q h; cases h), thr_ok (by intro q h; cases h), cls_ok (by intro q h; cases h), c32_ok (by intro q h; cases h), c64_ok (by intro q h; cases h), an_ok 0 (by decide +kernel) (fun h => absurd rfl h) (fun _ => by decide +kernel), (rows_ok mr_X3_isStored).2, rfl, hnd_0⟩
set_option maxRecDepth 20000 in
theorem ms_X3_isStored : MStat 23 := ⟨mo_X3_isStored, by decide +kernel, ret_ok (by decide +kernel)⟩
set_option maxRecDepth 20000 in
theorem mr_X3_stored : rowsC RX3 cX3_stored 2 "stored" mi_X3_stored = true := by decide +kernel
set_option maxRecDepth 20000 in
theorem mo_X3_stored : MOk RX3 cX3_stored 2 "stored" mi_X3_stored [] := ⟨(rows_ok mr_X3_stored).1, fld_ok (wG_of [263] (by decide +kernel) (by decide +kernel)) (by decide +kernel), mth_ok (by intro q h; cases h), thr_ok (by intro q h; cases h), cls_ok (by intro q h; cases h), c32_ok (by intro q h; cases h), c64_ok (by intro q h; cases h), an_ok 0 (by decide +kernel) (fun h => absurd rfl h) (fun _ => by decide +kernel), (rows_ok mr_X3_stored).2, rfl, hnd_0⟩
set_option maxRecDepth 20000 in
theorem ms_X3_stored : MStat 24 := ⟨mo_X3_stored, by decide +kernel, ret_ok (by decide +kernel)⟩
set_option maxRecDepth 20000 in
theorem mr_X3_emptySlots : rowsC RX3 cX3_emptySlots 2 "emptySlots" mi_X3_emptySlots = true := by decide +kernel
set_option maxRecDepth 20000 in
theorem mo_X3_emptySlots : MOk RX3 cX3_emptySlots 2 "emptySlots" mi_X3_emptySlots [] := ⟨(rows_ok mr_X3_emptySlots).1, fld_ok (wG_of [264] (by decide +kernel) (by decide +kernel)) (by decide +kernel), mth_ok (by intro q h; cases h), thr_ok (by intro q h; cases h), cls_ok (by intro q h; cases h), c32_ok (by intro q h; cases h), c64_ok (by intro q h; cases h), an_ok 0 (by decide +kernel) (fun h => absurd rfl h) (fun _ => by decide +kernel), (rows_ok mr_X3_emptySlots).2, rfl, hnd_0⟩
set_option maxRecDepth 20000 in
theorem ms_X3_emptySlots : MStat 25 := ⟨mo_X3_emptySlots, by decide +kernel, ret_ok (by decide +kernel)⟩
set_option maxRecDepth 20000 in
theorem mr_X4_init : rowsC RX4 cX4_init 1 "<init>" mi_X4_init = true := by decide +kernel
set_option maxRecDepth 20000 in
theorem mo_X4_init : MOk RX4 cX4_init 1 "<init>" mi_X4_init [] := ⟨(rows_ok mr_X4_init).1, fld_ok (wG_of [207, 213, 218, 220, 222, 223, 224, 225, 226, 227] (by decide +kernel) (by decide +kernel)) (by decide +kernel), mth_ok (List.forall_mem_cons.mpr ⟨⟨wG_t1 106 (by decide +kernel) rfl, wG_t1 27 (by decide +kernel) rfl, wG_t1 28 rfl rfl⟩, List.forall_mem_cons.mpr ⟨m_4 cal_X6_init (by decide +kernel), List.forall_mem_cons.mpr ⟨m_0 cal_X4_layOut (wG_t1 109 (by decide +kernel) rfl), List.forall_mem_nil _⟩⟩⟩), thr_ok (by intro q h; cases h), cls_ok (List.forall_mem_cons.mpr ⟨⟨_, rfl, wG_t1 107 (by decide +kernel) rfl, wG_t1 36 (by decide +kernel) rfl, wG_t1 3 (by decide +kernel) rfl⟩, List.forall_mem_nil _⟩), c32_ok (by intro q h; cases h), c64_ok (by intro q h; cases h), an_ok 0 (by decide +kernel) (fun h => absurd rfl h) (fun _ => by decide +kernel), (rows_ok mr_X4_init).2, rfl, hnd_0⟩
set_option maxRecDepth 20000 in
theorem ms_X4_init : MStat 26 := ⟨mo_X4_init, by decide +kernel, ret_ok (by decide +kernel)⟩
set_option maxRecDepth 20000 in
theorem mr_X4_take : rowsC RX4 cX4_take 2 "take" mi_X4_take = true := by decide +kernel
set_option maxRecDepth 20000 in
theorem mo_X4_take : MOk RX4 cX4_take 2 "take" mi_X4_take [] := ⟨(rows_ok mr_X4_take).1, fld_ok (wG_of [207] (by decide +kernel) (by decide +kernel)) (by decide +kernel), mth_ok (List.forall_mem_cons.mpr ⟨m_0 cal_X4_layOut (wG_t1 109 (by decide +kernel) rfl), List.forall_mem_cons.mpr ⟨m_0 cal_X6_copyFrom (wG_t3 11 (by decide +kernel) rfl), List.forall_mem_nil _⟩⟩), thr_ok (by intro q h; cases h), cls_ok (by intro q h; cases h), c32_ok (by intro q h; cases h), c64_ok (by intro q h; cases h), an_ok 0 (by decide +kernel) (fun h => absurd rfl h) (fun _ => by decide +kernel), (rows_ok mr_X4_take).2, rfl, hnd_0⟩
set_option maxRecDepth 20000 in
theorem ms_X4_take : MStat 27 := ⟨mo_X4_take, by decide +kernel, ret_ok (by decide +kernel)⟩
set_option maxRecDepth 20000 in
theorem mr_X4_changeBar : rowsC RX4 cX4_changeBar 4 "changeBar" mi_X4_changeBar = true := by decide +kernel
set_option maxRecDepth 20000 in
theorem mo_X4_changeBar : MOk RX4 cX4_changeBar 4 "changeBar" mi_X4_changeBar [] := ⟨(rows_ok mr_X4_changeBar).1, fld_ok (wG_of [207] (by decide +kernel) (by decide +kernel)) (by decide +kernel), mth_ok (List.forall_mem_cons.mpr ⟨m_0 cal_X4_layOut (wG_t1 109 (by decide +kernel) rfl), List.forall_mem_cons.mpr ⟨m_0 cal_X6_isPlace (wG_t3 65 (by decide +kernel) rfl), List.forall_mem_cons.mpr ⟨m_0 cal_X6_drawBar (wG_t3 66 (by decide +kernel) rfl), List.forall_mem_nil _⟩⟩⟩), thr_ok (by intro q h; cases h), cls_ok (by intro q h; cases h), c32_ok (by intro q h; cases h), c64_ok (by intro q h; cases h), an_ok 0 (by decide +kernel) (fun h => absurd rfl h) (fun _ => by decide +kernel), (rows_ok mr_X4_changeBar).2, rfl, hnd_0⟩
set_option maxRecDepth 20000 in
theorem ms_X4_changeBar : MStat 28 := ⟨mo_X4_changeBar, by decide +kernel, ret_ok (by decide +kernel)⟩
set_option maxRecDepth 20000 in
theorem mr_X4_layOut : rowsC RX4 cX4_layOut 4 "layOut" mi_X4_layOut = true := by decide +kernel
set_option maxRecDepth 20000 in
theorem mo_X4_layOut : MOk RX4 cX4_layOut 4 "layOut" mi_X4_layOut [] := ⟨(rows_ok mr_X4_layOut).1, fld_ok (wG_of [207, 213, 218, 220, 225, 226, 227, 113] (by decide +kernel) (by decide +kernel)) (by decide +kernel), mth_ok (List.forall_mem_cons.mpr ⟨m_1 cal_J7_fill_53178 (wG_t1 113 (by decide +kernel) rfl), List.forall_mem_cons.mpr ⟨m_0 cal_X6_cells (wG_t1 116 (by decide +kernel) rfl), List.forall_mem_cons.mpr ⟨m_0 cal_X6_isJoined (wG_t1 120 (by decide +kernel) rfl), List.forall_mem_cons.mpr ⟨m_0 cal_X4_addEntry (wG_t1 132 (by decide +kernel) rfl), List.forall_mem_nil _⟩⟩⟩⟩), thr_ok (by intro q h; cases h), cls_ok (by intro q h; cases h), c32_ok (by intro q h; cases h), c64_ok (by intro q h; cases h), an_ok 0 (by decide +kernel) (fun h => absurd rfl h) (fun _ => by decide +kernel), (rows_ok mr_X4_layOut).2, rfl, hnd_0⟩
set_option maxRecDepth 20000 in
theorem ms_X4_layOut : MStat 29 := ⟨mo_X4_layOut, by decide +kernel, ret_ok (by decide +kernel)⟩
set_option maxRecDepth 20000 in
theorem mr_X4_addEntry : rowsC RX4 cX4_addEntry 9 "addEntry" mi_X4_addEntry = true := by decide +kernel
set_option maxRecDepth 20000 in
theorem mo_X4_addEntry : MOk RX4 cX4_addEntry 9 "addEntry" mi_X4_addEntry [] := ⟨(rows_ok mr_X4_addEntry).1, fld_ok (wG_of [207, 213, 222, 223, 224, 225, 226, 113] (by decide +kernel) (by decide +kernel)) (by decide +kernel), mth_ok (List.forall_mem_cons.mpr ⟨m_0 cal_X6_isJoined (wG_t1 120 (by decide +kernel) rfl), List.forall_mem_cons.mpr ⟨m_0 cal_X6_hasCell (wG_t1 136 (by decide +kernel) rfl), List.forall_mem_nil _⟩⟩), thr_ok (by intro q h; cases h), cls_ok (by intro q h; cases h), c32_ok (by intro q h; cases h), c64_ok (by intro q h; cases h), an_ok 0 (by decide +kernel) (fun h => absurd rfl h) (fun _ => by decide +kernel), (rows_ok mr_X4_addEntry).2, rfl, hnd_0⟩
set_option maxRecDepth 20000 in
theorem ms_X4_addEntry : MStat 30 := ⟨mo_X4_addEntry, by decide +kernel, ret_ok (by decide +kernel)⟩
set_option maxRecDepth 20000 in
theorem mr_X4_hasEntry : rowsC RX4 cX4_hasEntry 2 "hasEntry" mi_X4_hasEntry = true := by decide +kernel
set_option maxRecDepth 20000 in
theorem mo_X4_hasEntry : MOk RX4 cX4_hasEntry 2 "hasEntry" mi_X4_hasEntry [] := ⟨(rows_ok mr_X4_hasEntry).1, fld_ok (wG_of [213] (by decide +kernel) (by decide +kernel)) (by decide +kernel), mth_ok (by intro q h; cases h), thr_ok (by intro q h; cases h), cls_ok (by intro q h; cases h), c32_ok (by intro q h; cases h), c64_ok (by intro q h; cases h), an_ok 0 (by decide +kernel) (fun h => absurd rfl h) (fun _ => by decide +kernel), (rows_ok mr_X4_hasEntry).2, rfl, hnd_0⟩
set_option maxRecDepth 20000 in
theorem ms_X4_hasEntry : MStat 31 := ⟨mo_X4_hasEntry, by decide +kernel, ret_ok (by decide +kernel)⟩
set_option maxRecDepth 20000 in
theorem mr_X4_isDown : rowsC RX4 cX4_isDown 2 "isDown" mi_X4_isDown = true := by decide +kernel
set_option maxRecDepth 20000 in
theorem mo_X4_isDown : MOk RX4 cX4_isDown 2 "isDown" mi_X4_isDown [] := ⟨(rows_ok mr_X4_isDown).1, fld_ok (wG_of [224] (by decide +kernel) (by decide +kernel)) (by decide +kernel), mth_ok (List.forall_mem_cons.mpr ⟨m_0 cal_X4_hasEntry (wG_t2 196 (by decide +kernel) rfl), List.forall_mem_nil _⟩), thr_ok (by intro q h; cases h), cls_ok (by intro q h; cases h), c32_ok (by intro q h; cases h), c64_ok (by intro q h; cases h), an_ok 0 (by decide +kernel) (fun h => absurd rfl h) (fun _ => by decide +kernel), (rows_ok mr_X4_isDown).2, rfl, hnd_0⟩
set_option maxRecDepth 20000 in
theorem ms_X4_isDown : MStat 32 := ⟨mo_X4_isDown, by decide +kernel, ret_ok (by decide +kernel)⟩
set_option maxRecDepth 20000 in
theorem mr_X4_lengthOf : rowsC RX4 cX4_lengthOf 2 "lengthOf" mi_X4_lengthOf = true := by decide +kernel
set_option maxRecDepth 20000 in
theorem mo_X4_lengthOf : MOk RX4 cX4_lengthOf 2 "lengthOf" mi_X4_lengthOf [] := ⟨(rows_ok mr_X4_lengthOf).1, fld_ok (wG_of [223] (by decide +kernel) (by decide +kernel)) (by decide +kernel), mth_ok (List.forall_mem_cons.mpr ⟨m_0 cal_X4_hasEntry (wG_t2 196 (by decide +kernel) rfl), List.forall_mem_nil _⟩), thr_ok (by intro q h; cases h), cls_ok (by intro q h; cases h), c32_ok (by intro q h; cases h), c64_ok (by intro q h; cases h), an_ok 0 (by decide +kernel) (fun h => absurd rfl h) (fun _ => by decide +kernel), (rows_ok mr_X4_lengthOf).2, rfl, hnd_0⟩
set_option maxRecDepth 20000 in
theorem ms_X4_lengthOf : MStat 33 := ⟨mo_X4_lengthOf, by decide +kernel, ret_ok (by decide +kernel)⟩
set_option maxRecDepth 20000 in
theorem mr_X4_cellOf : rowsC RX4 cX4_cellOf 3 "cellOf" mi_X4_cellOf = true := by decide +kernel
set_option maxRecDepth 20000 in
theorem mo_X4_cellOf : MOk RX4 cX4_cellOf 3 "cellOf" mi_X4_cellOf [] := ⟨(rows_ok mr_X4_cellOf).1, fld_ok (wG_of [207, 222, 224, 113] (by decide +kernel) (by decide +kernel)) (by decide +kernel), mth_ok (List.forall_mem_cons.mpr ⟨m_0 cal_X4_hasEntry (wG_t2 196 (by decide +kernel) rfl), List.forall_mem_nil _⟩), thr_ok (by intro q h; cases h), cls_ok (by intro q h; cases h), c32_ok (by intro q h; cases h), c64_ok (by intro q h; cases h), an_ok 0 (by decide +kernel) (fun h => absurd rfl h) (fun _ => by decide +kernel), (rows_ok mr_X4_cellOf).2, rfl, hnd_0⟩
set_option maxRecDepth 20000 in
theorem ms_X4_cellOf : MStat 34 := ⟨mo_X4_cellOf, by decide +kernel, ret_ok (by decide +kernel)⟩
set_option maxRecDepth 20000 in
theorem mr_X4_indexIn : rowsC RX4 cX4_indexIn 3 "indexIn" mi_X4_indexIn = true := by decide +kernel
set_option maxRecDepth 20000 in
theorem mo_X4_indexIn : MOk RX4 cX4_indexIn 3 "indexIn" mi_X4_indexIn [] := ⟨(rows_ok mr_X4_indexIn).1, fld_ok (wG_of [207, 222, 224] (by decide +kernel) (by decide +kernel)) (by decide +kernel), mth_ok (List.forall_mem_cons.mpr ⟨m_0 cal_X4_hasEntry (wG_t2 196 (by decide +kernel) rfl), List.forall_mem_cons.mpr ⟨m_0 cal_X6_rowOf (wG_t2 237 (by decide +kernel) rfl), List.forall_mem_nil _⟩⟩), thr_ok (by intro q h; cases h), cls_ok (by intro q h; cases h), c32_ok (by intro q h; cases h), c64_ok (by intro q h; cases h), an_ok 0 (by decide +kernel) (fun h => absurd rfl h) (fun _ => by decide +kernel), (rows_ok mr_X4_indexIn).2, rfl, hnd_0⟩
set_option maxRecDepth 20000 in
theorem ms_X4_indexIn : MStat 35 := ⟨mo_X4_indexIn, by decide +kernel, ret_ok (by decide +kernel)⟩
set_option maxRecDepth 20000 in
theorem mr_X4_entryAt : rowsC RX4 cX4_entryAt 3 "entryAt" mi_X4_entryAt = true := by decide +kernel
set_option maxRecDepth 20000 in
theorem mo_X4_entryAt : MOk RX4 cX4_entryAt 3 "entryAt" mi_X4_entryAt [] := ⟨(rows_ok mr_X4_entryAt).1, fld_ok (wG_of [207, 225, 226] (by decide +kernel) (by decide +kernel)) (by decide +kernel), mth_ok (List.forall_mem_cons.mpr ⟨m_0 cal_X6_hasCell (wG_t1 136 (by decide +kernel) rfl), List.forall_mem_nil _⟩), thr_ok (by intro q h; cases h), cls_ok (by intro q h; cases h), c32_ok (by intro q h; cases h), c64_ok (by intro q h; cases h), an_ok 0 (by decide +kernel) (fun h => absurd rfl h) (fun _ => by decide +kernel), (rows_ok mr_X4_entryAt).2, rfl, hnd_0⟩
set_option maxRecDepth 20000 in
theorem ms_X4_entryAt : MStat 36 := ⟨mo_X4_entryAt, by decide +kernel, ret_ok (by decide +kernel)⟩
set_option maxRecDepth 20000 in
theorem mr_X4_clueAt : rowsC RX4 cX4_clueAt 2 "clueAt" mi_X4_clueAt = true := by decide +kernel
set_option maxRecDepth 20000 in
theorem mo_X4_clueAt : MOk RX4 cX4_clueAt 2 "clueAt" mi_X4_clueAt [] := ⟨(rows_ok mr_X4_clueAt).1, fld_ok (wG_of [207, 227] (by decide +kernel) (by decide +kernel)) (by decide +kernel), mth_ok (List.forall_mem_cons.mpr ⟨m_0 cal_X6_hasCell (wG_t1 136 (by decide +kernel) rfl), List.forall_mem_nil _⟩), thr_ok (by intro q h; cases h), cls_ok (by intro q h; cases h), c32_ok (by intro q h; cases h), c64_ok (by intro q h; cases h), an_ok 0 (by decide +kernel) (fun h => absurd rfl h) (fun _ => by decide +kernel), (rows_ok mr_X4_clueAt).2, rfl, hnd_0⟩
set_option maxRecDepth 20000 in
theorem ms_X4_clueAt : MStat 37 := ⟨mo_X4_clueAt, by decide +kernel, ret_ok (by decide +kernel)⟩
set_option maxRecDepth 20000 in
theorem mr_X4_entriesAt : rowsC RX4 cX4_entriesAt 2 "entriesAt" mi_X4_entriesAt = true := by decide +kernel
set_option maxRecDepth 20000 in
theorem mo_X4_entriesAt : MOk RX4 cX4_entriesAt 2 "entriesAt" mi_X4_entriesAt [] := ⟨(rows_ok mr_X4_entriesAt).1, fld_ok (wG_of [207, 225, 226] (by decide +kernel) (by decide +kernel)) (by decide +kernel), mth_ok (List.forall_mem_cons.mpr ⟨m_0 cal_X6_hasCell (wG_t1 136 (by decide +kernel) rfl), List.forall_mem_nil _⟩), thr_ok (by intro q h; cases h), cls_ok (by intro q h; cases h), c32_ok (by intro q h; cases h), c64_ok (by intro q h; cases h), an_ok 0 (by decide +kernel) (fun h => absurd rfl h) (fun _ => by decide +kernel), (rows_ok mr_X4_entriesAt).2, rfl, hnd_0⟩
set_option maxRecDepth 20000 in
theorem ms_X4_entriesAt : MStat 38 := ⟨mo_X4_entriesAt, by decide +kernel, ret_ok (by decide +kernel)⟩
set_option maxRecDepth 20000 in
theorem mr_X4_cellsInEntries : rowsC RX4 cX4_cellsInEntries 4 "cellsInEntries" mi_X4_cellsInEntries = true := by decide +kernel
set_option maxRecDepth 20000 in
theorem mo_X4_cellsInEntries : MOk RX4 cX4_cellsInEntries 4 "cellsInEntries" mi_X4_cellsInEntries [] := ⟨(rows_ok mr_X4_cellsInEntries).1, fld_ok (wG_of [207] (by decide +kernel) (by decide +kernel)) (by decide +kernel), mth_ok (List.forall_mem_cons.mpr ⟨m_0 cal_X6_cells (wG_t1 116 (by decide +kernel) rfl), List.forall_mem_cons.mpr ⟨m_0 cal_X4_entriesAt (wG_t3 31 (by decide +kernel) rfl), List.forall_mem_nil _⟩⟩), thr_ok (by intro q h; cases h), cls_ok (by intro q h; cases h), c32_ok (by intro q h; cases h), c64_ok (by intro q h; cases h), an_ok 0 (by decide +kernel) (fun h => absurd rfl h) (fun _ => by decide +kernel), (rows_ok mr_X4_cellsInEntries).2, rfl, hnd_0⟩
set_option maxRecDepth 20000 in
theorem ms_X4_cellsInEntries : MStat 39 := ⟨mo_X4_cellsInEntries, by decide +kernel, ret_ok (by decide +kernel)⟩
set_option maxRecDepth 20000 in
theorem mr_X4_uncheckedIn : rowsC RX4 cX4_uncheckedIn 4 "uncheckedIn" mi_X4_uncheckedIn = true := by decide +kernel
set_option maxRecDepth 20000 in
theorem mo_X4_uncheckedIn : MOk RX4 cX4_uncheckedIn 4 "uncheckedIn" mi_X4_uncheckedIn [] := ⟨(rows_ok mr_X4_uncheckedIn).1, fld_ok (wG_of [] (by decide +kernel) (by decide +kernel)) (by decide +kernel), mth_ok (List.forall_mem_cons.mpr ⟨m_0 cal_X4_entriesAt (wG_t3 31 (by decide +kernel) rfl), List.forall_mem_cons.mpr ⟨m_0 cal_X4_lengthOf (wG_t2 201 (by decide +kernel) rfl), List.forall_mem_cons.mpr ⟨m_0 cal_X4_cellOf (wG_t2 206 (by decide +kernel) rfl), List.forall_mem_nil _⟩⟩⟩), thr_ok (by intro q h; cases h), cls_ok (by intro q h; cases h), c32_ok (by intro q h; cases h), c64_ok (by intro q h; cases h), an_ok 0 (by decide +kernel) (fun h => absurd rfl h) (fun _ => by decide +kernel), (rows_ok mr_X4_uncheckedIn).2, rfl, hnd_0⟩
set_option maxRecDepth 20000 in
theorem ms_X4_uncheckedIn : MStat 40 := ⟨mo_X4_uncheckedIn, by decide +kernel, ret_ok (by decide +kernel)⟩
set_option maxRecDepth 20000 in
theorem mr_X4_emptyIn : rowsC RX4 cX4_emptyIn 4 "emptyIn" mi_X4_emptyIn = true := by decide +kernel
set_option maxRecDepth 20000 in
theorem mo_X4_emptyIn : MOk RX4 cX4_emptyIn 4 "emptyIn" mi_X4_emptyIn [] := ⟨(rows_ok mr_X4_emptyIn).1, fld_ok (wG_of [207] (by decide +kernel) (by decide +kernel)) (by decide +kernel), mth_ok (List.forall_mem_cons.mpr ⟨m_0 cal_X4_lengthOf (wG_t2 201 (by decide +kernel) rfl), List.forall_mem_cons.mpr ⟨m_0 cal_X4_cellOf (wG_t2 206 (by decide +kernel) rfl), List.forall_mem_cons.mpr ⟨m_0 cal_X6_letterAt (wG_t2 210 (by decide +kernel) rfl), List.forall_mem_nil _⟩⟩⟩), thr_ok (by intro q h; cases h), cls_ok (by intro q h; cases h), c32_ok (by intro q h; cases h), c64_ok (by intro q h; cases h), an_ok 0 (by decide +kernel) (fun h => absurd rfl h) (fun _ => by decide +kernel), (rows_ok mr_X4_emptyIn).2, rfl, hnd_0⟩
set_option maxRecDepth 20000 in
theorem ms_X4_emptyIn : MStat 41 := ⟨mo_X4_emptyIn, by decide +kernel, ret_ok (by decide +kernel)⟩
set_option maxRecDepth 20000 in
theorem mr_X4_fitsWord : rowsC RX4 cX4_fitsWord 5 "fitsWord" mi_X4_fitsWord = true := by decide +kernel
set_option maxRecDepth 20000 in
theorem mo_X4_fitsWord : MOk RX4 cX4_fitsWord 5 "fitsWord" mi_X4_fitsWord [] := ⟨(rows_ok mr_X4_fitsWord).1, fld_ok (wG_of [207] (by decide +kernel) (by decide +kernel)) (by decide +kernel), mth_ok (List.forall_mem_cons.mpr ⟨m_0 cal_X4_hasEntry (wG_t2 196 (by decide +kernel) rfl), List.forall_mem_cons.mpr ⟨m_0 cal_X4_lengthOf (wG_t2 201 (by decide +kernel) rfl), List.forall_mem_cons.mpr ⟨m_0 cal_X4_cellOf (wG_t2 206 (by decide +kernel) rfl), List.forall_mem_cons.mpr ⟨m_0 cal_X6_letterAt (wG_t2 210 (by decide +kernel) rfl), List.forall_mem_cons.mpr ⟨m_0 cal_X6_hasWord (wG_t2 200 (by decide +kernel) rfl), List.forall_mem_cons.mpr ⟨m_0 cal_X6_lengthOfWord (wG_t2 205 (by decide +kernel) rfl), List.forall_mem_cons.mpr ⟨m_0 cal_X6_letterOfWord (wG_t2 211 (by decide +kernel) rfl), List.forall_mem_nil _⟩⟩⟩⟩⟩⟩⟩), thr_ok (by intro q h; cases h), cls_ok (by intro q h; cases h), c32_ok (by intro q h; cases h), c64_ok (by intro q h; cases h), an_ok 0 (by decide +kernel) (fun h => absurd rfl h) (fun _ => by decide +kernel), (rows_ok mr_X4_fitsWord).2, rfl, hnd_0⟩
set_option maxRecDepth 20000 in
theorem ms_X4_fitsWord : MStat 42 := ⟨mo_X4_fitsWord, by decide +kernel, ret_ok (by decide +kernel)⟩
set_option maxRecDepth 20000 in
theorem mr_X4_fitCount : rowsC RX4 cX4_fitCount 4 "fitCount" mi_X4_fitCount = true := by decide +kernel
set_option maxRecDepth 20000 in
theorem mo_X4_fitCount : MOk RX4 cX4_fitCount 4 "fitCount" mi_X4_fitCount [] := ⟨(rows_ok mr_X4_fitCount).1, fld_ok (wG_of [207, 120] (by decide +kernel) (by decide +kernel)) (by decide +kernel), mth_ok (List.forall_mem_cons.mpr ⟨m_0 cal_X4_fitsWord (wG_t3 79 (by decide +kernel) rfl), List.forall_mem_nil _⟩), thr_ok (by intro q h; cases h), cls_ok (by intro q h; cases h), c32_ok (by intro q h; cases h), c64_ok (by intro q h; cases h), an_ok 0 (by decide +kernel) (fun h => absurd rfl h) (fun _ => by decide +kernel), (rows_ok mr_X4_fitCount).2, rfl, hnd_0⟩
set_option maxRecDepth 20000 in
theorem ms_X4_fitCount : MStat 43 := ⟨mo_X4_fitCount, by decide +kernel, ret_ok (by decide +kernel)⟩
set_option maxRecDepth 20000 in
theorem mr_X4_wordIn : rowsC RX4 cX4_wordIn 3 "wordIn" mi_X4_wordIn = true := by decide +kernel
set_option maxRecDepth 20000 in
theorem mo_X4_wordIn : MOk RX4 cX4_wordIn 3 "wordIn" mi_X4_wordIn [] := ⟨(rows_ok mr_X4_wordIn).1, fld_ok (wG_of [207, 120] (by decide +kernel) (by decide +kernel)) (by decide +kernel), mth_ok (List.forall_mem_cons.mpr ⟨m_0 cal_X4_fitsWord (wG_t3 79 (by decide +kernel) rfl), List.forall_mem_cons.mpr ⟨m_0 cal_X4_emptyIn (wG_t4 34 (by decide +kernel) rfl), List.forall_mem_nil _⟩⟩), thr_ok (by intro q h; cases h), cls_ok (by intro q h; cases h), c32_ok (by intro q h; cases h), c64_ok (by intro q h; cases h), an_ok 0 (by decide +kernel) (fun h => absurd rfl h) (fun _ => by decide +kernel), (rows_ok mr_X4_wordIn).2, rfl, hnd_0⟩
set_option maxRecDepth 20000 in
theorem ms_X4_wordIn : MStat 44 := ⟨mo_X4_wordIn, by decide +kernel, ret_ok (by decide +kernel)⟩
set_option maxRecDepth 20000 in
theorem mr_X4_fillEntry : rowsC RX4 cX4_fillEntry 5 "fillEntry" mi_X4_fillEntry = true := by decide +kernel
set_option maxRecDepth 20000 in
theorem mo_X4_fillEntry : MOk RX4 cX4_fillEntry 5 "fillEntry" mi_X4_fillEntry [] := ⟨(rows_ok mr_X4_fillEntry).1, fld_ok (wG_of [207] (by decide +kernel) (by decide +kernel)) (by decide +kernel), mth_ok (List.forall_mem_cons.mpr ⟨m_0 cal_X4_lengthOf (wG_t2 201 (by decide +kernel) rfl), List.forall_mem_cons.mpr ⟨m_0 cal_X4_cellOf (wG_t2 206 (by decide +kernel) rfl), List.forall_mem_cons.mpr ⟨m_0 cal_X6_letterOfWord (wG_t2 211 (by decide +kernel) rfl), List.forall_mem_cons.mpr ⟨m_0 cal_X4_emptyIn (wG_t4 34 (by decide +kernel) rfl), List.forall_mem_cons.mpr ⟨m_0 cal_X6_setLetter (wG_t4 145 (by decide +kernel) rfl), List.forall_mem_nil _⟩⟩⟩⟩⟩), thr_ok (by intro q h; cases h), cls_ok (by intro q h; cases h), c32_ok (by intro q h; cases h), c64_ok (by intro q h; cases h), an_ok 0 (by decide +kernel) (fun h => absurd rfl h) (fun _ => by decide +kernel), (rows_ok mr_X4_fillEntry).2, rfl, hnd_0⟩
set_option maxRecDepth 20000 in
theorem ms_X4_fillEntry : MStat 45 := ⟨mo_X4_fillEntry, by decide +kernel, ret_ok (by decide +kernel)⟩
set_option maxRecDepth 20000 in
theorem mr_X4_clearEntry : rowsC RX4 cX4_clearEntry 7 "clearEntry" mi_X4_clearEntry = true := by decide +kernel
set_option maxRecDepth 20000 in
theorem mo_X4_clearEntry : MOk RX4 cX4_clearEntry 7 "clearEntry" mi_X4_clearEntry [] := ⟨(rows_ok mr_X4_clearEntry).1, fld_ok (wG_of [207] (by decide +kernel) (by decide +kernel)) (by decide +kernel), mth_ok (List.forall_mem_cons.mpr ⟨m_0 cal_X4_hasEntry (wG_t2 196 (by decide +kernel) rfl), List.forall_mem_cons.mpr ⟨m_0 cal_X4_lengthOf (wG_t2 201 (by decide +kernel) rfl), List.forall_mem_cons.mpr ⟨m_0 cal_X4_cellOf (wG_t2 206 (by decide +kernel) rfl), List.forall_mem_cons.mpr ⟨m_0 cal_X6_letterAt (wG_t2 210 (by decide +kernel) rfl), List.forall_mem_cons.mpr ⟨m_0 cal_X4_emptyIn (wG_t4 34 (by decide +kernel) rfl), List.forall_mem_cons.mpr ⟨m_0 cal_X6_setLetter (wG_t4 145 (by decide +kernel) rfl), List.forall_mem_cons.mpr ⟨m_0 cal_X4_isDown (wG_t4 157 (by decide +kernel) rfl), List.forall_mem_cons.mpr ⟨m_0 cal_X4_entryAt (wG_t4 158 (by decide +kernel) rfl), List.forall_mem_nil _⟩⟩⟩⟩⟩⟩⟩⟩), thr_ok (by intro q h; cases h), cls_ok (by intro q h; cases h), c32_ok (by intro q h; cases h), c64_ok (by intro q h; cases h), an_ok 0 (by decide +kernel) (fun h => absurd rfl h) (fun _ => by decide +kernel), (rows_ok mr_X4_clearEntry).2, rfl, hnd_0⟩
set_option maxRecDepth 20000 in
theorem ms_X4_clearEntry : MStat 46 := ⟨mo_X4_clearEntry, by decide +kernel, ret_ok (by decide +kernel)⟩
set_option maxRecDepth 20000 in
theorem mr_X5_countKept : rowsC RX5 cX5_countKept 3 "countKept" mi_X5_countKept = true := by decide +kernel
set_option maxRecDepth 20000 in
theorem mo_X5_countKept : MOk RX5 cX5_countKept 3 "countKept" mi_X5_countKept [] := ⟨(rows_ok mr_X5_countKept).1, fld_ok (wG_of [] (by decide +kernel) (by decide +kernel)) (by decide +kernel), mth_ok (List.forall_mem_cons.mpr ⟨m_1 cal_X5_areKept (wG_t3 19 (by decide +kernel) rfl), List.forall_mem_nil _⟩), thr_ok (by intro q h; cases h), cls_ok (by intro q h; cases h), c32_ok (by intro q h; cases h), c64_ok (by intro q h; cases h), an_ok 0 (by decide +kernel) (fun h => absurd rfl h) (fun _ => by decide +kernel), (rows_ok mr_X5_countKept).2, rfl, hnd_0⟩
set_option maxRecDepth 20000 in
theorem ms_X5_countKept : MStat 47 := ⟨mo_X5_countKept, by decide +kernel, ret_ok (by decide +kernel)⟩
set_option maxRecDepth 20000 in
theorem mr_X5_areKept : rowsC RX5 cX5_areKept 2 "areKept" mi_X5_areKept = true := by decide +kernel
set_option maxRecDepth 20000 in
theorem mo_X5_areKept : MOk RX5 cX5_areKept 2 "areKept" mi_X5_areKept [] := ⟨(rows_ok mr_X5_areKept).1, fld_ok (wG_of [211] (by decide +kernel) (by decide +kernel)) (by decide +kernel), mth_ok (List.forall_mem_cons.mpr ⟨m_1 cal_X5_isSameTurned (wG_t3 22 (by decide +kernel) rfl), List.forall_mem_cons.mpr ⟨m_0 cal_X4_cellsInEntries (wG_t3 27 (by decide +kernel) rfl), List.forall_mem_cons.mpr ⟨m_1 cal_X5_isCheckedEnough (wG_t3 32 (by decide +kernel) rfl), List.forall_mem_cons.mpr ⟨m_1 cal_X5_hasNoUncheckedPair (wG_t3 40 (by decide +kernel) rfl), List.forall_mem_cons.mpr ⟨m_1 cal_X5_isConnected (wG_t3 45 (by decide +kernel) rfl), List.forall_mem_nil _⟩⟩⟩⟩⟩), thr_ok (by intro q h; cases h), cls_ok (by intro q h; cases h), c32_ok (by intro q h; cases h), c64_ok (by intro q h; cases h), an_ok 0 (by decide +kernel) (fun h => absurd rfl h) (fun _ => by decide +kernel), (rows_ok mr_X5_areKept).2, rfl, hnd_0⟩
set_option maxRecDepth 20000 in
theorem ms_X5_areKept : MStat 48 := ⟨mo_X5_areKept, by decide +kernel, ret_ok (by decide +kernel)⟩
set_option maxRecDepth 20000 in
theorem mr_X5_isSameTurned : rowsC RX5 cX5_isSameTurned 3 "isSameTurned" mi_X5_isSameTurned = true := by decide +kernel
set_option maxRecDepth 20000 in
theorem mo_X5_isSameTurned : MOk RX5 cX5_isSameTurned 3 "isSameTurned" mi_X5_isSameTurned [] := ⟨(rows_ok mr_X5_isSameTurned).1, fld_ok (wG_of [112] (by decide +kernel) (by decide +kernel)) (by decide +kernel), mth_ok (List.forall_mem_cons.mpr ⟨m_0 cal_X6_cells (wG_t3 25 (by decide +kernel) rfl), List.forall_mem_cons.mpr ⟨m_0 cal_X6_hasBar (wG_t3 26 (by decide +kernel) rfl), List.forall_mem_nil _⟩⟩), thr_ok (by intro q h; cases h), cls_ok (by intro q h; cases h), c32_ok (by intro q h; cases h), c64_ok (by intro q h; cases h), an_ok 0 (by decide +kernel) (fun h => absurd rfl h) (fun _ => by decide +kernel), (rows_ok mr_X5_isSameTurned).2, rfl, hnd_0⟩
set_option maxRecDepth 20000 in
theorem ms_X5_isSameTurned : MStat 49 := ⟨mo_X5_isSameTurned, by decide +kernel, ret_ok (by decide +kernel)⟩
set_option maxRecDepth 20000 in
theorem mr_X5_isCheckedEnough : rowsC RX5 cX5_isCheckedEnough 2 "isCheckedEnough" mi_X5_isCheckedEnough = true := by decide +kernel
set_option maxRecDepth 20000 in
theorem mo_X5_isCheckedEnough : MOk RX5 cX5_isCheckedEnough 2 "isCheckedEnough" mi_X5_isCheckedEnough [] := ⟨(rows_ok mr_X5_isCheckedEnough).1, fld_ok (wG_of [216] (by decide +kernel) (by decide +kernel)) (by decide +kernel), mth_ok (List.forall_mem_cons.mpr ⟨m_0 cal_X4_uncheckedIn (wG_t3 35 (by decide +kernel) rfl), List.forall_mem_cons.mpr ⟨m_0 cal_X4_lengthOf (wG_t3 39 (by decide +kernel) rfl), List.forall_mem_nil _⟩⟩), thr_ok (by intro q h; cases h), cls_ok (by intro q h; cases h), c32_ok (by intro q h; cases h), c64_ok (by intro q h; cases h), an_ok 0 (by decide +kernel) (fun h => absurd rfl h) (fun _ => by decide +kernel), (rows_ok mr_X5_isCheckedEnough).2, rfl, hnd_0⟩
set_option maxRecDepth 20000 in
theorem ms_X5_isCheckedEnough : MStat 50 := ⟨mo_X5_isCheckedEnough, by decide +kernel, ret_ok (by decide +kernel)⟩
set_option maxRecDepth 20000 in
theorem mr_X5_hasNoUncheckedPair : rowsC RX5 cX5_hasNoUncheckedPair 3 "hasNoUncheckedPair" mi_X5_hasNoUncheckedPair = true := by decide +kernel
set_option maxRecDepth 20000 in
theorem mo_X5_hasNoUncheckedPair : MOk RX5 cX5_hasNoUncheckedPair 3 "hasNoUncheckedPair" mi_X5_hasNoUncheckedPair [] := ⟨(rows_ok mr_X5_hasNoUncheckedPair).1, fld_ok (wG_of [216] (by decide +kernel) (by decide +kernel)) (by decide +kernel), mth_ok (List.forall_mem_cons.mpr ⟨m_0 cal_X4_lengthOf (wG_t3 39 (by decide +kernel) rfl), List.forall_mem_cons.mpr ⟨m_0 cal_X4_cellOf (wG_t3 43 (by decide +kernel) rfl), List.forall_mem_cons.mpr ⟨m_0 cal_X4_entriesAt (wG_t3 44 (by decide +kernel) rfl), List.forall_mem_nil _⟩⟩⟩), thr_ok (by intro q h; cases h), cls_ok (by intro q h; cases h), c32_ok (by intro q h; cases h), c64_ok (by intro q h; cases h), an_ok 0 (by decide +kernel) (fun h => absurd rfl h) (fun _ => by decide +kernel), (rows_ok mr_X5_hasNoUncheckedPair).2, rfl, hnd_0⟩
set_option maxRecDepth 20000 in
theorem ms_X5_hasNoUncheckedPair : MStat 51 := ⟨mo_X5_hasNoUncheckedPair, by decide +kernel, ret_ok (by decide +kernel)⟩
set_option maxRecDepth 20000 in
theorem mr_X5_isConnected : rowsC RX5 cX5_isConnected 8 "isConnected" mi_X5_isConnected = true := by decide +kernel
set_option maxRecDepth 20000 in
theorem mo_X5_isConnected : MOk RX5 cX5_isConnected 8 "isConnected" mi_X5_isConnected [] := ⟨(rows_ok mr_X5_isConnected).1, fld_ok (wG_of [] (by decide +kernel) (by decide +kernel)) (by decide +kernel), mth_ok (List.forall_mem_cons.mpr ⟨m_0 cal_X6_cells (wG_t3 25 (by decide +kernel) rfl), List.forall_mem_cons.mpr ⟨m_1 cal_X5_spread (wG_t3 48 (by decide +kernel) rfl), List.forall_mem_cons.mpr ⟨m_1 cal_J13_bitCount_95d88 (wG_t3 52 (by decide +kernel) rfl), List.forall_mem_nil _⟩⟩⟩), thr_ok (by intro q h; cases h), cls_ok (by intro q h; cases h), c32_ok (by intro q h; cases h), c64_ok (by intro q h; cases h), an_ok 0 (by decide +kernel) (fun h => absurd rfl h) (fun _ => by decide +kernel), (rows_ok mr_X5_isConnected).2, rfl, hnd_0⟩
set_option maxRecDepth 20000 in
theorem ms_X5_isConnected : MStat 52 := ⟨mo_X5_isConnected, by decide +kernel, ret_ok (by decide +kernel)⟩
set_option maxRecDepth 20000 in
theorem mr_X5_spread : rowsC RX5 cX5_spread 8 "spread" mi_X5_spread = true := by decide +kernel
set_option maxRecDepth 20000 in
theorem mo_X5_spread : MOk RX5 cX5_spread 8 "spread" mi_X5_spread [] := ⟨(rows_ok mr_X5_spread).1, fld_ok (wG_of [112] (by decide +kernel) (by decide +kernel)) (by decide +kernel), mth_ok (List.forall_mem_cons.mpr ⟨m_0 cal_X6_isJoined (wG_t3 51 (by decide +kernel) rfl), List.forall_mem_nil _⟩), thr_ok (by intro q h; cases h), cls_ok (by intro q h; cases h), c32_ok (by intro q h; cases h), c64_ok (by intro q h; cases h), an_ok 0 (by decide +kernel) (fun h => absurd rfl h) (fun _ => by decide +kernel), (rows_ok mr_X5_spread).2, rfl, hnd_0⟩
set_option maxRecDepth 20000 in
theorem ms_X5_spread : MStat 53 := ⟨mo_X5_spread, by decide +kernel, ret_ok (by decide +kernel)⟩
set_option maxRecDepth 20000 in
theorem mr_X6_init : rowsC RX6 cX6_init 1 "<init>" mi_X6_init = true := by decide +kernel
set_option maxRecDepth 20000 in
theorem mo_X6_init : MOk RX6 cX6_init 1 "<init>" mi_X6_init [] := ⟨(rows_ok mr_X6_init).1, fld_ok (wG_of [108, 111, 116, 121, 125, 126, 127, 128, 129, 130] (by decide +kernel) (by decide +kernel)) (by decide +kernel), mth_ok (List.forall_mem_cons.mpr ⟨⟨wG_t1 40 (by decide +kernel) rfl, wG_t1 27 (by decide +kernel) rfl, wG_t1 28 rfl rfl⟩, List.forall_mem_nil _⟩), thr_ok (by intro q h; cases h), cls_ok (by intro q h; cases h), c32_ok (by intro q h; cases h), c64_ok (by intro q h; cases h), an_ok 0 (by decide +kernel) (fun h => absurd rfl h) (fun _ => by decide +kernel), (rows_ok mr_X6_init).2, rfl, hnd_0⟩
set_option maxRecDepth 20000 in
theorem ms_X6_init : MStat 54 := ⟨mo_X6_init, by decide +kernel, ret_ok (by decide +kernel)⟩
set_option maxRecDepth 20000 in
theorem mr_X6_copyFrom : rowsC RX6 cX6_copyFrom 2 "copyFrom" mi_X6_copyFrom = true := by decide +kernel
set_option maxRecDepth 20000 in
theorem mo_X6_copyFrom : MOk RX6 cX6_copyFrom 2 "copyFrom" mi_X6_copyFrom [] := ⟨(rows_ok mr_X6_copyFrom).1, fld_ok (wG_of [108, 111, 116, 121, 125, 126, 127, 128, 129, 130] (by decide +kernel) (by decide +kernel)) (by decide +kernel), mth_ok (List.forall_mem_cons.mpr ⟨⟨wG_t3 15 (by decide +kernel) rfl, wG_t2 159 (by decide +kernel) rfl, wG_t2 158 (by decide +kernel) rfl, wG_t1 15 (by decide +kernel) rfl⟩, List.forall_mem_nil _⟩), thr_ok (by intro q h; cases h), cls_ok (by intro q h; cases h), c32_ok (by intro q h; cases h), c64_ok (by intro q h; cases h), an_ok 0 (by decide +kernel) (fun h => absurd rfl h) (fun _ => by decide +kernel), (rows_ok mr_X6_copyFrom).2, rfl, hnd_0⟩
set_option maxRecDepth 20000 in
theorem ms_X6_copyFrom : MStat 55 := ⟨mo_X6_copyFrom, by decide +kernel, ret_ok (by decide +kernel)⟩
set_option maxRecDepth 20000 in
theorem mr_X6_begin : rowsC RX6 cX6_begin 3 "begin" mi_X6_begin = true := by decide +kernel
set_option maxRecDepth 20000 in
theorem mo_X6_begin : MOk RX6 cX6_begin 3 "begin" mi_X6_begin [] := ⟨(rows_ok mr_X6_begin).1, fld_ok (wG_of [108, 111, 116, 121, 125, 126, 127] (by decide +kernel) (by decide +kernel)) (by decide +kernel), mth_ok (List.forall_mem_cons.mpr ⟨m_1 cal_J7_fill_53178 (wG_t2 67 (by decide +kernel) rfl), List.forall_mem_nil _⟩), thr_ok (by intro q h; cases h), cls_ok (by intro q h; cases h), c32_ok (by intro q h; cases h), c64_ok (by intro q h; cases h), an_ok 0 (by decide +kernel) (fun h => absurd rfl h) (fun _ => by decide +kernel), (rows_ok mr_X6_begin).2, rfl, hnd_0⟩
set_option maxRecDepth 20000 in
theorem ms_X6_begin : MStat 56 := ⟨mo_X6_begin, by decide +kernel, ret_ok (by decide +kernel)⟩
set_option maxRecDepth 20000 in
theorem mr_X6_cells : rowsC RX6 cX6_cells 1 "cells" mi_X6_cells = true := by decide +kernel
set_option maxRecDepth 20000 in
theorem mo_X6_cells : MOk RX6 cX6_cells 1 "cells" mi_X6_cells [] := ⟨(rows_ok mr_X6_cells).1, fld_ok (wG_of [108, 111] (by decide +kernel) (by decide +kernel)) (by decide +kernel), mth_ok (by intro q h; cases h), thr_ok (by intro q h; cases h), cls_ok (by intro q h; cases h), c32_ok (by intro q h; cases h), c64_ok (by intro q h; cases h), an_ok 0 (by decide +kernel) (fun h => absurd rfl h) (fun _ => by decide +kernel), (rows_ok mr_X6_cells).2, rfl, hnd_0⟩
set_option maxRecDepth 20000 in
theorem ms_X6_cells : MStat 57 := ⟨mo_X6_cells, by decide +kernel, ret_ok (by decide +kernel)⟩
end
section
set_option maxRecDepth 20000 in
theorem mr_X6_hasCell : rowsC RX6 cX6_hasCell 2 "hasCell" mi_X6_hasCell = true := by decide +kernel
set_option maxRecDepth 20000 in
theorem mo_X6_hasCell : MOk RX6 cX6_hasCell 2 "hasCell" mi_X6_hasCell [] := ⟨(rows_ok mr_X6_hasCell).1, fld_ok (wG_of [108, 111] (by decide +kernel) (by decide +kernel)) (by decide +kernel), mth_ok (by intro q h; cases h), thr_ok (by intro q h; cases h), cls_ok (by intro q h; cases h), c32_ok (by intro q h; cases h), c64_ok (by intro q h; cases h), an_ok 0 (by decide +kernel) (fun h => absurd rfl h) (fun _ => by decide +kernel), (rows_ok mr_X6_hasCell).2, rfl, hnd_0⟩
set_option maxRecDepth 20000 in
theorem ms_X6_hasCell : MStat 58 := ⟨mo_X6_hasCell, by decide +kernel, ret_ok (by decide +kernel)⟩
set_option maxRecDepth 20000 in
theorem mr_X6_columnOf : rowsC RX6 cX6_columnOf 2 "columnOf" mi_X6_columnOf = true := by decide +kernel
set_option maxRecDepth 20000 in
theorem mo_X6_columnOf : MOk RX6 cX6_columnOf 2 "columnOf" mi_X6_columnOf [] := ⟨(rows_ok mr_X6_columnOf).1, fld_ok (wG_of [111] (by decide +kernel) (by decide +kernel)) (by decide +kernel), mth_ok (by intro q h; cases h), thr_ok (by intro q h; cases h), cls_ok (by intro q h; cases h), c32_ok (by intro q h; cases h), c64_ok (by intro q h; cases h), an_ok 0 (by decide +kernel) (fun h => absurd rfl h) (fun _ => by decide +kernel), (rows_ok mr_X6_columnOf).2, rfl, hnd_0⟩
set_option maxRecDepth 20000 in
theorem ms_X6_columnOf : MStat 59 := ⟨mo_X6_columnOf, by decide +kernel, ret_ok (by decide +kernel)⟩
set_option maxRecDepth 20000 in
theorem mr_X6_rowOf : rowsC RX6 cX6_rowOf 2 "rowOf" mi_X6_rowOf = true := by decide +kernel
set_option maxRecDepth 20000 in
theorem mo_X6_rowOf : MOk RX6 cX6_rowOf 2 "rowOf" mi_X6_rowOf [] := ⟨(rows_ok mr_X6_rowOf).1, fld_ok (wG_of [111] (by decide +kernel) (by decide +kernel)) (by decide +kernel), mth_ok (by intro q h; cases h), thr_ok (by intro q h; cases h), cls_ok (by intro q h; cases h), c32_ok (by intro q h; cases h), c64_ok (by intro q h; cases h), an_ok 0 (by decide +kernel) (fun h => absurd rfl h) (fun _ => by decide +kernel), (rows_ok mr_X6_rowOf).2, rfl, hnd_0⟩
set_option maxRecDepth 20000 in
theorem ms_X6_rowOf : MStat 60 := ⟨mo_X6_rowOf, by decide +kernel, ret_ok (by decide +kernel)⟩
set_option maxRecDepth 20000 in
theorem mr_X6_letterAt : rowsC RX6 cX6_letterAt 2 "letterAt" mi_X6_letterAt = true := by decide +kernel
set_option maxRecDepth 20000 in
theorem mo_X6_letterAt : MOk RX6 cX6_letterAt 2 "letterAt" mi_X6_letterAt [] := ⟨(rows_ok mr_X6_letterAt).1, fld_ok (wG_of [127] (by decide +kernel) (by decide +kernel)) (by decide +kernel), mth_ok (List.forall_mem_cons.mpr ⟨m_0 cal_X6_hasCell (wG_t2 80 (by decide +kernel) rfl), List.forall_mem_nil _⟩), thr_ok (by intro q h; cases h), cls_ok (by intro q h; cases h), c32_ok (by intro q h; cases h), c64_ok (by intro q h; cases h), an_ok 0 (by decide +kernel) (fun h => absurd rfl h) (fun _ => by decide +kernel), (rows_ok mr_X6_letterAt).2, rfl, hnd_0⟩
set_option maxRecDepth 20000 in
theorem ms_X6_letterAt : MStat 61 := ⟨mo_X6_letterAt, by decide +kernel, ret_ok (by decide +kernel)⟩
set_option maxRecDepth 20000 in
theorem mr_X6_setLetter : rowsC RX6 cX6_setLetter 3 "setLetter" mi_X6_setLetter = true := by decide +kernel
set_option maxRecDepth 20000 in
theorem mo_X6_setLetter : MOk RX6 cX6_setLetter 3 "setLetter" mi_X6_setLetter [] := ⟨(rows_ok mr_X6_setLetter).1, fld_ok (wG_of [127] (by decide +kernel) (by decide +kernel)) (by decide +kernel), mth_ok (List.forall_mem_cons.mpr ⟨m_0 cal_X6_hasCell (wG_t2 80 (by decide +kernel) rfl), List.forall_mem_nil _⟩), thr_ok (by intro q h; cases h), cls_ok (by intro q h; cases h), c32_ok (by intro q h; cases h), c64_ok (by intro q h; cases h), an_ok 0 (by decide +kernel) (fun h => absurd rfl h) (fun _ => by decide +kernel), (rows_ok mr_X6_setLetter).2, rfl, hnd_0⟩
set_option maxRecDepth 20000 in
theorem ms_X6_setLetter : MStat 62 := ⟨mo_X6_setLetter, by decide +kernel, ret_ok (by decide +kernel)⟩
set_option maxRecDepth 20000 in
theorem mr_X6_emptyCells : rowsC RX6 cX6_emptyCells 3 "emptyCells" mi_X6_emptyCells = true := by decide +kernel
set_option maxRecDepth 20000 in
theorem mo_X6_emptyCells : MOk RX6 cX6_emptyCells 3 "emptyCells" mi_X6_emptyCells [] := ⟨(rows_ok mr_X6_emptyCells).1, fld_ok (wG_of [108, 111] (by decide +kernel) (by decide +kernel)) (by decide +kernel), mth_ok (List.forall_mem_cons.mpr ⟨m_0 cal_X6_letterAt (wG_t3 209 (by decide +kernel) rfl), List.forall_mem_nil _⟩), thr_ok (by intro q h; cases h), cls_ok (by intro q h; cases h), c32_ok (by intro q h; cases h), c64_ok (by intro q h; cases h), an_ok 0 (by decide +kernel) (fun h => absurd rfl h) (fun _ => by decide +kernel), (rows_ok mr_X6_emptyCells).2, rfl, hnd_0⟩
set_option maxRecDepth 20000 in
theorem ms_X6_emptyCells : MStat 63 := ⟨mo_X6_emptyCells, by decide +kernel, ret_ok (by decide +kernel)⟩
set_option maxRecDepth 20000 in
theorem mr_X6_isPlace : rowsC RX6 cX6_isPlace 3 "isPlace" mi_X6_isPlace = true := by decide +kernel
set_option maxRecDepth 20000 in
theorem mo_X6_isPlace : MOk RX6 cX6_isPlace 3 "isPlace" mi_X6_isPlace [] := ⟨(rows_ok mr_X6_isPlace).1, fld_ok (wG_of [108, 111] (by decide +kernel) (by decide +kernel)) (by decide +kernel), mth_ok (by intro q h; cases h), thr_ok (by intro q h; cases h), cls_ok (by intro q h; cases h), c32_ok (by intro q h; cases h), c64_ok (by intro q h; cases h), an_ok 0 (by decide +kernel) (fun h => absurd rfl h) (fun _ => by decide +kernel), (rows_ok mr_X6_isPlace).2, rfl, hnd_0⟩
set_option maxRecDepth 20000 in
theorem ms_X6_isPlace : MStat 64 := ⟨mo_X6_isPlace, by decide +kernel, ret_ok (by decide +kernel)⟩
set_option maxRecDepth 20000 in
theorem mr_X6_hasBar : rowsC RX6 cX6_hasBar 5 "hasBar" mi_X6_hasBar = true := by decide +kernel
set_option maxRecDepth 20000 in
theorem mo_X6_hasBar : MOk RX6 cX6_hasBar 5 "hasBar" mi_X6_hasBar [] := ⟨(rows_ok mr_X6_hasBar).1, fld_ok (wG_of [125, 126] (by decide +kernel) (by decide +kernel)) (by decide +kernel), mth_ok (by intro q h; cases h), thr_ok (by intro q h; cases h), cls_ok (by intro q h; cases h), c32_ok (by intro q h; cases h), c64_ok (by intro q h; cases h), an_ok 0 (by decide +kernel) (fun h => absurd rfl h) (fun _ => by decide +kernel), (rows_ok mr_X6_hasBar).2, rfl, hnd_0⟩
set_option maxRecDepth 20000 in
theorem ms_X6_hasBar : MStat 65 := ⟨mo_X6_hasBar, by decide +kernel, ret_ok (by decide +kernel)⟩
set_option maxRecDepth 20000 in
theorem mr_X6_drawBar : rowsC RX6 cX6_drawBar 6 "drawBar" mi_X6_drawBar = true := by decide +kernel
set_option maxRecDepth 20000 in
theorem mo_X6_drawBar : MOk RX6 cX6_drawBar 6 "drawBar" mi_X6_drawBar [] := ⟨(rows_ok mr_X6_drawBar).1, fld_ok (wG_of [125, 126] (by decide +kernel) (by decide +kernel)) (by decide +kernel), mth_ok (List.forall_mem_cons.mpr ⟨m_0 cal_X6_isPlace (wG_t1 124 (by decide +kernel) rfl), List.forall_mem_nil _⟩), thr_ok (by intro q h; cases h), cls_ok (by intro q h; cases h), c32_ok (List.forall_mem_cons.mpr ⟨Or.inr (by decide +kernel), List.forall_mem_nil _⟩), c64_ok (List.forall_mem_cons.mpr ⟨Or.inl (wG_t2 90 (by decide +kernel) rfl), List.forall_mem_nil _⟩), an_ok 0 (by decide +kernel) (fun h => absurd rfl h) (fun _ => by decide +kernel), (rows_ok mr_X6_drawBar).2, rfl, hnd_0⟩
set_option maxRecDepth 20000 in
theorem ms_X6_drawBar : MStat 66 := ⟨mo_X6_drawBar, by decide +kernel, ret_ok (by decide +kernel)⟩
set_option maxRecDepth 20000 in
theorem mr_X6_barCount : rowsC RX6 cX6_barCount 1 "barCount" mi_X6_barCount = true := by decide +kernel
set_option maxRecDepth 20000 in
theorem mo_X6_barCount : MOk RX6 cX6_barCount 1 "barCount" mi_X6_barCount [] := ⟨(rows_ok mr_X6_barCount).1, fld_ok (wG_of [125, 126] (by decide +kernel) (by decide +kernel)) (by decide +kernel), mth_ok (List.forall_mem_cons.mpr ⟨m_1 cal_J13_bitCount_95d88 (wG_t3 214 (by decide +kernel) rfl), List.forall_mem_nil _⟩), thr_ok (by intro q h; cases h), cls_ok (by intro q h; cases h), c32_ok (by intro q h; cases h), c64_ok (by intro q h; cases h), an_ok 0 (by decide +kernel) (fun h => absurd rfl h) (fun _ => by decide +kernel), (rows_ok mr_X6_barCount).2, rfl, hnd_0⟩
set_option maxRecDepth 20000 in
theorem ms_X6_barCount : MStat 67 := ⟨mo_X6_barCount, by decide +kernel, ret_ok (by decide +kernel)⟩
set_option maxRecDepth 20000 in
theorem mr_X6_isJoined : rowsC RX6 cX6_isJoined 3 "isJoined" mi_X6_isJoined = true := by decide +kernel
set_option maxRecDepth 20000 in
theorem mo_X6_isJoined : MOk RX6 cX6_isJoined 3 "isJoined" mi_X6_isJoined [] := ⟨(rows_ok mr_X6_isJoined).1, fld_ok (wG_of [] (by decide +kernel) (by decide +kernel)) (by decide +kernel), mth_ok (List.forall_mem_cons.mpr ⟨m_0 cal_X6_isPlace (wG_t1 124 (by decide +kernel) rfl), List.forall_mem_cons.mpr ⟨m_0 cal_X6_hasBar (wG_t1 128 (by decide +kernel) rfl), List.forall_mem_nil _⟩⟩), thr_ok (by intro q h; cases h), cls_ok (by intro q h; cases h), c32_ok (by intro q h; cases h), c64_ok (by intro q h; cases h), an_ok 0 (by decide +kernel) (fun h => absurd rfl h) (fun _ => by decide +kernel), (rows_ok mr_X6_isJoined).2, rfl, hnd_0⟩
set_option maxRecDepth 20000 in
theorem ms_X6_isJoined : MStat 68 := ⟨mo_X6_isJoined, by decide +kernel, ret_ok (by decide +kernel)⟩
set_option maxRecDepth 20000 in
theorem mr_X6_hasWord : rowsC RX6 cX6_hasWord 2 "hasWord" mi_X6_hasWord = true := by decide +kernel
set_option maxRecDepth 20000 in
theorem mo_X6_hasWord : MOk RX6 cX6_hasWord 2 "hasWord" mi_X6_hasWord [] := ⟨(rows_ok mr_X6_hasWord).1, fld_ok (wG_of [116] (by decide +kernel) (by decide +kernel)) (by decide +kernel), mth_ok (by intro q h; cases h), thr_ok (by intro q h; cases h), cls_ok (by intro q h; cases h), c32_ok (by intro q h; cases h), c64_ok (by intro q h; cases h), an_ok 0 (by decide +kernel) (fun h => absurd rfl h) (fun _ => by decide +kernel), (rows_ok mr_X6_hasWord).2, rfl, hnd_0⟩
set_option maxRecDepth 20000 in
theorem ms_X6_hasWord : MStat 69 := ⟨mo_X6_hasWord, by decide +kernel, ret_ok (by decide +kernel)⟩
set_option maxRecDepth 20000 in
theorem mr_X6_lengthOfWord : rowsC RX6 cX6_lengthOfWord 2 "lengthOfWord" mi_X6_lengthOfWord = true := by decide +kernel
set_option maxRecDepth 20000 in
theorem mo_X6_lengthOfWord : MOk RX6 cX6_lengthOfWord 2 "lengthOfWord" mi_X6_lengthOfWord [] := ⟨(rows_ok mr_X6_lengthOfWord).1, fld_ok (wG_of [128] (by decide +kernel) (by decide +kernel)) (by decide +kernel), mth_ok (List.forall_mem_cons.mpr ⟨m_0 cal_X6_hasWord (wG_t2 111 (by decide +kernel) rfl), List.forall_mem_nil _⟩), thr_ok (by intro q h; cases h), cls_ok (by intro q h; cases h), c32_ok (by intro q h; cases h), c64_ok (by intro q h; cases h), an_ok 0 (by decide +kernel) (fun h => absurd rfl h) (fun _ => by decide +kernel), (rows_ok mr_X6_lengthOfWord).2, rfl, hnd_0⟩
set_option maxRecDepth 20000 in
theorem ms_X6_lengthOfWord : MStat 70 := ⟨mo_X6_lengthOfWord, by decide +kernel, ret_ok (by decide +kernel)⟩
set_option maxRecDepth 20000 in
theorem mr_X6_letterOfWord : rowsC RX6 cX6_letterOfWord 3 "letterOfWord" mi_X6_letterOfWord = true := by decide +kernel
set_option maxRecDepth 20000 in
theorem mo_X6_letterOfWord : MOk RX6 cX6_letterOfWord 3 "letterOfWord" mi_X6_letterOfWord [] := ⟨(rows_ok mr_X6_letterOfWord).1, fld_ok (wG_of [129] (by decide +kernel) (by decide +kernel)) (by decide +kernel), mth_ok (List.forall_mem_cons.mpr ⟨m_0 cal_X6_lengthOfWord (wG_t2 107 (by decide +kernel) rfl), List.forall_mem_nil _⟩), thr_ok (by intro q h; cases h), cls_ok (by intro q h; cases h), c32_ok (by intro q h; cases h), c64_ok (by intro q h; cases h), an_ok 0 (by decide +kernel) (fun h => absurd rfl h) (fun _ => by decide +kernel), (rows_ok mr_X6_letterOfWord).2, rfl, hnd_0⟩
set_option maxRecDepth 20000 in
theorem ms_X6_letterOfWord : MStat 71 := ⟨mo_X6_letterOfWord, by decide +kernel, ret_ok (by decide +kernel)⟩
set_option maxRecDepth 20000 in
theorem mr_X6_beginWord : rowsC RX6 cX6_beginWord 1 "beginWord" mi_X6_beginWord = true := by decide +kernel
set_option maxRecDepth 20000 in
theorem mo_X6_beginWord : MOk RX6 cX6_beginWord 1 "beginWord" mi_X6_beginWord [] := ⟨(rows_ok mr_X6_beginWord).1, fld_ok (wG_of [116, 128] (by decide +kernel) (by decide +kernel)) (by decide +kernel), mth_ok (by intro q h; cases h), thr_ok (by intro q h; cases h), cls_ok (by intro q h; cases h), c32_ok (by intro q h; cases h), c64_ok (by intro q h; cases h), an_ok 0 (by decide +kernel) (fun h => absurd rfl h) (fun _ => by decide +kernel), (rows_ok mr_X6_beginWord).2, rfl, hnd_0⟩
set_option maxRecDepth 20000 in
theorem ms_X6_beginWord : MStat 72 := ⟨mo_X6_beginWord, by decide +kernel, ret_ok (by decide +kernel)⟩
set_option maxRecDepth 20000 in
theorem mr_X6_lengthenWord : rowsC RX6 cX6_lengthenWord 4 "lengthenWord" mi_X6_lengthenWord = true := by decide +kernel
set_option maxRecDepth 20000 in
theorem mo_X6_lengthenWord : MOk RX6 cX6_lengthenWord 4 "lengthenWord" mi_X6_lengthenWord [] := ⟨(rows_ok mr_X6_lengthenWord).1, fld_ok (wG_of [116, 128, 129] (by decide +kernel) (by decide +kernel)) (by decide +kernel), mth_ok (List.forall_mem_cons.mpr ⟨m_0 cal_X6_hasWord (wG_t2 111 (by decide +kernel) rfl), List.forall_mem_cons.mpr ⟨m_0 cal_X6_lengthOfWord (wG_t2 107 (by decide +kernel) rfl), List.forall_mem_nil _⟩⟩), thr_ok (by intro q h; cases h), cls_ok (by intro q h; cases h), c32_ok (by intro q h; cases h), c64_ok (by intro q h; cases h), an_ok 0 (by decide +kernel) (fun h => absurd rfl h) (fun _ => by decide +kernel), (rows_ok mr_X6_lengthenWord).2, rfl, hnd_0⟩
set_option maxRecDepth 20000 in
theorem ms_X6_lengthenWord : MStat 73 := ⟨mo_X6_lengthenWord, by decide +kernel, ret_ok (by decide +kernel)⟩
set_option maxRecDepth 20000 in
theorem mr_X6_letterOfLine : rowsC RX6 cX6_letterOfLine 2 "letterOfLine" mi_X6_letterOfLine = true := by decide +kernel
set_option maxRecDepth 20000 in
theorem mo_X6_letterOfLine : MOk RX6 cX6_letterOfLine 2 "letterOfLine" mi_X6_letterOfLine [] := ⟨(rows_ok mr_X6_letterOfLine).1, fld_ok (wG_of [121, 130] (by decide +kernel) (by decide +kernel)) (by decide +kernel), mth_ok (by intro q h; cases h), thr_ok (by intro q h; cases h), cls_ok (by intro q h; cases h), c32_ok (by intro q h; cases h), c64_ok (by intro q h; cases h), an_ok 0 (by decide +kernel) (fun h => absurd rfl h) (fun _ => by decide +kernel), (rows_ok mr_X6_letterOfLine).2, rfl, hnd_0⟩
set_option maxRecDepth 20000 in
theorem ms_X6_letterOfLine : MStat 74 := ⟨mo_X6_letterOfLine, by decide +kernel, ret_ok (by decide +kernel)⟩
set_option maxRecDepth 20000 in
theorem mr_X6_lengthenLine : rowsC RX6 cX6_lengthenLine 2 "lengthenLine" mi_X6_lengthenLine = true := by decide +kernel
set_option maxRecDepth 20000 in
theorem mo_X6_lengthenLine : MOk RX6 cX6_lengthenLine 2 "lengthenLine" mi_X6_lengthenLine [] := ⟨(rows_ok mr_X6_lengthenLine).1, fld_ok (wG_of [121, 130] (by decide +kernel) (by decide +kernel)) (by decide +kernel), mth_ok (by intro q h; cases h), thr_ok (by intro q h; cases h), cls_ok (by intro q h; cases h), c32_ok (by intro q h; cases h), c64_ok (by intro q h; cases h), an_ok 0 (by decide +kernel) (fun h => absurd rfl h) (fun _ => by decide +kernel), (rows_ok mr_X6_lengthenLine).2, rfl, hnd_0⟩
set_option maxRecDepth 20000 in
theorem ms_X6_lengthenLine : MStat 75 := ⟨mo_X6_lengthenLine, by decide +kernel, ret_ok (by decide +kernel)⟩
set_option maxRecDepth 20000 in
theorem mr_X7_init : rowsC RX7 cX7_init 1 "<init>" mi_X7_init = true := by decide +kernel
set_option maxRecDepth 20000 in
theorem mo_X7_init : MOk RX7 cX7_init 1 "<init>" mi_X7_init [] := ⟨(rows_ok mr_X7_init).1, fld_ok (wG_of [153, 155, 157, 158] (by decide +kernel) (by decide +kernel)) (by decide +kernel), mth_ok (List.forall_mem_cons.mpr ⟨⟨wG_t1 34 (by decide +kernel) rfl, wG_t1 27 (by decide +kernel) rfl, wG_t1 28 rfl rfl⟩, List.forall_mem_cons.mpr ⟨m_4 cal_X6_init (by decide +kernel), List.forall_mem_nil _⟩⟩), thr_ok (by intro q h; cases h), cls_ok (List.forall_mem_cons.mpr ⟨⟨_, rfl, wG_t1 35 (by decide +kernel) rfl, wG_t1 36 (by decide +kernel) rfl, wG_t1 3 (by decide +kernel) rfl⟩, List.forall_mem_nil _⟩), c32_ok (by intro q h; cases h), c64_ok (by intro q h; cases h), an_ok 0 (by decide +kernel) (fun h => absurd rfl h) (fun _ => by decide +kernel), (rows_ok mr_X7_init).2, rfl, hnd_0⟩
set_option maxRecDepth 20000 in
theorem ms_X7_init : MStat 76 := ⟨mo_X7_init, by decide +kernel, ret_ok (by decide +kernel)⟩
set_option maxRecDepth 20000 in
theorem mr_X7_isFull : rowsC RX7 cX7_isFull 1 "isFull" mi_X7_isFull = true := by decide +kernel
set_option maxRecDepth 20000 in
theorem mo_X7_isFull : MOk RX7 cX7_isFull 1 "isFull" mi_X7_isFull [] := ⟨(rows_ok mr_X7_isFull).1, fld_ok (wG_of [153] (by decide +kernel) (by decide +kernel)) (by decide +kernel), mth_ok (by intro q h; cases h), thr_ok (by intro q h; cases h), cls_ok (by intro q h; cases h), c32_ok (by intro q h; cases h), c64_ok (by intro q h; cases h), an_ok 0 (by decide +kernel) (fun h => absurd rfl h) (fun _ => by decide +kernel), (rows_ok mr_X7_isFull).2, rfl, hnd_0⟩
set_option maxRecDepth 20000 in
theorem ms_X7_isFull : MStat 77 := ⟨mo_X7_isFull, by decide +kernel, ret_ok (by decide +kernel)⟩
set_option maxRecDepth 20000 in
theorem mr_X7_add : rowsC RX7 cX7_add 2 "add" mi_X7_add = true := by decide +kernel
set_option maxRecDepth 20000 in
theorem mo_X7_add : MOk RX7 cX7_add 2 "add" mi_X7_add [] := ⟨(rows_ok mr_X7_add).1, fld_ok (wG_of [153, 158] (by decide +kernel) (by decide +kernel)) (by decide +kernel), mth_ok (by intro q h; cases h), thr_ok (by intro q h; cases h), cls_ok (by intro q h; cases h), c32_ok (by intro q h; cases h), c64_ok (by intro q h; cases h), an_ok 0 (by decide +kernel) (fun h => absurd rfl h) (fun _ => by decide +kernel), (rows_ok mr_X7_add).2, rfl, hnd_0⟩
set_option maxRecDepth 20000 in
theorem ms_X7_add : MStat 78 := ⟨mo_X7_add, by decide +kernel, ret_ok (by decide +kernel)⟩
set_option maxRecDepth 20000 in
theorem mr_X7_empty : rowsC RX7 cX7_empty 2 "empty" mi_X7_empty = true := by decide +kernel
set_option maxRecDepth 20000 in
theorem mo_X7_empty : MOk RX7 cX7_empty 2 "empty" mi_X7_empty [] := ⟨(rows_ok mr_X7_empty).1, fld_ok (wG_of [153] (by decide +kernel) (by decide +kernel)) (by decide +kernel), mth_ok (by intro q h; cases h), thr_ok (by intro q h; cases h), cls_ok (by intro q h; cases h), c32_ok (by intro q h; cases h), c64_ok (by intro q h; cases h), an_ok 0 (by decide +kernel) (fun h => absurd rfl h) (fun _ => by decide +kernel), (rows_ok mr_X7_empty).2, rfl, hnd_0⟩
set_option maxRecDepth 20000 in
theorem ms_X7_empty : MStat 79 := ⟨mo_X7_empty, by decide +kernel, ret_ok (by decide +kernel)⟩
set_option maxRecDepth 20000 in
theorem mr_X7_signAt : rowsC RX7 cX7_signAt 2 "signAt" mi_X7_signAt = true := by decide +kernel
set_option maxRecDepth 20000 in
theorem mo_X7_signAt : MOk RX7 cX7_signAt 2 "signAt" mi_X7_signAt [] := ⟨(rows_ok mr_X7_signAt).1, fld_ok (wG_of [153, 158] (by decide +kernel) (by decide +kernel)) (by decide +kernel), mth_ok (by intro q h; cases h), thr_ok (by intro q h; cases h), cls_ok (by intro q h; cases h), c32_ok (by intro q h; cases h), c64_ok (by intro q h; cases h), an_ok 0 (by decide +kernel) (fun h => absurd rfl h) (fun _ => by decide +kernel), (rows_ok mr_X7_signAt).2, rfl, hnd_0⟩
set_option maxRecDepth 20000 in
theorem ms_X7_signAt : MStat 80 := ⟨mo_X7_signAt, by decide +kernel, ret_ok (by decide +kernel)⟩
set_option maxRecDepth 20000 in
theorem mr_X7_isWord : rowsC RX7 cX7_isWord 3 "isWord" mi_X7_isWord = true := by decide +kernel
set_option maxRecDepth 20000 in
theorem mo_X7_isWord : MOk RX7 cX7_isWord 3 "isWord" mi_X7_isWord [] := ⟨(rows_ok mr_X7_isWord).1, fld_ok (wG_of [153] (by decide +kernel) (by decide +kernel)) (by decide +kernel), mth_ok (List.forall_mem_cons.mpr ⟨m_0 cal_X7_signAt (wG_t2 55 (by decide +kernel) rfl), List.forall_mem_cons.mpr ⟨m_3 cal_X8_isLetter (by decide +kernel), List.forall_mem_nil _⟩⟩), thr_ok (by intro q h; cases h), cls_ok (by intro q h; cases h), c32_ok (by intro q h; cases h), c64_ok (by intro q h; cases h), an_ok 0 (by decide +kernel) (fun h => absurd rfl h) (fun _ => by decide +kernel), (rows_ok mr_X7_isWord).2, rfl, hnd_0⟩
set_option maxRecDepth 20000 in
theorem ms_X7_isWord : MStat 81 := ⟨mo_X7_isWord, by decide +kernel, ret_ok (by decide +kernel)⟩
set_option maxRecDepth 20000 in
theorem mr_X7_readGrid : rowsC RX7 cX7_readGrid 1 "readGrid" mi_X7_readGrid = true := by decide +kernel
set_option maxRecDepth 20000 in
theorem mo_X7_readGrid : MOk RX7 cX7_readGrid 1 "readGrid" mi_X7_readGrid [] := ⟨(rows_ok mr_X7_readGrid).1, fld_ok (wG_of [157] (by decide +kernel) (by decide +kernel)) (by decide +kernel), mth_ok (List.forall_mem_cons.mpr ⟨m_0 cal_X7_goesPast (wG_t2 51 (by decide +kernel) rfl), List.forall_mem_cons.mpr ⟨m_0 cal_X7_readSize (wG_t2 59 (by decide +kernel) rfl), List.forall_mem_cons.mpr ⟨m_0 cal_X7_readCells (wG_t2 68 (by decide +kernel) rfl), List.forall_mem_cons.mpr ⟨m_0 cal_X7_readParts (wG_t2 91 (by decide +kernel) rfl), List.forall_mem_nil _⟩⟩⟩⟩), thr_ok (by intro q h; cases h), cls_ok (by intro q h; cases h), c32_ok (by intro q h; cases h), c64_ok (by intro q h; cases h), an_ok 0 (by decide +kernel) (fun h => absurd rfl h) (fun _ => by decide +kernel), (rows_ok mr_X7_readGrid).2, rfl, hnd_0⟩
set_option maxRecDepth 20000 in
theorem ms_X7_readGrid : MStat 82 := ⟨mo_X7_readGrid, by decide +kernel, ret_ok (by decide +kernel)⟩
set_option maxRecDepth 20000 in
theorem mr_X7_goesPast : rowsC RX7 cX7_goesPast 2 "goesPast" mi_X7_goesPast = true := by decide +kernel
set_option maxRecDepth 20000 in
theorem mo_X7_goesPast : MOk RX7 cX7_goesPast 2 "goesPast" mi_X7_goesPast [] := ⟨(rows_ok mr_X7_goesPast).1, fld_ok (wG_of [157] (by decide +kernel) (by decide +kernel)) (by decide +kernel), mth_ok (List.forall_mem_cons.mpr ⟨m_0 cal_X7_signAt (wG_t2 55 (by decide +kernel) rfl), List.forall_mem_nil _⟩), thr_ok (by intro q h; cases h), cls_ok (by intro q h; cases h), c32_ok (by intro q h; cases h), c64_ok (by intro q h; cases h), an_ok 0 (by decide +kernel) (fun h => absurd rfl h) (fun _ => by decide +kernel), (rows_ok mr_X7_goesPast).2, rfl, hnd_0⟩
set_option maxRecDepth 20000 in
theorem ms_X7_goesPast : MStat 83 := ⟨mo_X7_goesPast, by decide +kernel, ret_ok (by decide +kernel)⟩
set_option maxRecDepth 20000 in
theorem mr_X7_readSize : rowsC RX7 cX7_readSize 3 "readSize" mi_X7_readSize = true := by decide +kernel
set_option maxRecDepth 20000 in
theorem mo_X7_readSize : MOk RX7 cX7_readSize 3 "readSize" mi_X7_readSize [] := ⟨(rows_ok mr_X7_readSize).1, fld_ok (wG_of [155, 157] (by decide +kernel) (by decide +kernel)) (by decide +kernel), mth_ok (List.forall_mem_cons.mpr ⟨m_0 cal_X7_signAt (wG_t2 55 (by decide +kernel) rfl), List.forall_mem_cons.mpr ⟨m_0 cal_X6_begin (wG_t2 63 (by decide +kernel) rfl), List.forall_mem_nil _⟩⟩), thr_ok (by intro q h; cases h), cls_ok (by intro q h; cases h), c32_ok (by intro q h; cases h), c64_ok (by intro q h; cases h), an_ok 0 (by decide +kernel) (fun h => absurd rfl h) (fun _ => by decide +kernel), (rows_ok mr_X7_readSize).2, rfl, hnd_0⟩
set_option maxRecDepth 20000 in
theorem ms_X7_readSize : MStat 84 := ⟨mo_X7_readSize, by decide +kernel, ret_ok (by decide +kernel)⟩
set_option maxRecDepth 20000 in
theorem mr_X7_readCells : rowsC RX7 cX7_readCells 3 "readCells" mi_X7_readCells = true := by decide +kernel
set_option maxRecDepth 20000 in
theorem mo_X7_readCells : MOk RX7 cX7_readCells 3 "readCells" mi_X7_readCells [] := ⟨(rows_ok mr_X7_readCells).1, fld_ok (wG_of [155, 157] (by decide +kernel) (by decide +kernel)) (by decide +kernel), mth_ok (List.forall_mem_cons.mpr ⟨m_0 cal_X7_signAt (wG_t2 55 (by decide +kernel) rfl), List.forall_mem_cons.mpr ⟨m_3 cal_X8_isLetter (by decide +kernel), List.forall_mem_cons.mpr ⟨m_0 cal_X6_cells (wG_t2 72 (by decide +kernel) rfl), List.forall_mem_cons.mpr ⟨m_0 cal_X6_setLetter (wG_t2 76 (by decide +kernel) rfl), List.forall_mem_cons.mpr ⟨m_0 cal_X7_readBar (wG_t2 81 (by decide +kernel) rfl), List.forall_mem_nil _⟩⟩⟩⟩⟩), thr_ok (by intro q h; cases h), cls_ok (by intro q h; cases h), c32_ok (by intro q h; cases h), c64_ok (by intro q h; cases h), an_ok 0 (by decide +kernel) (fun h => absurd rfl h) (fun _ => by decide +kernel), (rows_ok mr_X7_readCells).2, rfl, hnd_0⟩
set_option maxRecDepth 20000 in
theorem ms_X7_readCells : MStat 85 := ⟨mo_X7_readCells, by decide +kernel, ret_ok (by decide +kernel)⟩
set_option maxRecDepth 20000 in
theorem mr_X7_readBar : rowsC RX7 cX7_readBar 4 "readBar" mi_X7_readBar = true := by decide +kernel
set_option maxRecDepth 20000 in
theorem mo_X7_readBar : MOk RX7 cX7_readBar 4 "readBar" mi_X7_readBar [] := ⟨(rows_ok mr_X7_readBar).1, fld_ok (wG_of [155] (by decide +kernel) (by decide +kernel)) (by decide +kernel), mth_ok (List.forall_mem_cons.mpr ⟨m_0 cal_X7_goesPast (wG_t2 51 (by decide +kernel) rfl), List.forall_mem_cons.mpr ⟨m_0 cal_X6_isPlace (wG_t2 85 (by decide +kernel) rfl), List.forall_mem_cons.mpr ⟨m_0 cal_X6_drawBar (wG_t2 86 (by decide +kernel) rfl), List.forall_mem_nil _⟩⟩⟩), thr_ok (by intro q h; cases h), cls_ok (by intro q h; cases h), c32_ok (by intro q h; cases h), c64_ok (by intro q h; cases h), an_ok 0 (by decide +kernel) (fun h => absurd rfl h) (fun _ => by decide +kernel), (rows_ok mr_X7_readBar).2, rfl, hnd_0⟩
set_option maxRecDepth 20000 in
theorem ms_X7_readBar : MStat 86 := ⟨mo_X7_readBar, by decide +kernel, ret_ok (by decide +kernel)⟩
set_option maxRecDepth 20000 in
theorem mr_X7_readParts : rowsC RX7 cX7_readParts 3 "readParts" mi_X7_readParts = true := by decide +kernel
set_option maxRecDepth 20000 in
theorem mo_X7_readParts : MOk RX7 cX7_readParts 3 "readParts" mi_X7_readParts [] := ⟨(rows_ok mr_X7_readParts).1, fld_ok (wG_of [153, 155, 157, 119, 124] (by decide +kernel) (by decide +kernel)) (by decide +kernel), mth_ok (List.forall_mem_cons.mpr ⟨m_0 cal_X7_goesPast (wG_t2 51 (by decide +kernel) rfl), List.forall_mem_cons.mpr ⟨m_0 cal_X7_readWord (wG_t2 95 (by decide +kernel) rfl), List.forall_mem_cons.mpr ⟨m_0 cal_X7_readLine (wG_t2 115 (by decide +kernel) rfl), List.forall_mem_nil _⟩⟩⟩), thr_ok (by intro q h; cases h), cls_ok (by intro q h; cases h), c32_ok (by intro q h; cases h), c64_ok (by intro q h; cases h), an_ok 0 (by decide +kernel) (fun h => absurd rfl h) (fun _ => by decide +kernel), (rows_ok mr_X7_readParts).2, rfl, hnd_0⟩
set_option maxRecDepth 20000 in
theorem ms_X7_readParts : MStat 87 := ⟨mo_X7_readParts, by decide +kernel, ret_ok (by decide +kernel)⟩
set_option maxRecDepth 20000 in
theorem mr_X7_readWord : rowsC RX7 cX7_readWord 2 "readWord" mi_X7_readWord = true := by decide +kernel
set_option maxRecDepth 20000 in
theorem mo_X7_readWord : MOk RX7 cX7_readWord 2 "readWord" mi_X7_readWord [] := ⟨(rows_ok mr_X7_readWord).1, fld_ok (wG_of [155, 157] (by decide +kernel) (by decide +kernel)) (by decide +kernel), mth_ok (List.forall_mem_cons.mpr ⟨m_0 cal_X7_signAt (wG_t2 55 (by decide +kernel) rfl), List.forall_mem_cons.mpr ⟨m_3 cal_X8_isLetter (by decide +kernel), List.forall_mem_cons.mpr ⟨m_0 cal_X6_beginWord (wG_t2 99 (by decide +kernel) rfl), List.forall_mem_cons.mpr ⟨m_0 cal_X6_lengthenWord (wG_t2 103 (by decide +kernel) rfl), List.forall_mem_nil _⟩⟩⟩⟩), thr_ok (by intro q h; cases h), cls_ok (by intro q h; cases h), c32_ok (by intro q h; cases h), c64_ok (by intro q h; cases h), an_ok 0 (by decide +kernel) (fun h => absurd rfl h) (fun _ => by decide +kernel), (rows_ok mr_X7_readWord).2, rfl, hnd_0⟩
set_option maxRecDepth 20000 in
theorem ms_X7_readWord : MStat 88 := ⟨mo_X7_readWord, by decide +kernel, ret_ok (by decide +kernel)⟩
set_option maxRecDepth 20000 in
theorem mr_X7_readLine : rowsC RX7 cX7_readLine 2 "readLine" mi_X7_readLine = true := by decide +kernel
set_option maxRecDepth 20000 in
theorem mo_X7_readLine : MOk RX7 cX7_readLine 2 "readLine" mi_X7_readLine [] := ⟨(rows_ok mr_X7_readLine).1, fld_ok (wG_of [155, 157] (by decide +kernel) (by decide +kernel)) (by decide +kernel), mth_ok (List.forall_mem_cons.mpr ⟨m_0 cal_X7_signAt (wG_t2 55 (by decide +kernel) rfl), List.forall_mem_cons.mpr ⟨m_3 cal_X8_isLetter (by decide +kernel), List.forall_mem_cons.mpr ⟨m_0 cal_X6_lengthenLine (wG_t2 119 (by decide +kernel) rfl), List.forall_mem_nil _⟩⟩⟩), thr_ok (by intro q h; cases h), cls_ok (by intro q h; cases h), c32_ok (by intro q h; cases h), c64_ok (by intro q h; cases h), an_ok 0 (by decide +kernel) (fun h => absurd rfl h) (fun _ => by decide +kernel), (rows_ok mr_X7_readLine).2, rfl, hnd_0⟩
set_option maxRecDepth 20000 in
theorem ms_X7_readLine : MStat 89 := ⟨mo_X7_readLine, by decide +kernel, ret_ok (by decide +kernel)⟩
set_option maxRecDepth 20000 in
theorem mr_X8_init : rowsC RX8 cX8_init 1 "<init>" mi_X8_init = true := by decide +kernel
set_option maxRecDepth 20000 in
theorem mo_X8_init : MOk RX8 cX8_init 1 "<init>" mi_X8_init [] := ⟨(rows_ok mr_X8_init).1, fld_ok (wG_of [323, 324, 325, 326, 327, 328] (by decide +kernel) (by decide +kernel)) (by decide +kernel), mth_ok (List.forall_mem_cons.mpr ⟨⟨wG_t1 26 (by decide +kernel) rfl, wG_t1 27 (by decide +kernel) rfl, wG_t1 28 rfl rfl⟩, List.forall_mem_cons.mpr ⟨m_4 cal_X7_init (by decide +kernel), List.forall_mem_cons.mpr ⟨m_2 cal_X4_init (wG_t1 103 (by decide +kernel) rfl), List.forall_mem_cons.mpr ⟨m_2 cal_X3_init (wG_t1 185 (by decide +kernel) rfl), List.forall_mem_cons.mpr ⟨m_4 cal_X2_init (by decide +kernel), List.forall_mem_cons.mpr ⟨m_4 cal_X1_init (by decide +kernel), List.forall_mem_nil _⟩⟩⟩⟩⟩⟩), thr_ok (by intro q h; cases h), cls_ok (List.forall_mem_cons.mpr ⟨⟨_, rfl, wG_t1 29 (by decide +kernel) rfl, wG_t1 30 (by decide +kernel) rfl, wG_t1 2 (by decide +kernel) rfl⟩, List.forall_mem_cons.mpr ⟨⟨_, rfl, wG_t1 101 (by decide +kernel) rfl, wG_t1 102 (by decide +kernel) rfl, wG_t1 4 (by decide +kernel) rfl⟩, List.forall_mem_cons.mpr ⟨⟨_, rfl, wG_t1 183 (by decide +kernel) rfl, wG_t1 184 (by decide +kernel) rfl, wG_t1 6 (by decide +kernel) rfl⟩, List.forall_mem_cons.mpr ⟨⟨_, rfl, wG_t1 209 (by decide +kernel) rfl, wG_t1 210 (by decide +kernel) rfl, wG_t1 7 (by decide +kernel) rfl⟩, List.forall_mem_cons.mpr ⟨⟨_, rfl, wG_t1 237 (by decide +kernel) rfl, wG_t1 238 (by decide +kernel) rfl, wG_t1 8 (by decide +kernel) rfl⟩, List.forall_mem_nil _⟩⟩⟩⟩⟩), c32_ok (by intro q h; cases h), c64_ok (by intro q h; cases h), an_ok 0 (by decide +kernel) (fun h => absurd rfl h) (fun _ => by decide +kernel), (rows_ok mr_X8_init).2, rfl, hnd_0⟩
set_option maxRecDepth 20000 in
theorem ms_X8_init : MStat 90 := ⟨mo_X8_init, by decide +kernel, ret_ok (by decide +kernel)⟩
set_option maxRecDepth 20000 in
theorem mr_X8_append : rowsC RX8 cX8_append 2 "append" mi_X8_append = true := by decide +kernel
set_option maxRecDepth 20000 in
theorem mo_X8_append : MOk RX8 cX8_append 2 "append" mi_X8_append [] := ⟨(rows_ok mr_X8_append).1, fld_ok (wG_of [323] (by decide +kernel) (by decide +kernel)) (by decide +kernel), mth_ok (List.forall_mem_cons.mpr ⟨m_0 cal_X7_isFull (wG_t3 157 (by decide +kernel) rfl), List.forall_mem_cons.mpr ⟨m_0 cal_X7_add (wG_t3 177 (by decide +kernel) rfl), List.forall_mem_nil _⟩⟩), thr_ok (List.forall_mem_cons.mpr ⟨⟨rfl, by decide +kernel, 47, 49, 51, "no character code", by decide +kernel, by decide +kernel, Or.inl ⟨by decide +kernel, by decide +kernel, by decide +kernel⟩, wG_t3 89 (by decide +kernel) rfl, wG_t1 13 (by decide +kernel) rfl, by decide +kernel, at_0, an_0, by decide +kernel, by decide +kernel, by decide +kernel⟩, List.forall_mem_cons.mpr ⟨⟨rfl, by decide +kernel, 58, 60, 62, "the text is full", by decide +kernel, by decide +kernel, Or.inl ⟨by decide +kernel, by decide +kernel, by decide +kernel⟩, wG_t3 161 (by decide +kernel) rfl, wG_t1 14 (by decide +kernel) rfl, by decide +kernel, at_1, an_1, by decide +kernel, by decide +kernel, by decide +kernel⟩, List.forall_mem_nil _⟩⟩), cls_ok (by intro q h; cases h), c32_ok (by intro q h; cases h), c64_ok (by intro q h; cases h), an_ok 0 (by decide +kernel) (fun h => absurd rfl h) (fun _ => by decide +kernel), (rows_ok mr_X8_append).2, rfl, hnd_0⟩
set_option maxRecDepth 20000 in
theorem ms_X8_append : MStat 91 := ⟨mo_X8_append, by decide +kernel, ret_ok (by decide +kernel)⟩
set_option maxRecDepth 20000 in
theorem mr_X8_clearText : rowsC RX8 cX8_clearText 1 "clearText" mi_X8_clearText = true := by decide +kernel
set_option maxRecDepth 20000 in
theorem mo_X8_clearText : MOk RX8 cX8_clearText 1 "clearText" mi_X8_clearText [] := ⟨(rows_ok mr_X8_clearText).1, fld_ok (wG_of [323] (by decide +kernel) (by decide +kernel)) (by decide +kernel), mth_ok (List.forall_mem_cons.mpr ⟨m_0 cal_X7_empty (wG_t2 39 (by decide +kernel) rfl), List.forall_mem_nil _⟩), thr_ok (by intro q h; cases h), cls_ok (by intro q h; cases h), c32_ok (by intro q h; cases h), c64_ok (by intro q h; cases h), an_ok 0 (by decide +kernel) (fun h => absurd rfl h) (fun _ => by decide +kernel), (rows_ok mr_X8_clearText).2, rfl, hnd_0⟩
set_option maxRecDepth 20000 in
theorem ms_X8_clearText : MStat 92 := ⟨mo_X8_clearText, by decide +kernel, ret_ok (by decide +kernel)⟩
set_option maxRecDepth 20000 in
theorem mr_X8_errorPosition : rowsC RX8 cX8_errorPosition 1 "errorPosition" mi_X8_errorPosition = true := by decide +kernel
set_option maxRecDepth 20000 in
theorem mo_X8_errorPosition : MOk RX8 cX8_errorPosition 1 "errorPosition" mi_X8_errorPosition [] := ⟨(rows_ok mr_X8_errorPosition).1, fld_ok (wG_of [323] (by decide +kernel) (by decide +kernel)) (by decide +kernel), mth_ok (List.forall_mem_cons.mpr ⟨m_0 cal_X7_readGrid (wG_t2 47 (by decide +kernel) rfl), List.forall_mem_nil _⟩), thr_ok (by intro q h; cases h), cls_ok (by intro q h; cases h), c32_ok (by intro q h; cases h), c64_ok (by intro q h; cases h), an_ok 0 (by decide +kernel) (fun h => absurd rfl h) (fun _ => by decide +kernel), (rows_ok mr_X8_errorPosition).2, rfl, hnd_0⟩
set_option maxRecDepth 20000 in
theorem ms_X8_errorPosition : MStat 93 := ⟨mo_X8_errorPosition, by decide +kernel, ret_ok (by decide +kernel)⟩
set_option maxRecDepth 20000 in
theorem mr_X8_load : rowsC RX8 cX8_load 1 "load" mi_X8_load = true := by decide +kernel
set_option maxRecDepth 20000 in
theorem mo_X8_load : MOk RX8 cX8_load 1 "load" mi_X8_load [] := ⟨(rows_ok mr_X8_load).1, fld_ok (wG_of [323, 324, 326, 156, 212] (by decide +kernel) (by decide +kernel)) (by decide +kernel), mth_ok (List.forall_mem_cons.mpr ⟨m_0 cal_X7_readGrid (wG_t2 47 (by decide +kernel) rfl), List.forall_mem_cons.mpr ⟨m_0 cal_X4_take (wG_t3 7 (by decide +kernel) rfl), List.forall_mem_cons.mpr ⟨m_0 cal_X3_forgetActions (wG_t3 189 (by decide +kernel) rfl), List.forall_mem_cons.mpr ⟨m_0 cal_X3_emptySlots (wG_t3 193 (by decide +kernel) rfl), List.forall_mem_cons.mpr ⟨m_0 cal_X6_cells (wG_t3 58 (by decide +kernel) rfl), List.forall_mem_nil _⟩⟩⟩⟩⟩), thr_ok (List.forall_mem_cons.mpr ⟨⟨rfl, by decide +kernel, 58, 74, 62, "the text is not a grid", by decide +kernel, by decide +kernel, Or.inl ⟨by decide +kernel, by decide +kernel, by decide +kernel⟩, wG_t3 161 (by decide +kernel) rfl, wG_t1 14 (by decide +kernel) rfl, by decide +kernel, at_1, an_1, by decide +kernel, by decide +kernel, by decide +kernel⟩, List.forall_mem_nil _⟩), cls_ok (by intro q h; cases h), c32_ok (by intro q h; cases h), c64_ok (by intro q h; cases h), an_ok 0 (by decide +kernel) (fun h => absurd rfl h) (fun _ => by decide +kernel), (rows_ok mr_X8_load).2, rfl, hnd_0⟩
set_option maxRecDepth 20000 in
theorem ms_X8_load : MStat 94 := ⟨mo_X8_load, by decide +kernel, ret_ok (by decide +kernel)⟩
set_option maxRecDepth 20000 in
theorem mr_X8_about : rowsC RX8 cX8_about 2 "about" mi_X8_about = true := by decide +kernel
set_option maxRecDepth 20000 in
theorem mo_X8_about : MOk RX8 cX8_about 2 "about" mi_X8_about [] := ⟨(rows_ok mr_X8_about).1, fld_ok (wG_of [324, 212, 110, 115, 217, 219, 118, 123, 221] (by decide +kernel) (by decide +kernel)) (by decide +kernel), mth_ok (List.forall_mem_cons.mpr ⟨m_0 cal_X4_cellsInEntries (wG_t3 204 (by decide +kernel) rfl), List.forall_mem_cons.mpr ⟨m_0 cal_X6_emptyCells (wG_t3 205 (by decide +kernel) rfl), List.forall_mem_cons.mpr ⟨m_0 cal_X6_barCount (wG_t3 210 (by decide +kernel) rfl), List.forall_mem_nil _⟩⟩⟩), thr_ok (List.forall_mem_cons.mpr ⟨⟨rfl, by decide +kernel, 47, 129, 51, "what is not 0 to 10", by decide +kernel, by decide +kernel, Or.inl ⟨by decide +kernel, by decide +kernel, by decide +kernel⟩, wG_t3 89 (by decide +kernel) rfl, wG_t1 13 (by decide +kernel) rfl, by decide +kernel, at_0, an_0, by decide +kernel, by decide +kernel, by decide +kernel⟩, List.forall_mem_nil _⟩), cls_ok (by intro q h; cases h), c32_ok (by intro q h; cases h), c64_ok (by intro q h; cases h), an_ok 0 (by decide +kernel) (fun h => absurd rfl h) (fun _ => by decide +kernel), (rows_ok mr_X8_about).2, rfl, hnd_0⟩
set_option maxRecDepth 20000 in
theorem ms_X8_about : MStat 95 := ⟨mo_X8_about, by decide +kernel, ret_ok (by decide +kernel)⟩
set_option maxRecDepth 20000 in
theorem mr_X8_cell : rowsC RX8 cX8_cell 3 "cell" mi_X8_cell = true := by decide +kernel
set_option maxRecDepth 20000 in
theorem mo_X8_cell : MOk RX8 cX8_cell 3 "cell" mi_X8_cell [] := ⟨(rows_ok mr_X8_cell).1, fld_ok (wG_of [324, 212] (by decide +kernel) (by decide +kernel)) (by decide +kernel), mth_ok (List.forall_mem_cons.mpr ⟨m_0 cal_X8_requireCell (wG_t3 224 (by decide +kernel) rfl), List.forall_mem_cons.mpr ⟨m_0 cal_X6_letterAt (wG_t4 5 (by decide +kernel) rfl), List.forall_mem_cons.mpr ⟨m_0 cal_X6_hasBar (wG_t3 60 (by decide +kernel) rfl), List.forall_mem_cons.mpr ⟨m_0 cal_X4_entryAt (wG_t4 6 (by decide +kernel) rfl), List.forall_mem_cons.mpr ⟨m_0 cal_X4_entriesAt (wG_t4 7 (by decide +kernel) rfl), List.forall_mem_cons.mpr ⟨m_0 cal_X4_clueAt (wG_t4 8 (by decide +kernel) rfl), List.forall_mem_nil _⟩⟩⟩⟩⟩⟩), thr_ok (List.forall_mem_cons.mpr ⟨⟨rfl, by decide +kernel, 47, 152, 51, "what is not 0 to 6", by decide +kernel, by decide +kernel, Or.inl ⟨by decide +kernel, by decide +kernel, by decide +kernel⟩, wG_t3 89 (by decide +kernel) rfl, wG_t1 13 (by decide +kernel) rfl, by decide +kernel, at_0, an_0, by decide +kernel, by decide +kernel, by decide +kernel⟩, List.forall_mem_nil _⟩), cls_ok (by intro q h; cases h), c32_ok (by intro q h; cases h), c64_ok (by intro q h; cases h), an_ok 0 (by decide +kernel) (fun h => absurd rfl h) (fun _ => by decide +kernel), (rows_ok mr_X8_cell).2, rfl, hnd_0⟩
set_option maxRecDepth 20000 in
theorem ms_X8_cell : MStat 96 := ⟨mo_X8_cell, by decide +kernel, ret_ok (by decide +kernel)⟩
set_option maxRecDepth 20000 in
theorem mr_X8_entry : rowsC RX8 cX8_entry 3 "entry" mi_X8_entry = true := by decide +kernel
set_option maxRecDepth 20000 in
theorem mo_X8_entry : MOk RX8 cX8_entry 3 "entry" mi_X8_entry [] := ⟨(rows_ok mr_X8_entry).1, fld_ok (wG_of [324] (by decide +kernel) (by decide +kernel)) (by decide +kernel), mth_ok (List.forall_mem_cons.mpr ⟨m_0 cal_X4_clueAt (wG_t4 8 (by decide +kernel) rfl), List.forall_mem_cons.mpr ⟨m_0 cal_X8_requireEntry (wG_t4 20 (by decide +kernel) rfl), List.forall_mem_cons.mpr ⟨m_0 cal_X4_cellOf (wG_t4 26 (by decide +kernel) rfl), List.forall_mem_cons.mpr ⟨m_0 cal_X4_isDown (wG_t4 27 (by decide +kernel) rfl), List.forall_mem_cons.mpr ⟨m_0 cal_X4_lengthOf (wG_t4 28 (by decide +kernel) rfl), List.forall_mem_cons.mpr ⟨m_0 cal_X4_uncheckedIn (wG_t4 29 (by decide +kernel) rfl), List.forall_mem_cons.mpr ⟨m_0 cal_X4_emptyIn (wG_t3 71 (by decide +kernel) rfl), List.forall_mem_cons.mpr ⟨m_0 cal_X4_wordIn (wG_t4 30 (by decide +kernel) rfl), List.forall_mem_nil _⟩⟩⟩⟩⟩⟩⟩⟩), thr_ok (List.forall_mem_cons.mpr ⟨⟨rfl, by decide +kernel, 47, 152, 51, "what is not 0 to 6", by decide +kernel, by decide +kernel, Or.inl ⟨by decide +kernel, by decide +kernel, by decide +kernel⟩, wG_t3 89 (by decide +kernel) rfl, wG_t1 13 (by decide +kernel) rfl, by decide +kernel, at_0, an_0, by decide +kernel, by decide +kernel, by decide +kernel⟩, List.forall_mem_nil _⟩), cls_ok (by intro q h; cases h), c32_ok (by intro q h; cases h), c64_ok (by intro q h; cases h), an_ok 0 (by decide +kernel) (fun h => absurd rfl h) (fun _ => by decide +kernel), (rows_ok mr_X8_entry).2, rfl, hnd_0⟩
set_option maxRecDepth 20000 in
theorem ms_X8_entry : MStat 97 := ⟨mo_X8_entry, by decide +kernel, ret_ok (by decide +kernel)⟩
set_option maxRecDepth 20000 in
theorem mr_X8_word : rowsC RX8 cX8_word 3 "word" mi_X8_word = true := by decide +kernel
set_option maxRecDepth 20000 in
theorem mo_X8_word : MOk RX8 cX8_word 3 "word" mi_X8_word [] := ⟨(rows_ok mr_X8_word).1, fld_ok (wG_of [324, 212] (by decide +kernel) (by decide +kernel)) (by decide +kernel), mth_ok (List.forall_mem_cons.mpr ⟨m_0 cal_X8_requireWord (wG_t4 42 (by decide +kernel) rfl), List.forall_mem_cons.mpr ⟨m_0 cal_X6_letterOfWord (wG_t4 49 (by decide +kernel) rfl), List.forall_mem_nil _⟩⟩), thr_ok (List.forall_mem_cons.mpr ⟨⟨rfl, by decide +kernel, 47, 180, 51, "no such letter", by decide +kernel, by decide +kernel, Or.inl ⟨by decide +kernel, by decide +kernel, by decide +kernel⟩, wG_t3 89 (by decide +kernel) rfl, wG_t1 13 (by decide +kernel) rfl, by decide +kernel, at_0, an_0, by decide +kernel, by decide +kernel, by decide +kernel⟩, List.forall_mem_nil _⟩), cls_ok (by intro q h; cases h), c32_ok (by intro q h; cases h), c64_ok (by intro q h; cases h), an_ok 0 (by decide +kernel) (fun h => absurd rfl h) (fun _ => by decide +kernel), (rows_ok mr_X8_word).2, rfl, hnd_0⟩
set_option maxRecDepth 20000 in
theorem ms_X8_word : MStat 98 := ⟨mo_X8_word, by decide +kernel, ret_ok (by decide +kernel)⟩
set_option maxRecDepth 20000 in
theorem mr_X8_fits : rowsC RX8 cX8_fits 2 "fits" mi_X8_fits = true := by decide +kernel
set_option maxRecDepth 20000 in
theorem mo_X8_fits : MOk RX8 cX8_fits 2 "fits" mi_X8_fits [] := ⟨(rows_ok mr_X8_fits).1, fld_ok (wG_of [324] (by decide +kernel) (by decide +kernel)) (by decide +kernel), mth_ok (List.forall_mem_cons.mpr ⟨m_0 cal_X8_requireEntry (wG_t4 20 (by decide +kernel) rfl), List.forall_mem_cons.mpr ⟨m_0 cal_X4_fitCount (wG_t3 75 (by decide +kernel) rfl), List.forall_mem_nil _⟩⟩), thr_ok (by intro q h; cases h), cls_ok (by intro q h; cases h), c32_ok (by intro q h; cases h), c64_ok (by intro q h; cases h), an_ok 0 (by decide +kernel) (fun h => absurd rfl h) (fun _ => by decide +kernel), (rows_ok mr_X8_fits).2, rfl, hnd_0⟩
set_option maxRecDepth 20000 in
theorem ms_X8_fits : MStat 99 := ⟨mo_X8_fits, by decide +kernel, ret_ok (by decide +kernel)⟩
set_option maxRecDepth 20000 in
theorem mr_X8_rule : rowsC RX8 cX8_rule 2 "rule" mi_X8_rule = true := by decide +kernel
set_option maxRecDepth 20000 in
theorem mo_X8_rule : MOk RX8 cX8_rule 2 "rule" mi_X8_rule [] := ⟨(rows_ok mr_X8_rule).1, fld_ok (wG_of [324] (by decide +kernel) (by decide +kernel)) (by decide +kernel), mth_ok (List.forall_mem_cons.mpr ⟨m_1 cal_X5_areKept (wG_t4 65 (by decide +kernel) rfl), List.forall_mem_nil _⟩), thr_ok (List.forall_mem_cons.mpr ⟨⟨rfl, by decide +kernel, 47, 188, 51, "no such rule", by decide +kernel, by decide +kernel, Or.inl ⟨by decide +kernel, by decide +kernel, by decide +kernel⟩, wG_t3 89 (by decide +kernel) rfl, wG_t1 13 (by decide +kernel) rfl, by decide +kernel, at_0, an_0, by decide +kernel, by decide +kernel, by decide +kernel⟩, List.forall_mem_nil _⟩), cls_ok (by intro q h; cases h), c32_ok (by intro q h; cases h), c64_ok (by intro q h; cases h), an_ok 0 (by decide +kernel) (fun h => absurd rfl h) (fun _ => by decide +kernel), (rows_ok mr_X8_rule).2, rfl, hnd_0⟩
set_option maxRecDepth 20000 in
theorem ms_X8_rule : MStat 100 := ⟨mo_X8_rule, by decide +kernel, ret_ok (by decide +kernel)⟩
set_option maxRecDepth 20000 in
theorem mr_X8_readings : rowsC RX8 cX8_readings 1 "readings" mi_X8_readings = true := by decide +kernel
set_option maxRecDepth 20000 in
theorem mo_X8_readings : MOk RX8 cX8_readings 1 "readings" mi_X8_readings [] := ⟨(rows_ok mr_X8_readings).1, fld_ok (wG_of [324, 327] (by decide +kernel) (by decide +kernel)) (by decide +kernel), mth_ok (List.forall_mem_cons.mpr ⟨m_0 cal_X2_count (wG_t2 128 (by decide +kernel) rfl), List.forall_mem_nil _⟩), thr_ok (by intro q h; cases h), cls_ok (by intro q h; cases h), c32_ok (List.forall_mem_cons.mpr ⟨Or.inl ⟨2147483647, by decide +kernel, wG_t2 127 (by decide +kernel) rfl⟩, List.forall_mem_nil _⟩), c64_ok (List.forall_mem_cons.mpr ⟨Or.inr (by decide +kernel), List.forall_mem_nil _⟩), an_ok 0 (by decide +kernel) (fun h => absurd rfl h) (fun _ => by decide +kernel), (rows_ok mr_X8_readings).2, rfl, hnd_0⟩
set_option maxRecDepth 20000 in
theorem ms_X8_readings : MStat 101 := ⟨mo_X8_readings, by decide +kernel, ret_ok (by decide +kernel)⟩
set_option maxRecDepth 20000 in
theorem mr_X8_reading : rowsC RX8 cX8_reading 3 "reading" mi_X8_reading = true := by decide +kernel
set_option maxRecDepth 20000 in
theorem mo_X8_reading : MOk RX8 cX8_reading 3 "reading" mi_X8_reading [] := ⟨(rows_ok mr_X8_reading).1, fld_ok (wG_of [324, 327] (by decide +kernel) (by decide +kernel)) (by decide +kernel), mth_ok (List.forall_mem_cons.mpr ⟨m_0 cal_X2_count (wG_t2 128 (by decide +kernel) rfl), List.forall_mem_cons.mpr ⟨m_0 cal_X2_cellOfFirst (wG_t4 74 (by decide +kernel) rfl), List.forall_mem_nil _⟩⟩), thr_ok (List.forall_mem_cons.mpr ⟨⟨rfl, by decide +kernel, 47, 201, 51, "no such cell of a reading", by decide +kernel, by decide +kernel, Or.inl ⟨by decide +kernel, by decide +kernel, by decide +kernel⟩, wG_t3 89 (by decide +kernel) rfl, wG_t1 13 (by decide +kernel) rfl, by decide +kernel, at_0, an_0, by decide +kernel, by decide +kernel, by decide +kernel⟩, List.forall_mem_nil _⟩), cls_ok (by intro q h; cases h), c32_ok (by intro q h; cases h), c64_ok (by intro q h; cases h), an_ok 0 (by decide +kernel) (fun h => absurd rfl h) (fun _ => by decide +kernel), (rows_ok mr_X8_reading).2, rfl, hnd_0⟩
set_option maxRecDepth 20000 in
theorem ms_X8_reading : MStat 102 := ⟨mo_X8_reading, by decide +kernel, ret_ok (by decide +kernel)⟩
set_option maxRecDepth 20000 in
theorem mr_X8_put : rowsC RX8 cX8_put 4 "put" mi_X8_put = true := by decide +kernel
set_option maxRecDepth 20000 in
theorem mo_X8_put : MOk RX8 cX8_put 4 "put" mi_X8_put [] := ⟨(rows_ok mr_X8_put).1, fld_ok (wG_of [324, 326, 212] (by decide +kernel) (by decide +kernel)) (by decide +kernel), mth_ok (List.forall_mem_cons.mpr ⟨m_0 cal_X8_requireCell (wG_t3 224 (by decide +kernel) rfl), List.forall_mem_cons.mpr ⟨m_0 cal_X6_letterAt (wG_t4 5 (by decide +kernel) rfl), List.forall_mem_cons.mpr ⟨m_1 cal_X8_isLetter (wG_t4 85 (by decide +kernel) rfl), List.forall_mem_cons.mpr ⟨m_0 cal_X3_remember (wG_t4 87 (by decide +kernel) rfl), List.forall_mem_cons.mpr ⟨m_0 cal_X6_setLetter (wG_t4 99 (by decide +kernel) rfl), List.forall_mem_nil _⟩⟩⟩⟩⟩), thr_ok (List.forall_mem_cons.mpr ⟨⟨rfl, by decide +kernel, 47, 209, 51, "neither a letter nor 0", by decide +kernel, by decide +kernel, Or.inl ⟨by decide +kernel, by decide +kernel, by decide +kernel⟩, wG_t3 89 (by decide +kernel) rfl, wG_t1 13 (by decide +kernel) rfl, by decide +kernel, at_0, an_0, by decide +kernel, by decide +kernel, by decide +kernel⟩, List.forall_mem_nil _⟩), cls_ok (by intro q h; cases h), c32_ok (by intro q h; cases h), c64_ok (by intro q h; cases h), an_ok 0 (by decide +kernel) (fun h => absurd rfl h) (fun _ => by decide +kernel), (rows_ok mr_X8_put).2, rfl, hnd_0⟩
set_option maxRecDepth 20000 in
theorem ms_X8_put : MStat 103 := ⟨mo_X8_put, by decide +kernel, ret_ok (by decide +kernel)⟩
set_option maxRecDepth 20000 in
theorem mr_X8_setBar : rowsC RX8 cX8_setBar 4 "setBar" mi_X8_setBar = true := by decide +kernel
set_option maxRecDepth 20000 in
theorem mo_X8_setBar : MOk RX8 cX8_setBar 4 "setBar" mi_X8_setBar [] := ⟨(rows_ok mr_X8_setBar).1, fld_ok (wG_of [324, 326, 212, 217] (by decide +kernel) (by decide +kernel)) (by decide +kernel), mth_ok (List.forall_mem_cons.mpr ⟨m_0 cal_X8_requireCell (wG_t3 224 (by decide +kernel) rfl), List.forall_mem_cons.mpr ⟨m_0 cal_X3_remember (wG_t4 87 (by decide +kernel) rfl), List.forall_mem_cons.mpr ⟨m_0 cal_X6_isPlace (wG_t3 59 (by decide +kernel) rfl), List.forall_mem_cons.mpr ⟨m_0 cal_X4_changeBar (wG_t3 61 (by decide +kernel) rfl), List.forall_mem_nil _⟩⟩⟩⟩), thr_ok (List.forall_mem_cons.mpr ⟨⟨rfl, by decide +kernel, 47, 221, 51, "there is the rim", by decide +kernel, by decide +kernel, Or.inl ⟨by decide +kernel, by decide +kernel, by decide +kernel⟩, wG_t3 89 (by decide +kernel) rfl, wG_t1 13 (by decide +kernel) rfl, by decide +kernel, at_0, an_0, by decide +kernel, by decide +kernel, by decide +kernel⟩, List.forall_mem_nil _⟩), cls_ok (by intro q h; cases h), c32_ok (by intro q h; cases h), c64_ok (by intro q h; cases h), an_ok 0 (by decide +kernel) (fun h => absurd rfl h) (fun _ => by decide +kernel), (rows_ok mr_X8_setBar).2, rfl, hnd_0⟩
set_option maxRecDepth 20000 in
theorem ms_X8_setBar : MStat 104 := ⟨mo_X8_setBar, by decide +kernel, ret_ok (by decide +kernel)⟩
set_option maxRecDepth 20000 in
theorem mr_X8_addWord : rowsC RX8 cX8_addWord 2 "addWord" mi_X8_addWord = true := by decide +kernel
set_option maxRecDepth 20000 in
theorem mo_X8_addWord : MOk RX8 cX8_addWord 2 "addWord" mi_X8_addWord [] := ⟨(rows_ok mr_X8_addWord).1, fld_ok (wG_of [323, 324, 326, 212, 118, 154] (by decide +kernel) (by decide +kernel)) (by decide +kernel), mth_ok (List.forall_mem_cons.mpr ⟨m_0 cal_X3_remember (wG_t4 87 (by decide +kernel) rfl), List.forall_mem_cons.mpr ⟨m_0 cal_X7_isWord (wG_t4 115 (by decide +kernel) rfl), List.forall_mem_cons.mpr ⟨m_0 cal_X6_beginWord (wG_t4 120 (by decide +kernel) rfl), List.forall_mem_cons.mpr ⟨m_0 cal_X7_signAt (wG_t4 121 (by decide +kernel) rfl), List.forall_mem_cons.mpr ⟨m_0 cal_X6_lengthenWord (wG_t4 122 (by decide +kernel) rfl), List.forall_mem_nil _⟩⟩⟩⟩⟩), thr_ok (List.forall_mem_cons.mpr ⟨⟨rfl, by decide +kernel, 58, 230, 62, "the text is no word, or there are 8 words", by decide +kernel, by decide +kernel, Or.inl ⟨by decide +kernel, by decide +kernel, by decide +kernel⟩, wG_t3 161 (by decide +kernel) rfl, wG_t1 14 (by decide +kernel) rfl, by decide +kernel, at_1, an_1, by decide +kernel, by decide +kernel, by decide +kernel⟩, List.forall_mem_nil _⟩), cls_ok (by intro q h; cases h), c32_ok (by intro q h; cases h), c64_ok (by intro q h; cases h), an_ok 0 (by decide +kernel) (fun h => absurd rfl h) (fun _ => by decide +kernel), (rows_ok mr_X8_addWord).2, rfl, hnd_0⟩
set_option maxRecDepth 20000 in
theorem ms_X8_addWord : MStat 105 := ⟨mo_X8_addWord, by decide +kernel, ret_ok (by decide +kernel)⟩
set_option maxRecDepth 20000 in
theorem mr_X8_setLine : rowsC RX8 cX8_setLine 2 "setLine" mi_X8_setLine = true := by decide +kernel
set_option maxRecDepth 20000 in
theorem mo_X8_setLine : MOk RX8 cX8_setLine 2 "setLine" mi_X8_setLine [] := ⟨(rows_ok mr_X8_setLine).1, fld_ok (wG_of [323, 324, 326, 212, 123, 154] (by decide +kernel) (by decide +kernel)) (by decide +kernel), mth_ok (List.forall_mem_cons.mpr ⟨m_0 cal_X3_remember (wG_t4 87 (by decide +kernel) rfl), List.forall_mem_cons.mpr ⟨m_0 cal_X7_isWord (wG_t4 115 (by decide +kernel) rfl), List.forall_mem_cons.mpr ⟨m_0 cal_X7_signAt (wG_t4 121 (by decide +kernel) rfl), List.forall_mem_cons.mpr ⟨m_0 cal_X6_lengthenLine (wG_t4 131 (by decide +kernel) rfl), List.forall_mem_nil _⟩⟩⟩⟩), thr_ok (List.forall_mem_cons.mpr ⟨⟨rfl, by decide +kernel, 58, 244, 62, "the text is no line", by decide +kernel, by decide +kernel, Or.inl ⟨by decide +kernel, by decide +kernel, by decide +kernel⟩, wG_t3 161 (by decide +kernel) rfl, wG_t1 14 (by decide +kernel) rfl, by decide +kernel, at_1, an_1, by decide +kernel, by decide +kernel, by decide +kernel⟩, List.forall_mem_nil _⟩), cls_ok (by intro q h; cases h), c32_ok (by intro q h; cases h), c64_ok (by intro q h; cases h), an_ok 0 (by decide +kernel) (fun h => absurd rfl h) (fun _ => by decide +kernel), (rows_ok mr_X8_setLine).2, rfl, hnd_0⟩
set_option maxRecDepth 20000 in
theorem ms_X8_setLine : MStat 106 := ⟨mo_X8_setLine, by decide +kernel, ret_ok (by decide +kernel)⟩
set_option maxRecDepth 20000 in
theorem mr_X8_write : rowsC RX8 cX8_write 3 "write" mi_X8_write = true := by decide +kernel
set_option maxRecDepth 20000 in
theorem mo_X8_write : MOk RX8 cX8_write 3 "write" mi_X8_write [] := ⟨(rows_ok mr_X8_write).1, fld_ok (wG_of [324, 326, 212] (by decide +kernel) (by decide +kernel)) (by decide +kernel), mth_ok (List.forall_mem_cons.mpr ⟨m_0 cal_X8_requireEntry (wG_t4 20 (by decide +kernel) rfl), List.forall_mem_cons.mpr ⟨m_0 cal_X8_requireWord (wG_t4 42 (by decide +kernel) rfl), List.forall_mem_cons.mpr ⟨m_0 cal_X3_remember (wG_t4 87 (by decide +kernel) rfl), List.forall_mem_cons.mpr ⟨m_0 cal_X4_fitsWord (wG_t4 139 (by decide +kernel) rfl), List.forall_mem_cons.mpr ⟨m_0 cal_X4_fillEntry (wG_t4 141 (by decide +kernel) rfl), List.forall_mem_nil _⟩⟩⟩⟩⟩), thr_ok (List.forall_mem_cons.mpr ⟨⟨rfl, by decide +kernel, 58, 253, 62, "the entry does not fit the word", by decide +kernel, by decide +kernel, Or.inl ⟨by decide +kernel, by decide +kernel, by decide +kernel⟩, wG_t3 161 (by decide +kernel) rfl, wG_t1 14 (by decide +kernel) rfl, by decide +kernel, at_1, an_1, by decide +kernel, by decide +kernel, by decide +kernel⟩, List.forall_mem_nil _⟩), cls_ok (by intro q h; cases h), c32_ok (by intro q h; cases h), c64_ok (by intro q h; cases h), an_ok 0 (by decide +kernel) (fun h => absurd rfl h) (fun _ => by decide +kernel), (rows_ok mr_X8_write).2, rfl, hnd_0⟩
set_option maxRecDepth 20000 in
theorem ms_X8_write : MStat 107 := ⟨mo_X8_write, by decide +kernel, ret_ok (by decide +kernel)⟩
set_option maxRecDepth 20000 in
theorem mr_X8_erase : rowsC RX8 cX8_erase 2 "erase" mi_X8_erase = true := by decide +kernel
set_option maxRecDepth 20000 in
theorem mo_X8_erase : MOk RX8 cX8_erase 2 "erase" mi_X8_erase [] := ⟨(rows_ok mr_X8_erase).1, fld_ok (wG_of [324, 326, 212] (by decide +kernel) (by decide +kernel)) (by decide +kernel), mth_ok (List.forall_mem_cons.mpr ⟨m_0 cal_X8_requireEntry (wG_t4 20 (by decide +kernel) rfl), List.forall_mem_cons.mpr ⟨m_0 cal_X3_remember (wG_t4 87 (by decide +kernel) rfl), List.forall_mem_cons.mpr ⟨m_0 cal_X4_clearEntry (wG_t4 153 (by decide +kernel) rfl), List.forall_mem_nil _⟩⟩⟩), thr_ok (by intro q h; cases h), cls_ok (by intro q h; cases h), c32_ok (by intro q h; cases h), c64_ok (by intro q h; cases h), an_ok 0 (by decide +kernel) (fun h => absurd rfl h) (fun _ => by decide +kernel), (rows_ok mr_X8_erase).2, rfl, hnd_0⟩
set_option maxRecDepth 20000 in
theorem ms_X8_erase : MStat 108 := ⟨mo_X8_erase, by decide +kernel, ret_ok (by decide +kernel)⟩
set_option maxRecDepth 20000 in
theorem mr_X8_undo : rowsC RX8 cX8_undo 1 "undo" mi_X8_undo = true := by decide +kernel
set_option maxRecDepth 20000 in
theorem mo_X8_undo : MOk RX8 cX8_undo 1 "undo" mi_X8_undo [] := ⟨(rows_ok mr_X8_undo).1, fld_ok (wG_of [324, 326, 260] (by decide +kernel) (by decide +kernel)) (by decide +kernel), mth_ok (List.forall_mem_cons.mpr ⟨m_0 cal_X4_take (wG_t3 7 (by decide +kernel) rfl), List.forall_mem_cons.mpr ⟨m_0 cal_X3_takeLast (wG_t4 167 (by decide +kernel) rfl), List.forall_mem_nil _⟩⟩), thr_ok (List.forall_mem_cons.mpr ⟨⟨rfl, by decide +kernel, 58, 264, 62, "no state is remembered", by decide +kernel, by decide +kernel, Or.inr ⟨by decide +kernel, by decide +kernel, by decide +kernel⟩, wG_t3 161 (by decide +kernel) rfl, wG_t1 14 (by decide +kernel) rfl, by decide +kernel, at_1, an_1, by decide +kernel, by decide +kernel, by decide +kernel⟩, List.forall_mem_nil _⟩), cls_ok (by intro q h; cases h), c32_ok (by intro q h; cases h), c64_ok (by intro q h; cases h), an_ok 0 (by decide +kernel) (fun h => absurd rfl h) (fun _ => by decide +kernel), (rows_ok mr_X8_undo).2, rfl, hnd_0⟩
set_option maxRecDepth 20000 in
theorem ms_X8_undo : MStat 109 := ⟨mo_X8_undo, by decide +kernel, ret_ok (by decide +kernel)⟩
set_option maxRecDepth 20000 in
theorem mr_X8_possible : rowsC RX8 cX8_possible 1 "possible" mi_X8_possible = true := by decide +kernel
set_option maxRecDepth 20000 in
theorem mo_X8_possible : MOk RX8 cX8_possible 1 "possible" mi_X8_possible [] := ⟨(rows_ok mr_X8_possible).1, fld_ok (wG_of [324, 327] (by decide +kernel) (by decide +kernel)) (by decide +kernel), mth_ok (List.forall_mem_cons.mpr ⟨m_0 cal_X2_count (wG_t2 128 (by decide +kernel) rfl), List.forall_mem_nil _⟩), thr_ok (by intro q h; cases h), cls_ok (by intro q h; cases h), c32_ok (by intro q h; cases h), c64_ok (by intro q h; cases h), an_ok 0 (by decide +kernel) (fun h => absurd rfl h) (fun _ => by decide +kernel), (rows_ok mr_X8_possible).2, rfl, hnd_0⟩
set_option maxRecDepth 20000 in
theorem ms_X8_possible : MStat 110 := ⟨mo_X8_possible, by decide +kernel, ret_ok (by decide +kernel)⟩
set_option maxRecDepth 20000 in
theorem mr_X8_fillings : rowsC RX8 cX8_fillings 1 "fillings" mi_X8_fillings = true := by decide +kernel
set_option maxRecDepth 20000 in
theorem mo_X8_fillings : MOk RX8 cX8_fillings 1 "fillings" mi_X8_fillings [] := ⟨(rows_ok mr_X8_fillings).1, fld_ok (wG_of [324, 328] (by decide +kernel) (by decide +kernel)) (by decide +kernel), mth_ok (List.forall_mem_cons.mpr ⟨m_0 cal_X1_count (wG_t2 185 (by decide +kernel) rfl), List.forall_mem_nil _⟩), thr_ok (by intro q h; cases h), cls_ok (by intro q h; cases h), c32_ok (by intro q h; cases h), c64_ok (by intro q h; cases h), an_ok 0 (by decide +kernel) (fun h => absurd rfl h) (fun _ => by decide +kernel), (rows_ok mr_X8_fillings).2, rfl, hnd_0⟩
set_option maxRecDepth 20000 in
theorem ms_X8_fillings : MStat 111 := ⟨mo_X8_fillings, by decide +kernel, ret_ok (by decide +kernel)⟩
set_option maxRecDepth 20000 in
theorem mr_X8_mend : rowsC RX8 cX8_mend 9 "mend" mi_X8_mend = true := by decide +kernel
set_option maxRecDepth 20000 in
theorem mo_X8_mend : MOk RX8 cX8_mend 9 "mend" mi_X8_mend [] := ⟨(rows_ok mr_X8_mend).1, fld_ok (wG_of [324, 325, 212] (by decide +kernel) (by decide +kernel)) (by decide +kernel), mth_ok (List.forall_mem_cons.mpr ⟨m_0 cal_X4_take (wG_t3 7 (by decide +kernel) rfl), List.forall_mem_cons.mpr ⟨m_0 cal_X6_cells (wG_t3 58 (by decide +kernel) rfl), List.forall_mem_cons.mpr ⟨m_0 cal_X6_hasBar (wG_t3 60 (by decide +kernel) rfl), List.forall_mem_cons.mpr ⟨m_0 cal_X6_isPlace (wG_t3 59 (by decide +kernel) rfl), List.forall_mem_cons.mpr ⟨m_0 cal_X4_changeBar (wG_t3 61 (by decide +kernel) rfl), List.forall_mem_cons.mpr ⟨m_1 cal_X5_countKept (wG_t3 16 (by decide +kernel) rfl), List.forall_mem_nil _⟩⟩⟩⟩⟩⟩), thr_ok (by intro q h; cases h), cls_ok (by intro q h; cases h), c32_ok (by intro q h; cases h), c64_ok (by intro q h; cases h), an_ok 0 (by decide +kernel) (fun h => absurd rfl h) (fun _ => by decide +kernel), (rows_ok mr_X8_mend).2, rfl, hnd_0⟩
set_option maxRecDepth 20000 in
theorem ms_X8_mend : MStat 112 := ⟨mo_X8_mend, by decide +kernel, ret_ok (by decide +kernel)⟩
set_option maxRecDepth 20000 in
theorem mr_X8_hardest : rowsC RX8 cX8_hardest 5 "hardest" mi_X8_hardest = true := by decide +kernel
set_option maxRecDepth 20000 in
theorem mo_X8_hardest : MOk RX8 cX8_hardest 5 "hardest" mi_X8_hardest [] := ⟨(rows_ok mr_X8_hardest).1, fld_ok (wG_of [324, 217] (by decide +kernel) (by decide +kernel)) (by decide +kernel), mth_ok (List.forall_mem_cons.mpr ⟨m_0 cal_X4_emptyIn (wG_t3 71 (by decide +kernel) rfl), List.forall_mem_cons.mpr ⟨m_0 cal_X4_fitCount (wG_t3 75 (by decide +kernel) rfl), List.forall_mem_nil _⟩⟩), thr_ok (by intro q h; cases h), cls_ok (by intro q h; cases h), c32_ok (by intro q h; cases h), c64_ok (by intro q h; cases h), an_ok 0 (by decide +kernel) (fun h => absurd rfl h) (fun _ => by decide +kernel), (rows_ok mr_X8_hardest).2, rfl, hnd_0⟩
set_option maxRecDepth 20000 in
theorem ms_X8_hardest : MStat 113 := ⟨mo_X8_hardest, by decide +kernel, ret_ok (by decide +kernel)⟩
set_option maxRecDepth 20000 in
theorem mr_X8_runScript : rowsC RX8 cX8_runScript 6 "runScript" mi_X8_runScript = true := by decide +kernel
set_option maxRecDepth 20000 in
theorem mo_X8_runScript : MOk RX8 cX8_runScript 6 "runScript" mi_X8_runScript [] := ⟨(rows_ok mr_X8_runScript).1, fld_ok (wG_of [324, 325, 327, 212] (by decide +kernel) (by decide +kernel)) (by decide +kernel), mth_ok (List.forall_mem_cons.mpr ⟨m_0 cal_X4_take (wG_t3 7 (by decide +kernel) rfl), List.forall_mem_cons.mpr ⟨m_1 cal_X8_withoutGroups (wG_t4 178 (by decide +kernel) rfl), List.forall_mem_cons.mpr ⟨m_1 cal_X0_succeeds (wG_t4 183 (by decide +kernel) rfl), List.forall_mem_nil _⟩⟩⟩), thr_ok (List.forall_mem_cons.mpr ⟨⟨rfl, by decide +kernel, 47, 280, 51, "n or script is out of range", by decide +kernel, by decide +kernel, Or.inr ⟨by decide +kernel, by decide +kernel, by decide +kernel⟩, wG_t3 89 (by decide +kernel) rfl, wG_t1 13 (by decide +kernel) rfl, by decide +kernel, at_0, an_0, by decide +kernel, by decide +kernel, by decide +kernel⟩, List.forall_mem_nil _⟩), cls_ok (by intro q h; cases h), c32_ok (List.forall_mem_cons.mpr ⟨Or.inr (by decide +kernel), List.forall_mem_nil _⟩), c64_ok (List.forall_mem_cons.mpr ⟨Or.inl (wG_t4 181 (by decide +kernel) rfl), List.forall_mem_nil _⟩), an_ok 0 (by decide +kernel) (fun h => absurd rfl h) (fun _ => by decide +kernel), (rows_ok mr_X8_runScript).2, rfl, hnd_0⟩
set_option maxRecDepth 20000 in
theorem ms_X8_runScript : MStat 114 := ⟨mo_X8_runScript, by decide +kernel, ret_ok (by decide +kernel)⟩
set_option maxRecDepth 20000 in
theorem mr_X8_simulate : rowsC RX8 cX8_simulate 7 "simulate" mi_X8_simulate = true := by decide +kernel
set_option maxRecDepth 20000 in
theorem mo_X8_simulate : MOk RX8 cX8_simulate 7 "simulate" mi_X8_simulate [] := ⟨(rows_ok mr_X8_simulate).1, fld_ok (wG_of [324, 325, 327, 212, 217] (by decide +kernel) (by decide +kernel)) (by decide +kernel), mth_ok (List.forall_mem_cons.mpr ⟨m_0 cal_X4_take (wG_t3 7 (by decide +kernel) rfl), List.forall_mem_cons.mpr ⟨m_0 cal_X2_count (wG_t2 128 (by decide +kernel) rfl), List.forall_mem_cons.mpr ⟨m_1 cal_X5_countKept (wG_t3 16 (by decide +kernel) rfl), List.forall_mem_cons.mpr ⟨m_0 cal_X8_simulateRound (wG_t4 217 (by decide +kernel) rfl), List.forall_mem_nil _⟩⟩⟩⟩), thr_ok (List.forall_mem_cons.mpr ⟨⟨rfl, by decide +kernel, 47, 290, 51, "m is out of range", by decide +kernel, by decide +kernel, Or.inr ⟨by decide +kernel, by decide +kernel, by decide +kernel⟩, wG_t3 89 (by decide +kernel) rfl, wG_t1 13 (by decide +kernel) rfl, by decide +kernel, at_0, an_0, by decide +kernel, by decide +kernel, by decide +kernel⟩, List.forall_mem_nil _⟩), cls_ok (by intro q h; cases h), c32_ok (List.forall_mem_cons.mpr ⟨Or.inr (by decide +kernel), List.forall_mem_cons.mpr ⟨Or.inr (by decide +kernel), List.forall_mem_nil _⟩⟩), c64_ok (List.forall_mem_cons.mpr ⟨Or.inl (wG_t4 215 (by decide +kernel) rfl), List.forall_mem_cons.mpr ⟨Or.inl (wG_t4 216 (by decide +kernel) rfl), List.forall_mem_nil _⟩⟩), an_ok 0 (by decide +kernel) (fun h => absurd rfl h) (fun _ => by decide +kernel), (rows_ok mr_X8_simulate).2, rfl, hnd_0⟩
set_option maxRecDepth 20000 in
theorem ms_X8_simulate : MStat 115 := ⟨mo_X8_simulate, by decide +kernel, ret_ok (by decide +kernel)⟩
end
section
set_option maxRecDepth 20000 in
theorem mr_X8_save : rowsC RX8 cX8_save 2 "save" mi_X8_save = true := by decide +kernel
set_option maxRecDepth 20000 in
theorem mo_X8_save : MOk RX8 cX8_save 2 "save" mi_X8_save [] := ⟨(rows_ok mr_X8_save).1, fld_ok (wG_of [324, 326, 212, 217] (by decide +kernel) (by decide +kernel)) (by decide +kernel), mth_ok (List.forall_mem_cons.mpr ⟨m_1 cal_X8_requireSlot (wG_t4 228 (by decide +kernel) rfl), List.forall_mem_cons.mpr ⟨m_0 cal_X3_store (wG_t4 232 (by decide +kernel) rfl), List.forall_mem_nil _⟩⟩), thr_ok (by intro q h; cases h), cls_ok (by intro q h; cases h), c32_ok (by intro q h; cases h), c64_ok (by intro q h; cases h), an_ok 0 (by decide +kernel) (fun h => absurd rfl h) (fun _ => by decide +kernel), (rows_ok mr_X8_save).2, rfl, hnd_0⟩
set_option maxRecDepth 20000 in
theorem ms_X8_save : MStat 116 := ⟨mo_X8_save, by decide +kernel, ret_ok (by decide +kernel)⟩
set_option maxRecDepth 20000 in
theorem mr_X8_restore : rowsC RX8 cX8_restore 2 "restore" mi_X8_restore = true := by decide +kernel
set_option maxRecDepth 20000 in
theorem mo_X8_restore : MOk RX8 cX8_restore 2 "restore" mi_X8_restore [] := ⟨(rows_ok mr_X8_restore).1, fld_ok (wG_of [324, 326, 217] (by decide +kernel) (by decide +kernel)) (by decide +kernel), mth_ok (List.forall_mem_cons.mpr ⟨m_0 cal_X4_take (wG_t3 7 (by decide +kernel) rfl), List.forall_mem_cons.mpr ⟨m_0 cal_X3_forgetActions (wG_t3 189 (by decide +kernel) rfl), List.forall_mem_cons.mpr ⟨m_1 cal_X8_requireSlot (wG_t4 228 (by decide +kernel) rfl), List.forall_mem_cons.mpr ⟨m_0 cal_X3_isStored (wG_t5 3 (by decide +kernel) rfl), List.forall_mem_cons.mpr ⟨m_0 cal_X3_stored (wG_t5 8 (by decide +kernel) rfl), List.forall_mem_nil _⟩⟩⟩⟩⟩), thr_ok (List.forall_mem_cons.mpr ⟨⟨rfl, by decide +kernel, 58, 309, 62, "nothing has been saved in the slot", by decide +kernel, by decide +kernel, Or.inr ⟨by decide +kernel, by decide +kernel, by decide +kernel⟩, wG_t3 161 (by decide +kernel) rfl, wG_t1 14 (by decide +kernel) rfl, by decide +kernel, at_1, an_1, by decide +kernel, by decide +kernel, by decide +kernel⟩, List.forall_mem_nil _⟩), cls_ok (by intro q h; cases h), c32_ok (by intro q h; cases h), c64_ok (by intro q h; cases h), an_ok 0 (by decide +kernel) (fun h => absurd rfl h) (fun _ => by decide +kernel), (rows_ok mr_X8_restore).2, rfl, hnd_0⟩
set_option maxRecDepth 20000 in
theorem ms_X8_restore : MStat 117 := ⟨mo_X8_restore, by decide +kernel, ret_ok (by decide +kernel)⟩
set_option maxRecDepth 20000 in
theorem mr_X8_requireCell : rowsC RX8 cX8_requireCell 2 "requireCell" mi_X8_requireCell = true := by decide +kernel
set_option maxRecDepth 20000 in
theorem mo_X8_requireCell : MOk RX8 cX8_requireCell 2 "requireCell" mi_X8_requireCell [] := ⟨(rows_ok mr_X8_requireCell).1, fld_ok (wG_of [324, 212] (by decide +kernel) (by decide +kernel)) (by decide +kernel), mth_ok (List.forall_mem_cons.mpr ⟨m_0 cal_X6_hasCell (wG_t3 228 (by decide +kernel) rfl), List.forall_mem_nil _⟩), thr_ok (List.forall_mem_cons.mpr ⟨⟨rfl, by decide +kernel, 318, 320, 322, "no such cell", by decide +kernel, by decide +kernel, Or.inr ⟨by decide +kernel, by decide +kernel, by decide +kernel⟩, wG_t3 229 (by decide +kernel) rfl, wG_t1 17 (by decide +kernel) rfl, by decide +kernel, at_2, an_2, by decide +kernel, by decide +kernel, by decide +kernel⟩, List.forall_mem_nil _⟩), cls_ok (by intro q h; cases h), c32_ok (by intro q h; cases h), c64_ok (by intro q h; cases h), an_ok 0 (by decide +kernel) (fun h => absurd rfl h) (fun _ => by decide +kernel), (rows_ok mr_X8_requireCell).2, rfl, hnd_0⟩
set_option maxRecDepth 20000 in
theorem ms_X8_requireCell : MStat 118 := ⟨mo_X8_requireCell, by decide +kernel, ret_ok (by decide +kernel)⟩
set_option maxRecDepth 20000 in
theorem mr_X8_requireEntry : rowsC RX8 cX8_requireEntry 2 "requireEntry" mi_X8_requireEntry = true := by decide +kernel
set_option maxRecDepth 20000 in
theorem mo_X8_requireEntry : MOk RX8 cX8_requireEntry 2 "requireEntry" mi_X8_requireEntry [] := ⟨(rows_ok mr_X8_requireEntry).1, fld_ok (wG_of [324] (by decide +kernel) (by decide +kernel)) (by decide +kernel), mth_ok (List.forall_mem_cons.mpr ⟨m_0 cal_X4_hasEntry (wG_t4 24 (by decide +kernel) rfl), List.forall_mem_nil _⟩), thr_ok (List.forall_mem_cons.mpr ⟨⟨rfl, by decide +kernel, 318, 326, 322, "no such entry", by decide +kernel, by decide +kernel, Or.inr ⟨by decide +kernel, by decide +kernel, by decide +kernel⟩, wG_t3 229 (by decide +kernel) rfl, wG_t1 17 (by decide +kernel) rfl, by decide +kernel, at_2, an_2, by decide +kernel, by decide +kernel, by decide +kernel⟩, List.forall_mem_nil _⟩), cls_ok (by intro q h; cases h), c32_ok (by intro q h; cases h), c64_ok (by intro q h; cases h), an_ok 0 (by decide +kernel) (fun h => absurd rfl h) (fun _ => by decide +kernel), (rows_ok mr_X8_requireEntry).2, rfl, hnd_0⟩
set_option maxRecDepth 20000 in
theorem ms_X8_requireEntry : MStat 119 := ⟨mo_X8_requireEntry, by decide +kernel, ret_ok (by decide +kernel)⟩
set_option maxRecDepth 20000 in
theorem mr_X8_requireWord : rowsC RX8 cX8_requireWord 2 "requireWord" mi_X8_requireWord = true := by decide +kernel
set_option maxRecDepth 20000 in
theorem mo_X8_requireWord : MOk RX8 cX8_requireWord 2 "requireWord" mi_X8_requireWord [] := ⟨(rows_ok mr_X8_requireWord).1, fld_ok (wG_of [324, 212] (by decide +kernel) (by decide +kernel)) (by decide +kernel), mth_ok (List.forall_mem_cons.mpr ⟨m_0 cal_X6_hasWord (wG_t4 46 (by decide +kernel) rfl), List.forall_mem_nil _⟩), thr_ok (List.forall_mem_cons.mpr ⟨⟨rfl, by decide +kernel, 318, 331, 322, "no such word", by decide +kernel, by decide +kernel, Or.inr ⟨by decide +kernel, by decide +kernel, by decide +kernel⟩, wG_t3 229 (by decide +kernel) rfl, wG_t1 17 (by decide +kernel) rfl, by decide +kernel, at_2, an_2, by decide +kernel, by decide +kernel, by decide +kernel⟩, List.forall_mem_nil _⟩), cls_ok (by intro q h; cases h), c32_ok (by intro q h; cases h), c64_ok (by intro q h; cases h), an_ok 0 (by decide +kernel) (fun h => absurd rfl h) (fun _ => by decide +kernel), (rows_ok mr_X8_requireWord).2, rfl, hnd_0⟩
set_option maxRecDepth 20000 in
theorem ms_X8_requireWord : MStat 120 := ⟨mo_X8_requireWord, by decide +kernel, ret_ok (by decide +kernel)⟩
set_option maxRecDepth 20000 in
theorem mr_X8_requireSlot : rowsC RX8 cX8_requireSlot 1 "requireSlot" mi_X8_requireSlot = true := by decide +kernel
set_option maxRecDepth 20000 in
theorem mo_X8_requireSlot : MOk RX8 cX8_requireSlot 1 "requireSlot" mi_X8_requireSlot [] := ⟨(rows_ok mr_X8_requireSlot).1, fld_ok (wG_of [] (by decide +kernel) (by decide +kernel)) (by decide +kernel), mth_ok (by intro q h; cases h), thr_ok (List.forall_mem_cons.mpr ⟨⟨rfl, by decide +kernel, 318, 333, 322, "no such save slot", by decide +kernel, by decide +kernel, Or.inr ⟨by decide +kernel, by decide +kernel, by decide +kernel⟩, wG_t3 229 (by decide +kernel) rfl, wG_t1 17 (by decide +kernel) rfl, by decide +kernel, at_2, an_2, by decide +kernel, by decide +kernel, by decide +kernel⟩, List.forall_mem_nil _⟩), cls_ok (by intro q h; cases h), c32_ok (by intro q h; cases h), c64_ok (by intro q h; cases h), an_ok 0 (by decide +kernel) (fun h => absurd rfl h) (fun _ => by decide +kernel), (rows_ok mr_X8_requireSlot).2, rfl, hnd_0⟩
set_option maxRecDepth 20000 in
theorem ms_X8_requireSlot : MStat 121 := ⟨mo_X8_requireSlot, by decide +kernel, ret_ok (by decide +kernel)⟩
set_option maxRecDepth 20000 in
theorem mr_X8_isLetter : rowsC RX8 cX8_isLetter 1 "isLetter" mi_X8_isLetter = true := by decide +kernel
set_option maxRecDepth 20000 in
theorem mo_X8_isLetter : MOk RX8 cX8_isLetter 1 "isLetter" mi_X8_isLetter [] := ⟨(rows_ok mr_X8_isLetter).1, fld_ok (wG_of [] (by decide +kernel) (by decide +kernel)) (by decide +kernel), mth_ok (by intro q h; cases h), thr_ok (by intro q h; cases h), cls_ok (by intro q h; cases h), c32_ok (by intro q h; cases h), c64_ok (by intro q h; cases h), an_ok 0 (by decide +kernel) (fun h => absurd rfl h) (fun _ => by decide +kernel), (rows_ok mr_X8_isLetter).2, rfl, hnd_0⟩
set_option maxRecDepth 20000 in
theorem ms_X8_isLetter : MStat 122 := ⟨mo_X8_isLetter, by decide +kernel, ret_ok (by decide +kernel)⟩
set_option maxRecDepth 20000 in
theorem mr_X8_withoutGroups : rowsC RX8 cX8_withoutGroups 6 "withoutGroups" mi_X8_withoutGroups = true := by decide +kernel
set_option maxRecDepth 20000 in
theorem mo_X8_withoutGroups : MOk RX8 cX8_withoutGroups 6 "withoutGroups" mi_X8_withoutGroups [] := ⟨(rows_ok mr_X8_withoutGroups).1, fld_ok (wG_of [] (by decide +kernel) (by decide +kernel)) (by decide +kernel), mth_ok (by intro q h; cases h), thr_ok (by intro q h; cases h), cls_ok (by intro q h; cases h), c32_ok (List.forall_mem_cons.mpr ⟨Or.inr (by decide +kernel), List.forall_mem_nil _⟩), c64_ok (List.forall_mem_cons.mpr ⟨Or.inl (wG_t4 181 (by decide +kernel) rfl), List.forall_mem_nil _⟩), an_ok 0 (by decide +kernel) (fun h => absurd rfl h) (fun _ => by decide +kernel), (rows_ok mr_X8_withoutGroups).2, rfl, hnd_0⟩
set_option maxRecDepth 20000 in
theorem ms_X8_withoutGroups : MStat 123 := ⟨mo_X8_withoutGroups, by decide +kernel, ret_ok (by decide +kernel)⟩
set_option maxRecDepth 20000 in
theorem mr_X8_simulateRound : rowsC RX8 cX8_simulateRound 6 "simulateRound" mi_X8_simulateRound = true := by decide +kernel
set_option maxRecDepth 20000 in
theorem mo_X8_simulateRound : MOk RX8 cX8_simulateRound 6 "simulateRound" mi_X8_simulateRound [] := ⟨(rows_ok mr_X8_simulateRound).1, fld_ok (wG_of [325, 212] (by decide +kernel) (by decide +kernel)) (by decide +kernel), mth_ok (List.forall_mem_cons.mpr ⟨m_0 cal_X6_cells (wG_t3 58 (by decide +kernel) rfl), List.forall_mem_cons.mpr ⟨m_0 cal_X6_hasBar (wG_t3 60 (by decide +kernel) rfl), List.forall_mem_cons.mpr ⟨m_0 cal_X6_setLetter (wG_t4 99 (by decide +kernel) rfl), List.forall_mem_cons.mpr ⟨m_0 cal_X4_changeBar (wG_t3 61 (by decide +kernel) rfl), List.forall_mem_nil _⟩⟩⟩⟩), thr_ok (by intro q h; cases h), cls_ok (by intro q h; cases h), c32_ok (by intro q h; cases h), c64_ok (by intro q h; cases h), an_ok 0 (by decide +kernel) (fun h => absurd rfl h) (fun _ => by decide +kernel), (rows_ok mr_X8_simulateRound).2, rfl, hnd_0⟩
set_option maxRecDepth 20000 in
theorem ms_X8_simulateRound : MStat 124 := ⟨mo_X8_simulateRound, by decide +kernel, ret_ok (by decide +kernel)⟩
set_option maxRecDepth 20000 in
theorem mr_X9_init : rowsC RX9 cX9_init 1 "<init>" mi_X9_init = true := by decide +kernel
set_option maxRecDepth 20000 in
theorem mo_X9_init : MOk RX9 cX9_init 1 "<init>" mi_X9_init [] := ⟨(rows_ok mr_X9_init).1, fld_ok (wG_of [1074, 1076, 1077, 1078, 1079, 1081, 1082, 1084, 1085, 1086, 1087, 1088, 1089, 1090, 1091, 1092] (by decide +kernel) (by decide +kernel)) (by decide +kernel), mth_ok (List.forall_mem_cons.mpr ⟨⟨wG_t5 17 (by decide +kernel) rfl, wG_t1 27 (by decide +kernel) rfl, wG_t1 28 rfl rfl⟩, List.forall_mem_cons.mpr ⟨m_0 cal_X9_findEntries (wG_t5 18 (by decide +kernel) rfl), List.forall_mem_nil _⟩⟩), thr_ok (by intro q h; cases h), cls_ok (by intro q h; cases h), c32_ok (by intro q h; cases h), c64_ok (by intro q h; cases h), an_ok 0 (by decide +kernel) (fun h => absurd rfl h) (fun _ => by decide +kernel), (rows_ok mr_X9_init).2, rfl, hnd_0⟩
set_option maxRecDepth 20000 in
theorem ms_X9_init : MStat 125 := ⟨mo_X9_init, by decide +kernel, ret_ok (by decide +kernel)⟩
set_option maxRecDepth 20000 in
theorem mr_X9_thrown : rowsC RX9 cX9_thrown 1 "thrown" mi_X9_thrown = true := by decide +kernel
set_option maxRecDepth 20000 in
theorem mo_X9_thrown : MOk RX9 cX9_thrown 1 "thrown" mi_X9_thrown [] := ⟨(rows_ok mr_X9_thrown).1, fld_ok (wG_of [1073] (by decide +kernel) (by decide +kernel)) (by decide +kernel), mth_ok (by intro q h; cases h), thr_ok (by intro q h; cases h), cls_ok (by intro q h; cases h), c32_ok (by intro q h; cases h), c64_ok (by intro q h; cases h), an_ok 0 (by decide +kernel) (fun h => absurd rfl h) (fun _ => by decide +kernel), (rows_ok mr_X9_thrown).2, rfl, hnd_0⟩
set_option maxRecDepth 20000 in
theorem ms_X9_thrown : MStat 126 := ⟨mo_X9_thrown, by decide +kernel, ret_ok (by decide +kernel)⟩
set_option maxRecDepth 20000 in
theorem mr_X9_move : rowsC RX9 cX9_move 5 "move" mi_X9_move = true := by decide +kernel
set_option maxRecDepth 20000 in
theorem mo_X9_move : MOk RX9 cX9_move 5 "move" mi_X9_move [] := ⟨(rows_ok mr_X9_move).1, fld_ok (wG_of [] (by decide +kernel) (by decide +kernel)) (by decide +kernel), mth_ok (by intro q h; cases h), thr_ok (by intro q h; cases h), cls_ok (by intro q h; cases h), c32_ok (by intro q h; cases h), c64_ok (by intro q h; cases h), an_ok 0 (by decide +kernel) (fun h => absurd rfl h) (fun _ => by decide +kernel), (rows_ok mr_X9_move).2, rfl, hnd_0⟩
set_option maxRecDepth 20000 in
theorem ms_X9_move : MStat 127 := ⟨mo_X9_move, by decide +kernel, ret_ok (by decide +kernel)⟩
set_option maxRecDepth 20000 in
theorem mr_X9_append : rowsC RX9 cX9_append 2 "append" mi_X9_append = true := by decide +kernel
set_option maxRecDepth 20000 in
theorem mo_X9_append : MOk RX9 cX9_append 2 "append" mi_X9_append [] := ⟨(rows_ok mr_X9_append).1, fld_ok (wG_of [1074, 1073, 1075] (by decide +kernel) (by decide +kernel)) (by decide +kernel), mth_ok (by intro q h; cases h), thr_ok (by intro q h; cases h), cls_ok (by intro q h; cases h), c32_ok (by intro q h; cases h), c64_ok (by intro q h; cases h), an_ok 0 (by decide +kernel) (fun h => absurd rfl h) (fun _ => by decide +kernel), (rows_ok mr_X9_append).2, rfl, hnd_0⟩
set_option maxRecDepth 20000 in
theorem ms_X9_append : MStat 128 := ⟨mo_X9_append, by decide +kernel, ret_ok (by decide +kernel)⟩
set_option maxRecDepth 20000 in
theorem mr_X9_clearText : rowsC RX9 cX9_clearText 2 "clearText" mi_X9_clearText = true := by decide +kernel
set_option maxRecDepth 20000 in
theorem mo_X9_clearText : MOk RX9 cX9_clearText 2 "clearText" mi_X9_clearText [] := ⟨(rows_ok mr_X9_clearText).1, fld_ok (wG_of [1073, 1075] (by decide +kernel) (by decide +kernel)) (by decide +kernel), mth_ok (by intro q h; cases h), thr_ok (by intro q h; cases h), cls_ok (by intro q h; cases h), c32_ok (by intro q h; cases h), c64_ok (by intro q h; cases h), an_ok 0 (by decide +kernel) (fun h => absurd rfl h) (fun _ => by decide +kernel), (rows_ok mr_X9_clearText).2, rfl, hnd_0⟩
set_option maxRecDepth 20000 in
theorem ms_X9_clearText : MStat 129 := ⟨mo_X9_clearText, by decide +kernel, ret_ok (by decide +kernel)⟩
set_option maxRecDepth 20000 in
theorem mr_X9_character : rowsC RX9 cX9_character 2 "character" mi_X9_character = true := by decide +kernel
set_option maxRecDepth 20000 in
theorem mo_X9_character : MOk RX9 cX9_character 2 "character" mi_X9_character [] := ⟨(rows_ok mr_X9_character).1, fld_ok (wG_of [1074, 1075] (by decide +kernel) (by decide +kernel)) (by decide +kernel), mth_ok (by intro q h; cases h), thr_ok (by intro q h; cases h), cls_ok (by intro q h; cases h), c32_ok (by intro q h; cases h), c64_ok (by intro q h; cases h), an_ok 0 (by decide +kernel) (fun h => absurd rfl h) (fun _ => by decide +kernel), (rows_ok mr_X9_character).2, rfl, hnd_0⟩
set_option maxRecDepth 20000 in
theorem ms_X9_character : MStat 130 := ⟨mo_X9_character, by decide +kernel, ret_ok (by decide +kernel)⟩
set_option maxRecDepth 20000 in
theorem mr_X9_isLetter : rowsC RX9 cX9_isLetter 1 "isLetter" mi_X9_isLetter = true := by decide +kernel
set_option maxRecDepth 20000 in
theorem mo_X9_isLetter : MOk RX9 cX9_isLetter 1 "isLetter" mi_X9_isLetter [] := ⟨(rows_ok mr_X9_isLetter).1, fld_ok (wG_of [] (by decide +kernel) (by decide +kernel)) (by decide +kernel), mth_ok (by intro q h; cases h), thr_ok (by intro q h; cases h), cls_ok (by intro q h; cases h), c32_ok (by intro q h; cases h), c64_ok (by intro q h; cases h), an_ok 0 (by decide +kernel) (fun h => absurd rfl h) (fun _ => by decide +kernel), (rows_ok mr_X9_isLetter).2, rfl, hnd_0⟩
set_option maxRecDepth 20000 in
theorem ms_X9_isLetter : MStat 131 := ⟨mo_X9_isLetter, by decide +kernel, ret_ok (by decide +kernel)⟩
set_option maxRecDepth 20000 in
theorem mr_X9_isSide : rowsC RX9 cX9_isSide 1 "isSide" mi_X9_isSide = true := by decide +kernel
set_option maxRecDepth 20000 in
theorem mo_X9_isSide : MOk RX9 cX9_isSide 1 "isSide" mi_X9_isSide [] := ⟨(rows_ok mr_X9_isSide).1, fld_ok (wG_of [] (by decide +kernel) (by decide +kernel)) (by decide +kernel), mth_ok (by intro q h; cases h), thr_ok (by intro q h; cases h), cls_ok (by intro q h; cases h), c32_ok (by intro q h; cases h), c64_ok (by intro q h; cases h), an_ok 0 (by decide +kernel) (fun h => absurd rfl h) (fun _ => by decide +kernel), (rows_ok mr_X9_isSide).2, rfl, hnd_0⟩
set_option maxRecDepth 20000 in
theorem ms_X9_isSide : MStat 132 := ⟨mo_X9_isSide, by decide +kernel, ret_ok (by decide +kernel)⟩
set_option maxRecDepth 20000 in
theorem mr_X9_readText : rowsC RX9 cX9_readText 3 "readText" mi_X9_readText = true := by decide +kernel
set_option maxRecDepth 20000 in
theorem mo_X9_readText : MOk RX9 cX9_readText 3 "readText" mi_X9_readText [] := ⟨(rows_ok mr_X9_readText).1, fld_ok (wG_of [1077] (by decide +kernel) (by decide +kernel)) (by decide +kernel), mth_ok (List.forall_mem_cons.mpr ⟨m_0 cal_X9_character (wG_t5 127 (by decide +kernel) rfl), List.forall_mem_cons.mpr ⟨m_1 cal_X9_isSide (wG_t5 131 (by decide +kernel) rfl), List.forall_mem_cons.mpr ⟨m_1 cal_X9_isLetter (wG_t5 134 (by decide +kernel) rfl), List.forall_mem_cons.mpr ⟨m_0 cal_X9_readParts (wG_t5 137 (by decide +kernel) rfl), List.forall_mem_nil _⟩⟩⟩⟩), thr_ok (by intro q h; cases h), cls_ok (by intro q h; cases h), c32_ok (by intro q h; cases h), c64_ok (by intro q h; cases h), an_ok 0 (by decide +kernel) (fun h => absurd rfl h) (fun _ => by decide +kernel), (rows_ok mr_X9_readText).2, rfl, hnd_0⟩
set_option maxRecDepth 20000 in
theorem ms_X9_readText : MStat 133 := ⟨mo_X9_readText, by decide +kernel, ret_ok (by decide +kernel)⟩
set_option maxRecDepth 20000 in
theorem mr_X9_readParts : rowsC RX9 cX9_readParts 8 "readParts" mi_X9_readParts = true := by decide +kernel
set_option maxRecDepth 20000 in
theorem mo_X9_readParts : MOk RX9 cX9_readParts 8 "readParts" mi_X9_readParts [] := ⟨(rows_ok mr_X9_readParts).1, fld_ok (wG_of [1077, 1075] (by decide +kernel) (by decide +kernel)) (by decide +kernel), mth_ok (List.forall_mem_cons.mpr ⟨m_0 cal_X9_character (wG_t5 127 (by decide +kernel) rfl), List.forall_mem_cons.mpr ⟨m_1 cal_X9_isLetter (wG_t5 134 (by decide +kernel) rfl), List.forall_mem_nil _⟩⟩), thr_ok (by intro q h; cases h), cls_ok (by intro q h; cases h), c32_ok (by intro q h; cases h), c64_ok (by intro q h; cases h), an_ok 0 (by decide +kernel) (fun h => absurd rfl h) (fun _ => by decide +kernel), (rows_ok mr_X9_readParts).2, rfl, hnd_0⟩
set_option maxRecDepth 20000 in
theorem ms_X9_readParts : MStat 134 := ⟨mo_X9_readParts, by decide +kernel, ret_ok (by decide +kernel)⟩
set_option maxRecDepth 20000 in
theorem mr_X9_errorPosition : rowsC RX9 cX9_errorPosition 1 "errorPosition" mi_X9_errorPosition = true := by decide +kernel
set_option maxRecDepth 20000 in
theorem mo_X9_errorPosition : MOk RX9 cX9_errorPosition 1 "errorPosition" mi_X9_errorPosition [] := ⟨(rows_ok mr_X9_errorPosition).1, fld_ok (wG_of [1073] (by decide +kernel) (by decide +kernel)) (by decide +kernel), mth_ok (List.forall_mem_cons.mpr ⟨m_0 cal_X9_readText (wG_t5 123 (by decide +kernel) rfl), List.forall_mem_nil _⟩), thr_ok (by intro q h; cases h), cls_ok (by intro q h; cases h), c32_ok (by intro q h; cases h), c64_ok (by intro q h; cases h), an_ok 0 (by decide +kernel) (fun h => absurd rfl h) (fun _ => by decide +kernel), (rows_ok mr_X9_errorPosition).2, rfl, hnd_0⟩
set_option maxRecDepth 20000 in
theorem ms_X9_errorPosition : MStat 135 := ⟨mo_X9_errorPosition, by decide +kernel, ret_ok (by decide +kernel)⟩
set_option maxRecDepth 20000 in
theorem mr_X9_load : rowsC RX9 cX9_load 1 "load" mi_X9_load = true := by decide +kernel
set_option maxRecDepth 20000 in
theorem mo_X9_load : MOk RX9 cX9_load 1 "load" mi_X9_load [] := ⟨(rows_ok mr_X9_load).1, fld_ok (wG_of [1076, 1077, 1082, 1073, 1080] (by decide +kernel) (by decide +kernel)) (by decide +kernel), mth_ok (List.forall_mem_cons.mpr ⟨m_0 cal_X9_findEntries (wG_t5 18 (by decide +kernel) rfl), List.forall_mem_cons.mpr ⟨m_0 cal_X9_readText (wG_t5 123 (by decide +kernel) rfl), List.forall_mem_cons.mpr ⟨m_1 cal_X9_move (wG_t5 145 (by decide +kernel) rfl), List.forall_mem_cons.mpr ⟨m_0 cal_X9_size (wG_t5 22 (by decide +kernel) rfl), List.forall_mem_nil _⟩⟩⟩⟩), thr_ok (by intro q h; cases h), cls_ok (by intro q h; cases h), c32_ok (by intro q h; cases h), c64_ok (by intro q h; cases h), an_ok 0 (by decide +kernel) (fun h => absurd rfl h) (fun _ => by decide +kernel), (rows_ok mr_X9_load).2, rfl, hnd_0⟩
set_option maxRecDepth 20000 in
theorem ms_X9_load : MStat 136 := ⟨mo_X9_load, by decide +kernel, ret_ok (by decide +kernel)⟩
set_option maxRecDepth 20000 in
theorem mr_X9_size : rowsC RX9 cX9_size 1 "size" mi_X9_size = true := by decide +kernel
set_option maxRecDepth 20000 in
theorem mo_X9_size : MOk RX9 cX9_size 1 "size" mi_X9_size [] := ⟨(rows_ok mr_X9_size).1, fld_ok (wG_of [1076] (by decide +kernel) (by decide +kernel)) (by decide +kernel), mth_ok (by intro q h; cases h), thr_ok (by intro q h; cases h), cls_ok (by intro q h; cases h), c32_ok (by intro q h; cases h), c64_ok (by intro q h; cases h), an_ok 0 (by decide +kernel) (fun h => absurd rfl h) (fun _ => by decide +kernel), (rows_ok mr_X9_size).2, rfl, hnd_0⟩
set_option maxRecDepth 20000 in
theorem ms_X9_size : MStat 137 := ⟨mo_X9_size, by decide +kernel, ret_ok (by decide +kernel)⟩
set_option maxRecDepth 20000 in
theorem mr_X9_isCell : rowsC RX9 cX9_isCell 2 "isCell" mi_X9_isCell = true := by decide +kernel
set_option maxRecDepth 20000 in
theorem mo_X9_isCell : MOk RX9 cX9_isCell 2 "isCell" mi_X9_isCell [] := ⟨(rows_ok mr_X9_isCell).1, fld_ok (wG_of [] (by decide +kernel) (by decide +kernel)) (by decide +kernel), mth_ok (List.forall_mem_cons.mpr ⟨m_0 cal_X9_size (wG_t5 22 (by decide +kernel) rfl), List.forall_mem_nil _⟩), thr_ok (by intro q h; cases h), cls_ok (by intro q h; cases h), c32_ok (by intro q h; cases h), c64_ok (by intro q h; cases h), an_ok 0 (by decide +kernel) (fun h => absurd rfl h) (fun _ => by decide +kernel), (rows_ok mr_X9_isCell).2, rfl, hnd_0⟩
set_option maxRecDepth 20000 in
theorem ms_X9_isCell : MStat 138 := ⟨mo_X9_isCell, by decide +kernel, ret_ok (by decide +kernel)⟩
set_option maxRecDepth 20000 in
theorem mr_X9_isLastColumn : rowsC RX9 cX9_isLastColumn 2 "isLastColumn" mi_X9_isLastColumn = true := by decide +kernel
set_option maxRecDepth 20000 in
theorem mo_X9_isLastColumn : MOk RX9 cX9_isLastColumn 2 "isLastColumn" mi_X9_isLastColumn [] := ⟨(rows_ok mr_X9_isLastColumn).1, fld_ok (wG_of [1076] (by decide +kernel) (by decide +kernel)) (by decide +kernel), mth_ok (by intro q h; cases h), thr_ok (by intro q h; cases h), cls_ok (by intro q h; cases h), c32_ok (by intro q h; cases h), c64_ok (by intro q h; cases h), an_ok 0 (by decide +kernel) (fun h => absurd rfl h) (fun _ => by decide +kernel), (rows_ok mr_X9_isLastColumn).2, rfl, hnd_0⟩
set_option maxRecDepth 20000 in
theorem ms_X9_isLastColumn : MStat 139 := ⟨mo_X9_isLastColumn, by decide +kernel, ret_ok (by decide +kernel)⟩
set_option maxRecDepth 20000 in
theorem mr_X9_isLastRow : rowsC RX9 cX9_isLastRow 2 "isLastRow" mi_X9_isLastRow = true := by decide +kernel
set_option maxRecDepth 20000 in
theorem mo_X9_isLastRow : MOk RX9 cX9_isLastRow 2 "isLastRow" mi_X9_isLastRow [] := ⟨(rows_ok mr_X9_isLastRow).1, fld_ok (wG_of [1076] (by decide +kernel) (by decide +kernel)) (by decide +kernel), mth_ok (by intro q h; cases h), thr_ok (by intro q h; cases h), cls_ok (by intro q h; cases h), c32_ok (by intro q h; cases h), c64_ok (by intro q h; cases h), an_ok 0 (by decide +kernel) (fun h => absurd rfl h) (fun _ => by decide +kernel), (rows_ok mr_X9_isLastRow).2, rfl, hnd_0⟩
set_option maxRecDepth 20000 in
theorem ms_X9_isLastRow : MStat 140 := ⟨mo_X9_isLastRow, by decide +kernel, ret_ok (by decide +kernel)⟩
set_option maxRecDepth 20000 in
theorem mr_X9_endsRight : rowsC RX9 cX9_endsRight 2 "endsRight" mi_X9_endsRight = true := by decide +kernel
set_option maxRecDepth 20000 in
theorem mo_X9_endsRight : MOk RX9 cX9_endsRight 2 "endsRight" mi_X9_endsRight [] := ⟨(rows_ok mr_X9_endsRight).1, fld_ok (wG_of [1076] (by decide +kernel) (by decide +kernel)) (by decide +kernel), mth_ok (List.forall_mem_cons.mpr ⟨m_0 cal_X9_isLastColumn (wG_t5 30 (by decide +kernel) rfl), List.forall_mem_nil _⟩), thr_ok (by intro q h; cases h), cls_ok (by intro q h; cases h), c32_ok (by intro q h; cases h), c64_ok (by intro q h; cases h), an_ok 0 (by decide +kernel) (fun h => absurd rfl h) (fun _ => by decide +kernel), (rows_ok mr_X9_endsRight).2, rfl, hnd_0⟩
set_option maxRecDepth 20000 in
theorem ms_X9_endsRight : MStat 141 := ⟨mo_X9_endsRight, by decide +kernel, ret_ok (by decide +kernel)⟩
set_option maxRecDepth 20000 in
theorem mr_X9_endsBelow : rowsC RX9 cX9_endsBelow 2 "endsBelow" mi_X9_endsBelow = true := by decide +kernel
set_option maxRecDepth 20000 in
theorem mo_X9_endsBelow : MOk RX9 cX9_endsBelow 2 "endsBelow" mi_X9_endsBelow [] := ⟨(rows_ok mr_X9_endsBelow).1, fld_ok (wG_of [1076] (by decide +kernel) (by decide +kernel)) (by decide +kernel), mth_ok (List.forall_mem_cons.mpr ⟨m_0 cal_X9_isLastRow (wG_t5 38 (by decide +kernel) rfl), List.forall_mem_nil _⟩), thr_ok (by intro q h; cases h), cls_ok (by intro q h; cases h), c32_ok (by intro q h; cases h), c64_ok (by intro q h; cases h), an_ok 0 (by decide +kernel) (fun h => absurd rfl h) (fun _ => by decide +kernel), (rows_ok mr_X9_endsBelow).2, rfl, hnd_0⟩
set_option maxRecDepth 20000 in
theorem ms_X9_endsBelow : MStat 142 := ⟨mo_X9_endsBelow, by decide +kernel, ret_ok (by decide +kernel)⟩
set_option maxRecDepth 20000 in
theorem mr_X9_findEntries : rowsC RX9 cX9_findEntries 7 "findEntries" mi_X9_findEntries = true := by decide +kernel
set_option maxRecDepth 20000 in
theorem mo_X9_findEntries : MOk RX9 cX9_findEntries 7 "findEntries" mi_X9_findEntries [] := ⟨(rows_ok mr_X9_findEntries).1, fld_ok (wG_of [1076, 1087, 1088, 1089, 1083] (by decide +kernel) (by decide +kernel)) (by decide +kernel), mth_ok (List.forall_mem_cons.mpr ⟨m_0 cal_X9_size (wG_t5 22 (by decide +kernel) rfl), List.forall_mem_cons.mpr ⟨m_0 cal_X9_endsRight (wG_t5 26 (by decide +kernel) rfl), List.forall_mem_cons.mpr ⟨m_0 cal_X9_endsBelow (wG_t5 34 (by decide +kernel) rfl), List.forall_mem_cons.mpr ⟨m_0 cal_X9_addEntry (wG_t5 42 (by decide +kernel) rfl), List.forall_mem_nil _⟩⟩⟩⟩), thr_ok (by intro q h; cases h), cls_ok (by intro q h; cases h), c32_ok (by intro q h; cases h), c64_ok (by intro q h; cases h), an_ok 0 (by decide +kernel) (fun h => absurd rfl h) (fun _ => by decide +kernel), (rows_ok mr_X9_findEntries).2, rfl, hnd_0⟩
set_option maxRecDepth 20000 in
theorem ms_X9_findEntries : MStat 143 := ⟨mo_X9_findEntries, by decide +kernel, ret_ok (by decide +kernel)⟩
set_option maxRecDepth 20000 in
theorem mr_X9_addEntry : rowsC RX9 cX9_addEntry 5 "addEntry" mi_X9_addEntry = true := by decide +kernel
set_option maxRecDepth 20000 in
theorem mo_X9_addEntry : MOk RX9 cX9_addEntry 5 "addEntry" mi_X9_addEntry [] := ⟨(rows_ok mr_X9_addEntry).1, fld_ok (wG_of [1076, 1084, 1085, 1086, 1087, 1088, 1083] (by decide +kernel) (by decide +kernel)) (by decide +kernel), mth_ok (by intro q h; cases h), thr_ok (by intro q h; cases h), cls_ok (by intro q h; cases h), c32_ok (by intro q h; cases h), c64_ok (by intro q h; cases h), an_ok 0 (by decide +kernel) (fun h => absurd rfl h) (fun _ => by decide +kernel), (rows_ok mr_X9_addEntry).2, rfl, hnd_0⟩
set_option maxRecDepth 20000 in
theorem ms_X9_addEntry : MStat 144 := ⟨mo_X9_addEntry, by decide +kernel, ret_ok (by decide +kernel)⟩
set_option maxRecDepth 20000 in
theorem mr_X9_isEntry : rowsC RX9 cX9_isEntry 2 "isEntry" mi_X9_isEntry = true := by decide +kernel
set_option maxRecDepth 20000 in
theorem mo_X9_isEntry : MOk RX9 cX9_isEntry 2 "isEntry" mi_X9_isEntry [] := ⟨(rows_ok mr_X9_isEntry).1, fld_ok (wG_of [1083] (by decide +kernel) (by decide +kernel)) (by decide +kernel), mth_ok (by intro q h; cases h), thr_ok (by intro q h; cases h), cls_ok (by intro q h; cases h), c32_ok (by intro q h; cases h), c64_ok (by intro q h; cases h), an_ok 0 (by decide +kernel) (fun h => absurd rfl h) (fun _ => by decide +kernel), (rows_ok mr_X9_isEntry).2, rfl, hnd_0⟩
set_option maxRecDepth 20000 in
theorem ms_X9_isEntry : MStat 145 := ⟨mo_X9_isEntry, by decide +kernel, ret_ok (by decide +kernel)⟩
set_option maxRecDepth 20000 in
theorem mr_X9_cellOf : rowsC RX9 cX9_cellOf 3 "cellOf" mi_X9_cellOf = true := by decide +kernel
set_option maxRecDepth 20000 in
theorem mo_X9_cellOf : MOk RX9 cX9_cellOf 3 "cellOf" mi_X9_cellOf [] := ⟨(rows_ok mr_X9_cellOf).1, fld_ok (wG_of [1076, 1084, 1085] (by decide +kernel) (by decide +kernel)) (by decide +kernel), mth_ok (by intro q h; cases h), thr_ok (by intro q h; cases h), cls_ok (by intro q h; cases h), c32_ok (by intro q h; cases h), c64_ok (by intro q h; cases h), an_ok 0 (by decide +kernel) (fun h => absurd rfl h) (fun _ => by decide +kernel), (rows_ok mr_X9_cellOf).2, rfl, hnd_0⟩
set_option maxRecDepth 20000 in
theorem ms_X9_cellOf : MStat 146 := ⟨mo_X9_cellOf, by decide +kernel, ret_ok (by decide +kernel)⟩
set_option maxRecDepth 20000 in
theorem mr_X9_entriesOf : rowsC RX9 cX9_entriesOf 2 "entriesOf" mi_X9_entriesOf = true := by decide +kernel
set_option maxRecDepth 20000 in
theorem mo_X9_entriesOf : MOk RX9 cX9_entriesOf 2 "entriesOf" mi_X9_entriesOf [] := ⟨(rows_ok mr_X9_entriesOf).1, fld_ok (wG_of [1087, 1088] (by decide +kernel) (by decide +kernel)) (by decide +kernel), mth_ok (by intro q h; cases h), thr_ok (by intro q h; cases h), cls_ok (by intro q h; cases h), c32_ok (by intro q h; cases h), c64_ok (by intro q h; cases h), an_ok 0 (by decide +kernel) (fun h => absurd rfl h) (fun _ => by decide +kernel), (rows_ok mr_X9_entriesOf).2, rfl, hnd_0⟩
set_option maxRecDepth 20000 in
theorem ms_X9_entriesOf : MStat 147 := ⟨mo_X9_entriesOf, by decide +kernel, ret_ok (by decide +kernel)⟩
set_option maxRecDepth 20000 in
theorem mr_X9_uncheckedIn : rowsC RX9 cX9_uncheckedIn 4 "uncheckedIn" mi_X9_uncheckedIn = true := by decide +kernel
set_option maxRecDepth 20000 in
theorem mo_X9_uncheckedIn : MOk RX9 cX9_uncheckedIn 4 "uncheckedIn" mi_X9_uncheckedIn [] := ⟨(rows_ok mr_X9_uncheckedIn).1, fld_ok (wG_of [1086] (by decide +kernel) (by decide +kernel)) (by decide +kernel), mth_ok (List.forall_mem_cons.mpr ⟨m_0 cal_X9_cellOf (wG_t5 184 (by decide +kernel) rfl), List.forall_mem_cons.mpr ⟨m_0 cal_X9_entriesOf (wG_t5 156 (by decide +kernel) rfl), List.forall_mem_nil _⟩⟩), thr_ok (by intro q h; cases h), cls_ok (by intro q h; cases h), c32_ok (by intro q h; cases h), c64_ok (by intro q h; cases h), an_ok 0 (by decide +kernel) (fun h => absurd rfl h) (fun _ => by decide +kernel), (rows_ok mr_X9_uncheckedIn).2, rfl, hnd_0⟩
set_option maxRecDepth 20000 in
theorem ms_X9_uncheckedIn : MStat 148 := ⟨mo_X9_uncheckedIn, by decide +kernel, ret_ok (by decide +kernel)⟩
set_option maxRecDepth 20000 in
theorem mr_X9_emptyIn : rowsC RX9 cX9_emptyIn 4 "emptyIn" mi_X9_emptyIn = true := by decide +kernel
set_option maxRecDepth 20000 in
theorem mo_X9_emptyIn : MOk RX9 cX9_emptyIn 4 "emptyIn" mi_X9_emptyIn [] := ⟨(rows_ok mr_X9_emptyIn).1, fld_ok (wG_of [1076, 1086] (by decide +kernel) (by decide +kernel)) (by decide +kernel), mth_ok (List.forall_mem_cons.mpr ⟨m_0 cal_X9_cellOf (wG_t5 184 (by decide +kernel) rfl), List.forall_mem_nil _⟩), thr_ok (by intro q h; cases h), cls_ok (by intro q h; cases h), c32_ok (by intro q h; cases h), c64_ok (by intro q h; cases h), an_ok 0 (by decide +kernel) (fun h => absurd rfl h) (fun _ => by decide +kernel), (rows_ok mr_X9_emptyIn).2, rfl, hnd_0⟩
set_option maxRecDepth 20000 in
theorem ms_X9_emptyIn : MStat 149 := ⟨mo_X9_emptyIn, by decide +kernel, ret_ok (by decide +kernel)⟩
set_option maxRecDepth 20000 in
theorem mr_X9_cellsIn : rowsC RX9 cX9_cellsIn 4 "cellsIn" mi_X9_cellsIn = true := by decide +kernel
set_option maxRecDepth 20000 in
theorem mo_X9_cellsIn : MOk RX9 cX9_cellsIn 4 "cellsIn" mi_X9_cellsIn [] := ⟨(rows_ok mr_X9_cellsIn).1, fld_ok (wG_of [] (by decide +kernel) (by decide +kernel)) (by decide +kernel), mth_ok (List.forall_mem_cons.mpr ⟨m_0 cal_X9_size (wG_t5 22 (by decide +kernel) rfl), List.forall_mem_cons.mpr ⟨m_0 cal_X9_entriesOf (wG_t5 156 (by decide +kernel) rfl), List.forall_mem_nil _⟩⟩), thr_ok (by intro q h; cases h), cls_ok (by intro q h; cases h), c32_ok (by intro q h; cases h), c64_ok (by intro q h; cases h), an_ok 0 (by decide +kernel) (fun h => absurd rfl h) (fun _ => by decide +kernel), (rows_ok mr_X9_cellsIn).2, rfl, hnd_0⟩
set_option maxRecDepth 20000 in
theorem ms_X9_cellsIn : MStat 150 := ⟨mo_X9_cellsIn, by decide +kernel, ret_ok (by decide +kernel)⟩
set_option maxRecDepth 20000 in
theorem mr_X9_bars : rowsC RX9 cX9_bars 3 "bars" mi_X9_bars = true := by decide +kernel
set_option maxRecDepth 20000 in
theorem mo_X9_bars : MOk RX9 cX9_bars 3 "bars" mi_X9_bars [] := ⟨(rows_ok mr_X9_bars).1, fld_ok (wG_of [1076] (by decide +kernel) (by decide +kernel)) (by decide +kernel), mth_ok (List.forall_mem_cons.mpr ⟨m_0 cal_X9_size (wG_t5 22 (by decide +kernel) rfl), List.forall_mem_nil _⟩), thr_ok (by intro q h; cases h), cls_ok (by intro q h; cases h), c32_ok (by intro q h; cases h), c64_ok (by intro q h; cases h), an_ok 0 (by decide +kernel) (fun h => absurd rfl h) (fun _ => by decide +kernel), (rows_ok mr_X9_bars).2, rfl, hnd_0⟩
set_option maxRecDepth 20000 in
theorem ms_X9_bars : MStat 151 := ⟨mo_X9_bars, by decide +kernel, ret_ok (by decide +kernel)⟩
set_option maxRecDepth 20000 in
theorem mr_X9_about : rowsC RX9 cX9_about 6 "about" mi_X9_about = true := by decide +kernel
set_option maxRecDepth 20000 in
theorem mo_X9_about : MOk RX9 cX9_about 6 "about" mi_X9_about [] := ⟨(rows_ok mr_X9_about).1, fld_ok (wG_of [1076, 1085, 1089, 1073, 1083] (by decide +kernel) (by decide +kernel)) (by decide +kernel), mth_ok (List.forall_mem_cons.mpr ⟨m_0 cal_X9_size (wG_t5 22 (by decide +kernel) rfl), List.forall_mem_cons.mpr ⟨m_0 cal_X9_cellsIn (wG_t5 152 (by decide +kernel) rfl), List.forall_mem_cons.mpr ⟨m_0 cal_X9_bars (wG_t5 160 (by decide +kernel) rfl), List.forall_mem_nil _⟩⟩⟩), thr_ok (by intro q h; cases h), cls_ok (by intro q h; cases h), c32_ok (by intro q h; cases h), c64_ok (by intro q h; cases h), an_ok 0 (by decide +kernel) (fun h => absurd rfl h) (fun _ => by decide +kernel), (rows_ok mr_X9_about).2, rfl, hnd_0⟩
set_option maxRecDepth 20000 in
theorem ms_X9_about : MStat 152 := ⟨mo_X9_about, by decide +kernel, ret_ok (by decide +kernel)⟩
set_option maxRecDepth 20000 in
theorem mr_X9_cell : rowsC RX9 cX9_cell 3 "cell" mi_X9_cell = true := by decide +kernel
set_option maxRecDepth 20000 in
theorem mo_X9_cell : MOk RX9 cX9_cell 3 "cell" mi_X9_cell [] := ⟨(rows_ok mr_X9_cell).1, fld_ok (wG_of [1076, 1087, 1088, 1089, 1073] (by decide +kernel) (by decide +kernel)) (by decide +kernel), mth_ok (List.forall_mem_cons.mpr ⟨m_0 cal_X9_entriesOf (wG_t5 156 (by decide +kernel) rfl), List.forall_mem_cons.mpr ⟨m_0 cal_X9_isCell (wG_t5 168 (by decide +kernel) rfl), List.forall_mem_nil _⟩⟩), thr_ok (by intro q h; cases h), cls_ok (by intro q h; cases h), c32_ok (by intro q h; cases h), c64_ok (by intro q h; cases h), an_ok 0 (by decide +kernel) (fun h => absurd rfl h) (fun _ => by decide +kernel), (rows_ok mr_X9_cell).2, rfl, hnd_0⟩
set_option maxRecDepth 20000 in
theorem ms_X9_cell : MStat 153 := ⟨mo_X9_cell, by decide +kernel, ret_ok (by decide +kernel)⟩
set_option maxRecDepth 20000 in
theorem mr_X9_entry : rowsC RX9 cX9_entry 3 "entry" mi_X9_entry = true := by decide +kernel
set_option maxRecDepth 20000 in
theorem mo_X9_entry : MOk RX9 cX9_entry 3 "entry" mi_X9_entry [] := ⟨(rows_ok mr_X9_entry).1, fld_ok (wG_of [1084, 1085, 1086, 1089, 1073] (by decide +kernel) (by decide +kernel)) (by decide +kernel), mth_ok (List.forall_mem_cons.mpr ⟨m_0 cal_X9_isEntry (wG_t5 176 (by decide +kernel) rfl), List.forall_mem_cons.mpr ⟨m_0 cal_X9_uncheckedIn (wG_t5 180 (by decide +kernel) rfl), List.forall_mem_cons.mpr ⟨m_0 cal_X9_emptyIn (wG_t5 188 (by decide +kernel) rfl), List.forall_mem_cons.mpr ⟨m_0 cal_X9_wordIn (wG_t5 192 (by decide +kernel) rfl), List.forall_mem_nil _⟩⟩⟩⟩), thr_ok (by intro q h; cases h), cls_ok (by intro q h; cases h), c32_ok (by intro q h; cases h), c64_ok (by intro q h; cases h), an_ok 0 (by decide +kernel) (fun h => absurd rfl h) (fun _ => by decide +kernel), (rows_ok mr_X9_entry).2, rfl, hnd_0⟩
set_option maxRecDepth 20000 in
theorem ms_X9_entry : MStat 154 := ⟨mo_X9_entry, by decide +kernel, ret_ok (by decide +kernel)⟩
set_option maxRecDepth 20000 in
theorem mr_X9_wordIn : rowsC RX9 cX9_wordIn 3 "wordIn" mi_X9_wordIn = true := by decide +kernel
set_option maxRecDepth 20000 in
theorem mo_X9_wordIn : MOk RX9 cX9_wordIn 3 "wordIn" mi_X9_wordIn [] := ⟨(rows_ok mr_X9_wordIn).1, fld_ok (wG_of [1076] (by decide +kernel) (by decide +kernel)) (by decide +kernel), mth_ok (List.forall_mem_cons.mpr ⟨m_0 cal_X9_emptyIn (wG_t5 188 (by decide +kernel) rfl), List.forall_mem_cons.mpr ⟨m_0 cal_X9_isFitting (wG_t5 196 (by decide +kernel) rfl), List.forall_mem_nil _⟩⟩), thr_ok (by intro q h; cases h), cls_ok (by intro q h; cases h), c32_ok (by intro q h; cases h), c64_ok (by intro q h; cases h), an_ok 0 (by decide +kernel) (fun h => absurd rfl h) (fun _ => by decide +kernel), (rows_ok mr_X9_wordIn).2, rfl, hnd_0⟩
set_option maxRecDepth 20000 in
theorem ms_X9_wordIn : MStat 155 := ⟨mo_X9_wordIn, by decide +kernel, ret_ok (by decide +kernel)⟩
set_option maxRecDepth 20000 in
theorem mr_X9_isWord : rowsC RX9 cX9_isWord 2 "isWord" mi_X9_isWord = true := by decide +kernel
set_option maxRecDepth 20000 in
theorem mo_X9_isWord : MOk RX9 cX9_isWord 2 "isWord" mi_X9_isWord [] := ⟨(rows_ok mr_X9_isWord).1, fld_ok (wG_of [1076] (by decide +kernel) (by decide +kernel)) (by decide +kernel), mth_ok (by intro q h; cases h), thr_ok (by intro q h; cases h), cls_ok (by intro q h; cases h), c32_ok (by intro q h; cases h), c64_ok (by intro q h; cases h), an_ok 0 (by decide +kernel) (fun h => absurd rfl h) (fun _ => by decide +kernel), (rows_ok mr_X9_isWord).2, rfl, hnd_0⟩
set_option maxRecDepth 20000 in
theorem ms_X9_isWord : MStat 156 := ⟨mo_X9_isWord, by decide +kernel, ret_ok (by decide +kernel)⟩
set_option maxRecDepth 20000 in
theorem mr_X9_letterOf : rowsC RX9 cX9_letterOf 3 "letterOf" mi_X9_letterOf = true := by decide +kernel
set_option maxRecDepth 20000 in
theorem mo_X9_letterOf : MOk RX9 cX9_letterOf 3 "letterOf" mi_X9_letterOf [] := ⟨(rows_ok mr_X9_letterOf).1, fld_ok (wG_of [1076] (by decide +kernel) (by decide +kernel)) (by decide +kernel), mth_ok (by intro q h; cases h), thr_ok (by intro q h; cases h), cls_ok (by intro q h; cases h), c32_ok (by intro q h; cases h), c64_ok (by intro q h; cases h), an_ok 0 (by decide +kernel) (fun h => absurd rfl h) (fun _ => by decide +kernel), (rows_ok mr_X9_letterOf).2, rfl, hnd_0⟩
set_option maxRecDepth 20000 in
theorem ms_X9_letterOf : MStat 157 := ⟨mo_X9_letterOf, by decide +kernel, ret_ok (by decide +kernel)⟩
set_option maxRecDepth 20000 in
theorem mr_X9_word : rowsC RX9 cX9_word 3 "word" mi_X9_word = true := by decide +kernel
set_option maxRecDepth 20000 in
theorem mo_X9_word : MOk RX9 cX9_word 3 "word" mi_X9_word [] := ⟨(rows_ok mr_X9_word).1, fld_ok (wG_of [1076, 1073] (by decide +kernel) (by decide +kernel)) (by decide +kernel), mth_ok (List.forall_mem_cons.mpr ⟨m_0 cal_X9_isWord (wG_t5 208 (by decide +kernel) rfl), List.forall_mem_cons.mpr ⟨m_0 cal_X9_letterOf (wG_t5 200 (by decide +kernel) rfl), List.forall_mem_nil _⟩⟩), thr_ok (by intro q h; cases h), cls_ok (by intro q h; cases h), c32_ok (by intro q h; cases h), c64_ok (by intro q h; cases h), an_ok 0 (by decide +kernel) (fun h => absurd rfl h) (fun _ => by decide +kernel), (rows_ok mr_X9_word).2, rfl, hnd_0⟩
set_option maxRecDepth 20000 in
theorem ms_X9_word : MStat 158 := ⟨mo_X9_word, by decide +kernel, ret_ok (by decide +kernel)⟩
set_option maxRecDepth 20000 in
theorem mr_X9_isFitting : rowsC RX9 cX9_isFitting 6 "isFitting" mi_X9_isFitting = true := by decide +kernel
set_option maxRecDepth 20000 in
theorem mo_X9_isFitting : MOk RX9 cX9_isFitting 6 "isFitting" mi_X9_isFitting [] := ⟨(rows_ok mr_X9_isFitting).1, fld_ok (wG_of [1076, 1086] (by decide +kernel) (by decide +kernel)) (by decide +kernel), mth_ok (List.forall_mem_cons.mpr ⟨m_0 cal_X9_cellOf (wG_t5 184 (by decide +kernel) rfl), List.forall_mem_cons.mpr ⟨m_0 cal_X9_letterOf (wG_t5 200 (by decide +kernel) rfl), List.forall_mem_nil _⟩⟩), thr_ok (by intro q h; cases h), cls_ok (by intro q h; cases h), c32_ok (by intro q h; cases h), c64_ok (by intro q h; cases h), an_ok 0 (by decide +kernel) (fun h => absurd rfl h) (fun _ => by decide +kernel), (rows_ok mr_X9_isFitting).2, rfl, hnd_0⟩
set_option maxRecDepth 20000 in
theorem ms_X9_isFitting : MStat 159 := ⟨mo_X9_isFitting, by decide +kernel, ret_ok (by decide +kernel)⟩
set_option maxRecDepth 20000 in
theorem mr_X9_fitsOf : rowsC RX9 cX9_fitsOf 4 "fitsOf" mi_X9_fitsOf = true := by decide +kernel
set_option maxRecDepth 20000 in
theorem mo_X9_fitsOf : MOk RX9 cX9_fitsOf 4 "fitsOf" mi_X9_fitsOf [] := ⟨(rows_ok mr_X9_fitsOf).1, fld_ok (wG_of [1076] (by decide +kernel) (by decide +kernel)) (by decide +kernel), mth_ok (List.forall_mem_cons.mpr ⟨m_0 cal_X9_isFitting (wG_t5 196 (by decide +kernel) rfl), List.forall_mem_nil _⟩), thr_ok (by intro q h; cases h), cls_ok (by intro q h; cases h), c32_ok (by intro q h; cases h), c64_ok (by intro q h; cases h), an_ok 0 (by decide +kernel) (fun h => absurd rfl h) (fun _ => by decide +kernel), (rows_ok mr_X9_fitsOf).2, rfl, hnd_0⟩
set_option maxRecDepth 20000 in
theorem ms_X9_fitsOf : MStat 160 := ⟨mo_X9_fitsOf, by decide +kernel, ret_ok (by decide +kernel)⟩
set_option maxRecDepth 20000 in
theorem mr_X9_fits : rowsC RX9 cX9_fits 2 "fits" mi_X9_fits = true := by decide +kernel
set_option maxRecDepth 20000 in
theorem mo_X9_fits : MOk RX9 cX9_fits 2 "fits" mi_X9_fits [] := ⟨(rows_ok mr_X9_fits).1, fld_ok (wG_of [1073] (by decide +kernel) (by decide +kernel)) (by decide +kernel), mth_ok (List.forall_mem_cons.mpr ⟨m_0 cal_X9_isEntry (wG_t5 176 (by decide +kernel) rfl), List.forall_mem_cons.mpr ⟨m_0 cal_X9_fitsOf (wG_t5 216 (by decide +kernel) rfl), List.forall_mem_nil _⟩⟩), thr_ok (by intro q h; cases h), cls_ok (by intro q h; cases h), c32_ok (by intro q h; cases h), c64_ok (by intro q h; cases h), an_ok 0 (by decide +kernel) (fun h => absurd rfl h) (fun _ => by decide +kernel), (rows_ok mr_X9_fits).2, rfl, hnd_0⟩
set_option maxRecDepth 20000 in
theorem ms_X9_fits : MStat 161 := ⟨mo_X9_fits, by decide +kernel, ret_ok (by decide +kernel)⟩
set_option maxRecDepth 20000 in
theorem mr_X9_isTurned : rowsC RX9 cX9_isTurned 4 "isTurned" mi_X9_isTurned = true := by decide +kernel
set_option maxRecDepth 20000 in
theorem mo_X9_isTurned : MOk RX9 cX9_isTurned 4 "isTurned" mi_X9_isTurned [] := ⟨(rows_ok mr_X9_isTurned).1, fld_ok (wG_of [1076] (by decide +kernel) (by decide +kernel)) (by decide +kernel), mth_ok (List.forall_mem_cons.mpr ⟨m_0 cal_X9_size (wG_t5 22 (by decide +kernel) rfl), List.forall_mem_cons.mpr ⟨m_0 cal_X9_isLastColumn (wG_t5 30 (by decide +kernel) rfl), List.forall_mem_cons.mpr ⟨m_0 cal_X9_isLastRow (wG_t5 38 (by decide +kernel) rfl), List.forall_mem_nil _⟩⟩⟩), thr_ok (by intro q h; cases h), cls_ok (by intro q h; cases h), c32_ok (by intro q h; cases h), c64_ok (by intro q h; cases h), an_ok 0 (by decide +kernel) (fun h => absurd rfl h) (fun _ => by decide +kernel), (rows_ok mr_X9_isTurned).2, rfl, hnd_0⟩
set_option maxRecDepth 20000 in
theorem ms_X9_isTurned : MStat 162 := ⟨mo_X9_isTurned, by decide +kernel, ret_ok (by decide +kernel)⟩
set_option maxRecDepth 20000 in
theorem mr_X9_isWellChecked : rowsC RX9 cX9_isWellChecked 3 "isWellChecked" mi_X9_isWellChecked = true := by decide +kernel
set_option maxRecDepth 20000 in
theorem mo_X9_isWellChecked : MOk RX9 cX9_isWellChecked 3 "isWellChecked" mi_X9_isWellChecked [] := ⟨(rows_ok mr_X9_isWellChecked).1, fld_ok (wG_of [1086, 1083] (by decide +kernel) (by decide +kernel)) (by decide +kernel), mth_ok (List.forall_mem_cons.mpr ⟨m_0 cal_X9_uncheckedIn (wG_t5 180 (by decide +kernel) rfl), List.forall_mem_nil _⟩), thr_ok (by intro q h; cases h), cls_ok (by intro q h; cases h), c32_ok (by intro q h; cases h), c64_ok (by intro q h; cases h), an_ok 0 (by decide +kernel) (fun h => absurd rfl h) (fun _ => by decide +kernel), (rows_ok mr_X9_isWellChecked).2, rfl, hnd_0⟩
set_option maxRecDepth 20000 in
theorem ms_X9_isWellChecked : MStat 163 := ⟨mo_X9_isWellChecked, by decide +kernel, ret_ok (by decide +kernel)⟩
set_option maxRecDepth 20000 in
theorem mr_X9_isWithoutPairs : rowsC RX9 cX9_isWithoutPairs 4 "isWithoutPairs" mi_X9_isWithoutPairs = true := by decide +kernel
set_option maxRecDepth 20000 in
theorem mo_X9_isWithoutPairs : MOk RX9 cX9_isWithoutPairs 4 "isWithoutPairs" mi_X9_isWithoutPairs [] := ⟨(rows_ok mr_X9_isWithoutPairs).1, fld_ok (wG_of [1086, 1083] (by decide +kernel) (by decide +kernel)) (by decide +kernel), mth_ok (List.forall_mem_cons.mpr ⟨m_0 cal_X9_cellOf (wG_t5 184 (by decide +kernel) rfl), List.forall_mem_cons.mpr ⟨m_0 cal_X9_entriesOf (wG_t5 156 (by decide +kernel) rfl), List.forall_mem_nil _⟩⟩), thr_ok (by intro q h; cases h), cls_ok (by intro q h; cases h), c32_ok (by intro q h; cases h), c64_ok (by intro q h; cases h), an_ok 0 (by decide +kernel) (fun h => absurd rfl h) (fun _ => by decide +kernel), (rows_ok mr_X9_isWithoutPairs).2, rfl, hnd_0⟩
set_option maxRecDepth 20000 in
theorem ms_X9_isWithoutPairs : MStat 164 := ⟨mo_X9_isWithoutPairs, by decide +kernel, ret_ok (by decide +kernel)⟩
set_option maxRecDepth 20000 in
theorem mr_X9_isConnected : rowsC RX9 cX9_isConnected 4 "isConnected" mi_X9_isConnected = true := by decide +kernel
set_option maxRecDepth 20000 in
theorem mo_X9_isConnected : MOk RX9 cX9_isConnected 4 "isConnected" mi_X9_isConnected [] := ⟨(rows_ok mr_X9_isConnected).1, fld_ok (wG_of [1076, 1090] (by decide +kernel) (by decide +kernel)) (by decide +kernel), mth_ok (List.forall_mem_cons.mpr ⟨m_0 cal_X9_size (wG_t5 22 (by decide +kernel) rfl), List.forall_mem_cons.mpr ⟨m_0 cal_X9_endsRight (wG_t5 26 (by decide +kernel) rfl), List.forall_mem_cons.mpr ⟨m_0 cal_X9_endsBelow (wG_t5 34 (by decide +kernel) rfl), List.forall_mem_nil _⟩⟩⟩), thr_ok (by intro q h; cases h), cls_ok (by intro q h; cases h), c32_ok (by intro q h; cases h), c64_ok (by intro q h; cases h), an_ok 0 (by decide +kernel) (fun h => absurd rfl h) (fun _ => by decide +kernel), (rows_ok mr_X9_isConnected).2, rfl, hnd_0⟩
set_option maxRecDepth 20000 in
theorem ms_X9_isConnected : MStat 165 := ⟨mo_X9_isConnected, by decide +kernel, ret_ok (by decide +kernel)⟩
set_option maxRecDepth 20000 in
theorem mr_X9_keeps : rowsC RX9 cX9_keeps 2 "keeps" mi_X9_keeps = true := by decide +kernel
set_option maxRecDepth 20000 in
theorem mo_X9_keeps : MOk RX9 cX9_keeps 2 "keeps" mi_X9_keeps [] := ⟨(rows_ok mr_X9_keeps).1, fld_ok (wG_of [] (by decide +kernel) (by decide +kernel)) (by decide +kernel), mth_ok (List.forall_mem_cons.mpr ⟨m_0 cal_X9_cellsIn (wG_t5 152 (by decide +kernel) rfl), List.forall_mem_cons.mpr ⟨m_0 cal_X9_isTurned (wG_t5 231 (by decide +kernel) rfl), List.forall_mem_cons.mpr ⟨m_0 cal_X9_isWellChecked (wG_t5 235 (by decide +kernel) rfl), List.forall_mem_cons.mpr ⟨m_0 cal_X9_isWithoutPairs (wG_t5 239 (by decide +kernel) rfl), List.forall_mem_cons.mpr ⟨m_0 cal_X9_isConnected (wG_t6 3 (by decide +kernel) rfl), List.forall_mem_nil _⟩⟩⟩⟩⟩), thr_ok (by intro q h; cases h), cls_ok (by intro q h; cases h), c32_ok (by intro q h; cases h), c64_ok (by intro q h; cases h), an_ok 0 (by decide +kernel) (fun h => absurd rfl h) (fun _ => by decide +kernel), (rows_ok mr_X9_keeps).2, rfl, hnd_0⟩
set_option maxRecDepth 20000 in
theorem ms_X9_keeps : MStat 166 := ⟨mo_X9_keeps, by decide +kernel, ret_ok (by decide +kernel)⟩
set_option maxRecDepth 20000 in
theorem mr_X9_kept : rowsC RX9 cX9_kept 3 "kept" mi_X9_kept = true := by decide +kernel
set_option maxRecDepth 20000 in
theorem mo_X9_kept : MOk RX9 cX9_kept 3 "kept" mi_X9_kept [] := ⟨(rows_ok mr_X9_kept).1, fld_ok (wG_of [] (by decide +kernel) (by decide +kernel)) (by decide +kernel), mth_ok (List.forall_mem_cons.mpr ⟨m_0 cal_X9_keeps (wG_t5 227 (by decide +kernel) rfl), List.forall_mem_nil _⟩), thr_ok (by intro q h; cases h), cls_ok (by intro q h; cases h), c32_ok (by intro q h; cases h), c64_ok (by intro q h; cases h), an_ok 0 (by decide +kernel) (fun h => absurd rfl h) (fun _ => by decide +kernel), (rows_ok mr_X9_kept).2, rfl, hnd_0⟩
set_option maxRecDepth 20000 in
theorem ms_X9_kept : MStat 167 := ⟨mo_X9_kept, by decide +kernel, ret_ok (by decide +kernel)⟩
set_option maxRecDepth 20000 in
theorem mr_X9_isRule : rowsC RX9 cX9_isRule 1 "isRule" mi_X9_isRule = true := by decide +kernel
set_option maxRecDepth 20000 in
theorem mo_X9_isRule : MOk RX9 cX9_isRule 1 "isRule" mi_X9_isRule [] := ⟨(rows_ok mr_X9_isRule).1, fld_ok (wG_of [] (by decide +kernel) (by decide +kernel)) (by decide +kernel), mth_ok (by intro q h; cases h), thr_ok (by intro q h; cases h), cls_ok (by intro q h; cases h), c32_ok (by intro q h; cases h), c64_ok (by intro q h; cases h), an_ok 0 (by decide +kernel) (fun h => absurd rfl h) (fun _ => by decide +kernel), (rows_ok mr_X9_isRule).2, rfl, hnd_0⟩
set_option maxRecDepth 20000 in
theorem ms_X9_isRule : MStat 168 := ⟨mo_X9_isRule, by decide +kernel, ret_ok (by decide +kernel)⟩
set_option maxRecDepth 20000 in
theorem mr_X9_rule : rowsC RX9 cX9_rule 2 "rule" mi_X9_rule = true := by decide +kernel
set_option maxRecDepth 20000 in
theorem mo_X9_rule : MOk RX9 cX9_rule 2 "rule" mi_X9_rule [] := ⟨(rows_ok mr_X9_rule).1, fld_ok (wG_of [1073] (by decide +kernel) (by decide +kernel)) (by decide +kernel), mth_ok (List.forall_mem_cons.mpr ⟨m_0 cal_X9_keeps (wG_t5 227 (by decide +kernel) rfl), List.forall_mem_cons.mpr ⟨m_1 cal_X9_isRule (wG_t5 224 (by decide +kernel) rfl), List.forall_mem_nil _⟩⟩), thr_ok (by intro q h; cases h), cls_ok (by intro q h; cases h), c32_ok (by intro q h; cases h), c64_ok (by intro q h; cases h), an_ok 0 (by decide +kernel) (fun h => absurd rfl h) (fun _ => by decide +kernel), (rows_ok mr_X9_rule).2, rfl, hnd_0⟩
set_option maxRecDepth 20000 in
theorem ms_X9_rule : MStat 169 := ⟨mo_X9_rule, by decide +kernel, ret_ok (by decide +kernel)⟩
set_option maxRecDepth 20000 in
theorem mr_X9_isKnightStep : rowsC RX9 cX9_isKnightStep 5 "isKnightStep" mi_X9_isKnightStep = true := by decide +kernel
set_option maxRecDepth 20000 in
theorem mo_X9_isKnightStep : MOk RX9 cX9_isKnightStep 5 "isKnightStep" mi_X9_isKnightStep [] := ⟨(rows_ok mr_X9_isKnightStep).1, fld_ok (wG_of [1076] (by decide +kernel) (by decide +kernel)) (by decide +kernel), mth_ok (by intro q h; cases h), thr_ok (by intro q h; cases h), cls_ok (by intro q h; cases h), c32_ok (by intro q h; cases h), c64_ok (by intro q h; cases h), an_ok 0 (by decide +kernel) (fun h => absurd rfl h) (fun _ => by decide +kernel), (rows_ok mr_X9_isKnightStep).2, rfl, hnd_0⟩
set_option maxRecDepth 20000 in
theorem ms_X9_isKnightStep : MStat 170 := ⟨mo_X9_isKnightStep, by decide +kernel, ret_ok (by decide +kernel)⟩
set_option maxRecDepth 20000 in
theorem mr_X9_canRead : rowsC RX9 cX9_canRead 7 "canRead" mi_X9_canRead = true := by decide +kernel
set_option maxRecDepth 20000 in
theorem mo_X9_canRead : MOk RX9 cX9_canRead 7 "canRead" mi_X9_canRead [] := ⟨(rows_ok mr_X9_canRead).1, fld_ok (wG_of [1076, 1091] (by decide +kernel) (by decide +kernel)) (by decide +kernel), mth_ok (List.forall_mem_cons.mpr ⟨m_0 cal_X9_entriesOf (wG_t5 156 (by decide +kernel) rfl), List.forall_mem_cons.mpr ⟨m_0 cal_X9_isKnightStep (wG_t6 20 (by decide +kernel) rfl), List.forall_mem_nil _⟩⟩), thr_ok (by intro q h; cases h), cls_ok (by intro q h; cases h), c32_ok (by intro q h; cases h), c64_ok (by intro q h; cases h), an_ok 0 (by decide +kernel) (fun h => absurd rfl h) (fun _ => by decide +kernel), (rows_ok mr_X9_canRead).2, rfl, hnd_0⟩
set_option maxRecDepth 20000 in
theorem ms_X9_canRead : MStat 171 := ⟨mo_X9_canRead, by decide +kernel, ret_ok (by decide +kernel)⟩
set_option maxRecDepth 20000 in
theorem mr_X9_countReadings : rowsC RX9 cX9_countReadings 7 "countReadings" mi_X9_countReadings = true := by decide +kernel
set_option maxRecDepth 20000 in
theorem mo_X9_countReadings : MOk RX9 cX9_countReadings 7 "countReadings" mi_X9_countReadings [] := ⟨(rows_ok mr_X9_countReadings).1, fld_ok (wG_of [1076, 1091, 1092] (by decide +kernel) (by decide +kernel)) (by decide +kernel), mth_ok (List.forall_mem_cons.mpr ⟨m_0 cal_X9_size (wG_t5 22 (by decide +kernel) rfl), List.forall_mem_cons.mpr ⟨m_0 cal_X9_canRead (wG_t6 16 (by decide +kernel) rfl), List.forall_mem_nil _⟩⟩), thr_ok (by intro q h; cases h), cls_ok (by intro q h; cases h), c32_ok (by intro q h; cases h), c64_ok (by intro q h; cases h), an_ok 0 (by decide +kernel) (fun h => absurd rfl h) (fun _ => by decide +kernel), (rows_ok mr_X9_countReadings).2, rfl, hnd_0⟩
set_option maxRecDepth 20000 in
theorem ms_X9_countReadings : MStat 172 := ⟨mo_X9_countReadings, by decide +kernel, ret_ok (by decide +kernel)⟩
set_option maxRecDepth 20000 in
theorem mr_X9_readings : rowsC RX9 cX9_readings 1 "readings" mi_X9_readings = true := by decide +kernel
set_option maxRecDepth 20000 in
theorem mo_X9_readings : MOk RX9 cX9_readings 1 "readings" mi_X9_readings [] := ⟨(rows_ok mr_X9_readings).1, fld_ok (wG_of [1073] (by decide +kernel) (by decide +kernel)) (by decide +kernel), mth_ok (List.forall_mem_cons.mpr ⟨m_0 cal_X9_countReadings (wG_t6 12 (by decide +kernel) rfl), List.forall_mem_nil _⟩), thr_ok (by intro q h; cases h), cls_ok (by intro q h; cases h), c32_ok (List.forall_mem_cons.mpr ⟨Or.inl ⟨10000000, by decide +kernel, wG_t6 11 (by decide +kernel) rfl⟩, List.forall_mem_nil _⟩), c64_ok (List.forall_mem_cons.mpr ⟨Or.inr (by decide +kernel), List.forall_mem_nil _⟩), an_ok 0 (by decide +kernel) (fun h => absurd rfl h) (fun _ => by decide +kernel), (rows_ok mr_X9_readings).2, rfl, hnd_0⟩
set_option maxRecDepth 20000 in
theorem ms_X9_readings : MStat 173 := ⟨mo_X9_readings, by decide +kernel, ret_ok (by decide +kernel)⟩
end
section
set_option maxRecDepth 20000 in
theorem mr_X9_reading : rowsC RX9 cX9_reading 2 "reading" mi_X9_reading = true := by decide +kernel
set_option maxRecDepth 20000 in
theorem mo_X9_reading : MOk RX9 cX9_reading 2 "reading" mi_X9_reading [] := ⟨(rows_ok mr_X9_reading).1, fld_ok (wG_of [1076, 1092, 1073] (by decide +kernel) (by decide +kernel)) (by decide +kernel), mth_ok (List.forall_mem_cons.mpr ⟨m_0 cal_X9_countReadings (wG_t6 12 (by decide +kernel) rfl), List.forall_mem_nil _⟩), thr_ok (by intro q h; cases h), cls_ok (by intro q h; cases h), c32_ok (by intro q h; cases h), c64_ok (by intro q h; cases h), an_ok 0 (by decide +kernel) (fun h => absurd rfl h) (fun _ => by decide +kernel), (rows_ok mr_X9_reading).2, rfl, hnd_0⟩
set_option maxRecDepth 20000 in
theorem ms_X9_reading : MStat 174 := ⟨mo_X9_reading, by decide +kernel, ret_ok (by decide +kernel)⟩
set_option maxRecDepth 20000 in
theorem mr_X9_remember : rowsC RX9 cX9_remember 2 "remember" mi_X9_remember = true := by decide +kernel
set_option maxRecDepth 20000 in
theorem mo_X9_remember : MOk RX9 cX9_remember 2 "remember" mi_X9_remember [] := ⟨(rows_ok mr_X9_remember).1, fld_ok (wG_of [1076, 1079, 1080] (by decide +kernel) (by decide +kernel)) (by decide +kernel), mth_ok (List.forall_mem_cons.mpr ⟨m_1 cal_X9_move (wG_t5 145 (by decide +kernel) rfl), List.forall_mem_nil _⟩), thr_ok (by intro q h; cases h), cls_ok (by intro q h; cases h), c32_ok (by intro q h; cases h), c64_ok (by intro q h; cases h), an_ok 0 (by decide +kernel) (fun h => absurd rfl h) (fun _ => by decide +kernel), (rows_ok mr_X9_remember).2, rfl, hnd_0⟩
set_option maxRecDepth 20000 in
theorem ms_X9_remember : MStat 175 := ⟨mo_X9_remember, by decide +kernel, ret_ok (by decide +kernel)⟩
set_option maxRecDepth 20000 in
theorem mr_X9_isWritable : rowsC RX9 cX9_isWritable 1 "isWritable" mi_X9_isWritable = true := by decide +kernel
set_option maxRecDepth 20000 in
theorem mo_X9_isWritable : MOk RX9 cX9_isWritable 1 "isWritable" mi_X9_isWritable [] := ⟨(rows_ok mr_X9_isWritable).1, fld_ok (wG_of [] (by decide +kernel) (by decide +kernel)) (by decide +kernel), mth_ok (List.forall_mem_cons.mpr ⟨m_1 cal_X9_isLetter (wG_t5 134 (by decide +kernel) rfl), List.forall_mem_nil _⟩), thr_ok (by intro q h; cases h), cls_ok (by intro q h; cases h), c32_ok (by intro q h; cases h), c64_ok (by intro q h; cases h), an_ok 0 (by decide +kernel) (fun h => absurd rfl h) (fun _ => by decide +kernel), (rows_ok mr_X9_isWritable).2, rfl, hnd_0⟩
set_option maxRecDepth 20000 in
theorem ms_X9_isWritable : MStat 176 := ⟨mo_X9_isWritable, by decide +kernel, ret_ok (by decide +kernel)⟩
set_option maxRecDepth 20000 in
theorem mr_X9_put : rowsC RX9 cX9_put 4 "put" mi_X9_put = true := by decide +kernel
set_option maxRecDepth 20000 in
theorem mo_X9_put : MOk RX9 cX9_put 4 "put" mi_X9_put [] := ⟨(rows_ok mr_X9_put).1, fld_ok (wG_of [1076, 1073] (by decide +kernel) (by decide +kernel)) (by decide +kernel), mth_ok (List.forall_mem_cons.mpr ⟨m_0 cal_X9_isCell (wG_t5 168 (by decide +kernel) rfl), List.forall_mem_cons.mpr ⟨m_1 cal_X9_isWritable (wG_t6 32 (by decide +kernel) rfl), List.forall_mem_cons.mpr ⟨m_0 cal_X9_remember (wG_t6 35 (by decide +kernel) rfl), List.forall_mem_nil _⟩⟩⟩), thr_ok (by intro q h; cases h), cls_ok (by intro q h; cases h), c32_ok (by intro q h; cases h), c64_ok (by intro q h; cases h), an_ok 0 (by decide +kernel) (fun h => absurd rfl h) (fun _ => by decide +kernel), (rows_ok mr_X9_put).2, rfl, hnd_0⟩
set_option maxRecDepth 20000 in
theorem ms_X9_put : MStat 177 := ⟨mo_X9_put, by decide +kernel, ret_ok (by decide +kernel)⟩
set_option maxRecDepth 20000 in
theorem mr_X9_isRim : rowsC RX9 cX9_isRim 3 "isRim" mi_X9_isRim = true := by decide +kernel
set_option maxRecDepth 20000 in
theorem mo_X9_isRim : MOk RX9 cX9_isRim 3 "isRim" mi_X9_isRim [] := ⟨(rows_ok mr_X9_isRim).1, fld_ok (wG_of [] (by decide +kernel) (by decide +kernel)) (by decide +kernel), mth_ok (List.forall_mem_cons.mpr ⟨m_0 cal_X9_isLastColumn (wG_t5 30 (by decide +kernel) rfl), List.forall_mem_cons.mpr ⟨m_0 cal_X9_isLastRow (wG_t5 38 (by decide +kernel) rfl), List.forall_mem_nil _⟩⟩), thr_ok (by intro q h; cases h), cls_ok (by intro q h; cases h), c32_ok (by intro q h; cases h), c64_ok (by intro q h; cases h), an_ok 0 (by decide +kernel) (fun h => absurd rfl h) (fun _ => by decide +kernel), (rows_ok mr_X9_isRim).2, rfl, hnd_0⟩
set_option maxRecDepth 20000 in
theorem ms_X9_isRim : MStat 178 := ⟨mo_X9_isRim, by decide +kernel, ret_ok (by decide +kernel)⟩
set_option maxRecDepth 20000 in
theorem mr_X9_bar : rowsC RX9 cX9_bar 4 "bar" mi_X9_bar = true := by decide +kernel
set_option maxRecDepth 20000 in
theorem mo_X9_bar : MOk RX9 cX9_bar 4 "bar" mi_X9_bar [] := ⟨(rows_ok mr_X9_bar).1, fld_ok (wG_of [1076] (by decide +kernel) (by decide +kernel)) (by decide +kernel), mth_ok (List.forall_mem_cons.mpr ⟨m_0 cal_X9_findEntries (wG_t5 18 (by decide +kernel) rfl), List.forall_mem_nil _⟩), thr_ok (by intro q h; cases h), cls_ok (by intro q h; cases h), c32_ok (by intro q h; cases h), c64_ok (by intro q h; cases h), an_ok 0 (by decide +kernel) (fun h => absurd rfl h) (fun _ => by decide +kernel), (rows_ok mr_X9_bar).2, rfl, hnd_0⟩
set_option maxRecDepth 20000 in
theorem ms_X9_bar : MStat 179 := ⟨mo_X9_bar, by decide +kernel, ret_ok (by decide +kernel)⟩
set_option maxRecDepth 20000 in
theorem mr_X9_setBar : rowsC RX9 cX9_setBar 4 "setBar" mi_X9_setBar = true := by decide +kernel
set_option maxRecDepth 20000 in
theorem mo_X9_setBar : MOk RX9 cX9_setBar 4 "setBar" mi_X9_setBar [] := ⟨(rows_ok mr_X9_setBar).1, fld_ok (wG_of [1073, 1083] (by decide +kernel) (by decide +kernel)) (by decide +kernel), mth_ok (List.forall_mem_cons.mpr ⟨m_0 cal_X9_isCell (wG_t5 168 (by decide +kernel) rfl), List.forall_mem_cons.mpr ⟨m_0 cal_X9_remember (wG_t6 35 (by decide +kernel) rfl), List.forall_mem_cons.mpr ⟨m_0 cal_X9_isRim (wG_t6 43 (by decide +kernel) rfl), List.forall_mem_cons.mpr ⟨m_0 cal_X9_bar (wG_t6 47 (by decide +kernel) rfl), List.forall_mem_nil _⟩⟩⟩⟩), thr_ok (by intro q h; cases h), cls_ok (by intro q h; cases h), c32_ok (by intro q h; cases h), c64_ok (by intro q h; cases h), an_ok 0 (by decide +kernel) (fun h => absurd rfl h) (fun _ => by decide +kernel), (rows_ok mr_X9_setBar).2, rfl, hnd_0⟩
set_option maxRecDepth 20000 in
theorem ms_X9_setBar : MStat 180 := ⟨mo_X9_setBar, by decide +kernel, ret_ok (by decide +kernel)⟩
set_option maxRecDepth 20000 in
theorem mr_X9_isLetters : rowsC RX9 cX9_isLetters 4 "isLetters" mi_X9_isLetters = true := by decide +kernel
set_option maxRecDepth 20000 in
theorem mo_X9_isLetters : MOk RX9 cX9_isLetters 4 "isLetters" mi_X9_isLetters [] := ⟨(rows_ok mr_X9_isLetters).1, fld_ok (wG_of [1074, 1075] (by decide +kernel) (by decide +kernel)) (by decide +kernel), mth_ok (List.forall_mem_cons.mpr ⟨m_1 cal_X9_isLetter (wG_t5 134 (by decide +kernel) rfl), List.forall_mem_nil _⟩), thr_ok (by intro q h; cases h), cls_ok (by intro q h; cases h), c32_ok (by intro q h; cases h), c64_ok (by intro q h; cases h), an_ok 0 (by decide +kernel) (fun h => absurd rfl h) (fun _ => by decide +kernel), (rows_ok mr_X9_isLetters).2, rfl, hnd_0⟩
set_option maxRecDepth 20000 in
theorem ms_X9_isLetters : MStat 181 := ⟨mo_X9_isLetters, by decide +kernel, ret_ok (by decide +kernel)⟩
set_option maxRecDepth 20000 in
theorem mr_X9_addWord : rowsC RX9 cX9_addWord 3 "addWord" mi_X9_addWord = true := by decide +kernel
set_option maxRecDepth 20000 in
theorem mo_X9_addWord : MOk RX9 cX9_addWord 3 "addWord" mi_X9_addWord [] := ⟨(rows_ok mr_X9_addWord).1, fld_ok (wG_of [1074, 1076, 1073, 1075] (by decide +kernel) (by decide +kernel)) (by decide +kernel), mth_ok (List.forall_mem_cons.mpr ⟨m_0 cal_X9_remember (wG_t6 35 (by decide +kernel) rfl), List.forall_mem_cons.mpr ⟨m_0 cal_X9_isLetters (wG_t6 55 (by decide +kernel) rfl), List.forall_mem_nil _⟩⟩), thr_ok (by intro q h; cases h), cls_ok (by intro q h; cases h), c32_ok (by intro q h; cases h), c64_ok (by intro q h; cases h), an_ok 0 (by decide +kernel) (fun h => absurd rfl h) (fun _ => by decide +kernel), (rows_ok mr_X9_addWord).2, rfl, hnd_0⟩
set_option maxRecDepth 20000 in
theorem ms_X9_addWord : MStat 182 := ⟨mo_X9_addWord, by decide +kernel, ret_ok (by decide +kernel)⟩
set_option maxRecDepth 20000 in
theorem mr_X9_setLine : rowsC RX9 cX9_setLine 2 "setLine" mi_X9_setLine = true := by decide +kernel
set_option maxRecDepth 20000 in
theorem mo_X9_setLine : MOk RX9 cX9_setLine 2 "setLine" mi_X9_setLine [] := ⟨(rows_ok mr_X9_setLine).1, fld_ok (wG_of [1074, 1076, 1073, 1075] (by decide +kernel) (by decide +kernel)) (by decide +kernel), mth_ok (List.forall_mem_cons.mpr ⟨m_0 cal_X9_remember (wG_t6 35 (by decide +kernel) rfl), List.forall_mem_cons.mpr ⟨m_0 cal_X9_isLetters (wG_t6 55 (by decide +kernel) rfl), List.forall_mem_nil _⟩⟩), thr_ok (by intro q h; cases h), cls_ok (by intro q h; cases h), c32_ok (by intro q h; cases h), c64_ok (by intro q h; cases h), an_ok 0 (by decide +kernel) (fun h => absurd rfl h) (fun _ => by decide +kernel), (rows_ok mr_X9_setLine).2, rfl, hnd_0⟩
set_option maxRecDepth 20000 in
theorem ms_X9_setLine : MStat 183 := ⟨mo_X9_setLine, by decide +kernel, ret_ok (by decide +kernel)⟩
set_option maxRecDepth 20000 in
theorem mr_X9_writeWord : rowsC RX9 cX9_writeWord 4 "writeWord" mi_X9_writeWord = true := by decide +kernel
set_option maxRecDepth 20000 in
theorem mo_X9_writeWord : MOk RX9 cX9_writeWord 4 "writeWord" mi_X9_writeWord [] := ⟨(rows_ok mr_X9_writeWord).1, fld_ok (wG_of [1076, 1086] (by decide +kernel) (by decide +kernel)) (by decide +kernel), mth_ok (List.forall_mem_cons.mpr ⟨m_0 cal_X9_cellOf (wG_t5 184 (by decide +kernel) rfl), List.forall_mem_cons.mpr ⟨m_0 cal_X9_letterOf (wG_t5 200 (by decide +kernel) rfl), List.forall_mem_nil _⟩⟩), thr_ok (by intro q h; cases h), cls_ok (by intro q h; cases h), c32_ok (by intro q h; cases h), c64_ok (by intro q h; cases h), an_ok 0 (by decide +kernel) (fun h => absurd rfl h) (fun _ => by decide +kernel), (rows_ok mr_X9_writeWord).2, rfl, hnd_0⟩
set_option maxRecDepth 20000 in
theorem ms_X9_writeWord : MStat 184 := ⟨mo_X9_writeWord, by decide +kernel, ret_ok (by decide +kernel)⟩
set_option maxRecDepth 20000 in
theorem mr_X9_write : rowsC RX9 cX9_write 4 "write" mi_X9_write = true := by decide +kernel
set_option maxRecDepth 20000 in
theorem mo_X9_write : MOk RX9 cX9_write 4 "write" mi_X9_write [] := ⟨(rows_ok mr_X9_write).1, fld_ok (wG_of [1073] (by decide +kernel) (by decide +kernel)) (by decide +kernel), mth_ok (List.forall_mem_cons.mpr ⟨m_0 cal_X9_isEntry (wG_t5 176 (by decide +kernel) rfl), List.forall_mem_cons.mpr ⟨m_0 cal_X9_emptyIn (wG_t5 188 (by decide +kernel) rfl), List.forall_mem_cons.mpr ⟨m_0 cal_X9_isFitting (wG_t5 196 (by decide +kernel) rfl), List.forall_mem_cons.mpr ⟨m_0 cal_X9_isWord (wG_t5 208 (by decide +kernel) rfl), List.forall_mem_cons.mpr ⟨m_0 cal_X9_remember (wG_t6 35 (by decide +kernel) rfl), List.forall_mem_cons.mpr ⟨m_0 cal_X9_writeWord (wG_t6 67 (by decide +kernel) rfl), List.forall_mem_nil _⟩⟩⟩⟩⟩⟩), thr_ok (by intro q h; cases h), cls_ok (by intro q h; cases h), c32_ok (by intro q h; cases h), c64_ok (by intro q h; cases h), an_ok 0 (by decide +kernel) (fun h => absurd rfl h) (fun _ => by decide +kernel), (rows_ok mr_X9_write).2, rfl, hnd_0⟩
set_option maxRecDepth 20000 in
theorem ms_X9_write : MStat 185 := ⟨mo_X9_write, by decide +kernel, ret_ok (by decide +kernel)⟩
set_option maxRecDepth 20000 in
theorem mr_X9_eraseEntry : rowsC RX9 cX9_eraseEntry 7 "eraseEntry" mi_X9_eraseEntry = true := by decide +kernel
set_option maxRecDepth 20000 in
theorem mo_X9_eraseEntry : MOk RX9 cX9_eraseEntry 7 "eraseEntry" mi_X9_eraseEntry [] := ⟨(rows_ok mr_X9_eraseEntry).1, fld_ok (wG_of [1076, 1085, 1086, 1087, 1088] (by decide +kernel) (by decide +kernel)) (by decide +kernel), mth_ok (List.forall_mem_cons.mpr ⟨m_0 cal_X9_cellOf (wG_t5 184 (by decide +kernel) rfl), List.forall_mem_cons.mpr ⟨m_0 cal_X9_emptyIn (wG_t5 188 (by decide +kernel) rfl), List.forall_mem_nil _⟩⟩), thr_ok (by intro q h; cases h), cls_ok (by intro q h; cases h), c32_ok (by intro q h; cases h), c64_ok (by intro q h; cases h), an_ok 0 (by decide +kernel) (fun h => absurd rfl h) (fun _ => by decide +kernel), (rows_ok mr_X9_eraseEntry).2, rfl, hnd_0⟩
set_option maxRecDepth 20000 in
theorem ms_X9_eraseEntry : MStat 186 := ⟨mo_X9_eraseEntry, by decide +kernel, ret_ok (by decide +kernel)⟩
set_option maxRecDepth 20000 in
theorem mr_X9_erase : rowsC RX9 cX9_erase 2 "erase" mi_X9_erase = true := by decide +kernel
set_option maxRecDepth 20000 in
theorem mo_X9_erase : MOk RX9 cX9_erase 2 "erase" mi_X9_erase [] := ⟨(rows_ok mr_X9_erase).1, fld_ok (wG_of [1073] (by decide +kernel) (by decide +kernel)) (by decide +kernel), mth_ok (List.forall_mem_cons.mpr ⟨m_0 cal_X9_isEntry (wG_t5 176 (by decide +kernel) rfl), List.forall_mem_cons.mpr ⟨m_0 cal_X9_remember (wG_t6 35 (by decide +kernel) rfl), List.forall_mem_cons.mpr ⟨m_0 cal_X9_eraseEntry (wG_t6 75 (by decide +kernel) rfl), List.forall_mem_nil _⟩⟩⟩), thr_ok (by intro q h; cases h), cls_ok (by intro q h; cases h), c32_ok (by intro q h; cases h), c64_ok (by intro q h; cases h), an_ok 0 (by decide +kernel) (fun h => absurd rfl h) (fun _ => by decide +kernel), (rows_ok mr_X9_erase).2, rfl, hnd_0⟩
set_option maxRecDepth 20000 in
theorem ms_X9_erase : MStat 187 := ⟨mo_X9_erase, by decide +kernel, ret_ok (by decide +kernel)⟩
set_option maxRecDepth 20000 in
theorem mr_X9_undo : rowsC RX9 cX9_undo 1 "undo" mi_X9_undo = true := by decide +kernel
set_option maxRecDepth 20000 in
theorem mo_X9_undo : MOk RX9 cX9_undo 1 "undo" mi_X9_undo [] := ⟨(rows_ok mr_X9_undo).1, fld_ok (wG_of [1076, 1079, 1073, 1080] (by decide +kernel) (by decide +kernel)) (by decide +kernel), mth_ok (List.forall_mem_cons.mpr ⟨m_0 cal_X9_findEntries (wG_t5 18 (by decide +kernel) rfl), List.forall_mem_cons.mpr ⟨m_1 cal_X9_move (wG_t5 145 (by decide +kernel) rfl), List.forall_mem_nil _⟩⟩), thr_ok (by intro q h; cases h), cls_ok (by intro q h; cases h), c32_ok (by intro q h; cases h), c64_ok (by intro q h; cases h), an_ok 0 (by decide +kernel) (fun h => absurd rfl h) (fun _ => by decide +kernel), (rows_ok mr_X9_undo).2, rfl, hnd_0⟩
set_option maxRecDepth 20000 in
theorem ms_X9_undo : MStat 188 := ⟨mo_X9_undo, by decide +kernel, ret_ok (by decide +kernel)⟩
set_option maxRecDepth 20000 in
theorem mr_X9_possible : rowsC RX9 cX9_possible 1 "possible" mi_X9_possible = true := by decide +kernel
set_option maxRecDepth 20000 in
theorem mo_X9_possible : MOk RX9 cX9_possible 1 "possible" mi_X9_possible [] := ⟨(rows_ok mr_X9_possible).1, fld_ok (wG_of [1073] (by decide +kernel) (by decide +kernel)) (by decide +kernel), mth_ok (List.forall_mem_cons.mpr ⟨m_0 cal_X9_countReadings (wG_t6 12 (by decide +kernel) rfl), List.forall_mem_nil _⟩), thr_ok (by intro q h; cases h), cls_ok (by intro q h; cases h), c32_ok (by intro q h; cases h), c64_ok (by intro q h; cases h), an_ok 0 (by decide +kernel) (fun h => absurd rfl h) (fun _ => by decide +kernel), (rows_ok mr_X9_possible).2, rfl, hnd_0⟩
set_option maxRecDepth 20000 in
theorem ms_X9_possible : MStat 189 := ⟨mo_X9_possible, by decide +kernel, ret_ok (by decide +kernel)⟩
set_option maxRecDepth 20000 in
theorem mr_X9_canFill : rowsC RX9 cX9_canFill 8 "canFill" mi_X9_canFill = true := by decide +kernel
set_option maxRecDepth 20000 in
theorem mo_X9_canFill : MOk RX9 cX9_canFill 8 "canFill" mi_X9_canFill [] := ⟨(rows_ok mr_X9_canFill).1, fld_ok (wG_of [1076, 1084, 1085, 1086, 1087, 1088, 1091] (by decide +kernel) (by decide +kernel)) (by decide +kernel), mth_ok (List.forall_mem_cons.mpr ⟨m_0 cal_X9_cellOf (wG_t5 184 (by decide +kernel) rfl), List.forall_mem_cons.mpr ⟨m_0 cal_X9_isFitting (wG_t5 196 (by decide +kernel) rfl), List.forall_mem_cons.mpr ⟨m_0 cal_X9_letterOf (wG_t5 200 (by decide +kernel) rfl), List.forall_mem_nil _⟩⟩⟩), thr_ok (by intro q h; cases h), cls_ok (by intro q h; cases h), c32_ok (by intro q h; cases h), c64_ok (by intro q h; cases h), an_ok 0 (by decide +kernel) (fun h => absurd rfl h) (fun _ => by decide +kernel), (rows_ok mr_X9_canFill).2, rfl, hnd_0⟩
set_option maxRecDepth 20000 in
theorem ms_X9_canFill : MStat 190 := ⟨mo_X9_canFill, by decide +kernel, ret_ok (by decide +kernel)⟩
set_option maxRecDepth 20000 in
theorem mr_X9_fillings : rowsC RX9 cX9_fillings 4 "fillings" mi_X9_fillings = true := by decide +kernel
set_option maxRecDepth 20000 in
theorem mo_X9_fillings : MOk RX9 cX9_fillings 4 "fillings" mi_X9_fillings [] := ⟨(rows_ok mr_X9_fillings).1, fld_ok (wG_of [1076, 1091, 1073, 1083] (by decide +kernel) (by decide +kernel)) (by decide +kernel), mth_ok (List.forall_mem_cons.mpr ⟨m_0 cal_X9_canFill (wG_t6 91 (by decide +kernel) rfl), List.forall_mem_nil _⟩), thr_ok (by intro q h; cases h), cls_ok (by intro q h; cases h), c32_ok (by intro q h; cases h), c64_ok (by intro q h; cases h), an_ok 0 (by decide +kernel) (fun h => absurd rfl h) (fun _ => by decide +kernel), (rows_ok mr_X9_fillings).2, rfl, hnd_0⟩
set_option maxRecDepth 20000 in
theorem ms_X9_fillings : MStat 191 := ⟨mo_X9_fillings, by decide +kernel, ret_ok (by decide +kernel)⟩
set_option maxRecDepth 20000 in
theorem mr_X9_change : rowsC RX9 cX9_change 3 "change" mi_X9_change = true := by decide +kernel
set_option maxRecDepth 20000 in
theorem mo_X9_change : MOk RX9 cX9_change 3 "change" mi_X9_change [] := ⟨(rows_ok mr_X9_change).1, fld_ok (wG_of [1076] (by decide +kernel) (by decide +kernel)) (by decide +kernel), mth_ok (List.forall_mem_cons.mpr ⟨m_0 cal_X9_bar (wG_t6 47 (by decide +kernel) rfl), List.forall_mem_nil _⟩), thr_ok (by intro q h; cases h), cls_ok (by intro q h; cases h), c32_ok (by intro q h; cases h), c64_ok (by intro q h; cases h), an_ok 0 (by decide +kernel) (fun h => absurd rfl h) (fun _ => by decide +kernel), (rows_ok mr_X9_change).2, rfl, hnd_0⟩
set_option maxRecDepth 20000 in
theorem ms_X9_change : MStat 192 := ⟨mo_X9_change, by decide +kernel, ret_ok (by decide +kernel)⟩
set_option maxRecDepth 20000 in
theorem mr_X9_mend : rowsC RX9 cX9_mend 7 "mend" mi_X9_mend = true := by decide +kernel
set_option maxRecDepth 20000 in
theorem mo_X9_mend : MOk RX9 cX9_mend 7 "mend" mi_X9_mend [] := ⟨(rows_ok mr_X9_mend).1, fld_ok (wG_of [1073] (by decide +kernel) (by decide +kernel)) (by decide +kernel), mth_ok (List.forall_mem_cons.mpr ⟨m_0 cal_X9_size (wG_t5 22 (by decide +kernel) rfl), List.forall_mem_cons.mpr ⟨m_0 cal_X9_isRim (wG_t6 43 (by decide +kernel) rfl), List.forall_mem_cons.mpr ⟨m_0 cal_X9_kept (wG_t6 99 (by decide +kernel) rfl), List.forall_mem_cons.mpr ⟨m_0 cal_X9_change (wG_t6 103 (by decide +kernel) rfl), List.forall_mem_nil _⟩⟩⟩⟩), thr_ok (by intro q h; cases h), cls_ok (by intro q h; cases h), c32_ok (by intro q h; cases h), c64_ok (by intro q h; cases h), an_ok 0 (by decide +kernel) (fun h => absurd rfl h) (fun _ => by decide +kernel), (rows_ok mr_X9_mend).2, rfl, hnd_0⟩
set_option maxRecDepth 20000 in
theorem ms_X9_mend : MStat 193 := ⟨mo_X9_mend, by decide +kernel, ret_ok (by decide +kernel)⟩
set_option maxRecDepth 20000 in
theorem mr_X9_hardest : rowsC RX9 cX9_hardest 5 "hardest" mi_X9_hardest = true := by decide +kernel
set_option maxRecDepth 20000 in
theorem mo_X9_hardest : MOk RX9 cX9_hardest 5 "hardest" mi_X9_hardest [] := ⟨(rows_ok mr_X9_hardest).1, fld_ok (wG_of [1073, 1083] (by decide +kernel) (by decide +kernel)) (by decide +kernel), mth_ok (List.forall_mem_cons.mpr ⟨m_0 cal_X9_emptyIn (wG_t5 188 (by decide +kernel) rfl), List.forall_mem_cons.mpr ⟨m_0 cal_X9_fitsOf (wG_t5 216 (by decide +kernel) rfl), List.forall_mem_nil _⟩⟩), thr_ok (by intro q h; cases h), cls_ok (by intro q h; cases h), c32_ok (by intro q h; cases h), c64_ok (by intro q h; cases h), an_ok 0 (by decide +kernel) (fun h => absurd rfl h) (fun _ => by decide +kernel), (rows_ok mr_X9_hardest).2, rfl, hnd_0⟩
set_option maxRecDepth 20000 in
theorem ms_X9_hardest : MStat 194 := ⟨mo_X9_hardest, by decide +kernel, ret_ok (by decide +kernel)⟩
set_option maxRecDepth 20000 in
theorem mr_X9_putsLetter : rowsC RX9 cX9_putsLetter 5 "putsLetter" mi_X9_putsLetter = true := by decide +kernel
set_option maxRecDepth 20000 in
theorem mo_X9_putsLetter : MOk RX9 cX9_putsLetter 5 "putsLetter" mi_X9_putsLetter [] := ⟨(rows_ok mr_X9_putsLetter).1, fld_ok (wG_of [1076] (by decide +kernel) (by decide +kernel)) (by decide +kernel), mth_ok (List.forall_mem_cons.mpr ⟨m_0 cal_X9_isCell (wG_t5 168 (by decide +kernel) rfl), List.forall_mem_cons.mpr ⟨m_1 cal_X9_isWritable (wG_t6 32 (by decide +kernel) rfl), List.forall_mem_nil _⟩⟩), thr_ok (by intro q h; cases h), cls_ok (by intro q h; cases h), c32_ok (by intro q h; cases h), c64_ok (by intro q h; cases h), an_ok 0 (by decide +kernel) (fun h => absurd rfl h) (fun _ => by decide +kernel), (rows_ok mr_X9_putsLetter).2, rfl, hnd_0⟩
set_option maxRecDepth 20000 in
theorem ms_X9_putsLetter : MStat 195 := ⟨mo_X9_putsLetter, by decide +kernel, ret_ok (by decide +kernel)⟩
set_option maxRecDepth 20000 in
theorem mr_X9_setsBar : rowsC RX9 cX9_setsBar 5 "setsBar" mi_X9_setsBar = true := by decide +kernel
set_option maxRecDepth 20000 in
theorem mo_X9_setsBar : MOk RX9 cX9_setsBar 5 "setsBar" mi_X9_setsBar [] := ⟨(rows_ok mr_X9_setsBar).1, fld_ok (wG_of [] (by decide +kernel) (by decide +kernel)) (by decide +kernel), mth_ok (List.forall_mem_cons.mpr ⟨m_0 cal_X9_isCell (wG_t5 168 (by decide +kernel) rfl), List.forall_mem_cons.mpr ⟨m_0 cal_X9_isRim (wG_t6 43 (by decide +kernel) rfl), List.forall_mem_cons.mpr ⟨m_0 cal_X9_bar (wG_t6 47 (by decide +kernel) rfl), List.forall_mem_nil _⟩⟩⟩), thr_ok (by intro q h; cases h), cls_ok (by intro q h; cases h), c32_ok (by intro q h; cases h), c64_ok (by intro q h; cases h), an_ok 0 (by decide +kernel) (fun h => absurd rfl h) (fun _ => by decide +kernel), (rows_ok mr_X9_setsBar).2, rfl, hnd_0⟩
set_option maxRecDepth 20000 in
theorem ms_X9_setsBar : MStat 196 := ⟨mo_X9_setsBar, by decide +kernel, ret_ok (by decide +kernel)⟩
set_option maxRecDepth 20000 in
theorem mr_X9_writes : rowsC RX9 cX9_writes 4 "writes" mi_X9_writes = true := by decide +kernel
set_option maxRecDepth 20000 in
theorem mo_X9_writes : MOk RX9 cX9_writes 4 "writes" mi_X9_writes [] := ⟨(rows_ok mr_X9_writes).1, fld_ok (wG_of [] (by decide +kernel) (by decide +kernel)) (by decide +kernel), mth_ok (List.forall_mem_cons.mpr ⟨m_0 cal_X9_isEntry (wG_t5 176 (by decide +kernel) rfl), List.forall_mem_cons.mpr ⟨m_0 cal_X9_isFitting (wG_t5 196 (by decide +kernel) rfl), List.forall_mem_cons.mpr ⟨m_0 cal_X9_isWord (wG_t5 208 (by decide +kernel) rfl), List.forall_mem_cons.mpr ⟨m_0 cal_X9_writeWord (wG_t6 67 (by decide +kernel) rfl), List.forall_mem_nil _⟩⟩⟩⟩), thr_ok (by intro q h; cases h), cls_ok (by intro q h; cases h), c32_ok (by intro q h; cases h), c64_ok (by intro q h; cases h), an_ok 0 (by decide +kernel) (fun h => absurd rfl h) (fun _ => by decide +kernel), (rows_ok mr_X9_writes).2, rfl, hnd_0⟩
set_option maxRecDepth 20000 in
theorem ms_X9_writes : MStat 197 := ⟨mo_X9_writes, by decide +kernel, ret_ok (by decide +kernel)⟩
set_option maxRecDepth 20000 in
theorem mr_X9_erases : rowsC RX9 cX9_erases 3 "erases" mi_X9_erases = true := by decide +kernel
set_option maxRecDepth 20000 in
theorem mo_X9_erases : MOk RX9 cX9_erases 3 "erases" mi_X9_erases [] := ⟨(rows_ok mr_X9_erases).1, fld_ok (wG_of [] (by decide +kernel) (by decide +kernel)) (by decide +kernel), mth_ok (List.forall_mem_cons.mpr ⟨m_0 cal_X9_isEntry (wG_t5 176 (by decide +kernel) rfl), List.forall_mem_cons.mpr ⟨m_0 cal_X9_eraseEntry (wG_t6 75 (by decide +kernel) rfl), List.forall_mem_nil _⟩⟩), thr_ok (by intro q h; cases h), cls_ok (by intro q h; cases h), c32_ok (by intro q h; cases h), c64_ok (by intro q h; cases h), an_ok 0 (by decide +kernel) (fun h => absurd rfl h) (fun _ => by decide +kernel), (rows_ok mr_X9_erases).2, rfl, hnd_0⟩
set_option maxRecDepth 20000 in
theorem ms_X9_erases : MStat 198 := ⟨mo_X9_erases, by decide +kernel, ret_ok (by decide +kernel)⟩
set_option maxRecDepth 20000 in
theorem mr_X9_runs : rowsC RX9 cX9_runs 9 "runs" mi_X9_runs = true := by decide +kernel
set_option maxRecDepth 20000 in
theorem mo_X9_runs : MOk RX9 cX9_runs 9 "runs" mi_X9_runs [] := ⟨(rows_ok mr_X9_runs).1, fld_ok (wG_of [1083] (by decide +kernel) (by decide +kernel)) (by decide +kernel), mth_ok (List.forall_mem_cons.mpr ⟨m_0 cal_X9_entriesOf (wG_t5 156 (by decide +kernel) rfl), List.forall_mem_cons.mpr ⟨m_0 cal_X9_isCell (wG_t5 168 (by decide +kernel) rfl), List.forall_mem_cons.mpr ⟨m_0 cal_X9_isEntry (wG_t5 176 (by decide +kernel) rfl), List.forall_mem_cons.mpr ⟨m_0 cal_X9_fitsOf (wG_t5 216 (by decide +kernel) rfl), List.forall_mem_cons.mpr ⟨m_0 cal_X9_keeps (wG_t5 227 (by decide +kernel) rfl), List.forall_mem_cons.mpr ⟨m_1 cal_X9_isRule (wG_t5 224 (by decide +kernel) rfl), List.forall_mem_cons.mpr ⟨m_0 cal_X9_countReadings (wG_t6 12 (by decide +kernel) rfl), List.forall_mem_cons.mpr ⟨m_0 cal_X9_putsLetter (wG_t6 122 (by decide +kernel) rfl), List.forall_mem_cons.mpr ⟨m_0 cal_X9_setsBar (wG_t6 126 (by decide +kernel) rfl), List.forall_mem_cons.mpr ⟨m_0 cal_X9_writes (wG_t6 130 (by decide +kernel) rfl), List.forall_mem_cons.mpr ⟨m_0 cal_X9_erases (wG_t6 134 (by decide +kernel) rfl), List.forall_mem_nil _⟩⟩⟩⟩⟩⟩⟩⟩⟩⟩⟩), thr_ok (by intro q h; cases h), cls_ok (by intro q h; cases h), c32_ok (by intro q h; cases h), c64_ok (by intro q h; cases h), an_ok 0 (by decide +kernel) (fun h => absurd rfl h) (fun _ => by decide +kernel), (rows_ok mr_X9_runs).2, rfl, hnd_0⟩
set_option maxRecDepth 20000 in
theorem ms_X9_runs : MStat 199 := ⟨mo_X9_runs, by decide +kernel, ret_ok (by decide +kernel)⟩
set_option maxRecDepth 20000 in
theorem mr_X9_runScript : rowsC RX9 cX9_runScript 10 "runScript" mi_X9_runScript = true := by decide +kernel
set_option maxRecDepth 20000 in
theorem mo_X9_runScript : MOk RX9 cX9_runScript 10 "runScript" mi_X9_runScript [] := ⟨(rows_ok mr_X9_runScript).1, fld_ok (wG_of [1076, 1078, 1073] (by decide +kernel) (by decide +kernel)) (by decide +kernel), mth_ok (List.forall_mem_cons.mpr ⟨m_0 cal_X9_findEntries (wG_t5 18 (by decide +kernel) rfl), List.forall_mem_cons.mpr ⟨m_1 cal_X9_move (wG_t5 145 (by decide +kernel) rfl), List.forall_mem_cons.mpr ⟨m_0 cal_X9_runs (wG_t6 118 (by decide +kernel) rfl), List.forall_mem_nil _⟩⟩⟩), thr_ok (by intro q h; cases h), cls_ok (by intro q h; cases h), c32_ok (List.forall_mem_cons.mpr ⟨Or.inr (by decide +kernel), List.forall_mem_cons.mpr ⟨Or.inr (by decide +kernel), List.forall_mem_cons.mpr ⟨Or.inr (by decide +kernel), List.forall_mem_nil _⟩⟩⟩), c64_ok (List.forall_mem_cons.mpr ⟨Or.inl (wG_t6 115 (by decide +kernel) rfl), List.forall_mem_cons.mpr ⟨Or.inl (wG_t6 116 (by decide +kernel) rfl), List.forall_mem_cons.mpr ⟨Or.inl (wG_t6 117 (by decide +kernel) rfl), List.forall_mem_nil _⟩⟩⟩), an_ok 0 (by decide +kernel) (fun h => absurd rfl h) (fun _ => by decide +kernel), (rows_ok mr_X9_runScript).2, rfl, hnd_0⟩
set_option maxRecDepth 20000 in
theorem ms_X9_runScript : MStat 200 := ⟨mo_X9_runScript, by decide +kernel, ret_ok (by decide +kernel)⟩
set_option maxRecDepth 20000 in
theorem mr_X9_simulate : rowsC RX9 cX9_simulate 9 "simulate" mi_X9_simulate = true := by decide +kernel
set_option maxRecDepth 20000 in
theorem mo_X9_simulate : MOk RX9 cX9_simulate 9 "simulate" mi_X9_simulate [] := ⟨(rows_ok mr_X9_simulate).1, fld_ok (wG_of [1076, 1078, 1073, 1083] (by decide +kernel) (by decide +kernel)) (by decide +kernel), mth_ok (List.forall_mem_cons.mpr ⟨m_0 cal_X9_findEntries (wG_t5 18 (by decide +kernel) rfl), List.forall_mem_cons.mpr ⟨m_1 cal_X9_move (wG_t5 145 (by decide +kernel) rfl), List.forall_mem_cons.mpr ⟨m_0 cal_X9_size (wG_t5 22 (by decide +kernel) rfl), List.forall_mem_cons.mpr ⟨m_0 cal_X9_countReadings (wG_t6 12 (by decide +kernel) rfl), List.forall_mem_cons.mpr ⟨m_0 cal_X9_isRim (wG_t6 43 (by decide +kernel) rfl), List.forall_mem_cons.mpr ⟨m_0 cal_X9_kept (wG_t6 99 (by decide +kernel) rfl), List.forall_mem_cons.mpr ⟨m_0 cal_X9_change (wG_t6 103 (by decide +kernel) rfl), List.forall_mem_nil _⟩⟩⟩⟩⟩⟩⟩), thr_ok (by intro q h; cases h), cls_ok (by intro q h; cases h), c32_ok (List.forall_mem_cons.mpr ⟨Or.inr (by decide +kernel), List.forall_mem_cons.mpr ⟨Or.inr (by decide +kernel), List.forall_mem_nil _⟩⟩), c64_ok (List.forall_mem_cons.mpr ⟨Or.inl (wG_t6 142 (by decide +kernel) rfl), List.forall_mem_cons.mpr ⟨Or.inl (wG_t6 143 (by decide +kernel) rfl), List.forall_mem_nil _⟩⟩), an_ok 0 (by decide +kernel) (fun h => absurd rfl h) (fun _ => by decide +kernel), (rows_ok mr_X9_simulate).2, rfl, hnd_0⟩
set_option maxRecDepth 20000 in
theorem ms_X9_simulate : MStat 201 := ⟨mo_X9_simulate, by decide +kernel, ret_ok (by decide +kernel)⟩
set_option maxRecDepth 20000 in
theorem mr_X9_isSlot : rowsC RX9 cX9_isSlot 1 "isSlot" mi_X9_isSlot = true := by decide +kernel
set_option maxRecDepth 20000 in
theorem mo_X9_isSlot : MOk RX9 cX9_isSlot 1 "isSlot" mi_X9_isSlot [] := ⟨(rows_ok mr_X9_isSlot).1, fld_ok (wG_of [] (by decide +kernel) (by decide +kernel)) (by decide +kernel), mth_ok (by intro q h; cases h), thr_ok (by intro q h; cases h), cls_ok (by intro q h; cases h), c32_ok (by intro q h; cases h), c64_ok (by intro q h; cases h), an_ok 0 (by decide +kernel) (fun h => absurd rfl h) (fun _ => by decide +kernel), (rows_ok mr_X9_isSlot).2, rfl, hnd_0⟩
set_option maxRecDepth 20000 in
theorem ms_X9_isSlot : MStat 202 := ⟨mo_X9_isSlot, by decide +kernel, ret_ok (by decide +kernel)⟩
set_option maxRecDepth 20000 in
theorem mr_X9_save : rowsC RX9 cX9_save 2 "save" mi_X9_save = true := by decide +kernel
set_option maxRecDepth 20000 in
theorem mo_X9_save : MOk RX9 cX9_save 2 "save" mi_X9_save [] := ⟨(rows_ok mr_X9_save).1, fld_ok (wG_of [1076, 1081, 1082, 1073, 1083] (by decide +kernel) (by decide +kernel)) (by decide +kernel), mth_ok (List.forall_mem_cons.mpr ⟨m_1 cal_X9_move (wG_t5 145 (by decide +kernel) rfl), List.forall_mem_cons.mpr ⟨m_1 cal_X9_isSlot (wG_t6 148 (by decide +kernel) rfl), List.forall_mem_nil _⟩⟩), thr_ok (by intro q h; cases h), cls_ok (by intro q h; cases h), c32_ok (by intro q h; cases h), c64_ok (by intro q h; cases h), an_ok 0 (by decide +kernel) (fun h => absurd rfl h) (fun _ => by decide +kernel), (rows_ok mr_X9_save).2, rfl, hnd_0⟩
set_option maxRecDepth 20000 in
theorem ms_X9_save : MStat 203 := ⟨mo_X9_save, by decide +kernel, ret_ok (by decide +kernel)⟩
set_option maxRecDepth 20000 in
theorem mr_X9_restore : rowsC RX9 cX9_restore 2 "restore" mi_X9_restore = true := by decide +kernel
set_option maxRecDepth 20000 in
theorem mo_X9_restore : MOk RX9 cX9_restore 2 "restore" mi_X9_restore [] := ⟨(rows_ok mr_X9_restore).1, fld_ok (wG_of [1076, 1081, 1082, 1073, 1080, 1083] (by decide +kernel) (by decide +kernel)) (by decide +kernel), mth_ok (List.forall_mem_cons.mpr ⟨m_0 cal_X9_findEntries (wG_t5 18 (by decide +kernel) rfl), List.forall_mem_cons.mpr ⟨m_1 cal_X9_move (wG_t5 145 (by decide +kernel) rfl), List.forall_mem_cons.mpr ⟨m_1 cal_X9_isSlot (wG_t6 148 (by decide +kernel) rfl), List.forall_mem_nil _⟩⟩⟩), thr_ok (by intro q h; cases h), cls_ok (by intro q h; cases h), c32_ok (by intro q h; cases h), c64_ok (by intro q h; cases h), an_ok 0 (by decide +kernel) (fun h => absurd rfl h) (fun _ => by decide +kernel), (rows_ok mr_X9_restore).2, rfl, hnd_0⟩
set_option maxRecDepth 20000 in
theorem ms_X9_restore : MStat 204 := ⟨mo_X9_restore, by decide +kernel, ret_ok (by decide +kernel)⟩
set_option maxRecDepth 20000 in
theorem mr_J13_bitCount_95d88 : rowsC RJ13 cJ13_bitCount_95d88 2 "bitCount" mi_J13_bitCount_95d88 = true := by decide +kernel
set_option maxRecDepth 20000 in
theorem mo_J13_bitCount_95d88 : MOk RJ13 cJ13_bitCount_95d88 2 "bitCount" mi_J13_bitCount_95d88 [] := ⟨(rows_ok mr_J13_bitCount_95d88).1, fld_ok (wG_of [] (by decide +kernel) (by decide +kernel)) (by decide +kernel), mth_ok (by intro q h; cases h), thr_ok (by intro q h; cases h), cls_ok (by intro q h; cases h), c32_ok (List.forall_mem_cons.mpr ⟨Or.inr (by decide +kernel), List.forall_mem_cons.mpr ⟨Or.inr (by decide +kernel), List.forall_mem_cons.mpr ⟨Or.inr (by decide +kernel), List.forall_mem_nil _⟩⟩⟩), c64_ok (List.forall_mem_cons.mpr ⟨Or.inl (wG_t3 55 (by decide +kernel) rfl), List.forall_mem_cons.mpr ⟨Or.inl (wG_t3 56 (by decide +kernel) rfl), List.forall_mem_cons.mpr ⟨Or.inl (wG_t3 57 (by decide +kernel) rfl), List.forall_mem_nil _⟩⟩⟩), an_ok 0 (by decide +kernel) (fun h => absurd rfl h) (fun _ => by decide +kernel), (rows_ok mr_J13_bitCount_95d88).2, rfl, hnd_0⟩
set_option maxRecDepth 20000 in
theorem ms_J13_bitCount_95d88 : MStat 205 := ⟨mo_J13_bitCount_95d88, by decide +kernel, ret_ok (by decide +kernel)⟩
set_option maxRecDepth 20000 in
theorem mr_J9_floorMod_7cf53 : rowsC RJ9 cJ9_floorMod_7cf53 3 "floorMod" mi_J9_floorMod_7cf53 = true := by decide +kernel
set_option maxRecDepth 20000 in
theorem mo_J9_floorMod_7cf53 : MOk RJ9 cJ9_floorMod_7cf53 3 "floorMod" mi_J9_floorMod_7cf53 [] := ⟨(rows_ok mr_J9_floorMod_7cf53).1, fld_ok (wG_of [] (by decide +kernel) (by decide +kernel)) (by decide +kernel), mth_ok (by intro q h; cases h), thr_ok (by intro q h; cases h), cls_ok (by intro q h; cases h), c32_ok (by intro q h; cases h), c64_ok (by intro q h; cases h), an_ok 0 (by decide +kernel) (fun h => absurd rfl h) (fun _ => by decide +kernel), (rows_ok mr_J9_floorMod_7cf53).2, rfl, hnd_0⟩
set_option maxRecDepth 20000 in
theorem ms_J9_floorMod_7cf53 : MStat 206 := ⟨mo_J9_floorMod_7cf53, by decide +kernel, ret_ok (by decide +kernel)⟩
set_option maxRecDepth 20000 in
theorem mr_J7_fill_53178 : rowsC RJ7 cJ7_fill_53178 4 "fill" mi_J7_fill_53178 = true := by decide +kernel
set_option maxRecDepth 20000 in
theorem mo_J7_fill_53178 : MOk RJ7 cJ7_fill_53178 4 "fill" mi_J7_fill_53178 [] := ⟨(rows_ok mr_J7_fill_53178).1, fld_ok (wG_of [] (by decide +kernel) (by decide +kernel)) (by decide +kernel), mth_ok (by intro q h; cases h), thr_ok (by intro q h; cases h), cls_ok (by intro q h; cases h), c32_ok (by intro q h; cases h), c64_ok (by intro q h; cases h), an_ok 0 (by decide +kernel) (fun h => absurd rfl h) (fun _ => by decide +kernel), (rows_ok mr_J7_fill_53178).2, rfl, hnd_0⟩
set_option maxRecDepth 20000 in
theorem ms_J7_fill_53178 : MStat 207 := ⟨mo_J7_fill_53178, by decide +kernel, ret_ok (by decide +kernel)⟩
set_option maxRecDepth 20000 in
theorem mr_L_append : rowsC RL cL_append 4 "append" mi_L_append = true := by decide +kernel
set_option maxRecDepth 20000 in
theorem mo_L_append : MOk RL cL_append 4 "append" mi_L_append [(0, 9, 12, 13), (0, 9, 15, 15)] := ⟨(rows_ok mr_L_append).1, fld_ok (wG_of [] (by decide +kernel) (by decide +kernel)) (by decide +kernel), mth_ok (List.forall_mem_cons.mpr ⟨m_0 cal_X8_append (wG_t3 85 (by decide +kernel) rfl), List.forall_mem_nil _⟩), thr_ok (by intro q h; cases h), cls_ok (by intro q h; cases h), c32_ok (by intro q h; cases h), c64_ok (by intro q h; cases h), an_ok 0 (by decide +kernel) (fun h => absurd rfl h) (fun _ => by decide +kernel), (rows_ok mr_L_append).2, rfl, hnd_2 (⟨rfl, rfl, by decide, by decide +kernel, wG_t3 83 (by decide +kernel) rfl, by decide, Or.inr ⟨3, rfl, by decide +kernel, rfl⟩⟩) (⟨rfl, rfl, by decide, by decide +kernel, wG_t3 84 (by decide +kernel) rfl, by decide, Or.inr ⟨3, rfl, by decide +kernel, rfl⟩⟩)⟩
set_option maxRecDepth 20000 in
theorem ms_L_append : MStat 208 := ⟨mo_L_append, by decide +kernel, ret_ok (by decide +kernel)⟩
set_option maxRecDepth 20000 in
theorem mr_L_load : rowsC RL cL_load 3 "load" mi_L_load = true := by decide +kernel
set_option maxRecDepth 20000 in
theorem mo_L_load : MOk RL cL_load 3 "load" mi_L_load [(0, 8, 11, 15)] := ⟨(rows_ok mr_L_load).1, fld_ok (wG_of [] (by decide +kernel) (by decide +kernel)) (by decide +kernel), mth_ok (List.forall_mem_cons.mpr ⟨m_0 cal_X8_load (wG_t3 184 (by decide +kernel) rfl), List.forall_mem_nil _⟩), thr_ok (by intro q h; cases h), cls_ok (by intro q h; cases h), c32_ok (by intro q h; cases h), c64_ok (by intro q h; cases h), an_ok 0 (by decide +kernel) (fun h => absurd rfl h) (fun _ => by decide +kernel), (rows_ok mr_L_load).2, rfl, hnd_1 (⟨rfl, rfl, by decide, by decide +kernel, wG_t3 84 (by decide +kernel) rfl, by decide, Or.inr ⟨2, rfl, by decide +kernel, rfl⟩⟩)⟩
set_option maxRecDepth 20000 in
theorem ms_L_load : MStat 209 := ⟨mo_L_load, by decide +kernel, ret_ok (by decide +kernel)⟩
set_option maxRecDepth 20000 in
theorem mr_L_about : rowsC RL cL_about 4 "about" mi_L_about = true := by decide +kernel
set_option maxRecDepth 20000 in
theorem mo_L_about : MOk RL cL_about 4 "about" mi_L_about [(0, 9, 12, 13)] := ⟨(rows_ok mr_L_about).1, fld_ok (wG_of [] (by decide +kernel) (by decide +kernel)) (by decide +kernel), mth_ok (List.forall_mem_cons.mpr ⟨m_0 cal_X8_about (wG_t3 200 (by decide +kernel) rfl), List.forall_mem_nil _⟩), thr_ok (by intro q h; cases h), cls_ok (by intro q h; cases h), c32_ok (by intro q h; cases h), c64_ok (by intro q h; cases h), an_ok 0 (by decide +kernel) (fun h => absurd rfl h) (fun _ => by decide +kernel), (rows_ok mr_L_about).2, rfl, hnd_1 (⟨rfl, rfl, by decide, by decide +kernel, wG_t3 83 (by decide +kernel) rfl, by decide, Or.inr ⟨3, rfl, by decide +kernel, rfl⟩⟩)⟩
set_option maxRecDepth 20000 in
theorem ms_L_about : MStat 210 := ⟨mo_L_about, by decide +kernel, ret_ok (by decide +kernel)⟩
set_option maxRecDepth 20000 in
theorem mr_L_cell : rowsC RL cL_cell 5 "cell" mi_L_cell = true := by decide +kernel
set_option maxRecDepth 20000 in
theorem mo_L_cell : MOk RL cL_cell 5 "cell" mi_L_cell [(0, 10, 13, 28), (0, 10, 17, 13)] := ⟨(rows_ok mr_L_cell).1, fld_ok (wG_of [] (by decide +kernel) (by decide +kernel)) (by decide +kernel), mth_ok (List.forall_mem_cons.mpr ⟨m_0 cal_X8_cell (wG_t3 220 (by decide +kernel) rfl), List.forall_mem_nil _⟩), thr_ok (by intro q h; cases h), cls_ok (by intro q h; cases h), c32_ok (by intro q h; cases h), c64_ok (by intro q h; cases h), an_ok 0 (by decide +kernel) (fun h => absurd rfl h) (fun _ => by decide +kernel), (rows_ok mr_L_cell).2, rfl, hnd_2 (⟨rfl, rfl, by decide, by decide +kernel, wG_t3 219 (by decide +kernel) rfl, by decide, Or.inl ⟨by decide +kernel, rfl⟩⟩) (⟨rfl, rfl, by decide, by decide +kernel, wG_t3 83 (by decide +kernel) rfl, by decide, Or.inl ⟨by decide +kernel, rfl⟩⟩)⟩
set_option maxRecDepth 20000 in
theorem ms_L_cell : MStat 211 := ⟨mo_L_cell, by decide +kernel, ret_ok (by decide +kernel)⟩
set_option maxRecDepth 20000 in
theorem mr_L_entry : rowsC RL cL_entry 5 "entry" mi_L_entry = true := by decide +kernel
set_option maxRecDepth 20000 in
theorem mo_L_entry : MOk RL cL_entry 5 "entry" mi_L_entry [(0, 10, 13, 28), (0, 10, 17, 13)] := ⟨(rows_ok mr_L_entry).1, fld_ok (wG_of [] (by decide +kernel) (by decide +kernel)) (by decide +kernel), mth_ok (List.forall_mem_cons.mpr ⟨m_0 cal_X8_entry (wG_t4 16 (by decide +kernel) rfl), List.forall_mem_nil _⟩), thr_ok (by intro q h; cases h), cls_ok (by intro q h; cases h), c32_ok (by intro q h; cases h), c64_ok (by intro q h; cases h), an_ok 0 (by decide +kernel) (fun h => absurd rfl h) (fun _ => by decide +kernel), (rows_ok mr_L_entry).2, rfl, hnd_2 (⟨rfl, rfl, by decide, by decide +kernel, wG_t3 219 (by decide +kernel) rfl, by decide, Or.inl ⟨by decide +kernel, rfl⟩⟩) (⟨rfl, rfl, by decide, by decide +kernel, wG_t3 83 (by decide +kernel) rfl, by decide, Or.inl ⟨by decide +kernel, rfl⟩⟩)⟩
set_option maxRecDepth 20000 in
theorem ms_L_entry : MStat 212 := ⟨mo_L_entry, by decide +kernel, ret_ok (by decide +kernel)⟩
set_option maxRecDepth 20000 in
theorem mr_L_word : rowsC RL cL_word 5 "word" mi_L_word = true := by decide +kernel
set_option maxRecDepth 20000 in
theorem mo_L_word : MOk RL cL_word 5 "word" mi_L_word [(0, 10, 13, 28), (0, 10, 17, 13)] := ⟨(rows_ok mr_L_word).1, fld_ok (wG_of [] (by decide +kernel) (by decide +kernel)) (by decide +kernel), mth_ok (List.forall_mem_cons.mpr ⟨m_0 cal_X8_word (wG_t4 38 (by decide +kernel) rfl), List.forall_mem_nil _⟩), thr_ok (by intro q h; cases h), cls_ok (by intro q h; cases h), c32_ok (by intro q h; cases h), c64_ok (by intro q h; cases h), an_ok 0 (by decide +kernel) (fun h => absurd rfl h) (fun _ => by decide +kernel), (rows_ok mr_L_word).2, rfl, hnd_2 (⟨rfl, rfl, by decide, by decide +kernel, wG_t3 219 (by decide +kernel) rfl, by decide, Or.inl ⟨by decide +kernel, rfl⟩⟩) (⟨rfl, rfl, by decide, by decide +kernel, wG_t3 83 (by decide +kernel) rfl, by decide, Or.inl ⟨by decide +kernel, rfl⟩⟩)⟩
set_option maxRecDepth 20000 in
theorem ms_L_word : MStat 213 := ⟨mo_L_word, by decide +kernel, ret_ok (by decide +kernel)⟩
set_option maxRecDepth 20000 in
theorem mr_L_fits : rowsC RL cL_fits 4 "fits" mi_L_fits = true := by decide +kernel
set_option maxRecDepth 20000 in
theorem mo_L_fits : MOk RL cL_fits 4 "fits" mi_L_fits [(0, 9, 12, 28)] := ⟨(rows_ok mr_L_fits).1, fld_ok (wG_of [] (by decide +kernel) (by decide +kernel)) (by decide +kernel), mth_ok (List.forall_mem_cons.mpr ⟨m_0 cal_X8_fits (wG_t4 53 (by decide +kernel) rfl), List.forall_mem_nil _⟩), thr_ok (by intro q h; cases h), cls_ok (by intro q h; cases h), c32_ok (by intro q h; cases h), c64_ok (by intro q h; cases h), an_ok 0 (by decide +kernel) (fun h => absurd rfl h) (fun _ => by decide +kernel), (rows_ok mr_L_fits).2, rfl, hnd_1 (⟨rfl, rfl, by decide, by decide +kernel, wG_t3 219 (by decide +kernel) rfl, by decide, Or.inr ⟨3, rfl, by decide +kernel, rfl⟩⟩)⟩
set_option maxRecDepth 20000 in
theorem ms_L_fits : MStat 214 := ⟨mo_L_fits, by decide +kernel, ret_ok (by decide +kernel)⟩
set_option maxRecDepth 20000 in
theorem mr_L_rule : rowsC RL cL_rule 4 "rule" mi_L_rule = true := by decide +kernel
set_option maxRecDepth 20000 in
theorem mo_L_rule : MOk RL cL_rule 4 "rule" mi_L_rule [(0, 16, 19, 13)] := ⟨(rows_ok mr_L_rule).1, fld_ok (wG_of [] (by decide +kernel) (by decide +kernel)) (by decide +kernel), mth_ok (List.forall_mem_cons.mpr ⟨m_0 cal_X8_rule (wG_t4 60 (by decide +kernel) rfl), List.forall_mem_nil _⟩), thr_ok (by intro q h; cases h), cls_ok (by intro q h; cases h), c32_ok (by intro q h; cases h), c64_ok (by intro q h; cases h), an_ok 0 (by decide +kernel) (fun h => absurd rfl h) (fun _ => by decide +kernel), (rows_ok mr_L_rule).2, rfl, hnd_1 (⟨rfl, rfl, by decide, by decide +kernel, wG_t3 83 (by decide +kernel) rfl, by decide, Or.inr ⟨3, rfl, by decide +kernel, rfl⟩⟩)⟩
set_option maxRecDepth 20000 in
theorem ms_L_rule : MStat 215 := ⟨mo_L_rule, by decide +kernel, ret_ok (by decide +kernel)⟩
set_option maxRecDepth 20000 in
theorem mr_L_reading : rowsC RL cL_reading 4 "reading" mi_L_reading = true := by decide +kernel
set_option maxRecDepth 20000 in
theorem mo_L_reading : MOk RL cL_reading 4 "reading" mi_L_reading [(0, 9, 12, 13)] := ⟨(rows_ok mr_L_reading).1, fld_ok (wG_of [] (by decide +kernel) (by decide +kernel)) (by decide +kernel), mth_ok (List.forall_mem_cons.mpr ⟨m_0 cal_X8_reading (wG_t4 69 (by decide +kernel) rfl), List.forall_mem_nil _⟩), thr_ok (by intro q h; cases h), cls_ok (by intro q h; cases h), c32_ok (by intro q h; cases h), c64_ok (by intro q h; cases h), an_ok 0 (by decide +kernel) (fun h => absurd rfl h) (fun _ => by decide +kernel), (rows_ok mr_L_reading).2, rfl, hnd_1 (⟨rfl, rfl, by decide, by decide +kernel, wG_t3 83 (by decide +kernel) rfl, by decide, Or.inr ⟨3, rfl, by decide +kernel, rfl⟩⟩)⟩
set_option maxRecDepth 20000 in
theorem ms_L_reading : MStat 216 := ⟨mo_L_reading, by decide +kernel, ret_ok (by decide +kernel)⟩
set_option maxRecDepth 20000 in
theorem mr_L_put : rowsC RL cL_put 5 "put" mi_L_put = true := by decide +kernel
set_option maxRecDepth 20000 in
theorem mo_L_put : MOk RL cL_put 5 "put" mi_L_put [(0, 10, 13, 28), (0, 10, 17, 13)] := ⟨(rows_ok mr_L_put).1, fld_ok (wG_of [] (by decide +kernel) (by decide +kernel)) (by decide +kernel), mth_ok (List.forall_mem_cons.mpr ⟨m_0 cal_X8_put (wG_t4 81 (by decide +kernel) rfl), List.forall_mem_nil _⟩), thr_ok (by intro q h; cases h), cls_ok (by intro q h; cases h), c32_ok (by intro q h; cases h), c64_ok (by intro q h; cases h), an_ok 0 (by decide +kernel) (fun h => absurd rfl h) (fun _ => by decide +kernel), (rows_ok mr_L_put).2, rfl, hnd_2 (⟨rfl, rfl, by decide, by decide +kernel, wG_t3 219 (by decide +kernel) rfl, by decide, Or.inl ⟨by decide +kernel, rfl⟩⟩) (⟨rfl, rfl, by decide, by decide +kernel, wG_t3 83 (by decide +kernel) rfl, by decide, Or.inl ⟨by decide +kernel, rfl⟩⟩)⟩
set_option maxRecDepth 20000 in
theorem ms_L_put : MStat 217 := ⟨mo_L_put, by decide +kernel, ret_ok (by decide +kernel)⟩
set_option maxRecDepth 20000 in
theorem mr_L_setBar : rowsC RL cL_setBar 6 "setBar" mi_L_setBar = true := by decide +kernel
set_option maxRecDepth 20000 in
theorem mo_L_setBar : MOk RL cL_setBar 6 "setBar" mi_L_setBar [(0, 12, 15, 28), (0, 12, 19, 13)] := ⟨(rows_ok mr_L_setBar).1, fld_ok (wG_of [] (by decide +kernel) (by decide +kernel)) (by decide +kernel), mth_ok (List.forall_mem_cons.mpr ⟨m_0 cal_X8_setBar (wG_t4 103 (by decide +kernel) rfl), List.forall_mem_nil _⟩), thr_ok (by intro q h; cases h), cls_ok (by intro q h; cases h), c32_ok (by intro q h; cases h), c64_ok (by intro q h; cases h), an_ok 0 (by decide +kernel) (fun h => absurd rfl h) (fun _ => by decide +kernel), (rows_ok mr_L_setBar).2, rfl, hnd_2 (⟨rfl, rfl, by decide, by decide +kernel, wG_t3 219 (by decide +kernel) rfl, by decide, Or.inl ⟨by decide +kernel, rfl⟩⟩) (⟨rfl, rfl, by decide, by decide +kernel, wG_t3 83 (by decide +kernel) rfl, by decide, Or.inl ⟨by decide +kernel, rfl⟩⟩)⟩
set_option maxRecDepth 20000 in
theorem ms_L_setBar : MStat 218 := ⟨mo_L_setBar, by decide +kernel, ret_ok (by decide +kernel)⟩
set_option maxRecDepth 20000 in
theorem mr_L_addWord : rowsC RL cL_addWord 3 "addWord" mi_L_addWord = true := by decide +kernel
set_option maxRecDepth 20000 in
theorem mo_L_addWord : MOk RL cL_addWord 3 "addWord" mi_L_addWord [(0, 8, 11, 15)] := ⟨(rows_ok mr_L_addWord).1, fld_ok (wG_of [] (by decide +kernel) (by decide +kernel)) (by decide +kernel), mth_ok (List.forall_mem_cons.mpr ⟨m_0 cal_X8_addWord (wG_t4 111 (by decide +kernel) rfl), List.forall_mem_nil _⟩), thr_ok (by intro q h; cases h), cls_ok (by intro q h; cases h), c32_ok (by intro q h; cases h), c64_ok (by intro q h; cases h), an_ok 0 (by decide +kernel) (fun h => absurd rfl h) (fun _ => by decide +kernel), (rows_ok mr_L_addWord).2, rfl, hnd_1 (⟨rfl, rfl, by decide, by decide +kernel, wG_t3 84 (by decide +kernel) rfl, by decide, Or.inr ⟨2, rfl, by decide +kernel, rfl⟩⟩)⟩
set_option maxRecDepth 20000 in
theorem ms_L_addWord : MStat 219 := ⟨mo_L_addWord, by decide +kernel, ret_ok (by decide +kernel)⟩
set_option maxRecDepth 20000 in
theorem mr_L_setLine : rowsC RL cL_setLine 3 "setLine" mi_L_setLine = true := by decide +kernel
set_option maxRecDepth 20000 in
theorem mo_L_setLine : MOk RL cL_setLine 3 "setLine" mi_L_setLine [(0, 8, 11, 15)] := ⟨(rows_ok mr_L_setLine).1, fld_ok (wG_of [] (by decide +kernel) (by decide +kernel)) (by decide +kernel), mth_ok (List.forall_mem_cons.mpr ⟨m_0 cal_X8_setLine (wG_t4 126 (by decide +kernel) rfl), List.forall_mem_nil _⟩), thr_ok (by intro q h; cases h), cls_ok (by intro q h; cases h), c32_ok (by intro q h; cases h), c64_ok (by intro q h; cases h), an_ok 0 (by decide +kernel) (fun h => absurd rfl h) (fun _ => by decide +kernel), (rows_ok mr_L_setLine).2, rfl, hnd_1 (⟨rfl, rfl, by decide, by decide +kernel, wG_t3 84 (by decide +kernel) rfl, by decide, Or.inr ⟨2, rfl, by decide +kernel, rfl⟩⟩)⟩
set_option maxRecDepth 20000 in
theorem ms_L_setLine : MStat 220 := ⟨mo_L_setLine, by decide +kernel, ret_ok (by decide +kernel)⟩
set_option maxRecDepth 20000 in
theorem mr_L_write : rowsC RL cL_write 5 "write" mi_L_write = true := by decide +kernel
set_option maxRecDepth 20000 in
theorem mo_L_write : MOk RL cL_write 5 "write" mi_L_write [(0, 10, 13, 28), (0, 10, 17, 15)] := ⟨(rows_ok mr_L_write).1, fld_ok (wG_of [] (by decide +kernel) (by decide +kernel)) (by decide +kernel), mth_ok (List.forall_mem_cons.mpr ⟨m_0 cal_X8_write (wG_t4 135 (by decide +kernel) rfl), List.forall_mem_nil _⟩), thr_ok (by intro q h; cases h), cls_ok (by intro q h; cases h), c32_ok (by intro q h; cases h), c64_ok (by intro q h; cases h), an_ok 0 (by decide +kernel) (fun h => absurd rfl h) (fun _ => by decide +kernel), (rows_ok mr_L_write).2, rfl, hnd_2 (⟨rfl, rfl, by decide, by decide +kernel, wG_t3 219 (by decide +kernel) rfl, by decide, Or.inl ⟨by decide +kernel, rfl⟩⟩) (⟨rfl, rfl, by decide, by decide +kernel, wG_t3 84 (by decide +kernel) rfl, by decide, Or.inl ⟨by decide +kernel, rfl⟩⟩)⟩
set_option maxRecDepth 20000 in
theorem ms_L_write : MStat 221 := ⟨mo_L_write, by decide +kernel, ret_ok (by decide +kernel)⟩
set_option maxRecDepth 20000 in
theorem mr_L_erase : rowsC RL cL_erase 4 "erase" mi_L_erase = true := by decide +kernel
set_option maxRecDepth 20000 in
theorem mo_L_erase : MOk RL cL_erase 4 "erase" mi_L_erase [(0, 9, 12, 28)] := ⟨(rows_ok mr_L_erase).1, fld_ok (wG_of [] (by decide +kernel) (by decide +kernel)) (by decide +kernel), mth_ok (List.forall_mem_cons.mpr ⟨m_0 cal_X8_erase (wG_t4 149 (by decide +kernel) rfl), List.forall_mem_nil _⟩), thr_ok (by intro q h; cases h), cls_ok (by intro q h; cases h), c32_ok (by intro q h; cases h), c64_ok (by intro q h; cases h), an_ok 0 (by decide +kernel) (fun h => absurd rfl h) (fun _ => by decide +kernel), (rows_ok mr_L_erase).2, rfl, hnd_1 (⟨rfl, rfl, by decide, by decide +kernel, wG_t3 219 (by decide +kernel) rfl, by decide, Or.inr ⟨3, rfl, by decide +kernel, rfl⟩⟩)⟩
set_option maxRecDepth 20000 in
theorem ms_L_erase : MStat 222 := ⟨mo_L_erase, by decide +kernel, ret_ok (by decide +kernel)⟩
set_option maxRecDepth 20000 in
theorem mr_L_undo : rowsC RL cL_undo 3 "undo" mi_L_undo = true := by decide +kernel
set_option maxRecDepth 20000 in
theorem mo_L_undo : MOk RL cL_undo 3 "undo" mi_L_undo [(0, 8, 11, 15)] := ⟨(rows_ok mr_L_undo).1, fld_ok (wG_of [] (by decide +kernel) (by decide +kernel)) (by decide +kernel), mth_ok (List.forall_mem_cons.mpr ⟨m_0 cal_X8_undo (wG_t4 162 (by decide +kernel) rfl), List.forall_mem_nil _⟩), thr_ok (by intro q h; cases h), cls_ok (by intro q h; cases h), c32_ok (by intro q h; cases h), c64_ok (by intro q h; cases h), an_ok 0 (by decide +kernel) (fun h => absurd rfl h) (fun _ => by decide +kernel), (rows_ok mr_L_undo).2, rfl, hnd_1 (⟨rfl, rfl, by decide, by decide +kernel, wG_t3 84 (by decide +kernel) rfl, by decide, Or.inr ⟨2, rfl, by decide +kernel, rfl⟩⟩)⟩
set_option maxRecDepth 20000 in
theorem ms_L_undo : MStat 223 := ⟨mo_L_undo, by decide +kernel, ret_ok (by decide +kernel)⟩
set_option maxRecDepth 20000 in
theorem mr_L_runScript : rowsC RL cL_runScript 6 "runScript" mi_L_runScript = true := by decide +kernel
set_option maxRecDepth 20000 in
theorem mo_L_runScript : MOk RL cL_runScript 6 "runScript" mi_L_runScript [(0, 11, 14, 13)] := ⟨(rows_ok mr_L_runScript).1, fld_ok (wG_of [] (by decide +kernel) (by decide +kernel)) (by decide +kernel), mth_ok (List.forall_mem_cons.mpr ⟨m_0 cal_X8_runScript (wG_t4 174 (by decide +kernel) rfl), List.forall_mem_nil _⟩), thr_ok (by intro q h; cases h), cls_ok (by intro q h; cases h), c32_ok (by intro q h; cases h), c64_ok (by intro q h; cases h), an_ok 0 (by decide +kernel) (fun h => absurd rfl h) (fun _ => by decide +kernel), (rows_ok mr_L_runScript).2, rfl, hnd_1 (⟨rfl, rfl, by decide, by decide +kernel, wG_t3 83 (by decide +kernel) rfl, by decide, Or.inl ⟨by decide +kernel, rfl⟩⟩)⟩
set_option maxRecDepth 20000 in
theorem ms_L_runScript : MStat 224 := ⟨mo_L_runScript, by decide +kernel, ret_ok (by decide +kernel)⟩
set_option maxRecDepth 20000 in
theorem mr_L_simulate : rowsC RL cL_simulate 6 "simulate" mi_L_simulate = true := by decide +kernel
set_option maxRecDepth 20000 in
theorem mo_L_simulate : MOk RL cL_simulate 6 "simulate" mi_L_simulate [(0, 11, 14, 13)] := ⟨(rows_ok mr_L_simulate).1, fld_ok (wG_of [] (by decide +kernel) (by decide +kernel)) (by decide +kernel), mth_ok (List.forall_mem_cons.mpr ⟨m_0 cal_X8_simulate (wG_t4 210 (by decide +kernel) rfl), List.forall_mem_nil _⟩), thr_ok (by intro q h; cases h), cls_ok (by intro q h; cases h), c32_ok (by intro q h; cases h), c64_ok (by intro q h; cases h), an_ok 0 (by decide +kernel) (fun h => absurd rfl h) (fun _ => by decide +kernel), (rows_ok mr_L_simulate).2, rfl, hnd_1 (⟨rfl, rfl, by decide, by decide +kernel, wG_t3 83 (by decide +kernel) rfl, by decide, Or.inl ⟨by decide +kernel, rfl⟩⟩)⟩
set_option maxRecDepth 20000 in
theorem ms_L_simulate : MStat 225 := ⟨mo_L_simulate, by decide +kernel, ret_ok (by decide +kernel)⟩
set_option maxRecDepth 20000 in
theorem mr_L_save : rowsC RL cL_save 4 "save" mi_L_save = true := by decide +kernel
set_option maxRecDepth 20000 in
theorem mo_L_save : MOk RL cL_save 4 "save" mi_L_save [(0, 9, 12, 28)] := ⟨(rows_ok mr_L_save).1, fld_ok (wG_of [] (by decide +kernel) (by decide +kernel)) (by decide +kernel), mth_ok (List.forall_mem_cons.mpr ⟨m_0 cal_X8_save (wG_t4 224 (by decide +kernel) rfl), List.forall_mem_nil _⟩), thr_ok (by intro q h; cases h), cls_ok (by intro q h; cases h), c32_ok (by intro q h; cases h), c64_ok (by intro q h; cases h), an_ok 0 (by decide +kernel) (fun h => absurd rfl h) (fun _ => by decide +kernel), (rows_ok mr_L_save).2, rfl, hnd_1 (⟨rfl, rfl, by decide, by decide +kernel, wG_t3 219 (by decide +kernel) rfl, by decide, Or.inr ⟨3, rfl, by decide +kernel, rfl⟩⟩)⟩
set_option maxRecDepth 20000 in
theorem ms_L_save : MStat 226 := ⟨mo_L_save, by decide +kernel, ret_ok (by decide +kernel)⟩
set_option maxRecDepth 20000 in
theorem mr_L_restore : rowsC RL cL_restore 4 "restore" mi_L_restore = true := by decide +kernel
set_option maxRecDepth 20000 in
theorem mo_L_restore : MOk RL cL_restore 4 "restore" mi_L_restore [(0, 9, 12, 28), (0, 9, 15, 15)] := ⟨(rows_ok mr_L_restore).1, fld_ok (wG_of [] (by decide +kernel) (by decide +kernel)) (by decide +kernel), mth_ok (List.forall_mem_cons.mpr ⟨m_0 cal_X8_restore (wG_t4 239 (by decide +kernel) rfl), List.forall_mem_nil _⟩), thr_ok (by intro q h; cases h), cls_ok (by intro q h; cases h), c32_ok (by intro q h; cases h), c64_ok (by intro q h; cases h), an_ok 0 (by decide +kernel) (fun h => absurd rfl h) (fun _ => by decide +kernel), (rows_ok mr_L_restore).2, rfl, hnd_2 (⟨rfl, rfl, by decide, by decide +kernel, wG_t3 219 (by decide +kernel) rfl, by decide, Or.inr ⟨3, rfl, by decide +kernel, rfl⟩⟩) (⟨rfl, rfl, by decide, by decide +kernel, wG_t3 84 (by decide +kernel) rfl, by decide, Or.inr ⟨3, rfl, by decide +kernel, rfl⟩⟩)⟩
set_option maxRecDepth 20000 in
theorem ms_L_restore : MStat 227 := ⟨mo_L_restore, by decide +kernel, ret_ok (by decide +kernel)⟩
set_option maxRecDepth 20000 in
theorem mr_L_law : rowsC RL cL_law 7 "law" mi_L_law = true := by decide +kernel
set_option maxRecDepth 20000 in
theorem mo_L_law : MOk RL cL_law 7 "law" mi_L_law [] := ⟨(rows_ok mr_L_law).1, fld_ok (wG_of [] (by decide +kernel) (by decide +kernel)) (by decide +kernel), mth_ok (List.forall_mem_cons.mpr ⟨m_2 cal_X8_init (wG_t1 23 (by decide +kernel) rfl), List.forall_mem_cons.mpr ⟨m_2 cal_X9_init (wG_t5 14 (by decide +kernel) rfl), List.forall_mem_cons.mpr ⟨m_7 cal_L_append (wG_t3 80 (by decide +kernel) rfl), List.forall_mem_cons.mpr ⟨m_0 cal_X9_append (wG_t5 111 (by decide +kernel) rfl), List.forall_mem_cons.mpr ⟨m_0 cal_X9_thrown (wG_t5 107 (by decide +kernel) rfl), List.forall_mem_cons.mpr ⟨m_0 cal_X8_clearText (wG_t2 35 (by decide +kernel) rfl), List.forall_mem_cons.mpr ⟨m_0 cal_X9_clearText (wG_t5 115 (by decide +kernel) rfl), List.forall_mem_cons.mpr ⟨m_0 cal_X8_errorPosition (wG_t2 43 (by decide +kernel) rfl), List.forall_mem_cons.mpr ⟨m_0 cal_X9_errorPosition (wG_t5 119 (by decide +kernel) rfl), List.forall_mem_cons.mpr ⟨m_7 cal_L_load (wG_t3 181 (by decide +kernel) rfl), List.forall_mem_cons.mpr ⟨m_0 cal_X9_load (wG_t5 141 (by decide +kernel) rfl), List.forall_mem_cons.mpr ⟨m_7 cal_L_about (wG_t3 197 (by decide +kernel) rfl), List.forall_mem_cons.mpr ⟨m_0 cal_X9_about (wG_t5 148 (by decide +kernel) rfl), List.forall_mem_cons.mpr ⟨m_7 cal_L_cell (wG_t3 216 (by decide +kernel) rfl), List.forall_mem_cons.mpr ⟨m_0 cal_X9_cell (wG_t5 164 (by decide +kernel) rfl), List.forall_mem_cons.mpr ⟨m_7 cal_L_entry (wG_t4 13 (by decide +kernel) rfl), List.forall_mem_cons.mpr ⟨m_0 cal_X9_entry (wG_t5 172 (by decide +kernel) rfl), List.forall_mem_cons.mpr ⟨m_7 cal_L_word (wG_t4 35 (by decide +kernel) rfl), List.forall_mem_cons.mpr ⟨m_0 cal_X9_word (wG_t5 204 (by decide +kernel) rfl), List.forall_mem_cons.mpr ⟨m_7 cal_L_fits (wG_t4 50 (by decide +kernel) rfl), List.forall_mem_cons.mpr ⟨m_0 cal_X9_fits (wG_t5 212 (by decide +kernel) rfl), List.forall_mem_cons.mpr ⟨m_7 cal_L_rule (wG_t4 57 (by decide +kernel) rfl), List.forall_mem_cons.mpr ⟨m_0 cal_X9_rule (wG_t5 220 (by decide +kernel) rfl), List.forall_mem_cons.mpr ⟨m_0 cal_X8_readings (wG_t2 123 (by decide +kernel) rfl), List.forall_mem_cons.mpr ⟨m_0 cal_X9_readings (wG_t6 7 (by decide +kernel) rfl), List.forall_mem_cons.mpr ⟨m_7 cal_L_reading (wG_t4 66 (by decide +kernel) rfl), List.forall_mem_cons.mpr ⟨m_0 cal_X9_reading (wG_t6 24 (by decide +kernel) rfl), List.forall_mem_cons.mpr ⟨m_7 cal_L_put (wG_t4 78 (by decide +kernel) rfl), List.forall_mem_cons.mpr ⟨m_0 cal_X9_put (wG_t6 28 (by decide +kernel) rfl), List.forall_mem_cons.mpr ⟨m_7 cal_L_setBar (wG_t4 100 (by decide +kernel) rfl), List.forall_mem_cons.mpr ⟨m_0 cal_X9_setBar (wG_t6 39 (by decide +kernel) rfl), List.forall_mem_cons.mpr ⟨m_7 cal_L_addWord (wG_t4 108 (by decide +kernel) rfl), List.forall_mem_cons.mpr ⟨m_0 cal_X9_addWord (wG_t6 51 (by decide +kernel) rfl), List.forall_mem_cons.mpr ⟨m_7 cal_L_setLine (wG_t4 123 (by decide +kernel) rfl), List.forall_mem_cons.mpr ⟨m_0 cal_X9_setLine (wG_t6 59 (by decide +kernel) rfl), List.forall_mem_cons.mpr ⟨m_7 cal_L_write (wG_t4 132 (by decide +kernel) rfl), List.forall_mem_cons.mpr ⟨m_0 cal_X9_write (wG_t6 63 (by decide +kernel) rfl), List.forall_mem_cons.mpr ⟨m_7 cal_L_erase (wG_t4 146 (by decide +kernel) rfl), List.forall_mem_cons.mpr ⟨m_0 cal_X9_erase (wG_t6 71 (by decide +kernel) rfl), List.forall_mem_cons.mpr ⟨m_7 cal_L_undo (wG_t4 159 (by decide +kernel) rfl), List.forall_mem_cons.mpr ⟨m_0 cal_X9_undo (wG_t6 79 (by decide +kernel) rfl), List.forall_mem_cons.mpr ⟨m_0 cal_X8_possible (wG_t2 177 (by decide +kernel) rfl), List.forall_mem_cons.mpr ⟨m_0 cal_X9_possible (wG_t6 83 (by decide +kernel) rfl), List.forall_mem_cons.mpr ⟨m_0 cal_X8_fillings (wG_t2 181 (by decide +kernel) rfl), List.forall_mem_cons.mpr ⟨m_0 cal_X9_fillings (wG_t6 87 (by decide +kernel) rfl), List.forall_mem_cons.mpr ⟨m_0 cal_X8_mend (wG_t3 3 (by decide +kernel) rfl), List.forall_mem_cons.mpr ⟨m_0 cal_X9_mend (wG_t6 95 (by decide +kernel) rfl), List.forall_mem_cons.mpr ⟨m_0 cal_X8_hardest (wG_t3 67 (by decide +kernel) rfl), List.forall_mem_cons.mpr ⟨m_0 cal_X9_hardest (wG_t6 107 (by decide +kernel) rfl), List.forall_mem_cons.mpr ⟨m_7 cal_L_runScript (wG_t4 171 (by decide +kernel) rfl), List.forall_mem_cons.mpr ⟨m_0 cal_X9_runScript (wG_t6 111 (by decide +kernel) rfl), List.forall_mem_cons.mpr ⟨m_7 cal_L_simulate (wG_t4 207 (by decide +kernel) rfl), List.forall_mem_cons.mpr ⟨m_0 cal_X9_simulate (wG_t6 138 (by decide +kernel) rfl), List.forall_mem_cons.mpr ⟨m_7 cal_L_save (wG_t4 221 (by decide +kernel) rfl), List.forall_mem_cons.mpr ⟨m_0 cal_X9_save (wG_t6 144 (by decide +kernel) rfl), List.forall_mem_cons.mpr ⟨m_7 cal_L_restore (wG_t4 236 (by decide +kernel) rfl), List.forall_mem_cons.mpr ⟨m_0 cal_X9_restore (wG_t6 151 (by decide +kernel) rfl), List.forall_mem_nil _⟩⟩⟩⟩⟩⟩⟩⟩⟩⟩⟩⟩⟩⟩⟩⟩⟩⟩⟩⟩⟩⟩⟩⟩⟩⟩⟩⟩⟩⟩⟩⟩⟩⟩⟩⟩⟩⟩⟩⟩⟩⟩⟩⟩⟩⟩⟩⟩⟩⟩⟩⟩⟩⟩⟩⟩⟩), thr_ok (by intro q h; cases h), cls_ok (List.forall_mem_cons.mpr ⟨⟨_, rfl, wG_t1 21 (by decide +kernel) rfl, wG_t1 22 (by decide +kernel) rfl, wG_t1 1 (by decide +kernel) rfl⟩, List.forall_mem_cons.mpr ⟨⟨_, rfl, wG_t5 12 (by decide +kernel) rfl, wG_t5 13 (by decide +kernel) rfl, wG_t1 9 (by decide +kernel) rfl⟩, List.forall_mem_nil _⟩⟩), c32_ok (List.forall_mem_cons.mpr ⟨Or.inr (by decide +kernel), List.forall_mem_nil _⟩), c64_ok (List.forall_mem_cons.mpr ⟨Or.inl (wG_t6 155 (by decide +kernel) rfl), List.forall_mem_nil _⟩), an_ok 0 (by decide +kernel) (fun h => absurd rfl h) (fun _ => by decide +kernel), (rows_ok mr_L_law).2, rfl, hnd_0⟩
set_option maxRecDepth 20000 in
theorem ms_L_law : MStat 228 := ⟨mo_L_law, by decide +kernel, ret_ok (by decide +kernel)⟩
end
section
/-! ===== all that is decided ===== -/
theorem cok_0 : ClOk 0 (RX1, TX1, 4) := ⟨wG_of [314, 316, 318, 320] (by decide +kernel) (by decide +kernel), tyX1_ok, nmX1, rfl, fun k hk ad => by
  have hk : k < 4 := hk
  match k, hk with
  | 0, _ => rfl
  | 1, _ => rfl
  | 2, _ => rfl
  | 3, _ => rfl⟩
theorem cok_1 : ClOk 1 (RX2, TX2, 7) := ⟨wG_of [289, 291, 293, 295, 297, 299, 301] (by decide +kernel) (by decide +kernel), tyX2_ok, nmX2, rfl, fun k hk ad => by
  have hk : k < 7 := hk
  match k, hk with
  | 0, _ => rfl
  | 1, _ => rfl
  | 2, _ => rfl
  | 3, _ => rfl
  | 4, _ => rfl
  | 5, _ => rfl
  | 6, _ => rfl⟩
theorem cok_2 : ClOk 2 (RX3, TX3, 5) := ⟨wG_of [265, 267, 269, 271, 273] (by decide +kernel) (by decide +kernel), tyX3_ok, nmX3, rfl, fun k hk ad => by
  have hk : k < 5 := hk
  match k, hk with
  | 0, _ => rfl
  | 1, _ => rfl
  | 2, _ => rfl
  | 3, _ => rfl
  | 4, _ => rfl⟩
theorem cok_3 : ClOk 3 (RX4, TX4, 10) := ⟨wG_of [228, 230, 232, 234, 236, 238, 240, 242, 244, 246] (by decide +kernel) (by decide +kernel), tyX4_ok, nmX4, rfl, fun k hk ad => by
  have hk : k < 10 := hk
  match k, hk with
  | 0, _ => rfl
  | 1, _ => rfl
  | 2, _ => rfl
  | 3, _ => rfl
  | 4, _ => rfl
  | 5, _ => rfl
  | 6, _ => rfl
  | 7, _ => rfl
  | 8, _ => rfl
  | 9, _ => rfl⟩
theorem cok_4 : ClOk 4 (RX6, TX6, 10) := ⟨wG_of [131, 133, 135, 137, 139, 141, 143, 145, 147, 149] (by decide +kernel) (by decide +kernel), tyX6_ok, nmX6, rfl, fun k hk ad => by
  have hk : k < 10 := hk
  match k, hk with
  | 0, _ => rfl
  | 1, _ => rfl
  | 2, _ => rfl
  | 3, _ => rfl
  | 4, _ => rfl
  | 5, _ => rfl
  | 6, _ => rfl
  | 7, _ => rfl
  | 8, _ => rfl
  | 9, _ => rfl⟩
theorem cok_5 : ClOk 5 (RX7, TX7, 4) := ⟨wG_of [159, 161, 163, 165] (by decide +kernel) (by decide +kernel), tyX7_ok, nmX7, rfl, fun k hk ad => by
  have hk : k < 4 := hk
  match k, hk with
  | 0, _ => rfl
  | 1, _ => rfl
  | 2, _ => rfl
  | 3, _ => rfl⟩
theorem cok_6 : ClOk 6 (RX8, TX8, 6) := ⟨wG_of [329, 331, 333, 335, 337, 339] (by decide +kernel) (by decide +kernel), tyX8_ok, nmX8, rfl, fun k hk ad => by
  have hk : k < 6 := hk
  match k, hk with
  | 0, _ => rfl
  | 1, _ => rfl
  | 2, _ => rfl
  | 3, _ => rfl
  | 4, _ => rfl
  | 5, _ => rfl⟩
theorem cok_7 : ClOk 7 (RX9, TX9, 20) := ⟨wG_of [1093, 1095, 1097, 1099, 1101, 1103, 1105, 1107, 1109, 1111, 1113, 1115, 1117, 1119, 1121, 1123, 1125, 1127, 1129, 1131] (by decide +kernel) (by decide +kernel), tyX9_ok, nmX9, rfl, fun k hk ad => by
  have hk : k < 20 := hk
  match k, hk with
  | 0, _ => rfl
  | 1, _ => rfl
  | 2, _ => rfl
  | 3, _ => rfl
  | 4, _ => rfl
  | 5, _ => rfl
  | 6, _ => rfl
  | 7, _ => rfl
  | 8, _ => rfl
  | 9, _ => rfl
  | 10, _ => rfl
  | 11, _ => rfl
  | 12, _ => rfl
  | 13, _ => rfl
  | 14, _ => rfl
  | 15, _ => rfl
  | 16, _ => rfl
  | 17, _ => rfl
  | 18, _ => rfl
  | 19, _ => rfl⟩
theorem cok : ∀ ci q, vwCl[ci]? = some q → ClOk ci q := by
  intro ci q h
  match ci with
  | 0 =>
    cases h
    exact cok_0
  | 1 =>
    cases h
    exact cok_1
  | 2 =>
    cases h
    exact cok_2
  | 3 =>
    cases h
    exact cok_3
  | 4 =>
    cases h
    exact cok_4
  | 5 =>
    cases h
    exact cok_5
  | 6 =>
    cases h
    exact cok_6
  | 7 =>
    cases h
    exact cok_7
  | n + 8 => simp [vwCl] at h
theorem acw : Jvm.Cond.arrayClass .int ∈ wG ∧ Jvm.Cond.arrayClass .boolean ∈ wG ∧ Jvm.Cond.arrayClass .long ∈ wG := ⟨wG_t1 85 (by decide +kernel) rfl, wG_t1 182 (by decide +kernel) rfl, wG_t6 156 (by decide +kernel) rfl⟩
theorem gst : GStat := by
  refine ⟨cok, acw, fun y hy => ?_⟩
  match y, hy with
  | 0, _ => exact ms_X0_succeeds
  | 1, _ => exact ms_X0_putsLetter
  | 2, _ => exact ms_X0_fillsEntry
  | 3, _ => exact ms_X0_clearsEntry
  | 4, _ => exact ms_X1_init
  | 5, _ => exact ms_X1_count
  | 6, _ => exact ms_X1_wordsThatFit
  | 7, _ => exact ms_X1_giveFrom
  | 8, _ => exact ms_X1_give
  | 9, _ => exact ms_X1_agrees
  | 10, _ => exact ms_X2_init
  | 11, _ => exact ms_X2_count
  | 12, _ => exact ms_X2_cellOfFirst
  | 13, _ => exact ms_X2_visit
  | 14, _ => exact ms_X2_visitBehind
  | 15, _ => exact ms_X2_isAllowed
  | 16, _ => exact ms_X2_keepPath
  | 17, _ => exact ms_X3_init
  | 18, _ => exact ms_X3_remember
  | 19, _ => exact ms_X3_takeLast
  | 20, _ => exact ms_X3_forgetActions
  | 21, _ => exact ms_X3_at
  | 22, _ => exact ms_X3_store
  | 23, _ => exact ms_X3_isStored
  | 24, _ => exact ms_X3_stored
  | 25, _ => exact ms_X3_emptySlots
  | 26, _ => exact ms_X4_init
  | 27, _ => exact ms_X4_take
  | 28, _ => exact ms_X4_changeBar
  | 29, _ => exact ms_X4_layOut
  | 30, _ => exact ms_X4_addEntry
  | 31, _ => exact ms_X4_hasEntry
  | 32, _ => exact ms_X4_isDown
  | 33, _ => exact ms_X4_lengthOf
  | 34, _ => exact ms_X4_cellOf
  | 35, _ => exact ms_X4_indexIn
  | 36, _ => exact ms_X4_entryAt
  | 37, _ => exact ms_X4_clueAt
  | 38, _ => exact ms_X4_entriesAt
  | 39, _ => exact ms_X4_cellsInEntries
  | 40, _ => exact ms_X4_uncheckedIn
  | 41, _ => exact ms_X4_emptyIn
  | 42, _ => exact ms_X4_fitsWord
  | 43, _ => exact ms_X4_fitCount
  | 44, _ => exact ms_X4_wordIn
  | 45, _ => exact ms_X4_fillEntry
  | 46, _ => exact ms_X4_clearEntry
  | 47, _ => exact ms_X5_countKept
  | 48, _ => exact ms_X5_areKept
  | 49, _ => exact ms_X5_isSameTurned
  | 50, _ => exact ms_X5_isCheckedEnough
  | 51, _ => exact ms_X5_hasNoUncheckedPair
  | 52, _ => exact ms_X5_isConnected
  | 53, _ => exact ms_X5_spread
  | 54, _ => exact ms_X6_init
  | 55, _ => exact ms_X6_copyFrom
  | 56, _ => exact ms_X6_begin
  | 57, _ => exact ms_X6_cells
  | 58, _ => exact ms_X6_hasCell
  | 59, _ => exact ms_X6_columnOf
  | 60, _ => exact ms_X6_rowOf
  | 61, _ => exact ms_X6_letterAt
  | 62, _ => exact ms_X6_setLetter
  | 63, _ => exact ms_X6_emptyCells
  | 64, _ => exact ms_X6_isPlace
  | 65, _ => exact ms_X6_hasBar
  | 66, _ => exact ms_X6_drawBar
  | 67, _ => exact ms_X6_barCount
  | 68, _ => exact ms_X6_isJoined
  | 69, _ => exact ms_X6_hasWord
  | 70, _ => exact ms_X6_lengthOfWord
  | 71, _ => exact ms_X6_letterOfWord
  | 72, _ => exact ms_X6_beginWord
  | 73, _ => exact ms_X6_lengthenWord
  | 74, _ => exact ms_X6_letterOfLine
  | 75, _ => exact ms_X6_lengthenLine
  | 76, _ => exact ms_X7_init
  | 77, _ => exact ms_X7_isFull
  | 78, _ => exact ms_X7_add
  | 79, _ => exact ms_X7_empty
  | 80, _ => exact ms_X7_signAt
  | 81, _ => exact ms_X7_isWord
  | 82, _ => exact ms_X7_readGrid
  | 83, _ => exact ms_X7_goesPast
  | 84, _ => exact ms_X7_readSize
  | 85, _ => exact ms_X7_readCells
  | 86, _ => exact ms_X7_readBar
  | 87, _ => exact ms_X7_readParts
  | 88, _ => exact ms_X7_readWord
  | 89, _ => exact ms_X7_readLine
  | 90, _ => exact ms_X8_init
  | 91, _ => exact ms_X8_append
  | 92, _ => exact ms_X8_clearText
  | 93, _ => exact ms_X8_errorPosition
  | 94, _ => exact ms_X8_load
  | 95, _ => exact ms_X8_about
  | 96, _ => exact ms_X8_cell
  | 97, _ => exact ms_X8_entry
  | 98, _ => exact ms_X8_word
  | 99, _ => exact ms_X8_fits
  | 100, _ => exact ms_X8_rule
  | 101, _ => exact ms_X8_readings
  | 102, _ => exact ms_X8_reading
  | 103, _ => exact ms_X8_put
  | 104, _ => exact ms_X8_setBar
  | 105, _ => exact ms_X8_addWord
  | 106, _ => exact ms_X8_setLine
  | 107, _ => exact ms_X8_write
  | 108, _ => exact ms_X8_erase
  | 109, _ => exact ms_X8_undo
  | 110, _ => exact ms_X8_possible
  | 111, _ => exact ms_X8_fillings
  | 112, _ => exact ms_X8_mend
  | 113, _ => exact ms_X8_hardest
  | 114, _ => exact ms_X8_runScript
  | 115, _ => exact ms_X8_simulate
  | 116, _ => exact ms_X8_save
  | 117, _ => exact ms_X8_restore
  | 118, _ => exact ms_X8_requireCell
  | 119, _ => exact ms_X8_requireEntry
  | 120, _ => exact ms_X8_requireWord
  | 121, _ => exact ms_X8_requireSlot
  | 122, _ => exact ms_X8_isLetter
  | 123, _ => exact ms_X8_withoutGroups
  | 124, _ => exact ms_X8_simulateRound
  | 125, _ => exact ms_X9_init
  | 126, _ => exact ms_X9_thrown
  | 127, _ => exact ms_X9_move
  | 128, _ => exact ms_X9_append
  | 129, _ => exact ms_X9_clearText
  | 130, _ => exact ms_X9_character
  | 131, _ => exact ms_X9_isLetter
  | 132, _ => exact ms_X9_isSide
  | 133, _ => exact ms_X9_readText
  | 134, _ => exact ms_X9_readParts
  | 135, _ => exact ms_X9_errorPosition
  | 136, _ => exact ms_X9_load
  | 137, _ => exact ms_X9_size
  | 138, _ => exact ms_X9_isCell
  | 139, _ => exact ms_X9_isLastColumn
  | 140, _ => exact ms_X9_isLastRow
  | 141, _ => exact ms_X9_endsRight
  | 142, _ => exact ms_X9_endsBelow
  | 143, _ => exact ms_X9_findEntries
  | 144, _ => exact ms_X9_addEntry
  | 145, _ => exact ms_X9_isEntry
  | 146, _ => exact ms_X9_cellOf
  | 147, _ => exact ms_X9_entriesOf
  | 148, _ => exact ms_X9_uncheckedIn
  | 149, _ => exact ms_X9_emptyIn
  | 150, _ => exact ms_X9_cellsIn
  | 151, _ => exact ms_X9_bars
  | 152, _ => exact ms_X9_about
  | 153, _ => exact ms_X9_cell
  | 154, _ => exact ms_X9_entry
  | 155, _ => exact ms_X9_wordIn
  | 156, _ => exact ms_X9_isWord
  | 157, _ => exact ms_X9_letterOf
  | 158, _ => exact ms_X9_word
  | 159, _ => exact ms_X9_isFitting
  | 160, _ => exact ms_X9_fitsOf
  | 161, _ => exact ms_X9_fits
  | 162, _ => exact ms_X9_isTurned
  | 163, _ => exact ms_X9_isWellChecked
  | 164, _ => exact ms_X9_isWithoutPairs
  | 165, _ => exact ms_X9_isConnected
  | 166, _ => exact ms_X9_keeps
  | 167, _ => exact ms_X9_kept
  | 168, _ => exact ms_X9_isRule
  | 169, _ => exact ms_X9_rule
  | 170, _ => exact ms_X9_isKnightStep
  | 171, _ => exact ms_X9_canRead
  | 172, _ => exact ms_X9_countReadings
  | 173, _ => exact ms_X9_readings
  | 174, _ => exact ms_X9_reading
  | 175, _ => exact ms_X9_remember
  | 176, _ => exact ms_X9_isWritable
  | 177, _ => exact ms_X9_put
  | 178, _ => exact ms_X9_isRim
  | 179, _ => exact ms_X9_bar
  | 180, _ => exact ms_X9_setBar
  | 181, _ => exact ms_X9_isLetters
  | 182, _ => exact ms_X9_addWord
  | 183, _ => exact ms_X9_setLine
  | 184, _ => exact ms_X9_writeWord
  | 185, _ => exact ms_X9_write
  | 186, _ => exact ms_X9_eraseEntry
  | 187, _ => exact ms_X9_erase
  | 188, _ => exact ms_X9_undo
  | 189, _ => exact ms_X9_possible
  | 190, _ => exact ms_X9_canFill
  | 191, _ => exact ms_X9_fillings
  | 192, _ => exact ms_X9_change
  | 193, _ => exact ms_X9_mend
  | 194, _ => exact ms_X9_hardest
  | 195, _ => exact ms_X9_putsLetter
  | 196, _ => exact ms_X9_setsBar
  | 197, _ => exact ms_X9_writes
  | 198, _ => exact ms_X9_erases
  | 199, _ => exact ms_X9_runs
  | 200, _ => exact ms_X9_runScript
  | 201, _ => exact ms_X9_simulate
  | 202, _ => exact ms_X9_isSlot
  | 203, _ => exact ms_X9_save
  | 204, _ => exact ms_X9_restore
  | 205, _ => exact ms_J13_bitCount_95d88
  | 206, _ => exact ms_J9_floorMod_7cf53
  | 207, _ => exact ms_J7_fill_53178
  | 208, _ => exact ms_L_append
  | 209, _ => exact ms_L_load
  | 210, _ => exact ms_L_about
  | 211, _ => exact ms_L_cell
  | 212, _ => exact ms_L_entry
  | 213, _ => exact ms_L_word
  | 214, _ => exact ms_L_fits
  | 215, _ => exact ms_L_rule
  | 216, _ => exact ms_L_reading
  | 217, _ => exact ms_L_put
  | 218, _ => exact ms_L_setBar
  | 219, _ => exact ms_L_addWord
  | 220, _ => exact ms_L_setLine
  | 221, _ => exact ms_L_write
  | 222, _ => exact ms_L_erase
  | 223, _ => exact ms_L_undo
  | 224, _ => exact ms_L_runScript
  | 225, _ => exact ms_L_simulate
  | 226, _ => exact ms_L_save
  | 227, _ => exact ms_L_restore
  | 228, _ => exact ms_L_law
  | n + 229, h => exact absurd h (by omega)
end
section
/-! ===== rules of the small machine ===== -/
theorem aSw_mono {J J' : Nat → Prop} (hJ : ∀ u, J u → J' u) {a : Int} : ∀ (ts : List Nat) (lo : Int), aSw J a lo ts → aSw J' a lo ts
  | [], _, h => h
  | t :: ts, lo, h => ⟨fun q => hJ _ (h.1 q), aSw_mono hJ ts (lo + 1) h.2⟩
theorem aThr_mono {I : MI} {Q Q' : AQ} {J J' : AJ} (hQ : ∀ r h N, Q r h N → Q' r h N) (hJ : ∀ pc lv st h N k n, J pc lv st h N k n → J' pc lv st h N k n) {X : String} {pc : Nat} {lv : AL} {h : AH} {N k n : Nat} (ht : aThr I Q J X pc lv h N k n) : aThr I Q' J' X pc lv h N k n := by
  unfold aThr at ht ⊢
  split
  · rename_i q hq
    rw [hq] at ht
    exact hJ _ _ _ _ _ _ _ ht
  · rename_i hq
    rw [hq] at ht
    exact ⟨ht.1, hQ _ _ _ ht.2.1, ht.2.2⟩
theorem aRes_mono {I : MI} {Q Q' : AQ} {J J' : AJ} (hQ : ∀ r h N, Q r h N → Q' r h N) (hJ : ∀ pc lv st h N k n, J pc lv st h N k n → J' pc lv st h N k n) {thr : Bool} {nx pc : Nat} {lv : AL} {rest : List AV} {N k n : Nat} : ∀ r h N', aRes I Q J thr nx pc lv rest N k n r h N' → aRes I Q' J' thr nx pc lv rest N k n r h N' := by
  intro r h N' ⟨h1, h2⟩
  refine ⟨h1, ?_⟩
  cases r with
  | inl o => exact hJ _ _ _ _ _ _ _ h2
  | inr X => exact ⟨h2.1, aThr_mono hQ hJ h2.2⟩
def CMono (C : AC) : Prop := ∀ y as h N (Q Q' : AQ), (∀ r h N, Q r h N → Q' r h N) → C y as h N Q → C y as h N Q'
theorem aCall_mono {I : MI} {C : AC} {Q Q' : AQ} {J J' : AJ} (hC : CMono C) (hQ : ∀ r h N, Q r h N → Q' r h N) (hJ : ∀ pc lv st h N k n, J pc lv st h N k n → J' pc lv st h N k n) {thr : Bool} {y na mc ms nx pc : Nat} {lv : AL} {st : List AV} {h : AH} {N k n : Nat} (hc : aCall I C Q J thr y na mc ms nx pc lv st h N k n) : aCall I C Q' J' thr y na mc ms nx pc lv st h N k n :=
  ⟨hc.1, hC _ _ _ _ _ _ (aRes_mono hQ hJ) hc.2⟩
set_option maxHeartbeats 4000000 in
theorem stepI_mono {I : MI} {C : AC} {Q Q' : AQ} {J J' : AJ} (hC : CMono C) (hQ : ∀ r h N, Q r h N → Q' r h N) (hJ : ∀ pc lv st h N k n, J pc lv st h N k n → J' pc lv st h N k n) {i : Instr} {nx : Nat} {tg : List Nat} {pc : Nat} {lv : AL} {st : List AV} {h : AH} {N k n : Nat} : stepI I C Q J i nx tg pc lv st h N k n → stepI I C Q' J' i nx tg pc lv st h N k n := by
  cases i <;> (try (intro hs; exact (show False from hs).elim)) <;> simp only [stepI] <;> (repeat' split) <;> intro hs <;> first
    | exact hs
    | exact hs.elim
    | exact hJ _ _ _ _ _ _ _ hs
    | exact ⟨hs.1, hJ _ _ _ _ _ _ _ hs.2⟩
    | exact ⟨hs.1, fun q => hJ _ _ _ _ _ _ _ (hs.2.1 q), fun q => hJ _ _ _ _ _ _ _ (hs.2.2 q)⟩
    | exact ⟨hs.1, fun q => hJ _ _ _ _ _ _ _ (hs.2.1 q), aSw_mono (fun u hu => hJ _ _ _ _ _ _ _ hu) _ _ hs.2.2⟩
    | (obtain ⟨h1, fs, v, h2, h3, h4⟩ := hs; exact ⟨h1, fs, v, h2, h3, hJ _ _ _ _ _ _ _ h4⟩)
    | (obtain ⟨h1, fs, h2, h3, h4, h5⟩ := hs; exact ⟨h1, fs, h2, h3, h4, hJ _ _ _ _ _ _ _ h5⟩)
    | (obtain ⟨h1, m, f, h2, h3, h4⟩ := hs; exact ⟨h1, m, f, h2, h3, hJ _ _ _ _ _ _ _ h4⟩)
    | (obtain ⟨h1, m, f, h2, h4⟩ := hs; exact ⟨h1, m, f, h2, hJ _ _ _ _ _ _ _ h4⟩)
    | (obtain ⟨h1, h0, m, f, h2, h3, h4⟩ := hs; exact ⟨h1, h0, m, f, h2, h3, hJ _ _ _ _ _ _ _ h4⟩)
    | (obtain ⟨h1, h0, h00, m, f, h2, h3, h4⟩ := hs; exact ⟨h1, h0, h00, m, f, h2, h3, hJ _ _ _ _ _ _ _ h4⟩)
    | (obtain ⟨h1, h2, h3, m, m', f, g, h4, h5, h6, h7⟩ := hs; exact ⟨h1, h2, h3, m, m', f, g, h4, h5, h6, hJ _ _ _ _ _ _ _ h7⟩)
    | (obtain ⟨h1, h2, h3, h4, h5⟩ := hs; exact ⟨h1, h2, h3, h4, hQ _ _ _ h5⟩)
    | (obtain ⟨h1, h2⟩ := hs; exact ⟨h1, aCall_mono hC hQ hJ h2⟩)
    | exact aCall_mono hC hQ hJ hs
    | (obtain ⟨h1, h2, h3⟩ := hs; exact ⟨h1, hQ _ _ _ h2, h3⟩)
    | (obtain ⟨h2, h3⟩ := hs; exact ⟨hQ _ _ _ h2, h3⟩)
theorem step_mono {I : MI} {C : AC} {Q Q' : AQ} {J J' : AJ} (hC : CMono C) (hQ : ∀ r h N, Q r h N → Q' r h N) (hJ : ∀ pc lv st h N k n, J pc lv st h N k n → J' pc lv st h N k n) {pc : Nat} {lv : AL} {st : List AV} {h : AH} {N k n : Nat} : step I C Q J pc lv st h N k n → step I C Q' J' pc lv st h N k n := by
  unfold step
  split
  · exact stepI_mono hC hQ hJ
  · exact id
theorem Run_mono {I : MI} {C : AC} {Q Q' : AQ} (hC : CMono C) (hQ : ∀ r h N, Q r h N → Q' r h N) {pc : Nat} {lv : AL} {st : List AV} {h : AH} {N k n : Nat} (hr : Run I C Q pc lv st h N k n) : Run I C Q' pc lv st h N k n := fun J hJ =>
  hr J ⟨fun _ _ _ _ _ _ _ hs => hJ.1 _ _ _ _ _ _ _ (step_mono hC hQ (fun _ _ _ _ _ _ _ h => h) hs), hJ.2⟩
theorem T_cmono : ∀ d, CMono (T d)
  | 0 => fun _ _ _ _ _ _ _ h => h
  | d + 1 => fun _ _ _ _ _ _ hQ h => ⟨h.1, Run_mono (T_cmono d) hQ h.2⟩
section RR
variable {I : MI} {d : Nat} {Q : AQ} {pc nx : Nat} {tg : List Nat} {lv : AL} {st r : List AV} {h : AH} {N k n : Nat}
theorem Run.go (hs : step I (T d) Q (Run I (T d) Q) pc lv st h N k n) : Run I (T d) Q pc lv st h N k n := fun J hJ =>
  hJ.1 _ _ _ _ _ _ _ (step_mono (T_cmono d) (fun _ _ _ h => h) (fun _ _ _ _ _ _ _ hr => hr J hJ) hs)
theorem Run.less {lv' : AL} (hr : Run I (T d) Q pc lv' st h N k n) (hl : lv'.length = lv.length) (hs : ∀ i v, aLd lv' i = some v → aLd lv i = some v) : Run I (T d) Q pc lv st h N k n := fun J hJ => hJ.2 _ _ _ _ _ _ _ _ hl hs (hr J hJ)
theorem Run.go1 {i : Instr} (hc : lk I.code pc = some (i, nx, tg)) (hs : stepI I (T d) Q (Run I (T d) Q) i nx tg pc lv st h N k n) : Run I (T d) Q pc lv st h N k n := Run.go (by unfold step; rw [hc]; exact hs)
theorem R_iconst {z : Int} (hc : lk I.code pc = some (.iconst z, nx, tg))  (k0 : Run I (T d) Q nx lv (vI z :: st) h N k n) : Run I (T d) Q pc lv st h N k n := Run.go1 hc (k0)
theorem R_bipush {z : Int} (hc : lk I.code pc = some (.bipush z, nx, tg))  (k0 : Run I (T d) Q nx lv (vI z :: st) h N k n) : Run I (T d) Q pc lv st h N k n := Run.go1 hc (k0)
theorem R_sipush {z : Int} (hc : lk I.code pc = some (.sipush z, nx, tg))  (k0 : Run I (T d) Q nx lv (vI z :: st) h N k n) : Run I (T d) Q pc lv st h N k n := Run.go1 hc (k0)
theorem R_lconst {z : Fin 2} (hc : lk I.code pc = some (.lconst z, nx, tg))  (k0 : Run I (T d) Q nx lv (vL (Int64.ofNat z) :: st) h N k n) : Run I (T d) Q pc lv st h N k n := Run.go1 hc (k0)
theorem R_ldc {x : Nat} {v : Int64} (hc : lk I.code pc = some (.ldc x, nx, tg)) (hv : lk I.cst x = some v) (k0 : Run I (T d) Q nx lv (vI v.toInt :: st) h N k n) : Run I (T d) Q pc lv st h N k n := Run.go1 hc (by simp only [stepI, hv]; exact k0)
theorem R_ldc2_w {x : Nat} {v : Int64} (hc : lk I.code pc = some (.ldc2_w x, nx, tg)) (hv : lk I.cst x = some v) (k0 : Run I (T d) Q nx lv (vL v :: st) h N k n) : Run I (T d) Q pc lv st h N k n := Run.go1 hc (by simp only [stepI, hv]; exact k0)
theorem R_iload {a : Nat} {z : Int} (hc : lk I.code pc = some (.iload a, nx, tg)) (hv : aLd lv a = some (vI z)) (k0 : Run I (T d) Q nx lv (vI z :: st) h N k n) : Run I (T d) Q pc lv st h N k n := Run.go1 hc (by simp only [stepI, hv]; exact k0)
theorem R_iload_n {a : Fin 4} {z : Int} (hc : lk I.code pc = some (.iload_n a, nx, tg)) (hv : aLd lv a = some (vI z)) (k0 : Run I (T d) Q nx lv (vI z :: st) h N k n) : Run I (T d) Q pc lv st h N k n := Run.go1 hc (by simp only [stepI, hv]; exact k0)
theorem R_istore {a : Nat} {z : Int} {lv' : AL} (hc : lk I.code pc = some (.istore a, nx, tg)) (hl : aSt a (vI z) lv = lv') (k0 : Run I (T d) Q nx lv' r h N k n) : Run I (T d) Q pc lv (vI z :: r) h N k n := Run.go1 hc (by subst hl; exact k0)
theorem R_istore_n {a : Fin 4} {z : Int} {lv' : AL} (hc : lk I.code pc = some (.istore_n a, nx, tg)) (hl : aSt a (vI z) lv = lv') (k0 : Run I (T d) Q nx lv' r h N k n) : Run I (T d) Q pc lv (vI z :: r) h N k n := Run.go1 hc (by subst hl; exact k0)
theorem R_lload {a : Nat} {z : Int64} (hc : lk I.code pc = some (.lload a, nx, tg)) (hv : aLd lv a = some (vL z)) (k0 : Run I (T d) Q nx lv (vL z :: st) h N k n) : Run I (T d) Q pc lv st h N k n := Run.go1 hc (by simp only [stepI, hv]; exact k0)
theorem R_lload_n {a : Fin 4} {z : Int64} (hc : lk I.code pc = some (.lload_n a, nx, tg)) (hv : aLd lv a = some (vL z)) (k0 : Run I (T d) Q nx lv (vL z :: st) h N k n) : Run I (T d) Q pc lv st h N k n := Run.go1 hc (by simp only [stepI, hv]; exact k0)
theorem R_lstore {a : Nat} {z : Int64} {lv' : AL} (hc : lk I.code pc = some (.lstore a, nx, tg)) (hl : aSt2 a (vL z) lv = lv') (k0 : Run I (T d) Q nx lv' r h N k n) : Run I (T d) Q pc lv (vL z :: r) h N k n := Run.go1 hc (by subst hl; exact k0)
theorem R_lstore_n {a : Fin 4} {z : Int64} {lv' : AL} (hc : lk I.code pc = some (.lstore_n a, nx, tg)) (hl : aSt2 a (vL z) lv = lv') (k0 : Run I (T d) Q nx lv' r h N k n) : Run I (T d) Q pc lv (vL z :: r) h N k n := Run.go1 hc (by subst hl; exact k0)
theorem R_aload {a : Nat} {z : Nat} (hc : lk I.code pc = some (.aload a, nx, tg)) (hv : aLd lv a = some (vR z)) (k0 : Run I (T d) Q nx lv (vR z :: st) h N k n) : Run I (T d) Q pc lv st h N k n := Run.go1 hc (by simp only [stepI, hv]; exact k0)
theorem R_aload_n {a : Fin 4} {z : Nat} (hc : lk I.code pc = some (.aload_n a, nx, tg)) (hv : aLd lv a = some (vR z)) (k0 : Run I (T d) Q nx lv (vR z :: st) h N k n) : Run I (T d) Q pc lv st h N k n := Run.go1 hc (by simp only [stepI, hv]; exact k0)
theorem R_astore {a : Nat} {z : Nat} {lv' : AL} (hc : lk I.code pc = some (.astore a, nx, tg)) (hl : aSt a (vR z) lv = lv') (k0 : Run I (T d) Q nx lv' r h N k n) : Run I (T d) Q pc lv (vR z :: r) h N k n := Run.go1 hc (by subst hl; exact k0)
theorem R_astore_n {a : Fin 4} {z : Nat} {lv' : AL} (hc : lk I.code pc = some (.astore_n a, nx, tg)) (hl : aSt a (vR z) lv = lv') (k0 : Run I (T d) Q nx lv' r h N k n) : Run I (T d) Q pc lv (vR z :: r) h N k n := Run.go1 hc (by subst hl; exact k0)
theorem R_iinc {a : Nat} {z y : Int} {lv' : AL} (hc : lk I.code pc = some (.iinc a y, nx, tg)) (hv : aLd lv a = some (vI z)) (hl : aSt a (vI (z + y)) lv = lv') (k0 : Run I (T d) Q nx lv' st h N k n) : Run I (T d) Q pc lv st h N k n := Run.go1 hc (by subst hl; simp only [stepI, hv]; exact k0)
theorem R_iadd {a b : Int} (hc : lk I.code pc = some (.iadd, nx, tg))  (k0 : Run I (T d) Q nx lv (vI (a + b) :: r) h N k n) : Run I (T d) Q pc lv (vI b :: vI a :: r) h N k n := Run.go1 hc (k0)
theorem R_isub {a b : Int} (hc : lk I.code pc = some (.isub, nx, tg))  (k0 : Run I (T d) Q nx lv (vI (a - b) :: r) h N k n) : Run I (T d) Q pc lv (vI b :: vI a :: r) h N k n := Run.go1 hc (k0)
theorem R_imul {a b : Int} (hc : lk I.code pc = some (.imul, nx, tg))  (k0 : Run I (T d) Q nx lv (vI (a * b) :: r) h N k n) : Run I (T d) Q pc lv (vI b :: vI a :: r) h N k n := Run.go1 hc (k0)
theorem R_iand {a b : Int} (hc : lk I.code pc = some (.iand, nx, tg))  (k0 : Run I (T d) Q nx lv (vI ((iI a &&& iI b).toInt) :: r) h N k n) : Run I (T d) Q pc lv (vI b :: vI a :: r) h N k n := Run.go1 hc (k0)
theorem R_ior {a b : Int} (hc : lk I.code pc = some (.ior, nx, tg))  (k0 : Run I (T d) Q nx lv (vI ((iI a ||| iI b).toInt) :: r) h N k n) : Run I (T d) Q pc lv (vI b :: vI a :: r) h N k n := Run.go1 hc (k0)
theorem R_ixor {a b : Int} (hc : lk I.code pc = some (.ixor, nx, tg))  (k0 : Run I (T d) Q nx lv (vI ((iI a ^^^ iI b).toInt) :: r) h N k n) : Run I (T d) Q pc lv (vI b :: vI a :: r) h N k n := Run.go1 hc (k0)
theorem R_ishl {a b : Int} (hc : lk I.code pc = some (.ishl, nx, tg))  (k0 : Run I (T d) Q nx lv (vI ((iI a <<< (iI b &&& 31)).toInt) :: r) h N k n) : Run I (T d) Q pc lv (vI b :: vI a :: r) h N k n := Run.go1 hc (k0)
theorem R_ishr {a b : Int} (hc : lk I.code pc = some (.ishr, nx, tg))  (k0 : Run I (T d) Q nx lv (vI ((iI a >>> (iI b &&& 31)).toInt) :: r) h N k n) : Run I (T d) Q pc lv (vI b :: vI a :: r) h N k n := Run.go1 hc (k0)
theorem R_idiv {a b : Int} (hc : lk I.code pc = some (.idiv, nx, tg)) (hd : 0 ≤ a ∧ a < 2147483648 ∧ 0 < b ∧ b < 2147483648) (k0 : Run I (T d) Q nx lv (vI (a / b) :: r) h N k n) : Run I (T d) Q pc lv (vI b :: vI a :: r) h N k n := Run.go1 hc (⟨hd, k0⟩)
theorem R_irem {a b : Int} (hc : lk I.code pc = some (.irem, nx, tg)) (hd : 0 ≤ a ∧ a < 2147483648 ∧ 0 < b ∧ b < 2147483648) (k0 : Run I (T d) Q nx lv (vI (a % b) :: r) h N k n) : Run I (T d) Q pc lv (vI b :: vI a :: r) h N k n := Run.go1 hc (⟨hd, k0⟩)
theorem R_ladd {a b : Int64} (hc : lk I.code pc = some (.ladd, nx, tg))  (k0 : Run I (T d) Q nx lv (vL (a + b) :: r) h N k n) : Run I (T d) Q pc lv (vL b :: vL a :: r) h N k n := Run.go1 hc (k0)
theorem R_lsub {a b : Int64} (hc : lk I.code pc = some (.lsub, nx, tg))  (k0 : Run I (T d) Q nx lv (vL (a - b) :: r) h N k n) : Run I (T d) Q pc lv (vL b :: vL a :: r) h N k n := Run.go1 hc (k0)
theorem R_lmul {a b : Int64} (hc : lk I.code pc = some (.lmul, nx, tg))  (k0 : Run I (T d) Q nx lv (vL (a * b) :: r) h N k n) : Run I (T d) Q pc lv (vL b :: vL a :: r) h N k n := Run.go1 hc (k0)
theorem R_land {a b : Int64} (hc : lk I.code pc = some (.land, nx, tg))  (k0 : Run I (T d) Q nx lv (vL (a &&& b) :: r) h N k n) : Run I (T d) Q pc lv (vL b :: vL a :: r) h N k n := Run.go1 hc (k0)
theorem R_lor {a b : Int64} (hc : lk I.code pc = some (.lor, nx, tg))  (k0 : Run I (T d) Q nx lv (vL (a ||| b) :: r) h N k n) : Run I (T d) Q pc lv (vL b :: vL a :: r) h N k n := Run.go1 hc (k0)
theorem R_lxor {a b : Int64} (hc : lk I.code pc = some (.lxor, nx, tg))  (k0 : Run I (T d) Q nx lv (vL (a ^^^ b) :: r) h N k n) : Run I (T d) Q pc lv (vL b :: vL a :: r) h N k n := Run.go1 hc (k0)
theorem R_ldiv {a b : Int64} (hc : lk I.code pc = some (.ldiv, nx, tg)) (hd : ¬ b = 0) (k0 : Run I (T d) Q nx lv (vL (a / b) :: r) h N k n) : Run I (T d) Q pc lv (vL b :: vL a :: r) h N k n := Run.go1 hc (⟨hd, k0⟩)
theorem R_lrem {a b : Int64} (hc : lk I.code pc = some (.lrem, nx, tg)) (hd : ¬ b = 0) (k0 : Run I (T d) Q nx lv (vL (a - a / b * b) :: r) h N k n) : Run I (T d) Q pc lv (vL b :: vL a :: r) h N k n := Run.go1 hc (⟨hd, k0⟩)
theorem R_lshl {a : Int64} {b : Int} (hc : lk I.code pc = some (.lshl, nx, tg))  (k0 : Run I (T d) Q nx lv (vL (a <<< ((iI b).toInt64 &&& 63)) :: r) h N k n) : Run I (T d) Q pc lv (vI b :: vL a :: r) h N k n := Run.go1 hc (k0)
theorem R_lshr {a : Int64} {b : Int} (hc : lk I.code pc = some (.lshr, nx, tg))  (k0 : Run I (T d) Q nx lv (vL (a >>> ((iI b).toInt64 &&& 63)) :: r) h N k n) : Run I (T d) Q pc lv (vI b :: vL a :: r) h N k n := Run.go1 hc (k0)
theorem R_lushr {a : Int64} {b : Int} (hc : lk I.code pc = some (.lushr, nx, tg))  (k0 : Run I (T d) Q nx lv (vL ((a.toUInt64 >>> ((iI b).toInt64.toUInt64 &&& Int64.toUInt64 63)).toInt64) :: r) h N k n) : Run I (T d) Q pc lv (vI b :: vL a :: r) h N k n := Run.go1 hc (k0)
theorem R_lcmp {a b : Int64} (hc : lk I.code pc = some (.lcmp, nx, tg))  (k0 : Run I (T d) Q nx lv (vI (lg_cmp a b).toInt :: r) h N k n) : Run I (T d) Q pc lv (vL b :: vL a :: r) h N k n := Run.go1 hc (k0)
theorem R_i2l {a : Int} (hc : lk I.code pc = some (.i2l, nx, tg))  (k0 : Run I (T d) Q nx lv (vL (iI a).toInt64 :: r) h N k n) : Run I (T d) Q pc lv (vI a :: r) h N k n := Run.go1 hc (k0)
theorem R_l2i {a : Int64} (hc : lk I.code pc = some (.l2i, nx, tg))  (k0 : Run I (T d) Q nx lv (vI a.toInt32.toInt :: r) h N k n) : Run I (T d) Q pc lv (vL a :: r) h N k n := Run.go1 hc (k0)
theorem R_dup {v : AV} (hc : lk I.code pc = some (.dup, nx, tg)) (hv : aCat v = 1) (k0 : Run I (T d) Q nx lv (v :: v :: r) h N k n) : Run I (T d) Q pc lv (v :: r) h N k n := Run.go1 hc (⟨hv, k0⟩)
theorem R_dup2 {v w : AV} (hc : lk I.code pc = some (.dup2, nx, tg)) (hv : aCat v = 1 ∧ aCat w = 1) (k0 : Run I (T d) Q nx lv (v :: w :: v :: w :: r) h N k n) : Run I (T d) Q pc lv (v :: w :: r) h N k n := Run.go1 hc (⟨hv, k0⟩)
theorem R_pop {v : AV} (hc : lk I.code pc = some (.pop, nx, tg)) (hv : aCat v = 1) (k0 : Run I (T d) Q nx lv r h N k n) : Run I (T d) Q pc lv (v :: r) h N k n := Run.go1 hc (⟨hv, k0⟩)
theorem R_goto {off : Int} {t : Nat} {ts : List Nat} (hc : lk I.code pc = some (.goto off, nx, t :: ts)) (k0 : Run I (T d) Q t lv st h N k n) : Run I (T d) Q pc lv st h N k n := Run.go1 hc k0
theorem R_ifeq {off a : Int} {t : Nat} {ts : List Nat} (hc : lk I.code pc = some (.ifCond .eq off, nx, t :: ts)) (ha : inR a) (k1 : a = 0 → Run I (T d) Q t lv r h N k n) (k2 : ¬ (a = 0) → Run I (T d) Q nx lv r h N k n) : Run I (T d) Q pc lv (vI a :: r) h N k n := Run.go1 hc ⟨ha, k1, k2⟩
theorem R_icmpeq {off a b : Int} {t : Nat} {ts : List Nat} (hc : lk I.code pc = some (.if_icmp .eq off, nx, t :: ts)) (ha : inR a) (hb : inR b) (k1 : a = b → Run I (T d) Q t lv r h N k n) (k2 : ¬ (a = b) → Run I (T d) Q nx lv r h N k n) : Run I (T d) Q pc lv (vI b :: vI a :: r) h N k n := Run.go1 hc ⟨⟨ha, hb⟩, k1, k2⟩
theorem R_ifne {off a : Int} {t : Nat} {ts : List Nat} (hc : lk I.code pc = some (.ifCond .ne off, nx, t :: ts)) (ha : inR a) (k1 : ¬ a = 0 → Run I (T d) Q t lv r h N k n) (k2 : ¬ (¬ a = 0) → Run I (T d) Q nx lv r h N k n) : Run I (T d) Q pc lv (vI a :: r) h N k n := Run.go1 hc ⟨ha, k1, k2⟩
theorem R_icmpne {off a b : Int} {t : Nat} {ts : List Nat} (hc : lk I.code pc = some (.if_icmp .ne off, nx, t :: ts)) (ha : inR a) (hb : inR b) (k1 : ¬ a = b → Run I (T d) Q t lv r h N k n) (k2 : ¬ (¬ a = b) → Run I (T d) Q nx lv r h N k n) : Run I (T d) Q pc lv (vI b :: vI a :: r) h N k n := Run.go1 hc ⟨⟨ha, hb⟩, k1, k2⟩
theorem R_iflt {off a : Int} {t : Nat} {ts : List Nat} (hc : lk I.code pc = some (.ifCond .lt off, nx, t :: ts)) (ha : inR a) (k1 : a < 0 → Run I (T d) Q t lv r h N k n) (k2 : ¬ (a < 0) → Run I (T d) Q nx lv r h N k n) : Run I (T d) Q pc lv (vI a :: r) h N k n := Run.go1 hc ⟨ha, k1, k2⟩
theorem R_icmplt {off a b : Int} {t : Nat} {ts : List Nat} (hc : lk I.code pc = some (.if_icmp .lt off, nx, t :: ts)) (ha : inR a) (hb : inR b) (k1 : a < b → Run I (T d) Q t lv r h N k n) (k2 : ¬ (a < b) → Run I (T d) Q nx lv r h N k n) : Run I (T d) Q pc lv (vI b :: vI a :: r) h N k n := Run.go1 hc ⟨⟨ha, hb⟩, k1, k2⟩
theorem R_ifge {off a : Int} {t : Nat} {ts : List Nat} (hc : lk I.code pc = some (.ifCond .ge off, nx, t :: ts)) (ha : inR a) (k1 : 0 ≤ a → Run I (T d) Q t lv r h N k n) (k2 : ¬ (0 ≤ a) → Run I (T d) Q nx lv r h N k n) : Run I (T d) Q pc lv (vI a :: r) h N k n := Run.go1 hc ⟨ha, k1, k2⟩
theorem R_icmpge {off a b : Int} {t : Nat} {ts : List Nat} (hc : lk I.code pc = some (.if_icmp .ge off, nx, t :: ts)) (ha : inR a) (hb : inR b) (k1 : b ≤ a → Run I (T d) Q t lv r h N k n) (k2 : ¬ (b ≤ a) → Run I (T d) Q nx lv r h N k n) : Run I (T d) Q pc lv (vI b :: vI a :: r) h N k n := Run.go1 hc ⟨⟨ha, hb⟩, k1, k2⟩
theorem R_ifgt {off a : Int} {t : Nat} {ts : List Nat} (hc : lk I.code pc = some (.ifCond .gt off, nx, t :: ts)) (ha : inR a) (k1 : 0 < a → Run I (T d) Q t lv r h N k n) (k2 : ¬ (0 < a) → Run I (T d) Q nx lv r h N k n) : Run I (T d) Q pc lv (vI a :: r) h N k n := Run.go1 hc ⟨ha, k1, k2⟩
theorem R_icmpgt {off a b : Int} {t : Nat} {ts : List Nat} (hc : lk I.code pc = some (.if_icmp .gt off, nx, t :: ts)) (ha : inR a) (hb : inR b) (k1 : b < a → Run I (T d) Q t lv r h N k n) (k2 : ¬ (b < a) → Run I (T d) Q nx lv r h N k n) : Run I (T d) Q pc lv (vI b :: vI a :: r) h N k n := Run.go1 hc ⟨⟨ha, hb⟩, k1, k2⟩
theorem R_ifle {off a : Int} {t : Nat} {ts : List Nat} (hc : lk I.code pc = some (.ifCond .le off, nx, t :: ts)) (ha : inR a) (k1 : a ≤ 0 → Run I (T d) Q t lv r h N k n) (k2 : ¬ (a ≤ 0) → Run I (T d) Q nx lv r h N k n) : Run I (T d) Q pc lv (vI a :: r) h N k n := Run.go1 hc ⟨ha, k1, k2⟩
theorem R_icmple {off a b : Int} {t : Nat} {ts : List Nat} (hc : lk I.code pc = some (.if_icmp .le off, nx, t :: ts)) (ha : inR a) (hb : inR b) (k1 : a ≤ b → Run I (T d) Q t lv r h N k n) (k2 : ¬ (a ≤ b) → Run I (T d) Q nx lv r h N k n) : Run I (T d) Q pc lv (vI b :: vI a :: r) h N k n := Run.go1 hc ⟨⟨ha, hb⟩, k1, k2⟩
theorem R_switch {dflt lo hi a : Int} {offs : Array Int} {t : Nat} {ts : List Nat} (hc : lk I.code pc = some (.tableswitch dflt lo hi offs, nx, t :: ts)) (ha : inR a) (k1 : a < lo ∨ hi < a → Run I (T d) Q t lv r h N k n) (k2 : aSw (fun u => Run I (T d) Q u lv r h N k n) a lo ts) : Run I (T d) Q pc lv (vI a :: r) h N k n := Run.go1 hc ⟨ha, k1, k2⟩
theorem R_getfield {x ci j a : Nat} {fs : List AV} {v : AV} (hc : lk I.code pc = some (.getfield x, nx, tg)) (hf : lk I.fld x = some (ci, j)) (ha : a < N) (he : h a = eO ci fs) (hv : fs[j]? = some v) (k0 : Run I (T d) Q nx lv (v :: r) h N k n) : Run I (T d) Q pc lv (vR a :: r) h N k n := Run.go1 hc (by simp only [stepI, hf]; exact ⟨ha, fs, v, he, hv, k0⟩)
theorem R_putfield {x ci j a : Nat} {fs : List AV} {v : AV} (hc : lk I.code pc = some (.putfield x, nx, tg)) (hf : lk I.fld x = some (ci, j)) (ha : a < N) (he : h a = eO ci fs) (hl : j < fs.length) (hfit : aFit (aTy ci j) v) (k0 : Run I (T d) Q nx lv r (va_up h a (eO ci (fs.set j v))) N k n) : Run I (T d) Q pc lv (v :: vR a :: r) h N k n := Run.go1 hc (by simp only [stepI, hf]; exact ⟨ha, fs, he, hl, hfit, k0⟩)
theorem R_iaload {a m : Nat} {i : Int} {f : Nat → Int} (hc : lk I.code pc = some (.iaload, nx, tg)) (ha : aRd N a) (he : h a = eI m f) (hi : 0 ≤ i ∧ i < m ∧ m < 2147483648) (k0 : Run I (T d) Q nx lv (vI (f i.toNat) :: r) h N k n) : Run I (T d) Q pc lv (vI i :: vR a :: r) h N k n := Run.go1 hc ⟨ha, m, f, he, hi, k0⟩
theorem R_baload {a m : Nat} {i : Int} {f : Nat → Int} (hc : lk I.code pc = some (.baload, nx, tg)) (ha : a < N) (he : h a = eZ m f) (hi : 0 ≤ i ∧ i < m ∧ m < 2147483648) (k0 : Run I (T d) Q nx lv (vI (f i.toNat) :: r) h N k n) : Run I (T d) Q pc lv (vI i :: vR a :: r) h N k n := Run.go1 hc ⟨ha, m, f, he, hi, k0⟩
theorem R_laload {a m : Nat} {i : Int} {f : Nat → Int64} (hc : lk I.code pc = some (.laload, nx, tg)) (ha : a < N) (he : h a = eL m f) (hi : 0 ≤ i ∧ i < m ∧ m < 2147483648) (k0 : Run I (T d) Q nx lv (vL (f i.toNat) :: r) h N k n) : Run I (T d) Q pc lv (vI i :: vR a :: r) h N k n := Run.go1 hc ⟨ha, m, f, he, hi, k0⟩
theorem R_aaload {a m : Nat} {i : Int} {f : Nat → Option Nat} (hc : lk I.code pc = some (.aaload, nx, tg)) (ha : a < N) (he : h a = eR m f) (hi : 0 ≤ i ∧ i < m ∧ m < 2147483648) (k0 : Run I (T d) Q nx lv (vF (f i.toNat) :: r) h N k n) : Run I (T d) Q pc lv (vI i :: vR a :: r) h N k n := Run.go1 hc ⟨ha, m, f, he, hi, k0⟩
theorem R_iastore {a m : Nat} {i z : Int} {f : Nat → Int} (hc : lk I.code pc = some (.iastore, nx, tg)) (ha : a < N) (he : h a = eI m f) (hi : 0 ≤ i ∧ i < m ∧ m < 2147483648) (k0 : Run I (T d) Q nx lv r (va_up h a (eI m (va_up f i.toNat z))) N k n) : Run I (T d) Q pc lv (vI z :: vI i :: vR a :: r) h N k n := Run.go1 hc ⟨ha, m, f, he, hi, k0⟩
theorem R_lastore {a m : Nat} {i : Int} {z : Int64} {f : Nat → Int64} (hc : lk I.code pc = some (.lastore, nx, tg)) (ha : a < N) (he : h a = eL m f) (hi : 0 ≤ i ∧ i < m ∧ m < 2147483648) (k0 : Run I (T d) Q nx lv r (va_up h a (eL m (va_up f i.toNat z))) N k n) : Run I (T d) Q pc lv (vL z :: vI i :: vR a :: r) h N k n := Run.go1 hc ⟨ha, m, f, he, hi, k0⟩
theorem R_bastore {a m : Nat} {i z : Int} {f : Nat → Int} (hc : lk I.code pc = some (.bastore, nx, tg)) (ha : a < N) (hz : z = 0 ∨ z = 1) (he : h a = eZ m f) (hi : 0 ≤ i ∧ i < m ∧ m < 2147483648) (k0 : Run I (T d) Q nx lv r (va_up h a (eZ m (va_up f i.toNat z))) N k n) : Run I (T d) Q pc lv (vI z :: vI i :: vR a :: r) h N k n := Run.go1 hc ⟨ha, hz, m, f, he, hi, k0⟩
theorem R_aastore {a b m : Nat} {i : Int} {f : Nat → Option Nat} {vs : List AV} (hc : lk I.code pc = some (.aastore, nx, tg)) (ha : a < N) (hb : b < N) (hbe : h b = eO 4 vs) (he : h a = eR m f) (hi : 0 ≤ i ∧ i < m ∧ m < 2147483648) (k0 : Run I (T d) Q nx lv r (va_up h a (eR m (va_up f i.toNat (some b)))) N k n) : Run I (T d) Q pc lv (vR b :: vI i :: vR a :: r) h N k n := Run.go1 hc ⟨ha, hb, ⟨vs, hbe⟩, m, f, he, hi, k0⟩
theorem R_alen {a m : Nat} {f : Nat → Int} (hc : lk I.code pc = some (.arraylength, nx, tg)) (ha : aRd N a) (he : h a = eI m f) (k0 : Run I (T d) Q nx lv (vI (m : Int) :: r) h N k n) : Run I (T d) Q pc lv (vR a :: r) h N k n := Run.go1 hc ⟨ha, m, f, he, k0⟩
theorem R_getstatic {x t : Nat} {ts : List Nat} (hc : lk I.code pc = some (.getstatic x, nx, t :: ts)) (k0 : Run I (T d) Q nx lv (vR t :: st) h N k n) : Run I (T d) Q pc lv st h N k n := Run.go1 hc k0
theorem R_new {x ci : Nat} (hc : lk I.code pc = some (.new x, nx, tg)) (ht : lk I.thr pc = none) (hci : lk I.cls x = some ci) (hw : N < aRO ∧ wfH N h ∧ wfS N lv st ∧ k + 1 ≤ I.mc ∧ n + aNf ci ≤ I.ms) (k0 : Run I (T d) Q nx lv (vR N :: st) (va_up h N (eO ci (aFs ci))) (N + 1) (k + 1) (n + aNf ci)) : Run I (T d) Q pc lv st h N k n := Run.go1 hc (by simp only [stepI, ht, hci]; exact ⟨hw, k0⟩)
theorem R_throw {x : Nat} {X : String} (hc : lk I.code pc = some (.new x, nx, tg)) (ht : lk I.thr pc = some X) (hcat : aCats st ≤ 8) (hk : k + 1 ≤ I.mc) (hn : n + 6 ≤ I.ms) (hh : I.hnd = []) (k0 : Q (.inr X) h N) : Run I (T d) Q pc lv st h N k n := Run.go1 hc (by simp only [stepI, ht]; exact ⟨hcat, hk, hn, hh, k0⟩)
theorem R_newI {a : Int} (hc : lk I.code pc = some (.newarray .int, nx, tg)) (hw : 0 ≤ a ∧ a < 100000 ∧ N < aRO ∧ wfH N h ∧ wfS N lv r ∧ k + 1 ≤ I.mc ∧ n + a.toNat ≤ I.ms) (k0 : Run I (T d) Q nx lv (vR N :: r) (va_up h N (eI a.toNat (fun _ => 0))) (N + 1) (k + 1) (n + a.toNat)) : Run I (T d) Q pc lv (vI a :: r) h N k n := Run.go1 hc ⟨hw, k0⟩
theorem R_newZ {a : Int} (hc : lk I.code pc = some (.newarray .boolean, nx, tg)) (hw : 0 ≤ a ∧ a < 100000 ∧ N < aRO ∧ wfH N h ∧ wfS N lv r ∧ k + 1 ≤ I.mc ∧ n + a.toNat ≤ I.ms) (k0 : Run I (T d) Q nx lv (vR N :: r) (va_up h N (eZ a.toNat (fun _ => 0))) (N + 1) (k + 1) (n + a.toNat)) : Run I (T d) Q pc lv (vI a :: r) h N k n := Run.go1 hc ⟨hw, k0⟩
theorem R_newL {a : Int} (hc : lk I.code pc = some (.newarray .long, nx, tg)) (hw : 0 ≤ a ∧ a < 100000 ∧ N < aRO ∧ wfH N h ∧ wfS N lv r ∧ k + 1 ≤ I.mc ∧ n + a.toNat ≤ I.ms) (k0 : Run I (T d) Q nx lv (vR N :: r) (va_up h N (eL a.toNat (fun _ => 0))) (N + 1) (k + 1) (n + a.toNat)) : Run I (T d) Q pc lv (vI a :: r) h N k n := Run.go1 hc ⟨hw, k0⟩
theorem R_newR {a : Int} {x : Nat} (hc : lk I.code pc = some (.anewarray x, nx, tg)) (hw : 0 ≤ a ∧ a < 100000 ∧ N < aRO ∧ wfH N h ∧ wfS N lv r ∧ k + 1 ≤ I.mc ∧ n + a.toNat ≤ I.ms) (k0 : Run I (T d) Q nx lv (vR N :: r) (va_up h N (eR a.toNat (fun _ => none))) (N + 1) (k + 1) (n + a.toNat)) : Run I (T d) Q pc lv (vI a :: r) h N k n := Run.go1 hc ⟨hw, k0⟩
theorem R_vcall {x y na mc ms rc : Nat} (hc : lk I.code pc = some (.invokevirtual x, nx, tg)) (hm : lk I.mth x = some (y, 0, na, mc, ms, rc)) (hrc : aRcv rc (st.take na).reverse h N) (hw : aCats (st.drop na) ≤ 8 ∧ na ≤ st.length ∧ k + mc ≤ I.mc ∧ n + ms ≤ I.ms) (k0 : T d y (st.take na).reverse h N (aRes I Q (Run I (T d) Q) true nx pc lv (st.drop na) N (k + mc) (n + ms))) : Run I (T d) Q pc lv st h N k n := Run.go1 hc (by simp only [stepI, hm]; exact ⟨hrc, ⟨hw, k0⟩⟩)
theorem R_scall {x y na mc ms rc : Nat} (hc : lk I.code pc = some (.invokestatic x, nx, tg)) (hm : lk I.mth x = some (y, 1, na, mc, ms, rc)) (hw : aCats (st.drop na) ≤ 8 ∧ na ≤ st.length ∧ k + mc ≤ I.mc ∧ n + ms ≤ I.ms) (k0 : T d y (st.take na).reverse h N (aRes I Q (Run I (T d) Q) true nx pc lv (st.drop na) N (k + mc) (n + ms))) : Run I (T d) Q pc lv st h N k n := Run.go1 hc (by simp only [stepI, hm]; exact ⟨hw, k0⟩)
theorem R_xcall {x y na mc ms rc : Nat} (hc : lk I.code pc = some (.invokestatic x, nx, tg)) (hm : lk I.mth x = some (y, 7, na, mc, ms, rc)) (hw : aCats (st.drop na) ≤ 8 ∧ na ≤ st.length ∧ k + mc ≤ I.mc ∧ n + ms ≤ I.ms) (k0 : T d y (st.take na).reverse h N (aRes I Q (Run I (T d) Q) true nx pc lv (st.drop na) N (k + mc) (n + ms))) : Run I (T d) Q pc lv st h N k n := Run.go1 hc (by simp only [stepI, hm]; exact ⟨hw, k0⟩)
theorem R_s3call {x y na mc ms rc : Nat} (hc : lk I.code pc = some (.invokestatic x, nx, tg)) (hm : lk I.mth x = some (y, 3, na, mc, ms, rc)) (hw : aCats (st.drop na) ≤ 8 ∧ na ≤ st.length ∧ k + mc ≤ I.mc ∧ n + ms ≤ I.ms) (k0 : T d y (st.take na).reverse h N (aRes I Q (Run I (T d) Q) false nx pc lv (st.drop na) N (k + mc) (n + ms))) : Run I (T d) Q pc lv st h N k n := Run.go1 hc (by simp only [stepI, hm]; exact ⟨hw, k0⟩)
theorem R_ccall {x y na mc ms rc : Nat} (hc : lk I.code pc = some (.invokespecial x, nx, tg)) (hm : lk I.mth x = some (y, 2, na, mc, ms, rc)) (hrc : aRecR (st.take na).reverse) (hw : aCats (st.drop na) ≤ 8 ∧ na ≤ st.length ∧ k + mc ≤ I.mc ∧ n + ms ≤ I.ms) (k0 : T d y (st.take na).reverse h N (aRes I Q (Run I (T d) Q) false nx pc lv (st.drop na) N (k + mc) (n + ms))) : Run I (T d) Q pc lv st h N k n := Run.go1 hc (by simp only [stepI, hm]; exact ⟨hrc, ⟨hw, k0⟩⟩)
theorem R_c4call {x y na mc ms rc : Nat} (hc : lk I.code pc = some (.invokespecial x, nx, tg)) (hm : lk I.mth x = some (y, 4, na, mc, ms, rc)) (hrc : aRecR (st.take na).reverse) (hw : aCats (st.drop na) ≤ 8 ∧ na ≤ st.length ∧ k + mc ≤ I.mc ∧ n + ms ≤ I.ms) (k0 : T d y (st.take na).reverse h N (aRes I Q (Run I (T d) Q) false nx pc lv (st.drop na) N (k + mc) (n + ms))) : Run I (T d) Q pc lv st h N k n := Run.go1 hc (by simp only [stepI, hm]; exact ⟨hrc, ⟨hw, k0⟩⟩)
theorem R_objinit {x a : Nat} {q : Nat × Nat × Nat × Nat} (hc : lk I.code pc = some (.invokespecial x, nx, tg)) (hm : lk I.mth x = some (0, 5, q)) (hcat : aCats r ≤ 8) (k0 : Run I (T d) Q nx lv r h N k n) : Run I (T d) Q pc lv (vR a :: r) h N k n := Run.go1 hc (by simp only [stepI, hm]; exact ⟨hcat, k0⟩)
theorem R_copy {x a b m m' : Nat} {q : Nat × Nat × Nat × Nat} {sp dp ln : Int} {f g : Nat → Int} (hc : lk I.code pc = some (.invokestatic x, nx, tg)) (hm : lk I.mth x = some (0, 6, q)) (ha : a < N) (hb : b < N) (hcat : aCats r ≤ 8) (he : h a = eI m f) (hbe : h b = eI m' g) (hi : 0 ≤ sp ∧ 0 ≤ dp ∧ 0 ≤ ln ∧ sp + ln ≤ m ∧ dp + ln ≤ m' ∧ m < 2147483648 ∧ m' < 2147483648) (k0 : Run I (T d) Q nx lv r (va_up h b (eI m' (aCpy f g sp.toNat dp.toNat ln.toNat))) N k n) : Run I (T d) Q pc lv (vI ln :: vI dp :: vR b :: vI sp :: vR a :: r) h N k n := Run.go1 hc (by simp only [stepI, hm]; exact ⟨ha, hb, hcat, m, m', f, g, he, hbe, hi, k0⟩)
theorem R_ireturn {a : Int} (hc : lk I.code pc = some (.ireturn, nx, tg)) (hz : I.rt = 1 → a = 0 ∨ a = 1) (hk : k ≤ I.mc) (hn : n ≤ I.ms) (k0 : Q (.inl (some (vI a))) h N) : Run I (T d) Q pc lv [vI a] h N k n := Run.go1 hc ⟨hz, k0, hk, hn⟩
theorem R_lreturn {a : Int64} (hc : lk I.code pc = some (.lreturn, nx, tg)) (hk : k ≤ I.mc) (hn : n ≤ I.ms) (k0 : Q (.inl (some (vL a))) h N) : Run I (T d) Q pc lv [vL a] h N k n := Run.go1 hc ⟨k0, hk, hn⟩
theorem R_areturn {a : Option Nat} (hc : lk I.code pc = some (.areturn, nx, tg)) (hk : k ≤ I.mc) (hn : n ≤ I.ms) (k0 : Q (.inl (some (vF a))) h N) : Run I (T d) Q pc lv [vF a] h N k n := Run.go1 hc ⟨k0, hk, hn⟩
theorem R_return (hc : lk I.code pc = some (.return_, nx, tg)) (hk : k ≤ I.mc) (hn : n ≤ I.ms) (k0 : Q (.inl none) h N) : Run I (T d) Q pc lv [] h N k n := Run.go1 hc ⟨k0, hk, hn⟩
theorem T_body {y : Nat} {as : List AV} {I : MI} {lv : AL} (hI : mI y = I) (hl : (aArgs as).length ≤ mL y) (he : aEnt (mL y) as = lv) (k0 : Run I (T d) Q 0 lv [] h N 0 0) : T (d + 1) y as h N Q := ⟨hl, by rw [hI, he]; exact k0⟩
end RR
end
section
/-! ===== the law: its start, and the claim out of one pure statement ===== -/
theorem lwT1 {w : Jvm.Cond} (i : Nat) (h : tables_1_1[i]? = some w) : w ∈ lw_tbl := by
  have h := List.mem_of_getElem? h
  exact List.mem_append_right _ (show w ∈ tables_1 from (List.mem_append_left _ h))
theorem lwT2 {w : Jvm.Cond} (i : Nat) (h : tables_1_2[i]? = some w) : w ∈ lw_tbl := by
  have h := List.mem_of_getElem? h
  exact List.mem_append_right _ (show w ∈ tables_1 from (List.mem_append_right _ (List.mem_append_left _ h)))
theorem lwT3 {w : Jvm.Cond} (i : Nat) (h : tables_1_3[i]? = some w) : w ∈ lw_tbl := by
  have h := List.mem_of_getElem? h
  exact List.mem_append_right _ (show w ∈ tables_1 from (List.mem_append_right _ (List.mem_append_right _ (List.mem_append_left _ h))))
theorem lwT4 {w : Jvm.Cond} (i : Nat) (h : tables_1_4[i]? = some w) : w ∈ lw_tbl := by
  have h := List.mem_of_getElem? h
  exact List.mem_append_right _ (show w ∈ tables_1 from (List.mem_append_right _ (List.mem_append_right _ (List.mem_append_right _ (List.mem_append_left _ h)))))
theorem lwT5 {w : Jvm.Cond} (i : Nat) (h : tables_1_5[i]? = some w) : w ∈ lw_tbl := by
  have h := List.mem_of_getElem? h
  exact List.mem_append_right _ (show w ∈ tables_1 from (List.mem_append_right _ (List.mem_append_right _ (List.mem_append_right _ (List.mem_append_right _ (List.mem_append_left _ h))))))
theorem lwT6 {w : Jvm.Cond} (i : Nat) (h : tables_1_6[i]? = some w) : w ∈ lw_tbl := by
  have h := List.mem_of_getElem? h
  exact List.mem_append_right _ (show w ∈ tables_1 from (List.mem_append_right _ (List.mem_append_right _ (List.mem_append_right _ (List.mem_append_right _ (List.mem_append_right _ (h)))))))
theorem str_of {s : State} {args : Array Value} {tx : String} {k cur : Nat} (hc : s.vm.findClass RX8 = some cur) (h : (Jvm.Cond.stringRef RX8 k tx).before args s = true) : ∃ sa, vk_R RX8 k tx sa s := by
  obtain ⟨_, _, _, a, -, -, -, -, -, h9⟩ := Cond.stringRef_spec hc h
  exact ⟨a, vk_R.of h h9⟩
theorem acl_of {s : State} {args : Array Value} {ty : FieldType} (hp : ∀ C, ty ≠ .object C) (h : (Jvm.Cond.arrayClass ty).before args s = true) : ∃ cA, ArrOfT s cA ty ∧ va_RA s cA ty := by
  obtain ⟨c, k, comp, h1, h2, h3⟩ := Cond.arrayClass_spec h
  refine ⟨c, fun n z => ⟨fun k h => (by cases h), k, h2, comp, h3⟩, ?_⟩
  cases ty <;> first | exact h1 | exact absurd rfl (hp _)
theorem aov_of {s : State} {args : Array Value} {C : String} (h : (Jvm.Cond.arrayOver (.object C)).before args s = true) : ∃ cA, ArrOfT s cA (.object C) ∧ va_RA s cA (.object C) := by
  obtain ⟨comp, c, k, h1, -, h3, h4, h5⟩ := Cond.arrayOver_spec h
  exact ⟨c, fun n z => ⟨fun k h => (by cases h), k, h3, comp, h4⟩, k, comp, h3, h4, h1, h5⟩
theorem tab_of {s : State} {args : Array Value} {C n : String} {f : Nat → Int} (hl : (Jvm.Cond.laysStatic C n "[I").before args s = true) (hi : (Jvm.Cond.initialized C).before args s = true) (h1 : (Jvm.Cond.arrayOf (.static C n "[I") .int).before args s = true) (h2 : (Jvm.Cond.eq (.length (.static C n "[I")) (.int 8)).before args s = true) (h3 : ∀ j : Nat, j < 8 → (Jvm.Cond.eq (.elem (.static C n "[I") (.int (Int32.ofNat j))) (.int (iI (f j)))).before args s = true) {A : Nat → Prop} (hA : ∀ a : Nat, a < s.heap.size → ¬ A a) : ∃ t, va_Z C n "[I" (.ref t) A s s.heap ∧ va_T .int t 8 (fun j => .int (iI (f j))) A s s.heap := by
  obtain ⟨t, ht, hT⟩ := va_Tof (tm := .static C n "[I") (N := 8) (f := fun j => .int (iI (f j))) (by decide) h1 (va_eqt h2) (fun j hj => va_eqt (h3 j hj)) hA
  exact ⟨t, va_Zref hl hi ht hA, hT⟩
theorem lt8 {P : Nat → Prop} (h0 : P 0) (h1 : P 1) (h2 : P 2) (h3 : P 3) (h4 : P 4) (h5 : P 5) (h6 : P 6) (h7 : P 7) : ∀ j, j < 8 → P j := by
  intro j hj
  match j, hj with
  | 0, _ => exact h0
  | 1, _ => exact h1
  | 2, _ => exact h2
  | 3, _ => exact h3
  | 4, _ => exact h4
  | 5, _ => exact h5
  | 6, _ => exact h6
  | 7, _ => exact h7
def hLaw (L : Nat) (xs : Nat → Int32) : AH := fun k => if k = aRO then eI L (fun j => (xs j).toInt) else if k = aRO + 1 then eI 8 stepRows else if k = aRO + 2 then eI 8 stepCols else eO 0 []
def qLaw : AQ := fun r _ _ => r = .inl (some (vI 1))
theorem lw_amb {p : Program} {s : State} {m : MethodId} {meth : Method} {c : Code} {b L : Nat} {xs : Nat → Int32} (C0 : lw_At p s m meth c b L xs) : ∃ E : AEnv, Amb E s ∧ g0 E = s.heap.size ∧ gb E = b ∧ gL E = L ∧ gx E = xs := by
  obtain ⟨hx, hb, hr, hml, hown, hts, hX, hbl, hlocks, hgv⟩ := C0
  have hfl := flat_of_before _ hgv
  have hA : ∀ a : Nat, a < s.heap.size → ¬ (s.heap.size ≤ a) := fun a h => Nat.not_le.mpr h
  have hG : ∀ w ∈ wG, w.before #[Value.ref b] s = true := fun w hw => hts w (List.mem_filter.mp hw).1
  obtain ⟨c0, i0, k0⟩ := u_known (C := RX1) (T := TX1) (N := 4) (n := 4) hG cok_0.1 (hts _ (lwT1 238 (by decide +kernel)))
  obtain ⟨c1, i1, k1⟩ := u_known (C := RX2) (T := TX2) (N := 7) (n := 7) hG cok_1.1 (hts _ (lwT1 210 (by decide +kernel)))
  obtain ⟨c2, i2, k2⟩ := u_known (C := RX3) (T := TX3) (N := 5) (n := 5) hG cok_2.1 (hts _ (lwT1 184 (by decide +kernel)))
  obtain ⟨c3, i3, k3⟩ := u_known (C := RX4) (T := TX4) (N := 10) (n := 10) hG cok_3.1 (hts _ (lwT1 102 (by decide +kernel)))
  obtain ⟨c4, i4, k4⟩ := u_known (C := RX6) (T := TX6) (N := 10) (n := 10) hG cok_4.1 (hts _ (lwT1 36 (by decide +kernel)))
  obtain ⟨c5, i5, k5⟩ := u_known (C := RX7) (T := TX7) (N := 4) (n := 4) hG cok_5.1 (hts _ (lwT1 30 (by decide +kernel)))
  obtain ⟨c6, i6, k6⟩ := u_known (C := RX8) (T := TX8) (N := 6) (n := 6) hG cok_6.1 (hts _ (lwT1 22 (by decide +kernel)))
  obtain ⟨c7, i7, k7⟩ := u_known (C := RX9) (T := TX9) (N := 20) (n := 20) hG cok_7.1 (hts _ (lwT5 13 (by decide +kernel)))
  obtain ⟨cI, hI1, hI2⟩ := acl_of (s := s) (fun C h => by cases h) (hts _ (lwT1 85 (by decide +kernel)))
  obtain ⟨cZ, hZ1, hZ2⟩ := acl_of (s := s) (fun C h => by cases h) (hts _ (lwT1 182 (by decide +kernel)))
  obtain ⟨cJ, hJ1, hJ2⟩ := acl_of (s := s) (fun C h => by cases h) (hts _ (lwT6 156 (by decide +kernel)))
  have hover : (Jvm.Cond.arrayOver (.object RX6)).before #[Value.ref b] s = true := hts _ (lwT1 190 (by decide +kernel))
  obtain ⟨cS, hS1, hS2⟩ := aov_of hover
  obtain ⟨tr, zr, ar⟩ := tab_of (C := RX8) (n := "STEP_ROWS") (f := stepRows) (A := fun q => s.heap.size ≤ q) (hts _ (lwT2 165 (by decide +kernel))) (hts _ (lwT1 1 (by decide +kernel))) (hfl _ (by decide +kernel)) (hfl _ (by decide +kernel)) (lt8 (hfl _ (by decide +kernel)) (hfl _ (by decide +kernel)) (hfl _ (by decide +kernel)) (hfl _ (by decide +kernel)) (hfl _ (by decide +kernel)) (hfl _ (by decide +kernel)) (hfl _ (by decide +kernel)) (hfl _ (by decide +kernel))) hA
  obtain ⟨tcc, zcc, acc⟩ := tab_of (C := RX8) (n := "STEP_COLUMNS") (f := stepCols) (A := fun q => s.heap.size ≤ q) (hts _ (lwT2 167 (by decide +kernel))) (hts _ (lwT1 1 (by decide +kernel))) (hfl _ (by decide +kernel)) (hfl _ (by decide +kernel)) (lt8 (hfl _ (by decide +kernel)) (hfl _ (by decide +kernel)) (hfl _ (by decide +kernel)) (hfl _ (by decide +kernel)) (hfl _ (by decide +kernel)) (hfl _ (by decide +kernel)) (hfl _ (by decide +kernel)) (hfl _ (by decide +kernel))) hA
  refine ⟨((fun k => match k with
    | 0 => c0
    | 1 => c1
    | 2 => c2
    | 3 => c3
    | 4 => c4
    | 5 => c5
    | 6 => c6
    | _ => c7, fun k => match k with
    | 0 => i0
    | 1 => i1
    | 2 => i2
    | 3 => i3
    | 4 => i4
    | 5 => i5
    | 6 => i6
    | _ => i7), (cI, cZ, cJ, cS), (b, tr, tcc), (L, xs), s.heap.size), ⟨⟨Nat.le_refl _, ⟨hX, hbl, fun q => absurd q (Nat.not_le.mpr hbl)⟩, ar, acc⟩, ⟨?_, ?_⟩, va_AO.of hover, ?_, ⟨va_Nw.of rfl (hts _ (lwT2 164 (by decide +kernel))), zr⟩, ⟨va_Nw.of rfl (hts _ (lwT2 166 (by decide +kernel))), zcc⟩, ?_, ?_, ?_, ?_, ?_, ?_⟩, rfl, rfl, rfl, rfl⟩
  · intro k q hq
    match k, hq with
    | 0, hq => cases hq; exact k0
    | 1, hq => cases hq; exact k1
    | 2, hq => cases hq; exact k2
    | 3, hq => cases hq; exact k3
    | 4, hq => cases hq; exact k4
    | 5, hq => cases hq; exact k5
    | 6, hq => cases hq; exact k6
    | 7, hq => cases hq; exact k7
    | n + 8, hq => simp [vwCl] at hq
  · intro k q hq
    match k, hq with
    | 0, hq => cases hq; exact ⟨hI1, hI2⟩
    | 1, hq => cases hq; exact ⟨hZ1, hZ2⟩
    | 2, hq => cases hq; exact ⟨hJ1, hJ2⟩
    | 3, hq => cases hq; exact ⟨hS1, hS2⟩
    | n + 4, hq => simp at hq
  · exact List.forall_mem_cons.mpr ⟨va_Nw.of rfl (hts _ (lwT4 190 (by decide +kernel))), List.forall_mem_cons.mpr ⟨va_Nw.of rfl (hts _ (lwT1 191 (by decide +kernel))), List.forall_mem_cons.mpr ⟨va_Nw.of rfl (hts _ (lwT1 108 (by decide +kernel))), List.forall_mem_cons.mpr ⟨va_Nw.of rfl (hts _ (lwT1 37 (by decide +kernel))), List.forall_mem_cons.mpr ⟨va_Nw.of rfl (hts _ (lwT2 73 (by decide +kernel))), List.forall_mem_cons.mpr ⟨va_Nw.of rfl (hts _ (lwT1 31 (by decide +kernel))), List.forall_mem_cons.mpr ⟨va_Nw.of rfl (hts _ (lwT1 211 (by decide +kernel))), List.forall_mem_cons.mpr ⟨va_Nw.of rfl (hts _ (lwT1 239 (by decide +kernel))), fun _ h => absurd h List.not_mem_nil⟩⟩⟩⟩⟩⟩⟩⟩
  · exact vx_Zqof (hts _ (lwT3 116 (by decide +kernel))) (hts _ (lwT1 10 (by decide +kernel))) (hfl _ (by decide +kernel)) hA
  · exact vx_Zqof (hts _ (lwT3 118 (by decide +kernel))) (hts _ (lwT1 10 (by decide +kernel))) (hfl _ (by decide +kernel)) hA
  · exact List.forall_mem_cons.mpr ⟨str_of k6.2.1 (hts _ (lwT3 130 (by decide +kernel))), List.forall_mem_cons.mpr ⟨str_of k6.2.1 (hts _ (lwT3 170 (by decide +kernel))), List.forall_mem_cons.mpr ⟨str_of k6.2.1 (hts _ (lwT3 188 (by decide +kernel))), List.forall_mem_cons.mpr ⟨str_of k6.2.1 (hts _ (lwT3 215 (by decide +kernel))), List.forall_mem_cons.mpr ⟨str_of k6.2.1 (hts _ (lwT4 12 (by decide +kernel))), List.forall_mem_cons.mpr ⟨str_of k6.2.1 (hts _ (lwT4 48 (by decide +kernel))), List.forall_mem_cons.mpr ⟨str_of k6.2.1 (hts _ (lwT4 64 (by decide +kernel))), List.forall_mem_cons.mpr ⟨str_of k6.2.1 (hts _ (lwT4 73 (by decide +kernel))), List.forall_mem_cons.mpr ⟨str_of k6.2.1 (hts _ (lwT4 86 (by decide +kernel))), List.forall_mem_cons.mpr ⟨str_of k6.2.1 (hts _ (lwT4 107 (by decide +kernel))), List.forall_mem_cons.mpr ⟨str_of k6.2.1 (hts _ (lwT4 119 (by decide +kernel))), List.forall_mem_cons.mpr ⟨str_of k6.2.1 (hts _ (lwT4 130 (by decide +kernel))), List.forall_mem_cons.mpr ⟨str_of k6.2.1 (hts _ (lwT4 140 (by decide +kernel))), List.forall_mem_cons.mpr ⟨str_of k6.2.1 (hts _ (lwT4 166 (by decide +kernel))), List.forall_mem_cons.mpr ⟨str_of k6.2.1 (hts _ (lwT4 182 (by decide +kernel))), List.forall_mem_cons.mpr ⟨str_of k6.2.1 (hts _ (lwT4 214 (by decide +kernel))), List.forall_mem_cons.mpr ⟨str_of k6.2.1 (hts _ (lwT5 7 (by decide +kernel))), List.forall_mem_cons.mpr ⟨str_of k6.2.1 (hts _ (lwT3 238 (by decide +kernel))), List.forall_mem_cons.mpr ⟨str_of k6.2.1 (hts _ (lwT4 25 (by decide +kernel))), List.forall_mem_cons.mpr ⟨str_of k6.2.1 (hts _ (lwT4 47 (by decide +kernel))), List.forall_mem_cons.mpr ⟨str_of k6.2.1 (hts _ (lwT4 231 (by decide +kernel))), fun _ h => absurd h List.not_mem_nil⟩⟩⟩⟩⟩⟩⟩⟩⟩⟩⟩⟩⟩⟩⟩⟩⟩⟩⟩⟩⟩
  · exact List.forall_mem_cons.mpr ⟨va_Nw.of rfl (hts _ (lwT3 91 (by decide +kernel))), List.forall_mem_cons.mpr ⟨va_Nw.of rfl (hts _ (lwT3 163 (by decide +kernel))), List.forall_mem_cons.mpr ⟨va_Nw.of rfl (hts _ (lwT3 231 (by decide +kernel))), fun _ h => absurd h List.not_mem_nil⟩⟩⟩
  · exact List.forall_mem_cons.mpr ⟨List.forall_mem_cons.mpr ⟨fun n => absurd rfl n, List.forall_mem_cons.mpr ⟨fun _ => va_Nc.of (hfl _ (by decide +kernel)), List.forall_mem_cons.mpr ⟨fun _ => va_Nc.of (hfl _ (by decide +kernel)), fun _ h => absurd h List.not_mem_nil⟩⟩⟩, List.forall_mem_cons.mpr ⟨List.forall_mem_cons.mpr ⟨fun _ => va_Nc.of (hfl _ (by decide +kernel)), List.forall_mem_cons.mpr ⟨fun n => absurd rfl n, List.forall_mem_cons.mpr ⟨fun _ => va_Nc.of (hfl _ (by decide +kernel)), fun _ h => absurd h List.not_mem_nil⟩⟩⟩, List.forall_mem_cons.mpr ⟨List.forall_mem_cons.mpr ⟨fun _ => va_Nc.of (hfl _ (by decide +kernel)), List.forall_mem_cons.mpr ⟨fun _ => va_Nc.of (hfl _ (by decide +kernel)), List.forall_mem_cons.mpr ⟨fun n => absurd rfl n, fun _ h => absurd h List.not_mem_nil⟩⟩⟩, fun _ h => absurd h List.not_mem_nil⟩⟩⟩
  · exact List.forall_mem_cons.mpr ⟨va_Nw.of rfl (hts _ (lwT3 93 (by decide +kernel))), List.forall_mem_cons.mpr ⟨va_Nw.of rfl (hts _ (lwT3 95 (by decide +kernel))), List.forall_mem_cons.mpr ⟨va_Nw.of rfl (hts _ (lwT3 97 (by decide +kernel))), fun _ h => absurd h List.not_mem_nil⟩⟩⟩
theorem chk_nm {own : String} {cc : ByteArray} {nL : Nat} {nm nm' : String} {I : MI} {pc : Nat} {i : Instr} {nx : Nat} {tg : List Nat} (hp : ∀ x, i ≠ .putfield x) (h : chk own cc nL nm I pc i nx tg = true) : chk own cc nL nm' I pc i nx tg = true := by
  cases i <;> first | exact h | exact absurd rfl (hp _)
theorem law_nop : mi_L_law.code.all (fun r => match r.2.1 with
  | .putfield _ => false
  | _ => true) = true := by decide +kernel
theorem mo_law (nm : String) : MOk RL cL_law 7 nm mi_L_law [] := by
  obtain ⟨k1, k2⟩ := mo_L_law
  refine ⟨fun pc i nx tg hc ht => chk_nm (fun x hx => ?_) (k1 pc i nx tg hc ht), k2⟩
  have h1 := List.all_eq_true.mp law_nop _ (lk_mem _ hc)
  rw [hx] at h1
  cases h1
/-- the claim out of one statement about the small machine -/
theorem law_from {p : Program} {e : Env} {s : State} {m : MethodId} {below : List Frame} {meth : Method} {c : Code} (l : Launch) (hflags : l.flags = flags0) {b L : Nat} {xs : Nat → Int32} (C0 : lw_At p s m meth c b L xs) {d : Nat} (hd : d ≤ 2000) (hp : Run mi_L_law (T d) qLaw 0 (aEnt 7 [vR aRO]) [] (hLaw L xs) 0 0 0) : W p l e room_1 s m #[Value.ref b] below meth c s.heap [] 0 0 (lw_Z below #[Value.ref b] s) (entryFrame m ([Value.ref b] : List Value).toArray 7) := by
  obtain ⟨E, hA, e0, e1, e2, e3⟩ := lw_amb C0
  obtain ⟨hx, hb, hr, hml, hown, hts, hX, hbl, hlocks, hgv⟩ := C0
  have hG : ∀ w ∈ wG, w.before #[Value.ref b] s = true := fun w hw => hts w (List.mem_filter.mp hw).1
  have hst : l.stackTraces = false := by
    show Launch.stackTraces l = false
    unfold Launch.stackTraces
    rw [hflags]
    decide +kernel
  obtain ⟨ad, hd0, hd1, hd2⟩ : ∃ ad : Nat → Nat, ad aRO = gb E ∧ ad (aRO + 1) = gr E ∧ ad (aRO + 2) = gc E :=
    ⟨fun k => if k = aRO then gb E else if k = aRO + 1 then gr E else gc E, by simp, by simp, by simp⟩
  have hE : Ends p l e room_1 s m #[Value.ref b] below meth c (lw_Z below #[Value.ref b] s) E ad 0 7 mi_L_law (T d) qLaw := by
    refine ⟨fun pc lv st h N k n X hth => ?_, fun pc X h N k n ce q ad H locs ls rest _ hQ => by cases hQ, fun pc i nx tg lv st h N k n hc hi hs => ?_⟩
    · have h9 : lk mi_L_law.thr pc = none := rfl
      rw [h9] at hth
      cases hth
    · have hk := (mo_law "law").1 _ _ _ _ hc rfl
      obtain ⟨hdec, -, -⟩ := chk_spec hk (by
        intro d lo hh offs hz
        rw [hz] at hi
        rcases hi with hi | hi | hi | hi <;> cases hi)
      intro ad1 H locs ls hR hL
      rcases hi with rfl | rfl | rfl | rfl
      · simp only [stepI] at hs
        split at hs
        case h_2 => exact hs.elim
        rename_i a
        obtain ⟨-, h2, h3, h4⟩ := hs
        have h2 : (Sum.inl (some (vI a)) : ARes) = .inl (some (vI 1)) := h2
        have ha : a = 1 := by
          injection h2 with h2
          injection h2 with h2
          injection h2
        subst ha
        refine va_forget (fun q hq => ?_) ?_
        · have := hR.2.1.2.2 q hq
          have h9 : g0 E ≤ q.base := this
          rw [e0] at h9
          exact h9
        · refine W.widen (k := 601024) (n := 7293034) h3 h4 ?_
          exact lw_ret hx hb hr hlocks hdec
      · simp only [stepI] at hs
        split at hs
        case h_2 => exact hs.elim
        obtain ⟨h2, -⟩ := hs
        cases h2
      · simp only [stepI] at hs
        split at hs
        case h_2 => exact hs.elim
        obtain ⟨h2, -⟩ := hs
        cases h2
      · simp only [stepI] at hs
        split at hs
        case h_2 => exact hs.elim
        obtain ⟨h2, -⟩ := hs
        cases h2
  have hclo := am_clo (own := RL) (cc := cL_law) (nL := 7) (hh := []) (R := room_1) (Qf := lw_Z below #[Value.ref b] s) (ad0 := ad) (N0 := 0) (I := mi_L_law) (Q := qLaw) (d := d) (C := T d) (below := below) (e := e) hx hb hml hown hG cok acw hA (by show d + 9 ≤ 2048; omega) (by show 140 + 40 * d ≤ 84000; omega) (Nat.le_refl _) (Nat.le_refl _) (mo_law meth.name) (fun h => absurd rfl h) (fun y as h N Qy hc => T_sound hst E gst d y as h N Qy hc) hE
  have hP : va_P (gD E) vwCl (wl E ad (hLaw L xs) 0) s.heap := fun k q h => by simp [wl] at h
  have hD : va_D (gA E) (wl E ad (hLaw L xs) 0) := ⟨fun i j p q h => by simp [wl] at h, fun k q h => by simp [wl] at h⟩
  have hRel : Rel E s ad 0 ad (hLaw L xs) 0 s.heap [] := ⟨⟨hP, hD, Nat.zero_le _, hd0, hd1, hd2, by rw [e2, e3]; rfl, rfl, rfl⟩, va_S.rf, Nat.le_refl _, fun _ _ => rfl⟩
  have hLh := aEnt_Lh (ad := ad) (as := [vR aRO]) (nL := 7) (by decide)
  have hgo := hp _ hclo ad s.heap [] _ hRel hLh
  rw [lg_entry_eq]
  have e9 : [vR aRO].map (cv ad) = [Value.ref b] := by
    show [va_rf (some (ad aRO))] = _
    rw [hd0, e1]
    rfl
  rw [e9] at hgo
  exact hgo
end
