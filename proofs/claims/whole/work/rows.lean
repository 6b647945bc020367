section
-- ===== PART A: goes FIRST, ahead of the names: the tables' words, and 'selects' of the private methods out of them =====
/-- a private method of a class that the tables say can be made, by its rows of tables_1 -/
def lw_okq (q : MethodName × Nat) : Prop := (q.1.cls ≠ "java/lang/invoke/MethodHandle" ∧ q.1.cls ≠ "java/lang/invoke/VarHandle") ∧ Cond.instantiable q.1.cls q.2 ∈ tables_1 ∧ Cond.privateMethod q.1 ∈ tables_1 ∧ Cond.instanceMethod q.1 ∈ tables_1
theorem lw_p0 : lw_okq (⟨"BarredGrid$Puzzle", "layOut", "()V"⟩, 10) := ⟨⟨by decide +kernel, by decide +kernel⟩, List.mem_of_getElem? (i := 102) (by decide +kernel), List.mem_of_getElem? (i := 110) (by decide +kernel), List.mem_of_getElem? (i := 111) (by decide +kernel)⟩
theorem lw_p1 : lw_okq (⟨"BarredGrid$Puzzle", "addEntry", "(IZ)V"⟩, 10) := ⟨⟨by decide +kernel, by decide +kernel⟩, List.mem_of_getElem? (i := 102) (by decide +kernel), List.mem_of_getElem? (i := 133) (by decide +kernel), List.mem_of_getElem? (i := 134) (by decide +kernel)⟩
theorem lw_p2 : lw_okq (⟨"BarredGrid$TextBuffer", "goesPast", "(I)Z"⟩, 4) := ⟨⟨by decide +kernel, by decide +kernel⟩, List.mem_of_getElem? (i := 30) (by decide +kernel), List.mem_of_getElem? (i := 292) (by decide +kernel), List.mem_of_getElem? (i := 293) (by decide +kernel)⟩
theorem lw_p3 : lw_okq (⟨"BarredGrid$TextBuffer", "readSize", "()Z"⟩, 4) := ⟨⟨by decide +kernel, by decide +kernel⟩, List.mem_of_getElem? (i := 30) (by decide +kernel), List.mem_of_getElem? (i := 300) (by decide +kernel), List.mem_of_getElem? (i := 301) (by decide +kernel)⟩
theorem lw_p4 : lw_okq (⟨"BarredGrid$TextBuffer", "readCells", "()Z"⟩, 4) := ⟨⟨by decide +kernel, by decide +kernel⟩, List.mem_of_getElem? (i := 30) (by decide +kernel), List.mem_of_getElem? (i := 309) (by decide +kernel), List.mem_of_getElem? (i := 310) (by decide +kernel)⟩
theorem lw_p5 : lw_okq (⟨"BarredGrid$TextBuffer", "readBar", "(IZI)V"⟩, 4) := ⟨⟨by decide +kernel, by decide +kernel⟩, List.mem_of_getElem? (i := 30) (by decide +kernel), List.mem_of_getElem? (i := 322) (by decide +kernel), List.mem_of_getElem? (i := 323) (by decide +kernel)⟩
theorem lw_p6 : lw_okq (⟨"BarredGrid$TextBuffer", "readParts", "()Z"⟩, 4) := ⟨⟨by decide +kernel, by decide +kernel⟩, List.mem_of_getElem? (i := 30) (by decide +kernel), List.mem_of_getElem? (i := 332) (by decide +kernel), List.mem_of_getElem? (i := 333) (by decide +kernel)⟩
theorem lw_p7 : lw_okq (⟨"BarredGrid$TextBuffer", "readWord", "()Z"⟩, 4) := ⟨⟨by decide +kernel, by decide +kernel⟩, List.mem_of_getElem? (i := 30) (by decide +kernel), List.mem_of_getElem? (i := 336) (by decide +kernel), List.mem_of_getElem? (i := 337) (by decide +kernel)⟩
theorem lw_p8 : lw_okq (⟨"BarredGrid$TextBuffer", "readLine", "()Z"⟩, 4) := ⟨⟨by decide +kernel, by decide +kernel⟩, List.mem_of_getElem? (i := 30) (by decide +kernel), List.mem_of_getElem? (i := 356) (by decide +kernel), List.mem_of_getElem? (i := 357) (by decide +kernel)⟩
theorem lw_p9 : lw_okq (⟨"BarredGrid$LineSearch", "visit", "(LBarredGrid$Puzzle;II)V"⟩, 7) := ⟨⟨by decide +kernel, by decide +kernel⟩, List.mem_of_getElem? (i := 210) (by decide +kernel), List.mem_of_getElem? (i := 374) (by decide +kernel), List.mem_of_getElem? (i := 375) (by decide +kernel)⟩
theorem lw_p10 : lw_okq (⟨"BarredGrid$LineSearch", "isAllowed", "(LBarredGrid$Puzzle;II)Z"⟩, 7) := ⟨⟨by decide +kernel, by decide +kernel⟩, List.mem_of_getElem? (i := 210) (by decide +kernel), List.mem_of_getElem? (i := 378) (by decide +kernel), List.mem_of_getElem? (i := 379) (by decide +kernel)⟩
theorem lw_p11 : lw_okq (⟨"BarredGrid$LineSearch", "keepPath", "(I)V"⟩, 7) := ⟨⟨by decide +kernel, by decide +kernel⟩, List.mem_of_getElem? (i := 210) (by decide +kernel), List.mem_of_getElem? (i := 394) (by decide +kernel), List.mem_of_getElem? (i := 395) (by decide +kernel)⟩
theorem lw_p12 : lw_okq (⟨"BarredGrid$LineSearch", "visitBehind", "(LBarredGrid$Puzzle;II)V"⟩, 7) := ⟨⟨by decide +kernel, by decide +kernel⟩, List.mem_of_getElem? (i := 210) (by decide +kernel), List.mem_of_getElem? (i := 401) (by decide +kernel), List.mem_of_getElem? (i := 402) (by decide +kernel)⟩
theorem lw_p13 : lw_okq (⟨"BarredGrid$Filler", "giveFrom", "(LBarredGrid$Puzzle;I)V"⟩, 4) := ⟨⟨by decide +kernel, by decide +kernel⟩, List.mem_of_getElem? (i := 238) (by decide +kernel), List.mem_of_getElem? (i := 456) (by decide +kernel), List.mem_of_getElem? (i := 457) (by decide +kernel)⟩
theorem lw_p14 : lw_okq (⟨"BarredGrid$Filler", "agrees", "(LBarredGrid$Puzzle;II)Z"⟩, 4) := ⟨⟨by decide +kernel, by decide +kernel⟩, List.mem_of_getElem? (i := 238) (by decide +kernel), List.mem_of_getElem? (i := 460) (by decide +kernel), List.mem_of_getElem? (i := 461) (by decide +kernel)⟩
theorem lw_p15 : lw_okq (⟨"BarredGrid$Filler", "give", "(LBarredGrid$Puzzle;II)V"⟩, 4) := ⟨⟨by decide +kernel, by decide +kernel⟩, List.mem_of_getElem? (i := 238) (by decide +kernel), List.mem_of_getElem? (i := 480) (by decide +kernel), List.mem_of_getElem? (i := 481) (by decide +kernel)⟩
def lw_privs_1 : List (MethodName × Nat) := [(⟨"BarredGrid$Puzzle", "layOut", "()V"⟩, 10), (⟨"BarredGrid$Puzzle", "addEntry", "(IZ)V"⟩, 10), (⟨"BarredGrid$TextBuffer", "goesPast", "(I)Z"⟩, 4), (⟨"BarredGrid$TextBuffer", "readSize", "()Z"⟩, 4), (⟨"BarredGrid$TextBuffer", "readCells", "()Z"⟩, 4), (⟨"BarredGrid$TextBuffer", "readBar", "(IZI)V"⟩, 4), (⟨"BarredGrid$TextBuffer", "readParts", "()Z"⟩, 4), (⟨"BarredGrid$TextBuffer", "readWord", "()Z"⟩, 4), (⟨"BarredGrid$TextBuffer", "readLine", "()Z"⟩, 4), (⟨"BarredGrid$LineSearch", "visit", "(LBarredGrid$Puzzle;II)V"⟩, 7), (⟨"BarredGrid$LineSearch", "isAllowed", "(LBarredGrid$Puzzle;II)Z"⟩, 7), (⟨"BarredGrid$LineSearch", "keepPath", "(I)V"⟩, 7), (⟨"BarredGrid$LineSearch", "visitBehind", "(LBarredGrid$Puzzle;II)V"⟩, 7), (⟨"BarredGrid$Filler", "giveFrom", "(LBarredGrid$Puzzle;I)V"⟩, 4), (⟨"BarredGrid$Filler", "agrees", "(LBarredGrid$Puzzle;II)Z"⟩, 4), (⟨"BarredGrid$Filler", "give", "(LBarredGrid$Puzzle;II)V"⟩, 4)]
theorem lw_r1 : ∀ q ∈ lw_privs_1, lw_okq q := List.forall_mem_cons.mpr ⟨lw_p0, List.forall_mem_cons.mpr ⟨lw_p1, List.forall_mem_cons.mpr ⟨lw_p2, List.forall_mem_cons.mpr ⟨lw_p3, List.forall_mem_cons.mpr ⟨lw_p4, List.forall_mem_cons.mpr ⟨lw_p5, List.forall_mem_cons.mpr ⟨lw_p6, List.forall_mem_cons.mpr ⟨lw_p7, List.forall_mem_cons.mpr ⟨lw_p8, List.forall_mem_cons.mpr ⟨lw_p9, List.forall_mem_cons.mpr ⟨lw_p10, List.forall_mem_cons.mpr ⟨lw_p11, List.forall_mem_cons.mpr ⟨lw_p12, List.forall_mem_cons.mpr ⟨lw_p13, List.forall_mem_cons.mpr ⟨lw_p14, List.forall_mem_cons.mpr ⟨lw_p15, fun _ h => absurd h List.not_mem_nil⟩⟩⟩⟩⟩⟩⟩⟩⟩⟩⟩⟩⟩⟩⟩⟩
theorem lw_p16 : lw_okq (⟨"java/lang/Throwable", "fillInStackTrace", "(I)Ljava/lang/Throwable;"⟩, 6) := ⟨⟨by decide +kernel, by decide +kernel⟩, List.mem_of_getElem? (i := 608) (by decide +kernel), List.mem_of_getElem? (i := 606) (by decide +kernel), List.mem_of_getElem? (i := 607) (by decide +kernel)⟩
theorem lw_p17 : lw_okq (⟨"BarredGrid", "requireCell", "(I)V"⟩, 6) := ⟨⟨by decide +kernel, by decide +kernel⟩, List.mem_of_getElem? (i := 22) (by decide +kernel), List.mem_of_getElem? (i := 705) (by decide +kernel), List.mem_of_getElem? (i := 706) (by decide +kernel)⟩
theorem lw_p18 : lw_okq (⟨"BarredGrid", "requireEntry", "(I)V"⟩, 6) := ⟨⟨by decide +kernel, by decide +kernel⟩, List.mem_of_getElem? (i := 22) (by decide +kernel), List.mem_of_getElem? (i := 741) (by decide +kernel), List.mem_of_getElem? (i := 742) (by decide +kernel)⟩
theorem lw_p19 : lw_okq (⟨"BarredGrid", "requireWord", "(I)V"⟩, 6) := ⟨⟨by decide +kernel, by decide +kernel⟩, List.mem_of_getElem? (i := 22) (by decide +kernel), List.mem_of_getElem? (i := 763) (by decide +kernel), List.mem_of_getElem? (i := 764) (by decide +kernel)⟩
theorem lw_p20 : lw_okq (⟨"BarredGrid$Memory", "at", "(I)LBarredGrid$State;"⟩, 5) := ⟨⟨by decide +kernel, by decide +kernel⟩, List.mem_of_getElem? (i := 184) (by decide +kernel), List.mem_of_getElem? (i := 812) (by decide +kernel), List.mem_of_getElem? (i := 813) (by decide +kernel)⟩
theorem lw_p21 : lw_okq (⟨"BarredGrid", "simulateRound", "(I)V"⟩, 6) := ⟨⟨by decide +kernel, by decide +kernel⟩, List.mem_of_getElem? (i := 22) (by decide +kernel), List.mem_of_getElem? (i := 938) (by decide +kernel), List.mem_of_getElem? (i := 939) (by decide +kernel)⟩
theorem lw_p22 : lw_okq (⟨"BarredGridModel", "findEntries", "()V"⟩, 20) := ⟨⟨by decide +kernel, by decide +kernel⟩, List.mem_of_getElem? (i := 973) (by decide +kernel), List.mem_of_getElem? (i := 979) (by decide +kernel), List.mem_of_getElem? (i := 980) (by decide +kernel)⟩
theorem lw_p23 : lw_okq (⟨"BarredGridModel", "size", "()I"⟩, 20) := ⟨⟨by decide +kernel, by decide +kernel⟩, List.mem_of_getElem? (i := 973) (by decide +kernel), List.mem_of_getElem? (i := 983) (by decide +kernel), List.mem_of_getElem? (i := 984) (by decide +kernel)⟩
theorem lw_p24 : lw_okq (⟨"BarredGridModel", "endsRight", "(I)Z"⟩, 20) := ⟨⟨by decide +kernel, by decide +kernel⟩, List.mem_of_getElem? (i := 973) (by decide +kernel), List.mem_of_getElem? (i := 987) (by decide +kernel), List.mem_of_getElem? (i := 988) (by decide +kernel)⟩
theorem lw_p25 : lw_okq (⟨"BarredGridModel", "isLastColumn", "(I)Z"⟩, 20) := ⟨⟨by decide +kernel, by decide +kernel⟩, List.mem_of_getElem? (i := 973) (by decide +kernel), List.mem_of_getElem? (i := 991) (by decide +kernel), List.mem_of_getElem? (i := 992) (by decide +kernel)⟩
theorem lw_p26 : lw_okq (⟨"BarredGridModel", "endsBelow", "(I)Z"⟩, 20) := ⟨⟨by decide +kernel, by decide +kernel⟩, List.mem_of_getElem? (i := 973) (by decide +kernel), List.mem_of_getElem? (i := 995) (by decide +kernel), List.mem_of_getElem? (i := 996) (by decide +kernel)⟩
theorem lw_p27 : lw_okq (⟨"BarredGridModel", "isLastRow", "(I)Z"⟩, 20) := ⟨⟨by decide +kernel, by decide +kernel⟩, List.mem_of_getElem? (i := 973) (by decide +kernel), List.mem_of_getElem? (i := 999) (by decide +kernel), List.mem_of_getElem? (i := 1000) (by decide +kernel)⟩
theorem lw_p28 : lw_okq (⟨"BarredGridModel", "addEntry", "(III)V"⟩, 20) := ⟨⟨by decide +kernel, by decide +kernel⟩, List.mem_of_getElem? (i := 973) (by decide +kernel), List.mem_of_getElem? (i := 1003) (by decide +kernel), List.mem_of_getElem? (i := 1004) (by decide +kernel)⟩
theorem lw_p29 : lw_okq (⟨"BarredGridModel", "readText", "()I"⟩, 20) := ⟨⟨by decide +kernel, by decide +kernel⟩, List.mem_of_getElem? (i := 973) (by decide +kernel), List.mem_of_getElem? (i := 1084) (by decide +kernel), List.mem_of_getElem? (i := 1085) (by decide +kernel)⟩
theorem lw_p30 : lw_okq (⟨"BarredGridModel", "character", "(I)I"⟩, 20) := ⟨⟨by decide +kernel, by decide +kernel⟩, List.mem_of_getElem? (i := 973) (by decide +kernel), List.mem_of_getElem? (i := 1088) (by decide +kernel), List.mem_of_getElem? (i := 1089) (by decide +kernel)⟩
theorem lw_p31 : lw_okq (⟨"BarredGridModel", "readParts", "(I)I"⟩, 20) := ⟨⟨by decide +kernel, by decide +kernel⟩, List.mem_of_getElem? (i := 973) (by decide +kernel), List.mem_of_getElem? (i := 1098) (by decide +kernel), List.mem_of_getElem? (i := 1099) (by decide +kernel)⟩
def lw_privs_2 : List (MethodName × Nat) := [(⟨"java/lang/Throwable", "fillInStackTrace", "(I)Ljava/lang/Throwable;"⟩, 6), (⟨"BarredGrid", "requireCell", "(I)V"⟩, 6), (⟨"BarredGrid", "requireEntry", "(I)V"⟩, 6), (⟨"BarredGrid", "requireWord", "(I)V"⟩, 6), (⟨"BarredGrid$Memory", "at", "(I)LBarredGrid$State;"⟩, 5), (⟨"BarredGrid", "simulateRound", "(I)V"⟩, 6), (⟨"BarredGridModel", "findEntries", "()V"⟩, 20), (⟨"BarredGridModel", "size", "()I"⟩, 20), (⟨"BarredGridModel", "endsRight", "(I)Z"⟩, 20), (⟨"BarredGridModel", "isLastColumn", "(I)Z"⟩, 20), (⟨"BarredGridModel", "endsBelow", "(I)Z"⟩, 20), (⟨"BarredGridModel", "isLastRow", "(I)Z"⟩, 20), (⟨"BarredGridModel", "addEntry", "(III)V"⟩, 20), (⟨"BarredGridModel", "readText", "()I"⟩, 20), (⟨"BarredGridModel", "character", "(I)I"⟩, 20), (⟨"BarredGridModel", "readParts", "(I)I"⟩, 20)]
theorem lw_r2 : ∀ q ∈ lw_privs_2, lw_okq q := List.forall_mem_cons.mpr ⟨lw_p16, List.forall_mem_cons.mpr ⟨lw_p17, List.forall_mem_cons.mpr ⟨lw_p18, List.forall_mem_cons.mpr ⟨lw_p19, List.forall_mem_cons.mpr ⟨lw_p20, List.forall_mem_cons.mpr ⟨lw_p21, List.forall_mem_cons.mpr ⟨lw_p22, List.forall_mem_cons.mpr ⟨lw_p23, List.forall_mem_cons.mpr ⟨lw_p24, List.forall_mem_cons.mpr ⟨lw_p25, List.forall_mem_cons.mpr ⟨lw_p26, List.forall_mem_cons.mpr ⟨lw_p27, List.forall_mem_cons.mpr ⟨lw_p28, List.forall_mem_cons.mpr ⟨lw_p29, List.forall_mem_cons.mpr ⟨lw_p30, List.forall_mem_cons.mpr ⟨lw_p31, fun _ h => absurd h List.not_mem_nil⟩⟩⟩⟩⟩⟩⟩⟩⟩⟩⟩⟩⟩⟩⟩⟩
theorem lw_p32 : lw_okq (⟨"BarredGridModel", "cellsIn", "(I)I"⟩, 20) := ⟨⟨by decide +kernel, by decide +kernel⟩, List.mem_of_getElem? (i := 973) (by decide +kernel), List.mem_of_getElem? (i := 1113) (by decide +kernel), List.mem_of_getElem? (i := 1114) (by decide +kernel)⟩
theorem lw_p33 : lw_okq (⟨"BarredGridModel", "entriesOf", "(I)I"⟩, 20) := ⟨⟨by decide +kernel, by decide +kernel⟩, List.mem_of_getElem? (i := 973) (by decide +kernel), List.mem_of_getElem? (i := 1117) (by decide +kernel), List.mem_of_getElem? (i := 1118) (by decide +kernel)⟩
theorem lw_p34 : lw_okq (⟨"BarredGridModel", "bars", "()I"⟩, 20) := ⟨⟨by decide +kernel, by decide +kernel⟩, List.mem_of_getElem? (i := 973) (by decide +kernel), List.mem_of_getElem? (i := 1121) (by decide +kernel), List.mem_of_getElem? (i := 1122) (by decide +kernel)⟩
theorem lw_p35 : lw_okq (⟨"BarredGridModel", "isCell", "(I)Z"⟩, 20) := ⟨⟨by decide +kernel, by decide +kernel⟩, List.mem_of_getElem? (i := 973) (by decide +kernel), List.mem_of_getElem? (i := 1129) (by decide +kernel), List.mem_of_getElem? (i := 1130) (by decide +kernel)⟩
theorem lw_p36 : lw_okq (⟨"BarredGridModel", "isEntry", "(I)Z"⟩, 20) := ⟨⟨by decide +kernel, by decide +kernel⟩, List.mem_of_getElem? (i := 973) (by decide +kernel), List.mem_of_getElem? (i := 1137) (by decide +kernel), List.mem_of_getElem? (i := 1138) (by decide +kernel)⟩
theorem lw_p37 : lw_okq (⟨"BarredGridModel", "uncheckedIn", "(I)I"⟩, 20) := ⟨⟨by decide +kernel, by decide +kernel⟩, List.mem_of_getElem? (i := 973) (by decide +kernel), List.mem_of_getElem? (i := 1141) (by decide +kernel), List.mem_of_getElem? (i := 1142) (by decide +kernel)⟩
theorem lw_p38 : lw_okq (⟨"BarredGridModel", "cellOf", "(II)I"⟩, 20) := ⟨⟨by decide +kernel, by decide +kernel⟩, List.mem_of_getElem? (i := 973) (by decide +kernel), List.mem_of_getElem? (i := 1145) (by decide +kernel), List.mem_of_getElem? (i := 1146) (by decide +kernel)⟩
theorem lw_p39 : lw_okq (⟨"BarredGridModel", "emptyIn", "(I)I"⟩, 20) := ⟨⟨by decide +kernel, by decide +kernel⟩, List.mem_of_getElem? (i := 973) (by decide +kernel), List.mem_of_getElem? (i := 1149) (by decide +kernel), List.mem_of_getElem? (i := 1150) (by decide +kernel)⟩
theorem lw_p40 : lw_okq (⟨"BarredGridModel", "wordIn", "(I)I"⟩, 20) := ⟨⟨by decide +kernel, by decide +kernel⟩, List.mem_of_getElem? (i := 973) (by decide +kernel), List.mem_of_getElem? (i := 1153) (by decide +kernel), List.mem_of_getElem? (i := 1154) (by decide +kernel)⟩
theorem lw_p41 : lw_okq (⟨"BarredGridModel", "isFitting", "(II)Z"⟩, 20) := ⟨⟨by decide +kernel, by decide +kernel⟩, List.mem_of_getElem? (i := 973) (by decide +kernel), List.mem_of_getElem? (i := 1157) (by decide +kernel), List.mem_of_getElem? (i := 1158) (by decide +kernel)⟩
theorem lw_p42 : lw_okq (⟨"BarredGridModel", "letterOf", "(II)I"⟩, 20) := ⟨⟨by decide +kernel, by decide +kernel⟩, List.mem_of_getElem? (i := 973) (by decide +kernel), List.mem_of_getElem? (i := 1161) (by decide +kernel), List.mem_of_getElem? (i := 1162) (by decide +kernel)⟩
theorem lw_p43 : lw_okq (⟨"BarredGridModel", "isWord", "(I)Z"⟩, 20) := ⟨⟨by decide +kernel, by decide +kernel⟩, List.mem_of_getElem? (i := 973) (by decide +kernel), List.mem_of_getElem? (i := 1169) (by decide +kernel), List.mem_of_getElem? (i := 1170) (by decide +kernel)⟩
theorem lw_p44 : lw_okq (⟨"BarredGridModel", "fitsOf", "(I)I"⟩, 20) := ⟨⟨by decide +kernel, by decide +kernel⟩, List.mem_of_getElem? (i := 973) (by decide +kernel), List.mem_of_getElem? (i := 1177) (by decide +kernel), List.mem_of_getElem? (i := 1178) (by decide +kernel)⟩
theorem lw_p45 : lw_okq (⟨"BarredGridModel", "keeps", "(I)Z"⟩, 20) := ⟨⟨by decide +kernel, by decide +kernel⟩, List.mem_of_getElem? (i := 973) (by decide +kernel), List.mem_of_getElem? (i := 1188) (by decide +kernel), List.mem_of_getElem? (i := 1189) (by decide +kernel)⟩
theorem lw_p46 : lw_okq (⟨"BarredGridModel", "isTurned", "()Z"⟩, 20) := ⟨⟨by decide +kernel, by decide +kernel⟩, List.mem_of_getElem? (i := 973) (by decide +kernel), List.mem_of_getElem? (i := 1192) (by decide +kernel), List.mem_of_getElem? (i := 1193) (by decide +kernel)⟩
theorem lw_p47 : lw_okq (⟨"BarredGridModel", "isWellChecked", "()Z"⟩, 20) := ⟨⟨by decide +kernel, by decide +kernel⟩, List.mem_of_getElem? (i := 973) (by decide +kernel), List.mem_of_getElem? (i := 1196) (by decide +kernel), List.mem_of_getElem? (i := 1197) (by decide +kernel)⟩
def lw_privs_3 : List (MethodName × Nat) := [(⟨"BarredGridModel", "cellsIn", "(I)I"⟩, 20), (⟨"BarredGridModel", "entriesOf", "(I)I"⟩, 20), (⟨"BarredGridModel", "bars", "()I"⟩, 20), (⟨"BarredGridModel", "isCell", "(I)Z"⟩, 20), (⟨"BarredGridModel", "isEntry", "(I)Z"⟩, 20), (⟨"BarredGridModel", "uncheckedIn", "(I)I"⟩, 20), (⟨"BarredGridModel", "cellOf", "(II)I"⟩, 20), (⟨"BarredGridModel", "emptyIn", "(I)I"⟩, 20), (⟨"BarredGridModel", "wordIn", "(I)I"⟩, 20), (⟨"BarredGridModel", "isFitting", "(II)Z"⟩, 20), (⟨"BarredGridModel", "letterOf", "(II)I"⟩, 20), (⟨"BarredGridModel", "isWord", "(I)Z"⟩, 20), (⟨"BarredGridModel", "fitsOf", "(I)I"⟩, 20), (⟨"BarredGridModel", "keeps", "(I)Z"⟩, 20), (⟨"BarredGridModel", "isTurned", "()Z"⟩, 20), (⟨"BarredGridModel", "isWellChecked", "()Z"⟩, 20)]
theorem lw_r3 : ∀ q ∈ lw_privs_3, lw_okq q := List.forall_mem_cons.mpr ⟨lw_p32, List.forall_mem_cons.mpr ⟨lw_p33, List.forall_mem_cons.mpr ⟨lw_p34, List.forall_mem_cons.mpr ⟨lw_p35, List.forall_mem_cons.mpr ⟨lw_p36, List.forall_mem_cons.mpr ⟨lw_p37, List.forall_mem_cons.mpr ⟨lw_p38, List.forall_mem_cons.mpr ⟨lw_p39, List.forall_mem_cons.mpr ⟨lw_p40, List.forall_mem_cons.mpr ⟨lw_p41, List.forall_mem_cons.mpr ⟨lw_p42, List.forall_mem_cons.mpr ⟨lw_p43, List.forall_mem_cons.mpr ⟨lw_p44, List.forall_mem_cons.mpr ⟨lw_p45, List.forall_mem_cons.mpr ⟨lw_p46, List.forall_mem_cons.mpr ⟨lw_p47, fun _ h => absurd h List.not_mem_nil⟩⟩⟩⟩⟩⟩⟩⟩⟩⟩⟩⟩⟩⟩⟩⟩
theorem lw_p48 : lw_okq (⟨"BarredGridModel", "isWithoutPairs", "()Z"⟩, 20) := ⟨⟨by decide +kernel, by decide +kernel⟩, List.mem_of_getElem? (i := 973) (by decide +kernel), List.mem_of_getElem? (i := 1200) (by decide +kernel), List.mem_of_getElem? (i := 1201) (by decide +kernel)⟩
theorem lw_p49 : lw_okq (⟨"BarredGridModel", "isConnected", "()Z"⟩, 20) := ⟨⟨by decide +kernel, by decide +kernel⟩, List.mem_of_getElem? (i := 973) (by decide +kernel), List.mem_of_getElem? (i := 1204) (by decide +kernel), List.mem_of_getElem? (i := 1205) (by decide +kernel)⟩
theorem lw_p50 : lw_okq (⟨"BarredGridModel", "countReadings", "(ZI)I"⟩, 20) := ⟨⟨by decide +kernel, by decide +kernel⟩, List.mem_of_getElem? (i := 973) (by decide +kernel), List.mem_of_getElem? (i := 1213) (by decide +kernel), List.mem_of_getElem? (i := 1214) (by decide +kernel)⟩
theorem lw_p51 : lw_okq (⟨"BarredGridModel", "canRead", "(IIZ)Z"⟩, 20) := ⟨⟨by decide +kernel, by decide +kernel⟩, List.mem_of_getElem? (i := 973) (by decide +kernel), List.mem_of_getElem? (i := 1217) (by decide +kernel), List.mem_of_getElem? (i := 1218) (by decide +kernel)⟩
theorem lw_p52 : lw_okq (⟨"BarredGridModel", "isKnightStep", "(II)Z"⟩, 20) := ⟨⟨by decide +kernel, by decide +kernel⟩, List.mem_of_getElem? (i := 973) (by decide +kernel), List.mem_of_getElem? (i := 1221) (by decide +kernel), List.mem_of_getElem? (i := 1222) (by decide +kernel)⟩
theorem lw_p53 : lw_okq (⟨"BarredGridModel", "remember", "()V"⟩, 20) := ⟨⟨by decide +kernel, by decide +kernel⟩, List.mem_of_getElem? (i := 973) (by decide +kernel), List.mem_of_getElem? (i := 1236) (by decide +kernel), List.mem_of_getElem? (i := 1237) (by decide +kernel)⟩
theorem lw_p54 : lw_okq (⟨"BarredGridModel", "isRim", "(IZ)Z"⟩, 20) := ⟨⟨by decide +kernel, by decide +kernel⟩, List.mem_of_getElem? (i := 973) (by decide +kernel), List.mem_of_getElem? (i := 1244) (by decide +kernel), List.mem_of_getElem? (i := 1245) (by decide +kernel)⟩
theorem lw_p55 : lw_okq (⟨"BarredGridModel", "bar", "(IZI)V"⟩, 20) := ⟨⟨by decide +kernel, by decide +kernel⟩, List.mem_of_getElem? (i := 973) (by decide +kernel), List.mem_of_getElem? (i := 1248) (by decide +kernel), List.mem_of_getElem? (i := 1249) (by decide +kernel)⟩
theorem lw_p56 : lw_okq (⟨"BarredGridModel", "isLetters", "(I)Z"⟩, 20) := ⟨⟨by decide +kernel, by decide +kernel⟩, List.mem_of_getElem? (i := 973) (by decide +kernel), List.mem_of_getElem? (i := 1256) (by decide +kernel), List.mem_of_getElem? (i := 1257) (by decide +kernel)⟩
theorem lw_p57 : lw_okq (⟨"BarredGridModel", "writeWord", "(II)V"⟩, 20) := ⟨⟨by decide +kernel, by decide +kernel⟩, List.mem_of_getElem? (i := 973) (by decide +kernel), List.mem_of_getElem? (i := 1268) (by decide +kernel), List.mem_of_getElem? (i := 1269) (by decide +kernel)⟩
theorem lw_p58 : lw_okq (⟨"BarredGridModel", "eraseEntry", "(I)I"⟩, 20) := ⟨⟨by decide +kernel, by decide +kernel⟩, List.mem_of_getElem? (i := 973) (by decide +kernel), List.mem_of_getElem? (i := 1276) (by decide +kernel), List.mem_of_getElem? (i := 1277) (by decide +kernel)⟩
theorem lw_p59 : lw_okq (⟨"BarredGridModel", "canFill", "(II)Z"⟩, 20) := ⟨⟨by decide +kernel, by decide +kernel⟩, List.mem_of_getElem? (i := 973) (by decide +kernel), List.mem_of_getElem? (i := 1292) (by decide +kernel), List.mem_of_getElem? (i := 1293) (by decide +kernel)⟩
theorem lw_p60 : lw_okq (⟨"BarredGridModel", "kept", "()I"⟩, 20) := ⟨⟨by decide +kernel, by decide +kernel⟩, List.mem_of_getElem? (i := 973) (by decide +kernel), List.mem_of_getElem? (i := 1300) (by decide +kernel), List.mem_of_getElem? (i := 1301) (by decide +kernel)⟩
theorem lw_p61 : lw_okq (⟨"BarredGridModel", "change", "(IZ)V"⟩, 20) := ⟨⟨by decide +kernel, by decide +kernel⟩, List.mem_of_getElem? (i := 973) (by decide +kernel), List.mem_of_getElem? (i := 1304) (by decide +kernel), List.mem_of_getElem? (i := 1305) (by decide +kernel)⟩
theorem lw_p62 : lw_okq (⟨"BarredGridModel", "runs", "(I)Z"⟩, 20) := ⟨⟨by decide +kernel, by decide +kernel⟩, List.mem_of_getElem? (i := 973) (by decide +kernel), List.mem_of_getElem? (i := 1319) (by decide +kernel), List.mem_of_getElem? (i := 1320) (by decide +kernel)⟩
theorem lw_p63 : lw_okq (⟨"BarredGridModel", "putsLetter", "(II)Z"⟩, 20) := ⟨⟨by decide +kernel, by decide +kernel⟩, List.mem_of_getElem? (i := 973) (by decide +kernel), List.mem_of_getElem? (i := 1323) (by decide +kernel), List.mem_of_getElem? (i := 1324) (by decide +kernel)⟩
def lw_privs_4 : List (MethodName × Nat) := [(⟨"BarredGridModel", "isWithoutPairs", "()Z"⟩, 20), (⟨"BarredGridModel", "isConnected", "()Z"⟩, 20), (⟨"BarredGridModel", "countReadings", "(ZI)I"⟩, 20), (⟨"BarredGridModel", "canRead", "(IIZ)Z"⟩, 20), (⟨"BarredGridModel", "isKnightStep", "(II)Z"⟩, 20), (⟨"BarredGridModel", "remember", "()V"⟩, 20), (⟨"BarredGridModel", "isRim", "(IZ)Z"⟩, 20), (⟨"BarredGridModel", "bar", "(IZI)V"⟩, 20), (⟨"BarredGridModel", "isLetters", "(I)Z"⟩, 20), (⟨"BarredGridModel", "writeWord", "(II)V"⟩, 20), (⟨"BarredGridModel", "eraseEntry", "(I)I"⟩, 20), (⟨"BarredGridModel", "canFill", "(II)Z"⟩, 20), (⟨"BarredGridModel", "kept", "()I"⟩, 20), (⟨"BarredGridModel", "change", "(IZ)V"⟩, 20), (⟨"BarredGridModel", "runs", "(I)Z"⟩, 20), (⟨"BarredGridModel", "putsLetter", "(II)Z"⟩, 20)]
theorem lw_r4 : ∀ q ∈ lw_privs_4, lw_okq q := List.forall_mem_cons.mpr ⟨lw_p48, List.forall_mem_cons.mpr ⟨lw_p49, List.forall_mem_cons.mpr ⟨lw_p50, List.forall_mem_cons.mpr ⟨lw_p51, List.forall_mem_cons.mpr ⟨lw_p52, List.forall_mem_cons.mpr ⟨lw_p53, List.forall_mem_cons.mpr ⟨lw_p54, List.forall_mem_cons.mpr ⟨lw_p55, List.forall_mem_cons.mpr ⟨lw_p56, List.forall_mem_cons.mpr ⟨lw_p57, List.forall_mem_cons.mpr ⟨lw_p58, List.forall_mem_cons.mpr ⟨lw_p59, List.forall_mem_cons.mpr ⟨lw_p60, List.forall_mem_cons.mpr ⟨lw_p61, List.forall_mem_cons.mpr ⟨lw_p62, List.forall_mem_cons.mpr ⟨lw_p63, fun _ h => absurd h List.not_mem_nil⟩⟩⟩⟩⟩⟩⟩⟩⟩⟩⟩⟩⟩⟩⟩⟩
theorem lw_p64 : lw_okq (⟨"BarredGridModel", "setsBar", "(III)Z"⟩, 20) := ⟨⟨by decide +kernel, by decide +kernel⟩, List.mem_of_getElem? (i := 973) (by decide +kernel), List.mem_of_getElem? (i := 1327) (by decide +kernel), List.mem_of_getElem? (i := 1328) (by decide +kernel)⟩
theorem lw_p65 : lw_okq (⟨"BarredGridModel", "writes", "(II)Z"⟩, 20) := ⟨⟨by decide +kernel, by decide +kernel⟩, List.mem_of_getElem? (i := 973) (by decide +kernel), List.mem_of_getElem? (i := 1331) (by decide +kernel), List.mem_of_getElem? (i := 1332) (by decide +kernel)⟩
theorem lw_p66 : lw_okq (⟨"BarredGridModel", "erases", "(I)Z"⟩, 20) := ⟨⟨by decide +kernel, by decide +kernel⟩, List.mem_of_getElem? (i := 973) (by decide +kernel), List.mem_of_getElem? (i := 1335) (by decide +kernel), List.mem_of_getElem? (i := 1336) (by decide +kernel)⟩
def lw_privs_5 : List (MethodName × Nat) := [(⟨"BarredGridModel", "setsBar", "(III)Z"⟩, 20), (⟨"BarredGridModel", "writes", "(II)Z"⟩, 20), (⟨"BarredGridModel", "erases", "(I)Z"⟩, 20)]
theorem lw_r5 : ∀ q ∈ lw_privs_5, lw_okq q := List.forall_mem_cons.mpr ⟨lw_p64, List.forall_mem_cons.mpr ⟨lw_p65, List.forall_mem_cons.mpr ⟨lw_p66, fun _ h => absurd h List.not_mem_nil⟩⟩⟩
def lw_privs : List (MethodName × Nat) := lw_privs_1 ++ (lw_privs_2 ++ (lw_privs_3 ++ (lw_privs_4 ++ (lw_privs_5))))
def lw_tbl : List Cond := k2_sels lw_privs ++ tables_1
theorem lw_privs_ok : ∀ q ∈ lw_privs, lw_okq q := by
  show ∀ q ∈ lw_privs_1 ++ (lw_privs_2 ++ (lw_privs_3 ++ (lw_privs_4 ++ (lw_privs_5)))), lw_okq q
  exact List.forall_mem_append.mpr ⟨lw_r1, List.forall_mem_append.mpr ⟨lw_r2, List.forall_mem_append.mpr ⟨lw_r3, List.forall_mem_append.mpr ⟨lw_r4, lw_r5⟩⟩⟩⟩
-- ===== end of PART A
/-! ===== BEGIN words of one list among another's, by their places ===== -/
theorem goodIn_r {big : List Cond} (ws : List Cond) (ps : List Nat) (hp : ws = ps.filterMap (fun i => big[i]?)) (h : ws.all goodWord = true) : GoodIn big ws := by
  intro w hw
  have h1 := List.all_eq_true.mp h w hw
  rw [hp] at hw
  obtain ⟨i, -, hi⟩ := List.mem_filterMap.mp hw
  have hm : w ∈ big := by first | exact List.mem_of_getElem? hi | exact List.getElem?_mem hi
  exact ⟨hm, good_of_word h1⟩
theorem goodIn_app {big a b : List Cond} (ha : GoodIn big a) (hb : GoodIn big b) : GoodIn big (a ++ b) := fun w h => (List.mem_append.mp h).elim (ha w) (hb w)
theorem goodIn_ca {big a b : List Cond} {c : Cond} (ha : GoodIn big (c :: a)) (hb : GoodIn big b) : GoodIn big (c :: (a ++ b)) := fun w h => (List.mem_cons.mp h).elim (fun e => ha w (List.mem_cons.mpr (Or.inl e))) (fun h => (List.mem_append.mp h).elim (fun h => ha w (List.mem_cons.mpr (Or.inr h))) (hb w))
theorem goodIn_sub {big ws : List Cond} (hm : ∀ w ∈ ws, w ∈ big) (h : ws.all goodWord = true) : GoodIn big ws := fun w hw => ⟨hm w hw, good_of_word (List.all_eq_true.mp h w hw)⟩
/-! ===== END ===== -/

/-! ===== BEGIN exceptions that leave a method, and their catching by the caller (launches without stack traces) ===== -/
section VXA
/-! The laws vx_back, vx_callV, vx_callS, vx_callSW, vx_throw0, vx_throwS follow proofs of the library, with one case more: JvmDerived/Free/Laws.lean (Back.of_free), Shelf42/LK1.lean (callV, callS), Shelf/KitTraced.lean (throwNew0V, throwNewS). -/
/-- where a method has thrown q: the class by its name, the cell, what was written, the world -/
def vx_T (XC : String → State → State → Prop) (st : State) (q : Addr) (t : State) (mc ms : Nat) (free : Addr → Prop) : Prop :=
  ∃ (E : String) (ce : Cell) (L : List Loc), XC E st t ∧ t.heap[q]? = some ce ∧ ce.vm = .none ∧ st.vm.findClass E = some ce.cls ∧ st.WarmedH t.vm ∧ st.sameButNew ({ t with vm := st.vm } : State) L mc ms ∧ ∀ z ∈ L, free z.base
def vx_Q (Qc : Array Value → State → Outcome → State → Prop) (XC : String → State → State → Prop) (mc ms : Nat) (free : Addr → Prop) : Array Value → State → Outcome → State → Prop := fun a st o t =>
  (Qc a st o t ∧ ∃ L, FrameEnd st o t L mc ms ∧ ∀ q ∈ L, free q.base) ∨ ∃ q, o = .threw q ∧ vx_T XC st q t mc ms free
/-- a callee that returns or throws -/
def vx_Met (l : Launch) (y : MethodName) (ws : List Cond) (rm : Room) (Pc : Array Value → State → Prop) (Qc : Array Value → State → Outcome → State → Prop) (XC : String → State → State → Prop) (mc ms : Nat) (free : Addr → Prop) : Prop :=
  MetFree l y (headSpec ws rm) Pc (fun _ _ _ _ _ => True) (vx_Q Qc XC mc ms free)
def vx_Post (XC : String → State → State → Prop) (mc ms : Nat) (free : Addr → Prop) : Pt → Array Value → Addr → Pt → Prop := fun A a q B =>
  ∃ (g : JFrame) (mk : MethodId) (t : State) (L : List Loc) (E : String) (ce : Cell), B.U.heap = t.heap ∧ B.U.vm = t.vm ∧ XC E (A.U.calling g mk a) t ∧ t.heap[q]? = some ce ∧ ce.vm = .none ∧ A.U.vm.findClass E = some ce.cls ∧ B.locs = A.locs ++ L ∧ (∀ z ∈ L, free z.base) ∧ B.cells = A.cells + mc ∧ B.slots = A.slots + ms
def vx_Back (l : Launch) (R : Room) (p : Program) (e : Env) (below : List Frame) (s : State) (sargs : Array Value) (y : MethodName) (len W9 : Nat)
    (Pre : Pt → Array Value → Prop) (Post : Pt → Array Value → Option Value → Pt → Prop) (PostX : Pt → Array Value → Addr → Pt → Prop) : Prop :=
  ∀ (m : MethodId) (meth : Method) (c : Code) (A : Pt) (g : JFrame) (ig : Instr) (mk : MethodId) (a : Array Value),
    Stand p l e R s m sargs below meth c A.U A.locs A.cells A.slots → g.method = m → g.locals.size = c.maxLocals → decode c.code g.pc = .ok (ig, len) →
    2 * g.monitorRoom + (g.stack.map fun v => v.category).sum ≤ W9 → A.U.methodNamed? y = some mk → Pre A a →
    (∃ (v : Option Value) (B : Pt), Stand p l e R s m sargs below meth c B.U B.locs B.cells B.slots ∧ Post A a v B ∧
      Steps p.tables e below (doInvoke e (A.U.setTop g) [] mk a).1 (B.U.setTop { g with pc := g.pc + len, stack := v.toList ++ g.stack })) ∨
    (∃ (q : Addr) (B : Pt), Stand p l e R s m sargs below meth c B.U B.locs B.cells B.slots ∧ PostX A a q B ∧
      Steps p.tables e below (doInvoke e (A.U.setTop g) [] mk a).1 ((B.U.setTop g).pushFrame (.throwing q)))
section Payer
variable {l : Launch} {R : Room} {p : Program} {e : Env} {below : List Frame} {s : State} {sargs : Array Value} {y : MethodName} {len W9 : Nat}
theorem vx_back {ws : List Cond} {rm : Room} {Pc : Array Value → State → Prop} {Qc : Array Value → State → Outcome → State → Prop} {XC : String → State → State → Prop} {mc ms : Nat} {free : Addr → Prop} {bytes : ByteArray} {maxL : Nat} {ret : Option FieldType}
    (hM : vx_Met l y ws rm Pc Qc XC mc ms free) (hblind : FrameBlind Pc) (hrc : rm.cells = mc) (hrs : rm.slots = ms)
    (hframes : rm.frames + 1 ≤ R.frames) (hlocals : W9 + (maxL + 11) + rm.locals ≤ R.locals)
    (hws : ∀ w ∈ ws, ∀ a' U, s.WarmedH U.vm → w.before a' U = true) (hcode : Cond.code y bytes maxL ret ∈ ws) (hinit : ∀ a' U, s.WarmedH U.vm → (Cond.initialized y.cls).before a' U = true) :
    vx_Back l R p e below s sargs y len W9 (PreOf R mc ms Pc) (PostOf Qc mc ms free) (vx_Post XC mc ms free) := by
  intro m meth c A g ig mk a X hg hsize hdg hW hn hp
  have h1 : (headSpec ws rm).pre.before a A.U = true := atoms_intro fun w hw => hws w hw _ _ X.warmed
  have h2 : (Cond.code y bytes maxL ret).before a A.U = true := hws _ hcode _ _ X.warmed
  have h3 : (Cond.initialized y.cls).before a A.U = true := hinit _ _ X.warmed
  have h4 : A.cells + (headSpec ws rm).room.cells ≤ R.cells := by rw [show (headSpec ws rm).room.cells = mc from hrc]; exact hp.1
  have h5 : A.slots + (headSpec ws rm).room.slots ≤ R.slots := by rw [show (headSpec ws rm).room.slots = ms from hrs]; exact hp.2.1
  have hPc : Pc a (A.U.calling g mk a) := hblind _ _ _ _ hp.2.2
  obtain ⟨U, Ls, c0, s0⟩ := A
  dsimp only [Pt.U, Pt.locs, Pt.cells, Pt.slots] at h1 h2 h3 h4 h5 X hn hPc ⊢
  obtain ⟨methY, cY, hmY, hcY, -, hlY, -, -, -, -⟩ := Cond.code_spec hn h2
  obtain ⟨kY, hkY, -⟩ := className_of_methodNamed hn
  have hinitY : kY.init = .initialized := Cond.initialized_spec (findClass_of_methodNamed hn) hkY h3
  have h : At U g.method c below := by rw [hg]; exact X.here
  have hlocals9 : W9 + (maxL + 11) + (headSpec ws rm).room.locals ≤ R.locals := hlocals
  have happ : (headSpec ws rm).appliesLoose y e.platform (U.calling g mk a) = true :=
    Spec.appliesLoose_calling (g := g) h hdg hn hkY hinitY
      (X.room_calling (g := g) (R' := (headSpec ws rm).room) hsize hmY hcY hframes (by rw [hlY]; omega) h4 h5) h1
  obtain ⟨mid, hmid⟩ := h.above
  have hfr : (U.setTop g).frames = (.java g :: mid) ++ below := by rw [State.frames_setTop' g h.top, hmid]; rfl
  obtain ⟨o, s₂, hsteps, -, hend, hq⟩ := Steps.callFree hM p X.admits X.cas X.clock (acts := []) hfr happ hPc trivial
  have hq' : vx_Q Qc XC mc ms free a (U.calling g mk a) o s₂ := hq
  rw [State.frames_setTop' g h.top] at hend
  obtain ⟨g₀, hg0⟩ := Option.isSome_iff_exists.mp h.top
  obtain ⟨r, hr⟩ := State.topJava?_eq_some.mp hg0
  have hr' : (({ U with heap := s₂.heap, slotsUsed := s₂.slotsUsed } : State).setVm s₂.vm).frames = .java g₀ :: r := hr
  rcases hq' with ⟨hqc, L, hfe, hL⟩ | ⟨q, rfl, E, ce, L, hx, hce, hcv, hcl, hW₂, hsm, hL⟩
  · obtain ⟨⟨v, rfl⟩, hW₂, e2, q2, q3, q4, q5, q6⟩ := id hfe
    have e3 : s₂ = ({ (U.calling g mk a).setFrames s₂.frames with heap := s₂.heap, slotsUsed := s₂.slotsUsed } : State).setVm s₂.vm := by
      have : s₂ = ({ s₂ with vm := (U.calling g mk a).vm } : State).setVm s₂.vm := rfl
      rw [e2] at this
      exact this
    obtain ⟨c₂, i₂, len₂, hc₂, hd₂, hf₂⟩ := hend
    have hW' : U.WarmedH s₂.vm := hW₂
    have hcc : c₂ = c := by
      have h1 : s₂.code? g.method = U.code? g.method := by
        rw [State.code?_eq, State.code?_eq, hW'.alike.method?]
      exact Option.some.inj (hc₂.symm.trans (h1.trans h.code))
    subst hcc
    have hlen : len₂ = len := by rw [hdg] at hd₂; cases hd₂; rfl
    subst hlen
    have hs₂ : s₂ = (({ U with heap := s₂.heap, slotsUsed := s₂.slotsUsed } : State).setVm s₂.vm).setTop { g with pc := g.pc + len₂, stack := v.toList ++ g.stack } := by
      refine e3.trans ?_
      rw [hf₂, State.calling_eq h.top, State.setFrames_setFrames, State.setTop_of_frames _ hr', hr]
      rfl
    have hsame : U.sameButNew ({ U with heap := s₂.heap, slotsUsed := s₂.slotsUsed } : State) L mc ms := by
      refine ⟨?_, q2, q3, q4, q5, q6⟩
      obtain ⟨t, ht, -⟩ := State.frames_cons hr
      show ({ U with heap := s₂.heap, slotsUsed := s₂.slotsUsed } : State) = { U.setFrames U.frames with heap := s₂.heap, slotsUsed := s₂.slotsUsed }
      rw [State.setFrames_self ht]
    subst hg
    refine Or.inl ⟨v, ⟨(({ U with heap := s₂.heap, slotsUsed := s₂.slotsUsed } : State).setVm s₂.vm), Ls ++ L, c0 + mc, s0 + ms⟩,
      ⟨X.admits, X.cas, X.clock, X.frames, X.room, X.hears, X.method, X.code, (X.here.setHeapUsed s₂.heap s₂.slotsUsed).setVm hW'.alike, X.tail, State.WarmedH.trans X.warmed hW', X.limits, X.bytes, X.same.trans (hsame.setVm s.vm)⟩,
      ⟨g, mk, s₂, L, rfl, rfl, hqc, rfl, hL, rfl, rfl⟩, ?_⟩
    show Steps p.tables e below _ ((({ U with heap := s₂.heap, slotsUsed := s₂.slotsUsed } : State).setVm s₂.vm).setTop { g with pc := g.pc + len₂, stack := v.toList ++ g.stack })
    rw [← hs₂]
    exact hsteps
  · obtain ⟨e2, q2, q3, q4, q5, q6⟩ := id hsm
    have e3 : s₂ = ({ (U.calling g mk a).setFrames s₂.frames with heap := s₂.heap, slotsUsed := s₂.slotsUsed } : State).setVm s₂.vm := by
      have : s₂ = ({ s₂ with vm := (U.calling g mk a).vm } : State).setVm s₂.vm := rfl
      rw [e2] at this
      exact this
    have hf₂ : s₂.frames = .throwing q :: .java g :: U.frames.tail := hend
    have hW' : U.WarmedH s₂.vm := hW₂
    have hs₂ : s₂ = ((({ U with heap := s₂.heap, slotsUsed := s₂.slotsUsed } : State).setVm s₂.vm).setTop g).pushFrame (.throwing q) := by
      refine e3.trans ?_
      rw [hf₂, State.calling_eq h.top, State.setFrames_setFrames, State.pushFrame, State.frames_setTop _ hr', State.setTop_of_frames _ hr', State.setFrames_setFrames, hr]
      rfl
    have hsame : U.sameButNew ({ U with heap := s₂.heap, slotsUsed := s₂.slotsUsed } : State) L mc ms := by
      refine ⟨?_, q2, q3, q4, q5, q6⟩
      obtain ⟨t, ht, -⟩ := State.frames_cons hr
      show ({ U with heap := s₂.heap, slotsUsed := s₂.slotsUsed } : State) = { U.setFrames U.frames with heap := s₂.heap, slotsUsed := s₂.slotsUsed }
      rw [State.setFrames_self ht]
    subst hg
    refine Or.inr ⟨q, ⟨(({ U with heap := s₂.heap, slotsUsed := s₂.slotsUsed } : State).setVm s₂.vm), Ls ++ L, c0 + mc, s0 + ms⟩,
      ⟨X.admits, X.cas, X.clock, X.frames, X.room, X.hears, X.method, X.code, (X.here.setHeapUsed s₂.heap s₂.slotsUsed).setVm hW'.alike, X.tail, State.WarmedH.trans X.warmed hW', X.limits, X.bytes, X.same.trans (hsame.setVm s.vm)⟩,
      ⟨g, mk, s₂, L, E, ce, rfl, rfl, hx, hce, hcv, hcl, rfl, hL, rfl, rfl⟩, ?_⟩
    show Steps p.tables e below _ (((({ U with heap := s₂.heap, slotsUsed := s₂.slotsUsed } : State).setVm s₂.vm).setTop g).pushFrame (.throwing q))
    rw [← hs₂]
    exact hsteps
end Payer
section Calls
variable {p : Program} {l : Launch} {e : Env} {R : Room} {s : State} {m : MethodId} {args : Array Value} {below : List Frame} {meth : Method} {c : Code} {T : State} {locs : List Loc} {cells slots : Nat}
theorem vx_callV (X : Stand p l e R s m args below meth c T locs cells slots) (hexec : p.tables.exec = Jvm.exec) {own C : String} {index : Nat} {y : MethodName} {bytes : ByteArray} {maxL : Nat} {ret : Option FieldType}
    (hown : s.vm.findClass own = some m.cls) (hlink : (Cond.methodLink own index y).before args s = true) (hinst : (Cond.instanceMethod y).before args s = true) (hsel : (Cond.selects C y y).before args s = true)
    (hcode : (Cond.code y bytes maxL ret).before args s = true) (hy : y.cls ≠ "java/lang/invoke/MethodHandle" ∧ y.cls ≠ "java/lang/invoke/VarHandle")
    {W9 : Nat} {Pre : Pt → Array Value → Prop} {Post : Pt → Array Value → Option Value → Pt → Prop} {PostX : Pt → Array Value → Addr → Pt → Prop} (hK : vx_Back l R p e below s args y 3 W9 Pre Post PostX)
    {b : Addr} {cellB : Cell} (hcell : T.heap[b]? = some cellB) (hobj : cellB.vm.isStatics = false) (hcls : s.vm.findClass C = some cellB.cls)
    {g : JFrame} (hg : g.method = m) (hsize : g.locals.size = c.maxLocals) {argsL rest : List Value} (hlen : ∀ sig, parseMethodDescriptor y.desc = some sig → argsL.length = sig.parameters.length)
    (hstack : g.stack = argsL.reverse ++ .ref b :: rest) (hW : 2 * g.monitorRoom + (rest.map fun v => v.category).sum ≤ W9) (hdg : decode c.code g.pc = .ok (.invokevirtual index, 3))
    (hpre : ∀ vm₁, s.WarmedH vm₁ → Pre ⟨T.setVm vm₁, locs, cells, slots⟩ (Value.ref b :: argsL).toArray) :
    (∃ (v : Option Value) (vm₁ : Vm) (B : Pt), s.WarmedH vm₁ ∧ Stand p l e R s m args below meth c B.U B.locs B.cells B.slots ∧ Post ⟨T.setVm vm₁, locs, cells, slots⟩ (Value.ref b :: argsL).toArray v B ∧
      ∀ target, Steps p.tables e below (B.U.setTop { g with pc := g.pc + 3, stack := v.toList ++ rest }) target → Steps p.tables e below (T.setTop g) target) ∨
    (∃ (q : Addr) (vm₁ : Vm) (B : Pt), s.WarmedH vm₁ ∧ Stand p l e R s m args below meth c B.U B.locs B.cells B.slots ∧ PostX ⟨T.setVm vm₁, locs, cells, slots⟩ (Value.ref b :: argsL).toArray q B ∧
      Steps p.tables e below (T.setTop g) ((B.U.setTop { g with stack := rest }).pushFrame (.throwing q))) := by
  obtain ⟨mk, methM, hnamed, hmethM, hstM, habM⟩ := Cond.instanceMethod_spec hinst
  obtain ⟨methM', cM, hmethM', -, -, -, -, -, -, hsigM⟩ := Cond.code_spec hnamed hcode
  cases hmethM.symm.trans hmethM'
  obtain ⟨c2, r2, m2, q1, q2, q3, q4, kP, hkP, hkPi⟩ := Cond.selects_spec hsel
  cases hcls.symm.trans q1
  cases (State.methodFound?_of_named hnamed hy).symm.trans q2
  cases hnamed.symm.trans q3
  have hselP : selectMethod e.platform s.vm cellB.cls mk = .method mk := by rw [Launch.admits_selectMethod X.admits]; exact q4
  obtain ⟨vm₁, X₁, hstep₁⟩ := X.invokevirtual hexec hown hlink hnamed hmethM hstM hkP hkPi hy (a := b) (cell := cellB) hcell
    (fun z h => by rw [h] at hobj; cases hobj) hselP hmethM habM hkP hkPi (g := g) hg (argsL := argsL) (rest := rest) (hlen _ hsigM) hstack hdg
  rcases hK m meth c ⟨T.setVm vm₁, locs, cells, slots⟩ { g with stack := rest } (.invokevirtual index) mk (Value.ref b :: argsL).toArray X₁ hg hsize hdg hW (X₁.named hnamed) (hpre vm₁ X₁.warmed) with ⟨v, B, X', hpost, hsteps⟩ | ⟨q, B, X', hpost, hsteps⟩
  · exact Or.inl ⟨v, vm₁, B, X₁.warmed, X', hpost, fun target h => hstep₁ _ fun acts => by rw [doInvoke_state]; exact hsteps.trans h⟩
  · exact Or.inr ⟨q, vm₁, B, X₁.warmed, X', hpost, hstep₁ _ fun acts => by rw [doInvoke_state]; exact hsteps⟩
theorem vx_callS (X : Stand p l e R s m args below meth c T locs cells slots) (hexec : p.tables.exec = Jvm.exec) {own : String} {index : Nat} {y : MethodName} {bytes : ByteArray} {maxL : Nat} {ret : Option FieldType}
    (hown : s.vm.findClass own = some m.cls) (hlink : (Cond.methodLink own index y).before args s = true) (hstat : (Cond.static y).before args s = true) (hinit : (Cond.initialized y.cls).before args s = true)
    (hcode : (Cond.code y bytes maxL ret).before args s = true) (hy : y.cls ≠ "java/lang/invoke/MethodHandle" ∧ y.cls ≠ "java/lang/invoke/VarHandle")
    {W9 : Nat} {Pre : Pt → Array Value → Prop} {Post : Pt → Array Value → Option Value → Pt → Prop} {PostX : Pt → Array Value → Addr → Pt → Prop} (hK : vx_Back l R p e below s args y 3 W9 Pre Post PostX)
    {g : JFrame} (hg : g.method = m) (hsize : g.locals.size = c.maxLocals) {argsL rest : List Value} (hlen : ∀ sig, parseMethodDescriptor y.desc = some sig → argsL.length = sig.parameters.length)
    (hstack : g.stack = argsL.reverse ++ rest) (hW : 2 * g.monitorRoom + (rest.map fun v => v.category).sum ≤ W9) (hdg : decode c.code g.pc = .ok (.invokestatic index, 3))
    (hpre : ∀ vm₁, s.WarmedH vm₁ → Pre ⟨T.setVm vm₁, locs, cells, slots⟩ argsL.toArray) :
    (∃ (v : Option Value) (vm₁ : Vm) (B : Pt), s.WarmedH vm₁ ∧ Stand p l e R s m args below meth c B.U B.locs B.cells B.slots ∧ Post ⟨T.setVm vm₁, locs, cells, slots⟩ argsL.toArray v B ∧
      ∀ target, Steps p.tables e below (B.U.setTop { g with pc := g.pc + 3, stack := v.toList ++ rest }) target → Steps p.tables e below (T.setTop g) target) ∨
    (∃ (q : Addr) (vm₁ : Vm) (B : Pt), s.WarmedH vm₁ ∧ Stand p l e R s m args below meth c B.U B.locs B.cells B.slots ∧ PostX ⟨T.setVm vm₁, locs, cells, slots⟩ argsL.toArray q B ∧
      Steps p.tables e below (T.setTop g) ((B.U.setTop { g with stack := rest }).pushFrame (.throwing q))) := by
  obtain ⟨mk, hnamed⟩ := Cond.code_named hcode
  obtain ⟨methM, cM, hmethM, -, -, -, -, -, -, hsigM⟩ := Cond.code_spec hnamed hcode
  have hstatic : methM.isStatic = true := Cond.static_spec hnamed hmethM hstat
  obtain ⟨kP, hkP, -⟩ := className_of_methodNamed hnamed
  have hinitP : kP.init = .initialized := Cond.initialized_spec (findClass_of_methodNamed hnamed) hkP hinit
  obtain ⟨vm₁, X₁, hstep₁⟩ := X.invokestatic hexec hown hlink hnamed hmethM hstatic hkP hinitP hy (g := g) hg (argsL := argsL) (rest := rest) (hlen _ hsigM) hstack hdg
  rcases hK m meth c ⟨T.setVm vm₁, locs, cells, slots⟩ { g with stack := rest } (.invokestatic index) mk argsL.toArray X₁ hg hsize hdg hW (X₁.named hnamed) (hpre vm₁ X₁.warmed) with ⟨v, B, X', hpost, hsteps⟩ | ⟨q, B, X', hpost, hsteps⟩
  · exact Or.inl ⟨v, vm₁, B, X₁.warmed, X', hpost, fun target h => hstep₁ _ fun acts => by rw [doInvoke_state]; exact hsteps.trans h⟩
  · exact Or.inr ⟨q, vm₁, B, X₁.warmed, X', hpost, hstep₁ _ fun acts => by rw [doInvoke_state]; exact hsteps⟩
end Calls
theorem vx_cls {s : State} {T : State} {vm₁ : Vm} {E : String} {k : ClassId} (hW : s.WarmedH vm₁) (h : (T.setVm vm₁).vm.findClass E = some k) : s.vm.findClass E = some k := by
  have h1 : vm₁.findClass E = some k := h
  rw [hW.alike.findClass] at h1
  exact h1
/-- the method's frame g, with q thrown over it -/
def vx_W (p : Program) (l : Launch) (e : Env) (R : Room) (s : State) (m : MethodId) (args : Array Value) (below : List Frame) (meth : Method) (c : Code) (H : Heap) (locs : List Loc) (cells slots : Nat) (Q : State → Prop) (g : JFrame) (q : Addr) : Prop :=
  ∀ T : State, T.heap = H → Stand p l e R s m args below meth c T locs cells slots → ∃ t, Steps p.tables e below ((T.setTop g).pushFrame (.throwing q)) t ∧ Q t
def vx_Run (p : Program) (l : Launch) (e : Env) (R : Room) (s : State) (m : MethodId) (args : Array Value) (below : List Frame) (meth : Method) (c : Code) (H : Heap) (locs : List Loc) (cells slots mc ms : Nat) (g : JFrame) (rest : List Value) (Qa : State → Outcome → State → Prop) (XC : String → State → State → Prop) (free : Addr → Prop) : Prop :=
  ∀ T : State, T.heap = H → Stand p l e R s m args below meth c T locs cells slots →
    (∃ (v : Option Value) (st₀ t T' : State) (L : List Loc), st₀.heap = H ∧ Stand p l e R s m args below meth c T' (locs ++ L) (cells + mc) (slots + ms) ∧ (∀ q ∈ L, free q.base) ∧ T'.heap = t.heap ∧ T'.vm = t.vm ∧ Qa st₀ (.returned v) t ∧
      Goes p e below T g T' { g with pc := g.pc + 3, stack := v.toList ++ rest }) ∨
    (∃ (q : Addr) (st₀ t T' : State) (L : List Loc) (E : String) (ce : Cell), st₀.heap = H ∧ Stand p l e R s m args below meth c T' (locs ++ L) (cells + mc) (slots + ms) ∧ (∀ z ∈ L, free z.base) ∧ T'.heap = t.heap ∧ T'.vm = t.vm ∧ XC E st₀ t ∧ t.heap[q]? = some ce ∧ ce.vm = .none ∧ s.vm.findClass E = some ce.cls ∧
      Steps p.tables e below (T.setTop g) ((T'.setTop { g with stack := rest }).pushFrame (.throwing q)))
def vx_X {S : Type} (px : S → Prop) (B : String → S → State → Prop) (A : Nat → Prop) : String → State → State → Prop := fun E st t => ∃ u : S, px u ∧ B E u t ∧ va_F A st t
section Runs
variable {p : Program} {l : Launch} {e : Env} {R : Room} {s : State} {m : MethodId} {args : Array Value} {below : List Frame} {meth : Method} {c : Code} {H : Heap} {locs : List Loc} {cells slots : Nat}
variable {y : MethodName} {bytes cc : ByteArray} {maxL nL mc ms n index : Nat} {ret : Option FieldType} {ws : List Cond} {rm : Room} {Pc : Array Value → State → Prop} {Qc : Array Value → State → Outcome → State → Prop} {XC : String → State → State → Prop} {free : Addr → Prop} {Ts : List Cond} {own C : String} {b : Addr} {As rest : List Value} {g : JFrame}
theorem vx_callBack (cb : CallB R s args own index y bytes maxL ret ws rm mc ms n) (hM : vx_Met l y ws rm Pc Qc XC mc ms free) (hbl : FrameBlind Pc) : vx_Back l R p e below s args y 3 8 (PreOf R mc ms Pc) (PostOf Qc mc ms free) (vx_Post XC mc ms free) := by
  obtain ⟨hrc, hrs, hfr, hlo, hws, hcw, -, hini, -⟩ := cb
  exact vx_back (bytes := bytes) (maxL := maxL) (ret := ret) hM hbl hrc hrs hfr hlo hws hcw (fun a' U hW => word_at hW (Or.inl (by first | rfl | simp [Cond.onTables, Cond.keeps, Cond.steady])) hini)
theorem vx_runV (S : CallFix p m c cc nL s args Ts own) (hM : vx_Met l y ws rm Pc Qc XC mc ms free) (cw : CallW R s args own C index y bytes maxL ret ws rm mc ms n) (hp : PreV s H C b Pc As)
    (hg : g.method = m) (hn : As.length = n) (hsize : g.locals.size = nL) (hstack : g.stack = As.reverse ++ .ref b :: rest) (hW : 2 * g.monitorRoom + (rest.map fun v => v.category).sum ≤ 8) (hdg : decode cc g.pc = .ok (.invokevirtual index, 3)) (hf : cells + mc ≤ R.cells ∧ slots + ms ≤ R.slots) :
    vx_Run p l e R s m args below meth c H locs cells slots mc ms g rest (Qc (Value.ref b :: As).toArray) XC free := by
  have hK : vx_Back l R p e below s args y 3 8 (PreOf R mc ms Pc) (PostOf Qc mc ms free) (vx_Post XC mc ms free) := vx_callBack cw.1 hM hp.1
  obtain ⟨⟨-, -, -, -, -, -, hcode, -, hy, hlen, hl⟩, hin, hse⟩ := cw
  obtain ⟨hx, hb, hml, ho, -⟩ := S
  obtain ⟨-, ⟨cellB, hcB, hoB, hclB⟩, hPc⟩ := hp
  intro T hT X
  rcases vx_callV X hx (C := C) (bytes := bytes) (maxL := maxL) (ret := ret) ho hl hin hse hcode hy hK (by rw [hT]; exact hcB) hoB hclB hg (hsize.trans hml.symm) (argsL := As) (rest := rest) (fun sig h => hn.trans (hlen sig h)) hstack hW (by rw [hb]; exact hdg)
    (fun vm₁ hW₁ => ⟨hf.1, hf.2, hPc (T.setVm vm₁) hT hW₁⟩) with ⟨v, vm₁, ⟨U', l2, c2, s2⟩, hW₁, X', ⟨g', mk, t, L, e1, e2, hq, h1, hL, h2, h3⟩, st⟩ | ⟨q, vm₁, ⟨U', l2, c2, s2⟩, hW₁, X', ⟨g', mk, t, L, E, ce, e1, e2, hq, hce, hcv, hcl, h1, hL, h2, h3⟩, st⟩
  · dsimp only [Pt.U, Pt.locs, Pt.cells, Pt.slots] at X' e1 e2 h1 h2 h3 st
    subst h1; subst h2; subst h3
    exact Or.inl ⟨v, (T.setVm vm₁).calling g' mk (Value.ref b :: As).toArray, t, U', L, hT, X', hL, e1, e2, hq, st⟩
  · dsimp only [Pt.U, Pt.locs, Pt.cells, Pt.slots] at X' e1 e2 h1 h2 h3 st hcl
    subst h1; subst h2; subst h3
    exact Or.inr ⟨q, (T.setVm vm₁).calling g' mk (Value.ref b :: As).toArray, t, U', L, E, ce, hT, X', hL, e1, e2, hq, hce, hcv, vx_cls hW₁ hcl, st⟩
theorem vx_runS (S : CallFix p m c cc nL s args Ts own) (hM : vx_Met l y ws rm Pc Qc XC mc ms free) (cw : CallB R s args own index y bytes maxL ret ws rm mc ms n ∧ (Cond.static y).before args s = true) (hp : PreS s H Pc As)
    (hg : g.method = m) (hn : As.length = n) (hsize : g.locals.size = nL) (hstack : g.stack = As.reverse ++ rest) (hW : 2 * g.monitorRoom + (rest.map fun v => v.category).sum ≤ 8) (hdg : decode cc g.pc = .ok (.invokestatic index, 3)) (hf : cells + mc ≤ R.cells ∧ slots + ms ≤ R.slots) :
    vx_Run p l e R s m args below meth c H locs cells slots mc ms g rest (Qc As.toArray) XC free := by
  have hK : vx_Back l R p e below s args y 3 8 (PreOf R mc ms Pc) (PostOf Qc mc ms free) (vx_Post XC mc ms free) := vx_callBack cw.1 hM hp.1
  obtain ⟨⟨-, -, -, -, -, -, hcode, hini, hy, hlen, hl⟩, hstt⟩ := cw
  obtain ⟨hx, hb, hml, ho, -⟩ := S
  intro T hT X
  rcases vx_callS X hx (bytes := bytes) (maxL := maxL) (ret := ret) ho hl hstt hini hcode hy hK hg (hsize.trans hml.symm) (argsL := As) (rest := rest) (fun sig h => hn.trans (hlen sig h)) hstack hW (by rw [hb]; exact hdg)
    (fun vm₁ hW₁ => ⟨hf.1, hf.2, hp.2 (T.setVm vm₁) hT hW₁⟩) with ⟨v, vm₁, ⟨U', l2, c2, s2⟩, hW₁, X', ⟨g', mk, t, L, e1, e2, hq, h1, hL, h2, h3⟩, st⟩ | ⟨q, vm₁, ⟨U', l2, c2, s2⟩, hW₁, X', ⟨g', mk, t, L, E, ce, e1, e2, hq, hce, hcv, hcl, h1, hL, h2, h3⟩, st⟩
  · dsimp only [Pt.U, Pt.locs, Pt.cells, Pt.slots] at X' e1 e2 h1 h2 h3 st
    subst h1; subst h2; subst h3
    exact Or.inl ⟨v, (T.setVm vm₁).calling g' mk As.toArray, t, U', L, hT, X', hL, e1, e2, hq, st⟩
  · dsimp only [Pt.U, Pt.locs, Pt.cells, Pt.slots] at X' e1 e2 h1 h2 h3 st hcl
    subst h1; subst h2; subst h3
    exact Or.inr ⟨q, (T.setVm vm₁).calling g' mk As.toArray, t, U', L, E, ce, hT, X', hL, e1, e2, hq, hce, hcv, vx_cls hW₁ hcl, st⟩
end Runs
section Rows
variable {p : Program} {l : Launch} {e : Env} {R : Room} {s : State} {m : MethodId} {args : Array Value} {below : List Frame} {meth : Method} {c : Code} {H : Heap} {locs : List Loc} {cells slots : Nat} {Q : State → Prop}
variable {mc ms : Nat} {free : Addr → Prop} {A0 A1 : Nat → Prop} {H0 : Heap} {a : Array Value} {pc : Nat} {ls : Array Slot} {st0 rest : List Value}
theorem vx_keep {st₀ t T' : State} {L : List Loc} (h0 : st₀.heap = H) (e1 : T'.heap = t.heap) (hS : va_S A0 H0 H locs) (hA : ∀ q, q < H.size → A1 q → A0 q) (hf : ∀ q, free q → A0 q) (hL : ∀ q ∈ L, free q.base) (hF : va_F A1 st₀ t) :
    H.size ≤ T'.heap.size ∧ (∀ q : Nat, q < H.size → ¬ A1 q → T'.heap[q]? = H[q]?) ∧ va_S A0 H0 T'.heap (locs ++ L) := by
  obtain ⟨hz, hk⟩ := hF
  rw [h0] at hz hk
  exact ⟨by rw [e1]; exact hz, fun q h1 h2 => by rw [e1]; exact hk q h1 h2,
    ⟨Nat.le_trans hS.1 (by rw [e1]; exact hz), fun q h1 h2 => by rw [e1, hk q (Nat.lt_of_lt_of_le h1 hS.1) (fun z => h2 (hA q (Nat.lt_of_lt_of_le h1 hS.1) z))]; exact hS.2.1 q h1 h2, fun q hq => by
      rcases List.mem_append.mp hq with h | h
      · exact hS.2.2 q h
      · exact hf _ (hL q h)⟩⟩
theorem vx_calli {S SX : Type} {post : Int32 → S → Prop} {px : SX → Prop} {B : S → State → Prop} {BX : String → SX → State → Prop} {AX : Nat → Prop} (hr : vx_Run p l e R s m args below meth c H locs cells slots mc ms (F0 m pc ls st0) rest (va_Qi post B A1 a) (vx_X px BX AX) free) (hS : va_S A0 H0 H locs) (hA : ∀ q, q < H.size → A1 q → A0 q) (hf : ∀ q, free q → A0 q) (hAX : ∀ q, q < H.size → AX q → A0 q)
    (kx : ∀ (E : String) (ce : Cell) (q9 : Addr) (u : SX) (t : State) (H1 : Heap) (locs1 : List Loc), t.heap = H1 → s.vm.Alike t.vm → px u → BX E u t → H.size ≤ H1.size → (∀ q : Nat, q < H.size → ¬ AX q → H1[q]? = H[q]?) → va_S A0 H0 H1 locs1 → H1[q9]? = some ce → ce.vm = .none → s.vm.findClass E = some ce.cls → vx_W p l e R s m args below meth c H1 locs1 (cells + mc) (slots + ms) Q (F0 m pc ls rest) q9)
    (kk : ∀ (r : Int32) (u : S) (t : State) (H1 : Heap) (locs1 : List Loc), t.heap = H1 → s.vm.Alike t.vm → post r u → B u t → H.size ≤ H1.size → (∀ q : Nat, q < H.size → ¬ A1 q → H1[q]? = H[q]?) → va_S A0 H0 H1 locs1 → W p l e R s m args below meth c H1 locs1 (cells + mc) (slots + ms) Q (F0 m (pc + 3) ls (.int r :: rest))) : W p l e R s m args below meth c H locs cells slots Q (F0 m pc ls st0) := by
  intro T hT X
  rcases hr T hT X with ⟨v, st₀, t, T', L, h0, X', hL, e1, e2, ⟨⟨r, u, hv, hp, hb⟩, hF⟩, st⟩ | ⟨q, st₀, t, T', L, E, ce, h0, X', hL, e1, e2, ⟨u, hp, hb, hF⟩, hce, hcv, hcl, st⟩
  · cases hv
    obtain ⟨k1, k2, k3⟩ := vx_keep h0 e1 hS hA hf hL hF
    obtain ⟨t2, a1, b1⟩ := kk r u t T'.heap (locs ++ L) e1.symm (by rw [← e2]; exact X'.warmed.alike) hp hb k1 k2 k3 T' rfl X'
    exact ⟨t2, st t2 a1, b1⟩
  · obtain ⟨k1, k2, k3⟩ := vx_keep h0 e1 hS hAX hf hL hF
    obtain ⟨t2, a1, b1⟩ := kx E ce q u t T'.heap (locs ++ L) e1.symm (by rw [← e2]; exact X'.warmed.alike) hp hb k1 k2 k3 (by rw [e1]; exact hce) hcv hcl T' rfl X'
    exact ⟨t2, st.trans a1, b1⟩
theorem vx_calll {S SX : Type} {post : Int64 → S → Prop} {px : SX → Prop} {B : S → State → Prop} {BX : String → SX → State → Prop} {AX : Nat → Prop} (hr : vx_Run p l e R s m args below meth c H locs cells slots mc ms (F0 m pc ls st0) rest (va_Ql post B A1 a) (vx_X px BX AX) free) (hS : va_S A0 H0 H locs) (hA : ∀ q, q < H.size → A1 q → A0 q) (hf : ∀ q, free q → A0 q) (hAX : ∀ q, q < H.size → AX q → A0 q)
    (kx : ∀ (E : String) (ce : Cell) (q9 : Addr) (u : SX) (t : State) (H1 : Heap) (locs1 : List Loc), t.heap = H1 → s.vm.Alike t.vm → px u → BX E u t → H.size ≤ H1.size → (∀ q : Nat, q < H.size → ¬ AX q → H1[q]? = H[q]?) → va_S A0 H0 H1 locs1 → H1[q9]? = some ce → ce.vm = .none → s.vm.findClass E = some ce.cls → vx_W p l e R s m args below meth c H1 locs1 (cells + mc) (slots + ms) Q (F0 m pc ls rest) q9)
    (kk : ∀ (r : Int64) (u : S) (t : State) (H1 : Heap) (locs1 : List Loc), t.heap = H1 → s.vm.Alike t.vm → post r u → B u t → H.size ≤ H1.size → (∀ q : Nat, q < H.size → ¬ A1 q → H1[q]? = H[q]?) → va_S A0 H0 H1 locs1 → W p l e R s m args below meth c H1 locs1 (cells + mc) (slots + ms) Q (F0 m (pc + 3) ls (.long r :: rest))) : W p l e R s m args below meth c H locs cells slots Q (F0 m pc ls st0) := by
  intro T hT X
  rcases hr T hT X with ⟨v, st₀, t, T', L, h0, X', hL, e1, e2, ⟨⟨r, u, hv, hp, hb⟩, hF⟩, st⟩ | ⟨q, st₀, t, T', L, E, ce, h0, X', hL, e1, e2, ⟨u, hp, hb, hF⟩, hce, hcv, hcl, st⟩
  · cases hv
    obtain ⟨k1, k2, k3⟩ := vx_keep h0 e1 hS hA hf hL hF
    obtain ⟨t2, a1, b1⟩ := kk r u t T'.heap (locs ++ L) e1.symm (by rw [← e2]; exact X'.warmed.alike) hp hb k1 k2 k3 T' rfl X'
    exact ⟨t2, st t2 a1, b1⟩
  · obtain ⟨k1, k2, k3⟩ := vx_keep h0 e1 hS hAX hf hL hF
    obtain ⟨t2, a1, b1⟩ := kx E ce q u t T'.heap (locs ++ L) e1.symm (by rw [← e2]; exact X'.warmed.alike) hp hb k1 k2 k3 (by rw [e1]; exact hce) hcv hcl T' rfl X'
    exact ⟨t2, st.trans a1, b1⟩
theorem vx_callf {S SX : Type} {post : UInt32 → S → Prop} {px : SX → Prop} {B : S → State → Prop} {BX : String → SX → State → Prop} {AX : Nat → Prop} (hr : vx_Run p l e R s m args below meth c H locs cells slots mc ms (F0 m pc ls st0) rest (va_Qf post B A1 a) (vx_X px BX AX) free) (hS : va_S A0 H0 H locs) (hA : ∀ q, q < H.size → A1 q → A0 q) (hf : ∀ q, free q → A0 q) (hAX : ∀ q, q < H.size → AX q → A0 q)
    (kx : ∀ (E : String) (ce : Cell) (q9 : Addr) (u : SX) (t : State) (H1 : Heap) (locs1 : List Loc), t.heap = H1 → s.vm.Alike t.vm → px u → BX E u t → H.size ≤ H1.size → (∀ q : Nat, q < H.size → ¬ AX q → H1[q]? = H[q]?) → va_S A0 H0 H1 locs1 → H1[q9]? = some ce → ce.vm = .none → s.vm.findClass E = some ce.cls → vx_W p l e R s m args below meth c H1 locs1 (cells + mc) (slots + ms) Q (F0 m pc ls rest) q9)
    (kk : ∀ (r : UInt32) (u : S) (t : State) (H1 : Heap) (locs1 : List Loc), t.heap = H1 → s.vm.Alike t.vm → post r u → B u t → H.size ≤ H1.size → (∀ q : Nat, q < H.size → ¬ A1 q → H1[q]? = H[q]?) → va_S A0 H0 H1 locs1 → W p l e R s m args below meth c H1 locs1 (cells + mc) (slots + ms) Q (F0 m (pc + 3) ls (.float r :: rest))) : W p l e R s m args below meth c H locs cells slots Q (F0 m pc ls st0) := by
  intro T hT X
  rcases hr T hT X with ⟨v, st₀, t, T', L, h0, X', hL, e1, e2, ⟨⟨r, u, hv, hp, hb⟩, hF⟩, st⟩ | ⟨q, st₀, t, T', L, E, ce, h0, X', hL, e1, e2, ⟨u, hp, hb, hF⟩, hce, hcv, hcl, st⟩
  · cases hv
    obtain ⟨k1, k2, k3⟩ := vx_keep h0 e1 hS hA hf hL hF
    obtain ⟨t2, a1, b1⟩ := kk r u t T'.heap (locs ++ L) e1.symm (by rw [← e2]; exact X'.warmed.alike) hp hb k1 k2 k3 T' rfl X'
    exact ⟨t2, st t2 a1, b1⟩
  · obtain ⟨k1, k2, k3⟩ := vx_keep h0 e1 hS hAX hf hL hF
    obtain ⟨t2, a1, b1⟩ := kx E ce q u t T'.heap (locs ++ L) e1.symm (by rw [← e2]; exact X'.warmed.alike) hp hb k1 k2 k3 (by rw [e1]; exact hce) hcv hcl T' rfl X'
    exact ⟨t2, st.trans a1, b1⟩
theorem vx_calld {S SX : Type} {post : UInt64 → S → Prop} {px : SX → Prop} {B : S → State → Prop} {BX : String → SX → State → Prop} {AX : Nat → Prop} (hr : vx_Run p l e R s m args below meth c H locs cells slots mc ms (F0 m pc ls st0) rest (va_Qd post B A1 a) (vx_X px BX AX) free) (hS : va_S A0 H0 H locs) (hA : ∀ q, q < H.size → A1 q → A0 q) (hf : ∀ q, free q → A0 q) (hAX : ∀ q, q < H.size → AX q → A0 q)
    (kx : ∀ (E : String) (ce : Cell) (q9 : Addr) (u : SX) (t : State) (H1 : Heap) (locs1 : List Loc), t.heap = H1 → s.vm.Alike t.vm → px u → BX E u t → H.size ≤ H1.size → (∀ q : Nat, q < H.size → ¬ AX q → H1[q]? = H[q]?) → va_S A0 H0 H1 locs1 → H1[q9]? = some ce → ce.vm = .none → s.vm.findClass E = some ce.cls → vx_W p l e R s m args below meth c H1 locs1 (cells + mc) (slots + ms) Q (F0 m pc ls rest) q9)
    (kk : ∀ (r : UInt64) (u : S) (t : State) (H1 : Heap) (locs1 : List Loc), t.heap = H1 → s.vm.Alike t.vm → post r u → B u t → H.size ≤ H1.size → (∀ q : Nat, q < H.size → ¬ A1 q → H1[q]? = H[q]?) → va_S A0 H0 H1 locs1 → W p l e R s m args below meth c H1 locs1 (cells + mc) (slots + ms) Q (F0 m (pc + 3) ls (.double r :: rest))) : W p l e R s m args below meth c H locs cells slots Q (F0 m pc ls st0) := by
  intro T hT X
  rcases hr T hT X with ⟨v, st₀, t, T', L, h0, X', hL, e1, e2, ⟨⟨r, u, hv, hp, hb⟩, hF⟩, st⟩ | ⟨q, st₀, t, T', L, E, ce, h0, X', hL, e1, e2, ⟨u, hp, hb, hF⟩, hce, hcv, hcl, st⟩
  · cases hv
    obtain ⟨k1, k2, k3⟩ := vx_keep h0 e1 hS hA hf hL hF
    obtain ⟨t2, a1, b1⟩ := kk r u t T'.heap (locs ++ L) e1.symm (by rw [← e2]; exact X'.warmed.alike) hp hb k1 k2 k3 T' rfl X'
    exact ⟨t2, st t2 a1, b1⟩
  · obtain ⟨k1, k2, k3⟩ := vx_keep h0 e1 hS hAX hf hL hF
    obtain ⟨t2, a1, b1⟩ := kx E ce q u t T'.heap (locs ++ L) e1.symm (by rw [← e2]; exact X'.warmed.alike) hp hb k1 k2 k3 (by rw [e1]; exact hce) hcv hcl T' rfl X'
    exact ⟨t2, st.trans a1, b1⟩
theorem vx_callv {S SX : Type} {post : S → Prop} {px : SX → Prop} {B : S → State → Prop} {BX : String → SX → State → Prop} {AX : Nat → Prop} (hr : vx_Run p l e R s m args below meth c H locs cells slots mc ms (F0 m pc ls st0) rest (va_Qv post B A1 a) (vx_X px BX AX) free) (hS : va_S A0 H0 H locs) (hA : ∀ q, q < H.size → A1 q → A0 q) (hf : ∀ q, free q → A0 q) (hAX : ∀ q, q < H.size → AX q → A0 q)
    (kx : ∀ (E : String) (ce : Cell) (q9 : Addr) (u : SX) (t : State) (H1 : Heap) (locs1 : List Loc), t.heap = H1 → s.vm.Alike t.vm → px u → BX E u t → H.size ≤ H1.size → (∀ q : Nat, q < H.size → ¬ AX q → H1[q]? = H[q]?) → va_S A0 H0 H1 locs1 → H1[q9]? = some ce → ce.vm = .none → s.vm.findClass E = some ce.cls → vx_W p l e R s m args below meth c H1 locs1 (cells + mc) (slots + ms) Q (F0 m pc ls rest) q9)
    (kk : ∀ (u : S) (t : State) (H1 : Heap) (locs1 : List Loc), t.heap = H1 → s.vm.Alike t.vm → post u → B u t → H.size ≤ H1.size → (∀ q : Nat, q < H.size → ¬ A1 q → H1[q]? = H[q]?) → va_S A0 H0 H1 locs1 → W p l e R s m args below meth c H1 locs1 (cells + mc) (slots + ms) Q (F0 m (pc + 3) ls (rest))) : W p l e R s m args below meth c H locs cells slots Q (F0 m pc ls st0) := by
  intro T hT X
  rcases hr T hT X with ⟨v, st₀, t, T', L, h0, X', hL, e1, e2, ⟨⟨u, hv, hp, hb⟩, hF⟩, st⟩ | ⟨q, st₀, t, T', L, E, ce, h0, X', hL, e1, e2, ⟨u, hp, hb, hF⟩, hce, hcv, hcl, st⟩
  · cases hv
    obtain ⟨k1, k2, k3⟩ := vx_keep h0 e1 hS hA hf hL hF
    obtain ⟨t2, a1, b1⟩ := kk u t T'.heap (locs ++ L) e1.symm (by rw [← e2]; exact X'.warmed.alike) hp hb k1 k2 k3 T' rfl X'
    exact ⟨t2, st t2 a1, b1⟩
  · obtain ⟨k1, k2, k3⟩ := vx_keep h0 e1 hS hAX hf hL hF
    obtain ⟨t2, a1, b1⟩ := kx E ce q u t T'.heap (locs ++ L) e1.symm (by rw [← e2]; exact X'.warmed.alike) hp hb k1 k2 k3 (by rw [e1]; exact hce) hcv hcl T' rfl X'
    exact ⟨t2, st.trans a1, b1⟩
/-- caught by the row x of this method's table; the rows ahead don't take it -/
theorem vx_catch {own name : String} {E : String} {ce : Cell} {q : Addr} (hown : s.vm.findClass own = some m.cls) (pre : List ExceptionTableEntry) (x : ExceptionTableEntry) (suf : List ExceptionTableEntry) (hsplit : c.exceptionTable.toList = pre ++ x :: suf)
    (hpass : ∀ z ∈ pre, covers z pc = false ∨ (z.catchType ≠ 0 ∧ ∃ nm : String, (Cond.classLink own z.catchType nm).before args s = true ∧ va_Nc E nm s)) (hx : covers x pc = true) (h0 : x.catchType ≠ 0)
    (hlink : (Cond.classLink own x.catchType name).before args s = true) (hcast : (Cond.castable E name).before args s = true) (hcell : H[q]? = some ce) (hv : ce.vm = .none) (hcl : s.vm.findClass E = some ce.cls)
    (kk : W p l e R s m args below meth c H locs cells slots Q (F0 m x.handlerPc ls [.ref q])) : vx_W p l e R s m args below meth c H locs cells slots Q (F0 m pc ls rest) q := by
  intro T hT X
  have hpl : e.platform.magicAccessors = ({} : Platform).magicAccessors := by rw [X.admits.platform]
  obtain ⟨c3, c4, hc3, hc4, hasg⟩ := Cond.castable_spec hcast
  cases Option.some.inj (hc3.symm.trans hcl)
  obtain ⟨c5, hc5, hcl5⟩ := Cond.classLink_spec hown hlink e.platform hpl
  cases Option.some.inj (hc4.symm.trans hc5)
  obtain ⟨vm', X', st⟩ := X.thenCaughtThrough q (g := F0 m pc ls rest) rfl (Steps.refl _) (by rw [hT]; exact hcell) (by rw [hv]; rfl) (by obtain ⟨k9, h9, -⟩ := Vm.findClass_spec hcl; exact ⟨k9, h9⟩) pre x suf hsplit
    (fun z hz => by
      rcases hpass z hz with h | ⟨hz0, nm, hl1, hn1⟩
      · exact Or.inl h
      · obtain ⟨c6, hc6, hcl6⟩ := Cond.classLink_spec hown hl1 e.platform hpl
        obtain ⟨a8, b8, h1, h2, h3⟩ := hn1
        cases Option.some.inj (h1.symm.trans hcl)
        cases Option.some.inj (h2.symm.trans hc6)
        exact Or.inr ⟨hz0, _, hcl6, h3⟩) hx (Or.inr ⟨h0, c4, hcl5, hasg⟩)
  obtain ⟨t, a1, b1⟩ := kk (T.setVm vm') hT X'
  exact ⟨t, st.trans a1, b1⟩
end Rows
section Ends
variable {p : Program} {l : Launch} {e : Env} {R : Room} {s : State} {m : MethodId} {args : Array Value} {below : List Frame} {meth : Method} {c : Code} {H : Heap} {locs : List Loc} {cells slots : Nat} {Q : State → Prop}
variable {mc ms : Nat} {free : Addr → Prop} {A0 A1 : Nat → Prop} {H0 : Heap} {a : Array Value} {ls : Array Slot} {st0 rest : List Value}
variable {Qc : Array Value → State → Outcome → State → Prop} {XC : String → State → State → Prop}
/-- what a body that may throw owes at its end -/
def vx_MQ (below : List Frame) (Qc : Array Value → State → Outcome → State → Prop) (XC : String → State → State → Prop) (a : Array Value) (s : State) (mc ms : Nat) (free : Addr → Prop) : State → Prop := fun t =>
  ∃ o, t.status = .running ∧ Ended t below o ∧ vx_Q Qc XC mc ms free a s o t
theorem vx_ret {g : JFrame} {mc ms : Nat} (k : W p l e R s m args below meth c H locs cells slots (MQ below Qc args s mc ms free) g) : W p l e R s m args below meth c H locs cells slots (vx_MQ below Qc XC args s mc ms free) g := by
  intro T hT X
  obtain ⟨t, a1, o, b1, b2, b3, b4⟩ := k T hT X
  exact ⟨t, a1, o, b1, b2, Or.inl ⟨b3, b4⟩⟩
/-- not caught here: it goes on to the caller -/
theorem vx_widen {g : JFrame} {q : Addr} {k n : Nat} (h1 : cells ≤ k) (h2 : slots ≤ n) (kk : vx_W p l e R s m args below meth c H locs k n Q g q) : vx_W p l e R s m args below meth c H locs cells slots Q g q := fun T hT X => kk T hT (stand_widen X h1 h2)
theorem vx_out {pc : Nat} {E : String} {ce : Cell} {q : Addr} {mc ms : Nat} (hout : ∀ x ∈ c.exceptionTable.toList, covers x pc = false) (hlocks : meth.locks = false) (hcell : H[q]? = some ce) (hv : ce.vm = .none) (hcl : s.vm.findClass E = some ce.cls)
    (hx : ∀ t : State, t.heap = H → s.vm.Alike t.vm → XC E s t) (hf : ∀ z ∈ locs, free z.base) (hc : cells ≤ mc) (hs : slots ≤ ms) :
    vx_W p l e R s m args below meth c H locs cells slots (vx_MQ below Qc XC args s mc ms free) (F0 m pc ls rest) q := by
  intro T hT X
  obtain ⟨st1, hrun, hend, hW, hsm⟩ := X.leaveThrown q (g := F0 m pc ls rest) rfl rfl rfl hout hlocks
  have hcell9 : (T.setFrames (.throwing q :: below)).heap[q]? = some ce := by
    show T.heap[q]? = some ce
    rw [hT]; exact hcell
  exact ⟨_, st1, .threw q, hrun, hend, Or.inr ⟨q, rfl, E, ce, locs, hx _ hT hW.alike, hcell9, hv, hcl, hW, hsm.mono hc hs, hf⟩⟩
theorem vx_frame {U : State} {k n : Nat} (h : s.sameButNew ({ U with vm := s.vm } : State) locs k n) : s.heap.size ≤ U.heap.size ∧ ∀ q : Nat, q < s.heap.size → (∀ z ∈ locs, z.base ≠ q) → U.heap[q]? = s.heap[q]? := by
  obtain ⟨-, h2, -, -, -, h6⟩ := h
  refine ⟨h2, fun q hq hz => ?_⟩
  obtain ⟨c9, e1, e2, e3, e4⟩ := h6 q _ (Array.getElem?_eq_getElem hq)
  have hs : c9.slots = (s.heap[q]).slots := Array.ext_getElem? fun i => e4 i fun hm => hz _ hm rfl
  have h9 : c9 = s.heap[q] := by
    rw [hs] at e2
    exact e2
  have e5 : U.heap[q]? = some c9 := e1
  rw [e5, h9, Array.getElem?_eq_getElem hq]
/-- the words of a throw but the four that speak of the heap -/
def vx_no (w : Cond) : Bool := decide (w ≠ .isRef (.static Bundle.tN "UNASSIGNED_STACK" Bundle.steD)) && decide (w ≠ .isRef (.static Bundle.tN "SUPPRESSED_SENTINEL" Bundle.listD)) && decide (w ≠ .laysStatic Bundle.tN "UNASSIGNED_STACK" Bundle.steD) && decide (w ≠ .laysStatic Bundle.tN "SUPPRESSED_SENTINEL" Bundle.listD)
def vx_at0 (own : String) (ic : Nat) (X : String) (names : List String) : List Cond := (Bundle.ownAtoms0 own ic X names).filter vx_no
def vx_atS (own : String) (ic : Nat) (X : String) (names : List String) : List Cond := (Bundle.ownAtoms own ic X names).filter vx_no
/-- a word that the tables alone decide, or a good one -/
def vx_ot (w : Cond) : Bool := w.onTables || goodWord w
theorem vx_ot_at {args a' : Array Value} {s U : State} {w : Cond} (hW : s.WarmedH U.vm) (hvm : s.vm = U.vm) (hg : vx_ot w = true) (h : w.before args s = true) : w.before a' U = true := by
  simp only [vx_ot, Bool.or_eq_true] at hg
  rcases hg with hg | hg
  · exact va_tabs hg hvm h
  · exact word_at hW (good_of_word hg) h
/-- a list's words: the good ones out of the method's own list, the others by premises of their own -/
theorem vx_hat {args : Array Value} {s : State} {L B : List Cond} (h1 : ∀ w ∈ L.filter goodWord, w.before args s = true) (h2 : ∀ w ∈ L.filter (fun w => !goodWord w), w ∈ B) (h3 : ∀ w ∈ B, w.before args s = true) : ∀ w ∈ L, w.before args s = true := by
  intro w hw
  by_cases g : goodWord w = true
  · exact h1 w (List.mem_filter.mpr ⟨hw, g⟩)
  · refine h3 w (h2 w (List.mem_filter.mpr ⟨hw, ?_⟩))
    show (!goodWord w) = true
    cases hgw : goodWord w
    · rfl
    · exact absurd hgw g
theorem vx_c {args : Array Value} {s : State} {w : Cond} {B : List Cond} (h : w.before args s = true) (t : ∀ w ∈ B, w.before args s = true) : ∀ w' ∈ w :: B, w'.before args s = true := fun w' h' => (List.mem_cons.mp h').elim (fun e => by rw [e]; exact h) (t w')
theorem vx_n {args : Array Value} {s : State} : ∀ w ∈ ([] : List Cond), w.before args s = true := fun _ h => nomatch h
theorem vx_own {args : Array Value} {s : State} {L : List Cond} (h1 : ∀ w ∈ L.filter vx_no, w.before args s = true)
    (hU : (Cond.isRef (.static Bundle.tN "UNASSIGNED_STACK" Bundle.steD)).before args s = true) (hN : (Cond.isRef (.static Bundle.tN "SUPPRESSED_SENTINEL" Bundle.listD)).before args s = true)
    (lU : (Cond.laysStatic Bundle.tN "UNASSIGNED_STACK" Bundle.steD).before args s = true) (lN : (Cond.laysStatic Bundle.tN "SUPPRESSED_SENTINEL" Bundle.listD).before args s = true) : ∀ w ∈ L, w.before args s = true := by
  intro w hw
  by_cases e1 : w = .isRef (.static Bundle.tN "UNASSIGNED_STACK" Bundle.steD)
  · rw [e1]; exact hU
  · by_cases e2 : w = .isRef (.static Bundle.tN "SUPPRESSED_SENTINEL" Bundle.listD)
    · rw [e2]; exact hN
    · by_cases e3 : w = .laysStatic Bundle.tN "UNASSIGNED_STACK" Bundle.steD
      · rw [e3]; exact lU
      · by_cases e4 : w = .laysStatic Bundle.tN "SUPPRESSED_SENTINEL" Bundle.listD
        · rw [e4]; exact lN
        · exact h1 w (List.mem_filter.mpr ⟨hw, by unfold vx_no; rw [decide_eq_true e1, decide_eq_true e2, decide_eq_true e3, decide_eq_true e4]; rfl⟩)
/-- where a static field lies, its class's statics cell in H -/
def vx_L (C n d : String) (A : Nat → Prop) (U : State) (H : Heap) : Prop := ∃ (c : ClassId) (k : Class) (i : Nat) (f : Field) (a : Nat) (cell : Cell), U.vm.findClass C = some c ∧ U.fieldFound? C n d = some (c, k, i, f) ∧ f.isStatic = true ∧ k.statics = some a ∧ H[a]? = some cell ∧ cell.vm.isStatics = true ∧ cell.cls = c ∧ f.slot < cell.slots.size ∧ k.staticTypes[f.slot]? = some f.type ∧ ¬ A a
theorem vx_L.moved {C n d : String} {A : Nat → Prop} {u U : State} {H : Heap} (hvm : u.vm.Alike U.vm) (h : vx_L C n d A u H) : vx_L C n d A U H := by
  obtain ⟨c, k, i, f, a, cell, h1, h2, h3, h4, h5, h6, h7, h8, h9, h10⟩ := h
  obtain ⟨k', hi', he⟩ := State.fieldFound?_setVm hvm h2
  exact ⟨c, k', i, f, a, cell, by rw [hvm.findClass]; exact h1, hi', h3, by rw [he]; exact h4, h5, h6, h7, h8, by rw [he]; exact h9, h10⟩
theorem vx_L.kept {C n d : String} {A : Nat → Prop} {U : State} {H H1 : Heap} (h : vx_L C n d A U H) (hq : ∀ a : Nat, a < H.size → ¬ A a → H1[a]? = H[a]?) : vx_L C n d A U H1 := by
  obtain ⟨c, k, i, f, a, cell, h1, h2, h3, h4, h5, h6, h7, h8, h9, h10⟩ := h
  exact ⟨c, k, i, f, a, cell, h1, h2, h3, h4, by rw [hq a (Array.getElem?_eq_some_iff.mp h5).1 h10]; exact h5, h6, h7, h8, h9, h10⟩
theorem vx_L.narrow {C n d : String} {A B : Nat → Prop} {U : State} {H : Heap} (h : vx_L C n d A U H) (hAB : ∀ q, B q → A q) : vx_L C n d B U H := by
  obtain ⟨c, k, i, f, a, cell, h1, h2, h3, h4, h5, h6, h7, h8, h9, h10⟩ := h
  exact ⟨c, k, i, f, a, cell, h1, h2, h3, h4, h5, h6, h7, h8, h9, fun z => h10 (hAB _ z)⟩
theorem vx_L.word {C n d : String} {A : Nat → Prop} {s : State} {args : Array Value} (h : vx_L C n d A s s.heap) : (Cond.laysStatic C n d).before args s = true := by
  obtain ⟨c, k, i, f, a, cell, h1, h2, h3, h4, h5, h6, h7, h8, h9, -⟩ := h
  show (Cond.laysStatic C n d).holds args s none s [] = true
  exact Cond.laysStatic_of h1 h2 h3 h4 h5 h6 h7 h8 h9
/-- .. and what it holds: null or some reference -/
def vx_Zq (C n d : String) (A : Nat → Prop) (U : State) (H : Heap) : Prop := va_Zq C n d A U H ∧ vx_L C n d A U H
theorem vx_Zq.moved {C n d : String} {A : Nat → Prop} {u U : State} {H : Heap} (hvm : u.vm.Alike U.vm) (h : vx_Zq C n d A u H) : vx_Zq C n d A U H := ⟨va_Zq.moved hvm h.1, vx_L.moved hvm h.2⟩
theorem vx_Zq.kept {C n d : String} {A : Nat → Prop} {U : State} {H H1 : Heap} (h : vx_Zq C n d A U H) (hq : ∀ a : Nat, a < H.size → ¬ A a → H1[a]? = H[a]?) : vx_Zq C n d A U H1 := ⟨va_Zq.kept h.1 hq, vx_L.kept h.2 hq⟩
theorem vx_Zq.narrow {C n d : String} {A B : Nat → Prop} {U : State} {H : Heap} (h : vx_Zq C n d A U H) (hAB : ∀ q, B q → A q) : vx_Zq C n d B U H := ⟨va_Zq.narrow h.1 hAB, vx_L.narrow h.2 hAB⟩
theorem vx_Zqof {args : Array Value} {s : State} {C n d : String} {A : Nat → Prop} (hl : (Cond.laysStatic C n d).before args s = true) (hini : (Cond.initialized C).before args s = true) (h : (Cond.isRef (.static C n d)).before args s = true) (hA : ∀ a : Nat, a < s.heap.size → ¬ A a) : vx_Zq C n d A s s.heap := by
  refine ⟨va_Zqof hl hini h hA, ?_⟩
  obtain ⟨c, k, i, f, a, cell, h1, h2, h3, h4, h5, h6, h7, h8, h9⟩ := Cond.laysStatic_spec hl
  exact ⟨c, k, i, f, a, cell, h1, h2, h3, h4, h5, h6, h7, h8, h9, hA a (Array.getElem?_eq_some_iff.mp h5).1⟩
theorem vx_isRef {C n d : String} {v : Value} {A : Nat → Prop} {s : State} {args : Array Value} (h : va_Z C n d v A s s.heap) (hv : v.isRef = true) : (Cond.isRef (.static C n d)).before args s = true := by
  obtain ⟨cf, kf, fi, f, a, cell, h1, h2, h3, h4, h5, h6, h7, -⟩ := h
  have he : (Term.static C n d).eval args s none [] s = some v := by
    simp [Term.eval, State.fieldNamed?, h1, h2, h4, h5, h6, h7]
  simp only [Cond.before, Cond.holds, Cond.value, he]
  cases v <;> simp_all [Value.isRef]
theorem vx_isRefq {C n d : String} {A : Nat → Prop} {s : State} {args : Array Value} (h : va_Zq C n d A s s.heap) : (Cond.isRef (.static C n d)).before args s = true := by
  rcases h with h | ⟨t, h⟩
  · exact vx_isRef h rfl
  · exact vx_isRef h rfl
/-- the same frame, seen from here: as if the method were called anew in this heap -/
theorem vx_rebase {T : State} (X : Stand p l e R s m args below meth c T locs cells slots) {R' : Room} (hf : R'.frames ≤ R.frames) (hl : R'.locals ≤ R.locals) (hc : cells + R'.cells ≤ R.cells) (hs : slots + R'.slots ≤ R.slots) :
    Stand p l e R' ((T.setVm s.vm).setFrames (.invoking m args :: below)) m args below meth c T [] 0 0 := by
  have htop : (T.setVm s.vm).topJava?.isSome := X.here.top
  have hF : ((T.setVm s.vm).setFrames (.invoking m args :: below)).frames = .invoking m args :: below := State.frames_setFrames _ (State.cur_lt_of_top htop)
  obtain ⟨g₀, hg0⟩ := Option.isSome_iff_exists.mp htop
  obtain ⟨r, hr⟩ := State.topJava?_eq_some.mp hg0
  have hl9 : e.platform.stackLimits (T.setVm s.vm).me = e.platform.stackLimits s.me := X.limits
  have hb9 : (T.setVm s.vm).me.stackBytes = s.me.stackBytes := X.bytes
  refine ⟨X.admits, X.cas, X.clock, hF, ?_, X.hears, X.method, X.code, X.here, X.tail, X.warmed, ?_, ?_, ?_⟩
  · have h := X.room
    have hU : ((T.setVm s.vm).setFrames (.invoking m args :: below)).localsInUse = s.localsInUse := by
      rw [State.localsInUse_invoking hF (meth := meth) (c := c) X.method X.code, State.localsInUse_invoking X.frames X.method X.code]
    simp only [State.hasRoom, Bool.and_eq_true, decide_eq_true_eq] at h ⊢
    obtain ⟨⟨⟨⟨h1, h2, h3, h4, h5, h6⟩, h7⟩, h8⟩, h9⟩ := h
    rw [X.frames, List.length_cons] at h2 h3
    have q1 := X.heapSize
    have q2 := X.used
    simp only [hF, hU, List.length_cons, State.stackLimits_setFrames, State.stackBytes_setFrames, hl9, hb9]
    refine ⟨⟨⟨⟨by omega, by omega, by omega, by omega, by omega, h6⟩, ?_⟩, ?_⟩, X.book⟩
    · show T.heap.size + R'.cells ≤ e.platform.maxCells
      omega
    · show T.slotsUsed + R'.slots ≤ e.platform.maxSlots
      omega
  · rw [State.stackLimits_setFrames]; rfl
  · rw [State.stackBytes_setFrames]; rfl
  · refine ⟨?_, Nat.le_refl _, Nat.le_refl _, ?_, ?_, fun a c9 h9 => ⟨c9, h9, rfl, rfl, fun _ _ => rfl⟩⟩
    · obtain ⟨t, ht, -⟩ := State.frames_cons hr
      show T.setVm s.vm = { ((T.setVm s.vm).setFrames (.invoking m args :: below)).setFrames (T.setVm s.vm).frames with heap := T.heap, slotsUsed := T.slotsUsed }
      rw [State.setFrames_setFrames, State.setFrames_self ht]
      rfl
    · show T.slotsUsed = T.slotsUsed + ((T.heap.toList.drop T.heap.size).map (·.slots.size)).sum
      rw [List.drop_eq_nil_of_le (Nat.le_of_eq Array.length_toList)]
      rfl
    · show ((T.heap.toList.drop T.heap.size).map (·.slots.size)).sum ≤ 0
      rw [List.drop_eq_nil_of_le (Nat.le_of_eq Array.length_toList)]
      exact Nat.le_refl _
/-- 'throw new E()': new; dup; invokespecial; athrow -/
theorem vx_throw0 {cc : ByteArray} {pc : Nat} (hexec : p.tables.exec = Jvm.exec) (hb : c.code = cc) (hl : l.stackTraces = false) {own cls : String} {names : List String} {ik ic mc ms : Nat} {A : Nat → Prop}
    (hown : s.vm.findClass own = some m.cls) (hcls : Bundle.fit cls = true) (hnames : ∀ n ∈ names, Bundle.fit n = true)
    (hk : (Cond.classLink own ik cls).before args s = true) (hini : (Cond.initialized cls).before args s = true) (hat : ∀ w ∈ vx_at0 own ic cls names, w.before args s = true)
    (hgood : ∀ w ∈ Cond.classLink own ik cls :: Cond.initialized cls :: vx_at0 own ic cls names, vx_ot w = true)
    (hU : vx_Zq Bundle.tN "UNASSIGNED_STACK" Bundle.steD A s s.heap) (hN : vx_Zq Bundle.tN "SUPPRESSED_SENTINEL" Bundle.listD A s s.heap) (hS : va_S A s.heap H locs) (hsize : ls.size = c.maxLocals)
    (d0 : decode cc pc = .ok (.new ik, 3)) (d3 : decode cc (pc + 3) = .ok (.dup, 1)) (d4 : decode cc (pc + 4) = .ok (.invokespecial ic, 3)) (d7 : decode cc (pc + 7) = .ok (.athrow, 1))
    (hout : ∀ x ∈ c.exceptionTable.toList, covers x (pc + 7) = false)
    (hRframes : names.length + 3 < R.frames) (hRlocals : (rest.map fun v => v.category).sum + (13 * (names.length + 1) + 42) ≤ R.locals) (hRcells : cells + 1 ≤ R.cells) (hRslots : slots + 6 ≤ R.slots) (hlocks : meth.locks = false)
    (hx : ∀ t : State, s.vm.Alike t.vm → H.size ≤ t.heap.size → (∀ q : Nat, q < H.size → t.heap[q]? = H[q]?) → XC cls s t)
    (hf : ∀ z ∈ locs, free z.base) (hc : cells + 1 ≤ mc) (hs : slots + 6 ≤ ms) :
    W p l e R s m args below meth c H locs cells slots (vx_MQ below Qc XC args s mc ms free) (F0 m pc ls rest) := by
  intro T hT X
  have htr : e.platform.stackTraces = false := (show e.platform.stackTraces = l.stackTraces by rw [X.admits.platform]).trans hl
  have Y := vx_rebase X (R' := { frames := R.frames, locals := R.locals, cells := 1, slots := 6 }) (Nat.le_refl _) (Nat.le_refl _) hRcells hRslots
  obtain ⟨s', hA⟩ : ∃ z, z = (T.setVm s.vm).setFrames (.invoking m args :: below) := ⟨_, rfl⟩
  rw [← hA] at Y
  have hvm : s'.vm = s.vm := by rw [hA]; rfl
  have hhp : s'.heap = H := by rw [hA]; exact hT
  have hW0 : s.WarmedH s'.vm := by rw [hvm]; exact State.WarmedH.refl s
  have hat' : ∀ w ∈ vx_at0 own ic cls names, w.before args s' = true := fun w hw => vx_ot_at hW0 hvm.symm (hgood w (List.mem_cons_of_mem _ (List.mem_cons_of_mem _ hw))) (hat w hw)
  have hk' : (Cond.classLink own ik cls).before args s' = true := vx_ot_at hW0 hvm.symm (hgood _ List.mem_cons_self) hk
  have hini' : (Cond.initialized cls).before args s' = true := vx_ot_at hW0 hvm.symm (hgood _ (List.mem_cons_of_mem _ List.mem_cons_self)) hini
  have hU' : vx_Zq Bundle.tN "UNASSIGNED_STACK" Bundle.steD A s' s'.heap := by rw [hhp]; exact vx_Zq.moved hW0.alike (hU.kept hS.2.1)
  have hN' : vx_Zq Bundle.tN "SUPPRESSED_SENTINEL" Bundle.listD A s' s'.heap := by rw [hhp]; exact vx_Zq.moved hW0.alike (hN.kept hS.2.1)
  have h : ∀ w ∈ Bundle.ownAtoms0 own ic cls names, w.before args s' = true := vx_own hat' (vx_isRefq hU'.1) (vx_isRefq hN'.1) hU'.2.word hN'.2.word
  have hown' : s'.vm.findClass own = some m.cls := by rw [hvm]; exact hown
  have hins : (Cond.instantiable cls 6).before args s' = true := h _ (by simp [Bundle.ownAtoms0])
  obtain ⟨vm₁, cX, kX, hfX, hkX, -, -, X₁, st1⟩ := Y.newCold hexec (own := own) (C := cls) (index := ik) (n := 6) hown' hk' hins hini'
    (g := F0 m pc ls rest) rfl (by rw [hb]; exact d0) (Nat.le_refl _) (Nat.le_refl _)
  generalize hT1 : (T.setVm vm₁).pushCell { cls := cX, slots := kX.instanceTypes.map defaultValue, vm := .none } = T1 at X₁ st1
  have hcat : (Value.ref T.heap.size).category = 1 := rfl
  have hcellA : T1.heap[T.heap.size]? = some (freshCell cX kX) := by rw [← hT1]; exact State.heap_pushCell_size _ _
  have d3' : decode c.code (pc + 3) = .ok (.dup, 1) := by rw [hb]; exact d3
  obtain ⟨U, hsteps, hrun, hend, hW, hsame, ce, hce, hO⟩ := X₁.ctorThrow0 hexec htr (own := own) (cls := cls) (names := names) (ic := ic) hown' hcls hnames h (fun x hx => nomatch hx) hfX hkX hcellA (by rw [hhp, hT]; exact Nat.le_refl _)
    (g := { method := m, pc := pc + 4, locals := ls, stack := .ref T.heap.size :: .ref T.heap.size :: rest, locked := none }) rfl hsize rfl rfl (rest := rest) rfl
    (by rw [hb]; exact d4) (by rw [hb]; exact d7) hout hRframes (by simp only [List.map_cons, List.sum_cons, hcat]; omega) hlocks
  obtain ⟨f1, f2⟩ := vx_frame hsame
  rw [hhp] at f1 f2
  have hWs : s.WarmedH U.vm := State.WarmedH.trans hW0 hW
  have hcl : s.vm.findClass cls = some ce.cls := by
    have h9 := hO.cls
    rw [hvm] at h9
    exact h9
  have hall : s.sameButNew ({ U with vm := s.vm } : State) locs mc ms := by
    subst hA
    obtain ⟨e1, e2⟩ := hsame
    rw [State.setFrames_setFrames] at e1
    have h2 : (T.setVm s.vm).sameButNew ({ U with vm := s.vm } : State) [] (0 + 1) (0 + 6) := ⟨e1, e2⟩
    have h3 := X.same.trans h2
    rw [List.append_nil] at h3
    exact h3.mono hc hs
  refine ⟨U, ?_, .threw T.heap.size, hrun, hend, Or.inr ⟨T.heap.size, rfl, cls, ce, locs, hx U hWs.alike f1 (fun q hq => f2 q hq (fun z hz => nomatch hz)), hce, hO.vm, hcl, hWs, hall, hf⟩⟩
  refine st1 _ ?_
  show Steps p.tables e below (T1.setTop { method := m, pc := pc + 3, locals := ls, stack := .ref T.heap.size :: rest, locked := none }) _
  jvm_step X₁.here [X₁.here.top, hexec, d3', Value.category]
  exact hsteps
/-- 'throw new E("text")': new; dup; ldc; invokespecial; athrow -/
theorem vx_throwS {cc : ByteArray} {pc : Nat} (hexec : p.tables.exec = Jvm.exec) (hb : c.code = cc) (hl : l.stackTraces = false) {own cls text : String} {names : List String} {ik is ic mc ms sa : Nat} {A : Nat → Prop}
    (hown : s.vm.findClass own = some m.cls) (hcls : Bundle.fit cls = true) (hnames : ∀ n ∈ names, Bundle.fit n = true)
    (hk : (Cond.classLink own ik cls).before args s = true) (hini : (Cond.initialized cls).before args s = true) (hstr : vk_R own is text sa s) (hat : ∀ w ∈ vx_atS own ic cls names, w.before args s = true)
    (hgood : ∀ w ∈ Cond.classLink own ik cls :: Cond.initialized cls :: vx_atS own ic cls names, vx_ot w = true)
    (hU : vx_Zq Bundle.tN "UNASSIGNED_STACK" Bundle.steD A s s.heap) (hN : vx_Zq Bundle.tN "SUPPRESSED_SENTINEL" Bundle.listD A s s.heap) (hS : va_S A s.heap H locs) (hsize : ls.size = c.maxLocals)
    (d0 : decode cc pc = .ok (.new ik, 3)) (d3 : decode cc (pc + 3) = .ok (.dup, 1)) (d4 : decode cc (pc + 4) = .ok (.ldc is, 2)) (d6 : decode cc (pc + 6) = .ok (.invokespecial ic, 3)) (d9 : decode cc (pc + 9) = .ok (.athrow, 1))
    (hout : ∀ x ∈ c.exceptionTable.toList, covers x (pc + 9) = false)
    (hRframes : names.length + 3 < R.frames) (hRlocals : (rest.map fun v => v.category).sum + (13 * (names.length + 1) + 43) ≤ R.locals) (hRcells : cells + 1 ≤ R.cells) (hRslots : slots + 6 ≤ R.slots) (hlocks : meth.locks = false)
    (hx : ∀ t : State, s.vm.Alike t.vm → H.size ≤ t.heap.size → (∀ q : Nat, q < H.size → t.heap[q]? = H[q]?) → XC cls s t)
    (hf : ∀ z ∈ locs, free z.base) (hc : cells + 1 ≤ mc) (hs : slots + 6 ≤ ms) :
    W p l e R s m args below meth c H locs cells slots (vx_MQ below Qc XC args s mc ms free) (F0 m pc ls rest) := by
  intro T hT X
  have htr : e.platform.stackTraces = false := (show e.platform.stackTraces = l.stackTraces by rw [X.admits.platform]).trans hl
  have Y := vx_rebase X (R' := { frames := R.frames, locals := R.locals, cells := 1, slots := 6 }) (Nat.le_refl _) (Nat.le_refl _) hRcells hRslots
  obtain ⟨s', hA⟩ : ∃ z, z = (T.setVm s.vm).setFrames (.invoking m args :: below) := ⟨_, rfl⟩
  rw [← hA] at Y
  have hvm : s'.vm = s.vm := by rw [hA]; rfl
  have hhp : s'.heap = H := by rw [hA]; exact hT
  have hW0 : s.WarmedH s'.vm := by rw [hvm]; exact State.WarmedH.refl s
  have hat' : ∀ w ∈ vx_atS own ic cls names, w.before args s' = true := fun w hw => vx_ot_at hW0 hvm.symm (hgood w (List.mem_cons_of_mem _ (List.mem_cons_of_mem _ hw))) (hat w hw)
  have hk' : (Cond.classLink own ik cls).before args s' = true := vx_ot_at hW0 hvm.symm (hgood _ List.mem_cons_self) hk
  have hini' : (Cond.initialized cls).before args s' = true := vx_ot_at hW0 hvm.symm (hgood _ (List.mem_cons_of_mem _ List.mem_cons_self)) hini
  have hU' : vx_Zq Bundle.tN "UNASSIGNED_STACK" Bundle.steD A s' s'.heap := by rw [hhp]; exact vx_Zq.moved hW0.alike (hU.kept hS.2.1)
  have hN' : vx_Zq Bundle.tN "SUPPRESSED_SENTINEL" Bundle.listD A s' s'.heap := by rw [hhp]; exact vx_Zq.moved hW0.alike (hN.kept hS.2.1)
  have h : ∀ w ∈ Bundle.ownAtoms own ic cls names, w.before args s' = true := vx_own hat' (vx_isRefq hU'.1) (vx_isRefq hN'.1) hU'.2.word hN'.2.word
  have hown' : s'.vm.findClass own = some m.cls := by rw [hvm]; exact hown
  have hins : (Cond.instantiable cls 6).before args s' = true := h _ (by simp [Bundle.ownAtoms])
  obtain ⟨vm₁, cX, kX, hfX, hkX, -, -, X₁, st1⟩ := Y.newCold hexec (own := own) (C := cls) (index := ik) (n := 6) hown' hk' hins hini'
    (g := F0 m pc ls rest) rfl (by rw [hb]; exact d0) (Nat.le_refl _) (Nat.le_refl _)
  generalize hT1 : (T.setVm vm₁).pushCell { cls := cX, slots := kX.instanceTypes.map defaultValue, vm := .none } = T1 at X₁ st1
  have hcat : (Value.ref T.heap.size).category = 1 := rfl
  have hcellA : T1.heap[T.heap.size]? = some (freshCell cX kX) := by rw [← hT1]; exact State.heap_pushCell_size _ _
  have d3' : decode c.code (pc + 3) = .ok (.dup, 1) := by rw [hb]; exact d3
  have d4' : decode c.code (pc + 4) = .ok (.ldc is, 2) := by rw [hb]; exact d4
  have hstr' : vk_R own is text sa s' := vk_R.warm hW0 hstr
  obtain ⟨U, hsteps, hrun, hend, hW, hsame, ce, hce, hO⟩ := X₁.ctorThrowS hexec htr (own := own) (cls := cls) (names := names) (ic := ic) hown' hcls hnames h (fun x hx => nomatch hx) hfX hkX hcellA (by rw [hhp, hT]; exact Nat.le_refl _) (msg := .ref sa) rfl
    (g := { method := m, pc := pc + 6, locals := ls, stack := .ref sa :: .ref T.heap.size :: .ref T.heap.size :: rest, locked := none }) rfl hsize rfl rfl (rest := rest) rfl
    (by rw [hb]; exact d6) (by rw [hb]; exact d9) hout hRframes (by simp only [List.map_cons, List.sum_cons, hcat]; omega) hlocks
  obtain ⟨f1, f2⟩ := vx_frame hsame
  rw [hhp] at f1 f2
  have hWs : s.WarmedH U.vm := State.WarmedH.trans hW0 hW
  have hcl : s.vm.findClass cls = some ce.cls := by
    have h9 := hO.cls
    rw [hvm] at h9
    exact h9
  have hall : s.sameButNew ({ U with vm := s.vm } : State) locs mc ms := by
    subst hA
    obtain ⟨e1, e2⟩ := hsame
    rw [State.setFrames_setFrames] at e1
    have h2 : (T.setVm s.vm).sameButNew ({ U with vm := s.vm } : State) [] (0 + 1) (0 + 6) := ⟨e1, e2⟩
    have h3 := X.same.trans h2
    rw [List.append_nil] at h3
    exact h3.mono hc hs
  refine ⟨U, ?_, .threw T.heap.size, hrun, hend, Or.inr ⟨T.heap.size, rfl, cls, ce, locs, hx U hWs.alike f1 (fun q hq => f2 q hq (fun z hz => nomatch hz)), hce, hO.vm, hcl, hWs, hall, hf⟩⟩
  refine st1 _ ?_
  show Steps p.tables e below (T1.setTop { method := m, pc := pc + 3, locals := ls, stack := .ref T.heap.size :: rest, locked := none }) _
  jvm_step X₁.here [X₁.here.top, hexec, d3', Value.category]
  exact X₁.ldcString hexec (own := own) (text := text) (index := is) (a := sa) hown' hstr'.1 hstr'.2
    (g := { method := m, pc := pc + 4, locals := ls, stack := .ref T.heap.size :: .ref T.heap.size :: rest, locked := none }) rfl d4' _ hsteps
/-- 'throw new E("text")', the text by a wide index -/
theorem vx_throwSW {cc : ByteArray} {pc : Nat} (hexec : p.tables.exec = Jvm.exec) (hb : c.code = cc) (hl : l.stackTraces = false) {own cls text : String} {names : List String} {ik is ic mc ms sa : Nat} {A : Nat → Prop}
    (hown : s.vm.findClass own = some m.cls) (hcls : Bundle.fit cls = true) (hnames : ∀ n ∈ names, Bundle.fit n = true)
    (hk : (Cond.classLink own ik cls).before args s = true) (hini : (Cond.initialized cls).before args s = true) (hstr : vk_R own is text sa s) (hat : ∀ w ∈ vx_atS own ic cls names, w.before args s = true)
    (hgood : ∀ w ∈ Cond.classLink own ik cls :: Cond.initialized cls :: vx_atS own ic cls names, vx_ot w = true)
    (hU : vx_Zq Bundle.tN "UNASSIGNED_STACK" Bundle.steD A s s.heap) (hN : vx_Zq Bundle.tN "SUPPRESSED_SENTINEL" Bundle.listD A s s.heap) (hS : va_S A s.heap H locs) (hsize : ls.size = c.maxLocals)
    (d0 : decode cc pc = .ok (.new ik, 3)) (d3 : decode cc (pc + 3) = .ok (.dup, 1)) (d4 : decode cc (pc + 4) = .ok (.ldc_w is, 3)) (d7 : decode cc (pc + 7) = .ok (.invokespecial ic, 3)) (d10 : decode cc (pc + 10) = .ok (.athrow, 1))
    (hout : ∀ x ∈ c.exceptionTable.toList, covers x (pc + 10) = false)
    (hRframes : names.length + 3 < R.frames) (hRlocals : (rest.map fun v => v.category).sum + (13 * (names.length + 1) + 43) ≤ R.locals) (hRcells : cells + 1 ≤ R.cells) (hRslots : slots + 6 ≤ R.slots) (hlocks : meth.locks = false)
    (hx : ∀ t : State, s.vm.Alike t.vm → H.size ≤ t.heap.size → (∀ q : Nat, q < H.size → t.heap[q]? = H[q]?) → XC cls s t)
    (hf : ∀ z ∈ locs, free z.base) (hc : cells + 1 ≤ mc) (hs : slots + 6 ≤ ms) :
    W p l e R s m args below meth c H locs cells slots (vx_MQ below Qc XC args s mc ms free) (F0 m pc ls rest) := by
  intro T hT X
  have htr : e.platform.stackTraces = false := (show e.platform.stackTraces = l.stackTraces by rw [X.admits.platform]).trans hl
  have Y := vx_rebase X (R' := { frames := R.frames, locals := R.locals, cells := 1, slots := 6 }) (Nat.le_refl _) (Nat.le_refl _) hRcells hRslots
  obtain ⟨s', hA⟩ : ∃ z, z = (T.setVm s.vm).setFrames (.invoking m args :: below) := ⟨_, rfl⟩
  rw [← hA] at Y
  have hvm : s'.vm = s.vm := by rw [hA]; rfl
  have hhp : s'.heap = H := by rw [hA]; exact hT
  have hW0 : s.WarmedH s'.vm := by rw [hvm]; exact State.WarmedH.refl s
  have hat' : ∀ w ∈ vx_atS own ic cls names, w.before args s' = true := fun w hw => vx_ot_at hW0 hvm.symm (hgood w (List.mem_cons_of_mem _ (List.mem_cons_of_mem _ hw))) (hat w hw)
  have hk' : (Cond.classLink own ik cls).before args s' = true := vx_ot_at hW0 hvm.symm (hgood _ List.mem_cons_self) hk
  have hini' : (Cond.initialized cls).before args s' = true := vx_ot_at hW0 hvm.symm (hgood _ (List.mem_cons_of_mem _ List.mem_cons_self)) hini
  have hU' : vx_Zq Bundle.tN "UNASSIGNED_STACK" Bundle.steD A s' s'.heap := by rw [hhp]; exact vx_Zq.moved hW0.alike (hU.kept hS.2.1)
  have hN' : vx_Zq Bundle.tN "SUPPRESSED_SENTINEL" Bundle.listD A s' s'.heap := by rw [hhp]; exact vx_Zq.moved hW0.alike (hN.kept hS.2.1)
  have h : ∀ w ∈ Bundle.ownAtoms own ic cls names, w.before args s' = true := vx_own hat' (vx_isRefq hU'.1) (vx_isRefq hN'.1) hU'.2.word hN'.2.word
  have hown' : s'.vm.findClass own = some m.cls := by rw [hvm]; exact hown
  have hins : (Cond.instantiable cls 6).before args s' = true := h _ (by simp [Bundle.ownAtoms])
  obtain ⟨vm₁, cX, kX, hfX, hkX, -, -, X₁, st1⟩ := Y.newCold hexec (own := own) (C := cls) (index := ik) (n := 6) hown' hk' hins hini'
    (g := F0 m pc ls rest) rfl (by rw [hb]; exact d0) (Nat.le_refl _) (Nat.le_refl _)
  generalize hT1 : (T.setVm vm₁).pushCell { cls := cX, slots := kX.instanceTypes.map defaultValue, vm := .none } = T1 at X₁ st1
  have hcat : (Value.ref T.heap.size).category = 1 := rfl
  have hcellA : T1.heap[T.heap.size]? = some (freshCell cX kX) := by rw [← hT1]; exact State.heap_pushCell_size _ _
  have d3' : decode c.code (pc + 3) = .ok (.dup, 1) := by rw [hb]; exact d3
  have d4' : decode c.code (pc + 4) = .ok (.ldc_w is, 3) := by rw [hb]; exact d4
  have hstr' : vk_R own is text sa s' := vk_R.warm hW0 hstr
  obtain ⟨U, hsteps, hrun, hend, hW, hsame, ce, hce, hO⟩ := X₁.ctorThrowS hexec htr (own := own) (cls := cls) (names := names) (ic := ic) hown' hcls hnames h (fun x hx => nomatch hx) hfX hkX hcellA (by rw [hhp, hT]; exact Nat.le_refl _) (msg := .ref sa) rfl
    (g := { method := m, pc := pc + 7, locals := ls, stack := .ref sa :: .ref T.heap.size :: .ref T.heap.size :: rest, locked := none }) rfl hsize rfl rfl (rest := rest) rfl
    (by rw [hb]; exact d7) (by rw [hb]; exact d10) hout hRframes (by simp only [List.map_cons, List.sum_cons, hcat]; omega) hlocks
  obtain ⟨f1, f2⟩ := vx_frame hsame
  rw [hhp] at f1 f2
  have hWs : s.WarmedH U.vm := State.WarmedH.trans hW0 hW
  have hcl : s.vm.findClass cls = some ce.cls := by
    have h9 := hO.cls
    rw [hvm] at h9
    exact h9
  have hall : s.sameButNew ({ U with vm := s.vm } : State) locs mc ms := by
    subst hA
    obtain ⟨e1, e2⟩ := hsame
    rw [State.setFrames_setFrames] at e1
    have h2 : (T.setVm s.vm).sameButNew ({ U with vm := s.vm } : State) [] (0 + 1) (0 + 6) := ⟨e1, e2⟩
    have h3 := X.same.trans h2
    rw [List.append_nil] at h3
    exact h3.mono hc hs
  refine ⟨U, ?_, .threw T.heap.size, hrun, hend, Or.inr ⟨T.heap.size, rfl, cls, ce, locs, hx U hWs.alike f1 (fun q hq => f2 q hq (fun z hz => nomatch hz)), hce, hO.vm, hcl, hWs, hall, hf⟩⟩
  refine st1 _ ?_
  show Steps p.tables e below (T1.setTop { method := m, pc := pc + 3, locals := ls, stack := .ref T.heap.size :: rest, locked := none }) _
  jvm_step X₁.here [X₁.here.top, hexec, d3', Value.category]
  exact X₁.ldcStringW hexec (own := own) (text := text) (index := is) (a := sa) hown' hstr'.1 hstr'.2
    (g := { method := m, pc := pc + 4, locals := ls, stack := .ref T.heap.size :: .ref T.heap.size :: rest, locked := none }) rfl d4' _ hsteps
end Ends
section Bodies
variable {l : Launch}
theorem vx_ofW {y : MethodName} {ws ws' : List Cond} {rm : Room} {Pc : Array Value → State → Prop} {Qc : Array Value → State → Outcome → State → Prop} {XC : String → State → State → Prop} {mc ms : Nat} {free : Addr → Prop} {cc : ByteArray} {maxL : Nat} {ret : Option FieldType}
    (hy : plainName y.cls = true) (hw : ws = Cond.code y cc maxL ret :: ws')
    (body : ∀ p e s m args below meth c s₁, BodyLoose p l y (headSpec ws rm) cc maxL ret e s m args below meth c s₁ → c.maxLocals = maxL → (∀ x ∈ c.exceptionTable.toList, False) → Pc args s →
      W p l e (headSpec ws rm).room s m args below meth c s.heap [] 0 0 (vx_MQ below Qc XC args s mc ms free) (entryFrame m args maxL)) : vx_Met l y ws rm Pc Qc XC mc ms free := by
  refine MetFree.of_bodyS (code := cc) (maxLocals := maxL) (ret := ret) hy ?_ ?_
  · intro args s m h hn
    obtain ⟨meth, c, h1, h2, h3, h4, h5, h6, -, -⟩ := Cond.code_spec hn (atoms_spec (ws := ws) h _ (by rw [hw]; exact List.mem_cons_self))
    exact ⟨meth, c, h1, h2, h3, h4, h5, h6⟩
  · intro p e s m args below meth c s₁ B hml hP _
    have hh0 : s₁.heap = s.heap := by rw [B.state]; rfl
    have ht : ∀ x ∈ c.exceptionTable.toList, False := by
      obtain ⟨meth9, c9, h1, h2, -, -, -, -, h7, -⟩ := Cond.code_spec B.named (atoms_spec (ws := ws) B.pre _ (by rw [hw]; exact List.mem_cons_self))
      cases Option.some.inj (h1.symm.trans B.method)
      cases Option.some.inj (h2.symm.trans (Stand.of_body B).code)
      intro x hx
      rw [Array.isEmpty_iff.mp h7] at hx
      cases hx
    obtain ⟨t, a1, o, b1, b2, b3⟩ := body p e s m args below meth c s₁ B hml ht hP s₁ hh0 (Stand.of_body B)
    exact ⟨t, o, a1, b1, b2, b3⟩
/-- the table of a body with handlers -/
theorem vx_table {p : Program} {x y : MethodName} {S : Spec} {cc bytes : ByteArray} {maxL maxL' : Nat} {ret ret' : Option FieldType} {e : Env} {s s₁ : State} {m : MethodId} {args : Array Value} {below : List Frame} {meth : Method} {c : Code} {hh : List (Nat × Nat × Nat × Nat)}
    (B : BodyLoose p l y S cc maxL ret e s m args below meth c s₁) (h : (Cond.codeWith y bytes maxL' ret' hh).before args s = true) : c.exceptionTable.toList = tableOf hh := by
  obtain ⟨m9, meth9, c9, hn9, h1, h2, -, -, h6, -⟩ := Cond.codeWith_spec h
  cases Option.some.inj (hn9.symm.trans B.named)
  cases Option.some.inj (h1.symm.trans B.method)
  cases Option.some.inj (h2.symm.trans (Stand.of_body B).code)
  rw [← h6, table_eq]
end Bodies
end VXA
/-! ===== END ===== -/
/-! ===== BEGIN a static call of a method with an exception table ===== -/
section VXS
variable {p : Program} {l : Launch} {e : Env} {R : Room} {s : State} {m : MethodId} {args : Array Value} {below : List Frame} {meth : Method} {c : Code} {T : State} {H : Heap} {locs : List Loc} {cells slots : Nat}
abbrev vx_CSW (R : Room) (s : State) (args : Array Value) (own : String) (index : Nat) (y : MethodName) (bytes : ByteArray) (maxL : Nat) (ret : Option FieldType) (hh : List (Nat × Nat × Nat × Nat)) (ws : List Cond) (rm : Room) (mc ms n : Nat) : Prop :=
  (rm.cells = mc ∧ rm.slots = ms ∧ rm.frames + 1 ≤ R.frames ∧ 8 + (maxL + 11) + rm.locals ≤ R.locals ∧ (∀ w ∈ ws, ∀ (a' : Array Value) (U : State), s.WarmedH U.vm → w.before a' U = true) ∧ Cond.codeWith y bytes maxL ret hh ∈ ws) ∧
  (Cond.codeWith y bytes maxL ret hh).before args s = true ∧ (Cond.initialized y.cls).before args s = true ∧ (y.cls ≠ "java/lang/invoke/MethodHandle" ∧ y.cls ≠ "java/lang/invoke/VarHandle") ∧
  (∀ sig, parseMethodDescriptor y.desc = some sig → n = sig.parameters.length) ∧ (Cond.methodLink own index y).before args s = true ∧ (Cond.static y).before args s = true
theorem vx_cwSW {own : String} {index maxL mc ms : Nat} {y : MethodName} {bytes : ByteArray} {ret : Option FieldType} {hh : List (Nat × Nat × Nat × Nat)} {Ts ws ws' : List Cond} {rm : Room} (n : Nat) (ht : ∀ w ∈ Ts, w.before args s = true) (hT : GoodIn Ts (va_wsS own index y ws)) (hw : ws = Cond.codeWith y bytes maxL ret hh :: ws') (hrc : rm.cells = mc) (hrs : rm.slots = ms)
    (hd : y.cls ≠ "java/lang/invoke/MethodHandle" ∧ y.cls ≠ "java/lang/invoke/VarHandle" ∧ (parseMethodDescriptor y.desc).map (fun d => d.parameters.length) = some n) (hR : rm.frames + 1 ≤ R.frames ∧ 8 + (maxL + 11) + rm.locals ≤ R.locals) :
    vx_CSW R s args own index y bytes maxL ret hh ws rm mc ms n := by
  have ok : ∀ w ∈ va_wsS own index y ws, w.before args s = true := fun w h => ht w (hT w h).1
  have hG : GoodIn Ts ws := fun w h => hT w (by unfold va_wsS; exact List.mem_append_right _ h)
  have hc : Cond.codeWith y bytes maxL ret hh ∈ ws := by rw [hw]; exact List.mem_cons_self
  refine ⟨⟨hrc, hrs, hR.1, hR.2, pay_in ht hG, hc⟩, ht _ (hG _ hc).1, ok _ (by simp [va_wsS]), ⟨hd.1, hd.2.1⟩, fun sig h => ?_, ok _ (by simp [va_wsS]), ok _ (by simp [va_wsS])⟩
  have h2 := hd.2.2
  rw [h] at h2
  exact (Option.some.inj h2).symm
theorem vx_callSW (X : Stand p l e R s m args below meth c T locs cells slots) (hexec : p.tables.exec = Jvm.exec) {own : String} {index : Nat} {y : MethodName} {bytes : ByteArray} {maxL : Nat} {ret : Option FieldType} {hh : List (Nat × Nat × Nat × Nat)}
    (hown : s.vm.findClass own = some m.cls) (hlink : (Cond.methodLink own index y).before args s = true) (hstat : (Cond.static y).before args s = true) (hinit : (Cond.initialized y.cls).before args s = true)
    (hcode : (Cond.codeWith y bytes maxL ret hh).before args s = true) (hy : y.cls ≠ "java/lang/invoke/MethodHandle" ∧ y.cls ≠ "java/lang/invoke/VarHandle")
    {W9 : Nat} {Pre : Pt → Array Value → Prop} {Post : Pt → Array Value → Option Value → Pt → Prop} (hK : Back l R p e below s args y 3 W9 Pre Post)
    {g : JFrame} (hg : g.method = m) (hsize : g.locals.size = c.maxLocals) {argsL rest : List Value} (hlen : ∀ sig, parseMethodDescriptor y.desc = some sig → argsL.length = sig.parameters.length)
    (hstack : g.stack = argsL.reverse ++ rest) (hW : 2 * g.monitorRoom + (rest.map fun v => v.category).sum ≤ W9) (hdg : decode c.code g.pc = .ok (.invokestatic index, 3))
    (hpre : ∀ vm₁, s.WarmedH vm₁ → Pre ⟨T.setVm vm₁, locs, cells, slots⟩ argsL.toArray) :
    ∃ (v : Option Value) (vm₁ : Vm) (B : Pt), s.WarmedH vm₁ ∧ Stand p l e R s m args below meth c B.U B.locs B.cells B.slots ∧ Post ⟨T.setVm vm₁, locs, cells, slots⟩ argsL.toArray v B ∧
      ∀ target, Steps p.tables e below (B.U.setTop { g with pc := g.pc + 3, stack := v.toList ++ rest }) target → Steps p.tables e below (T.setTop g) target := by
  obtain ⟨mk, methM, cM, hnamed, hmethM, -, -, -, -, -, -, hsigM⟩ := Cond.codeWith_spec hcode
  have hstatic : methM.isStatic = true := Cond.static_spec hnamed hmethM hstat
  obtain ⟨kP, hkP, -⟩ := className_of_methodNamed hnamed
  have hinitP : kP.init = .initialized := Cond.initialized_spec (findClass_of_methodNamed hnamed) hkP hinit
  obtain ⟨vm₁, X₁, hstep₁⟩ := X.invokestatic hexec hown hlink hnamed hmethM hstatic hkP hinitP hy (g := g) hg (argsL := argsL) (rest := rest) (hlen _ hsigM) hstack hdg
  obtain ⟨v, B, X', hpost, hsteps⟩ := hK m meth c ⟨T.setVm vm₁, locs, cells, slots⟩ { g with stack := rest } (.invokestatic index) mk argsL.toArray X₁ hg hsize hdg hW (X₁.named hnamed) (hpre vm₁ X₁.warmed)
  exact ⟨v, vm₁, B, X₁.warmed, X', hpost, fun target h => hstep₁ _ fun acts => by rw [doInvoke_state]; exact hsteps.trans h⟩
theorem vx_runSW {y : MethodName} {bytes cc : ByteArray} {maxL nL mc ms n index : Nat} {ret : Option FieldType} {hh : List (Nat × Nat × Nat × Nat)} {ws : List Cond} {rm : Room} {Pc : Array Value → State → Prop} {Qc : Array Value → State → Outcome → State → Prop} {free : Addr → Prop} {Ts : List Cond} {own : String} {As rest : List Value} {g : JFrame}
    (S : CallFix p m c cc nL s args Ts own) (hM : Met l y ws rm Pc Qc mc ms free) (cw : vx_CSW R s args own index y bytes maxL ret hh ws rm mc ms n) (hp : PreS s H Pc As)
    (hg : g.method = m) (hn : As.length = n) (hsize : g.locals.size = nL) (hstack : g.stack = As.reverse ++ rest) (hW : 2 * g.monitorRoom + (rest.map fun v => v.category).sum ≤ 8) (hdg : decode cc g.pc = .ok (.invokestatic index, 3)) (hf : cells + mc ≤ R.cells ∧ slots + ms ≤ R.slots) :
    va_Run p l e R s m args below meth c H locs cells slots mc ms g rest (Qc As.toArray) (free) := by
  obtain ⟨⟨hrc, hrs, hfr, hlo, hws, hcw⟩, hcode, hini, hy, hlen, hl, hstt⟩ := cw
  have hK : Back l R p e below s args y 3 8 (PreOf R mc ms Pc) (PostOf Qc mc ms free) := va_backW (hh := hh) (bytes := bytes) (maxL := maxL) (ret := ret) hM hp.1 hrc hrs hfr hlo hws hcw (fun a' U hW => word_at hW (Or.inl (by first | rfl | simp [Cond.onTables, Cond.keeps, Cond.steady])) hini)
  obtain ⟨hx, hb, hml, ho, -⟩ := S
  intro T hT X
  obtain ⟨v, vm₁, ⟨U', l2, c2, s2⟩, hW₁, X', ⟨g', mk, t, L, e1, e2, hq, h1, hL, h2, h3⟩, st⟩ := vx_callSW X hx (hh := hh) (bytes := bytes) (maxL := maxL) (ret := ret) ho hl hstt hini hcode hy hK hg (hsize.trans hml.symm) (argsL := As) (rest := rest) (fun sig h => hn.trans (hlen sig h)) hstack hW (by rw [hb]; exact hdg)
    (fun vm₁ hW₁ => ⟨hf.1, hf.2, hp.2 (T.setVm vm₁) hT hW₁⟩)
  dsimp only [Pt.U, Pt.locs, Pt.cells, Pt.slots] at X' e1 e2 h1 h2 h3 st
  subst h1; subst h2; subst h3
  exact ⟨v, (T.setVm vm₁).calling g' mk As.toArray, t, U', L, hT, X', hL, e1, e2, hq, st⟩
/-- not caught here, past rows that name other classes: it goes on to the caller -/
theorem vx_outP {p : Program} {l : Launch} {e : Env} {R : Room} {s : State} {m : MethodId} {args : Array Value} {below : List Frame} {meth : Method} {c : Code} {H : Heap} {locs : List Loc} {cells slots : Nat} {free : Addr → Prop} {ls : Array Slot} {rest : List Value} {Qc : Array Value → State → Outcome → State → Prop} {XC : String → State → State → Prop}
    {pc : Nat} {own E : String} {ce : Cell} {q : Addr} {mc ms : Nat} (hown : s.vm.findClass own = some m.cls) (hlocks : meth.locks = false)
    (hpass : ∀ z ∈ c.exceptionTable.toList, covers z pc = false ∨ (z.catchType ≠ 0 ∧ ∃ nm : String, (Cond.classLink own z.catchType nm).before args s = true ∧ va_Nc E nm s)) (hcell : H[q]? = some ce) (hv : ce.vm = .none) (hcl : s.vm.findClass E = some ce.cls)
    (hx : ∀ t : State, t.heap = H → s.vm.Alike t.vm → XC E s t) (hf : ∀ z ∈ locs, free z.base) (hc : cells ≤ mc) (hs : slots ≤ ms) :
    vx_W p l e R s m args below meth c H locs cells slots (vx_MQ below Qc XC args s mc ms free) (F0 m pc ls rest) q := by
  intro T hT X
  have hpl : e.platform.magicAccessors = ({} : Platform).magicAccessors := by rw [X.admits.platform]
  obtain ⟨vm', hW', X', st⟩ := X.outThrough hlocks q (g := F0 m pc ls rest) rfl rfl rfl (cell := ce) (by rw [hT]; exact hcell) (by rw [hv]; rfl)
    (by obtain ⟨k9, h9, -⟩ := Vm.findClass_spec hcl; exact ⟨k9, h9⟩) (fun z hz => by
      rcases hpass z hz with h | ⟨hz0, nm, hl1, hn1⟩
      · exact Or.inl h
      · obtain ⟨c6, hc6, hcl6⟩ := Cond.classLink_spec hown hl1 e.platform hpl
        obtain ⟨a8, b8, h1, h2, h3⟩ := hn1
        cases Option.some.inj (h1.symm.trans hcl)
        cases Option.some.inj (h2.symm.trans hc6)
        exact Or.inr ⟨hz0, _, hcl6, h3⟩)
  obtain ⟨g₀, hfr⟩ := X'.frames_eq
  have hcell9 : ((T.setVm vm').setFrames (.throwing q :: below)).heap[q]? = some ce := by
    show T.heap[q]? = some ce
    rw [hT]; exact hcell
  have hend : Ended ((T.setVm vm').setFrames (.throwing q :: below)) below (.threw q) := State.frames_setFrames _ (State.cur_lt_of_frames hfr)
  refine ⟨(T.setVm vm').setFrames (.throwing q :: below), ?_, .threw q, X'.here.running, hend, Or.inr ⟨q, rfl, E, ce, locs, hx _ hT (X'.ends _).1.alike, hcell9, hv, hcl, (X'.ends _).1, (X'.ends _).2.mono hc hs, hf⟩⟩
  rw [X.pushThrowing_eq]
  exact st
/-- a thing of a world lies in the heap -/
theorem vx_lt {D : va_G} {cl : List vw_C} {ws : va_W} {H1 : Heap} (h : va_P D cl ws H1) {k : Nat} {q : Nat × va_E} (hk : ws[k]? = some q) : q.1 < H1.size := (h k q hk).lt
end VXS
/-! ===== END ===== -/
/-! ===== BEGIN methods with a table of their own: called by a name, returning or throwing ===== -/
section VXH
/-! vx_backW, vx_callVX, vx_callSX, vx_callVW, vx_runVW, vx_runVX, vx_runSX, vx_ofWH follow the same proofs as their sisters above (Free/Laws.lean, Shelf42/LK1.lean); vx_outP calls Shelf42/NT130.lean (outThrough). -/
section
variable {l : Launch} {R : Room} {p : Program} {e : Env} {below : List Frame} {s : State} {sargs : Array Value} {y : MethodName} {len W9 : Nat}
theorem vx_backW {ws : List Cond} {rm : Room} {Pc : Array Value → State → Prop} {Qc : Array Value → State → Outcome → State → Prop} {XC : String → State → State → Prop} {mc ms : Nat} {free : Addr → Prop} {bytes : ByteArray} {maxL : Nat} {ret : Option FieldType} {hh : List (Nat × Nat × Nat × Nat)}
    (hM : vx_Met l y ws rm Pc Qc XC mc ms free) (hblind : FrameBlind Pc) (hrc : rm.cells = mc) (hrs : rm.slots = ms)
    (hframes : rm.frames + 1 ≤ R.frames) (hlocals : W9 + (maxL + 11) + rm.locals ≤ R.locals)
    (hws : ∀ w ∈ ws, ∀ a' U, s.WarmedH U.vm → w.before a' U = true) (hcode : Cond.codeWith y bytes maxL ret hh ∈ ws) (hinit : ∀ a' U, s.WarmedH U.vm → (Cond.initialized y.cls).before a' U = true) :
    vx_Back l R p e below s sargs y len W9 (PreOf R mc ms Pc) (PostOf Qc mc ms free) (vx_Post XC mc ms free) := by
  intro m meth c A g ig mk a X hg hsize hdg hW hn hp
  have h1 : (headSpec ws rm).pre.before a A.U = true := atoms_intro fun w hw => hws w hw _ _ X.warmed
  have h2 : (Cond.codeWith y bytes maxL ret hh).before a A.U = true := hws _ hcode _ _ X.warmed
  have h3 : (Cond.initialized y.cls).before a A.U = true := hinit _ _ X.warmed
  have h4 : A.cells + (headSpec ws rm).room.cells ≤ R.cells := by rw [show (headSpec ws rm).room.cells = mc from hrc]; exact hp.1
  have h5 : A.slots + (headSpec ws rm).room.slots ≤ R.slots := by rw [show (headSpec ws rm).room.slots = ms from hrs]; exact hp.2.1
  have hPc : Pc a (A.U.calling g mk a) := hblind _ _ _ _ hp.2.2
  obtain ⟨U, Ls, c0, s0⟩ := A
  dsimp only [Pt.U, Pt.locs, Pt.cells, Pt.slots] at h1 h2 h3 h4 h5 X hn hPc ⊢
  obtain ⟨m9, methY, cY, hn9, hmY, hcY, -, hlY, -⟩ := Cond.codeWith_spec h2
  cases Option.some.inj (hn9.symm.trans hn)
  obtain ⟨kY, hkY, -⟩ := className_of_methodNamed hn
  have hinitY : kY.init = .initialized := Cond.initialized_spec (findClass_of_methodNamed hn) hkY h3
  have h : At U g.method c below := by rw [hg]; exact X.here
  have hlocals9 : W9 + (maxL + 11) + (headSpec ws rm).room.locals ≤ R.locals := hlocals
  have happ : (headSpec ws rm).appliesLoose y e.platform (U.calling g mk a) = true :=
    Spec.appliesLoose_calling (g := g) h hdg hn hkY hinitY
      (X.room_calling (g := g) (R' := (headSpec ws rm).room) hsize hmY hcY hframes (by rw [hlY]; omega) h4 h5) h1
  obtain ⟨mid, hmid⟩ := h.above
  have hfr : (U.setTop g).frames = (.java g :: mid) ++ below := by rw [State.frames_setTop' g h.top, hmid]; rfl
  obtain ⟨o, s₂, hsteps, -, hend, hq⟩ := Steps.callFree hM p X.admits X.cas X.clock (acts := []) hfr happ hPc trivial
  have hq' : vx_Q Qc XC mc ms free a (U.calling g mk a) o s₂ := hq
  rw [State.frames_setTop' g h.top] at hend
  obtain ⟨g₀, hg0⟩ := Option.isSome_iff_exists.mp h.top
  obtain ⟨r, hr⟩ := State.topJava?_eq_some.mp hg0
  have hr' : (({ U with heap := s₂.heap, slotsUsed := s₂.slotsUsed } : State).setVm s₂.vm).frames = .java g₀ :: r := hr
  rcases hq' with ⟨hqc, L, hfe, hL⟩ | ⟨q, rfl, E, ce, L, hx, hce, hcv, hcl, hW₂, hsm, hL⟩
  · obtain ⟨⟨v, rfl⟩, hW₂, e2, q2, q3, q4, q5, q6⟩ := id hfe
    have e3 : s₂ = ({ (U.calling g mk a).setFrames s₂.frames with heap := s₂.heap, slotsUsed := s₂.slotsUsed } : State).setVm s₂.vm := by
      have : s₂ = ({ s₂ with vm := (U.calling g mk a).vm } : State).setVm s₂.vm := rfl
      rw [e2] at this
      exact this
    obtain ⟨c₂, i₂, len₂, hc₂, hd₂, hf₂⟩ := hend
    have hW' : U.WarmedH s₂.vm := hW₂
    have hcc : c₂ = c := by
      have h1 : s₂.code? g.method = U.code? g.method := by
        rw [State.code?_eq, State.code?_eq, hW'.alike.method?]
      exact Option.some.inj (hc₂.symm.trans (h1.trans h.code))
    subst hcc
    have hlen : len₂ = len := by rw [hdg] at hd₂; cases hd₂; rfl
    subst hlen
    have hs₂ : s₂ = (({ U with heap := s₂.heap, slotsUsed := s₂.slotsUsed } : State).setVm s₂.vm).setTop { g with pc := g.pc + len₂, stack := v.toList ++ g.stack } := by
      refine e3.trans ?_
      rw [hf₂, State.calling_eq h.top, State.setFrames_setFrames, State.setTop_of_frames _ hr', hr]
      rfl
    have hsame : U.sameButNew ({ U with heap := s₂.heap, slotsUsed := s₂.slotsUsed } : State) L mc ms := by
      refine ⟨?_, q2, q3, q4, q5, q6⟩
      obtain ⟨t, ht, -⟩ := State.frames_cons hr
      show ({ U with heap := s₂.heap, slotsUsed := s₂.slotsUsed } : State) = { U.setFrames U.frames with heap := s₂.heap, slotsUsed := s₂.slotsUsed }
      rw [State.setFrames_self ht]
    subst hg
    refine Or.inl ⟨v, ⟨(({ U with heap := s₂.heap, slotsUsed := s₂.slotsUsed } : State).setVm s₂.vm), Ls ++ L, c0 + mc, s0 + ms⟩,
      ⟨X.admits, X.cas, X.clock, X.frames, X.room, X.hears, X.method, X.code, (X.here.setHeapUsed s₂.heap s₂.slotsUsed).setVm hW'.alike, X.tail, State.WarmedH.trans X.warmed hW', X.limits, X.bytes, X.same.trans (hsame.setVm s.vm)⟩,
      ⟨g, mk, s₂, L, rfl, rfl, hqc, rfl, hL, rfl, rfl⟩, ?_⟩
    show Steps p.tables e below _ ((({ U with heap := s₂.heap, slotsUsed := s₂.slotsUsed } : State).setVm s₂.vm).setTop { g with pc := g.pc + len₂, stack := v.toList ++ g.stack })
    rw [← hs₂]
    exact hsteps
  · obtain ⟨e2, q2, q3, q4, q5, q6⟩ := id hsm
    have e3 : s₂ = ({ (U.calling g mk a).setFrames s₂.frames with heap := s₂.heap, slotsUsed := s₂.slotsUsed } : State).setVm s₂.vm := by
      have : s₂ = ({ s₂ with vm := (U.calling g mk a).vm } : State).setVm s₂.vm := rfl
      rw [e2] at this
      exact this
    have hf₂ : s₂.frames = .throwing q :: .java g :: U.frames.tail := hend
    have hW' : U.WarmedH s₂.vm := hW₂
    have hs₂ : s₂ = ((({ U with heap := s₂.heap, slotsUsed := s₂.slotsUsed } : State).setVm s₂.vm).setTop g).pushFrame (.throwing q) := by
      refine e3.trans ?_
      rw [hf₂, State.calling_eq h.top, State.setFrames_setFrames, State.pushFrame, State.frames_setTop _ hr', State.setTop_of_frames _ hr', State.setFrames_setFrames, hr]
      rfl
    have hsame : U.sameButNew ({ U with heap := s₂.heap, slotsUsed := s₂.slotsUsed } : State) L mc ms := by
      refine ⟨?_, q2, q3, q4, q5, q6⟩
      obtain ⟨t, ht, -⟩ := State.frames_cons hr
      show ({ U with heap := s₂.heap, slotsUsed := s₂.slotsUsed } : State) = { U.setFrames U.frames with heap := s₂.heap, slotsUsed := s₂.slotsUsed }
      rw [State.setFrames_self ht]
    subst hg
    refine Or.inr ⟨q, ⟨(({ U with heap := s₂.heap, slotsUsed := s₂.slotsUsed } : State).setVm s₂.vm), Ls ++ L, c0 + mc, s0 + ms⟩,
      ⟨X.admits, X.cas, X.clock, X.frames, X.room, X.hears, X.method, X.code, (X.here.setHeapUsed s₂.heap s₂.slotsUsed).setVm hW'.alike, X.tail, State.WarmedH.trans X.warmed hW', X.limits, X.bytes, X.same.trans (hsame.setVm s.vm)⟩,
      ⟨g, mk, s₂, L, E, ce, rfl, rfl, hx, hce, hcv, hcl, rfl, hL, rfl, rfl⟩, ?_⟩
    show Steps p.tables e below _ (((({ U with heap := s₂.heap, slotsUsed := s₂.slotsUsed } : State).setVm s₂.vm).setTop g).pushFrame (.throwing q))
    rw [← hs₂]
    exact hsteps
end
variable {p : Program} {l : Launch} {e : Env} {R : Room} {s : State} {m : MethodId} {args : Array Value} {below : List Frame} {meth : Method} {c : Code} {T : State} {H : Heap} {locs : List Loc} {cells slots : Nat}
theorem vx_callVX (X : Stand p l e R s m args below meth c T locs cells slots) (hexec : p.tables.exec = Jvm.exec) {own C : String} {index : Nat} {y : MethodName} {bytes : ByteArray} {maxL : Nat} {ret : Option FieldType} {hh : List (Nat × Nat × Nat × Nat)}
    (hown : s.vm.findClass own = some m.cls) (hlink : (Cond.methodLink own index y).before args s = true) (hinst : (Cond.instanceMethod y).before args s = true) (hsel : (Cond.selects C y y).before args s = true)
    (hcode : (Cond.codeWith y bytes maxL ret hh).before args s = true) (hy : y.cls ≠ "java/lang/invoke/MethodHandle" ∧ y.cls ≠ "java/lang/invoke/VarHandle")
    {W9 : Nat} {Pre : Pt → Array Value → Prop} {Post : Pt → Array Value → Option Value → Pt → Prop} {PostX : Pt → Array Value → Addr → Pt → Prop} (hK : vx_Back l R p e below s args y 3 W9 Pre Post PostX)
    {b : Addr} {cellB : Cell} (hcell : T.heap[b]? = some cellB) (hobj : cellB.vm.isStatics = false) (hcls : s.vm.findClass C = some cellB.cls)
    {g : JFrame} (hg : g.method = m) (hsize : g.locals.size = c.maxLocals) {argsL rest : List Value} (hlen : ∀ sig, parseMethodDescriptor y.desc = some sig → argsL.length = sig.parameters.length)
    (hstack : g.stack = argsL.reverse ++ .ref b :: rest) (hW : 2 * g.monitorRoom + (rest.map fun v => v.category).sum ≤ W9) (hdg : decode c.code g.pc = .ok (.invokevirtual index, 3))
    (hpre : ∀ vm₁, s.WarmedH vm₁ → Pre ⟨T.setVm vm₁, locs, cells, slots⟩ (Value.ref b :: argsL).toArray) :
    (∃ (v : Option Value) (vm₁ : Vm) (B : Pt), s.WarmedH vm₁ ∧ Stand p l e R s m args below meth c B.U B.locs B.cells B.slots ∧ Post ⟨T.setVm vm₁, locs, cells, slots⟩ (Value.ref b :: argsL).toArray v B ∧
      ∀ target, Steps p.tables e below (B.U.setTop { g with pc := g.pc + 3, stack := v.toList ++ rest }) target → Steps p.tables e below (T.setTop g) target) ∨
    (∃ (q : Addr) (vm₁ : Vm) (B : Pt), s.WarmedH vm₁ ∧ Stand p l e R s m args below meth c B.U B.locs B.cells B.slots ∧ PostX ⟨T.setVm vm₁, locs, cells, slots⟩ (Value.ref b :: argsL).toArray q B ∧
      Steps p.tables e below (T.setTop g) ((B.U.setTop { g with stack := rest }).pushFrame (.throwing q))) := by
  obtain ⟨mk, methM, hnamed, hmethM, hstM, habM⟩ := Cond.instanceMethod_spec hinst
  obtain ⟨m8, methM', cM, hn8, hmethM', -, -, -, -, -, -, hsigM⟩ := Cond.codeWith_spec hcode
  cases Option.some.inj (hn8.symm.trans hnamed)
  cases hmethM.symm.trans hmethM'
  obtain ⟨c2, r2, m2, q1, q2, q3, q4, kP, hkP, hkPi⟩ := Cond.selects_spec hsel
  cases hcls.symm.trans q1
  cases (State.methodFound?_of_named hnamed hy).symm.trans q2
  cases hnamed.symm.trans q3
  have hselP : selectMethod e.platform s.vm cellB.cls mk = .method mk := by rw [Launch.admits_selectMethod X.admits]; exact q4
  obtain ⟨vm₁, X₁, hstep₁⟩ := X.invokevirtual hexec hown hlink hnamed hmethM hstM hkP hkPi hy (a := b) (cell := cellB) hcell
    (fun z h => by rw [h] at hobj; cases hobj) hselP hmethM habM hkP hkPi (g := g) hg (argsL := argsL) (rest := rest) (hlen _ hsigM) hstack hdg
  rcases hK m meth c ⟨T.setVm vm₁, locs, cells, slots⟩ { g with stack := rest } (.invokevirtual index) mk (Value.ref b :: argsL).toArray X₁ hg hsize hdg hW (X₁.named hnamed) (hpre vm₁ X₁.warmed) with ⟨v, B, X', hpost, hsteps⟩ | ⟨q, B, X', hpost, hsteps⟩
  · exact Or.inl ⟨v, vm₁, B, X₁.warmed, X', hpost, fun target h => hstep₁ _ fun acts => by rw [doInvoke_state]; exact hsteps.trans h⟩
  · exact Or.inr ⟨q, vm₁, B, X₁.warmed, X', hpost, hstep₁ _ fun acts => by rw [doInvoke_state]; exact hsteps⟩
theorem vx_callSX (X : Stand p l e R s m args below meth c T locs cells slots) (hexec : p.tables.exec = Jvm.exec) {own : String} {index : Nat} {y : MethodName} {bytes : ByteArray} {maxL : Nat} {ret : Option FieldType} {hh : List (Nat × Nat × Nat × Nat)}
    (hown : s.vm.findClass own = some m.cls) (hlink : (Cond.methodLink own index y).before args s = true) (hstat : (Cond.static y).before args s = true) (hinit : (Cond.initialized y.cls).before args s = true)
    (hcode : (Cond.codeWith y bytes maxL ret hh).before args s = true) (hy : y.cls ≠ "java/lang/invoke/MethodHandle" ∧ y.cls ≠ "java/lang/invoke/VarHandle")
    {W9 : Nat} {Pre : Pt → Array Value → Prop} {Post : Pt → Array Value → Option Value → Pt → Prop} {PostX : Pt → Array Value → Addr → Pt → Prop} (hK : vx_Back l R p e below s args y 3 W9 Pre Post PostX)
    {g : JFrame} (hg : g.method = m) (hsize : g.locals.size = c.maxLocals) {argsL rest : List Value} (hlen : ∀ sig, parseMethodDescriptor y.desc = some sig → argsL.length = sig.parameters.length)
    (hstack : g.stack = argsL.reverse ++ rest) (hW : 2 * g.monitorRoom + (rest.map fun v => v.category).sum ≤ W9) (hdg : decode c.code g.pc = .ok (.invokestatic index, 3))
    (hpre : ∀ vm₁, s.WarmedH vm₁ → Pre ⟨T.setVm vm₁, locs, cells, slots⟩ argsL.toArray) :
    (∃ (v : Option Value) (vm₁ : Vm) (B : Pt), s.WarmedH vm₁ ∧ Stand p l e R s m args below meth c B.U B.locs B.cells B.slots ∧ Post ⟨T.setVm vm₁, locs, cells, slots⟩ argsL.toArray v B ∧
      ∀ target, Steps p.tables e below (B.U.setTop { g with pc := g.pc + 3, stack := v.toList ++ rest }) target → Steps p.tables e below (T.setTop g) target) ∨
    (∃ (q : Addr) (vm₁ : Vm) (B : Pt), s.WarmedH vm₁ ∧ Stand p l e R s m args below meth c B.U B.locs B.cells B.slots ∧ PostX ⟨T.setVm vm₁, locs, cells, slots⟩ argsL.toArray q B ∧
      Steps p.tables e below (T.setTop g) ((B.U.setTop { g with stack := rest }).pushFrame (.throwing q))) := by
  obtain ⟨mk, methM, cM, hnamed, hmethM, -, -, -, -, -, -, hsigM⟩ := Cond.codeWith_spec hcode
  have hstatic : methM.isStatic = true := Cond.static_spec hnamed hmethM hstat
  obtain ⟨kP, hkP, -⟩ := className_of_methodNamed hnamed
  have hinitP : kP.init = .initialized := Cond.initialized_spec (findClass_of_methodNamed hnamed) hkP hinit
  obtain ⟨vm₁, X₁, hstep₁⟩ := X.invokestatic hexec hown hlink hnamed hmethM hstatic hkP hinitP hy (g := g) hg (argsL := argsL) (rest := rest) (hlen _ hsigM) hstack hdg
  rcases hK m meth c ⟨T.setVm vm₁, locs, cells, slots⟩ { g with stack := rest } (.invokestatic index) mk argsL.toArray X₁ hg hsize hdg hW (X₁.named hnamed) (hpre vm₁ X₁.warmed) with ⟨v, B, X', hpost, hsteps⟩ | ⟨q, B, X', hpost, hsteps⟩
  · exact Or.inl ⟨v, vm₁, B, X₁.warmed, X', hpost, fun target h => hstep₁ _ fun acts => by rw [doInvoke_state]; exact hsteps.trans h⟩
  · exact Or.inr ⟨q, vm₁, B, X₁.warmed, X', hpost, hstep₁ _ fun acts => by rw [doInvoke_state]; exact hsteps⟩
theorem vx_callVW (X : Stand p l e R s m args below meth c T locs cells slots) (hexec : p.tables.exec = Jvm.exec) {own C : String} {index : Nat} {y : MethodName} {bytes : ByteArray} {maxL : Nat} {ret : Option FieldType} {hh : List (Nat × Nat × Nat × Nat)}
    (hown : s.vm.findClass own = some m.cls) (hlink : (Cond.methodLink own index y).before args s = true) (hinst : (Cond.instanceMethod y).before args s = true) (hsel : (Cond.selects C y y).before args s = true)
    (hcode : (Cond.codeWith y bytes maxL ret hh).before args s = true) (hy : y.cls ≠ "java/lang/invoke/MethodHandle" ∧ y.cls ≠ "java/lang/invoke/VarHandle")
    {W9 : Nat} {Pre : Pt → Array Value → Prop} {Post : Pt → Array Value → Option Value → Pt → Prop} (hK : Back l R p e below s args y 3 W9 Pre Post)
    {b : Addr} {cellB : Cell} (hcell : T.heap[b]? = some cellB) (hobj : cellB.vm.isStatics = false) (hcls : s.vm.findClass C = some cellB.cls)
    {g : JFrame} (hg : g.method = m) (hsize : g.locals.size = c.maxLocals) {argsL rest : List Value} (hlen : ∀ sig, parseMethodDescriptor y.desc = some sig → argsL.length = sig.parameters.length)
    (hstack : g.stack = argsL.reverse ++ .ref b :: rest) (hW : 2 * g.monitorRoom + (rest.map fun v => v.category).sum ≤ W9) (hdg : decode c.code g.pc = .ok (.invokevirtual index, 3))
    (hpre : ∀ vm₁, s.WarmedH vm₁ → Pre ⟨T.setVm vm₁, locs, cells, slots⟩ (Value.ref b :: argsL).toArray) :
    ∃ (v : Option Value) (vm₁ : Vm) (B : Pt), s.WarmedH vm₁ ∧ Stand p l e R s m args below meth c B.U B.locs B.cells B.slots ∧ Post ⟨T.setVm vm₁, locs, cells, slots⟩ (Value.ref b :: argsL).toArray v B ∧
      ∀ target, Steps p.tables e below (B.U.setTop { g with pc := g.pc + 3, stack := v.toList ++ rest }) target → Steps p.tables e below (T.setTop g) target := by
  obtain ⟨mk, methM, hnamed, hmethM, hstM, habM⟩ := Cond.instanceMethod_spec hinst
  obtain ⟨m8, methM', cM, hn8, hmethM', -, -, -, -, -, -, hsigM⟩ := Cond.codeWith_spec hcode
  cases Option.some.inj (hn8.symm.trans hnamed)
  cases hmethM.symm.trans hmethM'
  obtain ⟨c2, r2, m2, q1, q2, q3, q4, kP, hkP, hkPi⟩ := Cond.selects_spec hsel
  cases hcls.symm.trans q1
  cases (State.methodFound?_of_named hnamed hy).symm.trans q2
  cases hnamed.symm.trans q3
  have hselP : selectMethod e.platform s.vm cellB.cls mk = .method mk := by rw [Launch.admits_selectMethod X.admits]; exact q4
  obtain ⟨vm₁, X₁, hstep₁⟩ := X.invokevirtual hexec hown hlink hnamed hmethM hstM hkP hkPi hy (a := b) (cell := cellB) hcell
    (fun z h => by rw [h] at hobj; cases hobj) hselP hmethM habM hkP hkPi (g := g) hg (argsL := argsL) (rest := rest) (hlen _ hsigM) hstack hdg
  obtain ⟨v, B, X', hpost, hsteps⟩ := hK m meth c ⟨T.setVm vm₁, locs, cells, slots⟩ { g with stack := rest } (.invokevirtual index) mk (Value.ref b :: argsL).toArray X₁ hg hsize hdg hW (X₁.named hnamed) (hpre vm₁ X₁.warmed)
  exact ⟨v, vm₁, B, X₁.warmed, X', hpost, fun target h => hstep₁ _ fun acts => by rw [doInvoke_state]; exact hsteps.trans h⟩
abbrev vx_CVW (R : Room) (s : State) (args : Array Value) (own C : String) (index : Nat) (y : MethodName) (bytes : ByteArray) (maxL : Nat) (ret : Option FieldType) (hh : List (Nat × Nat × Nat × Nat)) (ws : List Cond) (rm : Room) (mc ms n : Nat) : Prop :=
  (rm.cells = mc ∧ rm.slots = ms ∧ rm.frames + 1 ≤ R.frames ∧ 8 + (maxL + 11) + rm.locals ≤ R.locals ∧ (∀ w ∈ ws, ∀ (a' : Array Value) (U : State), s.WarmedH U.vm → w.before a' U = true) ∧ Cond.codeWith y bytes maxL ret hh ∈ ws) ∧
  (Cond.codeWith y bytes maxL ret hh).before args s = true ∧ (Cond.initialized y.cls).before args s = true ∧ (y.cls ≠ "java/lang/invoke/MethodHandle" ∧ y.cls ≠ "java/lang/invoke/VarHandle") ∧
  (∀ sig, parseMethodDescriptor y.desc = some sig → n = sig.parameters.length) ∧ (Cond.methodLink own index y).before args s = true ∧ (Cond.instanceMethod y).before args s = true ∧ (Cond.selects C y y).before args s = true
theorem vx_cwVW {own C : String} {index maxL mc ms : Nat} {y : MethodName} {bytes : ByteArray} {ret : Option FieldType} {hh : List (Nat × Nat × Nat × Nat)} {Ts ws ws' : List Cond} {rm : Room} (n : Nat) (ht : ∀ w ∈ Ts, w.before args s = true) (hT : GoodIn Ts (wsV own index C y ws)) (hw : ws = Cond.codeWith y bytes maxL ret hh :: ws') (hrc : rm.cells = mc) (hrs : rm.slots = ms)
    (hd : y.cls = C ∧ y.cls ≠ "java/lang/invoke/MethodHandle" ∧ y.cls ≠ "java/lang/invoke/VarHandle" ∧ (parseMethodDescriptor y.desc).map (fun d => d.parameters.length) = some n) (hR : rm.frames + 1 ≤ R.frames ∧ 8 + (maxL + 11) + rm.locals ≤ R.locals) :
    vx_CVW R s args own C index y bytes maxL ret hh ws rm mc ms n := by
  obtain ⟨hC, hd⟩ := hd
  subst hC
  have ok : ∀ w ∈ wsV own index y.cls y ws, w.before args s = true := fun w h => ht w (hT w h).1
  have hG : GoodIn Ts ws := fun w h => hT w (by unfold wsV; exact List.mem_append_right _ h)
  have hc : Cond.codeWith y bytes maxL ret hh ∈ ws := by rw [hw]; exact List.mem_cons_self
  refine ⟨⟨hrc, hrs, hR.1, hR.2, pay_in ht hG, hc⟩, ht _ (hG _ hc).1, ok _ (by simp [wsV]), ⟨hd.1, hd.2.1⟩, fun sig h => ?_, ok _ (by simp [wsV]), ok _ (by simp [wsV]), ok _ (by simp [wsV])⟩
  have h2 := hd.2.2
  rw [h] at h2
  exact (Option.some.inj h2).symm
theorem vx_runVW {y : MethodName} {bytes cc : ByteArray} {maxL nL mc ms n index : Nat} {ret : Option FieldType} {hh : List (Nat × Nat × Nat × Nat)} {ws : List Cond} {rm : Room} {Pc : Array Value → State → Prop} {Qc : Array Value → State → Outcome → State → Prop} {free : Addr → Prop} {Ts : List Cond} {own C : String} {b : Addr} {As rest : List Value} {g : JFrame}
    (S : CallFix p m c cc nL s args Ts own) (hM : Met l y ws rm Pc Qc mc ms free) (cw : vx_CVW R s args own C index y bytes maxL ret hh ws rm mc ms n) (hp : PreV s H C b Pc As)
    (hg : g.method = m) (hn : As.length = n) (hsize : g.locals.size = nL) (hstack : g.stack = As.reverse ++ .ref b :: rest) (hW : 2 * g.monitorRoom + (rest.map fun v => v.category).sum ≤ 8) (hdg : decode cc g.pc = .ok (.invokevirtual index, 3)) (hf : cells + mc ≤ R.cells ∧ slots + ms ≤ R.slots) :
    va_Run p l e R s m args below meth c H locs cells slots mc ms g rest (Qc (Value.ref b :: As).toArray) free := by
  obtain ⟨⟨hrc, hrs, hfr, hlo, hws, hcw⟩, hcode, hini, hy, hlen, hl, hin, hse⟩ := cw
  have hK : Back l R p e below s args y 3 8 (PreOf R mc ms Pc) (PostOf Qc mc ms free) := va_backW (hh := hh) (bytes := bytes) (maxL := maxL) (ret := ret) hM hp.1 hrc hrs hfr hlo hws hcw (fun a' U hW => word_at hW (Or.inl (by first | rfl | simp [Cond.onTables, Cond.keeps, Cond.steady])) hini)
  obtain ⟨hx, hb, hml, ho, -⟩ := S
  obtain ⟨-, ⟨cellB, hcB, hoB, hclB⟩, hPc⟩ := hp
  intro T hT X
  obtain ⟨v, vm₁, ⟨U', l2, c2, s2⟩, hW₁, X', ⟨g', mk, t, L, e1, e2, hq, h1, hL, h2, h3⟩, st⟩ := vx_callVW X hx (C := C) (hh := hh) (bytes := bytes) (maxL := maxL) (ret := ret) ho hl hin hse hcode hy hK (by rw [hT]; exact hcB) hoB hclB hg (hsize.trans hml.symm) (argsL := As) (rest := rest) (fun sig h => hn.trans (hlen sig h)) hstack hW (by rw [hb]; exact hdg)
    (fun vm₁ hW₁ => ⟨hf.1, hf.2, hPc (T.setVm vm₁) hT hW₁⟩)
  dsimp only [Pt.U, Pt.locs, Pt.cells, Pt.slots] at X' e1 e2 h1 h2 h3 st
  subst h1; subst h2; subst h3
  exact ⟨v, (T.setVm vm₁).calling g' mk (Value.ref b :: As).toArray, t, U', L, hT, X', hL, e1, e2, hq, st⟩
section
variable {y : MethodName} {bytes cc : ByteArray} {maxL nL mc ms n index : Nat} {ret : Option FieldType} {ws : List Cond} {rm : Room} {Pc : Array Value → State → Prop} {Qc : Array Value → State → Outcome → State → Prop} {XC : String → State → State → Prop} {free : Addr → Prop} {Ts : List Cond} {own C : String} {b : Addr} {As rest : List Value} {g : JFrame}
theorem vx_runVX {hh : List (Nat × Nat × Nat × Nat)} (S : CallFix p m c cc nL s args Ts own) (hM : vx_Met l y ws rm Pc Qc XC mc ms free) (cw : vx_CVW R s args own C index y bytes maxL ret hh ws rm mc ms n) (hp : PreV s H C b Pc As)
    (hg : g.method = m) (hn : As.length = n) (hsize : g.locals.size = nL) (hstack : g.stack = As.reverse ++ .ref b :: rest) (hW : 2 * g.monitorRoom + (rest.map fun v => v.category).sum ≤ 8) (hdg : decode cc g.pc = .ok (.invokevirtual index, 3)) (hf : cells + mc ≤ R.cells ∧ slots + ms ≤ R.slots) :
    vx_Run p l e R s m args below meth c H locs cells slots mc ms g rest (Qc (Value.ref b :: As).toArray) XC free := by
  obtain ⟨⟨hrc, hrs, hfr, hlo, hws, hcw⟩, hcode, hini, hy, hlen, hl, hin, hse⟩ := cw
  have hK : vx_Back l R p e below s args y 3 8 (PreOf R mc ms Pc) (PostOf Qc mc ms free) (vx_Post XC mc ms free) := vx_backW (hh := hh) (bytes := bytes) (maxL := maxL) (ret := ret) hM hp.1 hrc hrs hfr hlo hws hcw (fun a' U hW => word_at hW (Or.inl (by first | rfl | simp [Cond.onTables, Cond.keeps, Cond.steady])) hini)
  obtain ⟨hx, hb, hml, ho, -⟩ := S
  obtain ⟨-, ⟨cellB, hcB, hoB, hclB⟩, hPc⟩ := hp
  intro T hT X
  rcases vx_callVX X hx (C := C) (hh := hh) (bytes := bytes) (maxL := maxL) (ret := ret) ho hl hin hse hcode hy hK (by rw [hT]; exact hcB) hoB hclB hg (hsize.trans hml.symm) (argsL := As) (rest := rest) (fun sig h => hn.trans (hlen sig h)) hstack hW (by rw [hb]; exact hdg)
    (fun vm₁ hW₁ => ⟨hf.1, hf.2, hPc (T.setVm vm₁) hT hW₁⟩) with ⟨v, vm₁, ⟨U', l2, c2, s2⟩, hW₁, X', ⟨g', mk, t, L, e1, e2, hq, h1, hL, h2, h3⟩, st⟩ | ⟨q, vm₁, ⟨U', l2, c2, s2⟩, hW₁, X', ⟨g', mk, t, L, E, ce, e1, e2, hq, hce, hcv, hcl, h1, hL, h2, h3⟩, st⟩
  · dsimp only [Pt.U, Pt.locs, Pt.cells, Pt.slots] at X' e1 e2 h1 h2 h3 st
    subst h1; subst h2; subst h3
    exact Or.inl ⟨v, (T.setVm vm₁).calling g' mk (Value.ref b :: As).toArray, t, U', L, hT, X', hL, e1, e2, hq, st⟩
  · dsimp only [Pt.U, Pt.locs, Pt.cells, Pt.slots] at X' e1 e2 h1 h2 h3 st hcl
    subst h1; subst h2; subst h3
    exact Or.inr ⟨q, (T.setVm vm₁).calling g' mk (Value.ref b :: As).toArray, t, U', L, E, ce, hT, X', hL, e1, e2, hq, hce, hcv, vx_cls hW₁ hcl, st⟩
theorem vx_runSX {hh : List (Nat × Nat × Nat × Nat)} (S : CallFix p m c cc nL s args Ts own) (hM : vx_Met l y ws rm Pc Qc XC mc ms free) (cw : vx_CSW R s args own index y bytes maxL ret hh ws rm mc ms n) (hp : PreS s H Pc As)
    (hg : g.method = m) (hn : As.length = n) (hsize : g.locals.size = nL) (hstack : g.stack = As.reverse ++ rest) (hW : 2 * g.monitorRoom + (rest.map fun v => v.category).sum ≤ 8) (hdg : decode cc g.pc = .ok (.invokestatic index, 3)) (hf : cells + mc ≤ R.cells ∧ slots + ms ≤ R.slots) :
    vx_Run p l e R s m args below meth c H locs cells slots mc ms g rest (Qc As.toArray) XC free := by
  obtain ⟨⟨hrc, hrs, hfr, hlo, hws, hcw⟩, hcode, hini, hy, hlen, hl, hstt⟩ := cw
  have hK : vx_Back l R p e below s args y 3 8 (PreOf R mc ms Pc) (PostOf Qc mc ms free) (vx_Post XC mc ms free) := vx_backW (hh := hh) (bytes := bytes) (maxL := maxL) (ret := ret) hM hp.1 hrc hrs hfr hlo hws hcw (fun a' U hW => word_at hW (Or.inl (by first | rfl | simp [Cond.onTables, Cond.keeps, Cond.steady])) hini)
  obtain ⟨hx, hb, hml, ho, -⟩ := S
  intro T hT X
  rcases vx_callSX X hx (hh := hh) (bytes := bytes) (maxL := maxL) (ret := ret) ho hl hstt hini hcode hy hK hg (hsize.trans hml.symm) (argsL := As) (rest := rest) (fun sig h => hn.trans (hlen sig h)) hstack hW (by rw [hb]; exact hdg)
    (fun vm₁ hW₁ => ⟨hf.1, hf.2, hp.2 (T.setVm vm₁) hT hW₁⟩) with ⟨v, vm₁, ⟨U', l2, c2, s2⟩, hW₁, X', ⟨g', mk, t, L, e1, e2, hq, h1, hL, h2, h3⟩, st⟩ | ⟨q, vm₁, ⟨U', l2, c2, s2⟩, hW₁, X', ⟨g', mk, t, L, E, ce, e1, e2, hq, hce, hcv, hcl, h1, hL, h2, h3⟩, st⟩
  · dsimp only [Pt.U, Pt.locs, Pt.cells, Pt.slots] at X' e1 e2 h1 h2 h3 st
    subst h1; subst h2; subst h3
    exact Or.inl ⟨v, (T.setVm vm₁).calling g' mk As.toArray, t, U', L, hT, X', hL, e1, e2, hq, st⟩
  · dsimp only [Pt.U, Pt.locs, Pt.cells, Pt.slots] at X' e1 e2 h1 h2 h3 st hcl
    subst h1; subst h2; subst h3
    exact Or.inr ⟨q, (T.setVm vm₁).calling g' mk As.toArray, t, U', L, E, ce, hT, X', hL, e1, e2, hq, hce, hcv, vx_cls hW₁ hcl, st⟩
end
end VXH
theorem vx_ofWH {l : Launch} {y : MethodName} {ws ws' : List Cond} {rm : Room} {Pc : Array Value → State → Prop} {Qc : Array Value → State → Outcome → State → Prop} {XC : String → State → State → Prop} {mc ms : Nat} {free : Addr → Prop} {cc : ByteArray} {maxL : Nat} {ret : Option FieldType} {hh : List (Nat × Nat × Nat × Nat)}
    (hy : plainName y.cls = true) (hw : ws = Cond.codeWith y cc maxL ret hh :: ws')
    (body : ∀ p e s m args below meth c s₁, BodyLoose p l y (headSpec ws rm) cc maxL ret e s m args below meth c s₁ → c.maxLocals = maxL → Pc args s →
      W p l e (headSpec ws rm).room s m args below meth c s.heap [] 0 0 (vx_MQ below Qc XC args s mc ms free) (entryFrame m args maxL)) : vx_Met l y ws rm Pc Qc XC mc ms free := by
  refine MetFree.of_bodyS (code := cc) (maxLocals := maxL) (ret := ret) hy ?_ ?_
  · intro args s m h hn
    obtain ⟨m9, meth, c, hn9, h1, h2, h3, h4, -, h5, h6, -⟩ := Cond.codeWith_spec (atoms_spec (ws := ws) h _ (by rw [hw]; exact List.mem_cons_self))
    cases hn.symm.trans hn9
    exact ⟨meth, c, h1, h2, h3, h4, h5, h6⟩
  · intro p e s m args below meth c s₁ B hml hP _
    have hh0 : s₁.heap = s.heap := by rw [B.state]; rfl
    obtain ⟨t, a1, o, b1, b2, b3⟩ := body p e s m args below meth c s₁ B hml hP s₁ hh0 (Stand.of_body B)
    exact ⟨t, o, a1, b1, b2, b3⟩
/-! ===== END ===== -/
end
section
/-! ===== BEGIN printed: names, fields, word lists, decode rows ===== -/
def RX0 : String := "BarredGrid$Command"
def TX0 : u_T := fun k => match k with
  | _ => ("", "", "", false)
def tyX0 : Nat → FieldType := fun k => match k with
  | _ => .int
abbrev wsX00 : List Cond := u_ws RX0 TX0 0
theorem nmX0 : ∀ a, a < 0 → ∀ b, b < 0 → a ≠ b → (TX0 a).2.1 ≠ (TX0 b).2.1 := by decide +kernel
theorem tyX0_ok : ∀ k, k < 0 → parseFieldDescriptor (TX0 k).2.2.1 = some (tyX0 k) := by decide +kernel
abbrev cX0_succeeds : ByteArray := prog_2_method_2_code
def yX0_succeeds : MethodName := ⟨RX0, "succeeds", "(LBarredGrid$Puzzle;LBarredGrid$LineSearch;I)Z"⟩
abbrev cX0_putsLetter : ByteArray := prog_2_method_3_code
def yX0_putsLetter : MethodName := ⟨RX0, "putsLetter", "(LBarredGrid$Puzzle;II)Z"⟩
abbrev cX0_fillsEntry : ByteArray := prog_2_method_4_code
def yX0_fillsEntry : MethodName := ⟨RX0, "fillsEntry", "(LBarredGrid$Puzzle;II)Z"⟩
abbrev cX0_clearsEntry : ByteArray := prog_2_method_5_code
def yX0_clearsEntry : MethodName := ⟨RX0, "clearsEntry", "(LBarredGrid$Puzzle;I)Z"⟩
def RX1 : String := "BarredGrid$Filler"
def TX1 : u_T := fun k => match k with
  | 0 => ("BarredGrid$Filler", "ways", "I", false)
  | 1 => ("BarredGrid$Filler", "used", "I", false)
  | 2 => ("BarredGrid$Filler", "fitting", "[I", true)
  | _ => ("BarredGrid$Filler", "given", "[I", true)
def tyX1 : Nat → FieldType := fun k => match k with
  | 0 => .int
  | 1 => .int
  | 2 => .array .int
  | _ => .array .int
abbrev wsX10 : List Cond := u_ws RX1 TX1 4
theorem nmX1 : ∀ a, a < 4 → ∀ b, b < 4 → a ≠ b → (TX1 a).2.1 ≠ (TX1 b).2.1 := by decide +kernel
theorem tyX1_ok : ∀ k, k < 4 → parseFieldDescriptor (TX1 k).2.2.1 = some (tyX1 k) := by decide +kernel
abbrev cX1_init : ByteArray := prog_3_method_1_code
def yX1_init : MethodName := ⟨RX1, "<init>", "()V"⟩
abbrev cX1_count : ByteArray := prog_3_method_2_code
def yX1_count : MethodName := ⟨RX1, "count", "(LBarredGrid$Puzzle;)I"⟩
abbrev cX1_wordsThatFit : ByteArray := prog_3_method_3_code
def yX1_wordsThatFit : MethodName := ⟨RX1, "wordsThatFit", "(LBarredGrid$Puzzle;I)I"⟩
abbrev cX1_giveFrom : ByteArray := prog_3_method_4_code
def yX1_giveFrom : MethodName := ⟨RX1, "giveFrom", "(LBarredGrid$Puzzle;I)V"⟩
abbrev cX1_give : ByteArray := prog_3_method_5_code
def yX1_give : MethodName := ⟨RX1, "give", "(LBarredGrid$Puzzle;II)V"⟩
abbrev cX1_agrees : ByteArray := prog_3_method_6_code
def yX1_agrees : MethodName := ⟨RX1, "agrees", "(LBarredGrid$Puzzle;II)Z"⟩
def RX2 : String := "BarredGrid$LineSearch"
def TX2 : u_T := fun k => match k with
  | 0 => ("BarredGrid$LineSearch", "emptyToo", "Z", false)
  | 1 => ("BarredGrid$LineSearch", "limit", "I", false)
  | 2 => ("BarredGrid$LineSearch", "found", "I", false)
  | 3 => ("BarredGrid$LineSearch", "firstLength", "I", false)
  | 4 => ("BarredGrid$LineSearch", "used", "J", false)
  | 5 => ("BarredGrid$LineSearch", "path", "[I", true)
  | _ => ("BarredGrid$LineSearch", "firstPath", "[I", true)
def tyX2 : Nat → FieldType := fun k => match k with
  | 0 => .boolean
  | 1 => .int
  | 2 => .int
  | 3 => .int
  | 4 => .long
  | 5 => .array .int
  | _ => .array .int
abbrev wsX20 : List Cond := u_ws RX2 TX2 7
theorem nmX2 : ∀ a, a < 7 → ∀ b, b < 7 → a ≠ b → (TX2 a).2.1 ≠ (TX2 b).2.1 := by decide +kernel
theorem tyX2_ok : ∀ k, k < 7 → parseFieldDescriptor (TX2 k).2.2.1 = some (tyX2 k) := by decide +kernel
abbrev cX2_init : ByteArray := prog_4_method_1_code
def yX2_init : MethodName := ⟨RX2, "<init>", "()V"⟩
abbrev cX2_count : ByteArray := prog_4_method_2_code
def yX2_count : MethodName := ⟨RX2, "count", "(LBarredGrid$Puzzle;ZI)I"⟩
abbrev cX2_cellOfFirst : ByteArray := prog_4_method_3_code
def yX2_cellOfFirst : MethodName := ⟨RX2, "cellOfFirst", "(I)I"⟩
abbrev cX2_visit : ByteArray := prog_4_method_4_code
def yX2_visit : MethodName := ⟨RX2, "visit", "(LBarredGrid$Puzzle;II)V"⟩
abbrev cX2_visitBehind : ByteArray := prog_4_method_5_code
def yX2_visitBehind : MethodName := ⟨RX2, "visitBehind", "(LBarredGrid$Puzzle;II)V"⟩
abbrev cX2_isAllowed : ByteArray := prog_4_method_6_code
def yX2_isAllowed : MethodName := ⟨RX2, "isAllowed", "(LBarredGrid$Puzzle;II)Z"⟩
abbrev cX2_keepPath : ByteArray := prog_4_method_7_code
def yX2_keepPath : MethodName := ⟨RX2, "keepPath", "(I)V"⟩
def RX3 : String := "BarredGrid$Memory"
def TX3 : u_T := fun k => match k with
  | 0 => ("BarredGrid$Memory", "actions", "I", false)
  | 1 => ("BarredGrid$Memory", "oldest", "I", false)
  | 2 => ("BarredGrid$Memory", "remembered", "[LBarredGrid$State;", true)
  | 3 => ("BarredGrid$Memory", "slots", "[LBarredGrid$State;", true)
  | _ => ("BarredGrid$Memory", "isUsed", "[Z", true)
def tyX3 : Nat → FieldType := fun k => match k with
  | 0 => .int
  | 1 => .int
  | 2 => .array (.object "BarredGrid$State")
  | 3 => .array (.object "BarredGrid$State")
  | _ => .array .boolean
abbrev wsX30 : List Cond := u_ws RX3 TX3 5
theorem nmX3 : ∀ a, a < 5 → ∀ b, b < 5 → a ≠ b → (TX3 a).2.1 ≠ (TX3 b).2.1 := by decide +kernel
theorem tyX3_ok : ∀ k, k < 5 → parseFieldDescriptor (TX3 k).2.2.1 = some (tyX3 k) := by decide +kernel
abbrev cX3_init : ByteArray := prog_5_method_1_code
def yX3_init : MethodName := ⟨RX3, "<init>", "()V"⟩
abbrev cX3_remember : ByteArray := prog_5_method_2_code
def yX3_remember : MethodName := ⟨RX3, "remember", "(LBarredGrid$State;)V"⟩
abbrev cX3_takeLast : ByteArray := prog_5_method_3_code
def yX3_takeLast : MethodName := ⟨RX3, "takeLast", "()LBarredGrid$State;"⟩
abbrev cX3_forgetActions : ByteArray := prog_5_method_4_code
def yX3_forgetActions : MethodName := ⟨RX3, "forgetActions", "()V"⟩
abbrev cX3_at : ByteArray := prog_5_method_5_code
def yX3_at : MethodName := ⟨RX3, "at", "(I)LBarredGrid$State;"⟩
abbrev cX3_store : ByteArray := prog_5_method_6_code
def yX3_store : MethodName := ⟨RX3, "store", "(ILBarredGrid$State;)V"⟩
abbrev cX3_isStored : ByteArray := prog_5_method_7_code
def yX3_isStored : MethodName := ⟨RX3, "isStored", "(I)Z"⟩
abbrev cX3_stored : ByteArray := prog_5_method_8_code
def yX3_stored : MethodName := ⟨RX3, "stored", "(I)LBarredGrid$State;"⟩
abbrev cX3_emptySlots : ByteArray := prog_5_method_9_code
def yX3_emptySlots : MethodName := ⟨RX3, "emptySlots", "()V"⟩
def RX4 : String := "BarredGrid$Puzzle"
def TX4 : u_T := fun k => match k with
  | 0 => ("BarredGrid$Puzzle", "state", "LBarredGrid$State;", true)
  | 1 => ("BarredGrid$Puzzle", "entryCount", "I", false)
  | 2 => ("BarredGrid$Puzzle", "acrossCount", "I", false)
  | 3 => ("BarredGrid$Puzzle", "greatestClue", "I", false)
  | 4 => ("BarredGrid$Puzzle", "firstCells", "[I", true)
  | 5 => ("BarredGrid$Puzzle", "lengths", "[I", true)
  | 6 => ("BarredGrid$Puzzle", "downward", "[Z", true)
  | 7 => ("BarredGrid$Puzzle", "acrossOf", "[I", true)
  | 8 => ("BarredGrid$Puzzle", "downOf", "[I", true)
  | _ => ("BarredGrid$Puzzle", "clueOf", "[I", true)
def tyX4 : Nat → FieldType := fun k => match k with
  | 0 => .object "BarredGrid$State"
  | 1 => .int
  | 2 => .int
  | 3 => .int
  | 4 => .array .int
  | 5 => .array .int
  | 6 => .array .boolean
  | 7 => .array .int
  | 8 => .array .int
  | _ => .array .int
abbrev wsX40 : List Cond := u_ws RX4 TX4 10
theorem nmX4 : ∀ a, a < 10 → ∀ b, b < 10 → a ≠ b → (TX4 a).2.1 ≠ (TX4 b).2.1 := by decide +kernel
theorem tyX4_ok : ∀ k, k < 10 → parseFieldDescriptor (TX4 k).2.2.1 = some (tyX4 k) := by decide +kernel
abbrev cX4_init : ByteArray := prog_6_method_1_code
def yX4_init : MethodName := ⟨RX4, "<init>", "()V"⟩
abbrev cX4_take : ByteArray := prog_6_method_2_code
def yX4_take : MethodName := ⟨RX4, "take", "(LBarredGrid$State;)V"⟩
abbrev cX4_changeBar : ByteArray := prog_6_method_3_code
def yX4_changeBar : MethodName := ⟨RX4, "changeBar", "(IZZ)Z"⟩
abbrev cX4_layOut : ByteArray := prog_6_method_4_code
def yX4_layOut : MethodName := ⟨RX4, "layOut", "()V"⟩
abbrev cX4_addEntry : ByteArray := prog_6_method_5_code
def yX4_addEntry : MethodName := ⟨RX4, "addEntry", "(IZ)V"⟩
abbrev cX4_hasEntry : ByteArray := prog_6_method_6_code
def yX4_hasEntry : MethodName := ⟨RX4, "hasEntry", "(I)Z"⟩
abbrev cX4_isDown : ByteArray := prog_6_method_7_code
def yX4_isDown : MethodName := ⟨RX4, "isDown", "(I)Z"⟩
abbrev cX4_lengthOf : ByteArray := prog_6_method_8_code
def yX4_lengthOf : MethodName := ⟨RX4, "lengthOf", "(I)I"⟩
abbrev cX4_cellOf : ByteArray := prog_6_method_9_code
def yX4_cellOf : MethodName := ⟨RX4, "cellOf", "(II)I"⟩
abbrev cX4_indexIn : ByteArray := prog_6_method_10_code
def yX4_indexIn : MethodName := ⟨RX4, "indexIn", "(II)I"⟩
abbrev cX4_entryAt : ByteArray := prog_6_method_11_code
def yX4_entryAt : MethodName := ⟨RX4, "entryAt", "(IZ)I"⟩
abbrev cX4_clueAt : ByteArray := prog_6_method_12_code
def yX4_clueAt : MethodName := ⟨RX4, "clueAt", "(I)I"⟩
abbrev cX4_entriesAt : ByteArray := prog_6_method_13_code
def yX4_entriesAt : MethodName := ⟨RX4, "entriesAt", "(I)I"⟩
abbrev cX4_cellsInEntries : ByteArray := prog_6_method_14_code
def yX4_cellsInEntries : MethodName := ⟨RX4, "cellsInEntries", "(I)I"⟩
abbrev cX4_uncheckedIn : ByteArray := prog_6_method_15_code
def yX4_uncheckedIn : MethodName := ⟨RX4, "uncheckedIn", "(I)I"⟩
abbrev cX4_emptyIn : ByteArray := prog_6_method_16_code
def yX4_emptyIn : MethodName := ⟨RX4, "emptyIn", "(I)I"⟩
abbrev cX4_fitsWord : ByteArray := prog_6_method_17_code
def yX4_fitsWord : MethodName := ⟨RX4, "fitsWord", "(II)Z"⟩
abbrev cX4_fitCount : ByteArray := prog_6_method_18_code
def yX4_fitCount : MethodName := ⟨RX4, "fitCount", "(I)I"⟩
abbrev cX4_wordIn : ByteArray := prog_6_method_19_code
def yX4_wordIn : MethodName := ⟨RX4, "wordIn", "(I)I"⟩
abbrev cX4_fillEntry : ByteArray := prog_6_method_20_code
def yX4_fillEntry : MethodName := ⟨RX4, "fillEntry", "(II)I"⟩
abbrev cX4_clearEntry : ByteArray := prog_6_method_21_code
def yX4_clearEntry : MethodName := ⟨RX4, "clearEntry", "(I)I"⟩
def RX5 : String := "BarredGrid$Rules"
def TX5 : u_T := fun k => match k with
  | _ => ("", "", "", false)
def tyX5 : Nat → FieldType := fun k => match k with
  | _ => .int
abbrev wsX50 : List Cond := u_ws RX5 TX5 0
theorem nmX5 : ∀ a, a < 0 → ∀ b, b < 0 → a ≠ b → (TX5 a).2.1 ≠ (TX5 b).2.1 := by decide +kernel
theorem tyX5_ok : ∀ k, k < 0 → parseFieldDescriptor (TX5 k).2.2.1 = some (tyX5 k) := by decide +kernel
abbrev cX5_countKept : ByteArray := prog_7_method_2_code
def yX5_countKept : MethodName := ⟨RX5, "countKept", "(LBarredGrid$Puzzle;)I"⟩
abbrev cX5_areKept : ByteArray := prog_7_method_3_code
def yX5_areKept : MethodName := ⟨RX5, "areKept", "(LBarredGrid$Puzzle;I)Z"⟩
abbrev cX5_isSameTurned : ByteArray := prog_7_method_4_code
def yX5_isSameTurned : MethodName := ⟨RX5, "isSameTurned", "(LBarredGrid$State;)Z"⟩
abbrev cX5_isCheckedEnough : ByteArray := prog_7_method_5_code
def yX5_isCheckedEnough : MethodName := ⟨RX5, "isCheckedEnough", "(LBarredGrid$Puzzle;)Z"⟩
abbrev cX5_hasNoUncheckedPair : ByteArray := prog_7_method_6_code
def yX5_hasNoUncheckedPair : MethodName := ⟨RX5, "hasNoUncheckedPair", "(LBarredGrid$Puzzle;)Z"⟩
abbrev cX5_isConnected : ByteArray := prog_7_method_7_code
def yX5_isConnected : MethodName := ⟨RX5, "isConnected", "(LBarredGrid$State;)Z"⟩
abbrev cX5_spread : ByteArray := prog_7_method_8_code
def yX5_spread : MethodName := ⟨RX5, "spread", "(LBarredGrid$State;JIZ)J"⟩
def RX6 : String := "BarredGrid$State"
def TX6 : u_T := fun k => match k with
  | 0 => ("BarredGrid$State", "rows", "I", false)
  | 1 => ("BarredGrid$State", "columns", "I", false)
  | 2 => ("BarredGrid$State", "wordCount", "I", false)
  | 3 => ("BarredGrid$State", "lineLength", "I", false)
  | 4 => ("BarredGrid$State", "rightBars", "J", false)
  | 5 => ("BarredGrid$State", "belowBars", "J", false)
  | 6 => ("BarredGrid$State", "letters", "[I", true)
  | 7 => ("BarredGrid$State", "wordLengths", "[I", true)
  | 8 => ("BarredGrid$State", "wordLetters", "[I", true)
  | _ => ("BarredGrid$State", "line", "[I", true)
def tyX6 : Nat → FieldType := fun k => match k with
  | 0 => .int
  | 1 => .int
  | 2 => .int
  | 3 => .int
  | 4 => .long
  | 5 => .long
  | 6 => .array .int
  | 7 => .array .int
  | 8 => .array .int
  | _ => .array .int
abbrev wsX60 : List Cond := u_ws RX6 TX6 10
theorem nmX6 : ∀ a, a < 10 → ∀ b, b < 10 → a ≠ b → (TX6 a).2.1 ≠ (TX6 b).2.1 := by decide +kernel
theorem tyX6_ok : ∀ k, k < 10 → parseFieldDescriptor (TX6 k).2.2.1 = some (tyX6 k) := by decide +kernel
abbrev cX6_init : ByteArray := prog_8_method_1_code
def yX6_init : MethodName := ⟨RX6, "<init>", "()V"⟩
abbrev cX6_copyFrom : ByteArray := prog_8_method_2_code
def yX6_copyFrom : MethodName := ⟨RX6, "copyFrom", "(LBarredGrid$State;)V"⟩
abbrev cX6_begin : ByteArray := prog_8_method_3_code
def yX6_begin : MethodName := ⟨RX6, "begin", "(II)V"⟩
abbrev cX6_cells : ByteArray := prog_8_method_4_code
def yX6_cells : MethodName := ⟨RX6, "cells", "()I"⟩
abbrev cX6_hasCell : ByteArray := prog_8_method_5_code
def yX6_hasCell : MethodName := ⟨RX6, "hasCell", "(I)Z"⟩
abbrev cX6_columnOf : ByteArray := prog_8_method_6_code
def yX6_columnOf : MethodName := ⟨RX6, "columnOf", "(I)I"⟩
abbrev cX6_rowOf : ByteArray := prog_8_method_7_code
def yX6_rowOf : MethodName := ⟨RX6, "rowOf", "(I)I"⟩
abbrev cX6_letterAt : ByteArray := prog_8_method_8_code
def yX6_letterAt : MethodName := ⟨RX6, "letterAt", "(I)I"⟩
abbrev cX6_setLetter : ByteArray := prog_8_method_9_code
def yX6_setLetter : MethodName := ⟨RX6, "setLetter", "(II)V"⟩
abbrev cX6_emptyCells : ByteArray := prog_8_method_10_code
def yX6_emptyCells : MethodName := ⟨RX6, "emptyCells", "()I"⟩
abbrev cX6_isPlace : ByteArray := prog_8_method_11_code
def yX6_isPlace : MethodName := ⟨RX6, "isPlace", "(IZ)Z"⟩
abbrev cX6_hasBar : ByteArray := prog_8_method_12_code
def yX6_hasBar : MethodName := ⟨RX6, "hasBar", "(IZ)Z"⟩
abbrev cX6_drawBar : ByteArray := prog_8_method_13_code
def yX6_drawBar : MethodName := ⟨RX6, "drawBar", "(IZZ)V"⟩
abbrev cX6_barCount : ByteArray := prog_8_method_14_code
def yX6_barCount : MethodName := ⟨RX6, "barCount", "()I"⟩
abbrev cX6_isJoined : ByteArray := prog_8_method_15_code
def yX6_isJoined : MethodName := ⟨RX6, "isJoined", "(IZ)Z"⟩
abbrev cX6_hasWord : ByteArray := prog_8_method_16_code
def yX6_hasWord : MethodName := ⟨RX6, "hasWord", "(I)Z"⟩
abbrev cX6_lengthOfWord : ByteArray := prog_8_method_17_code
def yX6_lengthOfWord : MethodName := ⟨RX6, "lengthOfWord", "(I)I"⟩
abbrev cX6_letterOfWord : ByteArray := prog_8_method_18_code
def yX6_letterOfWord : MethodName := ⟨RX6, "letterOfWord", "(II)I"⟩
abbrev cX6_beginWord : ByteArray := prog_8_method_19_code
def yX6_beginWord : MethodName := ⟨RX6, "beginWord", "()V"⟩
abbrev cX6_lengthenWord : ByteArray := prog_8_method_20_code
def yX6_lengthenWord : MethodName := ⟨RX6, "lengthenWord", "(I)V"⟩
abbrev cX6_letterOfLine : ByteArray := prog_8_method_21_code
def yX6_letterOfLine : MethodName := ⟨RX6, "letterOfLine", "(I)I"⟩
abbrev cX6_lengthenLine : ByteArray := prog_8_method_22_code
def yX6_lengthenLine : MethodName := ⟨RX6, "lengthenLine", "(I)V"⟩
def RX7 : String := "BarredGrid$TextBuffer"
def TX7 : u_T := fun k => match k with
  | 0 => ("BarredGrid$TextBuffer", "length", "I", false)
  | 1 => ("BarredGrid$TextBuffer", "grid", "LBarredGrid$State;", true)
  | 2 => ("BarredGrid$TextBuffer", "position", "I", false)
  | _ => ("BarredGrid$TextBuffer", "signs", "[I", true)
def tyX7 : Nat → FieldType := fun k => match k with
  | 0 => .int
  | 1 => .object "BarredGrid$State"
  | 2 => .int
  | _ => .array .int
abbrev wsX70 : List Cond := u_ws RX7 TX7 4
theorem nmX7 : ∀ a, a < 4 → ∀ b, b < 4 → a ≠ b → (TX7 a).2.1 ≠ (TX7 b).2.1 := by decide +kernel
theorem tyX7_ok : ∀ k, k < 4 → parseFieldDescriptor (TX7 k).2.2.1 = some (tyX7 k) := by decide +kernel
abbrev cX7_init : ByteArray := prog_9_method_1_code
def yX7_init : MethodName := ⟨RX7, "<init>", "()V"⟩
abbrev cX7_isFull : ByteArray := prog_9_method_2_code
def yX7_isFull : MethodName := ⟨RX7, "isFull", "()Z"⟩
abbrev cX7_add : ByteArray := prog_9_method_3_code
def yX7_add : MethodName := ⟨RX7, "add", "(I)I"⟩
abbrev cX7_empty : ByteArray := prog_9_method_4_code
def yX7_empty : MethodName := ⟨RX7, "empty", "()I"⟩
abbrev cX7_signAt : ByteArray := prog_9_method_5_code
def yX7_signAt : MethodName := ⟨RX7, "signAt", "(I)I"⟩
abbrev cX7_isWord : ByteArray := prog_9_method_6_code
def yX7_isWord : MethodName := ⟨RX7, "isWord", "(I)Z"⟩
abbrev cX7_readGrid : ByteArray := prog_9_method_7_code
def yX7_readGrid : MethodName := ⟨RX7, "readGrid", "()I"⟩
abbrev cX7_goesPast : ByteArray := prog_9_method_8_code
def yX7_goesPast : MethodName := ⟨RX7, "goesPast", "(I)Z"⟩
abbrev cX7_readSize : ByteArray := prog_9_method_9_code
def yX7_readSize : MethodName := ⟨RX7, "readSize", "()Z"⟩
abbrev cX7_readCells : ByteArray := prog_9_method_10_code
def yX7_readCells : MethodName := ⟨RX7, "readCells", "()Z"⟩
abbrev cX7_readBar : ByteArray := prog_9_method_11_code
def yX7_readBar : MethodName := ⟨RX7, "readBar", "(IZI)V"⟩
abbrev cX7_readParts : ByteArray := prog_9_method_12_code
def yX7_readParts : MethodName := ⟨RX7, "readParts", "()Z"⟩
abbrev cX7_readWord : ByteArray := prog_9_method_13_code
def yX7_readWord : MethodName := ⟨RX7, "readWord", "()Z"⟩
abbrev cX7_readLine : ByteArray := prog_9_method_14_code
def yX7_readLine : MethodName := ⟨RX7, "readLine", "()Z"⟩
def RX8 : String := "BarredGrid"
def TX8 : u_T := fun k => match k with
  | 0 => ("BarredGrid", "text", "LBarredGrid$TextBuffer;", true)
  | 1 => ("BarredGrid", "now", "LBarredGrid$Puzzle;", true)
  | 2 => ("BarredGrid", "trial", "LBarredGrid$Puzzle;", true)
  | 3 => ("BarredGrid", "memory", "LBarredGrid$Memory;", true)
  | 4 => ("BarredGrid", "search", "LBarredGrid$LineSearch;", true)
  | _ => ("BarredGrid", "filler", "LBarredGrid$Filler;", true)
def tyX8 : Nat → FieldType := fun k => match k with
  | 0 => .object "BarredGrid$TextBuffer"
  | 1 => .object "BarredGrid$Puzzle"
  | 2 => .object "BarredGrid$Puzzle"
  | 3 => .object "BarredGrid$Memory"
  | 4 => .object "BarredGrid$LineSearch"
  | _ => .object "BarredGrid$Filler"
abbrev wsX80 : List Cond := u_ws RX8 TX8 6
theorem nmX8 : ∀ a, a < 6 → ∀ b, b < 6 → a ≠ b → (TX8 a).2.1 ≠ (TX8 b).2.1 := by decide +kernel
theorem tyX8_ok : ∀ k, k < 6 → parseFieldDescriptor (TX8 k).2.2.1 = some (tyX8 k) := by decide +kernel
abbrev cX8_init : ByteArray := prog_1_method_1_code
def yX8_init : MethodName := ⟨RX8, "<init>", "()V"⟩
abbrev cX8_append : ByteArray := prog_1_method_2_code
def yX8_append : MethodName := ⟨RX8, "append", "(I)I"⟩
abbrev cX8_clearText : ByteArray := prog_1_method_3_code
def yX8_clearText : MethodName := ⟨RX8, "clearText", "()I"⟩
abbrev cX8_errorPosition : ByteArray := prog_1_method_4_code
def yX8_errorPosition : MethodName := ⟨RX8, "errorPosition", "()I"⟩
abbrev cX8_load : ByteArray := prog_1_method_5_code
def yX8_load : MethodName := ⟨RX8, "load", "()I"⟩
abbrev cX8_about : ByteArray := prog_1_method_6_code
def yX8_about : MethodName := ⟨RX8, "about", "(I)I"⟩
abbrev cX8_cell : ByteArray := prog_1_method_7_code
def yX8_cell : MethodName := ⟨RX8, "cell", "(II)I"⟩
abbrev cX8_entry : ByteArray := prog_1_method_8_code
def yX8_entry : MethodName := ⟨RX8, "entry", "(II)I"⟩
abbrev cX8_word : ByteArray := prog_1_method_9_code
def yX8_word : MethodName := ⟨RX8, "word", "(II)I"⟩
abbrev cX8_fits : ByteArray := prog_1_method_10_code
def yX8_fits : MethodName := ⟨RX8, "fits", "(I)I"⟩
abbrev cX8_rule : ByteArray := prog_1_method_11_code
def yX8_rule : MethodName := ⟨RX8, "rule", "(I)Z"⟩
abbrev cX8_readings : ByteArray := prog_1_method_12_code
def yX8_readings : MethodName := ⟨RX8, "readings", "()I"⟩
abbrev cX8_reading : ByteArray := prog_1_method_13_code
def yX8_reading : MethodName := ⟨RX8, "reading", "(I)I"⟩
abbrev cX8_put : ByteArray := prog_1_method_14_code
def yX8_put : MethodName := ⟨RX8, "put", "(II)I"⟩
abbrev cX8_setBar : ByteArray := prog_1_method_15_code
def yX8_setBar : MethodName := ⟨RX8, "setBar", "(IZZ)I"⟩
abbrev cX8_addWord : ByteArray := prog_1_method_16_code
def yX8_addWord : MethodName := ⟨RX8, "addWord", "()I"⟩
abbrev cX8_setLine : ByteArray := prog_1_method_17_code
def yX8_setLine : MethodName := ⟨RX8, "setLine", "()I"⟩
abbrev cX8_write : ByteArray := prog_1_method_18_code
def yX8_write : MethodName := ⟨RX8, "write", "(II)I"⟩
abbrev cX8_erase : ByteArray := prog_1_method_19_code
def yX8_erase : MethodName := ⟨RX8, "erase", "(I)I"⟩
abbrev cX8_undo : ByteArray := prog_1_method_20_code
def yX8_undo : MethodName := ⟨RX8, "undo", "()I"⟩
abbrev cX8_possible : ByteArray := prog_1_method_21_code
def yX8_possible : MethodName := ⟨RX8, "possible", "()I"⟩
abbrev cX8_fillings : ByteArray := prog_1_method_22_code
def yX8_fillings : MethodName := ⟨RX8, "fillings", "()I"⟩
abbrev cX8_mend : ByteArray := prog_1_method_23_code
def yX8_mend : MethodName := ⟨RX8, "mend", "()I"⟩
abbrev cX8_hardest : ByteArray := prog_1_method_24_code
def yX8_hardest : MethodName := ⟨RX8, "hardest", "()I"⟩
abbrev cX8_runScript : ByteArray := prog_1_method_25_code
def yX8_runScript : MethodName := ⟨RX8, "runScript", "(IJ)I"⟩
abbrev cX8_simulate : ByteArray := prog_1_method_26_code
def yX8_simulate : MethodName := ⟨RX8, "simulate", "(JI)I"⟩
abbrev cX8_save : ByteArray := prog_1_method_27_code
def yX8_save : MethodName := ⟨RX8, "save", "(I)I"⟩
abbrev cX8_restore : ByteArray := prog_1_method_28_code
def yX8_restore : MethodName := ⟨RX8, "restore", "(I)I"⟩
abbrev cX8_requireCell : ByteArray := prog_1_method_29_code
def yX8_requireCell : MethodName := ⟨RX8, "requireCell", "(I)V"⟩
abbrev cX8_requireEntry : ByteArray := prog_1_method_30_code
def yX8_requireEntry : MethodName := ⟨RX8, "requireEntry", "(I)V"⟩
abbrev cX8_requireWord : ByteArray := prog_1_method_31_code
def yX8_requireWord : MethodName := ⟨RX8, "requireWord", "(I)V"⟩
abbrev cX8_requireSlot : ByteArray := prog_1_method_32_code
def yX8_requireSlot : MethodName := ⟨RX8, "requireSlot", "(I)V"⟩
abbrev cX8_isLetter : ByteArray := prog_1_method_33_code
def yX8_isLetter : MethodName := ⟨RX8, "isLetter", "(I)Z"⟩
abbrev cX8_withoutGroups : ByteArray := prog_1_method_34_code
def yX8_withoutGroups : MethodName := ⟨RX8, "withoutGroups", "(JI)J"⟩
abbrev cX8_simulateRound : ByteArray := prog_1_method_35_code
def yX8_simulateRound : MethodName := ⟨RX8, "simulateRound", "(I)V"⟩
def RX9 : String := "BarredGridModel"
def TX9 : u_T := fun k => match k with
  | 0 => ("BarredGridModel", "thrown", "I", false)
  | 1 => ("BarredGridModel", "text", "[I", true)
  | 2 => ("BarredGridModel", "textLength", "I", false)
  | 3 => ("BarredGridModel", "state", "[I", true)
  | 4 => ("BarredGridModel", "draft", "[I", true)
  | 5 => ("BarredGridModel", "copy", "[I", true)
  | 6 => ("BarredGridModel", "history", "[I", true)
  | 7 => ("BarredGridModel", "remembered", "I", false)
  | 8 => ("BarredGridModel", "slots", "[I", true)
  | 9 => ("BarredGridModel", "isSaved", "[I", true)
  | 10 => ("BarredGridModel", "entries", "I", false)
  | 11 => ("BarredGridModel", "first", "[I", true)
  | 12 => ("BarredGridModel", "isDown", "[I", true)
  | 13 => ("BarredGridModel", "cells", "[I", true)
  | 14 => ("BarredGridModel", "across", "[I", true)
  | 15 => ("BarredGridModel", "down", "[I", true)
  | 16 => ("BarredGridModel", "clue", "[I", true)
  | 17 => ("BarredGridModel", "reached", "[I", true)
  | 18 => ("BarredGridModel", "chosen", "[I", true)
  | _ => ("BarredGridModel", "firstReading", "[I", true)
def tyX9 : Nat → FieldType := fun k => match k with
  | 0 => .int
  | 1 => .array .int
  | 2 => .int
  | 3 => .array .int
  | 4 => .array .int
  | 5 => .array .int
  | 6 => .array .int
  | 7 => .int
  | 8 => .array .int
  | 9 => .array .int
  | 10 => .int
  | 11 => .array .int
  | 12 => .array .int
  | 13 => .array .int
  | 14 => .array .int
  | 15 => .array .int
  | 16 => .array .int
  | 17 => .array .int
  | 18 => .array .int
  | _ => .array .int
abbrev wsX90 : List Cond := u_ws RX9 TX9 20
theorem nmX9 : ∀ a, a < 20 → ∀ b, b < 20 → a ≠ b → (TX9 a).2.1 ≠ (TX9 b).2.1 := by decide +kernel
theorem tyX9_ok : ∀ k, k < 20 → parseFieldDescriptor (TX9 k).2.2.1 = some (tyX9 k) := by decide +kernel
abbrev cX9_init : ByteArray := prog_11_method_1_code
def yX9_init : MethodName := ⟨RX9, "<init>", "()V"⟩
abbrev cX9_thrown : ByteArray := prog_11_method_2_code
def yX9_thrown : MethodName := ⟨RX9, "thrown", "()I"⟩
abbrev cX9_move : ByteArray := prog_11_method_3_code
def yX9_move : MethodName := ⟨RX9, "move", "([II[II)V"⟩
abbrev cX9_append : ByteArray := prog_11_method_4_code
def yX9_append : MethodName := ⟨RX9, "append", "(I)I"⟩
abbrev cX9_clearText : ByteArray := prog_11_method_5_code
def yX9_clearText : MethodName := ⟨RX9, "clearText", "()I"⟩
abbrev cX9_character : ByteArray := prog_11_method_6_code
def yX9_character : MethodName := ⟨RX9, "character", "(I)I"⟩
abbrev cX9_isLetter : ByteArray := prog_11_method_7_code
def yX9_isLetter : MethodName := ⟨RX9, "isLetter", "(I)Z"⟩
abbrev cX9_isSide : ByteArray := prog_11_method_8_code
def yX9_isSide : MethodName := ⟨RX9, "isSide", "(I)Z"⟩
abbrev cX9_readText : ByteArray := prog_11_method_9_code
def yX9_readText : MethodName := ⟨RX9, "readText", "()I"⟩
abbrev cX9_readParts : ByteArray := prog_11_method_10_code
def yX9_readParts : MethodName := ⟨RX9, "readParts", "(I)I"⟩
abbrev cX9_errorPosition : ByteArray := prog_11_method_11_code
def yX9_errorPosition : MethodName := ⟨RX9, "errorPosition", "()I"⟩
abbrev cX9_load : ByteArray := prog_11_method_12_code
def yX9_load : MethodName := ⟨RX9, "load", "()I"⟩
abbrev cX9_size : ByteArray := prog_11_method_13_code
def yX9_size : MethodName := ⟨RX9, "size", "()I"⟩
abbrev cX9_isCell : ByteArray := prog_11_method_14_code
def yX9_isCell : MethodName := ⟨RX9, "isCell", "(I)Z"⟩
abbrev cX9_isLastColumn : ByteArray := prog_11_method_15_code
def yX9_isLastColumn : MethodName := ⟨RX9, "isLastColumn", "(I)Z"⟩
abbrev cX9_isLastRow : ByteArray := prog_11_method_16_code
def yX9_isLastRow : MethodName := ⟨RX9, "isLastRow", "(I)Z"⟩
abbrev cX9_endsRight : ByteArray := prog_11_method_17_code
def yX9_endsRight : MethodName := ⟨RX9, "endsRight", "(I)Z"⟩
abbrev cX9_endsBelow : ByteArray := prog_11_method_18_code
def yX9_endsBelow : MethodName := ⟨RX9, "endsBelow", "(I)Z"⟩
abbrev cX9_findEntries : ByteArray := prog_11_method_19_code
def yX9_findEntries : MethodName := ⟨RX9, "findEntries", "()V"⟩
abbrev cX9_addEntry : ByteArray := prog_11_method_20_code
def yX9_addEntry : MethodName := ⟨RX9, "addEntry", "(III)V"⟩
abbrev cX9_isEntry : ByteArray := prog_11_method_21_code
def yX9_isEntry : MethodName := ⟨RX9, "isEntry", "(I)Z"⟩
abbrev cX9_cellOf : ByteArray := prog_11_method_22_code
def yX9_cellOf : MethodName := ⟨RX9, "cellOf", "(II)I"⟩
abbrev cX9_entriesOf : ByteArray := prog_11_method_23_code
def yX9_entriesOf : MethodName := ⟨RX9, "entriesOf", "(I)I"⟩
abbrev cX9_uncheckedIn : ByteArray := prog_11_method_24_code
def yX9_uncheckedIn : MethodName := ⟨RX9, "uncheckedIn", "(I)I"⟩
abbrev cX9_emptyIn : ByteArray := prog_11_method_25_code
def yX9_emptyIn : MethodName := ⟨RX9, "emptyIn", "(I)I"⟩
abbrev cX9_cellsIn : ByteArray := prog_11_method_26_code
def yX9_cellsIn : MethodName := ⟨RX9, "cellsIn", "(I)I"⟩
abbrev cX9_bars : ByteArray := prog_11_method_27_code
def yX9_bars : MethodName := ⟨RX9, "bars", "()I"⟩
abbrev cX9_about : ByteArray := prog_11_method_28_code
def yX9_about : MethodName := ⟨RX9, "about", "(I)I"⟩
abbrev cX9_cell : ByteArray := prog_11_method_29_code
def yX9_cell : MethodName := ⟨RX9, "cell", "(II)I"⟩
abbrev cX9_entry : ByteArray := prog_11_method_30_code
def yX9_entry : MethodName := ⟨RX9, "entry", "(II)I"⟩
abbrev cX9_wordIn : ByteArray := prog_11_method_31_code
def yX9_wordIn : MethodName := ⟨RX9, "wordIn", "(I)I"⟩
abbrev cX9_isWord : ByteArray := prog_11_method_32_code
def yX9_isWord : MethodName := ⟨RX9, "isWord", "(I)Z"⟩
abbrev cX9_letterOf : ByteArray := prog_11_method_33_code
def yX9_letterOf : MethodName := ⟨RX9, "letterOf", "(II)I"⟩
abbrev cX9_word : ByteArray := prog_11_method_34_code
def yX9_word : MethodName := ⟨RX9, "word", "(II)I"⟩
abbrev cX9_isFitting : ByteArray := prog_11_method_35_code
def yX9_isFitting : MethodName := ⟨RX9, "isFitting", "(II)Z"⟩
abbrev cX9_fitsOf : ByteArray := prog_11_method_36_code
def yX9_fitsOf : MethodName := ⟨RX9, "fitsOf", "(I)I"⟩
abbrev cX9_fits : ByteArray := prog_11_method_37_code
def yX9_fits : MethodName := ⟨RX9, "fits", "(I)I"⟩
abbrev cX9_isTurned : ByteArray := prog_11_method_38_code
def yX9_isTurned : MethodName := ⟨RX9, "isTurned", "()Z"⟩
abbrev cX9_isWellChecked : ByteArray := prog_11_method_39_code
def yX9_isWellChecked : MethodName := ⟨RX9, "isWellChecked", "()Z"⟩
abbrev cX9_isWithoutPairs : ByteArray := prog_11_method_40_code
def yX9_isWithoutPairs : MethodName := ⟨RX9, "isWithoutPairs", "()Z"⟩
abbrev cX9_isConnected : ByteArray := prog_11_method_41_code
def yX9_isConnected : MethodName := ⟨RX9, "isConnected", "()Z"⟩
abbrev cX9_keeps : ByteArray := prog_11_method_42_code
def yX9_keeps : MethodName := ⟨RX9, "keeps", "(I)Z"⟩
abbrev cX9_kept : ByteArray := prog_11_method_43_code
def yX9_kept : MethodName := ⟨RX9, "kept", "()I"⟩
abbrev cX9_isRule : ByteArray := prog_11_method_44_code
def yX9_isRule : MethodName := ⟨RX9, "isRule", "(I)Z"⟩
abbrev cX9_rule : ByteArray := prog_11_method_45_code
def yX9_rule : MethodName := ⟨RX9, "rule", "(I)Z"⟩
abbrev cX9_isKnightStep : ByteArray := prog_11_method_46_code
def yX9_isKnightStep : MethodName := ⟨RX9, "isKnightStep", "(II)Z"⟩
abbrev cX9_canRead : ByteArray := prog_11_method_47_code
def yX9_canRead : MethodName := ⟨RX9, "canRead", "(IIZ)Z"⟩
abbrev cX9_countReadings : ByteArray := prog_11_method_48_code
def yX9_countReadings : MethodName := ⟨RX9, "countReadings", "(ZI)I"⟩
abbrev cX9_readings : ByteArray := prog_11_method_49_code
def yX9_readings : MethodName := ⟨RX9, "readings", "()I"⟩
abbrev cX9_reading : ByteArray := prog_11_method_50_code
def yX9_reading : MethodName := ⟨RX9, "reading", "(I)I"⟩
abbrev cX9_remember : ByteArray := prog_11_method_51_code
def yX9_remember : MethodName := ⟨RX9, "remember", "()V"⟩
abbrev cX9_isWritable : ByteArray := prog_11_method_52_code
def yX9_isWritable : MethodName := ⟨RX9, "isWritable", "(I)Z"⟩
abbrev cX9_put : ByteArray := prog_11_method_53_code
def yX9_put : MethodName := ⟨RX9, "put", "(II)I"⟩
abbrev cX9_isRim : ByteArray := prog_11_method_54_code
def yX9_isRim : MethodName := ⟨RX9, "isRim", "(IZ)Z"⟩
abbrev cX9_bar : ByteArray := prog_11_method_55_code
def yX9_bar : MethodName := ⟨RX9, "bar", "(IZI)V"⟩
abbrev cX9_setBar : ByteArray := prog_11_method_56_code
def yX9_setBar : MethodName := ⟨RX9, "setBar", "(IZZ)I"⟩
abbrev cX9_isLetters : ByteArray := prog_11_method_57_code
def yX9_isLetters : MethodName := ⟨RX9, "isLetters", "(I)Z"⟩
abbrev cX9_addWord : ByteArray := prog_11_method_58_code
def yX9_addWord : MethodName := ⟨RX9, "addWord", "()I"⟩
abbrev cX9_setLine : ByteArray := prog_11_method_59_code
def yX9_setLine : MethodName := ⟨RX9, "setLine", "()I"⟩
abbrev cX9_writeWord : ByteArray := prog_11_method_60_code
def yX9_writeWord : MethodName := ⟨RX9, "writeWord", "(II)V"⟩
abbrev cX9_write : ByteArray := prog_11_method_61_code
def yX9_write : MethodName := ⟨RX9, "write", "(II)I"⟩
abbrev cX9_eraseEntry : ByteArray := prog_11_method_62_code
def yX9_eraseEntry : MethodName := ⟨RX9, "eraseEntry", "(I)I"⟩
abbrev cX9_erase : ByteArray := prog_11_method_63_code
def yX9_erase : MethodName := ⟨RX9, "erase", "(I)I"⟩
abbrev cX9_undo : ByteArray := prog_11_method_64_code
def yX9_undo : MethodName := ⟨RX9, "undo", "()I"⟩
abbrev cX9_possible : ByteArray := prog_11_method_65_code
def yX9_possible : MethodName := ⟨RX9, "possible", "()I"⟩
abbrev cX9_canFill : ByteArray := prog_11_method_66_code
def yX9_canFill : MethodName := ⟨RX9, "canFill", "(II)Z"⟩
abbrev cX9_fillings : ByteArray := prog_11_method_67_code
def yX9_fillings : MethodName := ⟨RX9, "fillings", "()I"⟩
abbrev cX9_change : ByteArray := prog_11_method_68_code
def yX9_change : MethodName := ⟨RX9, "change", "(IZ)V"⟩
abbrev cX9_mend : ByteArray := prog_11_method_69_code
def yX9_mend : MethodName := ⟨RX9, "mend", "()I"⟩
abbrev cX9_hardest : ByteArray := prog_11_method_70_code
def yX9_hardest : MethodName := ⟨RX9, "hardest", "()I"⟩
abbrev cX9_putsLetter : ByteArray := prog_11_method_71_code
def yX9_putsLetter : MethodName := ⟨RX9, "putsLetter", "(II)Z"⟩
abbrev cX9_setsBar : ByteArray := prog_11_method_72_code
def yX9_setsBar : MethodName := ⟨RX9, "setsBar", "(III)Z"⟩
abbrev cX9_writes : ByteArray := prog_11_method_73_code
def yX9_writes : MethodName := ⟨RX9, "writes", "(II)Z"⟩
abbrev cX9_erases : ByteArray := prog_11_method_74_code
def yX9_erases : MethodName := ⟨RX9, "erases", "(I)Z"⟩
abbrev cX9_runs : ByteArray := prog_11_method_75_code
def yX9_runs : MethodName := ⟨RX9, "runs", "(I)Z"⟩
abbrev cX9_runScript : ByteArray := prog_11_method_76_code
def yX9_runScript : MethodName := ⟨RX9, "runScript", "(IJ)I"⟩
abbrev cX9_simulate : ByteArray := prog_11_method_77_code
def yX9_simulate : MethodName := ⟨RX9, "simulate", "(JI)I"⟩
abbrev cX9_isSlot : ByteArray := prog_11_method_78_code
def yX9_isSlot : MethodName := ⟨RX9, "isSlot", "(I)Z"⟩
abbrev cX9_save : ByteArray := prog_11_method_79_code
def yX9_save : MethodName := ⟨RX9, "save", "(I)I"⟩
abbrev cX9_restore : ByteArray := prog_11_method_80_code
def yX9_restore : MethodName := ⟨RX9, "restore", "(I)I"⟩
def RJx145de : String := "java/io/Serializable"
def RJ13 : String := "java/lang/Long"
abbrev cJ13_bitCount_95d88 : ByteArray := prog_16_method_50_code
def yJ13_bitCount_95d88 : MethodName := ⟨RJ13, "bitCount", "(J)I"⟩
def RJ9 : String := "java/lang/Math"
abbrev cJ9_floorMod_7cf53 : ByteArray := prog_17_method_50_code
def yJ9_floorMod_7cf53 : MethodName := ⟨RJ9, "floorMod", "(II)I"⟩
def RJ0 : String := "java/lang/String"
def RJ10 : String := "java/lang/System"
def RJ7 : String := "java/util/Arrays"
abbrev cJ7_fill_53178 : ByteArray := prog_22_method_103_code
def yJ7_fill_53178 : MethodName := ⟨RJ7, "fill", "([II)V"⟩
def RL : String := "BarredGridLaw"
abbrev cL_append : ByteArray := method_3_code
def yL_append : MethodName := ⟨RL, "append", "(LBarredGrid;I[J)I"⟩
abbrev cL_load : ByteArray := method_4_code
def yL_load : MethodName := ⟨RL, "load", "(LBarredGrid;[J)I"⟩
abbrev cL_about : ByteArray := method_5_code
def yL_about : MethodName := ⟨RL, "about", "(LBarredGrid;I[J)I"⟩
abbrev cL_cell : ByteArray := method_6_code
def yL_cell : MethodName := ⟨RL, "cell", "(LBarredGrid;II[J)I"⟩
abbrev cL_entry : ByteArray := method_7_code
def yL_entry : MethodName := ⟨RL, "entry", "(LBarredGrid;II[J)I"⟩
abbrev cL_word : ByteArray := method_8_code
def yL_word : MethodName := ⟨RL, "word", "(LBarredGrid;II[J)I"⟩
abbrev cL_fits : ByteArray := method_9_code
def yL_fits : MethodName := ⟨RL, "fits", "(LBarredGrid;I[J)I"⟩
abbrev cL_rule : ByteArray := method_10_code
def yL_rule : MethodName := ⟨RL, "rule", "(LBarredGrid;I[J)I"⟩
abbrev cL_reading : ByteArray := method_11_code
def yL_reading : MethodName := ⟨RL, "reading", "(LBarredGrid;I[J)I"⟩
abbrev cL_put : ByteArray := method_12_code
def yL_put : MethodName := ⟨RL, "put", "(LBarredGrid;II[J)I"⟩
abbrev cL_setBar : ByteArray := method_13_code
def yL_setBar : MethodName := ⟨RL, "setBar", "(LBarredGrid;IZZ[J)I"⟩
abbrev cL_addWord : ByteArray := method_14_code
def yL_addWord : MethodName := ⟨RL, "addWord", "(LBarredGrid;[J)I"⟩
abbrev cL_setLine : ByteArray := method_15_code
def yL_setLine : MethodName := ⟨RL, "setLine", "(LBarredGrid;[J)I"⟩
abbrev cL_write : ByteArray := method_16_code
def yL_write : MethodName := ⟨RL, "write", "(LBarredGrid;II[J)I"⟩
abbrev cL_erase : ByteArray := method_17_code
def yL_erase : MethodName := ⟨RL, "erase", "(LBarredGrid;I[J)I"⟩
abbrev cL_undo : ByteArray := method_18_code
def yL_undo : MethodName := ⟨RL, "undo", "(LBarredGrid;[J)I"⟩
abbrev cL_runScript : ByteArray := method_19_code
def yL_runScript : MethodName := ⟨RL, "runScript", "(LBarredGrid;IJ[J)I"⟩
abbrev cL_simulate : ByteArray := method_20_code
def yL_simulate : MethodName := ⟨RL, "simulate", "(LBarredGrid;JI[J)I"⟩
abbrev cL_save : ByteArray := method_21_code
def yL_save : MethodName := ⟨RL, "save", "(LBarredGrid;I[J)I"⟩
abbrev cL_restore : ByteArray := method_22_code
def yL_restore : MethodName := ⟨RL, "restore", "(LBarredGrid;I[J)I"⟩
abbrev cL_law : ByteArray := code
def yL_law : MethodName := ⟨RL, "law", "([I)Z"⟩
abbrev vwCl : List vw_C := [(RX1, TX1, 4), (RX2, TX2, 7), (RX3, TX3, 5), (RX4, TX4, 10), (RX6, TX6, 10), (RX7, TX7, 4), (RX8, TX8, 6), (RX9, TX9, 20)]
/-! ===== END printed: names ===== -/
end
section
/-! ===== the small machine: values, heaps, one step ===== -/
abbrev AV : Type := Int ⊕ (Int64 ⊕ Option Nat)
abbrev AE : Type := (Nat × List AV) ⊕ ((Bool × Nat × (Nat → Int)) ⊕ ((Nat × (Nat → Int64)) ⊕ (Nat × (Nat → Option Nat))))
abbrev AH : Type := Nat → AE
abbrev ARes : Type := Option AV ⊕ String
abbrev AQ : Type := ARes → AH → Nat → Prop
abbrev AC : Type := Nat → List AV → AH → Nat → AQ → Prop
abbrev AL : Type := List (Option AV)
abbrev AJ : Type := Nat → AL → List AV → AH → Nat → Nat → Nat → Prop
abbrev vI (z : Int) : AV := .inl z
abbrev vL (x : Int64) : AV := .inr (.inl x)
abbrev vF (r : Option Nat) : AV := .inr (.inr r)
abbrev vR (k : Nat) : AV := .inr (.inr (some k))
abbrev eO (ci : Nat) (fs : List AV) : AE := .inl (ci, fs)
abbrev eI (n : Nat) (f : Nat → Int) : AE := .inr (.inl (false, n, f))
abbrev eZ (n : Nat) (f : Nat → Int) : AE := .inr (.inl (true, n, f))
abbrev eL (n : Nat) (f : Nat → Int64) : AE := .inr (.inr (.inl (n, f)))
abbrev eR (n : Nat) (f : Nat → Option Nat) : AE := .inr (.inr (.inr (n, f)))
def iI (z : Int) : Int32 := Int32.ofInt z
/-- an int that fits -/
def inR (z : Int) : Prop := -2147483648 ≤ z ∧ z < 2147483648
def lk {α : Type} : List (Nat × α) → Nat → Option α
  | [], _ => none
  | (k, a) :: t, n => cond (Nat.beq k n) (some a) (lk t n)
/-- a row of a method's code: the instruction, the next pc, the targets -/
abbrev ARow : Type := Instr × Nat × List Nat
/-- a call's row: the method's number, its kind (0 virtual, 1 static, 2 special, 3 static nest mate, 4 special nest mate, 5 Object.<init>, 6 arraycopy), how many values it takes with the receiver, the cells and slots that it makes -/
abbrev AMth : Type := Nat × Nat × Nat × Nat × Nat
/-- a method: code; fields by pool index (class number, place); calls by pool index; handlers (from, to, pc behind the store, the slot stored to, catch type's name); throw sites; made classes by pool index; cells and slots that it may make; 1 where it answers a boolean -/
abbrev MI : Type := List (Nat × ARow) × List (Nat × Nat × Nat) × List (Nat × AMth) × List (Nat × Nat × Nat × Nat × String) × List (Nat × String) × List (Nat × Nat) × List (Nat × Int64) × Nat × Nat × Nat
abbrev MI.code (I : MI) : List (Nat × ARow) := I.1
abbrev MI.fld (I : MI) : List (Nat × Nat × Nat) := I.2.1
abbrev MI.mth (I : MI) : List (Nat × AMth) := I.2.2.1
abbrev MI.hnd (I : MI) : List (Nat × Nat × Nat × Nat × String) := I.2.2.2.1
abbrev MI.thr (I : MI) : List (Nat × String) := I.2.2.2.2.1
abbrev MI.cls (I : MI) : List (Nat × Nat) := I.2.2.2.2.2.1
abbrev MI.cst (I : MI) : List (Nat × Int64) := I.2.2.2.2.2.2.1
abbrev MI.mc (I : MI) : Nat := I.2.2.2.2.2.2.2.1
abbrev MI.ms (I : MI) : Nat := I.2.2.2.2.2.2.2.2.1
abbrev MI.rt (I : MI) : Nat := I.2.2.2.2.2.2.2.2.2
/-- the first place behind all that is made: the script, the two tables of steps stand behind it -/
def aRO : Nat := 1000
def aRd (N a : Nat) : Prop := a < N ∨ a = aRO ∨ a = aRO + 1 ∨ a = aRO + 2
def aLd (I : AL) (i : Nat) : Option AV := I.getD i none
def aKill (i : Nat) (lv : AL) : AL := match i with
  | 0 => lv
  | j + 1 => match lv.getD j none with
    | some (.inr (.inl _)) => lv.set j none
    | _ => lv
def aSt (i : Nat) (v : AV) (lv : AL) : AL := (aKill i lv).set i (some v)
def aSt2 (i : Nat) (v : AV) (lv : AL) : AL := (aSt i v lv).set (i + 1) none
def aUn (i : Nat) (lv : AL) : AL := (aKill i lv).set i none
def aCat (v : AV) : Nat := match v with
  | .inr (.inl _) => 2
  | _ => 1
def aCats : List AV → Nat
  | [] => 0
  | v :: t => aCat v + aCats t
def wfV (N : Nat) (v : AV) : Prop := match v with
  | .inr (.inr (some k)) => k < N ∨ aRO ≤ k
  | _ => True
def wfE (N : Nat) (e : AE) : Prop := match e with
  | .inl (_, fs) => ∀ v ∈ fs, wfV N v
  | .inr (.inr (.inr (_, f))) => ∀ j k, f j = some k → k < N ∨ aRO ≤ k
  | _ => True
def wfH (N : Nat) (h : AH) : Prop := ∀ k, k < N → wfE N (h k)
def wfS (N : Nat) (lv : AL) (st : List AV) : Prop := (∀ o ∈ lv, ∀ v, o = some v → wfV N v) ∧ ∀ v ∈ st, wfV N v
/-- the values that a new object's fields have -/
def aDef (ty : FieldType) : AV := match ty with
  | .long => vL 0
  | .object _ => vF none
  | .array _ => vF none
  | _ => vI 0
/-- may a field of this type hold the value as it is? -/
def aFit (ty : FieldType) (v : AV) : Prop := match ty, v with
  | .int, .inl _ => True
  | .boolean, .inl z => z = 0 ∨ z = 1
  | .long, .inr (.inl _) => True
  | .object _, .inr (.inr _) => True
  | .array _, .inr (.inr _) => True
  | _, _ => False
def aTy (ci k : Nat) : FieldType := match ci with
  | 0 => tyX1 k
  | 1 => tyX2 k
  | 2 => tyX3 k
  | 3 => tyX4 k
  | 4 => tyX6 k
  | 5 => tyX7 k
  | 6 => tyX8 k
  | _ => tyX9 k
def aNf (ci : Nat) : Nat := match ci with
  | 0 => 4
  | 1 => 7
  | 2 => 5
  | 3 => 10
  | 4 => 10
  | 5 => 4
  | 6 => 6
  | 7 => 20
  | _ => 0
def aFs (ci : Nat) : List AV := (List.range (aNf ci)).map (fun k => aDef (aTy ci k))
def aCmp (c : Jvm.ClassFile.Cond) (a b : Int) : Prop := match c with
  | .eq => a = b
  | .ne => ¬ a = b
  | .lt => a < b
  | .ge => b ≤ a
  | .gt => b < a
  | .le => a ≤ b
/-- the cases of a tableswitch -/
def aSw (J : Nat → Prop) (a : Int) (lo : Int) : List Nat → Prop
  | [] => True
  | t :: ts => (a = lo → J t) ∧ aSw J a (lo + 1) ts
/-- a thrown exception: caught here, or out -/
def aThr (I : MI) (Q : AQ) (J : AJ) (E : String) (pc : Nat) (lv : AL) (h : AH) (N k n : Nat) : Prop :=
  match I.hnd.find? (fun q => decide (q.1 ≤ pc) && decide (pc < q.2.1) && decide (q.2.2.2.2 = E)) with
  | some q => J q.2.2.1 (aUn q.2.2.2.1 lv) [] h N k n
  | none => I.hnd = [] ∧ Q (.inr E) h N ∧ k ≤ I.mc ∧ n ≤ I.ms
def aCpy (f g : Nat → Int) (sp dp n : Nat) : Nat → Int := fun j => if dp ≤ j ∧ j < dp + n then f (sp + (j - dp)) else g j
def stepI (I : MI) (C : AC) (Q : AQ) (J : AJ) (i : Instr) (nx : Nat) (tg : List Nat) (pc : Nat) (lv : AL) (st : List AV) (h : AH) (N k n : Nat) : Prop :=
  match i with
  | .iconst c => J nx lv (vI c :: st) h N k n
  | .bipush c => J nx lv (vI c :: st) h N k n
  | .sipush c => J nx lv (vI c :: st) h N k n
  | .lconst c => J nx lv (vL (Int64.ofNat c) :: st) h N k n
  | .ldc x => match lk I.cst x with
    | some v => J nx lv (vI v.toInt :: st) h N k n
    | none => False
  | .ldc2_w x => match lk I.cst x with
    | some v => J nx lv (vL v :: st) h N k n
    | none => False
  | .iload a => match aLd lv a with
    | some (.inl z) => J nx lv (vI z :: st) h N k n
    | _ => False
  | .iload_n a => match aLd lv a with
    | some (.inl z) => J nx lv (vI z :: st) h N k n
    | _ => False
  | .lload a => match aLd lv a with
    | some (.inr (.inl z)) => J nx lv (vL z :: st) h N k n
    | _ => False
  | .lload_n a => match aLd lv a with
    | some (.inr (.inl z)) => J nx lv (vL z :: st) h N k n
    | _ => False
  | .aload a => match aLd lv a with
    | some (.inr (.inr (some z))) => J nx lv (vR z :: st) h N k n
    | _ => False
  | .aload_n a => match aLd lv a with
    | some (.inr (.inr (some z))) => J nx lv (vR z :: st) h N k n
    | _ => False
  | .istore a => match st with
    | .inl z :: r => J nx (aSt a (vI z) lv) r h N k n
    | _ => False
  | .istore_n a => match st with
    | .inl z :: r => J nx (aSt a (vI z) lv) r h N k n
    | _ => False
  | .lstore a => match st with
    | .inr (.inl z) :: r => J nx (aSt2 a (vL z) lv) r h N k n
    | _ => False
  | .lstore_n a => match st with
    | .inr (.inl z) :: r => J nx (aSt2 a (vL z) lv) r h N k n
    | _ => False
  | .astore a => match st with
    | .inr (.inr (some z)) :: r => J nx (aSt a (vR z) lv) r h N k n
    | _ => False
  | .astore_n a => match st with
    | .inr (.inr (some z)) :: r => J nx (aSt a (vR z) lv) r h N k n
    | _ => False
  | .iinc a c => match aLd lv a with
    | some (.inl z) => J nx (aSt a (vI (z + c)) lv) st h N k n
    | _ => False
  | .iadd => match st with
    | .inl b :: .inl a :: r => J nx lv (vI (a + b) :: r) h N k n
    | _ => False
  | .isub => match st with
    | .inl b :: .inl a :: r => J nx lv (vI (a - b) :: r) h N k n
    | _ => False
  | .imul => match st with
    | .inl b :: .inl a :: r => J nx lv (vI (a * b) :: r) h N k n
    | _ => False
  | .idiv => match st with
    | .inl b :: .inl a :: r => (0 ≤ a ∧ a < 2147483648 ∧ 0 < b ∧ b < 2147483648) ∧ J nx lv (vI (a / b) :: r) h N k n
    | _ => False
  | .irem => match st with
    | .inl b :: .inl a :: r => (0 ≤ a ∧ a < 2147483648 ∧ 0 < b ∧ b < 2147483648) ∧ J nx lv (vI (a % b) :: r) h N k n
    | _ => False
  | .iand => match st with
    | .inl b :: .inl a :: r => J nx lv (vI (iI a &&& iI b).toInt :: r) h N k n
    | _ => False
  | .ior => match st with
    | .inl b :: .inl a :: r => J nx lv (vI (iI a ||| iI b).toInt :: r) h N k n
    | _ => False
  | .ixor => match st with
    | .inl b :: .inl a :: r => J nx lv (vI (iI a ^^^ iI b).toInt :: r) h N k n
    | _ => False
  | .ishl => match st with
    | .inl b :: .inl a :: r => J nx lv (vI (iI a <<< (iI b &&& 31)).toInt :: r) h N k n
    | _ => False
  | .ishr => match st with
    | .inl b :: .inl a :: r => J nx lv (vI (iI a >>> (iI b &&& 31)).toInt :: r) h N k n
    | _ => False
  | .ladd => match st with
    | .inr (.inl b) :: .inr (.inl a) :: r => J nx lv (vL (a + b) :: r) h N k n
    | _ => False
  | .lsub => match st with
    | .inr (.inl b) :: .inr (.inl a) :: r => J nx lv (vL (a - b) :: r) h N k n
    | _ => False
  | .lmul => match st with
    | .inr (.inl b) :: .inr (.inl a) :: r => J nx lv (vL (a * b) :: r) h N k n
    | _ => False
  | .ldiv => match st with
    | .inr (.inl b) :: .inr (.inl a) :: r => (¬ b = 0) ∧ J nx lv (vL (a / b) :: r) h N k n
    | _ => False
  | .lrem => match st with
    | .inr (.inl b) :: .inr (.inl a) :: r => (¬ b = 0) ∧ J nx lv (vL (a - a / b * b) :: r) h N k n
    | _ => False
  | .land => match st with
    | .inr (.inl b) :: .inr (.inl a) :: r => J nx lv (vL (a &&& b) :: r) h N k n
    | _ => False
  | .lor => match st with
    | .inr (.inl b) :: .inr (.inl a) :: r => J nx lv (vL (a ||| b) :: r) h N k n
    | _ => False
  | .lxor => match st with
    | .inr (.inl b) :: .inr (.inl a) :: r => J nx lv (vL (a ^^^ b) :: r) h N k n
    | _ => False
  | .lshl => match st with
    | .inl b :: .inr (.inl a) :: r => J nx lv (vL (a <<< ((iI b).toInt64 &&& 63)) :: r) h N k n
    | _ => False
  | .lshr => match st with
    | .inl b :: .inr (.inl a) :: r => J nx lv (vL (a >>> ((iI b).toInt64 &&& 63)) :: r) h N k n
    | _ => False
  | .lushr => match st with
    | .inl b :: .inr (.inl a) :: r => J nx lv (vL (a.toUInt64 >>> ((iI b).toInt64.toUInt64 &&& Int64.toUInt64 63)).toInt64 :: r) h N k n
    | _ => False
  | .lcmp => match st with
    | .inr (.inl b) :: .inr (.inl a) :: r => J nx lv (vI (lg_cmp a b).toInt :: r) h N k n
    | _ => False
  | .i2l => match st with
    | .inl a :: r => J nx lv (vL (iI a).toInt64 :: r) h N k n
    | _ => False
  | .l2i => match st with
    | .inr (.inl a) :: r => J nx lv (vI a.toInt32.toInt :: r) h N k n
    | _ => False
  | .dup => match st with
    | v :: r => aCat v = 1 ∧ J nx lv (v :: v :: r) h N k n
    | _ => False
  | .dup2 => match st with
    | v :: w :: r => (aCat v = 1 ∧ aCat w = 1) ∧ J nx lv (v :: w :: v :: w :: r) h N k n
    | _ => False
  | .pop => match st with
    | v :: r => aCat v = 1 ∧ J nx lv r h N k n
    | _ => False
  | .goto _ => match tg with
    | t :: _ => J t lv st h N k n
    | _ => False
  | .ifCond c _ => match tg, st with
    | t :: _, .inl a :: r => inR a ∧ (aCmp c a 0 → J t lv r h N k n) ∧ (¬ aCmp c a 0 → J nx lv r h N k n)
    | _, _ => False
  | .if_icmp c _ => match tg, st with
    | t :: _, .inl b :: .inl a :: r => (inR a ∧ inR b) ∧ (aCmp c a b → J t lv r h N k n) ∧ (¬ aCmp c a b → J nx lv r h N k n)
    | _, _ => False
  | .tableswitch _ lo hi _ => match tg, st with
    | t :: ts, .inl a :: r => inR a ∧ (a < lo ∨ hi < a → J t lv r h N k n) ∧ aSw (fun u => J u lv r h N k n) a lo ts
    | _, _ => False
  | .getfield x => match lk I.fld x, st with
    | some (ci, j), .inr (.inr (some a)) :: r => a < N ∧ ∃ fs v, h a = eO ci fs ∧ fs[j]? = some v ∧ J nx lv (v :: r) h N k n
    | _, _ => False
  | .putfield x => match lk I.fld x, st with
    | some (ci, j), v :: .inr (.inr (some a)) :: r => a < N ∧ ∃ fs, h a = eO ci fs ∧ j < fs.length ∧ aFit (aTy ci j) v ∧ J nx lv r (va_up h a (eO ci (fs.set j v))) N k n
    | _, _ => False
  | .iaload => match st with
    | .inl i :: .inr (.inr (some a)) :: r => aRd N a ∧ ∃ m f, h a = eI m f ∧ (0 ≤ i ∧ i < m ∧ m < 2147483648) ∧ J nx lv (vI (f i.toNat) :: r) h N k n
    | _ => False
  | .baload => match st with
    | .inl i :: .inr (.inr (some a)) :: r => a < N ∧ ∃ m f, h a = eZ m f ∧ (0 ≤ i ∧ i < m ∧ m < 2147483648) ∧ J nx lv (vI (f i.toNat) :: r) h N k n
    | _ => False
  | .laload => match st with
    | .inl i :: .inr (.inr (some a)) :: r => a < N ∧ ∃ m f, h a = eL m f ∧ (0 ≤ i ∧ i < m ∧ m < 2147483648) ∧ J nx lv (vL (f i.toNat) :: r) h N k n
    | _ => False
  | .aaload => match st with
    | .inl i :: .inr (.inr (some a)) :: r => a < N ∧ ∃ m f, h a = eR m f ∧ (0 ≤ i ∧ i < m ∧ m < 2147483648) ∧ J nx lv (vF (f i.toNat) :: r) h N k n
    | _ => False
  | .iastore => match st with
    | .inl x :: .inl i :: .inr (.inr (some a)) :: r => a < N ∧ ∃ m f, h a = eI m f ∧ (0 ≤ i ∧ i < m ∧ m < 2147483648) ∧ J nx lv r (va_up h a (eI m (va_up f i.toNat x))) N k n
    | _ => False
  | .bastore => match st with
    | .inl x :: .inl i :: .inr (.inr (some a)) :: r => a < N ∧ (x = 0 ∨ x = 1) ∧ ∃ m f, h a = eZ m f ∧ (0 ≤ i ∧ i < m ∧ m < 2147483648) ∧ J nx lv r (va_up h a (eZ m (va_up f i.toNat x))) N k n
    | _ => False
  | .lastore => match st with
    | .inr (.inl x) :: .inl i :: .inr (.inr (some a)) :: r => a < N ∧ ∃ m f, h a = eL m f ∧ (0 ≤ i ∧ i < m ∧ m < 2147483648) ∧ J nx lv r (va_up h a (eL m (va_up f i.toNat x))) N k n
    | _ => False
  | .aastore => match st with
    | .inr (.inr (some b)) :: .inl i :: .inr (.inr (some a)) :: r => a < N ∧ b < N ∧ (∃ vs, h b = eO 4 vs) ∧ ∃ m f, h a = eR m f ∧ (0 ≤ i ∧ i < m ∧ m < 2147483648) ∧ J nx lv r (va_up h a (eR m (va_up f i.toNat (some b)))) N k n
    | _ => False
  | .arraylength => match st with
    | .inr (.inr (some a)) :: r => aRd N a ∧ ∃ m f, h a = eI m f ∧ J nx lv (vI (m : Int) :: r) h N k n
    | _ => False
  | .getstatic _ => match tg with
    | t :: _ => J nx lv (vR t :: st) h N k n
    | _ => False
  | .new x => match lk I.thr pc with
    | some E => aCats st ≤ 8 ∧ k + 1 ≤ I.mc ∧ n + 6 ≤ I.ms ∧ I.hnd = [] ∧ Q (.inr E) h N
    | none => match lk I.cls x with
      | some ci => (N < aRO ∧ wfH N h ∧ wfS N lv st ∧ k + 1 ≤ I.mc ∧ n + aNf ci ≤ I.ms) ∧ J nx lv (vR N :: st) (va_up h N (eO ci (aFs ci))) (N + 1) (k + 1) (n + aNf ci)
      | none => False
  | .newarray t => match t, st with
    | .int, .inl a :: r => (0 ≤ a ∧ a < 100000 ∧ N < aRO ∧ wfH N h ∧ wfS N lv r ∧ k + 1 ≤ I.mc ∧ n + a.toNat ≤ I.ms) ∧ J nx lv (vR N :: r) (va_up h N (eI a.toNat (fun _ => 0))) (N + 1) (k + 1) (n + a.toNat)
    | .boolean, .inl a :: r => (0 ≤ a ∧ a < 100000 ∧ N < aRO ∧ wfH N h ∧ wfS N lv r ∧ k + 1 ≤ I.mc ∧ n + a.toNat ≤ I.ms) ∧ J nx lv (vR N :: r) (va_up h N (eZ a.toNat (fun _ => 0))) (N + 1) (k + 1) (n + a.toNat)
    | .long, .inl a :: r => (0 ≤ a ∧ a < 100000 ∧ N < aRO ∧ wfH N h ∧ wfS N lv r ∧ k + 1 ≤ I.mc ∧ n + a.toNat ≤ I.ms) ∧ J nx lv (vR N :: r) (va_up h N (eL a.toNat (fun _ => 0))) (N + 1) (k + 1) (n + a.toNat)
    | _, _ => False
  | .anewarray _ => match st with
    | .inl a :: r => (0 ≤ a ∧ a < 100000 ∧ N < aRO ∧ wfH N h ∧ wfS N lv r ∧ k + 1 ≤ I.mc ∧ n + a.toNat ≤ I.ms) ∧ J nx lv (vR N :: r) (va_up h N (eR a.toNat (fun _ => none))) (N + 1) (k + 1) (n + a.toNat)
    | _ => False
  | .invokevirtual x => match lk I.mth x with
    | some (y, 0, na, mc, ms) => aCats (st.drop na) ≤ 8 ∧ na ≤ st.length ∧ k + mc ≤ I.mc ∧ n + ms ≤ I.ms ∧ C y ((st.take na).reverse) h N (fun r h' N' => (N' = N ∨ wfS N lv (st.drop na)) ∧ match r with
      | .inl o => J nx lv (o.toList ++ st.drop na) h' N' (k + mc) (n + ms)
      | .inr E => aThr I Q J E pc lv h' N' (k + mc) (n + ms))
    | _ => False
  | .invokestatic x => match lk I.mth x with
    | some (_, 6, _, _, _) => match st with
      | .inl ln :: .inl dp :: .inr (.inr (some b)) :: .inl sp :: .inr (.inr (some a)) :: r => a < N ∧ b < N ∧ aCats r ≤ 8 ∧ ∃ m m' f g, h a = eI m f ∧ h b = eI m' g ∧ (0 ≤ sp ∧ 0 ≤ dp ∧ 0 ≤ ln ∧ sp + ln ≤ m ∧ dp + ln ≤ m' ∧ m < 2147483648 ∧ m' < 2147483648) ∧ J nx lv r (va_up h b (eI m' (aCpy f g sp.toNat dp.toNat ln.toNat))) N k n
      | _ => False
    | some (y, _, na, mc, ms) => aCats (st.drop na) ≤ 8 ∧ na ≤ st.length ∧ k + mc ≤ I.mc ∧ n + ms ≤ I.ms ∧ C y ((st.take na).reverse) h N (fun r h' N' => (N' = N ∨ wfS N lv (st.drop na)) ∧ match r with
      | .inl o => J nx lv (o.toList ++ st.drop na) h' N' (k + mc) (n + ms)
      | .inr E => aThr I Q J E pc lv h' N' (k + mc) (n + ms))
    | _ => False
  | .invokespecial x => match lk I.mth x with
    | some (_, 5, _, _, _) => match st with
      | .inr (.inr (some _)) :: r => aCats r ≤ 8 ∧ J nx lv r h N k n
      | _ => False
    | some (y, _, na, mc, ms) => aCats (st.drop na) ≤ 8 ∧ na ≤ st.length ∧ k + mc ≤ I.mc ∧ n + ms ≤ I.ms ∧ C y ((st.take na).reverse) h N (fun r h' N' => (N' = N ∨ wfS N lv (st.drop na)) ∧ match r with
      | .inl o => J nx lv (o.toList ++ st.drop na) h' N' (k + mc) (n + ms)
      | .inr _ => False)
    | _ => False
  | .ireturn => match st with
    | [.inl a] => (I.rt = 1 → a = 0 ∨ a = 1) ∧ Q (.inl (some (vI a))) h N ∧ k ≤ I.mc ∧ n ≤ I.ms
    | _ => False
  | .lreturn => match st with
    | [.inr (.inl a)] => Q (.inl (some (vL a))) h N ∧ k ≤ I.mc ∧ n ≤ I.ms
    | _ => False
  | .areturn => match st with
    | [.inr (.inr a)] => Q (.inl (some (vF a))) h N ∧ k ≤ I.mc ∧ n ≤ I.ms
    | _ => False
  | .return_ => match st with
    | [] => Q (.inl none) h N ∧ k ≤ I.mc ∧ n ≤ I.ms
    | _ => False
  | _ => False
def step (I : MI) (C : AC) (Q : AQ) (J : AJ) (pc : Nat) (lv : AL) (st : List AV) (h : AH) (N k n : Nat) : Prop := match lk I.code pc with
  | some (i, nx, tg) => stepI I C Q J i nx tg pc lv st h N k n
  | none => False
/-- closed under the step, and under forgetting locals -/
def Clo (I : MI) (C : AC) (Q : AQ) (J : AJ) : Prop := (∀ pc lv st h N k n, step I C Q J pc lv st h N k n → J pc lv st h N k n) ∧ ∀ pc lv lv' st h N k n, lv'.length = lv.length → (∀ i v, aLd lv' i = some v → aLd lv i = some v) → J pc lv' st h N k n → J pc lv st h N k n
/-- from here the method ends with Q -/
def Run (I : MI) (C : AC) (Q : AQ) (pc : Nat) (lv : AL) (st : List AV) (h : AH) (N k n : Nat) : Prop := ∀ J, Clo I C Q J → J pc lv st h N k n
end
section
/-! ===== the small machine stands for the great one: values, worlds, locals ===== -/
/-- what is fixed for a whole run: the numbers of the objects' and of the four arrays' kinds, three addresses (script, two tables), the script, the first address that is the run's own -/
abbrev AEnv : Type := va_G × (ClassId × ClassId × ClassId × ClassId) × (Nat × Nat × Nat) × (Nat × (Nat → Int32)) × Nat
abbrev gD (E : AEnv) : va_G := E.1
abbrev gI (E : AEnv) : ClassId := E.2.1.1
abbrev gZ (E : AEnv) : ClassId := E.2.1.2.1
abbrev gJ (E : AEnv) : ClassId := E.2.1.2.2.1
abbrev gS (E : AEnv) : ClassId := E.2.1.2.2.2
abbrev gb (E : AEnv) : Nat := E.2.2.1.1
abbrev gr (E : AEnv) : Nat := E.2.2.1.2.1
abbrev gc (E : AEnv) : Nat := E.2.2.1.2.2
abbrev gL (E : AEnv) : Nat := E.2.2.2.1.1
abbrev gx (E : AEnv) : Nat → Int32 := E.2.2.2.1.2
abbrev g0 (E : AEnv) : Nat := E.2.2.2.2
abbrev gT (E : AEnv) : List (ClassId × FieldType) := [(gI E, .int), (gZ E, .boolean), (gJ E, .long), (gS E, .object RX6)]
def gA (E : AEnv) : Nat → Prop := fun q => g0 E ≤ q
def cv (ad : Nat → Nat) (v : AV) : Value := match v with
  | .inl z => .int (iI z)
  | .inr (.inl x) => .long x
  | .inr (.inr r) => va_rf (r.map ad)
def ce (E : AEnv) (ad : Nat → Nat) (e : AE) : va_E := match e with
  | .inl (ci, fs) => .inr (ci, fs.map (cv ad))
  | .inr (.inl (z, n, f)) => .inl (cond z (gZ E) (gI E), n, .inl (fun j => iI (f j)))
  | .inr (.inr (.inl (n, f))) => .inl (gJ E, n, .inr (.inl f))
  | .inr (.inr (.inr (n, f))) => .inl (gS E, n, .inr (.inr (.inr (.inr (fun j => (f j).map ad)))))
def wl (E : AEnv) (ad : Nat → Nat) (h : AH) (N : Nat) : va_W := (List.range N).map (fun k => (ad k, ce E ad (h k)))
def stepRows : Nat → Int := fun j => [-2, -2, -1, -1, 1, 1, 2, 2].getD j 0
def stepCols : Nat → Int := fun j => [-1, 1, -2, 2, -2, 2, -1, 1].getD j 0
theorem wl_get {E : AEnv} {ad : Nat → Nat} {h : AH} {N k : Nat} (hk : k < N) : (wl E ad h N)[k]? = some (ad k, ce E ad (h k)) := by simp [wl, hk]
theorem wl_set {E : AEnv} {ad : Nat → Nat} {h : AH} {N a : Nat} (e : AE) : (wl E ad h N).set a (ad a, ce E ad e) = wl E ad (va_up h a e) N := by
  apply List.ext_getElem?
  intro i
  by_cases hi : i < N
  · by_cases hia : i = a
    · subst hia
      rw [wl_get hi, List.getElem?_set_self (by simp [wl, hi]), va_up_self]
    · rw [wl_get hi, List.getElem?_set_ne (Ne.symm hia), wl_get hi, va_up_ne _ _ hia]
  · rw [List.getElem?_eq_none (by simp [wl]; omega), List.getElem?_eq_none (by simp [wl]; omega)]
theorem cv_wf {ad : Nat → Nat} {N q : Nat} {v : AV} (hN : N < aRO) (hv : wfV N v) : cv (va_up ad N q) v = cv ad v := by
  rcases v with z | x | r | r
  · rfl
  · rfl
  · rfl
  · show va_rf (some (va_up ad N q r)) = va_rf (some (ad r))
    rw [va_up_ne]
    have hv : r < N ∨ aRO ≤ r := hv
    omega
theorem ce_wf {E : AEnv} {ad : Nat → Nat} {N q : Nat} {e : AE} (hN : N < aRO) (hv : wfE N e) : ce E (va_up ad N q) e = ce E ad e := by
  rcases e with ⟨ci, fs⟩ | ⟨z, n, f⟩ | ⟨n, f⟩ | ⟨n, f⟩
  · have hv : ∀ v ∈ fs, wfV N v := hv
    show (Sum.inr (ci, fs.map (cv (va_up ad N q))) : va_E) = .inr (ci, fs.map (cv ad))
    rw [List.map_congr_left (fun v h => cv_wf hN (hv v h))]
  · rfl
  · rfl
  · have hv : ∀ j k, f j = some k → k < N ∨ aRO ≤ k := hv
    show (Sum.inl (gS E, n, .inr (.inr (.inr (.inr (fun j => (f j).map (va_up ad N q)))))) : va_E) = .inl (gS E, n, .inr (.inr (.inr (.inr (fun j => (f j).map ad)))))
    have : (fun j => (f j).map (va_up ad N q)) = (fun j => (f j).map ad) := by
      funext j
      cases hj : f j with
      | none => rfl
      | some r =>
        have := hv j r hj
        show some (va_up ad N q r) = some (ad r)
        rw [va_up_ne]
        omega
    rw [this]
theorem wl_push {E : AEnv} {ad : Nat → Nat} {h : AH} {N q : Nat} {e : AE} {x : va_E} (hN : N < aRO) (hw : wfH N h) (hx : x = ce E (va_up ad N q) e) : wl E ad h N ++ [(q, x)] = wl E (va_up ad N q) (va_up h N e) (N + 1) := by
  subst hx
  unfold wl
  rw [List.range_succ, List.map_append]
  congr 1
  · apply List.map_congr_left
    intro k hk
    have hk : k < N := List.mem_range.mp hk
    rw [va_up_ne _ _ (by omega), va_up_ne _ _ (by omega), ce_wf hN (hw k hk)]
  · simp [va_up_self]
theorem iI_add (a b : Int) : iI a + iI b = iI (a + b) := (Int32.ofInt_add a b).symm
theorem iI_sub (a b : Int) : iI a - iI b = iI (a - b) := (Int32.ofInt_sub a b).symm
theorem iI_mul (a b : Int) : iI a * iI b = iI (a * b) := (Int32.ofInt_mul a b).symm
theorem iI_toInt {a : Int} (h : inR a) : (iI a).toInt = a := by
  unfold iI
  rw [Int32.toInt_ofInt]
  have h1 := h.1
  have h2 := h.2
  have hs : (Int32.size : Int) = 4294967296 := rfl
  exact Int.bmod_eq_of_le (by omega) (by omega)
theorem iI_of (x : Int32) : iI x.toInt = x := Int32.ofInt_toInt x
theorem inR_of (x : Int32) : inR x.toInt := ⟨by have := Int32.minValue_le_toInt x; simpa using this, by have := Int32.toInt_lt x; simpa using this⟩
theorem iI_eq {a b : Int} (ha : inR a) (hb : inR b) : iI a = iI b ↔ a = b := by
  rw [← Int32.toInt_inj, iI_toInt ha, iI_toInt hb]
theorem iI_lt {a b : Int} (ha : inR a) (hb : inR b) : iI a < iI b ↔ a < b := by
  rw [Int32.lt_iff_toInt_lt, iI_toInt ha, iI_toInt hb]
theorem iI_le {a b : Int} (ha : inR a) (hb : inR b) : iI a ≤ iI b ↔ a ≤ b := by
  rw [Int32.le_iff_toInt_le, iI_toInt ha, iI_toInt hb]
theorem iI_nat (n : Nat) : iI (n : Int) = nI n := rfl
theorem iI_cl {i : Int} (h0 : 0 ≤ i) (h1 : i < 2147483648) : (iI i).toNatClampNeg = i.toNat := by
  show (iI i).toInt.toNat = i.toNat
  rw [iI_toInt ⟨by omega, h1⟩]
theorem iI_in {i : Int} {m : Nat} (h0 : 0 ≤ i) (h1 : i < m) (h2 : m < 2147483648) : vp_in (iI i) m := by
  have h3 : (iI i).toInt = i := iI_toInt ⟨by omega, by omega⟩
  rw [vp_in_iff, h3]
  exact ⟨h0, h1⟩
theorem inR_0 : inR 0 := ⟨by decide, by decide⟩
theorem iI_0 : iI 0 = 0 := rfl
theorem iI_div {a b : Int} (h0 : 0 ≤ a) (h1 : a < 2147483648) (h2 : 0 < b) (h3 : b < 2147483648) : iI a / iI b = iI (a / b) := by
  obtain ⟨x, rfl⟩ := Int.eq_ofNat_of_zero_le h0
  obtain ⟨y, rfl⟩ := Int.eq_ofNat_of_zero_le (Int.le_of_lt h2)
  rw [iI_nat, iI_nat, pk_div (by omega) (by omega) (by omega), ← iI_nat, Int.natCast_ediv]
theorem iI_rem {a b : Int} (h0 : 0 ≤ a) (h1 : a < 2147483648) (h2 : 0 < b) (h3 : b < 2147483648) : iI a - iI a / iI b * iI b = iI (a % b) := by
  obtain ⟨x, rfl⟩ := Int.eq_ofNat_of_zero_le h0
  obtain ⟨y, rfl⟩ := Int.eq_ofNat_of_zero_le (Int.le_of_lt h2)
  rw [iI_nat, iI_nat, pk_rem (by omega) (by omega) (by omega), ← iI_nat, Int.natCast_emod]
theorem iI_ne0 {b : Int} (h2 : 0 < b) (h3 : b < 2147483648) : ¬ iI b = 0 := by
  rw [← iI_0, iI_eq ⟨by omega, h3⟩ inR_0]
  omega
/-! locals -/
def lp (ad : Nat → Nat) (lv : AL) : List (Nat × Value) := (List.range lv.length).filterMap (fun i => (aLd lv i).map (fun v => (i, cv ad v)))
def Lh (ad : Nat → Nat) (ls : Array Slot) (nL : Nat) (lv : AL) : Prop := lv.length = nL ∧ lv_has ls nL (lp ad lv)
theorem aLd_lt {lv : AL} {i : Nat} {v : AV} (h : aLd lv i = some v) : i < lv.length := by
  rcases Nat.lt_or_ge i lv.length with q | q
  · exact q
  · unfold aLd at h
    rw [List.getD_eq_getElem?_getD, List.getElem?_eq_none q] at h
    cases h
theorem lp_mem {ad : Nat → Nat} {lv : AL} {i : Nat} {v : AV} (h : aLd lv i = some v) : (i, cv ad v) ∈ lp ad lv := by
  unfold lp
  rw [List.mem_filterMap]
  exact ⟨i, List.mem_range.mpr (aLd_lt h), by rw [h]; rfl⟩
theorem lp_of {ad : Nat → Nat} {lv : AL} {q : Nat × Value} (h : q ∈ lp ad lv) : ∃ v, aLd lv q.1 = some v ∧ q.2 = cv ad v := by
  unfold lp at h
  rw [List.mem_filterMap] at h
  obtain ⟨i, -, hi⟩ := h
  cases hv : aLd lv i with
  | none => rw [hv] at hi; cases hi
  | some v =>
    rw [hv] at hi
    cases hi
    exact ⟨v, hv, rfl⟩
theorem Lh.at {ad : Nat → Nat} {ls : Array Slot} {nL : Nat} {lv : AL} (h : Lh ad ls nL lv) {i : Nat} {v : AV} (hv : aLd lv i = some v) : ls[i]? = some (.val (cv ad v)) := h.2.2.2 _ (lp_mem hv)
theorem Lh.size {ad : Nat → Nat} {ls : Array Slot} {nL : Nat} {lv : AL} (h : Lh ad ls nL lv) : ls.size = nL := h.2.1
theorem Lh.less {ad : Nat → Nat} {ls : Array Slot} {nL : Nat} {lv lv' : AL} (h : Lh ad ls nL lv) (hl : lv'.length = lv.length) (hs : ∀ i v, aLd lv' i = some v → aLd lv i = some v) : Lh ad ls nL lv' := by
  refine ⟨hl.trans h.1, h.2.1, h.2.2.1, fun q hq => ?_⟩
  obtain ⟨v, h1, h2⟩ := lp_of hq
  rw [h2]
  exact h.at (hs _ _ h1)
theorem Lh.moved {ad ad' : Nat → Nat} {ls : Array Slot} {nL : Nat} {lv : AL} (h : Lh ad ls nL lv) (hs : ∀ i v, aLd lv i = some v → cv ad' v = cv ad v) : Lh ad' ls nL lv := by
  refine ⟨h.1, h.2.1, h.2.2.1, fun q hq => ?_⟩
  obtain ⟨v, h1, h2⟩ := lp_of hq
  rw [h2, hs _ _ h1]
  exact h.at h1
theorem aKill_len (i : Nat) (lv : AL) : (aKill i lv).length = lv.length := by
  unfold aKill
  split
  · rfl
  · split
    · simp
    · rfl
theorem aSt_len (i : Nat) (v : AV) (lv : AL) : (aSt i v lv).length = lv.length := by simp [aSt, aKill_len]
theorem aSt2_len (i : Nat) (v : AV) (lv : AL) : (aSt2 i v lv).length = lv.length := by simp [aSt2, aSt_len]
theorem aUn_len (i : Nat) (lv : AL) : (aUn i lv).length = lv.length := by simp [aUn, aKill_len]
theorem aLd_set {lv : AL} {i j : Nat} {o : Option AV} {v : AV} (h : aLd (lv.set i o) j = some v) : (j = i ∧ o = some v) ∨ (j ≠ i ∧ aLd lv j = some v) := by
  have hl := aLd_lt h
  rw [List.length_set] at hl
  unfold aLd at h ⊢
  rw [List.getD_eq_getElem?_getD] at h ⊢
  by_cases hij : j = i
  · subst hij
    rw [List.getElem?_set_self hl] at h
    exact Or.inl ⟨rfl, h⟩
  · rw [List.getElem?_set_ne (Ne.symm hij)] at h
    exact Or.inr ⟨hij, h⟩
theorem aKill_ld {lv : AL} {i j : Nat} {v : AV} (h : aLd (aKill i lv) j = some v) : aLd lv j = some v ∧ (j + 1 = i → aCat v = 1) := by
  unfold aKill at h
  split at h
  · exact ⟨h, fun q => by omega⟩
  · rename_i i
    split at h
    · rcases aLd_set h with ⟨-, h2⟩ | ⟨h1, h2⟩
      · cases h2
      · exact ⟨h2, fun q => by omega⟩
    · rename_i h9
      refine ⟨h, fun q => ?_⟩
      have hj : j = i := by omega
      subst hj
      rcases v with z | x | r
      · rfl
      · exact absurd h (h9 x)
      · rfl
theorem cat_cv (ad : Nat → Nat) (v : AV) : (cv ad v).category = aCat v := by
  rcases v with z | x | r | r <;> rfl
theorem cats_cv (ad : Nat → Nat) (st : List AV) : ((st.map (cv ad)).map fun v => v.category).sum = aCats st := by
  induction st with
  | nil => rfl
  | cons v t ih =>
    simp only [List.map_cons, List.sum_cons, aCats]
    rw [ih, cat_cv]
theorem Lh.st {ad : Nat → Nat} {ls : Array Slot} {nL : Nat} {lv : AL} {i : Nat} {v : AV} (hl : lv.length = nL) (h : lv_has ls nL ((i, cv ad v) :: (lp ad lv).filter (fun q => !(q.1 == i) && !(q.1 + 1 == i && q.2.category == 2)))) : Lh ad ls nL (aSt i v lv) := by
  refine ⟨(aSt_len _ _ _).trans hl, h.1, h.2.1, fun q hq => ?_⟩
  obtain ⟨w, h1, h2⟩ := lp_of hq
  rcases aLd_set h1 with ⟨e1, e2⟩ | ⟨e1, e2⟩
  · cases e2
    have := h.2.2 (i, cv ad v) List.mem_cons_self
    rw [h2, e1]
    exact this
  · obtain ⟨g1, g2⟩ := aKill_ld e2
    have := h.2.2 (q.1, cv ad w) (List.mem_cons_of_mem _ (List.mem_filter.mpr ⟨lp_mem g1, by
      have hc := cat_cv ad w
      by_cases hq1 : q.1 + 1 = i
      · have := g2 hq1
        simp [e1, hc, this]
      · simp [e1, hq1]⟩))
    rw [h2]
    exact this
theorem Lh.st2 {ad : Nat → Nat} {ls : Array Slot} {nL : Nat} {lv : AL} {i : Nat} {v : AV} (hl : lv.length = nL) (h : lv_has ls nL ((i, cv ad v) :: (lp ad lv).filter (fun q => !(q.1 == i) && (!(q.1 == i + 1) && !(q.1 + 1 == i && q.2.category == 2))))) : Lh ad ls nL (aSt2 i v lv) := by
  refine ⟨(aSt2_len _ _ _).trans hl, h.1, h.2.1, fun q hq => ?_⟩
  obtain ⟨w, h1, h2⟩ := lp_of hq
  rcases aLd_set h1 with ⟨-, e2⟩ | ⟨e0, h1⟩
  · cases e2
  rcases aLd_set h1 with ⟨e1, e2⟩ | ⟨e1, e2⟩
  · cases e2
    have := h.2.2 (i, cv ad v) List.mem_cons_self
    rw [h2, e1]
    exact this
  · obtain ⟨g1, g2⟩ := aKill_ld e2
    have := h.2.2 (q.1, cv ad w) (List.mem_cons_of_mem _ (List.mem_filter.mpr ⟨lp_mem g1, by
      have hc := cat_cv ad w
      by_cases hq1 : q.1 + 1 = i
      · have := g2 hq1
        simp [e1, e0, hc, this]
      · simp [e1, e0, hq1]⟩))
    rw [h2]
    exact this
/-- the slot of a value that nobody speaks of -/
theorem Lh.un {ad : Nat → Nat} {ls : Array Slot} {nL : Nat} {lv : AL} {i : Nat} {x : Value} (hl : lv.length = nL) (h : lv_has ls nL ((i, x) :: (lp ad lv).filter (fun q => !(q.1 == i) && !(q.1 + 1 == i && q.2.category == 2)))) : Lh ad ls nL (aUn i lv) := by
  refine ⟨(aUn_len _ _).trans hl, h.1, h.2.1, fun q hq => ?_⟩
  obtain ⟨w, h1, h2⟩ := lp_of hq
  rcases aLd_set h1 with ⟨e1, e2⟩ | ⟨e1, e2⟩
  · cases e2
  · obtain ⟨g1, g2⟩ := aKill_ld e2
    have := h.2.2 (q.1, cv ad w) (List.mem_cons_of_mem _ (List.mem_filter.mpr ⟨lp_mem g1, by
      have hc := cat_cv ad w
      by_cases hq1 : q.1 + 1 = i
      · have := g2 hq1
        simp [e1, hc, this]
      · simp [e1, hq1]⟩))
    rw [h2]
    exact this
end
section
/-! ===== one row an instruction: the small machine's step is the great one's ===== -/
def wG : List Jvm.Cond := lw_tbl.filter goodWord
def RelS (E : AEnv) (ad : Nat → Nat) (h : AH) (N : Nat) (H : Heap) : Prop :=
  va_P (gD E) vwCl (wl E ad h N) H ∧ va_D (gA E) (wl E ad h N) ∧ N ≤ aRO ∧ ad aRO = gb E ∧ ad (aRO + 1) = gr E ∧ ad (aRO + 2) = gc E ∧ h aRO = eI (gL E) (fun j => (gx E j).toInt) ∧ h (aRO + 1) = eI 8 stepRows ∧ h (aRO + 2) = eI 8 stepCols
def Rel (E : AEnv) (s : State) (ad0 : Nat → Nat) (N0 : Nat) (ad : Nat → Nat) (h : AH) (N : Nat) (H : Heap) (locs : List Loc) : Prop :=
  RelS E ad h N H ∧ va_S (gA E) s.heap H locs ∧ N0 ≤ N ∧ ∀ k, k < N0 ∨ N ≤ k → ad k = ad0 k
/-- what is read off the start and never changes: the heap's part -/
def AmbH (E : AEnv) (s : State) : Prop :=
  g0 E ≤ s.heap.size ∧ (va_X (gb E) (gL E) (gx E) s s.heap ∧ gb E < s.heap.size ∧ ¬ gA E (gb E)) ∧ (va_X (gr E) 8 (fun j => iI (stepRows j)) s s.heap ∧ gr E < s.heap.size ∧ ¬ gA E (gr E)) ∧ (va_X (gc E) 8 (fun j => iI (stepCols j)) s s.heap ∧ gc E < s.heap.size ∧ ¬ gA E (gc E))
def amJ (p : Program) (l : Launch) (e : Env) (R : Room) (s : State) (m : MethodId) (args : Array Value) (below : List Frame) (meth : Method) (c : Code) (Qf : State → Prop) (E : AEnv) (ad0 : Nat → Nat) (N0 nL : Nat) : AJ := fun pc lv st h N k n =>
  ∀ (ad : Nat → Nat) (H : Heap) (locs : List Loc) (ls : Array Slot), Rel E s ad0 N0 ad h N H locs → Lh ad ls nL lv → W p l e R s m args below meth c H locs k n Qf (F0 m pc ls (st.map (cv ad)))
section AMR
variable {p : Program} {l : Launch} {e : Env} {R : Room} {s : State} {m : MethodId} {args : Array Value} {below : List Frame} {meth : Method} {c : Code} {Qf : State → Prop}
variable {cc : ByteArray} {E : AEnv} {ad0 : Nat → Nat} {N0 nL pc : Nat} {lv : AL} {st r : List AV} {h : AH} {N k n : Nat}
theorem r_iconst (hx : p.tables.exec = Jvm.exec) (hb : c.code = cc) {z : Int} (hd : decode cc pc = .ok (.iconst z, 1)) (hj : amJ p l e R s m args below meth c Qf E ad0 N0 nL (pc + 1) lv (vI z :: st) h N k n) : amJ p l e R s m args below meth c Qf E ad0 N0 nL pc lv st h N k n := by
  intro ad H locs ls hR hL
  exact lv_iconst hx hb hd rfl (hj ad H locs ls hR hL)
theorem r_bipush (hx : p.tables.exec = Jvm.exec) (hb : c.code = cc) {z : Int} (hd : decode cc pc = .ok (.bipush z, 2)) (hz : (Int8.ofInt z).toInt32 = iI z) (hj : amJ p l e R s m args below meth c Qf E ad0 N0 nL (pc + 2) lv (vI z :: st) h N k n) : amJ p l e R s m args below meth c Qf E ad0 N0 nL pc lv st h N k n := by
  intro ad H locs ls hR hL
  exact lv_bipush hx hb hd hz (hj ad H locs ls hR hL)
theorem r_sipush (hx : p.tables.exec = Jvm.exec) (hb : c.code = cc) {z : Int} (hd : decode cc pc = .ok (.sipush z, 3)) (hz : (Int16.ofInt z).toInt32 = iI z) (hj : amJ p l e R s m args below meth c Qf E ad0 N0 nL (pc + 3) lv (vI z :: st) h N k n) : amJ p l e R s m args below meth c Qf E ad0 N0 nL pc lv st h N k n := by
  intro ad H locs ls hR hL
  exact lv_sipush hx hb hd hz (hj ad H locs ls hR hL)
theorem r_lconst (hx : p.tables.exec = Jvm.exec) (hb : c.code = cc) {z : Fin 2} (hd : decode cc pc = .ok (.lconst z, 1)) (hj : amJ p l e R s m args below meth c Qf E ad0 N0 nL (pc + 1) lv (vL (Int64.ofNat z) :: st) h N k n) : amJ p l e R s m args below meth c Qf E ad0 N0 nL pc lv st h N k n := by
  intro ad H locs ls hR hL
  exact lv_lconst hx hb hd rfl (hj ad H locs ls hR hL)
theorem r_ldc (hx : p.tables.exec = Jvm.exec) (hb : c.code = cc) {own : String} (hown : s.vm.findClass own = some m.cls) {x : Nat} {v : Int32} (hw : (Jvm.Cond.constant own x v).before args s = true) (hd : decode cc pc = .ok (.ldc x, 2)) (hj : amJ p l e R s m args below meth c Qf E ad0 N0 nL (pc + 2) lv (vI v.toInt :: st) h N k n) : amJ p l e R s m args below meth c Qf E ad0 N0 nL pc lv st h N k n := by
  intro ad H locs ls hR hL
  refine lv_ldc hx hb hown hw hd ?_
  have := hj ad H locs ls hR hL
  simp only [List.map_cons, cv, iI_of] at this
  exact this
theorem r_ldc2 (hx : p.tables.exec = Jvm.exec) (hb : c.code = cc) {own : String} (hown : s.vm.findClass own = some m.cls) {x : Nat} {v : Int64} (hw : (Jvm.Cond.constantLong own x v).before args s = true) (hd : decode cc pc = .ok (.ldc2_w x, 3)) (hj : amJ p l e R s m args below meth c Qf E ad0 N0 nL (pc + 3) lv (vL v :: st) h N k n) : amJ p l e R s m args below meth c Qf E ad0 N0 nL pc lv st h N k n := by
  intro ad H locs ls hR hL
  exact lv_ldc2 hx hb hown hw hd (hj ad H locs ls hR hL)
theorem r_iload (hx : p.tables.exec = Jvm.exec) (hb : c.code = cc) {i : Nat} {z : Int} (hd : decode cc pc = .ok (.iload i, 2)) (hv : aLd lv i = some (.inl z)) (hj : amJ p l e R s m args below meth c Qf E ad0 N0 nL (pc + 2) lv (vI z :: st) h N k n) : amJ p l e R s m args below meth c Qf E ad0 N0 nL pc lv st h N k n := by
  intro ad H locs ls hR hL
  exact lv_iload hx hb hd (hL.at hv) (hj ad H locs ls hR hL)
theorem r_iload_n (hx : p.tables.exec = Jvm.exec) (hb : c.code = cc) {i : Fin 4} {z : Int} (hd : decode cc pc = .ok (.iload_n i, 1)) (hv : aLd lv i = some (.inl z)) (hj : amJ p l e R s m args below meth c Qf E ad0 N0 nL (pc + 1) lv (vI z :: st) h N k n) : amJ p l e R s m args below meth c Qf E ad0 N0 nL pc lv st h N k n := by
  intro ad H locs ls hR hL
  exact lv_iload_n hx hb hd rfl (hL.at hv) (hj ad H locs ls hR hL)
theorem r_lload (hx : p.tables.exec = Jvm.exec) (hb : c.code = cc) {i : Nat} {z : Int64} (hd : decode cc pc = .ok (.lload i, 2)) (hv : aLd lv i = some (.inr (.inl z))) (hj : amJ p l e R s m args below meth c Qf E ad0 N0 nL (pc + 2) lv (vL z :: st) h N k n) : amJ p l e R s m args below meth c Qf E ad0 N0 nL pc lv st h N k n := by
  intro ad H locs ls hR hL
  exact lv_lload hx hb hd (hL.at hv) (hj ad H locs ls hR hL)
theorem r_lload_n (hx : p.tables.exec = Jvm.exec) (hb : c.code = cc) {i : Fin 4} {z : Int64} (hd : decode cc pc = .ok (.lload_n i, 1)) (hv : aLd lv i = some (.inr (.inl z))) (hj : amJ p l e R s m args below meth c Qf E ad0 N0 nL (pc + 1) lv (vL z :: st) h N k n) : amJ p l e R s m args below meth c Qf E ad0 N0 nL pc lv st h N k n := by
  intro ad H locs ls hR hL
  exact lv_lload_n hx hb hd rfl (hL.at hv) (hj ad H locs ls hR hL)
theorem r_aload (hx : p.tables.exec = Jvm.exec) (hb : c.code = cc) {i z : Nat} (hd : decode cc pc = .ok (.aload i, 2)) (hv : aLd lv i = some (vR z)) (hj : amJ p l e R s m args below meth c Qf E ad0 N0 nL (pc + 2) lv (vR z :: st) h N k n) : amJ p l e R s m args below meth c Qf E ad0 N0 nL pc lv st h N k n := by
  intro ad H locs ls hR hL
  exact lv_aload hx hb hd (hL.at hv) (hj ad H locs ls hR hL)
theorem r_aload_n (hx : p.tables.exec = Jvm.exec) (hb : c.code = cc) {i : Fin 4} {z : Nat} (hd : decode cc pc = .ok (.aload_n i, 1)) (hv : aLd lv i = some (vR z)) (hj : amJ p l e R s m args below meth c Qf E ad0 N0 nL (pc + 1) lv (vR z :: st) h N k n) : amJ p l e R s m args below meth c Qf E ad0 N0 nL pc lv st h N k n := by
  intro ad H locs ls hR hL
  exact lv_aload_n hx hb hd rfl (hL.at hv) (hj ad H locs ls hR hL)
theorem r_istore (hx : p.tables.exec = Jvm.exec) (hb : c.code = cc) {i : Nat} {z : Int} (hi : i < nL) (hd : decode cc pc = .ok (.istore i, 2)) (hj : amJ p l e R s m args below meth c Qf E ad0 N0 nL (pc + 2) (aSt i (vI z) lv) r h N k n) : amJ p l e R s m args below meth c Qf E ad0 N0 nL pc lv (vI z :: r) h N k n := by
  intro ad H locs ls hR hL
  exact lv_istore hx hb hd hL.2 hi rfl (fun ls' hl' => hj ad H locs ls' hR (Lh.st (v := vI z) hL.1 hl'))
theorem r_istore_n (hx : p.tables.exec = Jvm.exec) (hb : c.code = cc) {i : Fin 4} {z : Int} (hi : (i : Nat) < nL) (hd : decode cc pc = .ok (.istore_n i, 1)) (hj : amJ p l e R s m args below meth c Qf E ad0 N0 nL (pc + 1) (aSt i (vI z) lv) r h N k n) : amJ p l e R s m args below meth c Qf E ad0 N0 nL pc lv (vI z :: r) h N k n := by
  intro ad H locs ls hR hL
  exact lv_istore_n hx hb hd rfl hL.2 hi rfl (fun ls' hl' => hj ad H locs ls' hR (Lh.st (v := vI z) hL.1 hl'))
theorem r_lstore (hx : p.tables.exec = Jvm.exec) (hb : c.code = cc) {i : Nat} {z : Int64} (hi : i + 1 < nL) (hd : decode cc pc = .ok (.lstore i, 2)) (hj : amJ p l e R s m args below meth c Qf E ad0 N0 nL (pc + 2) (aSt2 i (vL z) lv) r h N k n) : amJ p l e R s m args below meth c Qf E ad0 N0 nL pc lv (vL z :: r) h N k n := by
  intro ad H locs ls hR hL
  exact lv_lstore hx hb hd hL.2 hi rfl (fun ls' hl' => hj ad H locs ls' hR (Lh.st2 (v := vL z) hL.1 hl'))
theorem r_lstore_n (hx : p.tables.exec = Jvm.exec) (hb : c.code = cc) {i : Fin 4} {z : Int64} (hi : (i : Nat) + 1 < nL) (hd : decode cc pc = .ok (.lstore_n i, 1)) (hj : amJ p l e R s m args below meth c Qf E ad0 N0 nL (pc + 1) (aSt2 i (vL z) lv) r h N k n) : amJ p l e R s m args below meth c Qf E ad0 N0 nL pc lv (vL z :: r) h N k n := by
  intro ad H locs ls hR hL
  exact lv_lstore_n hx hb hd rfl hL.2 hi rfl (fun ls' hl' => hj ad H locs ls' hR (Lh.st2 (v := vL z) hL.1 hl'))
theorem r_astore (hx : p.tables.exec = Jvm.exec) (hb : c.code = cc) {i z : Nat} (hi : i < nL) (hd : decode cc pc = .ok (.astore i, 2)) (hj : amJ p l e R s m args below meth c Qf E ad0 N0 nL (pc + 2) (aSt i (vR z) lv) r h N k n) : amJ p l e R s m args below meth c Qf E ad0 N0 nL pc lv (vR z :: r) h N k n := by
  intro ad H locs ls hR hL
  exact lv_astore hx hb hd hL.2 hi rfl (fun ls' hl' => hj ad H locs ls' hR (Lh.st (v := vR z) hL.1 hl'))
theorem r_astore_n (hx : p.tables.exec = Jvm.exec) (hb : c.code = cc) {i : Fin 4} {z : Nat} (hi : (i : Nat) < nL) (hd : decode cc pc = .ok (.astore_n i, 1)) (hj : amJ p l e R s m args below meth c Qf E ad0 N0 nL (pc + 1) (aSt i (vR z) lv) r h N k n) : amJ p l e R s m args below meth c Qf E ad0 N0 nL pc lv (vR z :: r) h N k n := by
  intro ad H locs ls hR hL
  exact lv_astore_n hx hb hd rfl hL.2 hi rfl (fun ls' hl' => hj ad H locs ls' hR (Lh.st (v := vR z) hL.1 hl'))
theorem r_iinc (hx : p.tables.exec = Jvm.exec) (hb : c.code = cc) {i : Nat} {z y : Int} (hd : decode cc pc = .ok (.iinc i y, 3)) (hv : aLd lv i = some (.inl z)) (hj : amJ p l e R s m args below meth c Qf E ad0 N0 nL (pc + 3) (aSt i (vI (z + y)) lv) st h N k n) : amJ p l e R s m args below meth c Qf E ad0 N0 nL pc lv st h N k n := by
  intro ad H locs ls hR hL
  obtain ⟨q, hq⟩ := List.getElem?_of_mem (lp_mem (ad := ad) hv)
  have hi : i < nL := by rw [← hL.1]; exact aLd_lt hv
  exact lv_iinc (v := iI (z + y)) hx hb hd hL.2 hq (iI_add z y) hi rfl (fun ls' hl' => hj ad H locs ls' hR (Lh.st (v := vI (z + y)) hL.1 hl'))
theorem r_iadd (hx : p.tables.exec = Jvm.exec) (hb : c.code = cc) {a b : Int} (hd : decode cc pc = .ok (.iadd, 1)) (hj : amJ p l e R s m args below meth c Qf E ad0 N0 nL (pc + 1) lv (vI (a + b) :: r) h N k n) : amJ p l e R s m args below meth c Qf E ad0 N0 nL pc lv (vI b :: vI a :: r) h N k n := by
  intro ad H locs ls hR hL
  refine lv_iadd (x := iI a) (y := iI b) hx hb hd ?_
  rw [iI_add]
  exact hj ad H locs ls hR hL
theorem r_isub (hx : p.tables.exec = Jvm.exec) (hb : c.code = cc) {a b : Int} (hd : decode cc pc = .ok (.isub, 1)) (hj : amJ p l e R s m args below meth c Qf E ad0 N0 nL (pc + 1) lv (vI (a - b) :: r) h N k n) : amJ p l e R s m args below meth c Qf E ad0 N0 nL pc lv (vI b :: vI a :: r) h N k n := by
  intro ad H locs ls hR hL
  refine lv_isub (x := iI a) (y := iI b) hx hb hd ?_
  rw [iI_sub]
  exact hj ad H locs ls hR hL
theorem r_imul (hx : p.tables.exec = Jvm.exec) (hb : c.code = cc) {a b : Int} (hd : decode cc pc = .ok (.imul, 1)) (hj : amJ p l e R s m args below meth c Qf E ad0 N0 nL (pc + 1) lv (vI (a * b) :: r) h N k n) : amJ p l e R s m args below meth c Qf E ad0 N0 nL pc lv (vI b :: vI a :: r) h N k n := by
  intro ad H locs ls hR hL
  refine lv_imul (x := iI a) (y := iI b) hx hb hd ?_
  rw [iI_mul]
  exact hj ad H locs ls hR hL
theorem r_idiv (hx : p.tables.exec = Jvm.exec) (hb : c.code = cc) {a b : Int} (hd : decode cc pc = .ok (.idiv, 1)) (hc : 0 ≤ a ∧ a < 2147483648 ∧ 0 < b ∧ b < 2147483648) (hj : amJ p l e R s m args below meth c Qf E ad0 N0 nL (pc + 1) lv (vI (a / b) :: r) h N k n) : amJ p l e R s m args below meth c Qf E ad0 N0 nL pc lv (vI b :: vI a :: r) h N k n := by
  intro ad H locs ls hR hL
  refine lv_idiv (x := iI a) (y := iI b) hx hb hd (iI_ne0 hc.2.2.1 hc.2.2.2) ?_
  rw [iI_div hc.1 hc.2.1 hc.2.2.1 hc.2.2.2]
  exact hj ad H locs ls hR hL
theorem r_irem (hx : p.tables.exec = Jvm.exec) (hb : c.code = cc) {a b : Int} (hd : decode cc pc = .ok (.irem, 1)) (hc : 0 ≤ a ∧ a < 2147483648 ∧ 0 < b ∧ b < 2147483648) (hj : amJ p l e R s m args below meth c Qf E ad0 N0 nL (pc + 1) lv (vI (a % b) :: r) h N k n) : amJ p l e R s m args below meth c Qf E ad0 N0 nL pc lv (vI b :: vI a :: r) h N k n := by
  intro ad H locs ls hR hL
  refine lv_irem (x := iI a) (y := iI b) hx hb hd (iI_ne0 hc.2.2.1 hc.2.2.2) ?_
  rw [iI_rem hc.1 hc.2.1 hc.2.2.1 hc.2.2.2]
  exact hj ad H locs ls hR hL
theorem r_iand (hx : p.tables.exec = Jvm.exec) (hb : c.code = cc) {a b : Int} (hd : decode cc pc = .ok (.iand, 1)) (hj : amJ p l e R s m args below meth c Qf E ad0 N0 nL (pc + 1) lv (vI (iI a &&& iI b).toInt :: r) h N k n) : amJ p l e R s m args below meth c Qf E ad0 N0 nL pc lv (vI b :: vI a :: r) h N k n := by
  intro ad H locs ls hR hL
  refine lv_iand (x := iI a) (y := iI b) hx hb hd ?_
  rw [← iI_of (iI a &&& iI b)]
  exact hj ad H locs ls hR hL
theorem r_ior (hx : p.tables.exec = Jvm.exec) (hb : c.code = cc) {a b : Int} (hd : decode cc pc = .ok (.ior, 1)) (hj : amJ p l e R s m args below meth c Qf E ad0 N0 nL (pc + 1) lv (vI (iI a ||| iI b).toInt :: r) h N k n) : amJ p l e R s m args below meth c Qf E ad0 N0 nL pc lv (vI b :: vI a :: r) h N k n := by
  intro ad H locs ls hR hL
  refine lv_ior (x := iI a) (y := iI b) hx hb hd ?_
  rw [← iI_of (iI a ||| iI b)]
  exact hj ad H locs ls hR hL
theorem r_ixor (hx : p.tables.exec = Jvm.exec) (hb : c.code = cc) {a b : Int} (hd : decode cc pc = .ok (.ixor, 1)) (hj : amJ p l e R s m args below meth c Qf E ad0 N0 nL (pc + 1) lv (vI (iI a ^^^ iI b).toInt :: r) h N k n) : amJ p l e R s m args below meth c Qf E ad0 N0 nL pc lv (vI b :: vI a :: r) h N k n := by
  intro ad H locs ls hR hL
  refine lv_ixor (x := iI a) (y := iI b) hx hb hd ?_
  rw [← iI_of (iI a ^^^ iI b)]
  exact hj ad H locs ls hR hL
theorem r_ishl (hx : p.tables.exec = Jvm.exec) (hb : c.code = cc) {a b : Int} (hd : decode cc pc = .ok (.ishl, 1)) (hj : amJ p l e R s m args below meth c Qf E ad0 N0 nL (pc + 1) lv (vI (iI a <<< (iI b &&& 31)).toInt :: r) h N k n) : amJ p l e R s m args below meth c Qf E ad0 N0 nL pc lv (vI b :: vI a :: r) h N k n := by
  intro ad H locs ls hR hL
  refine lv_ishl (x := iI a) (y := iI b) hx hb hd ?_
  rw [← iI_of (iI a <<< (iI b &&& 31))]
  exact hj ad H locs ls hR hL
theorem r_ishr (hx : p.tables.exec = Jvm.exec) (hb : c.code = cc) {a b : Int} (hd : decode cc pc = .ok (.ishr, 1)) (hj : amJ p l e R s m args below meth c Qf E ad0 N0 nL (pc + 1) lv (vI (iI a >>> (iI b &&& 31)).toInt :: r) h N k n) : amJ p l e R s m args below meth c Qf E ad0 N0 nL pc lv (vI b :: vI a :: r) h N k n := by
  intro ad H locs ls hR hL
  refine lv_ishr (x := iI a) (y := iI b) hx hb hd ?_
  rw [← iI_of (iI a >>> (iI b &&& 31))]
  exact hj ad H locs ls hR hL
theorem r_ladd (hx : p.tables.exec = Jvm.exec) (hb : c.code = cc) {a b : Int64} (hd : decode cc pc = .ok (.ladd, 1)) (hj : amJ p l e R s m args below meth c Qf E ad0 N0 nL (pc + 1) lv (vL (a + b) :: r) h N k n) : amJ p l e R s m args below meth c Qf E ad0 N0 nL pc lv (vL b :: vL a :: r) h N k n := by
  intro ad H locs ls hR hL
  exact lv_ladd hx hb hd (hj ad H locs ls hR hL)
theorem r_lsub (hx : p.tables.exec = Jvm.exec) (hb : c.code = cc) {a b : Int64} (hd : decode cc pc = .ok (.lsub, 1)) (hj : amJ p l e R s m args below meth c Qf E ad0 N0 nL (pc + 1) lv (vL (a - b) :: r) h N k n) : amJ p l e R s m args below meth c Qf E ad0 N0 nL pc lv (vL b :: vL a :: r) h N k n := by
  intro ad H locs ls hR hL
  exact lv_lsub hx hb hd (hj ad H locs ls hR hL)
theorem r_lmul (hx : p.tables.exec = Jvm.exec) (hb : c.code = cc) {a b : Int64} (hd : decode cc pc = .ok (.lmul, 1)) (hj : amJ p l e R s m args below meth c Qf E ad0 N0 nL (pc + 1) lv (vL (a * b) :: r) h N k n) : amJ p l e R s m args below meth c Qf E ad0 N0 nL pc lv (vL b :: vL a :: r) h N k n := by
  intro ad H locs ls hR hL
  exact lv_lmul hx hb hd (hj ad H locs ls hR hL)
theorem r_ldiv (hx : p.tables.exec = Jvm.exec) (hb : c.code = cc) {a b : Int64} (hd : decode cc pc = .ok (.ldiv, 1)) (hn : ¬ b = 0) (hj : amJ p l e R s m args below meth c Qf E ad0 N0 nL (pc + 1) lv (vL (a / b) :: r) h N k n) : amJ p l e R s m args below meth c Qf E ad0 N0 nL pc lv (vL b :: vL a :: r) h N k n := by
  intro ad H locs ls hR hL
  exact lv_ldiv hx hb hd hn (hj ad H locs ls hR hL)
theorem r_lrem (hx : p.tables.exec = Jvm.exec) (hb : c.code = cc) {a b : Int64} (hd : decode cc pc = .ok (.lrem, 1)) (hn : ¬ b = 0) (hj : amJ p l e R s m args below meth c Qf E ad0 N0 nL (pc + 1) lv (vL (a - a / b * b) :: r) h N k n) : amJ p l e R s m args below meth c Qf E ad0 N0 nL pc lv (vL b :: vL a :: r) h N k n := by
  intro ad H locs ls hR hL
  exact lv_lrem hx hb hd hn (hj ad H locs ls hR hL)
theorem r_land (hx : p.tables.exec = Jvm.exec) (hb : c.code = cc) {a b : Int64} (hd : decode cc pc = .ok (.land, 1)) (hj : amJ p l e R s m args below meth c Qf E ad0 N0 nL (pc + 1) lv (vL (a &&& b) :: r) h N k n) : amJ p l e R s m args below meth c Qf E ad0 N0 nL pc lv (vL b :: vL a :: r) h N k n := by
  intro ad H locs ls hR hL
  exact lv_land hx hb hd (hj ad H locs ls hR hL)
theorem r_lor (hx : p.tables.exec = Jvm.exec) (hb : c.code = cc) {a b : Int64} (hd : decode cc pc = .ok (.lor, 1)) (hj : amJ p l e R s m args below meth c Qf E ad0 N0 nL (pc + 1) lv (vL (a ||| b) :: r) h N k n) : amJ p l e R s m args below meth c Qf E ad0 N0 nL pc lv (vL b :: vL a :: r) h N k n := by
  intro ad H locs ls hR hL
  exact lv_lor hx hb hd (hj ad H locs ls hR hL)
theorem r_lxor (hx : p.tables.exec = Jvm.exec) (hb : c.code = cc) {a b : Int64} (hd : decode cc pc = .ok (.lxor, 1)) (hj : amJ p l e R s m args below meth c Qf E ad0 N0 nL (pc + 1) lv (vL (a ^^^ b) :: r) h N k n) : amJ p l e R s m args below meth c Qf E ad0 N0 nL pc lv (vL b :: vL a :: r) h N k n := by
  intro ad H locs ls hR hL
  exact lv_lxor hx hb hd (hj ad H locs ls hR hL)
theorem r_lshl (hx : p.tables.exec = Jvm.exec) (hb : c.code = cc) {a : Int64} {b : Int} (hd : decode cc pc = .ok (.lshl, 1)) (hj : amJ p l e R s m args below meth c Qf E ad0 N0 nL (pc + 1) lv (vL (a <<< ((iI b).toInt64 &&& 63)) :: r) h N k n) : amJ p l e R s m args below meth c Qf E ad0 N0 nL pc lv (vI b :: vL a :: r) h N k n := by
  intro ad H locs ls hR hL
  exact lv_lshl hx hb hd rfl (hj ad H locs ls hR hL)
theorem r_lshr (hx : p.tables.exec = Jvm.exec) (hb : c.code = cc) {a : Int64} {b : Int} (hd : decode cc pc = .ok (.lshr, 1)) (hj : amJ p l e R s m args below meth c Qf E ad0 N0 nL (pc + 1) lv (vL (a >>> ((iI b).toInt64 &&& 63)) :: r) h N k n) : amJ p l e R s m args below meth c Qf E ad0 N0 nL pc lv (vI b :: vL a :: r) h N k n := by
  intro ad H locs ls hR hL
  exact lv_lshr hx hb hd rfl (hj ad H locs ls hR hL)
theorem r_lushr (hx : p.tables.exec = Jvm.exec) (hb : c.code = cc) {a : Int64} {b : Int} (hd : decode cc pc = .ok (.lushr, 1)) (hj : amJ p l e R s m args below meth c Qf E ad0 N0 nL (pc + 1) lv (vL (a.toUInt64 >>> ((iI b).toInt64.toUInt64 &&& Int64.toUInt64 63)).toInt64 :: r) h N k n) : amJ p l e R s m args below meth c Qf E ad0 N0 nL pc lv (vI b :: vL a :: r) h N k n := by
  intro ad H locs ls hR hL
  exact lv_lushr hx hb hd rfl (hj ad H locs ls hR hL)
theorem r_lcmp (hx : p.tables.exec = Jvm.exec) (hb : c.code = cc) {a b : Int64} (hd : decode cc pc = .ok (.lcmp, 1)) (hj : amJ p l e R s m args below meth c Qf E ad0 N0 nL (pc + 1) lv (vI (lg_cmp a b).toInt :: r) h N k n) : amJ p l e R s m args below meth c Qf E ad0 N0 nL pc lv (vL b :: vL a :: r) h N k n := by
  intro ad H locs ls hR hL
  refine W.lcmp (x := a) (y := b) hx hb hd ?_
  rw [← iI_of (lg_cmp a b)]
  exact hj ad H locs ls hR hL
theorem r_i2l (hx : p.tables.exec = Jvm.exec) (hb : c.code = cc) {a : Int} (hd : decode cc pc = .ok (.i2l, 1)) (hj : amJ p l e R s m args below meth c Qf E ad0 N0 nL (pc + 1) lv (vL (iI a).toInt64 :: r) h N k n) : amJ p l e R s m args below meth c Qf E ad0 N0 nL pc lv (vI a :: r) h N k n := by
  intro ad H locs ls hR hL
  exact lv_i2l hx hb hd rfl (hj ad H locs ls hR hL)
theorem r_l2i (hx : p.tables.exec = Jvm.exec) (hb : c.code = cc) {a : Int64} (hd : decode cc pc = .ok (.l2i, 1)) (hj : amJ p l e R s m args below meth c Qf E ad0 N0 nL (pc + 1) lv (vI a.toInt32.toInt :: r) h N k n) : amJ p l e R s m args below meth c Qf E ad0 N0 nL pc lv (vL a :: r) h N k n := by
  intro ad H locs ls hR hL
  exact lv_l2i hx hb hd (iI_of _).symm (hj ad H locs ls hR hL)
theorem r_dup (hx : p.tables.exec = Jvm.exec) (hb : c.code = cc) {v : AV} (hv : aCat v = 1) (hd : decode cc pc = .ok (.dup, 1)) (hj : amJ p l e R s m args below meth c Qf E ad0 N0 nL (pc + 1) lv (v :: v :: r) h N k n) : amJ p l e R s m args below meth c Qf E ad0 N0 nL pc lv (v :: r) h N k n := by
  intro ad H locs ls hR hL
  exact lv_dup hx hb hd (by rw [cat_cv]; exact hv) (hj ad H locs ls hR hL)
theorem r_dup2 (hx : p.tables.exec = Jvm.exec) (hb : c.code = cc) {v w : AV} (hv : aCat v = 1) (hw : aCat w = 1) (hd : decode cc pc = .ok (.dup2, 1)) (hj : amJ p l e R s m args below meth c Qf E ad0 N0 nL (pc + 1) lv (v :: w :: v :: w :: r) h N k n) : amJ p l e R s m args below meth c Qf E ad0 N0 nL pc lv (v :: w :: r) h N k n := by
  intro ad H locs ls hR hL
  exact lv_dup2_11 hx hb hd (by rw [cat_cv]; exact hv) (by rw [cat_cv]; exact hw) (hj ad H locs ls hR hL)
theorem r_pop (hx : p.tables.exec = Jvm.exec) (hb : c.code = cc) {v : AV} (hv : aCat v = 1) (hd : decode cc pc = .ok (.pop, 1)) (hj : amJ p l e R s m args below meth c Qf E ad0 N0 nL (pc + 1) lv r h N k n) : amJ p l e R s m args below meth c Qf E ad0 N0 nL pc lv (v :: r) h N k n := by
  intro ad H locs ls hR hL
  exact lv_pop hx hb hd (by rw [cat_cv]; exact hv) (hj ad H locs ls hR hL)
theorem r_goto (hx : p.tables.exec = Jvm.exec) (hb : c.code = cc) {off : Int} {tgt : Nat} (hd : decode cc pc = .ok (.goto off, 3)) (ht : (pc : Int) + off = (tgt : Int)) (hj : amJ p l e R s m args below meth c Qf E ad0 N0 nL tgt lv st h N k n) : amJ p l e R s m args below meth c Qf E ad0 N0 nL pc lv st h N k n := by
  intro ad H locs ls hR hL
  exact lv_goto hx hb hd ht (hj ad H locs ls hR hL)
theorem r_if (hx : p.tables.exec = Jvm.exec) (hb : c.code = cc) {cd : Jvm.ClassFile.Cond} {off a : Int} {tgt : Nat} (ha : inR a) (hd : decode cc pc = .ok (.ifCond cd off, 3)) (ht : (pc : Int) + off = (tgt : Int)) (h1 : aCmp cd a 0 → amJ p l e R s m args below meth c Qf E ad0 N0 nL tgt lv r h N k n) (h2 : ¬ aCmp cd a 0 → amJ p l e R s m args below meth c Qf E ad0 N0 nL (pc + 3) lv r h N k n) : amJ p l e R s m args below meth c Qf E ad0 N0 nL pc lv (vI a :: r) h N k n := by
  intro ad H locs ls hR hL
  have e1 : iI a = 0 ↔ a = 0 := iI_eq ha inR_0
  have e2 : iI a < 0 ↔ a < 0 := iI_lt ha inR_0
  have e3 : 0 ≤ iI a ↔ 0 ≤ a := iI_le inR_0 ha
  have e4 : 0 < iI a ↔ 0 < a := iI_lt inR_0 ha
  have e5 : iI a ≤ 0 ↔ a ≤ 0 := iI_le ha inR_0
  cases cd
  · exact lv_if_eq hx hb hd ht (fun q => h1 (e1.mp q) ad H locs ls hR hL) (fun q => h2 (fun z => q (e1.mpr z)) ad H locs ls hR hL)
  · exact lv_if_ne hx hb hd ht (fun q => h1 (fun z => q (e1.mpr z)) ad H locs ls hR hL) (fun q => h2 (fun z => z (e1.mp q)) ad H locs ls hR hL)
  · exact lv_if_lt hx hb hd ht (fun q => h1 (e2.mp q) ad H locs ls hR hL) (fun q => h2 (fun z => q (e2.mpr z)) ad H locs ls hR hL)
  · exact lv_if_ge hx hb hd ht (fun q => h1 (e3.mp q) ad H locs ls hR hL) (fun q => h2 (fun z => q (e3.mpr z)) ad H locs ls hR hL)
  · exact lv_if_gt hx hb hd ht (fun q => h1 (e4.mp q) ad H locs ls hR hL) (fun q => h2 (fun z => q (e4.mpr z)) ad H locs ls hR hL)
  · exact lv_if_le hx hb hd ht (fun q => h1 (e5.mp q) ad H locs ls hR hL) (fun q => h2 (fun z => q (e5.mpr z)) ad H locs ls hR hL)
theorem r_icmp (hx : p.tables.exec = Jvm.exec) (hb : c.code = cc) {cd : Jvm.ClassFile.Cond} {off a b : Int} {tgt : Nat} (ha : inR a) (hb' : inR b) (hd : decode cc pc = .ok (.if_icmp cd off, 3)) (ht : (pc : Int) + off = (tgt : Int)) (h1 : aCmp cd a b → amJ p l e R s m args below meth c Qf E ad0 N0 nL tgt lv r h N k n) (h2 : ¬ aCmp cd a b → amJ p l e R s m args below meth c Qf E ad0 N0 nL (pc + 3) lv r h N k n) : amJ p l e R s m args below meth c Qf E ad0 N0 nL pc lv (vI b :: vI a :: r) h N k n := by
  intro ad H locs ls hR hL
  have e1 : iI a = iI b ↔ a = b := iI_eq ha hb'
  have e2 : iI a < iI b ↔ a < b := iI_lt ha hb'
  have e3 : iI b ≤ iI a ↔ b ≤ a := iI_le hb' ha
  have e4 : iI b < iI a ↔ b < a := iI_lt hb' ha
  have e5 : iI a ≤ iI b ↔ a ≤ b := iI_le ha hb'
  cases cd
  · exact lv_icmp_eq hx hb hd ht (fun q => h1 (e1.mp q) ad H locs ls hR hL) (fun q => h2 (fun z => q (e1.mpr z)) ad H locs ls hR hL)
  · exact lv_icmp_ne hx hb hd ht (fun q => h1 (fun z => q (e1.mpr z)) ad H locs ls hR hL) (fun q => h2 (fun z => z (e1.mp q)) ad H locs ls hR hL)
  · exact lv_icmp_lt hx hb hd ht (fun q => h1 (e2.mp q) ad H locs ls hR hL) (fun q => h2 (fun z => q (e2.mpr z)) ad H locs ls hR hL)
  · exact lv_icmp_ge hx hb hd ht (fun q => h1 (e3.mp q) ad H locs ls hR hL) (fun q => h2 (fun z => q (e3.mpr z)) ad H locs ls hR hL)
  · exact lv_icmp_gt hx hb hd ht (fun q => h1 (e4.mp q) ad H locs ls hR hL) (fun q => h2 (fun z => q (e4.mpr z)) ad H locs ls hR hL)
  · exact lv_icmp_le hx hb hd ht (fun q => h1 (e5.mp q) ad H locs ls hR hL) (fun q => h2 (fun z => q (e5.mpr z)) ad H locs ls hR hL)
end AMR
end
section
/-! ===== rows of the heap: fields, arrays, what is made ===== -/
/-- what is decided of an object's kind -/
def ClOk (ci : Nat) (q : vw_C) : Prop :=
  (∀ w ∈ u_ws q.1 q.2.1 q.2.2, w ∈ wG) ∧ (∀ k, k < q.2.2 → parseFieldDescriptor (q.2.1 k).2.2.1 = some (aTy ci k)) ∧ (∀ a, a < q.2.2 → ∀ b, b < q.2.2 → a ≠ b → (q.2.1 a).2.1 ≠ (q.2.1 b).2.1) ∧ q.2.2 = aNf ci ∧ ∀ k, k < q.2.2 → ∀ ad, cv ad (aDef (aTy ci k)) = defaultValue (aTy ci k)
theorem RelS.put {E : AEnv} {ad : Nat → Nat} {h : AH} {N a : Nat} {H H1 : Heap} {e : AE} (hR : RelS E ad h N H) (ha : a < N) (hP : va_P (gD E) vwCl (wl E ad (va_up h a e) N) H1) (hD : va_D (gA E) (wl E ad (va_up h a e) N)) : RelS E ad (va_up h a e) N H1 := by
  obtain ⟨-, -, h3, h4, h5, h6, h7, h8, h9⟩ := hR
  exact ⟨hP, hD, h3, h4, h5, h6, by rw [va_up_ne _ _ (by omega)]; exact h7, by rw [va_up_ne _ _ (by omega)]; exact h8, by rw [va_up_ne _ _ (by omega)]; exact h9⟩
theorem Rel.put {E : AEnv} {s : State} {ad0 ad : Nat → Nat} {h : AH} {N0 N a : Nat} {H H1 : Heap} {locs locs1 : List Loc} {e : AE} (hR : Rel E s ad0 N0 ad h N H locs) (ha : a < N) (hP : va_P (gD E) vwCl (wl E ad (va_up h a e) N) H1) (hD : va_D (gA E) (wl E ad (va_up h a e) N)) (hS : va_S (gA E) s.heap H1 locs1) : Rel E s ad0 N0 ad (va_up h a e) N H1 locs1 :=
  ⟨hR.1.put ha hP hD, hS, hR.2.2.1, hR.2.2.2⟩
theorem Rel.push {E : AEnv} {s : State} {ad0 ad : Nat → Nat} {h : AH} {N0 N q : Nat} {H H1 : Heap} {locs : List Loc} {e : AE} {x : va_E} (hR : Rel E s ad0 N0 ad h N H locs) (hN : N < aRO) (hw : wfH N h) (hx : x = ce E (va_up ad N q) e) (hP : va_P (gD E) vwCl (wl E ad h N ++ [(q, x)]) H1) (hD : va_D (gA E) (wl E ad h N ++ [(q, x)])) (hS : va_S (gA E) s.heap H1 locs) : Rel E s ad0 N0 (va_up ad N q) (va_up h N e) (N + 1) H1 locs := by
  rw [wl_push hN hw hx] at hP hD
  obtain ⟨⟨-, -, h3, h4, h5, h6, h7, h8, h9⟩, -, h11, h12⟩ := hR
  refine ⟨⟨hP, hD, by omega, by rw [va_up_ne _ _ (by omega)]; exact h4, by rw [va_up_ne _ _ (by omega)]; exact h5, by rw [va_up_ne _ _ (by omega)]; exact h6, by rw [va_up_ne _ _ (by omega)]; exact h7, by rw [va_up_ne _ _ (by omega)]; exact h8, by rw [va_up_ne _ _ (by omega)]; exact h9⟩, hS, by omega, fun k hk => ?_⟩
  rw [va_up_ne _ _ (by omega)]
  exact h12 k (by omega)
theorem fit_cv {ty : FieldType} {v : AV} {ad : Nat → Nat} (h : aFit ty v) : narrow ty (cv ad v) = cv ad v ∧ fits ty (cv ad v) = true := by
  rcases v with z | x | r | r <;> cases ty <;> first | exact h.elim | exact ⟨rfl, rfl⟩ | (rcases h with h | h <;> subst h <;> exact ⟨rfl, rfl⟩)
theorem Lh.push {ad : Nat → Nat} {ls : Array Slot} {nL N q : Nat} {lv : AL} {st : List AV} (h : Lh ad ls nL lv) (hN : N < aRO) (hw : wfS N lv st) : Lh (va_up ad N q) ls nL lv := by
  refine h.moved (fun i v hv => cv_wf hN ?_)
  have hm : (some v) ∈ lv := by
    have hl := aLd_lt hv
    unfold aLd at hv
    rw [List.getD_eq_getElem?_getD] at hv
    cases hg : lv[i]? with
    | none => rw [hg] at hv; cases hv
    | some o =>
      rw [hg] at hv
      have hv : o = some v := hv
      exact hv ▸ List.mem_of_getElem? hg
  exact hw.1 _ hm _ rfl
theorem st_push {ad : Nat → Nat} {N q : Nat} {lv : AL} {st : List AV} (hN : N < aRO) (hw : wfS N lv st) : st.map (cv (va_up ad N q)) = st.map (cv ad) :=
  List.map_congr_left (fun v hv => cv_wf hN (hw.2 v hv))
theorem aSw_at {J : Nat → Prop} {a : Int} : ∀ (ts : List Nat) (lo : Int) (i t : Nat), aSw J a lo ts → ts[i]? = some t → a = lo + i → J t
  | [], lo, i, t, _, h, _ => by simp at h
  | u :: ts, lo, 0, t, hs, h, e => by
    simp at h
    subst h
    exact hs.1 (by omega)
  | u :: ts, lo, i + 1, t, hs, h, e => by
    rw [List.getElem?_cons_succ] at h
    exact aSw_at ts (lo + 1) i t hs.2 h (by omega)
section AMH
variable {p : Program} {l : Launch} {e : Env} {R : Room} {s : State} {m : MethodId} {args : Array Value} {below : List Frame} {meth : Method} {c : Code} {Qf : State → Prop}
variable {cc : ByteArray} {E : AEnv} {ad0 : Nat → Nat} {N0 nL pc : Nat} {lv : AL} {st r : List AV} {h : AH} {N k n : Nat}
theorem r_switch (hx : p.tables.exec = Jvm.exec) (hb : c.code = cc) {dflt lo hi : Int} {offs : Array Int} {len t : Nat} {ts : List Nat} {a : Int} (ha : inR a) (hd : decode cc pc = .ok (.tableswitch dflt lo hi offs, len)) (h0 : (pc : Int) + dflt = (t : Int)) (hz : offs.size = ts.length ∧ (ts.length : Int) = hi - lo + 1) (ht : ∀ (i : Nat) (o : Int) (u : Nat), offs[i]? = some o → ts[i]? = some u → (pc : Int) + o = (u : Int))
    (h1 : a < lo ∨ hi < a → amJ p l e R s m args below meth c Qf E ad0 N0 nL t lv r h N k n) (h2 : aSw (fun u => amJ p l e R s m args below meth c Qf E ad0 N0 nL u lv r h N k n) a lo ts) : amJ p l e R s m args below meth c Qf E ad0 N0 nL pc lv (vI a :: r) h N k n := by
  intro ad H locs ls hR hL
  have ea := iI_toInt ha
  by_cases hq : a < lo ∨ hi < a
  · exact lv_tableOut (x := iI a) hx hb hd (by rw [ea]; exact hq) h0 (h1 hq ad H locs ls hR hL)
  · have hi : (a - lo).toNat < ts.length := by omega
    have e1 : offs[(a - lo).toNat]? = some offs[(a - lo).toNat] := Array.getElem?_eq_getElem (by omega)
    have e2 : ts[(a - lo).toNat]? = some ts[(a - lo).toNat] := List.getElem?_eq_getElem hi
    refine lv_tableIn (x := iI a) hx hb hd (by rw [ea]; omega) (by rw [ea]; omega) (by rw [ea]; exact e1) (ht _ _ _ e1 e2) ?_
    exact aSw_at ts lo _ _ h2 e2 (by omega) ad H locs ls hR hL
theorem r_getfield (hx : p.tables.exec = Jvm.exec) (hb : c.code = cc) (hG : ∀ w ∈ wG, w.before args s = true) (hCl : ∀ ci q, vwCl[ci]? = some q → ClOk ci q) (hK : va_K (gD E) vwCl (gT E) s) {own : String} (hown : s.vm.findClass own = some m.cls) {x ci j a : Nat} {fs : List AV} {v : AV} (hf : ∃ q, vwCl[ci]? = some q ∧ j < q.2.2 ∧ Jvm.Cond.fieldLink own x (q.2.1 j).1 (q.2.1 j).2.1 (q.2.1 j).2.2.1 ∈ wG) (hd : decode cc pc = .ok (.getfield x, 3)) (ha : a < N) (he : h a = eO ci fs) (hv : fs[j]? = some v) (hj : amJ p l e R s m args below meth c Qf E ad0 N0 nL (pc + 3) lv (v :: r) h N k n) : amJ p l e R s m args below meth c Qf E ad0 N0 nL pc lv (vR a :: r) h N k n := by
  intro ad H locs ls hR hL
  obtain ⟨⟨C, T, Nn⟩, hq, hjn, hw⟩ := hf
  exact va_get hx hb hG (hCl _ _ hq).1 hown hK hR.1.1 a (fs := fs.map (cv ad)) (by rw [wl_get ha, he]; rfl) hq j hjn (hG _ hw) (fun _ h => h) (v := cv ad v) (by rw [List.getElem?_map, hv]; rfl) hd (hj ad H locs ls hR hL)

theorem r_putfield (hx : p.tables.exec = Jvm.exec) (hb : c.code = cc) (hG : ∀ w ∈ wG, w.before args s = true) (hCl : ∀ ci q, vwCl[ci]? = some q → ClOk ci q) (hK : va_K (gD E) vwCl (gT E) s) {own : String} (hown : s.vm.findClass own = some m.cls) {x ci j a : Nat} {fs : List AV} {v : AV} (hf : ∃ q, vwCl[ci]? = some q ∧ j < q.2.2 ∧ Jvm.Cond.fieldLink own x (q.2.1 j).1 (q.2.1 j).2.1 (q.2.1 j).2.2.1 ∈ wG ∧ ((q.2.1 j).2.2.2 = true → meth.name = "<init>" ∧ (q.2.1 j).1 = own)) (hd : decode cc pc = .ok (.putfield x, 3)) (ha : a < N) (he : h a = eO ci fs) (hl : j < fs.length) (hfit : aFit (aTy ci j) v) (hj : amJ p l e R s m args below meth c Qf E ad0 N0 nL (pc + 3) lv r (va_up h a (eO ci (fs.set j v))) N k n) : amJ p l e R s m args below meth c Qf E ad0 N0 nL pc lv (v :: vR a :: r) h N k n := by
  intro ad H locs ls hR hL
  obtain ⟨⟨C, T, Nn⟩, hq, hjn, hw, hfin⟩ := hf
  obtain ⟨c1, c2, c3, c4, -⟩ := hCl _ _ hq
  obtain ⟨f1, f2⟩ := fit_cv (ad := ad) hfit
  have hset : ∀ X : va_W, X = (wl E ad h N).set a (ad a, .inr (ci, (fs.map (cv ad)).set j (cv ad v))) → X = wl E ad (va_up h a (eO ci (fs.set j v))) N := by
    intro X hX
    rw [hX, ← wl_set]
    simp only [ce, List.map_set]
  by_cases hz : (T j).2.2.2 = true
  · obtain ⟨g1, g2⟩ := hfin hz
    exact va_putF hx hb hG c1 (aTy ci) c2 c3 hown hK hR.1.1 hR.1.2.1 hR.2.1 a (fs := fs.map (cv ad)) (by rw [wl_get ha, he]; rfl) hq j hjn (hG _ hw) (fun _ h => h) hz g1 g2 (c2 j hjn) f1 f2 (by rw [List.length_map]; exact hl) hd
      (fun H1 locs1 hP hD hS => hj ad H1 locs1 ls (hR.put ha (by rw [← hset _ rfl]; exact hP) (by rw [← hset _ rfl]; exact hD) hS) hL)
  · exact va_put hx hb hG c1 (aTy ci) c2 c3 hown hK hR.1.1 hR.1.2.1 hR.2.1 a (fs := fs.map (cv ad)) (by rw [wl_get ha, he]; rfl) hq j hjn (hG _ hw) (fun _ h => h) (by simpa using hz) (c2 j hjn) f1 f2 (by rw [List.length_map]; exact hl) hd
      (fun H1 locs1 hP hD hS => hj ad H1 locs1 ls (hR.put ha (by rw [← hset _ rfl]; exact hP) (by rw [← hset _ rfl]; exact hD) hS) hL)

theorem r_iaload (hx : p.tables.exec = Jvm.exec) (hb : c.code = cc) (hK : va_K (gD E) vwCl (gT E) s) (hAm : AmbH E s) {a mm : Nat} {i : Int} {f : Nat → Int} (hd : decode cc pc = .ok (.iaload, 1)) (ha : aRd N a) (he : h a = eI mm f) (hi : 0 ≤ i ∧ i < mm ∧ mm < 2147483648) (hj : amJ p l e R s m args below meth c Qf E ad0 N0 nL (pc + 1) lv (vI (f i.toNat) :: r) h N k n) : amJ p l e R s m args below meth c Qf E ad0 N0 nL pc lv (vI i :: vR a :: r) h N k n := by
  intro ad H locs ls hR hL
  have hin := iI_in hi.1 hi.2.1 hi.2.2
  have ec : (iI i).toNatClampNeg = i.toNat := iI_cl hi.1 (by omega)
  rcases ha with ha | ha | ha | ha
  · refine va_iald (f := fun j => iI (f j)) hx hb hK hR.1.1 a 0 (by rw [wl_get ha, he]; rfl) rfl hin hd ?_
    rw [ec]
    exact hj ad H locs ls hR hL
  · obtain ⟨-, -, -, e4, -, -, e7, -, -⟩ := hR.1
    rw [ha, e7] at he
    cases he
    have := va_sld hx hb (rest := r.map (cv ad)) (ls := ls) hAm.2.1.1 hAm.2.1.2.1 hAm.2.1.2.2 hR.2.1 hin hd (by
      rw [ec]
      have := hj ad H locs ls hR hL
      simp only [List.map_cons, cv, iI_of] at this
      exact this)
    rw [← e4, ← ha] at this
    exact this
  · obtain ⟨-, -, -, -, e4, -, -, e7, -⟩ := hR.1
    rw [ha, e7] at he
    cases he
    have := va_sld hx hb (rest := r.map (cv ad)) (ls := ls) hAm.2.2.1.1 hAm.2.2.1.2.1 hAm.2.2.1.2.2 hR.2.1 hin hd (by
      rw [ec]
      exact hj ad H locs ls hR hL)
    rw [← e4, ← ha] at this
    exact this
  · obtain ⟨-, -, -, -, -, e4, -, -, e7⟩ := hR.1
    rw [ha, e7] at he
    cases he
    have := va_sld hx hb (rest := r.map (cv ad)) (ls := ls) hAm.2.2.2.1 hAm.2.2.2.2.1 hAm.2.2.2.2.2 hR.2.1 hin hd (by
      rw [ec]
      exact hj ad H locs ls hR hL)
    rw [← e4, ← ha] at this
    exact this

theorem r_baload (hx : p.tables.exec = Jvm.exec) (hb : c.code = cc) (hK : va_K (gD E) vwCl (gT E) s) {a mm : Nat} {i : Int} {f : Nat → Int} (hd : decode cc pc = .ok (.baload, 1)) (ha : a < N) (he : h a = eZ mm f) (hi : 0 ≤ i ∧ i < mm ∧ mm < 2147483648) (hj : amJ p l e R s m args below meth c Qf E ad0 N0 nL (pc + 1) lv (vI (f i.toNat) :: r) h N k n) : amJ p l e R s m args below meth c Qf E ad0 N0 nL pc lv (vI i :: vR a :: r) h N k n := by
  intro ad H locs ls hR hL
  have hin := iI_in hi.1 hi.2.1 hi.2.2
  have ec : (iI i).toNatClampNeg = i.toNat := iI_cl hi.1 (by omega)
  refine va_zald (f := (fun j => iI (f j))) hx hb hK hR.1.1 a 1 (by rw [wl_get ha, he]; rfl) rfl hin hd ?_
  rw [ec]
  exact hj ad H locs ls hR hL

theorem r_laload (hx : p.tables.exec = Jvm.exec) (hb : c.code = cc) (hK : va_K (gD E) vwCl (gT E) s) {a mm : Nat} {i : Int} {f : Nat → Int64} (hd : decode cc pc = .ok (.laload, 1)) (ha : a < N) (he : h a = eL mm f) (hi : 0 ≤ i ∧ i < mm ∧ mm < 2147483648) (hj : amJ p l e R s m args below meth c Qf E ad0 N0 nL (pc + 1) lv (vL (f i.toNat) :: r) h N k n) : amJ p l e R s m args below meth c Qf E ad0 N0 nL pc lv (vI i :: vR a :: r) h N k n := by
  intro ad H locs ls hR hL
  have hin := iI_in hi.1 hi.2.1 hi.2.2
  have ec : (iI i).toNatClampNeg = i.toNat := iI_cl hi.1 (by omega)
  refine va_lald (f := f) hx hb hK hR.1.1 a 2 (by rw [wl_get ha, he]; rfl) rfl hin hd ?_
  rw [ec]
  exact hj ad H locs ls hR hL

theorem r_aaload (hx : p.tables.exec = Jvm.exec) (hb : c.code = cc) (hK : va_K (gD E) vwCl (gT E) s) {a mm : Nat} {i : Int} {f : Nat → Option Nat} (hd : decode cc pc = .ok (.aaload, 1)) (ha : a < N) (he : h a = eR mm f) (hi : 0 ≤ i ∧ i < mm ∧ mm < 2147483648) (hj : amJ p l e R s m args below meth c Qf E ad0 N0 nL (pc + 1) lv (vF (f i.toNat) :: r) h N k n) : amJ p l e R s m args below meth c Qf E ad0 N0 nL pc lv (vI i :: vR a :: r) h N k n := by
  intro ad H locs ls hR hL
  have hin := iI_in hi.1 hi.2.1 hi.2.2
  have ec : (iI i).toNatClampNeg = i.toNat := iI_cl hi.1 (by omega)
  refine va_aldq (f := fun j => (f j).map ad) hx hb hK hR.1.1 a 3 (by rw [wl_get ha, he]; rfl) rfl hin hd ?_
  rw [ec]
  exact hj ad H locs ls hR hL

theorem r_iastore (hx : p.tables.exec = Jvm.exec) (hb : c.code = cc) (hK : va_K (gD E) vwCl (gT E) s) {a mm : Nat} {i : Int} {z : Int} {f : Nat → Int} (hd : decode cc pc = .ok (.iastore, 1)) (ha : a < N) (he : h a = eI mm f) (hi : 0 ≤ i ∧ i < mm ∧ mm < 2147483648) (hj : amJ p l e R s m args below meth c Qf E ad0 N0 nL (pc + 1) lv r (va_up h a (eI mm (va_up f i.toNat z))) N k n) : amJ p l e R s m args below meth c Qf E ad0 N0 nL pc lv (vI z :: vI i :: vR a :: r) h N k n := by
  intro ad H locs ls hR hL
  have hin := iI_in hi.1 hi.2.1 hi.2.2
  have ec : (iI i).toNatClampNeg = i.toNat := iI_cl hi.1 (by omega)
  have hset : (wl E ad h N).set a (ad a, .inl (gI E, mm, .inl (upd (fun j => iI (f j)) (iI i).toNatClampNeg (iI z)))) = wl E ad (va_up h a (eI mm (va_up f i.toNat z))) N := by
    rw [← wl_set, ec]
    have : upd (fun j => iI (f j)) i.toNat (iI z) = fun j => iI (va_up f i.toNat z j) := by
      funext q
      simp only [upd, va_up]
      split <;> rfl
    rw [this]
    rfl
  exact va_iast (f := fun j => iI (f j)) (x := iI z) hx hb hK hR.1.1 hR.1.2.1 hR.2.1 a 0 (by rw [wl_get ha, he]; rfl) rfl hin hd
    (fun H1 locs1 hP hD hS => hj ad H1 locs1 ls (hR.put ha (by rw [← hset]; exact hP) (by rw [← hset]; exact hD) hS) hL)

theorem r_bastore (hx : p.tables.exec = Jvm.exec) (hb : c.code = cc) (hK : va_K (gD E) vwCl (gT E) s) {a mm : Nat} {i : Int} {z : Int} {f : Nat → Int} (hz : z = 0 ∨ z = 1) (hd : decode cc pc = .ok (.bastore, 1)) (ha : a < N) (he : h a = eZ mm f) (hi : 0 ≤ i ∧ i < mm ∧ mm < 2147483648) (hj : amJ p l e R s m args below meth c Qf E ad0 N0 nL (pc + 1) lv r (va_up h a (eZ mm (va_up f i.toNat z))) N k n) : amJ p l e R s m args below meth c Qf E ad0 N0 nL pc lv (vI z :: vI i :: vR a :: r) h N k n := by
  intro ad H locs ls hR hL
  have hin := iI_in hi.1 hi.2.1 hi.2.2
  have ec : (iI i).toNatClampNeg = i.toNat := iI_cl hi.1 (by omega)
  have hnz : vp_nar .boolean (iI z) = iI z := by rcases hz with rfl | rfl <;> rfl
  have hset : (wl E ad h N).set a (ad a, .inl (gZ E, mm, .inl (upd (fun j => iI (f j)) (iI i).toNatClampNeg (vp_nar .boolean (iI z))))) = wl E ad (va_up h a (eZ mm (va_up f i.toNat z))) N := by
    rw [← wl_set, ec, hnz]
    have : upd (fun j => iI (f j)) i.toNat (iI z) = fun j => iI (va_up f i.toNat z j) := by
      funext q
      simp only [upd, va_up]
      split <;> rfl
    rw [this]
    rfl
  exact va_zast (f := fun j => iI (f j)) (x := iI z) hx hb hK hR.1.1 hR.1.2.1 hR.2.1 a 1 (by rw [wl_get ha, he]; rfl) rfl hin hd
    (fun H1 locs1 hP hD hS => hj ad H1 locs1 ls (hR.put ha (by rw [← hset]; exact hP) (by rw [← hset]; exact hD) hS) hL)

theorem r_lastore (hx : p.tables.exec = Jvm.exec) (hb : c.code = cc) (hK : va_K (gD E) vwCl (gT E) s) {a mm : Nat} {i : Int} {z : Int64} {f : Nat → Int64} (hd : decode cc pc = .ok (.lastore, 1)) (ha : a < N) (he : h a = eL mm f) (hi : 0 ≤ i ∧ i < mm ∧ mm < 2147483648) (hj : amJ p l e R s m args below meth c Qf E ad0 N0 nL (pc + 1) lv r (va_up h a (eL mm (va_up f i.toNat z))) N k n) : amJ p l e R s m args below meth c Qf E ad0 N0 nL pc lv (vL z :: vI i :: vR a :: r) h N k n := by
  intro ad H locs ls hR hL
  have hin := iI_in hi.1 hi.2.1 hi.2.2
  have ec : (iI i).toNatClampNeg = i.toNat := iI_cl hi.1 (by omega)
  have hset : (wl E ad h N).set a (ad a, .inl (gJ E, mm, .inr (.inl (vp_updL f (iI i).toNatClampNeg z)))) = wl E ad (va_up h a (eL mm (va_up f i.toNat z))) N := by
    rw [← wl_set, ec]
    rfl
  exact va_last (f := f) (x := z) hx hb hK hR.1.1 hR.1.2.1 hR.2.1 a 2 (by rw [wl_get ha, he]; rfl) rfl hin hd
    (fun H1 locs1 hP hD hS => hj ad H1 locs1 ls (hR.put ha (by rw [← hset]; exact hP) (by rw [← hset]; exact hD) hS) hL)

theorem r_aastore (hx : p.tables.exec = Jvm.exec) (hb : c.code = cc) (hK : va_K (gD E) vwCl (gT E) s) {a mm : Nat} {i : Int} {b : Nat} {vs : List AV} {f : Nat → Option Nat} (hbN : b < N) (hbe : h b = eO 4 vs) (hd : decode cc pc = .ok (.aastore, 1)) (ha : a < N) (he : h a = eR mm f) (hi : 0 ≤ i ∧ i < mm ∧ mm < 2147483648) (hj : amJ p l e R s m args below meth c Qf E ad0 N0 nL (pc + 1) lv r (va_up h a (eR mm (va_up f i.toNat (some b)))) N k n) : amJ p l e R s m args below meth c Qf E ad0 N0 nL pc lv (vR b :: vI i :: vR a :: r) h N k n := by
  intro ad H locs ls hR hL
  have hin := iI_in hi.1 hi.2.1 hi.2.2
  have ec : (iI i).toNatClampNeg = i.toNat := iI_cl hi.1 (by omega)
  have hset : (wl E ad h N).set a (ad a, .inl (gS E, mm, .inr (.inr (.inr (.inr (va_up (fun j => (f j).map ad) (iI i).toNatClampNeg (some (ad b)))))))) = wl E ad (va_up h a (eR mm (va_up f i.toNat (some b)))) N := by
    rw [← wl_set, ec]
    have : va_up (fun j => (f j).map ad) i.toNat (some (ad b)) = fun j => (va_up f i.toNat (some b) j).map ad := by
      funext q
      simp only [va_up]
      split <;> rfl
    rw [this]
    rfl
  exact va_astq (f := fun j => (f j).map ad) (r := (RX6, TX6, 10)) hx hb hK hR.1.1 hR.1.2.1 hR.2.1 a 3 b 4 (by rw [wl_get ha, he]; rfl) rfl (v := ad b) (vs := vs.map (cv ad)) (by rw [wl_get hbN, hbe]; rfl) rfl hin hd
    (fun H1 locs1 hP hD hS => hj ad H1 locs1 ls (hR.put ha (by rw [← hset]; exact hP) (by rw [← hset]; exact hD) hS) hL)

theorem r_alen (hx : p.tables.exec = Jvm.exec) (hb : c.code = cc) (hK : va_K (gD E) vwCl (gT E) s) (hAm : AmbH E s) {a mm : Nat} {f : Nat → Int} (hd : decode cc pc = .ok (.arraylength, 1)) (ha : aRd N a) (he : h a = eI mm f) (hj : amJ p l e R s m args below meth c Qf E ad0 N0 nL (pc + 1) lv (vI (mm : Int) :: r) h N k n) : amJ p l e R s m args below meth c Qf E ad0 N0 nL pc lv (vR a :: r) h N k n := by
  intro ad H locs ls hR hL
  rcases ha with ha | ha | ha | ha
  · exact va_alen (x := (mm, .inl (fun j => iI (f j)))) hx hb hK hR.1.1 a 0 (by rw [wl_get ha, he]; rfl) rfl rfl hd (hj ad H locs ls hR hL)
  · obtain ⟨-, -, -, e4, -, -, e7, -, -⟩ := hR.1
    rw [ha, e7] at he
    cases he
    have := va_slen hx hb (rest := r.map (cv ad)) (ls := ls) hAm.2.1.1 hAm.2.1.2.1 hAm.2.1.2.2 hR.2.1 hd (hj ad H locs ls hR hL)
    rw [← e4, ← ha] at this
    exact this
  · obtain ⟨-, -, -, -, e4, -, -, e7, -⟩ := hR.1
    rw [ha, e7] at he
    cases he
    have := va_slen hx hb (rest := r.map (cv ad)) (ls := ls) hAm.2.2.1.1 hAm.2.2.1.2.1 hAm.2.2.1.2.2 hR.2.1 hd (hj ad H locs ls hR hL)
    rw [← e4, ← ha] at this
    exact this
  · obtain ⟨-, -, -, -, -, e4, -, -, e7⟩ := hR.1
    rw [ha, e7] at he
    cases he
    have := va_slen hx hb (rest := r.map (cv ad)) (ls := ls) hAm.2.2.2.1 hAm.2.2.2.2.1 hAm.2.2.2.2.2 hR.2.1 hd (hj ad H locs ls hR hL)
    rw [← e4, ← ha] at this
    exact this

theorem r_new (hx : p.tables.exec = Jvm.exec) (hb : c.code = cc) (hG : ∀ w ∈ wG, w.before args s = true) (hCl : ∀ ci q, vwCl[ci]? = some q → ClOk ci q) (hK : va_K (gD E) vwCl (gT E) s) (hAm : AmbH E s) {own : String} (hown : s.vm.findClass own = some m.cls) {x ci : Nat} (hf : ∃ q, vwCl[ci]? = some q ∧ Jvm.Cond.classLink own x q.1 ∈ wG ∧ Jvm.Cond.instantiable q.1 q.2.2 ∈ wG ∧ Jvm.Cond.initialized q.1 ∈ wG) (hd : decode cc pc = .ok (.new x, 3)) (hc1 : k + 1 ≤ R.cells) (hc2 : n + aNf ci ≤ R.slots) (hN : N < aRO) (hw : wfH N h) (hws : wfS N lv st) (hj : amJ p l e R s m args below meth c Qf E ad0 N0 nL (pc + 3) lv (vR N :: st) (va_up h N (eO ci (aFs ci))) (N + 1) (k + 1) (n + aNf ci)) : amJ p l e R s m args below meth c Qf E ad0 N0 nL pc lv st h N k n := by
  intro ad H locs ls hR hL
  obtain ⟨⟨C, T, Nn⟩, hq, w1, w2, w3⟩ := hf
  obtain ⟨c1, c2, c3, c4, c5⟩ := hCl _ _ hq
  have c4 : Nn = aNf ci := c4
  refine va_new (ci := ci) (C := C) (T := T) (N := Nn) (fs := (List.range (aNf ci)).map (fun k => defaultValue (aTy ci k))) hx hb hG c1 (aTy ci) c2 hown (hG _ w1) (hG _ w2) (hG _ w3) hK hR.1.1 hR.1.2.1 hR.2.1 (fun q hq => Nat.le_trans hAm.1 hq) hq (fun j hj => ?_) hc1 (by rw [c4]; exact hc2) hd (fun q H1 hP hD hS => ?_)
  · rw [c4] at hj
    simp [vp_V, hj]
  · rw [c4]
    have hfs : ((List.range (aNf ci)).map (fun k => defaultValue (aTy ci k))) = (aFs ci).map (cv (va_up ad N q)) := by
      unfold aFs
      rw [List.map_map]
      apply List.map_congr_left
      intro k hk
      exact (c5 k (by rw [c4]; exact List.mem_range.mp hk) _).symm
    have hj' := hj (va_up ad N q) H1 locs ls (hR.push hN hw (e := eO ci (aFs ci)) (by rw [hfs]; rfl) hP hD hS) (hL.push hN hws)
    rw [List.map_cons, st_push hN hws] at hj'
    have e1 : cv (va_up ad N q) (vR N) = .ref q := by show va_rf (some (va_up ad N q N)) = _; rw [va_up_self]; rfl
    rw [e1] at hj'
    exact hj'

theorem r_newI (hx : p.tables.exec = Jvm.exec) (hb : c.code = cc) (hG : ∀ w ∈ wG, w.before args s = true) (hK : va_K (gD E) vwCl (gT E) s) (hAm : AmbH E s) {a : Int} (hw0 : Jvm.Cond.arrayClass .int ∈ wG) (hd : decode cc pc = .ok (.newarray .int, 2)) (ha : 0 ≤ a ∧ a < 100000) (hc1 : k + 1 ≤ R.cells) (hc2 : n + a.toNat ≤ R.slots) (hN : N < aRO) (hw : wfH N h) (hws : wfS N lv r) (hj : amJ p l e R s m args below meth c Qf E ad0 N0 nL (pc + 2) lv (vR N :: r) (va_up h N (eI a.toNat (fun _ => 0))) (N + 1) (k + 1) (n + a.toNat)) : amJ p l e R s m args below meth c Qf E ad0 N0 nL pc lv (vI a :: r) h N k n := by
  intro ad H locs ls hR hL
  have hr : inR a := ⟨by omega, by omega⟩
  refine va_newa (atype := .int) (ty := .int) (a0 := (a.toNat, (.inl (fun _ => 0)))) hx hb (hG _ hw0) rfl hK hR.1.1 hR.1.2.1 hR.2.1 (fun q hq => Nat.le_trans hAm.1 hq) (fun cA => rfl) (n := iI a) (N' := a.toNat) (by rw [← iI_0, iI_lt hr inR_0]; omega) (iI_cl ha.1 (by omega)) (by show a.toNat * _ ≤ _; simp only [componentBytes]; omega) hc1 hc2 hd (fun q cA H1 hK' hP hD hS => ?_)
  have e0 : cA = gI E := by
    have h1 := (hK'.2 4 (cA, .int) rfl).2
    have h2 := (hK.2 0 (gI E, .int) rfl).2
    exact Option.some.inj (h1.symm.trans h2)
  subst e0
  have hj' := hj (va_up ad N q) H1 locs ls (hR.push hN hw (e := eI a.toNat (fun _ => 0)) rfl hP hD hS) (hL.push hN hws)
  rw [List.map_cons, st_push hN hws] at hj'
  have e1 : cv (va_up ad N q) (vR N) = .ref q := by show va_rf (some (va_up ad N q N)) = _; rw [va_up_self]; rfl
  rw [e1] at hj'
  exact hj'

theorem r_newZ (hx : p.tables.exec = Jvm.exec) (hb : c.code = cc) (hG : ∀ w ∈ wG, w.before args s = true) (hK : va_K (gD E) vwCl (gT E) s) (hAm : AmbH E s) {a : Int} (hw0 : Jvm.Cond.arrayClass .boolean ∈ wG) (hd : decode cc pc = .ok (.newarray .boolean, 2)) (ha : 0 ≤ a ∧ a < 100000) (hc1 : k + 1 ≤ R.cells) (hc2 : n + a.toNat ≤ R.slots) (hN : N < aRO) (hw : wfH N h) (hws : wfS N lv r) (hj : amJ p l e R s m args below meth c Qf E ad0 N0 nL (pc + 2) lv (vR N :: r) (va_up h N (eZ a.toNat (fun _ => 0))) (N + 1) (k + 1) (n + a.toNat)) : amJ p l e R s m args below meth c Qf E ad0 N0 nL pc lv (vI a :: r) h N k n := by
  intro ad H locs ls hR hL
  have hr : inR a := ⟨by omega, by omega⟩
  refine va_newa (atype := .boolean) (ty := .boolean) (a0 := (a.toNat, (.inl (fun _ => 0)))) hx hb (hG _ hw0) rfl hK hR.1.1 hR.1.2.1 hR.2.1 (fun q hq => Nat.le_trans hAm.1 hq) (fun cA => rfl) (n := iI a) (N' := a.toNat) (by rw [← iI_0, iI_lt hr inR_0]; omega) (iI_cl ha.1 (by omega)) (by show a.toNat * _ ≤ _; simp only [componentBytes]; omega) hc1 hc2 hd (fun q cA H1 hK' hP hD hS => ?_)
  have e0 : cA = gZ E := by
    have h1 := (hK'.2 4 (cA, .boolean) rfl).2
    have h2 := (hK.2 1 (gZ E, .boolean) rfl).2
    exact Option.some.inj (h1.symm.trans h2)
  subst e0
  have hj' := hj (va_up ad N q) H1 locs ls (hR.push hN hw (e := eZ a.toNat (fun _ => 0)) rfl hP hD hS) (hL.push hN hws)
  rw [List.map_cons, st_push hN hws] at hj'
  have e1 : cv (va_up ad N q) (vR N) = .ref q := by show va_rf (some (va_up ad N q N)) = _; rw [va_up_self]; rfl
  rw [e1] at hj'
  exact hj'

theorem r_newL (hx : p.tables.exec = Jvm.exec) (hb : c.code = cc) (hG : ∀ w ∈ wG, w.before args s = true) (hK : va_K (gD E) vwCl (gT E) s) (hAm : AmbH E s) {a : Int} (hw0 : Jvm.Cond.arrayClass .long ∈ wG) (hd : decode cc pc = .ok (.newarray .long, 2)) (ha : 0 ≤ a ∧ a < 100000) (hc1 : k + 1 ≤ R.cells) (hc2 : n + a.toNat ≤ R.slots) (hN : N < aRO) (hw : wfH N h) (hws : wfS N lv r) (hj : amJ p l e R s m args below meth c Qf E ad0 N0 nL (pc + 2) lv (vR N :: r) (va_up h N (eL a.toNat (fun _ => 0))) (N + 1) (k + 1) (n + a.toNat)) : amJ p l e R s m args below meth c Qf E ad0 N0 nL pc lv (vI a :: r) h N k n := by
  intro ad H locs ls hR hL
  have hr : inR a := ⟨by omega, by omega⟩
  refine va_newa (atype := .long) (ty := .long) (a0 := (a.toNat, (.inr (.inl (fun _ => 0))))) hx hb (hG _ hw0) rfl hK hR.1.1 hR.1.2.1 hR.2.1 (fun q hq => Nat.le_trans hAm.1 hq) (fun cA => rfl) (n := iI a) (N' := a.toNat) (by rw [← iI_0, iI_lt hr inR_0]; omega) (iI_cl ha.1 (by omega)) (by show a.toNat * _ ≤ _; simp only [componentBytes]; omega) hc1 hc2 hd (fun q cA H1 hK' hP hD hS => ?_)
  have e0 : cA = gJ E := by
    have h1 := (hK'.2 4 (cA, .long) rfl).2
    have h2 := (hK.2 2 (gJ E, .long) rfl).2
    exact Option.some.inj (h1.symm.trans h2)
  subst e0
  have hj' := hj (va_up ad N q) H1 locs ls (hR.push hN hw (e := eL a.toNat (fun _ => 0)) rfl hP hD hS) (hL.push hN hws)
  rw [List.map_cons, st_push hN hws] at hj'
  have e1 : cv (va_up ad N q) (vR N) = .ref q := by show va_rf (some (va_up ad N q N)) = _; rw [va_up_self]; rfl
  rw [e1] at hj'
  exact hj'

theorem r_newR (hx : p.tables.exec = Jvm.exec) (hb : c.code = cc) (hG : ∀ w ∈ wG, w.before args s = true) (hK : va_K (gD E) vwCl (gT E) s) (hAm : AmbH E s) (hAO : va_AO RX6 s) {own : String} (hown : s.vm.findClass own = some m.cls) {a : Int} {x : Nat} (hw0 : Jvm.Cond.classLink own x RX6 ∈ wG) (hd : decode cc pc = .ok (.anewarray x, 3)) (ha : 0 ≤ a ∧ a < 100000) (hc1 : k + 1 ≤ R.cells) (hc2 : n + a.toNat ≤ R.slots) (hN : N < aRO) (hw : wfH N h) (hws : wfS N lv r) (hj : amJ p l e R s m args below meth c Qf E ad0 N0 nL (pc + 3) lv (vR N :: r) (va_up h N (eR a.toNat (fun _ => none))) (N + 1) (k + 1) (n + a.toNat)) : amJ p l e R s m args below meth c Qf E ad0 N0 nL pc lv (vI a :: r) h N k n := by
  intro ad H locs ls hR hL
  have hr : inR a := ⟨by omega, by omega⟩
  refine va_newq hx hb hown (hG _ hw0) hAO hK hR.1.1 hR.1.2.1 hR.2.1 (fun q hq => Nat.le_trans hAm.1 hq) (n := iI a) (N' := a.toNat) (by rw [← iI_0, iI_lt hr inR_0]; omega) (iI_cl ha.1 (by omega)) (by omega) hc1 hc2 hd (fun q cA H1 hK' hP hD hS => ?_)
  have e0 : cA = gS E := by
    obtain ⟨_, _, _, _, _, h1⟩ := (hK'.2 4 (cA, .object RX6) rfl).2
    obtain ⟨_, _, _, _, _, h2⟩ := (hK.2 3 (gS E, .object RX6) rfl).2
    exact Option.some.inj (h1.symm.trans h2)
  subst e0
  have hj' := hj (va_up ad N q) H1 locs ls (hR.push hN hw (e := eR a.toNat (fun _ => none)) rfl hP hD hS) (hL.push hN hws)
  rw [List.map_cons, st_push hN hws] at hj'
  have e1 : cv (va_up ad N q) (vR N) = .ref q := by show va_rf (some (va_up ad N q N)) = _; rw [va_up_self]; rfl
  rw [e1] at hj'
  exact hj'

theorem r_copy (hx : p.tables.exec = Jvm.exec) (hb : c.code = cc) (hG : ∀ w ∈ wG, w.before args s = true) (hK : va_K (gD E) vwCl (gT E) s) (hml : c.maxLocals = nL) {own : String} (hown : s.vm.findClass own = some m.cls) {x a b mm mm' : Nat} {sp dp ln : Int} {f g : Nat → Int} (hw : Jvm.Cond.methodLink own x arraycopyName ∈ wG ∧ Jvm.Cond.native arraycopyName ∈ wG ∧ Jvm.Cond.static arraycopyName ∈ wG ∧ Jvm.Cond.initialized "java/lang/System" ∈ wG) (hf1 : 1 ≤ R.frames) (hl1 : 100 ≤ R.locals) (hcat : aCats r ≤ 8) (hd : decode cc pc = .ok (.invokestatic x, 3)) (ha : a < N) (hbN : b < N) (he : h a = eI mm f) (hbe : h b = eI mm' g) (hi : 0 ≤ sp ∧ 0 ≤ dp ∧ 0 ≤ ln ∧ sp + ln ≤ mm ∧ dp + ln ≤ mm' ∧ mm < 2147483648 ∧ mm' < 2147483648) (hj : amJ p l e R s m args below meth c Qf E ad0 N0 nL (pc + 3) lv r (va_up h b (eI mm' (aCpy f g sp.toNat dp.toNat ln.toNat))) N k n) : amJ p l e R s m args below meth c Qf E ad0 N0 nL pc lv (vI ln :: vI dp :: vR b :: vI sp :: vR a :: r) h N k n := by
  intro ad H locs ls hR hL
  obtain ⟨i1, i2, i3, i4, i5, i6, i7⟩ := hi
  have e1 : (iI sp).toNatClampNeg = sp.toNat := iI_cl i1 (by omega)
  have e2 : (iI dp).toNatClampNeg = dp.toNat := iI_cl i2 (by omega)
  have e3 : (iI ln).toNatClampNeg = ln.toNat := iI_cl i3 (by omega)
  have hset : (wl E ad h N).set b (ad b, .inl (gI E, mm', .inl (va_cpy (fun j => iI (f j)) (fun j => iI (g j)) (iI sp).toNatClampNeg (iI dp).toNatClampNeg (iI ln).toNatClampNeg))) = wl E ad (va_up h b (eI mm' (aCpy f g sp.toNat dp.toNat ln.toNat))) N := by
    rw [← wl_set, e1, e2, e3]
    have : va_cpy (fun j => iI (f j)) (fun j => iI (g j)) sp.toNat dp.toNat ln.toNat = fun j => iI (aCpy f g sp.toNat dp.toNat ln.toNat j) := by
      funext q
      by_cases hq : dp.toNat ≤ q ∧ q < dp.toNat + ln.toNat
      · rw [pk_cpy_in hq.1 hq.2]
        simp [aCpy, hq]
      · rw [pk_cpy_out (by omega)]
        simp only [aCpy, if_neg hq]
    rw [this]
    rfl
  have hnf : nativeFrameWords "java/lang/System" "arraycopy" 5 + 11 ≤ 92 := by decide +kernel
  exact va_copyi (f := fun j => iI (f j)) (g := fun j => iI (g j)) (ty := .int) (sp := iI sp) (dp := iI dp) (n := iI ln) hx hb (by rw [hml]; exact hL.size.symm) hown (hG _ hw.1) (hG _ hw.2.1) (hG _ hw.2.2.1) (hG _ hw.2.2.2) hK hR.1.1 hR.1.2.1 hR.2.1 a b 0 0 (by rw [wl_get ha, he]; rfl) (by rw [wl_get hbN, hbe]; rfl) rfl rfl rfl
    (by rw [← iI_0, iI_lt ⟨by omega, by omega⟩ inR_0]; omega) (by rw [← iI_0, iI_lt ⟨by omega, by omega⟩ inR_0]; omega) (by rw [← iI_0, iI_lt ⟨by omega, by omega⟩ inR_0]; omega) (by rw [e1, e3]; omega) (by rw [e2, e3]; omega) (fun i _ => rfl) hf1 (by rw [cats_cv]; omega) hd
    (fun H1 locs1 hP hD hS => hj ad H1 locs1 ls (hR.put hbN (by rw [← hset]; exact hP) (by rw [← hset]; exact hD) hS) hL)
end AMH
end
