section
-- ===== PART A: goes FIRST, ahead of the names: the tables' words, and 'selects' of the private methods out of them =====
/-- a private method of a class that the tables say can be made, by its rows of tables_1 -/
def lw_okq (q : MethodName × Nat) : Prop := (q.1.cls ≠ "java/lang/invoke/MethodHandle" ∧ q.1.cls ≠ "java/lang/invoke/VarHandle") ∧ Cond.instantiable q.1.cls q.2 ∈ tables_1 ∧ Cond.privateMethod q.1 ∈ tables_1 ∧ Cond.instanceMethod q.1 ∈ tables_1
theorem lw_p0 : lw_okq (⟨"ExitFalls$Tape", "scanWord", "()V"⟩, 7) := ⟨⟨by decide +kernel, by decide +kernel⟩, List.mem_of_getElem? (i := 30) (by decide +kernel), List.mem_of_getElem? (i := 468) (by decide +kernel), List.mem_of_getElem? (i := 469) (by decide +kernel)⟩
theorem lw_p1 : lw_okq (⟨"ExitFalls$Tape", "scanNumber", "()V"⟩, 7) := ⟨⟨by decide +kernel, by decide +kernel⟩, List.mem_of_getElem? (i := 30) (by decide +kernel), List.mem_of_getElem? (i := 476) (by decide +kernel), List.mem_of_getElem? (i := 477) (by decide +kernel)⟩
theorem lw_p2 : lw_okq (⟨"ExitFalls$Reader", "readLine", "()Z"⟩, 7) := ⟨⟨by decide +kernel, by decide +kernel⟩, List.mem_of_getElem? (i := 64) (by decide +kernel), List.mem_of_getElem? (i := 480) (by decide +kernel), List.mem_of_getElem? (i := 481) (by decide +kernel)⟩
theorem lw_p3 : lw_okq (⟨"ExitFalls$Reader", "keptWord", "()I"⟩, 7) := ⟨⟨by decide +kernel, by decide +kernel⟩, List.mem_of_getElem? (i := 64) (by decide +kernel), List.mem_of_getElem? (i := 484) (by decide +kernel), List.mem_of_getElem? (i := 485) (by decide +kernel)⟩
theorem lw_p4 : lw_okq (⟨"ExitFalls$Reader", "refuse", "(I)Z"⟩, 7) := ⟨⟨by decide +kernel, by decide +kernel⟩, List.mem_of_getElem? (i := 64) (by decide +kernel), List.mem_of_getElem? (i := 488) (by decide +kernel), List.mem_of_getElem? (i := 489) (by decide +kernel)⟩
theorem lw_p5 : lw_okq (⟨"ExitFalls$Reader", "readItems", "([I)Z"⟩, 7) := ⟨⟨by decide +kernel, by decide +kernel⟩, List.mem_of_getElem? (i := 64) (by decide +kernel), List.mem_of_getElem? (i := 527) (by decide +kernel), List.mem_of_getElem? (i := 528) (by decide +kernel)⟩
theorem lw_p6 : lw_okq (⟨"ExitFalls$Reader", "readNumber", "(III)Z"⟩, 7) := ⟨⟨by decide +kernel, by decide +kernel⟩, List.mem_of_getElem? (i := 64) (by decide +kernel), List.mem_of_getElem? (i := 531) (by decide +kernel), List.mem_of_getElem? (i := 532) (by decide +kernel)⟩
theorem lw_p7 : lw_okq (⟨"ExitFalls$Reader", "readName", "()Z"⟩, 7) := ⟨⟨by decide +kernel, by decide +kernel⟩, List.mem_of_getElem? (i := 64) (by decide +kernel), List.mem_of_getElem? (i := 536) (by decide +kernel), List.mem_of_getElem? (i := 537) (by decide +kernel)⟩
theorem lw_p8 : lw_okq (⟨"ExitFalls$Reader", "readWord", "(I)Z"⟩, 7) := ⟨⟨by decide +kernel, by decide +kernel⟩, List.mem_of_getElem? (i := 64) (by decide +kernel), List.mem_of_getElem? (i := 540) (by decide +kernel), List.mem_of_getElem? (i := 541) (by decide +kernel)⟩
theorem lw_p9 : lw_okq (⟨"ExitFalls$Reader", "readSign", "()Z"⟩, 7) := ⟨⟨by decide +kernel, by decide +kernel⟩, List.mem_of_getElem? (i := 64) (by decide +kernel), List.mem_of_getElem? (i := 544) (by decide +kernel), List.mem_of_getElem? (i := 545) (by decide +kernel)⟩
theorem lw_p10 : lw_okq (⟨"ExitFalls", "isAsked", "(II)Z"⟩, 9) := ⟨⟨by decide +kernel, by decide +kernel⟩, List.mem_of_getElem? (i := 22) (by decide +kernel), List.mem_of_getElem? (i := 585) (by decide +kernel), List.mem_of_getElem? (i := 586) (by decide +kernel)⟩
theorem lw_p11 : lw_okq (⟨"ExitFalls", "pour", "(I)V"⟩, 9) := ⟨⟨by decide +kernel, by decide +kernel⟩, List.mem_of_getElem? (i := 22) (by decide +kernel), List.mem_of_getElem? (i := 597) (by decide +kernel), List.mem_of_getElem? (i := 598) (by decide +kernel)⟩
theorem lw_p12 : lw_okq (⟨"ExitFalls$Fall", "addClass", "(LExitFalls$Firm;IZZ)V"⟩, 10) := ⟨⟨by decide +kernel, by decide +kernel⟩, List.mem_of_getElem? (i := 178) (by decide +kernel), List.mem_of_getElem? (i := 611) (by decide +kernel), List.mem_of_getElem? (i := 612) (by decide +kernel)⟩
theorem lw_p13 : lw_okq (⟨"ExitFalls$Fall", "countPrefs", "(IJ)V"⟩, 10) := ⟨⟨by decide +kernel, by decide +kernel⟩, List.mem_of_getElem? (i := 178) (by decide +kernel), List.mem_of_getElem? (i := 624) (by decide +kernel), List.mem_of_getElem? (i := 625) (by decide +kernel)⟩
theorem lw_p14 : lw_okq (⟨"ExitFalls$Curves", "isLater", "(II)Z"⟩, 14) := ⟨⟨by decide +kernel, by decide +kernel⟩, List.mem_of_getElem? (i := 184) (by decide +kernel), List.mem_of_getElem? (i := 639) (by decide +kernel), List.mem_of_getElem? (i := 640) (by decide +kernel)⟩
theorem lw_p15 : lw_okq (⟨"ExitFalls$Fall", "addOther", "(LExitFalls$Firm;I)V"⟩, 10) := ⟨⟨by decide +kernel, by decide +kernel⟩, List.mem_of_getElem? (i := 178) (by decide +kernel), List.mem_of_getElem? (i := 643) (by decide +kernel), List.mem_of_getElem? (i := 644) (by decide +kernel)⟩
def lw_privs_1 : List (MethodName × Nat) := [(⟨"ExitFalls$Tape", "scanWord", "()V"⟩, 7), (⟨"ExitFalls$Tape", "scanNumber", "()V"⟩, 7), (⟨"ExitFalls$Reader", "readLine", "()Z"⟩, 7), (⟨"ExitFalls$Reader", "keptWord", "()I"⟩, 7), (⟨"ExitFalls$Reader", "refuse", "(I)Z"⟩, 7), (⟨"ExitFalls$Reader", "readItems", "([I)Z"⟩, 7), (⟨"ExitFalls$Reader", "readNumber", "(III)Z"⟩, 7), (⟨"ExitFalls$Reader", "readName", "()Z"⟩, 7), (⟨"ExitFalls$Reader", "readWord", "(I)Z"⟩, 7), (⟨"ExitFalls$Reader", "readSign", "()Z"⟩, 7), (⟨"ExitFalls", "isAsked", "(II)Z"⟩, 9), (⟨"ExitFalls", "pour", "(I)V"⟩, 9), (⟨"ExitFalls$Fall", "addClass", "(LExitFalls$Firm;IZZ)V"⟩, 10), (⟨"ExitFalls$Fall", "countPrefs", "(IJ)V"⟩, 10), (⟨"ExitFalls$Curves", "isLater", "(II)Z"⟩, 14), (⟨"ExitFalls$Fall", "addOther", "(LExitFalls$Firm;I)V"⟩, 10)]
theorem lw_r1 : ∀ q ∈ lw_privs_1, lw_okq q := List.forall_mem_cons.mpr ⟨lw_p0, List.forall_mem_cons.mpr ⟨lw_p1, List.forall_mem_cons.mpr ⟨lw_p2, List.forall_mem_cons.mpr ⟨lw_p3, List.forall_mem_cons.mpr ⟨lw_p4, List.forall_mem_cons.mpr ⟨lw_p5, List.forall_mem_cons.mpr ⟨lw_p6, List.forall_mem_cons.mpr ⟨lw_p7, List.forall_mem_cons.mpr ⟨lw_p8, List.forall_mem_cons.mpr ⟨lw_p9, List.forall_mem_cons.mpr ⟨lw_p10, List.forall_mem_cons.mpr ⟨lw_p11, List.forall_mem_cons.mpr ⟨lw_p12, List.forall_mem_cons.mpr ⟨lw_p13, List.forall_mem_cons.mpr ⟨lw_p14, List.forall_mem_cons.mpr ⟨lw_p15, fun _ h => absurd h List.not_mem_nil⟩⟩⟩⟩⟩⟩⟩⟩⟩⟩⟩⟩⟩⟩⟩⟩
theorem lw_p16 : lw_okq (⟨"ExitFalls$Fall", "pourByRanks", "(J)V"⟩, 10) := ⟨⟨by decide +kernel, by decide +kernel⟩, List.mem_of_getElem? (i := 178) (by decide +kernel), List.mem_of_getElem? (i := 657) (by decide +kernel), List.mem_of_getElem? (i := 658) (by decide +kernel)⟩
theorem lw_p17 : lw_okq (⟨"ExitFalls$Fall", "pourByLevel", "(J)V"⟩, 10) := ⟨⟨by decide +kernel, by decide +kernel⟩, List.mem_of_getElem? (i := 178) (by decide +kernel), List.mem_of_getElem? (i := 665) (by decide +kernel), List.mem_of_getElem? (i := 666) (by decide +kernel)⟩
theorem lw_p18 : lw_okq (⟨"ExitFalls", "unitsFor", "(II)I"⟩, 9) := ⟨⟨by decide +kernel, by decide +kernel⟩, List.mem_of_getElem? (i := 22) (by decide +kernel), List.mem_of_getElem? (i := 716) (by decide +kernel), List.mem_of_getElem? (i := 717) (by decide +kernel)⟩
theorem lw_p19 : lw_okq (⟨"ExitFalls", "firstAmount", "(IJJZ)I"⟩, 9) := ⟨⟨by decide +kernel, by decide +kernel⟩, List.mem_of_getElem? (i := 22) (by decide +kernel), List.mem_of_getElem? (i := 735) (by decide +kernel), List.mem_of_getElem? (i := 736) (by decide +kernel)⟩
theorem lw_p20 : lw_okq (⟨"ExitFalls", "thoseWithMore", "(II)I"⟩, 9) := ⟨⟨by decide +kernel, by decide +kernel⟩, List.mem_of_getElem? (i := 22) (by decide +kernel), List.mem_of_getElem? (i := 778) (by decide +kernel), List.mem_of_getElem? (i := 779) (by decide +kernel)⟩
theorem lw_p21 : lw_okq (⟨"ExitFalls", "votesTogether", "(I)I"⟩, 9) := ⟨⟨by decide +kernel, by decide +kernel⟩, List.mem_of_getElem? (i := 22) (by decide +kernel), List.mem_of_getElem? (i := 796) (by decide +kernel), List.mem_of_getElem? (i := 797) (by decide +kernel)⟩
theorem lw_p22 : lw_okq (⟨"ExitFalls$Breaks", "add", "(JJ)V"⟩, 6) := ⟨⟨by decide +kernel, by decide +kernel⟩, List.mem_of_getElem? (i := 281) (by decide +kernel), List.mem_of_getElem? (i := 816) (by decide +kernel), List.mem_of_getElem? (i := 817) (by decide +kernel)⟩
theorem lw_p23 : lw_okq (⟨"ExitFalls$Breaks", "findPartOfRank", "(LExitFalls$Fall;II)V"⟩, 6) := ⟨⟨by decide +kernel, by decide +kernel⟩, List.mem_of_getElem? (i := 281) (by decide +kernel), List.mem_of_getElem? (i := 833) (by decide +kernel), List.mem_of_getElem? (i := 834) (by decide +kernel)⟩
theorem lw_p24 : lw_okq (⟨"ExitFalls$Breaks", "setPart", "(JJ)V"⟩, 6) := ⟨⟨by decide +kernel, by decide +kernel⟩, List.mem_of_getElem? (i := 281) (by decide +kernel), List.mem_of_getElem? (i := 841) (by decide +kernel), List.mem_of_getElem? (i := 842) (by decide +kernel)⟩
theorem lw_p25 : lw_okq (⟨"ExitFalls$Breaks", "findPartByLevel", "(LExitFalls$Curves;II)V"⟩, 6) := ⟨⟨by decide +kernel, by decide +kernel⟩, List.mem_of_getElem? (i := 281) (by decide +kernel), List.mem_of_getElem? (i := 845) (by decide +kernel), List.mem_of_getElem? (i := 846) (by decide +kernel)⟩
theorem lw_p26 : lw_okq (⟨"ExitFalls$Game", "play", "(LExitFalls$Firm;LExitFalls$Fall;IJ)V"⟩, 4) := ⟨⟨by decide +kernel, by decide +kernel⟩, List.mem_of_getElem? (i := 311) (by decide +kernel), List.mem_of_getElem? (i := 871) (by decide +kernel), List.mem_of_getElem? (i := 872) (by decide +kernel)⟩
theorem lw_p27 : lw_okq (⟨"ExitFalls$Game", "setOf", "(I)I"⟩, 4) := ⟨⟨by decide +kernel, by decide +kernel⟩, List.mem_of_getElem? (i := 311) (by decide +kernel), List.mem_of_getElem? (i := 875) (by decide +kernel), List.mem_of_getElem? (i := 876) (by decide +kernel)⟩
theorem lw_p28 : lw_okq (⟨"ExitFalls$Game", "gains", "(III)Z"⟩, 4) := ⟨⟨by decide +kernel, by decide +kernel⟩, List.mem_of_getElem? (i := 311) (by decide +kernel), List.mem_of_getElem? (i := 886) (by decide +kernel), List.mem_of_getElem? (i := 887) (by decide +kernel)⟩
theorem lw_p29 : lw_okq (⟨"ExitFalls$Acts", "put", "(II)V"⟩, 3) := ⟨⟨by decide +kernel, by decide +kernel⟩, List.mem_of_getElem? (i := 381) (by decide +kernel), List.mem_of_getElem? (i := 923) (by decide +kernel), List.mem_of_getElem? (i := 924) (by decide +kernel)⟩
theorem lw_p30 : lw_okq (⟨"ExitFalls", "saleOf", "(I)I"⟩, 9) := ⟨⟨by decide +kernel, by decide +kernel⟩, List.mem_of_getElem? (i := 22) (by decide +kernel), List.mem_of_getElem? (i := 944) (by decide +kernel), List.mem_of_getElem? (i := 945) (by decide +kernel)⟩
theorem lw_p31 : lw_okq (⟨"ExitFallsModel", "four", "(I)V"⟩, 60) := ⟨⟨by decide +kernel, by decide +kernel⟩, List.mem_of_getElem? (i := 1029) (by decide +kernel), List.mem_of_getElem? (i := 1221) (by decide +kernel), List.mem_of_getElem? (i := 1222) (by decide +kernel)⟩
def lw_privs_2 : List (MethodName × Nat) := [(⟨"ExitFalls$Fall", "pourByRanks", "(J)V"⟩, 10), (⟨"ExitFalls$Fall", "pourByLevel", "(J)V"⟩, 10), (⟨"ExitFalls", "unitsFor", "(II)I"⟩, 9), (⟨"ExitFalls", "firstAmount", "(IJJZ)I"⟩, 9), (⟨"ExitFalls", "thoseWithMore", "(II)I"⟩, 9), (⟨"ExitFalls", "votesTogether", "(I)I"⟩, 9), (⟨"ExitFalls$Breaks", "add", "(JJ)V"⟩, 6), (⟨"ExitFalls$Breaks", "findPartOfRank", "(LExitFalls$Fall;II)V"⟩, 6), (⟨"ExitFalls$Breaks", "setPart", "(JJ)V"⟩, 6), (⟨"ExitFalls$Breaks", "findPartByLevel", "(LExitFalls$Curves;II)V"⟩, 6), (⟨"ExitFalls$Game", "play", "(LExitFalls$Firm;LExitFalls$Fall;IJ)V"⟩, 4), (⟨"ExitFalls$Game", "setOf", "(I)I"⟩, 4), (⟨"ExitFalls$Game", "gains", "(III)Z"⟩, 4), (⟨"ExitFalls$Acts", "put", "(II)V"⟩, 3), (⟨"ExitFalls", "saleOf", "(I)I"⟩, 9), (⟨"ExitFallsModel", "four", "(I)V"⟩, 60)]
theorem lw_r2 : ∀ q ∈ lw_privs_2, lw_okq q := List.forall_mem_cons.mpr ⟨lw_p16, List.forall_mem_cons.mpr ⟨lw_p17, List.forall_mem_cons.mpr ⟨lw_p18, List.forall_mem_cons.mpr ⟨lw_p19, List.forall_mem_cons.mpr ⟨lw_p20, List.forall_mem_cons.mpr ⟨lw_p21, List.forall_mem_cons.mpr ⟨lw_p22, List.forall_mem_cons.mpr ⟨lw_p23, List.forall_mem_cons.mpr ⟨lw_p24, List.forall_mem_cons.mpr ⟨lw_p25, List.forall_mem_cons.mpr ⟨lw_p26, List.forall_mem_cons.mpr ⟨lw_p27, List.forall_mem_cons.mpr ⟨lw_p28, List.forall_mem_cons.mpr ⟨lw_p29, List.forall_mem_cons.mpr ⟨lw_p30, List.forall_mem_cons.mpr ⟨lw_p31, fun _ h => absurd h List.not_mem_nil⟩⟩⟩⟩⟩⟩⟩⟩⟩⟩⟩⟩⟩⟩⟩⟩
theorem lw_p32 : lw_okq (⟨"ExitFallsModel", "goOn", "()V"⟩, 60) := ⟨⟨by decide +kernel, by decide +kernel⟩, List.mem_of_getElem? (i := 1029) (by decide +kernel), List.mem_of_getElem? (i := 1236) (by decide +kernel), List.mem_of_getElem? (i := 1237) (by decide +kernel)⟩
theorem lw_p33 : lw_okq (⟨"ExitFallsModel", "isGood", "()Z"⟩, 60) := ⟨⟨by decide +kernel, by decide +kernel⟩, List.mem_of_getElem? (i := 1029) (by decide +kernel), List.mem_of_getElem? (i := 1240) (by decide +kernel), List.mem_of_getElem? (i := 1241) (by decide +kernel)⟩
theorem lw_p34 : lw_okq (⟨"ExitFallsModel", "byteAt", "(I)I"⟩, 60) := ⟨⟨by decide +kernel, by decide +kernel⟩, List.mem_of_getElem? (i := 1029) (by decide +kernel), List.mem_of_getElem? (i := 1244) (by decide +kernel), List.mem_of_getElem? (i := 1245) (by decide +kernel)⟩
theorem lw_p35 : lw_okq (⟨"ExitFallsModel", "readLine", "()V"⟩, 60) := ⟨⟨by decide +kernel, by decide +kernel⟩, List.mem_of_getElem? (i := 1029) (by decide +kernel), List.mem_of_getElem? (i := 1255) (by decide +kernel), List.mem_of_getElem? (i := 1256) (by decide +kernel)⟩
theorem lw_p36 : lw_okq (⟨"ExitFallsModel", "isWord", "(II)Z"⟩, 60) := ⟨⟨by decide +kernel, by decide +kernel⟩, List.mem_of_getElem? (i := 1029) (by decide +kernel), List.mem_of_getElem? (i := 1260) (by decide +kernel), List.mem_of_getElem? (i := 1261) (by decide +kernel)⟩
theorem lw_p37 : lw_okq (⟨"ExitFallsModel", "readHolder", "(II)V"⟩, 60) := ⟨⟨by decide +kernel, by decide +kernel⟩, List.mem_of_getElem? (i := 1029) (by decide +kernel), List.mem_of_getElem? (i := 1264) (by decide +kernel), List.mem_of_getElem? (i := 1265) (by decide +kernel)⟩
theorem lw_p38 : lw_okq (⟨"ExitFallsModel", "manyOf", "(I)I"⟩, 60) := ⟨⟨by decide +kernel, by decide +kernel⟩, List.mem_of_getElem? (i := 1029) (by decide +kernel), List.mem_of_getElem? (i := 1268) (by decide +kernel), List.mem_of_getElem? (i := 1269) (by decide +kernel)⟩
theorem lw_p39 : lw_okq (⟨"ExitFallsModel", "fails", "(I)V"⟩, 60) := ⟨⟨by decide +kernel, by decide +kernel⟩, List.mem_of_getElem? (i := 1029) (by decide +kernel), List.mem_of_getElem? (i := 1272) (by decide +kernel), List.mem_of_getElem? (i := 1273) (by decide +kernel)⟩
theorem lw_p40 : lw_okq (⟨"ExitFallsModel", "readName", "()V"⟩, 60) := ⟨⟨by decide +kernel, by decide +kernel⟩, List.mem_of_getElem? (i := 1029) (by decide +kernel), List.mem_of_getElem? (i := 1276) (by decide +kernel), List.mem_of_getElem? (i := 1277) (by decide +kernel)⟩
theorem lw_p41 : lw_okq (⟨"ExitFallsModel", "isName", "()Z"⟩, 60) := ⟨⟨by decide +kernel, by decide +kernel⟩, List.mem_of_getElem? (i := 1029) (by decide +kernel), List.mem_of_getElem? (i := 1280) (by decide +kernel), List.mem_of_getElem? (i := 1281) (by decide +kernel)⟩
theorem lw_p42 : lw_okq (⟨"ExitFallsModel", "isTold", "()Z"⟩, 60) := ⟨⟨by decide +kernel, by decide +kernel⟩, List.mem_of_getElem? (i := 1029) (by decide +kernel), List.mem_of_getElem? (i := 1292) (by decide +kernel), List.mem_of_getElem? (i := 1293) (by decide +kernel)⟩
theorem lw_p43 : lw_okq (⟨"ExitFallsModel", "number", "(II)I"⟩, 60) := ⟨⟨by decide +kernel, by decide +kernel⟩, List.mem_of_getElem? (i := 1029) (by decide +kernel), List.mem_of_getElem? (i := 1296) (by decide +kernel), List.mem_of_getElem? (i := 1297) (by decide +kernel)⟩
theorem lw_p44 : lw_okq (⟨"ExitFallsModel", "keyword", "(II)V"⟩, 60) := ⟨⟨by decide +kernel, by decide +kernel⟩, List.mem_of_getElem? (i := 1029) (by decide +kernel), List.mem_of_getElem? (i := 1300) (by decide +kernel), List.mem_of_getElem? (i := 1301) (by decide +kernel)⟩
theorem lw_p45 : lw_okq (⟨"ExitFallsModel", "readTerms", "(I)V"⟩, 60) := ⟨⟨by decide +kernel, by decide +kernel⟩, List.mem_of_getElem? (i := 1029) (by decide +kernel), List.mem_of_getElem? (i := 1304) (by decide +kernel), List.mem_of_getElem? (i := 1305) (by decide +kernel)⟩
theorem lw_p46 : lw_okq (⟨"ExitFallsModel", "goesOver", "(II)Z"⟩, 60) := ⟨⟨by decide +kernel, by decide +kernel⟩, List.mem_of_getElem? (i := 1029) (by decide +kernel), List.mem_of_getElem? (i := 1308) (by decide +kernel), List.mem_of_getElem? (i := 1309) (by decide +kernel)⟩
theorem lw_p47 : lw_okq (⟨"ExitFallsModel", "isHolder", "(I)Z"⟩, 60) := ⟨⟨by decide +kernel, by decide +kernel⟩, List.mem_of_getElem? (i := 1029) (by decide +kernel), List.mem_of_getElem? (i := 1324) (by decide +kernel), List.mem_of_getElem? (i := 1325) (by decide +kernel)⟩
def lw_privs_3 : List (MethodName × Nat) := [(⟨"ExitFallsModel", "goOn", "()V"⟩, 60), (⟨"ExitFallsModel", "isGood", "()Z"⟩, 60), (⟨"ExitFallsModel", "byteAt", "(I)I"⟩, 60), (⟨"ExitFallsModel", "readLine", "()V"⟩, 60), (⟨"ExitFallsModel", "isWord", "(II)Z"⟩, 60), (⟨"ExitFallsModel", "readHolder", "(II)V"⟩, 60), (⟨"ExitFallsModel", "manyOf", "(I)I"⟩, 60), (⟨"ExitFallsModel", "fails", "(I)V"⟩, 60), (⟨"ExitFallsModel", "readName", "()V"⟩, 60), (⟨"ExitFallsModel", "isName", "()Z"⟩, 60), (⟨"ExitFallsModel", "isTold", "()Z"⟩, 60), (⟨"ExitFallsModel", "number", "(II)I"⟩, 60), (⟨"ExitFallsModel", "keyword", "(II)V"⟩, 60), (⟨"ExitFallsModel", "readTerms", "(I)V"⟩, 60), (⟨"ExitFallsModel", "goesOver", "(II)Z"⟩, 60), (⟨"ExitFallsModel", "isHolder", "(I)Z"⟩, 60)]
theorem lw_r3 : ∀ q ∈ lw_privs_3, lw_okq q := List.forall_mem_cons.mpr ⟨lw_p32, List.forall_mem_cons.mpr ⟨lw_p33, List.forall_mem_cons.mpr ⟨lw_p34, List.forall_mem_cons.mpr ⟨lw_p35, List.forall_mem_cons.mpr ⟨lw_p36, List.forall_mem_cons.mpr ⟨lw_p37, List.forall_mem_cons.mpr ⟨lw_p38, List.forall_mem_cons.mpr ⟨lw_p39, List.forall_mem_cons.mpr ⟨lw_p40, List.forall_mem_cons.mpr ⟨lw_p41, List.forall_mem_cons.mpr ⟨lw_p42, List.forall_mem_cons.mpr ⟨lw_p43, List.forall_mem_cons.mpr ⟨lw_p44, List.forall_mem_cons.mpr ⟨lw_p45, List.forall_mem_cons.mpr ⟨lw_p46, List.forall_mem_cons.mpr ⟨lw_p47, fun _ h => absurd h List.not_mem_nil⟩⟩⟩⟩⟩⟩⟩⟩⟩⟩⟩⟩⟩⟩⟩⟩
theorem lw_p48 : lw_okq (⟨"ExitFallsModel", "prefOf", "(I)I"⟩, 60) := ⟨⟨by decide +kernel, by decide +kernel⟩, List.mem_of_getElem? (i := 1029) (by decide +kernel), List.mem_of_getElem? (i := 1328) (by decide +kernel), List.mem_of_getElem? (i := 1329) (by decide +kernel)⟩
theorem lw_p49 : lw_okq (⟨"ExitFallsModel", "layBy", "(I)V"⟩, 60) := ⟨⟨by decide +kernel, by decide +kernel⟩, List.mem_of_getElem? (i := 1029) (by decide +kernel), List.mem_of_getElem? (i := 1344) (by decide +kernel), List.mem_of_getElem? (i := 1345) (by decide +kernel)⟩
theorem lw_p50 : lw_okq (⟨"ExitFallsModel", "lay", "(J)V"⟩, 60) := ⟨⟨by decide +kernel, by decide +kernel⟩, List.mem_of_getElem? (i := 1029) (by decide +kernel), List.mem_of_getElem? (i := 1352) (by decide +kernel), List.mem_of_getElem? (i := 1353) (by decide +kernel)⟩
theorem lw_p51 : lw_okq (⟨"ExitFallsModel", "firsts", "()J"⟩, 60) := ⟨⟨by decide +kernel, by decide +kernel⟩, List.mem_of_getElem? (i := 1029) (by decide +kernel), List.mem_of_getElem? (i := 1356) (by decide +kernel), List.mem_of_getElem? (i := 1357) (by decide +kernel)⟩
theorem lw_p52 : lw_okq (⟨"ExitFallsModel", "firstOf", "(I)J"⟩, 60) := ⟨⟨by decide +kernel, by decide +kernel⟩, List.mem_of_getElem? (i := 1029) (by decide +kernel), List.mem_of_getElem? (i := 1360) (by decide +kernel), List.mem_of_getElem? (i := 1361) (by decide +kernel)⟩
theorem lw_p53 : lw_okq (⟨"ExitFallsModel", "isTurned", "(I)Z"⟩, 60) := ⟨⟨by decide +kernel, by decide +kernel⟩, List.mem_of_getElem? (i := 1029) (by decide +kernel), List.mem_of_getElem? (i := 1364) (by decide +kernel), List.mem_of_getElem? (i := 1365) (by decide +kernel)⟩
theorem lw_p54 : lw_okq (⟨"ExitFallsModel", "canTurn", "(I)Z"⟩, 60) := ⟨⟨by decide +kernel, by decide +kernel⟩, List.mem_of_getElem? (i := 1029) (by decide +kernel), List.mem_of_getElem? (i := 1368) (by decide +kernel), List.mem_of_getElem? (i := 1369) (by decide +kernel)⟩
theorem lw_p55 : lw_okq (⟨"ExitFallsModel", "isClass", "(I)Z"⟩, 60) := ⟨⟨by decide +kernel, by decide +kernel⟩, List.mem_of_getElem? (i := 1029) (by decide +kernel), List.mem_of_getElem? (i := 1372) (by decide +kernel), List.mem_of_getElem? (i := 1373) (by decide +kernel)⟩
theorem lw_p56 : lw_okq (⟨"ExitFallsModel", "layRanks", "(J)V"⟩, 60) := ⟨⟨by decide +kernel, by decide +kernel⟩, List.mem_of_getElem? (i := 1029) (by decide +kernel), List.mem_of_getElem? (i := 1376) (by decide +kernel), List.mem_of_getElem? (i := 1377) (by decide +kernel)⟩
theorem lw_p57 : lw_okq (⟨"ExitFallsModel", "firstsOf", "(I)J"⟩, 60) := ⟨⟨by decide +kernel, by decide +kernel⟩, List.mem_of_getElem? (i := 1029) (by decide +kernel), List.mem_of_getElem? (i := 1380) (by decide +kernel), List.mem_of_getElem? (i := 1381) (by decide +kernel)⟩
theorem lw_p58 : lw_okq (⟨"ExitFallsModel", "layEdges", "()V"⟩, 60) := ⟨⟨by decide +kernel, by decide +kernel⟩, List.mem_of_getElem? (i := 1029) (by decide +kernel), List.mem_of_getElem? (i := 1384) (by decide +kernel), List.mem_of_getElem? (i := 1385) (by decide +kernel)⟩
theorem lw_p59 : lw_okq (⟨"ExitFallsModel", "edge", "(JJ)V"⟩, 60) := ⟨⟨by decide +kernel, by decide +kernel⟩, List.mem_of_getElem? (i := 1029) (by decide +kernel), List.mem_of_getElem? (i := 1388) (by decide +kernel), List.mem_of_getElem? (i := 1389) (by decide +kernel)⟩
theorem lw_p60 : lw_okq (⟨"ExitFallsModel", "topOf", "(I)I"⟩, 60) := ⟨⟨by decide +kernel, by decide +kernel⟩, List.mem_of_getElem? (i := 1029) (by decide +kernel), List.mem_of_getElem? (i := 1392) (by decide +kernel), List.mem_of_getElem? (i := 1393) (by decide +kernel)⟩
theorem lw_p61 : lw_okq (⟨"ExitFallsModel", "layFrom", "(JJ)V"⟩, 60) := ⟨⟨by decide +kernel, by decide +kernel⟩, List.mem_of_getElem? (i := 1029) (by decide +kernel), List.mem_of_getElem? (i := 1396) (by decide +kernel), List.mem_of_getElem? (i := 1397) (by decide +kernel)⟩
theorem lw_p62 : lw_okq (⟨"ExitFallsModel", "layClass", "(IJJ)V"⟩, 60) := ⟨⟨by decide +kernel, by decide +kernel⟩, List.mem_of_getElem? (i := 1029) (by decide +kernel), List.mem_of_getElem? (i := 1401) (by decide +kernel), List.mem_of_getElem? (i := 1402) (by decide +kernel)⟩
theorem lw_p63 : lw_okq (⟨"ExitFallsModel", "allGoes", "()J"⟩, 60) := ⟨⟨by decide +kernel, by decide +kernel⟩, List.mem_of_getElem? (i := 1029) (by decide +kernel), List.mem_of_getElem? (i := 1405) (by decide +kernel), List.mem_of_getElem? (i := 1406) (by decide +kernel)⟩
def lw_privs_4 : List (MethodName × Nat) := [(⟨"ExitFallsModel", "prefOf", "(I)I"⟩, 60), (⟨"ExitFallsModel", "layBy", "(I)V"⟩, 60), (⟨"ExitFallsModel", "lay", "(J)V"⟩, 60), (⟨"ExitFallsModel", "firsts", "()J"⟩, 60), (⟨"ExitFallsModel", "firstOf", "(I)J"⟩, 60), (⟨"ExitFallsModel", "isTurned", "(I)Z"⟩, 60), (⟨"ExitFallsModel", "canTurn", "(I)Z"⟩, 60), (⟨"ExitFallsModel", "isClass", "(I)Z"⟩, 60), (⟨"ExitFallsModel", "layRanks", "(J)V"⟩, 60), (⟨"ExitFallsModel", "firstsOf", "(I)J"⟩, 60), (⟨"ExitFallsModel", "layEdges", "()V"⟩, 60), (⟨"ExitFallsModel", "edge", "(JJ)V"⟩, 60), (⟨"ExitFallsModel", "topOf", "(I)I"⟩, 60), (⟨"ExitFallsModel", "layFrom", "(JJ)V"⟩, 60), (⟨"ExitFallsModel", "layClass", "(IJJ)V"⟩, 60), (⟨"ExitFallsModel", "allGoes", "()J"⟩, 60)]
theorem lw_r4 : ∀ q ∈ lw_privs_4, lw_okq q := List.forall_mem_cons.mpr ⟨lw_p48, List.forall_mem_cons.mpr ⟨lw_p49, List.forall_mem_cons.mpr ⟨lw_p50, List.forall_mem_cons.mpr ⟨lw_p51, List.forall_mem_cons.mpr ⟨lw_p52, List.forall_mem_cons.mpr ⟨lw_p53, List.forall_mem_cons.mpr ⟨lw_p54, List.forall_mem_cons.mpr ⟨lw_p55, List.forall_mem_cons.mpr ⟨lw_p56, List.forall_mem_cons.mpr ⟨lw_p57, List.forall_mem_cons.mpr ⟨lw_p58, List.forall_mem_cons.mpr ⟨lw_p59, List.forall_mem_cons.mpr ⟨lw_p60, List.forall_mem_cons.mpr ⟨lw_p61, List.forall_mem_cons.mpr ⟨lw_p62, List.forall_mem_cons.mpr ⟨lw_p63, fun _ h => absurd h List.not_mem_nil⟩⟩⟩⟩⟩⟩⟩⟩⟩⟩⟩⟩⟩⟩⟩⟩
theorem lw_p64 : lw_okq (⟨"ExitFallsModel", "allFixed", "()J"⟩, 60) := ⟨⟨by decide +kernel, by decide +kernel⟩, List.mem_of_getElem? (i := 1029) (by decide +kernel), List.mem_of_getElem? (i := 1409) (by decide +kernel), List.mem_of_getElem? (i := 1410) (by decide +kernel)⟩
theorem lw_p65 : lw_okq (⟨"ExitFallsModel", "layLevel", "(JJ)V"⟩, 60) := ⟨⟨by decide +kernel, by decide +kernel⟩, List.mem_of_getElem? (i := 1029) (by decide +kernel), List.mem_of_getElem? (i := 1413) (by decide +kernel), List.mem_of_getElem? (i := 1414) (by decide +kernel)⟩
theorem lw_p66 : lw_okq (⟨"ExitFallsModel", "lowest", "(IZ)J"⟩, 60) := ⟨⟨by decide +kernel, by decide +kernel⟩, List.mem_of_getElem? (i := 1029) (by decide +kernel), List.mem_of_getElem? (i := 1420) (by decide +kernel), List.mem_of_getElem? (i := 1421) (by decide +kernel)⟩
theorem lw_p67 : lw_okq (⟨"ExitFallsModel", "stateOf", "(I)I"⟩, 60) := ⟨⟨by decide +kernel, by decide +kernel⟩, List.mem_of_getElem? (i := 1029) (by decide +kernel), List.mem_of_getElem? (i := 1432) (by decide +kernel), List.mem_of_getElem? (i := 1433) (by decide +kernel)⟩
theorem lw_p68 : lw_okq (⟨"ExitFallsModel", "paidOf", "(II)I"⟩, 60) := ⟨⟨by decide +kernel, by decide +kernel⟩, List.mem_of_getElem? (i := 1029) (by decide +kernel), List.mem_of_getElem? (i := 1440) (by decide +kernel), List.mem_of_getElem? (i := 1441) (by decide +kernel)⟩
theorem lw_p69 : lw_okq (⟨"ExitFallsModel", "layPaid", "(I)V"⟩, 60) := ⟨⟨by decide +kernel, by decide +kernel⟩, List.mem_of_getElem? (i := 1029) (by decide +kernel), List.mem_of_getElem? (i := 1444) (by decide +kernel), List.mem_of_getElem? (i := 1445) (by decide +kernel)⟩
theorem lw_p70 : lw_okq (⟨"ExitFallsModel", "hasUnits", "(III)Z"⟩, 60) := ⟨⟨by decide +kernel, by decide +kernel⟩, List.mem_of_getElem? (i := 1029) (by decide +kernel), List.mem_of_getElem? (i := 1452) (by decide +kernel), List.mem_of_getElem? (i := 1453) (by decide +kernel)⟩
theorem lw_p71 : lw_okq (⟨"ExitFallsModel", "asksFor", "(II)V"⟩, 60) := ⟨⟨by decide +kernel, by decide +kernel⟩, List.mem_of_getElem? (i := 1029) (by decide +kernel), List.mem_of_getElem? (i := 1460) (by decide +kernel), List.mem_of_getElem? (i := 1461) (by decide +kernel)⟩
theorem lw_p72 : lw_okq (⟨"ExitFallsModel", "isLike", "(II)Z"⟩, 60) := ⟨⟨by decide +kernel, by decide +kernel⟩, List.mem_of_getElem? (i := 1029) (by decide +kernel), List.mem_of_getElem? (i := 1465) (by decide +kernel), List.mem_of_getElem? (i := 1466) (by decide +kernel)⟩
theorem lw_p73 : lw_okq (⟨"ExitFallsModel", "prefersOf", "(II)I"⟩, 60) := ⟨⟨by decide +kernel, by decide +kernel⟩, List.mem_of_getElem? (i := 1029) (by decide +kernel), List.mem_of_getElem? (i := 1486) (by decide +kernel), List.mem_of_getElem? (i := 1487) (by decide +kernel)⟩
theorem lw_p74 : lw_okq (⟨"ExitFallsModel", "votesOf", "(I)I"⟩, 60) := ⟨⟨by decide +kernel, by decide +kernel⟩, List.mem_of_getElem? (i := 1029) (by decide +kernel), List.mem_of_getElem? (i := 1494) (by decide +kernel), List.mem_of_getElem? (i := 1495) (by decide +kernel)⟩
theorem lw_p75 : lw_okq (⟨"ExitFallsModel", "layBreaks", "()V"⟩, 60) := ⟨⟨by decide +kernel, by decide +kernel⟩, List.mem_of_getElem? (i := 1029) (by decide +kernel), List.mem_of_getElem? (i := 1506) (by decide +kernel), List.mem_of_getElem? (i := 1507) (by decide +kernel)⟩
theorem lw_p76 : lw_okq (⟨"ExitFallsModel", "puts", "(JJ)V"⟩, 60) := ⟨⟨by decide +kernel, by decide +kernel⟩, List.mem_of_getElem? (i := 1029) (by decide +kernel), List.mem_of_getElem? (i := 1510) (by decide +kernel), List.mem_of_getElem? (i := 1511) (by decide +kernel)⟩
theorem lw_p77 : lw_okq (⟨"ExitFallsModel", "allAt", "(I)J"⟩, 60) := ⟨⟨by decide +kernel, by decide +kernel⟩, List.mem_of_getElem? (i := 1029) (by decide +kernel), List.mem_of_getElem? (i := 1517) (by decide +kernel), List.mem_of_getElem? (i := 1518) (by decide +kernel)⟩
theorem lw_p78 : lw_okq (⟨"ExitFallsModel", "layPart", "(IJJ)V"⟩, 60) := ⟨⟨by decide +kernel, by decide +kernel⟩, List.mem_of_getElem? (i := 1029) (by decide +kernel), List.mem_of_getElem? (i := 1525) (by decide +kernel), List.mem_of_getElem? (i := 1526) (by decide +kernel)⟩
theorem lw_p79 : lw_okq (⟨"ExitFallsModel", "layChoice", "(II)V"⟩, 60) := ⟨⟨by decide +kernel, by decide +kernel⟩, List.mem_of_getElem? (i := 1029) (by decide +kernel), List.mem_of_getElem? (i := 1533) (by decide +kernel), List.mem_of_getElem? (i := 1534) (by decide +kernel)⟩
def lw_privs_5 : List (MethodName × Nat) := [(⟨"ExitFallsModel", "allFixed", "()J"⟩, 60), (⟨"ExitFallsModel", "layLevel", "(JJ)V"⟩, 60), (⟨"ExitFallsModel", "lowest", "(IZ)J"⟩, 60), (⟨"ExitFallsModel", "stateOf", "(I)I"⟩, 60), (⟨"ExitFallsModel", "paidOf", "(II)I"⟩, 60), (⟨"ExitFallsModel", "layPaid", "(I)V"⟩, 60), (⟨"ExitFallsModel", "hasUnits", "(III)Z"⟩, 60), (⟨"ExitFallsModel", "asksFor", "(II)V"⟩, 60), (⟨"ExitFallsModel", "isLike", "(II)Z"⟩, 60), (⟨"ExitFallsModel", "prefersOf", "(II)I"⟩, 60), (⟨"ExitFallsModel", "votesOf", "(I)I"⟩, 60), (⟨"ExitFallsModel", "layBreaks", "()V"⟩, 60), (⟨"ExitFallsModel", "puts", "(JJ)V"⟩, 60), (⟨"ExitFallsModel", "allAt", "(I)J"⟩, 60), (⟨"ExitFallsModel", "layPart", "(IJJ)V"⟩, 60), (⟨"ExitFallsModel", "layChoice", "(II)V"⟩, 60)]
theorem lw_r5 : ∀ q ∈ lw_privs_5, lw_okq q := List.forall_mem_cons.mpr ⟨lw_p64, List.forall_mem_cons.mpr ⟨lw_p65, List.forall_mem_cons.mpr ⟨lw_p66, List.forall_mem_cons.mpr ⟨lw_p67, List.forall_mem_cons.mpr ⟨lw_p68, List.forall_mem_cons.mpr ⟨lw_p69, List.forall_mem_cons.mpr ⟨lw_p70, List.forall_mem_cons.mpr ⟨lw_p71, List.forall_mem_cons.mpr ⟨lw_p72, List.forall_mem_cons.mpr ⟨lw_p73, List.forall_mem_cons.mpr ⟨lw_p74, List.forall_mem_cons.mpr ⟨lw_p75, List.forall_mem_cons.mpr ⟨lw_p76, List.forall_mem_cons.mpr ⟨lw_p77, List.forall_mem_cons.mpr ⟨lw_p78, List.forall_mem_cons.mpr ⟨lw_p79, fun _ h => absurd h List.not_mem_nil⟩⟩⟩⟩⟩⟩⟩⟩⟩⟩⟩⟩⟩⟩⟩⟩
theorem lw_p80 : lw_okq (⟨"ExitFallsModel", "isSteady", "(II)Z"⟩, 60) := ⟨⟨by decide +kernel, by decide +kernel⟩, List.mem_of_getElem? (i := 1029) (by decide +kernel), List.mem_of_getElem? (i := 1541) (by decide +kernel), List.mem_of_getElem? (i := 1542) (by decide +kernel)⟩
theorem lw_p81 : lw_okq (⟨"ExitFallsModel", "keep", "()V"⟩, 60) := ⟨⟨by decide +kernel, by decide +kernel⟩, List.mem_of_getElem? (i := 1029) (by decide +kernel), List.mem_of_getElem? (i := 1557) (by decide +kernel), List.mem_of_getElem? (i := 1558) (by decide +kernel)⟩
theorem lw_p82 : lw_okq (⟨"ExitFallsModel", "hasDouble", "(II)D"⟩, 60) := ⟨⟨by decide +kernel, by decide +kernel⟩, List.mem_of_getElem? (i := 1029) (by decide +kernel), List.mem_of_getElem? (i := 1577) (by decide +kernel), List.mem_of_getElem? (i := 1578) (by decide +kernel)⟩
def lw_privs_6 : List (MethodName × Nat) := [(⟨"ExitFallsModel", "isSteady", "(II)Z"⟩, 60), (⟨"ExitFallsModel", "keep", "()V"⟩, 60), (⟨"ExitFallsModel", "hasDouble", "(II)D"⟩, 60)]
theorem lw_r6 : ∀ q ∈ lw_privs_6, lw_okq q := List.forall_mem_cons.mpr ⟨lw_p80, List.forall_mem_cons.mpr ⟨lw_p81, List.forall_mem_cons.mpr ⟨lw_p82, fun _ h => absurd h List.not_mem_nil⟩⟩⟩
def lw_privs : List (MethodName × Nat) := lw_privs_1 ++ (lw_privs_2 ++ (lw_privs_3 ++ (lw_privs_4 ++ (lw_privs_5 ++ (lw_privs_6)))))
def lw_tbl : List Cond := k2_sels lw_privs ++ tables_1
theorem lw_privs_ok : ∀ q ∈ lw_privs, lw_okq q := by
  show ∀ q ∈ lw_privs_1 ++ (lw_privs_2 ++ (lw_privs_3 ++ (lw_privs_4 ++ (lw_privs_5 ++ (lw_privs_6))))), lw_okq q
  exact List.forall_mem_append.mpr ⟨lw_r1, List.forall_mem_append.mpr ⟨lw_r2, List.forall_mem_append.mpr ⟨lw_r3, List.forall_mem_append.mpr ⟨lw_r4, List.forall_mem_append.mpr ⟨lw_r5, lw_r6⟩⟩⟩⟩⟩
/-- the streams that the claim lets the run draw from -/
abbrev lw_cs : List Choice := [Jvm.Choice.named "NaN.bits"]
theorem lw_bits : nanBits ∈ lw_cs := by first | decide | exact List.mem_cons_self | simp [lw_cs, nanBits]

-- names
def RX0 : String := "ExitFalls$Acts"
def TX0 : u_T := fun k => match k with
  | 0 => ("ExitFalls$Acts", "rows", "[I", true)
  | 1 => ("ExitFalls$Acts", "newest", "I", false)
  | _ => ("ExitFalls$Acts", "count", "I", false)
def tyX0 : Nat → FieldType := fun k => match k with
  | 0 => .array .int
  | 1 => .int
  | _ => .int
theorem nmX0 : ∀ a, a < 3 → ∀ b, b < 3 → a ≠ b → (TX0 a).2.1 ≠ (TX0 b).2.1 := by decide +kernel
theorem tyX0_ok : ∀ k, k < 3 → parseFieldDescriptor (TX0 k).2.2.1 = some (tyX0 k) := by decide +kernel
abbrev cX0_init : ByteArray := prog_2_method_1_code
def yX0_init : MethodName := ⟨RX0, "<init>", "()V"⟩
abbrev cX0_keep : ByteArray := prog_2_method_2_code
def yX0_keep : MethodName := ⟨RX0, "keep", "(III)V"⟩
abbrev cX0_keepSale : ByteArray := prog_2_method_3_code
def yX0_keepSale : MethodName := ⟨RX0, "keepSale", "(LExitFalls$Sale;)V"⟩
abbrev cX0_giveBackSale : ByteArray := prog_2_method_4_code
def yX0_giveBackSale : MethodName := ⟨RX0, "giveBackSale", "(LExitFalls$Sale;)V"⟩
abbrev cX0_dropLatest : ByteArray := prog_2_method_5_code
def yX0_dropLatest : MethodName := ⟨RX0, "dropLatest", "()V"⟩
abbrev cX0_latest : ByteArray := prog_2_method_6_code
def yX0_latest : MethodName := ⟨RX0, "latest", "(I)I"⟩
abbrev cX0_put : ByteArray := prog_2_method_7_code
def yX0_put : MethodName := ⟨RX0, "put", "(II)V"⟩
def RX1 : String := "ExitFalls$Breaks"
def TX1 : u_T := fun k => match k with
  | 0 => ("ExitFalls$Breaks", "above", "[J", true)
  | 1 => ("ExitFalls$Breaks", "below", "[J", true)
  | 2 => ("ExitFalls$Breaks", "count", "I", false)
  | 3 => ("ExitFalls$Breaks", "paying", "I", false)
  | 4 => ("ExitFalls$Breaks", "partAbove", "J", false)
  | _ => ("ExitFalls$Breaks", "partBelow", "J", false)
def tyX1 : Nat → FieldType := fun k => match k with
  | 0 => .array .long
  | 1 => .array .long
  | 2 => .int
  | 3 => .int
  | 4 => .long
  | _ => .long
theorem nmX1 : ∀ a, a < 6 → ∀ b, b < 6 → a ≠ b → (TX1 a).2.1 ≠ (TX1 b).2.1 := by decide +kernel
theorem tyX1_ok : ∀ k, k < 6 → parseFieldDescriptor (TX1 k).2.2.1 = some (tyX1 k) := by decide +kernel
abbrev cX1_init : ByteArray := prog_3_method_1_code
def yX1_init : MethodName := ⟨RX1, "<init>", "()V"⟩
abbrev cX1_list : ByteArray := prog_3_method_2_code
def yX1_list : MethodName := ⟨RX1, "list", "(LExitFalls$Fall;)V"⟩
abbrev cX1_add : ByteArray := prog_3_method_3_code
def yX1_add : MethodName := ⟨RX1, "add", "(JJ)V"⟩
abbrev cX1_findPart : ByteArray := prog_3_method_4_code
def yX1_findPart : MethodName := ⟨RX1, "findPart", "(LExitFalls$Fall;II)V"⟩
abbrev cX1_findPartOfRank : ByteArray := prog_3_method_5_code
def yX1_findPartOfRank : MethodName := ⟨RX1, "findPartOfRank", "(LExitFalls$Fall;II)V"⟩
abbrev cX1_findPartByLevel : ByteArray := prog_3_method_6_code
def yX1_findPartByLevel : MethodName := ⟨RX1, "findPartByLevel", "(LExitFalls$Curves;II)V"⟩
abbrev cX1_setPart : ByteArray := prog_3_method_7_code
def yX1_setPart : MethodName := ⟨RX1, "setPart", "(JJ)V"⟩
def RX2 : String := "ExitFalls$Curves"
def TX2 : u_T := fun k => match k with
  | 0 => ("ExitFalls$Curves", "count", "I", false)
  | 1 => ("ExitFalls$Curves", "startFixed", "[J", true)
  | 2 => ("ExitFalls$Curves", "startSlope", "[J", true)
  | 3 => ("ExitFalls$Curves", "fixed", "[J", true)
  | 4 => ("ExitFalls$Curves", "slope", "[J", true)
  | 5 => ("ExitFalls$Curves", "allFixed", "J", false)
  | 6 => ("ExitFalls$Curves", "allSlope", "J", false)
  | 7 => ("ExitFalls$Curves", "steps", "I", false)
  | 8 => ("ExitFalls$Curves", "order", "[I", true)
  | 9 => ("ExitFalls$Curves", "who", "[I", true)
  | 10 => ("ExitFalls$Curves", "rise", "[I", true)
  | 11 => ("ExitFalls$Curves", "ratio", "[I", true)
  | 12 => ("ExitFalls$Curves", "fixedBy", "[J", true)
  | _ => ("ExitFalls$Curves", "slopeBy", "[J", true)
def tyX2 : Nat → FieldType := fun k => match k with
  | 0 => .int
  | 1 => .array .long
  | 2 => .array .long
  | 3 => .array .long
  | 4 => .array .long
  | 5 => .long
  | 6 => .long
  | 7 => .int
  | 8 => .array .int
  | 9 => .array .int
  | 10 => .array .int
  | 11 => .array .int
  | 12 => .array .long
  | _ => .array .long
theorem nmX2 : ∀ a, a < 14 → ∀ b, b < 14 → a ≠ b → (TX2 a).2.1 ≠ (TX2 b).2.1 := by decide +kernel
theorem tyX2_ok : ∀ k, k < 14 → parseFieldDescriptor (TX2 k).2.2.1 = some (tyX2 k) := by decide +kernel
abbrev cX2_init : ByteArray := prog_4_method_1_code
def yX2_init : MethodName := ⟨RX2, "<init>", "()V"⟩
abbrev cX2_clear : ByteArray := prog_4_method_2_code
def yX2_clear : MethodName := ⟨RX2, "clear", "()V"⟩
abbrev cX2_addHolder : ByteArray := prog_4_method_3_code
def yX2_addHolder : MethodName := ⟨RX2, "addHolder", "(JJ)V"⟩
abbrev cX2_addStep : ByteArray := prog_4_method_4_code
def yX2_addStep : MethodName := ⟨RX2, "addStep", "(IIJJ)V"⟩
abbrev cX2_isLater : ByteArray := prog_4_method_5_code
def yX2_isLater : MethodName := ⟨RX2, "isLater", "(II)Z"⟩
abbrev cX2_restart : ByteArray := prog_4_method_6_code
def yX2_restart : MethodName := ⟨RX2, "restart", "()V"⟩
abbrev cX2_ratioAt : ByteArray := prog_4_method_7_code
def yX2_ratioAt : MethodName := ⟨RX2, "ratioAt", "(I)I"⟩
abbrev cX2_totalAt : ByteArray := prog_4_method_8_code
def yX2_totalAt : MethodName := ⟨RX2, "totalAt", "(I)J"⟩
abbrev cX2_take : ByteArray := prog_4_method_9_code
def yX2_take : MethodName := ⟨RX2, "take", "(I)V"⟩
abbrev cX2_sweep : ByteArray := prog_4_method_10_code
def yX2_sweep : MethodName := ⟨RX2, "sweep", "(JJZ)V"⟩
def RX3 : String := "ExitFalls$Fall"
def TX3 : u_T := fun k => match k with
  | 0 => ("ExitFalls$Fall", "curves", "LExitFalls$Curves;", true)
  | 1 => ("ExitFalls$Fall", "ranks", "[I", true)
  | 2 => ("ExitFalls$Fall", "rankPrefs", "[J", true)
  | 3 => ("ExitFalls$Fall", "allPrefs", "J", false)
  | 4 => ("ExitFalls$Fall", "above", "[J", true)
  | 5 => ("ExitFalls$Fall", "below", "J", false)
  | 6 => ("ExitFalls$Fall", "levelAbove", "J", false)
  | 7 => ("ExitFalls$Fall", "levelBelow", "J", false)
  | 8 => ("ExitFalls$Fall", "oldAbove", "[J", true)
  | _ => ("ExitFalls$Fall", "oldBelow", "J", false)
def tyX3 : Nat → FieldType := fun k => match k with
  | 0 => .object "ExitFalls$Curves"
  | 1 => .array .int
  | 2 => .array .long
  | 3 => .long
  | 4 => .array .long
  | 5 => .long
  | 6 => .long
  | 7 => .long
  | 8 => .array .long
  | _ => .long
theorem nmX3 : ∀ a, a < 10 → ∀ b, b < 10 → a ≠ b → (TX3 a).2.1 ≠ (TX3 b).2.1 := by decide +kernel
theorem tyX3_ok : ∀ k, k < 10 → parseFieldDescriptor (TX3 k).2.2.1 = some (tyX3 k) := by decide +kernel
abbrev cX3_init : ByteArray := prog_5_method_1_code
def yX3_init : MethodName := ⟨RX3, "<init>", "()V"⟩
abbrev cX3_arrange : ByteArray := prog_5_method_2_code
def yX3_arrange : MethodName := ⟨RX3, "arrange", "(LExitFalls$Firm;ZI)V"⟩
abbrev cX3_addOther : ByteArray := prog_5_method_3_code
def yX3_addOther : MethodName := ⟨RX3, "addOther", "(LExitFalls$Firm;I)V"⟩
abbrev cX3_addClass : ByteArray := prog_5_method_4_code
def yX3_addClass : MethodName := ⟨RX3, "addClass", "(LExitFalls$Firm;IZZ)V"⟩
abbrev cX3_countPrefs : ByteArray := prog_5_method_5_code
def yX3_countPrefs : MethodName := ⟨RX3, "countPrefs", "(IJ)V"⟩
abbrev cX3_pour : ByteArray := prog_5_method_6_code
def yX3_pour : MethodName := ⟨RX3, "pour", "(J)V"⟩
abbrev cX3_pourByRanks : ByteArray := prog_5_method_7_code
def yX3_pourByRanks : MethodName := ⟨RX3, "pourByRanks", "(J)V"⟩
abbrev cX3_pourByLevel : ByteArray := prog_5_method_8_code
def yX3_pourByLevel : MethodName := ⟨RX3, "pourByLevel", "(J)V"⟩
abbrev cX3_firstUnpaid : ByteArray := prog_5_method_9_code
def yX3_firstUnpaid : MethodName := ⟨RX3, "firstUnpaid", "(J)I"⟩
abbrev cX3_rankOf : ByteArray := prog_5_method_10_code
def yX3_rankOf : MethodName := ⟨RX3, "rankOf", "(I)I"⟩
abbrev cX3_aboveOf : ByteArray := prog_5_method_11_code
def yX3_aboveOf : MethodName := ⟨RX3, "aboveOf", "(I)J"⟩
abbrev cX3_reaches : ByteArray := prog_5_method_12_code
def yX3_reaches : MethodName := ⟨RX3, "reaches", "(IJJZ)Z"⟩
abbrev cX3_remember : ByteArray := prog_5_method_13_code
def yX3_remember : MethodName := ⟨RX3, "remember", "()V"⟩
abbrev cX3_hasMoreThanRemembered : ByteArray := prog_5_method_14_code
def yX3_hasMoreThanRemembered : MethodName := ⟨RX3, "hasMoreThanRemembered", "(I)Z"⟩
abbrev cX3_stateOf : ByteArray := prog_5_method_15_code
def yX3_stateOf : MethodName := ⟨RX3, "stateOf", "(LExitFalls$Firm;I)I"⟩
abbrev cX3_unitsOf : ByteArray := prog_5_method_16_code
def yX3_unitsOf : MethodName := ⟨RX3, "unitsOf", "(II)I"⟩
def RX4 : String := "ExitFalls$Firm"
def TX4 : u_T := fun k => match k with
  | 0 => ("ExitFalls$Firm", "count", "I", false)
  | 1 => ("ExitFalls$Firm", "carve", "I", false)
  | 2 => ("ExitFalls$Firm", "waived", "I", false)
  | _ => ("ExitFalls$Firm", "facts", "[I", true)
def tyX4 : Nat → FieldType := fun k => match k with
  | 0 => .int
  | 1 => .int
  | 2 => .int
  | _ => .array .int
theorem nmX4 : ∀ a, a < 4 → ∀ b, b < 4 → a ≠ b → (TX4 a).2.1 ≠ (TX4 b).2.1 := by decide +kernel
theorem tyX4_ok : ∀ k, k < 4 → parseFieldDescriptor (TX4 k).2.2.1 = some (tyX4 k) := by decide +kernel
abbrev cX4_init : ByteArray := prog_6_method_1_code
def yX4_init : MethodName := ⟨RX4, "<init>", "()V"⟩
abbrev cX4_clear : ByteArray := prog_6_method_2_code
def yX4_clear : MethodName := ⟨RX4, "clear", "()V"⟩
abbrev cX4_become : ByteArray := prog_6_method_3_code
def yX4_become : MethodName := ⟨RX4, "become", "(LExitFalls$Firm;)V"⟩
abbrev cX4_add : ByteArray := prog_6_method_4_code
def yX4_add : MethodName := ⟨RX4, "add", "(I)Z"⟩
abbrev cX4_isHolder : ByteArray := prog_6_method_5_code
def yX4_isHolder : MethodName := ⟨RX4, "isHolder", "(I)Z"⟩
abbrev cX4_fact : ByteArray := prog_6_method_6_code
def yX4_fact : MethodName := ⟨RX4, "fact", "(II)I"⟩
abbrev cX4_put : ByteArray := prog_6_method_7_code
def yX4_put : MethodName := ⟨RX4, "put", "(III)V"⟩
abbrev cX4_countOf : ByteArray := prog_6_method_8_code
def yX4_countOf : MethodName := ⟨RX4, "countOf", "(I)I"⟩
abbrev cX4_isClass : ByteArray := prog_6_method_9_code
def yX4_isClass : MethodName := ⟨RX4, "isClass", "(I)Z"⟩
abbrev cX4_isWaived : ByteArray := prog_6_method_10_code
def yX4_isWaived : MethodName := ⟨RX4, "isWaived", "(I)Z"⟩
abbrev cX4_canTurn : ByteArray := prog_6_method_11_code
def yX4_canTurn : MethodName := ⟨RX4, "canTurn", "(I)Z"⟩
abbrev cX4_takesShares : ByteArray := prog_6_method_12_code
def yX4_takesShares : MethodName := ⟨RX4, "takesShares", "(II)Z"⟩
abbrev cX4_prefOf : ByteArray := prog_6_method_13_code
def yX4_prefOf : MethodName := ⟨RX4, "prefOf", "(I)I"⟩
abbrev cX4_lidOf : ByteArray := prog_6_method_14_code
def yX4_lidOf : MethodName := ⟨RX4, "lidOf", "(II)I"⟩
abbrev cX4_costOf : ByteArray := prog_6_method_15_code
def yX4_costOf : MethodName := ⟨RX4, "costOf", "(I)I"⟩
abbrev cX4_votesOf : ByteArray := prog_6_method_16_code
def yX4_votesOf : MethodName := ⟨RX4, "votesOf", "(I)I"⟩
abbrev cX4_fallsOf : ByteArray := prog_6_method_17_code
def yX4_fallsOf : MethodName := ⟨RX4, "fallsOf", "(I)I"⟩
def RX5 : String := "ExitFalls$Game"
def TX5 : u_T := fun k => match k with
  | 0 => ("ExitFalls$Game", "players", "[I", true)
  | 1 => ("ExitFalls$Game", "count", "I", false)
  | 2 => ("ExitFalls$Game", "above", "[J", true)
  | _ => ("ExitFalls$Game", "below", "[J", true)
def tyX5 : Nat → FieldType := fun k => match k with
  | 0 => .array .int
  | 1 => .int
  | 2 => .array .long
  | _ => .array .long
theorem nmX5 : ∀ a, a < 4 → ∀ b, b < 4 → a ≠ b → (TX5 a).2.1 ≠ (TX5 b).2.1 := by decide +kernel
theorem tyX5_ok : ∀ k, k < 4 → parseFieldDescriptor (TX5 k).2.2.1 = some (tyX5 k) := by decide +kernel
abbrev cX5_init : ByteArray := prog_7_method_1_code
def yX5_init : MethodName := ⟨RX5, "<init>", "()V"⟩
abbrev cX5_gather : ByteArray := prog_7_method_2_code
def yX5_gather : MethodName := ⟨RX5, "gather", "(LExitFalls$Firm;)V"⟩
abbrev cX5_rowOf : ByteArray := prog_7_method_3_code
def yX5_rowOf : MethodName := ⟨RX5, "rowOf", "(I)I"⟩
abbrev cX5_setOf : ByteArray := prog_7_method_4_code
def yX5_setOf : MethodName := ⟨RX5, "setOf", "(I)I"⟩
abbrev cX5_playAll : ByteArray := prog_7_method_5_code
def yX5_playAll : MethodName := ⟨RX5, "playAll", "(LExitFalls$Firm;LExitFalls$Fall;J)V"⟩
abbrev cX5_playRound : ByteArray := prog_7_method_6_code
def yX5_playRound : MethodName := ⟨RX5, "playRound", "(LExitFalls$Firm;LExitFalls$Fall;IJ)V"⟩
abbrev cX5_play : ByteArray := prog_7_method_7_code
def yX5_play : MethodName := ⟨RX5, "play", "(LExitFalls$Firm;LExitFalls$Fall;IJ)V"⟩
abbrev cX5_isSteady : ByteArray := prog_7_method_8_code
def yX5_isSteady : MethodName := ⟨RX5, "isSteady", "(I)Z"⟩
abbrev cX5_gains : ByteArray := prog_7_method_9_code
def yX5_gains : MethodName := ⟨RX5, "gains", "(III)Z"⟩
abbrev cX5_countSteady : ByteArray := prog_7_method_10_code
def yX5_countSteady : MethodName := ⟨RX5, "countSteady", "()I"⟩
abbrev cX5_steadySet : ByteArray := prog_7_method_11_code
def yX5_steadySet : MethodName := ⟨RX5, "steadySet", "(I)I"⟩
def RX6 : String := "ExitFalls$Guesses"
def TX6 : u_T := fun k => match k with
  | 0 => ("ExitFalls$Guesses", "amounts", "[I", true)
  | 1 => ("ExitFalls$Guesses", "weights", "[I", true)
  | _ => ("ExitFalls$Guesses", "count", "I", false)
def tyX6 : Nat → FieldType := fun k => match k with
  | 0 => .array .int
  | 1 => .array .int
  | _ => .int
theorem nmX6 : ∀ a, a < 3 → ∀ b, b < 3 → a ≠ b → (TX6 a).2.1 ≠ (TX6 b).2.1 := by decide +kernel
theorem tyX6_ok : ∀ k, k < 3 → parseFieldDescriptor (TX6 k).2.2.1 = some (tyX6 k) := by decide +kernel
abbrev cX6_init : ByteArray := prog_8_method_1_code
def yX6_init : MethodName := ⟨RX6, "<init>", "()V"⟩
abbrev cX6_add : ByteArray := prog_8_method_2_code
def yX6_add : MethodName := ⟨RX6, "add", "(II)V"⟩
abbrev cX6_dropLatest : ByteArray := prog_8_method_3_code
def yX6_dropLatest : MethodName := ⟨RX6, "dropLatest", "()V"⟩
def RX7 : String := "ExitFalls$Numbers"
def TX7 : u_T := fun k => match k with
  | _ => ("", "", "", false)
def tyX7 : Nat → FieldType := fun k => match k with
  | _ => .int
theorem nmX7 : ∀ a, a < 0 → ∀ b, b < 0 → a ≠ b → (TX7 a).2.1 ≠ (TX7 b).2.1 := by decide +kernel
theorem tyX7_ok : ∀ k, k < 0 → parseFieldDescriptor (TX7 k).2.2.1 = some (tyX7 k) := by decide +kernel
abbrev cX7_commonDivisor : ByteArray := prog_9_method_2_code
def yX7_commonDivisor : MethodName := ⟨RX7, "commonDivisor", "(JJ)J"⟩
abbrev cX7_lowest : ByteArray := prog_9_method_3_code
def yX7_lowest : MethodName := ⟨RX7, "lowest", "(JJI)J"⟩
abbrev cX7_compareFractions : ByteArray := prog_9_method_4_code
def yX7_compareFractions : MethodName := ⟨RX7, "compareFractions", "(JJJJ)I"⟩
abbrev cX7_asDouble : ByteArray := prog_9_method_5_code
def yX7_asDouble : MethodName := ⟨RX7, "asDouble", "(JJ)D"⟩
abbrev cX7_asFloat : ByteArray := prog_9_method_6_code
def yX7_asFloat : MethodName := ⟨RX7, "asFloat", "(JJ)F"⟩
abbrev cX7_grown : ByteArray := prog_9_method_7_code
def yX7_grown : MethodName := ⟨RX7, "grown", "(DII)D"⟩
abbrev cX7_bitsOfDouble : ByteArray := prog_9_method_8_code
def yX7_bitsOfDouble : MethodName := ⟨RX7, "bitsOfDouble", "(D)J"⟩
abbrev cX7_bitsOfFloat : ByteArray := prog_9_method_9_code
def yX7_bitsOfFloat : MethodName := ⟨RX7, "bitsOfFloat", "(F)I"⟩
def RX8 : String := "ExitFalls$Reader"
def TX8 : u_T := fun k => match k with
  | 0 => ("ExitFalls$Reader", "tape", "LExitFalls$Tape;", true)
  | 1 => ("ExitFalls$Reader", "kept", "[J", true)
  | 2 => ("ExitFalls$Reader", "names", "[J", true)
  | 3 => ("ExitFalls$Reader", "carved", "Z", false)
  | 4 => ("ExitFalls$Reader", "draft", "LExitFalls$Firm;", true)
  | 5 => ("ExitFalls$Reader", "fault", "I", false)
  | _ => ("ExitFalls$Reader", "place", "I", false)
def tyX8 : Nat → FieldType := fun k => match k with
  | 0 => .object "ExitFalls$Tape"
  | 1 => .array .long
  | 2 => .array .long
  | 3 => .boolean
  | 4 => .object "ExitFalls$Firm"
  | 5 => .int
  | _ => .int
theorem nmX8 : ∀ a, a < 7 → ∀ b, b < 7 → a ≠ b → (TX8 a).2.1 ≠ (TX8 b).2.1 := by decide +kernel
theorem tyX8_ok : ∀ k, k < 7 → parseFieldDescriptor (TX8 k).2.2.1 = some (tyX8 k) := by decide +kernel
abbrev cX8_init : ByteArray := prog_10_method_1_code
def yX8_init : MethodName := ⟨RX8, "<init>", "(LExitFalls$Tape;)V"⟩
abbrev cX8_readAll : ByteArray := prog_10_method_2_code
def yX8_readAll : MethodName := ⟨RX8, "readAll", "()Z"⟩
abbrev cX8_readLine : ByteArray := prog_10_method_3_code
def yX8_readLine : MethodName := ⟨RX8, "readLine", "()Z"⟩
abbrev cX8_mostOf : ByteArray := prog_10_method_4_code
def yX8_mostOf : MethodName := ⟨RX8, "mostOf", "(I)I"⟩
abbrev cX8_lineOf : ByteArray := prog_10_method_5_code
def yX8_lineOf : MethodName := ⟨RX8, "lineOf", "(I)[I"⟩
abbrev cX8_readItems : ByteArray := prog_10_method_6_code
def yX8_readItems : MethodName := ⟨RX8, "readItems", "([I)Z"⟩
abbrev cX8_readName : ByteArray := prog_10_method_7_code
def yX8_readName : MethodName := ⟨RX8, "readName", "()Z"⟩
abbrev cX8_readNumber : ByteArray := prog_10_method_8_code
def yX8_readNumber : MethodName := ⟨RX8, "readNumber", "(III)Z"⟩
abbrev cX8_readWord : ByteArray := prog_10_method_9_code
def yX8_readWord : MethodName := ⟨RX8, "readWord", "(I)Z"⟩
abbrev cX8_readSign : ByteArray := prog_10_method_10_code
def yX8_readSign : MethodName := ⟨RX8, "readSign", "()Z"⟩
abbrev cX8_keptWord : ByteArray := prog_10_method_11_code
def yX8_keptWord : MethodName := ⟨RX8, "keptWord", "()I"⟩
abbrev cX8_refuse : ByteArray := prog_10_method_12_code
def yX8_refuse : MethodName := ⟨RX8, "refuse", "(I)Z"⟩
def RX9 : String := "ExitFalls$Sale"
def TX9 : u_T := fun k => match k with
  | 0 => ("ExitFalls$Sale", "closed", "Z", false)
  | 1 => ("ExitFalls$Sale", "amount", "I", false)
  | 2 => ("ExitFalls$Sale", "held", "I", false)
  | 3 => ("ExitFalls$Sale", "dealt", "I", false)
  | _ => ("ExitFalls$Sale", "lost", "I", false)
def tyX9 : Nat → FieldType := fun k => match k with
  | 0 => .boolean
  | 1 => .int
  | 2 => .int
  | 3 => .int
  | _ => .int
theorem nmX9 : ∀ a, a < 5 → ∀ b, b < 5 → a ≠ b → (TX9 a).2.1 ≠ (TX9 b).2.1 := by decide +kernel
theorem tyX9_ok : ∀ k, k < 5 → parseFieldDescriptor (TX9 k).2.2.1 = some (tyX9 k) := by decide +kernel
abbrev cX9_init : ByteArray := prog_11_method_1_code
def yX9_init : MethodName := ⟨RX9, "<init>", "()V"⟩
abbrev cX9_closeBy : ByteArray := prog_11_method_2_code
def yX9_closeBy : MethodName := ⟨RX9, "closeBy", "(II)V"⟩
abbrev cX9_letGo : ByteArray := prog_11_method_3_code
def yX9_letGo : MethodName := ⟨RX9, "letGo", "(IZ)V"⟩
def RX10 : String := "ExitFalls$Tape"
def TX10 : u_T := fun k => match k with
  | 0 => ("ExitFalls$Tape", "bytes", "[B", true)
  | 1 => ("ExitFalls$Tape", "length", "I", false)
  | 2 => ("ExitFalls$Tape", "next", "I", false)
  | 3 => ("ExitFalls$Tape", "start", "I", false)
  | 4 => ("ExitFalls$Tape", "token", "I", false)
  | 5 => ("ExitFalls$Tape", "number", "I", false)
  | _ => ("ExitFalls$Tape", "word", "J", false)
def tyX10 : Nat → FieldType := fun k => match k with
  | 0 => .array .byte
  | 1 => .int
  | 2 => .int
  | 3 => .int
  | 4 => .int
  | 5 => .int
  | _ => .long
theorem nmX10 : ∀ a, a < 7 → ∀ b, b < 7 → a ≠ b → (TX10 a).2.1 ≠ (TX10 b).2.1 := by decide +kernel
theorem tyX10_ok : ∀ k, k < 7 → parseFieldDescriptor (TX10 k).2.2.1 = some (tyX10 k) := by decide +kernel
abbrev cX10_init : ByteArray := prog_12_method_1_code
def yX10_init : MethodName := ⟨RX10, "<init>", "()V"⟩
abbrev cX10_put : ByteArray := prog_12_method_2_code
def yX10_put : MethodName := ⟨RX10, "put", "(I)V"⟩
abbrev cX10_cut : ByteArray := prog_12_method_3_code
def yX10_cut : MethodName := ⟨RX10, "cut", "(I)Z"⟩
abbrev cX10_rewind : ByteArray := prog_12_method_4_code
def yX10_rewind : MethodName := ⟨RX10, "rewind", "()V"⟩
abbrev cX10_scan : ByteArray := prog_12_method_5_code
def yX10_scan : MethodName := ⟨RX10, "scan", "()V"⟩
abbrev cX10_scanWord : ByteArray := prog_12_method_6_code
def yX10_scanWord : MethodName := ⟨RX10, "scanWord", "()V"⟩
abbrev cX10_scanNumber : ByteArray := prog_12_method_7_code
def yX10_scanNumber : MethodName := ⟨RX10, "scanNumber", "()V"⟩
abbrev cX10_withLetter : ByteArray := prog_12_method_8_code
def yX10_withLetter : MethodName := ⟨RX10, "withLetter", "(JI)J"⟩
abbrev cX10_isBlank : ByteArray := prog_12_method_9_code
def yX10_isBlank : MethodName := ⟨RX10, "isBlank", "(I)Z"⟩
abbrev cX10_isLetter : ByteArray := prog_12_method_10_code
def yX10_isLetter : MethodName := ⟨RX10, "isLetter", "(I)Z"⟩
abbrev cX10_isDigit : ByteArray := prog_12_method_11_code
def yX10_isDigit : MethodName := ⟨RX10, "isDigit", "(I)Z"⟩
def RX11 : String := "ExitFalls"
def TX11 : u_T := fun k => match k with
  | 0 => ("ExitFalls", "tape", "LExitFalls$Tape;", true)
  | 1 => ("ExitFalls", "reader", "LExitFalls$Reader;", true)
  | 2 => ("ExitFalls", "firm", "LExitFalls$Firm;", true)
  | 3 => ("ExitFalls", "fall", "LExitFalls$Fall;", true)
  | 4 => ("ExitFalls", "breakList", "LExitFalls$Breaks;", true)
  | 5 => ("ExitFalls", "game", "LExitFalls$Game;", true)
  | 6 => ("ExitFalls", "deal", "LExitFalls$Sale;", true)
  | 7 => ("ExitFalls", "guesses", "LExitFalls$Guesses;", true)
  | _ => ("ExitFalls", "acts", "LExitFalls$Acts;", true)
def tyX11 : Nat → FieldType := fun k => match k with
  | 0 => .object "ExitFalls$Tape"
  | 1 => .object "ExitFalls$Reader"
  | 2 => .object "ExitFalls$Firm"
  | 3 => .object "ExitFalls$Fall"
  | 4 => .object "ExitFalls$Breaks"
  | 5 => .object "ExitFalls$Game"
  | 6 => .object "ExitFalls$Sale"
  | 7 => .object "ExitFalls$Guesses"
  | _ => .object "ExitFalls$Acts"
theorem nmX11 : ∀ a, a < 9 → ∀ b, b < 9 → a ≠ b → (TX11 a).2.1 ≠ (TX11 b).2.1 := by decide +kernel
theorem tyX11_ok : ∀ k, k < 9 → parseFieldDescriptor (TX11 k).2.2.1 = some (tyX11 k) := by decide +kernel
abbrev cX11_init : ByteArray := prog_1_method_1_code
def yX11_init : MethodName := ⟨RX11, "<init>", "()V"⟩
abbrev cX11_feed : ByteArray := prog_1_method_2_code
def yX11_feed : MethodName := ⟨RX11, "feed", "(IIIII)I"⟩
abbrev cX11_end : ByteArray := prog_1_method_3_code
def yX11_end : MethodName := ⟨RX11, "end", "(I)I"⟩
abbrev cX11_text : ByteArray := prog_1_method_4_code
def yX11_text : MethodName := ⟨RX11, "text", "()I"⟩
abbrev cX11_fault : ByteArray := prog_1_method_5_code
def yX11_fault : MethodName := ⟨RX11, "fault", "(I)I"⟩
abbrev cX11_about : ByteArray := prog_1_method_6_code
def yX11_about : MethodName := ⟨RX11, "about", "(I)I"⟩
abbrev cX11_holder : ByteArray := prog_1_method_7_code
def yX11_holder : MethodName := ⟨RX11, "holder", "(II)I"⟩
abbrev cX11_has : ByteArray := prog_1_method_8_code
def yX11_has : MethodName := ⟨RX11, "has", "(III)J"⟩
abbrev cX11_state : ByteArray := prog_1_method_9_code
def yX11_state : MethodName := ⟨RX11, "state", "(II)I"⟩
abbrev cX11_paid : ByteArray := prog_1_method_10_code
def yX11_paid : MethodName := ⟨RX11, "paid", "(II)I"⟩
abbrev cX11_level : ByteArray := prog_1_method_11_code
def yX11_level : MethodName := ⟨RX11, "level", "(II)J"⟩
abbrev cX11_least : ByteArray := prog_1_method_12_code
def yX11_least : MethodName := ⟨RX11, "least", "(II)I"⟩
abbrev cX11_flat : ByteArray := prog_1_method_13_code
def yX11_flat : MethodName := ⟨RX11, "flat", "(III)I"⟩
abbrev cX11_unpaid : ByteArray := prog_1_method_14_code
def yX11_unpaid : MethodName := ⟨RX11, "unpaid", "(I)I"⟩
abbrev cX11_wants : ByteArray := prog_1_method_15_code
def yX11_wants : MethodName := ⟨RX11, "wants", "(III)I"⟩
abbrev cX11_dilutes : ByteArray := prog_1_method_16_code
def yX11_dilutes : MethodName := ⟨RX11, "dilutes", "(IIII)I"⟩
abbrev cX11_prefers : ByteArray := prog_1_method_17_code
def yX11_prefers : MethodName := ⟨RX11, "prefers", "(II)I"⟩
abbrev cX11_votes : ByteArray := prog_1_method_18_code
def yX11_votes : MethodName := ⟨RX11, "votes", "(I)I"⟩
abbrev cX11_passes : ByteArray := prog_1_method_19_code
def yX11_passes : MethodName := ⟨RX11, "passes", "(II)I"⟩
abbrev cX11_breaks : ByteArray := prog_1_method_20_code
def yX11_breaks : MethodName := ⟨RX11, "breaks", "(II)J"⟩
abbrev cX11_part : ByteArray := prog_1_method_21_code
def yX11_part : MethodName := ⟨RX11, "part", "(III)J"⟩
abbrev cX11_chosen : ByteArray := prog_1_method_22_code
def yX11_chosen : MethodName := ⟨RX11, "chosen", "(IIII)J"⟩
abbrev cX11_steady : ByteArray := prog_1_method_23_code
def yX11_steady : MethodName := ⟨RX11, "steady", "(II)I"⟩
abbrev cX11_steadies : ByteArray := prog_1_method_24_code
def yX11_steadies : MethodName := ⟨RX11, "steadies", "(II)I"⟩
abbrev cX11_close : ByteArray := prog_1_method_25_code
def yX11_close : MethodName := ⟨RX11, "close", "(II)I"⟩
abbrev cX11_release : ByteArray := prog_1_method_26_code
def yX11_release : MethodName := ⟨RX11, "release", "(IZ)I"⟩
abbrev cX11_sale : ByteArray := prog_1_method_27_code
def yX11_sale : MethodName := ⟨RX11, "sale", "(I)I"⟩
abbrev cX11_guess : ByteArray := prog_1_method_28_code
def yX11_guess : MethodName := ⟨RX11, "guess", "(II)I"⟩
abbrev cX11_mean : ByteArray := prog_1_method_29_code
def yX11_mean : MethodName := ⟨RX11, "mean", "(I)J"⟩
abbrev cX11_multiple : ByteArray := prog_1_method_30_code
def yX11_multiple : MethodName := ⟨RX11, "multiple", "(II)I"⟩
abbrev cX11_yields : ByteArray := prog_1_method_31_code
def yX11_yields : MethodName := ⟨RX11, "yields", "(III)I"⟩
abbrev cX11_grant : ByteArray := prog_1_method_32_code
def yX11_grant : MethodName := ⟨RX11, "grant", "(II)I"⟩
abbrev cX11_waive : ByteArray := prog_1_method_33_code
def yX11_waive : MethodName := ⟨RX11, "waive", "(IZ)Z"⟩
abbrev cX11_rank : ByteArray := prog_1_method_34_code
def yX11_rank : MethodName := ⟨RX11, "rank", "(II)I"⟩
abbrev cX11_undo : ByteArray := prog_1_method_35_code
def yX11_undo : MethodName := ⟨RX11, "undo", "()Z"⟩
abbrev cX11_isAmount : ByteArray := prog_1_method_36_code
def yX11_isAmount : MethodName := ⟨RX11, "isAmount", "(I)Z"⟩
abbrev cX11_isUnits : ByteArray := prog_1_method_37_code
def yX11_isUnits : MethodName := ⟨RX11, "isUnits", "(I)Z"⟩
abbrev cX11_isAboveOrBelow : ByteArray := prog_1_method_38_code
def yX11_isAboveOrBelow : MethodName := ⟨RX11, "isAboveOrBelow", "(I)Z"⟩
abbrev cX11_isAsked : ByteArray := prog_1_method_39_code
def yX11_isAsked : MethodName := ⟨RX11, "isAsked", "(II)Z"⟩
abbrev cX11_pour : ByteArray := prog_1_method_40_code
def yX11_pour : MethodName := ⟨RX11, "pour", "(I)V"⟩
abbrev cX11_unitsFor : ByteArray := prog_1_method_41_code
def yX11_unitsFor : MethodName := ⟨RX11, "unitsFor", "(II)I"⟩
abbrev cX11_firstAmount : ByteArray := prog_1_method_42_code
def yX11_firstAmount : MethodName := ⟨RX11, "firstAmount", "(IJJZ)I"⟩
abbrev cX11_thoseWithMore : ByteArray := prog_1_method_43_code
def yX11_thoseWithMore : MethodName := ⟨RX11, "thoseWithMore", "(II)I"⟩
abbrev cX11_votesTogether : ByteArray := prog_1_method_44_code
def yX11_votesTogether : MethodName := ⟨RX11, "votesTogether", "(I)I"⟩
abbrev cX11_saleOf : ByteArray := prog_1_method_45_code
def yX11_saleOf : MethodName := ⟨RX11, "saleOf", "(I)I"⟩
def RX12 : String := "ExitFallsModel"
def TX12 : u_T := fun k => match k with
  | 0 => ("ExitFallsModel", "thrown", "I", false)
  | 1 => ("ExitFallsModel", "many", "I", false)
  | 2 => ("ExitFallsModel", "carve", "I", false)
  | 3 => ("ExitFallsModel", "manyRead", "I", false)
  | 4 => ("ExitFallsModel", "carveRead", "I", false)
  | 5 => ("ExitFallsModel", "kind", "[I", true)
  | 6 => ("ExitFallsModel", "shares", "[I", true)
  | 7 => ("ExitFallsModel", "price", "[I", true)
  | 8 => ("ExitFallsModel", "rankOf", "[I", true)
  | 9 => ("ExitFallsModel", "times", "[I", true)
  | 10 => ("ExitFallsModel", "ratio", "[I", true)
  | 11 => ("ExitFallsModel", "sharing", "[I", true)
  | 12 => ("ExitFallsModel", "cap", "[I", true)
  | 13 => ("ExitFallsModel", "rate", "[I", true)
  | 14 => ("ExitFallsModel", "years", "[I", true)
  | 15 => ("ExitFallsModel", "nameRead", "[I", true)
  | 16 => ("ExitFallsModel", "waived", "I", false)
  | 17 => ("ExitFallsModel", "tape", "[I", true)
  | 18 => ("ExitFallsModel", "taped", "I", false)
  | 19 => ("ExitFallsModel", "size", "I", false)
  | 20 => ("ExitFallsModel", "at", "I", false)
  | 21 => ("ExitFallsModel", "behind", "I", false)
  | 22 => ("ExitFallsModel", "token", "I", false)
  | 23 => ("ExitFallsModel", "value", "I", false)
  | 24 => ("ExitFallsModel", "valueMore", "I", false)
  | 25 => ("ExitFallsModel", "faultKind", "I", false)
  | 26 => ("ExitFallsModel", "faultPlace", "I", false)
  | 27 => ("ExitFallsModel", "wrong", "I", false)
  | 28 => ("ExitFallsModel", "wrongAt", "I", false)
  | 29 => ("ExitFallsModel", "hasCarve", "Z", false)
  | 30 => ("ExitFallsModel", "edgeUp", "[J", true)
  | 31 => ("ExitFallsModel", "edgeDown", "[J", true)
  | 32 => ("ExitFallsModel", "fixed", "[J", true)
  | 33 => ("ExitFallsModel", "goes", "[J", true)
  | 34 => ("ExitFallsModel", "edges", "I", false)
  | 35 => ("ExitFallsModel", "turned", "I", false)
  | 36 => ("ExitFallsModel", "byChoice", "Z", false)
  | 37 => ("ExitFallsModel", "above", "[J", true)
  | 38 => ("ExitFallsModel", "below", "J", false)
  | 39 => ("ExitFallsModel", "levelUp", "J", false)
  | 40 => ("ExitFallsModel", "levelDown", "J", false)
  | 41 => ("ExitFallsModel", "whole", "[I", true)
  | 42 => ("ExitFallsModel", "hadOne", "[Z", true)
  | 43 => ("ExitFallsModel", "askedUp", "J", false)
  | 44 => ("ExitFallsModel", "askedDown", "J", false)
  | 45 => ("ExitFallsModel", "breakUp", "[J", true)
  | 46 => ("ExitFallsModel", "breakDown", "[J", true)
  | 47 => ("ExitFallsModel", "breaks", "I", false)
  | 48 => ("ExitFallsModel", "partUp", "J", false)
  | 49 => ("ExitFallsModel", "partDown", "J", false)
  | 50 => ("ExitFallsModel", "kept", "[I", true)
  | 51 => ("ExitFallsModel", "guessed", "[I", true)
  | 52 => ("ExitFallsModel", "weight", "[I", true)
  | 53 => ("ExitFallsModel", "acts", "I", false)
  | 54 => ("ExitFallsModel", "guesses", "I", false)
  | 55 => ("ExitFallsModel", "saleAmount", "I", false)
  | 56 => ("ExitFallsModel", "saleHeld", "I", false)
  | 57 => ("ExitFallsModel", "saleDealt", "I", false)
  | 58 => ("ExitFallsModel", "saleLost", "I", false)
  | _ => ("ExitFallsModel", "hasSale", "Z", false)
def tyX12 : Nat → FieldType := fun k => match k with
  | 0 => .int
  | 1 => .int
  | 2 => .int
  | 3 => .int
  | 4 => .int
  | 5 => .array .int
  | 6 => .array .int
  | 7 => .array .int
  | 8 => .array .int
  | 9 => .array .int
  | 10 => .array .int
  | 11 => .array .int
  | 12 => .array .int
  | 13 => .array .int
  | 14 => .array .int
  | 15 => .array .int
  | 16 => .int
  | 17 => .array .int
  | 18 => .int
  | 19 => .int
  | 20 => .int
  | 21 => .int
  | 22 => .int
  | 23 => .int
  | 24 => .int
  | 25 => .int
  | 26 => .int
  | 27 => .int
  | 28 => .int
  | 29 => .boolean
  | 30 => .array .long
  | 31 => .array .long
  | 32 => .array .long
  | 33 => .array .long
  | 34 => .int
  | 35 => .int
  | 36 => .boolean
  | 37 => .array .long
  | 38 => .long
  | 39 => .long
  | 40 => .long
  | 41 => .array .int
  | 42 => .array .boolean
  | 43 => .long
  | 44 => .long
  | 45 => .array .long
  | 46 => .array .long
  | 47 => .int
  | 48 => .long
  | 49 => .long
  | 50 => .array .int
  | 51 => .array .int
  | 52 => .array .int
  | 53 => .int
  | 54 => .int
  | 55 => .int
  | 56 => .int
  | 57 => .int
  | 58 => .int
  | _ => .boolean
theorem nmX12 : ∀ a, a < 60 → ∀ b, b < 60 → a ≠ b → (TX12 a).2.1 ≠ (TX12 b).2.1 := by decide +kernel
theorem tyX12_ok : ∀ k, k < 60 → parseFieldDescriptor (TX12 k).2.2.1 = some (tyX12 k) := by decide +kernel
abbrev cX12_init : ByteArray := prog_14_method_1_code
def yX12_init : MethodName := ⟨RX12, "<init>", "()V"⟩
abbrev cX12_in : ByteArray := prog_14_method_3_code
def yX12_in : MethodName := ⟨RX12, "in", "(III)Z"⟩
abbrev cX12_isOf : ByteArray := prog_14_method_4_code
def yX12_isOf : MethodName := ⟨RX12, "isOf", "(II)Z"⟩
abbrev cX12_common : ByteArray := prog_14_method_5_code
def yX12_common : MethodName := ⟨RX12, "common", "(JJ)J"⟩
abbrev cX12_isHolder : ByteArray := prog_14_method_6_code
def yX12_isHolder : MethodName := ⟨RX12, "isHolder", "(I)Z"⟩
abbrev cX12_isClass : ByteArray := prog_14_method_7_code
def yX12_isClass : MethodName := ⟨RX12, "isClass", "(I)Z"⟩
abbrev cX12_isAmount : ByteArray := prog_14_method_8_code
def yX12_isAmount : MethodName := ⟨RX12, "isAmount", "(I)Z"⟩
abbrev cX12_canTurn : ByteArray := prog_14_method_9_code
def yX12_canTurn : MethodName := ⟨RX12, "canTurn", "(I)Z"⟩
abbrev cX12_prefOf : ByteArray := prog_14_method_10_code
def yX12_prefOf : MethodName := ⟨RX12, "prefOf", "(I)I"⟩
abbrev cX12_topOf : ByteArray := prog_14_method_11_code
def yX12_topOf : MethodName := ⟨RX12, "topOf", "(I)I"⟩
abbrev cX12_four : ByteArray := prog_14_method_12_code
def yX12_four : MethodName := ⟨RX12, "four", "(I)V"⟩
abbrev cX12_feed : ByteArray := prog_14_method_13_code
def yX12_feed : MethodName := ⟨RX12, "feed", "(IIIII)I"⟩
abbrev cX12_end : ByteArray := prog_14_method_14_code
def yX12_end : MethodName := ⟨RX12, "end", "(I)I"⟩
abbrev cX12_byteAt : ByteArray := prog_14_method_15_code
def yX12_byteAt : MethodName := ⟨RX12, "byteAt", "(I)I"⟩
abbrev cX12_isSmall : ByteArray := prog_14_method_16_code
def yX12_isSmall : MethodName := ⟨RX12, "isSmall", "(I)Z"⟩
abbrev cX12_isDigit : ByteArray := prog_14_method_17_code
def yX12_isDigit : MethodName := ⟨RX12, "isDigit", "(I)Z"⟩
abbrev cX12_isGood : ByteArray := prog_14_method_18_code
def yX12_isGood : MethodName := ⟨RX12, "isGood", "()Z"⟩
abbrev cX12_fails : ByteArray := prog_14_method_19_code
def yX12_fails : MethodName := ⟨RX12, "fails", "(I)V"⟩
abbrev cX12_goOn : ByteArray := prog_14_method_20_code
def yX12_goOn : MethodName := ⟨RX12, "goOn", "()V"⟩
abbrev cX12_isWord : ByteArray := prog_14_method_21_code
def yX12_isWord : MethodName := ⟨RX12, "isWord", "(II)Z"⟩
abbrev cX12_isName : ByteArray := prog_14_method_22_code
def yX12_isName : MethodName := ⟨RX12, "isName", "()Z"⟩
abbrev cX12_isTold : ByteArray := prog_14_method_23_code
def yX12_isTold : MethodName := ⟨RX12, "isTold", "()Z"⟩
abbrev cX12_readName : ByteArray := prog_14_method_24_code
def yX12_readName : MethodName := ⟨RX12, "readName", "()V"⟩
abbrev cX12_number : ByteArray := prog_14_method_25_code
def yX12_number : MethodName := ⟨RX12, "number", "(II)I"⟩
abbrev cX12_keyword : ByteArray := prog_14_method_26_code
def yX12_keyword : MethodName := ⟨RX12, "keyword", "(II)V"⟩
abbrev cX12_goesOver : ByteArray := prog_14_method_27_code
def yX12_goesOver : MethodName := ⟨RX12, "goesOver", "(II)Z"⟩
abbrev cX12_manyOf : ByteArray := prog_14_method_28_code
def yX12_manyOf : MethodName := ⟨RX12, "manyOf", "(I)I"⟩
abbrev cX12_readHolder : ByteArray := prog_14_method_29_code
def yX12_readHolder : MethodName := ⟨RX12, "readHolder", "(II)V"⟩
abbrev cX12_readTerms : ByteArray := prog_14_method_30_code
def yX12_readTerms : MethodName := ⟨RX12, "readTerms", "(I)V"⟩
abbrev cX12_readLine : ByteArray := prog_14_method_31_code
def yX12_readLine : MethodName := ⟨RX12, "readLine", "()V"⟩
abbrev cX12_text : ByteArray := prog_14_method_32_code
def yX12_text : MethodName := ⟨RX12, "text", "()I"⟩
abbrev cX12_fault : ByteArray := prog_14_method_33_code
def yX12_fault : MethodName := ⟨RX12, "fault", "(I)I"⟩
abbrev cX12_about : ByteArray := prog_14_method_34_code
def yX12_about : MethodName := ⟨RX12, "about", "(I)I"⟩
abbrev cX12_holder : ByteArray := prog_14_method_35_code
def yX12_holder : MethodName := ⟨RX12, "holder", "(II)I"⟩
abbrev cX12_isTurned : ByteArray := prog_14_method_36_code
def yX12_isTurned : MethodName := ⟨RX12, "isTurned", "(I)Z"⟩
abbrev cX12_firstOf : ByteArray := prog_14_method_37_code
def yX12_firstOf : MethodName := ⟨RX12, "firstOf", "(I)J"⟩
abbrev cX12_edge : ByteArray := prog_14_method_38_code
def yX12_edge : MethodName := ⟨RX12, "edge", "(JJ)V"⟩
abbrev cX12_layEdges : ByteArray := prog_14_method_39_code
def yX12_layEdges : MethodName := ⟨RX12, "layEdges", "()V"⟩
abbrev cX12_layFrom : ByteArray := prog_14_method_40_code
def yX12_layFrom : MethodName := ⟨RX12, "layFrom", "(JJ)V"⟩
abbrev cX12_layClass : ByteArray := prog_14_method_41_code
def yX12_layClass : MethodName := ⟨RX12, "layClass", "(IJJ)V"⟩
abbrev cX12_allFixed : ByteArray := prog_14_method_42_code
def yX12_allFixed : MethodName := ⟨RX12, "allFixed", "()J"⟩
abbrev cX12_allGoes : ByteArray := prog_14_method_43_code
def yX12_allGoes : MethodName := ⟨RX12, "allGoes", "()J"⟩
abbrev cX12_firsts : ByteArray := prog_14_method_44_code
def yX12_firsts : MethodName := ⟨RX12, "firsts", "()J"⟩
abbrev cX12_firstsOf : ByteArray := prog_14_method_45_code
def yX12_firstsOf : MethodName := ⟨RX12, "firstsOf", "(I)J"⟩
abbrev cX12_fallsBy : ByteArray := prog_14_method_46_code
def yX12_fallsBy : MethodName := ⟨RX12, "fallsBy", "(II)J"⟩
abbrev cX12_layRanks : ByteArray := prog_14_method_47_code
def yX12_layRanks : MethodName := ⟨RX12, "layRanks", "(J)V"⟩
abbrev cX12_lay : ByteArray := prog_14_method_48_code
def yX12_lay : MethodName := ⟨RX12, "lay", "(J)V"⟩
abbrev cX12_layLevel : ByteArray := prog_14_method_49_code
def yX12_layLevel : MethodName := ⟨RX12, "layLevel", "(JJ)V"⟩
abbrev cX12_layBy : ByteArray := prog_14_method_50_code
def yX12_layBy : MethodName := ⟨RX12, "layBy", "(I)V"⟩
abbrev cX12_lowest : ByteArray := prog_14_method_51_code
def yX12_lowest : MethodName := ⟨RX12, "lowest", "(IZ)J"⟩
abbrev cX12_has : ByteArray := prog_14_method_52_code
def yX12_has : MethodName := ⟨RX12, "has", "(III)J"⟩
abbrev cX12_level : ByteArray := prog_14_method_53_code
def yX12_level : MethodName := ⟨RX12, "level", "(II)J"⟩
abbrev cX12_stateOf : ByteArray := prog_14_method_54_code
def yX12_stateOf : MethodName := ⟨RX12, "stateOf", "(I)I"⟩
abbrev cX12_state : ByteArray := prog_14_method_55_code
def yX12_state : MethodName := ⟨RX12, "state", "(II)I"⟩
abbrev cX12_layPaid : ByteArray := prog_14_method_56_code
def yX12_layPaid : MethodName := ⟨RX12, "layPaid", "(I)V"⟩
abbrev cX12_paidOf : ByteArray := prog_14_method_57_code
def yX12_paidOf : MethodName := ⟨RX12, "paidOf", "(II)I"⟩
abbrev cX12_paid : ByteArray := prog_14_method_58_code
def yX12_paid : MethodName := ⟨RX12, "paid", "(II)I"⟩
abbrev cX12_hasUnits : ByteArray := prog_14_method_59_code
def yX12_hasUnits : MethodName := ⟨RX12, "hasUnits", "(III)Z"⟩
abbrev cX12_least : ByteArray := prog_14_method_60_code
def yX12_least : MethodName := ⟨RX12, "least", "(II)I"⟩
abbrev cX12_asksFor : ByteArray := prog_14_method_61_code
def yX12_asksFor : MethodName := ⟨RX12, "asksFor", "(II)V"⟩
abbrev cX12_isLike : ByteArray := prog_14_method_62_code
def yX12_isLike : MethodName := ⟨RX12, "isLike", "(II)Z"⟩
abbrev cX12_flat : ByteArray := prog_14_method_63_code
def yX12_flat : MethodName := ⟨RX12, "flat", "(III)I"⟩
abbrev cX12_unpaid : ByteArray := prog_14_method_64_code
def yX12_unpaid : MethodName := ⟨RX12, "unpaid", "(I)I"⟩
abbrev cX12_wants : ByteArray := prog_14_method_65_code
def yX12_wants : MethodName := ⟨RX12, "wants", "(III)I"⟩
abbrev cX12_dilutes : ByteArray := prog_14_method_66_code
def yX12_dilutes : MethodName := ⟨RX12, "dilutes", "(IIII)I"⟩
abbrev cX12_prefersOf : ByteArray := prog_14_method_67_code
def yX12_prefersOf : MethodName := ⟨RX12, "prefersOf", "(II)I"⟩
abbrev cX12_prefers : ByteArray := prog_14_method_68_code
def yX12_prefers : MethodName := ⟨RX12, "prefers", "(II)I"⟩
abbrev cX12_votesOf : ByteArray := prog_14_method_69_code
def yX12_votesOf : MethodName := ⟨RX12, "votesOf", "(I)I"⟩
abbrev cX12_votes : ByteArray := prog_14_method_70_code
def yX12_votes : MethodName := ⟨RX12, "votes", "(I)I"⟩
abbrev cX12_passes : ByteArray := prog_14_method_71_code
def yX12_passes : MethodName := ⟨RX12, "passes", "(II)I"⟩
abbrev cX12_against : ByteArray := prog_14_method_72_code
def yX12_against : MethodName := ⟨RX12, "against", "(JJJJ)I"⟩
abbrev cX12_puts : ByteArray := prog_14_method_73_code
def yX12_puts : MethodName := ⟨RX12, "puts", "(JJ)V"⟩
abbrev cX12_allAt : ByteArray := prog_14_method_74_code
def yX12_allAt : MethodName := ⟨RX12, "allAt", "(I)J"⟩
abbrev cX12_layBreaks : ByteArray := prog_14_method_75_code
def yX12_layBreaks : MethodName := ⟨RX12, "layBreaks", "()V"⟩
abbrev cX12_breaks : ByteArray := prog_14_method_76_code
def yX12_breaks : MethodName := ⟨RX12, "breaks", "(II)J"⟩
abbrev cX12_layPart : ByteArray := prog_14_method_77_code
def yX12_layPart : MethodName := ⟨RX12, "layPart", "(IJJ)V"⟩
abbrev cX12_part : ByteArray := prog_14_method_78_code
def yX12_part : MethodName := ⟨RX12, "part", "(III)J"⟩
abbrev cX12_layChoice : ByteArray := prog_14_method_79_code
def yX12_layChoice : MethodName := ⟨RX12, "layChoice", "(II)V"⟩
abbrev cX12_chosen : ByteArray := prog_14_method_80_code
def yX12_chosen : MethodName := ⟨RX12, "chosen", "(IIII)J"⟩
abbrev cX12_isSteady : ByteArray := prog_14_method_81_code
def yX12_isSteady : MethodName := ⟨RX12, "isSteady", "(II)Z"⟩
abbrev cX12_steady : ByteArray := prog_14_method_82_code
def yX12_steady : MethodName := ⟨RX12, "steady", "(II)I"⟩
abbrev cX12_steadies : ByteArray := prog_14_method_83_code
def yX12_steadies : MethodName := ⟨RX12, "steadies", "(II)I"⟩
abbrev cX12_keep : ByteArray := prog_14_method_84_code
def yX12_keep : MethodName := ⟨RX12, "keep", "()V"⟩
abbrev cX12_undo : ByteArray := prog_14_method_85_code
def yX12_undo : MethodName := ⟨RX12, "undo", "()Z"⟩
abbrev cX12_close : ByteArray := prog_14_method_86_code
def yX12_close : MethodName := ⟨RX12, "close", "(II)I"⟩
abbrev cX12_release : ByteArray := prog_14_method_87_code
def yX12_release : MethodName := ⟨RX12, "release", "(IZ)I"⟩
abbrev cX12_sale : ByteArray := prog_14_method_88_code
def yX12_sale : MethodName := ⟨RX12, "sale", "(I)I"⟩
abbrev cX12_guess : ByteArray := prog_14_method_89_code
def yX12_guess : MethodName := ⟨RX12, "guess", "(II)I"⟩
abbrev cX12_bitsOf : ByteArray := prog_14_method_90_code
def yX12_bitsOf : MethodName := ⟨RX12, "bitsOf", "(D)J"⟩
abbrev cX12_bitsOfFloat : ByteArray := prog_14_method_91_code
def yX12_bitsOfFloat : MethodName := ⟨RX12, "bitsOfFloat", "(F)I"⟩
abbrev cX12_hasDouble : ByteArray := prog_14_method_92_code
def yX12_hasDouble : MethodName := ⟨RX12, "hasDouble", "(II)D"⟩
abbrev cX12_mean : ByteArray := prog_14_method_93_code
def yX12_mean : MethodName := ⟨RX12, "mean", "(I)J"⟩
abbrev cX12_multiple : ByteArray := prog_14_method_94_code
def yX12_multiple : MethodName := ⟨RX12, "multiple", "(II)I"⟩
abbrev cX12_yields : ByteArray := prog_14_method_95_code
def yX12_yields : MethodName := ⟨RX12, "yields", "(III)I"⟩
abbrev cX12_grant : ByteArray := prog_14_method_96_code
def yX12_grant : MethodName := ⟨RX12, "grant", "(II)I"⟩
abbrev cX12_waive : ByteArray := prog_14_method_97_code
def yX12_waive : MethodName := ⟨RX12, "waive", "(IZ)Z"⟩
abbrev cX12_rank : ByteArray := prog_14_method_98_code
def yX12_rank : MethodName := ⟨RX12, "rank", "(II)I"⟩
def RL : String := "ExitFallsLaw"
abbrev cL_law : ByteArray := code
def yL_law : MethodName := ⟨RL, "law", "([I)Z"⟩
abbrev vwCl : List vw_C := [(RX0, TX0, 3), (RX1, TX1, 6), (RX2, TX2, 14), (RX3, TX3, 10), (RX4, TX4, 4), (RX5, TX5, 4), (RX6, TX6, 3), (RX8, TX8, 7), (RX9, TX9, 5), (RX10, TX10, 7), (RX11, TX11, 9), (RX12, TX12, 60)]
end
section
/-! ===== an abstract machine: the worlds of a fixed shape, one step, a run up to cuts ===== -/
abbrev eW : Type := (Nat → Nat → Int32) × (Nat → Nat → Int64)
abbrev eSh : Type := (Nat × Nat) ⊕ (Nat × List (Nat × Nat))
abbrev eR : Type := Nat × Nat × Nat × Int
abbrev eL : Type := List (Option Value)
abbrev eK (ρ : Type) : Type := Nat → eL → List Value → eW → Option ρ
abbrev eF (ρ : Type) : Type := List Value → eW → (Option Value → eW → Option ρ) → Option ρ
abbrev eCo : Type := List (List (Option Instr))
abbrev eS : Type := String × String × String × List Int32
def eC (ad : Nat → Nat) (v : Value) : Value := match v with
  | .ref a => .ref (ad a)
  | v => v
/-- a field: 0 an int, 1 a long, 2 a reference to a cell, 3 a boolean -/
def eFv (ad : Nat → Nat) (w : eW) (id k : Nat) (f : Nat × Nat) : Value := match f.1 with
  | 0 => .int (w.1 id k)
  | 1 => .long (w.2 id k)
  | 2 => .ref (ad f.2)
  | _ => .int (w.1 id k)
def eFs (ad : Nat → Nat) (w : eW) (id : Nat) : Nat → List (Nat × Nat) → List Value
  | _, [] => []
  | k, f :: fs => eFv ad w id k f :: eFs ad w id (k + 1) fs
/-- an array: 0 of ints, 1 of longs, 2 of bytes, 3 of booleans -/
def eCell (ad : Nat → Nat) (cA : Nat → ClassId) (w : eW) (id : Nat) (sh : eSh) : va_E := match sh with
  | .inl (0, n) => .inl (cA 0, n, .inl (w.1 id))
  | .inl (1, n) => .inl (cA 1, n, .inr (.inl (w.2 id)))
  | .inl (2, n) => .inl (cA 2, n, .inl (w.1 id))
  | .inl (_, n) => .inl (cA 3, n, .inl (w.1 id))
  | .inr (ci, fs) => .inr (ci, eFs ad w id 0 fs)
def eWs (ad : Nat → Nat) (cA : Nat → ClassId) (w : eW) : Nat → List eSh → va_W
  | _, [] => []
  | id, sh :: r => (ad id, eCell ad cA w id sh) :: eWs ad cA w (id + 1) r
def eU1 (w : eW) (id k : Nat) (x : Int32) : eW := (fun a b => if a = id then (if b = k then x else w.1 a b) else w.1 a b, w.2)
def eU2 (w : eW) (id k : Nat) (x : Int64) : eW := (w.1, fun a b => if a = id then (if b = k then x else w.2 a b) else w.2 a b)
def eCp1 (w : eW) (d o sp dp n : Nat) : eW := (fun a b => if a = d then va_cpy (w.1 o) (w.1 d) sp dp n b else w.1 a b, w.2)
def eCp2 (w : eW) (d o sp dp n : Nat) : eW := (w.1, fun a b => if a = d then va_cpy (w.2 o) (w.2 d) sp dp n b else w.2 a b)
def eAt (C : eCo) (pc : Nat) : Option Instr := match C[pc / 16]? with
  | some l => match l[pc % 16]? with
    | some x => x
    | none => none
  | none => none
def eLook : List (Nat × eR) → Nat → Option eR
  | [], _ => none
  | (i, r) :: q, n => bif Nat.beq i n then some r else eLook q n
def eTo (pc : Nat) (off : Int) : Option Nat := match off with
  | .ofNat n => some (pc + n)
  | .negSucc n => bif Nat.ble (n + 1) pc then some (pc - (n + 1)) else none
def eLd (L : eL) (i : Nat) : Option Value := match L[i]? with
  | some (some v) => some v
  | _ => none
def eSt1 (L : eL) (i : Nat) (v : Value) : eL := match i with
  | 0 => L.set 0 (some v)
  | j + 1 => match eLd L j with
    | some (.long _) => (L.set (j + 1) (some v)).set j none
    | some (.double _) => (L.set (j + 1) (some v)).set j none
    | _ => L.set (j + 1) (some v)
def eSt2 (L : eL) (i : Nat) (v : Value) : eL := (eSt1 L i v).set (i + 1) none
def eCat : List Value → Nat
  | [] => 0
  | v :: r => v.category + eCat r
/-- the arguments of a call, the last pushed first, and what is below -/
def eArgs : Nat → List Value → List Value → Option (List Value × List Value)
  | 0, acc, st => some (acc, st)
  | _ + 1, _, [] => none
  | n + 1, acc, v :: st => eArgs n (v :: acc) st
section ESTEP
variable {ρ : Type}
/-- go on with a list that is laid out -/
def eForce : eL → (eL → Option ρ) → Option ρ
  | [], k => k []
  | none :: r, k => eForce r (fun r' => k (none :: r'))
  | some v :: r, k => eForce r (fun r' => k (some v :: r'))
theorem eForce_eq : ∀ (L : eL) (k : eL → Option ρ), eForce L k = k L
  | [], _ => rfl
  | none :: r, k => eForce_eq r (fun r' => k (none :: r'))
  | some v :: r, k => eForce_eq r (fun r' => k (some v :: r'))
def eSw (k : Nat → Option ρ) (pc : Nat) (x : Int32) (dflt : Int) : Int → List Int → Option ρ
  | _, [] => match eTo pc dflt with
    | some t => k t
    | none => none
  | lo, o :: os => if x = Int32.ofInt lo then (match eTo pc o with
    | some t => k t
    | none => none) else eSw k pc x dflt (lo + 1) os
def eBr (k : Nat → Option ρ) (pc : Nat) (off : Int) (c : Prop) (d : Decidable c) : Option ρ := match eTo pc off with
  | some t => @ite (Option ρ) c d (k t) (k (pc + 3))
  | none => none
/-- what an instruction does with the operand stack alone -/
def eAlu (i : Instr) (st : List Value) (k : List Value → Option ρ) : Option ρ := match i with
  | .iconst n => k (.int (Int32.ofInt n) :: st)
  | .bipush n => k (.int (Int8.ofInt n).toInt32 :: st)
  | .sipush n => k (.int (Int16.ofInt n).toInt32 :: st)
  | .lconst n => k (.long (Int64.ofNat n) :: st)
  | .dconst n => match n with
    | 0 => k (.double FP.dconst0 :: st)
    | 1 => k (.double FP.dconst1 :: st)
  | .fconst n => match n with
    | 0 => k (.float FP.fconst0 :: st)
    | 1 => k (.float FP.fconst1 :: st)
    | 2 => k (.float FP.fconst2 :: st)
  | .iadd => match st with
    | .int y :: .int x :: st => k (.int (x + y) :: st)
    | _ => none
  | .isub => match st with
    | .int y :: .int x :: st => k (.int (x - y) :: st)
    | _ => none
  | .imul => match st with
    | .int y :: .int x :: st => k (.int (x * y) :: st)
    | _ => none
  | .iand => match st with
    | .int y :: .int x :: st => k (.int (x &&& y) :: st)
    | _ => none
  | .ior => match st with
    | .int y :: .int x :: st => k (.int (x ||| y) :: st)
    | _ => none
  | .ixor => match st with
    | .int y :: .int x :: st => k (.int (x ^^^ y) :: st)
    | _ => none
  | .idiv => match st with
    | .int y :: .int x :: st => if y = 0 then none else k (.int (x / y) :: st)
    | _ => none
  | .irem => match st with
    | .int y :: .int x :: st => if y = 0 then none else k (.int (x - x / y * y) :: st)
    | _ => none
  | .ineg => match st with
    | .int x :: st => k (.int (-x) :: st)
    | _ => none
  | .ishl => match st with
    | .int y :: .int x :: st => k (.int (x <<< (y &&& 31)) :: st)
    | _ => none
  | .ishr => match st with
    | .int y :: .int x :: st => k (.int (x >>> (y &&& 31)) :: st)
    | _ => none
  | .iushr => match st with
    | .int y :: .int x :: st => k (.int (x.toUInt32 >>> (y.toUInt32 &&& Int32.toUInt32 31)).toInt32 :: st)
    | _ => none
  | .i2l => match st with
    | .int x :: st => k (.long x.toInt64 :: st)
    | _ => none
  | .i2b => match st with
    | .int x :: st => k (.int x.toInt8.toInt32 :: st)
    | _ => none
  | .i2d => match st with
    | .int x :: st => k (.double (FP.i2d x) :: st)
    | _ => none
  | .i2f => match st with
    | .int x :: st => k (.float (FP.i2f x) :: st)
    | _ => none
  | .l2i => match st with
    | .long x :: st => k (.int x.toInt32 :: st)
    | _ => none
  | .l2d => match st with
    | .long x :: st => k (.double (FP.l2d x) :: st)
    | _ => none
  | .l2f => match st with
    | .long x :: st => k (.float (FP.l2f x) :: st)
    | _ => none
  | .d2l => match st with
    | .double x :: st => k (.long (FP.d2l x) :: st)
    | _ => none
  | .f2i => match st with
    | .float x :: st => k (.int (FP.f2i x) :: st)
    | _ => none
  | .ladd => match st with
    | .long y :: .long x :: st => k (.long (x + y) :: st)
    | _ => none
  | .lsub => match st with
    | .long y :: .long x :: st => k (.long (x - y) :: st)
    | _ => none
  | .lmul => match st with
    | .long y :: .long x :: st => k (.long (x * y) :: st)
    | _ => none
  | .lor => match st with
    | .long y :: .long x :: st => k (.long (x ||| y) :: st)
    | _ => none
  | .ldiv => match st with
    | .long y :: .long x :: st => if y = 0 then none else k (.long (x / y) :: st)
    | _ => none
  | .lrem => match st with
    | .long y :: .long x :: st => if y = 0 then none else k (.long (x - x / y * y) :: st)
    | _ => none
  | .lneg => match st with
    | .long x :: st => k (.long (-x) :: st)
    | _ => none
  | .lshl => match st with
    | .int y :: .long x :: st => k (.long (x <<< (y.toInt64 &&& 63)) :: st)
    | _ => none
  | .lcmp => match st with
    | .long y :: .long x :: st => k (.int (lg_cmp x y) :: st)
    | _ => none
  | .dcmp op => match st with
    | .double y :: .double x :: st => k (.int (Op.cmpValue (FP.dcmp x y) op) :: st)
    | _ => none
  | .fcmp op => match st with
    | .float y :: .float x :: st => k (.int (Op.cmpValue (FP.fcmp x y) op) :: st)
    | _ => none
  | .dadd => match st with
    | .double y :: .double x :: st => if FP.dadd x y &&& 0x7fffffffffffffff ≤ 0x7ff0000000000000 then k (.double (FP.dadd x y) :: st) else none
    | _ => none
  | .dsub => match st with
    | .double y :: .double x :: st => if FP.dsub x y &&& 0x7fffffffffffffff ≤ 0x7ff0000000000000 then k (.double (FP.dsub x y) :: st) else none
    | _ => none
  | .dmul => match st with
    | .double y :: .double x :: st => if FP.dmul x y &&& 0x7fffffffffffffff ≤ 0x7ff0000000000000 then k (.double (FP.dmul x y) :: st) else none
    | _ => none
  | .ddiv => match st with
    | .double y :: .double x :: st => if FP.ddiv x y &&& 0x7fffffffffffffff ≤ 0x7ff0000000000000 then k (.double (FP.ddiv x y) :: st) else none
    | _ => none
  | .fsub => match st with
    | .float y :: .float x :: st => if FP.fsub x y &&& 0x7fffffff ≤ 0x7f800000 then k (.float (FP.fsub x y) :: st) else none
    | _ => none
  | .fmul => match st with
    | .float y :: .float x :: st => if FP.fmul x y &&& 0x7fffffff ≤ 0x7f800000 then k (.float (FP.fmul x y) :: st) else none
    | _ => none
  | .fdiv => match st with
    | .float y :: .float x :: st => if FP.fdiv x y &&& 0x7fffffff ≤ 0x7f800000 then k (.float (FP.fdiv x y) :: st) else none
    | _ => none
  | .dup => match st with
    | .int x :: st => k (.int x :: .int x :: st)
    | .ref x :: st => k (.ref x :: .ref x :: st)
    | _ => none
  | .dup2 => match st with
    | .int x :: .ref y :: st => k (.int x :: .ref y :: .int x :: .ref y :: st)
    | _ => none
  | .pop => match st with
    | .int _ :: st => k st
    | _ => none
  | _ => none
def eILen (i : Instr) : Nat := match i with
  | .iload _ | .lload _ | .dload _ | .fload _ | .aload _ | .istore _ | .lstore _ | .dstore _ | .fstore _ | .astore _ | .bipush _ | .ldc _ => 2
  | .iinc _ _ | .goto _ | .ifCond _ _ | .if_icmp _ _ | .sipush _ | .ldc_w _ | .ldc2_w _ | .getfield _ | .putfield _ | .getstatic _ | .invokestatic _ | .invokevirtual _ => 3
  | _ => 1
def eIn (i : Int32) (n : Nat) : Prop := ¬ (i < 0 ∨ n ≤ i.toNatClampNeg)
def eInD (i : Int32) (n : Nat) : Decidable (eIn i n) := inferInstanceAs (Decidable (¬ (i < 0 ∨ n ≤ i.toNatClampNeg)))
def eChk (i : Int32) (n : Nat) (x : Option ρ) : Option ρ := @ite _ (eIn i n) (eInD i n) x none
def eStep (SH : List eSh) (SS : List eS) (nL : Nat) (rs : List (Nat × eR)) (calls : Nat → eF ρ) (rt : Option Value → eW → Option ρ) (k : eK ρ) (i : Instr) (pc : Nat) (L : eL) (st : List Value) (w : eW) : Option ρ :=
  match i with
  | .iload n => match eLd L n with
    | some (.int x) => k (pc + 2) L (.int x :: st) w
    | _ => none
  | .iload_n n => match eLd L n with
    | some (.int x) => k (pc + 1) L (.int x :: st) w
    | _ => none
  | .lload n => match eLd L n with
    | some (.long x) => k (pc + 2) L (.long x :: st) w
    | _ => none
  | .lload_n n => match eLd L n with
    | some (.long x) => k (pc + 1) L (.long x :: st) w
    | _ => none
  | .dload n => match eLd L n with
    | some (.double x) => k (pc + 2) L (.double x :: st) w
    | _ => none
  | .dload_n n => match eLd L n with
    | some (.double x) => k (pc + 1) L (.double x :: st) w
    | _ => none
  | .fload n => match eLd L n with
    | some (.float x) => k (pc + 2) L (.float x :: st) w
    | _ => none
  | .fload_n n => match eLd L n with
    | some (.float x) => k (pc + 1) L (.float x :: st) w
    | _ => none
  | .aload n => match eLd L n with
    | some (.ref x) => k (pc + 2) L (.ref x :: st) w
    | _ => none
  | .aload_n n => match eLd L n with
    | some (.ref x) => k (pc + 1) L (.ref x :: st) w
    | _ => none
  | .istore n => match st with
    | .int x :: st => bif Nat.blt n nL then eForce (eSt1 L n (.int x)) (fun L => k (pc + 2) L st w) else none
    | _ => none
  | .istore_n n => match st with
    | .int x :: st => bif Nat.blt n nL then eForce (eSt1 L n (.int x)) (fun L => k (pc + 1) L st w) else none
    | _ => none
  | .lstore n => match st with
    | .long x :: st => bif Nat.blt (n + 1) nL then eForce (eSt2 L n (.long x)) (fun L => k (pc + 2) L st w) else none
    | _ => none
  | .lstore_n n => match st with
    | .long x :: st => bif Nat.blt (n + 1) nL then eForce (eSt2 L n (.long x)) (fun L => k (pc + 1) L st w) else none
    | _ => none
  | .dstore n => match st with
    | .double x :: st => bif Nat.blt (n + 1) nL then eForce (eSt2 L n (.double x)) (fun L => k (pc + 2) L st w) else none
    | _ => none
  | .dstore_n n => match st with
    | .double x :: st => bif Nat.blt (n + 1) nL then eForce (eSt2 L n (.double x)) (fun L => k (pc + 1) L st w) else none
    | _ => none
  | .fstore n => match st with
    | .float x :: st => bif Nat.blt n nL then eForce (eSt1 L n (.float x)) (fun L => k (pc + 2) L st w) else none
    | _ => none
  | .fstore_n n => match st with
    | .float x :: st => bif Nat.blt n nL then eForce (eSt1 L n (.float x)) (fun L => k (pc + 1) L st w) else none
    | _ => none
  | .astore n => match st with
    | .ref x :: st => bif Nat.blt n nL then eForce (eSt1 L n (.ref x)) (fun L => k (pc + 2) L st w) else none
    | _ => none
  | .astore_n n => match st with
    | .ref x :: st => bif Nat.blt n nL then eForce (eSt1 L n (.ref x)) (fun L => k (pc + 1) L st w) else none
    | _ => none
  | .iinc n z => match eLd L n with
    | some (.int x) => bif Nat.blt n nL then eForce (eSt1 L n (.int (x + Int32.ofInt z))) (fun L => k (pc + 3) L st w) else none
    | _ => none
  | .goto off => match eTo pc off with
    | some t => k t L st w
    | none => none
  | .ifCond c off => match st with
    | .int x :: st => (match c with
      | .eq => eBr (fun t => k t L st w) pc off (x = 0) inferInstance
      | .ne => eBr (fun t => k t L st w) pc off (¬ x = 0) inferInstance
      | .lt => eBr (fun t => k t L st w) pc off (x < 0) inferInstance
      | .ge => eBr (fun t => k t L st w) pc off (0 ≤ x) inferInstance
      | .gt => eBr (fun t => k t L st w) pc off (0 < x) inferInstance
      | .le => eBr (fun t => k t L st w) pc off (x ≤ 0) inferInstance)
    | _ => none
  | .if_icmp c off => match st with
    | .int y :: .int x :: st => (match c with
      | .eq => eBr (fun t => k t L st w) pc off (x = y) inferInstance
      | .ne => eBr (fun t => k t L st w) pc off (¬ x = y) inferInstance
      | .lt => eBr (fun t => k t L st w) pc off (x < y) inferInstance
      | .ge => eBr (fun t => k t L st w) pc off (y ≤ x) inferInstance
      | .gt => eBr (fun t => k t L st w) pc off (y < x) inferInstance
      | .le => eBr (fun t => k t L st w) pc off (x ≤ y) inferInstance)
    | _ => none
  | .tableswitch dflt lo _ offs => match st with
    | .int x :: st => eSw (fun t => k t L st w) pc x dflt lo offs.toList
    | _ => none
  | .ldc ix => match eLook rs ix with
    | some (2, _, _, z) => k (pc + 2) L (.int (Int32.ofInt z) :: st) w
    | some (5, z, _, _) => k (pc + 2) L (.float (UInt32.ofNat z) :: st) w
    | _ => none
  | .ldc_w ix => match eLook rs ix with
    | some (2, _, _, z) => k (pc + 3) L (.int (Int32.ofInt z) :: st) w
    | some (5, z, _, _) => k (pc + 3) L (.float (UInt32.ofNat z) :: st) w
    | _ => none
  | .ldc2_w ix => match eLook rs ix with
    | some (3, _, _, z) => k (pc + 3) L (.long (Int64.ofInt z) :: st) w
    | some (4, z, _, _) => k (pc + 3) L (.double (UInt64.ofNat z) :: st) w
    | _ => none
  | .getfield ix => match eLook rs ix, st with
    | some (0, ci, kf, _), .ref o :: st => (match SH[o]? with
      | some (.inr (ci', fs)) => bif Nat.beq ci' ci then (match fs[kf]? with
        | some f => k (pc + 3) L (eFv (fun a => a) w o kf f :: st) w
        | none => none) else none
      | _ => none)
    | _, _ => none
  | .putfield ix => match eLook rs ix, st with
    | some (0, ci, kf, z), v :: .ref o :: st => (match SH[o]? with
      | some (.inr (ci', fs)) => bif Nat.beq ci' ci then (match fs[kf]?, v, z with
        | some (0, _), .int x, .ofNat 0 => k (pc + 3) L st (eU1 w o kf x)
        | some (1, _), .long x, .ofNat 1 => k (pc + 3) L st (eU2 w o kf x)
        | some (3, _), .int x, .ofNat 3 => if x = 0 ∨ x = 1 then k (pc + 3) L st (eU1 w o kf x) else none
        | _, _, _ => none) else none
      | _ => none)
    | _, _ => none
  | .getstatic ix => match eLook rs ix with
    | some (7, id, _, _) => k (pc + 3) L (.ref id :: st) w
    | _ => none
  | .arraylength => match st with
    | .ref o :: st => (match SH[o]? with
      | some (.inl (_, n)) => k (pc + 1) L (.int (Int32.ofNat n) :: st) w
      | some _ => none
      | none => (match SS[o - SH.length]? with
        | some q => k (pc + 1) L (.int (Int32.ofNat q.2.2.2.length) :: st) w
        | none => none))
    | _ => none
  | .iaload => match st with
    | .int j :: .ref o :: st => (match SH[o]? with
      | some (.inl (0, n)) => eChk j n (k (pc + 1) L (.int (w.1 o j.toNatClampNeg) :: st) w)
      | some _ => none
      | none => (match SS[o - SH.length]? with
        | some q => eChk j q.2.2.2.length (k (pc + 1) L (.int (q.2.2.2.getD j.toNatClampNeg 0) :: st) w)
        | none => none))
    | _ => none
  | .laload => match st with
    | .int j :: .ref o :: st => (match SH[o]? with
      | some (.inl (1, n)) => eChk j n (k (pc + 1) L (.long (w.2 o j.toNatClampNeg) :: st) w)
      | _ => none)
    | _ => none
  | .baload => match st with
    | .int j :: .ref o :: st => (match SH[o]? with
      | some (.inl (2, n)) => eChk j n (k (pc + 1) L (.int (w.1 o j.toNatClampNeg) :: st) w)
      | some (.inl (3, n)) => eChk j n (k (pc + 1) L (.int (w.1 o j.toNatClampNeg) :: st) w)
      | _ => none)
    | _ => none
  | .iastore => match st with
    | .int x :: .int j :: .ref o :: st => (match SH[o]? with
      | some (.inl (0, n)) => eChk j n (k (pc + 1) L st (eU1 w o j.toNatClampNeg x))
      | _ => none)
    | _ => none
  | .lastore => match st with
    | .long x :: .int j :: .ref o :: st => (match SH[o]? with
      | some (.inl (1, n)) => eChk j n (k (pc + 1) L st (eU2 w o j.toNatClampNeg x))
      | _ => none)
    | _ => none
  | .bastore => match st with
    | .int x :: .int j :: .ref o :: st => (match SH[o]? with
      | some (.inl (2, n)) => eChk j n (k (pc + 1) L st (eU1 w o j.toNatClampNeg (vp_nar .byte x)))
      | some (.inl (3, n)) => eChk j n (k (pc + 1) L st (eU1 w o j.toNatClampNeg (vp_nar .boolean x)))
      | _ => none)
    | _ => none
  | .invokestatic ix => match eLook rs ix with
    | some (1, a, n, .negSucc _) => (match eArgs n [] st with
      | some (as, st) => bif Nat.ble (eCat st) 8 then calls a as w (fun v w => k (pc + 3) L (v.toList ++ st) w) else none
      | none => none)
    | some (6, a, _, _) => bif Nat.ble (eCat st) 8 then (match a, st with
      | 0, .int y :: .int x :: st => k (pc + 3) L (.int (if x < y then y else x) :: st) w
      | 1, .int y :: .int x :: st => k (pc + 3) L (.int (if y < x then y else x) :: st) w
      | 2, .long y :: .long x :: st => k (pc + 3) L (.long (if y < x then x else y) :: st) w
      | 3, .int n :: .int dp :: .ref d :: .int sp :: .ref o :: st => (match SH[o]?, SH[d]? with
        | some (.inl (0, n0)), some (.inl (0, n1)) => if ¬ sp < 0 ∧ ¬ dp < 0 ∧ ¬ n < 0 ∧ sp.toNatClampNeg + n.toNatClampNeg ≤ n0 ∧ dp.toNatClampNeg + n.toNatClampNeg ≤ n1 then k (pc + 3) L st (eCp1 w d o sp.toNatClampNeg dp.toNatClampNeg n.toNatClampNeg) else none
        | some (.inl (1, n0)), some (.inl (1, n1)) => if ¬ sp < 0 ∧ ¬ dp < 0 ∧ ¬ n < 0 ∧ sp.toNatClampNeg + n.toNatClampNeg ≤ n0 ∧ dp.toNatClampNeg + n.toNatClampNeg ≤ n1 then k (pc + 3) L st (eCp2 w d o sp.toNatClampNeg dp.toNatClampNeg n.toNatClampNeg) else none
        | _, _ => none)
      | _, _ => none) else none
    | _ => none
  | .invokevirtual ix => match eLook rs ix with
    | some (1, a, n, .ofNat cj) => (match eArgs n [] st with
      | some (as, .ref o :: st) => (match SH[o]? with
        | some (.inr (ci, _)) => bif Nat.ble (eCat st) 8 && Nat.beq ci cj then calls a (.ref o :: as) w (fun v w => k (pc + 3) L (v.toList ++ st) w) else none
        | _ => none)
      | _ => none)
    | _ => none
  | .ireturn => match st with
    | [.int x] => rt (some (.int x)) w
    | _ => none
  | .lreturn => match st with
    | [.long x] => rt (some (.long x)) w
    | _ => none
  | .dreturn => match st with
    | [.double x] => rt (some (.double x)) w
    | _ => none
  | .freturn => match st with
    | [.float x] => rt (some (.float x)) w
    | _ => none
  | .areturn => match st with
    | [.ref x] => rt (some (.ref x)) w
    | _ => none
  | .return_ => match st with
    | [] => rt none w
    | _ => none
  | i => eAlu i st (fun st => k (pc + eILen i) L st w)
def eMem (n : Nat) : List Nat → Bool
  | [] => false
  | m :: r => bif Nat.beq n m then true else eMem n r
/-- a run up to the cuts: there K goes on -/
def eRun (SH : List eSh) (SS : List eS) (nL : Nat) (rs : List (Nat × eR)) (calls : Nat → eF ρ) (rt : Option Value → eW → Option ρ) (C : eCo) (cuts : List Nat) (K : eK ρ) : Nat → Bool → eK ρ := fun n => Nat.rec (motive := fun _ => Bool → eK ρ) (fun _ _ _ _ _ => none)
  (fun _ ih first pc L st w => bif (eMem pc cuts && !first) then K pc L st w else (match eAt C pc with
    | some i => eStep SH SS nL rs calls rt (ih false) i pc L st w
    | none => none)) n
end ESTEP
/-- what a method answers -/
def rI (v : Option Value) (w : eW) : Option (Int32 × eW) := match v with
  | some (.int x) => some (x, w)
  | _ => none
def rZ (v : Option Value) (w : eW) : Option (Int32 × eW) := match v with
  | some (.int x) => if x = 0 ∨ x = 1 then some (x, w) else none
  | _ => none
def rJ (v : Option Value) (w : eW) : Option (Int64 × eW) := match v with
  | some (.long x) => some (x, w)
  | _ => none
def rD (v : Option Value) (w : eW) : Option (UInt64 × eW) := match v with
  | some (.double x) => some (x, w)
  | _ => none
def rF (v : Option Value) (w : eW) : Option (UInt32 × eW) := match v with
  | some (.float x) => some (x, w)
  | _ => none
def rA (v : Option Value) (w : eW) : Option (Nat × eW) := match v with
  | some (.ref x) => some (x, w)
  | _ => none
def rV (v : Option Value) (w : eW) : Option eW := match v with
  | none => some w
  | _ => none
/-- a local of a kind -/
def lI (L : eL) (i : Nat) : Option Int32 := match eLd L i with
  | some (.int x) => some x
  | _ => none
def lJ (L : eL) (i : Nat) : Option Int64 := match eLd L i with
  | some (.long x) => some x
  | _ => none
def lD (L : eL) (i : Nat) : Option UInt64 := match eLd L i with
  | some (.double x) => some x
  | _ => none
def lF (L : eL) (i : Nat) : Option UInt32 := match eLd L i with
  | some (.float x) => some x
  | _ => none
def lA (L : eL) (i : Nat) : Option Nat := match eLd L i with
  | some (.ref x) => some x
  | _ => none
end
section
/-! ===== the abstract machine is sound over the machine ===== -/
def eTys (cA : Nat → ClassId) : List (ClassId × FieldType) := [(cA 0, .int), (cA 1, .long), (cA 2, .byte), (cA 3, .boolean)]
def eA (ad : Nat → Nat) (n : Nat) : Nat → Prop := fun q => ∃ i, i < n ∧ q = ad i
def eInj (ad : Nat → Nat) (n : Nat) : Prop := ∀ i j, i < n → j < n → ad i = ad j → i = j
def eStat (ad : Nat → Nat) (n : Nat) (SS : List eS) (U : State) : Prop := ∀ (k : Nat) (q : eS), SS[k]? = some q → (q.1 = "" ∨ va_Z q.1 q.2.1 q.2.2.1 (.ref (ad (n + k))) (eA ad n) U U.heap) ∧ va_T .int (ad (n + k)) q.2.2.2.length (fun j => .int (q.2.2.2.getD j 0)) (eA ad n) U U.heap
def eAL (ad : Nat → Nat) (ls : Array Slot) (nL : Nat) (L : eL) : Prop := ls.size = nL ∧ lv_wf ls ∧ ∀ (i : Nat) (v : Value), L[i]? = some (some v) → ls[i]? = some (.val (eC ad v))
theorem eWs_get (ad : Nat → Nat) (cA : Nat → ClassId) (w : eW) : ∀ (SH : List eSh) (i k : Nat), (eWs ad cA w i SH)[k]? = (SH[k]?).map (fun sh => (ad (i + k), eCell ad cA w (i + k) sh))
  | [], _, _ => by simp [eWs]
  | sh :: r, i, 0 => by simp [eWs]
  | sh :: r, i, k + 1 => by
    simp only [eWs, List.getElem?_cons_succ]
    rw [eWs_get ad cA w r (i + 1) k, show i + 1 + k = i + (k + 1) by omega]
theorem eWs_at {ad : Nat → Nat} {cA : Nat → ClassId} {w : eW} {SH : List eSh} {k : Nat} {sh : eSh} (h : SH[k]? = some sh) : (eWs ad cA w 0 SH)[k]? = some (ad k, eCell ad cA w k sh) := by
  rw [eWs_get, h]
  simp
theorem eFs_get (ad : Nat → Nat) (w : eW) (id : Nat) : ∀ (fs : List (Nat × Nat)) (i k : Nat), (eFs ad w id i fs)[k]? = (fs[k]?).map (fun f => eFv ad w id (i + k) f)
  | [], _, _ => by simp [eFs]
  | f :: r, i, 0 => by simp [eFs]
  | f :: r, i, k + 1 => by
    simp only [eFs, List.getElem?_cons_succ]
    rw [eFs_get ad w id r (i + 1) k, show i + 1 + k = i + (k + 1) by omega]
theorem eWs_D {ad : Nat → Nat} {cA : Nat → ClassId} {w : eW} {SH : List eSh} (hi : eInj ad SH.length) : va_D (eA ad SH.length) (eWs ad cA w 0 SH) := by
  have key : ∀ (k : Nat) (q : Nat × va_E), (eWs ad cA w 0 SH)[k]? = some q → k < SH.length ∧ q.1 = ad k := by
    intro k q h
    rw [eWs_get] at h
    cases hs : SH[k]? with
    | none => rw [hs] at h; cases h
    | some sh =>
      rw [hs] at h
      cases h
      exact ⟨(List.getElem?_eq_some_iff.mp hs).1, by simp⟩
  refine ⟨fun i j x y h1 h2 hxy => ?_, fun k q h => ?_⟩
  · obtain ⟨a1, b1⟩ := key i x h1
    obtain ⟨a2, b2⟩ := key j y h2
    exact hi i j a1 a2 (by rw [← b1, ← b2, hxy])
  · obtain ⟨a1, b1⟩ := key k q h
    exact ⟨k, a1, b1⟩
/-- a world that differs from another one at one cell alone -/
theorem eWs_set {ad : Nat → Nat} {cA : Nat → ClassId} {w w' : eW} {SH : List eSh} {o : Nat} {sh : eSh} (h : SH[o]? = some sh) (he : ∀ (k : Nat) (sh : eSh), k ≠ o → eCell ad cA w' k sh = eCell ad cA w k sh) : (eWs ad cA w 0 SH).set o (ad o, eCell ad cA w' o sh) = eWs ad cA w' 0 SH := by
  apply List.ext_getElem?
  intro k
  have hl : o < SH.length := (List.getElem?_eq_some_iff.mp h).1
  have hlen : ∀ (r : List eSh) (i : Nat), (eWs ad cA w i r).length = r.length := by
    intro r
    induction r with
    | nil => intro i; rfl
    | cons a r ih => intro i; simp [eWs, ih]
  by_cases hk : k = o
  · subst hk
    rw [List.getElem?_set_self (by rw [hlen]; exact hl), eWs_at h]
  · rw [List.getElem?_set_ne (Ne.symm hk), eWs_get, eWs_get]
    cases hs : SH[k]? with
    | none => rfl
    | some sh2 =>
      simp only [Option.map_some, Nat.zero_add]
      rw [he k sh2 hk]
theorem eFs_congr {ad : Nat → Nat} {w w' : eW} {id : Nat} (h1 : ∀ b, w'.1 id b = w.1 id b) (h2 : ∀ b, w'.2 id b = w.2 id b) : ∀ (fs : List (Nat × Nat)) (i : Nat), eFs ad w' id i fs = eFs ad w id i fs
  | [], _ => rfl
  | f :: r, i => by
    simp only [eFs]
    rw [eFs_congr h1 h2 r (i + 1)]
    simp only [eFv, h1, h2]
theorem eCell_congr {ad : Nat → Nat} {cA : Nat → ClassId} {w w' : eW} {id : Nat} {sh : eSh} (h1 : ∀ b, w'.1 id b = w.1 id b) (h2 : ∀ b, w'.2 id b = w.2 id b) : eCell ad cA w' id sh = eCell ad cA w id sh := by
  have e1 : w'.1 id = w.1 id := funext h1
  have e2 : w'.2 id = w.2 id := funext h2
  unfold eCell
  split <;> simp only [e1, e2, eFs_congr h1 h2]
theorem eU1_at (w : eW) (id k : Nat) (x : Int32) (a b : Nat) : (eU1 w id k x).1 a b = if a = id then (if b = k then x else w.1 a b) else w.1 a b := rfl
theorem eU2_at (w : eW) (id k : Nat) (x : Int64) (a b : Nat) : (eU2 w id k x).2 a b = if a = id then (if b = k then x else w.2 a b) else w.2 a b := rfl
theorem eU1_ne {ad : Nat → Nat} {cA : Nat → ClassId} {w : eW} {o k : Nat} {x : Int32} : ∀ (i : Nat) (sh : eSh), i ≠ o → eCell ad cA (eU1 w o k x) i sh = eCell ad cA w i sh := fun i _ h => eCell_congr (fun b => by rw [eU1_at, if_neg h]) (fun _ => rfl)
theorem eU2_ne {ad : Nat → Nat} {cA : Nat → ClassId} {w : eW} {o k : Nat} {x : Int64} : ∀ (i : Nat) (sh : eSh), i ≠ o → eCell ad cA (eU2 w o k x) i sh = eCell ad cA w i sh := fun i _ h => eCell_congr (fun _ => rfl) (fun b => by rw [eU2_at, if_neg h])
theorem eFs_set1 {ad : Nat → Nat} {w : eW} {id : Nat} {x : Int32} {k : Nat} {fs : List (Nat × Nat)} {f : Nat × Nat} (hf : fs[k]? = some f) (hx : eFv ad (eU1 w id k x) id k f = .int x) : (eFs ad w id 0 fs).set k (.int x) = eFs ad (eU1 w id k x) id 0 fs := by
  apply List.ext_getElem?
  intro j
  have hl : k < fs.length := (List.getElem?_eq_some_iff.mp hf).1
  have hlen : ∀ (r : List (Nat × Nat)) (i : Nat), (eFs ad w id i r).length = r.length := by
    intro r
    induction r with
    | nil => intro i; rfl
    | cons a r ih => intro i; simp [eFs, ih]
  by_cases hj : j = k
  · subst hj
    rw [List.getElem?_set_self (by rw [hlen]; exact hl), eFs_get, hf]
    simp only [Option.map_some, Nat.zero_add, hx]
  · rw [List.getElem?_set_ne (Ne.symm hj), eFs_get, eFs_get]
    cases hs : fs[j]? with
    | none => rfl
    | some g =>
      simp only [Option.map_some, Nat.zero_add]
      unfold eFv
      rw [eU1_at, if_pos rfl, if_neg hj]
      rfl
theorem eFs_set2 {ad : Nat → Nat} {w : eW} {id : Nat} {x : Int64} {k : Nat} {fs : List (Nat × Nat)} {f : Nat × Nat} (hf : fs[k]? = some f) (hx : eFv ad (eU2 w id k x) id k f = .long x) : (eFs ad w id 0 fs).set k (.long x) = eFs ad (eU2 w id k x) id 0 fs := by
  apply List.ext_getElem?
  intro j
  have hl : k < fs.length := (List.getElem?_eq_some_iff.mp hf).1
  have hlen : ∀ (r : List (Nat × Nat)) (i : Nat), (eFs ad w id i r).length = r.length := by
    intro r
    induction r with
    | nil => intro i; rfl
    | cons a r ih => intro i; simp [eFs, ih]
  by_cases hj : j = k
  · subst hj
    rw [List.getElem?_set_self (by rw [hlen]; exact hl), eFs_get, hf]
    simp only [Option.map_some, Nat.zero_add, hx]
  · rw [List.getElem?_set_ne (Ne.symm hj), eFs_get, eFs_get]
    cases hs : fs[j]? with
    | none => rfl
    | some g =>
      simp only [Option.map_some, Nat.zero_add]
      unfold eFv
      rw [eU2_at, if_pos rfl, if_neg hj]
      rfl
theorem eC_cat (ad : Nat → Nat) (v : Value) : (eC ad v).category = v.category := by cases v <;> rfl
theorem eCat_map (ad : Nat → Nat) : ∀ st : List Value, ((st.map (eC ad)).map fun v => v.category).sum = eCat st
  | [] => rfl
  | v :: r => by simp only [List.map_cons, List.sum_cons, eCat, eC_cat, eCat_map ad r]
/-- the locals as pairs -/
def eLv (ad : Nat → Nat) (L : eL) : List (Nat × Value) := (List.range L.length).filterMap (fun i => match L[i]? with
  | some (some v) => some (i, eC ad v)
  | _ => none)
theorem eLv_mem {ad : Nat → Nat} {L : eL} {q : Nat × Value} : q ∈ eLv ad L ↔ ∃ v, L[q.1]? = some (some v) ∧ q.2 = eC ad v := by
  unfold eLv
  rw [List.mem_filterMap]
  constructor
  · rintro ⟨i, -, h⟩
    split at h
    · rename_i v hv
      cases h
      exact ⟨v, hv, rfl⟩
    · cases h
  · rintro ⟨v, hv, h2⟩
    refine ⟨q.1, List.mem_range.mpr (List.getElem?_eq_some_iff.mp hv).1, ?_⟩
    rw [hv]
    simp only [← h2]
theorem eAL.has {ad : Nat → Nat} {ls : Array Slot} {nL : Nat} {L : eL} (h : eAL ad ls nL L) : lv_has ls nL (eLv ad L) := ⟨h.1, h.2.1, fun q hq => by
  obtain ⟨v, h1, h2⟩ := eLv_mem.mp hq
  rw [h2]
  exact h.2.2 _ _ h1⟩
theorem eLd_some {L : eL} {i : Nat} {v : Value} : eLd L i = some v ↔ L[i]? = some (some v) := by
  unfold eLd
  split
  · rename_i u hu
    rw [hu]
    simp
  · rename_i hn
    constructor
    · intro h; cases h
    · intro h; exact absurd h (hn v)
theorem eSt1_get {L : eL} {i : Nat} {v : Value} {j : Nat} {u : Value} (h : (eSt1 L i v)[j]? = some (some u)) : (j = i ∧ u = v) ∨ (j ≠ i ∧ L[j]? = some (some u) ∧ ¬ (j + 1 = i ∧ u.category = 2)) := by
  have hset : ∀ {L : eL} {i : Nat} {j : Nat} {a : Option Value} {u : Value}, (L.set i a)[j]? = some (some u) → (j = i ∧ a = some u) ∨ (j ≠ i ∧ L[j]? = some (some u)) := by
    intro L i j a u h
    by_cases hj : j = i
    · subst hj
      rw [List.getElem?_set] at h
      simp only [if_true] at h
      split at h
      · exact Or.inl ⟨rfl, Option.some.inj h⟩
      · cases h
    · rw [List.getElem?_set_ne (Ne.symm hj)] at h
      exact Or.inr ⟨hj, h⟩
  cases i with
  | zero =>
    simp only [eSt1] at h
    rcases hset h with ⟨h1, h2⟩ | ⟨h1, h2⟩
    · exact Or.inl ⟨h1, (Option.some.inj h2).symm⟩
    · exact Or.inr ⟨h1, h2, fun z => by omega⟩
  | succ i =>
    simp only [eSt1] at h
    split at h
    · rcases hset h with ⟨h1, h2⟩ | ⟨h1, h2⟩
      · cases h2
      · rcases hset h2 with ⟨h3, h4⟩ | ⟨h3, h4⟩
        · exact Or.inl ⟨h3, (Option.some.inj h4).symm⟩
        · exact Or.inr ⟨h3, h4, fun z => h1 (by omega)⟩
    · rcases hset h with ⟨h1, h2⟩ | ⟨h1, h2⟩
      · cases h2
      · rcases hset h2 with ⟨h3, h4⟩ | ⟨h3, h4⟩
        · exact Or.inl ⟨h3, (Option.some.inj h4).symm⟩
        · exact Or.inr ⟨h3, h4, fun z => h1 (by omega)⟩
    · rename_i hn1 hn2
      rcases hset h with ⟨h1, h2⟩ | ⟨h1, h2⟩
      · exact Or.inl ⟨h1, (Option.some.inj h2).symm⟩
      · refine Or.inr ⟨h1, h2, fun z => ?_⟩
        have hji : j = i := by omega
        subst hji
        have h5 := eLd_some.mpr h2
        cases u with
        | long x => exact hn1 x h5
        | double x => exact hn2 x h5
        | _ => exact absurd z.2 (by simp [Value.category])
theorem eAL.st1 {ad : Nat → Nat} {ls' : Array Slot} {nL : Nat} {L : eL} {i : Nat} {v : Value} (h : lv_has ls' nL ((i, eC ad v) :: (eLv ad L).filter (fun q => !(q.1 == i) && !(q.1 + 1 == i && q.2.category == 2)))) : eAL ad ls' nL (eSt1 L i v) := by
  refine ⟨h.1, h.2.1, fun j u hj => ?_⟩
  rcases eSt1_get hj with ⟨rfl, rfl⟩ | ⟨h1, h2, h3⟩
  · exact h.2.2 _ List.mem_cons_self
  · refine h.2.2 (j, eC ad u) (List.mem_cons_of_mem _ (List.mem_filter.mpr ⟨eLv_mem.mpr ⟨u, h2, rfl⟩, ?_⟩))
    have hc := eC_cat ad u
    by_cases hz : j + 1 = i
    · have h4 : ¬ u.category = 2 := fun z => h3 ⟨hz, z⟩
      simp [h1, hc, h4]
    · simp [h1, hz]
theorem eAL.st2 {ad : Nat → Nat} {ls' : Array Slot} {nL : Nat} {L : eL} {i : Nat} {v : Value} (h : lv_has ls' nL ((i, eC ad v) :: (eLv ad L).filter (fun q => !(q.1 == i) && (!(q.1 == i + 1) && !(q.1 + 1 == i && q.2.category == 2))))) : eAL ad ls' nL (eSt2 L i v) := by
  refine ⟨h.1, h.2.1, fun j u hj => ?_⟩
  unfold eSt2 at hj
  have hj2 : j ≠ i + 1 ∧ (eSt1 L i v)[j]? = some (some u) := by
    by_cases hz : j = i + 1
    · subst hz
      rw [List.getElem?_set] at hj
      simp only [if_true] at hj
      split at hj <;> cases hj
    · rw [List.getElem?_set_ne (Ne.symm hz)] at hj
      exact ⟨hz, hj⟩
  obtain ⟨hne, hj⟩ := hj2
  rcases eSt1_get hj with ⟨rfl, rfl⟩ | ⟨h1, h2, h3⟩
  · exact h.2.2 _ List.mem_cons_self
  · refine h.2.2 (j, eC ad u) (List.mem_cons_of_mem _ (List.mem_filter.mpr ⟨eLv_mem.mpr ⟨u, h2, rfl⟩, ?_⟩))
    have hc := eC_cat ad u
    by_cases hz : j + 1 = i
    · have h4 : ¬ u.category = 2 := fun z => h3 ⟨hz, z⟩
      simp [h1, hne, hc, h4]
    · simp [h1, hne, hz]
theorem eTo_some {pc : Nat} {off : Int} {t : Nat} (h : eTo pc off = some t) : (pc : Int) + off = (t : Int) := by
  unfold eTo at h
  split at h
  · cases h
    simp
  · cases hb : Nat.ble (_ + 1) pc with
    | false => rw [hb] at h; cases h
    | true =>
      rw [hb] at h
      have := Nat.le_of_ble_eq_true hb
      cases h
      omega
theorem eArgs_spec : ∀ (n : Nat) (acc st as rest : List Value), eArgs n acc st = some (as, rest) → ∃ b : List Value, b.length = n ∧ as = b ++ acc ∧ st = b.reverse ++ rest
  | 0, acc, st, as, rest, h => by
    cases h
    exact ⟨[], rfl, rfl, rfl⟩
  | n + 1, acc, [], as, rest, h => by cases h
  | n + 1, acc, v :: st, as, rest, h => by
    obtain ⟨b, h1, h2, h3⟩ := eArgs_spec n (v :: acc) st as rest h
    exact ⟨b ++ [v], by simp [h1], by simp [h2], by simp [h3]⟩
def eKT (z : Int) : FieldType := match z with
  | .ofNat 0 => .int
  | .ofNat 1 => .long
  | _ => .boolean
/-- of a table of links: what each entry says -/
def eLnk (R : Room) (cl : List vw_C) (Ts : List Cond) (SS : List eS) (n : Nat) (own : String) (ix : Nat) (r : eR) : Prop := match r with
  | (0, ci, k, z) => ∃ (C : String) (T : u_T) (N : Nat) (ty0 : Nat → FieldType), cl[ci]? = some (C, T, N) ∧ k < N ∧ (z = 2 ∨ ((T k).2.2.2 = false ∧ parseFieldDescriptor (T k).2.2.1 = some (eKT z))) ∧ (∀ w ∈ u_ws C T N, w ∈ Ts) ∧ (∀ k, k < N → parseFieldDescriptor (T k).2.2.1 = some (ty0 k)) ∧ (∀ a, a < N → ∀ b, b < N → a ≠ b → (T a).2.1 ≠ (T b).2.1) ∧ Cond.fieldLink own ix (T k).1 (T k).2.1 (T k).2.2.1 ∈ Ts
  | (2, _, _, z) => Cond.constant own ix (Int32.ofInt z) ∈ Ts
  | (3, _, _, z) => Cond.constantLong own ix (Int64.ofInt z) ∈ Ts
  | (4, z, _, _) => Cond.constantDouble own ix (UInt64.ofNat z) ∈ Ts
  | (5, z, _, _) => Cond.constantFloat own ix (UInt32.ofNat z) ∈ Ts
  | (7, id, _, _) => ∃ (k : Nat) (q : eS), id = n + k ∧ SS[k]? = some q ∧ q.1 ≠ "" ∧ Cond.fieldLink own ix q.1 q.2.1 q.2.2.1 ∈ Ts
  | (6, 0, _, _) => 1 ≤ R.frames ∧ 60 ≤ R.locals ∧ Cond.methodLink own ix Lib.Math.max.name ∈ Ts ∧ Cond.static Lib.Math.max.name ∈ Ts ∧ Cond.initialized "java/lang/Math" ∈ Ts ∧ Cond.code Lib.Math.max.name Lib.Math.max.code 2 (some .int) ∈ Ts
  | (6, 1, _, _) => 1 ≤ R.frames ∧ 60 ≤ R.locals ∧ Cond.methodLink own ix Lib.Math.min.name ∈ Ts ∧ Cond.static Lib.Math.min.name ∈ Ts ∧ Cond.initialized "java/lang/Math" ∈ Ts ∧ Cond.code Lib.Math.min.name Lib.Math.min.code 2 (some .int) ∈ Ts
  | (6, 2, _, _) => 1 ≤ R.frames ∧ 60 ≤ R.locals ∧ Cond.methodLink own ix Lib.MathLoose.max_long.x ∈ Ts ∧ Cond.static Lib.MathLoose.max_long.x ∈ Ts ∧ Cond.initialized "java/lang/Math" ∈ Ts ∧ Cond.code Lib.MathLoose.max_long.x Lib.MathLoose.max_long.code 4 (some .long) ∈ Ts
  | (6, 3, _, _) => 1 ≤ R.frames ∧ 60 ≤ R.locals ∧ Cond.methodLink own ix arraycopyName ∈ Ts ∧ Cond.native arraycopyName ∈ Ts ∧ Cond.static arraycopyName ∈ Ts ∧ Cond.initialized "java/lang/System" ∈ Ts
  | _ => True
end
section
section EGO
variable {p : Program} {l : Launch} {e : Env} {R : Room} {s : State} {m : MethodId} {args : Array Value} {below : List Frame} {meth : Method} {c : Code} {cc : ByteArray} {own : String} {nL : Nat} {ad : Nat → Nat} {D : va_G} {cA : Nat → ClassId} {cl : List vw_C} {SH : List eSh} {SS : List eS} {Ts : List Cond}
def eGo (p : Program) (l : Launch) (e : Env) (R : Room) (s : State) (m : MethodId) (args : Array Value) (below : List Frame) (meth : Method) (c : Code) (nL : Nat) (ad : Nat → Nat) (D : va_G) (cA : Nat → ClassId) (cl : List vw_C) (SH : List eSh) (cells slots : Nat) (Q : State → Prop) (pc : Nat) (L : eL) (st : List Value) (w : eW) : Prop :=
  ∀ (H : Heap) (locs : List Loc) (ls : Array Slot), va_P D cl (eWs ad cA w 0 SH) H → va_S (eA ad SH.length) s.heap H locs → eAL ad ls nL L → W p l e R s m args below meth c H locs cells slots Q (F0 m pc ls (st.map (eC ad)))
/-- what a walk of a method stands on -/
def eCx (p : Program) (R : Room) (s : State) (m : MethodId) (args : Array Value) (meth : Method) (c : Code) (cc : ByteArray) (own : String) (nL : Nat) (ad : Nat → Nat) (D : va_G) (cA : Nat → ClassId) (cl : List vw_C) (SH : List eSh) (SS : List eS) (Ts : List Cond) (ret : Option FieldType) : Prop :=
  p.tables.exec = Jvm.exec ∧ c.code = cc ∧ meth.sig.returnType = ret ∧ meth.locks = false ∧ s.vm.findClass own = some m.cls ∧ c.maxLocals = nL ∧ (∀ w ∈ Ts, w.before args s = true) ∧ va_K D cl (eTys cA) s ∧ eInj ad SH.length ∧ eStat ad SH.length SS s
variable {ρ : Type} {cells slots : Nat} {Q : State → Prop}
theorem eGo.wk {pc : Nat} {L L' : eL} {st : List Value} {w : eW} (h : eGo p l e R s m args below meth c nL ad D cA cl SH cells slots Q pc L st w) (hl : ∀ (i : Nat) (v : Value), L[i]? = some (some v) → L'[i]? = some (some v)) : eGo p l e R s m args below meth c nL ad D cA cl SH cells slots Q pc L' st w :=
  fun H locs ls hP hS hL => h H locs ls hP hS ⟨hL.1, hL.2.1, fun i v hi => hL.2.2 i v (hl i v hi)⟩
theorem lv_ldcwf {Qz : State → Prop} {cz sz : Nat} {H : Heap} {locs : List Loc} {pc : Nat} {ls : Array Slot} {rest : List Value} (hexec : p.tables.exec = Jvm.exec) (hb : c.code = cc) {own : String} {index : Nat} {v : UInt32} (hown : s.vm.findClass own = some m.cls) (hconst : (Jvm.Cond.constantFloat own index v).before args s = true) (hdg : decode cc pc = .ok (.ldc_w index, 3)) (k : W p l e R s m args below meth c H locs cz sz Qz (F0 m (pc + 3) ls (.float v :: rest))) : W p l e R s m args below meth c H locs cz sz Qz (F0 m pc ls rest) := by
  intro T hT X
  obtain ⟨t, a, b⟩ := k T hT X
  refine ⟨t, ?_, b⟩
  obtain ⟨k, cf, hk, hcf, hcp⟩ := Cond.constantFloat_spec hown hconst
  obtain ⟨k', hk', he⟩ := X.warmed.alike.2.2 _ _ hk
  jvm_step X.here [hexec, hb, hdg, ldc_w.wp_float (s := T) (f := F0 m pc ls rest) X.here.top hk' (by rw [he]; exact hcf) hcp]
  exact a
theorem eDec1 {i : Instr} {len n : Nat} {pc : Nat} (h : decode cc pc = .ok (i, len)) (hn : len = n) : decode cc pc = .ok (i, n) := hn ▸ h
set_option maxHeartbeats 4000000 in
theorem eAlu_go (hx : p.tables.exec = Jvm.exec) (hb : c.code = cc) {x : ρ} (i : Instr) (pc : Nat) (L : eL) (st : List Value) (w : eW) (k : List Value → Option ρ) (h : eAlu i st k = some x) (hdg : decode cc pc = .ok (i, eILen i))
    (hk : ∀ st', k st' = some x → eGo p l e R s m args below meth c nL ad D cA cl SH cells slots Q (pc + eILen i) L st' w) : eGo p l e R s m args below meth c nL ad D cA cl SH cells slots Q pc L st w := by
  intro H locs ls hP hS hL
  have kk : ∀ st', k st' = some x → W p l e R s m args below meth c H locs cells slots Q (F0 m (pc + eILen i) ls (st'.map (eC ad))) := fun st' h => hk st' h H locs ls hP hS hL
  cases i with
  | iconst n => exact lv_iconst hx hb hdg rfl (kk _ h)
  | bipush n => exact lv_bipush hx hb hdg rfl (kk _ h)
  | sipush n => exact lv_sipush hx hb hdg rfl (kk _ h)
  | lconst n => exact lv_lconst hx hb hdg rfl (kk _ h)
  | dconst n =>
    match n, h, hdg, kk with
    | 0, h, hdg, kk => exact lv_dconst0 hx hb hdg (kk _ h)
    | 1, h, hdg, kk => exact lv_dconst1 hx hb hdg (kk _ h)
  | fconst n =>
    match n, h, hdg, kk with
    | 0, h, hdg, kk => exact lv_fconst0 hx hb hdg (kk _ h)
    | 1, h, hdg, kk => exact lv_fconst1 hx hb hdg (kk _ h)
    | 2, h, hdg, kk => exact lv_fconst2 hx hb hdg (kk _ h)
  | iadd =>
    match st, h with
    | .int y :: .int x :: st, h => exact lv_iadd hx hb hdg (kk _ h)
  | isub =>
    match st, h with
    | .int y :: .int x :: st, h => exact lv_isub hx hb hdg (kk _ h)
  | imul =>
    match st, h with
    | .int y :: .int x :: st, h => exact lv_imul hx hb hdg (kk _ h)
  | iand =>
    match st, h with
    | .int y :: .int x :: st, h => exact lv_iand hx hb hdg (kk _ h)
  | ior =>
    match st, h with
    | .int y :: .int x :: st, h => exact lv_ior hx hb hdg (kk _ h)
  | ixor =>
    match st, h with
    | .int y :: .int x :: st, h => exact lv_ixor hx hb hdg (kk _ h)
  | idiv =>
    match st, h with
    | .int y :: .int x :: st, h =>
      have h : (if y = 0 then none else k (.int (x / y) :: st)) = some _ := h
      by_cases hy : y = 0
      · rw [if_pos hy] at h; cases h
      · rw [if_neg hy] at h
        exact lv_idiv hx hb hdg hy (kk _ h)
  | irem =>
    match st, h with
    | .int y :: .int x :: st, h =>
      have h : (if y = 0 then none else k (.int (x - x / y * y) :: st)) = some _ := h
      by_cases hy : y = 0
      · rw [if_pos hy] at h; cases h
      · rw [if_neg hy] at h
        exact lv_irem hx hb hdg hy (kk _ h)
  | ineg =>
    match st, h with
    | .int x :: st, h => exact lv_ineg hx hb hdg (kk _ h)
  | ishl =>
    match st, h with
    | .int y :: .int x :: st, h => exact lv_ishl hx hb hdg (kk _ h)
  | ishr =>
    match st, h with
    | .int y :: .int x :: st, h => exact lv_ishr hx hb hdg (kk _ h)
  | iushr =>
    match st, h with
    | .int y :: .int x :: st, h => exact lv_iushr hx hb hdg rfl (kk _ h)
  | i2l =>
    match st, h with
    | .int x :: st, h => exact lv_i2l hx hb hdg rfl (kk _ h)
  | i2b =>
    match st, h with
    | .int x :: st, h => exact lv_i2b hx hb hdg rfl (kk _ h)
  | i2d =>
    match st, h with
    | .int x :: st, h => exact lv_i2d hx hb hdg (kk _ h)
  | i2f =>
    match st, h with
    | .int x :: st, h => exact lv_i2f hx hb hdg (kk _ h)
  | l2i =>
    match st, h with
    | .long x :: st, h => exact lv_l2i hx hb hdg rfl (kk _ h)
  | l2d =>
    match st, h with
    | .long x :: st, h => exact lv_l2d hx hb hdg (kk _ h)
  | l2f =>
    match st, h with
    | .long x :: st, h => exact lv_l2f hx hb hdg (kk _ h)
  | d2l =>
    match st, h with
    | .double x :: st, h => exact lv_d2l hx hb hdg (kk _ h)
  | f2i =>
    match st, h with
    | .float x :: st, h => exact lv_f2i hx hb hdg (kk _ h)
  | ladd =>
    match st, h with
    | .long y :: .long x :: st, h => exact lv_ladd hx hb hdg (kk _ h)
  | lsub =>
    match st, h with
    | .long y :: .long x :: st, h => exact lv_lsub hx hb hdg (kk _ h)
  | lmul =>
    match st, h with
    | .long y :: .long x :: st, h => exact lv_lmul hx hb hdg (kk _ h)
  | lor =>
    match st, h with
    | .long y :: .long x :: st, h => exact lv_lor hx hb hdg (kk _ h)
  | ldiv =>
    match st, h with
    | .long y :: .long x :: st, h =>
      have h : (if y = 0 then none else k (.long (x / y) :: st)) = some _ := h
      by_cases hy : y = 0
      · rw [if_pos hy] at h; cases h
      · rw [if_neg hy] at h
        exact lv_ldiv hx hb hdg hy (kk _ h)
  | lrem =>
    match st, h with
    | .long y :: .long x :: st, h =>
      have h : (if y = 0 then none else k (.long (x - x / y * y) :: st)) = some _ := h
      by_cases hy : y = 0
      · rw [if_pos hy] at h; cases h
      · rw [if_neg hy] at h
        exact lv_lrem hx hb hdg hy (kk _ h)
  | lneg =>
    match st, h with
    | .long x :: st, h => exact lv_lneg hx hb hdg (kk _ h)
  | lshl =>
    match st, h with
    | .int y :: .long x :: st, h => exact lv_lshl hx hb hdg rfl (kk _ h)
  | lcmp =>
    match st, h with
    | .long y :: .long x :: st, h => exact W.lcmp hx hb hdg (kk _ h)
  | dcmp op =>
    match st, h with
    | .double y :: .double x :: st, h => exact lv_dcmp hx hb hdg (kk _ h)
  | fcmp op =>
    match st, h with
    | .float y :: .float x :: st, h => exact lv_fcmp hx hb hdg (kk _ h)
  | dadd =>
    match st, h with
    | .double y :: .double x :: st, h =>
      have h : (if FP.dadd x y &&& 0x7fffffffffffffff ≤ 0x7ff0000000000000 then k (.double (FP.dadd x y) :: st) else none) = some _ := h
      by_cases hy : FP.dadd x y &&& 0x7fffffffffffffff ≤ 0x7ff0000000000000
      · rw [if_pos hy] at h
        exact lv_dadd hx hb hdg hy (kk _ h)
      · rw [if_neg hy] at h; cases h
  | dsub =>
    match st, h with
    | .double y :: .double x :: st, h =>
      have h : (if FP.dsub x y &&& 0x7fffffffffffffff ≤ 0x7ff0000000000000 then k (.double (FP.dsub x y) :: st) else none) = some _ := h
      by_cases hy : FP.dsub x y &&& 0x7fffffffffffffff ≤ 0x7ff0000000000000
      · rw [if_pos hy] at h
        exact lv_dsub hx hb hdg hy (kk _ h)
      · rw [if_neg hy] at h; cases h
  | dmul =>
    match st, h with
    | .double y :: .double x :: st, h =>
      have h : (if FP.dmul x y &&& 0x7fffffffffffffff ≤ 0x7ff0000000000000 then k (.double (FP.dmul x y) :: st) else none) = some _ := h
      by_cases hy : FP.dmul x y &&& 0x7fffffffffffffff ≤ 0x7ff0000000000000
      · rw [if_pos hy] at h
        exact lv_dmul hx hb hdg hy (kk _ h)
      · rw [if_neg hy] at h; cases h
  | ddiv =>
    match st, h with
    | .double y :: .double x :: st, h =>
      have h : (if FP.ddiv x y &&& 0x7fffffffffffffff ≤ 0x7ff0000000000000 then k (.double (FP.ddiv x y) :: st) else none) = some _ := h
      by_cases hy : FP.ddiv x y &&& 0x7fffffffffffffff ≤ 0x7ff0000000000000
      · rw [if_pos hy] at h
        exact lv_ddiv hx hb hdg hy (kk _ h)
      · rw [if_neg hy] at h; cases h
  | fsub =>
    match st, h with
    | .float y :: .float x :: st, h =>
      have h : (if FP.fsub x y &&& 0x7fffffff ≤ 0x7f800000 then k (.float (FP.fsub x y) :: st) else none) = some _ := h
      by_cases hy : FP.fsub x y &&& 0x7fffffff ≤ 0x7f800000
      · rw [if_pos hy] at h
        exact lv_fsub hx hb hdg hy (kk _ h)
      · rw [if_neg hy] at h; cases h
  | fmul =>
    match st, h with
    | .float y :: .float x :: st, h =>
      have h : (if FP.fmul x y &&& 0x7fffffff ≤ 0x7f800000 then k (.float (FP.fmul x y) :: st) else none) = some _ := h
      by_cases hy : FP.fmul x y &&& 0x7fffffff ≤ 0x7f800000
      · rw [if_pos hy] at h
        exact lv_fmul hx hb hdg hy (kk _ h)
      · rw [if_neg hy] at h; cases h
  | fdiv =>
    match st, h with
    | .float y :: .float x :: st, h =>
      have h : (if FP.fdiv x y &&& 0x7fffffff ≤ 0x7f800000 then k (.float (FP.fdiv x y) :: st) else none) = some _ := h
      by_cases hy : FP.fdiv x y &&& 0x7fffffff ≤ 0x7f800000
      · rw [if_pos hy] at h
        exact lv_fdiv hx hb hdg hy (kk _ h)
      · rw [if_neg hy] at h; cases h
  | dup =>
    match st, h with
    | .int x :: st, h => exact lv_dup hx hb hdg rfl (kk _ h)
    | .ref x :: st, h => exact lv_dup hx hb hdg rfl (kk _ h)
  | dup2 =>
    match st, h with
    | .int x :: .ref y :: st, h => exact lv_dup2_11 hx hb hdg rfl rfl (kk _ h)
  | pop =>
    match st, h with
    | .int x :: st, h => exact lv_pop hx hb hdg rfl (kk _ h)
  | _ => exact absurd h (fun z => by cases z)
end EGO
end
section
section EST
variable {p : Program} {l : Launch} {e : Env} {R : Room} {s : State} {m : MethodId} {args : Array Value} {below : List Frame} {meth : Method} {c : Code} {cc : ByteArray} {own : String} {nL : Nat} {ad : Nat → Nat} {D : va_G} {cA : Nat → ClassId} {cl : List vw_C} {SH : List eSh} {SS : List eS} {Ts : List Cond} {ret : Option FieldType}
def eWorld (ad : Nat → Nat) (D : va_G) (cA : Nat → ClassId) (cl : List vw_C) (SH : List eSh) (SS : List eS) (w : eW) (U : State) : Prop := va_P D cl (eWs ad cA w 0 SH) U.heap ∧ va_K D cl (eTys cA) U ∧ eInj ad SH.length ∧ eStat ad SH.length SS U
def ePost (ad : Nat → Nat) (D : va_G) (cA : Nat → ClassId) (cl : List vw_C) (SH : List eSh) (v : Option Value) (w' : eW) : Array Value → State → Outcome → State → Prop := fun _ st oc t => oc = .returned (v.map (eC ad)) ∧ va_P D cl (eWs ad cA w' 0 SH) t.heap ∧ va_F (eA ad SH.length) st t
def eMet (l : Launch) (ad : Nat → Nat) (D : va_G) (cA : Nat → ClassId) (cl : List vw_C) (SH : List eSh) (SS : List eS) (y : MethodName) (ws : List Cond) (rm : Room) (as : List Value) (w : eW) (v : Option Value) (w' : eW) : Prop := Met l y ws rm (va_Pc (as.map (eC ad)) (eWorld ad D cA cl SH SS w)) (ePost ad D cA cl SH v w') 0 0 (eA ad SH.length)
/-- a call's words and room, its callee's contract -/
def eCal (l : Launch) (R : Room) (ad : Nat → Nat) (D : va_G) (cA : Nat → ClassId) (cl : List vw_C) (SH : List eSh) (SS : List eS) (Ts : List Cond) (own : String) (ix n : Nat) (z : Int) (as : List Value) (w : eW) (v : Option Value) (w' : eW) : Prop :=
  ∃ (y : MethodName) (bytes : ByteArray) (maxL : Nat) (ret : Option FieldType) (ws ws' : List Cond) (rm : Room), eMet l ad D cA cl SH SS y ws rm as w v w' ∧ ws = Cond.code y bytes maxL ret :: ws' ∧ rm.cells = 0 ∧ rm.slots = 0 ∧ (rm.frames + 1 ≤ R.frames ∧ 8 + (maxL + 11) + rm.locals ≤ R.locals) ∧ (y.cls ≠ "java/lang/invoke/MethodHandle" ∧ y.cls ≠ "java/lang/invoke/VarHandle" ∧ (parseMethodDescriptor y.desc).map (fun d => d.parameters.length) = some n) ∧ (match z with
    | .negSucc _ => GoodIn Ts (va_wsS own ix y ws)
    | .ofNat ci => GoodIn Ts (wsV own ix y.cls y ws) ∧ ∃ (T : u_T) (N : Nat), cl[ci]? = some (y.cls, T, N))
theorem eStat.moved {n : Nat} {u U : State} (h : eStat ad n SS u) (hvm : u.vm.Alike U.vm) (hq : ∀ a : Nat, a < u.heap.size → ¬ eA ad n a → U.heap[a]? = u.heap[a]?) : eStat ad n SS U := fun k q hk => ⟨(h k q hk).1.imp id (fun z => (z.moved hvm).kept hq), ((h k q hk).2.moved hvm).kept hq⟩
theorem eWorld.blind {as : List Value} {w : eW} : FrameBlind (va_Pc (as.map (eC ad)) (eWorld ad D cA cl SH SS w)) := by
  intro a U g mk h
  obtain ⟨h1, h2, h3, h4, h5⟩ := h
  exact ⟨h1, h2, va_K.moved (u := U) (U := U.calling g mk a) (Vm.Alike.refl U.vm) h3, h4, eStat.moved (u := U) (U := U.calling g mk a) h5 (Vm.Alike.refl U.vm) (fun _ _ _ => rfl)⟩
theorem eWorld.pre {as : List Value} {w : eW} {H : Heap} {locs : List Loc} (hK : va_K D cl (eTys cA) s) (hi : eInj ad SH.length) (hst : eStat ad SH.length SS s) (hP : va_P D cl (eWs ad cA w 0 SH) H) (hS : va_S (eA ad SH.length) s.heap H locs) : ∀ U : State, U.heap = H → s.WarmedH U.vm → va_Pc (as.map (eC ad)) (eWorld ad D cA cl SH SS w) (as.map (eC ad)).toArray U := fun U hU hW => ⟨rfl, by rw [hU]; exact hP, va_K.moved hW.alike hK, hi, eStat.moved hst hW.alike (fun a h1 h2 => by rw [hU]; exact hS.2.1 a h1 h2)⟩
theorem eCall_W {cells slots : Nat} {Q : State → Prop} {H : Heap} {locs : List Loc} {pc : Nat} {ls : Array Slot} {st0 rest : List Value} {a : Array Value} {v : Option Value} {w' : eW} (hr : va_Run p l e R s m args below meth c H locs cells slots 0 0 (F0 m pc ls st0) rest (ePost ad D cA cl SH v w' a) (eA ad SH.length)) (hS : va_S (eA ad SH.length) s.heap H locs)
    (kk : ∀ (H1 : Heap) (locs1 : List Loc), va_P D cl (eWs ad cA w' 0 SH) H1 → va_S (eA ad SH.length) s.heap H1 locs1 → W p l e R s m args below meth c H1 locs1 cells slots Q (F0 m (pc + 3) ls ((v.map (eC ad)).toList ++ rest))) : W p l e R s m args below meth c H locs cells slots Q (F0 m pc ls st0) := by
  intro T hT X
  obtain ⟨v1, st₀, t, T', L, h0, X', hL, e1, e2, ⟨hv, hp, hz, hk⟩, st⟩ := hr T hT X
  cases hv
  rw [h0] at hz hk
  obtain ⟨t2, a1, b1⟩ := kk T'.heap (locs ++ L) (by rw [e1]; exact hp)
    ⟨Nat.le_trans hS.1 (by rw [e1]; exact hz), fun q h1 h2 => by rw [e1, hk q (Nat.lt_of_lt_of_le h1 hS.1) h2]; exact hS.2.1 q h1 h2, fun q hq => by
      rcases List.mem_append.mp hq with h | h
      · exact hS.2.2 q h
      · exact hL q h⟩ T' rfl X'
  exact ⟨t2, st t2 a1, b1⟩
theorem eFv_C (w : eW) (o k : Nat) (f : Nat × Nat) : eC ad (eFv (fun a => a) w o k f) = eFv ad w o k f := by
  unfold eFv
  split <;> rfl
theorem eToList (v : Option Value) (st : List Value) : (v.toList ++ st).map (eC ad) = (v.map (eC ad)).toList ++ st.map (eC ad) := by cases v <;> simp
/-- what a method's answer is by its type -/
def eRet (ret : Option FieldType) (v : Option Value) : Prop := match v with
  | none => ret = none
  | some (.int r) => ret = some .int ∨ (ret = some .boolean ∧ (r = 0 ∨ r = 1))
  | some (.long _) => ret = some .long
  | some (.double _) => ret = some .double
  | some (.float _) => ret = some .float
  | some (.ref _) => ∃ t, ret = some (.array t)
  | _ => False
def eQ {ρ : Type} (ad : Nat → Nat) (D : va_G) (cA : Nat → ClassId) (cl : List vw_C) (SH : List eSh) (rt : Option Value → eW → Option ρ) (x : ρ) : Array Value → State → Outcome → State → Prop := fun a st oc t => ∃ (v : Option Value) (w' : eW), rt v w' = some x ∧ ePost ad D cA cl SH v w' a st oc t
theorem eBr_go {ρ : Type} {x : ρ} {k : Nat → Option ρ} {pc : Nat} {off : Int} {cnd : Prop} {d : Decidable cnd} (h : eBr k pc off cnd d = some x) : ∃ t : Nat, (pc : Int) + off = (t : Int) ∧ (cnd → k t = some x) ∧ (¬ cnd → k (pc + 3) = some x) := by
  unfold eBr at h
  split at h
  · rename_i t ht
    refine ⟨t, eTo_some ht, fun hc => ?_, fun hc => ?_⟩
    · rw [if_pos hc] at h; exact h
    · rw [if_neg hc] at h; exact h
  · cases h
theorem eSw_go {ρ : Type} {x : ρ} {k : Nat → Option ρ} {pc : Nat} {v : Int32} {dflt : Int} : ∀ (os : List Int) (lo : Int), -2147483648 ≤ lo → lo + os.length ≤ 2147483648 → eSw k pc v dflt lo os = some x → (∃ (j : Nat) (o : Int) (t : Nat), os[j]? = some o ∧ v.toInt = lo + j ∧ (pc : Int) + o = (t : Int) ∧ k t = some x) ∨ ((v.toInt < lo ∨ lo + os.length ≤ v.toInt) ∧ ∃ t : Nat, (pc : Int) + dflt = (t : Int) ∧ k t = some x)
  | [], lo, _, _, h => by
    refine Or.inr ⟨by simp; omega, ?_⟩
    unfold eSw at h
    split at h
    · rename_i t ht
      exact ⟨t, eTo_some ht, h⟩
    · cases h
  | o :: os, lo, h1, h2, h => by
    simp only [List.length_cons, Int.natCast_add, Int.cast_ofNat_Int] at h2
    unfold eSw at h
    by_cases hv : v = Int32.ofInt lo
    · rw [if_pos hv] at h
      split at h
      · rename_i t ht
        refine Or.inl ⟨0, o, t, rfl, ?_, eTo_some ht, h⟩
        rw [hv, Int32.toInt_ofInt_of_le (by omega) (by omega)]
        simp
      · cases h
    · rw [if_neg hv] at h
      have hne : v.toInt ≠ lo := fun z => hv (by rw [← z, Int32.ofInt_toInt])
      rcases eSw_go os (lo + 1) (by omega) (by omega) h with ⟨j, o2, t, a1, a2, a3, a4⟩ | ⟨a1, a2⟩
      · exact Or.inl ⟨j + 1, o2, t, by simpa using a1, by rw [a2]; simp; omega, a3, a4⟩
      · refine Or.inr ⟨?_, a2⟩
        simp only [List.length_cons, Int.natCast_add, Int.cast_ofNat_Int]
        omega
theorem eChk_go {ρ : Type} {x : ρ} {i : Int32} {n : Nat} {v : Option ρ} (h : eChk i n v = some x) : vp_in i n ∧ v = some x := by
  unfold eChk at h
  split at h
  · rename_i hi
    exact ⟨hi, h⟩
  · cases h
theorem eBif {ρ : Type} {x : ρ} {b : Bool} {v : Option ρ} (h : (bif b then v else none) = some x) : b = true ∧ v = some x := by
  cases b with
  | true => exact ⟨rfl, h⟩
  | false => cases h
theorem eTys_1 : (eTys cA)[0]? = some (cA 0, .int) := rfl
end EST
end
section
section EWK
variable {p : Program} {l : Launch} {e : Env} {R : Room} {s : State} {m : MethodId} {args : Array Value} {below : List Frame} {meth : Method} {c : Code} {cc : ByteArray} {own : String} {nL : Nat} {ad : Nat → Nat} {D : va_G} {cA : Nat → ClassId} {cl : List vw_C} {SH : List eSh} {SS : List eS} {Ts : List Cond} {ret : Option FieldType}
variable {cells slots : Nat} {Q : State → Prop}
variable {ρ : Type} {rs : List (Nat × eR)} {calls : Nat → eF ρ} {rt : Option Value → eW → Option ρ} {x : ρ}
theorem e_upd (w : eW) (o j : Nat) (v : Int32) : (eU1 w o j v).1 o = upd (w.1 o) j v := by
  funext b
  rw [eU1_at, if_pos rfl]
  rfl
theorem e_updL (w : eW) (o j : Nat) (v : Int64) : (eU2 w o j v).2 o = vp_updL (w.2 o) j v := by
  funext b
  rw [eU2_at, if_pos rfl]
  rfl
theorem eFs_len (ad : Nat → Nat) (w : eW) (id : Nat) : ∀ (r : List (Nat × Nat)) (i : Nat), (eFs ad w id i r).length = r.length
  | [], _ => rfl
  | a :: r, i => by simp [eFs, eFs_len ad w id r (i + 1)]
abbrev eGq (p : Program) (l : Launch) (e : Env) (R : Room) (s : State) (m : MethodId) (args : Array Value) (below : List Frame) (meth : Method) (c : Code) (nL : Nat) (ad : Nat → Nat) (D : va_G) (cA : Nat → ClassId) (cl : List vw_C) (SH : List eSh) (rt : Option Value → eW → Option ρ) (x : ρ) : Nat → eL → List Value → eW → Prop := eGo p l e R s m args below meth c nL ad D cA cl SH 0 0 (MQ below (eQ ad D cA cl SH rt x) args s 0 0 (eA ad SH.length))
theorem eRets (hcx : eCx p R s m args meth c cc own nL ad D cA cl SH SS Ts ret) (hrt : ∀ v w, rt v w = some x → eRet ret v) {v : Option Value} {w : eW} (h : rt v w = some x) {H : Heap} {locs : List Loc} (hP : va_P D cl (eWs ad cA w 0 SH) H) (hS : va_S (eA ad SH.length) s.heap H locs) : ∀ t : State, t.heap = H → s.WarmedH t.vm → eQ ad D cA cl SH rt x args s (.returned (v.map (eC ad))) t := fun t ht _ => ⟨v, w, h, rfl, by rw [ht]; exact hP, hS.F ht⟩
def eLenOK (i : Instr) (len : Nat) : Prop := match i with
  | .tableswitch _ lo hi offs => -2147483648 ≤ lo ∧ hi = lo + (offs.size : Int) - 1 ∧ lo + (offs.size : Int) ≤ 2147483648
  | i => len = eILen i
def eIsRet (i : Instr) (v : Option Value) : Prop := match i, v with
  | .ireturn, some (.int _) => True
  | .lreturn, some (.long _) => True
  | .dreturn, some (.double _) => True
  | .freturn, some (.float _) => True
  | .areturn, some (.ref _) => True
  | .return_, none => True
  | _, _ => False
theorem eRet_W (hcx : eCx p R s m args meth c cc own nL ad D cA cl SH SS Ts ret) (hrt : ∀ v w, rt v w = some x → eRet ret v) : ∀ (v : Option Value) (w : eW) (i : Instr) (pc : Nat) (H : Heap) (locs : List Loc) (ls : Array Slot), rt v w = some x → eIsRet i v → decode cc pc = .ok (i, 1) → va_P D cl (eWs ad cA w 0 SH) H → va_S (eA ad SH.length) s.heap H locs → W p l e R s m args below meth c H locs 0 0 (MQ below (eQ ad D cA cl SH rt x) args s 0 0 (eA ad SH.length)) (F0 m pc ls (v.toList.map (eC ad))) := by
  intro v w i pc H locs ls h hi hdg hP hS
  have hq := eRets hcx hrt h hP hS
  have ht := hrt _ _ h
  obtain ⟨hx, hb, hr, hlocks, hown, hml, hts, hK, hinj, hstat⟩ := id hcx
  unfold eIsRet at hi
  split at hi
  · rcases ht with h1 | ⟨h1, h2⟩
    · exact W.iret hx hb (hr.trans h1) hq hS.2.2 hdg
    · exact W.zret hx hb (hr.trans h1) (by rcases h2 with rfl | rfl <;> rfl) hq hS.2.2 hdg
  · exact W.lret hx hb (hr.trans ht) hq hS.2.2 hdg
  · exact W.dret hx hb (hr.trans ht) hq hS.2.2 hdg
  · exact W.fret hx hb (hr.trans ht) hq hS.2.2 hdg
  · rename_i a
    obtain ⟨t, ht⟩ := ht
    exact W.aret hx hb (hr.trans ht) (Or.inr ⟨t, rfl⟩) (Or.inr ⟨ad a, rfl⟩) hq hS.2.2 hdg
  · exact W.vret hx hb (hr.trans ht) hq hS.2.2 hdg
  · exact hi.elim
set_option maxHeartbeats 8000000 in
theorem eStep_go (hcx : eCx p R s m args meth c cc own nL ad D cA cl SH SS Ts ret) (hlk : ∀ ix r, eLook rs ix = some r → eLnk R cl Ts SS SH.length own ix r)
    (hcal : ∀ (ix a n : Nat) (z : Int), eLook rs ix = some (1, a, n, z) → ∀ (as : List Value) (w : eW) (k : Option Value → eW → Option ρ), calls a as w k = some x → ∃ (v : Option Value) (w' : eW), k v w' = some x ∧ eCal l R ad D cA cl SH SS Ts own ix n z as w v w')
    (hcs : cells ≤ R.cells ∧ slots ≤ R.slots) (hret : ∀ (v : Option Value) (w : eW) (i : Instr) (pc : Nat) (H : Heap) (locs : List Loc) (ls : Array Slot), rt v w = some x → eIsRet i v → decode cc pc = .ok (i, 1) → va_P D cl (eWs ad cA w 0 SH) H → va_S (eA ad SH.length) s.heap H locs → W p l e R s m args below meth c H locs cells slots Q (F0 m pc ls (v.toList.map (eC ad)))) (k : eK ρ) (hk : ∀ pc L st w, k pc L st w = some x → eGo p l e R s m args below meth c nL ad D cA cl SH cells slots Q pc L st w)
    (i : Instr) (pc len : Nat) (L : eL) (st : List Value) (w : eW) (h : eStep SH SS nL rs calls rt k i pc L st w = some x) (hdg : decode cc pc = .ok (i, len)) (hlen : eLenOK i len) : eGo p l e R s m args below meth c nL ad D cA cl SH cells slots Q pc L st w := by
  obtain ⟨hx, hb, hr, hlocks, hown, hml, hts, hK, hinj, hstat⟩ := id hcx
  cases i with
  | tableswitch d lo hi offs =>
    have hlo : -2147483648 ≤ lo ∧ hi = lo + (offs.size : Int) - 1 ∧ lo + (offs.size : Int) ≤ 2147483648 := hlen
    match st, h with
    | .int v :: st, h =>
      intro H locs ls hP hS hL
      have h : eSw (fun t => k t L st w) pc v d lo offs.toList = some x := h
      rcases eSw_go offs.toList lo hlo.1 (by simpa using hlo.2.2) h with ⟨j, o, t, a1, a2, a3, a4⟩ | ⟨a1, t, a3, a4⟩
      · have hj : j < offs.toList.length := (List.getElem?_eq_some_iff.mp a1).1
        simp only [Array.length_toList] at hj
        exact lv_tableIn hx hb hdg (by omega) (by omega) (by rw [show (v.toInt - lo).toNat = j by omega, ← Array.getElem?_toList]; exact a1) a3 (hk _ _ _ _ a4 H locs ls hP hS hL)
      · simp only [Array.length_toList] at a1
        exact lv_tableOut hx hb hdg (by omega) a3 (hk _ _ _ _ a4 H locs ls hP hS hL)
  | iload n =>
    have hdg := eDec1 hdg hlen
    have h : (match eLd L n with
      | some (.int v) => k (pc + 2) L (.int v :: st) w
      | _ => none) = some x := h
    split at h
    · rename_i v hv
      exact fun H locs ls hP hS hL => lv_iload hx hb hdg (hL.2.2 _ _ (eLd_some.mp hv)) (hk _ _ _ _ h H locs ls hP hS hL)
    · cases h
  | iload_n n =>
    have hdg := eDec1 hdg hlen
    have h : (match eLd L n with
      | some (.int v) => k (pc + 1) L (.int v :: st) w
      | _ => none) = some x := h
    split at h
    · rename_i v hv
      exact fun H locs ls hP hS hL => lv_iload_n hx hb hdg rfl (hL.2.2 _ _ (eLd_some.mp hv)) (hk _ _ _ _ h H locs ls hP hS hL)
    · cases h
  | lload n =>
    have hdg := eDec1 hdg hlen
    have h : (match eLd L n with
      | some (.long v) => k (pc + 2) L (.long v :: st) w
      | _ => none) = some x := h
    split at h
    · rename_i v hv
      exact fun H locs ls hP hS hL => lv_lload hx hb hdg (hL.2.2 _ _ (eLd_some.mp hv)) (hk _ _ _ _ h H locs ls hP hS hL)
    · cases h
  | lload_n n =>
    have hdg := eDec1 hdg hlen
    have h : (match eLd L n with
      | some (.long v) => k (pc + 1) L (.long v :: st) w
      | _ => none) = some x := h
    split at h
    · rename_i v hv
      exact fun H locs ls hP hS hL => lv_lload_n hx hb hdg rfl (hL.2.2 _ _ (eLd_some.mp hv)) (hk _ _ _ _ h H locs ls hP hS hL)
    · cases h
  | dload n =>
    have hdg := eDec1 hdg hlen
    have h : (match eLd L n with
      | some (.double v) => k (pc + 2) L (.double v :: st) w
      | _ => none) = some x := h
    split at h
    · rename_i v hv
      exact fun H locs ls hP hS hL => lv_dload hx hb hdg (hL.2.2 _ _ (eLd_some.mp hv)) (hk _ _ _ _ h H locs ls hP hS hL)
    · cases h
  | dload_n n =>
    have hdg := eDec1 hdg hlen
    have h : (match eLd L n with
      | some (.double v) => k (pc + 1) L (.double v :: st) w
      | _ => none) = some x := h
    split at h
    · rename_i v hv
      exact fun H locs ls hP hS hL => lv_dload_n hx hb hdg rfl (hL.2.2 _ _ (eLd_some.mp hv)) (hk _ _ _ _ h H locs ls hP hS hL)
    · cases h
  | fload n =>
    have hdg := eDec1 hdg hlen
    have h : (match eLd L n with
      | some (.float v) => k (pc + 2) L (.float v :: st) w
      | _ => none) = some x := h
    split at h
    · rename_i v hv
      exact fun H locs ls hP hS hL => lv_fload hx hb hdg (hL.2.2 _ _ (eLd_some.mp hv)) (hk _ _ _ _ h H locs ls hP hS hL)
    · cases h
  | fload_n n =>
    have hdg := eDec1 hdg hlen
    have h : (match eLd L n with
      | some (.float v) => k (pc + 1) L (.float v :: st) w
      | _ => none) = some x := h
    split at h
    · rename_i v hv
      exact fun H locs ls hP hS hL => lv_fload_n hx hb hdg rfl (hL.2.2 _ _ (eLd_some.mp hv)) (hk _ _ _ _ h H locs ls hP hS hL)
    · cases h
  | aload n =>
    have hdg := eDec1 hdg hlen
    have h : (match eLd L n with
      | some (.ref v) => k (pc + 2) L (.ref v :: st) w
      | _ => none) = some x := h
    split at h
    · rename_i v hv
      exact fun H locs ls hP hS hL => lv_aload hx hb hdg (hL.2.2 _ _ (eLd_some.mp hv)) (hk _ _ _ _ h H locs ls hP hS hL)
    · cases h
  | aload_n n =>
    have hdg := eDec1 hdg hlen
    have h : (match eLd L n with
      | some (.ref v) => k (pc + 1) L (.ref v :: st) w
      | _ => none) = some x := h
    split at h
    · rename_i v hv
      exact fun H locs ls hP hS hL => lv_aload_n hx hb hdg rfl (hL.2.2 _ _ (eLd_some.mp hv)) (hk _ _ _ _ h H locs ls hP hS hL)
    · cases h
  | istore n =>
    have hdg := eDec1 hdg hlen
    match st, h with
    | .int v :: st, h =>
      have h : (bif Nat.blt n nL then eForce (eSt1 L n (.int v)) (fun L => k (pc + 2) L st w) else none) = some x := h
      obtain ⟨hn, h⟩ := eBif h
      rw [eForce_eq] at h
      exact fun H locs ls hP hS hL => lv_istore hx hb hdg hL.has (Nat.le_of_ble_eq_true hn) rfl (fun ls' hl' => hk _ _ _ _ h H locs ls' hP hS (eAL.st1 (v := .int v) hl'))
  | istore_n n =>
    have hdg := eDec1 hdg hlen
    match st, h with
    | .int v :: st, h =>
      have h : (bif Nat.blt n.val nL then eForce (eSt1 L n (.int v)) (fun L => k (pc + 1) L st w) else none) = some x := h
      obtain ⟨hn, h⟩ := eBif h
      rw [eForce_eq] at h
      exact fun H locs ls hP hS hL => lv_istore_n hx hb hdg rfl hL.has (Nat.le_of_ble_eq_true hn) rfl (fun ls' hl' => hk _ _ _ _ h H locs ls' hP hS (eAL.st1 (v := .int v) hl'))
  | lstore n =>
    have hdg := eDec1 hdg hlen
    match st, h with
    | .long v :: st, h =>
      have h : (bif Nat.blt (n + 1) nL then eForce (eSt2 L n (.long v)) (fun L => k (pc + 2) L st w) else none) = some x := h
      obtain ⟨hn, h⟩ := eBif h
      rw [eForce_eq] at h
      exact fun H locs ls hP hS hL => lv_lstore hx hb hdg hL.has (Nat.le_of_ble_eq_true hn) rfl (fun ls' hl' => hk _ _ _ _ h H locs ls' hP hS (eAL.st2 (v := .long v) hl'))
  | lstore_n n =>
    have hdg := eDec1 hdg hlen
    match st, h with
    | .long v :: st, h =>
      have h : (bif Nat.blt (n.val + 1) nL then eForce (eSt2 L n (.long v)) (fun L => k (pc + 1) L st w) else none) = some x := h
      obtain ⟨hn, h⟩ := eBif h
      rw [eForce_eq] at h
      exact fun H locs ls hP hS hL => lv_lstore_n hx hb hdg rfl hL.has (Nat.le_of_ble_eq_true hn) rfl (fun ls' hl' => hk _ _ _ _ h H locs ls' hP hS (eAL.st2 (v := .long v) hl'))
  | dstore n =>
    have hdg := eDec1 hdg hlen
    match st, h with
    | .double v :: st, h =>
      have h : (bif Nat.blt (n + 1) nL then eForce (eSt2 L n (.double v)) (fun L => k (pc + 2) L st w) else none) = some x := h
      obtain ⟨hn, h⟩ := eBif h
      rw [eForce_eq] at h
      exact fun H locs ls hP hS hL => lv_dstore hx hb hdg hL.has (Nat.le_of_ble_eq_true hn) rfl (fun ls' hl' => hk _ _ _ _ h H locs ls' hP hS (eAL.st2 (v := .double v) hl'))
  | dstore_n n =>
    have hdg := eDec1 hdg hlen
    match st, h with
    | .double v :: st, h =>
      have h : (bif Nat.blt (n.val + 1) nL then eForce (eSt2 L n (.double v)) (fun L => k (pc + 1) L st w) else none) = some x := h
      obtain ⟨hn, h⟩ := eBif h
      rw [eForce_eq] at h
      exact fun H locs ls hP hS hL => lv_dstore_n hx hb hdg rfl hL.has (Nat.le_of_ble_eq_true hn) rfl (fun ls' hl' => hk _ _ _ _ h H locs ls' hP hS (eAL.st2 (v := .double v) hl'))
  | fstore n =>
    have hdg := eDec1 hdg hlen
    match st, h with
    | .float v :: st, h =>
      have h : (bif Nat.blt n nL then eForce (eSt1 L n (.float v)) (fun L => k (pc + 2) L st w) else none) = some x := h
      obtain ⟨hn, h⟩ := eBif h
      rw [eForce_eq] at h
      exact fun H locs ls hP hS hL => lv_fstore hx hb hdg hL.has (Nat.le_of_ble_eq_true hn) rfl (fun ls' hl' => hk _ _ _ _ h H locs ls' hP hS (eAL.st1 (v := .float v) hl'))
  | fstore_n n =>
    have hdg := eDec1 hdg hlen
    match st, h with
    | .float v :: st, h =>
      have h : (bif Nat.blt n.val nL then eForce (eSt1 L n (.float v)) (fun L => k (pc + 1) L st w) else none) = some x := h
      obtain ⟨hn, h⟩ := eBif h
      rw [eForce_eq] at h
      exact fun H locs ls hP hS hL => lv_fstore_n hx hb hdg rfl hL.has (Nat.le_of_ble_eq_true hn) rfl (fun ls' hl' => hk _ _ _ _ h H locs ls' hP hS (eAL.st1 (v := .float v) hl'))
  | astore n =>
    have hdg := eDec1 hdg hlen
    match st, h with
    | .ref v :: st, h =>
      have h : (bif Nat.blt n nL then eForce (eSt1 L n (.ref v)) (fun L => k (pc + 2) L st w) else none) = some x := h
      obtain ⟨hn, h⟩ := eBif h
      rw [eForce_eq] at h
      exact fun H locs ls hP hS hL => lv_astore hx hb hdg hL.has (Nat.le_of_ble_eq_true hn) rfl (fun ls' hl' => hk _ _ _ _ h H locs ls' hP hS (eAL.st1 (v := .ref v) hl'))
  | astore_n n =>
    have hdg := eDec1 hdg hlen
    match st, h with
    | .ref v :: st, h =>
      have h : (bif Nat.blt n.val nL then eForce (eSt1 L n (.ref v)) (fun L => k (pc + 1) L st w) else none) = some x := h
      obtain ⟨hn, h⟩ := eBif h
      rw [eForce_eq] at h
      exact fun H locs ls hP hS hL => lv_astore_n hx hb hdg rfl hL.has (Nat.le_of_ble_eq_true hn) rfl (fun ls' hl' => hk _ _ _ _ h H locs ls' hP hS (eAL.st1 (v := .ref v) hl'))
  | iinc n z =>
    have hdg := eDec1 hdg hlen
    have h : (match eLd L n with
      | some (.int v) => bif Nat.blt n nL then eForce (eSt1 L n (.int (v + Int32.ofInt z))) (fun L => k (pc + 3) L st w) else none
      | _ => none) = some x := h
    split at h
    · rename_i v hv
      obtain ⟨hn, h⟩ := eBif h
      rw [eForce_eq] at h
      intro H locs ls hP hS hL
      have hmem : (n, Value.int v) ∈ eLv ad L := eLv_mem.mpr ⟨.int v, eLd_some.mp hv, rfl⟩
      obtain ⟨q, hq⟩ := List.getElem?_of_mem hmem
      exact lv_iinc hx hb hdg hL.has hq rfl (Nat.le_of_ble_eq_true hn) rfl (fun ls' hl' => hk _ _ _ _ h H locs ls' hP hS (eAL.st1 (v := .int (v + Int32.ofInt z)) hl'))
    · cases h
  | goto off =>
    have hdg := eDec1 hdg hlen
    have h : (match eTo pc off with
      | some t => k t L st w
      | none => none) = some x := h
    split at h
    · rename_i t ht
      exact fun H locs ls hP hS hL => lv_goto hx hb hdg (eTo_some ht) (hk _ _ _ _ h H locs ls hP hS hL)
    · cases h
  | ifCond cd off =>
    have hdg := eDec1 hdg hlen
    match st, h with
    | .int v :: st, h =>
      cases cd with
      | eq =>
        obtain ⟨t, h1, h2, h3⟩ := eBr_go (k := fun t => k t L st w) h
        exact fun H locs ls hP hS hL => lv_if_eq hx hb hdg h1 (fun z => hk _ _ _ _ (h2 z) H locs ls hP hS hL) (fun z => hk _ _ _ _ (h3 z) H locs ls hP hS hL)
      | ne =>
        obtain ⟨t, h1, h2, h3⟩ := eBr_go (k := fun t => k t L st w) h
        exact fun H locs ls hP hS hL => lv_if_ne hx hb hdg h1 (fun z => hk _ _ _ _ (h2 z) H locs ls hP hS hL) (fun z => hk _ _ _ _ (h3 (fun q => q z)) H locs ls hP hS hL)
      | lt =>
        obtain ⟨t, h1, h2, h3⟩ := eBr_go (k := fun t => k t L st w) h
        exact fun H locs ls hP hS hL => lv_if_lt hx hb hdg h1 (fun z => hk _ _ _ _ (h2 z) H locs ls hP hS hL) (fun z => hk _ _ _ _ (h3 z) H locs ls hP hS hL)
      | ge =>
        obtain ⟨t, h1, h2, h3⟩ := eBr_go (k := fun t => k t L st w) h
        exact fun H locs ls hP hS hL => lv_if_ge hx hb hdg h1 (fun z => hk _ _ _ _ (h2 z) H locs ls hP hS hL) (fun z => hk _ _ _ _ (h3 z) H locs ls hP hS hL)
      | gt =>
        obtain ⟨t, h1, h2, h3⟩ := eBr_go (k := fun t => k t L st w) h
        exact fun H locs ls hP hS hL => lv_if_gt hx hb hdg h1 (fun z => hk _ _ _ _ (h2 z) H locs ls hP hS hL) (fun z => hk _ _ _ _ (h3 z) H locs ls hP hS hL)
      | le =>
        obtain ⟨t, h1, h2, h3⟩ := eBr_go (k := fun t => k t L st w) h
        exact fun H locs ls hP hS hL => lv_if_le hx hb hdg h1 (fun z => hk _ _ _ _ (h2 z) H locs ls hP hS hL) (fun z => hk _ _ _ _ (h3 z) H locs ls hP hS hL)
  | if_icmp cd off =>
    have hdg := eDec1 hdg hlen
    match st, h with
    | .int v2 :: .int v1 :: st, h =>
      cases cd with
      | eq =>
        obtain ⟨t, h1, h2, h3⟩ := eBr_go (k := fun t => k t L st w) h
        exact fun H locs ls hP hS hL => lv_icmp_eq hx hb hdg h1 (fun z => hk _ _ _ _ (h2 z) H locs ls hP hS hL) (fun z => hk _ _ _ _ (h3 z) H locs ls hP hS hL)
      | ne =>
        obtain ⟨t, h1, h2, h3⟩ := eBr_go (k := fun t => k t L st w) h
        exact fun H locs ls hP hS hL => lv_icmp_ne hx hb hdg h1 (fun z => hk _ _ _ _ (h2 z) H locs ls hP hS hL) (fun z => hk _ _ _ _ (h3 (fun q => q z)) H locs ls hP hS hL)
      | lt =>
        obtain ⟨t, h1, h2, h3⟩ := eBr_go (k := fun t => k t L st w) h
        exact fun H locs ls hP hS hL => lv_icmp_lt hx hb hdg h1 (fun z => hk _ _ _ _ (h2 z) H locs ls hP hS hL) (fun z => hk _ _ _ _ (h3 z) H locs ls hP hS hL)
      | ge =>
        obtain ⟨t, h1, h2, h3⟩ := eBr_go (k := fun t => k t L st w) h
        exact fun H locs ls hP hS hL => lv_icmp_ge hx hb hdg h1 (fun z => hk _ _ _ _ (h2 z) H locs ls hP hS hL) (fun z => hk _ _ _ _ (h3 z) H locs ls hP hS hL)
      | gt =>
        obtain ⟨t, h1, h2, h3⟩ := eBr_go (k := fun t => k t L st w) h
        exact fun H locs ls hP hS hL => lv_icmp_gt hx hb hdg h1 (fun z => hk _ _ _ _ (h2 z) H locs ls hP hS hL) (fun z => hk _ _ _ _ (h3 z) H locs ls hP hS hL)
      | le =>
        obtain ⟨t, h1, h2, h3⟩ := eBr_go (k := fun t => k t L st w) h
        exact fun H locs ls hP hS hL => lv_icmp_le hx hb hdg h1 (fun z => hk _ _ _ _ (h2 z) H locs ls hP hS hL) (fun z => hk _ _ _ _ (h3 z) H locs ls hP hS hL)
  | ldc ix =>
    have hdg := eDec1 hdg hlen
    have h : (match eLook rs ix with
      | some (2, _, _, z) => k (pc + 2) L (.int (Int32.ofInt z) :: st) w
      | some (5, z, _, _) => k (pc + 2) L (.float (UInt32.ofNat z) :: st) w
      | _ => none) = some x := h
    split at h
    · rename_i hq
      have hw := hlk _ _ hq
      exact fun H locs ls hP hS hL => lv_ldc hx hb hown (hts _ hw) hdg (hk _ _ _ _ h H locs ls hP hS hL)
    · rename_i hq
      have hw := hlk _ _ hq
      exact fun H locs ls hP hS hL => lv_ldcf hx hb hown (hts _ hw) hdg (hk _ _ _ _ h H locs ls hP hS hL)
    · cases h
  | ldc_w ix =>
    have hdg := eDec1 hdg hlen
    have h : (match eLook rs ix with
      | some (2, _, _, z) => k (pc + 3) L (.int (Int32.ofInt z) :: st) w
      | some (5, z, _, _) => k (pc + 3) L (.float (UInt32.ofNat z) :: st) w
      | _ => none) = some x := h
    split at h
    · rename_i hq
      have hw := hlk _ _ hq
      exact fun H locs ls hP hS hL => lv_ldcw hx hb hown (hts _ hw) hdg (hk _ _ _ _ h H locs ls hP hS hL)
    · rename_i hq
      have hw := hlk _ _ hq
      exact fun H locs ls hP hS hL => lv_ldcwf hx hb hown (hts _ hw) hdg (hk _ _ _ _ h H locs ls hP hS hL)
    · cases h
  | ldc2_w ix =>
    have hdg := eDec1 hdg hlen
    have h : (match eLook rs ix with
      | some (3, _, _, z) => k (pc + 3) L (.long (Int64.ofInt z) :: st) w
      | some (4, z, _, _) => k (pc + 3) L (.double (UInt64.ofNat z) :: st) w
      | _ => none) = some x := h
    split at h
    · rename_i hq
      have hw := hlk _ _ hq
      exact fun H locs ls hP hS hL => lv_ldc2 hx hb hown (hts _ hw) hdg (hk _ _ _ _ h H locs ls hP hS hL)
    · rename_i hq
      have hw := hlk _ _ hq
      exact fun H locs ls hP hS hL => lv_ldc2d hx hb hown (hts _ hw) hdg (hk _ _ _ _ h H locs ls hP hS hL)
    · cases h
  | getfield ix =>
    have hdg := eDec1 hdg hlen
    simp only [eStep] at h
    split at h
    · rename_i ci kf z o st hq
      split at h
      · rename_i ci' fs hsh
        obtain ⟨hc, h2⟩ := eBif h
        clear h
        have hc := Nat.eq_of_beq_eq_true hc
        subst hc
        split at h2
        · rename_i f hf
          obtain ⟨C, T, N, ty0, q1, q2, q3, q4, q5, q6, q7⟩ := hlk _ _ hq
          intro H locs ls hP hS hL
          refine va_get hx hb hts q4 hown hK hP o (eWs_at hsh) q1 kf q2 (hts _ q7) (fun _ z => z) (v := eFv ad w o kf f) (by rw [eFs_get, hf]; simp) hdg ?_
          have := hk _ _ _ _ h2 H locs ls hP hS hL
          simp only [List.map_cons, eFv_C] at this
          exact this
        · cases h2
      · cases h
    · cases h
  | putfield ix =>
    have hdg := eDec1 hdg hlen
    simp only [eStep] at h
    split at h
    · rename_i ci kf z v o st hq
      split at h
      · rename_i ci' fs hsh
        obtain ⟨hc, h2⟩ := eBif h
        clear h
        have hc := Nat.eq_of_beq_eq_true hc
        subst hc
        obtain ⟨C, T, N, ty0, q1, q2, q3, q4, q5, q6, q7⟩ := hlk _ _ hq
        have hD := eWs_D (cA := cA) (w := w) hinj
        split at h2
        · rename_i sn v hf
          rcases q3 with z | ⟨q8, q9⟩
          · exact absurd z (by decide)
          intro H locs ls hP hS hL
          refine va_put (ty := .int) hx hb hts q4 ty0 q5 q6 hown hK hP hD hS o (eWs_at hsh) q1 kf q2 (hts _ q7) (fun _ z => z) q8 q9 rfl rfl (by rw [eFs_len]; exact (List.getElem?_eq_some_iff.mp hf).1) hdg (fun H1 locs1 hP1 _ hS1 => ?_)
          simp only [eC] at hP1
          rw [eFs_set1 hf (by simp [eFv, eU1_at])] at hP1
          have e1 := eWs_set (ad := ad) (cA := cA) (w := w) (w' := eU1 w o kf v) hsh eU1_ne
          simp only [eCell] at e1
          rw [e1] at hP1
          exact hk _ _ _ _ h2 H1 locs1 ls hP1 hS1 hL
        · rename_i sn v hf
          rcases q3 with z | ⟨q8, q9⟩
          · exact absurd z (by decide)
          intro H locs ls hP hS hL
          refine va_put (ty := .long) hx hb hts q4 ty0 q5 q6 hown hK hP hD hS o (eWs_at hsh) q1 kf q2 (hts _ q7) (fun _ z => z) q8 q9 rfl rfl (by rw [eFs_len]; exact (List.getElem?_eq_some_iff.mp hf).1) hdg (fun H1 locs1 hP1 _ hS1 => ?_)
          simp only [eC] at hP1
          rw [eFs_set2 hf (by simp [eFv, eU2_at])] at hP1
          have e1 := eWs_set (ad := ad) (cA := cA) (w := w) (w' := eU2 w o kf v) hsh eU2_ne
          simp only [eCell] at e1
          rw [e1] at hP1
          exact hk _ _ _ _ h2 H1 locs1 ls hP1 hS1 hL
        · rename_i sn v hf
          split at h2
          · rename_i hv
            rcases q3 with z | ⟨q8, q9⟩
            · exact absurd z (by decide)
            intro H locs ls hP hS hL
            refine va_put (ty := .boolean) hx hb hts q4 ty0 q5 q6 hown hK hP hD hS o (eWs_at hsh) q1 kf q2 (hts _ q7) (fun _ z => z) q8 q9 (by rcases hv with rfl | rfl <;> rfl) (by rcases hv with rfl | rfl <;> rfl) (by rw [eFs_len]; exact (List.getElem?_eq_some_iff.mp hf).1) hdg (fun H1 locs1 hP1 _ hS1 => ?_)
            simp only [eC] at hP1
            rw [eFs_set1 hf (by simp [eFv, eU1_at])] at hP1
            have e1 := eWs_set (ad := ad) (cA := cA) (w := w) (w' := eU1 w o kf v) hsh eU1_ne
            simp only [eCell] at e1
            rw [e1] at hP1
            exact hk _ _ _ _ h2 H1 locs1 ls hP1 hS1 hL
          · cases h2
        · cases h2
      · cases h
    · cases h
  | getstatic ix =>
    have hdg := eDec1 hdg hlen
    have h : (match eLook rs ix with
      | some (7, id, _, _) => k (pc + 3) L (.ref id :: st) w
      | _ => none) = some x := h
    split at h
    · rename_i hq
      obtain ⟨kk, q, q1, q2, q4, q3⟩ := hlk _ _ hq
      intro H locs ls hP hS hL
      have hZ := (hstat kk q q2).1.resolve_left q4
      refine va_gets hx hb hZ hS hown (hts _ q3) (fun _ z => z) hdg ?_
      rw [← q1]
      exact hk _ _ _ _ h H locs ls hP hS hL
    · cases h
  | arraylength =>
    have hdg := eDec1 hdg hlen
    match st, h with
    | .ref o :: st, h =>
      simp only [eStep] at h
      split at h
      · rename_i kd n hsh
        intro H locs ls hP hS hL
        have he := eWs_at (ad := ad) (cA := cA) (w := w) hsh
        match kd, he with
        | 0, he => exact va_alen hx hb hK hP o 0 he rfl rfl hdg (hk _ _ _ _ h H locs ls hP hS hL)
        | 1, he => exact va_alen hx hb hK hP o 1 he rfl rfl hdg (hk _ _ _ _ h H locs ls hP hS hL)
        | 2, he => exact va_alen hx hb hK hP o 2 he rfl rfl hdg (hk _ _ _ _ h H locs ls hP hS hL)
        | _ + 3, he => exact va_alen hx hb hK hP o 3 he rfl rfl hdg (hk _ _ _ _ h H locs ls hP hS hL)
      · cases h
      · rename_i hsh
        split at h
        · rename_i q hq
          have ho : SH.length + (o - SH.length) = o := by
            have := List.getElem?_eq_none_iff.mp hsh
            omega
          have hT := (hstat _ q hq).2
          rw [ho] at hT
          exact fun H locs ls hP hS hL => va_tlen hx hb hT hS rfl hdg (hk _ _ _ _ h H locs ls hP hS hL)
        · cases h
  | iaload =>
    have hdg := eDec1 hdg hlen
    match st, h with
    | .int j :: .ref o :: st, h =>
      simp only [eStep] at h
      split at h
      · rename_i n hsh
        obtain ⟨hin, h⟩ := eChk_go h
        exact fun H locs ls hP hS hL => va_iald hx hb hK hP o 0 (eWs_at hsh) rfl hin hdg (hk _ _ _ _ h H locs ls hP hS hL)
      · cases h
      · rename_i hsh
        split at h
        · rename_i q hq
          have ho : SH.length + (o - SH.length) = o := by
            have := List.getElem?_eq_none_iff.mp hsh
            omega
          have hT := (hstat _ q hq).2
          rw [ho] at hT
          obtain ⟨hin, h⟩ := eChk_go h
          exact fun H locs ls hP hS hL => va_ti hx hb hT hS hin rfl hdg (hk _ _ _ _ h H locs ls hP hS hL)
        · cases h
  | laload =>
    have hdg := eDec1 hdg hlen
    match st, h with
    | .int j :: .ref o :: st, h =>
      simp only [eStep] at h
      split at h
      · rename_i n hsh
        obtain ⟨hin, h⟩ := eChk_go h
        exact fun H locs ls hP hS hL => va_lald hx hb hK hP o 1 (eWs_at hsh) rfl hin hdg (hk _ _ _ _ h H locs ls hP hS hL)
      · cases h
  | baload =>
    have hdg := eDec1 hdg hlen
    match st, h with
    | .int j :: .ref o :: st, h =>
      simp only [eStep] at h
      split at h
      · rename_i n hsh
        obtain ⟨hin, h⟩ := eChk_go h
        exact fun H locs ls hP hS hL => va_bald hx hb hK hP o 2 (eWs_at hsh) rfl hin hdg (hk _ _ _ _ h H locs ls hP hS hL)
      · rename_i n hsh
        obtain ⟨hin, h⟩ := eChk_go h
        exact fun H locs ls hP hS hL => va_zald hx hb hK hP o 3 (eWs_at hsh) rfl hin hdg (hk _ _ _ _ h H locs ls hP hS hL)
      · cases h
  | iastore =>
    have hdg := eDec1 hdg hlen
    match st, h with
    | .int v :: .int j :: .ref o :: st, h =>
      simp only [eStep] at h
      split at h
      · rename_i n hsh
        obtain ⟨hin, h⟩ := eChk_go h
        intro H locs ls hP hS hL
        refine va_iast hx hb hK hP (eWs_D hinj) hS o 0 (eWs_at hsh) rfl hin hdg (fun H1 locs1 hP1 _ hS1 => ?_)
        have e1 := eWs_set (ad := ad) (cA := cA) (w := w) (w' := eU1 w o j.toNatClampNeg v) hsh eU1_ne
        simp only [eCell, e_upd] at e1
        rw [e1] at hP1
        exact hk _ _ _ _ h H1 locs1 ls hP1 hS1 hL
      · cases h
  | lastore =>
    have hdg := eDec1 hdg hlen
    match st, h with
    | .long v :: .int j :: .ref o :: st, h =>
      simp only [eStep] at h
      split at h
      · rename_i n hsh
        obtain ⟨hin, h⟩ := eChk_go h
        intro H locs ls hP hS hL
        refine va_last hx hb hK hP (eWs_D hinj) hS o 1 (eWs_at hsh) rfl hin hdg (fun H1 locs1 hP1 _ hS1 => ?_)
        have e1 := eWs_set (ad := ad) (cA := cA) (w := w) (w' := eU2 w o j.toNatClampNeg v) hsh eU2_ne
        simp only [eCell, e_updL] at e1
        rw [e1] at hP1
        exact hk _ _ _ _ h H1 locs1 ls hP1 hS1 hL
      · cases h
  | bastore =>
    have hdg := eDec1 hdg hlen
    match st, h with
    | .int v :: .int j :: .ref o :: st, h =>
      simp only [eStep] at h
      split at h
      · rename_i n hsh
        obtain ⟨hin, h⟩ := eChk_go h
        intro H locs ls hP hS hL
        refine va_bast hx hb hK hP (eWs_D hinj) hS o 2 (eWs_at hsh) rfl hin hdg (fun H1 locs1 hP1 _ hS1 => ?_)
        have e1 := eWs_set (ad := ad) (cA := cA) (w := w) (w' := eU1 w o j.toNatClampNeg (vp_nar .byte v)) hsh eU1_ne
        simp only [eCell, e_upd] at e1
        rw [e1] at hP1
        exact hk _ _ _ _ h H1 locs1 ls hP1 hS1 hL
      · rename_i n hsh
        obtain ⟨hin, h⟩ := eChk_go h
        intro H locs ls hP hS hL
        refine va_zast hx hb hK hP (eWs_D hinj) hS o 3 (eWs_at hsh) rfl hin hdg (fun H1 locs1 hP1 _ hS1 => ?_)
        have e1 := eWs_set (ad := ad) (cA := cA) (w := w) (w' := eU1 w o j.toNatClampNeg (vp_nar .boolean v)) hsh eU1_ne
        simp only [eCell, e_upd] at e1
        rw [e1] at hP1
        exact hk _ _ _ _ h H1 locs1 ls hP1 hS1 hL
      · cases h
  | ireturn =>
    have hdg := eDec1 hdg hlen
    match st, h with
    | [.int v], h =>
      have h : rt (some (.int v)) w = some x := h
      exact fun H locs ls hP hS hL => hret _ _ .ireturn _ H locs ls h trivial hdg hP hS
  | lreturn =>
    have hdg := eDec1 hdg hlen
    match st, h with
    | [.long v], h =>
      have h : rt (some (.long v)) w = some x := h
      exact fun H locs ls hP hS hL => hret _ _ .lreturn _ H locs ls h trivial hdg hP hS
  | dreturn =>
    have hdg := eDec1 hdg hlen
    match st, h with
    | [.double v], h =>
      have h : rt (some (.double v)) w = some x := h
      exact fun H locs ls hP hS hL => hret _ _ .dreturn _ H locs ls h trivial hdg hP hS
  | freturn =>
    have hdg := eDec1 hdg hlen
    match st, h with
    | [.float v], h =>
      have h : rt (some (.float v)) w = some x := h
      exact fun H locs ls hP hS hL => hret _ _ .freturn _ H locs ls h trivial hdg hP hS
  | areturn =>
    have hdg := eDec1 hdg hlen
    match st, h with
    | [.ref v], h =>
      have h : rt (some (.ref v)) w = some x := h
      exact fun H locs ls hP hS hL => hret _ _ .areturn _ H locs ls h trivial hdg hP hS
  | return_ =>
    have hdg := eDec1 hdg hlen
    match st, h with
    | [], h =>
      have h : rt none w = some x := h
      exact fun H locs ls hP hS hL => hret _ _ .return_ _ H locs ls h trivial hdg hP hS
  | invokestatic ix =>
    have hdg := eDec1 hdg hlen
    simp only [eStep] at h
    split at h
    · rename_i a n z hq
      split at h
      · rename_i as st2 hargs
        obtain ⟨hcat, h2⟩ := eBif h
        clear h
        obtain ⟨v, w', hkv, y, bytes, maxL, ret', ws, ws', rm, hM, hw, hc0, hs0, hR, hd, hG⟩ := hcal _ _ _ _ hq as w _ h2
        obtain ⟨b, hbl, hbe, hst⟩ := eArgs_spec n [] st as st2 hargs
        intro H locs ls hP hS hL
        refine eCall_W (va_runS (As := as.map (eC ad)) (rest := st2.map (eC ad)) ⟨hx, hb, hml, hown, hts⟩ hM (va_cwS n hts hG hw hc0 hs0 hd hR) ⟨eWorld.blind, eWorld.pre hK hinj hstat hP hS⟩ rfl (by simp [hbe, hbl]) hL.1 (by simp [hst, hbe]) (lv_room (by rw [eCat_map]; exact Nat.le_of_ble_eq_true hcat)) hdg hcs) hS (fun H1 locs1 hP1 hS1 => ?_)
        have := hk _ _ _ _ hkv H1 locs1 ls hP1 hS1 hL
        rw [eToList] at this
        exact this
      · cases h
    · rename_i a b z hq
      obtain ⟨hcat, h2⟩ := eBif h
      clear h
      have hcat := Nat.le_of_ble_eq_true hcat
      split at h2
      · rename_i v2 v1 st2
        obtain ⟨r1, r2, w1, w2, w3, w4⟩ := hlk _ _ hq
        simp only [eCat, Value.category] at hcat
        intro H locs ls hP hS hL
        exact va_mmax hx hb (hml.trans hL.1.symm) hown (hts _ w1) (hts _ w2) (hts _ w3) (hts _ w4) r1 (by rw [eCat_map]; omega) hcs.1 hcs.2 hdg (hk _ _ _ _ h2 H locs ls hP hS hL)
      · rename_i v2 v1 st2
        obtain ⟨r1, r2, w1, w2, w3, w4⟩ := hlk _ _ hq
        simp only [eCat, Value.category] at hcat
        intro H locs ls hP hS hL
        exact va_mmin hx hb (hml.trans hL.1.symm) hown (hts _ w1) (hts _ w2) (hts _ w3) (hts _ w4) r1 (by rw [eCat_map]; omega) hcs.1 hcs.2 hdg (hk _ _ _ _ h2 H locs ls hP hS hL)
      · rename_i v2 v1 st2
        obtain ⟨r1, r2, w1, w2, w3, w4⟩ := hlk _ _ hq
        simp only [eCat, Value.category] at hcat
        intro H locs ls hP hS hL
        exact va_mmax_long hx hb (hml.trans hL.1.symm) hown (hts _ w1) (hts _ w2) (hts _ w3) (hts _ w4) r1 (by rw [eCat_map]; omega) hcs.1 hcs.2 hdg (hk _ _ _ _ h2 H locs ls hP hS hL)
      · rename_i n dp d sp o st2 hz9
        obtain ⟨r1, r2, w1, w2, w3, w4⟩ := hlk _ _ hq
        have hnf : nativeFrameWords "java/lang/System" "arraycopy" 5 = 7 := by decide
        simp only [eCat, Value.category] at hcat
        split at h2
        · rename_i n0 n1 hs0 hs1
          split at h2
          · rename_i hc
            obtain ⟨c1, c2, c3, c4, c5⟩ := hc
            intro H locs ls hP hS hL
            refine va_copyi (ty := .int) hx hb (hml.trans hL.1.symm) hown (hts _ w1) (hts _ w2) (hts _ w3) (hts _ w4) hK hP (eWs_D hinj) hS o d 0 0 (eWs_at hs0) (eWs_at hs1) rfl rfl rfl c1 c2 c3 c4 c5 (fun _ _ => rfl) r1 (by rw [eCat_map, hnf]; omega) hdg (fun H1 locs1 hP1 _ hS1 => ?_)
            have e1 := eWs_set (ad := ad) (cA := cA) (w := w) (w' := eCp1 w d o sp.toNatClampNeg dp.toNatClampNeg n.toNatClampNeg) hs1 (fun k sh hne => eCell_congr (fun b => by simp [eCp1, hne]) (fun _ => rfl))
            have e2 : (eCp1 w d o sp.toNatClampNeg dp.toNatClampNeg n.toNatClampNeg).1 d = va_cpy (w.1 o) (w.1 d) sp.toNatClampNeg dp.toNatClampNeg n.toNatClampNeg := by
              funext b
              simp [eCp1]
            simp only [eCell, e2] at e1
            rw [e1] at hP1
            exact hk _ _ _ _ h2 H1 locs1 ls hP1 hS1 hL
          · cases h2
        · rename_i n0 n1 hs0 hs1
          split at h2
          · rename_i hc
            obtain ⟨c1, c2, c3, c4, c5⟩ := hc
            intro H locs ls hP hS hL
            refine va_copyl (ty := .long) hx hb (hml.trans hL.1.symm) hown (hts _ w1) (hts _ w2) (hts _ w3) (hts _ w4) hK hP (eWs_D hinj) hS o d 1 1 (eWs_at hs0) (eWs_at hs1) rfl rfl rfl c1 c2 c3 c4 c5 (fun _ _ => rfl) r1 (by rw [eCat_map, hnf]; omega) hdg (fun H1 locs1 hP1 _ hS1 => ?_)
            have e1 := eWs_set (ad := ad) (cA := cA) (w := w) (w' := eCp2 w d o sp.toNatClampNeg dp.toNatClampNeg n.toNatClampNeg) hs1 (fun k sh hne => eCell_congr (fun _ => rfl) (fun b => by simp [eCp2, hne]))
            have e2 : (eCp2 w d o sp.toNatClampNeg dp.toNatClampNeg n.toNatClampNeg).2 d = va_cpy (w.2 o) (w.2 d) sp.toNatClampNeg dp.toNatClampNeg n.toNatClampNeg := by
              funext b
              simp [eCp2]
            simp only [eCell, e2] at e1
            rw [e1] at hP1
            exact hk _ _ _ _ h2 H1 locs1 ls hP1 hS1 hL
          · cases h2
        · cases h2
      · cases h2
    · cases h
  | invokevirtual ix =>
    have hdg := eDec1 hdg hlen
    simp only [eStep] at h
    split at h
    · rename_i a n cj hq
      split at h
      · rename_i as o st2 hargs
        split at h
        · rename_i ci fs hsh
          obtain ⟨hcat, h2⟩ := eBif h
          clear h
          rw [Bool.and_eq_true] at hcat
          have hci := Nat.eq_of_beq_eq_true hcat.2
          subst hci
          obtain ⟨v, w', hkv, y, bytes, maxL, ret', ws, ws', rm, hM, hw, hc0, hs0, hR, hd, hG, T, N, hcl⟩ := hcal _ _ _ _ hq _ w _ h2
          obtain ⟨b, hbl, hbe, hst⟩ := eArgs_spec n [] st as _ hargs
          intro H locs ls hP hS hL
          refine eCall_W (va_runV (b := ad o) (As := as.map (eC ad)) (rest := st2.map (eC ad)) ⟨hx, hb, hml, hown, hts⟩ hM (cwV n hts hG hw hc0 hs0 ⟨rfl, hd⟩ hR) ⟨eWorld.blind, va_recv hK hP hcl (eWs_at hsh), eWorld.pre (as := .ref o :: as) hK hinj hstat hP hS⟩ rfl (by simp [hbe, hbl]) hL.1 (by simp [hst, hbe, eC]) (lv_room (by rw [eCat_map]; exact Nat.le_of_ble_eq_true hcat.1)) hdg hcs) hS (fun H1 locs1 hP1 hS1 => ?_)
          have := hk _ _ _ _ hkv H1 locs1 ls hP1 hS1 hL
          rw [eToList] at this
          exact this
        · cases h
      · cases h
    · cases h
  | _ =>
    simp only [eStep] at h
    exact eAlu_go hx hb _ pc L st w _ h (eDec1 hdg hlen) (fun st' h' => hk _ _ _ _ h')
/-- the rows of a method's code are what its bytes say -/
def eDec (cc : ByteArray) (C : eCo) : Prop := ∀ (pc : Nat) (i : Instr), eAt C pc = some i → ∃ len, decode cc pc = .ok (i, len) ∧ eLenOK i len
theorem eRun_goG (hcx : eCx p R s m args meth c cc own nL ad D cA cl SH SS Ts ret) (hlk : ∀ ix r, eLook rs ix = some r → eLnk R cl Ts SS SH.length own ix r)
    (hcal : ∀ (ix a n : Nat) (z : Int), eLook rs ix = some (1, a, n, z) → ∀ (as : List Value) (w : eW) (k : Option Value → eW → Option ρ), calls a as w k = some x → ∃ (v : Option Value) (w' : eW), k v w' = some x ∧ eCal l R ad D cA cl SH SS Ts own ix n z as w v w')
    (hcs : cells ≤ R.cells ∧ slots ≤ R.slots) (hret : ∀ (v : Option Value) (w : eW) (i : Instr) (pc : Nat) (H : Heap) (locs : List Loc) (ls : Array Slot), rt v w = some x → eIsRet i v → decode cc pc = .ok (i, 1) → va_P D cl (eWs ad cA w 0 SH) H → va_S (eA ad SH.length) s.heap H locs → W p l e R s m args below meth c H locs cells slots Q (F0 m pc ls (v.toList.map (eC ad)))) {C : eCo} (hdec : eDec cc C) (cuts : List Nat) (K : eK ρ) (hK : ∀ pc L st w, K pc L st w = some x → eGo p l e R s m args below meth c nL ad D cA cl SH cells slots Q pc L st w) :
    ∀ (n : Nat) (first : Bool) (pc : Nat) (L : eL) (st : List Value) (w : eW), eRun SH SS nL rs calls rt C cuts K n first pc L st w = some x → eGo p l e R s m args below meth c nL ad D cA cl SH cells slots Q pc L st w := by
  intro n
  induction n with
  | zero => intro first pc L st w h; cases h
  | succ n ih =>
    intro first pc L st w h
    have h : (bif (eMem pc cuts && !first) then K pc L st w else (match eAt C pc with
      | some i => eStep SH SS nL rs calls rt (eRun SH SS nL rs calls rt C cuts K n false) i pc L st w
      | none => none)) = some x := h
    cases hb : (eMem pc cuts && !first) with
    | true =>
      rw [hb] at h
      exact hK pc L st w h
    | false =>
      rw [hb] at h
      have h : (match eAt C pc with
        | some i => eStep SH SS nL rs calls rt (eRun SH SS nL rs calls rt C cuts K n false) i pc L st w
        | none => none) = some x := h
      split at h
      · rename_i i hi
        obtain ⟨len, h1, h2⟩ := hdec pc i hi
        exact eStep_go hcx hlk hcal hcs hret _ (fun pc L st w h => ih false pc L st w h) i pc len L st w h h1 h2
      · cases h
theorem eRun_go (hcx : eCx p R s m args meth c cc own nL ad D cA cl SH SS Ts ret) (hlk : ∀ ix r, eLook rs ix = some r → eLnk R cl Ts SS SH.length own ix r)
    (hcal : ∀ (ix a n : Nat) (z : Int), eLook rs ix = some (1, a, n, z) → ∀ (as : List Value) (w : eW) (k : Option Value → eW → Option ρ), calls a as w k = some x → ∃ (v : Option Value) (w' : eW), k v w' = some x ∧ eCal l R ad D cA cl SH SS Ts own ix n z as w v w')
    (hrt : ∀ v w, rt v w = some x → eRet ret v) {C : eCo} (hdec : eDec cc C) (cuts : List Nat) (K : eK ρ) (hK : ∀ pc L st w, K pc L st w = some x → eGq p l e R s m args below meth c nL ad D cA cl SH rt x pc L st w) :
    ∀ (n : Nat) (first : Bool) (pc : Nat) (L : eL) (st : List Value) (w : eW), eRun SH SS nL rs calls rt C cuts K n first pc L st w = some x → eGq p l e R s m args below meth c nL ad D cA cl SH rt x pc L st w := eRun_goG hcx hlk hcal ⟨Nat.zero_le _, Nat.zero_le _⟩ (eRet_W hcx hrt) hdec cuts K hK
end EWK
end
section
section EMT
variable {l : Launch} {ad : Nat → Nat} {D : va_G} {cA : Nat → ClassId} {cl : List vw_C} {SH : List eSh} {SS : List eS} {ρ : Type} {rt : Option Value → eW → Option ρ} {x : ρ}
def eEnt : List Value → eL
  | [] => []
  | .long a :: vs => some (.long a) :: none :: eEnt vs
  | .double a :: vs => some (.double a) :: none :: eEnt vs
  | v :: vs => some v :: eEnt vs
theorem eEnt_mem : ∀ (as : List Value) (i j : Nat) (v : Value), (eEnt as)[j]? = some (some v) → (i + j, eC ad v) ∈ lv_args i (as.map (eC ad))
  | [], i, j, v, h => by simp [eEnt] at h
  | u :: vs, i, j, v, h => by
    have two : ∀ (q : Value), q.category = 2 → eEnt (q :: vs) = some q :: none :: eEnt vs → (eEnt (q :: vs))[j]? = some (some v) → (i + j, eC ad v) ∈ lv_args i ((q :: vs).map (eC ad)) := by
      intro q hq he h
      rw [he] at h
      simp only [List.map_cons, lv_args, eC_cat, hq, if_true]
      match j, h with
      | 0, h => simp at h; simp [h]
      | 1, h => simp at h
      | j + 2, h =>
        have := eEnt_mem vs (i + 2) j v (by simpa using h)
        rw [show i + (j + 2) = i + 2 + j by omega]
        exact List.mem_cons_of_mem _ this
    have one : ∀ (q : Value), ¬ q.category = 2 → eEnt (q :: vs) = some q :: eEnt vs → (eEnt (q :: vs))[j]? = some (some v) → (i + j, eC ad v) ∈ lv_args i ((q :: vs).map (eC ad)) := by
      intro q hq he h
      rw [he] at h
      simp only [List.map_cons, lv_args, eC_cat, if_neg hq]
      match j, h with
      | 0, h => simp at h; simp [h]
      | j + 1, h =>
        have := eEnt_mem vs (i + 1) j v (by simpa using h)
        rw [show i + (j + 1) = i + 1 + j by omega]
        exact List.mem_cons_of_mem _ this
    cases u with
    | long a => exact two _ rfl rfl h
    | double a => exact two _ rfl rfl h
    | int a => exact one _ (by simp [Value.category]) rfl h
    | float a => exact one _ (by simp [Value.category]) rfl h
    | null => exact one _ (by simp [Value.category]) rfl h
    | ref a => exact one _ (by simp [Value.category]) rfl h
    | retAddr a => exact one _ (by simp [Value.category]) rfl h
theorem eSl_len : ∀ (as : List Value), (lg_sl (as.map (eC ad))).length = eCat as
  | [] => rfl
  | v :: vs => by
    have h := eSl_len vs
    unfold lg_sl at h ⊢
    simp only [List.map_cons, List.flatMap_cons, List.length_append, eCat, eC_cat]
    rw [h]
    rcases lv_cat v with h1 | h1 <;> simp [h1]
theorem eEnt_al {ls : Array Slot} {n : Nat} {as : List Value} (h : lv_has ls n (lv_args 0 (as.map (eC ad)))) : eAL ad ls n (eEnt as) := ⟨h.1, h.2.1, fun i v hi => by
  have := h.2.2 _ (eEnt_mem (ad := ad) as 0 i v hi)
  simpa using this⟩
theorem eMet_of {y : MethodName} {cc : ByteArray} {maxL : Nat} {ret : Option FieldType} {ws ws' : List Cond} {rm : Room} {as : List Value} {w w0 : eW} {v0 : Option Value} (hy : plainName y.cls = true) (hw : ws = Cond.code y cc maxL ret :: ws') (hn : eCat as ≤ maxL) (hx : ∀ v w', rt v w' = some x → v = v0 ∧ w' = w0)
    (body : ∀ (p : Program) (e : Env) (s : State) (m : MethodId) (args : Array Value) (below : List Frame) (meth : Method) (c : Code), eCx p rm s m args meth c cc y.cls maxL ad D cA cl SH SS ws ret → eGq p l e rm s m args below meth c maxL ad D cA cl SH rt x 0 (eEnt as) [] w) : eMet l ad D cA cl SH SS y ws rm as w v0 w0 := by
  refine Met.ofW (cc := cc) (maxL := maxL) (ret := ret) hy hw ?_
  intro p e s m args below meth c s₁ B hml hv
  obtain ⟨rfl, hP, hK, hi, hst⟩ := hv
  have hts := atoms_spec (ws := ws) B.pre
  have hown : s.vm.findClass y.cls = some m.cls := findClass_of_methodNamed B.named
  have hl := lv_entry (as.map (eC ad)) (n := maxL) (by rw [eSl_len]; exact hn)
  have key := body p e s m (as.map (eC ad)).toArray below meth c ⟨B.exec, B.bytes, B.returns, B.notSynchronized, hown, hml, hts, hK, hi, hst⟩ s.heap [] _ hP va_S.rf (eEnt_al hl)
  rw [lg_entry_eq]
  intro T hT X
  obtain ⟨t, h1, o, h2, h3, ⟨v, w', h4, h5⟩, h6⟩ := key T hT X
  obtain ⟨rfl, rfl⟩ := hx v w' h4
  exact ⟨t, h1, o, h2, h3, h5, h6⟩
def eLe (L : eL) : Nat → eL → Prop
  | _, [] => True
  | i, none :: r => eLe L (i + 1) r
  | i, some v :: r => L[i]? = some (some v) ∧ eLe L (i + 1) r
theorem eLe_get {L : eL} : ∀ (L0 : eL) (i : Nat), eLe L i L0 → ∀ (j : Nat) (v : Value), L0[j]? = some (some v) → L[i + j]? = some (some v)
  | [], i, _, j, v, h => by simp at h
  | none :: r, i, hl, j, v, h => by
    match j, h with
    | 0, h => simp at h
    | j + 1, h =>
      rw [show i + (j + 1) = i + 1 + j by omega]
      exact eLe_get r (i + 1) hl j v (by simpa using h)
  | some u :: r, i, hl, j, v, h => by
    match j, h with
    | 0, h =>
      simp only [List.getElem?_cons_zero, Option.some.injEq] at h
      subst h
      exact hl.1
    | j + 1, h =>
      rw [show i + (j + 1) = i + 1 + j by omega]
      exact eLe_get r (i + 1) hl.2 j v (by simpa using h)
theorem eLe_wk {L L0 : eL} (h : eLe L 0 L0) : ∀ (i : Nat) (v : Value), L0[i]? = some (some v) → L[i]? = some (some v) := fun i v hi => by
  have := eLe_get L0 0 h i v hi
  simpa using this
/-- a cut: its locals and what lies on the stack -/
def lR (L : eL) (i id : Nat) (k : Option ρ) : Option ρ := match eLd L i with
  | some (.ref r) => bif Nat.beq r id then k else none
  | _ => none
def sE (st : List Value) (k : Option ρ) : Option ρ := match st with
  | [] => k
  | _ => none
def sI (st : List Value) (k : Int32 → List Value → Option ρ) : Option ρ := match st with
  | .int a :: r => k a r
  | _ => none
def sJ (st : List Value) (k : Int64 → List Value → Option ρ) : Option ρ := match st with
  | .long a :: r => k a r
  | _ => none
def sR (st : List Value) (id : Nat) (k : List Value → Option ρ) : Option ρ := match st with
  | .ref a :: r => bif Nat.beq a id then k r else none
  | _ => none
theorem lI_some {L : eL} {i : Nat} {f : Int32 → Option ρ} (h : (lI L i).bind f = some x) : ∃ a, L[i]? = some (some (.int a)) ∧ f a = some x := by
  obtain ⟨a, h1, h2⟩ := Option.bind_eq_some_iff.mp h
  unfold lI at h1
  split at h1
  · rename_i b hb; cases h1; exact ⟨a, eLd_some.mp hb, h2⟩
  · cases h1
theorem lJ_some {L : eL} {i : Nat} {f : Int64 → Option ρ} (h : (lJ L i).bind f = some x) : ∃ a, L[i]? = some (some (.long a)) ∧ f a = some x := by
  obtain ⟨a, h1, h2⟩ := Option.bind_eq_some_iff.mp h
  unfold lJ at h1
  split at h1
  · rename_i b hb; cases h1; exact ⟨a, eLd_some.mp hb, h2⟩
  · cases h1
theorem lD_some {L : eL} {i : Nat} {f : UInt64 → Option ρ} (h : (lD L i).bind f = some x) : ∃ a, L[i]? = some (some (.double a)) ∧ f a = some x := by
  obtain ⟨a, h1, h2⟩ := Option.bind_eq_some_iff.mp h
  unfold lD at h1
  split at h1
  · rename_i b hb; cases h1; exact ⟨a, eLd_some.mp hb, h2⟩
  · cases h1
theorem lF_some {L : eL} {i : Nat} {f : UInt32 → Option ρ} (h : (lF L i).bind f = some x) : ∃ a, L[i]? = some (some (.float a)) ∧ f a = some x := by
  obtain ⟨a, h1, h2⟩ := Option.bind_eq_some_iff.mp h
  unfold lF at h1
  split at h1
  · rename_i b hb; cases h1; exact ⟨a, eLd_some.mp hb, h2⟩
  · cases h1
theorem lR_some {L : eL} {i id : Nat} {k : Option ρ} (h : lR L i id k = some x) : L[i]? = some (some (.ref id)) ∧ k = some x := by
  unfold lR at h
  split at h
  · rename_i r hr
    obtain ⟨h1, h2⟩ := eBif h
    have := Nat.eq_of_beq_eq_true h1
    subst this
    exact ⟨eLd_some.mp hr, h2⟩
  · cases h
theorem sE_some {st : List Value} {k : Option ρ} (h : sE st k = some x) : st = [] ∧ k = some x := by
  unfold sE at h
  split at h
  · exact ⟨rfl, h⟩
  · cases h
theorem sI_some {st : List Value} {k : Int32 → List Value → Option ρ} (h : sI st k = some x) : ∃ a r, st = .int a :: r ∧ k a r = some x := by
  unfold sI at h
  split at h
  · exact ⟨_, _, rfl, h⟩
  · cases h
theorem sJ_some {st : List Value} {k : Int64 → List Value → Option ρ} (h : sJ st k = some x) : ∃ a r, st = .long a :: r ∧ k a r = some x := by
  unfold sJ at h
  split at h
  · exact ⟨_, _, rfl, h⟩
  · cases h
theorem sR_some {st : List Value} {id : Nat} {k : List Value → Option ρ} (h : sR st id k = some x) : ∃ r, st = .ref id :: r ∧ k r = some x := by
  unfold sR at h
  split at h
  · obtain ⟨h1, h2⟩ := eBif h
    have := Nat.eq_of_beq_eq_true h1
    subst this
    exact ⟨_, rfl, h2⟩
  · cases h
theorem eCut {b n : Nat} {k q : Option ρ} (h : (bif Nat.beq b n then k else q) = some x) : (b = n ∧ k = some x) ∨ q = some x := by
  cases hb : Nat.beq b n with
  | true => rw [hb] at h; exact Or.inl ⟨Nat.eq_of_beq_eq_true hb, h⟩
  | false => rw [hb] at h; exact Or.inr h
theorem eLook_mem : ∀ (rs : List (Nat × eR)) (ix : Nat) (r : eR), eLook rs ix = some r → (ix, r) ∈ rs
  | [], _, _, h => by cases h
  | (i, q) :: rs, ix, r, h => by
    have h : (bif Nat.beq i ix then some q else eLook rs ix) = some r := h
    cases hb : Nat.beq i ix with
    | true =>
      rw [hb] at h
      have := Nat.eq_of_beq_eq_true hb
      cases h
      subst this
      exact List.mem_cons_self
    | false =>
      rw [hb] at h
      exact List.mem_cons_of_mem _ (eLook_mem rs ix r h)
/-- a callee by its place in a method's list -/
def eCs (cs : List (eF ρ)) (a : Nat) : eF ρ := match cs[a]? with
  | some f => f
  | none => fun _ _ _ => none
def eHc (l : Launch) (R : Room) (ad : Nat → Nat) (D : va_G) (cA : Nat → ClassId) (cl : List vw_C) (SH : List eSh) (SS : List eS) (Ts : List Cond) (own : String) (cs : List (eF ρ)) (x : ρ) (q : Nat × eR) : Prop := match q.2 with
  | (1, a, n, z) => ∀ (as : List Value) (w : eW) (k : Option Value → eW → Option ρ), eCs cs a as w k = some x → ∃ (v : Option Value) (w' : eW), k v w' = some x ∧ eCal l R ad D cA cl SH SS Ts own q.1 n z as w v w'
  | _ => True
theorem eHc_all {R : Room} {Ts : List Cond} {own : String} {cs : List (eF ρ)} {rs : List (Nat × eR)} (h : ∀ q ∈ rs, eHc l R ad D cA cl SH SS Ts own cs x q) : ∀ (ix a n : Nat) (z : Int), eLook rs ix = some (1, a, n, z) → ∀ (as : List Value) (w : eW) (k : Option Value → eW → Option ρ), eCs cs a as w k = some x → ∃ (v : Option Value) (w' : eW), k v w' = some x ∧ eCal l R ad D cA cl SH SS Ts own ix n z as w v w' := fun ix a n z hq => h (ix, (1, a, n, z)) (eLook_mem rs ix _ hq)
theorem eLnk_all {R : Room} {Ts : List Cond} {own : String} {n : Nat} {rs : List (Nat × eR)} (h : ∀ q ∈ rs, eLnk R cl Ts SS n own q.1 q.2) : ∀ ix r, eLook rs ix = some r → eLnk R cl Ts SS n own ix r := fun ix r hq => h (ix, r) (eLook_mem rs ix r hq)
theorem rI_ret {x : Int32 × eW} : ∀ v w, rI v w = some x → v = some (.int x.1) ∧ w = x.2 := by
  intro v w h
  unfold rI at h
  split at h
  · cases h; exact ⟨rfl, rfl⟩
  · cases h
theorem rJ_ret {x : Int64 × eW} : ∀ v w, rJ v w = some x → v = some (.long x.1) ∧ w = x.2 := by
  intro v w h
  unfold rJ at h
  split at h
  · cases h; exact ⟨rfl, rfl⟩
  · cases h
theorem rD_ret {x : UInt64 × eW} : ∀ v w, rD v w = some x → v = some (.double x.1) ∧ w = x.2 := by
  intro v w h
  unfold rD at h
  split at h
  · cases h; exact ⟨rfl, rfl⟩
  · cases h
theorem rF_ret {x : UInt32 × eW} : ∀ v w, rF v w = some x → v = some (.float x.1) ∧ w = x.2 := by
  intro v w h
  unfold rF at h
  split at h
  · cases h; exact ⟨rfl, rfl⟩
  · cases h
theorem rA_ret {x : Nat × eW} : ∀ v w, rA v w = some x → v = some (.ref x.1) ∧ w = x.2 := by
  intro v w h
  unfold rA at h
  split at h
  · cases h; exact ⟨rfl, rfl⟩
  · cases h
theorem rV_ret {x : eW} : ∀ v w, rV v w = some x → v = none ∧ w = x := by
  intro v w h
  unfold rV at h
  split at h
  · cases h; exact ⟨rfl, rfl⟩
  · cases h
theorem rZ_val {x : Int32 × eW} {v : Option Value} {w : eW} (h : rZ v w = some x) : (v = some (.int x.1) ∧ w = x.2) ∧ (x.1 = 0 ∨ x.1 = 1) := by
  unfold rZ at h
  split at h
  · split at h
    · rename_i hz; cases h; exact ⟨⟨rfl, rfl⟩, hz⟩
    · cases h
  · cases h
theorem rZ_ret {x : Int32 × eW} : ∀ v w, rZ v w = some x → v = some (.int x.1) ∧ w = x.2 := fun _ _ h => (rZ_val h).1
theorem rI_ok {x : Int32 × eW} : ∀ v w, rI v w = some x → eRet (some .int) v := fun v w h => by rw [(rI_ret v w h).1]; exact Or.inl rfl
theorem rZ_ok {x : Int32 × eW} : ∀ v w, rZ v w = some x → eRet (some .boolean) v := fun v w h => by rw [(rZ_val h).1.1]; exact Or.inr ⟨rfl, (rZ_val h).2⟩
theorem rJ_ok {x : Int64 × eW} : ∀ v w, rJ v w = some x → eRet (some .long) v := fun v w h => by rw [(rJ_ret v w h).1]; rfl
theorem rD_ok {x : UInt64 × eW} : ∀ v w, rD v w = some x → eRet (some .double) v := fun v w h => by rw [(rD_ret v w h).1]; rfl
theorem rF_ok {x : UInt32 × eW} : ∀ v w, rF v w = some x → eRet (some .float) v := fun v w h => by rw [(rF_ret v w h).1]; rfl
theorem rA_ok {x : Nat × eW} {t : FieldType} : ∀ v w, rA v w = some x → eRet (some (.array t)) v := fun v w h => by rw [(rA_ret v w h).1]; exact ⟨t, rfl⟩
theorem rV_ok {x : eW} : ∀ v w, rV v w = some x → eRet none v := fun v w h => by rw [(rV_ret v w h).1]; rfl
end EMT
/-- the fuel of a loop -/
noncomputable def eFu : Nat := Classical.choose (⟨1000000, rfl⟩ : ∃ n : Nat, n = 1000000)
theorem eFu_eq : eFu = 1000000 := Classical.choose_spec (⟨1000000, rfl⟩ : ∃ n : Nat, n = 1000000)
end
section
/-- the tables' words that a callee may ask for -/
def eTb : List Cond := lw_tbl.filter goodWord
theorem tb {w : Cond} (i : Nat) (h : lw_tbl[i]? = some w) (hg : goodWord w = true) : w ∈ eTb := List.mem_filter.mpr ⟨List.mem_of_getElem? h, hg⟩
theorem eTb_in {w : Cond} (h : w ∈ eTb) : w ∈ lw_tbl := (List.mem_filter.mp h).1
theorem eTb_all {ws : List Cond} (h : ws.all (fun w => decide (w ∈ lw_tbl) && goodWord w) = true) : ∀ w ∈ ws, w ∈ eTb := fun w hw => by
  have h1 := List.all_eq_true.mp h w hw
  simp only [Bool.and_eq_true, decide_eq_true_eq] at h1
  exact List.mem_filter.mpr ⟨h1.1, h1.2⟩
abbrev eWd (y : MethodName) (cc : ByteArray) (n : Nat) (r : Option FieldType) : List Cond := Cond.code y cc n r :: eTb
theorem eTb_wd {y : MethodName} {cc : ByteArray} {n : Nat} {r : Option FieldType} : ∀ w ∈ eTb, w ∈ eWd y cc n r := fun _ h => List.mem_cons_of_mem _ h
theorem eTb_good {w : Cond} (h : w ∈ eTb) : (w.onTables && w.keeps) = true ∨ ∃ ty, w = .arrayClass ty := good_of_word (List.mem_filter.mp h).2
theorem eGoodS {Ts : List Cond} (hT : ∀ w ∈ eTb, w ∈ Ts) {own : String} {ix : Nat} {y : MethodName} {b : ByteArray} {n : Nat} {r : Option FieldType} (h1 : Cond.methodLink own ix y ∈ eTb) (h2 : Cond.static y ∈ eTb) (h3 : Cond.initialized y.cls ∈ eTb) (h4 : Cond.code y b n r ∈ eTb) : GoodIn Ts (va_wsS own ix y (eWd y b n r)) := by
  intro w hw
  have : w ∈ eTb := by
    simp only [va_wsS, List.cons_append, List.nil_append, List.mem_cons] at hw
    rcases hw with rfl | rfl | rfl | rfl | h
    · exact h1
    · exact h2
    · exact h3
    · exact h4
    · exact h
  exact ⟨hT w this, eTb_good this⟩
theorem eGoodV {Ts : List Cond} (hT : ∀ w ∈ eTb, w ∈ Ts) {own : String} {ix : Nat} {y : MethodName} {b : ByteArray} {n : Nat} {r : Option FieldType} (h1 : Cond.methodLink own ix y ∈ eTb) (h2 : Cond.instanceMethod y ∈ eTb) (h3 : Cond.selects y.cls y y ∈ eTb) (h5 : Cond.initialized y.cls ∈ eTb) (h4 : Cond.code y b n r ∈ eTb) : GoodIn Ts (wsV own ix y.cls y (eWd y b n r)) := by
  intro w hw
  have : w ∈ eTb := by
    simp only [wsV, List.cons_append, List.nil_append, List.mem_cons] at hw
    rcases hw with rfl | rfl | rfl | rfl | rfl | h
    · exact h1
    · exact h2
    · exact h3
    · exact h5
    · exact h4
    · exact h
  exact ⟨hT w this, eTb_good this⟩
def eLenB (i : Instr) (len : Nat) : Bool := match i with
  | .tableswitch _ lo hi offs => decide (-2147483648 ≤ lo ∧ hi = lo + (offs.size : Int) - 1 ∧ lo + (offs.size : Int) ≤ 2147483648)
  | i => Nat.beq len (eILen i)
def eDecB (cc : ByteArray) (C : eCo) : Bool := (List.range (16 * C.length)).all (fun pc => match eAt C pc with
  | none => true
  | some i => match decode cc pc with
    | .ok (j, len) => decide (j = i) && eLenB i len
    | _ => false)
theorem eLenB_ok {i : Instr} {len : Nat} (h : eLenB i len = true) : eLenOK i len := by
  cases i with
  | tableswitch d lo hi offs =>
    have h : decide (-2147483648 ≤ lo ∧ hi = lo + (offs.size : Int) - 1 ∧ lo + (offs.size : Int) ≤ 2147483648) = true := h
    have h2 := of_decide_eq_true h
    exact h2
  | _ => exact Nat.eq_of_beq_eq_true h
theorem eDec_of {cc : ByteArray} {C : eCo} (h : eDecB cc C = true) : eDec cc C := by
  intro pc i hi
  have hl : pc < 16 * C.length := by
    unfold eAt at hi
    split at hi
    · rename_i l hl
      have := (List.getElem?_eq_some_iff.mp hl).1
      omega
    · cases hi
  have h1 := List.all_eq_true.mp h pc (List.mem_range.mpr hl)
  rw [hi] at h1
  simp only at h1
  split at h1
  · rename_i j len hj
    simp only [Bool.and_eq_true, decide_eq_true_eq] at h1
    exact ⟨len, by rw [hj, h1.1], eLenB_ok h1.2⟩
  · cases h1
/-- a call's side, put together -/
theorem eCal_of {l : Launch} {R : Room} {ad : Nat → Nat} {D : va_G} {cA : Nat → ClassId} {cl : List vw_C} {SH : List eSh} {SS : List eS} {Ts : List Cond} {own : String} {ix n : Nat} {z : Int} {as : List Value} {w : eW} {v : Option Value} {w' : eW} {y : MethodName} {b : ByteArray} {maxL : Nat} {r : Option FieldType} {fr lo : Nat} (h : eMet l ad D cA cl SH SS y (eWd y b maxL r) { frames := fr, cells := 0, slots := 0, locals := lo } as w v w') (hR : Nat.ble (fr + 1) R.frames = true ∧ Nat.ble (8 + (maxL + 11) + lo) R.locals = true) (hd : y.cls ≠ "java/lang/invoke/MethodHandle" ∧ y.cls ≠ "java/lang/invoke/VarHandle" ∧ (parseMethodDescriptor y.desc).map (fun d => d.parameters.length) = some n)
    (hG : match z with
    | .negSucc _ => GoodIn Ts (va_wsS own ix y (eWd y b maxL r))
    | .ofNat ci => GoodIn Ts (wsV own ix y.cls y (eWd y b maxL r)) ∧ ∃ (T : u_T) (N : Nat), cl[ci]? = some (y.cls, T, N)) : eCal l R ad D cA cl SH SS Ts own ix n z as w v w' := ⟨y, b, maxL, r, _, eTb, _, h, rfl, rfl, rfl, ⟨Nat.le_of_ble_eq_true hR.1, Nat.le_of_ble_eq_true hR.2⟩, hd, hG⟩
theorem tb0 {w : Cond} (i : Nat) (h : (k2_sels lw_privs)[i]? = some w) (hg : goodWord w = true) : w ∈ eTb := List.mem_filter.mpr ⟨List.mem_append_left _ (List.mem_of_getElem? h), hg⟩
theorem tbx {w : Cond} (h : w ∈ tables_1) (hg : goodWord w = true) : w ∈ eTb := List.mem_filter.mpr ⟨List.mem_append_right _ h, hg⟩
theorem tb1 {w : Cond} (i : Nat) (h : tables_1_1[i]? = some w) (hg : goodWord w = true) : w ∈ eTb := tbx (List.mem_append_left _ (List.mem_of_getElem? h)) hg
theorem tb2 {w : Cond} (i : Nat) (h : tables_1_2[i]? = some w) (hg : goodWord w = true) : w ∈ eTb := tbx (List.mem_append_right _ (List.mem_append_left _ (List.mem_of_getElem? h))) hg
theorem tb3 {w : Cond} (i : Nat) (h : tables_1_3[i]? = some w) (hg : goodWord w = true) : w ∈ eTb := tbx (List.mem_append_right _ (List.mem_append_right _ (List.mem_append_left _ (List.mem_of_getElem? h)))) hg
theorem tb4 {w : Cond} (i : Nat) (h : tables_1_4[i]? = some w) (hg : goodWord w = true) : w ∈ eTb := tbx (List.mem_append_right _ (List.mem_append_right _ (List.mem_append_right _ (List.mem_append_left _ (List.mem_of_getElem? h))))) hg
theorem tb5 {w : Cond} (i : Nat) (h : tables_1_5[i]? = some w) (hg : goodWord w = true) : w ∈ eTb := tbx (List.mem_append_right _ (List.mem_append_right _ (List.mem_append_right _ (List.mem_append_right _ (List.mem_append_left _ (List.mem_of_getElem? h)))))) hg
theorem tb6 {w : Cond} (i : Nat) (h : tables_1_6[i]? = some w) (hg : goodWord w = true) : w ∈ eTb := tbx (List.mem_append_right _ (List.mem_append_right _ (List.mem_append_right _ (List.mem_append_right _ (List.mem_append_right _ (List.mem_append_left _ (List.mem_of_getElem? h))))))) hg
theorem tb7 {w : Cond} (i : Nat) (h : tables_1_7[i]? = some w) (hg : goodWord w = true) : w ∈ eTb := tbx (List.mem_append_right _ (List.mem_append_right _ (List.mem_append_right _ (List.mem_append_right _ (List.mem_append_right _ (List.mem_append_right _ (List.mem_of_getElem? h))))))) hg
end
section
/-! ===== a part of a world: a method's contract over it is one over the whole ===== -/
theorem Met_mono {l : Launch} {y : MethodName} {ws : List Cond} {rm : Room} {P P' : Array Value → State → Prop} {Q Q' : Array Value → State → Outcome → State → Prop} {mc ms : Nat} {free free' : Addr → Prop} (h : Met l y ws rm P Q mc ms free) (hP : ∀ a U, P' a U → P a U) (hQ : ∀ a st o t, P' a st → Q a st o t → Q' a st o t) (hf : ∀ q, free q → free' q) : Met l y ws rm P' Q' mc ms free' := by
  intro p e h1 h2 h3 s m args below h4 h5 h6 h7
  obtain ⟨n, o, a1, a2, a3, a4, L, a5, a6⟩ := h p e h1 h2 h3 s m args below h4 h5 (hP _ _ h6) h7
  exact ⟨n, o, a1, a2, a3, hQ _ _ _ _ h6 a4, L, a5, fun q hq => hf _ (a6 q hq)⟩
def eShf (φ : Nat → Nat) (sh : eSh) : eSh := match sh with
  | .inl a => .inl a
  | .inr (ci, fs) => .inr (ci, fs.map (fun f => (f.1, if f.1 = 2 then φ f.2 else f.2)))
section ELF
variable {ad : Nat → Nat} {cA : Nat → ClassId} {φ : Nat → Nat} {W w : eW}
theorem eFs_sub {id : Nat} (h : (∀ b, w.1 id b = W.1 (φ id) b) ∧ ∀ b, w.2 id b = W.2 (φ id) b) : ∀ (fs : List (Nat × Nat)) (i : Nat), eFs ad W (φ id) i (fs.map (fun f => (f.1, if f.1 = 2 then φ f.2 else f.2))) = eFs (fun i => ad (φ i)) w id i fs
  | [], _ => rfl
  | f :: r, i => by
    simp only [List.map_cons, eFs]
    rw [eFs_sub h r (i + 1)]
    congr 1
    obtain ⟨a, b⟩ := f
    unfold eFv
    simp only
    rw [h.1, h.2]
    split <;> simp_all
theorem eCell_sub {id : Nat} (h : (∀ b, w.1 id b = W.1 (φ id) b) ∧ ∀ b, w.2 id b = W.2 (φ id) b) (sh : eSh) : eCell ad cA W (φ id) (eShf φ sh) = eCell (fun i => ad (φ i)) cA w id sh := by
  have e1 : w.1 id = W.1 (φ id) := funext h.1
  have e2 : w.2 id = W.2 (φ id) := funext h.2
  match sh with
  | .inl (0, n) => simp [eShf, eCell, e1]
  | .inl (1, n) => simp [eShf, eCell, e2]
  | .inl (2, n) => simp [eShf, eCell, e1]
  | .inl (_ + 3, n) => simp [eShf, eCell, e1]
  | .inr (ci, fs) =>
    simp only [eShf, eCell]
    rw [eFs_sub h]
theorem eC_eC (v : Value) : eC ad (eC φ v) = eC (fun i => ad (φ i)) v := by cases v <;> rfl
theorem eMet_lift {l : Launch} {D : va_G} {cl : List vw_C} {SH SHl : List eSh} {SS SSl : List eS} {y : MethodName} {wds : List Cond} {rm : Room} {as : List Value} {v : Option Value} {w2 W2 : eW}
    (hsh : ∀ k sh, SH[k]? = some sh → SHl[φ k]? = some (eShf φ sh)) (hφ : ∀ i j, i < SH.length → j < SH.length → φ i = φ j → i = j) (hss : ∀ k q, SS[k]? = some q → ∃ k2, SSl[k2]? = some q ∧ φ (SH.length + k) = SHl.length + k2)
    (hW : ∀ k, k < SH.length → (∀ b, w.1 k b = W.1 (φ k) b) ∧ ∀ b, w.2 k b = W.2 (φ k) b) (hW2 : ∀ k, k < SH.length → (∀ b, w2.1 k b = W2.1 (φ k) b) ∧ ∀ b, w2.2 k b = W2.2 (φ k) b) (hWo : ∀ a, (∀ k, k < SH.length → φ k ≠ a) → (∀ b, W2.1 a b = W.1 a b) ∧ ∀ b, W2.2 a b = W.2 a b)
    (hv : ∀ a, v ≠ some (.ref a)) (h : eMet l (fun i => ad (φ i)) D cA cl SH SS y wds rm as w v w2) : eMet l ad D cA cl SHl SSl y wds rm (as.map (eC φ)) W v W2 := by
  have hlt : ∀ k, k < SH.length → φ k < SHl.length := fun k hk => by
    have := hsh k _ (List.getElem?_eq_getElem hk)
    exact (List.getElem?_eq_some_iff.mp this).1
  have hA : ∀ q, eA (fun i => ad (φ i)) SH.length q → eA ad SHl.length q := fun q ⟨i, h1, h2⟩ => ⟨φ i, hlt i h1, h2⟩
  have hsub : ∀ {H : Heap} {W w : eW}, (∀ k, k < SH.length → (∀ b, w.1 k b = W.1 (φ k) b) ∧ ∀ b, w.2 k b = W.2 (φ k) b) → va_P D cl (eWs ad cA W 0 SHl) H → va_P D cl (eWs (fun i => ad (φ i)) cA w 0 SH) H := by
    intro H W w hW hP k q hk
    rw [eWs_get] at hk
    cases hs : SH[k]? with
    | none => rw [hs] at hk; cases hk
    | some sh =>
      rw [hs] at hk
      simp only [Option.map_some, Nat.zero_add, Option.some.injEq] at hk
      subst hk
      have hkl := (List.getElem?_eq_some_iff.mp hs).1
      have := hP (φ k) _ (eWs_at (hsh k sh hs))
      rw [eCell_sub (hW k hkl)] at this
      exact this
  refine Met_mono h ?_ ?_ hA
  · rintro a U ⟨h1, h2, h3, h4, h5⟩
    refine ⟨?_, hsub hW h2, h3, fun i j hi hj hij => hφ i j hi hj (h4 _ _ (hlt i hi) (hlt j hj) hij), fun k q hk => ?_⟩
    · rw [h1]
      simp only [List.map_map]
      congr 2
      funext v
      exact eC_eC v
    · obtain ⟨k2, g1, g2⟩ := hss k q hk
      obtain ⟨g3, g4⟩ := h5 k2 q g1
      simp only [g2]
      exact ⟨g3.imp id (fun z => z.narrow hA), g4.narrow hA⟩
  · rintro a st o t ⟨h1, h2, h3, h4, h5⟩ ⟨q1, q2, q3⟩
    refine ⟨?_, fun k q hk => ?_, q3.1, fun q g1 g2 => q3.2 q g1 (fun z => g2 (hA q z))⟩
    · rw [q1]
      match v, hv with
      | none, _ => rfl
      | some (.int _), _ => rfl
      | some (.long _), _ => rfl
      | some (.float _), _ => rfl
      | some (.double _), _ => rfl
      | some .null, _ => rfl
      | some (.ref a), hv => exact absurd rfl (hv a)
      | some (.retAddr _), _ => rfl
    · rw [eWs_get] at hk
      cases hs : SHl[k]? with
      | none => rw [hs] at hk; cases hk
      | some sh =>
        rw [hs] at hk
        simp only [Option.map_some, Nat.zero_add, Option.some.injEq] at hk
        subst hk
        have hkl := (List.getElem?_eq_some_iff.mp hs).1
        by_cases hin : ∃ i, i < SH.length ∧ φ i = k
        · obtain ⟨i, hi, rfl⟩ := hin
          have e1 := hsh i _ (List.getElem?_eq_getElem hi)
          rw [hs] at e1
          cases e1
          rw [eCell_sub (hW2 i hi)]
          exact q2 i _ (eWs_at (List.getElem?_eq_getElem hi))
        · have hn : ∀ i, i < SH.length → φ i ≠ k := fun i hi z => hin ⟨i, hi, z⟩
          have e1 : eCell ad cA W2 k sh = eCell ad cA W k sh := eCell_congr (hWo k hn).1 (hWo k hn).2
          rw [e1]
          have hold := h2 k _ (eWs_at hs)
          exact hold.kept (q3.2 _ hold.lt (fun ⟨i, hi, z⟩ => hn i hi (h4 _ _ (hlt i hi) hkl z.symm)))
end ELF
end
