-- ===== PART A: goes FIRST, ahead of the names: the tables' words, and 'selects' of the private methods out of them =====
/-- a private method of a class that the tables say can be made, by its rows of tables_1 -/
def lw_okq (q : MethodName × Nat) : Prop := (q.1.cls ≠ "java/lang/invoke/MethodHandle" ∧ q.1.cls ≠ "java/lang/invoke/VarHandle") ∧ Cond.instantiable q.1.cls q.2 ∈ tables_1 ∧ Cond.privateMethod q.1 ∈ tables_1 ∧ Cond.instanceMethod q.1 ∈ tables_1
theorem lw_p0 : lw_okq (⟨"ExitFalls$Tape", "scanWord", "()V"⟩, 7) := ⟨⟨by decide +kernel, by decide +kernel⟩, List.mem_of_getElem? (i := 30) (by decide +kernel), List.mem_of_getElem? (i := 468) (by decide +kernel), List.mem_of_getElem? (i := 469) (by decide +kernel)⟩
theorem lw_p1 : lw_okq (⟨"ExitFalls$Tape", "scanNumber", "()V"⟩, 7) := ⟨⟨by decide +kernel, by decide +kernel⟩, List.mem_of_getElem? (i := 30) (by decide +kernel), List.mem_of_getElem? (i := 476) (by decide +kernel), List.mem_of_getElem? (i := 477) (by decide +kernel)⟩
theorem lw_p2 : lw_okq (⟨"ExitFalls$Reader", "readLine", "()Z"⟩, 7) := ⟨⟨by decide +kernel, by decide +kernel⟩, List.mem_of_getElem? (i := 64) (by decide +kernel), List.mem_of_getElem? (i := 480) (by decide +kernel), List.mem_of_getElem? (i := 481) (by decide +kernel)⟩
theorem lw_p3 : lw_okq (⟨"ExitFalls$Reader", "keptWord", "()I"⟩, 7) := ⟨⟨by decide +kernel, by decide +kernel⟩, List.mem_of_getElem? (i := 64) (by decide +kernel), List.mem_of_getElem? (i := 484) (by decide +kernel), List.mem_of_getElem? (i := 485) (by decide +kernel)⟩
theorem lw_p4 : lw_okq (⟨"ExitFalls$Reader", "refuse", "(I)Z"⟩, 7) := ⟨⟨by decide +kernel, by decide +kernel⟩, List.mem_of_getElem? (i := 64) (by decide +kernel), List.mem_of_getElem? (i := 488) (by decide +kernel), List.mem_of_getElem? (i := 489) (by decide +kernel)⟩
theorem lw_p5 : lw_okq (⟨"ExitFalls$Reader", "readItems", "([I)Z"⟩, 7) := ⟨⟨by decide +kernel, by decide +kernel⟩, List.mem_of_getElem? (i := 64) (by decide +kernel), List.mem_of_getElem? (i := 527) (by decide +kernel), List.mem_of_getElem? (i := 528) (by decide +kernel)⟩
theorem lw_p6 : lw_okq (⟨"ExitFalls$Reader", "readNumber", "(III)Z"⟩, 7) := ⟨⟨by decide +kernel, by decide +kernel⟩, List.mem_of_getElem? (i := 64) (by decide +kernel), List.mem_of_getElem? (i := 531) (by decide +kernel), List.mem_of_getElem? (i := 532) (by decide +kernel)⟩
theorem lw_p7 : lw_okq (⟨"ExitFalls$Reader", "readName", "()Z"⟩, 7) := ⟨⟨by decide +kernel, by decide +kernel⟩, List.mem_of_getElem? (i := 64) (by decide +kernel), List.mem_of_getElem? (i := 536) (by decide +kernel), List.mem_of_getElem? (i := 537) (by decide +kernel)⟩
theorem lw_p8 : lw_okq (⟨"ExitFalls$Reader", "readWord", "(I)Z"⟩, 7) := ⟨⟨by decide +kernel, by decide +kernel⟩, List.mem_of_getElem? (i := 64) (by decide +kernel), List.mem_of_getElem? (i := 540) (by decide +kernel), List.mem_of_getElem? (i := 541) (by decide +kernel)⟩
theorem lw_p9 : lw_okq (⟨"ExitFalls$Reader", "readSign", "()Z"⟩, 7) := ⟨⟨by decide +kernel, by decide +kernel⟩, List.mem_of_getElem? (i := 64) (by decide +kernel), List.mem_of_getElem? (i := 544) (by decide +kernel), List.mem_of_getElem? (i := 545) (by decide +kernel)⟩
theorem lw_p10 : lw_okq (⟨"ExitFalls", "isAsked", "(II)Z"⟩, 9) := ⟨⟨by decide +kernel, by decide +kernel⟩, List.mem_of_getElem? (i := 22) (by decide +kernel), List.mem_of_getElem? (i := 585) (by decide +kernel), List.mem_of_getElem? (i := 586) (by decide +kernel)⟩
theorem lw_p11 : lw_okq (⟨"ExitFalls", "pour", "(I)V"⟩, 9) := ⟨⟨by decide +kernel, by decide +kernel⟩, List.mem_of_getElem? (i := 22) (by decide +kernel), List.mem_of_getElem? (i := 597) (by decide +kernel), List.mem_of_getElem? (i := 598) (by decide +kernel)⟩
theorem lw_p12 : lw_okq (⟨"ExitFalls$Fall", "addClass", "(LExitFalls$Firm;IZZ)V"⟩, 10) := ⟨⟨by decide +kernel, by decide +kernel⟩, List.mem_of_getElem? (i := 178) (by decide +kernel), List.mem_of_getElem? (i := 611) (by decide +kernel), List.mem_of_getElem? (i := 612) (by decide +kernel)⟩
theorem lw_p13 : lw_okq (⟨"ExitFalls$Fall", "countPrefs", "(IJ)V"⟩, 10) := ⟨⟨by decide +kernel, by decide +kernel⟩, List.mem_of_getElem? (i := 178) (by decide +kernel), List.mem_of_getElem? (i := 624) (by decide +kernel), List.mem_of_getElem? (i := 625) (by decide +kernel)⟩
theorem lw_p14 : lw_okq (⟨"ExitFalls$Curves", "isLater", "(II)Z"⟩, 14) := ⟨⟨by decide +kernel, by decide +kernel⟩, List.mem_of_getElem? (i := 184) (by decide +kernel), List.mem_of_getElem? (i := 639) (by decide +kernel), List.mem_of_getElem? (i := 640) (by decide +kernel)⟩
theorem lw_p15 : lw_okq (⟨"ExitFalls$Fall", "addOther", "(LExitFalls$Firm;I)V"⟩, 10) := ⟨⟨by decide +kernel, by decide +kernel⟩, List.mem_of_getElem? (i := 178) (by decide +kernel), List.mem_of_getElem? (i := 643) (by decide +kernel), List.mem_of_getElem? (i := 644) (by decide +kernel)⟩
def lw_privs_1 : List (MethodName × Nat) := [(⟨"ExitFalls$Tape", "scanWord", "()V"⟩, 7), (⟨"ExitFalls$Tape", "scanNumber", "()V"⟩, 7), (⟨"ExitFalls$Reader", "readLine", "()Z"⟩, 7), (⟨"ExitFalls$Reader", "keptWord", "()I"⟩, 7), (⟨"ExitFalls$Reader", "refuse", "(I)Z"⟩, 7), (⟨"ExitFalls$Reader", "readItems", "([I)Z"⟩, 7), (⟨"ExitFalls$Reader", "readNumber", "(III)Z"⟩, 7), (⟨"ExitFalls$Reader", "readName", "()Z"⟩, 7), (⟨"ExitFalls$Reader", "readWord", "(I)Z"⟩, 7), (⟨"ExitFalls$Reader", "readSign", "()Z"⟩, 7), (⟨"ExitFalls", "isAsked", "(II)Z"⟩, 9), (⟨"ExitFalls", "pour", "(I)V"⟩, 9), (⟨"ExitFalls$Fall", "addClass", "(LExitFalls$Firm;IZZ)V"⟩, 10), (⟨"ExitFalls$Fall", "countPrefs", "(IJ)V"⟩, 10), (⟨"ExitFalls$Curves", "isLater", "(II)Z"⟩, 14), (⟨"ExitFalls$Fall", "addOther", "(LExitFalls$Firm;I)V"⟩, 10)]
theorem lw_r1 : ∀ q ∈ lw_privs_1, lw_okq q := List.forall_mem_cons.mpr ⟨lw_p0, List.forall_mem_cons.mpr ⟨lw_p1, List.forall_mem_cons.mpr ⟨lw_p2, List.forall_mem_cons.mpr ⟨lw_p3, List.forall_mem_cons.mpr ⟨lw_p4, List.forall_mem_cons.mpr ⟨lw_p5, List.forall_mem_cons.mpr ⟨lw_p6, List.forall_mem_cons.mpr ⟨lw_p7, List.forall_mem_cons.mpr ⟨lw_p8, List.forall_mem_cons.mpr ⟨lw_p9, List.forall_mem_cons.mpr ⟨lw_p10, List.forall_mem_cons.mpr ⟨lw_p11, List.forall_mem_cons.mpr ⟨lw_p12, List.forall_mem_cons.mpr ⟨lw_p13, List.forall_mem_cons.mpr ⟨lw_p14, List.forall_mem_cons.mpr ⟨lw_p15, fun _ h => absurd h List.not_mem_nil⟩⟩⟩⟩⟩⟩⟩⟩⟩⟩⟩⟩⟩⟩⟩⟩
theorem lw_p16 : lw_okq (⟨"ExitFalls$Fall", "pourByRanks", "(J)V"⟩, 10) := ⟨⟨by decide +kernel, by decide +kernel⟩, List.mem_of_getElem? (i := 178) (by decide +kernel), List.mem_of_getElem? (i := 657) (by decide +kernel), List.mem_of_getElem? (i := 658) (by decide +kernel)⟩
theorem lw_p17 : lw_okq (⟨"ExitFalls$Fall", "pourByLevel", "(J)V"⟩, 10) := ⟨⟨by decide +kernel, by decide +kernel⟩, List.mem_of_getElem? (i := 178) (by decide +kernel), List.mem_of_getElem? (i := 665) (by decide +kernel), List.mem_of_getElem? (i := 666) (by decide +kernel)⟩
theorem lw_p18 : lw_okq (⟨"ExitFalls", "unitsFor", "(II)I"⟩, 9) := ⟨⟨by decide +kernel, by decide +kernel⟩, List.mem_of_getElem? (i := 22) (by decide +kernel), List.mem_of_getElem? (i := 716) (by decide +kernel), List.mem_of_getElem? (i := 717) (by decide +kernel)⟩
theorem lw_p19 : lw_okq (⟨"ExitFalls", "firstAmount", "(IJJZ)I"⟩, 9) := ⟨⟨by decide +kernel, by decide +kernel⟩, List.mem_of_getElem? (i := 22) (by decide +kernel), List.mem_of_getElem? (i := 735) (by decide +kernel), List.mem_of_getElem? (i := 736) (by decide +kernel)⟩
theorem lw_p20 : lw_okq (⟨"ExitFalls", "thoseWithMore", "(II)I"⟩, 9) := ⟨⟨by decide +kernel, by decide +kernel⟩, List.mem_of_getElem? (i := 22) (by decide +kernel), List.mem_of_getElem? (i := 778) (by decide +kernel), List.mem_of_getElem? (i := 779) (by decide +kernel)⟩
theorem lw_p21 : lw_okq (⟨"ExitFalls", "votesTogether", "(I)I"⟩, 9) := ⟨⟨by decide +kernel, by decide +kernel⟩, List.mem_of_getElem? (i := 22) (by decide +kernel), List.mem_of_getElem? (i := 796) (by decide +kernel), List.mem_of_getElem? (i := 797) (by decide +kernel)⟩
theorem lw_p22 : lw_okq (⟨"ExitFalls$Breaks", "add", "(JJ)V"⟩, 6) := ⟨⟨by decide +kernel, by decide +kernel⟩, List.mem_of_getElem? (i := 281) (by decide +kernel), List.mem_of_getElem? (i := 816) (by decide +kernel), List.mem_of_getElem? (i := 817) (by decide +kernel)⟩
theorem lw_p23 : lw_okq (⟨"ExitFalls$Breaks", "findPartOfRank", "(LExitFalls$Fall;II)V"⟩, 6) := ⟨⟨by decide +kernel, by decide +kernel⟩, List.mem_of_getElem? (i := 281) (by decide +kernel), List.mem_of_getElem? (i := 833) (by decide +kernel), List.mem_of_getElem? (i := 834) (by decide +kernel)⟩
theorem lw_p24 : lw_okq (⟨"ExitFalls$Breaks", "setPart", "(JJ)V"⟩, 6) := ⟨⟨by decide +kernel, by decide +kernel⟩, List.mem_of_getElem? (i := 281) (by decide +kernel), List.mem_of_getElem? (i := 841) (by decide +kernel), List.mem_of_getElem? (i := 842) (by decide +kernel)⟩
theorem lw_p25 : lw_okq (⟨"ExitFalls$Breaks", "findPartByLevel", "(LExitFalls$Curves;II)V"⟩, 6) := ⟨⟨by decide +kernel, by decide +kernel⟩, List.mem_of_getElem? (i := 281) (by decide +kernel), List.mem_of_getElem? (i := 845) (by decide +kernel), List.mem_of_getElem? (i := 846) (by decide +kernel)⟩
theorem lw_p26 : lw_okq (⟨"ExitFalls$Game", "play", "(LExitFalls$Firm;LExitFalls$Fall;IJ)V"⟩, 4) := ⟨⟨by decide +kernel, by decide +kernel⟩, List.mem_of_getElem? (i := 311) (by decide +kernel), List.mem_of_getElem? (i := 871) (by decide +kernel), List.mem_of_getElem? (i := 872) (by decide +kernel)⟩
theorem lw_p27 : lw_okq (⟨"ExitFalls$Game", "setOf", "(I)I"⟩, 4) := ⟨⟨by decide +kernel, by decide +kernel⟩, List.mem_of_getElem? (i := 311) (by decide +kernel), List.mem_of_getElem? (i := 875) (by decide +kernel), List.mem_of_getElem? (i := 876) (by decide +kernel)⟩
theorem lw_p28 : lw_okq (⟨"ExitFalls$Game", "gains", "(III)Z"⟩, 4) := ⟨⟨by decide +kernel, by decide +kernel⟩, List.mem_of_getElem? (i := 311) (by decide +kernel), List.mem_of_getElem? (i := 886) (by decide +kernel), List.mem_of_getElem? (i := 887) (by decide +kernel)⟩
theorem lw_p29 : lw_okq (⟨"ExitFalls$Acts", "put", "(II)V"⟩, 3) := ⟨⟨by decide +kernel, by decide +kernel⟩, List.mem_of_getElem? (i := 381) (by decide +kernel), List.mem_of_getElem? (i := 923) (by decide +kernel), List.mem_of_getElem? (i := 924) (by decide +kernel)⟩
theorem lw_p30 : lw_okq (⟨"ExitFalls", "saleOf", "(I)I"⟩, 9) := ⟨⟨by decide +kernel, by decide +kernel⟩, List.mem_of_getElem? (i := 22) (by decide +kernel), List.mem_of_getElem? (i := 944) (by decide +kernel), List.mem_of_getElem? (i := 945) (by decide +kernel)⟩
theorem lw_p31 : lw_okq (⟨"ExitFallsModel", "four", "(I)V"⟩, 60) := ⟨⟨by decide +kernel, by decide +kernel⟩, List.mem_of_getElem? (i := 1029) (by decide +kernel), List.mem_of_getElem? (i := 1221) (by decide +kernel), List.mem_of_getElem? (i := 1222) (by decide +kernel)⟩
def lw_privs_2 : List (MethodName × Nat) := [(⟨"ExitFalls$Fall", "pourByRanks", "(J)V"⟩, 10), (⟨"ExitFalls$Fall", "pourByLevel", "(J)V"⟩, 10), (⟨"ExitFalls", "unitsFor", "(II)I"⟩, 9), (⟨"ExitFalls", "firstAmount", "(IJJZ)I"⟩, 9), (⟨"ExitFalls", "thoseWithMore", "(II)I"⟩, 9), (⟨"ExitFalls", "votesTogether", "(I)I"⟩, 9), (⟨"ExitFalls$Breaks", "add", "(JJ)V"⟩, 6), (⟨"ExitFalls$Breaks", "findPartOfRank", "(LExitFalls$Fall;II)V"⟩, 6), (⟨"ExitFalls$Breaks", "setPart", "(JJ)V"⟩, 6), (⟨"ExitFalls$Breaks", "findPartByLevel", "(LExitFalls$Curves;II)V"⟩, 6), (⟨"ExitFalls$Game", "play", "(LExitFalls$Firm;LExitFalls$Fall;IJ)V"⟩, 4), (⟨"ExitFalls$Game", "setOf", "(I)I"⟩, 4), (⟨"ExitFalls$Game", "gains", "(III)Z"⟩, 4), (⟨"ExitFalls$Acts", "put", "(II)V"⟩, 3), (⟨"ExitFalls", "saleOf", "(I)I"⟩, 9), (⟨"ExitFallsModel", "four", "(I)V"⟩, 60)]
theorem lw_r2 : ∀ q ∈ lw_privs_2, lw_okq q := List.forall_mem_cons.mpr ⟨lw_p16, List.forall_mem_cons.mpr ⟨lw_p17, List.forall_mem_cons.mpr ⟨lw_p18, List.forall_mem_cons.mpr ⟨lw_p19, List.forall_mem_cons.mpr ⟨lw_p20, List.forall_mem_cons.mpr ⟨lw_p21, List.forall_mem_cons.mpr ⟨lw_p22, List.forall_mem_cons.mpr ⟨lw_p23, List.forall_mem_cons.mpr ⟨lw_p24, List.forall_mem_cons.mpr ⟨lw_p25, List.forall_mem_cons.mpr ⟨lw_p26, List.forall_mem_cons.mpr ⟨lw_p27, List.forall_mem_cons.mpr ⟨lw_p28, List.forall_mem_cons.mpr ⟨lw_p29, List.forall_mem_cons.mpr ⟨lw_p30, List.forall_mem_cons.mpr ⟨lw_p31, fun _ h => absurd h List.not_mem_nil⟩⟩⟩⟩⟩⟩⟩⟩⟩⟩⟩⟩⟩⟩⟩⟩
theorem lw_p32 : lw_okq (⟨"ExitFallsModel", "goOn", "()V"⟩, 60) := ⟨⟨by decide +kernel, by decide +kernel⟩, List.mem_of_getElem? (i := 1029) (by decide +kernel), List.mem_of_getElem? (i := 1236) (by decide +kernel), List.mem_of_getElem? (i := 1237) (by decide +kernel)⟩
theorem lw_p33 : lw_okq (⟨"ExitFallsModel", "isGood", "()Z"⟩, 60) := ⟨⟨by decide +kernel, by decide +kernel⟩, List.mem_of_getElem? (i := 1029) (by decide +kernel), List.mem_of_getElem? (i := 1240) (by decide +kernel), List.mem_of_getElem? (i := 1241) (by decide +kernel)⟩
theorem lw_p34 : lw_okq (⟨"ExitFallsModel", "byteAt", "(I)I"⟩, 60) := ⟨⟨by decide +kernel, by decide +kernel⟩, List.mem_of_getElem? (i := 1029) (by decide +kernel), List.mem_of_getElem? (i := 1244) (by decide +kernel), List.mem_of_getElem? (i := 1245) (by decide +kernel)⟩
theorem lw_p35 : lw_okq (⟨"ExitFallsModel", "readLine", "()V"⟩, 60) := ⟨⟨by decide +kernel, by decide +kernel⟩, List.mem_of_getElem? (i := 1029) (by decide +kernel), List.mem_of_getElem? (i := 1255) (by decide +kernel), List.mem_of_getElem? (i := 1256) (by decide +kernel)⟩
theorem lw_p36 : lw_okq (⟨"ExitFallsModel", "isWord", "(II)Z"⟩, 60) := ⟨⟨by decide +kernel, by decide +kernel⟩, List.mem_of_getElem? (i := 1029) (by decide +kernel), List.mem_of_getElem? (i := 1260) (by decide +kernel), List.mem_of_getElem? (i := 1261) (by decide +kernel)⟩
theorem lw_p37 : lw_okq (⟨"ExitFallsModel", "readHolder", "(II)V"⟩, 60) := ⟨⟨by decide +kernel, by decide +kernel⟩, List.mem_of_getElem? (i := 1029) (by decide +kernel), List.mem_of_getElem? (i := 1264) (by decide +kernel), List.mem_of_getElem? (i := 1265) (by decide +kernel)⟩
theorem lw_p38 : lw_okq (⟨"ExitFallsModel", "manyOf", "(I)I"⟩, 60) := ⟨⟨by decide +kernel, by decide +kernel⟩, List.mem_of_getElem? (i := 1029) (by decide +kernel), List.mem_of_getElem? (i := 1268) (by decide +kernel), List.mem_of_getElem? (i := 1269) (by decide +kernel)⟩
theorem lw_p39 : lw_okq (⟨"ExitFallsModel", "fails", "(I)V"⟩, 60) := ⟨⟨by decide +kernel, by decide +kernel⟩, List.mem_of_getElem? (i := 1029) (by decide +kernel), List.mem_of_getElem? (i := 1272) (by decide +kernel), List.mem_of_getElem? (i := 1273) (by decide +kernel)⟩
theorem lw_p40 : lw_okq (⟨"ExitFallsModel", "readName", "()V"⟩, 60) := ⟨⟨by decide +kernel, by decide +kernel⟩, List.mem_of_getElem? (i := 1029) (by decide +kernel), List.mem_of_getElem? (i := 1276) (by decide +kernel), List.mem_of_getElem? (i := 1277) (by decide +kernel)⟩
theorem lw_p41 : lw_okq (⟨"ExitFallsModel", "isName", "()Z"⟩, 60) := ⟨⟨by decide +kernel, by decide +kernel⟩, List.mem_of_getElem? (i := 1029) (by decide +kernel), List.mem_of_getElem? (i := 1280) (by decide +kernel), List.mem_of_getElem? (i := 1281) (by decide +kernel)⟩
theorem lw_p42 : lw_okq (⟨"ExitFallsModel", "isTold", "()Z"⟩, 60) := ⟨⟨by decide +kernel, by decide +kernel⟩, List.mem_of_getElem? (i := 1029) (by decide +kernel), List.mem_of_getElem? (i := 1292) (by decide +kernel), List.mem_of_getElem? (i := 1293) (by decide +kernel)⟩
theorem lw_p43 : lw_okq (⟨"ExitFallsModel", "number", "(II)I"⟩, 60) := ⟨⟨by decide +kernel, by decide +kernel⟩, List.mem_of_getElem? (i := 1029) (by decide +kernel), List.mem_of_getElem? (i := 1296) (by decide +kernel), List.mem_of_getElem? (i := 1297) (by decide +kernel)⟩
theorem lw_p44 : lw_okq (⟨"ExitFallsModel", "keyword", "(II)V"⟩, 60) := ⟨⟨by decide +kernel, by decide +kernel⟩, List.mem_of_getElem? (i := 1029) (by decide +kernel), List.mem_of_getElem? (i := 1300) (by decide +kernel), List.mem_of_getElem? (i := 1301) (by decide +kernel)⟩
theorem lw_p45 : lw_okq (⟨"ExitFallsModel", "readTerms", "(I)V"⟩, 60) := ⟨⟨by decide +kernel, by decide +kernel⟩, List.mem_of_getElem? (i := 1029) (by decide +kernel), List.mem_of_getElem? (i := 1304) (by decide +kernel), List.mem_of_getElem? (i := 1305) (by decide +kernel)⟩
theorem lw_p46 : lw_okq (⟨"ExitFallsModel", "goesOver", "(II)Z"⟩, 60) := ⟨⟨by decide +kernel, by decide +kernel⟩, List.mem_of_getElem? (i := 1029) (by decide +kernel), List.mem_of_getElem? (i := 1308) (by decide +kernel), List.mem_of_getElem? (i := 1309) (by decide +kernel)⟩
theorem lw_p47 : lw_okq (⟨"ExitFallsModel", "isHolder", "(I)Z"⟩, 60) := ⟨⟨by decide +kernel, by decide +kernel⟩, List.mem_of_getElem? (i := 1029) (by decide +kernel), List.mem_of_getElem? (i := 1324) (by decide +kernel), List.mem_of_getElem? (i := 1325) (by decide +kernel)⟩
def lw_privs_3 : List (MethodName × Nat) := [(⟨"ExitFallsModel", "goOn", "()V"⟩, 60), (⟨"ExitFallsModel", "isGood", "()Z"⟩, 60), (⟨"ExitFallsModel", "byteAt", "(I)I"⟩, 60), (⟨"ExitFallsModel", "readLine", "()V"⟩, 60), (⟨"ExitFallsModel", "isWord", "(II)Z"⟩, 60), (⟨"ExitFallsModel", "readHolder", "(II)V"⟩, 60), (⟨"ExitFallsModel", "manyOf", "(I)I"⟩, 60), (⟨"ExitFallsModel", "fails", "(I)V"⟩, 60), (⟨"ExitFallsModel", "readName", "()V"⟩, 60), (⟨"ExitFallsModel", "isName", "()Z"⟩, 60), (⟨"ExitFallsModel", "isTold", "()Z"⟩, 60), (⟨"ExitFallsModel", "number", "(II)I"⟩, 60), (⟨"ExitFallsModel", "keyword", "(II)V"⟩, 60), (⟨"ExitFallsModel", "readTerms", "(I)V"⟩, 60), (⟨"ExitFallsModel", "goesOver", "(II)Z"⟩, 60), (⟨"ExitFallsModel", "isHolder", "(I)Z"⟩, 60)]
theorem lw_r3 : ∀ q ∈ lw_privs_3, lw_okq q := List.forall_mem_cons.mpr ⟨lw_p32, List.forall_mem_cons.mpr ⟨lw_p33, List.forall_mem_cons.mpr ⟨lw_p34, List.forall_mem_cons.mpr ⟨lw_p35, List.forall_mem_cons.mpr ⟨lw_p36, List.forall_mem_cons.mpr ⟨lw_p37, List.forall_mem_cons.mpr ⟨lw_p38, List.forall_mem_cons.mpr ⟨lw_p39, List.forall_mem_cons.mpr ⟨lw_p40, List.forall_mem_cons.mpr ⟨lw_p41, List.forall_mem_cons.mpr ⟨lw_p42, List.forall_mem_cons.mpr ⟨lw_p43, List.forall_mem_cons.mpr ⟨lw_p44, List.forall_mem_cons.mpr ⟨lw_p45, List.forall_mem_cons.mpr ⟨lw_p46, List.forall_mem_cons.mpr ⟨lw_p47, fun _ h => absurd h List.not_mem_nil⟩⟩⟩⟩⟩⟩⟩⟩⟩⟩⟩⟩⟩⟩⟩⟩
theorem lw_p48 : lw_okq (⟨"ExitFallsModel", "prefOf", "(I)I"⟩, 60) := ⟨⟨by decide +kernel, by decide +kernel⟩, List.mem_of_getElem? (i := 1029) (by decide +kernel), List.mem_of_getElem? (i := 1328) (by decide +kernel), List.mem_of_getElem? (i := 1329) (by decide +kernel)⟩
theorem lw_p49 : lw_okq (⟨"ExitFallsModel", "layBy", "(I)V"⟩, 60) := ⟨⟨by decide +kernel, by decide +kernel⟩, List.mem_of_getElem? (i := 1029) (by decide +kernel), List.mem_of_getElem? (i := 1344) (by decide +kernel), List.mem_of_getElem? (i := 1345) (by decide +kernel)⟩
theorem lw_p50 : lw_okq (⟨"ExitFallsModel", "lay", "(J)V"⟩, 60) := ⟨⟨by decide +kernel, by decide +kernel⟩, List.mem_of_getElem? (i := 1029) (by decide +kernel), List.mem_of_getElem? (i := 1352) (by decide +kernel), List.mem_of_getElem? (i := 1353) (by decide +kernel)⟩
theorem lw_p51 : lw_okq (⟨"ExitFallsModel", "firsts", "()J"⟩, 60) := ⟨⟨by decide +kernel, by decide +kernel⟩, List.mem_of_getElem? (i := 1029) (by decide +kernel), List.mem_of_getElem? (i := 1356) (by decide +kernel), List.mem_of_getElem? (i := 1357) (by decide +kernel)⟩
theorem lw_p52 : lw_okq (⟨"ExitFallsModel", "firstOf", "(I)J"⟩, 60) := ⟨⟨by decide +kernel, by decide +kernel⟩, List.mem_of_getElem? (i := 1029) (by decide +kernel), List.mem_of_getElem? (i := 1360) (by decide +kernel), List.mem_of_getElem? (i := 1361) (by decide +kernel)⟩
theorem lw_p53 : lw_okq (⟨"ExitFallsModel", "isTurned", "(I)Z"⟩, 60) := ⟨⟨by decide +kernel, by decide +kernel⟩, List.mem_of_getElem? (i := 1029) (by decide +kernel), List.mem_of_getElem? (i := 1364) (by decide +kernel), List.mem_of_getElem? (i := 1365) (by decide +kernel)⟩
theorem lw_p54 : lw_okq (⟨"ExitFallsModel", "canTurn", "(I)Z"⟩, 60) := ⟨⟨by decide +kernel, by decide +kernel⟩, List.mem_of_getElem? (i := 1029) (by decide +kernel), List.mem_of_getElem? (i := 1368) (by decide +kernel), List.mem_of_getElem? (i := 1369) (by decide +kernel)⟩
theorem lw_p55 : lw_okq (⟨"ExitFallsModel", "isClass", "(I)Z"⟩, 60) := ⟨⟨by decide +kernel, by decide +kernel⟩, List.mem_of_getElem? (i := 1029) (by decide +kernel), List.mem_of_getElem? (i := 1372) (by decide +kernel), List.mem_of_getElem? (i := 1373) (by decide +kernel)⟩
theorem lw_p56 : lw_okq (⟨"ExitFallsModel", "layRanks", "(J)V"⟩, 60) := ⟨⟨by decide +kernel, by decide +kernel⟩, List.mem_of_getElem? (i := 1029) (by decide +kernel), List.mem_of_getElem? (i := 1376) (by decide +kernel), List.mem_of_getElem? (i := 1377) (by decide +kernel)⟩
theorem lw_p57 : lw_okq (⟨"ExitFallsModel", "firstsOf", "(I)J"⟩, 60) := ⟨⟨by decide +kernel, by decide +kernel⟩, List.mem_of_getElem? (i := 1029) (by decide +kernel), List.mem_of_getElem? (i := 1380) (by decide +kernel), List.mem_of_getElem? (i := 1381) (by decide +kernel)⟩
theorem lw_p58 : lw_okq (⟨"ExitFallsModel", "layEdges", "()V"⟩, 60) := ⟨⟨by decide +kernel, by decide +kernel⟩, List.mem_of_getElem? (i := 1029) (by decide +kernel), List.mem_of_getElem? (i := 1384) (by decide +kernel), List.mem_of_getElem? (i := 1385) (by decide +kernel)⟩
theorem lw_p59 : lw_okq (⟨"ExitFallsModel", "edge", "(JJ)V"⟩, 60) := ⟨⟨by decide +kernel, by decide +kernel⟩, List.mem_of_getElem? (i := 1029) (by decide +kernel), List.mem_of_getElem? (i := 1388) (by decide +kernel), List.mem_of_getElem? (i := 1389) (by decide +kernel)⟩
theorem lw_p60 : lw_okq (⟨"ExitFallsModel", "topOf", "(I)I"⟩, 60) := ⟨⟨by decide +kernel, by decide +kernel⟩, List.mem_of_getElem? (i := 1029) (by decide +kernel), List.mem_of_getElem? (i := 1392) (by decide +kernel), List.mem_of_getElem? (i := 1393) (by decide +kernel)⟩
theorem lw_p61 : lw_okq (⟨"ExitFallsModel", "layFrom", "(JJ)V"⟩, 60) := ⟨⟨by decide +kernel, by decide +kernel⟩, List.mem_of_getElem? (i := 1029) (by decide +kernel), List.mem_of_getElem? (i := 1396) (by decide +kernel), List.mem_of_getElem? (i := 1397) (by decide +kernel)⟩
theorem lw_p62 : lw_okq (⟨"ExitFallsModel", "layClass", "(IJJ)V"⟩, 60) := ⟨⟨by decide +kernel, by decide +kernel⟩, List.mem_of_getElem? (i := 1029) (by decide +kernel), List.mem_of_getElem? (i := 1401) (by decide +kernel), List.mem_of_getElem? (i := 1402) (by decide +kernel)⟩
theorem lw_p63 : lw_okq (⟨"ExitFallsModel", "allGoes", "()J"⟩, 60) := ⟨⟨by decide +kernel, by decide +kernel⟩, List.mem_of_getElem? (i := 1029) (by decide +kernel), List.mem_of_getElem? (i := 1405) (by decide +kernel), List.mem_of_getElem? (i := 1406) (by decide +kernel)⟩
def lw_privs_4 : List (MethodName × Nat) := [(⟨"ExitFallsModel", "prefOf", "(I)I"⟩, 60), (⟨"ExitFallsModel", "layBy", "(I)V"⟩, 60), (⟨"ExitFallsModel", "lay", "(J)V"⟩, 60), (⟨"ExitFallsModel", "firsts", "()J"⟩, 60), (⟨"ExitFallsModel", "firstOf", "(I)J"⟩, 60), (⟨"ExitFallsModel", "isTurned", "(I)Z"⟩, 60), (⟨"ExitFallsModel", "canTurn", "(I)Z"⟩, 60), (⟨"ExitFallsModel", "isClass", "(I)Z"⟩, 60), (⟨"ExitFallsModel", "layRanks", "(J)V"⟩, 60), (⟨"ExitFallsModel", "firstsOf", "(I)J"⟩, 60), (⟨"ExitFallsModel", "layEdges", "()V"⟩, 60), (⟨"ExitFallsModel", "edge", "(JJ)V"⟩, 60), (⟨"ExitFallsModel", "topOf", "(I)I"⟩, 60), (⟨"ExitFallsModel", "layFrom", "(JJ)V"⟩, 60), (⟨"ExitFallsModel", "layClass", "(IJJ)V"⟩, 60), (⟨"ExitFallsModel", "allGoes", "()J"⟩, 60)]
theorem lw_r4 : ∀ q ∈ lw_privs_4, lw_okq q := List.forall_mem_cons.mpr ⟨lw_p48, List.forall_mem_cons.mpr ⟨lw_p49, List.forall_mem_cons.mpr ⟨lw_p50, List.forall_mem_cons.mpr ⟨lw_p51, List.forall_mem_cons.mpr ⟨lw_p52, List.forall_mem_cons.mpr ⟨lw_p53, List.forall_mem_cons.mpr ⟨lw_p54, List.forall_mem_cons.mpr ⟨lw_p55, List.forall_mem_cons.mpr ⟨lw_p56, List.forall_mem_cons.mpr ⟨lw_p57, List.forall_mem_cons.mpr ⟨lw_p58, List.forall_mem_cons.mpr ⟨lw_p59, List.forall_mem_cons.mpr ⟨lw_p60, List.forall_mem_cons.mpr ⟨lw_p61, List.forall_mem_cons.mpr ⟨lw_p62, List.forall_mem_cons.mpr ⟨lw_p63, fun _ h => absurd h List.not_mem_nil⟩⟩⟩⟩⟩⟩⟩⟩⟩⟩⟩⟩⟩⟩⟩⟩
theorem lw_p64 : lw_okq (⟨"ExitFallsModel", "allFixed", "()J"⟩, 60) := ⟨⟨by decide +kernel, by decide +kernel⟩, List.mem_of_getElem? (i := 1029) (by decide +kernel), List.mem_of_getElem? (i := 1409) (by decide +kernel), List.mem_of_getElem? (i := 1410) (by decide +kernel)⟩
theorem lw_p65 : lw_okq (⟨"ExitFallsModel", "layLevel", "(JJ)V"⟩, 60) := ⟨⟨by decide +kernel, by decide +kernel⟩, List.mem_of_getElem? (i := 1029) (by decide +kernel), List.mem_of_getElem? (i := 1413) (by decide +kernel), List.mem_of_getElem? (i := 1414) (by decide +kernel)⟩
theorem lw_p66 : lw_okq (⟨"ExitFallsModel", "lowest", "(IZ)J"⟩, 60) := ⟨⟨by decide +kernel, by decide +kernel⟩, List.mem_of_getElem? (i := 1029) (by decide +kernel), List.mem_of_getElem? (i := 1420) (by decide +kernel), List.mem_of_getElem? (i := 1421) (by decide +kernel)⟩
theorem lw_p67 : lw_okq (⟨"ExitFallsModel", "stateOf", "(I)I"⟩, 60) := ⟨⟨by decide +kernel, by decide +kernel⟩, List.mem_of_getElem? (i := 1029) (by decide +kernel), List.mem_of_getElem? (i := 1432) (by decide +kernel), List.mem_of_getElem? (i := 1433) (by decide +kernel)⟩
theorem lw_p68 : lw_okq (⟨"ExitFallsModel", "paidOf", "(II)I"⟩, 60) := ⟨⟨by decide +kernel, by decide +kernel⟩, List.mem_of_getElem? (i := 1029) (by decide +kernel), List.mem_of_getElem? (i := 1440) (by decide +kernel), List.mem_of_getElem? (i := 1441) (by decide +kernel)⟩
theorem lw_p69 : lw_okq (⟨"ExitFallsModel", "layPaid", "(I)V"⟩, 60) := ⟨⟨by decide +kernel, by decide +kernel⟩, List.mem_of_getElem? (i := 1029) (by decide +kernel), List.mem_of_getElem? (i := 1444) (by decide +kernel), List.mem_of_getElem? (i := 1445) (by decide +kernel)⟩
theorem lw_p70 : lw_okq (⟨"ExitFallsModel", "hasUnits", "(III)Z"⟩, 60) := ⟨⟨by decide +kernel, by decide +kernel⟩, List.mem_of_getElem? (i := 1029) (by decide +kernel), List.mem_of_getElem? (i := 1452) (by decide +kernel), List.mem_of_getElem? (i := 1453) (by decide +kernel)⟩
theorem lw_p71 : lw_okq (⟨"ExitFallsModel", "asksFor", "(II)V"⟩, 60) := ⟨⟨by decide +kernel, by decide +kernel⟩, List.mem_of_getElem? (i := 1029) (by decide +kernel), List.mem_of_getElem? (i := 1460) (by decide +kernel), List.mem_of_getElem? (i := 1461) (by decide +kernel)⟩
theorem lw_p72 : lw_okq (⟨"ExitFallsModel", "isLike", "(II)Z"⟩, 60) := ⟨⟨by decide +kernel, by decide +kernel⟩, List.mem_of_getElem? (i := 1029) (by decide +kernel), List.mem_of_getElem? (i := 1465) (by decide +kernel), List.mem_of_getElem? (i := 1466) (by decide +kernel)⟩
theorem lw_p73 : lw_okq (⟨"ExitFallsModel", "prefersOf", "(II)I"⟩, 60) := ⟨⟨by decide +kernel, by decide +kernel⟩, List.mem_of_getElem? (i := 1029) (by decide +kernel), List.mem_of_getElem? (i := 1486) (by decide +kernel), List.mem_of_getElem? (i := 1487) (by decide +kernel)⟩
theorem lw_p74 : lw_okq (⟨"ExitFallsModel", "votesOf", "(I)I"⟩, 60) := ⟨⟨by decide +kernel, by decide +kernel⟩, List.mem_of_getElem? (i := 1029) (by decide +kernel), List.mem_of_getElem? (i := 1494) (by decide +kernel), List.mem_of_getElem? (i := 1495) (by decide +kernel)⟩
theorem lw_p75 : lw_okq (⟨"ExitFallsModel", "layBreaks", "()V"⟩, 60) := ⟨⟨by decide +kernel, by decide +kernel⟩, List.mem_of_getElem? (i := 1029) (by decide +kernel), List.mem_of_getElem? (i := 1506) (by decide +kernel), List.mem_of_getElem? (i := 1507) (by decide +kernel)⟩
theorem lw_p76 : lw_okq (⟨"ExitFallsModel", "puts", "(JJ)V"⟩, 60) := ⟨⟨by decide +kernel, by decide +kernel⟩, List.mem_of_getElem? (i := 1029) (by decide +kernel), List.mem_of_getElem? (i := 1510) (by decide +kernel), List.mem_of_getElem? (i := 1511) (by decide +kernel)⟩
theorem lw_p77 : lw_okq (⟨"ExitFallsModel", "allAt", "(I)J"⟩, 60) := ⟨⟨by decide +kernel, by decide +kernel⟩, List.mem_of_getElem? (i := 1029) (by decide +kernel), List.mem_of_getElem? (i := 1517) (by decide +kernel), List.mem_of_getElem? (i := 1518) (by decide +kernel)⟩
theorem lw_p78 : lw_okq (⟨"ExitFallsModel", "layPart", "(IJJ)V"⟩, 60) := ⟨⟨by decide +kernel, by decide +kernel⟩, List.mem_of_getElem? (i := 1029) (by decide +kernel), List.mem_of_getElem? (i := 1525) (by decide +kernel), List.mem_of_getElem? (i := 1526) (by decide +kernel)⟩
theorem lw_p79 : lw_okq (⟨"ExitFallsModel", "layChoice", "(II)V"⟩, 60) := ⟨⟨by decide +kernel, by decide +kernel⟩, List.mem_of_getElem? (i := 1029) (by decide +kernel), List.mem_of_getElem? (i := 1533) (by decide +kernel), List.mem_of_getElem? (i := 1534) (by decide +kernel)⟩
def lw_privs_5 : List (MethodName × Nat) := [(⟨"ExitFallsModel", "allFixed", "()J"⟩, 60), (⟨"ExitFallsModel", "layLevel", "(JJ)V"⟩, 60), (⟨"ExitFallsModel", "lowest", "(IZ)J"⟩, 60), (⟨"ExitFallsModel", "stateOf", "(I)I"⟩, 60), (⟨"ExitFallsModel", "paidOf", "(II)I"⟩, 60), (⟨"ExitFallsModel", "layPaid", "(I)V"⟩, 60), (⟨"ExitFallsModel", "hasUnits", "(III)Z"⟩, 60), (⟨"ExitFallsModel", "asksFor", "(II)V"⟩, 60), (⟨"ExitFallsModel", "isLike", "(II)Z"⟩, 60), (⟨"ExitFallsModel", "prefersOf", "(II)I"⟩, 60), (⟨"ExitFallsModel", "votesOf", "(I)I"⟩, 60), (⟨"ExitFallsModel", "layBreaks", "()V"⟩, 60), (⟨"ExitFallsModel", "puts", "(JJ)V"⟩, 60), (⟨"ExitFallsModel", "allAt", "(I)J"⟩, 60), (⟨"ExitFallsModel", "layPart", "(IJJ)V"⟩, 60), (⟨"ExitFallsModel", "layChoice", "(II)V"⟩, 60)]
theorem lw_r5 : ∀ q ∈ lw_privs_5, lw_okq q := List.forall_mem_cons.mpr ⟨lw_p64, List.forall_mem_cons.mpr ⟨lw_p65, List.forall_mem_cons.mpr ⟨lw_p66, List.forall_mem_cons.mpr ⟨lw_p67, List.forall_mem_cons.mpr ⟨lw_p68, List.forall_mem_cons.mpr ⟨lw_p69, List.forall_mem_cons.mpr ⟨lw_p70, List.forall_mem_cons.mpr ⟨lw_p71, List.forall_mem_cons.mpr ⟨lw_p72, List.forall_mem_cons.mpr ⟨lw_p73, List.forall_mem_cons.mpr ⟨lw_p74, List.forall_mem_cons.mpr ⟨lw_p75, List.forall_mem_cons.mpr ⟨lw_p76, List.forall_mem_cons.mpr ⟨lw_p77, List.forall_mem_cons.mpr ⟨lw_p78, List.forall_mem_cons.mpr ⟨lw_p79, fun _ h => absurd h List.not_mem_nil⟩⟩⟩⟩⟩⟩⟩⟩⟩⟩⟩⟩⟩⟩⟩⟩
theorem lw_p80 : lw_okq (⟨"ExitFallsModel", "isSteady", "(II)Z"⟩, 60) := ⟨⟨by decide +kernel, by decide +kernel⟩, List.mem_of_getElem? (i := 1029) (by decide +kernel), List.mem_of_getElem? (i := 1541) (by decide +kernel), List.mem_of_getElem? (i := 1542) (by decide +kernel)⟩
theorem lw_p81 : lw_okq (⟨"ExitFallsModel", "keep", "()V"⟩, 60) := ⟨⟨by decide +kernel, by decide +kernel⟩, List.mem_of_getElem? (i := 1029) (by decide +kernel), List.mem_of_getElem? (i := 1557) (by decide +kernel), List.mem_of_getElem? (i := 1558) (by decide +kernel)⟩
theorem lw_p82 : lw_okq (⟨"ExitFallsModel", "hasDouble", "(II)D"⟩, 60) := ⟨⟨by decide +kernel, by decide +kernel⟩, List.mem_of_getElem? (i := 1029) (by decide +kernel), List.mem_of_getElem? (i := 1577) (by decide +kernel), List.mem_of_getElem? (i := 1578) (by decide +kernel)⟩
def lw_privs_6 : List (MethodName × Nat) := [(⟨"ExitFallsModel", "isSteady", "(II)Z"⟩, 60), (⟨"ExitFallsModel", "keep", "()V"⟩, 60), (⟨"ExitFallsModel", "hasDouble", "(II)D"⟩, 60)]
theorem lw_r6 : ∀ q ∈ lw_privs_6, lw_okq q := List.forall_mem_cons.mpr ⟨lw_p80, List.forall_mem_cons.mpr ⟨lw_p81, List.forall_mem_cons.mpr ⟨lw_p82, fun _ h => absurd h List.not_mem_nil⟩⟩⟩
def lw_privs : List (MethodName × Nat) := lw_privs_1 ++ (lw_privs_2 ++ (lw_privs_3 ++ (lw_privs_4 ++ (lw_privs_5 ++ (lw_privs_6)))))
def lw_tbl : List Cond := k2_sels lw_privs ++ tables_1
theorem lw_privs_ok : ∀ q ∈ lw_privs, lw_okq q := by
  show ∀ q ∈ lw_privs_1 ++ (lw_privs_2 ++ (lw_privs_3 ++ (lw_privs_4 ++ (lw_privs_5 ++ (lw_privs_6))))), lw_okq q
  exact List.forall_mem_append.mpr ⟨lw_r1, List.forall_mem_append.mpr ⟨lw_r2, List.forall_mem_append.mpr ⟨lw_r3, List.forall_mem_append.mpr ⟨lw_r4, List.forall_mem_append.mpr ⟨lw_r5, lw_r6⟩⟩⟩⟩⟩
/-- the streams that the claim lets the run draw from -/
abbrev lw_cs : List Choice := [Jvm.Choice.named "NaN.bits"]
theorem lw_bits : nanBits ∈ lw_cs := by first | decide | exact List.mem_cons_self | simp [lw_cs, nanBits]

-- names
def RX0 : String := "ExitFalls$Acts"
def TX0 : u_T := fun k => match k with
  | 0 => ("ExitFalls$Acts", "rows", "[I", true)
  | 1 => ("ExitFalls$Acts", "newest", "I", false)
  | _ => ("ExitFalls$Acts", "count", "I", false)
def tyX0 : Nat → FieldType := fun k => match k with
  | 0 => .array .int
  | 1 => .int
  | _ => .int
theorem nmX0 : ∀ a, a < 3 → ∀ b, b < 3 → a ≠ b → (TX0 a).2.1 ≠ (TX0 b).2.1 := by decide +kernel
theorem tyX0_ok : ∀ k, k < 3 → parseFieldDescriptor (TX0 k).2.2.1 = some (tyX0 k) := by decide +kernel
abbrev cX0_init : ByteArray := prog_2_method_1_code
def yX0_init : MethodName := ⟨RX0, "<init>", "()V"⟩
abbrev cX0_keep : ByteArray := prog_2_method_2_code
def yX0_keep : MethodName := ⟨RX0, "keep", "(III)V"⟩
abbrev cX0_keepSale : ByteArray := prog_2_method_3_code
def yX0_keepSale : MethodName := ⟨RX0, "keepSale", "(LExitFalls$Sale;)V"⟩
abbrev cX0_giveBackSale : ByteArray := prog_2_method_4_code
def yX0_giveBackSale : MethodName := ⟨RX0, "giveBackSale", "(LExitFalls$Sale;)V"⟩
abbrev cX0_dropLatest : ByteArray := prog_2_method_5_code
def yX0_dropLatest : MethodName := ⟨RX0, "dropLatest", "()V"⟩
abbrev cX0_latest : ByteArray := prog_2_method_6_code
def yX0_latest : MethodName := ⟨RX0, "latest", "(I)I"⟩
abbrev cX0_put : ByteArray := prog_2_method_7_code
def yX0_put : MethodName := ⟨RX0, "put", "(II)V"⟩
def RX1 : String := "ExitFalls$Breaks"
def TX1 : u_T := fun k => match k with
  | 0 => ("ExitFalls$Breaks", "above", "[J", true)
  | 1 => ("ExitFalls$Breaks", "below", "[J", true)
  | 2 => ("ExitFalls$Breaks", "count", "I", false)
  | 3 => ("ExitFalls$Breaks", "paying", "I", false)
  | 4 => ("ExitFalls$Breaks", "partAbove", "J", false)
  | _ => ("ExitFalls$Breaks", "partBelow", "J", false)
def tyX1 : Nat → FieldType := fun k => match k with
  | 0 => .array .long
  | 1 => .array .long
  | 2 => .int
  | 3 => .int
  | 4 => .long
  | _ => .long
theorem nmX1 : ∀ a, a < 6 → ∀ b, b < 6 → a ≠ b → (TX1 a).2.1 ≠ (TX1 b).2.1 := by decide +kernel
theorem tyX1_ok : ∀ k, k < 6 → parseFieldDescriptor (TX1 k).2.2.1 = some (tyX1 k) := by decide +kernel
abbrev cX1_init : ByteArray := prog_3_method_1_code
def yX1_init : MethodName := ⟨RX1, "<init>", "()V"⟩
abbrev cX1_list : ByteArray := prog_3_method_2_code
def yX1_list : MethodName := ⟨RX1, "list", "(LExitFalls$Fall;)V"⟩
abbrev cX1_add : ByteArray := prog_3_method_3_code
def yX1_add : MethodName := ⟨RX1, "add", "(JJ)V"⟩
abbrev cX1_findPart : ByteArray := prog_3_method_4_code
def yX1_findPart : MethodName := ⟨RX1, "findPart", "(LExitFalls$Fall;II)V"⟩
abbrev cX1_findPartOfRank : ByteArray := prog_3_method_5_code
def yX1_findPartOfRank : MethodName := ⟨RX1, "findPartOfRank", "(LExitFalls$Fall;II)V"⟩
abbrev cX1_findPartByLevel : ByteArray := prog_3_method_6_code
def yX1_findPartByLevel : MethodName := ⟨RX1, "findPartByLevel", "(LExitFalls$Curves;II)V"⟩
abbrev cX1_setPart : ByteArray := prog_3_method_7_code
def yX1_setPart : MethodName := ⟨RX1, "setPart", "(JJ)V"⟩
def RX2 : String := "ExitFalls$Curves"
def TX2 : u_T := fun k => match k with
  | 0 => ("ExitFalls$Curves", "count", "I", false)
  | 1 => ("ExitFalls$Curves", "startFixed", "[J", true)
  | 2 => ("ExitFalls$Curves", "startSlope", "[J", true)
  | 3 => ("ExitFalls$Curves", "fixed", "[J", true)
  | 4 => ("ExitFalls$Curves", "slope", "[J", true)
  | 5 => ("ExitFalls$Curves", "allFixed", "J", false)
  | 6 => ("ExitFalls$Curves", "allSlope", "J", false)
  | 7 => ("ExitFalls$Curves", "steps", "I", false)
  | 8 => ("ExitFalls$Curves", "order", "[I", true)
  | 9 => ("ExitFalls$Curves", "who", "[I", true)
  | 10 => ("ExitFalls$Curves", "rise", "[I", true)
  | 11 => ("ExitFalls$Curves", "ratio", "[I", true)
  | 12 => ("ExitFalls$Curves", "fixedBy", "[J", true)
  | _ => ("ExitFalls$Curves", "slopeBy", "[J", true)
def tyX2 : Nat → FieldType := fun k => match k with
  | 0 => .int
  | 1 => .array .long
  | 2 => .array .long
  | 3 => .array .long
  | 4 => .array .long
  | 5 => .long
  | 6 => .long
  | 7 => .int
  | 8 => .array .int
  | 9 => .array .int
  | 10 => .array .int
  | 11 => .array .int
  | 12 => .array .long
  | _ => .array .long
theorem nmX2 : ∀ a, a < 14 → ∀ b, b < 14 → a ≠ b → (TX2 a).2.1 ≠ (TX2 b).2.1 := by decide +kernel
theorem tyX2_ok : ∀ k, k < 14 → parseFieldDescriptor (TX2 k).2.2.1 = some (tyX2 k) := by decide +kernel
abbrev cX2_init : ByteArray := prog_4_method_1_code
def yX2_init : MethodName := ⟨RX2, "<init>", "()V"⟩
abbrev cX2_clear : ByteArray := prog_4_method_2_code
def yX2_clear : MethodName := ⟨RX2, "clear", "()V"⟩
abbrev cX2_addHolder : ByteArray := prog_4_method_3_code
def yX2_addHolder : MethodName := ⟨RX2, "addHolder", "(JJ)V"⟩
abbrev cX2_addStep : ByteArray := prog_4_method_4_code
def yX2_addStep : MethodName := ⟨RX2, "addStep", "(IIJJ)V"⟩
abbrev cX2_isLater : ByteArray := prog_4_method_5_code
def yX2_isLater : MethodName := ⟨RX2, "isLater", "(II)Z"⟩
abbrev cX2_restart : ByteArray := prog_4_method_6_code
def yX2_restart : MethodName := ⟨RX2, "restart", "()V"⟩
abbrev cX2_ratioAt : ByteArray := prog_4_method_7_code
def yX2_ratioAt : MethodName := ⟨RX2, "ratioAt", "(I)I"⟩
abbrev cX2_totalAt : ByteArray := prog_4_method_8_code
def yX2_totalAt : MethodName := ⟨RX2, "totalAt", "(I)J"⟩
abbrev cX2_take : ByteArray := prog_4_method_9_code
def yX2_take : MethodName := ⟨RX2, "take", "(I)V"⟩
abbrev cX2_sweep : ByteArray := prog_4_method_10_code
def yX2_sweep : MethodName := ⟨RX2, "sweep", "(JJZ)V"⟩
def RX3 : String := "ExitFalls$Fall"
def TX3 : u_T := fun k => match k with
  | 0 => ("ExitFalls$Fall", "curves", "LExitFalls$Curves;", true)
  | 1 => ("ExitFalls$Fall", "ranks", "[I", true)
  | 2 => ("ExitFalls$Fall", "rankPrefs", "[J", true)
  | 3 => ("ExitFalls$Fall", "allPrefs", "J", false)
  | 4 => ("ExitFalls$Fall", "above", "[J", true)
  | 5 => ("ExitFalls$Fall", "below", "J", false)
  | 6 => ("ExitFalls$Fall", "levelAbove", "J", false)
  | 7 => ("ExitFalls$Fall", "levelBelow", "J", false)
  | 8 => ("ExitFalls$Fall", "oldAbove", "[J", true)
  | _ => ("ExitFalls$Fall", "oldBelow", "J", false)
def tyX3 : Nat → FieldType := fun k => match k with
  | 0 => .object "ExitFalls$Curves"
  | 1 => .array .int
  | 2 => .array .long
  | 3 => .long
  | 4 => .array .long
  | 5 => .long
  | 6 => .long
  | 7 => .long
  | 8 => .array .long
  | _ => .long
theorem nmX3 : ∀ a, a < 10 → ∀ b, b < 10 → a ≠ b → (TX3 a).2.1 ≠ (TX3 b).2.1 := by decide +kernel
theorem tyX3_ok : ∀ k, k < 10 → parseFieldDescriptor (TX3 k).2.2.1 = some (tyX3 k) := by decide +kernel
abbrev cX3_init : ByteArray := prog_5_method_1_code
def yX3_init : MethodName := ⟨RX3, "<init>", "()V"⟩
abbrev cX3_arrange : ByteArray := prog_5_method_2_code
def yX3_arrange : MethodName := ⟨RX3, "arrange", "(LExitFalls$Firm;ZI)V"⟩
abbrev cX3_addOther : ByteArray := prog_5_method_3_code
def yX3_addOther : MethodName := ⟨RX3, "addOther", "(LExitFalls$Firm;I)V"⟩
abbrev cX3_addClass : ByteArray := prog_5_method_4_code
def yX3_addClass : MethodName := ⟨RX3, "addClass", "(LExitFalls$Firm;IZZ)V"⟩
abbrev cX3_countPrefs : ByteArray := prog_5_method_5_code
def yX3_countPrefs : MethodName := ⟨RX3, "countPrefs", "(IJ)V"⟩
abbrev cX3_pour : ByteArray := prog_5_method_6_code
def yX3_pour : MethodName := ⟨RX3, "pour", "(J)V"⟩
abbrev cX3_pourByRanks : ByteArray := prog_5_method_7_code
def yX3_pourByRanks : MethodName := ⟨RX3, "pourByRanks", "(J)V"⟩
abbrev cX3_pourByLevel : ByteArray := prog_5_method_8_code
def yX3_pourByLevel : MethodName := ⟨RX3, "pourByLevel", "(J)V"⟩
abbrev cX3_firstUnpaid : ByteArray := prog_5_method_9_code
def yX3_firstUnpaid : MethodName := ⟨RX3, "firstUnpaid", "(J)I"⟩
abbrev cX3_rankOf : ByteArray := prog_5_method_10_code
def yX3_rankOf : MethodName := ⟨RX3, "rankOf", "(I)I"⟩
abbrev cX3_aboveOf : ByteArray := prog_5_method_11_code
def yX3_aboveOf : MethodName := ⟨RX3, "aboveOf", "(I)J"⟩
abbrev cX3_reaches : ByteArray := prog_5_method_12_code
def yX3_reaches : MethodName := ⟨RX3, "reaches", "(IJJZ)Z"⟩
abbrev cX3_remember : ByteArray := prog_5_method_13_code
def yX3_remember : MethodName := ⟨RX3, "remember", "()V"⟩
abbrev cX3_hasMoreThanRemembered : ByteArray := prog_5_method_14_code
def yX3_hasMoreThanRemembered : MethodName := ⟨RX3, "hasMoreThanRemembered", "(I)Z"⟩
abbrev cX3_stateOf : ByteArray := prog_5_method_15_code
def yX3_stateOf : MethodName := ⟨RX3, "stateOf", "(LExitFalls$Firm;I)I"⟩
abbrev cX3_unitsOf : ByteArray := prog_5_method_16_code
def yX3_unitsOf : MethodName := ⟨RX3, "unitsOf", "(II)I"⟩
def RX4 : String := "ExitFalls$Firm"
def TX4 : u_T := fun k => match k with
  | 0 => ("ExitFalls$Firm", "count", "I", false)
  | 1 => ("ExitFalls$Firm", "carve", "I", false)
  | 2 => ("ExitFalls$Firm", "waived", "I", false)
  | _ => ("ExitFalls$Firm", "facts", "[I", true)
def tyX4 : Nat → FieldType := fun k => match k with
  | 0 => .int
  | 1 => .int
  | 2 => .int
  | _ => .array .int
theorem nmX4 : ∀ a, a < 4 → ∀ b, b < 4 → a ≠ b → (TX4 a).2.1 ≠ (TX4 b).2.1 := by decide +kernel
theorem tyX4_ok : ∀ k, k < 4 → parseFieldDescriptor (TX4 k).2.2.1 = some (tyX4 k) := by decide +kernel
abbrev cX4_init : ByteArray := prog_6_method_1_code
def yX4_init : MethodName := ⟨RX4, "<init>", "()V"⟩
abbrev cX4_clear : ByteArray := prog_6_method_2_code
def yX4_clear : MethodName := ⟨RX4, "clear", "()V"⟩
abbrev cX4_become : ByteArray := prog_6_method_3_code
def yX4_become : MethodName := ⟨RX4, "become", "(LExitFalls$Firm;)V"⟩
abbrev cX4_add : ByteArray := prog_6_method_4_code
def yX4_add : MethodName := ⟨RX4, "add", "(I)Z"⟩
abbrev cX4_isHolder : ByteArray := prog_6_method_5_code
def yX4_isHolder : MethodName := ⟨RX4, "isHolder", "(I)Z"⟩
abbrev cX4_fact : ByteArray := prog_6_method_6_code
def yX4_fact : MethodName := ⟨RX4, "fact", "(II)I"⟩
abbrev cX4_put : ByteArray := prog_6_method_7_code
def yX4_put : MethodName := ⟨RX4, "put", "(III)V"⟩
abbrev cX4_countOf : ByteArray := prog_6_method_8_code
def yX4_countOf : MethodName := ⟨RX4, "countOf", "(I)I"⟩
abbrev cX4_isClass : ByteArray := prog_6_method_9_code
def yX4_isClass : MethodName := ⟨RX4, "isClass", "(I)Z"⟩
abbrev cX4_isWaived : ByteArray := prog_6_method_10_code
def yX4_isWaived : MethodName := ⟨RX4, "isWaived", "(I)Z"⟩
abbrev cX4_canTurn : ByteArray := prog_6_method_11_code
def yX4_canTurn : MethodName := ⟨RX4, "canTurn", "(I)Z"⟩
abbrev cX4_takesShares : ByteArray := prog_6_method_12_code
def yX4_takesShares : MethodName := ⟨RX4, "takesShares", "(II)Z"⟩
abbrev cX4_prefOf : ByteArray := prog_6_method_13_code
def yX4_prefOf : MethodName := ⟨RX4, "prefOf", "(I)I"⟩
abbrev cX4_lidOf : ByteArray := prog_6_method_14_code
def yX4_lidOf : MethodName := ⟨RX4, "lidOf", "(II)I"⟩
abbrev cX4_costOf : ByteArray := prog_6_method_15_code
def yX4_costOf : MethodName := ⟨RX4, "costOf", "(I)I"⟩
abbrev cX4_votesOf : ByteArray := prog_6_method_16_code
def yX4_votesOf : MethodName := ⟨RX4, "votesOf", "(I)I"⟩
abbrev cX4_fallsOf : ByteArray := prog_6_method_17_code
def yX4_fallsOf : MethodName := ⟨RX4, "fallsOf", "(I)I"⟩
def RX5 : String := "ExitFalls$Game"
def TX5 : u_T := fun k => match k with
  | 0 => ("ExitFalls$Game", "players", "[I", true)
  | 1 => ("ExitFalls$Game", "count", "I", false)
  | 2 => ("ExitFalls$Game", "above", "[J", true)
  | _ => ("ExitFalls$Game", "below", "[J", true)
def tyX5 : Nat → FieldType := fun k => match k with
  | 0 => .array .int
  | 1 => .int
  | 2 => .array .long
  | _ => .array .long
theorem nmX5 : ∀ a, a < 4 → ∀ b, b < 4 → a ≠ b → (TX5 a).2.1 ≠ (TX5 b).2.1 := by decide +kernel
theorem tyX5_ok : ∀ k, k < 4 → parseFieldDescriptor (TX5 k).2.2.1 = some (tyX5 k) := by decide +kernel
abbrev cX5_init : ByteArray := prog_7_method_1_code
def yX5_init : MethodName := ⟨RX5, "<init>", "()V"⟩
abbrev cX5_gather : ByteArray := prog_7_method_2_code
def yX5_gather : MethodName := ⟨RX5, "gather", "(LExitFalls$Firm;)V"⟩
abbrev cX5_rowOf : ByteArray := prog_7_method_3_code
def yX5_rowOf : MethodName := ⟨RX5, "rowOf", "(I)I"⟩
abbrev cX5_setOf : ByteArray := prog_7_method_4_code
def yX5_setOf : MethodName := ⟨RX5, "setOf", "(I)I"⟩
abbrev cX5_playAll : ByteArray := prog_7_method_5_code
def yX5_playAll : MethodName := ⟨RX5, "playAll", "(LExitFalls$Firm;LExitFalls$Fall;J)V"⟩
abbrev cX5_playRound : ByteArray := prog_7_method_6_code
def yX5_playRound : MethodName := ⟨RX5, "playRound", "(LExitFalls$Firm;LExitFalls$Fall;IJ)V"⟩
abbrev cX5_play : ByteArray := prog_7_method_7_code
def yX5_play : MethodName := ⟨RX5, "play", "(LExitFalls$Firm;LExitFalls$Fall;IJ)V"⟩
abbrev cX5_isSteady : ByteArray := prog_7_method_8_code
def yX5_isSteady : MethodName := ⟨RX5, "isSteady", "(I)Z"⟩
abbrev cX5_gains : ByteArray := prog_7_method_9_code
def yX5_gains : MethodName := ⟨RX5, "gains", "(III)Z"⟩
abbrev cX5_countSteady : ByteArray := prog_7_method_10_code
def yX5_countSteady : MethodName := ⟨RX5, "countSteady", "()I"⟩
abbrev cX5_steadySet : ByteArray := prog_7_method_11_code
def yX5_steadySet : MethodName := ⟨RX5, "steadySet", "(I)I"⟩
def RX6 : String := "ExitFalls$Guesses"
def TX6 : u_T := fun k => match k with
  | 0 => ("ExitFalls$Guesses", "amounts", "[I", true)
  | 1 => ("ExitFalls$Guesses", "weights", "[I", true)
  | _ => ("ExitFalls$Guesses", "count", "I", false)
def tyX6 : Nat → FieldType := fun k => match k with
  | 0 => .array .int
  | 1 => .array .int
  | _ => .int
theorem nmX6 : ∀ a, a < 3 → ∀ b, b < 3 → a ≠ b → (TX6 a).2.1 ≠ (TX6 b).2.1 := by decide +kernel
theorem tyX6_ok : ∀ k, k < 3 → parseFieldDescriptor (TX6 k).2.2.1 = some (tyX6 k) := by decide +kernel
abbrev cX6_init : ByteArray := prog_8_method_1_code
def yX6_init : MethodName := ⟨RX6, "<init>", "()V"⟩
abbrev cX6_add : ByteArray := prog_8_method_2_code
def yX6_add : MethodName := ⟨RX6, "add", "(II)V"⟩
abbrev cX6_dropLatest : ByteArray := prog_8_method_3_code
def yX6_dropLatest : MethodName := ⟨RX6, "dropLatest", "()V"⟩
def RX7 : String := "ExitFalls$Numbers"
def TX7 : u_T := fun k => match k with
  | _ => ("", "", "", false)
def tyX7 : Nat → FieldType := fun k => match k with
  | _ => .int
theorem nmX7 : ∀ a, a < 0 → ∀ b, b < 0 → a ≠ b → (TX7 a).2.1 ≠ (TX7 b).2.1 := by decide +kernel
theorem tyX7_ok : ∀ k, k < 0 → parseFieldDescriptor (TX7 k).2.2.1 = some (tyX7 k) := by decide +kernel
abbrev cX7_commonDivisor : ByteArray := prog_9_method_2_code
def yX7_commonDivisor : MethodName := ⟨RX7, "commonDivisor", "(JJ)J"⟩
abbrev cX7_lowest : ByteArray := prog_9_method_3_code
def yX7_lowest : MethodName := ⟨RX7, "lowest", "(JJI)J"⟩
abbrev cX7_compareFractions : ByteArray := prog_9_method_4_code
def yX7_compareFractions : MethodName := ⟨RX7, "compareFractions", "(JJJJ)I"⟩
abbrev cX7_asDouble : ByteArray := prog_9_method_5_code
def yX7_asDouble : MethodName := ⟨RX7, "asDouble", "(JJ)D"⟩
abbrev cX7_asFloat : ByteArray := prog_9_method_6_code
def yX7_asFloat : MethodName := ⟨RX7, "asFloat", "(JJ)F"⟩
abbrev cX7_grown : ByteArray := prog_9_method_7_code
def yX7_grown : MethodName := ⟨RX7, "grown", "(DII)D"⟩
abbrev cX7_bitsOfDouble : ByteArray := prog_9_method_8_code
def yX7_bitsOfDouble : MethodName := ⟨RX7, "bitsOfDouble", "(D)J"⟩
abbrev cX7_bitsOfFloat : ByteArray := prog_9_method_9_code
def yX7_bitsOfFloat : MethodName := ⟨RX7, "bitsOfFloat", "(F)I"⟩
def RX8 : String := "ExitFalls$Reader"
def TX8 : u_T := fun k => match k with
  | 0 => ("ExitFalls$Reader", "tape", "LExitFalls$Tape;", true)
  | 1 => ("ExitFalls$Reader", "kept", "[J", true)
  | 2 => ("ExitFalls$Reader", "names", "[J", true)
  | 3 => ("ExitFalls$Reader", "carved", "Z", false)
  | 4 => ("ExitFalls$Reader", "draft", "LExitFalls$Firm;", true)
  | 5 => ("ExitFalls$Reader", "fault", "I", false)
  | _ => ("ExitFalls$Reader", "place", "I", false)
def tyX8 : Nat → FieldType := fun k => match k with
  | 0 => .object "ExitFalls$Tape"
  | 1 => .array .long
  | 2 => .array .long
  | 3 => .boolean
  | 4 => .object "ExitFalls$Firm"
  | 5 => .int
  | _ => .int
theorem nmX8 : ∀ a, a < 7 → ∀ b, b < 7 → a ≠ b → (TX8 a).2.1 ≠ (TX8 b).2.1 := by decide +kernel
theorem tyX8_ok : ∀ k, k < 7 → parseFieldDescriptor (TX8 k).2.2.1 = some (tyX8 k) := by decide +kernel
abbrev cX8_init : ByteArray := prog_10_method_1_code
def yX8_init : MethodName := ⟨RX8, "<init>", "(LExitFalls$Tape;)V"⟩
abbrev cX8_readAll : ByteArray := prog_10_method_2_code
def yX8_readAll : MethodName := ⟨RX8, "readAll", "()Z"⟩
abbrev cX8_readLine : ByteArray := prog_10_method_3_code
def yX8_readLine : MethodName := ⟨RX8, "readLine", "()Z"⟩
abbrev cX8_mostOf : ByteArray := prog_10_method_4_code
def yX8_mostOf : MethodName := ⟨RX8, "mostOf", "(I)I"⟩
abbrev cX8_lineOf : ByteArray := prog_10_method_5_code
def yX8_lineOf : MethodName := ⟨RX8, "lineOf", "(I)[I"⟩
abbrev cX8_readItems : ByteArray := prog_10_method_6_code
def yX8_readItems : MethodName := ⟨RX8, "readItems", "([I)Z"⟩
abbrev cX8_readName : ByteArray := prog_10_method_7_code
def yX8_readName : MethodName := ⟨RX8, "readName", "()Z"⟩
abbrev cX8_readNumber : ByteArray := prog_10_method_8_code
def yX8_readNumber : MethodName := ⟨RX8, "readNumber", "(III)Z"⟩
abbrev cX8_readWord : ByteArray := prog_10_method_9_code
def yX8_readWord : MethodName := ⟨RX8, "readWord", "(I)Z"⟩
abbrev cX8_readSign : ByteArray := prog_10_method_10_code
def yX8_readSign : MethodName := ⟨RX8, "readSign", "()Z"⟩
abbrev cX8_keptWord : ByteArray := prog_10_method_11_code
def yX8_keptWord : MethodName := ⟨RX8, "keptWord", "()I"⟩
abbrev cX8_refuse : ByteArray := prog_10_method_12_code
def yX8_refuse : MethodName := ⟨RX8, "refuse", "(I)Z"⟩
def RX9 : String := "ExitFalls$Sale"
def TX9 : u_T := fun k => match k with
  | 0 => ("ExitFalls$Sale", "closed", "Z", false)
  | 1 => ("ExitFalls$Sale", "amount", "I", false)
  | 2 => ("ExitFalls$Sale", "held", "I", false)
  | 3 => ("ExitFalls$Sale", "dealt", "I", false)
  | _ => ("ExitFalls$Sale", "lost", "I", false)
def tyX9 : Nat → FieldType := fun k => match k with
  | 0 => .boolean
  | 1 => .int
  | 2 => .int
  | 3 => .int
  | _ => .int
theorem nmX9 : ∀ a, a < 5 → ∀ b, b < 5 → a ≠ b → (TX9 a).2.1 ≠ (TX9 b).2.1 := by decide +kernel
theorem tyX9_ok : ∀ k, k < 5 → parseFieldDescriptor (TX9 k).2.2.1 = some (tyX9 k) := by decide +kernel
abbrev cX9_init : ByteArray := prog_11_method_1_code
def yX9_init : MethodName := ⟨RX9, "<init>", "()V"⟩
abbrev cX9_closeBy : ByteArray := prog_11_method_2_code
def yX9_closeBy : MethodName := ⟨RX9, "closeBy", "(II)V"⟩
abbrev cX9_letGo : ByteArray := prog_11_method_3_code
def yX9_letGo : MethodName := ⟨RX9, "letGo", "(IZ)V"⟩
def RX10 : String := "ExitFalls$Tape"
def TX10 : u_T := fun k => match k with
  | 0 => ("ExitFalls$Tape", "bytes", "[B", true)
  | 1 => ("ExitFalls$Tape", "length", "I", false)
  | 2 => ("ExitFalls$Tape", "next", "I", false)
  | 3 => ("ExitFalls$Tape", "start", "I", false)
  | 4 => ("ExitFalls$Tape", "token", "I", false)
  | 5 => ("ExitFalls$Tape", "number", "I", false)
  | _ => ("ExitFalls$Tape", "word", "J", false)
def tyX10 : Nat → FieldType := fun k => match k with
  | 0 => .array .byte
  | 1 => .int
  | 2 => .int
  | 3 => .int
  | 4 => .int
  | 5 => .int
  | _ => .long
theorem nmX10 : ∀ a, a < 7 → ∀ b, b < 7 → a ≠ b → (TX10 a).2.1 ≠ (TX10 b).2.1 := by decide +kernel
theorem tyX10_ok : ∀ k, k < 7 → parseFieldDescriptor (TX10 k).2.2.1 = some (tyX10 k) := by decide +kernel
abbrev cX10_init : ByteArray := prog_12_method_1_code
def yX10_init : MethodName := ⟨RX10, "<init>", "()V"⟩
abbrev cX10_put : ByteArray := prog_12_method_2_code
def yX10_put : MethodName := ⟨RX10, "put", "(I)V"⟩
abbrev cX10_cut : ByteArray := prog_12_method_3_code
def yX10_cut : MethodName := ⟨RX10, "cut", "(I)Z"⟩
abbrev cX10_rewind : ByteArray := prog_12_method_4_code
def yX10_rewind : MethodName := ⟨RX10, "rewind", "()V"⟩
abbrev cX10_scan : ByteArray := prog_12_method_5_code
def yX10_scan : MethodName := ⟨RX10, "scan", "()V"⟩
abbrev cX10_scanWord : ByteArray := prog_12_method_6_code
def yX10_scanWord : MethodName := ⟨RX10, "scanWord", "()V"⟩
abbrev cX10_scanNumber : ByteArray := prog_12_method_7_code
def yX10_scanNumber : MethodName := ⟨RX10, "scanNumber", "()V"⟩
abbrev cX10_withLetter : ByteArray := prog_12_method_8_code
def yX10_withLetter : MethodName := ⟨RX10, "withLetter", "(JI)J"⟩
abbrev cX10_isBlank : ByteArray := prog_12_method_9_code
def yX10_isBlank : MethodName := ⟨RX10, "isBlank", "(I)Z"⟩
abbrev cX10_isLetter : ByteArray := prog_12_method_10_code
def yX10_isLetter : MethodName := ⟨RX10, "isLetter", "(I)Z"⟩
abbrev cX10_isDigit : ByteArray := prog_12_method_11_code
def yX10_isDigit : MethodName := ⟨RX10, "isDigit", "(I)Z"⟩
def RX11 : String := "ExitFalls"
def TX11 : u_T := fun k => match k with
  | 0 => ("ExitFalls", "tape", "LExitFalls$Tape;", true)
  | 1 => ("ExitFalls", "reader", "LExitFalls$Reader;", true)
  | 2 => ("ExitFalls", "firm", "LExitFalls$Firm;", true)
  | 3 => ("ExitFalls", "fall", "LExitFalls$Fall;", true)
  | 4 => ("ExitFalls", "breakList", "LExitFalls$Breaks;", true)
  | 5 => ("ExitFalls", "game", "LExitFalls$Game;", true)
  | 6 => ("ExitFalls", "deal", "LExitFalls$Sale;", true)
  | 7 => ("ExitFalls", "guesses", "LExitFalls$Guesses;", true)
  | _ => ("ExitFalls", "acts", "LExitFalls$Acts;", true)
def tyX11 : Nat → FieldType := fun k => match k with
  | 0 => .object "ExitFalls$Tape"
  | 1 => .object "ExitFalls$Reader"
  | 2 => .object "ExitFalls$Firm"
  | 3 => .object "ExitFalls$Fall"
  | 4 => .object "ExitFalls$Breaks"
  | 5 => .object "ExitFalls$Game"
  | 6 => .object "ExitFalls$Sale"
  | 7 => .object "ExitFalls$Guesses"
  | _ => .object "ExitFalls$Acts"
theorem nmX11 : ∀ a, a < 9 → ∀ b, b < 9 → a ≠ b → (TX11 a).2.1 ≠ (TX11 b).2.1 := by decide +kernel
theorem tyX11_ok : ∀ k, k < 9 → parseFieldDescriptor (TX11 k).2.2.1 = some (tyX11 k) := by decide +kernel
abbrev cX11_init : ByteArray := prog_1_method_1_code
def yX11_init : MethodName := ⟨RX11, "<init>", "()V"⟩
abbrev cX11_feed : ByteArray := prog_1_method_2_code
def yX11_feed : MethodName := ⟨RX11, "feed", "(IIIII)I"⟩
abbrev cX11_end : ByteArray := prog_1_method_3_code
def yX11_end : MethodName := ⟨RX11, "end", "(I)I"⟩
abbrev cX11_text : ByteArray := prog_1_method_4_code
def yX11_text : MethodName := ⟨RX11, "text", "()I"⟩
abbrev cX11_fault : ByteArray := prog_1_method_5_code
def yX11_fault : MethodName := ⟨RX11, "fault", "(I)I"⟩
abbrev cX11_about : ByteArray := prog_1_method_6_code
def yX11_about : MethodName := ⟨RX11, "about", "(I)I"⟩
abbrev cX11_holder : ByteArray := prog_1_method_7_code
def yX11_holder : MethodName := ⟨RX11, "holder", "(II)I"⟩
abbrev cX11_has : ByteArray := prog_1_method_8_code
def yX11_has : MethodName := ⟨RX11, "has", "(III)J"⟩
abbrev cX11_state : ByteArray := prog_1_method_9_code
def yX11_state : MethodName := ⟨RX11, "state", "(II)I"⟩
abbrev cX11_paid : ByteArray := prog_1_method_10_code
def yX11_paid : MethodName := ⟨RX11, "paid", "(II)I"⟩
abbrev cX11_level : ByteArray := prog_1_method_11_code
def yX11_level : MethodName := ⟨RX11, "level", "(II)J"⟩
abbrev cX11_least : ByteArray := prog_1_method_12_code
def yX11_least : MethodName := ⟨RX11, "least", "(II)I"⟩
abbrev cX11_flat : ByteArray := prog_1_method_13_code
def yX11_flat : MethodName := ⟨RX11, "flat", "(III)I"⟩
abbrev cX11_unpaid : ByteArray := prog_1_method_14_code
def yX11_unpaid : MethodName := ⟨RX11, "unpaid", "(I)I"⟩
abbrev cX11_wants : ByteArray := prog_1_method_15_code
def yX11_wants : MethodName := ⟨RX11, "wants", "(III)I"⟩
abbrev cX11_dilutes : ByteArray := prog_1_method_16_code
def yX11_dilutes : MethodName := ⟨RX11, "dilutes", "(IIII)I"⟩
abbrev cX11_prefers : ByteArray := prog_1_method_17_code
def yX11_prefers : MethodName := ⟨RX11, "prefers", "(II)I"⟩
abbrev cX11_votes : ByteArray := prog_1_method_18_code
def yX11_votes : MethodName := ⟨RX11, "votes", "(I)I"⟩
abbrev cX11_passes : ByteArray := prog_1_method_19_code
def yX11_passes : MethodName := ⟨RX11, "passes", "(II)I"⟩
abbrev cX11_breaks : ByteArray := prog_1_method_20_code
def yX11_breaks : MethodName := ⟨RX11, "breaks", "(II)J"⟩
abbrev cX11_part : ByteArray := prog_1_method_21_code
def yX11_part : MethodName := ⟨RX11, "part", "(III)J"⟩
abbrev cX11_chosen : ByteArray := prog_1_method_22_code
def yX11_chosen : MethodName := ⟨RX11, "chosen", "(IIII)J"⟩
abbrev cX11_steady : ByteArray := prog_1_method_23_code
def yX11_steady : MethodName := ⟨RX11, "steady", "(II)I"⟩
abbrev cX11_steadies : ByteArray := prog_1_method_24_code
def yX11_steadies : MethodName := ⟨RX11, "steadies", "(II)I"⟩
abbrev cX11_close : ByteArray := prog_1_method_25_code
def yX11_close : MethodName := ⟨RX11, "close", "(II)I"⟩
abbrev cX11_release : ByteArray := prog_1_method_26_code
def yX11_release : MethodName := ⟨RX11, "release", "(IZ)I"⟩
abbrev cX11_sale : ByteArray := prog_1_method_27_code
def yX11_sale : MethodName := ⟨RX11, "sale", "(I)I"⟩
abbrev cX11_guess : ByteArray := prog_1_method_28_code
def yX11_guess : MethodName := ⟨RX11, "guess", "(II)I"⟩
abbrev cX11_mean : ByteArray := prog_1_method_29_code
def yX11_mean : MethodName := ⟨RX11, "mean", "(I)J"⟩
abbrev cX11_multiple : ByteArray := prog_1_method_30_code
def yX11_multiple : MethodName := ⟨RX11, "multiple", "(II)I"⟩
abbrev cX11_yields : ByteArray := prog_1_method_31_code
def yX11_yields : MethodName := ⟨RX11, "yields", "(III)I"⟩
abbrev cX11_grant : ByteArray := prog_1_method_32_code
def yX11_grant : MethodName := ⟨RX11, "grant", "(II)I"⟩
abbrev cX11_waive : ByteArray := prog_1_method_33_code
def yX11_waive : MethodName := ⟨RX11, "waive", "(IZ)Z"⟩
abbrev cX11_rank : ByteArray := prog_1_method_34_code
def yX11_rank : MethodName := ⟨RX11, "rank", "(II)I"⟩
abbrev cX11_undo : ByteArray := prog_1_method_35_code
def yX11_undo : MethodName := ⟨RX11, "undo", "()Z"⟩
abbrev cX11_isAmount : ByteArray := prog_1_method_36_code
def yX11_isAmount : MethodName := ⟨RX11, "isAmount", "(I)Z"⟩
abbrev cX11_isUnits : ByteArray := prog_1_method_37_code
def yX11_isUnits : MethodName := ⟨RX11, "isUnits", "(I)Z"⟩
abbrev cX11_isAboveOrBelow : ByteArray := prog_1_method_38_code
def yX11_isAboveOrBelow : MethodName := ⟨RX11, "isAboveOrBelow", "(I)Z"⟩
abbrev cX11_isAsked : ByteArray := prog_1_method_39_code
def yX11_isAsked : MethodName := ⟨RX11, "isAsked", "(II)Z"⟩
abbrev cX11_pour : ByteArray := prog_1_method_40_code
def yX11_pour : MethodName := ⟨RX11, "pour", "(I)V"⟩
abbrev cX11_unitsFor : ByteArray := prog_1_method_41_code
def yX11_unitsFor : MethodName := ⟨RX11, "unitsFor", "(II)I"⟩
abbrev cX11_firstAmount : ByteArray := prog_1_method_42_code
def yX11_firstAmount : MethodName := ⟨RX11, "firstAmount", "(IJJZ)I"⟩
abbrev cX11_thoseWithMore : ByteArray := prog_1_method_43_code
def yX11_thoseWithMore : MethodName := ⟨RX11, "thoseWithMore", "(II)I"⟩
abbrev cX11_votesTogether : ByteArray := prog_1_method_44_code
def yX11_votesTogether : MethodName := ⟨RX11, "votesTogether", "(I)I"⟩
abbrev cX11_saleOf : ByteArray := prog_1_method_45_code
def yX11_saleOf : MethodName := ⟨RX11, "saleOf", "(I)I"⟩
def RX12 : String := "ExitFallsModel"
def TX12 : u_T := fun k => match k with
  | 0 => ("ExitFallsModel", "thrown", "I", false)
  | 1 => ("ExitFallsModel", "many", "I", false)
  | 2 => ("ExitFallsModel", "carve", "I", false)
  | 3 => ("ExitFallsModel", "manyRead", "I", false)
  | 4 => ("ExitFallsModel", "carveRead", "I", false)
  | 5 => ("ExitFallsModel", "kind", "[I", true)
  | 6 => ("ExitFallsModel", "shares", "[I", true)
  | 7 => ("ExitFallsModel", "price", "[I", true)
  | 8 => ("ExitFallsModel", "rankOf", "[I", true)
  | 9 => ("ExitFallsModel", "times", "[I", true)
  | 10 => ("ExitFallsModel", "ratio", "[I", true)
  | 11 => ("ExitFallsModel", "sharing", "[I", true)
  | 12 => ("ExitFallsModel", "cap", "[I", true)
  | 13 => ("ExitFallsModel", "rate", "[I", true)
  | 14 => ("ExitFallsModel", "years", "[I", true)
  | 15 => ("ExitFallsModel", "nameRead", "[I", true)
  | 16 => ("ExitFallsModel", "waived", "I", false)
  | 17 => ("ExitFallsModel", "tape", "[I", true)
  | 18 => ("ExitFallsModel", "taped", "I", false)
  | 19 => ("ExitFallsModel", "size", "I", false)
  | 20 => ("ExitFallsModel", "at", "I", false)
  | 21 => ("ExitFallsModel", "behind", "I", false)
  | 22 => ("ExitFallsModel", "token", "I", false)
  | 23 => ("ExitFallsModel", "value", "I", false)
  | 24 => ("ExitFallsModel", "valueMore", "I", false)
  | 25 => ("ExitFallsModel", "faultKind", "I", false)
  | 26 => ("ExitFallsModel", "faultPlace", "I", false)
  | 27 => ("ExitFallsModel", "wrong", "I", false)
  | 28 => ("ExitFallsModel", "wrongAt", "I", false)
  | 29 => ("ExitFallsModel", "hasCarve", "Z", false)
  | 30 => ("ExitFallsModel", "edgeUp", "[J", true)
  | 31 => ("ExitFallsModel", "edgeDown", "[J", true)
  | 32 => ("ExitFallsModel", "fixed", "[J", true)
  | 33 => ("ExitFallsModel", "goes", "[J", true)
  | 34 => ("ExitFallsModel", "edges", "I", false)
  | 35 => ("ExitFallsModel", "turned", "I", false)
  | 36 => ("ExitFallsModel", "byChoice", "Z", false)
  | 37 => ("ExitFallsModel", "above", "[J", true)
  | 38 => ("ExitFallsModel", "below", "J", false)
  | 39 => ("ExitFallsModel", "levelUp", "J", false)
  | 40 => ("ExitFallsModel", "levelDown", "J", false)
  | 41 => ("ExitFallsModel", "whole", "[I", true)
  | 42 => ("ExitFallsModel", "hadOne", "[Z", true)
  | 43 => ("ExitFallsModel", "askedUp", "J", false)
  | 44 => ("ExitFallsModel", "askedDown", "J", false)
  | 45 => ("ExitFallsModel", "breakUp", "[J", true)
  | 46 => ("ExitFallsModel", "breakDown", "[J", true)
  | 47 => ("ExitFallsModel", "breaks", "I", false)
  | 48 => ("ExitFallsModel", "partUp", "J", false)
  | 49 => ("ExitFallsModel", "partDown", "J", false)
  | 50 => ("ExitFallsModel", "kept", "[I", true)
  | 51 => ("ExitFallsModel", "guessed", "[I", true)
  | 52 => ("ExitFallsModel", "weight", "[I", true)
  | 53 => ("ExitFallsModel", "acts", "I", false)
  | 54 => ("ExitFallsModel", "guesses", "I", false)
  | 55 => ("ExitFallsModel", "saleAmount", "I", false)
  | 56 => ("ExitFallsModel", "saleHeld", "I", false)
  | 57 => ("ExitFallsModel", "saleDealt", "I", false)
  | 58 => ("ExitFallsModel", "saleLost", "I", false)
  | _ => ("ExitFallsModel", "hasSale", "Z", false)
def tyX12 : Nat → FieldType := fun k => match k with
  | 0 => .int
  | 1 => .int
  | 2 => .int
  | 3 => .int
  | 4 => .int
  | 5 => .array .int
  | 6 => .array .int
  | 7 => .array .int
  | 8 => .array .int
  | 9 => .array .int
  | 10 => .array .int
  | 11 => .array .int
  | 12 => .array .int
  | 13 => .array .int
  | 14 => .array .int
  | 15 => .array .int
  | 16 => .int
  | 17 => .array .int
  | 18 => .int
  | 19 => .int
  | 20 => .int
  | 21 => .int
  | 22 => .int
  | 23 => .int
  | 24 => .int
  | 25 => .int
  | 26 => .int
  | 27 => .int
  | 28 => .int
  | 29 => .boolean
  | 30 => .array .long
  | 31 => .array .long
  | 32 => .array .long
  | 33 => .array .long
  | 34 => .int
  | 35 => .int
  | 36 => .boolean
  | 37 => .array .long
  | 38 => .long
  | 39 => .long
  | 40 => .long
  | 41 => .array .int
  | 42 => .array .boolean
  | 43 => .long
  | 44 => .long
  | 45 => .array .long
  | 46 => .array .long
  | 47 => .int
  | 48 => .long
  | 49 => .long
  | 50 => .array .int
  | 51 => .array .int
  | 52 => .array .int
  | 53 => .int
  | 54 => .int
  | 55 => .int
  | 56 => .int
  | 57 => .int
  | 58 => .int
  | _ => .boolean
theorem nmX12 : ∀ a, a < 60 → ∀ b, b < 60 → a ≠ b → (TX12 a).2.1 ≠ (TX12 b).2.1 := by decide +kernel
theorem tyX12_ok : ∀ k, k < 60 → parseFieldDescriptor (TX12 k).2.2.1 = some (tyX12 k) := by decide +kernel
abbrev cX12_init : ByteArray := prog_14_method_1_code
def yX12_init : MethodName := ⟨RX12, "<init>", "()V"⟩
abbrev cX12_in : ByteArray := prog_14_method_3_code
def yX12_in : MethodName := ⟨RX12, "in", "(III)Z"⟩
abbrev cX12_isOf : ByteArray := prog_14_method_4_code
def yX12_isOf : MethodName := ⟨RX12, "isOf", "(II)Z"⟩
abbrev cX12_common : ByteArray := prog_14_method_5_code
def yX12_common : MethodName := ⟨RX12, "common", "(JJ)J"⟩
abbrev cX12_isHolder : ByteArray := prog_14_method_6_code
def yX12_isHolder : MethodName := ⟨RX12, "isHolder", "(I)Z"⟩
abbrev cX12_isClass : ByteArray := prog_14_method_7_code
def yX12_isClass : MethodName := ⟨RX12, "isClass", "(I)Z"⟩
abbrev cX12_isAmount : ByteArray := prog_14_method_8_code
def yX12_isAmount : MethodName := ⟨RX12, "isAmount", "(I)Z"⟩
abbrev cX12_canTurn : ByteArray := prog_14_method_9_code
def yX12_canTurn : MethodName := ⟨RX12, "canTurn", "(I)Z"⟩
abbrev cX12_prefOf : ByteArray := prog_14_method_10_code
def yX12_prefOf : MethodName := ⟨RX12, "prefOf", "(I)I"⟩
abbrev cX12_topOf : ByteArray := prog_14_method_11_code
def yX12_topOf : MethodName := ⟨RX12, "topOf", "(I)I"⟩
abbrev cX12_four : ByteArray := prog_14_method_12_code
def yX12_four : MethodName := ⟨RX12, "four", "(I)V"⟩
abbrev cX12_feed : ByteArray := prog_14_method_13_code
def yX12_feed : MethodName := ⟨RX12, "feed", "(IIIII)I"⟩
abbrev cX12_end : ByteArray := prog_14_method_14_code
def yX12_end : MethodName := ⟨RX12, "end", "(I)I"⟩
abbrev cX12_byteAt : ByteArray := prog_14_method_15_code
def yX12_byteAt : MethodName := ⟨RX12, "byteAt", "(I)I"⟩
abbrev cX12_isSmall : ByteArray := prog_14_method_16_code
def yX12_isSmall : MethodName := ⟨RX12, "isSmall", "(I)Z"⟩
abbrev cX12_isDigit : ByteArray := prog_14_method_17_code
def yX12_isDigit : MethodName := ⟨RX12, "isDigit", "(I)Z"⟩
abbrev cX12_isGood : ByteArray := prog_14_method_18_code
def yX12_isGood : MethodName := ⟨RX12, "isGood", "()Z"⟩
abbrev cX12_fails : ByteArray := prog_14_method_19_code
def yX12_fails : MethodName := ⟨RX12, "fails", "(I)V"⟩
abbrev cX12_goOn : ByteArray := prog_14_method_20_code
def yX12_goOn : MethodName := ⟨RX12, "goOn", "()V"⟩
abbrev cX12_isWord : ByteArray := prog_14_method_21_code
def yX12_isWord : MethodName := ⟨RX12, "isWord", "(II)Z"⟩
abbrev cX12_isName : ByteArray := prog_14_method_22_code
def yX12_isName : MethodName := ⟨RX12, "isName", "()Z"⟩
abbrev cX12_isTold : ByteArray := prog_14_method_23_code
def yX12_isTold : MethodName := ⟨RX12, "isTold", "()Z"⟩
abbrev cX12_readName : ByteArray := prog_14_method_24_code
def yX12_readName : MethodName := ⟨RX12, "readName", "()V"⟩
abbrev cX12_number : ByteArray := prog_14_method_25_code
def yX12_number : MethodName := ⟨RX12, "number", "(II)I"⟩
abbrev cX12_keyword : ByteArray := prog_14_method_26_code
def yX12_keyword : MethodName := ⟨RX12, "keyword", "(II)V"⟩
abbrev cX12_goesOver : ByteArray := prog_14_method_27_code
def yX12_goesOver : MethodName := ⟨RX12, "goesOver", "(II)Z"⟩
abbrev cX12_manyOf : ByteArray := prog_14_method_28_code
def yX12_manyOf : MethodName := ⟨RX12, "manyOf", "(I)I"⟩
abbrev cX12_readHolder : ByteArray := prog_14_method_29_code
def yX12_readHolder : MethodName := ⟨RX12, "readHolder", "(II)V"⟩
abbrev cX12_readTerms : ByteArray := prog_14_method_30_code
def yX12_readTerms : MethodName := ⟨RX12, "readTerms", "(I)V"⟩
abbrev cX12_readLine : ByteArray := prog_14_method_31_code
def yX12_readLine : MethodName := ⟨RX12, "readLine", "()V"⟩
abbrev cX12_text : ByteArray := prog_14_method_32_code
def yX12_text : MethodName := ⟨RX12, "text", "()I"⟩
abbrev cX12_fault : ByteArray := prog_14_method_33_code
def yX12_fault : MethodName := ⟨RX12, "fault", "(I)I"⟩
abbrev cX12_about : ByteArray := prog_14_method_34_code
def yX12_about : MethodName := ⟨RX12, "about", "(I)I"⟩
abbrev cX12_holder : ByteArray := prog_14_method_35_code
def yX12_holder : MethodName := ⟨RX12, "holder", "(II)I"⟩
abbrev cX12_isTurned : ByteArray := prog_14_method_36_code
def yX12_isTurned : MethodName := ⟨RX12, "isTurned", "(I)Z"⟩
abbrev cX12_firstOf : ByteArray := prog_14_method_37_code
def yX12_firstOf : MethodName := ⟨RX12, "firstOf", "(I)J"⟩
abbrev cX12_edge : ByteArray := prog_14_method_38_code
def yX12_edge : MethodName := ⟨RX12, "edge", "(JJ)V"⟩
abbrev cX12_layEdges : ByteArray := prog_14_method_39_code
def yX12_layEdges : MethodName := ⟨RX12, "layEdges", "()V"⟩
abbrev cX12_layFrom : ByteArray := prog_14_method_40_code
def yX12_layFrom : MethodName := ⟨RX12, "layFrom", "(JJ)V"⟩
abbrev cX12_layClass : ByteArray := prog_14_method_41_code
def yX12_layClass : MethodName := ⟨RX12, "layClass", "(IJJ)V"⟩
abbrev cX12_allFixed : ByteArray := prog_14_method_42_code
def yX12_allFixed : MethodName := ⟨RX12, "allFixed", "()J"⟩
abbrev cX12_allGoes : ByteArray := prog_14_method_43_code
def yX12_allGoes : MethodName := ⟨RX12, "allGoes", "()J"⟩
abbrev cX12_firsts : ByteArray := prog_14_method_44_code
def yX12_firsts : MethodName := ⟨RX12, "firsts", "()J"⟩
abbrev cX12_firstsOf : ByteArray := prog_14_method_45_code
def yX12_firstsOf : MethodName := ⟨RX12, "firstsOf", "(I)J"⟩
abbrev cX12_fallsBy : ByteArray := prog_14_method_46_code
def yX12_fallsBy : MethodName := ⟨RX12, "fallsBy", "(II)J"⟩
abbrev cX12_layRanks : ByteArray := prog_14_method_47_code
def yX12_layRanks : MethodName := ⟨RX12, "layRanks", "(J)V"⟩
abbrev cX12_lay : ByteArray := prog_14_method_48_code
def yX12_lay : MethodName := ⟨RX12, "lay", "(J)V"⟩
abbrev cX12_layLevel : ByteArray := prog_14_method_49_code
def yX12_layLevel : MethodName := ⟨RX12, "layLevel", "(JJ)V"⟩
abbrev cX12_layBy : ByteArray := prog_14_method_50_code
def yX12_layBy : MethodName := ⟨RX12, "layBy", "(I)V"⟩
abbrev cX12_lowest : ByteArray := prog_14_method_51_code
def yX12_lowest : MethodName := ⟨RX12, "lowest", "(IZ)J"⟩
abbrev cX12_has : ByteArray := prog_14_method_52_code
def yX12_has : MethodName := ⟨RX12, "has", "(III)J"⟩
abbrev cX12_level : ByteArray := prog_14_method_53_code
def yX12_level : MethodName := ⟨RX12, "level", "(II)J"⟩
abbrev cX12_stateOf : ByteArray := prog_14_method_54_code
def yX12_stateOf : MethodName := ⟨RX12, "stateOf", "(I)I"⟩
abbrev cX12_state : ByteArray := prog_14_method_55_code
def yX12_state : MethodName := ⟨RX12, "state", "(II)I"⟩
abbrev cX12_layPaid : ByteArray := prog_14_method_56_code
def yX12_layPaid : MethodName := ⟨RX12, "layPaid", "(I)V"⟩
abbrev cX12_paidOf : ByteArray := prog_14_method_57_code
def yX12_paidOf : MethodName := ⟨RX12, "paidOf", "(II)I"⟩
abbrev cX12_paid : ByteArray := prog_14_method_58_code
def yX12_paid : MethodName := ⟨RX12, "paid", "(II)I"⟩
abbrev cX12_hasUnits : ByteArray := prog_14_method_59_code
def yX12_hasUnits : MethodName := ⟨RX12, "hasUnits", "(III)Z"⟩
abbrev cX12_least : ByteArray := prog_14_method_60_code
def yX12_least : MethodName := ⟨RX12, "least", "(II)I"⟩
abbrev cX12_asksFor : ByteArray := prog_14_method_61_code
def yX12_asksFor : MethodName := ⟨RX12, "asksFor", "(II)V"⟩
abbrev cX12_isLike : ByteArray := prog_14_method_62_code
def yX12_isLike : MethodName := ⟨RX12, "isLike", "(II)Z"⟩
abbrev cX12_flat : ByteArray := prog_14_method_63_code
def yX12_flat : MethodName := ⟨RX12, "flat", "(III)I"⟩
abbrev cX12_unpaid : ByteArray := prog_14_method_64_code
def yX12_unpaid : MethodName := ⟨RX12, "unpaid", "(I)I"⟩
abbrev cX12_wants : ByteArray := prog_14_method_65_code
def yX12_wants : MethodName := ⟨RX12, "wants", "(III)I"⟩
abbrev cX12_dilutes : ByteArray := prog_14_method_66_code
def yX12_dilutes : MethodName := ⟨RX12, "dilutes", "(IIII)I"⟩
abbrev cX12_prefersOf : ByteArray := prog_14_method_67_code
def yX12_prefersOf : MethodName := ⟨RX12, "prefersOf", "(II)I"⟩
abbrev cX12_prefers : ByteArray := prog_14_method_68_code
def yX12_prefers : MethodName := ⟨RX12, "prefers", "(II)I"⟩
abbrev cX12_votesOf : ByteArray := prog_14_method_69_code
def yX12_votesOf : MethodName := ⟨RX12, "votesOf", "(I)I"⟩
abbrev cX12_votes : ByteArray := prog_14_method_70_code
def yX12_votes : MethodName := ⟨RX12, "votes", "(I)I"⟩
abbrev cX12_passes : ByteArray := prog_14_method_71_code
def yX12_passes : MethodName := ⟨RX12, "passes", "(II)I"⟩
abbrev cX12_against : ByteArray := prog_14_method_72_code
def yX12_against : MethodName := ⟨RX12, "against", "(JJJJ)I"⟩
abbrev cX12_puts : ByteArray := prog_14_method_73_code
def yX12_puts : MethodName := ⟨RX12, "puts", "(JJ)V"⟩
abbrev cX12_allAt : ByteArray := prog_14_method_74_code
def yX12_allAt : MethodName := ⟨RX12, "allAt", "(I)J"⟩
abbrev cX12_layBreaks : ByteArray := prog_14_method_75_code
def yX12_layBreaks : MethodName := ⟨RX12, "layBreaks", "()V"⟩
abbrev cX12_breaks : ByteArray := prog_14_method_76_code
def yX12_breaks : MethodName := ⟨RX12, "breaks", "(II)J"⟩
abbrev cX12_layPart : ByteArray := prog_14_method_77_code
def yX12_layPart : MethodName := ⟨RX12, "layPart", "(IJJ)V"⟩
abbrev cX12_part : ByteArray := prog_14_method_78_code
def yX12_part : MethodName := ⟨RX12, "part", "(III)J"⟩
abbrev cX12_layChoice : ByteArray := prog_14_method_79_code
def yX12_layChoice : MethodName := ⟨RX12, "layChoice", "(II)V"⟩
abbrev cX12_chosen : ByteArray := prog_14_method_80_code
def yX12_chosen : MethodName := ⟨RX12, "chosen", "(IIII)J"⟩
abbrev cX12_isSteady : ByteArray := prog_14_method_81_code
def yX12_isSteady : MethodName := ⟨RX12, "isSteady", "(II)Z"⟩
abbrev cX12_steady : ByteArray := prog_14_method_82_code
def yX12_steady : MethodName := ⟨RX12, "steady", "(II)I"⟩
abbrev cX12_steadies : ByteArray := prog_14_method_83_code
def yX12_steadies : MethodName := ⟨RX12, "steadies", "(II)I"⟩
abbrev cX12_keep : ByteArray := prog_14_method_84_code
def yX12_keep : MethodName := ⟨RX12, "keep", "()V"⟩
abbrev cX12_undo : ByteArray := prog_14_method_85_code
def yX12_undo : MethodName := ⟨RX12, "undo", "()Z"⟩
abbrev cX12_close : ByteArray := prog_14_method_86_code
def yX12_close : MethodName := ⟨RX12, "close", "(II)I"⟩
abbrev cX12_release : ByteArray := prog_14_method_87_code
def yX12_release : MethodName := ⟨RX12, "release", "(IZ)I"⟩
abbrev cX12_sale : ByteArray := prog_14_method_88_code
def yX12_sale : MethodName := ⟨RX12, "sale", "(I)I"⟩
abbrev cX12_guess : ByteArray := prog_14_method_89_code
def yX12_guess : MethodName := ⟨RX12, "guess", "(II)I"⟩
abbrev cX12_bitsOf : ByteArray := prog_14_method_90_code
def yX12_bitsOf : MethodName := ⟨RX12, "bitsOf", "(D)J"⟩
abbrev cX12_bitsOfFloat : ByteArray := prog_14_method_91_code
def yX12_bitsOfFloat : MethodName := ⟨RX12, "bitsOfFloat", "(F)I"⟩
abbrev cX12_hasDouble : ByteArray := prog_14_method_92_code
def yX12_hasDouble : MethodName := ⟨RX12, "hasDouble", "(II)D"⟩
abbrev cX12_mean : ByteArray := prog_14_method_93_code
def yX12_mean : MethodName := ⟨RX12, "mean", "(I)J"⟩
abbrev cX12_multiple : ByteArray := prog_14_method_94_code
def yX12_multiple : MethodName := ⟨RX12, "multiple", "(II)I"⟩
abbrev cX12_yields : ByteArray := prog_14_method_95_code
def yX12_yields : MethodName := ⟨RX12, "yields", "(III)I"⟩
abbrev cX12_grant : ByteArray := prog_14_method_96_code
def yX12_grant : MethodName := ⟨RX12, "grant", "(II)I"⟩
abbrev cX12_waive : ByteArray := prog_14_method_97_code
def yX12_waive : MethodName := ⟨RX12, "waive", "(IZ)Z"⟩
abbrev cX12_rank : ByteArray := prog_14_method_98_code
def yX12_rank : MethodName := ⟨RX12, "rank", "(II)I"⟩
def RL : String := "ExitFallsLaw"
abbrev cL_law : ByteArray := code
def yL_law : MethodName := ⟨RL, "law", "([I)Z"⟩
abbrev vwCl : List vw_C := [(RX0, TX0, 3), (RX1, TX1, 6), (RX2, TX2, 14), (RX3, TX3, 10), (RX4, TX4, 4), (RX5, TX5, 4), (RX6, TX6, 3), (RX8, TX8, 7), (RX9, TX9, 5), (RX10, TX10, 7), (RX11, TX11, 9), (RX12, TX12, 60)]
