section
-- ===== PART A: goes FIRST, ahead of the names: the tables' words, and 'selects' of the private methods out of them =====
/-- a private method of a class that the tables say can be made, by its rows of tables_1 -/
def lw_okq (q : MethodName × Nat) : Prop := (q.1.cls ≠ "java/lang/invoke/MethodHandle" ∧ q.1.cls ≠ "java/lang/invoke/VarHandle") ∧ Cond.instantiable q.1.cls q.2 ∈ tables_1 ∧ Cond.privateMethod q.1 ∈ tables_1 ∧ Cond.instanceMethod q.1 ∈ tables_1
theorem lw_p0 : lw_okq (⟨"PaintBank", "keptIfDone", "(I)I"⟩, 13) := ⟨⟨by decide +kernel, by decide +kernel⟩, List.mem_of_getElem? (i := 31) (by decide +kernel), List.mem_of_getElem? (i := 652) (by decide +kernel), List.mem_of_getElem? (i := 653) (by decide +kernel)⟩
theorem lw_p1 : lw_okq (⟨"PaintBank$Line", "chosenToLeave", "()I"⟩, 17) := ⟨⟨by decide +kernel, by decide +kernel⟩, List.mem_of_getElem? (i := 223) (by decide +kernel), List.mem_of_getElem? (i := 703) (by decide +kernel), List.mem_of_getElem? (i := 704) (by decide +kernel)⟩
theorem lw_p2 : lw_okq (⟨"PaintBank$Line", "paint", "(IZ)V"⟩, 17) := ⟨⟨by decide +kernel, by decide +kernel⟩, List.mem_of_getElem? (i := 223) (by decide +kernel), List.mem_of_getElem? (i := 715) (by decide +kernel), List.mem_of_getElem? (i := 716) (by decide +kernel)⟩
theorem lw_p3 : lw_okq (⟨"PaintBank$Line", "note", "(III)V"⟩, 17) := ⟨⟨by decide +kernel, by decide +kernel⟩, List.mem_of_getElem? (i := 223) (by decide +kernel), List.mem_of_getElem? (i := 730) (by decide +kernel), List.mem_of_getElem? (i := 731) (by decide +kernel)⟩
theorem lw_p4 : lw_okq (⟨"PaintBank$Unloading", "weighLanes", "()I"⟩, 13) := ⟨⟨by decide +kernel, by decide +kernel⟩, List.mem_of_getElem? (i := 324) (by decide +kernel), List.mem_of_getElem? (i := 747) (by decide +kernel), List.mem_of_getElem? (i := 748) (by decide +kernel)⟩
theorem lw_p5 : lw_okq (⟨"PaintBank$Unloading", "forgetWorths", "(I)V"⟩, 13) := ⟨⟨by decide +kernel, by decide +kernel⟩, List.mem_of_getElem? (i := 324) (by decide +kernel), List.mem_of_getElem? (i := 751) (by decide +kernel), List.mem_of_getElem? (i := 752) (by decide +kernel)⟩
theorem lw_p6 : lw_okq (⟨"PaintBank$Unloading", "worthOfRest", "(IIII)I"⟩, 13) := ⟨⟨by decide +kernel, by decide +kernel⟩, List.mem_of_getElem? (i := 324) (by decide +kernel), List.mem_of_getElem? (i := 756) (by decide +kernel), List.mem_of_getElem? (i := 757) (by decide +kernel)⟩
theorem lw_p7 : lw_okq (⟨"PaintBank$Unloading", "keyOf", "(III)I"⟩, 13) := ⟨⟨by decide +kernel, by decide +kernel⟩, List.mem_of_getElem? (i := 324) (by decide +kernel), List.mem_of_getElem? (i := 760) (by decide +kernel), List.mem_of_getElem? (i := 761) (by decide +kernel)⟩
theorem lw_p8 : lw_okq (⟨"PaintBank$Unloading", "worthThrough", "(IIIII)I"⟩, 13) := ⟨⟨by decide +kernel, by decide +kernel⟩, List.mem_of_getElem? (i := 324) (by decide +kernel), List.mem_of_getElem? (i := 766) (by decide +kernel), List.mem_of_getElem? (i := 767) (by decide +kernel)⟩
theorem lw_p9 : lw_okq (⟨"PaintBank$Unloading", "fitsOut", "(II)Z"⟩, 13) := ⟨⟨by decide +kernel, by decide +kernel⟩, List.mem_of_getElem? (i := 324) (by decide +kernel), List.mem_of_getElem? (i := 771) (by decide +kernel), List.mem_of_getElem? (i := 772) (by decide +kernel)⟩
theorem lw_p10 : lw_okq (⟨"PaintBank$Unloading", "collectLanes", "()V"⟩, 13) := ⟨⟨by decide +kernel, by decide +kernel⟩, List.mem_of_getElem? (i := 324) (by decide +kernel), List.mem_of_getElem? (i := 778) (by decide +kernel), List.mem_of_getElem? (i := 779) (by decide +kernel)⟩
theorem lw_p11 : lw_okq (⟨"PaintBank$Exchange", "forgetWays", "()V"⟩, 8) := ⟨⟨by decide +kernel, by decide +kernel⟩, List.mem_of_getElem? (i := 378) (by decide +kernel), List.mem_of_getElem? (i := 799) (by decide +kernel), List.mem_of_getElem? (i := 800) (by decide +kernel)⟩
theorem lw_p12 : lw_okq (⟨"PaintBank$Exchange", "offerJob", "(II)V"⟩, 8) := ⟨⟨by decide +kernel, by decide +kernel⟩, List.mem_of_getElem? (i := 378) (by decide +kernel), List.mem_of_getElem? (i := 806) (by decide +kernel), List.mem_of_getElem? (i := 807) (by decide +kernel)⟩
theorem lw_p13 : lw_okq (⟨"PaintBank$Exchange", "waysFrom", "(II)I"⟩, 8) := ⟨⟨by decide +kernel, by decide +kernel⟩, List.mem_of_getElem? (i := 378) (by decide +kernel), List.mem_of_getElem? (i := 815) (by decide +kernel), List.mem_of_getElem? (i := 816) (by decide +kernel)⟩
theorem lw_p14 : lw_okq (⟨"PaintBank$Exchange", "firstJob", "(III)I"⟩, 8) := ⟨⟨by decide +kernel, by decide +kernel⟩, List.mem_of_getElem? (i := 378) (by decide +kernel), List.mem_of_getElem? (i := 819) (by decide +kernel), List.mem_of_getElem? (i := 820) (by decide +kernel)⟩
theorem lw_p15 : lw_okq (⟨"PaintBank$Exchange", "collectColors", "()V"⟩, 8) := ⟨⟨by decide +kernel, by decide +kernel⟩, List.mem_of_getElem? (i := 378) (by decide +kernel), List.mem_of_getElem? (i := 838) (by decide +kernel), List.mem_of_getElem? (i := 839) (by decide +kernel)⟩
def lw_privs_1 : List (MethodName × Nat) := [(⟨"PaintBank", "keptIfDone", "(I)I"⟩, 13), (⟨"PaintBank$Line", "chosenToLeave", "()I"⟩, 17), (⟨"PaintBank$Line", "paint", "(IZ)V"⟩, 17), (⟨"PaintBank$Line", "note", "(III)V"⟩, 17), (⟨"PaintBank$Unloading", "weighLanes", "()I"⟩, 13), (⟨"PaintBank$Unloading", "forgetWorths", "(I)V"⟩, 13), (⟨"PaintBank$Unloading", "worthOfRest", "(IIII)I"⟩, 13), (⟨"PaintBank$Unloading", "keyOf", "(III)I"⟩, 13), (⟨"PaintBank$Unloading", "worthThrough", "(IIIII)I"⟩, 13), (⟨"PaintBank$Unloading", "fitsOut", "(II)Z"⟩, 13), (⟨"PaintBank$Unloading", "collectLanes", "()V"⟩, 13), (⟨"PaintBank$Exchange", "forgetWays", "()V"⟩, 8), (⟨"PaintBank$Exchange", "offerJob", "(II)V"⟩, 8), (⟨"PaintBank$Exchange", "waysFrom", "(II)I"⟩, 8), (⟨"PaintBank$Exchange", "firstJob", "(III)I"⟩, 8), (⟨"PaintBank$Exchange", "collectColors", "()V"⟩, 8)]
theorem lw_r1 : ∀ q ∈ lw_privs_1, lw_okq q := List.forall_mem_cons.mpr ⟨lw_p0, List.forall_mem_cons.mpr ⟨lw_p1, List.forall_mem_cons.mpr ⟨lw_p2, List.forall_mem_cons.mpr ⟨lw_p3, List.forall_mem_cons.mpr ⟨lw_p4, List.forall_mem_cons.mpr ⟨lw_p5, List.forall_mem_cons.mpr ⟨lw_p6, List.forall_mem_cons.mpr ⟨lw_p7, List.forall_mem_cons.mpr ⟨lw_p8, List.forall_mem_cons.mpr ⟨lw_p9, List.forall_mem_cons.mpr ⟨lw_p10, List.forall_mem_cons.mpr ⟨lw_p11, List.forall_mem_cons.mpr ⟨lw_p12, List.forall_mem_cons.mpr ⟨lw_p13, List.forall_mem_cons.mpr ⟨lw_p14, List.forall_mem_cons.mpr ⟨lw_p15, fun _ h => absurd h List.not_mem_nil⟩⟩⟩⟩⟩⟩⟩⟩⟩⟩⟩⟩⟩⟩⟩⟩
theorem lw_p16 : lw_okq (⟨"PaintBank$Report", "addText", "(Ljava/lang/String;)V"⟩, 2) := ⟨⟨by decide +kernel, by decide +kernel⟩, List.mem_of_getElem? (i := 476) (by decide +kernel), List.mem_of_getElem? (i := 922) (by decide +kernel), List.mem_of_getElem? (i := 923) (by decide +kernel)⟩
theorem lw_p17 : lw_okq (⟨"PaintBank$Report", "add", "(I)V"⟩, 2) := ⟨⟨by decide +kernel, by decide +kernel⟩, List.mem_of_getElem? (i := 476) (by decide +kernel), List.mem_of_getElem? (i := 974) (by decide +kernel), List.mem_of_getElem? (i := 975) (by decide +kernel)⟩
theorem lw_p18 : lw_okq (⟨"PaintBank$Report", "addCars", "(LPaintBank$Setup;LPaintBank$Line;LPaintBank$Row;)V"⟩, 2) := ⟨⟨by decide +kernel, by decide +kernel⟩, List.mem_of_getElem? (i := 476) (by decide +kernel), List.mem_of_getElem? (i := 978) (by decide +kernel), List.mem_of_getElem? (i := 979) (by decide +kernel)⟩
theorem lw_p19 : lw_okq (⟨"PaintBank$Report", "addLetters", "(J)V"⟩, 2) := ⟨⟨by decide +kernel, by decide +kernel⟩, List.mem_of_getElem? (i := 476) (by decide +kernel), List.mem_of_getElem? (i := 988) (by decide +kernel), List.mem_of_getElem? (i := 989) (by decide +kernel)⟩
theorem lw_p20 : lw_okq (⟨"java/lang/Throwable", "fillInStackTrace", "(I)Ljava/lang/Throwable;"⟩, 6) := ⟨⟨by decide +kernel, by decide +kernel⟩, List.mem_of_getElem? (i := 1059) (by decide +kernel), List.mem_of_getElem? (i := 1057) (by decide +kernel), List.mem_of_getElem? (i := 1058) (by decide +kernel)⟩
theorem lw_p21 : lw_okq (⟨"PaintBank$Text", "readWord", "()V"⟩, 10) := ⟨⟨by decide +kernel, by decide +kernel⟩, List.mem_of_getElem? (i := 39) (by decide +kernel), List.mem_of_getElem? (i := 1142) (by decide +kernel), List.mem_of_getElem? (i := 1143) (by decide +kernel)⟩
theorem lw_p22 : lw_okq (⟨"PaintBank$Text", "readNumber", "()V"⟩, 10) := ⟨⟨by decide +kernel, by decide +kernel⟩, List.mem_of_getElem? (i := 39) (by decide +kernel), List.mem_of_getElem? (i := 1155) (by decide +kernel), List.mem_of_getElem? (i := 1156) (by decide +kernel)⟩
theorem lw_p23 : lw_okq (⟨"PaintBank$SetupReader", "readStatement", "()Z"⟩, 6) := ⟨⟨by decide +kernel, by decide +kernel⟩, List.mem_of_getElem? (i := 195) (by decide +kernel), List.mem_of_getElem? (i := 1162) (by decide +kernel), List.mem_of_getElem? (i := 1163) (by decide +kernel)⟩
theorem lw_p24 : lw_okq (⟨"PaintBank$SetupReader", "readColor", "()Z"⟩, 6) := ⟨⟨by decide +kernel, by decide +kernel⟩, List.mem_of_getElem? (i := 195) (by decide +kernel), List.mem_of_getElem? (i := 1178) (by decide +kernel), List.mem_of_getElem? (i := 1179) (by decide +kernel)⟩
theorem lw_p25 : lw_okq (⟨"PaintBank$SetupReader", "readLane", "()Z"⟩, 6) := ⟨⟨by decide +kernel, by decide +kernel⟩, List.mem_of_getElem? (i := 195) (by decide +kernel), List.mem_of_getElem? (i := 1199) (by decide +kernel), List.mem_of_getElem? (i := 1200) (by decide +kernel)⟩
theorem lw_p26 : lw_okq (⟨"PaintBank$SetupReader", "readCar", "()Z"⟩, 6) := ⟨⟨by decide +kernel, by decide +kernel⟩, List.mem_of_getElem? (i := 195) (by decide +kernel), List.mem_of_getElem? (i := 1203) (by decide +kernel), List.mem_of_getElem? (i := 1204) (by decide +kernel)⟩
theorem lw_p27 : lw_okq (⟨"PaintBank$SetupReader", "readWindow", "()Z"⟩, 6) := ⟨⟨by decide +kernel, by decide +kernel⟩, List.mem_of_getElem? (i := 195) (by decide +kernel), List.mem_of_getElem? (i := 1215) (by decide +kernel), List.mem_of_getElem? (i := 1216) (by decide +kernel)⟩
theorem lw_p28 : lw_okq (⟨"PaintBank$SetupReader", "readBatch", "()Z"⟩, 6) := ⟨⟨by decide +kernel, by decide +kernel⟩, List.mem_of_getElem? (i := 195) (by decide +kernel), List.mem_of_getElem? (i := 1219) (by decide +kernel), List.mem_of_getElem? (i := 1220) (by decide +kernel)⟩
theorem lw_p29 : lw_okq (⟨"PaintBank$SetupReader", "readRework", "()Z"⟩, 6) := ⟨⟨by decide +kernel, by decide +kernel⟩, List.mem_of_getElem? (i := 195) (by decide +kernel), List.mem_of_getElem? (i := 1225) (by decide +kernel), List.mem_of_getElem? (i := 1226) (by decide +kernel)⟩
theorem lw_p30 : lw_okq (⟨"PaintBank$SetupReader", "readSpan", "()Z"⟩, 6) := ⟨⟨by decide +kernel, by decide +kernel⟩, List.mem_of_getElem? (i := 195) (by decide +kernel), List.mem_of_getElem? (i := 1231) (by decide +kernel), List.mem_of_getElem? (i := 1232) (by decide +kernel)⟩
theorem lw_p31 : lw_okq (⟨"PaintBank$Script", "closeRepeat", "()Z"⟩, 11) := ⟨⟨by decide +kernel, by decide +kernel⟩, List.mem_of_getElem? (i := 413) (by decide +kernel), List.mem_of_getElem? (i := 1262) (by decide +kernel), List.mem_of_getElem? (i := 1263) (by decide +kernel)⟩
def lw_privs_2 : List (MethodName × Nat) := [(⟨"PaintBank$Report", "addText", "(Ljava/lang/String;)V"⟩, 2), (⟨"PaintBank$Report", "add", "(I)V"⟩, 2), (⟨"PaintBank$Report", "addCars", "(LPaintBank$Setup;LPaintBank$Line;LPaintBank$Row;)V"⟩, 2), (⟨"PaintBank$Report", "addLetters", "(J)V"⟩, 2), (⟨"java/lang/Throwable", "fillInStackTrace", "(I)Ljava/lang/Throwable;"⟩, 6), (⟨"PaintBank$Text", "readWord", "()V"⟩, 10), (⟨"PaintBank$Text", "readNumber", "()V"⟩, 10), (⟨"PaintBank$SetupReader", "readStatement", "()Z"⟩, 6), (⟨"PaintBank$SetupReader", "readColor", "()Z"⟩, 6), (⟨"PaintBank$SetupReader", "readLane", "()Z"⟩, 6), (⟨"PaintBank$SetupReader", "readCar", "()Z"⟩, 6), (⟨"PaintBank$SetupReader", "readWindow", "()Z"⟩, 6), (⟨"PaintBank$SetupReader", "readBatch", "()Z"⟩, 6), (⟨"PaintBank$SetupReader", "readRework", "()Z"⟩, 6), (⟨"PaintBank$SetupReader", "readSpan", "()Z"⟩, 6), (⟨"PaintBank$Script", "closeRepeat", "()Z"⟩, 11)]
theorem lw_r2 : ∀ q ∈ lw_privs_2, lw_okq q := List.forall_mem_cons.mpr ⟨lw_p16, List.forall_mem_cons.mpr ⟨lw_p17, List.forall_mem_cons.mpr ⟨lw_p18, List.forall_mem_cons.mpr ⟨lw_p19, List.forall_mem_cons.mpr ⟨lw_p20, List.forall_mem_cons.mpr ⟨lw_p21, List.forall_mem_cons.mpr ⟨lw_p22, List.forall_mem_cons.mpr ⟨lw_p23, List.forall_mem_cons.mpr ⟨lw_p24, List.forall_mem_cons.mpr ⟨lw_p25, List.forall_mem_cons.mpr ⟨lw_p26, List.forall_mem_cons.mpr ⟨lw_p27, List.forall_mem_cons.mpr ⟨lw_p28, List.forall_mem_cons.mpr ⟨lw_p29, List.forall_mem_cons.mpr ⟨lw_p30, List.forall_mem_cons.mpr ⟨lw_p31, fun _ h => absurd h List.not_mem_nil⟩⟩⟩⟩⟩⟩⟩⟩⟩⟩⟩⟩⟩⟩⟩⟩
theorem lw_p32 : lw_okq (⟨"PaintBank$Script", "add", "(LPaintBank$Word;I)V"⟩, 11) := ⟨⟨by decide +kernel, by decide +kernel⟩, List.mem_of_getElem? (i := 413) (by decide +kernel), List.mem_of_getElem? (i := 1266) (by decide +kernel), List.mem_of_getElem? (i := 1267) (by decide +kernel)⟩
theorem lw_p33 : lw_okq (⟨"PaintBank$Script", "readCommand", "()Z"⟩, 11) := ⟨⟨by decide +kernel, by decide +kernel⟩, List.mem_of_getElem? (i := 413) (by decide +kernel), List.mem_of_getElem? (i := 1271) (by decide +kernel), List.mem_of_getElem? (i := 1272) (by decide +kernel)⟩
theorem lw_p34 : lw_okq (⟨"PaintBank$Script", "behindBracket", "(I)I"⟩, 11) := ⟨⟨by decide +kernel, by decide +kernel⟩, List.mem_of_getElem? (i := 413) (by decide +kernel), List.mem_of_getElem? (i := 1288) (by decide +kernel), List.mem_of_getElem? (i := 1289) (by decide +kernel)⟩
theorem lw_p35 : lw_okq (⟨"PaintBank$Script", "carryOut", "(LPaintBank$Word;I)Z"⟩, 11) := ⟨⟨by decide +kernel, by decide +kernel⟩, List.mem_of_getElem? (i := 413) (by decide +kernel), List.mem_of_getElem? (i := 1292) (by decide +kernel), List.mem_of_getElem? (i := 1293) (by decide +kernel)⟩
theorem lw_p36 : lw_okq (⟨"PaintBank$Script", "waitTimes", "(I)Z"⟩, 11) := ⟨⟨by decide +kernel, by decide +kernel⟩, List.mem_of_getElem? (i := 413) (by decide +kernel), List.mem_of_getElem? (i := 1301) (by decide +kernel), List.mem_of_getElem? (i := 1302) (by decide +kernel)⟩
theorem lw_p37 : lw_okq (⟨"PaintBank$Script", "stepTimes", "(I)Z"⟩, 11) := ⟨⟨by decide +kernel, by decide +kernel⟩, List.mem_of_getElem? (i := 413) (by decide +kernel), List.mem_of_getElem? (i := 1306) (by decide +kernel), List.mem_of_getElem? (i := 1307) (by decide +kernel)⟩
theorem lw_p38 : lw_okq (⟨"PaintBank", "checkLane", "(I)V"⟩, 13) := ⟨⟨by decide +kernel, by decide +kernel⟩, List.mem_of_getElem? (i := 31) (by decide +kernel), List.mem_of_getElem? (i := 1354) (by decide +kernel), List.mem_of_getElem? (i := 1355) (by decide +kernel)⟩
theorem lw_p39 : lw_okq (⟨"PaintBank", "checkCar", "(I)V"⟩, 13) := ⟨⟨by decide +kernel, by decide +kernel⟩, List.mem_of_getElem? (i := 31) (by decide +kernel), List.mem_of_getElem? (i := 1366) (by decide +kernel), List.mem_of_getElem? (i := 1367) (by decide +kernel)⟩
theorem lw_p40 : lw_okq (⟨"PaintBank", "lookAhead", "(II)I"⟩, 13) := ⟨⟨by decide +kernel, by decide +kernel⟩, List.mem_of_getElem? (i := 31) (by decide +kernel), List.mem_of_getElem? (i := 1462) (by decide +kernel), List.mem_of_getElem? (i := 1463) (by decide +kernel)⟩
theorem lw_p41 : lw_okq (⟨"PaintBankModel", "goes", "(Z)Z"⟩, 49) := ⟨⟨by decide +kernel, by decide +kernel⟩, List.mem_of_getElem? (i := 1513) (by decide +kernel), List.mem_of_getElem? (i := 1680) (by decide +kernel), List.mem_of_getElem? (i := 1681) (by decide +kernel)⟩
theorem lw_p42 : lw_okq (⟨"PaintBankModel", "four", "(I)V"⟩, 49) := ⟨⟨by decide +kernel, by decide +kernel⟩, List.mem_of_getElem? (i := 1513) (by decide +kernel), List.mem_of_getElem? (i := 1687) (by decide +kernel), List.mem_of_getElem? (i := 1688) (by decide +kernel)⟩
theorem lw_p43 : lw_okq (⟨"PaintBankModel", "beginsText", "()V"⟩, 49) := ⟨⟨by decide +kernel, by decide +kernel⟩, List.mem_of_getElem? (i := 1513) (by decide +kernel), List.mem_of_getElem? (i := 1710) (by decide +kernel), List.mem_of_getElem? (i := 1711) (by decide +kernel)⟩
theorem lw_p44 : lw_okq (⟨"PaintBankModel", "goOn", "()V"⟩, 49) := ⟨⟨by decide +kernel, by decide +kernel⟩, List.mem_of_getElem? (i := 1513) (by decide +kernel), List.mem_of_getElem? (i := 1714) (by decide +kernel), List.mem_of_getElem? (i := 1715) (by decide +kernel)⟩
theorem lw_p45 : lw_okq (⟨"PaintBankModel", "here", "(I)I"⟩, 49) := ⟨⟨by decide +kernel, by decide +kernel⟩, List.mem_of_getElem? (i := 1513) (by decide +kernel), List.mem_of_getElem? (i := 1718) (by decide +kernel), List.mem_of_getElem? (i := 1719) (by decide +kernel)⟩
theorem lw_p46 : lw_okq (⟨"PaintBankModel", "isGood", "()Z"⟩, 49) := ⟨⟨by decide +kernel, by decide +kernel⟩, List.mem_of_getElem? (i := 1513) (by decide +kernel), List.mem_of_getElem? (i := 1728) (by decide +kernel), List.mem_of_getElem? (i := 1729) (by decide +kernel)⟩
theorem lw_p47 : lw_okq (⟨"PaintBankModel", "statement", "()V"⟩, 49) := ⟨⟨by decide +kernel, by decide +kernel⟩, List.mem_of_getElem? (i := 1513) (by decide +kernel), List.mem_of_getElem? (i := 1732) (by decide +kernel), List.mem_of_getElem? (i := 1733) (by decide +kernel)⟩
def lw_privs_3 : List (MethodName × Nat) := [(⟨"PaintBank$Script", "add", "(LPaintBank$Word;I)V"⟩, 11), (⟨"PaintBank$Script", "readCommand", "()Z"⟩, 11), (⟨"PaintBank$Script", "behindBracket", "(I)I"⟩, 11), (⟨"PaintBank$Script", "carryOut", "(LPaintBank$Word;I)Z"⟩, 11), (⟨"PaintBank$Script", "waitTimes", "(I)Z"⟩, 11), (⟨"PaintBank$Script", "stepTimes", "(I)Z"⟩, 11), (⟨"PaintBank", "checkLane", "(I)V"⟩, 13), (⟨"PaintBank", "checkCar", "(I)V"⟩, 13), (⟨"PaintBank", "lookAhead", "(II)I"⟩, 13), (⟨"PaintBankModel", "goes", "(Z)Z"⟩, 49), (⟨"PaintBankModel", "four", "(I)V"⟩, 49), (⟨"PaintBankModel", "beginsText", "()V"⟩, 49), (⟨"PaintBankModel", "goOn", "()V"⟩, 49), (⟨"PaintBankModel", "here", "(I)I"⟩, 49), (⟨"PaintBankModel", "isGood", "()Z"⟩, 49), (⟨"PaintBankModel", "statement", "()V"⟩, 49)]
theorem lw_r3 : ∀ q ∈ lw_privs_3, lw_okq q := List.forall_mem_cons.mpr ⟨lw_p32, List.forall_mem_cons.mpr ⟨lw_p33, List.forall_mem_cons.mpr ⟨lw_p34, List.forall_mem_cons.mpr ⟨lw_p35, List.forall_mem_cons.mpr ⟨lw_p36, List.forall_mem_cons.mpr ⟨lw_p37, List.forall_mem_cons.mpr ⟨lw_p38, List.forall_mem_cons.mpr ⟨lw_p39, List.forall_mem_cons.mpr ⟨lw_p40, List.forall_mem_cons.mpr ⟨lw_p41, List.forall_mem_cons.mpr ⟨lw_p42, List.forall_mem_cons.mpr ⟨lw_p43, List.forall_mem_cons.mpr ⟨lw_p44, List.forall_mem_cons.mpr ⟨lw_p45, List.forall_mem_cons.mpr ⟨lw_p46, List.forall_mem_cons.mpr ⟨lw_p47, fun _ h => absurd h List.not_mem_nil⟩⟩⟩⟩⟩⟩⟩⟩⟩⟩⟩⟩⟩⟩⟩⟩
theorem lw_p48 : lw_okq (⟨"PaintBankModel", "isWord", "(J)Z"⟩, 49) := ⟨⟨by decide +kernel, by decide +kernel⟩, List.mem_of_getElem? (i := 1513) (by decide +kernel), List.mem_of_getElem? (i := 1737) (by decide +kernel), List.mem_of_getElem? (i := 1738) (by decide +kernel)⟩
theorem lw_p49 : lw_okq (⟨"PaintBankModel", "readsColor", "()V"⟩, 49) := ⟨⟨by decide +kernel, by decide +kernel⟩, List.mem_of_getElem? (i := 1513) (by decide +kernel), List.mem_of_getElem? (i := 1741) (by decide +kernel), List.mem_of_getElem? (i := 1742) (by decide +kernel)⟩
theorem lw_p50 : lw_okq (⟨"PaintBankModel", "begin", "(II)Z"⟩, 49) := ⟨⟨by decide +kernel, by decide +kernel⟩, List.mem_of_getElem? (i := 1513) (by decide +kernel), List.mem_of_getElem? (i := 1745) (by decide +kernel), List.mem_of_getElem? (i := 1746) (by decide +kernel)⟩
theorem lw_p51 : lw_okq (⟨"PaintBankModel", "wrong", "(I)V"⟩, 49) := ⟨⟨by decide +kernel, by decide +kernel⟩, List.mem_of_getElem? (i := 1513) (by decide +kernel), List.mem_of_getElem? (i := 1749) (by decide +kernel), List.mem_of_getElem? (i := 1750) (by decide +kernel)⟩
theorem lw_p52 : lw_okq (⟨"PaintBankModel", "nameHere", "()V"⟩, 49) := ⟨⟨by decide +kernel, by decide +kernel⟩, List.mem_of_getElem? (i := 1513) (by decide +kernel), List.mem_of_getElem? (i := 1753) (by decide +kernel), List.mem_of_getElem? (i := 1754) (by decide +kernel)⟩
theorem lw_p53 : lw_okq (⟨"PaintBankModel", "isName", "()Z"⟩, 49) := ⟨⟨by decide +kernel, by decide +kernel⟩, List.mem_of_getElem? (i := 1513) (by decide +kernel), List.mem_of_getElem? (i := 1757) (by decide +kernel), List.mem_of_getElem? (i := 1758) (by decide +kernel)⟩
theorem lw_p54 : lw_okq (⟨"PaintBankModel", "named", "()I"⟩, 49) := ⟨⟨by decide +kernel, by decide +kernel⟩, List.mem_of_getElem? (i := 1513) (by decide +kernel), List.mem_of_getElem? (i := 1780) (by decide +kernel), List.mem_of_getElem? (i := 1781) (by decide +kernel)⟩
theorem lw_p55 : lw_okq (⟨"PaintBankModel", "numberBehind", "(JII)I"⟩, 49) := ⟨⟨by decide +kernel, by decide +kernel⟩, List.mem_of_getElem? (i := 1513) (by decide +kernel), List.mem_of_getElem? (i := 1784) (by decide +kernel), List.mem_of_getElem? (i := 1785) (by decide +kernel)⟩
theorem lw_p56 : lw_okq (⟨"PaintBankModel", "must", "(J)V"⟩, 49) := ⟨⟨by decide +kernel, by decide +kernel⟩, List.mem_of_getElem? (i := 1513) (by decide +kernel), List.mem_of_getElem? (i := 1788) (by decide +kernel), List.mem_of_getElem? (i := 1789) (by decide +kernel)⟩
theorem lw_p57 : lw_okq (⟨"PaintBankModel", "takes", "(J)Z"⟩, 49) := ⟨⟨by decide +kernel, by decide +kernel⟩, List.mem_of_getElem? (i := 1513) (by decide +kernel), List.mem_of_getElem? (i := 1792) (by decide +kernel), List.mem_of_getElem? (i := 1793) (by decide +kernel)⟩
theorem lw_p58 : lw_okq (⟨"PaintBankModel", "number", "(II)I"⟩, 49) := ⟨⟨by decide +kernel, by decide +kernel⟩, List.mem_of_getElem? (i := 1513) (by decide +kernel), List.mem_of_getElem? (i := 1796) (by decide +kernel), List.mem_of_getElem? (i := 1797) (by decide +kernel)⟩
theorem lw_p59 : lw_okq (⟨"PaintBankModel", "readsLane", "()V"⟩, 49) := ⟨⟨by decide +kernel, by decide +kernel⟩, List.mem_of_getElem? (i := 1513) (by decide +kernel), List.mem_of_getElem? (i := 1800) (by decide +kernel), List.mem_of_getElem? (i := 1801) (by decide +kernel)⟩
theorem lw_p60 : lw_okq (⟨"PaintBankModel", "readsCar", "()V"⟩, 49) := ⟨⟨by decide +kernel, by decide +kernel⟩, List.mem_of_getElem? (i := 1513) (by decide +kernel), List.mem_of_getElem? (i := 1804) (by decide +kernel), List.mem_of_getElem? (i := 1805) (by decide +kernel)⟩
theorem lw_p61 : lw_okq (⟨"PaintBankModel", "once", "(Z)Z"⟩, 49) := ⟨⟨by decide +kernel, by decide +kernel⟩, List.mem_of_getElem? (i := 1513) (by decide +kernel), List.mem_of_getElem? (i := 1808) (by decide +kernel), List.mem_of_getElem? (i := 1809) (by decide +kernel)⟩
theorem lw_p62 : lw_okq (⟨"PaintBankModel", "mustSign", "(I)V"⟩, 49) := ⟨⟨by decide +kernel, by decide +kernel⟩, List.mem_of_getElem? (i := 1513) (by decide +kernel), List.mem_of_getElem? (i := 1812) (by decide +kernel), List.mem_of_getElem? (i := 1813) (by decide +kernel)⟩
theorem lw_p63 : lw_okq (⟨"PaintBankModel", "isSign", "(I)Z"⟩, 49) := ⟨⟨by decide +kernel, by decide +kernel⟩, List.mem_of_getElem? (i := 1513) (by decide +kernel), List.mem_of_getElem? (i := 1816) (by decide +kernel), List.mem_of_getElem? (i := 1817) (by decide +kernel)⟩
def lw_privs_4 : List (MethodName × Nat) := [(⟨"PaintBankModel", "isWord", "(J)Z"⟩, 49), (⟨"PaintBankModel", "readsColor", "()V"⟩, 49), (⟨"PaintBankModel", "begin", "(II)Z"⟩, 49), (⟨"PaintBankModel", "wrong", "(I)V"⟩, 49), (⟨"PaintBankModel", "nameHere", "()V"⟩, 49), (⟨"PaintBankModel", "isName", "()Z"⟩, 49), (⟨"PaintBankModel", "named", "()I"⟩, 49), (⟨"PaintBankModel", "numberBehind", "(JII)I"⟩, 49), (⟨"PaintBankModel", "must", "(J)V"⟩, 49), (⟨"PaintBankModel", "takes", "(J)Z"⟩, 49), (⟨"PaintBankModel", "number", "(II)I"⟩, 49), (⟨"PaintBankModel", "readsLane", "()V"⟩, 49), (⟨"PaintBankModel", "readsCar", "()V"⟩, 49), (⟨"PaintBankModel", "once", "(Z)Z"⟩, 49), (⟨"PaintBankModel", "mustSign", "(I)V"⟩, 49), (⟨"PaintBankModel", "isSign", "(I)Z"⟩, 49)]
theorem lw_r4 : ∀ q ∈ lw_privs_4, lw_okq q := List.forall_mem_cons.mpr ⟨lw_p48, List.forall_mem_cons.mpr ⟨lw_p49, List.forall_mem_cons.mpr ⟨lw_p50, List.forall_mem_cons.mpr ⟨lw_p51, List.forall_mem_cons.mpr ⟨lw_p52, List.forall_mem_cons.mpr ⟨lw_p53, List.forall_mem_cons.mpr ⟨lw_p54, List.forall_mem_cons.mpr ⟨lw_p55, List.forall_mem_cons.mpr ⟨lw_p56, List.forall_mem_cons.mpr ⟨lw_p57, List.forall_mem_cons.mpr ⟨lw_p58, List.forall_mem_cons.mpr ⟨lw_p59, List.forall_mem_cons.mpr ⟨lw_p60, List.forall_mem_cons.mpr ⟨lw_p61, List.forall_mem_cons.mpr ⟨lw_p62, List.forall_mem_cons.mpr ⟨lw_p63, fun _ h => absurd h List.not_mem_nil⟩⟩⟩⟩⟩⟩⟩⟩⟩⟩⟩⟩⟩⟩⟩⟩
theorem lw_p64 : lw_okq (⟨"PaintBankModel", "endsText", "()Z"⟩, 49) := ⟨⟨by decide +kernel, by decide +kernel⟩, List.mem_of_getElem? (i := 1513) (by decide +kernel), List.mem_of_getElem? (i := 1820) (by decide +kernel), List.mem_of_getElem? (i := 1821) (by decide +kernel)⟩
theorem lw_p65 : lw_okq (⟨"PaintBankModel", "isLane", "(I)Z"⟩, 49) := ⟨⟨by decide +kernel, by decide +kernel⟩, List.mem_of_getElem? (i := 1513) (by decide +kernel), List.mem_of_getElem? (i := 1840) (by decide +kernel), List.mem_of_getElem? (i := 1841) (by decide +kernel)⟩
theorem lw_p66 : lw_okq (⟨"PaintBankModel", "isCar", "(I)Z"⟩, 49) := ⟨⟨by decide +kernel, by decide +kernel⟩, List.mem_of_getElem? (i := 1513) (by decide +kernel), List.mem_of_getElem? (i := 1848) (by decide +kernel), List.mem_of_getElem? (i := 1849) (by decide +kernel)⟩
theorem lw_p67 : lw_okq (⟨"PaintBankModel", "alike", "(I)I"⟩, 49) := ⟨⟨by decide +kernel, by decide +kernel⟩, List.mem_of_getElem? (i := 1513) (by decide +kernel), List.mem_of_getElem? (i := 1868) (by decide +kernel), List.mem_of_getElem? (i := 1869) (by decide +kernel)⟩
theorem lw_p68 : lw_okq (⟨"PaintBankModel", "whereIs", "(I)I"⟩, 49) := ⟨⟨by decide +kernel, by decide +kernel⟩, List.mem_of_getElem? (i := 1513) (by decide +kernel), List.mem_of_getElem? (i := 1879) (by decide +kernel), List.mem_of_getElem? (i := 1880) (by decide +kernel)⟩
theorem lw_p69 : lw_okq (⟨"PaintBankModel", "outAt", "(I)I"⟩, 49) := ⟨⟨by decide +kernel, by decide +kernel⟩, List.mem_of_getElem? (i := 1513) (by decide +kernel), List.mem_of_getElem? (i := 1883) (by decide +kernel), List.mem_of_getElem? (i := 1884) (by decide +kernel)⟩
theorem lw_p70 : lw_okq (⟨"PaintBankModel", "inRow", "(III)I"⟩, 49) := ⟨⟨by decide +kernel, by decide +kernel⟩, List.mem_of_getElem? (i := 1513) (by decide +kernel), List.mem_of_getElem? (i := 1887) (by decide +kernel), List.mem_of_getElem? (i := 1888) (by decide +kernel)⟩
theorem lw_p71 : lw_okq (⟨"PaintBankModel", "carIn", "(II)I"⟩, 49) := ⟨⟨by decide +kernel, by decide +kernel⟩, List.mem_of_getElem? (i := 1513) (by decide +kernel), List.mem_of_getElem? (i := 1903) (by decide +kernel), List.mem_of_getElem? (i := 1904) (by decide +kernel)⟩
theorem lw_p72 : lw_okq (⟨"PaintBankModel", "mayLeave", "(I)Z"⟩, 49) := ⟨⟨by decide +kernel, by decide +kernel⟩, List.mem_of_getElem? (i := 1513) (by decide +kernel), List.mem_of_getElem? (i := 1939) (by decide +kernel), List.mem_of_getElem? (i := 1940) (by decide +kernel)⟩
theorem lw_p73 : lw_okq (⟨"PaintBankModel", "told", "(I)I"⟩, 49) := ⟨⟨by decide +kernel, by decide +kernel⟩, List.mem_of_getElem? (i := 1513) (by decide +kernel), List.mem_of_getElem? (i := 1947) (by decide +kernel), List.mem_of_getElem? (i := 1948) (by decide +kernel)⟩
theorem lw_p74 : lw_okq (⟨"PaintBankModel", "mayEnter", "(I)Z"⟩, 49) := ⟨⟨by decide +kernel, by decide +kernel⟩, List.mem_of_getElem? (i := 1513) (by decide +kernel), List.mem_of_getElem? (i := 1975) (by decide +kernel), List.mem_of_getElem? (i := 1976) (by decide +kernel)⟩
theorem lw_p75 : lw_okq (⟨"PaintBankModel", "hasRoom", "(I)Z"⟩, 49) := ⟨⟨by decide +kernel, by decide +kernel⟩, List.mem_of_getElem? (i := 1513) (by decide +kernel), List.mem_of_getElem? (i := 1979) (by decide +kernel), List.mem_of_getElem? (i := 1980) (by decide +kernel)⟩
theorem lw_p76 : lw_okq (⟨"PaintBankModel", "keeps", "()V"⟩, 49) := ⟨⟨by decide +kernel, by decide +kernel⟩, List.mem_of_getElem? (i := 1513) (by decide +kernel), List.mem_of_getElem? (i := 1983) (by decide +kernel), List.mem_of_getElem? (i := 1984) (by decide +kernel)⟩
theorem lw_p77 : lw_okq (⟨"PaintBankModel", "enters", "(I)I"⟩, 49) := ⟨⟨by decide +kernel, by decide +kernel⟩, List.mem_of_getElem? (i := 1513) (by decide +kernel), List.mem_of_getElem? (i := 1987) (by decide +kernel), List.mem_of_getElem? (i := 1988) (by decide +kernel)⟩
theorem lw_p78 : lw_okq (⟨"PaintBankModel", "comes", "(II)V"⟩, 49) := ⟨⟨by decide +kernel, by decide +kernel⟩, List.mem_of_getElem? (i := 1513) (by decide +kernel), List.mem_of_getElem? (i := 1991) (by decide +kernel), List.mem_of_getElem? (i := 1992) (by decide +kernel)⟩
theorem lw_p79 : lw_okq (⟨"PaintBankModel", "leaves", "(I)I"⟩, 49) := ⟨⟨by decide +kernel, by decide +kernel⟩, List.mem_of_getElem? (i := 1513) (by decide +kernel), List.mem_of_getElem? (i := 1999) (by decide +kernel), List.mem_of_getElem? (i := 2000) (by decide +kernel)⟩
def lw_privs_5 : List (MethodName × Nat) := [(⟨"PaintBankModel", "endsText", "()Z"⟩, 49), (⟨"PaintBankModel", "isLane", "(I)Z"⟩, 49), (⟨"PaintBankModel", "isCar", "(I)Z"⟩, 49), (⟨"PaintBankModel", "alike", "(I)I"⟩, 49), (⟨"PaintBankModel", "whereIs", "(I)I"⟩, 49), (⟨"PaintBankModel", "outAt", "(I)I"⟩, 49), (⟨"PaintBankModel", "inRow", "(III)I"⟩, 49), (⟨"PaintBankModel", "carIn", "(II)I"⟩, 49), (⟨"PaintBankModel", "mayLeave", "(I)Z"⟩, 49), (⟨"PaintBankModel", "told", "(I)I"⟩, 49), (⟨"PaintBankModel", "mayEnter", "(I)Z"⟩, 49), (⟨"PaintBankModel", "hasRoom", "(I)Z"⟩, 49), (⟨"PaintBankModel", "keeps", "()V"⟩, 49), (⟨"PaintBankModel", "enters", "(I)I"⟩, 49), (⟨"PaintBankModel", "comes", "(II)V"⟩, 49), (⟨"PaintBankModel", "leaves", "(I)I"⟩, 49)]
theorem lw_r5 : ∀ q ∈ lw_privs_5, lw_okq q := List.forall_mem_cons.mpr ⟨lw_p64, List.forall_mem_cons.mpr ⟨lw_p65, List.forall_mem_cons.mpr ⟨lw_p66, List.forall_mem_cons.mpr ⟨lw_p67, List.forall_mem_cons.mpr ⟨lw_p68, List.forall_mem_cons.mpr ⟨lw_p69, List.forall_mem_cons.mpr ⟨lw_p70, List.forall_mem_cons.mpr ⟨lw_p71, List.forall_mem_cons.mpr ⟨lw_p72, List.forall_mem_cons.mpr ⟨lw_p73, List.forall_mem_cons.mpr ⟨lw_p74, List.forall_mem_cons.mpr ⟨lw_p75, List.forall_mem_cons.mpr ⟨lw_p76, List.forall_mem_cons.mpr ⟨lw_p77, List.forall_mem_cons.mpr ⟨lw_p78, List.forall_mem_cons.mpr ⟨lw_p79, fun _ h => absurd h List.not_mem_nil⟩⟩⟩⟩⟩⟩⟩⟩⟩⟩⟩⟩⟩⟩⟩⟩
theorem lw_p80 : lw_okq (⟨"PaintBankModel", "paints", "(I)V"⟩, 49) := ⟨⟨by decide +kernel, by decide +kernel⟩, List.mem_of_getElem? (i := 1513) (by decide +kernel), List.mem_of_getElem? (i := 2003) (by decide +kernel), List.mem_of_getElem? (i := 2004) (by decide +kernel)⟩
theorem lw_p81 : lw_okq (⟨"PaintBankModel", "isReady", "()Z"⟩, 49) := ⟨⟨by decide +kernel, by decide +kernel⟩, List.mem_of_getElem? (i := 1513) (by decide +kernel), List.mem_of_getElem? (i := 2011) (by decide +kernel), List.mem_of_getElem? (i := 2012) (by decide +kernel)⟩
theorem lw_p82 : lw_okq (⟨"PaintBankModel", "comesBack", "(I)I"⟩, 49) := ⟨⟨by decide +kernel, by decide +kernel⟩, List.mem_of_getElem? (i := 1513) (by decide +kernel), List.mem_of_getElem? (i := 2015) (by decide +kernel), List.mem_of_getElem? (i := 2016) (by decide +kernel)⟩
theorem lw_p83 : lw_okq (⟨"PaintBankModel", "nextStep", "()I"⟩, 49) := ⟨⟨by decide +kernel, by decide +kernel⟩, List.mem_of_getElem? (i := 1513) (by decide +kernel), List.mem_of_getElem? (i := 2027) (by decide +kernel), List.mem_of_getElem? (i := 2028) (by decide +kernel)⟩
theorem lw_p84 : lw_okq (⟨"PaintBankModel", "chosenFor", "(I)I"⟩, 49) := ⟨⟨by decide +kernel, by decide +kernel⟩, List.mem_of_getElem? (i := 1513) (by decide +kernel), List.mem_of_getElem? (i := 2031) (by decide +kernel), List.mem_of_getElem? (i := 2032) (by decide +kernel)⟩
theorem lw_p85 : lw_okq (⟨"PaintBankModel", "chosenToLeave", "()I"⟩, 49) := ⟨⟨by decide +kernel, by decide +kernel⟩, List.mem_of_getElem? (i := 1513) (by decide +kernel), List.mem_of_getElem? (i := 2035) (by decide +kernel), List.mem_of_getElem? (i := 2036) (by decide +kernel)⟩
theorem lw_p86 : lw_okq (⟨"PaintBankModel", "steps", "()I"⟩, 49) := ⟨⟨by decide +kernel, by decide +kernel⟩, List.mem_of_getElem? (i := 1513) (by decide +kernel), List.mem_of_getElem? (i := 2039) (by decide +kernel), List.mem_of_getElem? (i := 2040) (by decide +kernel)⟩
theorem lw_p87 : lw_okq (⟨"PaintBankModel", "foretold", "(II)I"⟩, 49) := ⟨⟨by decide +kernel, by decide +kernel⟩, List.mem_of_getElem? (i := 1513) (by decide +kernel), List.mem_of_getElem? (i := 2048) (by decide +kernel), List.mem_of_getElem? (i := 2049) (by decide +kernel)⟩
theorem lw_p88 : lw_okq (⟨"PaintBankModel", "laysUnloading", "()I"⟩, 49) := ⟨⟨by decide +kernel, by decide +kernel⟩, List.mem_of_getElem? (i := 1513) (by decide +kernel), List.mem_of_getElem? (i := 2068) (by decide +kernel), List.mem_of_getElem? (i := 2069) (by decide +kernel)⟩
theorem lw_p89 : lw_okq (⟨"PaintBankModel", "inLanes", "()I"⟩, 49) := ⟨⟨by decide +kernel, by decide +kernel⟩, List.mem_of_getElem? (i := 1513) (by decide +kernel), List.mem_of_getElem? (i := 2072) (by decide +kernel), List.mem_of_getElem? (i := 2073) (by decide +kernel)⟩
theorem lw_p90 : lw_okq (⟨"PaintBankModel", "unpacks", "(I)V"⟩, 49) := ⟨⟨by decide +kernel, by decide +kernel⟩, List.mem_of_getElem? (i := 1513) (by decide +kernel), List.mem_of_getElem? (i := 2076) (by decide +kernel), List.mem_of_getElem? (i := 2077) (by decide +kernel)⟩
theorem lw_p91 : lw_okq (⟨"PaintBankModel", "isWithin", "()Z"⟩, 49) := ⟨⟨by decide +kernel, by decide +kernel⟩, List.mem_of_getElem? (i := 1513) (by decide +kernel), List.mem_of_getElem? (i := 2080) (by decide +kernel), List.mem_of_getElem? (i := 2081) (by decide +kernel)⟩
theorem lw_p92 : lw_okq (⟨"PaintBankModel", "takenAll", "()I"⟩, 49) := ⟨⟨by decide +kernel, by decide +kernel⟩, List.mem_of_getElem? (i := 1513) (by decide +kernel), List.mem_of_getElem? (i := 2084) (by decide +kernel), List.mem_of_getElem? (i := 2085) (by decide +kernel)⟩
theorem lw_p93 : lw_okq (⟨"PaintBankModel", "leastOf", "(II)I"⟩, 49) := ⟨⟨by decide +kernel, by decide +kernel⟩, List.mem_of_getElem? (i := 1513) (by decide +kernel), List.mem_of_getElem? (i := 2088) (by decide +kernel), List.mem_of_getElem? (i := 2089) (by decide +kernel)⟩
theorem lw_p94 : lw_okq (⟨"PaintBankModel", "by", "(III)I"⟩, 49) := ⟨⟨by decide +kernel, by decide +kernel⟩, List.mem_of_getElem? (i := 1513) (by decide +kernel), List.mem_of_getElem? (i := 2093) (by decide +kernel), List.mem_of_getElem? (i := 2094) (by decide +kernel)⟩
theorem lw_p95 : lw_okq (⟨"PaintBankModel", "places", "()I"⟩, 49) := ⟨⟨by decide +kernel, by decide +kernel⟩, List.mem_of_getElem? (i := 1513) (by decide +kernel), List.mem_of_getElem? (i := 2097) (by decide +kernel), List.mem_of_getElem? (i := 2098) (by decide +kernel)⟩
def lw_privs_6 : List (MethodName × Nat) := [(⟨"PaintBankModel", "paints", "(I)V"⟩, 49), (⟨"PaintBankModel", "isReady", "()Z"⟩, 49), (⟨"PaintBankModel", "comesBack", "(I)I"⟩, 49), (⟨"PaintBankModel", "nextStep", "()I"⟩, 49), (⟨"PaintBankModel", "chosenFor", "(I)I"⟩, 49), (⟨"PaintBankModel", "chosenToLeave", "()I"⟩, 49), (⟨"PaintBankModel", "steps", "()I"⟩, 49), (⟨"PaintBankModel", "foretold", "(II)I"⟩, 49), (⟨"PaintBankModel", "laysUnloading", "()I"⟩, 49), (⟨"PaintBankModel", "inLanes", "()I"⟩, 49), (⟨"PaintBankModel", "unpacks", "(I)V"⟩, 49), (⟨"PaintBankModel", "isWithin", "()Z"⟩, 49), (⟨"PaintBankModel", "takenAll", "()I"⟩, 49), (⟨"PaintBankModel", "leastOf", "(II)I"⟩, 49), (⟨"PaintBankModel", "by", "(III)I"⟩, 49), (⟨"PaintBankModel", "places", "()I"⟩, 49)]
theorem lw_r6 : ∀ q ∈ lw_privs_6, lw_okq q := List.forall_mem_cons.mpr ⟨lw_p80, List.forall_mem_cons.mpr ⟨lw_p81, List.forall_mem_cons.mpr ⟨lw_p82, List.forall_mem_cons.mpr ⟨lw_p83, List.forall_mem_cons.mpr ⟨lw_p84, List.forall_mem_cons.mpr ⟨lw_p85, List.forall_mem_cons.mpr ⟨lw_p86, List.forall_mem_cons.mpr ⟨lw_p87, List.forall_mem_cons.mpr ⟨lw_p88, List.forall_mem_cons.mpr ⟨lw_p89, List.forall_mem_cons.mpr ⟨lw_p90, List.forall_mem_cons.mpr ⟨lw_p91, List.forall_mem_cons.mpr ⟨lw_p92, List.forall_mem_cons.mpr ⟨lw_p93, List.forall_mem_cons.mpr ⟨lw_p94, List.forall_mem_cons.mpr ⟨lw_p95, fun _ h => absurd h List.not_mem_nil⟩⟩⟩⟩⟩⟩⟩⟩⟩⟩⟩⟩⟩⟩⟩⟩
theorem lw_p96 : lw_okq (⟨"PaintBankModel", "held", "()I"⟩, 49) := ⟨⟨by decide +kernel, by decide +kernel⟩, List.mem_of_getElem? (i := 1513) (by decide +kernel), List.mem_of_getElem? (i := 2110) (by decide +kernel), List.mem_of_getElem? (i := 2111) (by decide +kernel)⟩
theorem lw_p97 : lw_okq (⟨"PaintBankModel", "unloadsNow", "()I"⟩, 49) := ⟨⟨by decide +kernel, by decide +kernel⟩, List.mem_of_getElem? (i := 1513) (by decide +kernel), List.mem_of_getElem? (i := 2126) (by decide +kernel), List.mem_of_getElem? (i := 2127) (by decide +kernel)⟩
theorem lw_p98 : lw_okq (⟨"PaintBankModel", "keepsAside", "()V"⟩, 49) := ⟨⟨by decide +kernel, by decide +kernel⟩, List.mem_of_getElem? (i := 1513) (by decide +kernel), List.mem_of_getElem? (i := 2130) (by decide +kernel), List.mem_of_getElem? (i := 2131) (by decide +kernel)⟩
theorem lw_p99 : lw_okq (⟨"PaintBankModel", "boundOf", "(Z)I"⟩, 49) := ⟨⟨by decide +kernel, by decide +kernel⟩, List.mem_of_getElem? (i := 1513) (by decide +kernel), List.mem_of_getElem? (i := 2138) (by decide +kernel), List.mem_of_getElem? (i := 2139) (by decide +kernel)⟩
theorem lw_p100 : lw_okq (⟨"PaintBankModel", "waits0", "()I"⟩, 49) := ⟨⟨by decide +kernel, by decide +kernel⟩, List.mem_of_getElem? (i := 1513) (by decide +kernel), List.mem_of_getElem? (i := 2153) (by decide +kernel), List.mem_of_getElem? (i := 2154) (by decide +kernel)⟩
theorem lw_p101 : lw_okq (⟨"PaintBankModel", "jobColor", "(I)I"⟩, 49) := ⟨⟨by decide +kernel, by decide +kernel⟩, List.mem_of_getElem? (i := 1513) (by decide +kernel), List.mem_of_getElem? (i := 2157) (by decide +kernel), List.mem_of_getElem? (i := 2158) (by decide +kernel)⟩
theorem lw_p102 : lw_okq (⟨"PaintBankModel", "laysSwap", "()I"⟩, 49) := ⟨⟨by decide +kernel, by decide +kernel⟩, List.mem_of_getElem? (i := 1513) (by decide +kernel), List.mem_of_getElem? (i := 2165) (by decide +kernel), List.mem_of_getElem? (i := 2166) (by decide +kernel)⟩
theorem lw_p103 : lw_okq (⟨"PaintBankModel", "laysFewest", "()V"⟩, 49) := ⟨⟨by decide +kernel, by decide +kernel⟩, List.mem_of_getElem? (i := 1513) (by decide +kernel), List.mem_of_getElem? (i := 2169) (by decide +kernel), List.mem_of_getElem? (i := 2170) (by decide +kernel)⟩
theorem lw_p104 : lw_okq (⟨"PaintBankModel", "isJob", "(III)Z"⟩, 49) := ⟨⟨by decide +kernel, by decide +kernel⟩, List.mem_of_getElem? (i := 1513) (by decide +kernel), List.mem_of_getElem? (i := 2176) (by decide +kernel), List.mem_of_getElem? (i := 2177) (by decide +kernel)⟩
theorem lw_p105 : lw_okq (⟨"PaintBankModel", "fewestBy", "(III)I"⟩, 49) := ⟨⟨by decide +kernel, by decide +kernel⟩, List.mem_of_getElem? (i := 1513) (by decide +kernel), List.mem_of_getElem? (i := 2180) (by decide +kernel), List.mem_of_getElem? (i := 2181) (by decide +kernel)⟩
theorem lw_p106 : lw_okq (⟨"PaintBankModel", "differs", "(II)I"⟩, 49) := ⟨⟨by decide +kernel, by decide +kernel⟩, List.mem_of_getElem? (i := 1513) (by decide +kernel), List.mem_of_getElem? (i := 2184) (by decide +kernel), List.mem_of_getElem? (i := 2185) (by decide +kernel)⟩
theorem lw_p107 : lw_okq (⟨"PaintBankModel", "laysNext", "(III)I"⟩, 49) := ⟨⟨by decide +kernel, by decide +kernel⟩, List.mem_of_getElem? (i := 1513) (by decide +kernel), List.mem_of_getElem? (i := 2188) (by decide +kernel), List.mem_of_getElem? (i := 2189) (by decide +kernel)⟩
theorem lw_p108 : lw_okq (⟨"PaintBankModel", "swaps", "()I"⟩, 49) := ⟨⟨by decide +kernel, by decide +kernel⟩, List.mem_of_getElem? (i := 1513) (by decide +kernel), List.mem_of_getElem? (i := 2200) (by decide +kernel), List.mem_of_getElem? (i := 2201) (by decide +kernel)⟩
theorem lw_p109 : lw_okq (⟨"PaintBankModel", "command", "()V"⟩, 49) := ⟨⟨by decide +kernel, by decide +kernel⟩, List.mem_of_getElem? (i := 1513) (by decide +kernel), List.mem_of_getElem? (i := 2208) (by decide +kernel), List.mem_of_getElem? (i := 2209) (by decide +kernel)⟩
theorem lw_p110 : lw_okq (⟨"PaintBankModel", "commandHere", "()I"⟩, 49) := ⟨⟨by decide +kernel, by decide +kernel⟩, List.mem_of_getElem? (i := 1513) (by decide +kernel), List.mem_of_getElem? (i := 2212) (by decide +kernel), List.mem_of_getElem? (i := 2213) (by decide +kernel)⟩
theorem lw_p111 : lw_okq (⟨"PaintBankModel", "adds", "(II)V"⟩, 49) := ⟨⟨by decide +kernel, by decide +kernel⟩, List.mem_of_getElem? (i := 1513) (by decide +kernel), List.mem_of_getElem? (i := 2216) (by decide +kernel), List.mem_of_getElem? (i := 2217) (by decide +kernel)⟩
def lw_privs_7 : List (MethodName × Nat) := [(⟨"PaintBankModel", "held", "()I"⟩, 49), (⟨"PaintBankModel", "unloadsNow", "()I"⟩, 49), (⟨"PaintBankModel", "keepsAside", "()V"⟩, 49), (⟨"PaintBankModel", "boundOf", "(Z)I"⟩, 49), (⟨"PaintBankModel", "waits0", "()I"⟩, 49), (⟨"PaintBankModel", "jobColor", "(I)I"⟩, 49), (⟨"PaintBankModel", "laysSwap", "()I"⟩, 49), (⟨"PaintBankModel", "laysFewest", "()V"⟩, 49), (⟨"PaintBankModel", "isJob", "(III)Z"⟩, 49), (⟨"PaintBankModel", "fewestBy", "(III)I"⟩, 49), (⟨"PaintBankModel", "differs", "(II)I"⟩, 49), (⟨"PaintBankModel", "laysNext", "(III)I"⟩, 49), (⟨"PaintBankModel", "swaps", "()I"⟩, 49), (⟨"PaintBankModel", "command", "()V"⟩, 49), (⟨"PaintBankModel", "commandHere", "()I"⟩, 49), (⟨"PaintBankModel", "adds", "(II)V"⟩, 49)]
theorem lw_r7 : ∀ q ∈ lw_privs_7, lw_okq q := List.forall_mem_cons.mpr ⟨lw_p96, List.forall_mem_cons.mpr ⟨lw_p97, List.forall_mem_cons.mpr ⟨lw_p98, List.forall_mem_cons.mpr ⟨lw_p99, List.forall_mem_cons.mpr ⟨lw_p100, List.forall_mem_cons.mpr ⟨lw_p101, List.forall_mem_cons.mpr ⟨lw_p102, List.forall_mem_cons.mpr ⟨lw_p103, List.forall_mem_cons.mpr ⟨lw_p104, List.forall_mem_cons.mpr ⟨lw_p105, List.forall_mem_cons.mpr ⟨lw_p106, List.forall_mem_cons.mpr ⟨lw_p107, List.forall_mem_cons.mpr ⟨lw_p108, List.forall_mem_cons.mpr ⟨lw_p109, List.forall_mem_cons.mpr ⟨lw_p110, List.forall_mem_cons.mpr ⟨lw_p111, fun _ h => absurd h List.not_mem_nil⟩⟩⟩⟩⟩⟩⟩⟩⟩⟩⟩⟩⟩⟩⟩⟩
theorem lw_p112 : lw_okq (⟨"PaintBankModel", "closes", "()V"⟩, 49) := ⟨⟨by decide +kernel, by decide +kernel⟩, List.mem_of_getElem? (i := 1513) (by decide +kernel), List.mem_of_getElem? (i := 2220) (by decide +kernel), List.mem_of_getElem? (i := 2221) (by decide +kernel)⟩
theorem lw_p113 : lw_okq (⟨"PaintBankModel", "runs", "()I"⟩, 49) := ⟨⟨by decide +kernel, by decide +kernel⟩, List.mem_of_getElem? (i := 1513) (by decide +kernel), List.mem_of_getElem? (i := 2224) (by decide +kernel), List.mem_of_getElem? (i := 2225) (by decide +kernel)⟩
theorem lw_p114 : lw_okq (⟨"PaintBankModel", "does", "(II)Z"⟩, 49) := ⟨⟨by decide +kernel, by decide +kernel⟩, List.mem_of_getElem? (i := 1513) (by decide +kernel), List.mem_of_getElem? (i := 2228) (by decide +kernel), List.mem_of_getElem? (i := 2229) (by decide +kernel)⟩
theorem lw_p115 : lw_okq (⟨"PaintBankModel", "passes", "(I)Z"⟩, 49) := ⟨⟨by decide +kernel, by decide +kernel⟩, List.mem_of_getElem? (i := 1513) (by decide +kernel), List.mem_of_getElem? (i := 2232) (by decide +kernel), List.mem_of_getElem? (i := 2233) (by decide +kernel)⟩
theorem lw_p116 : lw_okq (⟨"PaintBankModel", "walks", "(I)Z"⟩, 49) := ⟨⟨by decide +kernel, by decide +kernel⟩, List.mem_of_getElem? (i := 1513) (by decide +kernel), List.mem_of_getElem? (i := 2236) (by decide +kernel), List.mem_of_getElem? (i := 2237) (by decide +kernel)⟩
theorem lw_p117 : lw_okq (⟨"PaintBankModel", "moves", "(II)Z"⟩, 49) := ⟨⟨by decide +kernel, by decide +kernel⟩, List.mem_of_getElem? (i := 1513) (by decide +kernel), List.mem_of_getElem? (i := 2240) (by decide +kernel), List.mem_of_getElem? (i := 2241) (by decide +kernel)⟩
theorem lw_p118 : lw_okq (⟨"PaintBankModel", "tellName", "(J)V"⟩, 49) := ⟨⟨by decide +kernel, by decide +kernel⟩, List.mem_of_getElem? (i := 1513) (by decide +kernel), List.mem_of_getElem? (i := 2257) (by decide +kernel), List.mem_of_getElem? (i := 2258) (by decide +kernel)⟩
theorem lw_p119 : lw_okq (⟨"PaintBankModel", "tell", "(I)V"⟩, 49) := ⟨⟨by decide +kernel, by decide +kernel⟩, List.mem_of_getElem? (i := 1513) (by decide +kernel), List.mem_of_getElem? (i := 2262) (by decide +kernel), List.mem_of_getElem? (i := 2263) (by decide +kernel)⟩
theorem lw_p120 : lw_okq (⟨"PaintBankModel", "tellCar", "(I)V"⟩, 49) := ⟨⟨by decide +kernel, by decide +kernel⟩, List.mem_of_getElem? (i := 1513) (by decide +kernel), List.mem_of_getElem? (i := 2266) (by decide +kernel), List.mem_of_getElem? (i := 2267) (by decide +kernel)⟩
def lw_privs_8 : List (MethodName × Nat) := [(⟨"PaintBankModel", "closes", "()V"⟩, 49), (⟨"PaintBankModel", "runs", "()I"⟩, 49), (⟨"PaintBankModel", "does", "(II)Z"⟩, 49), (⟨"PaintBankModel", "passes", "(I)Z"⟩, 49), (⟨"PaintBankModel", "walks", "(I)Z"⟩, 49), (⟨"PaintBankModel", "moves", "(II)Z"⟩, 49), (⟨"PaintBankModel", "tellName", "(J)V"⟩, 49), (⟨"PaintBankModel", "tell", "(I)V"⟩, 49), (⟨"PaintBankModel", "tellCar", "(I)V"⟩, 49)]
theorem lw_r8 : ∀ q ∈ lw_privs_8, lw_okq q := List.forall_mem_cons.mpr ⟨lw_p112, List.forall_mem_cons.mpr ⟨lw_p113, List.forall_mem_cons.mpr ⟨lw_p114, List.forall_mem_cons.mpr ⟨lw_p115, List.forall_mem_cons.mpr ⟨lw_p116, List.forall_mem_cons.mpr ⟨lw_p117, List.forall_mem_cons.mpr ⟨lw_p118, List.forall_mem_cons.mpr ⟨lw_p119, List.forall_mem_cons.mpr ⟨lw_p120, fun _ h => absurd h List.not_mem_nil⟩⟩⟩⟩⟩⟩⟩⟩⟩
def lw_privs : List (MethodName × Nat) := lw_privs_1 ++ (lw_privs_2 ++ (lw_privs_3 ++ (lw_privs_4 ++ (lw_privs_5 ++ (lw_privs_6 ++ (lw_privs_7 ++ (lw_privs_8)))))))
def lw_tbl : List Cond := k2_sels lw_privs ++ tables_1
theorem lw_privs_ok : ∀ q ∈ lw_privs, lw_okq q := by
  show ∀ q ∈ lw_privs_1 ++ (lw_privs_2 ++ (lw_privs_3 ++ (lw_privs_4 ++ (lw_privs_5 ++ (lw_privs_6 ++ (lw_privs_7 ++ (lw_privs_8))))))), lw_okq q
  exact List.forall_mem_append.mpr ⟨lw_r1, List.forall_mem_append.mpr ⟨lw_r2, List.forall_mem_append.mpr ⟨lw_r3, List.forall_mem_append.mpr ⟨lw_r4, List.forall_mem_append.mpr ⟨lw_r5, List.forall_mem_append.mpr ⟨lw_r6, List.forall_mem_append.mpr ⟨lw_r7, lw_r8⟩⟩⟩⟩⟩⟩⟩
end
section
/-! ===== BEGIN words of one list among another's, by their places ===== -/
theorem goodIn_r {big : List Cond} (ws : List Cond) (ps : List Nat) (hp : ws = ps.filterMap (fun i => big[i]?)) (h : ws.all goodWord = true) : GoodIn big ws := by
  intro w hw
  have h1 := List.all_eq_true.mp h w hw
  rw [hp] at hw
  obtain ⟨i, -, hi⟩ := List.mem_filterMap.mp hw
  have hm : w ∈ big := by first | exact List.mem_of_getElem? hi | exact List.getElem?_mem hi
  exact ⟨hm, good_of_word h1⟩
theorem goodIn_app {big a b : List Cond} (ha : GoodIn big a) (hb : GoodIn big b) : GoodIn big (a ++ b) := fun w h => (List.mem_append.mp h).elim (ha w) (hb w)
theorem goodIn_ca {big a b : List Cond} {c : Cond} (ha : GoodIn big (c :: a)) (hb : GoodIn big b) : GoodIn big (c :: (a ++ b)) := fun w h => (List.mem_cons.mp h).elim (fun e => ha w (List.mem_cons.mpr (Or.inl e))) (fun h => (List.mem_append.mp h).elim (fun h => ha w (List.mem_cons.mpr (Or.inr h))) (hb w))
theorem goodIn_sub {big ws : List Cond} (hm : ∀ w ∈ ws, w ∈ big) (h : ws.all goodWord = true) : GoodIn big ws := fun w hw => ⟨hm w hw, good_of_word (List.all_eq_true.mp h w hw)⟩
/-! ===== END ===== -/
/-! ===== BEGIN exceptions that leave a method, and their catching by the caller (launches without stack traces) ===== -/
section VXA
/-! The laws vx_back, vx_callV, vx_callS, vx_callSW, vx_throw0, vx_throwS follow proofs of the library, with one case more: JvmDerived/Free/Laws.lean (Back.of_free), Shelf42/LK1.lean (callV, callS), Shelf/KitTraced.lean (throwNew0V, throwNewS). -/
/-- where a method has thrown q: the class by its name, the cell, what was written, the world -/
def vx_T (XC : String → State → State → Prop) (st : State) (q : Addr) (t : State) (mc ms : Nat) (free : Addr → Prop) : Prop :=
  ∃ (E : String) (ce : Cell) (L : List Loc), XC E st t ∧ t.heap[q]? = some ce ∧ ce.vm = .none ∧ st.vm.findClass E = some ce.cls ∧ st.WarmedH t.vm ∧ st.sameButNew ({ t with vm := st.vm } : State) L mc ms ∧ ∀ z ∈ L, free z.base
def vx_Q (Qc : Array Value → State → Outcome → State → Prop) (XC : String → State → State → Prop) (mc ms : Nat) (free : Addr → Prop) : Array Value → State → Outcome → State → Prop := fun a st o t =>
  (Qc a st o t ∧ ∃ L, FrameEnd st o t L mc ms ∧ ∀ q ∈ L, free q.base) ∨ ∃ q, o = .threw q ∧ vx_T XC st q t mc ms free
/-- a callee that returns or throws -/
def vx_Met (l : Launch) (y : MethodName) (ws : List Cond) (rm : Room) (Pc : Array Value → State → Prop) (Qc : Array Value → State → Outcome → State → Prop) (XC : String → State → State → Prop) (mc ms : Nat) (free : Addr → Prop) : Prop :=
  MetFree l y (headSpec ws rm) Pc (fun _ _ _ _ _ => True) (vx_Q Qc XC mc ms free)
def vx_Post (XC : String → State → State → Prop) (mc ms : Nat) (free : Addr → Prop) : Pt → Array Value → Addr → Pt → Prop := fun A a q B =>
  ∃ (g : JFrame) (mk : MethodId) (t : State) (L : List Loc) (E : String) (ce : Cell), B.U.heap = t.heap ∧ B.U.vm = t.vm ∧ XC E (A.U.calling g mk a) t ∧ t.heap[q]? = some ce ∧ ce.vm = .none ∧ A.U.vm.findClass E = some ce.cls ∧ B.locs = A.locs ++ L ∧ (∀ z ∈ L, free z.base) ∧ B.cells = A.cells + mc ∧ B.slots = A.slots + ms
def vx_Back (l : Launch) (R : Room) (p : Program) (e : Env) (below : List Frame) (s : State) (sargs : Array Value) (y : MethodName) (len W9 : Nat)
    (Pre : Pt → Array Value → Prop) (Post : Pt → Array Value → Option Value → Pt → Prop) (PostX : Pt → Array Value → Addr → Pt → Prop) : Prop :=
  ∀ (m : MethodId) (meth : Method) (c : Code) (A : Pt) (g : JFrame) (ig : Instr) (mk : MethodId) (a : Array Value),
    Stand p l e R s m sargs below meth c A.U A.locs A.cells A.slots → g.method = m → g.locals.size = c.maxLocals → decode c.code g.pc = .ok (ig, len) →
    2 * g.monitorRoom + (g.stack.map fun v => v.category).sum ≤ W9 → A.U.methodNamed? y = some mk → Pre A a →
    (∃ (v : Option Value) (B : Pt), Stand p l e R s m sargs below meth c B.U B.locs B.cells B.slots ∧ Post A a v B ∧
      Steps p.tables e below (doInvoke e (A.U.setTop g) [] mk a).1 (B.U.setTop { g with pc := g.pc + len, stack := v.toList ++ g.stack })) ∨
    (∃ (q : Addr) (B : Pt), Stand p l e R s m sargs below meth c B.U B.locs B.cells B.slots ∧ PostX A a q B ∧
      Steps p.tables e below (doInvoke e (A.U.setTop g) [] mk a).1 ((B.U.setTop g).pushFrame (.throwing q)))
section Payer
variable {l : Launch} {R : Room} {p : Program} {e : Env} {below : List Frame} {s : State} {sargs : Array Value} {y : MethodName} {len W9 : Nat}
theorem vx_back {ws : List Cond} {rm : Room} {Pc : Array Value → State → Prop} {Qc : Array Value → State → Outcome → State → Prop} {XC : String → State → State → Prop} {mc ms : Nat} {free : Addr → Prop} {bytes : ByteArray} {maxL : Nat} {ret : Option FieldType}
    (hM : vx_Met l y ws rm Pc Qc XC mc ms free) (hblind : FrameBlind Pc) (hrc : rm.cells = mc) (hrs : rm.slots = ms)
    (hframes : rm.frames + 1 ≤ R.frames) (hlocals : W9 + (maxL + 11) + rm.locals ≤ R.locals)
    (hws : ∀ w ∈ ws, ∀ a' U, s.WarmedH U.vm → w.before a' U = true) (hcode : Cond.code y bytes maxL ret ∈ ws) (hinit : ∀ a' U, s.WarmedH U.vm → (Cond.initialized y.cls).before a' U = true) :
    vx_Back l R p e below s sargs y len W9 (PreOf R mc ms Pc) (PostOf Qc mc ms free) (vx_Post XC mc ms free) := by
  intro m meth c A g ig mk a X hg hsize hdg hW hn hp
  have h1 : (headSpec ws rm).pre.before a A.U = true := atoms_intro fun w hw => hws w hw _ _ X.warmed
  have h2 : (Cond.code y bytes maxL ret).before a A.U = true := hws _ hcode _ _ X.warmed
  have h3 : (Cond.initialized y.cls).before a A.U = true := hinit _ _ X.warmed
  have h4 : A.cells + (headSpec ws rm).room.cells ≤ R.cells := by rw [show (headSpec ws rm).room.cells = mc from hrc]; exact hp.1
  have h5 : A.slots + (headSpec ws rm).room.slots ≤ R.slots := by rw [show (headSpec ws rm).room.slots = ms from hrs]; exact hp.2.1
  have hPc : Pc a (A.U.calling g mk a) := hblind _ _ _ _ hp.2.2
  obtain ⟨U, Ls, c0, s0⟩ := A
  dsimp only [Pt.U, Pt.locs, Pt.cells, Pt.slots] at h1 h2 h3 h4 h5 X hn hPc ⊢
  obtain ⟨methY, cY, hmY, hcY, -, hlY, -, -, -, -⟩ := Cond.code_spec hn h2
  obtain ⟨kY, hkY, -⟩ := className_of_methodNamed hn
  have hinitY : kY.init = .initialized := Cond.initialized_spec (findClass_of_methodNamed hn) hkY h3
  have h : At U g.method c below := by rw [hg]; exact X.here
  have hlocals9 : W9 + (maxL + 11) + (headSpec ws rm).room.locals ≤ R.locals := hlocals
  have happ : (headSpec ws rm).appliesLoose y e.platform (U.calling g mk a) = true :=
    Spec.appliesLoose_calling (g := g) h hdg hn hkY hinitY
      (X.room_calling (g := g) (R' := (headSpec ws rm).room) hsize hmY hcY hframes (by rw [hlY]; omega) h4 h5) h1
  obtain ⟨mid, hmid⟩ := h.above
  have hfr : (U.setTop g).frames = (.java g :: mid) ++ below := by rw [State.frames_setTop' g h.top, hmid]; rfl
  obtain ⟨o, s₂, hsteps, -, hend, hq⟩ := Steps.callFree hM p X.admits X.cas X.clock (acts := []) hfr happ hPc trivial
  have hq' : vx_Q Qc XC mc ms free a (U.calling g mk a) o s₂ := hq
  rw [State.frames_setTop' g h.top] at hend
  obtain ⟨g₀, hg0⟩ := Option.isSome_iff_exists.mp h.top
  obtain ⟨r, hr⟩ := State.topJava?_eq_some.mp hg0
  have hr' : (({ U with heap := s₂.heap, slotsUsed := s₂.slotsUsed } : State).setVm s₂.vm).frames = .java g₀ :: r := hr
  rcases hq' with ⟨hqc, L, hfe, hL⟩ | ⟨q, rfl, E, ce, L, hx, hce, hcv, hcl, hW₂, hsm, hL⟩
  · obtain ⟨⟨v, rfl⟩, hW₂, e2, q2, q3, q4, q5, q6⟩ := id hfe
    have e3 : s₂ = ({ (U.calling g mk a).setFrames s₂.frames with heap := s₂.heap, slotsUsed := s₂.slotsUsed } : State).setVm s₂.vm := by
      have : s₂ = ({ s₂ with vm := (U.calling g mk a).vm } : State).setVm s₂.vm := rfl
      rw [e2] at this
      exact this
    obtain ⟨c₂, i₂, len₂, hc₂, hd₂, hf₂⟩ := hend
    have hW' : U.WarmedH s₂.vm := hW₂
    have hcc : c₂ = c := by
      have h1 : s₂.code? g.method = U.code? g.method := by
        rw [State.code?_eq, State.code?_eq, hW'.alike.method?]
      exact Option.some.inj (hc₂.symm.trans (h1.trans h.code))
    subst hcc
    have hlen : len₂ = len := by rw [hdg] at hd₂; cases hd₂; rfl
    subst hlen
    have hs₂ : s₂ = (({ U with heap := s₂.heap, slotsUsed := s₂.slotsUsed } : State).setVm s₂.vm).setTop { g with pc := g.pc + len₂, stack := v.toList ++ g.stack } := by
      refine e3.trans ?_
      rw [hf₂, State.calling_eq h.top, State.setFrames_setFrames, State.setTop_of_frames _ hr', hr]
      rfl
    have hsame : U.sameButNew ({ U with heap := s₂.heap, slotsUsed := s₂.slotsUsed } : State) L mc ms := by
      refine ⟨?_, q2, q3, q4, q5, q6⟩
      obtain ⟨t, ht, -⟩ := State.frames_cons hr
      show ({ U with heap := s₂.heap, slotsUsed := s₂.slotsUsed } : State) = { U.setFrames U.frames with heap := s₂.heap, slotsUsed := s₂.slotsUsed }
      rw [State.setFrames_self ht]
    subst hg
    refine Or.inl ⟨v, ⟨(({ U with heap := s₂.heap, slotsUsed := s₂.slotsUsed } : State).setVm s₂.vm), Ls ++ L, c0 + mc, s0 + ms⟩,
      ⟨X.admits, X.cas, X.clock, X.frames, X.room, X.hears, X.method, X.code, (X.here.setHeapUsed s₂.heap s₂.slotsUsed).setVm hW'.alike, X.tail, State.WarmedH.trans X.warmed hW', X.limits, X.bytes, X.same.trans (hsame.setVm s.vm)⟩,
      ⟨g, mk, s₂, L, rfl, rfl, hqc, rfl, hL, rfl, rfl⟩, ?_⟩
    show Steps p.tables e below _ ((({ U with heap := s₂.heap, slotsUsed := s₂.slotsUsed } : State).setVm s₂.vm).setTop { g with pc := g.pc + len₂, stack := v.toList ++ g.stack })
    rw [← hs₂]
    exact hsteps
  · obtain ⟨e2, q2, q3, q4, q5, q6⟩ := id hsm
    have e3 : s₂ = ({ (U.calling g mk a).setFrames s₂.frames with heap := s₂.heap, slotsUsed := s₂.slotsUsed } : State).setVm s₂.vm := by
      have : s₂ = ({ s₂ with vm := (U.calling g mk a).vm } : State).setVm s₂.vm := rfl
      rw [e2] at this
      exact this
    have hf₂ : s₂.frames = .throwing q :: .java g :: U.frames.tail := hend
    have hW' : U.WarmedH s₂.vm := hW₂
    have hs₂ : s₂ = ((({ U with heap := s₂.heap, slotsUsed := s₂.slotsUsed } : State).setVm s₂.vm).setTop g).pushFrame (.throwing q) := by
      refine e3.trans ?_
      rw [hf₂, State.calling_eq h.top, State.setFrames_setFrames, State.pushFrame, State.frames_setTop _ hr', State.setTop_of_frames _ hr', State.setFrames_setFrames, hr]
      rfl
    have hsame : U.sameButNew ({ U with heap := s₂.heap, slotsUsed := s₂.slotsUsed } : State) L mc ms := by
      refine ⟨?_, q2, q3, q4, q5, q6⟩
      obtain ⟨t, ht, -⟩ := State.frames_cons hr
      show ({ U with heap := s₂.heap, slotsUsed := s₂.slotsUsed } : State) = { U.setFrames U.frames with heap := s₂.heap, slotsUsed := s₂.slotsUsed }
      rw [State.setFrames_self ht]
    subst hg
    refine Or.inr ⟨q, ⟨(({ U with heap := s₂.heap, slotsUsed := s₂.slotsUsed } : State).setVm s₂.vm), Ls ++ L, c0 + mc, s0 + ms⟩,
      ⟨X.admits, X.cas, X.clock, X.frames, X.room, X.hears, X.method, X.code, (X.here.setHeapUsed s₂.heap s₂.slotsUsed).setVm hW'.alike, X.tail, State.WarmedH.trans X.warmed hW', X.limits, X.bytes, X.same.trans (hsame.setVm s.vm)⟩,
      ⟨g, mk, s₂, L, E, ce, rfl, rfl, hx, hce, hcv, hcl, rfl, hL, rfl, rfl⟩, ?_⟩
    show Steps p.tables e below _ (((({ U with heap := s₂.heap, slotsUsed := s₂.slotsUsed } : State).setVm s₂.vm).setTop g).pushFrame (.throwing q))
    rw [← hs₂]
    exact hsteps
end Payer
section Calls
variable {p : Program} {l : Launch} {e : Env} {R : Room} {s : State} {m : MethodId} {args : Array Value} {below : List Frame} {meth : Method} {c : Code} {T : State} {locs : List Loc} {cells slots : Nat}
theorem vx_callV (X : Stand p l e R s m args below meth c T locs cells slots) (hexec : p.tables.exec = Jvm.exec) {own C : String} {index : Nat} {y : MethodName} {bytes : ByteArray} {maxL : Nat} {ret : Option FieldType}
    (hown : s.vm.findClass own = some m.cls) (hlink : (Cond.methodLink own index y).before args s = true) (hinst : (Cond.instanceMethod y).before args s = true) (hsel : (Cond.selects C y y).before args s = true)
    (hcode : (Cond.code y bytes maxL ret).before args s = true) (hy : y.cls ≠ "java/lang/invoke/MethodHandle" ∧ y.cls ≠ "java/lang/invoke/VarHandle")
    {W9 : Nat} {Pre : Pt → Array Value → Prop} {Post : Pt → Array Value → Option Value → Pt → Prop} {PostX : Pt → Array Value → Addr → Pt → Prop} (hK : vx_Back l R p e below s args y 3 W9 Pre Post PostX)
    {b : Addr} {cellB : Cell} (hcell : T.heap[b]? = some cellB) (hobj : cellB.vm.isStatics = false) (hcls : s.vm.findClass C = some cellB.cls)
    {g : JFrame} (hg : g.method = m) (hsize : g.locals.size = c.maxLocals) {argsL rest : List Value} (hlen : ∀ sig, parseMethodDescriptor y.desc = some sig → argsL.length = sig.parameters.length)
    (hstack : g.stack = argsL.reverse ++ .ref b :: rest) (hW : 2 * g.monitorRoom + (rest.map fun v => v.category).sum ≤ W9) (hdg : decode c.code g.pc = .ok (.invokevirtual index, 3))
    (hpre : ∀ vm₁, s.WarmedH vm₁ → Pre ⟨T.setVm vm₁, locs, cells, slots⟩ (Value.ref b :: argsL).toArray) :
    (∃ (v : Option Value) (vm₁ : Vm) (B : Pt), s.WarmedH vm₁ ∧ Stand p l e R s m args below meth c B.U B.locs B.cells B.slots ∧ Post ⟨T.setVm vm₁, locs, cells, slots⟩ (Value.ref b :: argsL).toArray v B ∧
      ∀ target, Steps p.tables e below (B.U.setTop { g with pc := g.pc + 3, stack := v.toList ++ rest }) target → Steps p.tables e below (T.setTop g) target) ∨
    (∃ (q : Addr) (vm₁ : Vm) (B : Pt), s.WarmedH vm₁ ∧ Stand p l e R s m args below meth c B.U B.locs B.cells B.slots ∧ PostX ⟨T.setVm vm₁, locs, cells, slots⟩ (Value.ref b :: argsL).toArray q B ∧
      Steps p.tables e below (T.setTop g) ((B.U.setTop { g with stack := rest }).pushFrame (.throwing q))) := by
  obtain ⟨mk, methM, hnamed, hmethM, hstM, habM⟩ := Cond.instanceMethod_spec hinst
  obtain ⟨methM', cM, hmethM', -, -, -, -, -, -, hsigM⟩ := Cond.code_spec hnamed hcode
  cases hmethM.symm.trans hmethM'
  obtain ⟨c2, r2, m2, q1, q2, q3, q4, kP, hkP, hkPi⟩ := Cond.selects_spec hsel
  cases hcls.symm.trans q1
  cases (State.methodFound?_of_named hnamed hy).symm.trans q2
  cases hnamed.symm.trans q3
  have hselP : selectMethod e.platform s.vm cellB.cls mk = .method mk := by rw [Launch.admits_selectMethod X.admits]; exact q4
  obtain ⟨vm₁, X₁, hstep₁⟩ := X.invokevirtual hexec hown hlink hnamed hmethM hstM hkP hkPi hy (a := b) (cell := cellB) hcell
    (fun z h => by rw [h] at hobj; cases hobj) hselP hmethM habM hkP hkPi (g := g) hg (argsL := argsL) (rest := rest) (hlen _ hsigM) hstack hdg
  rcases hK m meth c ⟨T.setVm vm₁, locs, cells, slots⟩ { g with stack := rest } (.invokevirtual index) mk (Value.ref b :: argsL).toArray X₁ hg hsize hdg hW (X₁.named hnamed) (hpre vm₁ X₁.warmed) with ⟨v, B, X', hpost, hsteps⟩ | ⟨q, B, X', hpost, hsteps⟩
  · exact Or.inl ⟨v, vm₁, B, X₁.warmed, X', hpost, fun target h => hstep₁ _ fun acts => by rw [doInvoke_state]; exact hsteps.trans h⟩
  · exact Or.inr ⟨q, vm₁, B, X₁.warmed, X', hpost, hstep₁ _ fun acts => by rw [doInvoke_state]; exact hsteps⟩
theorem vx_callS (X : Stand p l e R s m args below meth c T locs cells slots) (hexec : p.tables.exec = Jvm.exec) {own : String} {index : Nat} {y : MethodName} {bytes : ByteArray} {maxL : Nat} {ret : Option FieldType}
    (hown : s.vm.findClass own = some m.cls) (hlink : (Cond.methodLink own index y).before args s = true) (hstat : (Cond.static y).before args s = true) (hinit : (Cond.initialized y.cls).before args s = true)
    (hcode : (Cond.code y bytes maxL ret).before args s = true) (hy : y.cls ≠ "java/lang/invoke/MethodHandle" ∧ y.cls ≠ "java/lang/invoke/VarHandle")
    {W9 : Nat} {Pre : Pt → Array Value → Prop} {Post : Pt → Array Value → Option Value → Pt → Prop} {PostX : Pt → Array Value → Addr → Pt → Prop} (hK : vx_Back l R p e below s args y 3 W9 Pre Post PostX)
    {g : JFrame} (hg : g.method = m) (hsize : g.locals.size = c.maxLocals) {argsL rest : List Value} (hlen : ∀ sig, parseMethodDescriptor y.desc = some sig → argsL.length = sig.parameters.length)
    (hstack : g.stack = argsL.reverse ++ rest) (hW : 2 * g.monitorRoom + (rest.map fun v => v.category).sum ≤ W9) (hdg : decode c.code g.pc = .ok (.invokestatic index, 3))
    (hpre : ∀ vm₁, s.WarmedH vm₁ → Pre ⟨T.setVm vm₁, locs, cells, slots⟩ argsL.toArray) :
    (∃ (v : Option Value) (vm₁ : Vm) (B : Pt), s.WarmedH vm₁ ∧ Stand p l e R s m args below meth c B.U B.locs B.cells B.slots ∧ Post ⟨T.setVm vm₁, locs, cells, slots⟩ argsL.toArray v B ∧
      ∀ target, Steps p.tables e below (B.U.setTop { g with pc := g.pc + 3, stack := v.toList ++ rest }) target → Steps p.tables e below (T.setTop g) target) ∨
    (∃ (q : Addr) (vm₁ : Vm) (B : Pt), s.WarmedH vm₁ ∧ Stand p l e R s m args below meth c B.U B.locs B.cells B.slots ∧ PostX ⟨T.setVm vm₁, locs, cells, slots⟩ argsL.toArray q B ∧
      Steps p.tables e below (T.setTop g) ((B.U.setTop { g with stack := rest }).pushFrame (.throwing q))) := by
  obtain ⟨mk, hnamed⟩ := Cond.code_named hcode
  obtain ⟨methM, cM, hmethM, -, -, -, -, -, -, hsigM⟩ := Cond.code_spec hnamed hcode
  have hstatic : methM.isStatic = true := Cond.static_spec hnamed hmethM hstat
  obtain ⟨kP, hkP, -⟩ := className_of_methodNamed hnamed
  have hinitP : kP.init = .initialized := Cond.initialized_spec (findClass_of_methodNamed hnamed) hkP hinit
  obtain ⟨vm₁, X₁, hstep₁⟩ := X.invokestatic hexec hown hlink hnamed hmethM hstatic hkP hinitP hy (g := g) hg (argsL := argsL) (rest := rest) (hlen _ hsigM) hstack hdg
  rcases hK m meth c ⟨T.setVm vm₁, locs, cells, slots⟩ { g with stack := rest } (.invokestatic index) mk argsL.toArray X₁ hg hsize hdg hW (X₁.named hnamed) (hpre vm₁ X₁.warmed) with ⟨v, B, X', hpost, hsteps⟩ | ⟨q, B, X', hpost, hsteps⟩
  · exact Or.inl ⟨v, vm₁, B, X₁.warmed, X', hpost, fun target h => hstep₁ _ fun acts => by rw [doInvoke_state]; exact hsteps.trans h⟩
  · exact Or.inr ⟨q, vm₁, B, X₁.warmed, X', hpost, hstep₁ _ fun acts => by rw [doInvoke_state]; exact hsteps⟩
end Calls
theorem vx_cls {s : State} {T : State} {vm₁ : Vm} {E : String} {k : ClassId} (hW : s.WarmedH vm₁) (h : (T.setVm vm₁).vm.findClass E = some k) : s.vm.findClass E = some k := by
  have h1 : vm₁.findClass E = some k := h
  rw [hW.alike.findClass] at h1
  exact h1
/-- the method's frame g, with q thrown over it -/
def vx_W (p : Program) (l : Launch) (e : Env) (R : Room) (s : State) (m : MethodId) (args : Array Value) (below : List Frame) (meth : Method) (c : Code) (H : Heap) (locs : List Loc) (cells slots : Nat) (Q : State → Prop) (g : JFrame) (q : Addr) : Prop :=
  ∀ T : State, T.heap = H → Stand p l e R s m args below meth c T locs cells slots → ∃ t, Steps p.tables e below ((T.setTop g).pushFrame (.throwing q)) t ∧ Q t
def vx_Run (p : Program) (l : Launch) (e : Env) (R : Room) (s : State) (m : MethodId) (args : Array Value) (below : List Frame) (meth : Method) (c : Code) (H : Heap) (locs : List Loc) (cells slots mc ms : Nat) (g : JFrame) (rest : List Value) (Qa : State → Outcome → State → Prop) (XC : String → State → State → Prop) (free : Addr → Prop) : Prop :=
  ∀ T : State, T.heap = H → Stand p l e R s m args below meth c T locs cells slots →
    (∃ (v : Option Value) (st₀ t T' : State) (L : List Loc), st₀.heap = H ∧ Stand p l e R s m args below meth c T' (locs ++ L) (cells + mc) (slots + ms) ∧ (∀ q ∈ L, free q.base) ∧ T'.heap = t.heap ∧ T'.vm = t.vm ∧ Qa st₀ (.returned v) t ∧
      Goes p e below T g T' { g with pc := g.pc + 3, stack := v.toList ++ rest }) ∨
    (∃ (q : Addr) (st₀ t T' : State) (L : List Loc) (E : String) (ce : Cell), st₀.heap = H ∧ Stand p l e R s m args below meth c T' (locs ++ L) (cells + mc) (slots + ms) ∧ (∀ z ∈ L, free z.base) ∧ T'.heap = t.heap ∧ T'.vm = t.vm ∧ XC E st₀ t ∧ t.heap[q]? = some ce ∧ ce.vm = .none ∧ s.vm.findClass E = some ce.cls ∧
      Steps p.tables e below (T.setTop g) ((T'.setTop { g with stack := rest }).pushFrame (.throwing q)))
def vx_X {S : Type} (px : S → Prop) (B : String → S → State → Prop) (A : Nat → Prop) : String → State → State → Prop := fun E st t => ∃ u : S, px u ∧ B E u t ∧ va_F A st t
section Runs
variable {p : Program} {l : Launch} {e : Env} {R : Room} {s : State} {m : MethodId} {args : Array Value} {below : List Frame} {meth : Method} {c : Code} {H : Heap} {locs : List Loc} {cells slots : Nat}
variable {y : MethodName} {bytes cc : ByteArray} {maxL nL mc ms n index : Nat} {ret : Option FieldType} {ws : List Cond} {rm : Room} {Pc : Array Value → State → Prop} {Qc : Array Value → State → Outcome → State → Prop} {XC : String → State → State → Prop} {free : Addr → Prop} {Ts : List Cond} {own C : String} {b : Addr} {As rest : List Value} {g : JFrame}
theorem vx_callBack (cb : CallB R s args own index y bytes maxL ret ws rm mc ms n) (hM : vx_Met l y ws rm Pc Qc XC mc ms free) (hbl : FrameBlind Pc) : vx_Back l R p e below s args y 3 8 (PreOf R mc ms Pc) (PostOf Qc mc ms free) (vx_Post XC mc ms free) := by
  obtain ⟨hrc, hrs, hfr, hlo, hws, hcw, -, hini, -⟩ := cb
  exact vx_back (bytes := bytes) (maxL := maxL) (ret := ret) hM hbl hrc hrs hfr hlo hws hcw (fun a' U hW => word_at hW (Or.inl (by first | rfl | simp [Cond.onTables, Cond.keeps, Cond.steady])) hini)
theorem vx_runV (S : CallFix p m c cc nL s args Ts own) (hM : vx_Met l y ws rm Pc Qc XC mc ms free) (cw : CallW R s args own C index y bytes maxL ret ws rm mc ms n) (hp : PreV s H C b Pc As)
    (hg : g.method = m) (hn : As.length = n) (hsize : g.locals.size = nL) (hstack : g.stack = As.reverse ++ .ref b :: rest) (hW : 2 * g.monitorRoom + (rest.map fun v => v.category).sum ≤ 8) (hdg : decode cc g.pc = .ok (.invokevirtual index, 3)) (hf : cells + mc ≤ R.cells ∧ slots + ms ≤ R.slots) :
    vx_Run p l e R s m args below meth c H locs cells slots mc ms g rest (Qc (Value.ref b :: As).toArray) XC free := by
  have hK : vx_Back l R p e below s args y 3 8 (PreOf R mc ms Pc) (PostOf Qc mc ms free) (vx_Post XC mc ms free) := vx_callBack cw.1 hM hp.1
  obtain ⟨⟨-, -, -, -, -, -, hcode, -, hy, hlen, hl⟩, hin, hse⟩ := cw
  obtain ⟨hx, hb, hml, ho, -⟩ := S
  obtain ⟨-, ⟨cellB, hcB, hoB, hclB⟩, hPc⟩ := hp
  intro T hT X
  rcases vx_callV X hx (C := C) (bytes := bytes) (maxL := maxL) (ret := ret) ho hl hin hse hcode hy hK (by rw [hT]; exact hcB) hoB hclB hg (hsize.trans hml.symm) (argsL := As) (rest := rest) (fun sig h => hn.trans (hlen sig h)) hstack hW (by rw [hb]; exact hdg)
    (fun vm₁ hW₁ => ⟨hf.1, hf.2, hPc (T.setVm vm₁) hT hW₁⟩) with ⟨v, vm₁, ⟨U', l2, c2, s2⟩, hW₁, X', ⟨g', mk, t, L, e1, e2, hq, h1, hL, h2, h3⟩, st⟩ | ⟨q, vm₁, ⟨U', l2, c2, s2⟩, hW₁, X', ⟨g', mk, t, L, E, ce, e1, e2, hq, hce, hcv, hcl, h1, hL, h2, h3⟩, st⟩
  · dsimp only [Pt.U, Pt.locs, Pt.cells, Pt.slots] at X' e1 e2 h1 h2 h3 st
    subst h1; subst h2; subst h3
    exact Or.inl ⟨v, (T.setVm vm₁).calling g' mk (Value.ref b :: As).toArray, t, U', L, hT, X', hL, e1, e2, hq, st⟩
  · dsimp only [Pt.U, Pt.locs, Pt.cells, Pt.slots] at X' e1 e2 h1 h2 h3 st hcl
    subst h1; subst h2; subst h3
    exact Or.inr ⟨q, (T.setVm vm₁).calling g' mk (Value.ref b :: As).toArray, t, U', L, E, ce, hT, X', hL, e1, e2, hq, hce, hcv, vx_cls hW₁ hcl, st⟩
theorem vx_runS (S : CallFix p m c cc nL s args Ts own) (hM : vx_Met l y ws rm Pc Qc XC mc ms free) (cw : CallB R s args own index y bytes maxL ret ws rm mc ms n ∧ (Cond.static y).before args s = true) (hp : PreS s H Pc As)
    (hg : g.method = m) (hn : As.length = n) (hsize : g.locals.size = nL) (hstack : g.stack = As.reverse ++ rest) (hW : 2 * g.monitorRoom + (rest.map fun v => v.category).sum ≤ 8) (hdg : decode cc g.pc = .ok (.invokestatic index, 3)) (hf : cells + mc ≤ R.cells ∧ slots + ms ≤ R.slots) :
    vx_Run p l e R s m args below meth c H locs cells slots mc ms g rest (Qc As.toArray) XC free := by
  have hK : vx_Back l R p e below s args y 3 8 (PreOf R mc ms Pc) (PostOf Qc mc ms free) (vx_Post XC mc ms free) := vx_callBack cw.1 hM hp.1
  obtain ⟨⟨-, -, -, -, -, -, hcode, hini, hy, hlen, hl⟩, hstt⟩ := cw
  obtain ⟨hx, hb, hml, ho, -⟩ := S
  intro T hT X
  rcases vx_callS X hx (bytes := bytes) (maxL := maxL) (ret := ret) ho hl hstt hini hcode hy hK hg (hsize.trans hml.symm) (argsL := As) (rest := rest) (fun sig h => hn.trans (hlen sig h)) hstack hW (by rw [hb]; exact hdg)
    (fun vm₁ hW₁ => ⟨hf.1, hf.2, hp.2 (T.setVm vm₁) hT hW₁⟩) with ⟨v, vm₁, ⟨U', l2, c2, s2⟩, hW₁, X', ⟨g', mk, t, L, e1, e2, hq, h1, hL, h2, h3⟩, st⟩ | ⟨q, vm₁, ⟨U', l2, c2, s2⟩, hW₁, X', ⟨g', mk, t, L, E, ce, e1, e2, hq, hce, hcv, hcl, h1, hL, h2, h3⟩, st⟩
  · dsimp only [Pt.U, Pt.locs, Pt.cells, Pt.slots] at X' e1 e2 h1 h2 h3 st
    subst h1; subst h2; subst h3
    exact Or.inl ⟨v, (T.setVm vm₁).calling g' mk As.toArray, t, U', L, hT, X', hL, e1, e2, hq, st⟩
  · dsimp only [Pt.U, Pt.locs, Pt.cells, Pt.slots] at X' e1 e2 h1 h2 h3 st hcl
    subst h1; subst h2; subst h3
    exact Or.inr ⟨q, (T.setVm vm₁).calling g' mk As.toArray, t, U', L, E, ce, hT, X', hL, e1, e2, hq, hce, hcv, vx_cls hW₁ hcl, st⟩
end Runs
section Rows
variable {p : Program} {l : Launch} {e : Env} {R : Room} {s : State} {m : MethodId} {args : Array Value} {below : List Frame} {meth : Method} {c : Code} {H : Heap} {locs : List Loc} {cells slots : Nat} {Q : State → Prop}
variable {mc ms : Nat} {free : Addr → Prop} {A0 A1 : Nat → Prop} {H0 : Heap} {a : Array Value} {pc : Nat} {ls : Array Slot} {st0 rest : List Value}
theorem vx_keep {st₀ t T' : State} {L : List Loc} (h0 : st₀.heap = H) (e1 : T'.heap = t.heap) (hS : va_S A0 H0 H locs) (hA : ∀ q, q < H.size → A1 q → A0 q) (hf : ∀ q, free q → A0 q) (hL : ∀ q ∈ L, free q.base) (hF : va_F A1 st₀ t) :
    H.size ≤ T'.heap.size ∧ (∀ q : Nat, q < H.size → ¬ A1 q → T'.heap[q]? = H[q]?) ∧ va_S A0 H0 T'.heap (locs ++ L) := by
  obtain ⟨hz, hk⟩ := hF
  rw [h0] at hz hk
  exact ⟨by rw [e1]; exact hz, fun q h1 h2 => by rw [e1]; exact hk q h1 h2,
    ⟨Nat.le_trans hS.1 (by rw [e1]; exact hz), fun q h1 h2 => by rw [e1, hk q (Nat.lt_of_lt_of_le h1 hS.1) (fun z => h2 (hA q (Nat.lt_of_lt_of_le h1 hS.1) z))]; exact hS.2.1 q h1 h2, fun q hq => by
      rcases List.mem_append.mp hq with h | h
      · exact hS.2.2 q h
      · exact hf _ (hL q h)⟩⟩
theorem vx_calli {S SX : Type} {post : Int32 → S → Prop} {px : SX → Prop} {B : S → State → Prop} {BX : String → SX → State → Prop} {AX : Nat → Prop} (hr : vx_Run p l e R s m args below meth c H locs cells slots mc ms (F0 m pc ls st0) rest (va_Qi post B A1 a) (vx_X px BX AX) free) (hS : va_S A0 H0 H locs) (hA : ∀ q, q < H.size → A1 q → A0 q) (hf : ∀ q, free q → A0 q) (hAX : ∀ q, q < H.size → AX q → A0 q)
    (kx : ∀ (E : String) (ce : Cell) (q9 : Addr) (u : SX) (t : State) (H1 : Heap) (locs1 : List Loc), t.heap = H1 → s.vm.Alike t.vm → px u → BX E u t → H.size ≤ H1.size → (∀ q : Nat, q < H.size → ¬ AX q → H1[q]? = H[q]?) → va_S A0 H0 H1 locs1 → H1[q9]? = some ce → ce.vm = .none → s.vm.findClass E = some ce.cls → vx_W p l e R s m args below meth c H1 locs1 (cells + mc) (slots + ms) Q (F0 m pc ls rest) q9)
    (kk : ∀ (r : Int32) (u : S) (t : State) (H1 : Heap) (locs1 : List Loc), t.heap = H1 → s.vm.Alike t.vm → post r u → B u t → H.size ≤ H1.size → (∀ q : Nat, q < H.size → ¬ A1 q → H1[q]? = H[q]?) → va_S A0 H0 H1 locs1 → W p l e R s m args below meth c H1 locs1 (cells + mc) (slots + ms) Q (F0 m (pc + 3) ls (.int r :: rest))) : W p l e R s m args below meth c H locs cells slots Q (F0 m pc ls st0) := by
  intro T hT X
  rcases hr T hT X with ⟨v, st₀, t, T', L, h0, X', hL, e1, e2, ⟨⟨r, u, hv, hp, hb⟩, hF⟩, st⟩ | ⟨q, st₀, t, T', L, E, ce, h0, X', hL, e1, e2, ⟨u, hp, hb, hF⟩, hce, hcv, hcl, st⟩
  · cases hv
    obtain ⟨k1, k2, k3⟩ := vx_keep h0 e1 hS hA hf hL hF
    obtain ⟨t2, a1, b1⟩ := kk r u t T'.heap (locs ++ L) e1.symm (by rw [← e2]; exact X'.warmed.alike) hp hb k1 k2 k3 T' rfl X'
    exact ⟨t2, st t2 a1, b1⟩
  · obtain ⟨k1, k2, k3⟩ := vx_keep h0 e1 hS hAX hf hL hF
    obtain ⟨t2, a1, b1⟩ := kx E ce q u t T'.heap (locs ++ L) e1.symm (by rw [← e2]; exact X'.warmed.alike) hp hb k1 k2 k3 (by rw [e1]; exact hce) hcv hcl T' rfl X'
    exact ⟨t2, st.trans a1, b1⟩
theorem vx_calll {S SX : Type} {post : Int64 → S → Prop} {px : SX → Prop} {B : S → State → Prop} {BX : String → SX → State → Prop} {AX : Nat → Prop} (hr : vx_Run p l e R s m args below meth c H locs cells slots mc ms (F0 m pc ls st0) rest (va_Ql post B A1 a) (vx_X px BX AX) free) (hS : va_S A0 H0 H locs) (hA : ∀ q, q < H.size → A1 q → A0 q) (hf : ∀ q, free q → A0 q) (hAX : ∀ q, q < H.size → AX q → A0 q)
    (kx : ∀ (E : String) (ce : Cell) (q9 : Addr) (u : SX) (t : State) (H1 : Heap) (locs1 : List Loc), t.heap = H1 → s.vm.Alike t.vm → px u → BX E u t → H.size ≤ H1.size → (∀ q : Nat, q < H.size → ¬ AX q → H1[q]? = H[q]?) → va_S A0 H0 H1 locs1 → H1[q9]? = some ce → ce.vm = .none → s.vm.findClass E = some ce.cls → vx_W p l e R s m args below meth c H1 locs1 (cells + mc) (slots + ms) Q (F0 m pc ls rest) q9)
    (kk : ∀ (r : Int64) (u : S) (t : State) (H1 : Heap) (locs1 : List Loc), t.heap = H1 → s.vm.Alike t.vm → post r u → B u t → H.size ≤ H1.size → (∀ q : Nat, q < H.size → ¬ A1 q → H1[q]? = H[q]?) → va_S A0 H0 H1 locs1 → W p l e R s m args below meth c H1 locs1 (cells + mc) (slots + ms) Q (F0 m (pc + 3) ls (.long r :: rest))) : W p l e R s m args below meth c H locs cells slots Q (F0 m pc ls st0) := by
  intro T hT X
  rcases hr T hT X with ⟨v, st₀, t, T', L, h0, X', hL, e1, e2, ⟨⟨r, u, hv, hp, hb⟩, hF⟩, st⟩ | ⟨q, st₀, t, T', L, E, ce, h0, X', hL, e1, e2, ⟨u, hp, hb, hF⟩, hce, hcv, hcl, st⟩
  · cases hv
    obtain ⟨k1, k2, k3⟩ := vx_keep h0 e1 hS hA hf hL hF
    obtain ⟨t2, a1, b1⟩ := kk r u t T'.heap (locs ++ L) e1.symm (by rw [← e2]; exact X'.warmed.alike) hp hb k1 k2 k3 T' rfl X'
    exact ⟨t2, st t2 a1, b1⟩
  · obtain ⟨k1, k2, k3⟩ := vx_keep h0 e1 hS hAX hf hL hF
    obtain ⟨t2, a1, b1⟩ := kx E ce q u t T'.heap (locs ++ L) e1.symm (by rw [← e2]; exact X'.warmed.alike) hp hb k1 k2 k3 (by rw [e1]; exact hce) hcv hcl T' rfl X'
    exact ⟨t2, st.trans a1, b1⟩
theorem vx_callf {S SX : Type} {post : UInt32 → S → Prop} {px : SX → Prop} {B : S → State → Prop} {BX : String → SX → State → Prop} {AX : Nat → Prop} (hr : vx_Run p l e R s m args below meth c H locs cells slots mc ms (F0 m pc ls st0) rest (va_Qf post B A1 a) (vx_X px BX AX) free) (hS : va_S A0 H0 H locs) (hA : ∀ q, q < H.size → A1 q → A0 q) (hf : ∀ q, free q → A0 q) (hAX : ∀ q, q < H.size → AX q → A0 q)
    (kx : ∀ (E : String) (ce : Cell) (q9 : Addr) (u : SX) (t : State) (H1 : Heap) (locs1 : List Loc), t.heap = H1 → s.vm.Alike t.vm → px u → BX E u t → H.size ≤ H1.size → (∀ q : Nat, q < H.size → ¬ AX q → H1[q]? = H[q]?) → va_S A0 H0 H1 locs1 → H1[q9]? = some ce → ce.vm = .none → s.vm.findClass E = some ce.cls → vx_W p l e R s m args below meth c H1 locs1 (cells + mc) (slots + ms) Q (F0 m pc ls rest) q9)
    (kk : ∀ (r : UInt32) (u : S) (t : State) (H1 : Heap) (locs1 : List Loc), t.heap = H1 → s.vm.Alike t.vm → post r u → B u t → H.size ≤ H1.size → (∀ q : Nat, q < H.size → ¬ A1 q → H1[q]? = H[q]?) → va_S A0 H0 H1 locs1 → W p l e R s m args below meth c H1 locs1 (cells + mc) (slots + ms) Q (F0 m (pc + 3) ls (.float r :: rest))) : W p l e R s m args below meth c H locs cells slots Q (F0 m pc ls st0) := by
  intro T hT X
  rcases hr T hT X with ⟨v, st₀, t, T', L, h0, X', hL, e1, e2, ⟨⟨r, u, hv, hp, hb⟩, hF⟩, st⟩ | ⟨q, st₀, t, T', L, E, ce, h0, X', hL, e1, e2, ⟨u, hp, hb, hF⟩, hce, hcv, hcl, st⟩
  · cases hv
    obtain ⟨k1, k2, k3⟩ := vx_keep h0 e1 hS hA hf hL hF
    obtain ⟨t2, a1, b1⟩ := kk r u t T'.heap (locs ++ L) e1.symm (by rw [← e2]; exact X'.warmed.alike) hp hb k1 k2 k3 T' rfl X'
    exact ⟨t2, st t2 a1, b1⟩
  · obtain ⟨k1, k2, k3⟩ := vx_keep h0 e1 hS hAX hf hL hF
    obtain ⟨t2, a1, b1⟩ := kx E ce q u t T'.heap (locs ++ L) e1.symm (by rw [← e2]; exact X'.warmed.alike) hp hb k1 k2 k3 (by rw [e1]; exact hce) hcv hcl T' rfl X'
    exact ⟨t2, st.trans a1, b1⟩
theorem vx_calld {S SX : Type} {post : UInt64 → S → Prop} {px : SX → Prop} {B : S → State → Prop} {BX : String → SX → State → Prop} {AX : Nat → Prop} (hr : vx_Run p l e R s m args below meth c H locs cells slots mc ms (F0 m pc ls st0) rest (va_Qd post B A1 a) (vx_X px BX AX) free) (hS : va_S A0 H0 H locs) (hA : ∀ q, q < H.size → A1 q → A0 q) (hf : ∀ q, free q → A0 q) (hAX : ∀ q, q < H.size → AX q → A0 q)
    (kx : ∀ (E : String) (ce : Cell) (q9 : Addr) (u : SX) (t : State) (H1 : Heap) (locs1 : List Loc), t.heap = H1 → s.vm.Alike t.vm → px u → BX E u t → H.size ≤ H1.size → (∀ q : Nat, q < H.size → ¬ AX q → H1[q]? = H[q]?) → va_S A0 H0 H1 locs1 → H1[q9]? = some ce → ce.vm = .none → s.vm.findClass E = some ce.cls → vx_W p l e R s m args below meth c H1 locs1 (cells + mc) (slots + ms) Q (F0 m pc ls rest) q9)
    (kk : ∀ (r : UInt64) (u : S) (t : State) (H1 : Heap) (locs1 : List Loc), t.heap = H1 → s.vm.Alike t.vm → post r u → B u t → H.size ≤ H1.size → (∀ q : Nat, q < H.size → ¬ A1 q → H1[q]? = H[q]?) → va_S A0 H0 H1 locs1 → W p l e R s m args below meth c H1 locs1 (cells + mc) (slots + ms) Q (F0 m (pc + 3) ls (.double r :: rest))) : W p l e R s m args below meth c H locs cells slots Q (F0 m pc ls st0) := by
  intro T hT X
  rcases hr T hT X with ⟨v, st₀, t, T', L, h0, X', hL, e1, e2, ⟨⟨r, u, hv, hp, hb⟩, hF⟩, st⟩ | ⟨q, st₀, t, T', L, E, ce, h0, X', hL, e1, e2, ⟨u, hp, hb, hF⟩, hce, hcv, hcl, st⟩
  · cases hv
    obtain ⟨k1, k2, k3⟩ := vx_keep h0 e1 hS hA hf hL hF
    obtain ⟨t2, a1, b1⟩ := kk r u t T'.heap (locs ++ L) e1.symm (by rw [← e2]; exact X'.warmed.alike) hp hb k1 k2 k3 T' rfl X'
    exact ⟨t2, st t2 a1, b1⟩
  · obtain ⟨k1, k2, k3⟩ := vx_keep h0 e1 hS hAX hf hL hF
    obtain ⟨t2, a1, b1⟩ := kx E ce q u t T'.heap (locs ++ L) e1.symm (by rw [← e2]; exact X'.warmed.alike) hp hb k1 k2 k3 (by rw [e1]; exact hce) hcv hcl T' rfl X'
    exact ⟨t2, st.trans a1, b1⟩
theorem vx_callv {S SX : Type} {post : S → Prop} {px : SX → Prop} {B : S → State → Prop} {BX : String → SX → State → Prop} {AX : Nat → Prop} (hr : vx_Run p l e R s m args below meth c H locs cells slots mc ms (F0 m pc ls st0) rest (va_Qv post B A1 a) (vx_X px BX AX) free) (hS : va_S A0 H0 H locs) (hA : ∀ q, q < H.size → A1 q → A0 q) (hf : ∀ q, free q → A0 q) (hAX : ∀ q, q < H.size → AX q → A0 q)
    (kx : ∀ (E : String) (ce : Cell) (q9 : Addr) (u : SX) (t : State) (H1 : Heap) (locs1 : List Loc), t.heap = H1 → s.vm.Alike t.vm → px u → BX E u t → H.size ≤ H1.size → (∀ q : Nat, q < H.size → ¬ AX q → H1[q]? = H[q]?) → va_S A0 H0 H1 locs1 → H1[q9]? = some ce → ce.vm = .none → s.vm.findClass E = some ce.cls → vx_W p l e R s m args below meth c H1 locs1 (cells + mc) (slots + ms) Q (F0 m pc ls rest) q9)
    (kk : ∀ (u : S) (t : State) (H1 : Heap) (locs1 : List Loc), t.heap = H1 → s.vm.Alike t.vm → post u → B u t → H.size ≤ H1.size → (∀ q : Nat, q < H.size → ¬ A1 q → H1[q]? = H[q]?) → va_S A0 H0 H1 locs1 → W p l e R s m args below meth c H1 locs1 (cells + mc) (slots + ms) Q (F0 m (pc + 3) ls (rest))) : W p l e R s m args below meth c H locs cells slots Q (F0 m pc ls st0) := by
  intro T hT X
  rcases hr T hT X with ⟨v, st₀, t, T', L, h0, X', hL, e1, e2, ⟨⟨u, hv, hp, hb⟩, hF⟩, st⟩ | ⟨q, st₀, t, T', L, E, ce, h0, X', hL, e1, e2, ⟨u, hp, hb, hF⟩, hce, hcv, hcl, st⟩
  · cases hv
    obtain ⟨k1, k2, k3⟩ := vx_keep h0 e1 hS hA hf hL hF
    obtain ⟨t2, a1, b1⟩ := kk u t T'.heap (locs ++ L) e1.symm (by rw [← e2]; exact X'.warmed.alike) hp hb k1 k2 k3 T' rfl X'
    exact ⟨t2, st t2 a1, b1⟩
  · obtain ⟨k1, k2, k3⟩ := vx_keep h0 e1 hS hAX hf hL hF
    obtain ⟨t2, a1, b1⟩ := kx E ce q u t T'.heap (locs ++ L) e1.symm (by rw [← e2]; exact X'.warmed.alike) hp hb k1 k2 k3 (by rw [e1]; exact hce) hcv hcl T' rfl X'
    exact ⟨t2, st.trans a1, b1⟩
/-- caught by the row x of this method's table; the rows ahead don't take it -/
theorem vx_catch {own name : String} {E : String} {ce : Cell} {q : Addr} (hown : s.vm.findClass own = some m.cls) (pre : List ExceptionTableEntry) (x : ExceptionTableEntry) (suf : List ExceptionTableEntry) (hsplit : c.exceptionTable.toList = pre ++ x :: suf)
    (hpass : ∀ z ∈ pre, covers z pc = false ∨ (z.catchType ≠ 0 ∧ ∃ nm : String, (Cond.classLink own z.catchType nm).before args s = true ∧ va_Nc E nm s)) (hx : covers x pc = true) (h0 : x.catchType ≠ 0)
    (hlink : (Cond.classLink own x.catchType name).before args s = true) (hcast : (Cond.castable E name).before args s = true) (hcell : H[q]? = some ce) (hv : ce.vm = .none) (hcl : s.vm.findClass E = some ce.cls)
    (kk : W p l e R s m args below meth c H locs cells slots Q (F0 m x.handlerPc ls [.ref q])) : vx_W p l e R s m args below meth c H locs cells slots Q (F0 m pc ls rest) q := by
  intro T hT X
  have hpl : e.platform.magicAccessors = ({} : Platform).magicAccessors := by rw [X.admits.platform]
  obtain ⟨c3, c4, hc3, hc4, hasg⟩ := Cond.castable_spec hcast
  cases Option.some.inj (hc3.symm.trans hcl)
  obtain ⟨c5, hc5, hcl5⟩ := Cond.classLink_spec hown hlink e.platform hpl
  cases Option.some.inj (hc4.symm.trans hc5)
  obtain ⟨vm', X', st⟩ := X.thenCaughtThrough q (g := F0 m pc ls rest) rfl (Steps.refl _) (by rw [hT]; exact hcell) (by rw [hv]; rfl) (by obtain ⟨k9, h9, -⟩ := Vm.findClass_spec hcl; exact ⟨k9, h9⟩) pre x suf hsplit
    (fun z hz => by
      rcases hpass z hz with h | ⟨hz0, nm, hl1, hn1⟩
      · exact Or.inl h
      · obtain ⟨c6, hc6, hcl6⟩ := Cond.classLink_spec hown hl1 e.platform hpl
        obtain ⟨a8, b8, h1, h2, h3⟩ := hn1
        cases Option.some.inj (h1.symm.trans hcl)
        cases Option.some.inj (h2.symm.trans hc6)
        exact Or.inr ⟨hz0, _, hcl6, h3⟩) hx (Or.inr ⟨h0, c4, hcl5, hasg⟩)
  obtain ⟨t, a1, b1⟩ := kk (T.setVm vm') hT X'
  exact ⟨t, st.trans a1, b1⟩
end Rows
section Ends
variable {p : Program} {l : Launch} {e : Env} {R : Room} {s : State} {m : MethodId} {args : Array Value} {below : List Frame} {meth : Method} {c : Code} {H : Heap} {locs : List Loc} {cells slots : Nat} {Q : State → Prop}
variable {mc ms : Nat} {free : Addr → Prop} {A0 A1 : Nat → Prop} {H0 : Heap} {a : Array Value} {ls : Array Slot} {st0 rest : List Value}
variable {Qc : Array Value → State → Outcome → State → Prop} {XC : String → State → State → Prop}
/-- what a body that may throw owes at its end -/
def vx_MQ (below : List Frame) (Qc : Array Value → State → Outcome → State → Prop) (XC : String → State → State → Prop) (a : Array Value) (s : State) (mc ms : Nat) (free : Addr → Prop) : State → Prop := fun t =>
  ∃ o, t.status = .running ∧ Ended t below o ∧ vx_Q Qc XC mc ms free a s o t
theorem vx_ret {g : JFrame} {mc ms : Nat} (k : W p l e R s m args below meth c H locs cells slots (MQ below Qc args s mc ms free) g) : W p l e R s m args below meth c H locs cells slots (vx_MQ below Qc XC args s mc ms free) g := by
  intro T hT X
  obtain ⟨t, a1, o, b1, b2, b3, b4⟩ := k T hT X
  exact ⟨t, a1, o, b1, b2, Or.inl ⟨b3, b4⟩⟩
/-- not caught here: it goes on to the caller -/
theorem vx_widen {g : JFrame} {q : Addr} {k n : Nat} (h1 : cells ≤ k) (h2 : slots ≤ n) (kk : vx_W p l e R s m args below meth c H locs k n Q g q) : vx_W p l e R s m args below meth c H locs cells slots Q g q := fun T hT X => kk T hT (stand_widen X h1 h2)
theorem vx_out {pc : Nat} {E : String} {ce : Cell} {q : Addr} {mc ms : Nat} (hout : ∀ x ∈ c.exceptionTable.toList, covers x pc = false) (hlocks : meth.locks = false) (hcell : H[q]? = some ce) (hv : ce.vm = .none) (hcl : s.vm.findClass E = some ce.cls)
    (hx : ∀ t : State, t.heap = H → s.vm.Alike t.vm → XC E s t) (hf : ∀ z ∈ locs, free z.base) (hc : cells ≤ mc) (hs : slots ≤ ms) :
    vx_W p l e R s m args below meth c H locs cells slots (vx_MQ below Qc XC args s mc ms free) (F0 m pc ls rest) q := by
  intro T hT X
  obtain ⟨st1, hrun, hend, hW, hsm⟩ := X.leaveThrown q (g := F0 m pc ls rest) rfl rfl rfl hout hlocks
  have hcell9 : (T.setFrames (.throwing q :: below)).heap[q]? = some ce := by
    show T.heap[q]? = some ce
    rw [hT]; exact hcell
  exact ⟨_, st1, .threw q, hrun, hend, Or.inr ⟨q, rfl, E, ce, locs, hx _ hT hW.alike, hcell9, hv, hcl, hW, hsm.mono hc hs, hf⟩⟩
theorem vx_frame {U : State} {k n : Nat} (h : s.sameButNew ({ U with vm := s.vm } : State) locs k n) : s.heap.size ≤ U.heap.size ∧ ∀ q : Nat, q < s.heap.size → (∀ z ∈ locs, z.base ≠ q) → U.heap[q]? = s.heap[q]? := by
  obtain ⟨-, h2, -, -, -, h6⟩ := h
  refine ⟨h2, fun q hq hz => ?_⟩
  obtain ⟨c9, e1, e2, e3, e4⟩ := h6 q _ (Array.getElem?_eq_getElem hq)
  have hs : c9.slots = (s.heap[q]).slots := Array.ext_getElem? fun i => e4 i fun hm => hz _ hm rfl
  have h9 : c9 = s.heap[q] := by
    rw [hs] at e2
    exact e2
  have e5 : U.heap[q]? = some c9 := e1
  rw [e5, h9, Array.getElem?_eq_getElem hq]
/-- the words of a throw but the four that speak of the heap -/
def vx_no (w : Cond) : Bool := decide (w ≠ .isRef (.static Bundle.tN "UNASSIGNED_STACK" Bundle.steD)) && decide (w ≠ .isRef (.static Bundle.tN "SUPPRESSED_SENTINEL" Bundle.listD)) && decide (w ≠ .laysStatic Bundle.tN "UNASSIGNED_STACK" Bundle.steD) && decide (w ≠ .laysStatic Bundle.tN "SUPPRESSED_SENTINEL" Bundle.listD)
def vx_at0 (own : String) (ic : Nat) (X : String) (names : List String) : List Cond := (Bundle.ownAtoms0 own ic X names).filter vx_no
def vx_atS (own : String) (ic : Nat) (X : String) (names : List String) : List Cond := (Bundle.ownAtoms own ic X names).filter vx_no
/-- a word that the tables alone decide, or a good one -/
def vx_ot (w : Cond) : Bool := w.onTables || goodWord w
theorem vx_ot_at {args a' : Array Value} {s U : State} {w : Cond} (hW : s.WarmedH U.vm) (hvm : s.vm = U.vm) (hg : vx_ot w = true) (h : w.before args s = true) : w.before a' U = true := by
  simp only [vx_ot, Bool.or_eq_true] at hg
  rcases hg with hg | hg
  · exact va_tabs hg hvm h
  · exact word_at hW (good_of_word hg) h
/-- a list's words: the good ones out of the method's own list, the others by premises of their own -/
theorem vx_hat {args : Array Value} {s : State} {L B : List Cond} (h1 : ∀ w ∈ L.filter goodWord, w.before args s = true) (h2 : ∀ w ∈ L.filter (fun w => !goodWord w), w ∈ B) (h3 : ∀ w ∈ B, w.before args s = true) : ∀ w ∈ L, w.before args s = true := by
  intro w hw
  by_cases g : goodWord w = true
  · exact h1 w (List.mem_filter.mpr ⟨hw, g⟩)
  · refine h3 w (h2 w (List.mem_filter.mpr ⟨hw, ?_⟩))
    show (!goodWord w) = true
    cases hgw : goodWord w
    · rfl
    · exact absurd hgw g
theorem vx_c {args : Array Value} {s : State} {w : Cond} {B : List Cond} (h : w.before args s = true) (t : ∀ w ∈ B, w.before args s = true) : ∀ w' ∈ w :: B, w'.before args s = true := fun w' h' => (List.mem_cons.mp h').elim (fun e => by rw [e]; exact h) (t w')
theorem vx_n {args : Array Value} {s : State} : ∀ w ∈ ([] : List Cond), w.before args s = true := fun _ h => nomatch h
theorem vx_own {args : Array Value} {s : State} {L : List Cond} (h1 : ∀ w ∈ L.filter vx_no, w.before args s = true)
    (hU : (Cond.isRef (.static Bundle.tN "UNASSIGNED_STACK" Bundle.steD)).before args s = true) (hN : (Cond.isRef (.static Bundle.tN "SUPPRESSED_SENTINEL" Bundle.listD)).before args s = true)
    (lU : (Cond.laysStatic Bundle.tN "UNASSIGNED_STACK" Bundle.steD).before args s = true) (lN : (Cond.laysStatic Bundle.tN "SUPPRESSED_SENTINEL" Bundle.listD).before args s = true) : ∀ w ∈ L, w.before args s = true := by
  intro w hw
  by_cases e1 : w = .isRef (.static Bundle.tN "UNASSIGNED_STACK" Bundle.steD)
  · rw [e1]; exact hU
  · by_cases e2 : w = .isRef (.static Bundle.tN "SUPPRESSED_SENTINEL" Bundle.listD)
    · rw [e2]; exact hN
    · by_cases e3 : w = .laysStatic Bundle.tN "UNASSIGNED_STACK" Bundle.steD
      · rw [e3]; exact lU
      · by_cases e4 : w = .laysStatic Bundle.tN "SUPPRESSED_SENTINEL" Bundle.listD
        · rw [e4]; exact lN
        · exact h1 w (List.mem_filter.mpr ⟨hw, by unfold vx_no; rw [decide_eq_true e1, decide_eq_true e2, decide_eq_true e3, decide_eq_true e4]; rfl⟩)
/-- where a static field lies, its class's statics cell in H -/
def vx_L (C n d : String) (A : Nat → Prop) (U : State) (H : Heap) : Prop := ∃ (c : ClassId) (k : Class) (i : Nat) (f : Field) (a : Nat) (cell : Cell), U.vm.findClass C = some c ∧ U.fieldFound? C n d = some (c, k, i, f) ∧ f.isStatic = true ∧ k.statics = some a ∧ H[a]? = some cell ∧ cell.vm.isStatics = true ∧ cell.cls = c ∧ f.slot < cell.slots.size ∧ k.staticTypes[f.slot]? = some f.type ∧ ¬ A a
theorem vx_L.moved {C n d : String} {A : Nat → Prop} {u U : State} {H : Heap} (hvm : u.vm.Alike U.vm) (h : vx_L C n d A u H) : vx_L C n d A U H := by
  obtain ⟨c, k, i, f, a, cell, h1, h2, h3, h4, h5, h6, h7, h8, h9, h10⟩ := h
  obtain ⟨k', hi', he⟩ := State.fieldFound?_setVm hvm h2
  exact ⟨c, k', i, f, a, cell, by rw [hvm.findClass]; exact h1, hi', h3, by rw [he]; exact h4, h5, h6, h7, h8, by rw [he]; exact h9, h10⟩
theorem vx_L.kept {C n d : String} {A : Nat → Prop} {U : State} {H H1 : Heap} (h : vx_L C n d A U H) (hq : ∀ a : Nat, a < H.size → ¬ A a → H1[a]? = H[a]?) : vx_L C n d A U H1 := by
  obtain ⟨c, k, i, f, a, cell, h1, h2, h3, h4, h5, h6, h7, h8, h9, h10⟩ := h
  exact ⟨c, k, i, f, a, cell, h1, h2, h3, h4, by rw [hq a (Array.getElem?_eq_some_iff.mp h5).1 h10]; exact h5, h6, h7, h8, h9, h10⟩
theorem vx_L.narrow {C n d : String} {A B : Nat → Prop} {U : State} {H : Heap} (h : vx_L C n d A U H) (hAB : ∀ q, B q → A q) : vx_L C n d B U H := by
  obtain ⟨c, k, i, f, a, cell, h1, h2, h3, h4, h5, h6, h7, h8, h9, h10⟩ := h
  exact ⟨c, k, i, f, a, cell, h1, h2, h3, h4, h5, h6, h7, h8, h9, fun z => h10 (hAB _ z)⟩
theorem vx_L.word {C n d : String} {A : Nat → Prop} {s : State} {args : Array Value} (h : vx_L C n d A s s.heap) : (Cond.laysStatic C n d).before args s = true := by
  obtain ⟨c, k, i, f, a, cell, h1, h2, h3, h4, h5, h6, h7, h8, h9, -⟩ := h
  show (Cond.laysStatic C n d).holds args s none s [] = true
  exact Cond.laysStatic_of h1 h2 h3 h4 h5 h6 h7 h8 h9
/-- .. and what it holds: null or some reference -/
def vx_Zq (C n d : String) (A : Nat → Prop) (U : State) (H : Heap) : Prop := va_Zq C n d A U H ∧ vx_L C n d A U H
theorem vx_Zq.moved {C n d : String} {A : Nat → Prop} {u U : State} {H : Heap} (hvm : u.vm.Alike U.vm) (h : vx_Zq C n d A u H) : vx_Zq C n d A U H := ⟨va_Zq.moved hvm h.1, vx_L.moved hvm h.2⟩
theorem vx_Zq.kept {C n d : String} {A : Nat → Prop} {U : State} {H H1 : Heap} (h : vx_Zq C n d A U H) (hq : ∀ a : Nat, a < H.size → ¬ A a → H1[a]? = H[a]?) : vx_Zq C n d A U H1 := ⟨va_Zq.kept h.1 hq, vx_L.kept h.2 hq⟩
theorem vx_Zq.narrow {C n d : String} {A B : Nat → Prop} {U : State} {H : Heap} (h : vx_Zq C n d A U H) (hAB : ∀ q, B q → A q) : vx_Zq C n d B U H := ⟨va_Zq.narrow h.1 hAB, vx_L.narrow h.2 hAB⟩
theorem vx_Zqof {args : Array Value} {s : State} {C n d : String} {A : Nat → Prop} (hl : (Cond.laysStatic C n d).before args s = true) (hini : (Cond.initialized C).before args s = true) (h : (Cond.isRef (.static C n d)).before args s = true) (hA : ∀ a : Nat, a < s.heap.size → ¬ A a) : vx_Zq C n d A s s.heap := by
  refine ⟨va_Zqof hl hini h hA, ?_⟩
  obtain ⟨c, k, i, f, a, cell, h1, h2, h3, h4, h5, h6, h7, h8, h9⟩ := Cond.laysStatic_spec hl
  exact ⟨c, k, i, f, a, cell, h1, h2, h3, h4, h5, h6, h7, h8, h9, hA a (Array.getElem?_eq_some_iff.mp h5).1⟩
theorem vx_isRef {C n d : String} {v : Value} {A : Nat → Prop} {s : State} {args : Array Value} (h : va_Z C n d v A s s.heap) (hv : v.isRef = true) : (Cond.isRef (.static C n d)).before args s = true := by
  obtain ⟨cf, kf, fi, f, a, cell, h1, h2, h3, h4, h5, h6, h7, -⟩ := h
  have he : (Term.static C n d).eval args s none [] s = some v := by
    simp [Term.eval, State.fieldNamed?, h1, h2, h4, h5, h6, h7]
  simp only [Cond.before, Cond.holds, Cond.value, he]
  cases v <;> simp_all [Value.isRef]
theorem vx_isRefq {C n d : String} {A : Nat → Prop} {s : State} {args : Array Value} (h : va_Zq C n d A s s.heap) : (Cond.isRef (.static C n d)).before args s = true := by
  rcases h with h | ⟨t, h⟩
  · exact vx_isRef h rfl
  · exact vx_isRef h rfl
/-- the same frame, seen from here: as if the method were called anew in this heap -/
theorem vx_rebase {T : State} (X : Stand p l e R s m args below meth c T locs cells slots) {R' : Room} (hf : R'.frames ≤ R.frames) (hl : R'.locals ≤ R.locals) (hc : cells + R'.cells ≤ R.cells) (hs : slots + R'.slots ≤ R.slots) :
    Stand p l e R' ((T.setVm s.vm).setFrames (.invoking m args :: below)) m args below meth c T [] 0 0 := by
  have htop : (T.setVm s.vm).topJava?.isSome := X.here.top
  have hF : ((T.setVm s.vm).setFrames (.invoking m args :: below)).frames = .invoking m args :: below := State.frames_setFrames _ (State.cur_lt_of_top htop)
  obtain ⟨g₀, hg0⟩ := Option.isSome_iff_exists.mp htop
  obtain ⟨r, hr⟩ := State.topJava?_eq_some.mp hg0
  have hl9 : e.platform.stackLimits (T.setVm s.vm).me = e.platform.stackLimits s.me := X.limits
  have hb9 : (T.setVm s.vm).me.stackBytes = s.me.stackBytes := X.bytes
  refine ⟨X.admits, X.cas, X.clock, hF, ?_, X.hears, X.method, X.code, X.here, X.tail, X.warmed, ?_, ?_, ?_⟩
  · have h := X.room
    have hU : ((T.setVm s.vm).setFrames (.invoking m args :: below)).localsInUse = s.localsInUse := by
      rw [State.localsInUse_invoking hF (meth := meth) (c := c) X.method X.code, State.localsInUse_invoking X.frames X.method X.code]
    simp only [State.hasRoom, Bool.and_eq_true, decide_eq_true_eq] at h ⊢
    obtain ⟨⟨⟨⟨h1, h2, h3, h4, h5, h6⟩, h7⟩, h8⟩, h9⟩ := h
    rw [X.frames, List.length_cons] at h2 h3
    have q1 := X.heapSize
    have q2 := X.used
    simp only [hF, hU, List.length_cons, State.stackLimits_setFrames, State.stackBytes_setFrames, hl9, hb9]
    refine ⟨⟨⟨⟨by omega, by omega, by omega, by omega, by omega, h6⟩, ?_⟩, ?_⟩, X.book⟩
    · show T.heap.size + R'.cells ≤ e.platform.maxCells
      omega
    · show T.slotsUsed + R'.slots ≤ e.platform.maxSlots
      omega
  · rw [State.stackLimits_setFrames]; rfl
  · rw [State.stackBytes_setFrames]; rfl
  · refine ⟨?_, Nat.le_refl _, Nat.le_refl _, ?_, ?_, fun a c9 h9 => ⟨c9, h9, rfl, rfl, fun _ _ => rfl⟩⟩
    · obtain ⟨t, ht, -⟩ := State.frames_cons hr
      show T.setVm s.vm = { ((T.setVm s.vm).setFrames (.invoking m args :: below)).setFrames (T.setVm s.vm).frames with heap := T.heap, slotsUsed := T.slotsUsed }
      rw [State.setFrames_setFrames, State.setFrames_self ht]
      rfl
    · show T.slotsUsed = T.slotsUsed + ((T.heap.toList.drop T.heap.size).map (·.slots.size)).sum
      rw [List.drop_eq_nil_of_le (Nat.le_of_eq Array.length_toList)]
      rfl
    · show ((T.heap.toList.drop T.heap.size).map (·.slots.size)).sum ≤ 0
      rw [List.drop_eq_nil_of_le (Nat.le_of_eq Array.length_toList)]
      exact Nat.le_refl _
/-- 'throw new E()': new; dup; invokespecial; athrow -/
theorem vx_throw0 {cc : ByteArray} {pc : Nat} (hexec : p.tables.exec = Jvm.exec) (hb : c.code = cc) (hl : l.stackTraces = false) {own cls : String} {names : List String} {ik ic mc ms : Nat} {A : Nat → Prop}
    (hown : s.vm.findClass own = some m.cls) (hcls : Bundle.fit cls = true) (hnames : ∀ n ∈ names, Bundle.fit n = true)
    (hk : (Cond.classLink own ik cls).before args s = true) (hini : (Cond.initialized cls).before args s = true) (hat : ∀ w ∈ vx_at0 own ic cls names, w.before args s = true)
    (hgood : ∀ w ∈ Cond.classLink own ik cls :: Cond.initialized cls :: vx_at0 own ic cls names, vx_ot w = true)
    (hU : vx_Zq Bundle.tN "UNASSIGNED_STACK" Bundle.steD A s s.heap) (hN : vx_Zq Bundle.tN "SUPPRESSED_SENTINEL" Bundle.listD A s s.heap) (hS : va_S A s.heap H locs) (hsize : ls.size = c.maxLocals)
    (d0 : decode cc pc = .ok (.new ik, 3)) (d3 : decode cc (pc + 3) = .ok (.dup, 1)) (d4 : decode cc (pc + 4) = .ok (.invokespecial ic, 3)) (d7 : decode cc (pc + 7) = .ok (.athrow, 1))
    (hout : ∀ x ∈ c.exceptionTable.toList, covers x (pc + 7) = false)
    (hRframes : names.length + 3 < R.frames) (hRlocals : (rest.map fun v => v.category).sum + (13 * (names.length + 1) + 42) ≤ R.locals) (hRcells : cells + 1 ≤ R.cells) (hRslots : slots + 6 ≤ R.slots) (hlocks : meth.locks = false)
    (hx : ∀ t : State, s.vm.Alike t.vm → H.size ≤ t.heap.size → (∀ q : Nat, q < H.size → t.heap[q]? = H[q]?) → XC cls s t)
    (hf : ∀ z ∈ locs, free z.base) (hc : cells + 1 ≤ mc) (hs : slots + 6 ≤ ms) :
    W p l e R s m args below meth c H locs cells slots (vx_MQ below Qc XC args s mc ms free) (F0 m pc ls rest) := by
  intro T hT X
  have htr : e.platform.stackTraces = false := (show e.platform.stackTraces = l.stackTraces by rw [X.admits.platform]).trans hl
  have Y := vx_rebase X (R' := { frames := R.frames, locals := R.locals, cells := 1, slots := 6 }) (Nat.le_refl _) (Nat.le_refl _) hRcells hRslots
  obtain ⟨s', hA⟩ : ∃ z, z = (T.setVm s.vm).setFrames (.invoking m args :: below) := ⟨_, rfl⟩
  rw [← hA] at Y
  have hvm : s'.vm = s.vm := by rw [hA]; rfl
  have hhp : s'.heap = H := by rw [hA]; exact hT
  have hW0 : s.WarmedH s'.vm := by rw [hvm]; exact State.WarmedH.refl s
  have hat' : ∀ w ∈ vx_at0 own ic cls names, w.before args s' = true := fun w hw => vx_ot_at hW0 hvm.symm (hgood w (List.mem_cons_of_mem _ (List.mem_cons_of_mem _ hw))) (hat w hw)
  have hk' : (Cond.classLink own ik cls).before args s' = true := vx_ot_at hW0 hvm.symm (hgood _ List.mem_cons_self) hk
  have hini' : (Cond.initialized cls).before args s' = true := vx_ot_at hW0 hvm.symm (hgood _ (List.mem_cons_of_mem _ List.mem_cons_self)) hini
  have hU' : vx_Zq Bundle.tN "UNASSIGNED_STACK" Bundle.steD A s' s'.heap := by rw [hhp]; exact vx_Zq.moved hW0.alike (hU.kept hS.2.1)
  have hN' : vx_Zq Bundle.tN "SUPPRESSED_SENTINEL" Bundle.listD A s' s'.heap := by rw [hhp]; exact vx_Zq.moved hW0.alike (hN.kept hS.2.1)
  have h : ∀ w ∈ Bundle.ownAtoms0 own ic cls names, w.before args s' = true := vx_own hat' (vx_isRefq hU'.1) (vx_isRefq hN'.1) hU'.2.word hN'.2.word
  have hown' : s'.vm.findClass own = some m.cls := by rw [hvm]; exact hown
  have hins : (Cond.instantiable cls 6).before args s' = true := h _ (by simp [Bundle.ownAtoms0])
  obtain ⟨vm₁, cX, kX, hfX, hkX, -, -, X₁, st1⟩ := Y.newCold hexec (own := own) (C := cls) (index := ik) (n := 6) hown' hk' hins hini'
    (g := F0 m pc ls rest) rfl (by rw [hb]; exact d0) (Nat.le_refl _) (Nat.le_refl _)
  generalize hT1 : (T.setVm vm₁).pushCell { cls := cX, slots := kX.instanceTypes.map defaultValue, vm := .none } = T1 at X₁ st1
  have hcat : (Value.ref T.heap.size).category = 1 := rfl
  have hcellA : T1.heap[T.heap.size]? = some (freshCell cX kX) := by rw [← hT1]; exact State.heap_pushCell_size _ _
  have d3' : decode c.code (pc + 3) = .ok (.dup, 1) := by rw [hb]; exact d3
  obtain ⟨U, hsteps, hrun, hend, hW, hsame, ce, hce, hO⟩ := X₁.ctorThrow0 hexec htr (own := own) (cls := cls) (names := names) (ic := ic) hown' hcls hnames h (fun x hx => nomatch hx) hfX hkX hcellA (by rw [hhp, hT]; exact Nat.le_refl _)
    (g := { method := m, pc := pc + 4, locals := ls, stack := .ref T.heap.size :: .ref T.heap.size :: rest, locked := none }) rfl hsize rfl rfl (rest := rest) rfl
    (by rw [hb]; exact d4) (by rw [hb]; exact d7) hout hRframes (by simp only [List.map_cons, List.sum_cons, hcat]; omega) hlocks
  obtain ⟨f1, f2⟩ := vx_frame hsame
  rw [hhp] at f1 f2
  have hWs : s.WarmedH U.vm := State.WarmedH.trans hW0 hW
  have hcl : s.vm.findClass cls = some ce.cls := by
    have h9 := hO.cls
    rw [hvm] at h9
    exact h9
  have hall : s.sameButNew ({ U with vm := s.vm } : State) locs mc ms := by
    subst hA
    obtain ⟨e1, e2⟩ := hsame
    rw [State.setFrames_setFrames] at e1
    have h2 : (T.setVm s.vm).sameButNew ({ U with vm := s.vm } : State) [] (0 + 1) (0 + 6) := ⟨e1, e2⟩
    have h3 := X.same.trans h2
    rw [List.append_nil] at h3
    exact h3.mono hc hs
  refine ⟨U, ?_, .threw T.heap.size, hrun, hend, Or.inr ⟨T.heap.size, rfl, cls, ce, locs, hx U hWs.alike f1 (fun q hq => f2 q hq (fun z hz => nomatch hz)), hce, hO.vm, hcl, hWs, hall, hf⟩⟩
  refine st1 _ ?_
  show Steps p.tables e below (T1.setTop { method := m, pc := pc + 3, locals := ls, stack := .ref T.heap.size :: rest, locked := none }) _
  jvm_step X₁.here [X₁.here.top, hexec, d3', Value.category]
  exact hsteps
/-- 'throw new E("text")': new; dup; ldc; invokespecial; athrow -/
theorem vx_throwS {cc : ByteArray} {pc : Nat} (hexec : p.tables.exec = Jvm.exec) (hb : c.code = cc) (hl : l.stackTraces = false) {own cls text : String} {names : List String} {ik is ic mc ms sa : Nat} {A : Nat → Prop}
    (hown : s.vm.findClass own = some m.cls) (hcls : Bundle.fit cls = true) (hnames : ∀ n ∈ names, Bundle.fit n = true)
    (hk : (Cond.classLink own ik cls).before args s = true) (hini : (Cond.initialized cls).before args s = true) (hstr : vk_R own is text sa s) (hat : ∀ w ∈ vx_atS own ic cls names, w.before args s = true)
    (hgood : ∀ w ∈ Cond.classLink own ik cls :: Cond.initialized cls :: vx_atS own ic cls names, vx_ot w = true)
    (hU : vx_Zq Bundle.tN "UNASSIGNED_STACK" Bundle.steD A s s.heap) (hN : vx_Zq Bundle.tN "SUPPRESSED_SENTINEL" Bundle.listD A s s.heap) (hS : va_S A s.heap H locs) (hsize : ls.size = c.maxLocals)
    (d0 : decode cc pc = .ok (.new ik, 3)) (d3 : decode cc (pc + 3) = .ok (.dup, 1)) (d4 : decode cc (pc + 4) = .ok (.ldc is, 2)) (d6 : decode cc (pc + 6) = .ok (.invokespecial ic, 3)) (d9 : decode cc (pc + 9) = .ok (.athrow, 1))
    (hout : ∀ x ∈ c.exceptionTable.toList, covers x (pc + 9) = false)
    (hRframes : names.length + 3 < R.frames) (hRlocals : (rest.map fun v => v.category).sum + (13 * (names.length + 1) + 43) ≤ R.locals) (hRcells : cells + 1 ≤ R.cells) (hRslots : slots + 6 ≤ R.slots) (hlocks : meth.locks = false)
    (hx : ∀ t : State, s.vm.Alike t.vm → H.size ≤ t.heap.size → (∀ q : Nat, q < H.size → t.heap[q]? = H[q]?) → XC cls s t)
    (hf : ∀ z ∈ locs, free z.base) (hc : cells + 1 ≤ mc) (hs : slots + 6 ≤ ms) :
    W p l e R s m args below meth c H locs cells slots (vx_MQ below Qc XC args s mc ms free) (F0 m pc ls rest) := by
  intro T hT X
  have htr : e.platform.stackTraces = false := (show e.platform.stackTraces = l.stackTraces by rw [X.admits.platform]).trans hl
  have Y := vx_rebase X (R' := { frames := R.frames, locals := R.locals, cells := 1, slots := 6 }) (Nat.le_refl _) (Nat.le_refl _) hRcells hRslots
  obtain ⟨s', hA⟩ : ∃ z, z = (T.setVm s.vm).setFrames (.invoking m args :: below) := ⟨_, rfl⟩
  rw [← hA] at Y
  have hvm : s'.vm = s.vm := by rw [hA]; rfl
  have hhp : s'.heap = H := by rw [hA]; exact hT
  have hW0 : s.WarmedH s'.vm := by rw [hvm]; exact State.WarmedH.refl s
  have hat' : ∀ w ∈ vx_atS own ic cls names, w.before args s' = true := fun w hw => vx_ot_at hW0 hvm.symm (hgood w (List.mem_cons_of_mem _ (List.mem_cons_of_mem _ hw))) (hat w hw)
  have hk' : (Cond.classLink own ik cls).before args s' = true := vx_ot_at hW0 hvm.symm (hgood _ List.mem_cons_self) hk
  have hini' : (Cond.initialized cls).before args s' = true := vx_ot_at hW0 hvm.symm (hgood _ (List.mem_cons_of_mem _ List.mem_cons_self)) hini
  have hU' : vx_Zq Bundle.tN "UNASSIGNED_STACK" Bundle.steD A s' s'.heap := by rw [hhp]; exact vx_Zq.moved hW0.alike (hU.kept hS.2.1)
  have hN' : vx_Zq Bundle.tN "SUPPRESSED_SENTINEL" Bundle.listD A s' s'.heap := by rw [hhp]; exact vx_Zq.moved hW0.alike (hN.kept hS.2.1)
  have h : ∀ w ∈ Bundle.ownAtoms own ic cls names, w.before args s' = true := vx_own hat' (vx_isRefq hU'.1) (vx_isRefq hN'.1) hU'.2.word hN'.2.word
  have hown' : s'.vm.findClass own = some m.cls := by rw [hvm]; exact hown
  have hins : (Cond.instantiable cls 6).before args s' = true := h _ (by simp [Bundle.ownAtoms])
  obtain ⟨vm₁, cX, kX, hfX, hkX, -, -, X₁, st1⟩ := Y.newCold hexec (own := own) (C := cls) (index := ik) (n := 6) hown' hk' hins hini'
    (g := F0 m pc ls rest) rfl (by rw [hb]; exact d0) (Nat.le_refl _) (Nat.le_refl _)
  generalize hT1 : (T.setVm vm₁).pushCell { cls := cX, slots := kX.instanceTypes.map defaultValue, vm := .none } = T1 at X₁ st1
  have hcat : (Value.ref T.heap.size).category = 1 := rfl
  have hcellA : T1.heap[T.heap.size]? = some (freshCell cX kX) := by rw [← hT1]; exact State.heap_pushCell_size _ _
  have d3' : decode c.code (pc + 3) = .ok (.dup, 1) := by rw [hb]; exact d3
  have d4' : decode c.code (pc + 4) = .ok (.ldc is, 2) := by rw [hb]; exact d4
  have hstr' : vk_R own is text sa s' := vk_R.warm hW0 hstr
  obtain ⟨U, hsteps, hrun, hend, hW, hsame, ce, hce, hO⟩ := X₁.ctorThrowS hexec htr (own := own) (cls := cls) (names := names) (ic := ic) hown' hcls hnames h (fun x hx => nomatch hx) hfX hkX hcellA (by rw [hhp, hT]; exact Nat.le_refl _) (msg := .ref sa) rfl
    (g := { method := m, pc := pc + 6, locals := ls, stack := .ref sa :: .ref T.heap.size :: .ref T.heap.size :: rest, locked := none }) rfl hsize rfl rfl (rest := rest) rfl
    (by rw [hb]; exact d6) (by rw [hb]; exact d9) hout hRframes (by simp only [List.map_cons, List.sum_cons, hcat]; omega) hlocks
  obtain ⟨f1, f2⟩ := vx_frame hsame
  rw [hhp] at f1 f2
  have hWs : s.WarmedH U.vm := State.WarmedH.trans hW0 hW
  have hcl : s.vm.findClass cls = some ce.cls := by
    have h9 := hO.cls
    rw [hvm] at h9
    exact h9
  have hall : s.sameButNew ({ U with vm := s.vm } : State) locs mc ms := by
    subst hA
    obtain ⟨e1, e2⟩ := hsame
    rw [State.setFrames_setFrames] at e1
    have h2 : (T.setVm s.vm).sameButNew ({ U with vm := s.vm } : State) [] (0 + 1) (0 + 6) := ⟨e1, e2⟩
    have h3 := X.same.trans h2
    rw [List.append_nil] at h3
    exact h3.mono hc hs
  refine ⟨U, ?_, .threw T.heap.size, hrun, hend, Or.inr ⟨T.heap.size, rfl, cls, ce, locs, hx U hWs.alike f1 (fun q hq => f2 q hq (fun z hz => nomatch hz)), hce, hO.vm, hcl, hWs, hall, hf⟩⟩
  refine st1 _ ?_
  show Steps p.tables e below (T1.setTop { method := m, pc := pc + 3, locals := ls, stack := .ref T.heap.size :: rest, locked := none }) _
  jvm_step X₁.here [X₁.here.top, hexec, d3', Value.category]
  exact X₁.ldcString hexec (own := own) (text := text) (index := is) (a := sa) hown' hstr'.1 hstr'.2
    (g := { method := m, pc := pc + 4, locals := ls, stack := .ref T.heap.size :: .ref T.heap.size :: rest, locked := none }) rfl d4' _ hsteps
/-- 'throw new E("text")', the text by a wide index -/
theorem vx_throwSW {cc : ByteArray} {pc : Nat} (hexec : p.tables.exec = Jvm.exec) (hb : c.code = cc) (hl : l.stackTraces = false) {own cls text : String} {names : List String} {ik is ic mc ms sa : Nat} {A : Nat → Prop}
    (hown : s.vm.findClass own = some m.cls) (hcls : Bundle.fit cls = true) (hnames : ∀ n ∈ names, Bundle.fit n = true)
    (hk : (Cond.classLink own ik cls).before args s = true) (hini : (Cond.initialized cls).before args s = true) (hstr : vk_R own is text sa s) (hat : ∀ w ∈ vx_atS own ic cls names, w.before args s = true)
    (hgood : ∀ w ∈ Cond.classLink own ik cls :: Cond.initialized cls :: vx_atS own ic cls names, vx_ot w = true)
    (hU : vx_Zq Bundle.tN "UNASSIGNED_STACK" Bundle.steD A s s.heap) (hN : vx_Zq Bundle.tN "SUPPRESSED_SENTINEL" Bundle.listD A s s.heap) (hS : va_S A s.heap H locs) (hsize : ls.size = c.maxLocals)
    (d0 : decode cc pc = .ok (.new ik, 3)) (d3 : decode cc (pc + 3) = .ok (.dup, 1)) (d4 : decode cc (pc + 4) = .ok (.ldc_w is, 3)) (d7 : decode cc (pc + 7) = .ok (.invokespecial ic, 3)) (d10 : decode cc (pc + 10) = .ok (.athrow, 1))
    (hout : ∀ x ∈ c.exceptionTable.toList, covers x (pc + 10) = false)
    (hRframes : names.length + 3 < R.frames) (hRlocals : (rest.map fun v => v.category).sum + (13 * (names.length + 1) + 43) ≤ R.locals) (hRcells : cells + 1 ≤ R.cells) (hRslots : slots + 6 ≤ R.slots) (hlocks : meth.locks = false)
    (hx : ∀ t : State, s.vm.Alike t.vm → H.size ≤ t.heap.size → (∀ q : Nat, q < H.size → t.heap[q]? = H[q]?) → XC cls s t)
    (hf : ∀ z ∈ locs, free z.base) (hc : cells + 1 ≤ mc) (hs : slots + 6 ≤ ms) :
    W p l e R s m args below meth c H locs cells slots (vx_MQ below Qc XC args s mc ms free) (F0 m pc ls rest) := by
  intro T hT X
  have htr : e.platform.stackTraces = false := (show e.platform.stackTraces = l.stackTraces by rw [X.admits.platform]).trans hl
  have Y := vx_rebase X (R' := { frames := R.frames, locals := R.locals, cells := 1, slots := 6 }) (Nat.le_refl _) (Nat.le_refl _) hRcells hRslots
  obtain ⟨s', hA⟩ : ∃ z, z = (T.setVm s.vm).setFrames (.invoking m args :: below) := ⟨_, rfl⟩
  rw [← hA] at Y
  have hvm : s'.vm = s.vm := by rw [hA]; rfl
  have hhp : s'.heap = H := by rw [hA]; exact hT
  have hW0 : s.WarmedH s'.vm := by rw [hvm]; exact State.WarmedH.refl s
  have hat' : ∀ w ∈ vx_atS own ic cls names, w.before args s' = true := fun w hw => vx_ot_at hW0 hvm.symm (hgood w (List.mem_cons_of_mem _ (List.mem_cons_of_mem _ hw))) (hat w hw)
  have hk' : (Cond.classLink own ik cls).before args s' = true := vx_ot_at hW0 hvm.symm (hgood _ List.mem_cons_self) hk
  have hini' : (Cond.initialized cls).before args s' = true := vx_ot_at hW0 hvm.symm (hgood _ (List.mem_cons_of_mem _ List.mem_cons_self)) hini
  have hU' : vx_Zq Bundle.tN "UNASSIGNED_STACK" Bundle.steD A s' s'.heap := by rw [hhp]; exact vx_Zq.moved hW0.alike (hU.kept hS.2.1)
  have hN' : vx_Zq Bundle.tN "SUPPRESSED_SENTINEL" Bundle.listD A s' s'.heap := by rw [hhp]; exact vx_Zq.moved hW0.alike (hN.kept hS.2.1)
  have h : ∀ w ∈ Bundle.ownAtoms own ic cls names, w.before args s' = true := vx_own hat' (vx_isRefq hU'.1) (vx_isRefq hN'.1) hU'.2.word hN'.2.word
  have hown' : s'.vm.findClass own = some m.cls := by rw [hvm]; exact hown
  have hins : (Cond.instantiable cls 6).before args s' = true := h _ (by simp [Bundle.ownAtoms])
  obtain ⟨vm₁, cX, kX, hfX, hkX, -, -, X₁, st1⟩ := Y.newCold hexec (own := own) (C := cls) (index := ik) (n := 6) hown' hk' hins hini'
    (g := F0 m pc ls rest) rfl (by rw [hb]; exact d0) (Nat.le_refl _) (Nat.le_refl _)
  generalize hT1 : (T.setVm vm₁).pushCell { cls := cX, slots := kX.instanceTypes.map defaultValue, vm := .none } = T1 at X₁ st1
  have hcat : (Value.ref T.heap.size).category = 1 := rfl
  have hcellA : T1.heap[T.heap.size]? = some (freshCell cX kX) := by rw [← hT1]; exact State.heap_pushCell_size _ _
  have d3' : decode c.code (pc + 3) = .ok (.dup, 1) := by rw [hb]; exact d3
  have d4' : decode c.code (pc + 4) = .ok (.ldc_w is, 3) := by rw [hb]; exact d4
  have hstr' : vk_R own is text sa s' := vk_R.warm hW0 hstr
  obtain ⟨U, hsteps, hrun, hend, hW, hsame, ce, hce, hO⟩ := X₁.ctorThrowS hexec htr (own := own) (cls := cls) (names := names) (ic := ic) hown' hcls hnames h (fun x hx => nomatch hx) hfX hkX hcellA (by rw [hhp, hT]; exact Nat.le_refl _) (msg := .ref sa) rfl
    (g := { method := m, pc := pc + 7, locals := ls, stack := .ref sa :: .ref T.heap.size :: .ref T.heap.size :: rest, locked := none }) rfl hsize rfl rfl (rest := rest) rfl
    (by rw [hb]; exact d7) (by rw [hb]; exact d10) hout hRframes (by simp only [List.map_cons, List.sum_cons, hcat]; omega) hlocks
  obtain ⟨f1, f2⟩ := vx_frame hsame
  rw [hhp] at f1 f2
  have hWs : s.WarmedH U.vm := State.WarmedH.trans hW0 hW
  have hcl : s.vm.findClass cls = some ce.cls := by
    have h9 := hO.cls
    rw [hvm] at h9
    exact h9
  have hall : s.sameButNew ({ U with vm := s.vm } : State) locs mc ms := by
    subst hA
    obtain ⟨e1, e2⟩ := hsame
    rw [State.setFrames_setFrames] at e1
    have h2 : (T.setVm s.vm).sameButNew ({ U with vm := s.vm } : State) [] (0 + 1) (0 + 6) := ⟨e1, e2⟩
    have h3 := X.same.trans h2
    rw [List.append_nil] at h3
    exact h3.mono hc hs
  refine ⟨U, ?_, .threw T.heap.size, hrun, hend, Or.inr ⟨T.heap.size, rfl, cls, ce, locs, hx U hWs.alike f1 (fun q hq => f2 q hq (fun z hz => nomatch hz)), hce, hO.vm, hcl, hWs, hall, hf⟩⟩
  refine st1 _ ?_
  show Steps p.tables e below (T1.setTop { method := m, pc := pc + 3, locals := ls, stack := .ref T.heap.size :: rest, locked := none }) _
  jvm_step X₁.here [X₁.here.top, hexec, d3', Value.category]
  exact X₁.ldcStringW hexec (own := own) (text := text) (index := is) (a := sa) hown' hstr'.1 hstr'.2
    (g := { method := m, pc := pc + 4, locals := ls, stack := .ref T.heap.size :: .ref T.heap.size :: rest, locked := none }) rfl d4' _ hsteps
end Ends
section Bodies
variable {l : Launch}
theorem vx_ofW {y : MethodName} {ws ws' : List Cond} {rm : Room} {Pc : Array Value → State → Prop} {Qc : Array Value → State → Outcome → State → Prop} {XC : String → State → State → Prop} {mc ms : Nat} {free : Addr → Prop} {cc : ByteArray} {maxL : Nat} {ret : Option FieldType}
    (hy : plainName y.cls = true) (hw : ws = Cond.code y cc maxL ret :: ws')
    (body : ∀ p e s m args below meth c s₁, BodyLoose p l y (headSpec ws rm) cc maxL ret e s m args below meth c s₁ → c.maxLocals = maxL → (∀ x ∈ c.exceptionTable.toList, False) → Pc args s →
      W p l e (headSpec ws rm).room s m args below meth c s.heap [] 0 0 (vx_MQ below Qc XC args s mc ms free) (entryFrame m args maxL)) : vx_Met l y ws rm Pc Qc XC mc ms free := by
  refine MetFree.of_bodyS (code := cc) (maxLocals := maxL) (ret := ret) hy ?_ ?_
  · intro args s m h hn
    obtain ⟨meth, c, h1, h2, h3, h4, h5, h6, -, -⟩ := Cond.code_spec hn (atoms_spec (ws := ws) h _ (by rw [hw]; exact List.mem_cons_self))
    exact ⟨meth, c, h1, h2, h3, h4, h5, h6⟩
  · intro p e s m args below meth c s₁ B hml hP _
    have hh0 : s₁.heap = s.heap := by rw [B.state]; rfl
    have ht : ∀ x ∈ c.exceptionTable.toList, False := by
      obtain ⟨meth9, c9, h1, h2, -, -, -, -, h7, -⟩ := Cond.code_spec B.named (atoms_spec (ws := ws) B.pre _ (by rw [hw]; exact List.mem_cons_self))
      cases Option.some.inj (h1.symm.trans B.method)
      cases Option.some.inj (h2.symm.trans (Stand.of_body B).code)
      intro x hx
      rw [Array.isEmpty_iff.mp h7] at hx
      cases hx
    obtain ⟨t, a1, o, b1, b2, b3⟩ := body p e s m args below meth c s₁ B hml ht hP s₁ hh0 (Stand.of_body B)
    exact ⟨t, o, a1, b1, b2, b3⟩
/-- the table of a body with handlers -/
theorem vx_table {p : Program} {x y : MethodName} {S : Spec} {cc bytes : ByteArray} {maxL maxL' : Nat} {ret ret' : Option FieldType} {e : Env} {s s₁ : State} {m : MethodId} {args : Array Value} {below : List Frame} {meth : Method} {c : Code} {hh : List (Nat × Nat × Nat × Nat)}
    (B : BodyLoose p l y S cc maxL ret e s m args below meth c s₁) (h : (Cond.codeWith y bytes maxL' ret' hh).before args s = true) : c.exceptionTable.toList = tableOf hh := by
  obtain ⟨m9, meth9, c9, hn9, h1, h2, -, -, h6, -⟩ := Cond.codeWith_spec h
  cases Option.some.inj (hn9.symm.trans B.named)
  cases Option.some.inj (h1.symm.trans B.method)
  cases Option.some.inj (h2.symm.trans (Stand.of_body B).code)
  rw [← h6, table_eq]
end Bodies
end VXA
/-! ===== END ===== -/
/-! ===== BEGIN a static call of a method with an exception table ===== -/
section VXS
variable {p : Program} {l : Launch} {e : Env} {R : Room} {s : State} {m : MethodId} {args : Array Value} {below : List Frame} {meth : Method} {c : Code} {T : State} {H : Heap} {locs : List Loc} {cells slots : Nat}
abbrev vx_CSW (R : Room) (s : State) (args : Array Value) (own : String) (index : Nat) (y : MethodName) (bytes : ByteArray) (maxL : Nat) (ret : Option FieldType) (hh : List (Nat × Nat × Nat × Nat)) (ws : List Cond) (rm : Room) (mc ms n : Nat) : Prop :=
  (rm.cells = mc ∧ rm.slots = ms ∧ rm.frames + 1 ≤ R.frames ∧ 8 + (maxL + 11) + rm.locals ≤ R.locals ∧ (∀ w ∈ ws, ∀ (a' : Array Value) (U : State), s.WarmedH U.vm → w.before a' U = true) ∧ Cond.codeWith y bytes maxL ret hh ∈ ws) ∧
  (Cond.codeWith y bytes maxL ret hh).before args s = true ∧ (Cond.initialized y.cls).before args s = true ∧ (y.cls ≠ "java/lang/invoke/MethodHandle" ∧ y.cls ≠ "java/lang/invoke/VarHandle") ∧
  (∀ sig, parseMethodDescriptor y.desc = some sig → n = sig.parameters.length) ∧ (Cond.methodLink own index y).before args s = true ∧ (Cond.static y).before args s = true
theorem vx_cwSW {own : String} {index maxL mc ms : Nat} {y : MethodName} {bytes : ByteArray} {ret : Option FieldType} {hh : List (Nat × Nat × Nat × Nat)} {Ts ws ws' : List Cond} {rm : Room} (n : Nat) (ht : ∀ w ∈ Ts, w.before args s = true) (hT : GoodIn Ts (va_wsS own index y ws)) (hw : ws = Cond.codeWith y bytes maxL ret hh :: ws') (hrc : rm.cells = mc) (hrs : rm.slots = ms)
    (hd : y.cls ≠ "java/lang/invoke/MethodHandle" ∧ y.cls ≠ "java/lang/invoke/VarHandle" ∧ (parseMethodDescriptor y.desc).map (fun d => d.parameters.length) = some n) (hR : rm.frames + 1 ≤ R.frames ∧ 8 + (maxL + 11) + rm.locals ≤ R.locals) :
    vx_CSW R s args own index y bytes maxL ret hh ws rm mc ms n := by
  have ok : ∀ w ∈ va_wsS own index y ws, w.before args s = true := fun w h => ht w (hT w h).1
  have hG : GoodIn Ts ws := fun w h => hT w (by unfold va_wsS; exact List.mem_append_right _ h)
  have hc : Cond.codeWith y bytes maxL ret hh ∈ ws := by rw [hw]; exact List.mem_cons_self
  refine ⟨⟨hrc, hrs, hR.1, hR.2, pay_in ht hG, hc⟩, ht _ (hG _ hc).1, ok _ (by simp [va_wsS]), ⟨hd.1, hd.2.1⟩, fun sig h => ?_, ok _ (by simp [va_wsS]), ok _ (by simp [va_wsS])⟩
  have h2 := hd.2.2
  rw [h] at h2
  exact (Option.some.inj h2).symm
theorem vx_callSW (X : Stand p l e R s m args below meth c T locs cells slots) (hexec : p.tables.exec = Jvm.exec) {own : String} {index : Nat} {y : MethodName} {bytes : ByteArray} {maxL : Nat} {ret : Option FieldType} {hh : List (Nat × Nat × Nat × Nat)}
    (hown : s.vm.findClass own = some m.cls) (hlink : (Cond.methodLink own index y).before args s = true) (hstat : (Cond.static y).before args s = true) (hinit : (Cond.initialized y.cls).before args s = true)
    (hcode : (Cond.codeWith y bytes maxL ret hh).before args s = true) (hy : y.cls ≠ "java/lang/invoke/MethodHandle" ∧ y.cls ≠ "java/lang/invoke/VarHandle")
    {W9 : Nat} {Pre : Pt → Array Value → Prop} {Post : Pt → Array Value → Option Value → Pt → Prop} (hK : Back l R p e below s args y 3 W9 Pre Post)
    {g : JFrame} (hg : g.method = m) (hsize : g.locals.size = c.maxLocals) {argsL rest : List Value} (hlen : ∀ sig, parseMethodDescriptor y.desc = some sig → argsL.length = sig.parameters.length)
    (hstack : g.stack = argsL.reverse ++ rest) (hW : 2 * g.monitorRoom + (rest.map fun v => v.category).sum ≤ W9) (hdg : decode c.code g.pc = .ok (.invokestatic index, 3))
    (hpre : ∀ vm₁, s.WarmedH vm₁ → Pre ⟨T.setVm vm₁, locs, cells, slots⟩ argsL.toArray) :
    ∃ (v : Option Value) (vm₁ : Vm) (B : Pt), s.WarmedH vm₁ ∧ Stand p l e R s m args below meth c B.U B.locs B.cells B.slots ∧ Post ⟨T.setVm vm₁, locs, cells, slots⟩ argsL.toArray v B ∧
      ∀ target, Steps p.tables e below (B.U.setTop { g with pc := g.pc + 3, stack := v.toList ++ rest }) target → Steps p.tables e below (T.setTop g) target := by
  obtain ⟨mk, methM, cM, hnamed, hmethM, -, -, -, -, -, -, hsigM⟩ := Cond.codeWith_spec hcode
  have hstatic : methM.isStatic = true := Cond.static_spec hnamed hmethM hstat
  obtain ⟨kP, hkP, -⟩ := className_of_methodNamed hnamed
  have hinitP : kP.init = .initialized := Cond.initialized_spec (findClass_of_methodNamed hnamed) hkP hinit
  obtain ⟨vm₁, X₁, hstep₁⟩ := X.invokestatic hexec hown hlink hnamed hmethM hstatic hkP hinitP hy (g := g) hg (argsL := argsL) (rest := rest) (hlen _ hsigM) hstack hdg
  obtain ⟨v, B, X', hpost, hsteps⟩ := hK m meth c ⟨T.setVm vm₁, locs, cells, slots⟩ { g with stack := rest } (.invokestatic index) mk argsL.toArray X₁ hg hsize hdg hW (X₁.named hnamed) (hpre vm₁ X₁.warmed)
  exact ⟨v, vm₁, B, X₁.warmed, X', hpost, fun target h => hstep₁ _ fun acts => by rw [doInvoke_state]; exact hsteps.trans h⟩
theorem vx_runSW {y : MethodName} {bytes cc : ByteArray} {maxL nL mc ms n index : Nat} {ret : Option FieldType} {hh : List (Nat × Nat × Nat × Nat)} {ws : List Cond} {rm : Room} {Pc : Array Value → State → Prop} {Qc : Array Value → State → Outcome → State → Prop} {free : Addr → Prop} {Ts : List Cond} {own : String} {As rest : List Value} {g : JFrame}
    (S : CallFix p m c cc nL s args Ts own) (hM : Met l y ws rm Pc Qc mc ms free) (cw : vx_CSW R s args own index y bytes maxL ret hh ws rm mc ms n) (hp : PreS s H Pc As)
    (hg : g.method = m) (hn : As.length = n) (hsize : g.locals.size = nL) (hstack : g.stack = As.reverse ++ rest) (hW : 2 * g.monitorRoom + (rest.map fun v => v.category).sum ≤ 8) (hdg : decode cc g.pc = .ok (.invokestatic index, 3)) (hf : cells + mc ≤ R.cells ∧ slots + ms ≤ R.slots) :
    va_Run p l e R s m args below meth c H locs cells slots mc ms g rest (Qc As.toArray) (free) := by
  obtain ⟨⟨hrc, hrs, hfr, hlo, hws, hcw⟩, hcode, hini, hy, hlen, hl, hstt⟩ := cw
  have hK : Back l R p e below s args y 3 8 (PreOf R mc ms Pc) (PostOf Qc mc ms free) := va_backW (hh := hh) (bytes := bytes) (maxL := maxL) (ret := ret) hM hp.1 hrc hrs hfr hlo hws hcw (fun a' U hW => word_at hW (Or.inl (by first | rfl | simp [Cond.onTables, Cond.keeps, Cond.steady])) hini)
  obtain ⟨hx, hb, hml, ho, -⟩ := S
  intro T hT X
  obtain ⟨v, vm₁, ⟨U', l2, c2, s2⟩, hW₁, X', ⟨g', mk, t, L, e1, e2, hq, h1, hL, h2, h3⟩, st⟩ := vx_callSW X hx (hh := hh) (bytes := bytes) (maxL := maxL) (ret := ret) ho hl hstt hini hcode hy hK hg (hsize.trans hml.symm) (argsL := As) (rest := rest) (fun sig h => hn.trans (hlen sig h)) hstack hW (by rw [hb]; exact hdg)
    (fun vm₁ hW₁ => ⟨hf.1, hf.2, hp.2 (T.setVm vm₁) hT hW₁⟩)
  dsimp only [Pt.U, Pt.locs, Pt.cells, Pt.slots] at X' e1 e2 h1 h2 h3 st
  subst h1; subst h2; subst h3
  exact ⟨v, (T.setVm vm₁).calling g' mk As.toArray, t, U', L, hT, X', hL, e1, e2, hq, st⟩
/-- not caught here, past rows that name other classes: it goes on to the caller -/
theorem vx_outP {p : Program} {l : Launch} {e : Env} {R : Room} {s : State} {m : MethodId} {args : Array Value} {below : List Frame} {meth : Method} {c : Code} {H : Heap} {locs : List Loc} {cells slots : Nat} {free : Addr → Prop} {ls : Array Slot} {rest : List Value} {Qc : Array Value → State → Outcome → State → Prop} {XC : String → State → State → Prop}
    {pc : Nat} {own E : String} {ce : Cell} {q : Addr} {mc ms : Nat} (hown : s.vm.findClass own = some m.cls) (hlocks : meth.locks = false)
    (hpass : ∀ z ∈ c.exceptionTable.toList, covers z pc = false ∨ (z.catchType ≠ 0 ∧ ∃ nm : String, (Cond.classLink own z.catchType nm).before args s = true ∧ va_Nc E nm s)) (hcell : H[q]? = some ce) (hv : ce.vm = .none) (hcl : s.vm.findClass E = some ce.cls)
    (hx : ∀ t : State, t.heap = H → s.vm.Alike t.vm → XC E s t) (hf : ∀ z ∈ locs, free z.base) (hc : cells ≤ mc) (hs : slots ≤ ms) :
    vx_W p l e R s m args below meth c H locs cells slots (vx_MQ below Qc XC args s mc ms free) (F0 m pc ls rest) q := by
  intro T hT X
  have hpl : e.platform.magicAccessors = ({} : Platform).magicAccessors := by rw [X.admits.platform]
  obtain ⟨vm', hW', X', st⟩ := X.outThrough hlocks q (g := F0 m pc ls rest) rfl rfl rfl (cell := ce) (by rw [hT]; exact hcell) (by rw [hv]; rfl)
    (by obtain ⟨k9, h9, -⟩ := Vm.findClass_spec hcl; exact ⟨k9, h9⟩) (fun z hz => by
      rcases hpass z hz with h | ⟨hz0, nm, hl1, hn1⟩
      · exact Or.inl h
      · obtain ⟨c6, hc6, hcl6⟩ := Cond.classLink_spec hown hl1 e.platform hpl
        obtain ⟨a8, b8, h1, h2, h3⟩ := hn1
        cases Option.some.inj (h1.symm.trans hcl)
        cases Option.some.inj (h2.symm.trans hc6)
        exact Or.inr ⟨hz0, _, hcl6, h3⟩)
  obtain ⟨g₀, hfr⟩ := X'.frames_eq
  have hcell9 : ((T.setVm vm').setFrames (.throwing q :: below)).heap[q]? = some ce := by
    show T.heap[q]? = some ce
    rw [hT]; exact hcell
  have hend : Ended ((T.setVm vm').setFrames (.throwing q :: below)) below (.threw q) := State.frames_setFrames _ (State.cur_lt_of_frames hfr)
  refine ⟨(T.setVm vm').setFrames (.throwing q :: below), ?_, .threw q, X'.here.running, hend, Or.inr ⟨q, rfl, E, ce, locs, hx _ hT (X'.ends _).1.alike, hcell9, hv, hcl, (X'.ends _).1, (X'.ends _).2.mono hc hs, hf⟩⟩
  rw [X.pushThrowing_eq]
  exact st
/-- a thing of a world lies in the heap -/
theorem vx_lt {D : va_G} {cl : List vw_C} {ws : va_W} {H1 : Heap} (h : va_P D cl ws H1) {k : Nat} {q : Nat × va_E} (hk : ws[k]? = some q) : q.1 < H1.size := (h k q hk).lt
end VXS
/-! ===== END ===== -/
/-! ===== BEGIN methods with a table of their own: called by a name, returning or throwing ===== -/
section VXH
/-! vx_backW, vx_callVX, vx_callSX, vx_callVW, vx_runVW, vx_runVX, vx_runSX, vx_ofWH follow the same proofs as their sisters above (Free/Laws.lean, Shelf42/LK1.lean); vx_outP calls Shelf42/NT130.lean (outThrough). -/
section
variable {l : Launch} {R : Room} {p : Program} {e : Env} {below : List Frame} {s : State} {sargs : Array Value} {y : MethodName} {len W9 : Nat}
theorem vx_backW {ws : List Cond} {rm : Room} {Pc : Array Value → State → Prop} {Qc : Array Value → State → Outcome → State → Prop} {XC : String → State → State → Prop} {mc ms : Nat} {free : Addr → Prop} {bytes : ByteArray} {maxL : Nat} {ret : Option FieldType} {hh : List (Nat × Nat × Nat × Nat)}
    (hM : vx_Met l y ws rm Pc Qc XC mc ms free) (hblind : FrameBlind Pc) (hrc : rm.cells = mc) (hrs : rm.slots = ms)
    (hframes : rm.frames + 1 ≤ R.frames) (hlocals : W9 + (maxL + 11) + rm.locals ≤ R.locals)
    (hws : ∀ w ∈ ws, ∀ a' U, s.WarmedH U.vm → w.before a' U = true) (hcode : Cond.codeWith y bytes maxL ret hh ∈ ws) (hinit : ∀ a' U, s.WarmedH U.vm → (Cond.initialized y.cls).before a' U = true) :
    vx_Back l R p e below s sargs y len W9 (PreOf R mc ms Pc) (PostOf Qc mc ms free) (vx_Post XC mc ms free) := by
  intro m meth c A g ig mk a X hg hsize hdg hW hn hp
  have h1 : (headSpec ws rm).pre.before a A.U = true := atoms_intro fun w hw => hws w hw _ _ X.warmed
  have h2 : (Cond.codeWith y bytes maxL ret hh).before a A.U = true := hws _ hcode _ _ X.warmed
  have h3 : (Cond.initialized y.cls).before a A.U = true := hinit _ _ X.warmed
  have h4 : A.cells + (headSpec ws rm).room.cells ≤ R.cells := by rw [show (headSpec ws rm).room.cells = mc from hrc]; exact hp.1
  have h5 : A.slots + (headSpec ws rm).room.slots ≤ R.slots := by rw [show (headSpec ws rm).room.slots = ms from hrs]; exact hp.2.1
  have hPc : Pc a (A.U.calling g mk a) := hblind _ _ _ _ hp.2.2
  obtain ⟨U, Ls, c0, s0⟩ := A
  dsimp only [Pt.U, Pt.locs, Pt.cells, Pt.slots] at h1 h2 h3 h4 h5 X hn hPc ⊢
  obtain ⟨m9, methY, cY, hn9, hmY, hcY, -, hlY, -⟩ := Cond.codeWith_spec h2
  cases Option.some.inj (hn9.symm.trans hn)
  obtain ⟨kY, hkY, -⟩ := className_of_methodNamed hn
  have hinitY : kY.init = .initialized := Cond.initialized_spec (findClass_of_methodNamed hn) hkY h3
  have h : At U g.method c below := by rw [hg]; exact X.here
  have hlocals9 : W9 + (maxL + 11) + (headSpec ws rm).room.locals ≤ R.locals := hlocals
  have happ : (headSpec ws rm).appliesLoose y e.platform (U.calling g mk a) = true :=
    Spec.appliesLoose_calling (g := g) h hdg hn hkY hinitY
      (X.room_calling (g := g) (R' := (headSpec ws rm).room) hsize hmY hcY hframes (by rw [hlY]; omega) h4 h5) h1
  obtain ⟨mid, hmid⟩ := h.above
  have hfr : (U.setTop g).frames = (.java g :: mid) ++ below := by rw [State.frames_setTop' g h.top, hmid]; rfl
  obtain ⟨o, s₂, hsteps, -, hend, hq⟩ := Steps.callFree hM p X.admits X.cas X.clock (acts := []) hfr happ hPc trivial
  have hq' : vx_Q Qc XC mc ms free a (U.calling g mk a) o s₂ := hq
  rw [State.frames_setTop' g h.top] at hend
  obtain ⟨g₀, hg0⟩ := Option.isSome_iff_exists.mp h.top
  obtain ⟨r, hr⟩ := State.topJava?_eq_some.mp hg0
  have hr' : (({ U with heap := s₂.heap, slotsUsed := s₂.slotsUsed } : State).setVm s₂.vm).frames = .java g₀ :: r := hr
  rcases hq' with ⟨hqc, L, hfe, hL⟩ | ⟨q, rfl, E, ce, L, hx, hce, hcv, hcl, hW₂, hsm, hL⟩
  · obtain ⟨⟨v, rfl⟩, hW₂, e2, q2, q3, q4, q5, q6⟩ := id hfe
    have e3 : s₂ = ({ (U.calling g mk a).setFrames s₂.frames with heap := s₂.heap, slotsUsed := s₂.slotsUsed } : State).setVm s₂.vm := by
      have : s₂ = ({ s₂ with vm := (U.calling g mk a).vm } : State).setVm s₂.vm := rfl
      rw [e2] at this
      exact this
    obtain ⟨c₂, i₂, len₂, hc₂, hd₂, hf₂⟩ := hend
    have hW' : U.WarmedH s₂.vm := hW₂
    have hcc : c₂ = c := by
      have h1 : s₂.code? g.method = U.code? g.method := by
        rw [State.code?_eq, State.code?_eq, hW'.alike.method?]
      exact Option.some.inj (hc₂.symm.trans (h1.trans h.code))
    subst hcc
    have hlen : len₂ = len := by rw [hdg] at hd₂; cases hd₂; rfl
    subst hlen
    have hs₂ : s₂ = (({ U with heap := s₂.heap, slotsUsed := s₂.slotsUsed } : State).setVm s₂.vm).setTop { g with pc := g.pc + len₂, stack := v.toList ++ g.stack } := by
      refine e3.trans ?_
      rw [hf₂, State.calling_eq h.top, State.setFrames_setFrames, State.setTop_of_frames _ hr', hr]
      rfl
    have hsame : U.sameButNew ({ U with heap := s₂.heap, slotsUsed := s₂.slotsUsed } : State) L mc ms := by
      refine ⟨?_, q2, q3, q4, q5, q6⟩
      obtain ⟨t, ht, -⟩ := State.frames_cons hr
      show ({ U with heap := s₂.heap, slotsUsed := s₂.slotsUsed } : State) = { U.setFrames U.frames with heap := s₂.heap, slotsUsed := s₂.slotsUsed }
      rw [State.setFrames_self ht]
    subst hg
    refine Or.inl ⟨v, ⟨(({ U with heap := s₂.heap, slotsUsed := s₂.slotsUsed } : State).setVm s₂.vm), Ls ++ L, c0 + mc, s0 + ms⟩,
      ⟨X.admits, X.cas, X.clock, X.frames, X.room, X.hears, X.method, X.code, (X.here.setHeapUsed s₂.heap s₂.slotsUsed).setVm hW'.alike, X.tail, State.WarmedH.trans X.warmed hW', X.limits, X.bytes, X.same.trans (hsame.setVm s.vm)⟩,
      ⟨g, mk, s₂, L, rfl, rfl, hqc, rfl, hL, rfl, rfl⟩, ?_⟩
    show Steps p.tables e below _ ((({ U with heap := s₂.heap, slotsUsed := s₂.slotsUsed } : State).setVm s₂.vm).setTop { g with pc := g.pc + len₂, stack := v.toList ++ g.stack })
    rw [← hs₂]
    exact hsteps
  · obtain ⟨e2, q2, q3, q4, q5, q6⟩ := id hsm
    have e3 : s₂ = ({ (U.calling g mk a).setFrames s₂.frames with heap := s₂.heap, slotsUsed := s₂.slotsUsed } : State).setVm s₂.vm := by
      have : s₂ = ({ s₂ with vm := (U.calling g mk a).vm } : State).setVm s₂.vm := rfl
      rw [e2] at this
      exact this
    have hf₂ : s₂.frames = .throwing q :: .java g :: U.frames.tail := hend
    have hW' : U.WarmedH s₂.vm := hW₂
    have hs₂ : s₂ = ((({ U with heap := s₂.heap, slotsUsed := s₂.slotsUsed } : State).setVm s₂.vm).setTop g).pushFrame (.throwing q) := by
      refine e3.trans ?_
      rw [hf₂, State.calling_eq h.top, State.setFrames_setFrames, State.pushFrame, State.frames_setTop _ hr', State.setTop_of_frames _ hr', State.setFrames_setFrames, hr]
      rfl
    have hsame : U.sameButNew ({ U with heap := s₂.heap, slotsUsed := s₂.slotsUsed } : State) L mc ms := by
      refine ⟨?_, q2, q3, q4, q5, q6⟩
      obtain ⟨t, ht, -⟩ := State.frames_cons hr
      show ({ U with heap := s₂.heap, slotsUsed := s₂.slotsUsed } : State) = { U.setFrames U.frames with heap := s₂.heap, slotsUsed := s₂.slotsUsed }
      rw [State.setFrames_self ht]
    subst hg
    refine Or.inr ⟨q, ⟨(({ U with heap := s₂.heap, slotsUsed := s₂.slotsUsed } : State).setVm s₂.vm), Ls ++ L, c0 + mc, s0 + ms⟩,
      ⟨X.admits, X.cas, X.clock, X.frames, X.room, X.hears, X.method, X.code, (X.here.setHeapUsed s₂.heap s₂.slotsUsed).setVm hW'.alike, X.tail, State.WarmedH.trans X.warmed hW', X.limits, X.bytes, X.same.trans (hsame.setVm s.vm)⟩,
      ⟨g, mk, s₂, L, E, ce, rfl, rfl, hx, hce, hcv, hcl, rfl, hL, rfl, rfl⟩, ?_⟩
    show Steps p.tables e below _ (((({ U with heap := s₂.heap, slotsUsed := s₂.slotsUsed } : State).setVm s₂.vm).setTop g).pushFrame (.throwing q))
    rw [← hs₂]
    exact hsteps
end
variable {p : Program} {l : Launch} {e : Env} {R : Room} {s : State} {m : MethodId} {args : Array Value} {below : List Frame} {meth : Method} {c : Code} {T : State} {H : Heap} {locs : List Loc} {cells slots : Nat}
theorem vx_callVX (X : Stand p l e R s m args below meth c T locs cells slots) (hexec : p.tables.exec = Jvm.exec) {own C : String} {index : Nat} {y : MethodName} {bytes : ByteArray} {maxL : Nat} {ret : Option FieldType} {hh : List (Nat × Nat × Nat × Nat)}
    (hown : s.vm.findClass own = some m.cls) (hlink : (Cond.methodLink own index y).before args s = true) (hinst : (Cond.instanceMethod y).before args s = true) (hsel : (Cond.selects C y y).before args s = true)
    (hcode : (Cond.codeWith y bytes maxL ret hh).before args s = true) (hy : y.cls ≠ "java/lang/invoke/MethodHandle" ∧ y.cls ≠ "java/lang/invoke/VarHandle")
    {W9 : Nat} {Pre : Pt → Array Value → Prop} {Post : Pt → Array Value → Option Value → Pt → Prop} {PostX : Pt → Array Value → Addr → Pt → Prop} (hK : vx_Back l R p e below s args y 3 W9 Pre Post PostX)
    {b : Addr} {cellB : Cell} (hcell : T.heap[b]? = some cellB) (hobj : cellB.vm.isStatics = false) (hcls : s.vm.findClass C = some cellB.cls)
    {g : JFrame} (hg : g.method = m) (hsize : g.locals.size = c.maxLocals) {argsL rest : List Value} (hlen : ∀ sig, parseMethodDescriptor y.desc = some sig → argsL.length = sig.parameters.length)
    (hstack : g.stack = argsL.reverse ++ .ref b :: rest) (hW : 2 * g.monitorRoom + (rest.map fun v => v.category).sum ≤ W9) (hdg : decode c.code g.pc = .ok (.invokevirtual index, 3))
    (hpre : ∀ vm₁, s.WarmedH vm₁ → Pre ⟨T.setVm vm₁, locs, cells, slots⟩ (Value.ref b :: argsL).toArray) :
    (∃ (v : Option Value) (vm₁ : Vm) (B : Pt), s.WarmedH vm₁ ∧ Stand p l e R s m args below meth c B.U B.locs B.cells B.slots ∧ Post ⟨T.setVm vm₁, locs, cells, slots⟩ (Value.ref b :: argsL).toArray v B ∧
      ∀ target, Steps p.tables e below (B.U.setTop { g with pc := g.pc + 3, stack := v.toList ++ rest }) target → Steps p.tables e below (T.setTop g) target) ∨
    (∃ (q : Addr) (vm₁ : Vm) (B : Pt), s.WarmedH vm₁ ∧ Stand p l e R s m args below meth c B.U B.locs B.cells B.slots ∧ PostX ⟨T.setVm vm₁, locs, cells, slots⟩ (Value.ref b :: argsL).toArray q B ∧
      Steps p.tables e below (T.setTop g) ((B.U.setTop { g with stack := rest }).pushFrame (.throwing q))) := by
  obtain ⟨mk, methM, hnamed, hmethM, hstM, habM⟩ := Cond.instanceMethod_spec hinst
  obtain ⟨m8, methM', cM, hn8, hmethM', -, -, -, -, -, -, hsigM⟩ := Cond.codeWith_spec hcode
  cases Option.some.inj (hn8.symm.trans hnamed)
  cases hmethM.symm.trans hmethM'
  obtain ⟨c2, r2, m2, q1, q2, q3, q4, kP, hkP, hkPi⟩ := Cond.selects_spec hsel
  cases hcls.symm.trans q1
  cases (State.methodFound?_of_named hnamed hy).symm.trans q2
  cases hnamed.symm.trans q3
  have hselP : selectMethod e.platform s.vm cellB.cls mk = .method mk := by rw [Launch.admits_selectMethod X.admits]; exact q4
  obtain ⟨vm₁, X₁, hstep₁⟩ := X.invokevirtual hexec hown hlink hnamed hmethM hstM hkP hkPi hy (a := b) (cell := cellB) hcell
    (fun z h => by rw [h] at hobj; cases hobj) hselP hmethM habM hkP hkPi (g := g) hg (argsL := argsL) (rest := rest) (hlen _ hsigM) hstack hdg
  rcases hK m meth c ⟨T.setVm vm₁, locs, cells, slots⟩ { g with stack := rest } (.invokevirtual index) mk (Value.ref b :: argsL).toArray X₁ hg hsize hdg hW (X₁.named hnamed) (hpre vm₁ X₁.warmed) with ⟨v, B, X', hpost, hsteps⟩ | ⟨q, B, X', hpost, hsteps⟩
  · exact Or.inl ⟨v, vm₁, B, X₁.warmed, X', hpost, fun target h => hstep₁ _ fun acts => by rw [doInvoke_state]; exact hsteps.trans h⟩
  · exact Or.inr ⟨q, vm₁, B, X₁.warmed, X', hpost, hstep₁ _ fun acts => by rw [doInvoke_state]; exact hsteps⟩
theorem vx_callSX (X : Stand p l e R s m args below meth c T locs cells slots) (hexec : p.tables.exec = Jvm.exec) {own : String} {index : Nat} {y : MethodName} {bytes : ByteArray} {maxL : Nat} {ret : Option FieldType} {hh : List (Nat × Nat × Nat × Nat)}
    (hown : s.vm.findClass own = some m.cls) (hlink : (Cond.methodLink own index y).before args s = true) (hstat : (Cond.static y).before args s = true) (hinit : (Cond.initialized y.cls).before args s = true)
    (hcode : (Cond.codeWith y bytes maxL ret hh).before args s = true) (hy : y.cls ≠ "java/lang/invoke/MethodHandle" ∧ y.cls ≠ "java/lang/invoke/VarHandle")
    {W9 : Nat} {Pre : Pt → Array Value → Prop} {Post : Pt → Array Value → Option Value → Pt → Prop} {PostX : Pt → Array Value → Addr → Pt → Prop} (hK : vx_Back l R p e below s args y 3 W9 Pre Post PostX)
    {g : JFrame} (hg : g.method = m) (hsize : g.locals.size = c.maxLocals) {argsL rest : List Value} (hlen : ∀ sig, parseMethodDescriptor y.desc = some sig → argsL.length = sig.parameters.length)
    (hstack : g.stack = argsL.reverse ++ rest) (hW : 2 * g.monitorRoom + (rest.map fun v => v.category).sum ≤ W9) (hdg : decode c.code g.pc = .ok (.invokestatic index, 3))
    (hpre : ∀ vm₁, s.WarmedH vm₁ → Pre ⟨T.setVm vm₁, locs, cells, slots⟩ argsL.toArray) :
    (∃ (v : Option Value) (vm₁ : Vm) (B : Pt), s.WarmedH vm₁ ∧ Stand p l e R s m args below meth c B.U B.locs B.cells B.slots ∧ Post ⟨T.setVm vm₁, locs, cells, slots⟩ argsL.toArray v B ∧
      ∀ target, Steps p.tables e below (B.U.setTop { g with pc := g.pc + 3, stack := v.toList ++ rest }) target → Steps p.tables e below (T.setTop g) target) ∨
    (∃ (q : Addr) (vm₁ : Vm) (B : Pt), s.WarmedH vm₁ ∧ Stand p l e R s m args below meth c B.U B.locs B.cells B.slots ∧ PostX ⟨T.setVm vm₁, locs, cells, slots⟩ argsL.toArray q B ∧
      Steps p.tables e below (T.setTop g) ((B.U.setTop { g with stack := rest }).pushFrame (.throwing q))) := by
  obtain ⟨mk, methM, cM, hnamed, hmethM, -, -, -, -, -, -, hsigM⟩ := Cond.codeWith_spec hcode
  have hstatic : methM.isStatic = true := Cond.static_spec hnamed hmethM hstat
  obtain ⟨kP, hkP, -⟩ := className_of_methodNamed hnamed
  have hinitP : kP.init = .initialized := Cond.initialized_spec (findClass_of_methodNamed hnamed) hkP hinit
  obtain ⟨vm₁, X₁, hstep₁⟩ := X.invokestatic hexec hown hlink hnamed hmethM hstatic hkP hinitP hy (g := g) hg (argsL := argsL) (rest := rest) (hlen _ hsigM) hstack hdg
  rcases hK m meth c ⟨T.setVm vm₁, locs, cells, slots⟩ { g with stack := rest } (.invokestatic index) mk argsL.toArray X₁ hg hsize hdg hW (X₁.named hnamed) (hpre vm₁ X₁.warmed) with ⟨v, B, X', hpost, hsteps⟩ | ⟨q, B, X', hpost, hsteps⟩
  · exact Or.inl ⟨v, vm₁, B, X₁.warmed, X', hpost, fun target h => hstep₁ _ fun acts => by rw [doInvoke_state]; exact hsteps.trans h⟩
  · exact Or.inr ⟨q, vm₁, B, X₁.warmed, X', hpost, hstep₁ _ fun acts => by rw [doInvoke_state]; exact hsteps⟩
theorem vx_callVW (X : Stand p l e R s m args below meth c T locs cells slots) (hexec : p.tables.exec = Jvm.exec) {own C : String} {index : Nat} {y : MethodName} {bytes : ByteArray} {maxL : Nat} {ret : Option FieldType} {hh : List (Nat × Nat × Nat × Nat)}
    (hown : s.vm.findClass own = some m.cls) (hlink : (Cond.methodLink own index y).before args s = true) (hinst : (Cond.instanceMethod y).before args s = true) (hsel : (Cond.selects C y y).before args s = true)
    (hcode : (Cond.codeWith y bytes maxL ret hh).before args s = true) (hy : y.cls ≠ "java/lang/invoke/MethodHandle" ∧ y.cls ≠ "java/lang/invoke/VarHandle")
    {W9 : Nat} {Pre : Pt → Array Value → Prop} {Post : Pt → Array Value → Option Value → Pt → Prop} (hK : Back l R p e below s args y 3 W9 Pre Post)
    {b : Addr} {cellB : Cell} (hcell : T.heap[b]? = some cellB) (hobj : cellB.vm.isStatics = false) (hcls : s.vm.findClass C = some cellB.cls)
    {g : JFrame} (hg : g.method = m) (hsize : g.locals.size = c.maxLocals) {argsL rest : List Value} (hlen : ∀ sig, parseMethodDescriptor y.desc = some sig → argsL.length = sig.parameters.length)
    (hstack : g.stack = argsL.reverse ++ .ref b :: rest) (hW : 2 * g.monitorRoom + (rest.map fun v => v.category).sum ≤ W9) (hdg : decode c.code g.pc = .ok (.invokevirtual index, 3))
    (hpre : ∀ vm₁, s.WarmedH vm₁ → Pre ⟨T.setVm vm₁, locs, cells, slots⟩ (Value.ref b :: argsL).toArray) :
    ∃ (v : Option Value) (vm₁ : Vm) (B : Pt), s.WarmedH vm₁ ∧ Stand p l e R s m args below meth c B.U B.locs B.cells B.slots ∧ Post ⟨T.setVm vm₁, locs, cells, slots⟩ (Value.ref b :: argsL).toArray v B ∧
      ∀ target, Steps p.tables e below (B.U.setTop { g with pc := g.pc + 3, stack := v.toList ++ rest }) target → Steps p.tables e below (T.setTop g) target := by
  obtain ⟨mk, methM, hnamed, hmethM, hstM, habM⟩ := Cond.instanceMethod_spec hinst
  obtain ⟨m8, methM', cM, hn8, hmethM', -, -, -, -, -, -, hsigM⟩ := Cond.codeWith_spec hcode
  cases Option.some.inj (hn8.symm.trans hnamed)
  cases hmethM.symm.trans hmethM'
  obtain ⟨c2, r2, m2, q1, q2, q3, q4, kP, hkP, hkPi⟩ := Cond.selects_spec hsel
  cases hcls.symm.trans q1
  cases (State.methodFound?_of_named hnamed hy).symm.trans q2
  cases hnamed.symm.trans q3
  have hselP : selectMethod e.platform s.vm cellB.cls mk = .method mk := by rw [Launch.admits_selectMethod X.admits]; exact q4
  obtain ⟨vm₁, X₁, hstep₁⟩ := X.invokevirtual hexec hown hlink hnamed hmethM hstM hkP hkPi hy (a := b) (cell := cellB) hcell
    (fun z h => by rw [h] at hobj; cases hobj) hselP hmethM habM hkP hkPi (g := g) hg (argsL := argsL) (rest := rest) (hlen _ hsigM) hstack hdg
  obtain ⟨v, B, X', hpost, hsteps⟩ := hK m meth c ⟨T.setVm vm₁, locs, cells, slots⟩ { g with stack := rest } (.invokevirtual index) mk (Value.ref b :: argsL).toArray X₁ hg hsize hdg hW (X₁.named hnamed) (hpre vm₁ X₁.warmed)
  exact ⟨v, vm₁, B, X₁.warmed, X', hpost, fun target h => hstep₁ _ fun acts => by rw [doInvoke_state]; exact hsteps.trans h⟩
abbrev vx_CVW (R : Room) (s : State) (args : Array Value) (own C : String) (index : Nat) (y : MethodName) (bytes : ByteArray) (maxL : Nat) (ret : Option FieldType) (hh : List (Nat × Nat × Nat × Nat)) (ws : List Cond) (rm : Room) (mc ms n : Nat) : Prop :=
  (rm.cells = mc ∧ rm.slots = ms ∧ rm.frames + 1 ≤ R.frames ∧ 8 + (maxL + 11) + rm.locals ≤ R.locals ∧ (∀ w ∈ ws, ∀ (a' : Array Value) (U : State), s.WarmedH U.vm → w.before a' U = true) ∧ Cond.codeWith y bytes maxL ret hh ∈ ws) ∧
  (Cond.codeWith y bytes maxL ret hh).before args s = true ∧ (Cond.initialized y.cls).before args s = true ∧ (y.cls ≠ "java/lang/invoke/MethodHandle" ∧ y.cls ≠ "java/lang/invoke/VarHandle") ∧
  (∀ sig, parseMethodDescriptor y.desc = some sig → n = sig.parameters.length) ∧ (Cond.methodLink own index y).before args s = true ∧ (Cond.instanceMethod y).before args s = true ∧ (Cond.selects C y y).before args s = true
theorem vx_cwVW {own C : String} {index maxL mc ms : Nat} {y : MethodName} {bytes : ByteArray} {ret : Option FieldType} {hh : List (Nat × Nat × Nat × Nat)} {Ts ws ws' : List Cond} {rm : Room} (n : Nat) (ht : ∀ w ∈ Ts, w.before args s = true) (hT : GoodIn Ts (wsV own index C y ws)) (hw : ws = Cond.codeWith y bytes maxL ret hh :: ws') (hrc : rm.cells = mc) (hrs : rm.slots = ms)
    (hd : y.cls = C ∧ y.cls ≠ "java/lang/invoke/MethodHandle" ∧ y.cls ≠ "java/lang/invoke/VarHandle" ∧ (parseMethodDescriptor y.desc).map (fun d => d.parameters.length) = some n) (hR : rm.frames + 1 ≤ R.frames ∧ 8 + (maxL + 11) + rm.locals ≤ R.locals) :
    vx_CVW R s args own C index y bytes maxL ret hh ws rm mc ms n := by
  obtain ⟨hC, hd⟩ := hd
  subst hC
  have ok : ∀ w ∈ wsV own index y.cls y ws, w.before args s = true := fun w h => ht w (hT w h).1
  have hG : GoodIn Ts ws := fun w h => hT w (by unfold wsV; exact List.mem_append_right _ h)
  have hc : Cond.codeWith y bytes maxL ret hh ∈ ws := by rw [hw]; exact List.mem_cons_self
  refine ⟨⟨hrc, hrs, hR.1, hR.2, pay_in ht hG, hc⟩, ht _ (hG _ hc).1, ok _ (by simp [wsV]), ⟨hd.1, hd.2.1⟩, fun sig h => ?_, ok _ (by simp [wsV]), ok _ (by simp [wsV]), ok _ (by simp [wsV])⟩
  have h2 := hd.2.2
  rw [h] at h2
  exact (Option.some.inj h2).symm
theorem vx_runVW {y : MethodName} {bytes cc : ByteArray} {maxL nL mc ms n index : Nat} {ret : Option FieldType} {hh : List (Nat × Nat × Nat × Nat)} {ws : List Cond} {rm : Room} {Pc : Array Value → State → Prop} {Qc : Array Value → State → Outcome → State → Prop} {free : Addr → Prop} {Ts : List Cond} {own C : String} {b : Addr} {As rest : List Value} {g : JFrame}
    (S : CallFix p m c cc nL s args Ts own) (hM : Met l y ws rm Pc Qc mc ms free) (cw : vx_CVW R s args own C index y bytes maxL ret hh ws rm mc ms n) (hp : PreV s H C b Pc As)
    (hg : g.method = m) (hn : As.length = n) (hsize : g.locals.size = nL) (hstack : g.stack = As.reverse ++ .ref b :: rest) (hW : 2 * g.monitorRoom + (rest.map fun v => v.category).sum ≤ 8) (hdg : decode cc g.pc = .ok (.invokevirtual index, 3)) (hf : cells + mc ≤ R.cells ∧ slots + ms ≤ R.slots) :
    va_Run p l e R s m args below meth c H locs cells slots mc ms g rest (Qc (Value.ref b :: As).toArray) free := by
  obtain ⟨⟨hrc, hrs, hfr, hlo, hws, hcw⟩, hcode, hini, hy, hlen, hl, hin, hse⟩ := cw
  have hK : Back l R p e below s args y 3 8 (PreOf R mc ms Pc) (PostOf Qc mc ms free) := va_backW (hh := hh) (bytes := bytes) (maxL := maxL) (ret := ret) hM hp.1 hrc hrs hfr hlo hws hcw (fun a' U hW => word_at hW (Or.inl (by first | rfl | simp [Cond.onTables, Cond.keeps, Cond.steady])) hini)
  obtain ⟨hx, hb, hml, ho, -⟩ := S
  obtain ⟨-, ⟨cellB, hcB, hoB, hclB⟩, hPc⟩ := hp
  intro T hT X
  obtain ⟨v, vm₁, ⟨U', l2, c2, s2⟩, hW₁, X', ⟨g', mk, t, L, e1, e2, hq, h1, hL, h2, h3⟩, st⟩ := vx_callVW X hx (C := C) (hh := hh) (bytes := bytes) (maxL := maxL) (ret := ret) ho hl hin hse hcode hy hK (by rw [hT]; exact hcB) hoB hclB hg (hsize.trans hml.symm) (argsL := As) (rest := rest) (fun sig h => hn.trans (hlen sig h)) hstack hW (by rw [hb]; exact hdg)
    (fun vm₁ hW₁ => ⟨hf.1, hf.2, hPc (T.setVm vm₁) hT hW₁⟩)
  dsimp only [Pt.U, Pt.locs, Pt.cells, Pt.slots] at X' e1 e2 h1 h2 h3 st
  subst h1; subst h2; subst h3
  exact ⟨v, (T.setVm vm₁).calling g' mk (Value.ref b :: As).toArray, t, U', L, hT, X', hL, e1, e2, hq, st⟩
section
variable {y : MethodName} {bytes cc : ByteArray} {maxL nL mc ms n index : Nat} {ret : Option FieldType} {ws : List Cond} {rm : Room} {Pc : Array Value → State → Prop} {Qc : Array Value → State → Outcome → State → Prop} {XC : String → State → State → Prop} {free : Addr → Prop} {Ts : List Cond} {own C : String} {b : Addr} {As rest : List Value} {g : JFrame}
theorem vx_runVX {hh : List (Nat × Nat × Nat × Nat)} (S : CallFix p m c cc nL s args Ts own) (hM : vx_Met l y ws rm Pc Qc XC mc ms free) (cw : vx_CVW R s args own C index y bytes maxL ret hh ws rm mc ms n) (hp : PreV s H C b Pc As)
    (hg : g.method = m) (hn : As.length = n) (hsize : g.locals.size = nL) (hstack : g.stack = As.reverse ++ .ref b :: rest) (hW : 2 * g.monitorRoom + (rest.map fun v => v.category).sum ≤ 8) (hdg : decode cc g.pc = .ok (.invokevirtual index, 3)) (hf : cells + mc ≤ R.cells ∧ slots + ms ≤ R.slots) :
    vx_Run p l e R s m args below meth c H locs cells slots mc ms g rest (Qc (Value.ref b :: As).toArray) XC free := by
  obtain ⟨⟨hrc, hrs, hfr, hlo, hws, hcw⟩, hcode, hini, hy, hlen, hl, hin, hse⟩ := cw
  have hK : vx_Back l R p e below s args y 3 8 (PreOf R mc ms Pc) (PostOf Qc mc ms free) (vx_Post XC mc ms free) := vx_backW (hh := hh) (bytes := bytes) (maxL := maxL) (ret := ret) hM hp.1 hrc hrs hfr hlo hws hcw (fun a' U hW => word_at hW (Or.inl (by first | rfl | simp [Cond.onTables, Cond.keeps, Cond.steady])) hini)
  obtain ⟨hx, hb, hml, ho, -⟩ := S
  obtain ⟨-, ⟨cellB, hcB, hoB, hclB⟩, hPc⟩ := hp
  intro T hT X
  rcases vx_callVX X hx (C := C) (hh := hh) (bytes := bytes) (maxL := maxL) (ret := ret) ho hl hin hse hcode hy hK (by rw [hT]; exact hcB) hoB hclB hg (hsize.trans hml.symm) (argsL := As) (rest := rest) (fun sig h => hn.trans (hlen sig h)) hstack hW (by rw [hb]; exact hdg)
    (fun vm₁ hW₁ => ⟨hf.1, hf.2, hPc (T.setVm vm₁) hT hW₁⟩) with ⟨v, vm₁, ⟨U', l2, c2, s2⟩, hW₁, X', ⟨g', mk, t, L, e1, e2, hq, h1, hL, h2, h3⟩, st⟩ | ⟨q, vm₁, ⟨U', l2, c2, s2⟩, hW₁, X', ⟨g', mk, t, L, E, ce, e1, e2, hq, hce, hcv, hcl, h1, hL, h2, h3⟩, st⟩
  · dsimp only [Pt.U, Pt.locs, Pt.cells, Pt.slots] at X' e1 e2 h1 h2 h3 st
    subst h1; subst h2; subst h3
    exact Or.inl ⟨v, (T.setVm vm₁).calling g' mk (Value.ref b :: As).toArray, t, U', L, hT, X', hL, e1, e2, hq, st⟩
  · dsimp only [Pt.U, Pt.locs, Pt.cells, Pt.slots] at X' e1 e2 h1 h2 h3 st hcl
    subst h1; subst h2; subst h3
    exact Or.inr ⟨q, (T.setVm vm₁).calling g' mk (Value.ref b :: As).toArray, t, U', L, E, ce, hT, X', hL, e1, e2, hq, hce, hcv, vx_cls hW₁ hcl, st⟩
theorem vx_runSX {hh : List (Nat × Nat × Nat × Nat)} (S : CallFix p m c cc nL s args Ts own) (hM : vx_Met l y ws rm Pc Qc XC mc ms free) (cw : vx_CSW R s args own index y bytes maxL ret hh ws rm mc ms n) (hp : PreS s H Pc As)
    (hg : g.method = m) (hn : As.length = n) (hsize : g.locals.size = nL) (hstack : g.stack = As.reverse ++ rest) (hW : 2 * g.monitorRoom + (rest.map fun v => v.category).sum ≤ 8) (hdg : decode cc g.pc = .ok (.invokestatic index, 3)) (hf : cells + mc ≤ R.cells ∧ slots + ms ≤ R.slots) :
    vx_Run p l e R s m args below meth c H locs cells slots mc ms g rest (Qc As.toArray) XC free := by
  obtain ⟨⟨hrc, hrs, hfr, hlo, hws, hcw⟩, hcode, hini, hy, hlen, hl, hstt⟩ := cw
  have hK : vx_Back l R p e below s args y 3 8 (PreOf R mc ms Pc) (PostOf Qc mc ms free) (vx_Post XC mc ms free) := vx_backW (hh := hh) (bytes := bytes) (maxL := maxL) (ret := ret) hM hp.1 hrc hrs hfr hlo hws hcw (fun a' U hW => word_at hW (Or.inl (by first | rfl | simp [Cond.onTables, Cond.keeps, Cond.steady])) hini)
  obtain ⟨hx, hb, hml, ho, -⟩ := S
  intro T hT X
  rcases vx_callSX X hx (hh := hh) (bytes := bytes) (maxL := maxL) (ret := ret) ho hl hstt hini hcode hy hK hg (hsize.trans hml.symm) (argsL := As) (rest := rest) (fun sig h => hn.trans (hlen sig h)) hstack hW (by rw [hb]; exact hdg)
    (fun vm₁ hW₁ => ⟨hf.1, hf.2, hp.2 (T.setVm vm₁) hT hW₁⟩) with ⟨v, vm₁, ⟨U', l2, c2, s2⟩, hW₁, X', ⟨g', mk, t, L, e1, e2, hq, h1, hL, h2, h3⟩, st⟩ | ⟨q, vm₁, ⟨U', l2, c2, s2⟩, hW₁, X', ⟨g', mk, t, L, E, ce, e1, e2, hq, hce, hcv, hcl, h1, hL, h2, h3⟩, st⟩
  · dsimp only [Pt.U, Pt.locs, Pt.cells, Pt.slots] at X' e1 e2 h1 h2 h3 st
    subst h1; subst h2; subst h3
    exact Or.inl ⟨v, (T.setVm vm₁).calling g' mk As.toArray, t, U', L, hT, X', hL, e1, e2, hq, st⟩
  · dsimp only [Pt.U, Pt.locs, Pt.cells, Pt.slots] at X' e1 e2 h1 h2 h3 st hcl
    subst h1; subst h2; subst h3
    exact Or.inr ⟨q, (T.setVm vm₁).calling g' mk As.toArray, t, U', L, E, ce, hT, X', hL, e1, e2, hq, hce, hcv, vx_cls hW₁ hcl, st⟩
end
end VXH
theorem vx_ofWH {l : Launch} {y : MethodName} {ws ws' : List Cond} {rm : Room} {Pc : Array Value → State → Prop} {Qc : Array Value → State → Outcome → State → Prop} {XC : String → State → State → Prop} {mc ms : Nat} {free : Addr → Prop} {cc : ByteArray} {maxL : Nat} {ret : Option FieldType} {hh : List (Nat × Nat × Nat × Nat)}
    (hy : plainName y.cls = true) (hw : ws = Cond.codeWith y cc maxL ret hh :: ws')
    (body : ∀ p e s m args below meth c s₁, BodyLoose p l y (headSpec ws rm) cc maxL ret e s m args below meth c s₁ → c.maxLocals = maxL → Pc args s →
      W p l e (headSpec ws rm).room s m args below meth c s.heap [] 0 0 (vx_MQ below Qc XC args s mc ms free) (entryFrame m args maxL)) : vx_Met l y ws rm Pc Qc XC mc ms free := by
  refine MetFree.of_bodyS (code := cc) (maxLocals := maxL) (ret := ret) hy ?_ ?_
  · intro args s m h hn
    obtain ⟨m9, meth, c, hn9, h1, h2, h3, h4, -, h5, h6, -⟩ := Cond.codeWith_spec (atoms_spec (ws := ws) h _ (by rw [hw]; exact List.mem_cons_self))
    cases hn.symm.trans hn9
    exact ⟨meth, c, h1, h2, h3, h4, h5, h6⟩
  · intro p e s m args below meth c s₁ B hml hP _
    have hh0 : s₁.heap = s.heap := by rw [B.state]; rfl
    obtain ⟨t, a1, o, b1, b2, b3⟩ := body p e s m args below meth c s₁ B hml hP s₁ hh0 (Stand.of_body B)
    exact ⟨t, o, a1, b1, b2, b3⟩
/-! ===== END ===== -/
end
section
/-! ===== the program's own tables, laid by wip/mm/gen02.py out of claim/Statement.lean ===== -/
abbrev mm_W : Type := List va_E
abbrev mm_Ent : Type := Instr × Nat × Nat × Nat × Nat
abbrev mm_Ln : Type := Nat × mm_Ent × List Nat
abbrev mm_Mt : Type := MethodName × ByteArray × Nat × Option FieldType × List (Nat × Nat × Nat × Nat)
abbrev mm_Xa : Type := Nat → Option (Nat × Nat × (Nat → Value))
def md_Tg : List Jvm.Cond := (k2_sels lw_privs ++ tables_1).filter goodWord
def md_tb : Nat → List Jvm.Cond
  | 0 => k2_sels lw_privs
  | 1 => tables_1_1
  | 2 => tables_1_2
  | 3 => tables_1_3
  | 4 => tables_1_4
  | 5 => tables_1_5
  | 6 => tables_1_6
  | 7 => tables_1_7
  | 8 => tables_1_8
  | 9 => tables_1_9
  | 10 => tables_1_10
  | _ => []
def md_F0 : u_T := fun k => match k with
  | 0 => ("PaintBank", "text", "LPaintBank$Text;", true)
  | 1 => ("PaintBank", "setup", "LPaintBank$Setup;", true)
  | 2 => ("PaintBank", "reader", "LPaintBank$SetupReader;", true)
  | 3 => ("PaintBank", "line", "LPaintBank$Line;", true)
  | 4 => ("PaintBank", "lookout", "LPaintBank$Line;", true)
  | 5 => ("PaintBank", "unloading", "LPaintBank$Unloading;", true)
  | 6 => ("PaintBank", "exchange", "LPaintBank$Exchange;", true)
  | 7 => ("PaintBank", "script", "LPaintBank$Script;", true)
  | 8 => ("PaintBank", "history", "LPaintBank$History;", true)
  | 9 => ("PaintBank", "latest", "LPaintBank$Report;", true)
  | 10 => ("PaintBank", "savedSetup", "LPaintBank$Setup;", true)
  | 11 => ("PaintBank", "savedLine", "LPaintBank$Line;", true)
  | _ => ("PaintBank", "saved", "Z", false)
def md_F1 : u_T := fun k => match k with
  | 0 => ("PaintBank$Text", "bytes", "[B", true)
  | 1 => ("PaintBank$Text", "length", "I", false)
  | 2 => ("PaintBank$Text", "errorCode", "I", false)
  | 3 => ("PaintBank$Text", "errorPosition", "I", false)
  | 4 => ("PaintBank$Text", "at", "I", false)
  | 5 => ("PaintBank$Text", "kind", "I", false)
  | 6 => ("PaintBank$Text", "start", "I", false)
  | 7 => ("PaintBank$Text", "number", "I", false)
  | 8 => ("PaintBank$Text", "letters", "J", false)
  | _ => ("PaintBank$Text", "word", "LPaintBank$Word;", false)
def md_F2 : u_T := fun k => match k with
  | 0 => ("PaintBank$Setup", "colors", "I", false)
  | 1 => ("PaintBank$Setup", "lanes", "I", false)
  | 2 => ("PaintBank$Setup", "cars", "I", false)
  | 3 => ("PaintBank$Setup", "ahead", "I", false)
  | 4 => ("PaintBank$Setup", "behind", "I", false)
  | 5 => ("PaintBank$Setup", "batch", "I", false)
  | 6 => ("PaintBank$Setup", "purgePrice", "I", false)
  | 7 => ("PaintBank$Setup", "reworkRoom", "I", false)
  | 8 => ("PaintBank$Setup", "delay", "I", false)
  | 9 => ("PaintBank$Setup", "span", "I", false)
  | 10 => ("PaintBank$Setup", "colorName", "[J", true)
  | 11 => ("PaintBank$Setup", "changePrice", "[I", true)
  | 12 => ("PaintBank$Setup", "laneRoom", "[I", true)
  | 13 => ("PaintBank$Setup", "carColor", "[I", true)
  | 14 => ("PaintBank$Setup", "carBody", "[I", true)
  | _ => ("PaintBank$Setup", "carBad", "[I", true)
def md_F3 : u_T := fun k => match k with
  | 0 => ("PaintBank$SetupReader", "draft", "LPaintBank$Setup;", true)
  | 1 => ("PaintBank$SetupReader", "text", "LPaintBank$Text;", true)
  | 2 => ("PaintBank$SetupReader", "windowSeen", "Z", false)
  | 3 => ("PaintBank$SetupReader", "batchSeen", "Z", false)
  | 4 => ("PaintBank$SetupReader", "reworkSeen", "Z", false)
  | _ => ("PaintBank$SetupReader", "spanSeen", "Z", false)
def md_F4 : u_T := fun k => match k with
  | 0 => ("PaintBank$Line", "setup", "LPaintBank$Setup;", true)
  | 1 => ("PaintBank$Line", "color", "[I", true)
  | 2 => ("PaintBank$Line", "failures", "[I", true)
  | 3 => ("PaintBank$Line", "lanes", "[LPaintBank$Row;", true)
  | 4 => ("PaintBank$Line", "rework", "LPaintBank$Row;", true)
  | 5 => ("PaintBank$Line", "readyTimes", "LPaintBank$Row;", true)
  | 6 => ("PaintBank$Line", "out", "LPaintBank$Row;", true)
  | 7 => ("PaintBank$Line", "entered", "I", false)
  | 8 => ("PaintBank$Line", "hose", "I", false)
  | 9 => ("PaintBank$Line", "run", "I", false)
  | 10 => ("PaintBank$Line", "time", "I", false)
  | 11 => ("PaintBank$Line", "changes", "I", false)
  | 12 => ("PaintBank$Line", "purges", "I", false)
  | 13 => ("PaintBank$Line", "cost", "I", false)
  | 14 => ("PaintBank$Line", "paintings", "[I", true)
  | 15 => ("PaintBank$Line", "painted", "I", false)
  | _ => ("PaintBank$Line", "edits", "I", false)
def md_F5 : u_T := fun k => match k with
  | 0 => ("PaintBank$Row", "numbers", "[I", true)
  | _ => ("PaintBank$Row", "count", "I", false)
def md_F6 : u_T := fun k => match k with
  | 0 => ("PaintBank$Unloading", "setup", "LPaintBank$Setup;", true)
  | 1 => ("PaintBank$Unloading", "line", "LPaintBank$Line;", true)
  | 2 => ("PaintBank$Unloading", "least", "[I", true)
  | 3 => ("PaintBank$Unloading", "choice", "[B", true)
  | 4 => ("PaintBank$Unloading", "taken", "[I", true)
  | 5 => ("PaintBank$Unloading", "weight", "[I", true)
  | 6 => ("PaintBank$Unloading", "total", "I", false)
  | 7 => ("PaintBank$Unloading", "plannedAt", "I", false)
  | 8 => ("PaintBank$Unloading", "best", "LPaintBank$Row;", true)
  | 9 => ("PaintBank$Unloading", "allowed", "Z", false)
  | 10 => ("PaintBank$Unloading", "completed", "Z", false)
  | 11 => ("PaintBank$Unloading", "price", "I", false)
  | _ => ("PaintBank$Unloading", "colorChanges", "I", false)
def md_F7 : u_T := fun k => match k with
  | 0 => ("PaintBank$Exchange", "setup", "LPaintBank$Setup;", true)
  | 1 => ("PaintBank$Exchange", "line", "LPaintBank$Line;", true)
  | 2 => ("PaintBank$Exchange", "memo", "[I", true)
  | 3 => ("PaintBank$Exchange", "jobsFor", "[I", true)
  | 4 => ("PaintBank$Exchange", "count", "I", false)
  | 5 => ("PaintBank$Exchange", "plannedAt", "I", false)
  | 6 => ("PaintBank$Exchange", "best", "LPaintBank$Row;", true)
  | _ => ("PaintBank$Exchange", "colorChanges", "I", false)
def md_F8 : u_T := fun k => match k with
  | 0 => ("PaintBank$Script", "text", "LPaintBank$Text;", true)
  | 1 => ("PaintBank$Script", "line", "LPaintBank$Line;", true)
  | 2 => ("PaintBank$Script", "unloading", "LPaintBank$Unloading;", true)
  | 3 => ("PaintBank$Script", "exchange", "LPaintBank$Exchange;", true)
  | 4 => ("PaintBank$Script", "words", "[LPaintBank$Word;", true)
  | 5 => ("PaintBank$Script", "numbers", "[I", true)
  | 6 => ("PaintBank$Script", "timesLeft", "[I", true)
  | 7 => ("PaintBank$Script", "openRepeats", "[I", true)
  | 8 => ("PaintBank$Script", "nesting", "I", false)
  | 9 => ("PaintBank$Script", "commands", "I", false)
  | _ => ("PaintBank$Script", "size", "I", false)
def md_F9 : u_T := fun k => match k with
  | 0 => ("PaintBank$History", "states", "[LPaintBank$Line;", true)
  | 1 => ("PaintBank$History", "next", "I", false)
  | _ => ("PaintBank$History", "count", "I", false)
def md_F10 : u_T := fun k => match k with
  | 0 => ("PaintBank$Report", "bytes", "[B", true)
  | _ => ("PaintBank$Report", "length", "I", false)
def md_F11 : u_T := fun k => match k with
  | 0 => ("PaintBankModel", "code", "I", false)
  | 1 => ("PaintBankModel", "buffer", "[I", true)
  | 2 => ("PaintBankModel", "filled", "I", false)
  | 3 => ("PaintBankModel", "bytes", "I", false)
  | 4 => ("PaintBankModel", "at", "I", false)
  | 5 => ("PaintBankModel", "place", "I", false)
  | 6 => ("PaintBankModel", "sort", "I", false)
  | 7 => ("PaintBankModel", "value", "I", false)
  | 8 => ("PaintBankModel", "error", "I", false)
  | 9 => ("PaintBankModel", "errorPlace", "I", false)
  | 10 => ("PaintBankModel", "toldError", "I", false)
  | 11 => ("PaintBankModel", "toldPlace", "I", false)
  | 12 => ("PaintBankModel", "word", "J", false)
  | 13 => ("PaintBankModel", "now", "[I", true)
  | 14 => ("PaintBankModel", "read", "[I", true)
  | 15 => ("PaintBankModel", "aside", "[I", true)
  | 16 => ("PaintBankModel", "kept", "[I", true)
  | 17 => ("PaintBankModel", "past", "[I", true)
  | 18 => ("PaintBankModel", "names", "[J", true)
  | 19 => ("PaintBankModel", "readNames", "[J", true)
  | 20 => ("PaintBankModel", "keptNames", "[J", true)
  | 21 => ("PaintBankModel", "hasKept", "Z", false)
  | 22 => ("PaintBankModel", "undos", "I", false)
  | 23 => ("PaintBankModel", "hasWindow", "Z", false)
  | 24 => ("PaintBankModel", "hasBatch", "Z", false)
  | 25 => ("PaintBankModel", "hasRework", "Z", false)
  | 26 => ("PaintBankModel", "hasSpan", "Z", false)
  | 27 => ("PaintBankModel", "statements", "I", false)
  | 28 => ("PaintBankModel", "spare", "I", false)
  | 29 => ("PaintBankModel", "least", "[I", true)
  | 30 => ("PaintBankModel", "taken", "[I", true)
  | 31 => ("PaintBankModel", "unloaded", "[I", true)
  | 32 => ("PaintBankModel", "unloads", "I", false)
  | 33 => ("PaintBankModel", "fewest", "[I", true)
  | 34 => ("PaintBankModel", "stands", "[Z", true)
  | 35 => ("PaintBankModel", "comes", "[Z", true)
  | 36 => ("PaintBankModel", "swapped", "[I", true)
  | 37 => ("PaintBankModel", "script", "[I", true)
  | 38 => ("PaintBankModel", "one", "[I", true)
  | 39 => ("PaintBankModel", "begun", "[I", true)
  | 40 => ("PaintBankModel", "laps", "[I", true)
  | 41 => ("PaintBankModel", "before", "[I", true)
  | 42 => ("PaintBankModel", "scripted", "I", false)
  | 43 => ("PaintBankModel", "wordsHad", "I", false)
  | 44 => ("PaintBankModel", "open", "I", false)
  | 45 => ("PaintBankModel", "touched", "Z", false)
  | 46 => ("PaintBankModel", "told", "[I", true)
  | 47 => ("PaintBankModel", "tellings", "I", false)
  | _ => ("PaintBankModel", "hasReport", "Z", false)
def md_cl : List vw_C := [("PaintBank", md_F0, 13), ("PaintBank$Text", md_F1, 10), ("PaintBank$Setup", md_F2, 16), ("PaintBank$SetupReader", md_F3, 6), ("PaintBank$Line", md_F4, 17), ("PaintBank$Row", md_F5, 2), ("PaintBank$Unloading", md_F6, 13), ("PaintBank$Exchange", md_F7, 8), ("PaintBank$Script", md_F8, 11), ("PaintBank$History", md_F9, 3), ("PaintBank$Report", md_F10, 2), ("PaintBankModel", md_F11, 49)]
def md_dfL : List (List Value) := [[.null, .null, .null, .null, .null, .null, .null, .null, .null, .null, .null, .null, .int 0],
  [.null, .int 0, .int 0, .int 0, .int 0, .int 0, .int 0, .int 0, .long 0, .null],
  [.int 0, .int 0, .int 0, .int 0, .int 0, .int 0, .int 0, .int 0, .int 0, .int 0, .null, .null, .null, .null, .null, .null],
  [.null, .null, .int 0, .int 0, .int 0, .int 0],
  [.null, .null, .null, .null, .null, .null, .null, .int 0, .int 0, .int 0, .int 0, .int 0, .int 0, .int 0, .null, .int 0, .int 0],
  [.null, .int 0],
  [.null, .null, .null, .null, .null, .null, .int 0, .int 0, .null, .int 0, .int 0, .int 0, .int 0],
  [.null, .null, .null, .null, .int 0, .int 0, .null, .int 0],
  [.null, .null, .null, .null, .null, .null, .null, .null, .int 0, .int 0, .int 0],
  [.null, .int 0, .int 0],
  [.null, .int 0],
  [.int 0, .null, .int 0, .int 0, .int 0, .int 0, .int 0, .int 0, .int 0, .int 0, .int 0, .int 0, .long 0, .null, .null, .null, .null, .null, .null, .null, .null, .int 0, .int 0, .int 0, .int 0, .int 0, .int 0, .int 0, .int 0, .null, .null, .null, .int 0, .null, .null, .null, .null, .null, .null, .null, .null, .null, .int 0, .int 0, .int 0, .int 0, .null, .int 0, .int 0]]
def md_df (i : Nat) : List Value := (md_dfL[i]?).getD []
def md_ty : Nat → FieldType
  | 0 => .int
  | 1 => .long
  | 2 => .byte
  | 3 => .boolean
  | 4 => .object "PaintBank$Row"
  | 5 => .object "PaintBank$Line"
  | _ => .object "PaintBank$Word"
def md_ac : Nat → Nat
  | 4 => 5
  | 5 => 4
  | _ => 1000
def md_ne : Nat := 21
def md_stL : List (String × String × String × Value) := [("PaintBank$Word", "COLOR", "LPaintBank$Word;", .ref 1000001),
  ("PaintBank$Word", "CHANGE", "LPaintBank$Word;", .ref 1000002),
  ("PaintBank$Word", "LANE", "LPaintBank$Word;", .ref 1000003),
  ("PaintBank$Word", "CAR", "LPaintBank$Word;", .ref 1000004),
  ("PaintBank$Word", "BODY", "LPaintBank$Word;", .ref 1000005),
  ("PaintBank$Word", "BAD", "LPaintBank$Word;", .ref 1000006),
  ("PaintBank$Word", "WINDOW", "LPaintBank$Word;", .ref 1000007),
  ("PaintBank$Word", "BATCH", "LPaintBank$Word;", .ref 1000008),
  ("PaintBank$Word", "PURGE", "LPaintBank$Word;", .ref 1000009),
  ("PaintBank$Word", "REWORK", "LPaintBank$Word;", .ref 1000010),
  ("PaintBank$Word", "DELAY", "LPaintBank$Word;", .ref 1000011),
  ("PaintBank$Word", "SPAN", "LPaintBank$Word;", .ref 1000012),
  ("PaintBank$Word", "ENTER", "LPaintBank$Word;", .ref 1000013),
  ("PaintBank$Word", "LEAVE", "LPaintBank$Word;", .ref 1000014),
  ("PaintBank$Word", "BACK", "LPaintBank$Word;", .ref 1000015),
  ("PaintBank$Word", "WAIT", "LPaintBank$Word;", .ref 1000016),
  ("PaintBank$Word", "STEP", "LPaintBank$Word;", .ref 1000017),
  ("PaintBank$Word", "UNLOAD", "LPaintBank$Word;", .ref 1000018),
  ("PaintBank$Word", "SWAP", "LPaintBank$Word;", .ref 1000019),
  ("PaintBank$Word", "REPEAT", "LPaintBank$Word;", .ref 1000020),
  ("PaintBank$Word", "OTHER", "LPaintBank$Word;", .ref 1000021),
  ("PaintBank$Word", "ALL", "[LPaintBank$Word;", .ref 1000022),
  ("PaintBank$1", "$SwitchMap$PaintBank$Word", "[I", .ref 1000023),
  ("java/lang/String", "COMPACT_STRINGS", "Z", .int 1)]
def md_st (i : Nat) : Value := ((md_stL[i]?).map (fun q => q.2.2.2)).getD .null
def md_stn (i : Nat) : String × String × String := ((md_stL[i]?).map (fun q => (q.1, q.2.1, q.2.2.1))).getD ("", "", "")
def md_nst : Nat := 24
def md_sq : List (String × String × String) := [("jdk/internal/util/Preconditions", "SIOOBE_FORMATTER", "Ljava/util/function/BiFunction;")]
def md_xcL : List (Option Nat) := [none, some 0, some 0, some 0, some 0, some 0, some 0, some 0, some 0, some 0, some 0, some 0, some 0, some 0, some 0, some 0, some 0, some 0, some 0, some 0, some 0, some 0, none, none, some 1, some 1]
def md_xc (i : Nat) : Option Nat := (md_xcL[i]?).getD none
def md_xcn : Nat → String
  | 0 => "PaintBank$Word"
  | _ => "java/lang/String"
def md_xfL : List (String × String × String) := [("PaintBank$Word", "letters", "J"), ("PaintBank$Word", "isCommand", "Z"), ("PaintBank$Word", "least", "I"), ("PaintBank$Word", "greatest", "I"), ("java/lang/Enum", "ordinal", "I"), ("java/lang/String", "value", "[B"), ("java/lang/String", "coder", "B")]
def md_xf (i : Nat) : String × String × String := (md_xfL[i]?).getD ("", "", "")
def md_xoL : List (List (Option Value)) := [[],
  [some (.long 427071139698), some (.int 0), some (.int 0), some (.int 0), some (.int 0)],
  [some (.long 109299962373989), some (.int 0), some (.int 0), some (.int 0), some (.int 1)],
  [some (.long 1818324581), some (.int 0), some (.int 0), some (.int 0), some (.int 2)],
  [some (.long 6513010), some (.int 0), some (.int 0), some (.int 0), some (.int 3)],
  [some (.long 1651467385), some (.int 0), some (.int 0), some (.int 0), some (.int 4)],
  [some (.long 6447460), some (.int 0), some (.int 0), some (.int 0), some (.int 5)],
  [some (.long 131294707347319), some (.int 0), some (.int 0), some (.int 0), some (.int 6)],
  [some (.long 422541812584), some (.int 0), some (.int 0), some (.int 0), some (.int 7)],
  [some (.long 483006768997), some (.int 0), some (.int 0), some (.int 0), some (.int 8)],
  [some (.long 125780121055851), some (.int 0), some (.int 0), some (.int 0), some (.int 9)],
  [some (.long 431198331257), some (.int 0), some (.int 0), some (.int 0), some (.int 10)],
  [some (.long 1936744814), some (.int 0), some (.int 0), some (.int 0), some (.int 11)],
  [some (.long 435644818802), some (.int 1), some (.int 0), some (.int 3), some (.int 12)],
  [some (.long 465557354085), some (.int 1), some (.int 0), some (.int 3), some (.int 13)],
  [some (.long 1650549611), some (.int 1), some (.int 0), some (.int 3), some (.int 14)],
  [some (.long 2002872692), some (.int 1), some (.int 1), some (.int 99), some (.int 15)],
  [some (.long 1937007984), some (.int 1), some (.int 1), some (.int 99), some (.int 16)],
  [some (.long 129117126091108), some (.int 1), some (.int 0), some (.int 0), some (.int 17)],
  [some (.long 1937203568), some (.int 1), some (.int 0), some (.int 0), some (.int 18)],
  [some (.long 125780002955636), some (.int 1), some (.int 1), some (.int 20), some (.int 19)],
  [some (.long 0), some (.int 0), some (.int 0), some (.int 0), some (.int 20)],
  [],
  [],
  [none, none, none, none, none, some (.ref 1000026), some (.int 0)],
  [none, none, none, none, none, some (.ref 1000027), some (.int 0)]]
def md_xo (i k : Nat) : Option Value := ((((md_xoL[i]?).getD [])[k]?).getD none)
def md_xaA : List Value := [.ref 1000001, .ref 1000002, .ref 1000003, .ref 1000004, .ref 1000005, .ref 1000006, .ref 1000007, .ref 1000008, .ref 1000009, .ref 1000010, .ref 1000011, .ref 1000012, .ref 1000013, .ref 1000014, .ref 1000015, .ref 1000016, .ref 1000017, .ref 1000018, .ref 1000019, .ref 1000020, .ref 1000021]
def md_xaS : List Value := [.int 1, .int 0, .int 2, .int 3, .int 0, .int 0, .int 4, .int 5, .int 0, .int 6, .int 0, .int 7, .int 8, .int 9, .int 10, .int 11, .int 12, .int 13, .int 14, .int 0, .int 0]
def md_xaT0 : List Value := [.int 108, .int 97, .int 110, .int 101, .int 32]
def md_xaT1 : List Value := [.int 111, .int 117, .int 116]
def md_xaL : List (Option (Nat × Nat × (Nat → Value))) := [none, none, none, none, none, none, none, none, none, none, none, none, none, none, none, none, none, none, none, none, none, none, some (6, 21, fun j => md_xaA.getD j .null), some (0, 21, fun j => md_xaS.getD j .null), none, none, some (2, 5, fun j => md_xaT0.getD j .null), some (2, 3, fun j => md_xaT1.getD j .null)]
def md_xa (sc : Nat × (Nat → Int32)) : mm_Xa := fun i => if i = 0 then some (0, sc.1, fun j => .int (sc.2 j)) else (md_xaL[i]?).getD none
def md_sr : List (String × Nat × String × Nat) := [("PaintBank$Report", 24, "lane ", 24),
  ("PaintBank$Report", 43, "out", 25),
  ("PaintBank", 99, "the buffer is full", 28),
  ("PaintBank", 110, "not a length to truncate to", 29),
  ("PaintBank", 117, "the setup has an error", 30),
  ("PaintBank", 134, "the script has an error", 31),
  ("PaintBank", 184, "no such setting", 32),
  ("PaintBank", 188, "no such color", 33),
  ("PaintBank", 374, "no such lane", 34),
  ("PaintBank", 376, "no such car", 35),
  ("PaintBank", 253, "the car is not out", 36),
  ("PaintBank", 378, "not a number of steps to look ahead", 37),
  ("PaintBank", 347, "no such painting", 38),
  ("PaintBank", 349, "no such number of a painting", 39),
  ("PaintBank", 359, "no such byte of a report", 40),
  ("PaintBank", 372, "nothing was saved", 41)]
def md_enL : List String := ["java/lang/IllegalStateException", "java/lang/IllegalArgumentException", "java/lang/IndexOutOfBoundsException"]
def md_en (i : Nat) : String := (md_enL[i]?).getD ""
def md_gw : List Jvm.Cond := [.castable "java/lang/IllegalStateException" "java/lang/IllegalStateException", .castable "java/lang/IllegalArgumentException" "java/lang/IllegalArgumentException", .castable "java/lang/IndexOutOfBoundsException" "java/lang/IndexOutOfBoundsException"]
def md_nw : List (String × Nat × MethodName × String) := [("PaintBank", 11, ⟨"PaintBank$Text", "<init>", "()V"⟩, "PaintBank"), ("PaintBank$Line", 24, ⟨"PaintBank$Row", "<init>", "()V"⟩, "PaintBank"), ("PaintBank$Unloading", 31, ⟨"PaintBank$Row", "<init>", "()V"⟩, "PaintBank"), ("PaintBank$Exchange", 24, ⟨"PaintBank$Row", "<init>", "()V"⟩, "PaintBank"), ("PaintBank", 78, ⟨"PaintBank$Report", "<init>", "()V"⟩, "PaintBank")]
def md_ao : List String := ["PaintBank$Row", "PaintBank$Word", "PaintBank$Line"]
def md_nc : List (String × String) := [("java/lang/IllegalArgumentException", "java/lang/IllegalStateException"), ("java/lang/IndexOutOfBoundsException", "java/lang/IllegalStateException"), ("java/lang/IllegalStateException", "java/lang/IllegalArgumentException"), ("java/lang/IndexOutOfBoundsException", "java/lang/IllegalArgumentException"), ("java/lang/IllegalStateException", "java/lang/IndexOutOfBoundsException"), ("java/lang/IllegalArgumentException", "java/lang/IndexOutOfBoundsException")]
def md_hdL : List (Nat × Nat × Nat × Nat) := [(1, 11, 0, 19), (2, 4, 1, 12), (3, 3, 1, 11), (4, 3, 1, 11), (5, 4, 1, 12), (6, 4, 2, 12), (7, 4, 2, 12), (8, 4, 2, 12), (9, 4, 2, 12), (10, 4, 2, 12), (11, 4, 2, 12), (12, 4, 2, 12), (13, 5, 2, 13), (14, 4, 0, 15), (14, 4, 2, 12), (15, 4, 2, 19), (16, 4, 2, 12), (17, 4, 2, 12), (18, 4, 2, 12), (19, 4, 1, 12), (20, 4, 1, 12), (21, 4, 2, 12), (22, 4, 2, 12), (23, 5, 1, 17), (23, 5, 2, 13), (24, 4, 2, 12), (25, 3, 0, 11)]
def md_hd (j pc n : Nat) : Option Nat := (md_hdL.find? (fun q => q.1 == j && q.2.1 == pc && q.2.2.1 == n)).map (fun q => q.2.2.2)
def md_thl : List (Nat × Nat × Nat × Nat) := [(61, 16, 97, 0), (62, 15, 108, 1), (63, 21, 108, 1), (64, 20, 108, 1), (65, 136, 108, 1), (66, 15, 186, 2), (68, 15, 186, 2), (70, 15, 186, 2), (76, 22, 97, 0), (82, 11, 108, 1), (87, 20, 186, 2), (87, 40, 108, 1), (88, 15, 186, 2), (89, 7, 97, 0)]
def md_nM : Nat := 367
def md_MT0 : List mm_Mt := [
  (x, code, maxLocals, ret, []),
  (⟨"PaintBankLaw", "feed", "(LPaintBank;IIIII[J)I"⟩, method_3_code, 8, some Jvm.ClassFile.FieldType.int, [(0, 16, 19, 13)]),
  (⟨"PaintBankLaw", "truncate", "(LPaintBank;I[J)I"⟩, method_4_code, 4, some Jvm.ClassFile.FieldType.int, [(0, 9, 12, 19)]),
  (⟨"PaintBankLaw", "readSetup", "(LPaintBank;[J)I"⟩, method_5_code, 3, some Jvm.ClassFile.FieldType.int, [(0, 8, 11, 19)]),
  (⟨"PaintBankLaw", "runScript", "(LPaintBank;[J)I"⟩, method_6_code, 3, some Jvm.ClassFile.FieldType.int, [(0, 8, 11, 19)]),
  (⟨"PaintBankLaw", "setting", "(LPaintBank;I[J)I"⟩, method_7_code, 4, some Jvm.ClassFile.FieldType.int, [(0, 9, 12, 19)]),
  (⟨"PaintBankLaw", "changeCost", "(LPaintBank;I[J)I"⟩, method_8_code, 4, some Jvm.ClassFile.FieldType.int, [(0, 9, 12, 34)]),
  (⟨"PaintBankLaw", "room", "(LPaintBank;I[J)I"⟩, method_9_code, 4, some Jvm.ClassFile.FieldType.int, [(0, 9, 12, 34)]),
  (⟨"PaintBankLaw", "body", "(LPaintBank;I[J)I"⟩, method_10_code, 4, some Jvm.ClassFile.FieldType.int, [(0, 9, 12, 34)]),
  (⟨"PaintBankLaw", "colorOf", "(LPaintBank;I[J)I"⟩, method_11_code, 4, some Jvm.ClassFile.FieldType.int, [(0, 9, 12, 34)]),
  (⟨"PaintBankLaw", "bad", "(LPaintBank;I[J)I"⟩, method_12_code, 4, some Jvm.ClassFile.FieldType.int, [(0, 9, 12, 34)]),
  (⟨"PaintBankLaw", "where", "(LPaintBank;I[J)I"⟩, method_13_code, 4, some Jvm.ClassFile.FieldType.int, [(0, 9, 12, 34)]),
  (⟨"PaintBankLaw", "laneLength", "(LPaintBank;I[J)I"⟩, method_14_code, 4, some Jvm.ClassFile.FieldType.int, [(0, 9, 12, 34)]),
  (⟨"PaintBankLaw", "inLane", "(LPaintBank;II[J)I"⟩, method_15_code, 5, some Jvm.ClassFile.FieldType.int, [(0, 10, 13, 34)]),
  (⟨"PaintBankLaw", "move", "(LPaintBank;I[J)I"⟩, method_16_code, 4, some Jvm.ClassFile.FieldType.int, [(0, 9, 12, 34), (0, 9, 15, 13)]),
  (⟨"PaintBankLaw", "canLeave", "(LPaintBank;I[J)I"⟩, method_17_code, 4, some Jvm.ClassFile.FieldType.int, [(0, 16, 19, 34)])]
def md_MT1 : List mm_Mt := [
  (⟨"PaintBankLaw", "enter", "(LPaintBank;I[J)I"⟩, method_18_code, 4, some Jvm.ClassFile.FieldType.int, [(0, 9, 12, 34)]),
  (⟨"PaintBankLaw", "leave", "(LPaintBank;I[J)I"⟩, method_19_code, 4, some Jvm.ClassFile.FieldType.int, [(0, 9, 12, 34)]),
  (⟨"PaintBankLaw", "back", "(LPaintBank;I[J)I"⟩, method_20_code, 4, some Jvm.ClassFile.FieldType.int, [(0, 9, 12, 34)]),
  (⟨"PaintBankLaw", "ruleCost", "(LPaintBank;I[J)I"⟩, method_21_code, 4, some Jvm.ClassFile.FieldType.int, [(0, 9, 12, 19)]),
  (⟨"PaintBankLaw", "ruleOut", "(LPaintBank;I[J)I"⟩, method_22_code, 4, some Jvm.ClassFile.FieldType.int, [(0, 9, 12, 19)]),
  (⟨"PaintBankLaw", "stepsToOut", "(LPaintBank;I[J)I"⟩, method_23_code, 4, some Jvm.ClassFile.FieldType.int, [(0, 9, 12, 34)]),
  (⟨"PaintBankLaw", "laneFor", "(LPaintBank;I[J)I"⟩, method_24_code, 4, some Jvm.ClassFile.FieldType.int, [(0, 9, 12, 34)]),
  (⟨"PaintBankLaw", "log", "(LPaintBank;II[J)I"⟩, method_25_code, 5, some Jvm.ClassFile.FieldType.int, [(0, 10, 13, 34), (0, 10, 17, 19)]),
  (⟨"PaintBankLaw", "reportByte", "(LPaintBank;I[J)I"⟩, method_26_code, 4, some Jvm.ClassFile.FieldType.int, [(0, 9, 12, 34)]),
  (⟨"PaintBankLaw", "restore", "(LPaintBank;[J)I"⟩, method_27_code, 3, some Jvm.ClassFile.FieldType.int, [(0, 8, 11, 13)]),
  (⟨"PaintBank", "<init>", "()V"⟩, prog_1_method_1_code, 1, none, []),
  (⟨"PaintBank", "errorCode", "()I"⟩, prog_1_method_6_code, 1, some Jvm.ClassFile.FieldType.int, []),
  (⟨"PaintBank", "errorPosition", "()I"⟩, prog_1_method_7_code, 1, some Jvm.ClassFile.FieldType.int, []),
  (⟨"PaintBank", "kinds", "()I"⟩, prog_1_method_14_code, 3, some Jvm.ClassFile.FieldType.int, []),
  (⟨"PaintBank", "commonest", "()I"⟩, prog_1_method_15_code, 3, some Jvm.ClassFile.FieldType.int, []),
  (⟨"PaintBank", "waiting", "()I"⟩, prog_1_method_17_code, 1, some Jvm.ClassFile.FieldType.int, [])]
def md_MT2 : List mm_Mt := [
  (⟨"PaintBank", "inRework", "(I)I"⟩, prog_1_method_20_code, 2, some Jvm.ClassFile.FieldType.int, []),
  (⟨"PaintBank", "readyIn", "()I"⟩, prog_1_method_21_code, 1, some Jvm.ClassFile.FieldType.int, []),
  (⟨"PaintBank", "outCount", "()I"⟩, prog_1_method_22_code, 1, some Jvm.ClassFile.FieldType.int, []),
  (⟨"PaintBank", "out", "(I)I"⟩, prog_1_method_23_code, 2, some Jvm.ClassFile.FieldType.int, []),
  (⟨"PaintBank", "late", "()I"⟩, prog_1_method_25_code, 3, some Jvm.ClassFile.FieldType.int, []),
  (⟨"PaintBank", "longestBatch", "()I"⟩, prog_1_method_26_code, 1, some Jvm.ClassFile.FieldType.int, []),
  (⟨"PaintBank", "hose", "()I"⟩, prog_1_method_28_code, 1, some Jvm.ClassFile.FieldType.int, []),
  (⟨"PaintBank", "run", "()I"⟩, prog_1_method_29_code, 1, some Jvm.ClassFile.FieldType.int, []),
  (⟨"PaintBank", "time", "()I"⟩, prog_1_method_30_code, 1, some Jvm.ClassFile.FieldType.int, []),
  (⟨"PaintBank", "changes", "()I"⟩, prog_1_method_31_code, 1, some Jvm.ClassFile.FieldType.int, []),
  (⟨"PaintBank", "purges", "()I"⟩, prog_1_method_32_code, 1, some Jvm.ClassFile.FieldType.int, []),
  (⟨"PaintBank", "cost", "()I"⟩, prog_1_method_33_code, 1, some Jvm.ClassFile.FieldType.int, []),
  (⟨"PaintBank", "waits", "()I"⟩, prog_1_method_37_code, 1, some Jvm.ClassFile.FieldType.int, []),
  (⟨"PaintBank", "keptIfDone", "(I)I"⟩, prog_1_method_63_code, 2, some Jvm.ClassFile.FieldType.int, []),
  (⟨"PaintBank", "step", "()I"⟩, prog_1_method_38_code, 1, some Jvm.ClassFile.FieldType.int, []),
  (⟨"PaintBank", "unload", "()I"⟩, prog_1_method_39_code, 2, some Jvm.ClassFile.FieldType.int, [])]
def md_MT3 : List mm_Mt := [
  (⟨"PaintBank", "swap", "()I"⟩, prog_1_method_40_code, 2, some Jvm.ClassFile.FieldType.int, []),
  (⟨"PaintBank", "unloadCost", "()I"⟩, prog_1_method_45_code, 1, some Jvm.ClassFile.FieldType.int, []),
  (⟨"PaintBank", "unloadChanges", "()I"⟩, prog_1_method_46_code, 1, some Jvm.ClassFile.FieldType.int, []),
  (⟨"PaintBank", "unloadLane", "(I)I"⟩, prog_1_method_47_code, 2, some Jvm.ClassFile.FieldType.int, []),
  (⟨"PaintBank", "laneBound", "()I"⟩, prog_1_method_48_code, 1, some Jvm.ClassFile.FieldType.int, []),
  (⟨"PaintBank", "bound", "()I"⟩, prog_1_method_49_code, 1, some Jvm.ClassFile.FieldType.int, []),
  (⟨"PaintBank", "waitingChanges", "()I"⟩, prog_1_method_50_code, 1, some Jvm.ClassFile.FieldType.int, []),
  (⟨"PaintBank", "swapChanges", "()I"⟩, prog_1_method_51_code, 1, some Jvm.ClassFile.FieldType.int, []),
  (⟨"PaintBank", "swapColor", "(I)I"⟩, prog_1_method_52_code, 2, some Jvm.ClassFile.FieldType.int, []),
  (⟨"PaintBank", "logCount", "()I"⟩, prog_1_method_53_code, 1, some Jvm.ClassFile.FieldType.int, []),
  (⟨"PaintBank", "report", "()I"⟩, prog_1_method_55_code, 1, some Jvm.ClassFile.FieldType.int, []),
  (⟨"PaintBank", "undo", "()I"⟩, prog_1_method_57_code, 1, some Jvm.ClassFile.FieldType.int, []),
  (⟨"PaintBank", "save", "()I"⟩, prog_1_method_58_code, 1, some Jvm.ClassFile.FieldType.int, []),
  (⟨"PaintBank", "feed", "(IIIII)I"⟩, prog_1_method_2_code, 6, some Jvm.ClassFile.FieldType.int, []),
  (⟨"PaintBank", "truncate", "(I)I"⟩, prog_1_method_3_code, 2, some Jvm.ClassFile.FieldType.int, []),
  (⟨"PaintBank", "readSetup", "()I"⟩, prog_1_method_4_code, 2, some Jvm.ClassFile.FieldType.int, [])]
def md_MT4 : List mm_Mt := [
  (⟨"PaintBank", "runScript", "()I"⟩, prog_1_method_5_code, 4, some Jvm.ClassFile.FieldType.int, []),
  (⟨"PaintBank", "setting", "(I)I"⟩, prog_1_method_8_code, 2, some Jvm.ClassFile.FieldType.int, []),
  (⟨"PaintBank", "changeCost", "(I)I"⟩, prog_1_method_9_code, 2, some Jvm.ClassFile.FieldType.int, []),
  (⟨"PaintBank", "room", "(I)I"⟩, prog_1_method_10_code, 2, some Jvm.ClassFile.FieldType.int, []),
  (⟨"PaintBank", "checkLane", "(I)V"⟩, prog_1_method_60_code, 2, none, []),
  (⟨"PaintBank", "body", "(I)I"⟩, prog_1_method_11_code, 2, some Jvm.ClassFile.FieldType.int, []),
  (⟨"PaintBank", "checkCar", "(I)V"⟩, prog_1_method_61_code, 2, none, []),
  (⟨"PaintBank", "colorOf", "(I)I"⟩, prog_1_method_12_code, 2, some Jvm.ClassFile.FieldType.int, []),
  (⟨"PaintBank", "bad", "(I)I"⟩, prog_1_method_13_code, 2, some Jvm.ClassFile.FieldType.int, []),
  (⟨"PaintBank", "where", "(I)I"⟩, prog_1_method_16_code, 2, some Jvm.ClassFile.FieldType.int, []),
  (⟨"PaintBank", "laneLength", "(I)I"⟩, prog_1_method_18_code, 2, some Jvm.ClassFile.FieldType.int, []),
  (⟨"PaintBank", "inLane", "(II)I"⟩, prog_1_method_19_code, 3, some Jvm.ClassFile.FieldType.int, []),
  (⟨"PaintBank", "move", "(I)I"⟩, prog_1_method_24_code, 3, some Jvm.ClassFile.FieldType.int, []),
  (⟨"PaintBank", "canLeave", "(I)Z"⟩, prog_1_method_27_code, 2, some Jvm.ClassFile.FieldType.boolean, []),
  (⟨"PaintBank", "enter", "(I)I"⟩, prog_1_method_34_code, 2, some Jvm.ClassFile.FieldType.int, []),
  (⟨"PaintBank", "leave", "(I)I"⟩, prog_1_method_35_code, 2, some Jvm.ClassFile.FieldType.int, [])]
def md_MT5 : List mm_Mt := [
  (⟨"PaintBank", "back", "(I)I"⟩, prog_1_method_36_code, 2, some Jvm.ClassFile.FieldType.int, []),
  (⟨"PaintBank", "ruleCost", "(I)I"⟩, prog_1_method_41_code, 2, some Jvm.ClassFile.FieldType.int, []),
  (⟨"PaintBank", "checkSteps", "(I)V"⟩, prog_1_method_62_code, 1, none, []),
  (⟨"PaintBank", "lookAhead", "(II)I"⟩, prog_1_method_64_code, 4, some Jvm.ClassFile.FieldType.int, []),
  (⟨"PaintBank", "ruleOut", "(I)I"⟩, prog_1_method_42_code, 2, some Jvm.ClassFile.FieldType.int, []),
  (⟨"PaintBank", "stepsToOut", "(I)I"⟩, prog_1_method_43_code, 3, some Jvm.ClassFile.FieldType.int, []),
  (⟨"PaintBank", "laneFor", "(I)I"⟩, prog_1_method_44_code, 2, some Jvm.ClassFile.FieldType.int, []),
  (⟨"PaintBank", "log", "(II)I"⟩, prog_1_method_54_code, 3, some Jvm.ClassFile.FieldType.int, []),
  (⟨"PaintBank", "reportByte", "(I)I"⟩, prog_1_method_56_code, 2, some Jvm.ClassFile.FieldType.int, []),
  (⟨"PaintBank", "restore", "()I"⟩, prog_1_method_59_code, 1, some Jvm.ClassFile.FieldType.int, []),
  (⟨"PaintBank$Word", "spelled", "(J)LPaintBank$Word;"⟩, prog_13_method_6_code, 3, some (Jvm.ClassFile.FieldType.object "PaintBank$Word"), []),
  (⟨"PaintBank$Text", "<init>", "()V"⟩, prog_11_method_1_code, 1, none, []),
  (⟨"PaintBank$Text", "append", "(I)V"⟩, prog_11_method_2_code, 3, none, []),
  (⟨"PaintBank$Text", "rewind", "()V"⟩, prog_11_method_3_code, 1, none, []),
  (⟨"PaintBank$Text", "advance", "()V"⟩, prog_11_method_10_code, 1, none, []),
  (⟨"PaintBank$Text", "isBlank", "(B)Z"⟩, prog_11_method_14_code, 1, some Jvm.ClassFile.FieldType.boolean, [])]
def md_MT6 : List mm_Mt := [
  (⟨"PaintBank$Text", "isLetter", "(B)Z"⟩, prog_11_method_15_code, 1, some Jvm.ClassFile.FieldType.boolean, []),
  (⟨"PaintBank$Text", "readWord", "()V"⟩, prog_11_method_11_code, 1, none, []),
  (⟨"PaintBank$Text", "isDigit", "(B)Z"⟩, prog_11_method_16_code, 1, some Jvm.ClassFile.FieldType.boolean, []),
  (⟨"PaintBank$Text", "readNumber", "()V"⟩, prog_11_method_12_code, 1, none, []),
  (⟨"PaintBank$Text", "kindOfMark", "(I)I"⟩, prog_11_method_13_code, 1, some Jvm.ClassFile.FieldType.int, []),
  (⟨"PaintBank$Text", "fail", "(I)Z"⟩, prog_11_method_4_code, 2, some Jvm.ClassFile.FieldType.boolean, []),
  (⟨"PaintBank$Text", "takeWord", "(LPaintBank$Word;)Z"⟩, prog_11_method_7_code, 2, some Jvm.ClassFile.FieldType.boolean, []),
  (⟨"PaintBank$Text", "takeNumber", "(II)Z"⟩, prog_11_method_9_code, 3, some Jvm.ClassFile.FieldType.boolean, []),
  (⟨"PaintBank$Text", "takeIfNext", "(LPaintBank$Word;)Z"⟩, prog_11_method_8_code, 3, some Jvm.ClassFile.FieldType.boolean, []),
  (⟨"PaintBank$Text", "takeSemicolon", "()Z"⟩, prog_11_method_5_code, 1, some Jvm.ClassFile.FieldType.boolean, []),
  (⟨"PaintBank$Text", "takeOpening", "()Z"⟩, prog_11_method_6_code, 1, some Jvm.ClassFile.FieldType.boolean, []),
  (⟨"PaintBank$Setup", "<init>", "()V"⟩, prog_9_method_1_code, 1, none, []),
  (⟨"PaintBank$Setup", "clear", "()V"⟩, prog_9_method_2_code, 1, none, []),
  (⟨"PaintBank$Setup", "eventsOf", "(III)I"⟩, prog_9_method_7_code, 4, some Jvm.ClassFile.FieldType.int, []),
  (⟨"PaintBank$Setup", "priceOf", "(II)I"⟩, prog_9_method_8_code, 3, some Jvm.ClassFile.FieldType.int, []),
  (⟨"PaintBank$Setup", "runAfter", "(II)I"⟩, prog_9_method_9_code, 2, some Jvm.ClassFile.FieldType.int, [])]
def md_MT7 : List mm_Mt := [
  (⟨"PaintBank$Setup", "bodyOfCar", "(I)I"⟩, prog_9_method_4_code, 2, some Jvm.ClassFile.FieldType.int, []),
  (⟨"PaintBank$Setup", "nameOfColor", "(I)J"⟩, prog_9_method_5_code, 2, some Jvm.ClassFile.FieldType.long, []),
  (⟨"PaintBank$Setup", "copyFrom", "(LPaintBank$Setup;)V"⟩, prog_9_method_3_code, 2, none, []),
  (⟨"PaintBank$Setup", "colorNamed", "(J)I"⟩, prog_9_method_6_code, 4, some Jvm.ClassFile.FieldType.int, []),
  (⟨"PaintBank$SetupReader", "<init>", "(LPaintBank$Text;)V"⟩, prog_10_method_1_code, 2, none, []),
  (⟨"PaintBank$SetupReader", "readAll", "()I"⟩, prog_10_method_2_code, 2, some Jvm.ClassFile.FieldType.int, []),
  (⟨"PaintBank$SetupReader", "readStatement", "()Z"⟩, prog_10_method_3_code, 1, some Jvm.ClassFile.FieldType.boolean, []),
  (⟨"PaintBank$SetupReader", "readColor", "()Z"⟩, prog_10_method_4_code, 2, some Jvm.ClassFile.FieldType.boolean, []),
  (⟨"PaintBank$SetupReader", "readLane", "()Z"⟩, prog_10_method_5_code, 2, some Jvm.ClassFile.FieldType.boolean, []),
  (⟨"PaintBank$SetupReader", "readCar", "()Z"⟩, prog_10_method_6_code, 3, some Jvm.ClassFile.FieldType.boolean, []),
  (⟨"PaintBank$SetupReader", "readWindow", "()Z"⟩, prog_10_method_7_code, 1, some Jvm.ClassFile.FieldType.boolean, []),
  (⟨"PaintBank$SetupReader", "readBatch", "()Z"⟩, prog_10_method_8_code, 1, some Jvm.ClassFile.FieldType.boolean, []),
  (⟨"PaintBank$SetupReader", "readRework", "()Z"⟩, prog_10_method_9_code, 1, some Jvm.ClassFile.FieldType.boolean, []),
  (⟨"PaintBank$SetupReader", "readSpan", "()Z"⟩, prog_10_method_10_code, 1, some Jvm.ClassFile.FieldType.boolean, []),
  (⟨"PaintBank$Line", "<init>", "(LPaintBank$Setup;)V"⟩, prog_5_method_1_code, 3, none, []),
  (⟨"PaintBank$Line", "likeFrom", "(II)I"⟩, prog_5_method_10_code, 5, some Jvm.ClassFile.FieldType.int, [])]
def md_MT8 : List mm_Mt := [
  (⟨"PaintBank$Line", "waitingCount", "()I"⟩, prog_5_method_4_code, 1, some Jvm.ClassFile.FieldType.int, []),
  (⟨"PaintBank$Line", "timeToReady", "()I"⟩, prog_5_method_13_code, 1, some Jvm.ClassFile.FieldType.int, []),
  (⟨"PaintBank$Line", "longestRowOut", "()I"⟩, prog_5_method_11_code, 5, some Jvm.ClassFile.FieldType.int, []),
  (⟨"PaintBank$Line", "colorOfCar", "(I)I"⟩, prog_5_method_8_code, 2, some Jvm.ClassFile.FieldType.int, []),
  (⟨"PaintBank$Line", "copyFrom", "(LPaintBank$Line;)V"⟩, prog_5_method_3_code, 3, none, []),
  (⟨"PaintBank$Line", "passTime", "()I"⟩, prog_5_method_21_code, 1, some Jvm.ClassFile.FieldType.int, []),
  (⟨"PaintBank$Line", "stepByRule", "()I"⟩, prog_5_method_22_code, 1, some Jvm.ClassFile.FieldType.int, []),
  (⟨"PaintBank$Line", "firstIsReady", "()Z"⟩, prog_5_method_19_code, 1, some Jvm.ClassFile.FieldType.boolean, []),
  (⟨"PaintBank$Line", "chosenLane", "(I)I"⟩, prog_5_method_23_code, 6, some Jvm.ClassFile.FieldType.int, []),
  (⟨"PaintBank$Line", "hasRoom", "(I)Z"⟩, prog_5_method_7_code, 2, some Jvm.ClassFile.FieldType.boolean, []),
  (⟨"PaintBank$Line", "comeBack", "(I)I"⟩, prog_5_method_20_code, 3, some Jvm.ClassFile.FieldType.int, []),
  (⟨"PaintBank$Line", "admit", "(I)I"⟩, prog_5_method_14_code, 3, some Jvm.ClassFile.FieldType.int, []),
  (⟨"PaintBank$Line", "chosenToLeave", "()I"⟩, prog_5_method_24_code, 5, some Jvm.ClassFile.FieldType.int, []),
  (⟨"PaintBank$Line", "mayLeave", "(I)Z"⟩, prog_5_method_15_code, 3, some Jvm.ClassFile.FieldType.boolean, []),
  (⟨"PaintBank$Line", "paintFrom", "(I)I"⟩, prog_5_method_16_code, 4, some Jvm.ClassFile.FieldType.int, []),
  (⟨"PaintBank$Line", "paint", "(IZ)V"⟩, prog_5_method_17_code, 5, none, [])]
def md_MT9 : List mm_Mt := [
  (⟨"PaintBank$Line", "note", "(III)V"⟩, prog_5_method_18_code, 5, none, []),
  (⟨"PaintBank$Line", "carsInLanes", "()I"⟩, prog_5_method_6_code, 3, some Jvm.ClassFile.FieldType.int, []),
  (⟨"PaintBank$Line", "recolor", "(II)Z"⟩, prog_5_method_9_code, 3, some Jvm.ClassFile.FieldType.boolean, []),
  (⟨"PaintBank$Line", "colorsInLanes", "()I"⟩, prog_5_method_25_code, 4, some Jvm.ClassFile.FieldType.int, []),
  (⟨"PaintBank$Line", "boundOf", "(I)I"⟩, prog_5_method_27_code, 5, some Jvm.ClassFile.FieldType.int, []),
  (⟨"PaintBank$Line", "colorsNotOut", "()I"⟩, prog_5_method_26_code, 3, some Jvm.ClassFile.FieldType.int, []),
  (⟨"PaintBank$Line", "changesAmongWaiting", "()I"⟩, prog_5_method_12_code, 3, some Jvm.ClassFile.FieldType.int, []),
  (⟨"PaintBank$Line", "startOver", "()V"⟩, prog_5_method_2_code, 2, none, []),
  (⟨"PaintBank$Line", "placeKind", "(I)I"⟩, prog_5_method_5_code, 2, some Jvm.ClassFile.FieldType.int, []),
  (⟨"PaintBank$Row", "<init>", "()V"⟩, prog_7_method_1_code, 1, none, []),
  (⟨"PaintBank$Row", "at", "(I)I"⟩, prog_7_method_2_code, 2, some Jvm.ClassFile.FieldType.int, []),
  (⟨"PaintBank$Row", "copyFrom", "(LPaintBank$Row;)V"⟩, prog_7_method_7_code, 2, none, []),
  (⟨"PaintBank$Row", "last", "()I"⟩, prog_7_method_3_code, 1, some Jvm.ClassFile.FieldType.int, []),
  (⟨"PaintBank$Row", "dropFirst", "()V"⟩, prog_7_method_6_code, 1, none, []),
  (⟨"PaintBank$Row", "add", "(I)V"⟩, prog_7_method_5_code, 2, none, []),
  (⟨"PaintBank$Row", "find", "(I)I"⟩, prog_7_method_4_code, 3, some Jvm.ClassFile.FieldType.int, [])]
def md_MT10 : List mm_Mt := [
  (⟨"PaintBank$Unloading", "<init>", "(LPaintBank$Setup;LPaintBank$Line;)V"⟩, prog_12_method_1_code, 3, none, []),
  (⟨"PaintBank$Unloading", "plan", "()V"⟩, prog_12_method_2_code, 2, none, []),
  (⟨"PaintBank$Unloading", "weighLanes", "()I"⟩, prog_12_method_3_code, 3, some Jvm.ClassFile.FieldType.int, []),
  (⟨"PaintBank$Unloading", "forgetWorths", "(I)V"⟩, prog_12_method_4_code, 4, none, []),
  (⟨"PaintBank$Unloading", "worthOfRest", "(IIII)I"⟩, prog_12_method_6_code, 9, some Jvm.ClassFile.FieldType.int, []),
  (⟨"PaintBank$Unloading", "keyOf", "(III)I"⟩, prog_12_method_5_code, 5, some Jvm.ClassFile.FieldType.int, []),
  (⟨"PaintBank$Unloading", "worthThrough", "(IIIII)I"⟩, prog_12_method_7_code, 11, some Jvm.ClassFile.FieldType.int, []),
  (⟨"PaintBank$Unloading", "fitsOut", "(II)Z"⟩, prog_12_method_8_code, 3, some Jvm.ClassFile.FieldType.boolean, []),
  (⟨"PaintBank$Unloading", "collectLanes", "()V"⟩, prog_12_method_9_code, 8, none, []),
  (⟨"PaintBank$Unloading", "carryOut", "()I"⟩, prog_12_method_10_code, 3, some Jvm.ClassFile.FieldType.int, []),
  (⟨"PaintBank$Exchange", "<init>", "(LPaintBank$Setup;LPaintBank$Line;)V"⟩, prog_3_method_1_code, 3, none, []),
  (⟨"PaintBank$Exchange", "plan", "()V"⟩, prog_3_method_2_code, 3, none, []),
  (⟨"PaintBank$Exchange", "forgetWays", "()V"⟩, prog_3_method_4_code, 3, none, []),
  (⟨"PaintBank$Exchange", "offerJob", "(II)V"⟩, prog_3_method_3_code, 7, none, []),
  (⟨"PaintBank$Exchange", "waysFrom", "(II)I"⟩, prog_3_method_5_code, 8, some Jvm.ClassFile.FieldType.int, []),
  (⟨"PaintBank$Exchange", "firstJob", "(III)I"⟩, prog_3_method_6_code, 6, some Jvm.ClassFile.FieldType.int, [])]
def md_MT11 : List mm_Mt := [
  (⟨"PaintBank$Exchange", "fewestOf", "(II)I"⟩, prog_3_method_7_code, 2, some Jvm.ClassFile.FieldType.int, []),
  (⟨"PaintBank$Exchange", "fewestOfAll", "(I)I"⟩, prog_3_method_8_code, 3, some Jvm.ClassFile.FieldType.int, []),
  (⟨"PaintBank$Exchange", "collectColors", "()V"⟩, prog_3_method_9_code, 7, none, []),
  (⟨"PaintBank$Exchange", "lowestColor", "(III)I"⟩, prog_3_method_10_code, 5, some Jvm.ClassFile.FieldType.int, []),
  (⟨"PaintBank$Exchange", "carryOut", "()I"⟩, prog_3_method_11_code, 3, some Jvm.ClassFile.FieldType.int, []),
  (⟨"PaintBank$Script", "<init>", "(LPaintBank$Text;LPaintBank$Line;LPaintBank$Unloading;LPaintBank$Exchange;)V"⟩, prog_8_method_1_code, 6, none, []),
  (⟨"PaintBank$Script", "readAll", "()Z"⟩, prog_8_method_2_code, 3, some Jvm.ClassFile.FieldType.boolean, []),
  (⟨"PaintBank$Script", "closeRepeat", "()Z"⟩, prog_8_method_3_code, 1, some Jvm.ClassFile.FieldType.boolean, []),
  (⟨"PaintBank$Script", "add", "(LPaintBank$Word;I)V"⟩, prog_8_method_5_code, 3, none, []),
  (⟨"PaintBank$Script", "readCommand", "()Z"⟩, prog_8_method_4_code, 2, some Jvm.ClassFile.FieldType.boolean, []),
  (⟨"PaintBank$Script", "play", "()I"⟩, prog_8_method_6_code, 4, some Jvm.ClassFile.FieldType.int, []),
  (⟨"PaintBank$Script", "behindBracket", "(I)I"⟩, prog_8_method_7_code, 3, some Jvm.ClassFile.FieldType.int, []),
  (⟨"PaintBank$Script", "carryOut", "(LPaintBank$Word;I)Z"⟩, prog_8_method_8_code, 3, some Jvm.ClassFile.FieldType.boolean, []),
  (⟨"PaintBank$Script", "waitTimes", "(I)Z"⟩, prog_8_method_9_code, 3, some Jvm.ClassFile.FieldType.boolean, []),
  (⟨"PaintBank$Script", "stepTimes", "(I)Z"⟩, prog_8_method_10_code, 3, some Jvm.ClassFile.FieldType.boolean, []),
  (⟨"PaintBank$History", "<init>", "(LPaintBank$Setup;)V"⟩, prog_4_method_1_code, 3, none, [])]
def md_MT12 : List mm_Mt := [
  (⟨"PaintBank$History", "draft", "(LPaintBank$Line;)V"⟩, prog_4_method_2_code, 2, none, []),
  (⟨"PaintBank$History", "keep", "()V"⟩, prog_4_method_3_code, 1, none, []),
  (⟨"PaintBank$History", "takeBack", "(LPaintBank$Line;)Z"⟩, prog_4_method_4_code, 2, some Jvm.ClassFile.FieldType.boolean, []),
  (⟨"PaintBank$History", "forget", "()V"⟩, prog_4_method_5_code, 1, none, []),
  (⟨"PaintBank$Report", "<init>", "()V"⟩, prog_6_method_1_code, 1, none, []),
  (⟨"PaintBank$Report", "write", "(LPaintBank$Setup;LPaintBank$Line;)I"⟩, prog_6_method_2_code, 4, some Jvm.ClassFile.FieldType.int, []),
  (⟨"PaintBank$Report", "addText", "(Ljava/lang/String;)V"⟩, prog_6_method_4_code, 3, none, []),
  (⟨"PaintBank$Report", "add", "(I)V"⟩, prog_6_method_6_code, 2, none, []),
  (⟨"PaintBank$Report", "addCars", "(LPaintBank$Setup;LPaintBank$Line;LPaintBank$Row;)V"⟩, prog_6_method_3_code, 6, none, []),
  (⟨"PaintBank$Report", "addLetters", "(J)V"⟩, prog_6_method_5_code, 5, none, []),
  (⟨"PaintBankModel", "<init>", "()V"⟩, prog_15_method_1_code, 1, none, []),
  (⟨"PaintBankModel", "begins", "([I)V"⟩, prog_15_method_30_code, 2, none, []),
  (⟨"PaintBankModel", "thrown", "()I"⟩, prog_15_method_2_code, 1, some Jvm.ClassFile.FieldType.int, []),
  (⟨"PaintBankModel", "feed", "(IIIII)I"⟩, prog_15_method_9_code, 6, some Jvm.ClassFile.FieldType.int, []),
  (⟨"PaintBankModel", "goes", "(Z)Z"⟩, prog_15_method_8_code, 2, some Jvm.ClassFile.FieldType.boolean, []),
  (⟨"PaintBankModel", "truth", "(Z)I"⟩, prog_15_method_4_code, 1, some Jvm.ClassFile.FieldType.int, [])]
def md_MT13 : List mm_Mt := [
  (⟨"PaintBankModel", "four", "(I)V"⟩, prog_15_method_10_code, 3, none, []),
  (⟨"PaintBankModel", "truncate", "(I)I"⟩, prog_15_method_11_code, 2, some Jvm.ClassFile.FieldType.int, []),
  (⟨"PaintBankModel", "isIn", "(JJJ)Z"⟩, prog_15_method_3_code, 6, some Jvm.ClassFile.FieldType.boolean, []),
  (⟨"PaintBankModel", "errorCode", "()I"⟩, prog_15_method_28_code, 1, some Jvm.ClassFile.FieldType.int, []),
  (⟨"PaintBankModel", "errorPosition", "()I"⟩, prog_15_method_29_code, 1, some Jvm.ClassFile.FieldType.int, []),
  (⟨"PaintBankModel", "readSetup", "()I"⟩, prog_15_method_40_code, 2, some Jvm.ClassFile.FieldType.int, []),
  (⟨"PaintBankModel", "beginsText", "()V"⟩, prog_15_method_26_code, 1, none, []),
  (⟨"PaintBankModel", "goOn", "()V"⟩, prog_15_method_15_code, 3, none, []),
  (⟨"PaintBankModel", "here", "(I)I"⟩, prog_15_method_12_code, 2, some Jvm.ClassFile.FieldType.int, []),
  (⟨"PaintBankModel", "isLetter", "(I)Z"⟩, prog_15_method_13_code, 1, some Jvm.ClassFile.FieldType.boolean, []),
  (⟨"PaintBankModel", "isDigit", "(I)Z"⟩, prog_15_method_14_code, 1, some Jvm.ClassFile.FieldType.boolean, []),
  (⟨"PaintBankModel", "isGood", "()Z"⟩, prog_15_method_17_code, 1, some Jvm.ClassFile.FieldType.boolean, []),
  (⟨"PaintBankModel", "statement", "()V"⟩, prog_15_method_39_code, 1, none, []),
  (⟨"PaintBankModel", "isWord", "(J)Z"⟩, prog_15_method_18_code, 3, some Jvm.ClassFile.FieldType.boolean, []),
  (⟨"PaintBankModel", "readsColor", "()V"⟩, prog_15_method_35_code, 2, none, []),
  (⟨"PaintBankModel", "begin", "(II)Z"⟩, prog_15_method_34_code, 3, some Jvm.ClassFile.FieldType.boolean, [])]
def md_MT14 : List mm_Mt := [
  (⟨"PaintBankModel", "wrong", "(I)V"⟩, prog_15_method_16_code, 2, none, []),
  (⟨"PaintBankModel", "nameHere", "()V"⟩, prog_15_method_33_code, 1, none, []),
  (⟨"PaintBankModel", "isName", "()Z"⟩, prog_15_method_25_code, 2, some Jvm.ClassFile.FieldType.boolean, []),
  (⟨"PaintBankModel", "named", "()I"⟩, prog_15_method_32_code, 2, some Jvm.ClassFile.FieldType.int, []),
  (⟨"PaintBankModel", "numberBehind", "(JII)I"⟩, prog_15_method_24_code, 5, some Jvm.ClassFile.FieldType.int, []),
  (⟨"PaintBankModel", "must", "(J)V"⟩, prog_15_method_21_code, 3, none, []),
  (⟨"PaintBankModel", "takes", "(J)Z"⟩, prog_15_method_20_code, 4, some Jvm.ClassFile.FieldType.boolean, []),
  (⟨"PaintBankModel", "number", "(II)I"⟩, prog_15_method_23_code, 4, some Jvm.ClassFile.FieldType.int, []),
  (⟨"PaintBankModel", "readsLane", "()V"⟩, prog_15_method_36_code, 2, none, []),
  (⟨"PaintBankModel", "readsCar", "()V"⟩, prog_15_method_37_code, 3, none, []),
  (⟨"PaintBankModel", "once", "(Z)Z"⟩, prog_15_method_38_code, 2, some Jvm.ClassFile.FieldType.boolean, []),
  (⟨"PaintBankModel", "mustSign", "(I)V"⟩, prog_15_method_22_code, 2, none, []),
  (⟨"PaintBankModel", "isSign", "(I)Z"⟩, prog_15_method_19_code, 2, some Jvm.ClassFile.FieldType.boolean, []),
  (⟨"PaintBankModel", "endsText", "()Z"⟩, prog_15_method_27_code, 1, some Jvm.ClassFile.FieldType.boolean, []),
  (⟨"PaintBankModel", "copies", "([I[I)V"⟩, prog_15_method_31_code, 3, none, []),
  (⟨"PaintBankModel", "setting", "(I)I"⟩, prog_15_method_43_code, 2, some Jvm.ClassFile.FieldType.int, [])]
def md_MT15 : List mm_Mt := [
  (⟨"PaintBankModel", "changeCost", "(I)I"⟩, prog_15_method_44_code, 2, some Jvm.ClassFile.FieldType.int, []),
  (⟨"PaintBankModel", "room", "(I)I"⟩, prog_15_method_45_code, 2, some Jvm.ClassFile.FieldType.int, []),
  (⟨"PaintBankModel", "isLane", "(I)Z"⟩, prog_15_method_42_code, 2, some Jvm.ClassFile.FieldType.boolean, []),
  (⟨"PaintBankModel", "body", "(I)I"⟩, prog_15_method_46_code, 2, some Jvm.ClassFile.FieldType.int, []),
  (⟨"PaintBankModel", "isCar", "(I)Z"⟩, prog_15_method_41_code, 2, some Jvm.ClassFile.FieldType.boolean, []),
  (⟨"PaintBankModel", "colorOf", "(I)I"⟩, prog_15_method_47_code, 2, some Jvm.ClassFile.FieldType.int, []),
  (⟨"PaintBankModel", "bad", "(I)I"⟩, prog_15_method_48_code, 2, some Jvm.ClassFile.FieldType.int, []),
  (⟨"PaintBankModel", "kinds", "()I"⟩, prog_15_method_50_code, 5, some Jvm.ClassFile.FieldType.int, []),
  (⟨"PaintBankModel", "commonest", "()I"⟩, prog_15_method_51_code, 3, some Jvm.ClassFile.FieldType.int, []),
  (⟨"PaintBankModel", "alike", "(I)I"⟩, prog_15_method_49_code, 4, some Jvm.ClassFile.FieldType.int, []),
  (⟨"PaintBankModel", "more", "(II)I"⟩, prog_15_method_6_code, 2, some Jvm.ClassFile.FieldType.int, []),
  (⟨"PaintBankModel", "where", "(I)I"⟩, prog_15_method_55_code, 2, some Jvm.ClassFile.FieldType.int, []),
  (⟨"PaintBankModel", "whereIs", "(I)I"⟩, prog_15_method_54_code, 2, some Jvm.ClassFile.FieldType.int, []),
  (⟨"PaintBankModel", "outAt", "(I)I"⟩, prog_15_method_53_code, 2, some Jvm.ClassFile.FieldType.int, []),
  (⟨"PaintBankModel", "inRow", "(III)I"⟩, prog_15_method_52_code, 5, some Jvm.ClassFile.FieldType.int, []),
  (⟨"PaintBankModel", "waiting", "()I"⟩, prog_15_method_56_code, 1, some Jvm.ClassFile.FieldType.int, [])]
def md_MT16 : List mm_Mt := [
  (⟨"PaintBankModel", "laneLength", "(I)I"⟩, prog_15_method_57_code, 2, some Jvm.ClassFile.FieldType.int, []),
  (⟨"PaintBankModel", "inLane", "(II)I"⟩, prog_15_method_59_code, 3, some Jvm.ClassFile.FieldType.int, []),
  (⟨"PaintBankModel", "carIn", "(II)I"⟩, prog_15_method_58_code, 3, some Jvm.ClassFile.FieldType.int, []),
  (⟨"PaintBankModel", "inRework", "(I)I"⟩, prog_15_method_60_code, 2, some Jvm.ClassFile.FieldType.int, []),
  (⟨"PaintBankModel", "readyIn", "()I"⟩, prog_15_method_61_code, 1, some Jvm.ClassFile.FieldType.int, []),
  (⟨"PaintBankModel", "outCount", "()I"⟩, prog_15_method_62_code, 1, some Jvm.ClassFile.FieldType.int, []),
  (⟨"PaintBankModel", "out", "(I)I"⟩, prog_15_method_63_code, 2, some Jvm.ClassFile.FieldType.int, []),
  (⟨"PaintBankModel", "move", "(I)I"⟩, prog_15_method_64_code, 2, some Jvm.ClassFile.FieldType.int, []),
  (⟨"PaintBankModel", "late", "()I"⟩, prog_15_method_65_code, 3, some Jvm.ClassFile.FieldType.int, []),
  (⟨"PaintBankModel", "longestBatch", "()I"⟩, prog_15_method_66_code, 5, some Jvm.ClassFile.FieldType.int, []),
  (⟨"PaintBankModel", "canLeave", "(I)Z"⟩, prog_15_method_68_code, 2, some Jvm.ClassFile.FieldType.boolean, []),
  (⟨"PaintBankModel", "mayLeave", "(I)Z"⟩, prog_15_method_67_code, 3, some Jvm.ClassFile.FieldType.boolean, []),
  (⟨"PaintBankModel", "hose", "()I"⟩, prog_15_method_70_code, 1, some Jvm.ClassFile.FieldType.int, []),
  (⟨"PaintBankModel", "told", "(I)I"⟩, prog_15_method_69_code, 2, some Jvm.ClassFile.FieldType.int, []),
  (⟨"PaintBankModel", "run", "()I"⟩, prog_15_method_71_code, 1, some Jvm.ClassFile.FieldType.int, []),
  (⟨"PaintBankModel", "time", "()I"⟩, prog_15_method_72_code, 1, some Jvm.ClassFile.FieldType.int, [])]
def md_MT17 : List mm_Mt := [
  (⟨"PaintBankModel", "changes", "()I"⟩, prog_15_method_73_code, 1, some Jvm.ClassFile.FieldType.int, []),
  (⟨"PaintBankModel", "purges", "()I"⟩, prog_15_method_74_code, 1, some Jvm.ClassFile.FieldType.int, []),
  (⟨"PaintBankModel", "cost", "()I"⟩, prog_15_method_75_code, 1, some Jvm.ClassFile.FieldType.int, []),
  (⟨"PaintBankModel", "enter", "(I)I"⟩, prog_15_method_85_code, 2, some Jvm.ClassFile.FieldType.int, []),
  (⟨"PaintBankModel", "mayEnter", "(I)Z"⟩, prog_15_method_79_code, 2, some Jvm.ClassFile.FieldType.boolean, []),
  (⟨"PaintBankModel", "hasRoom", "(I)Z"⟩, prog_15_method_77_code, 2, some Jvm.ClassFile.FieldType.boolean, []),
  (⟨"PaintBankModel", "keeps", "()V"⟩, prog_15_method_76_code, 2, none, []),
  (⟨"PaintBankModel", "enters", "(I)I"⟩, prog_15_method_80_code, 3, some Jvm.ClassFile.FieldType.int, []),
  (⟨"PaintBankModel", "comes", "(II)V"⟩, prog_15_method_78_code, 3, none, []),
  (⟨"PaintBankModel", "leave", "(I)I"⟩, prog_15_method_86_code, 2, some Jvm.ClassFile.FieldType.int, []),
  (⟨"PaintBankModel", "leaves", "(I)I"⟩, prog_15_method_82_code, 4, some Jvm.ClassFile.FieldType.int, []),
  (⟨"PaintBankModel", "paints", "(I)V"⟩, prog_15_method_81_code, 7, none, []),
  (⟨"PaintBankModel", "back", "(I)I"⟩, prog_15_method_87_code, 2, some Jvm.ClassFile.FieldType.int, []),
  (⟨"PaintBankModel", "isReady", "()Z"⟩, prog_15_method_83_code, 1, some Jvm.ClassFile.FieldType.boolean, []),
  (⟨"PaintBankModel", "comesBack", "(I)I"⟩, prog_15_method_84_code, 4, some Jvm.ClassFile.FieldType.int, []),
  (⟨"PaintBankModel", "waits", "()I"⟩, prog_15_method_88_code, 1, some Jvm.ClassFile.FieldType.int, [])]
def md_MT18 : List mm_Mt := [
  (⟨"PaintBankModel", "step", "()I"⟩, prog_15_method_93_code, 1, some Jvm.ClassFile.FieldType.int, []),
  (⟨"PaintBankModel", "nextStep", "()I"⟩, prog_15_method_91_code, 1, some Jvm.ClassFile.FieldType.int, []),
  (⟨"PaintBankModel", "chosenFor", "(I)I"⟩, prog_15_method_89_code, 5, some Jvm.ClassFile.FieldType.int, []),
  (⟨"PaintBankModel", "chosenToLeave", "()I"⟩, prog_15_method_90_code, 3, some Jvm.ClassFile.FieldType.int, []),
  (⟨"PaintBankModel", "steps", "()I"⟩, prog_15_method_92_code, 2, some Jvm.ClassFile.FieldType.int, []),
  (⟨"PaintBankModel", "ruleCost", "(I)I"⟩, prog_15_method_95_code, 2, some Jvm.ClassFile.FieldType.int, []),
  (⟨"PaintBankModel", "foretold", "(II)I"⟩, prog_15_method_94_code, 5, some Jvm.ClassFile.FieldType.int, []),
  (⟨"PaintBankModel", "ruleOut", "(I)I"⟩, prog_15_method_96_code, 2, some Jvm.ClassFile.FieldType.int, []),
  (⟨"PaintBankModel", "stepsToOut", "(I)I"⟩, prog_15_method_97_code, 4, some Jvm.ClassFile.FieldType.int, []),
  (⟨"PaintBankModel", "laneFor", "(I)I"⟩, prog_15_method_98_code, 2, some Jvm.ClassFile.FieldType.int, []),
  (⟨"PaintBankModel", "unloadCost", "()I"⟩, prog_15_method_110_code, 2, some Jvm.ClassFile.FieldType.int, []),
  (⟨"PaintBankModel", "laysUnloading", "()I"⟩, prog_15_method_109_code, 9, some Jvm.ClassFile.FieldType.int, []),
  (⟨"PaintBankModel", "inLanes", "()I"⟩, prog_15_method_107_code, 1, some Jvm.ClassFile.FieldType.int, []),
  (⟨"PaintBankModel", "unpacks", "(I)V"⟩, prog_15_method_100_code, 2, none, []),
  (⟨"PaintBankModel", "isWithin", "()Z"⟩, prog_15_method_102_code, 2, some Jvm.ClassFile.FieldType.boolean, []),
  (⟨"PaintBankModel", "takenAll", "()I"⟩, prog_15_method_101_code, 1, some Jvm.ClassFile.FieldType.int, [])]
def md_MT19 : List mm_Mt := [
  (⟨"PaintBankModel", "leastOf", "(II)I"⟩, prog_15_method_106_code, 5, some Jvm.ClassFile.FieldType.int, []),
  (⟨"PaintBankModel", "by", "(III)I"⟩, prog_15_method_105_code, 10, some Jvm.ClassFile.FieldType.int, []),
  (⟨"PaintBankModel", "places", "()I"⟩, prog_15_method_99_code, 1, some Jvm.ClassFile.FieldType.int, []),
  (⟨"PaintBankModel", "weightOf", "(I)I"⟩, prog_15_method_104_code, 1, some Jvm.ClassFile.FieldType.int, []),
  (⟨"PaintBankModel", "placeOf", "(III)I"⟩, prog_15_method_103_code, 3, some Jvm.ClassFile.FieldType.int, []),
  (⟨"PaintBankModel", "less", "(II)I"⟩, prog_15_method_5_code, 2, some Jvm.ClassFile.FieldType.int, []),
  (⟨"PaintBankModel", "held", "()I"⟩, prog_15_method_108_code, 1, some Jvm.ClassFile.FieldType.int, []),
  (⟨"PaintBankModel", "unloadChanges", "()I"⟩, prog_15_method_111_code, 2, some Jvm.ClassFile.FieldType.int, []),
  (⟨"PaintBankModel", "unloadLane", "(I)I"⟩, prog_15_method_112_code, 3, some Jvm.ClassFile.FieldType.int, []),
  (⟨"PaintBankModel", "unload", "()I"⟩, prog_15_method_114_code, 2, some Jvm.ClassFile.FieldType.int, []),
  (⟨"PaintBankModel", "unloadsNow", "()I"⟩, prog_15_method_113_code, 6, some Jvm.ClassFile.FieldType.int, []),
  (⟨"PaintBankModel", "keepsAside", "()V"⟩, prog_15_method_115_code, 2, none, []),
  (⟨"PaintBankModel", "laneBound", "()I"⟩, prog_15_method_117_code, 1, some Jvm.ClassFile.FieldType.int, []),
  (⟨"PaintBankModel", "boundOf", "(Z)I"⟩, prog_15_method_116_code, 6, some Jvm.ClassFile.FieldType.int, []),
  (⟨"PaintBankModel", "has", "(II)Z"⟩, prog_15_method_7_code, 2, some Jvm.ClassFile.FieldType.boolean, []),
  (⟨"PaintBankModel", "bound", "()I"⟩, prog_15_method_118_code, 1, some Jvm.ClassFile.FieldType.int, [])]
def md_MT20 : List mm_Mt := [
  (⟨"PaintBankModel", "waitingChanges", "()I"⟩, prog_15_method_128_code, 3, some Jvm.ClassFile.FieldType.int, []),
  (⟨"PaintBankModel", "waits0", "()I"⟩, prog_15_method_119_code, 1, some Jvm.ClassFile.FieldType.int, []),
  (⟨"PaintBankModel", "jobColor", "(I)I"⟩, prog_15_method_120_code, 2, some Jvm.ClassFile.FieldType.int, []),
  (⟨"PaintBankModel", "swapChanges", "()I"⟩, prog_15_method_129_code, 1, some Jvm.ClassFile.FieldType.int, []),
  (⟨"PaintBankModel", "laysSwap", "()I"⟩, prog_15_method_127_code, 5, some Jvm.ClassFile.FieldType.int, []),
  (⟨"PaintBankModel", "laysFewest", "()V"⟩, prog_15_method_125_code, 7, none, []),
  (⟨"PaintBankModel", "ones", "(I)I"⟩, prog_15_method_121_code, 3, some Jvm.ClassFile.FieldType.int, []),
  (⟨"PaintBankModel", "isJob", "(III)Z"⟩, prog_15_method_122_code, 5, some Jvm.ClassFile.FieldType.boolean, []),
  (⟨"PaintBankModel", "fewestBy", "(III)I"⟩, prog_15_method_124_code, 5, some Jvm.ClassFile.FieldType.int, []),
  (⟨"PaintBankModel", "differs", "(II)I"⟩, prog_15_method_123_code, 3, some Jvm.ClassFile.FieldType.int, []),
  (⟨"PaintBankModel", "laysNext", "(III)I"⟩, prog_15_method_126_code, 8, some Jvm.ClassFile.FieldType.int, []),
  (⟨"PaintBankModel", "swapColor", "(I)I"⟩, prog_15_method_130_code, 3, some Jvm.ClassFile.FieldType.int, []),
  (⟨"PaintBankModel", "swap", "()I"⟩, prog_15_method_132_code, 2, some Jvm.ClassFile.FieldType.int, []),
  (⟨"PaintBankModel", "swaps", "()I"⟩, prog_15_method_131_code, 4, some Jvm.ClassFile.FieldType.int, []),
  (⟨"PaintBankModel", "runScript", "()I"⟩, prog_15_method_141_code, 2, some Jvm.ClassFile.FieldType.int, []),
  (⟨"PaintBankModel", "command", "()V"⟩, prog_15_method_135_code, 2, none, [])]
def md_MT21 : List mm_Mt := [
  (⟨"PaintBankModel", "commandHere", "()I"⟩, prog_15_method_134_code, 1, some Jvm.ClassFile.FieldType.int, []),
  (⟨"PaintBankModel", "adds", "(II)V"⟩, prog_15_method_133_code, 3, none, []),
  (⟨"PaintBankModel", "closes", "()V"⟩, prog_15_method_136_code, 1, none, []),
  (⟨"PaintBankModel", "runs", "()I"⟩, prog_15_method_142_code, 6, some Jvm.ClassFile.FieldType.int, []),
  (⟨"PaintBankModel", "does", "(II)Z"⟩, prog_15_method_140_code, 6, some Jvm.ClassFile.FieldType.boolean, []),
  (⟨"PaintBankModel", "passes", "(I)Z"⟩, prog_15_method_138_code, 3, some Jvm.ClassFile.FieldType.boolean, []),
  (⟨"PaintBankModel", "walks", "(I)Z"⟩, prog_15_method_139_code, 3, some Jvm.ClassFile.FieldType.boolean, []),
  (⟨"PaintBankModel", "moves", "(II)Z"⟩, prog_15_method_137_code, 4, some Jvm.ClassFile.FieldType.boolean, []),
  (⟨"PaintBankModel", "logCount", "()I"⟩, prog_15_method_143_code, 1, some Jvm.ClassFile.FieldType.int, []),
  (⟨"PaintBankModel", "log", "(II)I"⟩, prog_15_method_144_code, 3, some Jvm.ClassFile.FieldType.int, []),
  (⟨"PaintBankModel", "report", "()I"⟩, prog_15_method_148_code, 3, some Jvm.ClassFile.FieldType.int, []),
  (⟨"PaintBankModel", "tellName", "(J)V"⟩, prog_15_method_146_code, 6, none, []),
  (⟨"PaintBankModel", "tell", "(I)V"⟩, prog_15_method_145_code, 2, none, []),
  (⟨"PaintBankModel", "tellCar", "(I)V"⟩, prog_15_method_147_code, 2, none, []),
  (⟨"PaintBankModel", "reportByte", "(I)I"⟩, prog_15_method_149_code, 2, some Jvm.ClassFile.FieldType.int, []),
  (⟨"PaintBankModel", "undo", "()I"⟩, prog_15_method_150_code, 2, some Jvm.ClassFile.FieldType.int, [])]
def md_MT22 : List mm_Mt := [
  (⟨"PaintBankModel", "save", "()I"⟩, prog_15_method_151_code, 2, some Jvm.ClassFile.FieldType.int, []),
  (⟨"PaintBankModel", "restore", "()I"⟩, prog_15_method_152_code, 2, some Jvm.ClassFile.FieldType.int, []),
  (⟨"java/lang/Math", "max", "(II)I"⟩, prog_22_method_65_code, 2, some Jvm.ClassFile.FieldType.int, []),
  (⟨"java/lang/Math", "min", "(II)I"⟩, prog_22_method_69_code, 2, some Jvm.ClassFile.FieldType.int, []),
  (⟨"java/lang/Math", "abs", "(I)I"⟩, prog_22_method_59_code, 1, some Jvm.ClassFile.FieldType.int, []),
  (⟨"java/util/Arrays", "fill", "([II)V"⟩, prog_29_method_103_code, 4, none, []),
  (⟨"java/lang/Integer", "bitCount", "(I)I"⟩, prog_21_method_49_code, 1, some Jvm.ClassFile.FieldType.int, []),
  (⟨"java/lang/Enum", "ordinal", "()I"⟩, prog_16_method_2_code, 1, some Jvm.ClassFile.FieldType.int, []),
  (⟨"java/lang/String", "length", "()I"⟩, prog_24_method_54_code, 1, some Jvm.ClassFile.FieldType.int, []),
  (⟨"java/lang/String", "coder", "()B"⟩, prog_24_method_152_code, 1, some Jvm.ClassFile.FieldType.byte, []),
  (⟨"java/lang/String", "charAt", "(I)C"⟩, prog_24_method_56_code, 2, some Jvm.ClassFile.FieldType.char, []),
  (⟨"java/lang/String", "isLatin1", "()Z"⟩, prog_24_method_154_code, 1, some Jvm.ClassFile.FieldType.boolean, []),
  (⟨"java/lang/StringLatin1", "charAt", "([BI)C"⟩, prog_25_method_2_code, 2, some Jvm.ClassFile.FieldType.char, []),
  (⟨"java/lang/String", "checkIndex", "(II)V"⟩, prog_24_method_155_code, 2, none, []),
  (⟨"jdk/internal/util/Preconditions", "checkIndex", "(IILjava/util/function/BiFunction;)I"⟩, prog_30_method_11_code, 3, some Jvm.ClassFile.FieldType.int, [])]
def md_MT : List (List mm_Mt) := [md_MT0, md_MT1, md_MT2, md_MT3, md_MT4, md_MT5, md_MT6, md_MT7, md_MT8, md_MT9, md_MT10, md_MT11, md_MT12, md_MT13, md_MT14, md_MT15, md_MT16, md_MT17, md_MT18, md_MT19, md_MT20, md_MT21, md_MT22]
def md_mt (j : Nat) : mm_Mt := (((md_MT[j / 16]?).getD [])[j % 16]?).getD (⟨"A", "", ""⟩, ⟨#[]⟩, 0, none, [])
def md_npL : List Nat := [1, 7, 3, 2, 2, 3, 3, 3, 3, 3, 3, 3, 3, 4, 3, 3, 3, 3, 3, 3, 3, 3, 3, 4, 3, 2, 0, 0, 0, 0, 0, 0, 1, 0, 0, 1, 0, 0, 0, 0, 0, 0, 0, 0, 0, 1, 0, 0, 0, 0, 0, 1, 0, 0, 0, 0, 1, 0, 0, 0, 0, 5, 1, 0, 0, 1, 1, 1, 1, 1, 1, 1, 1, 1, 1, 2, 1, 1, 1, 1, 1, 1, 1, 2, 1, 1, 1, 2, 1, 0, 1, 0, 1, 0, 0, 1, 1, 0, 1, 0, 1, 1, 1, 2, 1, 0, 0, 0, 0, 3, 2, 2, 1, 1, 1, 1, 1, 0, 0, 0, 0, 0, 0, 0, 0, 0, 1, 2, 0, 0, 0, 1, 1, 0, 0, 0, 1, 1, 1, 1, 0, 1, 1, 2, 3, 0, 2, 0, 1, 0, 0, 0, 1, 0, 1, 1, 0, 0, 1, 1, 2, 0, 0, 1, 4, 3, 5, 2, 0, 0, 2, 0, 0, 2, 2, 3, 2, 1, 0, 3, 0, 4, 0, 0, 2, 0, 0, 1, 2, 1, 1, 1, 1, 0, 1, 0, 0, 2, 1, 1, 3, 1, 0, 1, 0, 5, 1, 1, 1, 1, 3, 0, 0, 0, 0, 0, 1, 1, 1, 0, 0, 1, 0, 2, 1, 0, 0, 0, 3, 1, 1, 2, 0, 0, 1, 1, 1, 0, 2, 1, 1, 1, 1, 1, 1, 1, 1, 0, 0, 1, 2, 1, 1, 1, 3, 0, 1, 2, 2, 1, 0, 0, 1, 1, 0, 0, 1, 1, 0, 1, 0, 0, 0, 0, 0, 1, 1, 1, 0, 1, 2, 1, 1, 1, 1, 0, 1, 0, 0, 0, 1, 0, 0, 1, 2, 1, 1, 1, 0, 0, 0, 1, 0, 0, 2, 3, 0, 1, 3, 2, 0, 0, 1, 0, 0, 0, 0, 1, 2, 0, 0, 0, 1, 0, 0, 0, 1, 3, 3, 2, 3, 1, 0, 0, 0, 0, 0, 2, 0, 0, 2, 1, 1, 2, 0, 2, 0, 1, 1, 1, 1, 0, 0, 0, 2, 2, 1, 2, 1, 0, 0, 0, 1, 0, 2, 2, 3]
def md_np (j : Nat) : Nat := (md_npL[j]?).getD 99
end
section
-- PaintBankLaw.law([I)Z
set_option maxRecDepth 1000000 in
noncomputable def md_L0 : List (List mm_Ln) := [[(0, (.new 8, 3, 0, 0, 0), [1030, 1031, 1001]), (3, (.dup, 4, 0, 0, 0), []), (4, (.invokespecial 95, 7, 26, 32, 0), [1033, 1001, 1032]), (7, (.astore_n 1, 8, 0, 0, 0), []), (8, (.new 96, 11, 11, 0, 0), [7072, 7073, 1014]), (11, (.dup, 12, 0, 0, 0), []), (12, (.invokespecial 98, 15, 202, 32, 11), [7075, 1014, 7074]), (15, (.astore_n 2, 16, 0, 0, 0), [])],
  [(16, (.iconst 1, 17, 0, 0, 0), []), (17, (.newarray .long, 19, 1, 0, 0), [1192]), (19, (.astore_n 3, 20, 0, 0, 0), []), (20, (.iconst 0, 21, 0, 0, 0), []), (21, (.istore 4, 23, 0, 0, 0), []), (23, (.iload 4, 25, 0, 0, 0), []), (25, (.aload_n 0, 26, 0, 0, 0), []), (26, (.arraylength, 27, 0, 0, 0), []), (27, (.bipush 6, 29, 0, 0, 0), []), (29, (.isub, 30, 0, 0, 0), []), (30, (.if_icmp .gt 2184, 33, 2214, 0, 0), [])],
  [(33, (.aload_n 0, 34, 0, 0, 0), []), (34, (.iload 4, 36, 0, 0, 0), []), (36, (.iaload, 37, 0, 0, 0), []), (37, (.bipush 63, 39, 0, 0, 0), []), (39, (.iand, 40, 0, 0, 0), []), (40, (.tableswitch 2168 0 57 #[248, 352, 408, 452, 496, 509, 522, 578, 634, 690, 746, 802, 858, 871, 884, 940, 953, 1009, 1077, 1102, 1115, 1128, 1153, 1209, 1222, 1235, 1298, 1311, 1324, 1337, 1350, 1363, 1376, 1432, 1488, 1544, 1557, 1570, 1583, 1596, 1652, 1708, 1764, 1820, 1833, 1846, 1871, 1884, 1897, 1910, 1923, 1948, 1961, 2029, 2042, 2098, 2111, 2124], 248, 0, 0, 0), [])],
  [],
  [],
  [],
  [],
  [],
  [],
  [],
  [],
  [],
  [],
  [],
  [],
  [],
  [],
  [],
  [(288, (.aload_n 1, 289, 0, 0, 0), []), (289, (.aload_n 0, 290, 0, 0, 0), []), (290, (.iload 4, 292, 0, 0, 0), []), (292, (.iconst 1, 293, 0, 0, 0), []), (293, (.iadd, 294, 0, 0, 0), []), (294, (.iaload, 295, 0, 0, 0), []), (295, (.aload_n 0, 296, 0, 0, 0), []), (296, (.iload 4, 298, 0, 0, 0), []), (298, (.iconst 2, 299, 0, 0, 0), []), (299, (.iadd, 300, 0, 0, 0), []), (300, (.iaload, 301, 0, 0, 0), []), (301, (.aload_n 0, 302, 0, 0, 0), []), (302, (.iload 4, 304, 0, 0, 0), [])],
  [(304, (.iconst 3, 305, 0, 0, 0), []), (305, (.iadd, 306, 0, 0, 0), []), (306, (.iaload, 307, 0, 0, 0), []), (307, (.aload_n 0, 308, 0, 0, 0), []), (308, (.iload 4, 310, 0, 0, 0), []), (310, (.iconst 4, 311, 0, 0, 0), []), (311, (.iadd, 312, 0, 0, 0), []), (312, (.iaload, 313, 0, 0, 0), []), (313, (.aload_n 0, 314, 0, 0, 0), []), (314, (.iload 4, 316, 0, 0, 0), []), (316, (.iconst 5, 317, 0, 0, 0), []), (317, (.iadd, 318, 0, 0, 0), []), (318, (.iaload, 319, 0, 0, 0), []), (319, (.aload_n 3, 320, 0, 0, 0), [])],
  [(320, (.invokestatic 99, 323, 1, 23, 0), [5052, 5053, 1000]), (323, (.istore 5, 325, 0, 0, 0), []), (325, (.aload_n 2, 326, 0, 0, 0), []), (326, (.aload_n 0, 327, 0, 0, 0), []), (327, (.iload 4, 329, 0, 0, 0), []), (329, (.iconst 1, 330, 0, 0, 0), []), (330, (.iadd, 331, 0, 0, 0), []), (331, (.iaload, 332, 0, 0, 0), []), (332, (.aload_n 0, 333, 0, 0, 0), []), (333, (.iload 4, 335, 0, 0, 0), []), (335, (.iconst 2, 336, 0, 0, 0), [])],
  [(336, (.iadd, 337, 0, 0, 0), []), (337, (.iaload, 338, 0, 0, 0), []), (338, (.aload_n 0, 339, 0, 0, 0), []), (339, (.iload 4, 341, 0, 0, 0), []), (341, (.iconst 3, 342, 0, 0, 0), []), (342, (.iadd, 343, 0, 0, 0), []), (343, (.iaload, 344, 0, 0, 0), []), (344, (.aload_n 0, 345, 0, 0, 0), []), (345, (.iload 4, 347, 0, 0, 0), []), (347, (.iconst 4, 348, 0, 0, 0), []), (348, (.iadd, 349, 0, 0, 0), []), (349, (.iaload, 350, 0, 0, 0), []), (350, (.aload_n 0, 351, 0, 0, 0), []), (351, (.iload 4, 353, 0, 0, 0), [])],
  [(353, (.iconst 5, 354, 0, 0, 0), []), (354, (.iadd, 355, 0, 0, 0), []), (355, (.iaload, 356, 0, 0, 0), []), (356, (.invokevirtual 104, 359, 205, 5, 11), [7235, 7236, 7237, 1014]), (359, (.istore 6, 361, 0, 0, 0), []), (361, (.aload_n 2, 362, 0, 0, 0), []), (362, (.invokevirtual 105, 365, 204, 0, 11), [7231, 7232, 7233, 1014]), (365, (.iload 5, 367, 0, 0, 0), []), (367, (.if_icmp .eq 5, 370, 372, 0, 0), [])],
  [(370, (.iconst 0, 371, 0, 0, 0), []), (371, (.ireturn, 372, 0, 0, 0), []), (372, (.iload 5, 374, 0, 0, 0), []), (374, (.ifCond .ne 15, 377, 389, 0, 0), []), (377, (.aload_n 3, 378, 0, 0, 0), []), (378, (.iconst 0, 379, 0, 0, 0), []), (379, (.laload, 380, 0, 0, 0), []), (380, (.iload 6, 382, 0, 0, 0), []), (382, (.i2l, 383, 0, 0, 0), []), (383, (.lcmp, 384, 0, 0, 0), [])],
  [(384, (.ifCond .eq 5, 387, 389, 0, 0), []), (387, (.iconst 0, 388, 0, 0, 0), []), (388, (.ireturn, 389, 0, 0, 0), []), (389, (.goto 1819, 392, 2208, 0, 0), []), (392, (.aload_n 1, 393, 0, 0, 0), []), (393, (.aload_n 0, 394, 0, 0, 0), []), (394, (.iload 4, 396, 0, 0, 0), []), (396, (.iconst 1, 397, 0, 0, 0), []), (397, (.iadd, 398, 0, 0, 0), []), (398, (.iaload, 399, 0, 0, 0), []), (399, (.aload_n 3, 400, 0, 0, 0), [])],
  [(400, (.invokestatic 108, 403, 2, 19, 0), [5131, 5132, 1000]), (403, (.istore 5, 405, 0, 0, 0), []), (405, (.aload_n 2, 406, 0, 0, 0), []), (406, (.aload_n 0, 407, 0, 0, 0), []), (407, (.iload 4, 409, 0, 0, 0), []), (409, (.iconst 1, 410, 0, 0, 0), []), (410, (.iadd, 411, 0, 0, 0), []), (411, (.iaload, 412, 0, 0, 0), []), (412, (.invokevirtual 111, 415, 209, 1, 11), [8010, 8011, 8012, 1014]), (415, (.istore 6, 417, 0, 0, 0), [])],
  [(417, (.aload_n 2, 418, 0, 0, 0), []), (418, (.invokevirtual 105, 421, 204, 0, 11), [7231, 7232, 7233, 1014]), (421, (.iload 5, 423, 0, 0, 0), []), (423, (.if_icmp .eq 5, 426, 428, 0, 0), []), (426, (.iconst 0, 427, 0, 0, 0), []), (427, (.ireturn, 428, 0, 0, 0), []), (428, (.iload 5, 430, 0, 0, 0), []), (430, (.ifCond .ne 15, 433, 445, 0, 0), [])],
  [(433, (.aload_n 3, 434, 0, 0, 0), []), (434, (.iconst 0, 435, 0, 0, 0), []), (435, (.laload, 436, 0, 0, 0), []), (436, (.iload 6, 438, 0, 0, 0), []), (438, (.i2l, 439, 0, 0, 0), []), (439, (.lcmp, 440, 0, 0, 0), []), (440, (.ifCond .eq 5, 443, 445, 0, 0), []), (443, (.iconst 0, 444, 0, 0, 0), []), (444, (.ireturn, 445, 0, 0, 0), []), (445, (.goto 1763, 448, 2208, 0, 0), [])],
  [(448, (.aload_n 1, 449, 0, 0, 0), []), (449, (.aload_n 3, 450, 0, 0, 0), []), (450, (.invokestatic 112, 453, 3, 18, 0), [5155, 5156, 1000]), (453, (.istore 5, 455, 0, 0, 0), []), (455, (.aload_n 2, 456, 0, 0, 0), []), (456, (.invokevirtual 115, 459, 213, 0, 11), [8025, 8026, 8027, 1014]), (459, (.istore 6, 461, 0, 0, 0), []), (461, (.aload_n 2, 462, 0, 0, 0), []), (462, (.invokevirtual 105, 465, 204, 0, 11), [7231, 7232, 7233, 1014])],
  [(465, (.iload 5, 467, 0, 0, 0), []), (467, (.if_icmp .eq 5, 470, 472, 0, 0), []), (470, (.iconst 0, 471, 0, 0, 0), []), (471, (.ireturn, 472, 0, 0, 0), []), (472, (.iload 5, 474, 0, 0, 0), []), (474, (.ifCond .ne 15, 477, 489, 0, 0), []), (477, (.aload_n 3, 478, 0, 0, 0), []), (478, (.iconst 0, 479, 0, 0, 0), []), (479, (.laload, 480, 0, 0, 0), [])],
  [(480, (.iload 6, 482, 0, 0, 0), []), (482, (.i2l, 483, 0, 0, 0), []), (483, (.lcmp, 484, 0, 0, 0), []), (484, (.ifCond .eq 5, 487, 489, 0, 0), []), (487, (.iconst 0, 488, 0, 0, 0), []), (488, (.ireturn, 489, 0, 0, 0), []), (489, (.goto 1719, 492, 2208, 0, 0), []), (492, (.aload_n 1, 493, 0, 0, 0), []), (493, (.aload_n 3, 494, 0, 0, 0), []), (494, (.invokestatic 116, 497, 4, 18, 0), [6047, 6048, 1000])],
  [(497, (.istore 5, 499, 0, 0, 0), []), (499, (.aload_n 2, 500, 0, 0, 0), []), (500, (.invokevirtual 118, 503, 334, 0, 11), [10043, 10044, 10045, 1014]), (503, (.istore 6, 505, 0, 0, 0), []), (505, (.aload_n 2, 506, 0, 0, 0), []), (506, (.invokevirtual 105, 509, 204, 0, 11), [7231, 7232, 7233, 1014]), (509, (.iload 5, 511, 0, 0, 0), []), (511, (.if_icmp .eq 5, 514, 516, 0, 0), [])],
  [(514, (.iconst 0, 515, 0, 0, 0), []), (515, (.ireturn, 516, 0, 0, 0), []), (516, (.iload 5, 518, 0, 0, 0), []), (518, (.ifCond .ne 15, 521, 533, 0, 0), []), (521, (.aload_n 3, 522, 0, 0, 0), []), (522, (.iconst 0, 523, 0, 0, 0), []), (523, (.laload, 524, 0, 0, 0), []), (524, (.iload 6, 526, 0, 0, 0), []), (526, (.i2l, 527, 0, 0, 0), []), (527, (.lcmp, 528, 0, 0, 0), [])],
  [(528, (.ifCond .eq 5, 531, 533, 0, 0), []), (531, (.iconst 0, 532, 0, 0, 0), []), (532, (.ireturn, 533, 0, 0, 0), []), (533, (.goto 1675, 536, 2208, 0, 0), []), (536, (.aload_n 1, 537, 0, 0, 0), []), (537, (.invokevirtual 119, 540, 27, 0, 0), [3050, 3051, 3052, 1001]), (540, (.aload_n 2, 541, 0, 0, 0), []), (541, (.invokevirtual 122, 544, 211, 0, 11), [8017, 8018, 8019, 1014])],
  [(544, (.if_icmp .eq 1664, 547, 2208, 0, 0), []), (547, (.iconst 0, 548, 0, 0, 0), []), (548, (.ireturn, 549, 0, 0, 0), []), (549, (.aload_n 1, 550, 0, 0, 0), []), (550, (.invokevirtual 123, 553, 28, 0, 0), [3054, 3055, 3056, 1001]), (553, (.aload_n 2, 554, 0, 0, 0), []), (554, (.invokevirtual 126, 557, 212, 0, 11), [8021, 8022, 8023, 1014]), (557, (.if_icmp .eq 1651, 560, 2208, 0, 0), [])],
  [(560, (.iconst 0, 561, 0, 0, 0), []), (561, (.ireturn, 562, 0, 0, 0), []), (562, (.aload_n 1, 563, 0, 0, 0), []), (563, (.aload_n 0, 564, 0, 0, 0), []), (564, (.iload 4, 566, 0, 0, 0), []), (566, (.iconst 1, 567, 0, 0, 0), []), (567, (.iadd, 568, 0, 0, 0), []), (568, (.iaload, 569, 0, 0, 0), []), (569, (.aload_n 3, 570, 0, 0, 0), []), (570, (.invokestatic 127, 573, 5, 19, 0), [6114, 6115, 1000]), (573, (.istore 5, 575, 0, 0, 0), []), (575, (.aload_n 2, 576, 0, 0, 0), [])],
  [(576, (.aload_n 0, 577, 0, 0, 0), []), (577, (.iload 4, 579, 0, 0, 0), []), (579, (.iconst 1, 580, 0, 0, 0), []), (580, (.iadd, 581, 0, 0, 0), []), (581, (.iaload, 582, 0, 0, 0), []), (582, (.invokevirtual 129, 585, 239, 1, 11), [8146, 8147, 8148, 1014]), (585, (.istore 6, 587, 0, 0, 0), []), (587, (.aload_n 2, 588, 0, 0, 0), []), (588, (.invokevirtual 105, 591, 204, 0, 11), [7231, 7232, 7233, 1014]), (591, (.iload 5, 593, 0, 0, 0), [])],
  [(593, (.if_icmp .eq 5, 596, 598, 0, 0), []), (596, (.iconst 0, 597, 0, 0, 0), []), (597, (.ireturn, 598, 0, 0, 0), []), (598, (.iload 5, 600, 0, 0, 0), []), (600, (.ifCond .ne 15, 603, 615, 0, 0), []), (603, (.aload_n 3, 604, 0, 0, 0), []), (604, (.iconst 0, 605, 0, 0, 0), []), (605, (.laload, 606, 0, 0, 0), []), (606, (.iload 6, 608, 0, 0, 0), [])],
  [(608, (.i2l, 609, 0, 0, 0), []), (609, (.lcmp, 610, 0, 0, 0), []), (610, (.ifCond .eq 5, 613, 615, 0, 0), []), (613, (.iconst 0, 614, 0, 0, 0), []), (614, (.ireturn, 615, 0, 0, 0), []), (615, (.goto 1593, 618, 2208, 0, 0), []), (618, (.aload_n 1, 619, 0, 0, 0), []), (619, (.aload_n 0, 620, 0, 0, 0), []), (620, (.iload 4, 622, 0, 0, 0), []), (622, (.iconst 1, 623, 0, 0, 0), []), (623, (.iadd, 624, 0, 0, 0), [])],
  [(624, (.iaload, 625, 0, 0, 0), []), (625, (.aload_n 3, 626, 0, 0, 0), []), (626, (.invokestatic 130, 629, 6, 19, 0), [6122, 6123, 1000]), (629, (.istore 5, 631, 0, 0, 0), []), (631, (.aload_n 2, 632, 0, 0, 0), []), (632, (.aload_n 0, 633, 0, 0, 0), []), (633, (.iload 4, 635, 0, 0, 0), []), (635, (.iconst 1, 636, 0, 0, 0), []), (636, (.iadd, 637, 0, 0, 0), []), (637, (.iaload, 638, 0, 0, 0), []), (638, (.invokevirtual 132, 641, 240, 1, 11), [8151, 8152, 8153, 1014])],
  [(641, (.istore 6, 643, 0, 0, 0), []), (643, (.aload_n 2, 644, 0, 0, 0), []), (644, (.invokevirtual 105, 647, 204, 0, 11), [7231, 7232, 7233, 1014]), (647, (.iload 5, 649, 0, 0, 0), []), (649, (.if_icmp .eq 5, 652, 654, 0, 0), []), (652, (.iconst 0, 653, 0, 0, 0), []), (653, (.ireturn, 654, 0, 0, 0), []), (654, (.iload 5, 656, 0, 0, 0), [])],
  [(656, (.ifCond .ne 15, 659, 671, 0, 0), []), (659, (.aload_n 3, 660, 0, 0, 0), []), (660, (.iconst 0, 661, 0, 0, 0), []), (661, (.laload, 662, 0, 0, 0), []), (662, (.iload 6, 664, 0, 0, 0), []), (664, (.i2l, 665, 0, 0, 0), []), (665, (.lcmp, 666, 0, 0, 0), []), (666, (.ifCond .eq 5, 669, 671, 0, 0), []), (669, (.iconst 0, 670, 0, 0, 0), []), (670, (.ireturn, 671, 0, 0, 0), []), (671, (.goto 1537, 674, 2208, 0, 0), [])],
  [(674, (.aload_n 1, 675, 0, 0, 0), []), (675, (.aload_n 0, 676, 0, 0, 0), []), (676, (.iload 4, 678, 0, 0, 0), []), (678, (.iconst 1, 679, 0, 0, 0), []), (679, (.iadd, 680, 0, 0, 0), []), (680, (.iaload, 681, 0, 0, 0), []), (681, (.aload_n 3, 682, 0, 0, 0), []), (682, (.invokestatic 133, 685, 7, 19, 0), [6146, 6147, 1000]), (685, (.istore 5, 687, 0, 0, 0), []), (687, (.aload_n 2, 688, 0, 0, 0), [])],
  [(688, (.aload_n 0, 689, 0, 0, 0), []), (689, (.iload 4, 691, 0, 0, 0), []), (691, (.iconst 1, 692, 0, 0, 0), []), (692, (.iadd, 693, 0, 0, 0), []), (693, (.iaload, 694, 0, 0, 0), []), (694, (.invokevirtual 135, 697, 241, 1, 11), [8155, 8156, 8157, 1014]), (697, (.istore 6, 699, 0, 0, 0), []), (699, (.aload_n 2, 700, 0, 0, 0), []), (700, (.invokevirtual 105, 703, 204, 0, 11), [7231, 7232, 7233, 1014]), (703, (.iload 5, 705, 0, 0, 0), [])],
  [(705, (.if_icmp .eq 5, 708, 710, 0, 0), []), (708, (.iconst 0, 709, 0, 0, 0), []), (709, (.ireturn, 710, 0, 0, 0), []), (710, (.iload 5, 712, 0, 0, 0), []), (712, (.ifCond .ne 15, 715, 727, 0, 0), []), (715, (.aload_n 3, 716, 0, 0, 0), []), (716, (.iconst 0, 717, 0, 0, 0), []), (717, (.laload, 718, 0, 0, 0), []), (718, (.iload 6, 720, 0, 0, 0), [])],
  [(720, (.i2l, 721, 0, 0, 0), []), (721, (.lcmp, 722, 0, 0, 0), []), (722, (.ifCond .eq 5, 725, 727, 0, 0), []), (725, (.iconst 0, 726, 0, 0, 0), []), (726, (.ireturn, 727, 0, 0, 0), []), (727, (.goto 1481, 730, 2208, 0, 0), []), (730, (.aload_n 1, 731, 0, 0, 0), []), (731, (.aload_n 0, 732, 0, 0, 0), []), (732, (.iload 4, 734, 0, 0, 0), []), (734, (.iconst 1, 735, 0, 0, 0), []), (735, (.iadd, 736, 0, 0, 0), [])],
  [(736, (.iaload, 737, 0, 0, 0), []), (737, (.aload_n 3, 738, 0, 0, 0), []), (738, (.invokestatic 136, 741, 8, 19, 0), [6158, 6159, 1000]), (741, (.istore 5, 743, 0, 0, 0), []), (743, (.aload_n 2, 744, 0, 0, 0), []), (744, (.aload_n 0, 745, 0, 0, 0), []), (745, (.iload 4, 747, 0, 0, 0), []), (747, (.iconst 1, 748, 0, 0, 0), []), (748, (.iadd, 749, 0, 0, 0), []), (749, (.iaload, 750, 0, 0, 0), []), (750, (.invokevirtual 138, 753, 243, 1, 11), [8163, 8164, 8165, 1014])],
  [(753, (.istore 6, 755, 0, 0, 0), []), (755, (.aload_n 2, 756, 0, 0, 0), []), (756, (.invokevirtual 105, 759, 204, 0, 11), [7231, 7232, 7233, 1014]), (759, (.iload 5, 761, 0, 0, 0), []), (761, (.if_icmp .eq 5, 764, 766, 0, 0), []), (764, (.iconst 0, 765, 0, 0, 0), []), (765, (.ireturn, 766, 0, 0, 0), []), (766, (.iload 5, 768, 0, 0, 0), [])],
  [(768, (.ifCond .ne 15, 771, 783, 0, 0), []), (771, (.aload_n 3, 772, 0, 0, 0), []), (772, (.iconst 0, 773, 0, 0, 0), []), (773, (.laload, 774, 0, 0, 0), []), (774, (.iload 6, 776, 0, 0, 0), []), (776, (.i2l, 777, 0, 0, 0), []), (777, (.lcmp, 778, 0, 0, 0), []), (778, (.ifCond .eq 5, 781, 783, 0, 0), []), (781, (.iconst 0, 782, 0, 0, 0), []), (782, (.ireturn, 783, 0, 0, 0), []), (783, (.goto 1425, 786, 2208, 0, 0), [])],
  [(786, (.aload_n 1, 787, 0, 0, 0), []), (787, (.aload_n 0, 788, 0, 0, 0), []), (788, (.iload 4, 790, 0, 0, 0), []), (790, (.iconst 1, 791, 0, 0, 0), []), (791, (.iadd, 792, 0, 0, 0), []), (792, (.iaload, 793, 0, 0, 0), []), (793, (.aload_n 3, 794, 0, 0, 0), []), (794, (.invokestatic 139, 797, 9, 19, 0), [6170, 6171, 1000]), (797, (.istore 5, 799, 0, 0, 0), []), (799, (.aload_n 2, 800, 0, 0, 0), [])],
  [(800, (.aload_n 0, 801, 0, 0, 0), []), (801, (.iload 4, 803, 0, 0, 0), []), (803, (.iconst 1, 804, 0, 0, 0), []), (804, (.iadd, 805, 0, 0, 0), []), (805, (.iaload, 806, 0, 0, 0), []), (806, (.invokevirtual 141, 809, 245, 1, 11), [8171, 8172, 8173, 1014]), (809, (.istore 6, 811, 0, 0, 0), []), (811, (.aload_n 2, 812, 0, 0, 0), []), (812, (.invokevirtual 105, 815, 204, 0, 11), [7231, 7232, 7233, 1014]), (815, (.iload 5, 817, 0, 0, 0), [])],
  [(817, (.if_icmp .eq 5, 820, 822, 0, 0), []), (820, (.iconst 0, 821, 0, 0, 0), []), (821, (.ireturn, 822, 0, 0, 0), []), (822, (.iload 5, 824, 0, 0, 0), []), (824, (.ifCond .ne 15, 827, 839, 0, 0), []), (827, (.aload_n 3, 828, 0, 0, 0), []), (828, (.iconst 0, 829, 0, 0, 0), []), (829, (.laload, 830, 0, 0, 0), []), (830, (.iload 6, 832, 0, 0, 0), [])],
  [(832, (.i2l, 833, 0, 0, 0), []), (833, (.lcmp, 834, 0, 0, 0), []), (834, (.ifCond .eq 5, 837, 839, 0, 0), []), (837, (.iconst 0, 838, 0, 0, 0), []), (838, (.ireturn, 839, 0, 0, 0), []), (839, (.goto 1369, 842, 2208, 0, 0), []), (842, (.aload_n 1, 843, 0, 0, 0), []), (843, (.aload_n 0, 844, 0, 0, 0), []), (844, (.iload 4, 846, 0, 0, 0), []), (846, (.iconst 1, 847, 0, 0, 0), []), (847, (.iadd, 848, 0, 0, 0), [])],
  [(848, (.iaload, 849, 0, 0, 0), []), (849, (.aload_n 3, 850, 0, 0, 0), []), (850, (.invokestatic 142, 853, 10, 19, 0), [6177, 6178, 1000]), (853, (.istore 5, 855, 0, 0, 0), []), (855, (.aload_n 2, 856, 0, 0, 0), []), (856, (.aload_n 0, 857, 0, 0, 0), []), (857, (.iload 4, 859, 0, 0, 0), []), (859, (.iconst 1, 860, 0, 0, 0), []), (860, (.iadd, 861, 0, 0, 0), []), (861, (.iaload, 862, 0, 0, 0), []), (862, (.invokevirtual 144, 865, 246, 1, 11), [8175, 8176, 8177, 1014])],
  [(865, (.istore 6, 867, 0, 0, 0), []), (867, (.aload_n 2, 868, 0, 0, 0), []), (868, (.invokevirtual 105, 871, 204, 0, 11), [7231, 7232, 7233, 1014]), (871, (.iload 5, 873, 0, 0, 0), []), (873, (.if_icmp .eq 5, 876, 878, 0, 0), []), (876, (.iconst 0, 877, 0, 0, 0), []), (877, (.ireturn, 878, 0, 0, 0), []), (878, (.iload 5, 880, 0, 0, 0), [])],
  [(880, (.ifCond .ne 15, 883, 895, 0, 0), []), (883, (.aload_n 3, 884, 0, 0, 0), []), (884, (.iconst 0, 885, 0, 0, 0), []), (885, (.laload, 886, 0, 0, 0), []), (886, (.iload 6, 888, 0, 0, 0), []), (888, (.i2l, 889, 0, 0, 0), []), (889, (.lcmp, 890, 0, 0, 0), []), (890, (.ifCond .eq 5, 893, 895, 0, 0), []), (893, (.iconst 0, 894, 0, 0, 0), []), (894, (.ireturn, 895, 0, 0, 0), []), (895, (.goto 1313, 898, 2208, 0, 0), [])],
  [(898, (.aload_n 1, 899, 0, 0, 0), []), (899, (.invokevirtual 145, 902, 29, 0, 0), [3058, 3059, 3060, 1001]), (902, (.aload_n 2, 903, 0, 0, 0), []), (903, (.invokevirtual 148, 906, 247, 0, 11), [8179, 8180, 8181, 1014]), (906, (.if_icmp .eq 1302, 909, 2208, 0, 0), []), (909, (.iconst 0, 910, 0, 0, 0), []), (910, (.ireturn, 911, 0, 0, 0), []), (911, (.aload_n 1, 912, 0, 0, 0), [])],
  [(912, (.invokevirtual 149, 915, 30, 0, 0), [3066, 3067, 3068, 1001]), (915, (.aload_n 2, 916, 0, 0, 0), []), (916, (.invokevirtual 152, 919, 248, 0, 11), [8183, 8184, 8185, 1014]), (919, (.if_icmp .eq 1289, 922, 2208, 0, 0), []), (922, (.iconst 0, 923, 0, 0, 0), []), (923, (.ireturn, 924, 0, 0, 0), []), (924, (.aload_n 1, 925, 0, 0, 0), []), (925, (.aload_n 0, 926, 0, 0, 0), []), (926, (.iload 4, 928, 0, 0, 0), [])],
  [(928, (.iconst 1, 929, 0, 0, 0), []), (929, (.iadd, 930, 0, 0, 0), []), (930, (.iaload, 931, 0, 0, 0), []), (931, (.aload_n 3, 932, 0, 0, 0), []), (932, (.invokestatic 153, 935, 11, 19, 0), [6184, 6185, 1000]), (935, (.istore 5, 937, 0, 0, 0), []), (937, (.aload_n 2, 938, 0, 0, 0), []), (938, (.aload_n 0, 939, 0, 0, 0), []), (939, (.iload 4, 941, 0, 0, 0), []), (941, (.iconst 1, 942, 0, 0, 0), []), (942, (.iadd, 943, 0, 0, 0), []), (943, (.iaload, 944, 0, 0, 0), [])],
  [(944, (.invokevirtual 155, 947, 251, 1, 11), [8194, 8195, 8196, 1014]), (947, (.istore 6, 949, 0, 0, 0), []), (949, (.aload_n 2, 950, 0, 0, 0), []), (950, (.invokevirtual 105, 953, 204, 0, 11), [7231, 7232, 7233, 1014]), (953, (.iload 5, 955, 0, 0, 0), []), (955, (.if_icmp .eq 5, 958, 960, 0, 0), []), (958, (.iconst 0, 959, 0, 0, 0), []), (959, (.ireturn, 960, 0, 0, 0), [])],
  [(960, (.iload 5, 962, 0, 0, 0), []), (962, (.ifCond .ne 15, 965, 977, 0, 0), []), (965, (.aload_n 3, 966, 0, 0, 0), []), (966, (.iconst 0, 967, 0, 0, 0), []), (967, (.laload, 968, 0, 0, 0), []), (968, (.iload 6, 970, 0, 0, 0), []), (970, (.i2l, 971, 0, 0, 0), []), (971, (.lcmp, 972, 0, 0, 0), []), (972, (.ifCond .eq 5, 975, 977, 0, 0), []), (975, (.iconst 0, 976, 0, 0, 0), [])],
  [(976, (.ireturn, 977, 0, 0, 0), []), (977, (.goto 1231, 980, 2208, 0, 0), []), (980, (.aload_n 1, 981, 0, 0, 0), []), (981, (.invokevirtual 156, 984, 31, 0, 0), [3073, 3074, 3075, 1001]), (984, (.aload_n 2, 985, 0, 0, 0), []), (985, (.invokevirtual 159, 988, 255, 0, 11), [8210, 8211, 8212, 1014]), (988, (.if_icmp .eq 1220, 991, 2208, 0, 0), []), (991, (.iconst 0, 992, 0, 0, 0), [])],
  [(992, (.ireturn, 993, 0, 0, 0), []), (993, (.aload_n 1, 994, 0, 0, 0), []), (994, (.aload_n 0, 995, 0, 0, 0), []), (995, (.iload 4, 997, 0, 0, 0), []), (997, (.iconst 1, 998, 0, 0, 0), []), (998, (.iadd, 999, 0, 0, 0), []), (999, (.iaload, 1000, 0, 0, 0), []), (1000, (.aload_n 3, 1001, 0, 0, 0), []), (1001, (.invokestatic 160, 1004, 12, 19, 0), [6195, 6196, 1000]), (1004, (.istore 5, 1006, 0, 0, 0), []), (1006, (.aload_n 2, 1007, 0, 0, 0), []), (1007, (.aload_n 0, 1008, 0, 0, 0), [])],
  [(1008, (.iload 4, 1010, 0, 0, 0), []), (1010, (.iconst 1, 1011, 0, 0, 0), []), (1011, (.iadd, 1012, 0, 0, 0), []), (1012, (.iaload, 1013, 0, 0, 0), []), (1013, (.invokevirtual 162, 1016, 256, 1, 11), [8214, 8215, 8216, 1014]), (1016, (.istore 6, 1018, 0, 0, 0), []), (1018, (.aload_n 2, 1019, 0, 0, 0), []), (1019, (.invokevirtual 105, 1022, 204, 0, 11), [7231, 7232, 7233, 1014]), (1022, (.iload 5, 1024, 0, 0, 0), [])],
  [(1024, (.if_icmp .eq 5, 1027, 1029, 0, 0), []), (1027, (.iconst 0, 1028, 0, 0, 0), []), (1028, (.ireturn, 1029, 0, 0, 0), []), (1029, (.iload 5, 1031, 0, 0, 0), []), (1031, (.ifCond .ne 15, 1034, 1046, 0, 0), []), (1034, (.aload_n 3, 1035, 0, 0, 0), []), (1035, (.iconst 0, 1036, 0, 0, 0), []), (1036, (.laload, 1037, 0, 0, 0), []), (1037, (.iload 6, 1039, 0, 0, 0), []), (1039, (.i2l, 1040, 0, 0, 0), [])],
  [(1040, (.lcmp, 1041, 0, 0, 0), []), (1041, (.ifCond .eq 5, 1044, 1046, 0, 0), []), (1044, (.iconst 0, 1045, 0, 0, 0), []), (1045, (.ireturn, 1046, 0, 0, 0), []), (1046, (.goto 1162, 1049, 2208, 0, 0), []), (1049, (.aload_n 1, 1050, 0, 0, 0), []), (1050, (.aload_n 0, 1051, 0, 0, 0), []), (1051, (.iload 4, 1053, 0, 0, 0), []), (1053, (.iconst 1, 1054, 0, 0, 0), []), (1054, (.iadd, 1055, 0, 0, 0), []), (1055, (.iaload, 1056, 0, 0, 0), [])],
  [(1056, (.aload_n 0, 1057, 0, 0, 0), []), (1057, (.iload 4, 1059, 0, 0, 0), []), (1059, (.iconst 2, 1060, 0, 0, 0), []), (1060, (.iadd, 1061, 0, 0, 0), []), (1061, (.iaload, 1062, 0, 0, 0), []), (1062, (.aload_n 3, 1063, 0, 0, 0), []), (1063, (.invokestatic 163, 1066, 13, 20, 0), [6202, 6203, 1000]), (1066, (.istore 5, 1068, 0, 0, 0), []), (1068, (.aload_n 2, 1069, 0, 0, 0), []), (1069, (.aload_n 0, 1070, 0, 0, 0), []), (1070, (.iload 4, 1072, 0, 0, 0), [])],
  [(1072, (.iconst 1, 1073, 0, 0, 0), []), (1073, (.iadd, 1074, 0, 0, 0), []), (1074, (.iaload, 1075, 0, 0, 0), []), (1075, (.aload_n 0, 1076, 0, 0, 0), []), (1076, (.iload 4, 1078, 0, 0, 0), []), (1078, (.iconst 2, 1079, 0, 0, 0), []), (1079, (.iadd, 1080, 0, 0, 0), []), (1080, (.iaload, 1081, 0, 0, 0), []), (1081, (.invokevirtual 166, 1084, 257, 2, 11), [8218, 8219, 8220, 1014]), (1084, (.istore 6, 1086, 0, 0, 0), []), (1086, (.aload_n 2, 1087, 0, 0, 0), []), (1087, (.invokevirtual 105, 1090, 204, 0, 11), [7231, 7232, 7233, 1014])],
  [(1090, (.iload 5, 1092, 0, 0, 0), []), (1092, (.if_icmp .eq 5, 1095, 1097, 0, 0), []), (1095, (.iconst 0, 1096, 0, 0, 0), []), (1096, (.ireturn, 1097, 0, 0, 0), []), (1097, (.iload 5, 1099, 0, 0, 0), []), (1099, (.ifCond .ne 15, 1102, 1114, 0, 0), []), (1102, (.aload_n 3, 1103, 0, 0, 0), []), (1103, (.iconst 0, 1104, 0, 0, 0), [])],
  [(1104, (.laload, 1105, 0, 0, 0), []), (1105, (.iload 6, 1107, 0, 0, 0), []), (1107, (.i2l, 1108, 0, 0, 0), []), (1108, (.lcmp, 1109, 0, 0, 0), []), (1109, (.ifCond .eq 5, 1112, 1114, 0, 0), []), (1112, (.iconst 0, 1113, 0, 0, 0), []), (1113, (.ireturn, 1114, 0, 0, 0), []), (1114, (.goto 1094, 1117, 2208, 0, 0), []), (1117, (.aload_n 1, 1118, 0, 0, 0), []), (1118, (.aload_n 0, 1119, 0, 0, 0), []), (1119, (.iload 4, 1121, 0, 0, 0), [])],
  [(1121, (.iconst 1, 1122, 0, 0, 0), []), (1122, (.iadd, 1123, 0, 0, 0), []), (1123, (.iaload, 1124, 0, 0, 0), []), (1124, (.invokevirtual 167, 1127, 32, 1, 0), [3081, 3082, 3083, 1001]), (1127, (.aload_n 2, 1128, 0, 0, 0), []), (1128, (.aload_n 0, 1129, 0, 0, 0), []), (1129, (.iload 4, 1131, 0, 0, 0), []), (1131, (.iconst 1, 1132, 0, 0, 0), []), (1132, (.iadd, 1133, 0, 0, 0), []), (1133, (.iaload, 1134, 0, 0, 0), []), (1134, (.invokevirtual 170, 1137, 259, 1, 11), [8226, 8227, 8228, 1014])],
  [(1137, (.if_icmp .eq 1071, 1140, 2208, 0, 0), []), (1140, (.iconst 0, 1141, 0, 0, 0), []), (1141, (.ireturn, 1142, 0, 0, 0), []), (1142, (.aload_n 1, 1143, 0, 0, 0), []), (1143, (.invokevirtual 171, 1146, 33, 0, 0), [3089, 3090, 3091, 1001]), (1146, (.aload_n 2, 1147, 0, 0, 0), []), (1147, (.invokevirtual 174, 1150, 260, 0, 11), [8230, 8231, 8232, 1014]), (1150, (.if_icmp .eq 1058, 1153, 2208, 0, 0), [])],
  [(1153, (.iconst 0, 1154, 0, 0, 0), []), (1154, (.ireturn, 1155, 0, 0, 0), []), (1155, (.aload_n 1, 1156, 0, 0, 0), []), (1156, (.invokevirtual 175, 1159, 34, 0, 0), [3099, 3100, 3101, 1001]), (1159, (.aload_n 2, 1160, 0, 0, 0), []), (1160, (.invokevirtual 178, 1163, 261, 0, 11), [8234, 8235, 8236, 1014]), (1163, (.if_icmp .eq 1045, 1166, 2208, 0, 0), []), (1166, (.iconst 0, 1167, 0, 0, 0), []), (1167, (.ireturn, 1168, 0, 0, 0), [])],
  [(1168, (.aload_n 1, 1169, 0, 0, 0), []), (1169, (.aload_n 0, 1170, 0, 0, 0), []), (1170, (.iload 4, 1172, 0, 0, 0), []), (1172, (.iconst 1, 1173, 0, 0, 0), []), (1173, (.iadd, 1174, 0, 0, 0), []), (1174, (.iaload, 1175, 0, 0, 0), []), (1175, (.invokevirtual 179, 1178, 35, 1, 0), [3103, 3104, 3105, 1001]), (1178, (.aload_n 2, 1179, 0, 0, 0), []), (1179, (.aload_n 0, 1180, 0, 0, 0), []), (1180, (.iload 4, 1182, 0, 0, 0), []), (1182, (.iconst 1, 1183, 0, 0, 0), []), (1183, (.iadd, 1184, 0, 0, 0), [])],
  [(1184, (.iaload, 1185, 0, 0, 0), []), (1185, (.invokevirtual 182, 1188, 262, 1, 11), [8238, 8239, 9000, 1014]), (1188, (.if_icmp .eq 1020, 1191, 2208, 0, 0), []), (1191, (.iconst 0, 1192, 0, 0, 0), []), (1192, (.ireturn, 1193, 0, 0, 0), []), (1193, (.aload_n 1, 1194, 0, 0, 0), []), (1194, (.aload_n 0, 1195, 0, 0, 0), []), (1195, (.iload 4, 1197, 0, 0, 0), []), (1197, (.iconst 1, 1198, 0, 0, 0), []), (1198, (.iadd, 1199, 0, 0, 0), []), (1199, (.iaload, 1200, 0, 0, 0), [])],
  [(1200, (.aload_n 3, 1201, 0, 0, 0), []), (1201, (.invokestatic 183, 1204, 14, 19, 0), [6209, 6210, 1000]), (1204, (.istore 5, 1206, 0, 0, 0), []), (1206, (.aload_n 2, 1207, 0, 0, 0), []), (1207, (.aload_n 0, 1208, 0, 0, 0), []), (1208, (.iload 4, 1210, 0, 0, 0), []), (1210, (.iconst 1, 1211, 0, 0, 0), []), (1211, (.iadd, 1212, 0, 0, 0), []), (1212, (.iaload, 1213, 0, 0, 0), []), (1213, (.invokevirtual 185, 1216, 263, 1, 11), [9002, 9003, 9004, 1014])],
  [(1216, (.istore 6, 1218, 0, 0, 0), []), (1218, (.aload_n 2, 1219, 0, 0, 0), []), (1219, (.invokevirtual 105, 1222, 204, 0, 11), [7231, 7232, 7233, 1014]), (1222, (.iload 5, 1224, 0, 0, 0), []), (1224, (.if_icmp .eq 5, 1227, 1229, 0, 0), []), (1227, (.iconst 0, 1228, 0, 0, 0), []), (1228, (.ireturn, 1229, 0, 0, 0), []), (1229, (.iload 5, 1231, 0, 0, 0), []), (1231, (.ifCond .ne 15, 1234, 1246, 0, 0), [])],
  [(1234, (.aload_n 3, 1235, 0, 0, 0), []), (1235, (.iconst 0, 1236, 0, 0, 0), []), (1236, (.laload, 1237, 0, 0, 0), []), (1237, (.iload 6, 1239, 0, 0, 0), []), (1239, (.i2l, 1240, 0, 0, 0), []), (1240, (.lcmp, 1241, 0, 0, 0), []), (1241, (.ifCond .eq 5, 1244, 1246, 0, 0), []), (1244, (.iconst 0, 1245, 0, 0, 0), []), (1245, (.ireturn, 1246, 0, 0, 0), []), (1246, (.goto 962, 1249, 2208, 0, 0), [])],
  [(1249, (.aload_n 1, 1250, 0, 0, 0), []), (1250, (.invokevirtual 186, 1253, 36, 0, 0), [3107, 3108, 3109, 1001]), (1253, (.aload_n 2, 1254, 0, 0, 0), []), (1254, (.invokevirtual 189, 1257, 264, 0, 11), [9006, 9007, 9008, 1014]), (1257, (.if_icmp .eq 951, 1260, 2208, 0, 0), []), (1260, (.iconst 0, 1261, 0, 0, 0), []), (1261, (.ireturn, 1262, 0, 0, 0), []), (1262, (.aload_n 1, 1263, 0, 0, 0), []), (1263, (.invokevirtual 190, 1266, 37, 0, 0), [3111, 3112, 3113, 1001])],
  [(1266, (.aload_n 2, 1267, 0, 0, 0), []), (1267, (.invokevirtual 193, 1270, 265, 0, 11), [9010, 9011, 9012, 1014]), (1270, (.if_icmp .eq 938, 1273, 2208, 0, 0), []), (1273, (.iconst 0, 1274, 0, 0, 0), []), (1274, (.ireturn, 1275, 0, 0, 0), []), (1275, (.aload_n 1, 1276, 0, 0, 0), []), (1276, (.aload_n 0, 1277, 0, 0, 0), []), (1277, (.iload 4, 1279, 0, 0, 0), []), (1279, (.iconst 1, 1280, 0, 0, 0), [])],
  [(1280, (.iadd, 1281, 0, 0, 0), []), (1281, (.iaload, 1282, 0, 0, 0), []), (1282, (.aload_n 3, 1283, 0, 0, 0), []), (1283, (.invokestatic 194, 1286, 15, 19, 0), [6218, 6219, 1000]), (1286, (.istore 5, 1288, 0, 0, 0), []), (1288, (.aload_n 2, 1289, 0, 0, 0), []), (1289, (.aload_n 0, 1290, 0, 0, 0), []), (1290, (.iload 4, 1292, 0, 0, 0), []), (1292, (.iconst 1, 1293, 0, 0, 0), []), (1293, (.iadd, 1294, 0, 0, 0), []), (1294, (.iaload, 1295, 0, 0, 0), []), (1295, (.invokevirtual 196, 1298, 266, 1, 11), [9014, 9015, 9016, 1014])],
  [(1298, (.istore 6, 1300, 0, 0, 0), []), (1300, (.aload_n 2, 1301, 0, 0, 0), []), (1301, (.invokevirtual 105, 1304, 204, 0, 11), [7231, 7232, 7233, 1014]), (1304, (.iload 5, 1306, 0, 0, 0), []), (1306, (.if_icmp .eq 5, 1309, 1311, 0, 0), []), (1309, (.iconst 0, 1310, 0, 0, 0), []), (1310, (.ireturn, 1311, 0, 0, 0), []), (1311, (.iload 5, 1313, 0, 0, 0), [])],
  [(1313, (.ifCond .ne 22, 1316, 1335, 0, 0), []), (1316, (.aload_n 3, 1317, 0, 0, 0), []), (1317, (.iconst 0, 1318, 0, 0, 0), []), (1318, (.laload, 1319, 0, 0, 0), []), (1319, (.iload 6, 1321, 0, 0, 0), []), (1321, (.ifCond .eq 7, 1324, 1328, 0, 0), []), (1324, (.lconst 1, 1325, 0, 0, 0), []), (1325, (.goto 4, 1328, 1329, 0, 0), [])],
  [(1328, (.lconst 0, 1329, 0, 0, 0), []), (1329, (.lcmp, 1330, 0, 0, 0), []), (1330, (.ifCond .eq 5, 1333, 1335, 0, 0), []), (1333, (.iconst 0, 1334, 0, 0, 0), []), (1334, (.ireturn, 1335, 0, 0, 0), []), (1335, (.goto 873, 1338, 2208, 0, 0), []), (1338, (.aload_n 1, 1339, 0, 0, 0), []), (1339, (.invokevirtual 197, 1342, 38, 0, 0), [3123, 3124, 3125, 1001]), (1342, (.aload_n 2, 1343, 0, 0, 0), []), (1343, (.invokevirtual 200, 1346, 268, 0, 11), [9022, 9023, 9024, 1014])],
  [(1346, (.if_icmp .eq 862, 1349, 2208, 0, 0), []), (1349, (.iconst 0, 1350, 0, 0, 0), []), (1350, (.ireturn, 1351, 0, 0, 0), []), (1351, (.aload_n 1, 1352, 0, 0, 0), []), (1352, (.invokevirtual 201, 1355, 39, 0, 0), [3127, 3128, 3129, 1001]), (1355, (.aload_n 2, 1356, 0, 0, 0), []), (1356, (.invokevirtual 204, 1359, 270, 0, 11), [9030, 9031, 9032, 1014]), (1359, (.if_icmp .eq 849, 1362, 2208, 0, 0), [])],
  [(1362, (.iconst 0, 1363, 0, 0, 0), []), (1363, (.ireturn, 1364, 0, 0, 0), []), (1364, (.aload_n 1, 1365, 0, 0, 0), []), (1365, (.invokevirtual 205, 1368, 40, 0, 0), [3131, 3132, 3133, 1001]), (1368, (.aload_n 2, 1369, 0, 0, 0), []), (1369, (.invokevirtual 208, 1372, 271, 0, 11), [9034, 9035, 9036, 1014]), (1372, (.if_icmp .eq 836, 1375, 2208, 0, 0), []), (1375, (.iconst 0, 1376, 0, 0, 0), [])],
  [(1376, (.ireturn, 1377, 0, 0, 0), []), (1377, (.aload_n 1, 1378, 0, 0, 0), []), (1378, (.invokevirtual 209, 1381, 41, 0, 0), [3135, 3136, 3137, 1001]), (1381, (.aload_n 2, 1382, 0, 0, 0), []), (1382, (.invokevirtual 212, 1385, 272, 0, 11), [9038, 9039, 9040, 1014]), (1385, (.if_icmp .eq 823, 1388, 2208, 0, 0), []), (1388, (.iconst 0, 1389, 0, 0, 0), []), (1389, (.ireturn, 1390, 0, 0, 0), []), (1390, (.aload_n 1, 1391, 0, 0, 0), []), (1391, (.invokevirtual 213, 1394, 42, 0, 0), [3139, 3140, 3141, 1001])],
  [(1394, (.aload_n 2, 1395, 0, 0, 0), []), (1395, (.invokevirtual 216, 1398, 273, 0, 11), [9042, 9043, 9044, 1014]), (1398, (.if_icmp .eq 810, 1401, 2208, 0, 0), []), (1401, (.iconst 0, 1402, 0, 0, 0), []), (1402, (.ireturn, 1403, 0, 0, 0), []), (1403, (.aload_n 1, 1404, 0, 0, 0), []), (1404, (.invokevirtual 217, 1407, 43, 0, 0), [3143, 3144, 3145, 1001]), (1407, (.aload_n 2, 1408, 0, 0, 0), [])],
  [(1408, (.invokevirtual 220, 1411, 274, 0, 11), [9046, 9047, 9048, 1014]), (1411, (.if_icmp .eq 797, 1414, 2208, 0, 0), []), (1414, (.iconst 0, 1415, 0, 0, 0), []), (1415, (.ireturn, 1416, 0, 0, 0), []), (1416, (.aload_n 1, 1417, 0, 0, 0), []), (1417, (.aload_n 0, 1418, 0, 0, 0), []), (1418, (.iload 4, 1420, 0, 0, 0), []), (1420, (.iconst 1, 1421, 0, 0, 0), []), (1421, (.iadd, 1422, 0, 0, 0), []), (1422, (.iaload, 1423, 0, 0, 0), []), (1423, (.aload_n 3, 1424, 0, 0, 0), [])],
  [(1424, (.invokestatic 221, 1427, 16, 19, 0), [6226, 6227, 1000]), (1427, (.istore 5, 1429, 0, 0, 0), []), (1429, (.aload_n 2, 1430, 0, 0, 0), []), (1430, (.aload_n 0, 1431, 0, 0, 0), []), (1431, (.iload 4, 1433, 0, 0, 0), []), (1433, (.iconst 1, 1434, 0, 0, 0), []), (1434, (.iadd, 1435, 0, 0, 0), []), (1435, (.iaload, 1436, 0, 0, 0), []), (1436, (.invokevirtual 223, 1439, 275, 1, 11), [9050, 9051, 9052, 1014]), (1439, (.istore 6, 1441, 0, 0, 0), [])],
  [(1441, (.aload_n 2, 1442, 0, 0, 0), []), (1442, (.invokevirtual 105, 1445, 204, 0, 11), [7231, 7232, 7233, 1014]), (1445, (.iload 5, 1447, 0, 0, 0), []), (1447, (.if_icmp .eq 5, 1450, 1452, 0, 0), []), (1450, (.iconst 0, 1451, 0, 0, 0), []), (1451, (.ireturn, 1452, 0, 0, 0), []), (1452, (.iload 5, 1454, 0, 0, 0), []), (1454, (.ifCond .ne 15, 1457, 1469, 0, 0), [])],
  [(1457, (.aload_n 3, 1458, 0, 0, 0), []), (1458, (.iconst 0, 1459, 0, 0, 0), []), (1459, (.laload, 1460, 0, 0, 0), []), (1460, (.iload 6, 1462, 0, 0, 0), []), (1462, (.i2l, 1463, 0, 0, 0), []), (1463, (.lcmp, 1464, 0, 0, 0), []), (1464, (.ifCond .eq 5, 1467, 1469, 0, 0), []), (1467, (.iconst 0, 1468, 0, 0, 0), []), (1468, (.ireturn, 1469, 0, 0, 0), []), (1469, (.goto 739, 1472, 2208, 0, 0), [])],
  [(1472, (.aload_n 1, 1473, 0, 0, 0), []), (1473, (.aload_n 0, 1474, 0, 0, 0), []), (1474, (.iload 4, 1476, 0, 0, 0), []), (1476, (.iconst 1, 1477, 0, 0, 0), []), (1477, (.iadd, 1478, 0, 0, 0), []), (1478, (.iaload, 1479, 0, 0, 0), []), (1479, (.aload_n 3, 1480, 0, 0, 0), []), (1480, (.invokestatic 224, 1483, 17, 19, 0), [6234, 6235, 1000]), (1483, (.istore 5, 1485, 0, 0, 0), []), (1485, (.aload_n 2, 1486, 0, 0, 0), []), (1486, (.aload_n 0, 1487, 0, 0, 0), []), (1487, (.iload 4, 1489, 0, 0, 0), [])],
  [(1489, (.iconst 1, 1490, 0, 0, 0), []), (1490, (.iadd, 1491, 0, 0, 0), []), (1491, (.iaload, 1492, 0, 0, 0), []), (1492, (.invokevirtual 226, 1495, 281, 1, 11), [9074, 9075, 9076, 1014]), (1495, (.istore 6, 1497, 0, 0, 0), []), (1497, (.aload_n 2, 1498, 0, 0, 0), []), (1498, (.invokevirtual 105, 1501, 204, 0, 11), [7231, 7232, 7233, 1014]), (1501, (.iload 5, 1503, 0, 0, 0), []), (1503, (.if_icmp .eq 5, 1506, 1508, 0, 0), [])],
  [(1506, (.iconst 0, 1507, 0, 0, 0), []), (1507, (.ireturn, 1508, 0, 0, 0), []), (1508, (.iload 5, 1510, 0, 0, 0), []), (1510, (.ifCond .ne 15, 1513, 1525, 0, 0), []), (1513, (.aload_n 3, 1514, 0, 0, 0), []), (1514, (.iconst 0, 1515, 0, 0, 0), []), (1515, (.laload, 1516, 0, 0, 0), []), (1516, (.iload 6, 1518, 0, 0, 0), []), (1518, (.i2l, 1519, 0, 0, 0), []), (1519, (.lcmp, 1520, 0, 0, 0), [])],
  [(1520, (.ifCond .eq 5, 1523, 1525, 0, 0), []), (1523, (.iconst 0, 1524, 0, 0, 0), []), (1524, (.ireturn, 1525, 0, 0, 0), []), (1525, (.goto 683, 1528, 2208, 0, 0), []), (1528, (.aload_n 1, 1529, 0, 0, 0), []), (1529, (.aload_n 0, 1530, 0, 0, 0), []), (1530, (.iload 4, 1532, 0, 0, 0), []), (1532, (.iconst 1, 1533, 0, 0, 0), []), (1533, (.iadd, 1534, 0, 0, 0), []), (1534, (.iaload, 1535, 0, 0, 0), []), (1535, (.aload_n 3, 1536, 0, 0, 0), [])],
  [(1536, (.invokestatic 227, 1539, 18, 19, 0), [7002, 7003, 1000]), (1539, (.istore 5, 1541, 0, 0, 0), []), (1541, (.aload_n 2, 1542, 0, 0, 0), []), (1542, (.aload_n 0, 1543, 0, 0, 0), []), (1543, (.iload 4, 1545, 0, 0, 0), []), (1545, (.iconst 1, 1546, 0, 0, 0), []), (1546, (.iadd, 1547, 0, 0, 0), []), (1547, (.iaload, 1548, 0, 0, 0), []), (1548, (.invokevirtual 229, 1551, 284, 1, 11), [9086, 9087, 9088, 1014]), (1551, (.istore 6, 1553, 0, 0, 0), [])],
  [(1553, (.aload_n 2, 1554, 0, 0, 0), []), (1554, (.invokevirtual 105, 1557, 204, 0, 11), [7231, 7232, 7233, 1014]), (1557, (.iload 5, 1559, 0, 0, 0), []), (1559, (.if_icmp .eq 5, 1562, 1564, 0, 0), []), (1562, (.iconst 0, 1563, 0, 0, 0), []), (1563, (.ireturn, 1564, 0, 0, 0), []), (1564, (.iload 5, 1566, 0, 0, 0), []), (1566, (.ifCond .ne 15, 1569, 1581, 0, 0), [])],
  [(1569, (.aload_n 3, 1570, 0, 0, 0), []), (1570, (.iconst 0, 1571, 0, 0, 0), []), (1571, (.laload, 1572, 0, 0, 0), []), (1572, (.iload 6, 1574, 0, 0, 0), []), (1574, (.i2l, 1575, 0, 0, 0), []), (1575, (.lcmp, 1576, 0, 0, 0), []), (1576, (.ifCond .eq 5, 1579, 1581, 0, 0), []), (1579, (.iconst 0, 1580, 0, 0, 0), []), (1580, (.ireturn, 1581, 0, 0, 0), []), (1581, (.goto 627, 1584, 2208, 0, 0), [])],
  [(1584, (.aload_n 1, 1585, 0, 0, 0), []), (1585, (.invokevirtual 230, 1588, 44, 0, 0), [3147, 3148, 3149, 1001]), (1588, (.aload_n 2, 1589, 0, 0, 0), []), (1589, (.invokevirtual 233, 1592, 287, 0, 11), [9098, 9099, 9100, 1014]), (1592, (.if_icmp .eq 616, 1595, 2208, 0, 0), []), (1595, (.iconst 0, 1596, 0, 0, 0), []), (1596, (.ireturn, 1597, 0, 0, 0), []), (1597, (.aload_n 1, 1598, 0, 0, 0), []), (1598, (.invokevirtual 234, 1601, 46, 0, 0), [3182, 3183, 3184, 1001])],
  [(1601, (.aload_n 2, 1602, 0, 0, 0), []), (1602, (.invokevirtual 237, 1605, 288, 0, 11), [9102, 9103, 9104, 1014]), (1605, (.if_icmp .eq 603, 1608, 2208, 0, 0), []), (1608, (.iconst 0, 1609, 0, 0, 0), []), (1609, (.ireturn, 1610, 0, 0, 0), []), (1610, (.aload_n 1, 1611, 0, 0, 0), []), (1611, (.invokevirtual 238, 1614, 47, 0, 0), [4014, 4015, 4016, 1001]), (1614, (.aload_n 2, 1615, 0, 0, 0), []), (1615, (.invokevirtual 241, 1618, 313, 0, 11), [9201, 9202, 9203, 1014])],
  [(1618, (.if_icmp .eq 590, 1621, 2208, 0, 0), []), (1621, (.iconst 0, 1622, 0, 0, 0), []), (1622, (.ireturn, 1623, 0, 0, 0), []), (1623, (.aload_n 1, 1624, 0, 0, 0), []), (1624, (.invokevirtual 242, 1627, 48, 0, 0), [4068, 4069, 4070, 1001]), (1627, (.aload_n 2, 1628, 0, 0, 0), []), (1628, (.invokevirtual 245, 1631, 332, 0, 11), [10035, 10036, 10037, 1014]), (1631, (.if_icmp .eq 577, 1634, 2208, 0, 0), [])],
  [(1634, (.iconst 0, 1635, 0, 0, 0), []), (1635, (.ireturn, 1636, 0, 0, 0), []), (1636, (.aload_n 1, 1637, 0, 0, 0), []), (1637, (.aload_n 0, 1638, 0, 0, 0), []), (1638, (.iload 4, 1640, 0, 0, 0), []), (1640, (.iconst 1, 1641, 0, 0, 0), []), (1641, (.iadd, 1642, 0, 0, 0), []), (1642, (.iaload, 1643, 0, 0, 0), []), (1643, (.aload_n 3, 1644, 0, 0, 0), []), (1644, (.invokestatic 246, 1647, 19, 19, 0), [7010, 7011, 1000]), (1647, (.istore 5, 1649, 0, 0, 0), [])],
  [(1649, (.aload_n 2, 1650, 0, 0, 0), []), (1650, (.aload_n 0, 1651, 0, 0, 0), []), (1651, (.iload 4, 1653, 0, 0, 0), []), (1653, (.iconst 1, 1654, 0, 0, 0), []), (1654, (.iadd, 1655, 0, 0, 0), []), (1655, (.iaload, 1656, 0, 0, 0), []), (1656, (.invokevirtual 248, 1659, 293, 1, 11), [9122, 9123, 9124, 1014]), (1659, (.istore 6, 1661, 0, 0, 0), []), (1661, (.aload_n 2, 1662, 0, 0, 0), []), (1662, (.invokevirtual 105, 1665, 204, 0, 11), [7231, 7232, 7233, 1014])],
  [(1665, (.iload 5, 1667, 0, 0, 0), []), (1667, (.if_icmp .eq 5, 1670, 1672, 0, 0), []), (1670, (.iconst 0, 1671, 0, 0, 0), []), (1671, (.ireturn, 1672, 0, 0, 0), []), (1672, (.iload 5, 1674, 0, 0, 0), []), (1674, (.ifCond .ne 15, 1677, 1689, 0, 0), []), (1677, (.aload_n 3, 1678, 0, 0, 0), []), (1678, (.iconst 0, 1679, 0, 0, 0), []), (1679, (.laload, 1680, 0, 0, 0), [])],
  [(1680, (.iload 6, 1682, 0, 0, 0), []), (1682, (.i2l, 1683, 0, 0, 0), []), (1683, (.lcmp, 1684, 0, 0, 0), []), (1684, (.ifCond .eq 5, 1687, 1689, 0, 0), []), (1687, (.iconst 0, 1688, 0, 0, 0), []), (1688, (.ireturn, 1689, 0, 0, 0), []), (1689, (.goto 519, 1692, 2208, 0, 0), []), (1692, (.aload_n 1, 1693, 0, 0, 0), []), (1693, (.aload_n 0, 1694, 0, 0, 0), []), (1694, (.iload 4, 1696, 0, 0, 0), [])],
  [(1696, (.iconst 1, 1697, 0, 0, 0), []), (1697, (.iadd, 1698, 0, 0, 0), []), (1698, (.iaload, 1699, 0, 0, 0), []), (1699, (.aload_n 3, 1700, 0, 0, 0), []), (1700, (.invokestatic 249, 1703, 20, 19, 0), [7025, 7026, 1000]), (1703, (.istore 5, 1705, 0, 0, 0), []), (1705, (.aload_n 2, 1706, 0, 0, 0), []), (1706, (.aload_n 0, 1707, 0, 0, 0), []), (1707, (.iload 4, 1709, 0, 0, 0), []), (1709, (.iconst 1, 1710, 0, 0, 0), []), (1710, (.iadd, 1711, 0, 0, 0), []), (1711, (.iaload, 1712, 0, 0, 0), [])],
  [(1712, (.invokevirtual 251, 1715, 295, 1, 11), [9131, 9132, 9133, 1014]), (1715, (.istore 6, 1717, 0, 0, 0), []), (1717, (.aload_n 2, 1718, 0, 0, 0), []), (1718, (.invokevirtual 105, 1721, 204, 0, 11), [7231, 7232, 7233, 1014]), (1721, (.iload 5, 1723, 0, 0, 0), []), (1723, (.if_icmp .eq 5, 1726, 1728, 0, 0), []), (1726, (.iconst 0, 1727, 0, 0, 0), []), (1727, (.ireturn, 1728, 0, 0, 0), [])],
  [(1728, (.iload 5, 1730, 0, 0, 0), []), (1730, (.ifCond .ne 15, 1733, 1745, 0, 0), []), (1733, (.aload_n 3, 1734, 0, 0, 0), []), (1734, (.iconst 0, 1735, 0, 0, 0), []), (1735, (.laload, 1736, 0, 0, 0), []), (1736, (.iload 6, 1738, 0, 0, 0), []), (1738, (.i2l, 1739, 0, 0, 0), []), (1739, (.lcmp, 1740, 0, 0, 0), []), (1740, (.ifCond .eq 5, 1743, 1745, 0, 0), []), (1743, (.iconst 0, 1744, 0, 0, 0), [])],
  [(1744, (.ireturn, 1745, 0, 0, 0), []), (1745, (.goto 463, 1748, 2208, 0, 0), []), (1748, (.aload_n 1, 1749, 0, 0, 0), []), (1749, (.aload_n 0, 1750, 0, 0, 0), []), (1750, (.iload 4, 1752, 0, 0, 0), []), (1752, (.iconst 1, 1753, 0, 0, 0), []), (1753, (.iadd, 1754, 0, 0, 0), []), (1754, (.iaload, 1755, 0, 0, 0), []), (1755, (.aload_n 3, 1756, 0, 0, 0), []), (1756, (.invokestatic 252, 1759, 21, 19, 0), [7032, 7033, 1000]), (1759, (.istore 5, 1761, 0, 0, 0), [])],
  [(1761, (.aload_n 2, 1762, 0, 0, 0), []), (1762, (.aload_n 0, 1763, 0, 0, 0), []), (1763, (.iload 4, 1765, 0, 0, 0), []), (1765, (.iconst 1, 1766, 0, 0, 0), []), (1766, (.iadd, 1767, 0, 0, 0), []), (1767, (.iaload, 1768, 0, 0, 0), []), (1768, (.invokevirtual 254, 1771, 296, 1, 11), [9135, 9136, 9137, 1014]), (1771, (.istore 6, 1773, 0, 0, 0), []), (1773, (.aload_n 2, 1774, 0, 0, 0), []), (1774, (.invokevirtual 105, 1777, 204, 0, 11), [7231, 7232, 7233, 1014])],
  [(1777, (.iload 5, 1779, 0, 0, 0), []), (1779, (.if_icmp .eq 5, 1782, 1784, 0, 0), []), (1782, (.iconst 0, 1783, 0, 0, 0), []), (1783, (.ireturn, 1784, 0, 0, 0), []), (1784, (.iload 5, 1786, 0, 0, 0), []), (1786, (.ifCond .ne 15, 1789, 1801, 0, 0), []), (1789, (.aload_n 3, 1790, 0, 0, 0), []), (1790, (.iconst 0, 1791, 0, 0, 0), []), (1791, (.laload, 1792, 0, 0, 0), [])],
  [(1792, (.iload 6, 1794, 0, 0, 0), []), (1794, (.i2l, 1795, 0, 0, 0), []), (1795, (.lcmp, 1796, 0, 0, 0), []), (1796, (.ifCond .eq 5, 1799, 1801, 0, 0), []), (1799, (.iconst 0, 1800, 0, 0, 0), []), (1800, (.ireturn, 1801, 0, 0, 0), []), (1801, (.goto 407, 1804, 2208, 0, 0), []), (1804, (.aload_n 1, 1805, 0, 0, 0), []), (1805, (.aload_n 0, 1806, 0, 0, 0), []), (1806, (.iload 4, 1808, 0, 0, 0), [])],
  [(1808, (.iconst 1, 1809, 0, 0, 0), []), (1809, (.iadd, 1810, 0, 0, 0), []), (1810, (.iaload, 1811, 0, 0, 0), []), (1811, (.aload_n 3, 1812, 0, 0, 0), []), (1812, (.invokestatic 255, 1815, 22, 19, 0), [7039, 7040, 1000]), (1815, (.istore 5, 1817, 0, 0, 0), []), (1817, (.aload_n 2, 1818, 0, 0, 0), []), (1818, (.aload_n 0, 1819, 0, 0, 0), []), (1819, (.iload 4, 1821, 0, 0, 0), []), (1821, (.iconst 1, 1822, 0, 0, 0), []), (1822, (.iadd, 1823, 0, 0, 0), []), (1823, (.iaload, 1824, 0, 0, 0), [])],
  [(1824, (.invokevirtual 257, 1827, 297, 1, 11), [9139, 9140, 9141, 1014]), (1827, (.istore 6, 1829, 0, 0, 0), []), (1829, (.aload_n 2, 1830, 0, 0, 0), []), (1830, (.invokevirtual 105, 1833, 204, 0, 11), [7231, 7232, 7233, 1014]), (1833, (.iload 5, 1835, 0, 0, 0), []), (1835, (.if_icmp .eq 5, 1838, 1840, 0, 0), []), (1838, (.iconst 0, 1839, 0, 0, 0), []), (1839, (.ireturn, 1840, 0, 0, 0), [])],
  [(1840, (.iload 5, 1842, 0, 0, 0), []), (1842, (.ifCond .ne 15, 1845, 1857, 0, 0), []), (1845, (.aload_n 3, 1846, 0, 0, 0), []), (1846, (.iconst 0, 1847, 0, 0, 0), []), (1847, (.laload, 1848, 0, 0, 0), []), (1848, (.iload 6, 1850, 0, 0, 0), []), (1850, (.i2l, 1851, 0, 0, 0), []), (1851, (.lcmp, 1852, 0, 0, 0), []), (1852, (.ifCond .eq 5, 1855, 1857, 0, 0), []), (1855, (.iconst 0, 1856, 0, 0, 0), [])],
  [(1856, (.ireturn, 1857, 0, 0, 0), []), (1857, (.goto 351, 1860, 2208, 0, 0), []), (1860, (.aload_n 1, 1861, 0, 0, 0), []), (1861, (.invokevirtual 258, 1864, 49, 0, 0), [4135, 4136, 4137, 1001]), (1864, (.aload_n 2, 1865, 0, 0, 0), []), (1865, (.invokevirtual 261, 1868, 298, 0, 11), [9143, 9144, 9145, 1014]), (1868, (.if_icmp .eq 340, 1871, 2208, 0, 0), []), (1871, (.iconst 0, 1872, 0, 0, 0), [])],
  [(1872, (.ireturn, 1873, 0, 0, 0), []), (1873, (.aload_n 1, 1874, 0, 0, 0), []), (1874, (.invokevirtual 262, 1877, 50, 0, 0), [4139, 4140, 4141, 1001]), (1877, (.aload_n 2, 1878, 0, 0, 0), []), (1878, (.invokevirtual 265, 1881, 311, 0, 11), [9193, 9194, 9195, 1014]), (1881, (.if_icmp .eq 327, 1884, 2208, 0, 0), []), (1884, (.iconst 0, 1885, 0, 0, 0), []), (1885, (.ireturn, 1886, 0, 0, 0), []), (1886, (.aload_n 1, 1887, 0, 0, 0), []), (1887, (.aload_n 0, 1888, 0, 0, 0), [])],
  [(1888, (.iload 4, 1890, 0, 0, 0), []), (1890, (.iconst 1, 1891, 0, 0, 0), []), (1891, (.iadd, 1892, 0, 0, 0), []), (1892, (.iaload, 1893, 0, 0, 0), []), (1893, (.invokevirtual 266, 1896, 51, 1, 0), [4143, 4144, 4145, 1001]), (1896, (.aload_n 2, 1897, 0, 0, 0), []), (1897, (.aload_n 0, 1898, 0, 0, 0), []), (1898, (.iload 4, 1900, 0, 0, 0), []), (1900, (.iconst 1, 1901, 0, 0, 0), []), (1901, (.iadd, 1902, 0, 0, 0), []), (1902, (.iaload, 1903, 0, 0, 0), []), (1903, (.invokevirtual 269, 1906, 312, 1, 11), [9197, 9198, 9199, 1014])],
  [(1906, (.if_icmp .eq 302, 1909, 2208, 0, 0), []), (1909, (.iconst 0, 1910, 0, 0, 0), []), (1910, (.ireturn, 1911, 0, 0, 0), []), (1911, (.aload_n 1, 1912, 0, 0, 0), []), (1912, (.invokevirtual 270, 1915, 52, 0, 0), [4147, 4148, 4149, 1001]), (1915, (.aload_n 2, 1916, 0, 0, 0), []), (1916, (.invokevirtual 273, 1919, 316, 0, 11), [9213, 9214, 9215, 1014]), (1919, (.if_icmp .eq 289, 1922, 2208, 0, 0), [])],
  [(1922, (.iconst 0, 1923, 0, 0, 0), []), (1923, (.ireturn, 1924, 0, 0, 0), []), (1924, (.aload_n 1, 1925, 0, 0, 0), []), (1925, (.invokevirtual 274, 1928, 53, 0, 0), [4159, 4160, 4161, 1001]), (1928, (.aload_n 2, 1929, 0, 0, 0), []), (1929, (.invokevirtual 277, 1932, 319, 0, 11), [9224, 9225, 9226, 1014]), (1932, (.if_icmp .eq 276, 1935, 2208, 0, 0), []), (1935, (.iconst 0, 1936, 0, 0, 0), [])],
  [(1936, (.ireturn, 1937, 0, 0, 0), []), (1937, (.aload_n 1, 1938, 0, 0, 0), []), (1938, (.invokevirtual 278, 1941, 54, 0, 0), [4171, 4172, 4173, 1001]), (1941, (.aload_n 2, 1942, 0, 0, 0), []), (1942, (.invokevirtual 281, 1945, 320, 0, 11), [9228, 9229, 9230, 1014]), (1945, (.if_icmp .eq 263, 1948, 2208, 0, 0), []), (1948, (.iconst 0, 1949, 0, 0, 0), []), (1949, (.ireturn, 1950, 0, 0, 0), []), (1950, (.aload_n 1, 1951, 0, 0, 0), []), (1951, (.invokevirtual 282, 1954, 55, 0, 0), [4179, 4180, 4181, 1001])],
  [(1954, (.aload_n 2, 1955, 0, 0, 0), []), (1955, (.invokevirtual 285, 1958, 323, 0, 11), [10000, 10001, 10002, 1014]), (1958, (.if_icmp .eq 250, 1961, 2208, 0, 0), []), (1961, (.iconst 0, 1962, 0, 0, 0), []), (1962, (.ireturn, 1963, 0, 0, 0), []), (1963, (.aload_n 1, 1964, 0, 0, 0), []), (1964, (.aload_n 0, 1965, 0, 0, 0), []), (1965, (.iload 4, 1967, 0, 0, 0), []), (1967, (.iconst 1, 1968, 0, 0, 0), [])],
  [(1968, (.iadd, 1969, 0, 0, 0), []), (1969, (.iaload, 1970, 0, 0, 0), []), (1970, (.invokevirtual 286, 1973, 56, 1, 0), [4183, 4184, 4185, 1001]), (1973, (.aload_n 2, 1974, 0, 0, 0), []), (1974, (.aload_n 0, 1975, 0, 0, 0), []), (1975, (.iload 4, 1977, 0, 0, 0), []), (1977, (.iconst 1, 1978, 0, 0, 0), []), (1978, (.iadd, 1979, 0, 0, 0), []), (1979, (.iaload, 1980, 0, 0, 0), []), (1980, (.invokevirtual 289, 1983, 331, 1, 11), [10031, 10032, 10033, 1014]), (1983, (.if_icmp .eq 225, 1986, 2208, 0, 0), [])],
  [(1986, (.iconst 0, 1987, 0, 0, 0), []), (1987, (.ireturn, 1988, 0, 0, 0), []), (1988, (.aload_n 1, 1989, 0, 0, 0), []), (1989, (.invokevirtual 290, 1992, 57, 0, 0), [4187, 4188, 4189, 1001]), (1992, (.aload_n 2, 1993, 0, 0, 0), []), (1993, (.invokevirtual 293, 1996, 344, 0, 11), [10083, 10084, 10085, 1014]), (1996, (.if_icmp .eq 212, 1999, 2208, 0, 0), []), (1999, (.iconst 0, 2000, 0, 0, 0), [])],
  [(2000, (.ireturn, 2001, 0, 0, 0), []), (2001, (.aload_n 1, 2002, 0, 0, 0), []), (2002, (.aload_n 0, 2003, 0, 0, 0), []), (2003, (.iload 4, 2005, 0, 0, 0), []), (2005, (.iconst 1, 2006, 0, 0, 0), []), (2006, (.iadd, 2007, 0, 0, 0), []), (2007, (.iaload, 2008, 0, 0, 0), []), (2008, (.aload_n 0, 2009, 0, 0, 0), []), (2009, (.iload 4, 2011, 0, 0, 0), []), (2011, (.iconst 2, 2012, 0, 0, 0), []), (2012, (.iadd, 2013, 0, 0, 0), []), (2013, (.iaload, 2014, 0, 0, 0), []), (2014, (.aload_n 3, 2015, 0, 0, 0), []), (2015, (.invokestatic 294, 2018, 23, 20, 0), [7047, 7048, 1000])],
  [(2018, (.istore 5, 2020, 0, 0, 0), []), (2020, (.aload_n 2, 2021, 0, 0, 0), []), (2021, (.aload_n 0, 2022, 0, 0, 0), []), (2022, (.iload 4, 2024, 0, 0, 0), []), (2024, (.iconst 1, 2025, 0, 0, 0), []), (2025, (.iadd, 2026, 0, 0, 0), []), (2026, (.iaload, 2027, 0, 0, 0), []), (2027, (.aload_n 0, 2028, 0, 0, 0), []), (2028, (.iload 4, 2030, 0, 0, 0), []), (2030, (.iconst 2, 2031, 0, 0, 0), []), (2031, (.iadd, 2032, 0, 0, 0), [])],
  [(2032, (.iaload, 2033, 0, 0, 0), []), (2033, (.invokevirtual 296, 2036, 345, 2, 11), [10087, 10088, 10089, 1014]), (2036, (.istore 6, 2038, 0, 0, 0), []), (2038, (.aload_n 2, 2039, 0, 0, 0), []), (2039, (.invokevirtual 105, 2042, 204, 0, 11), [7231, 7232, 7233, 1014]), (2042, (.iload 5, 2044, 0, 0, 0), []), (2044, (.if_icmp .eq 5, 2047, 2049, 0, 0), []), (2047, (.iconst 0, 2048, 0, 0, 0), [])],
  [(2048, (.ireturn, 2049, 0, 0, 0), []), (2049, (.iload 5, 2051, 0, 0, 0), []), (2051, (.ifCond .ne 15, 2054, 2066, 0, 0), []), (2054, (.aload_n 3, 2055, 0, 0, 0), []), (2055, (.iconst 0, 2056, 0, 0, 0), []), (2056, (.laload, 2057, 0, 0, 0), []), (2057, (.iload 6, 2059, 0, 0, 0), []), (2059, (.i2l, 2060, 0, 0, 0), []), (2060, (.lcmp, 2061, 0, 0, 0), []), (2061, (.ifCond .eq 5, 2064, 2066, 0, 0), [])],
  [(2064, (.iconst 0, 2065, 0, 0, 0), []), (2065, (.ireturn, 2066, 0, 0, 0), []), (2066, (.goto 142, 2069, 2208, 0, 0), []), (2069, (.aload_n 1, 2070, 0, 0, 0), []), (2070, (.invokevirtual 297, 2073, 58, 0, 0), [4192, 4193, 4194, 1001]), (2073, (.aload_n 2, 2074, 0, 0, 0), []), (2074, (.invokevirtual 300, 2077, 346, 0, 11), [10092, 10093, 10094, 1014]), (2077, (.if_icmp .eq 131, 2080, 2208, 0, 0), [])],
  [(2080, (.iconst 0, 2081, 0, 0, 0), []), (2081, (.ireturn, 2082, 0, 0, 0), []), (2082, (.aload_n 1, 2083, 0, 0, 0), []), (2083, (.aload_n 0, 2084, 0, 0, 0), []), (2084, (.iload 4, 2086, 0, 0, 0), []), (2086, (.iconst 1, 2087, 0, 0, 0), []), (2087, (.iadd, 2088, 0, 0, 0), []), (2088, (.iaload, 2089, 0, 0, 0), []), (2089, (.aload_n 3, 2090, 0, 0, 0), []), (2090, (.invokestatic 301, 2093, 24, 19, 0), [7056, 7057, 1000]), (2093, (.istore 5, 2095, 0, 0, 0), []), (2095, (.aload_n 2, 2096, 0, 0, 0), [])],
  [(2096, (.aload_n 0, 2097, 0, 0, 0), []), (2097, (.iload 4, 2099, 0, 0, 0), []), (2099, (.iconst 1, 2100, 0, 0, 0), []), (2100, (.iadd, 2101, 0, 0, 0), []), (2101, (.iaload, 2102, 0, 0, 0), []), (2102, (.invokevirtual 303, 2105, 350, 1, 11), [10110, 10111, 10112, 1014]), (2105, (.istore 6, 2107, 0, 0, 0), []), (2107, (.aload_n 2, 2108, 0, 0, 0), []), (2108, (.invokevirtual 105, 2111, 204, 0, 11), [7231, 7232, 7233, 1014]), (2111, (.iload 5, 2113, 0, 0, 0), [])],
  [(2113, (.if_icmp .eq 5, 2116, 2118, 0, 0), []), (2116, (.iconst 0, 2117, 0, 0, 0), []), (2117, (.ireturn, 2118, 0, 0, 0), []), (2118, (.iload 5, 2120, 0, 0, 0), []), (2120, (.ifCond .ne 15, 2123, 2135, 0, 0), []), (2123, (.aload_n 3, 2124, 0, 0, 0), []), (2124, (.iconst 0, 2125, 0, 0, 0), []), (2125, (.laload, 2126, 0, 0, 0), []), (2126, (.iload 6, 2128, 0, 0, 0), [])],
  [(2128, (.i2l, 2129, 0, 0, 0), []), (2129, (.lcmp, 2130, 0, 0, 0), []), (2130, (.ifCond .eq 5, 2133, 2135, 0, 0), []), (2133, (.iconst 0, 2134, 0, 0, 0), []), (2134, (.ireturn, 2135, 0, 0, 0), []), (2135, (.goto 73, 2138, 2208, 0, 0), []), (2138, (.aload_n 1, 2139, 0, 0, 0), []), (2139, (.invokevirtual 304, 2142, 59, 0, 0), [5034, 5035, 5036, 1001]), (2142, (.aload_n 2, 2143, 0, 0, 0), []), (2143, (.invokevirtual 307, 2146, 351, 0, 11), [10114, 10115, 10116, 1014])],
  [(2146, (.if_icmp .eq 62, 2149, 2208, 0, 0), []), (2149, (.iconst 0, 2150, 0, 0, 0), []), (2150, (.ireturn, 2151, 0, 0, 0), []), (2151, (.aload_n 1, 2152, 0, 0, 0), []), (2152, (.invokevirtual 308, 2155, 60, 0, 0), [5042, 5043, 5044, 1001]), (2155, (.aload_n 2, 2156, 0, 0, 0), []), (2156, (.invokevirtual 311, 2159, 352, 0, 11), [10118, 10119, 10120, 1014]), (2159, (.if_icmp .eq 49, 2162, 2208, 0, 0), [])],
  [(2162, (.iconst 0, 2163, 0, 0, 0), []), (2163, (.ireturn, 2164, 0, 0, 0), []), (2164, (.aload_n 1, 2165, 0, 0, 0), []), (2165, (.aload_n 3, 2166, 0, 0, 0), []), (2166, (.invokestatic 312, 2169, 25, 18, 0), [7064, 7065, 1000]), (2169, (.istore 5, 2171, 0, 0, 0), []), (2171, (.aload_n 2, 2172, 0, 0, 0), []), (2172, (.invokevirtual 314, 2175, 353, 0, 11), [10122, 10123, 10124, 1014]), (2175, (.istore 6, 2177, 0, 0, 0), [])],
  [(2177, (.aload_n 2, 2178, 0, 0, 0), []), (2178, (.invokevirtual 105, 2181, 204, 0, 11), [7231, 7232, 7233, 1014]), (2181, (.iload 5, 2183, 0, 0, 0), []), (2183, (.if_icmp .eq 5, 2186, 2188, 0, 0), []), (2186, (.iconst 0, 2187, 0, 0, 0), []), (2187, (.ireturn, 2188, 0, 0, 0), []), (2188, (.iload 5, 2190, 0, 0, 0), []), (2190, (.ifCond .ne 15, 2193, 2205, 0, 0), [])],
  [(2193, (.aload_n 3, 2194, 0, 0, 0), []), (2194, (.iconst 0, 2195, 0, 0, 0), []), (2195, (.laload, 2196, 0, 0, 0), []), (2196, (.iload 6, 2198, 0, 0, 0), []), (2198, (.i2l, 2199, 0, 0, 0), []), (2199, (.lcmp, 2200, 0, 0, 0), []), (2200, (.ifCond .eq 5, 2203, 2205, 0, 0), []), (2203, (.iconst 0, 2204, 0, 0, 0), []), (2204, (.ireturn, 2205, 0, 0, 0), []), (2205, (.goto 3, 2208, 2208, 0, 0), [])],
  [(2208, (.iinc 4 6, 2211, 0, 0, 0), []), (2211, (.goto (-2188), 2214, 23, 0, 0), []), (2214, (.iconst 1, 2215, 0, 0, 0), []), (2215, (.ireturn, 2216, 0, 0, 0), [])]]
-- PaintBankLaw.feed(LPaintBank;IIIII[J)I
noncomputable def md_L1 : List (List mm_Ln) := [[(0, (.aload 6, 2, 0, 0, 0), []), (2, (.iconst 0, 3, 0, 0, 0), []), (3, (.aload_n 0, 4, 0, 0, 0), []), (4, (.iload_n 1, 5, 0, 0, 0), []), (5, (.iload_n 2, 6, 0, 0, 0), []), (6, (.iload_n 3, 7, 0, 0, 0), []), (7, (.iload 4, 9, 0, 0, 0), []), (9, (.iload 5, 11, 0, 0, 0), []), (11, (.invokevirtual 7, 14, 61, 5, 0), [5056, 5057, 5058, 1001]), (14, (.i2l, 15, 0, 0, 0), []), (15, (.lastore, 16, 0, 0, 0), [])],
  [(16, (.goto 7, 19, 23, 0, 0), []), (19, (.astore 7, 21, 0, 0, 0), []), (21, (.iconst 1, 22, 0, 0, 0), []), (22, (.ireturn, 23, 0, 0, 0), []), (23, (.iconst 0, 24, 0, 0, 0), []), (24, (.ireturn, 25, 0, 0, 0), [])]]
-- PaintBankLaw.truncate(LPaintBank;I[J)I
noncomputable def md_L2 : List (List mm_Ln) := [[(0, (.aload_n 2, 1, 0, 0, 0), []), (1, (.iconst 0, 2, 0, 0, 0), []), (2, (.aload_n 0, 3, 0, 0, 0), []), (3, (.iload_n 1, 4, 0, 0, 0), []), (4, (.invokevirtual 15, 7, 62, 1, 0), [5135, 5136, 5137, 1001]), (7, (.i2l, 8, 0, 0, 0), []), (8, (.lastore, 9, 0, 0, 0), []), (9, (.goto 6, 12, 15, 0, 0), []), (12, (.astore_n 3, 13, 0, 0, 0), []), (13, (.iconst 1, 14, 0, 0, 0), []), (14, (.ireturn, 15, 0, 0, 0), []), (15, (.iconst 0, 16, 0, 0, 0), [])],
  [(16, (.ireturn, 17, 0, 0, 0), [])]]
-- PaintBankLaw.readSetup(LPaintBank;[J)I
noncomputable def md_L3 : List (List mm_Ln) := [[(0, (.aload_n 1, 1, 0, 0, 0), []), (1, (.iconst 0, 2, 0, 0, 0), []), (2, (.aload_n 0, 3, 0, 0, 0), []), (3, (.invokevirtual 21, 6, 63, 0, 0), [5158, 5159, 5160, 1001]), (6, (.i2l, 7, 0, 0, 0), []), (7, (.lastore, 8, 0, 0, 0), []), (8, (.goto 6, 11, 14, 0, 0), []), (11, (.astore_n 2, 12, 0, 0, 0), []), (12, (.iconst 1, 13, 0, 0, 0), []), (13, (.ireturn, 14, 0, 0, 0), []), (14, (.iconst 0, 15, 0, 0, 0), []), (15, (.ireturn, 16, 0, 0, 0), [])]]
-- PaintBankLaw.runScript(LPaintBank;[J)I
noncomputable def md_L4 : List (List mm_Ln) := [[(0, (.aload_n 1, 1, 0, 0, 0), []), (1, (.iconst 0, 2, 0, 0, 0), []), (2, (.aload_n 0, 3, 0, 0, 0), []), (3, (.invokevirtual 25, 6, 64, 0, 0), [6050, 6051, 6052, 1001]), (6, (.i2l, 7, 0, 0, 0), []), (7, (.lastore, 8, 0, 0, 0), []), (8, (.goto 6, 11, 14, 0, 0), []), (11, (.astore_n 2, 12, 0, 0, 0), []), (12, (.iconst 1, 13, 0, 0, 0), []), (13, (.ireturn, 14, 0, 0, 0), []), (14, (.iconst 0, 15, 0, 0, 0), []), (15, (.ireturn, 16, 0, 0, 0), [])]]
-- PaintBankLaw.setting(LPaintBank;I[J)I
noncomputable def md_L5 : List (List mm_Ln) := [[(0, (.aload_n 2, 1, 0, 0, 0), []), (1, (.iconst 0, 2, 0, 0, 0), []), (2, (.aload_n 0, 3, 0, 0, 0), []), (3, (.iload_n 1, 4, 0, 0, 0), []), (4, (.invokevirtual 28, 7, 65, 1, 0), [6117, 6118, 6119, 1001]), (7, (.i2l, 8, 0, 0, 0), []), (8, (.lastore, 9, 0, 0, 0), []), (9, (.goto 6, 12, 15, 0, 0), []), (12, (.astore_n 3, 13, 0, 0, 0), []), (13, (.iconst 1, 14, 0, 0, 0), []), (14, (.ireturn, 15, 0, 0, 0), []), (15, (.iconst 0, 16, 0, 0, 0), [])],
  [(16, (.ireturn, 17, 0, 0, 0), [])]]
-- PaintBankLaw.changeCost(LPaintBank;I[J)I
noncomputable def md_L6 : List (List mm_Ln) := [[(0, (.aload_n 2, 1, 0, 0, 0), []), (1, (.iconst 0, 2, 0, 0, 0), []), (2, (.aload_n 0, 3, 0, 0, 0), []), (3, (.iload_n 1, 4, 0, 0, 0), []), (4, (.invokevirtual 31, 7, 66, 1, 0), [6126, 6127, 6128, 1001]), (7, (.i2l, 8, 0, 0, 0), []), (8, (.lastore, 9, 0, 0, 0), []), (9, (.goto 6, 12, 15, 0, 0), []), (12, (.astore_n 3, 13, 0, 0, 0), []), (13, (.iconst 1, 14, 0, 0, 0), []), (14, (.ireturn, 15, 0, 0, 0), []), (15, (.iconst 0, 16, 0, 0, 0), [])],
  [(16, (.ireturn, 17, 0, 0, 0), [])]]
-- PaintBankLaw.room(LPaintBank;I[J)I
noncomputable def md_L7 : List (List mm_Ln) := [[(0, (.aload_n 2, 1, 0, 0, 0), []), (1, (.iconst 0, 2, 0, 0, 0), []), (2, (.aload_n 0, 3, 0, 0, 0), []), (3, (.iload_n 1, 4, 0, 0, 0), []), (4, (.invokevirtual 36, 7, 67, 1, 0), [6149, 6150, 6151, 1001]), (7, (.i2l, 8, 0, 0, 0), []), (8, (.lastore, 9, 0, 0, 0), []), (9, (.goto 6, 12, 15, 0, 0), []), (12, (.astore_n 3, 13, 0, 0, 0), []), (13, (.iconst 1, 14, 0, 0, 0), []), (14, (.ireturn, 15, 0, 0, 0), []), (15, (.iconst 0, 16, 0, 0, 0), [])],
  [(16, (.ireturn, 17, 0, 0, 0), [])]]
-- PaintBankLaw.body(LPaintBank;I[J)I
noncomputable def md_L8 : List (List mm_Ln) := [[(0, (.aload_n 2, 1, 0, 0, 0), []), (1, (.iconst 0, 2, 0, 0, 0), []), (2, (.aload_n 0, 3, 0, 0, 0), []), (3, (.iload_n 1, 4, 0, 0, 0), []), (4, (.invokevirtual 39, 7, 69, 1, 0), [6161, 6162, 6163, 1001]), (7, (.i2l, 8, 0, 0, 0), []), (8, (.lastore, 9, 0, 0, 0), []), (9, (.goto 6, 12, 15, 0, 0), []), (12, (.astore_n 3, 13, 0, 0, 0), []), (13, (.iconst 1, 14, 0, 0, 0), []), (14, (.ireturn, 15, 0, 0, 0), []), (15, (.iconst 0, 16, 0, 0, 0), [])],
  [(16, (.ireturn, 17, 0, 0, 0), [])]]
-- PaintBankLaw.colorOf(LPaintBank;I[J)I
noncomputable def md_L9 : List (List mm_Ln) := [[(0, (.aload_n 2, 1, 0, 0, 0), []), (1, (.iconst 0, 2, 0, 0, 0), []), (2, (.aload_n 0, 3, 0, 0, 0), []), (3, (.iload_n 1, 4, 0, 0, 0), []), (4, (.invokevirtual 42, 7, 71, 1, 0), [6173, 6174, 6175, 1001]), (7, (.i2l, 8, 0, 0, 0), []), (8, (.lastore, 9, 0, 0, 0), []), (9, (.goto 6, 12, 15, 0, 0), []), (12, (.astore_n 3, 13, 0, 0, 0), []), (13, (.iconst 1, 14, 0, 0, 0), []), (14, (.ireturn, 15, 0, 0, 0), []), (15, (.iconst 0, 16, 0, 0, 0), [])],
  [(16, (.ireturn, 17, 0, 0, 0), [])]]
-- PaintBankLaw.bad(LPaintBank;I[J)I
noncomputable def md_L10 : List (List mm_Ln) := [[(0, (.aload_n 2, 1, 0, 0, 0), []), (1, (.iconst 0, 2, 0, 0, 0), []), (2, (.aload_n 0, 3, 0, 0, 0), []), (3, (.iload_n 1, 4, 0, 0, 0), []), (4, (.invokevirtual 45, 7, 72, 1, 0), [6180, 6181, 6182, 1001]), (7, (.i2l, 8, 0, 0, 0), []), (8, (.lastore, 9, 0, 0, 0), []), (9, (.goto 6, 12, 15, 0, 0), []), (12, (.astore_n 3, 13, 0, 0, 0), []), (13, (.iconst 1, 14, 0, 0, 0), []), (14, (.ireturn, 15, 0, 0, 0), []), (15, (.iconst 0, 16, 0, 0, 0), [])],
  [(16, (.ireturn, 17, 0, 0, 0), [])]]
-- PaintBankLaw.where(LPaintBank;I[J)I
noncomputable def md_L11 : List (List mm_Ln) := [[(0, (.aload_n 2, 1, 0, 0, 0), []), (1, (.iconst 0, 2, 0, 0, 0), []), (2, (.aload_n 0, 3, 0, 0, 0), []), (3, (.iload_n 1, 4, 0, 0, 0), []), (4, (.invokevirtual 48, 7, 73, 1, 0), [6187, 6188, 6189, 1001]), (7, (.i2l, 8, 0, 0, 0), []), (8, (.lastore, 9, 0, 0, 0), []), (9, (.goto 6, 12, 15, 0, 0), []), (12, (.astore_n 3, 13, 0, 0, 0), []), (13, (.iconst 1, 14, 0, 0, 0), []), (14, (.ireturn, 15, 0, 0, 0), []), (15, (.iconst 0, 16, 0, 0, 0), [])],
  [(16, (.ireturn, 17, 0, 0, 0), [])]]
-- PaintBankLaw.laneLength(LPaintBank;I[J)I
noncomputable def md_L12 : List (List mm_Ln) := [[(0, (.aload_n 2, 1, 0, 0, 0), []), (1, (.iconst 0, 2, 0, 0, 0), []), (2, (.aload_n 0, 3, 0, 0, 0), []), (3, (.iload_n 1, 4, 0, 0, 0), []), (4, (.invokevirtual 51, 7, 74, 1, 0), [6198, 6199, 6200, 1001]), (7, (.i2l, 8, 0, 0, 0), []), (8, (.lastore, 9, 0, 0, 0), []), (9, (.goto 6, 12, 15, 0, 0), []), (12, (.astore_n 3, 13, 0, 0, 0), []), (13, (.iconst 1, 14, 0, 0, 0), []), (14, (.ireturn, 15, 0, 0, 0), []), (15, (.iconst 0, 16, 0, 0, 0), [])],
  [(16, (.ireturn, 17, 0, 0, 0), [])]]
-- PaintBankLaw.inLane(LPaintBank;II[J)I
noncomputable def md_L13 : List (List mm_Ln) := [[(0, (.aload_n 3, 1, 0, 0, 0), []), (1, (.iconst 0, 2, 0, 0, 0), []), (2, (.aload_n 0, 3, 0, 0, 0), []), (3, (.iload_n 1, 4, 0, 0, 0), []), (4, (.iload_n 2, 5, 0, 0, 0), []), (5, (.invokevirtual 54, 8, 75, 2, 0), [6205, 6206, 6207, 1001]), (8, (.i2l, 9, 0, 0, 0), []), (9, (.lastore, 10, 0, 0, 0), []), (10, (.goto 7, 13, 17, 0, 0), []), (13, (.astore 4, 15, 0, 0, 0), []), (15, (.iconst 1, 16, 0, 0, 0), [])],
  [(16, (.ireturn, 17, 0, 0, 0), []), (17, (.iconst 0, 18, 0, 0, 0), []), (18, (.ireturn, 19, 0, 0, 0), [])]]
-- PaintBankLaw.move(LPaintBank;I[J)I
noncomputable def md_L14 : List (List mm_Ln) := [[(0, (.aload_n 2, 1, 0, 0, 0), []), (1, (.iconst 0, 2, 0, 0, 0), []), (2, (.aload_n 0, 3, 0, 0, 0), []), (3, (.iload_n 1, 4, 0, 0, 0), []), (4, (.invokevirtual 58, 7, 76, 1, 0), [6212, 6213, 6214, 1001]), (7, (.i2l, 8, 0, 0, 0), []), (8, (.lastore, 9, 0, 0, 0), []), (9, (.goto 9, 12, 18, 0, 0), []), (12, (.astore_n 3, 13, 0, 0, 0), []), (13, (.iconst 1, 14, 0, 0, 0), []), (14, (.ireturn, 15, 0, 0, 0), []), (15, (.astore_n 3, 16, 0, 0, 0), [])],
  [(16, (.iconst 2, 17, 0, 0, 0), []), (17, (.ireturn, 18, 0, 0, 0), []), (18, (.iconst 0, 19, 0, 0, 0), []), (19, (.ireturn, 20, 0, 0, 0), [])]]
-- PaintBankLaw.canLeave(LPaintBank;I[J)I
noncomputable def md_L15 : List (List mm_Ln) := [[(0, (.aload_n 2, 1, 0, 0, 0), []), (1, (.iconst 0, 2, 0, 0, 0), []), (2, (.aload_n 0, 3, 0, 0, 0), []), (3, (.iload_n 1, 4, 0, 0, 0), []), (4, (.invokevirtual 61, 7, 77, 1, 0), [6221, 6222, 6223, 1001]), (7, (.ifCond .eq 7, 10, 14, 0, 0), []), (10, (.lconst 1, 11, 0, 0, 0), []), (11, (.goto 4, 14, 15, 0, 0), []), (14, (.lconst 0, 15, 0, 0, 0), []), (15, (.lastore, 16, 0, 0, 0), [])],
  [(16, (.goto 6, 19, 22, 0, 0), []), (19, (.astore_n 3, 20, 0, 0, 0), []), (20, (.iconst 1, 21, 0, 0, 0), []), (21, (.ireturn, 22, 0, 0, 0), []), (22, (.iconst 0, 23, 0, 0, 0), []), (23, (.ireturn, 24, 0, 0, 0), [])]]
-- PaintBankLaw.enter(LPaintBank;I[J)I
noncomputable def md_L16 : List (List mm_Ln) := [[(0, (.aload_n 2, 1, 0, 0, 0), []), (1, (.iconst 0, 2, 0, 0, 0), []), (2, (.aload_n 0, 3, 0, 0, 0), []), (3, (.iload_n 1, 4, 0, 0, 0), []), (4, (.invokevirtual 65, 7, 78, 1, 0), [6229, 6230, 6231, 1001]), (7, (.i2l, 8, 0, 0, 0), []), (8, (.lastore, 9, 0, 0, 0), []), (9, (.goto 6, 12, 15, 0, 0), []), (12, (.astore_n 3, 13, 0, 0, 0), []), (13, (.iconst 1, 14, 0, 0, 0), []), (14, (.ireturn, 15, 0, 0, 0), []), (15, (.iconst 0, 16, 0, 0, 0), [])],
  [(16, (.ireturn, 17, 0, 0, 0), [])]]
-- PaintBankLaw.leave(LPaintBank;I[J)I
noncomputable def md_L17 : List (List mm_Ln) := [[(0, (.aload_n 2, 1, 0, 0, 0), []), (1, (.iconst 0, 2, 0, 0, 0), []), (2, (.aload_n 0, 3, 0, 0, 0), []), (3, (.iload_n 1, 4, 0, 0, 0), []), (4, (.invokevirtual 68, 7, 79, 1, 0), [6237, 6238, 6239, 1001]), (7, (.i2l, 8, 0, 0, 0), []), (8, (.lastore, 9, 0, 0, 0), []), (9, (.goto 6, 12, 15, 0, 0), []), (12, (.astore_n 3, 13, 0, 0, 0), []), (13, (.iconst 1, 14, 0, 0, 0), []), (14, (.ireturn, 15, 0, 0, 0), []), (15, (.iconst 0, 16, 0, 0, 0), [])],
  [(16, (.ireturn, 17, 0, 0, 0), [])]]
-- PaintBankLaw.back(LPaintBank;I[J)I
noncomputable def md_L18 : List (List mm_Ln) := [[(0, (.aload_n 2, 1, 0, 0, 0), []), (1, (.iconst 0, 2, 0, 0, 0), []), (2, (.aload_n 0, 3, 0, 0, 0), []), (3, (.iload_n 1, 4, 0, 0, 0), []), (4, (.invokevirtual 71, 7, 80, 1, 0), [7005, 7006, 7007, 1001]), (7, (.i2l, 8, 0, 0, 0), []), (8, (.lastore, 9, 0, 0, 0), []), (9, (.goto 6, 12, 15, 0, 0), []), (12, (.astore_n 3, 13, 0, 0, 0), []), (13, (.iconst 1, 14, 0, 0, 0), []), (14, (.ireturn, 15, 0, 0, 0), []), (15, (.iconst 0, 16, 0, 0, 0), [])],
  [(16, (.ireturn, 17, 0, 0, 0), [])]]
-- PaintBankLaw.ruleCost(LPaintBank;I[J)I
noncomputable def md_L19 : List (List mm_Ln) := [[(0, (.aload_n 2, 1, 0, 0, 0), []), (1, (.iconst 0, 2, 0, 0, 0), []), (2, (.aload_n 0, 3, 0, 0, 0), []), (3, (.iload_n 1, 4, 0, 0, 0), []), (4, (.invokevirtual 74, 7, 81, 1, 0), [7013, 7014, 7015, 1001]), (7, (.i2l, 8, 0, 0, 0), []), (8, (.lastore, 9, 0, 0, 0), []), (9, (.goto 6, 12, 15, 0, 0), []), (12, (.astore_n 3, 13, 0, 0, 0), []), (13, (.iconst 1, 14, 0, 0, 0), []), (14, (.ireturn, 15, 0, 0, 0), []), (15, (.iconst 0, 16, 0, 0, 0), [])],
  [(16, (.ireturn, 17, 0, 0, 0), [])]]
-- PaintBankLaw.ruleOut(LPaintBank;I[J)I
noncomputable def md_L20 : List (List mm_Ln) := [[(0, (.aload_n 2, 1, 0, 0, 0), []), (1, (.iconst 0, 2, 0, 0, 0), []), (2, (.aload_n 0, 3, 0, 0, 0), []), (3, (.iload_n 1, 4, 0, 0, 0), []), (4, (.invokevirtual 77, 7, 84, 1, 0), [7028, 7029, 7030, 1001]), (7, (.i2l, 8, 0, 0, 0), []), (8, (.lastore, 9, 0, 0, 0), []), (9, (.goto 6, 12, 15, 0, 0), []), (12, (.astore_n 3, 13, 0, 0, 0), []), (13, (.iconst 1, 14, 0, 0, 0), []), (14, (.ireturn, 15, 0, 0, 0), []), (15, (.iconst 0, 16, 0, 0, 0), [])],
  [(16, (.ireturn, 17, 0, 0, 0), [])]]
-- PaintBankLaw.stepsToOut(LPaintBank;I[J)I
noncomputable def md_L21 : List (List mm_Ln) := [[(0, (.aload_n 2, 1, 0, 0, 0), []), (1, (.iconst 0, 2, 0, 0, 0), []), (2, (.aload_n 0, 3, 0, 0, 0), []), (3, (.iload_n 1, 4, 0, 0, 0), []), (4, (.invokevirtual 80, 7, 85, 1, 0), [7035, 7036, 7037, 1001]), (7, (.i2l, 8, 0, 0, 0), []), (8, (.lastore, 9, 0, 0, 0), []), (9, (.goto 6, 12, 15, 0, 0), []), (12, (.astore_n 3, 13, 0, 0, 0), []), (13, (.iconst 1, 14, 0, 0, 0), []), (14, (.ireturn, 15, 0, 0, 0), []), (15, (.iconst 0, 16, 0, 0, 0), [])],
  [(16, (.ireturn, 17, 0, 0, 0), [])]]
-- PaintBankLaw.laneFor(LPaintBank;I[J)I
noncomputable def md_L22 : List (List mm_Ln) := [[(0, (.aload_n 2, 1, 0, 0, 0), []), (1, (.iconst 0, 2, 0, 0, 0), []), (2, (.aload_n 0, 3, 0, 0, 0), []), (3, (.iload_n 1, 4, 0, 0, 0), []), (4, (.invokevirtual 83, 7, 86, 1, 0), [7042, 7043, 7044, 1001]), (7, (.i2l, 8, 0, 0, 0), []), (8, (.lastore, 9, 0, 0, 0), []), (9, (.goto 6, 12, 15, 0, 0), []), (12, (.astore_n 3, 13, 0, 0, 0), []), (13, (.iconst 1, 14, 0, 0, 0), []), (14, (.ireturn, 15, 0, 0, 0), []), (15, (.iconst 0, 16, 0, 0, 0), [])],
  [(16, (.ireturn, 17, 0, 0, 0), [])]]
-- PaintBankLaw.log(LPaintBank;II[J)I
noncomputable def md_L23 : List (List mm_Ln) := [[(0, (.aload_n 3, 1, 0, 0, 0), []), (1, (.iconst 0, 2, 0, 0, 0), []), (2, (.aload_n 0, 3, 0, 0, 0), []), (3, (.iload_n 1, 4, 0, 0, 0), []), (4, (.iload_n 2, 5, 0, 0, 0), []), (5, (.invokevirtual 86, 8, 87, 2, 0), [7050, 7051, 7052, 1001]), (8, (.i2l, 9, 0, 0, 0), []), (9, (.lastore, 10, 0, 0, 0), []), (10, (.goto 11, 13, 21, 0, 0), []), (13, (.astore 4, 15, 0, 0, 0), []), (15, (.iconst 1, 16, 0, 0, 0), [])],
  [(16, (.ireturn, 17, 0, 0, 0), []), (17, (.astore 4, 19, 0, 0, 0), []), (19, (.iconst 2, 20, 0, 0, 0), []), (20, (.ireturn, 21, 0, 0, 0), []), (21, (.iconst 0, 22, 0, 0, 0), []), (22, (.ireturn, 23, 0, 0, 0), [])]]
-- PaintBankLaw.reportByte(LPaintBank;I[J)I
noncomputable def md_L24 : List (List mm_Ln) := [[(0, (.aload_n 2, 1, 0, 0, 0), []), (1, (.iconst 0, 2, 0, 0, 0), []), (2, (.aload_n 0, 3, 0, 0, 0), []), (3, (.iload_n 1, 4, 0, 0, 0), []), (4, (.invokevirtual 89, 7, 88, 1, 0), [7059, 7060, 7061, 1001]), (7, (.i2l, 8, 0, 0, 0), []), (8, (.lastore, 9, 0, 0, 0), []), (9, (.goto 6, 12, 15, 0, 0), []), (12, (.astore_n 3, 13, 0, 0, 0), []), (13, (.iconst 1, 14, 0, 0, 0), []), (14, (.ireturn, 15, 0, 0, 0), []), (15, (.iconst 0, 16, 0, 0, 0), [])],
  [(16, (.ireturn, 17, 0, 0, 0), [])]]
-- PaintBankLaw.restore(LPaintBank;[J)I
noncomputable def md_L25 : List (List mm_Ln) := [[(0, (.aload_n 1, 1, 0, 0, 0), []), (1, (.iconst 0, 2, 0, 0, 0), []), (2, (.aload_n 0, 3, 0, 0, 0), []), (3, (.invokevirtual 92, 6, 89, 0, 0), [7067, 7068, 7069, 1001]), (6, (.i2l, 7, 0, 0, 0), []), (7, (.lastore, 8, 0, 0, 0), []), (8, (.goto 6, 11, 14, 0, 0), []), (11, (.astore_n 2, 12, 0, 0, 0), []), (12, (.iconst 1, 13, 0, 0, 0), []), (13, (.ireturn, 14, 0, 0, 0), []), (14, (.iconst 0, 15, 0, 0, 0), []), (15, (.ireturn, 16, 0, 0, 0), [])]]
-- PaintBank.<init>()V
noncomputable def md_L26 : List (List mm_Ln) := [[(0, (.aload_n 0, 1, 0, 0, 0), []), (1, (.invokespecial 3, 4, 0, 80, 0), [1035, 1036, 1037]), (4, (.aload_n 0, 5, 0, 0, 0), []), (5, (.new 9, 8, 1, 0, 0), [1038, 1039, 1002]), (8, (.dup, 9, 0, 0, 0), []), (9, (.invokespecial 11, 12, 91, 32, 1), [1041, 1002]), (12, (.putfield 12, 15, 0, 0, 3), [3010]), (15, (.aload_n 0, 16, 0, 0, 0), [])],
  [(16, (.new 16, 19, 2, 0, 0), [1088, 1089, 1005]), (19, (.dup, 20, 0, 0, 0), []), (20, (.invokespecial 18, 23, 107, 32, 2), [1091, 1005, 1090]), (23, (.putfield 19, 26, 0, 1, 3), [3011]), (26, (.aload_n 0, 27, 0, 0, 0), []), (27, (.new 23, 30, 3, 0, 0), [1194, 1195, 1006]), (30, (.dup, 31, 0, 0, 0), []), (31, (.aload_n 0, 32, 0, 0, 0), [])],
  [(32, (.getfield 12, 35, 0, 0, 0), [3010]), (35, (.invokespecial 25, 38, 116, 33, 3), [1197, 1006, 1196]), (38, (.putfield 28, 41, 0, 2, 3), [3012]), (41, (.aload_n 0, 42, 0, 0, 0), []), (42, (.new 32, 45, 4, 0, 0), [1222, 1223, 1007]), (45, (.dup, 46, 0, 0, 0), []), (46, (.aload_n 0, 47, 0, 0, 0), []), (47, (.getfield 19, 50, 0, 1, 0), [3011])],
  [(50, (.invokespecial 34, 53, 126, 33, 4), [1225, 1007, 1224]), (53, (.putfield 37, 56, 0, 3, 3), [3013]), (56, (.aload_n 0, 57, 0, 0, 0), []), (57, (.new 32, 60, 4, 0, 0), [1222, 1223, 1007]), (60, (.dup, 61, 0, 0, 0), []), (61, (.aload_n 0, 62, 0, 0, 0), []), (62, (.getfield 19, 65, 0, 1, 0), [3011])],
  [(65, (.invokespecial 34, 68, 126, 33, 4), [1225, 1007, 1224]), (68, (.putfield 41, 71, 0, 4, 3), [3014]), (71, (.aload_n 0, 72, 0, 0, 0), []), (72, (.new 44, 75, 6, 0, 0), [2083, 2084, 1009]), (75, (.dup, 76, 0, 0, 0), []), (76, (.aload_n 0, 77, 0, 0, 0), []), (77, (.getfield 19, 80, 0, 1, 0), [3011])],
  [(80, (.aload_n 0, 81, 0, 0, 0), []), (81, (.getfield 37, 84, 0, 3, 0), [3013]), (84, (.invokespecial 46, 87, 160, 34, 6), [2086, 1009, 2085]), (87, (.putfield 49, 90, 0, 5, 3), [3015]), (90, (.aload_n 0, 91, 0, 0, 0), []), (91, (.new 53, 94, 7, 0, 0), [2137, 2138, 1010]), (94, (.dup, 95, 0, 0, 0), []), (95, (.aload_n 0, 96, 0, 0, 0), [])],
  [(96, (.getfield 19, 99, 0, 1, 0), [3011]), (99, (.aload_n 0, 100, 0, 0, 0), []), (100, (.getfield 37, 103, 0, 3, 0), [3013]), (103, (.invokespecial 55, 106, 170, 34, 7), [2140, 1010, 2139]), (106, (.putfield 56, 109, 0, 6, 3), [3016]), (109, (.aload_n 0, 110, 0, 0, 0), []), (110, (.new 60, 113, 8, 0, 0), [2172, 2173, 1011])],
  [(113, (.dup, 114, 0, 0, 0), []), (114, (.aload_n 0, 115, 0, 0, 0), []), (115, (.getfield 12, 118, 0, 0, 0), [3010]), (118, (.aload_n 0, 119, 0, 0, 0), []), (119, (.getfield 37, 122, 0, 3, 0), [3013]), (122, (.aload_n 0, 123, 0, 0, 0), []), (123, (.getfield 49, 126, 0, 5, 0), [3015]), (126, (.aload_n 0, 127, 0, 0, 0), []), (127, (.getfield 56, 130, 0, 6, 0), [3016])],
  [(130, (.invokespecial 62, 133, 181, 36, 8), [2175, 1011, 2174]), (133, (.putfield 65, 136, 0, 7, 3), [3017]), (136, (.aload_n 0, 137, 0, 0, 0), []), (137, (.new 69, 140, 9, 0, 0), [2215, 2216, 1012]), (140, (.dup, 141, 0, 0, 0), []), (141, (.aload_n 0, 142, 0, 0, 0), []), (142, (.getfield 19, 145, 0, 1, 0), [3011])],
  [(145, (.invokespecial 71, 148, 191, 33, 9), [2218, 1012, 2217]), (148, (.putfield 72, 151, 0, 8, 3), [3018]), (151, (.aload_n 0, 152, 0, 0, 0), []), (152, (.new 76, 155, 10, 0, 0), [2235, 2236, 1013]), (155, (.dup, 156, 0, 0, 0), []), (156, (.invokespecial 78, 159, 196, 32, 10), [2238, 1013]), (159, (.putfield 79, 162, 0, 9, 3), [3019])],
  [(162, (.aload_n 0, 163, 0, 0, 0), []), (163, (.new 16, 166, 2, 0, 0), [1088, 1089, 1005]), (166, (.dup, 167, 0, 0, 0), []), (167, (.invokespecial 18, 170, 107, 32, 2), [1091, 1005, 1090]), (170, (.putfield 83, 173, 0, 10, 3), [3020]), (173, (.aload_n 0, 174, 0, 0, 0), []), (174, (.new 32, 177, 4, 0, 0), [1222, 1223, 1007])],
  [(177, (.dup, 178, 0, 0, 0), []), (178, (.aload_n 0, 179, 0, 0, 0), []), (179, (.getfield 83, 182, 0, 10, 0), [3020]), (182, (.invokespecial 34, 185, 126, 33, 4), [1225, 1007, 1224]), (185, (.putfield 86, 188, 0, 11, 3), [3021]), (188, (.aload_n 0, 189, 0, 0, 0), []), (189, (.iconst 0, 190, 0, 0, 0), []), (190, (.putfield 89, 193, 0, 12, 2), [3022])],
  [(193, (.return_, 194, 0, 0, 0), [])]]
-- PaintBank.errorCode()I
noncomputable def md_L27 : List (List mm_Ln) := [[(0, (.aload_n 0, 1, 0, 0, 0), []), (1, (.getfield 12, 4, 0, 0, 0), [3010]), (4, (.getfield 148, 7, 1, 2, 0), [1050]), (7, (.ireturn, 8, 0, 0, 0), [])]]
-- PaintBank.errorPosition()I
noncomputable def md_L28 : List (List mm_Ln) := [[(0, (.aload_n 0, 1, 0, 0, 0), []), (1, (.getfield 12, 4, 0, 0, 0), [3010]), (4, (.getfield 151, 7, 1, 3, 0), [1052]), (7, (.ireturn, 8, 0, 0, 0), [])]]
-- PaintBank.kinds()I
noncomputable def md_L29 : List (List mm_Ln) := [[(0, (.iconst 0, 1, 0, 0, 0), []), (1, (.istore_n 1, 2, 0, 0, 0), []), (2, (.iconst 0, 3, 0, 0, 0), []), (3, (.istore_n 2, 4, 0, 0, 0), []), (4, (.iload_n 2, 5, 0, 0, 0), []), (5, (.aload_n 0, 6, 0, 0, 0), []), (6, (.getfield 19, 9, 0, 1, 0), [3011]), (9, (.getfield 160, 12, 2, 2, 0), [1111]), (12, (.if_icmp .ge 33, 15, 45, 0, 0), []), (15, (.aload_n 0, 16, 0, 0, 0), [])],
  [(16, (.getfield 37, 19, 0, 3, 0), [3013]), (19, (.iload_n 2, 20, 0, 0, 0), []), (20, (.iconst 0, 21, 0, 0, 0), []), (21, (.invokevirtual 213, 24, 127, 2, 4), [3062, 3063, 3064, 1007]), (24, (.aload_n 0, 25, 0, 0, 0), []), (25, (.getfield 37, 28, 0, 3, 0), [3013]), (28, (.iload_n 2, 29, 0, 0, 0), []), (29, (.iload_n 2, 30, 0, 0, 0), []), (30, (.invokevirtual 213, 33, 127, 2, 4), [3062, 3063, 3064, 1007])],
  [(33, (.if_icmp .ne 6, 36, 39, 0, 0), []), (36, (.iinc 1 1, 39, 0, 0, 0), []), (39, (.iinc 2 1, 42, 0, 0, 0), []), (42, (.goto (-38), 45, 4, 0, 0), []), (45, (.iload_n 1, 46, 0, 0, 0), []), (46, (.ireturn, 47, 0, 0, 0), [])]]
-- PaintBank.commonest()I
noncomputable def md_L30 : List (List mm_Ln) := [[(0, (.iconst 0, 1, 0, 0, 0), []), (1, (.istore_n 1, 2, 0, 0, 0), []), (2, (.iconst 0, 3, 0, 0, 0), []), (3, (.istore_n 2, 4, 0, 0, 0), []), (4, (.iload_n 2, 5, 0, 0, 0), []), (5, (.aload_n 0, 6, 0, 0, 0), []), (6, (.getfield 19, 9, 0, 1, 0), [3011]), (9, (.getfield 160, 12, 2, 2, 0), [1111]), (12, (.if_icmp .ge 23, 15, 35, 0, 0), []), (15, (.iload_n 1, 16, 0, 0, 0), [])],
  [(16, (.aload_n 0, 17, 0, 0, 0), []), (17, (.getfield 37, 20, 0, 3, 0), [3013]), (20, (.iload_n 2, 21, 0, 0, 0), []), (21, (.iconst 0, 22, 0, 0, 0), []), (22, (.invokevirtual 213, 25, 127, 2, 4), [3062, 3063, 3064, 1007]), (25, (.invokestatic 217, 28, 354, 18, 0), [3070, 3071, 1022]), (28, (.istore_n 1, 29, 0, 0, 0), []), (29, (.iinc 2 1, 32, 0, 0, 0), [])],
  [(32, (.goto (-28), 35, 4, 0, 0), []), (35, (.iload_n 1, 36, 0, 0, 0), []), (36, (.ireturn, 37, 0, 0, 0), [])]]
-- PaintBank.waiting()I
noncomputable def md_L31 : List (List mm_Ln) := [[(0, (.aload_n 0, 1, 0, 0, 0), []), (1, (.getfield 37, 4, 0, 3, 0), [3013]), (4, (.invokevirtual 226, 7, 128, 0, 4), [3077, 3078, 3079, 1007]), (7, (.ireturn, 8, 0, 0, 0), [])]]
-- PaintBank.inRework(I)I
noncomputable def md_L32 : List (List mm_Ln) := [[(0, (.aload_n 0, 1, 0, 0, 0), []), (1, (.getfield 37, 4, 0, 3, 0), [3013]), (4, (.getfield 240, 7, 4, 4, 0), [2018]), (7, (.iload_n 1, 8, 0, 0, 0), []), (8, (.invokevirtual 237, 11, 154, 1, 5), [3085, 3086, 3087, 1008]), (11, (.ireturn, 12, 0, 0, 0), [])]]
-- PaintBank.readyIn()I
noncomputable def md_L33 : List (List mm_Ln) := [[(0, (.aload_n 0, 1, 0, 0, 0), []), (1, (.getfield 37, 4, 0, 3, 0), [3013]), (4, (.invokevirtual 244, 7, 129, 0, 4), [3093, 3094, 3095, 1007]), (7, (.ireturn, 8, 0, 0, 0), [])]]
-- PaintBank.outCount()I
noncomputable def md_L34 : List (List mm_Ln) := [[(0, (.aload_n 0, 1, 0, 0, 0), []), (1, (.getfield 37, 4, 0, 3, 0), [3013]), (4, (.getfield 247, 7, 4, 6, 0), [2023]), (7, (.getfield 232, 10, 5, 1, 0), [2001]), (10, (.ireturn, 11, 0, 0, 0), [])]]
-- PaintBank.out(I)I
noncomputable def md_L35 : List (List mm_Ln) := [[(0, (.aload_n 0, 1, 0, 0, 0), []), (1, (.getfield 37, 4, 0, 3, 0), [3013]), (4, (.getfield 247, 7, 4, 6, 0), [2023]), (7, (.iload_n 1, 8, 0, 0, 0), []), (8, (.invokevirtual 237, 11, 154, 1, 5), [3085, 3086, 3087, 1008]), (11, (.ireturn, 12, 0, 0, 0), [])]]
-- PaintBank.late()I
noncomputable def md_L36 : List (List mm_Ln) := [[(0, (.iconst 0, 1, 0, 0, 0), []), (1, (.istore_n 1, 2, 0, 0, 0), []), (2, (.iconst 0, 3, 0, 0, 0), []), (3, (.istore_n 2, 4, 0, 0, 0), []), (4, (.iload_n 2, 5, 0, 0, 0), []), (5, (.aload_n 0, 6, 0, 0, 0), []), (6, (.getfield 37, 9, 0, 3, 0), [3013]), (9, (.getfield 247, 12, 4, 6, 0), [2023]), (12, (.getfield 232, 15, 5, 1, 0), [2001]), (15, (.if_icmp .ge 35, 18, 50, 0, 0), [])],
  [(18, (.iload_n 2, 19, 0, 0, 0), []), (19, (.aload_n 0, 20, 0, 0, 0), []), (20, (.getfield 37, 23, 0, 3, 0), [3013]), (23, (.getfield 247, 26, 4, 6, 0), [2023]), (26, (.iload_n 2, 27, 0, 0, 0), []), (27, (.invokevirtual 237, 30, 154, 1, 5), [3085, 3086, 3087, 1008]), (30, (.isub, 31, 0, 0, 0), []), (31, (.aload_n 0, 32, 0, 0, 0), [])],
  [(32, (.getfield 19, 35, 0, 1, 0), [3011]), (35, (.getfield 166, 38, 2, 4, 0), [1120]), (38, (.if_icmp .le 6, 41, 44, 0, 0), []), (41, (.iinc 1 1, 44, 0, 0, 0), []), (44, (.iinc 2 1, 47, 0, 0, 0), []), (47, (.goto (-43), 50, 4, 0, 0), [])],
  [(50, (.iload_n 1, 51, 0, 0, 0), []), (51, (.ireturn, 52, 0, 0, 0), [])]]
-- PaintBank.longestBatch()I
noncomputable def md_L37 : List (List mm_Ln) := [[(0, (.aload_n 0, 1, 0, 0, 0), []), (1, (.getfield 37, 4, 0, 3, 0), [3013]), (4, (.invokevirtual 255, 7, 130, 0, 4), [3115, 3116, 3117, 1007]), (7, (.ireturn, 8, 0, 0, 0), [])]]
-- PaintBank.hose()I
noncomputable def md_L38 : List (List mm_Ln) := [[(0, (.aload_n 0, 1, 0, 0, 0), []), (1, (.getfield 37, 4, 0, 3, 0), [3013]), (4, (.getfield 262, 7, 4, 8, 0), [2028]), (7, (.ireturn, 8, 0, 0, 0), [])]]
-- PaintBank.run()I
noncomputable def md_L39 : List (List mm_Ln) := [[(0, (.aload_n 0, 1, 0, 0, 0), []), (1, (.getfield 37, 4, 0, 3, 0), [3013]), (4, (.getfield 265, 7, 4, 9, 0), [2031]), (7, (.ireturn, 8, 0, 0, 0), [])]]
-- PaintBank.time()I
noncomputable def md_L40 : List (List mm_Ln) := [[(0, (.aload_n 0, 1, 0, 0, 0), []), (1, (.getfield 37, 4, 0, 3, 0), [3013]), (4, (.getfield 268, 7, 4, 10, 0), [2033]), (7, (.ireturn, 8, 0, 0, 0), [])]]
-- PaintBank.changes()I
noncomputable def md_L41 : List (List mm_Ln) := [[(0, (.aload_n 0, 1, 0, 0, 0), []), (1, (.getfield 37, 4, 0, 3, 0), [3013]), (4, (.getfield 271, 7, 4, 11, 0), [2035]), (7, (.ireturn, 8, 0, 0, 0), [])]]
-- PaintBank.purges()I
noncomputable def md_L42 : List (List mm_Ln) := [[(0, (.aload_n 0, 1, 0, 0, 0), []), (1, (.getfield 37, 4, 0, 3, 0), [3013]), (4, (.getfield 274, 7, 4, 12, 0), [2037]), (7, (.ireturn, 8, 0, 0, 0), [])]]
-- PaintBank.cost()I
noncomputable def md_L43 : List (List mm_Ln) := [[(0, (.aload_n 0, 1, 0, 0, 0), []), (1, (.getfield 37, 4, 0, 3, 0), [3013]), (4, (.getfield 277, 7, 4, 13, 0), [2039]), (7, (.ireturn, 8, 0, 0, 0), [])]]
-- PaintBank.waits()I
noncomputable def md_L44 : List (List mm_Ln) := [[(0, (.aload_n 0, 1, 0, 0, 0), []), (1, (.getfield 72, 4, 0, 8, 0), [3018]), (4, (.aload_n 0, 5, 0, 0, 0), []), (5, (.getfield 37, 8, 0, 3, 0), [3013]), (8, (.invokevirtual 136, 11, 192, 1, 9), [3151, 3152, 3153, 1012]), (11, (.aload_n 0, 12, 0, 0, 0), []), (12, (.aload_n 0, 13, 0, 0, 0), []), (13, (.getfield 37, 16, 0, 3, 0), [3013])],
  [(16, (.invokevirtual 292, 19, 133, 0, 4), [3167, 3168, 3169, 1007]), (19, (.invokevirtual 283, 22, 45, 1, 0), [3171, 3173, 0, 1001]), (22, (.ireturn, 23, 0, 0, 0), [])]]
-- PaintBank.keptIfDone(I)I
noncomputable def md_L45 : List (List mm_Ln) := [[(0, (.iload_n 1, 1, 0, 0, 0), []), (1, (.iconst (-1), 2, 0, 0, 0), []), (2, (.if_icmp .eq 10, 5, 12, 0, 0), []), (5, (.aload_n 0, 6, 0, 0, 0), []), (6, (.getfield 72, 9, 0, 8, 0), [3018]), (9, (.invokevirtual 145, 12, 193, 0, 9), [3175, 3176, 3177, 1012]), (12, (.iload_n 1, 13, 0, 0, 0), []), (13, (.ireturn, 14, 0, 0, 0), [])]]
-- PaintBank.step()I
noncomputable def md_L46 : List (List mm_Ln) := [[(0, (.aload_n 0, 1, 0, 0, 0), []), (1, (.getfield 72, 4, 0, 8, 0), [3018]), (4, (.aload_n 0, 5, 0, 0, 0), []), (5, (.getfield 37, 8, 0, 3, 0), [3013]), (8, (.invokevirtual 136, 11, 192, 1, 9), [3151, 3152, 3153, 1012]), (11, (.aload_n 0, 12, 0, 0, 0), []), (12, (.aload_n 0, 13, 0, 0, 0), []), (13, (.getfield 37, 16, 0, 3, 0), [3013])],
  [(16, (.invokevirtual 295, 19, 134, 0, 4), [3186, 3187, 3188, 1007]), (19, (.invokevirtual 283, 22, 45, 1, 0), [3171, 3173, 0, 1001]), (22, (.ireturn, 23, 0, 0, 0), [])]]
-- PaintBank.unload()I
noncomputable def md_L47 : List (List mm_Ln) := [[(0, (.aload_n 0, 1, 0, 0, 0), []), (1, (.getfield 72, 4, 0, 8, 0), [3018]), (4, (.aload_n 0, 5, 0, 0, 0), []), (5, (.getfield 37, 8, 0, 3, 0), [3013]), (8, (.invokevirtual 136, 11, 192, 1, 9), [3151, 3152, 3153, 1012]), (11, (.aload_n 0, 12, 0, 0, 0), []), (12, (.getfield 49, 15, 0, 5, 0), [3015]), (15, (.invokevirtual 298, 18, 161, 0, 6), [4018, 4019, 4020, 1009])],
  [(18, (.aload_n 0, 19, 0, 0, 0), []), (19, (.getfield 49, 22, 0, 5, 0), [3015]), (22, (.getfield 301, 25, 6, 9, 0), [2103]), (25, (.ifCond .eq 13, 28, 38, 0, 0), []), (28, (.aload_n 0, 29, 0, 0, 0), []), (29, (.getfield 49, 32, 0, 5, 0), [3015])],
  [(32, (.invokevirtual 304, 35, 169, 0, 6), [4062, 4063, 4064, 1009]), (35, (.goto 4, 38, 39, 0, 0), []), (38, (.iconst 0, 39, 0, 0, 0), []), (39, (.istore_n 1, 40, 0, 0, 0), []), (40, (.aload_n 0, 41, 0, 0, 0), []), (41, (.iload_n 1, 42, 0, 0, 0), []), (42, (.ifCond .ne 7, 45, 49, 0, 0), []), (45, (.iconst (-1), 46, 0, 0, 0), []), (46, (.goto 4, 49, 50, 0, 0), [])],
  [(49, (.iload_n 1, 50, 0, 0, 0), []), (50, (.invokevirtual 283, 53, 45, 1, 0), [3171, 3173, 0, 1001]), (53, (.ireturn, 54, 0, 0, 0), [])]]
-- PaintBank.swap()I
noncomputable def md_L48 : List (List mm_Ln) := [[(0, (.aload_n 0, 1, 0, 0, 0), []), (1, (.getfield 72, 4, 0, 8, 0), [3018]), (4, (.aload_n 0, 5, 0, 0, 0), []), (5, (.getfield 37, 8, 0, 3, 0), [3013]), (8, (.invokevirtual 136, 11, 192, 1, 9), [3151, 3152, 3153, 1012]), (11, (.aload_n 0, 12, 0, 0, 0), []), (12, (.getfield 56, 15, 0, 6, 0), [3016]), (15, (.invokevirtual 307, 18, 171, 0, 7), [4072, 4073, 4074, 1010])],
  [(18, (.aload_n 0, 19, 0, 0, 0), []), (19, (.getfield 56, 22, 0, 6, 0), [3016]), (22, (.invokevirtual 308, 25, 180, 0, 7), [4126, 4127, 4128, 1010]), (25, (.istore_n 1, 26, 0, 0, 0), []), (26, (.aload_n 0, 27, 0, 0, 0), []), (27, (.iload_n 1, 28, 0, 0, 0), []), (28, (.ifCond .ne 7, 31, 35, 0, 0), []), (31, (.iconst (-1), 32, 0, 0, 0), [])],
  [(32, (.goto 4, 35, 36, 0, 0), []), (35, (.iload_n 1, 36, 0, 0, 0), []), (36, (.invokevirtual 283, 39, 45, 1, 0), [3171, 3173, 0, 1001]), (39, (.ireturn, 40, 0, 0, 0), [])]]
-- PaintBank.unloadCost()I
noncomputable def md_L49 : List (List mm_Ln) := [[(0, (.aload_n 0, 1, 0, 0, 0), []), (1, (.getfield 49, 4, 0, 5, 0), [3015]), (4, (.invokevirtual 298, 7, 161, 0, 6), [4018, 4019, 4020, 1009]), (7, (.aload_n 0, 8, 0, 0, 0), []), (8, (.getfield 49, 11, 0, 5, 0), [3015]), (11, (.getfield 301, 14, 6, 9, 0), [2103]), (14, (.ifCond .eq 13, 17, 27, 0, 0), [])],
  [(17, (.aload_n 0, 18, 0, 0, 0), []), (18, (.getfield 49, 21, 0, 5, 0), [3015]), (21, (.getfield 318, 24, 6, 11, 0), [2107]), (24, (.goto 4, 27, 28, 0, 0), []), (27, (.iconst (-1), 28, 0, 0, 0), []), (28, (.ireturn, 29, 0, 0, 0), [])]]
-- PaintBank.unloadChanges()I
noncomputable def md_L50 : List (List mm_Ln) := [[(0, (.aload_n 0, 1, 0, 0, 0), []), (1, (.getfield 49, 4, 0, 5, 0), [3015]), (4, (.invokevirtual 298, 7, 161, 0, 6), [4018, 4019, 4020, 1009]), (7, (.aload_n 0, 8, 0, 0, 0), []), (8, (.getfield 49, 11, 0, 5, 0), [3015]), (11, (.getfield 301, 14, 6, 9, 0), [2103]), (14, (.ifCond .eq 13, 17, 27, 0, 0), [])],
  [(17, (.aload_n 0, 18, 0, 0, 0), []), (18, (.getfield 49, 21, 0, 5, 0), [3015]), (21, (.getfield 321, 24, 6, 12, 0), [2109]), (24, (.goto 4, 27, 28, 0, 0), []), (27, (.iconst (-1), 28, 0, 0, 0), []), (28, (.ireturn, 29, 0, 0, 0), [])]]
-- PaintBank.unloadLane(I)I
noncomputable def md_L51 : List (List mm_Ln) := [[(0, (.aload_n 0, 1, 0, 0, 0), []), (1, (.getfield 49, 4, 0, 5, 0), [3015]), (4, (.invokevirtual 298, 7, 161, 0, 6), [4018, 4019, 4020, 1009]), (7, (.aload_n 0, 8, 0, 0, 0), []), (8, (.getfield 49, 11, 0, 5, 0), [3015]), (11, (.getfield 301, 14, 6, 9, 0), [2103]), (14, (.ifCond .eq 17, 17, 31, 0, 0), [])],
  [(17, (.aload_n 0, 18, 0, 0, 0), []), (18, (.getfield 49, 21, 0, 5, 0), [3015]), (21, (.getfield 324, 24, 6, 8, 0), [2100]), (24, (.iload_n 1, 25, 0, 0, 0), []), (25, (.invokevirtual 237, 28, 154, 1, 5), [3085, 3086, 3087, 1008]), (28, (.goto 4, 31, 32, 0, 0), []), (31, (.iconst (-1), 32, 0, 0, 0), [])],
  [(32, (.ireturn, 33, 0, 0, 0), [])]]
-- PaintBank.laneBound()I
noncomputable def md_L52 : List (List mm_Ln) := [[(0, (.aload_n 0, 1, 0, 0, 0), []), (1, (.getfield 37, 4, 0, 3, 0), [3013]), (4, (.aload_n 0, 5, 0, 0, 0), []), (5, (.getfield 37, 8, 0, 3, 0), [3013]), (8, (.invokevirtual 327, 11, 147, 0, 4), [4151, 4152, 4153, 1007]), (11, (.invokevirtual 330, 14, 148, 1, 4), [4155, 4156, 4157, 1007]), (14, (.ireturn, 15, 0, 0, 0), [])]]
-- PaintBank.bound()I
noncomputable def md_L53 : List (List mm_Ln) := [[(0, (.aload_n 0, 1, 0, 0, 0), []), (1, (.getfield 37, 4, 0, 3, 0), [3013]), (4, (.aload_n 0, 5, 0, 0, 0), []), (5, (.getfield 37, 8, 0, 3, 0), [3013]), (8, (.invokevirtual 333, 11, 149, 0, 4), [4163, 4164, 4165, 1007]), (11, (.invokevirtual 330, 14, 148, 1, 4), [4155, 4156, 4157, 1007]), (14, (.ireturn, 15, 0, 0, 0), [])]]
-- PaintBank.waitingChanges()I
noncomputable def md_L54 : List (List mm_Ln) := [[(0, (.aload_n 0, 1, 0, 0, 0), []), (1, (.getfield 37, 4, 0, 3, 0), [3013]), (4, (.invokevirtual 336, 7, 150, 0, 4), [4175, 4176, 4177, 1007]), (7, (.ireturn, 8, 0, 0, 0), [])]]
-- PaintBank.swapChanges()I
noncomputable def md_L55 : List (List mm_Ln) := [[(0, (.aload_n 0, 1, 0, 0, 0), []), (1, (.getfield 56, 4, 0, 6, 0), [3016]), (4, (.invokevirtual 307, 7, 171, 0, 7), [4072, 4073, 4074, 1010]), (7, (.aload_n 0, 8, 0, 0, 0), []), (8, (.getfield 56, 11, 0, 6, 0), [3016]), (11, (.getfield 339, 14, 7, 7, 0), [2154]), (14, (.ireturn, 15, 0, 0, 0), [])]]
-- PaintBank.swapColor(I)I
noncomputable def md_L56 : List (List mm_Ln) := [[(0, (.aload_n 0, 1, 0, 0, 0), []), (1, (.getfield 56, 4, 0, 6, 0), [3016]), (4, (.invokevirtual 307, 7, 171, 0, 7), [4072, 4073, 4074, 1010]), (7, (.aload_n 0, 8, 0, 0, 0), []), (8, (.getfield 56, 11, 0, 6, 0), [3016]), (11, (.getfield 340, 14, 7, 6, 0), [2152]), (14, (.iload_n 1, 15, 0, 0, 0), []), (15, (.invokevirtual 237, 18, 154, 1, 5), [3085, 3086, 3087, 1008])],
  [(18, (.ireturn, 19, 0, 0, 0), [])]]
-- PaintBank.logCount()I
noncomputable def md_L57 : List (List mm_Ln) := [[(0, (.aload_n 0, 1, 0, 0, 0), []), (1, (.getfield 37, 4, 0, 3, 0), [3013]), (4, (.getfield 341, 7, 4, 15, 0), [2043]), (7, (.bipush 20, 9, 0, 0, 0), []), (9, (.invokestatic 344, 12, 355, 18, 0), [4191, 3180, 1022]), (12, (.ireturn, 13, 0, 0, 0), [])]]
-- PaintBank.report()I
noncomputable def md_L58 : List (List mm_Ln) := [[(0, (.aload_n 0, 1, 0, 0, 0), []), (1, (.getfield 79, 4, 0, 9, 0), [3019]), (4, (.aload_n 0, 5, 0, 0, 0), []), (5, (.getfield 19, 8, 0, 1, 0), [3011]), (8, (.aload_n 0, 9, 0, 0, 0), []), (9, (.getfield 37, 12, 0, 3, 0), [3013]), (12, (.invokevirtual 354, 15, 197, 2, 10), [4196, 4197, 4198, 1013]), (15, (.ireturn, 16, 0, 0, 0), [])]]
-- PaintBank.undo()I
noncomputable def md_L59 : List (List mm_Ln) := [[(0, (.aload_n 0, 1, 0, 0, 0), []), (1, (.getfield 72, 4, 0, 8, 0), [3018]), (4, (.aload_n 0, 5, 0, 0, 0), []), (5, (.getfield 37, 8, 0, 3, 0), [3013]), (8, (.invokevirtual 365, 11, 194, 1, 9), [5038, 5039, 5040, 1012]), (11, (.ifCond .eq 13, 14, 24, 0, 0), []), (14, (.aload_n 0, 15, 0, 0, 0), []), (15, (.getfield 72, 18, 0, 8, 0), [3018])],
  [(18, (.getfield 369, 21, 9, 2, 0), [2227]), (21, (.goto 4, 24, 25, 0, 0), []), (24, (.iconst (-1), 25, 0, 0, 0), []), (25, (.ireturn, 26, 0, 0, 0), [])]]
-- PaintBank.save()I
noncomputable def md_L60 : List (List mm_Ln) := [[(0, (.aload_n 0, 1, 0, 0, 0), []), (1, (.getfield 83, 4, 0, 10, 0), [3020]), (4, (.aload_n 0, 5, 0, 0, 0), []), (5, (.getfield 19, 8, 0, 1, 0), [3011]), (8, (.invokevirtual 122, 11, 114, 1, 2), [5046, 5047, 5048, 1005]), (11, (.aload_n 0, 12, 0, 0, 0), []), (12, (.getfield 86, 15, 0, 11, 0), [3021]), (15, (.aload_n 0, 16, 0, 0, 0), [])],
  [(16, (.getfield 37, 19, 0, 3, 0), [3013]), (19, (.invokevirtual 370, 22, 132, 1, 4), [5051, 3156, 3157, 1007]), (22, (.aload_n 0, 23, 0, 0, 0), []), (23, (.iconst 1, 24, 0, 0, 0), []), (24, (.putfield 89, 27, 0, 12, 2), [3022]), (27, (.aload_n 0, 28, 0, 0, 0), []), (28, (.getfield 37, 31, 0, 3, 0), [3013]), (31, (.getfield 268, 34, 4, 10, 0), [2033])],
  [(34, (.ireturn, 35, 0, 0, 0), [])]]
-- PaintBank.feed(IIIII)I
noncomputable def md_L61 : List (List mm_Ln) := [[(0, (.aload_n 0, 1, 0, 0, 0), []), (1, (.getfield 12, 4, 0, 0, 0), [3010]), (4, (.getfield 93, 7, 1, 1, 0), [1047]), (7, (.bipush 20, 9, 0, 0, 0), []), (9, (.iadd, 10, 0, 0, 0), []), (10, (.sipush 800, 13, 0, 0, 0), []), (13, (.if_icmp .le 13, 16, 26, 0, 0), [])],
  [(16, (.new 97, 19, 0, 0, 1), []), (19, (.dup, 20, 0, 0, 0), []), (20, (.ldc 99, 22, 1, 28, 0), []), (26, (.aload_n 0, 27, 0, 0, 0), []), (27, (.getfield 12, 30, 0, 0, 0), [3010]), (30, (.iload_n 1, 31, 0, 0, 0), []), (31, (.invokevirtual 104, 34, 92, 1, 1), [5127, 5128, 5129, 1002])],
  [(34, (.aload_n 0, 35, 0, 0, 0), []), (35, (.getfield 12, 38, 0, 0, 0), [3010]), (38, (.iload_n 2, 39, 0, 0, 0), []), (39, (.invokevirtual 104, 42, 92, 1, 1), [5127, 5128, 5129, 1002]), (42, (.aload_n 0, 43, 0, 0, 0), []), (43, (.getfield 12, 46, 0, 0, 0), [3010]), (46, (.iload_n 3, 47, 0, 0, 0), []), (47, (.invokevirtual 104, 50, 92, 1, 1), [5127, 5128, 5129, 1002])],
  [(50, (.aload_n 0, 51, 0, 0, 0), []), (51, (.getfield 12, 54, 0, 0, 0), [3010]), (54, (.iload 4, 56, 0, 0, 0), []), (56, (.invokevirtual 104, 59, 92, 1, 1), [5127, 5128, 5129, 1002]), (59, (.aload_n 0, 60, 0, 0, 0), []), (60, (.getfield 12, 63, 0, 0, 0), [3010]), (63, (.iload 5, 65, 0, 0, 0), [])],
  [(65, (.invokevirtual 104, 68, 92, 1, 1), [5127, 5128, 5129, 1002]), (68, (.aload_n 0, 69, 0, 0, 0), []), (69, (.getfield 12, 72, 0, 0, 0), [3010]), (72, (.getfield 93, 75, 1, 1, 0), [1047]), (75, (.ireturn, 76, 0, 0, 0), [])]]
-- PaintBank.truncate(I)I
noncomputable def md_L62 : List (List mm_Ln) := [[(0, (.iload_n 1, 1, 0, 0, 0), []), (1, (.ifCond .lt 14, 4, 15, 0, 0), []), (4, (.iload_n 1, 5, 0, 0, 0), []), (5, (.aload_n 0, 6, 0, 0, 0), []), (6, (.getfield 12, 9, 0, 0, 0), [3010]), (9, (.getfield 93, 12, 1, 1, 0), [1047]), (12, (.if_icmp .le 13, 15, 25, 0, 0), []), (15, (.new 108, 18, 1, 0, 1), [])],
  [(18, (.dup, 19, 0, 0, 0), []), (19, (.ldc 110, 21, 1, 29, 0), []), (25, (.aload_n 0, 26, 0, 0, 0), []), (26, (.getfield 12, 29, 0, 0, 0), [3010]), (29, (.iload_n 1, 30, 0, 0, 0), []), (30, (.putfield 93, 33, 1, 1, 0), [1047])],
  [(33, (.iload_n 1, 34, 0, 0, 0), []), (34, (.ireturn, 35, 0, 0, 0), [])]]
-- PaintBank.readSetup()I
noncomputable def md_L63 : List (List mm_Ln) := [[(0, (.aload_n 0, 1, 0, 0, 0), []), (1, (.getfield 28, 4, 0, 2, 0), [3012]), (4, (.invokevirtual 113, 7, 117, 0, 3), [5162, 5163, 5164, 1006]), (7, (.istore_n 1, 8, 0, 0, 0), []), (8, (.aload_n 0, 9, 0, 0, 0), []), (9, (.getfield 12, 12, 0, 0, 0), [3010]), (12, (.iconst 0, 13, 0, 0, 0), []), (13, (.putfield 93, 16, 1, 1, 0), [1047])],
  [(16, (.iload_n 1, 17, 0, 0, 0), []), (17, (.iconst (-1), 18, 0, 0, 0), []), (18, (.if_icmp .ne 13, 21, 31, 0, 0), []), (21, (.new 108, 24, 1, 0, 1), []), (24, (.dup, 25, 0, 0, 0), []), (25, (.ldc 117, 27, 1, 30, 0), []), (31, (.aload_n 0, 32, 0, 0, 0), [])],
  [(32, (.getfield 19, 35, 0, 1, 0), [3011]), (35, (.aload_n 0, 36, 0, 0, 0), []), (36, (.getfield 28, 39, 0, 2, 0), [3012]), (39, (.getfield 119, 42, 3, 0, 0), [1203]), (42, (.invokevirtual 122, 45, 114, 1, 2), [5046, 5047, 5048, 1005]), (45, (.aload_n 0, 46, 0, 0, 0), []), (46, (.getfield 37, 49, 0, 3, 0), [3013])],
  [(49, (.invokevirtual 125, 52, 151, 0, 4), [6039, 6040, 6041, 1007]), (52, (.aload_n 0, 53, 0, 0, 0), []), (53, (.getfield 72, 56, 0, 8, 0), [3018]), (56, (.invokevirtual 128, 59, 195, 0, 9), [6043, 6044, 6045, 1012]), (59, (.iload_n 1, 60, 0, 0, 0), []), (60, (.ireturn, 61, 0, 0, 0), [])]]
-- PaintBank.runScript()I
noncomputable def md_L64 : List (List mm_Ln) := [[(0, (.aload_n 0, 1, 0, 0, 0), []), (1, (.getfield 65, 4, 0, 7, 0), [3017]), (4, (.invokevirtual 131, 7, 182, 0, 8), [6054, 6055, 6056, 1011]), (7, (.istore_n 1, 8, 0, 0, 0), []), (8, (.aload_n 0, 9, 0, 0, 0), []), (9, (.getfield 12, 12, 0, 0, 0), [3010]), (12, (.iconst 0, 13, 0, 0, 0), []), (13, (.putfield 93, 16, 1, 1, 0), [1047])],
  [(16, (.iload_n 1, 17, 0, 0, 0), []), (17, (.ifCond .ne 13, 20, 30, 0, 0), []), (20, (.new 108, 23, 1, 0, 1), []), (23, (.dup, 24, 0, 0, 0), []), (24, (.ldc 134, 26, 1, 31, 0), []), (30, (.aload_n 0, 31, 0, 0, 0), []), (31, (.getfield 72, 34, 0, 8, 0), [3018])],
  [(34, (.aload_n 0, 35, 0, 0, 0), []), (35, (.getfield 37, 38, 0, 3, 0), [3013]), (38, (.invokevirtual 136, 41, 192, 1, 9), [3151, 3152, 3153, 1012]), (41, (.aload_n 0, 42, 0, 0, 0), []), (42, (.getfield 37, 45, 0, 3, 0), [3013]), (45, (.getfield 139, 48, 4, 16, 0), [2047])],
  [(48, (.istore_n 2, 49, 0, 0, 0), []), (49, (.aload_n 0, 50, 0, 0, 0), []), (50, (.getfield 65, 53, 0, 7, 0), [3017]), (53, (.invokevirtual 142, 56, 186, 0, 8), [6082, 6083, 6084, 1011]), (56, (.istore_n 3, 57, 0, 0, 0), []), (57, (.iload_n 3, 58, 0, 0, 0), []), (58, (.ifCond .gt 14, 61, 72, 0, 0), []), (61, (.aload_n 0, 62, 0, 0, 0), []), (62, (.getfield 37, 65, 0, 3, 0), [3013])],
  [(65, (.getfield 139, 68, 4, 16, 0), [2047]), (68, (.iload_n 2, 69, 0, 0, 0), []), (69, (.if_icmp .eq 10, 72, 79, 0, 0), []), (72, (.aload_n 0, 73, 0, 0, 0), []), (73, (.getfield 72, 76, 0, 8, 0), [3018]), (76, (.invokevirtual 145, 79, 193, 0, 9), [3175, 3176, 3177, 1012]), (79, (.iload_n 3, 80, 0, 0, 0), [])],
  [(80, (.ireturn, 81, 0, 0, 0), [])]]
-- PaintBank.setting(I)I
noncomputable def md_L65 : List (List mm_Ln) := [[(0, (.iload_n 1, 1, 0, 0, 0), []), (1, (.tableswitch 135 0 9 #[55, 63, 71, 79, 87, 95, 103, 111, 119, 127], 55, 0, 0, 0), [])],
  [],
  [],
  [(56, (.aload_n 0, 57, 0, 0, 0), []), (57, (.getfield 19, 60, 0, 1, 0), [3011]), (60, (.getfield 154, 63, 2, 0, 0), [1100]), (63, (.ireturn, 64, 0, 0, 0), [])],
  [(64, (.aload_n 0, 65, 0, 0, 0), []), (65, (.getfield 19, 68, 0, 1, 0), [3011]), (68, (.getfield 157, 71, 2, 1, 0), [1107]), (71, (.ireturn, 72, 0, 0, 0), []), (72, (.aload_n 0, 73, 0, 0, 0), []), (73, (.getfield 19, 76, 0, 1, 0), [3011]), (76, (.getfield 160, 79, 2, 2, 0), [1111]), (79, (.ireturn, 80, 0, 0, 0), [])],
  [(80, (.aload_n 0, 81, 0, 0, 0), []), (81, (.getfield 19, 84, 0, 1, 0), [3011]), (84, (.getfield 163, 87, 2, 3, 0), [1115]), (87, (.ireturn, 88, 0, 0, 0), []), (88, (.aload_n 0, 89, 0, 0, 0), []), (89, (.getfield 19, 92, 0, 1, 0), [3011]), (92, (.getfield 166, 95, 2, 4, 0), [1120]), (95, (.ireturn, 96, 0, 0, 0), [])],
  [(96, (.aload_n 0, 97, 0, 0, 0), []), (97, (.getfield 19, 100, 0, 1, 0), [3011]), (100, (.getfield 169, 103, 2, 5, 0), [1123]), (103, (.ireturn, 104, 0, 0, 0), []), (104, (.aload_n 0, 105, 0, 0, 0), []), (105, (.getfield 19, 108, 0, 1, 0), [3011]), (108, (.getfield 172, 111, 2, 6, 0), [1126]), (111, (.ireturn, 112, 0, 0, 0), [])],
  [(112, (.aload_n 0, 113, 0, 0, 0), []), (113, (.getfield 19, 116, 0, 1, 0), [3011]), (116, (.getfield 175, 119, 2, 7, 0), [1128]), (119, (.ireturn, 120, 0, 0, 0), []), (120, (.aload_n 0, 121, 0, 0, 0), []), (121, (.getfield 19, 124, 0, 1, 0), [3011]), (124, (.getfield 178, 127, 2, 8, 0), [1132]), (127, (.ireturn, 128, 0, 0, 0), [])],
  [(128, (.aload_n 0, 129, 0, 0, 0), []), (129, (.getfield 19, 132, 0, 1, 0), [3011]), (132, (.getfield 181, 135, 2, 9, 0), [1137]), (135, (.ireturn, 136, 0, 0, 0), []), (136, (.new 108, 139, 1, 0, 1), []), (139, (.dup, 140, 0, 0, 0), []), (140, (.ldc 184, 142, 1, 32, 0), [])]]
-- PaintBank.changeCost(I)I
noncomputable def md_L66 : List (List mm_Ln) := [[(0, (.iload_n 1, 1, 0, 0, 0), []), (1, (.ifCond .lt 14, 4, 15, 0, 0), []), (4, (.iload_n 1, 5, 0, 0, 0), []), (5, (.aload_n 0, 6, 0, 0, 0), []), (6, (.getfield 19, 9, 0, 1, 0), [3011]), (9, (.getfield 154, 12, 2, 0, 0), [1100]), (12, (.if_icmp .lt 13, 15, 25, 0, 0), []), (15, (.new 186, 18, 2, 0, 1), [])],
  [(18, (.dup, 19, 0, 0, 0), []), (19, (.ldc 188, 21, 1, 33, 0), []), (25, (.aload_n 0, 26, 0, 0, 0), []), (26, (.getfield 19, 29, 0, 1, 0), [3011]), (29, (.getfield 191, 32, 2, 11, 0), [1143])],
  [(32, (.iload_n 1, 33, 0, 0, 0), []), (33, (.iaload, 34, 0, 0, 0), []), (34, (.ireturn, 35, 0, 0, 0), [])]]
-- PaintBank.room(I)I
noncomputable def md_L67 : List (List mm_Ln) := [[(0, (.aload_n 0, 1, 0, 0, 0), []), (1, (.iload_n 1, 2, 0, 0, 0), []), (2, (.invokevirtual 195, 5, 68, 1, 0), [6153, 6155, 38, 1001]), (5, (.aload_n 0, 6, 0, 0, 0), []), (6, (.getfield 19, 9, 0, 1, 0), [3011]), (9, (.getfield 198, 12, 2, 12, 0), [1148]), (12, (.iload_n 1, 13, 0, 0, 0), []), (13, (.iaload, 14, 0, 0, 0), []), (14, (.ireturn, 15, 0, 0, 0), [])]]
-- PaintBank.checkLane(I)V
noncomputable def md_L68 : List (List mm_Ln) := [[(0, (.iload_n 1, 1, 0, 0, 0), []), (1, (.ifCond .lt 14, 4, 15, 0, 0), []), (4, (.iload_n 1, 5, 0, 0, 0), []), (5, (.aload_n 0, 6, 0, 0, 0), []), (6, (.getfield 19, 9, 0, 1, 0), [3011]), (9, (.getfield 157, 12, 2, 1, 0), [1107]), (12, (.if_icmp .lt 14, 15, 26, 0, 0), []), (15, (.new 186, 18, 2, 0, 1), [])],
  [(18, (.dup, 19, 0, 0, 0), []), (26, (.return_, 27, 0, 0, 0), [])]]
-- PaintBank.body(I)I
noncomputable def md_L69 : List (List mm_Ln) := [[(0, (.aload_n 0, 1, 0, 0, 0), []), (1, (.iload_n 1, 2, 0, 0, 0), []), (2, (.invokevirtual 201, 5, 70, 1, 0), [6165, 6167, 39, 1001]), (5, (.aload_n 0, 6, 0, 0, 0), []), (6, (.getfield 19, 9, 0, 1, 0), [3011]), (9, (.getfield 204, 12, 2, 14, 0), [1155]), (12, (.iload_n 1, 13, 0, 0, 0), []), (13, (.iaload, 14, 0, 0, 0), []), (14, (.ireturn, 15, 0, 0, 0), [])]]
-- PaintBank.checkCar(I)V
noncomputable def md_L70 : List (List mm_Ln) := [[(0, (.iload_n 1, 1, 0, 0, 0), []), (1, (.ifCond .lt 14, 4, 15, 0, 0), []), (4, (.iload_n 1, 5, 0, 0, 0), []), (5, (.aload_n 0, 6, 0, 0, 0), []), (6, (.getfield 19, 9, 0, 1, 0), [3011]), (9, (.getfield 160, 12, 2, 2, 0), [1111]), (12, (.if_icmp .lt 14, 15, 26, 0, 0), []), (15, (.new 186, 18, 2, 0, 1), [])],
  [(18, (.dup, 19, 0, 0, 0), []), (26, (.return_, 27, 0, 0, 0), [])]]
-- PaintBank.colorOf(I)I
noncomputable def md_L71 : List (List mm_Ln) := [[(0, (.aload_n 0, 1, 0, 0, 0), []), (1, (.iload_n 1, 2, 0, 0, 0), []), (2, (.invokevirtual 201, 5, 70, 1, 0), [6165, 6167, 39, 1001]), (5, (.aload_n 0, 6, 0, 0, 0), []), (6, (.getfield 37, 9, 0, 3, 0), [3013]), (9, (.getfield 207, 12, 4, 1, 0), [2010]), (12, (.iload_n 1, 13, 0, 0, 0), []), (13, (.iaload, 14, 0, 0, 0), []), (14, (.ireturn, 15, 0, 0, 0), [])]]
-- PaintBank.bad(I)I
noncomputable def md_L72 : List (List mm_Ln) := [[(0, (.aload_n 0, 1, 0, 0, 0), []), (1, (.iload_n 1, 2, 0, 0, 0), []), (2, (.invokevirtual 201, 5, 70, 1, 0), [6165, 6167, 39, 1001]), (5, (.aload_n 0, 6, 0, 0, 0), []), (6, (.getfield 37, 9, 0, 3, 0), [3013]), (9, (.getfield 210, 12, 4, 2, 0), [2012]), (12, (.iload_n 1, 13, 0, 0, 0), []), (13, (.iaload, 14, 0, 0, 0), []), (14, (.ireturn, 15, 0, 0, 0), [])]]
-- PaintBank.where(I)I
noncomputable def md_L73 : List (List mm_Ln) := [[(0, (.aload_n 0, 1, 0, 0, 0), []), (1, (.iload_n 1, 2, 0, 0, 0), []), (2, (.invokevirtual 201, 5, 70, 1, 0), [6165, 6167, 39, 1001]), (5, (.aload_n 0, 6, 0, 0, 0), []), (6, (.getfield 37, 9, 0, 3, 0), [3013]), (9, (.iload_n 1, 10, 0, 0, 0), []), (10, (.invokevirtual 222, 13, 152, 1, 4), [6191, 6192, 6193, 1007]), (13, (.ireturn, 14, 0, 0, 0), [])]]
-- PaintBank.laneLength(I)I
noncomputable def md_L74 : List (List mm_Ln) := [[(0, (.aload_n 0, 1, 0, 0, 0), []), (1, (.iload_n 1, 2, 0, 0, 0), []), (2, (.invokevirtual 195, 5, 68, 1, 0), [6153, 6155, 38, 1001]), (5, (.aload_n 0, 6, 0, 0, 0), []), (6, (.getfield 37, 9, 0, 3, 0), [3013]), (9, (.getfield 229, 12, 4, 3, 0), [2016]), (12, (.iload_n 1, 13, 0, 0, 0), []), (13, (.aaload, 14, 0, 0, 0), []), (14, (.getfield 232, 17, 5, 1, 0), [2001])],
  [(17, (.ireturn, 18, 0, 0, 0), [])]]
-- PaintBank.inLane(II)I
noncomputable def md_L75 : List (List mm_Ln) := [[(0, (.aload_n 0, 1, 0, 0, 0), []), (1, (.iload_n 1, 2, 0, 0, 0), []), (2, (.invokevirtual 195, 5, 68, 1, 0), [6153, 6155, 38, 1001]), (5, (.aload_n 0, 6, 0, 0, 0), []), (6, (.getfield 37, 9, 0, 3, 0), [3013]), (9, (.getfield 229, 12, 4, 3, 0), [2016]), (12, (.iload_n 1, 13, 0, 0, 0), []), (13, (.aaload, 14, 0, 0, 0), []), (14, (.iload_n 2, 15, 0, 0, 0), []), (15, (.invokevirtual 237, 18, 154, 1, 5), [3085, 3086, 3087, 1008])],
  [(18, (.ireturn, 19, 0, 0, 0), [])]]
-- PaintBank.move(I)I
noncomputable def md_L76 : List (List mm_Ln) := [[(0, (.aload_n 0, 1, 0, 0, 0), []), (1, (.iload_n 1, 2, 0, 0, 0), []), (2, (.invokevirtual 201, 5, 70, 1, 0), [6165, 6167, 39, 1001]), (5, (.aload_n 0, 6, 0, 0, 0), []), (6, (.getfield 37, 9, 0, 3, 0), [3013]), (9, (.getfield 247, 12, 4, 6, 0), [2023]), (12, (.iload_n 1, 13, 0, 0, 0), []), (13, (.invokevirtual 250, 16, 159, 1, 5), [6216, 4168, 4169, 1008])],
  [(16, (.istore_n 2, 17, 0, 0, 0), []), (17, (.iload_n 2, 18, 0, 0, 0), []), (18, (.iconst (-1), 19, 0, 0, 0), []), (19, (.if_icmp .ne 13, 22, 32, 0, 0), []), (22, (.new 97, 25, 0, 0, 1), []), (25, (.dup, 26, 0, 0, 0), []), (26, (.ldc 253, 28, 1, 36, 0), [])],
  [(32, (.iload_n 2, 33, 0, 0, 0), []), (33, (.iload_n 1, 34, 0, 0, 0), []), (34, (.isub, 35, 0, 0, 0), []), (35, (.ireturn, 36, 0, 0, 0), [])]]
-- PaintBank.canLeave(I)Z
noncomputable def md_L77 : List (List mm_Ln) := [[(0, (.aload_n 0, 1, 0, 0, 0), []), (1, (.iload_n 1, 2, 0, 0, 0), []), (2, (.invokevirtual 195, 5, 68, 1, 0), [6153, 6155, 38, 1001]), (5, (.aload_n 0, 6, 0, 0, 0), []), (6, (.getfield 37, 9, 0, 3, 0), [3013]), (9, (.iload_n 1, 10, 0, 0, 0), []), (10, (.invokevirtual 258, 13, 141, 1, 4), [6225, 3227, 3228, 1007]), (13, (.ireturn, 14, 0, 0, 0), [])]]
-- PaintBank.enter(I)I
noncomputable def md_L78 : List (List mm_Ln) := [[(0, (.aload_n 0, 1, 0, 0, 0), []), (1, (.iload_n 1, 2, 0, 0, 0), []), (2, (.invokevirtual 195, 5, 68, 1, 0), [6153, 6155, 38, 1001]), (5, (.aload_n 0, 6, 0, 0, 0), []), (6, (.getfield 72, 9, 0, 8, 0), [3018]), (9, (.aload_n 0, 10, 0, 0, 0), []), (10, (.getfield 37, 13, 0, 3, 0), [3013]), (13, (.invokevirtual 136, 16, 192, 1, 9), [3151, 3152, 3153, 1012])],
  [(16, (.aload_n 0, 17, 0, 0, 0), []), (17, (.aload_n 0, 18, 0, 0, 0), []), (18, (.getfield 37, 21, 0, 3, 0), [3013]), (21, (.iload_n 1, 22, 0, 0, 0), []), (22, (.invokevirtual 280, 25, 139, 1, 4), [6233, 3219, 3220, 1007]), (25, (.invokevirtual 283, 28, 45, 1, 0), [3171, 3173, 0, 1001]), (28, (.ireturn, 29, 0, 0, 0), [])]]
-- PaintBank.leave(I)I
noncomputable def md_L79 : List (List mm_Ln) := [[(0, (.aload_n 0, 1, 0, 0, 0), []), (1, (.iload_n 1, 2, 0, 0, 0), []), (2, (.invokevirtual 195, 5, 68, 1, 0), [6153, 6155, 38, 1001]), (5, (.aload_n 0, 6, 0, 0, 0), []), (6, (.getfield 72, 9, 0, 8, 0), [3018]), (9, (.aload_n 0, 10, 0, 0, 0), []), (10, (.getfield 37, 13, 0, 3, 0), [3013]), (13, (.invokevirtual 136, 16, 192, 1, 9), [3151, 3152, 3153, 1012])],
  [(16, (.aload_n 0, 17, 0, 0, 0), []), (17, (.aload_n 0, 18, 0, 0, 0), []), (18, (.getfield 37, 21, 0, 3, 0), [3013]), (21, (.iload_n 1, 22, 0, 0, 0), []), (22, (.invokevirtual 286, 25, 142, 1, 4), [7001, 3231, 3232, 1007]), (25, (.invokevirtual 283, 28, 45, 1, 0), [3171, 3173, 0, 1001]), (28, (.ireturn, 29, 0, 0, 0), [])]]
-- PaintBank.back(I)I
noncomputable def md_L80 : List (List mm_Ln) := [[(0, (.aload_n 0, 1, 0, 0, 0), []), (1, (.iload_n 1, 2, 0, 0, 0), []), (2, (.invokevirtual 195, 5, 68, 1, 0), [6153, 6155, 38, 1001]), (5, (.aload_n 0, 6, 0, 0, 0), []), (6, (.getfield 72, 9, 0, 8, 0), [3018]), (9, (.aload_n 0, 10, 0, 0, 0), []), (10, (.getfield 37, 13, 0, 3, 0), [3013]), (13, (.invokevirtual 136, 16, 192, 1, 9), [3151, 3152, 3153, 1012])],
  [(16, (.aload_n 0, 17, 0, 0, 0), []), (17, (.aload_n 0, 18, 0, 0, 0), []), (18, (.getfield 37, 21, 0, 3, 0), [3013]), (21, (.iload_n 1, 22, 0, 0, 0), []), (22, (.invokevirtual 289, 25, 138, 1, 4), [7009, 3207, 3208, 1007]), (25, (.invokevirtual 283, 28, 45, 1, 0), [3171, 3173, 0, 1001]), (28, (.ireturn, 29, 0, 0, 0), [])]]
-- PaintBank.ruleCost(I)I
noncomputable def md_L81 : List (List mm_Ln) := [[(0, (.iload_n 1, 1, 0, 0, 0), []), (1, (.invokestatic 309, 4, 82, 17, 0), [7017, 7018, 1001]), (4, (.aload_n 0, 5, 0, 0, 0), []), (5, (.iload_n 1, 6, 0, 0, 0), []), (6, (.iconst (-1), 7, 0, 0, 0), []), (7, (.invokevirtual 312, 10, 83, 2, 0), [7021, 7023, 40, 1001]), (10, (.pop, 11, 0, 0, 0), []), (11, (.aload_n 0, 12, 0, 0, 0), []), (12, (.getfield 41, 15, 0, 4, 0), [3014]), (15, (.getfield 277, 18, 4, 13, 0), [2039])],
  [(18, (.ireturn, 19, 0, 0, 0), [])]]
-- PaintBank.checkSteps(I)V
noncomputable def md_L82 : List (List mm_Ln) := [[(0, (.iload_n 0, 1, 0, 0, 0), []), (1, (.ifCond .lt 10, 4, 11, 0, 0), []), (4, (.iload_n 0, 5, 0, 0, 0), []), (5, (.sipush 300, 8, 0, 0, 0), []), (8, (.if_icmp .le 14, 11, 22, 0, 0), []), (11, (.new 108, 14, 1, 0, 1), []), (14, (.dup, 15, 0, 0, 0), [])],
  [(22, (.return_, 23, 0, 0, 0), [])]]
-- PaintBank.lookAhead(II)I
noncomputable def md_L83 : List (List mm_Ln) := [[(0, (.aload_n 0, 1, 0, 0, 0), []), (1, (.getfield 41, 4, 0, 4, 0), [3014]), (4, (.aload_n 0, 5, 0, 0, 0), []), (5, (.getfield 37, 8, 0, 3, 0), [3013]), (8, (.invokevirtual 370, 11, 132, 1, 4), [5051, 3156, 3157, 1007]), (11, (.iconst 0, 12, 0, 0, 0), []), (12, (.istore_n 3, 13, 0, 0, 0), []), (13, (.iload_n 3, 14, 0, 0, 0), []), (14, (.iload_n 1, 15, 0, 0, 0), []), (15, (.if_icmp .ge 44, 18, 59, 0, 0), [])],
  [(18, (.iload_n 2, 19, 0, 0, 0), []), (19, (.iconst (-1), 20, 0, 0, 0), []), (20, (.if_icmp .eq 20, 23, 40, 0, 0), []), (23, (.aload_n 0, 24, 0, 0, 0), []), (24, (.getfield 41, 27, 0, 4, 0), [3014]), (27, (.getfield 247, 30, 4, 6, 0), [2023]), (30, (.iload_n 2, 31, 0, 0, 0), []), (31, (.invokevirtual 250, 34, 159, 1, 5), [6216, 4168, 4169, 1008])],
  [(34, (.iconst (-1), 35, 0, 0, 0), []), (35, (.if_icmp .eq 5, 38, 40, 0, 0), []), (38, (.iload_n 3, 39, 0, 0, 0), []), (39, (.ireturn, 40, 0, 0, 0), []), (40, (.aload_n 0, 41, 0, 0, 0), []), (41, (.getfield 41, 44, 0, 4, 0), [3014]), (44, (.invokevirtual 295, 47, 134, 0, 4), [3186, 3187, 3188, 1007]), (47, (.iconst (-1), 48, 0, 0, 0), [])],
  [(48, (.if_icmp .ne 5, 51, 53, 0, 0), []), (51, (.iload_n 3, 52, 0, 0, 0), []), (52, (.ireturn, 53, 0, 0, 0), []), (53, (.iinc 3 1, 56, 0, 0, 0), []), (56, (.goto (-43), 59, 13, 0, 0), []), (59, (.iload_n 1, 60, 0, 0, 0), []), (60, (.ireturn, 61, 0, 0, 0), [])]]
-- PaintBank.ruleOut(I)I
noncomputable def md_L84 : List (List mm_Ln) := [[(0, (.iload_n 1, 1, 0, 0, 0), []), (1, (.invokestatic 309, 4, 82, 17, 0), [7017, 7018, 1001]), (4, (.aload_n 0, 5, 0, 0, 0), []), (5, (.iload_n 1, 6, 0, 0, 0), []), (6, (.iconst (-1), 7, 0, 0, 0), []), (7, (.invokevirtual 312, 10, 83, 2, 0), [7021, 7023, 40, 1001]), (10, (.pop, 11, 0, 0, 0), []), (11, (.aload_n 0, 12, 0, 0, 0), []), (12, (.getfield 41, 15, 0, 4, 0), [3014]), (15, (.getfield 247, 18, 4, 6, 0), [2023])],
  [(18, (.getfield 232, 21, 5, 1, 0), [2001]), (21, (.ireturn, 22, 0, 0, 0), [])]]
-- PaintBank.stepsToOut(I)I
noncomputable def md_L85 : List (List mm_Ln) := [[(0, (.aload_n 0, 1, 0, 0, 0), []), (1, (.iload_n 1, 2, 0, 0, 0), []), (2, (.invokevirtual 201, 5, 70, 1, 0), [6165, 6167, 39, 1001]), (5, (.aload_n 0, 6, 0, 0, 0), []), (6, (.sipush 300, 9, 0, 0, 0), []), (9, (.iload_n 1, 10, 0, 0, 0), []), (10, (.invokevirtual 312, 13, 83, 2, 0), [7021, 7023, 40, 1001]), (13, (.istore_n 2, 14, 0, 0, 0), []), (14, (.aload_n 0, 15, 0, 0, 0), []), (15, (.getfield 41, 18, 0, 4, 0), [3014])],
  [(18, (.getfield 247, 21, 4, 6, 0), [2023]), (21, (.iload_n 1, 22, 0, 0, 0), []), (22, (.invokevirtual 250, 25, 159, 1, 5), [6216, 4168, 4169, 1008]), (25, (.iconst (-1), 26, 0, 0, 0), []), (26, (.if_icmp .ne 7, 29, 33, 0, 0), []), (29, (.iconst (-1), 30, 0, 0, 0), []), (30, (.goto 4, 33, 34, 0, 0), [])],
  [(33, (.iload_n 2, 34, 0, 0, 0), []), (34, (.ireturn, 35, 0, 0, 0), [])]]
-- PaintBank.laneFor(I)I
noncomputable def md_L86 : List (List mm_Ln) := [[(0, (.aload_n 0, 1, 0, 0, 0), []), (1, (.iload_n 1, 2, 0, 0, 0), []), (2, (.invokevirtual 201, 5, 70, 1, 0), [6165, 6167, 39, 1001]), (5, (.aload_n 0, 6, 0, 0, 0), []), (6, (.getfield 37, 9, 0, 3, 0), [3013]), (9, (.iload_n 1, 10, 0, 0, 0), []), (10, (.invokevirtual 315, 13, 136, 1, 4), [7046, 3195, 3196, 1007]), (13, (.ireturn, 14, 0, 0, 0), [])]]
-- PaintBank.log(II)I
noncomputable def md_L87 : List (List mm_Ln) := [[(0, (.iload_n 1, 1, 0, 0, 0), []), (1, (.ifCond .lt 19, 4, 20, 0, 0), []), (4, (.iload_n 1, 5, 0, 0, 0), []), (5, (.aload_n 0, 6, 0, 0, 0), []), (6, (.getfield 37, 9, 0, 3, 0), [3013]), (9, (.getfield 341, 12, 4, 15, 0), [2043]), (12, (.bipush 20, 14, 0, 0, 0), []), (14, (.invokestatic 344, 17, 355, 18, 0), [4191, 3180, 1022])],
  [(17, (.if_icmp .lt 14, 20, 31, 0, 0), []), (20, (.new 186, 23, 2, 0, 1), []), (23, (.dup, 24, 0, 0, 0), []), (31, (.iload_n 2, 32, 0, 0, 0), [])],
  [(32, (.ifCond .lt 8, 35, 40, 0, 0), []), (35, (.iload_n 2, 36, 0, 0, 0), []), (36, (.iconst 4, 37, 0, 0, 0), []), (37, (.if_icmp .lt 14, 40, 51, 0, 0), []), (40, (.new 108, 43, 1, 0, 1), []), (43, (.dup, 44, 0, 0, 0), [])],
  [(51, (.aload_n 0, 52, 0, 0, 0), []), (52, (.getfield 37, 55, 0, 3, 0), [3013]), (55, (.getfield 351, 58, 4, 14, 0), [2041]), (58, (.aload_n 0, 59, 0, 0, 0), []), (59, (.getfield 37, 62, 0, 3, 0), [3013]), (62, (.getfield 341, 65, 4, 15, 0), [2043])],
  [(65, (.iconst 1, 66, 0, 0, 0), []), (66, (.isub, 67, 0, 0, 0), []), (67, (.iload_n 1, 68, 0, 0, 0), []), (68, (.isub, 69, 0, 0, 0), []), (69, (.iconst 4, 70, 0, 0, 0), []), (70, (.imul, 71, 0, 0, 0), []), (71, (.iload_n 2, 72, 0, 0, 0), []), (72, (.iadd, 73, 0, 0, 0), []), (73, (.iaload, 74, 0, 0, 0), []), (74, (.ireturn, 75, 0, 0, 0), [])]]
-- PaintBank.reportByte(I)I
noncomputable def md_L88 : List (List mm_Ln) := [[(0, (.iload_n 1, 1, 0, 0, 0), []), (1, (.ifCond .lt 14, 4, 15, 0, 0), []), (4, (.iload_n 1, 5, 0, 0, 0), []), (5, (.aload_n 0, 6, 0, 0, 0), []), (6, (.getfield 79, 9, 0, 9, 0), [3019]), (9, (.getfield 358, 12, 10, 1, 0), [3004]), (12, (.if_icmp .lt 14, 15, 26, 0, 0), []), (15, (.new 186, 18, 2, 0, 1), [])],
  [(18, (.dup, 19, 0, 0, 0), []), (26, (.aload_n 0, 27, 0, 0, 0), []), (27, (.getfield 79, 30, 0, 9, 0), [3019]), (30, (.getfield 361, 33, 10, 0, 0), [3002])],
  [(33, (.iload_n 1, 34, 0, 0, 0), []), (34, (.baload, 35, 0, 0, 0), []), (35, (.ireturn, 36, 0, 0, 0), [])]]
-- PaintBank.restore()I
noncomputable def md_L89 : List (List mm_Ln) := [[(0, (.aload_n 0, 1, 0, 0, 0), []), (1, (.getfield 89, 4, 0, 12, 0), [3022]), (4, (.ifCond .ne 14, 7, 18, 0, 0), []), (7, (.new 97, 10, 0, 0, 1), []), (10, (.dup, 11, 0, 0, 0), [])],
  [(18, (.aload_n 0, 19, 0, 0, 0), []), (19, (.getfield 19, 22, 0, 1, 0), [3011]), (22, (.aload_n 0, 23, 0, 0, 0), []), (23, (.getfield 83, 26, 0, 10, 0), [3020]), (26, (.invokevirtual 122, 29, 114, 1, 2), [5046, 5047, 5048, 1005]), (29, (.aload_n 0, 30, 0, 0, 0), []), (30, (.getfield 37, 33, 0, 3, 0), [3013])],
  [(33, (.aload_n 0, 34, 0, 0, 0), []), (34, (.getfield 86, 37, 0, 11, 0), [3021]), (37, (.invokevirtual 370, 40, 132, 1, 4), [5051, 3156, 3157, 1007]), (40, (.aload_n 0, 41, 0, 0, 0), []), (41, (.getfield 72, 44, 0, 8, 0), [3018]), (44, (.invokevirtual 128, 47, 195, 0, 9), [6043, 6044, 6045, 1012]), (47, (.aload_n 0, 48, 0, 0, 0), [])],
  [(48, (.getfield 37, 51, 0, 3, 0), [3013]), (51, (.getfield 268, 54, 4, 10, 0), [2033]), (54, (.ireturn, 55, 0, 0, 0), [])]]
-- PaintBank$Word.spelled(J)LPaintBank$Word;
noncomputable def md_L90 : List (List mm_Ln) := [[(0, (.iconst 0, 1, 0, 0, 0), []), (1, (.istore_n 2, 2, 0, 0, 0), []), (2, (.iload_n 2, 3, 0, 0, 0), []), (3, (.getstatic 115, 6, 21, 0, 0), [5188]), (6, (.arraylength, 7, 0, 0, 0), []), (7, (.if_icmp .ge 28, 10, 35, 0, 0), []), (10, (.getstatic 115, 13, 21, 0, 0), [5188]), (13, (.iload_n 2, 14, 0, 0, 0), []), (14, (.aaload, 15, 0, 0, 0), []), (15, (.getfield 90, 18, 0, 0, 1), [10127])],
  [(18, (.lload_n 0, 19, 0, 0, 0), []), (19, (.lcmp, 20, 0, 0, 0), []), (20, (.ifCond .ne 9, 23, 29, 0, 0), []), (23, (.getstatic 115, 26, 21, 0, 0), [5188]), (26, (.iload_n 2, 27, 0, 0, 0), []), (27, (.aaload, 28, 0, 0, 0), []), (28, (.areturn, 29, 0, 0, 0), []), (29, (.iinc 2 1, 32, 0, 0, 0), [])],
  [(32, (.goto (-30), 35, 2, 0, 0), []), (35, (.getstatic 64, 38, 20, 0, 0), [5190]), (38, (.areturn, 39, 0, 0, 0), [])]]
-- PaintBank$Text.<init>()V
noncomputable def md_L91 : List (List mm_Ln) := [[(0, (.aload_n 0, 1, 0, 0, 0), []), (1, (.invokespecial 3, 4, 0, 80, 0), [1043, 1036, 1037]), (4, (.aload_n 0, 5, 0, 0, 0), []), (5, (.sipush 800, 8, 0, 0, 0), []), (8, (.newarray .byte, 10, 2, 0, 0), [1087]), (10, (.putfield 9, 13, 1, 0, 3), [1046]), (13, (.aload_n 0, 14, 0, 0, 0), []), (14, (.iconst (-1), 15, 0, 0, 0), []), (15, (.putfield 15, 18, 1, 3, 0), [1051])],
  [(18, (.aload_n 0, 19, 0, 0, 0), []), (19, (.getstatic 19, 22, 20, 0, 0), [1044]), (22, (.putfield 25, 25, 1, 9, 3), [1063]), (25, (.return_, 26, 0, 0, 0), [])]]
-- PaintBank$Text.append(I)V
noncomputable def md_L92 : List (List mm_Ln) := [[(0, (.bipush 24, 2, 0, 0, 0), []), (2, (.istore_n 2, 3, 0, 0, 0), []), (3, (.iload_n 2, 4, 0, 0, 0), []), (4, (.ifCond .lt 44, 7, 48, 0, 0), []), (7, (.aload_n 0, 8, 0, 0, 0), []), (8, (.getfield 28, 11, 1, 1, 0), [1048]), (11, (.aload_n 0, 12, 0, 0, 0), []), (12, (.getfield 9, 15, 1, 0, 0), [1046]), (15, (.arraylength, 16, 0, 0, 0), [])],
  [(16, (.if_icmp .ge 26, 19, 42, 0, 0), []), (19, (.aload_n 0, 20, 0, 0, 0), []), (20, (.getfield 9, 23, 1, 0, 0), [1046]), (23, (.aload_n 0, 24, 0, 0, 0), []), (24, (.getfield 28, 27, 1, 1, 0), [1048]), (27, (.iload_n 1, 28, 0, 0, 0), []), (28, (.iload_n 2, 29, 0, 0, 0), []), (29, (.ishr, 30, 0, 0, 0), []), (30, (.i2b, 31, 0, 0, 0), []), (31, (.bastore, 32, 0, 0, 0), [])],
  [(32, (.aload_n 0, 33, 0, 0, 0), []), (33, (.dup, 34, 0, 0, 0), []), (34, (.getfield 28, 37, 1, 1, 0), [1048]), (37, (.iconst 1, 38, 0, 0, 0), []), (38, (.iadd, 39, 0, 0, 0), []), (39, (.putfield 28, 42, 1, 1, 0), [1048]), (42, (.iinc 2 (-8), 45, 0, 0, 0), []), (45, (.goto (-42), 48, 3, 0, 0), [])],
  [(48, (.return_, 49, 0, 0, 0), [])]]
-- PaintBank$Text.rewind()V
noncomputable def md_L93 : List (List mm_Ln) := [[(0, (.aload_n 0, 1, 0, 0, 0), []), (1, (.iconst 0, 2, 0, 0, 0), []), (2, (.putfield 31, 5, 1, 4, 0), [1053]), (5, (.aload_n 0, 6, 0, 0, 0), []), (6, (.iconst 0, 7, 0, 0, 0), []), (7, (.putfield 34, 10, 1, 2, 0), [1049]), (10, (.aload_n 0, 11, 0, 0, 0), []), (11, (.iconst (-1), 12, 0, 0, 0), []), (12, (.putfield 15, 15, 1, 3, 0), [1051]), (15, (.return_, 16, 0, 0, 0), [])]]
-- PaintBank$Text.advance()V
noncomputable def md_L94 : List (List mm_Ln) := [[(0, (.aload_n 0, 1, 0, 0, 0), []), (1, (.getfield 31, 4, 1, 4, 0), [1053]), (4, (.aload_n 0, 5, 0, 0, 0), []), (5, (.getfield 28, 8, 1, 1, 0), [1048]), (8, (.if_icmp .ge 31, 11, 39, 0, 0), []), (11, (.aload_n 0, 12, 0, 0, 0), []), (12, (.getfield 9, 15, 1, 0, 0), [1046]), (15, (.aload_n 0, 16, 0, 0, 0), [])],
  [(16, (.getfield 31, 19, 1, 4, 0), [1053]), (19, (.baload, 20, 0, 0, 0), []), (20, (.invokestatic 53, 23, 95, 17, 0), [5175, 5176, 1002]), (23, (.ifCond .eq 16, 26, 39, 0, 0), []), (26, (.aload_n 0, 27, 0, 0, 0), []), (27, (.dup, 28, 0, 0, 0), []), (28, (.getfield 31, 31, 1, 4, 0), [1053]), (31, (.iconst 1, 32, 0, 0, 0), [])],
  [(32, (.iadd, 33, 0, 0, 0), []), (33, (.putfield 31, 36, 1, 4, 0), [1053]), (36, (.goto (-36), 39, 0, 0, 0), []), (39, (.aload_n 0, 40, 0, 0, 0), []), (40, (.aload_n 0, 41, 0, 0, 0), []), (41, (.getfield 31, 44, 1, 4, 0), [1053]), (44, (.putfield 37, 47, 1, 6, 0), [1057]), (47, (.aload_n 0, 48, 0, 0, 0), [])],
  [(48, (.getfield 31, 51, 1, 4, 0), [1053]), (51, (.aload_n 0, 52, 0, 0, 0), []), (52, (.getfield 28, 55, 1, 1, 0), [1048]), (55, (.if_icmp .lt 11, 58, 66, 0, 0), []), (58, (.aload_n 0, 59, 0, 0, 0), []), (59, (.iconst 0, 60, 0, 0, 0), []), (60, (.putfield 43, 63, 1, 5, 0), [1056]), (63, (.goto 73, 66, 136, 0, 0), [])],
  [(66, (.aload_n 0, 67, 0, 0, 0), []), (67, (.getfield 9, 70, 1, 0, 0), [1046]), (70, (.aload_n 0, 71, 0, 0, 0), []), (71, (.getfield 31, 74, 1, 4, 0), [1053]), (74, (.baload, 75, 0, 0, 0), []), (75, (.invokestatic 57, 78, 96, 17, 0), [5178, 5179, 1002]), (78, (.ifCond .eq 10, 81, 88, 0, 0), [])],
  [(81, (.aload_n 0, 82, 0, 0, 0), []), (82, (.invokevirtual 60, 85, 97, 0, 1), [5181, 5183, 21, 1002]), (85, (.goto 51, 88, 136, 0, 0), []), (88, (.aload_n 0, 89, 0, 0, 0), []), (89, (.getfield 9, 92, 1, 0, 0), [1046]), (92, (.aload_n 0, 93, 0, 0, 0), []), (93, (.getfield 31, 96, 1, 4, 0), [1053])],
  [(96, (.baload, 97, 0, 0, 0), []), (97, (.invokestatic 63, 100, 98, 17, 0), [5191, 5192, 1002]), (100, (.ifCond .eq 10, 103, 110, 0, 0), []), (103, (.aload_n 0, 104, 0, 0, 0), []), (104, (.invokevirtual 66, 107, 99, 0, 1), [5194, 5196, 22, 1002]), (107, (.goto 29, 110, 136, 0, 0), []), (110, (.aload_n 0, 111, 0, 0, 0), []), (111, (.aload_n 0, 112, 0, 0, 0), [])],
  [(112, (.getfield 9, 115, 1, 0, 0), [1046]), (115, (.aload_n 0, 116, 0, 0, 0), []), (116, (.getfield 31, 119, 1, 4, 0), [1053]), (119, (.baload, 120, 0, 0, 0), []), (120, (.invokestatic 69, 123, 100, 17, 0), [5198, 5199, 1002]), (123, (.putfield 43, 126, 1, 5, 0), [1056]), (126, (.aload_n 0, 127, 0, 0, 0), []), (127, (.dup, 128, 0, 0, 0), [])],
  [(128, (.getfield 31, 131, 1, 4, 0), [1053]), (131, (.iconst 1, 132, 0, 0, 0), []), (132, (.iadd, 133, 0, 0, 0), []), (133, (.putfield 31, 136, 1, 4, 0), [1053]), (136, (.return_, 137, 0, 0, 0), [])]]
-- PaintBank$Text.isBlank(B)Z
noncomputable def md_L95 : List (List mm_Ln) := [[(0, (.iload_n 0, 1, 0, 0, 0), []), (1, (.bipush 32, 3, 0, 0, 0), []), (3, (.if_icmp .eq 9, 6, 12, 0, 0), []), (6, (.iload_n 0, 7, 0, 0, 0), []), (7, (.bipush 10, 9, 0, 0, 0), []), (9, (.if_icmp .ne 7, 12, 16, 0, 0), []), (12, (.iconst 1, 13, 0, 0, 0), []), (13, (.goto 4, 16, 17, 0, 0), [])],
  [(16, (.iconst 0, 17, 0, 0, 0), []), (17, (.ireturn, 18, 0, 0, 0), [])]]
-- PaintBank$Text.isLetter(B)Z
noncomputable def md_L96 : List (List mm_Ln) := [[(0, (.iload_n 0, 1, 0, 0, 0), []), (1, (.bipush 97, 3, 0, 0, 0), []), (3, (.if_icmp .lt 13, 6, 16, 0, 0), []), (6, (.iload_n 0, 7, 0, 0, 0), []), (7, (.bipush 122, 9, 0, 0, 0), []), (9, (.if_icmp .gt 7, 12, 16, 0, 0), []), (12, (.iconst 1, 13, 0, 0, 0), []), (13, (.goto 4, 16, 17, 0, 0), [])],
  [(16, (.iconst 0, 17, 0, 0, 0), []), (17, (.ireturn, 18, 0, 0, 0), [])]]
-- PaintBank$Text.readWord()V
noncomputable def md_L97 : List (List mm_Ln) := [[(0, (.aload_n 0, 1, 0, 0, 0), []), (1, (.lconst 0, 2, 0, 0, 0), []), (2, (.putfield 73, 5, 1, 8, 1), [1062]), (5, (.aload_n 0, 6, 0, 0, 0), []), (6, (.getfield 31, 9, 1, 4, 0), [1053]), (9, (.aload_n 0, 10, 0, 0, 0), []), (10, (.getfield 28, 13, 1, 1, 0), [1048]), (13, (.if_icmp .ge 53, 16, 66, 0, 0), [])],
  [(16, (.aload_n 0, 17, 0, 0, 0), []), (17, (.getfield 9, 20, 1, 0, 0), [1046]), (20, (.aload_n 0, 21, 0, 0, 0), []), (21, (.getfield 31, 24, 1, 4, 0), [1053]), (24, (.baload, 25, 0, 0, 0), []), (25, (.invokestatic 57, 28, 96, 17, 0), [5178, 5179, 1002]), (28, (.ifCond .eq 38, 31, 66, 0, 0), []), (31, (.aload_n 0, 32, 0, 0, 0), [])],
  [(32, (.aload_n 0, 33, 0, 0, 0), []), (33, (.getfield 73, 36, 1, 8, 0), [1062]), (36, (.bipush 8, 38, 0, 0, 0), []), (38, (.lshl, 39, 0, 0, 0), []), (39, (.aload_n 0, 40, 0, 0, 0), []), (40, (.getfield 9, 43, 1, 0, 0), [1046]), (43, (.aload_n 0, 44, 0, 0, 0), []), (44, (.getfield 31, 47, 1, 4, 0), [1053]), (47, (.baload, 48, 0, 0, 0), [])],
  [(48, (.i2l, 49, 0, 0, 0), []), (49, (.lor, 50, 0, 0, 0), []), (50, (.putfield 73, 53, 1, 8, 1), [1062]), (53, (.aload_n 0, 54, 0, 0, 0), []), (54, (.dup, 55, 0, 0, 0), []), (55, (.getfield 31, 58, 1, 4, 0), [1053]), (58, (.iconst 1, 59, 0, 0, 0), []), (59, (.iadd, 60, 0, 0, 0), []), (60, (.putfield 31, 63, 1, 4, 0), [1053]), (63, (.goto (-58), 66, 5, 0, 0), [])],
  [(66, (.aload_n 0, 67, 0, 0, 0), []), (67, (.aload_n 0, 68, 0, 0, 0), []), (68, (.getfield 31, 71, 1, 4, 0), [1053]), (71, (.aload_n 0, 72, 0, 0, 0), []), (72, (.getfield 37, 75, 1, 6, 0), [1057]), (75, (.isub, 76, 0, 0, 0), []), (76, (.bipush 8, 78, 0, 0, 0), []), (78, (.if_icmp .gt 7, 81, 85, 0, 0), [])],
  [(81, (.iconst 1, 82, 0, 0, 0), []), (82, (.goto 5, 85, 87, 0, 0), []), (85, (.bipush 6, 87, 0, 0, 0), []), (87, (.putfield 43, 90, 1, 5, 0), [1056]), (90, (.aload_n 0, 91, 0, 0, 0), []), (91, (.aload_n 0, 92, 0, 0, 0), []), (92, (.getfield 73, 95, 1, 8, 0), [1062]), (95, (.invokestatic 77, 98, 90, 17, 0), [5185, 5186, 1004])],
  [(98, (.putfield 25, 101, 1, 9, 3), [1063]), (101, (.return_, 102, 0, 0, 0), [])]]
-- PaintBank$Text.isDigit(B)Z
noncomputable def md_L98 : List (List mm_Ln) := [[(0, (.iload_n 0, 1, 0, 0, 0), []), (1, (.bipush 48, 3, 0, 0, 0), []), (3, (.if_icmp .lt 13, 6, 16, 0, 0), []), (6, (.iload_n 0, 7, 0, 0, 0), []), (7, (.bipush 57, 9, 0, 0, 0), []), (9, (.if_icmp .gt 7, 12, 16, 0, 0), []), (12, (.iconst 1, 13, 0, 0, 0), []), (13, (.goto 4, 16, 17, 0, 0), [])],
  [(16, (.iconst 0, 17, 0, 0, 0), []), (17, (.ireturn, 18, 0, 0, 0), [])]]
-- PaintBank$Text.readNumber()V
noncomputable def md_L99 : List (List mm_Ln) := [[(0, (.aload_n 0, 1, 0, 0, 0), []), (1, (.iconst 0, 2, 0, 0, 0), []), (2, (.putfield 50, 5, 1, 7, 0), [1060]), (5, (.aload_n 0, 6, 0, 0, 0), []), (6, (.getfield 31, 9, 1, 4, 0), [1053]), (9, (.aload_n 0, 10, 0, 0, 0), []), (10, (.getfield 28, 13, 1, 1, 0), [1048]), (13, (.if_icmp .ge 55, 16, 68, 0, 0), [])],
  [(16, (.aload_n 0, 17, 0, 0, 0), []), (17, (.getfield 9, 20, 1, 0, 0), [1046]), (20, (.aload_n 0, 21, 0, 0, 0), []), (21, (.getfield 31, 24, 1, 4, 0), [1053]), (24, (.baload, 25, 0, 0, 0), []), (25, (.invokestatic 63, 28, 98, 17, 0), [5191, 5192, 1002]), (28, (.ifCond .eq 40, 31, 68, 0, 0), []), (31, (.aload_n 0, 32, 0, 0, 0), [])],
  [(32, (.aload_n 0, 33, 0, 0, 0), []), (33, (.getfield 50, 36, 1, 7, 0), [1060]), (36, (.bipush 10, 38, 0, 0, 0), []), (38, (.imul, 39, 0, 0, 0), []), (39, (.aload_n 0, 40, 0, 0, 0), []), (40, (.getfield 9, 43, 1, 0, 0), [1046]), (43, (.aload_n 0, 44, 0, 0, 0), []), (44, (.getfield 31, 47, 1, 4, 0), [1053]), (47, (.baload, 48, 0, 0, 0), [])],
  [(48, (.bipush 48, 50, 0, 0, 0), []), (50, (.isub, 51, 0, 0, 0), []), (51, (.iadd, 52, 0, 0, 0), []), (52, (.putfield 50, 55, 1, 7, 0), [1060]), (55, (.aload_n 0, 56, 0, 0, 0), []), (56, (.dup, 57, 0, 0, 0), []), (57, (.getfield 31, 60, 1, 4, 0), [1053]), (60, (.iconst 1, 61, 0, 0, 0), []), (61, (.iadd, 62, 0, 0, 0), []), (62, (.putfield 31, 65, 1, 4, 0), [1053])],
  [(65, (.goto (-60), 68, 5, 0, 0), []), (68, (.aload_n 0, 69, 0, 0, 0), []), (69, (.aload_n 0, 70, 0, 0, 0), []), (70, (.getfield 31, 73, 1, 4, 0), [1053]), (73, (.aload_n 0, 74, 0, 0, 0), []), (74, (.getfield 37, 77, 1, 6, 0), [1057]), (77, (.isub, 78, 0, 0, 0), []), (78, (.iconst 3, 79, 0, 0, 0), []), (79, (.if_icmp .gt 7, 82, 86, 0, 0), [])],
  [(82, (.iconst 2, 83, 0, 0, 0), []), (83, (.goto 5, 86, 88, 0, 0), []), (86, (.bipush 6, 88, 0, 0, 0), []), (88, (.putfield 43, 91, 1, 5, 0), [1056]), (91, (.return_, 92, 0, 0, 0), [])]]
-- PaintBank$Text.kindOfMark(I)I
noncomputable def md_L100 : List (List mm_Ln) := [[(0, (.iload_n 0, 1, 0, 0, 0), []), (1, (.lookupswitch 41 #[(40, 37), (41, 39), (59, 35)], 35, 0, 0, 0), [])],
  [],
  [(36, (.iconst 3, 37, 0, 0, 0), []), (37, (.ireturn, 38, 0, 0, 0), []), (38, (.iconst 4, 39, 0, 0, 0), []), (39, (.ireturn, 40, 0, 0, 0), []), (40, (.iconst 5, 41, 0, 0, 0), []), (41, (.ireturn, 42, 0, 0, 0), []), (42, (.bipush 6, 44, 0, 0, 0), []), (44, (.ireturn, 45, 0, 0, 0), [])]]
-- PaintBank$Text.fail(I)Z
noncomputable def md_L101 : List (List mm_Ln) := [[(0, (.aload_n 0, 1, 0, 0, 0), []), (1, (.iload_n 1, 2, 0, 0, 0), []), (2, (.putfield 34, 5, 1, 2, 0), [1049]), (5, (.aload_n 0, 6, 0, 0, 0), []), (6, (.aload_n 0, 7, 0, 0, 0), []), (7, (.getfield 37, 10, 1, 6, 0), [1057]), (10, (.putfield 15, 13, 1, 3, 0), [1051]), (13, (.iconst 0, 14, 0, 0, 0), []), (14, (.ireturn, 15, 0, 0, 0), [])]]
-- PaintBank$Text.takeWord(LPaintBank$Word;)Z
noncomputable def md_L102 : List (List mm_Ln) := [[(0, (.aload_n 0, 1, 0, 0, 0), []), (1, (.invokevirtual 40, 4, 94, 0, 1), [5226, 5172, 5173, 1002]), (4, (.aload_n 0, 5, 0, 0, 0), []), (5, (.getfield 43, 8, 1, 5, 0), [1056]), (8, (.iconst 1, 9, 0, 0, 0), []), (9, (.if_icmp .ne 11, 12, 20, 0, 0), []), (12, (.aload_n 0, 13, 0, 0, 0), []), (13, (.getfield 25, 16, 1, 9, 0), [1063])],
  [(16, (.aload_n 1, 17, 0, 0, 0), []), (17, (.if_acmp .eq 11, 20, 28, 0, 0), []), (20, (.aload_n 0, 21, 0, 0, 0), []), (21, (.iconst 1, 22, 0, 0, 0), []), (22, (.invokevirtual 46, 25, 101, 1, 1), [5227, 5206, 5207, 1002]), (25, (.ifCond .eq 7, 28, 32, 0, 0), []), (28, (.iconst 1, 29, 0, 0, 0), []), (29, (.goto 4, 32, 33, 0, 0), [])],
  [(32, (.iconst 0, 33, 0, 0, 0), []), (33, (.ireturn, 34, 0, 0, 0), [])]]
-- PaintBank$Text.takeNumber(II)Z
noncomputable def md_L103 : List (List mm_Ln) := [[(0, (.aload_n 0, 1, 0, 0, 0), []), (1, (.invokevirtual 40, 4, 94, 0, 1), [5226, 5172, 5173, 1002]), (4, (.aload_n 0, 5, 0, 0, 0), []), (5, (.getfield 43, 8, 1, 5, 0), [1056]), (8, (.iconst 2, 9, 0, 0, 0), []), (9, (.if_icmp .eq 9, 12, 18, 0, 0), []), (12, (.aload_n 0, 13, 0, 0, 0), []), (13, (.iconst 1, 14, 0, 0, 0), []), (14, (.invokevirtual 46, 17, 101, 1, 1), [5227, 5206, 5207, 1002])],
  [(17, (.ireturn, 18, 0, 0, 0), []), (18, (.aload_n 0, 19, 0, 0, 0), []), (19, (.getfield 50, 22, 1, 7, 0), [1060]), (22, (.iload_n 1, 23, 0, 0, 0), []), (23, (.if_icmp .lt 11, 26, 34, 0, 0), []), (26, (.aload_n 0, 27, 0, 0, 0), []), (27, (.getfield 50, 30, 1, 7, 0), [1060]), (30, (.iload_n 2, 31, 0, 0, 0), []), (31, (.if_icmp .le 11, 34, 42, 0, 0), [])],
  [(34, (.aload_n 0, 35, 0, 0, 0), []), (35, (.iconst 2, 36, 0, 0, 0), []), (36, (.invokevirtual 46, 39, 101, 1, 1), [5227, 5206, 5207, 1002]), (39, (.ifCond .eq 7, 42, 46, 0, 0), []), (42, (.iconst 1, 43, 0, 0, 0), []), (43, (.goto 4, 46, 47, 0, 0), []), (46, (.iconst 0, 47, 0, 0, 0), []), (47, (.ireturn, 48, 0, 0, 0), [])]]
-- PaintBank$Text.takeIfNext(LPaintBank$Word;)Z
noncomputable def md_L104 : List (List mm_Ln) := [[(0, (.aload_n 0, 1, 0, 0, 0), []), (1, (.getfield 31, 4, 1, 4, 0), [1053]), (4, (.istore_n 2, 5, 0, 0, 0), []), (5, (.aload_n 0, 6, 0, 0, 0), []), (6, (.invokevirtual 40, 9, 94, 0, 1), [5226, 5172, 5173, 1002]), (9, (.aload_n 0, 10, 0, 0, 0), []), (10, (.getfield 43, 13, 1, 5, 0), [1056]), (13, (.iconst 1, 14, 0, 0, 0), []), (14, (.if_icmp .ne 13, 17, 27, 0, 0), [])],
  [(17, (.aload_n 0, 18, 0, 0, 0), []), (18, (.getfield 25, 21, 1, 9, 0), [1063]), (21, (.aload_n 1, 22, 0, 0, 0), []), (22, (.if_acmp .ne 5, 25, 27, 0, 0), []), (25, (.iconst 1, 26, 0, 0, 0), []), (26, (.ireturn, 27, 0, 0, 0), []), (27, (.aload_n 0, 28, 0, 0, 0), []), (28, (.iload_n 2, 29, 0, 0, 0), []), (29, (.putfield 31, 32, 1, 4, 0), [1053])],
  [(32, (.iconst 0, 33, 0, 0, 0), []), (33, (.ireturn, 34, 0, 0, 0), [])]]
-- PaintBank$Text.takeSemicolon()Z
noncomputable def md_L105 : List (List mm_Ln) := [[(0, (.aload_n 0, 1, 0, 0, 0), []), (1, (.invokevirtual 40, 4, 94, 0, 1), [5226, 5172, 5173, 1002]), (4, (.aload_n 0, 5, 0, 0, 0), []), (5, (.getfield 43, 8, 1, 5, 0), [1056]), (8, (.iconst 3, 9, 0, 0, 0), []), (9, (.if_icmp .eq 11, 12, 20, 0, 0), []), (12, (.aload_n 0, 13, 0, 0, 0), []), (13, (.iconst 1, 14, 0, 0, 0), []), (14, (.invokevirtual 46, 17, 101, 1, 1), [5227, 5206, 5207, 1002])],
  [(17, (.ifCond .eq 7, 20, 24, 0, 0), []), (20, (.iconst 1, 21, 0, 0, 0), []), (21, (.goto 4, 24, 25, 0, 0), []), (24, (.iconst 0, 25, 0, 0, 0), []), (25, (.ireturn, 26, 0, 0, 0), [])]]
-- PaintBank$Text.takeOpening()Z
noncomputable def md_L106 : List (List mm_Ln) := [[(0, (.aload_n 0, 1, 0, 0, 0), []), (1, (.invokevirtual 40, 4, 94, 0, 1), [5226, 5172, 5173, 1002]), (4, (.aload_n 0, 5, 0, 0, 0), []), (5, (.getfield 43, 8, 1, 5, 0), [1056]), (8, (.iconst 4, 9, 0, 0, 0), []), (9, (.if_icmp .eq 11, 12, 20, 0, 0), []), (12, (.aload_n 0, 13, 0, 0, 0), []), (13, (.iconst 1, 14, 0, 0, 0), []), (14, (.invokevirtual 46, 17, 101, 1, 1), [5227, 5206, 5207, 1002])],
  [(17, (.ifCond .eq 7, 20, 24, 0, 0), []), (20, (.iconst 1, 21, 0, 0, 0), []), (21, (.goto 4, 24, 25, 0, 0), []), (24, (.iconst 0, 25, 0, 0, 0), []), (25, (.ireturn, 26, 0, 0, 0), [])]]
-- PaintBank$Setup.<init>()V
noncomputable def md_L107 : List (List mm_Ln) := [[(0, (.aload_n 0, 1, 0, 0, 0), []), (1, (.invokespecial 3, 4, 0, 80, 0), [1093, 1036, 1037]), (4, (.aload_n 0, 5, 0, 0, 0), []), (5, (.iconst 5, 6, 0, 0, 0), []), (6, (.newarray .long, 8, 1, 0, 0), [1192]), (8, (.putfield 9, 11, 2, 10, 3), [1139]), (11, (.aload_n 0, 12, 0, 0, 0), []), (12, (.iconst 5, 13, 0, 0, 0), []), (13, (.newarray .int, 15, 0, 0, 0), [1193]), (15, (.putfield 15, 18, 2, 11, 3), [1141])],
  [(18, (.aload_n 0, 19, 0, 0, 0), []), (19, (.iconst 4, 20, 0, 0, 0), []), (20, (.newarray .int, 22, 0, 0, 0), [1193]), (22, (.putfield 19, 25, 2, 12, 3), [1145]), (25, (.aload_n 0, 26, 0, 0, 0), []), (26, (.bipush 12, 28, 0, 0, 0), []), (28, (.newarray .int, 30, 0, 0, 0), [1193]), (30, (.putfield 22, 33, 2, 13, 3), [1149])],
  [(33, (.aload_n 0, 34, 0, 0, 0), []), (34, (.bipush 12, 36, 0, 0, 0), []), (36, (.newarray .int, 38, 0, 0, 0), [1193]), (38, (.putfield 25, 41, 2, 14, 3), [1152]), (41, (.aload_n 0, 42, 0, 0, 0), []), (42, (.bipush 12, 44, 0, 0, 0), []), (44, (.newarray .int, 46, 0, 0, 0), [1193]), (46, (.putfield 28, 49, 2, 15, 3), [1156])],
  [(49, (.aload_n 0, 50, 0, 0, 0), []), (50, (.invokevirtual 31, 53, 108, 0, 2), [1094, 1095, 1096, 1005]), (53, (.return_, 54, 0, 0, 0), [])]]
-- PaintBank$Setup.clear()V
noncomputable def md_L108 : List (List mm_Ln) := [[(0, (.aload_n 0, 1, 0, 0, 0), []), (1, (.iconst 0, 2, 0, 0, 0), []), (2, (.putfield 34, 5, 2, 0, 0), [1098]), (5, (.aload_n 0, 6, 0, 0, 0), []), (6, (.iconst 0, 7, 0, 0, 0), []), (7, (.putfield 38, 10, 2, 1, 0), [1102]), (10, (.aload_n 0, 11, 0, 0, 0), []), (11, (.iconst 0, 12, 0, 0, 0), []), (12, (.putfield 41, 15, 2, 2, 0), [1108]), (15, (.aload_n 0, 16, 0, 0, 0), [])],
  [(16, (.bipush 11, 18, 0, 0, 0), []), (18, (.putfield 44, 21, 2, 3, 0), [1112]), (21, (.aload_n 0, 22, 0, 0, 0), []), (22, (.bipush 11, 24, 0, 0, 0), []), (24, (.putfield 47, 27, 2, 4, 0), [1117]), (27, (.aload_n 0, 28, 0, 0, 0), []), (28, (.bipush 9, 30, 0, 0, 0), []), (30, (.putfield 50, 33, 2, 5, 0), [1121])],
  [(33, (.aload_n 0, 34, 0, 0, 0), []), (34, (.iconst 0, 35, 0, 0, 0), []), (35, (.putfield 53, 38, 2, 6, 0), [1124]), (38, (.aload_n 0, 39, 0, 0, 0), []), (39, (.iconst 1, 40, 0, 0, 0), []), (40, (.putfield 56, 43, 2, 7, 0), [1127]), (43, (.aload_n 0, 44, 0, 0, 0), []), (44, (.iconst 3, 45, 0, 0, 0), []), (45, (.putfield 59, 48, 2, 8, 0), [1131])],
  [(48, (.aload_n 0, 49, 0, 0, 0), []), (49, (.iconst 2, 50, 0, 0, 0), []), (50, (.putfield 62, 53, 2, 9, 0), [1135]), (53, (.return_, 54, 0, 0, 0), [])]]
-- PaintBank$Setup.eventsOf(III)I
noncomputable def md_L109 : List (List mm_Ln) := [[(0, (.iload_n 1, 1, 0, 0, 0), []), (1, (.iconst (-1), 2, 0, 0, 0), []), (2, (.if_icmp .ne 5, 5, 7, 0, 0), []), (5, (.iconst 0, 6, 0, 0, 0), []), (6, (.ireturn, 7, 0, 0, 0), []), (7, (.iload_n 1, 8, 0, 0, 0), []), (8, (.iload_n 3, 9, 0, 0, 0), []), (9, (.if_icmp .eq 5, 12, 14, 0, 0), []), (12, (.iconst 1, 13, 0, 0, 0), []), (13, (.ireturn, 14, 0, 0, 0), []), (14, (.iload_n 2, 15, 0, 0, 0), []), (15, (.aload_n 0, 16, 0, 0, 0), [])],
  [(16, (.getfield 50, 19, 2, 5, 0), [1121]), (19, (.if_icmp .lt 7, 22, 26, 0, 0), []), (22, (.iconst 2, 23, 0, 0, 0), []), (23, (.goto 4, 26, 27, 0, 0), []), (26, (.iconst 0, 27, 0, 0, 0), []), (27, (.ireturn, 28, 0, 0, 0), [])]]
-- PaintBank$Setup.priceOf(II)I
noncomputable def md_L110 : List (List mm_Ln) := [[(0, (.iload_n 1, 1, 0, 0, 0), []), (1, (.iconst 1, 2, 0, 0, 0), []), (2, (.iand, 3, 0, 0, 0), []), (3, (.ifCond .eq 23, 6, 26, 0, 0), []), (6, (.iload_n 2, 7, 0, 0, 0), []), (7, (.ifCond .lt 8, 10, 15, 0, 0), []), (10, (.iload_n 2, 11, 0, 0, 0), []), (11, (.iconst 5, 12, 0, 0, 0), []), (12, (.if_icmp .lt 7, 15, 19, 0, 0), []), (15, (.iconst 0, 16, 0, 0, 0), [])],
  [(16, (.goto 9, 19, 25, 0, 0), []), (19, (.aload_n 0, 20, 0, 0, 0), []), (20, (.getfield 15, 23, 2, 11, 0), [1141]), (23, (.iload_n 2, 24, 0, 0, 0), []), (24, (.iaload, 25, 0, 0, 0), []), (25, (.ireturn, 26, 0, 0, 0), []), (26, (.iload_n 1, 27, 0, 0, 0), []), (27, (.iconst 2, 28, 0, 0, 0), []), (28, (.iand, 29, 0, 0, 0), []), (29, (.ifCond .eq 10, 32, 39, 0, 0), [])],
  [(32, (.aload_n 0, 33, 0, 0, 0), []), (33, (.getfield 53, 36, 2, 6, 0), [1124]), (36, (.goto 4, 39, 40, 0, 0), []), (39, (.iconst 0, 40, 0, 0, 0), []), (40, (.ireturn, 41, 0, 0, 0), [])]]
-- PaintBank$Setup.runAfter(II)I
noncomputable def md_L111 : List (List mm_Ln) := [[(0, (.iload_n 0, 1, 0, 0, 0), []), (1, (.ifCond .ne 9, 4, 10, 0, 0), []), (4, (.iload_n 1, 5, 0, 0, 0), []), (5, (.iconst 1, 6, 0, 0, 0), []), (6, (.iadd, 7, 0, 0, 0), []), (7, (.goto 4, 10, 11, 0, 0), []), (10, (.iconst 1, 11, 0, 0, 0), []), (11, (.ireturn, 12, 0, 0, 0), [])]]
-- PaintBank$Setup.bodyOfCar(I)I
noncomputable def md_L112 : List (List mm_Ln) := [[(0, (.iload_n 1, 1, 0, 0, 0), []), (1, (.ifCond .lt 9, 4, 10, 0, 0), []), (4, (.iload_n 1, 5, 0, 0, 0), []), (5, (.bipush 12, 7, 0, 0, 0), []), (7, (.if_icmp .lt 7, 10, 14, 0, 0), []), (10, (.iconst (-1), 11, 0, 0, 0), []), (11, (.goto 9, 14, 20, 0, 0), []), (14, (.aload_n 0, 15, 0, 0, 0), []), (15, (.getfield 25, 18, 2, 14, 0), [1152])],
  [(18, (.iload_n 1, 19, 0, 0, 0), []), (19, (.iaload, 20, 0, 0, 0), []), (20, (.ireturn, 21, 0, 0, 0), [])]]
-- PaintBank$Setup.nameOfColor(I)J
noncomputable def md_L113 : List (List mm_Ln) := [[(0, (.iload_n 1, 1, 0, 0, 0), []), (1, (.ifCond .lt 8, 4, 9, 0, 0), []), (4, (.iload_n 1, 5, 0, 0, 0), []), (5, (.iconst 5, 6, 0, 0, 0), []), (6, (.if_icmp .lt 7, 9, 13, 0, 0), []), (9, (.lconst 0, 10, 0, 0, 0), []), (10, (.goto 9, 13, 19, 0, 0), []), (13, (.aload_n 0, 14, 0, 0, 0), []), (14, (.getfield 9, 17, 2, 10, 0), [1139])],
  [(17, (.iload_n 1, 18, 0, 0, 0), []), (18, (.laload, 19, 0, 0, 0), []), (19, (.lreturn, 20, 0, 0, 0), [])]]
-- PaintBank$Setup.copyFrom(LPaintBank$Setup;)V
noncomputable def md_L114 : List (List mm_Ln) := [[(0, (.aload_n 0, 1, 0, 0, 0), []), (1, (.aload_n 1, 2, 0, 0, 0), []), (2, (.getfield 34, 5, 2, 0, 0), [1098]), (5, (.putfield 34, 8, 2, 0, 0), [1098]), (8, (.aload_n 0, 9, 0, 0, 0), []), (9, (.aload_n 1, 10, 0, 0, 0), []), (10, (.getfield 38, 13, 2, 1, 0), [1102]), (13, (.putfield 38, 16, 2, 1, 0), [1102])],
  [(16, (.aload_n 0, 17, 0, 0, 0), []), (17, (.aload_n 1, 18, 0, 0, 0), []), (18, (.getfield 41, 21, 2, 2, 0), [1108]), (21, (.putfield 41, 24, 2, 2, 0), [1108]), (24, (.aload_n 0, 25, 0, 0, 0), []), (25, (.aload_n 1, 26, 0, 0, 0), []), (26, (.getfield 44, 29, 2, 3, 0), [1112]), (29, (.putfield 44, 32, 2, 3, 0), [1112])],
  [(32, (.aload_n 0, 33, 0, 0, 0), []), (33, (.aload_n 1, 34, 0, 0, 0), []), (34, (.getfield 47, 37, 2, 4, 0), [1117]), (37, (.putfield 47, 40, 2, 4, 0), [1117]), (40, (.aload_n 0, 41, 0, 0, 0), []), (41, (.aload_n 1, 42, 0, 0, 0), []), (42, (.getfield 50, 45, 2, 5, 0), [1121]), (45, (.putfield 50, 48, 2, 5, 0), [1121])],
  [(48, (.aload_n 0, 49, 0, 0, 0), []), (49, (.aload_n 1, 50, 0, 0, 0), []), (50, (.getfield 53, 53, 2, 6, 0), [1124]), (53, (.putfield 53, 56, 2, 6, 0), [1124]), (56, (.aload_n 0, 57, 0, 0, 0), []), (57, (.aload_n 1, 58, 0, 0, 0), []), (58, (.getfield 56, 61, 2, 7, 0), [1127]), (61, (.putfield 56, 64, 2, 7, 0), [1127])],
  [(64, (.aload_n 0, 65, 0, 0, 0), []), (65, (.aload_n 1, 66, 0, 0, 0), []), (66, (.getfield 59, 69, 2, 8, 0), [1131]), (69, (.putfield 59, 72, 2, 8, 0), [1131]), (72, (.aload_n 0, 73, 0, 0, 0), []), (73, (.aload_n 1, 74, 0, 0, 0), []), (74, (.getfield 62, 77, 2, 9, 0), [1135]), (77, (.putfield 62, 80, 2, 9, 0), [1135])],
  [(80, (.aload_n 1, 81, 0, 0, 0), []), (81, (.getfield 9, 84, 2, 10, 0), [1139]), (84, (.iconst 0, 85, 0, 0, 0), []), (85, (.aload_n 0, 86, 0, 0, 0), []), (86, (.getfield 9, 89, 2, 10, 0), [1139]), (89, (.iconst 0, 90, 0, 0, 0), []), (90, (.iconst 5, 91, 0, 0, 0), []), (91, (.invokestatic 65, 94, 0, 101, 0), [5050, 3161, 3160, 1021]), (94, (.aload_n 1, 95, 0, 0, 0), []), (95, (.getfield 15, 98, 2, 11, 0), [1141])],
  [(98, (.iconst 0, 99, 0, 0, 0), []), (99, (.aload_n 0, 100, 0, 0, 0), []), (100, (.getfield 15, 103, 2, 11, 0), [1141]), (103, (.iconst 0, 104, 0, 0, 0), []), (104, (.iconst 5, 105, 0, 0, 0), []), (105, (.invokestatic 65, 108, 0, 101, 0), [5050, 3161, 3160, 1021]), (108, (.aload_n 1, 109, 0, 0, 0), []), (109, (.getfield 19, 112, 2, 12, 0), [1145])],
  [(112, (.iconst 0, 113, 0, 0, 0), []), (113, (.aload_n 0, 114, 0, 0, 0), []), (114, (.getfield 19, 117, 2, 12, 0), [1145]), (117, (.iconst 0, 118, 0, 0, 0), []), (118, (.iconst 4, 119, 0, 0, 0), []), (119, (.invokestatic 65, 122, 0, 101, 0), [5050, 3161, 3160, 1021]), (122, (.aload_n 1, 123, 0, 0, 0), []), (123, (.getfield 22, 126, 2, 13, 0), [1149]), (126, (.iconst 0, 127, 0, 0, 0), []), (127, (.aload_n 0, 128, 0, 0, 0), [])],
  [(128, (.getfield 22, 131, 2, 13, 0), [1149]), (131, (.iconst 0, 132, 0, 0, 0), []), (132, (.bipush 12, 134, 0, 0, 0), []), (134, (.invokestatic 65, 137, 0, 101, 0), [5050, 3161, 3160, 1021]), (137, (.aload_n 1, 138, 0, 0, 0), []), (138, (.getfield 25, 141, 2, 14, 0), [1152]), (141, (.iconst 0, 142, 0, 0, 0), []), (142, (.aload_n 0, 143, 0, 0, 0), []), (143, (.getfield 25, 146, 2, 14, 0), [1152])],
  [(146, (.iconst 0, 147, 0, 0, 0), []), (147, (.bipush 12, 149, 0, 0, 0), []), (149, (.invokestatic 65, 152, 0, 101, 0), [5050, 3161, 3160, 1021]), (152, (.aload_n 1, 153, 0, 0, 0), []), (153, (.getfield 28, 156, 2, 15, 0), [1156]), (156, (.iconst 0, 157, 0, 0, 0), []), (157, (.aload_n 0, 158, 0, 0, 0), []), (158, (.getfield 28, 161, 2, 15, 0), [1156])],
  [(161, (.iconst 0, 162, 0, 0, 0), []), (162, (.bipush 12, 164, 0, 0, 0), []), (164, (.invokestatic 65, 167, 0, 101, 0), [5050, 3161, 3160, 1021]), (167, (.return_, 168, 0, 0, 0), [])]]
-- PaintBank$Setup.colorNamed(J)I
noncomputable def md_L115 : List (List mm_Ln) := [[(0, (.iconst 0, 1, 0, 0, 0), []), (1, (.istore_n 3, 2, 0, 0, 0), []), (2, (.iload_n 3, 3, 0, 0, 0), []), (3, (.aload_n 0, 4, 0, 0, 0), []), (4, (.getfield 34, 7, 2, 0, 0), [1098]), (7, (.if_icmp .ge 22, 10, 29, 0, 0), []), (10, (.aload_n 0, 11, 0, 0, 0), []), (11, (.getfield 9, 14, 2, 10, 0), [1139]), (14, (.iload_n 3, 15, 0, 0, 0), []), (15, (.laload, 16, 0, 0, 0), [])],
  [(16, (.lload_n 1, 17, 0, 0, 0), []), (17, (.lcmp, 18, 0, 0, 0), []), (18, (.ifCond .ne 5, 21, 23, 0, 0), []), (21, (.iload_n 3, 22, 0, 0, 0), []), (22, (.ireturn, 23, 0, 0, 0), []), (23, (.iinc 3 1, 26, 0, 0, 0), []), (26, (.goto (-24), 29, 2, 0, 0), []), (29, (.iconst (-1), 30, 0, 0, 0), []), (30, (.ireturn, 31, 0, 0, 0), [])]]
-- PaintBank$SetupReader.<init>(LPaintBank$Text;)V
noncomputable def md_L116 : List (List mm_Ln) := [[(0, (.aload_n 0, 1, 0, 0, 0), []), (1, (.invokespecial 3, 4, 0, 80, 0), [1199, 1036, 1037]), (4, (.aload_n 0, 5, 0, 0, 0), []), (5, (.new 9, 8, 2, 0, 0), [1200, 1089, 1005]), (8, (.dup, 9, 0, 0, 0), []), (9, (.invokespecial 11, 12, 107, 32, 2), [1091, 1005, 1201]), (12, (.putfield 12, 15, 3, 0, 3), [1202]), (15, (.aload_n 0, 16, 0, 0, 0), [])],
  [(16, (.aload_n 1, 17, 0, 0, 0), []), (17, (.putfield 18, 20, 3, 1, 3), [1204]), (20, (.return_, 21, 0, 0, 0), [])]]
-- PaintBank$SetupReader.readAll()I
noncomputable def md_L117 : List (List mm_Ln) := [[(0, (.aload_n 0, 1, 0, 0, 0), []), (1, (.getfield 12, 4, 3, 0, 0), [1202]), (4, (.invokevirtual 22, 7, 108, 0, 2), [5166, 1095, 1096, 1005]), (7, (.aload_n 0, 8, 0, 0, 0), []), (8, (.iconst 0, 9, 0, 0, 0), []), (9, (.putfield 25, 12, 3, 2, 2), [1205]), (12, (.aload_n 0, 13, 0, 0, 0), []), (13, (.iconst 0, 14, 0, 0, 0), []), (14, (.putfield 29, 17, 3, 3, 2), [1206])],
  [(17, (.aload_n 0, 18, 0, 0, 0), []), (18, (.iconst 0, 19, 0, 0, 0), []), (19, (.putfield 32, 22, 3, 4, 2), [1207]), (22, (.aload_n 0, 23, 0, 0, 0), []), (23, (.iconst 0, 24, 0, 0, 0), []), (24, (.putfield 35, 27, 3, 5, 2), [1208]), (27, (.aload_n 0, 28, 0, 0, 0), []), (28, (.getfield 18, 31, 3, 1, 0), [1204]), (31, (.invokevirtual 38, 34, 93, 0, 1), [5167, 5168, 5169, 1002])],
  [(34, (.iconst 0, 35, 0, 0, 0), []), (35, (.istore_n 1, 36, 0, 0, 0), []), (36, (.iload_n 1, 37, 0, 0, 0), []), (37, (.sipush 800, 40, 0, 0, 0), []), (40, (.if_icmp .gt 47, 43, 87, 0, 0), []), (43, (.aload_n 0, 44, 0, 0, 0), []), (44, (.getfield 18, 47, 3, 1, 0), [1204]), (47, (.invokevirtual 43, 50, 94, 0, 1), [5171, 5172, 5173, 1002])],
  [(50, (.aload_n 0, 51, 0, 0, 0), []), (51, (.getfield 18, 54, 3, 1, 0), [1204]), (54, (.getfield 46, 57, 1, 5, 0), [1055]), (57, (.ifCond .ne 5, 60, 62, 0, 0), []), (60, (.iload_n 1, 61, 0, 0, 0), []), (61, (.ireturn, 62, 0, 0, 0), []), (62, (.aload_n 0, 63, 0, 0, 0), []), (63, (.invokevirtual 50, 66, 118, 0, 3), [5201, 5203, 23, 1006])],
  [(66, (.ifCond .eq 13, 69, 79, 0, 0), []), (69, (.aload_n 0, 70, 0, 0, 0), []), (70, (.getfield 18, 73, 3, 1, 0), [1204]), (73, (.invokevirtual 54, 76, 105, 0, 1), [6034, 6035, 6036, 1002]), (76, (.ifCond .ne 5, 79, 81, 0, 0), []), (79, (.iconst (-1), 80, 0, 0, 0), [])],
  [(80, (.ireturn, 81, 0, 0, 0), []), (81, (.iinc 1 1, 84, 0, 0, 0), []), (84, (.goto (-48), 87, 36, 0, 0), []), (87, (.iconst (-1), 88, 0, 0, 0), []), (88, (.ireturn, 89, 0, 0, 0), [])]]
-- PaintBank$SetupReader.readStatement()Z
noncomputable def md_L118 : List (List mm_Ln) := [[(0, (.aload_n 0, 1, 0, 0, 0), []), (1, (.getfield 18, 4, 3, 1, 0), [1204]), (4, (.getfield 46, 7, 1, 5, 0), [1055]), (7, (.iconst 1, 8, 0, 0, 0), []), (8, (.if_icmp .eq 12, 11, 20, 0, 0), []), (11, (.aload_n 0, 12, 0, 0, 0), []), (12, (.getfield 18, 15, 3, 1, 0), [1204]), (15, (.iconst 1, 16, 0, 0, 0), [])],
  [(16, (.invokevirtual 57, 19, 101, 1, 1), [5205, 5206, 5207, 1002]), (19, (.ireturn, 20, 0, 0, 0), []), (20, (.getstatic 61, 23, 22, 0, 0), [5209]), (23, (.aload_n 0, 24, 0, 0, 0), []), (24, (.getfield 18, 27, 3, 1, 0), [1204]), (27, (.getfield 67, 30, 1, 9, 0), [1064]), (30, (.invokevirtual 71, 33, 359, 32, 1000), [5211, 5212, 5214, 5215, 1003])],
  [(33, (.iaload, 34, 0, 0, 0), []), (34, (.tableswitch 77 1 7 #[42, 47, 52, 57, 62, 67, 72], 42, 0, 0, 0), [])],
  [],
  [(76, (.aload_n 0, 77, 0, 0, 0), []), (77, (.invokevirtual 77, 80, 119, 0, 3), [5217, 5219, 24, 1006])],
  [(80, (.ireturn, 81, 0, 0, 0), []), (81, (.aload_n 0, 82, 0, 0, 0), []), (82, (.invokevirtual 80, 85, 120, 0, 3), [5238, 6000, 25, 1006]), (85, (.ireturn, 86, 0, 0, 0), []), (86, (.aload_n 0, 87, 0, 0, 0), []), (87, (.invokevirtual 83, 90, 121, 0, 3), [6002, 6004, 26, 1006]), (90, (.ireturn, 91, 0, 0, 0), []), (91, (.aload_n 0, 92, 0, 0, 0), []), (92, (.invokevirtual 86, 95, 122, 0, 3), [6014, 6016, 27, 1006]), (95, (.ireturn, 96, 0, 0, 0), [])],
  [(96, (.aload_n 0, 97, 0, 0, 0), []), (97, (.invokevirtual 89, 100, 123, 0, 3), [6018, 6020, 28, 1006]), (100, (.ireturn, 101, 0, 0, 0), []), (101, (.aload_n 0, 102, 0, 0, 0), []), (102, (.invokevirtual 92, 105, 124, 0, 3), [6024, 6026, 29, 1006]), (105, (.ireturn, 106, 0, 0, 0), []), (106, (.aload_n 0, 107, 0, 0, 0), []), (107, (.invokevirtual 95, 110, 125, 0, 3), [6030, 6032, 30, 1006]), (110, (.ireturn, 111, 0, 0, 0), []), (111, (.aload_n 0, 112, 0, 0, 0), [])],
  [(112, (.getfield 18, 115, 3, 1, 0), [1204]), (115, (.iconst 1, 116, 0, 0, 0), []), (116, (.invokevirtual 57, 119, 101, 1, 1), [5205, 5206, 5207, 1002]), (119, (.ireturn, 120, 0, 0, 0), [])]]
-- PaintBank$SetupReader.readColor()Z
noncomputable def md_L119 : List (List mm_Ln) := [[(0, (.aload_n 0, 1, 0, 0, 0), []), (1, (.getfield 12, 4, 3, 0, 0), [1202]), (4, (.getfield 98, 7, 2, 0, 0), [1099]), (7, (.istore_n 1, 8, 0, 0, 0), []), (8, (.iload_n 1, 9, 0, 0, 0), []), (9, (.iconst 5, 10, 0, 0, 0), []), (10, (.if_icmp .lt 12, 13, 22, 0, 0), []), (13, (.aload_n 0, 14, 0, 0, 0), []), (14, (.getfield 18, 17, 3, 1, 0), [1204])],
  [(17, (.iconst 5, 18, 0, 0, 0), []), (18, (.invokevirtual 57, 21, 101, 1, 1), [5205, 5206, 5207, 1002]), (21, (.ireturn, 22, 0, 0, 0), []), (22, (.aload_n 0, 23, 0, 0, 0), []), (23, (.getfield 18, 26, 3, 1, 0), [1204]), (26, (.getstatic 101, 29, 20, 0, 0), [5221]), (29, (.invokevirtual 104, 32, 102, 1, 1), [5222, 5223, 5224, 1002])],
  [(32, (.ifCond .ne 5, 35, 37, 0, 0), []), (35, (.iconst 0, 36, 0, 0, 0), []), (36, (.ireturn, 37, 0, 0, 0), []), (37, (.aload_n 0, 38, 0, 0, 0), []), (38, (.getfield 12, 41, 3, 0, 0), [1202]), (41, (.aload_n 0, 42, 0, 0, 0), []), (42, (.getfield 18, 45, 3, 1, 0), [1204]), (45, (.getfield 108, 48, 1, 8, 0), [1061])],
  [(48, (.invokevirtual 112, 51, 115, 1, 2), [5228, 5229, 5230, 1005]), (51, (.iconst (-1), 52, 0, 0, 0), []), (52, (.if_icmp .eq 12, 55, 64, 0, 0), []), (55, (.aload_n 0, 56, 0, 0, 0), []), (56, (.getfield 18, 59, 3, 1, 0), [1204]), (59, (.iconst 3, 60, 0, 0, 0), []), (60, (.invokevirtual 57, 63, 101, 1, 1), [5205, 5206, 5207, 1002]), (63, (.ireturn, 64, 0, 0, 0), [])],
  [(64, (.aload_n 0, 65, 0, 0, 0), []), (65, (.getfield 12, 68, 3, 0, 0), [1202]), (68, (.getfield 116, 71, 2, 10, 0), [1140]), (71, (.iload_n 1, 72, 0, 0, 0), []), (72, (.aload_n 0, 73, 0, 0, 0), []), (73, (.getfield 18, 76, 3, 1, 0), [1204]), (76, (.getfield 108, 79, 1, 8, 0), [1061]), (79, (.lastore, 80, 0, 0, 0), [])],
  [(80, (.aload_n 0, 81, 0, 0, 0), []), (81, (.getfield 18, 84, 3, 1, 0), [1204]), (84, (.getstatic 120, 87, 1, 0, 0), [5232]), (87, (.invokevirtual 104, 90, 102, 1, 1), [5222, 5223, 5224, 1002]), (90, (.ifCond .eq 16, 93, 106, 0, 0), []), (93, (.aload_n 0, 94, 0, 0, 0), []), (94, (.getfield 18, 97, 3, 1, 0), [1204])],
  [(97, (.iconst 0, 98, 0, 0, 0), []), (98, (.bipush 99, 100, 0, 0, 0), []), (100, (.invokevirtual 123, 103, 103, 2, 1), [5234, 5235, 5236, 1002]), (103, (.ifCond .ne 5, 106, 108, 0, 0), []), (106, (.iconst 0, 107, 0, 0, 0), []), (107, (.ireturn, 108, 0, 0, 0), []), (108, (.aload_n 0, 109, 0, 0, 0), []), (109, (.getfield 12, 112, 3, 0, 0), [1202])],
  [(112, (.getfield 127, 115, 2, 11, 0), [1142]), (115, (.iload_n 1, 116, 0, 0, 0), []), (116, (.aload_n 0, 117, 0, 0, 0), []), (117, (.getfield 18, 120, 3, 1, 0), [1204]), (120, (.getfield 130, 123, 1, 7, 0), [1058]), (123, (.iastore, 124, 0, 0, 0), []), (124, (.aload_n 0, 125, 0, 0, 0), []), (125, (.getfield 12, 128, 3, 0, 0), [1202])],
  [(128, (.iload_n 1, 129, 0, 0, 0), []), (129, (.iconst 1, 130, 0, 0, 0), []), (130, (.iadd, 131, 0, 0, 0), []), (131, (.putfield 98, 134, 2, 0, 0), [1099]), (134, (.iconst 1, 135, 0, 0, 0), []), (135, (.ireturn, 136, 0, 0, 0), [])]]
-- PaintBank$SetupReader.readLane()Z
noncomputable def md_L120 : List (List mm_Ln) := [[(0, (.aload_n 0, 1, 0, 0, 0), []), (1, (.getfield 12, 4, 3, 0, 0), [1202]), (4, (.getfield 133, 7, 2, 1, 0), [1104]), (7, (.istore_n 1, 8, 0, 0, 0), []), (8, (.iload_n 1, 9, 0, 0, 0), []), (9, (.iconst 4, 10, 0, 0, 0), []), (10, (.if_icmp .lt 12, 13, 22, 0, 0), []), (13, (.aload_n 0, 14, 0, 0, 0), []), (14, (.getfield 18, 17, 3, 1, 0), [1204])],
  [(17, (.iconst 5, 18, 0, 0, 0), []), (18, (.invokevirtual 57, 21, 101, 1, 1), [5205, 5206, 5207, 1002]), (21, (.ireturn, 22, 0, 0, 0), []), (22, (.aload_n 0, 23, 0, 0, 0), []), (23, (.getfield 18, 26, 3, 1, 0), [1204]), (26, (.iconst 1, 27, 0, 0, 0), []), (27, (.bipush 6, 29, 0, 0, 0), []), (29, (.invokevirtual 123, 32, 103, 2, 1), [5234, 5235, 5236, 1002])],
  [(32, (.ifCond .ne 5, 35, 37, 0, 0), []), (35, (.iconst 0, 36, 0, 0, 0), []), (36, (.ireturn, 37, 0, 0, 0), []), (37, (.aload_n 0, 38, 0, 0, 0), []), (38, (.getfield 12, 41, 3, 0, 0), [1202]), (41, (.getfield 136, 44, 2, 12, 0), [1146]), (44, (.iload_n 1, 45, 0, 0, 0), []), (45, (.aload_n 0, 46, 0, 0, 0), []), (46, (.getfield 18, 49, 3, 1, 0), [1204])],
  [(49, (.getfield 130, 52, 1, 7, 0), [1058]), (52, (.iastore, 53, 0, 0, 0), []), (53, (.aload_n 0, 54, 0, 0, 0), []), (54, (.getfield 12, 57, 3, 0, 0), [1202]), (57, (.iload_n 1, 58, 0, 0, 0), []), (58, (.iconst 1, 59, 0, 0, 0), []), (59, (.iadd, 60, 0, 0, 0), []), (60, (.putfield 133, 63, 2, 1, 0), [1104]), (63, (.iconst 1, 64, 0, 0, 0), [])],
  [(64, (.ireturn, 65, 0, 0, 0), [])]]
-- PaintBank$SetupReader.readCar()Z
noncomputable def md_L121 : List (List mm_Ln) := [[(0, (.aload_n 0, 1, 0, 0, 0), []), (1, (.getfield 12, 4, 3, 0, 0), [1202]), (4, (.getfield 139, 7, 2, 2, 0), [1110]), (7, (.istore_n 1, 8, 0, 0, 0), []), (8, (.iload_n 1, 9, 0, 0, 0), []), (9, (.bipush 12, 11, 0, 0, 0), []), (11, (.if_icmp .lt 12, 14, 23, 0, 0), []), (14, (.aload_n 0, 15, 0, 0, 0), []), (15, (.getfield 18, 18, 3, 1, 0), [1204])],
  [(18, (.iconst 5, 19, 0, 0, 0), []), (19, (.invokevirtual 57, 22, 101, 1, 1), [5205, 5206, 5207, 1002]), (22, (.ireturn, 23, 0, 0, 0), []), (23, (.aload_n 0, 24, 0, 0, 0), []), (24, (.getfield 18, 27, 3, 1, 0), [1204]), (27, (.getstatic 101, 30, 20, 0, 0), [5221]), (30, (.invokevirtual 104, 33, 102, 1, 1), [5222, 5223, 5224, 1002])],
  [(33, (.ifCond .ne 5, 36, 38, 0, 0), []), (36, (.iconst 0, 37, 0, 0, 0), []), (37, (.ireturn, 38, 0, 0, 0), []), (38, (.aload_n 0, 39, 0, 0, 0), []), (39, (.getfield 12, 42, 3, 0, 0), [1202]), (42, (.aload_n 0, 43, 0, 0, 0), []), (43, (.getfield 18, 46, 3, 1, 0), [1204]), (46, (.getfield 108, 49, 1, 8, 0), [1061])],
  [(49, (.invokevirtual 112, 52, 115, 1, 2), [5228, 5229, 5230, 1005]), (52, (.istore_n 2, 53, 0, 0, 0), []), (53, (.iload_n 2, 54, 0, 0, 0), []), (54, (.iconst (-1), 55, 0, 0, 0), []), (55, (.if_icmp .ne 12, 58, 67, 0, 0), []), (58, (.aload_n 0, 59, 0, 0, 0), []), (59, (.getfield 18, 62, 3, 1, 0), [1204]), (62, (.iconst 4, 63, 0, 0, 0), []), (63, (.invokevirtual 57, 66, 101, 1, 1), [5205, 5206, 5207, 1002])],
  [(66, (.ireturn, 67, 0, 0, 0), []), (67, (.aload_n 0, 68, 0, 0, 0), []), (68, (.getfield 12, 71, 3, 0, 0), [1202]), (71, (.getfield 142, 74, 2, 13, 0), [1151]), (74, (.iload_n 1, 75, 0, 0, 0), []), (75, (.iload_n 2, 76, 0, 0, 0), []), (76, (.iastore, 77, 0, 0, 0), []), (77, (.aload_n 0, 78, 0, 0, 0), []), (78, (.getfield 18, 81, 3, 1, 0), [1204])],
  [(81, (.getstatic 145, 84, 4, 0, 0), [6006]), (84, (.invokevirtual 104, 87, 102, 1, 1), [5222, 5223, 5224, 1002]), (87, (.ifCond .eq 15, 90, 102, 0, 0), []), (90, (.aload_n 0, 91, 0, 0, 0), []), (91, (.getfield 18, 94, 3, 1, 0), [1204]), (94, (.iconst 0, 95, 0, 0, 0), []), (95, (.iconst 3, 96, 0, 0, 0), [])],
  [(96, (.invokevirtual 123, 99, 103, 2, 1), [5234, 5235, 5236, 1002]), (99, (.ifCond .ne 5, 102, 104, 0, 0), []), (102, (.iconst 0, 103, 0, 0, 0), []), (103, (.ireturn, 104, 0, 0, 0), []), (104, (.aload_n 0, 105, 0, 0, 0), []), (105, (.getfield 12, 108, 3, 0, 0), [1202]), (108, (.getfield 148, 111, 2, 14, 0), [1153]), (111, (.iload_n 1, 112, 0, 0, 0), [])],
  [(112, (.aload_n 0, 113, 0, 0, 0), []), (113, (.getfield 18, 116, 3, 1, 0), [1204]), (116, (.getfield 130, 119, 1, 7, 0), [1058]), (119, (.iastore, 120, 0, 0, 0), []), (120, (.aload_n 0, 121, 0, 0, 0), []), (121, (.getfield 12, 124, 3, 0, 0), [1202]), (124, (.getfield 151, 127, 2, 15, 0), [1158]), (127, (.iload_n 1, 128, 0, 0, 0), [])],
  [(128, (.iconst 0, 129, 0, 0, 0), []), (129, (.iastore, 130, 0, 0, 0), []), (130, (.aload_n 0, 131, 0, 0, 0), []), (131, (.getfield 18, 134, 3, 1, 0), [1204]), (134, (.getstatic 154, 137, 5, 0, 0), [6008]), (137, (.invokevirtual 157, 140, 104, 1, 1), [6010, 6011, 6012, 1002]), (140, (.ifCond .eq 33, 143, 173, 0, 0), []), (143, (.aload_n 0, 144, 0, 0, 0), [])],
  [(144, (.getfield 18, 147, 3, 1, 0), [1204]), (147, (.iconst 0, 148, 0, 0, 0), []), (148, (.iconst 2, 149, 0, 0, 0), []), (149, (.invokevirtual 123, 152, 103, 2, 1), [5234, 5235, 5236, 1002]), (152, (.ifCond .ne 5, 155, 157, 0, 0), []), (155, (.iconst 0, 156, 0, 0, 0), []), (156, (.ireturn, 157, 0, 0, 0), []), (157, (.aload_n 0, 158, 0, 0, 0), []), (158, (.getfield 12, 161, 3, 0, 0), [1202])],
  [(161, (.getfield 151, 164, 2, 15, 0), [1158]), (164, (.iload_n 1, 165, 0, 0, 0), []), (165, (.aload_n 0, 166, 0, 0, 0), []), (166, (.getfield 18, 169, 3, 1, 0), [1204]), (169, (.getfield 130, 172, 1, 7, 0), [1058]), (172, (.iastore, 173, 0, 0, 0), []), (173, (.aload_n 0, 174, 0, 0, 0), []), (174, (.getfield 12, 177, 3, 0, 0), [1202])],
  [(177, (.iload_n 1, 178, 0, 0, 0), []), (178, (.iconst 1, 179, 0, 0, 0), []), (179, (.iadd, 180, 0, 0, 0), []), (180, (.putfield 139, 183, 2, 2, 0), [1110]), (183, (.iconst 1, 184, 0, 0, 0), []), (184, (.ireturn, 185, 0, 0, 0), [])]]
-- PaintBank$SetupReader.readWindow()Z
noncomputable def md_L122 : List (List mm_Ln) := [[(0, (.aload_n 0, 1, 0, 0, 0), []), (1, (.getfield 25, 4, 3, 2, 0), [1205]), (4, (.ifCond .eq 12, 7, 16, 0, 0), []), (7, (.aload_n 0, 8, 0, 0, 0), []), (8, (.getfield 18, 11, 3, 1, 0), [1204]), (11, (.iconst 3, 12, 0, 0, 0), []), (12, (.invokevirtual 57, 15, 101, 1, 1), [5205, 5206, 5207, 1002]), (15, (.ireturn, 16, 0, 0, 0), [])],
  [(16, (.aload_n 0, 17, 0, 0, 0), []), (17, (.iconst 1, 18, 0, 0, 0), []), (18, (.putfield 25, 21, 3, 2, 2), [1205]), (21, (.aload_n 0, 22, 0, 0, 0), []), (22, (.getfield 18, 25, 3, 1, 0), [1204]), (25, (.iconst 0, 26, 0, 0, 0), []), (26, (.bipush 11, 28, 0, 0, 0), []), (28, (.invokevirtual 123, 31, 103, 2, 1), [5234, 5235, 5236, 1002]), (31, (.ifCond .ne 5, 34, 36, 0, 0), [])],
  [(34, (.iconst 0, 35, 0, 0, 0), []), (35, (.ireturn, 36, 0, 0, 0), []), (36, (.aload_n 0, 37, 0, 0, 0), []), (37, (.getfield 12, 40, 3, 0, 0), [1202]), (40, (.aload_n 0, 41, 0, 0, 0), []), (41, (.getfield 18, 44, 3, 1, 0), [1204]), (44, (.getfield 130, 47, 1, 7, 0), [1058]), (47, (.putfield 160, 50, 2, 3, 0), [1113])],
  [(50, (.aload_n 0, 51, 0, 0, 0), []), (51, (.getfield 18, 54, 3, 1, 0), [1204]), (54, (.iconst 0, 55, 0, 0, 0), []), (55, (.bipush 11, 57, 0, 0, 0), []), (57, (.invokevirtual 123, 60, 103, 2, 1), [5234, 5235, 5236, 1002]), (60, (.ifCond .ne 5, 63, 65, 0, 0), []), (63, (.iconst 0, 64, 0, 0, 0), [])],
  [(64, (.ireturn, 65, 0, 0, 0), []), (65, (.aload_n 0, 66, 0, 0, 0), []), (66, (.getfield 12, 69, 3, 0, 0), [1202]), (69, (.aload_n 0, 70, 0, 0, 0), []), (70, (.getfield 18, 73, 3, 1, 0), [1204]), (73, (.getfield 130, 76, 1, 7, 0), [1058]), (76, (.putfield 163, 79, 2, 4, 0), [1118]), (79, (.iconst 1, 80, 0, 0, 0), [])],
  [(80, (.ireturn, 81, 0, 0, 0), [])]]
-- PaintBank$SetupReader.readBatch()Z
noncomputable def md_L123 : List (List mm_Ln) := [[(0, (.aload_n 0, 1, 0, 0, 0), []), (1, (.getfield 29, 4, 3, 3, 0), [1206]), (4, (.ifCond .eq 12, 7, 16, 0, 0), []), (7, (.aload_n 0, 8, 0, 0, 0), []), (8, (.getfield 18, 11, 3, 1, 0), [1204]), (11, (.iconst 3, 12, 0, 0, 0), []), (12, (.invokevirtual 57, 15, 101, 1, 1), [5205, 5206, 5207, 1002]), (15, (.ireturn, 16, 0, 0, 0), [])],
  [(16, (.aload_n 0, 17, 0, 0, 0), []), (17, (.iconst 1, 18, 0, 0, 0), []), (18, (.putfield 29, 21, 3, 3, 2), [1206]), (21, (.aload_n 0, 22, 0, 0, 0), []), (22, (.getfield 18, 25, 3, 1, 0), [1204]), (25, (.iconst 1, 26, 0, 0, 0), []), (26, (.bipush 9, 28, 0, 0, 0), []), (28, (.invokevirtual 123, 31, 103, 2, 1), [5234, 5235, 5236, 1002]), (31, (.ifCond .ne 5, 34, 36, 0, 0), [])],
  [(34, (.iconst 0, 35, 0, 0, 0), []), (35, (.ireturn, 36, 0, 0, 0), []), (36, (.aload_n 0, 37, 0, 0, 0), []), (37, (.getfield 12, 40, 3, 0, 0), [1202]), (40, (.aload_n 0, 41, 0, 0, 0), []), (41, (.getfield 18, 44, 3, 1, 0), [1204]), (44, (.getfield 130, 47, 1, 7, 0), [1058]), (47, (.putfield 166, 50, 2, 5, 0), [1122])],
  [(50, (.aload_n 0, 51, 0, 0, 0), []), (51, (.getfield 18, 54, 3, 1, 0), [1204]), (54, (.getstatic 169, 57, 8, 0, 0), [6022]), (57, (.invokevirtual 104, 60, 102, 1, 1), [5222, 5223, 5224, 1002]), (60, (.ifCond .eq 16, 63, 76, 0, 0), []), (63, (.aload_n 0, 64, 0, 0, 0), [])],
  [(64, (.getfield 18, 67, 3, 1, 0), [1204]), (67, (.iconst 0, 68, 0, 0, 0), []), (68, (.bipush 99, 70, 0, 0, 0), []), (70, (.invokevirtual 123, 73, 103, 2, 1), [5234, 5235, 5236, 1002]), (73, (.ifCond .ne 5, 76, 78, 0, 0), []), (76, (.iconst 0, 77, 0, 0, 0), []), (77, (.ireturn, 78, 0, 0, 0), []), (78, (.aload_n 0, 79, 0, 0, 0), []), (79, (.getfield 12, 82, 3, 0, 0), [1202])],
  [(82, (.aload_n 0, 83, 0, 0, 0), []), (83, (.getfield 18, 86, 3, 1, 0), [1204]), (86, (.getfield 130, 89, 1, 7, 0), [1058]), (89, (.putfield 172, 92, 2, 6, 0), [1125]), (92, (.iconst 1, 93, 0, 0, 0), []), (93, (.ireturn, 94, 0, 0, 0), [])]]
-- PaintBank$SetupReader.readRework()Z
noncomputable def md_L124 : List (List mm_Ln) := [[(0, (.aload_n 0, 1, 0, 0, 0), []), (1, (.getfield 32, 4, 3, 4, 0), [1207]), (4, (.ifCond .eq 12, 7, 16, 0, 0), []), (7, (.aload_n 0, 8, 0, 0, 0), []), (8, (.getfield 18, 11, 3, 1, 0), [1204]), (11, (.iconst 3, 12, 0, 0, 0), []), (12, (.invokevirtual 57, 15, 101, 1, 1), [5205, 5206, 5207, 1002]), (15, (.ireturn, 16, 0, 0, 0), [])],
  [(16, (.aload_n 0, 17, 0, 0, 0), []), (17, (.iconst 1, 18, 0, 0, 0), []), (18, (.putfield 32, 21, 3, 4, 2), [1207]), (21, (.aload_n 0, 22, 0, 0, 0), []), (22, (.getfield 18, 25, 3, 1, 0), [1204]), (25, (.iconst 0, 26, 0, 0, 0), []), (26, (.iconst 3, 27, 0, 0, 0), []), (27, (.invokevirtual 123, 30, 103, 2, 1), [5234, 5235, 5236, 1002]), (30, (.ifCond .ne 5, 33, 35, 0, 0), [])],
  [(33, (.iconst 0, 34, 0, 0, 0), []), (34, (.ireturn, 35, 0, 0, 0), []), (35, (.aload_n 0, 36, 0, 0, 0), []), (36, (.getfield 12, 39, 3, 0, 0), [1202]), (39, (.aload_n 0, 40, 0, 0, 0), []), (40, (.getfield 18, 43, 3, 1, 0), [1204]), (43, (.getfield 130, 46, 1, 7, 0), [1058]), (46, (.putfield 175, 49, 2, 7, 0), [1129])],
  [(49, (.aload_n 0, 50, 0, 0, 0), []), (50, (.getfield 18, 53, 3, 1, 0), [1204]), (53, (.getstatic 178, 56, 10, 0, 0), [6028]), (56, (.invokevirtual 104, 59, 102, 1, 1), [5222, 5223, 5224, 1002]), (59, (.ifCond .eq 16, 62, 75, 0, 0), []), (62, (.aload_n 0, 63, 0, 0, 0), []), (63, (.getfield 18, 66, 3, 1, 0), [1204])],
  [(66, (.iconst 0, 67, 0, 0, 0), []), (67, (.bipush 9, 69, 0, 0, 0), []), (69, (.invokevirtual 123, 72, 103, 2, 1), [5234, 5235, 5236, 1002]), (72, (.ifCond .ne 5, 75, 77, 0, 0), []), (75, (.iconst 0, 76, 0, 0, 0), []), (76, (.ireturn, 77, 0, 0, 0), []), (77, (.aload_n 0, 78, 0, 0, 0), []), (78, (.getfield 12, 81, 3, 0, 0), [1202])],
  [(81, (.aload_n 0, 82, 0, 0, 0), []), (82, (.getfield 18, 85, 3, 1, 0), [1204]), (85, (.getfield 130, 88, 1, 7, 0), [1058]), (88, (.putfield 181, 91, 2, 8, 0), [1133]), (91, (.iconst 1, 92, 0, 0, 0), []), (92, (.ireturn, 93, 0, 0, 0), [])]]
-- PaintBank$SetupReader.readSpan()Z
noncomputable def md_L125 : List (List mm_Ln) := [[(0, (.aload_n 0, 1, 0, 0, 0), []), (1, (.getfield 35, 4, 3, 5, 0), [1208]), (4, (.ifCond .eq 12, 7, 16, 0, 0), []), (7, (.aload_n 0, 8, 0, 0, 0), []), (8, (.getfield 18, 11, 3, 1, 0), [1204]), (11, (.iconst 3, 12, 0, 0, 0), []), (12, (.invokevirtual 57, 15, 101, 1, 1), [5205, 5206, 5207, 1002]), (15, (.ireturn, 16, 0, 0, 0), [])],
  [(16, (.aload_n 0, 17, 0, 0, 0), []), (17, (.iconst 1, 18, 0, 0, 0), []), (18, (.putfield 35, 21, 3, 5, 2), [1208]), (21, (.aload_n 0, 22, 0, 0, 0), []), (22, (.getfield 18, 25, 3, 1, 0), [1204]), (25, (.iconst 0, 26, 0, 0, 0), []), (26, (.bipush 11, 28, 0, 0, 0), []), (28, (.invokevirtual 123, 31, 103, 2, 1), [5234, 5235, 5236, 1002]), (31, (.ifCond .ne 5, 34, 36, 0, 0), [])],
  [(34, (.iconst 0, 35, 0, 0, 0), []), (35, (.ireturn, 36, 0, 0, 0), []), (36, (.aload_n 0, 37, 0, 0, 0), []), (37, (.getfield 12, 40, 3, 0, 0), [1202]), (40, (.aload_n 0, 41, 0, 0, 0), []), (41, (.getfield 18, 44, 3, 1, 0), [1204]), (44, (.getfield 130, 47, 1, 7, 0), [1058]), (47, (.putfield 184, 50, 2, 9, 0), [1138])],
  [(50, (.iconst 1, 51, 0, 0, 0), []), (51, (.ireturn, 52, 0, 0, 0), [])]]
-- PaintBank$Line.<init>(LPaintBank$Setup;)V
noncomputable def md_L126 : List (List mm_Ln) := [[(0, (.aload_n 0, 1, 0, 0, 0), []), (1, (.invokespecial 3, 4, 0, 80, 0), [1227, 1036, 1037]), (4, (.aload_n 0, 5, 0, 0, 0), []), (5, (.bipush 12, 7, 0, 0, 0), []), (7, (.newarray .int, 9, 0, 0, 0), [1193]), (9, (.putfield 9, 12, 4, 1, 3), [2008]), (12, (.aload_n 0, 13, 0, 0, 0), []), (13, (.bipush 12, 15, 0, 0, 0), []), (15, (.newarray .int, 17, 0, 0, 0), [1193])],
  [(17, (.putfield 15, 20, 4, 2, 3), [2011]), (20, (.aload_n 0, 21, 0, 0, 0), []), (21, (.iconst 4, 22, 0, 0, 0), []), (22, (.anewarray 18, 25, 4, 0, 0), [1228]), (25, (.putfield 20, 28, 4, 3, 3), [2013]), (28, (.aload_n 0, 29, 0, 0, 0), []), (29, (.new 18, 32, 5, 0, 0), [1228, 1230, 1008])],
  [(32, (.dup, 33, 0, 0, 0), []), (33, (.invokespecial 24, 36, 153, 32, 5), [1232, 1008]), (36, (.putfield 25, 39, 4, 4, 3), [2017]), (39, (.aload_n 0, 40, 0, 0, 0), []), (40, (.new 18, 43, 5, 0, 0), [1228, 1230, 1008]), (43, (.dup, 44, 0, 0, 0), []), (44, (.invokespecial 24, 47, 153, 32, 5), [1232, 1008]), (47, (.putfield 29, 50, 4, 5, 3), [2019])],
  [(50, (.aload_n 0, 51, 0, 0, 0), []), (51, (.new 18, 54, 5, 0, 0), [1228, 1230, 1008]), (54, (.dup, 55, 0, 0, 0), []), (55, (.invokespecial 24, 58, 153, 32, 5), [1232, 1008]), (58, (.putfield 32, 61, 4, 6, 3), [2020]), (61, (.aload_n 0, 62, 0, 0, 0), []), (62, (.iconst (-1), 63, 0, 0, 0), []), (63, (.putfield 35, 66, 4, 8, 0), [2026])],
  [(66, (.aload_n 0, 67, 0, 0, 0), []), (67, (.sipush 144, 70, 0, 0, 0), []), (70, (.newarray .int, 72, 0, 0, 0), [1193]), (72, (.putfield 39, 75, 4, 14, 3), [2040]), (75, (.aload_n 0, 76, 0, 0, 0), []), (76, (.aload_n 1, 77, 0, 0, 0), []), (77, (.putfield 42, 80, 4, 0, 3), [2007])],
  [(80, (.iconst 0, 81, 0, 0, 0), []), (81, (.istore_n 2, 82, 0, 0, 0), []), (82, (.iload_n 2, 83, 0, 0, 0), []), (83, (.iconst 4, 84, 0, 0, 0), []), (84, (.if_icmp .ge 22, 87, 106, 0, 0), []), (87, (.aload_n 0, 88, 0, 0, 0), []), (88, (.getfield 20, 91, 4, 3, 0), [2013]), (91, (.iload_n 2, 92, 0, 0, 0), []), (92, (.new 18, 95, 5, 0, 0), [1228, 1230, 1008]), (95, (.dup, 96, 0, 0, 0), [])],
  [(96, (.invokespecial 24, 99, 153, 32, 5), [1232, 1008]), (99, (.aastore, 100, 0, 0, 0), []), (100, (.iinc 2 1, 103, 0, 0, 0), []), (103, (.goto (-21), 106, 82, 0, 0), []), (106, (.return_, 107, 0, 0, 0), [])]]
-- PaintBank$Line.likeFrom(II)I
noncomputable def md_L127 : List (List mm_Ln) := [[(0, (.iload_n 1, 1, 0, 0, 0), []), (1, (.ifCond .lt 13, 4, 14, 0, 0), []), (4, (.iload_n 1, 5, 0, 0, 0), []), (5, (.bipush 12, 7, 0, 0, 0), []), (7, (.if_icmp .ge 7, 10, 14, 0, 0), []), (10, (.iload_n 2, 11, 0, 0, 0), []), (11, (.ifCond .ge 5, 14, 16, 0, 0), []), (14, (.iconst 0, 15, 0, 0, 0), []), (15, (.ireturn, 16, 0, 0, 0), [])],
  [(16, (.iconst 0, 17, 0, 0, 0), []), (17, (.istore_n 3, 18, 0, 0, 0), []), (18, (.iload_n 2, 19, 0, 0, 0), []), (19, (.istore 4, 21, 0, 0, 0), []), (21, (.iload 4, 23, 0, 0, 0), []), (23, (.aload_n 0, 24, 0, 0, 0), []), (24, (.getfield 42, 27, 4, 0, 0), [2007]), (27, (.getfield 91, 30, 2, 2, 0), [1109]), (30, (.if_icmp .ge 50, 33, 80, 0, 0), [])],
  [(33, (.aload_n 0, 34, 0, 0, 0), []), (34, (.getfield 9, 37, 4, 1, 0), [2008]), (37, (.iload 4, 39, 0, 0, 0), []), (39, (.iaload, 40, 0, 0, 0), []), (40, (.aload_n 0, 41, 0, 0, 0), []), (41, (.getfield 9, 44, 4, 1, 0), [2008]), (44, (.iload_n 1, 45, 0, 0, 0), []), (45, (.iaload, 46, 0, 0, 0), []), (46, (.if_icmp .ne 28, 49, 74, 0, 0), [])],
  [(49, (.aload_n 0, 50, 0, 0, 0), []), (50, (.getfield 42, 53, 4, 0, 0), [2007]), (53, (.getfield 103, 56, 2, 14, 0), [1154]), (56, (.iload 4, 58, 0, 0, 0), []), (58, (.iaload, 59, 0, 0, 0), []), (59, (.aload_n 0, 60, 0, 0, 0), []), (60, (.getfield 42, 63, 4, 0, 0), [2007]), (63, (.getfield 103, 66, 2, 14, 0), [1154])],
  [(66, (.iload_n 1, 67, 0, 0, 0), []), (67, (.iaload, 68, 0, 0, 0), []), (68, (.if_icmp .ne 6, 71, 74, 0, 0), []), (71, (.iinc 3 1, 74, 0, 0, 0), []), (74, (.iinc 4 1, 77, 0, 0, 0), []), (77, (.goto (-56), 80, 21, 0, 0), [])],
  [(80, (.iload_n 3, 81, 0, 0, 0), []), (81, (.ireturn, 82, 0, 0, 0), [])]]
-- PaintBank$Line.waitingCount()I
noncomputable def md_L128 : List (List mm_Ln) := [[(0, (.aload_n 0, 1, 0, 0, 0), []), (1, (.getfield 42, 4, 4, 0, 0), [2007]), (4, (.getfield 91, 7, 2, 2, 0), [1109]), (7, (.aload_n 0, 8, 0, 0, 0), []), (8, (.getfield 63, 11, 4, 7, 0), [2024]), (11, (.isub, 12, 0, 0, 0), []), (12, (.ireturn, 13, 0, 0, 0), [])]]
-- PaintBank$Line.timeToReady()I
noncomputable def md_L129 : List (List mm_Ln) := [[(0, (.aload_n 0, 1, 0, 0, 0), []), (1, (.getfield 25, 4, 4, 4, 0), [2017]), (4, (.getfield 60, 7, 5, 1, 0), [1237]), (7, (.ifCond .ne 7, 10, 14, 0, 0), []), (10, (.iconst (-1), 11, 0, 0, 0), []), (11, (.goto 20, 14, 31, 0, 0), []), (14, (.iconst 0, 15, 0, 0, 0), []), (15, (.aload_n 0, 16, 0, 0, 0), [])],
  [(16, (.getfield 29, 19, 4, 5, 0), [2019]), (19, (.iconst 0, 20, 0, 0, 0), []), (20, (.invokevirtual 106, 23, 154, 1, 5), [3097, 3086, 3087, 1008]), (23, (.aload_n 0, 24, 0, 0, 0), []), (24, (.getfield 69, 27, 4, 10, 0), [2032]), (27, (.isub, 28, 0, 0, 0), []), (28, (.invokestatic 112, 31, 354, 18, 0), [3098, 3071, 1022]), (31, (.ireturn, 32, 0, 0, 0), [])]]
-- PaintBank$Line.longestRowOut()I
noncomputable def md_L130 : List (List mm_Ln) := [[(0, (.iconst 0, 1, 0, 0, 0), []), (1, (.istore_n 1, 2, 0, 0, 0), []), (2, (.iconst 0, 3, 0, 0, 0), []), (3, (.istore_n 2, 4, 0, 0, 0), []), (4, (.iconst 0, 5, 0, 0, 0), []), (5, (.istore_n 3, 6, 0, 0, 0), []), (6, (.iload_n 3, 7, 0, 0, 0), []), (7, (.aload_n 0, 8, 0, 0, 0), []), (8, (.getfield 32, 11, 4, 6, 0), [2020]), (11, (.getfield 60, 14, 5, 1, 0), [1237]), (14, (.if_icmp .ge 64, 17, 78, 0, 0), [])],
  [(17, (.aload_n 0, 18, 0, 0, 0), []), (18, (.aload_n 0, 19, 0, 0, 0), []), (19, (.getfield 32, 22, 4, 6, 0), [2020]), (22, (.iload_n 3, 23, 0, 0, 0), []), (23, (.invokevirtual 106, 26, 154, 1, 5), [3097, 3086, 3087, 1008]), (26, (.invokevirtual 109, 29, 131, 1, 4), [3119, 3120, 3121, 1007]), (29, (.aload_n 0, 30, 0, 0, 0), []), (30, (.aload_n 0, 31, 0, 0, 0), []), (31, (.getfield 32, 34, 4, 6, 0), [2020])],
  [(34, (.iload_n 3, 35, 0, 0, 0), []), (35, (.iconst 1, 36, 0, 0, 0), []), (36, (.isub, 37, 0, 0, 0), []), (37, (.invokevirtual 106, 40, 154, 1, 5), [3097, 3086, 3087, 1008]), (40, (.invokevirtual 109, 43, 131, 1, 4), [3119, 3120, 3121, 1007]), (43, (.if_icmp .ne 7, 46, 50, 0, 0), []), (46, (.iconst 1, 47, 0, 0, 0), []), (47, (.goto 4, 50, 51, 0, 0), [])],
  [(50, (.iconst 0, 51, 0, 0, 0), []), (51, (.istore 4, 53, 0, 0, 0), []), (53, (.iload 4, 55, 0, 0, 0), []), (55, (.ifCond .eq 9, 58, 64, 0, 0), []), (58, (.iload_n 2, 59, 0, 0, 0), []), (59, (.iconst 1, 60, 0, 0, 0), []), (60, (.iadd, 61, 0, 0, 0), []), (61, (.goto 4, 64, 65, 0, 0), [])],
  [(64, (.iconst 1, 65, 0, 0, 0), []), (65, (.istore_n 2, 66, 0, 0, 0), []), (66, (.iload_n 1, 67, 0, 0, 0), []), (67, (.iload_n 2, 68, 0, 0, 0), []), (68, (.invokestatic 112, 71, 354, 18, 0), [3098, 3071, 1022]), (71, (.istore_n 1, 72, 0, 0, 0), []), (72, (.iinc 3 1, 75, 0, 0, 0), []), (75, (.goto (-69), 78, 6, 0, 0), []), (78, (.iload_n 1, 79, 0, 0, 0), []), (79, (.ireturn, 80, 0, 0, 0), [])]]
-- PaintBank$Line.colorOfCar(I)I
noncomputable def md_L131 : List (List mm_Ln) := [[(0, (.iload_n 1, 1, 0, 0, 0), []), (1, (.ifCond .lt 9, 4, 10, 0, 0), []), (4, (.iload_n 1, 5, 0, 0, 0), []), (5, (.bipush 12, 7, 0, 0, 0), []), (7, (.if_icmp .lt 7, 10, 14, 0, 0), []), (10, (.iconst (-1), 11, 0, 0, 0), []), (11, (.goto 9, 14, 20, 0, 0), []), (14, (.aload_n 0, 15, 0, 0, 0), []), (15, (.getfield 9, 18, 4, 1, 0), [2008])],
  [(18, (.iload_n 1, 19, 0, 0, 0), []), (19, (.iaload, 20, 0, 0, 0), []), (20, (.ireturn, 21, 0, 0, 0), [])]]
-- PaintBank$Line.copyFrom(LPaintBank$Line;)V
noncomputable def md_L132 : List (List mm_Ln) := [[(0, (.aload_n 1, 1, 0, 0, 0), []), (1, (.getfield 9, 4, 4, 1, 0), [2008]), (4, (.iconst 0, 5, 0, 0, 0), []), (5, (.aload_n 0, 6, 0, 0, 0), []), (6, (.getfield 9, 9, 4, 1, 0), [2008]), (9, (.iconst 0, 10, 0, 0, 0), []), (10, (.bipush 12, 12, 0, 0, 0), []), (12, (.invokestatic 51, 15, 0, 101, 0), [3159, 3161, 3160, 1021]), (15, (.aload_n 1, 16, 0, 0, 0), [])],
  [(16, (.getfield 15, 19, 4, 2, 0), [2011]), (19, (.iconst 0, 20, 0, 0, 0), []), (20, (.aload_n 0, 21, 0, 0, 0), []), (21, (.getfield 15, 24, 4, 2, 0), [2011]), (24, (.iconst 0, 25, 0, 0, 0), []), (25, (.bipush 12, 27, 0, 0, 0), []), (27, (.invokestatic 51, 30, 0, 101, 0), [3159, 3161, 3160, 1021]), (30, (.iconst 0, 31, 0, 0, 0), []), (31, (.istore_n 2, 32, 0, 0, 0), [])],
  [(32, (.iload_n 2, 33, 0, 0, 0), []), (33, (.iconst 4, 34, 0, 0, 0), []), (34, (.if_icmp .ge 24, 37, 58, 0, 0), []), (37, (.aload_n 0, 38, 0, 0, 0), []), (38, (.getfield 20, 41, 4, 3, 0), [2013]), (41, (.iload_n 2, 42, 0, 0, 0), []), (42, (.aaload, 43, 0, 0, 0), []), (43, (.aload_n 1, 44, 0, 0, 0), []), (44, (.getfield 20, 47, 4, 3, 0), [2013]), (47, (.iload_n 2, 48, 0, 0, 0), [])],
  [(48, (.aaload, 49, 0, 0, 0), []), (49, (.invokevirtual 87, 52, 155, 1, 5), [3162, 3163, 3164, 1008]), (52, (.iinc 2 1, 55, 0, 0, 0), []), (55, (.goto (-23), 58, 32, 0, 0), []), (58, (.aload_n 0, 59, 0, 0, 0), []), (59, (.getfield 25, 62, 4, 4, 0), [2017]), (62, (.aload_n 1, 63, 0, 0, 0), []), (63, (.getfield 25, 66, 4, 4, 0), [2017])],
  [(66, (.invokevirtual 87, 69, 155, 1, 5), [3162, 3163, 3164, 1008]), (69, (.aload_n 0, 70, 0, 0, 0), []), (70, (.getfield 29, 73, 4, 5, 0), [2019]), (73, (.aload_n 1, 74, 0, 0, 0), []), (74, (.getfield 29, 77, 4, 5, 0), [2019]), (77, (.invokevirtual 87, 80, 155, 1, 5), [3162, 3163, 3164, 1008])],
  [(80, (.aload_n 0, 81, 0, 0, 0), []), (81, (.getfield 32, 84, 4, 6, 0), [2020]), (84, (.aload_n 1, 85, 0, 0, 0), []), (85, (.getfield 32, 88, 4, 6, 0), [2020]), (88, (.invokevirtual 87, 91, 155, 1, 5), [3162, 3163, 3164, 1008]), (91, (.aload_n 0, 92, 0, 0, 0), []), (92, (.aload_n 1, 93, 0, 0, 0), []), (93, (.getfield 63, 96, 4, 7, 0), [2024])],
  [(96, (.putfield 63, 99, 4, 7, 0), [2024]), (99, (.aload_n 0, 100, 0, 0, 0), []), (100, (.aload_n 1, 101, 0, 0, 0), []), (101, (.getfield 35, 104, 4, 8, 0), [2026]), (104, (.putfield 35, 107, 4, 8, 0), [2026]), (107, (.aload_n 0, 108, 0, 0, 0), []), (108, (.aload_n 1, 109, 0, 0, 0), []), (109, (.getfield 66, 112, 4, 9, 0), [2030])],
  [(112, (.putfield 66, 115, 4, 9, 0), [2030]), (115, (.aload_n 0, 116, 0, 0, 0), []), (116, (.aload_n 1, 117, 0, 0, 0), []), (117, (.getfield 69, 120, 4, 10, 0), [2032]), (120, (.putfield 69, 123, 4, 10, 0), [2032]), (123, (.aload_n 0, 124, 0, 0, 0), []), (124, (.aload_n 1, 125, 0, 0, 0), []), (125, (.getfield 72, 128, 4, 11, 0), [2034])],
  [(128, (.putfield 72, 131, 4, 11, 0), [2034]), (131, (.aload_n 0, 132, 0, 0, 0), []), (132, (.aload_n 1, 133, 0, 0, 0), []), (133, (.getfield 75, 136, 4, 12, 0), [2036]), (136, (.putfield 75, 139, 4, 12, 0), [2036]), (139, (.aload_n 0, 140, 0, 0, 0), []), (140, (.aload_n 1, 141, 0, 0, 0), []), (141, (.getfield 78, 144, 4, 13, 0), [2038])],
  [(144, (.putfield 78, 147, 4, 13, 0), [2038]), (147, (.aload_n 1, 148, 0, 0, 0), []), (148, (.getfield 39, 151, 4, 14, 0), [2040]), (151, (.iconst 0, 152, 0, 0, 0), []), (152, (.aload_n 0, 153, 0, 0, 0), []), (153, (.getfield 39, 156, 4, 14, 0), [2040]), (156, (.iconst 0, 157, 0, 0, 0), []), (157, (.aload_n 0, 158, 0, 0, 0), []), (158, (.getfield 39, 161, 4, 14, 0), [2040])],
  [(161, (.arraylength, 162, 0, 0, 0), []), (162, (.invokestatic 51, 165, 0, 101, 0), [3159, 3161, 3160, 1021]), (165, (.aload_n 0, 166, 0, 0, 0), []), (166, (.aload_n 1, 167, 0, 0, 0), []), (167, (.getfield 81, 170, 4, 15, 0), [2042]), (170, (.putfield 81, 173, 4, 15, 0), [2042]), (173, (.aload_n 0, 174, 0, 0, 0), []), (174, (.dup, 175, 0, 0, 0), []), (175, (.getfield 84, 178, 4, 16, 0), [2046])],
  [(178, (.iconst 1, 179, 0, 0, 0), []), (179, (.iadd, 180, 0, 0, 0), []), (180, (.putfield 84, 183, 4, 16, 0), [2046]), (183, (.return_, 184, 0, 0, 0), [])]]
-- PaintBank$Line.passTime()I
noncomputable def md_L133 : List (List mm_Ln) := [[(0, (.aload_n 0, 1, 0, 0, 0), []), (1, (.getfield 69, 4, 4, 10, 0), [2032]), (4, (.sipush 9999, 7, 0, 0, 0), []), (7, (.if_icmp .lt 5, 10, 12, 0, 0), []), (10, (.iconst (-1), 11, 0, 0, 0), []), (11, (.ireturn, 12, 0, 0, 0), []), (12, (.aload_n 0, 13, 0, 0, 0), []), (13, (.dup, 14, 0, 0, 0), []), (14, (.getfield 69, 17, 4, 10, 0), [2032])],
  [(17, (.iconst 1, 18, 0, 0, 0), []), (18, (.iadd, 19, 0, 0, 0), []), (19, (.putfield 69, 22, 4, 10, 0), [2032]), (22, (.aload_n 0, 23, 0, 0, 0), []), (23, (.dup, 24, 0, 0, 0), []), (24, (.getfield 84, 27, 4, 16, 0), [2046]), (27, (.iconst 1, 28, 0, 0, 0), []), (28, (.iadd, 29, 0, 0, 0), []), (29, (.putfield 84, 32, 4, 16, 0), [2046])],
  [(32, (.aload_n 0, 33, 0, 0, 0), []), (33, (.getfield 69, 36, 4, 10, 0), [2032]), (36, (.ireturn, 37, 0, 0, 0), [])]]
-- PaintBank$Line.stepByRule()I
noncomputable def md_L134 : List (List mm_Ln) := [[(0, (.aload_n 0, 1, 0, 0, 0), []), (1, (.invokevirtual 159, 4, 135, 0, 4), [3190, 3191, 3192, 1007]), (4, (.ifCond .eq 25, 7, 29, 0, 0), []), (7, (.aload_n 0, 8, 0, 0, 0), []), (8, (.aload_n 0, 9, 0, 0, 0), []), (9, (.aload_n 0, 10, 0, 0, 0), []), (10, (.getfield 25, 13, 4, 4, 0), [2017]), (13, (.iconst 0, 14, 0, 0, 0), []), (14, (.invokevirtual 106, 17, 154, 1, 5), [3097, 3086, 3087, 1008])],
  [(17, (.invokevirtual 163, 20, 136, 1, 4), [3194, 3195, 3196, 1007]), (20, (.invokevirtual 166, 23, 138, 1, 4), [3206, 3207, 3208, 1007]), (23, (.iconst (-1), 24, 0, 0, 0), []), (24, (.if_icmp .eq 5, 27, 29, 0, 0), []), (27, (.iconst 0, 28, 0, 0, 0), []), (28, (.ireturn, 29, 0, 0, 0), []), (29, (.aload_n 0, 30, 0, 0, 0), []), (30, (.getfield 63, 33, 4, 7, 0), [2024])],
  [(33, (.aload_n 0, 34, 0, 0, 0), []), (34, (.getfield 42, 37, 4, 0, 0), [2007]), (37, (.getfield 91, 40, 2, 2, 0), [1109]), (40, (.if_icmp .ge 21, 43, 61, 0, 0), []), (43, (.aload_n 0, 44, 0, 0, 0), []), (44, (.aload_n 0, 45, 0, 0, 0), []), (45, (.aload_n 0, 46, 0, 0, 0), []), (46, (.getfield 63, 49, 4, 7, 0), [2024])],
  [(49, (.invokevirtual 163, 52, 136, 1, 4), [3194, 3195, 3196, 1007]), (52, (.invokevirtual 169, 55, 139, 1, 4), [3218, 3219, 3220, 1007]), (55, (.iconst (-1), 56, 0, 0, 0), []), (56, (.if_icmp .eq 5, 59, 61, 0, 0), []), (59, (.iconst 1, 60, 0, 0, 0), []), (60, (.ireturn, 61, 0, 0, 0), []), (61, (.aload_n 0, 62, 0, 0, 0), []), (62, (.aload_n 0, 63, 0, 0, 0), []), (63, (.invokevirtual 172, 66, 140, 0, 4), [3222, 3224, 1, 1007])],
  [(66, (.invokevirtual 176, 69, 142, 1, 4), [3230, 3231, 3232, 1007]), (69, (.iconst (-1), 70, 0, 0, 0), []), (70, (.if_icmp .eq 5, 73, 75, 0, 0), []), (73, (.iconst 2, 74, 0, 0, 0), []), (74, (.ireturn, 75, 0, 0, 0), []), (75, (.aload_n 0, 76, 0, 0, 0), []), (76, (.getfield 25, 79, 4, 4, 0), [2017]), (79, (.getfield 60, 82, 5, 1, 0), [1237])],
  [(82, (.ifCond .le 15, 85, 97, 0, 0), []), (85, (.aload_n 0, 86, 0, 0, 0), []), (86, (.invokevirtual 179, 89, 133, 0, 4), [4013, 3168, 3169, 1007]), (89, (.iconst (-1), 90, 0, 0, 0), []), (90, (.if_icmp .eq 7, 93, 97, 0, 0), []), (93, (.iconst 3, 94, 0, 0, 0), []), (94, (.goto 4, 97, 98, 0, 0), [])],
  [(97, (.iconst (-1), 98, 0, 0, 0), []), (98, (.ireturn, 99, 0, 0, 0), [])]]
-- PaintBank$Line.firstIsReady()Z
noncomputable def md_L135 : List (List mm_Ln) := [[(0, (.aload_n 0, 1, 0, 0, 0), []), (1, (.getfield 25, 4, 4, 4, 0), [2017]), (4, (.getfield 60, 7, 5, 1, 0), [1237]), (7, (.ifCond .le 22, 10, 29, 0, 0), []), (10, (.aload_n 0, 11, 0, 0, 0), []), (11, (.getfield 69, 14, 4, 10, 0), [2032]), (14, (.aload_n 0, 15, 0, 0, 0), []), (15, (.getfield 29, 18, 4, 5, 0), [2019])],
  [(18, (.iconst 0, 19, 0, 0, 0), []), (19, (.invokevirtual 106, 22, 154, 1, 5), [3097, 3086, 3087, 1008]), (22, (.if_icmp .lt 7, 25, 29, 0, 0), []), (25, (.iconst 1, 26, 0, 0, 0), []), (26, (.goto 4, 29, 30, 0, 0), []), (29, (.iconst 0, 30, 0, 0, 0), []), (30, (.ireturn, 31, 0, 0, 0), [])]]
-- PaintBank$Line.chosenLane(I)I
noncomputable def md_L136 : List (List mm_Ln) := [[(0, (.iconst (-1), 1, 0, 0, 0), []), (1, (.istore_n 2, 2, 0, 0, 0), []), (2, (.bipush 12, 4, 0, 0, 0), []), (4, (.istore_n 3, 5, 0, 0, 0), []), (5, (.iconst 0, 6, 0, 0, 0), []), (6, (.istore 4, 8, 0, 0, 0), []), (8, (.iload 4, 10, 0, 0, 0), []), (10, (.aload_n 0, 11, 0, 0, 0), []), (11, (.getfield 42, 14, 4, 0, 0), [2007]), (14, (.getfield 98, 17, 2, 1, 0), [1105])],
  [(17, (.if_icmp .ge 72, 20, 89, 0, 0), []), (20, (.aload_n 0, 21, 0, 0, 0), []), (21, (.iload 4, 23, 0, 0, 0), []), (23, (.invokevirtual 118, 26, 137, 1, 4), [3198, 3199, 3200, 1007]), (26, (.ifCond .eq 57, 29, 83, 0, 0), []), (29, (.aload_n 0, 30, 0, 0, 0), []), (30, (.getfield 20, 33, 4, 3, 0), [2013])],
  [(33, (.iload 4, 35, 0, 0, 0), []), (35, (.aaload, 36, 0, 0, 0), []), (36, (.getfield 60, 39, 5, 1, 0), [1237]), (39, (.istore 5, 41, 0, 0, 0), []), (41, (.iload 5, 43, 0, 0, 0), []), (43, (.ifCond .le 28, 46, 71, 0, 0), []), (46, (.aload_n 0, 47, 0, 0, 0), []), (47, (.aload_n 0, 48, 0, 0, 0), [])],
  [(48, (.getfield 20, 51, 4, 3, 0), [2013]), (51, (.iload 4, 53, 0, 0, 0), []), (53, (.aaload, 54, 0, 0, 0), []), (54, (.invokevirtual 182, 57, 156, 0, 5), [3202, 3203, 3204, 1008]), (57, (.invokevirtual 109, 60, 131, 1, 4), [3119, 3120, 3121, 1007]), (60, (.aload_n 0, 61, 0, 0, 0), []), (61, (.iload_n 1, 62, 0, 0, 0), []), (62, (.invokevirtual 109, 65, 131, 1, 4), [3119, 3120, 3121, 1007])],
  [(65, (.if_icmp .ne 6, 68, 71, 0, 0), []), (68, (.iload 4, 70, 0, 0, 0), []), (70, (.ireturn, 71, 0, 0, 0), []), (71, (.iload 5, 73, 0, 0, 0), []), (73, (.iload_n 3, 74, 0, 0, 0), []), (74, (.if_icmp .ge 9, 77, 83, 0, 0), []), (77, (.iload 5, 79, 0, 0, 0), []), (79, (.istore_n 3, 80, 0, 0, 0), [])],
  [(80, (.iload 4, 82, 0, 0, 0), []), (82, (.istore_n 2, 83, 0, 0, 0), []), (83, (.iinc 4 1, 86, 0, 0, 0), []), (86, (.goto (-78), 89, 8, 0, 0), []), (89, (.iload_n 2, 90, 0, 0, 0), []), (90, (.ireturn, 91, 0, 0, 0), [])]]
-- PaintBank$Line.hasRoom(I)Z
noncomputable def md_L137 : List (List mm_Ln) := [[(0, (.iload_n 1, 1, 0, 0, 0), []), (1, (.ifCond .lt 39, 4, 40, 0, 0), []), (4, (.iload_n 1, 5, 0, 0, 0), []), (5, (.aload_n 0, 6, 0, 0, 0), []), (6, (.getfield 42, 9, 4, 0, 0), [2007]), (9, (.getfield 98, 12, 2, 1, 0), [1105]), (12, (.if_icmp .ge 28, 15, 40, 0, 0), []), (15, (.aload_n 0, 16, 0, 0, 0), [])],
  [(16, (.getfield 20, 19, 4, 3, 0), [2013]), (19, (.iload_n 1, 20, 0, 0, 0), []), (20, (.aaload, 21, 0, 0, 0), []), (21, (.getfield 60, 24, 5, 1, 0), [1237]), (24, (.aload_n 0, 25, 0, 0, 0), []), (25, (.getfield 42, 28, 4, 0, 0), [2007]), (28, (.getfield 100, 31, 2, 12, 0), [1147]), (31, (.iload_n 1, 32, 0, 0, 0), [])],
  [(32, (.iaload, 33, 0, 0, 0), []), (33, (.if_icmp .ge 7, 36, 40, 0, 0), []), (36, (.iconst 1, 37, 0, 0, 0), []), (37, (.goto 4, 40, 41, 0, 0), []), (40, (.iconst 0, 41, 0, 0, 0), []), (41, (.ireturn, 42, 0, 0, 0), [])]]
-- PaintBank$Line.comeBack(I)I
noncomputable def md_L138 : List (List mm_Ln) := [[(0, (.aload_n 0, 1, 0, 0, 0), []), (1, (.invokevirtual 159, 4, 135, 0, 4), [3190, 3191, 3192, 1007]), (4, (.ifCond .eq 11, 7, 15, 0, 0), []), (7, (.aload_n 0, 8, 0, 0, 0), []), (8, (.iload_n 1, 9, 0, 0, 0), []), (9, (.invokevirtual 118, 12, 137, 1, 4), [3198, 3199, 3200, 1007]), (12, (.ifCond .ne 5, 15, 17, 0, 0), []), (15, (.iconst (-1), 16, 0, 0, 0), [])],
  [(16, (.ireturn, 17, 0, 0, 0), []), (17, (.aload_n 0, 18, 0, 0, 0), []), (18, (.getfield 25, 21, 4, 4, 0), [2017]), (21, (.iconst 0, 22, 0, 0, 0), []), (22, (.invokevirtual 106, 25, 154, 1, 5), [3097, 3086, 3087, 1008]), (25, (.istore_n 2, 26, 0, 0, 0), []), (26, (.aload_n 0, 27, 0, 0, 0), []), (27, (.getfield 25, 30, 4, 4, 0), [2017]), (30, (.invokevirtual 135, 33, 157, 0, 5), [3210, 3211, 3212, 1008])],
  [(33, (.aload_n 0, 34, 0, 0, 0), []), (34, (.getfield 29, 37, 4, 5, 0), [2019]), (37, (.invokevirtual 135, 40, 157, 0, 5), [3210, 3211, 3212, 1008]), (40, (.aload_n 0, 41, 0, 0, 0), []), (41, (.getfield 20, 44, 4, 3, 0), [2013]), (44, (.iload_n 1, 45, 0, 0, 0), []), (45, (.aaload, 46, 0, 0, 0), []), (46, (.iload_n 2, 47, 0, 0, 0), []), (47, (.invokevirtual 122, 50, 158, 1, 5), [3214, 3215, 3216, 1008])],
  [(50, (.aload_n 0, 51, 0, 0, 0), []), (51, (.dup, 52, 0, 0, 0), []), (52, (.getfield 84, 55, 4, 16, 0), [2046]), (55, (.iconst 1, 56, 0, 0, 0), []), (56, (.iadd, 57, 0, 0, 0), []), (57, (.putfield 84, 60, 4, 16, 0), [2046]), (60, (.iload_n 2, 61, 0, 0, 0), []), (61, (.ireturn, 62, 0, 0, 0), [])]]
-- PaintBank$Line.admit(I)I
noncomputable def md_L139 : List (List mm_Ln) := [[(0, (.aload_n 0, 1, 0, 0, 0), []), (1, (.getfield 63, 4, 4, 7, 0), [2024]), (4, (.aload_n 0, 5, 0, 0, 0), []), (5, (.getfield 42, 8, 4, 0, 0), [2007]), (8, (.getfield 91, 11, 2, 2, 0), [1109]), (11, (.if_icmp .ge 11, 14, 22, 0, 0), []), (14, (.aload_n 0, 15, 0, 0, 0), []), (15, (.iload_n 1, 16, 0, 0, 0), [])],
  [(16, (.invokevirtual 118, 19, 137, 1, 4), [3198, 3199, 3200, 1007]), (19, (.ifCond .ne 5, 22, 24, 0, 0), []), (22, (.iconst (-1), 23, 0, 0, 0), []), (23, (.ireturn, 24, 0, 0, 0), []), (24, (.aload_n 0, 25, 0, 0, 0), []), (25, (.getfield 63, 28, 4, 7, 0), [2024]), (28, (.istore_n 2, 29, 0, 0, 0), []), (29, (.aload_n 0, 30, 0, 0, 0), []), (30, (.getfield 20, 33, 4, 3, 0), [2013])],
  [(33, (.iload_n 1, 34, 0, 0, 0), []), (34, (.aaload, 35, 0, 0, 0), []), (35, (.iload_n 2, 36, 0, 0, 0), []), (36, (.invokevirtual 122, 39, 158, 1, 5), [3214, 3215, 3216, 1008]), (39, (.aload_n 0, 40, 0, 0, 0), []), (40, (.dup, 41, 0, 0, 0), []), (41, (.getfield 63, 44, 4, 7, 0), [2024]), (44, (.iconst 1, 45, 0, 0, 0), []), (45, (.iadd, 46, 0, 0, 0), []), (46, (.putfield 63, 49, 4, 7, 0), [2024])],
  [(49, (.aload_n 0, 50, 0, 0, 0), []), (50, (.dup, 51, 0, 0, 0), []), (51, (.getfield 84, 54, 4, 16, 0), [2046]), (54, (.iconst 1, 55, 0, 0, 0), []), (55, (.iadd, 56, 0, 0, 0), []), (56, (.putfield 84, 59, 4, 16, 0), [2046]), (59, (.iload_n 2, 60, 0, 0, 0), []), (60, (.ireturn, 61, 0, 0, 0), [])]]
-- PaintBank$Line.chosenToLeave()I
noncomputable def md_L140 : List (List mm_Ln) := [[(0, (.iconst (-1), 1, 0, 0, 0), []), (1, (.istore_n 1, 2, 0, 0, 0), []), (2, (.bipush 12, 4, 0, 0, 0), []), (4, (.istore_n 2, 5, 0, 0, 0), []), (5, (.iconst 0, 6, 0, 0, 0), []), (6, (.istore_n 3, 7, 0, 0, 0), []), (7, (.iload_n 3, 8, 0, 0, 0), []), (8, (.aload_n 0, 9, 0, 0, 0), []), (9, (.getfield 42, 12, 4, 0, 0), [2007]), (12, (.getfield 98, 15, 2, 1, 0), [1105]), (15, (.if_icmp .ge 55, 18, 70, 0, 0), [])],
  [(18, (.aload_n 0, 19, 0, 0, 0), []), (19, (.iload_n 3, 20, 0, 0, 0), []), (20, (.invokevirtual 132, 23, 141, 1, 4), [3226, 3227, 3228, 1007]), (23, (.ifCond .eq 41, 26, 64, 0, 0), []), (26, (.aload_n 0, 27, 0, 0, 0), []), (27, (.getfield 20, 30, 4, 3, 0), [2013]), (30, (.iload_n 3, 31, 0, 0, 0), []), (31, (.aaload, 32, 0, 0, 0), [])],
  [(32, (.iconst 0, 33, 0, 0, 0), []), (33, (.invokevirtual 106, 36, 154, 1, 5), [3097, 3086, 3087, 1008]), (36, (.istore 4, 38, 0, 0, 0), []), (38, (.aload_n 0, 39, 0, 0, 0), []), (39, (.iload 4, 41, 0, 0, 0), []), (41, (.invokevirtual 109, 44, 131, 1, 4), [3119, 3120, 3121, 1007]), (44, (.aload_n 0, 45, 0, 0, 0), []), (45, (.getfield 35, 48, 4, 8, 0), [2026])],
  [(48, (.if_icmp .ne 5, 51, 53, 0, 0), []), (51, (.iload_n 3, 52, 0, 0, 0), []), (52, (.ireturn, 53, 0, 0, 0), []), (53, (.iload 4, 55, 0, 0, 0), []), (55, (.iload_n 2, 56, 0, 0, 0), []), (56, (.if_icmp .ge 8, 59, 64, 0, 0), []), (59, (.iload 4, 61, 0, 0, 0), []), (61, (.istore_n 2, 62, 0, 0, 0), []), (62, (.iload_n 3, 63, 0, 0, 0), []), (63, (.istore_n 1, 64, 0, 0, 0), [])],
  [(64, (.iinc 3 1, 67, 0, 0, 0), []), (67, (.goto (-60), 70, 7, 0, 0), []), (70, (.iload_n 1, 71, 0, 0, 0), []), (71, (.ireturn, 72, 0, 0, 0), [])]]
-- PaintBank$Line.mayLeave(I)Z
noncomputable def md_L141 : List (List mm_Ln) := [[(0, (.iload_n 1, 1, 0, 0, 0), []), (1, (.ifCond .lt 24, 4, 25, 0, 0), []), (4, (.iload_n 1, 5, 0, 0, 0), []), (5, (.aload_n 0, 6, 0, 0, 0), []), (6, (.getfield 42, 9, 4, 0, 0), [2007]), (9, (.getfield 98, 12, 2, 1, 0), [1105]), (12, (.if_icmp .ge 13, 15, 25, 0, 0), []), (15, (.aload_n 0, 16, 0, 0, 0), [])],
  [(16, (.getfield 69, 19, 4, 10, 0), [2032]), (19, (.sipush 9999, 22, 0, 0, 0), []), (22, (.if_icmp .lt 5, 25, 27, 0, 0), []), (25, (.iconst 0, 26, 0, 0, 0), []), (26, (.ireturn, 27, 0, 0, 0), []), (27, (.aload_n 0, 28, 0, 0, 0), []), (28, (.getfield 20, 31, 4, 3, 0), [2013]), (31, (.iload_n 1, 32, 0, 0, 0), [])],
  [(32, (.aaload, 33, 0, 0, 0), []), (33, (.iconst 0, 34, 0, 0, 0), []), (34, (.invokevirtual 106, 37, 154, 1, 5), [3097, 3086, 3087, 1008]), (37, (.istore_n 2, 38, 0, 0, 0), []), (38, (.iload_n 2, 39, 0, 0, 0), []), (39, (.ifCond .lt 9, 42, 48, 0, 0), []), (42, (.iload_n 2, 43, 0, 0, 0), []), (43, (.bipush 12, 45, 0, 0, 0), []), (45, (.if_icmp .lt 5, 48, 50, 0, 0), [])],
  [(48, (.iconst 0, 49, 0, 0, 0), []), (49, (.ireturn, 50, 0, 0, 0), []), (50, (.aload_n 0, 51, 0, 0, 0), []), (51, (.getfield 15, 54, 4, 2, 0), [2011]), (54, (.iload_n 2, 55, 0, 0, 0), []), (55, (.iaload, 56, 0, 0, 0), []), (56, (.ifCond .le 26, 59, 82, 0, 0), []), (59, (.aload_n 0, 60, 0, 0, 0), []), (60, (.getfield 25, 63, 4, 4, 0), [2017]), (63, (.getfield 60, 66, 5, 1, 0), [1237])],
  [(66, (.aload_n 0, 67, 0, 0, 0), []), (67, (.getfield 42, 70, 4, 0, 0), [2007]), (70, (.getfield 126, 73, 2, 7, 0), [1130]), (73, (.if_icmp .ge 7, 76, 80, 0, 0), []), (76, (.iconst 1, 77, 0, 0, 0), []), (77, (.goto 4, 80, 81, 0, 0), [])],
  [(80, (.iconst 0, 81, 0, 0, 0), []), (81, (.ireturn, 82, 0, 0, 0), []), (82, (.iload_n 2, 83, 0, 0, 0), []), (83, (.aload_n 0, 84, 0, 0, 0), []), (84, (.getfield 32, 87, 4, 6, 0), [2020]), (87, (.getfield 60, 90, 5, 1, 0), [1237]), (90, (.isub, 91, 0, 0, 0), []), (91, (.aload_n 0, 92, 0, 0, 0), []), (92, (.getfield 42, 95, 4, 0, 0), [2007]), (95, (.getfield 129, 98, 2, 3, 0), [1116])],
  [(98, (.if_icmp .gt 7, 101, 105, 0, 0), []), (101, (.iconst 1, 102, 0, 0, 0), []), (102, (.goto 4, 105, 106, 0, 0), []), (105, (.iconst 0, 106, 0, 0, 0), []), (106, (.ireturn, 107, 0, 0, 0), [])]]
-- PaintBank$Line.paintFrom(I)I
noncomputable def md_L142 : List (List mm_Ln) := [[(0, (.aload_n 0, 1, 0, 0, 0), []), (1, (.iload_n 1, 2, 0, 0, 0), []), (2, (.invokevirtual 132, 5, 141, 1, 4), [3226, 3227, 3228, 1007]), (5, (.ifCond .ne 5, 8, 10, 0, 0), []), (8, (.iconst (-1), 9, 0, 0, 0), []), (9, (.ireturn, 10, 0, 0, 0), []), (10, (.aload_n 0, 11, 0, 0, 0), []), (11, (.getfield 20, 14, 4, 3, 0), [2013]), (14, (.iload_n 1, 15, 0, 0, 0), []), (15, (.aaload, 16, 0, 0, 0), [])],
  [(16, (.iconst 0, 17, 0, 0, 0), []), (17, (.invokevirtual 106, 20, 154, 1, 5), [3097, 3086, 3087, 1008]), (20, (.istore_n 2, 21, 0, 0, 0), []), (21, (.iload_n 2, 22, 0, 0, 0), []), (22, (.ifCond .lt 9, 25, 31, 0, 0), []), (25, (.iload_n 2, 26, 0, 0, 0), []), (26, (.bipush 12, 28, 0, 0, 0), []), (28, (.if_icmp .lt 5, 31, 33, 0, 0), []), (31, (.iconst (-1), 32, 0, 0, 0), [])],
  [(32, (.ireturn, 33, 0, 0, 0), []), (33, (.aload_n 0, 34, 0, 0, 0), []), (34, (.getfield 20, 37, 4, 3, 0), [2013]), (37, (.iload_n 1, 38, 0, 0, 0), []), (38, (.aaload, 39, 0, 0, 0), []), (39, (.invokevirtual 135, 42, 157, 0, 5), [3210, 3211, 3212, 1008]), (42, (.aload_n 0, 43, 0, 0, 0), []), (43, (.getfield 15, 46, 4, 2, 0), [2011]), (46, (.iload_n 2, 47, 0, 0, 0), []), (47, (.iaload, 48, 0, 0, 0), [])],
  [(48, (.ifCond .le 7, 51, 55, 0, 0), []), (51, (.iconst 1, 52, 0, 0, 0), []), (52, (.goto 4, 55, 56, 0, 0), []), (55, (.iconst 0, 56, 0, 0, 0), []), (56, (.istore_n 3, 57, 0, 0, 0), []), (57, (.aload_n 0, 58, 0, 0, 0), []), (58, (.iload_n 2, 59, 0, 0, 0), []), (59, (.iload_n 3, 60, 0, 0, 0), []), (60, (.invokevirtual 138, 63, 143, 2, 4), [3234, 3236, 2, 1007]), (63, (.iload_n 3, 64, 0, 0, 0), [])],
  [(64, (.ifCond .eq 43, 67, 107, 0, 0), []), (67, (.aload_n 0, 68, 0, 0, 0), []), (68, (.getfield 15, 71, 4, 2, 0), [2011]), (71, (.iload_n 2, 72, 0, 0, 0), []), (72, (.dup2, 73, 0, 0, 0), []), (73, (.iaload, 74, 0, 0, 0), []), (74, (.iconst 1, 75, 0, 0, 0), []), (75, (.isub, 76, 0, 0, 0), []), (76, (.iastore, 77, 0, 0, 0), []), (77, (.aload_n 0, 78, 0, 0, 0), []), (78, (.getfield 25, 81, 4, 4, 0), [2017])],
  [(81, (.iload_n 2, 82, 0, 0, 0), []), (82, (.invokevirtual 122, 85, 158, 1, 5), [3214, 3215, 3216, 1008]), (85, (.aload_n 0, 86, 0, 0, 0), []), (86, (.getfield 29, 89, 4, 5, 0), [2019]), (89, (.aload_n 0, 90, 0, 0, 0), []), (90, (.getfield 69, 93, 4, 10, 0), [2032]), (93, (.aload_n 0, 94, 0, 0, 0), []), (94, (.getfield 42, 97, 4, 0, 0), [2007])],
  [(97, (.getfield 142, 100, 2, 8, 0), [1134]), (100, (.iadd, 101, 0, 0, 0), []), (101, (.invokevirtual 122, 104, 158, 1, 5), [3214, 3215, 3216, 1008]), (104, (.goto 11, 107, 115, 0, 0), []), (107, (.aload_n 0, 108, 0, 0, 0), []), (108, (.getfield 32, 111, 4, 6, 0), [2020]), (111, (.iload_n 2, 112, 0, 0, 0), [])],
  [(112, (.invokevirtual 122, 115, 158, 1, 5), [3214, 3215, 3216, 1008]), (115, (.aload_n 0, 116, 0, 0, 0), []), (116, (.dup, 117, 0, 0, 0), []), (117, (.getfield 84, 120, 4, 16, 0), [2046]), (120, (.iconst 1, 121, 0, 0, 0), []), (121, (.iadd, 122, 0, 0, 0), []), (122, (.putfield 84, 125, 4, 16, 0), [2046]), (125, (.iload_n 2, 126, 0, 0, 0), []), (126, (.ireturn, 127, 0, 0, 0), [])]]
-- PaintBank$Line.paint(IZ)V
noncomputable def md_L143 : List (List mm_Ln) := [[(0, (.aload_n 0, 1, 0, 0, 0), []), (1, (.getfield 42, 4, 4, 0, 0), [2007]), (4, (.aload_n 0, 5, 0, 0, 0), []), (5, (.getfield 35, 8, 4, 8, 0), [2026]), (8, (.aload_n 0, 9, 0, 0, 0), []), (9, (.getfield 66, 12, 4, 9, 0), [2030]), (12, (.aload_n 0, 13, 0, 0, 0), []), (13, (.getfield 9, 16, 4, 1, 0), [2008])],
  [(16, (.iload_n 1, 17, 0, 0, 0), []), (17, (.iaload, 18, 0, 0, 0), []), (18, (.invokevirtual 145, 21, 109, 3, 2), [3238, 3239, 4000, 1005]), (21, (.istore_n 3, 22, 0, 0, 0), []), (22, (.aload_n 0, 23, 0, 0, 0), []), (23, (.getfield 42, 26, 4, 0, 0), [2007]), (26, (.iload_n 3, 27, 0, 0, 0), []), (27, (.aload_n 0, 28, 0, 0, 0), []), (28, (.getfield 9, 31, 4, 1, 0), [2008]), (31, (.iload_n 1, 32, 0, 0, 0), [])],
  [(32, (.iaload, 33, 0, 0, 0), []), (33, (.invokevirtual 149, 36, 110, 2, 2), [4002, 4003, 4004, 1005]), (36, (.istore 4, 38, 0, 0, 0), []), (38, (.aload_n 0, 39, 0, 0, 0), []), (39, (.aload_n 0, 40, 0, 0, 0), []), (40, (.getfield 9, 43, 4, 1, 0), [2008]), (43, (.iload_n 1, 44, 0, 0, 0), []), (44, (.iaload, 45, 0, 0, 0), []), (45, (.putfield 35, 48, 4, 8, 0), [2026])],
  [(48, (.aload_n 0, 49, 0, 0, 0), []), (49, (.iload_n 3, 50, 0, 0, 0), []), (50, (.aload_n 0, 51, 0, 0, 0), []), (51, (.getfield 66, 54, 4, 9, 0), [2030]), (54, (.invokestatic 152, 57, 111, 18, 0), [4006, 4007, 1005]), (57, (.putfield 66, 60, 4, 9, 0), [2030]), (60, (.aload_n 0, 61, 0, 0, 0), []), (61, (.dup, 62, 0, 0, 0), []), (62, (.getfield 78, 65, 4, 13, 0), [2038])],
  [(65, (.iload 4, 67, 0, 0, 0), []), (67, (.iadd, 68, 0, 0, 0), []), (68, (.putfield 78, 71, 4, 13, 0), [2038]), (71, (.iload_n 3, 72, 0, 0, 0), []), (72, (.iconst 1, 73, 0, 0, 0), []), (73, (.iand, 74, 0, 0, 0), []), (74, (.ifCond .eq 13, 77, 87, 0, 0), []), (77, (.aload_n 0, 78, 0, 0, 0), []), (78, (.dup, 79, 0, 0, 0), []), (79, (.getfield 72, 82, 4, 11, 0), [2034])],
  [(82, (.iconst 1, 83, 0, 0, 0), []), (83, (.iadd, 84, 0, 0, 0), []), (84, (.putfield 72, 87, 4, 11, 0), [2034]), (87, (.iload_n 3, 88, 0, 0, 0), []), (88, (.iconst 2, 89, 0, 0, 0), []), (89, (.iand, 90, 0, 0, 0), []), (90, (.ifCond .eq 13, 93, 103, 0, 0), []), (93, (.aload_n 0, 94, 0, 0, 0), []), (94, (.dup, 95, 0, 0, 0), []), (95, (.getfield 75, 98, 4, 12, 0), [2036])],
  [(98, (.iconst 1, 99, 0, 0, 0), []), (99, (.iadd, 100, 0, 0, 0), []), (100, (.putfield 75, 103, 4, 12, 0), [2036]), (103, (.aload_n 0, 104, 0, 0, 0), []), (104, (.dup, 105, 0, 0, 0), []), (105, (.getfield 69, 108, 4, 10, 0), [2032]), (108, (.iconst 1, 109, 0, 0, 0), []), (109, (.iadd, 110, 0, 0, 0), []), (110, (.putfield 69, 113, 4, 10, 0), [2032])],
  [(113, (.aload_n 0, 114, 0, 0, 0), []), (114, (.iload_n 1, 115, 0, 0, 0), []), (115, (.iload 4, 117, 0, 0, 0), []), (117, (.iload_n 2, 118, 0, 0, 0), []), (118, (.ifCond .eq 9, 121, 127, 0, 0), []), (121, (.iload_n 3, 122, 0, 0, 0), []), (122, (.iconst 4, 123, 0, 0, 0), []), (123, (.ior, 124, 0, 0, 0), []), (124, (.goto 4, 127, 128, 0, 0), []), (127, (.iload_n 3, 128, 0, 0, 0), [])],
  [(128, (.invokevirtual 155, 131, 144, 3, 4), [4009, 4011, 3, 1007]), (131, (.return_, 132, 0, 0, 0), [])]]
-- PaintBank$Line.note(III)V
noncomputable def md_L144 : List (List mm_Ln) := [[(0, (.aload_n 0, 1, 0, 0, 0), []), (1, (.getfield 81, 4, 4, 15, 0), [2042]), (4, (.bipush 36, 6, 0, 0, 0), []), (6, (.if_icmp .lt 4, 9, 10, 0, 0), []), (9, (.return_, 10, 0, 0, 0), []), (10, (.aload_n 0, 11, 0, 0, 0), []), (11, (.getfield 81, 14, 4, 15, 0), [2042]), (14, (.iconst 4, 15, 0, 0, 0), []), (15, (.imul, 16, 0, 0, 0), [])],
  [(16, (.istore 4, 18, 0, 0, 0), []), (18, (.aload_n 0, 19, 0, 0, 0), []), (19, (.getfield 39, 22, 4, 14, 0), [2040]), (22, (.iload 4, 24, 0, 0, 0), []), (24, (.iconst 0, 25, 0, 0, 0), []), (25, (.iadd, 26, 0, 0, 0), []), (26, (.iload_n 1, 27, 0, 0, 0), []), (27, (.iastore, 28, 0, 0, 0), []), (28, (.aload_n 0, 29, 0, 0, 0), []), (29, (.getfield 39, 32, 4, 14, 0), [2040])],
  [(32, (.iload 4, 34, 0, 0, 0), []), (34, (.iconst 1, 35, 0, 0, 0), []), (35, (.iadd, 36, 0, 0, 0), []), (36, (.aload_n 0, 37, 0, 0, 0), []), (37, (.getfield 9, 40, 4, 1, 0), [2008]), (40, (.iload_n 1, 41, 0, 0, 0), []), (41, (.iaload, 42, 0, 0, 0), []), (42, (.iastore, 43, 0, 0, 0), []), (43, (.aload_n 0, 44, 0, 0, 0), []), (44, (.getfield 39, 47, 4, 14, 0), [2040]), (47, (.iload 4, 49, 0, 0, 0), [])],
  [(49, (.iconst 2, 50, 0, 0, 0), []), (50, (.iadd, 51, 0, 0, 0), []), (51, (.iload_n 2, 52, 0, 0, 0), []), (52, (.iastore, 53, 0, 0, 0), []), (53, (.aload_n 0, 54, 0, 0, 0), []), (54, (.getfield 39, 57, 4, 14, 0), [2040]), (57, (.iload 4, 59, 0, 0, 0), []), (59, (.iconst 3, 60, 0, 0, 0), []), (60, (.iadd, 61, 0, 0, 0), []), (61, (.iload_n 3, 62, 0, 0, 0), []), (62, (.iastore, 63, 0, 0, 0), []), (63, (.aload_n 0, 64, 0, 0, 0), [])],
  [(64, (.dup, 65, 0, 0, 0), []), (65, (.getfield 81, 68, 4, 15, 0), [2042]), (68, (.iconst 1, 69, 0, 0, 0), []), (69, (.iadd, 70, 0, 0, 0), []), (70, (.putfield 81, 73, 4, 15, 0), [2042]), (73, (.return_, 74, 0, 0, 0), [])]]
-- PaintBank$Line.carsInLanes()I
noncomputable def md_L145 : List (List mm_Ln) := [[(0, (.iconst 0, 1, 0, 0, 0), []), (1, (.istore_n 1, 2, 0, 0, 0), []), (2, (.iconst 0, 3, 0, 0, 0), []), (3, (.istore_n 2, 4, 0, 0, 0), []), (4, (.iload_n 2, 5, 0, 0, 0), []), (5, (.aload_n 0, 6, 0, 0, 0), []), (6, (.getfield 42, 9, 4, 0, 0), [2007]), (9, (.getfield 98, 12, 2, 1, 0), [1105]), (12, (.if_icmp .ge 21, 15, 33, 0, 0), []), (15, (.iload_n 1, 16, 0, 0, 0), [])],
  [(16, (.aload_n 0, 17, 0, 0, 0), []), (17, (.getfield 20, 20, 4, 3, 0), [2013]), (20, (.iload_n 2, 21, 0, 0, 0), []), (21, (.aaload, 22, 0, 0, 0), []), (22, (.getfield 60, 25, 5, 1, 0), [1237]), (25, (.iadd, 26, 0, 0, 0), []), (26, (.istore_n 1, 27, 0, 0, 0), []), (27, (.iinc 2 1, 30, 0, 0, 0), []), (30, (.goto (-26), 33, 4, 0, 0), [])],
  [(33, (.iload_n 1, 34, 0, 0, 0), []), (34, (.ireturn, 35, 0, 0, 0), [])]]
-- PaintBank$Line.recolor(II)Z
noncomputable def md_L146 : List (List mm_Ln) := [[(0, (.iload_n 1, 1, 0, 0, 0), []), (1, (.ifCond .lt 19, 4, 20, 0, 0), []), (4, (.iload_n 1, 5, 0, 0, 0), []), (5, (.bipush 12, 7, 0, 0, 0), []), (7, (.if_icmp .ge 13, 10, 20, 0, 0), []), (10, (.aload_n 0, 11, 0, 0, 0), []), (11, (.getfield 9, 14, 4, 1, 0), [2008]), (14, (.iload_n 1, 15, 0, 0, 0), []), (15, (.iaload, 16, 0, 0, 0), [])],
  [(16, (.iload_n 2, 17, 0, 0, 0), []), (17, (.if_icmp .ne 5, 20, 22, 0, 0), []), (20, (.iconst 0, 21, 0, 0, 0), []), (21, (.ireturn, 22, 0, 0, 0), []), (22, (.aload_n 0, 23, 0, 0, 0), []), (23, (.getfield 9, 26, 4, 1, 0), [2008]), (26, (.iload_n 1, 27, 0, 0, 0), []), (27, (.iload_n 2, 28, 0, 0, 0), []), (28, (.iastore, 29, 0, 0, 0), []), (29, (.aload_n 0, 30, 0, 0, 0), []), (30, (.dup, 31, 0, 0, 0), []), (31, (.getfield 84, 34, 4, 16, 0), [2046])],
  [(34, (.iconst 1, 35, 0, 0, 0), []), (35, (.iadd, 36, 0, 0, 0), []), (36, (.putfield 84, 39, 4, 16, 0), [2046]), (39, (.iconst 1, 40, 0, 0, 0), []), (40, (.ireturn, 41, 0, 0, 0), [])]]
-- PaintBank$Line.colorsInLanes()I
noncomputable def md_L147 : List (List mm_Ln) := [[(0, (.iconst 0, 1, 0, 0, 0), []), (1, (.istore_n 1, 2, 0, 0, 0), []), (2, (.iconst 0, 3, 0, 0, 0), []), (3, (.istore_n 2, 4, 0, 0, 0), []), (4, (.iload_n 2, 5, 0, 0, 0), []), (5, (.aload_n 0, 6, 0, 0, 0), []), (6, (.getfield 42, 9, 4, 0, 0), [2007]), (9, (.getfield 98, 12, 2, 1, 0), [1105]), (12, (.if_icmp .ge 49, 15, 61, 0, 0), []), (15, (.iconst 0, 16, 0, 0, 0), [])],
  [(16, (.istore_n 3, 17, 0, 0, 0), []), (17, (.iload_n 3, 18, 0, 0, 0), []), (18, (.aload_n 0, 19, 0, 0, 0), []), (19, (.getfield 20, 22, 4, 3, 0), [2013]), (22, (.iload_n 2, 23, 0, 0, 0), []), (23, (.aaload, 24, 0, 0, 0), []), (24, (.getfield 60, 27, 5, 1, 0), [1237]), (27, (.if_icmp .ge 28, 30, 55, 0, 0), []), (30, (.iload_n 1, 31, 0, 0, 0), []), (31, (.iconst 1, 32, 0, 0, 0), [])],
  [(32, (.aload_n 0, 33, 0, 0, 0), []), (33, (.aload_n 0, 34, 0, 0, 0), []), (34, (.getfield 20, 37, 4, 3, 0), [2013]), (37, (.iload_n 2, 38, 0, 0, 0), []), (38, (.aaload, 39, 0, 0, 0), []), (39, (.iload_n 3, 40, 0, 0, 0), []), (40, (.invokevirtual 106, 43, 154, 1, 5), [3097, 3086, 3087, 1008]), (43, (.invokevirtual 109, 46, 131, 1, 4), [3119, 3120, 3121, 1007]), (46, (.ishl, 47, 0, 0, 0), []), (47, (.ior, 48, 0, 0, 0), [])],
  [(48, (.istore_n 1, 49, 0, 0, 0), []), (49, (.iinc 3 1, 52, 0, 0, 0), []), (52, (.goto (-35), 55, 17, 0, 0), []), (55, (.iinc 2 1, 58, 0, 0, 0), []), (58, (.goto (-54), 61, 4, 0, 0), []), (61, (.iload_n 1, 62, 0, 0, 0), []), (62, (.ireturn, 63, 0, 0, 0), [])]]
-- PaintBank$Line.boundOf(I)I
noncomputable def md_L148 : List (List mm_Ln) := [[(0, (.iconst 0, 1, 0, 0, 0), []), (1, (.istore_n 2, 2, 0, 0, 0), []), (2, (.iconst 0, 3, 0, 0, 0), []), (3, (.istore_n 3, 4, 0, 0, 0), []), (4, (.iconst 0, 5, 0, 0, 0), []), (5, (.istore 4, 7, 0, 0, 0), []), (7, (.iload 4, 9, 0, 0, 0), []), (9, (.aload_n 0, 10, 0, 0, 0), []), (10, (.getfield 42, 13, 4, 0, 0), [2007]), (13, (.getfield 185, 16, 2, 0, 0), [1101])],
  [(16, (.if_icmp .ge 55, 19, 71, 0, 0), []), (19, (.iload_n 1, 20, 0, 0, 0), []), (20, (.iload 4, 22, 0, 0, 0), []), (22, (.ishr, 23, 0, 0, 0), []), (23, (.iconst 1, 24, 0, 0, 0), []), (24, (.iand, 25, 0, 0, 0), []), (25, (.ifCond .eq 40, 28, 65, 0, 0), []), (28, (.iload 4, 30, 0, 0, 0), []), (30, (.aload_n 0, 31, 0, 0, 0), []), (31, (.getfield 35, 34, 4, 8, 0), [2026])],
  [(34, (.if_icmp .eq 31, 37, 65, 0, 0), []), (37, (.iload_n 2, 38, 0, 0, 0), []), (38, (.aload_n 0, 39, 0, 0, 0), []), (39, (.getfield 42, 42, 4, 0, 0), [2007]), (42, (.getfield 188, 45, 2, 11, 0), [1144]), (45, (.iload 4, 47, 0, 0, 0), []), (47, (.iaload, 48, 0, 0, 0), [])],
  [(48, (.iadd, 49, 0, 0, 0), []), (49, (.istore_n 2, 50, 0, 0, 0), []), (50, (.iload_n 3, 51, 0, 0, 0), []), (51, (.aload_n 0, 52, 0, 0, 0), []), (52, (.getfield 42, 55, 4, 0, 0), [2007]), (55, (.getfield 188, 58, 2, 11, 0), [1144]), (58, (.iload 4, 60, 0, 0, 0), []), (60, (.iaload, 61, 0, 0, 0), []), (61, (.invokestatic 112, 64, 354, 18, 0), [3098, 3071, 1022])],
  [(64, (.istore_n 3, 65, 0, 0, 0), []), (65, (.iinc 4 1, 68, 0, 0, 0), []), (68, (.goto (-61), 71, 7, 0, 0), []), (71, (.aload_n 0, 72, 0, 0, 0), []), (72, (.getfield 35, 75, 4, 8, 0), [2026]), (75, (.iconst (-1), 76, 0, 0, 0), []), (76, (.if_icmp .ne 9, 79, 85, 0, 0), []), (79, (.iload_n 2, 80, 0, 0, 0), [])],
  [(80, (.iload_n 3, 81, 0, 0, 0), []), (81, (.isub, 82, 0, 0, 0), []), (82, (.goto 4, 85, 86, 0, 0), []), (85, (.iload_n 2, 86, 0, 0, 0), []), (86, (.ireturn, 87, 0, 0, 0), [])]]
-- PaintBank$Line.colorsNotOut()I
noncomputable def md_L149 : List (List mm_Ln) := [[(0, (.iconst 0, 1, 0, 0, 0), []), (1, (.istore_n 1, 2, 0, 0, 0), []), (2, (.iconst 0, 3, 0, 0, 0), []), (3, (.istore_n 2, 4, 0, 0, 0), []), (4, (.iload_n 2, 5, 0, 0, 0), []), (5, (.aload_n 0, 6, 0, 0, 0), []), (6, (.getfield 42, 9, 4, 0, 0), [2007]), (9, (.getfield 91, 12, 2, 2, 0), [1109]), (12, (.if_icmp .ge 32, 15, 44, 0, 0), []), (15, (.aload_n 0, 16, 0, 0, 0), [])],
  [(16, (.getfield 32, 19, 4, 6, 0), [2020]), (19, (.iload_n 2, 20, 0, 0, 0), []), (20, (.invokevirtual 94, 23, 159, 1, 5), [4167, 4168, 4169, 1008]), (23, (.iconst (-1), 24, 0, 0, 0), []), (24, (.if_icmp .ne 14, 27, 38, 0, 0), []), (27, (.iload_n 1, 28, 0, 0, 0), []), (28, (.iconst 1, 29, 0, 0, 0), []), (29, (.aload_n 0, 30, 0, 0, 0), []), (30, (.getfield 9, 33, 4, 1, 0), [2008])],
  [(33, (.iload_n 2, 34, 0, 0, 0), []), (34, (.iaload, 35, 0, 0, 0), []), (35, (.ishl, 36, 0, 0, 0), []), (36, (.ior, 37, 0, 0, 0), []), (37, (.istore_n 1, 38, 0, 0, 0), []), (38, (.iinc 2 1, 41, 0, 0, 0), []), (41, (.goto (-37), 44, 4, 0, 0), []), (44, (.iload_n 1, 45, 0, 0, 0), []), (45, (.ireturn, 46, 0, 0, 0), [])]]
-- PaintBank$Line.changesAmongWaiting()I
noncomputable def md_L150 : List (List mm_Ln) := [[(0, (.iconst 0, 1, 0, 0, 0), []), (1, (.istore_n 1, 2, 0, 0, 0), []), (2, (.aload_n 0, 3, 0, 0, 0), []), (3, (.getfield 63, 6, 4, 7, 0), [2024]), (6, (.iconst 1, 7, 0, 0, 0), []), (7, (.iadd, 8, 0, 0, 0), []), (8, (.istore_n 2, 9, 0, 0, 0), []), (9, (.iload_n 2, 10, 0, 0, 0), []), (10, (.aload_n 0, 11, 0, 0, 0), []), (11, (.getfield 42, 14, 4, 0, 0), [2007]), (14, (.getfield 91, 17, 2, 2, 0), [1109])],
  [(17, (.if_icmp .ge 29, 20, 46, 0, 0), []), (20, (.aload_n 0, 21, 0, 0, 0), []), (21, (.getfield 9, 24, 4, 1, 0), [2008]), (24, (.iload_n 2, 25, 0, 0, 0), []), (25, (.iaload, 26, 0, 0, 0), []), (26, (.aload_n 0, 27, 0, 0, 0), []), (27, (.getfield 9, 30, 4, 1, 0), [2008]), (30, (.iload_n 2, 31, 0, 0, 0), []), (31, (.iconst 1, 32, 0, 0, 0), [])],
  [(32, (.isub, 33, 0, 0, 0), []), (33, (.iaload, 34, 0, 0, 0), []), (34, (.if_icmp .eq 6, 37, 40, 0, 0), []), (37, (.iinc 1 1, 40, 0, 0, 0), []), (40, (.iinc 2 1, 43, 0, 0, 0), []), (43, (.goto (-34), 46, 9, 0, 0), []), (46, (.iload_n 1, 47, 0, 0, 0), []), (47, (.ireturn, 48, 0, 0, 0), [])]]
-- PaintBank$Line.startOver()V
noncomputable def md_L151 : List (List mm_Ln) := [[(0, (.aload_n 0, 1, 0, 0, 0), []), (1, (.getfield 42, 4, 4, 0, 0), [2007]), (4, (.getfield 46, 7, 2, 13, 0), [1150]), (7, (.iconst 0, 8, 0, 0, 0), []), (8, (.aload_n 0, 9, 0, 0, 0), []), (9, (.getfield 9, 12, 4, 1, 0), [2008]), (12, (.iconst 0, 13, 0, 0, 0), []), (13, (.bipush 12, 15, 0, 0, 0), []), (15, (.invokestatic 51, 18, 0, 101, 0), [3159, 3161, 3160, 1021])],
  [(18, (.aload_n 0, 19, 0, 0, 0), []), (19, (.getfield 42, 22, 4, 0, 0), [2007]), (22, (.getfield 57, 25, 2, 15, 0), [1157]), (25, (.iconst 0, 26, 0, 0, 0), []), (26, (.aload_n 0, 27, 0, 0, 0), []), (27, (.getfield 15, 30, 4, 2, 0), [2011]), (30, (.iconst 0, 31, 0, 0, 0), []), (31, (.bipush 12, 33, 0, 0, 0), [])],
  [(33, (.invokestatic 51, 36, 0, 101, 0), [3159, 3161, 3160, 1021]), (36, (.iconst 0, 37, 0, 0, 0), []), (37, (.istore_n 1, 38, 0, 0, 0), []), (38, (.iload_n 1, 39, 0, 0, 0), []), (39, (.iconst 4, 40, 0, 0, 0), []), (40, (.if_icmp .ge 19, 43, 59, 0, 0), []), (43, (.aload_n 0, 44, 0, 0, 0), []), (44, (.getfield 20, 47, 4, 3, 0), [2013]), (47, (.iload_n 1, 48, 0, 0, 0), [])],
  [(48, (.aaload, 49, 0, 0, 0), []), (49, (.iconst 0, 50, 0, 0, 0), []), (50, (.putfield 60, 53, 5, 1, 0), [1237]), (53, (.iinc 1 1, 56, 0, 0, 0), []), (56, (.goto (-18), 59, 38, 0, 0), []), (59, (.aload_n 0, 60, 0, 0, 0), []), (60, (.getfield 25, 63, 4, 4, 0), [2017]), (63, (.iconst 0, 64, 0, 0, 0), [])],
  [(64, (.putfield 60, 67, 5, 1, 0), [1237]), (67, (.aload_n 0, 68, 0, 0, 0), []), (68, (.getfield 29, 71, 4, 5, 0), [2019]), (71, (.iconst 0, 72, 0, 0, 0), []), (72, (.putfield 60, 75, 5, 1, 0), [1237]), (75, (.aload_n 0, 76, 0, 0, 0), []), (76, (.getfield 32, 79, 4, 6, 0), [2020]), (79, (.iconst 0, 80, 0, 0, 0), [])],
  [(80, (.putfield 60, 83, 5, 1, 0), [1237]), (83, (.aload_n 0, 84, 0, 0, 0), []), (84, (.iconst 0, 85, 0, 0, 0), []), (85, (.putfield 63, 88, 4, 7, 0), [2024]), (88, (.aload_n 0, 89, 0, 0, 0), []), (89, (.iconst (-1), 90, 0, 0, 0), []), (90, (.putfield 35, 93, 4, 8, 0), [2026]), (93, (.aload_n 0, 94, 0, 0, 0), []), (94, (.iconst 0, 95, 0, 0, 0), []), (95, (.putfield 66, 98, 4, 9, 0), [2030])],
  [(98, (.aload_n 0, 99, 0, 0, 0), []), (99, (.iconst 0, 100, 0, 0, 0), []), (100, (.putfield 69, 103, 4, 10, 0), [2032]), (103, (.aload_n 0, 104, 0, 0, 0), []), (104, (.iconst 0, 105, 0, 0, 0), []), (105, (.putfield 72, 108, 4, 11, 0), [2034]), (108, (.aload_n 0, 109, 0, 0, 0), []), (109, (.iconst 0, 110, 0, 0, 0), []), (110, (.putfield 75, 113, 4, 12, 0), [2036])],
  [(113, (.aload_n 0, 114, 0, 0, 0), []), (114, (.iconst 0, 115, 0, 0, 0), []), (115, (.putfield 78, 118, 4, 13, 0), [2038]), (118, (.aload_n 0, 119, 0, 0, 0), []), (119, (.iconst 0, 120, 0, 0, 0), []), (120, (.putfield 81, 123, 4, 15, 0), [2042]), (123, (.aload_n 0, 124, 0, 0, 0), []), (124, (.dup, 125, 0, 0, 0), []), (125, (.getfield 84, 128, 4, 16, 0), [2046])],
  [(128, (.iconst 1, 129, 0, 0, 0), []), (129, (.iadd, 130, 0, 0, 0), []), (130, (.putfield 84, 133, 4, 16, 0), [2046]), (133, (.return_, 134, 0, 0, 0), [])]]
-- PaintBank$Line.placeKind(I)I
noncomputable def md_L152 : List (List mm_Ln) := [[(0, (.iload_n 1, 1, 0, 0, 0), []), (1, (.aload_n 0, 2, 0, 0, 0), []), (2, (.getfield 63, 5, 4, 7, 0), [2024]), (5, (.if_icmp .lt 5, 8, 10, 0, 0), []), (8, (.iconst 0, 9, 0, 0, 0), []), (9, (.ireturn, 10, 0, 0, 0), []), (10, (.aload_n 0, 11, 0, 0, 0), []), (11, (.getfield 32, 14, 4, 6, 0), [2020]), (14, (.iload_n 1, 15, 0, 0, 0), []), (15, (.invokevirtual 94, 18, 159, 1, 5), [4167, 4168, 4169, 1008])],
  [(18, (.iconst (-1), 19, 0, 0, 0), []), (19, (.if_icmp .eq 5, 22, 24, 0, 0), []), (22, (.iconst 3, 23, 0, 0, 0), []), (23, (.ireturn, 24, 0, 0, 0), []), (24, (.aload_n 0, 25, 0, 0, 0), []), (25, (.getfield 25, 28, 4, 4, 0), [2017]), (28, (.iload_n 1, 29, 0, 0, 0), []), (29, (.invokevirtual 94, 32, 159, 1, 5), [4167, 4168, 4169, 1008])],
  [(32, (.iconst (-1), 33, 0, 0, 0), []), (33, (.if_icmp .eq 7, 36, 40, 0, 0), []), (36, (.iconst 2, 37, 0, 0, 0), []), (37, (.goto 4, 40, 41, 0, 0), []), (40, (.iconst 1, 41, 0, 0, 0), []), (41, (.ireturn, 42, 0, 0, 0), [])]]
-- PaintBank$Row.<init>()V
noncomputable def md_L153 : List (List mm_Ln) := [[(0, (.aload_n 0, 1, 0, 0, 0), []), (1, (.invokespecial 3, 4, 0, 80, 0), [1234, 1036, 1037]), (4, (.aload_n 0, 5, 0, 0, 0), []), (5, (.bipush 12, 7, 0, 0, 0), []), (7, (.newarray .int, 9, 0, 0, 0), [1193]), (9, (.putfield 9, 12, 5, 0, 3), [1235]), (12, (.return_, 13, 0, 0, 0), [])]]
-- PaintBank$Row.at(I)I
noncomputable def md_L154 : List (List mm_Ln) := [[(0, (.iload_n 1, 1, 0, 0, 0), []), (1, (.ifCond .lt 11, 4, 12, 0, 0), []), (4, (.iload_n 1, 5, 0, 0, 0), []), (5, (.aload_n 0, 6, 0, 0, 0), []), (6, (.getfield 15, 9, 5, 1, 0), [1236]), (9, (.if_icmp .lt 7, 12, 16, 0, 0), []), (12, (.iconst (-1), 13, 0, 0, 0), []), (13, (.goto 9, 16, 22, 0, 0), [])],
  [(16, (.aload_n 0, 17, 0, 0, 0), []), (17, (.getfield 9, 20, 5, 0, 0), [1235]), (20, (.iload_n 1, 21, 0, 0, 0), []), (21, (.iaload, 22, 0, 0, 0), []), (22, (.ireturn, 23, 0, 0, 0), [])]]
-- PaintBank$Row.copyFrom(LPaintBank$Row;)V
noncomputable def md_L155 : List (List mm_Ln) := [[(0, (.aload_n 0, 1, 0, 0, 0), []), (1, (.aload_n 1, 2, 0, 0, 0), []), (2, (.getfield 15, 5, 5, 1, 0), [1236]), (5, (.putfield 15, 8, 5, 1, 0), [1236]), (8, (.aload_n 1, 9, 0, 0, 0), []), (9, (.getfield 9, 12, 5, 0, 0), [1235]), (12, (.iconst 0, 13, 0, 0, 0), []), (13, (.aload_n 0, 14, 0, 0, 0), []), (14, (.getfield 9, 17, 5, 0, 0), [1235])],
  [(17, (.iconst 0, 18, 0, 0, 0), []), (18, (.aload_n 0, 19, 0, 0, 0), []), (19, (.getfield 15, 22, 5, 1, 0), [1236]), (22, (.invokestatic 19, 25, 0, 101, 0), [3166, 3161, 3160, 1021]), (25, (.return_, 26, 0, 0, 0), [])]]
-- PaintBank$Row.last()I
noncomputable def md_L156 : List (List mm_Ln) := [[(0, (.aload_n 0, 1, 0, 0, 0), []), (1, (.getfield 15, 4, 5, 1, 0), [1236]), (4, (.ifCond .le 17, 7, 21, 0, 0), []), (7, (.aload_n 0, 8, 0, 0, 0), []), (8, (.getfield 9, 11, 5, 0, 0), [1235]), (11, (.aload_n 0, 12, 0, 0, 0), []), (12, (.getfield 15, 15, 5, 1, 0), [1236]), (15, (.iconst 1, 16, 0, 0, 0), [])],
  [(16, (.isub, 17, 0, 0, 0), []), (17, (.iaload, 18, 0, 0, 0), []), (18, (.goto 4, 21, 22, 0, 0), []), (21, (.iconst (-1), 22, 0, 0, 0), []), (22, (.ireturn, 23, 0, 0, 0), [])]]
-- PaintBank$Row.dropFirst()V
noncomputable def md_L157 : List (List mm_Ln) := [[(0, (.aload_n 0, 1, 0, 0, 0), []), (1, (.getfield 15, 4, 5, 1, 0), [1236]), (4, (.ifCond .le 30, 7, 34, 0, 0), []), (7, (.aload_n 0, 8, 0, 0, 0), []), (8, (.dup, 9, 0, 0, 0), []), (9, (.getfield 15, 12, 5, 1, 0), [1236]), (12, (.iconst 1, 13, 0, 0, 0), []), (13, (.isub, 14, 0, 0, 0), []), (14, (.putfield 15, 17, 5, 1, 0), [1236])],
  [(17, (.aload_n 0, 18, 0, 0, 0), []), (18, (.getfield 9, 21, 5, 0, 0), [1235]), (21, (.iconst 1, 22, 0, 0, 0), []), (22, (.aload_n 0, 23, 0, 0, 0), []), (23, (.getfield 9, 26, 5, 0, 0), [1235]), (26, (.iconst 0, 27, 0, 0, 0), []), (27, (.aload_n 0, 28, 0, 0, 0), []), (28, (.getfield 15, 31, 5, 1, 0), [1236]), (31, (.invokestatic 19, 34, 0, 101, 0), [3166, 3161, 3160, 1021])],
  [(34, (.return_, 35, 0, 0, 0), [])]]
-- PaintBank$Row.add(I)V
noncomputable def md_L158 : List (List mm_Ln) := [[(0, (.aload_n 0, 1, 0, 0, 0), []), (1, (.getfield 15, 4, 5, 1, 0), [1236]), (4, (.aload_n 0, 5, 0, 0, 0), []), (5, (.getfield 9, 8, 5, 0, 0), [1235]), (8, (.arraylength, 9, 0, 0, 0), []), (9, (.if_icmp .ge 23, 12, 32, 0, 0), []), (12, (.aload_n 0, 13, 0, 0, 0), []), (13, (.getfield 9, 16, 5, 0, 0), [1235])],
  [(16, (.aload_n 0, 17, 0, 0, 0), []), (17, (.getfield 15, 20, 5, 1, 0), [1236]), (20, (.iload_n 1, 21, 0, 0, 0), []), (21, (.iastore, 22, 0, 0, 0), []), (22, (.aload_n 0, 23, 0, 0, 0), []), (23, (.dup, 24, 0, 0, 0), []), (24, (.getfield 15, 27, 5, 1, 0), [1236]), (27, (.iconst 1, 28, 0, 0, 0), []), (28, (.iadd, 29, 0, 0, 0), []), (29, (.putfield 15, 32, 5, 1, 0), [1236])],
  [(32, (.return_, 33, 0, 0, 0), [])]]
-- PaintBank$Row.find(I)I
noncomputable def md_L159 : List (List mm_Ln) := [[(0, (.iconst 0, 1, 0, 0, 0), []), (1, (.istore_n 2, 2, 0, 0, 0), []), (2, (.iload_n 2, 3, 0, 0, 0), []), (3, (.aload_n 0, 4, 0, 0, 0), []), (4, (.getfield 15, 7, 5, 1, 0), [1236]), (7, (.if_icmp .ge 21, 10, 28, 0, 0), []), (10, (.aload_n 0, 11, 0, 0, 0), []), (11, (.getfield 9, 14, 5, 0, 0), [1235]), (14, (.iload_n 2, 15, 0, 0, 0), []), (15, (.iaload, 16, 0, 0, 0), [])],
  [(16, (.iload_n 1, 17, 0, 0, 0), []), (17, (.if_icmp .ne 5, 20, 22, 0, 0), []), (20, (.iload_n 2, 21, 0, 0, 0), []), (21, (.ireturn, 22, 0, 0, 0), []), (22, (.iinc 2 1, 25, 0, 0, 0), []), (25, (.goto (-23), 28, 2, 0, 0), []), (28, (.iconst (-1), 29, 0, 0, 0), []), (29, (.ireturn, 30, 0, 0, 0), [])]]
-- PaintBank$Unloading.<init>(LPaintBank$Setup;LPaintBank$Line;)V
noncomputable def md_L160 : List (List mm_Ln) := [[(0, (.aload_n 0, 1, 0, 0, 0), []), (1, (.invokespecial 3, 4, 0, 80, 0), [2088, 1036, 1037]), (4, (.aload_n 0, 5, 0, 0, 0), []), (5, (.sipush 11520, 8, 0, 0, 0), []), (8, (.newarray .int, 10, 0, 0, 0), [1193]), (10, (.putfield 11, 13, 6, 2, 3), [2093]), (13, (.aload_n 0, 14, 0, 0, 0), []), (14, (.sipush 11520, 17, 0, 0, 0), [])],
  [(17, (.newarray .byte, 19, 2, 0, 0), [1087]), (19, (.putfield 15, 22, 6, 3, 3), [2094]), (22, (.aload_n 0, 23, 0, 0, 0), []), (23, (.iconst 4, 24, 0, 0, 0), []), (24, (.newarray .int, 26, 0, 0, 0), [1193]), (26, (.putfield 19, 29, 6, 4, 3), [2095]), (29, (.aload_n 0, 30, 0, 0, 0), []), (30, (.iconst 4, 31, 0, 0, 0), []), (31, (.newarray .int, 33, 0, 0, 0), [1193])],
  [(33, (.putfield 22, 36, 6, 5, 3), [2096]), (36, (.aload_n 0, 37, 0, 0, 0), []), (37, (.iconst (-1), 38, 0, 0, 0), []), (38, (.putfield 25, 41, 6, 7, 0), [2098]), (41, (.aload_n 0, 42, 0, 0, 0), []), (42, (.new 29, 45, 5, 0, 0), [2089, 1230, 1008]), (45, (.dup, 46, 0, 0, 0), []), (46, (.invokespecial 31, 49, 153, 32, 5), [1232, 1008])],
  [(49, (.putfield 32, 52, 6, 8, 3), [2099]), (52, (.aload_n 0, 53, 0, 0, 0), []), (53, (.aload_n 1, 54, 0, 0, 0), []), (54, (.putfield 36, 57, 6, 0, 3), [2091]), (57, (.aload_n 0, 58, 0, 0, 0), []), (58, (.aload_n 2, 59, 0, 0, 0), []), (59, (.putfield 40, 62, 6, 1, 3), [2092]), (62, (.return_, 63, 0, 0, 0), [])]]
-- PaintBank$Unloading.plan()V
noncomputable def md_L161 : List (List mm_Ln) := [[(0, (.aload_n 0, 1, 0, 0, 0), []), (1, (.getfield 25, 4, 6, 7, 0), [2098]), (4, (.aload_n 0, 5, 0, 0, 0), []), (5, (.getfield 40, 8, 6, 1, 0), [2092]), (8, (.getfield 44, 11, 4, 16, 0), [2044]), (11, (.if_icmp .ne 4, 14, 15, 0, 0), []), (14, (.return_, 15, 0, 0, 0), []), (15, (.aload_n 0, 16, 0, 0, 0), [])],
  [(16, (.aload_n 0, 17, 0, 0, 0), []), (17, (.getfield 40, 20, 6, 1, 0), [2092]), (20, (.getfield 44, 23, 4, 16, 0), [2044]), (23, (.putfield 25, 26, 6, 7, 0), [2098]), (26, (.aload_n 0, 27, 0, 0, 0), []), (27, (.aload_n 0, 28, 0, 0, 0), []), (28, (.getfield 40, 31, 6, 1, 0), [2092]), (31, (.invokevirtual 49, 34, 145, 0, 4), [4022, 4023, 4024, 1007])],
  [(34, (.putfield 53, 37, 6, 6, 0), [2097]), (37, (.aload_n 0, 38, 0, 0, 0), []), (38, (.aload_n 0, 39, 0, 0, 0), []), (39, (.invokevirtual 56, 42, 162, 0, 6), [4026, 4028, 4, 1009]), (42, (.invokevirtual 59, 45, 163, 1, 6), [4030, 4032, 5, 1009]), (45, (.aload_n 0, 46, 0, 0, 0), []), (46, (.iconst 0, 47, 0, 0, 0), []), (47, (.iconst 0, 48, 0, 0, 0), [])],
  [(48, (.aload_n 0, 49, 0, 0, 0), []), (49, (.getfield 40, 52, 6, 1, 0), [2092]), (52, (.getfield 63, 55, 4, 8, 0), [2027]), (55, (.aload_n 0, 56, 0, 0, 0), []), (56, (.getfield 40, 59, 6, 1, 0), [2092]), (59, (.getfield 66, 62, 4, 9, 0), [2029]), (62, (.invokevirtual 69, 65, 164, 4, 6), [4035, 4037, 6, 1009])],
  [(65, (.istore_n 1, 66, 0, 0, 0), []), (66, (.aload_n 0, 67, 0, 0, 0), []), (67, (.iload_n 1, 68, 0, 0, 0), []), (68, (.ldc 73, 70, 0, 1048576, 0), [4044]), (70, (.if_icmp .ge 7, 73, 77, 0, 0), []), (73, (.iconst 1, 74, 0, 0, 0), []), (74, (.goto 4, 77, 78, 0, 0), []), (77, (.iconst 0, 78, 0, 0, 0), []), (78, (.putfield 74, 81, 6, 9, 2), [2101])],
  [(81, (.aload_n 0, 82, 0, 0, 0), []), (82, (.iload_n 1, 83, 0, 0, 0), []), (83, (.bipush 16, 85, 0, 0, 0), []), (85, (.idiv, 86, 0, 0, 0), []), (86, (.putfield 78, 89, 6, 11, 0), [2106]), (89, (.aload_n 0, 90, 0, 0, 0), []), (90, (.iload_n 1, 91, 0, 0, 0), []), (91, (.bipush 16, 93, 0, 0, 0), []), (93, (.irem, 94, 0, 0, 0), []), (94, (.putfield 81, 97, 6, 12, 0), [2108])],
  [(97, (.aload_n 0, 98, 0, 0, 0), []), (98, (.getfield 32, 101, 6, 8, 0), [2099]), (101, (.iconst 0, 102, 0, 0, 0), []), (102, (.putfield 84, 105, 5, 1, 0), [1238]), (105, (.aload_n 0, 106, 0, 0, 0), []), (106, (.getfield 74, 109, 6, 9, 0), [2101]), (109, (.ifCond .eq 7, 112, 116, 0, 0), [])],
  [(112, (.aload_n 0, 113, 0, 0, 0), []), (113, (.invokevirtual 87, 116, 168, 0, 6), [4057, 4059, 10, 1009]), (116, (.return_, 117, 0, 0, 0), [])]]
-- PaintBank$Unloading.weighLanes()I
noncomputable def md_L162 : List (List mm_Ln) := [[(0, (.iconst 1, 1, 0, 0, 0), []), (1, (.istore_n 1, 2, 0, 0, 0), []), (2, (.iconst 0, 3, 0, 0, 0), []), (3, (.istore_n 2, 4, 0, 0, 0), []), (4, (.iload_n 2, 5, 0, 0, 0), []), (5, (.iconst 4, 6, 0, 0, 0), []), (6, (.if_icmp .ge 40, 9, 46, 0, 0), []), (9, (.aload_n 0, 10, 0, 0, 0), []), (10, (.getfield 19, 13, 6, 4, 0), [2095]), (13, (.iload_n 2, 14, 0, 0, 0), []), (14, (.iconst 0, 15, 0, 0, 0), []), (15, (.iastore, 16, 0, 0, 0), [])],
  [(16, (.aload_n 0, 17, 0, 0, 0), []), (17, (.getfield 22, 20, 6, 5, 0), [2096]), (20, (.iload_n 2, 21, 0, 0, 0), []), (21, (.iload_n 1, 22, 0, 0, 0), []), (22, (.iastore, 23, 0, 0, 0), []), (23, (.iload_n 1, 24, 0, 0, 0), []), (24, (.aload_n 0, 25, 0, 0, 0), []), (25, (.getfield 40, 28, 6, 1, 0), [2092]), (28, (.getfield 90, 31, 4, 3, 0), [2015]), (31, (.iload_n 2, 32, 0, 0, 0), [])],
  [(32, (.aaload, 33, 0, 0, 0), []), (33, (.getfield 84, 36, 5, 1, 0), [1238]), (36, (.iconst 1, 37, 0, 0, 0), []), (37, (.iadd, 38, 0, 0, 0), []), (38, (.imul, 39, 0, 0, 0), []), (39, (.istore_n 1, 40, 0, 0, 0), []), (40, (.iinc 2 1, 43, 0, 0, 0), []), (43, (.goto (-39), 46, 4, 0, 0), []), (46, (.iload_n 1, 47, 0, 0, 0), []), (47, (.ireturn, 48, 0, 0, 0), [])]]
-- PaintBank$Unloading.forgetWorths(I)V
noncomputable def md_L163 : List (List mm_Ln) := [[(0, (.iload_n 1, 1, 0, 0, 0), []), (1, (.iconst 5, 2, 0, 0, 0), []), (2, (.imul, 3, 0, 0, 0), []), (3, (.bipush 9, 5, 0, 0, 0), []), (5, (.imul, 6, 0, 0, 0), []), (6, (.aload_n 0, 7, 0, 0, 0), []), (7, (.getfield 11, 10, 6, 2, 0), [2093]), (10, (.arraylength, 11, 0, 0, 0), []), (11, (.invokestatic 94, 14, 355, 18, 0), [4034, 3180, 1022]), (14, (.istore_n 2, 15, 0, 0, 0), []), (15, (.iconst 0, 16, 0, 0, 0), [])],
  [(16, (.istore_n 3, 17, 0, 0, 0), []), (17, (.iload_n 3, 18, 0, 0, 0), []), (18, (.iload_n 2, 19, 0, 0, 0), []), (19, (.if_icmp .ge 16, 22, 35, 0, 0), []), (22, (.aload_n 0, 23, 0, 0, 0), []), (23, (.getfield 11, 26, 6, 2, 0), [2093]), (26, (.iload_n 3, 27, 0, 0, 0), []), (27, (.iconst (-1), 28, 0, 0, 0), []), (28, (.iastore, 29, 0, 0, 0), []), (29, (.iinc 3 1, 32, 0, 0, 0), [])],
  [(32, (.goto (-15), 35, 17, 0, 0), []), (35, (.return_, 36, 0, 0, 0), [])]]
-- PaintBank$Unloading.worthOfRest(IIII)I
noncomputable def md_L164 : List (List mm_Ln) := [[(0, (.iload_n 1, 1, 0, 0, 0), []), (1, (.aload_n 0, 2, 0, 0, 0), []), (2, (.getfield 53, 5, 6, 6, 0), [2097]), (5, (.if_icmp .lt 5, 8, 10, 0, 0), []), (8, (.iconst 0, 9, 0, 0, 0), []), (9, (.ireturn, 10, 0, 0, 0), []), (10, (.aload_n 0, 11, 0, 0, 0), []), (11, (.iload_n 2, 12, 0, 0, 0), []), (12, (.iload_n 3, 13, 0, 0, 0), []), (13, (.iload 4, 15, 0, 0, 0), []), (15, (.invokevirtual 103, 18, 165, 3, 6), [4039, 4041, 7, 1009])],
  [(18, (.istore 5, 20, 0, 0, 0), []), (20, (.aload_n 0, 21, 0, 0, 0), []), (21, (.getfield 11, 24, 6, 2, 0), [2093]), (24, (.iload 5, 26, 0, 0, 0), []), (26, (.iaload, 27, 0, 0, 0), []), (27, (.iconst (-1), 28, 0, 0, 0), []), (28, (.if_icmp .eq 11, 31, 39, 0, 0), []), (31, (.aload_n 0, 32, 0, 0, 0), [])],
  [(32, (.getfield 11, 35, 6, 2, 0), [2093]), (35, (.iload 5, 37, 0, 0, 0), []), (37, (.iaload, 38, 0, 0, 0), []), (38, (.ireturn, 39, 0, 0, 0), []), (39, (.ldc 73, 41, 0, 1048576, 0), [4044]), (41, (.istore 6, 43, 0, 0, 0), []), (43, (.iconst 0, 44, 0, 0, 0), []), (44, (.istore 7, 46, 0, 0, 0), []), (46, (.iload 7, 48, 0, 0, 0), [])],
  [(48, (.aload_n 0, 49, 0, 0, 0), []), (49, (.getfield 36, 52, 6, 0, 0), [2091]), (52, (.getfield 107, 55, 2, 1, 0), [1106]), (55, (.if_icmp .ge 43, 58, 98, 0, 0), []), (58, (.aload_n 0, 59, 0, 0, 0), []), (59, (.iload 7, 61, 0, 0, 0), []), (61, (.iload_n 1, 62, 0, 0, 0), []), (62, (.iload_n 2, 63, 0, 0, 0), []), (63, (.iload_n 3, 64, 0, 0, 0), [])],
  [(64, (.iload 4, 66, 0, 0, 0), []), (66, (.invokevirtual 111, 69, 166, 5, 6), [4045, 4047, 8, 1009]), (69, (.istore 8, 71, 0, 0, 0), []), (71, (.iload 8, 73, 0, 0, 0), []), (73, (.iload 6, 75, 0, 0, 0), []), (75, (.if_icmp .ge 17, 78, 92, 0, 0), []), (78, (.iload 8, 80, 0, 0, 0), [])],
  [(80, (.istore 6, 82, 0, 0, 0), []), (82, (.aload_n 0, 83, 0, 0, 0), []), (83, (.getfield 15, 86, 6, 3, 0), [2094]), (86, (.iload 5, 88, 0, 0, 0), []), (88, (.iload 7, 90, 0, 0, 0), []), (90, (.i2b, 91, 0, 0, 0), []), (91, (.bastore, 92, 0, 0, 0), []), (92, (.iinc 7 1, 95, 0, 0, 0), []), (95, (.goto (-49), 98, 46, 0, 0), [])],
  [(98, (.aload_n 0, 99, 0, 0, 0), []), (99, (.getfield 11, 102, 6, 2, 0), [2093]), (102, (.iload 5, 104, 0, 0, 0), []), (104, (.iload 6, 106, 0, 0, 0), []), (106, (.iastore, 107, 0, 0, 0), []), (107, (.iload 6, 109, 0, 0, 0), []), (109, (.ireturn, 110, 0, 0, 0), [])]]
-- PaintBank$Unloading.keyOf(III)I
noncomputable def md_L165 : List (List mm_Ln) := [[(0, (.iload_n 1, 1, 0, 0, 0), []), (1, (.ifCond .ne 7, 4, 8, 0, 0), []), (4, (.iconst 0, 5, 0, 0, 0), []), (5, (.goto 15, 8, 20, 0, 0), []), (8, (.iload_n 1, 9, 0, 0, 0), []), (9, (.iconst 5, 10, 0, 0, 0), []), (10, (.imul, 11, 0, 0, 0), []), (11, (.iload_n 2, 12, 0, 0, 0), []), (12, (.iadd, 13, 0, 0, 0), []), (13, (.bipush 9, 15, 0, 0, 0), []), (15, (.imul, 16, 0, 0, 0), [])],
  [(16, (.iload_n 3, 17, 0, 0, 0), []), (17, (.iadd, 18, 0, 0, 0), []), (18, (.iconst 1, 19, 0, 0, 0), []), (19, (.isub, 20, 0, 0, 0), []), (20, (.istore 4, 22, 0, 0, 0), []), (22, (.iload 4, 24, 0, 0, 0), []), (24, (.iconst 0, 25, 0, 0, 0), []), (25, (.invokestatic 100, 28, 354, 18, 0), [4043, 3071, 1022]), (28, (.aload_n 0, 29, 0, 0, 0), []), (29, (.getfield 11, 32, 6, 2, 0), [2093])],
  [(32, (.arraylength, 33, 0, 0, 0), []), (33, (.iconst 1, 34, 0, 0, 0), []), (34, (.isub, 35, 0, 0, 0), []), (35, (.invokestatic 94, 38, 355, 18, 0), [4034, 3180, 1022]), (38, (.ireturn, 39, 0, 0, 0), [])]]
-- PaintBank$Unloading.worthThrough(IIIII)I
noncomputable def md_L166 : List (List mm_Ln) := [[(0, (.aload_n 0, 1, 0, 0, 0), []), (1, (.getfield 40, 4, 6, 1, 0), [2092]), (4, (.getfield 90, 7, 4, 3, 0), [2015]), (7, (.iload_n 1, 8, 0, 0, 0), []), (8, (.aaload, 9, 0, 0, 0), []), (9, (.aload_n 0, 10, 0, 0, 0), []), (10, (.getfield 19, 13, 6, 4, 0), [2095]), (13, (.iload_n 1, 14, 0, 0, 0), []), (14, (.iaload, 15, 0, 0, 0), []), (15, (.invokevirtual 115, 18, 154, 1, 5), [4049, 3086, 3087, 1008])],
  [(18, (.istore 6, 20, 0, 0, 0), []), (20, (.iload 6, 22, 0, 0, 0), []), (22, (.ifCond .lt 31, 25, 53, 0, 0), []), (25, (.iload 6, 27, 0, 0, 0), []), (27, (.bipush 12, 29, 0, 0, 0), []), (29, (.if_icmp .ge 24, 32, 53, 0, 0), [])],
  [(32, (.aload_n 0, 33, 0, 0, 0), []), (33, (.iload 6, 35, 0, 0, 0), []), (35, (.aload_n 0, 36, 0, 0, 0), []), (36, (.getfield 40, 39, 6, 1, 0), [2092]), (39, (.getfield 119, 42, 4, 6, 0), [2022]), (42, (.getfield 84, 45, 5, 1, 0), [1238]), (45, (.iload_n 2, 46, 0, 0, 0), []), (46, (.iadd, 47, 0, 0, 0), []), (47, (.invokevirtual 122, 50, 167, 2, 6), [4050, 4052, 9, 1009])],
  [(50, (.ifCond .ne 6, 53, 56, 0, 0), []), (53, (.ldc 73, 55, 0, 1048576, 0), [4044]), (55, (.ireturn, 56, 0, 0, 0), []), (56, (.aload_n 0, 57, 0, 0, 0), []), (57, (.getfield 40, 60, 6, 1, 0), [2092]), (60, (.getfield 126, 63, 4, 1, 0), [2009]), (63, (.iload 6, 65, 0, 0, 0), [])],
  [(65, (.iaload, 66, 0, 0, 0), []), (66, (.istore 7, 68, 0, 0, 0), []), (68, (.aload_n 0, 69, 0, 0, 0), []), (69, (.getfield 36, 72, 6, 0, 0), [2091]), (72, (.iload 4, 74, 0, 0, 0), []), (74, (.iload 5, 76, 0, 0, 0), []), (76, (.iload 7, 78, 0, 0, 0), []), (78, (.invokevirtual 129, 81, 109, 3, 2), [4054, 3239, 4000, 1005])],
  [(81, (.istore 8, 83, 0, 0, 0), []), (83, (.aload_n 0, 84, 0, 0, 0), []), (84, (.getfield 36, 87, 6, 0, 0), [2091]), (87, (.iload 8, 89, 0, 0, 0), []), (89, (.iload 7, 91, 0, 0, 0), []), (91, (.invokevirtual 132, 94, 110, 2, 2), [4055, 4003, 4004, 1005]), (94, (.bipush 16, 96, 0, 0, 0), [])],
  [(96, (.imul, 97, 0, 0, 0), []), (97, (.iload 8, 99, 0, 0, 0), []), (99, (.iconst 1, 100, 0, 0, 0), []), (100, (.if_icmp .ne 7, 103, 107, 0, 0), []), (103, (.iconst 1, 104, 0, 0, 0), []), (104, (.goto 4, 107, 108, 0, 0), []), (107, (.iconst 0, 108, 0, 0, 0), []), (108, (.iadd, 109, 0, 0, 0), []), (109, (.istore 9, 111, 0, 0, 0), []), (111, (.iload_n 3, 112, 0, 0, 0), [])],
  [(112, (.aload_n 0, 113, 0, 0, 0), []), (113, (.getfield 22, 116, 6, 5, 0), [2096]), (116, (.iload_n 1, 117, 0, 0, 0), []), (117, (.iaload, 118, 0, 0, 0), []), (118, (.iadd, 119, 0, 0, 0), []), (119, (.istore 10, 121, 0, 0, 0), []), (121, (.aload_n 0, 122, 0, 0, 0), []), (122, (.getfield 19, 125, 6, 4, 0), [2095]), (125, (.iload_n 1, 126, 0, 0, 0), []), (126, (.dup2, 127, 0, 0, 0), []), (127, (.iaload, 128, 0, 0, 0), [])],
  [(128, (.iconst 1, 129, 0, 0, 0), []), (129, (.iadd, 130, 0, 0, 0), []), (130, (.iastore, 131, 0, 0, 0), []), (131, (.iload 9, 133, 0, 0, 0), []), (133, (.aload_n 0, 134, 0, 0, 0), []), (134, (.iload_n 2, 135, 0, 0, 0), []), (135, (.iconst 1, 136, 0, 0, 0), []), (136, (.iadd, 137, 0, 0, 0), []), (137, (.iload 10, 139, 0, 0, 0), []), (139, (.iload 7, 141, 0, 0, 0), []), (141, (.iload 8, 143, 0, 0, 0), []), (143, (.iload 5, 145, 0, 0, 0), [])],
  [(145, (.invokestatic 135, 148, 111, 18, 0), [4056, 4007, 1005]), (148, (.invokevirtual 69, 151, 164, 4, 6), [4035, 4037, 6, 1009]), (151, (.iadd, 152, 0, 0, 0), []), (152, (.istore 9, 154, 0, 0, 0), []), (154, (.aload_n 0, 155, 0, 0, 0), []), (155, (.getfield 19, 158, 6, 4, 0), [2095]), (158, (.iload_n 1, 159, 0, 0, 0), []), (159, (.dup2, 160, 0, 0, 0), [])],
  [(160, (.iaload, 161, 0, 0, 0), []), (161, (.iconst 1, 162, 0, 0, 0), []), (162, (.isub, 163, 0, 0, 0), []), (163, (.iastore, 164, 0, 0, 0), []), (164, (.iload 9, 166, 0, 0, 0), []), (166, (.ldc 73, 168, 0, 1048576, 0), [4044]), (168, (.invokestatic 94, 171, 355, 18, 0), [4034, 3180, 1022]), (171, (.ireturn, 172, 0, 0, 0), [])]]
-- PaintBank$Unloading.fitsOut(II)Z
noncomputable def md_L167 : List (List mm_Ln) := [[(0, (.iload_n 2, 1, 0, 0, 0), []), (1, (.iload_n 1, 2, 0, 0, 0), []), (2, (.aload_n 0, 3, 0, 0, 0), []), (3, (.getfield 36, 6, 6, 0, 0), [2091]), (6, (.getfield 138, 9, 2, 3, 0), [1114]), (9, (.isub, 10, 0, 0, 0), []), (10, (.if_icmp .lt 20, 13, 30, 0, 0), []), (13, (.iload_n 2, 14, 0, 0, 0), []), (14, (.iload_n 1, 15, 0, 0, 0), []), (15, (.aload_n 0, 16, 0, 0, 0), [])],
  [(16, (.getfield 36, 19, 6, 0, 0), [2091]), (19, (.getfield 141, 22, 2, 4, 0), [1119]), (22, (.iadd, 23, 0, 0, 0), []), (23, (.if_icmp .gt 7, 26, 30, 0, 0), []), (26, (.iconst 1, 27, 0, 0, 0), []), (27, (.goto 4, 30, 31, 0, 0), []), (30, (.iconst 0, 31, 0, 0, 0), []), (31, (.ireturn, 32, 0, 0, 0), [])]]
-- PaintBank$Unloading.collectLanes()V
noncomputable def md_L168 : List (List mm_Ln) := [[(0, (.iconst 0, 1, 0, 0, 0), []), (1, (.istore_n 1, 2, 0, 0, 0), []), (2, (.aload_n 0, 3, 0, 0, 0), []), (3, (.getfield 40, 6, 6, 1, 0), [2092]), (6, (.getfield 63, 9, 4, 8, 0), [2027]), (9, (.istore_n 2, 10, 0, 0, 0), []), (10, (.aload_n 0, 11, 0, 0, 0), []), (11, (.getfield 40, 14, 6, 1, 0), [2092]), (14, (.getfield 66, 17, 4, 9, 0), [2029])],
  [(17, (.istore_n 3, 18, 0, 0, 0), []), (18, (.iconst 0, 19, 0, 0, 0), []), (19, (.istore 4, 21, 0, 0, 0), []), (21, (.iload 4, 23, 0, 0, 0), []), (23, (.aload_n 0, 24, 0, 0, 0), []), (24, (.getfield 53, 27, 6, 6, 0), [2097]), (27, (.if_icmp .ge 131, 30, 158, 0, 0), []), (30, (.aload_n 0, 31, 0, 0, 0), []), (31, (.getfield 15, 34, 6, 3, 0), [2094])],
  [(34, (.aload_n 0, 35, 0, 0, 0), []), (35, (.iload_n 1, 36, 0, 0, 0), []), (36, (.iload_n 2, 37, 0, 0, 0), []), (37, (.iload_n 3, 38, 0, 0, 0), []), (38, (.invokevirtual 103, 41, 165, 3, 6), [4039, 4041, 7, 1009]), (41, (.baload, 42, 0, 0, 0), []), (42, (.istore 5, 44, 0, 0, 0), []), (44, (.iload 5, 46, 0, 0, 0), []), (46, (.ifCond .lt 9, 49, 55, 0, 0), [])],
  [(49, (.iload 5, 51, 0, 0, 0), []), (51, (.iconst 4, 52, 0, 0, 0), []), (52, (.if_icmp .lt 4, 55, 56, 0, 0), []), (55, (.return_, 56, 0, 0, 0), []), (56, (.aload_n 0, 57, 0, 0, 0), []), (57, (.getfield 40, 60, 6, 1, 0), [2092]), (60, (.getfield 90, 63, 4, 3, 0), [2015]), (63, (.iload 5, 65, 0, 0, 0), [])],
  [(65, (.aaload, 66, 0, 0, 0), []), (66, (.aload_n 0, 67, 0, 0, 0), []), (67, (.getfield 19, 70, 6, 4, 0), [2095]), (70, (.iload 5, 72, 0, 0, 0), []), (72, (.iaload, 73, 0, 0, 0), []), (73, (.invokevirtual 115, 76, 154, 1, 5), [4049, 3086, 3087, 1008]), (76, (.istore 6, 78, 0, 0, 0), []), (78, (.iload 6, 80, 0, 0, 0), [])],
  [(80, (.ifCond .lt 10, 83, 90, 0, 0), []), (83, (.iload 6, 85, 0, 0, 0), []), (85, (.bipush 12, 87, 0, 0, 0), []), (87, (.if_icmp .lt 4, 90, 91, 0, 0), []), (90, (.return_, 91, 0, 0, 0), []), (91, (.aload_n 0, 92, 0, 0, 0), []), (92, (.getfield 40, 95, 6, 1, 0), [2092]), (95, (.getfield 126, 98, 4, 1, 0), [2009])],
  [(98, (.iload 6, 100, 0, 0, 0), []), (100, (.iaload, 101, 0, 0, 0), []), (101, (.istore 7, 103, 0, 0, 0), []), (103, (.aload_n 0, 104, 0, 0, 0), []), (104, (.getfield 32, 107, 6, 8, 0), [2099]), (107, (.iload 5, 109, 0, 0, 0), []), (109, (.invokevirtual 144, 112, 158, 1, 5), [4061, 3215, 3216, 1008])],
  [(112, (.aload_n 0, 113, 0, 0, 0), []), (113, (.getfield 19, 116, 6, 4, 0), [2095]), (116, (.iload 5, 118, 0, 0, 0), []), (118, (.dup2, 119, 0, 0, 0), []), (119, (.iaload, 120, 0, 0, 0), []), (120, (.iconst 1, 121, 0, 0, 0), []), (121, (.iadd, 122, 0, 0, 0), []), (122, (.iastore, 123, 0, 0, 0), []), (123, (.iload_n 1, 124, 0, 0, 0), []), (124, (.aload_n 0, 125, 0, 0, 0), []), (125, (.getfield 22, 128, 6, 5, 0), [2096])],
  [(128, (.iload 5, 130, 0, 0, 0), []), (130, (.iaload, 131, 0, 0, 0), []), (131, (.iadd, 132, 0, 0, 0), []), (132, (.istore_n 1, 133, 0, 0, 0), []), (133, (.aload_n 0, 134, 0, 0, 0), []), (134, (.getfield 36, 137, 6, 0, 0), [2091]), (137, (.iload_n 2, 138, 0, 0, 0), []), (138, (.iload_n 3, 139, 0, 0, 0), []), (139, (.iload 7, 141, 0, 0, 0), []), (141, (.invokevirtual 129, 144, 109, 3, 2), [4054, 3239, 4000, 1005])],
  [(144, (.iload_n 3, 145, 0, 0, 0), []), (145, (.invokestatic 135, 148, 111, 18, 0), [4056, 4007, 1005]), (148, (.istore_n 3, 149, 0, 0, 0), []), (149, (.iload 7, 151, 0, 0, 0), []), (151, (.istore_n 2, 152, 0, 0, 0), []), (152, (.iinc 4 1, 155, 0, 0, 0), []), (155, (.goto (-134), 158, 21, 0, 0), []), (158, (.return_, 159, 0, 0, 0), [])]]
-- PaintBank$Unloading.carryOut()I
noncomputable def md_L169 : List (List mm_Ln) := [[(0, (.aload_n 0, 1, 0, 0, 0), []), (1, (.iconst 0, 2, 0, 0, 0), []), (2, (.putfield 147, 5, 6, 10, 2), [2105]), (5, (.iconst 0, 6, 0, 0, 0), []), (6, (.istore_n 1, 7, 0, 0, 0), []), (7, (.iload_n 1, 8, 0, 0, 0), []), (8, (.aload_n 0, 9, 0, 0, 0), []), (9, (.getfield 32, 12, 6, 8, 0), [2099]), (12, (.getfield 84, 15, 5, 1, 0), [1238]), (15, (.if_icmp .ge 50, 18, 65, 0, 0), [])],
  [(18, (.aload_n 0, 19, 0, 0, 0), []), (19, (.getfield 40, 22, 6, 1, 0), [2092]), (22, (.aload_n 0, 23, 0, 0, 0), []), (23, (.getfield 32, 26, 6, 8, 0), [2099]), (26, (.iload_n 1, 27, 0, 0, 0), []), (27, (.invokevirtual 115, 30, 154, 1, 5), [4049, 3086, 3087, 1008]), (30, (.invokevirtual 150, 33, 142, 1, 4), [4066, 3231, 3232, 1007])],
  [(33, (.istore_n 2, 34, 0, 0, 0), []), (34, (.iload_n 2, 35, 0, 0, 0), []), (35, (.iconst (-1), 36, 0, 0, 0), []), (36, (.if_icmp .ne 5, 39, 41, 0, 0), []), (39, (.iload_n 1, 40, 0, 0, 0), []), (40, (.ireturn, 41, 0, 0, 0), []), (41, (.aload_n 0, 42, 0, 0, 0), []), (42, (.getfield 40, 45, 6, 1, 0), [2092]), (45, (.getfield 119, 48, 4, 6, 0), [2022])],
  [(48, (.invokevirtual 153, 51, 156, 0, 5), [4067, 3203, 3204, 1008]), (51, (.iload_n 2, 52, 0, 0, 0), []), (52, (.if_icmp .eq 7, 55, 59, 0, 0), []), (55, (.iload_n 1, 56, 0, 0, 0), []), (56, (.iconst 1, 57, 0, 0, 0), []), (57, (.iadd, 58, 0, 0, 0), []), (58, (.ireturn, 59, 0, 0, 0), []), (59, (.iinc 1 1, 62, 0, 0, 0), []), (62, (.goto (-55), 65, 7, 0, 0), [])],
  [(65, (.aload_n 0, 66, 0, 0, 0), []), (66, (.iconst 1, 67, 0, 0, 0), []), (67, (.putfield 147, 70, 6, 10, 2), [2105]), (70, (.aload_n 0, 71, 0, 0, 0), []), (71, (.getfield 32, 74, 6, 8, 0), [2099]), (74, (.getfield 84, 77, 5, 1, 0), [1238]), (77, (.ireturn, 78, 0, 0, 0), [])]]
-- PaintBank$Exchange.<init>(LPaintBank$Setup;LPaintBank$Line;)V
noncomputable def md_L170 : List (List mm_Ln) := [[(0, (.aload_n 0, 1, 0, 0, 0), []), (1, (.invokespecial 3, 4, 0, 80, 0), [2142, 1036, 1037]), (4, (.aload_n 0, 5, 0, 0, 0), []), (5, (.sipush 4096, 8, 0, 0, 0), []), (8, (.newarray .int, 10, 0, 0, 0), [1193]), (10, (.putfield 9, 13, 7, 2, 3), [2147]), (13, (.aload_n 0, 14, 0, 0, 0), []), (14, (.bipush 60, 16, 0, 0, 0), [])],
  [(16, (.newarray .int, 18, 0, 0, 0), [1193]), (18, (.putfield 15, 21, 7, 3, 3), [2148]), (21, (.aload_n 0, 22, 0, 0, 0), []), (22, (.iconst (-1), 23, 0, 0, 0), []), (23, (.putfield 18, 26, 7, 5, 0), [2150]), (26, (.aload_n 0, 27, 0, 0, 0), []), (27, (.new 22, 30, 5, 0, 0), [2143, 1230, 1008]), (30, (.dup, 31, 0, 0, 0), []), (31, (.invokespecial 24, 34, 153, 32, 5), [1232, 1008])],
  [(34, (.putfield 25, 37, 7, 6, 3), [2151]), (37, (.aload_n 0, 38, 0, 0, 0), []), (38, (.aload_n 1, 39, 0, 0, 0), []), (39, (.putfield 29, 42, 7, 0, 3), [2145]), (42, (.aload_n 0, 43, 0, 0, 0), []), (43, (.aload_n 2, 44, 0, 0, 0), []), (44, (.putfield 33, 47, 7, 1, 3), [2146]), (47, (.return_, 48, 0, 0, 0), [])]]
-- PaintBank$Exchange.plan()V
noncomputable def md_L171 : List (List mm_Ln) := [[(0, (.aload_n 0, 1, 0, 0, 0), []), (1, (.getfield 18, 4, 7, 5, 0), [2150]), (4, (.aload_n 0, 5, 0, 0, 0), []), (5, (.getfield 33, 8, 7, 1, 0), [2146]), (8, (.getfield 37, 11, 4, 16, 0), [2045]), (11, (.if_icmp .ne 4, 14, 15, 0, 0), []), (14, (.return_, 15, 0, 0, 0), []), (15, (.aload_n 0, 16, 0, 0, 0), [])],
  [(16, (.aload_n 0, 17, 0, 0, 0), []), (17, (.getfield 33, 20, 7, 1, 0), [2146]), (20, (.getfield 37, 23, 4, 16, 0), [2045]), (23, (.putfield 18, 26, 7, 5, 0), [2150]), (26, (.aload_n 0, 27, 0, 0, 0), []), (27, (.aload_n 0, 28, 0, 0, 0), []), (28, (.getfield 33, 31, 7, 1, 0), [2146]), (31, (.invokevirtual 42, 34, 128, 0, 4), [4076, 3078, 3079, 1007])],
  [(34, (.bipush 12, 36, 0, 0, 0), []), (36, (.invokestatic 46, 39, 355, 18, 0), [4077, 3180, 1022]), (39, (.putfield 52, 42, 7, 4, 0), [2149]), (42, (.aload_n 0, 43, 0, 0, 0), []), (43, (.invokevirtual 55, 46, 172, 0, 7), [4078, 4080, 11, 1010]), (46, (.aload_n 0, 47, 0, 0, 0), []), (47, (.getfield 15, 50, 7, 3, 0), [2148])],
  [(50, (.iconst 0, 51, 0, 0, 0), []), (51, (.invokestatic 58, 54, 357, 18, 0), [4082, 4083, 1023]), (54, (.iconst 0, 55, 0, 0, 0), []), (55, (.istore_n 1, 56, 0, 0, 0), []), (56, (.iload_n 1, 57, 0, 0, 0), []), (57, (.aload_n 0, 58, 0, 0, 0), []), (58, (.getfield 52, 61, 7, 4, 0), [2149]), (61, (.if_icmp .ge 31, 64, 92, 0, 0), [])],
  [(64, (.iconst 0, 65, 0, 0, 0), []), (65, (.istore_n 2, 66, 0, 0, 0), []), (66, (.iload_n 2, 67, 0, 0, 0), []), (67, (.aload_n 0, 68, 0, 0, 0), []), (68, (.getfield 52, 71, 7, 4, 0), [2149]), (71, (.if_icmp .ge 15, 74, 86, 0, 0), []), (74, (.aload_n 0, 75, 0, 0, 0), []), (75, (.iload_n 1, 76, 0, 0, 0), []), (76, (.iload_n 2, 77, 0, 0, 0), []), (77, (.invokevirtual 64, 80, 173, 2, 7), [4085, 4087, 12, 1010])],
  [(80, (.iinc 2 1, 83, 0, 0, 0), []), (83, (.goto (-17), 86, 66, 0, 0), []), (86, (.iinc 1 1, 89, 0, 0, 0), []), (89, (.goto (-33), 92, 56, 0, 0), []), (92, (.aload_n 0, 93, 0, 0, 0), []), (93, (.aload_n 0, 94, 0, 0, 0), []), (94, (.iconst 0, 95, 0, 0, 0), []), (95, (.iconst 0, 96, 0, 0, 0), [])],
  [(96, (.invokevirtual 68, 99, 174, 2, 7), [4094, 4096, 13, 1010]), (99, (.invokestatic 71, 102, 177, 17, 0), [4114, 4115, 1010]), (102, (.putfield 75, 105, 7, 7, 0), [2153]), (105, (.aload_n 0, 106, 0, 0, 0), []), (106, (.getfield 25, 109, 7, 6, 0), [2151]), (109, (.iconst 0, 110, 0, 0, 0), []), (110, (.putfield 78, 113, 5, 1, 0), [1239])],
  [(113, (.aload_n 0, 114, 0, 0, 0), []), (114, (.invokevirtual 79, 117, 178, 0, 7), [4117, 4119, 15, 1010]), (117, (.return_, 118, 0, 0, 0), [])]]
-- PaintBank$Exchange.forgetWays()V
noncomputable def md_L172 : List (List mm_Ln) := [[(0, (.iconst 1, 1, 0, 0, 0), []), (1, (.aload_n 0, 2, 0, 0, 0), []), (2, (.getfield 52, 5, 7, 4, 0), [2149]), (5, (.ishl, 6, 0, 0, 0), []), (6, (.aload_n 0, 7, 0, 0, 0), []), (7, (.getfield 9, 10, 7, 2, 0), [2147]), (10, (.arraylength, 11, 0, 0, 0), []), (11, (.invokestatic 46, 14, 355, 18, 0), [4077, 3180, 1022]), (14, (.istore_n 1, 15, 0, 0, 0), []), (15, (.iconst 0, 16, 0, 0, 0), [])],
  [(16, (.istore_n 2, 17, 0, 0, 0), []), (17, (.iload_n 2, 18, 0, 0, 0), []), (18, (.iload_n 1, 19, 0, 0, 0), []), (19, (.if_icmp .ge 16, 22, 35, 0, 0), []), (22, (.aload_n 0, 23, 0, 0, 0), []), (23, (.getfield 9, 26, 7, 2, 0), [2147]), (26, (.iload_n 2, 27, 0, 0, 0), []), (27, (.iconst (-1), 28, 0, 0, 0), []), (28, (.iastore, 29, 0, 0, 0), []), (29, (.iinc 2 1, 32, 0, 0, 0), [])],
  [(32, (.goto (-15), 35, 17, 0, 0), []), (35, (.return_, 36, 0, 0, 0), [])]]
-- PaintBank$Exchange.offerJob(II)V
noncomputable def md_L173 : List (List mm_Ln) := [[(0, (.aload_n 0, 1, 0, 0, 0), []), (1, (.getfield 33, 4, 7, 1, 0), [2146]), (4, (.aload_n 0, 5, 0, 0, 0), []), (5, (.getfield 33, 8, 7, 1, 0), [2146]), (8, (.getfield 82, 11, 4, 7, 0), [2025]), (11, (.iload_n 2, 12, 0, 0, 0), []), (12, (.iadd, 13, 0, 0, 0), []), (13, (.invokevirtual 85, 16, 131, 1, 4), [4089, 3120, 3121, 1007])],
  [(16, (.istore_n 3, 17, 0, 0, 0), []), (17, (.aload_n 0, 18, 0, 0, 0), []), (18, (.getfield 29, 21, 7, 0, 0), [2145]), (21, (.aload_n 0, 22, 0, 0, 0), []), (22, (.getfield 33, 25, 7, 1, 0), [2146]), (25, (.getfield 82, 28, 4, 7, 0), [2025]), (28, (.iload_n 2, 29, 0, 0, 0), []), (29, (.iadd, 30, 0, 0, 0), []), (30, (.invokevirtual 88, 33, 112, 1, 2), [4090, 4091, 4092, 1005])],
  [(33, (.istore 4, 35, 0, 0, 0), []), (35, (.iload_n 1, 36, 0, 0, 0), []), (36, (.iconst 5, 37, 0, 0, 0), []), (37, (.imul, 38, 0, 0, 0), []), (38, (.iload_n 3, 39, 0, 0, 0), []), (39, (.iadd, 40, 0, 0, 0), []), (40, (.istore 5, 42, 0, 0, 0), []), (42, (.iload_n 3, 43, 0, 0, 0), []), (43, (.iconst (-1), 44, 0, 0, 0), []), (44, (.if_icmp .eq 28, 47, 72, 0, 0), []), (47, (.iload 4, 49, 0, 0, 0), [])],
  [(49, (.aload_n 0, 50, 0, 0, 0), []), (50, (.getfield 29, 53, 7, 0, 0), [2145]), (53, (.aload_n 0, 54, 0, 0, 0), []), (54, (.getfield 33, 57, 7, 1, 0), [2146]), (57, (.getfield 82, 60, 4, 7, 0), [2025]), (60, (.iload_n 1, 61, 0, 0, 0), []), (61, (.iadd, 62, 0, 0, 0), []), (62, (.invokevirtual 88, 65, 112, 1, 2), [4090, 4091, 4092, 1005])],
  [(65, (.if_icmp .ne 7, 68, 72, 0, 0), []), (68, (.iconst 1, 69, 0, 0, 0), []), (69, (.goto 4, 72, 73, 0, 0), []), (72, (.iconst 0, 73, 0, 0, 0), []), (73, (.istore 6, 75, 0, 0, 0), []), (75, (.iload 6, 77, 0, 0, 0), []), (77, (.ifCond .eq 31, 80, 108, 0, 0), [])],
  [(80, (.iload 5, 82, 0, 0, 0), []), (82, (.ifCond .lt 26, 85, 108, 0, 0), []), (85, (.iload 5, 87, 0, 0, 0), []), (87, (.aload_n 0, 88, 0, 0, 0), []), (88, (.getfield 15, 91, 7, 3, 0), [2148]), (91, (.arraylength, 92, 0, 0, 0), []), (92, (.if_icmp .ge 16, 95, 108, 0, 0), []), (95, (.aload_n 0, 96, 0, 0, 0), [])],
  [(96, (.getfield 15, 99, 7, 3, 0), [2148]), (99, (.iload 5, 101, 0, 0, 0), []), (101, (.dup2, 102, 0, 0, 0), []), (102, (.iaload, 103, 0, 0, 0), []), (103, (.iconst 1, 104, 0, 0, 0), []), (104, (.iload_n 2, 105, 0, 0, 0), []), (105, (.ishl, 106, 0, 0, 0), []), (106, (.ior, 107, 0, 0, 0), []), (107, (.iastore, 108, 0, 0, 0), []), (108, (.return_, 109, 0, 0, 0), [])]]
-- PaintBank$Exchange.waysFrom(II)I
noncomputable def md_L174 : List (List mm_Ln) := [[(0, (.iload_n 1, 1, 0, 0, 0), []), (1, (.aload_n 0, 2, 0, 0, 0), []), (2, (.getfield 52, 5, 7, 4, 0), [2149]), (5, (.if_icmp .ge 16, 8, 21, 0, 0), []), (8, (.iload_n 2, 9, 0, 0, 0), []), (9, (.ifCond .lt 12, 12, 21, 0, 0), []), (12, (.iload_n 2, 13, 0, 0, 0), []), (13, (.aload_n 0, 14, 0, 0, 0), []), (14, (.getfield 9, 17, 7, 2, 0), [2147])],
  [(17, (.arraylength, 18, 0, 0, 0), []), (18, (.if_icmp .lt 5, 21, 23, 0, 0), []), (21, (.iconst 0, 22, 0, 0, 0), []), (22, (.ireturn, 23, 0, 0, 0), []), (23, (.aload_n 0, 24, 0, 0, 0), []), (24, (.getfield 9, 27, 7, 2, 0), [2147]), (27, (.iload_n 2, 28, 0, 0, 0), []), (28, (.iaload, 29, 0, 0, 0), []), (29, (.iconst (-1), 30, 0, 0, 0), []), (30, (.if_icmp .eq 10, 33, 40, 0, 0), [])],
  [(33, (.aload_n 0, 34, 0, 0, 0), []), (34, (.getfield 9, 37, 7, 2, 0), [2147]), (37, (.iload_n 2, 38, 0, 0, 0), []), (38, (.iaload, 39, 0, 0, 0), []), (39, (.ireturn, 40, 0, 0, 0), []), (40, (.iconst 0, 41, 0, 0, 0), []), (41, (.istore_n 3, 42, 0, 0, 0), []), (42, (.iconst 0, 43, 0, 0, 0), []), (43, (.istore 4, 45, 0, 0, 0), []), (45, (.iload 4, 47, 0, 0, 0), []), (47, (.iconst 5, 48, 0, 0, 0), [])],
  [(48, (.if_icmp .ge 73, 51, 121, 0, 0), []), (51, (.aload_n 0, 52, 0, 0, 0), []), (52, (.iload 4, 54, 0, 0, 0), []), (54, (.iload_n 1, 55, 0, 0, 0), []), (55, (.iload_n 2, 56, 0, 0, 0), []), (56, (.invokevirtual 93, 59, 175, 3, 7), [4098, 4100, 14, 1010]), (59, (.istore 5, 61, 0, 0, 0), []), (61, (.bipush 15, 63, 0, 0, 0), []), (63, (.istore 6, 65, 0, 0, 0), [])],
  [(65, (.iload 5, 67, 0, 0, 0), []), (67, (.iconst (-1), 68, 0, 0, 0), []), (68, (.if_icmp .eq 37, 71, 105, 0, 0), []), (71, (.aload_n 0, 72, 0, 0, 0), []), (72, (.iload_n 1, 73, 0, 0, 0), []), (73, (.iconst 1, 74, 0, 0, 0), []), (74, (.iadd, 75, 0, 0, 0), []), (75, (.iload_n 2, 76, 0, 0, 0), []), (76, (.iconst 1, 77, 0, 0, 0), []), (77, (.iload 5, 79, 0, 0, 0), []), (79, (.ishl, 80, 0, 0, 0), [])],
  [(80, (.ior, 81, 0, 0, 0), []), (81, (.invokevirtual 68, 84, 174, 2, 7), [4094, 4096, 13, 1010]), (84, (.istore 7, 86, 0, 0, 0), []), (86, (.iload 7, 88, 0, 0, 0), []), (88, (.iload 4, 90, 0, 0, 0), []), (90, (.invokestatic 97, 93, 176, 18, 0), [4111, 4112, 1010]), (93, (.iload 7, 95, 0, 0, 0), []), (95, (.invokestatic 71, 98, 177, 17, 0), [4114, 4115, 1010])],
  [(98, (.iconst 1, 99, 0, 0, 0), []), (99, (.iadd, 100, 0, 0, 0), []), (100, (.invokestatic 46, 103, 355, 18, 0), [4077, 3180, 1022]), (103, (.istore 6, 105, 0, 0, 0), []), (105, (.iload_n 3, 106, 0, 0, 0), []), (106, (.iload 6, 108, 0, 0, 0), []), (108, (.iload 4, 110, 0, 0, 0), []), (110, (.iconst 4, 111, 0, 0, 0), []), (111, (.imul, 112, 0, 0, 0), [])],
  [(112, (.ishl, 113, 0, 0, 0), []), (113, (.ior, 114, 0, 0, 0), []), (114, (.istore_n 3, 115, 0, 0, 0), []), (115, (.iinc 4 1, 118, 0, 0, 0), []), (118, (.goto (-73), 121, 45, 0, 0), []), (121, (.aload_n 0, 122, 0, 0, 0), []), (122, (.getfield 9, 125, 7, 2, 0), [2147]), (125, (.iload_n 2, 126, 0, 0, 0), []), (126, (.iload_n 3, 127, 0, 0, 0), []), (127, (.iastore, 128, 0, 0, 0), [])],
  [(128, (.iload_n 3, 129, 0, 0, 0), []), (129, (.ireturn, 130, 0, 0, 0), [])]]
-- PaintBank$Exchange.firstJob(III)I
noncomputable def md_L175 : List (List mm_Ln) := [[(0, (.iload_n 1, 1, 0, 0, 0), []), (1, (.ifCond .lt 18, 4, 19, 0, 0), []), (4, (.iload_n 1, 5, 0, 0, 0), []), (5, (.iconst 5, 6, 0, 0, 0), []), (6, (.if_icmp .ge 13, 9, 19, 0, 0), []), (9, (.iload_n 2, 10, 0, 0, 0), []), (10, (.ifCond .lt 9, 13, 19, 0, 0), []), (13, (.iload_n 2, 14, 0, 0, 0), []), (14, (.bipush 12, 16, 0, 0, 0), [])],
  [(16, (.if_icmp .lt 5, 19, 21, 0, 0), []), (19, (.iconst (-1), 20, 0, 0, 0), []), (20, (.ireturn, 21, 0, 0, 0), []), (21, (.aload_n 0, 22, 0, 0, 0), []), (22, (.getfield 15, 25, 7, 3, 0), [2148]), (25, (.iload_n 2, 26, 0, 0, 0), []), (26, (.iconst 5, 27, 0, 0, 0), []), (27, (.imul, 28, 0, 0, 0), []), (28, (.iload_n 1, 29, 0, 0, 0), []), (29, (.iadd, 30, 0, 0, 0), []), (30, (.iaload, 31, 0, 0, 0), []), (31, (.iload_n 3, 32, 0, 0, 0), [])],
  [(32, (.iconst (-1), 33, 0, 0, 0), []), (33, (.ixor, 34, 0, 0, 0), []), (34, (.iand, 35, 0, 0, 0), []), (35, (.istore 4, 37, 0, 0, 0), []), (37, (.iload 4, 39, 0, 0, 0), []), (39, (.ifCond .ne 5, 42, 44, 0, 0), []), (42, (.iconst (-1), 43, 0, 0, 0), []), (43, (.ireturn, 44, 0, 0, 0), []), (44, (.iload 4, 46, 0, 0, 0), []), (46, (.iload 4, 48, 0, 0, 0), [])],
  [(48, (.ineg, 49, 0, 0, 0), []), (49, (.iand, 50, 0, 0, 0), []), (50, (.iconst 1, 51, 0, 0, 0), []), (51, (.isub, 52, 0, 0, 0), []), (52, (.invokestatic 100, 55, 358, 17, 0), [4102, 4103, 1024]), (55, (.istore 5, 57, 0, 0, 0), []), (57, (.iload 5, 59, 0, 0, 0), []), (59, (.iload_n 2, 60, 0, 0, 0), []), (60, (.isub, 61, 0, 0, 0), []), (61, (.invokestatic 105, 64, 356, 17, 0), [4108, 4109, 1022])],
  [(64, (.aload_n 0, 65, 0, 0, 0), []), (65, (.getfield 29, 68, 7, 0, 0), [2145]), (68, (.getfield 108, 71, 2, 9, 0), [1136]), (71, (.if_icmp .gt 8, 74, 79, 0, 0), []), (74, (.iload 5, 76, 0, 0, 0), []), (76, (.goto 4, 79, 80, 0, 0), []), (79, (.iconst (-1), 80, 0, 0, 0), [])],
  [(80, (.ireturn, 81, 0, 0, 0), [])]]
-- PaintBank$Exchange.fewestOf(II)I
noncomputable def md_L176 : List (List mm_Ln) := [[(0, (.iload_n 0, 1, 0, 0, 0), []), (1, (.iload_n 1, 2, 0, 0, 0), []), (2, (.iconst 4, 3, 0, 0, 0), []), (3, (.imul, 4, 0, 0, 0), []), (4, (.ishr, 5, 0, 0, 0), []), (5, (.bipush 15, 7, 0, 0, 0), []), (7, (.iand, 8, 0, 0, 0), []), (8, (.ireturn, 9, 0, 0, 0), [])]]
-- PaintBank$Exchange.fewestOfAll(I)I
noncomputable def md_L177 : List (List mm_Ln) := [[(0, (.bipush 15, 2, 0, 0, 0), []), (2, (.istore_n 1, 3, 0, 0, 0), []), (3, (.iconst 0, 4, 0, 0, 0), []), (4, (.istore_n 2, 5, 0, 0, 0), []), (5, (.iload_n 2, 6, 0, 0, 0), []), (6, (.iconst 5, 7, 0, 0, 0), []), (7, (.if_icmp .ge 22, 10, 29, 0, 0), []), (10, (.iload_n 1, 11, 0, 0, 0), []), (11, (.iload_n 0, 12, 0, 0, 0), []), (12, (.iload_n 2, 13, 0, 0, 0), []), (13, (.iconst 4, 14, 0, 0, 0), []), (14, (.imul, 15, 0, 0, 0), []), (15, (.ishr, 16, 0, 0, 0), [])],
  [(16, (.bipush 15, 18, 0, 0, 0), []), (18, (.iand, 19, 0, 0, 0), []), (19, (.invokestatic 46, 22, 355, 18, 0), [4077, 3180, 1022]), (22, (.istore_n 1, 23, 0, 0, 0), []), (23, (.iinc 2 1, 26, 0, 0, 0), []), (26, (.goto (-21), 29, 5, 0, 0), []), (29, (.iload_n 1, 30, 0, 0, 0), []), (30, (.ireturn, 31, 0, 0, 0), [])]]
-- PaintBank$Exchange.collectColors()V
noncomputable def md_L178 : List (List mm_Ln) := [[(0, (.iconst 0, 1, 0, 0, 0), []), (1, (.istore_n 1, 2, 0, 0, 0), []), (2, (.aload_n 0, 3, 0, 0, 0), []), (3, (.getfield 75, 6, 7, 7, 0), [2153]), (6, (.istore_n 2, 7, 0, 0, 0), []), (7, (.iconst 0, 8, 0, 0, 0), []), (8, (.istore_n 3, 9, 0, 0, 0), []), (9, (.iload_n 3, 10, 0, 0, 0), []), (10, (.aload_n 0, 11, 0, 0, 0), []), (11, (.getfield 52, 14, 7, 4, 0), [2149]), (14, (.if_icmp .ge 73, 17, 87, 0, 0), [])],
  [(17, (.aload_n 0, 18, 0, 0, 0), []), (18, (.iload_n 3, 19, 0, 0, 0), []), (19, (.iload_n 1, 20, 0, 0, 0), []), (20, (.invokevirtual 68, 23, 174, 2, 7), [4094, 4096, 13, 1010]), (23, (.istore 4, 25, 0, 0, 0), []), (25, (.iload 4, 27, 0, 0, 0), []), (27, (.aload_n 0, 28, 0, 0, 0), []), (28, (.getfield 25, 31, 7, 6, 0), [2151]), (31, (.invokevirtual 111, 34, 156, 0, 5), [4121, 3203, 3204, 1008])],
  [(34, (.iload_n 2, 35, 0, 0, 0), []), (35, (.invokestatic 114, 38, 179, 19, 0), [4122, 4123, 1010]), (38, (.istore 5, 40, 0, 0, 0), []), (40, (.aload_n 0, 41, 0, 0, 0), []), (41, (.iload 5, 43, 0, 0, 0), []), (43, (.iload_n 3, 44, 0, 0, 0), []), (44, (.iload_n 1, 45, 0, 0, 0), []), (45, (.invokevirtual 93, 48, 175, 3, 7), [4098, 4100, 14, 1010])],
  [(48, (.istore 6, 50, 0, 0, 0), []), (50, (.iload 6, 52, 0, 0, 0), []), (52, (.iconst (-1), 53, 0, 0, 0), []), (53, (.if_icmp .ne 4, 56, 57, 0, 0), []), (56, (.return_, 57, 0, 0, 0), []), (57, (.aload_n 0, 58, 0, 0, 0), []), (58, (.getfield 25, 61, 7, 6, 0), [2151]), (61, (.iload 5, 63, 0, 0, 0), []), (63, (.invokevirtual 117, 66, 158, 1, 5), [4125, 3215, 3216, 1008])],
  [(66, (.iload_n 1, 67, 0, 0, 0), []), (67, (.iconst 1, 68, 0, 0, 0), []), (68, (.iload 6, 70, 0, 0, 0), []), (70, (.ishl, 71, 0, 0, 0), []), (71, (.ior, 72, 0, 0, 0), []), (72, (.istore_n 1, 73, 0, 0, 0), []), (73, (.iload 4, 75, 0, 0, 0), []), (75, (.iload 5, 77, 0, 0, 0), []), (77, (.invokestatic 97, 80, 176, 18, 0), [4111, 4112, 1010])],
  [(80, (.istore_n 2, 81, 0, 0, 0), []), (81, (.iinc 3 1, 84, 0, 0, 0), []), (84, (.goto (-75), 87, 9, 0, 0), []), (87, (.return_, 88, 0, 0, 0), [])]]
-- PaintBank$Exchange.lowestColor(III)I
noncomputable def md_L179 : List (List mm_Ln) := [[(0, (.iconst 0, 1, 0, 0, 0), []), (1, (.istore_n 3, 2, 0, 0, 0), []), (2, (.iload_n 3, 3, 0, 0, 0), []), (3, (.iconst 5, 4, 0, 0, 0), []), (4, (.if_icmp .ge 40, 7, 44, 0, 0), []), (7, (.iload_n 1, 8, 0, 0, 0), []), (8, (.iconst (-1), 9, 0, 0, 0), []), (9, (.if_icmp .eq 8, 12, 17, 0, 0), []), (12, (.iload_n 1, 13, 0, 0, 0), []), (13, (.iload_n 3, 14, 0, 0, 0), []), (14, (.if_icmp .ne 7, 17, 21, 0, 0), [])],
  [(17, (.iconst 0, 18, 0, 0, 0), []), (18, (.goto 4, 21, 22, 0, 0), []), (21, (.iconst 1, 22, 0, 0, 0), []), (22, (.istore 4, 24, 0, 0, 0), []), (24, (.iload_n 0, 25, 0, 0, 0), []), (25, (.iload_n 3, 26, 0, 0, 0), []), (26, (.invokestatic 97, 29, 176, 18, 0), [4111, 4112, 1010]), (29, (.iload 4, 31, 0, 0, 0), []), (31, (.iadd, 32, 0, 0, 0), [])],
  [(32, (.iload_n 2, 33, 0, 0, 0), []), (33, (.if_icmp .ne 5, 36, 38, 0, 0), []), (36, (.iload_n 3, 37, 0, 0, 0), []), (37, (.ireturn, 38, 0, 0, 0), []), (38, (.iinc 3 1, 41, 0, 0, 0), []), (41, (.goto (-39), 44, 2, 0, 0), []), (44, (.iconst (-1), 45, 0, 0, 0), []), (45, (.ireturn, 46, 0, 0, 0), [])]]
-- PaintBank$Exchange.carryOut()I
noncomputable def md_L180 : List (List mm_Ln) := [[(0, (.iconst 0, 1, 0, 0, 0), []), (1, (.istore_n 1, 2, 0, 0, 0), []), (2, (.iconst 0, 3, 0, 0, 0), []), (3, (.istore_n 2, 4, 0, 0, 0), []), (4, (.iload_n 2, 5, 0, 0, 0), []), (5, (.aload_n 0, 6, 0, 0, 0), []), (6, (.getfield 25, 9, 7, 6, 0), [2151]), (9, (.getfield 78, 12, 5, 1, 0), [1239]), (12, (.if_icmp .ge 39, 15, 51, 0, 0), []), (15, (.aload_n 0, 16, 0, 0, 0), [])],
  [(16, (.getfield 33, 19, 7, 1, 0), [2146]), (19, (.aload_n 0, 20, 0, 0, 0), []), (20, (.getfield 33, 23, 7, 1, 0), [2146]), (23, (.getfield 82, 26, 4, 7, 0), [2025]), (26, (.iload_n 2, 27, 0, 0, 0), []), (27, (.iadd, 28, 0, 0, 0), []), (28, (.aload_n 0, 29, 0, 0, 0), []), (29, (.getfield 25, 32, 7, 6, 0), [2151])],
  [(32, (.iload_n 2, 33, 0, 0, 0), []), (33, (.invokevirtual 121, 36, 154, 1, 5), [4130, 3086, 3087, 1008]), (36, (.invokevirtual 124, 39, 146, 2, 4), [4131, 4132, 4133, 1007]), (39, (.ifCond .eq 6, 42, 45, 0, 0), []), (42, (.iinc 1 1, 45, 0, 0, 0), []), (45, (.iinc 2 1, 48, 0, 0, 0), [])],
  [(48, (.goto (-44), 51, 4, 0, 0), []), (51, (.iload_n 1, 52, 0, 0, 0), []), (52, (.ireturn, 53, 0, 0, 0), [])]]
-- PaintBank$Script.<init>(LPaintBank$Text;LPaintBank$Line;LPaintBank$Unloading;LPaintBank$Exchange;)V
noncomputable def md_L181 : List (List mm_Ln) := [[(0, (.aload_n 0, 1, 0, 0, 0), []), (1, (.invokespecial 3, 4, 0, 80, 0), [2177, 1036, 1037]), (4, (.aload_n 0, 5, 0, 0, 0), []), (5, (.bipush 80, 7, 0, 0, 0), []), (7, (.anewarray 11, 10, 6, 0, 0), [2178]), (10, (.putfield 13, 13, 8, 4, 3), [2185]), (13, (.aload_n 0, 14, 0, 0, 0), []), (14, (.bipush 80, 16, 0, 0, 0), [])],
  [(16, (.newarray .int, 18, 0, 0, 0), [1193]), (18, (.putfield 17, 21, 8, 5, 3), [2186]), (21, (.aload_n 0, 22, 0, 0, 0), []), (22, (.bipush 80, 24, 0, 0, 0), []), (24, (.newarray .int, 26, 0, 0, 0), [1193]), (26, (.putfield 21, 29, 8, 6, 3), [2187]), (29, (.aload_n 0, 30, 0, 0, 0), []), (30, (.iconst 2, 31, 0, 0, 0), []), (31, (.newarray .int, 33, 0, 0, 0), [1193])],
  [(33, (.putfield 24, 36, 8, 7, 3), [2188]), (36, (.aload_n 0, 37, 0, 0, 0), []), (37, (.aload_n 1, 38, 0, 0, 0), []), (38, (.putfield 27, 41, 8, 0, 3), [2181]), (41, (.aload_n 0, 42, 0, 0, 0), []), (42, (.aload_n 2, 43, 0, 0, 0), []), (43, (.putfield 31, 46, 8, 1, 3), [2182]), (46, (.aload_n 0, 47, 0, 0, 0), []), (47, (.aload_n 3, 48, 0, 0, 0), [])],
  [(48, (.putfield 35, 51, 8, 2, 3), [2183]), (51, (.aload_n 0, 52, 0, 0, 0), []), (52, (.aload 4, 54, 0, 0, 0), []), (54, (.putfield 39, 57, 8, 3, 3), [2184]), (57, (.iconst 0, 58, 0, 0, 0), []), (58, (.istore 5, 60, 0, 0, 0), []), (60, (.iload 5, 62, 0, 0, 0), []), (62, (.aload_n 0, 63, 0, 0, 0), []), (63, (.getfield 13, 66, 8, 4, 0), [2185])],
  [(66, (.arraylength, 67, 0, 0, 0), []), (67, (.if_icmp .ge 19, 70, 86, 0, 0), []), (70, (.aload_n 0, 71, 0, 0, 0), []), (71, (.getfield 13, 74, 8, 4, 0), [2185]), (74, (.iload 5, 76, 0, 0, 0), []), (76, (.getstatic 43, 79, 20, 0, 0), [2180]), (79, (.aastore, 80, 0, 0, 0), [])],
  [(80, (.iinc 5 1, 83, 0, 0, 0), []), (83, (.goto (-23), 86, 60, 0, 0), []), (86, (.return_, 87, 0, 0, 0), [])]]
-- PaintBank$Script.readAll()Z
noncomputable def md_L182 : List (List mm_Ln) := [[(0, (.aload_n 0, 1, 0, 0, 0), []), (1, (.getfield 27, 4, 8, 0, 0), [2181]), (4, (.invokevirtual 47, 7, 93, 0, 1), [6058, 5168, 5169, 1002]), (7, (.aload_n 0, 8, 0, 0, 0), []), (8, (.iconst 0, 9, 0, 0, 0), []), (9, (.putfield 52, 12, 8, 8, 0), [2189]), (12, (.aload_n 0, 13, 0, 0, 0), []), (13, (.iconst 0, 14, 0, 0, 0), []), (14, (.putfield 56, 17, 8, 9, 0), [2190])],
  [(17, (.aload_n 0, 18, 0, 0, 0), []), (18, (.iconst 0, 19, 0, 0, 0), []), (19, (.putfield 59, 22, 8, 10, 0), [2191]), (22, (.iconst 0, 23, 0, 0, 0), []), (23, (.istore_n 1, 24, 0, 0, 0), []), (24, (.iload_n 1, 25, 0, 0, 0), []), (25, (.sipush 800, 28, 0, 0, 0), []), (28, (.if_icmp .gt 79, 31, 107, 0, 0), []), (31, (.aload_n 0, 32, 0, 0, 0), [])],
  [(32, (.getfield 27, 35, 8, 0, 0), [2181]), (35, (.invokevirtual 62, 38, 94, 0, 1), [6059, 5172, 5173, 1002]), (38, (.aload_n 0, 39, 0, 0, 0), []), (39, (.getfield 27, 42, 8, 0, 0), [2181]), (42, (.getfield 65, 45, 1, 5, 0), [1054]), (45, (.ifCond .ne 27, 48, 72, 0, 0), [])],
  [(48, (.aload_n 0, 49, 0, 0, 0), []), (49, (.getfield 52, 52, 8, 8, 0), [2189]), (52, (.ifCond .eq 14, 55, 66, 0, 0), []), (55, (.aload_n 0, 56, 0, 0, 0), []), (56, (.getfield 27, 59, 8, 0, 0), [2181]), (59, (.iconst 1, 60, 0, 0, 0), []), (60, (.invokevirtual 68, 63, 101, 1, 1), [6060, 5206, 5207, 1002]), (63, (.ifCond .eq 7, 66, 70, 0, 0), [])],
  [(66, (.iconst 1, 67, 0, 0, 0), []), (67, (.goto 4, 70, 71, 0, 0), []), (70, (.iconst 0, 71, 0, 0, 0), []), (71, (.ireturn, 72, 0, 0, 0), []), (72, (.aload_n 0, 73, 0, 0, 0), []), (73, (.getfield 27, 76, 8, 0, 0), [2181]), (76, (.getfield 65, 79, 1, 5, 0), [1054]), (79, (.iconst 5, 80, 0, 0, 0), [])],
  [(80, (.if_icmp .ne 10, 83, 90, 0, 0), []), (83, (.aload_n 0, 84, 0, 0, 0), []), (84, (.invokevirtual 72, 87, 183, 0, 8), [6061, 6063, 31, 1011]), (87, (.goto 7, 90, 94, 0, 0), []), (90, (.aload_n 0, 91, 0, 0, 0), []), (91, (.invokevirtual 76, 94, 185, 0, 8), [6070, 6072, 33, 1011]), (94, (.istore_n 2, 95, 0, 0, 0), []), (95, (.iload_n 2, 96, 0, 0, 0), [])],
  [(96, (.ifCond .ne 5, 99, 101, 0, 0), []), (99, (.iconst 0, 100, 0, 0, 0), []), (100, (.ireturn, 101, 0, 0, 0), []), (101, (.iinc 1 1, 104, 0, 0, 0), []), (104, (.goto (-80), 107, 24, 0, 0), []), (107, (.iconst 0, 108, 0, 0, 0), []), (108, (.ireturn, 109, 0, 0, 0), [])]]
-- PaintBank$Script.closeRepeat()Z
noncomputable def md_L183 : List (List mm_Ln) := [[(0, (.aload_n 0, 1, 0, 0, 0), []), (1, (.getfield 52, 4, 8, 8, 0), [2189]), (4, (.ifCond .gt 12, 7, 16, 0, 0), []), (7, (.aload_n 0, 8, 0, 0, 0), []), (8, (.getfield 27, 11, 8, 0, 0), [2181]), (11, (.iconst 1, 12, 0, 0, 0), []), (12, (.invokevirtual 68, 15, 101, 1, 1), [6060, 5206, 5207, 1002]), (15, (.ireturn, 16, 0, 0, 0), [])],
  [(16, (.aload_n 0, 17, 0, 0, 0), []), (17, (.dup, 18, 0, 0, 0), []), (18, (.getfield 52, 21, 8, 8, 0), [2189]), (21, (.iconst 1, 22, 0, 0, 0), []), (22, (.isub, 23, 0, 0, 0), []), (23, (.putfield 52, 26, 8, 8, 0), [2189]), (26, (.aload_n 0, 27, 0, 0, 0), []), (27, (.getstatic 43, 30, 20, 0, 0), [2180]), (30, (.aload_n 0, 31, 0, 0, 0), []), (31, (.getfield 24, 34, 8, 7, 0), [2188])],
  [(34, (.aload_n 0, 35, 0, 0, 0), []), (35, (.getfield 52, 38, 8, 8, 0), [2189]), (38, (.iaload, 39, 0, 0, 0), []), (39, (.invokevirtual 79, 42, 184, 2, 8), [6065, 6067, 32, 1011]), (42, (.aload_n 0, 43, 0, 0, 0), []), (43, (.getfield 27, 46, 8, 0, 0), [2181]), (46, (.invokevirtual 83, 49, 105, 0, 1), [6069, 6035, 6036, 1002])],
  [(49, (.ireturn, 50, 0, 0, 0), [])]]
-- PaintBank$Script.add(LPaintBank$Word;I)V
noncomputable def md_L184 : List (List mm_Ln) := [[(0, (.aload_n 0, 1, 0, 0, 0), []), (1, (.getfield 59, 4, 8, 10, 0), [2191]), (4, (.aload_n 0, 5, 0, 0, 0), []), (5, (.getfield 13, 8, 8, 4, 0), [2185]), (8, (.arraylength, 9, 0, 0, 0), []), (9, (.if_icmp .ge 33, 12, 42, 0, 0), []), (12, (.aload_n 0, 13, 0, 0, 0), []), (13, (.getfield 13, 16, 8, 4, 0), [2185])],
  [(16, (.aload_n 0, 17, 0, 0, 0), []), (17, (.getfield 59, 20, 8, 10, 0), [2191]), (20, (.aload_n 1, 21, 0, 0, 0), []), (21, (.aastore, 22, 0, 0, 0), []), (22, (.aload_n 0, 23, 0, 0, 0), []), (23, (.getfield 17, 26, 8, 5, 0), [2186]), (26, (.aload_n 0, 27, 0, 0, 0), []), (27, (.getfield 59, 30, 8, 10, 0), [2191]), (30, (.iload_n 2, 31, 0, 0, 0), []), (31, (.iastore, 32, 0, 0, 0), [])],
  [(32, (.aload_n 0, 33, 0, 0, 0), []), (33, (.dup, 34, 0, 0, 0), []), (34, (.getfield 59, 37, 8, 10, 0), [2191]), (37, (.iconst 1, 38, 0, 0, 0), []), (38, (.iadd, 39, 0, 0, 0), []), (39, (.putfield 59, 42, 8, 10, 0), [2191]), (42, (.return_, 43, 0, 0, 0), [])]]
-- PaintBank$Script.readCommand()Z
noncomputable def md_L185 : List (List mm_Ln) := [[(0, (.aload_n 0, 1, 0, 0, 0), []), (1, (.getfield 27, 4, 8, 0, 0), [2181]), (4, (.getfield 86, 7, 1, 9, 0), [1065]), (7, (.astore_n 1, 8, 0, 0, 0), []), (8, (.aload_n 0, 9, 0, 0, 0), []), (9, (.getfield 27, 12, 8, 0, 0), [2181]), (12, (.getfield 65, 15, 1, 5, 0), [1054]), (15, (.iconst 1, 16, 0, 0, 0), [])],
  [(16, (.if_icmp .ne 10, 19, 26, 0, 0), []), (19, (.aload_n 1, 20, 0, 0, 0), []), (20, (.getfield 89, 23, 1, 0, 1), [10129]), (23, (.ifCond .ne 12, 26, 35, 0, 0), []), (26, (.aload_n 0, 27, 0, 0, 0), []), (27, (.getfield 27, 30, 8, 0, 0), [2181]), (30, (.iconst 1, 31, 0, 0, 0), []), (31, (.invokevirtual 68, 34, 101, 1, 1), [6060, 5206, 5207, 1002])],
  [(34, (.ireturn, 35, 0, 0, 0), []), (35, (.aload_n 1, 36, 0, 0, 0), []), (36, (.getstatic 93, 39, 19, 0, 0), [6074]), (39, (.if_acmp .ne 20, 42, 59, 0, 0), []), (42, (.aload_n 0, 43, 0, 0, 0), []), (43, (.getfield 52, 46, 8, 8, 0), [2189]), (46, (.iconst 2, 47, 0, 0, 0), []), (47, (.if_icmp .lt 12, 50, 59, 0, 0), [])],
  [(50, (.aload_n 0, 51, 0, 0, 0), []), (51, (.getfield 27, 54, 8, 0, 0), [2181]), (54, (.iconst 3, 55, 0, 0, 0), []), (55, (.invokevirtual 68, 58, 101, 1, 1), [6060, 5206, 5207, 1002]), (58, (.ireturn, 59, 0, 0, 0), []), (59, (.aload_n 0, 60, 0, 0, 0), []), (60, (.getfield 56, 63, 8, 9, 0), [2190]), (63, (.bipush 40, 65, 0, 0, 0), [])],
  [(65, (.if_icmp .lt 12, 68, 77, 0, 0), []), (68, (.aload_n 0, 69, 0, 0, 0), []), (69, (.getfield 27, 72, 8, 0, 0), [2181]), (72, (.iconst 5, 73, 0, 0, 0), []), (73, (.invokevirtual 68, 76, 101, 1, 1), [6060, 5206, 5207, 1002]), (76, (.ireturn, 77, 0, 0, 0), []), (77, (.aload_n 0, 78, 0, 0, 0), []), (78, (.dup, 79, 0, 0, 0), []), (79, (.getfield 56, 82, 8, 9, 0), [2190])],
  [(82, (.iconst 1, 83, 0, 0, 0), []), (83, (.iadd, 84, 0, 0, 0), []), (84, (.putfield 56, 87, 8, 9, 0), [2190]), (87, (.aload_n 1, 88, 0, 0, 0), []), (88, (.getfield 96, 91, 3, 0, 1), [10130]), (91, (.ifCond .le 23, 94, 114, 0, 0), []), (94, (.aload_n 0, 95, 0, 0, 0), []), (95, (.getfield 27, 98, 8, 0, 0), [2181])],
  [(98, (.aload_n 1, 99, 0, 0, 0), []), (99, (.getfield 99, 102, 2, 0, 1), [10131]), (102, (.aload_n 1, 103, 0, 0, 0), []), (103, (.getfield 96, 106, 3, 0, 1), [10130]), (106, (.invokevirtual 102, 109, 103, 2, 1), [6076, 5235, 5236, 1002]), (109, (.ifCond .ne 5, 112, 114, 0, 0), [])],
  [(112, (.iconst 0, 113, 0, 0, 0), []), (113, (.ireturn, 114, 0, 0, 0), []), (114, (.aload_n 0, 115, 0, 0, 0), []), (115, (.aload_n 1, 116, 0, 0, 0), []), (116, (.aload_n 0, 117, 0, 0, 0), []), (117, (.getfield 27, 120, 8, 0, 0), [2181]), (120, (.getfield 106, 123, 1, 7, 0), [1059]), (123, (.invokevirtual 79, 126, 184, 2, 8), [6065, 6067, 32, 1011]), (126, (.aload_n 1, 127, 0, 0, 0), []), (127, (.getstatic 93, 130, 19, 0, 0), [6074])],
  [(130, (.if_acmp .ne 36, 133, 166, 0, 0), []), (133, (.aload_n 0, 134, 0, 0, 0), []), (134, (.getfield 24, 137, 8, 7, 0), [2188]), (137, (.aload_n 0, 138, 0, 0, 0), []), (138, (.getfield 52, 141, 8, 8, 0), [2189]), (141, (.aload_n 0, 142, 0, 0, 0), []), (142, (.getfield 59, 145, 8, 10, 0), [2191])],
  [(145, (.iconst 1, 146, 0, 0, 0), []), (146, (.isub, 147, 0, 0, 0), []), (147, (.iastore, 148, 0, 0, 0), []), (148, (.aload_n 0, 149, 0, 0, 0), []), (149, (.dup, 150, 0, 0, 0), []), (150, (.getfield 52, 153, 8, 8, 0), [2189]), (153, (.iconst 1, 154, 0, 0, 0), []), (154, (.iadd, 155, 0, 0, 0), []), (155, (.putfield 52, 158, 8, 8, 0), [2189]), (158, (.aload_n 0, 159, 0, 0, 0), []), (159, (.getfield 27, 162, 8, 0, 0), [2181])],
  [(162, (.invokevirtual 109, 165, 106, 0, 1), [6077, 6078, 6079, 1002]), (165, (.ireturn, 166, 0, 0, 0), []), (166, (.aload_n 0, 167, 0, 0, 0), []), (167, (.getfield 27, 170, 8, 0, 0), [2181]), (170, (.invokevirtual 83, 173, 105, 0, 1), [6069, 6035, 6036, 1002]), (173, (.ireturn, 174, 0, 0, 0), [])]]
-- PaintBank$Script.play()I
noncomputable def md_L186 : List (List mm_Ln) := [[(0, (.iconst 0, 1, 0, 0, 0), []), (1, (.istore_n 1, 2, 0, 0, 0), []), (2, (.iconst 0, 3, 0, 0, 0), []), (3, (.istore_n 2, 4, 0, 0, 0), []), (4, (.iconst 0, 5, 0, 0, 0), []), (5, (.istore_n 3, 6, 0, 0, 0), []), (6, (.iload_n 3, 7, 0, 0, 0), []), (7, (.ldc 112, 9, 0, 1000000, 0), [6086]), (9, (.if_icmp .ge 101, 12, 110, 0, 0), []), (12, (.iload_n 2, 13, 0, 0, 0), []), (13, (.aload_n 0, 14, 0, 0, 0), []), (14, (.getfield 59, 17, 8, 10, 0), [2191])],
  [(17, (.if_icmp .ge 93, 20, 110, 0, 0), []), (20, (.aload_n 0, 21, 0, 0, 0), []), (21, (.getfield 13, 24, 8, 4, 0), [2185]), (24, (.iload_n 2, 25, 0, 0, 0), []), (25, (.aaload, 26, 0, 0, 0), []), (26, (.getstatic 93, 29, 19, 0, 0), [6074]), (29, (.if_acmp .ne 21, 32, 50, 0, 0), [])],
  [(32, (.aload_n 0, 33, 0, 0, 0), []), (33, (.getfield 21, 36, 8, 6, 0), [2187]), (36, (.iload_n 2, 37, 0, 0, 0), []), (37, (.aload_n 0, 38, 0, 0, 0), []), (38, (.getfield 17, 41, 8, 5, 0), [2186]), (41, (.iload_n 2, 42, 0, 0, 0), []), (42, (.iaload, 43, 0, 0, 0), []), (43, (.iastore, 44, 0, 0, 0), []), (44, (.iinc 2 1, 47, 0, 0, 0), []), (47, (.goto 57, 50, 104, 0, 0), [])],
  [(50, (.aload_n 0, 51, 0, 0, 0), []), (51, (.getfield 13, 54, 8, 4, 0), [2185]), (54, (.iload_n 2, 55, 0, 0, 0), []), (55, (.aaload, 56, 0, 0, 0), []), (56, (.getstatic 43, 59, 20, 0, 0), [2180]), (59, (.if_acmp .ne 12, 62, 71, 0, 0), []), (62, (.aload_n 0, 63, 0, 0, 0), []), (63, (.iload_n 2, 64, 0, 0, 0), [])],
  [(64, (.invokevirtual 113, 67, 187, 1, 8), [6087, 6089, 34, 1011]), (67, (.istore_n 2, 68, 0, 0, 0), []), (68, (.goto 36, 71, 104, 0, 0), []), (71, (.iload_n 1, 72, 0, 0, 0), []), (72, (.bipush 100, 74, 0, 0, 0), []), (74, (.if_icmp .ge 22, 77, 96, 0, 0), []), (77, (.aload_n 0, 78, 0, 0, 0), []), (78, (.aload_n 0, 79, 0, 0, 0), []), (79, (.getfield 13, 82, 8, 4, 0), [2185])],
  [(82, (.iload_n 2, 83, 0, 0, 0), []), (83, (.aaload, 84, 0, 0, 0), []), (84, (.aload_n 0, 85, 0, 0, 0), []), (85, (.getfield 17, 88, 8, 5, 0), [2186]), (88, (.iload_n 2, 89, 0, 0, 0), []), (89, (.iaload, 90, 0, 0, 0), []), (90, (.invokevirtual 117, 93, 188, 2, 8), [6091, 6093, 35, 1011]), (93, (.ifCond .ne 5, 96, 98, 0, 0), [])],
  [(96, (.iload_n 1, 97, 0, 0, 0), []), (97, (.ireturn, 98, 0, 0, 0), []), (98, (.iinc 1 1, 101, 0, 0, 0), []), (101, (.iinc 2 1, 104, 0, 0, 0), []), (104, (.iinc 3 1, 107, 0, 0, 0), []), (107, (.goto (-101), 110, 6, 0, 0), []), (110, (.iload_n 1, 111, 0, 0, 0), []), (111, (.ireturn, 112, 0, 0, 0), [])]]
-- PaintBank$Script.behindBracket(I)I
noncomputable def md_L187 : List (List mm_Ln) := [[(0, (.aload_n 0, 1, 0, 0, 0), []), (1, (.getfield 17, 4, 8, 5, 0), [2186]), (4, (.iload_n 1, 5, 0, 0, 0), []), (5, (.iaload, 6, 0, 0, 0), []), (6, (.istore_n 2, 7, 0, 0, 0), []), (7, (.iload_n 2, 8, 0, 0, 0), []), (8, (.ifCond .lt 8, 11, 16, 0, 0), []), (11, (.iload_n 2, 12, 0, 0, 0), []), (12, (.iload_n 1, 13, 0, 0, 0), []), (13, (.if_icmp .lt 7, 16, 20, 0, 0), [])],
  [(16, (.iload_n 1, 17, 0, 0, 0), []), (17, (.iconst 1, 18, 0, 0, 0), []), (18, (.iadd, 19, 0, 0, 0), []), (19, (.ireturn, 20, 0, 0, 0), []), (20, (.aload_n 0, 21, 0, 0, 0), []), (21, (.getfield 21, 24, 8, 6, 0), [2187]), (24, (.iload_n 2, 25, 0, 0, 0), []), (25, (.dup2, 26, 0, 0, 0), []), (26, (.iaload, 27, 0, 0, 0), []), (27, (.iconst 1, 28, 0, 0, 0), []), (28, (.isub, 29, 0, 0, 0), []), (29, (.iastore, 30, 0, 0, 0), []), (30, (.aload_n 0, 31, 0, 0, 0), []), (31, (.getfield 21, 34, 8, 6, 0), [2187])],
  [(34, (.iload_n 2, 35, 0, 0, 0), []), (35, (.iaload, 36, 0, 0, 0), []), (36, (.ifCond .le 9, 39, 45, 0, 0), []), (39, (.iload_n 2, 40, 0, 0, 0), []), (40, (.iconst 1, 41, 0, 0, 0), []), (41, (.iadd, 42, 0, 0, 0), []), (42, (.goto 6, 45, 48, 0, 0), []), (45, (.iload_n 1, 46, 0, 0, 0), []), (46, (.iconst 1, 47, 0, 0, 0), []), (47, (.iadd, 48, 0, 0, 0), [])],
  [(48, (.ireturn, 49, 0, 0, 0), [])]]
-- PaintBank$Script.carryOut(LPaintBank$Word;I)Z
noncomputable def md_L188 : List (List mm_Ln) := [[(0, (.getstatic 121, 3, 22, 0, 0), [6095]), (3, (.aload_n 1, 4, 0, 0, 0), []), (4, (.invokevirtual 126, 7, 359, 32, 1000), [6096, 5212, 5214, 5215, 1003]), (7, (.iaload, 8, 0, 0, 0), []), (8, (.tableswitch 178 8 14 #[44, 62, 80, 98, 104, 110, 161], 44, 0, 0, 0), [])],
  [],
  [],
  [(52, (.aload_n 0, 53, 0, 0, 0), []), (53, (.getfield 31, 56, 8, 1, 0), [2182]), (56, (.iload_n 2, 57, 0, 0, 0), []), (57, (.invokevirtual 130, 60, 139, 1, 4), [6097, 3219, 3220, 1007]), (60, (.iconst (-1), 61, 0, 0, 0), []), (61, (.if_icmp .eq 7, 64, 68, 0, 0), [])],
  [(64, (.iconst 1, 65, 0, 0, 0), []), (65, (.goto 4, 68, 69, 0, 0), []), (68, (.iconst 0, 69, 0, 0, 0), []), (69, (.ireturn, 70, 0, 0, 0), []), (70, (.aload_n 0, 71, 0, 0, 0), []), (71, (.getfield 31, 74, 8, 1, 0), [2182]), (74, (.iload_n 2, 75, 0, 0, 0), []), (75, (.invokevirtual 135, 78, 142, 1, 4), [6098, 3231, 3232, 1007]), (78, (.iconst (-1), 79, 0, 0, 0), []), (79, (.if_icmp .eq 7, 82, 86, 0, 0), [])],
  [(82, (.iconst 1, 83, 0, 0, 0), []), (83, (.goto 4, 86, 87, 0, 0), []), (86, (.iconst 0, 87, 0, 0, 0), []), (87, (.ireturn, 88, 0, 0, 0), []), (88, (.aload_n 0, 89, 0, 0, 0), []), (89, (.getfield 31, 92, 8, 1, 0), [2182]), (92, (.iload_n 2, 93, 0, 0, 0), []), (93, (.invokevirtual 138, 96, 138, 1, 4), [6099, 3207, 3208, 1007])],
  [(96, (.iconst (-1), 97, 0, 0, 0), []), (97, (.if_icmp .eq 7, 100, 104, 0, 0), []), (100, (.iconst 1, 101, 0, 0, 0), []), (101, (.goto 4, 104, 105, 0, 0), []), (104, (.iconst 0, 105, 0, 0, 0), []), (105, (.ireturn, 106, 0, 0, 0), []), (106, (.aload_n 0, 107, 0, 0, 0), []), (107, (.iload_n 2, 108, 0, 0, 0), []), (108, (.invokevirtual 141, 111, 189, 1, 8), [6100, 6102, 36, 1011]), (111, (.ireturn, 112, 0, 0, 0), [])],
  [(112, (.aload_n 0, 113, 0, 0, 0), []), (113, (.iload_n 2, 114, 0, 0, 0), []), (114, (.invokevirtual 144, 117, 190, 1, 8), [6105, 6107, 37, 1011]), (117, (.ireturn, 118, 0, 0, 0), []), (118, (.aload_n 0, 119, 0, 0, 0), []), (119, (.getfield 35, 122, 8, 2, 0), [2183]), (122, (.invokevirtual 147, 125, 161, 0, 6), [6110, 4019, 4020, 1009]), (125, (.aload_n 0, 126, 0, 0, 0), []), (126, (.getfield 35, 129, 8, 2, 0), [2183])],
  [(129, (.getfield 152, 132, 6, 9, 0), [2102]), (132, (.ifCond .eq 11, 135, 143, 0, 0), []), (135, (.aload_n 0, 136, 0, 0, 0), []), (136, (.getfield 35, 139, 8, 2, 0), [2183]), (139, (.invokevirtual 155, 142, 169, 0, 6), [6111, 4063, 4064, 1009]), (142, (.pop, 143, 0, 0, 0), []), (143, (.aload_n 0, 144, 0, 0, 0), [])],
  [(144, (.getfield 35, 147, 8, 2, 0), [2183]), (147, (.getfield 152, 150, 6, 9, 0), [2102]), (150, (.ifCond .eq 17, 153, 167, 0, 0), []), (153, (.aload_n 0, 154, 0, 0, 0), []), (154, (.getfield 35, 157, 8, 2, 0), [2183]), (157, (.getfield 157, 160, 6, 10, 0), [2104])],
  [(160, (.ifCond .eq 7, 163, 167, 0, 0), []), (163, (.iconst 1, 164, 0, 0, 0), []), (164, (.goto 4, 167, 168, 0, 0), []), (167, (.iconst 0, 168, 0, 0, 0), []), (168, (.ireturn, 169, 0, 0, 0), []), (169, (.aload_n 0, 170, 0, 0, 0), []), (170, (.getfield 39, 173, 8, 3, 0), [2184]), (173, (.invokevirtual 160, 176, 171, 0, 7), [6112, 4073, 4074, 1010])],
  [(176, (.aload_n 0, 177, 0, 0, 0), []), (177, (.getfield 39, 180, 8, 3, 0), [2184]), (180, (.invokevirtual 163, 183, 180, 0, 7), [6113, 4127, 4128, 1010]), (183, (.pop, 184, 0, 0, 0), []), (184, (.iconst 1, 185, 0, 0, 0), []), (185, (.ireturn, 186, 0, 0, 0), []), (186, (.iconst 0, 187, 0, 0, 0), []), (187, (.ireturn, 188, 0, 0, 0), [])]]
-- PaintBank$Script.waitTimes(I)Z
noncomputable def md_L189 : List (List mm_Ln) := [[(0, (.iconst 0, 1, 0, 0, 0), []), (1, (.istore_n 2, 2, 0, 0, 0), []), (2, (.iload_n 2, 3, 0, 0, 0), []), (3, (.iload_n 1, 4, 0, 0, 0), []), (4, (.if_icmp .ge 22, 7, 26, 0, 0), []), (7, (.aload_n 0, 8, 0, 0, 0), []), (8, (.getfield 31, 11, 8, 1, 0), [2182]), (11, (.invokevirtual 164, 14, 133, 0, 4), [6104, 3168, 3169, 1007]), (14, (.iconst (-1), 15, 0, 0, 0), []), (15, (.if_icmp .ne 5, 18, 20, 0, 0), [])],
  [(18, (.iconst 0, 19, 0, 0, 0), []), (19, (.ireturn, 20, 0, 0, 0), []), (20, (.iinc 2 1, 23, 0, 0, 0), []), (23, (.goto (-21), 26, 2, 0, 0), []), (26, (.iconst 1, 27, 0, 0, 0), []), (27, (.ireturn, 28, 0, 0, 0), [])]]
-- PaintBank$Script.stepTimes(I)Z
noncomputable def md_L190 : List (List mm_Ln) := [[(0, (.iconst 0, 1, 0, 0, 0), []), (1, (.istore_n 2, 2, 0, 0, 0), []), (2, (.iload_n 2, 3, 0, 0, 0), []), (3, (.iload_n 1, 4, 0, 0, 0), []), (4, (.if_icmp .ge 22, 7, 26, 0, 0), []), (7, (.aload_n 0, 8, 0, 0, 0), []), (8, (.getfield 31, 11, 8, 1, 0), [2182]), (11, (.invokevirtual 167, 14, 134, 0, 4), [6109, 3187, 3188, 1007]), (14, (.iconst (-1), 15, 0, 0, 0), []), (15, (.if_icmp .ne 5, 18, 20, 0, 0), [])],
  [(18, (.iconst 0, 19, 0, 0, 0), []), (19, (.ireturn, 20, 0, 0, 0), []), (20, (.iinc 2 1, 23, 0, 0, 0), []), (23, (.goto (-21), 26, 2, 0, 0), []), (26, (.iconst 1, 27, 0, 0, 0), []), (27, (.ireturn, 28, 0, 0, 0), [])]]
-- PaintBank$History.<init>(LPaintBank$Setup;)V
noncomputable def md_L191 : List (List mm_Ln) := [[(0, (.aload_n 0, 1, 0, 0, 0), []), (1, (.invokespecial 1, 4, 0, 80, 0), [2220, 1036, 1037]), (4, (.aload_n 0, 5, 0, 0, 0), []), (5, (.bipush 7, 7, 0, 0, 0), []), (7, (.anewarray 9, 10, 5, 0, 0), [2221]), (10, (.putfield 11, 13, 9, 0, 3), [2224]), (13, (.iconst 0, 14, 0, 0, 0), []), (14, (.istore_n 2, 15, 0, 0, 0), []), (15, (.iload_n 2, 16, 0, 0, 0), [])],
  [(16, (.aload_n 0, 17, 0, 0, 0), []), (17, (.getfield 11, 20, 9, 0, 0), [2224]), (20, (.arraylength, 21, 0, 0, 0), []), (21, (.if_icmp .ge 23, 24, 44, 0, 0), []), (24, (.aload_n 0, 25, 0, 0, 0), []), (25, (.getfield 11, 28, 9, 0, 0), [2224]), (28, (.iload_n 2, 29, 0, 0, 0), []), (29, (.new 9, 32, 4, 0, 0), [2221, 1223, 1007])],
  [(32, (.dup, 33, 0, 0, 0), []), (33, (.aload_n 1, 34, 0, 0, 0), []), (34, (.invokespecial 15, 37, 126, 33, 4), [1225, 1007, 2223]), (37, (.aastore, 38, 0, 0, 0), []), (38, (.iinc 2 1, 41, 0, 0, 0), []), (41, (.goto (-26), 44, 15, 0, 0), []), (44, (.return_, 45, 0, 0, 0), [])]]
-- PaintBank$History.draft(LPaintBank$Line;)V
noncomputable def md_L192 : List (List mm_Ln) := [[(0, (.aload_n 0, 1, 0, 0, 0), []), (1, (.getfield 11, 4, 9, 0, 0), [2224]), (4, (.aload_n 0, 5, 0, 0, 0), []), (5, (.getfield 18, 8, 9, 1, 0), [2225]), (8, (.aaload, 9, 0, 0, 0), []), (9, (.aload_n 1, 10, 0, 0, 0), []), (10, (.invokevirtual 22, 13, 132, 1, 4), [3155, 3156, 3157, 1007]), (13, (.return_, 14, 0, 0, 0), [])]]
-- PaintBank$History.keep()V
noncomputable def md_L193 : List (List mm_Ln) := [[(0, (.aload_n 0, 1, 0, 0, 0), []), (1, (.aload_n 0, 2, 0, 0, 0), []), (2, (.getfield 18, 5, 9, 1, 0), [2225]), (5, (.iconst 1, 6, 0, 0, 0), []), (6, (.iadd, 7, 0, 0, 0), []), (7, (.bipush 7, 9, 0, 0, 0), []), (9, (.irem, 10, 0, 0, 0), []), (10, (.putfield 18, 13, 9, 1, 0), [2225]), (13, (.aload_n 0, 14, 0, 0, 0), []), (14, (.aload_n 0, 15, 0, 0, 0), []), (15, (.getfield 26, 18, 9, 2, 0), [2226])],
  [(18, (.iconst 1, 19, 0, 0, 0), []), (19, (.iadd, 20, 0, 0, 0), []), (20, (.bipush 6, 22, 0, 0, 0), []), (22, (.invokestatic 29, 25, 355, 18, 0), [3179, 3180, 1022]), (25, (.putfield 26, 28, 9, 2, 0), [2226]), (28, (.return_, 29, 0, 0, 0), [])]]
-- PaintBank$History.takeBack(LPaintBank$Line;)Z
noncomputable def md_L194 : List (List mm_Ln) := [[(0, (.aload_n 0, 1, 0, 0, 0), []), (1, (.getfield 26, 4, 9, 2, 0), [2226]), (4, (.ifCond .ne 5, 7, 9, 0, 0), []), (7, (.iconst 0, 8, 0, 0, 0), []), (8, (.ireturn, 9, 0, 0, 0), []), (9, (.aload_n 0, 10, 0, 0, 0), []), (10, (.aload_n 0, 11, 0, 0, 0), []), (11, (.getfield 18, 14, 9, 1, 0), [2225]), (14, (.bipush 6, 16, 0, 0, 0), [])],
  [(16, (.iadd, 17, 0, 0, 0), []), (17, (.bipush 7, 19, 0, 0, 0), []), (19, (.irem, 20, 0, 0, 0), []), (20, (.putfield 18, 23, 9, 1, 0), [2225]), (23, (.aload_n 0, 24, 0, 0, 0), []), (24, (.dup, 25, 0, 0, 0), []), (25, (.getfield 26, 28, 9, 2, 0), [2226]), (28, (.iconst 1, 29, 0, 0, 0), []), (29, (.isub, 30, 0, 0, 0), []), (30, (.putfield 26, 33, 9, 2, 0), [2226])],
  [(33, (.aload_n 1, 34, 0, 0, 0), []), (34, (.aload_n 0, 35, 0, 0, 0), []), (35, (.getfield 11, 38, 9, 0, 0), [2224]), (38, (.aload_n 0, 39, 0, 0, 0), []), (39, (.getfield 18, 42, 9, 1, 0), [2225]), (42, (.aaload, 43, 0, 0, 0), []), (43, (.invokevirtual 22, 46, 132, 1, 4), [3155, 3156, 3157, 1007]), (46, (.iconst 1, 47, 0, 0, 0), []), (47, (.ireturn, 48, 0, 0, 0), [])]]
-- PaintBank$History.forget()V
noncomputable def md_L195 : List (List mm_Ln) := [[(0, (.aload_n 0, 1, 0, 0, 0), []), (1, (.iconst 0, 2, 0, 0, 0), []), (2, (.putfield 26, 5, 9, 2, 0), [2226]), (5, (.return_, 6, 0, 0, 0), [])]]
-- PaintBank$Report.<init>()V
noncomputable def md_L196 : List (List mm_Ln) := [[(0, (.aload_n 0, 1, 0, 0, 0), []), (1, (.invokespecial 3, 4, 0, 80, 0), [3000, 1036, 1037]), (4, (.aload_n 0, 5, 0, 0, 0), []), (5, (.sipush 152, 8, 0, 0, 0), []), (8, (.newarray .byte, 10, 2, 0, 0), [1087]), (10, (.putfield 11, 13, 10, 0, 3), [3001]), (13, (.return_, 14, 0, 0, 0), [])]]
-- PaintBank$Report.write(LPaintBank$Setup;LPaintBank$Line;)I
noncomputable def md_L197 : List (List mm_Ln) := [[(0, (.aload_n 0, 1, 0, 0, 0), []), (1, (.iconst 0, 2, 0, 0, 0), []), (2, (.putfield 15, 5, 10, 1, 0), [3003]), (5, (.iconst 0, 6, 0, 0, 0), []), (6, (.istore_n 3, 7, 0, 0, 0), []), (7, (.iload_n 3, 8, 0, 0, 0), []), (8, (.aload_n 1, 9, 0, 0, 0), []), (9, (.getfield 19, 12, 2, 1, 0), [1103]), (12, (.if_icmp .ge 35, 15, 47, 0, 0), []), (15, (.aload_n 0, 16, 0, 0, 0), [])],
  [(16, (.ldc 24, 18, 1, 24, 0), []), (18, (.invokevirtual 26, 21, 198, 1, 10), [4201, 4203, 16, 1013]), (21, (.aload_n 0, 22, 0, 0, 0), []), (22, (.bipush 48, 24, 0, 0, 0), []), (24, (.iload_n 3, 25, 0, 0, 0), []), (25, (.iadd, 26, 0, 0, 0), []), (26, (.invokevirtual 30, 29, 199, 1, 10), [5013, 5015, 17, 1013]), (29, (.aload_n 0, 30, 0, 0, 0), []), (30, (.aload_n 1, 31, 0, 0, 0), []), (31, (.aload_n 2, 32, 0, 0, 0), [])],
  [(32, (.aload_n 2, 33, 0, 0, 0), []), (33, (.getfield 34, 36, 4, 3, 0), [2014]), (36, (.iload_n 3, 37, 0, 0, 0), []), (37, (.aaload, 38, 0, 0, 0), []), (38, (.invokevirtual 39, 41, 200, 3, 10), [5017, 5019, 18, 1013]), (41, (.iinc 3 1, 44, 0, 0, 0), []), (44, (.goto (-37), 47, 7, 0, 0), []), (47, (.aload_n 0, 48, 0, 0, 0), [])],
  [(48, (.ldc 43, 50, 1, 25, 0), []), (50, (.invokevirtual 26, 53, 198, 1, 10), [4201, 4203, 16, 1013]), (53, (.aload_n 0, 54, 0, 0, 0), []), (54, (.aload_n 1, 55, 0, 0, 0), []), (55, (.aload_n 2, 56, 0, 0, 0), []), (56, (.aload_n 2, 57, 0, 0, 0), []), (57, (.getfield 45, 60, 4, 6, 0), [2021]), (60, (.invokevirtual 39, 63, 200, 3, 10), [5017, 5019, 18, 1013]), (63, (.aload_n 0, 64, 0, 0, 0), [])],
  [(64, (.getfield 15, 67, 10, 1, 0), [3003]), (67, (.ireturn, 68, 0, 0, 0), [])]]
-- PaintBank$Report.addText(Ljava/lang/String;)V
noncomputable def md_L198 : List (List mm_Ln) := [[(0, (.iconst 0, 1, 0, 0, 0), []), (1, (.istore_n 2, 2, 0, 0, 0), []), (2, (.iload_n 2, 3, 0, 0, 0), []), (3, (.aload_n 1, 4, 0, 0, 0), []), (4, (.invokevirtual 71, 7, 360, 0, 1001), [4205, 4206, 4207, 1026]), (7, (.if_icmp .ge 18, 10, 25, 0, 0), []), (10, (.aload_n 0, 11, 0, 0, 0), []), (11, (.aload_n 1, 12, 0, 0, 0), []), (12, (.iload_n 2, 13, 0, 0, 0), []), (13, (.invokevirtual 76, 16, 362, 1, 1001), [4215, 4216, 4217, 1026])],
  [(16, (.invokevirtual 30, 19, 199, 1, 10), [5013, 5015, 17, 1013]), (19, (.iinc 2 1, 22, 0, 0, 0), []), (22, (.goto (-20), 25, 2, 0, 0), []), (25, (.return_, 26, 0, 0, 0), [])]]
-- PaintBank$Report.add(I)V
noncomputable def md_L199 : List (List mm_Ln) := [[(0, (.aload_n 0, 1, 0, 0, 0), []), (1, (.getfield 15, 4, 10, 1, 0), [3003]), (4, (.aload_n 0, 5, 0, 0, 0), []), (5, (.getfield 11, 8, 10, 0, 0), [3001]), (8, (.arraylength, 9, 0, 0, 0), []), (9, (.if_icmp .ge 24, 12, 33, 0, 0), []), (12, (.aload_n 0, 13, 0, 0, 0), []), (13, (.getfield 11, 16, 10, 0, 0), [3001])],
  [(16, (.aload_n 0, 17, 0, 0, 0), []), (17, (.getfield 15, 20, 10, 1, 0), [3003]), (20, (.iload_n 1, 21, 0, 0, 0), []), (21, (.i2b, 22, 0, 0, 0), []), (22, (.bastore, 23, 0, 0, 0), []), (23, (.aload_n 0, 24, 0, 0, 0), []), (24, (.dup, 25, 0, 0, 0), []), (25, (.getfield 15, 28, 10, 1, 0), [3003]), (28, (.iconst 1, 29, 0, 0, 0), []), (29, (.iadd, 30, 0, 0, 0), []), (30, (.putfield 15, 33, 10, 1, 0), [3003])],
  [(33, (.return_, 34, 0, 0, 0), [])]]
-- PaintBank$Report.addCars(LPaintBank$Setup;LPaintBank$Line;LPaintBank$Row;)V
noncomputable def md_L200 : List (List mm_Ln) := [[(0, (.iconst 0, 1, 0, 0, 0), []), (1, (.istore 4, 3, 0, 0, 0), []), (3, (.iload 4, 5, 0, 0, 0), []), (5, (.aload_n 3, 6, 0, 0, 0), []), (6, (.getfield 48, 9, 5, 1, 0), [2000]), (9, (.if_icmp .ge 50, 12, 59, 0, 0), []), (12, (.aload_n 3, 13, 0, 0, 0), []), (13, (.iload 4, 15, 0, 0, 0), []), (15, (.invokevirtual 53, 18, 154, 1, 5), [5021, 3086, 3087, 1008])],
  [(18, (.istore 5, 20, 0, 0, 0), []), (20, (.aload_n 0, 21, 0, 0, 0), []), (21, (.bipush 32, 23, 0, 0, 0), []), (23, (.invokevirtual 30, 26, 199, 1, 10), [5013, 5015, 17, 1013]), (26, (.aload_n 0, 27, 0, 0, 0), []), (27, (.aload_n 1, 28, 0, 0, 0), []), (28, (.aload_n 2, 29, 0, 0, 0), []), (29, (.iload 5, 31, 0, 0, 0), []), (31, (.invokevirtual 57, 34, 131, 1, 4), [5022, 3120, 3121, 1007])],
  [(34, (.invokevirtual 60, 37, 113, 1, 2), [5023, 5024, 5025, 1005]), (37, (.invokevirtual 64, 40, 201, 1, 10), [5027, 5029, 19, 1013]), (40, (.aload_n 0, 41, 0, 0, 0), []), (41, (.bipush 48, 43, 0, 0, 0), []), (43, (.aload_n 1, 44, 0, 0, 0), []), (44, (.iload 5, 46, 0, 0, 0), []), (46, (.invokevirtual 68, 49, 112, 1, 2), [5032, 4091, 4092, 1005])],
  [(49, (.iadd, 50, 0, 0, 0), []), (50, (.invokevirtual 30, 53, 199, 1, 10), [5013, 5015, 17, 1013]), (53, (.iinc 4 1, 56, 0, 0, 0), []), (56, (.goto (-53), 59, 3, 0, 0), []), (59, (.aload_n 0, 60, 0, 0, 0), []), (60, (.bipush 10, 62, 0, 0, 0), []), (62, (.invokevirtual 30, 65, 199, 1, 10), [5013, 5015, 17, 1013])],
  [(65, (.return_, 66, 0, 0, 0), [])]]
-- PaintBank$Report.addLetters(J)V
noncomputable def md_L201 : List (List mm_Ln) := [[(0, (.bipush 56, 2, 0, 0, 0), []), (2, (.istore_n 3, 3, 0, 0, 0), []), (3, (.iload_n 3, 4, 0, 0, 0), []), (4, (.ifCond .lt 30, 7, 34, 0, 0), []), (7, (.lload_n 1, 8, 0, 0, 0), []), (8, (.iload_n 3, 9, 0, 0, 0), []), (9, (.lshr, 10, 0, 0, 0), []), (10, (.ldc2_w 80, 13, 255, 0, 0), [5031]), (13, (.land, 14, 0, 0, 0), []), (14, (.l2i, 15, 0, 0, 0), []), (15, (.istore 4, 17, 0, 0, 0), [])],
  [(17, (.iload 4, 19, 0, 0, 0), []), (19, (.ifCond .eq 9, 22, 28, 0, 0), []), (22, (.aload_n 0, 23, 0, 0, 0), []), (23, (.iload 4, 25, 0, 0, 0), []), (25, (.invokevirtual 30, 28, 199, 1, 10), [5013, 5015, 17, 1013]), (28, (.iinc 3 (-8), 31, 0, 0, 0), []), (31, (.goto (-28), 34, 3, 0, 0), [])],
  [(34, (.return_, 35, 0, 0, 0), [])]]
-- PaintBankModel.<init>()V
noncomputable def md_L202 : List (List mm_Ln) := [[(0, (.aload_n 0, 1, 0, 0, 0), []), (1, (.invokespecial 1, 4, 0, 80, 0), [7077, 1036, 1037]), (4, (.aload_n 0, 5, 0, 0, 0), []), (5, (.sipush 800, 8, 0, 0, 0), []), (8, (.newarray .int, 10, 0, 0, 0), [1193]), (10, (.putfield 7, 13, 11, 1, 3), [7083]), (13, (.aload_n 0, 14, 0, 0, 0), []), (14, (.iconst (-1), 15, 0, 0, 0), []), (15, (.putfield 13, 18, 11, 9, 0), [7091])],
  [(18, (.aload_n 0, 19, 0, 0, 0), []), (19, (.iconst (-1), 20, 0, 0, 0), []), (20, (.putfield 17, 23, 11, 11, 0), [7093]), (23, (.aload_n 0, 24, 0, 0, 0), []), (24, (.sipush 200, 27, 0, 0, 0), []), (27, (.newarray .int, 29, 0, 0, 0), [1193]), (29, (.putfield 20, 32, 11, 13, 3), [7095])],
  [(32, (.aload_n 0, 33, 0, 0, 0), []), (33, (.sipush 200, 36, 0, 0, 0), []), (36, (.newarray .int, 38, 0, 0, 0), [1193]), (38, (.putfield 23, 41, 11, 14, 3), [7096]), (41, (.aload_n 0, 42, 0, 0, 0), []), (42, (.sipush 200, 45, 0, 0, 0), []), (45, (.newarray .int, 47, 0, 0, 0), [1193]), (47, (.putfield 26, 50, 11, 15, 3), [7097])],
  [(50, (.aload_n 0, 51, 0, 0, 0), []), (51, (.sipush 200, 54, 0, 0, 0), []), (54, (.newarray .int, 56, 0, 0, 0), [1193]), (56, (.putfield 29, 59, 11, 16, 3), [7098]), (59, (.aload_n 0, 60, 0, 0, 0), []), (60, (.sipush 1200, 63, 0, 0, 0), []), (63, (.newarray .int, 65, 0, 0, 0), [1193])],
  [(65, (.putfield 32, 68, 11, 17, 3), [7099]), (68, (.aload_n 0, 69, 0, 0, 0), []), (69, (.iconst 5, 70, 0, 0, 0), []), (70, (.newarray .long, 72, 1, 0, 0), [1192]), (72, (.putfield 35, 75, 11, 18, 3), [7100]), (75, (.aload_n 0, 76, 0, 0, 0), []), (76, (.iconst 5, 77, 0, 0, 0), []), (77, (.newarray .long, 79, 1, 0, 0), [1192]), (79, (.putfield 39, 82, 11, 19, 3), [7101])],
  [(82, (.aload_n 0, 83, 0, 0, 0), []), (83, (.iconst 5, 84, 0, 0, 0), []), (84, (.newarray .long, 86, 1, 0, 0), [1192]), (86, (.putfield 42, 89, 11, 20, 3), [7102]), (89, (.aload_n 0, 90, 0, 0, 0), []), (90, (.ldc 45, 92, 0, 144060, 0), [7078]), (92, (.newarray .int, 94, 0, 0, 0), [1193]), (94, (.putfield 46, 97, 11, 29, 3), [7111])],
  [(97, (.aload_n 0, 98, 0, 0, 0), []), (98, (.iconst 4, 99, 0, 0, 0), []), (99, (.newarray .int, 101, 0, 0, 0), [1193]), (101, (.putfield 49, 104, 11, 30, 3), [7112]), (104, (.aload_n 0, 105, 0, 0, 0), []), (105, (.bipush 12, 107, 0, 0, 0), []), (107, (.newarray .int, 109, 0, 0, 0), [1193]), (109, (.putfield 52, 112, 11, 31, 3), [7113])],
  [(112, (.aload_n 0, 113, 0, 0, 0), []), (113, (.sipush 24576, 116, 0, 0, 0), []), (116, (.newarray .int, 118, 0, 0, 0), [1193]), (118, (.putfield 55, 121, 11, 33, 3), [7115]), (121, (.aload_n 0, 122, 0, 0, 0), []), (122, (.sipush 4096, 125, 0, 0, 0), []), (125, (.newarray .boolean, 127, 3, 0, 0), [7230]), (127, (.putfield 58, 130, 11, 34, 3), [7116])],
  [(130, (.aload_n 0, 131, 0, 0, 0), []), (131, (.sipush 4096, 134, 0, 0, 0), []), (134, (.newarray .boolean, 136, 3, 0, 0), [7230]), (136, (.putfield 62, 139, 11, 35, 3), [7117]), (139, (.aload_n 0, 140, 0, 0, 0), []), (140, (.bipush 12, 142, 0, 0, 0), []), (142, (.newarray .int, 144, 0, 0, 0), [1193])],
  [(144, (.putfield 65, 147, 11, 36, 3), [7118]), (147, (.aload_n 0, 148, 0, 0, 0), []), (148, (.bipush 80, 150, 0, 0, 0), []), (150, (.newarray .int, 152, 0, 0, 0), [1193]), (152, (.putfield 68, 155, 11, 37, 3), [7119]), (155, (.aload_n 0, 156, 0, 0, 0), []), (156, (.bipush 80, 158, 0, 0, 0), []), (158, (.newarray .int, 160, 0, 0, 0), [1193])],
  [(160, (.putfield 71, 163, 11, 38, 3), [7120]), (163, (.aload_n 0, 164, 0, 0, 0), []), (164, (.iconst 2, 165, 0, 0, 0), []), (165, (.newarray .int, 167, 0, 0, 0), [1193]), (167, (.putfield 74, 170, 11, 39, 3), [7121]), (170, (.aload_n 0, 171, 0, 0, 0), []), (171, (.iconst 2, 172, 0, 0, 0), []), (172, (.newarray .int, 174, 0, 0, 0), [1193]), (174, (.putfield 77, 177, 11, 40, 3), [7122])],
  [(177, (.aload_n 0, 178, 0, 0, 0), []), (178, (.sipush 200, 181, 0, 0, 0), []), (181, (.newarray .int, 183, 0, 0, 0), [1193]), (183, (.putfield 80, 186, 11, 41, 3), [7123]), (186, (.aload_n 0, 187, 0, 0, 0), []), (187, (.sipush 300, 190, 0, 0, 0), []), (190, (.newarray .int, 192, 0, 0, 0), [1193])],
  [(192, (.putfield 83, 195, 11, 46, 3), [7128]), (195, (.aload_n 0, 196, 0, 0, 0), []), (196, (.getfield 20, 199, 11, 13, 0), [7095]), (199, (.invokestatic 86, 202, 203, 17, 0), [7079, 7080, 1014]), (202, (.return_, 203, 0, 0, 0), [])]]
-- PaintBankModel.begins([I)V
noncomputable def md_L203 : List (List mm_Ln) := [[(0, (.iconst 0, 1, 0, 0, 0), []), (1, (.istore_n 1, 2, 0, 0, 0), []), (2, (.iload_n 1, 3, 0, 0, 0), []), (3, (.sipush 200, 6, 0, 0, 0), []), (6, (.if_icmp .ge 13, 9, 19, 0, 0), []), (9, (.aload_n 0, 10, 0, 0, 0), []), (10, (.iload_n 1, 11, 0, 0, 0), []), (11, (.iconst 0, 12, 0, 0, 0), []), (12, (.iastore, 13, 0, 0, 0), []), (13, (.iinc 1 1, 16, 0, 0, 0), [])],
  [(16, (.goto (-14), 19, 2, 0, 0), []), (19, (.aload_n 0, 20, 0, 0, 0), []), (20, (.iconst 3, 21, 0, 0, 0), []), (21, (.bipush 11, 23, 0, 0, 0), []), (23, (.iastore, 24, 0, 0, 0), []), (24, (.aload_n 0, 25, 0, 0, 0), []), (25, (.iconst 4, 26, 0, 0, 0), []), (26, (.bipush 11, 28, 0, 0, 0), []), (28, (.iastore, 29, 0, 0, 0), []), (29, (.aload_n 0, 30, 0, 0, 0), []), (30, (.iconst 5, 31, 0, 0, 0), []), (31, (.bipush 9, 33, 0, 0, 0), [])],
  [(33, (.iastore, 34, 0, 0, 0), []), (34, (.aload_n 0, 35, 0, 0, 0), []), (35, (.bipush 7, 37, 0, 0, 0), []), (37, (.iconst 1, 38, 0, 0, 0), []), (38, (.iastore, 39, 0, 0, 0), []), (39, (.aload_n 0, 40, 0, 0, 0), []), (40, (.bipush 8, 42, 0, 0, 0), []), (42, (.iconst 3, 43, 0, 0, 0), []), (43, (.iastore, 44, 0, 0, 0), []), (44, (.aload_n 0, 45, 0, 0, 0), []), (45, (.bipush 9, 47, 0, 0, 0), []), (47, (.iconst 2, 48, 0, 0, 0), [])],
  [(48, (.iastore, 49, 0, 0, 0), []), (49, (.aload_n 0, 50, 0, 0, 0), []), (50, (.bipush 68, 52, 0, 0, 0), []), (52, (.iconst (-1), 53, 0, 0, 0), []), (53, (.iastore, 54, 0, 0, 0), []), (54, (.return_, 55, 0, 0, 0), [])]]
-- PaintBankModel.thrown()I
noncomputable def md_L204 : List (List mm_Ln) := [[(0, (.aload_n 0, 1, 0, 0, 0), []), (1, (.getfield 90, 4, 11, 0, 0), [7082]), (4, (.ireturn, 5, 0, 0, 0), [])]]
-- PaintBankModel.feed(IIIII)I
noncomputable def md_L205 : List (List mm_Ln) := [[(0, (.aload_n 0, 1, 0, 0, 0), []), (1, (.aload_n 0, 2, 0, 0, 0), []), (2, (.getfield 97, 5, 11, 2, 0), [7084]), (5, (.bipush 20, 7, 0, 0, 0), []), (7, (.iadd, 8, 0, 0, 0), []), (8, (.sipush 800, 11, 0, 0, 0), []), (11, (.if_icmp .gt 7, 14, 18, 0, 0), []), (14, (.iconst 1, 15, 0, 0, 0), []), (15, (.goto 4, 18, 19, 0, 0), [])],
  [(18, (.iconst 0, 19, 0, 0, 0), []), (19, (.invokevirtual 100, 22, 206, 1, 11), [7239, 8001, 41, 1014]), (22, (.ifCond .ne 5, 25, 27, 0, 0), []), (25, (.iconst 0, 26, 0, 0, 0), []), (26, (.ireturn, 27, 0, 0, 0), []), (27, (.aload_n 0, 28, 0, 0, 0), []), (28, (.iload_n 1, 29, 0, 0, 0), []), (29, (.invokevirtual 104, 32, 208, 1, 11), [8006, 8008, 42, 1014])],
  [(32, (.aload_n 0, 33, 0, 0, 0), []), (33, (.iload_n 2, 34, 0, 0, 0), []), (34, (.invokevirtual 104, 37, 208, 1, 11), [8006, 8008, 42, 1014]), (37, (.aload_n 0, 38, 0, 0, 0), []), (38, (.iload_n 3, 39, 0, 0, 0), []), (39, (.invokevirtual 104, 42, 208, 1, 11), [8006, 8008, 42, 1014]), (42, (.aload_n 0, 43, 0, 0, 0), []), (43, (.iload 4, 45, 0, 0, 0), []), (45, (.invokevirtual 104, 48, 208, 1, 11), [8006, 8008, 42, 1014])],
  [(48, (.aload_n 0, 49, 0, 0, 0), []), (49, (.iload 5, 51, 0, 0, 0), []), (51, (.invokevirtual 104, 54, 208, 1, 11), [8006, 8008, 42, 1014]), (54, (.aload_n 0, 55, 0, 0, 0), []), (55, (.getfield 97, 58, 11, 2, 0), [7084]), (58, (.ireturn, 59, 0, 0, 0), [])]]
-- PaintBankModel.goes(Z)Z
noncomputable def md_L206 : List (List mm_Ln) := [[(0, (.aload_n 0, 1, 0, 0, 0), []), (1, (.iload_n 1, 2, 0, 0, 0), []), (2, (.ifCond .ne 7, 5, 9, 0, 0), []), (5, (.iconst 1, 6, 0, 0, 0), []), (6, (.goto 4, 9, 10, 0, 0), []), (9, (.iconst 0, 10, 0, 0, 0), []), (10, (.invokestatic 93, 13, 207, 17, 0), [8003, 8004, 1014]), (13, (.putfield 90, 16, 11, 0, 0), [7082])],
  [(16, (.iload_n 1, 17, 0, 0, 0), []), (17, (.ireturn, 18, 0, 0, 0), [])]]
-- PaintBankModel.truth(Z)I
noncomputable def md_L207 : List (List mm_Ln) := [[(0, (.iload_n 0, 1, 0, 0, 0), []), (1, (.ifCond .eq 7, 4, 8, 0, 0), []), (4, (.iconst 1, 5, 0, 0, 0), []), (5, (.goto 4, 8, 9, 0, 0), []), (8, (.iconst 0, 9, 0, 0, 0), []), (9, (.ireturn, 10, 0, 0, 0), [])]]
-- PaintBankModel.four(I)V
noncomputable def md_L208 : List (List mm_Ln) := [[(0, (.bipush 24, 2, 0, 0, 0), []), (2, (.istore_n 2, 3, 0, 0, 0), []), (3, (.iload_n 2, 4, 0, 0, 0), []), (4, (.ifCond .lt 35, 7, 39, 0, 0), []), (7, (.aload_n 0, 8, 0, 0, 0), []), (8, (.getfield 7, 11, 11, 1, 0), [7083]), (11, (.aload_n 0, 12, 0, 0, 0), []), (12, (.getfield 97, 15, 11, 2, 0), [7084]), (15, (.iload_n 1, 16, 0, 0, 0), [])],
  [(16, (.iload_n 2, 17, 0, 0, 0), []), (17, (.ishr, 18, 0, 0, 0), []), (18, (.sipush 255, 21, 0, 0, 0), []), (21, (.iand, 22, 0, 0, 0), []), (22, (.iastore, 23, 0, 0, 0), []), (23, (.aload_n 0, 24, 0, 0, 0), []), (24, (.dup, 25, 0, 0, 0), []), (25, (.getfield 97, 28, 11, 2, 0), [7084]), (28, (.iconst 1, 29, 0, 0, 0), []), (29, (.iadd, 30, 0, 0, 0), []), (30, (.putfield 97, 33, 11, 2, 0), [7084])],
  [(33, (.iinc 2 (-8), 36, 0, 0, 0), []), (36, (.goto (-33), 39, 3, 0, 0), []), (39, (.return_, 40, 0, 0, 0), [])]]
-- PaintBankModel.truncate(I)I
noncomputable def md_L209 : List (List mm_Ln) := [[(0, (.aload_n 0, 1, 0, 0, 0), []), (1, (.iload_n 1, 2, 0, 0, 0), []), (2, (.i2l, 3, 0, 0, 0), []), (3, (.lconst 0, 4, 0, 0, 0), []), (4, (.aload_n 0, 5, 0, 0, 0), []), (5, (.getfield 97, 8, 11, 2, 0), [7084]), (8, (.i2l, 9, 0, 0, 0), []), (9, (.invokestatic 108, 12, 210, 19, 0), [8014, 8015, 1014]), (12, (.invokevirtual 100, 15, 206, 1, 11), [7239, 8001, 41, 1014]), (15, (.ifCond .ne 5, 18, 20, 0, 0), [])],
  [(18, (.iconst 0, 19, 0, 0, 0), []), (19, (.ireturn, 20, 0, 0, 0), []), (20, (.aload_n 0, 21, 0, 0, 0), []), (21, (.iload_n 1, 22, 0, 0, 0), []), (22, (.putfield 97, 25, 11, 2, 0), [7084]), (25, (.iload_n 1, 26, 0, 0, 0), []), (26, (.ireturn, 27, 0, 0, 0), [])]]
-- PaintBankModel.isIn(JJJ)Z
noncomputable def md_L210 : List (List mm_Ln) := [[(0, (.lload_n 0, 1, 0, 0, 0), []), (1, (.lload_n 2, 2, 0, 0, 0), []), (2, (.lcmp, 3, 0, 0, 0), []), (3, (.ifCond .lt 14, 6, 17, 0, 0), []), (6, (.lload_n 0, 7, 0, 0, 0), []), (7, (.lload 4, 9, 0, 0, 0), []), (9, (.lcmp, 10, 0, 0, 0), []), (10, (.ifCond .gt 7, 13, 17, 0, 0), []), (13, (.iconst 1, 14, 0, 0, 0), []), (14, (.goto 4, 17, 18, 0, 0), [])],
  [(17, (.iconst 0, 18, 0, 0, 0), []), (18, (.ireturn, 19, 0, 0, 0), [])]]
-- PaintBankModel.errorCode()I
noncomputable def md_L211 : List (List mm_Ln) := [[(0, (.aload_n 0, 1, 0, 0, 0), []), (1, (.iconst 0, 2, 0, 0, 0), []), (2, (.putfield 90, 5, 11, 0, 0), [7082]), (5, (.aload_n 0, 6, 0, 0, 0), []), (6, (.getfield 213, 9, 11, 10, 0), [7092]), (9, (.ireturn, 10, 0, 0, 0), [])]]
-- PaintBankModel.errorPosition()I
noncomputable def md_L212 : List (List mm_Ln) := [[(0, (.aload_n 0, 1, 0, 0, 0), []), (1, (.iconst 0, 2, 0, 0, 0), []), (2, (.putfield 90, 5, 11, 0, 0), [7082]), (5, (.aload_n 0, 6, 0, 0, 0), []), (6, (.getfield 17, 9, 11, 11, 0), [7093]), (9, (.ireturn, 10, 0, 0, 0), [])]]
-- PaintBankModel.readSetup()I
noncomputable def md_L213 : List (List mm_Ln) := [[(0, (.aload_n 0, 1, 0, 0, 0), []), (1, (.invokevirtual 259, 4, 214, 0, 11), [8029, 8031, 43, 1014]), (4, (.aload_n 0, 5, 0, 0, 0), []), (5, (.getfield 23, 8, 11, 14, 0), [7096]), (8, (.invokestatic 86, 11, 203, 17, 0), [7079, 7080, 1014]), (11, (.aload_n 0, 12, 0, 0, 0), []), (12, (.iconst 0, 13, 0, 0, 0), []), (13, (.putfield 243, 16, 11, 23, 2), [7105])],
  [(16, (.aload_n 0, 17, 0, 0, 0), []), (17, (.iconst 0, 18, 0, 0, 0), []), (18, (.putfield 250, 21, 11, 24, 2), [7106]), (21, (.aload_n 0, 22, 0, 0, 0), []), (22, (.iconst 0, 23, 0, 0, 0), []), (23, (.putfield 253, 26, 11, 25, 2), [7107]), (26, (.aload_n 0, 27, 0, 0, 0), []), (27, (.iconst 0, 28, 0, 0, 0), []), (28, (.putfield 256, 31, 11, 26, 2), [7108]), (31, (.aload_n 0, 32, 0, 0, 0), [])],
  [(32, (.iconst 0, 33, 0, 0, 0), []), (33, (.putfield 262, 36, 11, 27, 0), [7109]), (36, (.aload_n 0, 37, 0, 0, 0), []), (37, (.invokevirtual 152, 40, 219, 0, 11), [8047, 8049, 46, 1014]), (40, (.ifCond .eq 33, 43, 73, 0, 0), []), (43, (.aload_n 0, 44, 0, 0, 0), []), (44, (.getfield 132, 47, 11, 6, 0), [7088]), (47, (.ifCond .eq 26, 50, 73, 0, 0), [])],
  [(50, (.aload_n 0, 51, 0, 0, 0), []), (51, (.invokevirtual 265, 54, 220, 0, 11), [8051, 8053, 47, 1014]), (54, (.aload_n 0, 55, 0, 0, 0), []), (55, (.bipush 59, 57, 0, 0, 0), []), (57, (.invokevirtual 268, 60, 235, 1, 11), [8131, 8133, 62, 1014]), (60, (.aload_n 0, 61, 0, 0, 0), []), (61, (.dup, 62, 0, 0, 0), []), (62, (.getfield 262, 65, 11, 27, 0), [7109])],
  [(65, (.iconst 1, 66, 0, 0, 0), []), (66, (.iadd, 67, 0, 0, 0), []), (67, (.putfield 262, 70, 11, 27, 0), [7109]), (70, (.goto (-34), 73, 36, 0, 0), []), (73, (.aload_n 0, 74, 0, 0, 0), []), (74, (.invokevirtual 271, 77, 237, 0, 11), [8139, 8141, 64, 1014]), (77, (.ifCond .ne 5, 80, 82, 0, 0), [])],
  [(80, (.iconst 0, 81, 0, 0, 0), []), (81, (.ireturn, 82, 0, 0, 0), []), (82, (.aload_n 0, 83, 0, 0, 0), []), (83, (.getfield 23, 86, 11, 14, 0), [7096]), (86, (.aload_n 0, 87, 0, 0, 0), []), (87, (.getfield 20, 90, 11, 13, 0), [7095]), (90, (.invokestatic 274, 93, 238, 18, 0), [8143, 8144, 1014]), (93, (.iconst 0, 94, 0, 0, 0), []), (94, (.istore_n 1, 95, 0, 0, 0), []), (95, (.iload_n 1, 96, 0, 0, 0), [])],
  [(96, (.iconst 5, 97, 0, 0, 0), []), (97, (.if_icmp .ge 21, 100, 118, 0, 0), []), (100, (.aload_n 0, 101, 0, 0, 0), []), (101, (.getfield 35, 104, 11, 18, 0), [7100]), (104, (.iload_n 1, 105, 0, 0, 0), []), (105, (.aload_n 0, 106, 0, 0, 0), []), (106, (.getfield 39, 109, 11, 19, 0), [7101]), (109, (.iload_n 1, 110, 0, 0, 0), []), (110, (.laload, 111, 0, 0, 0), []), (111, (.lastore, 112, 0, 0, 0), [])],
  [(112, (.iinc 1 1, 115, 0, 0, 0), []), (115, (.goto (-20), 118, 95, 0, 0), []), (118, (.aload_n 0, 119, 0, 0, 0), []), (119, (.iconst 0, 120, 0, 0, 0), []), (120, (.putfield 278, 123, 11, 22, 0), [7104]), (123, (.aload_n 0, 124, 0, 0, 0), []), (124, (.getfield 262, 127, 11, 27, 0), [7109]), (127, (.ireturn, 128, 0, 0, 0), [])]]
-- PaintBankModel.beginsText()V
noncomputable def md_L214 : List (List mm_Ln) := [[(0, (.aload_n 0, 1, 0, 0, 0), []), (1, (.aload_n 0, 2, 0, 0, 0), []), (2, (.getfield 97, 5, 11, 2, 0), [7084]), (5, (.putfield 115, 8, 11, 3, 0), [7085]), (8, (.aload_n 0, 9, 0, 0, 0), []), (9, (.iconst 0, 10, 0, 0, 0), []), (10, (.putfield 97, 13, 11, 2, 0), [7084]), (13, (.aload_n 0, 14, 0, 0, 0), []), (14, (.iconst 0, 15, 0, 0, 0), []), (15, (.putfield 112, 18, 11, 4, 0), [7086])],
  [(18, (.aload_n 0, 19, 0, 0, 0), []), (19, (.iconst 0, 20, 0, 0, 0), []), (20, (.putfield 142, 23, 11, 8, 0), [7090]), (23, (.aload_n 0, 24, 0, 0, 0), []), (24, (.iconst (-1), 25, 0, 0, 0), []), (25, (.putfield 13, 28, 11, 9, 0), [7091]), (28, (.aload_n 0, 29, 0, 0, 0), []), (29, (.invokevirtual 149, 32, 215, 0, 11), [8033, 8035, 44, 1014])],
  [(32, (.return_, 33, 0, 0, 0), [])]]
-- PaintBankModel.goOn()V
noncomputable def md_L215 : List (List mm_Ln) := [[(0, (.aload_n 0, 1, 0, 0, 0), []), (1, (.iconst 0, 2, 0, 0, 0), []), (2, (.invokevirtual 118, 5, 216, 1, 11), [8037, 8039, 45, 1014]), (5, (.bipush 32, 7, 0, 0, 0), []), (7, (.if_icmp .eq 13, 10, 20, 0, 0), []), (10, (.aload_n 0, 11, 0, 0, 0), []), (11, (.iconst 0, 12, 0, 0, 0), []), (12, (.invokevirtual 118, 15, 216, 1, 11), [8037, 8039, 45, 1014]), (15, (.bipush 10, 17, 0, 0, 0), [])],
  [(17, (.if_icmp .ne 16, 20, 33, 0, 0), []), (20, (.aload_n 0, 21, 0, 0, 0), []), (21, (.dup, 22, 0, 0, 0), []), (22, (.getfield 112, 25, 11, 4, 0), [7086]), (25, (.iconst 1, 26, 0, 0, 0), []), (26, (.iadd, 27, 0, 0, 0), []), (27, (.putfield 112, 30, 11, 4, 0), [7086]), (30, (.goto (-30), 33, 0, 0, 0), [])],
  [(33, (.aload_n 0, 34, 0, 0, 0), []), (34, (.aload_n 0, 35, 0, 0, 0), []), (35, (.getfield 112, 38, 11, 4, 0), [7086]), (38, (.putfield 122, 41, 11, 5, 0), [7087]), (41, (.aload_n 0, 42, 0, 0, 0), []), (42, (.lconst 0, 43, 0, 0, 0), []), (43, (.putfield 125, 46, 11, 12, 1), [7094]), (46, (.aload_n 0, 47, 0, 0, 0), []), (47, (.iconst 0, 48, 0, 0, 0), [])],
  [(48, (.putfield 129, 51, 11, 7, 0), [7089]), (51, (.aload_n 0, 52, 0, 0, 0), []), (52, (.iconst 0, 53, 0, 0, 0), []), (53, (.invokevirtual 118, 56, 216, 1, 11), [8037, 8039, 45, 1014]), (56, (.istore_n 1, 57, 0, 0, 0), []), (57, (.iconst 0, 58, 0, 0, 0), []), (58, (.istore_n 2, 59, 0, 0, 0), []), (59, (.iload_n 1, 60, 0, 0, 0), []), (60, (.ifCond .ge 9, 63, 69, 0, 0), []), (63, (.aload_n 0, 64, 0, 0, 0), [])],
  [(64, (.iconst 0, 65, 0, 0, 0), []), (65, (.putfield 132, 68, 11, 6, 0), [7088]), (68, (.return_, 69, 0, 0, 0), []), (69, (.iload_n 1, 70, 0, 0, 0), []), (70, (.invokestatic 135, 73, 217, 17, 0), [8041, 8042, 1014]), (73, (.ifCond .eq 66, 76, 139, 0, 0), []), (76, (.aload_n 0, 77, 0, 0, 0), []), (77, (.iload_n 2, 78, 0, 0, 0), []), (78, (.invokevirtual 118, 81, 216, 1, 11), [8037, 8039, 45, 1014])],
  [(81, (.invokestatic 135, 84, 217, 17, 0), [8041, 8042, 1014]), (84, (.ifCond .eq 37, 87, 121, 0, 0), []), (87, (.iload_n 2, 88, 0, 0, 0), []), (88, (.bipush 8, 90, 0, 0, 0), []), (90, (.if_icmp .ge 25, 93, 115, 0, 0), []), (93, (.aload_n 0, 94, 0, 0, 0), []), (94, (.aload_n 0, 95, 0, 0, 0), []), (95, (.getfield 125, 98, 11, 12, 0), [7094])],
  [(98, (.iconst 5, 99, 0, 0, 0), []), (99, (.lshl, 100, 0, 0, 0), []), (100, (.aload_n 0, 101, 0, 0, 0), []), (101, (.iload_n 2, 102, 0, 0, 0), []), (102, (.invokevirtual 118, 105, 216, 1, 11), [8037, 8039, 45, 1014]), (105, (.bipush 97, 107, 0, 0, 0), []), (107, (.isub, 108, 0, 0, 0), []), (108, (.iconst 1, 109, 0, 0, 0), []), (109, (.iadd, 110, 0, 0, 0), []), (110, (.i2l, 111, 0, 0, 0), []), (111, (.lor, 112, 0, 0, 0), [])],
  [(112, (.putfield 125, 115, 11, 12, 1), [7094]), (115, (.iinc 2 1, 118, 0, 0, 0), []), (118, (.goto (-42), 121, 76, 0, 0), []), (121, (.aload_n 0, 122, 0, 0, 0), []), (122, (.iload_n 2, 123, 0, 0, 0), []), (123, (.bipush 8, 125, 0, 0, 0), []), (125, (.if_icmp .le 7, 128, 132, 0, 0), [])],
  [(128, (.iconst 4, 129, 0, 0, 0), []), (129, (.goto 4, 132, 133, 0, 0), []), (132, (.iconst 1, 133, 0, 0, 0), []), (133, (.putfield 132, 136, 11, 6, 0), [7088]), (136, (.goto 103, 139, 239, 0, 0), []), (139, (.iload_n 1, 140, 0, 0, 0), []), (140, (.invokestatic 139, 143, 218, 17, 0), [8044, 8045, 1014]), (143, (.ifCond .eq 62, 146, 205, 0, 0), [])],
  [(146, (.aload_n 0, 147, 0, 0, 0), []), (147, (.iload_n 2, 148, 0, 0, 0), []), (148, (.invokevirtual 118, 151, 216, 1, 11), [8037, 8039, 45, 1014]), (151, (.invokestatic 139, 154, 218, 17, 0), [8044, 8045, 1014]), (154, (.ifCond .eq 34, 157, 188, 0, 0), []), (157, (.iload_n 2, 158, 0, 0, 0), []), (158, (.iconst 3, 159, 0, 0, 0), []), (159, (.if_icmp .ge 23, 162, 182, 0, 0), [])],
  [(162, (.aload_n 0, 163, 0, 0, 0), []), (163, (.bipush 10, 165, 0, 0, 0), []), (165, (.aload_n 0, 166, 0, 0, 0), []), (166, (.getfield 129, 169, 11, 7, 0), [7089]), (169, (.imul, 170, 0, 0, 0), []), (170, (.aload_n 0, 171, 0, 0, 0), []), (171, (.iload_n 2, 172, 0, 0, 0), []), (172, (.invokevirtual 118, 175, 216, 1, 11), [8037, 8039, 45, 1014]), (175, (.iadd, 176, 0, 0, 0), [])],
  [(176, (.bipush 48, 178, 0, 0, 0), []), (178, (.isub, 179, 0, 0, 0), []), (179, (.putfield 129, 182, 11, 7, 0), [7089]), (182, (.iinc 2 1, 185, 0, 0, 0), []), (185, (.goto (-39), 188, 146, 0, 0), []), (188, (.aload_n 0, 189, 0, 0, 0), []), (189, (.iload_n 2, 190, 0, 0, 0), []), (190, (.iconst 3, 191, 0, 0, 0), []), (191, (.if_icmp .le 7, 194, 198, 0, 0), [])],
  [(194, (.iconst 4, 195, 0, 0, 0), []), (195, (.goto 4, 198, 199, 0, 0), []), (198, (.iconst 2, 199, 0, 0, 0), []), (199, (.putfield 132, 202, 11, 6, 0), [7088]), (202, (.goto 37, 205, 239, 0, 0), []), (205, (.aload_n 0, 206, 0, 0, 0), []), (206, (.iload_n 1, 207, 0, 0, 0), []), (207, (.bipush 59, 209, 0, 0, 0), [])],
  [(209, (.if_icmp .eq 15, 212, 224, 0, 0), []), (212, (.iload_n 1, 213, 0, 0, 0), []), (213, (.bipush 40, 215, 0, 0, 0), []), (215, (.if_icmp .eq 9, 218, 224, 0, 0), []), (218, (.iload_n 1, 219, 0, 0, 0), []), (219, (.bipush 41, 221, 0, 0, 0), []), (221, (.if_icmp .ne 7, 224, 228, 0, 0), [])],
  [(224, (.iconst 3, 225, 0, 0, 0), []), (225, (.goto 4, 228, 229, 0, 0), []), (228, (.iconst 4, 229, 0, 0, 0), []), (229, (.putfield 132, 232, 11, 6, 0), [7088]), (232, (.aload_n 0, 233, 0, 0, 0), []), (233, (.iload_n 1, 234, 0, 0, 0), []), (234, (.putfield 129, 237, 11, 7, 0), [7089]), (237, (.iconst 1, 238, 0, 0, 0), []), (238, (.istore_n 2, 239, 0, 0, 0), []), (239, (.aload_n 0, 240, 0, 0, 0), [])],
  [(240, (.dup, 241, 0, 0, 0), []), (241, (.getfield 112, 244, 11, 4, 0), [7086]), (244, (.iload_n 2, 245, 0, 0, 0), []), (245, (.iadd, 246, 0, 0, 0), []), (246, (.putfield 112, 249, 11, 4, 0), [7086]), (249, (.return_, 250, 0, 0, 0), [])]]
-- PaintBankModel.here(I)I
noncomputable def md_L216 : List (List mm_Ln) := [[(0, (.aload_n 0, 1, 0, 0, 0), []), (1, (.getfield 112, 4, 11, 4, 0), [7086]), (4, (.iload_n 1, 5, 0, 0, 0), []), (5, (.iadd, 6, 0, 0, 0), []), (6, (.aload_n 0, 7, 0, 0, 0), []), (7, (.getfield 115, 10, 11, 3, 0), [7085]), (10, (.if_icmp .ge 17, 13, 27, 0, 0), []), (13, (.aload_n 0, 14, 0, 0, 0), []), (14, (.getfield 7, 17, 11, 1, 0), [7083])],
  [(17, (.aload_n 0, 18, 0, 0, 0), []), (18, (.getfield 112, 21, 11, 4, 0), [7086]), (21, (.iload_n 1, 22, 0, 0, 0), []), (22, (.iadd, 23, 0, 0, 0), []), (23, (.iaload, 24, 0, 0, 0), []), (24, (.goto 4, 27, 28, 0, 0), []), (27, (.iconst (-1), 28, 0, 0, 0), []), (28, (.ireturn, 29, 0, 0, 0), [])]]
-- PaintBankModel.isLetter(I)Z
noncomputable def md_L217 : List (List mm_Ln) := [[(0, (.iload_n 0, 1, 0, 0, 0), []), (1, (.bipush 97, 3, 0, 0, 0), []), (3, (.if_icmp .lt 13, 6, 16, 0, 0), []), (6, (.iload_n 0, 7, 0, 0, 0), []), (7, (.bipush 122, 9, 0, 0, 0), []), (9, (.if_icmp .gt 7, 12, 16, 0, 0), []), (12, (.iconst 1, 13, 0, 0, 0), []), (13, (.goto 4, 16, 17, 0, 0), [])],
  [(16, (.iconst 0, 17, 0, 0, 0), []), (17, (.ireturn, 18, 0, 0, 0), [])]]
-- PaintBankModel.isDigit(I)Z
noncomputable def md_L218 : List (List mm_Ln) := [[(0, (.iload_n 0, 1, 0, 0, 0), []), (1, (.bipush 48, 3, 0, 0, 0), []), (3, (.if_icmp .lt 13, 6, 16, 0, 0), []), (6, (.iload_n 0, 7, 0, 0, 0), []), (7, (.bipush 57, 9, 0, 0, 0), []), (9, (.if_icmp .gt 7, 12, 16, 0, 0), []), (12, (.iconst 1, 13, 0, 0, 0), []), (13, (.goto 4, 16, 17, 0, 0), [])],
  [(16, (.iconst 0, 17, 0, 0, 0), []), (17, (.ireturn, 18, 0, 0, 0), [])]]
-- PaintBankModel.isGood()Z
noncomputable def md_L219 : List (List mm_Ln) := [[(0, (.aload_n 0, 1, 0, 0, 0), []), (1, (.getfield 142, 4, 11, 8, 0), [7090]), (4, (.ifCond .ne 7, 7, 11, 0, 0), []), (7, (.iconst 1, 8, 0, 0, 0), []), (8, (.goto 4, 11, 12, 0, 0), []), (11, (.iconst 0, 12, 0, 0, 0), []), (12, (.ireturn, 13, 0, 0, 0), [])]]
-- PaintBankModel.statement()V
noncomputable def md_L220 : List (List mm_Ln) := [[(0, (.aload_n 0, 1, 0, 0, 0), []), (1, (.ldc2_w 173, 4, 3650034, 0, 0), [8055]), (4, (.invokevirtual 145, 7, 221, 1, 11), [8056, 8058, 48, 1014]), (7, (.ifCond .eq 10, 10, 17, 0, 0), []), (10, (.aload_n 0, 11, 0, 0, 0), []), (11, (.invokevirtual 234, 14, 222, 0, 11), [8060, 8062, 49, 1014]), (14, (.goto 242, 17, 256, 0, 0), [])],
  [(17, (.aload_n 0, 18, 0, 0, 0), []), (18, (.ldc2_w 177, 21, 394693, 0, 0), [8081]), (21, (.invokevirtual 145, 24, 221, 1, 11), [8056, 8058, 48, 1014]), (24, (.ifCond .eq 10, 27, 34, 0, 0), []), (27, (.aload_n 0, 28, 0, 0, 0), []), (28, (.invokevirtual 237, 31, 232, 0, 11), [8119, 8121, 59, 1014]), (31, (.goto 225, 34, 256, 0, 0), [])],
  [(34, (.aload_n 0, 35, 0, 0, 0), []), (35, (.ldc2_w 179, 38, 3122, 0, 0), [8082]), (38, (.invokevirtual 145, 41, 221, 1, 11), [8056, 8058, 48, 1014]), (41, (.ifCond .eq 10, 44, 51, 0, 0), []), (44, (.aload_n 0, 45, 0, 0, 0), []), (45, (.invokevirtual 240, 48, 233, 0, 11), [8123, 8125, 60, 1014])],
  [(48, (.goto 208, 51, 256, 0, 0), []), (51, (.aload_n 0, 52, 0, 0, 0), []), (52, (.ldc2_w 185, 55, 781652471, 0, 0), [8085]), (55, (.invokevirtual 145, 58, 221, 1, 11), [8056, 8058, 48, 1014]), (58, (.ifCond .eq 44, 61, 102, 0, 0), []), (61, (.aload_n 0, 62, 0, 0, 0), []), (62, (.aload_n 0, 63, 0, 0, 0), []), (63, (.aload_n 0, 64, 0, 0, 0), [])],
  [(64, (.getfield 243, 67, 11, 23, 0), [7105]), (67, (.invokevirtual 247, 70, 234, 1, 11), [8127, 8129, 61, 1014]), (70, (.putfield 243, 73, 11, 23, 2), [7105]), (73, (.aload_n 0, 74, 0, 0, 0), []), (74, (.getfield 23, 77, 11, 14, 0), [7096]), (77, (.iconst 3, 78, 0, 0, 0), []), (78, (.aload_n 0, 79, 0, 0, 0), []), (79, (.iconst 0, 80, 0, 0, 0), [])],
  [(80, (.bipush 11, 82, 0, 0, 0), []), (82, (.invokevirtual 169, 85, 231, 2, 11), [8115, 8117, 58, 1014]), (85, (.iastore, 86, 0, 0, 0), []), (86, (.aload_n 0, 87, 0, 0, 0), []), (87, (.getfield 23, 90, 11, 14, 0), [7096]), (90, (.iconst 4, 91, 0, 0, 0), []), (91, (.aload_n 0, 92, 0, 0, 0), []), (92, (.iconst 0, 93, 0, 0, 0), []), (93, (.bipush 11, 95, 0, 0, 0), []), (95, (.invokevirtual 169, 98, 231, 2, 11), [8115, 8117, 58, 1014])],
  [(98, (.iastore, 99, 0, 0, 0), []), (99, (.goto 157, 102, 256, 0, 0), []), (102, (.aload_n 0, 103, 0, 0, 0), []), (103, (.ldc2_w 187, 106, 2150504, 0, 0), [8086]), (106, (.invokevirtual 145, 109, 221, 1, 11), [8056, 8058, 48, 1014]), (109, (.ifCond .eq 48, 112, 157, 0, 0), [])],
  [(112, (.aload_n 0, 113, 0, 0, 0), []), (113, (.aload_n 0, 114, 0, 0, 0), []), (114, (.aload_n 0, 115, 0, 0, 0), []), (115, (.getfield 250, 118, 11, 24, 0), [7106]), (118, (.invokevirtual 247, 121, 234, 1, 11), [8127, 8129, 61, 1014]), (121, (.putfield 250, 124, 11, 24, 2), [7106]), (124, (.aload_n 0, 125, 0, 0, 0), []), (125, (.getfield 23, 128, 11, 14, 0), [7096])],
  [(128, (.iconst 5, 129, 0, 0, 0), []), (129, (.aload_n 0, 130, 0, 0, 0), []), (130, (.iconst 1, 131, 0, 0, 0), []), (131, (.bipush 9, 133, 0, 0, 0), []), (133, (.invokevirtual 169, 136, 231, 2, 11), [8115, 8117, 58, 1014]), (136, (.iastore, 137, 0, 0, 0), []), (137, (.aload_n 0, 138, 0, 0, 0), []), (138, (.getfield 23, 141, 11, 14, 0), [7096]), (141, (.bipush 6, 143, 0, 0, 0), []), (143, (.aload_n 0, 144, 0, 0, 0), [])],
  [(144, (.ldc2_w 189, 147, 17484005, 0, 0), [8087]), (147, (.iconst 0, 148, 0, 0, 0), []), (148, (.bipush 99, 150, 0, 0, 0), []), (150, (.invokevirtual 230, 153, 228, 3, 11), [8103, 8105, 55, 1014]), (153, (.iastore, 154, 0, 0, 0), []), (154, (.goto 102, 157, 256, 0, 0), []), (157, (.aload_n 0, 158, 0, 0, 0), []), (158, (.ldc2_w 191, 161, 609992267, 0, 0), [8088])],
  [(161, (.invokevirtual 145, 164, 221, 1, 11), [8056, 8058, 48, 1014]), (164, (.ifCond .eq 48, 167, 212, 0, 0), []), (167, (.aload_n 0, 168, 0, 0, 0), []), (168, (.aload_n 0, 169, 0, 0, 0), []), (169, (.aload_n 0, 170, 0, 0, 0), []), (170, (.getfield 253, 173, 11, 25, 0), [7107]), (173, (.invokevirtual 247, 176, 234, 1, 11), [8127, 8129, 61, 1014])],
  [(176, (.putfield 253, 179, 11, 25, 2), [7107]), (179, (.aload_n 0, 180, 0, 0, 0), []), (180, (.getfield 23, 183, 11, 14, 0), [7096]), (183, (.bipush 7, 185, 0, 0, 0), []), (185, (.aload_n 0, 186, 0, 0, 0), []), (186, (.iconst 0, 187, 0, 0, 0), []), (187, (.iconst 3, 188, 0, 0, 0), []), (188, (.invokevirtual 169, 191, 231, 2, 11), [8115, 8117, 58, 1014]), (191, (.iastore, 192, 0, 0, 0), [])],
  [(192, (.aload_n 0, 193, 0, 0, 0), []), (193, (.getfield 23, 196, 11, 14, 0), [7096]), (196, (.bipush 8, 198, 0, 0, 0), []), (198, (.aload_n 0, 199, 0, 0, 0), []), (199, (.ldc2_w 193, 202, 4370489, 0, 0), [8089]), (202, (.iconst 0, 203, 0, 0, 0), []), (203, (.bipush 9, 205, 0, 0, 0), []), (205, (.invokevirtual 230, 208, 228, 3, 11), [8103, 8105, 55, 1014])],
  [(208, (.iastore, 209, 0, 0, 0), []), (209, (.goto 47, 212, 256, 0, 0), []), (212, (.aload_n 0, 213, 0, 0, 0), []), (213, (.ldc2_w 195, 216, 639022, 0, 0), [8090]), (216, (.invokevirtual 145, 219, 221, 1, 11), [8056, 8058, 48, 1014]), (219, (.ifCond .eq 32, 222, 251, 0, 0), []), (222, (.aload_n 0, 223, 0, 0, 0), []), (223, (.aload_n 0, 224, 0, 0, 0), [])],
  [(224, (.aload_n 0, 225, 0, 0, 0), []), (225, (.getfield 256, 228, 11, 26, 0), [7108]), (228, (.invokevirtual 247, 231, 234, 1, 11), [8127, 8129, 61, 1014]), (231, (.putfield 256, 234, 11, 26, 2), [7108]), (234, (.aload_n 0, 235, 0, 0, 0), []), (235, (.getfield 23, 238, 11, 14, 0), [7096]), (238, (.bipush 9, 240, 0, 0, 0), [])],
  [(240, (.aload_n 0, 241, 0, 0, 0), []), (241, (.iconst 0, 242, 0, 0, 0), []), (242, (.bipush 11, 244, 0, 0, 0), []), (244, (.invokevirtual 169, 247, 231, 2, 11), [8115, 8117, 58, 1014]), (247, (.iastore, 248, 0, 0, 0), []), (248, (.goto 8, 251, 256, 0, 0), []), (251, (.aload_n 0, 252, 0, 0, 0), []), (252, (.iconst 1, 253, 0, 0, 0), []), (253, (.invokevirtual 159, 256, 224, 1, 11), [8068, 8070, 51, 1014])],
  [(256, (.return_, 257, 0, 0, 0), [])]]
-- PaintBankModel.isWord(J)Z
noncomputable def md_L221 : List (List mm_Ln) := [[(0, (.aload_n 0, 1, 0, 0, 0), []), (1, (.getfield 142, 4, 11, 8, 0), [7090]), (4, (.ifCond .ne 24, 7, 28, 0, 0), []), (7, (.aload_n 0, 8, 0, 0, 0), []), (8, (.getfield 132, 11, 11, 6, 0), [7088]), (11, (.iconst 1, 12, 0, 0, 0), []), (12, (.if_icmp .ne 16, 15, 28, 0, 0), []), (15, (.aload_n 0, 16, 0, 0, 0), [])],
  [(16, (.getfield 125, 19, 11, 12, 0), [7094]), (19, (.lload_n 1, 20, 0, 0, 0), []), (20, (.lcmp, 21, 0, 0, 0), []), (21, (.ifCond .ne 7, 24, 28, 0, 0), []), (24, (.iconst 1, 25, 0, 0, 0), []), (25, (.goto 4, 28, 29, 0, 0), []), (28, (.iconst 0, 29, 0, 0, 0), []), (29, (.ireturn, 30, 0, 0, 0), [])]]
-- PaintBankModel.readsColor()V
noncomputable def md_L222 : List (List mm_Ln) := [[(0, (.aload_n 0, 1, 0, 0, 0), []), (1, (.getfield 23, 4, 11, 14, 0), [7096]), (4, (.iconst 0, 5, 0, 0, 0), []), (5, (.iaload, 6, 0, 0, 0), []), (6, (.istore_n 1, 7, 0, 0, 0), []), (7, (.aload_n 0, 8, 0, 0, 0), []), (8, (.iconst 0, 9, 0, 0, 0), []), (9, (.iconst 5, 10, 0, 0, 0), []), (10, (.invokevirtual 219, 13, 223, 2, 11), [8064, 8066, 50, 1014]), (13, (.ifCond .ne 4, 16, 17, 0, 0), [])],
  [(16, (.return_, 17, 0, 0, 0), []), (17, (.aload_n 0, 18, 0, 0, 0), []), (18, (.invokevirtual 223, 21, 225, 0, 11), [8072, 8074, 52, 1014]), (21, (.aload_n 0, 22, 0, 0, 0), []), (22, (.invokevirtual 152, 25, 219, 0, 11), [8047, 8049, 46, 1014]), (25, (.ifCond .eq 16, 28, 41, 0, 0), []), (28, (.aload_n 0, 29, 0, 0, 0), []), (29, (.invokevirtual 226, 32, 227, 0, 11), [8099, 8101, 54, 1014])],
  [(32, (.iload_n 1, 33, 0, 0, 0), []), (33, (.if_icmp .ge 8, 36, 41, 0, 0), []), (36, (.aload_n 0, 37, 0, 0, 0), []), (37, (.iconst 3, 38, 0, 0, 0), []), (38, (.invokevirtual 159, 41, 224, 1, 11), [8068, 8070, 51, 1014]), (41, (.aload_n 0, 42, 0, 0, 0), []), (42, (.invokevirtual 152, 45, 219, 0, 11), [8047, 8049, 46, 1014]), (45, (.ifCond .ne 4, 48, 49, 0, 0), [])],
  [(48, (.return_, 49, 0, 0, 0), []), (49, (.aload_n 0, 50, 0, 0, 0), []), (50, (.getfield 39, 53, 11, 19, 0), [7101]), (53, (.iload_n 1, 54, 0, 0, 0), []), (54, (.aload_n 0, 55, 0, 0, 0), []), (55, (.getfield 125, 58, 11, 12, 0), [7094]), (58, (.lastore, 59, 0, 0, 0), []), (59, (.aload_n 0, 60, 0, 0, 0), []), (60, (.invokevirtual 149, 63, 215, 0, 11), [8033, 8035, 44, 1014]), (63, (.aload_n 0, 64, 0, 0, 0), [])],
  [(64, (.getfield 23, 67, 11, 14, 0), [7096]), (67, (.bipush 10, 69, 0, 0, 0), []), (69, (.iload_n 1, 70, 0, 0, 0), []), (70, (.iadd, 71, 0, 0, 0), []), (71, (.aload_n 0, 72, 0, 0, 0), []), (72, (.ldc2_w 175, 75, 109099237, 0, 0), [8080]), (75, (.iconst 0, 76, 0, 0, 0), []), (76, (.bipush 99, 78, 0, 0, 0), []), (78, (.invokevirtual 230, 81, 228, 3, 11), [8103, 8105, 55, 1014])],
  [(81, (.iastore, 82, 0, 0, 0), []), (82, (.aload_n 0, 83, 0, 0, 0), []), (83, (.invokevirtual 152, 86, 219, 0, 11), [8047, 8049, 46, 1014]), (86, (.ifCond .eq 13, 89, 99, 0, 0), []), (89, (.aload_n 0, 90, 0, 0, 0), []), (90, (.getfield 23, 93, 11, 14, 0), [7096]), (93, (.iconst 0, 94, 0, 0, 0), []), (94, (.dup2, 95, 0, 0, 0), []), (95, (.iaload, 96, 0, 0, 0), [])],
  [(96, (.iconst 1, 97, 0, 0, 0), []), (97, (.iadd, 98, 0, 0, 0), []), (98, (.iastore, 99, 0, 0, 0), []), (99, (.return_, 100, 0, 0, 0), [])]]
-- PaintBankModel.begin(II)Z
noncomputable def md_L223 : List (List mm_Ln) := [[(0, (.aload_n 0, 1, 0, 0, 0), []), (1, (.getfield 23, 4, 11, 14, 0), [7096]), (4, (.iload_n 1, 5, 0, 0, 0), []), (5, (.iaload, 6, 0, 0, 0), []), (6, (.iload_n 2, 7, 0, 0, 0), []), (7, (.if_icmp .ne 8, 10, 15, 0, 0), []), (10, (.aload_n 0, 11, 0, 0, 0), []), (11, (.iconst 5, 12, 0, 0, 0), []), (12, (.invokevirtual 159, 15, 224, 1, 11), [8068, 8070, 51, 1014]), (15, (.aload_n 0, 16, 0, 0, 0), [])],
  [(16, (.invokevirtual 152, 19, 219, 0, 11), [8047, 8049, 46, 1014]), (19, (.ifCond .eq 7, 22, 26, 0, 0), []), (22, (.aload_n 0, 23, 0, 0, 0), []), (23, (.invokevirtual 149, 26, 215, 0, 11), [8033, 8035, 44, 1014]), (26, (.aload_n 0, 27, 0, 0, 0), []), (27, (.invokevirtual 152, 30, 219, 0, 11), [8047, 8049, 46, 1014]), (30, (.ireturn, 31, 0, 0, 0), [])]]
-- PaintBankModel.wrong(I)V
noncomputable def md_L224 : List (List mm_Ln) := [[(0, (.aload_n 0, 1, 0, 0, 0), []), (1, (.getfield 142, 4, 11, 8, 0), [7090]), (4, (.ifCond .le 4, 7, 8, 0, 0), []), (7, (.return_, 8, 0, 0, 0), []), (8, (.aload_n 0, 9, 0, 0, 0), []), (9, (.aload_n 0, 10, 0, 0, 0), []), (10, (.getfield 132, 13, 11, 6, 0), [7088]), (13, (.iconst 4, 14, 0, 0, 0), []), (14, (.if_icmp .ne 7, 17, 21, 0, 0), [])],
  [(17, (.iconst 1, 18, 0, 0, 0), []), (18, (.goto 4, 21, 22, 0, 0), []), (21, (.iload_n 1, 22, 0, 0, 0), []), (22, (.putfield 142, 25, 11, 8, 0), [7090]), (25, (.aload_n 0, 26, 0, 0, 0), []), (26, (.aload_n 0, 27, 0, 0, 0), []), (27, (.getfield 122, 30, 11, 5, 0), [7087]), (30, (.putfield 13, 33, 11, 9, 0), [7091])],
  [(33, (.return_, 34, 0, 0, 0), [])]]
-- PaintBankModel.nameHere()V
noncomputable def md_L225 : List (List mm_Ln) := [[(0, (.aload_n 0, 1, 0, 0, 0), []), (1, (.invokevirtual 152, 4, 219, 0, 11), [8047, 8049, 46, 1014]), (4, (.ifCond .eq 15, 7, 19, 0, 0), []), (7, (.aload_n 0, 8, 0, 0, 0), []), (8, (.invokevirtual 216, 11, 226, 0, 11), [8076, 8078, 53, 1014]), (11, (.ifCond .ne 8, 14, 19, 0, 0), []), (14, (.aload_n 0, 15, 0, 0, 0), []), (15, (.iconst 1, 16, 0, 0, 0), [])],
  [(16, (.invokevirtual 159, 19, 224, 1, 11), [8068, 8070, 51, 1014]), (19, (.return_, 20, 0, 0, 0), [])]]
-- PaintBankModel.isName()Z
noncomputable def md_L226 : List (List mm_Ln) := [[(0, (.aload_n 0, 1, 0, 0, 0), []), (1, (.getfield 125, 4, 11, 12, 0), [7094]), (4, (.ldc2_w 173, 7, 3650034, 0, 0), [8055]), (7, (.lcmp, 8, 0, 0, 0), []), (8, (.ifCond .eq 102, 11, 110, 0, 0), []), (11, (.aload_n 0, 12, 0, 0, 0), []), (12, (.getfield 125, 15, 11, 12, 0), [7094]), (15, (.ldc2_w 175, 18, 109099237, 0, 0), [8080])],
  [(18, (.lcmp, 19, 0, 0, 0), []), (19, (.ifCond .eq 91, 22, 110, 0, 0), []), (22, (.aload_n 0, 23, 0, 0, 0), []), (23, (.getfield 125, 26, 11, 12, 0), [7094]), (26, (.ldc2_w 177, 29, 394693, 0, 0), [8081]), (29, (.lcmp, 30, 0, 0, 0), []), (30, (.ifCond .eq 80, 33, 110, 0, 0), [])],
  [(33, (.aload_n 0, 34, 0, 0, 0), []), (34, (.getfield 125, 37, 11, 12, 0), [7094]), (37, (.ldc2_w 179, 40, 3122, 0, 0), [8082]), (40, (.lcmp, 41, 0, 0, 0), []), (41, (.ifCond .eq 69, 44, 110, 0, 0), []), (44, (.aload_n 0, 45, 0, 0, 0), []), (45, (.getfield 125, 48, 11, 12, 0), [7094])],
  [(48, (.ldc2_w 181, 51, 81049, 0, 0), [8083]), (51, (.lcmp, 52, 0, 0, 0), []), (52, (.ifCond .eq 58, 55, 110, 0, 0), []), (55, (.aload_n 0, 56, 0, 0, 0), []), (56, (.getfield 125, 59, 11, 12, 0), [7094]), (59, (.ldc2_w 183, 62, 2084, 0, 0), [8084]), (62, (.lcmp, 63, 0, 0, 0), []), (63, (.ifCond .eq 47, 66, 110, 0, 0), [])],
  [(66, (.aload_n 0, 67, 0, 0, 0), []), (67, (.getfield 125, 70, 11, 12, 0), [7094]), (70, (.ldc2_w 185, 73, 781652471, 0, 0), [8085]), (73, (.lcmp, 74, 0, 0, 0), []), (74, (.ifCond .eq 36, 77, 110, 0, 0), []), (77, (.aload_n 0, 78, 0, 0, 0), []), (78, (.getfield 125, 81, 11, 12, 0), [7094])],
  [(81, (.ldc2_w 187, 84, 2150504, 0, 0), [8086]), (84, (.lcmp, 85, 0, 0, 0), []), (85, (.ifCond .eq 25, 88, 110, 0, 0), []), (88, (.aload_n 0, 89, 0, 0, 0), []), (89, (.getfield 125, 92, 11, 12, 0), [7094]), (92, (.ldc2_w 189, 95, 17484005, 0, 0), [8087]), (95, (.lcmp, 96, 0, 0, 0), [])],
  [(96, (.ifCond .eq 14, 99, 110, 0, 0), []), (99, (.aload_n 0, 100, 0, 0, 0), []), (100, (.getfield 125, 103, 11, 12, 0), [7094]), (103, (.ldc2_w 191, 106, 609992267, 0, 0), [8088]), (106, (.lcmp, 107, 0, 0, 0), []), (107, (.ifCond .ne 7, 110, 114, 0, 0), []), (110, (.iconst 1, 111, 0, 0, 0), []), (111, (.goto 4, 114, 115, 0, 0), [])],
  [(114, (.iconst 0, 115, 0, 0, 0), []), (115, (.istore_n 1, 116, 0, 0, 0), []), (116, (.iload_n 1, 117, 0, 0, 0), []), (117, (.ifCond .ne 113, 120, 230, 0, 0), []), (120, (.aload_n 0, 121, 0, 0, 0), []), (121, (.getfield 125, 124, 11, 12, 0), [7094]), (124, (.ldc2_w 193, 127, 4370489, 0, 0), [8089]), (127, (.lcmp, 128, 0, 0, 0), [])],
  [(128, (.ifCond .eq 102, 131, 230, 0, 0), []), (131, (.aload_n 0, 132, 0, 0, 0), []), (132, (.getfield 125, 135, 11, 12, 0), [7094]), (135, (.ldc2_w 195, 138, 639022, 0, 0), [8090]), (138, (.lcmp, 139, 0, 0, 0), []), (139, (.ifCond .eq 91, 142, 230, 0, 0), []), (142, (.aload_n 0, 143, 0, 0, 0), []), (143, (.getfield 125, 146, 11, 12, 0), [7094])],
  [(146, (.ldc2_w 197, 149, 5722290, 0, 0), [8091]), (149, (.lcmp, 150, 0, 0, 0), []), (150, (.ifCond .eq 80, 153, 230, 0, 0), []), (153, (.aload_n 0, 154, 0, 0, 0), []), (154, (.getfield 125, 157, 11, 12, 0), [7094]), (157, (.ldc2_w 199, 160, 12748485, 0, 0), [8092])],
  [(160, (.lcmp, 161, 0, 0, 0), []), (161, (.ifCond .eq 69, 164, 230, 0, 0), []), (164, (.aload_n 0, 165, 0, 0, 0), []), (165, (.getfield 125, 168, 11, 12, 0), [7094]), (168, (.ldc2_w 201, 171, 66667, 0, 0), [8093]), (171, (.lcmp, 172, 0, 0, 0), []), (172, (.ifCond .eq 58, 175, 230, 0, 0), []), (175, (.aload_n 0, 176, 0, 0, 0), [])],
  [(176, (.getfield 125, 179, 11, 12, 0), [7094]), (179, (.ldc2_w 203, 182, 754996, 0, 0), [8094]), (182, (.lcmp, 183, 0, 0, 0), []), (183, (.ifCond .eq 47, 186, 230, 0, 0), []), (186, (.aload_n 0, 187, 0, 0, 0), []), (187, (.getfield 125, 190, 11, 12, 0), [7094]), (190, (.ldc2_w 205, 193, 643248, 0, 0), [8095])],
  [(193, (.lcmp, 194, 0, 0, 0), []), (194, (.ifCond .eq 36, 197, 230, 0, 0), []), (197, (.aload_n 0, 198, 0, 0, 0), []), (198, (.getfield 125, 201, 11, 12, 0), [7094]), (201, (.ldc2_w 207, 204, 719731748, 0, 0), [8096]), (204, (.lcmp, 205, 0, 0, 0), []), (205, (.ifCond .eq 25, 208, 230, 0, 0), [])],
  [(208, (.aload_n 0, 209, 0, 0, 0), []), (209, (.getfield 125, 212, 11, 12, 0), [7094]), (212, (.ldc2_w 209, 215, 646192, 0, 0), [8097]), (215, (.lcmp, 216, 0, 0, 0), []), (216, (.ifCond .eq 14, 219, 230, 0, 0), []), (219, (.aload_n 0, 220, 0, 0, 0), []), (220, (.getfield 125, 223, 11, 12, 0), [7094]), (223, (.ldc2_w 211, 226, 609752116, 0, 0), [8098])],
  [(226, (.lcmp, 227, 0, 0, 0), []), (227, (.ifCond .ne 7, 230, 234, 0, 0), []), (230, (.iconst 1, 231, 0, 0, 0), []), (231, (.goto 4, 234, 235, 0, 0), []), (234, (.iconst 0, 235, 0, 0, 0), []), (235, (.istore_n 1, 236, 0, 0, 0), []), (236, (.aload_n 0, 237, 0, 0, 0), []), (237, (.getfield 132, 240, 11, 6, 0), [7088])],
  [(240, (.iconst 1, 241, 0, 0, 0), []), (241, (.if_icmp .ne 11, 244, 252, 0, 0), []), (244, (.iload_n 1, 245, 0, 0, 0), []), (245, (.ifCond .ne 7, 248, 252, 0, 0), []), (248, (.iconst 1, 249, 0, 0, 0), []), (249, (.goto 4, 252, 253, 0, 0), []), (252, (.iconst 0, 253, 0, 0, 0), []), (253, (.ireturn, 254, 0, 0, 0), [])]]
-- PaintBankModel.named()I
noncomputable def md_L227 : List (List mm_Ln) := [[(0, (.iconst 0, 1, 0, 0, 0), []), (1, (.istore_n 1, 2, 0, 0, 0), []), (2, (.iload_n 1, 3, 0, 0, 0), []), (3, (.aload_n 0, 4, 0, 0, 0), []), (4, (.getfield 23, 7, 11, 14, 0), [7096]), (7, (.iconst 0, 8, 0, 0, 0), []), (8, (.iaload, 9, 0, 0, 0), []), (9, (.if_icmp .ge 23, 12, 32, 0, 0), []), (12, (.aload_n 0, 13, 0, 0, 0), []), (13, (.getfield 39, 16, 11, 19, 0), [7101])],
  [(16, (.iload_n 1, 17, 0, 0, 0), []), (17, (.laload, 18, 0, 0, 0), []), (18, (.aload_n 0, 19, 0, 0, 0), []), (19, (.getfield 125, 22, 11, 12, 0), [7094]), (22, (.lcmp, 23, 0, 0, 0), []), (23, (.ifCond .eq 9, 26, 32, 0, 0), []), (26, (.iinc 1 1, 29, 0, 0, 0), []), (29, (.goto (-27), 32, 2, 0, 0), [])],
  [(32, (.iload_n 1, 33, 0, 0, 0), []), (33, (.ireturn, 34, 0, 0, 0), [])]]
-- PaintBankModel.numberBehind(JII)I
noncomputable def md_L228 : List (List mm_Ln) := [[(0, (.aload_n 0, 1, 0, 0, 0), []), (1, (.lload_n 1, 2, 0, 0, 0), []), (2, (.invokevirtual 165, 5, 229, 1, 11), [8107, 8109, 56, 1014]), (5, (.aload_n 0, 6, 0, 0, 0), []), (6, (.iload_n 3, 7, 0, 0, 0), []), (7, (.iload 4, 9, 0, 0, 0), []), (9, (.invokevirtual 169, 12, 231, 2, 11), [8115, 8117, 58, 1014]), (12, (.ireturn, 13, 0, 0, 0), [])]]
-- PaintBankModel.must(J)V
noncomputable def md_L229 : List (List mm_Ln) := [[(0, (.aload_n 0, 1, 0, 0, 0), []), (1, (.invokevirtual 152, 4, 219, 0, 11), [8047, 8049, 46, 1014]), (4, (.ifCond .eq 16, 7, 20, 0, 0), []), (7, (.aload_n 0, 8, 0, 0, 0), []), (8, (.lload_n 1, 9, 0, 0, 0), []), (9, (.invokevirtual 156, 12, 230, 1, 11), [8111, 8113, 57, 1014]), (12, (.ifCond .ne 8, 15, 20, 0, 0), []), (15, (.aload_n 0, 16, 0, 0, 0), [])],
  [(16, (.iconst 1, 17, 0, 0, 0), []), (17, (.invokevirtual 159, 20, 224, 1, 11), [8068, 8070, 51, 1014]), (20, (.return_, 21, 0, 0, 0), [])]]
-- PaintBankModel.takes(J)Z
noncomputable def md_L230 : List (List mm_Ln) := [[(0, (.aload_n 0, 1, 0, 0, 0), []), (1, (.lload_n 1, 2, 0, 0, 0), []), (2, (.invokevirtual 145, 5, 221, 1, 11), [8056, 8058, 48, 1014]), (5, (.istore_n 3, 6, 0, 0, 0), []), (6, (.iload_n 3, 7, 0, 0, 0), []), (7, (.ifCond .eq 7, 10, 14, 0, 0), []), (10, (.aload_n 0, 11, 0, 0, 0), []), (11, (.invokevirtual 149, 14, 215, 0, 11), [8033, 8035, 44, 1014]), (14, (.iload_n 3, 15, 0, 0, 0), []), (15, (.ireturn, 16, 0, 0, 0), [])]]
-- PaintBankModel.number(II)I
noncomputable def md_L231 : List (List mm_Ln) := [[(0, (.aload_n 0, 1, 0, 0, 0), []), (1, (.invokevirtual 152, 4, 219, 0, 11), [8047, 8049, 46, 1014]), (4, (.ifCond .eq 16, 7, 20, 0, 0), []), (7, (.aload_n 0, 8, 0, 0, 0), []), (8, (.getfield 132, 11, 11, 6, 0), [7088]), (11, (.iconst 2, 12, 0, 0, 0), []), (12, (.if_icmp .eq 8, 15, 20, 0, 0), []), (15, (.aload_n 0, 16, 0, 0, 0), [])],
  [(16, (.iconst 1, 17, 0, 0, 0), []), (17, (.invokevirtual 159, 20, 224, 1, 11), [8068, 8070, 51, 1014]), (20, (.aload_n 0, 21, 0, 0, 0), []), (21, (.getfield 129, 24, 11, 7, 0), [7089]), (24, (.istore_n 3, 25, 0, 0, 0), []), (25, (.aload_n 0, 26, 0, 0, 0), []), (26, (.invokevirtual 152, 29, 219, 0, 11), [8047, 8049, 46, 1014]), (29, (.ifCond .eq 20, 32, 49, 0, 0), [])],
  [(32, (.iload_n 3, 33, 0, 0, 0), []), (33, (.i2l, 34, 0, 0, 0), []), (34, (.iload_n 1, 35, 0, 0, 0), []), (35, (.i2l, 36, 0, 0, 0), []), (36, (.iload_n 2, 37, 0, 0, 0), []), (37, (.i2l, 38, 0, 0, 0), []), (38, (.invokestatic 108, 41, 210, 19, 0), [8014, 8015, 1014]), (41, (.ifCond .ne 8, 44, 49, 0, 0), []), (44, (.aload_n 0, 45, 0, 0, 0), []), (45, (.iconst 2, 46, 0, 0, 0), []), (46, (.invokevirtual 159, 49, 224, 1, 11), [8068, 8070, 51, 1014])],
  [(49, (.aload_n 0, 50, 0, 0, 0), []), (50, (.invokevirtual 152, 53, 219, 0, 11), [8047, 8049, 46, 1014]), (53, (.ifCond .eq 7, 56, 60, 0, 0), []), (56, (.aload_n 0, 57, 0, 0, 0), []), (57, (.invokevirtual 149, 60, 215, 0, 11), [8033, 8035, 44, 1014]), (60, (.iload_n 3, 61, 0, 0, 0), []), (61, (.ireturn, 62, 0, 0, 0), [])]]
-- PaintBankModel.readsLane()V
noncomputable def md_L232 : List (List mm_Ln) := [[(0, (.aload_n 0, 1, 0, 0, 0), []), (1, (.getfield 23, 4, 11, 14, 0), [7096]), (4, (.iconst 1, 5, 0, 0, 0), []), (5, (.iaload, 6, 0, 0, 0), []), (6, (.istore_n 1, 7, 0, 0, 0), []), (7, (.aload_n 0, 8, 0, 0, 0), []), (8, (.iconst 1, 9, 0, 0, 0), []), (9, (.iconst 4, 10, 0, 0, 0), []), (10, (.invokevirtual 219, 13, 223, 2, 11), [8064, 8066, 50, 1014]), (13, (.ifCond .ne 4, 16, 17, 0, 0), [])],
  [(16, (.return_, 17, 0, 0, 0), []), (17, (.aload_n 0, 18, 0, 0, 0), []), (18, (.getfield 23, 21, 11, 14, 0), [7096]), (21, (.bipush 15, 23, 0, 0, 0), []), (23, (.iload_n 1, 24, 0, 0, 0), []), (24, (.iadd, 25, 0, 0, 0), []), (25, (.aload_n 0, 26, 0, 0, 0), []), (26, (.iconst 1, 27, 0, 0, 0), []), (27, (.bipush 6, 29, 0, 0, 0), []), (29, (.invokevirtual 169, 32, 231, 2, 11), [8115, 8117, 58, 1014])],
  [(32, (.iastore, 33, 0, 0, 0), []), (33, (.aload_n 0, 34, 0, 0, 0), []), (34, (.invokevirtual 152, 37, 219, 0, 11), [8047, 8049, 46, 1014]), (37, (.ifCond .eq 13, 40, 50, 0, 0), []), (40, (.aload_n 0, 41, 0, 0, 0), []), (41, (.getfield 23, 44, 11, 14, 0), [7096]), (44, (.iconst 1, 45, 0, 0, 0), []), (45, (.dup2, 46, 0, 0, 0), []), (46, (.iaload, 47, 0, 0, 0), []), (47, (.iconst 1, 48, 0, 0, 0), [])],
  [(48, (.iadd, 49, 0, 0, 0), []), (49, (.iastore, 50, 0, 0, 0), []), (50, (.return_, 51, 0, 0, 0), [])]]
-- PaintBankModel.readsCar()V
noncomputable def md_L233 : List (List mm_Ln) := [[(0, (.aload_n 0, 1, 0, 0, 0), []), (1, (.getfield 23, 4, 11, 14, 0), [7096]), (4, (.iconst 2, 5, 0, 0, 0), []), (5, (.iaload, 6, 0, 0, 0), []), (6, (.istore_n 1, 7, 0, 0, 0), []), (7, (.aload_n 0, 8, 0, 0, 0), []), (8, (.iconst 2, 9, 0, 0, 0), []), (9, (.bipush 12, 11, 0, 0, 0), []), (11, (.invokevirtual 219, 14, 223, 2, 11), [8064, 8066, 50, 1014]), (14, (.ifCond .ne 4, 17, 18, 0, 0), [])],
  [(17, (.return_, 18, 0, 0, 0), []), (18, (.aload_n 0, 19, 0, 0, 0), []), (19, (.invokevirtual 223, 22, 225, 0, 11), [8072, 8074, 52, 1014]), (22, (.aload_n 0, 23, 0, 0, 0), []), (23, (.invokevirtual 226, 26, 227, 0, 11), [8099, 8101, 54, 1014]), (26, (.istore_n 2, 27, 0, 0, 0), []), (27, (.aload_n 0, 28, 0, 0, 0), []), (28, (.invokevirtual 152, 31, 219, 0, 11), [8047, 8049, 46, 1014]), (31, (.ifCond .eq 18, 34, 49, 0, 0), [])],
  [(34, (.iload_n 2, 35, 0, 0, 0), []), (35, (.aload_n 0, 36, 0, 0, 0), []), (36, (.getfield 23, 39, 11, 14, 0), [7096]), (39, (.iconst 0, 40, 0, 0, 0), []), (40, (.iaload, 41, 0, 0, 0), []), (41, (.if_icmp .ne 8, 44, 49, 0, 0), []), (44, (.aload_n 0, 45, 0, 0, 0), []), (45, (.iconst 4, 46, 0, 0, 0), []), (46, (.invokevirtual 159, 49, 224, 1, 11), [8068, 8070, 51, 1014])],
  [(49, (.aload_n 0, 50, 0, 0, 0), []), (50, (.invokevirtual 152, 53, 219, 0, 11), [8047, 8049, 46, 1014]), (53, (.ifCond .ne 4, 56, 57, 0, 0), []), (56, (.return_, 57, 0, 0, 0), []), (57, (.aload_n 0, 58, 0, 0, 0), []), (58, (.invokevirtual 149, 61, 215, 0, 11), [8033, 8035, 44, 1014]), (61, (.aload_n 0, 62, 0, 0, 0), []), (62, (.getfield 23, 65, 11, 14, 0), [7096])],
  [(65, (.bipush 31, 67, 0, 0, 0), []), (67, (.iload_n 1, 68, 0, 0, 0), []), (68, (.iadd, 69, 0, 0, 0), []), (69, (.iload_n 2, 70, 0, 0, 0), []), (70, (.iastore, 71, 0, 0, 0), []), (71, (.aload_n 0, 72, 0, 0, 0), []), (72, (.getfield 23, 75, 11, 14, 0), [7096]), (75, (.bipush 19, 77, 0, 0, 0), []), (77, (.iload_n 1, 78, 0, 0, 0), []), (78, (.iadd, 79, 0, 0, 0), []), (79, (.aload_n 0, 80, 0, 0, 0), [])],
  [(80, (.ldc2_w 181, 83, 81049, 0, 0), [8083]), (83, (.iconst 0, 84, 0, 0, 0), []), (84, (.iconst 3, 85, 0, 0, 0), []), (85, (.invokevirtual 230, 88, 228, 3, 11), [8103, 8105, 55, 1014]), (88, (.iastore, 89, 0, 0, 0), []), (89, (.aload_n 0, 90, 0, 0, 0), []), (90, (.getfield 23, 93, 11, 14, 0), [7096]), (93, (.bipush 43, 95, 0, 0, 0), []), (95, (.iload_n 1, 96, 0, 0, 0), [])],
  [(96, (.iadd, 97, 0, 0, 0), []), (97, (.aload_n 0, 98, 0, 0, 0), []), (98, (.ldc2_w 183, 101, 2084, 0, 0), [8084]), (101, (.invokevirtual 156, 104, 230, 1, 11), [8111, 8113, 57, 1014]), (104, (.ifCond .eq 12, 107, 116, 0, 0), []), (107, (.aload_n 0, 108, 0, 0, 0), []), (108, (.iconst 0, 109, 0, 0, 0), []), (109, (.iconst 2, 110, 0, 0, 0), []), (110, (.invokevirtual 169, 113, 231, 2, 11), [8115, 8117, 58, 1014])],
  [(113, (.goto 4, 116, 117, 0, 0), []), (116, (.iconst 0, 117, 0, 0, 0), []), (117, (.iastore, 118, 0, 0, 0), []), (118, (.aload_n 0, 119, 0, 0, 0), []), (119, (.invokevirtual 152, 122, 219, 0, 11), [8047, 8049, 46, 1014]), (122, (.ifCond .eq 13, 125, 135, 0, 0), []), (125, (.aload_n 0, 126, 0, 0, 0), []), (126, (.getfield 23, 129, 11, 14, 0), [7096])],
  [(129, (.iconst 2, 130, 0, 0, 0), []), (130, (.dup2, 131, 0, 0, 0), []), (131, (.iaload, 132, 0, 0, 0), []), (132, (.iconst 1, 133, 0, 0, 0), []), (133, (.iadd, 134, 0, 0, 0), []), (134, (.iastore, 135, 0, 0, 0), []), (135, (.return_, 136, 0, 0, 0), [])]]
-- PaintBankModel.once(Z)Z
noncomputable def md_L234 : List (List mm_Ln) := [[(0, (.iload_n 1, 1, 0, 0, 0), []), (1, (.ifCond .eq 8, 4, 9, 0, 0), []), (4, (.aload_n 0, 5, 0, 0, 0), []), (5, (.iconst 3, 6, 0, 0, 0), []), (6, (.invokevirtual 159, 9, 224, 1, 11), [8068, 8070, 51, 1014]), (9, (.aload_n 0, 10, 0, 0, 0), []), (10, (.invokevirtual 152, 13, 219, 0, 11), [8047, 8049, 46, 1014]), (13, (.ifCond .eq 7, 16, 20, 0, 0), [])],
  [(16, (.aload_n 0, 17, 0, 0, 0), []), (17, (.invokevirtual 149, 20, 215, 0, 11), [8033, 8035, 44, 1014]), (20, (.iconst 1, 21, 0, 0, 0), []), (21, (.ireturn, 22, 0, 0, 0), [])]]
-- PaintBankModel.mustSign(I)V
noncomputable def md_L235 : List (List mm_Ln) := [[(0, (.aload_n 0, 1, 0, 0, 0), []), (1, (.invokevirtual 152, 4, 219, 0, 11), [8047, 8049, 46, 1014]), (4, (.ifCond .eq 16, 7, 20, 0, 0), []), (7, (.aload_n 0, 8, 0, 0, 0), []), (8, (.iload_n 1, 9, 0, 0, 0), []), (9, (.invokevirtual 162, 12, 236, 1, 11), [8135, 8137, 63, 1014]), (12, (.ifCond .ne 8, 15, 20, 0, 0), []), (15, (.aload_n 0, 16, 0, 0, 0), [])],
  [(16, (.iconst 1, 17, 0, 0, 0), []), (17, (.invokevirtual 159, 20, 224, 1, 11), [8068, 8070, 51, 1014]), (20, (.aload_n 0, 21, 0, 0, 0), []), (21, (.invokevirtual 152, 24, 219, 0, 11), [8047, 8049, 46, 1014]), (24, (.ifCond .eq 7, 27, 31, 0, 0), []), (27, (.aload_n 0, 28, 0, 0, 0), []), (28, (.invokevirtual 149, 31, 215, 0, 11), [8033, 8035, 44, 1014]), (31, (.return_, 32, 0, 0, 0), [])]]
-- PaintBankModel.isSign(I)Z
noncomputable def md_L236 : List (List mm_Ln) := [[(0, (.aload_n 0, 1, 0, 0, 0), []), (1, (.getfield 142, 4, 11, 8, 0), [7090]), (4, (.ifCond .ne 23, 7, 27, 0, 0), []), (7, (.aload_n 0, 8, 0, 0, 0), []), (8, (.getfield 132, 11, 11, 6, 0), [7088]), (11, (.iconst 3, 12, 0, 0, 0), []), (12, (.if_icmp .ne 15, 15, 27, 0, 0), []), (15, (.aload_n 0, 16, 0, 0, 0), [])],
  [(16, (.getfield 129, 19, 11, 7, 0), [7089]), (19, (.iload_n 1, 20, 0, 0, 0), []), (20, (.if_icmp .ne 7, 23, 27, 0, 0), []), (23, (.iconst 1, 24, 0, 0, 0), []), (24, (.goto 4, 27, 28, 0, 0), []), (27, (.iconst 0, 28, 0, 0, 0), []), (28, (.ireturn, 29, 0, 0, 0), [])]]
-- PaintBankModel.endsText()Z
noncomputable def md_L237 : List (List mm_Ln) := [[(0, (.aload_n 0, 1, 0, 0, 0), []), (1, (.aload_n 0, 2, 0, 0, 0), []), (2, (.getfield 142, 5, 11, 8, 0), [7090]), (5, (.putfield 213, 8, 11, 10, 0), [7092]), (8, (.aload_n 0, 9, 0, 0, 0), []), (9, (.aload_n 0, 10, 0, 0, 0), []), (10, (.getfield 13, 13, 11, 9, 0), [7091]), (13, (.putfield 17, 16, 11, 11, 0), [7093])],
  [(16, (.aload_n 0, 17, 0, 0, 0), []), (17, (.aload_n 0, 18, 0, 0, 0), []), (18, (.getfield 142, 21, 11, 8, 0), [7090]), (21, (.ifCond .ne 7, 24, 28, 0, 0), []), (24, (.iconst 1, 25, 0, 0, 0), []), (25, (.goto 4, 28, 29, 0, 0), []), (28, (.iconst 0, 29, 0, 0, 0), []), (29, (.invokevirtual 100, 32, 206, 1, 11), [7239, 8001, 41, 1014])],
  [(32, (.ireturn, 33, 0, 0, 0), [])]]
-- PaintBankModel.copies([I[I)V
noncomputable def md_L238 : List (List mm_Ln) := [[(0, (.iconst 0, 1, 0, 0, 0), []), (1, (.istore_n 2, 2, 0, 0, 0), []), (2, (.iload_n 2, 3, 0, 0, 0), []), (3, (.sipush 200, 6, 0, 0, 0), []), (6, (.if_icmp .ge 15, 9, 21, 0, 0), []), (9, (.aload_n 1, 10, 0, 0, 0), []), (10, (.iload_n 2, 11, 0, 0, 0), []), (11, (.aload_n 0, 12, 0, 0, 0), []), (12, (.iload_n 2, 13, 0, 0, 0), []), (13, (.iaload, 14, 0, 0, 0), []), (14, (.iastore, 15, 0, 0, 0), []), (15, (.iinc 2 1, 18, 0, 0, 0), [])],
  [(18, (.goto (-16), 21, 2, 0, 0), []), (21, (.return_, 22, 0, 0, 0), [])]]
-- PaintBankModel.setting(I)I
noncomputable def md_L239 : List (List mm_Ln) := [[(0, (.aload_n 0, 1, 0, 0, 0), []), (1, (.iload_n 1, 2, 0, 0, 0), []), (2, (.i2l, 3, 0, 0, 0), []), (3, (.lconst 0, 4, 0, 0, 0), []), (4, (.ldc2_w 281, 7, 9, 0, 0), [8150]), (7, (.invokestatic 108, 10, 210, 19, 0), [8014, 8015, 1014]), (10, (.invokevirtual 100, 13, 206, 1, 11), [7239, 8001, 41, 1014]), (13, (.ifCond .eq 12, 16, 25, 0, 0), [])],
  [(16, (.aload_n 0, 17, 0, 0, 0), []), (17, (.getfield 20, 20, 11, 13, 0), [7095]), (20, (.iload_n 1, 21, 0, 0, 0), []), (21, (.iaload, 22, 0, 0, 0), []), (22, (.goto 4, 25, 26, 0, 0), []), (25, (.iconst 0, 26, 0, 0, 0), []), (26, (.ireturn, 27, 0, 0, 0), [])]]
-- PaintBankModel.changeCost(I)I
noncomputable def md_L240 : List (List mm_Ln) := [[(0, (.aload_n 0, 1, 0, 0, 0), []), (1, (.iload_n 1, 2, 0, 0, 0), []), (2, (.i2l, 3, 0, 0, 0), []), (3, (.lconst 0, 4, 0, 0, 0), []), (4, (.aload_n 0, 5, 0, 0, 0), []), (5, (.getfield 20, 8, 11, 13, 0), [7095]), (8, (.iconst 0, 9, 0, 0, 0), []), (9, (.iaload, 10, 0, 0, 0), []), (10, (.iconst 1, 11, 0, 0, 0), []), (11, (.isub, 12, 0, 0, 0), []), (12, (.i2l, 13, 0, 0, 0), []), (13, (.invokestatic 108, 16, 210, 19, 0), [8014, 8015, 1014])],
  [(16, (.invokevirtual 100, 19, 206, 1, 11), [7239, 8001, 41, 1014]), (19, (.ifCond .eq 15, 22, 34, 0, 0), []), (22, (.aload_n 0, 23, 0, 0, 0), []), (23, (.getfield 20, 26, 11, 13, 0), [7095]), (26, (.bipush 10, 28, 0, 0, 0), []), (28, (.iload_n 1, 29, 0, 0, 0), []), (29, (.iadd, 30, 0, 0, 0), []), (30, (.iaload, 31, 0, 0, 0), []), (31, (.goto 4, 34, 35, 0, 0), [])],
  [(34, (.iconst 0, 35, 0, 0, 0), []), (35, (.ireturn, 36, 0, 0, 0), [])]]
-- PaintBankModel.room(I)I
noncomputable def md_L241 : List (List mm_Ln) := [[(0, (.aload_n 0, 1, 0, 0, 0), []), (1, (.aload_n 0, 2, 0, 0, 0), []), (2, (.iload_n 1, 3, 0, 0, 0), []), (3, (.invokevirtual 283, 6, 242, 1, 11), [8159, 8161, 65, 1014]), (6, (.invokevirtual 100, 9, 206, 1, 11), [7239, 8001, 41, 1014]), (9, (.ifCond .eq 15, 12, 24, 0, 0), []), (12, (.aload_n 0, 13, 0, 0, 0), []), (13, (.getfield 20, 16, 11, 13, 0), [7095])],
  [(16, (.bipush 15, 18, 0, 0, 0), []), (18, (.iload_n 1, 19, 0, 0, 0), []), (19, (.iadd, 20, 0, 0, 0), []), (20, (.iaload, 21, 0, 0, 0), []), (21, (.goto 4, 24, 25, 0, 0), []), (24, (.iconst 0, 25, 0, 0, 0), []), (25, (.ireturn, 26, 0, 0, 0), [])]]
-- PaintBankModel.isLane(I)Z
noncomputable def md_L242 : List (List mm_Ln) := [[(0, (.iload_n 1, 1, 0, 0, 0), []), (1, (.i2l, 2, 0, 0, 0), []), (2, (.lconst 0, 3, 0, 0, 0), []), (3, (.aload_n 0, 4, 0, 0, 0), []), (4, (.getfield 20, 7, 11, 13, 0), [7095]), (7, (.iconst 1, 8, 0, 0, 0), []), (8, (.iaload, 9, 0, 0, 0), []), (9, (.iconst 1, 10, 0, 0, 0), []), (10, (.isub, 11, 0, 0, 0), []), (11, (.i2l, 12, 0, 0, 0), []), (12, (.invokestatic 108, 15, 210, 19, 0), [8014, 8015, 1014]), (15, (.ireturn, 16, 0, 0, 0), [])]]
-- PaintBankModel.body(I)I
noncomputable def md_L243 : List (List mm_Ln) := [[(0, (.aload_n 0, 1, 0, 0, 0), []), (1, (.aload_n 0, 2, 0, 0, 0), []), (2, (.iload_n 1, 3, 0, 0, 0), []), (3, (.invokevirtual 286, 6, 244, 1, 11), [8167, 8169, 66, 1014]), (6, (.invokevirtual 100, 9, 206, 1, 11), [7239, 8001, 41, 1014]), (9, (.ifCond .eq 15, 12, 24, 0, 0), []), (12, (.aload_n 0, 13, 0, 0, 0), []), (13, (.getfield 20, 16, 11, 13, 0), [7095])],
  [(16, (.bipush 19, 18, 0, 0, 0), []), (18, (.iload_n 1, 19, 0, 0, 0), []), (19, (.iadd, 20, 0, 0, 0), []), (20, (.iaload, 21, 0, 0, 0), []), (21, (.goto 4, 24, 25, 0, 0), []), (24, (.iconst 0, 25, 0, 0, 0), []), (25, (.ireturn, 26, 0, 0, 0), [])]]
-- PaintBankModel.isCar(I)Z
noncomputable def md_L244 : List (List mm_Ln) := [[(0, (.iload_n 1, 1, 0, 0, 0), []), (1, (.i2l, 2, 0, 0, 0), []), (2, (.lconst 0, 3, 0, 0, 0), []), (3, (.aload_n 0, 4, 0, 0, 0), []), (4, (.getfield 20, 7, 11, 13, 0), [7095]), (7, (.iconst 2, 8, 0, 0, 0), []), (8, (.iaload, 9, 0, 0, 0), []), (9, (.iconst 1, 10, 0, 0, 0), []), (10, (.isub, 11, 0, 0, 0), []), (11, (.i2l, 12, 0, 0, 0), []), (12, (.invokestatic 108, 15, 210, 19, 0), [8014, 8015, 1014]), (15, (.ireturn, 16, 0, 0, 0), [])]]
-- PaintBankModel.colorOf(I)I
noncomputable def md_L245 : List (List mm_Ln) := [[(0, (.aload_n 0, 1, 0, 0, 0), []), (1, (.aload_n 0, 2, 0, 0, 0), []), (2, (.iload_n 1, 3, 0, 0, 0), []), (3, (.invokevirtual 286, 6, 244, 1, 11), [8167, 8169, 66, 1014]), (6, (.invokevirtual 100, 9, 206, 1, 11), [7239, 8001, 41, 1014]), (9, (.ifCond .eq 15, 12, 24, 0, 0), []), (12, (.aload_n 0, 13, 0, 0, 0), []), (13, (.getfield 20, 16, 11, 13, 0), [7095])],
  [(16, (.bipush 31, 18, 0, 0, 0), []), (18, (.iload_n 1, 19, 0, 0, 0), []), (19, (.iadd, 20, 0, 0, 0), []), (20, (.iaload, 21, 0, 0, 0), []), (21, (.goto 4, 24, 25, 0, 0), []), (24, (.iconst 0, 25, 0, 0, 0), []), (25, (.ireturn, 26, 0, 0, 0), [])]]
-- PaintBankModel.bad(I)I
noncomputable def md_L246 : List (List mm_Ln) := [[(0, (.aload_n 0, 1, 0, 0, 0), []), (1, (.aload_n 0, 2, 0, 0, 0), []), (2, (.iload_n 1, 3, 0, 0, 0), []), (3, (.invokevirtual 286, 6, 244, 1, 11), [8167, 8169, 66, 1014]), (6, (.invokevirtual 100, 9, 206, 1, 11), [7239, 8001, 41, 1014]), (9, (.ifCond .eq 15, 12, 24, 0, 0), []), (12, (.aload_n 0, 13, 0, 0, 0), []), (13, (.getfield 20, 16, 11, 13, 0), [7095])],
  [(16, (.bipush 43, 18, 0, 0, 0), []), (18, (.iload_n 1, 19, 0, 0, 0), []), (19, (.iadd, 20, 0, 0, 0), []), (20, (.iaload, 21, 0, 0, 0), []), (21, (.goto 4, 24, 25, 0, 0), []), (24, (.iconst 0, 25, 0, 0, 0), []), (25, (.ireturn, 26, 0, 0, 0), [])]]
-- PaintBankModel.kinds()I
noncomputable def md_L247 : List (List mm_Ln) := [[(0, (.aload_n 0, 1, 0, 0, 0), []), (1, (.iconst 0, 2, 0, 0, 0), []), (2, (.putfield 90, 5, 11, 0, 0), [7082]), (5, (.iconst 0, 6, 0, 0, 0), []), (6, (.istore_n 1, 7, 0, 0, 0), []), (7, (.iconst 0, 8, 0, 0, 0), []), (8, (.istore_n 2, 9, 0, 0, 0), []), (9, (.iload_n 2, 10, 0, 0, 0), []), (10, (.aload_n 0, 11, 0, 0, 0), []), (11, (.getfield 20, 14, 11, 13, 0), [7095]), (14, (.iconst 2, 15, 0, 0, 0), []), (15, (.iaload, 16, 0, 0, 0), [])],
  [(16, (.if_icmp .ge 87, 19, 103, 0, 0), []), (19, (.iconst 1, 20, 0, 0, 0), []), (20, (.istore_n 3, 21, 0, 0, 0), []), (21, (.iconst 0, 22, 0, 0, 0), []), (22, (.istore 4, 24, 0, 0, 0), []), (24, (.iload 4, 26, 0, 0, 0), []), (26, (.iload_n 2, 27, 0, 0, 0), []), (27, (.if_icmp .ge 63, 30, 90, 0, 0), []), (30, (.iload_n 3, 31, 0, 0, 0), []), (31, (.ifCond .eq 51, 34, 82, 0, 0), [])],
  [(34, (.aload_n 0, 35, 0, 0, 0), []), (35, (.getfield 20, 38, 11, 13, 0), [7095]), (38, (.bipush 19, 40, 0, 0, 0), []), (40, (.iload 4, 42, 0, 0, 0), []), (42, (.iadd, 43, 0, 0, 0), []), (43, (.iaload, 44, 0, 0, 0), []), (44, (.aload_n 0, 45, 0, 0, 0), []), (45, (.getfield 20, 48, 11, 13, 0), [7095])],
  [(48, (.bipush 19, 50, 0, 0, 0), []), (50, (.iload_n 2, 51, 0, 0, 0), []), (51, (.iadd, 52, 0, 0, 0), []), (52, (.iaload, 53, 0, 0, 0), []), (53, (.if_icmp .ne 25, 56, 78, 0, 0), []), (56, (.aload_n 0, 57, 0, 0, 0), []), (57, (.getfield 20, 60, 11, 13, 0), [7095]), (60, (.bipush 31, 62, 0, 0, 0), []), (62, (.iload 4, 64, 0, 0, 0), [])],
  [(64, (.iadd, 65, 0, 0, 0), []), (65, (.iaload, 66, 0, 0, 0), []), (66, (.aload_n 0, 67, 0, 0, 0), []), (67, (.getfield 20, 70, 11, 13, 0), [7095]), (70, (.bipush 31, 72, 0, 0, 0), []), (72, (.iload_n 2, 73, 0, 0, 0), []), (73, (.iadd, 74, 0, 0, 0), []), (74, (.iaload, 75, 0, 0, 0), []), (75, (.if_icmp .eq 7, 78, 82, 0, 0), []), (78, (.iconst 1, 79, 0, 0, 0), []), (79, (.goto 4, 82, 83, 0, 0), [])],
  [(82, (.iconst 0, 83, 0, 0, 0), []), (83, (.istore_n 3, 84, 0, 0, 0), []), (84, (.iinc 4 1, 87, 0, 0, 0), []), (87, (.goto (-63), 90, 24, 0, 0), []), (90, (.iload_n 1, 91, 0, 0, 0), []), (91, (.iload_n 3, 92, 0, 0, 0), []), (92, (.invokestatic 93, 95, 207, 17, 0), [8003, 8004, 1014]), (95, (.iadd, 96, 0, 0, 0), [])],
  [(96, (.istore_n 1, 97, 0, 0, 0), []), (97, (.iinc 2 1, 100, 0, 0, 0), []), (100, (.goto (-91), 103, 9, 0, 0), []), (103, (.iload_n 1, 104, 0, 0, 0), []), (104, (.ireturn, 105, 0, 0, 0), [])]]
-- PaintBankModel.commonest()I
noncomputable def md_L248 : List (List mm_Ln) := [[(0, (.aload_n 0, 1, 0, 0, 0), []), (1, (.iconst 0, 2, 0, 0, 0), []), (2, (.putfield 90, 5, 11, 0, 0), [7082]), (5, (.iconst 0, 6, 0, 0, 0), []), (6, (.istore_n 1, 7, 0, 0, 0), []), (7, (.iconst 0, 8, 0, 0, 0), []), (8, (.istore_n 2, 9, 0, 0, 0), []), (9, (.iload_n 2, 10, 0, 0, 0), []), (10, (.aload_n 0, 11, 0, 0, 0), []), (11, (.getfield 20, 14, 11, 13, 0), [7095]), (14, (.iconst 2, 15, 0, 0, 0), []), (15, (.iaload, 16, 0, 0, 0), [])],
  [(16, (.if_icmp .ge 19, 19, 35, 0, 0), []), (19, (.iload_n 1, 20, 0, 0, 0), []), (20, (.aload_n 0, 21, 0, 0, 0), []), (21, (.iload_n 2, 22, 0, 0, 0), []), (22, (.invokevirtual 289, 25, 249, 1, 11), [8187, 8189, 67, 1014]), (25, (.invokestatic 292, 28, 250, 18, 0), [8191, 8192, 1014]), (28, (.istore_n 1, 29, 0, 0, 0), []), (29, (.iinc 2 1, 32, 0, 0, 0), [])],
  [(32, (.goto (-23), 35, 9, 0, 0), []), (35, (.iload_n 1, 36, 0, 0, 0), []), (36, (.ireturn, 37, 0, 0, 0), [])]]
-- PaintBankModel.alike(I)I
noncomputable def md_L249 : List (List mm_Ln) := [[(0, (.iconst 0, 1, 0, 0, 0), []), (1, (.istore_n 2, 2, 0, 0, 0), []), (2, (.iconst 0, 3, 0, 0, 0), []), (3, (.istore_n 3, 4, 0, 0, 0), []), (4, (.iload_n 3, 5, 0, 0, 0), []), (5, (.aload_n 0, 6, 0, 0, 0), []), (6, (.getfield 20, 9, 11, 13, 0), [7095]), (9, (.iconst 2, 10, 0, 0, 0), []), (10, (.iaload, 11, 0, 0, 0), []), (11, (.if_icmp .ge 62, 14, 73, 0, 0), []), (14, (.iload_n 2, 15, 0, 0, 0), []), (15, (.aload_n 0, 16, 0, 0, 0), [])],
  [(16, (.getfield 20, 19, 11, 13, 0), [7095]), (19, (.bipush 19, 21, 0, 0, 0), []), (21, (.iload_n 3, 22, 0, 0, 0), []), (22, (.iadd, 23, 0, 0, 0), []), (23, (.iaload, 24, 0, 0, 0), []), (24, (.aload_n 0, 25, 0, 0, 0), []), (25, (.getfield 20, 28, 11, 13, 0), [7095]), (28, (.bipush 19, 30, 0, 0, 0), []), (30, (.iload_n 1, 31, 0, 0, 0), []), (31, (.iadd, 32, 0, 0, 0), [])],
  [(32, (.iaload, 33, 0, 0, 0), []), (33, (.if_icmp .ne 28, 36, 61, 0, 0), []), (36, (.aload_n 0, 37, 0, 0, 0), []), (37, (.getfield 20, 40, 11, 13, 0), [7095]), (40, (.bipush 31, 42, 0, 0, 0), []), (42, (.iload_n 3, 43, 0, 0, 0), []), (43, (.iadd, 44, 0, 0, 0), []), (44, (.iaload, 45, 0, 0, 0), []), (45, (.aload_n 0, 46, 0, 0, 0), []), (46, (.getfield 20, 49, 11, 13, 0), [7095])],
  [(49, (.bipush 31, 51, 0, 0, 0), []), (51, (.iload_n 1, 52, 0, 0, 0), []), (52, (.iadd, 53, 0, 0, 0), []), (53, (.iaload, 54, 0, 0, 0), []), (54, (.if_icmp .ne 7, 57, 61, 0, 0), []), (57, (.iconst 1, 58, 0, 0, 0), []), (58, (.goto 4, 61, 62, 0, 0), []), (61, (.iconst 0, 62, 0, 0, 0), []), (62, (.invokestatic 93, 65, 207, 17, 0), [8003, 8004, 1014])],
  [(65, (.iadd, 66, 0, 0, 0), []), (66, (.istore_n 2, 67, 0, 0, 0), []), (67, (.iinc 3 1, 70, 0, 0, 0), []), (70, (.goto (-66), 73, 4, 0, 0), []), (73, (.iload_n 2, 74, 0, 0, 0), []), (74, (.ireturn, 75, 0, 0, 0), [])]]
-- PaintBankModel.more(II)I
noncomputable def md_L250 : List (List mm_Ln) := [[(0, (.iload_n 0, 1, 0, 0, 0), []), (1, (.iload_n 1, 2, 0, 0, 0), []), (2, (.if_icmp .le 7, 5, 9, 0, 0), []), (5, (.iload_n 0, 6, 0, 0, 0), []), (6, (.goto 4, 9, 10, 0, 0), []), (9, (.iload_n 1, 10, 0, 0, 0), []), (10, (.ireturn, 11, 0, 0, 0), [])]]
-- PaintBankModel.where(I)I
noncomputable def md_L251 : List (List mm_Ln) := [[(0, (.aload_n 0, 1, 0, 0, 0), []), (1, (.aload_n 0, 2, 0, 0, 0), []), (2, (.iload_n 1, 3, 0, 0, 0), []), (3, (.invokevirtual 286, 6, 244, 1, 11), [8167, 8169, 66, 1014]), (6, (.invokevirtual 100, 9, 206, 1, 11), [7239, 8001, 41, 1014]), (9, (.ifCond .eq 11, 12, 20, 0, 0), []), (12, (.aload_n 0, 13, 0, 0, 0), []), (13, (.iload_n 1, 14, 0, 0, 0), []), (14, (.invokevirtual 302, 17, 252, 1, 11), [8198, 8200, 68, 1014])],
  [(17, (.goto 4, 20, 21, 0, 0), []), (20, (.iconst 0, 21, 0, 0, 0), []), (21, (.ireturn, 22, 0, 0, 0), [])]]
-- PaintBankModel.whereIs(I)I
noncomputable def md_L252 : List (List mm_Ln) := [[(0, (.iload_n 1, 1, 0, 0, 0), []), (1, (.aload_n 0, 2, 0, 0, 0), []), (2, (.getfield 20, 5, 11, 13, 0), [7095]), (5, (.bipush 73, 7, 0, 0, 0), []), (7, (.iaload, 8, 0, 0, 0), []), (8, (.if_icmp .lt 5, 11, 13, 0, 0), []), (11, (.iconst 0, 12, 0, 0, 0), []), (12, (.ireturn, 13, 0, 0, 0), []), (13, (.aload_n 0, 14, 0, 0, 0), []), (14, (.iload_n 1, 15, 0, 0, 0), []), (15, (.invokevirtual 299, 18, 253, 1, 11), [8202, 8204, 69, 1014])],
  [(18, (.iconst (-1), 19, 0, 0, 0), []), (19, (.if_icmp .eq 5, 22, 24, 0, 0), []), (22, (.iconst 3, 23, 0, 0, 0), []), (23, (.ireturn, 24, 0, 0, 0), []), (24, (.aload_n 0, 25, 0, 0, 0), []), (25, (.bipush 103, 27, 0, 0, 0), []), (27, (.aload_n 0, 28, 0, 0, 0), []), (28, (.getfield 20, 31, 11, 13, 0), [7095]), (31, (.bipush 102, 33, 0, 0, 0), [])],
  [(33, (.iaload, 34, 0, 0, 0), []), (34, (.iload_n 1, 35, 0, 0, 0), []), (35, (.invokevirtual 295, 38, 254, 3, 11), [8206, 8208, 70, 1014]), (38, (.iconst (-1), 39, 0, 0, 0), []), (39, (.if_icmp .eq 7, 42, 46, 0, 0), []), (42, (.iconst 2, 43, 0, 0, 0), []), (43, (.goto 4, 46, 47, 0, 0), []), (46, (.iconst 1, 47, 0, 0, 0), []), (47, (.ireturn, 48, 0, 0, 0), [])]]
-- PaintBankModel.outAt(I)I
noncomputable def md_L253 : List (List mm_Ln) := [[(0, (.aload_n 0, 1, 0, 0, 0), []), (1, (.bipush 107, 3, 0, 0, 0), []), (3, (.aload_n 0, 4, 0, 0, 0), []), (4, (.getfield 20, 7, 11, 13, 0), [7095]), (7, (.bipush 106, 9, 0, 0, 0), []), (9, (.iaload, 10, 0, 0, 0), []), (10, (.iload_n 1, 11, 0, 0, 0), []), (11, (.invokevirtual 295, 14, 254, 3, 11), [8206, 8208, 70, 1014]), (14, (.ireturn, 15, 0, 0, 0), [])]]
-- PaintBankModel.inRow(III)I
noncomputable def md_L254 : List (List mm_Ln) := [[(0, (.iconst 0, 1, 0, 0, 0), []), (1, (.istore 4, 3, 0, 0, 0), []), (3, (.iload 4, 5, 0, 0, 0), []), (5, (.iload_n 2, 6, 0, 0, 0), []), (6, (.if_icmp .ge 25, 9, 31, 0, 0), []), (9, (.aload_n 0, 10, 0, 0, 0), []), (10, (.getfield 20, 13, 11, 13, 0), [7095]), (13, (.iload_n 1, 14, 0, 0, 0), []), (14, (.iload 4, 16, 0, 0, 0), [])],
  [(16, (.iadd, 17, 0, 0, 0), []), (17, (.iaload, 18, 0, 0, 0), []), (18, (.iload_n 3, 19, 0, 0, 0), []), (19, (.if_icmp .ne 6, 22, 25, 0, 0), []), (22, (.iload 4, 24, 0, 0, 0), []), (24, (.ireturn, 25, 0, 0, 0), []), (25, (.iinc 4 1, 28, 0, 0, 0), []), (28, (.goto (-25), 31, 3, 0, 0), []), (31, (.iconst (-1), 32, 0, 0, 0), [])],
  [(32, (.ireturn, 33, 0, 0, 0), [])]]
-- PaintBankModel.waiting()I
noncomputable def md_L255 : List (List mm_Ln) := [[(0, (.aload_n 0, 1, 0, 0, 0), []), (1, (.iconst 0, 2, 0, 0, 0), []), (2, (.putfield 90, 5, 11, 0, 0), [7082]), (5, (.aload_n 0, 6, 0, 0, 0), []), (6, (.getfield 20, 9, 11, 13, 0), [7095]), (9, (.iconst 2, 10, 0, 0, 0), []), (10, (.iaload, 11, 0, 0, 0), []), (11, (.aload_n 0, 12, 0, 0, 0), []), (12, (.getfield 20, 15, 11, 13, 0), [7095]), (15, (.bipush 73, 17, 0, 0, 0), [])],
  [(17, (.iaload, 18, 0, 0, 0), []), (18, (.isub, 19, 0, 0, 0), []), (19, (.ireturn, 20, 0, 0, 0), [])]]
-- PaintBankModel.laneLength(I)I
noncomputable def md_L256 : List (List mm_Ln) := [[(0, (.aload_n 0, 1, 0, 0, 0), []), (1, (.aload_n 0, 2, 0, 0, 0), []), (2, (.iload_n 1, 3, 0, 0, 0), []), (3, (.invokevirtual 283, 6, 242, 1, 11), [8159, 8161, 65, 1014]), (6, (.invokevirtual 100, 9, 206, 1, 11), [7239, 8001, 41, 1014]), (9, (.ifCond .eq 15, 12, 24, 0, 0), []), (12, (.aload_n 0, 13, 0, 0, 0), []), (13, (.getfield 20, 16, 11, 13, 0), [7095])],
  [(16, (.bipush 98, 18, 0, 0, 0), []), (18, (.iload_n 1, 19, 0, 0, 0), []), (19, (.iadd, 20, 0, 0, 0), []), (20, (.iaload, 21, 0, 0, 0), []), (21, (.goto 4, 24, 25, 0, 0), []), (24, (.iconst 0, 25, 0, 0, 0), []), (25, (.ireturn, 26, 0, 0, 0), [])]]
-- PaintBankModel.inLane(II)I
noncomputable def md_L257 : List (List mm_Ln) := [[(0, (.aload_n 0, 1, 0, 0, 0), []), (1, (.aload_n 0, 2, 0, 0, 0), []), (2, (.iload_n 1, 3, 0, 0, 0), []), (3, (.invokevirtual 283, 6, 242, 1, 11), [8159, 8161, 65, 1014]), (6, (.invokevirtual 100, 9, 206, 1, 11), [7239, 8001, 41, 1014]), (9, (.ifCond .ne 5, 12, 14, 0, 0), []), (12, (.iconst 0, 13, 0, 0, 0), []), (13, (.ireturn, 14, 0, 0, 0), []), (14, (.iload_n 2, 15, 0, 0, 0), []), (15, (.i2l, 16, 0, 0, 0), [])],
  [(16, (.lconst 0, 17, 0, 0, 0), []), (17, (.aload_n 0, 18, 0, 0, 0), []), (18, (.getfield 20, 21, 11, 13, 0), [7095]), (21, (.bipush 98, 23, 0, 0, 0), []), (23, (.iload_n 1, 24, 0, 0, 0), []), (24, (.iadd, 25, 0, 0, 0), []), (25, (.iaload, 26, 0, 0, 0), []), (26, (.iconst 1, 27, 0, 0, 0), []), (27, (.isub, 28, 0, 0, 0), []), (28, (.i2l, 29, 0, 0, 0), []), (29, (.invokestatic 108, 32, 210, 19, 0), [8014, 8015, 1014])],
  [(32, (.ifCond .eq 12, 35, 44, 0, 0), []), (35, (.aload_n 0, 36, 0, 0, 0), []), (36, (.iload_n 1, 37, 0, 0, 0), []), (37, (.iload_n 2, 38, 0, 0, 0), []), (38, (.invokevirtual 305, 41, 258, 2, 11), [8222, 8224, 71, 1014]), (41, (.goto 4, 44, 45, 0, 0), []), (44, (.iconst (-1), 45, 0, 0, 0), []), (45, (.ireturn, 46, 0, 0, 0), [])]]
-- PaintBankModel.carIn(II)I
noncomputable def md_L258 : List (List mm_Ln) := [[(0, (.aload_n 0, 1, 0, 0, 0), []), (1, (.getfield 20, 4, 11, 13, 0), [7095]), (4, (.bipush 74, 6, 0, 0, 0), []), (6, (.bipush 6, 8, 0, 0, 0), []), (8, (.iload_n 1, 9, 0, 0, 0), []), (9, (.imul, 10, 0, 0, 0), []), (10, (.iadd, 11, 0, 0, 0), []), (11, (.iload_n 2, 12, 0, 0, 0), []), (12, (.iadd, 13, 0, 0, 0), []), (13, (.iaload, 14, 0, 0, 0), []), (14, (.ireturn, 15, 0, 0, 0), [])]]
-- PaintBankModel.inRework(I)I
noncomputable def md_L259 : List (List mm_Ln) := [[(0, (.aload_n 0, 1, 0, 0, 0), []), (1, (.iconst 0, 2, 0, 0, 0), []), (2, (.putfield 90, 5, 11, 0, 0), [7082]), (5, (.iload_n 1, 6, 0, 0, 0), []), (6, (.i2l, 7, 0, 0, 0), []), (7, (.lconst 0, 8, 0, 0, 0), []), (8, (.aload_n 0, 9, 0, 0, 0), []), (9, (.getfield 20, 12, 11, 13, 0), [7095]), (12, (.bipush 102, 14, 0, 0, 0), []), (14, (.iaload, 15, 0, 0, 0), []), (15, (.iconst 1, 16, 0, 0, 0), [])],
  [(16, (.isub, 17, 0, 0, 0), []), (17, (.i2l, 18, 0, 0, 0), []), (18, (.invokestatic 108, 21, 210, 19, 0), [8014, 8015, 1014]), (21, (.ifCond .eq 15, 24, 36, 0, 0), []), (24, (.aload_n 0, 25, 0, 0, 0), []), (25, (.getfield 20, 28, 11, 13, 0), [7095]), (28, (.bipush 103, 30, 0, 0, 0), []), (30, (.iload_n 1, 31, 0, 0, 0), []), (31, (.iadd, 32, 0, 0, 0), [])],
  [(32, (.iaload, 33, 0, 0, 0), []), (33, (.goto 4, 36, 37, 0, 0), []), (36, (.iconst (-1), 37, 0, 0, 0), []), (37, (.ireturn, 38, 0, 0, 0), [])]]
-- PaintBankModel.readyIn()I
noncomputable def md_L260 : List (List mm_Ln) := [[(0, (.aload_n 0, 1, 0, 0, 0), []), (1, (.iconst 0, 2, 0, 0, 0), []), (2, (.putfield 90, 5, 11, 0, 0), [7082]), (5, (.aload_n 0, 6, 0, 0, 0), []), (6, (.getfield 20, 9, 11, 13, 0), [7095]), (9, (.bipush 102, 11, 0, 0, 0), []), (11, (.iaload, 12, 0, 0, 0), []), (12, (.ifCond .ne 7, 15, 19, 0, 0), []), (15, (.iconst (-1), 16, 0, 0, 0), [])],
  [(16, (.goto 30, 19, 46, 0, 0), []), (19, (.iconst 0, 20, 0, 0, 0), []), (20, (.aload_n 0, 21, 0, 0, 0), []), (21, (.getfield 20, 24, 11, 13, 0), [7095]), (24, (.bipush 55, 26, 0, 0, 0), []), (26, (.aload_n 0, 27, 0, 0, 0), []), (27, (.getfield 20, 30, 11, 13, 0), [7095]), (30, (.bipush 103, 32, 0, 0, 0), [])],
  [(32, (.iaload, 33, 0, 0, 0), []), (33, (.iadd, 34, 0, 0, 0), []), (34, (.iaload, 35, 0, 0, 0), []), (35, (.aload_n 0, 36, 0, 0, 0), []), (36, (.getfield 20, 39, 11, 13, 0), [7095]), (39, (.bipush 67, 41, 0, 0, 0), []), (41, (.iaload, 42, 0, 0, 0), []), (42, (.isub, 43, 0, 0, 0), []), (43, (.invokestatic 292, 46, 250, 18, 0), [8191, 8192, 1014]), (46, (.ireturn, 47, 0, 0, 0), [])]]
-- PaintBankModel.outCount()I
noncomputable def md_L261 : List (List mm_Ln) := [[(0, (.aload_n 0, 1, 0, 0, 0), []), (1, (.iconst 0, 2, 0, 0, 0), []), (2, (.putfield 90, 5, 11, 0, 0), [7082]), (5, (.aload_n 0, 6, 0, 0, 0), []), (6, (.getfield 20, 9, 11, 13, 0), [7095]), (9, (.bipush 106, 11, 0, 0, 0), []), (11, (.iaload, 12, 0, 0, 0), []), (12, (.ireturn, 13, 0, 0, 0), [])]]
-- PaintBankModel.out(I)I
noncomputable def md_L262 : List (List mm_Ln) := [[(0, (.aload_n 0, 1, 0, 0, 0), []), (1, (.iconst 0, 2, 0, 0, 0), []), (2, (.putfield 90, 5, 11, 0, 0), [7082]), (5, (.iload_n 1, 6, 0, 0, 0), []), (6, (.i2l, 7, 0, 0, 0), []), (7, (.lconst 0, 8, 0, 0, 0), []), (8, (.aload_n 0, 9, 0, 0, 0), []), (9, (.getfield 20, 12, 11, 13, 0), [7095]), (12, (.bipush 106, 14, 0, 0, 0), []), (14, (.iaload, 15, 0, 0, 0), []), (15, (.iconst 1, 16, 0, 0, 0), [])],
  [(16, (.isub, 17, 0, 0, 0), []), (17, (.i2l, 18, 0, 0, 0), []), (18, (.invokestatic 108, 21, 210, 19, 0), [8014, 8015, 1014]), (21, (.ifCond .eq 15, 24, 36, 0, 0), []), (24, (.aload_n 0, 25, 0, 0, 0), []), (25, (.getfield 20, 28, 11, 13, 0), [7095]), (28, (.bipush 107, 30, 0, 0, 0), []), (30, (.iload_n 1, 31, 0, 0, 0), []), (31, (.iadd, 32, 0, 0, 0), [])],
  [(32, (.iaload, 33, 0, 0, 0), []), (33, (.goto 4, 36, 37, 0, 0), []), (36, (.iconst (-1), 37, 0, 0, 0), []), (37, (.ireturn, 38, 0, 0, 0), [])]]
-- PaintBankModel.move(I)I
noncomputable def md_L263 : List (List mm_Ln) := [[(0, (.aload_n 0, 1, 0, 0, 0), []), (1, (.aload_n 0, 2, 0, 0, 0), []), (2, (.iload_n 1, 3, 0, 0, 0), []), (3, (.invokevirtual 286, 6, 244, 1, 11), [8167, 8169, 66, 1014]), (6, (.ifCond .ne 7, 9, 13, 0, 0), []), (9, (.iconst 1, 10, 0, 0, 0), []), (10, (.goto 22, 13, 32, 0, 0), []), (13, (.aload_n 0, 14, 0, 0, 0), []), (14, (.iload_n 1, 15, 0, 0, 0), []), (15, (.invokevirtual 299, 18, 253, 1, 11), [8202, 8204, 69, 1014])],
  [(18, (.iconst (-1), 19, 0, 0, 0), []), (19, (.if_icmp .ne 7, 22, 26, 0, 0), []), (22, (.iconst 1, 23, 0, 0, 0), []), (23, (.goto 4, 26, 27, 0, 0), []), (26, (.iconst 0, 27, 0, 0, 0), []), (27, (.invokestatic 93, 30, 207, 17, 0), [8003, 8004, 1014]), (30, (.iconst 2, 31, 0, 0, 0), []), (31, (.imul, 32, 0, 0, 0), [])],
  [(32, (.putfield 90, 35, 11, 0, 0), [7082]), (35, (.aload_n 0, 36, 0, 0, 0), []), (36, (.getfield 90, 39, 11, 0, 0), [7082]), (39, (.ifCond .le 7, 42, 46, 0, 0), []), (42, (.iconst 0, 43, 0, 0, 0), []), (43, (.goto 10, 46, 53, 0, 0), []), (46, (.aload_n 0, 47, 0, 0, 0), []), (47, (.iload_n 1, 48, 0, 0, 0), [])],
  [(48, (.invokevirtual 299, 51, 253, 1, 11), [8202, 8204, 69, 1014]), (51, (.iload_n 1, 52, 0, 0, 0), []), (52, (.isub, 53, 0, 0, 0), []), (53, (.ireturn, 54, 0, 0, 0), [])]]
-- PaintBankModel.late()I
noncomputable def md_L264 : List (List mm_Ln) := [[(0, (.aload_n 0, 1, 0, 0, 0), []), (1, (.iconst 0, 2, 0, 0, 0), []), (2, (.putfield 90, 5, 11, 0, 0), [7082]), (5, (.iconst 0, 6, 0, 0, 0), []), (6, (.istore_n 1, 7, 0, 0, 0), []), (7, (.iconst 0, 8, 0, 0, 0), []), (8, (.istore_n 2, 9, 0, 0, 0), []), (9, (.iload_n 2, 10, 0, 0, 0), []), (10, (.aload_n 0, 11, 0, 0, 0), []), (11, (.getfield 20, 14, 11, 13, 0), [7095]), (14, (.bipush 106, 16, 0, 0, 0), [])],
  [(16, (.iaload, 17, 0, 0, 0), []), (17, (.if_icmp .ge 40, 20, 57, 0, 0), []), (20, (.iload_n 1, 21, 0, 0, 0), []), (21, (.iload_n 2, 22, 0, 0, 0), []), (22, (.aload_n 0, 23, 0, 0, 0), []), (23, (.getfield 20, 26, 11, 13, 0), [7095]), (26, (.bipush 107, 28, 0, 0, 0), []), (28, (.iload_n 2, 29, 0, 0, 0), []), (29, (.iadd, 30, 0, 0, 0), []), (30, (.iaload, 31, 0, 0, 0), []), (31, (.isub, 32, 0, 0, 0), [])],
  [(32, (.aload_n 0, 33, 0, 0, 0), []), (33, (.getfield 20, 36, 11, 13, 0), [7095]), (36, (.iconst 4, 37, 0, 0, 0), []), (37, (.iaload, 38, 0, 0, 0), []), (38, (.if_icmp .le 7, 41, 45, 0, 0), []), (41, (.iconst 1, 42, 0, 0, 0), []), (42, (.goto 4, 45, 46, 0, 0), []), (45, (.iconst 0, 46, 0, 0, 0), []), (46, (.invokestatic 93, 49, 207, 17, 0), [8003, 8004, 1014])],
  [(49, (.iadd, 50, 0, 0, 0), []), (50, (.istore_n 1, 51, 0, 0, 0), []), (51, (.iinc 2 1, 54, 0, 0, 0), []), (54, (.goto (-45), 57, 9, 0, 0), []), (57, (.iload_n 1, 58, 0, 0, 0), []), (58, (.ireturn, 59, 0, 0, 0), [])]]
-- PaintBankModel.longestBatch()I
noncomputable def md_L265 : List (List mm_Ln) := [[(0, (.aload_n 0, 1, 0, 0, 0), []), (1, (.iconst 0, 2, 0, 0, 0), []), (2, (.putfield 90, 5, 11, 0, 0), [7082]), (5, (.iconst 0, 6, 0, 0, 0), []), (6, (.istore_n 1, 7, 0, 0, 0), []), (7, (.iconst 0, 8, 0, 0, 0), []), (8, (.istore_n 2, 9, 0, 0, 0), []), (9, (.iconst 0, 10, 0, 0, 0), []), (10, (.istore_n 3, 11, 0, 0, 0), []), (11, (.iload_n 3, 12, 0, 0, 0), []), (12, (.aload_n 0, 13, 0, 0, 0), []), (13, (.getfield 20, 16, 11, 13, 0), [7095])],
  [(16, (.bipush 106, 18, 0, 0, 0), []), (18, (.iaload, 19, 0, 0, 0), []), (19, (.if_icmp .ge 78, 22, 97, 0, 0), []), (22, (.iload_n 3, 23, 0, 0, 0), []), (23, (.ifCond .le 46, 26, 69, 0, 0), []), (26, (.aload_n 0, 27, 0, 0, 0), []), (27, (.getfield 20, 30, 11, 13, 0), [7095]), (30, (.bipush 31, 32, 0, 0, 0), [])],
  [(32, (.aload_n 0, 33, 0, 0, 0), []), (33, (.getfield 20, 36, 11, 13, 0), [7095]), (36, (.bipush 107, 38, 0, 0, 0), []), (38, (.iload_n 3, 39, 0, 0, 0), []), (39, (.iadd, 40, 0, 0, 0), []), (40, (.iaload, 41, 0, 0, 0), []), (41, (.iadd, 42, 0, 0, 0), []), (42, (.iaload, 43, 0, 0, 0), []), (43, (.aload_n 0, 44, 0, 0, 0), []), (44, (.getfield 20, 47, 11, 13, 0), [7095]), (47, (.bipush 31, 49, 0, 0, 0), [])],
  [(49, (.aload_n 0, 50, 0, 0, 0), []), (50, (.getfield 20, 53, 11, 13, 0), [7095]), (53, (.bipush 107, 55, 0, 0, 0), []), (55, (.iload_n 3, 56, 0, 0, 0), []), (56, (.iadd, 57, 0, 0, 0), []), (57, (.iconst 1, 58, 0, 0, 0), []), (58, (.isub, 59, 0, 0, 0), []), (59, (.iaload, 60, 0, 0, 0), []), (60, (.iadd, 61, 0, 0, 0), []), (61, (.iaload, 62, 0, 0, 0), []), (62, (.if_icmp .ne 7, 65, 69, 0, 0), [])],
  [(65, (.iconst 1, 66, 0, 0, 0), []), (66, (.goto 4, 69, 70, 0, 0), []), (69, (.iconst 0, 70, 0, 0, 0), []), (70, (.istore 4, 72, 0, 0, 0), []), (72, (.iload 4, 74, 0, 0, 0), []), (74, (.ifCond .eq 9, 77, 83, 0, 0), []), (77, (.iload_n 2, 78, 0, 0, 0), []), (78, (.iconst 1, 79, 0, 0, 0), []), (79, (.iadd, 80, 0, 0, 0), [])],
  [(80, (.goto 4, 83, 84, 0, 0), []), (83, (.iconst 1, 84, 0, 0, 0), []), (84, (.istore_n 2, 85, 0, 0, 0), []), (85, (.iload_n 1, 86, 0, 0, 0), []), (86, (.iload_n 2, 87, 0, 0, 0), []), (87, (.invokestatic 292, 90, 250, 18, 0), [8191, 8192, 1014]), (90, (.istore_n 1, 91, 0, 0, 0), []), (91, (.iinc 3 1, 94, 0, 0, 0), []), (94, (.goto (-83), 97, 11, 0, 0), [])],
  [(97, (.iload_n 1, 98, 0, 0, 0), []), (98, (.ireturn, 99, 0, 0, 0), [])]]
-- PaintBankModel.canLeave(I)Z
noncomputable def md_L266 : List (List mm_Ln) := [[(0, (.aload_n 0, 1, 0, 0, 0), []), (1, (.aload_n 0, 2, 0, 0, 0), []), (2, (.iload_n 1, 3, 0, 0, 0), []), (3, (.invokevirtual 283, 6, 242, 1, 11), [8159, 8161, 65, 1014]), (6, (.invokevirtual 100, 9, 206, 1, 11), [7239, 8001, 41, 1014]), (9, (.ifCond .eq 15, 12, 24, 0, 0), []), (12, (.aload_n 0, 13, 0, 0, 0), []), (13, (.iload_n 1, 14, 0, 0, 0), []), (14, (.invokevirtual 308, 17, 267, 1, 11), [9018, 9020, 72, 1014])],
  [(17, (.ifCond .eq 7, 20, 24, 0, 0), []), (20, (.iconst 1, 21, 0, 0, 0), []), (21, (.goto 4, 24, 25, 0, 0), []), (24, (.iconst 0, 25, 0, 0, 0), []), (25, (.ireturn, 26, 0, 0, 0), [])]]
-- PaintBankModel.mayLeave(I)Z
noncomputable def md_L267 : List (List mm_Ln) := [[(0, (.aload_n 0, 1, 0, 0, 0), []), (1, (.getfield 20, 4, 11, 13, 0), [7095]), (4, (.bipush 98, 6, 0, 0, 0), []), (6, (.iload_n 1, 7, 0, 0, 0), []), (7, (.iadd, 8, 0, 0, 0), []), (8, (.iaload, 9, 0, 0, 0), []), (9, (.ifCond .eq 16, 12, 25, 0, 0), []), (12, (.aload_n 0, 13, 0, 0, 0), []), (13, (.getfield 20, 16, 11, 13, 0), [7095])],
  [(16, (.bipush 67, 18, 0, 0, 0), []), (18, (.iaload, 19, 0, 0, 0), []), (19, (.sipush 9999, 22, 0, 0, 0), []), (22, (.if_icmp .ne 5, 25, 27, 0, 0), []), (25, (.iconst 0, 26, 0, 0, 0), []), (26, (.ireturn, 27, 0, 0, 0), []), (27, (.aload_n 0, 28, 0, 0, 0), []), (28, (.iload_n 1, 29, 0, 0, 0), []), (29, (.iconst 0, 30, 0, 0, 0), []), (30, (.invokevirtual 305, 33, 258, 2, 11), [8222, 8224, 71, 1014])],
  [(33, (.istore_n 2, 34, 0, 0, 0), []), (34, (.aload_n 0, 35, 0, 0, 0), []), (35, (.getfield 20, 38, 11, 13, 0), [7095]), (38, (.bipush 43, 40, 0, 0, 0), []), (40, (.iload_n 2, 41, 0, 0, 0), []), (41, (.iadd, 42, 0, 0, 0), []), (42, (.iaload, 43, 0, 0, 0), []), (43, (.ifCond .le 28, 46, 71, 0, 0), []), (46, (.aload_n 0, 47, 0, 0, 0), []), (47, (.getfield 20, 50, 11, 13, 0), [7095])],
  [(50, (.bipush 102, 52, 0, 0, 0), []), (52, (.iaload, 53, 0, 0, 0), []), (53, (.aload_n 0, 54, 0, 0, 0), []), (54, (.getfield 20, 57, 11, 13, 0), [7095]), (57, (.bipush 7, 59, 0, 0, 0), []), (59, (.iaload, 60, 0, 0, 0), []), (60, (.if_icmp .ge 7, 63, 67, 0, 0), []), (63, (.iconst 1, 64, 0, 0, 0), [])],
  [(64, (.goto 30, 67, 94, 0, 0), []), (67, (.iconst 0, 68, 0, 0, 0), []), (68, (.goto 26, 71, 94, 0, 0), []), (71, (.iload_n 2, 72, 0, 0, 0), []), (72, (.aload_n 0, 73, 0, 0, 0), []), (73, (.getfield 20, 76, 11, 13, 0), [7095]), (76, (.bipush 106, 78, 0, 0, 0), []), (78, (.iaload, 79, 0, 0, 0), []), (79, (.isub, 80, 0, 0, 0), [])],
  [(80, (.aload_n 0, 81, 0, 0, 0), []), (81, (.getfield 20, 84, 11, 13, 0), [7095]), (84, (.iconst 3, 85, 0, 0, 0), []), (85, (.iaload, 86, 0, 0, 0), []), (86, (.if_icmp .gt 7, 89, 93, 0, 0), []), (89, (.iconst 1, 90, 0, 0, 0), []), (90, (.goto 4, 93, 94, 0, 0), []), (93, (.iconst 0, 94, 0, 0, 0), []), (94, (.ireturn, 95, 0, 0, 0), [])]]
-- PaintBankModel.hose()I
noncomputable def md_L268 : List (List mm_Ln) := [[(0, (.aload_n 0, 1, 0, 0, 0), []), (1, (.bipush 68, 3, 0, 0, 0), []), (3, (.invokevirtual 311, 6, 269, 1, 11), [9026, 9028, 73, 1014]), (6, (.ireturn, 7, 0, 0, 0), [])]]
-- PaintBankModel.told(I)I
noncomputable def md_L269 : List (List mm_Ln) := [[(0, (.aload_n 0, 1, 0, 0, 0), []), (1, (.iconst 0, 2, 0, 0, 0), []), (2, (.putfield 90, 5, 11, 0, 0), [7082]), (5, (.aload_n 0, 6, 0, 0, 0), []), (6, (.getfield 20, 9, 11, 13, 0), [7095]), (9, (.iload_n 1, 10, 0, 0, 0), []), (10, (.iaload, 11, 0, 0, 0), []), (11, (.ireturn, 12, 0, 0, 0), [])]]
-- PaintBankModel.run()I
noncomputable def md_L270 : List (List mm_Ln) := [[(0, (.aload_n 0, 1, 0, 0, 0), []), (1, (.bipush 69, 3, 0, 0, 0), []), (3, (.invokevirtual 311, 6, 269, 1, 11), [9026, 9028, 73, 1014]), (6, (.ireturn, 7, 0, 0, 0), [])]]
-- PaintBankModel.time()I
noncomputable def md_L271 : List (List mm_Ln) := [[(0, (.aload_n 0, 1, 0, 0, 0), []), (1, (.bipush 67, 3, 0, 0, 0), []), (3, (.invokevirtual 311, 6, 269, 1, 11), [9026, 9028, 73, 1014]), (6, (.ireturn, 7, 0, 0, 0), [])]]
-- PaintBankModel.changes()I
noncomputable def md_L272 : List (List mm_Ln) := [[(0, (.aload_n 0, 1, 0, 0, 0), []), (1, (.bipush 70, 3, 0, 0, 0), []), (3, (.invokevirtual 311, 6, 269, 1, 11), [9026, 9028, 73, 1014]), (6, (.ireturn, 7, 0, 0, 0), [])]]
-- PaintBankModel.purges()I
noncomputable def md_L273 : List (List mm_Ln) := [[(0, (.aload_n 0, 1, 0, 0, 0), []), (1, (.bipush 71, 3, 0, 0, 0), []), (3, (.invokevirtual 311, 6, 269, 1, 11), [9026, 9028, 73, 1014]), (6, (.ireturn, 7, 0, 0, 0), [])]]
-- PaintBankModel.cost()I
noncomputable def md_L274 : List (List mm_Ln) := [[(0, (.aload_n 0, 1, 0, 0, 0), []), (1, (.bipush 72, 3, 0, 0, 0), []), (3, (.invokevirtual 311, 6, 269, 1, 11), [9026, 9028, 73, 1014]), (6, (.ireturn, 7, 0, 0, 0), [])]]
-- PaintBankModel.enter(I)I
noncomputable def md_L275 : List (List mm_Ln) := [[(0, (.aload_n 0, 1, 0, 0, 0), []), (1, (.aload_n 0, 2, 0, 0, 0), []), (2, (.iload_n 1, 3, 0, 0, 0), []), (3, (.invokevirtual 283, 6, 242, 1, 11), [8159, 8161, 65, 1014]), (6, (.invokevirtual 100, 9, 206, 1, 11), [7239, 8001, 41, 1014]), (9, (.ifCond .ne 5, 12, 14, 0, 0), []), (12, (.iconst 0, 13, 0, 0, 0), []), (13, (.ireturn, 14, 0, 0, 0), []), (14, (.aload_n 0, 15, 0, 0, 0), []), (15, (.iload_n 1, 16, 0, 0, 0), [])],
  [(16, (.invokevirtual 322, 19, 276, 1, 11), [9054, 9056, 74, 1014]), (19, (.ifCond .ne 5, 22, 24, 0, 0), []), (22, (.iconst (-1), 23, 0, 0, 0), []), (23, (.ireturn, 24, 0, 0, 0), []), (24, (.aload_n 0, 25, 0, 0, 0), []), (25, (.invokevirtual 325, 28, 278, 0, 11), [9062, 9064, 76, 1014]), (28, (.aload_n 0, 29, 0, 0, 0), []), (29, (.iload_n 1, 30, 0, 0, 0), []), (30, (.invokevirtual 328, 33, 279, 1, 11), [9066, 9068, 77, 1014])],
  [(33, (.ireturn, 34, 0, 0, 0), [])]]
-- PaintBankModel.mayEnter(I)Z
noncomputable def md_L276 : List (List mm_Ln) := [[(0, (.aload_n 0, 1, 0, 0, 0), []), (1, (.getfield 20, 4, 11, 13, 0), [7095]), (4, (.bipush 73, 6, 0, 0, 0), []), (6, (.iaload, 7, 0, 0, 0), []), (7, (.aload_n 0, 8, 0, 0, 0), []), (8, (.getfield 20, 11, 11, 13, 0), [7095]), (11, (.iconst 2, 12, 0, 0, 0), []), (12, (.iaload, 13, 0, 0, 0), []), (13, (.if_icmp .ge 15, 16, 28, 0, 0), [])],
  [(16, (.aload_n 0, 17, 0, 0, 0), []), (17, (.iload_n 1, 18, 0, 0, 0), []), (18, (.invokevirtual 313, 21, 277, 1, 11), [9058, 9060, 75, 1014]), (21, (.ifCond .eq 7, 24, 28, 0, 0), []), (24, (.iconst 1, 25, 0, 0, 0), []), (25, (.goto 4, 28, 29, 0, 0), []), (28, (.iconst 0, 29, 0, 0, 0), []), (29, (.ireturn, 30, 0, 0, 0), [])]]
-- PaintBankModel.hasRoom(I)Z
noncomputable def md_L277 : List (List mm_Ln) := [[(0, (.aload_n 0, 1, 0, 0, 0), []), (1, (.getfield 20, 4, 11, 13, 0), [7095]), (4, (.bipush 98, 6, 0, 0, 0), []), (6, (.iload_n 1, 7, 0, 0, 0), []), (7, (.iadd, 8, 0, 0, 0), []), (8, (.iaload, 9, 0, 0, 0), []), (9, (.aload_n 0, 10, 0, 0, 0), []), (10, (.getfield 20, 13, 11, 13, 0), [7095]), (13, (.bipush 15, 15, 0, 0, 0), []), (15, (.iload_n 1, 16, 0, 0, 0), [])],
  [(16, (.iadd, 17, 0, 0, 0), []), (17, (.iaload, 18, 0, 0, 0), []), (18, (.if_icmp .ge 7, 21, 25, 0, 0), []), (21, (.iconst 1, 22, 0, 0, 0), []), (22, (.goto 4, 25, 26, 0, 0), []), (25, (.iconst 0, 26, 0, 0, 0), []), (26, (.ireturn, 27, 0, 0, 0), [])]]
-- PaintBankModel.keeps()V
noncomputable def md_L278 : List (List mm_Ln) := [[(0, (.aload_n 0, 1, 0, 0, 0), []), (1, (.getfield 278, 4, 11, 22, 0), [7104]), (4, (.bipush 6, 6, 0, 0, 0), []), (6, (.if_icmp .ne 49, 9, 55, 0, 0), []), (9, (.aload_n 0, 10, 0, 0, 0), []), (10, (.dup, 11, 0, 0, 0), []), (11, (.getfield 278, 14, 11, 22, 0), [7104]), (14, (.iconst 1, 15, 0, 0, 0), []), (15, (.isub, 16, 0, 0, 0), [])],
  [(16, (.putfield 278, 19, 11, 22, 0), [7104]), (19, (.iconst 0, 20, 0, 0, 0), []), (20, (.istore_n 1, 21, 0, 0, 0), []), (21, (.iload_n 1, 22, 0, 0, 0), []), (22, (.sipush 200, 25, 0, 0, 0), []), (25, (.aload_n 0, 26, 0, 0, 0), []), (26, (.getfield 278, 29, 11, 22, 0), [7104]), (29, (.imul, 30, 0, 0, 0), []), (30, (.if_icmp .ge 25, 33, 55, 0, 0), [])],
  [(33, (.aload_n 0, 34, 0, 0, 0), []), (34, (.getfield 32, 37, 11, 17, 0), [7099]), (37, (.iload_n 1, 38, 0, 0, 0), []), (38, (.aload_n 0, 39, 0, 0, 0), []), (39, (.getfield 32, 42, 11, 17, 0), [7099]), (42, (.iload_n 1, 43, 0, 0, 0), []), (43, (.sipush 200, 46, 0, 0, 0), []), (46, (.iadd, 47, 0, 0, 0), []), (47, (.iaload, 48, 0, 0, 0), [])],
  [(48, (.iastore, 49, 0, 0, 0), []), (49, (.iinc 1 1, 52, 0, 0, 0), []), (52, (.goto (-31), 55, 21, 0, 0), []), (55, (.iconst 0, 56, 0, 0, 0), []), (56, (.istore_n 1, 57, 0, 0, 0), []), (57, (.iload_n 1, 58, 0, 0, 0), []), (58, (.sipush 200, 61, 0, 0, 0), []), (61, (.if_icmp .ge 30, 64, 91, 0, 0), [])],
  [(64, (.aload_n 0, 65, 0, 0, 0), []), (65, (.getfield 32, 68, 11, 17, 0), [7099]), (68, (.sipush 200, 71, 0, 0, 0), []), (71, (.aload_n 0, 72, 0, 0, 0), []), (72, (.getfield 278, 75, 11, 22, 0), [7104]), (75, (.imul, 76, 0, 0, 0), []), (76, (.iload_n 1, 77, 0, 0, 0), []), (77, (.iadd, 78, 0, 0, 0), []), (78, (.aload_n 0, 79, 0, 0, 0), []), (79, (.getfield 20, 82, 11, 13, 0), [7095])],
  [(82, (.iload_n 1, 83, 0, 0, 0), []), (83, (.iaload, 84, 0, 0, 0), []), (84, (.iastore, 85, 0, 0, 0), []), (85, (.iinc 1 1, 88, 0, 0, 0), []), (88, (.goto (-31), 91, 57, 0, 0), []), (91, (.aload_n 0, 92, 0, 0, 0), []), (92, (.dup, 93, 0, 0, 0), []), (93, (.getfield 278, 96, 11, 22, 0), [7104])],
  [(96, (.iconst 1, 97, 0, 0, 0), []), (97, (.iadd, 98, 0, 0, 0), []), (98, (.putfield 278, 101, 11, 22, 0), [7104]), (101, (.return_, 102, 0, 0, 0), [])]]
-- PaintBankModel.enters(I)I
noncomputable def md_L279 : List (List mm_Ln) := [[(0, (.aload_n 0, 1, 0, 0, 0), []), (1, (.getfield 20, 4, 11, 13, 0), [7095]), (4, (.bipush 73, 6, 0, 0, 0), []), (6, (.iaload, 7, 0, 0, 0), []), (7, (.istore_n 2, 8, 0, 0, 0), []), (8, (.aload_n 0, 9, 0, 0, 0), []), (9, (.iload_n 1, 10, 0, 0, 0), []), (10, (.iload_n 2, 11, 0, 0, 0), []), (11, (.invokevirtual 316, 14, 280, 2, 11), [9070, 9072, 78, 1014]), (14, (.aload_n 0, 15, 0, 0, 0), []), (15, (.getfield 20, 18, 11, 13, 0), [7095])],
  [(18, (.bipush 73, 20, 0, 0, 0), []), (20, (.dup2, 21, 0, 0, 0), []), (21, (.iaload, 22, 0, 0, 0), []), (22, (.iconst 1, 23, 0, 0, 0), []), (23, (.iadd, 24, 0, 0, 0), []), (24, (.iastore, 25, 0, 0, 0), []), (25, (.iload_n 2, 26, 0, 0, 0), []), (26, (.ireturn, 27, 0, 0, 0), [])]]
-- PaintBankModel.comes(II)V
noncomputable def md_L280 : List (List mm_Ln) := [[(0, (.aload_n 0, 1, 0, 0, 0), []), (1, (.getfield 20, 4, 11, 13, 0), [7095]), (4, (.bipush 74, 6, 0, 0, 0), []), (6, (.bipush 6, 8, 0, 0, 0), []), (8, (.iload_n 1, 9, 0, 0, 0), []), (9, (.imul, 10, 0, 0, 0), []), (10, (.iadd, 11, 0, 0, 0), []), (11, (.aload_n 0, 12, 0, 0, 0), []), (12, (.getfield 20, 15, 11, 13, 0), [7095]), (15, (.bipush 98, 17, 0, 0, 0), [])],
  [(17, (.iload_n 1, 18, 0, 0, 0), []), (18, (.iadd, 19, 0, 0, 0), []), (19, (.iaload, 20, 0, 0, 0), []), (20, (.iadd, 21, 0, 0, 0), []), (21, (.iload_n 2, 22, 0, 0, 0), []), (22, (.iastore, 23, 0, 0, 0), []), (23, (.aload_n 0, 24, 0, 0, 0), []), (24, (.getfield 20, 27, 11, 13, 0), [7095]), (27, (.bipush 98, 29, 0, 0, 0), []), (29, (.iload_n 1, 30, 0, 0, 0), []), (30, (.iadd, 31, 0, 0, 0), []), (31, (.dup2, 32, 0, 0, 0), [])],
  [(32, (.iaload, 33, 0, 0, 0), []), (33, (.iconst 1, 34, 0, 0, 0), []), (34, (.iadd, 35, 0, 0, 0), []), (35, (.iastore, 36, 0, 0, 0), []), (36, (.return_, 37, 0, 0, 0), [])]]
-- PaintBankModel.leave(I)I
noncomputable def md_L281 : List (List mm_Ln) := [[(0, (.aload_n 0, 1, 0, 0, 0), []), (1, (.aload_n 0, 2, 0, 0, 0), []), (2, (.iload_n 1, 3, 0, 0, 0), []), (3, (.invokevirtual 283, 6, 242, 1, 11), [8159, 8161, 65, 1014]), (6, (.invokevirtual 100, 9, 206, 1, 11), [7239, 8001, 41, 1014]), (9, (.ifCond .ne 5, 12, 14, 0, 0), []), (12, (.iconst 0, 13, 0, 0, 0), []), (13, (.ireturn, 14, 0, 0, 0), []), (14, (.aload_n 0, 15, 0, 0, 0), []), (15, (.iload_n 1, 16, 0, 0, 0), [])],
  [(16, (.invokevirtual 308, 19, 267, 1, 11), [9018, 9020, 72, 1014]), (19, (.ifCond .ne 5, 22, 24, 0, 0), []), (22, (.iconst (-1), 23, 0, 0, 0), []), (23, (.ireturn, 24, 0, 0, 0), []), (24, (.aload_n 0, 25, 0, 0, 0), []), (25, (.invokevirtual 325, 28, 278, 0, 11), [9062, 9064, 76, 1014]), (28, (.aload_n 0, 29, 0, 0, 0), []), (29, (.iload_n 1, 30, 0, 0, 0), []), (30, (.invokevirtual 331, 33, 282, 1, 11), [9078, 9080, 79, 1014])],
  [(33, (.ireturn, 34, 0, 0, 0), [])]]
-- PaintBankModel.leaves(I)I
noncomputable def md_L282 : List (List mm_Ln) := [[(0, (.aload_n 0, 1, 0, 0, 0), []), (1, (.iload_n 1, 2, 0, 0, 0), []), (2, (.iconst 0, 3, 0, 0, 0), []), (3, (.invokevirtual 305, 6, 258, 2, 11), [8222, 8224, 71, 1014]), (6, (.istore_n 2, 7, 0, 0, 0), []), (7, (.aload_n 0, 8, 0, 0, 0), []), (8, (.getfield 20, 11, 11, 13, 0), [7095]), (11, (.bipush 98, 13, 0, 0, 0), []), (13, (.iload_n 1, 14, 0, 0, 0), []), (14, (.iadd, 15, 0, 0, 0), []), (15, (.dup2, 16, 0, 0, 0), [])],
  [(16, (.iaload, 17, 0, 0, 0), []), (17, (.iconst 1, 18, 0, 0, 0), []), (18, (.isub, 19, 0, 0, 0), []), (19, (.iastore, 20, 0, 0, 0), []), (20, (.iconst 0, 21, 0, 0, 0), []), (21, (.istore_n 3, 22, 0, 0, 0), []), (22, (.iload_n 3, 23, 0, 0, 0), []), (23, (.aload_n 0, 24, 0, 0, 0), []), (24, (.getfield 20, 27, 11, 13, 0), [7095]), (27, (.bipush 98, 29, 0, 0, 0), []), (29, (.iload_n 1, 30, 0, 0, 0), []), (30, (.iadd, 31, 0, 0, 0), []), (31, (.iaload, 32, 0, 0, 0), [])],
  [(32, (.if_icmp .ge 39, 35, 71, 0, 0), []), (35, (.aload_n 0, 36, 0, 0, 0), []), (36, (.getfield 20, 39, 11, 13, 0), [7095]), (39, (.bipush 74, 41, 0, 0, 0), []), (41, (.bipush 6, 43, 0, 0, 0), []), (43, (.iload_n 1, 44, 0, 0, 0), []), (44, (.imul, 45, 0, 0, 0), []), (45, (.iadd, 46, 0, 0, 0), []), (46, (.iload_n 3, 47, 0, 0, 0), []), (47, (.iadd, 48, 0, 0, 0), [])],
  [(48, (.aload_n 0, 49, 0, 0, 0), []), (49, (.getfield 20, 52, 11, 13, 0), [7095]), (52, (.bipush 74, 54, 0, 0, 0), []), (54, (.bipush 6, 56, 0, 0, 0), []), (56, (.iload_n 1, 57, 0, 0, 0), []), (57, (.imul, 58, 0, 0, 0), []), (58, (.iadd, 59, 0, 0, 0), []), (59, (.iload_n 3, 60, 0, 0, 0), []), (60, (.iadd, 61, 0, 0, 0), []), (61, (.iconst 1, 62, 0, 0, 0), []), (62, (.iadd, 63, 0, 0, 0), []), (63, (.iaload, 64, 0, 0, 0), [])],
  [(64, (.iastore, 65, 0, 0, 0), []), (65, (.iinc 3 1, 68, 0, 0, 0), []), (68, (.goto (-46), 71, 22, 0, 0), []), (71, (.aload_n 0, 72, 0, 0, 0), []), (72, (.iload_n 2, 73, 0, 0, 0), []), (73, (.invokevirtual 319, 76, 283, 1, 11), [9082, 9084, 80, 1014]), (76, (.aload_n 0, 77, 0, 0, 0), []), (77, (.getfield 20, 80, 11, 13, 0), [7095])],
  [(80, (.bipush 43, 82, 0, 0, 0), []), (82, (.iload_n 2, 83, 0, 0, 0), []), (83, (.iadd, 84, 0, 0, 0), []), (84, (.iaload, 85, 0, 0, 0), []), (85, (.ifCond .ne 32, 88, 117, 0, 0), []), (88, (.aload_n 0, 89, 0, 0, 0), []), (89, (.getfield 20, 92, 11, 13, 0), [7095]), (92, (.bipush 107, 94, 0, 0, 0), []), (94, (.aload_n 0, 95, 0, 0, 0), []), (95, (.getfield 20, 98, 11, 13, 0), [7095])],
  [(98, (.bipush 106, 100, 0, 0, 0), []), (100, (.iaload, 101, 0, 0, 0), []), (101, (.iadd, 102, 0, 0, 0), []), (102, (.iload_n 2, 103, 0, 0, 0), []), (103, (.iastore, 104, 0, 0, 0), []), (104, (.aload_n 0, 105, 0, 0, 0), []), (105, (.getfield 20, 108, 11, 13, 0), [7095]), (108, (.bipush 106, 110, 0, 0, 0), []), (110, (.dup2, 111, 0, 0, 0), []), (111, (.iaload, 112, 0, 0, 0), [])],
  [(112, (.iconst 1, 113, 0, 0, 0), []), (113, (.iadd, 114, 0, 0, 0), []), (114, (.iastore, 115, 0, 0, 0), []), (115, (.iload_n 2, 116, 0, 0, 0), []), (116, (.ireturn, 117, 0, 0, 0), []), (117, (.aload_n 0, 118, 0, 0, 0), []), (118, (.getfield 20, 121, 11, 13, 0), [7095]), (121, (.bipush 43, 123, 0, 0, 0), []), (123, (.iload_n 2, 124, 0, 0, 0), []), (124, (.iadd, 125, 0, 0, 0), []), (125, (.dup2, 126, 0, 0, 0), []), (126, (.iaload, 127, 0, 0, 0), []), (127, (.iconst 1, 128, 0, 0, 0), [])],
  [(128, (.isub, 129, 0, 0, 0), []), (129, (.iastore, 130, 0, 0, 0), []), (130, (.aload_n 0, 131, 0, 0, 0), []), (131, (.getfield 20, 134, 11, 13, 0), [7095]), (134, (.bipush 55, 136, 0, 0, 0), []), (136, (.iload_n 2, 137, 0, 0, 0), []), (137, (.iadd, 138, 0, 0, 0), []), (138, (.aload_n 0, 139, 0, 0, 0), []), (139, (.getfield 20, 142, 11, 13, 0), [7095]), (142, (.bipush 67, 144, 0, 0, 0), [])],
  [(144, (.iaload, 145, 0, 0, 0), []), (145, (.aload_n 0, 146, 0, 0, 0), []), (146, (.getfield 20, 149, 11, 13, 0), [7095]), (149, (.bipush 8, 151, 0, 0, 0), []), (151, (.iaload, 152, 0, 0, 0), []), (152, (.iadd, 153, 0, 0, 0), []), (153, (.iastore, 154, 0, 0, 0), []), (154, (.aload_n 0, 155, 0, 0, 0), []), (155, (.getfield 20, 158, 11, 13, 0), [7095]), (158, (.bipush 103, 160, 0, 0, 0), [])],
  [(160, (.aload_n 0, 161, 0, 0, 0), []), (161, (.getfield 20, 164, 11, 13, 0), [7095]), (164, (.bipush 102, 166, 0, 0, 0), []), (166, (.iaload, 167, 0, 0, 0), []), (167, (.iadd, 168, 0, 0, 0), []), (168, (.iload_n 2, 169, 0, 0, 0), []), (169, (.iastore, 170, 0, 0, 0), []), (170, (.aload_n 0, 171, 0, 0, 0), []), (171, (.getfield 20, 174, 11, 13, 0), [7095]), (174, (.bipush 102, 176, 0, 0, 0), [])],
  [(176, (.dup2, 177, 0, 0, 0), []), (177, (.iaload, 178, 0, 0, 0), []), (178, (.iconst 1, 179, 0, 0, 0), []), (179, (.iadd, 180, 0, 0, 0), []), (180, (.iastore, 181, 0, 0, 0), []), (181, (.iload_n 2, 182, 0, 0, 0), []), (182, (.ireturn, 183, 0, 0, 0), [])]]
-- PaintBankModel.paints(I)V
noncomputable def md_L283 : List (List mm_Ln) := [[(0, (.aload_n 0, 1, 0, 0, 0), []), (1, (.getfield 20, 4, 11, 13, 0), [7095]), (4, (.bipush 31, 6, 0, 0, 0), []), (6, (.iload_n 1, 7, 0, 0, 0), []), (7, (.iadd, 8, 0, 0, 0), []), (8, (.iaload, 9, 0, 0, 0), []), (9, (.istore_n 2, 10, 0, 0, 0), []), (10, (.aload_n 0, 11, 0, 0, 0), []), (11, (.getfield 20, 14, 11, 13, 0), [7095]), (14, (.bipush 68, 16, 0, 0, 0), [])],
  [(16, (.iaload, 17, 0, 0, 0), []), (17, (.iconst (-1), 18, 0, 0, 0), []), (18, (.if_icmp .eq 18, 21, 36, 0, 0), []), (21, (.aload_n 0, 22, 0, 0, 0), []), (22, (.getfield 20, 25, 11, 13, 0), [7095]), (25, (.bipush 68, 27, 0, 0, 0), []), (27, (.iaload, 28, 0, 0, 0), []), (28, (.iload_n 2, 29, 0, 0, 0), []), (29, (.if_icmp .eq 7, 32, 36, 0, 0), [])],
  [(32, (.iconst 1, 33, 0, 0, 0), []), (33, (.goto 4, 36, 37, 0, 0), []), (36, (.iconst 0, 37, 0, 0, 0), []), (37, (.istore_n 3, 38, 0, 0, 0), []), (38, (.aload_n 0, 39, 0, 0, 0), []), (39, (.getfield 20, 42, 11, 13, 0), [7095]), (42, (.bipush 68, 44, 0, 0, 0), []), (44, (.iaload, 45, 0, 0, 0), []), (45, (.iload_n 2, 46, 0, 0, 0), []), (46, (.if_icmp .ne 23, 49, 69, 0, 0), [])],
  [(49, (.aload_n 0, 50, 0, 0, 0), []), (50, (.getfield 20, 53, 11, 13, 0), [7095]), (53, (.bipush 69, 55, 0, 0, 0), []), (55, (.iaload, 56, 0, 0, 0), []), (56, (.aload_n 0, 57, 0, 0, 0), []), (57, (.getfield 20, 60, 11, 13, 0), [7095]), (60, (.iconst 5, 61, 0, 0, 0), []), (61, (.iaload, 62, 0, 0, 0), []), (62, (.if_icmp .ne 7, 65, 69, 0, 0), [])],
  [(65, (.iconst 1, 66, 0, 0, 0), []), (66, (.goto 4, 69, 70, 0, 0), []), (69, (.iconst 0, 70, 0, 0, 0), []), (70, (.istore 4, 72, 0, 0, 0), []), (72, (.iload_n 3, 73, 0, 0, 0), []), (73, (.ifCond .eq 15, 76, 88, 0, 0), []), (76, (.aload_n 0, 77, 0, 0, 0), []), (77, (.getfield 20, 80, 11, 13, 0), [7095])],
  [(80, (.bipush 10, 82, 0, 0, 0), []), (82, (.iload_n 2, 83, 0, 0, 0), []), (83, (.iadd, 84, 0, 0, 0), []), (84, (.iaload, 85, 0, 0, 0), []), (85, (.goto 19, 88, 104, 0, 0), []), (88, (.iload 4, 90, 0, 0, 0), []), (90, (.ifCond .eq 13, 93, 103, 0, 0), []), (93, (.aload_n 0, 94, 0, 0, 0), []), (94, (.getfield 20, 97, 11, 13, 0), [7095])],
  [(97, (.bipush 6, 99, 0, 0, 0), []), (99, (.iaload, 100, 0, 0, 0), []), (100, (.goto 4, 103, 104, 0, 0), []), (103, (.iconst 0, 104, 0, 0, 0), []), (104, (.istore 5, 106, 0, 0, 0), []), (106, (.aload_n 0, 107, 0, 0, 0), []), (107, (.getfield 20, 110, 11, 13, 0), [7095]), (110, (.bipush 69, 112, 0, 0, 0), [])],
  [(112, (.aload_n 0, 113, 0, 0, 0), []), (113, (.getfield 20, 116, 11, 13, 0), [7095]), (116, (.bipush 68, 118, 0, 0, 0), []), (118, (.iaload, 119, 0, 0, 0), []), (119, (.iload_n 2, 120, 0, 0, 0), []), (120, (.if_icmp .ne 20, 123, 140, 0, 0), []), (123, (.iload 4, 125, 0, 0, 0), []), (125, (.ifCond .ne 15, 128, 140, 0, 0), [])],
  [(128, (.aload_n 0, 129, 0, 0, 0), []), (129, (.getfield 20, 132, 11, 13, 0), [7095]), (132, (.bipush 69, 134, 0, 0, 0), []), (134, (.iaload, 135, 0, 0, 0), []), (135, (.iconst 1, 136, 0, 0, 0), []), (136, (.iadd, 137, 0, 0, 0), []), (137, (.goto 4, 140, 141, 0, 0), []), (140, (.iconst 1, 141, 0, 0, 0), []), (141, (.iastore, 142, 0, 0, 0), []), (142, (.aload_n 0, 143, 0, 0, 0), []), (143, (.getfield 20, 146, 11, 13, 0), [7095])],
  [(146, (.bipush 68, 148, 0, 0, 0), []), (148, (.iload_n 2, 149, 0, 0, 0), []), (149, (.iastore, 150, 0, 0, 0), []), (150, (.aload_n 0, 151, 0, 0, 0), []), (151, (.getfield 20, 154, 11, 13, 0), [7095]), (154, (.bipush 70, 156, 0, 0, 0), []), (156, (.dup2, 157, 0, 0, 0), []), (157, (.iaload, 158, 0, 0, 0), []), (158, (.iload_n 3, 159, 0, 0, 0), []), (159, (.invokestatic 93, 162, 207, 17, 0), [8003, 8004, 1014])],
  [(162, (.iadd, 163, 0, 0, 0), []), (163, (.iastore, 164, 0, 0, 0), []), (164, (.aload_n 0, 165, 0, 0, 0), []), (165, (.getfield 20, 168, 11, 13, 0), [7095]), (168, (.bipush 71, 170, 0, 0, 0), []), (170, (.dup2, 171, 0, 0, 0), []), (171, (.iaload, 172, 0, 0, 0), []), (172, (.iload 4, 174, 0, 0, 0), []), (174, (.invokestatic 93, 177, 207, 17, 0), [8003, 8004, 1014])],
  [(177, (.iadd, 178, 0, 0, 0), []), (178, (.iastore, 179, 0, 0, 0), []), (179, (.aload_n 0, 180, 0, 0, 0), []), (180, (.getfield 20, 183, 11, 13, 0), [7095]), (183, (.bipush 72, 185, 0, 0, 0), []), (185, (.dup2, 186, 0, 0, 0), []), (186, (.iaload, 187, 0, 0, 0), []), (187, (.iload 5, 189, 0, 0, 0), []), (189, (.iadd, 190, 0, 0, 0), []), (190, (.iastore, 191, 0, 0, 0), []), (191, (.aload_n 0, 192, 0, 0, 0), [])],
  [(192, (.getfield 20, 195, 11, 13, 0), [7095]), (195, (.bipush 67, 197, 0, 0, 0), []), (197, (.dup2, 198, 0, 0, 0), []), (198, (.iaload, 199, 0, 0, 0), []), (199, (.iconst 1, 200, 0, 0, 0), []), (200, (.iadd, 201, 0, 0, 0), []), (201, (.iastore, 202, 0, 0, 0), []), (202, (.bipush 120, 204, 0, 0, 0), []), (204, (.iconst 4, 205, 0, 0, 0), []), (205, (.aload_n 0, 206, 0, 0, 0), []), (206, (.getfield 20, 209, 11, 13, 0), [7095])],
  [(209, (.bipush 119, 211, 0, 0, 0), []), (211, (.iaload, 212, 0, 0, 0), []), (212, (.bipush 20, 214, 0, 0, 0), []), (214, (.irem, 215, 0, 0, 0), []), (215, (.imul, 216, 0, 0, 0), []), (216, (.iadd, 217, 0, 0, 0), []), (217, (.istore 6, 219, 0, 0, 0), []), (219, (.aload_n 0, 220, 0, 0, 0), []), (220, (.getfield 20, 223, 11, 13, 0), [7095]), (223, (.iload 6, 225, 0, 0, 0), [])],
  [(225, (.iload_n 1, 226, 0, 0, 0), []), (226, (.iastore, 227, 0, 0, 0), []), (227, (.aload_n 0, 228, 0, 0, 0), []), (228, (.getfield 20, 231, 11, 13, 0), [7095]), (231, (.iload 6, 233, 0, 0, 0), []), (233, (.iconst 1, 234, 0, 0, 0), []), (234, (.iadd, 235, 0, 0, 0), []), (235, (.iload_n 2, 236, 0, 0, 0), []), (236, (.iastore, 237, 0, 0, 0), []), (237, (.aload_n 0, 238, 0, 0, 0), []), (238, (.getfield 20, 241, 11, 13, 0), [7095])],
  [(241, (.iload 6, 243, 0, 0, 0), []), (243, (.iconst 2, 244, 0, 0, 0), []), (244, (.iadd, 245, 0, 0, 0), []), (245, (.iload 5, 247, 0, 0, 0), []), (247, (.iastore, 248, 0, 0, 0), []), (248, (.aload_n 0, 249, 0, 0, 0), []), (249, (.getfield 20, 252, 11, 13, 0), [7095]), (252, (.iload 6, 254, 0, 0, 0), []), (254, (.iconst 3, 255, 0, 0, 0), []), (255, (.iadd, 256, 0, 0, 0), [])],
  [(256, (.iload_n 3, 257, 0, 0, 0), []), (257, (.invokestatic 93, 260, 207, 17, 0), [8003, 8004, 1014]), (260, (.iload 4, 262, 0, 0, 0), []), (262, (.invokestatic 93, 265, 207, 17, 0), [8003, 8004, 1014]), (265, (.iconst 1, 266, 0, 0, 0), []), (266, (.ishl, 267, 0, 0, 0), []), (267, (.ior, 268, 0, 0, 0), []), (268, (.aload_n 0, 269, 0, 0, 0), []), (269, (.getfield 20, 272, 11, 13, 0), [7095])],
  [(272, (.bipush 43, 274, 0, 0, 0), []), (274, (.iload_n 1, 275, 0, 0, 0), []), (275, (.iadd, 276, 0, 0, 0), []), (276, (.iaload, 277, 0, 0, 0), []), (277, (.ifCond .le 7, 280, 284, 0, 0), []), (280, (.iconst 1, 281, 0, 0, 0), []), (281, (.goto 4, 284, 285, 0, 0), []), (284, (.iconst 0, 285, 0, 0, 0), []), (285, (.invokestatic 93, 288, 207, 17, 0), [8003, 8004, 1014])],
  [(288, (.iconst 2, 289, 0, 0, 0), []), (289, (.ishl, 290, 0, 0, 0), []), (290, (.ior, 291, 0, 0, 0), []), (291, (.iastore, 292, 0, 0, 0), []), (292, (.aload_n 0, 293, 0, 0, 0), []), (293, (.getfield 20, 296, 11, 13, 0), [7095]), (296, (.bipush 119, 298, 0, 0, 0), []), (298, (.dup2, 299, 0, 0, 0), []), (299, (.iaload, 300, 0, 0, 0), []), (300, (.iconst 1, 301, 0, 0, 0), []), (301, (.iadd, 302, 0, 0, 0), []), (302, (.iastore, 303, 0, 0, 0), []), (303, (.return_, 304, 0, 0, 0), [])]]
-- PaintBankModel.back(I)I
noncomputable def md_L284 : List (List mm_Ln) := [[(0, (.aload_n 0, 1, 0, 0, 0), []), (1, (.aload_n 0, 2, 0, 0, 0), []), (2, (.iload_n 1, 3, 0, 0, 0), []), (3, (.invokevirtual 283, 6, 242, 1, 11), [8159, 8161, 65, 1014]), (6, (.invokevirtual 100, 9, 206, 1, 11), [7239, 8001, 41, 1014]), (9, (.ifCond .ne 5, 12, 14, 0, 0), []), (12, (.iconst 0, 13, 0, 0, 0), []), (13, (.ireturn, 14, 0, 0, 0), []), (14, (.aload_n 0, 15, 0, 0, 0), []), (15, (.invokevirtual 334, 18, 285, 0, 11), [9090, 9092, 81, 1014])],
  [(18, (.ifCond .eq 11, 21, 29, 0, 0), []), (21, (.aload_n 0, 22, 0, 0, 0), []), (22, (.iload_n 1, 23, 0, 0, 0), []), (23, (.invokevirtual 313, 26, 277, 1, 11), [9058, 9060, 75, 1014]), (26, (.ifCond .ne 5, 29, 31, 0, 0), []), (29, (.iconst (-1), 30, 0, 0, 0), []), (30, (.ireturn, 31, 0, 0, 0), []), (31, (.aload_n 0, 32, 0, 0, 0), [])],
  [(32, (.invokevirtual 325, 35, 278, 0, 11), [9062, 9064, 76, 1014]), (35, (.aload_n 0, 36, 0, 0, 0), []), (36, (.iload_n 1, 37, 0, 0, 0), []), (37, (.invokevirtual 337, 40, 286, 1, 11), [9094, 9096, 82, 1014]), (40, (.ireturn, 41, 0, 0, 0), [])]]
-- PaintBankModel.isReady()Z
noncomputable def md_L285 : List (List mm_Ln) := [[(0, (.aload_n 0, 1, 0, 0, 0), []), (1, (.getfield 20, 4, 11, 13, 0), [7095]), (4, (.bipush 102, 6, 0, 0, 0), []), (6, (.iaload, 7, 0, 0, 0), []), (7, (.ifCond .le 32, 10, 39, 0, 0), []), (10, (.aload_n 0, 11, 0, 0, 0), []), (11, (.getfield 20, 14, 11, 13, 0), [7095]), (14, (.bipush 67, 16, 0, 0, 0), [])],
  [(16, (.iaload, 17, 0, 0, 0), []), (17, (.aload_n 0, 18, 0, 0, 0), []), (18, (.getfield 20, 21, 11, 13, 0), [7095]), (21, (.bipush 55, 23, 0, 0, 0), []), (23, (.aload_n 0, 24, 0, 0, 0), []), (24, (.getfield 20, 27, 11, 13, 0), [7095]), (27, (.bipush 103, 29, 0, 0, 0), []), (29, (.iaload, 30, 0, 0, 0), []), (30, (.iadd, 31, 0, 0, 0), []), (31, (.iaload, 32, 0, 0, 0), [])],
  [(32, (.if_icmp .lt 7, 35, 39, 0, 0), []), (35, (.iconst 1, 36, 0, 0, 0), []), (36, (.goto 4, 39, 40, 0, 0), []), (39, (.iconst 0, 40, 0, 0, 0), []), (40, (.ireturn, 41, 0, 0, 0), [])]]
-- PaintBankModel.comesBack(I)I
noncomputable def md_L286 : List (List mm_Ln) := [[(0, (.aload_n 0, 1, 0, 0, 0), []), (1, (.getfield 20, 4, 11, 13, 0), [7095]), (4, (.bipush 103, 6, 0, 0, 0), []), (6, (.iaload, 7, 0, 0, 0), []), (7, (.istore_n 2, 8, 0, 0, 0), []), (8, (.aload_n 0, 9, 0, 0, 0), []), (9, (.getfield 20, 12, 11, 13, 0), [7095]), (12, (.bipush 102, 14, 0, 0, 0), []), (14, (.dup2, 15, 0, 0, 0), []), (15, (.iaload, 16, 0, 0, 0), [])],
  [(16, (.iconst 1, 17, 0, 0, 0), []), (17, (.isub, 18, 0, 0, 0), []), (18, (.iastore, 19, 0, 0, 0), []), (19, (.iconst 0, 20, 0, 0, 0), []), (20, (.istore_n 3, 21, 0, 0, 0), []), (21, (.iload_n 3, 22, 0, 0, 0), []), (22, (.aload_n 0, 23, 0, 0, 0), []), (23, (.getfield 20, 26, 11, 13, 0), [7095]), (26, (.bipush 102, 28, 0, 0, 0), []), (28, (.iaload, 29, 0, 0, 0), []), (29, (.if_icmp .ge 29, 32, 58, 0, 0), [])],
  [(32, (.aload_n 0, 33, 0, 0, 0), []), (33, (.getfield 20, 36, 11, 13, 0), [7095]), (36, (.bipush 103, 38, 0, 0, 0), []), (38, (.iload_n 3, 39, 0, 0, 0), []), (39, (.iadd, 40, 0, 0, 0), []), (40, (.aload_n 0, 41, 0, 0, 0), []), (41, (.getfield 20, 44, 11, 13, 0), [7095]), (44, (.bipush 103, 46, 0, 0, 0), []), (46, (.iload_n 3, 47, 0, 0, 0), []), (47, (.iadd, 48, 0, 0, 0), [])],
  [(48, (.iconst 1, 49, 0, 0, 0), []), (49, (.iadd, 50, 0, 0, 0), []), (50, (.iaload, 51, 0, 0, 0), []), (51, (.iastore, 52, 0, 0, 0), []), (52, (.iinc 3 1, 55, 0, 0, 0), []), (55, (.goto (-34), 58, 21, 0, 0), []), (58, (.aload_n 0, 59, 0, 0, 0), []), (59, (.iload_n 1, 60, 0, 0, 0), []), (60, (.iload_n 2, 61, 0, 0, 0), []), (61, (.invokevirtual 316, 64, 280, 2, 11), [9070, 9072, 78, 1014])],
  [(64, (.iload_n 2, 65, 0, 0, 0), []), (65, (.ireturn, 66, 0, 0, 0), [])]]
-- PaintBankModel.waits()I
noncomputable def md_L287 : List (List mm_Ln) := [[(0, (.aload_n 0, 1, 0, 0, 0), []), (1, (.iconst 0, 2, 0, 0, 0), []), (2, (.putfield 90, 5, 11, 0, 0), [7082]), (5, (.aload_n 0, 6, 0, 0, 0), []), (6, (.getfield 20, 9, 11, 13, 0), [7095]), (9, (.bipush 67, 11, 0, 0, 0), []), (11, (.iaload, 12, 0, 0, 0), []), (12, (.sipush 9999, 15, 0, 0, 0), []), (15, (.if_icmp .ne 5, 18, 20, 0, 0), [])],
  [(18, (.iconst (-1), 19, 0, 0, 0), []), (19, (.ireturn, 20, 0, 0, 0), []), (20, (.aload_n 0, 21, 0, 0, 0), []), (21, (.invokevirtual 325, 24, 278, 0, 11), [9062, 9064, 76, 1014]), (24, (.aload_n 0, 25, 0, 0, 0), []), (25, (.getfield 20, 28, 11, 13, 0), [7095]), (28, (.bipush 67, 30, 0, 0, 0), []), (30, (.dup2, 31, 0, 0, 0), []), (31, (.iaload, 32, 0, 0, 0), [])],
  [(32, (.iconst 1, 33, 0, 0, 0), []), (33, (.iadd, 34, 0, 0, 0), []), (34, (.iastore, 35, 0, 0, 0), []), (35, (.aload_n 0, 36, 0, 0, 0), []), (36, (.getfield 20, 39, 11, 13, 0), [7095]), (39, (.bipush 67, 41, 0, 0, 0), []), (41, (.iaload, 42, 0, 0, 0), []), (42, (.ireturn, 43, 0, 0, 0), [])]]
-- PaintBankModel.step()I
noncomputable def md_L288 : List (List mm_Ln) := [[(0, (.aload_n 0, 1, 0, 0, 0), []), (1, (.iconst 0, 2, 0, 0, 0), []), (2, (.putfield 90, 5, 11, 0, 0), [7082]), (5, (.aload_n 0, 6, 0, 0, 0), []), (6, (.invokevirtual 346, 9, 289, 0, 11), [9106, 9108, 83, 1014]), (9, (.iconst (-1), 10, 0, 0, 0), []), (10, (.if_icmp .ne 5, 13, 15, 0, 0), []), (13, (.iconst (-1), 14, 0, 0, 0), []), (14, (.ireturn, 15, 0, 0, 0), []), (15, (.aload_n 0, 16, 0, 0, 0), [])],
  [(16, (.invokevirtual 325, 19, 278, 0, 11), [9062, 9064, 76, 1014]), (19, (.aload_n 0, 20, 0, 0, 0), []), (20, (.invokevirtual 352, 23, 292, 0, 11), [9118, 9120, 86, 1014]), (23, (.ireturn, 24, 0, 0, 0), [])]]
-- PaintBankModel.nextStep()I
noncomputable def md_L289 : List (List mm_Ln) := [[(0, (.aload_n 0, 1, 0, 0, 0), []), (1, (.invokevirtual 334, 4, 285, 0, 11), [9090, 9092, 81, 1014]), (4, (.ifCond .eq 20, 7, 24, 0, 0), []), (7, (.aload_n 0, 8, 0, 0, 0), []), (8, (.aload_n 0, 9, 0, 0, 0), []), (9, (.getfield 20, 12, 11, 13, 0), [7095]), (12, (.bipush 103, 14, 0, 0, 0), []), (14, (.iaload, 15, 0, 0, 0), []), (15, (.invokevirtual 340, 18, 290, 1, 11), [9110, 9112, 84, 1014])],
  [(18, (.iconst (-1), 19, 0, 0, 0), []), (19, (.if_icmp .eq 5, 22, 24, 0, 0), []), (22, (.iconst 0, 23, 0, 0, 0), []), (23, (.ireturn, 24, 0, 0, 0), []), (24, (.aload_n 0, 25, 0, 0, 0), []), (25, (.getfield 20, 28, 11, 13, 0), [7095]), (28, (.bipush 73, 30, 0, 0, 0), []), (30, (.iaload, 31, 0, 0, 0), []), (31, (.aload_n 0, 32, 0, 0, 0), [])],
  [(32, (.getfield 20, 35, 11, 13, 0), [7095]), (35, (.iconst 2, 36, 0, 0, 0), []), (36, (.iaload, 37, 0, 0, 0), []), (37, (.if_icmp .ge 20, 40, 57, 0, 0), []), (40, (.aload_n 0, 41, 0, 0, 0), []), (41, (.aload_n 0, 42, 0, 0, 0), []), (42, (.getfield 20, 45, 11, 13, 0), [7095]), (45, (.bipush 73, 47, 0, 0, 0), []), (47, (.iaload, 48, 0, 0, 0), [])],
  [(48, (.invokevirtual 340, 51, 290, 1, 11), [9110, 9112, 84, 1014]), (51, (.iconst (-1), 52, 0, 0, 0), []), (52, (.if_icmp .eq 5, 55, 57, 0, 0), []), (55, (.iconst 1, 56, 0, 0, 0), []), (56, (.ireturn, 57, 0, 0, 0), []), (57, (.aload_n 0, 58, 0, 0, 0), []), (58, (.invokevirtual 343, 61, 291, 0, 11), [9114, 9116, 85, 1014]), (61, (.iconst (-1), 62, 0, 0, 0), []), (62, (.if_icmp .eq 5, 65, 67, 0, 0), [])],
  [(65, (.iconst 2, 66, 0, 0, 0), []), (66, (.ireturn, 67, 0, 0, 0), []), (67, (.aload_n 0, 68, 0, 0, 0), []), (68, (.getfield 20, 71, 11, 13, 0), [7095]), (71, (.bipush 102, 73, 0, 0, 0), []), (73, (.iaload, 74, 0, 0, 0), []), (74, (.ifCond .le 20, 77, 94, 0, 0), []), (77, (.aload_n 0, 78, 0, 0, 0), []), (78, (.getfield 20, 81, 11, 13, 0), [7095])],
  [(81, (.bipush 67, 83, 0, 0, 0), []), (83, (.iaload, 84, 0, 0, 0), []), (84, (.sipush 9999, 87, 0, 0, 0), []), (87, (.if_icmp .ge 7, 90, 94, 0, 0), []), (90, (.iconst 3, 91, 0, 0, 0), []), (91, (.goto 4, 94, 95, 0, 0), []), (94, (.iconst (-1), 95, 0, 0, 0), []), (95, (.ireturn, 96, 0, 0, 0), [])]]
-- PaintBankModel.chosenFor(I)I
noncomputable def md_L290 : List (List mm_Ln) := [[(0, (.iconst (-1), 1, 0, 0, 0), []), (1, (.istore_n 2, 2, 0, 0, 0), []), (2, (.iconst 0, 3, 0, 0, 0), []), (3, (.istore_n 3, 4, 0, 0, 0), []), (4, (.iload_n 3, 5, 0, 0, 0), []), (5, (.aload_n 0, 6, 0, 0, 0), []), (6, (.getfield 20, 9, 11, 13, 0), [7095]), (9, (.iconst 1, 10, 0, 0, 0), []), (10, (.iaload, 11, 0, 0, 0), []), (11, (.if_icmp .ge 88, 14, 99, 0, 0), []), (14, (.aload_n 0, 15, 0, 0, 0), []), (15, (.iload_n 3, 16, 0, 0, 0), [])],
  [(16, (.invokevirtual 313, 19, 277, 1, 11), [9058, 9060, 75, 1014]), (19, (.ifCond .ne 6, 22, 25, 0, 0), []), (22, (.goto 71, 25, 93, 0, 0), []), (25, (.aload_n 0, 26, 0, 0, 0), []), (26, (.getfield 20, 29, 11, 13, 0), [7095]), (29, (.bipush 98, 31, 0, 0, 0), []), (31, (.iload_n 3, 32, 0, 0, 0), [])],
  [(32, (.iadd, 33, 0, 0, 0), []), (33, (.iaload, 34, 0, 0, 0), []), (34, (.istore 4, 36, 0, 0, 0), []), (36, (.iload 4, 38, 0, 0, 0), []), (38, (.ifCond .le 34, 41, 72, 0, 0), []), (41, (.aload_n 0, 42, 0, 0, 0), []), (42, (.getfield 20, 45, 11, 13, 0), [7095]), (45, (.bipush 31, 47, 0, 0, 0), []), (47, (.aload_n 0, 48, 0, 0, 0), [])],
  [(48, (.iload_n 3, 49, 0, 0, 0), []), (49, (.iload 4, 51, 0, 0, 0), []), (51, (.iconst 1, 52, 0, 0, 0), []), (52, (.isub, 53, 0, 0, 0), []), (53, (.invokevirtual 305, 56, 258, 2, 11), [8222, 8224, 71, 1014]), (56, (.iadd, 57, 0, 0, 0), []), (57, (.iaload, 58, 0, 0, 0), []), (58, (.aload_n 0, 59, 0, 0, 0), []), (59, (.getfield 20, 62, 11, 13, 0), [7095]), (62, (.bipush 31, 64, 0, 0, 0), [])],
  [(64, (.iload_n 1, 65, 0, 0, 0), []), (65, (.iadd, 66, 0, 0, 0), []), (66, (.iaload, 67, 0, 0, 0), []), (67, (.if_icmp .ne 5, 70, 72, 0, 0), []), (70, (.iload_n 3, 71, 0, 0, 0), []), (71, (.ireturn, 72, 0, 0, 0), []), (72, (.iload_n 2, 73, 0, 0, 0), []), (73, (.iconst (-1), 74, 0, 0, 0), []), (74, (.if_icmp .eq 17, 77, 91, 0, 0), []), (77, (.iload 4, 79, 0, 0, 0), []), (79, (.aload_n 0, 80, 0, 0, 0), [])],
  [(80, (.getfield 20, 83, 11, 13, 0), [7095]), (83, (.bipush 98, 85, 0, 0, 0), []), (85, (.iload_n 2, 86, 0, 0, 0), []), (86, (.iadd, 87, 0, 0, 0), []), (87, (.iaload, 88, 0, 0, 0), []), (88, (.if_icmp .ge 5, 91, 93, 0, 0), []), (91, (.iload_n 3, 92, 0, 0, 0), []), (92, (.istore_n 2, 93, 0, 0, 0), []), (93, (.iinc 3 1, 96, 0, 0, 0), [])],
  [(96, (.goto (-92), 99, 4, 0, 0), []), (99, (.iload_n 2, 100, 0, 0, 0), []), (100, (.ireturn, 101, 0, 0, 0), [])]]
-- PaintBankModel.chosenToLeave()I
noncomputable def md_L291 : List (List mm_Ln) := [[(0, (.iconst (-1), 1, 0, 0, 0), []), (1, (.istore_n 1, 2, 0, 0, 0), []), (2, (.iconst 0, 3, 0, 0, 0), []), (3, (.istore_n 2, 4, 0, 0, 0), []), (4, (.iload_n 2, 5, 0, 0, 0), []), (5, (.aload_n 0, 6, 0, 0, 0), []), (6, (.getfield 20, 9, 11, 13, 0), [7095]), (9, (.iconst 1, 10, 0, 0, 0), []), (10, (.iaload, 11, 0, 0, 0), []), (11, (.if_icmp .ge 68, 14, 79, 0, 0), []), (14, (.aload_n 0, 15, 0, 0, 0), []), (15, (.iload_n 2, 16, 0, 0, 0), [])],
  [(16, (.invokevirtual 308, 19, 267, 1, 11), [9018, 9020, 72, 1014]), (19, (.ifCond .ne 6, 22, 25, 0, 0), []), (22, (.goto 51, 25, 73, 0, 0), []), (25, (.aload_n 0, 26, 0, 0, 0), []), (26, (.getfield 20, 29, 11, 13, 0), [7095]), (29, (.bipush 31, 31, 0, 0, 0), []), (31, (.aload_n 0, 32, 0, 0, 0), [])],
  [(32, (.iload_n 2, 33, 0, 0, 0), []), (33, (.iconst 0, 34, 0, 0, 0), []), (34, (.invokevirtual 305, 37, 258, 2, 11), [8222, 8224, 71, 1014]), (37, (.iadd, 38, 0, 0, 0), []), (38, (.iaload, 39, 0, 0, 0), []), (39, (.aload_n 0, 40, 0, 0, 0), []), (40, (.getfield 20, 43, 11, 13, 0), [7095]), (43, (.bipush 68, 45, 0, 0, 0), []), (45, (.iaload, 46, 0, 0, 0), []), (46, (.if_icmp .ne 5, 49, 51, 0, 0), [])],
  [(49, (.iload_n 2, 50, 0, 0, 0), []), (50, (.ireturn, 51, 0, 0, 0), []), (51, (.iload_n 1, 52, 0, 0, 0), []), (52, (.iconst (-1), 53, 0, 0, 0), []), (53, (.if_icmp .eq 18, 56, 71, 0, 0), []), (56, (.aload_n 0, 57, 0, 0, 0), []), (57, (.iload_n 2, 58, 0, 0, 0), []), (58, (.iconst 0, 59, 0, 0, 0), []), (59, (.invokevirtual 305, 62, 258, 2, 11), [8222, 8224, 71, 1014]), (62, (.aload_n 0, 63, 0, 0, 0), []), (63, (.iload_n 1, 64, 0, 0, 0), [])],
  [(64, (.iconst 0, 65, 0, 0, 0), []), (65, (.invokevirtual 305, 68, 258, 2, 11), [8222, 8224, 71, 1014]), (68, (.if_icmp .ge 5, 71, 73, 0, 0), []), (71, (.iload_n 2, 72, 0, 0, 0), []), (72, (.istore_n 1, 73, 0, 0, 0), []), (73, (.iinc 2 1, 76, 0, 0, 0), []), (76, (.goto (-72), 79, 4, 0, 0), []), (79, (.iload_n 1, 80, 0, 0, 0), [])],
  [(80, (.ireturn, 81, 0, 0, 0), [])]]
-- PaintBankModel.steps()I
noncomputable def md_L292 : List (List mm_Ln) := [[(0, (.aload_n 0, 1, 0, 0, 0), []), (1, (.invokevirtual 346, 4, 289, 0, 11), [9106, 9108, 83, 1014]), (4, (.istore_n 1, 5, 0, 0, 0), []), (5, (.iload_n 1, 6, 0, 0, 0), []), (6, (.ifCond .ne 22, 9, 28, 0, 0), []), (9, (.aload_n 0, 10, 0, 0, 0), []), (10, (.aload_n 0, 11, 0, 0, 0), []), (11, (.aload_n 0, 12, 0, 0, 0), []), (12, (.aload_n 0, 13, 0, 0, 0), []), (13, (.getfield 20, 16, 11, 13, 0), [7095])],
  [(16, (.bipush 103, 18, 0, 0, 0), []), (18, (.iaload, 19, 0, 0, 0), []), (19, (.invokevirtual 340, 22, 290, 1, 11), [9110, 9112, 84, 1014]), (22, (.invokevirtual 337, 25, 286, 1, 11), [9094, 9096, 82, 1014]), (25, (.putfield 349, 28, 11, 28, 0), [7110]), (28, (.iload_n 1, 29, 0, 0, 0), []), (29, (.iconst 1, 30, 0, 0, 0), []), (30, (.if_icmp .ne 22, 33, 52, 0, 0), [])],
  [(33, (.aload_n 0, 34, 0, 0, 0), []), (34, (.aload_n 0, 35, 0, 0, 0), []), (35, (.aload_n 0, 36, 0, 0, 0), []), (36, (.aload_n 0, 37, 0, 0, 0), []), (37, (.getfield 20, 40, 11, 13, 0), [7095]), (40, (.bipush 73, 42, 0, 0, 0), []), (42, (.iaload, 43, 0, 0, 0), []), (43, (.invokevirtual 340, 46, 290, 1, 11), [9110, 9112, 84, 1014]), (46, (.invokevirtual 328, 49, 279, 1, 11), [9066, 9068, 77, 1014])],
  [(49, (.putfield 349, 52, 11, 28, 0), [7110]), (52, (.iload_n 1, 53, 0, 0, 0), []), (53, (.iconst 2, 54, 0, 0, 0), []), (54, (.if_icmp .ne 15, 57, 69, 0, 0), []), (57, (.aload_n 0, 58, 0, 0, 0), []), (58, (.aload_n 0, 59, 0, 0, 0), []), (59, (.aload_n 0, 60, 0, 0, 0), []), (60, (.invokevirtual 343, 63, 291, 0, 11), [9114, 9116, 85, 1014]), (63, (.invokevirtual 331, 66, 282, 1, 11), [9078, 9080, 79, 1014])],
  [(66, (.putfield 349, 69, 11, 28, 0), [7110]), (69, (.iload_n 1, 70, 0, 0, 0), []), (70, (.iconst 3, 71, 0, 0, 0), []), (71, (.if_icmp .ne 14, 74, 85, 0, 0), []), (74, (.aload_n 0, 75, 0, 0, 0), []), (75, (.getfield 20, 78, 11, 13, 0), [7095]), (78, (.bipush 67, 80, 0, 0, 0), [])],
  [(80, (.dup2, 81, 0, 0, 0), []), (81, (.iaload, 82, 0, 0, 0), []), (82, (.iconst 1, 83, 0, 0, 0), []), (83, (.iadd, 84, 0, 0, 0), []), (84, (.iastore, 85, 0, 0, 0), []), (85, (.iload_n 1, 86, 0, 0, 0), []), (86, (.ireturn, 87, 0, 0, 0), [])]]
-- PaintBankModel.ruleCost(I)I
noncomputable def md_L293 : List (List mm_Ln) := [[(0, (.aload_n 0, 1, 0, 0, 0), []), (1, (.iload_n 1, 2, 0, 0, 0), []), (2, (.i2l, 3, 0, 0, 0), []), (3, (.lconst 0, 4, 0, 0, 0), []), (4, (.ldc2_w 355, 7, 300, 0, 0), [9126]), (7, (.invokestatic 108, 10, 210, 19, 0), [8014, 8015, 1014]), (10, (.invokevirtual 100, 13, 206, 1, 11), [7239, 8001, 41, 1014]), (13, (.ifCond .eq 13, 16, 26, 0, 0), [])],
  [(16, (.aload_n 0, 17, 0, 0, 0), []), (17, (.iload_n 1, 18, 0, 0, 0), []), (18, (.bipush 72, 20, 0, 0, 0), []), (20, (.invokevirtual 357, 23, 294, 2, 11), [9127, 9129, 87, 1014]), (23, (.goto 4, 26, 27, 0, 0), []), (26, (.iconst 0, 27, 0, 0, 0), []), (27, (.ireturn, 28, 0, 0, 0), [])]]
-- PaintBankModel.foretold(II)I
noncomputable def md_L294 : List (List mm_Ln) := [[(0, (.aload_n 0, 1, 0, 0, 0), []), (1, (.getfield 20, 4, 11, 13, 0), [7095]), (4, (.aload_n 0, 5, 0, 0, 0), []), (5, (.getfield 26, 8, 11, 15, 0), [7097]), (8, (.invokestatic 274, 11, 238, 18, 0), [8143, 8144, 1014]), (11, (.iconst 0, 12, 0, 0, 0), []), (12, (.istore_n 3, 13, 0, 0, 0), []), (13, (.iload_n 3, 14, 0, 0, 0), []), (14, (.iload_n 1, 15, 0, 0, 0), []), (15, (.if_icmp .ge 17, 18, 32, 0, 0), [])],
  [(18, (.aload_n 0, 19, 0, 0, 0), []), (19, (.invokevirtual 352, 22, 292, 0, 11), [9118, 9120, 86, 1014]), (22, (.iconst (-1), 23, 0, 0, 0), []), (23, (.if_icmp .eq 9, 26, 32, 0, 0), []), (26, (.iinc 3 1, 29, 0, 0, 0), []), (29, (.goto (-16), 32, 13, 0, 0), [])],
  [(32, (.aload_n 0, 33, 0, 0, 0), []), (33, (.getfield 20, 36, 11, 13, 0), [7095]), (36, (.iload_n 2, 37, 0, 0, 0), []), (37, (.iaload, 38, 0, 0, 0), []), (38, (.istore 4, 40, 0, 0, 0), []), (40, (.aload_n 0, 41, 0, 0, 0), []), (41, (.getfield 26, 44, 11, 15, 0), [7097]), (44, (.aload_n 0, 45, 0, 0, 0), []), (45, (.getfield 20, 48, 11, 13, 0), [7095])],
  [(48, (.invokestatic 274, 51, 238, 18, 0), [8143, 8144, 1014]), (51, (.iload 4, 53, 0, 0, 0), []), (53, (.ireturn, 54, 0, 0, 0), [])]]
-- PaintBankModel.ruleOut(I)I
noncomputable def md_L295 : List (List mm_Ln) := [[(0, (.aload_n 0, 1, 0, 0, 0), []), (1, (.iload_n 1, 2, 0, 0, 0), []), (2, (.i2l, 3, 0, 0, 0), []), (3, (.lconst 0, 4, 0, 0, 0), []), (4, (.ldc2_w 355, 7, 300, 0, 0), [9126]), (7, (.invokestatic 108, 10, 210, 19, 0), [8014, 8015, 1014]), (10, (.invokevirtual 100, 13, 206, 1, 11), [7239, 8001, 41, 1014]), (13, (.ifCond .eq 13, 16, 26, 0, 0), [])],
  [(16, (.aload_n 0, 17, 0, 0, 0), []), (17, (.iload_n 1, 18, 0, 0, 0), []), (18, (.bipush 106, 20, 0, 0, 0), []), (20, (.invokevirtual 357, 23, 294, 2, 11), [9127, 9129, 87, 1014]), (23, (.goto 4, 26, 27, 0, 0), []), (26, (.iconst 0, 27, 0, 0, 0), []), (27, (.ireturn, 28, 0, 0, 0), [])]]
-- PaintBankModel.stepsToOut(I)I
noncomputable def md_L296 : List (List mm_Ln) := [[(0, (.aload_n 0, 1, 0, 0, 0), []), (1, (.aload_n 0, 2, 0, 0, 0), []), (2, (.iload_n 1, 3, 0, 0, 0), []), (3, (.invokevirtual 286, 6, 244, 1, 11), [8167, 8169, 66, 1014]), (6, (.invokevirtual 100, 9, 206, 1, 11), [7239, 8001, 41, 1014]), (9, (.ifCond .ne 5, 12, 14, 0, 0), []), (12, (.iconst 0, 13, 0, 0, 0), []), (13, (.ireturn, 14, 0, 0, 0), []), (14, (.aload_n 0, 15, 0, 0, 0), []), (15, (.getfield 20, 18, 11, 13, 0), [7095])],
  [(18, (.aload_n 0, 19, 0, 0, 0), []), (19, (.getfield 26, 22, 11, 15, 0), [7097]), (22, (.invokestatic 274, 25, 238, 18, 0), [8143, 8144, 1014]), (25, (.iconst 0, 26, 0, 0, 0), []), (26, (.istore_n 2, 27, 0, 0, 0), []), (27, (.aload_n 0, 28, 0, 0, 0), []), (28, (.iload_n 1, 29, 0, 0, 0), []), (29, (.invokevirtual 299, 32, 253, 1, 11), [8202, 8204, 69, 1014])],
  [(32, (.iconst (-1), 33, 0, 0, 0), []), (33, (.if_icmp .ne 24, 36, 57, 0, 0), []), (36, (.iload_n 2, 37, 0, 0, 0), []), (37, (.sipush 300, 40, 0, 0, 0), []), (40, (.if_icmp .ge 17, 43, 57, 0, 0), []), (43, (.aload_n 0, 44, 0, 0, 0), []), (44, (.invokevirtual 352, 47, 292, 0, 11), [9118, 9120, 86, 1014]), (47, (.iconst (-1), 48, 0, 0, 0), [])],
  [(48, (.if_icmp .eq 9, 51, 57, 0, 0), []), (51, (.iinc 2 1, 54, 0, 0, 0), []), (54, (.goto (-27), 57, 27, 0, 0), []), (57, (.aload_n 0, 58, 0, 0, 0), []), (58, (.iload_n 1, 59, 0, 0, 0), []), (59, (.invokevirtual 299, 62, 253, 1, 11), [8202, 8204, 69, 1014]), (62, (.iconst (-1), 63, 0, 0, 0), []), (63, (.if_icmp .eq 7, 66, 70, 0, 0), [])],
  [(66, (.iconst 1, 67, 0, 0, 0), []), (67, (.goto 4, 70, 71, 0, 0), []), (70, (.iconst 0, 71, 0, 0, 0), []), (71, (.istore_n 3, 72, 0, 0, 0), []), (72, (.aload_n 0, 73, 0, 0, 0), []), (73, (.getfield 26, 76, 11, 15, 0), [7097]), (76, (.aload_n 0, 77, 0, 0, 0), []), (77, (.getfield 20, 80, 11, 13, 0), [7095])],
  [(80, (.invokestatic 274, 83, 238, 18, 0), [8143, 8144, 1014]), (83, (.iload_n 3, 84, 0, 0, 0), []), (84, (.ifCond .eq 7, 87, 91, 0, 0), []), (87, (.iload_n 2, 88, 0, 0, 0), []), (88, (.goto 4, 91, 92, 0, 0), []), (91, (.iconst (-1), 92, 0, 0, 0), []), (92, (.ireturn, 93, 0, 0, 0), [])]]
-- PaintBankModel.laneFor(I)I
noncomputable def md_L297 : List (List mm_Ln) := [[(0, (.aload_n 0, 1, 0, 0, 0), []), (1, (.aload_n 0, 2, 0, 0, 0), []), (2, (.iload_n 1, 3, 0, 0, 0), []), (3, (.invokevirtual 286, 6, 244, 1, 11), [8167, 8169, 66, 1014]), (6, (.invokevirtual 100, 9, 206, 1, 11), [7239, 8001, 41, 1014]), (9, (.ifCond .eq 11, 12, 20, 0, 0), []), (12, (.aload_n 0, 13, 0, 0, 0), []), (13, (.iload_n 1, 14, 0, 0, 0), []), (14, (.invokevirtual 340, 17, 290, 1, 11), [9110, 9112, 84, 1014])],
  [(17, (.goto 4, 20, 21, 0, 0), []), (20, (.iconst 0, 21, 0, 0, 0), []), (21, (.ireturn, 22, 0, 0, 0), [])]]
-- PaintBankModel.unloadCost()I
noncomputable def md_L298 : List (List mm_Ln) := [[(0, (.aload_n 0, 1, 0, 0, 0), []), (1, (.iconst 0, 2, 0, 0, 0), []), (2, (.putfield 90, 5, 11, 0, 0), [7082]), (5, (.aload_n 0, 6, 0, 0, 0), []), (6, (.invokevirtual 397, 9, 299, 0, 11), [9147, 9149, 88, 1014]), (9, (.istore_n 1, 10, 0, 0, 0), []), (10, (.iload_n 1, 11, 0, 0, 0), []), (11, (.ldc_w 360, 14, 0, 1000000, 0), [9171]), (14, (.if_icmp .ne 7, 17, 21, 0, 0), [])],
  [(17, (.iconst (-1), 18, 0, 0, 0), []), (18, (.goto 7, 21, 25, 0, 0), []), (21, (.iload_n 1, 22, 0, 0, 0), []), (22, (.bipush 100, 24, 0, 0, 0), []), (24, (.idiv, 25, 0, 0, 0), []), (25, (.ireturn, 26, 0, 0, 0), [])]]
-- PaintBankModel.laysUnloading()I
noncomputable def md_L299 : List (List mm_Ln) := [[(0, (.aload_n 0, 1, 0, 0, 0), []), (1, (.invokevirtual 379, 4, 300, 0, 11), [9151, 9153, 89, 1014]), (4, (.istore_n 1, 5, 0, 0, 0), []), (5, (.aload_n 0, 6, 0, 0, 0), []), (6, (.iconst 0, 7, 0, 0, 0), []), (7, (.putfield 382, 10, 11, 32, 0), [7114]), (10, (.sipush 2400, 13, 0, 0, 0), []), (13, (.istore_n 2, 14, 0, 0, 0), []), (14, (.iload_n 2, 15, 0, 0, 0), []), (15, (.ifCond .lt 89, 18, 104, 0, 0), [])],
  [(18, (.aload_n 0, 19, 0, 0, 0), []), (19, (.iload_n 2, 20, 0, 0, 0), []), (20, (.invokevirtual 385, 23, 301, 1, 11), [9155, 9157, 90, 1014]), (23, (.aload_n 0, 24, 0, 0, 0), []), (24, (.invokevirtual 388, 27, 302, 0, 11), [9159, 9161, 91, 1014]), (27, (.istore_n 3, 28, 0, 0, 0), []), (28, (.aload_n 0, 29, 0, 0, 0), []), (29, (.invokevirtual 361, 32, 303, 0, 11), [9163, 9165, 92, 1014])],
  [(32, (.iload_n 1, 33, 0, 0, 0), []), (33, (.if_icmp .ne 7, 36, 40, 0, 0), []), (36, (.iconst 1, 37, 0, 0, 0), []), (37, (.goto 4, 40, 41, 0, 0), []), (40, (.iconst 0, 41, 0, 0, 0), []), (41, (.istore 4, 43, 0, 0, 0), []), (43, (.iconst 0, 44, 0, 0, 0), []), (44, (.istore 5, 46, 0, 0, 0), []), (46, (.iload 5, 48, 0, 0, 0), [])],
  [(48, (.bipush 60, 50, 0, 0, 0), []), (50, (.if_icmp .ge 48, 53, 98, 0, 0), []), (53, (.iload_n 3, 54, 0, 0, 0), []), (54, (.ifCond .eq 44, 57, 98, 0, 0), []), (57, (.aload_n 0, 58, 0, 0, 0), []), (58, (.getfield 46, 61, 11, 29, 0), [7111]), (61, (.bipush 60, 63, 0, 0, 0), []), (63, (.iload_n 2, 64, 0, 0, 0), [])],
  [(64, (.imul, 65, 0, 0, 0), []), (65, (.iload 5, 67, 0, 0, 0), []), (67, (.iadd, 68, 0, 0, 0), []), (68, (.iload 4, 70, 0, 0, 0), []), (70, (.ifCond .eq 7, 73, 77, 0, 0), []), (73, (.iconst 0, 74, 0, 0, 0), []), (74, (.goto 17, 77, 91, 0, 0), []), (77, (.aload_n 0, 78, 0, 0, 0), []), (78, (.iload 5, 80, 0, 0, 0), [])],
  [(80, (.bipush 10, 82, 0, 0, 0), []), (82, (.idiv, 83, 0, 0, 0), []), (83, (.iload 5, 85, 0, 0, 0), []), (85, (.bipush 10, 87, 0, 0, 0), []), (87, (.irem, 88, 0, 0, 0), []), (88, (.invokevirtual 391, 91, 304, 2, 11), [9167, 9169, 93, 1014]), (91, (.iastore, 92, 0, 0, 0), []), (92, (.iinc 5 1, 95, 0, 0, 0), []), (95, (.goto (-49), 98, 46, 0, 0), [])],
  [(98, (.iinc 2 (-1), 101, 0, 0, 0), []), (101, (.goto (-87), 104, 14, 0, 0), []), (104, (.aload_n 0, 105, 0, 0, 0), []), (105, (.getfield 46, 108, 11, 29, 0), [7111]), (108, (.iconst 0, 109, 0, 0, 0), []), (109, (.aload_n 0, 110, 0, 0, 0), []), (110, (.invokevirtual 394, 113, 310, 0, 11), [9189, 9191, 96, 1014])],
  [(113, (.aload_n 0, 114, 0, 0, 0), []), (114, (.getfield 20, 117, 11, 13, 0), [7095]), (117, (.bipush 69, 119, 0, 0, 0), []), (119, (.iaload, 120, 0, 0, 0), []), (120, (.invokestatic 370, 123, 308, 19, 0), [9183, 9184, 1014]), (123, (.iaload, 124, 0, 0, 0), []), (124, (.istore_n 2, 125, 0, 0, 0), []), (125, (.iload_n 2, 126, 0, 0, 0), []), (126, (.ldc_w 360, 129, 0, 1000000, 0), [9171])],
  [(129, (.if_icmp .ne 7, 132, 136, 0, 0), []), (132, (.ldc_w 360, 135, 0, 1000000, 0), [9171]), (135, (.ireturn, 136, 0, 0, 0), []), (136, (.iconst 0, 137, 0, 0, 0), []), (137, (.istore_n 3, 138, 0, 0, 0), []), (138, (.aload_n 0, 139, 0, 0, 0), []), (139, (.invokevirtual 394, 142, 310, 0, 11), [9189, 9191, 96, 1014]), (142, (.istore 4, 144, 0, 0, 0), [])],
  [(144, (.aload_n 0, 145, 0, 0, 0), []), (145, (.getfield 20, 148, 11, 13, 0), [7095]), (148, (.bipush 69, 150, 0, 0, 0), []), (150, (.iaload, 151, 0, 0, 0), []), (151, (.istore 5, 153, 0, 0, 0), []), (153, (.aload_n 0, 154, 0, 0, 0), []), (154, (.getfield 382, 157, 11, 32, 0), [7114]), (157, (.iload_n 1, 158, 0, 0, 0), []), (158, (.if_icmp .ge 134, 161, 292, 0, 0), [])],
  [(161, (.aload_n 0, 162, 0, 0, 0), []), (162, (.iload_n 3, 163, 0, 0, 0), []), (163, (.invokevirtual 385, 166, 301, 1, 11), [9155, 9157, 90, 1014]), (166, (.aload_n 0, 167, 0, 0, 0), []), (167, (.getfield 46, 170, 11, 29, 0), [7111]), (170, (.iload_n 3, 171, 0, 0, 0), []), (171, (.iload 4, 173, 0, 0, 0), []), (173, (.iload 5, 175, 0, 0, 0), []), (175, (.invokestatic 370, 178, 308, 19, 0), [9183, 9184, 1014])],
  [(178, (.iaload, 179, 0, 0, 0), []), (179, (.istore 6, 181, 0, 0, 0), []), (181, (.iconst 0, 182, 0, 0, 0), []), (182, (.istore 7, 184, 0, 0, 0), []), (184, (.aload_n 0, 185, 0, 0, 0), []), (185, (.iload 7, 187, 0, 0, 0), []), (187, (.iload 4, 189, 0, 0, 0), []), (189, (.iload 5, 191, 0, 0, 0), []), (191, (.invokevirtual 373, 194, 305, 3, 11), [9172, 9174, 94, 1014])],
  [(194, (.iload 6, 196, 0, 0, 0), []), (196, (.if_icmp .eq 9, 199, 205, 0, 0), []), (199, (.iinc 7 1, 202, 0, 0, 0), []), (202, (.goto (-18), 205, 184, 0, 0), []), (205, (.aload_n 0, 206, 0, 0, 0), []), (206, (.getfield 20, 209, 11, 13, 0), [7095])],
  [(209, (.bipush 31, 211, 0, 0, 0), []), (211, (.aload_n 0, 212, 0, 0, 0), []), (212, (.iload 7, 214, 0, 0, 0), []), (214, (.aload_n 0, 215, 0, 0, 0), []), (215, (.getfield 49, 218, 11, 30, 0), [7112]), (218, (.iload 7, 220, 0, 0, 0), []), (220, (.iaload, 221, 0, 0, 0), []), (221, (.invokevirtual 305, 224, 258, 2, 11), [8222, 8224, 71, 1014])],
  [(224, (.iadd, 225, 0, 0, 0), []), (225, (.iaload, 226, 0, 0, 0), []), (226, (.istore 8, 228, 0, 0, 0), []), (228, (.iload 8, 230, 0, 0, 0), []), (230, (.iload 4, 232, 0, 0, 0), []), (232, (.if_icmp .ne 21, 235, 253, 0, 0), []), (235, (.iload 5, 237, 0, 0, 0), []), (237, (.aload_n 0, 238, 0, 0, 0), []), (238, (.getfield 20, 241, 11, 13, 0), [7095])],
  [(241, (.iconst 5, 242, 0, 0, 0), []), (242, (.iaload, 243, 0, 0, 0), []), (243, (.if_icmp .eq 10, 246, 253, 0, 0), []), (246, (.iload 5, 248, 0, 0, 0), []), (248, (.iconst 1, 249, 0, 0, 0), []), (249, (.iadd, 250, 0, 0, 0), []), (250, (.goto 4, 253, 254, 0, 0), []), (253, (.iconst 1, 254, 0, 0, 0), []), (254, (.istore 5, 256, 0, 0, 0), [])],
  [(256, (.iload 8, 258, 0, 0, 0), []), (258, (.istore 4, 260, 0, 0, 0), []), (260, (.iload_n 3, 261, 0, 0, 0), []), (261, (.iload 7, 263, 0, 0, 0), []), (263, (.invokestatic 367, 266, 307, 17, 0), [9180, 9181, 1014]), (266, (.iadd, 267, 0, 0, 0), []), (267, (.istore_n 3, 268, 0, 0, 0), []), (268, (.aload_n 0, 269, 0, 0, 0), []), (269, (.getfield 52, 272, 11, 31, 0), [7113])],
  [(272, (.aload_n 0, 273, 0, 0, 0), []), (273, (.getfield 382, 276, 11, 32, 0), [7114]), (276, (.iload 7, 278, 0, 0, 0), []), (278, (.iastore, 279, 0, 0, 0), []), (279, (.aload_n 0, 280, 0, 0, 0), []), (280, (.dup, 281, 0, 0, 0), []), (281, (.getfield 382, 284, 11, 32, 0), [7114]), (284, (.iconst 1, 285, 0, 0, 0), []), (285, (.iadd, 286, 0, 0, 0), []), (286, (.putfield 382, 289, 11, 32, 0), [7114])],
  [(289, (.goto (-136), 292, 153, 0, 0), []), (292, (.iload_n 2, 293, 0, 0, 0), []), (293, (.ireturn, 294, 0, 0, 0), [])]]
-- PaintBankModel.inLanes()I
noncomputable def md_L300 : List (List mm_Ln) := [[(0, (.aload_n 0, 1, 0, 0, 0), []), (1, (.getfield 20, 4, 11, 13, 0), [7095]), (4, (.bipush 98, 6, 0, 0, 0), []), (6, (.iaload, 7, 0, 0, 0), []), (7, (.aload_n 0, 8, 0, 0, 0), []), (8, (.getfield 20, 11, 11, 13, 0), [7095]), (11, (.bipush 99, 13, 0, 0, 0), []), (13, (.iaload, 14, 0, 0, 0), []), (14, (.iadd, 15, 0, 0, 0), []), (15, (.aload_n 0, 16, 0, 0, 0), [])],
  [(16, (.getfield 20, 19, 11, 13, 0), [7095]), (19, (.bipush 100, 21, 0, 0, 0), []), (21, (.iaload, 22, 0, 0, 0), []), (22, (.iadd, 23, 0, 0, 0), []), (23, (.aload_n 0, 24, 0, 0, 0), []), (24, (.getfield 20, 27, 11, 13, 0), [7095]), (27, (.bipush 101, 29, 0, 0, 0), []), (29, (.iaload, 30, 0, 0, 0), []), (30, (.iadd, 31, 0, 0, 0), []), (31, (.ireturn, 32, 0, 0, 0), [])]]
-- PaintBankModel.unpacks(I)V
noncomputable def md_L301 : List (List mm_Ln) := [[(0, (.aload_n 0, 1, 0, 0, 0), []), (1, (.getfield 49, 4, 11, 30, 0), [7112]), (4, (.iconst 0, 5, 0, 0, 0), []), (5, (.iload_n 1, 6, 0, 0, 0), []), (6, (.sipush 343, 9, 0, 0, 0), []), (9, (.idiv, 10, 0, 0, 0), []), (10, (.iastore, 11, 0, 0, 0), []), (11, (.aload_n 0, 12, 0, 0, 0), []), (12, (.getfield 49, 15, 11, 30, 0), [7112]), (15, (.iconst 1, 16, 0, 0, 0), [])],
  [(16, (.iload_n 1, 17, 0, 0, 0), []), (17, (.bipush 49, 19, 0, 0, 0), []), (19, (.idiv, 20, 0, 0, 0), []), (20, (.bipush 7, 22, 0, 0, 0), []), (22, (.irem, 23, 0, 0, 0), []), (23, (.iastore, 24, 0, 0, 0), []), (24, (.aload_n 0, 25, 0, 0, 0), []), (25, (.getfield 49, 28, 11, 30, 0), [7112]), (28, (.iconst 2, 29, 0, 0, 0), []), (29, (.iload_n 1, 30, 0, 0, 0), []), (30, (.bipush 7, 32, 0, 0, 0), [])],
  [(32, (.idiv, 33, 0, 0, 0), []), (33, (.bipush 7, 35, 0, 0, 0), []), (35, (.irem, 36, 0, 0, 0), []), (36, (.iastore, 37, 0, 0, 0), []), (37, (.aload_n 0, 38, 0, 0, 0), []), (38, (.getfield 49, 41, 11, 30, 0), [7112]), (41, (.iconst 3, 42, 0, 0, 0), []), (42, (.iload_n 1, 43, 0, 0, 0), []), (43, (.bipush 7, 45, 0, 0, 0), []), (45, (.irem, 46, 0, 0, 0), []), (46, (.iastore, 47, 0, 0, 0), []), (47, (.return_, 48, 0, 0, 0), [])]]
-- PaintBankModel.isWithin()Z
noncomputable def md_L302 : List (List mm_Ln) := [[(0, (.iconst 0, 1, 0, 0, 0), []), (1, (.istore_n 1, 2, 0, 0, 0), []), (2, (.iload_n 1, 3, 0, 0, 0), []), (3, (.iconst 4, 4, 0, 0, 0), []), (4, (.if_icmp .ge 29, 7, 33, 0, 0), []), (7, (.aload_n 0, 8, 0, 0, 0), []), (8, (.getfield 49, 11, 11, 30, 0), [7112]), (11, (.iload_n 1, 12, 0, 0, 0), []), (12, (.iaload, 13, 0, 0, 0), []), (13, (.aload_n 0, 14, 0, 0, 0), []), (14, (.getfield 20, 17, 11, 13, 0), [7095])],
  [(17, (.bipush 98, 19, 0, 0, 0), []), (19, (.iload_n 1, 20, 0, 0, 0), []), (20, (.iadd, 21, 0, 0, 0), []), (21, (.iaload, 22, 0, 0, 0), []), (22, (.if_icmp .le 5, 25, 27, 0, 0), []), (25, (.iconst 0, 26, 0, 0, 0), []), (26, (.ireturn, 27, 0, 0, 0), []), (27, (.iinc 1 1, 30, 0, 0, 0), []), (30, (.goto (-28), 33, 2, 0, 0), [])],
  [(33, (.iconst 1, 34, 0, 0, 0), []), (34, (.ireturn, 35, 0, 0, 0), [])]]
-- PaintBankModel.takenAll()I
noncomputable def md_L303 : List (List mm_Ln) := [[(0, (.aload_n 0, 1, 0, 0, 0), []), (1, (.getfield 49, 4, 11, 30, 0), [7112]), (4, (.iconst 0, 5, 0, 0, 0), []), (5, (.iaload, 6, 0, 0, 0), []), (6, (.aload_n 0, 7, 0, 0, 0), []), (7, (.getfield 49, 10, 11, 30, 0), [7112]), (10, (.iconst 1, 11, 0, 0, 0), []), (11, (.iaload, 12, 0, 0, 0), []), (12, (.iadd, 13, 0, 0, 0), []), (13, (.aload_n 0, 14, 0, 0, 0), []), (14, (.getfield 49, 17, 11, 30, 0), [7112])],
  [(17, (.iconst 2, 18, 0, 0, 0), []), (18, (.iaload, 19, 0, 0, 0), []), (19, (.iadd, 20, 0, 0, 0), []), (20, (.aload_n 0, 21, 0, 0, 0), []), (21, (.getfield 49, 24, 11, 30, 0), [7112]), (24, (.iconst 3, 25, 0, 0, 0), []), (25, (.iaload, 26, 0, 0, 0), []), (26, (.iadd, 27, 0, 0, 0), []), (27, (.ireturn, 28, 0, 0, 0), [])]]
-- PaintBankModel.leastOf(II)I
noncomputable def md_L304 : List (List mm_Ln) := [[(0, (.ldc_w 360, 3, 0, 1000000, 0), [9171]), (3, (.istore_n 3, 4, 0, 0, 0), []), (4, (.iconst 0, 5, 0, 0, 0), []), (5, (.istore 4, 7, 0, 0, 0), []), (7, (.iload 4, 9, 0, 0, 0), []), (9, (.iconst 4, 10, 0, 0, 0), []), (10, (.if_icmp .ge 22, 13, 32, 0, 0), []), (13, (.iload_n 3, 14, 0, 0, 0), []), (14, (.aload_n 0, 15, 0, 0, 0), []), (15, (.iload 4, 17, 0, 0, 0), [])],
  [(17, (.iload_n 1, 18, 0, 0, 0), []), (18, (.iload_n 2, 19, 0, 0, 0), []), (19, (.invokevirtual 373, 22, 305, 3, 11), [9172, 9174, 94, 1014]), (22, (.invokestatic 376, 25, 309, 18, 0), [9186, 9187, 1014]), (25, (.istore_n 3, 26, 0, 0, 0), []), (26, (.iinc 4 1, 29, 0, 0, 0), []), (29, (.goto (-22), 32, 7, 0, 0), [])],
  [(32, (.iload_n 3, 33, 0, 0, 0), []), (33, (.ireturn, 34, 0, 0, 0), [])]]
-- PaintBankModel.by(III)I
noncomputable def md_L305 : List (List mm_Ln) := [[(0, (.aload_n 0, 1, 0, 0, 0), []), (1, (.getfield 49, 4, 11, 30, 0), [7112]), (4, (.iload_n 1, 5, 0, 0, 0), []), (5, (.iaload, 6, 0, 0, 0), []), (6, (.aload_n 0, 7, 0, 0, 0), []), (7, (.getfield 20, 10, 11, 13, 0), [7095]), (10, (.bipush 98, 12, 0, 0, 0), []), (12, (.iload_n 1, 13, 0, 0, 0), []), (13, (.iadd, 14, 0, 0, 0), []), (14, (.iaload, 15, 0, 0, 0), []), (15, (.if_icmp .lt 7, 18, 22, 0, 0), [])],
  [(18, (.ldc_w 360, 21, 0, 1000000, 0), [9171]), (21, (.ireturn, 22, 0, 0, 0), []), (22, (.aload_n 0, 23, 0, 0, 0), []), (23, (.iload_n 1, 24, 0, 0, 0), []), (24, (.aload_n 0, 25, 0, 0, 0), []), (25, (.getfield 49, 28, 11, 30, 0), [7112]), (28, (.iload_n 1, 29, 0, 0, 0), []), (29, (.iaload, 30, 0, 0, 0), []), (30, (.invokevirtual 305, 33, 258, 2, 11), [8222, 8224, 71, 1014])],
  [(33, (.istore 4, 35, 0, 0, 0), []), (35, (.aload_n 0, 36, 0, 0, 0), []), (36, (.getfield 20, 39, 11, 13, 0), [7095]), (39, (.bipush 106, 41, 0, 0, 0), []), (41, (.iaload, 42, 0, 0, 0), []), (42, (.aload_n 0, 43, 0, 0, 0), []), (43, (.invokevirtual 361, 46, 303, 0, 11), [9163, 9165, 92, 1014]), (46, (.iadd, 47, 0, 0, 0), []), (47, (.istore 5, 49, 0, 0, 0), [])],
  [(49, (.iload 5, 51, 0, 0, 0), []), (51, (.i2l, 52, 0, 0, 0), []), (52, (.iload 4, 54, 0, 0, 0), []), (54, (.aload_n 0, 55, 0, 0, 0), []), (55, (.getfield 20, 58, 11, 13, 0), [7095]), (58, (.iconst 3, 59, 0, 0, 0), []), (59, (.iaload, 60, 0, 0, 0), []), (60, (.isub, 61, 0, 0, 0), []), (61, (.i2l, 62, 0, 0, 0), []), (62, (.iload 4, 64, 0, 0, 0), [])],
  [(64, (.aload_n 0, 65, 0, 0, 0), []), (65, (.getfield 20, 68, 11, 13, 0), [7095]), (68, (.iconst 4, 69, 0, 0, 0), []), (69, (.iaload, 70, 0, 0, 0), []), (70, (.iadd, 71, 0, 0, 0), []), (71, (.i2l, 72, 0, 0, 0), []), (72, (.invokestatic 108, 75, 210, 19, 0), [8014, 8015, 1014]), (75, (.ifCond .ne 7, 78, 82, 0, 0), []), (78, (.ldc_w 360, 81, 0, 1000000, 0), [9171])],
  [(81, (.ireturn, 82, 0, 0, 0), []), (82, (.aload_n 0, 83, 0, 0, 0), []), (83, (.getfield 20, 86, 11, 13, 0), [7095]), (86, (.bipush 31, 88, 0, 0, 0), []), (88, (.iload 4, 90, 0, 0, 0), []), (90, (.iadd, 91, 0, 0, 0), []), (91, (.iaload, 92, 0, 0, 0), []), (92, (.istore 6, 94, 0, 0, 0), []), (94, (.iload 6, 96, 0, 0, 0), [])],
  [(96, (.iload_n 2, 97, 0, 0, 0), []), (97, (.if_icmp .ne 17, 100, 114, 0, 0), []), (100, (.iload_n 3, 101, 0, 0, 0), []), (101, (.aload_n 0, 102, 0, 0, 0), []), (102, (.getfield 20, 105, 11, 13, 0), [7095]), (105, (.iconst 5, 106, 0, 0, 0), []), (106, (.iaload, 107, 0, 0, 0), []), (107, (.if_icmp .ne 7, 110, 114, 0, 0), []), (110, (.iconst 1, 111, 0, 0, 0), []), (111, (.goto 4, 114, 115, 0, 0), [])],
  [(114, (.iconst 0, 115, 0, 0, 0), []), (115, (.istore 7, 117, 0, 0, 0), []), (117, (.iload_n 2, 118, 0, 0, 0), []), (118, (.iconst 5, 119, 0, 0, 0), []), (119, (.if_icmp .eq 27, 122, 146, 0, 0), []), (122, (.iload 6, 124, 0, 0, 0), []), (124, (.iload_n 2, 125, 0, 0, 0), []), (125, (.if_icmp .eq 21, 128, 146, 0, 0), [])],
  [(128, (.bipush 100, 130, 0, 0, 0), []), (130, (.aload_n 0, 131, 0, 0, 0), []), (131, (.getfield 20, 134, 11, 13, 0), [7095]), (134, (.bipush 10, 136, 0, 0, 0), []), (136, (.iload 6, 138, 0, 0, 0), []), (138, (.iadd, 139, 0, 0, 0), []), (139, (.iaload, 140, 0, 0, 0), []), (140, (.imul, 141, 0, 0, 0), []), (141, (.iconst 1, 142, 0, 0, 0), []), (142, (.iadd, 143, 0, 0, 0), []), (143, (.goto 22, 146, 165, 0, 0), [])],
  [(146, (.iload 7, 148, 0, 0, 0), []), (148, (.ifCond .eq 16, 151, 164, 0, 0), []), (151, (.bipush 100, 153, 0, 0, 0), []), (153, (.aload_n 0, 154, 0, 0, 0), []), (154, (.getfield 20, 157, 11, 13, 0), [7095]), (157, (.bipush 6, 159, 0, 0, 0), []), (159, (.iaload, 160, 0, 0, 0), [])],
  [(160, (.imul, 161, 0, 0, 0), []), (161, (.goto 4, 164, 165, 0, 0), []), (164, (.iconst 0, 165, 0, 0, 0), []), (165, (.istore 8, 167, 0, 0, 0), []), (167, (.aload_n 0, 168, 0, 0, 0), []), (168, (.getfield 46, 171, 11, 29, 0), [7111]), (171, (.aload_n 0, 172, 0, 0, 0), []), (172, (.invokevirtual 364, 175, 306, 0, 11), [9176, 9178, 95, 1014]), (175, (.iload_n 1, 176, 0, 0, 0), [])],
  [(176, (.invokestatic 367, 179, 307, 17, 0), [9180, 9181, 1014]), (179, (.iadd, 180, 0, 0, 0), []), (180, (.iload 6, 182, 0, 0, 0), []), (182, (.iload 6, 184, 0, 0, 0), []), (184, (.iload_n 2, 185, 0, 0, 0), []), (185, (.if_icmp .ne 14, 188, 199, 0, 0), []), (188, (.iload 7, 190, 0, 0, 0), []), (190, (.ifCond .ne 9, 193, 199, 0, 0), [])],
  [(193, (.iload_n 3, 194, 0, 0, 0), []), (194, (.iconst 1, 195, 0, 0, 0), []), (195, (.iadd, 196, 0, 0, 0), []), (196, (.goto 4, 199, 200, 0, 0), []), (199, (.iconst 1, 200, 0, 0, 0), []), (200, (.invokestatic 370, 203, 308, 19, 0), [9183, 9184, 1014]), (203, (.iaload, 204, 0, 0, 0), []), (204, (.istore 9, 206, 0, 0, 0), []), (206, (.iload 9, 208, 0, 0, 0), [])],
  [(208, (.ldc_w 360, 211, 0, 1000000, 0), [9171]), (211, (.if_icmp .ne 9, 214, 220, 0, 0), []), (214, (.ldc_w 360, 217, 0, 1000000, 0), [9171]), (217, (.goto 8, 220, 225, 0, 0), []), (220, (.iload 8, 222, 0, 0, 0), []), (222, (.iload 9, 224, 0, 0, 0), [])],
  [(224, (.iadd, 225, 0, 0, 0), []), (225, (.ireturn, 226, 0, 0, 0), [])]]
-- PaintBankModel.places()I
noncomputable def md_L306 : List (List mm_Ln) := [[(0, (.bipush 7, 2, 0, 0, 0), []), (2, (.aload_n 0, 3, 0, 0, 0), []), (3, (.getfield 49, 6, 11, 30, 0), [7112]), (6, (.iconst 0, 7, 0, 0, 0), []), (7, (.iaload, 8, 0, 0, 0), []), (8, (.imul, 9, 0, 0, 0), []), (9, (.aload_n 0, 10, 0, 0, 0), []), (10, (.getfield 49, 13, 11, 30, 0), [7112]), (13, (.iconst 1, 14, 0, 0, 0), []), (14, (.iaload, 15, 0, 0, 0), []), (15, (.iadd, 16, 0, 0, 0), [])],
  [(16, (.bipush 7, 18, 0, 0, 0), []), (18, (.imul, 19, 0, 0, 0), []), (19, (.aload_n 0, 20, 0, 0, 0), []), (20, (.getfield 49, 23, 11, 30, 0), [7112]), (23, (.iconst 2, 24, 0, 0, 0), []), (24, (.iaload, 25, 0, 0, 0), []), (25, (.iadd, 26, 0, 0, 0), []), (26, (.bipush 7, 28, 0, 0, 0), []), (28, (.imul, 29, 0, 0, 0), []), (29, (.aload_n 0, 30, 0, 0, 0), []), (30, (.getfield 49, 33, 11, 30, 0), [7112])],
  [(33, (.iconst 3, 34, 0, 0, 0), []), (34, (.iaload, 35, 0, 0, 0), []), (35, (.iadd, 36, 0, 0, 0), []), (36, (.ireturn, 37, 0, 0, 0), [])]]
-- PaintBankModel.weightOf(I)I
noncomputable def md_L307 : List (List mm_Ln) := [[(0, (.iload_n 0, 1, 0, 0, 0), []), (1, (.ifCond .ne 9, 4, 10, 0, 0), []), (4, (.sipush 343, 7, 0, 0, 0), []), (7, (.goto 24, 10, 31, 0, 0), []), (10, (.iload_n 0, 11, 0, 0, 0), []), (11, (.iconst 1, 12, 0, 0, 0), []), (12, (.if_icmp .ne 8, 15, 20, 0, 0), []), (15, (.bipush 49, 17, 0, 0, 0), [])],
  [(17, (.goto 14, 20, 31, 0, 0), []), (20, (.iload_n 0, 21, 0, 0, 0), []), (21, (.iconst 2, 22, 0, 0, 0), []), (22, (.if_icmp .ne 8, 25, 30, 0, 0), []), (25, (.bipush 7, 27, 0, 0, 0), []), (27, (.goto 4, 30, 31, 0, 0), []), (30, (.iconst 1, 31, 0, 0, 0), []), (31, (.ireturn, 32, 0, 0, 0), [])]]
-- PaintBankModel.placeOf(III)I
noncomputable def md_L308 : List (List mm_Ln) := [[(0, (.bipush 6, 2, 0, 0, 0), []), (2, (.iload_n 0, 3, 0, 0, 0), []), (3, (.imul, 4, 0, 0, 0), []), (4, (.iload_n 1, 5, 0, 0, 0), []), (5, (.iadd, 6, 0, 0, 0), []), (6, (.bipush 10, 8, 0, 0, 0), []), (8, (.imul, 9, 0, 0, 0), []), (9, (.iload_n 2, 10, 0, 0, 0), []), (10, (.iadd, 11, 0, 0, 0), []), (11, (.ireturn, 12, 0, 0, 0), [])]]
-- PaintBankModel.less(II)I
noncomputable def md_L309 : List (List mm_Ln) := [[(0, (.iload_n 0, 1, 0, 0, 0), []), (1, (.iload_n 1, 2, 0, 0, 0), []), (2, (.if_icmp .ge 7, 5, 9, 0, 0), []), (5, (.iload_n 0, 6, 0, 0, 0), []), (6, (.goto 4, 9, 10, 0, 0), []), (9, (.iload_n 1, 10, 0, 0, 0), []), (10, (.ireturn, 11, 0, 0, 0), [])]]
-- PaintBankModel.held()I
noncomputable def md_L310 : List (List mm_Ln) := [[(0, (.aload_n 0, 1, 0, 0, 0), []), (1, (.getfield 20, 4, 11, 13, 0), [7095]), (4, (.bipush 68, 6, 0, 0, 0), []), (6, (.iaload, 7, 0, 0, 0), []), (7, (.iconst (-1), 8, 0, 0, 0), []), (8, (.if_icmp .ne 7, 11, 15, 0, 0), []), (11, (.iconst 5, 12, 0, 0, 0), []), (12, (.goto 10, 15, 22, 0, 0), []), (15, (.aload_n 0, 16, 0, 0, 0), [])],
  [(16, (.getfield 20, 19, 11, 13, 0), [7095]), (19, (.bipush 68, 21, 0, 0, 0), []), (21, (.iaload, 22, 0, 0, 0), []), (22, (.ireturn, 23, 0, 0, 0), [])]]
-- PaintBankModel.unloadChanges()I
noncomputable def md_L311 : List (List mm_Ln) := [[(0, (.aload_n 0, 1, 0, 0, 0), []), (1, (.iconst 0, 2, 0, 0, 0), []), (2, (.putfield 90, 5, 11, 0, 0), [7082]), (5, (.aload_n 0, 6, 0, 0, 0), []), (6, (.invokevirtual 397, 9, 299, 0, 11), [9147, 9149, 88, 1014]), (9, (.istore_n 1, 10, 0, 0, 0), []), (10, (.iload_n 1, 11, 0, 0, 0), []), (11, (.ldc_w 360, 14, 0, 1000000, 0), [9171]), (14, (.if_icmp .ne 7, 17, 21, 0, 0), [])],
  [(17, (.iconst (-1), 18, 0, 0, 0), []), (18, (.goto 7, 21, 25, 0, 0), []), (21, (.iload_n 1, 22, 0, 0, 0), []), (22, (.bipush 100, 24, 0, 0, 0), []), (24, (.irem, 25, 0, 0, 0), []), (25, (.ireturn, 26, 0, 0, 0), [])]]
-- PaintBankModel.unloadLane(I)I
noncomputable def md_L312 : List (List mm_Ln) := [[(0, (.aload_n 0, 1, 0, 0, 0), []), (1, (.iconst 0, 2, 0, 0, 0), []), (2, (.putfield 90, 5, 11, 0, 0), [7082]), (5, (.aload_n 0, 6, 0, 0, 0), []), (6, (.invokevirtual 397, 9, 299, 0, 11), [9147, 9149, 88, 1014]), (9, (.istore_n 2, 10, 0, 0, 0), []), (10, (.iload_n 1, 11, 0, 0, 0), []), (11, (.i2l, 12, 0, 0, 0), []), (12, (.lconst 0, 13, 0, 0, 0), []), (13, (.aload_n 0, 14, 0, 0, 0), []), (14, (.getfield 382, 17, 11, 32, 0), [7114])],
  [(17, (.iconst 1, 18, 0, 0, 0), []), (18, (.isub, 19, 0, 0, 0), []), (19, (.i2l, 20, 0, 0, 0), []), (20, (.invokestatic 108, 23, 210, 19, 0), [8014, 8015, 1014]), (23, (.ifCond .eq 12, 26, 35, 0, 0), []), (26, (.aload_n 0, 27, 0, 0, 0), []), (27, (.getfield 52, 30, 11, 31, 0), [7113]), (30, (.iload_n 1, 31, 0, 0, 0), []), (31, (.iaload, 32, 0, 0, 0), [])],
  [(32, (.goto 4, 35, 36, 0, 0), []), (35, (.iconst (-1), 36, 0, 0, 0), []), (36, (.ireturn, 37, 0, 0, 0), [])]]
-- PaintBankModel.unload()I
noncomputable def md_L313 : List (List mm_Ln) := [[(0, (.aload_n 0, 1, 0, 0, 0), []), (1, (.iconst 0, 2, 0, 0, 0), []), (2, (.putfield 90, 5, 11, 0, 0), [7082]), (5, (.aload_n 0, 6, 0, 0, 0), []), (6, (.getfield 20, 9, 11, 13, 0), [7095]), (9, (.aload_n 0, 10, 0, 0, 0), []), (10, (.getfield 26, 13, 11, 15, 0), [7097]), (13, (.invokestatic 274, 16, 238, 18, 0), [8143, 8144, 1014])],
  [(16, (.aload_n 0, 17, 0, 0, 0), []), (17, (.invokevirtual 400, 20, 314, 0, 11), [9205, 9207, 97, 1014]), (20, (.istore_n 1, 21, 0, 0, 0), []), (21, (.iload_n 1, 22, 0, 0, 0), []), (22, (.ifCond .ne 5, 25, 27, 0, 0), []), (25, (.iconst (-1), 26, 0, 0, 0), []), (26, (.ireturn, 27, 0, 0, 0), []), (27, (.aload_n 0, 28, 0, 0, 0), []), (28, (.invokevirtual 403, 31, 315, 0, 11), [9209, 9211, 98, 1014]), (31, (.iload_n 1, 32, 0, 0, 0), [])],
  [(32, (.ireturn, 33, 0, 0, 0), [])]]
-- PaintBankModel.unloadsNow()I
noncomputable def md_L314 : List (List mm_Ln) := [[(0, (.iconst 0, 1, 0, 0, 0), []), (1, (.istore_n 1, 2, 0, 0, 0), []), (2, (.aload_n 0, 3, 0, 0, 0), []), (3, (.invokevirtual 397, 6, 299, 0, 11), [9147, 9149, 88, 1014]), (6, (.istore_n 2, 7, 0, 0, 0), []), (7, (.iconst 1, 8, 0, 0, 0), []), (8, (.istore_n 3, 9, 0, 0, 0), []), (9, (.iload_n 3, 10, 0, 0, 0), []), (10, (.ifCond .eq 69, 13, 79, 0, 0), []), (13, (.iload_n 1, 14, 0, 0, 0), []), (14, (.aload_n 0, 15, 0, 0, 0), []), (15, (.getfield 382, 18, 11, 32, 0), [7114])],
  [(18, (.if_icmp .ge 61, 21, 79, 0, 0), []), (21, (.aload_n 0, 22, 0, 0, 0), []), (22, (.aload_n 0, 23, 0, 0, 0), []), (23, (.getfield 52, 26, 11, 31, 0), [7113]), (26, (.iload_n 1, 27, 0, 0, 0), []), (27, (.iaload, 28, 0, 0, 0), []), (28, (.invokevirtual 308, 31, 267, 1, 11), [9018, 9020, 72, 1014]), (31, (.ifCond .eq 48, 34, 79, 0, 0), [])],
  [(34, (.aload_n 0, 35, 0, 0, 0), []), (35, (.getfield 20, 38, 11, 13, 0), [7095]), (38, (.bipush 106, 40, 0, 0, 0), []), (40, (.iaload, 41, 0, 0, 0), []), (41, (.istore 4, 43, 0, 0, 0), []), (43, (.aload_n 0, 44, 0, 0, 0), []), (44, (.aload_n 0, 45, 0, 0, 0), []), (45, (.getfield 52, 48, 11, 31, 0), [7113])],
  [(48, (.iload_n 1, 49, 0, 0, 0), []), (49, (.iaload, 50, 0, 0, 0), []), (50, (.invokevirtual 331, 53, 282, 1, 11), [9078, 9080, 79, 1014]), (53, (.istore 5, 55, 0, 0, 0), []), (55, (.iinc 1 1, 58, 0, 0, 0), []), (58, (.aload_n 0, 59, 0, 0, 0), []), (59, (.getfield 20, 62, 11, 13, 0), [7095]), (62, (.bipush 106, 64, 0, 0, 0), [])],
  [(64, (.iaload, 65, 0, 0, 0), []), (65, (.iload 4, 67, 0, 0, 0), []), (67, (.if_icmp .le 7, 70, 74, 0, 0), []), (70, (.iconst 1, 71, 0, 0, 0), []), (71, (.goto 4, 74, 75, 0, 0), []), (74, (.iconst 0, 75, 0, 0, 0), []), (75, (.istore_n 3, 76, 0, 0, 0), []), (76, (.goto (-67), 79, 9, 0, 0), []), (79, (.iload_n 1, 80, 0, 0, 0), [])],
  [(80, (.ireturn, 81, 0, 0, 0), [])]]
-- PaintBankModel.keepsAside()V
noncomputable def md_L315 : List (List mm_Ln) := [[(0, (.aload_n 0, 1, 0, 0, 0), []), (1, (.invokevirtual 325, 4, 278, 0, 11), [9062, 9064, 76, 1014]), (4, (.iconst 0, 5, 0, 0, 0), []), (5, (.istore_n 1, 6, 0, 0, 0), []), (6, (.iload_n 1, 7, 0, 0, 0), []), (7, (.sipush 200, 10, 0, 0, 0), []), (10, (.if_icmp .ge 32, 13, 42, 0, 0), []), (13, (.aload_n 0, 14, 0, 0, 0), []), (14, (.getfield 32, 17, 11, 17, 0), [7099])],
  [(17, (.sipush 200, 20, 0, 0, 0), []), (20, (.aload_n 0, 21, 0, 0, 0), []), (21, (.getfield 278, 24, 11, 22, 0), [7104]), (24, (.iconst 1, 25, 0, 0, 0), []), (25, (.isub, 26, 0, 0, 0), []), (26, (.imul, 27, 0, 0, 0), []), (27, (.iload_n 1, 28, 0, 0, 0), []), (28, (.iadd, 29, 0, 0, 0), []), (29, (.aload_n 0, 30, 0, 0, 0), []), (30, (.getfield 26, 33, 11, 15, 0), [7097])],
  [(33, (.iload_n 1, 34, 0, 0, 0), []), (34, (.iaload, 35, 0, 0, 0), []), (35, (.iastore, 36, 0, 0, 0), []), (36, (.iinc 1 1, 39, 0, 0, 0), []), (39, (.goto (-33), 42, 6, 0, 0), []), (42, (.return_, 43, 0, 0, 0), [])]]
-- PaintBankModel.laneBound()I
noncomputable def md_L316 : List (List mm_Ln) := [[(0, (.aload_n 0, 1, 0, 0, 0), []), (1, (.iconst 0, 2, 0, 0, 0), []), (2, (.putfield 90, 5, 11, 0, 0), [7082]), (5, (.aload_n 0, 6, 0, 0, 0), []), (6, (.iconst 1, 7, 0, 0, 0), []), (7, (.invokevirtual 409, 10, 317, 1, 11), [9217, 9219, 99, 1014]), (10, (.ireturn, 11, 0, 0, 0), [])]]
-- PaintBankModel.boundOf(Z)I
noncomputable def md_L317 : List (List mm_Ln) := [[(0, (.iconst 0, 1, 0, 0, 0), []), (1, (.istore_n 2, 2, 0, 0, 0), []), (2, (.iconst 0, 3, 0, 0, 0), []), (3, (.istore_n 3, 4, 0, 0, 0), []), (4, (.iconst 0, 5, 0, 0, 0), []), (5, (.istore 4, 7, 0, 0, 0), []), (7, (.iconst 0, 8, 0, 0, 0), []), (8, (.istore 5, 10, 0, 0, 0), []), (10, (.iload 5, 12, 0, 0, 0), []), (12, (.aload_n 0, 13, 0, 0, 0), []), (13, (.getfield 20, 16, 11, 13, 0), [7095])],
  [(16, (.iconst 2, 17, 0, 0, 0), []), (17, (.iaload, 18, 0, 0, 0), []), (18, (.if_icmp .ge 51, 21, 69, 0, 0), []), (21, (.iload_n 1, 22, 0, 0, 0), []), (22, (.ifCond .eq 16, 25, 38, 0, 0), []), (25, (.aload_n 0, 26, 0, 0, 0), []), (26, (.iload 5, 28, 0, 0, 0), []), (28, (.invokevirtual 302, 31, 252, 1, 11), [8198, 8200, 68, 1014]), (31, (.iconst 1, 32, 0, 0, 0), [])],
  [(32, (.if_icmp .ne 31, 35, 63, 0, 0), []), (35, (.goto 13, 38, 48, 0, 0), []), (38, (.aload_n 0, 39, 0, 0, 0), []), (39, (.iload 5, 41, 0, 0, 0), []), (41, (.invokevirtual 302, 44, 252, 1, 11), [8198, 8200, 68, 1014]), (44, (.iconst 3, 45, 0, 0, 0), []), (45, (.if_icmp .eq 18, 48, 63, 0, 0), [])],
  [(48, (.iload_n 2, 49, 0, 0, 0), []), (49, (.iconst 1, 50, 0, 0, 0), []), (50, (.aload_n 0, 51, 0, 0, 0), []), (51, (.getfield 20, 54, 11, 13, 0), [7095]), (54, (.bipush 31, 56, 0, 0, 0), []), (56, (.iload 5, 58, 0, 0, 0), []), (58, (.iadd, 59, 0, 0, 0), []), (59, (.iaload, 60, 0, 0, 0), []), (60, (.ishl, 61, 0, 0, 0), []), (61, (.ior, 62, 0, 0, 0), []), (62, (.istore_n 2, 63, 0, 0, 0), []), (63, (.iinc 5 1, 66, 0, 0, 0), [])],
  [(66, (.goto (-56), 69, 10, 0, 0), []), (69, (.iconst 0, 70, 0, 0, 0), []), (70, (.istore 5, 72, 0, 0, 0), []), (72, (.iload 5, 74, 0, 0, 0), []), (74, (.iconst 5, 75, 0, 0, 0), []), (75, (.if_icmp .ge 63, 78, 138, 0, 0), []), (78, (.iload_n 2, 79, 0, 0, 0), []), (79, (.iload 5, 81, 0, 0, 0), [])],
  [(81, (.invokestatic 406, 84, 318, 18, 0), [9221, 9222, 1014]), (84, (.ifCond .eq 48, 87, 132, 0, 0), []), (87, (.iload 5, 89, 0, 0, 0), []), (89, (.aload_n 0, 90, 0, 0, 0), []), (90, (.getfield 20, 93, 11, 13, 0), [7095]), (93, (.bipush 68, 95, 0, 0, 0), []), (95, (.iaload, 96, 0, 0, 0), [])],
  [(96, (.if_icmp .ne 6, 99, 102, 0, 0), []), (99, (.goto 33, 102, 132, 0, 0), []), (102, (.iload_n 3, 103, 0, 0, 0), []), (103, (.aload_n 0, 104, 0, 0, 0), []), (104, (.getfield 20, 107, 11, 13, 0), [7095]), (107, (.bipush 10, 109, 0, 0, 0), []), (109, (.iload 5, 111, 0, 0, 0), []), (111, (.iadd, 112, 0, 0, 0), [])],
  [(112, (.iaload, 113, 0, 0, 0), []), (113, (.iadd, 114, 0, 0, 0), []), (114, (.istore_n 3, 115, 0, 0, 0), []), (115, (.iload 4, 117, 0, 0, 0), []), (117, (.aload_n 0, 118, 0, 0, 0), []), (118, (.getfield 20, 121, 11, 13, 0), [7095]), (121, (.bipush 10, 123, 0, 0, 0), []), (123, (.iload 5, 125, 0, 0, 0), []), (125, (.iadd, 126, 0, 0, 0), []), (126, (.iaload, 127, 0, 0, 0), []), (127, (.invokestatic 292, 130, 250, 18, 0), [8191, 8192, 1014])],
  [(130, (.istore 4, 132, 0, 0, 0), []), (132, (.iinc 5 1, 135, 0, 0, 0), []), (135, (.goto (-63), 138, 72, 0, 0), []), (138, (.aload_n 0, 139, 0, 0, 0), []), (139, (.getfield 20, 142, 11, 13, 0), [7095]), (142, (.bipush 68, 144, 0, 0, 0), [])],
  [(144, (.iaload, 145, 0, 0, 0), []), (145, (.iconst (-1), 146, 0, 0, 0), []), (146, (.if_icmp .ne 10, 149, 156, 0, 0), []), (149, (.iload_n 3, 150, 0, 0, 0), []), (150, (.iload 4, 152, 0, 0, 0), []), (152, (.isub, 153, 0, 0, 0), []), (153, (.goto 4, 156, 157, 0, 0), []), (156, (.iload_n 3, 157, 0, 0, 0), []), (157, (.ireturn, 158, 0, 0, 0), [])]]
-- PaintBankModel.has(II)Z
noncomputable def md_L318 : List (List mm_Ln) := [[(0, (.iload_n 0, 1, 0, 0, 0), []), (1, (.iload_n 1, 2, 0, 0, 0), []), (2, (.ishr, 3, 0, 0, 0), []), (3, (.iconst 1, 4, 0, 0, 0), []), (4, (.iand, 5, 0, 0, 0), []), (5, (.iconst 1, 6, 0, 0, 0), []), (6, (.if_icmp .ne 7, 9, 13, 0, 0), []), (9, (.iconst 1, 10, 0, 0, 0), []), (10, (.goto 4, 13, 14, 0, 0), []), (13, (.iconst 0, 14, 0, 0, 0), []), (14, (.ireturn, 15, 0, 0, 0), [])]]
-- PaintBankModel.bound()I
noncomputable def md_L319 : List (List mm_Ln) := [[(0, (.aload_n 0, 1, 0, 0, 0), []), (1, (.iconst 0, 2, 0, 0, 0), []), (2, (.putfield 90, 5, 11, 0, 0), [7082]), (5, (.aload_n 0, 6, 0, 0, 0), []), (6, (.iconst 0, 7, 0, 0, 0), []), (7, (.invokevirtual 409, 10, 317, 1, 11), [9217, 9219, 99, 1014]), (10, (.ireturn, 11, 0, 0, 0), [])]]
-- PaintBankModel.waitingChanges()I
noncomputable def md_L320 : List (List mm_Ln) := [[(0, (.aload_n 0, 1, 0, 0, 0), []), (1, (.iconst 0, 2, 0, 0, 0), []), (2, (.putfield 90, 5, 11, 0, 0), [7082]), (5, (.iconst 0, 6, 0, 0, 0), []), (6, (.istore_n 1, 7, 0, 0, 0), []), (7, (.iconst 1, 8, 0, 0, 0), []), (8, (.istore_n 2, 9, 0, 0, 0), []), (9, (.iload_n 2, 10, 0, 0, 0), []), (10, (.aload_n 0, 11, 0, 0, 0), []), (11, (.invokevirtual 418, 14, 321, 0, 11), [9232, 9234, 100, 1014]), (14, (.if_icmp .ge 35, 17, 49, 0, 0), [])],
  [(17, (.iload_n 1, 18, 0, 0, 0), []), (18, (.aload_n 0, 19, 0, 0, 0), []), (19, (.iload_n 2, 20, 0, 0, 0), []), (20, (.invokevirtual 412, 23, 322, 1, 11), [9236, 9238, 101, 1014]), (23, (.aload_n 0, 24, 0, 0, 0), []), (24, (.iload_n 2, 25, 0, 0, 0), []), (25, (.iconst 1, 26, 0, 0, 0), []), (26, (.isub, 27, 0, 0, 0), []), (27, (.invokevirtual 412, 30, 322, 1, 11), [9236, 9238, 101, 1014]), (30, (.if_icmp .eq 7, 33, 37, 0, 0), [])],
  [(33, (.iconst 1, 34, 0, 0, 0), []), (34, (.goto 4, 37, 38, 0, 0), []), (37, (.iconst 0, 38, 0, 0, 0), []), (38, (.invokestatic 93, 41, 207, 17, 0), [8003, 8004, 1014]), (41, (.iadd, 42, 0, 0, 0), []), (42, (.istore_n 1, 43, 0, 0, 0), []), (43, (.iinc 2 1, 46, 0, 0, 0), []), (46, (.goto (-37), 49, 9, 0, 0), [])],
  [(49, (.iload_n 1, 50, 0, 0, 0), []), (50, (.ireturn, 51, 0, 0, 0), [])]]
-- PaintBankModel.waits0()I
noncomputable def md_L321 : List (List mm_Ln) := [[(0, (.aload_n 0, 1, 0, 0, 0), []), (1, (.getfield 20, 4, 11, 13, 0), [7095]), (4, (.iconst 2, 5, 0, 0, 0), []), (5, (.iaload, 6, 0, 0, 0), []), (6, (.aload_n 0, 7, 0, 0, 0), []), (7, (.getfield 20, 10, 11, 13, 0), [7095]), (10, (.bipush 73, 12, 0, 0, 0), []), (12, (.iaload, 13, 0, 0, 0), []), (13, (.isub, 14, 0, 0, 0), []), (14, (.ireturn, 15, 0, 0, 0), [])]]
-- PaintBankModel.jobColor(I)I
noncomputable def md_L322 : List (List mm_Ln) := [[(0, (.aload_n 0, 1, 0, 0, 0), []), (1, (.getfield 20, 4, 11, 13, 0), [7095]), (4, (.bipush 31, 6, 0, 0, 0), []), (6, (.aload_n 0, 7, 0, 0, 0), []), (7, (.getfield 20, 10, 11, 13, 0), [7095]), (10, (.bipush 73, 12, 0, 0, 0), []), (12, (.iaload, 13, 0, 0, 0), []), (13, (.iadd, 14, 0, 0, 0), []), (14, (.iload_n 1, 15, 0, 0, 0), []), (15, (.iadd, 16, 0, 0, 0), [])],
  [(16, (.iaload, 17, 0, 0, 0), []), (17, (.ireturn, 18, 0, 0, 0), [])]]
-- PaintBankModel.swapChanges()I
noncomputable def md_L323 : List (List mm_Ln) := [[(0, (.aload_n 0, 1, 0, 0, 0), []), (1, (.iconst 0, 2, 0, 0, 0), []), (2, (.putfield 90, 5, 11, 0, 0), [7082]), (5, (.aload_n 0, 6, 0, 0, 0), []), (6, (.invokevirtual 437, 9, 324, 0, 11), [10004, 10006, 102, 1014]), (9, (.ireturn, 10, 0, 0, 0), [])]]
-- PaintBankModel.laysSwap()I
noncomputable def md_L324 : List (List mm_Ln) := [[(0, (.aload_n 0, 1, 0, 0, 0), []), (1, (.invokevirtual 431, 4, 325, 0, 11), [10008, 10010, 103, 1014]), (4, (.aload_n 0, 5, 0, 0, 0), []), (5, (.getfield 55, 8, 11, 33, 0), [7115]), (8, (.iconst 5, 9, 0, 0, 0), []), (9, (.iaload, 10, 0, 0, 0), []), (10, (.istore_n 1, 11, 0, 0, 0), []), (11, (.iconst 5, 12, 0, 0, 0), []), (12, (.istore_n 2, 13, 0, 0, 0), []), (13, (.iconst 0, 14, 0, 0, 0), []), (14, (.istore_n 3, 15, 0, 0, 0), []), (15, (.iload_n 3, 16, 0, 0, 0), [])],
  [(16, (.sipush 4096, 19, 0, 0, 0), []), (19, (.if_icmp .ge 24, 22, 43, 0, 0), []), (22, (.aload_n 0, 23, 0, 0, 0), []), (23, (.getfield 58, 26, 11, 34, 0), [7116]), (26, (.iload_n 3, 27, 0, 0, 0), []), (27, (.iload_n 3, 28, 0, 0, 0), []), (28, (.ifCond .ne 7, 31, 35, 0, 0), []), (31, (.iconst 1, 32, 0, 0, 0), [])],
  [(32, (.goto 4, 35, 36, 0, 0), []), (35, (.iconst 0, 36, 0, 0, 0), []), (36, (.bastore, 37, 0, 0, 0), []), (37, (.iinc 3 1, 40, 0, 0, 0), []), (40, (.goto (-25), 43, 15, 0, 0), []), (43, (.iload_n 1, 44, 0, 0, 0), []), (44, (.istore_n 3, 45, 0, 0, 0), []), (45, (.iconst 0, 46, 0, 0, 0), []), (46, (.istore 4, 48, 0, 0, 0), [])],
  [(48, (.iload 4, 50, 0, 0, 0), []), (50, (.aload_n 0, 51, 0, 0, 0), []), (51, (.invokevirtual 418, 54, 321, 0, 11), [9232, 9234, 100, 1014]), (54, (.if_icmp .ge 47, 57, 101, 0, 0), []), (57, (.aload_n 0, 58, 0, 0, 0), []), (58, (.getfield 65, 61, 11, 36, 0), [7118]), (61, (.iload 4, 63, 0, 0, 0), []), (63, (.aload_n 0, 64, 0, 0, 0), [])],
  [(64, (.iload 4, 66, 0, 0, 0), []), (66, (.iload_n 2, 67, 0, 0, 0), []), (67, (.iload_n 3, 68, 0, 0, 0), []), (68, (.invokevirtual 434, 71, 330, 3, 11), [10027, 10029, 107, 1014]), (71, (.iastore, 72, 0, 0, 0), []), (72, (.iload_n 3, 73, 0, 0, 0), []), (73, (.aload_n 0, 74, 0, 0, 0), []), (74, (.iload_n 2, 75, 0, 0, 0), []), (75, (.aload_n 0, 76, 0, 0, 0), []), (76, (.getfield 65, 79, 11, 36, 0), [7118]), (79, (.iload 4, 81, 0, 0, 0), [])],
  [(81, (.iaload, 82, 0, 0, 0), []), (82, (.invokevirtual 415, 85, 329, 2, 11), [10023, 10025, 106, 1014]), (85, (.isub, 86, 0, 0, 0), []), (86, (.istore_n 3, 87, 0, 0, 0), []), (87, (.aload_n 0, 88, 0, 0, 0), []), (88, (.getfield 65, 91, 11, 36, 0), [7118]), (91, (.iload 4, 93, 0, 0, 0), []), (93, (.iaload, 94, 0, 0, 0), []), (94, (.istore_n 2, 95, 0, 0, 0), []), (95, (.iinc 4 1, 98, 0, 0, 0), [])],
  [(98, (.goto (-50), 101, 48, 0, 0), []), (101, (.iload_n 1, 102, 0, 0, 0), []), (102, (.ireturn, 103, 0, 0, 0), [])]]
-- PaintBankModel.laysFewest()V
noncomputable def md_L325 : List (List mm_Ln) := [[(0, (.iconst 1, 1, 0, 0, 0), []), (1, (.aload_n 0, 2, 0, 0, 0), []), (2, (.invokevirtual 418, 5, 321, 0, 11), [9232, 9234, 100, 1014]), (5, (.ishl, 6, 0, 0, 0), []), (6, (.iconst 1, 7, 0, 0, 0), []), (7, (.isub, 8, 0, 0, 0), []), (8, (.istore_n 1, 9, 0, 0, 0), []), (9, (.iload_n 1, 10, 0, 0, 0), []), (10, (.istore_n 2, 11, 0, 0, 0), []), (11, (.iload_n 2, 12, 0, 0, 0), []), (12, (.ifCond .lt 103, 15, 115, 0, 0), []), (15, (.iload_n 2, 16, 0, 0, 0), [])],
  [(16, (.invokestatic 421, 19, 326, 17, 0), [10012, 10013, 1014]), (19, (.istore_n 3, 20, 0, 0, 0), []), (20, (.iconst 0, 21, 0, 0, 0), []), (21, (.istore 4, 23, 0, 0, 0), []), (23, (.iload 4, 25, 0, 0, 0), []), (25, (.bipush 6, 27, 0, 0, 0), []), (27, (.if_icmp .ge 82, 30, 109, 0, 0), []), (30, (.iload_n 2, 31, 0, 0, 0), []), (31, (.iload_n 1, 32, 0, 0, 0), [])],
  [(32, (.if_icmp .ne 7, 35, 39, 0, 0), []), (35, (.iconst 0, 36, 0, 0, 0), []), (36, (.goto 6, 39, 42, 0, 0), []), (39, (.ldc_w 360, 42, 0, 1000000, 0), [9171]), (42, (.istore 5, 44, 0, 0, 0), []), (44, (.iconst 0, 45, 0, 0, 0), []), (45, (.istore 6, 47, 0, 0, 0), []), (47, (.iload 6, 49, 0, 0, 0), [])],
  [(49, (.aload_n 0, 50, 0, 0, 0), []), (50, (.invokevirtual 418, 53, 321, 0, 11), [9232, 9234, 100, 1014]), (53, (.if_icmp .ge 36, 56, 89, 0, 0), []), (56, (.aload_n 0, 57, 0, 0, 0), []), (57, (.iload_n 2, 58, 0, 0, 0), []), (58, (.iload_n 3, 59, 0, 0, 0), []), (59, (.iload 6, 61, 0, 0, 0), []), (61, (.invokevirtual 424, 64, 327, 3, 11), [10015, 10017, 104, 1014])],
  [(64, (.ifCond .eq 19, 67, 83, 0, 0), []), (67, (.iload 5, 69, 0, 0, 0), []), (69, (.aload_n 0, 70, 0, 0, 0), []), (70, (.iload_n 2, 71, 0, 0, 0), []), (71, (.iload 4, 73, 0, 0, 0), []), (73, (.iload 6, 75, 0, 0, 0), []), (75, (.invokevirtual 428, 78, 328, 3, 11), [10019, 10021, 105, 1014]), (78, (.invokestatic 376, 81, 309, 18, 0), [9186, 9187, 1014])],
  [(81, (.istore 5, 83, 0, 0, 0), []), (83, (.iinc 6 1, 86, 0, 0, 0), []), (86, (.goto (-39), 89, 47, 0, 0), []), (89, (.aload_n 0, 90, 0, 0, 0), []), (90, (.getfield 55, 93, 11, 33, 0), [7115]), (93, (.bipush 6, 95, 0, 0, 0), []), (95, (.iload_n 2, 96, 0, 0, 0), [])],
  [(96, (.imul, 97, 0, 0, 0), []), (97, (.iload 4, 99, 0, 0, 0), []), (99, (.iadd, 100, 0, 0, 0), []), (100, (.iload 5, 102, 0, 0, 0), []), (102, (.iastore, 103, 0, 0, 0), []), (103, (.iinc 4 1, 106, 0, 0, 0), []), (106, (.goto (-83), 109, 23, 0, 0), []), (109, (.iinc 2 (-1), 112, 0, 0, 0), [])],
  [(112, (.goto (-101), 115, 11, 0, 0), []), (115, (.return_, 116, 0, 0, 0), [])]]
-- PaintBankModel.ones(I)I
noncomputable def md_L326 : List (List mm_Ln) := [[(0, (.iconst 0, 1, 0, 0, 0), []), (1, (.istore_n 1, 2, 0, 0, 0), []), (2, (.iload_n 0, 3, 0, 0, 0), []), (3, (.istore_n 2, 4, 0, 0, 0), []), (4, (.iload_n 2, 5, 0, 0, 0), []), (5, (.ifCond .eq 15, 8, 20, 0, 0), []), (8, (.iinc 1 1, 11, 0, 0, 0), []), (11, (.iload_n 2, 12, 0, 0, 0), []), (12, (.iload_n 2, 13, 0, 0, 0), []), (13, (.iconst 1, 14, 0, 0, 0), []), (14, (.isub, 15, 0, 0, 0), []), (15, (.iand, 16, 0, 0, 0), [])],
  [(16, (.istore_n 2, 17, 0, 0, 0), []), (17, (.goto (-13), 20, 4, 0, 0), []), (20, (.iload_n 1, 21, 0, 0, 0), []), (21, (.ireturn, 22, 0, 0, 0), [])]]
-- PaintBankModel.isJob(III)Z
noncomputable def md_L327 : List (List mm_Ln) := [[(0, (.iload_n 2, 1, 0, 0, 0), []), (1, (.iload_n 3, 2, 0, 0, 0), []), (2, (.if_icmp .ge 9, 5, 11, 0, 0), []), (5, (.iload_n 3, 6, 0, 0, 0), []), (6, (.iload_n 2, 7, 0, 0, 0), []), (7, (.isub, 8, 0, 0, 0), []), (8, (.goto 6, 11, 14, 0, 0), []), (11, (.iload_n 2, 12, 0, 0, 0), []), (12, (.iload_n 3, 13, 0, 0, 0), []), (13, (.isub, 14, 0, 0, 0), []), (14, (.istore 4, 16, 0, 0, 0), [])],
  [(16, (.iload_n 1, 17, 0, 0, 0), []), (17, (.iload_n 3, 18, 0, 0, 0), []), (18, (.invokestatic 406, 21, 318, 18, 0), [9221, 9222, 1014]), (21, (.ifCond .ne 56, 24, 77, 0, 0), []), (24, (.iload 4, 26, 0, 0, 0), []), (26, (.aload_n 0, 27, 0, 0, 0), []), (27, (.getfield 20, 30, 11, 13, 0), [7095]), (30, (.bipush 9, 32, 0, 0, 0), [])],
  [(32, (.iaload, 33, 0, 0, 0), []), (33, (.if_icmp .gt 44, 36, 77, 0, 0), []), (36, (.aload_n 0, 37, 0, 0, 0), []), (37, (.getfield 20, 40, 11, 13, 0), [7095]), (40, (.bipush 19, 42, 0, 0, 0), []), (42, (.aload_n 0, 43, 0, 0, 0), []), (43, (.getfield 20, 46, 11, 13, 0), [7095]), (46, (.bipush 73, 48, 0, 0, 0), [])],
  [(48, (.iaload, 49, 0, 0, 0), []), (49, (.iadd, 50, 0, 0, 0), []), (50, (.iload_n 2, 51, 0, 0, 0), []), (51, (.iadd, 52, 0, 0, 0), []), (52, (.iaload, 53, 0, 0, 0), []), (53, (.aload_n 0, 54, 0, 0, 0), []), (54, (.getfield 20, 57, 11, 13, 0), [7095]), (57, (.bipush 19, 59, 0, 0, 0), []), (59, (.aload_n 0, 60, 0, 0, 0), []), (60, (.getfield 20, 63, 11, 13, 0), [7095]), (63, (.bipush 73, 65, 0, 0, 0), [])],
  [(65, (.iaload, 66, 0, 0, 0), []), (66, (.iadd, 67, 0, 0, 0), []), (67, (.iload_n 3, 68, 0, 0, 0), []), (68, (.iadd, 69, 0, 0, 0), []), (69, (.iaload, 70, 0, 0, 0), []), (70, (.if_icmp .ne 7, 73, 77, 0, 0), []), (73, (.iconst 1, 74, 0, 0, 0), []), (74, (.goto 4, 77, 78, 0, 0), []), (77, (.iconst 0, 78, 0, 0, 0), []), (78, (.ireturn, 79, 0, 0, 0), [])]]
-- PaintBankModel.fewestBy(III)I
noncomputable def md_L328 : List (List mm_Ln) := [[(0, (.aload_n 0, 1, 0, 0, 0), []), (1, (.getfield 55, 4, 11, 33, 0), [7115]), (4, (.bipush 6, 6, 0, 0, 0), []), (6, (.iload_n 1, 7, 0, 0, 0), []), (7, (.iconst 1, 8, 0, 0, 0), []), (8, (.iload_n 3, 9, 0, 0, 0), []), (9, (.ishl, 10, 0, 0, 0), []), (10, (.ior, 11, 0, 0, 0), []), (11, (.imul, 12, 0, 0, 0), []), (12, (.aload_n 0, 13, 0, 0, 0), []), (13, (.iload_n 3, 14, 0, 0, 0), []), (14, (.invokevirtual 412, 17, 322, 1, 11), [9236, 9238, 101, 1014])],
  [(17, (.iadd, 18, 0, 0, 0), []), (18, (.iaload, 19, 0, 0, 0), []), (19, (.istore 4, 21, 0, 0, 0), []), (21, (.iload 4, 23, 0, 0, 0), []), (23, (.ldc_w 360, 26, 0, 1000000, 0), [9171]), (26, (.if_icmp .ne 9, 29, 35, 0, 0), []), (29, (.ldc_w 360, 32, 0, 1000000, 0), [9171])],
  [(32, (.goto 16, 35, 48, 0, 0), []), (35, (.aload_n 0, 36, 0, 0, 0), []), (36, (.iload_n 2, 37, 0, 0, 0), []), (37, (.aload_n 0, 38, 0, 0, 0), []), (38, (.iload_n 3, 39, 0, 0, 0), []), (39, (.invokevirtual 412, 42, 322, 1, 11), [9236, 9238, 101, 1014]), (42, (.invokevirtual 415, 45, 329, 2, 11), [10023, 10025, 106, 1014]), (45, (.iload 4, 47, 0, 0, 0), []), (47, (.iadd, 48, 0, 0, 0), [])],
  [(48, (.ireturn, 49, 0, 0, 0), [])]]
-- PaintBankModel.differs(II)I
noncomputable def md_L329 : List (List mm_Ln) := [[(0, (.iload_n 1, 1, 0, 0, 0), []), (1, (.iconst 5, 2, 0, 0, 0), []), (2, (.if_icmp .eq 12, 5, 14, 0, 0), []), (5, (.iload_n 1, 6, 0, 0, 0), []), (6, (.iload_n 2, 7, 0, 0, 0), []), (7, (.if_icmp .eq 7, 10, 14, 0, 0), []), (10, (.iconst 1, 11, 0, 0, 0), []), (11, (.goto 4, 14, 15, 0, 0), []), (14, (.iconst 0, 15, 0, 0, 0), []), (15, (.invokestatic 93, 18, 207, 17, 0), [8003, 8004, 1014])],
  [(18, (.ireturn, 19, 0, 0, 0), [])]]
-- PaintBankModel.laysNext(III)I
noncomputable def md_L330 : List (List mm_Ln) := [[(0, (.iconst 1, 1, 0, 0, 0), []), (1, (.aload_n 0, 2, 0, 0, 0), []), (2, (.invokevirtual 418, 5, 321, 0, 11), [9232, 9234, 100, 1014]), (5, (.ishl, 6, 0, 0, 0), []), (6, (.istore 4, 8, 0, 0, 0), []), (8, (.iconst 5, 9, 0, 0, 0), []), (9, (.istore 5, 11, 0, 0, 0), []), (11, (.iconst 0, 12, 0, 0, 0), []), (12, (.istore 6, 14, 0, 0, 0), []), (14, (.iload 6, 16, 0, 0, 0), [])],
  [(16, (.iload 4, 18, 0, 0, 0), []), (18, (.if_icmp .ge 75, 21, 93, 0, 0), []), (21, (.iconst 0, 22, 0, 0, 0), []), (22, (.istore 7, 24, 0, 0, 0), []), (24, (.iload 7, 26, 0, 0, 0), []), (26, (.aload_n 0, 27, 0, 0, 0), []), (27, (.invokevirtual 418, 30, 321, 0, 11), [9232, 9234, 100, 1014]), (30, (.if_icmp .ge 57, 33, 87, 0, 0), [])],
  [(33, (.aload_n 0, 34, 0, 0, 0), []), (34, (.getfield 58, 37, 11, 34, 0), [7116]), (37, (.iload 6, 39, 0, 0, 0), []), (39, (.baload, 40, 0, 0, 0), []), (40, (.ifCond .eq 47, 43, 87, 0, 0), []), (43, (.aload_n 0, 44, 0, 0, 0), []), (44, (.iload 6, 46, 0, 0, 0), []), (46, (.iload_n 1, 47, 0, 0, 0), []), (47, (.iload 7, 49, 0, 0, 0), [])],
  [(49, (.invokevirtual 424, 52, 327, 3, 11), [10015, 10017, 104, 1014]), (52, (.ifCond .eq 29, 55, 81, 0, 0), []), (55, (.aload_n 0, 56, 0, 0, 0), []), (56, (.iload 6, 58, 0, 0, 0), []), (58, (.iload_n 2, 59, 0, 0, 0), []), (59, (.iload 7, 61, 0, 0, 0), []), (61, (.invokevirtual 428, 64, 328, 3, 11), [10019, 10021, 105, 1014])],
  [(64, (.iload_n 3, 65, 0, 0, 0), []), (65, (.if_icmp .ne 16, 68, 81, 0, 0), []), (68, (.iload 5, 70, 0, 0, 0), []), (70, (.aload_n 0, 71, 0, 0, 0), []), (71, (.iload 7, 73, 0, 0, 0), []), (73, (.invokevirtual 412, 76, 322, 1, 11), [9236, 9238, 101, 1014]), (76, (.invokestatic 376, 79, 309, 18, 0), [9186, 9187, 1014]), (79, (.istore 5, 81, 0, 0, 0), [])],
  [(81, (.iinc 7 1, 84, 0, 0, 0), []), (84, (.goto (-60), 87, 24, 0, 0), []), (87, (.iinc 6 1, 90, 0, 0, 0), []), (90, (.goto (-76), 93, 14, 0, 0), []), (93, (.iconst 0, 94, 0, 0, 0), []), (94, (.istore 6, 96, 0, 0, 0), [])],
  [(96, (.iload 6, 98, 0, 0, 0), []), (98, (.iload 4, 100, 0, 0, 0), []), (100, (.if_icmp .ge 17, 103, 117, 0, 0), []), (103, (.aload_n 0, 104, 0, 0, 0), []), (104, (.getfield 62, 107, 11, 35, 0), [7117]), (107, (.iload 6, 109, 0, 0, 0), []), (109, (.iconst 0, 110, 0, 0, 0), []), (110, (.bastore, 111, 0, 0, 0), []), (111, (.iinc 6 1, 114, 0, 0, 0), [])],
  [(114, (.goto (-18), 117, 96, 0, 0), []), (117, (.iconst 0, 118, 0, 0, 0), []), (118, (.istore 6, 120, 0, 0, 0), []), (120, (.iload 6, 122, 0, 0, 0), []), (122, (.iload 4, 124, 0, 0, 0), []), (124, (.if_icmp .ge 86, 127, 210, 0, 0), []), (127, (.iconst 0, 128, 0, 0, 0), [])],
  [(128, (.istore 7, 130, 0, 0, 0), []), (130, (.iload 7, 132, 0, 0, 0), []), (132, (.aload_n 0, 133, 0, 0, 0), []), (133, (.invokevirtual 418, 136, 321, 0, 11), [9232, 9234, 100, 1014]), (136, (.if_icmp .ge 68, 139, 204, 0, 0), []), (139, (.aload_n 0, 140, 0, 0, 0), []), (140, (.getfield 58, 143, 11, 34, 0), [7116]), (143, (.iload 6, 145, 0, 0, 0), [])],
  [(145, (.baload, 146, 0, 0, 0), []), (146, (.ifCond .eq 58, 149, 204, 0, 0), []), (149, (.aload_n 0, 150, 0, 0, 0), []), (150, (.iload 6, 152, 0, 0, 0), []), (152, (.iload_n 1, 153, 0, 0, 0), []), (153, (.iload 7, 155, 0, 0, 0), []), (155, (.invokevirtual 424, 158, 327, 3, 11), [10015, 10017, 104, 1014]), (158, (.ifCond .eq 40, 161, 198, 0, 0), [])],
  [(161, (.aload_n 0, 162, 0, 0, 0), []), (162, (.iload 7, 164, 0, 0, 0), []), (164, (.invokevirtual 412, 167, 322, 1, 11), [9236, 9238, 101, 1014]), (167, (.iload 5, 169, 0, 0, 0), []), (169, (.if_icmp .ne 29, 172, 198, 0, 0), []), (172, (.aload_n 0, 173, 0, 0, 0), []), (173, (.iload 6, 175, 0, 0, 0), []), (175, (.iload_n 2, 176, 0, 0, 0), [])],
  [(176, (.iload 7, 178, 0, 0, 0), []), (178, (.invokevirtual 428, 181, 328, 3, 11), [10019, 10021, 105, 1014]), (181, (.iload_n 3, 182, 0, 0, 0), []), (182, (.if_icmp .ne 16, 185, 198, 0, 0), []), (185, (.aload_n 0, 186, 0, 0, 0), []), (186, (.getfield 62, 189, 11, 35, 0), [7117]), (189, (.iload 6, 191, 0, 0, 0), []), (191, (.iconst 1, 192, 0, 0, 0), [])],
  [(192, (.iload 7, 194, 0, 0, 0), []), (194, (.ishl, 195, 0, 0, 0), []), (195, (.ior, 196, 0, 0, 0), []), (196, (.iconst 1, 197, 0, 0, 0), []), (197, (.bastore, 198, 0, 0, 0), []), (198, (.iinc 7 1, 201, 0, 0, 0), []), (201, (.goto (-71), 204, 130, 0, 0), []), (204, (.iinc 6 1, 207, 0, 0, 0), []), (207, (.goto (-87), 210, 120, 0, 0), [])],
  [(210, (.iconst 0, 211, 0, 0, 0), []), (211, (.istore 6, 213, 0, 0, 0), []), (213, (.iload 6, 215, 0, 0, 0), []), (215, (.iload 4, 217, 0, 0, 0), []), (217, (.if_icmp .ge 23, 220, 240, 0, 0), []), (220, (.aload_n 0, 221, 0, 0, 0), []), (221, (.getfield 58, 224, 11, 34, 0), [7116])],
  [(224, (.iload 6, 226, 0, 0, 0), []), (226, (.aload_n 0, 227, 0, 0, 0), []), (227, (.getfield 62, 230, 11, 35, 0), [7117]), (230, (.iload 6, 232, 0, 0, 0), []), (232, (.baload, 233, 0, 0, 0), []), (233, (.bastore, 234, 0, 0, 0), []), (234, (.iinc 6 1, 237, 0, 0, 0), []), (237, (.goto (-24), 240, 213, 0, 0), [])],
  [(240, (.iload 5, 242, 0, 0, 0), []), (242, (.ireturn, 243, 0, 0, 0), [])]]
-- PaintBankModel.swapColor(I)I
noncomputable def md_L331 : List (List mm_Ln) := [[(0, (.aload_n 0, 1, 0, 0, 0), []), (1, (.iconst 0, 2, 0, 0, 0), []), (2, (.putfield 90, 5, 11, 0, 0), [7082]), (5, (.iload_n 1, 6, 0, 0, 0), []), (6, (.i2l, 7, 0, 0, 0), []), (7, (.lconst 0, 8, 0, 0, 0), []), (8, (.aload_n 0, 9, 0, 0, 0), []), (9, (.invokevirtual 418, 12, 321, 0, 11), [9232, 9234, 100, 1014]), (12, (.iconst 1, 13, 0, 0, 0), []), (13, (.isub, 14, 0, 0, 0), []), (14, (.i2l, 15, 0, 0, 0), []), (15, (.invokestatic 108, 18, 210, 19, 0), [8014, 8015, 1014])],
  [(18, (.ifCond .ne 5, 21, 23, 0, 0), []), (21, (.iconst (-1), 22, 0, 0, 0), []), (22, (.ireturn, 23, 0, 0, 0), []), (23, (.aload_n 0, 24, 0, 0, 0), []), (24, (.invokevirtual 437, 27, 324, 0, 11), [10004, 10006, 102, 1014]), (27, (.istore_n 2, 28, 0, 0, 0), []), (28, (.aload_n 0, 29, 0, 0, 0), []), (29, (.getfield 65, 32, 11, 36, 0), [7118])],
  [(32, (.iload_n 1, 33, 0, 0, 0), []), (33, (.iaload, 34, 0, 0, 0), []), (34, (.ireturn, 35, 0, 0, 0), [])]]
-- PaintBankModel.swap()I
noncomputable def md_L332 : List (List mm_Ln) := [[(0, (.aload_n 0, 1, 0, 0, 0), []), (1, (.iconst 0, 2, 0, 0, 0), []), (2, (.putfield 90, 5, 11, 0, 0), [7082]), (5, (.aload_n 0, 6, 0, 0, 0), []), (6, (.getfield 20, 9, 11, 13, 0), [7095]), (9, (.aload_n 0, 10, 0, 0, 0), []), (10, (.getfield 26, 13, 11, 15, 0), [7097]), (13, (.invokestatic 274, 16, 238, 18, 0), [8143, 8144, 1014])],
  [(16, (.aload_n 0, 17, 0, 0, 0), []), (17, (.invokevirtual 440, 20, 333, 0, 11), [10039, 10041, 108, 1014]), (20, (.istore_n 1, 21, 0, 0, 0), []), (21, (.iload_n 1, 22, 0, 0, 0), []), (22, (.ifCond .ne 5, 25, 27, 0, 0), []), (25, (.iconst (-1), 26, 0, 0, 0), []), (26, (.ireturn, 27, 0, 0, 0), []), (27, (.aload_n 0, 28, 0, 0, 0), []), (28, (.invokevirtual 403, 31, 315, 0, 11), [9209, 9211, 98, 1014]), (31, (.iload_n 1, 32, 0, 0, 0), [])],
  [(32, (.ireturn, 33, 0, 0, 0), [])]]
-- PaintBankModel.swaps()I
noncomputable def md_L333 : List (List mm_Ln) := [[(0, (.aload_n 0, 1, 0, 0, 0), []), (1, (.invokevirtual 437, 4, 324, 0, 11), [10004, 10006, 102, 1014]), (4, (.istore_n 1, 5, 0, 0, 0), []), (5, (.iconst 0, 6, 0, 0, 0), []), (6, (.istore_n 2, 7, 0, 0, 0), []), (7, (.iconst 0, 8, 0, 0, 0), []), (8, (.istore_n 3, 9, 0, 0, 0), []), (9, (.iload_n 3, 10, 0, 0, 0), []), (10, (.aload_n 0, 11, 0, 0, 0), []), (11, (.invokevirtual 418, 14, 321, 0, 11), [9232, 9234, 100, 1014]), (14, (.if_icmp .ge 57, 17, 71, 0, 0), [])],
  [(17, (.iload_n 2, 18, 0, 0, 0), []), (18, (.aload_n 0, 19, 0, 0, 0), []), (19, (.getfield 65, 22, 11, 36, 0), [7118]), (22, (.iload_n 3, 23, 0, 0, 0), []), (23, (.iaload, 24, 0, 0, 0), []), (24, (.aload_n 0, 25, 0, 0, 0), []), (25, (.iload_n 3, 26, 0, 0, 0), []), (26, (.invokevirtual 412, 29, 322, 1, 11), [9236, 9238, 101, 1014]), (29, (.if_icmp .eq 7, 32, 36, 0, 0), [])],
  [(32, (.iconst 1, 33, 0, 0, 0), []), (33, (.goto 4, 36, 37, 0, 0), []), (36, (.iconst 0, 37, 0, 0, 0), []), (37, (.invokestatic 93, 40, 207, 17, 0), [8003, 8004, 1014]), (40, (.iadd, 41, 0, 0, 0), []), (41, (.istore_n 2, 42, 0, 0, 0), []), (42, (.aload_n 0, 43, 0, 0, 0), []), (43, (.getfield 20, 46, 11, 13, 0), [7095]), (46, (.bipush 31, 48, 0, 0, 0), [])],
  [(48, (.aload_n 0, 49, 0, 0, 0), []), (49, (.getfield 20, 52, 11, 13, 0), [7095]), (52, (.bipush 73, 54, 0, 0, 0), []), (54, (.iaload, 55, 0, 0, 0), []), (55, (.iadd, 56, 0, 0, 0), []), (56, (.iload_n 3, 57, 0, 0, 0), []), (57, (.iadd, 58, 0, 0, 0), []), (58, (.aload_n 0, 59, 0, 0, 0), []), (59, (.getfield 65, 62, 11, 36, 0), [7118]), (62, (.iload_n 3, 63, 0, 0, 0), []), (63, (.iaload, 64, 0, 0, 0), [])],
  [(64, (.iastore, 65, 0, 0, 0), []), (65, (.iinc 3 1, 68, 0, 0, 0), []), (68, (.goto (-59), 71, 9, 0, 0), []), (71, (.iload_n 2, 72, 0, 0, 0), []), (72, (.ireturn, 73, 0, 0, 0), [])]]
-- PaintBankModel.runScript()I
noncomputable def md_L334 : List (List mm_Ln) := [[(0, (.aload_n 0, 1, 0, 0, 0), []), (1, (.invokevirtual 259, 4, 214, 0, 11), [8029, 8031, 43, 1014]), (4, (.aload_n 0, 5, 0, 0, 0), []), (5, (.iconst 0, 6, 0, 0, 0), []), (6, (.putfield 443, 9, 11, 42, 0), [7124]), (9, (.aload_n 0, 10, 0, 0, 0), []), (10, (.iconst 0, 11, 0, 0, 0), []), (11, (.putfield 452, 14, 11, 43, 0), [7125]), (14, (.aload_n 0, 15, 0, 0, 0), []), (15, (.iconst 0, 16, 0, 0, 0), [])],
  [(16, (.putfield 449, 19, 11, 44, 0), [7126]), (19, (.aload_n 0, 20, 0, 0, 0), []), (20, (.invokevirtual 152, 23, 219, 0, 11), [8047, 8049, 46, 1014]), (23, (.ifCond .eq 40, 26, 63, 0, 0), []), (26, (.aload_n 0, 27, 0, 0, 0), []), (27, (.getfield 132, 30, 11, 6, 0), [7088]), (30, (.ifCond .eq 33, 33, 63, 0, 0), [])],
  [(33, (.aload_n 0, 34, 0, 0, 0), []), (34, (.getfield 449, 37, 11, 44, 0), [7126]), (37, (.istore_n 1, 38, 0, 0, 0), []), (38, (.aload_n 0, 39, 0, 0, 0), []), (39, (.invokevirtual 470, 42, 335, 0, 11), [10047, 10049, 109, 1014]), (42, (.aload_n 0, 43, 0, 0, 0), []), (43, (.getfield 449, 46, 11, 44, 0), [7126]), (46, (.iload_n 1, 47, 0, 0, 0), []), (47, (.if_icmp .ne 9, 50, 56, 0, 0), [])],
  [(50, (.aload_n 0, 51, 0, 0, 0), []), (51, (.bipush 59, 53, 0, 0, 0), []), (53, (.invokevirtual 268, 56, 235, 1, 11), [8131, 8133, 62, 1014]), (56, (.aload_n 0, 57, 0, 0, 0), []), (57, (.invokevirtual 473, 60, 338, 0, 11), [10059, 10061, 112, 1014]), (60, (.goto (-41), 63, 19, 0, 0), []), (63, (.aload_n 0, 64, 0, 0, 0), [])],
  [(64, (.invokevirtual 152, 67, 219, 0, 11), [8047, 8049, 46, 1014]), (67, (.ifCond .eq 15, 70, 82, 0, 0), []), (70, (.aload_n 0, 71, 0, 0, 0), []), (71, (.getfield 449, 74, 11, 44, 0), [7126]), (74, (.ifCond .le 8, 77, 82, 0, 0), []), (77, (.aload_n 0, 78, 0, 0, 0), []), (78, (.iconst 1, 79, 0, 0, 0), []), (79, (.invokevirtual 159, 82, 224, 1, 11), [8068, 8070, 51, 1014])],
  [(82, (.aload_n 0, 83, 0, 0, 0), []), (83, (.invokevirtual 271, 86, 237, 0, 11), [8139, 8141, 64, 1014]), (86, (.ifCond .ne 5, 89, 91, 0, 0), []), (89, (.iconst 0, 90, 0, 0, 0), []), (90, (.ireturn, 91, 0, 0, 0), []), (91, (.aload_n 0, 92, 0, 0, 0), []), (92, (.getfield 20, 95, 11, 13, 0), [7095]), (95, (.aload_n 0, 96, 0, 0, 0), [])],
  [(96, (.getfield 80, 99, 11, 41, 0), [7123]), (99, (.invokestatic 274, 102, 238, 18, 0), [8143, 8144, 1014]), (102, (.aload_n 0, 103, 0, 0, 0), []), (103, (.iconst 0, 104, 0, 0, 0), []), (104, (.putfield 458, 107, 11, 45, 2), [7127]), (107, (.aload_n 0, 108, 0, 0, 0), []), (108, (.invokevirtual 476, 111, 339, 0, 11), [10063, 10065, 113, 1014]), (111, (.istore_n 1, 112, 0, 0, 0), [])],
  [(112, (.aload_n 0, 113, 0, 0, 0), []), (113, (.getfield 458, 116, 11, 45, 0), [7127]), (116, (.ifCond .ne 5, 119, 121, 0, 0), []), (119, (.iload_n 1, 120, 0, 0, 0), []), (120, (.ireturn, 121, 0, 0, 0), []), (121, (.aload_n 0, 122, 0, 0, 0), []), (122, (.getfield 80, 125, 11, 41, 0), [7123]), (125, (.aload_n 0, 126, 0, 0, 0), []), (126, (.getfield 26, 129, 11, 15, 0), [7097])],
  [(129, (.invokestatic 274, 132, 238, 18, 0), [8143, 8144, 1014]), (132, (.aload_n 0, 133, 0, 0, 0), []), (133, (.invokevirtual 403, 136, 315, 0, 11), [9209, 9211, 98, 1014]), (136, (.iload_n 1, 137, 0, 0, 0), []), (137, (.ireturn, 138, 0, 0, 0), [])]]
-- PaintBankModel.command()V
noncomputable def md_L335 : List (List mm_Ln) := [[(0, (.aload_n 0, 1, 0, 0, 0), []), (1, (.invokevirtual 446, 4, 336, 0, 11), [10051, 10053, 110, 1014]), (4, (.istore_n 1, 5, 0, 0, 0), []), (5, (.iload_n 1, 6, 0, 0, 0), []), (6, (.iconst (-1), 7, 0, 0, 0), []), (7, (.if_icmp .ne 8, 10, 15, 0, 0), []), (10, (.aload_n 0, 11, 0, 0, 0), []), (11, (.iconst 1, 12, 0, 0, 0), []), (12, (.invokevirtual 159, 15, 224, 1, 11), [8068, 8070, 51, 1014]), (15, (.iload_n 1, 16, 0, 0, 0), [])],
  [(16, (.bipush 7, 18, 0, 0, 0), []), (18, (.if_icmp .ne 16, 21, 34, 0, 0), []), (21, (.aload_n 0, 22, 0, 0, 0), []), (22, (.getfield 449, 25, 11, 44, 0), [7126]), (25, (.iconst 2, 26, 0, 0, 0), []), (26, (.if_icmp .ne 8, 29, 34, 0, 0), []), (29, (.aload_n 0, 30, 0, 0, 0), []), (30, (.iconst 3, 31, 0, 0, 0), []), (31, (.invokevirtual 159, 34, 224, 1, 11), [8068, 8070, 51, 1014])],
  [(34, (.aload_n 0, 35, 0, 0, 0), []), (35, (.getfield 452, 38, 11, 43, 0), [7125]), (38, (.bipush 40, 40, 0, 0, 0), []), (40, (.if_icmp .ne 8, 43, 48, 0, 0), []), (43, (.aload_n 0, 44, 0, 0, 0), []), (44, (.iconst 5, 45, 0, 0, 0), []), (45, (.invokevirtual 159, 48, 224, 1, 11), [8068, 8070, 51, 1014])],
  [(48, (.aload_n 0, 49, 0, 0, 0), []), (49, (.invokevirtual 152, 52, 219, 0, 11), [8047, 8049, 46, 1014]), (52, (.ifCond .ne 4, 55, 56, 0, 0), []), (55, (.return_, 56, 0, 0, 0), []), (56, (.aload_n 0, 57, 0, 0, 0), []), (57, (.dup, 58, 0, 0, 0), []), (58, (.getfield 452, 61, 11, 43, 0), [7125]), (61, (.iconst 1, 62, 0, 0, 0), []), (62, (.iadd, 63, 0, 0, 0), []), (63, (.putfield 452, 66, 11, 43, 0), [7125])],
  [(66, (.aload_n 0, 67, 0, 0, 0), []), (67, (.invokevirtual 149, 70, 215, 0, 11), [8033, 8035, 44, 1014]), (70, (.iload_n 1, 71, 0, 0, 0), []), (71, (.iconst 2, 72, 0, 0, 0), []), (72, (.if_icmp .gt 17, 75, 89, 0, 0), []), (75, (.aload_n 0, 76, 0, 0, 0), []), (76, (.iload_n 1, 77, 0, 0, 0), []), (77, (.aload_n 0, 78, 0, 0, 0), []), (78, (.iconst 0, 79, 0, 0, 0), []), (79, (.iconst 3, 80, 0, 0, 0), [])],
  [(80, (.invokevirtual 169, 83, 231, 2, 11), [8115, 8117, 58, 1014]), (83, (.invokevirtual 455, 86, 337, 2, 11), [10055, 10057, 111, 1014]), (86, (.goto 66, 89, 152, 0, 0), []), (89, (.iload_n 1, 90, 0, 0, 0), []), (90, (.iconst 4, 91, 0, 0, 0), []), (91, (.if_icmp .gt 18, 94, 109, 0, 0), []), (94, (.aload_n 0, 95, 0, 0, 0), []), (95, (.iload_n 1, 96, 0, 0, 0), [])],
  [(96, (.aload_n 0, 97, 0, 0, 0), []), (97, (.iconst 1, 98, 0, 0, 0), []), (98, (.bipush 99, 100, 0, 0, 0), []), (100, (.invokevirtual 169, 103, 231, 2, 11), [8115, 8117, 58, 1014]), (103, (.invokevirtual 455, 106, 337, 2, 11), [10055, 10057, 111, 1014]), (106, (.goto 46, 109, 152, 0, 0), []), (109, (.iload_n 1, 110, 0, 0, 0), []), (110, (.bipush 7, 112, 0, 0, 0), [])],
  [(112, (.if_icmp .ne 34, 115, 146, 0, 0), []), (115, (.aload_n 0, 116, 0, 0, 0), []), (116, (.iload_n 1, 117, 0, 0, 0), []), (117, (.aload_n 0, 118, 0, 0, 0), []), (118, (.iconst 1, 119, 0, 0, 0), []), (119, (.bipush 20, 121, 0, 0, 0), []), (121, (.invokevirtual 169, 124, 231, 2, 11), [8115, 8117, 58, 1014]), (124, (.invokevirtual 455, 127, 337, 2, 11), [10055, 10057, 111, 1014]), (127, (.aload_n 0, 128, 0, 0, 0), [])],
  [(128, (.bipush 40, 130, 0, 0, 0), []), (130, (.invokevirtual 268, 133, 235, 1, 11), [8131, 8133, 62, 1014]), (133, (.aload_n 0, 134, 0, 0, 0), []), (134, (.dup, 135, 0, 0, 0), []), (135, (.getfield 449, 138, 11, 44, 0), [7126]), (138, (.iconst 1, 139, 0, 0, 0), []), (139, (.iadd, 140, 0, 0, 0), []), (140, (.putfield 449, 143, 11, 44, 0), [7126]), (143, (.goto 9, 146, 152, 0, 0), [])],
  [(146, (.aload_n 0, 147, 0, 0, 0), []), (147, (.iload_n 1, 148, 0, 0, 0), []), (148, (.iconst 0, 149, 0, 0, 0), []), (149, (.invokevirtual 455, 152, 337, 2, 11), [10055, 10057, 111, 1014]), (152, (.return_, 153, 0, 0, 0), [])]]
-- PaintBankModel.commandHere()I
noncomputable def md_L336 : List (List mm_Ln) := [[(0, (.aload_n 0, 1, 0, 0, 0), []), (1, (.ldc2_w 197, 4, 5722290, 0, 0), [8091]), (4, (.invokevirtual 145, 7, 221, 1, 11), [8056, 8058, 48, 1014]), (7, (.ifCond .eq 5, 10, 12, 0, 0), []), (10, (.iconst 0, 11, 0, 0, 0), []), (11, (.ireturn, 12, 0, 0, 0), []), (12, (.aload_n 0, 13, 0, 0, 0), []), (13, (.ldc2_w 199, 16, 12748485, 0, 0), [8092])],
  [(16, (.invokevirtual 145, 19, 221, 1, 11), [8056, 8058, 48, 1014]), (19, (.ifCond .eq 5, 22, 24, 0, 0), []), (22, (.iconst 1, 23, 0, 0, 0), []), (23, (.ireturn, 24, 0, 0, 0), []), (24, (.aload_n 0, 25, 0, 0, 0), []), (25, (.ldc2_w 201, 28, 66667, 0, 0), [8093]), (28, (.invokevirtual 145, 31, 221, 1, 11), [8056, 8058, 48, 1014]), (31, (.ifCond .eq 5, 34, 36, 0, 0), [])],
  [(34, (.iconst 2, 35, 0, 0, 0), []), (35, (.ireturn, 36, 0, 0, 0), []), (36, (.aload_n 0, 37, 0, 0, 0), []), (37, (.ldc2_w 203, 40, 754996, 0, 0), [8094]), (40, (.invokevirtual 145, 43, 221, 1, 11), [8056, 8058, 48, 1014]), (43, (.ifCond .eq 5, 46, 48, 0, 0), []), (46, (.iconst 3, 47, 0, 0, 0), []), (47, (.ireturn, 48, 0, 0, 0), [])],
  [(48, (.aload_n 0, 49, 0, 0, 0), []), (49, (.ldc2_w 205, 52, 643248, 0, 0), [8095]), (52, (.invokevirtual 145, 55, 221, 1, 11), [8056, 8058, 48, 1014]), (55, (.ifCond .eq 5, 58, 60, 0, 0), []), (58, (.iconst 4, 59, 0, 0, 0), []), (59, (.ireturn, 60, 0, 0, 0), []), (60, (.aload_n 0, 61, 0, 0, 0), []), (61, (.ldc2_w 207, 64, 719731748, 0, 0), [8096])],
  [(64, (.invokevirtual 145, 67, 221, 1, 11), [8056, 8058, 48, 1014]), (67, (.ifCond .eq 5, 70, 72, 0, 0), []), (70, (.iconst 5, 71, 0, 0, 0), []), (71, (.ireturn, 72, 0, 0, 0), []), (72, (.aload_n 0, 73, 0, 0, 0), []), (73, (.ldc2_w 209, 76, 646192, 0, 0), [8097]), (76, (.invokevirtual 145, 79, 221, 1, 11), [8056, 8058, 48, 1014]), (79, (.ifCond .eq 6, 82, 85, 0, 0), [])],
  [(82, (.bipush 6, 84, 0, 0, 0), []), (84, (.ireturn, 85, 0, 0, 0), []), (85, (.aload_n 0, 86, 0, 0, 0), []), (86, (.ldc2_w 211, 89, 609752116, 0, 0), [8098]), (89, (.invokevirtual 145, 92, 221, 1, 11), [8056, 8058, 48, 1014]), (92, (.ifCond .eq 8, 95, 100, 0, 0), []), (95, (.bipush 7, 97, 0, 0, 0), [])],
  [(97, (.goto 4, 100, 101, 0, 0), []), (100, (.iconst (-1), 101, 0, 0, 0), []), (101, (.ireturn, 102, 0, 0, 0), [])]]
-- PaintBankModel.adds(II)V
noncomputable def md_L337 : List (List mm_Ln) := [[(0, (.aload_n 0, 1, 0, 0, 0), []), (1, (.invokevirtual 152, 4, 219, 0, 11), [8047, 8049, 46, 1014]), (4, (.ifCond .ne 4, 7, 8, 0, 0), []), (7, (.return_, 8, 0, 0, 0), []), (8, (.aload_n 0, 9, 0, 0, 0), []), (9, (.getfield 68, 12, 11, 37, 0), [7119]), (12, (.aload_n 0, 13, 0, 0, 0), []), (13, (.getfield 443, 16, 11, 42, 0), [7124])],
  [(16, (.iload_n 1, 17, 0, 0, 0), []), (17, (.iastore, 18, 0, 0, 0), []), (18, (.aload_n 0, 19, 0, 0, 0), []), (19, (.getfield 71, 22, 11, 38, 0), [7120]), (22, (.aload_n 0, 23, 0, 0, 0), []), (23, (.getfield 443, 26, 11, 42, 0), [7124]), (26, (.iload_n 2, 27, 0, 0, 0), []), (27, (.iastore, 28, 0, 0, 0), []), (28, (.aload_n 0, 29, 0, 0, 0), []), (29, (.dup, 30, 0, 0, 0), []), (30, (.getfield 443, 33, 11, 42, 0), [7124])],
  [(33, (.iconst 1, 34, 0, 0, 0), []), (34, (.iadd, 35, 0, 0, 0), []), (35, (.putfield 443, 38, 11, 42, 0), [7124]), (38, (.return_, 39, 0, 0, 0), [])]]
-- PaintBankModel.closes()V
noncomputable def md_L338 : List (List mm_Ln) := [[(0, (.aload_n 0, 1, 0, 0, 0), []), (1, (.getfield 449, 4, 11, 44, 0), [7126]), (4, (.ifCond .le 42, 7, 46, 0, 0), []), (7, (.aload_n 0, 8, 0, 0, 0), []), (8, (.bipush 41, 10, 0, 0, 0), []), (10, (.invokevirtual 162, 13, 236, 1, 11), [8135, 8137, 63, 1014]), (13, (.ifCond .eq 33, 16, 46, 0, 0), [])],
  [(16, (.aload_n 0, 17, 0, 0, 0), []), (17, (.dup, 18, 0, 0, 0), []), (18, (.getfield 449, 21, 11, 44, 0), [7126]), (21, (.iconst 1, 22, 0, 0, 0), []), (22, (.isub, 23, 0, 0, 0), []), (23, (.putfield 449, 26, 11, 44, 0), [7126]), (26, (.aload_n 0, 27, 0, 0, 0), []), (27, (.bipush 8, 29, 0, 0, 0), []), (29, (.iconst 0, 30, 0, 0, 0), []), (30, (.invokevirtual 455, 33, 337, 2, 11), [10055, 10057, 111, 1014])],
  [(33, (.aload_n 0, 34, 0, 0, 0), []), (34, (.invokevirtual 149, 37, 215, 0, 11), [8033, 8035, 44, 1014]), (37, (.aload_n 0, 38, 0, 0, 0), []), (38, (.bipush 59, 40, 0, 0, 0), []), (40, (.invokevirtual 268, 43, 235, 1, 11), [8131, 8133, 62, 1014]), (43, (.goto (-43), 46, 0, 0, 0), []), (46, (.return_, 47, 0, 0, 0), [])]]
-- PaintBankModel.runs()I
noncomputable def md_L339 : List (List mm_Ln) := [[(0, (.iconst 0, 1, 0, 0, 0), []), (1, (.istore_n 1, 2, 0, 0, 0), []), (2, (.iconst 0, 3, 0, 0, 0), []), (3, (.istore_n 2, 4, 0, 0, 0), []), (4, (.iconst 0, 5, 0, 0, 0), []), (5, (.istore_n 3, 6, 0, 0, 0), []), (6, (.iconst 1, 7, 0, 0, 0), []), (7, (.istore 4, 9, 0, 0, 0), []), (9, (.iload 4, 11, 0, 0, 0), []), (11, (.ifCond .eq 170, 14, 181, 0, 0), []), (14, (.iload_n 3, 15, 0, 0, 0), []), (15, (.aload_n 0, 16, 0, 0, 0), [])],
  [(16, (.getfield 443, 19, 11, 42, 0), [7124]), (19, (.if_icmp .ge 162, 22, 181, 0, 0), []), (22, (.iload_n 1, 23, 0, 0, 0), []), (23, (.bipush 100, 25, 0, 0, 0), []), (25, (.if_icmp .ge 156, 28, 181, 0, 0), []), (28, (.aload_n 0, 29, 0, 0, 0), []), (29, (.getfield 68, 32, 11, 37, 0), [7119])],
  [(32, (.iload_n 3, 33, 0, 0, 0), []), (33, (.iaload, 34, 0, 0, 0), []), (34, (.bipush 7, 36, 0, 0, 0), []), (36, (.if_icmp .ne 31, 39, 67, 0, 0), []), (39, (.aload_n 0, 40, 0, 0, 0), []), (40, (.getfield 74, 43, 11, 39, 0), [7121]), (43, (.iload_n 2, 44, 0, 0, 0), []), (44, (.iload_n 3, 45, 0, 0, 0), []), (45, (.iastore, 46, 0, 0, 0), []), (46, (.aload_n 0, 47, 0, 0, 0), []), (47, (.getfield 77, 50, 11, 40, 0), [7122])],
  [(50, (.iload_n 2, 51, 0, 0, 0), []), (51, (.aload_n 0, 52, 0, 0, 0), []), (52, (.getfield 71, 55, 11, 38, 0), [7120]), (55, (.iload_n 3, 56, 0, 0, 0), []), (56, (.iaload, 57, 0, 0, 0), []), (57, (.iastore, 58, 0, 0, 0), []), (58, (.iinc 2 1, 61, 0, 0, 0), []), (61, (.iinc 3 1, 64, 0, 0, 0), [])],
  [(64, (.goto (-55), 67, 9, 0, 0), []), (67, (.aload_n 0, 68, 0, 0, 0), []), (68, (.getfield 68, 71, 11, 37, 0), [7119]), (71, (.iload_n 3, 72, 0, 0, 0), []), (72, (.iaload, 73, 0, 0, 0), []), (73, (.bipush 8, 75, 0, 0, 0), []), (75, (.if_icmp .ne 74, 78, 149, 0, 0), []), (78, (.aload_n 0, 79, 0, 0, 0), []), (79, (.getfield 77, 82, 11, 40, 0), [7122])],
  [(82, (.iload_n 2, 83, 0, 0, 0), []), (83, (.iconst 1, 84, 0, 0, 0), []), (84, (.isub, 85, 0, 0, 0), []), (85, (.dup2, 86, 0, 0, 0), []), (86, (.iaload, 87, 0, 0, 0), []), (87, (.iconst 1, 88, 0, 0, 0), []), (88, (.isub, 89, 0, 0, 0), []), (89, (.iastore, 90, 0, 0, 0), []), (90, (.aload_n 0, 91, 0, 0, 0), []), (91, (.getfield 77, 94, 11, 40, 0), [7122]), (94, (.iload_n 2, 95, 0, 0, 0), []), (95, (.iconst 1, 96, 0, 0, 0), [])],
  [(96, (.isub, 97, 0, 0, 0), []), (97, (.iaload, 98, 0, 0, 0), []), (98, (.ifCond .le 7, 101, 105, 0, 0), []), (101, (.iconst 1, 102, 0, 0, 0), []), (102, (.goto 4, 105, 106, 0, 0), []), (105, (.iconst 0, 106, 0, 0, 0), []), (106, (.istore 5, 108, 0, 0, 0), []), (108, (.iload 5, 110, 0, 0, 0), []), (110, (.ifCond .eq 16, 113, 126, 0, 0), [])],
  [(113, (.aload_n 0, 114, 0, 0, 0), []), (114, (.getfield 74, 117, 11, 39, 0), [7121]), (117, (.iload_n 2, 118, 0, 0, 0), []), (118, (.iconst 1, 119, 0, 0, 0), []), (119, (.isub, 120, 0, 0, 0), []), (120, (.iaload, 121, 0, 0, 0), []), (121, (.iconst 1, 122, 0, 0, 0), []), (122, (.iadd, 123, 0, 0, 0), []), (123, (.goto 6, 126, 129, 0, 0), []), (126, (.iload_n 3, 127, 0, 0, 0), []), (127, (.iconst 1, 128, 0, 0, 0), [])],
  [(128, (.iadd, 129, 0, 0, 0), []), (129, (.istore_n 3, 130, 0, 0, 0), []), (130, (.iload_n 2, 131, 0, 0, 0), []), (131, (.iload 5, 133, 0, 0, 0), []), (133, (.ifCond .ne 7, 136, 140, 0, 0), []), (136, (.iconst 1, 137, 0, 0, 0), []), (137, (.goto 4, 140, 141, 0, 0), []), (140, (.iconst 0, 141, 0, 0, 0), []), (141, (.invokestatic 93, 144, 207, 17, 0), [8003, 8004, 1014])],
  [(144, (.isub, 145, 0, 0, 0), []), (145, (.istore_n 2, 146, 0, 0, 0), []), (146, (.goto (-137), 149, 9, 0, 0), []), (149, (.aload_n 0, 150, 0, 0, 0), []), (150, (.aload_n 0, 151, 0, 0, 0), []), (151, (.getfield 68, 154, 11, 37, 0), [7119]), (154, (.iload_n 3, 155, 0, 0, 0), []), (155, (.iaload, 156, 0, 0, 0), []), (156, (.aload_n 0, 157, 0, 0, 0), []), (157, (.getfield 71, 160, 11, 38, 0), [7120])],
  [(160, (.iload_n 3, 161, 0, 0, 0), []), (161, (.iaload, 162, 0, 0, 0), []), (162, (.invokevirtual 479, 165, 340, 2, 11), [10067, 10069, 114, 1014]), (165, (.istore 4, 167, 0, 0, 0), []), (167, (.iload_n 1, 168, 0, 0, 0), []), (168, (.iload 4, 170, 0, 0, 0), []), (170, (.invokestatic 93, 173, 207, 17, 0), [8003, 8004, 1014]), (173, (.iadd, 174, 0, 0, 0), []), (174, (.istore_n 1, 175, 0, 0, 0), []), (175, (.iinc 3 1, 178, 0, 0, 0), [])],
  [(178, (.goto (-169), 181, 9, 0, 0), []), (181, (.iload_n 1, 182, 0, 0, 0), []), (182, (.ireturn, 183, 0, 0, 0), [])]]
-- PaintBankModel.does(II)Z
noncomputable def md_L340 : List (List mm_Ln) := [[(0, (.iload_n 1, 1, 0, 0, 0), []), (1, (.tableswitch 136 3 6 #[31, 37, 43, 111], 31, 0, 0, 0), [])],
  [],
  [(32, (.aload_n 0, 33, 0, 0, 0), []), (33, (.iload_n 2, 34, 0, 0, 0), []), (34, (.invokevirtual 461, 37, 341, 1, 11), [10071, 10073, 115, 1014]), (37, (.ireturn, 38, 0, 0, 0), []), (38, (.aload_n 0, 39, 0, 0, 0), []), (39, (.iload_n 2, 40, 0, 0, 0), []), (40, (.invokevirtual 464, 43, 342, 1, 11), [10075, 10077, 116, 1014]), (43, (.ireturn, 44, 0, 0, 0), []), (44, (.aload_n 0, 45, 0, 0, 0), []), (45, (.invokevirtual 379, 48, 300, 0, 11), [9151, 9153, 89, 1014])],
  [(48, (.istore_n 3, 49, 0, 0, 0), []), (49, (.aload_n 0, 50, 0, 0, 0), []), (50, (.getfield 20, 53, 11, 13, 0), [7095]), (53, (.bipush 106, 55, 0, 0, 0), []), (55, (.iaload, 56, 0, 0, 0), []), (56, (.istore 4, 58, 0, 0, 0), []), (58, (.aload_n 0, 59, 0, 0, 0), []), (59, (.invokevirtual 400, 62, 314, 0, 11), [9205, 9207, 97, 1014]), (62, (.istore 5, 64, 0, 0, 0), [])],
  [(64, (.aload_n 0, 65, 0, 0, 0), []), (65, (.aload_n 0, 66, 0, 0, 0), []), (66, (.getfield 458, 69, 11, 45, 0), [7127]), (69, (.ifCond .ne 8, 72, 77, 0, 0), []), (72, (.iload 5, 74, 0, 0, 0), []), (74, (.ifCond .le 7, 77, 81, 0, 0), []), (77, (.iconst 1, 78, 0, 0, 0), []), (78, (.goto 4, 81, 82, 0, 0), [])],
  [(81, (.iconst 0, 82, 0, 0, 0), []), (82, (.putfield 458, 85, 11, 45, 2), [7127]), (85, (.iload 5, 87, 0, 0, 0), []), (87, (.iload_n 3, 88, 0, 0, 0), []), (88, (.if_icmp .ne 22, 91, 110, 0, 0), []), (91, (.aload_n 0, 92, 0, 0, 0), []), (92, (.getfield 20, 95, 11, 13, 0), [7095]), (95, (.bipush 106, 97, 0, 0, 0), [])],
  [(97, (.iaload, 98, 0, 0, 0), []), (98, (.iload 4, 100, 0, 0, 0), []), (100, (.iload 5, 102, 0, 0, 0), []), (102, (.iadd, 103, 0, 0, 0), []), (103, (.if_icmp .ne 7, 106, 110, 0, 0), []), (106, (.iconst 1, 107, 0, 0, 0), []), (107, (.goto 4, 110, 111, 0, 0), []), (110, (.iconst 0, 111, 0, 0, 0), []), (111, (.ireturn, 112, 0, 0, 0), [])],
  [(112, (.aload_n 0, 113, 0, 0, 0), []), (113, (.aload_n 0, 114, 0, 0, 0), []), (114, (.invokevirtual 440, 117, 333, 0, 11), [10039, 10041, 108, 1014]), (117, (.ifCond .gt 10, 120, 127, 0, 0), []), (120, (.aload_n 0, 121, 0, 0, 0), []), (121, (.getfield 458, 124, 11, 45, 0), [7127]), (124, (.ifCond .eq 7, 127, 131, 0, 0), []), (127, (.iconst 1, 128, 0, 0, 0), [])],
  [(128, (.goto 4, 131, 132, 0, 0), []), (131, (.iconst 0, 132, 0, 0, 0), []), (132, (.putfield 458, 135, 11, 45, 2), [7127]), (135, (.iconst 1, 136, 0, 0, 0), []), (136, (.ireturn, 137, 0, 0, 0), []), (137, (.aload_n 0, 138, 0, 0, 0), []), (138, (.iload_n 1, 139, 0, 0, 0), []), (139, (.iload_n 2, 140, 0, 0, 0), []), (140, (.invokevirtual 467, 143, 343, 2, 11), [10079, 10081, 117, 1014]), (143, (.ireturn, 144, 0, 0, 0), [])]]
-- PaintBankModel.passes(I)Z
noncomputable def md_L341 : List (List mm_Ln) := [[(0, (.iconst 0, 1, 0, 0, 0), []), (1, (.istore_n 2, 2, 0, 0, 0), []), (2, (.iload_n 2, 3, 0, 0, 0), []), (3, (.iload_n 1, 4, 0, 0, 0), []), (4, (.if_icmp .ge 40, 7, 44, 0, 0), []), (7, (.aload_n 0, 8, 0, 0, 0), []), (8, (.getfield 20, 11, 11, 13, 0), [7095]), (11, (.bipush 67, 13, 0, 0, 0), []), (13, (.iaload, 14, 0, 0, 0), []), (14, (.sipush 9999, 17, 0, 0, 0), [])],
  [(17, (.if_icmp .ne 5, 20, 22, 0, 0), []), (20, (.iconst 0, 21, 0, 0, 0), []), (21, (.ireturn, 22, 0, 0, 0), []), (22, (.aload_n 0, 23, 0, 0, 0), []), (23, (.getfield 20, 26, 11, 13, 0), [7095]), (26, (.bipush 67, 28, 0, 0, 0), []), (28, (.dup2, 29, 0, 0, 0), []), (29, (.iaload, 30, 0, 0, 0), []), (30, (.iconst 1, 31, 0, 0, 0), []), (31, (.iadd, 32, 0, 0, 0), [])],
  [(32, (.iastore, 33, 0, 0, 0), []), (33, (.aload_n 0, 34, 0, 0, 0), []), (34, (.iconst 1, 35, 0, 0, 0), []), (35, (.putfield 458, 38, 11, 45, 2), [7127]), (38, (.iinc 2 1, 41, 0, 0, 0), []), (41, (.goto (-39), 44, 2, 0, 0), []), (44, (.iconst 1, 45, 0, 0, 0), []), (45, (.ireturn, 46, 0, 0, 0), [])]]
-- PaintBankModel.walks(I)Z
noncomputable def md_L342 : List (List mm_Ln) := [[(0, (.iconst 0, 1, 0, 0, 0), []), (1, (.istore_n 2, 2, 0, 0, 0), []), (2, (.iload_n 2, 3, 0, 0, 0), []), (3, (.iload_n 1, 4, 0, 0, 0), []), (4, (.if_icmp .ge 24, 7, 28, 0, 0), []), (7, (.aload_n 0, 8, 0, 0, 0), []), (8, (.invokevirtual 352, 11, 292, 0, 11), [9118, 9120, 86, 1014]), (11, (.iconst (-1), 12, 0, 0, 0), []), (12, (.if_icmp .ne 5, 15, 17, 0, 0), []), (15, (.iconst 0, 16, 0, 0, 0), [])],
  [(16, (.ireturn, 17, 0, 0, 0), []), (17, (.aload_n 0, 18, 0, 0, 0), []), (18, (.iconst 1, 19, 0, 0, 0), []), (19, (.putfield 458, 22, 11, 45, 2), [7127]), (22, (.iinc 2 1, 25, 0, 0, 0), []), (25, (.goto (-23), 28, 2, 0, 0), []), (28, (.iconst 1, 29, 0, 0, 0), []), (29, (.ireturn, 30, 0, 0, 0), [])]]
-- PaintBankModel.moves(II)Z
noncomputable def md_L343 : List (List mm_Ln) := [[(0, (.aload_n 0, 1, 0, 0, 0), []), (1, (.iload_n 2, 2, 0, 0, 0), []), (2, (.invokevirtual 283, 5, 242, 1, 11), [8159, 8161, 65, 1014]), (5, (.ifCond .eq 53, 8, 58, 0, 0), []), (8, (.iload_n 1, 9, 0, 0, 0), []), (9, (.ifCond .ne 14, 12, 23, 0, 0), []), (12, (.aload_n 0, 13, 0, 0, 0), []), (13, (.iload_n 2, 14, 0, 0, 0), []), (14, (.invokevirtual 322, 17, 276, 1, 11), [9054, 9056, 74, 1014])],
  [(17, (.ifCond .eq 41, 20, 58, 0, 0), []), (20, (.goto 34, 23, 54, 0, 0), []), (23, (.iload_n 1, 24, 0, 0, 0), []), (24, (.iconst 1, 25, 0, 0, 0), []), (25, (.if_icmp .ne 14, 28, 39, 0, 0), []), (28, (.aload_n 0, 29, 0, 0, 0), []), (29, (.iload_n 2, 30, 0, 0, 0), []), (30, (.invokevirtual 308, 33, 267, 1, 11), [9018, 9020, 72, 1014])],
  [(33, (.ifCond .eq 25, 36, 58, 0, 0), []), (36, (.goto 18, 39, 54, 0, 0), []), (39, (.aload_n 0, 40, 0, 0, 0), []), (40, (.invokevirtual 334, 43, 285, 0, 11), [9090, 9092, 81, 1014]), (43, (.ifCond .eq 15, 46, 58, 0, 0), []), (46, (.aload_n 0, 47, 0, 0, 0), []), (47, (.iload_n 2, 48, 0, 0, 0), [])],
  [(48, (.invokevirtual 313, 51, 277, 1, 11), [9058, 9060, 75, 1014]), (51, (.ifCond .eq 7, 54, 58, 0, 0), []), (54, (.iconst 1, 55, 0, 0, 0), []), (55, (.goto 4, 58, 59, 0, 0), []), (58, (.iconst 0, 59, 0, 0, 0), []), (59, (.istore_n 3, 60, 0, 0, 0), []), (60, (.iload_n 3, 61, 0, 0, 0), []), (61, (.ifCond .eq 37, 64, 98, 0, 0), [])],
  [(64, (.aload_n 0, 65, 0, 0, 0), []), (65, (.iload_n 1, 66, 0, 0, 0), []), (66, (.ifCond .ne 11, 69, 77, 0, 0), []), (69, (.aload_n 0, 70, 0, 0, 0), []), (70, (.iload_n 2, 71, 0, 0, 0), []), (71, (.invokevirtual 328, 74, 279, 1, 11), [9066, 9068, 77, 1014]), (74, (.goto 21, 77, 95, 0, 0), []), (77, (.iload_n 1, 78, 0, 0, 0), []), (78, (.iconst 1, 79, 0, 0, 0), []), (79, (.if_icmp .ne 11, 82, 90, 0, 0), [])],
  [(82, (.aload_n 0, 83, 0, 0, 0), []), (83, (.iload_n 2, 84, 0, 0, 0), []), (84, (.invokevirtual 331, 87, 282, 1, 11), [9078, 9080, 79, 1014]), (87, (.goto 8, 90, 95, 0, 0), []), (90, (.aload_n 0, 91, 0, 0, 0), []), (91, (.iload_n 2, 92, 0, 0, 0), []), (92, (.invokevirtual 337, 95, 286, 1, 11), [9094, 9096, 82, 1014]), (95, (.putfield 349, 98, 11, 28, 0), [7110])],
  [(98, (.aload_n 0, 99, 0, 0, 0), []), (99, (.aload_n 0, 100, 0, 0, 0), []), (100, (.getfield 458, 103, 11, 45, 0), [7127]), (103, (.ifCond .ne 7, 106, 110, 0, 0), []), (106, (.iload_n 3, 107, 0, 0, 0), []), (107, (.ifCond .eq 7, 110, 114, 0, 0), []), (110, (.iconst 1, 111, 0, 0, 0), []), (111, (.goto 4, 114, 115, 0, 0), [])],
  [(114, (.iconst 0, 115, 0, 0, 0), []), (115, (.putfield 458, 118, 11, 45, 2), [7127]), (118, (.iload_n 3, 119, 0, 0, 0), []), (119, (.ireturn, 120, 0, 0, 0), [])]]
-- PaintBankModel.logCount()I
noncomputable def md_L344 : List (List mm_Ln) := [[(0, (.aload_n 0, 1, 0, 0, 0), []), (1, (.iconst 0, 2, 0, 0, 0), []), (2, (.putfield 90, 5, 11, 0, 0), [7082]), (5, (.aload_n 0, 6, 0, 0, 0), []), (6, (.getfield 20, 9, 11, 13, 0), [7095]), (9, (.bipush 119, 11, 0, 0, 0), []), (11, (.iaload, 12, 0, 0, 0), []), (12, (.bipush 20, 14, 0, 0, 0), []), (14, (.invokestatic 376, 17, 309, 18, 0), [9186, 9187, 1014])],
  [(17, (.ireturn, 18, 0, 0, 0), [])]]
-- PaintBankModel.log(II)I
noncomputable def md_L345 : List (List mm_Ln) := [[(0, (.aload_n 0, 1, 0, 0, 0), []), (1, (.iload_n 1, 2, 0, 0, 0), []), (2, (.i2l, 3, 0, 0, 0), []), (3, (.lconst 0, 4, 0, 0, 0), []), (4, (.aload_n 0, 5, 0, 0, 0), []), (5, (.getfield 20, 8, 11, 13, 0), [7095]), (8, (.bipush 119, 10, 0, 0, 0), []), (10, (.iaload, 11, 0, 0, 0), []), (11, (.bipush 20, 13, 0, 0, 0), []), (13, (.invokestatic 376, 16, 309, 18, 0), [9186, 9187, 1014])],
  [(16, (.iconst 1, 17, 0, 0, 0), []), (17, (.isub, 18, 0, 0, 0), []), (18, (.i2l, 19, 0, 0, 0), []), (19, (.invokestatic 108, 22, 210, 19, 0), [8014, 8015, 1014]), (22, (.ifCond .ne 7, 25, 29, 0, 0), []), (25, (.iconst 1, 26, 0, 0, 0), []), (26, (.goto 25, 29, 51, 0, 0), []), (29, (.iload_n 2, 30, 0, 0, 0), []), (30, (.i2l, 31, 0, 0, 0), []), (31, (.lconst 0, 32, 0, 0, 0), [])],
  [(32, (.ldc2_w 482, 35, 3, 0, 0), [10091]), (35, (.invokestatic 108, 38, 210, 19, 0), [8014, 8015, 1014]), (38, (.ifCond .ne 7, 41, 45, 0, 0), []), (41, (.iconst 1, 42, 0, 0, 0), []), (42, (.goto 4, 45, 46, 0, 0), []), (45, (.iconst 0, 46, 0, 0, 0), []), (46, (.invokestatic 93, 49, 207, 17, 0), [8003, 8004, 1014])],
  [(49, (.iconst 2, 50, 0, 0, 0), []), (50, (.imul, 51, 0, 0, 0), []), (51, (.putfield 90, 54, 11, 0, 0), [7082]), (54, (.aload_n 0, 55, 0, 0, 0), []), (55, (.getfield 90, 58, 11, 0, 0), [7082]), (58, (.ifCond .le 7, 61, 65, 0, 0), []), (61, (.iconst 0, 62, 0, 0, 0), []), (62, (.goto 29, 65, 91, 0, 0), [])],
  [(65, (.aload_n 0, 66, 0, 0, 0), []), (66, (.getfield 20, 69, 11, 13, 0), [7095]), (69, (.bipush 120, 71, 0, 0, 0), []), (71, (.iconst 4, 72, 0, 0, 0), []), (72, (.aload_n 0, 73, 0, 0, 0), []), (73, (.getfield 20, 76, 11, 13, 0), [7095]), (76, (.bipush 119, 78, 0, 0, 0), []), (78, (.iaload, 79, 0, 0, 0), []), (79, (.iconst 1, 80, 0, 0, 0), [])],
  [(80, (.isub, 81, 0, 0, 0), []), (81, (.iload_n 1, 82, 0, 0, 0), []), (82, (.isub, 83, 0, 0, 0), []), (83, (.bipush 20, 85, 0, 0, 0), []), (85, (.irem, 86, 0, 0, 0), []), (86, (.imul, 87, 0, 0, 0), []), (87, (.iadd, 88, 0, 0, 0), []), (88, (.iload_n 2, 89, 0, 0, 0), []), (89, (.iadd, 90, 0, 0, 0), []), (90, (.iaload, 91, 0, 0, 0), []), (91, (.ireturn, 92, 0, 0, 0), [])]]
-- PaintBankModel.report()I
noncomputable def md_L346 : List (List mm_Ln) := [[(0, (.aload_n 0, 1, 0, 0, 0), []), (1, (.iconst 0, 2, 0, 0, 0), []), (2, (.putfield 90, 5, 11, 0, 0), [7082]), (5, (.aload_n 0, 6, 0, 0, 0), []), (6, (.iconst 0, 7, 0, 0, 0), []), (7, (.putfield 484, 10, 11, 47, 0), [7129]), (10, (.aload_n 0, 11, 0, 0, 0), []), (11, (.iconst 1, 12, 0, 0, 0), []), (12, (.putfield 495, 15, 11, 48, 2), [7130]), (15, (.iconst 0, 16, 0, 0, 0), [])],
  [(16, (.istore_n 1, 17, 0, 0, 0), []), (17, (.iload_n 1, 18, 0, 0, 0), []), (18, (.aload_n 0, 19, 0, 0, 0), []), (19, (.getfield 20, 22, 11, 13, 0), [7095]), (22, (.iconst 1, 23, 0, 0, 0), []), (23, (.iaload, 24, 0, 0, 0), []), (24, (.if_icmp .ge 67, 27, 91, 0, 0), []), (27, (.aload_n 0, 28, 0, 0, 0), []), (28, (.ldc2_w 177, 31, 394693, 0, 0), [8081]), (31, (.invokevirtual 492, 34, 347, 1, 11), [10096, 10098, 118, 1014])],
  [(34, (.aload_n 0, 35, 0, 0, 0), []), (35, (.bipush 32, 37, 0, 0, 0), []), (37, (.invokevirtual 489, 40, 348, 1, 11), [10101, 10103, 119, 1014]), (40, (.aload_n 0, 41, 0, 0, 0), []), (41, (.bipush 48, 43, 0, 0, 0), []), (43, (.iload_n 1, 44, 0, 0, 0), []), (44, (.iadd, 45, 0, 0, 0), []), (45, (.invokevirtual 489, 48, 348, 1, 11), [10101, 10103, 119, 1014])],
  [(48, (.iconst 0, 49, 0, 0, 0), []), (49, (.istore_n 2, 50, 0, 0, 0), []), (50, (.iload_n 2, 51, 0, 0, 0), []), (51, (.aload_n 0, 52, 0, 0, 0), []), (52, (.getfield 20, 55, 11, 13, 0), [7095]), (55, (.bipush 98, 57, 0, 0, 0), []), (57, (.iload_n 1, 58, 0, 0, 0), []), (58, (.iadd, 59, 0, 0, 0), []), (59, (.iaload, 60, 0, 0, 0), []), (60, (.if_icmp .ge 19, 63, 79, 0, 0), []), (63, (.aload_n 0, 64, 0, 0, 0), [])],
  [(64, (.aload_n 0, 65, 0, 0, 0), []), (65, (.iload_n 1, 66, 0, 0, 0), []), (66, (.iload_n 2, 67, 0, 0, 0), []), (67, (.invokevirtual 305, 70, 258, 2, 11), [8222, 8224, 71, 1014]), (70, (.invokevirtual 498, 73, 349, 1, 11), [10105, 10107, 120, 1014]), (73, (.iinc 2 1, 76, 0, 0, 0), []), (76, (.goto (-26), 79, 50, 0, 0), []), (79, (.aload_n 0, 80, 0, 0, 0), [])],
  [(80, (.bipush 10, 82, 0, 0, 0), []), (82, (.invokevirtual 489, 85, 348, 1, 11), [10101, 10103, 119, 1014]), (85, (.iinc 1 1, 88, 0, 0, 0), []), (88, (.goto (-71), 91, 17, 0, 0), []), (91, (.aload_n 0, 92, 0, 0, 0), []), (92, (.ldc2_w 501, 95, 16052, 0, 0), [10109]), (95, (.invokevirtual 492, 98, 347, 1, 11), [10096, 10098, 118, 1014])],
  [(98, (.iconst 0, 99, 0, 0, 0), []), (99, (.istore_n 1, 100, 0, 0, 0), []), (100, (.iload_n 1, 101, 0, 0, 0), []), (101, (.aload_n 0, 102, 0, 0, 0), []), (102, (.getfield 20, 105, 11, 13, 0), [7095]), (105, (.bipush 106, 107, 0, 0, 0), []), (107, (.iaload, 108, 0, 0, 0), []), (108, (.if_icmp .ge 22, 111, 130, 0, 0), []), (111, (.aload_n 0, 112, 0, 0, 0), [])],
  [(112, (.aload_n 0, 113, 0, 0, 0), []), (113, (.getfield 20, 116, 11, 13, 0), [7095]), (116, (.bipush 107, 118, 0, 0, 0), []), (118, (.iload_n 1, 119, 0, 0, 0), []), (119, (.iadd, 120, 0, 0, 0), []), (120, (.iaload, 121, 0, 0, 0), []), (121, (.invokevirtual 498, 124, 349, 1, 11), [10105, 10107, 120, 1014]), (124, (.iinc 1 1, 127, 0, 0, 0), []), (127, (.goto (-27), 130, 100, 0, 0), [])],
  [(130, (.aload_n 0, 131, 0, 0, 0), []), (131, (.bipush 10, 133, 0, 0, 0), []), (133, (.invokevirtual 489, 136, 348, 1, 11), [10101, 10103, 119, 1014]), (136, (.aload_n 0, 137, 0, 0, 0), []), (137, (.getfield 484, 140, 11, 47, 0), [7129]), (140, (.ireturn, 141, 0, 0, 0), [])]]
-- PaintBankModel.tellName(J)V
noncomputable def md_L347 : List (List mm_Ln) := [[(0, (.iconst 0, 1, 0, 0, 0), []), (1, (.istore_n 3, 2, 0, 0, 0), []), (2, (.bipush 35, 4, 0, 0, 0), []), (4, (.istore 4, 6, 0, 0, 0), []), (6, (.iload 4, 8, 0, 0, 0), []), (8, (.ifCond .lt 50, 11, 58, 0, 0), []), (11, (.lload_n 1, 12, 0, 0, 0), []), (12, (.iload 4, 14, 0, 0, 0), []), (14, (.lshr, 15, 0, 0, 0), []), (15, (.ldc2_w 487, 18, 31, 0, 0), [10100])],
  [(18, (.land, 19, 0, 0, 0), []), (19, (.l2i, 20, 0, 0, 0), []), (20, (.istore 5, 22, 0, 0, 0), []), (22, (.iload_n 3, 23, 0, 0, 0), []), (23, (.ifCond .ne 8, 26, 31, 0, 0), []), (26, (.iload 5, 28, 0, 0, 0), []), (28, (.ifCond .le 7, 31, 35, 0, 0), []), (31, (.iconst 1, 32, 0, 0, 0), [])],
  [(32, (.goto 4, 35, 36, 0, 0), []), (35, (.iconst 0, 36, 0, 0, 0), []), (36, (.istore_n 3, 37, 0, 0, 0), []), (37, (.iload_n 3, 38, 0, 0, 0), []), (38, (.ifCond .eq 14, 41, 52, 0, 0), []), (41, (.aload_n 0, 42, 0, 0, 0), []), (42, (.bipush 97, 44, 0, 0, 0), []), (44, (.iload 5, 46, 0, 0, 0), []), (46, (.iadd, 47, 0, 0, 0), []), (47, (.iconst 1, 48, 0, 0, 0), [])],
  [(48, (.isub, 49, 0, 0, 0), []), (49, (.invokevirtual 489, 52, 348, 1, 11), [10101, 10103, 119, 1014]), (52, (.iinc 4 (-5), 55, 0, 0, 0), []), (55, (.goto (-49), 58, 6, 0, 0), []), (58, (.return_, 59, 0, 0, 0), [])]]
-- PaintBankModel.tell(I)V
noncomputable def md_L348 : List (List mm_Ln) := [[(0, (.aload_n 0, 1, 0, 0, 0), []), (1, (.getfield 83, 4, 11, 46, 0), [7128]), (4, (.aload_n 0, 5, 0, 0, 0), []), (5, (.getfield 484, 8, 11, 47, 0), [7129]), (8, (.iload_n 1, 9, 0, 0, 0), []), (9, (.iastore, 10, 0, 0, 0), []), (10, (.aload_n 0, 11, 0, 0, 0), []), (11, (.dup, 12, 0, 0, 0), []), (12, (.getfield 484, 15, 11, 47, 0), [7129]), (15, (.iconst 1, 16, 0, 0, 0), [])],
  [(16, (.iadd, 17, 0, 0, 0), []), (17, (.putfield 484, 20, 11, 47, 0), [7129]), (20, (.return_, 21, 0, 0, 0), [])]]
-- PaintBankModel.tellCar(I)V
noncomputable def md_L349 : List (List mm_Ln) := [[(0, (.aload_n 0, 1, 0, 0, 0), []), (1, (.bipush 32, 3, 0, 0, 0), []), (3, (.invokevirtual 489, 6, 348, 1, 11), [10101, 10103, 119, 1014]), (6, (.aload_n 0, 7, 0, 0, 0), []), (7, (.aload_n 0, 8, 0, 0, 0), []), (8, (.getfield 35, 11, 11, 18, 0), [7100]), (11, (.aload_n 0, 12, 0, 0, 0), []), (12, (.getfield 20, 15, 11, 13, 0), [7095]), (15, (.bipush 31, 17, 0, 0, 0), [])],
  [(17, (.iload_n 1, 18, 0, 0, 0), []), (18, (.iadd, 19, 0, 0, 0), []), (19, (.iaload, 20, 0, 0, 0), []), (20, (.laload, 21, 0, 0, 0), []), (21, (.invokevirtual 492, 24, 347, 1, 11), [10096, 10098, 118, 1014]), (24, (.aload_n 0, 25, 0, 0, 0), []), (25, (.bipush 48, 27, 0, 0, 0), []), (27, (.aload_n 0, 28, 0, 0, 0), []), (28, (.getfield 20, 31, 11, 13, 0), [7095]), (31, (.bipush 19, 33, 0, 0, 0), [])],
  [(33, (.iload_n 1, 34, 0, 0, 0), []), (34, (.iadd, 35, 0, 0, 0), []), (35, (.iaload, 36, 0, 0, 0), []), (36, (.iadd, 37, 0, 0, 0), []), (37, (.invokevirtual 489, 40, 348, 1, 11), [10101, 10103, 119, 1014]), (40, (.return_, 41, 0, 0, 0), [])]]
-- PaintBankModel.reportByte(I)I
noncomputable def md_L350 : List (List mm_Ln) := [[(0, (.aload_n 0, 1, 0, 0, 0), []), (1, (.aload_n 0, 2, 0, 0, 0), []), (2, (.getfield 495, 5, 11, 48, 0), [7130]), (5, (.ifCond .eq 23, 8, 28, 0, 0), []), (8, (.iload_n 1, 9, 0, 0, 0), []), (9, (.i2l, 10, 0, 0, 0), []), (10, (.lconst 0, 11, 0, 0, 0), []), (11, (.aload_n 0, 12, 0, 0, 0), []), (12, (.getfield 484, 15, 11, 47, 0), [7129]), (15, (.iconst 1, 16, 0, 0, 0), [])],
  [(16, (.isub, 17, 0, 0, 0), []), (17, (.i2l, 18, 0, 0, 0), []), (18, (.invokestatic 108, 21, 210, 19, 0), [8014, 8015, 1014]), (21, (.ifCond .eq 7, 24, 28, 0, 0), []), (24, (.iconst 1, 25, 0, 0, 0), []), (25, (.goto 4, 28, 29, 0, 0), []), (28, (.iconst 0, 29, 0, 0, 0), []), (29, (.invokevirtual 100, 32, 206, 1, 11), [7239, 8001, 41, 1014])],
  [(32, (.ifCond .eq 12, 35, 44, 0, 0), []), (35, (.aload_n 0, 36, 0, 0, 0), []), (36, (.getfield 83, 39, 11, 46, 0), [7128]), (39, (.iload_n 1, 40, 0, 0, 0), []), (40, (.iaload, 41, 0, 0, 0), []), (41, (.goto 4, 44, 45, 0, 0), []), (44, (.iconst 0, 45, 0, 0, 0), []), (45, (.ireturn, 46, 0, 0, 0), [])]]
-- PaintBankModel.undo()I
noncomputable def md_L351 : List (List mm_Ln) := [[(0, (.aload_n 0, 1, 0, 0, 0), []), (1, (.iconst 0, 2, 0, 0, 0), []), (2, (.putfield 90, 5, 11, 0, 0), [7082]), (5, (.aload_n 0, 6, 0, 0, 0), []), (6, (.getfield 278, 9, 11, 22, 0), [7104]), (9, (.ifCond .ne 5, 12, 14, 0, 0), []), (12, (.iconst (-1), 13, 0, 0, 0), []), (13, (.ireturn, 14, 0, 0, 0), []), (14, (.aload_n 0, 15, 0, 0, 0), []), (15, (.dup, 16, 0, 0, 0), [])],
  [(16, (.getfield 278, 19, 11, 22, 0), [7104]), (19, (.iconst 1, 20, 0, 0, 0), []), (20, (.isub, 21, 0, 0, 0), []), (21, (.putfield 278, 24, 11, 22, 0), [7104]), (24, (.iconst 0, 25, 0, 0, 0), []), (25, (.istore_n 1, 26, 0, 0, 0), []), (26, (.iload_n 1, 27, 0, 0, 0), []), (27, (.sipush 200, 30, 0, 0, 0), []), (30, (.if_icmp .ge 30, 33, 60, 0, 0), [])],
  [(33, (.aload_n 0, 34, 0, 0, 0), []), (34, (.getfield 20, 37, 11, 13, 0), [7095]), (37, (.iload_n 1, 38, 0, 0, 0), []), (38, (.aload_n 0, 39, 0, 0, 0), []), (39, (.getfield 32, 42, 11, 17, 0), [7099]), (42, (.sipush 200, 45, 0, 0, 0), []), (45, (.aload_n 0, 46, 0, 0, 0), []), (46, (.getfield 278, 49, 11, 22, 0), [7104])],
  [(49, (.imul, 50, 0, 0, 0), []), (50, (.iload_n 1, 51, 0, 0, 0), []), (51, (.iadd, 52, 0, 0, 0), []), (52, (.iaload, 53, 0, 0, 0), []), (53, (.iastore, 54, 0, 0, 0), []), (54, (.iinc 1 1, 57, 0, 0, 0), []), (57, (.goto (-31), 60, 26, 0, 0), []), (60, (.aload_n 0, 61, 0, 0, 0), []), (61, (.getfield 278, 64, 11, 22, 0), [7104])],
  [(64, (.ireturn, 65, 0, 0, 0), [])]]
-- PaintBankModel.save()I
noncomputable def md_L352 : List (List mm_Ln) := [[(0, (.aload_n 0, 1, 0, 0, 0), []), (1, (.iconst 0, 2, 0, 0, 0), []), (2, (.putfield 90, 5, 11, 0, 0), [7082]), (5, (.aload_n 0, 6, 0, 0, 0), []), (6, (.getfield 20, 9, 11, 13, 0), [7095]), (9, (.aload_n 0, 10, 0, 0, 0), []), (10, (.getfield 29, 13, 11, 16, 0), [7098]), (13, (.invokestatic 274, 16, 238, 18, 0), [8143, 8144, 1014])],
  [(16, (.iconst 0, 17, 0, 0, 0), []), (17, (.istore_n 1, 18, 0, 0, 0), []), (18, (.iload_n 1, 19, 0, 0, 0), []), (19, (.iconst 5, 20, 0, 0, 0), []), (20, (.if_icmp .ge 21, 23, 41, 0, 0), []), (23, (.aload_n 0, 24, 0, 0, 0), []), (24, (.getfield 42, 27, 11, 20, 0), [7102]), (27, (.iload_n 1, 28, 0, 0, 0), []), (28, (.aload_n 0, 29, 0, 0, 0), []), (29, (.getfield 35, 32, 11, 18, 0), [7100])],
  [(32, (.iload_n 1, 33, 0, 0, 0), []), (33, (.laload, 34, 0, 0, 0), []), (34, (.lastore, 35, 0, 0, 0), []), (35, (.iinc 1 1, 38, 0, 0, 0), []), (38, (.goto (-20), 41, 18, 0, 0), []), (41, (.aload_n 0, 42, 0, 0, 0), []), (42, (.iconst 1, 43, 0, 0, 0), []), (43, (.putfield 503, 46, 11, 21, 2), [7103]), (46, (.aload_n 0, 47, 0, 0, 0), []), (47, (.getfield 20, 50, 11, 13, 0), [7095])],
  [(50, (.bipush 67, 52, 0, 0, 0), []), (52, (.iaload, 53, 0, 0, 0), []), (53, (.ireturn, 54, 0, 0, 0), [])]]
-- PaintBankModel.restore()I
noncomputable def md_L353 : List (List mm_Ln) := [[(0, (.aload_n 0, 1, 0, 0, 0), []), (1, (.aload_n 0, 2, 0, 0, 0), []), (2, (.getfield 503, 5, 11, 21, 0), [7103]), (5, (.invokevirtual 100, 8, 206, 1, 11), [7239, 8001, 41, 1014]), (8, (.ifCond .ne 5, 11, 13, 0, 0), []), (11, (.iconst 0, 12, 0, 0, 0), []), (12, (.ireturn, 13, 0, 0, 0), []), (13, (.aload_n 0, 14, 0, 0, 0), []), (14, (.getfield 29, 17, 11, 16, 0), [7098])],
  [(17, (.aload_n 0, 18, 0, 0, 0), []), (18, (.getfield 20, 21, 11, 13, 0), [7095]), (21, (.invokestatic 274, 24, 238, 18, 0), [8143, 8144, 1014]), (24, (.iconst 0, 25, 0, 0, 0), []), (25, (.istore_n 1, 26, 0, 0, 0), []), (26, (.iload_n 1, 27, 0, 0, 0), []), (27, (.iconst 5, 28, 0, 0, 0), []), (28, (.if_icmp .ge 21, 31, 49, 0, 0), []), (31, (.aload_n 0, 32, 0, 0, 0), [])],
  [(32, (.getfield 35, 35, 11, 18, 0), [7100]), (35, (.iload_n 1, 36, 0, 0, 0), []), (36, (.aload_n 0, 37, 0, 0, 0), []), (37, (.getfield 42, 40, 11, 20, 0), [7102]), (40, (.iload_n 1, 41, 0, 0, 0), []), (41, (.laload, 42, 0, 0, 0), []), (42, (.lastore, 43, 0, 0, 0), []), (43, (.iinc 1 1, 46, 0, 0, 0), []), (46, (.goto (-20), 49, 26, 0, 0), [])],
  [(49, (.aload_n 0, 50, 0, 0, 0), []), (50, (.iconst 0, 51, 0, 0, 0), []), (51, (.putfield 278, 54, 11, 22, 0), [7104]), (54, (.aload_n 0, 55, 0, 0, 0), []), (55, (.getfield 20, 58, 11, 13, 0), [7095]), (58, (.bipush 67, 60, 0, 0, 0), []), (60, (.iaload, 61, 0, 0, 0), []), (61, (.ireturn, 62, 0, 0, 0), [])]]
-- java/lang/Math.max(II)I
noncomputable def md_L354 : List (List mm_Ln) := [[(0, (.iload_n 0, 1, 0, 0, 0), []), (1, (.iload_n 1, 2, 0, 0, 0), []), (2, (.if_icmp .lt 7, 5, 9, 0, 0), []), (5, (.iload_n 0, 6, 0, 0, 0), []), (6, (.goto 4, 9, 10, 0, 0), []), (9, (.iload_n 1, 10, 0, 0, 0), []), (10, (.ireturn, 11, 0, 0, 0), [])]]
-- java/lang/Math.min(II)I
noncomputable def md_L355 : List (List mm_Ln) := [[(0, (.iload_n 0, 1, 0, 0, 0), []), (1, (.iload_n 1, 2, 0, 0, 0), []), (2, (.if_icmp .gt 7, 5, 9, 0, 0), []), (5, (.iload_n 0, 6, 0, 0, 0), []), (6, (.goto 4, 9, 10, 0, 0), []), (9, (.iload_n 1, 10, 0, 0, 0), []), (10, (.ireturn, 11, 0, 0, 0), [])]]
-- java/lang/Math.abs(I)I
noncomputable def md_L356 : List (List mm_Ln) := [[(0, (.iload_n 0, 1, 0, 0, 0), []), (1, (.ifCond .ge 8, 4, 9, 0, 0), []), (4, (.iload_n 0, 5, 0, 0, 0), []), (5, (.ineg, 6, 0, 0, 0), []), (6, (.goto 4, 9, 10, 0, 0), []), (9, (.iload_n 0, 10, 0, 0, 0), []), (10, (.ireturn, 11, 0, 0, 0), [])]]
-- java/util/Arrays.fill([II)V
noncomputable def md_L357 : List (List mm_Ln) := [[(0, (.iconst 0, 1, 0, 0, 0), []), (1, (.istore_n 2, 2, 0, 0, 0), []), (2, (.aload_n 0, 3, 0, 0, 0), []), (3, (.arraylength, 4, 0, 0, 0), []), (4, (.istore_n 3, 5, 0, 0, 0), []), (5, (.iload_n 2, 6, 0, 0, 0), []), (6, (.iload_n 3, 7, 0, 0, 0), []), (7, (.if_icmp .ge 13, 10, 20, 0, 0), []), (10, (.aload_n 0, 11, 0, 0, 0), []), (11, (.iload_n 2, 12, 0, 0, 0), []), (12, (.iload_n 1, 13, 0, 0, 0), []), (13, (.iastore, 14, 0, 0, 0), []), (14, (.iinc 2 1, 17, 0, 0, 0), [])],
  [(17, (.goto (-12), 20, 5, 0, 0), []), (20, (.return_, 21, 0, 0, 0), [])]]
-- java/lang/Integer.bitCount(I)I
noncomputable def md_L358 : List (List mm_Ln) := [[(0, (.iload_n 0, 1, 0, 0, 0), []), (1, (.iload_n 0, 2, 0, 0, 0), []), (2, (.iconst 1, 3, 0, 0, 0), []), (3, (.iushr, 4, 0, 0, 0), []), (4, (.ldc_w 265, 7, 0, 1431655765, 0), [4105]), (7, (.iand, 8, 0, 0, 0), []), (8, (.isub, 9, 0, 0, 0), []), (9, (.istore_n 0, 10, 0, 0, 0), []), (10, (.iload_n 0, 11, 0, 0, 0), []), (11, (.ldc_w 266, 14, 0, 858993459, 0), [4106]), (14, (.iand, 15, 0, 0, 0), []), (15, (.iload_n 0, 16, 0, 0, 0), [])],
  [(16, (.iconst 2, 17, 0, 0, 0), []), (17, (.iushr, 18, 0, 0, 0), []), (18, (.ldc_w 266, 21, 0, 858993459, 0), [4106]), (21, (.iand, 22, 0, 0, 0), []), (22, (.iadd, 23, 0, 0, 0), []), (23, (.istore_n 0, 24, 0, 0, 0), []), (24, (.iload_n 0, 25, 0, 0, 0), []), (25, (.iload_n 0, 26, 0, 0, 0), []), (26, (.iconst 4, 27, 0, 0, 0), []), (27, (.iushr, 28, 0, 0, 0), []), (28, (.iadd, 29, 0, 0, 0), []), (29, (.ldc_w 267, 32, 0, 252645135, 0), [4107])],
  [(32, (.iand, 33, 0, 0, 0), []), (33, (.istore_n 0, 34, 0, 0, 0), []), (34, (.iload_n 0, 35, 0, 0, 0), []), (35, (.iload_n 0, 36, 0, 0, 0), []), (36, (.bipush 8, 38, 0, 0, 0), []), (38, (.iushr, 39, 0, 0, 0), []), (39, (.iadd, 40, 0, 0, 0), []), (40, (.istore_n 0, 41, 0, 0, 0), []), (41, (.iload_n 0, 42, 0, 0, 0), []), (42, (.iload_n 0, 43, 0, 0, 0), []), (43, (.bipush 16, 45, 0, 0, 0), []), (45, (.iushr, 46, 0, 0, 0), []), (46, (.iadd, 47, 0, 0, 0), []), (47, (.istore_n 0, 48, 0, 0, 0), [])],
  [(48, (.iload_n 0, 49, 0, 0, 0), []), (49, (.bipush 63, 51, 0, 0, 0), []), (51, (.iand, 52, 0, 0, 0), []), (52, (.ireturn, 53, 0, 0, 0), [])]]
-- java/lang/Enum.ordinal()I
noncomputable def md_L359 : List (List mm_Ln) := [[(0, (.aload_n 0, 1, 0, 0, 0), []), (1, (.getfield 7, 4, 4, 0, 1), [10128]), (4, (.ireturn, 5, 0, 0, 0), [])]]
-- java/lang/String.length()I
noncomputable def md_L360 : List (List mm_Ln) := [[(0, (.aload_n 0, 1, 0, 0, 0), []), (1, (.getfield 9, 4, 5, 0, 1), [10132]), (4, (.arraylength, 5, 0, 0, 0), []), (5, (.aload_n 0, 6, 0, 0, 0), []), (6, (.invokevirtual 335, 9, 361, 0, 1001), [4209, 4210, 4211, 1026]), (9, (.ishr, 10, 0, 0, 0), []), (10, (.ireturn, 11, 0, 0, 0), [])]]
-- java/lang/String.coder()B
noncomputable def md_L361 : List (List mm_Ln) := [[(0, (.getstatic 38, 3, 23, 0, 0), [4213]), (3, (.ifCond .eq 10, 6, 13, 0, 0), []), (6, (.aload_n 0, 7, 0, 0, 0), []), (7, (.getfield 15, 10, 6, 0, 1), [10133]), (10, (.goto 4, 13, 14, 0, 0), []), (13, (.iconst 1, 14, 0, 0, 0), []), (14, (.ireturn, 15, 0, 0, 0), [])]]
-- java/lang/String.charAt(I)C
noncomputable def md_L362 : List (List mm_Ln) := [[(0, (.aload_n 0, 1, 0, 0, 0), []), (1, (.invokevirtual 492, 4, 363, 0, 1001), [4219, 4220, 4221, 1026]), (4, (.ifCond .eq 12, 7, 16, 0, 0), []), (7, (.aload_n 0, 8, 0, 0, 0), []), (8, (.getfield 9, 11, 5, 0, 1), [10132]), (11, (.iload_n 1, 12, 0, 0, 0), []), (12, (.invokestatic 495, 15, 364, 18, 0), [4223, 4224, 1027]), (15, (.ireturn, 16, 0, 0, 0), [])],
  [(16, (.aload_n 0, 17, 0, 0, 0), []), (17, (.getfield 9, 20, 5, 0, 1), [10132]), (20, (.iload_n 1, 21, 0, 0, 0), []), (24, (.ireturn, 25, 0, 0, 0), [])]]
-- java/lang/String.isLatin1()Z
noncomputable def md_L363 : List (List mm_Ln) := [[(0, (.getstatic 38, 3, 23, 0, 0), [4213]), (3, (.ifCond .eq 14, 6, 17, 0, 0), []), (6, (.aload_n 0, 7, 0, 0, 0), []), (7, (.getfield 15, 10, 6, 0, 1), [10133]), (10, (.ifCond .ne 7, 13, 17, 0, 0), []), (13, (.iconst 1, 14, 0, 0, 0), []), (14, (.goto 4, 17, 18, 0, 0), [])],
  [(17, (.iconst 0, 18, 0, 0, 0), []), (18, (.ireturn, 19, 0, 0, 0), [])]]
-- java/lang/StringLatin1.charAt([BI)C
noncomputable def md_L364 : List (List mm_Ln) := [[(0, (.iload_n 1, 1, 0, 0, 0), []), (1, (.aload_n 0, 2, 0, 0, 0), []), (2, (.arraylength, 3, 0, 0, 0), []), (3, (.invokestatic 9, 6, 365, 18, 0), [4226, 4227, 1026]), (6, (.aload_n 0, 7, 0, 0, 0), []), (7, (.iload_n 1, 8, 0, 0, 0), []), (8, (.baload, 9, 0, 0, 0), []), (9, (.sipush 255, 12, 0, 0, 0), []), (12, (.iand, 13, 0, 0, 0), []), (13, (.i2c, 14, 0, 0, 0), []), (14, (.ireturn, 15, 0, 0, 0), [])]]
-- java/lang/String.checkIndex(II)V
noncomputable def md_L365 : List (List mm_Ln) := [[(0, (.iload_n 0, 1, 0, 0, 0), []), (1, (.iload_n 1, 2, 0, 0, 0), []), (2, (.getstatic 1053, 5, 0, 0, 1), [4229]), (5, (.invokestatic 1059, 8, 366, 19, 0), [4231, 4232, 1028]), (8, (.pop, 9, 0, 0, 0), []), (9, (.return_, 10, 0, 0, 0), [])]]
-- jdk/internal/util/Preconditions.checkIndex(IILjava/util/function/BiFunction;)I
noncomputable def md_L366 : List (List mm_Ln) := [[(0, (.iload_n 0, 1, 0, 0, 0), []), (1, (.ifCond .lt 8, 4, 9, 0, 0), []), (4, (.iload_n 0, 5, 0, 0, 0), []), (5, (.iload_n 1, 6, 0, 0, 0), []), (6, (.if_icmp .lt 10, 9, 16, 0, 0), []), (9, (.aload_n 2, 10, 0, 0, 0), []), (10, (.iload_n 0, 11, 0, 0, 0), []), (11, (.iload_n 1, 12, 0, 0, 0), [])],
  [(16, (.iload_n 0, 17, 0, 0, 0), []), (17, (.ireturn, 18, 0, 0, 0), [])]]
noncomputable def md_LC0 : List (List (List mm_Ln)) := [md_L0, md_L1, md_L2, md_L3, md_L4, md_L5, md_L6, md_L7, md_L8, md_L9, md_L10, md_L11, md_L12, md_L13, md_L14, md_L15]
noncomputable def md_LC1 : List (List (List mm_Ln)) := [md_L16, md_L17, md_L18, md_L19, md_L20, md_L21, md_L22, md_L23, md_L24, md_L25, md_L26, md_L27, md_L28, md_L29, md_L30, md_L31]
noncomputable def md_LC2 : List (List (List mm_Ln)) := [md_L32, md_L33, md_L34, md_L35, md_L36, md_L37, md_L38, md_L39, md_L40, md_L41, md_L42, md_L43, md_L44, md_L45, md_L46, md_L47]
noncomputable def md_LC3 : List (List (List mm_Ln)) := [md_L48, md_L49, md_L50, md_L51, md_L52, md_L53, md_L54, md_L55, md_L56, md_L57, md_L58, md_L59, md_L60, md_L61, md_L62, md_L63]
noncomputable def md_LC4 : List (List (List mm_Ln)) := [md_L64, md_L65, md_L66, md_L67, md_L68, md_L69, md_L70, md_L71, md_L72, md_L73, md_L74, md_L75, md_L76, md_L77, md_L78, md_L79]
noncomputable def md_LC5 : List (List (List mm_Ln)) := [md_L80, md_L81, md_L82, md_L83, md_L84, md_L85, md_L86, md_L87, md_L88, md_L89, md_L90, md_L91, md_L92, md_L93, md_L94, md_L95]
noncomputable def md_LC6 : List (List (List mm_Ln)) := [md_L96, md_L97, md_L98, md_L99, md_L100, md_L101, md_L102, md_L103, md_L104, md_L105, md_L106, md_L107, md_L108, md_L109, md_L110, md_L111]
noncomputable def md_LC7 : List (List (List mm_Ln)) := [md_L112, md_L113, md_L114, md_L115, md_L116, md_L117, md_L118, md_L119, md_L120, md_L121, md_L122, md_L123, md_L124, md_L125, md_L126, md_L127]
noncomputable def md_LC8 : List (List (List mm_Ln)) := [md_L128, md_L129, md_L130, md_L131, md_L132, md_L133, md_L134, md_L135, md_L136, md_L137, md_L138, md_L139, md_L140, md_L141, md_L142, md_L143]
noncomputable def md_LC9 : List (List (List mm_Ln)) := [md_L144, md_L145, md_L146, md_L147, md_L148, md_L149, md_L150, md_L151, md_L152, md_L153, md_L154, md_L155, md_L156, md_L157, md_L158, md_L159]
noncomputable def md_LC10 : List (List (List mm_Ln)) := [md_L160, md_L161, md_L162, md_L163, md_L164, md_L165, md_L166, md_L167, md_L168, md_L169, md_L170, md_L171, md_L172, md_L173, md_L174, md_L175]
noncomputable def md_LC11 : List (List (List mm_Ln)) := [md_L176, md_L177, md_L178, md_L179, md_L180, md_L181, md_L182, md_L183, md_L184, md_L185, md_L186, md_L187, md_L188, md_L189, md_L190, md_L191]
noncomputable def md_LC12 : List (List (List mm_Ln)) := [md_L192, md_L193, md_L194, md_L195, md_L196, md_L197, md_L198, md_L199, md_L200, md_L201, md_L202, md_L203, md_L204, md_L205, md_L206, md_L207]
noncomputable def md_LC13 : List (List (List mm_Ln)) := [md_L208, md_L209, md_L210, md_L211, md_L212, md_L213, md_L214, md_L215, md_L216, md_L217, md_L218, md_L219, md_L220, md_L221, md_L222, md_L223]
noncomputable def md_LC14 : List (List (List mm_Ln)) := [md_L224, md_L225, md_L226, md_L227, md_L228, md_L229, md_L230, md_L231, md_L232, md_L233, md_L234, md_L235, md_L236, md_L237, md_L238, md_L239]
noncomputable def md_LC15 : List (List (List mm_Ln)) := [md_L240, md_L241, md_L242, md_L243, md_L244, md_L245, md_L246, md_L247, md_L248, md_L249, md_L250, md_L251, md_L252, md_L253, md_L254, md_L255]
noncomputable def md_LC16 : List (List (List mm_Ln)) := [md_L256, md_L257, md_L258, md_L259, md_L260, md_L261, md_L262, md_L263, md_L264, md_L265, md_L266, md_L267, md_L268, md_L269, md_L270, md_L271]
noncomputable def md_LC17 : List (List (List mm_Ln)) := [md_L272, md_L273, md_L274, md_L275, md_L276, md_L277, md_L278, md_L279, md_L280, md_L281, md_L282, md_L283, md_L284, md_L285, md_L286, md_L287]
noncomputable def md_LC18 : List (List (List mm_Ln)) := [md_L288, md_L289, md_L290, md_L291, md_L292, md_L293, md_L294, md_L295, md_L296, md_L297, md_L298, md_L299, md_L300, md_L301, md_L302, md_L303]
noncomputable def md_LC19 : List (List (List mm_Ln)) := [md_L304, md_L305, md_L306, md_L307, md_L308, md_L309, md_L310, md_L311, md_L312, md_L313, md_L314, md_L315, md_L316, md_L317, md_L318, md_L319]
noncomputable def md_LC20 : List (List (List mm_Ln)) := [md_L320, md_L321, md_L322, md_L323, md_L324, md_L325, md_L326, md_L327, md_L328, md_L329, md_L330, md_L331, md_L332, md_L333, md_L334, md_L335]
noncomputable def md_LC21 : List (List (List mm_Ln)) := [md_L336, md_L337, md_L338, md_L339, md_L340, md_L341, md_L342, md_L343, md_L344, md_L345, md_L346, md_L347, md_L348, md_L349, md_L350, md_L351]
noncomputable def md_LC22 : List (List (List mm_Ln)) := [md_L352, md_L353, md_L354, md_L355, md_L356, md_L357, md_L358, md_L359, md_L360, md_L361, md_L362, md_L363, md_L364, md_L365, md_L366]
noncomputable def md_LL : List (List (List (List mm_Ln))) := [md_LC0, md_LC1, md_LC2, md_LC3, md_LC4, md_LC5, md_LC6, md_LC7, md_LC8, md_LC9, md_LC10, md_LC11, md_LC12, md_LC13, md_LC14, md_LC15, md_LC16, md_LC17, md_LC18, md_LC19, md_LC20, md_LC21, md_LC22]
noncomputable def md_L (j : Nat) : List (List mm_Ln) := (((md_LL[j / 16]?).getD [])[j % 16]?).getD []
def mm_find : Nat → List mm_Ln → Option mm_Ent
  | _, [] => none
  | pc, q :: l => if q.1 = pc then some q.2.1 else mm_find pc l
noncomputable def md_cd (j pc : Nat) : Option mm_Ent := mm_find pc (((md_L j)[pc / 16]?).getD [])
end
section
/-! ===== THE MINI MACHINE: a world is a list of contents, a reference is a place in it; names that begin with md_ are the program's own tables (02.data) ===== -/
def mm_XB : Nat := 1000000
abbrev mm_F : Type := Nat × List (Nat × Value) × List Value × mm_W × Nat × Nat
abbrev mm_O : Type := (Option Value ⊕ Nat) × mm_W × Nat × Nat
abbrev mm_T : Type := mm_F ⊕ mm_O ⊕ (Nat × List Value × Nat × Bool × mm_F)
def mm_cmp : Jvm.ClassFile.Cond → Int32 → Int32 → Bool
  | .eq, x, y => decide (x = y)
  | .ne, x, y => !decide (x = y)
  | .lt, x, y => decide (x < y)
  | .ge, x, y => decide (y ≤ x)
  | .gt, x, y => decide (y < x)
  | .le, x, y => decide (x ≤ y)
def mm_ib (i : Int32) (n : Nat) : Bool := !(decide (i < 0) || decide (n ≤ i.toNatClampNeg))
def mm_get : List (Nat × Value) → Nat → Option Value
  | [], _ => none
  | q :: l, i => if q.1 = i then some q.2 else mm_get l i
def mm_sto (lo : List (Nat × Value)) (i : Nat) (v : Value) : List (Nat × Value) := (i, v) :: lo.filter (fun q => !(q.1 == i) && !(q.1 + 1 == i && q.2.category == 2))
def mm_stl (lo : List (Nat × Value)) (i : Nat) (v : Value) : List (Nat × Value) := (i, v) :: lo.filter (fun q => !(q.1 == i) && (!(q.1 == i + 1) && !(q.1 + 1 == i && q.2.category == 2)))
/-- an array's element: its kind's number and the value -/
def mm_aget (xa : mm_Xa) (W : mm_W) (k : Nat) (i : Int32) : Option (Nat × Value) :=
  if k < mm_XB then
    match W[k]? with
    | some (.inl (t, n, .inl f)) => if mm_ib i n then some (t, .int (f i.toNatClampNeg)) else none
    | some (.inl (t, n, .inr (.inl f))) => if mm_ib i n then some (t, .long (f i.toNatClampNeg)) else none
    | some (.inl (t, n, .inr (.inr (.inr (.inr f))))) => if mm_ib i n then some (t, va_rf (f i.toNatClampNeg)) else none
    | _ => none
  else
    match xa (k - mm_XB) with
    | some (t, n, f) => if mm_ib i n then some (t, f i.toNatClampNeg) else none
    | none => none
def mm_alen (xa : mm_Xa) (W : mm_W) (k : Nat) : Option Nat :=
  if k < mm_XB then
    match W[k]? with
    | some (.inl (_, n, _)) => some n
    | _ => none
  else
    match xa (k - mm_XB) with
    | some (_, n, _) => some n
    | none => none
def mm_nar (t : Nat) (x : Int32) : Int32 := if t = 2 then vp_nar .byte x else if t = 3 then vp_nar .boolean x else x
/-- an int is stored: t is 0, 2 or 3 -/
def mm_aputi (W : mm_W) (k : Nat) (i : Int32) (x : Int32) : Option (Nat × mm_W) :=
  match W[k]? with
  | some (.inl (t, n, .inl f)) => if mm_ib i n then some (t, W.set k (.inl (t, n, .inl (upd f i.toNatClampNeg (mm_nar t x))))) else none
  | _ => none
def mm_aputl (W : mm_W) (k : Nat) (i : Int32) (x : Int64) : Option (Nat × mm_W) :=
  match W[k]? with
  | some (.inl (t, n, .inr (.inl f))) => if mm_ib i n then some (t, W.set k (.inl (t, n, .inr (.inl (vp_updL f i.toNatClampNeg x))))) else none
  | _ => none
/-- the class of what a reference is: a world's object's by its number, an outer object's by 1000 and its number -/
def mm_cls (W : mm_W) (k : Nat) : Option Nat :=
  if k < mm_XB then
    match W[k]? with
    | some (.inr (ci, _)) => some ci
    | _ => none
  else (md_xc (k - mm_XB)).map (fun n => 1000 + n)
def mm_aputr (W : mm_W) (k : Nat) (i : Int32) (v : Nat) : Option mm_W :=
  match W[k]? with
  | some (.inl (t, n, .inr (.inr (.inr (.inr f))))) => if mm_ib i n && decide (4 ≤ t) && decide (mm_cls W v = some (md_ac t)) then some (W.set k (.inl (t, n, .inr (.inr (.inr (.inr (va_up f i.toNatClampNeg (some v)))))))) else none
  | _ => none
/-- a field takes this value: 0 int, 1 long, 2 boolean, 3 a reference -/
def mm_nf : Nat → Value → Bool
  | 0, .int _ => true
  | 1, .long _ => true
  | 2, .int x => decide (x = 0) || decide (x = 1)
  | 3, .ref _ => true
  | 3, .null => true
  | _, _ => false
def mm_put (W : mm_W) (k ci f t : Nat) (v : Value) : Option mm_W :=
  match W[k]? with
  | some (.inr (c, fs)) => if c = ci ∧ f < fs.length ∧ mm_nf t v = true then some (W.set k (.inr (c, fs.set f v))) else none
  | _ => none
def mm_getf (W : mm_W) (k ci f : Nat) : Option Value :=
  match W[k]? with
  | some (.inr (c, fs)) => if c = ci then fs[f]? else none
  | _ => none
def mm_cpy (W : mm_W) (s : Nat) (sp : Int32) (d : Nat) (dp n : Int32) : Option mm_W :=
  if sp < 0 ∨ dp < 0 ∨ n < 0 ∨ ¬ s < mm_XB ∨ ¬ d < mm_XB then none else
  match W[s]?, W[d]? with
  | some (.inl (0, n0, .inl f)), some (.inl (0, n1, .inl g)) =>
    if sp.toNatClampNeg + n.toNatClampNeg ≤ n0 ∧ dp.toNatClampNeg + n.toNatClampNeg ≤ n1 then some (W.set d (.inl (0, n1, .inl (va_cpy f g sp.toNatClampNeg dp.toNatClampNeg n.toNatClampNeg)))) else none
  | some (.inl (1, n0, .inr (.inl f))), some (.inl (1, n1, .inr (.inl g))) =>
    if sp.toNatClampNeg + n.toNatClampNeg ≤ n0 ∧ dp.toNatClampNeg + n.toNatClampNeg ≤ n1 then some (W.set d (.inl (1, n1, .inr (.inl (va_cpy f g sp.toNatClampNeg dp.toNatClampNeg n.toNatClampNeg))))) else none
  | _, _ => none
/-- where a switch goes -/
def mm_at (pc : Nat) (off : Int) : Option Nat := if 0 ≤ (pc : Int) + off then some ((pc : Int) + off).toNat else none
def mm_tsw (pc : Nat) (dflt lo hi : Int) (offs : Array Int) (x : Int32) : Option Nat :=
  if x.toInt < lo ∨ hi < x.toInt then mm_at pc dflt else
  match offs[(x.toInt - lo).toNat]? with
  | some off => mm_at pc off
  | none => none
def mm_call (r1 r2 r3 pc nx : Nat) (lo : List (Nat × Value)) (st : List Value) (W : mm_W) (b c : Nat) : Option mm_T :=
  if st.length < r2 % 16 then none else
  let As := (st.take (r2 % 16)).reverse
  let rest := st.drop (r2 % 16)
  match r2 / 16 with
  | 0 => match rest with
    | .ref k :: rest => if mm_cls W k = some r3 ∧ (rest.map fun v => v.category).sum ≤ 8 then some (.inr (.inr (r1, .ref k :: As, nx, true, (pc, lo, rest, W, b, c)))) else none
    | _ => none
  | 2 => match rest with
    | .ref k :: rest => if mm_cls W k = some r3 ∧ (rest.map fun v => v.category).sum ≤ 8 then some (.inr (.inr (r1, .ref k :: As, nx, false, (pc, lo, rest, W, b, c)))) else none
    | _ => none
  | 1 => if (rest.map fun v => v.category).sum ≤ 8 then some (.inr (.inr (r1, As, nx, true, (pc, lo, rest, W, b, c)))) else none
  | 5 => match st with
    | .ref _ :: st => if (st.map fun v => v.category).sum ≤ 8 then some (.inl (nx, lo, st, W, b, c)) else none
    | _ => none
  | 6 => match st with
    | .int n :: .int dp :: .ref d :: .int sp :: .ref s :: st => if (st.map fun v => v.category).sum ≤ 8 then (mm_cpy W s sp d dp n).map (fun W2 => .inl (nx, lo, st, W2, b, c)) else none
    | _ => none
  | _ => none
def mm_stepI (xa : mm_Xa) (j : Nat) (ins : Instr) (nx r1 r2 r3 pc : Nat) (lo : List (Nat × Value)) (st : List Value) (W : mm_W) (b c : Nat) : Option mm_T :=
  match ins with
  | .iconst n => some (.inl (nx, lo, .int (Int32.ofInt n) :: st, W, b, c))
  | .bipush n => some (.inl (nx, lo, .int (Int8.ofInt n).toInt32 :: st, W, b, c))
  | .sipush n => some (.inl (nx, lo, .int (Int16.ofInt n).toInt32 :: st, W, b, c))
  | .lconst n => some (.inl (nx, lo, .long (Int64.ofNat (n : Nat)) :: st, W, b, c))
  | .aconst_null => some (.inl (nx, lo, .null :: st, W, b, c))
  | .ldc _ => if r1 = 0 then some (.inl (nx, lo, .int (Int32.ofNat r2) :: st, W, b, c)) else some (.inl (nx, lo, .ref (mm_XB + r2) :: st, W, b, c))
  | .ldc_w _ => some (.inl (nx, lo, .int (Int32.ofNat r2) :: st, W, b, c))
  | .ldc2_w _ => some (.inl (nx, lo, .long (Int64.ofNat r1) :: st, W, b, c))
  | .iload i => match mm_get lo i with
    | some (.int x) => some (.inl (nx, lo, .int x :: st, W, b, c))
    | _ => none
  | .iload_n i => match mm_get lo i with
    | some (.int x) => some (.inl (nx, lo, .int x :: st, W, b, c))
    | _ => none
  | .lload i => match mm_get lo i with
    | some (.long x) => some (.inl (nx, lo, .long x :: st, W, b, c))
    | _ => none
  | .lload_n i => match mm_get lo i with
    | some (.long x) => some (.inl (nx, lo, .long x :: st, W, b, c))
    | _ => none
  | .aload i => match mm_get lo i with
    | some (.ref x) => some (.inl (nx, lo, .ref x :: st, W, b, c))
    | _ => none
  | .aload_n i => match mm_get lo i with
    | some (.ref x) => some (.inl (nx, lo, .ref x :: st, W, b, c))
    | _ => none
  | .istore i => match st with
    | .int x :: st => some (.inl (nx, mm_sto lo i (.int x), st, W, b, c))
    | _ => none
  | .istore_n i => match st with
    | .int x :: st => some (.inl (nx, mm_sto lo i (.int x), st, W, b, c))
    | _ => none
  | .lstore i => match st with
    | .long x :: st => some (.inl (nx, mm_stl lo i (.long x), st, W, b, c))
    | _ => none
  | .lstore_n i => match st with
    | .long x :: st => some (.inl (nx, mm_stl lo i (.long x), st, W, b, c))
    | _ => none
  | .astore i => match st with
    | .ref x :: st => some (.inl (nx, mm_sto lo i (.ref x), st, W, b, c))
    | .retAddr x :: st => some (.inl (nx, mm_sto lo i (.retAddr x), st, W, b, c))
    | _ => none
  | .astore_n i => match st with
    | .ref x :: st => some (.inl (nx, mm_sto lo i (.ref x), st, W, b, c))
    | .retAddr x :: st => some (.inl (nx, mm_sto lo i (.retAddr x), st, W, b, c))
    | _ => none
  | .iinc i n => match mm_get lo i with
    | some (.int x) => some (.inl (nx, mm_sto lo i (.int (x + Int32.ofInt n)), st, W, b, c))
    | _ => none
  | .dup => match st with
    | v :: st => if v.category = 1 then some (.inl (nx, lo, v :: v :: st, W, b, c)) else none
    | _ => none
  | .pop => match st with
    | v :: st => if v.category = 1 then some (.inl (nx, lo, st, W, b, c)) else none
    | _ => none
  | .dup2 => match st with
    | v :: w :: st => if v.category = 1 ∧ w.category = 1 then some (.inl (nx, lo, v :: w :: v :: w :: st, W, b, c)) else none
    | _ => none
  | .iadd => match st with
    | .int y :: .int x :: st => some (.inl (nx, lo, .int (x + y) :: st, W, b, c))
    | _ => none
  | .isub => match st with
    | .int y :: .int x :: st => some (.inl (nx, lo, .int (x - y) :: st, W, b, c))
    | _ => none
  | .imul => match st with
    | .int y :: .int x :: st => some (.inl (nx, lo, .int (x * y) :: st, W, b, c))
    | _ => none
  | .iand => match st with
    | .int y :: .int x :: st => some (.inl (nx, lo, .int (x &&& y) :: st, W, b, c))
    | _ => none
  | .ior => match st with
    | .int y :: .int x :: st => some (.inl (nx, lo, .int (x ||| y) :: st, W, b, c))
    | _ => none
  | .ixor => match st with
    | .int y :: .int x :: st => some (.inl (nx, lo, .int (x ^^^ y) :: st, W, b, c))
    | _ => none
  | .idiv => match st with
    | .int y :: .int x :: st => if y = 0 then none else some (.inl (nx, lo, .int (x / y) :: st, W, b, c))
    | _ => none
  | .irem => match st with
    | .int y :: .int x :: st => if y = 0 then none else some (.inl (nx, lo, .int (x - x / y * y) :: st, W, b, c))
    | _ => none
  | .ineg => match st with
    | .int x :: st => some (.inl (nx, lo, .int (-x) :: st, W, b, c))
    | _ => none
  | .ishl => match st with
    | .int y :: .int x :: st => some (.inl (nx, lo, .int (x <<< (y &&& 31)) :: st, W, b, c))
    | _ => none
  | .ishr => match st with
    | .int y :: .int x :: st => some (.inl (nx, lo, .int (x >>> (y &&& 31)) :: st, W, b, c))
    | _ => none
  | .iushr => match st with
    | .int y :: .int x :: st => some (.inl (nx, lo, .int (x.toUInt32 >>> (y.toUInt32 &&& Int32.toUInt32 31)).toInt32 :: st, W, b, c))
    | _ => none
  | .land => match st with
    | .long y :: .long x :: st => some (.inl (nx, lo, .long (x &&& y) :: st, W, b, c))
    | _ => none
  | .lor => match st with
    | .long y :: .long x :: st => some (.inl (nx, lo, .long (x ||| y) :: st, W, b, c))
    | _ => none
  | .lshl => match st with
    | .int y :: .long x :: st => some (.inl (nx, lo, .long (x <<< (y.toInt64 &&& 63)) :: st, W, b, c))
    | _ => none
  | .lshr => match st with
    | .int y :: .long x :: st => some (.inl (nx, lo, .long (x >>> (y.toInt64 &&& 63)) :: st, W, b, c))
    | _ => none
  | .lcmp => match st with
    | .long y :: .long x :: st => some (.inl (nx, lo, .int (lg_cmp x y) :: st, W, b, c))
    | _ => none
  | .i2l => match st with
    | .int x :: st => some (.inl (nx, lo, .long x.toInt64 :: st, W, b, c))
    | _ => none
  | .l2i => match st with
    | .long x :: st => some (.inl (nx, lo, .int x.toInt32 :: st, W, b, c))
    | _ => none
  | .i2b => match st with
    | .int x :: st => some (.inl (nx, lo, .int x.toInt8.toInt32 :: st, W, b, c))
    | _ => none
  | .i2c => match st with
    | .int x :: st => some (.inl (nx, lo, .int (x.toUInt32 % 65536).toInt32 :: st, W, b, c))
    | _ => none
  | .ifCond k _ => match st with
    | .int x :: st => some (.inl (if mm_cmp k x 0 then r1 else nx, lo, st, W, b, c))
    | _ => none
  | .if_icmp k _ => match st with
    | .int y :: .int x :: st => some (.inl (if mm_cmp k x y then r1 else nx, lo, st, W, b, c))
    | _ => none
  | .if_acmp k _ => match st with
    | .ref y :: .ref x :: st =>
      if mm_XB < x ∧ mm_XB < y ∧ x ≤ mm_XB + md_ne ∧ y ≤ mm_XB + md_ne then some (.inl (if decide (x = y) == decide (k = .eq) then r1 else nx, lo, st, W, b, c)) else none
    | _ => none
  | .goto _ => some (.inl (r1, lo, st, W, b, c))
  | .tableswitch dflt l h offs => match st with
    | .int x :: st => match mm_tsw pc dflt l h offs x with
      | some t => some (.inl (t, lo, st, W, b, c))
      | none => none
    | _ => none
  | .lookupswitch dflt ps => match st with
    | .int x :: st => match mm_at pc (Op.lookupswitch.offset ps.toList dflt x.toInt) with
      | some t => some (.inl (t, lo, st, W, b, c))
      | none => none
    | _ => none
  | .iaload => match st with
    | .int i :: .ref k :: st => match mm_aget xa W k i with
      | some (t, v) => if t = 0 then some (.inl (nx, lo, v :: st, W, b, c)) else none
      | none => none
    | _ => none
  | .baload => match st with
    | .int i :: .ref k :: st => match mm_aget xa W k i with
      | some (t, v) => if t = 2 ∨ t = 3 then some (.inl (nx, lo, v :: st, W, b, c)) else none
      | none => none
    | _ => none
  | .laload => match st with
    | .int i :: .ref k :: st => match mm_aget xa W k i with
      | some (t, v) => if t = 1 then some (.inl (nx, lo, v :: st, W, b, c)) else none
      | none => none
    | _ => none
  | .aaload => match st with
    | .int i :: .ref k :: st => match mm_aget xa W k i with
      | some (t, v) => if 4 ≤ t then some (.inl (nx, lo, v :: st, W, b, c)) else none
      | none => none
    | _ => none
  | .iastore => match st with
    | .int x :: .int i :: .ref k :: st => if k < mm_XB then match mm_aputi W k i x with
      | some (t, W2) => if t = 0 then some (.inl (nx, lo, st, W2, b, c)) else none
      | none => none
      else none
    | _ => none
  | .bastore => match st with
    | .int x :: .int i :: .ref k :: st => if k < mm_XB then match mm_aputi W k i x with
      | some (t, W2) => if t = 2 ∨ t = 3 then some (.inl (nx, lo, st, W2, b, c)) else none
      | none => none
      else none
    | _ => none
  | .lastore => match st with
    | .long x :: .int i :: .ref k :: st => if k < mm_XB then match mm_aputl W k i x with
      | some (t, W2) => if t = 1 then some (.inl (nx, lo, st, W2, b, c)) else none
      | none => none
      else none
    | _ => none
  | .aastore => match st with
    | .ref v :: .int i :: .ref k :: st => if k < mm_XB then (mm_aputr W k i v).map (fun W2 => .inl (nx, lo, st, W2, b, c)) else none
    | _ => none
  | .arraylength => match st with
    | .ref k :: st => (mm_alen xa W k).map (fun n => .inl (nx, lo, .int (Int32.ofNat n) :: st, W, b, c))
    | _ => none
  | .getfield _ => match st with
    | .ref k :: st =>
      if r3 = 0 then (if k < mm_XB then (mm_getf W k r1 r2).map (fun v => .inl (nx, lo, v :: st, W, b, c)) else none)
      else if k < mm_XB then none else (md_xo (k - mm_XB) r1).map (fun v => .inl (nx, lo, v :: st, W, b, c))
    | _ => none
  | .putfield _ => match st with
    | v :: .ref k :: st => if k < mm_XB then (mm_put W k r1 r2 r3 v).map (fun W2 => .inl (nx, lo, st, W2, b, c)) else none
    | _ => none
  | .getstatic _ => if r3 = 0 then some (.inl (nx, lo, md_st r1 :: st, W, b, c)) else some (.inl (nx, lo, .retAddr 0 :: st, W, b, c))
  | .new _ =>
    if r3 = 0 then
      (if 1 ≤ b ∧ (md_df r1).length ≤ c ∧ W.length < mm_XB then some (.inl (nx, lo, .ref W.length :: st, W ++ [.inr (r1, md_df r1)], b - 1, c - (md_df r1).length)) else none)
    else if 1 ≤ b ∧ 6 ≤ c ∧ (st.map fun v => v.category).sum ≤ 8 then some (.inr (.inl (.inr r1, W, b - 1, c - 6))) else none
  | .newarray _ => match st with
    | .int n :: st =>
      if ¬ n < 0 ∧ 1 ≤ b ∧ n.toNatClampNeg ≤ c ∧ W.length < mm_XB ∧ n.toNatClampNeg ≤ 1000000 then
        some (.inl (nx, lo, .ref W.length :: st, W ++ [.inl (r1, n.toNatClampNeg, if r1 = 1 then .inr (.inl (fun _ => 0)) else .inl (fun _ => 0))], b - 1, c - n.toNatClampNeg))
      else none
    | _ => none
  | .anewarray _ => match st with
    | .int n :: st =>
      if ¬ n < 0 ∧ 1 ≤ b ∧ n.toNatClampNeg ≤ c ∧ W.length < mm_XB ∧ n.toNatClampNeg ≤ 1000000 then
        some (.inl (nx, lo, .ref W.length :: st, W ++ [.inl (r1, n.toNatClampNeg, .inr (.inr (.inr (.inr (fun _ => none)))))], b - 1, c - n.toNatClampNeg))
      else none
    | _ => none
  | .invokevirtual _ => mm_call r1 r2 r3 pc nx lo st W b c
  | .invokestatic _ => mm_call r1 r2 r3 pc nx lo st W b c
  | .invokespecial _ => mm_call r1 r2 r3 pc nx lo st W b c
  | .ireturn => match st with
    | [.int v] => (match (md_mt j).2.2.2.1 with
      | some ty => if narrow ty (.int v) = .int v then some (.inr (.inl (.inl (some (.int v)), W, b, c))) else none
      | none => none)
    | _ => none
  | .lreturn => match st with
    | [.long v] => if (md_mt j).2.2.2.1 = some .long then some (.inr (.inl (.inl (some (.long v)), W, b, c))) else none
    | _ => none
  | .areturn => match st with
    | [.ref v] => (match (md_mt j).2.2.2.1 with
      | some (.object _) => some (.inr (.inl (.inl (some (.ref v)), W, b, c)))
      | some (.array _) => some (.inr (.inl (.inl (some (.ref v)), W, b, c)))
      | _ => none)
    | _ => none
  | .return_ => match st with
    | [] => if (md_mt j).2.2.2.1 = none then some (.inr (.inl (.inl none, W, b, c))) else none
    | _ => none
  | _ => none
noncomputable def mm_step (xa : mm_Xa) (j : Nat) (F : mm_F) : Option mm_T :=
  match md_cd j F.1 with
  | none => none
  | some e => mm_stepI xa j e.1 e.2.1 e.2.2.1 e.2.2.2.1 e.2.2.2.2 F.1 F.2.1 F.2.2.1 F.2.2.2.1 F.2.2.2.2.1 F.2.2.2.2.2
/-- runs of at most f steps, calls of depth d -/
noncomputable def mm_ex (xa : mm_Xa) : Nat → Nat → Nat → mm_F → Option mm_O
  | 0, _, _, _ => none
  | f + 1, d, j, F =>
    match mm_step xa j F with
    | none => none
    | some (.inl F') => mm_ex xa f d j F'
    | some (.inr (.inl o)) => some o
    | some (.inr (.inr (j', as, nx, fl, G))) =>
      match d with
      | 0 => none
      | d' + 1 =>
        if (md_mt j').2.2.1 < (as.map fun v => v.category).sum then none else
        match mm_ex xa f d' j' (0, lv_args 0 as, [], G.2.2.2.1, G.2.2.2.2.1, G.2.2.2.2.2) with
        | none => none
        | some (.inl v, W2, b2, c2) => mm_ex xa f (d' + 1) j (nx, G.2.1, v.toList ++ G.2.2.1, W2, b2, c2)
        | some (.inr E, W2, b2, c2) =>
          if fl = false then none else
          if (md_mt j).2.2.2.2 = [] then some (.inr E, W2, b2, c2) else
          match md_hd j G.1 E with
          | none => none
          | some h => mm_ex xa f (d' + 1) j (h, G.2.1, [.retAddr 0], W2, b2, c2)
end
section
/-! ===== what a mini world is in the heap ===== -/
def mm_ad (xl : Nat → Nat) (ws : va_W) (k : Nat) : Option Nat := if k < mm_XB then (ws[k]?).map (fun q => q.1) else some (xl (k - mm_XB))
def mm_v (xl : Nat → Nat) (ws : va_W) : Value → Value → Prop
  | .ref k, v' => ∃ a, mm_ad xl ws k = some a ∧ v' = .ref a
  | .retAddr _, v' => v' = .null ∨ ∃ a, v' = .ref a
  | .int x, v' => v' = .int x
  | .long x, v' => v' = .long x
  | .float x, v' => v' = .float x
  | .double x, v' => v' = .double x
  | .null, v' => v' = .null
def mm_o (xl : Nat → Nat) (ws : va_W) : Option Nat → Option Nat → Prop
  | none, r => r = none
  | some k, r => ∃ a, mm_ad xl ws k = some a ∧ r = some a
def mm_l (xl : Nat → Nat) (ws : va_W) : List Value → List Value → Prop
  | [], l' => l' = []
  | v :: l, l' => ∃ v' l2, l' = v' :: l2 ∧ mm_v xl ws v v' ∧ mm_l xl ws l l2
def mm_lo (xl : Nat → Nat) (ws : va_W) : List (Nat × Value) → List (Nat × Value) → Prop
  | [], l' => l' = []
  | q :: l, l' => ∃ v' l2, l' = (q.1, v') :: l2 ∧ mm_v xl ws q.2 v' ∧ mm_lo xl ws l l2
def mm_e (xl : Nat → Nat) (ws : va_W) (tys : List (ClassId × FieldType)) : va_E → va_E → Prop
  | .inr (ci, fs), e' => ∃ fs', e' = .inr (ci, fs') ∧ mm_l xl ws fs fs'
  | .inl (t, n, .inl f), e' => ∃ (cA : ClassId) (t0 : Nat), tys[t0]? = some (cA, md_ty t) ∧ e' = .inl (cA, n, .inl f) ∧ (t = 0 ∨ t = 2 ∨ t = 3)
  | .inl (t, n, .inr (.inl f)), e' => ∃ (cA : ClassId) (t0 : Nat), tys[t0]? = some (cA, md_ty t) ∧ e' = .inl (cA, n, .inr (.inl f)) ∧ t = 1
  | .inl (t, n, .inr (.inr (.inr (.inr f)))), e' => ∃ (cA : ClassId) (t0 : Nat) (f' : Nat → Option Nat), tys[t0]? = some (cA, md_ty t) ∧ e' = .inl (cA, n, .inr (.inr (.inr (.inr f')))) ∧ (∀ j, mm_o xl ws (f j) (f' j)) ∧ 4 ≤ t
  | .inl (_, _, .inr (.inr (.inl _))), _ => False
  | .inl (_, _, .inr (.inr (.inr (.inl _)))), _ => False
def mm_le (xl : Nat → Nat) (ws ws1 : va_W) : Prop := ∀ k a, mm_ad xl ws k = some a → mm_ad xl ws1 k = some a
/-- w0: the world at the method's start -/
def mm_w (xl : Nat → Nat) (w0 : va_W) (tys : List (ClassId × FieldType)) (W : mm_W) (ws : va_W) : Prop :=
  ws.length = W.length ∧ (∀ (k : Nat) (e : va_E), W[k]? = some e → ∃ (a : Nat) (e' : va_E), ws[k]? = some (a, e') ∧ mm_e xl ws tys e e') ∧ mm_le xl w0 ws
def mm_tle (tys tys1 : List (ClassId × FieldType)) : Prop := ∀ (t0 : Nat) (q : ClassId × FieldType), tys[t0]? = some q → tys1[t0]? = some q
theorem mm_le.rf {xl : Nat → Nat} {ws : va_W} : mm_le xl ws ws := fun _ _ h => h
theorem mm_le.tr {xl : Nat → Nat} {ws ws1 ws2 : va_W} (h : mm_le xl ws ws1) (h2 : mm_le xl ws1 ws2) : mm_le xl ws ws2 := fun k a q => h2 k a (h k a q)
theorem mm_tle.rf {tys : List (ClassId × FieldType)} : mm_tle tys tys := fun _ _ h => h
theorem mm_tle.app {tys t2 : List (ClassId × FieldType)} : mm_tle tys (tys ++ t2) := fun t0 q h => by
  rw [List.getElem?_append_left ((List.getElem?_eq_some_iff.mp h).1)]; exact h
theorem mm_v.mono {xl : Nat → Nat} {ws ws1 : va_W} (h : mm_le xl ws ws1) {v v' : Value} (hv : mm_v xl ws v v') : mm_v xl ws1 v v' := by
  cases v with
  | ref k => obtain ⟨a, h1, h2⟩ := hv; exact ⟨a, h _ _ h1, h2⟩
  | _ => exact hv
theorem mm_o.mono {xl : Nat → Nat} {ws ws1 : va_W} (h : mm_le xl ws ws1) {v v' : Option Nat} (hv : mm_o xl ws v v') : mm_o xl ws1 v v' := by
  cases v with
  | some k => obtain ⟨a, h1, h2⟩ := hv; exact ⟨a, h _ _ h1, h2⟩
  | none => exact hv
theorem mm_l.mono {xl : Nat → Nat} {ws ws1 : va_W} (h : mm_le xl ws ws1) : ∀ {l l' : List Value}, mm_l xl ws l l' → mm_l xl ws1 l l'
  | [], _, hv => hv
  | _ :: _, _, hv => by obtain ⟨v', l2, h1, h2, h3⟩ := hv; exact ⟨v', l2, h1, h2.mono h, mm_l.mono h h3⟩
theorem mm_lo.mono {xl : Nat → Nat} {ws ws1 : va_W} (h : mm_le xl ws ws1) : ∀ {l l' : List (Nat × Value)}, mm_lo xl ws l l' → mm_lo xl ws1 l l'
  | [], _, hv => hv
  | _ :: _, _, hv => by obtain ⟨v', l2, h1, h2, h3⟩ := hv; exact ⟨v', l2, h1, h2.mono h, mm_lo.mono h h3⟩
theorem mm_e.mono {xl : Nat → Nat} {ws ws1 : va_W} {tys tys1 : List (ClassId × FieldType)} (h : mm_le xl ws ws1) (ht : mm_tle tys tys1) {e e' : va_E} (he : mm_e xl ws tys e e') : mm_e xl ws1 tys1 e e' := by
  rcases e with ⟨t, n, f | f | f | f | f⟩ | ⟨ci, fs⟩
  · obtain ⟨cA, t0, h1, h2⟩ := he; exact ⟨cA, t0, ht _ _ h1, h2⟩
  · obtain ⟨cA, t0, h1, h2⟩ := he; exact ⟨cA, t0, ht _ _ h1, h2⟩
  · exact False.elim he
  · exact False.elim he
  · obtain ⟨cA, t0, f', h1, h2, h3, h4⟩ := he; exact ⟨cA, t0, f', ht _ _ h1, h2, fun j => (h3 j).mono h, h4⟩
  · obtain ⟨fs', h1, h2⟩ := he; exact ⟨fs', h1, h2.mono h⟩
theorem mm_ad_set {xl : Nat → Nat} {ws : va_W} {q a : Nat} {e0 e : va_E} (h : ws[q]? = some (a, e0)) (k : Nat) : mm_ad xl (ws.set q (a, e)) k = mm_ad xl ws k := by
  unfold mm_ad
  split
  · by_cases hk : k = q
    · subst hk
      rw [List.getElem?_set_self ((List.getElem?_eq_some_iff.mp h).1), h]; rfl
    · rw [List.getElem?_set_ne (fun z => hk z.symm)]
  · rfl
theorem mm_le_set {xl : Nat → Nat} {ws : va_W} {q a : Nat} {e0 e : va_E} (h : ws[q]? = some (a, e0)) : mm_le xl ws (ws.set q (a, e)) := fun k b hk => by rw [mm_ad_set h]; exact hk
theorem mm_le_app {xl : Nat → Nat} {ws w2 : va_W} : mm_le xl ws (ws ++ w2) := fun k a h => by
  unfold mm_ad at h ⊢
  split at h
  · rename_i hk
    rw [if_pos hk]
    cases hq : ws[k]? with
    | none => rw [hq] at h; cases h
    | some q =>
      rw [List.getElem?_append_left ((List.getElem?_eq_some_iff.mp hq).1), hq]
      rw [hq] at h; exact h
  · rename_i hk
    rw [if_neg hk]; exact h
theorem mm_ad_new {xl : Nat → Nat} {ws : va_W} {a : Nat} {e : va_E} {k : Nat} (hk : k = ws.length) (hx : k < mm_XB) : mm_ad xl (ws ++ [(a, e)]) k = some a := by
  subst hk
  unfold mm_ad
  rw [if_pos hx, List.getElem?_append_right (Nat.le_refl _), Nat.sub_self]; rfl
theorem mm_ad_at {xl : Nat → Nat} {ws : va_W} {a : Nat} {e : va_E} {k : Nat} (h : ws[k]? = some (a, e)) (hx : k < mm_XB) : mm_ad xl ws k = some a := by
  unfold mm_ad
  rw [if_pos hx, h]; rfl
theorem mm_ad_in {xl : Nat → Nat} {ws : va_W} {a : Nat} {k : Nat} (h : mm_ad xl ws k = some a) (hx : k < mm_XB) : ∃ e, ws[k]? = some (a, e) := by
  unfold mm_ad at h
  rw [if_pos hx] at h
  cases hq : ws[k]? with
  | none => rw [hq] at h; cases h
  | some q =>
    obtain ⟨a', e⟩ := q
    rw [hq] at h
    have : a' = a := by simpa using h
    subst this
    exact ⟨e, rfl⟩
theorem mm_ad_out {xl : Nat → Nat} {ws : va_W} {a : Nat} {k : Nat} (h : mm_ad xl ws k = some a) (hx : ¬ k < mm_XB) : a = xl (k - mm_XB) := by
  unfold mm_ad at h
  rw [if_neg hx] at h
  exact (Option.some.inj h).symm
theorem mm_w.set {xl : Nat → Nat} {w0 : va_W} {tys : List (ClassId × FieldType)} {W : mm_W} {ws : va_W} (h : mm_w xl w0 tys W ws) {q a : Nat} {e0 e e' : va_E} (hq : ws[q]? = some (a, e0)) (he : mm_e xl ws tys e e') : mm_w xl w0 tys (W.set q e) (ws.set q (a, e')) := by
  obtain ⟨h1, h2, h9⟩ := h
  refine ⟨by simp [h1], fun k x hk => ?_, h9.tr (mm_le_set hq)⟩
  have hl := (List.getElem?_eq_some_iff.mp hq).1
  by_cases hkq : k = q
  · subst hkq
    rw [List.getElem?_set_self (by rw [← h1]; exact hl)] at hk
    cases hk
    exact ⟨a, e', by rw [List.getElem?_set_self hl], he.mono (mm_le_set hq) mm_tle.rf⟩
  · rw [List.getElem?_set_ne (fun z => hkq z.symm)] at hk
    obtain ⟨a2, e2, h3, h4⟩ := h2 k x hk
    exact ⟨a2, e2, by rw [List.getElem?_set_ne (fun z => hkq z.symm)]; exact h3, h4.mono (mm_le_set hq) mm_tle.rf⟩
theorem mm_w.app {xl : Nat → Nat} {w0 : va_W} {tys tys1 : List (ClassId × FieldType)} {W : mm_W} {ws : va_W} (h : mm_w xl w0 tys W ws) (ht : mm_tle tys tys1) {a : Nat} {e e' : va_E} (he : mm_e xl (ws ++ [(a, e')]) tys1 e e') : mm_w xl w0 tys1 (W ++ [e]) (ws ++ [(a, e')]) := by
  obtain ⟨h1, h2, h9⟩ := h
  refine ⟨by simp [h1], fun k x hk => ?_, h9.tr mm_le_app⟩
  by_cases hl : k < W.length
  · rw [List.getElem?_append_left hl] at hk
    obtain ⟨a2, e2, h3, h4⟩ := h2 k x hk
    exact ⟨a2, e2, by rw [List.getElem?_append_left (by rw [h1]; exact hl)]; exact h3, h4.mono mm_le_app ht⟩
  · rw [List.getElem?_append_right (by omega)] at hk
    have hz : k - W.length < 1 := (List.getElem?_eq_some_iff.mp hk).1
    have hk0 : k = W.length := by omega
    subst hk0
    rw [Nat.sub_self] at hk
    cases hk
    exact ⟨a, e', by rw [List.getElem?_append_right (by omega), h1, Nat.sub_self]; rfl, he⟩
theorem mm_v.cat {xl : Nat → Nat} {ws : va_W} {v v' : Value} (h : mm_v xl ws v v') : v'.category = v.category := by
  cases v with
  | ref k => obtain ⟨a, -, rfl⟩ := h; rfl
  | retAddr k => rcases h with rfl | ⟨a, rfl⟩ <;> rfl
  | _ => rw [show v' = _ from h]
theorem mm_l.cats {xl : Nat → Nat} {ws : va_W} : ∀ {l l' : List Value}, mm_l xl ws l l' → (l'.map fun v => v.category).sum = (l.map fun v => v.category).sum
  | [], _, h => by rw [show _ = [] from h]
  | _ :: _, _, h => by obtain ⟨v', l2, rfl, h2, h3⟩ := h; simp only [List.map_cons, List.sum_cons, h2.cat, mm_l.cats h3]
theorem mm_l.len {xl : Nat → Nat} {ws : va_W} : ∀ {l l' : List Value}, mm_l xl ws l l' → l'.length = l.length
  | [], _, h => by rw [show _ = [] from h]
  | _ :: _, _, h => by obtain ⟨v', l2, rfl, h2, h3⟩ := h; simp only [List.length_cons, mm_l.len h3]
theorem mm_l.at {xl : Nat → Nat} {ws : va_W} : ∀ {l l' : List Value}, mm_l xl ws l l' → ∀ {k : Nat} {v : Value}, l[k]? = some v → ∃ v', l'[k]? = some v' ∧ mm_v xl ws v v'
  | [], _, _, k, v, hk => by simp at hk
  | _ :: _, _, h, 0, v, hk => by
    obtain ⟨v', l2, rfl, h2, h3⟩ := h
    rw [List.getElem?_cons_zero] at hk ⊢
    cases hk
    exact ⟨v', rfl, h2⟩
  | _ :: _, _, h, k + 1, v, hk => by
    obtain ⟨v', l2, rfl, h2, h3⟩ := h
    rw [List.getElem?_cons_succ] at hk ⊢
    exact mm_l.at h3 hk
theorem mm_l.set {xl : Nat → Nat} {ws : va_W} : ∀ {l l' : List Value}, mm_l xl ws l l' → ∀ (k : Nat) {v v' : Value}, mm_v xl ws v v' → mm_l xl ws (l.set k v) (l'.set k v')
  | [], _, h, _, _, _, _ => by rw [show _ = [] from h]; exact (rfl : ([] : List Value) = [])
  | _ :: _, _, h, 0, v, v', hv => by
    obtain ⟨v0, l2, rfl, h2, h3⟩ := h
    exact ⟨v', l2, rfl, hv, h3⟩
  | _ :: _, _, h, k + 1, v, v', hv => by
    obtain ⟨v0, l2, rfl, h2, h3⟩ := h
    exact ⟨v0, l2.set k v', rfl, h2, mm_l.set h3 k hv⟩
theorem mm_l.app {xl : Nat → Nat} {ws : va_W} : ∀ {l l' m m' : List Value}, mm_l xl ws l l' → mm_l xl ws m m' → mm_l xl ws (l ++ m) (l' ++ m')
  | [], _, _, _, h, h2 => by rw [show _ = [] from h]; exact h2
  | _ :: _, _, _, _, h, h2 => by
    obtain ⟨v0, l2, rfl, h3, h4⟩ := h
    exact ⟨v0, l2 ++ _, rfl, h3, mm_l.app h4 h2⟩
theorem mm_l.split {xl : Nat → Nat} {ws : va_W} : ∀ (n : Nat) {l l' : List Value}, mm_l xl ws l l' → mm_l xl ws (l.take n) (l'.take n) ∧ mm_l xl ws (l.drop n) (l'.drop n)
  | 0, _, _, h => ⟨(rfl : ([] : List Value) = []), h⟩
  | n + 1, [], _, h => by rw [show _ = [] from h]; exact ⟨(rfl : ([] : List Value) = []), (rfl : ([] : List Value) = [])⟩
  | n + 1, _ :: _, _, h => by
    obtain ⟨v0, l2, rfl, h3, h4⟩ := h
    obtain ⟨h5, h6⟩ := mm_l.split n h4
    exact ⟨⟨v0, l2.take n, rfl, h3, h5⟩, h6⟩
theorem mm_l.rev {xl : Nat → Nat} {ws : va_W} : ∀ {l l' : List Value}, mm_l xl ws l l' → mm_l xl ws l.reverse l'.reverse
  | [], _, h => by rw [show _ = [] from h]; exact (rfl : ([] : List Value) = [])
  | v :: l, _, h => by
    obtain ⟨v0, l2, rfl, h3, h4⟩ := h
    rw [List.reverse_cons, List.reverse_cons]
    exact mm_l.app (mm_l.rev h4) ⟨v0, [], rfl, h3, rfl⟩
theorem mm_lo.get {xl : Nat → Nat} {ws : va_W} : ∀ {lo lv : List (Nat × Value)}, mm_lo xl ws lo lv → ∀ {i : Nat} {v : Value}, mm_get lo i = some v → ∃ v', (i, v') ∈ lv ∧ mm_v xl ws v v'
  | [], _, _, i, v, hg => by cases hg
  | q :: l, _, h, i, v, hg => by
    obtain ⟨v0, l2, rfl, h3, h4⟩ := h
    unfold mm_get at hg
    split at hg
    · rename_i hi
      cases hg
      subst hi
      exact ⟨v0, List.mem_cons_self, h3⟩
    · obtain ⟨v', h5, h6⟩ := mm_lo.get h4 hg
      exact ⟨v', List.mem_cons_of_mem _ h5, h6⟩
theorem mm_lo.fil {xl : Nat → Nat} {ws : va_W} (f : Nat × Nat → Bool) : ∀ {lo lv : List (Nat × Value)}, mm_lo xl ws lo lv → mm_lo xl ws (lo.filter (fun q => f (q.1, q.2.category))) (lv.filter (fun q => f (q.1, q.2.category)))
  | [], _, h => by rw [show _ = [] from h]; exact (rfl : ([] : List (Nat × Value)) = [])
  | q :: l, _, h => by
    obtain ⟨v0, l2, rfl, h3, h4⟩ := h
    have ih := mm_lo.fil f h4
    by_cases hf : f (q.1, q.2.category) = true
    · rw [List.filter_cons_of_pos (by exact hf), List.filter_cons_of_pos (by rw [h3.cat]; exact hf)]
      exact ⟨v0, _, rfl, h3, ih⟩
    · rw [List.filter_cons_of_neg (by exact hf), List.filter_cons_of_neg (by rw [h3.cat]; exact hf)]
      exact ih
theorem mm_lo.sto {xl : Nat → Nat} {ws : va_W} {lo lv : List (Nat × Value)} (h : mm_lo xl ws lo lv) (i : Nat) {v v' : Value} (hv : mm_v xl ws v v') : mm_lo xl ws (mm_sto lo i v) ((i, v') :: lv.filter (fun q => !(q.1 == i) && !(q.1 + 1 == i && q.2.category == 2))) :=
  ⟨v', _, rfl, hv, mm_lo.fil (fun z => !(z.1 == i) && !(z.1 + 1 == i && z.2 == 2)) h⟩
theorem mm_lo.stl {xl : Nat → Nat} {ws : va_W} {lo lv : List (Nat × Value)} (h : mm_lo xl ws lo lv) (i : Nat) {v v' : Value} (hv : mm_v xl ws v v') : mm_lo xl ws (mm_stl lo i v) ((i, v') :: lv.filter (fun q => !(q.1 == i) && (!(q.1 == i + 1) && !(q.1 + 1 == i && q.2.category == 2)))) :=
  ⟨v', _, rfl, hv, mm_lo.fil (fun z => !(z.1 == i) && (!(z.1 == i + 1) && !(z.1 + 1 == i && z.2 == 2))) h⟩
theorem mm_lo.args {xl : Nat → Nat} {ws : va_W} : ∀ {l l' : List Value} (i : Nat), mm_l xl ws l l' → mm_lo xl ws (lv_args i l) (lv_args i l')
  | [], _, _, h => by rw [show _ = [] from h]; exact (rfl : ([] : List (Nat × Value)) = [])
  | v :: l, _, i, h => by
    obtain ⟨v0, l2, rfl, h3, h4⟩ := h
    unfold lv_args
    rw [h3.cat]
    exact ⟨v0, _, rfl, h3, mm_lo.args _ h4⟩
theorem mm_v.re {xl : Nat → Nat} {ws : va_W} {r r' : Option Nat} (h : mm_o xl ws r r') : mm_v xl ws (va_rf r) (va_rf r') := by
  cases r with
  | none => rw [show r' = none from h]; exact (rfl : Value.null = Value.null)
  | some k => obtain ⟨a, h1, rfl⟩ := h; exact ⟨a, h1, rfl⟩
/-- an outer value: where it is -/
def mm_xv (xl : Nat → Nat) : Value → Value
  | .ref k => .ref (xl (k - mm_XB))
  | v => v
def mm_isx : Value → Bool
  | .ref k => decide (mm_XB ≤ k)
  | .retAddr _ => false
  | _ => true
theorem mm_v.x {xl : Nat → Nat} {ws : va_W} {v : Value} (h : mm_isx v = true) : mm_v xl ws v (mm_xv xl v) := by
  cases v with
  | ref k =>
    have hk : mm_XB ≤ k := by simpa [mm_isx] using h
    exact ⟨_, by unfold mm_ad; rw [if_neg (Nat.not_lt.mpr hk)], rfl⟩
  | retAddr k => cases h
  | int x => exact (rfl : Value.int x = Value.int x)
  | long x => exact (rfl : Value.long x = Value.long x)
  | float x => exact (rfl : Value.float x = Value.float x)
  | double x => exact (rfl : Value.double x = Value.double x)
  | null => exact (rfl : Value.null = Value.null)
theorem mm_ib_in {i : Int32} {n : Nat} (h : mm_ib i n = true) : vp_in i n := by
  unfold mm_ib at h
  simpa [vp_in] using h
theorem mm_l.nil {xl : Nat → Nat} {ws : va_W} : mm_l xl ws [] [] := (rfl : ([] : List Value) = [])
theorem mm_l.cons {xl : Nat → Nat} {ws : va_W} {v v' : Value} {l l' : List Value} (h : mm_v xl ws v v') (h2 : mm_l xl ws l l') : mm_l xl ws (v :: l) (v' :: l') := ⟨v', l', rfl, h, h2⟩
theorem mm_v.i {xl : Nat → Nat} {ws : va_W} {x : Int32} : mm_v xl ws (.int x) (.int x) := (rfl : Value.int x = Value.int x)
theorem mm_v.j {xl : Nat → Nat} {ws : va_W} {x : Int64} : mm_v xl ws (.long x) (.long x) := (rfl : Value.long x = Value.long x)
theorem mm_v.n {xl : Nat → Nat} {ws : va_W} : mm_v xl ws .null .null := (rfl : Value.null = Value.null)
theorem mm_v.ri {xl : Nat → Nat} {ws : va_W} {x : Int32} {v' : Value} (h : mm_v xl ws (.int x) v') : v' = .int x := h
theorem mm_v.rj {xl : Nat → Nat} {ws : va_W} {x : Int64} {v' : Value} (h : mm_v xl ws (.long x) v') : v' = .long x := h
theorem mm_v.rn {xl : Nat → Nat} {ws : va_W} {v' : Value} (h : mm_v xl ws .null v') : v' = .null := h
theorem mm_v.rr {xl : Nat → Nat} {ws : va_W} {k : Nat} {v' : Value} (h : mm_v xl ws (.ref k) v') : ∃ a, mm_ad xl ws k = some a ∧ v' = .ref a := h
theorem mm_v.rt {xl : Nat → Nat} {ws : va_W} {k : Nat} {v' : Value} (h : mm_v xl ws (.retAddr k) v') : v' = .null ∨ ∃ a, v' = .ref a := h
theorem mm_l.un {xl : Nat → Nat} {ws : va_W} {v : Value} {l l' : List Value} (h : mm_l xl ws (v :: l) l') : ∃ v' l2, l' = v' :: l2 ∧ mm_v xl ws v v' ∧ mm_l xl ws l l2 := h
theorem mm_l.un0 {xl : Nat → Nat} {ws : va_W} {l' : List Value} (h : mm_l xl ws [] l') : l' = [] := h
theorem mm_lvat {ls : Array Slot} {nL : Nat} {lv : List (Nat × Value)} (h : lv_has ls nL lv) {i : Nat} {v : Value} (hm : (i, v) ∈ lv) : ls[i]? = some (.val v) := h.2.2 (i, v) hm
theorem mm_e.i {xl : Nat → Nat} {ws : va_W} {tys : List (ClassId × FieldType)} {t n t0 : Nat} {f : Nat → Int32} {cA : ClassId} (h : tys[t0]? = some (cA, md_ty t)) (ht : t = 0 ∨ t = 2 ∨ t = 3) : mm_e xl ws tys (.inl (t, n, .inl f)) (.inl (cA, n, .inl f)) := ⟨cA, t0, h, rfl, ht⟩
theorem mm_e.j {xl : Nat → Nat} {ws : va_W} {tys : List (ClassId × FieldType)} {t n t0 : Nat} {f : Nat → Int64} {cA : ClassId} (h : tys[t0]? = some (cA, md_ty t)) (ht : t = 1) : mm_e xl ws tys (.inl (t, n, .inr (.inl f))) (.inl (cA, n, .inr (.inl f))) := ⟨cA, t0, h, rfl, ht⟩
theorem mm_e.r {xl : Nat → Nat} {ws : va_W} {tys : List (ClassId × FieldType)} {t n t0 : Nat} {f f' : Nat → Option Nat} {cA : ClassId} (h : tys[t0]? = some (cA, md_ty t)) (hf : ∀ j, mm_o xl ws (f j) (f' j)) (ht : 4 ≤ t) : mm_e xl ws tys (.inl (t, n, .inr (.inr (.inr (.inr f))))) (.inl (cA, n, .inr (.inr (.inr (.inr f'))))) := ⟨cA, t0, f', h, rfl, hf, ht⟩
theorem mm_e.o {xl : Nat → Nat} {ws : va_W} {tys : List (ClassId × FieldType)} {ci : Nat} {fs fs' : List Value} (h : mm_l xl ws fs fs') : mm_e xl ws tys (.inr (ci, fs)) (.inr (ci, fs')) := ⟨fs', rfl, h⟩
end
section
/-! ===== what lies outside of a world: statics, constants, tables, texts; a method's standing facts ===== -/
def mm_X (xl : Nat → Nat) (A : Nat → Prop) (sc : Nat × (Nat → Int32)) (U : State) : Prop :=
  (∀ i, i < md_nst → va_Z (md_stn i).1 (md_stn i).2.1 (md_stn i).2.2 (mm_xv xl (md_st i)) A U U.heap ∧ mm_isx (md_st i) = true) ∧
  (∀ i n, md_xc i = some n → va_O (md_xcn n) (xl i) A U U.heap) ∧
  (∀ i k v, md_xo i k = some v → va_OF (md_xf k).1 (md_xf k).2.1 (md_xf k).2.2 (mm_xv xl v) (xl i) A U U.heap ∧ mm_isx v = true) ∧
  (∀ i t n f, md_xa sc i = some (t, n, f) → va_T (md_ty t) (xl i) n (fun j => mm_xv xl (f j)) A U U.heap ∧ ∀ j, mm_isx (f j) = true) ∧
  (∀ q ∈ md_sr, vk_R q.1 q.2.1 q.2.2.1 (xl q.2.2.2) U) ∧
  (∀ w ∈ md_gw, va_Nw w U) ∧
  (∀ q ∈ md_nw, va_Nw (.methodLinkNest q.1 q.2.1 q.2.2.1 q.2.2.2) U) ∧
  (∀ C ∈ md_ao, va_AO C U) ∧
  (∀ q ∈ md_nc, va_Nc q.1 q.2 U) ∧
  vx_Zq Bundle.tN "UNASSIGNED_STACK" Bundle.steD A U U.heap ∧
  vx_Zq Bundle.tN "SUPPRESSED_SENTINEL" Bundle.listD A U U.heap ∧
  (∀ i k, 1 ≤ i → 1 ≤ k → i ≤ md_ne → k ≤ md_ne → xl i = xl k → i = k) ∧
  (∀ q ∈ md_sq, va_Zq q.1 q.2.1 q.2.2 A U U.heap)
/-- what the tables themselves are, by program -/
def mm_dat : Prop :=
  (∀ (ci : Nat) (C : String) (T : u_T) (N : Nat), md_cl[ci]? = some (C, T, N) → (∀ w ∈ u_ws C T N, w ∈ md_Tg) ∧ (∃ ty0 : Nat → FieldType, (∀ k, k < N → parseFieldDescriptor (T k).2.2.1 = some (ty0 k)) ∧ ∀ k, k < N → defaultValue (ty0 k) = vp_V (md_df ci) k) ∧
    (∀ a, a < N → ∀ b, b < N → a ≠ b → (T a).2.1 ≠ (T b).2.1) ∧ (∀ v ∈ md_df ci, mm_isx v = true ∧ v.isRef = false)) ∧
  md_ty 0 = .int ∧ md_ty 1 = .long ∧ md_ty 2 = .byte ∧ md_ty 3 = .boolean ∧
  (∀ t, 4 ≤ t → ∃ E, md_ty t = .object E ∧ (md_ac t < 1000 → ∃ r, md_cl[md_ac t]? = some r ∧ r.1 = E) ∧ (1000 ≤ md_ac t → md_xcn (md_ac t - 1000) = E)) ∧
  (∀ w ∈ md_gw, w.onTables = true ∧ w.keepsFace = true) ∧
  (∀ w ∈ md_Tg, goodWord w = true) ∧
  (∀ (ci : Nat) (q : vw_C), md_cl[ci]? = some q → ci < 1000)
theorem mm_X.same {xl : Nat → Nat} {A : Nat → Prop} {sc : Nat × (Nat → Int32)} (K : mm_dat) {u U : State} (hv : U.vm = u.vm) (hh : U.heap = u.heap) (h : mm_X xl A sc u) : mm_X xl A sc U := by
  obtain ⟨h1, h2, h3, h4, h5, h6, h7, h8, h9, h10, h11, h12, h13⟩ := h
  have al : u.vm.Alike U.vm := by rw [hv]; exact Vm.Alike.refl _
  obtain ⟨-, -, -, -, -, -, hg, -⟩ := K
  refine ⟨fun i hi => ⟨?_, (h1 i hi).2⟩, fun i n hi => ?_, fun i k v hi => ⟨?_, (h3 i k v hi).2⟩, fun i t n f hi => ⟨?_, (h4 i t n f hi).2⟩, fun q hq => (h5 q hq).same hv, fun w hw => (h6 w hw).same (hg w hw).1 hv.symm, fun q hq => (h7 q hq).same rfl hv.symm, fun C hC => (h8 C hC).moved al, fun q hq => (h9 q hq).moved al, ?_, ?_, h12, fun q hq => ?_⟩
  · rw [hh]; exact (h1 i hi).1.moved al
  · rw [hh]; exact (h2 i n hi).moved al
  · rw [hh]; exact (h3 i k v hi).1.moved al
  · rw [hh]; exact (h4 i t n f hi).1.moved al
  · rw [hh]; exact h10.moved al
  · rw [hh]; exact h11.moved al
  · rw [hh]; exact (h13 q hq).moved al
/-- at a callee's start -/
theorem mm_X.call {xl : Nat → Nat} {A A1 : Nat → Prop} {sc : Nat × (Nat → Int32)} (K : mm_dat) {s U : State} {H : Heap} {locs : List Loc} (hS : va_S A s.heap H locs) (hH : U.heap = H) (hW : s.WarmedH U.vm) (hA : ∀ q, A1 q → A q) (h : mm_X xl A sc s) : mm_X xl A1 sc U := by
  obtain ⟨h1, h2, h3, h4, h5, h6, h7, h8, h9, h10, h11, h12, h13⟩ := h
  have al : s.vm.Alike U.vm := hW.alike
  have hq := hS.2.1
  obtain ⟨-, -, -, -, -, -, hg, -⟩ := K
  subst hH
  refine ⟨fun i hi => ⟨?_, (h1 i hi).2⟩, fun i n hi => ?_, fun i k v hi => ⟨?_, (h3 i k v hi).2⟩, fun i t n f hi => ⟨?_, (h4 i t n f hi).2⟩, fun q hq => (h5 q hq).warm hW, fun w hw => ?_, fun q hq => (h7 q hq).warmM hW, fun C hC => (h8 C hC).moved al, fun q hq => (h9 q hq).moved al, ?_, ?_, h12, fun q hq2 => ?_⟩
  · exact (((h1 i hi).1.kept hq).narrow hA).moved al
  · exact (((h2 i n hi).kept hq).narrow hA).moved al
  · exact (((h3 i k v hi).1.kept hq).narrow hA).moved al
  · exact (((h4 i t n f hi).1.kept hq).narrow hA).moved al
  · exact va_tabs (hg w hw).1 (rfl : (s.setVm U.vm).vm = U.vm) (Cond.before_shiftedFace (State.Shifted.of_warmed hW) w (hg w hw).2 (h6 w hw))
  · exact ((h10.kept hq).narrow hA).moved al
  · exact ((h11.kept hq).narrow hA).moved al
  · exact (((h13 q hq2).kept hq).narrow hA).moved al
def mm_ws (j : Nat) : List Jvm.Cond := (if (md_mt j).2.2.2.2 = [] then Jvm.Cond.code (md_mt j).1 (md_mt j).2.1 (md_mt j).2.2.1 (md_mt j).2.2.2.1 else Jvm.Cond.codeWith (md_mt j).1 (md_mt j).2.1 (md_mt j).2.2.1 (md_mt j).2.2.2.1 (md_mt j).2.2.2.2) :: md_Tg
def mm_rm (d mc ms : Nat) : Room := { frames := d + 12, cells := mc, slots := ms, locals := 40 * d + 300 }
/-- a method's standing facts -/
def mm_C (p : Program) (l : Launch) (R : Room) (s : State) (m : MethodId) (args : Array Value) (meth : Method) (c : Code) (xl : Nat → Nat) (A : Nat → Prop) (sc : Nat × (Nat → Int32)) (j d : Nat) : Prop :=
  p.tables.exec = Jvm.exec ∧ c.code = (md_mt j).2.1 ∧ c.maxLocals = (md_mt j).2.2.1 ∧ s.vm.findClass (md_mt j).1.cls = some m.cls ∧ (∀ w ∈ md_Tg, w.before args s = true) ∧ mm_X xl A sc s ∧
  (∀ q, s.heap.size ≤ q → A q) ∧ meth.locks = false ∧ meth.sig.returnType = (md_mt j).2.2.2.1 ∧ meth.name = (md_mt j).1.name ∧ c.exceptionTable.toList = Jvm.tableOf (md_mt j).2.2.2.2 ∧ d + 12 ≤ R.frames ∧ 40 * d + 300 ≤ R.locals ∧ l.stackTraces = false
/-- the machine's frame and heap hold the mini machine's -/
abbrev mm_R (xl : Nat → Nat) (D : va_G) (w0 : va_W) (s : State) (A : Nat → Prop) (nL bT cT : Nat) (F : mm_F) (ws : va_W) (tys : List (ClassId × FieldType)) (H : Heap) (locs : List Loc) (cells slots : Nat) (ls : Array Slot) (st' : List Value) : Prop :=
  mm_l xl ws F.2.2.1 st' ∧ (∃ lv, lv_has ls nL lv ∧ mm_lo xl ws F.2.1 lv) ∧ mm_w xl w0 tys F.2.2.2.1 ws ∧ va_K D md_cl tys s ∧ va_P D md_cl ws H ∧ va_D A ws ∧ va_S A s.heap H locs ∧ cells + F.2.2.2.2.1 = bT ∧ slots + F.2.2.2.2.2 = cT
def mm_G (p : Program) (l : Launch) (e : Env) (R : Room) (s : State) (m : MethodId) (args : Array Value) (below : List Frame) (meth : Method) (c : Code) (xl : Nat → Nat) (D : va_G) (w0 : va_W) (A : Nat → Prop) (j bT cT : Nat) (Q : State → Prop) (F : mm_F) : Prop :=
  ∀ (ws : va_W) (tys : List (ClassId × FieldType)) (H : Heap) (locs : List Loc) (cells slots : Nat) (ls : Array Slot) (st' : List Value), mm_R xl D w0 s A (md_mt j).2.2.1 bT cT F ws tys H locs cells slots ls st' →
    W p l e R s m args below meth c H locs cells slots Q (F0 m F.1 ls st')
/-- the same, with an exception thrown over the frame -/
def mm_Gx (p : Program) (l : Launch) (e : Env) (R : Room) (s : State) (m : MethodId) (args : Array Value) (below : List Frame) (meth : Method) (c : Code) (xl : Nat → Nat) (D : va_G) (w0 : va_W) (A : Nat → Prop) (j bT cT : Nat) (Q : State → Prop) (n : Nat) (F : mm_F) : Prop :=
  ∀ (ws : va_W) (tys : List (ClassId × FieldType)) (H : Heap) (locs : List Loc) (cells slots : Nat) (ls : Array Slot) (st' : List Value) (q : Addr) (ce : Cell), mm_R xl D w0 s A (md_mt j).2.2.1 bT cT F ws tys H locs cells slots ls st' →
    H[q]? = some ce → ce.vm = .none → s.vm.findClass (md_en n) = some ce.cls → vx_W p l e R s m args below meth c H locs cells slots Q (F0 m F.1 ls st') q
def mm_len : Instr → Nat
  | .iload _ | .lload _ | .aload _ | .istore _ | .lstore _ | .astore _ | .bipush _ | .ldc _ | .newarray _ => 2
  | .sipush _ | .ldc_w _ | .ldc2_w _ | .iinc _ _ | .ifCond _ _ | .if_icmp _ _ | .if_acmp _ _ | .goto _ | .getfield _ | .putfield _ | .getstatic _ | .new _ | .anewarray _ | .invokevirtual _ | .invokestatic _ | .invokespecial _ => 3
  | _ => 1
theorem mm_word {args : Array Value} {s : State} {w : Jvm.Cond} (ht : ∀ w ∈ md_Tg, w.before args s = true) (h : w ∈ md_Tg) : w.before args s = true := ht w h
end
section
/-! ===== one instruction: from the mini machine's step to the machine's (laid by wip/mm/gen06.py) ===== -/
section MI
variable {p : Program} {l : Launch} {e : Env} {R : Room} {s : State} {m : MethodId} {args : Array Value} {below : List Frame} {meth : Method} {c : Code} {xl : Nat → Nat} {D : va_G} {w0 : va_W} {A : Nat → Prop} {sc : Nat × (Nat → Int32)} {j d bT cT : Nat} {Q : State → Prop} {nx r1 r2 r3 pc : Nat} {lo : List (Nat × Value)} {st : List Value} {W0 : mm_W} {b0 c0 : Nat} {F' : mm_F}
theorem mi_iconst (C : mm_C p l R s m args meth c xl A sc j d) {n : Int} (hd : decode (md_mt j).2.1 pc = .ok (.iconst n, 1)) (hn : nx = pc + 1)  (h : mm_stepI (md_xa sc) j (.iconst n) nx r1 r2 r3 pc lo st W0 b0 c0 = some (.inl F')) (k : mm_G p l e R s m args below meth c xl D w0 A j bT cT Q F') : mm_G p l e R s m args below meth c xl D w0 A j bT cT Q (pc, lo, st, W0, b0, c0) := by
  subst hn
  simp only [mm_stepI] at h
  cases h
  intro ws tys H locs cells slots ls st' hR
  obtain ⟨hst, ⟨lv, hls, hlo⟩, hR⟩ := hR
  exact lv_iconst C.1 C.2.1 hd rfl (k _ _ _ _ _ _ _ _ ⟨mm_l.cons mm_v.i hst, ⟨lv, hls, hlo⟩, hR⟩)
theorem mi_bipush (C : mm_C p l R s m args meth c xl A sc j d) {n : Int} (hd : decode (md_mt j).2.1 pc = .ok (.bipush n, 2)) (hn : nx = pc + 2)  (h : mm_stepI (md_xa sc) j (.bipush n) nx r1 r2 r3 pc lo st W0 b0 c0 = some (.inl F')) (k : mm_G p l e R s m args below meth c xl D w0 A j bT cT Q F') : mm_G p l e R s m args below meth c xl D w0 A j bT cT Q (pc, lo, st, W0, b0, c0) := by
  subst hn
  simp only [mm_stepI] at h
  cases h
  intro ws tys H locs cells slots ls st' hR
  obtain ⟨hst, ⟨lv, hls, hlo⟩, hR⟩ := hR
  exact lv_bipush C.1 C.2.1 hd rfl (k _ _ _ _ _ _ _ _ ⟨mm_l.cons mm_v.i hst, ⟨lv, hls, hlo⟩, hR⟩)
theorem mi_sipush (C : mm_C p l R s m args meth c xl A sc j d) {n : Int} (hd : decode (md_mt j).2.1 pc = .ok (.sipush n, 3)) (hn : nx = pc + 3)  (h : mm_stepI (md_xa sc) j (.sipush n) nx r1 r2 r3 pc lo st W0 b0 c0 = some (.inl F')) (k : mm_G p l e R s m args below meth c xl D w0 A j bT cT Q F') : mm_G p l e R s m args below meth c xl D w0 A j bT cT Q (pc, lo, st, W0, b0, c0) := by
  subst hn
  simp only [mm_stepI] at h
  cases h
  intro ws tys H locs cells slots ls st' hR
  obtain ⟨hst, ⟨lv, hls, hlo⟩, hR⟩ := hR
  exact lv_sipush C.1 C.2.1 hd rfl (k _ _ _ _ _ _ _ _ ⟨mm_l.cons mm_v.i hst, ⟨lv, hls, hlo⟩, hR⟩)
theorem mi_lconst (C : mm_C p l R s m args meth c xl A sc j d) {n : Fin 2} (hd : decode (md_mt j).2.1 pc = .ok (.lconst n, 1)) (hn : nx = pc + 1)  (h : mm_stepI (md_xa sc) j (.lconst n) nx r1 r2 r3 pc lo st W0 b0 c0 = some (.inl F')) (k : mm_G p l e R s m args below meth c xl D w0 A j bT cT Q F') : mm_G p l e R s m args below meth c xl D w0 A j bT cT Q (pc, lo, st, W0, b0, c0) := by
  subst hn
  simp only [mm_stepI] at h
  cases h
  intro ws tys H locs cells slots ls st' hR
  obtain ⟨hst, ⟨lv, hls, hlo⟩, hR⟩ := hR
  exact lv_lconst C.1 C.2.1 hd rfl (k _ _ _ _ _ _ _ _ ⟨mm_l.cons mm_v.j hst, ⟨lv, hls, hlo⟩, hR⟩)
theorem mi_aconst_null (C : mm_C p l R s m args meth c xl A sc j d)  (hd : decode (md_mt j).2.1 pc = .ok (.aconst_null, 1)) (hn : nx = pc + 1)  (h : mm_stepI (md_xa sc) j (.aconst_null) nx r1 r2 r3 pc lo st W0 b0 c0 = some (.inl F')) (k : mm_G p l e R s m args below meth c xl D w0 A j bT cT Q F') : mm_G p l e R s m args below meth c xl D w0 A j bT cT Q (pc, lo, st, W0, b0, c0) := by
  subst hn
  simp only [mm_stepI] at h
  cases h
  intro ws tys H locs cells slots ls st' hR
  obtain ⟨hst, ⟨lv, hls, hlo⟩, hR⟩ := hR
  exact lv_null C.1 C.2.1 hd (k _ _ _ _ _ _ _ _ ⟨mm_l.cons mm_v.n hst, ⟨lv, hls, hlo⟩, hR⟩)
theorem mi_iload (C : mm_C p l R s m args meth c xl A sc j d) {i : Nat} (hd : decode (md_mt j).2.1 pc = .ok (.iload i, 2)) (hn : nx = pc + 2)  (h : mm_stepI (md_xa sc) j (.iload i) nx r1 r2 r3 pc lo st W0 b0 c0 = some (.inl F')) (k : mm_G p l e R s m args below meth c xl D w0 A j bT cT Q F') : mm_G p l e R s m args below meth c xl D w0 A j bT cT Q (pc, lo, st, W0, b0, c0) := by
  subst hn
  simp only [mm_stepI] at h
  split at h
  · rename_i x hg
    cases h
    intro ws tys H locs cells slots ls st' hR
    obtain ⟨hst, ⟨lv, hls, hlo⟩, hR⟩ := hR
    obtain ⟨v', hm, hv⟩ := hlo.get hg
    cases mm_v.ri hv
    exact lv_iload C.1 C.2.1 hd (mm_lvat hls hm) (k _ _ _ _ _ _ _ _ ⟨mm_l.cons mm_v.i hst, ⟨lv, hls, hlo⟩, hR⟩)
  · cases h
theorem mi_iload_n (C : mm_C p l R s m args meth c xl A sc j d) {i : Fin 4} (hd : decode (md_mt j).2.1 pc = .ok (.iload_n i, 1)) (hn : nx = pc + 1)  (h : mm_stepI (md_xa sc) j (.iload_n i) nx r1 r2 r3 pc lo st W0 b0 c0 = some (.inl F')) (k : mm_G p l e R s m args below meth c xl D w0 A j bT cT Q F') : mm_G p l e R s m args below meth c xl D w0 A j bT cT Q (pc, lo, st, W0, b0, c0) := by
  subst hn
  simp only [mm_stepI] at h
  split at h
  · rename_i x hg
    cases h
    intro ws tys H locs cells slots ls st' hR
    obtain ⟨hst, ⟨lv, hls, hlo⟩, hR⟩ := hR
    obtain ⟨v', hm, hv⟩ := hlo.get hg
    cases mm_v.ri hv
    exact lv_iload_n C.1 C.2.1 hd rfl (mm_lvat hls hm) (k _ _ _ _ _ _ _ _ ⟨mm_l.cons mm_v.i hst, ⟨lv, hls, hlo⟩, hR⟩)
  · cases h
theorem mi_lload (C : mm_C p l R s m args meth c xl A sc j d) {i : Nat} (hd : decode (md_mt j).2.1 pc = .ok (.lload i, 2)) (hn : nx = pc + 2)  (h : mm_stepI (md_xa sc) j (.lload i) nx r1 r2 r3 pc lo st W0 b0 c0 = some (.inl F')) (k : mm_G p l e R s m args below meth c xl D w0 A j bT cT Q F') : mm_G p l e R s m args below meth c xl D w0 A j bT cT Q (pc, lo, st, W0, b0, c0) := by
  subst hn
  simp only [mm_stepI] at h
  split at h
  · rename_i x hg
    cases h
    intro ws tys H locs cells slots ls st' hR
    obtain ⟨hst, ⟨lv, hls, hlo⟩, hR⟩ := hR
    obtain ⟨v', hm, hv⟩ := hlo.get hg
    cases mm_v.rj hv
    exact lv_lload C.1 C.2.1 hd (mm_lvat hls hm) (k _ _ _ _ _ _ _ _ ⟨mm_l.cons mm_v.j hst, ⟨lv, hls, hlo⟩, hR⟩)
  · cases h
theorem mi_lload_n (C : mm_C p l R s m args meth c xl A sc j d) {i : Fin 4} (hd : decode (md_mt j).2.1 pc = .ok (.lload_n i, 1)) (hn : nx = pc + 1)  (h : mm_stepI (md_xa sc) j (.lload_n i) nx r1 r2 r3 pc lo st W0 b0 c0 = some (.inl F')) (k : mm_G p l e R s m args below meth c xl D w0 A j bT cT Q F') : mm_G p l e R s m args below meth c xl D w0 A j bT cT Q (pc, lo, st, W0, b0, c0) := by
  subst hn
  simp only [mm_stepI] at h
  split at h
  · rename_i x hg
    cases h
    intro ws tys H locs cells slots ls st' hR
    obtain ⟨hst, ⟨lv, hls, hlo⟩, hR⟩ := hR
    obtain ⟨v', hm, hv⟩ := hlo.get hg
    cases mm_v.rj hv
    exact lv_lload_n C.1 C.2.1 hd rfl (mm_lvat hls hm) (k _ _ _ _ _ _ _ _ ⟨mm_l.cons mm_v.j hst, ⟨lv, hls, hlo⟩, hR⟩)
  · cases h
theorem mi_aload (C : mm_C p l R s m args meth c xl A sc j d) {i : Nat} (hd : decode (md_mt j).2.1 pc = .ok (.aload i, 2)) (hn : nx = pc + 2)  (h : mm_stepI (md_xa sc) j (.aload i) nx r1 r2 r3 pc lo st W0 b0 c0 = some (.inl F')) (k : mm_G p l e R s m args below meth c xl D w0 A j bT cT Q F') : mm_G p l e R s m args below meth c xl D w0 A j bT cT Q (pc, lo, st, W0, b0, c0) := by
  subst hn
  simp only [mm_stepI] at h
  split at h
  · rename_i x hg
    cases h
    intro ws tys H locs cells slots ls st' hR
    obtain ⟨hst, ⟨lv, hls, hlo⟩, hR⟩ := hR
    obtain ⟨v', hm, hv⟩ := hlo.get hg
    obtain ⟨a, ha, rfl⟩ := mm_v.rr hv
    exact lv_aload C.1 C.2.1 hd (mm_lvat hls hm) (k _ _ _ _ _ _ _ _ ⟨mm_l.cons hv hst, ⟨lv, hls, hlo⟩, hR⟩)
  · cases h
theorem mi_aload_n (C : mm_C p l R s m args meth c xl A sc j d) {i : Fin 4} (hd : decode (md_mt j).2.1 pc = .ok (.aload_n i, 1)) (hn : nx = pc + 1)  (h : mm_stepI (md_xa sc) j (.aload_n i) nx r1 r2 r3 pc lo st W0 b0 c0 = some (.inl F')) (k : mm_G p l e R s m args below meth c xl D w0 A j bT cT Q F') : mm_G p l e R s m args below meth c xl D w0 A j bT cT Q (pc, lo, st, W0, b0, c0) := by
  subst hn
  simp only [mm_stepI] at h
  split at h
  · rename_i x hg
    cases h
    intro ws tys H locs cells slots ls st' hR
    obtain ⟨hst, ⟨lv, hls, hlo⟩, hR⟩ := hR
    obtain ⟨v', hm, hv⟩ := hlo.get hg
    obtain ⟨a, ha, rfl⟩ := mm_v.rr hv
    exact lv_aload_n C.1 C.2.1 hd rfl (mm_lvat hls hm) (k _ _ _ _ _ _ _ _ ⟨mm_l.cons hv hst, ⟨lv, hls, hlo⟩, hR⟩)
  · cases h
theorem mi_istore (C : mm_C p l R s m args meth c xl A sc j d) {i : Nat} (hd : decode (md_mt j).2.1 pc = .ok (.istore i, 2)) (hn : nx = pc + 2) (hi : i < (md_mt j).2.2.1) (h : mm_stepI (md_xa sc) j (.istore i) nx r1 r2 r3 pc lo st W0 b0 c0 = some (.inl F')) (k : mm_G p l e R s m args below meth c xl D w0 A j bT cT Q F') : mm_G p l e R s m args below meth c xl D w0 A j bT cT Q (pc, lo, st, W0, b0, c0) := by
  subst hn
  simp only [mm_stepI] at h
  split at h
  · cases h
    intro ws tys H locs cells slots ls st' hR
    obtain ⟨hst, ⟨lv, hls, hlo⟩, hR⟩ := hR
    have hst0 := mm_l.un hst
    clear hst
    obtain ⟨v', l2, rfl, hv, hst⟩ := hst0
    cases mm_v.ri hv
    exact lv_istore C.1 C.2.1 hd hls hi rfl (fun ls2 hl2 => k _ _ _ _ _ _ _ _ ⟨hst, ⟨_, hl2, hlo.sto _ mm_v.i⟩, hR⟩)
  · cases h
theorem mi_istore_n (C : mm_C p l R s m args meth c xl A sc j d) {i : Fin 4} (hd : decode (md_mt j).2.1 pc = .ok (.istore_n i, 1)) (hn : nx = pc + 1) (hi : (i : Nat) < (md_mt j).2.2.1) (h : mm_stepI (md_xa sc) j (.istore_n i) nx r1 r2 r3 pc lo st W0 b0 c0 = some (.inl F')) (k : mm_G p l e R s m args below meth c xl D w0 A j bT cT Q F') : mm_G p l e R s m args below meth c xl D w0 A j bT cT Q (pc, lo, st, W0, b0, c0) := by
  subst hn
  simp only [mm_stepI] at h
  split at h
  · cases h
    intro ws tys H locs cells slots ls st' hR
    obtain ⟨hst, ⟨lv, hls, hlo⟩, hR⟩ := hR
    have hst0 := mm_l.un hst
    clear hst
    obtain ⟨v', l2, rfl, hv, hst⟩ := hst0
    cases mm_v.ri hv
    exact lv_istore_n C.1 C.2.1 hd rfl hls hi rfl (fun ls2 hl2 => k _ _ _ _ _ _ _ _ ⟨hst, ⟨_, hl2, hlo.sto _ mm_v.i⟩, hR⟩)
  · cases h
theorem mi_lstore (C : mm_C p l R s m args meth c xl A sc j d) {i : Nat} (hd : decode (md_mt j).2.1 pc = .ok (.lstore i, 2)) (hn : nx = pc + 2) (hi : i + 1 < (md_mt j).2.2.1) (h : mm_stepI (md_xa sc) j (.lstore i) nx r1 r2 r3 pc lo st W0 b0 c0 = some (.inl F')) (k : mm_G p l e R s m args below meth c xl D w0 A j bT cT Q F') : mm_G p l e R s m args below meth c xl D w0 A j bT cT Q (pc, lo, st, W0, b0, c0) := by
  subst hn
  simp only [mm_stepI] at h
  split at h
  · cases h
    intro ws tys H locs cells slots ls st' hR
    obtain ⟨hst, ⟨lv, hls, hlo⟩, hR⟩ := hR
    have hst0 := mm_l.un hst
    clear hst
    obtain ⟨v', l2, rfl, hv, hst⟩ := hst0
    cases mm_v.rj hv
    exact lv_lstore C.1 C.2.1 hd hls hi rfl (fun ls2 hl2 => k _ _ _ _ _ _ _ _ ⟨hst, ⟨_, hl2, hlo.stl _ mm_v.j⟩, hR⟩)
  · cases h
theorem mi_lstore_n (C : mm_C p l R s m args meth c xl A sc j d) {i : Fin 4} (hd : decode (md_mt j).2.1 pc = .ok (.lstore_n i, 1)) (hn : nx = pc + 1) (hi : (i : Nat) + 1 < (md_mt j).2.2.1) (h : mm_stepI (md_xa sc) j (.lstore_n i) nx r1 r2 r3 pc lo st W0 b0 c0 = some (.inl F')) (k : mm_G p l e R s m args below meth c xl D w0 A j bT cT Q F') : mm_G p l e R s m args below meth c xl D w0 A j bT cT Q (pc, lo, st, W0, b0, c0) := by
  subst hn
  simp only [mm_stepI] at h
  split at h
  · cases h
    intro ws tys H locs cells slots ls st' hR
    obtain ⟨hst, ⟨lv, hls, hlo⟩, hR⟩ := hR
    have hst0 := mm_l.un hst
    clear hst
    obtain ⟨v', l2, rfl, hv, hst⟩ := hst0
    cases mm_v.rj hv
    exact lv_lstore_n C.1 C.2.1 hd rfl hls hi rfl (fun ls2 hl2 => k _ _ _ _ _ _ _ _ ⟨hst, ⟨_, hl2, hlo.stl _ mm_v.j⟩, hR⟩)
  · cases h
theorem mi_astore (C : mm_C p l R s m args meth c xl A sc j d) {i : Nat} (hd : decode (md_mt j).2.1 pc = .ok (.astore i, 2)) (hn : nx = pc + 2) (hi : i < (md_mt j).2.2.1) (h : mm_stepI (md_xa sc) j (.astore i) nx r1 r2 r3 pc lo st W0 b0 c0 = some (.inl F')) (k : mm_G p l e R s m args below meth c xl D w0 A j bT cT Q F') : mm_G p l e R s m args below meth c xl D w0 A j bT cT Q (pc, lo, st, W0, b0, c0) := by
  subst hn
  simp only [mm_stepI] at h
  split at h
  · cases h
    intro ws tys H locs cells slots ls st' hR
    obtain ⟨hst, ⟨lv, hls, hlo⟩, hR⟩ := hR
    have hst0 := mm_l.un hst
    clear hst
    obtain ⟨v', l2, rfl, hv, hst⟩ := hst0
    obtain ⟨a, ha, rfl⟩ := mm_v.rr hv
    exact lv_astore C.1 C.2.1 hd hls hi rfl (fun ls2 hl2 => k _ _ _ _ _ _ _ _ ⟨hst, ⟨_, hl2, hlo.sto _ hv⟩, hR⟩)
  · cases h
    intro ws tys H locs cells slots ls st' hR
    obtain ⟨hst, ⟨lv, hls, hlo⟩, hR⟩ := hR
    have hst0 := mm_l.un hst
    clear hst
    obtain ⟨v', l2, rfl, hv, hst⟩ := hst0
    rcases mm_v.rt hv with rfl | ⟨a, rfl⟩
    · exact lv_astoreN C.1 C.2.1 hd hls hi rfl (fun ls2 hl2 => k _ _ _ _ _ _ _ _ ⟨hst, ⟨_, hl2, hlo.sto _ hv⟩, hR⟩)
    · exact lv_astore C.1 C.2.1 hd hls hi rfl (fun ls2 hl2 => k _ _ _ _ _ _ _ _ ⟨hst, ⟨_, hl2, hlo.sto _ hv⟩, hR⟩)
  · cases h
theorem mi_astore_n (C : mm_C p l R s m args meth c xl A sc j d) {i : Fin 4} (hd : decode (md_mt j).2.1 pc = .ok (.astore_n i, 1)) (hn : nx = pc + 1) (hi : (i : Nat) < (md_mt j).2.2.1) (h : mm_stepI (md_xa sc) j (.astore_n i) nx r1 r2 r3 pc lo st W0 b0 c0 = some (.inl F')) (k : mm_G p l e R s m args below meth c xl D w0 A j bT cT Q F') : mm_G p l e R s m args below meth c xl D w0 A j bT cT Q (pc, lo, st, W0, b0, c0) := by
  subst hn
  simp only [mm_stepI] at h
  split at h
  · cases h
    intro ws tys H locs cells slots ls st' hR
    obtain ⟨hst, ⟨lv, hls, hlo⟩, hR⟩ := hR
    have hst0 := mm_l.un hst
    clear hst
    obtain ⟨v', l2, rfl, hv, hst⟩ := hst0
    obtain ⟨a, ha, rfl⟩ := mm_v.rr hv
    exact lv_astore_n C.1 C.2.1 hd rfl hls hi rfl (fun ls2 hl2 => k _ _ _ _ _ _ _ _ ⟨hst, ⟨_, hl2, hlo.sto _ hv⟩, hR⟩)
  · cases h
    intro ws tys H locs cells slots ls st' hR
    obtain ⟨hst, ⟨lv, hls, hlo⟩, hR⟩ := hR
    have hst0 := mm_l.un hst
    clear hst
    obtain ⟨v', l2, rfl, hv, hst⟩ := hst0
    rcases mm_v.rt hv with rfl | ⟨a, rfl⟩
    · exact lv_astore_nN C.1 C.2.1 hd rfl hls hi rfl (fun ls2 hl2 => k _ _ _ _ _ _ _ _ ⟨hst, ⟨_, hl2, hlo.sto _ hv⟩, hR⟩)
    · exact lv_astore_n C.1 C.2.1 hd rfl hls hi rfl (fun ls2 hl2 => k _ _ _ _ _ _ _ _ ⟨hst, ⟨_, hl2, hlo.sto _ hv⟩, hR⟩)
  · cases h
theorem mi_iinc (C : mm_C p l R s m args meth c xl A sc j d) {i : Nat} {n : Int} (hd : decode (md_mt j).2.1 pc = .ok (.iinc i n, 3)) (hn : nx = pc + 3) (hi : i < (md_mt j).2.2.1) (h : mm_stepI (md_xa sc) j (.iinc i n) nx r1 r2 r3 pc lo st W0 b0 c0 = some (.inl F')) (k : mm_G p l e R s m args below meth c xl D w0 A j bT cT Q F') : mm_G p l e R s m args below meth c xl D w0 A j bT cT Q (pc, lo, st, W0, b0, c0) := by
  subst hn
  simp only [mm_stepI] at h
  split at h
  · rename_i x hg
    cases h
    intro ws tys H locs cells slots ls st' hR
    obtain ⟨hst, ⟨lv, hls, hlo⟩, hR⟩ := hR
    obtain ⟨v', hm, hv⟩ := hlo.get hg
    cases mm_v.ri hv
    obtain ⟨q, hq⟩ := List.getElem?_of_mem hm
    exact lv_iinc C.1 C.2.1 hd hls hq rfl hi rfl (fun ls2 hl2 => k _ _ _ _ _ _ _ _ ⟨hst, ⟨_, hl2, hlo.sto _ mm_v.i⟩, hR⟩)
  · cases h
theorem mi_dup (C : mm_C p l R s m args meth c xl A sc j d)  (hd : decode (md_mt j).2.1 pc = .ok (.dup, 1)) (hn : nx = pc + 1)  (h : mm_stepI (md_xa sc) j (.dup) nx r1 r2 r3 pc lo st W0 b0 c0 = some (.inl F')) (k : mm_G p l e R s m args below meth c xl D w0 A j bT cT Q F') : mm_G p l e R s m args below meth c xl D w0 A j bT cT Q (pc, lo, st, W0, b0, c0) := by
  subst hn
  simp only [mm_stepI] at h
  split at h
  · split at h
    · rename_i hc
      cases h
      intro ws tys H locs cells slots ls st' hR
      obtain ⟨hst, ⟨lv, hls, hlo⟩, hR⟩ := hR
      have hst0 := mm_l.un hst
      clear hst
      obtain ⟨v', l2, rfl, hv, hst⟩ := hst0
      exact lv_dup C.1 C.2.1 hd (hv.cat.trans hc) (k _ _ _ _ _ _ _ _ ⟨mm_l.cons hv (mm_l.cons hv hst), ⟨lv, hls, hlo⟩, hR⟩)
    · cases h
  · cases h
theorem mi_pop (C : mm_C p l R s m args meth c xl A sc j d)  (hd : decode (md_mt j).2.1 pc = .ok (.pop, 1)) (hn : nx = pc + 1)  (h : mm_stepI (md_xa sc) j (.pop) nx r1 r2 r3 pc lo st W0 b0 c0 = some (.inl F')) (k : mm_G p l e R s m args below meth c xl D w0 A j bT cT Q F') : mm_G p l e R s m args below meth c xl D w0 A j bT cT Q (pc, lo, st, W0, b0, c0) := by
  subst hn
  simp only [mm_stepI] at h
  split at h
  · split at h
    · rename_i hc
      cases h
      intro ws tys H locs cells slots ls st' hR
      obtain ⟨hst, ⟨lv, hls, hlo⟩, hR⟩ := hR
      have hst0 := mm_l.un hst
      clear hst
      obtain ⟨v', l2, rfl, hv, hst⟩ := hst0
      exact lv_pop C.1 C.2.1 hd (hv.cat.trans hc) (k _ _ _ _ _ _ _ _ ⟨hst, ⟨lv, hls, hlo⟩, hR⟩)
    · cases h
  · cases h
theorem mi_dup2 (C : mm_C p l R s m args meth c xl A sc j d)  (hd : decode (md_mt j).2.1 pc = .ok (.dup2, 1)) (hn : nx = pc + 1)  (h : mm_stepI (md_xa sc) j (.dup2) nx r1 r2 r3 pc lo st W0 b0 c0 = some (.inl F')) (k : mm_G p l e R s m args below meth c xl D w0 A j bT cT Q F') : mm_G p l e R s m args below meth c xl D w0 A j bT cT Q (pc, lo, st, W0, b0, c0) := by
  subst hn
  simp only [mm_stepI] at h
  split at h
  · split at h
    · rename_i hc
      cases h
      intro ws tys H locs cells slots ls st' hR
      obtain ⟨hst, ⟨lv, hls, hlo⟩, hR⟩ := hR
      have hst0 := mm_l.un hst
      clear hst
      obtain ⟨v', l2, rfl, hv, hst⟩ := hst0
      have hst0 := mm_l.un hst
      clear hst
      obtain ⟨w', l3, rfl, hw, hst⟩ := hst0
      exact lv_dup2_11 C.1 C.2.1 hd (hv.cat.trans hc.1) (hw.cat.trans hc.2) (k _ _ _ _ _ _ _ _ ⟨mm_l.cons hv (mm_l.cons hw (mm_l.cons hv (mm_l.cons hw hst))), ⟨lv, hls, hlo⟩, hR⟩)
    · cases h
  · cases h
theorem mi_iadd (C : mm_C p l R s m args meth c xl A sc j d)  (hd : decode (md_mt j).2.1 pc = .ok (.iadd, 1)) (hn : nx = pc + 1)  (h : mm_stepI (md_xa sc) j (.iadd) nx r1 r2 r3 pc lo st W0 b0 c0 = some (.inl F')) (k : mm_G p l e R s m args below meth c xl D w0 A j bT cT Q F') : mm_G p l e R s m args below meth c xl D w0 A j bT cT Q (pc, lo, st, W0, b0, c0) := by
  subst hn
  simp only [mm_stepI] at h
  split at h
  · cases h
    intro ws tys H locs cells slots ls st' hR
    obtain ⟨hst, ⟨lv, hls, hlo⟩, hR⟩ := hR
    have hst0 := mm_l.un hst
    clear hst
    obtain ⟨_, _, rfl, hv, hst⟩ := hst0
    cases mm_v.ri hv
    have hst0 := mm_l.un hst
    clear hst
    obtain ⟨_, _, rfl, hv, hst⟩ := hst0
    cases mm_v.ri hv
    exact lv_iadd C.1 C.2.1 hd (k _ _ _ _ _ _ _ _ ⟨mm_l.cons mm_v.i hst, ⟨lv, hls, hlo⟩, hR⟩)
  · cases h
theorem mi_isub (C : mm_C p l R s m args meth c xl A sc j d)  (hd : decode (md_mt j).2.1 pc = .ok (.isub, 1)) (hn : nx = pc + 1)  (h : mm_stepI (md_xa sc) j (.isub) nx r1 r2 r3 pc lo st W0 b0 c0 = some (.inl F')) (k : mm_G p l e R s m args below meth c xl D w0 A j bT cT Q F') : mm_G p l e R s m args below meth c xl D w0 A j bT cT Q (pc, lo, st, W0, b0, c0) := by
  subst hn
  simp only [mm_stepI] at h
  split at h
  · cases h
    intro ws tys H locs cells slots ls st' hR
    obtain ⟨hst, ⟨lv, hls, hlo⟩, hR⟩ := hR
    have hst0 := mm_l.un hst
    clear hst
    obtain ⟨_, _, rfl, hv, hst⟩ := hst0
    cases mm_v.ri hv
    have hst0 := mm_l.un hst
    clear hst
    obtain ⟨_, _, rfl, hv, hst⟩ := hst0
    cases mm_v.ri hv
    exact lv_isub C.1 C.2.1 hd (k _ _ _ _ _ _ _ _ ⟨mm_l.cons mm_v.i hst, ⟨lv, hls, hlo⟩, hR⟩)
  · cases h
theorem mi_imul (C : mm_C p l R s m args meth c xl A sc j d)  (hd : decode (md_mt j).2.1 pc = .ok (.imul, 1)) (hn : nx = pc + 1)  (h : mm_stepI (md_xa sc) j (.imul) nx r1 r2 r3 pc lo st W0 b0 c0 = some (.inl F')) (k : mm_G p l e R s m args below meth c xl D w0 A j bT cT Q F') : mm_G p l e R s m args below meth c xl D w0 A j bT cT Q (pc, lo, st, W0, b0, c0) := by
  subst hn
  simp only [mm_stepI] at h
  split at h
  · cases h
    intro ws tys H locs cells slots ls st' hR
    obtain ⟨hst, ⟨lv, hls, hlo⟩, hR⟩ := hR
    have hst0 := mm_l.un hst
    clear hst
    obtain ⟨_, _, rfl, hv, hst⟩ := hst0
    cases mm_v.ri hv
    have hst0 := mm_l.un hst
    clear hst
    obtain ⟨_, _, rfl, hv, hst⟩ := hst0
    cases mm_v.ri hv
    exact lv_imul C.1 C.2.1 hd (k _ _ _ _ _ _ _ _ ⟨mm_l.cons mm_v.i hst, ⟨lv, hls, hlo⟩, hR⟩)
  · cases h
theorem mi_iand (C : mm_C p l R s m args meth c xl A sc j d)  (hd : decode (md_mt j).2.1 pc = .ok (.iand, 1)) (hn : nx = pc + 1)  (h : mm_stepI (md_xa sc) j (.iand) nx r1 r2 r3 pc lo st W0 b0 c0 = some (.inl F')) (k : mm_G p l e R s m args below meth c xl D w0 A j bT cT Q F') : mm_G p l e R s m args below meth c xl D w0 A j bT cT Q (pc, lo, st, W0, b0, c0) := by
  subst hn
  simp only [mm_stepI] at h
  split at h
  · cases h
    intro ws tys H locs cells slots ls st' hR
    obtain ⟨hst, ⟨lv, hls, hlo⟩, hR⟩ := hR
    have hst0 := mm_l.un hst
    clear hst
    obtain ⟨_, _, rfl, hv, hst⟩ := hst0
    cases mm_v.ri hv
    have hst0 := mm_l.un hst
    clear hst
    obtain ⟨_, _, rfl, hv, hst⟩ := hst0
    cases mm_v.ri hv
    exact lv_iand C.1 C.2.1 hd (k _ _ _ _ _ _ _ _ ⟨mm_l.cons mm_v.i hst, ⟨lv, hls, hlo⟩, hR⟩)
  · cases h
theorem mi_ior (C : mm_C p l R s m args meth c xl A sc j d)  (hd : decode (md_mt j).2.1 pc = .ok (.ior, 1)) (hn : nx = pc + 1)  (h : mm_stepI (md_xa sc) j (.ior) nx r1 r2 r3 pc lo st W0 b0 c0 = some (.inl F')) (k : mm_G p l e R s m args below meth c xl D w0 A j bT cT Q F') : mm_G p l e R s m args below meth c xl D w0 A j bT cT Q (pc, lo, st, W0, b0, c0) := by
  subst hn
  simp only [mm_stepI] at h
  split at h
  · cases h
    intro ws tys H locs cells slots ls st' hR
    obtain ⟨hst, ⟨lv, hls, hlo⟩, hR⟩ := hR
    have hst0 := mm_l.un hst
    clear hst
    obtain ⟨_, _, rfl, hv, hst⟩ := hst0
    cases mm_v.ri hv
    have hst0 := mm_l.un hst
    clear hst
    obtain ⟨_, _, rfl, hv, hst⟩ := hst0
    cases mm_v.ri hv
    exact lv_ior C.1 C.2.1 hd (k _ _ _ _ _ _ _ _ ⟨mm_l.cons mm_v.i hst, ⟨lv, hls, hlo⟩, hR⟩)
  · cases h
theorem mi_ixor (C : mm_C p l R s m args meth c xl A sc j d)  (hd : decode (md_mt j).2.1 pc = .ok (.ixor, 1)) (hn : nx = pc + 1)  (h : mm_stepI (md_xa sc) j (.ixor) nx r1 r2 r3 pc lo st W0 b0 c0 = some (.inl F')) (k : mm_G p l e R s m args below meth c xl D w0 A j bT cT Q F') : mm_G p l e R s m args below meth c xl D w0 A j bT cT Q (pc, lo, st, W0, b0, c0) := by
  subst hn
  simp only [mm_stepI] at h
  split at h
  · cases h
    intro ws tys H locs cells slots ls st' hR
    obtain ⟨hst, ⟨lv, hls, hlo⟩, hR⟩ := hR
    have hst0 := mm_l.un hst
    clear hst
    obtain ⟨_, _, rfl, hv, hst⟩ := hst0
    cases mm_v.ri hv
    have hst0 := mm_l.un hst
    clear hst
    obtain ⟨_, _, rfl, hv, hst⟩ := hst0
    cases mm_v.ri hv
    exact lv_ixor C.1 C.2.1 hd (k _ _ _ _ _ _ _ _ ⟨mm_l.cons mm_v.i hst, ⟨lv, hls, hlo⟩, hR⟩)
  · cases h
theorem mi_ineg (C : mm_C p l R s m args meth c xl A sc j d)  (hd : decode (md_mt j).2.1 pc = .ok (.ineg, 1)) (hn : nx = pc + 1)  (h : mm_stepI (md_xa sc) j (.ineg) nx r1 r2 r3 pc lo st W0 b0 c0 = some (.inl F')) (k : mm_G p l e R s m args below meth c xl D w0 A j bT cT Q F') : mm_G p l e R s m args below meth c xl D w0 A j bT cT Q (pc, lo, st, W0, b0, c0) := by
  subst hn
  simp only [mm_stepI] at h
  split at h
  · cases h
    intro ws tys H locs cells slots ls st' hR
    obtain ⟨hst, ⟨lv, hls, hlo⟩, hR⟩ := hR
    have hst0 := mm_l.un hst
    clear hst
    obtain ⟨_, _, rfl, hv, hst⟩ := hst0
    cases mm_v.ri hv
    exact lv_ineg C.1 C.2.1 hd (k _ _ _ _ _ _ _ _ ⟨mm_l.cons mm_v.i hst, ⟨lv, hls, hlo⟩, hR⟩)
  · cases h
theorem mi_ishl (C : mm_C p l R s m args meth c xl A sc j d)  (hd : decode (md_mt j).2.1 pc = .ok (.ishl, 1)) (hn : nx = pc + 1)  (h : mm_stepI (md_xa sc) j (.ishl) nx r1 r2 r3 pc lo st W0 b0 c0 = some (.inl F')) (k : mm_G p l e R s m args below meth c xl D w0 A j bT cT Q F') : mm_G p l e R s m args below meth c xl D w0 A j bT cT Q (pc, lo, st, W0, b0, c0) := by
  subst hn
  simp only [mm_stepI] at h
  split at h
  · cases h
    intro ws tys H locs cells slots ls st' hR
    obtain ⟨hst, ⟨lv, hls, hlo⟩, hR⟩ := hR
    have hst0 := mm_l.un hst
    clear hst
    obtain ⟨_, _, rfl, hv, hst⟩ := hst0
    cases mm_v.ri hv
    have hst0 := mm_l.un hst
    clear hst
    obtain ⟨_, _, rfl, hv, hst⟩ := hst0
    cases mm_v.ri hv
    exact lv_ishl C.1 C.2.1 hd (k _ _ _ _ _ _ _ _ ⟨mm_l.cons mm_v.i hst, ⟨lv, hls, hlo⟩, hR⟩)
  · cases h
theorem mi_ishr (C : mm_C p l R s m args meth c xl A sc j d)  (hd : decode (md_mt j).2.1 pc = .ok (.ishr, 1)) (hn : nx = pc + 1)  (h : mm_stepI (md_xa sc) j (.ishr) nx r1 r2 r3 pc lo st W0 b0 c0 = some (.inl F')) (k : mm_G p l e R s m args below meth c xl D w0 A j bT cT Q F') : mm_G p l e R s m args below meth c xl D w0 A j bT cT Q (pc, lo, st, W0, b0, c0) := by
  subst hn
  simp only [mm_stepI] at h
  split at h
  · cases h
    intro ws tys H locs cells slots ls st' hR
    obtain ⟨hst, ⟨lv, hls, hlo⟩, hR⟩ := hR
    have hst0 := mm_l.un hst
    clear hst
    obtain ⟨_, _, rfl, hv, hst⟩ := hst0
    cases mm_v.ri hv
    have hst0 := mm_l.un hst
    clear hst
    obtain ⟨_, _, rfl, hv, hst⟩ := hst0
    cases mm_v.ri hv
    exact lv_ishr C.1 C.2.1 hd (k _ _ _ _ _ _ _ _ ⟨mm_l.cons mm_v.i hst, ⟨lv, hls, hlo⟩, hR⟩)
  · cases h
theorem mi_iushr (C : mm_C p l R s m args meth c xl A sc j d)  (hd : decode (md_mt j).2.1 pc = .ok (.iushr, 1)) (hn : nx = pc + 1)  (h : mm_stepI (md_xa sc) j (.iushr) nx r1 r2 r3 pc lo st W0 b0 c0 = some (.inl F')) (k : mm_G p l e R s m args below meth c xl D w0 A j bT cT Q F') : mm_G p l e R s m args below meth c xl D w0 A j bT cT Q (pc, lo, st, W0, b0, c0) := by
  subst hn
  simp only [mm_stepI] at h
  split at h
  · cases h
    intro ws tys H locs cells slots ls st' hR
    obtain ⟨hst, ⟨lv, hls, hlo⟩, hR⟩ := hR
    have hst0 := mm_l.un hst
    clear hst
    obtain ⟨_, _, rfl, hv, hst⟩ := hst0
    cases mm_v.ri hv
    have hst0 := mm_l.un hst
    clear hst
    obtain ⟨_, _, rfl, hv, hst⟩ := hst0
    cases mm_v.ri hv
    exact lv_iushr C.1 C.2.1 hd rfl (k _ _ _ _ _ _ _ _ ⟨mm_l.cons mm_v.i hst, ⟨lv, hls, hlo⟩, hR⟩)
  · cases h
theorem mi_land (C : mm_C p l R s m args meth c xl A sc j d)  (hd : decode (md_mt j).2.1 pc = .ok (.land, 1)) (hn : nx = pc + 1)  (h : mm_stepI (md_xa sc) j (.land) nx r1 r2 r3 pc lo st W0 b0 c0 = some (.inl F')) (k : mm_G p l e R s m args below meth c xl D w0 A j bT cT Q F') : mm_G p l e R s m args below meth c xl D w0 A j bT cT Q (pc, lo, st, W0, b0, c0) := by
  subst hn
  simp only [mm_stepI] at h
  split at h
  · cases h
    intro ws tys H locs cells slots ls st' hR
    obtain ⟨hst, ⟨lv, hls, hlo⟩, hR⟩ := hR
    have hst0 := mm_l.un hst
    clear hst
    obtain ⟨_, _, rfl, hv, hst⟩ := hst0
    cases mm_v.rj hv
    have hst0 := mm_l.un hst
    clear hst
    obtain ⟨_, _, rfl, hv, hst⟩ := hst0
    cases mm_v.rj hv
    exact lv_land C.1 C.2.1 hd (k _ _ _ _ _ _ _ _ ⟨mm_l.cons mm_v.j hst, ⟨lv, hls, hlo⟩, hR⟩)
  · cases h
theorem mi_lor (C : mm_C p l R s m args meth c xl A sc j d)  (hd : decode (md_mt j).2.1 pc = .ok (.lor, 1)) (hn : nx = pc + 1)  (h : mm_stepI (md_xa sc) j (.lor) nx r1 r2 r3 pc lo st W0 b0 c0 = some (.inl F')) (k : mm_G p l e R s m args below meth c xl D w0 A j bT cT Q F') : mm_G p l e R s m args below meth c xl D w0 A j bT cT Q (pc, lo, st, W0, b0, c0) := by
  subst hn
  simp only [mm_stepI] at h
  split at h
  · cases h
    intro ws tys H locs cells slots ls st' hR
    obtain ⟨hst, ⟨lv, hls, hlo⟩, hR⟩ := hR
    have hst0 := mm_l.un hst
    clear hst
    obtain ⟨_, _, rfl, hv, hst⟩ := hst0
    cases mm_v.rj hv
    have hst0 := mm_l.un hst
    clear hst
    obtain ⟨_, _, rfl, hv, hst⟩ := hst0
    cases mm_v.rj hv
    exact lv_lor C.1 C.2.1 hd (k _ _ _ _ _ _ _ _ ⟨mm_l.cons mm_v.j hst, ⟨lv, hls, hlo⟩, hR⟩)
  · cases h
theorem mi_lshl (C : mm_C p l R s m args meth c xl A sc j d)  (hd : decode (md_mt j).2.1 pc = .ok (.lshl, 1)) (hn : nx = pc + 1)  (h : mm_stepI (md_xa sc) j (.lshl) nx r1 r2 r3 pc lo st W0 b0 c0 = some (.inl F')) (k : mm_G p l e R s m args below meth c xl D w0 A j bT cT Q F') : mm_G p l e R s m args below meth c xl D w0 A j bT cT Q (pc, lo, st, W0, b0, c0) := by
  subst hn
  simp only [mm_stepI] at h
  split at h
  · cases h
    intro ws tys H locs cells slots ls st' hR
    obtain ⟨hst, ⟨lv, hls, hlo⟩, hR⟩ := hR
    have hst0 := mm_l.un hst
    clear hst
    obtain ⟨_, _, rfl, hv, hst⟩ := hst0
    cases mm_v.ri hv
    have hst0 := mm_l.un hst
    clear hst
    obtain ⟨_, _, rfl, hv, hst⟩ := hst0
    cases mm_v.rj hv
    exact lv_lshl C.1 C.2.1 hd rfl (k _ _ _ _ _ _ _ _ ⟨mm_l.cons mm_v.j hst, ⟨lv, hls, hlo⟩, hR⟩)
  · cases h
theorem mi_lshr (C : mm_C p l R s m args meth c xl A sc j d)  (hd : decode (md_mt j).2.1 pc = .ok (.lshr, 1)) (hn : nx = pc + 1)  (h : mm_stepI (md_xa sc) j (.lshr) nx r1 r2 r3 pc lo st W0 b0 c0 = some (.inl F')) (k : mm_G p l e R s m args below meth c xl D w0 A j bT cT Q F') : mm_G p l e R s m args below meth c xl D w0 A j bT cT Q (pc, lo, st, W0, b0, c0) := by
  subst hn
  simp only [mm_stepI] at h
  split at h
  · cases h
    intro ws tys H locs cells slots ls st' hR
    obtain ⟨hst, ⟨lv, hls, hlo⟩, hR⟩ := hR
    have hst0 := mm_l.un hst
    clear hst
    obtain ⟨_, _, rfl, hv, hst⟩ := hst0
    cases mm_v.ri hv
    have hst0 := mm_l.un hst
    clear hst
    obtain ⟨_, _, rfl, hv, hst⟩ := hst0
    cases mm_v.rj hv
    exact lv_lshr C.1 C.2.1 hd rfl (k _ _ _ _ _ _ _ _ ⟨mm_l.cons mm_v.j hst, ⟨lv, hls, hlo⟩, hR⟩)
  · cases h
theorem mi_lcmp (C : mm_C p l R s m args meth c xl A sc j d)  (hd : decode (md_mt j).2.1 pc = .ok (.lcmp, 1)) (hn : nx = pc + 1)  (h : mm_stepI (md_xa sc) j (.lcmp) nx r1 r2 r3 pc lo st W0 b0 c0 = some (.inl F')) (k : mm_G p l e R s m args below meth c xl D w0 A j bT cT Q F') : mm_G p l e R s m args below meth c xl D w0 A j bT cT Q (pc, lo, st, W0, b0, c0) := by
  subst hn
  simp only [mm_stepI] at h
  split at h
  · cases h
    intro ws tys H locs cells slots ls st' hR
    obtain ⟨hst, ⟨lv, hls, hlo⟩, hR⟩ := hR
    have hst0 := mm_l.un hst
    clear hst
    obtain ⟨_, _, rfl, hv, hst⟩ := hst0
    cases mm_v.rj hv
    have hst0 := mm_l.un hst
    clear hst
    obtain ⟨_, _, rfl, hv, hst⟩ := hst0
    cases mm_v.rj hv
    exact W.lcmp C.1 C.2.1 hd (k _ _ _ _ _ _ _ _ ⟨mm_l.cons mm_v.i hst, ⟨lv, hls, hlo⟩, hR⟩)
  · cases h
theorem mi_i2l (C : mm_C p l R s m args meth c xl A sc j d)  (hd : decode (md_mt j).2.1 pc = .ok (.i2l, 1)) (hn : nx = pc + 1)  (h : mm_stepI (md_xa sc) j (.i2l) nx r1 r2 r3 pc lo st W0 b0 c0 = some (.inl F')) (k : mm_G p l e R s m args below meth c xl D w0 A j bT cT Q F') : mm_G p l e R s m args below meth c xl D w0 A j bT cT Q (pc, lo, st, W0, b0, c0) := by
  subst hn
  simp only [mm_stepI] at h
  split at h
  · cases h
    intro ws tys H locs cells slots ls st' hR
    obtain ⟨hst, ⟨lv, hls, hlo⟩, hR⟩ := hR
    have hst0 := mm_l.un hst
    clear hst
    obtain ⟨_, _, rfl, hv, hst⟩ := hst0
    cases mm_v.ri hv
    exact lv_i2l C.1 C.2.1 hd rfl (k _ _ _ _ _ _ _ _ ⟨mm_l.cons mm_v.j hst, ⟨lv, hls, hlo⟩, hR⟩)
  · cases h
theorem mi_l2i (C : mm_C p l R s m args meth c xl A sc j d)  (hd : decode (md_mt j).2.1 pc = .ok (.l2i, 1)) (hn : nx = pc + 1)  (h : mm_stepI (md_xa sc) j (.l2i) nx r1 r2 r3 pc lo st W0 b0 c0 = some (.inl F')) (k : mm_G p l e R s m args below meth c xl D w0 A j bT cT Q F') : mm_G p l e R s m args below meth c xl D w0 A j bT cT Q (pc, lo, st, W0, b0, c0) := by
  subst hn
  simp only [mm_stepI] at h
  split at h
  · cases h
    intro ws tys H locs cells slots ls st' hR
    obtain ⟨hst, ⟨lv, hls, hlo⟩, hR⟩ := hR
    have hst0 := mm_l.un hst
    clear hst
    obtain ⟨_, _, rfl, hv, hst⟩ := hst0
    cases mm_v.rj hv
    exact lv_l2i C.1 C.2.1 hd rfl (k _ _ _ _ _ _ _ _ ⟨mm_l.cons mm_v.i hst, ⟨lv, hls, hlo⟩, hR⟩)
  · cases h
theorem mi_i2b (C : mm_C p l R s m args meth c xl A sc j d)  (hd : decode (md_mt j).2.1 pc = .ok (.i2b, 1)) (hn : nx = pc + 1)  (h : mm_stepI (md_xa sc) j (.i2b) nx r1 r2 r3 pc lo st W0 b0 c0 = some (.inl F')) (k : mm_G p l e R s m args below meth c xl D w0 A j bT cT Q F') : mm_G p l e R s m args below meth c xl D w0 A j bT cT Q (pc, lo, st, W0, b0, c0) := by
  subst hn
  simp only [mm_stepI] at h
  split at h
  · cases h
    intro ws tys H locs cells slots ls st' hR
    obtain ⟨hst, ⟨lv, hls, hlo⟩, hR⟩ := hR
    have hst0 := mm_l.un hst
    clear hst
    obtain ⟨_, _, rfl, hv, hst⟩ := hst0
    cases mm_v.ri hv
    exact lv_i2b C.1 C.2.1 hd rfl (k _ _ _ _ _ _ _ _ ⟨mm_l.cons mm_v.i hst, ⟨lv, hls, hlo⟩, hR⟩)
  · cases h
theorem mi_i2c (C : mm_C p l R s m args meth c xl A sc j d)  (hd : decode (md_mt j).2.1 pc = .ok (.i2c, 1)) (hn : nx = pc + 1)  (h : mm_stepI (md_xa sc) j (.i2c) nx r1 r2 r3 pc lo st W0 b0 c0 = some (.inl F')) (k : mm_G p l e R s m args below meth c xl D w0 A j bT cT Q F') : mm_G p l e R s m args below meth c xl D w0 A j bT cT Q (pc, lo, st, W0, b0, c0) := by
  subst hn
  simp only [mm_stepI] at h
  split at h
  · cases h
    intro ws tys H locs cells slots ls st' hR
    obtain ⟨hst, ⟨lv, hls, hlo⟩, hR⟩ := hR
    have hst0 := mm_l.un hst
    clear hst
    obtain ⟨_, _, rfl, hv, hst⟩ := hst0
    cases mm_v.ri hv
    exact lv_i2c C.1 C.2.1 hd rfl (k _ _ _ _ _ _ _ _ ⟨mm_l.cons mm_v.i hst, ⟨lv, hls, hlo⟩, hR⟩)
  · cases h
theorem mi_idiv (C : mm_C p l R s m args meth c xl A sc j d)  (hd : decode (md_mt j).2.1 pc = .ok (.idiv, 1)) (hn : nx = pc + 1)  (h : mm_stepI (md_xa sc) j (.idiv) nx r1 r2 r3 pc lo st W0 b0 c0 = some (.inl F')) (k : mm_G p l e R s m args below meth c xl D w0 A j bT cT Q F') : mm_G p l e R s m args below meth c xl D w0 A j bT cT Q (pc, lo, st, W0, b0, c0) := by
  subst hn
  simp only [mm_stepI] at h
  split at h
  · split at h
    · cases h
    · rename_i hz
      cases h
      intro ws tys H locs cells slots ls st' hR
      obtain ⟨hst, ⟨lv, hls, hlo⟩, hR⟩ := hR
      have hst0 := mm_l.un hst
      clear hst
      obtain ⟨_, _, rfl, hv, hst⟩ := hst0
      cases mm_v.ri hv
      have hst0 := mm_l.un hst
      clear hst
      obtain ⟨_, _, rfl, hv, hst⟩ := hst0
      cases mm_v.ri hv
      exact lv_idiv C.1 C.2.1 hd hz (k _ _ _ _ _ _ _ _ ⟨mm_l.cons mm_v.i hst, ⟨lv, hls, hlo⟩, hR⟩)
  · cases h
theorem mi_irem (C : mm_C p l R s m args meth c xl A sc j d)  (hd : decode (md_mt j).2.1 pc = .ok (.irem, 1)) (hn : nx = pc + 1)  (h : mm_stepI (md_xa sc) j (.irem) nx r1 r2 r3 pc lo st W0 b0 c0 = some (.inl F')) (k : mm_G p l e R s m args below meth c xl D w0 A j bT cT Q F') : mm_G p l e R s m args below meth c xl D w0 A j bT cT Q (pc, lo, st, W0, b0, c0) := by
  subst hn
  simp only [mm_stepI] at h
  split at h
  · split at h
    · cases h
    · rename_i hz
      cases h
      intro ws tys H locs cells slots ls st' hR
      obtain ⟨hst, ⟨lv, hls, hlo⟩, hR⟩ := hR
      have hst0 := mm_l.un hst
      clear hst
      obtain ⟨_, _, rfl, hv, hst⟩ := hst0
      cases mm_v.ri hv
      have hst0 := mm_l.un hst
      clear hst
      obtain ⟨_, _, rfl, hv, hst⟩ := hst0
      cases mm_v.ri hv
      exact lv_irem C.1 C.2.1 hd hz (k _ _ _ _ _ _ _ _ ⟨mm_l.cons mm_v.i hst, ⟨lv, hls, hlo⟩, hR⟩)
  · cases h
theorem mi_ifCond (C : mm_C p l R s m args meth c xl A sc j d) {cd : Jvm.ClassFile.Cond} {off : Int} (hd : decode (md_mt j).2.1 pc = .ok (.ifCond cd off, 3)) (hn : nx = pc + 3) (ht : (pc : Int) + off = (r1 : Int)) (h : mm_stepI (md_xa sc) j (.ifCond cd off) nx r1 r2 r3 pc lo st W0 b0 c0 = some (.inl F')) (k : mm_G p l e R s m args below meth c xl D w0 A j bT cT Q F') : mm_G p l e R s m args below meth c xl D w0 A j bT cT Q (pc, lo, st, W0, b0, c0) := by
  subst hn
  simp only [mm_stepI] at h
  split at h
  · cases h
    intro ws tys H locs cells slots ls st' hR
    obtain ⟨hst, ⟨lv, hls, hlo⟩, hR⟩ := hR
    have hst0 := mm_l.un hst
    clear hst
    obtain ⟨_, _, rfl, hv, hst⟩ := hst0
    cases mm_v.ri hv
    cases cd with
    | eq =>
      refine lv_if_eq C.1 C.2.1 hd ht (fun hc => ?_) (fun hc => ?_)
      · have k2 := k ws tys H locs cells slots ls _ ⟨hst, ⟨lv, hls, hlo⟩, hR⟩
        simp only [mm_cmp, hc, decide_true, decide_false, Bool.not_true, Bool.not_false, if_true, if_false] at k2
        simpa using k2
      · have k2 := k ws tys H locs cells slots ls _ ⟨hst, ⟨lv, hls, hlo⟩, hR⟩
        simp only [mm_cmp, hc, decide_true, decide_false, Bool.not_true, Bool.not_false, if_true, if_false] at k2
        simpa using k2
    | ne =>
      refine lv_if_ne C.1 C.2.1 hd ht (fun hc => ?_) (fun hc => ?_)
      · have k2 := k ws tys H locs cells slots ls _ ⟨hst, ⟨lv, hls, hlo⟩, hR⟩
        simp only [mm_cmp, hc, decide_true, decide_false, Bool.not_true, Bool.not_false, if_true, if_false] at k2
        simpa using k2
      · have k2 := k ws tys H locs cells slots ls _ ⟨hst, ⟨lv, hls, hlo⟩, hR⟩
        simp only [mm_cmp, hc, decide_true, decide_false, Bool.not_true, Bool.not_false, if_true, if_false] at k2
        simpa using k2
    | lt =>
      refine lv_if_lt C.1 C.2.1 hd ht (fun hc => ?_) (fun hc => ?_)
      · have k2 := k ws tys H locs cells slots ls _ ⟨hst, ⟨lv, hls, hlo⟩, hR⟩
        simp only [mm_cmp, hc, decide_true, decide_false, Bool.not_true, Bool.not_false, if_true, if_false] at k2
        simpa using k2
      · have k2 := k ws tys H locs cells slots ls _ ⟨hst, ⟨lv, hls, hlo⟩, hR⟩
        simp only [mm_cmp, hc, decide_true, decide_false, Bool.not_true, Bool.not_false, if_true, if_false] at k2
        simpa using k2
    | ge =>
      refine lv_if_ge C.1 C.2.1 hd ht (fun hc => ?_) (fun hc => ?_)
      · have k2 := k ws tys H locs cells slots ls _ ⟨hst, ⟨lv, hls, hlo⟩, hR⟩
        simp only [mm_cmp, hc, decide_true, decide_false, Bool.not_true, Bool.not_false, if_true, if_false] at k2
        simpa using k2
      · have k2 := k ws tys H locs cells slots ls _ ⟨hst, ⟨lv, hls, hlo⟩, hR⟩
        simp only [mm_cmp, hc, decide_true, decide_false, Bool.not_true, Bool.not_false, if_true, if_false] at k2
        simpa using k2
    | gt =>
      refine lv_if_gt C.1 C.2.1 hd ht (fun hc => ?_) (fun hc => ?_)
      · have k2 := k ws tys H locs cells slots ls _ ⟨hst, ⟨lv, hls, hlo⟩, hR⟩
        simp only [mm_cmp, hc, decide_true, decide_false, Bool.not_true, Bool.not_false, if_true, if_false] at k2
        simpa using k2
      · have k2 := k ws tys H locs cells slots ls _ ⟨hst, ⟨lv, hls, hlo⟩, hR⟩
        simp only [mm_cmp, hc, decide_true, decide_false, Bool.not_true, Bool.not_false, if_true, if_false] at k2
        simpa using k2
    | le =>
      refine lv_if_le C.1 C.2.1 hd ht (fun hc => ?_) (fun hc => ?_)
      · have k2 := k ws tys H locs cells slots ls _ ⟨hst, ⟨lv, hls, hlo⟩, hR⟩
        simp only [mm_cmp, hc, decide_true, decide_false, Bool.not_true, Bool.not_false, if_true, if_false] at k2
        simpa using k2
      · have k2 := k ws tys H locs cells slots ls _ ⟨hst, ⟨lv, hls, hlo⟩, hR⟩
        simp only [mm_cmp, hc, decide_true, decide_false, Bool.not_true, Bool.not_false, if_true, if_false] at k2
        simpa using k2
  · cases h
theorem mi_if_icmp (C : mm_C p l R s m args meth c xl A sc j d) {cd : Jvm.ClassFile.Cond} {off : Int} (hd : decode (md_mt j).2.1 pc = .ok (.if_icmp cd off, 3)) (hn : nx = pc + 3) (ht : (pc : Int) + off = (r1 : Int)) (h : mm_stepI (md_xa sc) j (.if_icmp cd off) nx r1 r2 r3 pc lo st W0 b0 c0 = some (.inl F')) (k : mm_G p l e R s m args below meth c xl D w0 A j bT cT Q F') : mm_G p l e R s m args below meth c xl D w0 A j bT cT Q (pc, lo, st, W0, b0, c0) := by
  subst hn
  simp only [mm_stepI] at h
  split at h
  · cases h
    intro ws tys H locs cells slots ls st' hR
    obtain ⟨hst, ⟨lv, hls, hlo⟩, hR⟩ := hR
    have hst0 := mm_l.un hst
    clear hst
    obtain ⟨_, _, rfl, hv, hst⟩ := hst0
    cases mm_v.ri hv
    have hst0 := mm_l.un hst
    clear hst
    obtain ⟨_, _, rfl, hv, hst⟩ := hst0
    cases mm_v.ri hv
    cases cd with
    | eq =>
      refine lv_icmp_eq C.1 C.2.1 hd ht (fun hc => ?_) (fun hc => ?_)
      · have k2 := k ws tys H locs cells slots ls _ ⟨hst, ⟨lv, hls, hlo⟩, hR⟩
        simp only [mm_cmp, hc, decide_true, decide_false, Bool.not_true, Bool.not_false, if_true, if_false] at k2
        simpa using k2
      · have k2 := k ws tys H locs cells slots ls _ ⟨hst, ⟨lv, hls, hlo⟩, hR⟩
        simp only [mm_cmp, hc, decide_true, decide_false, Bool.not_true, Bool.not_false, if_true, if_false] at k2
        simpa using k2
    | ne =>
      refine lv_icmp_ne C.1 C.2.1 hd ht (fun hc => ?_) (fun hc => ?_)
      · have k2 := k ws tys H locs cells slots ls _ ⟨hst, ⟨lv, hls, hlo⟩, hR⟩
        simp only [mm_cmp, hc, decide_true, decide_false, Bool.not_true, Bool.not_false, if_true, if_false] at k2
        simpa using k2
      · have k2 := k ws tys H locs cells slots ls _ ⟨hst, ⟨lv, hls, hlo⟩, hR⟩
        simp only [mm_cmp, hc, decide_true, decide_false, Bool.not_true, Bool.not_false, if_true, if_false] at k2
        simpa using k2
    | lt =>
      refine lv_icmp_lt C.1 C.2.1 hd ht (fun hc => ?_) (fun hc => ?_)
      · have k2 := k ws tys H locs cells slots ls _ ⟨hst, ⟨lv, hls, hlo⟩, hR⟩
        simp only [mm_cmp, hc, decide_true, decide_false, Bool.not_true, Bool.not_false, if_true, if_false] at k2
        simpa using k2
      · have k2 := k ws tys H locs cells slots ls _ ⟨hst, ⟨lv, hls, hlo⟩, hR⟩
        simp only [mm_cmp, hc, decide_true, decide_false, Bool.not_true, Bool.not_false, if_true, if_false] at k2
        simpa using k2
    | ge =>
      refine lv_icmp_ge C.1 C.2.1 hd ht (fun hc => ?_) (fun hc => ?_)
      · have k2 := k ws tys H locs cells slots ls _ ⟨hst, ⟨lv, hls, hlo⟩, hR⟩
        simp only [mm_cmp, hc, decide_true, decide_false, Bool.not_true, Bool.not_false, if_true, if_false] at k2
        simpa using k2
      · have k2 := k ws tys H locs cells slots ls _ ⟨hst, ⟨lv, hls, hlo⟩, hR⟩
        simp only [mm_cmp, hc, decide_true, decide_false, Bool.not_true, Bool.not_false, if_true, if_false] at k2
        simpa using k2
    | gt =>
      refine lv_icmp_gt C.1 C.2.1 hd ht (fun hc => ?_) (fun hc => ?_)
      · have k2 := k ws tys H locs cells slots ls _ ⟨hst, ⟨lv, hls, hlo⟩, hR⟩
        simp only [mm_cmp, hc, decide_true, decide_false, Bool.not_true, Bool.not_false, if_true, if_false] at k2
        simpa using k2
      · have k2 := k ws tys H locs cells slots ls _ ⟨hst, ⟨lv, hls, hlo⟩, hR⟩
        simp only [mm_cmp, hc, decide_true, decide_false, Bool.not_true, Bool.not_false, if_true, if_false] at k2
        simpa using k2
    | le =>
      refine lv_icmp_le C.1 C.2.1 hd ht (fun hc => ?_) (fun hc => ?_)
      · have k2 := k ws tys H locs cells slots ls _ ⟨hst, ⟨lv, hls, hlo⟩, hR⟩
        simp only [mm_cmp, hc, decide_true, decide_false, Bool.not_true, Bool.not_false, if_true, if_false] at k2
        simpa using k2
      · have k2 := k ws tys H locs cells slots ls _ ⟨hst, ⟨lv, hls, hlo⟩, hR⟩
        simp only [mm_cmp, hc, decide_true, decide_false, Bool.not_true, Bool.not_false, if_true, if_false] at k2
        simpa using k2
  · cases h
theorem mi_goto (C : mm_C p l R s m args meth c xl A sc j d) {off : Int} (hd : decode (md_mt j).2.1 pc = .ok (.goto off, 3)) (hn : nx = pc + 3) (ht : (pc : Int) + off = (r1 : Int)) (h : mm_stepI (md_xa sc) j (.goto off) nx r1 r2 r3 pc lo st W0 b0 c0 = some (.inl F')) (k : mm_G p l e R s m args below meth c xl D w0 A j bT cT Q F') : mm_G p l e R s m args below meth c xl D w0 A j bT cT Q (pc, lo, st, W0, b0, c0) := by
  subst hn
  simp only [mm_stepI] at h
  cases h
  intro ws tys H locs cells slots ls st' hR
  obtain ⟨hst, ⟨lv, hls, hlo⟩, hR⟩ := hR
  exact lv_goto C.1 C.2.1 hd ht (k _ _ _ _ _ _ _ _ ⟨hst, ⟨lv, hls, hlo⟩, hR⟩)
end MI
end
section
/-! ===== switches, arrays, fields, statics, new things ===== -/
section MJ
variable {p : Program} {l : Launch} {e : Env} {R : Room} {s : State} {m : MethodId} {args : Array Value} {below : List Frame} {meth : Method} {c : Code} {xl : Nat → Nat} {D : va_G} {w0 : va_W} {A : Nat → Prop} {sc : Nat × (Nat → Int32)} {j d bT cT : Nat} {Q : State → Prop} {nx r1 r2 r3 pc : Nat} {lo : List (Nat × Value)} {st : List Value} {W0 : mm_W} {b0 c0 : Nat} {F' : mm_F}
theorem mm_at_eq {pc t : Nat} {off : Int} (h : mm_at pc off = some t) : (pc : Int) + off = (t : Int) := by
  unfold mm_at at h
  split at h
  · rename_i hz
    have := Option.some.inj h
    omega
  · cases h
theorem mi_tableswitch (C : mm_C p l R s m args meth c xl A sc j d) {dflt lw hh : Int} {offs : Array Int} {len : Nat} (hd : decode (md_mt j).2.1 pc = .ok (.tableswitch dflt lw hh offs, len)) (h : mm_stepI (md_xa sc) j (.tableswitch dflt lw hh offs) nx r1 r2 r3 pc lo st W0 b0 c0 = some (.inl F')) (k : mm_G p l e R s m args below meth c xl D w0 A j bT cT Q F') : mm_G p l e R s m args below meth c xl D w0 A j bT cT Q (pc, lo, st, W0, b0, c0) := by
  simp only [mm_stepI] at h
  split at h
  · split at h
    · rename_i t hsw
      cases h
      intro ws tys H locs cells slots ls st' hR
      obtain ⟨hst, ⟨lv, hls, hlo⟩, hR⟩ := hR
      have hst0 := mm_l.un hst
      clear hst
      obtain ⟨_, _, rfl, hv, hst⟩ := hst0
      cases mm_v.ri hv
      unfold mm_tsw at hsw
      split at hsw
      · rename_i ho
        exact lv_tableOut C.1 C.2.1 hd ho (mm_at_eq hsw) (k _ _ _ _ _ _ _ _ ⟨hst, ⟨lv, hls, hlo⟩, hR⟩)
      · rename_i ho
        split at hsw
        · rename_i off hof
          exact lv_tableIn C.1 C.2.1 hd (fun z => ho (Or.inl z)) (fun z => ho (Or.inr z)) hof (mm_at_eq hsw) (k _ _ _ _ _ _ _ _ ⟨hst, ⟨lv, hls, hlo⟩, hR⟩)
        · cases hsw
    · cases h
  · cases h
theorem mi_lookupswitch (C : mm_C p l R s m args meth c xl A sc j d) {dflt : Int} {ps : Array (Int × Int)} {len : Nat} (hd : decode (md_mt j).2.1 pc = .ok (.lookupswitch dflt ps, len)) (hp : (ps.toList.zip (ps.toList.drop 1)).all (fun (a, next) => a.1 < next.1) = true) (h : mm_stepI (md_xa sc) j (.lookupswitch dflt ps) nx r1 r2 r3 pc lo st W0 b0 c0 = some (.inl F')) (k : mm_G p l e R s m args below meth c xl D w0 A j bT cT Q F') : mm_G p l e R s m args below meth c xl D w0 A j bT cT Q (pc, lo, st, W0, b0, c0) := by
  simp only [mm_stepI] at h
  split at h
  · split at h
    · rename_i t hsw
      cases h
      intro ws tys H locs cells slots ls st' hR
      obtain ⟨hst, ⟨lv, hls, hlo⟩, hR⟩ := hR
      have hst0 := mm_l.un hst
      clear hst
      obtain ⟨_, _, rfl, hv, hst⟩ := hst0
      cases mm_v.ri hv
      exact lv_lookup C.1 C.2.1 hd hp rfl (mm_at_eq hsw) (k _ _ _ _ _ _ _ _ ⟨hst, ⟨lv, hls, hlo⟩, hR⟩)
    · cases h
  · cases h
theorem mm_aget_in {xa : mm_Xa} {W : mm_W} {k : Nat} {i : Int32} {t : Nat} {v : Value} (h : mm_aget xa W k i = some (t, v)) :
    (k < mm_XB ∧ ((∃ n f, W[k]? = some (.inl (t, n, .inl f)) ∧ vp_in i n ∧ v = .int (f i.toNatClampNeg)) ∨ (∃ n f, W[k]? = some (.inl (t, n, .inr (.inl f))) ∧ vp_in i n ∧ v = .long (f i.toNatClampNeg)) ∨
      (∃ n f, W[k]? = some (.inl (t, n, .inr (.inr (.inr (.inr f))))) ∧ vp_in i n ∧ v = va_rf (f i.toNatClampNeg)))) ∨
    (¬ k < mm_XB ∧ ∃ n f, xa (k - mm_XB) = some (t, n, f) ∧ vp_in i n ∧ v = f i.toNatClampNeg) := by
  unfold mm_aget at h
  split at h
  · rename_i hk
    refine Or.inl ⟨hk, ?_⟩
    split at h
    · rename_i hw
      split at h
      · rename_i hi
        cases h
        exact Or.inl ⟨_, _, hw, mm_ib_in hi, rfl⟩
      · cases h
    · rename_i hw
      split at h
      · rename_i hi
        cases h
        exact Or.inr (Or.inl ⟨_, _, hw, mm_ib_in hi, rfl⟩)
      · cases h
    · rename_i hw
      split at h
      · rename_i hi
        cases h
        exact Or.inr (Or.inr ⟨_, _, hw, mm_ib_in hi, rfl⟩)
      · cases h
    · cases h
  · rename_i hk
    refine Or.inr ⟨hk, ?_⟩
    split at h
    · rename_i hw
      split at h
      · rename_i hi
        cases h
        exact ⟨_, _, hw, mm_ib_in hi, rfl⟩
      · cases h
    · cases h
/-- where a world's array lies -/
theorem mm_w.ai {tys : List (ClassId × FieldType)} {W : mm_W} {ws : va_W} (h : mm_w xl w0 tys W ws) {k a : Nat} (hx : k < mm_XB) (ha : mm_ad xl ws k = some a) {t n : Nat} {f : Nat → Int32} (hk : W[k]? = some (.inl (t, n, .inl f))) :
    ∃ (cA : ClassId) (t0 : Nat), ws[k]? = some (a, .inl (cA, n, .inl f)) ∧ tys[t0]? = some (cA, md_ty t) ∧ (t = 0 ∨ t = 2 ∨ t = 3) := by
  obtain ⟨a2, e', h1, cA, t0, h2, rfl, h3⟩ := h.2.1 k _ hk
  obtain ⟨e2, h4⟩ := mm_ad_in ha hx
  cases h1.symm.trans h4
  exact ⟨cA, t0, h1, h2, h3⟩
theorem mm_w.al {tys : List (ClassId × FieldType)} {W : mm_W} {ws : va_W} (h : mm_w xl w0 tys W ws) {k a : Nat} (hx : k < mm_XB) (ha : mm_ad xl ws k = some a) {t n : Nat} {f : Nat → Int64} (hk : W[k]? = some (.inl (t, n, .inr (.inl f)))) :
    ∃ (cA : ClassId) (t0 : Nat), ws[k]? = some (a, .inl (cA, n, .inr (.inl f))) ∧ tys[t0]? = some (cA, md_ty t) ∧ t = 1 := by
  obtain ⟨a2, e', h1, cA, t0, h2, rfl, h3⟩ := h.2.1 k _ hk
  obtain ⟨e2, h4⟩ := mm_ad_in ha hx
  cases h1.symm.trans h4
  exact ⟨cA, t0, h1, h2, h3⟩
theorem mm_w.ar {tys : List (ClassId × FieldType)} {W : mm_W} {ws : va_W} (h : mm_w xl w0 tys W ws) {k a : Nat} (hx : k < mm_XB) (ha : mm_ad xl ws k = some a) {t n : Nat} {f : Nat → Option Nat} (hk : W[k]? = some (.inl (t, n, .inr (.inr (.inr (.inr f)))))) :
    ∃ (cA : ClassId) (t0 : Nat) (f' : Nat → Option Nat), ws[k]? = some (a, .inl (cA, n, .inr (.inr (.inr (.inr f'))))) ∧ tys[t0]? = some (cA, md_ty t) ∧ (∀ q, mm_o xl ws (f q) (f' q)) ∧ 4 ≤ t := by
  obtain ⟨a2, e', h1, cA, t0, f', h2, rfl, h3, h5⟩ := h.2.1 k _ hk
  obtain ⟨e2, h4⟩ := mm_ad_in ha hx
  cases h1.symm.trans h4
  exact ⟨cA, t0, f', h1, h2, h3, h5⟩
theorem mm_w.ob {tys : List (ClassId × FieldType)} {W : mm_W} {ws : va_W} (h : mm_w xl w0 tys W ws) {k a : Nat} (hx : k < mm_XB) (ha : mm_ad xl ws k = some a) {ci : Nat} {fs : List Value} (hk : W[k]? = some (.inr (ci, fs))) :
    ∃ fs', ws[k]? = some (a, .inr (ci, fs')) ∧ mm_l xl ws fs fs' := by
  obtain ⟨a2, e', h1, fs', rfl, h3⟩ := h.2.1 k _ hk
  obtain ⟨e2, h4⟩ := mm_ad_in ha hx
  cases h1.symm.trans h4
  exact ⟨fs', h1, h3⟩
theorem mi_iaload (C : mm_C p l R s m args meth c xl A sc j d) (K : mm_dat) (hd : decode (md_mt j).2.1 pc = .ok (.iaload, 1)) (hn : nx = pc + 1) (h : mm_stepI (md_xa sc) j .iaload nx r1 r2 r3 pc lo st W0 b0 c0 = some (.inl F')) (k : mm_G p l e R s m args below meth c xl D w0 A j bT cT Q F') : mm_G p l e R s m args below meth c xl D w0 A j bT cT Q (pc, lo, st, W0, b0, c0) := by
  subst hn
  simp only [mm_stepI] at h
  split at h
  · split at h
    · rename_i hg
      split at h
      · rename_i ht
        subst ht
        cases h
        intro ws tys H locs cells slots ls st' hR
        obtain ⟨hst, ⟨lv, hls, hlo⟩, hw, hK, hP, hR⟩ := hR
        have hst0 := mm_l.un hst
        clear hst
        obtain ⟨_, _, rfl, hv, hst⟩ := hst0
        cases mm_v.ri hv
        have hst0 := mm_l.un hst
        clear hst
        obtain ⟨_, _, rfl, hv, hst⟩ := hst0
        obtain ⟨a, ha, rfl⟩ := mm_v.rr hv
        rcases mm_aget_in hg with ⟨hx, ⟨n, f, hk, hi, rfl⟩ | ⟨n, f, hk, hi, rfl⟩ | ⟨n, f, hk, hi, rfl⟩⟩ | ⟨hx, n, f, hk, hi, rfl⟩
        · obtain ⟨cA, t0, h1, h2, -⟩ := hw.ai hx ha hk
          rw [K.2.1] at h2
          exact va_iald C.1 C.2.1 hK hP _ _ h1 h2 hi hd (k _ _ _ _ _ _ _ _ ⟨mm_l.cons mm_v.i hst, ⟨lv, hls, hlo⟩, hw, hK, hP, hR⟩)
        · obtain ⟨cA, t0, h1, h2, h3⟩ := hw.al hx ha hk
          exact absurd h3 (by decide)
        · obtain ⟨cA, t0, f', h1, h2, h3, h4⟩ := hw.ar hx ha hk
          exact absurd h4 (by decide)
        · cases mm_ad_out ha hx
          obtain ⟨hT, hxx⟩ := C.2.2.2.2.2.1.2.2.2.1 _ _ _ _ hk
          rw [K.2.1] at hT
          exact va_ti C.1 C.2.1 hT hR.2.1 hi rfl hd (k _ _ _ _ _ _ _ _ ⟨mm_l.cons (mm_v.x (hxx _)) hst, ⟨lv, hls, hlo⟩, hw, hK, hP, hR⟩)
      · cases h
    · cases h
  · cases h
theorem mi_baload (C : mm_C p l R s m args meth c xl A sc j d) (K : mm_dat) (hd : decode (md_mt j).2.1 pc = .ok (.baload, 1)) (hn : nx = pc + 1) (h : mm_stepI (md_xa sc) j .baload nx r1 r2 r3 pc lo st W0 b0 c0 = some (.inl F')) (k : mm_G p l e R s m args below meth c xl D w0 A j bT cT Q F') : mm_G p l e R s m args below meth c xl D w0 A j bT cT Q (pc, lo, st, W0, b0, c0) := by
  subst hn
  simp only [mm_stepI] at h
  split at h
  · split at h
    · rename_i hg
      split at h
      · rename_i ht
        cases h
        intro ws tys H locs cells slots ls st' hR
        obtain ⟨hst, ⟨lv, hls, hlo⟩, hw, hK, hP, hR⟩ := hR
        have hst0 := mm_l.un hst
        clear hst
        obtain ⟨_, _, rfl, hv, hst⟩ := hst0
        cases mm_v.ri hv
        have hst0 := mm_l.un hst
        clear hst
        obtain ⟨_, _, rfl, hv, hst⟩ := hst0
        obtain ⟨a, ha, rfl⟩ := mm_v.rr hv
        rcases mm_aget_in hg with ⟨hx, ⟨n, f, hk, hi, rfl⟩ | ⟨n, f, hk, hi, rfl⟩ | ⟨n, f, hk, hi, rfl⟩⟩ | ⟨hx, n, f, hk, hi, rfl⟩
        · obtain ⟨cA, t0, h1, h2, -⟩ := hw.ai hx ha hk
          rcases ht with rfl | rfl
          · rw [K.2.2.2.1] at h2
            exact va_bald C.1 C.2.1 hK hP _ _ h1 h2 hi hd (k _ _ _ _ _ _ _ _ ⟨mm_l.cons mm_v.i hst, ⟨lv, hls, hlo⟩, hw, hK, hP, hR⟩)
          · rw [K.2.2.2.2.1] at h2
            exact va_zald C.1 C.2.1 hK hP _ _ h1 h2 hi hd (k _ _ _ _ _ _ _ _ ⟨mm_l.cons mm_v.i hst, ⟨lv, hls, hlo⟩, hw, hK, hP, hR⟩)
        · obtain ⟨cA, t0, h1, h2, h3⟩ := hw.al hx ha hk
          omega
        · obtain ⟨cA, t0, f', h1, h2, h3, h4⟩ := hw.ar hx ha hk
          omega
        · cases mm_ad_out ha hx
          obtain ⟨hT, hxx⟩ := C.2.2.2.2.2.1.2.2.2.1 _ _ _ _ hk
          rcases ht with rfl | rfl
          · rw [K.2.2.2.1] at hT
            exact va_tb C.1 C.2.1 hT hR.2.1 hi rfl hd (k _ _ _ _ _ _ _ _ ⟨mm_l.cons (mm_v.x (hxx _)) hst, ⟨lv, hls, hlo⟩, hw, hK, hP, hR⟩)
          · rw [K.2.2.2.2.1] at hT
            exact va_tz C.1 C.2.1 hT hR.2.1 hi rfl hd (k _ _ _ _ _ _ _ _ ⟨mm_l.cons (mm_v.x (hxx _)) hst, ⟨lv, hls, hlo⟩, hw, hK, hP, hR⟩)
      · cases h
    · cases h
  · cases h
theorem mi_laload (C : mm_C p l R s m args meth c xl A sc j d) (K : mm_dat) (hd : decode (md_mt j).2.1 pc = .ok (.laload, 1)) (hn : nx = pc + 1) (h : mm_stepI (md_xa sc) j .laload nx r1 r2 r3 pc lo st W0 b0 c0 = some (.inl F')) (k : mm_G p l e R s m args below meth c xl D w0 A j bT cT Q F') : mm_G p l e R s m args below meth c xl D w0 A j bT cT Q (pc, lo, st, W0, b0, c0) := by
  subst hn
  simp only [mm_stepI] at h
  split at h
  · split at h
    · rename_i hg
      split at h
      · rename_i ht
        subst ht
        cases h
        intro ws tys H locs cells slots ls st' hR
        obtain ⟨hst, ⟨lv, hls, hlo⟩, hw, hK, hP, hR⟩ := hR
        have hst0 := mm_l.un hst
        clear hst
        obtain ⟨_, _, rfl, hv, hst⟩ := hst0
        cases mm_v.ri hv
        have hst0 := mm_l.un hst
        clear hst
        obtain ⟨_, _, rfl, hv, hst⟩ := hst0
        obtain ⟨a, ha, rfl⟩ := mm_v.rr hv
        rcases mm_aget_in hg with ⟨hx, ⟨n, f, hk, hi, rfl⟩ | ⟨n, f, hk, hi, rfl⟩ | ⟨n, f, hk, hi, rfl⟩⟩ | ⟨hx, n, f, hk, hi, rfl⟩
        · obtain ⟨cA, t0, h1, h2, h3⟩ := hw.ai hx ha hk
          exact absurd h3 (by decide)
        · obtain ⟨cA, t0, h1, h2, h3⟩ := hw.al hx ha hk
          rw [K.2.2.1] at h2
          exact va_lald C.1 C.2.1 hK hP _ _ h1 h2 hi hd (k _ _ _ _ _ _ _ _ ⟨mm_l.cons mm_v.j hst, ⟨lv, hls, hlo⟩, hw, hK, hP, hR⟩)
        · obtain ⟨cA, t0, f', h1, h2, h3, h4⟩ := hw.ar hx ha hk
          exact absurd h4 (by decide)
        · cases mm_ad_out ha hx
          obtain ⟨hT, hxx⟩ := C.2.2.2.2.2.1.2.2.2.1 _ _ _ _ hk
          rw [K.2.2.1] at hT
          exact va_tl C.1 C.2.1 hT hR.2.1 hi rfl hd (k _ _ _ _ _ _ _ _ ⟨mm_l.cons (mm_v.x (hxx _)) hst, ⟨lv, hls, hlo⟩, hw, hK, hP, hR⟩)
      · cases h
    · cases h
  · cases h
theorem mi_aaload (C : mm_C p l R s m args meth c xl A sc j d) (K : mm_dat) (hd : decode (md_mt j).2.1 pc = .ok (.aaload, 1)) (hn : nx = pc + 1) (h : mm_stepI (md_xa sc) j .aaload nx r1 r2 r3 pc lo st W0 b0 c0 = some (.inl F')) (k : mm_G p l e R s m args below meth c xl D w0 A j bT cT Q F') : mm_G p l e R s m args below meth c xl D w0 A j bT cT Q (pc, lo, st, W0, b0, c0) := by
  subst hn
  simp only [mm_stepI] at h
  split at h
  · split at h
    · rename_i hg
      split at h
      · rename_i ht
        cases h
        intro ws tys H locs cells slots ls st' hR
        obtain ⟨hst, ⟨lv, hls, hlo⟩, hw, hK, hP, hR⟩ := hR
        have hst0 := mm_l.un hst
        clear hst
        obtain ⟨_, _, rfl, hv, hst⟩ := hst0
        cases mm_v.ri hv
        have hst0 := mm_l.un hst
        clear hst
        obtain ⟨_, _, rfl, hv, hst⟩ := hst0
        obtain ⟨a, ha, rfl⟩ := mm_v.rr hv
        obtain ⟨E, hE, -⟩ := K.2.2.2.2.2.1 _ ht
        rcases mm_aget_in hg with ⟨hx, ⟨n, f, hk, hi, rfl⟩ | ⟨n, f, hk, hi, rfl⟩ | ⟨n, f, hk, hi, rfl⟩⟩ | ⟨hx, n, f, hk, hi, rfl⟩
        · obtain ⟨cA, t0, h1, h2, h3⟩ := hw.ai hx ha hk
          omega
        · obtain ⟨cA, t0, h1, h2, h3⟩ := hw.al hx ha hk
          omega
        · obtain ⟨cA, t0, f', h1, h2, h3, h4⟩ := hw.ar hx ha hk
          rw [hE] at h2
          exact va_aldq C.1 C.2.1 hK hP _ _ h1 h2 hi hd (k _ _ _ _ _ _ _ _ ⟨mm_l.cons (mm_v.re (h3 _)) hst, ⟨lv, hls, hlo⟩, hw, hK, hP, hR⟩)
        · cases mm_ad_out ha hx
          obtain ⟨hT, hxx⟩ := C.2.2.2.2.2.1.2.2.2.1 _ _ _ _ hk
          rw [hE] at hT
          exact vb_tq C.1 C.2.1 hT hR.2.1 hi rfl hd (k _ _ _ _ _ _ _ _ ⟨mm_l.cons (mm_v.x (hxx _)) hst, ⟨lv, hls, hlo⟩, hw, hK, hP, hR⟩)
      · cases h
    · cases h
  · cases h
theorem mi_arraylength (C : mm_C p l R s m args meth c xl A sc j d) (hd : decode (md_mt j).2.1 pc = .ok (.arraylength, 1)) (hn : nx = pc + 1) (h : mm_stepI (md_xa sc) j .arraylength nx r1 r2 r3 pc lo st W0 b0 c0 = some (.inl F')) (k : mm_G p l e R s m args below meth c xl D w0 A j bT cT Q F') : mm_G p l e R s m args below meth c xl D w0 A j bT cT Q (pc, lo, st, W0, b0, c0) := by
  subst hn
  simp only [mm_stepI] at h
  split at h
  · obtain ⟨n, hg, h⟩ := Option.map_eq_some_iff.mp h
    cases h
    intro ws tys H locs cells slots ls st' hR
    obtain ⟨hst, ⟨lv, hls, hlo⟩, hw, hK, hP, hR⟩ := hR
    have hst0 := mm_l.un hst
    clear hst
    obtain ⟨_, _, rfl, hv, hst⟩ := hst0
    obtain ⟨a, ha, rfl⟩ := mm_v.rr hv
    unfold mm_alen at hg
    split at hg
    · rename_i hx
      split at hg
      · rename_i t n0 f hk
        cases hg
        rcases f with f | f | f | f | f
        · obtain ⟨cA, t0, h1, h2, -⟩ := hw.ai hx ha hk
          exact va_alen C.1 C.2.1 hK hP _ _ h1 h2 rfl hd (k _ _ _ _ _ _ _ _ ⟨mm_l.cons mm_v.i hst, ⟨lv, hls, hlo⟩, hw, hK, hP, hR⟩)
        · obtain ⟨cA, t0, h1, h2, -⟩ := hw.al hx ha hk
          exact va_alen C.1 C.2.1 hK hP _ _ h1 h2 rfl hd (k _ _ _ _ _ _ _ _ ⟨mm_l.cons mm_v.i hst, ⟨lv, hls, hlo⟩, hw, hK, hP, hR⟩)
        · obtain ⟨a2, e', -, h3⟩ := hw.2.1 _ _ hk
          exact False.elim h3
        · obtain ⟨a2, e', -, h3⟩ := hw.2.1 _ _ hk
          exact False.elim h3
        · obtain ⟨cA, t0, f', h1, h2, -⟩ := hw.ar hx ha hk
          exact va_alen C.1 C.2.1 hK hP _ _ h1 h2 rfl hd (k _ _ _ _ _ _ _ _ ⟨mm_l.cons mm_v.i hst, ⟨lv, hls, hlo⟩, hw, hK, hP, hR⟩)
      · cases hg
    · rename_i hx
      split at hg
      · rename_i hk
        cases hg
        cases mm_ad_out ha hx
        obtain ⟨hT, -⟩ := C.2.2.2.2.2.1.2.2.2.1 _ _ _ _ hk
        exact va_tlen C.1 C.2.1 hT hR.2.1 rfl hd (k _ _ _ _ _ _ _ _ ⟨mm_l.cons mm_v.i hst, ⟨lv, hls, hlo⟩, hw, hK, hP, hR⟩)
      · cases hg
  · cases h
theorem mm_lset {tys : List (ClassId × FieldType)} {ws : va_W} {H H1 : Heap} {locs locs1 : List Loc} {cells slots : Nat} {ls : Array Slot} {st' : List Value} {q a : Nat} {e0 e e' : va_E} {F : mm_F} (hR : mm_R xl D w0 s A (md_mt j).2.2.1 bT cT F ws tys H locs cells slots ls st') (hq : ws[q]? = some (a, e0)) (he : mm_e xl ws tys e e')
    (hP1 : va_P D md_cl (ws.set q (a, e')) H1) (hD1 : va_D A (ws.set q (a, e'))) (hS1 : va_S A s.heap H1 locs1) {pc2 : Nat} {st2 : List Value} (hst2 : mm_l xl ws F.2.2.1 st' → True) {stA stA' : List Value} (hA : mm_l xl ws stA stA') :
    mm_R xl D w0 s A (md_mt j).2.2.1 bT cT (pc2, F.2.1, stA, F.2.2.2.1.set q e, F.2.2.2.2.1, F.2.2.2.2.2) (ws.set q (a, e')) tys H1 locs1 cells slots ls stA' := by
  obtain ⟨-, ⟨lv, hls, hlo⟩, hw, hK, -, -, -, hb, hc⟩ := hR
  exact ⟨hA.mono (mm_le_set hq), ⟨lv, hls, hlo.mono (mm_le_set hq)⟩, hw.set hq he, hK, hP1, hD1, hS1, hb, hc⟩
theorem mi_iastore (C : mm_C p l R s m args meth c xl A sc j d) (K : mm_dat) (hd : decode (md_mt j).2.1 pc = .ok (.iastore, 1)) (hn : nx = pc + 1) (h : mm_stepI (md_xa sc) j .iastore nx r1 r2 r3 pc lo st W0 b0 c0 = some (.inl F')) (k : mm_G p l e R s m args below meth c xl D w0 A j bT cT Q F') : mm_G p l e R s m args below meth c xl D w0 A j bT cT Q (pc, lo, st, W0, b0, c0) := by
  subst hn
  simp only [mm_stepI] at h
  split at h
  · split at h
    · rename_i hx
      split at h
      · rename_i hg
        split at h
        · rename_i ht
          subst ht
          cases h
          intro ws tys H locs cells slots ls st' hR0
          obtain ⟨hst, ⟨lv, hls, hlo⟩, hw, hK, hP, hD, hS, hR⟩ := id hR0
          have hst0 := mm_l.un hst
          clear hst
          obtain ⟨_, _, rfl, hv, hst⟩ := hst0
          cases mm_v.ri hv
          have hst0 := mm_l.un hst
          clear hst
          obtain ⟨_, _, rfl, hv, hst⟩ := hst0
          cases mm_v.ri hv
          have hst0 := mm_l.un hst
          clear hst
          obtain ⟨_, _, rfl, hv, hst⟩ := hst0
          obtain ⟨a, ha, rfl⟩ := mm_v.rr hv
          unfold mm_aputi at hg
          split at hg
          · rename_i hk
            split at hg
            · rename_i hi
              cases hg
              obtain ⟨cA, t0, h1, h2, -⟩ := hw.ai hx ha hk
              have h2' := h2
              rw [K.2.1] at h2
              exact va_iast C.1 C.2.1 hK hP hD hS _ _ h1 h2 (mm_ib_in hi) hd (fun H1 locs1 hP1 hD1 hS1 => k _ _ _ _ _ _ _ _ (mm_lset hR0 h1 (mm_e.i h2' (Or.inl rfl)) hP1 hD1 hS1 (fun _ => trivial) hst (st2 := [])))
            · cases hg
          · cases hg
        · cases h
      · cases h
    · cases h
  · cases h
theorem mi_bastore (C : mm_C p l R s m args meth c xl A sc j d) (K : mm_dat) (hd : decode (md_mt j).2.1 pc = .ok (.bastore, 1)) (hn : nx = pc + 1) (h : mm_stepI (md_xa sc) j .bastore nx r1 r2 r3 pc lo st W0 b0 c0 = some (.inl F')) (k : mm_G p l e R s m args below meth c xl D w0 A j bT cT Q F') : mm_G p l e R s m args below meth c xl D w0 A j bT cT Q (pc, lo, st, W0, b0, c0) := by
  subst hn
  simp only [mm_stepI] at h
  split at h
  · split at h
    · rename_i hx
      split at h
      · rename_i hg
        split at h
        · rename_i ht
          cases h
          intro ws tys H locs cells slots ls st' hR0
          obtain ⟨hst, ⟨lv, hls, hlo⟩, hw, hK, hP, hD, hS, hR⟩ := id hR0
          have hst0 := mm_l.un hst
          clear hst
          obtain ⟨_, _, rfl, hv, hst⟩ := hst0
          cases mm_v.ri hv
          have hst0 := mm_l.un hst
          clear hst
          obtain ⟨_, _, rfl, hv, hst⟩ := hst0
          cases mm_v.ri hv
          have hst0 := mm_l.un hst
          clear hst
          obtain ⟨_, _, rfl, hv, hst⟩ := hst0
          obtain ⟨a, ha, rfl⟩ := mm_v.rr hv
          unfold mm_aputi at hg
          split at hg
          · rename_i hk
            split at hg
            · rename_i hi
              cases hg
              obtain ⟨cA, t0, h1, h2, -⟩ := hw.ai hx ha hk
              have h2' := h2
              rcases ht with rfl | rfl
              · rw [K.2.2.2.1] at h2
                exact va_bast C.1 C.2.1 hK hP hD hS _ _ h1 h2 (mm_ib_in hi) hd (fun H1 locs1 hP1 hD1 hS1 => k _ _ _ _ _ _ _ _ (mm_lset hR0 h1 (mm_e.i h2' (Or.inr (Or.inl rfl))) hP1 hD1 hS1 (fun _ => trivial) hst (st2 := [])))
              · rw [K.2.2.2.2.1] at h2
                exact va_zast C.1 C.2.1 hK hP hD hS _ _ h1 h2 (mm_ib_in hi) hd (fun H1 locs1 hP1 hD1 hS1 => k _ _ _ _ _ _ _ _ (mm_lset hR0 h1 (mm_e.i h2' (Or.inr (Or.inr rfl))) hP1 hD1 hS1 (fun _ => trivial) hst (st2 := [])))
            · cases hg
          · cases hg
        · cases h
      · cases h
    · cases h
  · cases h
theorem mi_lastore (C : mm_C p l R s m args meth c xl A sc j d) (K : mm_dat) (hd : decode (md_mt j).2.1 pc = .ok (.lastore, 1)) (hn : nx = pc + 1) (h : mm_stepI (md_xa sc) j .lastore nx r1 r2 r3 pc lo st W0 b0 c0 = some (.inl F')) (k : mm_G p l e R s m args below meth c xl D w0 A j bT cT Q F') : mm_G p l e R s m args below meth c xl D w0 A j bT cT Q (pc, lo, st, W0, b0, c0) := by
  subst hn
  simp only [mm_stepI] at h
  split at h
  · split at h
    · rename_i hx
      split at h
      · rename_i hg
        split at h
        · rename_i ht
          subst ht
          cases h
          intro ws tys H locs cells slots ls st' hR0
          obtain ⟨hst, ⟨lv, hls, hlo⟩, hw, hK, hP, hD, hS, hR⟩ := id hR0
          have hst0 := mm_l.un hst
          clear hst
          obtain ⟨_, _, rfl, hv, hst⟩ := hst0
          cases mm_v.rj hv
          have hst0 := mm_l.un hst
          clear hst
          obtain ⟨_, _, rfl, hv, hst⟩ := hst0
          cases mm_v.ri hv
          have hst0 := mm_l.un hst
          clear hst
          obtain ⟨_, _, rfl, hv, hst⟩ := hst0
          obtain ⟨a, ha, rfl⟩ := mm_v.rr hv
          unfold mm_aputl at hg
          split at hg
          · rename_i hk
            split at hg
            · rename_i hi
              cases hg
              obtain ⟨cA, t0, h1, h2, -⟩ := hw.al hx ha hk
              have h2' := h2
              rw [K.2.2.1] at h2
              exact va_last C.1 C.2.1 hK hP hD hS _ _ h1 h2 (mm_ib_in hi) hd (fun H1 locs1 hP1 hD1 hS1 => k _ _ _ _ _ _ _ _ (mm_lset hR0 h1 (mm_e.j h2' rfl) hP1 hD1 hS1 (fun _ => trivial) hst (st2 := [])))
            · cases hg
          · cases hg
        · cases h
      · cases h
    · cases h
  · cases h
theorem mm_cls_in {W : mm_W} {v n : Nat} (h : mm_cls W v = some n) : (v < mm_XB ∧ ∃ fs, W[v]? = some (.inr (n, fs))) ∨ (¬ v < mm_XB ∧ ∃ q, md_xc (v - mm_XB) = some q ∧ n = 1000 + q) := by
  unfold mm_cls at h
  split at h
  · rename_i hx
    split at h
    · rename_i hk
      cases h
      exact Or.inl ⟨hx, _, hk⟩
    · cases h
  · rename_i hx
    obtain ⟨q, h1, h2⟩ := Option.map_eq_some_iff.mp h
    exact Or.inr ⟨hx, q, h1, h2.symm⟩
theorem mi_aastore (C : mm_C p l R s m args meth c xl A sc j d) (K : mm_dat) (hd : decode (md_mt j).2.1 pc = .ok (.aastore, 1)) (hn : nx = pc + 1) (h : mm_stepI (md_xa sc) j .aastore nx r1 r2 r3 pc lo st W0 b0 c0 = some (.inl F')) (k : mm_G p l e R s m args below meth c xl D w0 A j bT cT Q F') : mm_G p l e R s m args below meth c xl D w0 A j bT cT Q (pc, lo, st, W0, b0, c0) := by
  subst hn
  simp only [mm_stepI] at h
  split at h
  · rename_i v0 i0 k0 st0
    split at h
    · rename_i hx
      obtain ⟨W2, hg, h⟩ := Option.map_eq_some_iff.mp h
      cases h
      intro ws tys H locs cells slots ls st' hR0
      obtain ⟨hst, ⟨lv, hls, hlo⟩, hw, hK, hP, hD, hS, hR⟩ := id hR0
      have hst0 := mm_l.un hst
      clear hst
      obtain ⟨_, _, rfl, hv, hst⟩ := hst0
      obtain ⟨av, hav, rfl⟩ := mm_v.rr hv
      have hst0 := mm_l.un hst
      clear hst
      obtain ⟨_, _, rfl, hv, hst⟩ := hst0
      cases mm_v.ri hv
      have hst0 := mm_l.un hst
      clear hst
      obtain ⟨_, _, rfl, hv, hst⟩ := hst0
      obtain ⟨a, ha, rfl⟩ := mm_v.rr hv
      unfold mm_aputr at hg
      split at hg
      · rename_i t n f hk
        split at hg
        · rename_i hi
          cases hg
          simp only [Bool.and_eq_true, decide_eq_true_eq] at hi
          obtain ⟨⟨hi, ht⟩, hc⟩ := hi
          obtain ⟨cA, t0, f', h1, h2, h3, h4⟩ := hw.ar hx ha hk
          have h2' := h2
          obtain ⟨E, hE, hE1, hE2⟩ := K.2.2.2.2.2.1 _ ht
          rw [hE] at h2
          have hnew : ∀ q, mm_o xl ws (va_up f i0.toNatClampNeg (some v0) q) (va_up f' i0.toNatClampNeg (some av) q) := fun q => by
            unfold va_up
            split
            · exact ⟨av, hav, rfl⟩
            · exact h3 q
          rcases mm_cls_in hc with ⟨hvx, fs, hkv⟩ | ⟨hvx, q, hq, hn⟩
          · obtain ⟨fs', h5, -⟩ := hw.ob hvx hav hkv
            by_cases hlt : md_ac t < 1000
            · obtain ⟨r, hr, hrE⟩ := hE1 hlt
              subst hrE
              exact va_astq C.1 C.2.1 hK hP hD hS _ _ _ _ h1 h2 h5 hr (mm_ib_in hi) hd (fun H1 locs1 hP1 hD1 hS1 => k _ _ _ _ _ _ _ _ (mm_lset hR0 h1 (mm_e.r h2' hnew h4) hP1 hD1 hS1 (fun _ => trivial) hst (st2 := [])))
            · exfalso
              have h6 := hP _ _ h5
              obtain ⟨r, hr, -⟩ := h6
              exact hlt (K.2.2.2.2.2.2.2.2 _ _ hr)
          · have hge : 1000 ≤ md_ac t := by omega
            have hEq := hE2 hge
            have hq2 : md_ac t - 1000 = q := by omega
            rw [hq2] at hEq
            cases mm_ad_out hav hvx
            have hO := C.2.2.2.2.2.1.2.1 _ _ hq
            rw [hEq] at hO
            obtain ⟨cellV, hV1, hV2, hV3⟩ := va_Orecv hO hS
            have hAny : va_Any E s H (xl (v0 - mm_XB)) := by
              refine ⟨cellV, hV1, hV2, ?_, ?_⟩
              · obtain ⟨k9, h9, -⟩ := Vm.findClass_spec hV3; exact ⟨k9, h9⟩
              · intro comp hcomp
                cases Option.some.inj (hcomp.symm.trans hV3)
                exact va_asg _ _
            exact va_astqM C.1 C.2.1 hK hP hD hS _ _ h1 h2 hAny (mm_ib_in hi) hd (fun H1 locs1 hP1 hD1 hS1 => k _ _ _ _ _ _ _ _ (mm_lset hR0 h1 (mm_e.r h2' hnew h4) hP1 hD1 hS1 (fun _ => trivial) hst (st2 := [])))
        · cases hg
      · cases hg
    · cases h
  · cases h
end MJ
end
section
section MK
variable {p : Program} {l : Launch} {e : Env} {R : Room} {s : State} {m : MethodId} {args : Array Value} {below : List Frame} {meth : Method} {c : Code} {xl : Nat → Nat} {D : va_G} {w0 : va_W} {A : Nat → Prop} {sc : Nat × (Nat → Int32)} {j d bT cT : Nat} {Q : State → Prop} {nx r1 r2 r3 pc : Nat} {lo : List (Nat × Value)} {st : List Value} {W0 : mm_W} {b0 c0 : Nat} {F' : mm_F}
theorem mi_ldc (C : mm_C p l R s m args meth c xl A sc j d) {i : Nat} (hd : decode (md_mt j).2.1 pc = .ok (.ldc i, 2)) (hn : nx = pc + 2) (ho0 : r1 = 0 → Jvm.Cond.constant (md_mt j).1.cls i (Int32.ofNat r2) ∈ md_Tg) (ho1 : r1 ≠ 0 → ∃ tx, ((md_mt j).1.cls, i, tx, r2) ∈ md_sr) (h : mm_stepI (md_xa sc) j (.ldc i) nx r1 r2 r3 pc lo st W0 b0 c0 = some (.inl F')) (k : mm_G p l e R s m args below meth c xl D w0 A j bT cT Q F') : mm_G p l e R s m args below meth c xl D w0 A j bT cT Q (pc, lo, st, W0, b0, c0) := by
  subst hn
  simp only [mm_stepI] at h
  split at h
  · rename_i hz
    cases h
    intro ws tys H locs cells slots ls st' hR
    obtain ⟨hst, ⟨lv, hls, hlo⟩, hR⟩ := hR
    exact lv_ldc C.1 C.2.1 C.2.2.2.1 (C.2.2.2.2.1 _ (ho0 hz)) hd (k _ _ _ _ _ _ _ _ ⟨mm_l.cons mm_v.i hst, ⟨lv, hls, hlo⟩, hR⟩)
  · rename_i hz
    cases h
    intro ws tys H locs cells slots ls st' hR
    obtain ⟨hst, ⟨lv, hls, hlo⟩, hR⟩ := hR
    obtain ⟨tx, htx⟩ := ho1 hz
    have hv : mm_v xl ws (.ref (mm_XB + r2)) (.ref (xl r2)) := ⟨xl r2, by unfold mm_ad; rw [if_neg (by omega), Nat.add_sub_cancel_left], rfl⟩
    have hZ : vk_R (md_mt j).1.cls i tx (xl r2) s := C.2.2.2.2.2.1.2.2.2.2.1 ((md_mt j).1.cls, i, tx, r2) htx
    exact va_ldcS (own := (md_mt j).1.cls) (tx := tx) (index := i) (q := xl r2) C.1 C.2.1 C.2.2.2.1 hZ hd (k _ _ _ _ _ _ _ _ ⟨mm_l.cons hv hst, ⟨lv, hls, hlo⟩, hR⟩)
theorem mi_ldc_w (C : mm_C p l R s m args meth c xl A sc j d) {i : Nat} (hd : decode (md_mt j).2.1 pc = .ok (.ldc_w i, 3)) (hn : nx = pc + 3) (ho : Jvm.Cond.constant (md_mt j).1.cls i (Int32.ofNat r2) ∈ md_Tg) (h : mm_stepI (md_xa sc) j (.ldc_w i) nx r1 r2 r3 pc lo st W0 b0 c0 = some (.inl F')) (k : mm_G p l e R s m args below meth c xl D w0 A j bT cT Q F') : mm_G p l e R s m args below meth c xl D w0 A j bT cT Q (pc, lo, st, W0, b0, c0) := by
  subst hn
  simp only [mm_stepI] at h
  cases h
  intro ws tys H locs cells slots ls st' hR
  obtain ⟨hst, ⟨lv, hls, hlo⟩, hR⟩ := hR
  exact lv_ldcw C.1 C.2.1 C.2.2.2.1 (C.2.2.2.2.1 _ ho) hd (k _ _ _ _ _ _ _ _ ⟨mm_l.cons mm_v.i hst, ⟨lv, hls, hlo⟩, hR⟩)
theorem mi_ldc2_w (C : mm_C p l R s m args meth c xl A sc j d) {i : Nat} (hd : decode (md_mt j).2.1 pc = .ok (.ldc2_w i, 3)) (hn : nx = pc + 3) (ho : Jvm.Cond.constantLong (md_mt j).1.cls i (Int64.ofNat r1) ∈ md_Tg) (h : mm_stepI (md_xa sc) j (.ldc2_w i) nx r1 r2 r3 pc lo st W0 b0 c0 = some (.inl F')) (k : mm_G p l e R s m args below meth c xl D w0 A j bT cT Q F') : mm_G p l e R s m args below meth c xl D w0 A j bT cT Q (pc, lo, st, W0, b0, c0) := by
  subst hn
  simp only [mm_stepI] at h
  cases h
  intro ws tys H locs cells slots ls st' hR
  obtain ⟨hst, ⟨lv, hls, hlo⟩, hR⟩ := hR
  exact lv_ldc2 C.1 C.2.1 C.2.2.2.1 (C.2.2.2.2.1 _ ho) hd (k _ _ _ _ _ _ _ _ ⟨mm_l.cons mm_v.j hst, ⟨lv, hls, hlo⟩, hR⟩)
theorem mi_getstatic (C : mm_C p l R s m args meth c xl A sc j d) {i : Nat} (hd : decode (md_mt j).2.1 pc = .ok (.getstatic i, 3)) (hn : nx = pc + 3) (ho : r3 = 0 → r1 < md_nst ∧ Jvm.Cond.fieldLink (md_mt j).1.cls i (md_stn r1).1 (md_stn r1).2.1 (md_stn r1).2.2 ∈ md_Tg) (ho1 : r3 ≠ 0 → ∃ q ∈ md_sq, Jvm.Cond.fieldLink (md_mt j).1.cls i q.1 q.2.1 q.2.2 ∈ md_Tg) (h : mm_stepI (md_xa sc) j (.getstatic i) nx r1 r2 r3 pc lo st W0 b0 c0 = some (.inl F')) (k : mm_G p l e R s m args below meth c xl D w0 A j bT cT Q F') : mm_G p l e R s m args below meth c xl D w0 A j bT cT Q (pc, lo, st, W0, b0, c0) := by
  subst hn
  simp only [mm_stepI] at h
  split at h
  · rename_i hz
    cases h
    intro ws tys H locs cells slots ls st' hR
    obtain ⟨hst, ⟨lv, hls, hlo⟩, hw, hK, hP, hD, hS, hR⟩ := hR
    obtain ⟨h1, h2⟩ := ho hz
    obtain ⟨hZ, hx⟩ := C.2.2.2.2.2.1.1 _ h1
    exact va_gets C.1 C.2.1 hZ hS C.2.2.2.1 (C.2.2.2.2.1 _ h2) (fun _ z => z) hd (k _ _ _ _ _ _ _ _ ⟨mm_l.cons (mm_v.x hx) hst, ⟨lv, hls, hlo⟩, hw, hK, hP, hD, hS, hR⟩)
  · rename_i hz
    cases h
    intro ws tys H locs cells slots ls st' hR
    obtain ⟨hst, ⟨lv, hls, hlo⟩, hw, hK, hP, hD, hS, hR⟩ := hR
    obtain ⟨q, hq, h2⟩ := ho1 hz
    rcases C.2.2.2.2.2.1.2.2.2.2.2.2.2.2.2.2.2.2 q hq with hZ | ⟨t, hZ⟩
    · exact va_gets C.1 C.2.1 hZ hS C.2.2.2.1 (C.2.2.2.2.1 _ h2) (fun _ z => z) hd (k _ _ _ _ _ _ _ _ ⟨mm_l.cons (Or.inl rfl) hst, ⟨lv, hls, hlo⟩, hw, hK, hP, hD, hS, hR⟩)
    · exact va_gets C.1 C.2.1 hZ hS C.2.2.2.1 (C.2.2.2.2.1 _ h2) (fun _ z => z) hd (k _ _ _ _ _ _ _ _ ⟨mm_l.cons (Or.inr ⟨t, rfl⟩) hst, ⟨lv, hls, hlo⟩, hw, hK, hP, hD, hS, hR⟩)
theorem mi_getfield (C : mm_C p l R s m args meth c xl A sc j d) (K : mm_dat) {i : Nat} (hd : decode (md_mt j).2.1 pc = .ok (.getfield i, 3)) (hn : nx = pc + 3) (ho0 : r3 = 0 → ∃ C T N, md_cl[r1]? = some (C, T, N) ∧ r2 < N ∧ Jvm.Cond.fieldLink (md_mt j).1.cls i (T r2).1 (T r2).2.1 (T r2).2.2.1 ∈ md_Tg) (ho1 : r3 ≠ 0 → Jvm.Cond.fieldLink (md_mt j).1.cls i (md_xf r1).1 (md_xf r1).2.1 (md_xf r1).2.2 ∈ md_Tg) (h : mm_stepI (md_xa sc) j (.getfield i) nx r1 r2 r3 pc lo st W0 b0 c0 = some (.inl F')) (k : mm_G p l e R s m args below meth c xl D w0 A j bT cT Q F') : mm_G p l e R s m args below meth c xl D w0 A j bT cT Q (pc, lo, st, W0, b0, c0) := by
  subst hn
  simp only [mm_stepI] at h
  split at h
  · split at h
    · rename_i hz
      split at h
      · rename_i hx
        obtain ⟨v, hg, h⟩ := Option.map_eq_some_iff.mp h
        cases h
        intro ws tys H locs cells slots ls st' hR
        obtain ⟨hst, ⟨lv, hls, hlo⟩, hw, hK, hP, hD, hS, hR⟩ := hR
        have hst0 := mm_l.un hst
        clear hst
        obtain ⟨_, _, rfl, hv, hst⟩ := hst0
        obtain ⟨a, ha, rfl⟩ := mm_v.rr hv
        obtain ⟨C0, T, N, hc, hk, hl⟩ := ho0 hz
        unfold mm_getf at hg
        split at hg
        · rename_i hkw
          split at hg
          · rename_i hce
            subst hce
            obtain ⟨fs', h1, h2⟩ := hw.ob hx ha hkw
            obtain ⟨v', hv', hvv⟩ := h2.at hg
            exact va_get C.1 C.2.1 C.2.2.2.2.1 (K.1 _ _ _ _ hc).1 C.2.2.2.1 hK hP _ h1 hc r2 hk (C.2.2.2.2.1 _ hl) (fun _ z => z) hv' hd (k _ _ _ _ _ _ _ _ ⟨mm_l.cons hvv hst, ⟨lv, hls, hlo⟩, hw, hK, hP, hD, hS, hR⟩)
          · cases hg
        · cases hg
      · cases h
    · rename_i hz
      split at h
      · cases h
      · rename_i hx
        obtain ⟨v, hg, h⟩ := Option.map_eq_some_iff.mp h
        cases h
        intro ws tys H locs cells slots ls st' hR
        obtain ⟨hst, ⟨lv, hls, hlo⟩, hw, hK, hP, hD, hS, hR⟩ := hR
        have hst0 := mm_l.un hst
        clear hst
        obtain ⟨_, _, rfl, hv, hst⟩ := hst0
        obtain ⟨a, ha, rfl⟩ := mm_v.rr hv
        cases mm_ad_out ha hx
        obtain ⟨hF, hxx⟩ := C.2.2.2.2.2.1.2.2.1 _ _ _ hg
        exact vk_getf C.1 C.2.1 hF hS C.2.2.2.1 (C.2.2.2.2.1 _ (ho1 hz)) (fun _ z => z) hd (k _ _ _ _ _ _ _ _ ⟨mm_l.cons (mm_v.x hxx) hst, ⟨lv, hls, hlo⟩, hw, hK, hP, hD, hS, hR⟩)
  · cases h
/-- a type of its number: 0 int, 1 long, 2 boolean, 3 a reference -/
def mm_tyc (r3 : Nat) (ty : FieldType) : Prop := (r3 = 0 ∧ ty = .int) ∨ (r3 = 1 ∧ ty = .long) ∨ (r3 = 2 ∧ ty = .boolean) ∨ (r3 = 3 ∧ ((∃ n, ty = .object n) ∨ ∃ t, ty = .array t))
theorem mm_nf_ok {ws : va_W} {t : Nat} {ty : FieldType} {v v' : Value} (ht : mm_tyc t ty) (h : mm_nf t v = true) (hv : mm_v xl ws v v') : narrow ty v' = v' ∧ fits ty v' = true := by
  rcases ht with ⟨rfl, rfl⟩ | ⟨rfl, rfl⟩ | ⟨rfl, rfl⟩ | ⟨rfl, ht⟩
  · cases v <;> first | (cases h; done) | (cases mm_v.ri hv; exact ⟨rfl, rfl⟩)
  · cases v <;> first | (cases h; done) | (cases mm_v.rj hv; exact ⟨rfl, rfl⟩)
  · cases v with
    | int x =>
      cases mm_v.ri hv
      have h2 : x = 0 ∨ x = 1 := by simpa [mm_nf] using h
      rcases h2 with rfl | rfl <;> exact ⟨by decide +kernel, by decide +kernel⟩
    | _ => cases h
  · cases v with
    | ref q =>
      obtain ⟨a, -, rfl⟩ := mm_v.rr hv
      rcases ht with ⟨n, rfl⟩ | ⟨n, rfl⟩ <;> exact ⟨rfl, rfl⟩
    | null =>
      cases mm_v.rn hv
      rcases ht with ⟨n, rfl⟩ | ⟨n, rfl⟩ <;> exact ⟨rfl, rfl⟩
    | _ => cases h
theorem mi_putfield (C : mm_C p l R s m args meth c xl A sc j d) (K : mm_dat) {i : Nat} (hd : decode (md_mt j).2.1 pc = .ok (.putfield i, 3)) (hn : nx = pc + 3)
    (ho : ∃ C T N ty, md_cl[r1]? = some (C, T, N) ∧ r2 < N ∧ Jvm.Cond.fieldLink (md_mt j).1.cls i (T r2).1 (T r2).2.1 (T r2).2.2.1 ∈ md_Tg ∧ parseFieldDescriptor (T r2).2.2.1 = some ty ∧ mm_tyc r3 ty ∧ ((T r2).2.2.2 = true → (md_mt j).1.name = "<init>" ∧ (T r2).1 = (md_mt j).1.cls))
    (h : mm_stepI (md_xa sc) j (.putfield i) nx r1 r2 r3 pc lo st W0 b0 c0 = some (.inl F')) (k : mm_G p l e R s m args below meth c xl D w0 A j bT cT Q F') : mm_G p l e R s m args below meth c xl D w0 A j bT cT Q (pc, lo, st, W0, b0, c0) := by
  subst hn
  simp only [mm_stepI] at h
  split at h
  · split at h
    · rename_i hx
      obtain ⟨W2, hg, h⟩ := Option.map_eq_some_iff.mp h
      cases h
      intro ws tys H locs cells slots ls st' hR0
      obtain ⟨hst, ⟨lv, hls, hlo⟩, hw, hK, hP, hD, hS, hR⟩ := id hR0
      have hst0 := mm_l.un hst
      clear hst
      obtain ⟨v', _, rfl, hv, hst⟩ := hst0
      have hst0 := mm_l.un hst
      clear hst
      obtain ⟨_, _, rfl, hvo, hst⟩ := hst0
      obtain ⟨a, ha, rfl⟩ := mm_v.rr hvo
      obtain ⟨C0, T, N, ty, hc, hk, hl, hpd, htc, hfin⟩ := ho
      unfold mm_put at hg
      split at hg
      · rename_i hkw
        split at hg
        · rename_i hce
          obtain ⟨rfl, hlt, hnf⟩ := hce
          cases hg
          obtain ⟨fs', h1, h2⟩ := hw.ob hx ha hkw
          obtain ⟨hnar, hfit⟩ := mm_nf_ok htc hnf hv
          obtain ⟨hin, ⟨ty0, hty0, -⟩, hnm, -⟩ := K.1 _ _ _ _ hc
          have hlt' : r2 < fs'.length := by rw [h2.len]; exact hlt
          have key : ∀ (H1 : Heap) (locs1 : List Loc), va_P D md_cl (ws.set _ (a, .inr (_, fs'.set r2 v'))) H1 → va_D A (ws.set _ (a, .inr (_, fs'.set r2 v'))) → va_S A s.heap H1 locs1 → W p l e R s m args below meth c H1 locs1 cells slots Q (F0 m (pc + 3) ls _) := fun H1 locs1 hP1 hD1 hS1 =>
            k _ _ _ _ _ _ _ _ (mm_lset hR0 h1 (mm_e.o (h2.set r2 hv)) hP1 hD1 hS1 (fun _ => trivial) hst (st2 := []))
          by_cases hf : (T r2).2.2.2 = true
          · obtain ⟨hi1, hi2⟩ := hfin hf
            exact va_putF C.1 C.2.1 C.2.2.2.2.1 hin ty0 hty0 hnm C.2.2.2.1 hK hP hD hS _ h1 hc r2 hk (C.2.2.2.2.1 _ hl) (fun _ z => z) hf (C.2.2.2.2.2.2.2.2.2.1.trans hi1) hi2 hpd hnar hfit hlt' hd key
          · exact va_put C.1 C.2.1 C.2.2.2.2.1 hin ty0 hty0 hnm C.2.2.2.1 hK hP hD hS _ h1 hc r2 hk (C.2.2.2.2.1 _ hl) (fun _ z => z) (by simpa using hf) hpd hnar hfit hlt' hd key
        · cases hg
      · cases hg
    · cases h
  · cases h
theorem mi_if_acmp (C : mm_C p l R s m args meth c xl A sc j d) {cd : Jvm.ClassFile.ACond} {off : Int} (hd : decode (md_mt j).2.1 pc = .ok (.if_acmp cd off, 3)) (hn : nx = pc + 3) (ht : (pc : Int) + off = (r1 : Int)) (h : mm_stepI (md_xa sc) j (.if_acmp cd off) nx r1 r2 r3 pc lo st W0 b0 c0 = some (.inl F')) (k : mm_G p l e R s m args below meth c xl D w0 A j bT cT Q F') : mm_G p l e R s m args below meth c xl D w0 A j bT cT Q (pc, lo, st, W0, b0, c0) := by
  subst hn
  simp only [mm_stepI] at h
  split at h
  · rename_i y x st0
    split at h
    · rename_i hxy
      obtain ⟨hx1, hy1, hx2, hy2⟩ := hxy
      have hx1 : @LT.lt Nat instLTNat mm_XB x := hx1
      have hy1 : @LT.lt Nat instLTNat mm_XB y := hy1
      have hx2 : @LE.le Nat instLENat x (mm_XB + md_ne) := hx2
      have hy2 : @LE.le Nat instLENat y (mm_XB + md_ne) := hy2
      cases h
      intro ws tys H locs cells slots ls st' hR
      obtain ⟨hst, ⟨lv, hls, hlo⟩, hR⟩ := hR
      have hst0 := mm_l.un hst
      clear hst
      obtain ⟨_, _, rfl, hv, hst⟩ := hst0
      obtain ⟨ay, hay, rfl⟩ := mm_v.rr hv
      have hst0 := mm_l.un hst
      clear hst
      obtain ⟨_, _, rfl, hv, hst⟩ := hst0
      obtain ⟨ax, hax, rfl⟩ := mm_v.rr hv
      cases mm_ad_out hay (by omega)
      cases mm_ad_out hax (by omega)
      have hinj : xl (x - mm_XB) = xl (y - mm_XB) ↔ x = y := by
        refine ⟨fun z => ?_, fun z => by rw [z]⟩
        have h1 := C.2.2.2.2.2.1.2.2.2.2.2.2.2.2.2.2.2.1 (x - mm_XB) (y - mm_XB) (by omega) (by omega) (by omega) (by omega) z
        have h2 : @Eq Nat x y := by omega
        exact h2
      cases cd with
      | eq =>
        refine lv_acmp_eq (rx := some (xl (x - mm_XB))) (ry := some (xl (y - mm_XB))) C.1 C.2.1 hd ht (fun hc => ?_) (fun hc => ?_)
        · have hc2 : x = y := hinj.mp (Option.some.inj hc)
          have k2 := k ws tys H locs cells slots ls _ ⟨hst, ⟨lv, hls, hlo⟩, hR⟩
          simpa [hc2] using k2
        · have hc2 : ¬ x = y := fun z => hc (by rw [z])
          have k2 := k ws tys H locs cells slots ls _ ⟨hst, ⟨lv, hls, hlo⟩, hR⟩
          simpa [hc2] using k2
      | ne =>
        refine lv_acmp_ne (rx := some (xl (x - mm_XB))) (ry := some (xl (y - mm_XB))) C.1 C.2.1 hd ht (fun hc => ?_) (fun hc => ?_)
        · have hc2 : ¬ x = y := fun z => hc (by rw [z])
          have k2 := k ws tys H locs cells slots ls _ ⟨hst, ⟨lv, hls, hlo⟩, hR⟩
          simpa [hc2] using k2
        · have hc2 : x = y := hinj.mp (Option.some.inj hc)
          have k2 := k ws tys H locs cells slots ls _ ⟨hst, ⟨lv, hls, hlo⟩, hR⟩
          simpa [hc2] using k2
    · cases h
  · cases h
theorem mm_isx_l {ws : va_W} : ∀ {vs : List Value}, (∀ v ∈ vs, mm_isx v = true ∧ v.isRef = false) → mm_l xl ws vs vs
  | [], _ => mm_l.nil
  | v :: vs, h => by
    refine mm_l.cons ?_ (mm_isx_l fun z hz => h z (List.mem_cons_of_mem _ hz))
    obtain ⟨h1, h2⟩ := h v List.mem_cons_self
    have h3 := mm_v.x (xl := xl) (ws := ws) h1
    cases v with
    | ref k => cases h2
    | _ => exact h3
/-- b0 counts what may still be made; bT is what the room has, and what is left at the end -/
theorem mi_new (C : mm_C p l R s m args meth c xl A sc j d) (K : mm_dat) {i : Nat} (hd : decode (md_mt j).2.1 pc = .ok (.new i, 3)) (hn : nx = pc + 3) (h3 : r3 = 0)
    (ho : ∃ C T N, md_cl[r1]? = some (C, T, N) ∧ (md_df r1).length = N ∧ Jvm.Cond.classLink (md_mt j).1.cls i C ∈ md_Tg ∧ Jvm.Cond.instantiable C N ∈ md_Tg ∧ Jvm.Cond.initialized C ∈ md_Tg)
    (h : mm_stepI (md_xa sc) j (.new i) nx r1 r2 r3 pc lo st W0 b0 c0 = some (.inl F')) (hb : bT ≤ R.cells + F'.2.2.2.2.1) (hc : cT ≤ R.slots + F'.2.2.2.2.2) (k : mm_G p l e R s m args below meth c xl D w0 A j bT cT Q F') : mm_G p l e R s m args below meth c xl D w0 A j bT cT Q (pc, lo, st, W0, b0, c0) := by
  subst hn
  simp only [mm_stepI] at h
  rw [if_pos h3] at h
  split at h
  · rename_i hr
    obtain ⟨hr1, hr2, hr3⟩ := hr
    cases h
    intro ws tys H locs cells slots ls st' hR
    obtain ⟨hst, ⟨lv, hls, hlo⟩, hw, hK, hP, hD, hS, hbb, hcc⟩ := hR
    obtain ⟨C0, T, N, hci, hN, hl1, hl2, hl3⟩ := ho
    obtain ⟨hin, ⟨ty0, hty0, hdf⟩, -, hxs⟩ := K.1 _ _ _ _ hci
    dsimp only at hb hc hbb hcc
    refine va_new C.1 C.2.1 C.2.2.2.2.1 hin ty0 hty0 C.2.2.2.1 (C.2.2.2.2.1 _ hl1) (C.2.2.2.2.1 _ hl2) (C.2.2.2.2.1 _ hl3) hK hP hD hS C.2.2.2.2.2.2.1 hci hdf (by omega) (by omega) hd (fun q H1 hP1 hD1 hS1 => ?_)
    refine k _ _ _ _ _ _ _ _ ⟨mm_l.cons ⟨q, mm_ad_new hw.1.symm hr3, rfl⟩ (hst.mono mm_le_app), ⟨lv, hls, hlo.mono mm_le_app⟩, hw.app mm_tle.rf (mm_e.o (mm_isx_l hxs)), hK, hP1, hD1, hS1, ?_, ?_⟩
    · show cells + 1 + (b0 - 1) = bT
      omega
    · show slots + N + (c0 - (md_df r1).length) = cT
      omega
  · cases h
theorem mi_newarray (C : mm_C p l R s m args meth c xl A sc j d) (K : mm_dat) {at0 : ArrayType} (hd : decode (md_mt j).2.1 pc = .ok (.newarray at0, 2)) (hn : nx = pc + 2)
    (ho : newarray.typeOf at0 = md_ty r1 ∧ r1 ≤ 3 ∧ Jvm.Cond.arrayClass (md_ty r1) ∈ md_Tg)
    (h : mm_stepI (md_xa sc) j (.newarray at0) nx r1 r2 r3 pc lo st W0 b0 c0 = some (.inl F')) (hb : bT ≤ R.cells + F'.2.2.2.2.1) (hc : cT ≤ R.slots + F'.2.2.2.2.2) (k : mm_G p l e R s m args below meth c xl D w0 A j bT cT Q F') : mm_G p l e R s m args below meth c xl D w0 A j bT cT Q (pc, lo, st, W0, b0, c0) := by
  subst hn
  simp only [mm_stepI] at h
  split at h
  · split at h
    · rename_i n st0 hr
      obtain ⟨hn0, hr1, hr2, hr3, hr4⟩ := hr
      cases h
      intro ws tys H locs cells slots ls st' hR
      obtain ⟨hst, ⟨lv, hls, hlo⟩, hw, hK, hP, hD, hS, hbb, hcc⟩ := hR
      have hst0 := mm_l.un hst
      clear hst
      obtain ⟨_, _, rfl, hv, hst⟩ := hst0
      cases mm_v.ri hv
      obtain ⟨hty, hr5, hac⟩ := ho
      dsimp only at hb hc hbb hcc
      have hcell : ∀ cA : ClassId, vp_cell cA (n.toNatClampNeg, if r1 = 1 then .inr (.inl (fun _ => 0)) else .inl (fun _ => 0)) = arrV cA n.toNatClampNeg (fun _ => defaultValue (md_ty r1)) := by
        intro cA
        rcases (show r1 = 0 ∨ r1 = 1 ∨ r1 = 2 ∨ r1 = 3 by omega) with rfl | rfl | rfl | rfl
        · rw [K.2.1]; rfl
        · rw [K.2.2.1]; rfl
        · rw [K.2.2.2.1]; rfl
        · rw [K.2.2.2.2.1]; rfl
      have hbytes : n.toNatClampNeg * componentBytes (md_ty r1) ≤ 536870912 := by
        have hcb : componentBytes (md_ty r1) ≤ 8 := by
          rcases (show r1 = 0 ∨ r1 = 1 ∨ r1 = 2 ∨ r1 = 3 by omega) with rfl | rfl | rfl | rfl
          · rw [K.2.1]; decide
          · rw [K.2.2.1]; decide
          · rw [K.2.2.2.1]; decide
          · rw [K.2.2.2.2.1]; decide
        calc n.toNatClampNeg * componentBytes (md_ty r1) ≤ 1000000 * 8 := Nat.mul_le_mul hr4 hcb
          _ ≤ 536870912 := Nat.le_of_ble_eq_true rfl
      refine va_newa (ty := md_ty r1) C.1 C.2.1 (by rw [hty]; exact C.2.2.2.2.1 _ hac) hty hK hP hD hS C.2.2.2.2.2.2.1 hcell hn0 rfl hbytes (by omega) (by omega) hd (fun q cA H1 hK1 hP1 hD1 hS1 => ?_)
      refine k _ _ _ _ _ _ _ _ ⟨mm_l.cons ⟨q, mm_ad_new hw.1.symm hr3, rfl⟩ (hst.mono mm_le_app), ⟨lv, hls, hlo.mono mm_le_app⟩, hw.app mm_tle.app ?_, hK1, hP1, hD1, hS1, ?_, ?_⟩
      · have ht0 : (tys ++ [(cA, md_ty r1)])[tys.length]? = some (cA, md_ty r1) := by rw [List.getElem?_append_right (Nat.le_refl _), Nat.sub_self]; rfl
        rcases (show r1 = 1 ∨ (r1 = 0 ∨ r1 = 2 ∨ r1 = 3) by omega) with h1 | h1
        · subst h1
          exact mm_e.j ht0 rfl
        · have h2 : ¬ r1 = 1 := by omega
          simp only [if_neg h2]
          exact mm_e.i ht0 h1
      · show cells + 1 + (b0 - 1) = bT
        omega
      · show slots + n.toNatClampNeg + (c0 - n.toNatClampNeg) = cT
        omega
    · cases h
  · cases h
theorem mi_anewarray (C : mm_C p l R s m args meth c xl A sc j d) {i : Nat} (hd : decode (md_mt j).2.1 pc = .ok (.anewarray i, 3)) (hn : nx = pc + 3)
    (ho : 4 ≤ r1 ∧ ∃ E, md_ty r1 = .object E ∧ Jvm.Cond.classLink (md_mt j).1.cls i E ∈ md_Tg ∧ E ∈ md_ao)
    (h : mm_stepI (md_xa sc) j (.anewarray i) nx r1 r2 r3 pc lo st W0 b0 c0 = some (.inl F')) (hb : bT ≤ R.cells + F'.2.2.2.2.1) (hc : cT ≤ R.slots + F'.2.2.2.2.2) (k : mm_G p l e R s m args below meth c xl D w0 A j bT cT Q F') : mm_G p l e R s m args below meth c xl D w0 A j bT cT Q (pc, lo, st, W0, b0, c0) := by
  subst hn
  simp only [mm_stepI] at h
  split at h
  · split at h
    · rename_i n st0 hr
      obtain ⟨hn0, hr1, hr2, hr3, hr4⟩ := hr
      cases h
      intro ws tys H locs cells slots ls st' hR
      obtain ⟨hst, ⟨lv, hls, hlo⟩, hw, hK, hP, hD, hS, hbb, hcc⟩ := hR
      have hst0 := mm_l.un hst
      clear hst
      obtain ⟨_, _, rfl, hv, hst⟩ := hst0
      cases mm_v.ri hv
      obtain ⟨hge, E, hE, hl, hao⟩ := ho
      dsimp only at hb hc hbb hcc
      refine va_newq C.1 C.2.1 C.2.2.2.1 (C.2.2.2.2.1 _ hl) (C.2.2.2.2.2.1.2.2.2.2.2.2.2.1 _ hao) hK hP hD hS C.2.2.2.2.2.2.1 hn0 rfl (by omega) (by omega) (by omega) hd (fun q cA H1 hK1 hP1 hD1 hS1 => ?_)
      refine k _ _ _ _ _ _ _ _ ⟨mm_l.cons ⟨q, mm_ad_new hw.1.symm hr3, rfl⟩ (hst.mono mm_le_app), ⟨lv, hls, hlo.mono mm_le_app⟩, hw.app mm_tle.app ?_, hK1, hP1, hD1, hS1, ?_, ?_⟩
      · have ht0 : (tys ++ [(cA, FieldType.object E)])[tys.length]? = some (cA, md_ty r1) := by rw [List.getElem?_append_right (Nat.le_refl _), Nat.sub_self, hE]; rfl
        exact mm_e.r ht0 (fun _ => rfl) hge
      · show cells + 1 + (b0 - 1) = bT
        omega
      · show slots + n.toNatClampNeg + (c0 - n.toNatClampNeg) = cT
        omega
    · cases h
  · cases h
end MK
end
section
/-! ===== calls ===== -/
def mm_vo (xl : Nat → Nat) (ws : va_W) : Option Value → Option Value → Prop
  | none, r => r = none
  | some v, r => ∃ v', r = some v' ∧ mm_v xl ws v v'
def mm_End (xl : Nat → Nat) (D : va_G) (ws : va_W) (sz : Nat) (W2 : mm_W) (t : State) (ws2 : va_W) (tys2 : List (ClassId × FieldType)) : Prop :=
  mm_w xl ws tys2 W2 ws2 ∧ va_K D md_cl tys2 t ∧ va_P D md_cl ws2 t.heap ∧ va_D (va_A ws sz) ws2
def mm_Qr (xl : Nat → Nat) (D : va_G) (ws : va_W) (sz : Nat) (o : mm_O) : Array Value → State → Outcome → State → Prop := fun _ st oc t =>
  (∃ (v v' : Option Value) (ws2 : va_W) (tys2 : List (ClassId × FieldType)), o.1 = .inl v ∧ oc = .returned v' ∧ mm_vo xl ws2 v v' ∧ mm_End xl D ws sz o.2.1 t ws2 tys2) ∧ va_F (va_A ws sz) st t
def mm_Qx (xl : Nat → Nat) (D : va_G) (ws : va_W) (sz : Nat) (o : mm_O) : String → State → State → Prop := fun E st t =>
  (∃ (n : Nat) (ws2 : va_W) (tys2 : List (ClassId × FieldType)), o.1 = .inr n ∧ E = md_en n ∧ mm_End xl D ws sz o.2.1 t ws2 tys2) ∧ va_F (va_A ws sz) st t
def mm_Pc (xl : Nat → Nat) (D : va_G) (sc : Nat × (Nat → Int32)) (ws : va_W) (tys : List (ClassId × FieldType)) (sz : Nat) (U : State) : Prop :=
  U.heap.size = sz ∧ va_K D md_cl tys U ∧ va_P D md_cl ws U.heap ∧ va_D (fun _ => True) ws ∧ mm_X xl (va_A ws sz) sc U
/-- method j, called with these arguments in this world, ends as o says -/
def mm_M (l : Launch) (sc : Nat × (Nat → Int32)) (d j : Nat) (as : List Value) (W0 : mm_W) (b0 c0 : Nat) (o : mm_O) : Prop :=
  ∀ (xl : Nat → Nat) (D : va_G) (ws : va_W) (tys : List (ClassId × FieldType)) (as' : List Value) (sz : Nat), mm_l xl ws as as' → mm_w xl ws tys W0 ws →
    vx_Met l (md_mt j).1 (mm_ws j) (mm_rm d (b0 - o.2.2.1) (c0 - o.2.2.2)) (va_Pc as' (mm_Pc xl D sc ws tys sz)) (mm_Qr xl D ws sz o) (mm_Qx xl D ws sz o) (b0 - o.2.2.1) (c0 - o.2.2.2) (va_A ws sz)
theorem mm_blind (K : mm_dat) {xl : Nat → Nat} {D : va_G} {sc : Nat × (Nat → Int32)} {ws : va_W} {tys : List (ClassId × FieldType)} {sz : Nat} {as' : List Value} : FrameBlind (va_Pc as' (mm_Pc xl D sc ws tys sz)) :=
  fun a U g mk q => ⟨q.1, q.2.1, va_K.moved (u := U) (U := U.calling g mk a) (Vm.Alike.refl U.vm) q.2.2.1, q.2.2.2.1, q.2.2.2.2.1, mm_X.same (u := U) (U := U.calling g mk a) K rfl rfl q.2.2.2.2.2⟩
theorem mm_toMet {l : Launch} {y : MethodName} {ws : List Jvm.Cond} {rm : Room} {Pc : Array Value → State → Prop} {Qc : Array Value → State → Outcome → State → Prop} {XC : String → State → State → Prop} {mc ms : Nat} {free : Addr → Prop}
    (h : vx_Met l y ws rm Pc Qc XC mc ms free) (hX : ∀ E st t, ¬ XC E st t) : Met l y ws rm Pc Qc mc ms free := by
  intro p e h1 h2 h3 s m args below hf happ hP hK
  obtain ⟨n, o, a1, a2, a3, a4⟩ := h p e h1 h2 h3 s m args below hf happ hP hK
  refine ⟨n, o, a1, a2, a3, ?_⟩
  rcases a4 with a4 | ⟨q, -, E, ce, L, hx, -⟩
  · exact a4
  · exact absurd hx (hX _ _ _)
section MC
variable {p : Program} {l : Launch} {e : Env} {R : Room} {s : State} {m : MethodId} {args : Array Value} {below : List Frame} {meth : Method} {c : Code} {xl : Nat → Nat} {D : va_G} {w0 : va_W} {A : Nat → Prop} {sc : Nat × (Nat → Int32)} {j d bT cT : Nat} {Q : State → Prop} {nx r1 r2 r3 pc : Nat} {lo : List (Nat × Value)} {st : List Value} {W0 : mm_W} {b0 c0 : Nat} {F' : mm_F}
variable {ws : va_W} {tys : List (ClassId × FieldType)} {H : Heap} {locs : List Loc} {cells slots : Nat} {ls : Array Slot} {st' rest' st0 : List Value} {G : mm_F} {o : mm_O} {a : Array Value}
theorem mm_hA (hD : va_D A ws) (hS : va_S A s.heap H locs) (hall : ∀ q, s.heap.size ≤ q → A q) : ∀ q, va_A ws H.size q → A q := by
  intro q h
  rcases h with ⟨k, e, h⟩ | h
  · exact hD.2 k (q, e) h
  · exact hall q (Nat.le_trans hS.1 h)
/-- behind a call -/
theorem mm_run (C : mm_C p l R s m args meth c xl A sc j d) (hR : mm_R xl D w0 s A (md_mt j).2.2.1 bT cT G ws tys H locs cells slots ls rest')
    (hr : vx_Run p l e R s m args below meth c H locs cells slots (G.2.2.2.2.1 - o.2.2.1) (G.2.2.2.2.2 - o.2.2.2) (F0 m pc ls st0) rest' (mm_Qr xl D ws H.size o a) (mm_Qx xl D ws H.size o) (va_A ws H.size))
    (hb : o.2.2.1 ≤ G.2.2.2.2.1) (hc : o.2.2.2 ≤ G.2.2.2.2.2) (hpc : G.1 = pc)
    (k : ∀ v, o.1 = .inl v → mm_G p l e R s m args below meth c xl D w0 A j bT cT Q (pc + 3, G.2.1, v.toList ++ G.2.2.1, o.2.1, o.2.2.1, o.2.2.2))
    (kx : ∀ n, o.1 = .inr n → mm_Gx p l e R s m args below meth c xl D w0 A j bT cT Q n (G.1, G.2.1, G.2.2.1, o.2.1, o.2.2.1, o.2.2.2)) :
    W p l e R s m args below meth c H locs cells slots Q (F0 m pc ls st0) := by
  subst hpc
  obtain ⟨hst, ⟨lv, hls, hlo⟩, hw, hK, hP, hD, hS, hbb, hcc⟩ := hR
  have hA := mm_hA hD hS C.2.2.2.2.2.2.1
  intro T hT X
  rcases hr T hT X with ⟨v, st₀, t, T', L, h0, X', hL, e1, e2, ⟨⟨v0, v', ws2, tys2, ho, hv, hvo, hw2, hK2, hP2, hD2⟩, hF⟩, hgo⟩ | ⟨q, st₀, t, T', L, E, ce, h0, X', hL, e1, e2, ⟨⟨n, ws2, tys2, ho, hE, hw2, hK2, hP2, hD2⟩, hF⟩, hce, hcv, hcl, hgo⟩
  · cases hv
    have hle := hw2.2.2
    have hw2 : mm_w xl w0 tys2 o.2.1 ws2 := ⟨hw2.1, hw2.2.1, hw.2.2.tr hle⟩
    obtain ⟨k1, k2, k3⟩ := vx_keep h0 e1 hS (fun q _ z => hA q z) hA hL hF
    have hvm : s.vm.Alike t.vm := by rw [← e2]; exact X'.warmed.alike
    have hstv : mm_l xl ws2 (v0.toList ++ G.2.2.1) (v.toList ++ rest') := by
      refine mm_l.app ?_ (hst.mono hle)
      cases v0 with
      | none => rw [show v = none from hvo]; exact mm_l.nil
      | some z => obtain ⟨z', rfl, hz⟩ := hvo; exact mm_l.cons hz mm_l.nil
    obtain ⟨t2, a1, b1⟩ := k v0 ho ws2 tys2 T'.heap (locs ++ L) _ _ ls _ ⟨hstv, ⟨lv, hls, hlo.mono hle⟩, hw2, hK2.moved hvm.symm, by rw [e1]; exact hP2, hD2.weaken (fun _ _ _ z => hA _ z), k3, by show cells + (G.2.2.2.2.1 - o.2.2.1) + o.2.2.1 = bT; omega, by show slots + (G.2.2.2.2.2 - o.2.2.2) + o.2.2.2 = cT; omega⟩ T' rfl X'
    exact ⟨t2, hgo t2 a1, b1⟩
  · have hle := hw2.2.2
    have hw2 : mm_w xl w0 tys2 o.2.1 ws2 := ⟨hw2.1, hw2.2.1, hw.2.2.tr hle⟩
    obtain ⟨k1, k2, k3⟩ := vx_keep h0 e1 hS (fun q _ z => hA q z) hA hL hF
    have hvm : s.vm.Alike t.vm := by rw [← e2]; exact X'.warmed.alike
    subst hE
    obtain ⟨t2, a1, b1⟩ := kx n ho ws2 tys2 T'.heap (locs ++ L) _ _ ls _ q ce ⟨hst.mono hle, ⟨lv, hls, hlo.mono hle⟩, hw2, hK2.moved hvm.symm, by rw [e1]; exact hP2, hD2.weaken (fun _ _ _ z => hA _ z), k3, by show cells + (G.2.2.2.2.1 - o.2.2.1) + o.2.2.1 = bT; omega, by show slots + (G.2.2.2.2.2 - o.2.2.2) + o.2.2.2 = cT; omega⟩ (by rw [e1]; exact hce) hcv hcl T' rfl X'
    exact ⟨t2, hgo.trans a1, b1⟩
/-- a callee's own tables -/
def mm_cal (r1 n : Nat) : Prop :=
  (if (md_mt r1).2.2.2.2 = [] then Jvm.Cond.code (md_mt r1).1 (md_mt r1).2.1 (md_mt r1).2.2.1 (md_mt r1).2.2.2.1 else Jvm.Cond.codeWith (md_mt r1).1 (md_mt r1).2.1 (md_mt r1).2.2.1 (md_mt r1).2.2.2.1 (md_mt r1).2.2.2.2) ∈ md_Tg ∧
  (md_mt r1).2.2.1 ≤ 21 ∧ ((md_mt r1).1.cls ≠ "java/lang/invoke/MethodHandle" ∧ (md_mt r1).1.cls ≠ "java/lang/invoke/VarHandle" ∧ (parseMethodDescriptor (md_mt r1).1.desc).map (fun d => d.parameters.length) = some n)
def mm_rcv (r3 : Nat) (E : String) : Prop := (r3 < 1000 ∧ ∃ T N, md_cl[r3]? = some (E, T, N)) ∨ (1000 ≤ r3 ∧ md_xcn (r3 - 1000) = E)
theorem mm_recv (C : mm_C p l R s m args meth c xl A sc j d) (K : mm_dat) (hw : mm_w xl w0 tys W0 ws) (hK : va_K D md_cl tys s) (hP : va_P D md_cl ws H) (hS : va_S A s.heap H locs) {k av : Nat} (ha : mm_ad xl ws k = some av) (hc : mm_cls W0 k = some r3) {E : String} (hr : mm_rcv r3 E) :
    ∃ cell : Cell, H[av]? = some cell ∧ cell.vm.isStatics = false ∧ s.vm.findClass E = some cell.cls := by
  rcases mm_cls_in hc with ⟨hx, fs, hk⟩ | ⟨hx, q, hq, hn⟩
  · obtain ⟨fs', h1, -⟩ := hw.ob hx ha hk
    rcases hr with ⟨-, T, N, hcl⟩ | ⟨hge, -⟩
    · exact va_recv hK hP hcl h1
    · obtain ⟨r, hr2, -⟩ := hP _ _ h1
      exact absurd (K.2.2.2.2.2.2.2.2 _ _ hr2) (by omega)
  · rcases hr with ⟨hlt, -⟩ | ⟨hge, hE⟩
    · omega
    · have hq2 : r3 - 1000 = q := by omega
      rw [hq2] at hE
      cases mm_ad_out ha hx
      have hO := C.2.2.2.2.2.1.2.1 _ _ hq
      rw [hE] at hO
      exact va_Orecv hO hS
theorem mm_good (K : mm_dat) {L : List Jvm.Cond} (hL : ∀ w ∈ L, w ∈ md_Tg) {n : Nat} (hc : mm_cal r1 n) : GoodIn md_Tg (L ++ mm_ws r1) := by
  intro w hw
  rcases List.mem_append.mp hw with h | h
  · exact ⟨hL w h, good_of_word (K.2.2.2.2.2.2.2.1 w (hL w h))⟩
  · rcases List.mem_cons.mp h with rfl | h
    · exact ⟨hc.1, good_of_word (K.2.2.2.2.2.2.2.1 _ hc.1)⟩
    · exact ⟨h, good_of_word (K.2.2.2.2.2.2.2.1 w h)⟩
theorem mm_ws0 (h : (md_mt r1).2.2.2.2 = []) : mm_ws r1 = Jvm.Cond.code (md_mt r1).1 (md_mt r1).2.1 (md_mt r1).2.2.1 (md_mt r1).2.2.2.1 :: md_Tg := by unfold mm_ws; rw [if_pos h]
theorem mm_ws1 (h : ¬ (md_mt r1).2.2.2.2 = []) : mm_ws r1 = Jvm.Cond.codeWith (md_mt r1).1 (md_mt r1).2.1 (md_mt r1).2.2.1 (md_mt r1).2.2.2.1 (md_mt r1).2.2.2.2 :: md_Tg := by unfold mm_ws; rw [if_neg h]
/-- what the callee's start needs -/
theorem mm_PS (C : mm_C p l R s m args meth c xl A sc j d) (K : mm_dat) (hK : va_K D md_cl tys s) (hP : va_P D md_cl ws H) (hD : va_D A ws) (hS : va_S A s.heap H locs) {As : List Value} : PreS s H (va_Pc As (mm_Pc xl D sc ws tys H.size)) As :=
  ⟨mm_blind K, fun U hU hW => ⟨rfl, by rw [hU], hK.moved hW.alike, by rw [hU]; exact hP, hD.weaken (fun _ _ _ _ => trivial), mm_X.call K hS hU hW (mm_hA hD hS C.2.2.2.2.2.2.1) C.2.2.2.2.2.1⟩⟩
theorem mm_PV (C : mm_C p l R s m args meth c xl A sc j d) (K : mm_dat) (hK : va_K D md_cl tys s) (hP : va_P D md_cl ws H) (hD : va_D A ws) (hS : va_S A s.heap H locs) {As : List Value} {av : Nat} {E : String} (hrc : ∃ cell : Cell, H[av]? = some cell ∧ cell.vm.isStatics = false ∧ s.vm.findClass E = some cell.cls) : PreV s H E av (va_Pc (.ref av :: As) (mm_Pc xl D sc ws tys H.size)) As :=
  ⟨mm_blind K, hrc, fun U hU hW => ⟨rfl, by rw [hU], hK.moved hW.alike, by rw [hU]; exact hP, hD.weaken (fun _ _ _ _ => trivial), mm_X.call K hS hU hW (mm_hA hD hS C.2.2.2.2.2.2.1) C.2.2.2.2.2.1⟩⟩
theorem mm_fix (C : mm_C p l R s m args meth c xl A sc j d) : CallFix p m c (md_mt j).2.1 (md_mt j).2.2.1 s args md_Tg (md_mt j).1.cls := ⟨C.1, C.2.1, C.2.2.1, C.2.2.2.1, C.2.2.2.2.1⟩
set_option maxRecDepth 100000 in
theorem mm_arith {x y z : Nat} (h : x ≤ 21) (h2 : 40 * (y + 1) + 300 ≤ z) : 8 + (x + 11) + (40 * y + 300) ≤ z := by omega
theorem mm_room (C : mm_C p l R s m args meth c xl A sc j (d + 1)) {n mc ms : Nat} (hc : mm_cal r1 n) : (mm_rm d mc ms).frames + 1 ≤ R.frames ∧ 8 + ((md_mt r1).2.2.1 + 11) + (mm_rm d mc ms).locals ≤ R.locals := by
  obtain ⟨-, -, -, -, -, -, -, -, -, -, -, h1, h2, -⟩ := C
  have h3 := hc.2.1
  constructor
  · have h4 : (mm_rm d mc ms).frames = d + 12 := rfl
    rw [h4]
    omega
  · exact mm_arith h3 h2
theorem mm_cut {n : Nat} (hst : mm_l xl ws st st') (hlen : ¬ st.length < n) : mm_l xl ws (st.take n).reverse (st'.take n).reverse ∧ mm_l xl ws (st.drop n) (st'.drop n) ∧ (st'.take n).reverse.length = n ∧ st' = (st'.take n).reverse.reverse ++ st'.drop n := by
  obtain ⟨h1, h2⟩ := hst.split n
  have hl := hst.len
  refine ⟨h1.rev, h2, ?_, ?_⟩
  · rw [List.length_reverse, List.length_take]; omega
  · rw [List.reverse_reverse, List.take_append_drop]
/-- what a call's step was -/
theorem mm_call0 {nx2 : Nat} {as : List Value} {fl : Bool} {j2 : Nat} (h : mm_call r1 r2 r3 pc nx lo st W0 b0 c0 = some (.inr (.inr (j2, as, nx2, fl, G)))) :
    ¬ st.length < r2 % 16 ∧ j2 = r1 ∧ nx2 = nx ∧
    ((r2 / 16 = 1 ∧ fl = true ∧ as = (st.take (r2 % 16)).reverse ∧ G = (pc, lo, st.drop (r2 % 16), W0, b0, c0) ∧ ((st.drop (r2 % 16)).map fun v => v.category).sum ≤ 8) ∨
     (∃ k rest, ((r2 / 16 = 0 ∧ fl = true) ∨ (r2 / 16 = 2 ∧ fl = false)) ∧ st.drop (r2 % 16) = .ref k :: rest ∧ mm_cls W0 k = some r3 ∧ as = .ref k :: (st.take (r2 % 16)).reverse ∧ G = (pc, lo, rest, W0, b0, c0) ∧ (rest.map fun v => v.category).sum ≤ 8)) := by
  unfold mm_call at h
  split at h
  · cases h
  · rename_i hl
    refine ⟨hl, ?_⟩
    dsimp only at h
    split at h
    · rename_i hk
      split at h
      · rename_i k rest hrest
        split at h
        · rename_i hc
          cases h
          exact ⟨rfl, rfl, Or.inr ⟨k, rest, Or.inl ⟨hk, rfl⟩, hrest, hc.1, rfl, rfl, hc.2⟩⟩
        · cases h
      · cases h
    · rename_i hk
      split at h
      · rename_i k rest hrest
        split at h
        · rename_i hc
          cases h
          exact ⟨rfl, rfl, Or.inr ⟨k, rest, Or.inr ⟨hk, rfl⟩, hrest, hc.1, rfl, rfl, hc.2⟩⟩
        · cases h
      · cases h
    · rename_i hk
      split at h
      · rename_i hc
        cases h
        exact ⟨rfl, rfl, Or.inl ⟨hk, rfl, rfl, rfl, hc⟩⟩
      · cases h
    · split at h
      · split at h <;> cases h
      · cases h
    · split at h
      · split at h
        · obtain ⟨W2, -, h⟩ := Option.map_eq_some_iff.mp h
          cases h
        · cases h
      · cases h
    · cases h
/-- invokevirtual: the method itself (may throw), or one that is inherited -/
theorem mi_callV (C : mm_C p l R s m args meth c xl A sc j (d + 1)) (K : mm_dat) {i : Nat} (hd : decode (md_mt j).2.1 pc = .ok (.invokevirtual i, 3)) (hn : nx = pc + 3) (hcal : mm_cal r1 (r2 % 16)) (hh : (md_mt r1).2.2.2.2 = []) (hk1 : r2 / 16 ≠ 1)
    (ho0 : r2 / 16 = 0 → mm_rcv r3 (md_mt r1).1.cls ∧ (∀ w ∈ ([.methodLink (md_mt j).1.cls i (md_mt r1).1, .instanceMethod (md_mt r1).1, .selects (md_mt r1).1.cls (md_mt r1).1 (md_mt r1).1, .initialized (md_mt r1).1.cls] : List Jvm.Cond), w ∈ md_Tg))
    (ho2 : r2 / 16 = 2 → ∃ x : MethodName, (md_mt r1).1 = ⟨(md_mt r1).1.cls, x.name, x.desc⟩ ∧ mm_rcv r3 x.cls ∧ (∀ w ∈ ([.methodLink (md_mt j).1.cls i x, .sameMethod x.cls (md_mt r1).1.cls x.name x.desc, .selects x.cls x (md_mt r1).1, .instanceMethod (md_mt r1).1, .initialized (md_mt r1).1.cls] : List Jvm.Cond), w ∈ md_Tg))
    {nx2 : Nat} {as : List Value} {fl : Bool} {j2 : Nat} (h : mm_stepI (md_xa sc) j (.invokevirtual i) nx r1 r2 r3 pc lo st W0 b0 c0 = some (.inr (.inr (j2, as, nx2, fl, G))))
    (hM : mm_M l sc d j2 as G.2.2.2.1 G.2.2.2.2.1 G.2.2.2.2.2 o) (hfl : fl = false → ∃ v, o.1 = .inl v) (hb : o.2.2.1 ≤ G.2.2.2.2.1) (hc : o.2.2.2 ≤ G.2.2.2.2.2) (hbR : bT ≤ R.cells + o.2.2.1) (hcR : cT ≤ R.slots + o.2.2.2)
    (k : ∀ v, o.1 = .inl v → mm_G p l e R s m args below meth c xl D w0 A j bT cT Q (nx2, G.2.1, v.toList ++ G.2.2.1, o.2.1, o.2.2.1, o.2.2.2))
    (kx : ∀ n, o.1 = .inr n → mm_Gx p l e R s m args below meth c xl D w0 A j bT cT Q n (G.1, G.2.1, G.2.2.1, o.2.1, o.2.2.1, o.2.2.2)) :
    mm_G p l e R s m args below meth c xl D w0 A j bT cT Q (pc, lo, st, W0, b0, c0) := by
  subst hn
  simp only [mm_stepI] at h
  have h9 := mm_call0 h
  clear h
  obtain ⟨hlen, rfl, rfl, h⟩ := h9
  intro ws tys H locs cells slots ls st' hR
  obtain ⟨hst, ⟨lv, hls, hlo⟩, hw, hK, hP, hD, hS, hbb, hcc⟩ := hR
  dsimp only at hst hlo hw hbb hcc
  obtain ⟨hAs, hrs, hlenA, hsplit⟩ := mm_cut hst hlen
  rcases h with ⟨hk, -⟩ | ⟨kr, rest, hkind, hdrop, hcls, rfl, rfl, hsum⟩
  · exact absurd hk hk1
  · rw [hdrop] at hrs
    obtain ⟨_, rest', hrest', hv, hrs⟩ := mm_l.un hrs
    obtain ⟨av, hav, rfl⟩ := mm_v.rr hv
    rw [hrest'] at hsplit
    dsimp only at hM hb hc k kx
    have hsum' : 2 * (F0 m pc ls st').monitorRoom + (rest'.map fun v => v.category).sum ≤ 8 := by
      rw [hrs.cats]
      show 2 * 0 + _ ≤ 8
      omega
    have hMM := hM xl D ws tys (.ref av :: (st'.take (r2 % 16)).reverse) H.size (mm_l.cons hv hAs) ⟨hw.1, hw.2.1, mm_le.rf⟩
    have hf : cells + (b0 - o.2.2.1) ≤ R.cells ∧ slots + (c0 - o.2.2.2) ≤ R.slots := by constructor <;> omega
    have hRG : mm_R xl D w0 s A (md_mt j).2.2.1 bT cT (pc, lo, rest, W0, b0, c0) ws tys H locs cells slots ls rest' := ⟨hrs, ⟨lv, hls, hlo⟩, hw, hK, hP, hD, hS, hbb, hcc⟩
    rcases hkind with ⟨h0, -⟩ | ⟨h2, rfl⟩
    · obtain ⟨hrc, hws⟩ := ho0 h0
      exact mm_run (G := (pc, lo, rest, W0, b0, c0)) (o := o) C hRG (vx_runV (As := (st'.take (r2 % 16)).reverse) (mm_fix C) hMM (cwV (r2 % 16) C.2.2.2.2.1 (mm_good K hws hcal) (mm_ws0 hh) rfl rfl ⟨rfl, hcal.2.2⟩ (mm_room C hcal)) (mm_PV C K hK hP hD hS (mm_recv C K hw hK hP hS hav hcls hrc)) rfl hlenA hls.1 hsplit hsum' hd hf) hb hc rfl k kx
    · obtain ⟨x, hxy, hrc, hws⟩ := ho2 h2
      obtain ⟨v, hv⟩ := hfl rfl
      have hMet := mm_toMet hMM (fun E st t z => by obtain ⟨⟨n, _, _, hz, -⟩, -⟩ := z; rw [hv] at hz; cases hz)
      have hdesc : (md_mt j2).1.desc = x.desc := by rw [hxy]
      exact mm_run (G := (pc, lo, rest, W0, b0, c0)) (o := o) C hRG (fun T hT X => Or.inl (va_runU (As := (st'.take (r2 % 16)).reverse) (mm_fix C) hMet (va_cwU (C := x.cls) (x := x) (r2 % 16) C.2.2.2.2.1 (mm_good K hws hcal) (mm_ws0 hh) rfl rfl hxy ⟨hcal.2.2.1, hcal.2.2.2.1, hdesc ▸ hcal.2.2.2.2⟩ (mm_room C hcal)) (mm_PV C K hK hP hD hS (mm_recv C K hw hK hP hS hav hcls hrc)) rfl hlenA hls.1 hsplit hsum' hd hf T hT X)) hb hc rfl k kx
/-- invokestatic -/
theorem mi_callS (C : mm_C p l R s m args meth c xl A sc j (d + 1)) (K : mm_dat) {i : Nat} (hd : decode (md_mt j).2.1 pc = .ok (.invokestatic i, 3)) (hn : nx = pc + 3) (hk1 : r2 / 16 = 1) (hcal : mm_cal r1 (r2 % 16))
    (hws : ∀ w ∈ ([.methodLink (md_mt j).1.cls i (md_mt r1).1, .static (md_mt r1).1, .initialized (md_mt r1).1.cls] : List Jvm.Cond), w ∈ md_Tg)
    {nx2 : Nat} {as : List Value} {fl : Bool} {j2 : Nat} (h : mm_stepI (md_xa sc) j (.invokestatic i) nx r1 r2 r3 pc lo st W0 b0 c0 = some (.inr (.inr (j2, as, nx2, fl, G))))
    (hM : mm_M l sc d j2 as G.2.2.2.1 G.2.2.2.2.1 G.2.2.2.2.2 o) (hb : o.2.2.1 ≤ G.2.2.2.2.1) (hc : o.2.2.2 ≤ G.2.2.2.2.2) (hbR : bT ≤ R.cells + o.2.2.1) (hcR : cT ≤ R.slots + o.2.2.2)
    (k : ∀ v, o.1 = .inl v → mm_G p l e R s m args below meth c xl D w0 A j bT cT Q (nx2, G.2.1, v.toList ++ G.2.2.1, o.2.1, o.2.2.1, o.2.2.2))
    (kx : ∀ n, o.1 = .inr n → mm_Gx p l e R s m args below meth c xl D w0 A j bT cT Q n (G.1, G.2.1, G.2.2.1, o.2.1, o.2.2.1, o.2.2.2)) :
    mm_G p l e R s m args below meth c xl D w0 A j bT cT Q (pc, lo, st, W0, b0, c0) := by
  subst hn
  simp only [mm_stepI] at h
  have h9 := mm_call0 h
  clear h
  obtain ⟨hlen, rfl, rfl, h⟩ := h9
  intro ws tys H locs cells slots ls st' hR
  obtain ⟨hst, ⟨lv, hls, hlo⟩, hw, hK, hP, hD, hS, hbb, hcc⟩ := hR
  dsimp only at hst hlo hw hbb hcc
  obtain ⟨hAs, hrs, hlenA, hsplit⟩ := mm_cut hst hlen
  rcases h with ⟨-, -, rfl, rfl, hsum⟩ | ⟨kr, rest, hkind, -⟩
  · dsimp only at hM hb hc k kx
    have hsum' : 2 * (F0 m pc ls st').monitorRoom + ((st'.drop (r2 % 16)).map fun v => v.category).sum ≤ 8 := by
      rw [hrs.cats]
      show 2 * 0 + _ ≤ 8
      omega
    have hMM := hM xl D ws tys (st'.take (r2 % 16)).reverse H.size hAs ⟨hw.1, hw.2.1, mm_le.rf⟩
    have hf : cells + (b0 - o.2.2.1) ≤ R.cells ∧ slots + (c0 - o.2.2.2) ≤ R.slots := by constructor <;> omega
    have hRG : mm_R xl D w0 s A (md_mt j).2.2.1 bT cT (pc, lo, st.drop (r2 % 16), W0, b0, c0) ws tys H locs cells slots ls (st'.drop (r2 % 16)) := ⟨hrs, ⟨lv, hls, hlo⟩, hw, hK, hP, hD, hS, hbb, hcc⟩
    by_cases hh : (md_mt j2).2.2.2.2 = []
    · exact mm_run (G := (pc, lo, st.drop (r2 % 16), W0, b0, c0)) (o := o) C hRG (vx_runS (As := (st'.take (r2 % 16)).reverse) (mm_fix C) hMM (va_cwS (r2 % 16) C.2.2.2.2.1 (mm_good K hws hcal) (mm_ws0 hh) rfl rfl hcal.2.2 (mm_room C hcal)) (mm_PS C K hK hP hD hS) rfl hlenA hls.1 hsplit hsum' hd hf) hb hc rfl k kx
    · exact mm_run (G := (pc, lo, st.drop (r2 % 16), W0, b0, c0)) (o := o) C hRG (vx_runSX (As := (st'.take (r2 % 16)).reverse) (mm_fix C) hMM (vx_cwSW (r2 % 16) C.2.2.2.2.1 (mm_good K hws hcal) (mm_ws1 hh) rfl rfl hcal.2.2 (mm_room C hcal)) (mm_PS C K hK hP hD hS) rfl hlenA hls.1 hsplit hsum' hd hf) hb hc rfl k kx
  · exfalso
    omega
/-- invokespecial of a constructor -/
theorem mi_callI (C : mm_C p l R s m args meth c xl A sc j (d + 1)) (K : mm_dat) {i : Nat} (hd : decode (md_mt j).2.1 pc = .ok (.invokespecial i, 3)) (hn : nx = pc + 3) (hk2 : r2 / 16 = 2) (hcal : mm_cal r1 (r2 % 16)) (hh : (md_mt r1).2.2.2.2 = []) (hret : (md_mt r1).2.2.2.1 = none) (hnm : (md_mt r1).1.name = "<init>")
    (hws : ∀ w ∈ ([.instanceMethod (md_mt r1).1, .initialized (md_mt r1).1.cls] : List Jvm.Cond), w ∈ md_Tg)
    (hlk : Jvm.Cond.methodLink (md_mt j).1.cls i (md_mt r1).1 ∈ md_Tg ∨ ∃ host, ((md_mt j).1.cls, i, (md_mt r1).1, host) ∈ md_nw)
    {nx2 : Nat} {as : List Value} {fl : Bool} {j2 : Nat} (h : mm_stepI (md_xa sc) j (.invokespecial i) nx r1 r2 r3 pc lo st W0 b0 c0 = some (.inr (.inr (j2, as, nx2, fl, G))))
    (hM : mm_M l sc d j2 as G.2.2.2.1 G.2.2.2.2.1 G.2.2.2.2.2 o) (hfl : fl = false → ∃ v, o.1 = .inl v) (hb : o.2.2.1 ≤ G.2.2.2.2.1) (hc : o.2.2.2 ≤ G.2.2.2.2.2) (hbR : bT ≤ R.cells + o.2.2.1) (hcR : cT ≤ R.slots + o.2.2.2)
    (k : ∀ v, o.1 = .inl v → mm_G p l e R s m args below meth c xl D w0 A j bT cT Q (nx2, G.2.1, v.toList ++ G.2.2.1, o.2.1, o.2.2.1, o.2.2.2))
    (kx : ∀ n, o.1 = .inr n → mm_Gx p l e R s m args below meth c xl D w0 A j bT cT Q n (G.1, G.2.1, G.2.2.1, o.2.1, o.2.2.1, o.2.2.2)) :
    mm_G p l e R s m args below meth c xl D w0 A j bT cT Q (pc, lo, st, W0, b0, c0) := by
  subst hn
  simp only [mm_stepI] at h
  have h9 := mm_call0 h
  clear h
  obtain ⟨hlen, rfl, rfl, h⟩ := h9
  intro ws tys H locs cells slots ls st' hR
  obtain ⟨hst, ⟨lv, hls, hlo⟩, hw, hK, hP, hD, hS, hbb, hcc⟩ := hR
  dsimp only at hst hlo hw hbb hcc
  obtain ⟨hAs, hrs, hlenA, hsplit⟩ := mm_cut hst hlen
  rcases h with ⟨hk, -⟩ | ⟨kr, rest, hkind, hdrop, hcls, rfl, rfl, hsum⟩
  · exfalso
    omega
  · rw [hdrop] at hrs
    obtain ⟨_, rest', hrest', hv, hrs⟩ := mm_l.un hrs
    obtain ⟨av, hav, rfl⟩ := mm_v.rr hv
    rw [hrest'] at hsplit
    dsimp only at hM hb hc k kx
    have hsum' : 2 * (F0 m pc ls st').monitorRoom + (rest'.map fun v => v.category).sum ≤ 8 := by
      rw [hrs.cats]
      show 2 * 0 + _ ≤ 8
      omega
    have hMM := hM xl D ws tys (.ref av :: (st'.take (r2 % 16)).reverse) H.size (mm_l.cons hv hAs) ⟨hw.1, hw.2.1, mm_le.rf⟩
    have hf : cells + (b0 - o.2.2.1) ≤ R.cells ∧ slots + (c0 - o.2.2.2) ≤ R.slots := by constructor <;> omega
    have hRG : mm_R xl D w0 s A (md_mt j).2.2.1 bT cT (pc, lo, rest, W0, b0, c0) ws tys H locs cells slots ls rest' := ⟨hrs, ⟨lv, hls, hlo⟩, hw, hK, hP, hD, hS, hbb, hcc⟩
    have hfl0 : fl = false := by
      rcases hkind with ⟨h0, -⟩ | ⟨-, h2⟩
      · omega
      · exact h2
    obtain ⟨v, hv⟩ := hfl hfl0
    have hMet := mm_toMet hMM (fun E st t z => by obtain ⟨⟨n, _, _, hz, -⟩, -⟩ := z; rw [hv] at hz; cases hz)
    have hwsr : mm_ws j2 = Jvm.Cond.code (md_mt j2).1 (md_mt j2).2.1 (md_mt j2).2.2.1 none :: md_Tg := by rw [mm_ws0 hh, hret]
    have hG : GoodIn md_Tg (mm_ws j2) := fun w hw => mm_good K hws hcal w (List.mem_append_right _ hw)
    have t1 : (Jvm.Cond.initialized (md_mt j2).1.cls).before args s = true := C.2.2.2.2.1 _ (hws _ (by simp))
    have t2 : (Jvm.Cond.instanceMethod (md_mt j2).1).before args s = true := C.2.2.2.2.1 _ (hws _ (by simp))
    rcases hlk with hlk | ⟨host, hlk⟩
    · exact mm_run (G := (pc, lo, rest, W0, b0, c0)) (o := o) C hRG (fun T hT X => Or.inl (va_runI (As := (st'.take (r2 % 16)).reverse) (mm_fix C) hMet (cwI (r2 % 16) C.2.2.2.2.1 hG hwsr rfl rfl t1 (C.2.2.2.2.1 _ hlk) t2 hnm hcal.2.2 (mm_room C hcal)) (mm_PS C K hK hP hD hS) rfl hlenA hls.1 hsplit hsum' hd hf T hT X)) hb hc rfl k kx
    · exact mm_run (G := (pc, lo, rest, W0, b0, c0)) (o := o) C hRG (fun T hT X => Or.inl (va_runIN (As := (st'.take (r2 % 16)).reverse) (mm_fix C) hMet ⟨va_cnB (r2 % 16) C.2.2.2.2.1 hG hwsr rfl rfl (C.2.2.2.2.2.1.2.2.2.2.2.2.1 _ hlk) t1 hcal.2.2 (mm_room C hcal), hnm, t2⟩ (mm_PS C K hK hP hD hS) rfl hlenA hls.1 hsplit hsum' hd hf T hT X)) hb hc rfl k kx
/-- invokespecial of Object's constructor -/
theorem mi_objInit (C : mm_C p l R s m args meth c xl A sc j d) {i : Nat} (hd : decode (md_mt j).2.1 pc = .ok (.invokespecial i, 3)) (hn : nx = pc + 3)
    (hws : ∀ w ∈ ([.methodLink (md_mt j).1.cls i Lib.objectInit, .instanceMethod Lib.objectInit, .code Lib.objectInit ⟨#[0xb1]⟩ 1 none] : List Jvm.Cond), w ∈ md_Tg) (h5 : r2 / 16 = 5)
    (h : mm_stepI (md_xa sc) j (.invokespecial i) nx r1 r2 r3 pc lo st W0 b0 c0 = some (.inl F')) (k : mm_G p l e R s m args below meth c xl D w0 A j bT cT Q F') : mm_G p l e R s m args below meth c xl D w0 A j bT cT Q (pc, lo, st, W0, b0, c0) := by
  subst hn
  simp only [mm_stepI, mm_call, h5] at h
  split at h
  · cases h
  · split at h
    · split at h
      · rename_i hsum
        cases h
        intro ws tys H locs cells slots ls st' hR
        obtain ⟨hst, ⟨lv, hls, hlo⟩, hR⟩ := hR
        have hst0 := mm_l.un hst
        clear hst
        obtain ⟨_, rest', rfl, hv, hst⟩ := hst0
        obtain ⟨a, ha, rfl⟩ := mm_v.rr hv
        refine W.objInit C.1 C.2.1 C.2.2.2.1 (C.2.2.2.2.1 _ (hws _ (by simp))) (C.2.2.2.2.1 _ (hws _ (by simp))) (C.2.2.2.2.1 _ (hws _ (by simp))) rfl (hls.1.trans C.2.2.1.symm) rfl hd ?_ ?_ (k _ _ _ _ _ _ _ _ ⟨hst, ⟨lv, hls, hlo⟩, hR⟩)
        · have := C.2.2.2.2.2.2.2.2.2.2.2.1
          omega
        · have := C.2.2.2.2.2.2.2.2.2.2.2.2.1
          have h9 := hst.cats
          show 2 * 0 + (rest'.map fun v => v.category).sum + 12 ≤ R.locals
          omega
      · cases h
    · cases h
/-- System.arraycopy -/
theorem mi_copy (C : mm_C p l R s m args meth c xl A sc j d) (K : mm_dat) {i : Nat} (hd : decode (md_mt j).2.1 pc = .ok (.invokestatic i, 3)) (hn : nx = pc + 3)
    (hws : ∀ w ∈ ([.methodLink (md_mt j).1.cls i arraycopyName, .native arraycopyName, .static arraycopyName, .initialized "java/lang/System"] : List Jvm.Cond), w ∈ md_Tg) (h6 : r2 / 16 = 6)
    (h : mm_stepI (md_xa sc) j (.invokestatic i) nx r1 r2 r3 pc lo st W0 b0 c0 = some (.inl F')) (k : mm_G p l e R s m args below meth c xl D w0 A j bT cT Q F') : mm_G p l e R s m args below meth c xl D w0 A j bT cT Q (pc, lo, st, W0, b0, c0) := by
  subst hn
  simp only [mm_stepI, mm_call, h6] at h
  split at h
  · cases h
  · split at h
    · split at h
      · rename_i hsum
        obtain ⟨W2, hg, h⟩ := Option.map_eq_some_iff.mp h
        cases h
        intro ws tys H locs cells slots ls st' hR0
        obtain ⟨hst, ⟨lv, hls, hlo⟩, hw, hK, hP, hD, hS, hR⟩ := id hR0
        have hst0 := mm_l.un hst
        clear hst
        obtain ⟨_, _, rfl, hv, hst⟩ := hst0
        cases mm_v.ri hv
        have hst0 := mm_l.un hst
        clear hst
        obtain ⟨_, _, rfl, hv, hst⟩ := hst0
        cases mm_v.ri hv
        have hst0 := mm_l.un hst
        clear hst
        obtain ⟨_, _, rfl, hv, hst⟩ := hst0
        obtain ⟨ad, had, rfl⟩ := mm_v.rr hv
        have hst0 := mm_l.un hst
        clear hst
        obtain ⟨_, _, rfl, hv, hst⟩ := hst0
        cases mm_v.ri hv
        have hst0 := mm_l.un hst
        clear hst
        obtain ⟨_, rest', rfl, hv, hst⟩ := hst0
        obtain ⟨as, has, rfl⟩ := mm_v.rr hv
        have hfr : 1 ≤ R.frames := by
          have := C.2.2.2.2.2.2.2.2.2.2.2.1
          omega
        have hloc : (rest'.map fun v => v.category).sum + (nativeFrameWords "java/lang/System" "arraycopy" 5 + 11) ≤ R.locals := by
          have h8 := C.2.2.2.2.2.2.2.2.2.2.2.2.1
          have h9 := hst.cats
          have h10 : nativeFrameWords "java/lang/System" "arraycopy" 5 ≤ 100 := by decide +kernel
          omega
        have t1 := C.2.2.2.2.1 _ (hws (.methodLink (md_mt j).1.cls i arraycopyName) (by simp))
        have t2 := C.2.2.2.2.1 _ (hws (.native arraycopyName) (by simp))
        have t3 := C.2.2.2.2.1 _ (hws (.static arraycopyName) (by simp))
        have t4 := C.2.2.2.2.1 _ (hws (.initialized "java/lang/System") (by simp))
        have hml : c.maxLocals = ls.size := C.2.2.1.trans hls.1.symm
        unfold mm_cpy at hg
        split at hg
        · cases hg
        · rename_i hneg
          have n1 : ¬ _ := fun z => hneg (Or.inl z)
          have n2 : ¬ _ := fun z => hneg (Or.inr (Or.inl z))
          have n3 : ¬ _ := fun z => hneg (Or.inr (Or.inr (Or.inl z)))
          have n4 : _ := Decidable.byContradiction (fun z => hneg (Or.inr (Or.inr (Or.inr (Or.inl z)))))
          have n5 : _ := Decidable.byContradiction (fun z => hneg (Or.inr (Or.inr (Or.inr (Or.inr z)))))
          split at hg
          · rename_i n0 f n9 g hks hkd
            split at hg
            · rename_i hlen
              cases hg
              obtain ⟨cA, t0, q1, q2, -⟩ := hw.ai n4 has hks
              obtain ⟨cB, t5, q3, q4, -⟩ := hw.ai n5 had hkd
              have q4' := q4
              rw [K.2.1] at q2 q4
              exact va_copyi C.1 C.2.1 hml C.2.2.2.1 t1 t2 t3 t4 hK hP hD hS _ _ _ _ q1 q3 q2 q4 rfl n1 n2 n3 hlen.1 hlen.2 (fun _ _ => rfl) hfr hloc hd (fun H1 locs1 hP1 hD1 hS1 => k _ _ _ _ _ _ _ _ (mm_lset hR0 q3 (mm_e.i q4' (Or.inl rfl)) hP1 hD1 hS1 (fun _ => trivial) hst (st2 := [])))
            · cases hg
          · rename_i n0 f n9 g hks hkd
            split at hg
            · rename_i hlen
              cases hg
              obtain ⟨cA, t0, q1, q2, -⟩ := hw.al n4 has hks
              obtain ⟨cB, t5, q3, q4, -⟩ := hw.al n5 had hkd
              have q4' := q4
              rw [K.2.2.1] at q2 q4
              exact va_copyl C.1 C.2.1 hml C.2.2.2.1 t1 t2 t3 t4 hK hP hD hS _ _ _ _ q1 q3 q2 q4 rfl n1 n2 n3 hlen.1 hlen.2 (fun _ _ => rfl) hfr hloc hd (fun H1 locs1 hP1 hD1 hS1 => k _ _ _ _ _ _ _ _ (mm_lset hR0 q3 (mm_e.j q4' rfl) hP1 hD1 hS1 (fun _ => trivial) hst (st2 := [])))
            · cases hg
          · cases hg
      · cases h
    · cases h
end MC
end
section
/-! ===== a run of the mini machine is a run of the machine ===== -/
def mm_dc (j pc : Nat) (e : mm_Ent) : Prop := decode (md_mt j).2.1 pc = .ok (e.1, mm_len e.1) ∧ e.2.1 = pc + mm_len e.1
/-- a place where the class throws: new; dup; ldc; invokespecial; athrow -/
def mm_thr (j pc ik r1 : Nat) : Prop := ∃ (text : String) (names : List String) (is ic q : Nat),
  decode (md_mt j).2.1 (pc + 3) = .ok (.dup, 1) ∧
  ((decode (md_mt j).2.1 (pc + 4) = .ok (.ldc is, 2) ∧ decode (md_mt j).2.1 (pc + 6) = .ok (.invokespecial ic, 3) ∧ decode (md_mt j).2.1 (pc + 9) = .ok (.athrow, 1)) ∨
   (decode (md_mt j).2.1 (pc + 4) = .ok (.ldc_w is, 3) ∧ decode (md_mt j).2.1 (pc + 7) = .ok (.invokespecial ic, 3) ∧ decode (md_mt j).2.1 (pc + 10) = .ok (.athrow, 1))) ∧
  Bundle.fit (md_en r1) = true ∧ (∀ n ∈ names, Bundle.fit n = true) ∧ (∀ w ∈ Jvm.Cond.classLink (md_mt j).1.cls ik (md_en r1) :: Jvm.Cond.initialized (md_en r1) :: vx_atS (md_mt j).1.cls ic (md_en r1) names, w ∈ md_Tg ∨ w ∈ md_gw) ∧
  (∀ w ∈ Jvm.Cond.classLink (md_mt j).1.cls ik (md_en r1) :: Jvm.Cond.initialized (md_en r1) :: vx_atS (md_mt j).1.cls ic (md_en r1) names, vx_ot w = true) ∧ ((md_mt j).1.cls, is, text, q) ∈ md_sr ∧ names.length ≤ 5 ∧ (md_mt j).2.2.2.2 = []
def mm_ok (j pc : Nat) (e : mm_Ent) : Prop :=
  match e.1 with
  | .tableswitch a b c d => decode (md_mt j).2.1 pc = .ok (.tableswitch a b c d, e.2.1)
  | .lookupswitch a ps => decode (md_mt j).2.1 pc = .ok (.lookupswitch a ps, e.2.1) ∧ (ps.toList.zip (ps.toList.drop 1)).all (fun (a, next) => a.1 < next.1) = true
  | .istore i => mm_dc j pc e ∧ i < (md_mt j).2.2.1
  | .istore_n i => mm_dc j pc e ∧ (i : Nat) < (md_mt j).2.2.1
  | .lstore i => mm_dc j pc e ∧ i + 1 < (md_mt j).2.2.1
  | .lstore_n i => mm_dc j pc e ∧ (i : Nat) + 1 < (md_mt j).2.2.1
  | .astore i => mm_dc j pc e ∧ i < (md_mt j).2.2.1
  | .astore_n i => mm_dc j pc e ∧ (i : Nat) < (md_mt j).2.2.1
  | .iinc i _ => mm_dc j pc e ∧ i < (md_mt j).2.2.1
  | .ifCond _ off => mm_dc j pc e ∧ (pc : Int) + off = (e.2.2.1 : Int)
  | .if_icmp _ off => mm_dc j pc e ∧ (pc : Int) + off = (e.2.2.1 : Int)
  | .if_acmp _ off => mm_dc j pc e ∧ (pc : Int) + off = (e.2.2.1 : Int)
  | .goto off => mm_dc j pc e ∧ (pc : Int) + off = (e.2.2.1 : Int)
  | .ldc i => mm_dc j pc e ∧ (e.2.2.1 = 0 → Jvm.Cond.constant (md_mt j).1.cls i (Int32.ofNat e.2.2.2.1) ∈ md_Tg) ∧ (e.2.2.1 ≠ 0 → ∃ tx, ((md_mt j).1.cls, i, tx, e.2.2.2.1) ∈ md_sr)
  | .ldc_w i => mm_dc j pc e ∧ Jvm.Cond.constant (md_mt j).1.cls i (Int32.ofNat e.2.2.2.1) ∈ md_Tg
  | .ldc2_w i => mm_dc j pc e ∧ Jvm.Cond.constantLong (md_mt j).1.cls i (Int64.ofNat e.2.2.1) ∈ md_Tg
  | .getstatic i => mm_dc j pc e ∧ (e.2.2.2.2 = 0 → e.2.2.1 < md_nst ∧ Jvm.Cond.fieldLink (md_mt j).1.cls i (md_stn e.2.2.1).1 (md_stn e.2.2.1).2.1 (md_stn e.2.2.1).2.2 ∈ md_Tg) ∧ (e.2.2.2.2 ≠ 0 → ∃ q ∈ md_sq, Jvm.Cond.fieldLink (md_mt j).1.cls i q.1 q.2.1 q.2.2 ∈ md_Tg)
  | .getfield i => mm_dc j pc e ∧ (e.2.2.2.2 = 0 → ∃ C T N, md_cl[e.2.2.1]? = some (C, T, N) ∧ e.2.2.2.1 < N ∧ Jvm.Cond.fieldLink (md_mt j).1.cls i (T e.2.2.2.1).1 (T e.2.2.2.1).2.1 (T e.2.2.2.1).2.2.1 ∈ md_Tg) ∧ (e.2.2.2.2 ≠ 0 → Jvm.Cond.fieldLink (md_mt j).1.cls i (md_xf e.2.2.1).1 (md_xf e.2.2.1).2.1 (md_xf e.2.2.1).2.2 ∈ md_Tg)
  | .putfield i => mm_dc j pc e ∧ ∃ C T N ty, md_cl[e.2.2.1]? = some (C, T, N) ∧ e.2.2.2.1 < N ∧ Jvm.Cond.fieldLink (md_mt j).1.cls i (T e.2.2.2.1).1 (T e.2.2.2.1).2.1 (T e.2.2.2.1).2.2.1 ∈ md_Tg ∧ parseFieldDescriptor (T e.2.2.2.1).2.2.1 = some ty ∧ mm_tyc e.2.2.2.2 ty ∧ ((T e.2.2.2.1).2.2.2 = true → (md_mt j).1.name = "<init>" ∧ (T e.2.2.2.1).1 = (md_mt j).1.cls)
  | .new i => mm_dc j pc e ∧ (e.2.2.2.2 = 0 → ∃ C T N, md_cl[e.2.2.1]? = some (C, T, N) ∧ (md_df e.2.2.1).length = N ∧ Jvm.Cond.classLink (md_mt j).1.cls i C ∈ md_Tg ∧ Jvm.Cond.instantiable C N ∈ md_Tg ∧ Jvm.Cond.initialized C ∈ md_Tg) ∧ (e.2.2.2.2 ≠ 0 → mm_thr j pc i e.2.2.1)
  | .newarray a => mm_dc j pc e ∧ newarray.typeOf a = md_ty e.2.2.1 ∧ e.2.2.1 ≤ 3 ∧ Jvm.Cond.arrayClass (md_ty e.2.2.1) ∈ md_Tg
  | .anewarray i => mm_dc j pc e ∧ 4 ≤ e.2.2.1 ∧ ∃ E, md_ty e.2.2.1 = .object E ∧ Jvm.Cond.classLink (md_mt j).1.cls i E ∈ md_Tg ∧ E ∈ md_ao
  | .invokevirtual i => mm_dc j pc e ∧ mm_cal e.2.2.1 (e.2.2.2.1 % 16) ∧ (md_mt e.2.2.1).2.2.2.2 = [] ∧ (e.2.2.2.1 / 16 = 0 ∨ e.2.2.2.1 / 16 = 2) ∧
    (e.2.2.2.1 / 16 = 0 → mm_rcv e.2.2.2.2 (md_mt e.2.2.1).1.cls ∧ (∀ w ∈ ([.methodLink (md_mt j).1.cls i (md_mt e.2.2.1).1, .instanceMethod (md_mt e.2.2.1).1, .selects (md_mt e.2.2.1).1.cls (md_mt e.2.2.1).1 (md_mt e.2.2.1).1, .initialized (md_mt e.2.2.1).1.cls] : List Jvm.Cond), w ∈ md_Tg)) ∧
    (e.2.2.2.1 / 16 = 2 → ∃ x : MethodName, (md_mt e.2.2.1).1 = ⟨(md_mt e.2.2.1).1.cls, x.name, x.desc⟩ ∧ mm_rcv e.2.2.2.2 x.cls ∧ (∀ w ∈ ([.methodLink (md_mt j).1.cls i x, .sameMethod x.cls (md_mt e.2.2.1).1.cls x.name x.desc, .selects x.cls x (md_mt e.2.2.1).1, .instanceMethod (md_mt e.2.2.1).1, .initialized (md_mt e.2.2.1).1.cls] : List Jvm.Cond), w ∈ md_Tg))
  | .invokestatic i => mm_dc j pc e ∧
    ((e.2.2.2.1 / 16 = 1 ∧ mm_cal e.2.2.1 (e.2.2.2.1 % 16) ∧ (∀ w ∈ ([.methodLink (md_mt j).1.cls i (md_mt e.2.2.1).1, .static (md_mt e.2.2.1).1, .initialized (md_mt e.2.2.1).1.cls] : List Jvm.Cond), w ∈ md_Tg)) ∨
     (e.2.2.2.1 / 16 = 6 ∧ (∀ w ∈ ([.methodLink (md_mt j).1.cls i arraycopyName, .native arraycopyName, .static arraycopyName, .initialized "java/lang/System"] : List Jvm.Cond), w ∈ md_Tg)))
  | .invokespecial i => mm_dc j pc e ∧
    ((e.2.2.2.1 / 16 = 2 ∧ mm_cal e.2.2.1 (e.2.2.2.1 % 16) ∧ (md_mt e.2.2.1).2.2.2.2 = [] ∧ (md_mt e.2.2.1).2.2.2.1 = none ∧ (md_mt e.2.2.1).1.name = "<init>" ∧ (∀ w ∈ ([.instanceMethod (md_mt e.2.2.1).1, .initialized (md_mt e.2.2.1).1.cls] : List Jvm.Cond), w ∈ md_Tg) ∧
       (Jvm.Cond.methodLink (md_mt j).1.cls i (md_mt e.2.2.1).1 ∈ md_Tg ∨ ∃ host, ((md_mt j).1.cls, i, (md_mt e.2.2.1).1, host) ∈ md_nw)) ∨
     (e.2.2.2.1 / 16 = 5 ∧ (∀ w ∈ ([.methodLink (md_mt j).1.cls i Lib.objectInit, .instanceMethod Lib.objectInit, .code Lib.objectInit ⟨#[0xb1]⟩ 1 none] : List Jvm.Cond), w ∈ md_Tg)))
  | _ => mm_dc j pc e
section MS
variable {p : Program} {l : Launch} {e : Env} {R : Room} {s : State} {m : MethodId} {args : Array Value} {below : List Frame} {meth : Method} {c : Code} {xl : Nat → Nat} {D : va_G} {w0 : va_W} {A : Nat → Prop} {sc : Nat × (Nat → Int32)} {j d bT cT : Nat} {Q : State → Prop} {nx r1 r2 r3 pc : Nat} {lo : List (Nat × Value)} {st : List Value} {W0 : mm_W} {b0 c0 : Nat} {F' : mm_F}
theorem mm_next (C : mm_C p l R s m args meth c xl A sc j d) (K : mm_dat) (ins : Instr) (hok : mm_ok j pc (ins, nx, r1, r2, r3)) (h : mm_stepI (md_xa sc) j ins nx r1 r2 r3 pc lo st W0 b0 c0 = some (.inl F')) (hb : bT ≤ R.cells + F'.2.2.2.2.1) (hc : cT ≤ R.slots + F'.2.2.2.2.2) (k : mm_G p l e R s m args below meth c xl D w0 A j bT cT Q F') : mm_G p l e R s m args below meth c xl D w0 A j bT cT Q (pc, lo, st, W0, b0, c0) := by
  cases ins with
  | iconst n => obtain ⟨hd, hn⟩ := hok; exact mi_iconst C hd hn h k
  | bipush n => obtain ⟨hd, hn⟩ := hok; exact mi_bipush C hd hn h k
  | sipush n => obtain ⟨hd, hn⟩ := hok; exact mi_sipush C hd hn h k
  | lconst n => obtain ⟨hd, hn⟩ := hok; exact mi_lconst C hd hn h k
  | aconst_null => obtain ⟨hd, hn⟩ := hok; exact mi_aconst_null C hd hn h k
  | iload i => obtain ⟨hd, hn⟩ := hok; exact mi_iload C hd hn h k
  | iload_n i => obtain ⟨hd, hn⟩ := hok; exact mi_iload_n C hd hn h k
  | lload i => obtain ⟨hd, hn⟩ := hok; exact mi_lload C hd hn h k
  | lload_n i => obtain ⟨hd, hn⟩ := hok; exact mi_lload_n C hd hn h k
  | aload i => obtain ⟨hd, hn⟩ := hok; exact mi_aload C hd hn h k
  | aload_n i => obtain ⟨hd, hn⟩ := hok; exact mi_aload_n C hd hn h k
  | dup => obtain ⟨hd, hn⟩ := hok; exact mi_dup C hd hn h k
  | pop => obtain ⟨hd, hn⟩ := hok; exact mi_pop C hd hn h k
  | dup2 => obtain ⟨hd, hn⟩ := hok; exact mi_dup2 C hd hn h k
  | iadd => obtain ⟨hd, hn⟩ := hok; exact mi_iadd C hd hn h k
  | isub => obtain ⟨hd, hn⟩ := hok; exact mi_isub C hd hn h k
  | imul => obtain ⟨hd, hn⟩ := hok; exact mi_imul C hd hn h k
  | iand => obtain ⟨hd, hn⟩ := hok; exact mi_iand C hd hn h k
  | ior => obtain ⟨hd, hn⟩ := hok; exact mi_ior C hd hn h k
  | ixor => obtain ⟨hd, hn⟩ := hok; exact mi_ixor C hd hn h k
  | ineg => obtain ⟨hd, hn⟩ := hok; exact mi_ineg C hd hn h k
  | ishl => obtain ⟨hd, hn⟩ := hok; exact mi_ishl C hd hn h k
  | ishr => obtain ⟨hd, hn⟩ := hok; exact mi_ishr C hd hn h k
  | iushr => obtain ⟨hd, hn⟩ := hok; exact mi_iushr C hd hn h k
  | land => obtain ⟨hd, hn⟩ := hok; exact mi_land C hd hn h k
  | lor => obtain ⟨hd, hn⟩ := hok; exact mi_lor C hd hn h k
  | lshl => obtain ⟨hd, hn⟩ := hok; exact mi_lshl C hd hn h k
  | lshr => obtain ⟨hd, hn⟩ := hok; exact mi_lshr C hd hn h k
  | lcmp => obtain ⟨hd, hn⟩ := hok; exact mi_lcmp C hd hn h k
  | i2l => obtain ⟨hd, hn⟩ := hok; exact mi_i2l C hd hn h k
  | l2i => obtain ⟨hd, hn⟩ := hok; exact mi_l2i C hd hn h k
  | i2b => obtain ⟨hd, hn⟩ := hok; exact mi_i2b C hd hn h k
  | i2c => obtain ⟨hd, hn⟩ := hok; exact mi_i2c C hd hn h k
  | idiv => obtain ⟨hd, hn⟩ := hok; exact mi_idiv C hd hn h k
  | irem => obtain ⟨hd, hn⟩ := hok; exact mi_irem C hd hn h k
  | iaload => obtain ⟨hd, hn⟩ := hok; exact mi_iaload C K hd hn h k
  | baload => obtain ⟨hd, hn⟩ := hok; exact mi_baload C K hd hn h k
  | laload => obtain ⟨hd, hn⟩ := hok; exact mi_laload C K hd hn h k
  | aaload => obtain ⟨hd, hn⟩ := hok; exact mi_aaload C K hd hn h k
  | iastore => obtain ⟨hd, hn⟩ := hok; exact mi_iastore C K hd hn h k
  | bastore => obtain ⟨hd, hn⟩ := hok; exact mi_bastore C K hd hn h k
  | lastore => obtain ⟨hd, hn⟩ := hok; exact mi_lastore C K hd hn h k
  | aastore => obtain ⟨hd, hn⟩ := hok; exact mi_aastore C K hd hn h k
  | arraylength => obtain ⟨hd, hn⟩ := hok; exact mi_arraylength C hd hn h k
  | istore i => obtain ⟨⟨hd, hn⟩, hi⟩ := hok; exact mi_istore C hd hn hi h k
  | istore_n i => obtain ⟨⟨hd, hn⟩, hi⟩ := hok; exact mi_istore_n C hd hn hi h k
  | lstore i => obtain ⟨⟨hd, hn⟩, hi⟩ := hok; exact mi_lstore C hd hn hi h k
  | lstore_n i => obtain ⟨⟨hd, hn⟩, hi⟩ := hok; exact mi_lstore_n C hd hn hi h k
  | astore i => obtain ⟨⟨hd, hn⟩, hi⟩ := hok; exact mi_astore C hd hn hi h k
  | astore_n i => obtain ⟨⟨hd, hn⟩, hi⟩ := hok; exact mi_astore_n C hd hn hi h k
  | iinc i n => obtain ⟨⟨hd, hn⟩, hi⟩ := hok; exact mi_iinc C hd hn hi h k
  | ifCond cd off => obtain ⟨⟨hd, hn⟩, hi⟩ := hok; exact mi_ifCond C hd hn hi h k
  | if_icmp cd off => obtain ⟨⟨hd, hn⟩, hi⟩ := hok; exact mi_if_icmp C hd hn hi h k
  | if_acmp cd off => obtain ⟨⟨hd, hn⟩, hi⟩ := hok; exact mi_if_acmp C hd hn hi h k
  | goto off => obtain ⟨⟨hd, hn⟩, hi⟩ := hok; exact mi_goto C hd hn hi h k
  | ldc_w i => obtain ⟨⟨hd, hn⟩, hi⟩ := hok; exact mi_ldc_w C hd hn hi h k
  | ldc2_w i => obtain ⟨⟨hd, hn⟩, hi⟩ := hok; exact mi_ldc2_w C hd hn hi h k
  | tableswitch a b u v => exact mi_tableswitch C hok h k
  | lookupswitch a ps => obtain ⟨hd, hp⟩ := hok; exact mi_lookupswitch C hd hp h k
  | ldc i => obtain ⟨⟨hd, hn⟩, h0, h1⟩ := hok; exact mi_ldc C hd hn h0 h1 h k
  | getstatic i => obtain ⟨⟨hd, hn⟩, h0, h1⟩ := hok; exact mi_getstatic C hd hn h0 h1 h k
  | getfield i => obtain ⟨⟨hd, hn⟩, h0, h1⟩ := hok; exact mi_getfield C K hd hn h0 h1 h k
  | putfield i => obtain ⟨⟨hd, hn⟩, ho⟩ := hok; exact mi_putfield C K hd hn ho h k
  | new i =>
    obtain ⟨⟨hd, hn⟩, h0, h1⟩ := hok
    by_cases h3 : r3 = 0
    · exact mi_new C K hd hn h3 (h0 h3) h hb hc k
    · exfalso
      simp only [mm_stepI, if_neg h3] at h
      split at h <;> cases h
  | newarray a => obtain ⟨⟨hd, hn⟩, ho⟩ := hok; exact mi_newarray C K hd hn ho h hb hc k
  | anewarray i => obtain ⟨⟨hd, hn⟩, ho⟩ := hok; exact mi_anewarray C hd hn ho h hb hc k
  | invokespecial i =>
    obtain ⟨⟨hd, hn⟩, ⟨h2, -⟩ | ⟨h5, hws⟩⟩ := hok
    · exfalso
      have h2' : r2 / 16 = 2 := h2
      simp only [mm_stepI, mm_call, h2'] at h
      repeat' split at h
      all_goals cases h
    · exact mi_objInit C hd hn hws h5 h k
  | invokestatic i =>
    obtain ⟨⟨hd, hn⟩, ⟨h1, -⟩ | ⟨h6, hws⟩⟩ := hok
    · exfalso
      have h1' : r2 / 16 = 1 := h1
      simp only [mm_stepI, mm_call, h1'] at h
      repeat' split at h
      all_goals cases h
    · exact mi_copy C K hd hn hws h6 h k
  | invokevirtual i =>
    obtain ⟨⟨hd, hn⟩, -, -, h02, -⟩ := hok
    exfalso
    have h02' : r2 / 16 = 0 ∨ r2 / 16 = 2 := h02
    rcases h02' with h0 | h0 <;>
      (simp only [mm_stepI, mm_call, h0] at h
       repeat' split at h
       all_goals cases h)
  | ireturn =>
    exfalso
    simp only [mm_stepI] at h
    repeat' split at h
    all_goals cases h
  | lreturn =>
    exfalso
    simp only [mm_stepI] at h
    repeat' split at h
    all_goals cases h
  | areturn =>
    exfalso
    simp only [mm_stepI] at h
    repeat' split at h
    all_goals cases h
  | return_ =>
    exfalso
    simp only [mm_stepI] at h
    repeat' split at h
    all_goals cases h
  | _ => cases (show (none : Option mm_T) = some (.inl F') from h)
end MS
end
section
/-- what a step leaves of the room -/
def mm_bd : mm_T → Nat × Nat
  | .inl F => (F.2.2.2.2.1, F.2.2.2.2.2)
  | .inr (.inl o) => (o.2.2.1, o.2.2.2)
  | .inr (.inr q) => (q.2.2.2.2.2.2.2.2.1, q.2.2.2.2.2.2.2.2.2)
theorem mm_call_bd {r1 r2 r3 pc nx : Nat} {lo : List (Nat × Value)} {st : List Value} {W0 : mm_W} {b0 c0 : Nat} {T : mm_T} (h : mm_call r1 r2 r3 pc nx lo st W0 b0 c0 = some T) : mm_bd T = (b0, c0) := by
  unfold mm_call at h
  split at h
  · cases h
  · dsimp only at h
    split at h
    · split at h
      · split at h
        · cases h; rfl
        · cases h
      · cases h
    · split at h
      · split at h
        · cases h; rfl
        · cases h
      · cases h
    · split at h
      · cases h; rfl
      · cases h
    · split at h
      · split at h
        · cases h; rfl
        · cases h
      · cases h
    · split at h
      · split at h
        · obtain ⟨W2, -, h⟩ := Option.map_eq_some_iff.mp h
          cases h; rfl
        · cases h
      · cases h
    · cases h
theorem mm_stepI_bd {xa : mm_Xa} {j : Nat} (ins : Instr) {nx r1 r2 r3 pc : Nat} {lo : List (Nat × Value)} {st : List Value} {W0 : mm_W} {b0 c0 : Nat} {T : mm_T} (h : mm_stepI xa j ins nx r1 r2 r3 pc lo st W0 b0 c0 = some T) : (mm_bd T).1 ≤ b0 ∧ (mm_bd T).2 ≤ c0 := by
  cases ins with
  | invokevirtual i => rw [mm_call_bd h]; exact ⟨Nat.le_refl _, Nat.le_refl _⟩
  | invokestatic i => rw [mm_call_bd h]; exact ⟨Nat.le_refl _, Nat.le_refl _⟩
  | invokespecial i => rw [mm_call_bd h]; exact ⟨Nat.le_refl _, Nat.le_refl _⟩
  | arraylength =>
    simp only [mm_stepI] at h
    split at h
    · obtain ⟨n, -, h⟩ := Option.map_eq_some_iff.mp h
      cases h; exact ⟨Nat.le_refl _, Nat.le_refl _⟩
    · cases h
  | getfield i =>
    simp only [mm_stepI] at h
    split at h
    · split at h
      · split at h
        · obtain ⟨n, -, h⟩ := Option.map_eq_some_iff.mp h
          cases h; exact ⟨Nat.le_refl _, Nat.le_refl _⟩
        · cases h
      · split at h
        · cases h
        · obtain ⟨n, -, h⟩ := Option.map_eq_some_iff.mp h
          cases h; exact ⟨Nat.le_refl _, Nat.le_refl _⟩
    · cases h
  | putfield i =>
    simp only [mm_stepI] at h
    split at h
    · split at h
      · obtain ⟨n, -, h⟩ := Option.map_eq_some_iff.mp h
        cases h; exact ⟨Nat.le_refl _, Nat.le_refl _⟩
      · cases h
    · cases h
  | aastore =>
    simp only [mm_stepI] at h
    split at h
    · split at h
      · obtain ⟨n, -, h⟩ := Option.map_eq_some_iff.mp h
        cases h; exact ⟨Nat.le_refl _, Nat.le_refl _⟩
      · cases h
    · cases h
  | new i =>
    simp only [mm_stepI] at h
    split at h
    · split at h
      · cases h; exact ⟨Nat.sub_le _ _, Nat.sub_le _ _⟩
      · cases h
    · split at h
      · cases h; exact ⟨Nat.sub_le _ _, Nat.sub_le _ _⟩
      · cases h
  | newarray a =>
    simp only [mm_stepI] at h
    split at h
    · split at h
      · cases h; exact ⟨Nat.sub_le _ _, Nat.sub_le _ _⟩
      · cases h
    · cases h
  | anewarray i =>
    simp only [mm_stepI] at h
    split at h
    · split at h
      · cases h; exact ⟨Nat.sub_le _ _, Nat.sub_le _ _⟩
      · cases h
    · cases h
  | _ =>
    first
    | (cases (show (none : Option mm_T) = some T from h); done)
    | (simp only [mm_stepI] at h
       (repeat' split at h) <;> first | (cases h; done) | (cases h; exact ⟨Nat.le_refl _, Nat.le_refl _⟩))
theorem mm_step_bd {xa : mm_Xa} {j : Nat} {F : mm_F} {T : mm_T} (h : mm_step xa j F = some T) : (mm_bd T).1 ≤ F.2.2.2.2.1 ∧ (mm_bd T).2 ≤ F.2.2.2.2.2 := by
  unfold mm_step at h
  split at h
  · cases h
  · exact mm_stepI_bd _ h
theorem mm_ex_bd {xa : mm_Xa} : ∀ (f d j : Nat) (F : mm_F) (o : mm_O), mm_ex xa f d j F = some o → o.2.2.1 ≤ F.2.2.2.2.1 ∧ o.2.2.2 ≤ F.2.2.2.2.2
  | 0, _, _, _, _, h => by cases h
  | f + 1, d, j, F, o, h => by
    unfold mm_ex at h
    split at h
    · cases h
    · rename_i F' hs
      have h1 := mm_step_bd hs
      have h2 := mm_ex_bd f d j F' o h
      exact ⟨Nat.le_trans h2.1 h1.1, Nat.le_trans h2.2 h1.2⟩
    · rename_i o' hs
      have h1 := mm_step_bd hs
      cases h
      exact h1
    · rename_i j' as nx fl G hs
      have h1 := mm_step_bd hs
      split at h
      · cases h
      · rename_i d'
        split at h
        · cases h
        · split at h
          · cases h
          · rename_i v W2 b2 c2 hc
            have h2 := mm_ex_bd f d' j' _ _ hc
            have h3 := mm_ex_bd f (d' + 1) j _ _ h
            exact ⟨Nat.le_trans h3.1 (Nat.le_trans h2.1 h1.1), Nat.le_trans h3.2 (Nat.le_trans h2.2 h1.2)⟩
          · rename_i E W2 b2 c2 hc
            have h2 := mm_ex_bd f d' j' _ _ hc
            split at h
            · cases h
            · split at h
              · cases h
                exact ⟨Nat.le_trans h2.1 h1.1, Nat.le_trans h2.2 h1.2⟩
              · split at h
                · cases h
                · have h3 := mm_ex_bd f (d' + 1) j _ _ h
                  exact ⟨Nat.le_trans h3.1 (Nat.le_trans h2.1 h1.1), Nat.le_trans h3.2 (Nat.le_trans h2.2 h1.2)⟩
end
section
/-! ===== ends, calls, catches; then whole runs ===== -/
def mm_hok (j pc n h : Nat) : Prop := ∃ (pre : List ExceptionTableEntry) (x : ExceptionTableEntry) (suf : List ExceptionTableEntry) (name : String),
  Jvm.tableOf (md_mt j).2.2.2.2 = pre ++ x :: suf ∧ covers x pc = true ∧ x.catchType ≠ 0 ∧ x.handlerPc = h ∧ Jvm.Cond.classLink (md_mt j).1.cls x.catchType name ∈ md_Tg ∧ Jvm.Cond.castable (md_en n) name ∈ md_gw ∧
  ∀ z ∈ pre, covers z pc = false ∨ (z.catchType ≠ 0 ∧ ∃ nm, Jvm.Cond.classLink (md_mt j).1.cls z.catchType nm ∈ md_Tg ∧ (md_en n, nm) ∈ md_nc)
section MT
variable {p : Program} {l : Launch} {e : Env} {R : Room} {s : State} {m : MethodId} {args : Array Value} {below : List Frame} {meth : Method} {c : Code} {xl : Nat → Nat} {D : va_G} {w0 : va_W} {A : Nat → Prop} {sc : Nat × (Nat → Int32)} {j d bT cT : Nat} {Q : State → Prop} {nx r1 r2 r3 pc : Nat} {lo : List (Nat × Value)} {st : List Value} {W0 : mm_W} {b0 c0 : Nat} {F' : mm_F}
variable {G : mm_F} {o : mm_O} {sz mc ms : Nat}
theorem mm_gw_use (C : mm_C p l R s m args meth c xl A sc j d) (K : mm_dat) {w : Jvm.Cond} (h : w ∈ md_gw) : w.before args s = true := va_Nw.use (K.2.2.2.2.2.2.1 w h).1 (C.2.2.2.2.2.1.2.2.2.2.2.1 w h)
theorem mm_catch (C : mm_C p l R s m args meth c xl A sc j d) (K : mm_dat) {n h : Nat} (hok : mm_hok j pc n h) (k : mm_G p l e R s m args below meth c xl D w0 A j bT cT Q (h, lo, [.retAddr 0], W0, b0, c0)) : mm_Gx p l e R s m args below meth c xl D w0 A j bT cT Q n (pc, lo, st, W0, b0, c0) := by
  intro ws tys H locs cells slots ls st' q ce hR hce hcv hcl
  obtain ⟨hst, hlo, hR⟩ := hR
  obtain ⟨pre, x, suf, name, h1, h2, h3, rfl, h5, h6, h7⟩ := hok
  refine vx_catch (name := name) C.2.2.2.1 pre x suf (C.2.2.2.2.2.2.2.2.2.2.1.trans h1) (fun z hz => ?_) h2 h3 (C.2.2.2.2.1 _ h5) (mm_gw_use C K h6) hce hcv hcl (k _ _ _ _ _ _ _ _ ⟨mm_l.cons (Or.inr ⟨q, rfl⟩) mm_l.nil, hlo, hR⟩)
  rcases h7 z hz with h8 | ⟨h8, nm, h9, h10⟩
  · exact Or.inl h8
  · exact Or.inr ⟨h8, nm, C.2.2.2.2.1 _ h9, C.2.2.2.2.2.1.2.2.2.2.2.2.2.2.1 _ h10⟩
theorem mm_uncaught (C : mm_C p l R s m args meth c xl A sc j d) (hh : (md_mt j).2.2.2.2 = []) (hA : A = va_A w0 sz) {n : Nat} (ho : o.1 = .inr n) (hW : o.2.1 = F'.2.2.2.1) (hb : o.2.2.1 = F'.2.2.2.2.1) (hc : o.2.2.2 = F'.2.2.2.2.2) (hmc : mc + o.2.2.1 = bT) (hms : ms + o.2.2.2 = cT) :
    mm_Gx p l e R s m args below meth c xl D w0 A j bT cT (vx_MQ below (mm_Qr xl D w0 sz o) (mm_Qx xl D w0 sz o) args s mc ms A) n F' := by
  subst hA
  intro ws tys H locs cells slots ls st' q ce hR hce hcv hcl
  obtain ⟨hst, hlo, hw, hK, hP, hD, hS, hbb, hcc⟩ := hR
  have ht : ∀ x ∈ c.exceptionTable.toList, covers x F'.1 = false := by
    intro x hx
    rw [C.2.2.2.2.2.2.2.2.2.2.1, hh] at hx
    cases hx
  refine vx_out ht C.2.2.2.2.2.2.2.1 hce hcv hcl (fun t ht hal => ⟨⟨n, ws, tys, ho, rfl, ?_, hK.moved hal, by rw [ht]; exact hP, hD⟩, hS.F ht⟩) hS.2.2 (by omega) (by omega)
  rw [hW]
  exact hw
set_option maxRecDepth 100000 in
theorem mm_fin (C : mm_C p l R s m args meth c xl A sc j d) (K : mm_dat) (ins : Instr) (hok : mm_ok j pc (ins, nx, r1, r2, r3)) (h : mm_stepI (md_xa sc) j ins nx r1 r2 r3 pc lo st W0 b0 c0 = some (.inr (.inl o))) (hA : A = va_A w0 sz) (hmc : mc + o.2.2.1 = bT) (hms : ms + o.2.2.2 = cT) (hRc : mc ≤ R.cells) (hRs : ms ≤ R.slots) :
    mm_G p l e R s m args below meth c xl D w0 A j bT cT (vx_MQ below (mm_Qr xl D w0 sz o) (mm_Qx xl D w0 sz o) args s mc ms A) (pc, lo, st, W0, b0, c0) := by
  subst hA
  have hlocks : meth.locks = false := C.2.2.2.2.2.2.2.1
  cases ins with
  | ireturn =>
    obtain ⟨hd, hn⟩ := hok
    simp only [mm_stepI] at h
    split at h
    · split at h
      · rename_i ty hty
        split at h
        · rename_i hnar
          cases h
          intro ws tys H locs cells slots ls st' hR
          obtain ⟨hst, hlo, hw, hK, hP, hD, hS, hbb, hcc⟩ := hR
          have hst0 := mm_l.un hst
          clear hst
          obtain ⟨_, _, rfl, hv, hst⟩ := hst0
          cases mm_v.ri hv
          cases mm_l.un0 hst
          dsimp only at hmc hms hbb hcc
          obtain rfl : cells = mc := by omega
          obtain rfl : slots = ms := by omega
          exact vx_ret (W.zret C.1 C.2.1 (C.2.2.2.2.2.2.2.2.1.trans hty) hnar (fun t ht hW => ⟨⟨_, _, ws, tys, rfl, rfl, ⟨_, rfl, mm_v.i⟩, hw, hK.moved hW.alike, by rw [ht]; exact hP, hD⟩, hS.F ht⟩) hS.2.2 hd)
        · cases h
      · cases h
    · cases h
  | lreturn =>
    obtain ⟨hd, hn⟩ := hok
    simp only [mm_stepI] at h
    split at h
    · split at h
      · rename_i hty
        cases h
        intro ws tys H locs cells slots ls st' hR
        obtain ⟨hst, hlo, hw, hK, hP, hD, hS, hbb, hcc⟩ := hR
        have hst0 := mm_l.un hst
        clear hst
        obtain ⟨_, _, rfl, hv, hst⟩ := hst0
        cases mm_v.rj hv
        cases mm_l.un0 hst
        dsimp only at hmc hms hbb hcc
        obtain rfl : cells = mc := by omega
        obtain rfl : slots = ms := by omega
        exact vx_ret (W.lret C.1 C.2.1 (C.2.2.2.2.2.2.2.2.1.trans hty) (fun t ht hW => ⟨⟨_, _, ws, tys, rfl, rfl, ⟨_, rfl, mm_v.j⟩, hw, hK.moved hW.alike, by rw [ht]; exact hP, hD⟩, hS.F ht⟩) hS.2.2 hd)
      · cases h
    · cases h
  | areturn =>
    obtain ⟨hd, hn⟩ := hok
    simp only [mm_stepI] at h
    split at h
    · split at h
      · rename_i nm hty
        cases h
        intro ws tys H locs cells slots ls st' hR
        obtain ⟨hst, hlo, hw, hK, hP, hD, hS, hbb, hcc⟩ := hR
        have hst0 := mm_l.un hst
        clear hst
        obtain ⟨_, _, rfl, hv, hst⟩ := hst0
        obtain ⟨a, ha, rfl⟩ := mm_v.rr hv
        cases mm_l.un0 hst
        dsimp only at hmc hms hbb hcc
        obtain rfl : cells = mc := by omega
        obtain rfl : slots = ms := by omega
        exact vx_ret (W.aret C.1 C.2.1 (C.2.2.2.2.2.2.2.2.1.trans hty) (Or.inl ⟨_, rfl⟩) (Or.inr ⟨_, rfl⟩) (fun t ht hW => ⟨⟨_, _, ws, tys, rfl, rfl, ⟨_, rfl, hv⟩, hw, hK.moved hW.alike, by rw [ht]; exact hP, hD⟩, hS.F ht⟩) hS.2.2 hd)
      · rename_i nm hty
        cases h
        intro ws tys H locs cells slots ls st' hR
        obtain ⟨hst, hlo, hw, hK, hP, hD, hS, hbb, hcc⟩ := hR
        have hst0 := mm_l.un hst
        clear hst
        obtain ⟨_, _, rfl, hv, hst⟩ := hst0
        obtain ⟨a, ha, rfl⟩ := mm_v.rr hv
        cases mm_l.un0 hst
        dsimp only at hmc hms hbb hcc
        obtain rfl : cells = mc := by omega
        obtain rfl : slots = ms := by omega
        exact vx_ret (W.aret C.1 C.2.1 (C.2.2.2.2.2.2.2.2.1.trans hty) (Or.inr ⟨_, rfl⟩) (Or.inr ⟨_, rfl⟩) (fun t ht hW => ⟨⟨_, _, ws, tys, rfl, rfl, ⟨_, rfl, hv⟩, hw, hK.moved hW.alike, by rw [ht]; exact hP, hD⟩, hS.F ht⟩) hS.2.2 hd)
      · cases h
    · cases h
  | return_ =>
    obtain ⟨hd, hn⟩ := hok
    simp only [mm_stepI] at h
    split at h
    · split at h
      · rename_i hty
        cases h
        intro ws tys H locs cells slots ls st' hR
        obtain ⟨hst, hlo, hw, hK, hP, hD, hS, hbb, hcc⟩ := hR
        cases mm_l.un0 hst
        dsimp only at hmc hms hbb hcc
        obtain rfl : cells = mc := by omega
        obtain rfl : slots = ms := by omega
        exact vx_ret (W.vret C.1 C.2.1 (C.2.2.2.2.2.2.2.2.1.trans hty) (fun t ht hW => ⟨⟨_, _, ws, tys, rfl, rfl, rfl, hw, hK.moved hW.alike, by rw [ht]; exact hP, hD⟩, hS.F ht⟩) hS.2.2 hd)
      · cases h
    · cases h
  | new i =>
    obtain ⟨⟨hd, hn⟩, h0, h1⟩ := hok
    by_cases h3 : r3 = 0
    · exfalso
      simp only [mm_stepI, if_pos h3] at h
      split at h <;> cases h
    · simp only [mm_stepI, if_neg h3] at h
      split at h
      · rename_i hr
        obtain ⟨hr1, hr2, hr3⟩ := hr
        cases h
        intro ws tys H locs cells slots ls st' hR
        obtain ⟨hst, ⟨lv, hls, hlo⟩, hw, hK, hP, hD, hS, hbb, hcc⟩ := hR
        obtain ⟨text, names, is, ic, q, d3, hds, hf1, hf2, hat, hot, hsr, hnl, hh⟩ := h1 h3
        have hx : ∀ w ∈ Jvm.Cond.classLink (md_mt j).1.cls i (md_en r1) :: Jvm.Cond.initialized (md_en r1) :: vx_atS (md_mt j).1.cls ic (md_en r1) names, w.before args s = true := fun w hw => by
          rcases hat w hw with z | z
          · exact C.2.2.2.2.1 w z
          · exact mm_gw_use C K z
        have hcats := hst.cats
        dsimp only at hmc hms hbb hcc hcats
        have hZ : vk_R (md_mt j).1.cls is text (xl q) s := C.2.2.2.2.2.1.2.2.2.2.1 ((md_mt j).1.cls, is, text, q) hsr
        have g1 := C.2.2.2.2.2.2.2.2.2.2.2.1
        have g2 := C.2.2.2.2.2.2.2.2.2.2.2.2.1
        rcases hds with ⟨d4, d6, d9⟩ | ⟨d4, d6, d9⟩
        · refine vx_throwS (own := (md_mt j).1.cls) (cls := md_en r1) (text := text) (names := names) (sa := xl q) C.1 C.2.1 C.2.2.2.2.2.2.2.2.2.2.2.2.2 C.2.2.2.1 hf1 hf2 (hx _ List.mem_cons_self) (hx _ (List.mem_cons_of_mem _ List.mem_cons_self)) hZ (fun w hw => hx w (List.mem_cons_of_mem _ (List.mem_cons_of_mem _ hw))) hot (C.2.2.2.2.2.1.2.2.2.2.2.2.2.2.2.1) (C.2.2.2.2.2.1.2.2.2.2.2.2.2.2.2.2.1) hS (hls.1.trans C.2.2.1.symm) hd d3 d4 d6 d9 (fun x hx => by rw [C.2.2.2.2.2.2.2.2.2.2.1, hh] at hx; cases hx) (by omega) (by omega) (by omega) (by omega) hlocks (fun t hal hsz hq => ?_) hS.2.2 (by omega) (by omega)
          refine ⟨⟨r1, ws, tys, rfl, rfl, hw, hK.moved hal, hP.kept (fun k z hz => hq _ (hP k z hz).lt), hD⟩, Nat.le_trans hS.1 hsz, fun z z1 z2 => ?_⟩
          rw [hq z (Nat.lt_of_lt_of_le z1 hS.1)]
          exact hS.2.1 z z1 z2
        · refine vx_throwSW (own := (md_mt j).1.cls) (cls := md_en r1) (text := text) (names := names) (sa := xl q) C.1 C.2.1 C.2.2.2.2.2.2.2.2.2.2.2.2.2 C.2.2.2.1 hf1 hf2 (hx _ List.mem_cons_self) (hx _ (List.mem_cons_of_mem _ List.mem_cons_self)) hZ (fun w hw => hx w (List.mem_cons_of_mem _ (List.mem_cons_of_mem _ hw))) hot (C.2.2.2.2.2.1.2.2.2.2.2.2.2.2.2.1) (C.2.2.2.2.2.1.2.2.2.2.2.2.2.2.2.2.1) hS (hls.1.trans C.2.2.1.symm) hd d3 d4 d6 d9 (fun x hx => by rw [C.2.2.2.2.2.2.2.2.2.2.1, hh] at hx; cases hx) (by omega) (by omega) (by omega) (by omega) hlocks (fun t hal hsz hq => ?_) hS.2.2 (by omega) (by omega)
          refine ⟨⟨r1, ws, tys, rfl, rfl, hw, hK.moved hal, hP.kept (fun k z hz => hq _ (hP k z hz).lt), hD⟩, Nat.le_trans hS.1 hsz, fun z z1 z2 => ?_⟩
          rw [hq z (Nat.lt_of_lt_of_le z1 hS.1)]
          exact hS.2.1 z z1 z2
      · cases h
  | invokevirtual i =>
    exfalso
    simp only [mm_stepI, mm_call] at h
    (repeat' split at h) <;> first | (obtain ⟨_, _, h⟩ := Option.map_eq_some_iff.mp h; first | exact absurd h Sum.inl_ne_inr | exact absurd (Sum.inr.inj h) Sum.inl_ne_inr) | exact absurd h.symm (Option.some_ne_none _) | exact absurd (Option.some.inj h) Sum.inl_ne_inr | exact absurd (Option.some.inj h) Sum.inr_ne_inl | exact absurd (Sum.inr.inj (Option.some.inj h)) Sum.inl_ne_inr | exact absurd (Sum.inr.inj (Option.some.inj h)) Sum.inr_ne_inl
  | invokestatic i =>
    exfalso
    simp only [mm_stepI, mm_call] at h
    (repeat' split at h) <;> first | (obtain ⟨_, _, h⟩ := Option.map_eq_some_iff.mp h; first | exact absurd h Sum.inl_ne_inr | exact absurd (Sum.inr.inj h) Sum.inl_ne_inr) | exact absurd h.symm (Option.some_ne_none _) | exact absurd (Option.some.inj h) Sum.inl_ne_inr | exact absurd (Option.some.inj h) Sum.inr_ne_inl | exact absurd (Sum.inr.inj (Option.some.inj h)) Sum.inl_ne_inr | exact absurd (Sum.inr.inj (Option.some.inj h)) Sum.inr_ne_inl
  | invokespecial i =>
    exfalso
    simp only [mm_stepI, mm_call] at h
    (repeat' split at h) <;> first | (obtain ⟨_, _, h⟩ := Option.map_eq_some_iff.mp h; first | exact absurd h Sum.inl_ne_inr | exact absurd (Sum.inr.inj h) Sum.inl_ne_inr) | exact absurd h.symm (Option.some_ne_none _) | exact absurd (Option.some.inj h) Sum.inl_ne_inr | exact absurd (Option.some.inj h) Sum.inr_ne_inl | exact absurd (Sum.inr.inj (Option.some.inj h)) Sum.inl_ne_inr | exact absurd (Sum.inr.inj (Option.some.inj h)) Sum.inr_ne_inl
  | _ =>
    exfalso
    first
    | (cases (show (none : Option mm_T) = some (.inr (.inl o)) from h); done)
    | (simp only [mm_stepI] at h
       (repeat' split at h) <;> first | (obtain ⟨_, _, h⟩ := Option.map_eq_some_iff.mp h; first | exact absurd h Sum.inl_ne_inr | exact absurd (Sum.inr.inj h) Sum.inl_ne_inr) | exact absurd h.symm (Option.some_ne_none _) | exact absurd (Option.some.inj h) Sum.inl_ne_inr | exact absurd (Option.some.inj h) Sum.inr_ne_inl | exact absurd (Sum.inr.inj (Option.some.inj h)) Sum.inl_ne_inr | exact absurd (Sum.inr.inj (Option.some.inj h)) Sum.inr_ne_inl)
set_option maxRecDepth 100000 in
theorem mm_calls (C : mm_C p l R s m args meth c xl A sc j (d + 1)) (K : mm_dat) (ins : Instr) (hok : mm_ok j pc (ins, nx, r1, r2, r3))
    {nx2 : Nat} {as : List Value} {fl : Bool} {j2 : Nat} (h : mm_stepI (md_xa sc) j ins nx r1 r2 r3 pc lo st W0 b0 c0 = some (.inr (.inr (j2, as, nx2, fl, G))))
    (hM : mm_M l sc d j2 as G.2.2.2.1 G.2.2.2.2.1 G.2.2.2.2.2 o) (hfl : fl = false → ∃ v, o.1 = .inl v) (hb : o.2.2.1 ≤ G.2.2.2.2.1) (hc : o.2.2.2 ≤ G.2.2.2.2.2) (hbR : bT ≤ R.cells + o.2.2.1) (hcR : cT ≤ R.slots + o.2.2.2)
    (k : ∀ v, o.1 = .inl v → mm_G p l e R s m args below meth c xl D w0 A j bT cT Q (nx2, G.2.1, v.toList ++ G.2.2.1, o.2.1, o.2.2.1, o.2.2.2))
    (kx : ∀ n, o.1 = .inr n → mm_Gx p l e R s m args below meth c xl D w0 A j bT cT Q n (G.1, G.2.1, G.2.2.1, o.2.1, o.2.2.1, o.2.2.2)) :
    mm_G p l e R s m args below meth c xl D w0 A j bT cT Q (pc, lo, st, W0, b0, c0) := by
  cases ins with
  | invokevirtual i =>
    obtain ⟨⟨hd, hn⟩, h1, h2, h3, h4, h5⟩ := hok
    exact mi_callV C K hd hn h1 h2 (fun z => by
      have z2 : r2 / 16 = 1 := z
      have h32 : r2 / 16 = 0 ∨ r2 / 16 = 2 := h3
      omega) h4 h5 h hM hfl hb hc hbR hcR k kx
  | invokestatic i =>
    obtain ⟨⟨hd, hn⟩, ⟨h1, h2, h3⟩ | ⟨h1, -⟩⟩ := hok
    · exact mi_callS C K hd hn h1 h2 h3 h hM hb hc hbR hcR k kx
    · exfalso
      have h1' : r2 / 16 = 6 := h1
      simp only [mm_stepI, mm_call, h1'] at h
      (repeat' split at h) <;> first | (obtain ⟨_, _, h⟩ := Option.map_eq_some_iff.mp h; first | exact absurd h Sum.inl_ne_inr | exact absurd (Sum.inr.inj h) Sum.inl_ne_inr) | exact absurd h.symm (Option.some_ne_none _) | exact absurd (Option.some.inj h) Sum.inl_ne_inr | exact absurd (Option.some.inj h) Sum.inr_ne_inl | exact absurd (Sum.inr.inj (Option.some.inj h)) Sum.inl_ne_inr | exact absurd (Sum.inr.inj (Option.some.inj h)) Sum.inr_ne_inl
  | invokespecial i =>
    obtain ⟨⟨hd, hn⟩, ⟨h1, h2, h3, h4, h5, h6, h7⟩ | ⟨h1, -⟩⟩ := hok
    · exact mi_callI C K hd hn h1 h2 h3 h4 h5 h6 h7 h hM hfl hb hc hbR hcR k kx
    · exfalso
      have h1' : r2 / 16 = 5 := h1
      simp only [mm_stepI, mm_call, h1'] at h
      (repeat' split at h) <;> first | (obtain ⟨_, _, h⟩ := Option.map_eq_some_iff.mp h; first | exact absurd h Sum.inl_ne_inr | exact absurd (Sum.inr.inj h) Sum.inl_ne_inr) | exact absurd h.symm (Option.some_ne_none _) | exact absurd (Option.some.inj h) Sum.inl_ne_inr | exact absurd (Option.some.inj h) Sum.inr_ne_inl | exact absurd (Sum.inr.inj (Option.some.inj h)) Sum.inl_ne_inr | exact absurd (Sum.inr.inj (Option.some.inj h)) Sum.inr_ne_inl
  | _ =>
    exfalso
    first
    | (cases (show (none : Option mm_T) = some (.inr (.inr (j2, as, nx2, fl, G))) from h); done)
    | (simp only [mm_stepI] at h
       (repeat' split at h) <;> first | (obtain ⟨_, _, h⟩ := Option.map_eq_some_iff.mp h; first | exact absurd h Sum.inl_ne_inr | exact absurd (Sum.inr.inj h) Sum.inl_ne_inr) | exact absurd h.symm (Option.some_ne_none _) | exact absurd (Option.some.inj h) Sum.inl_ne_inr | exact absurd (Option.some.inj h) Sum.inr_ne_inl | exact absurd (Sum.inr.inj (Option.some.inj h)) Sum.inl_ne_inr | exact absurd (Sum.inr.inj (Option.some.inj h)) Sum.inr_ne_inl)
end MT
end
section
/-- what the program's listing is, by program -/
def mm_prog : Prop := mm_dat ∧ (∀ j pc e, md_cd j pc = some e → mm_ok j pc e) ∧ (∀ j, plainName (md_mt j).1.cls = true) ∧ (∀ j pc n h, md_hd j pc n = some h → mm_hok j pc n h)
def mm_S (l : Launch) (sc : Nat × (Nat → Int32)) (f : Nat) : Prop :=
  ∀ (p : Program) (e : Env) (R : Room) (s : State) (m : MethodId) (args : Array Value) (below : List Frame) (meth : Method) (c : Code) (xl : Nat → Nat) (D : va_G) (w0 : va_W) (A : Nat → Prop) (j d bT cT : Nat) (Q : State → Prop) (F : mm_F) (o : mm_O),
    mm_C p l R s m args meth c xl A sc j d → mm_ex (md_xa sc) f d j F = some o → bT ≤ R.cells + o.2.2.1 → cT ≤ R.slots + o.2.2.2 →
    (∀ F' : mm_F, mm_step (md_xa sc) j F' = some (.inr (.inl o)) → mm_G p l e R s m args below meth c xl D w0 A j bT cT Q F') →
    (∀ (n : Nat) (F' : mm_F), o = (.inr n, F'.2.2.2.1, F'.2.2.2.2.1, F'.2.2.2.2.2) → (md_mt j).2.2.2.2 = [] → mm_Gx p l e R s m args below meth c xl D w0 A j bT cT Q n F') →
    mm_G p l e R s m args below meth c xl D w0 A j bT cT Q F
theorem mm_slots : ∀ (vs : List Value), (lg_sl vs).length = (vs.map fun v => v.category).sum
  | [] => rfl
  | v :: vs => by
    have ih := mm_slots vs
    unfold lg_sl at ih ⊢
    rw [List.flatMap_cons, List.length_append, ih, List.map_cons, List.sum_cons]
    rcases lv_cat v with h | h <;> simp [h]
theorem mm_fin0 {p : Program} {l : Launch} {e : Env} {R : Room} {s : State} {m : MethodId} {args : Array Value} {below : List Frame} {meth : Method} {c : Code} {xl : Nat → Nat} {D : va_G} {w0 : va_W} {A : Nat → Prop} {sc : Nat × (Nat → Int32)} {j d bT cT sz mc ms : Nat} {o : mm_O} (P : mm_prog) (C : mm_C p l R s m args meth c xl A sc j d) (F' : mm_F) (h : mm_step (md_xa sc) j F' = some (.inr (.inl o))) (hA : A = va_A w0 sz) (hmc : mc + o.2.2.1 = bT) (hms : ms + o.2.2.2 = cT) (hRc : mc ≤ R.cells) (hRs : ms ≤ R.slots) :
    mm_G p l e R s m args below meth c xl D w0 A j bT cT (vx_MQ below (mm_Qr xl D w0 sz o) (mm_Qx xl D w0 sz o) args s mc ms A) F' := by
  unfold mm_step at h
  split at h
  · cases h
  · rename_i en hen
    obtain ⟨pc, lo, st, W0, b0, c0⟩ := F'
    obtain ⟨ins, nx, r1, r2, r3⟩ := en
    exact mm_fin C P.1 ins (P.2.1 _ _ _ hen) h hA hmc hms hRc hRs
theorem mm_meth {l : Launch} {sc : Nat × (Nat → Int32)} {f d j : Nat} {as : List Value} {W0 : mm_W} {b0 c0 : Nat} {o : mm_O} (P : mm_prog) (hl : l.stackTraces = false) (hS : mm_S l sc f) (h : mm_ex (md_xa sc) f d j (0, lv_args 0 as, [], W0, b0, c0) = some o) (hlen : ¬ (md_mt j).2.2.1 < (as.map fun v => v.category).sum) : mm_M l sc d j as W0 b0 c0 o := by
  intro xl D ws tys as' sz has hw
  have hbd := mm_ex_bd _ _ _ _ _ h
  dsimp only at hbd
  have key : ∀ (p : Program) (e : Env) (s : State) (m : MethodId) (args : Array Value) (below : List Frame) (meth : Method) (c : Code) (s₁ : State), BodyLoose p l (md_mt j).1 (headSpec (mm_ws j) (mm_rm d (b0 - o.2.2.1) (c0 - o.2.2.2))) (md_mt j).2.1 (md_mt j).2.2.1 (md_mt j).2.2.2.1 e s m args below meth c s₁ → c.maxLocals = (md_mt j).2.2.1 → c.exceptionTable.toList = Jvm.tableOf (md_mt j).2.2.2.2 → va_Pc as' (mm_Pc xl D sc ws tys sz) args s →
      W p l e (mm_rm d (b0 - o.2.2.1) (c0 - o.2.2.2)) s m args below meth c s.heap [] 0 0 (vx_MQ below (mm_Qr xl D ws sz o) (mm_Qx xl D ws sz o) args s (b0 - o.2.2.1) (c0 - o.2.2.2) (va_A ws sz)) (entryFrame m args (md_mt j).2.2.1) := by
    intro p e s m args below meth c s₁ B hml htab hv
    obtain ⟨rfl, hsz, hK, hP, hD0, hX⟩ := hv
    have hts := atoms_spec (ws := mm_ws j) B.pre
    have C : mm_C p l (mm_rm d (b0 - o.2.2.1) (c0 - o.2.2.2)) s m as'.toArray meth c xl (va_A ws sz) sc j d :=
      ⟨B.exec, B.bytes, hml, findClass_of_methodNamed B.named, fun w hw => hts w (List.mem_cons_of_mem _ hw), hX, fun q hq => Or.inr (by rw [← hsz]; exact hq), B.notSynchronized, B.returns, (name_of_methodNamed B.named B.method).1, htab, Nat.le_refl _, Nat.le_refl _, hl⟩
    have hlen' : (lg_sl as').length ≤ (md_mt j).2.2.1 := by
      rw [mm_slots, has.cats]
      omega
    have hlv := lv_entry as' hlen'
    rw [lg_entry_eq]
    generalize (lg_sl as' ++ List.replicate ((md_mt j).2.2.1 - (lg_sl as').length) Slot.unset).toArray = ls at hlv ⊢
    have hG := hS p e (mm_rm d (b0 - o.2.2.1) (c0 - o.2.2.2)) s m as'.toArray below meth c xl D ws (va_A ws sz) j d b0 c0 (vx_MQ below (mm_Qr xl D ws sz o) (mm_Qx xl D ws sz o) as'.toArray s (b0 - o.2.2.1) (c0 - o.2.2.2) (va_A ws sz)) _ o C h (by show b0 ≤ b0 - o.2.2.1 + o.2.2.1; omega) (by show c0 ≤ c0 - o.2.2.2 + o.2.2.2; omega)
      (fun F' hF => mm_fin0 P C F' hF rfl (by omega) (by omega) (Nat.le_refl _) (Nat.le_refl _))
      (fun n F' ho hh => mm_uncaught C hh rfl (by rw [ho]) (by rw [ho]) (by rw [ho]) (by rw [ho]) (by omega) (by omega))
    exact hG ws tys s.heap [] 0 0 ls [] ⟨mm_l.nil, ⟨_, hlv, mm_lo.args 0 has⟩, ⟨hw.1, hw.2.1, mm_le.rf⟩, hK, hP, hD0.self, va_S.rf, Nat.zero_add _, Nat.zero_add _⟩
  by_cases hh : (md_mt j).2.2.2.2 = []
  · refine vx_ofW (cc := (md_mt j).2.1) (maxL := (md_mt j).2.2.1) (ret := (md_mt j).2.2.2.1) (P.2.2.1 j) (mm_ws0 hh) ?_
    intro p e s m args below meth c s₁ B hml htab hv
    refine key p e s m args below meth c s₁ B hml ?_ hv
    rw [hh]
    exact List.eq_nil_iff_forall_not_mem.mpr fun x hx => htab x hx
  · refine vx_ofWH (cc := (md_mt j).2.1) (maxL := (md_mt j).2.2.1) (ret := (md_mt j).2.2.2.1) (hh := (md_mt j).2.2.2.2) (P.2.2.1 j) (mm_ws1 hh) ?_
    intro p e s m args below meth c s₁ B hml hv
    refine key p e s m args below meth c s₁ B hml ?_ hv
    have hts := atoms_spec (ws := mm_ws j) B.pre
    exact vx_table (x := (md_mt j).1) B (hts _ (by rw [mm_ws1 hh]; exact List.mem_cons_self))
theorem mm_sim {l : Launch} {sc : Nat × (Nat → Int32)} (P : mm_prog) (hl : l.stackTraces = false) : ∀ f, mm_S l sc f
  | 0 => fun _ _ _ _ _ _ _ _ _ _ _ _ _ _ _ _ _ _ _ _ _ h => by cases h
  | f + 1 => by
    have IH := mm_sim (sc := sc) P hl f
    intro p e R s m args below meth c xl D w0 A j d bT cT Q F o C h hb hc hterm hthrow
    obtain ⟨pc, lo, st, W0, b0, c0⟩ := F
    have h0 := h
    unfold mm_ex at h
    split at h
    · cases h
    · rename_i F' hs
      have h1 := mm_ex_bd _ _ _ _ _ h
      have k := IH p e R s m args below meth c xl D w0 A j d bT cT Q F' o C h hb hc hterm hthrow
      unfold mm_step at hs
      split at hs
      · cases hs
      · rename_i en hen
        obtain ⟨ins, nx, r1, r2, r3⟩ := en
        exact mm_next C P.1 ins (P.2.1 _ _ _ hen) hs (by omega) (by omega) k
    · rename_i o' hs
      cases h
      exact hterm _ hs
    · rename_i j' as nx fl G hs
      split at h
      · cases h
      · rename_i d'
        split at h
        · cases h
        · rename_i hlen
          have hsb := mm_step_bd hs
          split at h
          · cases h
          · rename_i v W2 b2 c2 hcall
            have hM := mm_meth P hl IH hcall hlen
            have h2 := mm_ex_bd _ _ _ _ _ hcall
            have h3 := mm_ex_bd _ _ _ _ _ h
            have k := IH p e R s m args below meth c xl D w0 A j (d' + 1) bT cT Q _ o C h hb hc hterm hthrow
            unfold mm_step at hs
            split at hs
            · cases hs
            · rename_i en hen
              obtain ⟨ins, nx0, r1, r2, r3⟩ := en
              refine mm_calls C P.1 ins (P.2.1 _ _ _ hen) hs hM (fun _ => ⟨v, rfl⟩) h2.1 h2.2 (Nat.le_trans hb (Nat.add_le_add_left h3.1 _)) (Nat.le_trans hc (Nat.add_le_add_left h3.2 _)) (fun v1 hv1 => ?_) (fun n hn => by cases hn)
              cases hv1
              exact k
          · rename_i E W2 b2 c2 hcall
            have hM := mm_meth P hl IH hcall hlen
            have h2 := mm_ex_bd _ _ _ _ _ hcall
            split at h
            · cases h
            · rename_i hfl
              unfold mm_step at hs
              split at hs
              · cases hs
              · rename_i en hen
                obtain ⟨ins, nx0, r1, r2, r3⟩ := en
                split at h
                · rename_i hh
                  cases h
                  refine mm_calls C P.1 ins (P.2.1 _ _ _ hen) hs hM (fun z => absurd z hfl) h2.1 h2.2 hb hc (fun v1 hv1 => by cases hv1) (fun n hn => ?_)
                  cases hn
                  exact hthrow E (G.1, G.2.1, G.2.2.1, W2, b2, c2) rfl hh
                · split at h
                  · cases h
                  · rename_i hp hhd
                    have h3 := mm_ex_bd _ _ _ _ _ h
                    have k := IH p e R s m args below meth c xl D w0 A j (d' + 1) bT cT Q _ o C h hb hc hterm hthrow
                    refine mm_calls C P.1 ins (P.2.1 _ _ _ hen) hs hM (fun z => absurd z hfl) h2.1 h2.2 (Nat.le_trans hb (Nat.add_le_add_left h3.1 _)) (Nat.le_trans hc (Nat.add_le_add_left h3.2 _)) (fun v1 hv1 => by cases hv1) (fun n hn => ?_)
                    cases hn
                    exact mm_catch C P.1 (P.2.2.2 _ _ _ _ hhd) k
end
section
/-! ===== the listing is looked at by program ===== -/
theorem mm_wTg {w : Jvm.Cond} (h : w ∈ lw_tbl) (h2 : goodWord w = true) : w ∈ md_Tg := List.mem_filter.mpr ⟨h, h2⟩
theorem mm_tb_in : ∀ (k : Nat) {w : Jvm.Cond}, w ∈ md_tb k → w ∈ lw_tbl := by
  intro k w h
  have t : tables_1 = tables_1_1 ++ (tables_1_2 ++ (tables_1_3 ++ (tables_1_4 ++ (tables_1_5 ++ (tables_1_6 ++ (tables_1_7 ++ (tables_1_8 ++ (tables_1_9 ++ tables_1_10)))))))) := rfl
  unfold lw_tbl
  rw [t]
  match k, h with
  | 0, h => exact List.mem_append_left _ h
  | 1, h => exact List.mem_append_right _ (List.mem_append_left _ h)
  | 2, h => exact List.mem_append_right _ (List.mem_append_right _ (List.mem_append_left _ h))
  | 3, h => exact List.mem_append_right _ (List.mem_append_right _ (List.mem_append_right _ (List.mem_append_left _ h)))
  | 4, h => exact List.mem_append_right _ (List.mem_append_right _ (List.mem_append_right _ (List.mem_append_right _ (List.mem_append_left _ h))))
  | 5, h => exact List.mem_append_right _ (List.mem_append_right _ (List.mem_append_right _ (List.mem_append_right _ (List.mem_append_right _ (List.mem_append_left _ h)))))
  | 6, h => exact List.mem_append_right _ (List.mem_append_right _ (List.mem_append_right _ (List.mem_append_right _ (List.mem_append_right _ (List.mem_append_right _ (List.mem_append_left _ h))))))
  | 7, h => exact List.mem_append_right _ (List.mem_append_right _ (List.mem_append_right _ (List.mem_append_right _ (List.mem_append_right _ (List.mem_append_right _ (List.mem_append_right _ (List.mem_append_left _ h)))))))
  | 8, h => exact List.mem_append_right _ (List.mem_append_right _ (List.mem_append_right _ (List.mem_append_right _ (List.mem_append_right _ (List.mem_append_right _ (List.mem_append_right _ (List.mem_append_right _ (List.mem_append_left _ h))))))))
  | 9, h => exact List.mem_append_right _ (List.mem_append_right _ (List.mem_append_right _ (List.mem_append_right _ (List.mem_append_right _ (List.mem_append_right _ (List.mem_append_right _ (List.mem_append_right _ (List.mem_append_right _ (List.mem_append_left _ h)))))))))
  | 10, h => exact List.mem_append_right _ (List.mem_append_right _ (List.mem_append_right _ (List.mem_append_right _ (List.mem_append_right _ (List.mem_append_right _ (List.mem_append_right _ (List.mem_append_right _ (List.mem_append_right _ (List.mem_append_right _ h)))))))))
  | n + 11, h => exact absurd h List.not_mem_nil
theorem mm_wmem (k i : Nat) {w : Jvm.Cond} (h : (md_tb k)[i]? = some w) (h2 : goodWord w = true) : w ∈ md_Tg := mm_wTg (mm_tb_in k (List.mem_of_getElem? h)) h2
def mm_hw (h : Nat) (w : Jvm.Cond) : Bool := decide ((md_tb (h / 1000))[h % 1000]? = some w) && goodWord w
theorem mm_hw_ok {h : Nat} {w : Jvm.Cond} (q : mm_hw h w = true) : w ∈ md_Tg := by
  unfold mm_hw at q
  simp only [Bool.and_eq_true, decide_eq_true_eq] at q
  exact mm_wmem _ _ q.1 q.2
/-- words at their places -/
def mm_hws : List Nat → List Jvm.Cond → Bool
  | _, [] => true
  | h :: hs, w :: ws => mm_hw h w && mm_hws hs ws
  | [], _ :: _ => false
theorem mm_hws_ok : ∀ {hs : List Nat} {ws : List Jvm.Cond}, mm_hws hs ws = true → ∀ w ∈ ws, w ∈ md_Tg
  | _, [], _, w, h => absurd h List.not_mem_nil
  | h :: hs, w :: ws, q, z, hz => by
    simp only [mm_hws, Bool.and_eq_true] at q
    rcases List.mem_cons.mp hz with rfl | hz
    · exact mm_hw_ok q.1
    · exact mm_hws_ok q.2 z hz
  | [], _ :: _, q, _, _ => by cases q
def mm_dcb (j pc : Nat) (e : mm_Ent) : Bool := decide (decode (md_mt j).2.1 pc = .ok (e.1, mm_len e.1)) && decide (e.2.1 = pc + mm_len e.1)
def mm_tycb (r3 : Nat) (ty : Option FieldType) : Bool :=
  match r3, ty with
  | 0, some .int => true
  | 1, some .long => true
  | 2, some .boolean => true
  | 3, some (.object _) => true
  | 3, some (.array _) => true
  | _, _ => false
theorem mm_tycb_ok {r3 : Nat} {ty : Option FieldType} (h : mm_tycb r3 ty = true) : ∃ t, ty = some t ∧ mm_tyc r3 t := by
  unfold mm_tycb at h
  split at h
  · exact ⟨_, rfl, Or.inl ⟨rfl, rfl⟩⟩
  · exact ⟨_, rfl, Or.inr (Or.inl ⟨rfl, rfl⟩)⟩
  · exact ⟨_, rfl, Or.inr (Or.inr (Or.inl ⟨rfl, rfl⟩))⟩
  · exact ⟨_, rfl, Or.inr (Or.inr (Or.inr ⟨rfl, Or.inl ⟨_, rfl⟩⟩))⟩
  · exact ⟨_, rfl, Or.inr (Or.inr (Or.inr ⟨rfl, Or.inr ⟨_, rfl⟩⟩))⟩
  · cases h
def mm_rcvb (r3 : Nat) (E : String) : Bool := if r3 < 1000 then (match md_cl[r3]? with | some c => decide (c.1 = E) | none => false) else decide (md_xcn (r3 - 1000) = E)
theorem mm_rcvb_ok {r3 : Nat} {E : String} (h : mm_rcvb r3 E = true) : mm_rcv r3 E := by
  unfold mm_rcvb at h
  split at h
  · rename_i hlt
    split at h
    · rename_i c hc
      have h2 : c.1 = E := by simpa using h
      subst h2
      exact Or.inl ⟨hlt, c.2.1, c.2.2, hc⟩
    · cases h
  · rename_i hlt
    exact Or.inr ⟨by omega, by simpa using h⟩
def md_ux : MethodName := ⟨"PaintBank$Word", "ordinal", "()I"⟩
def mm_chkE (j : Nat) (q : mm_Ln) : Bool :=
  let pc := q.1
  let e := q.2.1
  let hs := q.2.2
  let own := (md_mt j).1.cls
  match e.1 with
  | .tableswitch a b c d => decide (decode (md_mt j).2.1 pc = .ok (.tableswitch a b c d, e.2.1))
  | .lookupswitch a ps => decide (decode (md_mt j).2.1 pc = .ok (.lookupswitch a ps, e.2.1)) && (ps.toList.zip (ps.toList.drop 1)).all (fun (a, next) => a.1 < next.1)
  | .istore i => mm_dcb j pc e && decide (i < (md_mt j).2.2.1)
  | .istore_n i => mm_dcb j pc e && decide ((i : Nat) < (md_mt j).2.2.1)
  | .lstore i => mm_dcb j pc e && decide (i + 1 < (md_mt j).2.2.1)
  | .lstore_n i => mm_dcb j pc e && decide ((i : Nat) + 1 < (md_mt j).2.2.1)
  | .astore i => mm_dcb j pc e && decide (i < (md_mt j).2.2.1)
  | .astore_n i => mm_dcb j pc e && decide ((i : Nat) < (md_mt j).2.2.1)
  | .iinc i _ => mm_dcb j pc e && decide (i < (md_mt j).2.2.1)
  | .ifCond _ off => mm_dcb j pc e && decide ((pc : Int) + off = (e.2.2.1 : Int))
  | .if_icmp _ off => mm_dcb j pc e && decide ((pc : Int) + off = (e.2.2.1 : Int))
  | .if_acmp _ off => mm_dcb j pc e && decide ((pc : Int) + off = (e.2.2.1 : Int))
  | .goto off => mm_dcb j pc e && decide ((pc : Int) + off = (e.2.2.1 : Int))
  | .ldc i => mm_dcb j pc e && (if e.2.2.1 = 0 then mm_hws hs [.constant own i (Int32.ofNat e.2.2.2.1)] else md_sr.any (fun z => decide (z.1 = own) && decide (z.2.1 = i) && decide (z.2.2.2 = e.2.2.2.1)))
  | .ldc_w i => mm_dcb j pc e && mm_hws hs [.constant own i (Int32.ofNat e.2.2.2.1)]
  | .ldc2_w i => mm_dcb j pc e && mm_hws hs [.constantLong own i (Int64.ofNat e.2.2.1)]
  | .getstatic i => mm_dcb j pc e && (if e.2.2.2.2 = 0 then decide (e.2.2.1 < md_nst) && mm_hws hs [.fieldLink own i (md_stn e.2.2.1).1 (md_stn e.2.2.1).2.1 (md_stn e.2.2.1).2.2] else
      match md_sq[e.2.2.1]? with | some z => mm_hws hs [.fieldLink own i z.1 z.2.1 z.2.2] | none => false)
  | .getfield i => mm_dcb j pc e && (if e.2.2.2.2 = 0 then (match md_cl[e.2.2.1]? with | some c => decide (e.2.2.2.1 < c.2.2) && mm_hws hs [.fieldLink own i (c.2.1 e.2.2.2.1).1 (c.2.1 e.2.2.2.1).2.1 (c.2.1 e.2.2.2.1).2.2.1] | none => false)
      else mm_hws hs [.fieldLink own i (md_xf e.2.2.1).1 (md_xf e.2.2.1).2.1 (md_xf e.2.2.1).2.2])
  | .putfield i => mm_dcb j pc e && (match md_cl[e.2.2.1]? with
      | some c => decide (e.2.2.2.1 < c.2.2) && mm_hws hs [.fieldLink own i (c.2.1 e.2.2.2.1).1 (c.2.1 e.2.2.2.1).2.1 (c.2.1 e.2.2.2.1).2.2.1] && mm_tycb e.2.2.2.2 (parseFieldDescriptor (c.2.1 e.2.2.2.1).2.2.1) && (!(c.2.1 e.2.2.2.1).2.2.2 || (decide ((md_mt j).1.name = "<init>") && decide ((c.2.1 e.2.2.2.1).1 = own)))
      | none => false)
  | .new i => mm_dcb j pc e && (if e.2.2.2.2 = 0 then (match md_cl[e.2.2.1]? with
      | some c => decide ((md_df e.2.2.1).length = c.2.2) && mm_hws hs [.classLink own i c.1, .instantiable c.1 c.2.2, .initialized c.1]
      | none => false) else decide ((j, pc, i, e.2.2.1) ∈ md_thl))
  | .newarray a => mm_dcb j pc e && decide (newarray.typeOf a = md_ty e.2.2.1) && decide (e.2.2.1 ≤ 3) && mm_hws hs [.arrayClass (md_ty e.2.2.1)]
  | .anewarray i => mm_dcb j pc e && decide (4 ≤ e.2.2.1) && (match md_ty e.2.2.1 with | .object E => mm_hws hs [.classLink own i E] && decide (E ∈ md_ao) | _ => false)
  | .invokevirtual i => mm_dcb j pc e && decide (1 ≤ e.2.2.1) && decide (e.2.2.1 < md_nM) && decide (e.2.2.2.1 % 16 = md_np e.2.2.1) && (md_mt e.2.2.1).2.2.2.2.isEmpty &&
      (if e.2.2.2.1 / 16 = 0 then mm_rcvb e.2.2.2.2 (md_mt e.2.2.1).1.cls && mm_hws hs [.methodLink own i (md_mt e.2.2.1).1, .instanceMethod (md_mt e.2.2.1).1, .selects (md_mt e.2.2.1).1.cls (md_mt e.2.2.1).1 (md_mt e.2.2.1).1, .initialized (md_mt e.2.2.1).1.cls]
       else decide (e.2.2.2.1 / 16 = 2) && decide ((md_mt e.2.2.1).1 = ⟨(md_mt e.2.2.1).1.cls, md_ux.name, md_ux.desc⟩) && mm_rcvb e.2.2.2.2 md_ux.cls && mm_hws hs [.methodLink own i md_ux, .sameMethod md_ux.cls (md_mt e.2.2.1).1.cls md_ux.name md_ux.desc, .selects md_ux.cls md_ux (md_mt e.2.2.1).1, .instanceMethod (md_mt e.2.2.1).1, .initialized (md_mt e.2.2.1).1.cls])
  | .invokestatic i => mm_dcb j pc e &&
      (if e.2.2.2.1 / 16 = 1 then decide (1 ≤ e.2.2.1) && decide (e.2.2.1 < md_nM) && decide (e.2.2.2.1 % 16 = md_np e.2.2.1) && mm_hws hs [.methodLink own i (md_mt e.2.2.1).1, .static (md_mt e.2.2.1).1, .initialized (md_mt e.2.2.1).1.cls]
       else decide (e.2.2.2.1 / 16 = 6) && mm_hws hs [.methodLink own i arraycopyName, .native arraycopyName, .static arraycopyName, .initialized "java/lang/System"])
  | .invokespecial i => mm_dcb j pc e &&
      (if e.2.2.2.1 / 16 = 2 then decide (1 ≤ e.2.2.1) && decide (e.2.2.1 < md_nM) && decide (e.2.2.2.1 % 16 = md_np e.2.2.1) && (md_mt e.2.2.1).2.2.2.2.isEmpty && (md_mt e.2.2.1).2.2.2.1.isNone && decide ((md_mt e.2.2.1).1.name = "<init>") && mm_hws hs [.instanceMethod (md_mt e.2.2.1).1, .initialized (md_mt e.2.2.1).1.cls] &&
         (mm_hws (hs.drop 2) [.methodLink own i (md_mt e.2.2.1).1] || decide ((own, i, (md_mt e.2.2.1).1, "PaintBank") ∈ md_nw))
       else decide (e.2.2.2.1 / 16 = 5) && mm_hws hs [.methodLink own i Lib.objectInit, .instanceMethod Lib.objectInit, .code Lib.objectInit ⟨#[0xb1]⟩ 1 none])
  | _ => mm_dcb j pc e
def mm_chkM (j : Nat) (L : List (List mm_Ln)) : Bool := L.all (fun ch => ch.all (fun q => mm_chkE j q))
def mm_chkAll : Nat → List (List (List mm_Ln)) → Prop
  | _, [] => True
  | j, L :: r => mm_chkM j L = true ∧ mm_chkAll (j + 1) r
theorem mm_chkAll_at : ∀ {c : List (List (List mm_Ln))} {j i : Nat} {L : List (List mm_Ln)}, mm_chkAll j c → c[i]? = some L → mm_chkM (j + i) L = true
  | [], _, i, _, _, h => by simp at h
  | L0 :: r, j, 0, L, hc, h => by
    rw [List.getElem?_cons_zero] at h
    cases h
    exact hc.1
  | L0 :: r, j, i + 1, L, hc, h => by
    rw [List.getElem?_cons_succ] at h
    have := mm_chkAll_at hc.2 h
    rwa [show j + 1 + i = j + (i + 1) by omega] at this
theorem mm_find_in : ∀ {l : List mm_Ln} {pc : Nat} {e : mm_Ent}, mm_find pc l = some e → ∃ hs, (pc, e, hs) ∈ l
  | [], _, _, h => by cases h
  | q :: l, pc, e, h => by
    unfold mm_find at h
    split at h
    · rename_i hq
      cases h
      subst hq
      exact ⟨q.2.2, List.mem_cons_self⟩
    · obtain ⟨hs, h2⟩ := mm_find_in h
      exact ⟨hs, List.mem_cons_of_mem _ h2⟩
theorem mm_dcb_ok {j pc : Nat} {e : mm_Ent} (h : mm_dcb j pc e = true) : mm_dc j pc e := by
  unfold mm_dcb at h
  simp only [Bool.and_eq_true, decide_eq_true_eq] at h
  exact h
theorem mm_chkE_ok (hcal : ∀ r, 1 ≤ r → r < md_nM → mm_cal r (md_np r)) (hthr : ∀ q ∈ md_thl, mm_thr q.1 q.2.1 q.2.2.1 q.2.2.2) {j pc : Nat} {e : mm_Ent} {hs : List Nat} (h : mm_chkE j (pc, e, hs) = true) : mm_ok j pc e := by
  obtain ⟨ins, nx, r1, r2, r3⟩ := e
  cases ins with
  | tableswitch a b c d =>
    have h2 : decide (decode (md_mt j).2.1 pc = .ok (.tableswitch a b c d, nx)) = true := h
    have h3 := of_decide_eq_true h2
    exact h3
  | lookupswitch a ps =>
    have h2 : (decide (decode (md_mt j).2.1 pc = .ok (.lookupswitch a ps, nx)) && (ps.toList.zip (ps.toList.drop 1)).all (fun (a, next) => a.1 < next.1)) = true := h
    simp only [Bool.and_eq_true, decide_eq_true_eq] at h2
    exact h2
  | istore i => simp only [mm_chkE, Bool.and_eq_true, decide_eq_true_eq] at h; exact ⟨mm_dcb_ok h.1, h.2⟩
  | istore_n i => simp only [mm_chkE, Bool.and_eq_true, decide_eq_true_eq] at h; exact ⟨mm_dcb_ok h.1, h.2⟩
  | lstore i => simp only [mm_chkE, Bool.and_eq_true, decide_eq_true_eq] at h; exact ⟨mm_dcb_ok h.1, h.2⟩
  | lstore_n i => simp only [mm_chkE, Bool.and_eq_true, decide_eq_true_eq] at h; exact ⟨mm_dcb_ok h.1, h.2⟩
  | astore i => simp only [mm_chkE, Bool.and_eq_true, decide_eq_true_eq] at h; exact ⟨mm_dcb_ok h.1, h.2⟩
  | astore_n i => simp only [mm_chkE, Bool.and_eq_true, decide_eq_true_eq] at h; exact ⟨mm_dcb_ok h.1, h.2⟩
  | iinc i n => simp only [mm_chkE, Bool.and_eq_true, decide_eq_true_eq] at h; exact ⟨mm_dcb_ok h.1, h.2⟩
  | ifCond cd off => simp only [mm_chkE, Bool.and_eq_true, decide_eq_true_eq] at h; exact ⟨mm_dcb_ok h.1, h.2⟩
  | if_icmp cd off => simp only [mm_chkE, Bool.and_eq_true, decide_eq_true_eq] at h; exact ⟨mm_dcb_ok h.1, h.2⟩
  | if_acmp cd off => simp only [mm_chkE, Bool.and_eq_true, decide_eq_true_eq] at h; exact ⟨mm_dcb_ok h.1, h.2⟩
  | goto off => simp only [mm_chkE, Bool.and_eq_true, decide_eq_true_eq] at h; exact ⟨mm_dcb_ok h.1, h.2⟩
  | ldc i =>
    simp only [mm_chkE, Bool.and_eq_true] at h
    refine ⟨mm_dcb_ok h.1, fun h0 => ?_, fun h0 => ?_⟩
    · have h0' : r1 = 0 := h0
      rw [if_pos h0'] at h
      exact mm_hws_ok h.2 _ (by simp)
    · have h0' : ¬ r1 = 0 := h0
      rw [if_neg h0'] at h
      obtain ⟨z, hz, h3⟩ := List.any_eq_true.mp h.2
      simp only [Bool.and_eq_true, decide_eq_true_eq] at h3
      obtain ⟨⟨h4, h5⟩, h6⟩ := h3
      refine ⟨z.2.2.1, ?_⟩
      show ((md_mt j).1.cls, i, z.2.2.1, r2) ∈ md_sr
      rw [← h4, ← h5, ← h6]
      exact hz
  | ldc_w i => simp only [mm_chkE, Bool.and_eq_true] at h; exact ⟨mm_dcb_ok h.1, mm_hws_ok h.2 _ (by simp)⟩
  | ldc2_w i => simp only [mm_chkE, Bool.and_eq_true] at h; exact ⟨mm_dcb_ok h.1, mm_hws_ok h.2 _ (by simp)⟩
  | getstatic i =>
    simp only [mm_chkE, Bool.and_eq_true] at h
    refine ⟨mm_dcb_ok h.1, fun h0 => ?_, fun h0 => ?_⟩
    · have h0' : r3 = 0 := h0
      rw [if_pos h0'] at h
      simp only [Bool.and_eq_true, decide_eq_true_eq] at h
      exact ⟨h.2.1, mm_hws_ok h.2.2 _ (by simp)⟩
    · have h0' : ¬ r3 = 0 := h0
      rw [if_neg h0'] at h
      have h2 := h.2
      split at h2
      · rename_i z hz
        exact ⟨z, List.mem_of_getElem? hz, mm_hws_ok h2 _ (by simp)⟩
      · cases h2
  | getfield i =>
    simp only [mm_chkE, Bool.and_eq_true] at h
    refine ⟨mm_dcb_ok h.1, fun h0 => ?_, fun h0 => ?_⟩
    · have h0' : r3 = 0 := h0
      rw [if_pos h0'] at h
      have h2 := h.2
      split at h2
      · rename_i z hz
        simp only [Bool.and_eq_true, decide_eq_true_eq] at h2
        exact ⟨z.1, z.2.1, z.2.2, hz, h2.1, mm_hws_ok h2.2 _ (by simp)⟩
      · cases h2
    · have h0' : ¬ r3 = 0 := h0
      rw [if_neg h0'] at h
      exact mm_hws_ok h.2 _ (by simp)
  | putfield i =>
    simp only [mm_chkE, Bool.and_eq_true] at h
    refine ⟨mm_dcb_ok h.1, ?_⟩
    have h2 := h.2
    split at h2
    · rename_i z hz
      simp only [Bool.and_eq_true, decide_eq_true_eq, Bool.or_eq_true, Bool.not_eq_true'] at h2
      obtain ⟨⟨⟨h3, h4⟩, h5⟩, h6⟩ := h2
      obtain ⟨t, h7, h8⟩ := mm_tycb_ok h5
      refine ⟨z.1, z.2.1, z.2.2, t, hz, h3, mm_hws_ok h4 _ (by simp), h7, h8, fun hf => ?_⟩
      rcases h6 with h6 | h6
      · rw [hf] at h6; cases h6
      · exact h6
    · cases h2
  | new i =>
    simp only [mm_chkE, Bool.and_eq_true] at h
    refine ⟨mm_dcb_ok h.1, fun h0 => ?_, fun h0 => ?_⟩
    · have h0' : r3 = 0 := h0
      rw [if_pos h0'] at h
      have h2 := h.2
      split at h2
      · rename_i z hz
        simp only [Bool.and_eq_true, decide_eq_true_eq] at h2
        exact ⟨z.1, z.2.1, z.2.2, hz, h2.1, mm_hws_ok h2.2 _ (by simp), mm_hws_ok h2.2 _ (by simp), mm_hws_ok h2.2 _ (by simp)⟩
      · cases h2
    · have h0' : ¬ r3 = 0 := h0
      rw [if_neg h0'] at h
      have h2 : (j, pc, i, r1) ∈ md_thl := of_decide_eq_true h.2
      have h3 : mm_thr j pc i r1 := hthr (j, pc, i, r1) h2
      exact h3
  | newarray a =>
    simp only [mm_chkE, Bool.and_eq_true, decide_eq_true_eq] at h
    exact ⟨mm_dcb_ok h.1.1.1, h.1.1.2, h.1.2, mm_hws_ok h.2 _ (by simp)⟩
  | anewarray i =>
    simp only [mm_chkE, Bool.and_eq_true, decide_eq_true_eq] at h
    refine ⟨mm_dcb_ok h.1.1, h.1.2, ?_⟩
    have h2 := h.2
    split at h2
    · rename_i E hE
      simp only [Bool.and_eq_true, decide_eq_true_eq] at h2
      exact ⟨E, hE, mm_hws_ok h2.1 _ (by simp), h2.2⟩
    · cases h2
  | invokevirtual i =>
    simp only [mm_chkE, Bool.and_eq_true, decide_eq_true_eq] at h
    obtain ⟨⟨⟨⟨⟨h1, h2⟩, h3⟩, h4⟩, h5⟩, h6⟩ := h
    refine ⟨mm_dcb_ok h1, by show mm_cal r1 (r2 % 16); rw [h4]; exact hcal r1 h2 h3, List.isEmpty_iff.mp h5, ?_, fun h0 => ?_, fun h0 => ?_⟩
    · by_cases hz : r2 / 16 = 0
      · exact Or.inl hz
      · rw [if_neg hz] at h6
        simp only [Bool.and_eq_true, decide_eq_true_eq] at h6
        exact Or.inr h6.1.1.1
    · have h0' : r2 / 16 = 0 := h0
      rw [if_pos h0'] at h6
      simp only [Bool.and_eq_true] at h6
      exact ⟨mm_rcvb_ok h6.1, mm_hws_ok h6.2⟩
    · have h0' : r2 / 16 = 2 := h0
      rw [if_neg (by omega)] at h6
      simp only [Bool.and_eq_true, decide_eq_true_eq] at h6
      exact ⟨md_ux, h6.1.1.2, mm_rcvb_ok h6.1.2, mm_hws_ok h6.2⟩
  | invokestatic i =>
    simp only [mm_chkE, Bool.and_eq_true] at h
    refine ⟨mm_dcb_ok h.1, ?_⟩
    have h6 := h.2
    by_cases hz : r2 / 16 = 1
    · rw [if_pos hz] at h6
      simp only [Bool.and_eq_true, decide_eq_true_eq] at h6
      obtain ⟨⟨⟨h2, h3⟩, h4⟩, h5⟩ := h6
      exact Or.inl ⟨hz, by show mm_cal r1 (r2 % 16); rw [h4]; exact hcal r1 h2 h3, mm_hws_ok h5⟩
    · rw [if_neg hz] at h6
      simp only [Bool.and_eq_true, decide_eq_true_eq] at h6
      exact Or.inr ⟨h6.1, mm_hws_ok h6.2⟩
  | invokespecial i =>
    simp only [mm_chkE, Bool.and_eq_true] at h
    refine ⟨mm_dcb_ok h.1, ?_⟩
    have h6 := h.2
    by_cases hz : r2 / 16 = 2
    · rw [if_pos hz] at h6
      simp only [Bool.and_eq_true, decide_eq_true_eq, Bool.or_eq_true] at h6
      obtain ⟨⟨⟨⟨⟨⟨⟨h2, h3⟩, h4⟩, h5⟩, h7⟩, h8⟩, h9⟩, h10⟩ := h6
      refine Or.inl ⟨hz, by show mm_cal r1 (r2 % 16); rw [h4]; exact hcal r1 h2 h3, List.isEmpty_iff.mp h5, Option.isNone_iff_eq_none.mp h7, h8, mm_hws_ok h9, ?_⟩
      rcases h10 with h10 | h10
      · exact Or.inl (mm_hws_ok h10 _ (by simp))
      · exact Or.inr ⟨_, h10⟩
    · rw [if_neg hz] at h6
      simp only [Bool.and_eq_true, decide_eq_true_eq] at h6
      exact Or.inr ⟨h6.1, mm_hws_ok h6.2⟩
  | _ => exact mm_dcb_ok h
end
section
set_option maxRecDepth 1000000 in
theorem md_k1 : mm_chkM 1 md_L1 = true := by decide +kernel
set_option maxRecDepth 1000000 in
theorem md_k2 : mm_chkM 2 md_L2 = true := by decide +kernel
set_option maxRecDepth 1000000 in
theorem md_k3 : mm_chkM 3 md_L3 = true := by decide +kernel
set_option maxRecDepth 1000000 in
theorem md_k4 : mm_chkM 4 md_L4 = true := by decide +kernel
set_option maxRecDepth 1000000 in
theorem md_k5 : mm_chkM 5 md_L5 = true := by decide +kernel
set_option maxRecDepth 1000000 in
theorem md_k6 : mm_chkM 6 md_L6 = true := by decide +kernel
set_option maxRecDepth 1000000 in
theorem md_k7 : mm_chkM 7 md_L7 = true := by decide +kernel
set_option maxRecDepth 1000000 in
theorem md_k8 : mm_chkM 8 md_L8 = true := by decide +kernel
set_option maxRecDepth 1000000 in
theorem md_k9 : mm_chkM 9 md_L9 = true := by decide +kernel
set_option maxRecDepth 1000000 in
theorem md_k10 : mm_chkM 10 md_L10 = true := by decide +kernel
set_option maxRecDepth 1000000 in
theorem md_k11 : mm_chkM 11 md_L11 = true := by decide +kernel
set_option maxRecDepth 1000000 in
theorem md_k12 : mm_chkM 12 md_L12 = true := by decide +kernel
set_option maxRecDepth 1000000 in
theorem md_k13 : mm_chkM 13 md_L13 = true := by decide +kernel
set_option maxRecDepth 1000000 in
theorem md_k14 : mm_chkM 14 md_L14 = true := by decide +kernel
set_option maxRecDepth 1000000 in
theorem md_k15 : mm_chkM 15 md_L15 = true := by decide +kernel
set_option maxRecDepth 1000000 in
theorem md_k16 : mm_chkM 16 md_L16 = true := by decide +kernel
set_option maxRecDepth 1000000 in
theorem md_k17 : mm_chkM 17 md_L17 = true := by decide +kernel
set_option maxRecDepth 1000000 in
theorem md_k18 : mm_chkM 18 md_L18 = true := by decide +kernel
set_option maxRecDepth 1000000 in
theorem md_k19 : mm_chkM 19 md_L19 = true := by decide +kernel
set_option maxRecDepth 1000000 in
theorem md_k20 : mm_chkM 20 md_L20 = true := by decide +kernel
set_option maxRecDepth 1000000 in
theorem md_k21 : mm_chkM 21 md_L21 = true := by decide +kernel
set_option maxRecDepth 1000000 in
theorem md_k22 : mm_chkM 22 md_L22 = true := by decide +kernel
set_option maxRecDepth 1000000 in
theorem md_k23 : mm_chkM 23 md_L23 = true := by decide +kernel
set_option maxRecDepth 1000000 in
theorem md_k24 : mm_chkM 24 md_L24 = true := by decide +kernel
set_option maxRecDepth 1000000 in
theorem md_k25 : mm_chkM 25 md_L25 = true := by decide +kernel
set_option maxRecDepth 1000000 in
theorem md_k26 : mm_chkM 26 md_L26 = true := by decide +kernel
set_option maxRecDepth 1000000 in
theorem md_k27 : mm_chkM 27 md_L27 = true := by decide +kernel
set_option maxRecDepth 1000000 in
theorem md_k28 : mm_chkM 28 md_L28 = true := by decide +kernel
set_option maxRecDepth 1000000 in
theorem md_k29 : mm_chkM 29 md_L29 = true := by decide +kernel
set_option maxRecDepth 1000000 in
theorem md_k30 : mm_chkM 30 md_L30 = true := by decide +kernel
set_option maxRecDepth 1000000 in
theorem md_k31 : mm_chkM 31 md_L31 = true := by decide +kernel
set_option maxRecDepth 1000000 in
theorem md_k32 : mm_chkM 32 md_L32 = true := by decide +kernel
set_option maxRecDepth 1000000 in
theorem md_k33 : mm_chkM 33 md_L33 = true := by decide +kernel
set_option maxRecDepth 1000000 in
theorem md_k34 : mm_chkM 34 md_L34 = true := by decide +kernel
set_option maxRecDepth 1000000 in
theorem md_k35 : mm_chkM 35 md_L35 = true := by decide +kernel
set_option maxRecDepth 1000000 in
theorem md_k36 : mm_chkM 36 md_L36 = true := by decide +kernel
set_option maxRecDepth 1000000 in
theorem md_k37 : mm_chkM 37 md_L37 = true := by decide +kernel
set_option maxRecDepth 1000000 in
theorem md_k38 : mm_chkM 38 md_L38 = true := by decide +kernel
set_option maxRecDepth 1000000 in
theorem md_k39 : mm_chkM 39 md_L39 = true := by decide +kernel
set_option maxRecDepth 1000000 in
theorem md_k40 : mm_chkM 40 md_L40 = true := by decide +kernel
set_option maxRecDepth 1000000 in
theorem md_k41 : mm_chkM 41 md_L41 = true := by decide +kernel
set_option maxRecDepth 1000000 in
theorem md_k42 : mm_chkM 42 md_L42 = true := by decide +kernel
set_option maxRecDepth 1000000 in
theorem md_k43 : mm_chkM 43 md_L43 = true := by decide +kernel
set_option maxRecDepth 1000000 in
theorem md_k44 : mm_chkM 44 md_L44 = true := by decide +kernel
set_option maxRecDepth 1000000 in
theorem md_k45 : mm_chkM 45 md_L45 = true := by decide +kernel
set_option maxRecDepth 1000000 in
theorem md_k46 : mm_chkM 46 md_L46 = true := by decide +kernel
set_option maxRecDepth 1000000 in
theorem md_k47 : mm_chkM 47 md_L47 = true := by decide +kernel
set_option maxRecDepth 1000000 in
theorem md_k48 : mm_chkM 48 md_L48 = true := by decide +kernel
set_option maxRecDepth 1000000 in
theorem md_k49 : mm_chkM 49 md_L49 = true := by decide +kernel
set_option maxRecDepth 1000000 in
theorem md_k50 : mm_chkM 50 md_L50 = true := by decide +kernel
set_option maxRecDepth 1000000 in
theorem md_k51 : mm_chkM 51 md_L51 = true := by decide +kernel
set_option maxRecDepth 1000000 in
theorem md_k52 : mm_chkM 52 md_L52 = true := by decide +kernel
set_option maxRecDepth 1000000 in
theorem md_k53 : mm_chkM 53 md_L53 = true := by decide +kernel
set_option maxRecDepth 1000000 in
theorem md_k54 : mm_chkM 54 md_L54 = true := by decide +kernel
set_option maxRecDepth 1000000 in
theorem md_k55 : mm_chkM 55 md_L55 = true := by decide +kernel
set_option maxRecDepth 1000000 in
theorem md_k56 : mm_chkM 56 md_L56 = true := by decide +kernel
set_option maxRecDepth 1000000 in
theorem md_k57 : mm_chkM 57 md_L57 = true := by decide +kernel
set_option maxRecDepth 1000000 in
theorem md_k58 : mm_chkM 58 md_L58 = true := by decide +kernel
set_option maxRecDepth 1000000 in
theorem md_k59 : mm_chkM 59 md_L59 = true := by decide +kernel
set_option maxRecDepth 1000000 in
theorem md_k60 : mm_chkM 60 md_L60 = true := by decide +kernel
set_option maxRecDepth 1000000 in
theorem md_k61 : mm_chkM 61 md_L61 = true := by decide +kernel
set_option maxRecDepth 1000000 in
theorem md_k62 : mm_chkM 62 md_L62 = true := by decide +kernel
set_option maxRecDepth 1000000 in
theorem md_k63 : mm_chkM 63 md_L63 = true := by decide +kernel
set_option maxRecDepth 1000000 in
theorem md_k64 : mm_chkM 64 md_L64 = true := by decide +kernel
set_option maxRecDepth 1000000 in
theorem md_k65 : mm_chkM 65 md_L65 = true := by decide +kernel
set_option maxRecDepth 1000000 in
theorem md_k66 : mm_chkM 66 md_L66 = true := by decide +kernel
set_option maxRecDepth 1000000 in
theorem md_k67 : mm_chkM 67 md_L67 = true := by decide +kernel
set_option maxRecDepth 1000000 in
theorem md_k68 : mm_chkM 68 md_L68 = true := by decide +kernel
set_option maxRecDepth 1000000 in
theorem md_k69 : mm_chkM 69 md_L69 = true := by decide +kernel
set_option maxRecDepth 1000000 in
theorem md_k70 : mm_chkM 70 md_L70 = true := by decide +kernel
set_option maxRecDepth 1000000 in
theorem md_k71 : mm_chkM 71 md_L71 = true := by decide +kernel
set_option maxRecDepth 1000000 in
theorem md_k72 : mm_chkM 72 md_L72 = true := by decide +kernel
set_option maxRecDepth 1000000 in
theorem md_k73 : mm_chkM 73 md_L73 = true := by decide +kernel
set_option maxRecDepth 1000000 in
theorem md_k74 : mm_chkM 74 md_L74 = true := by decide +kernel
set_option maxRecDepth 1000000 in
theorem md_k75 : mm_chkM 75 md_L75 = true := by decide +kernel
set_option maxRecDepth 1000000 in
theorem md_k76 : mm_chkM 76 md_L76 = true := by decide +kernel
set_option maxRecDepth 1000000 in
theorem md_k77 : mm_chkM 77 md_L77 = true := by decide +kernel
set_option maxRecDepth 1000000 in
theorem md_k78 : mm_chkM 78 md_L78 = true := by decide +kernel
set_option maxRecDepth 1000000 in
theorem md_k79 : mm_chkM 79 md_L79 = true := by decide +kernel
set_option maxRecDepth 1000000 in
theorem md_k80 : mm_chkM 80 md_L80 = true := by decide +kernel
set_option maxRecDepth 1000000 in
theorem md_k81 : mm_chkM 81 md_L81 = true := by decide +kernel
set_option maxRecDepth 1000000 in
theorem md_k82 : mm_chkM 82 md_L82 = true := by decide +kernel
set_option maxRecDepth 1000000 in
theorem md_k83 : mm_chkM 83 md_L83 = true := by decide +kernel
set_option maxRecDepth 1000000 in
theorem md_k84 : mm_chkM 84 md_L84 = true := by decide +kernel
set_option maxRecDepth 1000000 in
theorem md_k85 : mm_chkM 85 md_L85 = true := by decide +kernel
set_option maxRecDepth 1000000 in
theorem md_k86 : mm_chkM 86 md_L86 = true := by decide +kernel
set_option maxRecDepth 1000000 in
theorem md_k87 : mm_chkM 87 md_L87 = true := by decide +kernel
set_option maxRecDepth 1000000 in
theorem md_k88 : mm_chkM 88 md_L88 = true := by decide +kernel
set_option maxRecDepth 1000000 in
theorem md_k89 : mm_chkM 89 md_L89 = true := by decide +kernel
set_option maxRecDepth 1000000 in
theorem md_k90 : mm_chkM 90 md_L90 = true := by decide +kernel
set_option maxRecDepth 1000000 in
theorem md_k91 : mm_chkM 91 md_L91 = true := by decide +kernel
set_option maxRecDepth 1000000 in
theorem md_k92 : mm_chkM 92 md_L92 = true := by decide +kernel
set_option maxRecDepth 1000000 in
theorem md_k93 : mm_chkM 93 md_L93 = true := by decide +kernel
set_option maxRecDepth 1000000 in
theorem md_k94 : mm_chkM 94 md_L94 = true := by decide +kernel
set_option maxRecDepth 1000000 in
theorem md_k95 : mm_chkM 95 md_L95 = true := by decide +kernel
set_option maxRecDepth 1000000 in
theorem md_k96 : mm_chkM 96 md_L96 = true := by decide +kernel
set_option maxRecDepth 1000000 in
theorem md_k97 : mm_chkM 97 md_L97 = true := by decide +kernel
set_option maxRecDepth 1000000 in
theorem md_k98 : mm_chkM 98 md_L98 = true := by decide +kernel
set_option maxRecDepth 1000000 in
theorem md_k99 : mm_chkM 99 md_L99 = true := by decide +kernel
set_option maxRecDepth 1000000 in
theorem md_k100 : mm_chkM 100 md_L100 = true := by decide +kernel
set_option maxRecDepth 1000000 in
theorem md_k101 : mm_chkM 101 md_L101 = true := by decide +kernel
set_option maxRecDepth 1000000 in
theorem md_k102 : mm_chkM 102 md_L102 = true := by decide +kernel
set_option maxRecDepth 1000000 in
theorem md_k103 : mm_chkM 103 md_L103 = true := by decide +kernel
set_option maxRecDepth 1000000 in
theorem md_k104 : mm_chkM 104 md_L104 = true := by decide +kernel
set_option maxRecDepth 1000000 in
theorem md_k105 : mm_chkM 105 md_L105 = true := by decide +kernel
set_option maxRecDepth 1000000 in
theorem md_k106 : mm_chkM 106 md_L106 = true := by decide +kernel
set_option maxRecDepth 1000000 in
theorem md_k107 : mm_chkM 107 md_L107 = true := by decide +kernel
set_option maxRecDepth 1000000 in
theorem md_k108 : mm_chkM 108 md_L108 = true := by decide +kernel
set_option maxRecDepth 1000000 in
theorem md_k109 : mm_chkM 109 md_L109 = true := by decide +kernel
set_option maxRecDepth 1000000 in
theorem md_k110 : mm_chkM 110 md_L110 = true := by decide +kernel
set_option maxRecDepth 1000000 in
theorem md_k111 : mm_chkM 111 md_L111 = true := by decide +kernel
set_option maxRecDepth 1000000 in
theorem md_k112 : mm_chkM 112 md_L112 = true := by decide +kernel
set_option maxRecDepth 1000000 in
theorem md_k113 : mm_chkM 113 md_L113 = true := by decide +kernel
set_option maxRecDepth 1000000 in
theorem md_k114 : mm_chkM 114 md_L114 = true := by decide +kernel
set_option maxRecDepth 1000000 in
theorem md_k115 : mm_chkM 115 md_L115 = true := by decide +kernel
set_option maxRecDepth 1000000 in
theorem md_k116 : mm_chkM 116 md_L116 = true := by decide +kernel
set_option maxRecDepth 1000000 in
theorem md_k117 : mm_chkM 117 md_L117 = true := by decide +kernel
set_option maxRecDepth 1000000 in
theorem md_k118 : mm_chkM 118 md_L118 = true := by decide +kernel
set_option maxRecDepth 1000000 in
theorem md_k119 : mm_chkM 119 md_L119 = true := by decide +kernel
set_option maxRecDepth 1000000 in
theorem md_k120 : mm_chkM 120 md_L120 = true := by decide +kernel
set_option maxRecDepth 1000000 in
theorem md_k121 : mm_chkM 121 md_L121 = true := by decide +kernel
set_option maxRecDepth 1000000 in
theorem md_k122 : mm_chkM 122 md_L122 = true := by decide +kernel
set_option maxRecDepth 1000000 in
theorem md_k123 : mm_chkM 123 md_L123 = true := by decide +kernel
set_option maxRecDepth 1000000 in
theorem md_k124 : mm_chkM 124 md_L124 = true := by decide +kernel
set_option maxRecDepth 1000000 in
theorem md_k125 : mm_chkM 125 md_L125 = true := by decide +kernel
set_option maxRecDepth 1000000 in
theorem md_k126 : mm_chkM 126 md_L126 = true := by decide +kernel
set_option maxRecDepth 1000000 in
theorem md_k127 : mm_chkM 127 md_L127 = true := by decide +kernel
set_option maxRecDepth 1000000 in
theorem md_k128 : mm_chkM 128 md_L128 = true := by decide +kernel
set_option maxRecDepth 1000000 in
theorem md_k129 : mm_chkM 129 md_L129 = true := by decide +kernel
end
section
set_option maxRecDepth 1000000 in
theorem md_k130 : mm_chkM 130 md_L130 = true := by decide +kernel
set_option maxRecDepth 1000000 in
theorem md_k131 : mm_chkM 131 md_L131 = true := by decide +kernel
set_option maxRecDepth 1000000 in
theorem md_k132 : mm_chkM 132 md_L132 = true := by decide +kernel
set_option maxRecDepth 1000000 in
theorem md_k133 : mm_chkM 133 md_L133 = true := by decide +kernel
set_option maxRecDepth 1000000 in
theorem md_k134 : mm_chkM 134 md_L134 = true := by decide +kernel
set_option maxRecDepth 1000000 in
theorem md_k135 : mm_chkM 135 md_L135 = true := by decide +kernel
set_option maxRecDepth 1000000 in
theorem md_k136 : mm_chkM 136 md_L136 = true := by decide +kernel
set_option maxRecDepth 1000000 in
theorem md_k137 : mm_chkM 137 md_L137 = true := by decide +kernel
set_option maxRecDepth 1000000 in
theorem md_k138 : mm_chkM 138 md_L138 = true := by decide +kernel
set_option maxRecDepth 1000000 in
theorem md_k139 : mm_chkM 139 md_L139 = true := by decide +kernel
set_option maxRecDepth 1000000 in
theorem md_k140 : mm_chkM 140 md_L140 = true := by decide +kernel
set_option maxRecDepth 1000000 in
theorem md_k141 : mm_chkM 141 md_L141 = true := by decide +kernel
set_option maxRecDepth 1000000 in
theorem md_k142 : mm_chkM 142 md_L142 = true := by decide +kernel
set_option maxRecDepth 1000000 in
theorem md_k143 : mm_chkM 143 md_L143 = true := by decide +kernel
set_option maxRecDepth 1000000 in
theorem md_k144 : mm_chkM 144 md_L144 = true := by decide +kernel
set_option maxRecDepth 1000000 in
theorem md_k145 : mm_chkM 145 md_L145 = true := by decide +kernel
set_option maxRecDepth 1000000 in
theorem md_k146 : mm_chkM 146 md_L146 = true := by decide +kernel
set_option maxRecDepth 1000000 in
theorem md_k147 : mm_chkM 147 md_L147 = true := by decide +kernel
set_option maxRecDepth 1000000 in
theorem md_k148 : mm_chkM 148 md_L148 = true := by decide +kernel
set_option maxRecDepth 1000000 in
theorem md_k149 : mm_chkM 149 md_L149 = true := by decide +kernel
set_option maxRecDepth 1000000 in
theorem md_k150 : mm_chkM 150 md_L150 = true := by decide +kernel
set_option maxRecDepth 1000000 in
theorem md_k151 : mm_chkM 151 md_L151 = true := by decide +kernel
set_option maxRecDepth 1000000 in
theorem md_k152 : mm_chkM 152 md_L152 = true := by decide +kernel
set_option maxRecDepth 1000000 in
theorem md_k153 : mm_chkM 153 md_L153 = true := by decide +kernel
set_option maxRecDepth 1000000 in
theorem md_k154 : mm_chkM 154 md_L154 = true := by decide +kernel
set_option maxRecDepth 1000000 in
theorem md_k155 : mm_chkM 155 md_L155 = true := by decide +kernel
set_option maxRecDepth 1000000 in
theorem md_k156 : mm_chkM 156 md_L156 = true := by decide +kernel
set_option maxRecDepth 1000000 in
theorem md_k157 : mm_chkM 157 md_L157 = true := by decide +kernel
set_option maxRecDepth 1000000 in
theorem md_k158 : mm_chkM 158 md_L158 = true := by decide +kernel
set_option maxRecDepth 1000000 in
theorem md_k159 : mm_chkM 159 md_L159 = true := by decide +kernel
set_option maxRecDepth 1000000 in
theorem md_k160 : mm_chkM 160 md_L160 = true := by decide +kernel
set_option maxRecDepth 1000000 in
theorem md_k161 : mm_chkM 161 md_L161 = true := by decide +kernel
set_option maxRecDepth 1000000 in
theorem md_k162 : mm_chkM 162 md_L162 = true := by decide +kernel
set_option maxRecDepth 1000000 in
theorem md_k163 : mm_chkM 163 md_L163 = true := by decide +kernel
set_option maxRecDepth 1000000 in
theorem md_k164 : mm_chkM 164 md_L164 = true := by decide +kernel
set_option maxRecDepth 1000000 in
theorem md_k165 : mm_chkM 165 md_L165 = true := by decide +kernel
set_option maxRecDepth 1000000 in
theorem md_k166 : mm_chkM 166 md_L166 = true := by decide +kernel
set_option maxRecDepth 1000000 in
theorem md_k167 : mm_chkM 167 md_L167 = true := by decide +kernel
set_option maxRecDepth 1000000 in
theorem md_k168 : mm_chkM 168 md_L168 = true := by decide +kernel
set_option maxRecDepth 1000000 in
theorem md_k169 : mm_chkM 169 md_L169 = true := by decide +kernel
set_option maxRecDepth 1000000 in
theorem md_k170 : mm_chkM 170 md_L170 = true := by decide +kernel
set_option maxRecDepth 1000000 in
theorem md_k171 : mm_chkM 171 md_L171 = true := by decide +kernel
set_option maxRecDepth 1000000 in
theorem md_k172 : mm_chkM 172 md_L172 = true := by decide +kernel
set_option maxRecDepth 1000000 in
theorem md_k173 : mm_chkM 173 md_L173 = true := by decide +kernel
set_option maxRecDepth 1000000 in
theorem md_k174 : mm_chkM 174 md_L174 = true := by decide +kernel
set_option maxRecDepth 1000000 in
theorem md_k175 : mm_chkM 175 md_L175 = true := by decide +kernel
set_option maxRecDepth 1000000 in
theorem md_k176 : mm_chkM 176 md_L176 = true := by decide +kernel
set_option maxRecDepth 1000000 in
theorem md_k177 : mm_chkM 177 md_L177 = true := by decide +kernel
set_option maxRecDepth 1000000 in
theorem md_k178 : mm_chkM 178 md_L178 = true := by decide +kernel
set_option maxRecDepth 1000000 in
theorem md_k179 : mm_chkM 179 md_L179 = true := by decide +kernel
set_option maxRecDepth 1000000 in
theorem md_k180 : mm_chkM 180 md_L180 = true := by decide +kernel
set_option maxRecDepth 1000000 in
theorem md_k181 : mm_chkM 181 md_L181 = true := by decide +kernel
set_option maxRecDepth 1000000 in
theorem md_k182 : mm_chkM 182 md_L182 = true := by decide +kernel
set_option maxRecDepth 1000000 in
theorem md_k183 : mm_chkM 183 md_L183 = true := by decide +kernel
set_option maxRecDepth 1000000 in
theorem md_k184 : mm_chkM 184 md_L184 = true := by decide +kernel
set_option maxRecDepth 1000000 in
theorem md_k185 : mm_chkM 185 md_L185 = true := by decide +kernel
set_option maxRecDepth 1000000 in
theorem md_k186 : mm_chkM 186 md_L186 = true := by decide +kernel
set_option maxRecDepth 1000000 in
theorem md_k187 : mm_chkM 187 md_L187 = true := by decide +kernel
set_option maxRecDepth 1000000 in
theorem md_k188 : mm_chkM 188 md_L188 = true := by decide +kernel
set_option maxRecDepth 1000000 in
theorem md_k189 : mm_chkM 189 md_L189 = true := by decide +kernel
set_option maxRecDepth 1000000 in
theorem md_k190 : mm_chkM 190 md_L190 = true := by decide +kernel
set_option maxRecDepth 1000000 in
theorem md_k191 : mm_chkM 191 md_L191 = true := by decide +kernel
set_option maxRecDepth 1000000 in
theorem md_k192 : mm_chkM 192 md_L192 = true := by decide +kernel
set_option maxRecDepth 1000000 in
theorem md_k193 : mm_chkM 193 md_L193 = true := by decide +kernel
set_option maxRecDepth 1000000 in
theorem md_k194 : mm_chkM 194 md_L194 = true := by decide +kernel
set_option maxRecDepth 1000000 in
theorem md_k195 : mm_chkM 195 md_L195 = true := by decide +kernel
end
section
set_option maxRecDepth 1000000 in
theorem md_k196 : mm_chkM 196 md_L196 = true := by decide +kernel
set_option maxRecDepth 1000000 in
theorem md_k197 : mm_chkM 197 md_L197 = true := by decide +kernel
set_option maxRecDepth 1000000 in
theorem md_k198 : mm_chkM 198 md_L198 = true := by decide +kernel
set_option maxRecDepth 1000000 in
theorem md_k199 : mm_chkM 199 md_L199 = true := by decide +kernel
set_option maxRecDepth 1000000 in
theorem md_k200 : mm_chkM 200 md_L200 = true := by decide +kernel
set_option maxRecDepth 1000000 in
theorem md_k201 : mm_chkM 201 md_L201 = true := by decide +kernel
set_option maxRecDepth 1000000 in
theorem md_k202 : mm_chkM 202 md_L202 = true := by decide +kernel
set_option maxRecDepth 1000000 in
theorem md_k203 : mm_chkM 203 md_L203 = true := by decide +kernel
set_option maxRecDepth 1000000 in
theorem md_k204 : mm_chkM 204 md_L204 = true := by decide +kernel
set_option maxRecDepth 1000000 in
theorem md_k205 : mm_chkM 205 md_L205 = true := by decide +kernel
set_option maxRecDepth 1000000 in
theorem md_k206 : mm_chkM 206 md_L206 = true := by decide +kernel
set_option maxRecDepth 1000000 in
theorem md_k207 : mm_chkM 207 md_L207 = true := by decide +kernel
set_option maxRecDepth 1000000 in
theorem md_k208 : mm_chkM 208 md_L208 = true := by decide +kernel
set_option maxRecDepth 1000000 in
theorem md_k209 : mm_chkM 209 md_L209 = true := by decide +kernel
set_option maxRecDepth 1000000 in
theorem md_k210 : mm_chkM 210 md_L210 = true := by decide +kernel
set_option maxRecDepth 1000000 in
theorem md_k211 : mm_chkM 211 md_L211 = true := by decide +kernel
set_option maxRecDepth 1000000 in
theorem md_k212 : mm_chkM 212 md_L212 = true := by decide +kernel
set_option maxRecDepth 1000000 in
theorem md_k213 : mm_chkM 213 md_L213 = true := by decide +kernel
set_option maxRecDepth 1000000 in
theorem md_k214 : mm_chkM 214 md_L214 = true := by decide +kernel
set_option maxRecDepth 1000000 in
theorem md_k215 : mm_chkM 215 md_L215 = true := by decide +kernel
set_option maxRecDepth 1000000 in
theorem md_k216 : mm_chkM 216 md_L216 = true := by decide +kernel
set_option maxRecDepth 1000000 in
theorem md_k217 : mm_chkM 217 md_L217 = true := by decide +kernel
set_option maxRecDepth 1000000 in
theorem md_k218 : mm_chkM 218 md_L218 = true := by decide +kernel
set_option maxRecDepth 1000000 in
theorem md_k219 : mm_chkM 219 md_L219 = true := by decide +kernel
set_option maxRecDepth 1000000 in
theorem md_k220 : mm_chkM 220 md_L220 = true := by decide +kernel
set_option maxRecDepth 1000000 in
theorem md_k221 : mm_chkM 221 md_L221 = true := by decide +kernel
set_option maxRecDepth 1000000 in
theorem md_k222 : mm_chkM 222 md_L222 = true := by decide +kernel
set_option maxRecDepth 1000000 in
theorem md_k223 : mm_chkM 223 md_L223 = true := by decide +kernel
set_option maxRecDepth 1000000 in
theorem md_k224 : mm_chkM 224 md_L224 = true := by decide +kernel
set_option maxRecDepth 1000000 in
theorem md_k225 : mm_chkM 225 md_L225 = true := by decide +kernel
set_option maxRecDepth 1000000 in
theorem md_k226 : mm_chkM 226 md_L226 = true := by decide +kernel
set_option maxRecDepth 1000000 in
theorem md_k227 : mm_chkM 227 md_L227 = true := by decide +kernel
set_option maxRecDepth 1000000 in
theorem md_k228 : mm_chkM 228 md_L228 = true := by decide +kernel
set_option maxRecDepth 1000000 in
theorem md_k229 : mm_chkM 229 md_L229 = true := by decide +kernel
set_option maxRecDepth 1000000 in
theorem md_k230 : mm_chkM 230 md_L230 = true := by decide +kernel
set_option maxRecDepth 1000000 in
theorem md_k231 : mm_chkM 231 md_L231 = true := by decide +kernel
set_option maxRecDepth 1000000 in
theorem md_k232 : mm_chkM 232 md_L232 = true := by decide +kernel
set_option maxRecDepth 1000000 in
theorem md_k233 : mm_chkM 233 md_L233 = true := by decide +kernel
set_option maxRecDepth 1000000 in
theorem md_k234 : mm_chkM 234 md_L234 = true := by decide +kernel
set_option maxRecDepth 1000000 in
theorem md_k235 : mm_chkM 235 md_L235 = true := by decide +kernel
set_option maxRecDepth 1000000 in
theorem md_k236 : mm_chkM 236 md_L236 = true := by decide +kernel
set_option maxRecDepth 1000000 in
theorem md_k237 : mm_chkM 237 md_L237 = true := by decide +kernel
set_option maxRecDepth 1000000 in
theorem md_k238 : mm_chkM 238 md_L238 = true := by decide +kernel
set_option maxRecDepth 1000000 in
theorem md_k239 : mm_chkM 239 md_L239 = true := by decide +kernel
set_option maxRecDepth 1000000 in
theorem md_k240 : mm_chkM 240 md_L240 = true := by decide +kernel
set_option maxRecDepth 1000000 in
theorem md_k241 : mm_chkM 241 md_L241 = true := by decide +kernel
set_option maxRecDepth 1000000 in
theorem md_k242 : mm_chkM 242 md_L242 = true := by decide +kernel
set_option maxRecDepth 1000000 in
theorem md_k243 : mm_chkM 243 md_L243 = true := by decide +kernel
set_option maxRecDepth 1000000 in
theorem md_k244 : mm_chkM 244 md_L244 = true := by decide +kernel
set_option maxRecDepth 1000000 in
theorem md_k245 : mm_chkM 245 md_L245 = true := by decide +kernel
set_option maxRecDepth 1000000 in
theorem md_k246 : mm_chkM 246 md_L246 = true := by decide +kernel
set_option maxRecDepth 1000000 in
theorem md_k247 : mm_chkM 247 md_L247 = true := by decide +kernel
set_option maxRecDepth 1000000 in
theorem md_k248 : mm_chkM 248 md_L248 = true := by decide +kernel
set_option maxRecDepth 1000000 in
theorem md_k249 : mm_chkM 249 md_L249 = true := by decide +kernel
set_option maxRecDepth 1000000 in
theorem md_k250 : mm_chkM 250 md_L250 = true := by decide +kernel
set_option maxRecDepth 1000000 in
theorem md_k251 : mm_chkM 251 md_L251 = true := by decide +kernel
set_option maxRecDepth 1000000 in
theorem md_k252 : mm_chkM 252 md_L252 = true := by decide +kernel
set_option maxRecDepth 1000000 in
theorem md_k253 : mm_chkM 253 md_L253 = true := by decide +kernel
set_option maxRecDepth 1000000 in
theorem md_k254 : mm_chkM 254 md_L254 = true := by decide +kernel
set_option maxRecDepth 1000000 in
theorem md_k255 : mm_chkM 255 md_L255 = true := by decide +kernel
set_option maxRecDepth 1000000 in
theorem md_k256 : mm_chkM 256 md_L256 = true := by decide +kernel
set_option maxRecDepth 1000000 in
theorem md_k257 : mm_chkM 257 md_L257 = true := by decide +kernel
set_option maxRecDepth 1000000 in
theorem md_k258 : mm_chkM 258 md_L258 = true := by decide +kernel
set_option maxRecDepth 1000000 in
theorem md_k259 : mm_chkM 259 md_L259 = true := by decide +kernel
set_option maxRecDepth 1000000 in
theorem md_k260 : mm_chkM 260 md_L260 = true := by decide +kernel
set_option maxRecDepth 1000000 in
theorem md_k261 : mm_chkM 261 md_L261 = true := by decide +kernel
set_option maxRecDepth 1000000 in
theorem md_k262 : mm_chkM 262 md_L262 = true := by decide +kernel
set_option maxRecDepth 1000000 in
theorem md_k263 : mm_chkM 263 md_L263 = true := by decide +kernel
set_option maxRecDepth 1000000 in
theorem md_k264 : mm_chkM 264 md_L264 = true := by decide +kernel
set_option maxRecDepth 1000000 in
theorem md_k265 : mm_chkM 265 md_L265 = true := by decide +kernel
set_option maxRecDepth 1000000 in
theorem md_k266 : mm_chkM 266 md_L266 = true := by decide +kernel
set_option maxRecDepth 1000000 in
theorem md_k267 : mm_chkM 267 md_L267 = true := by decide +kernel
set_option maxRecDepth 1000000 in
theorem md_k268 : mm_chkM 268 md_L268 = true := by decide +kernel
set_option maxRecDepth 1000000 in
theorem md_k269 : mm_chkM 269 md_L269 = true := by decide +kernel
set_option maxRecDepth 1000000 in
theorem md_k270 : mm_chkM 270 md_L270 = true := by decide +kernel
set_option maxRecDepth 1000000 in
theorem md_k271 : mm_chkM 271 md_L271 = true := by decide +kernel
set_option maxRecDepth 1000000 in
theorem md_k272 : mm_chkM 272 md_L272 = true := by decide +kernel
set_option maxRecDepth 1000000 in
theorem md_k273 : mm_chkM 273 md_L273 = true := by decide +kernel
set_option maxRecDepth 1000000 in
theorem md_k274 : mm_chkM 274 md_L274 = true := by decide +kernel
set_option maxRecDepth 1000000 in
theorem md_k275 : mm_chkM 275 md_L275 = true := by decide +kernel
set_option maxRecDepth 1000000 in
theorem md_k276 : mm_chkM 276 md_L276 = true := by decide +kernel
set_option maxRecDepth 1000000 in
theorem md_k277 : mm_chkM 277 md_L277 = true := by decide +kernel
set_option maxRecDepth 1000000 in
theorem md_k278 : mm_chkM 278 md_L278 = true := by decide +kernel
set_option maxRecDepth 1000000 in
theorem md_k279 : mm_chkM 279 md_L279 = true := by decide +kernel
set_option maxRecDepth 1000000 in
theorem md_k280 : mm_chkM 280 md_L280 = true := by decide +kernel
set_option maxRecDepth 1000000 in
theorem md_k281 : mm_chkM 281 md_L281 = true := by decide +kernel
set_option maxRecDepth 1000000 in
theorem md_k282 : mm_chkM 282 md_L282 = true := by decide +kernel
set_option maxRecDepth 1000000 in
theorem md_k283 : mm_chkM 283 md_L283 = true := by decide +kernel
end
section
set_option maxRecDepth 1000000 in
theorem md_k284 : mm_chkM 284 md_L284 = true := by decide +kernel
set_option maxRecDepth 1000000 in
theorem md_k285 : mm_chkM 285 md_L285 = true := by decide +kernel
set_option maxRecDepth 1000000 in
theorem md_k286 : mm_chkM 286 md_L286 = true := by decide +kernel
set_option maxRecDepth 1000000 in
theorem md_k287 : mm_chkM 287 md_L287 = true := by decide +kernel
set_option maxRecDepth 1000000 in
theorem md_k288 : mm_chkM 288 md_L288 = true := by decide +kernel
set_option maxRecDepth 1000000 in
theorem md_k289 : mm_chkM 289 md_L289 = true := by decide +kernel
set_option maxRecDepth 1000000 in
theorem md_k290 : mm_chkM 290 md_L290 = true := by decide +kernel
set_option maxRecDepth 1000000 in
theorem md_k291 : mm_chkM 291 md_L291 = true := by decide +kernel
set_option maxRecDepth 1000000 in
theorem md_k292 : mm_chkM 292 md_L292 = true := by decide +kernel
set_option maxRecDepth 1000000 in
theorem md_k293 : mm_chkM 293 md_L293 = true := by decide +kernel
set_option maxRecDepth 1000000 in
theorem md_k294 : mm_chkM 294 md_L294 = true := by decide +kernel
set_option maxRecDepth 1000000 in
theorem md_k295 : mm_chkM 295 md_L295 = true := by decide +kernel
set_option maxRecDepth 1000000 in
theorem md_k296 : mm_chkM 296 md_L296 = true := by decide +kernel
set_option maxRecDepth 1000000 in
theorem md_k297 : mm_chkM 297 md_L297 = true := by decide +kernel
set_option maxRecDepth 1000000 in
theorem md_k298 : mm_chkM 298 md_L298 = true := by decide +kernel
set_option maxRecDepth 1000000 in
theorem md_k299 : mm_chkM 299 md_L299 = true := by decide +kernel
set_option maxRecDepth 1000000 in
theorem md_k300 : mm_chkM 300 md_L300 = true := by decide +kernel
set_option maxRecDepth 1000000 in
theorem md_k301 : mm_chkM 301 md_L301 = true := by decide +kernel
set_option maxRecDepth 1000000 in
theorem md_k302 : mm_chkM 302 md_L302 = true := by decide +kernel
set_option maxRecDepth 1000000 in
theorem md_k303 : mm_chkM 303 md_L303 = true := by decide +kernel
set_option maxRecDepth 1000000 in
theorem md_k304 : mm_chkM 304 md_L304 = true := by decide +kernel
set_option maxRecDepth 1000000 in
theorem md_k305 : mm_chkM 305 md_L305 = true := by decide +kernel
set_option maxRecDepth 1000000 in
theorem md_k306 : mm_chkM 306 md_L306 = true := by decide +kernel
set_option maxRecDepth 1000000 in
theorem md_k307 : mm_chkM 307 md_L307 = true := by decide +kernel
set_option maxRecDepth 1000000 in
theorem md_k308 : mm_chkM 308 md_L308 = true := by decide +kernel
set_option maxRecDepth 1000000 in
theorem md_k309 : mm_chkM 309 md_L309 = true := by decide +kernel
set_option maxRecDepth 1000000 in
theorem md_k310 : mm_chkM 310 md_L310 = true := by decide +kernel
set_option maxRecDepth 1000000 in
theorem md_k311 : mm_chkM 311 md_L311 = true := by decide +kernel
set_option maxRecDepth 1000000 in
theorem md_k312 : mm_chkM 312 md_L312 = true := by decide +kernel
set_option maxRecDepth 1000000 in
theorem md_k313 : mm_chkM 313 md_L313 = true := by decide +kernel
set_option maxRecDepth 1000000 in
theorem md_k314 : mm_chkM 314 md_L314 = true := by decide +kernel
set_option maxRecDepth 1000000 in
theorem md_k315 : mm_chkM 315 md_L315 = true := by decide +kernel
set_option maxRecDepth 1000000 in
theorem md_k316 : mm_chkM 316 md_L316 = true := by decide +kernel
set_option maxRecDepth 1000000 in
theorem md_k317 : mm_chkM 317 md_L317 = true := by decide +kernel
set_option maxRecDepth 1000000 in
theorem md_k318 : mm_chkM 318 md_L318 = true := by decide +kernel
set_option maxRecDepth 1000000 in
theorem md_k319 : mm_chkM 319 md_L319 = true := by decide +kernel
set_option maxRecDepth 1000000 in
theorem md_k320 : mm_chkM 320 md_L320 = true := by decide +kernel
set_option maxRecDepth 1000000 in
theorem md_k321 : mm_chkM 321 md_L321 = true := by decide +kernel
set_option maxRecDepth 1000000 in
theorem md_k322 : mm_chkM 322 md_L322 = true := by decide +kernel
set_option maxRecDepth 1000000 in
theorem md_k323 : mm_chkM 323 md_L323 = true := by decide +kernel
set_option maxRecDepth 1000000 in
theorem md_k324 : mm_chkM 324 md_L324 = true := by decide +kernel
set_option maxRecDepth 1000000 in
theorem md_k325 : mm_chkM 325 md_L325 = true := by decide +kernel
set_option maxRecDepth 1000000 in
theorem md_k326 : mm_chkM 326 md_L326 = true := by decide +kernel
set_option maxRecDepth 1000000 in
theorem md_k327 : mm_chkM 327 md_L327 = true := by decide +kernel
set_option maxRecDepth 1000000 in
theorem md_k328 : mm_chkM 328 md_L328 = true := by decide +kernel
set_option maxRecDepth 1000000 in
theorem md_k329 : mm_chkM 329 md_L329 = true := by decide +kernel
set_option maxRecDepth 1000000 in
theorem md_k330 : mm_chkM 330 md_L330 = true := by decide +kernel
set_option maxRecDepth 1000000 in
theorem md_k331 : mm_chkM 331 md_L331 = true := by decide +kernel
set_option maxRecDepth 1000000 in
theorem md_k332 : mm_chkM 332 md_L332 = true := by decide +kernel
set_option maxRecDepth 1000000 in
theorem md_k333 : mm_chkM 333 md_L333 = true := by decide +kernel
set_option maxRecDepth 1000000 in
theorem md_k334 : mm_chkM 334 md_L334 = true := by decide +kernel
set_option maxRecDepth 1000000 in
theorem md_k335 : mm_chkM 335 md_L335 = true := by decide +kernel
set_option maxRecDepth 1000000 in
theorem md_k336 : mm_chkM 336 md_L336 = true := by decide +kernel
set_option maxRecDepth 1000000 in
theorem md_k337 : mm_chkM 337 md_L337 = true := by decide +kernel
set_option maxRecDepth 1000000 in
theorem md_k338 : mm_chkM 338 md_L338 = true := by decide +kernel
set_option maxRecDepth 1000000 in
theorem md_k339 : mm_chkM 339 md_L339 = true := by decide +kernel
set_option maxRecDepth 1000000 in
theorem md_k340 : mm_chkM 340 md_L340 = true := by decide +kernel
set_option maxRecDepth 1000000 in
theorem md_k341 : mm_chkM 341 md_L341 = true := by decide +kernel
set_option maxRecDepth 1000000 in
theorem md_k342 : mm_chkM 342 md_L342 = true := by decide +kernel
set_option maxRecDepth 1000000 in
theorem md_k343 : mm_chkM 343 md_L343 = true := by decide +kernel
set_option maxRecDepth 1000000 in
theorem md_k344 : mm_chkM 344 md_L344 = true := by decide +kernel
set_option maxRecDepth 1000000 in
theorem md_k345 : mm_chkM 345 md_L345 = true := by decide +kernel
set_option maxRecDepth 1000000 in
theorem md_k346 : mm_chkM 346 md_L346 = true := by decide +kernel
set_option maxRecDepth 1000000 in
theorem md_k347 : mm_chkM 347 md_L347 = true := by decide +kernel
set_option maxRecDepth 1000000 in
theorem md_k348 : mm_chkM 348 md_L348 = true := by decide +kernel
set_option maxRecDepth 1000000 in
theorem md_k349 : mm_chkM 349 md_L349 = true := by decide +kernel
set_option maxRecDepth 1000000 in
theorem md_k350 : mm_chkM 350 md_L350 = true := by decide +kernel
set_option maxRecDepth 1000000 in
theorem md_k351 : mm_chkM 351 md_L351 = true := by decide +kernel
end
section
set_option maxRecDepth 1000000 in
theorem md_k352 : mm_chkM 352 md_L352 = true := by decide +kernel
set_option maxRecDepth 1000000 in
theorem md_k353 : mm_chkM 353 md_L353 = true := by decide +kernel
set_option maxRecDepth 1000000 in
theorem md_k354 : mm_chkM 354 md_L354 = true := by decide +kernel
set_option maxRecDepth 1000000 in
theorem md_k355 : mm_chkM 355 md_L355 = true := by decide +kernel
set_option maxRecDepth 1000000 in
theorem md_k356 : mm_chkM 356 md_L356 = true := by decide +kernel
set_option maxRecDepth 1000000 in
theorem md_k357 : mm_chkM 357 md_L357 = true := by decide +kernel
set_option maxRecDepth 1000000 in
theorem md_k358 : mm_chkM 358 md_L358 = true := by decide +kernel
set_option maxRecDepth 1000000 in
theorem md_k359 : mm_chkM 359 md_L359 = true := by decide +kernel
set_option maxRecDepth 1000000 in
theorem md_k360 : mm_chkM 360 md_L360 = true := by decide +kernel
set_option maxRecDepth 1000000 in
theorem md_k361 : mm_chkM 361 md_L361 = true := by decide +kernel
set_option maxRecDepth 1000000 in
theorem md_k362 : mm_chkM 362 md_L362 = true := by decide +kernel
set_option maxRecDepth 1000000 in
theorem md_k363 : mm_chkM 363 md_L363 = true := by decide +kernel
set_option maxRecDepth 1000000 in
theorem md_k364 : mm_chkM 364 md_L364 = true := by decide +kernel
set_option maxRecDepth 1000000 in
theorem md_k365 : mm_chkM 365 md_L365 = true := by decide +kernel
set_option maxRecDepth 1000000 in
theorem md_k366 : mm_chkM 366 md_L366 = true := by decide +kernel
end
section
set_option maxRecDepth 1000000 in
theorem md_k0_0 : mm_chkM 0 ((md_L0.drop 0).take 20) = true := by decide +kernel
set_option maxRecDepth 1000000 in
theorem md_k0_1 : mm_chkM 0 ((md_L0.drop 20).take 20) = true := by decide +kernel
set_option maxRecDepth 1000000 in
theorem md_k0_2 : mm_chkM 0 ((md_L0.drop 40).take 20) = true := by decide +kernel
set_option maxRecDepth 1000000 in
theorem md_k0_3 : mm_chkM 0 ((md_L0.drop 60).take 20) = true := by decide +kernel
set_option maxRecDepth 1000000 in
theorem md_k0_4 : mm_chkM 0 ((md_L0.drop 80).take 20) = true := by decide +kernel
set_option maxRecDepth 1000000 in
theorem md_k0_5 : mm_chkM 0 ((md_L0.drop 100).take 20) = true := by decide +kernel
set_option maxRecDepth 1000000 in
theorem md_k0_6 : mm_chkM 0 ((md_L0.drop 120).take 20) = true := by decide +kernel
end
