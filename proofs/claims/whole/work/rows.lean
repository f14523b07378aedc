section
-- ===== PART A: goes FIRST, ahead of the names: the tables' words, and 'selects' of the private methods out of them =====
/-- a private method of a class that the tables say can be made, by its rows of tables_1 -/
def lw_okq (q : MethodName × Nat) : Prop := (q.1.cls ≠ "java/lang/invoke/MethodHandle" ∧ q.1.cls ≠ "java/lang/invoke/VarHandle") ∧ Cond.instantiable q.1.cls q.2 ∈ tables_1 ∧ Cond.privateMethod q.1 ∈ tables_1 ∧ Cond.instanceMethod q.1 ∈ tables_1
theorem lw_p0 : lw_okq (⟨"SerialRecaps$Grammar", "takesPlot", "(I)Z"⟩, 4) := ⟨⟨by decide +kernel, by decide +kernel⟩, List.mem_of_getElem? (i := 134) (by decide +kernel), List.mem_of_getElem? (i := 198) (by decide +kernel), List.mem_of_getElem? (i := 199) (by decide +kernel)⟩
theorem lw_p1 : lw_okq (⟨"SerialRecaps$Grammar", "takesSign", "(ICI)Z"⟩, 4) := ⟨⟨by decide +kernel, by decide +kernel⟩, List.mem_of_getElem? (i := 134) (by decide +kernel), List.mem_of_getElem? (i := 202) (by decide +kernel), List.mem_of_getElem? (i := 203) (by decide +kernel)⟩
theorem lw_p2 : lw_okq (⟨"SerialRecaps$Grammar", "takesEnd", "(I)Z"⟩, 4) := ⟨⟨by decide +kernel, by decide +kernel⟩, List.mem_of_getElem? (i := 134) (by decide +kernel), List.mem_of_getElem? (i := 206) (by decide +kernel), List.mem_of_getElem? (i := 207) (by decide +kernel)⟩
theorem lw_p3 : lw_okq (⟨"SerialRecaps$Grammar", "takesCliff", "(I)Z"⟩, 4) := ⟨⟨by decide +kernel, by decide +kernel⟩, List.mem_of_getElem? (i := 134) (by decide +kernel), List.mem_of_getElem? (i := 211) (by decide +kernel), List.mem_of_getElem? (i := 212) (by decide +kernel)⟩
theorem lw_p4 : lw_okq (⟨"SerialRecaps$Grammar", "takesDigit", "(III)Z"⟩, 4) := ⟨⟨by decide +kernel, by decide +kernel⟩, List.mem_of_getElem? (i := 134) (by decide +kernel), List.mem_of_getElem? (i := 218) (by decide +kernel), List.mem_of_getElem? (i := 219) (by decide +kernel)⟩
theorem lw_p5 : lw_okq (⟨"SerialRecaps", "total", "(I)I"⟩, 3) := ⟨⟨by decide +kernel, by decide +kernel⟩, List.mem_of_getElem? (i := 20) (by decide +kernel), List.mem_of_getElem? (i := 245) (by decide +kernel), List.mem_of_getElem? (i := 246) (by decide +kernel)⟩
theorem lw_p6 : lw_okq (⟨"SerialRecaps", "mixParts", "(J)J"⟩, 3) := ⟨⟨by decide +kernel, by decide +kernel⟩, List.mem_of_getElem? (i := 20) (by decide +kernel), List.mem_of_getElem? (i := 277) (by decide +kernel), List.mem_of_getElem? (i := 278) (by decide +kernel)⟩
theorem lw_p7 : lw_okq (⟨"SerialRecaps", "mixReader", "(JI)J"⟩, 3) := ⟨⟨by decide +kernel, by decide +kernel⟩, List.mem_of_getElem? (i := 20) (by decide +kernel), List.mem_of_getElem? (i := 304) (by decide +kernel), List.mem_of_getElem? (i := 305) (by decide +kernel)⟩
theorem lw_p8 : lw_okq (⟨"SerialRecaps$State", "missedParts", "(II)I"⟩, 5) := ⟨⟨by decide +kernel, by decide +kernel⟩, List.mem_of_getElem? (i := 28) (by decide +kernel), List.mem_of_getElem? (i := 330) (by decide +kernel), List.mem_of_getElem? (i := 331) (by decide +kernel)⟩
theorem lw_p9 : lw_okq (⟨"SerialRecaps$State", "toldParts", "(I)I"⟩, 5) := ⟨⟨by decide +kernel, by decide +kernel⟩, List.mem_of_getElem? (i := 28) (by decide +kernel), List.mem_of_getElem? (i := 334) (by decide +kernel), List.mem_of_getElem? (i := 335) (by decide +kernel)⟩
theorem lw_p10 : lw_okq (⟨"SerialRecaps$State", "lineWords", "(I)I"⟩, 5) := ⟨⟨by decide +kernel, by decide +kernel⟩, List.mem_of_getElem? (i := 28) (by decide +kernel), List.mem_of_getElem? (i := 338) (by decide +kernel), List.mem_of_getElem? (i := 339) (by decide +kernel)⟩
theorem lw_p11 : lw_okq (⟨"SerialRecaps$State", "shortened", "(I)I"⟩, 5) := ⟨⟨by decide +kernel, by decide +kernel⟩, List.mem_of_getElem? (i := 28) (by decide +kernel), List.mem_of_getElem? (i := 343) (by decide +kernel), List.mem_of_getElem? (i := 344) (by decide +kernel)⟩
theorem lw_p12 : lw_okq (⟨"SerialRecaps", "mixPlots", "(J)J"⟩, 3) := ⟨⟨by decide +kernel, by decide +kernel⟩, List.mem_of_getElem? (i := 20) (by decide +kernel), List.mem_of_getElem? (i := 355) (by decide +kernel), List.mem_of_getElem? (i := 356) (by decide +kernel)⟩
theorem lw_p13 : lw_okq (⟨"SerialRecaps$State", "howManyHang", "(I)I"⟩, 5) := ⟨⟨by decide +kernel, by decide +kernel⟩, List.mem_of_getElem? (i := 28) (by decide +kernel), List.mem_of_getElem? (i := 375) (by decide +kernel), List.mem_of_getElem? (i := 376) (by decide +kernel)⟩
theorem lw_p14 : lw_okq (⟨"SerialRecaps", "mixText", "(J)J"⟩, 3) := ⟨⟨by decide +kernel, by decide +kernel⟩, List.mem_of_getElem? (i := 20) (by decide +kernel), List.mem_of_getElem? (i := 385) (by decide +kernel), List.mem_of_getElem? (i := 386) (by decide +kernel)⟩
theorem lw_p15 : lw_okq (⟨"java/lang/Throwable", "fillInStackTrace", "(I)Ljava/lang/Throwable;"⟩, 6) := ⟨⟨by decide +kernel, by decide +kernel⟩, List.mem_of_getElem? (i := 439) (by decide +kernel), List.mem_of_getElem? (i := 437) (by decide +kernel), List.mem_of_getElem? (i := 438) (by decide +kernel)⟩
def lw_privs_1 : List (MethodName × Nat) := [(⟨"SerialRecaps$Grammar", "takesPlot", "(I)Z"⟩, 4), (⟨"SerialRecaps$Grammar", "takesSign", "(ICI)Z"⟩, 4), (⟨"SerialRecaps$Grammar", "takesEnd", "(I)Z"⟩, 4), (⟨"SerialRecaps$Grammar", "takesCliff", "(I)Z"⟩, 4), (⟨"SerialRecaps$Grammar", "takesDigit", "(III)Z"⟩, 4), (⟨"SerialRecaps", "total", "(I)I"⟩, 3), (⟨"SerialRecaps", "mixParts", "(J)J"⟩, 3), (⟨"SerialRecaps", "mixReader", "(JI)J"⟩, 3), (⟨"SerialRecaps$State", "missedParts", "(II)I"⟩, 5), (⟨"SerialRecaps$State", "toldParts", "(I)I"⟩, 5), (⟨"SerialRecaps$State", "lineWords", "(I)I"⟩, 5), (⟨"SerialRecaps$State", "shortened", "(I)I"⟩, 5), (⟨"SerialRecaps", "mixPlots", "(J)J"⟩, 3), (⟨"SerialRecaps$State", "howManyHang", "(I)I"⟩, 5), (⟨"SerialRecaps", "mixText", "(J)J"⟩, 3), (⟨"java/lang/Throwable", "fillInStackTrace", "(I)Ljava/lang/Throwable;"⟩, 6)]
theorem lw_r1 : ∀ q ∈ lw_privs_1, lw_okq q := List.forall_mem_cons.mpr ⟨lw_p0, List.forall_mem_cons.mpr ⟨lw_p1, List.forall_mem_cons.mpr ⟨lw_p2, List.forall_mem_cons.mpr ⟨lw_p3, List.forall_mem_cons.mpr ⟨lw_p4, List.forall_mem_cons.mpr ⟨lw_p5, List.forall_mem_cons.mpr ⟨lw_p6, List.forall_mem_cons.mpr ⟨lw_p7, List.forall_mem_cons.mpr ⟨lw_p8, List.forall_mem_cons.mpr ⟨lw_p9, List.forall_mem_cons.mpr ⟨lw_p10, List.forall_mem_cons.mpr ⟨lw_p11, List.forall_mem_cons.mpr ⟨lw_p12, List.forall_mem_cons.mpr ⟨lw_p13, List.forall_mem_cons.mpr ⟨lw_p14, List.forall_mem_cons.mpr ⟨lw_p15, fun _ h => absurd h List.not_mem_nil⟩⟩⟩⟩⟩⟩⟩⟩⟩⟩⟩⟩⟩⟩⟩⟩
theorem lw_p16 : lw_okq (⟨"SerialRecaps$Story", "findNeeds", "(I)I"⟩, 5) := ⟨⟨by decide +kernel, by decide +kernel⟩, List.mem_of_getElem? (i := 34) (by decide +kernel), List.mem_of_getElem? (i := 514) (by decide +kernel), List.mem_of_getElem? (i := 515) (by decide +kernel)⟩
theorem lw_p17 : lw_okq (⟨"SerialRecaps", "checkPart", "(I)V"⟩, 3) := ⟨⟨by decide +kernel, by decide +kernel⟩, List.mem_of_getElem? (i := 20) (by decide +kernel), List.mem_of_getElem? (i := 526) (by decide +kernel), List.mem_of_getElem? (i := 527) (by decide +kernel)⟩
theorem lw_p18 : lw_okq (⟨"SerialRecapsModel", "refuses", "(I)Z"⟩, 10) := ⟨⟨by decide +kernel, by decide +kernel⟩, List.mem_of_getElem? (i := 757) (by decide +kernel), List.mem_of_getElem? (i := 803) (by decide +kernel), List.mem_of_getElem? (i := 804) (by decide +kernel)⟩
theorem lw_p19 : lw_okq (⟨"SerialRecapsModel", "saves", "()V"⟩, 10) := ⟨⟨by decide +kernel, by decide +kernel⟩, List.mem_of_getElem? (i := 757) (by decide +kernel), List.mem_of_getElem? (i := 817) (by decide +kernel), List.mem_of_getElem? (i := 818) (by decide +kernel)⟩
theorem lw_p20 : lw_okq (⟨"SerialRecapsModel", "adds", "(III)V"⟩, 10) := ⟨⟨by decide +kernel, by decide +kernel⟩, List.mem_of_getElem? (i := 757) (by decide +kernel), List.mem_of_getElem? (i := 821) (by decide +kernel), List.mem_of_getElem? (i := 822) (by decide +kernel)⟩
theorem lw_p21 : lw_okq (⟨"SerialRecapsModel", "learns", "(III)V"⟩, 10) := ⟨⟨by decide +kernel, by decide +kernel⟩, List.mem_of_getElem? (i := 757) (by decide +kernel), List.mem_of_getElem? (i := 825) (by decide +kernel), List.mem_of_getElem? (i := 826) (by decide +kernel)⟩
theorem lw_p22 : lw_okq (⟨"SerialRecapsModel", "isPart", "(I)Z"⟩, 10) := ⟨⟨by decide +kernel, by decide +kernel⟩, List.mem_of_getElem? (i := 757) (by decide +kernel), List.mem_of_getElem? (i := 833) (by decide +kernel), List.mem_of_getElem? (i := 834) (by decide +kernel)⟩
theorem lw_p23 : lw_okq (⟨"SerialRecapsModel", "of", "(II)I"⟩, 10) := ⟨⟨by decide +kernel, by decide +kernel⟩, List.mem_of_getElem? (i := 757) (by decide +kernel), List.mem_of_getElem? (i := 837) (by decide +kernel), List.mem_of_getElem? (i := 838) (by decide +kernel)⟩
theorem lw_p24 : lw_okq (⟨"SerialRecapsModel", "readersOf", "(I)I"⟩, 10) := ⟨⟨by decide +kernel, by decide +kernel⟩, List.mem_of_getElem? (i := 757) (by decide +kernel), List.mem_of_getElem? (i := 845) (by decide +kernel), List.mem_of_getElem? (i := 846) (by decide +kernel)⟩
theorem lw_p25 : lw_okq (⟨"SerialRecapsModel", "known", "(II)I"⟩, 10) := ⟨⟨by decide +kernel, by decide +kernel⟩, List.mem_of_getElem? (i := 757) (by decide +kernel), List.mem_of_getElem? (i := 849) (by decide +kernel), List.mem_of_getElem? (i := 850) (by decide +kernel)⟩
theorem lw_p26 : lw_okq (⟨"SerialRecapsModel", "reaches", "(II)I"⟩, 10) := ⟨⟨by decide +kernel, by decide +kernel⟩, List.mem_of_getElem? (i := 757) (by decide +kernel), List.mem_of_getElem? (i := 867) (by decide +kernel), List.mem_of_getElem? (i := 868) (by decide +kernel)⟩
theorem lw_p27 : lw_okq (⟨"SerialRecapsModel", "missed", "(II)I"⟩, 10) := ⟨⟨by decide +kernel, by decide +kernel⟩, List.mem_of_getElem? (i := 757) (by decide +kernel), List.mem_of_getElem? (i := 871) (by decide +kernel), List.mem_of_getElem? (i := 872) (by decide +kernel)⟩
theorem lw_p28 : lw_okq (⟨"SerialRecapsModel", "unknown", "(I)I"⟩, 10) := ⟨⟨by decide +kernel, by decide +kernel⟩, List.mem_of_getElem? (i := 757) (by decide +kernel), List.mem_of_getElem? (i := 875) (by decide +kernel), List.mem_of_getElem? (i := 876) (by decide +kernel)⟩
theorem lw_p29 : lw_okq (⟨"SerialRecapsModel", "needsAmong", "(II)I"⟩, 10) := ⟨⟨by decide +kernel, by decide +kernel⟩, List.mem_of_getElem? (i := 757) (by decide +kernel), List.mem_of_getElem? (i := 879) (by decide +kernel), List.mem_of_getElem? (i := 880) (by decide +kernel)⟩
theorem lw_p30 : lw_okq (⟨"SerialRecapsModel", "needs", "(I)I"⟩, 10) := ⟨⟨by decide +kernel, by decide +kernel⟩, List.mem_of_getElem? (i := 757) (by decide +kernel), List.mem_of_getElem? (i := 883) (by decide +kernel), List.mem_of_getElem? (i := 884) (by decide +kernel)⟩
theorem lw_p31 : lw_okq (⟨"SerialRecapsModel", "told", "(I)I"⟩, 10) := ⟨⟨by decide +kernel, by decide +kernel⟩, List.mem_of_getElem? (i := 757) (by decide +kernel), List.mem_of_getElem? (i := 887) (by decide +kernel), List.mem_of_getElem? (i := 888) (by decide +kernel)⟩
def lw_privs_2 : List (MethodName × Nat) := [(⟨"SerialRecaps$Story", "findNeeds", "(I)I"⟩, 5), (⟨"SerialRecaps", "checkPart", "(I)V"⟩, 3), (⟨"SerialRecapsModel", "refuses", "(I)Z"⟩, 10), (⟨"SerialRecapsModel", "saves", "()V"⟩, 10), (⟨"SerialRecapsModel", "adds", "(III)V"⟩, 10), (⟨"SerialRecapsModel", "learns", "(III)V"⟩, 10), (⟨"SerialRecapsModel", "isPart", "(I)Z"⟩, 10), (⟨"SerialRecapsModel", "of", "(II)I"⟩, 10), (⟨"SerialRecapsModel", "readersOf", "(I)I"⟩, 10), (⟨"SerialRecapsModel", "known", "(II)I"⟩, 10), (⟨"SerialRecapsModel", "reaches", "(II)I"⟩, 10), (⟨"SerialRecapsModel", "missed", "(II)I"⟩, 10), (⟨"SerialRecapsModel", "unknown", "(I)I"⟩, 10), (⟨"SerialRecapsModel", "needsAmong", "(II)I"⟩, 10), (⟨"SerialRecapsModel", "needs", "(I)I"⟩, 10), (⟨"SerialRecapsModel", "told", "(I)I"⟩, 10)]
theorem lw_r2 : ∀ q ∈ lw_privs_2, lw_okq q := List.forall_mem_cons.mpr ⟨lw_p16, List.forall_mem_cons.mpr ⟨lw_p17, List.forall_mem_cons.mpr ⟨lw_p18, List.forall_mem_cons.mpr ⟨lw_p19, List.forall_mem_cons.mpr ⟨lw_p20, List.forall_mem_cons.mpr ⟨lw_p21, List.forall_mem_cons.mpr ⟨lw_p22, List.forall_mem_cons.mpr ⟨lw_p23, List.forall_mem_cons.mpr ⟨lw_p24, List.forall_mem_cons.mpr ⟨lw_p25, List.forall_mem_cons.mpr ⟨lw_p26, List.forall_mem_cons.mpr ⟨lw_p27, List.forall_mem_cons.mpr ⟨lw_p28, List.forall_mem_cons.mpr ⟨lw_p29, List.forall_mem_cons.mpr ⟨lw_p30, List.forall_mem_cons.mpr ⟨lw_p31, fun _ h => absurd h List.not_mem_nil⟩⟩⟩⟩⟩⟩⟩⟩⟩⟩⟩⟩⟩⟩⟩⟩
theorem lw_p32 : lw_okq (⟨"SerialRecapsModel", "wordsOf", "(I)I"⟩, 10) := ⟨⟨by decide +kernel, by decide +kernel⟩, List.mem_of_getElem? (i := 757) (by decide +kernel), List.mem_of_getElem? (i := 891) (by decide +kernel), List.mem_of_getElem? (i := 892) (by decide +kernel)⟩
theorem lw_p33 : lw_okq (⟨"SerialRecapsModel", "grows", "(III)V"⟩, 10) := ⟨⟨by decide +kernel, by decide +kernel⟩, List.mem_of_getElem? (i := 757) (by decide +kernel), List.mem_of_getElem? (i := 895) (by decide +kernel), List.mem_of_getElem? (i := 896) (by decide +kernel)⟩
theorem lw_p34 : lw_okq (⟨"SerialRecapsModel", "isText", "()Z"⟩, 10) := ⟨⟨by decide +kernel, by decide +kernel⟩, List.mem_of_getElem? (i := 757) (by decide +kernel), List.mem_of_getElem? (i := 923) (by decide +kernel), List.mem_of_getElem? (i := 924) (by decide +kernel)⟩
theorem lw_p35 : lw_okq (⟨"SerialRecapsModel", "readsPart", "()Z"⟩, 10) := ⟨⟨by decide +kernel, by decide +kernel⟩, List.mem_of_getElem? (i := 757) (by decide +kernel), List.mem_of_getElem? (i := 927) (by decide +kernel), List.mem_of_getElem? (i := 928) (by decide +kernel)⟩
theorem lw_p36 : lw_okq (⟨"SerialRecapsModel", "readsPlots", "()I"⟩, 10) := ⟨⟨by decide +kernel, by decide +kernel⟩, List.mem_of_getElem? (i := 757) (by decide +kernel), List.mem_of_getElem? (i := 931) (by decide +kernel), List.mem_of_getElem? (i := 932) (by decide +kernel)⟩
theorem lw_p37 : lw_okq (⟨"SerialRecapsModel", "sees", "(II)Z"⟩, 10) := ⟨⟨by decide +kernel, by decide +kernel⟩, List.mem_of_getElem? (i := 757) (by decide +kernel), List.mem_of_getElem? (i := 935) (by decide +kernel), List.mem_of_getElem? (i := 936) (by decide +kernel)⟩
theorem lw_p38 : lw_okq (⟨"SerialRecapsModel", "takes", "(C)Z"⟩, 10) := ⟨⟨by decide +kernel, by decide +kernel⟩, List.mem_of_getElem? (i := 757) (by decide +kernel), List.mem_of_getElem? (i := 939) (by decide +kernel), List.mem_of_getElem? (i := 940) (by decide +kernel)⟩
theorem lw_p39 : lw_okq (⟨"SerialRecapsModel", "readsCliff", "(I)I"⟩, 10) := ⟨⟨by decide +kernel, by decide +kernel⟩, List.mem_of_getElem? (i := 757) (by decide +kernel), List.mem_of_getElem? (i := 943) (by decide +kernel), List.mem_of_getElem? (i := 944) (by decide +kernel)⟩
theorem lw_p40 : lw_okq (⟨"SerialRecapsModel", "readsWords", "()I"⟩, 10) := ⟨⟨by decide +kernel, by decide +kernel⟩, List.mem_of_getElem? (i := 757) (by decide +kernel), List.mem_of_getElem? (i := 947) (by decide +kernel), List.mem_of_getElem? (i := 948) (by decide +kernel)⟩
theorem lw_p41 : lw_okq (⟨"SerialRecapsModel", "partOf", "(II)I"⟩, 10) := ⟨⟨by decide +kernel, by decide +kernel⟩, List.mem_of_getElem? (i := 757) (by decide +kernel), List.mem_of_getElem? (i := 959) (by decide +kernel), List.mem_of_getElem? (i := 960) (by decide +kernel)⟩
theorem lw_p42 : lw_okq (⟨"SerialRecapsModel", "needing", "(I)I"⟩, 10) := ⟨⟨by decide +kernel, by decide +kernel⟩, List.mem_of_getElem? (i := 757) (by decide +kernel), List.mem_of_getElem? (i := 963) (by decide +kernel), List.mem_of_getElem? (i := 964) (by decide +kernel)⟩
theorem lw_p43 : lw_okq (⟨"SerialRecapsModel", "readerOf", "(II)I"⟩, 10) := ⟨⟨by decide +kernel, by decide +kernel⟩, List.mem_of_getElem? (i := 757) (by decide +kernel), List.mem_of_getElem? (i := 975) (by decide +kernel), List.mem_of_getElem? (i := 976) (by decide +kernel)⟩
theorem lw_p44 : lw_okq (⟨"SerialRecapsModel", "manyKnown", "(II)I"⟩, 10) := ⟨⟨by decide +kernel, by decide +kernel⟩, List.mem_of_getElem? (i := 757) (by decide +kernel), List.mem_of_getElem? (i := 979) (by decide +kernel), List.mem_of_getElem? (i := 980) (by decide +kernel)⟩
theorem lw_p45 : lw_okq (⟨"SerialRecapsModel", "open", "(I)I"⟩, 10) := ⟨⟨by decide +kernel, by decide +kernel⟩, List.mem_of_getElem? (i := 757) (by decide +kernel), List.mem_of_getElem? (i := 983) (by decide +kernel), List.mem_of_getElem? (i := 984) (by decide +kernel)⟩
theorem lw_p46 : lw_okq (⟨"SerialRecapsModel", "plotOf", "(II)I"⟩, 10) := ⟨⟨by decide +kernel, by decide +kernel⟩, List.mem_of_getElem? (i := 757) (by decide +kernel), List.mem_of_getElem? (i := 991) (by decide +kernel), List.mem_of_getElem? (i := 992) (by decide +kernel)⟩
theorem lw_p47 : lw_okq (⟨"SerialRecapsModel", "openTo", "(I)I"⟩, 10) := ⟨⟨by decide +kernel, by decide +kernel⟩, List.mem_of_getElem? (i := 757) (by decide +kernel), List.mem_of_getElem? (i := 995) (by decide +kernel), List.mem_of_getElem? (i := 996) (by decide +kernel)⟩
def lw_privs_3 : List (MethodName × Nat) := [(⟨"SerialRecapsModel", "wordsOf", "(I)I"⟩, 10), (⟨"SerialRecapsModel", "grows", "(III)V"⟩, 10), (⟨"SerialRecapsModel", "isText", "()Z"⟩, 10), (⟨"SerialRecapsModel", "readsPart", "()Z"⟩, 10), (⟨"SerialRecapsModel", "readsPlots", "()I"⟩, 10), (⟨"SerialRecapsModel", "sees", "(II)Z"⟩, 10), (⟨"SerialRecapsModel", "takes", "(C)Z"⟩, 10), (⟨"SerialRecapsModel", "readsCliff", "(I)I"⟩, 10), (⟨"SerialRecapsModel", "readsWords", "()I"⟩, 10), (⟨"SerialRecapsModel", "partOf", "(II)I"⟩, 10), (⟨"SerialRecapsModel", "needing", "(I)I"⟩, 10), (⟨"SerialRecapsModel", "readerOf", "(II)I"⟩, 10), (⟨"SerialRecapsModel", "manyKnown", "(II)I"⟩, 10), (⟨"SerialRecapsModel", "open", "(I)I"⟩, 10), (⟨"SerialRecapsModel", "plotOf", "(II)I"⟩, 10), (⟨"SerialRecapsModel", "openTo", "(I)I"⟩, 10)]
theorem lw_r3 : ∀ q ∈ lw_privs_3, lw_okq q := List.forall_mem_cons.mpr ⟨lw_p32, List.forall_mem_cons.mpr ⟨lw_p33, List.forall_mem_cons.mpr ⟨lw_p34, List.forall_mem_cons.mpr ⟨lw_p35, List.forall_mem_cons.mpr ⟨lw_p36, List.forall_mem_cons.mpr ⟨lw_p37, List.forall_mem_cons.mpr ⟨lw_p38, List.forall_mem_cons.mpr ⟨lw_p39, List.forall_mem_cons.mpr ⟨lw_p40, List.forall_mem_cons.mpr ⟨lw_p41, List.forall_mem_cons.mpr ⟨lw_p42, List.forall_mem_cons.mpr ⟨lw_p43, List.forall_mem_cons.mpr ⟨lw_p44, List.forall_mem_cons.mpr ⟨lw_p45, List.forall_mem_cons.mpr ⟨lw_p46, List.forall_mem_cons.mpr ⟨lw_p47, fun _ h => absurd h List.not_mem_nil⟩⟩⟩⟩⟩⟩⟩⟩⟩⟩⟩⟩⟩⟩⟩⟩
theorem lw_p48 : lw_okq (⟨"SerialRecapsModel", "ofParts", "(II)I"⟩, 10) := ⟨⟨by decide +kernel, by decide +kernel⟩, List.mem_of_getElem? (i := 757) (by decide +kernel), List.mem_of_getElem? (i := 999) (by decide +kernel), List.mem_of_getElem? (i := 1000) (by decide +kernel)⟩
theorem lw_p49 : lw_okq (⟨"SerialRecapsModel", "goesOn", "(II)Z"⟩, 10) := ⟨⟨by decide +kernel, by decide +kernel⟩, List.mem_of_getElem? (i := 757) (by decide +kernel), List.mem_of_getElem? (i := 1003) (by decide +kernel), List.mem_of_getElem? (i := 1004) (by decide +kernel)⟩
theorem lw_p50 : lw_okq (⟨"SerialRecapsModel", "counted", "(I)I"⟩, 10) := ⟨⟨by decide +kernel, by decide +kernel⟩, List.mem_of_getElem? (i := 757) (by decide +kernel), List.mem_of_getElem? (i := 1011) (by decide +kernel), List.mem_of_getElem? (i := 1012) (by decide +kernel)⟩
theorem lw_p51 : lw_okq (⟨"SerialRecapsModel", "allWords", "()I"⟩, 10) := ⟨⟨by decide +kernel, by decide +kernel⟩, List.mem_of_getElem? (i := 757) (by decide +kernel), List.mem_of_getElem? (i := 1015) (by decide +kernel), List.mem_of_getElem? (i := 1016) (by decide +kernel)⟩
theorem lw_p52 : lw_okq (⟨"SerialRecapsModel", "wordsRead", "()I"⟩, 10) := ⟨⟨by decide +kernel, by decide +kernel⟩, List.mem_of_getElem? (i := 757) (by decide +kernel), List.mem_of_getElem? (i := 1019) (by decide +kernel), List.mem_of_getElem? (i := 1020) (by decide +kernel)⟩
theorem lw_p53 : lw_okq (⟨"SerialRecapsModel", "knowAll", "()I"⟩, 10) := ⟨⟨by decide +kernel, by decide +kernel⟩, List.mem_of_getElem? (i := 757) (by decide +kernel), List.mem_of_getElem? (i := 1023) (by decide +kernel), List.mem_of_getElem? (i := 1024) (by decide +kernel)⟩
theorem lw_p54 : lw_okq (⟨"SerialRecapsModel", "recapOf", "(III)I"⟩, 10) := ⟨⟨by decide +kernel, by decide +kernel⟩, List.mem_of_getElem? (i := 757) (by decide +kernel), List.mem_of_getElem? (i := 1035) (by decide +kernel), List.mem_of_getElem? (i := 1036) (by decide +kernel)⟩
theorem lw_p55 : lw_okq (⟨"SerialRecapsModel", "easiestOf", "(I)I"⟩, 10) := ⟨⟨by decide +kernel, by decide +kernel⟩, List.mem_of_getElem? (i := 757) (by decide +kernel), List.mem_of_getElem? (i := 1043) (by decide +kernel), List.mem_of_getElem? (i := 1044) (by decide +kernel)⟩
theorem lw_p56 : lw_okq (⟨"SerialRecapsModel", "enoughOf", "(I)I"⟩, 10) := ⟨⟨by decide +kernel, by decide +kernel⟩, List.mem_of_getElem? (i := 757) (by decide +kernel), List.mem_of_getElem? (i := 1051) (by decide +kernel), List.mem_of_getElem? (i := 1052) (by decide +kernel)⟩
theorem lw_p57 : lw_okq (⟨"SerialRecapsModel", "share", "()D"⟩, 10) := ⟨⟨by decide +kernel, by decide +kernel⟩, List.mem_of_getElem? (i := 757) (by decide +kernel), List.mem_of_getElem? (i := 1059) (by decide +kernel), List.mem_of_getElem? (i := 1060) (by decide +kernel)⟩
theorem lw_p58 : lw_okq (⟨"SerialRecapsModel", "mixes", "(J)V"⟩, 10) := ⟨⟨by decide +kernel, by decide +kernel⟩, List.mem_of_getElem? (i := 757) (by decide +kernel), List.mem_of_getElem? (i := 1068) (by decide +kernel), List.mem_of_getElem? (i := 1069) (by decide +kernel)⟩
theorem lw_p59 : lw_okq (⟨"SerialRecapsModel", "mixesReader", "(I)V"⟩, 10) := ⟨⟨by decide +kernel, by decide +kernel⟩, List.mem_of_getElem? (i := 757) (by decide +kernel), List.mem_of_getElem? (i := 1073) (by decide +kernel), List.mem_of_getElem? (i := 1074) (by decide +kernel)⟩
def lw_privs_4 : List (MethodName × Nat) := [(⟨"SerialRecapsModel", "ofParts", "(II)I"⟩, 10), (⟨"SerialRecapsModel", "goesOn", "(II)Z"⟩, 10), (⟨"SerialRecapsModel", "counted", "(I)I"⟩, 10), (⟨"SerialRecapsModel", "allWords", "()I"⟩, 10), (⟨"SerialRecapsModel", "wordsRead", "()I"⟩, 10), (⟨"SerialRecapsModel", "knowAll", "()I"⟩, 10), (⟨"SerialRecapsModel", "recapOf", "(III)I"⟩, 10), (⟨"SerialRecapsModel", "easiestOf", "(I)I"⟩, 10), (⟨"SerialRecapsModel", "enoughOf", "(I)I"⟩, 10), (⟨"SerialRecapsModel", "share", "()D"⟩, 10), (⟨"SerialRecapsModel", "mixes", "(J)V"⟩, 10), (⟨"SerialRecapsModel", "mixesReader", "(I)V"⟩, 10)]
theorem lw_r4 : ∀ q ∈ lw_privs_4, lw_okq q := List.forall_mem_cons.mpr ⟨lw_p48, List.forall_mem_cons.mpr ⟨lw_p49, List.forall_mem_cons.mpr ⟨lw_p50, List.forall_mem_cons.mpr ⟨lw_p51, List.forall_mem_cons.mpr ⟨lw_p52, List.forall_mem_cons.mpr ⟨lw_p53, List.forall_mem_cons.mpr ⟨lw_p54, List.forall_mem_cons.mpr ⟨lw_p55, List.forall_mem_cons.mpr ⟨lw_p56, List.forall_mem_cons.mpr ⟨lw_p57, List.forall_mem_cons.mpr ⟨lw_p58, List.forall_mem_cons.mpr ⟨lw_p59, fun _ h => absurd h List.not_mem_nil⟩⟩⟩⟩⟩⟩⟩⟩⟩⟩⟩⟩
def lw_privs : List (MethodName × Nat) := lw_privs_1 ++ (lw_privs_2 ++ (lw_privs_3 ++ (lw_privs_4)))
def lw_tbl : List Cond := k2_sels lw_privs ++ tables_1
theorem lw_privs_ok : ∀ q ∈ lw_privs, lw_okq q := by
  show ∀ q ∈ lw_privs_1 ++ (lw_privs_2 ++ (lw_privs_3 ++ (lw_privs_4))), lw_okq q
  exact List.forall_mem_append.mpr ⟨lw_r1, List.forall_mem_append.mpr ⟨lw_r2, List.forall_mem_append.mpr ⟨lw_r3, lw_r4⟩⟩⟩
/-- the streams that the claim lets the run draw from -/
abbrev lw_cs : List Choice := [Jvm.Choice.named "NaN.bits"]
theorem lw_bits : nanBits ∈ lw_cs := by first | decide | exact List.mem_cons_self | simp [lw_cs, nanBits]

/-! ===== BEGIN words of one list among another's, by their places ===== -/
theorem goodIn_r {big : List Cond} (ws : List Cond) (ps : List Nat) (hp : ws = ps.filterMap (fun i => big[i]?)) (h : ws.all goodWord = true) : GoodIn big ws := by
  intro w hw
  have h1 := List.all_eq_true.mp h w hw
  rw [hp] at hw
  obtain ⟨i, -, hi⟩ := List.mem_filterMap.mp hw
  have hm : w ∈ big := by first | exact List.mem_of_getElem? hi | exact List.getElem?_mem hi
  exact ⟨hm, good_of_word h1⟩
theorem goodIn_app {big a b : List Cond} (ha : GoodIn big a) (hb : GoodIn big b) : GoodIn big (a ++ b) := fun w h => (List.mem_append.mp h).elim (ha w) (hb w)
theorem goodIn_ca {big a b : List Cond} {c : Cond} (ha : GoodIn big (c :: a)) (hb : GoodIn big b) : GoodIn big (c :: (a ++ b)) := fun w h => (List.mem_cons.mp h).elim (fun e => ha w (List.mem_cons.mpr (Or.inl e))) (fun h => (List.mem_append.mp h).elim (fun h => ha w (List.mem_cons.mpr (Or.inr h))) (hb w))
theorem goodIn_sub {big ws : List Cond} (hm : ∀ w ∈ ws, w ∈ big) (h : ws.all goodWord = true) : GoodIn big ws := fun w hw => ⟨hm w hw, good_of_word (List.all_eq_true.mp h w hw)⟩
/-! ===== END ===== -/

/-! ===== BEGIN exceptions that leave a method, and their catching by the caller (launches without stack traces) ===== -/
section VXA
/-! The laws vx_back, vx_callV, vx_callS, vx_callSW, vx_throw0, vx_throwS follow proofs of the library, with one case more: JvmDerived/Free/Laws.lean (Back.of_free), Shelf42/LK1.lean (callV, callS), Shelf/KitTraced.lean (throwNew0V, throwNewS). -/
/-- where a method has thrown q: the class by its name, the cell, what was written, the world -/
def vx_T (XC : String → State → State → Prop) (st : State) (q : Addr) (t : State) (mc ms : Nat) (free : Addr → Prop) : Prop :=
  ∃ (E : String) (ce : Cell) (L : List Loc), XC E st t ∧ t.heap[q]? = some ce ∧ ce.vm = .none ∧ st.vm.findClass E = some ce.cls ∧ st.WarmedH t.vm ∧ st.sameButNew ({ t with vm := st.vm } : State) L mc ms ∧ ∀ z ∈ L, free z.base
def vx_Q (Qc : Array Value → State → Outcome → State → Prop) (XC : String → State → State → Prop) (mc ms : Nat) (free : Addr → Prop) : Array Value → State → Outcome → State → Prop := fun a st o t =>
  (Qc a st o t ∧ ∃ L, FrameEnd st o t L mc ms ∧ ∀ q ∈ L, free q.base) ∨ ∃ q, o = .threw q ∧ vx_T XC st q t mc ms free
/-- a callee that returns or throws -/
def vx_Met (l : Launch) (y : MethodName) (ws : List Cond) (rm : Room) (Pc : Array Value → State → Prop) (Qc : Array Value → State → Outcome → State → Prop) (XC : String → State → State → Prop) (mc ms : Nat) (free : Addr → Prop) : Prop :=
  MetFree l y (headSpec ws rm) Pc (fun _ _ _ _ _ => True) (vx_Q Qc XC mc ms free)
def vx_Post (XC : String → State → State → Prop) (mc ms : Nat) (free : Addr → Prop) : Pt → Array Value → Addr → Pt → Prop := fun A a q B =>
  ∃ (g : JFrame) (mk : MethodId) (t : State) (L : List Loc) (E : String) (ce : Cell), B.U.heap = t.heap ∧ B.U.vm = t.vm ∧ XC E (A.U.calling g mk a) t ∧ t.heap[q]? = some ce ∧ ce.vm = .none ∧ A.U.vm.findClass E = some ce.cls ∧ B.locs = A.locs ++ L ∧ (∀ z ∈ L, free z.base) ∧ B.cells = A.cells + mc ∧ B.slots = A.slots + ms
def vx_Back (l : Launch) (R : Room) (p : Program) (e : Env) (below : List Frame) (s : State) (sargs : Array Value) (y : MethodName) (len W9 : Nat)
    (Pre : Pt → Array Value → Prop) (Post : Pt → Array Value → Option Value → Pt → Prop) (PostX : Pt → Array Value → Addr → Pt → Prop) : Prop :=
  ∀ (m : MethodId) (meth : Method) (c : Code) (A : Pt) (g : JFrame) (ig : Instr) (mk : MethodId) (a : Array Value),
    Stand p l e R s m sargs below meth c A.U A.locs A.cells A.slots → g.method = m → g.locals.size = c.maxLocals → decode c.code g.pc = .ok (ig, len) →
    2 * g.monitorRoom + (g.stack.map fun v => v.category).sum ≤ W9 → A.U.methodNamed? y = some mk → Pre A a →
    (∃ (v : Option Value) (B : Pt), Stand p l e R s m sargs below meth c B.U B.locs B.cells B.slots ∧ Post A a v B ∧
      Steps p.tables e below (doInvoke e (A.U.setTop g) [] mk a).1 (B.U.setTop { g with pc := g.pc + len, stack := v.toList ++ g.stack })) ∨
    (∃ (q : Addr) (B : Pt), Stand p l e R s m sargs below meth c B.U B.locs B.cells B.slots ∧ PostX A a q B ∧
      Steps p.tables e below (doInvoke e (A.U.setTop g) [] mk a).1 ((B.U.setTop g).pushFrame (.throwing q)))
section Payer
variable {l : Launch} {R : Room} {p : Program} {e : Env} {below : List Frame} {s : State} {sargs : Array Value} {y : MethodName} {len W9 : Nat}
theorem vx_back {ws : List Cond} {rm : Room} {Pc : Array Value → State → Prop} {Qc : Array Value → State → Outcome → State → Prop} {XC : String → State → State → Prop} {mc ms : Nat} {free : Addr → Prop} {bytes : ByteArray} {maxL : Nat} {ret : Option FieldType}
    (hM : vx_Met l y ws rm Pc Qc XC mc ms free) (hblind : FrameBlind Pc) (hrc : rm.cells = mc) (hrs : rm.slots = ms)
    (hframes : rm.frames + 1 ≤ R.frames) (hlocals : W9 + (maxL + 11) + rm.locals ≤ R.locals)
    (hws : ∀ w ∈ ws, ∀ a' U, s.WarmedH U.vm → w.before a' U = true) (hcode : Cond.code y bytes maxL ret ∈ ws) (hinit : ∀ a' U, s.WarmedH U.vm → (Cond.initialized y.cls).before a' U = true) :
    vx_Back l R p e below s sargs y len W9 (PreOf R mc ms Pc) (PostOf Qc mc ms free) (vx_Post XC mc ms free) := by
  intro m meth c A g ig mk a X hg hsize hdg hW hn hp
  have h1 : (headSpec ws rm).pre.before a A.U = true := atoms_intro fun w hw => hws w hw _ _ X.warmed
  have h2 : (Cond.code y bytes maxL ret).before a A.U = true := hws _ hcode _ _ X.warmed
  have h3 : (Cond.initialized y.cls).before a A.U = true := hinit _ _ X.warmed
  have h4 : A.cells + (headSpec ws rm).room.cells ≤ R.cells := by rw [show (headSpec ws rm).room.cells = mc from hrc]; exact hp.1
  have h5 : A.slots + (headSpec ws rm).room.slots ≤ R.slots := by rw [show (headSpec ws rm).room.slots = ms from hrs]; exact hp.2.1
  have hPc : Pc a (A.U.calling g mk a) := hblind _ _ _ _ hp.2.2
  obtain ⟨U, Ls, c0, s0⟩ := A
  dsimp only [Pt.U, Pt.locs, Pt.cells, Pt.slots] at h1 h2 h3 h4 h5 X hn hPc ⊢
  obtain ⟨methY, cY, hmY, hcY, -, hlY, -, -, -, -⟩ := Cond.code_spec hn h2
  obtain ⟨kY, hkY, -⟩ := className_of_methodNamed hn
  have hinitY : kY.init = .initialized := Cond.initialized_spec (findClass_of_methodNamed hn) hkY h3
  have h : At U g.method c below := by rw [hg]; exact X.here
  have hlocals9 : W9 + (maxL + 11) + (headSpec ws rm).room.locals ≤ R.locals := hlocals
  have happ : (headSpec ws rm).appliesLoose y e.platform (U.calling g mk a) = true :=
    Spec.appliesLoose_calling (g := g) h hdg hn hkY hinitY
      (X.room_calling (g := g) (R' := (headSpec ws rm).room) hsize hmY hcY hframes (by rw [hlY]; omega) h4 h5) h1
  obtain ⟨mid, hmid⟩ := h.above
  have hfr : (U.setTop g).frames = (.java g :: mid) ++ below := by rw [State.frames_setTop' g h.top, hmid]; rfl
  obtain ⟨o, s₂, hsteps, -, hend, hq⟩ := Steps.callFree hM p X.admits X.cas X.clock (acts := []) hfr happ hPc trivial
  have hq' : vx_Q Qc XC mc ms free a (U.calling g mk a) o s₂ := hq
  rw [State.frames_setTop' g h.top] at hend
  obtain ⟨g₀, hg0⟩ := Option.isSome_iff_exists.mp h.top
  obtain ⟨r, hr⟩ := State.topJava?_eq_some.mp hg0
  have hr' : (({ U with heap := s₂.heap, slotsUsed := s₂.slotsUsed } : State).setVm s₂.vm).frames = .java g₀ :: r := hr
  rcases hq' with ⟨hqc, L, hfe, hL⟩ | ⟨q, rfl, E, ce, L, hx, hce, hcv, hcl, hW₂, hsm, hL⟩
  · obtain ⟨⟨v, rfl⟩, hW₂, e2, q2, q3, q4, q5, q6⟩ := id hfe
    have e3 : s₂ = ({ (U.calling g mk a).setFrames s₂.frames with heap := s₂.heap, slotsUsed := s₂.slotsUsed } : State).setVm s₂.vm := by
      have : s₂ = ({ s₂ with vm := (U.calling g mk a).vm } : State).setVm s₂.vm := rfl
      rw [e2] at this
      exact this
    obtain ⟨c₂, i₂, len₂, hc₂, hd₂, hf₂⟩ := hend
    have hW' : U.WarmedH s₂.vm := hW₂
    have hcc : c₂ = c := by
      have h1 : s₂.code? g.method = U.code? g.method := by
        rw [State.code?_eq, State.code?_eq, hW'.alike.method?]
      exact Option.some.inj (hc₂.symm.trans (h1.trans h.code))
    subst hcc
    have hlen : len₂ = len := by rw [hdg] at hd₂; cases hd₂; rfl
    subst hlen
    have hs₂ : s₂ = (({ U with heap := s₂.heap, slotsUsed := s₂.slotsUsed } : State).setVm s₂.vm).setTop { g with pc := g.pc + len₂, stack := v.toList ++ g.stack } := by
      refine e3.trans ?_
      rw [hf₂, State.calling_eq h.top, State.setFrames_setFrames, State.setTop_of_frames _ hr', hr]
      rfl
    have hsame : U.sameButNew ({ U with heap := s₂.heap, slotsUsed := s₂.slotsUsed } : State) L mc ms := by
      refine ⟨?_, q2, q3, q4, q5, q6⟩
      obtain ⟨t, ht, -⟩ := State.frames_cons hr
      show ({ U with heap := s₂.heap, slotsUsed := s₂.slotsUsed } : State) = { U.setFrames U.frames with heap := s₂.heap, slotsUsed := s₂.slotsUsed }
      rw [State.setFrames_self ht]
    subst hg
    refine Or.inl ⟨v, ⟨(({ U with heap := s₂.heap, slotsUsed := s₂.slotsUsed } : State).setVm s₂.vm), Ls ++ L, c0 + mc, s0 + ms⟩,
      ⟨X.admits, X.cas, X.clock, X.frames, X.room, X.hears, X.method, X.code, (X.here.setHeapUsed s₂.heap s₂.slotsUsed).setVm hW'.alike, X.tail, State.WarmedH.trans X.warmed hW', X.limits, X.bytes, X.same.trans (hsame.setVm s.vm)⟩,
      ⟨g, mk, s₂, L, rfl, rfl, hqc, rfl, hL, rfl, rfl⟩, ?_⟩
    show Steps p.tables e below _ ((({ U with heap := s₂.heap, slotsUsed := s₂.slotsUsed } : State).setVm s₂.vm).setTop { g with pc := g.pc + len₂, stack := v.toList ++ g.stack })
    rw [← hs₂]
    exact hsteps
  · obtain ⟨e2, q2, q3, q4, q5, q6⟩ := id hsm
    have e3 : s₂ = ({ (U.calling g mk a).setFrames s₂.frames with heap := s₂.heap, slotsUsed := s₂.slotsUsed } : State).setVm s₂.vm := by
      have : s₂ = ({ s₂ with vm := (U.calling g mk a).vm } : State).setVm s₂.vm := rfl
      rw [e2] at this
      exact this
    have hf₂ : s₂.frames = .throwing q :: .java g :: U.frames.tail := hend
    have hW' : U.WarmedH s₂.vm := hW₂
    have hs₂ : s₂ = ((({ U with heap := s₂.heap, slotsUsed := s₂.slotsUsed } : State).setVm s₂.vm).setTop g).pushFrame (.throwing q) := by
      refine e3.trans ?_
      rw [hf₂, State.calling_eq h.top, State.setFrames_setFrames, State.pushFrame, State.frames_setTop _ hr', State.setTop_of_frames _ hr', State.setFrames_setFrames, hr]
      rfl
    have hsame : U.sameButNew ({ U with heap := s₂.heap, slotsUsed := s₂.slotsUsed } : State) L mc ms := by
      refine ⟨?_, q2, q3, q4, q5, q6⟩
      obtain ⟨t, ht, -⟩ := State.frames_cons hr
      show ({ U with heap := s₂.heap, slotsUsed := s₂.slotsUsed } : State) = { U.setFrames U.frames with heap := s₂.heap, slotsUsed := s₂.slotsUsed }
      rw [State.setFrames_self ht]
    subst hg
    refine Or.inr ⟨q, ⟨(({ U with heap := s₂.heap, slotsUsed := s₂.slotsUsed } : State).setVm s₂.vm), Ls ++ L, c0 + mc, s0 + ms⟩,
      ⟨X.admits, X.cas, X.clock, X.frames, X.room, X.hears, X.method, X.code, (X.here.setHeapUsed s₂.heap s₂.slotsUsed).setVm hW'.alike, X.tail, State.WarmedH.trans X.warmed hW', X.limits, X.bytes, X.same.trans (hsame.setVm s.vm)⟩,
      ⟨g, mk, s₂, L, E, ce, rfl, rfl, hx, hce, hcv, hcl, rfl, hL, rfl, rfl⟩, ?_⟩
    show Steps p.tables e below _ (((({ U with heap := s₂.heap, slotsUsed := s₂.slotsUsed } : State).setVm s₂.vm).setTop g).pushFrame (.throwing q))
    rw [← hs₂]
    exact hsteps
end Payer
section Calls
variable {p : Program} {l : Launch} {e : Env} {R : Room} {s : State} {m : MethodId} {args : Array Value} {below : List Frame} {meth : Method} {c : Code} {T : State} {locs : List Loc} {cells slots : Nat}
theorem vx_callV (X : Stand p l e R s m args below meth c T locs cells slots) (hexec : p.tables.exec = Jvm.exec) {own C : String} {index : Nat} {y : MethodName} {bytes : ByteArray} {maxL : Nat} {ret : Option FieldType}
    (hown : s.vm.findClass own = some m.cls) (hlink : (Cond.methodLink own index y).before args s = true) (hinst : (Cond.instanceMethod y).before args s = true) (hsel : (Cond.selects C y y).before args s = true)
    (hcode : (Cond.code y bytes maxL ret).before args s = true) (hy : y.cls ≠ "java/lang/invoke/MethodHandle" ∧ y.cls ≠ "java/lang/invoke/VarHandle")
    {W9 : Nat} {Pre : Pt → Array Value → Prop} {Post : Pt → Array Value → Option Value → Pt → Prop} {PostX : Pt → Array Value → Addr → Pt → Prop} (hK : vx_Back l R p e below s args y 3 W9 Pre Post PostX)
    {b : Addr} {cellB : Cell} (hcell : T.heap[b]? = some cellB) (hobj : cellB.vm.isStatics = false) (hcls : s.vm.findClass C = some cellB.cls)
    {g : JFrame} (hg : g.method = m) (hsize : g.locals.size = c.maxLocals) {argsL rest : List Value} (hlen : ∀ sig, parseMethodDescriptor y.desc = some sig → argsL.length = sig.parameters.length)
    (hstack : g.stack = argsL.reverse ++ .ref b :: rest) (hW : 2 * g.monitorRoom + (rest.map fun v => v.category).sum ≤ W9) (hdg : decode c.code g.pc = .ok (.invokevirtual index, 3))
    (hpre : ∀ vm₁, s.WarmedH vm₁ → Pre ⟨T.setVm vm₁, locs, cells, slots⟩ (Value.ref b :: argsL).toArray) :
    (∃ (v : Option Value) (vm₁ : Vm) (B : Pt), s.WarmedH vm₁ ∧ Stand p l e R s m args below meth c B.U B.locs B.cells B.slots ∧ Post ⟨T.setVm vm₁, locs, cells, slots⟩ (Value.ref b :: argsL).toArray v B ∧
      ∀ target, Steps p.tables e below (B.U.setTop { g with pc := g.pc + 3, stack := v.toList ++ rest }) target → Steps p.tables e below (T.setTop g) target) ∨
    (∃ (q : Addr) (vm₁ : Vm) (B : Pt), s.WarmedH vm₁ ∧ Stand p l e R s m args below meth c B.U B.locs B.cells B.slots ∧ PostX ⟨T.setVm vm₁, locs, cells, slots⟩ (Value.ref b :: argsL).toArray q B ∧
      Steps p.tables e below (T.setTop g) ((B.U.setTop { g with stack := rest }).pushFrame (.throwing q))) := by
  obtain ⟨mk, methM, hnamed, hmethM, hstM, habM⟩ := Cond.instanceMethod_spec hinst
  obtain ⟨methM', cM, hmethM', -, -, -, -, -, -, hsigM⟩ := Cond.code_spec hnamed hcode
  cases hmethM.symm.trans hmethM'
  obtain ⟨c2, r2, m2, q1, q2, q3, q4, kP, hkP, hkPi⟩ := Cond.selects_spec hsel
  cases hcls.symm.trans q1
  cases (State.methodFound?_of_named hnamed hy).symm.trans q2
  cases hnamed.symm.trans q3
  have hselP : selectMethod e.platform s.vm cellB.cls mk = .method mk := by rw [Launch.admits_selectMethod X.admits]; exact q4
  obtain ⟨vm₁, X₁, hstep₁⟩ := X.invokevirtual hexec hown hlink hnamed hmethM hstM hkP hkPi hy (a := b) (cell := cellB) hcell
    (fun z h => by rw [h] at hobj; cases hobj) hselP hmethM habM hkP hkPi (g := g) hg (argsL := argsL) (rest := rest) (hlen _ hsigM) hstack hdg
  rcases hK m meth c ⟨T.setVm vm₁, locs, cells, slots⟩ { g with stack := rest } (.invokevirtual index) mk (Value.ref b :: argsL).toArray X₁ hg hsize hdg hW (X₁.named hnamed) (hpre vm₁ X₁.warmed) with ⟨v, B, X', hpost, hsteps⟩ | ⟨q, B, X', hpost, hsteps⟩
  · exact Or.inl ⟨v, vm₁, B, X₁.warmed, X', hpost, fun target h => hstep₁ _ fun acts => by rw [doInvoke_state]; exact hsteps.trans h⟩
  · exact Or.inr ⟨q, vm₁, B, X₁.warmed, X', hpost, hstep₁ _ fun acts => by rw [doInvoke_state]; exact hsteps⟩
theorem vx_callS (X : Stand p l e R s m args below meth c T locs cells slots) (hexec : p.tables.exec = Jvm.exec) {own : String} {index : Nat} {y : MethodName} {bytes : ByteArray} {maxL : Nat} {ret : Option FieldType}
    (hown : s.vm.findClass own = some m.cls) (hlink : (Cond.methodLink own index y).before args s = true) (hstat : (Cond.static y).before args s = true) (hinit : (Cond.initialized y.cls).before args s = true)
    (hcode : (Cond.code y bytes maxL ret).before args s = true) (hy : y.cls ≠ "java/lang/invoke/MethodHandle" ∧ y.cls ≠ "java/lang/invoke/VarHandle")
    {W9 : Nat} {Pre : Pt → Array Value → Prop} {Post : Pt → Array Value → Option Value → Pt → Prop} {PostX : Pt → Array Value → Addr → Pt → Prop} (hK : vx_Back l R p e below s args y 3 W9 Pre Post PostX)
    {g : JFrame} (hg : g.method = m) (hsize : g.locals.size = c.maxLocals) {argsL rest : List Value} (hlen : ∀ sig, parseMethodDescriptor y.desc = some sig → argsL.length = sig.parameters.length)
    (hstack : g.stack = argsL.reverse ++ rest) (hW : 2 * g.monitorRoom + (rest.map fun v => v.category).sum ≤ W9) (hdg : decode c.code g.pc = .ok (.invokestatic index, 3))
    (hpre : ∀ vm₁, s.WarmedH vm₁ → Pre ⟨T.setVm vm₁, locs, cells, slots⟩ argsL.toArray) :
    (∃ (v : Option Value) (vm₁ : Vm) (B : Pt), s.WarmedH vm₁ ∧ Stand p l e R s m args below meth c B.U B.locs B.cells B.slots ∧ Post ⟨T.setVm vm₁, locs, cells, slots⟩ argsL.toArray v B ∧
      ∀ target, Steps p.tables e below (B.U.setTop { g with pc := g.pc + 3, stack := v.toList ++ rest }) target → Steps p.tables e below (T.setTop g) target) ∨
    (∃ (q : Addr) (vm₁ : Vm) (B : Pt), s.WarmedH vm₁ ∧ Stand p l e R s m args below meth c B.U B.locs B.cells B.slots ∧ PostX ⟨T.setVm vm₁, locs, cells, slots⟩ argsL.toArray q B ∧
      Steps p.tables e below (T.setTop g) ((B.U.setTop { g with stack := rest }).pushFrame (.throwing q))) := by
  obtain ⟨mk, hnamed⟩ := Cond.code_named hcode
  obtain ⟨methM, cM, hmethM, -, -, -, -, -, -, hsigM⟩ := Cond.code_spec hnamed hcode
  have hstatic : methM.isStatic = true := Cond.static_spec hnamed hmethM hstat
  obtain ⟨kP, hkP, -⟩ := className_of_methodNamed hnamed
  have hinitP : kP.init = .initialized := Cond.initialized_spec (findClass_of_methodNamed hnamed) hkP hinit
  obtain ⟨vm₁, X₁, hstep₁⟩ := X.invokestatic hexec hown hlink hnamed hmethM hstatic hkP hinitP hy (g := g) hg (argsL := argsL) (rest := rest) (hlen _ hsigM) hstack hdg
  rcases hK m meth c ⟨T.setVm vm₁, locs, cells, slots⟩ { g with stack := rest } (.invokestatic index) mk argsL.toArray X₁ hg hsize hdg hW (X₁.named hnamed) (hpre vm₁ X₁.warmed) with ⟨v, B, X', hpost, hsteps⟩ | ⟨q, B, X', hpost, hsteps⟩
  · exact Or.inl ⟨v, vm₁, B, X₁.warmed, X', hpost, fun target h => hstep₁ _ fun acts => by rw [doInvoke_state]; exact hsteps.trans h⟩
  · exact Or.inr ⟨q, vm₁, B, X₁.warmed, X', hpost, hstep₁ _ fun acts => by rw [doInvoke_state]; exact hsteps⟩
end Calls
theorem vx_cls {s : State} {T : State} {vm₁ : Vm} {E : String} {k : ClassId} (hW : s.WarmedH vm₁) (h : (T.setVm vm₁).vm.findClass E = some k) : s.vm.findClass E = some k := by
  have h1 : vm₁.findClass E = some k := h
  rw [hW.alike.findClass] at h1
  exact h1
/-- the method's frame g, with q thrown over it -/
def vx_W (p : Program) (l : Launch) (e : Env) (R : Room) (s : State) (m : MethodId) (args : Array Value) (below : List Frame) (meth : Method) (c : Code) (H : Heap) (locs : List Loc) (cells slots : Nat) (Q : State → Prop) (g : JFrame) (q : Addr) : Prop :=
  ∀ T : State, T.heap = H → Stand p l e R s m args below meth c T locs cells slots → ∃ t, Steps p.tables e below ((T.setTop g).pushFrame (.throwing q)) t ∧ Q t
def vx_Run (p : Program) (l : Launch) (e : Env) (R : Room) (s : State) (m : MethodId) (args : Array Value) (below : List Frame) (meth : Method) (c : Code) (H : Heap) (locs : List Loc) (cells slots mc ms : Nat) (g : JFrame) (rest : List Value) (Qa : State → Outcome → State → Prop) (XC : String → State → State → Prop) (free : Addr → Prop) : Prop :=
  ∀ T : State, T.heap = H → Stand p l e R s m args below meth c T locs cells slots →
    (∃ (v : Option Value) (st₀ t T' : State) (L : List Loc), st₀.heap = H ∧ Stand p l e R s m args below meth c T' (locs ++ L) (cells + mc) (slots + ms) ∧ (∀ q ∈ L, free q.base) ∧ T'.heap = t.heap ∧ T'.vm = t.vm ∧ Qa st₀ (.returned v) t ∧
      Goes p e below T g T' { g with pc := g.pc + 3, stack := v.toList ++ rest }) ∨
    (∃ (q : Addr) (st₀ t T' : State) (L : List Loc) (E : String) (ce : Cell), st₀.heap = H ∧ Stand p l e R s m args below meth c T' (locs ++ L) (cells + mc) (slots + ms) ∧ (∀ z ∈ L, free z.base) ∧ T'.heap = t.heap ∧ T'.vm = t.vm ∧ XC E st₀ t ∧ t.heap[q]? = some ce ∧ ce.vm = .none ∧ s.vm.findClass E = some ce.cls ∧
      Steps p.tables e below (T.setTop g) ((T'.setTop { g with stack := rest }).pushFrame (.throwing q)))
def vx_X {S : Type} (px : S → Prop) (B : String → S → State → Prop) (A : Nat → Prop) : String → State → State → Prop := fun E st t => ∃ u : S, px u ∧ B E u t ∧ va_F A st t
section Runs
variable {p : Program} {l : Launch} {e : Env} {R : Room} {s : State} {m : MethodId} {args : Array Value} {below : List Frame} {meth : Method} {c : Code} {H : Heap} {locs : List Loc} {cells slots : Nat}
variable {y : MethodName} {bytes cc : ByteArray} {maxL nL mc ms n index : Nat} {ret : Option FieldType} {ws : List Cond} {rm : Room} {Pc : Array Value → State → Prop} {Qc : Array Value → State → Outcome → State → Prop} {XC : String → State → State → Prop} {free : Addr → Prop} {Ts : List Cond} {own C : String} {b : Addr} {As rest : List Value} {g : JFrame}
theorem vx_callBack (cb : CallB R s args own index y bytes maxL ret ws rm mc ms n) (hM : vx_Met l y ws rm Pc Qc XC mc ms free) (hbl : FrameBlind Pc) : vx_Back l R p e below s args y 3 8 (PreOf R mc ms Pc) (PostOf Qc mc ms free) (vx_Post XC mc ms free) := by
  obtain ⟨hrc, hrs, hfr, hlo, hws, hcw, -, hini, -⟩ := cb
  exact vx_back (bytes := bytes) (maxL := maxL) (ret := ret) hM hbl hrc hrs hfr hlo hws hcw (fun a' U hW => word_at hW (Or.inl (by first | rfl | simp [Cond.onTables, Cond.keeps, Cond.steady])) hini)
theorem vx_runV (S : CallFix p m c cc nL s args Ts own) (hM : vx_Met l y ws rm Pc Qc XC mc ms free) (cw : CallW R s args own C index y bytes maxL ret ws rm mc ms n) (hp : PreV s H C b Pc As)
    (hg : g.method = m) (hn : As.length = n) (hsize : g.locals.size = nL) (hstack : g.stack = As.reverse ++ .ref b :: rest) (hW : 2 * g.monitorRoom + (rest.map fun v => v.category).sum ≤ 8) (hdg : decode cc g.pc = .ok (.invokevirtual index, 3)) (hf : cells + mc ≤ R.cells ∧ slots + ms ≤ R.slots) :
    vx_Run p l e R s m args below meth c H locs cells slots mc ms g rest (Qc (Value.ref b :: As).toArray) XC free := by
  have hK : vx_Back l R p e below s args y 3 8 (PreOf R mc ms Pc) (PostOf Qc mc ms free) (vx_Post XC mc ms free) := vx_callBack cw.1 hM hp.1
  obtain ⟨⟨-, -, -, -, -, -, hcode, -, hy, hlen, hl⟩, hin, hse⟩ := cw
  obtain ⟨hx, hb, hml, ho, -⟩ := S
  obtain ⟨-, ⟨cellB, hcB, hoB, hclB⟩, hPc⟩ := hp
  intro T hT X
  rcases vx_callV X hx (C := C) (bytes := bytes) (maxL := maxL) (ret := ret) ho hl hin hse hcode hy hK (by rw [hT]; exact hcB) hoB hclB hg (hsize.trans hml.symm) (argsL := As) (rest := rest) (fun sig h => hn.trans (hlen sig h)) hstack hW (by rw [hb]; exact hdg)
    (fun vm₁ hW₁ => ⟨hf.1, hf.2, hPc (T.setVm vm₁) hT hW₁⟩) with ⟨v, vm₁, ⟨U', l2, c2, s2⟩, hW₁, X', ⟨g', mk, t, L, e1, e2, hq, h1, hL, h2, h3⟩, st⟩ | ⟨q, vm₁, ⟨U', l2, c2, s2⟩, hW₁, X', ⟨g', mk, t, L, E, ce, e1, e2, hq, hce, hcv, hcl, h1, hL, h2, h3⟩, st⟩
  · dsimp only [Pt.U, Pt.locs, Pt.cells, Pt.slots] at X' e1 e2 h1 h2 h3 st
    subst h1; subst h2; subst h3
    exact Or.inl ⟨v, (T.setVm vm₁).calling g' mk (Value.ref b :: As).toArray, t, U', L, hT, X', hL, e1, e2, hq, st⟩
  · dsimp only [Pt.U, Pt.locs, Pt.cells, Pt.slots] at X' e1 e2 h1 h2 h3 st hcl
    subst h1; subst h2; subst h3
    exact Or.inr ⟨q, (T.setVm vm₁).calling g' mk (Value.ref b :: As).toArray, t, U', L, E, ce, hT, X', hL, e1, e2, hq, hce, hcv, vx_cls hW₁ hcl, st⟩
theorem vx_runS (S : CallFix p m c cc nL s args Ts own) (hM : vx_Met l y ws rm Pc Qc XC mc ms free) (cw : CallB R s args own index y bytes maxL ret ws rm mc ms n ∧ (Cond.static y).before args s = true) (hp : PreS s H Pc As)
    (hg : g.method = m) (hn : As.length = n) (hsize : g.locals.size = nL) (hstack : g.stack = As.reverse ++ rest) (hW : 2 * g.monitorRoom + (rest.map fun v => v.category).sum ≤ 8) (hdg : decode cc g.pc = .ok (.invokestatic index, 3)) (hf : cells + mc ≤ R.cells ∧ slots + ms ≤ R.slots) :
    vx_Run p l e R s m args below meth c H locs cells slots mc ms g rest (Qc As.toArray) XC free := by
  have hK : vx_Back l R p e below s args y 3 8 (PreOf R mc ms Pc) (PostOf Qc mc ms free) (vx_Post XC mc ms free) := vx_callBack cw.1 hM hp.1
  obtain ⟨⟨-, -, -, -, -, -, hcode, hini, hy, hlen, hl⟩, hstt⟩ := cw
  obtain ⟨hx, hb, hml, ho, -⟩ := S
  intro T hT X
  rcases vx_callS X hx (bytes := bytes) (maxL := maxL) (ret := ret) ho hl hstt hini hcode hy hK hg (hsize.trans hml.symm) (argsL := As) (rest := rest) (fun sig h => hn.trans (hlen sig h)) hstack hW (by rw [hb]; exact hdg)
    (fun vm₁ hW₁ => ⟨hf.1, hf.2, hp.2 (T.setVm vm₁) hT hW₁⟩) with ⟨v, vm₁, ⟨U', l2, c2, s2⟩, hW₁, X', ⟨g', mk, t, L, e1, e2, hq, h1, hL, h2, h3⟩, st⟩ | ⟨q, vm₁, ⟨U', l2, c2, s2⟩, hW₁, X', ⟨g', mk, t, L, E, ce, e1, e2, hq, hce, hcv, hcl, h1, hL, h2, h3⟩, st⟩
  · dsimp only [Pt.U, Pt.locs, Pt.cells, Pt.slots] at X' e1 e2 h1 h2 h3 st
    subst h1; subst h2; subst h3
    exact Or.inl ⟨v, (T.setVm vm₁).calling g' mk As.toArray, t, U', L, hT, X', hL, e1, e2, hq, st⟩
  · dsimp only [Pt.U, Pt.locs, Pt.cells, Pt.slots] at X' e1 e2 h1 h2 h3 st hcl
    subst h1; subst h2; subst h3
    exact Or.inr ⟨q, (T.setVm vm₁).calling g' mk As.toArray, t, U', L, E, ce, hT, X', hL, e1, e2, hq, hce, hcv, vx_cls hW₁ hcl, st⟩
end Runs
section Rows
variable {p : Program} {l : Launch} {e : Env} {R : Room} {s : State} {m : MethodId} {args : Array Value} {below : List Frame} {meth : Method} {c : Code} {H : Heap} {locs : List Loc} {cells slots : Nat} {Q : State → Prop}
variable {mc ms : Nat} {free : Addr → Prop} {A0 A1 : Nat → Prop} {H0 : Heap} {a : Array Value} {pc : Nat} {ls : Array Slot} {st0 rest : List Value}
theorem vx_keep {st₀ t T' : State} {L : List Loc} (h0 : st₀.heap = H) (e1 : T'.heap = t.heap) (hS : va_S A0 H0 H locs) (hA : ∀ q, q < H.size → A1 q → A0 q) (hf : ∀ q, free q → A0 q) (hL : ∀ q ∈ L, free q.base) (hF : va_F A1 st₀ t) :
    H.size ≤ T'.heap.size ∧ (∀ q : Nat, q < H.size → ¬ A1 q → T'.heap[q]? = H[q]?) ∧ va_S A0 H0 T'.heap (locs ++ L) := by
  obtain ⟨hz, hk⟩ := hF
  rw [h0] at hz hk
  exact ⟨by rw [e1]; exact hz, fun q h1 h2 => by rw [e1]; exact hk q h1 h2,
    ⟨Nat.le_trans hS.1 (by rw [e1]; exact hz), fun q h1 h2 => by rw [e1, hk q (Nat.lt_of_lt_of_le h1 hS.1) (fun z => h2 (hA q (Nat.lt_of_lt_of_le h1 hS.1) z))]; exact hS.2.1 q h1 h2, fun q hq => by
      rcases List.mem_append.mp hq with h | h
      · exact hS.2.2 q h
      · exact hf _ (hL q h)⟩⟩
theorem vx_calli {S SX : Type} {post : Int32 → S → Prop} {px : SX → Prop} {B : S → State → Prop} {BX : String → SX → State → Prop} {AX : Nat → Prop} (hr : vx_Run p l e R s m args below meth c H locs cells slots mc ms (F0 m pc ls st0) rest (va_Qi post B A1 a) (vx_X px BX AX) free) (hS : va_S A0 H0 H locs) (hA : ∀ q, q < H.size → A1 q → A0 q) (hf : ∀ q, free q → A0 q) (hAX : ∀ q, q < H.size → AX q → A0 q)
    (kx : ∀ (E : String) (ce : Cell) (q9 : Addr) (u : SX) (t : State) (H1 : Heap) (locs1 : List Loc), t.heap = H1 → s.vm.Alike t.vm → px u → BX E u t → H.size ≤ H1.size → (∀ q : Nat, q < H.size → ¬ AX q → H1[q]? = H[q]?) → va_S A0 H0 H1 locs1 → H1[q9]? = some ce → ce.vm = .none → s.vm.findClass E = some ce.cls → vx_W p l e R s m args below meth c H1 locs1 (cells + mc) (slots + ms) Q (F0 m pc ls rest) q9)
    (kk : ∀ (r : Int32) (u : S) (t : State) (H1 : Heap) (locs1 : List Loc), t.heap = H1 → s.vm.Alike t.vm → post r u → B u t → H.size ≤ H1.size → (∀ q : Nat, q < H.size → ¬ A1 q → H1[q]? = H[q]?) → va_S A0 H0 H1 locs1 → W p l e R s m args below meth c H1 locs1 (cells + mc) (slots + ms) Q (F0 m (pc + 3) ls (.int r :: rest))) : W p l e R s m args below meth c H locs cells slots Q (F0 m pc ls st0) := by
  intro T hT X
  rcases hr T hT X with ⟨v, st₀, t, T', L, h0, X', hL, e1, e2, ⟨⟨r, u, hv, hp, hb⟩, hF⟩, st⟩ | ⟨q, st₀, t, T', L, E, ce, h0, X', hL, e1, e2, ⟨u, hp, hb, hF⟩, hce, hcv, hcl, st⟩
  · cases hv
    obtain ⟨k1, k2, k3⟩ := vx_keep h0 e1 hS hA hf hL hF
    obtain ⟨t2, a1, b1⟩ := kk r u t T'.heap (locs ++ L) e1.symm (by rw [← e2]; exact X'.warmed.alike) hp hb k1 k2 k3 T' rfl X'
    exact ⟨t2, st t2 a1, b1⟩
  · obtain ⟨k1, k2, k3⟩ := vx_keep h0 e1 hS hAX hf hL hF
    obtain ⟨t2, a1, b1⟩ := kx E ce q u t T'.heap (locs ++ L) e1.symm (by rw [← e2]; exact X'.warmed.alike) hp hb k1 k2 k3 (by rw [e1]; exact hce) hcv hcl T' rfl X'
    exact ⟨t2, st.trans a1, b1⟩
theorem vx_calll {S SX : Type} {post : Int64 → S → Prop} {px : SX → Prop} {B : S → State → Prop} {BX : String → SX → State → Prop} {AX : Nat → Prop} (hr : vx_Run p l e R s m args below meth c H locs cells slots mc ms (F0 m pc ls st0) rest (va_Ql post B A1 a) (vx_X px BX AX) free) (hS : va_S A0 H0 H locs) (hA : ∀ q, q < H.size → A1 q → A0 q) (hf : ∀ q, free q → A0 q) (hAX : ∀ q, q < H.size → AX q → A0 q)
    (kx : ∀ (E : String) (ce : Cell) (q9 : Addr) (u : SX) (t : State) (H1 : Heap) (locs1 : List Loc), t.heap = H1 → s.vm.Alike t.vm → px u → BX E u t → H.size ≤ H1.size → (∀ q : Nat, q < H.size → ¬ AX q → H1[q]? = H[q]?) → va_S A0 H0 H1 locs1 → H1[q9]? = some ce → ce.vm = .none → s.vm.findClass E = some ce.cls → vx_W p l e R s m args below meth c H1 locs1 (cells + mc) (slots + ms) Q (F0 m pc ls rest) q9)
    (kk : ∀ (r : Int64) (u : S) (t : State) (H1 : Heap) (locs1 : List Loc), t.heap = H1 → s.vm.Alike t.vm → post r u → B u t → H.size ≤ H1.size → (∀ q : Nat, q < H.size → ¬ A1 q → H1[q]? = H[q]?) → va_S A0 H0 H1 locs1 → W p l e R s m args below meth c H1 locs1 (cells + mc) (slots + ms) Q (F0 m (pc + 3) ls (.long r :: rest))) : W p l e R s m args below meth c H locs cells slots Q (F0 m pc ls st0) := by
  intro T hT X
  rcases hr T hT X with ⟨v, st₀, t, T', L, h0, X', hL, e1, e2, ⟨⟨r, u, hv, hp, hb⟩, hF⟩, st⟩ | ⟨q, st₀, t, T', L, E, ce, h0, X', hL, e1, e2, ⟨u, hp, hb, hF⟩, hce, hcv, hcl, st⟩
  · cases hv
    obtain ⟨k1, k2, k3⟩ := vx_keep h0 e1 hS hA hf hL hF
    obtain ⟨t2, a1, b1⟩ := kk r u t T'.heap (locs ++ L) e1.symm (by rw [← e2]; exact X'.warmed.alike) hp hb k1 k2 k3 T' rfl X'
    exact ⟨t2, st t2 a1, b1⟩
  · obtain ⟨k1, k2, k3⟩ := vx_keep h0 e1 hS hAX hf hL hF
    obtain ⟨t2, a1, b1⟩ := kx E ce q u t T'.heap (locs ++ L) e1.symm (by rw [← e2]; exact X'.warmed.alike) hp hb k1 k2 k3 (by rw [e1]; exact hce) hcv hcl T' rfl X'
    exact ⟨t2, st.trans a1, b1⟩
theorem vx_callf {S SX : Type} {post : UInt32 → S → Prop} {px : SX → Prop} {B : S → State → Prop} {BX : String → SX → State → Prop} {AX : Nat → Prop} (hr : vx_Run p l e R s m args below meth c H locs cells slots mc ms (F0 m pc ls st0) rest (va_Qf post B A1 a) (vx_X px BX AX) free) (hS : va_S A0 H0 H locs) (hA : ∀ q, q < H.size → A1 q → A0 q) (hf : ∀ q, free q → A0 q) (hAX : ∀ q, q < H.size → AX q → A0 q)
    (kx : ∀ (E : String) (ce : Cell) (q9 : Addr) (u : SX) (t : State) (H1 : Heap) (locs1 : List Loc), t.heap = H1 → s.vm.Alike t.vm → px u → BX E u t → H.size ≤ H1.size → (∀ q : Nat, q < H.size → ¬ AX q → H1[q]? = H[q]?) → va_S A0 H0 H1 locs1 → H1[q9]? = some ce → ce.vm = .none → s.vm.findClass E = some ce.cls → vx_W p l e R s m args below meth c H1 locs1 (cells + mc) (slots + ms) Q (F0 m pc ls rest) q9)
    (kk : ∀ (r : UInt32) (u : S) (t : State) (H1 : Heap) (locs1 : List Loc), t.heap = H1 → s.vm.Alike t.vm → post r u → B u t → H.size ≤ H1.size → (∀ q : Nat, q < H.size → ¬ A1 q → H1[q]? = H[q]?) → va_S A0 H0 H1 locs1 → W p l e R s m args below meth c H1 locs1 (cells + mc) (slots + ms) Q (F0 m (pc + 3) ls (.float r :: rest))) : W p l e R s m args below meth c H locs cells slots Q (F0 m pc ls st0) := by
  intro T hT X
  rcases hr T hT X with ⟨v, st₀, t, T', L, h0, X', hL, e1, e2, ⟨⟨r, u, hv, hp, hb⟩, hF⟩, st⟩ | ⟨q, st₀, t, T', L, E, ce, h0, X', hL, e1, e2, ⟨u, hp, hb, hF⟩, hce, hcv, hcl, st⟩
  · cases hv
    obtain ⟨k1, k2, k3⟩ := vx_keep h0 e1 hS hA hf hL hF
    obtain ⟨t2, a1, b1⟩ := kk r u t T'.heap (locs ++ L) e1.symm (by rw [← e2]; exact X'.warmed.alike) hp hb k1 k2 k3 T' rfl X'
    exact ⟨t2, st t2 a1, b1⟩
  · obtain ⟨k1, k2, k3⟩ := vx_keep h0 e1 hS hAX hf hL hF
    obtain ⟨t2, a1, b1⟩ := kx E ce q u t T'.heap (locs ++ L) e1.symm (by rw [← e2]; exact X'.warmed.alike) hp hb k1 k2 k3 (by rw [e1]; exact hce) hcv hcl T' rfl X'
    exact ⟨t2, st.trans a1, b1⟩
theorem vx_calld {S SX : Type} {post : UInt64 → S → Prop} {px : SX → Prop} {B : S → State → Prop} {BX : String → SX → State → Prop} {AX : Nat → Prop} (hr : vx_Run p l e R s m args below meth c H locs cells slots mc ms (F0 m pc ls st0) rest (va_Qd post B A1 a) (vx_X px BX AX) free) (hS : va_S A0 H0 H locs) (hA : ∀ q, q < H.size → A1 q → A0 q) (hf : ∀ q, free q → A0 q) (hAX : ∀ q, q < H.size → AX q → A0 q)
    (kx : ∀ (E : String) (ce : Cell) (q9 : Addr) (u : SX) (t : State) (H1 : Heap) (locs1 : List Loc), t.heap = H1 → s.vm.Alike t.vm → px u → BX E u t → H.size ≤ H1.size → (∀ q : Nat, q < H.size → ¬ AX q → H1[q]? = H[q]?) → va_S A0 H0 H1 locs1 → H1[q9]? = some ce → ce.vm = .none → s.vm.findClass E = some ce.cls → vx_W p l e R s m args below meth c H1 locs1 (cells + mc) (slots + ms) Q (F0 m pc ls rest) q9)
    (kk : ∀ (r : UInt64) (u : S) (t : State) (H1 : Heap) (locs1 : List Loc), t.heap = H1 → s.vm.Alike t.vm → post r u → B u t → H.size ≤ H1.size → (∀ q : Nat, q < H.size → ¬ A1 q → H1[q]? = H[q]?) → va_S A0 H0 H1 locs1 → W p l e R s m args below meth c H1 locs1 (cells + mc) (slots + ms) Q (F0 m (pc + 3) ls (.double r :: rest))) : W p l e R s m args below meth c H locs cells slots Q (F0 m pc ls st0) := by
  intro T hT X
  rcases hr T hT X with ⟨v, st₀, t, T', L, h0, X', hL, e1, e2, ⟨⟨r, u, hv, hp, hb⟩, hF⟩, st⟩ | ⟨q, st₀, t, T', L, E, ce, h0, X', hL, e1, e2, ⟨u, hp, hb, hF⟩, hce, hcv, hcl, st⟩
  · cases hv
    obtain ⟨k1, k2, k3⟩ := vx_keep h0 e1 hS hA hf hL hF
    obtain ⟨t2, a1, b1⟩ := kk r u t T'.heap (locs ++ L) e1.symm (by rw [← e2]; exact X'.warmed.alike) hp hb k1 k2 k3 T' rfl X'
    exact ⟨t2, st t2 a1, b1⟩
  · obtain ⟨k1, k2, k3⟩ := vx_keep h0 e1 hS hAX hf hL hF
    obtain ⟨t2, a1, b1⟩ := kx E ce q u t T'.heap (locs ++ L) e1.symm (by rw [← e2]; exact X'.warmed.alike) hp hb k1 k2 k3 (by rw [e1]; exact hce) hcv hcl T' rfl X'
    exact ⟨t2, st.trans a1, b1⟩
theorem vx_callv {S SX : Type} {post : S → Prop} {px : SX → Prop} {B : S → State → Prop} {BX : String → SX → State → Prop} {AX : Nat → Prop} (hr : vx_Run p l e R s m args below meth c H locs cells slots mc ms (F0 m pc ls st0) rest (va_Qv post B A1 a) (vx_X px BX AX) free) (hS : va_S A0 H0 H locs) (hA : ∀ q, q < H.size → A1 q → A0 q) (hf : ∀ q, free q → A0 q) (hAX : ∀ q, q < H.size → AX q → A0 q)
    (kx : ∀ (E : String) (ce : Cell) (q9 : Addr) (u : SX) (t : State) (H1 : Heap) (locs1 : List Loc), t.heap = H1 → s.vm.Alike t.vm → px u → BX E u t → H.size ≤ H1.size → (∀ q : Nat, q < H.size → ¬ AX q → H1[q]? = H[q]?) → va_S A0 H0 H1 locs1 → H1[q9]? = some ce → ce.vm = .none → s.vm.findClass E = some ce.cls → vx_W p l e R s m args below meth c H1 locs1 (cells + mc) (slots + ms) Q (F0 m pc ls rest) q9)
    (kk : ∀ (u : S) (t : State) (H1 : Heap) (locs1 : List Loc), t.heap = H1 → s.vm.Alike t.vm → post u → B u t → H.size ≤ H1.size → (∀ q : Nat, q < H.size → ¬ A1 q → H1[q]? = H[q]?) → va_S A0 H0 H1 locs1 → W p l e R s m args below meth c H1 locs1 (cells + mc) (slots + ms) Q (F0 m (pc + 3) ls (rest))) : W p l e R s m args below meth c H locs cells slots Q (F0 m pc ls st0) := by
  intro T hT X
  rcases hr T hT X with ⟨v, st₀, t, T', L, h0, X', hL, e1, e2, ⟨⟨u, hv, hp, hb⟩, hF⟩, st⟩ | ⟨q, st₀, t, T', L, E, ce, h0, X', hL, e1, e2, ⟨u, hp, hb, hF⟩, hce, hcv, hcl, st⟩
  · cases hv
    obtain ⟨k1, k2, k3⟩ := vx_keep h0 e1 hS hA hf hL hF
    obtain ⟨t2, a1, b1⟩ := kk u t T'.heap (locs ++ L) e1.symm (by rw [← e2]; exact X'.warmed.alike) hp hb k1 k2 k3 T' rfl X'
    exact ⟨t2, st t2 a1, b1⟩
  · obtain ⟨k1, k2, k3⟩ := vx_keep h0 e1 hS hAX hf hL hF
    obtain ⟨t2, a1, b1⟩ := kx E ce q u t T'.heap (locs ++ L) e1.symm (by rw [← e2]; exact X'.warmed.alike) hp hb k1 k2 k3 (by rw [e1]; exact hce) hcv hcl T' rfl X'
    exact ⟨t2, st.trans a1, b1⟩
/-- caught by the row x of this method's table; the rows ahead don't take it -/
theorem vx_catch {own name : String} {E : String} {ce : Cell} {q : Addr} (hown : s.vm.findClass own = some m.cls) (pre : List ExceptionTableEntry) (x : ExceptionTableEntry) (suf : List ExceptionTableEntry) (hsplit : c.exceptionTable.toList = pre ++ x :: suf)
    (hpass : ∀ z ∈ pre, covers z pc = false ∨ (z.catchType ≠ 0 ∧ ∃ nm : String, (Cond.classLink own z.catchType nm).before args s = true ∧ va_Nc E nm s)) (hx : covers x pc = true) (h0 : x.catchType ≠ 0)
    (hlink : (Cond.classLink own x.catchType name).before args s = true) (hcast : (Cond.castable E name).before args s = true) (hcell : H[q]? = some ce) (hv : ce.vm = .none) (hcl : s.vm.findClass E = some ce.cls)
    (kk : W p l e R s m args below meth c H locs cells slots Q (F0 m x.handlerPc ls [.ref q])) : vx_W p l e R s m args below meth c H locs cells slots Q (F0 m pc ls rest) q := by
  intro T hT X
  have hpl : e.platform.magicAccessors = ({} : Platform).magicAccessors := by rw [X.admits.platform]
  obtain ⟨c3, c4, hc3, hc4, hasg⟩ := Cond.castable_spec hcast
  cases Option.some.inj (hc3.symm.trans hcl)
  obtain ⟨c5, hc5, hcl5⟩ := Cond.classLink_spec hown hlink e.platform hpl
  cases Option.some.inj (hc4.symm.trans hc5)
  obtain ⟨vm', X', st⟩ := X.thenCaughtThrough q (g := F0 m pc ls rest) rfl (Steps.refl _) (by rw [hT]; exact hcell) (by rw [hv]; rfl) (by obtain ⟨k9, h9, -⟩ := Vm.findClass_spec hcl; exact ⟨k9, h9⟩) pre x suf hsplit
    (fun z hz => by
      rcases hpass z hz with h | ⟨hz0, nm, hl1, hn1⟩
      · exact Or.inl h
      · obtain ⟨c6, hc6, hcl6⟩ := Cond.classLink_spec hown hl1 e.platform hpl
        obtain ⟨a8, b8, h1, h2, h3⟩ := hn1
        cases Option.some.inj (h1.symm.trans hcl)
        cases Option.some.inj (h2.symm.trans hc6)
        exact Or.inr ⟨hz0, _, hcl6, h3⟩) hx (Or.inr ⟨h0, c4, hcl5, hasg⟩)
  obtain ⟨t, a1, b1⟩ := kk (T.setVm vm') hT X'
  exact ⟨t, st.trans a1, b1⟩
end Rows
section Ends
variable {p : Program} {l : Launch} {e : Env} {R : Room} {s : State} {m : MethodId} {args : Array Value} {below : List Frame} {meth : Method} {c : Code} {H : Heap} {locs : List Loc} {cells slots : Nat} {Q : State → Prop}
variable {mc ms : Nat} {free : Addr → Prop} {A0 A1 : Nat → Prop} {H0 : Heap} {a : Array Value} {ls : Array Slot} {st0 rest : List Value}
variable {Qc : Array Value → State → Outcome → State → Prop} {XC : String → State → State → Prop}
/-- what a body that may throw owes at its end -/
def vx_MQ (below : List Frame) (Qc : Array Value → State → Outcome → State → Prop) (XC : String → State → State → Prop) (a : Array Value) (s : State) (mc ms : Nat) (free : Addr → Prop) : State → Prop := fun t =>
  ∃ o, t.status = .running ∧ Ended t below o ∧ vx_Q Qc XC mc ms free a s o t
theorem vx_ret {g : JFrame} {mc ms : Nat} (k : W p l e R s m args below meth c H locs cells slots (MQ below Qc args s mc ms free) g) : W p l e R s m args below meth c H locs cells slots (vx_MQ below Qc XC args s mc ms free) g := by
  intro T hT X
  obtain ⟨t, a1, o, b1, b2, b3, b4⟩ := k T hT X
  exact ⟨t, a1, o, b1, b2, Or.inl ⟨b3, b4⟩⟩
/-- not caught here: it goes on to the caller -/
theorem vx_widen {g : JFrame} {q : Addr} {k n : Nat} (h1 : cells ≤ k) (h2 : slots ≤ n) (kk : vx_W p l e R s m args below meth c H locs k n Q g q) : vx_W p l e R s m args below meth c H locs cells slots Q g q := fun T hT X => kk T hT (stand_widen X h1 h2)
theorem vx_out {pc : Nat} {E : String} {ce : Cell} {q : Addr} {mc ms : Nat} (hout : ∀ x ∈ c.exceptionTable.toList, covers x pc = false) (hlocks : meth.locks = false) (hcell : H[q]? = some ce) (hv : ce.vm = .none) (hcl : s.vm.findClass E = some ce.cls)
    (hx : ∀ t : State, t.heap = H → s.vm.Alike t.vm → XC E s t) (hf : ∀ z ∈ locs, free z.base) (hc : cells ≤ mc) (hs : slots ≤ ms) :
    vx_W p l e R s m args below meth c H locs cells slots (vx_MQ below Qc XC args s mc ms free) (F0 m pc ls rest) q := by
  intro T hT X
  obtain ⟨st1, hrun, hend, hW, hsm⟩ := X.leaveThrown q (g := F0 m pc ls rest) rfl rfl rfl hout hlocks
  have hcell9 : (T.setFrames (.throwing q :: below)).heap[q]? = some ce := by
    show T.heap[q]? = some ce
    rw [hT]; exact hcell
  exact ⟨_, st1, .threw q, hrun, hend, Or.inr ⟨q, rfl, E, ce, locs, hx _ hT hW.alike, hcell9, hv, hcl, hW, hsm.mono hc hs, hf⟩⟩
theorem vx_frame {U : State} {k n : Nat} (h : s.sameButNew ({ U with vm := s.vm } : State) locs k n) : s.heap.size ≤ U.heap.size ∧ ∀ q : Nat, q < s.heap.size → (∀ z ∈ locs, z.base ≠ q) → U.heap[q]? = s.heap[q]? := by
  obtain ⟨-, h2, -, -, -, h6⟩ := h
  refine ⟨h2, fun q hq hz => ?_⟩
  obtain ⟨c9, e1, e2, e3, e4⟩ := h6 q _ (Array.getElem?_eq_getElem hq)
  have hs : c9.slots = (s.heap[q]).slots := Array.ext_getElem? fun i => e4 i fun hm => hz _ hm rfl
  have h9 : c9 = s.heap[q] := by
    rw [hs] at e2
    exact e2
  have e5 : U.heap[q]? = some c9 := e1
  rw [e5, h9, Array.getElem?_eq_getElem hq]
/-- the words of a throw but the four that speak of the heap -/
def vx_no (w : Cond) : Bool := decide (w ≠ .isRef (.static Bundle.tN "UNASSIGNED_STACK" Bundle.steD)) && decide (w ≠ .isRef (.static Bundle.tN "SUPPRESSED_SENTINEL" Bundle.listD)) && decide (w ≠ .laysStatic Bundle.tN "UNASSIGNED_STACK" Bundle.steD) && decide (w ≠ .laysStatic Bundle.tN "SUPPRESSED_SENTINEL" Bundle.listD)
def vx_at0 (own : String) (ic : Nat) (X : String) (names : List String) : List Cond := (Bundle.ownAtoms0 own ic X names).filter vx_no
def vx_atS (own : String) (ic : Nat) (X : String) (names : List String) : List Cond := (Bundle.ownAtoms own ic X names).filter vx_no
/-- a word that the tables alone decide, or a good one -/
def vx_ot (w : Cond) : Bool := w.onTables || goodWord w
theorem vx_ot_at {args a' : Array Value} {s U : State} {w : Cond} (hW : s.WarmedH U.vm) (hvm : s.vm = U.vm) (hg : vx_ot w = true) (h : w.before args s = true) : w.before a' U = true := by
  simp only [vx_ot, Bool.or_eq_true] at hg
  rcases hg with hg | hg
  · exact va_tabs hg hvm h
  · exact word_at hW (good_of_word hg) h
/-- a list's words: the good ones out of the method's own list, the others by premises of their own -/
theorem vx_hat {args : Array Value} {s : State} {L B : List Cond} (h1 : ∀ w ∈ L.filter goodWord, w.before args s = true) (h2 : ∀ w ∈ L.filter (fun w => !goodWord w), w ∈ B) (h3 : ∀ w ∈ B, w.before args s = true) : ∀ w ∈ L, w.before args s = true := by
  intro w hw
  by_cases g : goodWord w = true
  · exact h1 w (List.mem_filter.mpr ⟨hw, g⟩)
  · refine h3 w (h2 w (List.mem_filter.mpr ⟨hw, ?_⟩))
    show (!goodWord w) = true
    cases hgw : goodWord w
    · rfl
    · exact absurd hgw g
theorem vx_c {args : Array Value} {s : State} {w : Cond} {B : List Cond} (h : w.before args s = true) (t : ∀ w ∈ B, w.before args s = true) : ∀ w' ∈ w :: B, w'.before args s = true := fun w' h' => (List.mem_cons.mp h').elim (fun e => by rw [e]; exact h) (t w')
theorem vx_n {args : Array Value} {s : State} : ∀ w ∈ ([] : List Cond), w.before args s = true := fun _ h => nomatch h
theorem vx_own {args : Array Value} {s : State} {L : List Cond} (h1 : ∀ w ∈ L.filter vx_no, w.before args s = true)
    (hU : (Cond.isRef (.static Bundle.tN "UNASSIGNED_STACK" Bundle.steD)).before args s = true) (hN : (Cond.isRef (.static Bundle.tN "SUPPRESSED_SENTINEL" Bundle.listD)).before args s = true)
    (lU : (Cond.laysStatic Bundle.tN "UNASSIGNED_STACK" Bundle.steD).before args s = true) (lN : (Cond.laysStatic Bundle.tN "SUPPRESSED_SENTINEL" Bundle.listD).before args s = true) : ∀ w ∈ L, w.before args s = true := by
  intro w hw
  by_cases e1 : w = .isRef (.static Bundle.tN "UNASSIGNED_STACK" Bundle.steD)
  · rw [e1]; exact hU
  · by_cases e2 : w = .isRef (.static Bundle.tN "SUPPRESSED_SENTINEL" Bundle.listD)
    · rw [e2]; exact hN
    · by_cases e3 : w = .laysStatic Bundle.tN "UNASSIGNED_STACK" Bundle.steD
      · rw [e3]; exact lU
      · by_cases e4 : w = .laysStatic Bundle.tN "SUPPRESSED_SENTINEL" Bundle.listD
        · rw [e4]; exact lN
        · exact h1 w (List.mem_filter.mpr ⟨hw, by unfold vx_no; rw [decide_eq_true e1, decide_eq_true e2, decide_eq_true e3, decide_eq_true e4]; rfl⟩)
/-- where a static field lies, its class's statics cell in H -/
def vx_L (C n d : String) (A : Nat → Prop) (U : State) (H : Heap) : Prop := ∃ (c : ClassId) (k : Class) (i : Nat) (f : Field) (a : Nat) (cell : Cell), U.vm.findClass C = some c ∧ U.fieldFound? C n d = some (c, k, i, f) ∧ f.isStatic = true ∧ k.statics = some a ∧ H[a]? = some cell ∧ cell.vm.isStatics = true ∧ cell.cls = c ∧ f.slot < cell.slots.size ∧ k.staticTypes[f.slot]? = some f.type ∧ ¬ A a
theorem vx_L.moved {C n d : String} {A : Nat → Prop} {u U : State} {H : Heap} (hvm : u.vm.Alike U.vm) (h : vx_L C n d A u H) : vx_L C n d A U H := by
  obtain ⟨c, k, i, f, a, cell, h1, h2, h3, h4, h5, h6, h7, h8, h9, h10⟩ := h
  obtain ⟨k', hi', he⟩ := State.fieldFound?_setVm hvm h2
  exact ⟨c, k', i, f, a, cell, by rw [hvm.findClass]; exact h1, hi', h3, by rw [he]; exact h4, h5, h6, h7, h8, by rw [he]; exact h9, h10⟩
theorem vx_L.kept {C n d : String} {A : Nat → Prop} {U : State} {H H1 : Heap} (h : vx_L C n d A U H) (hq : ∀ a : Nat, a < H.size → ¬ A a → H1[a]? = H[a]?) : vx_L C n d A U H1 := by
  obtain ⟨c, k, i, f, a, cell, h1, h2, h3, h4, h5, h6, h7, h8, h9, h10⟩ := h
  exact ⟨c, k, i, f, a, cell, h1, h2, h3, h4, by rw [hq a (Array.getElem?_eq_some_iff.mp h5).1 h10]; exact h5, h6, h7, h8, h9, h10⟩
theorem vx_L.narrow {C n d : String} {A B : Nat → Prop} {U : State} {H : Heap} (h : vx_L C n d A U H) (hAB : ∀ q, B q → A q) : vx_L C n d B U H := by
  obtain ⟨c, k, i, f, a, cell, h1, h2, h3, h4, h5, h6, h7, h8, h9, h10⟩ := h
  exact ⟨c, k, i, f, a, cell, h1, h2, h3, h4, h5, h6, h7, h8, h9, fun z => h10 (hAB _ z)⟩
theorem vx_L.word {C n d : String} {A : Nat → Prop} {s : State} {args : Array Value} (h : vx_L C n d A s s.heap) : (Cond.laysStatic C n d).before args s = true := by
  obtain ⟨c, k, i, f, a, cell, h1, h2, h3, h4, h5, h6, h7, h8, h9, -⟩ := h
  show (Cond.laysStatic C n d).holds args s none s [] = true
  exact Cond.laysStatic_of h1 h2 h3 h4 h5 h6 h7 h8 h9
/-- .. and what it holds: null or some reference -/
def vx_Zq (C n d : String) (A : Nat → Prop) (U : State) (H : Heap) : Prop := va_Zq C n d A U H ∧ vx_L C n d A U H
theorem vx_Zq.moved {C n d : String} {A : Nat → Prop} {u U : State} {H : Heap} (hvm : u.vm.Alike U.vm) (h : vx_Zq C n d A u H) : vx_Zq C n d A U H := ⟨va_Zq.moved hvm h.1, vx_L.moved hvm h.2⟩
theorem vx_Zq.kept {C n d : String} {A : Nat → Prop} {U : State} {H H1 : Heap} (h : vx_Zq C n d A U H) (hq : ∀ a : Nat, a < H.size → ¬ A a → H1[a]? = H[a]?) : vx_Zq C n d A U H1 := ⟨va_Zq.kept h.1 hq, vx_L.kept h.2 hq⟩
theorem vx_Zq.narrow {C n d : String} {A B : Nat → Prop} {U : State} {H : Heap} (h : vx_Zq C n d A U H) (hAB : ∀ q, B q → A q) : vx_Zq C n d B U H := ⟨va_Zq.narrow h.1 hAB, vx_L.narrow h.2 hAB⟩
theorem vx_Zqof {args : Array Value} {s : State} {C n d : String} {A : Nat → Prop} (hl : (Cond.laysStatic C n d).before args s = true) (hini : (Cond.initialized C).before args s = true) (h : (Cond.isRef (.static C n d)).before args s = true) (hA : ∀ a : Nat, a < s.heap.size → ¬ A a) : vx_Zq C n d A s s.heap := by
  refine ⟨va_Zqof hl hini h hA, ?_⟩
  obtain ⟨c, k, i, f, a, cell, h1, h2, h3, h4, h5, h6, h7, h8, h9⟩ := Cond.laysStatic_spec hl
  exact ⟨c, k, i, f, a, cell, h1, h2, h3, h4, h5, h6, h7, h8, h9, hA a (Array.getElem?_eq_some_iff.mp h5).1⟩
theorem vx_isRef {C n d : String} {v : Value} {A : Nat → Prop} {s : State} {args : Array Value} (h : va_Z C n d v A s s.heap) (hv : v.isRef = true) : (Cond.isRef (.static C n d)).before args s = true := by
  obtain ⟨cf, kf, fi, f, a, cell, h1, h2, h3, h4, h5, h6, h7, -⟩ := h
  have he : (Term.static C n d).eval args s none [] s = some v := by
    simp [Term.eval, State.fieldNamed?, h1, h2, h4, h5, h6, h7]
  simp only [Cond.before, Cond.holds, Cond.value, he]
  cases v <;> simp_all [Value.isRef]
theorem vx_isRefq {C n d : String} {A : Nat → Prop} {s : State} {args : Array Value} (h : va_Zq C n d A s s.heap) : (Cond.isRef (.static C n d)).before args s = true := by
  rcases h with h | ⟨t, h⟩
  · exact vx_isRef h rfl
  · exact vx_isRef h rfl
/-- the same frame, seen from here: as if the method were called anew in this heap -/
theorem vx_rebase {T : State} (X : Stand p l e R s m args below meth c T locs cells slots) {R' : Room} (hf : R'.frames ≤ R.frames) (hl : R'.locals ≤ R.locals) (hc : cells + R'.cells ≤ R.cells) (hs : slots + R'.slots ≤ R.slots) :
    Stand p l e R' ((T.setVm s.vm).setFrames (.invoking m args :: below)) m args below meth c T [] 0 0 := by
  have htop : (T.setVm s.vm).topJava?.isSome := X.here.top
  have hF : ((T.setVm s.vm).setFrames (.invoking m args :: below)).frames = .invoking m args :: below := State.frames_setFrames _ (State.cur_lt_of_top htop)
  obtain ⟨g₀, hg0⟩ := Option.isSome_iff_exists.mp htop
  obtain ⟨r, hr⟩ := State.topJava?_eq_some.mp hg0
  have hl9 : e.platform.stackLimits (T.setVm s.vm).me = e.platform.stackLimits s.me := X.limits
  have hb9 : (T.setVm s.vm).me.stackBytes = s.me.stackBytes := X.bytes
  refine ⟨X.admits, X.cas, X.clock, hF, ?_, X.hears, X.method, X.code, X.here, X.tail, X.warmed, ?_, ?_, ?_⟩
  · have h := X.room
    have hU : ((T.setVm s.vm).setFrames (.invoking m args :: below)).localsInUse = s.localsInUse := by
      rw [State.localsInUse_invoking hF (meth := meth) (c := c) X.method X.code, State.localsInUse_invoking X.frames X.method X.code]
    simp only [State.hasRoom, Bool.and_eq_true, decide_eq_true_eq] at h ⊢
    obtain ⟨⟨⟨⟨h1, h2, h3, h4, h5, h6⟩, h7⟩, h8⟩, h9⟩ := h
    rw [X.frames, List.length_cons] at h2 h3
    have q1 := X.heapSize
    have q2 := X.used
    simp only [hF, hU, List.length_cons, State.stackLimits_setFrames, State.stackBytes_setFrames, hl9, hb9]
    refine ⟨⟨⟨⟨by omega, by omega, by omega, by omega, by omega, h6⟩, ?_⟩, ?_⟩, X.book⟩
    · show T.heap.size + R'.cells ≤ e.platform.maxCells
      omega
    · show T.slotsUsed + R'.slots ≤ e.platform.maxSlots
      omega
  · rw [State.stackLimits_setFrames]; rfl
  · rw [State.stackBytes_setFrames]; rfl
  · refine ⟨?_, Nat.le_refl _, Nat.le_refl _, ?_, ?_, fun a c9 h9 => ⟨c9, h9, rfl, rfl, fun _ _ => rfl⟩⟩
    · obtain ⟨t, ht, -⟩ := State.frames_cons hr
      show T.setVm s.vm = { ((T.setVm s.vm).setFrames (.invoking m args :: below)).setFrames (T.setVm s.vm).frames with heap := T.heap, slotsUsed := T.slotsUsed }
      rw [State.setFrames_setFrames, State.setFrames_self ht]
      rfl
    · show T.slotsUsed = T.slotsUsed + ((T.heap.toList.drop T.heap.size).map (·.slots.size)).sum
      rw [List.drop_eq_nil_of_le (Nat.le_of_eq Array.length_toList)]
      rfl
    · show ((T.heap.toList.drop T.heap.size).map (·.slots.size)).sum ≤ 0
      rw [List.drop_eq_nil_of_le (Nat.le_of_eq Array.length_toList)]
      exact Nat.le_refl _
/-- 'throw new E()': new; dup; invokespecial; athrow -/
theorem vx_throw0 {cc : ByteArray} {pc : Nat} (hexec : p.tables.exec = Jvm.exec) (hb : c.code = cc) (hl : l.stackTraces = false) {own cls : String} {names : List String} {ik ic mc ms : Nat} {A : Nat → Prop}
    (hown : s.vm.findClass own = some m.cls) (hcls : Bundle.fit cls = true) (hnames : ∀ n ∈ names, Bundle.fit n = true)
    (hk : (Cond.classLink own ik cls).before args s = true) (hini : (Cond.initialized cls).before args s = true) (hat : ∀ w ∈ vx_at0 own ic cls names, w.before args s = true)
    (hgood : ∀ w ∈ Cond.classLink own ik cls :: Cond.initialized cls :: vx_at0 own ic cls names, vx_ot w = true)
    (hU : vx_Zq Bundle.tN "UNASSIGNED_STACK" Bundle.steD A s s.heap) (hN : vx_Zq Bundle.tN "SUPPRESSED_SENTINEL" Bundle.listD A s s.heap) (hS : va_S A s.heap H locs) (hsize : ls.size = c.maxLocals)
    (d0 : decode cc pc = .ok (.new ik, 3)) (d3 : decode cc (pc + 3) = .ok (.dup, 1)) (d4 : decode cc (pc + 4) = .ok (.invokespecial ic, 3)) (d7 : decode cc (pc + 7) = .ok (.athrow, 1))
    (hout : ∀ x ∈ c.exceptionTable.toList, covers x (pc + 7) = false)
    (hRframes : names.length + 3 < R.frames) (hRlocals : (rest.map fun v => v.category).sum + (13 * (names.length + 1) + 42) ≤ R.locals) (hRcells : cells + 1 ≤ R.cells) (hRslots : slots + 6 ≤ R.slots) (hlocks : meth.locks = false)
    (hx : ∀ t : State, s.vm.Alike t.vm → H.size ≤ t.heap.size → (∀ q : Nat, q < H.size → t.heap[q]? = H[q]?) → XC cls s t)
    (hf : ∀ z ∈ locs, free z.base) (hc : cells + 1 ≤ mc) (hs : slots + 6 ≤ ms) :
    W p l e R s m args below meth c H locs cells slots (vx_MQ below Qc XC args s mc ms free) (F0 m pc ls rest) := by
  intro T hT X
  have htr : e.platform.stackTraces = false := (show e.platform.stackTraces = l.stackTraces by rw [X.admits.platform]).trans hl
  have Y := vx_rebase X (R' := { frames := R.frames, locals := R.locals, cells := 1, slots := 6 }) (Nat.le_refl _) (Nat.le_refl _) hRcells hRslots
  obtain ⟨s', hA⟩ : ∃ z, z = (T.setVm s.vm).setFrames (.invoking m args :: below) := ⟨_, rfl⟩
  rw [← hA] at Y
  have hvm : s'.vm = s.vm := by rw [hA]; rfl
  have hhp : s'.heap = H := by rw [hA]; exact hT
  have hW0 : s.WarmedH s'.vm := by rw [hvm]; exact State.WarmedH.refl s
  have hat' : ∀ w ∈ vx_at0 own ic cls names, w.before args s' = true := fun w hw => vx_ot_at hW0 hvm.symm (hgood w (List.mem_cons_of_mem _ (List.mem_cons_of_mem _ hw))) (hat w hw)
  have hk' : (Cond.classLink own ik cls).before args s' = true := vx_ot_at hW0 hvm.symm (hgood _ List.mem_cons_self) hk
  have hini' : (Cond.initialized cls).before args s' = true := vx_ot_at hW0 hvm.symm (hgood _ (List.mem_cons_of_mem _ List.mem_cons_self)) hini
  have hU' : vx_Zq Bundle.tN "UNASSIGNED_STACK" Bundle.steD A s' s'.heap := by rw [hhp]; exact vx_Zq.moved hW0.alike (hU.kept hS.2.1)
  have hN' : vx_Zq Bundle.tN "SUPPRESSED_SENTINEL" Bundle.listD A s' s'.heap := by rw [hhp]; exact vx_Zq.moved hW0.alike (hN.kept hS.2.1)
  have h : ∀ w ∈ Bundle.ownAtoms0 own ic cls names, w.before args s' = true := vx_own hat' (vx_isRefq hU'.1) (vx_isRefq hN'.1) hU'.2.word hN'.2.word
  have hown' : s'.vm.findClass own = some m.cls := by rw [hvm]; exact hown
  have hins : (Cond.instantiable cls 6).before args s' = true := h _ (by simp [Bundle.ownAtoms0])
  obtain ⟨vm₁, cX, kX, hfX, hkX, -, -, X₁, st1⟩ := Y.newCold hexec (own := own) (C := cls) (index := ik) (n := 6) hown' hk' hins hini'
    (g := F0 m pc ls rest) rfl (by rw [hb]; exact d0) (Nat.le_refl _) (Nat.le_refl _)
  generalize hT1 : (T.setVm vm₁).pushCell { cls := cX, slots := kX.instanceTypes.map defaultValue, vm := .none } = T1 at X₁ st1
  have hcat : (Value.ref T.heap.size).category = 1 := rfl
  have hcellA : T1.heap[T.heap.size]? = some (freshCell cX kX) := by rw [← hT1]; exact State.heap_pushCell_size _ _
  have d3' : decode c.code (pc + 3) = .ok (.dup, 1) := by rw [hb]; exact d3
  obtain ⟨U, hsteps, hrun, hend, hW, hsame, ce, hce, hO⟩ := X₁.ctorThrow0 hexec htr (own := own) (cls := cls) (names := names) (ic := ic) hown' hcls hnames h (fun x hx => nomatch hx) hfX hkX hcellA (by rw [hhp, hT]; exact Nat.le_refl _)
    (g := { method := m, pc := pc + 4, locals := ls, stack := .ref T.heap.size :: .ref T.heap.size :: rest, locked := none }) rfl hsize rfl rfl (rest := rest) rfl
    (by rw [hb]; exact d4) (by rw [hb]; exact d7) hout hRframes (by simp only [List.map_cons, List.sum_cons, hcat]; omega) hlocks
  obtain ⟨f1, f2⟩ := vx_frame hsame
  rw [hhp] at f1 f2
  have hWs : s.WarmedH U.vm := State.WarmedH.trans hW0 hW
  have hcl : s.vm.findClass cls = some ce.cls := by
    have h9 := hO.cls
    rw [hvm] at h9
    exact h9
  have hall : s.sameButNew ({ U with vm := s.vm } : State) locs mc ms := by
    subst hA
    obtain ⟨e1, e2⟩ := hsame
    rw [State.setFrames_setFrames] at e1
    have h2 : (T.setVm s.vm).sameButNew ({ U with vm := s.vm } : State) [] (0 + 1) (0 + 6) := ⟨e1, e2⟩
    have h3 := X.same.trans h2
    rw [List.append_nil] at h3
    exact h3.mono hc hs
  refine ⟨U, ?_, .threw T.heap.size, hrun, hend, Or.inr ⟨T.heap.size, rfl, cls, ce, locs, hx U hWs.alike f1 (fun q hq => f2 q hq (fun z hz => nomatch hz)), hce, hO.vm, hcl, hWs, hall, hf⟩⟩
  refine st1 _ ?_
  show Steps p.tables e below (T1.setTop { method := m, pc := pc + 3, locals := ls, stack := .ref T.heap.size :: rest, locked := none }) _
  jvm_step X₁.here [X₁.here.top, hexec, d3', Value.category]
  exact hsteps
/-- 'throw new E("text")': new; dup; ldc; invokespecial; athrow -/
theorem vx_throwS {cc : ByteArray} {pc : Nat} (hexec : p.tables.exec = Jvm.exec) (hb : c.code = cc) (hl : l.stackTraces = false) {own cls text : String} {names : List String} {ik is ic mc ms sa : Nat} {A : Nat → Prop}
    (hown : s.vm.findClass own = some m.cls) (hcls : Bundle.fit cls = true) (hnames : ∀ n ∈ names, Bundle.fit n = true)
    (hk : (Cond.classLink own ik cls).before args s = true) (hini : (Cond.initialized cls).before args s = true) (hstr : vk_R own is text sa s) (hat : ∀ w ∈ vx_atS own ic cls names, w.before args s = true)
    (hgood : ∀ w ∈ Cond.classLink own ik cls :: Cond.initialized cls :: vx_atS own ic cls names, vx_ot w = true)
    (hU : vx_Zq Bundle.tN "UNASSIGNED_STACK" Bundle.steD A s s.heap) (hN : vx_Zq Bundle.tN "SUPPRESSED_SENTINEL" Bundle.listD A s s.heap) (hS : va_S A s.heap H locs) (hsize : ls.size = c.maxLocals)
    (d0 : decode cc pc = .ok (.new ik, 3)) (d3 : decode cc (pc + 3) = .ok (.dup, 1)) (d4 : decode cc (pc + 4) = .ok (.ldc is, 2)) (d6 : decode cc (pc + 6) = .ok (.invokespecial ic, 3)) (d9 : decode cc (pc + 9) = .ok (.athrow, 1))
    (hout : ∀ x ∈ c.exceptionTable.toList, covers x (pc + 9) = false)
    (hRframes : names.length + 3 < R.frames) (hRlocals : (rest.map fun v => v.category).sum + (13 * (names.length + 1) + 43) ≤ R.locals) (hRcells : cells + 1 ≤ R.cells) (hRslots : slots + 6 ≤ R.slots) (hlocks : meth.locks = false)
    (hx : ∀ t : State, s.vm.Alike t.vm → H.size ≤ t.heap.size → (∀ q : Nat, q < H.size → t.heap[q]? = H[q]?) → XC cls s t)
    (hf : ∀ z ∈ locs, free z.base) (hc : cells + 1 ≤ mc) (hs : slots + 6 ≤ ms) :
    W p l e R s m args below meth c H locs cells slots (vx_MQ below Qc XC args s mc ms free) (F0 m pc ls rest) := by
  intro T hT X
  have htr : e.platform.stackTraces = false := (show e.platform.stackTraces = l.stackTraces by rw [X.admits.platform]).trans hl
  have Y := vx_rebase X (R' := { frames := R.frames, locals := R.locals, cells := 1, slots := 6 }) (Nat.le_refl _) (Nat.le_refl _) hRcells hRslots
  obtain ⟨s', hA⟩ : ∃ z, z = (T.setVm s.vm).setFrames (.invoking m args :: below) := ⟨_, rfl⟩
  rw [← hA] at Y
  have hvm : s'.vm = s.vm := by rw [hA]; rfl
  have hhp : s'.heap = H := by rw [hA]; exact hT
  have hW0 : s.WarmedH s'.vm := by rw [hvm]; exact State.WarmedH.refl s
  have hat' : ∀ w ∈ vx_atS own ic cls names, w.before args s' = true := fun w hw => vx_ot_at hW0 hvm.symm (hgood w (List.mem_cons_of_mem _ (List.mem_cons_of_mem _ hw))) (hat w hw)
  have hk' : (Cond.classLink own ik cls).before args s' = true := vx_ot_at hW0 hvm.symm (hgood _ List.mem_cons_self) hk
  have hini' : (Cond.initialized cls).before args s' = true := vx_ot_at hW0 hvm.symm (hgood _ (List.mem_cons_of_mem _ List.mem_cons_self)) hini
  have hU' : vx_Zq Bundle.tN "UNASSIGNED_STACK" Bundle.steD A s' s'.heap := by rw [hhp]; exact vx_Zq.moved hW0.alike (hU.kept hS.2.1)
  have hN' : vx_Zq Bundle.tN "SUPPRESSED_SENTINEL" Bundle.listD A s' s'.heap := by rw [hhp]; exact vx_Zq.moved hW0.alike (hN.kept hS.2.1)
  have h : ∀ w ∈ Bundle.ownAtoms own ic cls names, w.before args s' = true := vx_own hat' (vx_isRefq hU'.1) (vx_isRefq hN'.1) hU'.2.word hN'.2.word
  have hown' : s'.vm.findClass own = some m.cls := by rw [hvm]; exact hown
  have hins : (Cond.instantiable cls 6).before args s' = true := h _ (by simp [Bundle.ownAtoms])
  obtain ⟨vm₁, cX, kX, hfX, hkX, -, -, X₁, st1⟩ := Y.newCold hexec (own := own) (C := cls) (index := ik) (n := 6) hown' hk' hins hini'
    (g := F0 m pc ls rest) rfl (by rw [hb]; exact d0) (Nat.le_refl _) (Nat.le_refl _)
  generalize hT1 : (T.setVm vm₁).pushCell { cls := cX, slots := kX.instanceTypes.map defaultValue, vm := .none } = T1 at X₁ st1
  have hcat : (Value.ref T.heap.size).category = 1 := rfl
  have hcellA : T1.heap[T.heap.size]? = some (freshCell cX kX) := by rw [← hT1]; exact State.heap_pushCell_size _ _
  have d3' : decode c.code (pc + 3) = .ok (.dup, 1) := by rw [hb]; exact d3
  have d4' : decode c.code (pc + 4) = .ok (.ldc is, 2) := by rw [hb]; exact d4
  have hstr' : vk_R own is text sa s' := vk_R.warm hW0 hstr
  obtain ⟨U, hsteps, hrun, hend, hW, hsame, ce, hce, hO⟩ := X₁.ctorThrowS hexec htr (own := own) (cls := cls) (names := names) (ic := ic) hown' hcls hnames h (fun x hx => nomatch hx) hfX hkX hcellA (by rw [hhp, hT]; exact Nat.le_refl _) (msg := .ref sa) rfl
    (g := { method := m, pc := pc + 6, locals := ls, stack := .ref sa :: .ref T.heap.size :: .ref T.heap.size :: rest, locked := none }) rfl hsize rfl rfl (rest := rest) rfl
    (by rw [hb]; exact d6) (by rw [hb]; exact d9) hout hRframes (by simp only [List.map_cons, List.sum_cons, hcat]; omega) hlocks
  obtain ⟨f1, f2⟩ := vx_frame hsame
  rw [hhp] at f1 f2
  have hWs : s.WarmedH U.vm := State.WarmedH.trans hW0 hW
  have hcl : s.vm.findClass cls = some ce.cls := by
    have h9 := hO.cls
    rw [hvm] at h9
    exact h9
  have hall : s.sameButNew ({ U with vm := s.vm } : State) locs mc ms := by
    subst hA
    obtain ⟨e1, e2⟩ := hsame
    rw [State.setFrames_setFrames] at e1
    have h2 : (T.setVm s.vm).sameButNew ({ U with vm := s.vm } : State) [] (0 + 1) (0 + 6) := ⟨e1, e2⟩
    have h3 := X.same.trans h2
    rw [List.append_nil] at h3
    exact h3.mono hc hs
  refine ⟨U, ?_, .threw T.heap.size, hrun, hend, Or.inr ⟨T.heap.size, rfl, cls, ce, locs, hx U hWs.alike f1 (fun q hq => f2 q hq (fun z hz => nomatch hz)), hce, hO.vm, hcl, hWs, hall, hf⟩⟩
  refine st1 _ ?_
  show Steps p.tables e below (T1.setTop { method := m, pc := pc + 3, locals := ls, stack := .ref T.heap.size :: rest, locked := none }) _
  jvm_step X₁.here [X₁.here.top, hexec, d3', Value.category]
  exact X₁.ldcString hexec (own := own) (text := text) (index := is) (a := sa) hown' hstr'.1 hstr'.2
    (g := { method := m, pc := pc + 4, locals := ls, stack := .ref T.heap.size :: .ref T.heap.size :: rest, locked := none }) rfl d4' _ hsteps
/-- 'throw new E("text")', the text by a wide index -/
theorem vx_throwSW {cc : ByteArray} {pc : Nat} (hexec : p.tables.exec = Jvm.exec) (hb : c.code = cc) (hl : l.stackTraces = false) {own cls text : String} {names : List String} {ik is ic mc ms sa : Nat} {A : Nat → Prop}
    (hown : s.vm.findClass own = some m.cls) (hcls : Bundle.fit cls = true) (hnames : ∀ n ∈ names, Bundle.fit n = true)
    (hk : (Cond.classLink own ik cls).before args s = true) (hini : (Cond.initialized cls).before args s = true) (hstr : vk_R own is text sa s) (hat : ∀ w ∈ vx_atS own ic cls names, w.before args s = true)
    (hgood : ∀ w ∈ Cond.classLink own ik cls :: Cond.initialized cls :: vx_atS own ic cls names, vx_ot w = true)
    (hU : vx_Zq Bundle.tN "UNASSIGNED_STACK" Bundle.steD A s s.heap) (hN : vx_Zq Bundle.tN "SUPPRESSED_SENTINEL" Bundle.listD A s s.heap) (hS : va_S A s.heap H locs) (hsize : ls.size = c.maxLocals)
    (d0 : decode cc pc = .ok (.new ik, 3)) (d3 : decode cc (pc + 3) = .ok (.dup, 1)) (d4 : decode cc (pc + 4) = .ok (.ldc_w is, 3)) (d7 : decode cc (pc + 7) = .ok (.invokespecial ic, 3)) (d10 : decode cc (pc + 10) = .ok (.athrow, 1))
    (hout : ∀ x ∈ c.exceptionTable.toList, covers x (pc + 10) = false)
    (hRframes : names.length + 3 < R.frames) (hRlocals : (rest.map fun v => v.category).sum + (13 * (names.length + 1) + 43) ≤ R.locals) (hRcells : cells + 1 ≤ R.cells) (hRslots : slots + 6 ≤ R.slots) (hlocks : meth.locks = false)
    (hx : ∀ t : State, s.vm.Alike t.vm → H.size ≤ t.heap.size → (∀ q : Nat, q < H.size → t.heap[q]? = H[q]?) → XC cls s t)
    (hf : ∀ z ∈ locs, free z.base) (hc : cells + 1 ≤ mc) (hs : slots + 6 ≤ ms) :
    W p l e R s m args below meth c H locs cells slots (vx_MQ below Qc XC args s mc ms free) (F0 m pc ls rest) := by
  intro T hT X
  have htr : e.platform.stackTraces = false := (show e.platform.stackTraces = l.stackTraces by rw [X.admits.platform]).trans hl
  have Y := vx_rebase X (R' := { frames := R.frames, locals := R.locals, cells := 1, slots := 6 }) (Nat.le_refl _) (Nat.le_refl _) hRcells hRslots
  obtain ⟨s', hA⟩ : ∃ z, z = (T.setVm s.vm).setFrames (.invoking m args :: below) := ⟨_, rfl⟩
  rw [← hA] at Y
  have hvm : s'.vm = s.vm := by rw [hA]; rfl
  have hhp : s'.heap = H := by rw [hA]; exact hT
  have hW0 : s.WarmedH s'.vm := by rw [hvm]; exact State.WarmedH.refl s
  have hat' : ∀ w ∈ vx_atS own ic cls names, w.before args s' = true := fun w hw => vx_ot_at hW0 hvm.symm (hgood w (List.mem_cons_of_mem _ (List.mem_cons_of_mem _ hw))) (hat w hw)
  have hk' : (Cond.classLink own ik cls).before args s' = true := vx_ot_at hW0 hvm.symm (hgood _ List.mem_cons_self) hk
  have hini' : (Cond.initialized cls).before args s' = true := vx_ot_at hW0 hvm.symm (hgood _ (List.mem_cons_of_mem _ List.mem_cons_self)) hini
  have hU' : vx_Zq Bundle.tN "UNASSIGNED_STACK" Bundle.steD A s' s'.heap := by rw [hhp]; exact vx_Zq.moved hW0.alike (hU.kept hS.2.1)
  have hN' : vx_Zq Bundle.tN "SUPPRESSED_SENTINEL" Bundle.listD A s' s'.heap := by rw [hhp]; exact vx_Zq.moved hW0.alike (hN.kept hS.2.1)
  have h : ∀ w ∈ Bundle.ownAtoms own ic cls names, w.before args s' = true := vx_own hat' (vx_isRefq hU'.1) (vx_isRefq hN'.1) hU'.2.word hN'.2.word
  have hown' : s'.vm.findClass own = some m.cls := by rw [hvm]; exact hown
  have hins : (Cond.instantiable cls 6).before args s' = true := h _ (by simp [Bundle.ownAtoms])
  obtain ⟨vm₁, cX, kX, hfX, hkX, -, -, X₁, st1⟩ := Y.newCold hexec (own := own) (C := cls) (index := ik) (n := 6) hown' hk' hins hini'
    (g := F0 m pc ls rest) rfl (by rw [hb]; exact d0) (Nat.le_refl _) (Nat.le_refl _)
  generalize hT1 : (T.setVm vm₁).pushCell { cls := cX, slots := kX.instanceTypes.map defaultValue, vm := .none } = T1 at X₁ st1
  have hcat : (Value.ref T.heap.size).category = 1 := rfl
  have hcellA : T1.heap[T.heap.size]? = some (freshCell cX kX) := by rw [← hT1]; exact State.heap_pushCell_size _ _
  have d3' : decode c.code (pc + 3) = .ok (.dup, 1) := by rw [hb]; exact d3
  have d4' : decode c.code (pc + 4) = .ok (.ldc_w is, 3) := by rw [hb]; exact d4
  have hstr' : vk_R own is text sa s' := vk_R.warm hW0 hstr
  obtain ⟨U, hsteps, hrun, hend, hW, hsame, ce, hce, hO⟩ := X₁.ctorThrowS hexec htr (own := own) (cls := cls) (names := names) (ic := ic) hown' hcls hnames h (fun x hx => nomatch hx) hfX hkX hcellA (by rw [hhp, hT]; exact Nat.le_refl _) (msg := .ref sa) rfl
    (g := { method := m, pc := pc + 7, locals := ls, stack := .ref sa :: .ref T.heap.size :: .ref T.heap.size :: rest, locked := none }) rfl hsize rfl rfl (rest := rest) rfl
    (by rw [hb]; exact d7) (by rw [hb]; exact d10) hout hRframes (by simp only [List.map_cons, List.sum_cons, hcat]; omega) hlocks
  obtain ⟨f1, f2⟩ := vx_frame hsame
  rw [hhp] at f1 f2
  have hWs : s.WarmedH U.vm := State.WarmedH.trans hW0 hW
  have hcl : s.vm.findClass cls = some ce.cls := by
    have h9 := hO.cls
    rw [hvm] at h9
    exact h9
  have hall : s.sameButNew ({ U with vm := s.vm } : State) locs mc ms := by
    subst hA
    obtain ⟨e1, e2⟩ := hsame
    rw [State.setFrames_setFrames] at e1
    have h2 : (T.setVm s.vm).sameButNew ({ U with vm := s.vm } : State) [] (0 + 1) (0 + 6) := ⟨e1, e2⟩
    have h3 := X.same.trans h2
    rw [List.append_nil] at h3
    exact h3.mono hc hs
  refine ⟨U, ?_, .threw T.heap.size, hrun, hend, Or.inr ⟨T.heap.size, rfl, cls, ce, locs, hx U hWs.alike f1 (fun q hq => f2 q hq (fun z hz => nomatch hz)), hce, hO.vm, hcl, hWs, hall, hf⟩⟩
  refine st1 _ ?_
  show Steps p.tables e below (T1.setTop { method := m, pc := pc + 3, locals := ls, stack := .ref T.heap.size :: rest, locked := none }) _
  jvm_step X₁.here [X₁.here.top, hexec, d3', Value.category]
  exact X₁.ldcStringW hexec (own := own) (text := text) (index := is) (a := sa) hown' hstr'.1 hstr'.2
    (g := { method := m, pc := pc + 4, locals := ls, stack := .ref T.heap.size :: .ref T.heap.size :: rest, locked := none }) rfl d4' _ hsteps
end Ends
section Bodies
variable {l : Launch}
theorem vx_ofW {y : MethodName} {ws ws' : List Cond} {rm : Room} {Pc : Array Value → State → Prop} {Qc : Array Value → State → Outcome → State → Prop} {XC : String → State → State → Prop} {mc ms : Nat} {free : Addr → Prop} {cc : ByteArray} {maxL : Nat} {ret : Option FieldType}
    (hy : plainName y.cls = true) (hw : ws = Cond.code y cc maxL ret :: ws')
    (body : ∀ p e s m args below meth c s₁, BodyLoose p l y (headSpec ws rm) cc maxL ret e s m args below meth c s₁ → c.maxLocals = maxL → (∀ x ∈ c.exceptionTable.toList, False) → Pc args s →
      W p l e (headSpec ws rm).room s m args below meth c s.heap [] 0 0 (vx_MQ below Qc XC args s mc ms free) (entryFrame m args maxL)) : vx_Met l y ws rm Pc Qc XC mc ms free := by
  refine MetFree.of_bodyS (code := cc) (maxLocals := maxL) (ret := ret) hy ?_ ?_
  · intro args s m h hn
    obtain ⟨meth, c, h1, h2, h3, h4, h5, h6, -, -⟩ := Cond.code_spec hn (atoms_spec (ws := ws) h _ (by rw [hw]; exact List.mem_cons_self))
    exact ⟨meth, c, h1, h2, h3, h4, h5, h6⟩
  · intro p e s m args below meth c s₁ B hml hP _
    have hh0 : s₁.heap = s.heap := by rw [B.state]; rfl
    have ht : ∀ x ∈ c.exceptionTable.toList, False := by
      obtain ⟨meth9, c9, h1, h2, -, -, -, -, h7, -⟩ := Cond.code_spec B.named (atoms_spec (ws := ws) B.pre _ (by rw [hw]; exact List.mem_cons_self))
      cases Option.some.inj (h1.symm.trans B.method)
      cases Option.some.inj (h2.symm.trans (Stand.of_body B).code)
      intro x hx
      rw [Array.isEmpty_iff.mp h7] at hx
      cases hx
    obtain ⟨t, a1, o, b1, b2, b3⟩ := body p e s m args below meth c s₁ B hml ht hP s₁ hh0 (Stand.of_body B)
    exact ⟨t, o, a1, b1, b2, b3⟩
/-- the table of a body with handlers -/
theorem vx_table {p : Program} {x y : MethodName} {S : Spec} {cc bytes : ByteArray} {maxL maxL' : Nat} {ret ret' : Option FieldType} {e : Env} {s s₁ : State} {m : MethodId} {args : Array Value} {below : List Frame} {meth : Method} {c : Code} {hh : List (Nat × Nat × Nat × Nat)}
    (B : BodyLoose p l y S cc maxL ret e s m args below meth c s₁) (h : (Cond.codeWith y bytes maxL' ret' hh).before args s = true) : c.exceptionTable.toList = tableOf hh := by
  obtain ⟨m9, meth9, c9, hn9, h1, h2, -, -, h6, -⟩ := Cond.codeWith_spec h
  cases Option.some.inj (hn9.symm.trans B.named)
  cases Option.some.inj (h1.symm.trans B.method)
  cases Option.some.inj (h2.symm.trans (Stand.of_body B).code)
  rw [← h6, table_eq]
end Bodies
end VXA
/-! ===== END ===== -/
/-! ===== BEGIN a static call of a method with an exception table ===== -/
section VXS
variable {p : Program} {l : Launch} {e : Env} {R : Room} {s : State} {m : MethodId} {args : Array Value} {below : List Frame} {meth : Method} {c : Code} {T : State} {H : Heap} {locs : List Loc} {cells slots : Nat}
abbrev vx_CSW (R : Room) (s : State) (args : Array Value) (own : String) (index : Nat) (y : MethodName) (bytes : ByteArray) (maxL : Nat) (ret : Option FieldType) (hh : List (Nat × Nat × Nat × Nat)) (ws : List Cond) (rm : Room) (mc ms n : Nat) : Prop :=
  (rm.cells = mc ∧ rm.slots = ms ∧ rm.frames + 1 ≤ R.frames ∧ 8 + (maxL + 11) + rm.locals ≤ R.locals ∧ (∀ w ∈ ws, ∀ (a' : Array Value) (U : State), s.WarmedH U.vm → w.before a' U = true) ∧ Cond.codeWith y bytes maxL ret hh ∈ ws) ∧
  (Cond.codeWith y bytes maxL ret hh).before args s = true ∧ (Cond.initialized y.cls).before args s = true ∧ (y.cls ≠ "java/lang/invoke/MethodHandle" ∧ y.cls ≠ "java/lang/invoke/VarHandle") ∧
  (∀ sig, parseMethodDescriptor y.desc = some sig → n = sig.parameters.length) ∧ (Cond.methodLink own index y).before args s = true ∧ (Cond.static y).before args s = true
theorem vx_cwSW {own : String} {index maxL mc ms : Nat} {y : MethodName} {bytes : ByteArray} {ret : Option FieldType} {hh : List (Nat × Nat × Nat × Nat)} {Ts ws ws' : List Cond} {rm : Room} (n : Nat) (ht : ∀ w ∈ Ts, w.before args s = true) (hT : GoodIn Ts (va_wsS own index y ws)) (hw : ws = Cond.codeWith y bytes maxL ret hh :: ws') (hrc : rm.cells = mc) (hrs : rm.slots = ms)
    (hd : y.cls ≠ "java/lang/invoke/MethodHandle" ∧ y.cls ≠ "java/lang/invoke/VarHandle" ∧ (parseMethodDescriptor y.desc).map (fun d => d.parameters.length) = some n) (hR : rm.frames + 1 ≤ R.frames ∧ 8 + (maxL + 11) + rm.locals ≤ R.locals) :
    vx_CSW R s args own index y bytes maxL ret hh ws rm mc ms n := by
  have ok : ∀ w ∈ va_wsS own index y ws, w.before args s = true := fun w h => ht w (hT w h).1
  have hG : GoodIn Ts ws := fun w h => hT w (by unfold va_wsS; exact List.mem_append_right _ h)
  have hc : Cond.codeWith y bytes maxL ret hh ∈ ws := by rw [hw]; exact List.mem_cons_self
  refine ⟨⟨hrc, hrs, hR.1, hR.2, pay_in ht hG, hc⟩, ht _ (hG _ hc).1, ok _ (by simp [va_wsS]), ⟨hd.1, hd.2.1⟩, fun sig h => ?_, ok _ (by simp [va_wsS]), ok _ (by simp [va_wsS])⟩
  have h2 := hd.2.2
  rw [h] at h2
  exact (Option.some.inj h2).symm
theorem vx_callSW (X : Stand p l e R s m args below meth c T locs cells slots) (hexec : p.tables.exec = Jvm.exec) {own : String} {index : Nat} {y : MethodName} {bytes : ByteArray} {maxL : Nat} {ret : Option FieldType} {hh : List (Nat × Nat × Nat × Nat)}
    (hown : s.vm.findClass own = some m.cls) (hlink : (Cond.methodLink own index y).before args s = true) (hstat : (Cond.static y).before args s = true) (hinit : (Cond.initialized y.cls).before args s = true)
    (hcode : (Cond.codeWith y bytes maxL ret hh).before args s = true) (hy : y.cls ≠ "java/lang/invoke/MethodHandle" ∧ y.cls ≠ "java/lang/invoke/VarHandle")
    {W9 : Nat} {Pre : Pt → Array Value → Prop} {Post : Pt → Array Value → Option Value → Pt → Prop} (hK : Back l R p e below s args y 3 W9 Pre Post)
    {g : JFrame} (hg : g.method = m) (hsize : g.locals.size = c.maxLocals) {argsL rest : List Value} (hlen : ∀ sig, parseMethodDescriptor y.desc = some sig → argsL.length = sig.parameters.length)
    (hstack : g.stack = argsL.reverse ++ rest) (hW : 2 * g.monitorRoom + (rest.map fun v => v.category).sum ≤ W9) (hdg : decode c.code g.pc = .ok (.invokestatic index, 3))
    (hpre : ∀ vm₁, s.WarmedH vm₁ → Pre ⟨T.setVm vm₁, locs, cells, slots⟩ argsL.toArray) :
    ∃ (v : Option Value) (vm₁ : Vm) (B : Pt), s.WarmedH vm₁ ∧ Stand p l e R s m args below meth c B.U B.locs B.cells B.slots ∧ Post ⟨T.setVm vm₁, locs, cells, slots⟩ argsL.toArray v B ∧
      ∀ target, Steps p.tables e below (B.U.setTop { g with pc := g.pc + 3, stack := v.toList ++ rest }) target → Steps p.tables e below (T.setTop g) target := by
  obtain ⟨mk, methM, cM, hnamed, hmethM, -, -, -, -, -, -, hsigM⟩ := Cond.codeWith_spec hcode
  have hstatic : methM.isStatic = true := Cond.static_spec hnamed hmethM hstat
  obtain ⟨kP, hkP, -⟩ := className_of_methodNamed hnamed
  have hinitP : kP.init = .initialized := Cond.initialized_spec (findClass_of_methodNamed hnamed) hkP hinit
  obtain ⟨vm₁, X₁, hstep₁⟩ := X.invokestatic hexec hown hlink hnamed hmethM hstatic hkP hinitP hy (g := g) hg (argsL := argsL) (rest := rest) (hlen _ hsigM) hstack hdg
  obtain ⟨v, B, X', hpost, hsteps⟩ := hK m meth c ⟨T.setVm vm₁, locs, cells, slots⟩ { g with stack := rest } (.invokestatic index) mk argsL.toArray X₁ hg hsize hdg hW (X₁.named hnamed) (hpre vm₁ X₁.warmed)
  exact ⟨v, vm₁, B, X₁.warmed, X', hpost, fun target h => hstep₁ _ fun acts => by rw [doInvoke_state]; exact hsteps.trans h⟩
theorem vx_runSW {y : MethodName} {bytes cc : ByteArray} {maxL nL mc ms n index : Nat} {ret : Option FieldType} {hh : List (Nat × Nat × Nat × Nat)} {ws : List Cond} {rm : Room} {Pc : Array Value → State → Prop} {Qc : Array Value → State → Outcome → State → Prop} {free : Addr → Prop} {Ts : List Cond} {own : String} {As rest : List Value} {g : JFrame}
    (S : CallFix p m c cc nL s args Ts own) (hM : Met l y ws rm Pc Qc mc ms free) (cw : vx_CSW R s args own index y bytes maxL ret hh ws rm mc ms n) (hp : PreS s H Pc As)
    (hg : g.method = m) (hn : As.length = n) (hsize : g.locals.size = nL) (hstack : g.stack = As.reverse ++ rest) (hW : 2 * g.monitorRoom + (rest.map fun v => v.category).sum ≤ 8) (hdg : decode cc g.pc = .ok (.invokestatic index, 3)) (hf : cells + mc ≤ R.cells ∧ slots + ms ≤ R.slots) :
    va_Run p l e R s m args below meth c H locs cells slots mc ms g rest (Qc As.toArray) (free) := by
  obtain ⟨⟨hrc, hrs, hfr, hlo, hws, hcw⟩, hcode, hini, hy, hlen, hl, hstt⟩ := cw
  have hK : Back l R p e below s args y 3 8 (PreOf R mc ms Pc) (PostOf Qc mc ms free) := va_backW (hh := hh) (bytes := bytes) (maxL := maxL) (ret := ret) hM hp.1 hrc hrs hfr hlo hws hcw (fun a' U hW => word_at hW (Or.inl (by first | rfl | simp [Cond.onTables, Cond.keeps, Cond.steady])) hini)
  obtain ⟨hx, hb, hml, ho, -⟩ := S
  intro T hT X
  obtain ⟨v, vm₁, ⟨U', l2, c2, s2⟩, hW₁, X', ⟨g', mk, t, L, e1, e2, hq, h1, hL, h2, h3⟩, st⟩ := vx_callSW X hx (hh := hh) (bytes := bytes) (maxL := maxL) (ret := ret) ho hl hstt hini hcode hy hK hg (hsize.trans hml.symm) (argsL := As) (rest := rest) (fun sig h => hn.trans (hlen sig h)) hstack hW (by rw [hb]; exact hdg)
    (fun vm₁ hW₁ => ⟨hf.1, hf.2, hp.2 (T.setVm vm₁) hT hW₁⟩)
  dsimp only [Pt.U, Pt.locs, Pt.cells, Pt.slots] at X' e1 e2 h1 h2 h3 st
  subst h1; subst h2; subst h3
  exact ⟨v, (T.setVm vm₁).calling g' mk As.toArray, t, U', L, hT, X', hL, e1, e2, hq, st⟩
/-- not caught here, past rows that name other classes: it goes on to the caller -/
theorem vx_outP {p : Program} {l : Launch} {e : Env} {R : Room} {s : State} {m : MethodId} {args : Array Value} {below : List Frame} {meth : Method} {c : Code} {H : Heap} {locs : List Loc} {cells slots : Nat} {free : Addr → Prop} {ls : Array Slot} {rest : List Value} {Qc : Array Value → State → Outcome → State → Prop} {XC : String → State → State → Prop}
    {pc : Nat} {own E : String} {ce : Cell} {q : Addr} {mc ms : Nat} (hown : s.vm.findClass own = some m.cls) (hlocks : meth.locks = false)
    (hpass : ∀ z ∈ c.exceptionTable.toList, covers z pc = false ∨ (z.catchType ≠ 0 ∧ ∃ nm : String, (Cond.classLink own z.catchType nm).before args s = true ∧ va_Nc E nm s)) (hcell : H[q]? = some ce) (hv : ce.vm = .none) (hcl : s.vm.findClass E = some ce.cls)
    (hx : ∀ t : State, t.heap = H → s.vm.Alike t.vm → XC E s t) (hf : ∀ z ∈ locs, free z.base) (hc : cells ≤ mc) (hs : slots ≤ ms) :
    vx_W p l e R s m args below meth c H locs cells slots (vx_MQ below Qc XC args s mc ms free) (F0 m pc ls rest) q := by
  intro T hT X
  have hpl : e.platform.magicAccessors = ({} : Platform).magicAccessors := by rw [X.admits.platform]
  obtain ⟨vm', hW', X', st⟩ := X.outThrough hlocks q (g := F0 m pc ls rest) rfl rfl rfl (cell := ce) (by rw [hT]; exact hcell) (by rw [hv]; rfl)
    (by obtain ⟨k9, h9, -⟩ := Vm.findClass_spec hcl; exact ⟨k9, h9⟩) (fun z hz => by
      rcases hpass z hz with h | ⟨hz0, nm, hl1, hn1⟩
      · exact Or.inl h
      · obtain ⟨c6, hc6, hcl6⟩ := Cond.classLink_spec hown hl1 e.platform hpl
        obtain ⟨a8, b8, h1, h2, h3⟩ := hn1
        cases Option.some.inj (h1.symm.trans hcl)
        cases Option.some.inj (h2.symm.trans hc6)
        exact Or.inr ⟨hz0, _, hcl6, h3⟩)
  obtain ⟨g₀, hfr⟩ := X'.frames_eq
  have hcell9 : ((T.setVm vm').setFrames (.throwing q :: below)).heap[q]? = some ce := by
    show T.heap[q]? = some ce
    rw [hT]; exact hcell
  have hend : Ended ((T.setVm vm').setFrames (.throwing q :: below)) below (.threw q) := State.frames_setFrames _ (State.cur_lt_of_frames hfr)
  refine ⟨(T.setVm vm').setFrames (.throwing q :: below), ?_, .threw q, X'.here.running, hend, Or.inr ⟨q, rfl, E, ce, locs, hx _ hT (X'.ends _).1.alike, hcell9, hv, hcl, (X'.ends _).1, (X'.ends _).2.mono hc hs, hf⟩⟩
  rw [X.pushThrowing_eq]
  exact st
/-- a thing of a world lies in the heap -/
theorem vx_lt {D : va_G} {cl : List vw_C} {ws : va_W} {H1 : Heap} (h : va_P D cl ws H1) {k : Nat} {q : Nat × va_E} (hk : ws[k]? = some q) : q.1 < H1.size := (h k q hk).lt
end VXS
/-! ===== END ===== -/
/-! ===== BEGIN methods with a table of their own: called by a name, returning or throwing ===== -/
section VXH
/-! vx_backW, vx_callVX, vx_callSX, vx_callVW, vx_runVW, vx_runVX, vx_runSX, vx_ofWH follow the same proofs as their sisters above (Free/Laws.lean, Shelf42/LK1.lean); vx_outP calls Shelf42/NT130.lean (outThrough). -/
section
variable {l : Launch} {R : Room} {p : Program} {e : Env} {below : List Frame} {s : State} {sargs : Array Value} {y : MethodName} {len W9 : Nat}
theorem vx_backW {ws : List Cond} {rm : Room} {Pc : Array Value → State → Prop} {Qc : Array Value → State → Outcome → State → Prop} {XC : String → State → State → Prop} {mc ms : Nat} {free : Addr → Prop} {bytes : ByteArray} {maxL : Nat} {ret : Option FieldType} {hh : List (Nat × Nat × Nat × Nat)}
    (hM : vx_Met l y ws rm Pc Qc XC mc ms free) (hblind : FrameBlind Pc) (hrc : rm.cells = mc) (hrs : rm.slots = ms)
    (hframes : rm.frames + 1 ≤ R.frames) (hlocals : W9 + (maxL + 11) + rm.locals ≤ R.locals)
    (hws : ∀ w ∈ ws, ∀ a' U, s.WarmedH U.vm → w.before a' U = true) (hcode : Cond.codeWith y bytes maxL ret hh ∈ ws) (hinit : ∀ a' U, s.WarmedH U.vm → (Cond.initialized y.cls).before a' U = true) :
    vx_Back l R p e below s sargs y len W9 (PreOf R mc ms Pc) (PostOf Qc mc ms free) (vx_Post XC mc ms free) := by
  intro m meth c A g ig mk a X hg hsize hdg hW hn hp
  have h1 : (headSpec ws rm).pre.before a A.U = true := atoms_intro fun w hw => hws w hw _ _ X.warmed
  have h2 : (Cond.codeWith y bytes maxL ret hh).before a A.U = true := hws _ hcode _ _ X.warmed
  have h3 : (Cond.initialized y.cls).before a A.U = true := hinit _ _ X.warmed
  have h4 : A.cells + (headSpec ws rm).room.cells ≤ R.cells := by rw [show (headSpec ws rm).room.cells = mc from hrc]; exact hp.1
  have h5 : A.slots + (headSpec ws rm).room.slots ≤ R.slots := by rw [show (headSpec ws rm).room.slots = ms from hrs]; exact hp.2.1
  have hPc : Pc a (A.U.calling g mk a) := hblind _ _ _ _ hp.2.2
  obtain ⟨U, Ls, c0, s0⟩ := A
  dsimp only [Pt.U, Pt.locs, Pt.cells, Pt.slots] at h1 h2 h3 h4 h5 X hn hPc ⊢
  obtain ⟨m9, methY, cY, hn9, hmY, hcY, -, hlY, -⟩ := Cond.codeWith_spec h2
  cases Option.some.inj (hn9.symm.trans hn)
  obtain ⟨kY, hkY, -⟩ := className_of_methodNamed hn
  have hinitY : kY.init = .initialized := Cond.initialized_spec (findClass_of_methodNamed hn) hkY h3
  have h : At U g.method c below := by rw [hg]; exact X.here
  have hlocals9 : W9 + (maxL + 11) + (headSpec ws rm).room.locals ≤ R.locals := hlocals
  have happ : (headSpec ws rm).appliesLoose y e.platform (U.calling g mk a) = true :=
    Spec.appliesLoose_calling (g := g) h hdg hn hkY hinitY
      (X.room_calling (g := g) (R' := (headSpec ws rm).room) hsize hmY hcY hframes (by rw [hlY]; omega) h4 h5) h1
  obtain ⟨mid, hmid⟩ := h.above
  have hfr : (U.setTop g).frames = (.java g :: mid) ++ below := by rw [State.frames_setTop' g h.top, hmid]; rfl
  obtain ⟨o, s₂, hsteps, -, hend, hq⟩ := Steps.callFree hM p X.admits X.cas X.clock (acts := []) hfr happ hPc trivial
  have hq' : vx_Q Qc XC mc ms free a (U.calling g mk a) o s₂ := hq
  rw [State.frames_setTop' g h.top] at hend
  obtain ⟨g₀, hg0⟩ := Option.isSome_iff_exists.mp h.top
  obtain ⟨r, hr⟩ := State.topJava?_eq_some.mp hg0
  have hr' : (({ U with heap := s₂.heap, slotsUsed := s₂.slotsUsed } : State).setVm s₂.vm).frames = .java g₀ :: r := hr
  rcases hq' with ⟨hqc, L, hfe, hL⟩ | ⟨q, rfl, E, ce, L, hx, hce, hcv, hcl, hW₂, hsm, hL⟩
  · obtain ⟨⟨v, rfl⟩, hW₂, e2, q2, q3, q4, q5, q6⟩ := id hfe
    have e3 : s₂ = ({ (U.calling g mk a).setFrames s₂.frames with heap := s₂.heap, slotsUsed := s₂.slotsUsed } : State).setVm s₂.vm := by
      have : s₂ = ({ s₂ with vm := (U.calling g mk a).vm } : State).setVm s₂.vm := rfl
      rw [e2] at this
      exact this
    obtain ⟨c₂, i₂, len₂, hc₂, hd₂, hf₂⟩ := hend
    have hW' : U.WarmedH s₂.vm := hW₂
    have hcc : c₂ = c := by
      have h1 : s₂.code? g.method = U.code? g.method := by
        rw [State.code?_eq, State.code?_eq, hW'.alike.method?]
      exact Option.some.inj (hc₂.symm.trans (h1.trans h.code))
    subst hcc
    have hlen : len₂ = len := by rw [hdg] at hd₂; cases hd₂; rfl
    subst hlen
    have hs₂ : s₂ = (({ U with heap := s₂.heap, slotsUsed := s₂.slotsUsed } : State).setVm s₂.vm).setTop { g with pc := g.pc + len₂, stack := v.toList ++ g.stack } := by
      refine e3.trans ?_
      rw [hf₂, State.calling_eq h.top, State.setFrames_setFrames, State.setTop_of_frames _ hr', hr]
      rfl
    have hsame : U.sameButNew ({ U with heap := s₂.heap, slotsUsed := s₂.slotsUsed } : State) L mc ms := by
      refine ⟨?_, q2, q3, q4, q5, q6⟩
      obtain ⟨t, ht, -⟩ := State.frames_cons hr
      show ({ U with heap := s₂.heap, slotsUsed := s₂.slotsUsed } : State) = { U.setFrames U.frames with heap := s₂.heap, slotsUsed := s₂.slotsUsed }
      rw [State.setFrames_self ht]
    subst hg
    refine Or.inl ⟨v, ⟨(({ U with heap := s₂.heap, slotsUsed := s₂.slotsUsed } : State).setVm s₂.vm), Ls ++ L, c0 + mc, s0 + ms⟩,
      ⟨X.admits, X.cas, X.clock, X.frames, X.room, X.hears, X.method, X.code, (X.here.setHeapUsed s₂.heap s₂.slotsUsed).setVm hW'.alike, X.tail, State.WarmedH.trans X.warmed hW', X.limits, X.bytes, X.same.trans (hsame.setVm s.vm)⟩,
      ⟨g, mk, s₂, L, rfl, rfl, hqc, rfl, hL, rfl, rfl⟩, ?_⟩
    show Steps p.tables e below _ ((({ U with heap := s₂.heap, slotsUsed := s₂.slotsUsed } : State).setVm s₂.vm).setTop { g with pc := g.pc + len₂, stack := v.toList ++ g.stack })
    rw [← hs₂]
    exact hsteps
  · obtain ⟨e2, q2, q3, q4, q5, q6⟩ := id hsm
    have e3 : s₂ = ({ (U.calling g mk a).setFrames s₂.frames with heap := s₂.heap, slotsUsed := s₂.slotsUsed } : State).setVm s₂.vm := by
      have : s₂ = ({ s₂ with vm := (U.calling g mk a).vm } : State).setVm s₂.vm := rfl
      rw [e2] at this
      exact this
    have hf₂ : s₂.frames = .throwing q :: .java g :: U.frames.tail := hend
    have hW' : U.WarmedH s₂.vm := hW₂
    have hs₂ : s₂ = ((({ U with heap := s₂.heap, slotsUsed := s₂.slotsUsed } : State).setVm s₂.vm).setTop g).pushFrame (.throwing q) := by
      refine e3.trans ?_
      rw [hf₂, State.calling_eq h.top, State.setFrames_setFrames, State.pushFrame, State.frames_setTop _ hr', State.setTop_of_frames _ hr', State.setFrames_setFrames, hr]
      rfl
    have hsame : U.sameButNew ({ U with heap := s₂.heap, slotsUsed := s₂.slotsUsed } : State) L mc ms := by
      refine ⟨?_, q2, q3, q4, q5, q6⟩
      obtain ⟨t, ht, -⟩ := State.frames_cons hr
      show ({ U with heap := s₂.heap, slotsUsed := s₂.slotsUsed } : State) = { U.setFrames U.frames with heap := s₂.heap, slotsUsed := s₂.slotsUsed }
      rw [State.setFrames_self ht]
    subst hg
    refine Or.inr ⟨q, ⟨(({ U with heap := s₂.heap, slotsUsed := s₂.slotsUsed } : State).setVm s₂.vm), Ls ++ L, c0 + mc, s0 + ms⟩,
      ⟨X.admits, X.cas, X.clock, X.frames, X.room, X.hears, X.method, X.code, (X.here.setHeapUsed s₂.heap s₂.slotsUsed).setVm hW'.alike, X.tail, State.WarmedH.trans X.warmed hW', X.limits, X.bytes, X.same.trans (hsame.setVm s.vm)⟩,
      ⟨g, mk, s₂, L, E, ce, rfl, rfl, hx, hce, hcv, hcl, rfl, hL, rfl, rfl⟩, ?_⟩
    show Steps p.tables e below _ (((({ U with heap := s₂.heap, slotsUsed := s₂.slotsUsed } : State).setVm s₂.vm).setTop g).pushFrame (.throwing q))
    rw [← hs₂]
    exact hsteps
end
variable {p : Program} {l : Launch} {e : Env} {R : Room} {s : State} {m : MethodId} {args : Array Value} {below : List Frame} {meth : Method} {c : Code} {T : State} {H : Heap} {locs : List Loc} {cells slots : Nat}
theorem vx_callVX (X : Stand p l e R s m args below meth c T locs cells slots) (hexec : p.tables.exec = Jvm.exec) {own C : String} {index : Nat} {y : MethodName} {bytes : ByteArray} {maxL : Nat} {ret : Option FieldType} {hh : List (Nat × Nat × Nat × Nat)}
    (hown : s.vm.findClass own = some m.cls) (hlink : (Cond.methodLink own index y).before args s = true) (hinst : (Cond.instanceMethod y).before args s = true) (hsel : (Cond.selects C y y).before args s = true)
    (hcode : (Cond.codeWith y bytes maxL ret hh).before args s = true) (hy : y.cls ≠ "java/lang/invoke/MethodHandle" ∧ y.cls ≠ "java/lang/invoke/VarHandle")
    {W9 : Nat} {Pre : Pt → Array Value → Prop} {Post : Pt → Array Value → Option Value → Pt → Prop} {PostX : Pt → Array Value → Addr → Pt → Prop} (hK : vx_Back l R p e below s args y 3 W9 Pre Post PostX)
    {b : Addr} {cellB : Cell} (hcell : T.heap[b]? = some cellB) (hobj : cellB.vm.isStatics = false) (hcls : s.vm.findClass C = some cellB.cls)
    {g : JFrame} (hg : g.method = m) (hsize : g.locals.size = c.maxLocals) {argsL rest : List Value} (hlen : ∀ sig, parseMethodDescriptor y.desc = some sig → argsL.length = sig.parameters.length)
    (hstack : g.stack = argsL.reverse ++ .ref b :: rest) (hW : 2 * g.monitorRoom + (rest.map fun v => v.category).sum ≤ W9) (hdg : decode c.code g.pc = .ok (.invokevirtual index, 3))
    (hpre : ∀ vm₁, s.WarmedH vm₁ → Pre ⟨T.setVm vm₁, locs, cells, slots⟩ (Value.ref b :: argsL).toArray) :
    (∃ (v : Option Value) (vm₁ : Vm) (B : Pt), s.WarmedH vm₁ ∧ Stand p l e R s m args below meth c B.U B.locs B.cells B.slots ∧ Post ⟨T.setVm vm₁, locs, cells, slots⟩ (Value.ref b :: argsL).toArray v B ∧
      ∀ target, Steps p.tables e below (B.U.setTop { g with pc := g.pc + 3, stack := v.toList ++ rest }) target → Steps p.tables e below (T.setTop g) target) ∨
    (∃ (q : Addr) (vm₁ : Vm) (B : Pt), s.WarmedH vm₁ ∧ Stand p l e R s m args below meth c B.U B.locs B.cells B.slots ∧ PostX ⟨T.setVm vm₁, locs, cells, slots⟩ (Value.ref b :: argsL).toArray q B ∧
      Steps p.tables e below (T.setTop g) ((B.U.setTop { g with stack := rest }).pushFrame (.throwing q))) := by
  obtain ⟨mk, methM, hnamed, hmethM, hstM, habM⟩ := Cond.instanceMethod_spec hinst
  obtain ⟨m8, methM', cM, hn8, hmethM', -, -, -, -, -, -, hsigM⟩ := Cond.codeWith_spec hcode
  cases Option.some.inj (hn8.symm.trans hnamed)
  cases hmethM.symm.trans hmethM'
  obtain ⟨c2, r2, m2, q1, q2, q3, q4, kP, hkP, hkPi⟩ := Cond.selects_spec hsel
  cases hcls.symm.trans q1
  cases (State.methodFound?_of_named hnamed hy).symm.trans q2
  cases hnamed.symm.trans q3
  have hselP : selectMethod e.platform s.vm cellB.cls mk = .method mk := by rw [Launch.admits_selectMethod X.admits]; exact q4
  obtain ⟨vm₁, X₁, hstep₁⟩ := X.invokevirtual hexec hown hlink hnamed hmethM hstM hkP hkPi hy (a := b) (cell := cellB) hcell
    (fun z h => by rw [h] at hobj; cases hobj) hselP hmethM habM hkP hkPi (g := g) hg (argsL := argsL) (rest := rest) (hlen _ hsigM) hstack hdg
  rcases hK m meth c ⟨T.setVm vm₁, locs, cells, slots⟩ { g with stack := rest } (.invokevirtual index) mk (Value.ref b :: argsL).toArray X₁ hg hsize hdg hW (X₁.named hnamed) (hpre vm₁ X₁.warmed) with ⟨v, B, X', hpost, hsteps⟩ | ⟨q, B, X', hpost, hsteps⟩
  · exact Or.inl ⟨v, vm₁, B, X₁.warmed, X', hpost, fun target h => hstep₁ _ fun acts => by rw [doInvoke_state]; exact hsteps.trans h⟩
  · exact Or.inr ⟨q, vm₁, B, X₁.warmed, X', hpost, hstep₁ _ fun acts => by rw [doInvoke_state]; exact hsteps⟩
theorem vx_callSX (X : Stand p l e R s m args below meth c T locs cells slots) (hexec : p.tables.exec = Jvm.exec) {own : String} {index : Nat} {y : MethodName} {bytes : ByteArray} {maxL : Nat} {ret : Option FieldType} {hh : List (Nat × Nat × Nat × Nat)}
    (hown : s.vm.findClass own = some m.cls) (hlink : (Cond.methodLink own index y).before args s = true) (hstat : (Cond.static y).before args s = true) (hinit : (Cond.initialized y.cls).before args s = true)
    (hcode : (Cond.codeWith y bytes maxL ret hh).before args s = true) (hy : y.cls ≠ "java/lang/invoke/MethodHandle" ∧ y.cls ≠ "java/lang/invoke/VarHandle")
    {W9 : Nat} {Pre : Pt → Array Value → Prop} {Post : Pt → Array Value → Option Value → Pt → Prop} {PostX : Pt → Array Value → Addr → Pt → Prop} (hK : vx_Back l R p e below s args y 3 W9 Pre Post PostX)
    {g : JFrame} (hg : g.method = m) (hsize : g.locals.size = c.maxLocals) {argsL rest : List Value} (hlen : ∀ sig, parseMethodDescriptor y.desc = some sig → argsL.length = sig.parameters.length)
    (hstack : g.stack = argsL.reverse ++ rest) (hW : 2 * g.monitorRoom + (rest.map fun v => v.category).sum ≤ W9) (hdg : decode c.code g.pc = .ok (.invokestatic index, 3))
    (hpre : ∀ vm₁, s.WarmedH vm₁ → Pre ⟨T.setVm vm₁, locs, cells, slots⟩ argsL.toArray) :
    (∃ (v : Option Value) (vm₁ : Vm) (B : Pt), s.WarmedH vm₁ ∧ Stand p l e R s m args below meth c B.U B.locs B.cells B.slots ∧ Post ⟨T.setVm vm₁, locs, cells, slots⟩ argsL.toArray v B ∧
      ∀ target, Steps p.tables e below (B.U.setTop { g with pc := g.pc + 3, stack := v.toList ++ rest }) target → Steps p.tables e below (T.setTop g) target) ∨
    (∃ (q : Addr) (vm₁ : Vm) (B : Pt), s.WarmedH vm₁ ∧ Stand p l e R s m args below meth c B.U B.locs B.cells B.slots ∧ PostX ⟨T.setVm vm₁, locs, cells, slots⟩ argsL.toArray q B ∧
      Steps p.tables e below (T.setTop g) ((B.U.setTop { g with stack := rest }).pushFrame (.throwing q))) := by
  obtain ⟨mk, methM, cM, hnamed, hmethM, -, -, -, -, -, -, hsigM⟩ := Cond.codeWith_spec hcode
  have hstatic : methM.isStatic = true := Cond.static_spec hnamed hmethM hstat
  obtain ⟨kP, hkP, -⟩ := className_of_methodNamed hnamed
  have hinitP : kP.init = .initialized := Cond.initialized_spec (findClass_of_methodNamed hnamed) hkP hinit
  obtain ⟨vm₁, X₁, hstep₁⟩ := X.invokestatic hexec hown hlink hnamed hmethM hstatic hkP hinitP hy (g := g) hg (argsL := argsL) (rest := rest) (hlen _ hsigM) hstack hdg
  rcases hK m meth c ⟨T.setVm vm₁, locs, cells, slots⟩ { g with stack := rest } (.invokestatic index) mk argsL.toArray X₁ hg hsize hdg hW (X₁.named hnamed) (hpre vm₁ X₁.warmed) with ⟨v, B, X', hpost, hsteps⟩ | ⟨q, B, X', hpost, hsteps⟩
  · exact Or.inl ⟨v, vm₁, B, X₁.warmed, X', hpost, fun target h => hstep₁ _ fun acts => by rw [doInvoke_state]; exact hsteps.trans h⟩
  · exact Or.inr ⟨q, vm₁, B, X₁.warmed, X', hpost, hstep₁ _ fun acts => by rw [doInvoke_state]; exact hsteps⟩
theorem vx_callVW (X : Stand p l e R s m args below meth c T locs cells slots) (hexec : p.tables.exec = Jvm.exec) {own C : String} {index : Nat} {y : MethodName} {bytes : ByteArray} {maxL : Nat} {ret : Option FieldType} {hh : List (Nat × Nat × Nat × Nat)}
    (hown : s.vm.findClass own = some m.cls) (hlink : (Cond.methodLink own index y).before args s = true) (hinst : (Cond.instanceMethod y).before args s = true) (hsel : (Cond.selects C y y).before args s = true)
    (hcode : (Cond.codeWith y bytes maxL ret hh).before args s = true) (hy : y.cls ≠ "java/lang/invoke/MethodHandle" ∧ y.cls ≠ "java/lang/invoke/VarHandle")
    {W9 : Nat} {Pre : Pt → Array Value → Prop} {Post : Pt → Array Value → Option Value → Pt → Prop} (hK : Back l R p e below s args y 3 W9 Pre Post)
    {b : Addr} {cellB : Cell} (hcell : T.heap[b]? = some cellB) (hobj : cellB.vm.isStatics = false) (hcls : s.vm.findClass C = some cellB.cls)
    {g : JFrame} (hg : g.method = m) (hsize : g.locals.size = c.maxLocals) {argsL rest : List Value} (hlen : ∀ sig, parseMethodDescriptor y.desc = some sig → argsL.length = sig.parameters.length)
    (hstack : g.stack = argsL.reverse ++ .ref b :: rest) (hW : 2 * g.monitorRoom + (rest.map fun v => v.category).sum ≤ W9) (hdg : decode c.code g.pc = .ok (.invokevirtual index, 3))
    (hpre : ∀ vm₁, s.WarmedH vm₁ → Pre ⟨T.setVm vm₁, locs, cells, slots⟩ (Value.ref b :: argsL).toArray) :
    ∃ (v : Option Value) (vm₁ : Vm) (B : Pt), s.WarmedH vm₁ ∧ Stand p l e R s m args below meth c B.U B.locs B.cells B.slots ∧ Post ⟨T.setVm vm₁, locs, cells, slots⟩ (Value.ref b :: argsL).toArray v B ∧
      ∀ target, Steps p.tables e below (B.U.setTop { g with pc := g.pc + 3, stack := v.toList ++ rest }) target → Steps p.tables e below (T.setTop g) target := by
  obtain ⟨mk, methM, hnamed, hmethM, hstM, habM⟩ := Cond.instanceMethod_spec hinst
  obtain ⟨m8, methM', cM, hn8, hmethM', -, -, -, -, -, -, hsigM⟩ := Cond.codeWith_spec hcode
  cases Option.some.inj (hn8.symm.trans hnamed)
  cases hmethM.symm.trans hmethM'
  obtain ⟨c2, r2, m2, q1, q2, q3, q4, kP, hkP, hkPi⟩ := Cond.selects_spec hsel
  cases hcls.symm.trans q1
  cases (State.methodFound?_of_named hnamed hy).symm.trans q2
  cases hnamed.symm.trans q3
  have hselP : selectMethod e.platform s.vm cellB.cls mk = .method mk := by rw [Launch.admits_selectMethod X.admits]; exact q4
  obtain ⟨vm₁, X₁, hstep₁⟩ := X.invokevirtual hexec hown hlink hnamed hmethM hstM hkP hkPi hy (a := b) (cell := cellB) hcell
    (fun z h => by rw [h] at hobj; cases hobj) hselP hmethM habM hkP hkPi (g := g) hg (argsL := argsL) (rest := rest) (hlen _ hsigM) hstack hdg
  obtain ⟨v, B, X', hpost, hsteps⟩ := hK m meth c ⟨T.setVm vm₁, locs, cells, slots⟩ { g with stack := rest } (.invokevirtual index) mk (Value.ref b :: argsL).toArray X₁ hg hsize hdg hW (X₁.named hnamed) (hpre vm₁ X₁.warmed)
  exact ⟨v, vm₁, B, X₁.warmed, X', hpost, fun target h => hstep₁ _ fun acts => by rw [doInvoke_state]; exact hsteps.trans h⟩
abbrev vx_CVW (R : Room) (s : State) (args : Array Value) (own C : String) (index : Nat) (y : MethodName) (bytes : ByteArray) (maxL : Nat) (ret : Option FieldType) (hh : List (Nat × Nat × Nat × Nat)) (ws : List Cond) (rm : Room) (mc ms n : Nat) : Prop :=
  (rm.cells = mc ∧ rm.slots = ms ∧ rm.frames + 1 ≤ R.frames ∧ 8 + (maxL + 11) + rm.locals ≤ R.locals ∧ (∀ w ∈ ws, ∀ (a' : Array Value) (U : State), s.WarmedH U.vm → w.before a' U = true) ∧ Cond.codeWith y bytes maxL ret hh ∈ ws) ∧
  (Cond.codeWith y bytes maxL ret hh).before args s = true ∧ (Cond.initialized y.cls).before args s = true ∧ (y.cls ≠ "java/lang/invoke/MethodHandle" ∧ y.cls ≠ "java/lang/invoke/VarHandle") ∧
  (∀ sig, parseMethodDescriptor y.desc = some sig → n = sig.parameters.length) ∧ (Cond.methodLink own index y).before args s = true ∧ (Cond.instanceMethod y).before args s = true ∧ (Cond.selects C y y).before args s = true
theorem vx_cwVW {own C : String} {index maxL mc ms : Nat} {y : MethodName} {bytes : ByteArray} {ret : Option FieldType} {hh : List (Nat × Nat × Nat × Nat)} {Ts ws ws' : List Cond} {rm : Room} (n : Nat) (ht : ∀ w ∈ Ts, w.before args s = true) (hT : GoodIn Ts (wsV own index C y ws)) (hw : ws = Cond.codeWith y bytes maxL ret hh :: ws') (hrc : rm.cells = mc) (hrs : rm.slots = ms)
    (hd : y.cls = C ∧ y.cls ≠ "java/lang/invoke/MethodHandle" ∧ y.cls ≠ "java/lang/invoke/VarHandle" ∧ (parseMethodDescriptor y.desc).map (fun d => d.parameters.length) = some n) (hR : rm.frames + 1 ≤ R.frames ∧ 8 + (maxL + 11) + rm.locals ≤ R.locals) :
    vx_CVW R s args own C index y bytes maxL ret hh ws rm mc ms n := by
  obtain ⟨hC, hd⟩ := hd
  subst hC
  have ok : ∀ w ∈ wsV own index y.cls y ws, w.before args s = true := fun w h => ht w (hT w h).1
  have hG : GoodIn Ts ws := fun w h => hT w (by unfold wsV; exact List.mem_append_right _ h)
  have hc : Cond.codeWith y bytes maxL ret hh ∈ ws := by rw [hw]; exact List.mem_cons_self
  refine ⟨⟨hrc, hrs, hR.1, hR.2, pay_in ht hG, hc⟩, ht _ (hG _ hc).1, ok _ (by simp [wsV]), ⟨hd.1, hd.2.1⟩, fun sig h => ?_, ok _ (by simp [wsV]), ok _ (by simp [wsV]), ok _ (by simp [wsV])⟩
  have h2 := hd.2.2
  rw [h] at h2
  exact (Option.some.inj h2).symm
theorem vx_runVW {y : MethodName} {bytes cc : ByteArray} {maxL nL mc ms n index : Nat} {ret : Option FieldType} {hh : List (Nat × Nat × Nat × Nat)} {ws : List Cond} {rm : Room} {Pc : Array Value → State → Prop} {Qc : Array Value → State → Outcome → State → Prop} {free : Addr → Prop} {Ts : List Cond} {own C : String} {b : Addr} {As rest : List Value} {g : JFrame}
    (S : CallFix p m c cc nL s args Ts own) (hM : Met l y ws rm Pc Qc mc ms free) (cw : vx_CVW R s args own C index y bytes maxL ret hh ws rm mc ms n) (hp : PreV s H C b Pc As)
    (hg : g.method = m) (hn : As.length = n) (hsize : g.locals.size = nL) (hstack : g.stack = As.reverse ++ .ref b :: rest) (hW : 2 * g.monitorRoom + (rest.map fun v => v.category).sum ≤ 8) (hdg : decode cc g.pc = .ok (.invokevirtual index, 3)) (hf : cells + mc ≤ R.cells ∧ slots + ms ≤ R.slots) :
    va_Run p l e R s m args below meth c H locs cells slots mc ms g rest (Qc (Value.ref b :: As).toArray) free := by
  obtain ⟨⟨hrc, hrs, hfr, hlo, hws, hcw⟩, hcode, hini, hy, hlen, hl, hin, hse⟩ := cw
  have hK : Back l R p e below s args y 3 8 (PreOf R mc ms Pc) (PostOf Qc mc ms free) := va_backW (hh := hh) (bytes := bytes) (maxL := maxL) (ret := ret) hM hp.1 hrc hrs hfr hlo hws hcw (fun a' U hW => word_at hW (Or.inl (by first | rfl | simp [Cond.onTables, Cond.keeps, Cond.steady])) hini)
  obtain ⟨hx, hb, hml, ho, -⟩ := S
  obtain ⟨-, ⟨cellB, hcB, hoB, hclB⟩, hPc⟩ := hp
  intro T hT X
  obtain ⟨v, vm₁, ⟨U', l2, c2, s2⟩, hW₁, X', ⟨g', mk, t, L, e1, e2, hq, h1, hL, h2, h3⟩, st⟩ := vx_callVW X hx (C := C) (hh := hh) (bytes := bytes) (maxL := maxL) (ret := ret) ho hl hin hse hcode hy hK (by rw [hT]; exact hcB) hoB hclB hg (hsize.trans hml.symm) (argsL := As) (rest := rest) (fun sig h => hn.trans (hlen sig h)) hstack hW (by rw [hb]; exact hdg)
    (fun vm₁ hW₁ => ⟨hf.1, hf.2, hPc (T.setVm vm₁) hT hW₁⟩)
  dsimp only [Pt.U, Pt.locs, Pt.cells, Pt.slots] at X' e1 e2 h1 h2 h3 st
  subst h1; subst h2; subst h3
  exact ⟨v, (T.setVm vm₁).calling g' mk (Value.ref b :: As).toArray, t, U', L, hT, X', hL, e1, e2, hq, st⟩
section
variable {y : MethodName} {bytes cc : ByteArray} {maxL nL mc ms n index : Nat} {ret : Option FieldType} {ws : List Cond} {rm : Room} {Pc : Array Value → State → Prop} {Qc : Array Value → State → Outcome → State → Prop} {XC : String → State → State → Prop} {free : Addr → Prop} {Ts : List Cond} {own C : String} {b : Addr} {As rest : List Value} {g : JFrame}
theorem vx_runVX {hh : List (Nat × Nat × Nat × Nat)} (S : CallFix p m c cc nL s args Ts own) (hM : vx_Met l y ws rm Pc Qc XC mc ms free) (cw : vx_CVW R s args own C index y bytes maxL ret hh ws rm mc ms n) (hp : PreV s H C b Pc As)
    (hg : g.method = m) (hn : As.length = n) (hsize : g.locals.size = nL) (hstack : g.stack = As.reverse ++ .ref b :: rest) (hW : 2 * g.monitorRoom + (rest.map fun v => v.category).sum ≤ 8) (hdg : decode cc g.pc = .ok (.invokevirtual index, 3)) (hf : cells + mc ≤ R.cells ∧ slots + ms ≤ R.slots) :
    vx_Run p l e R s m args below meth c H locs cells slots mc ms g rest (Qc (Value.ref b :: As).toArray) XC free := by
  obtain ⟨⟨hrc, hrs, hfr, hlo, hws, hcw⟩, hcode, hini, hy, hlen, hl, hin, hse⟩ := cw
  have hK : vx_Back l R p e below s args y 3 8 (PreOf R mc ms Pc) (PostOf Qc mc ms free) (vx_Post XC mc ms free) := vx_backW (hh := hh) (bytes := bytes) (maxL := maxL) (ret := ret) hM hp.1 hrc hrs hfr hlo hws hcw (fun a' U hW => word_at hW (Or.inl (by first | rfl | simp [Cond.onTables, Cond.keeps, Cond.steady])) hini)
  obtain ⟨hx, hb, hml, ho, -⟩ := S
  obtain ⟨-, ⟨cellB, hcB, hoB, hclB⟩, hPc⟩ := hp
  intro T hT X
  rcases vx_callVX X hx (C := C) (hh := hh) (bytes := bytes) (maxL := maxL) (ret := ret) ho hl hin hse hcode hy hK (by rw [hT]; exact hcB) hoB hclB hg (hsize.trans hml.symm) (argsL := As) (rest := rest) (fun sig h => hn.trans (hlen sig h)) hstack hW (by rw [hb]; exact hdg)
    (fun vm₁ hW₁ => ⟨hf.1, hf.2, hPc (T.setVm vm₁) hT hW₁⟩) with ⟨v, vm₁, ⟨U', l2, c2, s2⟩, hW₁, X', ⟨g', mk, t, L, e1, e2, hq, h1, hL, h2, h3⟩, st⟩ | ⟨q, vm₁, ⟨U', l2, c2, s2⟩, hW₁, X', ⟨g', mk, t, L, E, ce, e1, e2, hq, hce, hcv, hcl, h1, hL, h2, h3⟩, st⟩
  · dsimp only [Pt.U, Pt.locs, Pt.cells, Pt.slots] at X' e1 e2 h1 h2 h3 st
    subst h1; subst h2; subst h3
    exact Or.inl ⟨v, (T.setVm vm₁).calling g' mk (Value.ref b :: As).toArray, t, U', L, hT, X', hL, e1, e2, hq, st⟩
  · dsimp only [Pt.U, Pt.locs, Pt.cells, Pt.slots] at X' e1 e2 h1 h2 h3 st hcl
    subst h1; subst h2; subst h3
    exact Or.inr ⟨q, (T.setVm vm₁).calling g' mk (Value.ref b :: As).toArray, t, U', L, E, ce, hT, X', hL, e1, e2, hq, hce, hcv, vx_cls hW₁ hcl, st⟩
theorem vx_runSX {hh : List (Nat × Nat × Nat × Nat)} (S : CallFix p m c cc nL s args Ts own) (hM : vx_Met l y ws rm Pc Qc XC mc ms free) (cw : vx_CSW R s args own index y bytes maxL ret hh ws rm mc ms n) (hp : PreS s H Pc As)
    (hg : g.method = m) (hn : As.length = n) (hsize : g.locals.size = nL) (hstack : g.stack = As.reverse ++ rest) (hW : 2 * g.monitorRoom + (rest.map fun v => v.category).sum ≤ 8) (hdg : decode cc g.pc = .ok (.invokestatic index, 3)) (hf : cells + mc ≤ R.cells ∧ slots + ms ≤ R.slots) :
    vx_Run p l e R s m args below meth c H locs cells slots mc ms g rest (Qc As.toArray) XC free := by
  obtain ⟨⟨hrc, hrs, hfr, hlo, hws, hcw⟩, hcode, hini, hy, hlen, hl, hstt⟩ := cw
  have hK : vx_Back l R p e below s args y 3 8 (PreOf R mc ms Pc) (PostOf Qc mc ms free) (vx_Post XC mc ms free) := vx_backW (hh := hh) (bytes := bytes) (maxL := maxL) (ret := ret) hM hp.1 hrc hrs hfr hlo hws hcw (fun a' U hW => word_at hW (Or.inl (by first | rfl | simp [Cond.onTables, Cond.keeps, Cond.steady])) hini)
  obtain ⟨hx, hb, hml, ho, -⟩ := S
  intro T hT X
  rcases vx_callSX X hx (hh := hh) (bytes := bytes) (maxL := maxL) (ret := ret) ho hl hstt hini hcode hy hK hg (hsize.trans hml.symm) (argsL := As) (rest := rest) (fun sig h => hn.trans (hlen sig h)) hstack hW (by rw [hb]; exact hdg)
    (fun vm₁ hW₁ => ⟨hf.1, hf.2, hp.2 (T.setVm vm₁) hT hW₁⟩) with ⟨v, vm₁, ⟨U', l2, c2, s2⟩, hW₁, X', ⟨g', mk, t, L, e1, e2, hq, h1, hL, h2, h3⟩, st⟩ | ⟨q, vm₁, ⟨U', l2, c2, s2⟩, hW₁, X', ⟨g', mk, t, L, E, ce, e1, e2, hq, hce, hcv, hcl, h1, hL, h2, h3⟩, st⟩
  · dsimp only [Pt.U, Pt.locs, Pt.cells, Pt.slots] at X' e1 e2 h1 h2 h3 st
    subst h1; subst h2; subst h3
    exact Or.inl ⟨v, (T.setVm vm₁).calling g' mk As.toArray, t, U', L, hT, X', hL, e1, e2, hq, st⟩
  · dsimp only [Pt.U, Pt.locs, Pt.cells, Pt.slots] at X' e1 e2 h1 h2 h3 st hcl
    subst h1; subst h2; subst h3
    exact Or.inr ⟨q, (T.setVm vm₁).calling g' mk As.toArray, t, U', L, E, ce, hT, X', hL, e1, e2, hq, hce, hcv, vx_cls hW₁ hcl, st⟩
end
end VXH
theorem vx_ofWH {l : Launch} {y : MethodName} {ws ws' : List Cond} {rm : Room} {Pc : Array Value → State → Prop} {Qc : Array Value → State → Outcome → State → Prop} {XC : String → State → State → Prop} {mc ms : Nat} {free : Addr → Prop} {cc : ByteArray} {maxL : Nat} {ret : Option FieldType} {hh : List (Nat × Nat × Nat × Nat)}
    (hy : plainName y.cls = true) (hw : ws = Cond.codeWith y cc maxL ret hh :: ws')
    (body : ∀ p e s m args below meth c s₁, BodyLoose p l y (headSpec ws rm) cc maxL ret e s m args below meth c s₁ → c.maxLocals = maxL → Pc args s →
      W p l e (headSpec ws rm).room s m args below meth c s.heap [] 0 0 (vx_MQ below Qc XC args s mc ms free) (entryFrame m args maxL)) : vx_Met l y ws rm Pc Qc XC mc ms free := by
  refine MetFree.of_bodyS (code := cc) (maxLocals := maxL) (ret := ret) hy ?_ ?_
  · intro args s m h hn
    obtain ⟨m9, meth, c, hn9, h1, h2, h3, h4, -, h5, h6, -⟩ := Cond.codeWith_spec (atoms_spec (ws := ws) h _ (by rw [hw]; exact List.mem_cons_self))
    cases hn.symm.trans hn9
    exact ⟨meth, c, h1, h2, h3, h4, h5, h6⟩
  · intro p e s m args below meth c s₁ B hml hP _
    have hh0 : s₁.heap = s.heap := by rw [B.state]; rfl
    obtain ⟨t, a1, o, b1, b2, b3⟩ := body p e s m args below meth c s₁ B hml hP s₁ hh0 (Stand.of_body B)
    exact ⟨t, o, a1, b1, b2, b3⟩
/-! ===== END ===== -/
end
section
def RX0 : String := "SerialRecaps$Audience"
def TX0 : u_T := fun k => match k with
  | 0 => ("SerialRecaps$Audience", "told", "[I", true)
  | 1 => ("SerialRecaps$Audience", "read", "[I", true)
  | 2 => ("SerialRecaps$Audience", "wordsRead", "[I", true)
  | 3 => ("SerialRecaps$Audience", "linesTold", "[I", true)
  | _ => ("SerialRecaps$Audience", "leftOut", "[I", true)
def tyX0 : Nat → FieldType := fun k => match k with
  | 0 => .array .int
  | 1 => .array .int
  | 2 => .array .int
  | 3 => .array .int
  | _ => .array .int
theorem nmX0 : ∀ a, a < 5 → ∀ b, b < 5 → a ≠ b → (TX0 a).2.1 ≠ (TX0 b).2.1 := by decide +kernel
theorem tyX0_ok : ∀ k, k < 5 → parseFieldDescriptor (TX0 k).2.2.1 = some (tyX0 k) := by decide +kernel
abbrev cX0_init : ByteArray := prog_2_method_1_code
def yX0_init : MethodName := ⟨RX0, "<init>", "()V"⟩
abbrev cX0_copyFrom : ByteArray := prog_2_method_2_code
def yX0_copyFrom : MethodName := ⟨RX0, "copyFrom", "(LSerialRecaps$Audience;)V"⟩
abbrev cX0_hasRead : ByteArray := prog_2_method_3_code
def yX0_hasRead : MethodName := ⟨RX0, "hasRead", "(II)Z"⟩
abbrev cX0_known : ByteArray := prog_2_method_4_code
def yX0_known : MethodName := ⟨RX0, "known", "(I)I"⟩
abbrev cX0_knowledge : ByteArray := prog_2_method_5_code
def yX0_knowledge : MethodName := ⟨RX0, "knowledge", "(II)I"⟩
abbrev cX0_whoRead : ByteArray := prog_2_method_6_code
def yX0_whoRead : MethodName := ⟨RX0, "whoRead", "(I)I"⟩
abbrev cX0_howManyKnowAll : ByteArray := prog_2_method_7_code
def yX0_howManyKnowAll : MethodName := ⟨RX0, "howManyKnowAll", "(I)I"⟩
abbrev cX0_sumOfWordsRead : ByteArray := prog_2_method_8_code
def yX0_sumOfWordsRead : MethodName := ⟨RX0, "sumOfWordsRead", "()I"⟩
abbrev cX0_sumOfRead : ByteArray := prog_2_method_9_code
def yX0_sumOfRead : MethodName := ⟨RX0, "sumOfRead", "()I"⟩
abbrev cX0_dropTold : ByteArray := prog_2_method_10_code
def yX0_dropTold : MethodName := ⟨RX0, "dropTold", "(I)I"⟩
abbrev cX0_dropPart : ByteArray := prog_2_method_11_code
def yX0_dropPart : MethodName := ⟨RX0, "dropPart", "(I)V"⟩
abbrev cX0_takeIn : ByteArray := prog_2_method_12_code
def yX0_takeIn : MethodName := ⟨RX0, "takeIn", "(III)V"⟩
def RX1 : String := "SerialRecaps$Grammar"
def TX1 : u_T := fun k => match k with
  | 0 => ("SerialRecaps$Grammar", "place", "I", false)
  | 1 => ("SerialRecaps$Grammar", "plots", "I", false)
  | 2 => ("SerialRecaps$Grammar", "cliff", "I", false)
  | _ => ("SerialRecaps$Grammar", "words", "I", false)
def tyX1 : Nat → FieldType := fun k => match k with
  | 0 => .int
  | 1 => .int
  | 2 => .int
  | _ => .int
theorem nmX1 : ∀ a, a < 4 → ∀ b, b < 4 → a ≠ b → (TX1 a).2.1 ≠ (TX1 b).2.1 := by decide +kernel
theorem tyX1_ok : ∀ k, k < 4 → parseFieldDescriptor (TX1 k).2.2.1 = some (tyX1 k) := by decide +kernel
abbrev cX1_init : ByteArray := prog_3_method_1_code
def yX1_init : MethodName := ⟨RX1, "<init>", "()V"⟩
abbrev cX1_restart : ByteArray := prog_3_method_2_code
def yX1_restart : MethodName := ⟨RX1, "restart", "()V"⟩
abbrev cX1_mayEnd : ByteArray := prog_3_method_3_code
def yX1_mayEnd : MethodName := ⟨RX1, "mayEnd", "()Z"⟩
abbrev cX1_takes : ByteArray := prog_3_method_4_code
def yX1_takes : MethodName := ⟨RX1, "takes", "(I)Z"⟩
abbrev cX1_takesPlot : ByteArray := prog_3_method_5_code
def yX1_takesPlot : MethodName := ⟨RX1, "takesPlot", "(I)Z"⟩
abbrev cX1_takesCliff : ByteArray := prog_3_method_6_code
def yX1_takesCliff : MethodName := ⟨RX1, "takesCliff", "(I)Z"⟩
abbrev cX1_takesDigit : ByteArray := prog_3_method_7_code
def yX1_takesDigit : MethodName := ⟨RX1, "takesDigit", "(III)Z"⟩
abbrev cX1_takesSign : ByteArray := prog_3_method_8_code
def yX1_takesSign : MethodName := ⟨RX1, "takesSign", "(ICI)Z"⟩
abbrev cX1_takesEnd : ByteArray := prog_3_method_9_code
def yX1_takesEnd : MethodName := ⟨RX1, "takesEnd", "(I)Z"⟩
def RX2 : String := "SerialRecaps$History"
def TX2 : u_T := fun k => match k with
  | 0 => ("SerialRecaps$History", "rows", "[LSerialRecaps$State;", true)
  | 1 => ("SerialRecaps$History", "oldest", "I", false)
  | _ => ("SerialRecaps$History", "kept", "I", false)
def tyX2 : Nat → FieldType := fun k => match k with
  | 0 => .array (.object "SerialRecaps$State")
  | 1 => .int
  | _ => .int
theorem nmX2 : ∀ a, a < 3 → ∀ b, b < 3 → a ≠ b → (TX2 a).2.1 ≠ (TX2 b).2.1 := by decide +kernel
theorem tyX2_ok : ∀ k, k < 3 → parseFieldDescriptor (TX2 k).2.2.1 = some (tyX2 k) := by decide +kernel
abbrev cX2_init : ByteArray := prog_4_method_1_code
def yX2_init : MethodName := ⟨RX2, "<init>", "()V"⟩
abbrev cX2_keep : ByteArray := prog_4_method_2_code
def yX2_keep : MethodName := ⟨RX2, "keep", "(LSerialRecaps$State;)V"⟩
abbrev cX2_latest : ByteArray := prog_4_method_3_code
def yX2_latest : MethodName := ⟨RX2, "latest", "()LSerialRecaps$State;"⟩
abbrev cX2_dropLatest : ByteArray := prog_4_method_4_code
def yX2_dropLatest : MethodName := ⟨RX2, "dropLatest", "()V"⟩
def RX3 : String := "SerialRecaps$State"
def TX3 : u_T := fun k => match k with
  | 0 => ("SerialRecaps$State", "story", "LSerialRecaps$Story;", true)
  | 1 => ("SerialRecaps$State", "audience", "LSerialRecaps$Audience;", true)
  | 2 => ("SerialRecaps$State", "settings", "[I", true)
  | 3 => ("SerialRecaps$State", "mailsReached", "I", false)
  | _ => ("SerialRecaps$State", "mailsLost", "I", false)
def tyX3 : Nat → FieldType := fun k => match k with
  | 0 => .object "SerialRecaps$Story"
  | 1 => .object "SerialRecaps$Audience"
  | 2 => .array .int
  | 3 => .int
  | _ => .int
theorem nmX3 : ∀ a, a < 5 → ∀ b, b < 5 → a ≠ b → (TX3 a).2.1 ≠ (TX3 b).2.1 := by decide +kernel
theorem tyX3_ok : ∀ k, k < 5 → parseFieldDescriptor (TX3 k).2.2.1 = some (tyX3 k) := by decide +kernel
abbrev cX3_init : ByteArray := prog_5_method_1_code
def yX3_init : MethodName := ⟨RX3, "<init>", "()V"⟩
abbrev cX3_copyFrom : ByteArray := prog_5_method_2_code
def yX3_copyFrom : MethodName := ⟨RX3, "copyFrom", "(LSerialRecaps$State;)V"⟩
abbrev cX3_missedParts : ByteArray := prog_5_method_3_code
def yX3_missedParts : MethodName := ⟨RX3, "missedParts", "(II)I"⟩
abbrev cX3_toldParts : ByteArray := prog_5_method_4_code
def yX3_toldParts : MethodName := ⟨RX3, "toldParts", "(I)I"⟩
abbrev cX3_lineWords : ByteArray := prog_5_method_5_code
def yX3_lineWords : MethodName := ⟨RX3, "lineWords", "(I)I"⟩
abbrev cX3_shortened : ByteArray := prog_5_method_6_code
def yX3_shortened : MethodName := ⟨RX3, "shortened", "(I)I"⟩
abbrev cX3_ofRecap : ByteArray := prog_5_method_7_code
def yX3_ofRecap : MethodName := ⟨RX3, "ofRecap", "(III)I"⟩
abbrev cX3_deliver : ByteArray := prog_5_method_8_code
def yX3_deliver : MethodName := ⟨RX3, "deliver", "(II)I"⟩
abbrev cX3_deliverToAll : ByteArray := prog_5_method_9_code
def yX3_deliverToAll : MethodName := ⟨RX3, "deliverToAll", "(II)I"⟩
abbrev cX3_deliverUnread : ByteArray := prog_5_method_10_code
def yX3_deliverUnread : MethodName := ⟨RX3, "deliverUnread", "(I)I"⟩
abbrev cX3_ofPart : ByteArray := prog_5_method_11_code
def yX3_ofPart : MethodName := ⟨RX3, "ofPart", "(II)I"⟩
abbrev cX3_ofReader : ByteArray := prog_5_method_12_code
def yX3_ofReader : MethodName := ⟨RX3, "ofReader", "(II)I"⟩
abbrev cX3_ofPlot : ByteArray := prog_5_method_13_code
def yX3_ofPlot : MethodName := ⟨RX3, "ofPlot", "(II)I"⟩
abbrev cX3_howManyHang : ByteArray := prog_5_method_14_code
def yX3_howManyHang : MethodName := ⟨RX3, "howManyHang", "(I)I"⟩
abbrev cX3_ofAll : ByteArray := prog_5_method_15_code
def yX3_ofAll : MethodName := ⟨RX3, "ofAll", "(I)I"⟩
abbrev cX3_bestPart : ByteArray := prog_5_method_16_code
def yX3_bestPart : MethodName := ⟨RX3, "bestPart", "(I)I"⟩
abbrev cX3_linesForAll : ByteArray := prog_5_method_17_code
def yX3_linesForAll : MethodName := ⟨RX3, "linesForAll", "(I)I"⟩
abbrev cX3_shareRead : ByteArray := prog_5_method_18_code
def yX3_shareRead : MethodName := ⟨RX3, "shareRead", "()D"⟩
def RX4 : String := "SerialRecaps$Story"
def TX4 : u_T := fun k => match k with
  | 0 => ("SerialRecaps$Story", "size", "I", false)
  | 1 => ("SerialRecaps$Story", "plots", "[I", true)
  | 2 => ("SerialRecaps$Story", "cliffs", "[I", true)
  | 3 => ("SerialRecaps$Story", "words", "[I", true)
  | _ => ("SerialRecaps$Story", "needs", "[I", true)
def tyX4 : Nat → FieldType := fun k => match k with
  | 0 => .int
  | 1 => .array .int
  | 2 => .array .int
  | 3 => .array .int
  | _ => .array .int
theorem nmX4 : ∀ a, a < 5 → ∀ b, b < 5 → a ≠ b → (TX4 a).2.1 ≠ (TX4 b).2.1 := by decide +kernel
theorem tyX4_ok : ∀ k, k < 5 → parseFieldDescriptor (TX4 k).2.2.1 = some (tyX4 k) := by decide +kernel
abbrev cX4_init : ByteArray := prog_6_method_1_code
def yX4_init : MethodName := ⟨RX4, "<init>", "()V"⟩
abbrev cX4_copyFrom : ByteArray := prog_6_method_2_code
def yX4_copyFrom : MethodName := ⟨RX4, "copyFrom", "(LSerialRecaps$Story;)V"⟩
abbrev cX4_put : ByteArray := prog_6_method_3_code
def yX4_put : MethodName := ⟨RX4, "put", "(III)V"⟩
abbrev cX4_rewrite : ByteArray := prog_6_method_4_code
def yX4_rewrite : MethodName := ⟨RX4, "rewrite", "(III)I"⟩
abbrev cX4_findNeeds : ByteArray := prog_6_method_5_code
def yX4_findNeeds : MethodName := ⟨RX4, "findNeeds", "(I)I"⟩
abbrev cX4_allNeeds : ByteArray := prog_6_method_6_code
def yX4_allNeeds : MethodName := ⟨RX4, "allNeeds", "(II)I"⟩
abbrev cX4_howManyNeed : ByteArray := prog_6_method_7_code
def yX4_howManyNeed : MethodName := ⟨RX4, "howManyNeed", "(I)I"⟩
abbrev cX4_everyPart : ByteArray := prog_6_method_8_code
def yX4_everyPart : MethodName := ⟨RX4, "everyPart", "()I"⟩
abbrev cX4_sumOfWords : ByteArray := prog_6_method_9_code
def yX4_sumOfWords : MethodName := ⟨RX4, "sumOfWords", "()I"⟩
abbrev cX4_howManyGoOnWith : ByteArray := prog_6_method_10_code
def yX4_howManyGoOnWith : MethodName := ⟨RX4, "howManyGoOnWith", "(I)I"⟩
abbrev cX4_latestWith : ByteArray := prog_6_method_11_code
def yX4_latestWith : MethodName := ⟨RX4, "latestWith", "(I)I"⟩
abbrev cX4_howManyCliffs : ByteArray := prog_6_method_12_code
def yX4_howManyCliffs : MethodName := ⟨RX4, "howManyCliffs", "(I)I"⟩
abbrev cX4_openCliffs : ByteArray := prog_6_method_13_code
def yX4_openCliffs : MethodName := ⟨RX4, "openCliffs", "(I)I"⟩
def RX5 : String := "SerialRecaps$Text"
def TX5 : u_T := fun k => match k with
  | 0 => ("SerialRecaps$Text", "codes", "[I", true)
  | 1 => ("SerialRecaps$Text", "length", "I", false)
  | _ => ("SerialRecaps$Text", "grammar", "LSerialRecaps$Grammar;", true)
def tyX5 : Nat → FieldType := fun k => match k with
  | 0 => .array .int
  | 1 => .int
  | _ => .object "SerialRecaps$Grammar"
theorem nmX5 : ∀ a, a < 3 → ∀ b, b < 3 → a ≠ b → (TX5 a).2.1 ≠ (TX5 b).2.1 := by decide +kernel
theorem tyX5_ok : ∀ k, k < 3 → parseFieldDescriptor (TX5 k).2.2.1 = some (tyX5 k) := by decide +kernel
abbrev cX5_init : ByteArray := prog_7_method_1_code
def yX5_init : MethodName := ⟨RX5, "<init>", "()V"⟩
abbrev cX5_put : ByteArray := prog_7_method_2_code
def yX5_put : MethodName := ⟨RX5, "put", "(I)V"⟩
abbrev cX5_readUntilError : ByteArray := prog_7_method_3_code
def yX5_readUntilError : MethodName := ⟨RX5, "readUntilError", "()I"⟩
abbrev cX5_isComplete : ByteArray := prog_7_method_4_code
def yX5_isComplete : MethodName := ⟨RX5, "isComplete", "()Z"⟩
abbrev cX5_completeParts : ByteArray := prog_7_method_5_code
def yX5_completeParts : MethodName := ⟨RX5, "completeParts", "()I"⟩
abbrev cX5_tellTo : ByteArray := prog_7_method_6_code
def yX5_tellTo : MethodName := ⟨RX5, "tellTo", "(LSerialRecaps$Story;)V"⟩
def RX6 : String := "SerialRecaps"
def TX6 : u_T := fun k => match k with
  | 0 => ("SerialRecaps", "now", "LSerialRecaps$State;", true)
  | 1 => ("SerialRecaps", "history", "LSerialRecaps$History;", true)
  | _ => ("SerialRecaps", "text", "LSerialRecaps$Text;", true)
def tyX6 : Nat → FieldType := fun k => match k with
  | 0 => .object "SerialRecaps$State"
  | 1 => .object "SerialRecaps$History"
  | _ => .object "SerialRecaps$Text"
theorem nmX6 : ∀ a, a < 3 → ∀ b, b < 3 → a ≠ b → (TX6 a).2.1 ≠ (TX6 b).2.1 := by decide +kernel
theorem tyX6_ok : ∀ k, k < 3 → parseFieldDescriptor (TX6 k).2.2.1 = some (tyX6 k) := by decide +kernel
abbrev cX6_init : ByteArray := prog_1_method_1_code
def yX6_init : MethodName := ⟨RX6, "<init>", "()V"⟩
abbrev cX6_add : ByteArray := prog_1_method_2_code
def yX6_add : MethodName := ⟨RX6, "add", "(III)I"⟩
abbrev cX6_change : ByteArray := prog_1_method_3_code
def yX6_change : MethodName := ⟨RX6, "change", "(III)I"⟩
abbrev cX6_removeLast : ByteArray := prog_1_method_4_code
def yX6_removeLast : MethodName := ⟨RX6, "removeLast", "()I"⟩
abbrev cX6_set : ByteArray := prog_1_method_5_code
def yX6_set : MethodName := ⟨RX6, "set", "(II)I"⟩
abbrev cX6_mail : ByteArray := prog_1_method_6_code
def yX6_mail : MethodName := ⟨RX6, "mail", "(II)I"⟩
abbrev cX6_mailAll : ByteArray := prog_1_method_7_code
def yX6_mailAll : MethodName := ⟨RX6, "mailAll", "(II)I"⟩
abbrev cX6_forget : ByteArray := prog_1_method_8_code
def yX6_forget : MethodName := ⟨RX6, "forget", "(I)I"⟩
abbrev cX6_catchUp : ByteArray := prog_1_method_9_code
def yX6_catchUp : MethodName := ⟨RX6, "catchUp", "(I)I"⟩
abbrev cX6_append : ByteArray := prog_1_method_10_code
def yX6_append : MethodName := ⟨RX6, "append", "(I)I"⟩
abbrev cX6_clearBuffer : ByteArray := prog_1_method_11_code
def yX6_clearBuffer : MethodName := ⟨RX6, "clearBuffer", "()I"⟩
abbrev cX6_firstError : ByteArray := prog_1_method_12_code
def yX6_firstError : MethodName := ⟨RX6, "firstError", "()I"⟩
abbrev cX6_addAll : ByteArray := prog_1_method_13_code
def yX6_addAll : MethodName := ⟨RX6, "addAll", "()I"⟩
abbrev cX6_undo : ByteArray := prog_1_method_14_code
def yX6_undo : MethodName := ⟨RX6, "undo", "()I"⟩
abbrev cX6_part : ByteArray := prog_1_method_15_code
def yX6_part : MethodName := ⟨RX6, "part", "(II)I"⟩
abbrev cX6_knows : ByteArray := prog_1_method_16_code
def yX6_knows : MethodName := ⟨RX6, "knows", "(II)I"⟩
abbrev cX6_reader : ByteArray := prog_1_method_17_code
def yX6_reader : MethodName := ⟨RX6, "reader", "(II)I"⟩
abbrev cX6_plot : ByteArray := prog_1_method_18_code
def yX6_plot : MethodName := ⟨RX6, "plot", "(II)I"⟩
abbrev cX6_count : ByteArray := prog_1_method_19_code
def yX6_count : MethodName := ⟨RX6, "count", "(I)I"⟩
abbrev cX6_setting : ByteArray := prog_1_method_20_code
def yX6_setting : MethodName := ⟨RX6, "setting", "(I)I"⟩
abbrev cX6_recap : ByteArray := prog_1_method_21_code
def yX6_recap : MethodName := ⟨RX6, "recap", "(III)I"⟩
abbrev cX6_easiest : ByteArray := prog_1_method_22_code
def yX6_easiest : MethodName := ⟨RX6, "easiest", "(I)I"⟩
abbrev cX6_enough : ByteArray := prog_1_method_23_code
def yX6_enough : MethodName := ⟨RX6, "enough", "(I)I"⟩
abbrev cX6_readShare : ByteArray := prog_1_method_24_code
def yX6_readShare : MethodName := ⟨RX6, "readShare", "()D"⟩
abbrev cX6_digest : ByteArray := prog_1_method_25_code
def yX6_digest : MethodName := ⟨RX6, "digest", "()J"⟩
abbrev cX6_mix : ByteArray := prog_1_method_26_code
def yX6_mix : MethodName := ⟨RX6, "mix", "(JJ)J"⟩
abbrev cX6_mixParts : ByteArray := prog_1_method_27_code
def yX6_mixParts : MethodName := ⟨RX6, "mixParts", "(J)J"⟩
abbrev cX6_mixReader : ByteArray := prog_1_method_28_code
def yX6_mixReader : MethodName := ⟨RX6, "mixReader", "(JI)J"⟩
abbrev cX6_mixPlots : ByteArray := prog_1_method_29_code
def yX6_mixPlots : MethodName := ⟨RX6, "mixPlots", "(J)J"⟩
abbrev cX6_mixText : ByteArray := prog_1_method_30_code
def yX6_mixText : MethodName := ⟨RX6, "mixText", "(J)J"⟩
abbrev cX6_bitsOfShare : ByteArray := prog_1_method_31_code
def yX6_bitsOfShare : MethodName := ⟨RX6, "bitsOfShare", "(D)J"⟩
abbrev cX6_total : ByteArray := prog_1_method_32_code
def yX6_total : MethodName := ⟨RX6, "total", "(I)I"⟩
abbrev cX6_checkPart : ByteArray := prog_1_method_33_code
def yX6_checkPart : MethodName := ⟨RX6, "checkPart", "(I)V"⟩
abbrev cX6_checkReader : ByteArray := prog_1_method_34_code
def yX6_checkReader : MethodName := ⟨RX6, "checkReader", "(I)V"⟩
abbrev cX6_checkSetting : ByteArray := prog_1_method_35_code
def yX6_checkSetting : MethodName := ⟨RX6, "checkSetting", "(I)V"⟩
abbrev cX6_checkWhat : ByteArray := prog_1_method_36_code
def yX6_checkWhat : MethodName := ⟨RX6, "checkWhat", "(II)V"⟩
abbrev cX6_checkPlots : ByteArray := prog_1_method_37_code
def yX6_checkPlots : MethodName := ⟨RX6, "checkPlots", "(II)V"⟩
abbrev cX6_isIn : ByteArray := prog_1_method_38_code
def yX6_isIn : MethodName := ⟨RX6, "isIn", "(II)Z"⟩
def RX7 : String := "SerialRecapsModel"
def TX7 : u_T := fun k => match k with
  | 0 => ("SerialRecapsModel", "thrown", "I", false)
  | 1 => ("SerialRecapsModel", "s", "[I", true)
  | 2 => ("SerialRecapsModel", "past", "[I", true)
  | 3 => ("SerialRecapsModel", "saved", "I", false)
  | 4 => ("SerialRecapsModel", "text", "[C", true)
  | 5 => ("SerialRecapsModel", "length", "I", false)
  | 6 => ("SerialRecapsModel", "spot", "I", false)
  | 7 => ("SerialRecapsModel", "read", "[I", true)
  | 8 => ("SerialRecapsModel", "reads", "I", false)
  | _ => ("SerialRecapsModel", "hash", "J", false)
def tyX7 : Nat → FieldType := fun k => match k with
  | 0 => .int
  | 1 => .array .int
  | 2 => .array .int
  | 3 => .int
  | 4 => .array .char
  | 5 => .int
  | 6 => .int
  | 7 => .array .int
  | 8 => .int
  | _ => .long
theorem nmX7 : ∀ a, a < 10 → ∀ b, b < 10 → a ≠ b → (TX7 a).2.1 ≠ (TX7 b).2.1 := by decide +kernel
theorem tyX7_ok : ∀ k, k < 10 → parseFieldDescriptor (TX7 k).2.2.1 = some (tyX7 k) := by decide +kernel
abbrev cX7_init : ByteArray := prog_9_method_1_code
def yX7_init : MethodName := ⟨RX7, "<init>", "()V"⟩
abbrev cX7_thrown : ByteArray := prog_9_method_2_code
def yX7_thrown : MethodName := ⟨RX7, "thrown", "()I"⟩
abbrev cX7_in : ByteArray := prog_9_method_3_code
def yX7_in : MethodName := ⟨RX7, "in", "(III)Z"⟩
abbrev cX7_refuses : ByteArray := prog_9_method_4_code
def yX7_refuses : MethodName := ⟨RX7, "refuses", "(I)Z"⟩
abbrev cX7_saves : ByteArray := prog_9_method_5_code
def yX7_saves : MethodName := ⟨RX7, "saves", "()V"⟩
abbrev cX7_undo : ByteArray := prog_9_method_6_code
def yX7_undo : MethodName := ⟨RX7, "undo", "()I"⟩
abbrev cX7_isPart : ByteArray := prog_9_method_7_code
def yX7_isPart : MethodName := ⟨RX7, "isPart", "(I)Z"⟩
abbrev cX7_isReader : ByteArray := prog_9_method_8_code
def yX7_isReader : MethodName := ⟨RX7, "isReader", "(I)Z"⟩
abbrev cX7_of : ByteArray := prog_9_method_9_code
def yX7_of : MethodName := ⟨RX7, "of", "(II)I"⟩
abbrev cX7_goesOn : ByteArray := prog_9_method_10_code
def yX7_goesOn : MethodName := ⟨RX7, "goesOn", "(II)Z"⟩
abbrev cX7_known : ByteArray := prog_9_method_11_code
def yX7_known : MethodName := ⟨RX7, "known", "(II)I"⟩
abbrev cX7_learns : ByteArray := prog_9_method_12_code
def yX7_learns : MethodName := ⟨RX7, "learns", "(III)V"⟩
abbrev cX7_grows : ByteArray := prog_9_method_13_code
def yX7_grows : MethodName := ⟨RX7, "grows", "(III)V"⟩
abbrev cX7_ones : ByteArray := prog_9_method_14_code
def yX7_ones : MethodName := ⟨RX7, "ones", "(I)I"⟩
abbrev cX7_needs : ByteArray := prog_9_method_15_code
def yX7_needs : MethodName := ⟨RX7, "needs", "(I)I"⟩
abbrev cX7_needsAmong : ByteArray := prog_9_method_16_code
def yX7_needsAmong : MethodName := ⟨RX7, "needsAmong", "(II)I"⟩
abbrev cX7_unknown : ByteArray := prog_9_method_17_code
def yX7_unknown : MethodName := ⟨RX7, "unknown", "(I)I"⟩
abbrev cX7_missed : ByteArray := prog_9_method_18_code
def yX7_missed : MethodName := ⟨RX7, "missed", "(II)I"⟩
abbrev cX7_told : ByteArray := prog_9_method_19_code
def yX7_told : MethodName := ⟨RX7, "told", "(I)I"⟩
abbrev cX7_wordsOf : ByteArray := prog_9_method_20_code
def yX7_wordsOf : MethodName := ⟨RX7, "wordsOf", "(I)I"⟩
abbrev cX7_isCliff : ByteArray := prog_9_method_21_code
def yX7_isCliff : MethodName := ⟨RX7, "isCliff", "(II)Z"⟩
abbrev cX7_adds : ByteArray := prog_9_method_22_code
def yX7_adds : MethodName := ⟨RX7, "adds", "(III)V"⟩
abbrev cX7_add : ByteArray := prog_9_method_23_code
def yX7_add : MethodName := ⟨RX7, "add", "(III)I"⟩
abbrev cX7_change : ByteArray := prog_9_method_24_code
def yX7_change : MethodName := ⟨RX7, "change", "(III)I"⟩
abbrev cX7_readersOf : ByteArray := prog_9_method_25_code
def yX7_readersOf : MethodName := ⟨RX7, "readersOf", "(I)I"⟩
abbrev cX7_removeLast : ByteArray := prog_9_method_26_code
def yX7_removeLast : MethodName := ⟨RX7, "removeLast", "()I"⟩
abbrev cX7_set : ByteArray := prog_9_method_27_code
def yX7_set : MethodName := ⟨RX7, "set", "(II)I"⟩
abbrev cX7_reaches : ByteArray := prog_9_method_28_code
def yX7_reaches : MethodName := ⟨RX7, "reaches", "(II)I"⟩
abbrev cX7_mail : ByteArray := prog_9_method_29_code
def yX7_mail : MethodName := ⟨RX7, "mail", "(II)I"⟩
abbrev cX7_mailAll : ByteArray := prog_9_method_30_code
def yX7_mailAll : MethodName := ⟨RX7, "mailAll", "(II)I"⟩
abbrev cX7_forget : ByteArray := prog_9_method_31_code
def yX7_forget : MethodName := ⟨RX7, "forget", "(I)I"⟩
abbrev cX7_catchUp : ByteArray := prog_9_method_32_code
def yX7_catchUp : MethodName := ⟨RX7, "catchUp", "(I)I"⟩
abbrev cX7_append : ByteArray := prog_9_method_33_code
def yX7_append : MethodName := ⟨RX7, "append", "(I)I"⟩
abbrev cX7_clearBuffer : ByteArray := prog_9_method_34_code
def yX7_clearBuffer : MethodName := ⟨RX7, "clearBuffer", "()I"⟩
abbrev cX7_sees : ByteArray := prog_9_method_35_code
def yX7_sees : MethodName := ⟨RX7, "sees", "(II)Z"⟩
abbrev cX7_takes : ByteArray := prog_9_method_36_code
def yX7_takes : MethodName := ⟨RX7, "takes", "(C)Z"⟩
abbrev cX7_readsPlots : ByteArray := prog_9_method_37_code
def yX7_readsPlots : MethodName := ⟨RX7, "readsPlots", "()I"⟩
abbrev cX7_readsCliff : ByteArray := prog_9_method_38_code
def yX7_readsCliff : MethodName := ⟨RX7, "readsCliff", "(I)I"⟩
abbrev cX7_readsWords : ByteArray := prog_9_method_39_code
def yX7_readsWords : MethodName := ⟨RX7, "readsWords", "()I"⟩
abbrev cX7_readsPart : ByteArray := prog_9_method_40_code
def yX7_readsPart : MethodName := ⟨RX7, "readsPart", "()Z"⟩
abbrev cX7_isText : ByteArray := prog_9_method_41_code
def yX7_isText : MethodName := ⟨RX7, "isText", "()Z"⟩
abbrev cX7_firstError : ByteArray := prog_9_method_42_code
def yX7_firstError : MethodName := ⟨RX7, "firstError", "()I"⟩
abbrev cX7_addAll : ByteArray := prog_9_method_43_code
def yX7_addAll : MethodName := ⟨RX7, "addAll", "()I"⟩
abbrev cX7_needing : ByteArray := prog_9_method_44_code
def yX7_needing : MethodName := ⟨RX7, "needing", "(I)I"⟩
abbrev cX7_partOf : ByteArray := prog_9_method_45_code
def yX7_partOf : MethodName := ⟨RX7, "partOf", "(II)I"⟩
abbrev cX7_part : ByteArray := prog_9_method_46_code
def yX7_part : MethodName := ⟨RX7, "part", "(II)I"⟩
abbrev cX7_knows : ByteArray := prog_9_method_47_code
def yX7_knows : MethodName := ⟨RX7, "knows", "(II)I"⟩
abbrev cX7_manyKnown : ByteArray := prog_9_method_48_code
def yX7_manyKnown : MethodName := ⟨RX7, "manyKnown", "(II)I"⟩
abbrev cX7_open : ByteArray := prog_9_method_49_code
def yX7_open : MethodName := ⟨RX7, "open", "(I)I"⟩
abbrev cX7_readerOf : ByteArray := prog_9_method_50_code
def yX7_readerOf : MethodName := ⟨RX7, "readerOf", "(II)I"⟩
abbrev cX7_reader : ByteArray := prog_9_method_51_code
def yX7_reader : MethodName := ⟨RX7, "reader", "(II)I"⟩
abbrev cX7_ofParts : ByteArray := prog_9_method_52_code
def yX7_ofParts : MethodName := ⟨RX7, "ofParts", "(II)I"⟩
abbrev cX7_openTo : ByteArray := prog_9_method_53_code
def yX7_openTo : MethodName := ⟨RX7, "openTo", "(I)I"⟩
abbrev cX7_plotOf : ByteArray := prog_9_method_54_code
def yX7_plotOf : MethodName := ⟨RX7, "plotOf", "(II)I"⟩
abbrev cX7_plot : ByteArray := prog_9_method_55_code
def yX7_plot : MethodName := ⟨RX7, "plot", "(II)I"⟩
abbrev cX7_allWords : ByteArray := prog_9_method_56_code
def yX7_allWords : MethodName := ⟨RX7, "allWords", "()I"⟩
abbrev cX7_wordsRead : ByteArray := prog_9_method_57_code
def yX7_wordsRead : MethodName := ⟨RX7, "wordsRead", "()I"⟩
abbrev cX7_knowAll : ByteArray := prog_9_method_58_code
def yX7_knowAll : MethodName := ⟨RX7, "knowAll", "()I"⟩
abbrev cX7_counted : ByteArray := prog_9_method_59_code
def yX7_counted : MethodName := ⟨RX7, "counted", "(I)I"⟩
abbrev cX7_count : ByteArray := prog_9_method_60_code
def yX7_count : MethodName := ⟨RX7, "count", "(I)I"⟩
abbrev cX7_setting : ByteArray := prog_9_method_61_code
def yX7_setting : MethodName := ⟨RX7, "setting", "(I)I"⟩
abbrev cX7_recapOf : ByteArray := prog_9_method_62_code
def yX7_recapOf : MethodName := ⟨RX7, "recapOf", "(III)I"⟩
abbrev cX7_recap : ByteArray := prog_9_method_63_code
def yX7_recap : MethodName := ⟨RX7, "recap", "(III)I"⟩
abbrev cX7_easiestOf : ByteArray := prog_9_method_64_code
def yX7_easiestOf : MethodName := ⟨RX7, "easiestOf", "(I)I"⟩
abbrev cX7_easiest : ByteArray := prog_9_method_65_code
def yX7_easiest : MethodName := ⟨RX7, "easiest", "(I)I"⟩
abbrev cX7_enoughOf : ByteArray := prog_9_method_66_code
def yX7_enoughOf : MethodName := ⟨RX7, "enoughOf", "(I)I"⟩
abbrev cX7_enough : ByteArray := prog_9_method_67_code
def yX7_enough : MethodName := ⟨RX7, "enough", "(I)I"⟩
abbrev cX7_share : ByteArray := prog_9_method_68_code
def yX7_share : MethodName := ⟨RX7, "share", "()D"⟩
abbrev cX7_readShare : ByteArray := prog_9_method_69_code
def yX7_readShare : MethodName := ⟨RX7, "readShare", "()D"⟩
abbrev cX7_mixes : ByteArray := prog_9_method_70_code
def yX7_mixes : MethodName := ⟨RX7, "mixes", "(J)V"⟩
abbrev cX7_mixesReader : ByteArray := prog_9_method_71_code
def yX7_mixesReader : MethodName := ⟨RX7, "mixesReader", "(I)V"⟩
abbrev cX7_digest : ByteArray := prog_9_method_72_code
def yX7_digest : MethodName := ⟨RX7, "digest", "()J"⟩
def RJxe99ae : String := "java/lang/Double"
def TJxe99ae : u_T := fun k => match k with
  | _ => ("", "", "", false)
def tyJxe99ae : Nat → FieldType := fun k => match k with
  | _ => .int
theorem nmJxe99ae : ∀ a, a < 0 → ∀ b, b < 0 → a ≠ b → (TJxe99ae a).2.1 ≠ (TJxe99ae b).2.1 := by decide +kernel
theorem tyJxe99ae_ok : ∀ k, k < 0 → parseFieldDescriptor (TJxe99ae k).2.2.1 = some (tyJxe99ae k) := by decide +kernel
abbrev cJxe99ae_isNaN_b9ae7 : ByteArray := prog_10_method_6_code
def yJxe99ae_isNaN_b9ae7 : MethodName := ⟨RJxe99ae, "isNaN", "(D)Z"⟩
abbrev cJxe99ae_doubleToLongBits_ccdee : ByteArray := prog_10_method_23_code
def yJxe99ae_doubleToLongBits_ccdee : MethodName := ⟨RJxe99ae, "doubleToLongBits", "(D)J"⟩
def RJ6 : String := "java/lang/Integer"
def TJ6 : u_T := fun k => match k with
  | _ => ("", "", "", false)
def tyJ6 : Nat → FieldType := fun k => match k with
  | _ => .int
theorem nmJ6 : ∀ a, a < 0 → ∀ b, b < 0 → a ≠ b → (TJ6 a).2.1 ≠ (TJ6 b).2.1 := by decide +kernel
theorem tyJ6_ok : ∀ k, k < 0 → parseFieldDescriptor (TJ6 k).2.2.1 = some (tyJ6 k) := by decide +kernel
abbrev cJ6_bitCount_0f7a4 : ByteArray := prog_15_method_49_code
def yJ6_bitCount_0f7a4 : MethodName := ⟨RJ6, "bitCount", "(I)I"⟩
def RJ9 : String := "java/lang/Math"
def TJ9 : u_T := fun k => match k with
  | _ => ("", "", "", false)
def tyJ9 : Nat → FieldType := fun k => match k with
  | _ => .int
theorem nmJ9 : ∀ a, a < 0 → ∀ b, b < 0 → a ≠ b → (TJ9 a).2.1 ≠ (TJ9 b).2.1 := by decide +kernel
theorem tyJ9_ok : ∀ k, k < 0 → parseFieldDescriptor (TJ9 k).2.2.1 = some (tyJ9 k) := by decide +kernel
abbrev cJ9_max_7cf53 : ByteArray := prog_16_method_65_code
def yJ9_max_7cf53 : MethodName := ⟨RJ9, "max", "(II)I"⟩
def RJ0 : String := "java/lang/String"
def TJ0 : u_T := fun k => match k with
  | _ => ("", "", "", false)
def tyJ0 : Nat → FieldType := fun k => match k with
  | _ => .int
theorem nmJ0 : ∀ a, a < 0 → ∀ b, b < 0 → a ≠ b → (TJ0 a).2.1 ≠ (TJ0 b).2.1 := by decide +kernel
theorem tyJ0_ok : ∀ k, k < 0 → parseFieldDescriptor (TJ0 k).2.2.1 = some (tyJ0 k) := by decide +kernel
def RJ10 : String := "java/lang/System"
def TJ10 : u_T := fun k => match k with
  | _ => ("", "", "", false)
def tyJ10 : Nat → FieldType := fun k => match k with
  | _ => .int
theorem nmJ10 : ∀ a, a < 0 → ∀ b, b < 0 → a ≠ b → (TJ10 a).2.1 ≠ (TJ10 b).2.1 := by decide +kernel
theorem tyJ10_ok : ∀ k, k < 0 → parseFieldDescriptor (TJ10 k).2.2.1 = some (tyJ10 k) := by decide +kernel
def RL : String := "SerialRecapsLaw"
abbrev cL_add : ByteArray := method_3_code
def yL_add : MethodName := ⟨RL, "add", "(LSerialRecaps;III[J)I"⟩
abbrev cL_change : ByteArray := method_4_code
def yL_change : MethodName := ⟨RL, "change", "(LSerialRecaps;III[J)I"⟩
abbrev cL_removeLast : ByteArray := method_5_code
def yL_removeLast : MethodName := ⟨RL, "removeLast", "(LSerialRecaps;[J)I"⟩
abbrev cL_set : ByteArray := method_6_code
def yL_set : MethodName := ⟨RL, "set", "(LSerialRecaps;II[J)I"⟩
abbrev cL_mail : ByteArray := method_7_code
def yL_mail : MethodName := ⟨RL, "mail", "(LSerialRecaps;II[J)I"⟩
abbrev cL_mailAll : ByteArray := method_8_code
def yL_mailAll : MethodName := ⟨RL, "mailAll", "(LSerialRecaps;II[J)I"⟩
abbrev cL_forget : ByteArray := method_9_code
def yL_forget : MethodName := ⟨RL, "forget", "(LSerialRecaps;I[J)I"⟩
abbrev cL_catchUp : ByteArray := method_10_code
def yL_catchUp : MethodName := ⟨RL, "catchUp", "(LSerialRecaps;I[J)I"⟩
abbrev cL_append : ByteArray := method_11_code
def yL_append : MethodName := ⟨RL, "append", "(LSerialRecaps;I[J)I"⟩
abbrev cL_addAll : ByteArray := method_12_code
def yL_addAll : MethodName := ⟨RL, "addAll", "(LSerialRecaps;[J)I"⟩
abbrev cL_undo : ByteArray := method_13_code
def yL_undo : MethodName := ⟨RL, "undo", "(LSerialRecaps;[J)I"⟩
abbrev cL_part : ByteArray := method_14_code
def yL_part : MethodName := ⟨RL, "part", "(LSerialRecaps;II[J)I"⟩
abbrev cL_knows : ByteArray := method_15_code
def yL_knows : MethodName := ⟨RL, "knows", "(LSerialRecaps;II[J)I"⟩
abbrev cL_reader : ByteArray := method_16_code
def yL_reader : MethodName := ⟨RL, "reader", "(LSerialRecaps;II[J)I"⟩
abbrev cL_plot : ByteArray := method_17_code
def yL_plot : MethodName := ⟨RL, "plot", "(LSerialRecaps;II[J)I"⟩
abbrev cL_count : ByteArray := method_18_code
def yL_count : MethodName := ⟨RL, "count", "(LSerialRecaps;I[J)I"⟩
abbrev cL_setting : ByteArray := method_19_code
def yL_setting : MethodName := ⟨RL, "setting", "(LSerialRecaps;I[J)I"⟩
abbrev cL_recap : ByteArray := method_20_code
def yL_recap : MethodName := ⟨RL, "recap", "(LSerialRecaps;III[J)I"⟩
abbrev cL_easiest : ByteArray := method_21_code
def yL_easiest : MethodName := ⟨RL, "easiest", "(LSerialRecaps;I[J)I"⟩
abbrev cL_enough : ByteArray := method_22_code
def yL_enough : MethodName := ⟨RL, "enough", "(LSerialRecaps;I[J)I"⟩
abbrev cL_law : ByteArray := code
def yL_law : MethodName := ⟨RL, "law", "([I)Z"⟩
abbrev vwCl : List vw_C := [(RX0, TX0, 5), (RX1, TX1, 4), (RX2, TX2, 3), (RX3, TX3, 5), (RX4, TX4, 5), (RX5, TX5, 3), (RX6, TX6, 3), (RX7, TX7, 10)]
end
section
theorem dX0_init_0 : decode cX0_init 0 = .ok (.aload_n 0, 1) := by decide +kernel
theorem dX0_init_1 : decode cX0_init 1 = .ok (.invokespecial 3, 3) := by decide +kernel
theorem dX0_init_4 : decode cX0_init 4 = .ok (.aload_n 0, 1) := by decide +kernel
theorem dX0_init_5 : decode cX0_init 5 = .ok (.bipush 6, 2) := by decide +kernel
theorem dX0_init_7 : decode cX0_init 7 = .ok (.newarray .int, 2) := by decide +kernel
theorem dX0_init_9 : decode cX0_init 9 = .ok (.putfield 9, 3) := by decide +kernel
theorem dX0_init_12 : decode cX0_init 12 = .ok (.aload_n 0, 1) := by decide +kernel
theorem dX0_init_13 : decode cX0_init 13 = .ok (.bipush 6, 2) := by decide +kernel
theorem dX0_init_15 : decode cX0_init 15 = .ok (.newarray .int, 2) := by decide +kernel
theorem dX0_init_17 : decode cX0_init 17 = .ok (.putfield 15, 3) := by decide +kernel
theorem dX0_init_20 : decode cX0_init 20 = .ok (.aload_n 0, 1) := by decide +kernel
theorem dX0_init_21 : decode cX0_init 21 = .ok (.bipush 6, 2) := by decide +kernel
theorem dX0_init_23 : decode cX0_init 23 = .ok (.newarray .int, 2) := by decide +kernel
theorem dX0_init_25 : decode cX0_init 25 = .ok (.putfield 18, 3) := by decide +kernel
theorem dX0_init_28 : decode cX0_init 28 = .ok (.aload_n 0, 1) := by decide +kernel
theorem dX0_init_29 : decode cX0_init 29 = .ok (.bipush 6, 2) := by decide +kernel
theorem dX0_init_31 : decode cX0_init 31 = .ok (.newarray .int, 2) := by decide +kernel
theorem dX0_init_33 : decode cX0_init 33 = .ok (.putfield 21, 3) := by decide +kernel
theorem dX0_init_36 : decode cX0_init 36 = .ok (.aload_n 0, 1) := by decide +kernel
theorem dX0_init_37 : decode cX0_init 37 = .ok (.bipush 6, 2) := by decide +kernel
theorem dX0_init_39 : decode cX0_init 39 = .ok (.newarray .int, 2) := by decide +kernel
theorem dX0_init_41 : decode cX0_init 41 = .ok (.putfield 24, 3) := by decide +kernel
theorem dX0_init_44 : decode cX0_init 44 = .ok (.return_, 1) := by decide +kernel
theorem dX0_copyFrom_0 : decode cX0_copyFrom 0 = .ok (.aload_n 1, 1) := by decide +kernel
theorem dX0_copyFrom_1 : decode cX0_copyFrom 1 = .ok (.getfield 9, 3) := by decide +kernel
theorem dX0_copyFrom_4 : decode cX0_copyFrom 4 = .ok (.iconst 0, 1) := by decide +kernel
theorem dX0_copyFrom_5 : decode cX0_copyFrom 5 = .ok (.aload_n 0, 1) := by decide +kernel
theorem dX0_copyFrom_6 : decode cX0_copyFrom 6 = .ok (.getfield 9, 3) := by decide +kernel
theorem dX0_copyFrom_9 : decode cX0_copyFrom 9 = .ok (.iconst 0, 1) := by decide +kernel
theorem dX0_copyFrom_10 : decode cX0_copyFrom 10 = .ok (.bipush 6, 2) := by decide +kernel
theorem dX0_copyFrom_12 : decode cX0_copyFrom 12 = .ok (.invokestatic 27, 3) := by decide +kernel
theorem dX0_copyFrom_15 : decode cX0_copyFrom 15 = .ok (.aload_n 1, 1) := by decide +kernel
theorem dX0_copyFrom_16 : decode cX0_copyFrom 16 = .ok (.getfield 15, 3) := by decide +kernel
theorem dX0_copyFrom_19 : decode cX0_copyFrom 19 = .ok (.iconst 0, 1) := by decide +kernel
theorem dX0_copyFrom_20 : decode cX0_copyFrom 20 = .ok (.aload_n 0, 1) := by decide +kernel
theorem dX0_copyFrom_21 : decode cX0_copyFrom 21 = .ok (.getfield 15, 3) := by decide +kernel
theorem dX0_copyFrom_24 : decode cX0_copyFrom 24 = .ok (.iconst 0, 1) := by decide +kernel
theorem dX0_copyFrom_25 : decode cX0_copyFrom 25 = .ok (.bipush 6, 2) := by decide +kernel
theorem dX0_copyFrom_27 : decode cX0_copyFrom 27 = .ok (.invokestatic 27, 3) := by decide +kernel
theorem dX0_copyFrom_30 : decode cX0_copyFrom 30 = .ok (.aload_n 1, 1) := by decide +kernel
theorem dX0_copyFrom_31 : decode cX0_copyFrom 31 = .ok (.getfield 18, 3) := by decide +kernel
theorem dX0_copyFrom_34 : decode cX0_copyFrom 34 = .ok (.iconst 0, 1) := by decide +kernel
theorem dX0_copyFrom_35 : decode cX0_copyFrom 35 = .ok (.aload_n 0, 1) := by decide +kernel
theorem dX0_copyFrom_36 : decode cX0_copyFrom 36 = .ok (.getfield 18, 3) := by decide +kernel
theorem dX0_copyFrom_39 : decode cX0_copyFrom 39 = .ok (.iconst 0, 1) := by decide +kernel
theorem dX0_copyFrom_40 : decode cX0_copyFrom 40 = .ok (.bipush 6, 2) := by decide +kernel
theorem dX0_copyFrom_42 : decode cX0_copyFrom 42 = .ok (.invokestatic 27, 3) := by decide +kernel
theorem dX0_copyFrom_45 : decode cX0_copyFrom 45 = .ok (.aload_n 1, 1) := by decide +kernel
theorem dX0_copyFrom_46 : decode cX0_copyFrom 46 = .ok (.getfield 21, 3) := by decide +kernel
theorem dX0_copyFrom_49 : decode cX0_copyFrom 49 = .ok (.iconst 0, 1) := by decide +kernel
theorem dX0_copyFrom_50 : decode cX0_copyFrom 50 = .ok (.aload_n 0, 1) := by decide +kernel
theorem dX0_copyFrom_51 : decode cX0_copyFrom 51 = .ok (.getfield 21, 3) := by decide +kernel
theorem dX0_copyFrom_54 : decode cX0_copyFrom 54 = .ok (.iconst 0, 1) := by decide +kernel
theorem dX0_copyFrom_55 : decode cX0_copyFrom 55 = .ok (.bipush 6, 2) := by decide +kernel
theorem dX0_copyFrom_57 : decode cX0_copyFrom 57 = .ok (.invokestatic 27, 3) := by decide +kernel
theorem dX0_copyFrom_60 : decode cX0_copyFrom 60 = .ok (.aload_n 1, 1) := by decide +kernel
theorem dX0_copyFrom_61 : decode cX0_copyFrom 61 = .ok (.getfield 24, 3) := by decide +kernel
theorem dX0_copyFrom_64 : decode cX0_copyFrom 64 = .ok (.iconst 0, 1) := by decide +kernel
theorem dX0_copyFrom_65 : decode cX0_copyFrom 65 = .ok (.aload_n 0, 1) := by decide +kernel
theorem dX0_copyFrom_66 : decode cX0_copyFrom 66 = .ok (.getfield 24, 3) := by decide +kernel
theorem dX0_copyFrom_69 : decode cX0_copyFrom 69 = .ok (.iconst 0, 1) := by decide +kernel
theorem dX0_copyFrom_70 : decode cX0_copyFrom 70 = .ok (.bipush 6, 2) := by decide +kernel
theorem dX0_copyFrom_72 : decode cX0_copyFrom 72 = .ok (.invokestatic 27, 3) := by decide +kernel
theorem dX0_copyFrom_75 : decode cX0_copyFrom 75 = .ok (.return_, 1) := by decide +kernel
theorem dX0_hasRead_0 : decode cX0_hasRead 0 = .ok (.aload_n 0, 1) := by decide +kernel
theorem dX0_hasRead_1 : decode cX0_hasRead 1 = .ok (.getfield 15, 3) := by decide +kernel
theorem dX0_hasRead_4 : decode cX0_hasRead 4 = .ok (.iload_n 1, 1) := by decide +kernel
theorem dX0_hasRead_5 : decode cX0_hasRead 5 = .ok (.iaload, 1) := by decide +kernel
theorem dX0_hasRead_6 : decode cX0_hasRead 6 = .ok (.iload_n 2, 1) := by decide +kernel
theorem dX0_hasRead_7 : decode cX0_hasRead 7 = .ok (.invokestatic 33, 3) := by decide +kernel
theorem dX0_hasRead_10 : decode cX0_hasRead 10 = .ok (.ireturn, 1) := by decide +kernel
theorem dX0_known_0 : decode cX0_known 0 = .ok (.aload_n 0, 1) := by decide +kernel
theorem dX0_known_1 : decode cX0_known 1 = .ok (.getfield 9, 3) := by decide +kernel
theorem dX0_known_4 : decode cX0_known 4 = .ok (.iload_n 1, 1) := by decide +kernel
theorem dX0_known_5 : decode cX0_known 5 = .ok (.iaload, 1) := by decide +kernel
theorem dX0_known_6 : decode cX0_known 6 = .ok (.aload_n 0, 1) := by decide +kernel
theorem dX0_known_7 : decode cX0_known 7 = .ok (.getfield 15, 3) := by decide +kernel
theorem dX0_known_10 : decode cX0_known 10 = .ok (.iload_n 1, 1) := by decide +kernel
theorem dX0_known_11 : decode cX0_known 11 = .ok (.iaload, 1) := by decide +kernel
theorem dX0_known_12 : decode cX0_known 12 = .ok (.ior, 1) := by decide +kernel
theorem dX0_known_13 : decode cX0_known 13 = .ok (.ireturn, 1) := by decide +kernel
theorem dX0_knowledge_0 : decode cX0_knowledge 0 = .ok (.aload_n 0, 1) := by decide +kernel
theorem dX0_knowledge_1 : decode cX0_knowledge 1 = .ok (.iload_n 1, 1) := by decide +kernel
theorem dX0_knowledge_2 : decode cX0_knowledge 2 = .ok (.iload_n 2, 1) := by decide +kernel
theorem dX0_knowledge_3 : decode cX0_knowledge 3 = .ok (.invokevirtual 37, 3) := by decide +kernel
theorem dX0_knowledge_6 : decode cX0_knowledge 6 = .ok (.ifCond .eq 5, 3) := by decide +kernel
theorem dX0_knowledge_9 : decode cX0_knowledge 9 = .ok (.iconst 2, 1) := by decide +kernel
theorem dX0_knowledge_10 : decode cX0_knowledge 10 = .ok (.ireturn, 1) := by decide +kernel
theorem dX0_knowledge_11 : decode cX0_knowledge 11 = .ok (.aload_n 0, 1) := by decide +kernel
theorem dX0_knowledge_12 : decode cX0_knowledge 12 = .ok (.getfield 9, 3) := by decide +kernel
theorem dX0_knowledge_15 : decode cX0_knowledge 15 = .ok (.iload_n 1, 1) := by decide +kernel
theorem dX0_knowledge_16 : decode cX0_knowledge 16 = .ok (.iaload, 1) := by decide +kernel
theorem dX0_knowledge_17 : decode cX0_knowledge 17 = .ok (.iload_n 2, 1) := by decide +kernel
theorem dX0_knowledge_18 : decode cX0_knowledge 18 = .ok (.invokestatic 33, 3) := by decide +kernel
theorem dX0_knowledge_21 : decode cX0_knowledge 21 = .ok (.ifCond .eq 7, 3) := by decide +kernel
theorem dX0_knowledge_24 : decode cX0_knowledge 24 = .ok (.iconst 1, 1) := by decide +kernel
theorem dX0_knowledge_25 : decode cX0_knowledge 25 = .ok (.goto 4, 3) := by decide +kernel
theorem dX0_knowledge_28 : decode cX0_knowledge 28 = .ok (.iconst 0, 1) := by decide +kernel
theorem dX0_knowledge_29 : decode cX0_knowledge 29 = .ok (.ireturn, 1) := by decide +kernel
theorem dX0_whoRead_0 : decode cX0_whoRead 0 = .ok (.iconst 0, 1) := by decide +kernel
theorem dX0_whoRead_1 : decode cX0_whoRead 1 = .ok (.istore_n 2, 1) := by decide +kernel
theorem dX0_whoRead_2 : decode cX0_whoRead 2 = .ok (.iconst 0, 1) := by decide +kernel
theorem dX0_whoRead_3 : decode cX0_whoRead 3 = .ok (.istore_n 3, 1) := by decide +kernel
theorem dX0_whoRead_4 : decode cX0_whoRead 4 = .ok (.iload_n 3, 1) := by decide +kernel
theorem dX0_whoRead_5 : decode cX0_whoRead 5 = .ok (.bipush 6, 2) := by decide +kernel
theorem dX0_whoRead_7 : decode cX0_whoRead 7 = .ok (.if_icmp .ge 24, 3) := by decide +kernel
theorem dX0_whoRead_10 : decode cX0_whoRead 10 = .ok (.aload_n 0, 1) := by decide +kernel
theorem dX0_whoRead_11 : decode cX0_whoRead 11 = .ok (.iload_n 3, 1) := by decide +kernel
theorem dX0_whoRead_12 : decode cX0_whoRead 12 = .ok (.iload_n 1, 1) := by decide +kernel
theorem dX0_whoRead_13 : decode cX0_whoRead 13 = .ok (.invokevirtual 37, 3) := by decide +kernel
theorem dX0_whoRead_16 : decode cX0_whoRead 16 = .ok (.ifCond .eq 9, 3) := by decide +kernel
theorem dX0_whoRead_19 : decode cX0_whoRead 19 = .ok (.iload_n 2, 1) := by decide +kernel
theorem dX0_whoRead_20 : decode cX0_whoRead 20 = .ok (.iconst 1, 1) := by decide +kernel
theorem dX0_whoRead_21 : decode cX0_whoRead 21 = .ok (.iload_n 3, 1) := by decide +kernel
theorem dX0_whoRead_22 : decode cX0_whoRead 22 = .ok (.ishl, 1) := by decide +kernel
theorem dX0_whoRead_23 : decode cX0_whoRead 23 = .ok (.ior, 1) := by decide +kernel
theorem dX0_whoRead_24 : decode cX0_whoRead 24 = .ok (.istore_n 2, 1) := by decide +kernel
theorem dX0_whoRead_25 : decode cX0_whoRead 25 = .ok (.iinc 3 1, 3) := by decide +kernel
theorem dX0_whoRead_28 : decode cX0_whoRead 28 = .ok (.goto (-24), 3) := by decide +kernel
theorem dX0_whoRead_31 : decode cX0_whoRead 31 = .ok (.iload_n 2, 1) := by decide +kernel
theorem dX0_whoRead_32 : decode cX0_whoRead 32 = .ok (.ireturn, 1) := by decide +kernel
theorem dX0_howManyKnowAll_0 : decode cX0_howManyKnowAll 0 = .ok (.iconst 0, 1) := by decide +kernel
theorem dX0_howManyKnowAll_1 : decode cX0_howManyKnowAll 1 = .ok (.istore_n 2, 1) := by decide +kernel
theorem dX0_howManyKnowAll_2 : decode cX0_howManyKnowAll 2 = .ok (.iconst 0, 1) := by decide +kernel
theorem dX0_howManyKnowAll_3 : decode cX0_howManyKnowAll 3 = .ok (.istore_n 3, 1) := by decide +kernel
theorem dX0_howManyKnowAll_4 : decode cX0_howManyKnowAll 4 = .ok (.iload_n 3, 1) := by decide +kernel
theorem dX0_howManyKnowAll_5 : decode cX0_howManyKnowAll 5 = .ok (.bipush 6, 2) := by decide +kernel
theorem dX0_howManyKnowAll_7 : decode cX0_howManyKnowAll 7 = .ok (.if_icmp .ge 21, 3) := by decide +kernel
theorem dX0_howManyKnowAll_10 : decode cX0_howManyKnowAll 10 = .ok (.aload_n 0, 1) := by decide +kernel
theorem dX0_howManyKnowAll_11 : decode cX0_howManyKnowAll 11 = .ok (.iload_n 3, 1) := by decide +kernel
theorem dX0_howManyKnowAll_12 : decode cX0_howManyKnowAll 12 = .ok (.invokevirtual 40, 3) := by decide +kernel
theorem dX0_howManyKnowAll_15 : decode cX0_howManyKnowAll 15 = .ok (.iload_n 1, 1) := by decide +kernel
theorem dX0_howManyKnowAll_16 : decode cX0_howManyKnowAll 16 = .ok (.if_icmp .ne 6, 3) := by decide +kernel
theorem dX0_howManyKnowAll_19 : decode cX0_howManyKnowAll 19 = .ok (.iinc 2 1, 3) := by decide +kernel
theorem dX0_howManyKnowAll_22 : decode cX0_howManyKnowAll 22 = .ok (.iinc 3 1, 3) := by decide +kernel
theorem dX0_howManyKnowAll_25 : decode cX0_howManyKnowAll 25 = .ok (.goto (-21), 3) := by decide +kernel
theorem dX0_howManyKnowAll_28 : decode cX0_howManyKnowAll 28 = .ok (.iload_n 2, 1) := by decide +kernel
theorem dX0_howManyKnowAll_29 : decode cX0_howManyKnowAll 29 = .ok (.ireturn, 1) := by decide +kernel
theorem dX0_sumOfWordsRead_0 : decode cX0_sumOfWordsRead 0 = .ok (.iconst 0, 1) := by decide +kernel
theorem dX0_sumOfWordsRead_1 : decode cX0_sumOfWordsRead 1 = .ok (.istore_n 1, 1) := by decide +kernel
theorem dX0_sumOfWordsRead_2 : decode cX0_sumOfWordsRead 2 = .ok (.iconst 0, 1) := by decide +kernel
theorem dX0_sumOfWordsRead_3 : decode cX0_sumOfWordsRead 3 = .ok (.istore_n 2, 1) := by decide +kernel
theorem dX0_sumOfWordsRead_4 : decode cX0_sumOfWordsRead 4 = .ok (.iload_n 2, 1) := by decide +kernel
theorem dX0_sumOfWordsRead_5 : decode cX0_sumOfWordsRead 5 = .ok (.bipush 6, 2) := by decide +kernel
theorem dX0_sumOfWordsRead_7 : decode cX0_sumOfWordsRead 7 = .ok (.if_icmp .ge 18, 3) := by decide +kernel
theorem dX0_sumOfWordsRead_10 : decode cX0_sumOfWordsRead 10 = .ok (.iload_n 1, 1) := by decide +kernel
theorem dX0_sumOfWordsRead_11 : decode cX0_sumOfWordsRead 11 = .ok (.aload_n 0, 1) := by decide +kernel
theorem dX0_sumOfWordsRead_12 : decode cX0_sumOfWordsRead 12 = .ok (.getfield 18, 3) := by decide +kernel
theorem dX0_sumOfWordsRead_15 : decode cX0_sumOfWordsRead 15 = .ok (.iload_n 2, 1) := by decide +kernel
theorem dX0_sumOfWordsRead_16 : decode cX0_sumOfWordsRead 16 = .ok (.iaload, 1) := by decide +kernel
theorem dX0_sumOfWordsRead_17 : decode cX0_sumOfWordsRead 17 = .ok (.iadd, 1) := by decide +kernel
theorem dX0_sumOfWordsRead_18 : decode cX0_sumOfWordsRead 18 = .ok (.istore_n 1, 1) := by decide +kernel
theorem dX0_sumOfWordsRead_19 : decode cX0_sumOfWordsRead 19 = .ok (.iinc 2 1, 3) := by decide +kernel
theorem dX0_sumOfWordsRead_22 : decode cX0_sumOfWordsRead 22 = .ok (.goto (-18), 3) := by decide +kernel
theorem dX0_sumOfWordsRead_25 : decode cX0_sumOfWordsRead 25 = .ok (.iload_n 1, 1) := by decide +kernel
theorem dX0_sumOfWordsRead_26 : decode cX0_sumOfWordsRead 26 = .ok (.ireturn, 1) := by decide +kernel
theorem dX0_sumOfRead_0 : decode cX0_sumOfRead 0 = .ok (.iconst 0, 1) := by decide +kernel
theorem dX0_sumOfRead_1 : decode cX0_sumOfRead 1 = .ok (.istore_n 1, 1) := by decide +kernel
theorem dX0_sumOfRead_2 : decode cX0_sumOfRead 2 = .ok (.iconst 0, 1) := by decide +kernel
theorem dX0_sumOfRead_3 : decode cX0_sumOfRead 3 = .ok (.istore_n 2, 1) := by decide +kernel
theorem dX0_sumOfRead_4 : decode cX0_sumOfRead 4 = .ok (.iload_n 2, 1) := by decide +kernel
theorem dX0_sumOfRead_5 : decode cX0_sumOfRead 5 = .ok (.bipush 6, 2) := by decide +kernel
theorem dX0_sumOfRead_7 : decode cX0_sumOfRead 7 = .ok (.if_icmp .ge 21, 3) := by decide +kernel
theorem dX0_sumOfRead_10 : decode cX0_sumOfRead 10 = .ok (.iload_n 1, 1) := by decide +kernel
theorem dX0_sumOfRead_11 : decode cX0_sumOfRead 11 = .ok (.aload_n 0, 1) := by decide +kernel
theorem dX0_sumOfRead_12 : decode cX0_sumOfRead 12 = .ok (.getfield 15, 3) := by decide +kernel
theorem dX0_sumOfRead_15 : decode cX0_sumOfRead 15 = .ok (.iload_n 2, 1) := by decide +kernel
theorem dX0_sumOfRead_16 : decode cX0_sumOfRead 16 = .ok (.iaload, 1) := by decide +kernel
theorem dX0_sumOfRead_17 : decode cX0_sumOfRead 17 = .ok (.invokestatic 44, 3) := by decide +kernel
theorem dX0_sumOfRead_20 : decode cX0_sumOfRead 20 = .ok (.iadd, 1) := by decide +kernel
theorem dX0_sumOfRead_21 : decode cX0_sumOfRead 21 = .ok (.istore_n 1, 1) := by decide +kernel
theorem dX0_sumOfRead_22 : decode cX0_sumOfRead 22 = .ok (.iinc 2 1, 3) := by decide +kernel
theorem dX0_sumOfRead_25 : decode cX0_sumOfRead 25 = .ok (.goto (-21), 3) := by decide +kernel
theorem dX0_sumOfRead_28 : decode cX0_sumOfRead 28 = .ok (.iload_n 1, 1) := by decide +kernel
theorem dX0_sumOfRead_29 : decode cX0_sumOfRead 29 = .ok (.ireturn, 1) := by decide +kernel
theorem dX0_dropTold_0 : decode cX0_dropTold 0 = .ok (.aload_n 0, 1) := by decide +kernel
theorem dX0_dropTold_1 : decode cX0_dropTold 1 = .ok (.getfield 9, 3) := by decide +kernel
theorem dX0_dropTold_4 : decode cX0_dropTold 4 = .ok (.iload_n 1, 1) := by decide +kernel
theorem dX0_dropTold_5 : decode cX0_dropTold 5 = .ok (.iaload, 1) := by decide +kernel
theorem dX0_dropTold_6 : decode cX0_dropTold 6 = .ok (.invokestatic 44, 3) := by decide +kernel
theorem dX0_dropTold_9 : decode cX0_dropTold 9 = .ok (.istore_n 2, 1) := by decide +kernel
theorem dX0_dropTold_10 : decode cX0_dropTold 10 = .ok (.aload_n 0, 1) := by decide +kernel
theorem dX0_dropTold_11 : decode cX0_dropTold 11 = .ok (.getfield 9, 3) := by decide +kernel
theorem dX0_dropTold_14 : decode cX0_dropTold 14 = .ok (.iload_n 1, 1) := by decide +kernel
theorem dX0_dropTold_15 : decode cX0_dropTold 15 = .ok (.iconst 0, 1) := by decide +kernel
theorem dX0_dropTold_16 : decode cX0_dropTold 16 = .ok (.iastore, 1) := by decide +kernel
theorem dX0_dropTold_17 : decode cX0_dropTold 17 = .ok (.iload_n 2, 1) := by decide +kernel
theorem dX0_dropTold_18 : decode cX0_dropTold 18 = .ok (.ireturn, 1) := by decide +kernel
theorem dX0_dropPart_0 : decode cX0_dropPart 0 = .ok (.iconst 1, 1) := by decide +kernel
theorem dX0_dropPart_1 : decode cX0_dropPart 1 = .ok (.iload_n 1, 1) := by decide +kernel
theorem dX0_dropPart_2 : decode cX0_dropPart 2 = .ok (.ishl, 1) := by decide +kernel
theorem dX0_dropPart_3 : decode cX0_dropPart 3 = .ok (.iconst (-1), 1) := by decide +kernel
theorem dX0_dropPart_4 : decode cX0_dropPart 4 = .ok (.ixor, 1) := by decide +kernel
theorem dX0_dropPart_5 : decode cX0_dropPart 5 = .ok (.istore_n 2, 1) := by decide +kernel
theorem dX0_dropPart_6 : decode cX0_dropPart 6 = .ok (.iconst 0, 1) := by decide +kernel
theorem dX0_dropPart_7 : decode cX0_dropPart 7 = .ok (.istore_n 3, 1) := by decide +kernel
theorem dX0_dropPart_8 : decode cX0_dropPart 8 = .ok (.iload_n 3, 1) := by decide +kernel
theorem dX0_dropPart_9 : decode cX0_dropPart 9 = .ok (.bipush 6, 2) := by decide +kernel
theorem dX0_dropPart_11 : decode cX0_dropPart 11 = .ok (.if_icmp .ge 29, 3) := by decide +kernel
theorem dX0_dropPart_14 : decode cX0_dropPart 14 = .ok (.aload_n 0, 1) := by decide +kernel
theorem dX0_dropPart_15 : decode cX0_dropPart 15 = .ok (.getfield 9, 3) := by decide +kernel
theorem dX0_dropPart_18 : decode cX0_dropPart 18 = .ok (.iload_n 3, 1) := by decide +kernel
theorem dX0_dropPart_19 : decode cX0_dropPart 19 = .ok (.dup2, 1) := by decide +kernel
theorem dX0_dropPart_20 : decode cX0_dropPart 20 = .ok (.iaload, 1) := by decide +kernel
theorem dX0_dropPart_21 : decode cX0_dropPart 21 = .ok (.iload_n 2, 1) := by decide +kernel
theorem dX0_dropPart_22 : decode cX0_dropPart 22 = .ok (.iand, 1) := by decide +kernel
theorem dX0_dropPart_23 : decode cX0_dropPart 23 = .ok (.iastore, 1) := by decide +kernel
theorem dX0_dropPart_24 : decode cX0_dropPart 24 = .ok (.aload_n 0, 1) := by decide +kernel
theorem dX0_dropPart_25 : decode cX0_dropPart 25 = .ok (.getfield 15, 3) := by decide +kernel
theorem dX0_dropPart_28 : decode cX0_dropPart 28 = .ok (.iload_n 3, 1) := by decide +kernel
theorem dX0_dropPart_29 : decode cX0_dropPart 29 = .ok (.dup2, 1) := by decide +kernel
theorem dX0_dropPart_30 : decode cX0_dropPart 30 = .ok (.iaload, 1) := by decide +kernel
theorem dX0_dropPart_31 : decode cX0_dropPart 31 = .ok (.iload_n 2, 1) := by decide +kernel
theorem dX0_dropPart_32 : decode cX0_dropPart 32 = .ok (.iand, 1) := by decide +kernel
theorem dX0_dropPart_33 : decode cX0_dropPart 33 = .ok (.iastore, 1) := by decide +kernel
theorem dX0_dropPart_34 : decode cX0_dropPart 34 = .ok (.iinc 3 1, 3) := by decide +kernel
theorem dX0_dropPart_37 : decode cX0_dropPart 37 = .ok (.goto (-29), 3) := by decide +kernel
theorem dX0_dropPart_40 : decode cX0_dropPart 40 = .ok (.return_, 1) := by decide +kernel
theorem dX0_takeIn_0 : decode cX0_takeIn 0 = .ok (.aload_n 0, 1) := by decide +kernel
theorem dX0_takeIn_1 : decode cX0_takeIn 1 = .ok (.getfield 15, 3) := by decide +kernel
theorem dX0_takeIn_4 : decode cX0_takeIn 4 = .ok (.iload_n 1, 1) := by decide +kernel
theorem dX0_takeIn_5 : decode cX0_takeIn 5 = .ok (.dup2, 1) := by decide +kernel
theorem dX0_takeIn_6 : decode cX0_takeIn 6 = .ok (.iaload, 1) := by decide +kernel
theorem dX0_takeIn_7 : decode cX0_takeIn 7 = .ok (.iconst 1, 1) := by decide +kernel
theorem dX0_takeIn_8 : decode cX0_takeIn 8 = .ok (.iload_n 2, 1) := by decide +kernel
theorem dX0_takeIn_9 : decode cX0_takeIn 9 = .ok (.ishl, 1) := by decide +kernel
theorem dX0_takeIn_10 : decode cX0_takeIn 10 = .ok (.ior, 1) := by decide +kernel
theorem dX0_takeIn_11 : decode cX0_takeIn 11 = .ok (.iastore, 1) := by decide +kernel
theorem dX0_takeIn_12 : decode cX0_takeIn 12 = .ok (.aload_n 0, 1) := by decide +kernel
theorem dX0_takeIn_13 : decode cX0_takeIn 13 = .ok (.getfield 9, 3) := by decide +kernel
theorem dX0_takeIn_16 : decode cX0_takeIn 16 = .ok (.iload_n 1, 1) := by decide +kernel
theorem dX0_takeIn_17 : decode cX0_takeIn 17 = .ok (.aload_n 0, 1) := by decide +kernel
theorem dX0_takeIn_18 : decode cX0_takeIn 18 = .ok (.getfield 9, 3) := by decide +kernel
theorem dX0_takeIn_21 : decode cX0_takeIn 21 = .ok (.iload_n 1, 1) := by decide +kernel
theorem dX0_takeIn_22 : decode cX0_takeIn 22 = .ok (.iaload, 1) := by decide +kernel
theorem dX0_takeIn_23 : decode cX0_takeIn 23 = .ok (.iload_n 3, 1) := by decide +kernel
theorem dX0_takeIn_24 : decode cX0_takeIn 24 = .ok (.ior, 1) := by decide +kernel
theorem dX0_takeIn_25 : decode cX0_takeIn 25 = .ok (.aload_n 0, 1) := by decide +kernel
theorem dX0_takeIn_26 : decode cX0_takeIn 26 = .ok (.getfield 15, 3) := by decide +kernel
theorem dX0_takeIn_29 : decode cX0_takeIn 29 = .ok (.iload_n 1, 1) := by decide +kernel
theorem dX0_takeIn_30 : decode cX0_takeIn 30 = .ok (.iaload, 1) := by decide +kernel
theorem dX0_takeIn_31 : decode cX0_takeIn 31 = .ok (.iconst (-1), 1) := by decide +kernel
theorem dX0_takeIn_32 : decode cX0_takeIn 32 = .ok (.ixor, 1) := by decide +kernel
theorem dX0_takeIn_33 : decode cX0_takeIn 33 = .ok (.iand, 1) := by decide +kernel
theorem dX0_takeIn_34 : decode cX0_takeIn 34 = .ok (.iastore, 1) := by decide +kernel
theorem dX0_takeIn_35 : decode cX0_takeIn 35 = .ok (.return_, 1) := by decide +kernel
theorem dX1_init_0 : decode cX1_init 0 = .ok (.aload_n 0, 1) := by decide +kernel
theorem dX1_init_1 : decode cX1_init 1 = .ok (.invokespecial 3, 3) := by decide +kernel
theorem dX1_init_4 : decode cX1_init 4 = .ok (.return_, 1) := by decide +kernel
theorem dX1_restart_0 : decode cX1_restart 0 = .ok (.aload_n 0, 1) := by decide +kernel
theorem dX1_restart_1 : decode cX1_restart 1 = .ok (.iconst 0, 1) := by decide +kernel
theorem dX1_restart_2 : decode cX1_restart 2 = .ok (.putfield 11, 3) := by decide +kernel
theorem dX1_restart_5 : decode cX1_restart 5 = .ok (.aload_n 0, 1) := by decide +kernel
theorem dX1_restart_6 : decode cX1_restart 6 = .ok (.iconst 0, 1) := by decide +kernel
theorem dX1_restart_7 : decode cX1_restart 7 = .ok (.putfield 15, 3) := by decide +kernel
theorem dX1_restart_10 : decode cX1_restart 10 = .ok (.aload_n 0, 1) := by decide +kernel
theorem dX1_restart_11 : decode cX1_restart 11 = .ok (.iconst (-1), 1) := by decide +kernel
theorem dX1_restart_12 : decode cX1_restart 12 = .ok (.putfield 18, 3) := by decide +kernel
theorem dX1_restart_15 : decode cX1_restart 15 = .ok (.aload_n 0, 1) := by decide +kernel
theorem dX1_restart_16 : decode cX1_restart 16 = .ok (.bipush 10, 2) := by decide +kernel
theorem dX1_restart_18 : decode cX1_restart 18 = .ok (.putfield 21, 3) := by decide +kernel
theorem dX1_restart_21 : decode cX1_restart 21 = .ok (.return_, 1) := by decide +kernel
theorem dX1_mayEnd_0 : decode cX1_mayEnd 0 = .ok (.aload_n 0, 1) := by decide +kernel
theorem dX1_mayEnd_1 : decode cX1_mayEnd 1 = .ok (.getfield 11, 3) := by decide +kernel
theorem dX1_mayEnd_4 : decode cX1_mayEnd 4 = .ok (.iconst 1, 1) := by decide +kernel
theorem dX1_mayEnd_5 : decode cX1_mayEnd 5 = .ok (.if_icmp .eq 28, 3) := by decide +kernel
theorem dX1_mayEnd_8 : decode cX1_mayEnd 8 = .ok (.aload_n 0, 1) := by decide +kernel
theorem dX1_mayEnd_9 : decode cX1_mayEnd 9 = .ok (.getfield 11, 3) := by decide +kernel
theorem dX1_mayEnd_12 : decode cX1_mayEnd 12 = .ok (.iconst 3, 1) := by decide +kernel
theorem dX1_mayEnd_13 : decode cX1_mayEnd 13 = .ok (.if_icmp .eq 20, 3) := by decide +kernel
theorem dX1_mayEnd_16 : decode cX1_mayEnd 16 = .ok (.aload_n 0, 1) := by decide +kernel
theorem dX1_mayEnd_17 : decode cX1_mayEnd 17 = .ok (.getfield 11, 3) := by decide +kernel
theorem dX1_mayEnd_20 : decode cX1_mayEnd 20 = .ok (.iconst 5, 1) := by decide +kernel
theorem dX1_mayEnd_21 : decode cX1_mayEnd 21 = .ok (.if_icmp .eq 12, 3) := by decide +kernel
theorem dX1_mayEnd_24 : decode cX1_mayEnd 24 = .ok (.aload_n 0, 1) := by decide +kernel
theorem dX1_mayEnd_25 : decode cX1_mayEnd 25 = .ok (.getfield 11, 3) := by decide +kernel
theorem dX1_mayEnd_28 : decode cX1_mayEnd 28 = .ok (.bipush 6, 2) := by decide +kernel
theorem dX1_mayEnd_30 : decode cX1_mayEnd 30 = .ok (.if_icmp .ne 7, 3) := by decide +kernel
theorem dX1_mayEnd_33 : decode cX1_mayEnd 33 = .ok (.iconst 1, 1) := by decide +kernel
theorem dX1_mayEnd_34 : decode cX1_mayEnd 34 = .ok (.goto 4, 3) := by decide +kernel
theorem dX1_mayEnd_37 : decode cX1_mayEnd 37 = .ok (.iconst 0, 1) := by decide +kernel
theorem dX1_mayEnd_38 : decode cX1_mayEnd 38 = .ok (.ireturn, 1) := by decide +kernel
theorem dX1_takes_0 : decode cX1_takes 0 = .ok (.aload_n 0, 1) := by decide +kernel
theorem dX1_takes_1 : decode cX1_takes 1 = .ok (.getfield 11, 3) := by decide +kernel
theorem dX1_takes_4 : decode cX1_takes 4 = .ok (.tableswitch 174 0 5 #[40, 46, 90, 96, 121, 143], 40) := by decide +kernel
theorem dX1_takes_44 : decode cX1_takes 44 = .ok (.aload_n 0, 1) := by decide +kernel
theorem dX1_takes_45 : decode cX1_takes 45 = .ok (.iload_n 1, 1) := by decide +kernel
theorem dX1_takes_46 : decode cX1_takes 46 = .ok (.invokevirtual 24, 3) := by decide +kernel
theorem dX1_takes_49 : decode cX1_takes 49 = .ok (.ireturn, 1) := by decide +kernel
theorem dX1_takes_50 : decode cX1_takes 50 = .ok (.aload_n 0, 1) := by decide +kernel
theorem dX1_takes_51 : decode cX1_takes 51 = .ok (.iload_n 1, 1) := by decide +kernel
theorem dX1_takes_52 : decode cX1_takes 52 = .ok (.invokevirtual 24, 3) := by decide +kernel
theorem dX1_takes_55 : decode cX1_takes 55 = .ok (.ifCond .ne 33, 3) := by decide +kernel
theorem dX1_takes_58 : decode cX1_takes 58 = .ok (.aload_n 0, 1) := by decide +kernel
theorem dX1_takes_59 : decode cX1_takes 59 = .ok (.iload_n 1, 1) := by decide +kernel
theorem dX1_takes_60 : decode cX1_takes 60 = .ok (.bipush 33, 2) := by decide +kernel
theorem dX1_takes_62 : decode cX1_takes 62 = .ok (.iconst 2, 1) := by decide +kernel
theorem dX1_takes_63 : decode cX1_takes 63 = .ok (.invokevirtual 28, 3) := by decide +kernel
theorem dX1_takes_66 : decode cX1_takes 66 = .ok (.ifCond .ne 22, 3) := by decide +kernel
theorem dX1_takes_69 : decode cX1_takes 69 = .ok (.aload_n 0, 1) := by decide +kernel
theorem dX1_takes_70 : decode cX1_takes 70 = .ok (.iload_n 1, 1) := by decide +kernel
theorem dX1_takes_71 : decode cX1_takes 71 = .ok (.bipush 119, 2) := by decide +kernel
theorem dX1_takes_73 : decode cX1_takes 73 = .ok (.iconst 4, 1) := by decide +kernel
theorem dX1_takes_74 : decode cX1_takes 74 = .ok (.invokevirtual 28, 3) := by decide +kernel
theorem dX1_takes_77 : decode cX1_takes 77 = .ok (.ifCond .ne 11, 3) := by decide +kernel
theorem dX1_takes_80 : decode cX1_takes 80 = .ok (.aload_n 0, 1) := by decide +kernel
theorem dX1_takes_81 : decode cX1_takes 81 = .ok (.iload_n 1, 1) := by decide +kernel
theorem dX1_takes_82 : decode cX1_takes 82 = .ok (.invokevirtual 32, 3) := by decide +kernel
theorem dX1_takes_85 : decode cX1_takes 85 = .ok (.ifCond .eq 7, 3) := by decide +kernel
theorem dX1_takes_88 : decode cX1_takes 88 = .ok (.iconst 1, 1) := by decide +kernel
theorem dX1_takes_89 : decode cX1_takes 89 = .ok (.goto 4, 3) := by decide +kernel
theorem dX1_takes_92 : decode cX1_takes 92 = .ok (.iconst 0, 1) := by decide +kernel
theorem dX1_takes_93 : decode cX1_takes 93 = .ok (.ireturn, 1) := by decide +kernel
theorem dX1_takes_94 : decode cX1_takes 94 = .ok (.aload_n 0, 1) := by decide +kernel
theorem dX1_takes_95 : decode cX1_takes 95 = .ok (.iload_n 1, 1) := by decide +kernel
theorem dX1_takes_96 : decode cX1_takes 96 = .ok (.invokevirtual 35, 3) := by decide +kernel
theorem dX1_takes_99 : decode cX1_takes 99 = .ok (.ireturn, 1) := by decide +kernel
theorem dX1_takes_100 : decode cX1_takes 100 = .ok (.aload_n 0, 1) := by decide +kernel
theorem dX1_takes_101 : decode cX1_takes 101 = .ok (.iload_n 1, 1) := by decide +kernel
theorem dX1_takes_102 : decode cX1_takes 102 = .ok (.bipush 119, 2) := by decide +kernel
theorem dX1_takes_104 : decode cX1_takes 104 = .ok (.iconst 4, 1) := by decide +kernel
theorem dX1_takes_105 : decode cX1_takes 105 = .ok (.invokevirtual 28, 3) := by decide +kernel
theorem dX1_takes_108 : decode cX1_takes 108 = .ok (.ifCond .ne 11, 3) := by decide +kernel
theorem dX1_takes_111 : decode cX1_takes 111 = .ok (.aload_n 0, 1) := by decide +kernel
theorem dX1_takes_112 : decode cX1_takes 112 = .ok (.iload_n 1, 1) := by decide +kernel
theorem dX1_takes_113 : decode cX1_takes 113 = .ok (.invokevirtual 32, 3) := by decide +kernel
theorem dX1_takes_116 : decode cX1_takes 116 = .ok (.ifCond .eq 7, 3) := by decide +kernel
theorem dX1_takes_119 : decode cX1_takes 119 = .ok (.iconst 1, 1) := by decide +kernel
theorem dX1_takes_120 : decode cX1_takes 120 = .ok (.goto 4, 3) := by decide +kernel
theorem dX1_takes_123 : decode cX1_takes 123 = .ok (.iconst 0, 1) := by decide +kernel
theorem dX1_takes_124 : decode cX1_takes 124 = .ok (.ireturn, 1) := by decide +kernel
theorem dX1_takes_125 : decode cX1_takes 125 = .ok (.iload_n 1, 1) := by decide +kernel
theorem dX1_takes_126 : decode cX1_takes 126 = .ok (.bipush 48, 2) := by decide +kernel
theorem dX1_takes_128 : decode cX1_takes 128 = .ok (.if_icmp .eq 17, 3) := by decide +kernel
theorem dX1_takes_131 : decode cX1_takes 131 = .ok (.aload_n 0, 1) := by decide +kernel
theorem dX1_takes_132 : decode cX1_takes 132 = .ok (.iload_n 1, 1) := by decide +kernel
theorem dX1_takes_133 : decode cX1_takes 133 = .ok (.iconst 0, 1) := by decide +kernel
theorem dX1_takes_134 : decode cX1_takes 134 = .ok (.iconst 5, 1) := by decide +kernel
theorem dX1_takes_135 : decode cX1_takes 135 = .ok (.invokevirtual 38, 3) := by decide +kernel
theorem dX1_takes_138 : decode cX1_takes 138 = .ok (.ifCond .eq 7, 3) := by decide +kernel
theorem dX1_takes_141 : decode cX1_takes 141 = .ok (.iconst 1, 1) := by decide +kernel
theorem dX1_takes_142 : decode cX1_takes 142 = .ok (.goto 4, 3) := by decide +kernel
theorem dX1_takes_145 : decode cX1_takes 145 = .ok (.iconst 0, 1) := by decide +kernel
theorem dX1_takes_146 : decode cX1_takes 146 = .ok (.ireturn, 1) := by decide +kernel
theorem dX1_takes_147 : decode cX1_takes 147 = .ok (.aload_n 0, 1) := by decide +kernel
theorem dX1_takes_148 : decode cX1_takes 148 = .ok (.iload_n 1, 1) := by decide +kernel
theorem dX1_takes_149 : decode cX1_takes 149 = .ok (.aload_n 0, 1) := by decide +kernel
theorem dX1_takes_150 : decode cX1_takes 150 = .ok (.getfield 21, 3) := by decide +kernel
theorem dX1_takes_153 : decode cX1_takes 153 = .ok (.bipush 10, 2) := by decide +kernel
theorem dX1_takes_155 : decode cX1_takes 155 = .ok (.imul, 1) := by decide +kernel
theorem dX1_takes_156 : decode cX1_takes 156 = .ok (.bipush 6, 2) := by decide +kernel
theorem dX1_takes_158 : decode cX1_takes 158 = .ok (.invokevirtual 38, 3) := by decide +kernel
theorem dX1_takes_161 : decode cX1_takes 161 = .ok (.ifCond .ne 11, 3) := by decide +kernel
theorem dX1_takes_164 : decode cX1_takes 164 = .ok (.aload_n 0, 1) := by decide +kernel
theorem dX1_takes_165 : decode cX1_takes 165 = .ok (.iload_n 1, 1) := by decide +kernel
theorem dX1_takes_166 : decode cX1_takes 166 = .ok (.invokevirtual 32, 3) := by decide +kernel
theorem dX1_takes_169 : decode cX1_takes 169 = .ok (.ifCond .eq 7, 3) := by decide +kernel
theorem dX1_takes_172 : decode cX1_takes 172 = .ok (.iconst 1, 1) := by decide +kernel
theorem dX1_takes_173 : decode cX1_takes 173 = .ok (.goto 4, 3) := by decide +kernel
theorem dX1_takes_176 : decode cX1_takes 176 = .ok (.iconst 0, 1) := by decide +kernel
theorem dX1_takes_177 : decode cX1_takes 177 = .ok (.ireturn, 1) := by decide +kernel
theorem dX1_takes_178 : decode cX1_takes 178 = .ok (.aload_n 0, 1) := by decide +kernel
theorem dX1_takes_179 : decode cX1_takes 179 = .ok (.iload_n 1, 1) := by decide +kernel
theorem dX1_takes_180 : decode cX1_takes 180 = .ok (.invokevirtual 32, 3) := by decide +kernel
theorem dX1_takes_183 : decode cX1_takes 183 = .ok (.ireturn, 1) := by decide +kernel
theorem dX1_takesPlot_0 : decode cX1_takesPlot 0 = .ok (.iload_n 1, 1) := by decide +kernel
theorem dX1_takesPlot_1 : decode cX1_takesPlot 1 = .ok (.bipush 48, 2) := by decide +kernel
theorem dX1_takesPlot_3 : decode cX1_takesPlot 3 = .ok (.isub, 1) := by decide +kernel
theorem dX1_takesPlot_4 : decode cX1_takesPlot 4 = .ok (.istore_n 2, 1) := by decide +kernel
theorem dX1_takesPlot_5 : decode cX1_takesPlot 5 = .ok (.iload_n 2, 1) := by decide +kernel
theorem dX1_takesPlot_6 : decode cX1_takesPlot 6 = .ok (.ifCond .lt 18, 3) := by decide +kernel
theorem dX1_takesPlot_9 : decode cX1_takesPlot 9 = .ok (.iload_n 2, 1) := by decide +kernel
theorem dX1_takesPlot_10 : decode cX1_takesPlot 10 = .ok (.bipush 6, 2) := by decide +kernel
theorem dX1_takesPlot_12 : decode cX1_takesPlot 12 = .ok (.if_icmp .ge 12, 3) := by decide +kernel
theorem dX1_takesPlot_15 : decode cX1_takesPlot 15 = .ok (.aload_n 0, 1) := by decide +kernel
theorem dX1_takesPlot_16 : decode cX1_takesPlot 16 = .ok (.getfield 15, 3) := by decide +kernel
theorem dX1_takesPlot_19 : decode cX1_takesPlot 19 = .ok (.iload_n 2, 1) := by decide +kernel
theorem dX1_takesPlot_20 : decode cX1_takesPlot 20 = .ok (.ishr, 1) := by decide +kernel
theorem dX1_takesPlot_21 : decode cX1_takesPlot 21 = .ok (.ifCond .eq 5, 3) := by decide +kernel
theorem dX1_takesPlot_24 : decode cX1_takesPlot 24 = .ok (.iconst 0, 1) := by decide +kernel
theorem dX1_takesPlot_25 : decode cX1_takesPlot 25 = .ok (.ireturn, 1) := by decide +kernel
theorem dX1_takesPlot_26 : decode cX1_takesPlot 26 = .ok (.aload_n 0, 1) := by decide +kernel
theorem dX1_takesPlot_27 : decode cX1_takesPlot 27 = .ok (.dup, 1) := by decide +kernel
theorem dX1_takesPlot_28 : decode cX1_takesPlot 28 = .ok (.getfield 15, 3) := by decide +kernel
theorem dX1_takesPlot_31 : decode cX1_takesPlot 31 = .ok (.iconst 1, 1) := by decide +kernel
theorem dX1_takesPlot_32 : decode cX1_takesPlot 32 = .ok (.iload_n 2, 1) := by decide +kernel
theorem dX1_takesPlot_33 : decode cX1_takesPlot 33 = .ok (.ishl, 1) := by decide +kernel
theorem dX1_takesPlot_34 : decode cX1_takesPlot 34 = .ok (.ior, 1) := by decide +kernel
theorem dX1_takesPlot_35 : decode cX1_takesPlot 35 = .ok (.putfield 15, 3) := by decide +kernel
theorem dX1_takesPlot_38 : decode cX1_takesPlot 38 = .ok (.aload_n 0, 1) := by decide +kernel
theorem dX1_takesPlot_39 : decode cX1_takesPlot 39 = .ok (.iconst 1, 1) := by decide +kernel
theorem dX1_takesPlot_40 : decode cX1_takesPlot 40 = .ok (.putfield 11, 3) := by decide +kernel
theorem dX1_takesPlot_43 : decode cX1_takesPlot 43 = .ok (.iconst 1, 1) := by decide +kernel
theorem dX1_takesPlot_44 : decode cX1_takesPlot 44 = .ok (.ireturn, 1) := by decide +kernel
theorem dX1_takesCliff_0 : decode cX1_takesCliff 0 = .ok (.iload_n 1, 1) := by decide +kernel
theorem dX1_takesCliff_1 : decode cX1_takesCliff 1 = .ok (.bipush 48, 2) := by decide +kernel
theorem dX1_takesCliff_3 : decode cX1_takesCliff 3 = .ok (.isub, 1) := by decide +kernel
theorem dX1_takesCliff_4 : decode cX1_takesCliff 4 = .ok (.istore_n 2, 1) := by decide +kernel
theorem dX1_takesCliff_5 : decode cX1_takesCliff 5 = .ok (.iload_n 2, 1) := by decide +kernel
theorem dX1_takesCliff_6 : decode cX1_takesCliff 6 = .ok (.ifCond .lt 20, 3) := by decide +kernel
theorem dX1_takesCliff_9 : decode cX1_takesCliff 9 = .ok (.iload_n 2, 1) := by decide +kernel
theorem dX1_takesCliff_10 : decode cX1_takesCliff 10 = .ok (.bipush 6, 2) := by decide +kernel
theorem dX1_takesCliff_12 : decode cX1_takesCliff 12 = .ok (.if_icmp .ge 14, 3) := by decide +kernel
theorem dX1_takesCliff_15 : decode cX1_takesCliff 15 = .ok (.aload_n 0, 1) := by decide +kernel
theorem dX1_takesCliff_16 : decode cX1_takesCliff 16 = .ok (.getfield 15, 3) := by decide +kernel
theorem dX1_takesCliff_19 : decode cX1_takesCliff 19 = .ok (.iload_n 2, 1) := by decide +kernel
theorem dX1_takesCliff_20 : decode cX1_takesCliff 20 = .ok (.invokestatic 42, 3) := by decide +kernel
theorem dX1_takesCliff_23 : decode cX1_takesCliff 23 = .ok (.ifCond .ne 5, 3) := by decide +kernel
theorem dX1_takesCliff_26 : decode cX1_takesCliff 26 = .ok (.iconst 0, 1) := by decide +kernel
theorem dX1_takesCliff_27 : decode cX1_takesCliff 27 = .ok (.ireturn, 1) := by decide +kernel
theorem dX1_takesCliff_28 : decode cX1_takesCliff 28 = .ok (.aload_n 0, 1) := by decide +kernel
theorem dX1_takesCliff_29 : decode cX1_takesCliff 29 = .ok (.iload_n 2, 1) := by decide +kernel
theorem dX1_takesCliff_30 : decode cX1_takesCliff 30 = .ok (.putfield 18, 3) := by decide +kernel
theorem dX1_takesCliff_33 : decode cX1_takesCliff 33 = .ok (.aload_n 0, 1) := by decide +kernel
theorem dX1_takesCliff_34 : decode cX1_takesCliff 34 = .ok (.iconst 3, 1) := by decide +kernel
theorem dX1_takesCliff_35 : decode cX1_takesCliff 35 = .ok (.putfield 11, 3) := by decide +kernel
theorem dX1_takesCliff_38 : decode cX1_takesCliff 38 = .ok (.iconst 1, 1) := by decide +kernel
theorem dX1_takesCliff_39 : decode cX1_takesCliff 39 = .ok (.ireturn, 1) := by decide +kernel
theorem dX1_takesDigit_0 : decode cX1_takesDigit 0 = .ok (.iload_n 1, 1) := by decide +kernel
theorem dX1_takesDigit_1 : decode cX1_takesDigit 1 = .ok (.bipush 48, 2) := by decide +kernel
theorem dX1_takesDigit_3 : decode cX1_takesDigit 3 = .ok (.if_icmp .lt 9, 3) := by decide +kernel
theorem dX1_takesDigit_6 : decode cX1_takesDigit 6 = .ok (.iload_n 1, 1) := by decide +kernel
theorem dX1_takesDigit_7 : decode cX1_takesDigit 7 = .ok (.bipush 57, 2) := by decide +kernel
theorem dX1_takesDigit_9 : decode cX1_takesDigit 9 = .ok (.if_icmp .le 5, 3) := by decide +kernel
theorem dX1_takesDigit_12 : decode cX1_takesDigit 12 = .ok (.iconst 0, 1) := by decide +kernel
theorem dX1_takesDigit_13 : decode cX1_takesDigit 13 = .ok (.ireturn, 1) := by decide +kernel
theorem dX1_takesDigit_14 : decode cX1_takesDigit 14 = .ok (.aload_n 0, 1) := by decide +kernel
theorem dX1_takesDigit_15 : decode cX1_takesDigit 15 = .ok (.iload_n 2, 1) := by decide +kernel
theorem dX1_takesDigit_16 : decode cX1_takesDigit 16 = .ok (.iload_n 1, 1) := by decide +kernel
theorem dX1_takesDigit_17 : decode cX1_takesDigit 17 = .ok (.iadd, 1) := by decide +kernel
theorem dX1_takesDigit_18 : decode cX1_takesDigit 18 = .ok (.bipush 48, 2) := by decide +kernel
theorem dX1_takesDigit_20 : decode cX1_takesDigit 20 = .ok (.isub, 1) := by decide +kernel
theorem dX1_takesDigit_21 : decode cX1_takesDigit 21 = .ok (.putfield 21, 3) := by decide +kernel
theorem dX1_takesDigit_24 : decode cX1_takesDigit 24 = .ok (.aload_n 0, 1) := by decide +kernel
theorem dX1_takesDigit_25 : decode cX1_takesDigit 25 = .ok (.iload_n 3, 1) := by decide +kernel
theorem dX1_takesDigit_26 : decode cX1_takesDigit 26 = .ok (.putfield 11, 3) := by decide +kernel
theorem dX1_takesDigit_29 : decode cX1_takesDigit 29 = .ok (.iconst 1, 1) := by decide +kernel
theorem dX1_takesDigit_30 : decode cX1_takesDigit 30 = .ok (.ireturn, 1) := by decide +kernel
theorem dX1_takesSign_0 : decode cX1_takesSign 0 = .ok (.iload_n 1, 1) := by decide +kernel
theorem dX1_takesSign_1 : decode cX1_takesSign 1 = .ok (.iload_n 2, 1) := by decide +kernel
theorem dX1_takesSign_2 : decode cX1_takesSign 2 = .ok (.if_icmp .eq 5, 3) := by decide +kernel
theorem dX1_takesSign_5 : decode cX1_takesSign 5 = .ok (.iconst 0, 1) := by decide +kernel
theorem dX1_takesSign_6 : decode cX1_takesSign 6 = .ok (.ireturn, 1) := by decide +kernel
theorem dX1_takesSign_7 : decode cX1_takesSign 7 = .ok (.aload_n 0, 1) := by decide +kernel
theorem dX1_takesSign_8 : decode cX1_takesSign 8 = .ok (.iload_n 3, 1) := by decide +kernel
theorem dX1_takesSign_9 : decode cX1_takesSign 9 = .ok (.putfield 11, 3) := by decide +kernel
theorem dX1_takesSign_12 : decode cX1_takesSign 12 = .ok (.iconst 1, 1) := by decide +kernel
theorem dX1_takesSign_13 : decode cX1_takesSign 13 = .ok (.ireturn, 1) := by decide +kernel
theorem dX1_takesEnd_0 : decode cX1_takesEnd 0 = .ok (.iload_n 1, 1) := by decide +kernel
theorem dX1_takesEnd_1 : decode cX1_takesEnd 1 = .ok (.bipush 59, 2) := by decide +kernel
theorem dX1_takesEnd_3 : decode cX1_takesEnd 3 = .ok (.if_icmp .eq 5, 3) := by decide +kernel
theorem dX1_takesEnd_6 : decode cX1_takesEnd 6 = .ok (.iconst 0, 1) := by decide +kernel
theorem dX1_takesEnd_7 : decode cX1_takesEnd 7 = .ok (.ireturn, 1) := by decide +kernel
theorem dX1_takesEnd_8 : decode cX1_takesEnd 8 = .ok (.aload_n 0, 1) := by decide +kernel
theorem dX1_takesEnd_9 : decode cX1_takesEnd 9 = .ok (.invokevirtual 46, 3) := by decide +kernel
theorem dX1_takesEnd_12 : decode cX1_takesEnd 12 = .ok (.iconst 1, 1) := by decide +kernel
theorem dX1_takesEnd_13 : decode cX1_takesEnd 13 = .ok (.ireturn, 1) := by decide +kernel
theorem dX2_init_0 : decode cX2_init 0 = .ok (.aload_n 0, 1) := by decide +kernel
theorem dX2_init_1 : decode cX2_init 1 = .ok (.invokespecial 3, 3) := by decide +kernel
theorem dX2_init_4 : decode cX2_init 4 = .ok (.aload_n 0, 1) := by decide +kernel
theorem dX2_init_5 : decode cX2_init 5 = .ok (.bipush 6, 2) := by decide +kernel
theorem dX2_init_7 : decode cX2_init 7 = .ok (.anewarray 9, 3) := by decide +kernel
theorem dX2_init_10 : decode cX2_init 10 = .ok (.putfield 11, 3) := by decide +kernel
theorem dX2_init_13 : decode cX2_init 13 = .ok (.return_, 1) := by decide +kernel
theorem dX2_keep_0 : decode cX2_keep 0 = .ok (.aload_n 0, 1) := by decide +kernel
theorem dX2_keep_1 : decode cX2_keep 1 = .ok (.getfield 17, 3) := by decide +kernel
theorem dX2_keep_4 : decode cX2_keep 4 = .ok (.bipush 6, 2) := by decide +kernel
theorem dX2_keep_6 : decode cX2_keep 6 = .ok (.if_icmp .lt 26, 3) := by decide +kernel
theorem dX2_keep_9 : decode cX2_keep 9 = .ok (.aload_n 0, 1) := by decide +kernel
theorem dX2_keep_10 : decode cX2_keep 10 = .ok (.aload_n 0, 1) := by decide +kernel
theorem dX2_keep_11 : decode cX2_keep 11 = .ok (.getfield 21, 3) := by decide +kernel
theorem dX2_keep_14 : decode cX2_keep 14 = .ok (.iconst 1, 1) := by decide +kernel
theorem dX2_keep_15 : decode cX2_keep 15 = .ok (.iadd, 1) := by decide +kernel
theorem dX2_keep_16 : decode cX2_keep 16 = .ok (.bipush 6, 2) := by decide +kernel
theorem dX2_keep_18 : decode cX2_keep 18 = .ok (.irem, 1) := by decide +kernel
theorem dX2_keep_19 : decode cX2_keep 19 = .ok (.putfield 21, 3) := by decide +kernel
theorem dX2_keep_22 : decode cX2_keep 22 = .ok (.aload_n 0, 1) := by decide +kernel
theorem dX2_keep_23 : decode cX2_keep 23 = .ok (.dup, 1) := by decide +kernel
theorem dX2_keep_24 : decode cX2_keep 24 = .ok (.getfield 17, 3) := by decide +kernel
theorem dX2_keep_27 : decode cX2_keep 27 = .ok (.iconst 1, 1) := by decide +kernel
theorem dX2_keep_28 : decode cX2_keep 28 = .ok (.isub, 1) := by decide +kernel
theorem dX2_keep_29 : decode cX2_keep 29 = .ok (.putfield 17, 3) := by decide +kernel
theorem dX2_keep_32 : decode cX2_keep 32 = .ok (.aload_n 0, 1) := by decide +kernel
theorem dX2_keep_33 : decode cX2_keep 33 = .ok (.getfield 21, 3) := by decide +kernel
theorem dX2_keep_36 : decode cX2_keep 36 = .ok (.aload_n 0, 1) := by decide +kernel
theorem dX2_keep_37 : decode cX2_keep 37 = .ok (.getfield 17, 3) := by decide +kernel
theorem dX2_keep_40 : decode cX2_keep 40 = .ok (.iadd, 1) := by decide +kernel
theorem dX2_keep_41 : decode cX2_keep 41 = .ok (.bipush 6, 2) := by decide +kernel
theorem dX2_keep_43 : decode cX2_keep 43 = .ok (.irem, 1) := by decide +kernel
theorem dX2_keep_44 : decode cX2_keep 44 = .ok (.istore_n 2, 1) := by decide +kernel
theorem dX2_keep_45 : decode cX2_keep 45 = .ok (.aload_n 0, 1) := by decide +kernel
theorem dX2_keep_46 : decode cX2_keep 46 = .ok (.getfield 11, 3) := by decide +kernel
theorem dX2_keep_49 : decode cX2_keep 49 = .ok (.iload_n 2, 1) := by decide +kernel
theorem dX2_keep_50 : decode cX2_keep 50 = .ok (.aaload, 1) := by decide +kernel
theorem dX2_keep_51 : decode cX2_keep 51 = .ok (.astore_n 3, 1) := by decide +kernel
theorem dX2_keep_52 : decode cX2_keep 52 = .ok (.aload_n 3, 1) := by decide +kernel
theorem dX2_keep_53 : decode cX2_keep 53 = .ok (.ifnonnull 18, 3) := by decide +kernel
theorem dX2_keep_56 : decode cX2_keep 56 = .ok (.new 9, 3) := by decide +kernel
theorem dX2_keep_59 : decode cX2_keep 59 = .ok (.dup, 1) := by decide +kernel
theorem dX2_keep_60 : decode cX2_keep 60 = .ok (.invokespecial 24, 3) := by decide +kernel
theorem dX2_keep_63 : decode cX2_keep 63 = .ok (.astore_n 3, 1) := by decide +kernel
theorem dX2_keep_64 : decode cX2_keep 64 = .ok (.aload_n 0, 1) := by decide +kernel
theorem dX2_keep_65 : decode cX2_keep 65 = .ok (.getfield 11, 3) := by decide +kernel
theorem dX2_keep_68 : decode cX2_keep 68 = .ok (.iload_n 2, 1) := by decide +kernel
theorem dX2_keep_69 : decode cX2_keep 69 = .ok (.aload_n 3, 1) := by decide +kernel
theorem dX2_keep_70 : decode cX2_keep 70 = .ok (.aastore, 1) := by decide +kernel
theorem dX2_keep_71 : decode cX2_keep 71 = .ok (.aload_n 3, 1) := by decide +kernel
theorem dX2_keep_72 : decode cX2_keep 72 = .ok (.aload_n 1, 1) := by decide +kernel
theorem dX2_keep_73 : decode cX2_keep 73 = .ok (.invokevirtual 25, 3) := by decide +kernel
theorem dX2_keep_76 : decode cX2_keep 76 = .ok (.aload_n 0, 1) := by decide +kernel
theorem dX2_keep_77 : decode cX2_keep 77 = .ok (.dup, 1) := by decide +kernel
theorem dX2_keep_78 : decode cX2_keep 78 = .ok (.getfield 17, 3) := by decide +kernel
theorem dX2_keep_81 : decode cX2_keep 81 = .ok (.iconst 1, 1) := by decide +kernel
theorem dX2_keep_82 : decode cX2_keep 82 = .ok (.iadd, 1) := by decide +kernel
theorem dX2_keep_83 : decode cX2_keep 83 = .ok (.putfield 17, 3) := by decide +kernel
theorem dX2_keep_86 : decode cX2_keep 86 = .ok (.return_, 1) := by decide +kernel
theorem dX2_latest_0 : decode cX2_latest 0 = .ok (.aload_n 0, 1) := by decide +kernel
theorem dX2_latest_1 : decode cX2_latest 1 = .ok (.getfield 17, 3) := by decide +kernel
theorem dX2_latest_4 : decode cX2_latest 4 = .ok (.iconst 1, 1) := by decide +kernel
theorem dX2_latest_5 : decode cX2_latest 5 = .ok (.if_icmp .ge 5, 3) := by decide +kernel
theorem dX2_latest_8 : decode cX2_latest 8 = .ok (.aconst_null, 1) := by decide +kernel
theorem dX2_latest_9 : decode cX2_latest 9 = .ok (.areturn, 1) := by decide +kernel
theorem dX2_latest_10 : decode cX2_latest 10 = .ok (.aload_n 0, 1) := by decide +kernel
theorem dX2_latest_11 : decode cX2_latest 11 = .ok (.getfield 11, 3) := by decide +kernel
theorem dX2_latest_14 : decode cX2_latest 14 = .ok (.aload_n 0, 1) := by decide +kernel
theorem dX2_latest_15 : decode cX2_latest 15 = .ok (.getfield 21, 3) := by decide +kernel
theorem dX2_latest_18 : decode cX2_latest 18 = .ok (.aload_n 0, 1) := by decide +kernel
theorem dX2_latest_19 : decode cX2_latest 19 = .ok (.getfield 17, 3) := by decide +kernel
theorem dX2_latest_22 : decode cX2_latest 22 = .ok (.iadd, 1) := by decide +kernel
theorem dX2_latest_23 : decode cX2_latest 23 = .ok (.iconst 1, 1) := by decide +kernel
theorem dX2_latest_24 : decode cX2_latest 24 = .ok (.isub, 1) := by decide +kernel
theorem dX2_latest_25 : decode cX2_latest 25 = .ok (.bipush 6, 2) := by decide +kernel
theorem dX2_latest_27 : decode cX2_latest 27 = .ok (.irem, 1) := by decide +kernel
theorem dX2_latest_28 : decode cX2_latest 28 = .ok (.aaload, 1) := by decide +kernel
theorem dX2_latest_29 : decode cX2_latest 29 = .ok (.areturn, 1) := by decide +kernel
theorem dX2_dropLatest_0 : decode cX2_dropLatest 0 = .ok (.aload_n 0, 1) := by decide +kernel
theorem dX2_dropLatest_1 : decode cX2_dropLatest 1 = .ok (.dup, 1) := by decide +kernel
theorem dX2_dropLatest_2 : decode cX2_dropLatest 2 = .ok (.getfield 17, 3) := by decide +kernel
theorem dX2_dropLatest_5 : decode cX2_dropLatest 5 = .ok (.iconst 1, 1) := by decide +kernel
theorem dX2_dropLatest_6 : decode cX2_dropLatest 6 = .ok (.isub, 1) := by decide +kernel
theorem dX2_dropLatest_7 : decode cX2_dropLatest 7 = .ok (.putfield 17, 3) := by decide +kernel
theorem dX2_dropLatest_10 : decode cX2_dropLatest 10 = .ok (.return_, 1) := by decide +kernel
theorem dX3_init_0 : decode cX3_init 0 = .ok (.aload_n 0, 1) := by decide +kernel
theorem dX3_init_1 : decode cX3_init 1 = .ok (.invokespecial 3, 3) := by decide +kernel
theorem dX3_init_4 : decode cX3_init 4 = .ok (.aload_n 0, 1) := by decide +kernel
theorem dX3_init_5 : decode cX3_init 5 = .ok (.new 9, 3) := by decide +kernel
theorem dX3_init_8 : decode cX3_init 8 = .ok (.dup, 1) := by decide +kernel
theorem dX3_init_9 : decode cX3_init 9 = .ok (.invokespecial 11, 3) := by decide +kernel
theorem dX3_init_12 : decode cX3_init 12 = .ok (.putfield 12, 3) := by decide +kernel
theorem dX3_init_15 : decode cX3_init 15 = .ok (.aload_n 0, 1) := by decide +kernel
theorem dX3_init_16 : decode cX3_init 16 = .ok (.new 18, 3) := by decide +kernel
theorem dX3_init_19 : decode cX3_init 19 = .ok (.dup, 1) := by decide +kernel
theorem dX3_init_20 : decode cX3_init 20 = .ok (.invokespecial 20, 3) := by decide +kernel
theorem dX3_init_23 : decode cX3_init 23 = .ok (.putfield 21, 3) := by decide +kernel
theorem dX3_init_26 : decode cX3_init 26 = .ok (.aload_n 0, 1) := by decide +kernel
theorem dX3_init_27 : decode cX3_init 27 = .ok (.iconst 2, 1) := by decide +kernel
theorem dX3_init_28 : decode cX3_init 28 = .ok (.newarray .int, 2) := by decide +kernel
theorem dX3_init_30 : decode cX3_init 30 = .ok (.putfield 25, 3) := by decide +kernel
theorem dX3_init_33 : decode cX3_init 33 = .ok (.aload_n 0, 1) := by decide +kernel
theorem dX3_init_34 : decode cX3_init 34 = .ok (.getfield 25, 3) := by decide +kernel
theorem dX3_init_37 : decode cX3_init 37 = .ok (.iconst 0, 1) := by decide +kernel
theorem dX3_init_38 : decode cX3_init 38 = .ok (.iconst 4, 1) := by decide +kernel
theorem dX3_init_39 : decode cX3_init 39 = .ok (.iastore, 1) := by decide +kernel
theorem dX3_init_40 : decode cX3_init 40 = .ok (.aload_n 0, 1) := by decide +kernel
theorem dX3_init_41 : decode cX3_init 41 = .ok (.getfield 25, 3) := by decide +kernel
theorem dX3_init_44 : decode cX3_init 44 = .ok (.iconst 1, 1) := by decide +kernel
theorem dX3_init_45 : decode cX3_init 45 = .ok (.bipush 10, 2) := by decide +kernel
theorem dX3_init_47 : decode cX3_init 47 = .ok (.iastore, 1) := by decide +kernel
theorem dX3_init_48 : decode cX3_init 48 = .ok (.return_, 1) := by decide +kernel
theorem dX3_copyFrom_0 : decode cX3_copyFrom 0 = .ok (.aload_n 0, 1) := by decide +kernel
theorem dX3_copyFrom_1 : decode cX3_copyFrom 1 = .ok (.getfield 12, 3) := by decide +kernel
theorem dX3_copyFrom_4 : decode cX3_copyFrom 4 = .ok (.aload_n 1, 1) := by decide +kernel
theorem dX3_copyFrom_5 : decode cX3_copyFrom 5 = .ok (.getfield 12, 3) := by decide +kernel
theorem dX3_copyFrom_8 : decode cX3_copyFrom 8 = .ok (.invokevirtual 29, 3) := by decide +kernel
theorem dX3_copyFrom_11 : decode cX3_copyFrom 11 = .ok (.aload_n 0, 1) := by decide +kernel
theorem dX3_copyFrom_12 : decode cX3_copyFrom 12 = .ok (.getfield 21, 3) := by decide +kernel
theorem dX3_copyFrom_15 : decode cX3_copyFrom 15 = .ok (.aload_n 1, 1) := by decide +kernel
theorem dX3_copyFrom_16 : decode cX3_copyFrom 16 = .ok (.getfield 21, 3) := by decide +kernel
theorem dX3_copyFrom_19 : decode cX3_copyFrom 19 = .ok (.invokevirtual 33, 3) := by decide +kernel
theorem dX3_copyFrom_22 : decode cX3_copyFrom 22 = .ok (.aload_n 1, 1) := by decide +kernel
theorem dX3_copyFrom_23 : decode cX3_copyFrom 23 = .ok (.getfield 25, 3) := by decide +kernel
theorem dX3_copyFrom_26 : decode cX3_copyFrom 26 = .ok (.iconst 0, 1) := by decide +kernel
theorem dX3_copyFrom_27 : decode cX3_copyFrom 27 = .ok (.aload_n 0, 1) := by decide +kernel
theorem dX3_copyFrom_28 : decode cX3_copyFrom 28 = .ok (.getfield 25, 3) := by decide +kernel
theorem dX3_copyFrom_31 : decode cX3_copyFrom 31 = .ok (.iconst 0, 1) := by decide +kernel
theorem dX3_copyFrom_32 : decode cX3_copyFrom 32 = .ok (.iconst 2, 1) := by decide +kernel
theorem dX3_copyFrom_33 : decode cX3_copyFrom 33 = .ok (.invokestatic 36, 3) := by decide +kernel
theorem dX3_copyFrom_36 : decode cX3_copyFrom 36 = .ok (.aload_n 0, 1) := by decide +kernel
theorem dX3_copyFrom_37 : decode cX3_copyFrom 37 = .ok (.aload_n 1, 1) := by decide +kernel
theorem dX3_copyFrom_38 : decode cX3_copyFrom 38 = .ok (.getfield 42, 3) := by decide +kernel
theorem dX3_copyFrom_41 : decode cX3_copyFrom 41 = .ok (.putfield 42, 3) := by decide +kernel
theorem dX3_copyFrom_44 : decode cX3_copyFrom 44 = .ok (.aload_n 0, 1) := by decide +kernel
theorem dX3_copyFrom_45 : decode cX3_copyFrom 45 = .ok (.aload_n 1, 1) := by decide +kernel
theorem dX3_copyFrom_46 : decode cX3_copyFrom 46 = .ok (.getfield 46, 3) := by decide +kernel
theorem dX3_copyFrom_49 : decode cX3_copyFrom 49 = .ok (.putfield 46, 3) := by decide +kernel
theorem dX3_copyFrom_52 : decode cX3_copyFrom 52 = .ok (.return_, 1) := by decide +kernel
theorem dX3_missedParts_0 : decode cX3_missedParts 0 = .ok (.aload_n 0, 1) := by decide +kernel
theorem dX3_missedParts_1 : decode cX3_missedParts 1 = .ok (.getfield 12, 3) := by decide +kernel
theorem dX3_missedParts_4 : decode cX3_missedParts 4 = .ok (.iload_n 2, 1) := by decide +kernel
theorem dX3_missedParts_5 : decode cX3_missedParts 5 = .ok (.aload_n 0, 1) := by decide +kernel
theorem dX3_missedParts_6 : decode cX3_missedParts 6 = .ok (.getfield 21, 3) := by decide +kernel
theorem dX3_missedParts_9 : decode cX3_missedParts 9 = .ok (.iload_n 1, 1) := by decide +kernel
theorem dX3_missedParts_10 : decode cX3_missedParts 10 = .ok (.invokevirtual 49, 3) := by decide +kernel
theorem dX3_missedParts_13 : decode cX3_missedParts 13 = .ok (.iconst (-1), 1) := by decide +kernel
theorem dX3_missedParts_14 : decode cX3_missedParts 14 = .ok (.ixor, 1) := by decide +kernel
theorem dX3_missedParts_15 : decode cX3_missedParts 15 = .ok (.invokevirtual 53, 3) := by decide +kernel
theorem dX3_missedParts_18 : decode cX3_missedParts 18 = .ok (.ireturn, 1) := by decide +kernel
theorem dX3_toldParts_0 : decode cX3_toldParts 0 = .ok (.iload_n 1, 1) := by decide +kernel
theorem dX3_toldParts_1 : decode cX3_toldParts 1 = .ok (.istore_n 2, 1) := by decide +kernel
theorem dX3_toldParts_2 : decode cX3_toldParts 2 = .ok (.iload_n 1, 1) := by decide +kernel
theorem dX3_toldParts_3 : decode cX3_toldParts 3 = .ok (.invokestatic 57, 3) := by decide +kernel
theorem dX3_toldParts_6 : decode cX3_toldParts 6 = .ok (.aload_n 0, 1) := by decide +kernel
theorem dX3_toldParts_7 : decode cX3_toldParts 7 = .ok (.getfield 25, 3) := by decide +kernel
theorem dX3_toldParts_10 : decode cX3_toldParts 10 = .ok (.iconst 0, 1) := by decide +kernel
theorem dX3_toldParts_11 : decode cX3_toldParts 11 = .ok (.iaload, 1) := by decide +kernel
theorem dX3_toldParts_12 : decode cX3_toldParts 12 = .ok (.isub, 1) := by decide +kernel
theorem dX3_toldParts_13 : decode cX3_toldParts 13 = .ok (.istore_n 3, 1) := by decide +kernel
theorem dX3_toldParts_14 : decode cX3_toldParts 14 = .ok (.iconst 0, 1) := by decide +kernel
theorem dX3_toldParts_15 : decode cX3_toldParts 15 = .ok (.istore 4, 2) := by decide +kernel
theorem dX3_toldParts_17 : decode cX3_toldParts 17 = .ok (.iload 4, 2) := by decide +kernel
theorem dX3_toldParts_19 : decode cX3_toldParts 19 = .ok (.iload_n 3, 1) := by decide +kernel
theorem dX3_toldParts_20 : decode cX3_toldParts 20 = .ok (.if_icmp .ge 15, 3) := by decide +kernel
theorem dX3_toldParts_23 : decode cX3_toldParts 23 = .ok (.iload_n 2, 1) := by decide +kernel
theorem dX3_toldParts_24 : decode cX3_toldParts 24 = .ok (.iload_n 2, 1) := by decide +kernel
theorem dX3_toldParts_25 : decode cX3_toldParts 25 = .ok (.iconst 1, 1) := by decide +kernel
theorem dX3_toldParts_26 : decode cX3_toldParts 26 = .ok (.isub, 1) := by decide +kernel
theorem dX3_toldParts_27 : decode cX3_toldParts 27 = .ok (.iand, 1) := by decide +kernel
theorem dX3_toldParts_28 : decode cX3_toldParts 28 = .ok (.istore_n 2, 1) := by decide +kernel
theorem dX3_toldParts_29 : decode cX3_toldParts 29 = .ok (.iinc 4 1, 3) := by decide +kernel
theorem dX3_toldParts_32 : decode cX3_toldParts 32 = .ok (.goto (-15), 3) := by decide +kernel
theorem dX3_toldParts_35 : decode cX3_toldParts 35 = .ok (.iload_n 2, 1) := by decide +kernel
theorem dX3_toldParts_36 : decode cX3_toldParts 36 = .ok (.ireturn, 1) := by decide +kernel
theorem dX3_lineWords_0 : decode cX3_lineWords 0 = .ok (.iconst 0, 1) := by decide +kernel
theorem dX3_lineWords_1 : decode cX3_lineWords 1 = .ok (.istore_n 2, 1) := by decide +kernel
theorem dX3_lineWords_2 : decode cX3_lineWords 2 = .ok (.iconst 0, 1) := by decide +kernel
theorem dX3_lineWords_3 : decode cX3_lineWords 3 = .ok (.istore_n 3, 1) := by decide +kernel
theorem dX3_lineWords_4 : decode cX3_lineWords 4 = .ok (.iload_n 3, 1) := by decide +kernel
theorem dX3_lineWords_5 : decode cX3_lineWords 5 = .ok (.aload_n 0, 1) := by decide +kernel
theorem dX3_lineWords_6 : decode cX3_lineWords 6 = .ok (.getfield 12, 3) := by decide +kernel
theorem dX3_lineWords_9 : decode cX3_lineWords 9 = .ok (.getfield 62, 3) := by decide +kernel
theorem dX3_lineWords_12 : decode cX3_lineWords 12 = .ok (.if_icmp .ge 33, 3) := by decide +kernel
theorem dX3_lineWords_15 : decode cX3_lineWords 15 = .ok (.iload_n 1, 1) := by decide +kernel
theorem dX3_lineWords_16 : decode cX3_lineWords 16 = .ok (.iload_n 3, 1) := by decide +kernel
theorem dX3_lineWords_17 : decode cX3_lineWords 17 = .ok (.invokestatic 65, 3) := by decide +kernel
theorem dX3_lineWords_20 : decode cX3_lineWords 20 = .ok (.ifCond .eq 19, 3) := by decide +kernel
theorem dX3_lineWords_23 : decode cX3_lineWords 23 = .ok (.iload_n 2, 1) := by decide +kernel
theorem dX3_lineWords_24 : decode cX3_lineWords 24 = .ok (.aload_n 0, 1) := by decide +kernel
theorem dX3_lineWords_25 : decode cX3_lineWords 25 = .ok (.aload_n 0, 1) := by decide +kernel
theorem dX3_lineWords_26 : decode cX3_lineWords 26 = .ok (.getfield 12, 3) := by decide +kernel
theorem dX3_lineWords_29 : decode cX3_lineWords 29 = .ok (.getfield 69, 3) := by decide +kernel
theorem dX3_lineWords_32 : decode cX3_lineWords 32 = .ok (.iload_n 3, 1) := by decide +kernel
theorem dX3_lineWords_33 : decode cX3_lineWords 33 = .ok (.iaload, 1) := by decide +kernel
theorem dX3_lineWords_34 : decode cX3_lineWords 34 = .ok (.invokevirtual 72, 3) := by decide +kernel
theorem dX3_lineWords_37 : decode cX3_lineWords 37 = .ok (.iadd, 1) := by decide +kernel
theorem dX3_lineWords_38 : decode cX3_lineWords 38 = .ok (.istore_n 2, 1) := by decide +kernel
theorem dX3_lineWords_39 : decode cX3_lineWords 39 = .ok (.iinc 3 1, 3) := by decide +kernel
theorem dX3_lineWords_42 : decode cX3_lineWords 42 = .ok (.goto (-38), 3) := by decide +kernel
theorem dX3_lineWords_45 : decode cX3_lineWords 45 = .ok (.iload_n 2, 1) := by decide +kernel
theorem dX3_lineWords_46 : decode cX3_lineWords 46 = .ok (.ireturn, 1) := by decide +kernel
theorem dX3_shortened_0 : decode cX3_shortened 0 = .ok (.aload_n 0, 1) := by decide +kernel
theorem dX3_shortened_1 : decode cX3_shortened 1 = .ok (.getfield 25, 3) := by decide +kernel
theorem dX3_shortened_4 : decode cX3_shortened 4 = .ok (.iconst 1, 1) := by decide +kernel
theorem dX3_shortened_5 : decode cX3_shortened 5 = .ok (.iaload, 1) := by decide +kernel
theorem dX3_shortened_6 : decode cX3_shortened 6 = .ok (.istore_n 2, 1) := by decide +kernel
theorem dX3_shortened_7 : decode cX3_shortened 7 = .ok (.iload_n 2, 1) := by decide +kernel
theorem dX3_shortened_8 : decode cX3_shortened 8 = .ok (.iconst 1, 1) := by decide +kernel
theorem dX3_shortened_9 : decode cX3_shortened 9 = .ok (.if_icmp .ge 5, 3) := by decide +kernel
theorem dX3_shortened_12 : decode cX3_shortened 12 = .ok (.iload_n 1, 1) := by decide +kernel
theorem dX3_shortened_13 : decode cX3_shortened 13 = .ok (.ireturn, 1) := by decide +kernel
theorem dX3_shortened_14 : decode cX3_shortened 14 = .ok (.iload_n 1, 1) := by decide +kernel
theorem dX3_shortened_15 : decode cX3_shortened 15 = .ok (.iload_n 2, 1) := by decide +kernel
theorem dX3_shortened_16 : decode cX3_shortened 16 = .ok (.iadd, 1) := by decide +kernel
theorem dX3_shortened_17 : decode cX3_shortened 17 = .ok (.iconst 1, 1) := by decide +kernel
theorem dX3_shortened_18 : decode cX3_shortened 18 = .ok (.isub, 1) := by decide +kernel
theorem dX3_shortened_19 : decode cX3_shortened 19 = .ok (.iload_n 2, 1) := by decide +kernel
theorem dX3_shortened_20 : decode cX3_shortened 20 = .ok (.idiv, 1) := by decide +kernel
theorem dX3_shortened_21 : decode cX3_shortened 21 = .ok (.ireturn, 1) := by decide +kernel
theorem dX3_ofRecap_0 : decode cX3_ofRecap 0 = .ok (.aload_n 0, 1) := by decide +kernel
theorem dX3_ofRecap_1 : decode cX3_ofRecap 1 = .ok (.iload_n 1, 1) := by decide +kernel
theorem dX3_ofRecap_2 : decode cX3_ofRecap 2 = .ok (.iload_n 2, 1) := by decide +kernel
theorem dX3_ofRecap_3 : decode cX3_ofRecap 3 = .ok (.invokevirtual 75, 3) := by decide +kernel
theorem dX3_ofRecap_6 : decode cX3_ofRecap 6 = .ok (.istore 4, 2) := by decide +kernel
theorem dX3_ofRecap_8 : decode cX3_ofRecap 8 = .ok (.aload_n 0, 1) := by decide +kernel
theorem dX3_ofRecap_9 : decode cX3_ofRecap 9 = .ok (.iload 4, 2) := by decide +kernel
theorem dX3_ofRecap_11 : decode cX3_ofRecap 11 = .ok (.invokevirtual 78, 3) := by decide +kernel
theorem dX3_ofRecap_14 : decode cX3_ofRecap 14 = .ok (.istore 5, 2) := by decide +kernel
theorem dX3_ofRecap_16 : decode cX3_ofRecap 16 = .ok (.iload_n 3, 1) := by decide +kernel
theorem dX3_ofRecap_17 : decode cX3_ofRecap 17 = .ok (.tableswitch 59 0 3 #[31, 37, 44, 47], 31) := by decide +kernel
theorem dX3_ofRecap_48 : decode cX3_ofRecap 48 = .ok (.iload 5, 2) := by decide +kernel
theorem dX3_ofRecap_50 : decode cX3_ofRecap 50 = .ok (.invokestatic 57, 3) := by decide +kernel
theorem dX3_ofRecap_53 : decode cX3_ofRecap 53 = .ok (.ireturn, 1) := by decide +kernel
theorem dX3_ofRecap_54 : decode cX3_ofRecap 54 = .ok (.aload_n 0, 1) := by decide +kernel
theorem dX3_ofRecap_55 : decode cX3_ofRecap 55 = .ok (.iload 5, 2) := by decide +kernel
theorem dX3_ofRecap_57 : decode cX3_ofRecap 57 = .ok (.invokevirtual 81, 3) := by decide +kernel
theorem dX3_ofRecap_60 : decode cX3_ofRecap 60 = .ok (.ireturn, 1) := by decide +kernel
theorem dX3_ofRecap_61 : decode cX3_ofRecap 61 = .ok (.iload 5, 2) := by decide +kernel
theorem dX3_ofRecap_63 : decode cX3_ofRecap 63 = .ok (.ireturn, 1) := by decide +kernel
theorem dX3_ofRecap_64 : decode cX3_ofRecap 64 = .ok (.iload 4, 2) := by decide +kernel
theorem dX3_ofRecap_66 : decode cX3_ofRecap 66 = .ok (.invokestatic 57, 3) := by decide +kernel
theorem dX3_ofRecap_69 : decode cX3_ofRecap 69 = .ok (.iload 5, 2) := by decide +kernel
theorem dX3_ofRecap_71 : decode cX3_ofRecap 71 = .ok (.invokestatic 57, 3) := by decide +kernel
theorem dX3_ofRecap_74 : decode cX3_ofRecap 74 = .ok (.isub, 1) := by decide +kernel
theorem dX3_ofRecap_75 : decode cX3_ofRecap 75 = .ok (.ireturn, 1) := by decide +kernel
theorem dX3_ofRecap_76 : decode cX3_ofRecap 76 = .ok (.aload_n 0, 1) := by decide +kernel
theorem dX3_ofRecap_77 : decode cX3_ofRecap 77 = .ok (.getfield 12, 3) := by decide +kernel
theorem dX3_ofRecap_80 : decode cX3_ofRecap 80 = .ok (.getfield 69, 3) := by decide +kernel
theorem dX3_ofRecap_83 : decode cX3_ofRecap 83 = .ok (.iload_n 2, 1) := by decide +kernel
theorem dX3_ofRecap_84 : decode cX3_ofRecap 84 = .ok (.iaload, 1) := by decide +kernel
theorem dX3_ofRecap_85 : decode cX3_ofRecap 85 = .ok (.aload_n 0, 1) := by decide +kernel
theorem dX3_ofRecap_86 : decode cX3_ofRecap 86 = .ok (.iload 5, 2) := by decide +kernel
theorem dX3_ofRecap_88 : decode cX3_ofRecap 88 = .ok (.invokevirtual 81, 3) := by decide +kernel
theorem dX3_ofRecap_91 : decode cX3_ofRecap 91 = .ok (.iadd, 1) := by decide +kernel
theorem dX3_ofRecap_92 : decode cX3_ofRecap 92 = .ok (.ireturn, 1) := by decide +kernel
theorem dX3_deliver_0 : decode cX3_deliver 0 = .ok (.aload_n 0, 1) := by decide +kernel
theorem dX3_deliver_1 : decode cX3_deliver 1 = .ok (.iload_n 1, 1) := by decide +kernel
theorem dX3_deliver_2 : decode cX3_deliver 2 = .ok (.iload_n 2, 1) := by decide +kernel
theorem dX3_deliver_3 : decode cX3_deliver 3 = .ok (.invokevirtual 75, 3) := by decide +kernel
theorem dX3_deliver_6 : decode cX3_deliver 6 = .ok (.istore_n 3, 1) := by decide +kernel
theorem dX3_deliver_7 : decode cX3_deliver 7 = .ok (.aload_n 0, 1) := by decide +kernel
theorem dX3_deliver_8 : decode cX3_deliver 8 = .ok (.iload_n 3, 1) := by decide +kernel
theorem dX3_deliver_9 : decode cX3_deliver 9 = .ok (.invokevirtual 78, 3) := by decide +kernel
theorem dX3_deliver_12 : decode cX3_deliver 12 = .ok (.istore 4, 2) := by decide +kernel
theorem dX3_deliver_14 : decode cX3_deliver 14 = .ok (.iload 4, 2) := by decide +kernel
theorem dX3_deliver_16 : decode cX3_deliver 16 = .ok (.invokestatic 57, 3) := by decide +kernel
theorem dX3_deliver_19 : decode cX3_deliver 19 = .ok (.istore 5, 2) := by decide +kernel
theorem dX3_deliver_21 : decode cX3_deliver 21 = .ok (.aload_n 0, 1) := by decide +kernel
theorem dX3_deliver_22 : decode cX3_deliver 22 = .ok (.getfield 21, 3) := by decide +kernel
theorem dX3_deliver_25 : decode cX3_deliver 25 = .ok (.iload_n 1, 1) := by decide +kernel
theorem dX3_deliver_26 : decode cX3_deliver 26 = .ok (.iload_n 2, 1) := by decide +kernel
theorem dX3_deliver_27 : decode cX3_deliver 27 = .ok (.iload 4, 2) := by decide +kernel
theorem dX3_deliver_29 : decode cX3_deliver 29 = .ok (.invokevirtual 84, 3) := by decide +kernel
theorem dX3_deliver_32 : decode cX3_deliver 32 = .ok (.aload_n 0, 1) := by decide +kernel
theorem dX3_deliver_33 : decode cX3_deliver 33 = .ok (.getfield 21, 3) := by decide +kernel
theorem dX3_deliver_36 : decode cX3_deliver 36 = .ok (.getfield 88, 3) := by decide +kernel
theorem dX3_deliver_39 : decode cX3_deliver 39 = .ok (.iload_n 1, 1) := by decide +kernel
theorem dX3_deliver_40 : decode cX3_deliver 40 = .ok (.dup2, 1) := by decide +kernel
theorem dX3_deliver_41 : decode cX3_deliver 41 = .ok (.iaload, 1) := by decide +kernel
theorem dX3_deliver_42 : decode cX3_deliver 42 = .ok (.aload_n 0, 1) := by decide +kernel
theorem dX3_deliver_43 : decode cX3_deliver 43 = .ok (.getfield 12, 3) := by decide +kernel
theorem dX3_deliver_46 : decode cX3_deliver 46 = .ok (.getfield 69, 3) := by decide +kernel
theorem dX3_deliver_49 : decode cX3_deliver 49 = .ok (.iload_n 2, 1) := by decide +kernel
theorem dX3_deliver_50 : decode cX3_deliver 50 = .ok (.iaload, 1) := by decide +kernel
theorem dX3_deliver_51 : decode cX3_deliver 51 = .ok (.aload_n 0, 1) := by decide +kernel
theorem dX3_deliver_52 : decode cX3_deliver 52 = .ok (.iload 4, 2) := by decide +kernel
theorem dX3_deliver_54 : decode cX3_deliver 54 = .ok (.invokevirtual 81, 3) := by decide +kernel
theorem dX3_deliver_57 : decode cX3_deliver 57 = .ok (.iadd, 1) := by decide +kernel
theorem dX3_deliver_58 : decode cX3_deliver 58 = .ok (.iadd, 1) := by decide +kernel
theorem dX3_deliver_59 : decode cX3_deliver 59 = .ok (.iastore, 1) := by decide +kernel
theorem dX3_deliver_60 : decode cX3_deliver 60 = .ok (.aload_n 0, 1) := by decide +kernel
theorem dX3_deliver_61 : decode cX3_deliver 61 = .ok (.getfield 21, 3) := by decide +kernel
theorem dX3_deliver_64 : decode cX3_deliver 64 = .ok (.getfield 91, 3) := by decide +kernel
theorem dX3_deliver_67 : decode cX3_deliver 67 = .ok (.iload_n 1, 1) := by decide +kernel
theorem dX3_deliver_68 : decode cX3_deliver 68 = .ok (.dup2, 1) := by decide +kernel
theorem dX3_deliver_69 : decode cX3_deliver 69 = .ok (.iaload, 1) := by decide +kernel
theorem dX3_deliver_70 : decode cX3_deliver 70 = .ok (.iload 5, 2) := by decide +kernel
theorem dX3_deliver_72 : decode cX3_deliver 72 = .ok (.iadd, 1) := by decide +kernel
theorem dX3_deliver_73 : decode cX3_deliver 73 = .ok (.iastore, 1) := by decide +kernel
theorem dX3_deliver_74 : decode cX3_deliver 74 = .ok (.aload_n 0, 1) := by decide +kernel
theorem dX3_deliver_75 : decode cX3_deliver 75 = .ok (.getfield 21, 3) := by decide +kernel
theorem dX3_deliver_78 : decode cX3_deliver 78 = .ok (.getfield 94, 3) := by decide +kernel
theorem dX3_deliver_81 : decode cX3_deliver 81 = .ok (.iload_n 1, 1) := by decide +kernel
theorem dX3_deliver_82 : decode cX3_deliver 82 = .ok (.dup2, 1) := by decide +kernel
theorem dX3_deliver_83 : decode cX3_deliver 83 = .ok (.iaload, 1) := by decide +kernel
theorem dX3_deliver_84 : decode cX3_deliver 84 = .ok (.iload_n 3, 1) := by decide +kernel
theorem dX3_deliver_85 : decode cX3_deliver 85 = .ok (.invokestatic 57, 3) := by decide +kernel
theorem dX3_deliver_88 : decode cX3_deliver 88 = .ok (.iload 5, 2) := by decide +kernel
theorem dX3_deliver_90 : decode cX3_deliver 90 = .ok (.isub, 1) := by decide +kernel
theorem dX3_deliver_91 : decode cX3_deliver 91 = .ok (.iadd, 1) := by decide +kernel
theorem dX3_deliver_92 : decode cX3_deliver 92 = .ok (.iastore, 1) := by decide +kernel
theorem dX3_deliver_93 : decode cX3_deliver 93 = .ok (.aload_n 0, 1) := by decide +kernel
theorem dX3_deliver_94 : decode cX3_deliver 94 = .ok (.dup, 1) := by decide +kernel
theorem dX3_deliver_95 : decode cX3_deliver 95 = .ok (.getfield 42, 3) := by decide +kernel
theorem dX3_deliver_98 : decode cX3_deliver 98 = .ok (.iconst 1, 1) := by decide +kernel
theorem dX3_deliver_99 : decode cX3_deliver 99 = .ok (.iadd, 1) := by decide +kernel
theorem dX3_deliver_100 : decode cX3_deliver 100 = .ok (.putfield 42, 3) := by decide +kernel
theorem dX3_deliver_103 : decode cX3_deliver 103 = .ok (.iload 5, 2) := by decide +kernel
theorem dX3_deliver_105 : decode cX3_deliver 105 = .ok (.ireturn, 1) := by decide +kernel
theorem dX3_deliverToAll_0 : decode cX3_deliverToAll 0 = .ok (.iconst 0, 1) := by decide +kernel
theorem dX3_deliverToAll_1 : decode cX3_deliverToAll 1 = .ok (.istore_n 3, 1) := by decide +kernel
theorem dX3_deliverToAll_2 : decode cX3_deliverToAll 2 = .ok (.iconst 0, 1) := by decide +kernel
theorem dX3_deliverToAll_3 : decode cX3_deliverToAll 3 = .ok (.istore 4, 2) := by decide +kernel
theorem dX3_deliverToAll_5 : decode cX3_deliverToAll 5 = .ok (.iload 4, 2) := by decide +kernel
theorem dX3_deliverToAll_7 : decode cX3_deliverToAll 7 = .ok (.bipush 6, 2) := by decide +kernel
theorem dX3_deliverToAll_9 : decode cX3_deliverToAll 9 = .ok (.if_icmp .ge 55, 3) := by decide +kernel
theorem dX3_deliverToAll_12 : decode cX3_deliverToAll 12 = .ok (.aload_n 0, 1) := by decide +kernel
theorem dX3_deliverToAll_13 : decode cX3_deliverToAll 13 = .ok (.getfield 21, 3) := by decide +kernel
theorem dX3_deliverToAll_16 : decode cX3_deliverToAll 16 = .ok (.iload 4, 2) := by decide +kernel
theorem dX3_deliverToAll_18 : decode cX3_deliverToAll 18 = .ok (.iload_n 1, 1) := by decide +kernel
theorem dX3_deliverToAll_19 : decode cX3_deliverToAll 19 = .ok (.invokevirtual 97, 3) := by decide +kernel
theorem dX3_deliverToAll_22 : decode cX3_deliverToAll 22 = .ok (.ifCond .ne 36, 3) := by decide +kernel
theorem dX3_deliverToAll_25 : decode cX3_deliverToAll 25 = .ok (.iload_n 2, 1) := by decide +kernel
theorem dX3_deliverToAll_26 : decode cX3_deliverToAll 26 = .ok (.iload 4, 2) := by decide +kernel
theorem dX3_deliverToAll_28 : decode cX3_deliverToAll 28 = .ok (.invokestatic 65, 3) := by decide +kernel
theorem dX3_deliverToAll_31 : decode cX3_deliverToAll 31 = .ok (.ifCond .eq 16, 3) := by decide +kernel
theorem dX3_deliverToAll_34 : decode cX3_deliverToAll 34 = .ok (.aload_n 0, 1) := by decide +kernel
theorem dX3_deliverToAll_35 : decode cX3_deliverToAll 35 = .ok (.dup, 1) := by decide +kernel
theorem dX3_deliverToAll_36 : decode cX3_deliverToAll 36 = .ok (.getfield 46, 3) := by decide +kernel
theorem dX3_deliverToAll_39 : decode cX3_deliverToAll 39 = .ok (.iconst 1, 1) := by decide +kernel
theorem dX3_deliverToAll_40 : decode cX3_deliverToAll 40 = .ok (.iadd, 1) := by decide +kernel
theorem dX3_deliverToAll_41 : decode cX3_deliverToAll 41 = .ok (.putfield 46, 3) := by decide +kernel
theorem dX3_deliverToAll_44 : decode cX3_deliverToAll 44 = .ok (.goto 14, 3) := by decide +kernel
theorem dX3_deliverToAll_47 : decode cX3_deliverToAll 47 = .ok (.aload_n 0, 1) := by decide +kernel
theorem dX3_deliverToAll_48 : decode cX3_deliverToAll 48 = .ok (.iload 4, 2) := by decide +kernel
theorem dX3_deliverToAll_50 : decode cX3_deliverToAll 50 = .ok (.iload_n 1, 1) := by decide +kernel
theorem dX3_deliverToAll_51 : decode cX3_deliverToAll 51 = .ok (.invokevirtual 100, 3) := by decide +kernel
theorem dX3_deliverToAll_54 : decode cX3_deliverToAll 54 = .ok (.pop, 1) := by decide +kernel
theorem dX3_deliverToAll_55 : decode cX3_deliverToAll 55 = .ok (.iinc 3 1, 3) := by decide +kernel
theorem dX3_deliverToAll_58 : decode cX3_deliverToAll 58 = .ok (.iinc 4 1, 3) := by decide +kernel
theorem dX3_deliverToAll_61 : decode cX3_deliverToAll 61 = .ok (.goto (-56), 3) := by decide +kernel
theorem dX3_deliverToAll_64 : decode cX3_deliverToAll 64 = .ok (.iload_n 3, 1) := by decide +kernel
theorem dX3_deliverToAll_65 : decode cX3_deliverToAll 65 = .ok (.ireturn, 1) := by decide +kernel
theorem dX3_deliverUnread_0 : decode cX3_deliverUnread 0 = .ok (.aload_n 0, 1) := by decide +kernel
theorem dX3_deliverUnread_1 : decode cX3_deliverUnread 1 = .ok (.getfield 21, 3) := by decide +kernel
theorem dX3_deliverUnread_4 : decode cX3_deliverUnread 4 = .ok (.getfield 88, 3) := by decide +kernel
theorem dX3_deliverUnread_7 : decode cX3_deliverUnread 7 = .ok (.iload_n 1, 1) := by decide +kernel
theorem dX3_deliverUnread_8 : decode cX3_deliverUnread 8 = .ok (.iaload, 1) := by decide +kernel
theorem dX3_deliverUnread_9 : decode cX3_deliverUnread 9 = .ok (.istore_n 2, 1) := by decide +kernel
theorem dX3_deliverUnread_10 : decode cX3_deliverUnread 10 = .ok (.iconst 0, 1) := by decide +kernel
theorem dX3_deliverUnread_11 : decode cX3_deliverUnread 11 = .ok (.istore_n 3, 1) := by decide +kernel
theorem dX3_deliverUnread_12 : decode cX3_deliverUnread 12 = .ok (.iload_n 3, 1) := by decide +kernel
theorem dX3_deliverUnread_13 : decode cX3_deliverUnread 13 = .ok (.aload_n 0, 1) := by decide +kernel
theorem dX3_deliverUnread_14 : decode cX3_deliverUnread 14 = .ok (.getfield 12, 3) := by decide +kernel
theorem dX3_deliverUnread_17 : decode cX3_deliverUnread 17 = .ok (.getfield 62, 3) := by decide +kernel
theorem dX3_deliverUnread_20 : decode cX3_deliverUnread 20 = .ok (.if_icmp .ge 28, 3) := by decide +kernel
theorem dX3_deliverUnread_23 : decode cX3_deliverUnread 23 = .ok (.aload_n 0, 1) := by decide +kernel
theorem dX3_deliverUnread_24 : decode cX3_deliverUnread 24 = .ok (.getfield 21, 3) := by decide +kernel
theorem dX3_deliverUnread_27 : decode cX3_deliverUnread 27 = .ok (.iload_n 1, 1) := by decide +kernel
theorem dX3_deliverUnread_28 : decode cX3_deliverUnread 28 = .ok (.iload_n 3, 1) := by decide +kernel
theorem dX3_deliverUnread_29 : decode cX3_deliverUnread 29 = .ok (.invokevirtual 97, 3) := by decide +kernel
theorem dX3_deliverUnread_32 : decode cX3_deliverUnread 32 = .ok (.ifCond .ne 10, 3) := by decide +kernel
theorem dX3_deliverUnread_35 : decode cX3_deliverUnread 35 = .ok (.aload_n 0, 1) := by decide +kernel
theorem dX3_deliverUnread_36 : decode cX3_deliverUnread 36 = .ok (.iload_n 1, 1) := by decide +kernel
theorem dX3_deliverUnread_37 : decode cX3_deliverUnread 37 = .ok (.iload_n 3, 1) := by decide +kernel
theorem dX3_deliverUnread_38 : decode cX3_deliverUnread 38 = .ok (.invokevirtual 100, 3) := by decide +kernel
theorem dX3_deliverUnread_41 : decode cX3_deliverUnread 41 = .ok (.pop, 1) := by decide +kernel
theorem dX3_deliverUnread_42 : decode cX3_deliverUnread 42 = .ok (.iinc 3 1, 3) := by decide +kernel
theorem dX3_deliverUnread_45 : decode cX3_deliverUnread 45 = .ok (.goto (-33), 3) := by decide +kernel
theorem dX3_deliverUnread_48 : decode cX3_deliverUnread 48 = .ok (.aload_n 0, 1) := by decide +kernel
theorem dX3_deliverUnread_49 : decode cX3_deliverUnread 49 = .ok (.getfield 21, 3) := by decide +kernel
theorem dX3_deliverUnread_52 : decode cX3_deliverUnread 52 = .ok (.getfield 88, 3) := by decide +kernel
theorem dX3_deliverUnread_55 : decode cX3_deliverUnread 55 = .ok (.iload_n 1, 1) := by decide +kernel
theorem dX3_deliverUnread_56 : decode cX3_deliverUnread 56 = .ok (.iaload, 1) := by decide +kernel
theorem dX3_deliverUnread_57 : decode cX3_deliverUnread 57 = .ok (.iload_n 2, 1) := by decide +kernel
theorem dX3_deliverUnread_58 : decode cX3_deliverUnread 58 = .ok (.isub, 1) := by decide +kernel
theorem dX3_deliverUnread_59 : decode cX3_deliverUnread 59 = .ok (.ireturn, 1) := by decide +kernel
theorem dX3_ofPart_0 : decode cX3_ofPart 0 = .ok (.iload_n 2, 1) := by decide +kernel
theorem dX3_ofPart_1 : decode cX3_ofPart 1 = .ok (.tableswitch 97 0 5 #[39, 49, 59, 69, 79, 88], 39) := by decide +kernel
theorem dX3_ofPart_40 : decode cX3_ofPart 40 = .ok (.aload_n 0, 1) := by decide +kernel
theorem dX3_ofPart_41 : decode cX3_ofPart 41 = .ok (.getfield 12, 3) := by decide +kernel
theorem dX3_ofPart_44 : decode cX3_ofPart 44 = .ok (.getfield 103, 3) := by decide +kernel
theorem dX3_ofPart_47 : decode cX3_ofPart 47 = .ok (.iload_n 1, 1) := by decide +kernel
theorem dX3_ofPart_48 : decode cX3_ofPart 48 = .ok (.iaload, 1) := by decide +kernel
theorem dX3_ofPart_49 : decode cX3_ofPart 49 = .ok (.ireturn, 1) := by decide +kernel
theorem dX3_ofPart_50 : decode cX3_ofPart 50 = .ok (.aload_n 0, 1) := by decide +kernel
theorem dX3_ofPart_51 : decode cX3_ofPart 51 = .ok (.getfield 12, 3) := by decide +kernel
theorem dX3_ofPart_54 : decode cX3_ofPart 54 = .ok (.getfield 106, 3) := by decide +kernel
theorem dX3_ofPart_57 : decode cX3_ofPart 57 = .ok (.iload_n 1, 1) := by decide +kernel
theorem dX3_ofPart_58 : decode cX3_ofPart 58 = .ok (.iaload, 1) := by decide +kernel
theorem dX3_ofPart_59 : decode cX3_ofPart 59 = .ok (.ireturn, 1) := by decide +kernel
theorem dX3_ofPart_60 : decode cX3_ofPart 60 = .ok (.aload_n 0, 1) := by decide +kernel
theorem dX3_ofPart_61 : decode cX3_ofPart 61 = .ok (.getfield 12, 3) := by decide +kernel
theorem dX3_ofPart_64 : decode cX3_ofPart 64 = .ok (.getfield 69, 3) := by decide +kernel
theorem dX3_ofPart_67 : decode cX3_ofPart 67 = .ok (.iload_n 1, 1) := by decide +kernel
theorem dX3_ofPart_68 : decode cX3_ofPart 68 = .ok (.iaload, 1) := by decide +kernel
theorem dX3_ofPart_69 : decode cX3_ofPart 69 = .ok (.ireturn, 1) := by decide +kernel
theorem dX3_ofPart_70 : decode cX3_ofPart 70 = .ok (.aload_n 0, 1) := by decide +kernel
theorem dX3_ofPart_71 : decode cX3_ofPart 71 = .ok (.getfield 12, 3) := by decide +kernel
theorem dX3_ofPart_74 : decode cX3_ofPart 74 = .ok (.getfield 109, 3) := by decide +kernel
theorem dX3_ofPart_77 : decode cX3_ofPart 77 = .ok (.iload_n 1, 1) := by decide +kernel
theorem dX3_ofPart_78 : decode cX3_ofPart 78 = .ok (.iaload, 1) := by decide +kernel
theorem dX3_ofPart_79 : decode cX3_ofPart 79 = .ok (.ireturn, 1) := by decide +kernel
theorem dX3_ofPart_80 : decode cX3_ofPart 80 = .ok (.aload_n 0, 1) := by decide +kernel
theorem dX3_ofPart_81 : decode cX3_ofPart 81 = .ok (.getfield 12, 3) := by decide +kernel
theorem dX3_ofPart_84 : decode cX3_ofPart 84 = .ok (.iload_n 1, 1) := by decide +kernel
theorem dX3_ofPart_85 : decode cX3_ofPart 85 = .ok (.invokevirtual 112, 3) := by decide +kernel
theorem dX3_ofPart_88 : decode cX3_ofPart 88 = .ok (.ireturn, 1) := by decide +kernel
theorem dX3_ofPart_89 : decode cX3_ofPart 89 = .ok (.aload_n 0, 1) := by decide +kernel
theorem dX3_ofPart_90 : decode cX3_ofPart 90 = .ok (.getfield 21, 3) := by decide +kernel
theorem dX3_ofPart_93 : decode cX3_ofPart 93 = .ok (.iload_n 1, 1) := by decide +kernel
theorem dX3_ofPart_94 : decode cX3_ofPart 94 = .ok (.invokevirtual 115, 3) := by decide +kernel
theorem dX3_ofPart_97 : decode cX3_ofPart 97 = .ok (.ireturn, 1) := by decide +kernel
theorem dX3_ofPart_98 : decode cX3_ofPart 98 = .ok (.aload_n 0, 1) := by decide +kernel
theorem dX3_ofPart_99 : decode cX3_ofPart 99 = .ok (.getfield 12, 3) := by decide +kernel
theorem dX3_ofPart_102 : decode cX3_ofPart 102 = .ok (.iload_n 1, 1) := by decide +kernel
theorem dX3_ofPart_103 : decode cX3_ofPart 103 = .ok (.aload_n 0, 1) := by decide +kernel
theorem dX3_ofPart_104 : decode cX3_ofPart 104 = .ok (.getfield 12, 3) := by decide +kernel
theorem dX3_ofPart_107 : decode cX3_ofPart 107 = .ok (.invokevirtual 118, 3) := by decide +kernel
theorem dX3_ofPart_110 : decode cX3_ofPart 110 = .ok (.invokevirtual 53, 3) := by decide +kernel
theorem dX3_ofPart_113 : decode cX3_ofPart 113 = .ok (.invokestatic 57, 3) := by decide +kernel
theorem dX3_ofPart_116 : decode cX3_ofPart 116 = .ok (.ireturn, 1) := by decide +kernel
theorem dX3_ofReader_0 : decode cX3_ofReader 0 = .ok (.iload_n 2, 1) := by decide +kernel
theorem dX3_ofReader_1 : decode cX3_ofReader 1 = .ok (.tableswitch 121 0 5 #[39, 52, 65, 85, 101, 111], 39) := by decide +kernel
theorem dX3_ofReader_40 : decode cX3_ofReader 40 = .ok (.aload_n 0, 1) := by decide +kernel
theorem dX3_ofReader_41 : decode cX3_ofReader 41 = .ok (.getfield 21, 3) := by decide +kernel
theorem dX3_ofReader_44 : decode cX3_ofReader 44 = .ok (.getfield 122, 3) := by decide +kernel
theorem dX3_ofReader_47 : decode cX3_ofReader 47 = .ok (.iload_n 1, 1) := by decide +kernel
theorem dX3_ofReader_48 : decode cX3_ofReader 48 = .ok (.iaload, 1) := by decide +kernel
theorem dX3_ofReader_49 : decode cX3_ofReader 49 = .ok (.invokestatic 57, 3) := by decide +kernel
theorem dX3_ofReader_52 : decode cX3_ofReader 52 = .ok (.ireturn, 1) := by decide +kernel
theorem dX3_ofReader_53 : decode cX3_ofReader 53 = .ok (.aload_n 0, 1) := by decide +kernel
theorem dX3_ofReader_54 : decode cX3_ofReader 54 = .ok (.getfield 21, 3) := by decide +kernel
theorem dX3_ofReader_57 : decode cX3_ofReader 57 = .ok (.getfield 125, 3) := by decide +kernel
theorem dX3_ofReader_60 : decode cX3_ofReader 60 = .ok (.iload_n 1, 1) := by decide +kernel
theorem dX3_ofReader_61 : decode cX3_ofReader 61 = .ok (.iaload, 1) := by decide +kernel
theorem dX3_ofReader_62 : decode cX3_ofReader 62 = .ok (.invokestatic 57, 3) := by decide +kernel
theorem dX3_ofReader_65 : decode cX3_ofReader 65 = .ok (.ireturn, 1) := by decide +kernel
theorem dX3_ofReader_66 : decode cX3_ofReader 66 = .ok (.aload_n 0, 1) := by decide +kernel
theorem dX3_ofReader_67 : decode cX3_ofReader 67 = .ok (.getfield 12, 3) := by decide +kernel
theorem dX3_ofReader_70 : decode cX3_ofReader 70 = .ok (.getfield 62, 3) := by decide +kernel
theorem dX3_ofReader_73 : decode cX3_ofReader 73 = .ok (.aload_n 0, 1) := by decide +kernel
theorem dX3_ofReader_74 : decode cX3_ofReader 74 = .ok (.getfield 21, 3) := by decide +kernel
theorem dX3_ofReader_77 : decode cX3_ofReader 77 = .ok (.iload_n 1, 1) := by decide +kernel
theorem dX3_ofReader_78 : decode cX3_ofReader 78 = .ok (.invokevirtual 49, 3) := by decide +kernel
theorem dX3_ofReader_81 : decode cX3_ofReader 81 = .ok (.invokestatic 57, 3) := by decide +kernel
theorem dX3_ofReader_84 : decode cX3_ofReader 84 = .ok (.isub, 1) := by decide +kernel
theorem dX3_ofReader_85 : decode cX3_ofReader 85 = .ok (.ireturn, 1) := by decide +kernel
theorem dX3_ofReader_86 : decode cX3_ofReader 86 = .ok (.aload_n 0, 1) := by decide +kernel
theorem dX3_ofReader_87 : decode cX3_ofReader 87 = .ok (.getfield 12, 3) := by decide +kernel
theorem dX3_ofReader_90 : decode cX3_ofReader 90 = .ok (.aload_n 0, 1) := by decide +kernel
theorem dX3_ofReader_91 : decode cX3_ofReader 91 = .ok (.getfield 21, 3) := by decide +kernel
theorem dX3_ofReader_94 : decode cX3_ofReader 94 = .ok (.iload_n 1, 1) := by decide +kernel
theorem dX3_ofReader_95 : decode cX3_ofReader 95 = .ok (.invokevirtual 49, 3) := by decide +kernel
theorem dX3_ofReader_98 : decode cX3_ofReader 98 = .ok (.invokevirtual 128, 3) := by decide +kernel
theorem dX3_ofReader_101 : decode cX3_ofReader 101 = .ok (.ireturn, 1) := by decide +kernel
theorem dX3_ofReader_102 : decode cX3_ofReader 102 = .ok (.aload_n 0, 1) := by decide +kernel
theorem dX3_ofReader_103 : decode cX3_ofReader 103 = .ok (.getfield 21, 3) := by decide +kernel
theorem dX3_ofReader_106 : decode cX3_ofReader 106 = .ok (.getfield 88, 3) := by decide +kernel
theorem dX3_ofReader_109 : decode cX3_ofReader 109 = .ok (.iload_n 1, 1) := by decide +kernel
theorem dX3_ofReader_110 : decode cX3_ofReader 110 = .ok (.iaload, 1) := by decide +kernel
theorem dX3_ofReader_111 : decode cX3_ofReader 111 = .ok (.ireturn, 1) := by decide +kernel
theorem dX3_ofReader_112 : decode cX3_ofReader 112 = .ok (.aload_n 0, 1) := by decide +kernel
theorem dX3_ofReader_113 : decode cX3_ofReader 113 = .ok (.getfield 21, 3) := by decide +kernel
theorem dX3_ofReader_116 : decode cX3_ofReader 116 = .ok (.getfield 91, 3) := by decide +kernel
theorem dX3_ofReader_119 : decode cX3_ofReader 119 = .ok (.iload_n 1, 1) := by decide +kernel
theorem dX3_ofReader_120 : decode cX3_ofReader 120 = .ok (.iaload, 1) := by decide +kernel
theorem dX3_ofReader_121 : decode cX3_ofReader 121 = .ok (.ireturn, 1) := by decide +kernel
theorem dX3_ofReader_122 : decode cX3_ofReader 122 = .ok (.aload_n 0, 1) := by decide +kernel
theorem dX3_ofReader_123 : decode cX3_ofReader 123 = .ok (.getfield 21, 3) := by decide +kernel
theorem dX3_ofReader_126 : decode cX3_ofReader 126 = .ok (.getfield 94, 3) := by decide +kernel
theorem dX3_ofReader_129 : decode cX3_ofReader 129 = .ok (.iload_n 1, 1) := by decide +kernel
theorem dX3_ofReader_130 : decode cX3_ofReader 130 = .ok (.iaload, 1) := by decide +kernel
theorem dX3_ofReader_131 : decode cX3_ofReader 131 = .ok (.ireturn, 1) := by decide +kernel
theorem dX3_ofPlot_0 : decode cX3_ofPlot 0 = .ok (.iload_n 2, 1) := by decide +kernel
theorem dX3_ofPlot_1 : decode cX3_ofPlot 1 = .ok (.tableswitch 54 0 2 #[27, 36, 45], 27) := by decide +kernel
theorem dX3_ofPlot_28 : decode cX3_ofPlot 28 = .ok (.aload_n 0, 1) := by decide +kernel
theorem dX3_ofPlot_29 : decode cX3_ofPlot 29 = .ok (.getfield 12, 3) := by decide +kernel
theorem dX3_ofPlot_32 : decode cX3_ofPlot 32 = .ok (.iload_n 1, 1) := by decide +kernel
theorem dX3_ofPlot_33 : decode cX3_ofPlot 33 = .ok (.invokevirtual 131, 3) := by decide +kernel
theorem dX3_ofPlot_36 : decode cX3_ofPlot 36 = .ok (.ireturn, 1) := by decide +kernel
theorem dX3_ofPlot_37 : decode cX3_ofPlot 37 = .ok (.aload_n 0, 1) := by decide +kernel
theorem dX3_ofPlot_38 : decode cX3_ofPlot 38 = .ok (.getfield 12, 3) := by decide +kernel
theorem dX3_ofPlot_41 : decode cX3_ofPlot 41 = .ok (.iload_n 1, 1) := by decide +kernel
theorem dX3_ofPlot_42 : decode cX3_ofPlot 42 = .ok (.invokevirtual 134, 3) := by decide +kernel
theorem dX3_ofPlot_45 : decode cX3_ofPlot 45 = .ok (.ireturn, 1) := by decide +kernel
theorem dX3_ofPlot_46 : decode cX3_ofPlot 46 = .ok (.aload_n 0, 1) := by decide +kernel
theorem dX3_ofPlot_47 : decode cX3_ofPlot 47 = .ok (.getfield 12, 3) := by decide +kernel
theorem dX3_ofPlot_50 : decode cX3_ofPlot 50 = .ok (.iload_n 1, 1) := by decide +kernel
theorem dX3_ofPlot_51 : decode cX3_ofPlot 51 = .ok (.invokevirtual 137, 3) := by decide +kernel
theorem dX3_ofPlot_54 : decode cX3_ofPlot 54 = .ok (.ireturn, 1) := by decide +kernel
theorem dX3_ofPlot_55 : decode cX3_ofPlot 55 = .ok (.aload_n 0, 1) := by decide +kernel
theorem dX3_ofPlot_56 : decode cX3_ofPlot 56 = .ok (.iload_n 1, 1) := by decide +kernel
theorem dX3_ofPlot_57 : decode cX3_ofPlot 57 = .ok (.invokevirtual 140, 3) := by decide +kernel
theorem dX3_ofPlot_60 : decode cX3_ofPlot 60 = .ok (.ireturn, 1) := by decide +kernel
theorem dX3_howManyHang_0 : decode cX3_howManyHang 0 = .ok (.iconst 0, 1) := by decide +kernel
theorem dX3_howManyHang_1 : decode cX3_howManyHang 1 = .ok (.istore_n 2, 1) := by decide +kernel
theorem dX3_howManyHang_2 : decode cX3_howManyHang 2 = .ok (.iconst 0, 1) := by decide +kernel
theorem dX3_howManyHang_3 : decode cX3_howManyHang 3 = .ok (.istore_n 3, 1) := by decide +kernel
theorem dX3_howManyHang_4 : decode cX3_howManyHang 4 = .ok (.iload_n 3, 1) := by decide +kernel
theorem dX3_howManyHang_5 : decode cX3_howManyHang 5 = .ok (.bipush 6, 2) := by decide +kernel
theorem dX3_howManyHang_7 : decode cX3_howManyHang 7 = .ok (.if_icmp .ge 31, 3) := by decide +kernel
theorem dX3_howManyHang_10 : decode cX3_howManyHang 10 = .ok (.iload_n 2, 1) := by decide +kernel
theorem dX3_howManyHang_11 : decode cX3_howManyHang 11 = .ok (.aload_n 0, 1) := by decide +kernel
theorem dX3_howManyHang_12 : decode cX3_howManyHang 12 = .ok (.getfield 12, 3) := by decide +kernel
theorem dX3_howManyHang_15 : decode cX3_howManyHang 15 = .ok (.aload_n 0, 1) := by decide +kernel
theorem dX3_howManyHang_16 : decode cX3_howManyHang 16 = .ok (.getfield 21, 3) := by decide +kernel
theorem dX3_howManyHang_19 : decode cX3_howManyHang 19 = .ok (.iload_n 3, 1) := by decide +kernel
theorem dX3_howManyHang_20 : decode cX3_howManyHang 20 = .ok (.invokevirtual 49, 3) := by decide +kernel
theorem dX3_howManyHang_23 : decode cX3_howManyHang 23 = .ok (.invokevirtual 128, 3) := by decide +kernel
theorem dX3_howManyHang_26 : decode cX3_howManyHang 26 = .ok (.iload_n 1, 1) := by decide +kernel
theorem dX3_howManyHang_27 : decode cX3_howManyHang 27 = .ok (.ishr, 1) := by decide +kernel
theorem dX3_howManyHang_28 : decode cX3_howManyHang 28 = .ok (.iconst 1, 1) := by decide +kernel
theorem dX3_howManyHang_29 : decode cX3_howManyHang 29 = .ok (.iand, 1) := by decide +kernel
theorem dX3_howManyHang_30 : decode cX3_howManyHang 30 = .ok (.iadd, 1) := by decide +kernel
theorem dX3_howManyHang_31 : decode cX3_howManyHang 31 = .ok (.istore_n 2, 1) := by decide +kernel
theorem dX3_howManyHang_32 : decode cX3_howManyHang 32 = .ok (.iinc 3 1, 3) := by decide +kernel
theorem dX3_howManyHang_35 : decode cX3_howManyHang 35 = .ok (.goto (-31), 3) := by decide +kernel
theorem dX3_howManyHang_38 : decode cX3_howManyHang 38 = .ok (.iload_n 2, 1) := by decide +kernel
theorem dX3_howManyHang_39 : decode cX3_howManyHang 39 = .ok (.ireturn, 1) := by decide +kernel
theorem dX3_ofAll_0 : decode cX3_ofAll 0 = .ok (.iload_n 1, 1) := by decide +kernel
theorem dX3_ofAll_1 : decode cX3_ofAll 1 = .ok (.tableswitch 69 0 4 #[35, 43, 51, 56, 61], 35) := by decide +kernel
theorem dX3_ofAll_36 : decode cX3_ofAll 36 = .ok (.aload_n 0, 1) := by decide +kernel
theorem dX3_ofAll_37 : decode cX3_ofAll 37 = .ok (.getfield 12, 3) := by decide +kernel
theorem dX3_ofAll_40 : decode cX3_ofAll 40 = .ok (.getfield 62, 3) := by decide +kernel
theorem dX3_ofAll_43 : decode cX3_ofAll 43 = .ok (.ireturn, 1) := by decide +kernel
theorem dX3_ofAll_44 : decode cX3_ofAll 44 = .ok (.aload_n 0, 1) := by decide +kernel
theorem dX3_ofAll_45 : decode cX3_ofAll 45 = .ok (.getfield 12, 3) := by decide +kernel
theorem dX3_ofAll_48 : decode cX3_ofAll 48 = .ok (.invokevirtual 143, 3) := by decide +kernel
theorem dX3_ofAll_51 : decode cX3_ofAll 51 = .ok (.ireturn, 1) := by decide +kernel
theorem dX3_ofAll_52 : decode cX3_ofAll 52 = .ok (.aload_n 0, 1) := by decide +kernel
theorem dX3_ofAll_53 : decode cX3_ofAll 53 = .ok (.getfield 42, 3) := by decide +kernel
theorem dX3_ofAll_56 : decode cX3_ofAll 56 = .ok (.ireturn, 1) := by decide +kernel
theorem dX3_ofAll_57 : decode cX3_ofAll 57 = .ok (.aload_n 0, 1) := by decide +kernel
theorem dX3_ofAll_58 : decode cX3_ofAll 58 = .ok (.getfield 46, 3) := by decide +kernel
theorem dX3_ofAll_61 : decode cX3_ofAll 61 = .ok (.ireturn, 1) := by decide +kernel
theorem dX3_ofAll_62 : decode cX3_ofAll 62 = .ok (.aload_n 0, 1) := by decide +kernel
theorem dX3_ofAll_63 : decode cX3_ofAll 63 = .ok (.getfield 21, 3) := by decide +kernel
theorem dX3_ofAll_66 : decode cX3_ofAll 66 = .ok (.invokevirtual 146, 3) := by decide +kernel
theorem dX3_ofAll_69 : decode cX3_ofAll 69 = .ok (.ireturn, 1) := by decide +kernel
theorem dX3_ofAll_70 : decode cX3_ofAll 70 = .ok (.aload_n 0, 1) := by decide +kernel
theorem dX3_ofAll_71 : decode cX3_ofAll 71 = .ok (.getfield 21, 3) := by decide +kernel
theorem dX3_ofAll_74 : decode cX3_ofAll 74 = .ok (.aload_n 0, 1) := by decide +kernel
theorem dX3_ofAll_75 : decode cX3_ofAll 75 = .ok (.getfield 12, 3) := by decide +kernel
theorem dX3_ofAll_78 : decode cX3_ofAll 78 = .ok (.invokevirtual 118, 3) := by decide +kernel
theorem dX3_ofAll_81 : decode cX3_ofAll 81 = .ok (.invokevirtual 149, 3) := by decide +kernel
theorem dX3_ofAll_84 : decode cX3_ofAll 84 = .ok (.ireturn, 1) := by decide +kernel
theorem dX3_bestPart_0 : decode cX3_bestPart 0 = .ok (.iconst (-1), 1) := by decide +kernel
theorem dX3_bestPart_1 : decode cX3_bestPart 1 = .ok (.istore_n 2, 1) := by decide +kernel
theorem dX3_bestPart_2 : decode cX3_bestPart 2 = .ok (.iconst 0, 1) := by decide +kernel
theorem dX3_bestPart_3 : decode cX3_bestPart 3 = .ok (.istore_n 3, 1) := by decide +kernel
theorem dX3_bestPart_4 : decode cX3_bestPart 4 = .ok (.iconst 0, 1) := by decide +kernel
theorem dX3_bestPart_5 : decode cX3_bestPart 5 = .ok (.istore 4, 2) := by decide +kernel
theorem dX3_bestPart_7 : decode cX3_bestPart 7 = .ok (.iconst 0, 1) := by decide +kernel
theorem dX3_bestPart_8 : decode cX3_bestPart 8 = .ok (.istore 5, 2) := by decide +kernel
theorem dX3_bestPart_10 : decode cX3_bestPart 10 = .ok (.iload 5, 2) := by decide +kernel
theorem dX3_bestPart_12 : decode cX3_bestPart 12 = .ok (.aload_n 0, 1) := by decide +kernel
theorem dX3_bestPart_13 : decode cX3_bestPart 13 = .ok (.getfield 12, 3) := by decide +kernel
theorem dX3_bestPart_16 : decode cX3_bestPart 16 = .ok (.getfield 62, 3) := by decide +kernel
theorem dX3_bestPart_19 : decode cX3_bestPart 19 = .ok (.if_icmp .ge 88, 3) := by decide +kernel
theorem dX3_bestPart_22 : decode cX3_bestPart 22 = .ok (.aload_n 0, 1) := by decide +kernel
theorem dX3_bestPart_23 : decode cX3_bestPart 23 = .ok (.getfield 21, 3) := by decide +kernel
theorem dX3_bestPart_26 : decode cX3_bestPart 26 = .ok (.iload_n 1, 1) := by decide +kernel
theorem dX3_bestPart_27 : decode cX3_bestPart 27 = .ok (.iload 5, 2) := by decide +kernel
theorem dX3_bestPart_29 : decode cX3_bestPart 29 = .ok (.invokevirtual 97, 3) := by decide +kernel
theorem dX3_bestPart_32 : decode cX3_bestPart 32 = .ok (.ifCond .ne 69, 3) := by decide +kernel
theorem dX3_bestPart_35 : decode cX3_bestPart 35 = .ok (.aload_n 0, 1) := by decide +kernel
theorem dX3_bestPart_36 : decode cX3_bestPart 36 = .ok (.iload_n 1, 1) := by decide +kernel
theorem dX3_bestPart_37 : decode cX3_bestPart 37 = .ok (.iload 5, 2) := by decide +kernel
theorem dX3_bestPart_39 : decode cX3_bestPart 39 = .ok (.iconst 3, 1) := by decide +kernel
theorem dX3_bestPart_40 : decode cX3_bestPart 40 = .ok (.invokevirtual 152, 3) := by decide +kernel
theorem dX3_bestPart_43 : decode cX3_bestPart 43 = .ok (.istore 6, 2) := by decide +kernel
theorem dX3_bestPart_45 : decode cX3_bestPart 45 = .ok (.aload_n 0, 1) := by decide +kernel
theorem dX3_bestPart_46 : decode cX3_bestPart 46 = .ok (.iload_n 1, 1) := by decide +kernel
theorem dX3_bestPart_47 : decode cX3_bestPart 47 = .ok (.iload 5, 2) := by decide +kernel
theorem dX3_bestPart_49 : decode cX3_bestPart 49 = .ok (.iconst 4, 1) := by decide +kernel
theorem dX3_bestPart_50 : decode cX3_bestPart 50 = .ok (.invokevirtual 152, 3) := by decide +kernel
theorem dX3_bestPart_53 : decode cX3_bestPart 53 = .ok (.istore 7, 2) := by decide +kernel
theorem dX3_bestPart_55 : decode cX3_bestPart 55 = .ok (.iload 6, 2) := by decide +kernel
theorem dX3_bestPart_57 : decode cX3_bestPart 57 = .ok (.iload_n 3, 1) := by decide +kernel
theorem dX3_bestPart_58 : decode cX3_bestPart 58 = .ok (.if_icmp .lt 16, 3) := by decide +kernel
theorem dX3_bestPart_61 : decode cX3_bestPart 61 = .ok (.iload 6, 2) := by decide +kernel
theorem dX3_bestPart_63 : decode cX3_bestPart 63 = .ok (.iload_n 3, 1) := by decide +kernel
theorem dX3_bestPart_64 : decode cX3_bestPart 64 = .ok (.if_icmp .ne 14, 3) := by decide +kernel
theorem dX3_bestPart_67 : decode cX3_bestPart 67 = .ok (.iload 7, 2) := by decide +kernel
theorem dX3_bestPart_69 : decode cX3_bestPart 69 = .ok (.iload 4, 2) := by decide +kernel
theorem dX3_bestPart_71 : decode cX3_bestPart 71 = .ok (.if_icmp .ge 7, 3) := by decide +kernel
theorem dX3_bestPart_74 : decode cX3_bestPart 74 = .ok (.iconst 1, 1) := by decide +kernel
theorem dX3_bestPart_75 : decode cX3_bestPart 75 = .ok (.goto 4, 3) := by decide +kernel
theorem dX3_bestPart_78 : decode cX3_bestPart 78 = .ok (.iconst 0, 1) := by decide +kernel
theorem dX3_bestPart_79 : decode cX3_bestPart 79 = .ok (.istore 8, 2) := by decide +kernel
theorem dX3_bestPart_81 : decode cX3_bestPart 81 = .ok (.iload_n 2, 1) := by decide +kernel
theorem dX3_bestPart_82 : decode cX3_bestPart 82 = .ok (.iconst (-1), 1) := by decide +kernel
theorem dX3_bestPart_83 : decode cX3_bestPart 83 = .ok (.if_icmp .eq 8, 3) := by decide +kernel
theorem dX3_bestPart_86 : decode cX3_bestPart 86 = .ok (.iload 8, 2) := by decide +kernel
theorem dX3_bestPart_88 : decode cX3_bestPart 88 = .ok (.ifCond .eq 13, 3) := by decide +kernel
theorem dX3_bestPart_91 : decode cX3_bestPart 91 = .ok (.iload 5, 2) := by decide +kernel
theorem dX3_bestPart_93 : decode cX3_bestPart 93 = .ok (.istore_n 2, 1) := by decide +kernel
theorem dX3_bestPart_94 : decode cX3_bestPart 94 = .ok (.iload 6, 2) := by decide +kernel
theorem dX3_bestPart_96 : decode cX3_bestPart 96 = .ok (.istore_n 3, 1) := by decide +kernel
theorem dX3_bestPart_97 : decode cX3_bestPart 97 = .ok (.iload 7, 2) := by decide +kernel
theorem dX3_bestPart_99 : decode cX3_bestPart 99 = .ok (.istore 4, 2) := by decide +kernel
theorem dX3_bestPart_101 : decode cX3_bestPart 101 = .ok (.iinc 5 1, 3) := by decide +kernel
theorem dX3_bestPart_104 : decode cX3_bestPart 104 = .ok (.goto (-94), 3) := by decide +kernel
theorem dX3_bestPart_107 : decode cX3_bestPart 107 = .ok (.iload_n 2, 1) := by decide +kernel
theorem dX3_bestPart_108 : decode cX3_bestPart 108 = .ok (.ireturn, 1) := by decide +kernel
theorem dX3_linesForAll_0 : decode cX3_linesForAll 0 = .ok (.iconst 0, 1) := by decide +kernel
theorem dX3_linesForAll_1 : decode cX3_linesForAll 1 = .ok (.istore_n 2, 1) := by decide +kernel
theorem dX3_linesForAll_2 : decode cX3_linesForAll 2 = .ok (.iconst 0, 1) := by decide +kernel
theorem dX3_linesForAll_3 : decode cX3_linesForAll 3 = .ok (.istore_n 3, 1) := by decide +kernel
theorem dX3_linesForAll_4 : decode cX3_linesForAll 4 = .ok (.iload_n 3, 1) := by decide +kernel
theorem dX3_linesForAll_5 : decode cX3_linesForAll 5 = .ok (.aload_n 0, 1) := by decide +kernel
theorem dX3_linesForAll_6 : decode cX3_linesForAll 6 = .ok (.getfield 12, 3) := by decide +kernel
theorem dX3_linesForAll_9 : decode cX3_linesForAll 9 = .ok (.getfield 62, 3) := by decide +kernel
theorem dX3_linesForAll_12 : decode cX3_linesForAll 12 = .ok (.if_icmp .ge 35, 3) := by decide +kernel
theorem dX3_linesForAll_15 : decode cX3_linesForAll 15 = .ok (.aload_n 0, 1) := by decide +kernel
theorem dX3_linesForAll_16 : decode cX3_linesForAll 16 = .ok (.getfield 21, 3) := by decide +kernel
theorem dX3_linesForAll_19 : decode cX3_linesForAll 19 = .ok (.iload_n 1, 1) := by decide +kernel
theorem dX3_linesForAll_20 : decode cX3_linesForAll 20 = .ok (.iload_n 3, 1) := by decide +kernel
theorem dX3_linesForAll_21 : decode cX3_linesForAll 21 = .ok (.invokevirtual 97, 3) := by decide +kernel
theorem dX3_linesForAll_24 : decode cX3_linesForAll 24 = .ok (.ifCond .ne 17, 3) := by decide +kernel
theorem dX3_linesForAll_27 : decode cX3_linesForAll 27 = .ok (.iload_n 2, 1) := by decide +kernel
theorem dX3_linesForAll_28 : decode cX3_linesForAll 28 = .ok (.aload_n 0, 1) := by decide +kernel
theorem dX3_linesForAll_29 : decode cX3_linesForAll 29 = .ok (.iload_n 1, 1) := by decide +kernel
theorem dX3_linesForAll_30 : decode cX3_linesForAll 30 = .ok (.iload_n 3, 1) := by decide +kernel
theorem dX3_linesForAll_31 : decode cX3_linesForAll 31 = .ok (.invokevirtual 75, 3) := by decide +kernel
theorem dX3_linesForAll_34 : decode cX3_linesForAll 34 = .ok (.invokestatic 57, 3) := by decide +kernel
theorem dX3_linesForAll_37 : decode cX3_linesForAll 37 = .ok (.invokestatic 156, 3) := by decide +kernel
theorem dX3_linesForAll_40 : decode cX3_linesForAll 40 = .ok (.istore_n 2, 1) := by decide +kernel
theorem dX3_linesForAll_41 : decode cX3_linesForAll 41 = .ok (.iinc 3 1, 3) := by decide +kernel
theorem dX3_linesForAll_44 : decode cX3_linesForAll 44 = .ok (.goto (-40), 3) := by decide +kernel
theorem dX3_linesForAll_47 : decode cX3_linesForAll 47 = .ok (.iload_n 2, 1) := by decide +kernel
theorem dX3_linesForAll_48 : decode cX3_linesForAll 48 = .ok (.ireturn, 1) := by decide +kernel
theorem dX3_shareRead_0 : decode cX3_shareRead 0 = .ok (.aload_n 0, 1) := by decide +kernel
theorem dX3_shareRead_1 : decode cX3_shareRead 1 = .ok (.getfield 12, 3) := by decide +kernel
theorem dX3_shareRead_4 : decode cX3_shareRead 4 = .ok (.getfield 62, 3) := by decide +kernel
theorem dX3_shareRead_7 : decode cX3_shareRead 7 = .ok (.iconst 1, 1) := by decide +kernel
theorem dX3_shareRead_8 : decode cX3_shareRead 8 = .ok (.if_icmp .ge 5, 3) := by decide +kernel
theorem dX3_shareRead_11 : decode cX3_shareRead 11 = .ok (.dconst 1, 1) := by decide +kernel
theorem dX3_shareRead_12 : decode cX3_shareRead 12 = .ok (.dreturn, 1) := by decide +kernel
theorem dX3_shareRead_13 : decode cX3_shareRead 13 = .ok (.aload_n 0, 1) := by decide +kernel
theorem dX3_shareRead_14 : decode cX3_shareRead 14 = .ok (.getfield 21, 3) := by decide +kernel
theorem dX3_shareRead_17 : decode cX3_shareRead 17 = .ok (.invokevirtual 161, 3) := by decide +kernel
theorem dX3_shareRead_20 : decode cX3_shareRead 20 = .ok (.i2d, 1) := by decide +kernel
theorem dX3_shareRead_21 : decode cX3_shareRead 21 = .ok (.bipush 6, 2) := by decide +kernel
theorem dX3_shareRead_23 : decode cX3_shareRead 23 = .ok (.aload_n 0, 1) := by decide +kernel
theorem dX3_shareRead_24 : decode cX3_shareRead 24 = .ok (.getfield 12, 3) := by decide +kernel
theorem dX3_shareRead_27 : decode cX3_shareRead 27 = .ok (.getfield 62, 3) := by decide +kernel
theorem dX3_shareRead_30 : decode cX3_shareRead 30 = .ok (.imul, 1) := by decide +kernel
theorem dX3_shareRead_31 : decode cX3_shareRead 31 = .ok (.i2d, 1) := by decide +kernel
theorem dX3_shareRead_32 : decode cX3_shareRead 32 = .ok (.ddiv, 1) := by decide +kernel
theorem dX3_shareRead_33 : decode cX3_shareRead 33 = .ok (.dreturn, 1) := by decide +kernel
theorem dX4_init_0 : decode cX4_init 0 = .ok (.aload_n 0, 1) := by decide +kernel
theorem dX4_init_1 : decode cX4_init 1 = .ok (.invokespecial 3, 3) := by decide +kernel
theorem dX4_init_4 : decode cX4_init 4 = .ok (.aload_n 0, 1) := by decide +kernel
theorem dX4_init_5 : decode cX4_init 5 = .ok (.bipush 20, 2) := by decide +kernel
theorem dX4_init_7 : decode cX4_init 7 = .ok (.newarray .int, 2) := by decide +kernel
theorem dX4_init_9 : decode cX4_init 9 = .ok (.putfield 9, 3) := by decide +kernel
theorem dX4_init_12 : decode cX4_init 12 = .ok (.aload_n 0, 1) := by decide +kernel
theorem dX4_init_13 : decode cX4_init 13 = .ok (.bipush 20, 2) := by decide +kernel
theorem dX4_init_15 : decode cX4_init 15 = .ok (.newarray .int, 2) := by decide +kernel
theorem dX4_init_17 : decode cX4_init 17 = .ok (.putfield 15, 3) := by decide +kernel
theorem dX4_init_20 : decode cX4_init 20 = .ok (.aload_n 0, 1) := by decide +kernel
theorem dX4_init_21 : decode cX4_init 21 = .ok (.bipush 20, 2) := by decide +kernel
theorem dX4_init_23 : decode cX4_init 23 = .ok (.newarray .int, 2) := by decide +kernel
theorem dX4_init_25 : decode cX4_init 25 = .ok (.putfield 18, 3) := by decide +kernel
theorem dX4_init_28 : decode cX4_init 28 = .ok (.aload_n 0, 1) := by decide +kernel
theorem dX4_init_29 : decode cX4_init 29 = .ok (.bipush 20, 2) := by decide +kernel
theorem dX4_init_31 : decode cX4_init 31 = .ok (.newarray .int, 2) := by decide +kernel
theorem dX4_init_33 : decode cX4_init 33 = .ok (.putfield 21, 3) := by decide +kernel
theorem dX4_init_36 : decode cX4_init 36 = .ok (.return_, 1) := by decide +kernel
theorem dX4_copyFrom_0 : decode cX4_copyFrom 0 = .ok (.aload_n 0, 1) := by decide +kernel
theorem dX4_copyFrom_1 : decode cX4_copyFrom 1 = .ok (.aload_n 1, 1) := by decide +kernel
theorem dX4_copyFrom_2 : decode cX4_copyFrom 2 = .ok (.getfield 24, 3) := by decide +kernel
theorem dX4_copyFrom_5 : decode cX4_copyFrom 5 = .ok (.putfield 24, 3) := by decide +kernel
theorem dX4_copyFrom_8 : decode cX4_copyFrom 8 = .ok (.aload_n 1, 1) := by decide +kernel
theorem dX4_copyFrom_9 : decode cX4_copyFrom 9 = .ok (.getfield 9, 3) := by decide +kernel
theorem dX4_copyFrom_12 : decode cX4_copyFrom 12 = .ok (.iconst 0, 1) := by decide +kernel
theorem dX4_copyFrom_13 : decode cX4_copyFrom 13 = .ok (.aload_n 0, 1) := by decide +kernel
theorem dX4_copyFrom_14 : decode cX4_copyFrom 14 = .ok (.getfield 9, 3) := by decide +kernel
theorem dX4_copyFrom_17 : decode cX4_copyFrom 17 = .ok (.iconst 0, 1) := by decide +kernel
theorem dX4_copyFrom_18 : decode cX4_copyFrom 18 = .ok (.bipush 20, 2) := by decide +kernel
theorem dX4_copyFrom_20 : decode cX4_copyFrom 20 = .ok (.invokestatic 28, 3) := by decide +kernel
theorem dX4_copyFrom_23 : decode cX4_copyFrom 23 = .ok (.aload_n 1, 1) := by decide +kernel
theorem dX4_copyFrom_24 : decode cX4_copyFrom 24 = .ok (.getfield 15, 3) := by decide +kernel
theorem dX4_copyFrom_27 : decode cX4_copyFrom 27 = .ok (.iconst 0, 1) := by decide +kernel
theorem dX4_copyFrom_28 : decode cX4_copyFrom 28 = .ok (.aload_n 0, 1) := by decide +kernel
theorem dX4_copyFrom_29 : decode cX4_copyFrom 29 = .ok (.getfield 15, 3) := by decide +kernel
theorem dX4_copyFrom_32 : decode cX4_copyFrom 32 = .ok (.iconst 0, 1) := by decide +kernel
theorem dX4_copyFrom_33 : decode cX4_copyFrom 33 = .ok (.bipush 20, 2) := by decide +kernel
theorem dX4_copyFrom_35 : decode cX4_copyFrom 35 = .ok (.invokestatic 28, 3) := by decide +kernel
theorem dX4_copyFrom_38 : decode cX4_copyFrom 38 = .ok (.aload_n 1, 1) := by decide +kernel
theorem dX4_copyFrom_39 : decode cX4_copyFrom 39 = .ok (.getfield 18, 3) := by decide +kernel
theorem dX4_copyFrom_42 : decode cX4_copyFrom 42 = .ok (.iconst 0, 1) := by decide +kernel
theorem dX4_copyFrom_43 : decode cX4_copyFrom 43 = .ok (.aload_n 0, 1) := by decide +kernel
theorem dX4_copyFrom_44 : decode cX4_copyFrom 44 = .ok (.getfield 18, 3) := by decide +kernel
theorem dX4_copyFrom_47 : decode cX4_copyFrom 47 = .ok (.iconst 0, 1) := by decide +kernel
theorem dX4_copyFrom_48 : decode cX4_copyFrom 48 = .ok (.bipush 20, 2) := by decide +kernel
theorem dX4_copyFrom_50 : decode cX4_copyFrom 50 = .ok (.invokestatic 28, 3) := by decide +kernel
theorem dX4_copyFrom_53 : decode cX4_copyFrom 53 = .ok (.aload_n 1, 1) := by decide +kernel
theorem dX4_copyFrom_54 : decode cX4_copyFrom 54 = .ok (.getfield 21, 3) := by decide +kernel
theorem dX4_copyFrom_57 : decode cX4_copyFrom 57 = .ok (.iconst 0, 1) := by decide +kernel
theorem dX4_copyFrom_58 : decode cX4_copyFrom 58 = .ok (.aload_n 0, 1) := by decide +kernel
theorem dX4_copyFrom_59 : decode cX4_copyFrom 59 = .ok (.getfield 21, 3) := by decide +kernel
theorem dX4_copyFrom_62 : decode cX4_copyFrom 62 = .ok (.iconst 0, 1) := by decide +kernel
theorem dX4_copyFrom_63 : decode cX4_copyFrom 63 = .ok (.bipush 20, 2) := by decide +kernel
theorem dX4_copyFrom_65 : decode cX4_copyFrom 65 = .ok (.invokestatic 28, 3) := by decide +kernel
theorem dX4_copyFrom_68 : decode cX4_copyFrom 68 = .ok (.return_, 1) := by decide +kernel
theorem dX4_put_0 : decode cX4_put 0 = .ok (.aload_n 0, 1) := by decide +kernel
theorem dX4_put_1 : decode cX4_put 1 = .ok (.getfield 9, 3) := by decide +kernel
theorem dX4_put_4 : decode cX4_put 4 = .ok (.aload_n 0, 1) := by decide +kernel
theorem dX4_put_5 : decode cX4_put 5 = .ok (.getfield 24, 3) := by decide +kernel
theorem dX4_put_8 : decode cX4_put 8 = .ok (.iload_n 1, 1) := by decide +kernel
theorem dX4_put_9 : decode cX4_put 9 = .ok (.iastore, 1) := by decide +kernel
theorem dX4_put_10 : decode cX4_put 10 = .ok (.aload_n 0, 1) := by decide +kernel
theorem dX4_put_11 : decode cX4_put 11 = .ok (.getfield 15, 3) := by decide +kernel
theorem dX4_put_14 : decode cX4_put 14 = .ok (.aload_n 0, 1) := by decide +kernel
theorem dX4_put_15 : decode cX4_put 15 = .ok (.getfield 24, 3) := by decide +kernel
theorem dX4_put_18 : decode cX4_put 18 = .ok (.iload_n 2, 1) := by decide +kernel
theorem dX4_put_19 : decode cX4_put 19 = .ok (.iastore, 1) := by decide +kernel
theorem dX4_put_20 : decode cX4_put 20 = .ok (.aload_n 0, 1) := by decide +kernel
theorem dX4_put_21 : decode cX4_put 21 = .ok (.getfield 18, 3) := by decide +kernel
theorem dX4_put_24 : decode cX4_put 24 = .ok (.aload_n 0, 1) := by decide +kernel
theorem dX4_put_25 : decode cX4_put 25 = .ok (.getfield 24, 3) := by decide +kernel
theorem dX4_put_28 : decode cX4_put 28 = .ok (.iload_n 3, 1) := by decide +kernel
theorem dX4_put_29 : decode cX4_put 29 = .ok (.iastore, 1) := by decide +kernel
theorem dX4_put_30 : decode cX4_put 30 = .ok (.aload_n 0, 1) := by decide +kernel
theorem dX4_put_31 : decode cX4_put 31 = .ok (.getfield 21, 3) := by decide +kernel
theorem dX4_put_34 : decode cX4_put 34 = .ok (.aload_n 0, 1) := by decide +kernel
theorem dX4_put_35 : decode cX4_put 35 = .ok (.getfield 24, 3) := by decide +kernel
theorem dX4_put_38 : decode cX4_put 38 = .ok (.aload_n 0, 1) := by decide +kernel
theorem dX4_put_39 : decode cX4_put 39 = .ok (.aload_n 0, 1) := by decide +kernel
theorem dX4_put_40 : decode cX4_put 40 = .ok (.getfield 24, 3) := by decide +kernel
theorem dX4_put_43 : decode cX4_put 43 = .ok (.invokevirtual 34, 3) := by decide +kernel
theorem dX4_put_46 : decode cX4_put 46 = .ok (.iastore, 1) := by decide +kernel
theorem dX4_put_47 : decode cX4_put 47 = .ok (.aload_n 0, 1) := by decide +kernel
theorem dX4_put_48 : decode cX4_put 48 = .ok (.dup, 1) := by decide +kernel
theorem dX4_put_49 : decode cX4_put 49 = .ok (.getfield 24, 3) := by decide +kernel
theorem dX4_put_52 : decode cX4_put 52 = .ok (.iconst 1, 1) := by decide +kernel
theorem dX4_put_53 : decode cX4_put 53 = .ok (.iadd, 1) := by decide +kernel
theorem dX4_put_54 : decode cX4_put 54 = .ok (.putfield 24, 3) := by decide +kernel
theorem dX4_put_57 : decode cX4_put 57 = .ok (.return_, 1) := by decide +kernel
theorem dX4_rewrite_0 : decode cX4_rewrite 0 = .ok (.aload_n 0, 1) := by decide +kernel
theorem dX4_rewrite_1 : decode cX4_rewrite 1 = .ok (.getfield 9, 3) := by decide +kernel
theorem dX4_rewrite_4 : decode cX4_rewrite 4 = .ok (.iload_n 1, 1) := by decide +kernel
theorem dX4_rewrite_5 : decode cX4_rewrite 5 = .ok (.iaload, 1) := by decide +kernel
theorem dX4_rewrite_6 : decode cX4_rewrite 6 = .ok (.istore 4, 2) := by decide +kernel
theorem dX4_rewrite_8 : decode cX4_rewrite 8 = .ok (.aload_n 0, 1) := by decide +kernel
theorem dX4_rewrite_9 : decode cX4_rewrite 9 = .ok (.getfield 9, 3) := by decide +kernel
theorem dX4_rewrite_12 : decode cX4_rewrite 12 = .ok (.iload_n 1, 1) := by decide +kernel
theorem dX4_rewrite_13 : decode cX4_rewrite 13 = .ok (.iload_n 2, 1) := by decide +kernel
theorem dX4_rewrite_14 : decode cX4_rewrite 14 = .ok (.iastore, 1) := by decide +kernel
theorem dX4_rewrite_15 : decode cX4_rewrite 15 = .ok (.aload_n 0, 1) := by decide +kernel
theorem dX4_rewrite_16 : decode cX4_rewrite 16 = .ok (.getfield 15, 3) := by decide +kernel
theorem dX4_rewrite_19 : decode cX4_rewrite 19 = .ok (.iload_n 1, 1) := by decide +kernel
theorem dX4_rewrite_20 : decode cX4_rewrite 20 = .ok (.iload_n 3, 1) := by decide +kernel
theorem dX4_rewrite_21 : decode cX4_rewrite 21 = .ok (.iastore, 1) := by decide +kernel
theorem dX4_rewrite_22 : decode cX4_rewrite 22 = .ok (.iload_n 1, 1) := by decide +kernel
theorem dX4_rewrite_23 : decode cX4_rewrite 23 = .ok (.istore 5, 2) := by decide +kernel
theorem dX4_rewrite_25 : decode cX4_rewrite 25 = .ok (.iload 5, 2) := by decide +kernel
theorem dX4_rewrite_27 : decode cX4_rewrite 27 = .ok (.aload_n 0, 1) := by decide +kernel
theorem dX4_rewrite_28 : decode cX4_rewrite 28 = .ok (.getfield 24, 3) := by decide +kernel
theorem dX4_rewrite_31 : decode cX4_rewrite 31 = .ok (.if_icmp .ge 22, 3) := by decide +kernel
theorem dX4_rewrite_34 : decode cX4_rewrite 34 = .ok (.aload_n 0, 1) := by decide +kernel
theorem dX4_rewrite_35 : decode cX4_rewrite 35 = .ok (.getfield 21, 3) := by decide +kernel
theorem dX4_rewrite_38 : decode cX4_rewrite 38 = .ok (.iload 5, 2) := by decide +kernel
theorem dX4_rewrite_40 : decode cX4_rewrite 40 = .ok (.aload_n 0, 1) := by decide +kernel
theorem dX4_rewrite_41 : decode cX4_rewrite 41 = .ok (.iload 5, 2) := by decide +kernel
theorem dX4_rewrite_43 : decode cX4_rewrite 43 = .ok (.invokevirtual 34, 3) := by decide +kernel
theorem dX4_rewrite_46 : decode cX4_rewrite 46 = .ok (.iastore, 1) := by decide +kernel
theorem dX4_rewrite_47 : decode cX4_rewrite 47 = .ok (.iinc 5 1, 3) := by decide +kernel
theorem dX4_rewrite_50 : decode cX4_rewrite 50 = .ok (.goto (-25), 3) := by decide +kernel
theorem dX4_rewrite_53 : decode cX4_rewrite 53 = .ok (.iload 4, 2) := by decide +kernel
theorem dX4_rewrite_55 : decode cX4_rewrite 55 = .ok (.ireturn, 1) := by decide +kernel
theorem dX4_findNeeds_0 : decode cX4_findNeeds 0 = .ok (.iconst 0, 1) := by decide +kernel
theorem dX4_findNeeds_1 : decode cX4_findNeeds 1 = .ok (.istore_n 2, 1) := by decide +kernel
theorem dX4_findNeeds_2 : decode cX4_findNeeds 2 = .ok (.aload_n 0, 1) := by decide +kernel
theorem dX4_findNeeds_3 : decode cX4_findNeeds 3 = .ok (.getfield 9, 3) := by decide +kernel
theorem dX4_findNeeds_6 : decode cX4_findNeeds 6 = .ok (.iload_n 1, 1) := by decide +kernel
theorem dX4_findNeeds_7 : decode cX4_findNeeds 7 = .ok (.iaload, 1) := by decide +kernel
theorem dX4_findNeeds_8 : decode cX4_findNeeds 8 = .ok (.istore_n 3, 1) := by decide +kernel
theorem dX4_findNeeds_9 : decode cX4_findNeeds 9 = .ok (.iload_n 1, 1) := by decide +kernel
theorem dX4_findNeeds_10 : decode cX4_findNeeds 10 = .ok (.iconst 1, 1) := by decide +kernel
theorem dX4_findNeeds_11 : decode cX4_findNeeds 11 = .ok (.isub, 1) := by decide +kernel
theorem dX4_findNeeds_12 : decode cX4_findNeeds 12 = .ok (.istore 4, 2) := by decide +kernel
theorem dX4_findNeeds_14 : decode cX4_findNeeds 14 = .ok (.iload 4, 2) := by decide +kernel
theorem dX4_findNeeds_16 : decode cX4_findNeeds 16 = .ok (.ifCond .lt 44, 3) := by decide +kernel
theorem dX4_findNeeds_19 : decode cX4_findNeeds 19 = .ok (.iload_n 3, 1) := by decide +kernel
theorem dX4_findNeeds_20 : decode cX4_findNeeds 20 = .ok (.ifCond .eq 40, 3) := by decide +kernel
theorem dX4_findNeeds_23 : decode cX4_findNeeds 23 = .ok (.aload_n 0, 1) := by decide +kernel
theorem dX4_findNeeds_24 : decode cX4_findNeeds 24 = .ok (.getfield 9, 3) := by decide +kernel
theorem dX4_findNeeds_27 : decode cX4_findNeeds 27 = .ok (.iload 4, 2) := by decide +kernel
theorem dX4_findNeeds_29 : decode cX4_findNeeds 29 = .ok (.iaload, 1) := by decide +kernel
theorem dX4_findNeeds_30 : decode cX4_findNeeds 30 = .ok (.iload_n 3, 1) := by decide +kernel
theorem dX4_findNeeds_31 : decode cX4_findNeeds 31 = .ok (.iand, 1) := by decide +kernel
theorem dX4_findNeeds_32 : decode cX4_findNeeds 32 = .ok (.ifCond .eq 22, 3) := by decide +kernel
theorem dX4_findNeeds_35 : decode cX4_findNeeds 35 = .ok (.iload_n 2, 1) := by decide +kernel
theorem dX4_findNeeds_36 : decode cX4_findNeeds 36 = .ok (.iconst 1, 1) := by decide +kernel
theorem dX4_findNeeds_37 : decode cX4_findNeeds 37 = .ok (.iload 4, 2) := by decide +kernel
theorem dX4_findNeeds_39 : decode cX4_findNeeds 39 = .ok (.ishl, 1) := by decide +kernel
theorem dX4_findNeeds_40 : decode cX4_findNeeds 40 = .ok (.ior, 1) := by decide +kernel
theorem dX4_findNeeds_41 : decode cX4_findNeeds 41 = .ok (.istore_n 2, 1) := by decide +kernel
theorem dX4_findNeeds_42 : decode cX4_findNeeds 42 = .ok (.iload_n 3, 1) := by decide +kernel
theorem dX4_findNeeds_43 : decode cX4_findNeeds 43 = .ok (.aload_n 0, 1) := by decide +kernel
theorem dX4_findNeeds_44 : decode cX4_findNeeds 44 = .ok (.getfield 9, 3) := by decide +kernel
theorem dX4_findNeeds_47 : decode cX4_findNeeds 47 = .ok (.iload 4, 2) := by decide +kernel
theorem dX4_findNeeds_49 : decode cX4_findNeeds 49 = .ok (.iaload, 1) := by decide +kernel
theorem dX4_findNeeds_50 : decode cX4_findNeeds 50 = .ok (.iconst (-1), 1) := by decide +kernel
theorem dX4_findNeeds_51 : decode cX4_findNeeds 51 = .ok (.ixor, 1) := by decide +kernel
theorem dX4_findNeeds_52 : decode cX4_findNeeds 52 = .ok (.iand, 1) := by decide +kernel
theorem dX4_findNeeds_53 : decode cX4_findNeeds 53 = .ok (.istore_n 3, 1) := by decide +kernel
theorem dX4_findNeeds_54 : decode cX4_findNeeds 54 = .ok (.iinc 4 (-1), 3) := by decide +kernel
theorem dX4_findNeeds_57 : decode cX4_findNeeds 57 = .ok (.goto (-43), 3) := by decide +kernel
theorem dX4_findNeeds_60 : decode cX4_findNeeds 60 = .ok (.iload_n 2, 1) := by decide +kernel
theorem dX4_findNeeds_61 : decode cX4_findNeeds 61 = .ok (.ireturn, 1) := by decide +kernel
theorem dX4_allNeeds_0 : decode cX4_allNeeds 0 = .ok (.aload_n 0, 1) := by decide +kernel
theorem dX4_allNeeds_1 : decode cX4_allNeeds 1 = .ok (.getfield 21, 3) := by decide +kernel
theorem dX4_allNeeds_4 : decode cX4_allNeeds 4 = .ok (.iload_n 1, 1) := by decide +kernel
theorem dX4_allNeeds_5 : decode cX4_allNeeds 5 = .ok (.iaload, 1) := by decide +kernel
theorem dX4_allNeeds_6 : decode cX4_allNeeds 6 = .ok (.iload_n 2, 1) := by decide +kernel
theorem dX4_allNeeds_7 : decode cX4_allNeeds 7 = .ok (.iand, 1) := by decide +kernel
theorem dX4_allNeeds_8 : decode cX4_allNeeds 8 = .ok (.istore_n 3, 1) := by decide +kernel
theorem dX4_allNeeds_9 : decode cX4_allNeeds 9 = .ok (.iload_n 1, 1) := by decide +kernel
theorem dX4_allNeeds_10 : decode cX4_allNeeds 10 = .ok (.iconst 1, 1) := by decide +kernel
theorem dX4_allNeeds_11 : decode cX4_allNeeds 11 = .ok (.isub, 1) := by decide +kernel
theorem dX4_allNeeds_12 : decode cX4_allNeeds 12 = .ok (.istore 4, 2) := by decide +kernel
theorem dX4_allNeeds_14 : decode cX4_allNeeds 14 = .ok (.iload 4, 2) := by decide +kernel
theorem dX4_allNeeds_16 : decode cX4_allNeeds 16 = .ok (.ifCond .lt 30, 3) := by decide +kernel
theorem dX4_allNeeds_19 : decode cX4_allNeeds 19 = .ok (.iload_n 3, 1) := by decide +kernel
theorem dX4_allNeeds_20 : decode cX4_allNeeds 20 = .ok (.iload 4, 2) := by decide +kernel
theorem dX4_allNeeds_22 : decode cX4_allNeeds 22 = .ok (.invokestatic 38, 3) := by decide +kernel
theorem dX4_allNeeds_25 : decode cX4_allNeeds 25 = .ok (.ifCond .eq 15, 3) := by decide +kernel
theorem dX4_allNeeds_28 : decode cX4_allNeeds 28 = .ok (.iload_n 3, 1) := by decide +kernel
theorem dX4_allNeeds_29 : decode cX4_allNeeds 29 = .ok (.aload_n 0, 1) := by decide +kernel
theorem dX4_allNeeds_30 : decode cX4_allNeeds 30 = .ok (.getfield 21, 3) := by decide +kernel
theorem dX4_allNeeds_33 : decode cX4_allNeeds 33 = .ok (.iload 4, 2) := by decide +kernel
theorem dX4_allNeeds_35 : decode cX4_allNeeds 35 = .ok (.iaload, 1) := by decide +kernel
theorem dX4_allNeeds_36 : decode cX4_allNeeds 36 = .ok (.iload_n 2, 1) := by decide +kernel
theorem dX4_allNeeds_37 : decode cX4_allNeeds 37 = .ok (.iand, 1) := by decide +kernel
theorem dX4_allNeeds_38 : decode cX4_allNeeds 38 = .ok (.ior, 1) := by decide +kernel
theorem dX4_allNeeds_39 : decode cX4_allNeeds 39 = .ok (.istore_n 3, 1) := by decide +kernel
theorem dX4_allNeeds_40 : decode cX4_allNeeds 40 = .ok (.iinc 4 (-1), 3) := by decide +kernel
theorem dX4_allNeeds_43 : decode cX4_allNeeds 43 = .ok (.goto (-29), 3) := by decide +kernel
theorem dX4_allNeeds_46 : decode cX4_allNeeds 46 = .ok (.iload_n 3, 1) := by decide +kernel
theorem dX4_allNeeds_47 : decode cX4_allNeeds 47 = .ok (.ireturn, 1) := by decide +kernel
theorem dX4_howManyNeed_0 : decode cX4_howManyNeed 0 = .ok (.iconst 0, 1) := by decide +kernel
theorem dX4_howManyNeed_1 : decode cX4_howManyNeed 1 = .ok (.istore_n 2, 1) := by decide +kernel
theorem dX4_howManyNeed_2 : decode cX4_howManyNeed 2 = .ok (.iload_n 1, 1) := by decide +kernel
theorem dX4_howManyNeed_3 : decode cX4_howManyNeed 3 = .ok (.iconst 1, 1) := by decide +kernel
theorem dX4_howManyNeed_4 : decode cX4_howManyNeed 4 = .ok (.iadd, 1) := by decide +kernel
theorem dX4_howManyNeed_5 : decode cX4_howManyNeed 5 = .ok (.istore_n 3, 1) := by decide +kernel
theorem dX4_howManyNeed_6 : decode cX4_howManyNeed 6 = .ok (.iload_n 3, 1) := by decide +kernel
theorem dX4_howManyNeed_7 : decode cX4_howManyNeed 7 = .ok (.aload_n 0, 1) := by decide +kernel
theorem dX4_howManyNeed_8 : decode cX4_howManyNeed 8 = .ok (.getfield 24, 3) := by decide +kernel
theorem dX4_howManyNeed_11 : decode cX4_howManyNeed 11 = .ok (.if_icmp .ge 22, 3) := by decide +kernel
theorem dX4_howManyNeed_14 : decode cX4_howManyNeed 14 = .ok (.iload_n 2, 1) := by decide +kernel
theorem dX4_howManyNeed_15 : decode cX4_howManyNeed 15 = .ok (.aload_n 0, 1) := by decide +kernel
theorem dX4_howManyNeed_16 : decode cX4_howManyNeed 16 = .ok (.getfield 21, 3) := by decide +kernel
theorem dX4_howManyNeed_19 : decode cX4_howManyNeed 19 = .ok (.iload_n 3, 1) := by decide +kernel
theorem dX4_howManyNeed_20 : decode cX4_howManyNeed 20 = .ok (.iaload, 1) := by decide +kernel
theorem dX4_howManyNeed_21 : decode cX4_howManyNeed 21 = .ok (.iload_n 1, 1) := by decide +kernel
theorem dX4_howManyNeed_22 : decode cX4_howManyNeed 22 = .ok (.ishr, 1) := by decide +kernel
theorem dX4_howManyNeed_23 : decode cX4_howManyNeed 23 = .ok (.iconst 1, 1) := by decide +kernel
theorem dX4_howManyNeed_24 : decode cX4_howManyNeed 24 = .ok (.iand, 1) := by decide +kernel
theorem dX4_howManyNeed_25 : decode cX4_howManyNeed 25 = .ok (.iadd, 1) := by decide +kernel
theorem dX4_howManyNeed_26 : decode cX4_howManyNeed 26 = .ok (.istore_n 2, 1) := by decide +kernel
theorem dX4_howManyNeed_27 : decode cX4_howManyNeed 27 = .ok (.iinc 3 1, 3) := by decide +kernel
theorem dX4_howManyNeed_30 : decode cX4_howManyNeed 30 = .ok (.goto (-24), 3) := by decide +kernel
theorem dX4_howManyNeed_33 : decode cX4_howManyNeed 33 = .ok (.iload_n 2, 1) := by decide +kernel
theorem dX4_howManyNeed_34 : decode cX4_howManyNeed 34 = .ok (.ireturn, 1) := by decide +kernel
theorem dX4_everyPart_0 : decode cX4_everyPart 0 = .ok (.iconst 1, 1) := by decide +kernel
theorem dX4_everyPart_1 : decode cX4_everyPart 1 = .ok (.aload_n 0, 1) := by decide +kernel
theorem dX4_everyPart_2 : decode cX4_everyPart 2 = .ok (.getfield 24, 3) := by decide +kernel
theorem dX4_everyPart_5 : decode cX4_everyPart 5 = .ok (.ishl, 1) := by decide +kernel
theorem dX4_everyPart_6 : decode cX4_everyPart 6 = .ok (.iconst 1, 1) := by decide +kernel
theorem dX4_everyPart_7 : decode cX4_everyPart 7 = .ok (.isub, 1) := by decide +kernel
theorem dX4_everyPart_8 : decode cX4_everyPart 8 = .ok (.ireturn, 1) := by decide +kernel
theorem dX4_sumOfWords_0 : decode cX4_sumOfWords 0 = .ok (.iconst 0, 1) := by decide +kernel
theorem dX4_sumOfWords_1 : decode cX4_sumOfWords 1 = .ok (.istore_n 1, 1) := by decide +kernel
theorem dX4_sumOfWords_2 : decode cX4_sumOfWords 2 = .ok (.iconst 0, 1) := by decide +kernel
theorem dX4_sumOfWords_3 : decode cX4_sumOfWords 3 = .ok (.istore_n 2, 1) := by decide +kernel
theorem dX4_sumOfWords_4 : decode cX4_sumOfWords 4 = .ok (.iload_n 2, 1) := by decide +kernel
theorem dX4_sumOfWords_5 : decode cX4_sumOfWords 5 = .ok (.aload_n 0, 1) := by decide +kernel
theorem dX4_sumOfWords_6 : decode cX4_sumOfWords 6 = .ok (.getfield 24, 3) := by decide +kernel
theorem dX4_sumOfWords_9 : decode cX4_sumOfWords 9 = .ok (.if_icmp .ge 18, 3) := by decide +kernel
theorem dX4_sumOfWords_12 : decode cX4_sumOfWords 12 = .ok (.iload_n 1, 1) := by decide +kernel
theorem dX4_sumOfWords_13 : decode cX4_sumOfWords 13 = .ok (.aload_n 0, 1) := by decide +kernel
theorem dX4_sumOfWords_14 : decode cX4_sumOfWords 14 = .ok (.getfield 18, 3) := by decide +kernel
theorem dX4_sumOfWords_17 : decode cX4_sumOfWords 17 = .ok (.iload_n 2, 1) := by decide +kernel
theorem dX4_sumOfWords_18 : decode cX4_sumOfWords 18 = .ok (.iaload, 1) := by decide +kernel
theorem dX4_sumOfWords_19 : decode cX4_sumOfWords 19 = .ok (.iadd, 1) := by decide +kernel
theorem dX4_sumOfWords_20 : decode cX4_sumOfWords 20 = .ok (.istore_n 1, 1) := by decide +kernel
theorem dX4_sumOfWords_21 : decode cX4_sumOfWords 21 = .ok (.iinc 2 1, 3) := by decide +kernel
theorem dX4_sumOfWords_24 : decode cX4_sumOfWords 24 = .ok (.goto (-20), 3) := by decide +kernel
theorem dX4_sumOfWords_27 : decode cX4_sumOfWords 27 = .ok (.iload_n 1, 1) := by decide +kernel
theorem dX4_sumOfWords_28 : decode cX4_sumOfWords 28 = .ok (.ireturn, 1) := by decide +kernel
theorem dX4_howManyGoOnWith_0 : decode cX4_howManyGoOnWith 0 = .ok (.iconst 0, 1) := by decide +kernel
theorem dX4_howManyGoOnWith_1 : decode cX4_howManyGoOnWith 1 = .ok (.istore_n 2, 1) := by decide +kernel
theorem dX4_howManyGoOnWith_2 : decode cX4_howManyGoOnWith 2 = .ok (.iconst 0, 1) := by decide +kernel
theorem dX4_howManyGoOnWith_3 : decode cX4_howManyGoOnWith 3 = .ok (.istore_n 3, 1) := by decide +kernel
theorem dX4_howManyGoOnWith_4 : decode cX4_howManyGoOnWith 4 = .ok (.iload_n 3, 1) := by decide +kernel
theorem dX4_howManyGoOnWith_5 : decode cX4_howManyGoOnWith 5 = .ok (.aload_n 0, 1) := by decide +kernel
theorem dX4_howManyGoOnWith_6 : decode cX4_howManyGoOnWith 6 = .ok (.getfield 24, 3) := by decide +kernel
theorem dX4_howManyGoOnWith_9 : decode cX4_howManyGoOnWith 9 = .ok (.if_icmp .ge 22, 3) := by decide +kernel
theorem dX4_howManyGoOnWith_12 : decode cX4_howManyGoOnWith 12 = .ok (.iload_n 2, 1) := by decide +kernel
theorem dX4_howManyGoOnWith_13 : decode cX4_howManyGoOnWith 13 = .ok (.aload_n 0, 1) := by decide +kernel
theorem dX4_howManyGoOnWith_14 : decode cX4_howManyGoOnWith 14 = .ok (.getfield 9, 3) := by decide +kernel
theorem dX4_howManyGoOnWith_17 : decode cX4_howManyGoOnWith 17 = .ok (.iload_n 3, 1) := by decide +kernel
theorem dX4_howManyGoOnWith_18 : decode cX4_howManyGoOnWith 18 = .ok (.iaload, 1) := by decide +kernel
theorem dX4_howManyGoOnWith_19 : decode cX4_howManyGoOnWith 19 = .ok (.iload_n 1, 1) := by decide +kernel
theorem dX4_howManyGoOnWith_20 : decode cX4_howManyGoOnWith 20 = .ok (.ishr, 1) := by decide +kernel
theorem dX4_howManyGoOnWith_21 : decode cX4_howManyGoOnWith 21 = .ok (.iconst 1, 1) := by decide +kernel
theorem dX4_howManyGoOnWith_22 : decode cX4_howManyGoOnWith 22 = .ok (.iand, 1) := by decide +kernel
theorem dX4_howManyGoOnWith_23 : decode cX4_howManyGoOnWith 23 = .ok (.iadd, 1) := by decide +kernel
theorem dX4_howManyGoOnWith_24 : decode cX4_howManyGoOnWith 24 = .ok (.istore_n 2, 1) := by decide +kernel
theorem dX4_howManyGoOnWith_25 : decode cX4_howManyGoOnWith 25 = .ok (.iinc 3 1, 3) := by decide +kernel
theorem dX4_howManyGoOnWith_28 : decode cX4_howManyGoOnWith 28 = .ok (.goto (-24), 3) := by decide +kernel
theorem dX4_howManyGoOnWith_31 : decode cX4_howManyGoOnWith 31 = .ok (.iload_n 2, 1) := by decide +kernel
theorem dX4_howManyGoOnWith_32 : decode cX4_howManyGoOnWith 32 = .ok (.ireturn, 1) := by decide +kernel
theorem dX4_latestWith_0 : decode cX4_latestWith 0 = .ok (.aload_n 0, 1) := by decide +kernel
theorem dX4_latestWith_1 : decode cX4_latestWith 1 = .ok (.getfield 24, 3) := by decide +kernel
theorem dX4_latestWith_4 : decode cX4_latestWith 4 = .ok (.iconst 1, 1) := by decide +kernel
theorem dX4_latestWith_5 : decode cX4_latestWith 5 = .ok (.isub, 1) := by decide +kernel
theorem dX4_latestWith_6 : decode cX4_latestWith 6 = .ok (.istore_n 2, 1) := by decide +kernel
theorem dX4_latestWith_7 : decode cX4_latestWith 7 = .ok (.iload_n 2, 1) := by decide +kernel
theorem dX4_latestWith_8 : decode cX4_latestWith 8 = .ok (.ifCond .lt 24, 3) := by decide +kernel
theorem dX4_latestWith_11 : decode cX4_latestWith 11 = .ok (.aload_n 0, 1) := by decide +kernel
theorem dX4_latestWith_12 : decode cX4_latestWith 12 = .ok (.getfield 9, 3) := by decide +kernel
theorem dX4_latestWith_15 : decode cX4_latestWith 15 = .ok (.iload_n 2, 1) := by decide +kernel
theorem dX4_latestWith_16 : decode cX4_latestWith 16 = .ok (.iaload, 1) := by decide +kernel
theorem dX4_latestWith_17 : decode cX4_latestWith 17 = .ok (.iload_n 1, 1) := by decide +kernel
theorem dX4_latestWith_18 : decode cX4_latestWith 18 = .ok (.invokestatic 38, 3) := by decide +kernel
theorem dX4_latestWith_21 : decode cX4_latestWith 21 = .ok (.ifCond .eq 5, 3) := by decide +kernel
theorem dX4_latestWith_24 : decode cX4_latestWith 24 = .ok (.iload_n 2, 1) := by decide +kernel
theorem dX4_latestWith_25 : decode cX4_latestWith 25 = .ok (.ireturn, 1) := by decide +kernel
theorem dX4_latestWith_26 : decode cX4_latestWith 26 = .ok (.iinc 2 (-1), 3) := by decide +kernel
theorem dX4_latestWith_29 : decode cX4_latestWith 29 = .ok (.goto (-22), 3) := by decide +kernel
theorem dX4_latestWith_32 : decode cX4_latestWith 32 = .ok (.iconst (-1), 1) := by decide +kernel
theorem dX4_latestWith_33 : decode cX4_latestWith 33 = .ok (.ireturn, 1) := by decide +kernel
theorem dX4_howManyCliffs_0 : decode cX4_howManyCliffs 0 = .ok (.iconst 0, 1) := by decide +kernel
theorem dX4_howManyCliffs_1 : decode cX4_howManyCliffs 1 = .ok (.istore_n 2, 1) := by decide +kernel
theorem dX4_howManyCliffs_2 : decode cX4_howManyCliffs 2 = .ok (.iconst 0, 1) := by decide +kernel
theorem dX4_howManyCliffs_3 : decode cX4_howManyCliffs 3 = .ok (.istore_n 3, 1) := by decide +kernel
theorem dX4_howManyCliffs_4 : decode cX4_howManyCliffs 4 = .ok (.iload_n 3, 1) := by decide +kernel
theorem dX4_howManyCliffs_5 : decode cX4_howManyCliffs 5 = .ok (.aload_n 0, 1) := by decide +kernel
theorem dX4_howManyCliffs_6 : decode cX4_howManyCliffs 6 = .ok (.getfield 24, 3) := by decide +kernel
theorem dX4_howManyCliffs_9 : decode cX4_howManyCliffs 9 = .ok (.if_icmp .ge 22, 3) := by decide +kernel
theorem dX4_howManyCliffs_12 : decode cX4_howManyCliffs 12 = .ok (.aload_n 0, 1) := by decide +kernel
theorem dX4_howManyCliffs_13 : decode cX4_howManyCliffs 13 = .ok (.getfield 15, 3) := by decide +kernel
theorem dX4_howManyCliffs_16 : decode cX4_howManyCliffs 16 = .ok (.iload_n 3, 1) := by decide +kernel
theorem dX4_howManyCliffs_17 : decode cX4_howManyCliffs 17 = .ok (.iaload, 1) := by decide +kernel
theorem dX4_howManyCliffs_18 : decode cX4_howManyCliffs 18 = .ok (.iload_n 1, 1) := by decide +kernel
theorem dX4_howManyCliffs_19 : decode cX4_howManyCliffs 19 = .ok (.if_icmp .ne 6, 3) := by decide +kernel
theorem dX4_howManyCliffs_22 : decode cX4_howManyCliffs 22 = .ok (.iinc 2 1, 3) := by decide +kernel
theorem dX4_howManyCliffs_25 : decode cX4_howManyCliffs 25 = .ok (.iinc 3 1, 3) := by decide +kernel
theorem dX4_howManyCliffs_28 : decode cX4_howManyCliffs 28 = .ok (.goto (-24), 3) := by decide +kernel
theorem dX4_howManyCliffs_31 : decode cX4_howManyCliffs 31 = .ok (.iload_n 2, 1) := by decide +kernel
theorem dX4_howManyCliffs_32 : decode cX4_howManyCliffs 32 = .ok (.ireturn, 1) := by decide +kernel
theorem dX4_openCliffs_0 : decode cX4_openCliffs 0 = .ok (.iconst 0, 1) := by decide +kernel
theorem dX4_openCliffs_1 : decode cX4_openCliffs 1 = .ok (.istore_n 2, 1) := by decide +kernel
theorem dX4_openCliffs_2 : decode cX4_openCliffs 2 = .ok (.iconst 0, 1) := by decide +kernel
theorem dX4_openCliffs_3 : decode cX4_openCliffs 3 = .ok (.istore_n 3, 1) := by decide +kernel
theorem dX4_openCliffs_4 : decode cX4_openCliffs 4 = .ok (.aload_n 0, 1) := by decide +kernel
theorem dX4_openCliffs_5 : decode cX4_openCliffs 5 = .ok (.getfield 24, 3) := by decide +kernel
theorem dX4_openCliffs_8 : decode cX4_openCliffs 8 = .ok (.iconst 1, 1) := by decide +kernel
theorem dX4_openCliffs_9 : decode cX4_openCliffs 9 = .ok (.isub, 1) := by decide +kernel
theorem dX4_openCliffs_10 : decode cX4_openCliffs 10 = .ok (.istore 4, 2) := by decide +kernel
theorem dX4_openCliffs_12 : decode cX4_openCliffs 12 = .ok (.iload 4, 2) := by decide +kernel
theorem dX4_openCliffs_14 : decode cX4_openCliffs 14 = .ok (.ifCond .lt 65, 3) := by decide +kernel
theorem dX4_openCliffs_17 : decode cX4_openCliffs 17 = .ok (.iload_n 1, 1) := by decide +kernel
theorem dX4_openCliffs_18 : decode cX4_openCliffs 18 = .ok (.iload 4, 2) := by decide +kernel
theorem dX4_openCliffs_20 : decode cX4_openCliffs 20 = .ok (.invokestatic 38, 3) := by decide +kernel
theorem dX4_openCliffs_23 : decode cX4_openCliffs 23 = .ok (.ifCond .eq 50, 3) := by decide +kernel
theorem dX4_openCliffs_26 : decode cX4_openCliffs 26 = .ok (.aload_n 0, 1) := by decide +kernel
theorem dX4_openCliffs_27 : decode cX4_openCliffs 27 = .ok (.getfield 15, 3) := by decide +kernel
theorem dX4_openCliffs_30 : decode cX4_openCliffs 30 = .ok (.iload 4, 2) := by decide +kernel
theorem dX4_openCliffs_32 : decode cX4_openCliffs 32 = .ok (.iaload, 1) := by decide +kernel
theorem dX4_openCliffs_33 : decode cX4_openCliffs 33 = .ok (.iconst (-1), 1) := by decide +kernel
theorem dX4_openCliffs_34 : decode cX4_openCliffs 34 = .ok (.if_icmp .eq 29, 3) := by decide +kernel
theorem dX4_openCliffs_37 : decode cX4_openCliffs 37 = .ok (.iload_n 3, 1) := by decide +kernel
theorem dX4_openCliffs_38 : decode cX4_openCliffs 38 = .ok (.aload_n 0, 1) := by decide +kernel
theorem dX4_openCliffs_39 : decode cX4_openCliffs 39 = .ok (.getfield 15, 3) := by decide +kernel
theorem dX4_openCliffs_42 : decode cX4_openCliffs 42 = .ok (.iload 4, 2) := by decide +kernel
theorem dX4_openCliffs_44 : decode cX4_openCliffs 44 = .ok (.iaload, 1) := by decide +kernel
theorem dX4_openCliffs_45 : decode cX4_openCliffs 45 = .ok (.invokestatic 38, 3) := by decide +kernel
theorem dX4_openCliffs_48 : decode cX4_openCliffs 48 = .ok (.ifCond .ne 15, 3) := by decide +kernel
theorem dX4_openCliffs_51 : decode cX4_openCliffs 51 = .ok (.iload_n 2, 1) := by decide +kernel
theorem dX4_openCliffs_52 : decode cX4_openCliffs 52 = .ok (.iconst 1, 1) := by decide +kernel
theorem dX4_openCliffs_53 : decode cX4_openCliffs 53 = .ok (.aload_n 0, 1) := by decide +kernel
theorem dX4_openCliffs_54 : decode cX4_openCliffs 54 = .ok (.getfield 15, 3) := by decide +kernel
theorem dX4_openCliffs_57 : decode cX4_openCliffs 57 = .ok (.iload 4, 2) := by decide +kernel
theorem dX4_openCliffs_59 : decode cX4_openCliffs 59 = .ok (.iaload, 1) := by decide +kernel
theorem dX4_openCliffs_60 : decode cX4_openCliffs 60 = .ok (.ishl, 1) := by decide +kernel
theorem dX4_openCliffs_61 : decode cX4_openCliffs 61 = .ok (.ior, 1) := by decide +kernel
theorem dX4_openCliffs_62 : decode cX4_openCliffs 62 = .ok (.istore_n 2, 1) := by decide +kernel
theorem dX4_openCliffs_63 : decode cX4_openCliffs 63 = .ok (.iload_n 3, 1) := by decide +kernel
theorem dX4_openCliffs_64 : decode cX4_openCliffs 64 = .ok (.aload_n 0, 1) := by decide +kernel
theorem dX4_openCliffs_65 : decode cX4_openCliffs 65 = .ok (.getfield 9, 3) := by decide +kernel
theorem dX4_openCliffs_68 : decode cX4_openCliffs 68 = .ok (.iload 4, 2) := by decide +kernel
theorem dX4_openCliffs_70 : decode cX4_openCliffs 70 = .ok (.iaload, 1) := by decide +kernel
theorem dX4_openCliffs_71 : decode cX4_openCliffs 71 = .ok (.ior, 1) := by decide +kernel
theorem dX4_openCliffs_72 : decode cX4_openCliffs 72 = .ok (.istore_n 3, 1) := by decide +kernel
theorem dX4_openCliffs_73 : decode cX4_openCliffs 73 = .ok (.iinc 4 (-1), 3) := by decide +kernel
theorem dX4_openCliffs_76 : decode cX4_openCliffs 76 = .ok (.goto (-64), 3) := by decide +kernel
theorem dX4_openCliffs_79 : decode cX4_openCliffs 79 = .ok (.iload_n 2, 1) := by decide +kernel
theorem dX4_openCliffs_80 : decode cX4_openCliffs 80 = .ok (.ireturn, 1) := by decide +kernel
theorem dX5_init_0 : decode cX5_init 0 = .ok (.aload_n 0, 1) := by decide +kernel
theorem dX5_init_1 : decode cX5_init 1 = .ok (.invokespecial 3, 3) := by decide +kernel
theorem dX5_init_4 : decode cX5_init 4 = .ok (.aload_n 0, 1) := by decide +kernel
theorem dX5_init_5 : decode cX5_init 5 = .ok (.bipush 60, 2) := by decide +kernel
theorem dX5_init_7 : decode cX5_init 7 = .ok (.newarray .int, 2) := by decide +kernel
theorem dX5_init_9 : decode cX5_init 9 = .ok (.putfield 9, 3) := by decide +kernel
theorem dX5_init_12 : decode cX5_init 12 = .ok (.aload_n 0, 1) := by decide +kernel
theorem dX5_init_13 : decode cX5_init 13 = .ok (.new 15, 3) := by decide +kernel
theorem dX5_init_16 : decode cX5_init 16 = .ok (.dup, 1) := by decide +kernel
theorem dX5_init_17 : decode cX5_init 17 = .ok (.invokespecial 17, 3) := by decide +kernel
theorem dX5_init_20 : decode cX5_init 20 = .ok (.putfield 18, 3) := by decide +kernel
theorem dX5_init_23 : decode cX5_init 23 = .ok (.return_, 1) := by decide +kernel
theorem dX5_put_0 : decode cX5_put 0 = .ok (.aload_n 0, 1) := by decide +kernel
theorem dX5_put_1 : decode cX5_put 1 = .ok (.getfield 9, 3) := by decide +kernel
theorem dX5_put_4 : decode cX5_put 4 = .ok (.aload_n 0, 1) := by decide +kernel
theorem dX5_put_5 : decode cX5_put 5 = .ok (.getfield 22, 3) := by decide +kernel
theorem dX5_put_8 : decode cX5_put 8 = .ok (.iload_n 1, 1) := by decide +kernel
theorem dX5_put_9 : decode cX5_put 9 = .ok (.iastore, 1) := by decide +kernel
theorem dX5_put_10 : decode cX5_put 10 = .ok (.aload_n 0, 1) := by decide +kernel
theorem dX5_put_11 : decode cX5_put 11 = .ok (.dup, 1) := by decide +kernel
theorem dX5_put_12 : decode cX5_put 12 = .ok (.getfield 22, 3) := by decide +kernel
theorem dX5_put_15 : decode cX5_put 15 = .ok (.iconst 1, 1) := by decide +kernel
theorem dX5_put_16 : decode cX5_put 16 = .ok (.iadd, 1) := by decide +kernel
theorem dX5_put_17 : decode cX5_put 17 = .ok (.putfield 22, 3) := by decide +kernel
theorem dX5_put_20 : decode cX5_put 20 = .ok (.return_, 1) := by decide +kernel
theorem dX5_readUntilError_0 : decode cX5_readUntilError 0 = .ok (.aload_n 0, 1) := by decide +kernel
theorem dX5_readUntilError_1 : decode cX5_readUntilError 1 = .ok (.getfield 18, 3) := by decide +kernel
theorem dX5_readUntilError_4 : decode cX5_readUntilError 4 = .ok (.invokevirtual 26, 3) := by decide +kernel
theorem dX5_readUntilError_7 : decode cX5_readUntilError 7 = .ok (.iconst 0, 1) := by decide +kernel
theorem dX5_readUntilError_8 : decode cX5_readUntilError 8 = .ok (.istore_n 1, 1) := by decide +kernel
theorem dX5_readUntilError_9 : decode cX5_readUntilError 9 = .ok (.iload_n 1, 1) := by decide +kernel
theorem dX5_readUntilError_10 : decode cX5_readUntilError 10 = .ok (.aload_n 0, 1) := by decide +kernel
theorem dX5_readUntilError_11 : decode cX5_readUntilError 11 = .ok (.getfield 22, 3) := by decide +kernel
theorem dX5_readUntilError_14 : decode cX5_readUntilError 14 = .ok (.if_icmp .ge 27, 3) := by decide +kernel
theorem dX5_readUntilError_17 : decode cX5_readUntilError 17 = .ok (.aload_n 0, 1) := by decide +kernel
theorem dX5_readUntilError_18 : decode cX5_readUntilError 18 = .ok (.getfield 18, 3) := by decide +kernel
theorem dX5_readUntilError_21 : decode cX5_readUntilError 21 = .ok (.aload_n 0, 1) := by decide +kernel
theorem dX5_readUntilError_22 : decode cX5_readUntilError 22 = .ok (.getfield 9, 3) := by decide +kernel
theorem dX5_readUntilError_25 : decode cX5_readUntilError 25 = .ok (.iload_n 1, 1) := by decide +kernel
theorem dX5_readUntilError_26 : decode cX5_readUntilError 26 = .ok (.iaload, 1) := by decide +kernel
theorem dX5_readUntilError_27 : decode cX5_readUntilError 27 = .ok (.invokevirtual 29, 3) := by decide +kernel
theorem dX5_readUntilError_30 : decode cX5_readUntilError 30 = .ok (.ifCond .ne 5, 3) := by decide +kernel
theorem dX5_readUntilError_33 : decode cX5_readUntilError 33 = .ok (.iload_n 1, 1) := by decide +kernel
theorem dX5_readUntilError_34 : decode cX5_readUntilError 34 = .ok (.ireturn, 1) := by decide +kernel
theorem dX5_readUntilError_35 : decode cX5_readUntilError 35 = .ok (.iinc 1 1, 3) := by decide +kernel
theorem dX5_readUntilError_38 : decode cX5_readUntilError 38 = .ok (.goto (-29), 3) := by decide +kernel
theorem dX5_readUntilError_41 : decode cX5_readUntilError 41 = .ok (.aload_n 0, 1) := by decide +kernel
theorem dX5_readUntilError_42 : decode cX5_readUntilError 42 = .ok (.getfield 22, 3) := by decide +kernel
theorem dX5_readUntilError_45 : decode cX5_readUntilError 45 = .ok (.ireturn, 1) := by decide +kernel
theorem dX5_isComplete_0 : decode cX5_isComplete 0 = .ok (.aload_n 0, 1) := by decide +kernel
theorem dX5_isComplete_1 : decode cX5_isComplete 1 = .ok (.invokevirtual 33, 3) := by decide +kernel
theorem dX5_isComplete_4 : decode cX5_isComplete 4 = .ok (.aload_n 0, 1) := by decide +kernel
theorem dX5_isComplete_5 : decode cX5_isComplete 5 = .ok (.getfield 22, 3) := by decide +kernel
theorem dX5_isComplete_8 : decode cX5_isComplete 8 = .ok (.if_icmp .ne 17, 3) := by decide +kernel
theorem dX5_isComplete_11 : decode cX5_isComplete 11 = .ok (.aload_n 0, 1) := by decide +kernel
theorem dX5_isComplete_12 : decode cX5_isComplete 12 = .ok (.getfield 18, 3) := by decide +kernel
theorem dX5_isComplete_15 : decode cX5_isComplete 15 = .ok (.invokevirtual 37, 3) := by decide +kernel
theorem dX5_isComplete_18 : decode cX5_isComplete 18 = .ok (.ifCond .eq 7, 3) := by decide +kernel
theorem dX5_isComplete_21 : decode cX5_isComplete 21 = .ok (.iconst 1, 1) := by decide +kernel
theorem dX5_isComplete_22 : decode cX5_isComplete 22 = .ok (.goto 4, 3) := by decide +kernel
theorem dX5_isComplete_25 : decode cX5_isComplete 25 = .ok (.iconst 0, 1) := by decide +kernel
theorem dX5_isComplete_26 : decode cX5_isComplete 26 = .ok (.ireturn, 1) := by decide +kernel
theorem dX5_completeParts_0 : decode cX5_completeParts 0 = .ok (.iconst 1, 1) := by decide +kernel
theorem dX5_completeParts_1 : decode cX5_completeParts 1 = .ok (.istore_n 1, 1) := by decide +kernel
theorem dX5_completeParts_2 : decode cX5_completeParts 2 = .ok (.iconst 0, 1) := by decide +kernel
theorem dX5_completeParts_3 : decode cX5_completeParts 3 = .ok (.istore_n 2, 1) := by decide +kernel
theorem dX5_completeParts_4 : decode cX5_completeParts 4 = .ok (.iload_n 2, 1) := by decide +kernel
theorem dX5_completeParts_5 : decode cX5_completeParts 5 = .ok (.aload_n 0, 1) := by decide +kernel
theorem dX5_completeParts_6 : decode cX5_completeParts 6 = .ok (.getfield 22, 3) := by decide +kernel
theorem dX5_completeParts_9 : decode cX5_completeParts 9 = .ok (.if_icmp .ge 23, 3) := by decide +kernel
theorem dX5_completeParts_12 : decode cX5_completeParts 12 = .ok (.aload_n 0, 1) := by decide +kernel
theorem dX5_completeParts_13 : decode cX5_completeParts 13 = .ok (.getfield 9, 3) := by decide +kernel
theorem dX5_completeParts_16 : decode cX5_completeParts 16 = .ok (.iload_n 2, 1) := by decide +kernel
theorem dX5_completeParts_17 : decode cX5_completeParts 17 = .ok (.iaload, 1) := by decide +kernel
theorem dX5_completeParts_18 : decode cX5_completeParts 18 = .ok (.bipush 59, 2) := by decide +kernel
theorem dX5_completeParts_20 : decode cX5_completeParts 20 = .ok (.if_icmp .ne 6, 3) := by decide +kernel
theorem dX5_completeParts_23 : decode cX5_completeParts 23 = .ok (.iinc 1 1, 3) := by decide +kernel
theorem dX5_completeParts_26 : decode cX5_completeParts 26 = .ok (.iinc 2 1, 3) := by decide +kernel
theorem dX5_completeParts_29 : decode cX5_completeParts 29 = .ok (.goto (-25), 3) := by decide +kernel
theorem dX5_completeParts_32 : decode cX5_completeParts 32 = .ok (.iload_n 1, 1) := by decide +kernel
theorem dX5_completeParts_33 : decode cX5_completeParts 33 = .ok (.ireturn, 1) := by decide +kernel
theorem dX5_tellTo_0 : decode cX5_tellTo 0 = .ok (.aload_n 0, 1) := by decide +kernel
theorem dX5_tellTo_1 : decode cX5_tellTo 1 = .ok (.getfield 18, 3) := by decide +kernel
theorem dX5_tellTo_4 : decode cX5_tellTo 4 = .ok (.invokevirtual 26, 3) := by decide +kernel
theorem dX5_tellTo_7 : decode cX5_tellTo 7 = .ok (.iconst 0, 1) := by decide +kernel
theorem dX5_tellTo_8 : decode cX5_tellTo 8 = .ok (.istore_n 2, 1) := by decide +kernel
theorem dX5_tellTo_9 : decode cX5_tellTo 9 = .ok (.iload_n 2, 1) := by decide +kernel
theorem dX5_tellTo_10 : decode cX5_tellTo 10 = .ok (.aload_n 0, 1) := by decide +kernel
theorem dX5_tellTo_11 : decode cX5_tellTo 11 = .ok (.getfield 22, 3) := by decide +kernel
theorem dX5_tellTo_14 : decode cX5_tellTo 14 = .ok (.if_icmp .ge 59, 3) := by decide +kernel
theorem dX5_tellTo_17 : decode cX5_tellTo 17 = .ok (.aload_n 0, 1) := by decide +kernel
theorem dX5_tellTo_18 : decode cX5_tellTo 18 = .ok (.getfield 9, 3) := by decide +kernel
theorem dX5_tellTo_21 : decode cX5_tellTo 21 = .ok (.iload_n 2, 1) := by decide +kernel
theorem dX5_tellTo_22 : decode cX5_tellTo 22 = .ok (.iaload, 1) := by decide +kernel
theorem dX5_tellTo_23 : decode cX5_tellTo 23 = .ok (.bipush 59, 2) := by decide +kernel
theorem dX5_tellTo_25 : decode cX5_tellTo 25 = .ok (.if_icmp .ne 28, 3) := by decide +kernel
theorem dX5_tellTo_28 : decode cX5_tellTo 28 = .ok (.aload_n 1, 1) := by decide +kernel
theorem dX5_tellTo_29 : decode cX5_tellTo 29 = .ok (.aload_n 0, 1) := by decide +kernel
theorem dX5_tellTo_30 : decode cX5_tellTo 30 = .ok (.getfield 18, 3) := by decide +kernel
theorem dX5_tellTo_33 : decode cX5_tellTo 33 = .ok (.getfield 41, 3) := by decide +kernel
theorem dX5_tellTo_36 : decode cX5_tellTo 36 = .ok (.aload_n 0, 1) := by decide +kernel
theorem dX5_tellTo_37 : decode cX5_tellTo 37 = .ok (.getfield 18, 3) := by decide +kernel
theorem dX5_tellTo_40 : decode cX5_tellTo 40 = .ok (.getfield 44, 3) := by decide +kernel
theorem dX5_tellTo_43 : decode cX5_tellTo 43 = .ok (.aload_n 0, 1) := by decide +kernel
theorem dX5_tellTo_44 : decode cX5_tellTo 44 = .ok (.getfield 18, 3) := by decide +kernel
theorem dX5_tellTo_47 : decode cX5_tellTo 47 = .ok (.getfield 47, 3) := by decide +kernel
theorem dX5_tellTo_50 : decode cX5_tellTo 50 = .ok (.invokevirtual 50, 3) := by decide +kernel
theorem dX5_tellTo_53 : decode cX5_tellTo 53 = .ok (.aload_n 0, 1) := by decide +kernel
theorem dX5_tellTo_54 : decode cX5_tellTo 54 = .ok (.getfield 18, 3) := by decide +kernel
theorem dX5_tellTo_57 : decode cX5_tellTo 57 = .ok (.aload_n 0, 1) := by decide +kernel
theorem dX5_tellTo_58 : decode cX5_tellTo 58 = .ok (.getfield 9, 3) := by decide +kernel
theorem dX5_tellTo_61 : decode cX5_tellTo 61 = .ok (.iload_n 2, 1) := by decide +kernel
theorem dX5_tellTo_62 : decode cX5_tellTo 62 = .ok (.iaload, 1) := by decide +kernel
theorem dX5_tellTo_63 : decode cX5_tellTo 63 = .ok (.invokevirtual 29, 3) := by decide +kernel
theorem dX5_tellTo_66 : decode cX5_tellTo 66 = .ok (.pop, 1) := by decide +kernel
theorem dX5_tellTo_67 : decode cX5_tellTo 67 = .ok (.iinc 2 1, 3) := by decide +kernel
theorem dX5_tellTo_70 : decode cX5_tellTo 70 = .ok (.goto (-61), 3) := by decide +kernel
theorem dX5_tellTo_73 : decode cX5_tellTo 73 = .ok (.aload_n 1, 1) := by decide +kernel
theorem dX5_tellTo_74 : decode cX5_tellTo 74 = .ok (.aload_n 0, 1) := by decide +kernel
theorem dX5_tellTo_75 : decode cX5_tellTo 75 = .ok (.getfield 18, 3) := by decide +kernel
theorem dX5_tellTo_78 : decode cX5_tellTo 78 = .ok (.getfield 41, 3) := by decide +kernel
theorem dX5_tellTo_81 : decode cX5_tellTo 81 = .ok (.aload_n 0, 1) := by decide +kernel
theorem dX5_tellTo_82 : decode cX5_tellTo 82 = .ok (.getfield 18, 3) := by decide +kernel
theorem dX5_tellTo_85 : decode cX5_tellTo 85 = .ok (.getfield 44, 3) := by decide +kernel
theorem dX5_tellTo_88 : decode cX5_tellTo 88 = .ok (.aload_n 0, 1) := by decide +kernel
theorem dX5_tellTo_89 : decode cX5_tellTo 89 = .ok (.getfield 18, 3) := by decide +kernel
theorem dX5_tellTo_92 : decode cX5_tellTo 92 = .ok (.getfield 47, 3) := by decide +kernel
theorem dX5_tellTo_95 : decode cX5_tellTo 95 = .ok (.invokevirtual 50, 3) := by decide +kernel
theorem dX5_tellTo_98 : decode cX5_tellTo 98 = .ok (.return_, 1) := by decide +kernel
theorem dX6_init_0 : decode cX6_init 0 = .ok (.aload_n 0, 1) := by decide +kernel
theorem dX6_init_1 : decode cX6_init 1 = .ok (.invokespecial 1, 3) := by decide +kernel
theorem dX6_init_4 : decode cX6_init 4 = .ok (.aload_n 0, 1) := by decide +kernel
theorem dX6_init_5 : decode cX6_init 5 = .ok (.new 7, 3) := by decide +kernel
theorem dX6_init_8 : decode cX6_init 8 = .ok (.dup, 1) := by decide +kernel
theorem dX6_init_9 : decode cX6_init 9 = .ok (.invokespecial 9, 3) := by decide +kernel
theorem dX6_init_12 : decode cX6_init 12 = .ok (.putfield 10, 3) := by decide +kernel
theorem dX6_init_15 : decode cX6_init 15 = .ok (.aload_n 0, 1) := by decide +kernel
theorem dX6_init_16 : decode cX6_init 16 = .ok (.new 16, 3) := by decide +kernel
theorem dX6_init_19 : decode cX6_init 19 = .ok (.dup, 1) := by decide +kernel
theorem dX6_init_20 : decode cX6_init 20 = .ok (.invokespecial 18, 3) := by decide +kernel
theorem dX6_init_23 : decode cX6_init 23 = .ok (.putfield 19, 3) := by decide +kernel
theorem dX6_init_26 : decode cX6_init 26 = .ok (.aload_n 0, 1) := by decide +kernel
theorem dX6_init_27 : decode cX6_init 27 = .ok (.new 23, 3) := by decide +kernel
theorem dX6_init_30 : decode cX6_init 30 = .ok (.dup, 1) := by decide +kernel
theorem dX6_init_31 : decode cX6_init 31 = .ok (.invokespecial 25, 3) := by decide +kernel
theorem dX6_init_34 : decode cX6_init 34 = .ok (.putfield 26, 3) := by decide +kernel
theorem dX6_init_37 : decode cX6_init 37 = .ok (.return_, 1) := by decide +kernel
theorem dX6_add_0 : decode cX6_add 0 = .ok (.iload_n 1, 1) := by decide +kernel
theorem dX6_add_1 : decode cX6_add 1 = .ok (.iload_n 2, 1) := by decide +kernel
theorem dX6_add_2 : decode cX6_add 2 = .ok (.invokestatic 30, 3) := by decide +kernel
theorem dX6_add_5 : decode cX6_add 5 = .ok (.iload_n 3, 1) := by decide +kernel
theorem dX6_add_6 : decode cX6_add 6 = .ok (.iconst 1, 1) := by decide +kernel
theorem dX6_add_7 : decode cX6_add 7 = .ok (.if_icmp .lt 9, 3) := by decide +kernel
theorem dX6_add_10 : decode cX6_add 10 = .ok (.iload_n 3, 1) := by decide +kernel
theorem dX6_add_11 : decode cX6_add 11 = .ok (.bipush 99, 2) := by decide +kernel
theorem dX6_add_13 : decode cX6_add 13 = .ok (.if_icmp .le 13, 3) := by decide +kernel
theorem dX6_add_16 : decode cX6_add 16 = .ok (.new 34, 3) := by decide +kernel
theorem dX6_add_19 : decode cX6_add 19 = .ok (.dup, 1) := by decide +kernel
theorem dX6_add_20 : decode cX6_add 20 = .ok (.ldc 36, 2) := by decide +kernel
theorem dX6_add_22 : decode cX6_add 22 = .ok (.invokespecial 38, 3) := by decide +kernel
theorem dX6_add_25 : decode cX6_add 25 = .ok (.athrow, 1) := by decide +kernel
theorem dX6_add_26 : decode cX6_add 26 = .ok (.aload_n 0, 1) := by decide +kernel
theorem dX6_add_27 : decode cX6_add 27 = .ok (.getfield 10, 3) := by decide +kernel
theorem dX6_add_30 : decode cX6_add 30 = .ok (.getfield 41, 3) := by decide +kernel
theorem dX6_add_33 : decode cX6_add 33 = .ok (.getfield 45, 3) := by decide +kernel
theorem dX6_add_36 : decode cX6_add 36 = .ok (.bipush 20, 2) := by decide +kernel
theorem dX6_add_38 : decode cX6_add 38 = .ok (.if_icmp .lt 13, 3) := by decide +kernel
theorem dX6_add_41 : decode cX6_add 41 = .ok (.new 51, 3) := by decide +kernel
theorem dX6_add_44 : decode cX6_add 44 = .ok (.dup, 1) := by decide +kernel
theorem dX6_add_45 : decode cX6_add 45 = .ok (.ldc 53, 2) := by decide +kernel
theorem dX6_add_47 : decode cX6_add 47 = .ok (.invokespecial 55, 3) := by decide +kernel
theorem dX6_add_50 : decode cX6_add 50 = .ok (.athrow, 1) := by decide +kernel
theorem dX6_add_51 : decode cX6_add 51 = .ok (.aload_n 0, 1) := by decide +kernel
theorem dX6_add_52 : decode cX6_add 52 = .ok (.getfield 19, 3) := by decide +kernel
theorem dX6_add_55 : decode cX6_add 55 = .ok (.aload_n 0, 1) := by decide +kernel
theorem dX6_add_56 : decode cX6_add 56 = .ok (.getfield 10, 3) := by decide +kernel
theorem dX6_add_59 : decode cX6_add 59 = .ok (.invokevirtual 56, 3) := by decide +kernel
theorem dX6_add_62 : decode cX6_add 62 = .ok (.aload_n 0, 1) := by decide +kernel
theorem dX6_add_63 : decode cX6_add 63 = .ok (.getfield 10, 3) := by decide +kernel
theorem dX6_add_66 : decode cX6_add 66 = .ok (.getfield 41, 3) := by decide +kernel
theorem dX6_add_69 : decode cX6_add 69 = .ok (.iload_n 1, 1) := by decide +kernel
theorem dX6_add_70 : decode cX6_add 70 = .ok (.iload_n 2, 1) := by decide +kernel
theorem dX6_add_71 : decode cX6_add 71 = .ok (.iload_n 3, 1) := by decide +kernel
theorem dX6_add_72 : decode cX6_add 72 = .ok (.invokevirtual 60, 3) := by decide +kernel
theorem dX6_add_75 : decode cX6_add 75 = .ok (.aload_n 0, 1) := by decide +kernel
theorem dX6_add_76 : decode cX6_add 76 = .ok (.getfield 10, 3) := by decide +kernel
theorem dX6_add_79 : decode cX6_add 79 = .ok (.getfield 41, 3) := by decide +kernel
theorem dX6_add_82 : decode cX6_add 82 = .ok (.getfield 45, 3) := by decide +kernel
theorem dX6_add_85 : decode cX6_add 85 = .ok (.iconst 1, 1) := by decide +kernel
theorem dX6_add_86 : decode cX6_add 86 = .ok (.isub, 1) := by decide +kernel
theorem dX6_add_87 : decode cX6_add 87 = .ok (.ireturn, 1) := by decide +kernel
theorem dX6_change_0 : decode cX6_change 0 = .ok (.aload_n 0, 1) := by decide +kernel
theorem dX6_change_1 : decode cX6_change 1 = .ok (.iload_n 1, 1) := by decide +kernel
theorem dX6_change_2 : decode cX6_change 2 = .ok (.invokevirtual 64, 3) := by decide +kernel
theorem dX6_change_5 : decode cX6_change 5 = .ok (.iload_n 2, 1) := by decide +kernel
theorem dX6_change_6 : decode cX6_change 6 = .ok (.iload_n 3, 1) := by decide +kernel
theorem dX6_change_7 : decode cX6_change 7 = .ok (.invokestatic 30, 3) := by decide +kernel
theorem dX6_change_10 : decode cX6_change 10 = .ok (.aload_n 0, 1) := by decide +kernel
theorem dX6_change_11 : decode cX6_change 11 = .ok (.getfield 19, 3) := by decide +kernel
theorem dX6_change_14 : decode cX6_change 14 = .ok (.aload_n 0, 1) := by decide +kernel
theorem dX6_change_15 : decode cX6_change 15 = .ok (.getfield 10, 3) := by decide +kernel
theorem dX6_change_18 : decode cX6_change 18 = .ok (.invokevirtual 56, 3) := by decide +kernel
theorem dX6_change_21 : decode cX6_change 21 = .ok (.aload_n 0, 1) := by decide +kernel
theorem dX6_change_22 : decode cX6_change 22 = .ok (.getfield 10, 3) := by decide +kernel
theorem dX6_change_25 : decode cX6_change 25 = .ok (.getfield 41, 3) := by decide +kernel
theorem dX6_change_28 : decode cX6_change 28 = .ok (.iload_n 1, 1) := by decide +kernel
theorem dX6_change_29 : decode cX6_change 29 = .ok (.iload_n 2, 1) := by decide +kernel
theorem dX6_change_30 : decode cX6_change 30 = .ok (.iload_n 3, 1) := by decide +kernel
theorem dX6_change_31 : decode cX6_change 31 = .ok (.invokevirtual 68, 3) := by decide +kernel
theorem dX6_change_34 : decode cX6_change 34 = .ok (.ireturn, 1) := by decide +kernel
theorem dX6_removeLast_0 : decode cX6_removeLast 0 = .ok (.aload_n 0, 1) := by decide +kernel
theorem dX6_removeLast_1 : decode cX6_removeLast 1 = .ok (.getfield 10, 3) := by decide +kernel
theorem dX6_removeLast_4 : decode cX6_removeLast 4 = .ok (.getfield 41, 3) := by decide +kernel
theorem dX6_removeLast_7 : decode cX6_removeLast 7 = .ok (.getfield 45, 3) := by decide +kernel
theorem dX6_removeLast_10 : decode cX6_removeLast 10 = .ok (.iconst 1, 1) := by decide +kernel
theorem dX6_removeLast_11 : decode cX6_removeLast 11 = .ok (.if_icmp .ge 13, 3) := by decide +kernel
theorem dX6_removeLast_14 : decode cX6_removeLast 14 = .ok (.new 51, 3) := by decide +kernel
theorem dX6_removeLast_17 : decode cX6_removeLast 17 = .ok (.dup, 1) := by decide +kernel
theorem dX6_removeLast_18 : decode cX6_removeLast 18 = .ok (.ldc 72, 2) := by decide +kernel
theorem dX6_removeLast_20 : decode cX6_removeLast 20 = .ok (.invokespecial 55, 3) := by decide +kernel
theorem dX6_removeLast_23 : decode cX6_removeLast 23 = .ok (.athrow, 1) := by decide +kernel
theorem dX6_removeLast_24 : decode cX6_removeLast 24 = .ok (.aload_n 0, 1) := by decide +kernel
theorem dX6_removeLast_25 : decode cX6_removeLast 25 = .ok (.getfield 19, 3) := by decide +kernel
theorem dX6_removeLast_28 : decode cX6_removeLast 28 = .ok (.aload_n 0, 1) := by decide +kernel
theorem dX6_removeLast_29 : decode cX6_removeLast 29 = .ok (.getfield 10, 3) := by decide +kernel
theorem dX6_removeLast_32 : decode cX6_removeLast 32 = .ok (.invokevirtual 56, 3) := by decide +kernel
theorem dX6_removeLast_35 : decode cX6_removeLast 35 = .ok (.aload_n 0, 1) := by decide +kernel
theorem dX6_removeLast_36 : decode cX6_removeLast 36 = .ok (.getfield 10, 3) := by decide +kernel
theorem dX6_removeLast_39 : decode cX6_removeLast 39 = .ok (.getfield 41, 3) := by decide +kernel
theorem dX6_removeLast_42 : decode cX6_removeLast 42 = .ok (.getfield 45, 3) := by decide +kernel
theorem dX6_removeLast_45 : decode cX6_removeLast 45 = .ok (.iconst 1, 1) := by decide +kernel
theorem dX6_removeLast_46 : decode cX6_removeLast 46 = .ok (.isub, 1) := by decide +kernel
theorem dX6_removeLast_47 : decode cX6_removeLast 47 = .ok (.istore_n 1, 1) := by decide +kernel
theorem dX6_removeLast_48 : decode cX6_removeLast 48 = .ok (.aload_n 0, 1) := by decide +kernel
theorem dX6_removeLast_49 : decode cX6_removeLast 49 = .ok (.getfield 10, 3) := by decide +kernel
theorem dX6_removeLast_52 : decode cX6_removeLast 52 = .ok (.getfield 74, 3) := by decide +kernel
theorem dX6_removeLast_55 : decode cX6_removeLast 55 = .ok (.iload_n 1, 1) := by decide +kernel
theorem dX6_removeLast_56 : decode cX6_removeLast 56 = .ok (.invokevirtual 78, 3) := by decide +kernel
theorem dX6_removeLast_59 : decode cX6_removeLast 59 = .ok (.invokestatic 84, 3) := by decide +kernel
theorem dX6_removeLast_62 : decode cX6_removeLast 62 = .ok (.istore_n 2, 1) := by decide +kernel
theorem dX6_removeLast_63 : decode cX6_removeLast 63 = .ok (.aload_n 0, 1) := by decide +kernel
theorem dX6_removeLast_64 : decode cX6_removeLast 64 = .ok (.getfield 10, 3) := by decide +kernel
theorem dX6_removeLast_67 : decode cX6_removeLast 67 = .ok (.getfield 74, 3) := by decide +kernel
theorem dX6_removeLast_70 : decode cX6_removeLast 70 = .ok (.iload_n 1, 1) := by decide +kernel
theorem dX6_removeLast_71 : decode cX6_removeLast 71 = .ok (.invokevirtual 89, 3) := by decide +kernel
theorem dX6_removeLast_74 : decode cX6_removeLast 74 = .ok (.aload_n 0, 1) := by decide +kernel
theorem dX6_removeLast_75 : decode cX6_removeLast 75 = .ok (.getfield 10, 3) := by decide +kernel
theorem dX6_removeLast_78 : decode cX6_removeLast 78 = .ok (.getfield 41, 3) := by decide +kernel
theorem dX6_removeLast_81 : decode cX6_removeLast 81 = .ok (.iload_n 1, 1) := by decide +kernel
theorem dX6_removeLast_82 : decode cX6_removeLast 82 = .ok (.putfield 45, 3) := by decide +kernel
theorem dX6_removeLast_85 : decode cX6_removeLast 85 = .ok (.iload_n 2, 1) := by decide +kernel
theorem dX6_removeLast_86 : decode cX6_removeLast 86 = .ok (.ireturn, 1) := by decide +kernel
theorem dX6_set_0 : decode cX6_set 0 = .ok (.iload_n 1, 1) := by decide +kernel
theorem dX6_set_1 : decode cX6_set 1 = .ok (.invokestatic 92, 3) := by decide +kernel
theorem dX6_set_4 : decode cX6_set 4 = .ok (.iload_n 1, 1) := by decide +kernel
theorem dX6_set_5 : decode cX6_set 5 = .ok (.ifCond .ne 7, 3) := by decide +kernel
theorem dX6_set_8 : decode cX6_set 8 = .ok (.iconst 0, 1) := by decide +kernel
theorem dX6_set_9 : decode cX6_set 9 = .ok (.goto 4, 3) := by decide +kernel
theorem dX6_set_12 : decode cX6_set 12 = .ok (.iconst 1, 1) := by decide +kernel
theorem dX6_set_13 : decode cX6_set 13 = .ok (.istore_n 3, 1) := by decide +kernel
theorem dX6_set_14 : decode cX6_set 14 = .ok (.iload_n 1, 1) := by decide +kernel
theorem dX6_set_15 : decode cX6_set 15 = .ok (.ifCond .ne 8, 3) := by decide +kernel
theorem dX6_set_18 : decode cX6_set 18 = .ok (.bipush 19, 2) := by decide +kernel
theorem dX6_set_20 : decode cX6_set 20 = .ok (.goto 5, 3) := by decide +kernel
theorem dX6_set_23 : decode cX6_set 23 = .ok (.bipush 20, 2) := by decide +kernel
theorem dX6_set_25 : decode cX6_set 25 = .ok (.istore 4, 2) := by decide +kernel
theorem dX6_set_27 : decode cX6_set 27 = .ok (.iload_n 2, 1) := by decide +kernel
theorem dX6_set_28 : decode cX6_set 28 = .ok (.iload_n 3, 1) := by decide +kernel
theorem dX6_set_29 : decode cX6_set 29 = .ok (.if_icmp .lt 9, 3) := by decide +kernel
theorem dX6_set_32 : decode cX6_set 32 = .ok (.iload_n 2, 1) := by decide +kernel
theorem dX6_set_33 : decode cX6_set 33 = .ok (.iload 4, 2) := by decide +kernel
theorem dX6_set_35 : decode cX6_set 35 = .ok (.if_icmp .le 13, 3) := by decide +kernel
theorem dX6_set_38 : decode cX6_set 38 = .ok (.new 34, 3) := by decide +kernel
theorem dX6_set_41 : decode cX6_set 41 = .ok (.dup, 1) := by decide +kernel
theorem dX6_set_42 : decode cX6_set 42 = .ok (.ldc 95, 2) := by decide +kernel
theorem dX6_set_44 : decode cX6_set 44 = .ok (.invokespecial 38, 3) := by decide +kernel
theorem dX6_set_47 : decode cX6_set 47 = .ok (.athrow, 1) := by decide +kernel
theorem dX6_set_48 : decode cX6_set 48 = .ok (.aload_n 0, 1) := by decide +kernel
theorem dX6_set_49 : decode cX6_set 49 = .ok (.getfield 19, 3) := by decide +kernel
theorem dX6_set_52 : decode cX6_set 52 = .ok (.aload_n 0, 1) := by decide +kernel
theorem dX6_set_53 : decode cX6_set 53 = .ok (.getfield 10, 3) := by decide +kernel
theorem dX6_set_56 : decode cX6_set 56 = .ok (.invokevirtual 56, 3) := by decide +kernel
theorem dX6_set_59 : decode cX6_set 59 = .ok (.aload_n 0, 1) := by decide +kernel
theorem dX6_set_60 : decode cX6_set 60 = .ok (.getfield 10, 3) := by decide +kernel
theorem dX6_set_63 : decode cX6_set 63 = .ok (.getfield 97, 3) := by decide +kernel
theorem dX6_set_66 : decode cX6_set 66 = .ok (.iload_n 1, 1) := by decide +kernel
theorem dX6_set_67 : decode cX6_set 67 = .ok (.iaload, 1) := by decide +kernel
theorem dX6_set_68 : decode cX6_set 68 = .ok (.istore 5, 2) := by decide +kernel
theorem dX6_set_70 : decode cX6_set 70 = .ok (.aload_n 0, 1) := by decide +kernel
theorem dX6_set_71 : decode cX6_set 71 = .ok (.getfield 10, 3) := by decide +kernel
theorem dX6_set_74 : decode cX6_set 74 = .ok (.getfield 97, 3) := by decide +kernel
theorem dX6_set_77 : decode cX6_set 77 = .ok (.iload_n 1, 1) := by decide +kernel
theorem dX6_set_78 : decode cX6_set 78 = .ok (.iload_n 2, 1) := by decide +kernel
theorem dX6_set_79 : decode cX6_set 79 = .ok (.iastore, 1) := by decide +kernel
theorem dX6_set_80 : decode cX6_set 80 = .ok (.iload 5, 2) := by decide +kernel
theorem dX6_set_82 : decode cX6_set 82 = .ok (.ireturn, 1) := by decide +kernel
theorem dX6_mail_0 : decode cX6_mail 0 = .ok (.iload_n 1, 1) := by decide +kernel
theorem dX6_mail_1 : decode cX6_mail 1 = .ok (.invokestatic 101, 3) := by decide +kernel
theorem dX6_mail_4 : decode cX6_mail 4 = .ok (.aload_n 0, 1) := by decide +kernel
theorem dX6_mail_5 : decode cX6_mail 5 = .ok (.iload_n 2, 1) := by decide +kernel
theorem dX6_mail_6 : decode cX6_mail 6 = .ok (.invokevirtual 64, 3) := by decide +kernel
theorem dX6_mail_9 : decode cX6_mail 9 = .ok (.aload_n 0, 1) := by decide +kernel
theorem dX6_mail_10 : decode cX6_mail 10 = .ok (.getfield 10, 3) := by decide +kernel
theorem dX6_mail_13 : decode cX6_mail 13 = .ok (.getfield 74, 3) := by decide +kernel
theorem dX6_mail_16 : decode cX6_mail 16 = .ok (.iload_n 1, 1) := by decide +kernel
theorem dX6_mail_17 : decode cX6_mail 17 = .ok (.iload_n 2, 1) := by decide +kernel
theorem dX6_mail_18 : decode cX6_mail 18 = .ok (.invokevirtual 104, 3) := by decide +kernel
theorem dX6_mail_21 : decode cX6_mail 21 = .ok (.ifCond .eq 13, 3) := by decide +kernel
theorem dX6_mail_24 : decode cX6_mail 24 = .ok (.new 51, 3) := by decide +kernel
theorem dX6_mail_27 : decode cX6_mail 27 = .ok (.dup, 1) := by decide +kernel
theorem dX6_mail_28 : decode cX6_mail 28 = .ok (.ldc 108, 2) := by decide +kernel
theorem dX6_mail_30 : decode cX6_mail 30 = .ok (.invokespecial 55, 3) := by decide +kernel
theorem dX6_mail_33 : decode cX6_mail 33 = .ok (.athrow, 1) := by decide +kernel
theorem dX6_mail_34 : decode cX6_mail 34 = .ok (.aload_n 0, 1) := by decide +kernel
theorem dX6_mail_35 : decode cX6_mail 35 = .ok (.getfield 19, 3) := by decide +kernel
theorem dX6_mail_38 : decode cX6_mail 38 = .ok (.aload_n 0, 1) := by decide +kernel
theorem dX6_mail_39 : decode cX6_mail 39 = .ok (.getfield 10, 3) := by decide +kernel
theorem dX6_mail_42 : decode cX6_mail 42 = .ok (.invokevirtual 56, 3) := by decide +kernel
theorem dX6_mail_45 : decode cX6_mail 45 = .ok (.aload_n 0, 1) := by decide +kernel
theorem dX6_mail_46 : decode cX6_mail 46 = .ok (.getfield 10, 3) := by decide +kernel
theorem dX6_mail_49 : decode cX6_mail 49 = .ok (.iload_n 1, 1) := by decide +kernel
theorem dX6_mail_50 : decode cX6_mail 50 = .ok (.iload_n 2, 1) := by decide +kernel
theorem dX6_mail_51 : decode cX6_mail 51 = .ok (.invokevirtual 110, 3) := by decide +kernel
theorem dX6_mail_54 : decode cX6_mail 54 = .ok (.ireturn, 1) := by decide +kernel
theorem dX6_mailAll_0 : decode cX6_mailAll 0 = .ok (.aload_n 0, 1) := by decide +kernel
theorem dX6_mailAll_1 : decode cX6_mailAll 1 = .ok (.iload_n 1, 1) := by decide +kernel
theorem dX6_mailAll_2 : decode cX6_mailAll 2 = .ok (.invokevirtual 64, 3) := by decide +kernel
theorem dX6_mailAll_5 : decode cX6_mailAll 5 = .ok (.iload_n 2, 1) := by decide +kernel
theorem dX6_mailAll_6 : decode cX6_mailAll 6 = .ok (.ifCond .lt 9, 3) := by decide +kernel
theorem dX6_mailAll_9 : decode cX6_mailAll 9 = .ok (.iload_n 2, 1) := by decide +kernel
theorem dX6_mailAll_10 : decode cX6_mailAll 10 = .ok (.bipush 63, 2) := by decide +kernel
theorem dX6_mailAll_12 : decode cX6_mailAll 12 = .ok (.if_icmp .le 13, 3) := by decide +kernel
theorem dX6_mailAll_15 : decode cX6_mailAll 15 = .ok (.new 34, 3) := by decide +kernel
theorem dX6_mailAll_18 : decode cX6_mailAll 18 = .ok (.dup, 1) := by decide +kernel
theorem dX6_mailAll_19 : decode cX6_mailAll 19 = .ok (.ldc 114, 2) := by decide +kernel
theorem dX6_mailAll_21 : decode cX6_mailAll 21 = .ok (.invokespecial 38, 3) := by decide +kernel
theorem dX6_mailAll_24 : decode cX6_mailAll 24 = .ok (.athrow, 1) := by decide +kernel
theorem dX6_mailAll_25 : decode cX6_mailAll 25 = .ok (.aload_n 0, 1) := by decide +kernel
theorem dX6_mailAll_26 : decode cX6_mailAll 26 = .ok (.getfield 19, 3) := by decide +kernel
theorem dX6_mailAll_29 : decode cX6_mailAll 29 = .ok (.aload_n 0, 1) := by decide +kernel
theorem dX6_mailAll_30 : decode cX6_mailAll 30 = .ok (.getfield 10, 3) := by decide +kernel
theorem dX6_mailAll_33 : decode cX6_mailAll 33 = .ok (.invokevirtual 56, 3) := by decide +kernel
theorem dX6_mailAll_36 : decode cX6_mailAll 36 = .ok (.aload_n 0, 1) := by decide +kernel
theorem dX6_mailAll_37 : decode cX6_mailAll 37 = .ok (.getfield 10, 3) := by decide +kernel
theorem dX6_mailAll_40 : decode cX6_mailAll 40 = .ok (.iload_n 1, 1) := by decide +kernel
theorem dX6_mailAll_41 : decode cX6_mailAll 41 = .ok (.iload_n 2, 1) := by decide +kernel
theorem dX6_mailAll_42 : decode cX6_mailAll 42 = .ok (.invokevirtual 116, 3) := by decide +kernel
theorem dX6_mailAll_45 : decode cX6_mailAll 45 = .ok (.ireturn, 1) := by decide +kernel
theorem dX6_forget_0 : decode cX6_forget 0 = .ok (.iload_n 1, 1) := by decide +kernel
theorem dX6_forget_1 : decode cX6_forget 1 = .ok (.invokestatic 101, 3) := by decide +kernel
theorem dX6_forget_4 : decode cX6_forget 4 = .ok (.aload_n 0, 1) := by decide +kernel
theorem dX6_forget_5 : decode cX6_forget 5 = .ok (.getfield 19, 3) := by decide +kernel
theorem dX6_forget_8 : decode cX6_forget 8 = .ok (.aload_n 0, 1) := by decide +kernel
theorem dX6_forget_9 : decode cX6_forget 9 = .ok (.getfield 10, 3) := by decide +kernel
theorem dX6_forget_12 : decode cX6_forget 12 = .ok (.invokevirtual 56, 3) := by decide +kernel
theorem dX6_forget_15 : decode cX6_forget 15 = .ok (.aload_n 0, 1) := by decide +kernel
theorem dX6_forget_16 : decode cX6_forget 16 = .ok (.getfield 10, 3) := by decide +kernel
theorem dX6_forget_19 : decode cX6_forget 19 = .ok (.getfield 74, 3) := by decide +kernel
theorem dX6_forget_22 : decode cX6_forget 22 = .ok (.iload_n 1, 1) := by decide +kernel
theorem dX6_forget_23 : decode cX6_forget 23 = .ok (.invokevirtual 119, 3) := by decide +kernel
theorem dX6_forget_26 : decode cX6_forget 26 = .ok (.ireturn, 1) := by decide +kernel
theorem dX6_catchUp_0 : decode cX6_catchUp 0 = .ok (.iload_n 1, 1) := by decide +kernel
theorem dX6_catchUp_1 : decode cX6_catchUp 1 = .ok (.invokestatic 101, 3) := by decide +kernel
theorem dX6_catchUp_4 : decode cX6_catchUp 4 = .ok (.aload_n 0, 1) := by decide +kernel
theorem dX6_catchUp_5 : decode cX6_catchUp 5 = .ok (.getfield 19, 3) := by decide +kernel
theorem dX6_catchUp_8 : decode cX6_catchUp 8 = .ok (.aload_n 0, 1) := by decide +kernel
theorem dX6_catchUp_9 : decode cX6_catchUp 9 = .ok (.getfield 10, 3) := by decide +kernel
theorem dX6_catchUp_12 : decode cX6_catchUp 12 = .ok (.invokevirtual 56, 3) := by decide +kernel
theorem dX6_catchUp_15 : decode cX6_catchUp 15 = .ok (.aload_n 0, 1) := by decide +kernel
theorem dX6_catchUp_16 : decode cX6_catchUp 16 = .ok (.getfield 10, 3) := by decide +kernel
theorem dX6_catchUp_19 : decode cX6_catchUp 19 = .ok (.iload_n 1, 1) := by decide +kernel
theorem dX6_catchUp_20 : decode cX6_catchUp 20 = .ok (.invokevirtual 122, 3) := by decide +kernel
theorem dX6_catchUp_23 : decode cX6_catchUp 23 = .ok (.ireturn, 1) := by decide +kernel
theorem dX6_append_0 : decode cX6_append 0 = .ok (.iload_n 1, 1) := by decide +kernel
theorem dX6_append_1 : decode cX6_append 1 = .ok (.bipush 33, 2) := by decide +kernel
theorem dX6_append_3 : decode cX6_append 3 = .ok (.if_icmp .lt 9, 3) := by decide +kernel
theorem dX6_append_6 : decode cX6_append 6 = .ok (.iload_n 1, 1) := by decide +kernel
theorem dX6_append_7 : decode cX6_append 7 = .ok (.bipush 126, 2) := by decide +kernel
theorem dX6_append_9 : decode cX6_append 9 = .ok (.if_icmp .le 13, 3) := by decide +kernel
theorem dX6_append_12 : decode cX6_append 12 = .ok (.new 34, 3) := by decide +kernel
theorem dX6_append_15 : decode cX6_append 15 = .ok (.dup, 1) := by decide +kernel
theorem dX6_append_16 : decode cX6_append 16 = .ok (.ldc 125, 2) := by decide +kernel
theorem dX6_append_18 : decode cX6_append 18 = .ok (.invokespecial 38, 3) := by decide +kernel
theorem dX6_append_21 : decode cX6_append 21 = .ok (.athrow, 1) := by decide +kernel
theorem dX6_append_22 : decode cX6_append 22 = .ok (.aload_n 0, 1) := by decide +kernel
theorem dX6_append_23 : decode cX6_append 23 = .ok (.getfield 26, 3) := by decide +kernel
theorem dX6_append_26 : decode cX6_append 26 = .ok (.getfield 127, 3) := by decide +kernel
theorem dX6_append_29 : decode cX6_append 29 = .ok (.bipush 60, 2) := by decide +kernel
theorem dX6_append_31 : decode cX6_append 31 = .ok (.if_icmp .lt 13, 3) := by decide +kernel
theorem dX6_append_34 : decode cX6_append 34 = .ok (.new 51, 3) := by decide +kernel
theorem dX6_append_37 : decode cX6_append 37 = .ok (.dup, 1) := by decide +kernel
theorem dX6_append_38 : decode cX6_append 38 = .ok (.ldc 130, 2) := by decide +kernel
theorem dX6_append_40 : decode cX6_append 40 = .ok (.invokespecial 55, 3) := by decide +kernel
theorem dX6_append_43 : decode cX6_append 43 = .ok (.athrow, 1) := by decide +kernel
theorem dX6_append_44 : decode cX6_append 44 = .ok (.aload_n 0, 1) := by decide +kernel
theorem dX6_append_45 : decode cX6_append 45 = .ok (.getfield 26, 3) := by decide +kernel
theorem dX6_append_48 : decode cX6_append 48 = .ok (.iload_n 1, 1) := by decide +kernel
theorem dX6_append_49 : decode cX6_append 49 = .ok (.invokevirtual 132, 3) := by decide +kernel
theorem dX6_append_52 : decode cX6_append 52 = .ok (.aload_n 0, 1) := by decide +kernel
theorem dX6_append_53 : decode cX6_append 53 = .ok (.getfield 26, 3) := by decide +kernel
theorem dX6_append_56 : decode cX6_append 56 = .ok (.getfield 127, 3) := by decide +kernel
theorem dX6_append_59 : decode cX6_append 59 = .ok (.ireturn, 1) := by decide +kernel
theorem dX6_clearBuffer_0 : decode cX6_clearBuffer 0 = .ok (.aload_n 0, 1) := by decide +kernel
theorem dX6_clearBuffer_1 : decode cX6_clearBuffer 1 = .ok (.getfield 26, 3) := by decide +kernel
theorem dX6_clearBuffer_4 : decode cX6_clearBuffer 4 = .ok (.getfield 127, 3) := by decide +kernel
theorem dX6_clearBuffer_7 : decode cX6_clearBuffer 7 = .ok (.istore_n 1, 1) := by decide +kernel
theorem dX6_clearBuffer_8 : decode cX6_clearBuffer 8 = .ok (.aload_n 0, 1) := by decide +kernel
theorem dX6_clearBuffer_9 : decode cX6_clearBuffer 9 = .ok (.getfield 26, 3) := by decide +kernel
theorem dX6_clearBuffer_12 : decode cX6_clearBuffer 12 = .ok (.iconst 0, 1) := by decide +kernel
theorem dX6_clearBuffer_13 : decode cX6_clearBuffer 13 = .ok (.putfield 127, 3) := by decide +kernel
theorem dX6_clearBuffer_16 : decode cX6_clearBuffer 16 = .ok (.iload_n 1, 1) := by decide +kernel
theorem dX6_clearBuffer_17 : decode cX6_clearBuffer 17 = .ok (.ireturn, 1) := by decide +kernel
theorem dX6_firstError_0 : decode cX6_firstError 0 = .ok (.aload_n 0, 1) := by decide +kernel
theorem dX6_firstError_1 : decode cX6_firstError 1 = .ok (.getfield 26, 3) := by decide +kernel
theorem dX6_firstError_4 : decode cX6_firstError 4 = .ok (.invokevirtual 134, 3) := by decide +kernel
theorem dX6_firstError_7 : decode cX6_firstError 7 = .ok (.ireturn, 1) := by decide +kernel
theorem dX6_addAll_0 : decode cX6_addAll 0 = .ok (.aload_n 0, 1) := by decide +kernel
theorem dX6_addAll_1 : decode cX6_addAll 1 = .ok (.getfield 26, 3) := by decide +kernel
theorem dX6_addAll_4 : decode cX6_addAll 4 = .ok (.invokevirtual 138, 3) := by decide +kernel
theorem dX6_addAll_7 : decode cX6_addAll 7 = .ok (.ifCond .ne 13, 3) := by decide +kernel
theorem dX6_addAll_10 : decode cX6_addAll 10 = .ok (.new 34, 3) := by decide +kernel
theorem dX6_addAll_13 : decode cX6_addAll 13 = .ok (.dup, 1) := by decide +kernel
theorem dX6_addAll_14 : decode cX6_addAll 14 = .ok (.ldc 142, 2) := by decide +kernel
theorem dX6_addAll_16 : decode cX6_addAll 16 = .ok (.invokespecial 38, 3) := by decide +kernel
theorem dX6_addAll_19 : decode cX6_addAll 19 = .ok (.athrow, 1) := by decide +kernel
theorem dX6_addAll_20 : decode cX6_addAll 20 = .ok (.aload_n 0, 1) := by decide +kernel
theorem dX6_addAll_21 : decode cX6_addAll 21 = .ok (.getfield 10, 3) := by decide +kernel
theorem dX6_addAll_24 : decode cX6_addAll 24 = .ok (.getfield 41, 3) := by decide +kernel
theorem dX6_addAll_27 : decode cX6_addAll 27 = .ok (.getfield 45, 3) := by decide +kernel
theorem dX6_addAll_30 : decode cX6_addAll 30 = .ok (.aload_n 0, 1) := by decide +kernel
theorem dX6_addAll_31 : decode cX6_addAll 31 = .ok (.getfield 26, 3) := by decide +kernel
theorem dX6_addAll_34 : decode cX6_addAll 34 = .ok (.invokevirtual 144, 3) := by decide +kernel
theorem dX6_addAll_37 : decode cX6_addAll 37 = .ok (.iadd, 1) := by decide +kernel
theorem dX6_addAll_38 : decode cX6_addAll 38 = .ok (.bipush 20, 2) := by decide +kernel
theorem dX6_addAll_40 : decode cX6_addAll 40 = .ok (.if_icmp .le 13, 3) := by decide +kernel
theorem dX6_addAll_43 : decode cX6_addAll 43 = .ok (.new 51, 3) := by decide +kernel
theorem dX6_addAll_46 : decode cX6_addAll 46 = .ok (.dup, 1) := by decide +kernel
theorem dX6_addAll_47 : decode cX6_addAll 47 = .ok (.ldc 147, 2) := by decide +kernel
theorem dX6_addAll_49 : decode cX6_addAll 49 = .ok (.invokespecial 55, 3) := by decide +kernel
theorem dX6_addAll_52 : decode cX6_addAll 52 = .ok (.athrow, 1) := by decide +kernel
theorem dX6_addAll_53 : decode cX6_addAll 53 = .ok (.aload_n 0, 1) := by decide +kernel
theorem dX6_addAll_54 : decode cX6_addAll 54 = .ok (.getfield 19, 3) := by decide +kernel
theorem dX6_addAll_57 : decode cX6_addAll 57 = .ok (.aload_n 0, 1) := by decide +kernel
theorem dX6_addAll_58 : decode cX6_addAll 58 = .ok (.getfield 10, 3) := by decide +kernel
theorem dX6_addAll_61 : decode cX6_addAll 61 = .ok (.invokevirtual 56, 3) := by decide +kernel
theorem dX6_addAll_64 : decode cX6_addAll 64 = .ok (.aload_n 0, 1) := by decide +kernel
theorem dX6_addAll_65 : decode cX6_addAll 65 = .ok (.getfield 26, 3) := by decide +kernel
theorem dX6_addAll_68 : decode cX6_addAll 68 = .ok (.aload_n 0, 1) := by decide +kernel
theorem dX6_addAll_69 : decode cX6_addAll 69 = .ok (.getfield 10, 3) := by decide +kernel
theorem dX6_addAll_72 : decode cX6_addAll 72 = .ok (.getfield 41, 3) := by decide +kernel
theorem dX6_addAll_75 : decode cX6_addAll 75 = .ok (.invokevirtual 149, 3) := by decide +kernel
theorem dX6_addAll_78 : decode cX6_addAll 78 = .ok (.aload_n 0, 1) := by decide +kernel
theorem dX6_addAll_79 : decode cX6_addAll 79 = .ok (.getfield 26, 3) := by decide +kernel
theorem dX6_addAll_82 : decode cX6_addAll 82 = .ok (.iconst 0, 1) := by decide +kernel
theorem dX6_addAll_83 : decode cX6_addAll 83 = .ok (.putfield 127, 3) := by decide +kernel
theorem dX6_addAll_86 : decode cX6_addAll 86 = .ok (.aload_n 0, 1) := by decide +kernel
theorem dX6_addAll_87 : decode cX6_addAll 87 = .ok (.getfield 10, 3) := by decide +kernel
theorem dX6_addAll_90 : decode cX6_addAll 90 = .ok (.getfield 41, 3) := by decide +kernel
theorem dX6_addAll_93 : decode cX6_addAll 93 = .ok (.getfield 45, 3) := by decide +kernel
theorem dX6_addAll_96 : decode cX6_addAll 96 = .ok (.ireturn, 1) := by decide +kernel
theorem dX6_undo_0 : decode cX6_undo 0 = .ok (.aload_n 0, 1) := by decide +kernel
theorem dX6_undo_1 : decode cX6_undo 1 = .ok (.getfield 19, 3) := by decide +kernel
theorem dX6_undo_4 : decode cX6_undo 4 = .ok (.invokevirtual 153, 3) := by decide +kernel
theorem dX6_undo_7 : decode cX6_undo 7 = .ok (.astore_n 1, 1) := by decide +kernel
theorem dX6_undo_8 : decode cX6_undo 8 = .ok (.aload_n 1, 1) := by decide +kernel
theorem dX6_undo_9 : decode cX6_undo 9 = .ok (.ifnonnull 13, 3) := by decide +kernel
theorem dX6_undo_12 : decode cX6_undo 12 = .ok (.new 51, 3) := by decide +kernel
theorem dX6_undo_15 : decode cX6_undo 15 = .ok (.dup, 1) := by decide +kernel
theorem dX6_undo_16 : decode cX6_undo 16 = .ok (.ldc 157, 2) := by decide +kernel
theorem dX6_undo_18 : decode cX6_undo 18 = .ok (.invokespecial 55, 3) := by decide +kernel
theorem dX6_undo_21 : decode cX6_undo 21 = .ok (.athrow, 1) := by decide +kernel
theorem dX6_undo_22 : decode cX6_undo 22 = .ok (.aload_n 0, 1) := by decide +kernel
theorem dX6_undo_23 : decode cX6_undo 23 = .ok (.getfield 10, 3) := by decide +kernel
theorem dX6_undo_26 : decode cX6_undo 26 = .ok (.aload_n 1, 1) := by decide +kernel
theorem dX6_undo_27 : decode cX6_undo 27 = .ok (.invokevirtual 159, 3) := by decide +kernel
theorem dX6_undo_30 : decode cX6_undo 30 = .ok (.aload_n 0, 1) := by decide +kernel
theorem dX6_undo_31 : decode cX6_undo 31 = .ok (.getfield 19, 3) := by decide +kernel
theorem dX6_undo_34 : decode cX6_undo 34 = .ok (.invokevirtual 162, 3) := by decide +kernel
theorem dX6_undo_37 : decode cX6_undo 37 = .ok (.aload_n 0, 1) := by decide +kernel
theorem dX6_undo_38 : decode cX6_undo 38 = .ok (.getfield 19, 3) := by decide +kernel
theorem dX6_undo_41 : decode cX6_undo 41 = .ok (.getfield 165, 3) := by decide +kernel
theorem dX6_undo_44 : decode cX6_undo 44 = .ok (.ireturn, 1) := by decide +kernel
theorem dX6_part_0 : decode cX6_part 0 = .ok (.aload_n 0, 1) := by decide +kernel
theorem dX6_part_1 : decode cX6_part 1 = .ok (.iload_n 1, 1) := by decide +kernel
theorem dX6_part_2 : decode cX6_part 2 = .ok (.invokevirtual 64, 3) := by decide +kernel
theorem dX6_part_5 : decode cX6_part 5 = .ok (.iload_n 2, 1) := by decide +kernel
theorem dX6_part_6 : decode cX6_part 6 = .ok (.bipush 6, 2) := by decide +kernel
theorem dX6_part_8 : decode cX6_part 8 = .ok (.invokestatic 168, 3) := by decide +kernel
theorem dX6_part_11 : decode cX6_part 11 = .ok (.aload_n 0, 1) := by decide +kernel
theorem dX6_part_12 : decode cX6_part 12 = .ok (.getfield 10, 3) := by decide +kernel
theorem dX6_part_15 : decode cX6_part 15 = .ok (.iload_n 1, 1) := by decide +kernel
theorem dX6_part_16 : decode cX6_part 16 = .ok (.iload_n 2, 1) := by decide +kernel
theorem dX6_part_17 : decode cX6_part 17 = .ok (.invokevirtual 171, 3) := by decide +kernel
theorem dX6_part_20 : decode cX6_part 20 = .ok (.ireturn, 1) := by decide +kernel
theorem dX6_knows_0 : decode cX6_knows 0 = .ok (.iload_n 1, 1) := by decide +kernel
theorem dX6_knows_1 : decode cX6_knows 1 = .ok (.invokestatic 101, 3) := by decide +kernel
theorem dX6_knows_4 : decode cX6_knows 4 = .ok (.aload_n 0, 1) := by decide +kernel
theorem dX6_knows_5 : decode cX6_knows 5 = .ok (.iload_n 2, 1) := by decide +kernel
theorem dX6_knows_6 : decode cX6_knows 6 = .ok (.invokevirtual 64, 3) := by decide +kernel
theorem dX6_knows_9 : decode cX6_knows 9 = .ok (.aload_n 0, 1) := by decide +kernel
theorem dX6_knows_10 : decode cX6_knows 10 = .ok (.getfield 10, 3) := by decide +kernel
theorem dX6_knows_13 : decode cX6_knows 13 = .ok (.getfield 74, 3) := by decide +kernel
theorem dX6_knows_16 : decode cX6_knows 16 = .ok (.iload_n 1, 1) := by decide +kernel
theorem dX6_knows_17 : decode cX6_knows 17 = .ok (.iload_n 2, 1) := by decide +kernel
theorem dX6_knows_18 : decode cX6_knows 18 = .ok (.invokevirtual 174, 3) := by decide +kernel
theorem dX6_knows_21 : decode cX6_knows 21 = .ok (.ireturn, 1) := by decide +kernel
theorem dX6_reader_0 : decode cX6_reader 0 = .ok (.iload_n 1, 1) := by decide +kernel
theorem dX6_reader_1 : decode cX6_reader 1 = .ok (.invokestatic 101, 3) := by decide +kernel
theorem dX6_reader_4 : decode cX6_reader 4 = .ok (.iload_n 2, 1) := by decide +kernel
theorem dX6_reader_5 : decode cX6_reader 5 = .ok (.bipush 6, 2) := by decide +kernel
theorem dX6_reader_7 : decode cX6_reader 7 = .ok (.invokestatic 168, 3) := by decide +kernel
theorem dX6_reader_10 : decode cX6_reader 10 = .ok (.aload_n 0, 1) := by decide +kernel
theorem dX6_reader_11 : decode cX6_reader 11 = .ok (.getfield 10, 3) := by decide +kernel
theorem dX6_reader_14 : decode cX6_reader 14 = .ok (.iload_n 1, 1) := by decide +kernel
theorem dX6_reader_15 : decode cX6_reader 15 = .ok (.iload_n 2, 1) := by decide +kernel
theorem dX6_reader_16 : decode cX6_reader 16 = .ok (.invokevirtual 177, 3) := by decide +kernel
theorem dX6_reader_19 : decode cX6_reader 19 = .ok (.ireturn, 1) := by decide +kernel
theorem dX6_plot_0 : decode cX6_plot 0 = .ok (.iload_n 1, 1) := by decide +kernel
theorem dX6_plot_1 : decode cX6_plot 1 = .ok (.ifCond .lt 9, 3) := by decide +kernel
theorem dX6_plot_4 : decode cX6_plot 4 = .ok (.iload_n 1, 1) := by decide +kernel
theorem dX6_plot_5 : decode cX6_plot 5 = .ok (.bipush 6, 2) := by decide +kernel
theorem dX6_plot_7 : decode cX6_plot 7 = .ok (.if_icmp .lt 13, 3) := by decide +kernel
theorem dX6_plot_10 : decode cX6_plot 10 = .ok (.new 180, 3) := by decide +kernel
theorem dX6_plot_13 : decode cX6_plot 13 = .ok (.dup, 1) := by decide +kernel
theorem dX6_plot_14 : decode cX6_plot 14 = .ok (.ldc 182, 2) := by decide +kernel
theorem dX6_plot_16 : decode cX6_plot 16 = .ok (.invokespecial 184, 3) := by decide +kernel
theorem dX6_plot_19 : decode cX6_plot 19 = .ok (.athrow, 1) := by decide +kernel
theorem dX6_plot_20 : decode cX6_plot 20 = .ok (.iload_n 2, 1) := by decide +kernel
theorem dX6_plot_21 : decode cX6_plot 21 = .ok (.iconst 3, 1) := by decide +kernel
theorem dX6_plot_22 : decode cX6_plot 22 = .ok (.invokestatic 168, 3) := by decide +kernel
theorem dX6_plot_25 : decode cX6_plot 25 = .ok (.aload_n 0, 1) := by decide +kernel
theorem dX6_plot_26 : decode cX6_plot 26 = .ok (.getfield 10, 3) := by decide +kernel
theorem dX6_plot_29 : decode cX6_plot 29 = .ok (.iload_n 1, 1) := by decide +kernel
theorem dX6_plot_30 : decode cX6_plot 30 = .ok (.iload_n 2, 1) := by decide +kernel
theorem dX6_plot_31 : decode cX6_plot 31 = .ok (.invokevirtual 185, 3) := by decide +kernel
theorem dX6_plot_34 : decode cX6_plot 34 = .ok (.ireturn, 1) := by decide +kernel
theorem dX6_count_0 : decode cX6_count 0 = .ok (.iload_n 1, 1) := by decide +kernel
theorem dX6_count_1 : decode cX6_count 1 = .ok (.bipush 6, 2) := by decide +kernel
theorem dX6_count_3 : decode cX6_count 3 = .ok (.invokestatic 168, 3) := by decide +kernel
theorem dX6_count_6 : decode cX6_count 6 = .ok (.aload_n 0, 1) := by decide +kernel
theorem dX6_count_7 : decode cX6_count 7 = .ok (.iload_n 1, 1) := by decide +kernel
theorem dX6_count_8 : decode cX6_count 8 = .ok (.invokevirtual 188, 3) := by decide +kernel
theorem dX6_count_11 : decode cX6_count 11 = .ok (.ireturn, 1) := by decide +kernel
theorem dX6_setting_0 : decode cX6_setting 0 = .ok (.iload_n 1, 1) := by decide +kernel
theorem dX6_setting_1 : decode cX6_setting 1 = .ok (.invokestatic 92, 3) := by decide +kernel
theorem dX6_setting_4 : decode cX6_setting 4 = .ok (.aload_n 0, 1) := by decide +kernel
theorem dX6_setting_5 : decode cX6_setting 5 = .ok (.getfield 10, 3) := by decide +kernel
theorem dX6_setting_8 : decode cX6_setting 8 = .ok (.getfield 97, 3) := by decide +kernel
theorem dX6_setting_11 : decode cX6_setting 11 = .ok (.iload_n 1, 1) := by decide +kernel
theorem dX6_setting_12 : decode cX6_setting 12 = .ok (.iaload, 1) := by decide +kernel
theorem dX6_setting_13 : decode cX6_setting 13 = .ok (.ireturn, 1) := by decide +kernel
theorem dX6_recap_0 : decode cX6_recap 0 = .ok (.iload_n 1, 1) := by decide +kernel
theorem dX6_recap_1 : decode cX6_recap 1 = .ok (.invokestatic 101, 3) := by decide +kernel
theorem dX6_recap_4 : decode cX6_recap 4 = .ok (.aload_n 0, 1) := by decide +kernel
theorem dX6_recap_5 : decode cX6_recap 5 = .ok (.iload_n 2, 1) := by decide +kernel
theorem dX6_recap_6 : decode cX6_recap 6 = .ok (.invokevirtual 64, 3) := by decide +kernel
theorem dX6_recap_9 : decode cX6_recap 9 = .ok (.iload_n 3, 1) := by decide +kernel
theorem dX6_recap_10 : decode cX6_recap 10 = .ok (.iconst 4, 1) := by decide +kernel
theorem dX6_recap_11 : decode cX6_recap 11 = .ok (.invokestatic 168, 3) := by decide +kernel
theorem dX6_recap_14 : decode cX6_recap 14 = .ok (.aload_n 0, 1) := by decide +kernel
theorem dX6_recap_15 : decode cX6_recap 15 = .ok (.getfield 10, 3) := by decide +kernel
theorem dX6_recap_18 : decode cX6_recap 18 = .ok (.iload_n 1, 1) := by decide +kernel
theorem dX6_recap_19 : decode cX6_recap 19 = .ok (.iload_n 2, 1) := by decide +kernel
theorem dX6_recap_20 : decode cX6_recap 20 = .ok (.iload_n 3, 1) := by decide +kernel
theorem dX6_recap_21 : decode cX6_recap 21 = .ok (.invokevirtual 191, 3) := by decide +kernel
theorem dX6_recap_24 : decode cX6_recap 24 = .ok (.ireturn, 1) := by decide +kernel
theorem dX6_easiest_0 : decode cX6_easiest 0 = .ok (.iload_n 1, 1) := by decide +kernel
theorem dX6_easiest_1 : decode cX6_easiest 1 = .ok (.invokestatic 101, 3) := by decide +kernel
theorem dX6_easiest_4 : decode cX6_easiest 4 = .ok (.aload_n 0, 1) := by decide +kernel
theorem dX6_easiest_5 : decode cX6_easiest 5 = .ok (.getfield 10, 3) := by decide +kernel
theorem dX6_easiest_8 : decode cX6_easiest 8 = .ok (.iload_n 1, 1) := by decide +kernel
theorem dX6_easiest_9 : decode cX6_easiest 9 = .ok (.invokevirtual 194, 3) := by decide +kernel
theorem dX6_easiest_12 : decode cX6_easiest 12 = .ok (.ireturn, 1) := by decide +kernel
theorem dX6_enough_0 : decode cX6_enough 0 = .ok (.iload_n 1, 1) := by decide +kernel
theorem dX6_enough_1 : decode cX6_enough 1 = .ok (.invokestatic 101, 3) := by decide +kernel
theorem dX6_enough_4 : decode cX6_enough 4 = .ok (.aload_n 0, 1) := by decide +kernel
theorem dX6_enough_5 : decode cX6_enough 5 = .ok (.getfield 10, 3) := by decide +kernel
theorem dX6_enough_8 : decode cX6_enough 8 = .ok (.iload_n 1, 1) := by decide +kernel
theorem dX6_enough_9 : decode cX6_enough 9 = .ok (.invokevirtual 197, 3) := by decide +kernel
theorem dX6_enough_12 : decode cX6_enough 12 = .ok (.ireturn, 1) := by decide +kernel
theorem dX6_readShare_0 : decode cX6_readShare 0 = .ok (.aload_n 0, 1) := by decide +kernel
theorem dX6_readShare_1 : decode cX6_readShare 1 = .ok (.getfield 10, 3) := by decide +kernel
theorem dX6_readShare_4 : decode cX6_readShare 4 = .ok (.invokevirtual 200, 3) := by decide +kernel
theorem dX6_readShare_7 : decode cX6_readShare 7 = .ok (.dreturn, 1) := by decide +kernel
theorem dX6_digest_0 : decode cX6_digest 0 = .ok (.ldc2_w 204, 3) := by decide +kernel
theorem dX6_digest_3 : decode cX6_digest 3 = .ok (.lstore_n 1, 1) := by decide +kernel
theorem dX6_digest_4 : decode cX6_digest 4 = .ok (.iconst 0, 1) := by decide +kernel
theorem dX6_digest_5 : decode cX6_digest 5 = .ok (.istore_n 3, 1) := by decide +kernel
theorem dX6_digest_6 : decode cX6_digest 6 = .ok (.iload_n 3, 1) := by decide +kernel
theorem dX6_digest_7 : decode cX6_digest 7 = .ok (.bipush 6, 2) := by decide +kernel
theorem dX6_digest_9 : decode cX6_digest 9 = .ok (.if_icmp .gt 20, 3) := by decide +kernel
theorem dX6_digest_12 : decode cX6_digest 12 = .ok (.lload_n 1, 1) := by decide +kernel
theorem dX6_digest_13 : decode cX6_digest 13 = .ok (.aload_n 0, 1) := by decide +kernel
theorem dX6_digest_14 : decode cX6_digest 14 = .ok (.iload_n 3, 1) := by decide +kernel
theorem dX6_digest_15 : decode cX6_digest 15 = .ok (.invokevirtual 188, 3) := by decide +kernel
theorem dX6_digest_18 : decode cX6_digest 18 = .ok (.i2l, 1) := by decide +kernel
theorem dX6_digest_19 : decode cX6_digest 19 = .ok (.invokestatic 206, 3) := by decide +kernel
theorem dX6_digest_22 : decode cX6_digest 22 = .ok (.lstore_n 1, 1) := by decide +kernel
theorem dX6_digest_23 : decode cX6_digest 23 = .ok (.iinc 3 1, 3) := by decide +kernel
theorem dX6_digest_26 : decode cX6_digest 26 = .ok (.goto (-20), 3) := by decide +kernel
theorem dX6_digest_29 : decode cX6_digest 29 = .ok (.iconst 0, 1) := by decide +kernel
theorem dX6_digest_30 : decode cX6_digest 30 = .ok (.istore_n 3, 1) := by decide +kernel
theorem dX6_digest_31 : decode cX6_digest 31 = .ok (.iload_n 3, 1) := by decide +kernel
theorem dX6_digest_32 : decode cX6_digest 32 = .ok (.iconst 2, 1) := by decide +kernel
theorem dX6_digest_33 : decode cX6_digest 33 = .ok (.if_icmp .ge 24, 3) := by decide +kernel
theorem dX6_digest_36 : decode cX6_digest 36 = .ok (.lload_n 1, 1) := by decide +kernel
theorem dX6_digest_37 : decode cX6_digest 37 = .ok (.aload_n 0, 1) := by decide +kernel
theorem dX6_digest_38 : decode cX6_digest 38 = .ok (.getfield 10, 3) := by decide +kernel
theorem dX6_digest_41 : decode cX6_digest 41 = .ok (.getfield 97, 3) := by decide +kernel
theorem dX6_digest_44 : decode cX6_digest 44 = .ok (.iload_n 3, 1) := by decide +kernel
theorem dX6_digest_45 : decode cX6_digest 45 = .ok (.iaload, 1) := by decide +kernel
theorem dX6_digest_46 : decode cX6_digest 46 = .ok (.i2l, 1) := by decide +kernel
theorem dX6_digest_47 : decode cX6_digest 47 = .ok (.invokestatic 206, 3) := by decide +kernel
theorem dX6_digest_50 : decode cX6_digest 50 = .ok (.lstore_n 1, 1) := by decide +kernel
theorem dX6_digest_51 : decode cX6_digest 51 = .ok (.iinc 3 1, 3) := by decide +kernel
theorem dX6_digest_54 : decode cX6_digest 54 = .ok (.goto (-23), 3) := by decide +kernel
theorem dX6_digest_57 : decode cX6_digest 57 = .ok (.aload_n 0, 1) := by decide +kernel
theorem dX6_digest_58 : decode cX6_digest 58 = .ok (.lload_n 1, 1) := by decide +kernel
theorem dX6_digest_59 : decode cX6_digest 59 = .ok (.invokevirtual 210, 3) := by decide +kernel
theorem dX6_digest_62 : decode cX6_digest 62 = .ok (.lstore_n 1, 1) := by decide +kernel
theorem dX6_digest_63 : decode cX6_digest 63 = .ok (.iconst 0, 1) := by decide +kernel
theorem dX6_digest_64 : decode cX6_digest 64 = .ok (.istore_n 3, 1) := by decide +kernel
theorem dX6_digest_65 : decode cX6_digest 65 = .ok (.iload_n 3, 1) := by decide +kernel
theorem dX6_digest_66 : decode cX6_digest 66 = .ok (.bipush 6, 2) := by decide +kernel
theorem dX6_digest_68 : decode cX6_digest 68 = .ok (.if_icmp .ge 16, 3) := by decide +kernel
theorem dX6_digest_71 : decode cX6_digest 71 = .ok (.aload_n 0, 1) := by decide +kernel
theorem dX6_digest_72 : decode cX6_digest 72 = .ok (.lload_n 1, 1) := by decide +kernel
theorem dX6_digest_73 : decode cX6_digest 73 = .ok (.iload_n 3, 1) := by decide +kernel
theorem dX6_digest_74 : decode cX6_digest 74 = .ok (.invokevirtual 214, 3) := by decide +kernel
theorem dX6_digest_77 : decode cX6_digest 77 = .ok (.lstore_n 1, 1) := by decide +kernel
theorem dX6_digest_78 : decode cX6_digest 78 = .ok (.iinc 3 1, 3) := by decide +kernel
theorem dX6_digest_81 : decode cX6_digest 81 = .ok (.goto (-16), 3) := by decide +kernel
theorem dX6_digest_84 : decode cX6_digest 84 = .ok (.aload_n 0, 1) := by decide +kernel
theorem dX6_digest_85 : decode cX6_digest 85 = .ok (.lload_n 1, 1) := by decide +kernel
theorem dX6_digest_86 : decode cX6_digest 86 = .ok (.invokevirtual 218, 3) := by decide +kernel
theorem dX6_digest_89 : decode cX6_digest 89 = .ok (.lstore_n 1, 1) := by decide +kernel
theorem dX6_digest_90 : decode cX6_digest 90 = .ok (.lload_n 1, 1) := by decide +kernel
theorem dX6_digest_91 : decode cX6_digest 91 = .ok (.aload_n 0, 1) := by decide +kernel
theorem dX6_digest_92 : decode cX6_digest 92 = .ok (.getfield 10, 3) := by decide +kernel
theorem dX6_digest_95 : decode cX6_digest 95 = .ok (.invokevirtual 200, 3) := by decide +kernel
theorem dX6_digest_98 : decode cX6_digest 98 = .ok (.invokestatic 221, 3) := by decide +kernel
theorem dX6_digest_101 : decode cX6_digest 101 = .ok (.invokestatic 206, 3) := by decide +kernel
theorem dX6_digest_104 : decode cX6_digest 104 = .ok (.lstore_n 1, 1) := by decide +kernel
theorem dX6_digest_105 : decode cX6_digest 105 = .ok (.aload_n 0, 1) := by decide +kernel
theorem dX6_digest_106 : decode cX6_digest 106 = .ok (.lload_n 1, 1) := by decide +kernel
theorem dX6_digest_107 : decode cX6_digest 107 = .ok (.invokevirtual 225, 3) := by decide +kernel
theorem dX6_digest_110 : decode cX6_digest 110 = .ok (.lreturn, 1) := by decide +kernel
theorem dX6_mix_0 : decode cX6_mix 0 = .ok (.ldc2_w 228, 3) := by decide +kernel
theorem dX6_mix_3 : decode cX6_mix 3 = .ok (.lload_n 0, 1) := by decide +kernel
theorem dX6_mix_4 : decode cX6_mix 4 = .ok (.lmul, 1) := by decide +kernel
theorem dX6_mix_5 : decode cX6_mix 5 = .ok (.lload_n 2, 1) := by decide +kernel
theorem dX6_mix_6 : decode cX6_mix 6 = .ok (.ladd, 1) := by decide +kernel
theorem dX6_mix_7 : decode cX6_mix 7 = .ok (.lreturn, 1) := by decide +kernel
theorem dX6_mixParts_0 : decode cX6_mixParts 0 = .ok (.lload_n 1, 1) := by decide +kernel
theorem dX6_mixParts_1 : decode cX6_mixParts 1 = .ok (.lstore_n 3, 1) := by decide +kernel
theorem dX6_mixParts_2 : decode cX6_mixParts 2 = .ok (.iconst 0, 1) := by decide +kernel
theorem dX6_mixParts_3 : decode cX6_mixParts 3 = .ok (.istore 5, 2) := by decide +kernel
theorem dX6_mixParts_5 : decode cX6_mixParts 5 = .ok (.iload 5, 2) := by decide +kernel
theorem dX6_mixParts_7 : decode cX6_mixParts 7 = .ok (.aload_n 0, 1) := by decide +kernel
theorem dX6_mixParts_8 : decode cX6_mixParts 8 = .ok (.getfield 10, 3) := by decide +kernel
theorem dX6_mixParts_11 : decode cX6_mixParts 11 = .ok (.getfield 41, 3) := by decide +kernel
theorem dX6_mixParts_14 : decode cX6_mixParts 14 = .ok (.getfield 45, 3) := by decide +kernel
theorem dX6_mixParts_17 : decode cX6_mixParts 17 = .ok (.if_icmp .ge 42, 3) := by decide +kernel
theorem dX6_mixParts_20 : decode cX6_mixParts 20 = .ok (.iconst 0, 1) := by decide +kernel
theorem dX6_mixParts_21 : decode cX6_mixParts 21 = .ok (.istore 6, 2) := by decide +kernel
theorem dX6_mixParts_23 : decode cX6_mixParts 23 = .ok (.iload 6, 2) := by decide +kernel
theorem dX6_mixParts_25 : decode cX6_mixParts 25 = .ok (.bipush 6, 2) := by decide +kernel
theorem dX6_mixParts_27 : decode cX6_mixParts 27 = .ok (.if_icmp .gt 26, 3) := by decide +kernel
theorem dX6_mixParts_30 : decode cX6_mixParts 30 = .ok (.lload_n 3, 1) := by decide +kernel
theorem dX6_mixParts_31 : decode cX6_mixParts 31 = .ok (.aload_n 0, 1) := by decide +kernel
theorem dX6_mixParts_32 : decode cX6_mixParts 32 = .ok (.getfield 10, 3) := by decide +kernel
theorem dX6_mixParts_35 : decode cX6_mixParts 35 = .ok (.iload 5, 2) := by decide +kernel
theorem dX6_mixParts_37 : decode cX6_mixParts 37 = .ok (.iload 6, 2) := by decide +kernel
theorem dX6_mixParts_39 : decode cX6_mixParts 39 = .ok (.invokevirtual 171, 3) := by decide +kernel
theorem dX6_mixParts_42 : decode cX6_mixParts 42 = .ok (.i2l, 1) := by decide +kernel
theorem dX6_mixParts_43 : decode cX6_mixParts 43 = .ok (.invokestatic 206, 3) := by decide +kernel
theorem dX6_mixParts_46 : decode cX6_mixParts 46 = .ok (.lstore_n 3, 1) := by decide +kernel
theorem dX6_mixParts_47 : decode cX6_mixParts 47 = .ok (.iinc 6 1, 3) := by decide +kernel
theorem dX6_mixParts_50 : decode cX6_mixParts 50 = .ok (.goto (-27), 3) := by decide +kernel
theorem dX6_mixParts_53 : decode cX6_mixParts 53 = .ok (.iinc 5 1, 3) := by decide +kernel
theorem dX6_mixParts_56 : decode cX6_mixParts 56 = .ok (.goto (-51), 3) := by decide +kernel
theorem dX6_mixParts_59 : decode cX6_mixParts 59 = .ok (.lload_n 3, 1) := by decide +kernel
theorem dX6_mixParts_60 : decode cX6_mixParts 60 = .ok (.lreturn, 1) := by decide +kernel
theorem dX6_mixReader_0 : decode cX6_mixReader 0 = .ok (.lload_n 1, 1) := by decide +kernel
theorem dX6_mixReader_1 : decode cX6_mixReader 1 = .ok (.lstore 4, 2) := by decide +kernel
theorem dX6_mixReader_3 : decode cX6_mixReader 3 = .ok (.iconst 0, 1) := by decide +kernel
theorem dX6_mixReader_4 : decode cX6_mixReader 4 = .ok (.istore 6, 2) := by decide +kernel
theorem dX6_mixReader_6 : decode cX6_mixReader 6 = .ok (.iload 6, 2) := by decide +kernel
theorem dX6_mixReader_8 : decode cX6_mixReader 8 = .ok (.aload_n 0, 1) := by decide +kernel
theorem dX6_mixReader_9 : decode cX6_mixReader 9 = .ok (.getfield 10, 3) := by decide +kernel
theorem dX6_mixReader_12 : decode cX6_mixReader 12 = .ok (.getfield 41, 3) := by decide +kernel
theorem dX6_mixReader_15 : decode cX6_mixReader 15 = .ok (.getfield 45, 3) := by decide +kernel
theorem dX6_mixReader_18 : decode cX6_mixReader 18 = .ok (.if_icmp .ge 30, 3) := by decide +kernel
theorem dX6_mixReader_21 : decode cX6_mixReader 21 = .ok (.lload 4, 2) := by decide +kernel
theorem dX6_mixReader_23 : decode cX6_mixReader 23 = .ok (.aload_n 0, 1) := by decide +kernel
theorem dX6_mixReader_24 : decode cX6_mixReader 24 = .ok (.getfield 10, 3) := by decide +kernel
theorem dX6_mixReader_27 : decode cX6_mixReader 27 = .ok (.getfield 74, 3) := by decide +kernel
theorem dX6_mixReader_30 : decode cX6_mixReader 30 = .ok (.iload_n 3, 1) := by decide +kernel
theorem dX6_mixReader_31 : decode cX6_mixReader 31 = .ok (.iload 6, 2) := by decide +kernel
theorem dX6_mixReader_33 : decode cX6_mixReader 33 = .ok (.invokevirtual 174, 3) := by decide +kernel
theorem dX6_mixReader_36 : decode cX6_mixReader 36 = .ok (.i2l, 1) := by decide +kernel
theorem dX6_mixReader_37 : decode cX6_mixReader 37 = .ok (.invokestatic 206, 3) := by decide +kernel
theorem dX6_mixReader_40 : decode cX6_mixReader 40 = .ok (.lstore 4, 2) := by decide +kernel
theorem dX6_mixReader_42 : decode cX6_mixReader 42 = .ok (.iinc 6 1, 3) := by decide +kernel
theorem dX6_mixReader_45 : decode cX6_mixReader 45 = .ok (.goto (-39), 3) := by decide +kernel
theorem dX6_mixReader_48 : decode cX6_mixReader 48 = .ok (.iconst 0, 1) := by decide +kernel
theorem dX6_mixReader_49 : decode cX6_mixReader 49 = .ok (.istore 6, 2) := by decide +kernel
theorem dX6_mixReader_51 : decode cX6_mixReader 51 = .ok (.iload 6, 2) := by decide +kernel
theorem dX6_mixReader_53 : decode cX6_mixReader 53 = .ok (.bipush 6, 2) := by decide +kernel
theorem dX6_mixReader_55 : decode cX6_mixReader 55 = .ok (.if_icmp .gt 27, 3) := by decide +kernel
theorem dX6_mixReader_58 : decode cX6_mixReader 58 = .ok (.lload 4, 2) := by decide +kernel
theorem dX6_mixReader_60 : decode cX6_mixReader 60 = .ok (.aload_n 0, 1) := by decide +kernel
theorem dX6_mixReader_61 : decode cX6_mixReader 61 = .ok (.getfield 10, 3) := by decide +kernel
theorem dX6_mixReader_64 : decode cX6_mixReader 64 = .ok (.iload_n 3, 1) := by decide +kernel
theorem dX6_mixReader_65 : decode cX6_mixReader 65 = .ok (.iload 6, 2) := by decide +kernel
theorem dX6_mixReader_67 : decode cX6_mixReader 67 = .ok (.invokevirtual 177, 3) := by decide +kernel
theorem dX6_mixReader_70 : decode cX6_mixReader 70 = .ok (.i2l, 1) := by decide +kernel
theorem dX6_mixReader_71 : decode cX6_mixReader 71 = .ok (.invokestatic 206, 3) := by decide +kernel
theorem dX6_mixReader_74 : decode cX6_mixReader 74 = .ok (.lstore 4, 2) := by decide +kernel
theorem dX6_mixReader_76 : decode cX6_mixReader 76 = .ok (.iinc 6 1, 3) := by decide +kernel
theorem dX6_mixReader_79 : decode cX6_mixReader 79 = .ok (.goto (-28), 3) := by decide +kernel
theorem dX6_mixReader_82 : decode cX6_mixReader 82 = .ok (.lload 4, 2) := by decide +kernel
theorem dX6_mixReader_84 : decode cX6_mixReader 84 = .ok (.aload_n 0, 1) := by decide +kernel
theorem dX6_mixReader_85 : decode cX6_mixReader 85 = .ok (.getfield 10, 3) := by decide +kernel
theorem dX6_mixReader_88 : decode cX6_mixReader 88 = .ok (.iload_n 3, 1) := by decide +kernel
theorem dX6_mixReader_89 : decode cX6_mixReader 89 = .ok (.invokevirtual 194, 3) := by decide +kernel
theorem dX6_mixReader_92 : decode cX6_mixReader 92 = .ok (.i2l, 1) := by decide +kernel
theorem dX6_mixReader_93 : decode cX6_mixReader 93 = .ok (.invokestatic 206, 3) := by decide +kernel
theorem dX6_mixReader_96 : decode cX6_mixReader 96 = .ok (.lstore 4, 2) := by decide +kernel
theorem dX6_mixReader_98 : decode cX6_mixReader 98 = .ok (.lload 4, 2) := by decide +kernel
theorem dX6_mixReader_100 : decode cX6_mixReader 100 = .ok (.aload_n 0, 1) := by decide +kernel
theorem dX6_mixReader_101 : decode cX6_mixReader 101 = .ok (.getfield 10, 3) := by decide +kernel
theorem dX6_mixReader_104 : decode cX6_mixReader 104 = .ok (.iload_n 3, 1) := by decide +kernel
theorem dX6_mixReader_105 : decode cX6_mixReader 105 = .ok (.invokevirtual 197, 3) := by decide +kernel
theorem dX6_mixReader_108 : decode cX6_mixReader 108 = .ok (.i2l, 1) := by decide +kernel
theorem dX6_mixReader_109 : decode cX6_mixReader 109 = .ok (.invokestatic 206, 3) := by decide +kernel
theorem dX6_mixReader_112 : decode cX6_mixReader 112 = .ok (.lstore 4, 2) := by decide +kernel
theorem dX6_mixReader_114 : decode cX6_mixReader 114 = .ok (.aload_n 0, 1) := by decide +kernel
theorem dX6_mixReader_115 : decode cX6_mixReader 115 = .ok (.getfield 10, 3) := by decide +kernel
theorem dX6_mixReader_118 : decode cX6_mixReader 118 = .ok (.getfield 41, 3) := by decide +kernel
theorem dX6_mixReader_121 : decode cX6_mixReader 121 = .ok (.getfield 45, 3) := by decide +kernel
theorem dX6_mixReader_124 : decode cX6_mixReader 124 = .ok (.ifCond .le 48, 3) := by decide +kernel
theorem dX6_mixReader_127 : decode cX6_mixReader 127 = .ok (.iconst 0, 1) := by decide +kernel
theorem dX6_mixReader_128 : decode cX6_mixReader 128 = .ok (.istore 6, 2) := by decide +kernel
theorem dX6_mixReader_130 : decode cX6_mixReader 130 = .ok (.iload 6, 2) := by decide +kernel
theorem dX6_mixReader_132 : decode cX6_mixReader 132 = .ok (.iconst 4, 1) := by decide +kernel
theorem dX6_mixReader_133 : decode cX6_mixReader 133 = .ok (.if_icmp .gt 39, 3) := by decide +kernel
theorem dX6_mixReader_136 : decode cX6_mixReader 136 = .ok (.lload 4, 2) := by decide +kernel
theorem dX6_mixReader_138 : decode cX6_mixReader 138 = .ok (.aload_n 0, 1) := by decide +kernel
theorem dX6_mixReader_139 : decode cX6_mixReader 139 = .ok (.getfield 10, 3) := by decide +kernel
theorem dX6_mixReader_142 : decode cX6_mixReader 142 = .ok (.iload_n 3, 1) := by decide +kernel
theorem dX6_mixReader_143 : decode cX6_mixReader 143 = .ok (.aload_n 0, 1) := by decide +kernel
theorem dX6_mixReader_144 : decode cX6_mixReader 144 = .ok (.getfield 10, 3) := by decide +kernel
theorem dX6_mixReader_147 : decode cX6_mixReader 147 = .ok (.getfield 41, 3) := by decide +kernel
theorem dX6_mixReader_150 : decode cX6_mixReader 150 = .ok (.getfield 45, 3) := by decide +kernel
theorem dX6_mixReader_153 : decode cX6_mixReader 153 = .ok (.iconst 1, 1) := by decide +kernel
theorem dX6_mixReader_154 : decode cX6_mixReader 154 = .ok (.isub, 1) := by decide +kernel
theorem dX6_mixReader_155 : decode cX6_mixReader 155 = .ok (.iload 6, 2) := by decide +kernel
theorem dX6_mixReader_157 : decode cX6_mixReader 157 = .ok (.invokevirtual 191, 3) := by decide +kernel
theorem dX6_mixReader_160 : decode cX6_mixReader 160 = .ok (.i2l, 1) := by decide +kernel
theorem dX6_mixReader_161 : decode cX6_mixReader 161 = .ok (.invokestatic 206, 3) := by decide +kernel
theorem dX6_mixReader_164 : decode cX6_mixReader 164 = .ok (.lstore 4, 2) := by decide +kernel
theorem dX6_mixReader_166 : decode cX6_mixReader 166 = .ok (.iinc 6 1, 3) := by decide +kernel
theorem dX6_mixReader_169 : decode cX6_mixReader 169 = .ok (.goto (-39), 3) := by decide +kernel
theorem dX6_mixReader_172 : decode cX6_mixReader 172 = .ok (.lload 4, 2) := by decide +kernel
theorem dX6_mixReader_174 : decode cX6_mixReader 174 = .ok (.lreturn, 1) := by decide +kernel
theorem dX6_mixPlots_0 : decode cX6_mixPlots 0 = .ok (.lload_n 1, 1) := by decide +kernel
theorem dX6_mixPlots_1 : decode cX6_mixPlots 1 = .ok (.lstore_n 3, 1) := by decide +kernel
theorem dX6_mixPlots_2 : decode cX6_mixPlots 2 = .ok (.iconst 0, 1) := by decide +kernel
theorem dX6_mixPlots_3 : decode cX6_mixPlots 3 = .ok (.istore 5, 2) := by decide +kernel
theorem dX6_mixPlots_5 : decode cX6_mixPlots 5 = .ok (.iload 5, 2) := by decide +kernel
theorem dX6_mixPlots_7 : decode cX6_mixPlots 7 = .ok (.bipush 6, 2) := by decide +kernel
theorem dX6_mixPlots_9 : decode cX6_mixPlots 9 = .ok (.if_icmp .ge 41, 3) := by decide +kernel
theorem dX6_mixPlots_12 : decode cX6_mixPlots 12 = .ok (.iconst 0, 1) := by decide +kernel
theorem dX6_mixPlots_13 : decode cX6_mixPlots 13 = .ok (.istore 6, 2) := by decide +kernel
theorem dX6_mixPlots_15 : decode cX6_mixPlots 15 = .ok (.iload 6, 2) := by decide +kernel
theorem dX6_mixPlots_17 : decode cX6_mixPlots 17 = .ok (.iconst 3, 1) := by decide +kernel
theorem dX6_mixPlots_18 : decode cX6_mixPlots 18 = .ok (.if_icmp .gt 26, 3) := by decide +kernel
theorem dX6_mixPlots_21 : decode cX6_mixPlots 21 = .ok (.lload_n 3, 1) := by decide +kernel
theorem dX6_mixPlots_22 : decode cX6_mixPlots 22 = .ok (.aload_n 0, 1) := by decide +kernel
theorem dX6_mixPlots_23 : decode cX6_mixPlots 23 = .ok (.getfield 10, 3) := by decide +kernel
theorem dX6_mixPlots_26 : decode cX6_mixPlots 26 = .ok (.iload 5, 2) := by decide +kernel
theorem dX6_mixPlots_28 : decode cX6_mixPlots 28 = .ok (.iload 6, 2) := by decide +kernel
theorem dX6_mixPlots_30 : decode cX6_mixPlots 30 = .ok (.invokevirtual 185, 3) := by decide +kernel
theorem dX6_mixPlots_33 : decode cX6_mixPlots 33 = .ok (.i2l, 1) := by decide +kernel
theorem dX6_mixPlots_34 : decode cX6_mixPlots 34 = .ok (.invokestatic 206, 3) := by decide +kernel
theorem dX6_mixPlots_37 : decode cX6_mixPlots 37 = .ok (.lstore_n 3, 1) := by decide +kernel
theorem dX6_mixPlots_38 : decode cX6_mixPlots 38 = .ok (.iinc 6 1, 3) := by decide +kernel
theorem dX6_mixPlots_41 : decode cX6_mixPlots 41 = .ok (.goto (-26), 3) := by decide +kernel
theorem dX6_mixPlots_44 : decode cX6_mixPlots 44 = .ok (.iinc 5 1, 3) := by decide +kernel
theorem dX6_mixPlots_47 : decode cX6_mixPlots 47 = .ok (.goto (-42), 3) := by decide +kernel
theorem dX6_mixPlots_50 : decode cX6_mixPlots 50 = .ok (.lload_n 3, 1) := by decide +kernel
theorem dX6_mixPlots_51 : decode cX6_mixPlots 51 = .ok (.lreturn, 1) := by decide +kernel
theorem dX6_mixText_0 : decode cX6_mixText 0 = .ok (.lload_n 1, 1) := by decide +kernel
theorem dX6_mixText_1 : decode cX6_mixText 1 = .ok (.aload_n 0, 1) := by decide +kernel
theorem dX6_mixText_2 : decode cX6_mixText 2 = .ok (.getfield 26, 3) := by decide +kernel
theorem dX6_mixText_5 : decode cX6_mixText 5 = .ok (.getfield 127, 3) := by decide +kernel
theorem dX6_mixText_8 : decode cX6_mixText 8 = .ok (.i2l, 1) := by decide +kernel
theorem dX6_mixText_9 : decode cX6_mixText 9 = .ok (.invokestatic 206, 3) := by decide +kernel
theorem dX6_mixText_12 : decode cX6_mixText 12 = .ok (.lstore_n 3, 1) := by decide +kernel
theorem dX6_mixText_13 : decode cX6_mixText 13 = .ok (.iconst 0, 1) := by decide +kernel
theorem dX6_mixText_14 : decode cX6_mixText 14 = .ok (.istore 5, 2) := by decide +kernel
theorem dX6_mixText_16 : decode cX6_mixText 16 = .ok (.iload 5, 2) := by decide +kernel
theorem dX6_mixText_18 : decode cX6_mixText 18 = .ok (.aload_n 0, 1) := by decide +kernel
theorem dX6_mixText_19 : decode cX6_mixText 19 = .ok (.getfield 26, 3) := by decide +kernel
theorem dX6_mixText_22 : decode cX6_mixText 22 = .ok (.getfield 127, 3) := by decide +kernel
theorem dX6_mixText_25 : decode cX6_mixText 25 = .ok (.if_icmp .ge 25, 3) := by decide +kernel
theorem dX6_mixText_28 : decode cX6_mixText 28 = .ok (.lload_n 3, 1) := by decide +kernel
theorem dX6_mixText_29 : decode cX6_mixText 29 = .ok (.aload_n 0, 1) := by decide +kernel
theorem dX6_mixText_30 : decode cX6_mixText 30 = .ok (.getfield 26, 3) := by decide +kernel
theorem dX6_mixText_33 : decode cX6_mixText 33 = .ok (.getfield 230, 3) := by decide +kernel
theorem dX6_mixText_36 : decode cX6_mixText 36 = .ok (.iload 5, 2) := by decide +kernel
theorem dX6_mixText_38 : decode cX6_mixText 38 = .ok (.iaload, 1) := by decide +kernel
theorem dX6_mixText_39 : decode cX6_mixText 39 = .ok (.i2l, 1) := by decide +kernel
theorem dX6_mixText_40 : decode cX6_mixText 40 = .ok (.invokestatic 206, 3) := by decide +kernel
theorem dX6_mixText_43 : decode cX6_mixText 43 = .ok (.lstore_n 3, 1) := by decide +kernel
theorem dX6_mixText_44 : decode cX6_mixText 44 = .ok (.iinc 5 1, 3) := by decide +kernel
theorem dX6_mixText_47 : decode cX6_mixText 47 = .ok (.goto (-31), 3) := by decide +kernel
theorem dX6_mixText_50 : decode cX6_mixText 50 = .ok (.lload_n 3, 1) := by decide +kernel
theorem dX6_mixText_51 : decode cX6_mixText 51 = .ok (.lreturn, 1) := by decide +kernel
theorem dX6_bitsOfShare_0 : decode cX6_bitsOfShare 0 = .ok (.dload_n 0, 1) := by decide +kernel
theorem dX6_bitsOfShare_1 : decode cX6_bitsOfShare 1 = .ok (.dconst 0, 1) := by decide +kernel
theorem dX6_bitsOfShare_2 : decode cX6_bitsOfShare 2 = .ok (.dcmp .g, 1) := by decide +kernel
theorem dX6_bitsOfShare_3 : decode cX6_bitsOfShare 3 = .ok (.ifCond .gt 5, 3) := by decide +kernel
theorem dX6_bitsOfShare_6 : decode cX6_bitsOfShare 6 = .ok (.lconst 0, 1) := by decide +kernel
theorem dX6_bitsOfShare_7 : decode cX6_bitsOfShare 7 = .ok (.lreturn, 1) := by decide +kernel
theorem dX6_bitsOfShare_8 : decode cX6_bitsOfShare 8 = .ok (.dload_n 0, 1) := by decide +kernel
theorem dX6_bitsOfShare_9 : decode cX6_bitsOfShare 9 = .ok (.dstore_n 2, 1) := by decide +kernel
theorem dX6_bitsOfShare_10 : decode cX6_bitsOfShare 10 = .ok (.ldc2_w 233, 3) := by decide +kernel
theorem dX6_bitsOfShare_13 : decode cX6_bitsOfShare 13 = .ok (.lstore 4, 2) := by decide +kernel
theorem dX6_bitsOfShare_15 : decode cX6_bitsOfShare 15 = .ok (.iconst 1, 1) := by decide +kernel
theorem dX6_bitsOfShare_16 : decode cX6_bitsOfShare 16 = .ok (.istore 6, 2) := by decide +kernel
theorem dX6_bitsOfShare_18 : decode cX6_bitsOfShare 18 = .ok (.iload 6, 2) := by decide +kernel
theorem dX6_bitsOfShare_20 : decode cX6_bitsOfShare 20 = .ok (.i2l, 1) := by decide +kernel
theorem dX6_bitsOfShare_21 : decode cX6_bitsOfShare 21 = .ok (.ldc2_w 233, 3) := by decide +kernel
theorem dX6_bitsOfShare_24 : decode cX6_bitsOfShare 24 = .ok (.lcmp, 1) := by decide +kernel
theorem dX6_bitsOfShare_25 : decode cX6_bitsOfShare 25 = .ok (.ifCond .ge 27, 3) := by decide +kernel
theorem dX6_bitsOfShare_28 : decode cX6_bitsOfShare 28 = .ok (.dload_n 2, 1) := by decide +kernel
theorem dX6_bitsOfShare_29 : decode cX6_bitsOfShare 29 = .ok (.dconst 1, 1) := by decide +kernel
theorem dX6_bitsOfShare_30 : decode cX6_bitsOfShare 30 = .ok (.dcmp .g, 1) := by decide +kernel
theorem dX6_bitsOfShare_31 : decode cX6_bitsOfShare 31 = .ok (.ifCond .ge 21, 3) := by decide +kernel
theorem dX6_bitsOfShare_34 : decode cX6_bitsOfShare 34 = .ok (.dload_n 2, 1) := by decide +kernel
theorem dX6_bitsOfShare_35 : decode cX6_bitsOfShare 35 = .ok (.ldc2_w 235, 3) := by decide +kernel
theorem dX6_bitsOfShare_38 : decode cX6_bitsOfShare 38 = .ok (.dmul, 1) := by decide +kernel
theorem dX6_bitsOfShare_39 : decode cX6_bitsOfShare 39 = .ok (.dstore_n 2, 1) := by decide +kernel
theorem dX6_bitsOfShare_40 : decode cX6_bitsOfShare 40 = .ok (.lload 4, 2) := by decide +kernel
theorem dX6_bitsOfShare_42 : decode cX6_bitsOfShare 42 = .ok (.lconst 1, 1) := by decide +kernel
theorem dX6_bitsOfShare_43 : decode cX6_bitsOfShare 43 = .ok (.lsub, 1) := by decide +kernel
theorem dX6_bitsOfShare_44 : decode cX6_bitsOfShare 44 = .ok (.lstore 4, 2) := by decide +kernel
theorem dX6_bitsOfShare_46 : decode cX6_bitsOfShare 46 = .ok (.iinc 6 1, 3) := by decide +kernel
theorem dX6_bitsOfShare_49 : decode cX6_bitsOfShare 49 = .ok (.goto (-31), 3) := by decide +kernel
theorem dX6_bitsOfShare_52 : decode cX6_bitsOfShare 52 = .ok (.lload 4, 2) := by decide +kernel
theorem dX6_bitsOfShare_54 : decode cX6_bitsOfShare 54 = .ok (.bipush 52, 2) := by decide +kernel
theorem dX6_bitsOfShare_56 : decode cX6_bitsOfShare 56 = .ok (.lshl, 1) := by decide +kernel
theorem dX6_bitsOfShare_57 : decode cX6_bitsOfShare 57 = .ok (.dload_n 2, 1) := by decide +kernel
theorem dX6_bitsOfShare_58 : decode cX6_bitsOfShare 58 = .ok (.dconst 1, 1) := by decide +kernel
theorem dX6_bitsOfShare_59 : decode cX6_bitsOfShare 59 = .ok (.dsub, 1) := by decide +kernel
theorem dX6_bitsOfShare_60 : decode cX6_bitsOfShare 60 = .ok (.ldc2_w 237, 3) := by decide +kernel
theorem dX6_bitsOfShare_63 : decode cX6_bitsOfShare 63 = .ok (.dmul, 1) := by decide +kernel
theorem dX6_bitsOfShare_64 : decode cX6_bitsOfShare 64 = .ok (.d2l, 1) := by decide +kernel
theorem dX6_bitsOfShare_65 : decode cX6_bitsOfShare 65 = .ok (.lor, 1) := by decide +kernel
theorem dX6_bitsOfShare_66 : decode cX6_bitsOfShare 66 = .ok (.lreturn, 1) := by decide +kernel
theorem dX6_total_0 : decode cX6_total 0 = .ok (.iload_n 1, 1) := by decide +kernel
theorem dX6_total_1 : decode cX6_total 1 = .ok (.bipush 6, 2) := by decide +kernel
theorem dX6_total_3 : decode cX6_total 3 = .ok (.if_icmp .ne 13, 3) := by decide +kernel
theorem dX6_total_6 : decode cX6_total 6 = .ok (.aload_n 0, 1) := by decide +kernel
theorem dX6_total_7 : decode cX6_total 7 = .ok (.getfield 19, 3) := by decide +kernel
theorem dX6_total_10 : decode cX6_total 10 = .ok (.getfield 165, 3) := by decide +kernel
theorem dX6_total_13 : decode cX6_total 13 = .ok (.goto 11, 3) := by decide +kernel
theorem dX6_total_16 : decode cX6_total 16 = .ok (.aload_n 0, 1) := by decide +kernel
theorem dX6_total_17 : decode cX6_total 17 = .ok (.getfield 10, 3) := by decide +kernel
theorem dX6_total_20 : decode cX6_total 20 = .ok (.iload_n 1, 1) := by decide +kernel
theorem dX6_total_21 : decode cX6_total 21 = .ok (.invokevirtual 239, 3) := by decide +kernel
theorem dX6_total_24 : decode cX6_total 24 = .ok (.ireturn, 1) := by decide +kernel
theorem dX6_checkPart_0 : decode cX6_checkPart 0 = .ok (.iload_n 1, 1) := by decide +kernel
theorem dX6_checkPart_1 : decode cX6_checkPart 1 = .ok (.ifCond .lt 17, 3) := by decide +kernel
theorem dX6_checkPart_4 : decode cX6_checkPart 4 = .ok (.iload_n 1, 1) := by decide +kernel
theorem dX6_checkPart_5 : decode cX6_checkPart 5 = .ok (.aload_n 0, 1) := by decide +kernel
theorem dX6_checkPart_6 : decode cX6_checkPart 6 = .ok (.getfield 10, 3) := by decide +kernel
theorem dX6_checkPart_9 : decode cX6_checkPart 9 = .ok (.getfield 41, 3) := by decide +kernel
theorem dX6_checkPart_12 : decode cX6_checkPart 12 = .ok (.getfield 45, 3) := by decide +kernel
theorem dX6_checkPart_15 : decode cX6_checkPart 15 = .ok (.if_icmp .lt 13, 3) := by decide +kernel
theorem dX6_checkPart_18 : decode cX6_checkPart 18 = .ok (.new 180, 3) := by decide +kernel
theorem dX6_checkPart_21 : decode cX6_checkPart 21 = .ok (.dup, 1) := by decide +kernel
theorem dX6_checkPart_22 : decode cX6_checkPart 22 = .ok (.ldc 242, 2) := by decide +kernel
theorem dX6_checkPart_24 : decode cX6_checkPart 24 = .ok (.invokespecial 184, 3) := by decide +kernel
theorem dX6_checkPart_27 : decode cX6_checkPart 27 = .ok (.athrow, 1) := by decide +kernel
theorem dX6_checkPart_28 : decode cX6_checkPart 28 = .ok (.return_, 1) := by decide +kernel
theorem dX6_checkReader_0 : decode cX6_checkReader 0 = .ok (.iload_n 0, 1) := by decide +kernel
theorem dX6_checkReader_1 : decode cX6_checkReader 1 = .ok (.ifCond .lt 9, 3) := by decide +kernel
theorem dX6_checkReader_4 : decode cX6_checkReader 4 = .ok (.iload_n 0, 1) := by decide +kernel
theorem dX6_checkReader_5 : decode cX6_checkReader 5 = .ok (.bipush 6, 2) := by decide +kernel
theorem dX6_checkReader_7 : decode cX6_checkReader 7 = .ok (.if_icmp .lt 13, 3) := by decide +kernel
theorem dX6_checkReader_10 : decode cX6_checkReader 10 = .ok (.new 180, 3) := by decide +kernel
theorem dX6_checkReader_13 : decode cX6_checkReader 13 = .ok (.dup, 1) := by decide +kernel
theorem dX6_checkReader_14 : decode cX6_checkReader 14 = .ok (.ldc 244, 2) := by decide +kernel
theorem dX6_checkReader_16 : decode cX6_checkReader 16 = .ok (.invokespecial 184, 3) := by decide +kernel
theorem dX6_checkReader_19 : decode cX6_checkReader 19 = .ok (.athrow, 1) := by decide +kernel
theorem dX6_checkReader_20 : decode cX6_checkReader 20 = .ok (.return_, 1) := by decide +kernel
theorem dX6_checkSetting_0 : decode cX6_checkSetting 0 = .ok (.iload_n 0, 1) := by decide +kernel
theorem dX6_checkSetting_1 : decode cX6_checkSetting 1 = .ok (.ifCond .lt 8, 3) := by decide +kernel
theorem dX6_checkSetting_4 : decode cX6_checkSetting 4 = .ok (.iload_n 0, 1) := by decide +kernel
theorem dX6_checkSetting_5 : decode cX6_checkSetting 5 = .ok (.iconst 2, 1) := by decide +kernel
theorem dX6_checkSetting_6 : decode cX6_checkSetting 6 = .ok (.if_icmp .lt 13, 3) := by decide +kernel
theorem dX6_checkSetting_9 : decode cX6_checkSetting 9 = .ok (.new 180, 3) := by decide +kernel
theorem dX6_checkSetting_12 : decode cX6_checkSetting 12 = .ok (.dup, 1) := by decide +kernel
theorem dX6_checkSetting_13 : decode cX6_checkSetting 13 = .ok (.ldc 246, 2) := by decide +kernel
theorem dX6_checkSetting_15 : decode cX6_checkSetting 15 = .ok (.invokespecial 184, 3) := by decide +kernel
theorem dX6_checkSetting_18 : decode cX6_checkSetting 18 = .ok (.athrow, 1) := by decide +kernel
theorem dX6_checkSetting_19 : decode cX6_checkSetting 19 = .ok (.return_, 1) := by decide +kernel
theorem dX6_checkWhat_0 : decode cX6_checkWhat 0 = .ok (.iload_n 0, 1) := by decide +kernel
theorem dX6_checkWhat_1 : decode cX6_checkWhat 1 = .ok (.ifCond .lt 8, 3) := by decide +kernel
theorem dX6_checkWhat_4 : decode cX6_checkWhat 4 = .ok (.iload_n 0, 1) := by decide +kernel
theorem dX6_checkWhat_5 : decode cX6_checkWhat 5 = .ok (.iload_n 1, 1) := by decide +kernel
theorem dX6_checkWhat_6 : decode cX6_checkWhat 6 = .ok (.if_icmp .le 13, 3) := by decide +kernel
theorem dX6_checkWhat_9 : decode cX6_checkWhat 9 = .ok (.new 34, 3) := by decide +kernel
theorem dX6_checkWhat_12 : decode cX6_checkWhat 12 = .ok (.dup, 1) := by decide +kernel
theorem dX6_checkWhat_13 : decode cX6_checkWhat 13 = .ok (.ldc 248, 2) := by decide +kernel
theorem dX6_checkWhat_15 : decode cX6_checkWhat 15 = .ok (.invokespecial 38, 3) := by decide +kernel
theorem dX6_checkWhat_18 : decode cX6_checkWhat 18 = .ok (.athrow, 1) := by decide +kernel
theorem dX6_checkWhat_19 : decode cX6_checkWhat 19 = .ok (.return_, 1) := by decide +kernel
theorem dX6_checkPlots_0 : decode cX6_checkPlots 0 = .ok (.iload_n 0, 1) := by decide +kernel
theorem dX6_checkPlots_1 : decode cX6_checkPlots 1 = .ok (.iconst 1, 1) := by decide +kernel
theorem dX6_checkPlots_2 : decode cX6_checkPlots 2 = .ok (.if_icmp .lt 9, 3) := by decide +kernel
theorem dX6_checkPlots_5 : decode cX6_checkPlots 5 = .ok (.iload_n 0, 1) := by decide +kernel
theorem dX6_checkPlots_6 : decode cX6_checkPlots 6 = .ok (.bipush 63, 2) := by decide +kernel
theorem dX6_checkPlots_8 : decode cX6_checkPlots 8 = .ok (.if_icmp .le 13, 3) := by decide +kernel
theorem dX6_checkPlots_11 : decode cX6_checkPlots 11 = .ok (.new 34, 3) := by decide +kernel
theorem dX6_checkPlots_14 : decode cX6_checkPlots 14 = .ok (.dup, 1) := by decide +kernel
theorem dX6_checkPlots_15 : decode cX6_checkPlots 15 = .ok (.ldc 250, 2) := by decide +kernel
theorem dX6_checkPlots_17 : decode cX6_checkPlots 17 = .ok (.invokespecial 38, 3) := by decide +kernel
theorem dX6_checkPlots_20 : decode cX6_checkPlots 20 = .ok (.athrow, 1) := by decide +kernel
theorem dX6_checkPlots_21 : decode cX6_checkPlots 21 = .ok (.iload_n 1, 1) := by decide +kernel
theorem dX6_checkPlots_22 : decode cX6_checkPlots 22 = .ok (.iconst (-1), 1) := by decide +kernel
theorem dX6_checkPlots_23 : decode cX6_checkPlots 23 = .ok (.if_icmp .ne 4, 3) := by decide +kernel
theorem dX6_checkPlots_26 : decode cX6_checkPlots 26 = .ok (.return_, 1) := by decide +kernel
theorem dX6_checkPlots_27 : decode cX6_checkPlots 27 = .ok (.iload_n 1, 1) := by decide +kernel
theorem dX6_checkPlots_28 : decode cX6_checkPlots 28 = .ok (.ifCond .lt 17, 3) := by decide +kernel
theorem dX6_checkPlots_31 : decode cX6_checkPlots 31 = .ok (.iload_n 1, 1) := by decide +kernel
theorem dX6_checkPlots_32 : decode cX6_checkPlots 32 = .ok (.bipush 6, 2) := by decide +kernel
theorem dX6_checkPlots_34 : decode cX6_checkPlots 34 = .ok (.if_icmp .ge 11, 3) := by decide +kernel
theorem dX6_checkPlots_37 : decode cX6_checkPlots 37 = .ok (.iload_n 0, 1) := by decide +kernel
theorem dX6_checkPlots_38 : decode cX6_checkPlots 38 = .ok (.iload_n 1, 1) := by decide +kernel
theorem dX6_checkPlots_39 : decode cX6_checkPlots 39 = .ok (.invokestatic 252, 3) := by decide +kernel
theorem dX6_checkPlots_42 : decode cX6_checkPlots 42 = .ok (.ifCond .ne 13, 3) := by decide +kernel
theorem dX6_checkPlots_45 : decode cX6_checkPlots 45 = .ok (.new 34, 3) := by decide +kernel
theorem dX6_checkPlots_48 : decode cX6_checkPlots 48 = .ok (.dup, 1) := by decide +kernel
theorem dX6_checkPlots_49 : decode cX6_checkPlots 49 = .ok (.ldc 255, 2) := by decide +kernel
theorem dX6_checkPlots_51 : decode cX6_checkPlots 51 = .ok (.invokespecial 38, 3) := by decide +kernel
theorem dX6_checkPlots_54 : decode cX6_checkPlots 54 = .ok (.athrow, 1) := by decide +kernel
theorem dX6_checkPlots_55 : decode cX6_checkPlots 55 = .ok (.return_, 1) := by decide +kernel
theorem dX6_isIn_0 : decode cX6_isIn 0 = .ok (.iload_n 0, 1) := by decide +kernel
theorem dX6_isIn_1 : decode cX6_isIn 1 = .ok (.iload_n 1, 1) := by decide +kernel
theorem dX6_isIn_2 : decode cX6_isIn 2 = .ok (.ishr, 1) := by decide +kernel
theorem dX6_isIn_3 : decode cX6_isIn 3 = .ok (.iconst 1, 1) := by decide +kernel
theorem dX6_isIn_4 : decode cX6_isIn 4 = .ok (.iand, 1) := by decide +kernel
theorem dX6_isIn_5 : decode cX6_isIn 5 = .ok (.iconst 1, 1) := by decide +kernel
theorem dX6_isIn_6 : decode cX6_isIn 6 = .ok (.if_icmp .ne 7, 3) := by decide +kernel
theorem dX6_isIn_9 : decode cX6_isIn 9 = .ok (.iconst 1, 1) := by decide +kernel
theorem dX6_isIn_10 : decode cX6_isIn 10 = .ok (.goto 4, 3) := by decide +kernel
theorem dX6_isIn_13 : decode cX6_isIn 13 = .ok (.iconst 0, 1) := by decide +kernel
theorem dX6_isIn_14 : decode cX6_isIn 14 = .ok (.ireturn, 1) := by decide +kernel
theorem dX7_init_0 : decode cX7_init 0 = .ok (.aload_n 0, 1) := by decide +kernel
theorem dX7_init_1 : decode cX7_init 1 = .ok (.invokespecial 1, 3) := by decide +kernel
theorem dX7_init_4 : decode cX7_init 4 = .ok (.aload_n 0, 1) := by decide +kernel
theorem dX7_init_5 : decode cX7_init 5 = .ok (.sipush 203, 3) := by decide +kernel
theorem dX7_init_8 : decode cX7_init 8 = .ok (.newarray .int, 2) := by decide +kernel
theorem dX7_init_10 : decode cX7_init 10 = .ok (.putfield 7, 3) := by decide +kernel
theorem dX7_init_13 : decode cX7_init 13 = .ok (.aload_n 0, 1) := by decide +kernel
theorem dX7_init_14 : decode cX7_init 14 = .ok (.sipush 1218, 3) := by decide +kernel
theorem dX7_init_17 : decode cX7_init 17 = .ok (.newarray .int, 2) := by decide +kernel
theorem dX7_init_19 : decode cX7_init 19 = .ok (.putfield 13, 3) := by decide +kernel
theorem dX7_init_22 : decode cX7_init 22 = .ok (.aload_n 0, 1) := by decide +kernel
theorem dX7_init_23 : decode cX7_init 23 = .ok (.bipush 60, 2) := by decide +kernel
theorem dX7_init_25 : decode cX7_init 25 = .ok (.newarray .char, 2) := by decide +kernel
theorem dX7_init_27 : decode cX7_init 27 = .ok (.putfield 16, 3) := by decide +kernel
theorem dX7_init_30 : decode cX7_init 30 = .ok (.aload_n 0, 1) := by decide +kernel
theorem dX7_init_31 : decode cX7_init 31 = .ok (.bipush 96, 2) := by decide +kernel
theorem dX7_init_33 : decode cX7_init 33 = .ok (.newarray .int, 2) := by decide +kernel
theorem dX7_init_35 : decode cX7_init 35 = .ok (.putfield 20, 3) := by decide +kernel
theorem dX7_init_38 : decode cX7_init 38 = .ok (.aload_n 0, 1) := by decide +kernel
theorem dX7_init_39 : decode cX7_init 39 = .ok (.getfield 7, 3) := by decide +kernel
theorem dX7_init_42 : decode cX7_init 42 = .ok (.iconst 1, 1) := by decide +kernel
theorem dX7_init_43 : decode cX7_init 43 = .ok (.iconst 4, 1) := by decide +kernel
theorem dX7_init_44 : decode cX7_init 44 = .ok (.iastore, 1) := by decide +kernel
theorem dX7_init_45 : decode cX7_init 45 = .ok (.aload_n 0, 1) := by decide +kernel
theorem dX7_init_46 : decode cX7_init 46 = .ok (.getfield 7, 3) := by decide +kernel
theorem dX7_init_49 : decode cX7_init 49 = .ok (.iconst 2, 1) := by decide +kernel
theorem dX7_init_50 : decode cX7_init 50 = .ok (.bipush 10, 2) := by decide +kernel
theorem dX7_init_52 : decode cX7_init 52 = .ok (.iastore, 1) := by decide +kernel
theorem dX7_init_53 : decode cX7_init 53 = .ok (.return_, 1) := by decide +kernel
theorem dX7_thrown_0 : decode cX7_thrown 0 = .ok (.aload_n 0, 1) := by decide +kernel
theorem dX7_thrown_1 : decode cX7_thrown 1 = .ok (.getfield 23, 3) := by decide +kernel
theorem dX7_thrown_4 : decode cX7_thrown 4 = .ok (.ireturn, 1) := by decide +kernel
theorem dX7_in_0 : decode cX7_in 0 = .ok (.iload_n 0, 1) := by decide +kernel
theorem dX7_in_1 : decode cX7_in 1 = .ok (.iload_n 1, 1) := by decide +kernel
theorem dX7_in_2 : decode cX7_in 2 = .ok (.if_icmp .lt 12, 3) := by decide +kernel
theorem dX7_in_5 : decode cX7_in 5 = .ok (.iload_n 0, 1) := by decide +kernel
theorem dX7_in_6 : decode cX7_in 6 = .ok (.iload_n 2, 1) := by decide +kernel
theorem dX7_in_7 : decode cX7_in 7 = .ok (.if_icmp .gt 7, 3) := by decide +kernel
theorem dX7_in_10 : decode cX7_in 10 = .ok (.iconst 1, 1) := by decide +kernel
theorem dX7_in_11 : decode cX7_in 11 = .ok (.goto 4, 3) := by decide +kernel
theorem dX7_in_14 : decode cX7_in 14 = .ok (.iconst 0, 1) := by decide +kernel
theorem dX7_in_15 : decode cX7_in 15 = .ok (.ireturn, 1) := by decide +kernel
theorem dX7_refuses_0 : decode cX7_refuses 0 = .ok (.aload_n 0, 1) := by decide +kernel
theorem dX7_refuses_1 : decode cX7_refuses 1 = .ok (.iload_n 1, 1) := by decide +kernel
theorem dX7_refuses_2 : decode cX7_refuses 2 = .ok (.putfield 23, 3) := by decide +kernel
theorem dX7_refuses_5 : decode cX7_refuses 5 = .ok (.iload_n 1, 1) := by decide +kernel
theorem dX7_refuses_6 : decode cX7_refuses 6 = .ok (.ifCond .le 7, 3) := by decide +kernel
theorem dX7_refuses_9 : decode cX7_refuses 9 = .ok (.iconst 1, 1) := by decide +kernel
theorem dX7_refuses_10 : decode cX7_refuses 10 = .ok (.goto 4, 3) := by decide +kernel
theorem dX7_refuses_13 : decode cX7_refuses 13 = .ok (.iconst 0, 1) := by decide +kernel
theorem dX7_refuses_14 : decode cX7_refuses 14 = .ok (.ireturn, 1) := by decide +kernel
theorem dX7_saves_0 : decode cX7_saves 0 = .ok (.aload_n 0, 1) := by decide +kernel
theorem dX7_saves_1 : decode cX7_saves 1 = .ok (.getfield 27, 3) := by decide +kernel
theorem dX7_saves_4 : decode cX7_saves 4 = .ok (.bipush 6, 2) := by decide +kernel
theorem dX7_saves_6 : decode cX7_saves 6 = .ok (.if_icmp .ne 44, 3) := by decide +kernel
theorem dX7_saves_9 : decode cX7_saves 9 = .ok (.iconst 0, 1) := by decide +kernel
theorem dX7_saves_10 : decode cX7_saves 10 = .ok (.istore_n 1, 1) := by decide +kernel
theorem dX7_saves_11 : decode cX7_saves 11 = .ok (.iload_n 1, 1) := by decide +kernel
theorem dX7_saves_12 : decode cX7_saves 12 = .ok (.sipush 1015, 3) := by decide +kernel
theorem dX7_saves_15 : decode cX7_saves 15 = .ok (.if_icmp .ge 25, 3) := by decide +kernel
theorem dX7_saves_18 : decode cX7_saves 18 = .ok (.aload_n 0, 1) := by decide +kernel
theorem dX7_saves_19 : decode cX7_saves 19 = .ok (.getfield 13, 3) := by decide +kernel
theorem dX7_saves_22 : decode cX7_saves 22 = .ok (.iload_n 1, 1) := by decide +kernel
theorem dX7_saves_23 : decode cX7_saves 23 = .ok (.aload_n 0, 1) := by decide +kernel
theorem dX7_saves_24 : decode cX7_saves 24 = .ok (.getfield 13, 3) := by decide +kernel
theorem dX7_saves_27 : decode cX7_saves 27 = .ok (.iload_n 1, 1) := by decide +kernel
theorem dX7_saves_28 : decode cX7_saves 28 = .ok (.sipush 203, 3) := by decide +kernel
theorem dX7_saves_31 : decode cX7_saves 31 = .ok (.iadd, 1) := by decide +kernel
theorem dX7_saves_32 : decode cX7_saves 32 = .ok (.iaload, 1) := by decide +kernel
theorem dX7_saves_33 : decode cX7_saves 33 = .ok (.iastore, 1) := by decide +kernel
theorem dX7_saves_34 : decode cX7_saves 34 = .ok (.iinc 1 1, 3) := by decide +kernel
theorem dX7_saves_37 : decode cX7_saves 37 = .ok (.goto (-26), 3) := by decide +kernel
theorem dX7_saves_40 : decode cX7_saves 40 = .ok (.aload_n 0, 1) := by decide +kernel
theorem dX7_saves_41 : decode cX7_saves 41 = .ok (.dup, 1) := by decide +kernel
theorem dX7_saves_42 : decode cX7_saves 42 = .ok (.getfield 27, 3) := by decide +kernel
theorem dX7_saves_45 : decode cX7_saves 45 = .ok (.iconst 1, 1) := by decide +kernel
theorem dX7_saves_46 : decode cX7_saves 46 = .ok (.isub, 1) := by decide +kernel
theorem dX7_saves_47 : decode cX7_saves 47 = .ok (.putfield 27, 3) := by decide +kernel
theorem dX7_saves_50 : decode cX7_saves 50 = .ok (.iconst 0, 1) := by decide +kernel
theorem dX7_saves_51 : decode cX7_saves 51 = .ok (.istore_n 1, 1) := by decide +kernel
theorem dX7_saves_52 : decode cX7_saves 52 = .ok (.iload_n 1, 1) := by decide +kernel
theorem dX7_saves_53 : decode cX7_saves 53 = .ok (.sipush 203, 3) := by decide +kernel
theorem dX7_saves_56 : decode cX7_saves 56 = .ok (.if_icmp .ge 30, 3) := by decide +kernel
theorem dX7_saves_59 : decode cX7_saves 59 = .ok (.aload_n 0, 1) := by decide +kernel
theorem dX7_saves_60 : decode cX7_saves 60 = .ok (.getfield 13, 3) := by decide +kernel
theorem dX7_saves_63 : decode cX7_saves 63 = .ok (.sipush 203, 3) := by decide +kernel
theorem dX7_saves_66 : decode cX7_saves 66 = .ok (.aload_n 0, 1) := by decide +kernel
theorem dX7_saves_67 : decode cX7_saves 67 = .ok (.getfield 27, 3) := by decide +kernel
theorem dX7_saves_70 : decode cX7_saves 70 = .ok (.imul, 1) := by decide +kernel
theorem dX7_saves_71 : decode cX7_saves 71 = .ok (.iload_n 1, 1) := by decide +kernel
theorem dX7_saves_72 : decode cX7_saves 72 = .ok (.iadd, 1) := by decide +kernel
theorem dX7_saves_73 : decode cX7_saves 73 = .ok (.aload_n 0, 1) := by decide +kernel
theorem dX7_saves_74 : decode cX7_saves 74 = .ok (.getfield 7, 3) := by decide +kernel
theorem dX7_saves_77 : decode cX7_saves 77 = .ok (.iload_n 1, 1) := by decide +kernel
theorem dX7_saves_78 : decode cX7_saves 78 = .ok (.iaload, 1) := by decide +kernel
theorem dX7_saves_79 : decode cX7_saves 79 = .ok (.iastore, 1) := by decide +kernel
theorem dX7_saves_80 : decode cX7_saves 80 = .ok (.iinc 1 1, 3) := by decide +kernel
theorem dX7_saves_83 : decode cX7_saves 83 = .ok (.goto (-31), 3) := by decide +kernel
theorem dX7_saves_86 : decode cX7_saves 86 = .ok (.aload_n 0, 1) := by decide +kernel
theorem dX7_saves_87 : decode cX7_saves 87 = .ok (.dup, 1) := by decide +kernel
theorem dX7_saves_88 : decode cX7_saves 88 = .ok (.getfield 27, 3) := by decide +kernel
theorem dX7_saves_91 : decode cX7_saves 91 = .ok (.iconst 1, 1) := by decide +kernel
theorem dX7_saves_92 : decode cX7_saves 92 = .ok (.iadd, 1) := by decide +kernel
theorem dX7_saves_93 : decode cX7_saves 93 = .ok (.putfield 27, 3) := by decide +kernel
theorem dX7_saves_96 : decode cX7_saves 96 = .ok (.return_, 1) := by decide +kernel
theorem dX7_undo_0 : decode cX7_undo 0 = .ok (.aload_n 0, 1) := by decide +kernel
theorem dX7_undo_1 : decode cX7_undo 1 = .ok (.aload_n 0, 1) := by decide +kernel
theorem dX7_undo_2 : decode cX7_undo 2 = .ok (.getfield 27, 3) := by decide +kernel
theorem dX7_undo_5 : decode cX7_undo 5 = .ok (.ifCond .ne 7, 3) := by decide +kernel
theorem dX7_undo_8 : decode cX7_undo 8 = .ok (.iconst 1, 1) := by decide +kernel
theorem dX7_undo_9 : decode cX7_undo 9 = .ok (.goto 4, 3) := by decide +kernel
theorem dX7_undo_12 : decode cX7_undo 12 = .ok (.iconst 0, 1) := by decide +kernel
theorem dX7_undo_13 : decode cX7_undo 13 = .ok (.invokevirtual 30, 3) := by decide +kernel
theorem dX7_undo_16 : decode cX7_undo 16 = .ok (.ifCond .eq 5, 3) := by decide +kernel
theorem dX7_undo_19 : decode cX7_undo 19 = .ok (.iconst 0, 1) := by decide +kernel
theorem dX7_undo_20 : decode cX7_undo 20 = .ok (.ireturn, 1) := by decide +kernel
theorem dX7_undo_21 : decode cX7_undo 21 = .ok (.aload_n 0, 1) := by decide +kernel
theorem dX7_undo_22 : decode cX7_undo 22 = .ok (.dup, 1) := by decide +kernel
theorem dX7_undo_23 : decode cX7_undo 23 = .ok (.getfield 27, 3) := by decide +kernel
theorem dX7_undo_26 : decode cX7_undo 26 = .ok (.iconst 1, 1) := by decide +kernel
theorem dX7_undo_27 : decode cX7_undo 27 = .ok (.isub, 1) := by decide +kernel
theorem dX7_undo_28 : decode cX7_undo 28 = .ok (.putfield 27, 3) := by decide +kernel
theorem dX7_undo_31 : decode cX7_undo 31 = .ok (.iconst 0, 1) := by decide +kernel
theorem dX7_undo_32 : decode cX7_undo 32 = .ok (.istore_n 1, 1) := by decide +kernel
theorem dX7_undo_33 : decode cX7_undo 33 = .ok (.iload_n 1, 1) := by decide +kernel
theorem dX7_undo_34 : decode cX7_undo 34 = .ok (.sipush 203, 3) := by decide +kernel
theorem dX7_undo_37 : decode cX7_undo 37 = .ok (.if_icmp .ge 30, 3) := by decide +kernel
theorem dX7_undo_40 : decode cX7_undo 40 = .ok (.aload_n 0, 1) := by decide +kernel
theorem dX7_undo_41 : decode cX7_undo 41 = .ok (.getfield 7, 3) := by decide +kernel
theorem dX7_undo_44 : decode cX7_undo 44 = .ok (.iload_n 1, 1) := by decide +kernel
theorem dX7_undo_45 : decode cX7_undo 45 = .ok (.aload_n 0, 1) := by decide +kernel
theorem dX7_undo_46 : decode cX7_undo 46 = .ok (.getfield 13, 3) := by decide +kernel
theorem dX7_undo_49 : decode cX7_undo 49 = .ok (.sipush 203, 3) := by decide +kernel
theorem dX7_undo_52 : decode cX7_undo 52 = .ok (.aload_n 0, 1) := by decide +kernel
theorem dX7_undo_53 : decode cX7_undo 53 = .ok (.getfield 27, 3) := by decide +kernel
theorem dX7_undo_56 : decode cX7_undo 56 = .ok (.imul, 1) := by decide +kernel
theorem dX7_undo_57 : decode cX7_undo 57 = .ok (.iload_n 1, 1) := by decide +kernel
theorem dX7_undo_58 : decode cX7_undo 58 = .ok (.iadd, 1) := by decide +kernel
theorem dX7_undo_59 : decode cX7_undo 59 = .ok (.iaload, 1) := by decide +kernel
theorem dX7_undo_60 : decode cX7_undo 60 = .ok (.iastore, 1) := by decide +kernel
theorem dX7_undo_61 : decode cX7_undo 61 = .ok (.iinc 1 1, 3) := by decide +kernel
theorem dX7_undo_64 : decode cX7_undo 64 = .ok (.goto (-31), 3) := by decide +kernel
theorem dX7_undo_67 : decode cX7_undo 67 = .ok (.aload_n 0, 1) := by decide +kernel
theorem dX7_undo_68 : decode cX7_undo 68 = .ok (.getfield 27, 3) := by decide +kernel
theorem dX7_undo_71 : decode cX7_undo 71 = .ok (.ireturn, 1) := by decide +kernel
theorem dX7_isPart_0 : decode cX7_isPart 0 = .ok (.iload_n 1, 1) := by decide +kernel
theorem dX7_isPart_1 : decode cX7_isPart 1 = .ok (.iconst 0, 1) := by decide +kernel
theorem dX7_isPart_2 : decode cX7_isPart 2 = .ok (.aload_n 0, 1) := by decide +kernel
theorem dX7_isPart_3 : decode cX7_isPart 3 = .ok (.getfield 7, 3) := by decide +kernel
theorem dX7_isPart_6 : decode cX7_isPart 6 = .ok (.iconst 0, 1) := by decide +kernel
theorem dX7_isPart_7 : decode cX7_isPart 7 = .ok (.iaload, 1) := by decide +kernel
theorem dX7_isPart_8 : decode cX7_isPart 8 = .ok (.iconst 1, 1) := by decide +kernel
theorem dX7_isPart_9 : decode cX7_isPart 9 = .ok (.isub, 1) := by decide +kernel
theorem dX7_isPart_10 : decode cX7_isPart 10 = .ok (.invokestatic 34, 3) := by decide +kernel
theorem dX7_isPart_13 : decode cX7_isPart 13 = .ok (.ireturn, 1) := by decide +kernel
theorem dX7_isReader_0 : decode cX7_isReader 0 = .ok (.iload_n 0, 1) := by decide +kernel
theorem dX7_isReader_1 : decode cX7_isReader 1 = .ok (.iconst 0, 1) := by decide +kernel
theorem dX7_isReader_2 : decode cX7_isReader 2 = .ok (.iconst 5, 1) := by decide +kernel
theorem dX7_isReader_3 : decode cX7_isReader 3 = .ok (.invokestatic 34, 3) := by decide +kernel
theorem dX7_isReader_6 : decode cX7_isReader 6 = .ok (.ireturn, 1) := by decide +kernel
theorem dX7_of_0 : decode cX7_of 0 = .ok (.aload_n 0, 1) := by decide +kernel
theorem dX7_of_1 : decode cX7_of 1 = .ok (.getfield 7, 3) := by decide +kernel
theorem dX7_of_4 : decode cX7_of 4 = .ok (.iconst 5, 1) := by decide +kernel
theorem dX7_of_5 : decode cX7_of 5 = .ok (.iconst 3, 1) := by decide +kernel
theorem dX7_of_6 : decode cX7_of 6 = .ok (.iload_n 1, 1) := by decide +kernel
theorem dX7_of_7 : decode cX7_of 7 = .ok (.imul, 1) := by decide +kernel
theorem dX7_of_8 : decode cX7_of 8 = .ok (.iadd, 1) := by decide +kernel
theorem dX7_of_9 : decode cX7_of 9 = .ok (.iload_n 2, 1) := by decide +kernel
theorem dX7_of_10 : decode cX7_of 10 = .ok (.iadd, 1) := by decide +kernel
theorem dX7_of_11 : decode cX7_of 11 = .ok (.iaload, 1) := by decide +kernel
theorem dX7_of_12 : decode cX7_of 12 = .ok (.ireturn, 1) := by decide +kernel
theorem dX7_goesOn_0 : decode cX7_goesOn 0 = .ok (.aload_n 0, 1) := by decide +kernel
theorem dX7_goesOn_1 : decode cX7_goesOn 1 = .ok (.iload_n 1, 1) := by decide +kernel
theorem dX7_goesOn_2 : decode cX7_goesOn 2 = .ok (.iconst 0, 1) := by decide +kernel
theorem dX7_goesOn_3 : decode cX7_goesOn 3 = .ok (.invokevirtual 38, 3) := by decide +kernel
theorem dX7_goesOn_6 : decode cX7_goesOn 6 = .ok (.iload_n 2, 1) := by decide +kernel
theorem dX7_goesOn_7 : decode cX7_goesOn 7 = .ok (.ishr, 1) := by decide +kernel
theorem dX7_goesOn_8 : decode cX7_goesOn 8 = .ok (.iconst 1, 1) := by decide +kernel
theorem dX7_goesOn_9 : decode cX7_goesOn 9 = .ok (.iand, 1) := by decide +kernel
theorem dX7_goesOn_10 : decode cX7_goesOn 10 = .ok (.iconst 1, 1) := by decide +kernel
theorem dX7_goesOn_11 : decode cX7_goesOn 11 = .ok (.if_icmp .ne 7, 3) := by decide +kernel
theorem dX7_goesOn_14 : decode cX7_goesOn 14 = .ok (.iconst 1, 1) := by decide +kernel
theorem dX7_goesOn_15 : decode cX7_goesOn 15 = .ok (.goto 4, 3) := by decide +kernel
theorem dX7_goesOn_18 : decode cX7_goesOn 18 = .ok (.iconst 0, 1) := by decide +kernel
theorem dX7_goesOn_19 : decode cX7_goesOn 19 = .ok (.ireturn, 1) := by decide +kernel
theorem dX7_known_0 : decode cX7_known 0 = .ok (.aload_n 0, 1) := by decide +kernel
theorem dX7_known_1 : decode cX7_known 1 = .ok (.getfield 7, 3) := by decide +kernel
theorem dX7_known_4 : decode cX7_known 4 = .ok (.bipush 83, 2) := by decide +kernel
theorem dX7_known_6 : decode cX7_known 6 = .ok (.bipush 20, 2) := by decide +kernel
theorem dX7_known_8 : decode cX7_known 8 = .ok (.iload_n 1, 1) := by decide +kernel
theorem dX7_known_9 : decode cX7_known 9 = .ok (.imul, 1) := by decide +kernel
theorem dX7_known_10 : decode cX7_known 10 = .ok (.iadd, 1) := by decide +kernel
theorem dX7_known_11 : decode cX7_known 11 = .ok (.iload_n 2, 1) := by decide +kernel
theorem dX7_known_12 : decode cX7_known 12 = .ok (.iadd, 1) := by decide +kernel
theorem dX7_known_13 : decode cX7_known 13 = .ok (.iaload, 1) := by decide +kernel
theorem dX7_known_14 : decode cX7_known 14 = .ok (.ireturn, 1) := by decide +kernel
theorem dX7_learns_0 : decode cX7_learns 0 = .ok (.aload_n 0, 1) := by decide +kernel
theorem dX7_learns_1 : decode cX7_learns 1 = .ok (.getfield 7, 3) := by decide +kernel
theorem dX7_learns_4 : decode cX7_learns 4 = .ok (.bipush 83, 2) := by decide +kernel
theorem dX7_learns_6 : decode cX7_learns 6 = .ok (.bipush 20, 2) := by decide +kernel
theorem dX7_learns_8 : decode cX7_learns 8 = .ok (.iload_n 1, 1) := by decide +kernel
theorem dX7_learns_9 : decode cX7_learns 9 = .ok (.imul, 1) := by decide +kernel
theorem dX7_learns_10 : decode cX7_learns 10 = .ok (.iadd, 1) := by decide +kernel
theorem dX7_learns_11 : decode cX7_learns 11 = .ok (.iload_n 2, 1) := by decide +kernel
theorem dX7_learns_12 : decode cX7_learns 12 = .ok (.iadd, 1) := by decide +kernel
theorem dX7_learns_13 : decode cX7_learns 13 = .ok (.iload_n 3, 1) := by decide +kernel
theorem dX7_learns_14 : decode cX7_learns 14 = .ok (.iastore, 1) := by decide +kernel
theorem dX7_learns_15 : decode cX7_learns 15 = .ok (.return_, 1) := by decide +kernel
theorem dX7_grows_0 : decode cX7_grows 0 = .ok (.aload_n 0, 1) := by decide +kernel
theorem dX7_grows_1 : decode cX7_grows 1 = .ok (.getfield 7, 3) := by decide +kernel
theorem dX7_grows_4 : decode cX7_grows 4 = .ok (.bipush 65, 2) := by decide +kernel
theorem dX7_grows_6 : decode cX7_grows 6 = .ok (.iconst 3, 1) := by decide +kernel
theorem dX7_grows_7 : decode cX7_grows 7 = .ok (.iload_n 1, 1) := by decide +kernel
theorem dX7_grows_8 : decode cX7_grows 8 = .ok (.imul, 1) := by decide +kernel
theorem dX7_grows_9 : decode cX7_grows 9 = .ok (.iadd, 1) := by decide +kernel
theorem dX7_grows_10 : decode cX7_grows 10 = .ok (.iload_n 2, 1) := by decide +kernel
theorem dX7_grows_11 : decode cX7_grows 11 = .ok (.iadd, 1) := by decide +kernel
theorem dX7_grows_12 : decode cX7_grows 12 = .ok (.dup2, 1) := by decide +kernel
theorem dX7_grows_13 : decode cX7_grows 13 = .ok (.iaload, 1) := by decide +kernel
theorem dX7_grows_14 : decode cX7_grows 14 = .ok (.iload_n 3, 1) := by decide +kernel
theorem dX7_grows_15 : decode cX7_grows 15 = .ok (.iadd, 1) := by decide +kernel
theorem dX7_grows_16 : decode cX7_grows 16 = .ok (.iastore, 1) := by decide +kernel
theorem dX7_grows_17 : decode cX7_grows 17 = .ok (.return_, 1) := by decide +kernel
theorem dX7_ones_0 : decode cX7_ones 0 = .ok (.iconst 0, 1) := by decide +kernel
theorem dX7_ones_1 : decode cX7_ones 1 = .ok (.istore_n 1, 1) := by decide +kernel
theorem dX7_ones_2 : decode cX7_ones 2 = .ok (.iconst 0, 1) := by decide +kernel
theorem dX7_ones_3 : decode cX7_ones 3 = .ok (.istore_n 2, 1) := by decide +kernel
theorem dX7_ones_4 : decode cX7_ones 4 = .ok (.iload_n 2, 1) := by decide +kernel
theorem dX7_ones_5 : decode cX7_ones 5 = .ok (.bipush 20, 2) := by decide +kernel
theorem dX7_ones_7 : decode cX7_ones 7 = .ok (.if_icmp .ge 17, 3) := by decide +kernel
theorem dX7_ones_10 : decode cX7_ones 10 = .ok (.iload_n 1, 1) := by decide +kernel
theorem dX7_ones_11 : decode cX7_ones 11 = .ok (.iload_n 0, 1) := by decide +kernel
theorem dX7_ones_12 : decode cX7_ones 12 = .ok (.iload_n 2, 1) := by decide +kernel
theorem dX7_ones_13 : decode cX7_ones 13 = .ok (.ishr, 1) := by decide +kernel
theorem dX7_ones_14 : decode cX7_ones 14 = .ok (.iconst 1, 1) := by decide +kernel
theorem dX7_ones_15 : decode cX7_ones 15 = .ok (.iand, 1) := by decide +kernel
theorem dX7_ones_16 : decode cX7_ones 16 = .ok (.iadd, 1) := by decide +kernel
theorem dX7_ones_17 : decode cX7_ones 17 = .ok (.istore_n 1, 1) := by decide +kernel
theorem dX7_ones_18 : decode cX7_ones 18 = .ok (.iinc 2 1, 3) := by decide +kernel
theorem dX7_ones_21 : decode cX7_ones 21 = .ok (.goto (-17), 3) := by decide +kernel
theorem dX7_ones_24 : decode cX7_ones 24 = .ok (.iload_n 1, 1) := by decide +kernel
theorem dX7_ones_25 : decode cX7_ones 25 = .ok (.ireturn, 1) := by decide +kernel
theorem dX7_needs_0 : decode cX7_needs 0 = .ok (.iconst 0, 1) := by decide +kernel
theorem dX7_needs_1 : decode cX7_needs 1 = .ok (.istore_n 2, 1) := by decide +kernel
theorem dX7_needs_2 : decode cX7_needs 2 = .ok (.aload_n 0, 1) := by decide +kernel
theorem dX7_needs_3 : decode cX7_needs 3 = .ok (.iload_n 1, 1) := by decide +kernel
theorem dX7_needs_4 : decode cX7_needs 4 = .ok (.iconst 0, 1) := by decide +kernel
theorem dX7_needs_5 : decode cX7_needs 5 = .ok (.invokevirtual 38, 3) := by decide +kernel
theorem dX7_needs_8 : decode cX7_needs 8 = .ok (.istore_n 3, 1) := by decide +kernel
theorem dX7_needs_9 : decode cX7_needs 9 = .ok (.iload_n 1, 1) := by decide +kernel
theorem dX7_needs_10 : decode cX7_needs 10 = .ok (.iconst 1, 1) := by decide +kernel
theorem dX7_needs_11 : decode cX7_needs 11 = .ok (.isub, 1) := by decide +kernel
theorem dX7_needs_12 : decode cX7_needs 12 = .ok (.istore 4, 2) := by decide +kernel
theorem dX7_needs_14 : decode cX7_needs 14 = .ok (.iload 4, 2) := by decide +kernel
theorem dX7_needs_16 : decode cX7_needs 16 = .ok (.ifCond .lt 44, 3) := by decide +kernel
theorem dX7_needs_19 : decode cX7_needs 19 = .ok (.iload_n 2, 1) := by decide +kernel
theorem dX7_needs_20 : decode cX7_needs 20 = .ok (.iload_n 3, 1) := by decide +kernel
theorem dX7_needs_21 : decode cX7_needs 21 = .ok (.aload_n 0, 1) := by decide +kernel
theorem dX7_needs_22 : decode cX7_needs 22 = .ok (.iload 4, 2) := by decide +kernel
theorem dX7_needs_24 : decode cX7_needs 24 = .ok (.iconst 0, 1) := by decide +kernel
theorem dX7_needs_25 : decode cX7_needs 25 = .ok (.invokevirtual 38, 3) := by decide +kernel
theorem dX7_needs_28 : decode cX7_needs 28 = .ok (.iand, 1) := by decide +kernel
theorem dX7_needs_29 : decode cX7_needs 29 = .ok (.ifCond .eq 10, 3) := by decide +kernel
theorem dX7_needs_32 : decode cX7_needs 32 = .ok (.iconst 1, 1) := by decide +kernel
theorem dX7_needs_33 : decode cX7_needs 33 = .ok (.iload 4, 2) := by decide +kernel
theorem dX7_needs_35 : decode cX7_needs 35 = .ok (.ishl, 1) := by decide +kernel
theorem dX7_needs_36 : decode cX7_needs 36 = .ok (.goto 4, 3) := by decide +kernel
theorem dX7_needs_39 : decode cX7_needs 39 = .ok (.iconst 0, 1) := by decide +kernel
theorem dX7_needs_40 : decode cX7_needs 40 = .ok (.ior, 1) := by decide +kernel
theorem dX7_needs_41 : decode cX7_needs 41 = .ok (.istore_n 2, 1) := by decide +kernel
theorem dX7_needs_42 : decode cX7_needs 42 = .ok (.iload_n 3, 1) := by decide +kernel
theorem dX7_needs_43 : decode cX7_needs 43 = .ok (.aload_n 0, 1) := by decide +kernel
theorem dX7_needs_44 : decode cX7_needs 44 = .ok (.iload 4, 2) := by decide +kernel
theorem dX7_needs_46 : decode cX7_needs 46 = .ok (.iconst 0, 1) := by decide +kernel
theorem dX7_needs_47 : decode cX7_needs 47 = .ok (.invokevirtual 38, 3) := by decide +kernel
theorem dX7_needs_50 : decode cX7_needs 50 = .ok (.iconst (-1), 1) := by decide +kernel
theorem dX7_needs_51 : decode cX7_needs 51 = .ok (.ixor, 1) := by decide +kernel
theorem dX7_needs_52 : decode cX7_needs 52 = .ok (.iand, 1) := by decide +kernel
theorem dX7_needs_53 : decode cX7_needs 53 = .ok (.istore_n 3, 1) := by decide +kernel
theorem dX7_needs_54 : decode cX7_needs 54 = .ok (.iinc 4 (-1), 3) := by decide +kernel
theorem dX7_needs_57 : decode cX7_needs 57 = .ok (.goto (-43), 3) := by decide +kernel
theorem dX7_needs_60 : decode cX7_needs 60 = .ok (.iload_n 2, 1) := by decide +kernel
theorem dX7_needs_61 : decode cX7_needs 61 = .ok (.ireturn, 1) := by decide +kernel
theorem dX7_needsAmong_0 : decode cX7_needsAmong 0 = .ok (.aload_n 0, 1) := by decide +kernel
theorem dX7_needsAmong_1 : decode cX7_needsAmong 1 = .ok (.iload_n 1, 1) := by decide +kernel
theorem dX7_needsAmong_2 : decode cX7_needsAmong 2 = .ok (.invokevirtual 42, 3) := by decide +kernel
theorem dX7_needsAmong_5 : decode cX7_needsAmong 5 = .ok (.iload_n 2, 1) := by decide +kernel
theorem dX7_needsAmong_6 : decode cX7_needsAmong 6 = .ok (.iand, 1) := by decide +kernel
theorem dX7_needsAmong_7 : decode cX7_needsAmong 7 = .ok (.istore_n 3, 1) := by decide +kernel
theorem dX7_needsAmong_8 : decode cX7_needsAmong 8 = .ok (.iload_n 1, 1) := by decide +kernel
theorem dX7_needsAmong_9 : decode cX7_needsAmong 9 = .ok (.iconst 1, 1) := by decide +kernel
theorem dX7_needsAmong_10 : decode cX7_needsAmong 10 = .ok (.isub, 1) := by decide +kernel
theorem dX7_needsAmong_11 : decode cX7_needsAmong 11 = .ok (.istore 4, 2) := by decide +kernel
theorem dX7_needsAmong_13 : decode cX7_needsAmong 13 = .ok (.iload 4, 2) := by decide +kernel
theorem dX7_needsAmong_15 : decode cX7_needsAmong 15 = .ok (.ifCond .lt 34, 3) := by decide +kernel
theorem dX7_needsAmong_18 : decode cX7_needsAmong 18 = .ok (.iload_n 3, 1) := by decide +kernel
theorem dX7_needsAmong_19 : decode cX7_needsAmong 19 = .ok (.iload_n 3, 1) := by decide +kernel
theorem dX7_needsAmong_20 : decode cX7_needsAmong 20 = .ok (.iload 4, 2) := by decide +kernel
theorem dX7_needsAmong_22 : decode cX7_needsAmong 22 = .ok (.ishr, 1) := by decide +kernel
theorem dX7_needsAmong_23 : decode cX7_needsAmong 23 = .ok (.iconst 1, 1) := by decide +kernel
theorem dX7_needsAmong_24 : decode cX7_needsAmong 24 = .ok (.iand, 1) := by decide +kernel
theorem dX7_needsAmong_25 : decode cX7_needsAmong 25 = .ok (.iconst 1, 1) := by decide +kernel
theorem dX7_needsAmong_26 : decode cX7_needsAmong 26 = .ok (.if_icmp .ne 14, 3) := by decide +kernel
theorem dX7_needsAmong_29 : decode cX7_needsAmong 29 = .ok (.aload_n 0, 1) := by decide +kernel
theorem dX7_needsAmong_30 : decode cX7_needsAmong 30 = .ok (.iload 4, 2) := by decide +kernel
theorem dX7_needsAmong_32 : decode cX7_needsAmong 32 = .ok (.invokevirtual 42, 3) := by decide +kernel
theorem dX7_needsAmong_35 : decode cX7_needsAmong 35 = .ok (.iload_n 2, 1) := by decide +kernel
theorem dX7_needsAmong_36 : decode cX7_needsAmong 36 = .ok (.iand, 1) := by decide +kernel
theorem dX7_needsAmong_37 : decode cX7_needsAmong 37 = .ok (.goto 4, 3) := by decide +kernel
theorem dX7_needsAmong_40 : decode cX7_needsAmong 40 = .ok (.iconst 0, 1) := by decide +kernel
theorem dX7_needsAmong_41 : decode cX7_needsAmong 41 = .ok (.ior, 1) := by decide +kernel
theorem dX7_needsAmong_42 : decode cX7_needsAmong 42 = .ok (.istore_n 3, 1) := by decide +kernel
theorem dX7_needsAmong_43 : decode cX7_needsAmong 43 = .ok (.iinc 4 (-1), 3) := by decide +kernel
theorem dX7_needsAmong_46 : decode cX7_needsAmong 46 = .ok (.goto (-33), 3) := by decide +kernel
theorem dX7_needsAmong_49 : decode cX7_needsAmong 49 = .ok (.iload_n 3, 1) := by decide +kernel
theorem dX7_needsAmong_50 : decode cX7_needsAmong 50 = .ok (.ireturn, 1) := by decide +kernel
theorem dX7_unknown_0 : decode cX7_unknown 0 = .ok (.iconst 0, 1) := by decide +kernel
theorem dX7_unknown_1 : decode cX7_unknown 1 = .ok (.istore_n 2, 1) := by decide +kernel
theorem dX7_unknown_2 : decode cX7_unknown 2 = .ok (.iconst 0, 1) := by decide +kernel
theorem dX7_unknown_3 : decode cX7_unknown 3 = .ok (.istore_n 3, 1) := by decide +kernel
theorem dX7_unknown_4 : decode cX7_unknown 4 = .ok (.iload_n 3, 1) := by decide +kernel
theorem dX7_unknown_5 : decode cX7_unknown 5 = .ok (.aload_n 0, 1) := by decide +kernel
theorem dX7_unknown_6 : decode cX7_unknown 6 = .ok (.getfield 7, 3) := by decide +kernel
theorem dX7_unknown_9 : decode cX7_unknown 9 = .ok (.iconst 0, 1) := by decide +kernel
theorem dX7_unknown_10 : decode cX7_unknown 10 = .ok (.iaload, 1) := by decide +kernel
theorem dX7_unknown_11 : decode cX7_unknown 11 = .ok (.if_icmp .ge 28, 3) := by decide +kernel
theorem dX7_unknown_14 : decode cX7_unknown 14 = .ok (.iload_n 2, 1) := by decide +kernel
theorem dX7_unknown_15 : decode cX7_unknown 15 = .ok (.aload_n 0, 1) := by decide +kernel
theorem dX7_unknown_16 : decode cX7_unknown 16 = .ok (.iload_n 1, 1) := by decide +kernel
theorem dX7_unknown_17 : decode cX7_unknown 17 = .ok (.iload_n 3, 1) := by decide +kernel
theorem dX7_unknown_18 : decode cX7_unknown 18 = .ok (.invokevirtual 46, 3) := by decide +kernel
theorem dX7_unknown_21 : decode cX7_unknown 21 = .ok (.ifCond .ne 9, 3) := by decide +kernel
theorem dX7_unknown_24 : decode cX7_unknown 24 = .ok (.iconst 1, 1) := by decide +kernel
theorem dX7_unknown_25 : decode cX7_unknown 25 = .ok (.iload_n 3, 1) := by decide +kernel
theorem dX7_unknown_26 : decode cX7_unknown 26 = .ok (.ishl, 1) := by decide +kernel
theorem dX7_unknown_27 : decode cX7_unknown 27 = .ok (.goto 4, 3) := by decide +kernel
theorem dX7_unknown_30 : decode cX7_unknown 30 = .ok (.iconst 0, 1) := by decide +kernel
theorem dX7_unknown_31 : decode cX7_unknown 31 = .ok (.ior, 1) := by decide +kernel
theorem dX7_unknown_32 : decode cX7_unknown 32 = .ok (.istore_n 2, 1) := by decide +kernel
theorem dX7_unknown_33 : decode cX7_unknown 33 = .ok (.iinc 3 1, 3) := by decide +kernel
theorem dX7_unknown_36 : decode cX7_unknown 36 = .ok (.goto (-32), 3) := by decide +kernel
theorem dX7_unknown_39 : decode cX7_unknown 39 = .ok (.iload_n 2, 1) := by decide +kernel
theorem dX7_unknown_40 : decode cX7_unknown 40 = .ok (.ireturn, 1) := by decide +kernel
theorem dX7_missed_0 : decode cX7_missed 0 = .ok (.aload_n 0, 1) := by decide +kernel
theorem dX7_missed_1 : decode cX7_missed 1 = .ok (.iload_n 2, 1) := by decide +kernel
theorem dX7_missed_2 : decode cX7_missed 2 = .ok (.aload_n 0, 1) := by decide +kernel
theorem dX7_missed_3 : decode cX7_missed 3 = .ok (.iload_n 1, 1) := by decide +kernel
theorem dX7_missed_4 : decode cX7_missed 4 = .ok (.invokevirtual 49, 3) := by decide +kernel
theorem dX7_missed_7 : decode cX7_missed 7 = .ok (.invokevirtual 52, 3) := by decide +kernel
theorem dX7_missed_10 : decode cX7_missed 10 = .ok (.ireturn, 1) := by decide +kernel
theorem dX7_told_0 : decode cX7_told 0 = .ok (.iconst 0, 1) := by decide +kernel
theorem dX7_told_1 : decode cX7_told 1 = .ok (.istore_n 2, 1) := by decide +kernel
theorem dX7_told_2 : decode cX7_told 2 = .ok (.aload_n 0, 1) := by decide +kernel
theorem dX7_told_3 : decode cX7_told 3 = .ok (.getfield 7, 3) := by decide +kernel
theorem dX7_told_6 : decode cX7_told 6 = .ok (.iconst 1, 1) := by decide +kernel
theorem dX7_told_7 : decode cX7_told 7 = .ok (.iaload, 1) := by decide +kernel
theorem dX7_told_8 : decode cX7_told 8 = .ok (.istore_n 3, 1) := by decide +kernel
theorem dX7_told_9 : decode cX7_told 9 = .ok (.bipush 19, 2) := by decide +kernel
theorem dX7_told_11 : decode cX7_told 11 = .ok (.istore 4, 2) := by decide +kernel
theorem dX7_told_13 : decode cX7_told 13 = .ok (.iload 4, 2) := by decide +kernel
theorem dX7_told_15 : decode cX7_told 15 = .ok (.ifCond .lt 59, 3) := by decide +kernel
theorem dX7_told_18 : decode cX7_told 18 = .ok (.iload_n 3, 1) := by decide +kernel
theorem dX7_told_19 : decode cX7_told 19 = .ok (.ifCond .le 17, 3) := by decide +kernel
theorem dX7_told_22 : decode cX7_told 22 = .ok (.iload_n 1, 1) := by decide +kernel
theorem dX7_told_23 : decode cX7_told 23 = .ok (.iload 4, 2) := by decide +kernel
theorem dX7_told_25 : decode cX7_told 25 = .ok (.ishr, 1) := by decide +kernel
theorem dX7_told_26 : decode cX7_told 26 = .ok (.iconst 1, 1) := by decide +kernel
theorem dX7_told_27 : decode cX7_told 27 = .ok (.iand, 1) := by decide +kernel
theorem dX7_told_28 : decode cX7_told 28 = .ok (.iconst 1, 1) := by decide +kernel
theorem dX7_told_29 : decode cX7_told 29 = .ok (.if_icmp .ne 7, 3) := by decide +kernel
theorem dX7_told_32 : decode cX7_told 32 = .ok (.iconst 1, 1) := by decide +kernel
theorem dX7_told_33 : decode cX7_told 33 = .ok (.goto 4, 3) := by decide +kernel
theorem dX7_told_36 : decode cX7_told 36 = .ok (.iconst 0, 1) := by decide +kernel
theorem dX7_told_37 : decode cX7_told 37 = .ok (.istore 5, 2) := by decide +kernel
theorem dX7_told_39 : decode cX7_told 39 = .ok (.iload_n 2, 1) := by decide +kernel
theorem dX7_told_40 : decode cX7_told 40 = .ok (.iload 5, 2) := by decide +kernel
theorem dX7_told_42 : decode cX7_told 42 = .ok (.ifCond .eq 10, 3) := by decide +kernel
theorem dX7_told_45 : decode cX7_told 45 = .ok (.iconst 1, 1) := by decide +kernel
theorem dX7_told_46 : decode cX7_told 46 = .ok (.iload 4, 2) := by decide +kernel
theorem dX7_told_48 : decode cX7_told 48 = .ok (.ishl, 1) := by decide +kernel
theorem dX7_told_49 : decode cX7_told 49 = .ok (.goto 4, 3) := by decide +kernel
theorem dX7_told_52 : decode cX7_told 52 = .ok (.iconst 0, 1) := by decide +kernel
theorem dX7_told_53 : decode cX7_told 53 = .ok (.ior, 1) := by decide +kernel
theorem dX7_told_54 : decode cX7_told 54 = .ok (.istore_n 2, 1) := by decide +kernel
theorem dX7_told_55 : decode cX7_told 55 = .ok (.iload_n 3, 1) := by decide +kernel
theorem dX7_told_56 : decode cX7_told 56 = .ok (.iload 5, 2) := by decide +kernel
theorem dX7_told_58 : decode cX7_told 58 = .ok (.ifCond .eq 7, 3) := by decide +kernel
theorem dX7_told_61 : decode cX7_told 61 = .ok (.iconst 1, 1) := by decide +kernel
theorem dX7_told_62 : decode cX7_told 62 = .ok (.goto 4, 3) := by decide +kernel
theorem dX7_told_65 : decode cX7_told 65 = .ok (.iconst 0, 1) := by decide +kernel
theorem dX7_told_66 : decode cX7_told 66 = .ok (.isub, 1) := by decide +kernel
theorem dX7_told_67 : decode cX7_told 67 = .ok (.istore_n 3, 1) := by decide +kernel
theorem dX7_told_68 : decode cX7_told 68 = .ok (.iinc 4 (-1), 3) := by decide +kernel
theorem dX7_told_71 : decode cX7_told 71 = .ok (.goto (-58), 3) := by decide +kernel
theorem dX7_told_74 : decode cX7_told 74 = .ok (.iload_n 2, 1) := by decide +kernel
theorem dX7_told_75 : decode cX7_told 75 = .ok (.ireturn, 1) := by decide +kernel
theorem dX7_wordsOf_0 : decode cX7_wordsOf 0 = .ok (.iconst 0, 1) := by decide +kernel
theorem dX7_wordsOf_1 : decode cX7_wordsOf 1 = .ok (.istore_n 2, 1) := by decide +kernel
theorem dX7_wordsOf_2 : decode cX7_wordsOf 2 = .ok (.aload_n 0, 1) := by decide +kernel
theorem dX7_wordsOf_3 : decode cX7_wordsOf 3 = .ok (.getfield 7, 3) := by decide +kernel
theorem dX7_wordsOf_6 : decode cX7_wordsOf 6 = .ok (.iconst 2, 1) := by decide +kernel
theorem dX7_wordsOf_7 : decode cX7_wordsOf 7 = .ok (.iaload, 1) := by decide +kernel
theorem dX7_wordsOf_8 : decode cX7_wordsOf 8 = .ok (.istore_n 3, 1) := by decide +kernel
theorem dX7_wordsOf_9 : decode cX7_wordsOf 9 = .ok (.iconst 0, 1) := by decide +kernel
theorem dX7_wordsOf_10 : decode cX7_wordsOf 10 = .ok (.istore 4, 2) := by decide +kernel
theorem dX7_wordsOf_12 : decode cX7_wordsOf 12 = .ok (.iload 4, 2) := by decide +kernel
theorem dX7_wordsOf_14 : decode cX7_wordsOf 14 = .ok (.aload_n 0, 1) := by decide +kernel
theorem dX7_wordsOf_15 : decode cX7_wordsOf 15 = .ok (.getfield 7, 3) := by decide +kernel
theorem dX7_wordsOf_18 : decode cX7_wordsOf 18 = .ok (.iconst 0, 1) := by decide +kernel
theorem dX7_wordsOf_19 : decode cX7_wordsOf 19 = .ok (.iaload, 1) := by decide +kernel
theorem dX7_wordsOf_20 : decode cX7_wordsOf 20 = .ok (.if_icmp .ge 39, 3) := by decide +kernel
theorem dX7_wordsOf_23 : decode cX7_wordsOf 23 = .ok (.iload_n 2, 1) := by decide +kernel
theorem dX7_wordsOf_24 : decode cX7_wordsOf 24 = .ok (.iload_n 1, 1) := by decide +kernel
theorem dX7_wordsOf_25 : decode cX7_wordsOf 25 = .ok (.iload 4, 2) := by decide +kernel
theorem dX7_wordsOf_27 : decode cX7_wordsOf 27 = .ok (.ishr, 1) := by decide +kernel
theorem dX7_wordsOf_28 : decode cX7_wordsOf 28 = .ok (.iconst 1, 1) := by decide +kernel
theorem dX7_wordsOf_29 : decode cX7_wordsOf 29 = .ok (.iand, 1) := by decide +kernel
theorem dX7_wordsOf_30 : decode cX7_wordsOf 30 = .ok (.iconst 1, 1) := by decide +kernel
theorem dX7_wordsOf_31 : decode cX7_wordsOf 31 = .ok (.if_icmp .ne 19, 3) := by decide +kernel
theorem dX7_wordsOf_34 : decode cX7_wordsOf 34 = .ok (.aload_n 0, 1) := by decide +kernel
theorem dX7_wordsOf_35 : decode cX7_wordsOf 35 = .ok (.iload 4, 2) := by decide +kernel
theorem dX7_wordsOf_37 : decode cX7_wordsOf 37 = .ok (.iconst 2, 1) := by decide +kernel
theorem dX7_wordsOf_38 : decode cX7_wordsOf 38 = .ok (.invokevirtual 38, 3) := by decide +kernel
theorem dX7_wordsOf_41 : decode cX7_wordsOf 41 = .ok (.iload_n 3, 1) := by decide +kernel
theorem dX7_wordsOf_42 : decode cX7_wordsOf 42 = .ok (.iadd, 1) := by decide +kernel
theorem dX7_wordsOf_43 : decode cX7_wordsOf 43 = .ok (.iconst 1, 1) := by decide +kernel
theorem dX7_wordsOf_44 : decode cX7_wordsOf 44 = .ok (.isub, 1) := by decide +kernel
theorem dX7_wordsOf_45 : decode cX7_wordsOf 45 = .ok (.iload_n 3, 1) := by decide +kernel
theorem dX7_wordsOf_46 : decode cX7_wordsOf 46 = .ok (.idiv, 1) := by decide +kernel
theorem dX7_wordsOf_47 : decode cX7_wordsOf 47 = .ok (.goto 4, 3) := by decide +kernel
theorem dX7_wordsOf_50 : decode cX7_wordsOf 50 = .ok (.iconst 0, 1) := by decide +kernel
theorem dX7_wordsOf_51 : decode cX7_wordsOf 51 = .ok (.iadd, 1) := by decide +kernel
theorem dX7_wordsOf_52 : decode cX7_wordsOf 52 = .ok (.istore_n 2, 1) := by decide +kernel
theorem dX7_wordsOf_53 : decode cX7_wordsOf 53 = .ok (.iinc 4 1, 3) := by decide +kernel
theorem dX7_wordsOf_56 : decode cX7_wordsOf 56 = .ok (.goto (-44), 3) := by decide +kernel
theorem dX7_wordsOf_59 : decode cX7_wordsOf 59 = .ok (.iload_n 2, 1) := by decide +kernel
theorem dX7_wordsOf_60 : decode cX7_wordsOf 60 = .ok (.ireturn, 1) := by decide +kernel
theorem dX7_isCliff_0 : decode cX7_isCliff 0 = .ok (.iload_n 1, 1) := by decide +kernel
theorem dX7_isCliff_1 : decode cX7_isCliff 1 = .ok (.iconst (-1), 1) := by decide +kernel
theorem dX7_isCliff_2 : decode cX7_isCliff 2 = .ok (.if_icmp .eq 21, 3) := by decide +kernel
theorem dX7_isCliff_5 : decode cX7_isCliff 5 = .ok (.iload_n 1, 1) := by decide +kernel
theorem dX7_isCliff_6 : decode cX7_isCliff 6 = .ok (.iconst 0, 1) := by decide +kernel
theorem dX7_isCliff_7 : decode cX7_isCliff 7 = .ok (.iconst 5, 1) := by decide +kernel
theorem dX7_isCliff_8 : decode cX7_isCliff 8 = .ok (.invokestatic 34, 3) := by decide +kernel
theorem dX7_isCliff_11 : decode cX7_isCliff 11 = .ok (.ifCond .eq 16, 3) := by decide +kernel
theorem dX7_isCliff_14 : decode cX7_isCliff 14 = .ok (.iload_n 0, 1) := by decide +kernel
theorem dX7_isCliff_15 : decode cX7_isCliff 15 = .ok (.iload_n 1, 1) := by decide +kernel
theorem dX7_isCliff_16 : decode cX7_isCliff 16 = .ok (.ishr, 1) := by decide +kernel
theorem dX7_isCliff_17 : decode cX7_isCliff 17 = .ok (.iconst 1, 1) := by decide +kernel
theorem dX7_isCliff_18 : decode cX7_isCliff 18 = .ok (.iand, 1) := by decide +kernel
theorem dX7_isCliff_19 : decode cX7_isCliff 19 = .ok (.iconst 1, 1) := by decide +kernel
theorem dX7_isCliff_20 : decode cX7_isCliff 20 = .ok (.if_icmp .ne 7, 3) := by decide +kernel
theorem dX7_isCliff_23 : decode cX7_isCliff 23 = .ok (.iconst 1, 1) := by decide +kernel
theorem dX7_isCliff_24 : decode cX7_isCliff 24 = .ok (.goto 4, 3) := by decide +kernel
theorem dX7_isCliff_27 : decode cX7_isCliff 27 = .ok (.iconst 0, 1) := by decide +kernel
theorem dX7_isCliff_28 : decode cX7_isCliff 28 = .ok (.ireturn, 1) := by decide +kernel
theorem dX7_adds_0 : decode cX7_adds 0 = .ok (.aload_n 0, 1) := by decide +kernel
theorem dX7_adds_1 : decode cX7_adds 1 = .ok (.getfield 7, 3) := by decide +kernel
theorem dX7_adds_4 : decode cX7_adds 4 = .ok (.iconst 0, 1) := by decide +kernel
theorem dX7_adds_5 : decode cX7_adds 5 = .ok (.iaload, 1) := by decide +kernel
theorem dX7_adds_6 : decode cX7_adds 6 = .ok (.istore 4, 2) := by decide +kernel
theorem dX7_adds_8 : decode cX7_adds 8 = .ok (.aload_n 0, 1) := by decide +kernel
theorem dX7_adds_9 : decode cX7_adds 9 = .ok (.getfield 7, 3) := by decide +kernel
theorem dX7_adds_12 : decode cX7_adds 12 = .ok (.iconst 5, 1) := by decide +kernel
theorem dX7_adds_13 : decode cX7_adds 13 = .ok (.iconst 3, 1) := by decide +kernel
theorem dX7_adds_14 : decode cX7_adds 14 = .ok (.iload 4, 2) := by decide +kernel
theorem dX7_adds_16 : decode cX7_adds 16 = .ok (.imul, 1) := by decide +kernel
theorem dX7_adds_17 : decode cX7_adds 17 = .ok (.iadd, 1) := by decide +kernel
theorem dX7_adds_18 : decode cX7_adds 18 = .ok (.iconst 0, 1) := by decide +kernel
theorem dX7_adds_19 : decode cX7_adds 19 = .ok (.iadd, 1) := by decide +kernel
theorem dX7_adds_20 : decode cX7_adds 20 = .ok (.iload_n 1, 1) := by decide +kernel
theorem dX7_adds_21 : decode cX7_adds 21 = .ok (.iastore, 1) := by decide +kernel
theorem dX7_adds_22 : decode cX7_adds 22 = .ok (.aload_n 0, 1) := by decide +kernel
theorem dX7_adds_23 : decode cX7_adds 23 = .ok (.getfield 7, 3) := by decide +kernel
theorem dX7_adds_26 : decode cX7_adds 26 = .ok (.iconst 5, 1) := by decide +kernel
theorem dX7_adds_27 : decode cX7_adds 27 = .ok (.iconst 3, 1) := by decide +kernel
theorem dX7_adds_28 : decode cX7_adds 28 = .ok (.iload 4, 2) := by decide +kernel
theorem dX7_adds_30 : decode cX7_adds 30 = .ok (.imul, 1) := by decide +kernel
theorem dX7_adds_31 : decode cX7_adds 31 = .ok (.iadd, 1) := by decide +kernel
theorem dX7_adds_32 : decode cX7_adds 32 = .ok (.iconst 1, 1) := by decide +kernel
theorem dX7_adds_33 : decode cX7_adds 33 = .ok (.iadd, 1) := by decide +kernel
theorem dX7_adds_34 : decode cX7_adds 34 = .ok (.iload_n 2, 1) := by decide +kernel
theorem dX7_adds_35 : decode cX7_adds 35 = .ok (.iastore, 1) := by decide +kernel
theorem dX7_adds_36 : decode cX7_adds 36 = .ok (.aload_n 0, 1) := by decide +kernel
theorem dX7_adds_37 : decode cX7_adds 37 = .ok (.getfield 7, 3) := by decide +kernel
theorem dX7_adds_40 : decode cX7_adds 40 = .ok (.iconst 5, 1) := by decide +kernel
theorem dX7_adds_41 : decode cX7_adds 41 = .ok (.iconst 3, 1) := by decide +kernel
theorem dX7_adds_42 : decode cX7_adds 42 = .ok (.iload 4, 2) := by decide +kernel
theorem dX7_adds_44 : decode cX7_adds 44 = .ok (.imul, 1) := by decide +kernel
theorem dX7_adds_45 : decode cX7_adds 45 = .ok (.iadd, 1) := by decide +kernel
theorem dX7_adds_46 : decode cX7_adds 46 = .ok (.iconst 2, 1) := by decide +kernel
theorem dX7_adds_47 : decode cX7_adds 47 = .ok (.iadd, 1) := by decide +kernel
theorem dX7_adds_48 : decode cX7_adds 48 = .ok (.iload_n 3, 1) := by decide +kernel
theorem dX7_adds_49 : decode cX7_adds 49 = .ok (.iastore, 1) := by decide +kernel
theorem dX7_adds_50 : decode cX7_adds 50 = .ok (.iconst 0, 1) := by decide +kernel
theorem dX7_adds_51 : decode cX7_adds 51 = .ok (.istore 5, 2) := by decide +kernel
theorem dX7_adds_53 : decode cX7_adds 53 = .ok (.iload 5, 2) := by decide +kernel
theorem dX7_adds_55 : decode cX7_adds 55 = .ok (.bipush 6, 2) := by decide +kernel
theorem dX7_adds_57 : decode cX7_adds 57 = .ok (.if_icmp .ge 18, 3) := by decide +kernel
theorem dX7_adds_60 : decode cX7_adds 60 = .ok (.aload_n 0, 1) := by decide +kernel
theorem dX7_adds_61 : decode cX7_adds 61 = .ok (.iload 5, 2) := by decide +kernel
theorem dX7_adds_63 : decode cX7_adds 63 = .ok (.iload 4, 2) := by decide +kernel
theorem dX7_adds_65 : decode cX7_adds 65 = .ok (.iconst 0, 1) := by decide +kernel
theorem dX7_adds_66 : decode cX7_adds 66 = .ok (.invokevirtual 55, 3) := by decide +kernel
theorem dX7_adds_69 : decode cX7_adds 69 = .ok (.iinc 5 1, 3) := by decide +kernel
theorem dX7_adds_72 : decode cX7_adds 72 = .ok (.goto (-19), 3) := by decide +kernel
theorem dX7_adds_75 : decode cX7_adds 75 = .ok (.aload_n 0, 1) := by decide +kernel
theorem dX7_adds_76 : decode cX7_adds 76 = .ok (.getfield 7, 3) := by decide +kernel
theorem dX7_adds_79 : decode cX7_adds 79 = .ok (.iconst 0, 1) := by decide +kernel
theorem dX7_adds_80 : decode cX7_adds 80 = .ok (.dup2, 1) := by decide +kernel
theorem dX7_adds_81 : decode cX7_adds 81 = .ok (.iaload, 1) := by decide +kernel
theorem dX7_adds_82 : decode cX7_adds 82 = .ok (.iconst 1, 1) := by decide +kernel
theorem dX7_adds_83 : decode cX7_adds 83 = .ok (.iadd, 1) := by decide +kernel
theorem dX7_adds_84 : decode cX7_adds 84 = .ok (.iastore, 1) := by decide +kernel
theorem dX7_adds_85 : decode cX7_adds 85 = .ok (.return_, 1) := by decide +kernel
theorem dX7_add_0 : decode cX7_add 0 = .ok (.iload_n 1, 1) := by decide +kernel
theorem dX7_add_1 : decode cX7_add 1 = .ok (.iconst 1, 1) := by decide +kernel
theorem dX7_add_2 : decode cX7_add 2 = .ok (.bipush 63, 2) := by decide +kernel
theorem dX7_add_4 : decode cX7_add 4 = .ok (.invokestatic 34, 3) := by decide +kernel
theorem dX7_add_7 : decode cX7_add 7 = .ok (.ifCond .eq 25, 3) := by decide +kernel
theorem dX7_add_10 : decode cX7_add 10 = .ok (.iload_n 3, 1) := by decide +kernel
theorem dX7_add_11 : decode cX7_add 11 = .ok (.iconst 1, 1) := by decide +kernel
theorem dX7_add_12 : decode cX7_add 12 = .ok (.bipush 99, 2) := by decide +kernel
theorem dX7_add_14 : decode cX7_add 14 = .ok (.invokestatic 34, 3) := by decide +kernel
theorem dX7_add_17 : decode cX7_add 17 = .ok (.ifCond .eq 15, 3) := by decide +kernel
theorem dX7_add_20 : decode cX7_add 20 = .ok (.iload_n 1, 1) := by decide +kernel
theorem dX7_add_21 : decode cX7_add 21 = .ok (.iload_n 2, 1) := by decide +kernel
theorem dX7_add_22 : decode cX7_add 22 = .ok (.invokestatic 59, 3) := by decide +kernel
theorem dX7_add_25 : decode cX7_add 25 = .ok (.ifCond .eq 7, 3) := by decide +kernel
theorem dX7_add_28 : decode cX7_add 28 = .ok (.iconst 1, 1) := by decide +kernel
theorem dX7_add_29 : decode cX7_add 29 = .ok (.goto 4, 3) := by decide +kernel
theorem dX7_add_32 : decode cX7_add 32 = .ok (.iconst 0, 1) := by decide +kernel
theorem dX7_add_33 : decode cX7_add 33 = .ok (.istore 4, 2) := by decide +kernel
theorem dX7_add_35 : decode cX7_add 35 = .ok (.aload_n 0, 1) := by decide +kernel
theorem dX7_add_36 : decode cX7_add 36 = .ok (.iload 4, 2) := by decide +kernel
theorem dX7_add_38 : decode cX7_add 38 = .ok (.ifCond .ne 7, 3) := by decide +kernel
theorem dX7_add_41 : decode cX7_add 41 = .ok (.iconst 1, 1) := by decide +kernel
theorem dX7_add_42 : decode cX7_add 42 = .ok (.goto 19, 3) := by decide +kernel
theorem dX7_add_45 : decode cX7_add 45 = .ok (.aload_n 0, 1) := by decide +kernel
theorem dX7_add_46 : decode cX7_add 46 = .ok (.getfield 7, 3) := by decide +kernel
theorem dX7_add_49 : decode cX7_add 49 = .ok (.iconst 0, 1) := by decide +kernel
theorem dX7_add_50 : decode cX7_add 50 = .ok (.iaload, 1) := by decide +kernel
theorem dX7_add_51 : decode cX7_add 51 = .ok (.bipush 20, 2) := by decide +kernel
theorem dX7_add_53 : decode cX7_add 53 = .ok (.if_icmp .ne 7, 3) := by decide +kernel
theorem dX7_add_56 : decode cX7_add 56 = .ok (.iconst 2, 1) := by decide +kernel
theorem dX7_add_57 : decode cX7_add 57 = .ok (.goto 4, 3) := by decide +kernel
theorem dX7_add_60 : decode cX7_add 60 = .ok (.iconst 0, 1) := by decide +kernel
theorem dX7_add_61 : decode cX7_add 61 = .ok (.invokevirtual 30, 3) := by decide +kernel
theorem dX7_add_64 : decode cX7_add 64 = .ok (.ifCond .eq 5, 3) := by decide +kernel
theorem dX7_add_67 : decode cX7_add 67 = .ok (.iconst 0, 1) := by decide +kernel
theorem dX7_add_68 : decode cX7_add 68 = .ok (.ireturn, 1) := by decide +kernel
theorem dX7_add_69 : decode cX7_add 69 = .ok (.aload_n 0, 1) := by decide +kernel
theorem dX7_add_70 : decode cX7_add 70 = .ok (.invokevirtual 63, 3) := by decide +kernel
theorem dX7_add_73 : decode cX7_add 73 = .ok (.aload_n 0, 1) := by decide +kernel
theorem dX7_add_74 : decode cX7_add 74 = .ok (.iload_n 1, 1) := by decide +kernel
theorem dX7_add_75 : decode cX7_add 75 = .ok (.iload_n 2, 1) := by decide +kernel
theorem dX7_add_76 : decode cX7_add 76 = .ok (.iload_n 3, 1) := by decide +kernel
theorem dX7_add_77 : decode cX7_add 77 = .ok (.invokevirtual 66, 3) := by decide +kernel
theorem dX7_add_80 : decode cX7_add 80 = .ok (.aload_n 0, 1) := by decide +kernel
theorem dX7_add_81 : decode cX7_add 81 = .ok (.getfield 7, 3) := by decide +kernel
theorem dX7_add_84 : decode cX7_add 84 = .ok (.iconst 0, 1) := by decide +kernel
theorem dX7_add_85 : decode cX7_add 85 = .ok (.iaload, 1) := by decide +kernel
theorem dX7_add_86 : decode cX7_add 86 = .ok (.iconst 1, 1) := by decide +kernel
theorem dX7_add_87 : decode cX7_add 87 = .ok (.isub, 1) := by decide +kernel
theorem dX7_add_88 : decode cX7_add 88 = .ok (.ireturn, 1) := by decide +kernel
theorem dX7_change_0 : decode cX7_change 0 = .ok (.aload_n 0, 1) := by decide +kernel
theorem dX7_change_1 : decode cX7_change 1 = .ok (.aload_n 0, 1) := by decide +kernel
theorem dX7_change_2 : decode cX7_change 2 = .ok (.iload_n 1, 1) := by decide +kernel
theorem dX7_change_3 : decode cX7_change 3 = .ok (.invokevirtual 69, 3) := by decide +kernel
theorem dX7_change_6 : decode cX7_change 6 = .ok (.ifCond .ne 7, 3) := by decide +kernel
theorem dX7_change_9 : decode cX7_change 9 = .ok (.iconst 1, 1) := by decide +kernel
theorem dX7_change_10 : decode cX7_change 10 = .ok (.goto 26, 3) := by decide +kernel
theorem dX7_change_13 : decode cX7_change 13 = .ok (.iload_n 2, 1) := by decide +kernel
theorem dX7_change_14 : decode cX7_change 14 = .ok (.iconst 1, 1) := by decide +kernel
theorem dX7_change_15 : decode cX7_change 15 = .ok (.bipush 63, 2) := by decide +kernel
theorem dX7_change_17 : decode cX7_change 17 = .ok (.invokestatic 34, 3) := by decide +kernel
theorem dX7_change_20 : decode cX7_change 20 = .ok (.ifCond .eq 11, 3) := by decide +kernel
theorem dX7_change_23 : decode cX7_change 23 = .ok (.iload_n 2, 1) := by decide +kernel
theorem dX7_change_24 : decode cX7_change 24 = .ok (.iload_n 3, 1) := by decide +kernel
theorem dX7_change_25 : decode cX7_change 25 = .ok (.invokestatic 59, 3) := by decide +kernel
theorem dX7_change_28 : decode cX7_change 28 = .ok (.ifCond .ne 7, 3) := by decide +kernel
theorem dX7_change_31 : decode cX7_change 31 = .ok (.iconst 2, 1) := by decide +kernel
theorem dX7_change_32 : decode cX7_change 32 = .ok (.goto 4, 3) := by decide +kernel
theorem dX7_change_35 : decode cX7_change 35 = .ok (.iconst 0, 1) := by decide +kernel
theorem dX7_change_36 : decode cX7_change 36 = .ok (.invokevirtual 30, 3) := by decide +kernel
theorem dX7_change_39 : decode cX7_change 39 = .ok (.ifCond .eq 5, 3) := by decide +kernel
theorem dX7_change_42 : decode cX7_change 42 = .ok (.iconst 0, 1) := by decide +kernel
theorem dX7_change_43 : decode cX7_change 43 = .ok (.ireturn, 1) := by decide +kernel
theorem dX7_change_44 : decode cX7_change 44 = .ok (.aload_n 0, 1) := by decide +kernel
theorem dX7_change_45 : decode cX7_change 45 = .ok (.invokevirtual 63, 3) := by decide +kernel
theorem dX7_change_48 : decode cX7_change 48 = .ok (.aload_n 0, 1) := by decide +kernel
theorem dX7_change_49 : decode cX7_change 49 = .ok (.iload_n 1, 1) := by decide +kernel
theorem dX7_change_50 : decode cX7_change 50 = .ok (.iconst 0, 1) := by decide +kernel
theorem dX7_change_51 : decode cX7_change 51 = .ok (.invokevirtual 38, 3) := by decide +kernel
theorem dX7_change_54 : decode cX7_change 54 = .ok (.istore 4, 2) := by decide +kernel
theorem dX7_change_56 : decode cX7_change 56 = .ok (.aload_n 0, 1) := by decide +kernel
theorem dX7_change_57 : decode cX7_change 57 = .ok (.getfield 7, 3) := by decide +kernel
theorem dX7_change_60 : decode cX7_change 60 = .ok (.iconst 5, 1) := by decide +kernel
theorem dX7_change_61 : decode cX7_change 61 = .ok (.iconst 3, 1) := by decide +kernel
theorem dX7_change_62 : decode cX7_change 62 = .ok (.iload_n 1, 1) := by decide +kernel
theorem dX7_change_63 : decode cX7_change 63 = .ok (.imul, 1) := by decide +kernel
theorem dX7_change_64 : decode cX7_change 64 = .ok (.iadd, 1) := by decide +kernel
theorem dX7_change_65 : decode cX7_change 65 = .ok (.iconst 0, 1) := by decide +kernel
theorem dX7_change_66 : decode cX7_change 66 = .ok (.iadd, 1) := by decide +kernel
theorem dX7_change_67 : decode cX7_change 67 = .ok (.iload_n 2, 1) := by decide +kernel
theorem dX7_change_68 : decode cX7_change 68 = .ok (.iastore, 1) := by decide +kernel
theorem dX7_change_69 : decode cX7_change 69 = .ok (.aload_n 0, 1) := by decide +kernel
theorem dX7_change_70 : decode cX7_change 70 = .ok (.getfield 7, 3) := by decide +kernel
theorem dX7_change_73 : decode cX7_change 73 = .ok (.iconst 5, 1) := by decide +kernel
theorem dX7_change_74 : decode cX7_change 74 = .ok (.iconst 3, 1) := by decide +kernel
theorem dX7_change_75 : decode cX7_change 75 = .ok (.iload_n 1, 1) := by decide +kernel
theorem dX7_change_76 : decode cX7_change 76 = .ok (.imul, 1) := by decide +kernel
theorem dX7_change_77 : decode cX7_change 77 = .ok (.iadd, 1) := by decide +kernel
theorem dX7_change_78 : decode cX7_change 78 = .ok (.iconst 1, 1) := by decide +kernel
theorem dX7_change_79 : decode cX7_change 79 = .ok (.iadd, 1) := by decide +kernel
theorem dX7_change_80 : decode cX7_change 80 = .ok (.iload_n 3, 1) := by decide +kernel
theorem dX7_change_81 : decode cX7_change 81 = .ok (.iastore, 1) := by decide +kernel
theorem dX7_change_82 : decode cX7_change 82 = .ok (.iload 4, 2) := by decide +kernel
theorem dX7_change_84 : decode cX7_change 84 = .ok (.ireturn, 1) := by decide +kernel
theorem dX7_readersOf_0 : decode cX7_readersOf 0 = .ok (.iconst 0, 1) := by decide +kernel
theorem dX7_readersOf_1 : decode cX7_readersOf 1 = .ok (.istore_n 2, 1) := by decide +kernel
theorem dX7_readersOf_2 : decode cX7_readersOf 2 = .ok (.iconst 0, 1) := by decide +kernel
theorem dX7_readersOf_3 : decode cX7_readersOf 3 = .ok (.istore_n 3, 1) := by decide +kernel
theorem dX7_readersOf_4 : decode cX7_readersOf 4 = .ok (.iload_n 3, 1) := by decide +kernel
theorem dX7_readersOf_5 : decode cX7_readersOf 5 = .ok (.bipush 6, 2) := by decide +kernel
theorem dX7_readersOf_7 : decode cX7_readersOf 7 = .ok (.if_icmp .ge 29, 3) := by decide +kernel
theorem dX7_readersOf_10 : decode cX7_readersOf 10 = .ok (.iload_n 2, 1) := by decide +kernel
theorem dX7_readersOf_11 : decode cX7_readersOf 11 = .ok (.aload_n 0, 1) := by decide +kernel
theorem dX7_readersOf_12 : decode cX7_readersOf 12 = .ok (.iload_n 3, 1) := by decide +kernel
theorem dX7_readersOf_13 : decode cX7_readersOf 13 = .ok (.iload_n 1, 1) := by decide +kernel
theorem dX7_readersOf_14 : decode cX7_readersOf 14 = .ok (.invokevirtual 46, 3) := by decide +kernel
theorem dX7_readersOf_17 : decode cX7_readersOf 17 = .ok (.iconst 2, 1) := by decide +kernel
theorem dX7_readersOf_18 : decode cX7_readersOf 18 = .ok (.if_icmp .ne 9, 3) := by decide +kernel
theorem dX7_readersOf_21 : decode cX7_readersOf 21 = .ok (.iconst 1, 1) := by decide +kernel
theorem dX7_readersOf_22 : decode cX7_readersOf 22 = .ok (.iload_n 3, 1) := by decide +kernel
theorem dX7_readersOf_23 : decode cX7_readersOf 23 = .ok (.ishl, 1) := by decide +kernel
theorem dX7_readersOf_24 : decode cX7_readersOf 24 = .ok (.goto 4, 3) := by decide +kernel
theorem dX7_readersOf_27 : decode cX7_readersOf 27 = .ok (.iconst 0, 1) := by decide +kernel
theorem dX7_readersOf_28 : decode cX7_readersOf 28 = .ok (.ior, 1) := by decide +kernel
theorem dX7_readersOf_29 : decode cX7_readersOf 29 = .ok (.istore_n 2, 1) := by decide +kernel
theorem dX7_readersOf_30 : decode cX7_readersOf 30 = .ok (.iinc 3 1, 3) := by decide +kernel
theorem dX7_readersOf_33 : decode cX7_readersOf 33 = .ok (.goto (-29), 3) := by decide +kernel
theorem dX7_readersOf_36 : decode cX7_readersOf 36 = .ok (.iload_n 2, 1) := by decide +kernel
theorem dX7_readersOf_37 : decode cX7_readersOf 37 = .ok (.ireturn, 1) := by decide +kernel
theorem dX7_removeLast_0 : decode cX7_removeLast 0 = .ok (.aload_n 0, 1) := by decide +kernel
theorem dX7_removeLast_1 : decode cX7_removeLast 1 = .ok (.aload_n 0, 1) := by decide +kernel
theorem dX7_removeLast_2 : decode cX7_removeLast 2 = .ok (.getfield 7, 3) := by decide +kernel
theorem dX7_removeLast_5 : decode cX7_removeLast 5 = .ok (.iconst 0, 1) := by decide +kernel
theorem dX7_removeLast_6 : decode cX7_removeLast 6 = .ok (.iaload, 1) := by decide +kernel
theorem dX7_removeLast_7 : decode cX7_removeLast 7 = .ok (.ifCond .ne 7, 3) := by decide +kernel
theorem dX7_removeLast_10 : decode cX7_removeLast 10 = .ok (.iconst 1, 1) := by decide +kernel
theorem dX7_removeLast_11 : decode cX7_removeLast 11 = .ok (.goto 4, 3) := by decide +kernel
theorem dX7_removeLast_14 : decode cX7_removeLast 14 = .ok (.iconst 0, 1) := by decide +kernel
theorem dX7_removeLast_15 : decode cX7_removeLast 15 = .ok (.invokevirtual 30, 3) := by decide +kernel
theorem dX7_removeLast_18 : decode cX7_removeLast 18 = .ok (.ifCond .eq 5, 3) := by decide +kernel
theorem dX7_removeLast_21 : decode cX7_removeLast 21 = .ok (.iconst 0, 1) := by decide +kernel
theorem dX7_removeLast_22 : decode cX7_removeLast 22 = .ok (.ireturn, 1) := by decide +kernel
theorem dX7_removeLast_23 : decode cX7_removeLast 23 = .ok (.aload_n 0, 1) := by decide +kernel
theorem dX7_removeLast_24 : decode cX7_removeLast 24 = .ok (.invokevirtual 63, 3) := by decide +kernel
theorem dX7_removeLast_27 : decode cX7_removeLast 27 = .ok (.aload_n 0, 1) := by decide +kernel
theorem dX7_removeLast_28 : decode cX7_removeLast 28 = .ok (.getfield 7, 3) := by decide +kernel
theorem dX7_removeLast_31 : decode cX7_removeLast 31 = .ok (.iconst 0, 1) := by decide +kernel
theorem dX7_removeLast_32 : decode cX7_removeLast 32 = .ok (.dup2, 1) := by decide +kernel
theorem dX7_removeLast_33 : decode cX7_removeLast 33 = .ok (.iaload, 1) := by decide +kernel
theorem dX7_removeLast_34 : decode cX7_removeLast 34 = .ok (.iconst 1, 1) := by decide +kernel
theorem dX7_removeLast_35 : decode cX7_removeLast 35 = .ok (.isub, 1) := by decide +kernel
theorem dX7_removeLast_36 : decode cX7_removeLast 36 = .ok (.iastore, 1) := by decide +kernel
theorem dX7_removeLast_37 : decode cX7_removeLast 37 = .ok (.aload_n 0, 1) := by decide +kernel
theorem dX7_removeLast_38 : decode cX7_removeLast 38 = .ok (.aload_n 0, 1) := by decide +kernel
theorem dX7_removeLast_39 : decode cX7_removeLast 39 = .ok (.getfield 7, 3) := by decide +kernel
theorem dX7_removeLast_42 : decode cX7_removeLast 42 = .ok (.iconst 0, 1) := by decide +kernel
theorem dX7_removeLast_43 : decode cX7_removeLast 43 = .ok (.iaload, 1) := by decide +kernel
theorem dX7_removeLast_44 : decode cX7_removeLast 44 = .ok (.invokevirtual 72, 3) := by decide +kernel
theorem dX7_removeLast_47 : decode cX7_removeLast 47 = .ok (.invokestatic 75, 3) := by decide +kernel
theorem dX7_removeLast_50 : decode cX7_removeLast 50 = .ok (.istore_n 1, 1) := by decide +kernel
theorem dX7_removeLast_51 : decode cX7_removeLast 51 = .ok (.iconst 0, 1) := by decide +kernel
theorem dX7_removeLast_52 : decode cX7_removeLast 52 = .ok (.istore_n 2, 1) := by decide +kernel
theorem dX7_removeLast_53 : decode cX7_removeLast 53 = .ok (.iload_n 2, 1) := by decide +kernel
theorem dX7_removeLast_54 : decode cX7_removeLast 54 = .ok (.bipush 6, 2) := by decide +kernel
theorem dX7_removeLast_56 : decode cX7_removeLast 56 = .ok (.if_icmp .ge 21, 3) := by decide +kernel
theorem dX7_removeLast_59 : decode cX7_removeLast 59 = .ok (.aload_n 0, 1) := by decide +kernel
theorem dX7_removeLast_60 : decode cX7_removeLast 60 = .ok (.iload_n 2, 1) := by decide +kernel
theorem dX7_removeLast_61 : decode cX7_removeLast 61 = .ok (.aload_n 0, 1) := by decide +kernel
theorem dX7_removeLast_62 : decode cX7_removeLast 62 = .ok (.getfield 7, 3) := by decide +kernel
theorem dX7_removeLast_65 : decode cX7_removeLast 65 = .ok (.iconst 0, 1) := by decide +kernel
theorem dX7_removeLast_66 : decode cX7_removeLast 66 = .ok (.iaload, 1) := by decide +kernel
theorem dX7_removeLast_67 : decode cX7_removeLast 67 = .ok (.iconst 0, 1) := by decide +kernel
theorem dX7_removeLast_68 : decode cX7_removeLast 68 = .ok (.invokevirtual 55, 3) := by decide +kernel
theorem dX7_removeLast_71 : decode cX7_removeLast 71 = .ok (.iinc 2 1, 3) := by decide +kernel
theorem dX7_removeLast_74 : decode cX7_removeLast 74 = .ok (.goto (-21), 3) := by decide +kernel
theorem dX7_removeLast_77 : decode cX7_removeLast 77 = .ok (.iload_n 1, 1) := by decide +kernel
theorem dX7_removeLast_78 : decode cX7_removeLast 78 = .ok (.ireturn, 1) := by decide +kernel
theorem dX7_set_0 : decode cX7_set 0 = .ok (.aload_n 0, 1) := by decide +kernel
theorem dX7_set_1 : decode cX7_set 1 = .ok (.iload_n 1, 1) := by decide +kernel
theorem dX7_set_2 : decode cX7_set 2 = .ok (.iconst 0, 1) := by decide +kernel
theorem dX7_set_3 : decode cX7_set 3 = .ok (.iconst 1, 1) := by decide +kernel
theorem dX7_set_4 : decode cX7_set 4 = .ok (.invokestatic 34, 3) := by decide +kernel
theorem dX7_set_7 : decode cX7_set 7 = .ok (.ifCond .ne 7, 3) := by decide +kernel
theorem dX7_set_10 : decode cX7_set 10 = .ok (.iconst 1, 1) := by decide +kernel
theorem dX7_set_11 : decode cX7_set 11 = .ok (.goto 27, 3) := by decide +kernel
theorem dX7_set_14 : decode cX7_set 14 = .ok (.iload_n 2, 1) := by decide +kernel
theorem dX7_set_15 : decode cX7_set 15 = .ok (.iload_n 1, 1) := by decide +kernel
theorem dX7_set_16 : decode cX7_set 16 = .ok (.iload_n 1, 1) := by decide +kernel
theorem dX7_set_17 : decode cX7_set 17 = .ok (.ifCond .ne 8, 3) := by decide +kernel
theorem dX7_set_20 : decode cX7_set 20 = .ok (.bipush 19, 2) := by decide +kernel
theorem dX7_set_22 : decode cX7_set 22 = .ok (.goto 5, 3) := by decide +kernel
theorem dX7_set_25 : decode cX7_set 25 = .ok (.bipush 20, 2) := by decide +kernel
theorem dX7_set_27 : decode cX7_set 27 = .ok (.invokestatic 34, 3) := by decide +kernel
theorem dX7_set_30 : decode cX7_set 30 = .ok (.ifCond .ne 7, 3) := by decide +kernel
theorem dX7_set_33 : decode cX7_set 33 = .ok (.iconst 2, 1) := by decide +kernel
theorem dX7_set_34 : decode cX7_set 34 = .ok (.goto 4, 3) := by decide +kernel
theorem dX7_set_37 : decode cX7_set 37 = .ok (.iconst 0, 1) := by decide +kernel
theorem dX7_set_38 : decode cX7_set 38 = .ok (.invokevirtual 30, 3) := by decide +kernel
theorem dX7_set_41 : decode cX7_set 41 = .ok (.ifCond .eq 5, 3) := by decide +kernel
theorem dX7_set_44 : decode cX7_set 44 = .ok (.iconst 0, 1) := by decide +kernel
theorem dX7_set_45 : decode cX7_set 45 = .ok (.ireturn, 1) := by decide +kernel
theorem dX7_set_46 : decode cX7_set 46 = .ok (.aload_n 0, 1) := by decide +kernel
theorem dX7_set_47 : decode cX7_set 47 = .ok (.invokevirtual 63, 3) := by decide +kernel
theorem dX7_set_50 : decode cX7_set 50 = .ok (.aload_n 0, 1) := by decide +kernel
theorem dX7_set_51 : decode cX7_set 51 = .ok (.getfield 7, 3) := by decide +kernel
theorem dX7_set_54 : decode cX7_set 54 = .ok (.iconst 1, 1) := by decide +kernel
theorem dX7_set_55 : decode cX7_set 55 = .ok (.iload_n 1, 1) := by decide +kernel
theorem dX7_set_56 : decode cX7_set 56 = .ok (.iadd, 1) := by decide +kernel
theorem dX7_set_57 : decode cX7_set 57 = .ok (.iaload, 1) := by decide +kernel
theorem dX7_set_58 : decode cX7_set 58 = .ok (.istore_n 3, 1) := by decide +kernel
theorem dX7_set_59 : decode cX7_set 59 = .ok (.aload_n 0, 1) := by decide +kernel
theorem dX7_set_60 : decode cX7_set 60 = .ok (.getfield 7, 3) := by decide +kernel
theorem dX7_set_63 : decode cX7_set 63 = .ok (.iconst 1, 1) := by decide +kernel
theorem dX7_set_64 : decode cX7_set 64 = .ok (.iload_n 1, 1) := by decide +kernel
theorem dX7_set_65 : decode cX7_set 65 = .ok (.iadd, 1) := by decide +kernel
theorem dX7_set_66 : decode cX7_set 66 = .ok (.iload_n 2, 1) := by decide +kernel
theorem dX7_set_67 : decode cX7_set 67 = .ok (.iastore, 1) := by decide +kernel
theorem dX7_set_68 : decode cX7_set 68 = .ok (.iload_n 3, 1) := by decide +kernel
theorem dX7_set_69 : decode cX7_set 69 = .ok (.ireturn, 1) := by decide +kernel
theorem dX7_reaches_0 : decode cX7_reaches 0 = .ok (.aload_n 0, 1) := by decide +kernel
theorem dX7_reaches_1 : decode cX7_reaches 1 = .ok (.iload_n 1, 1) := by decide +kernel
theorem dX7_reaches_2 : decode cX7_reaches 2 = .ok (.iload_n 2, 1) := by decide +kernel
theorem dX7_reaches_3 : decode cX7_reaches 3 = .ok (.invokevirtual 78, 3) := by decide +kernel
theorem dX7_reaches_6 : decode cX7_reaches 6 = .ok (.istore_n 3, 1) := by decide +kernel
theorem dX7_reaches_7 : decode cX7_reaches 7 = .ok (.aload_n 0, 1) := by decide +kernel
theorem dX7_reaches_8 : decode cX7_reaches 8 = .ok (.iload_n 3, 1) := by decide +kernel
theorem dX7_reaches_9 : decode cX7_reaches 9 = .ok (.invokevirtual 81, 3) := by decide +kernel
theorem dX7_reaches_12 : decode cX7_reaches 12 = .ok (.istore 4, 2) := by decide +kernel
theorem dX7_reaches_14 : decode cX7_reaches 14 = .ok (.iload 4, 2) := by decide +kernel
theorem dX7_reaches_16 : decode cX7_reaches 16 = .ok (.invokestatic 75, 3) := by decide +kernel
theorem dX7_reaches_19 : decode cX7_reaches 19 = .ok (.istore 5, 2) := by decide +kernel
theorem dX7_reaches_21 : decode cX7_reaches 21 = .ok (.iconst 0, 1) := by decide +kernel
theorem dX7_reaches_22 : decode cX7_reaches 22 = .ok (.istore 6, 2) := by decide +kernel
theorem dX7_reaches_24 : decode cX7_reaches 24 = .ok (.iload 6, 2) := by decide +kernel
theorem dX7_reaches_26 : decode cX7_reaches 26 = .ok (.iload_n 2, 1) := by decide +kernel
theorem dX7_reaches_27 : decode cX7_reaches 27 = .ok (.if_icmp .ge 28, 3) := by decide +kernel
theorem dX7_reaches_30 : decode cX7_reaches 30 = .ok (.iload 4, 2) := by decide +kernel
theorem dX7_reaches_32 : decode cX7_reaches 32 = .ok (.iload 6, 2) := by decide +kernel
theorem dX7_reaches_34 : decode cX7_reaches 34 = .ok (.ishr, 1) := by decide +kernel
theorem dX7_reaches_35 : decode cX7_reaches 35 = .ok (.iconst 1, 1) := by decide +kernel
theorem dX7_reaches_36 : decode cX7_reaches 36 = .ok (.iand, 1) := by decide +kernel
theorem dX7_reaches_37 : decode cX7_reaches 37 = .ok (.iconst 1, 1) := by decide +kernel
theorem dX7_reaches_38 : decode cX7_reaches 38 = .ok (.if_icmp .ne 11, 3) := by decide +kernel
theorem dX7_reaches_41 : decode cX7_reaches 41 = .ok (.aload_n 0, 1) := by decide +kernel
theorem dX7_reaches_42 : decode cX7_reaches 42 = .ok (.iload_n 1, 1) := by decide +kernel
theorem dX7_reaches_43 : decode cX7_reaches 43 = .ok (.iload 6, 2) := by decide +kernel
theorem dX7_reaches_45 : decode cX7_reaches 45 = .ok (.iconst 1, 1) := by decide +kernel
theorem dX7_reaches_46 : decode cX7_reaches 46 = .ok (.invokevirtual 55, 3) := by decide +kernel
theorem dX7_reaches_49 : decode cX7_reaches 49 = .ok (.iinc 6 1, 3) := by decide +kernel
theorem dX7_reaches_52 : decode cX7_reaches 52 = .ok (.goto (-28), 3) := by decide +kernel
theorem dX7_reaches_55 : decode cX7_reaches 55 = .ok (.aload_n 0, 1) := by decide +kernel
theorem dX7_reaches_56 : decode cX7_reaches 56 = .ok (.iload_n 1, 1) := by decide +kernel
theorem dX7_reaches_57 : decode cX7_reaches 57 = .ok (.iload_n 2, 1) := by decide +kernel
theorem dX7_reaches_58 : decode cX7_reaches 58 = .ok (.iconst 2, 1) := by decide +kernel
theorem dX7_reaches_59 : decode cX7_reaches 59 = .ok (.invokevirtual 55, 3) := by decide +kernel
theorem dX7_reaches_62 : decode cX7_reaches 62 = .ok (.aload_n 0, 1) := by decide +kernel
theorem dX7_reaches_63 : decode cX7_reaches 63 = .ok (.iload_n 1, 1) := by decide +kernel
theorem dX7_reaches_64 : decode cX7_reaches 64 = .ok (.iconst 0, 1) := by decide +kernel
theorem dX7_reaches_65 : decode cX7_reaches 65 = .ok (.aload_n 0, 1) := by decide +kernel
theorem dX7_reaches_66 : decode cX7_reaches 66 = .ok (.iload_n 2, 1) := by decide +kernel
theorem dX7_reaches_67 : decode cX7_reaches 67 = .ok (.iconst 2, 1) := by decide +kernel
theorem dX7_reaches_68 : decode cX7_reaches 68 = .ok (.invokevirtual 38, 3) := by decide +kernel
theorem dX7_reaches_71 : decode cX7_reaches 71 = .ok (.aload_n 0, 1) := by decide +kernel
theorem dX7_reaches_72 : decode cX7_reaches 72 = .ok (.iload 4, 2) := by decide +kernel
theorem dX7_reaches_74 : decode cX7_reaches 74 = .ok (.invokevirtual 84, 3) := by decide +kernel
theorem dX7_reaches_77 : decode cX7_reaches 77 = .ok (.iadd, 1) := by decide +kernel
theorem dX7_reaches_78 : decode cX7_reaches 78 = .ok (.invokevirtual 87, 3) := by decide +kernel
theorem dX7_reaches_81 : decode cX7_reaches 81 = .ok (.aload_n 0, 1) := by decide +kernel
theorem dX7_reaches_82 : decode cX7_reaches 82 = .ok (.iload_n 1, 1) := by decide +kernel
theorem dX7_reaches_83 : decode cX7_reaches 83 = .ok (.iconst 1, 1) := by decide +kernel
theorem dX7_reaches_84 : decode cX7_reaches 84 = .ok (.iload 5, 2) := by decide +kernel
theorem dX7_reaches_86 : decode cX7_reaches 86 = .ok (.invokevirtual 87, 3) := by decide +kernel
theorem dX7_reaches_89 : decode cX7_reaches 89 = .ok (.aload_n 0, 1) := by decide +kernel
theorem dX7_reaches_90 : decode cX7_reaches 90 = .ok (.iload_n 1, 1) := by decide +kernel
theorem dX7_reaches_91 : decode cX7_reaches 91 = .ok (.iconst 2, 1) := by decide +kernel
theorem dX7_reaches_92 : decode cX7_reaches 92 = .ok (.iload_n 3, 1) := by decide +kernel
theorem dX7_reaches_93 : decode cX7_reaches 93 = .ok (.invokestatic 75, 3) := by decide +kernel
theorem dX7_reaches_96 : decode cX7_reaches 96 = .ok (.iload 5, 2) := by decide +kernel
theorem dX7_reaches_98 : decode cX7_reaches 98 = .ok (.isub, 1) := by decide +kernel
theorem dX7_reaches_99 : decode cX7_reaches 99 = .ok (.invokevirtual 87, 3) := by decide +kernel
theorem dX7_reaches_102 : decode cX7_reaches 102 = .ok (.aload_n 0, 1) := by decide +kernel
theorem dX7_reaches_103 : decode cX7_reaches 103 = .ok (.getfield 7, 3) := by decide +kernel
theorem dX7_reaches_106 : decode cX7_reaches 106 = .ok (.iconst 3, 1) := by decide +kernel
theorem dX7_reaches_107 : decode cX7_reaches 107 = .ok (.dup2, 1) := by decide +kernel
theorem dX7_reaches_108 : decode cX7_reaches 108 = .ok (.iaload, 1) := by decide +kernel
theorem dX7_reaches_109 : decode cX7_reaches 109 = .ok (.iconst 1, 1) := by decide +kernel
theorem dX7_reaches_110 : decode cX7_reaches 110 = .ok (.iadd, 1) := by decide +kernel
theorem dX7_reaches_111 : decode cX7_reaches 111 = .ok (.iastore, 1) := by decide +kernel
theorem dX7_reaches_112 : decode cX7_reaches 112 = .ok (.iload 5, 2) := by decide +kernel
theorem dX7_reaches_114 : decode cX7_reaches 114 = .ok (.ireturn, 1) := by decide +kernel
theorem dX7_mail_0 : decode cX7_mail 0 = .ok (.aload_n 0, 1) := by decide +kernel
theorem dX7_mail_1 : decode cX7_mail 1 = .ok (.iload_n 1, 1) := by decide +kernel
theorem dX7_mail_2 : decode cX7_mail 2 = .ok (.invokestatic 90, 3) := by decide +kernel
theorem dX7_mail_5 : decode cX7_mail 5 = .ok (.ifCond .eq 11, 3) := by decide +kernel
theorem dX7_mail_8 : decode cX7_mail 8 = .ok (.aload_n 0, 1) := by decide +kernel
theorem dX7_mail_9 : decode cX7_mail 9 = .ok (.iload_n 2, 1) := by decide +kernel
theorem dX7_mail_10 : decode cX7_mail 10 = .ok (.invokevirtual 69, 3) := by decide +kernel
theorem dX7_mail_13 : decode cX7_mail 13 = .ok (.ifCond .ne 7, 3) := by decide +kernel
theorem dX7_mail_16 : decode cX7_mail 16 = .ok (.iconst 1, 1) := by decide +kernel
theorem dX7_mail_17 : decode cX7_mail 17 = .ok (.goto 18, 3) := by decide +kernel
theorem dX7_mail_20 : decode cX7_mail 20 = .ok (.aload_n 0, 1) := by decide +kernel
theorem dX7_mail_21 : decode cX7_mail 21 = .ok (.iload_n 1, 1) := by decide +kernel
theorem dX7_mail_22 : decode cX7_mail 22 = .ok (.iload_n 2, 1) := by decide +kernel
theorem dX7_mail_23 : decode cX7_mail 23 = .ok (.invokevirtual 46, 3) := by decide +kernel
theorem dX7_mail_26 : decode cX7_mail 26 = .ok (.iconst 2, 1) := by decide +kernel
theorem dX7_mail_27 : decode cX7_mail 27 = .ok (.if_icmp .ne 7, 3) := by decide +kernel
theorem dX7_mail_30 : decode cX7_mail 30 = .ok (.iconst 2, 1) := by decide +kernel
theorem dX7_mail_31 : decode cX7_mail 31 = .ok (.goto 4, 3) := by decide +kernel
theorem dX7_mail_34 : decode cX7_mail 34 = .ok (.iconst 0, 1) := by decide +kernel
theorem dX7_mail_35 : decode cX7_mail 35 = .ok (.invokevirtual 30, 3) := by decide +kernel
theorem dX7_mail_38 : decode cX7_mail 38 = .ok (.ifCond .eq 5, 3) := by decide +kernel
theorem dX7_mail_41 : decode cX7_mail 41 = .ok (.iconst 0, 1) := by decide +kernel
theorem dX7_mail_42 : decode cX7_mail 42 = .ok (.ireturn, 1) := by decide +kernel
theorem dX7_mail_43 : decode cX7_mail 43 = .ok (.aload_n 0, 1) := by decide +kernel
theorem dX7_mail_44 : decode cX7_mail 44 = .ok (.invokevirtual 63, 3) := by decide +kernel
theorem dX7_mail_47 : decode cX7_mail 47 = .ok (.aload_n 0, 1) := by decide +kernel
theorem dX7_mail_48 : decode cX7_mail 48 = .ok (.iload_n 1, 1) := by decide +kernel
theorem dX7_mail_49 : decode cX7_mail 49 = .ok (.iload_n 2, 1) := by decide +kernel
theorem dX7_mail_50 : decode cX7_mail 50 = .ok (.invokevirtual 93, 3) := by decide +kernel
theorem dX7_mail_53 : decode cX7_mail 53 = .ok (.ireturn, 1) := by decide +kernel
theorem dX7_mailAll_0 : decode cX7_mailAll 0 = .ok (.aload_n 0, 1) := by decide +kernel
theorem dX7_mailAll_1 : decode cX7_mailAll 1 = .ok (.aload_n 0, 1) := by decide +kernel
theorem dX7_mailAll_2 : decode cX7_mailAll 2 = .ok (.iload_n 1, 1) := by decide +kernel
theorem dX7_mailAll_3 : decode cX7_mailAll 3 = .ok (.invokevirtual 69, 3) := by decide +kernel
theorem dX7_mailAll_6 : decode cX7_mailAll 6 = .ok (.ifCond .ne 7, 3) := by decide +kernel
theorem dX7_mailAll_9 : decode cX7_mailAll 9 = .ok (.iconst 1, 1) := by decide +kernel
theorem dX7_mailAll_10 : decode cX7_mailAll 10 = .ok (.goto 18, 3) := by decide +kernel
theorem dX7_mailAll_13 : decode cX7_mailAll 13 = .ok (.iload_n 2, 1) := by decide +kernel
theorem dX7_mailAll_14 : decode cX7_mailAll 14 = .ok (.iconst 0, 1) := by decide +kernel
theorem dX7_mailAll_15 : decode cX7_mailAll 15 = .ok (.bipush 63, 2) := by decide +kernel
theorem dX7_mailAll_17 : decode cX7_mailAll 17 = .ok (.invokestatic 34, 3) := by decide +kernel
theorem dX7_mailAll_20 : decode cX7_mailAll 20 = .ok (.ifCond .ne 7, 3) := by decide +kernel
theorem dX7_mailAll_23 : decode cX7_mailAll 23 = .ok (.iconst 2, 1) := by decide +kernel
theorem dX7_mailAll_24 : decode cX7_mailAll 24 = .ok (.goto 4, 3) := by decide +kernel
theorem dX7_mailAll_27 : decode cX7_mailAll 27 = .ok (.iconst 0, 1) := by decide +kernel
theorem dX7_mailAll_28 : decode cX7_mailAll 28 = .ok (.invokevirtual 30, 3) := by decide +kernel
theorem dX7_mailAll_31 : decode cX7_mailAll 31 = .ok (.ifCond .eq 5, 3) := by decide +kernel
theorem dX7_mailAll_34 : decode cX7_mailAll 34 = .ok (.iconst 0, 1) := by decide +kernel
theorem dX7_mailAll_35 : decode cX7_mailAll 35 = .ok (.ireturn, 1) := by decide +kernel
theorem dX7_mailAll_36 : decode cX7_mailAll 36 = .ok (.aload_n 0, 1) := by decide +kernel
theorem dX7_mailAll_37 : decode cX7_mailAll 37 = .ok (.invokevirtual 63, 3) := by decide +kernel
theorem dX7_mailAll_40 : decode cX7_mailAll 40 = .ok (.iconst 0, 1) := by decide +kernel
theorem dX7_mailAll_41 : decode cX7_mailAll 41 = .ok (.istore_n 3, 1) := by decide +kernel
theorem dX7_mailAll_42 : decode cX7_mailAll 42 = .ok (.iconst 0, 1) := by decide +kernel
theorem dX7_mailAll_43 : decode cX7_mailAll 43 = .ok (.istore 4, 2) := by decide +kernel
theorem dX7_mailAll_45 : decode cX7_mailAll 45 = .ok (.iload 4, 2) := by decide +kernel
theorem dX7_mailAll_47 : decode cX7_mailAll 47 = .ok (.bipush 6, 2) := by decide +kernel
theorem dX7_mailAll_49 : decode cX7_mailAll 49 = .ok (.if_icmp .ge 100, 3) := by decide +kernel
theorem dX7_mailAll_52 : decode cX7_mailAll 52 = .ok (.aload_n 0, 1) := by decide +kernel
theorem dX7_mailAll_53 : decode cX7_mailAll 53 = .ok (.iload 4, 2) := by decide +kernel
theorem dX7_mailAll_55 : decode cX7_mailAll 55 = .ok (.iload_n 1, 1) := by decide +kernel
theorem dX7_mailAll_56 : decode cX7_mailAll 56 = .ok (.invokevirtual 46, 3) := by decide +kernel
theorem dX7_mailAll_59 : decode cX7_mailAll 59 = .ok (.iconst 2, 1) := by decide +kernel
theorem dX7_mailAll_60 : decode cX7_mailAll 60 = .ok (.if_icmp .eq 7, 3) := by decide +kernel
theorem dX7_mailAll_63 : decode cX7_mailAll 63 = .ok (.iconst 1, 1) := by decide +kernel
theorem dX7_mailAll_64 : decode cX7_mailAll 64 = .ok (.goto 4, 3) := by decide +kernel
theorem dX7_mailAll_67 : decode cX7_mailAll 67 = .ok (.iconst 0, 1) := by decide +kernel
theorem dX7_mailAll_68 : decode cX7_mailAll 68 = .ok (.istore 5, 2) := by decide +kernel
theorem dX7_mailAll_70 : decode cX7_mailAll 70 = .ok (.iload_n 2, 1) := by decide +kernel
theorem dX7_mailAll_71 : decode cX7_mailAll 71 = .ok (.iload 4, 2) := by decide +kernel
theorem dX7_mailAll_73 : decode cX7_mailAll 73 = .ok (.ishr, 1) := by decide +kernel
theorem dX7_mailAll_74 : decode cX7_mailAll 74 = .ok (.iconst 1, 1) := by decide +kernel
theorem dX7_mailAll_75 : decode cX7_mailAll 75 = .ok (.iand, 1) := by decide +kernel
theorem dX7_mailAll_76 : decode cX7_mailAll 76 = .ok (.iconst 1, 1) := by decide +kernel
theorem dX7_mailAll_77 : decode cX7_mailAll 77 = .ok (.if_icmp .ne 7, 3) := by decide +kernel
theorem dX7_mailAll_80 : decode cX7_mailAll 80 = .ok (.iconst 1, 1) := by decide +kernel
theorem dX7_mailAll_81 : decode cX7_mailAll 81 = .ok (.goto 4, 3) := by decide +kernel
theorem dX7_mailAll_84 : decode cX7_mailAll 84 = .ok (.iconst 0, 1) := by decide +kernel
theorem dX7_mailAll_85 : decode cX7_mailAll 85 = .ok (.istore 6, 2) := by decide +kernel
theorem dX7_mailAll_87 : decode cX7_mailAll 87 = .ok (.aload_n 0, 1) := by decide +kernel
theorem dX7_mailAll_88 : decode cX7_mailAll 88 = .ok (.getfield 7, 3) := by decide +kernel
theorem dX7_mailAll_91 : decode cX7_mailAll 91 = .ok (.iconst 4, 1) := by decide +kernel
theorem dX7_mailAll_92 : decode cX7_mailAll 92 = .ok (.dup2, 1) := by decide +kernel
theorem dX7_mailAll_93 : decode cX7_mailAll 93 = .ok (.iaload, 1) := by decide +kernel
theorem dX7_mailAll_94 : decode cX7_mailAll 94 = .ok (.iload 5, 2) := by decide +kernel
theorem dX7_mailAll_96 : decode cX7_mailAll 96 = .ok (.ifCond .eq 12, 3) := by decide +kernel
theorem dX7_mailAll_99 : decode cX7_mailAll 99 = .ok (.iload 6, 2) := by decide +kernel
theorem dX7_mailAll_101 : decode cX7_mailAll 101 = .ok (.ifCond .eq 7, 3) := by decide +kernel
theorem dX7_mailAll_104 : decode cX7_mailAll 104 = .ok (.iconst 1, 1) := by decide +kernel
theorem dX7_mailAll_105 : decode cX7_mailAll 105 = .ok (.goto 4, 3) := by decide +kernel
theorem dX7_mailAll_108 : decode cX7_mailAll 108 = .ok (.iconst 0, 1) := by decide +kernel
theorem dX7_mailAll_109 : decode cX7_mailAll 109 = .ok (.iadd, 1) := by decide +kernel
theorem dX7_mailAll_110 : decode cX7_mailAll 110 = .ok (.iastore, 1) := by decide +kernel
theorem dX7_mailAll_111 : decode cX7_mailAll 111 = .ok (.iload 5, 2) := by decide +kernel
theorem dX7_mailAll_113 : decode cX7_mailAll 113 = .ok (.ifCond .eq 30, 3) := by decide +kernel
theorem dX7_mailAll_116 : decode cX7_mailAll 116 = .ok (.iload 6, 2) := by decide +kernel
theorem dX7_mailAll_118 : decode cX7_mailAll 118 = .ok (.ifCond .ne 25, 3) := by decide +kernel
theorem dX7_mailAll_121 : decode cX7_mailAll 121 = .ok (.aload_n 0, 1) := by decide +kernel
theorem dX7_mailAll_122 : decode cX7_mailAll 122 = .ok (.iload 4, 2) := by decide +kernel
theorem dX7_mailAll_124 : decode cX7_mailAll 124 = .ok (.iload_n 1, 1) := by decide +kernel
theorem dX7_mailAll_125 : decode cX7_mailAll 125 = .ok (.invokevirtual 93, 3) := by decide +kernel
theorem dX7_mailAll_128 : decode cX7_mailAll 128 = .ok (.istore 7, 2) := by decide +kernel
theorem dX7_mailAll_130 : decode cX7_mailAll 130 = .ok (.iload_n 3, 1) := by decide +kernel
theorem dX7_mailAll_131 : decode cX7_mailAll 131 = .ok (.iload 7, 2) := by decide +kernel
theorem dX7_mailAll_133 : decode cX7_mailAll 133 = .ok (.ifCond .ge 7, 3) := by decide +kernel
theorem dX7_mailAll_136 : decode cX7_mailAll 136 = .ok (.iconst 0, 1) := by decide +kernel
theorem dX7_mailAll_137 : decode cX7_mailAll 137 = .ok (.goto 4, 3) := by decide +kernel
theorem dX7_mailAll_140 : decode cX7_mailAll 140 = .ok (.iconst 1, 1) := by decide +kernel
theorem dX7_mailAll_141 : decode cX7_mailAll 141 = .ok (.iadd, 1) := by decide +kernel
theorem dX7_mailAll_142 : decode cX7_mailAll 142 = .ok (.istore_n 3, 1) := by decide +kernel
theorem dX7_mailAll_143 : decode cX7_mailAll 143 = .ok (.iinc 4 1, 3) := by decide +kernel
theorem dX7_mailAll_146 : decode cX7_mailAll 146 = .ok (.goto (-101), 3) := by decide +kernel
theorem dX7_mailAll_149 : decode cX7_mailAll 149 = .ok (.iload_n 3, 1) := by decide +kernel
theorem dX7_mailAll_150 : decode cX7_mailAll 150 = .ok (.ireturn, 1) := by decide +kernel
theorem dX7_forget_0 : decode cX7_forget 0 = .ok (.aload_n 0, 1) := by decide +kernel
theorem dX7_forget_1 : decode cX7_forget 1 = .ok (.iload_n 1, 1) := by decide +kernel
theorem dX7_forget_2 : decode cX7_forget 2 = .ok (.invokestatic 90, 3) := by decide +kernel
theorem dX7_forget_5 : decode cX7_forget 5 = .ok (.ifCond .eq 7, 3) := by decide +kernel
theorem dX7_forget_8 : decode cX7_forget 8 = .ok (.iconst 0, 1) := by decide +kernel
theorem dX7_forget_9 : decode cX7_forget 9 = .ok (.goto 4, 3) := by decide +kernel
theorem dX7_forget_12 : decode cX7_forget 12 = .ok (.iconst 1, 1) := by decide +kernel
theorem dX7_forget_13 : decode cX7_forget 13 = .ok (.invokevirtual 30, 3) := by decide +kernel
theorem dX7_forget_16 : decode cX7_forget 16 = .ok (.ifCond .eq 5, 3) := by decide +kernel
theorem dX7_forget_19 : decode cX7_forget 19 = .ok (.iconst 0, 1) := by decide +kernel
theorem dX7_forget_20 : decode cX7_forget 20 = .ok (.ireturn, 1) := by decide +kernel
theorem dX7_forget_21 : decode cX7_forget 21 = .ok (.aload_n 0, 1) := by decide +kernel
theorem dX7_forget_22 : decode cX7_forget 22 = .ok (.invokevirtual 63, 3) := by decide +kernel
theorem dX7_forget_25 : decode cX7_forget 25 = .ok (.iconst 0, 1) := by decide +kernel
theorem dX7_forget_26 : decode cX7_forget 26 = .ok (.istore_n 2, 1) := by decide +kernel
theorem dX7_forget_27 : decode cX7_forget 27 = .ok (.iconst 0, 1) := by decide +kernel
theorem dX7_forget_28 : decode cX7_forget 28 = .ok (.istore_n 3, 1) := by decide +kernel
theorem dX7_forget_29 : decode cX7_forget 29 = .ok (.iload_n 3, 1) := by decide +kernel
theorem dX7_forget_30 : decode cX7_forget 30 = .ok (.aload_n 0, 1) := by decide +kernel
theorem dX7_forget_31 : decode cX7_forget 31 = .ok (.getfield 7, 3) := by decide +kernel
theorem dX7_forget_34 : decode cX7_forget 34 = .ok (.iconst 0, 1) := by decide +kernel
theorem dX7_forget_35 : decode cX7_forget 35 = .ok (.iaload, 1) := by decide +kernel
theorem dX7_forget_36 : decode cX7_forget 36 = .ok (.if_icmp .ge 29, 3) := by decide +kernel
theorem dX7_forget_39 : decode cX7_forget 39 = .ok (.aload_n 0, 1) := by decide +kernel
theorem dX7_forget_40 : decode cX7_forget 40 = .ok (.iload_n 1, 1) := by decide +kernel
theorem dX7_forget_41 : decode cX7_forget 41 = .ok (.iload_n 3, 1) := by decide +kernel
theorem dX7_forget_42 : decode cX7_forget 42 = .ok (.invokevirtual 46, 3) := by decide +kernel
theorem dX7_forget_45 : decode cX7_forget 45 = .ok (.iconst 1, 1) := by decide +kernel
theorem dX7_forget_46 : decode cX7_forget 46 = .ok (.if_icmp .ne 13, 3) := by decide +kernel
theorem dX7_forget_49 : decode cX7_forget 49 = .ok (.aload_n 0, 1) := by decide +kernel
theorem dX7_forget_50 : decode cX7_forget 50 = .ok (.iload_n 1, 1) := by decide +kernel
theorem dX7_forget_51 : decode cX7_forget 51 = .ok (.iload_n 3, 1) := by decide +kernel
theorem dX7_forget_52 : decode cX7_forget 52 = .ok (.iconst 0, 1) := by decide +kernel
theorem dX7_forget_53 : decode cX7_forget 53 = .ok (.invokevirtual 55, 3) := by decide +kernel
theorem dX7_forget_56 : decode cX7_forget 56 = .ok (.iinc 2 1, 3) := by decide +kernel
theorem dX7_forget_59 : decode cX7_forget 59 = .ok (.iinc 3 1, 3) := by decide +kernel
theorem dX7_forget_62 : decode cX7_forget 62 = .ok (.goto (-33), 3) := by decide +kernel
theorem dX7_forget_65 : decode cX7_forget 65 = .ok (.iload_n 2, 1) := by decide +kernel
theorem dX7_forget_66 : decode cX7_forget 66 = .ok (.ireturn, 1) := by decide +kernel
theorem dX7_catchUp_0 : decode cX7_catchUp 0 = .ok (.aload_n 0, 1) := by decide +kernel
theorem dX7_catchUp_1 : decode cX7_catchUp 1 = .ok (.iload_n 1, 1) := by decide +kernel
theorem dX7_catchUp_2 : decode cX7_catchUp 2 = .ok (.invokestatic 90, 3) := by decide +kernel
theorem dX7_catchUp_5 : decode cX7_catchUp 5 = .ok (.ifCond .eq 7, 3) := by decide +kernel
theorem dX7_catchUp_8 : decode cX7_catchUp 8 = .ok (.iconst 0, 1) := by decide +kernel
theorem dX7_catchUp_9 : decode cX7_catchUp 9 = .ok (.goto 4, 3) := by decide +kernel
theorem dX7_catchUp_12 : decode cX7_catchUp 12 = .ok (.iconst 1, 1) := by decide +kernel
theorem dX7_catchUp_13 : decode cX7_catchUp 13 = .ok (.invokevirtual 30, 3) := by decide +kernel
theorem dX7_catchUp_16 : decode cX7_catchUp 16 = .ok (.ifCond .eq 5, 3) := by decide +kernel
theorem dX7_catchUp_19 : decode cX7_catchUp 19 = .ok (.iconst 0, 1) := by decide +kernel
theorem dX7_catchUp_20 : decode cX7_catchUp 20 = .ok (.ireturn, 1) := by decide +kernel
theorem dX7_catchUp_21 : decode cX7_catchUp 21 = .ok (.aload_n 0, 1) := by decide +kernel
theorem dX7_catchUp_22 : decode cX7_catchUp 22 = .ok (.invokevirtual 63, 3) := by decide +kernel
theorem dX7_catchUp_25 : decode cX7_catchUp 25 = .ok (.aload_n 0, 1) := by decide +kernel
theorem dX7_catchUp_26 : decode cX7_catchUp 26 = .ok (.getfield 7, 3) := by decide +kernel
theorem dX7_catchUp_29 : decode cX7_catchUp 29 = .ok (.bipush 65, 2) := by decide +kernel
theorem dX7_catchUp_31 : decode cX7_catchUp 31 = .ok (.iconst 3, 1) := by decide +kernel
theorem dX7_catchUp_32 : decode cX7_catchUp 32 = .ok (.iload_n 1, 1) := by decide +kernel
theorem dX7_catchUp_33 : decode cX7_catchUp 33 = .ok (.imul, 1) := by decide +kernel
theorem dX7_catchUp_34 : decode cX7_catchUp 34 = .ok (.iadd, 1) := by decide +kernel
theorem dX7_catchUp_35 : decode cX7_catchUp 35 = .ok (.iaload, 1) := by decide +kernel
theorem dX7_catchUp_36 : decode cX7_catchUp 36 = .ok (.istore_n 2, 1) := by decide +kernel
theorem dX7_catchUp_37 : decode cX7_catchUp 37 = .ok (.iconst 0, 1) := by decide +kernel
theorem dX7_catchUp_38 : decode cX7_catchUp 38 = .ok (.istore_n 3, 1) := by decide +kernel
theorem dX7_catchUp_39 : decode cX7_catchUp 39 = .ok (.iload_n 3, 1) := by decide +kernel
theorem dX7_catchUp_40 : decode cX7_catchUp 40 = .ok (.aload_n 0, 1) := by decide +kernel
theorem dX7_catchUp_41 : decode cX7_catchUp 41 = .ok (.getfield 7, 3) := by decide +kernel
theorem dX7_catchUp_44 : decode cX7_catchUp 44 = .ok (.iconst 0, 1) := by decide +kernel
theorem dX7_catchUp_45 : decode cX7_catchUp 45 = .ok (.iaload, 1) := by decide +kernel
theorem dX7_catchUp_46 : decode cX7_catchUp 46 = .ok (.if_icmp .ge 31, 3) := by decide +kernel
theorem dX7_catchUp_49 : decode cX7_catchUp 49 = .ok (.aload_n 0, 1) := by decide +kernel
theorem dX7_catchUp_50 : decode cX7_catchUp 50 = .ok (.iload_n 1, 1) := by decide +kernel
theorem dX7_catchUp_51 : decode cX7_catchUp 51 = .ok (.iload_n 3, 1) := by decide +kernel
theorem dX7_catchUp_52 : decode cX7_catchUp 52 = .ok (.invokevirtual 46, 3) := by decide +kernel
theorem dX7_catchUp_55 : decode cX7_catchUp 55 = .ok (.iconst 2, 1) := by decide +kernel
theorem dX7_catchUp_56 : decode cX7_catchUp 56 = .ok (.if_icmp .ne 7, 3) := by decide +kernel
theorem dX7_catchUp_59 : decode cX7_catchUp 59 = .ok (.iconst 0, 1) := by decide +kernel
theorem dX7_catchUp_60 : decode cX7_catchUp 60 = .ok (.goto 9, 3) := by decide +kernel
theorem dX7_catchUp_63 : decode cX7_catchUp 63 = .ok (.aload_n 0, 1) := by decide +kernel
theorem dX7_catchUp_64 : decode cX7_catchUp 64 = .ok (.iload_n 1, 1) := by decide +kernel
theorem dX7_catchUp_65 : decode cX7_catchUp 65 = .ok (.iload_n 3, 1) := by decide +kernel
theorem dX7_catchUp_66 : decode cX7_catchUp 66 = .ok (.invokevirtual 93, 3) := by decide +kernel
theorem dX7_catchUp_69 : decode cX7_catchUp 69 = .ok (.istore 4, 2) := by decide +kernel
theorem dX7_catchUp_71 : decode cX7_catchUp 71 = .ok (.iinc 3 1, 3) := by decide +kernel
theorem dX7_catchUp_74 : decode cX7_catchUp 74 = .ok (.goto (-35), 3) := by decide +kernel
theorem dX7_catchUp_77 : decode cX7_catchUp 77 = .ok (.aload_n 0, 1) := by decide +kernel
theorem dX7_catchUp_78 : decode cX7_catchUp 78 = .ok (.getfield 7, 3) := by decide +kernel
theorem dX7_catchUp_81 : decode cX7_catchUp 81 = .ok (.bipush 65, 2) := by decide +kernel
theorem dX7_catchUp_83 : decode cX7_catchUp 83 = .ok (.iconst 3, 1) := by decide +kernel
theorem dX7_catchUp_84 : decode cX7_catchUp 84 = .ok (.iload_n 1, 1) := by decide +kernel
theorem dX7_catchUp_85 : decode cX7_catchUp 85 = .ok (.imul, 1) := by decide +kernel
theorem dX7_catchUp_86 : decode cX7_catchUp 86 = .ok (.iadd, 1) := by decide +kernel
theorem dX7_catchUp_87 : decode cX7_catchUp 87 = .ok (.iaload, 1) := by decide +kernel
theorem dX7_catchUp_88 : decode cX7_catchUp 88 = .ok (.iload_n 2, 1) := by decide +kernel
theorem dX7_catchUp_89 : decode cX7_catchUp 89 = .ok (.isub, 1) := by decide +kernel
theorem dX7_catchUp_90 : decode cX7_catchUp 90 = .ok (.ireturn, 1) := by decide +kernel
theorem dX7_append_0 : decode cX7_append 0 = .ok (.aload_n 0, 1) := by decide +kernel
theorem dX7_append_1 : decode cX7_append 1 = .ok (.iload_n 1, 1) := by decide +kernel
theorem dX7_append_2 : decode cX7_append 2 = .ok (.bipush 33, 2) := by decide +kernel
theorem dX7_append_4 : decode cX7_append 4 = .ok (.bipush 126, 2) := by decide +kernel
theorem dX7_append_6 : decode cX7_append 6 = .ok (.invokestatic 34, 3) := by decide +kernel
theorem dX7_append_9 : decode cX7_append 9 = .ok (.ifCond .ne 7, 3) := by decide +kernel
theorem dX7_append_12 : decode cX7_append 12 = .ok (.iconst 1, 1) := by decide +kernel
theorem dX7_append_13 : decode cX7_append 13 = .ok (.goto 17, 3) := by decide +kernel
theorem dX7_append_16 : decode cX7_append 16 = .ok (.aload_n 0, 1) := by decide +kernel
theorem dX7_append_17 : decode cX7_append 17 = .ok (.getfield 96, 3) := by decide +kernel
theorem dX7_append_20 : decode cX7_append 20 = .ok (.bipush 60, 2) := by decide +kernel
theorem dX7_append_22 : decode cX7_append 22 = .ok (.if_icmp .ne 7, 3) := by decide +kernel
theorem dX7_append_25 : decode cX7_append 25 = .ok (.iconst 2, 1) := by decide +kernel
theorem dX7_append_26 : decode cX7_append 26 = .ok (.goto 4, 3) := by decide +kernel
theorem dX7_append_29 : decode cX7_append 29 = .ok (.iconst 0, 1) := by decide +kernel
theorem dX7_append_30 : decode cX7_append 30 = .ok (.invokevirtual 30, 3) := by decide +kernel
theorem dX7_append_33 : decode cX7_append 33 = .ok (.ifCond .eq 5, 3) := by decide +kernel
theorem dX7_append_36 : decode cX7_append 36 = .ok (.iconst 0, 1) := by decide +kernel
theorem dX7_append_37 : decode cX7_append 37 = .ok (.ireturn, 1) := by decide +kernel
theorem dX7_append_38 : decode cX7_append 38 = .ok (.aload_n 0, 1) := by decide +kernel
theorem dX7_append_39 : decode cX7_append 39 = .ok (.getfield 16, 3) := by decide +kernel
theorem dX7_append_42 : decode cX7_append 42 = .ok (.aload_n 0, 1) := by decide +kernel
theorem dX7_append_43 : decode cX7_append 43 = .ok (.getfield 96, 3) := by decide +kernel
theorem dX7_append_46 : decode cX7_append 46 = .ok (.iload_n 1, 1) := by decide +kernel
theorem dX7_append_47 : decode cX7_append 47 = .ok (.i2c, 1) := by decide +kernel
theorem dX7_append_48 : decode cX7_append 48 = .ok (.castore, 1) := by decide +kernel
theorem dX7_append_49 : decode cX7_append 49 = .ok (.aload_n 0, 1) := by decide +kernel
theorem dX7_append_50 : decode cX7_append 50 = .ok (.dup, 1) := by decide +kernel
theorem dX7_append_51 : decode cX7_append 51 = .ok (.getfield 96, 3) := by decide +kernel
theorem dX7_append_54 : decode cX7_append 54 = .ok (.iconst 1, 1) := by decide +kernel
theorem dX7_append_55 : decode cX7_append 55 = .ok (.iadd, 1) := by decide +kernel
theorem dX7_append_56 : decode cX7_append 56 = .ok (.putfield 96, 3) := by decide +kernel
theorem dX7_append_59 : decode cX7_append 59 = .ok (.aload_n 0, 1) := by decide +kernel
theorem dX7_append_60 : decode cX7_append 60 = .ok (.getfield 96, 3) := by decide +kernel
theorem dX7_append_63 : decode cX7_append 63 = .ok (.ireturn, 1) := by decide +kernel
theorem dX7_clearBuffer_0 : decode cX7_clearBuffer 0 = .ok (.aload_n 0, 1) := by decide +kernel
theorem dX7_clearBuffer_1 : decode cX7_clearBuffer 1 = .ok (.iconst 0, 1) := by decide +kernel
theorem dX7_clearBuffer_2 : decode cX7_clearBuffer 2 = .ok (.putfield 23, 3) := by decide +kernel
theorem dX7_clearBuffer_5 : decode cX7_clearBuffer 5 = .ok (.aload_n 0, 1) := by decide +kernel
theorem dX7_clearBuffer_6 : decode cX7_clearBuffer 6 = .ok (.getfield 96, 3) := by decide +kernel
theorem dX7_clearBuffer_9 : decode cX7_clearBuffer 9 = .ok (.istore_n 1, 1) := by decide +kernel
theorem dX7_clearBuffer_10 : decode cX7_clearBuffer 10 = .ok (.aload_n 0, 1) := by decide +kernel
theorem dX7_clearBuffer_11 : decode cX7_clearBuffer 11 = .ok (.iconst 0, 1) := by decide +kernel
theorem dX7_clearBuffer_12 : decode cX7_clearBuffer 12 = .ok (.putfield 96, 3) := by decide +kernel
theorem dX7_clearBuffer_15 : decode cX7_clearBuffer 15 = .ok (.iload_n 1, 1) := by decide +kernel
theorem dX7_clearBuffer_16 : decode cX7_clearBuffer 16 = .ok (.ireturn, 1) := by decide +kernel
theorem dX7_sees_0 : decode cX7_sees 0 = .ok (.aload_n 0, 1) := by decide +kernel
theorem dX7_sees_1 : decode cX7_sees 1 = .ok (.getfield 99, 3) := by decide +kernel
theorem dX7_sees_4 : decode cX7_sees 4 = .ok (.aload_n 0, 1) := by decide +kernel
theorem dX7_sees_5 : decode cX7_sees 5 = .ok (.getfield 96, 3) := by decide +kernel
theorem dX7_sees_8 : decode cX7_sees 8 = .ok (.if_icmp .ge 24, 3) := by decide +kernel
theorem dX7_sees_11 : decode cX7_sees 11 = .ok (.aload_n 0, 1) := by decide +kernel
theorem dX7_sees_12 : decode cX7_sees 12 = .ok (.getfield 16, 3) := by decide +kernel
theorem dX7_sees_15 : decode cX7_sees 15 = .ok (.aload_n 0, 1) := by decide +kernel
theorem dX7_sees_16 : decode cX7_sees 16 = .ok (.getfield 99, 3) := by decide +kernel
theorem dX7_sees_19 : decode cX7_sees 19 = .ok (.caload, 1) := by decide +kernel
theorem dX7_sees_20 : decode cX7_sees 20 = .ok (.iload_n 1, 1) := by decide +kernel
theorem dX7_sees_21 : decode cX7_sees 21 = .ok (.iload_n 2, 1) := by decide +kernel
theorem dX7_sees_22 : decode cX7_sees 22 = .ok (.invokestatic 34, 3) := by decide +kernel
theorem dX7_sees_25 : decode cX7_sees 25 = .ok (.ifCond .eq 7, 3) := by decide +kernel
theorem dX7_sees_28 : decode cX7_sees 28 = .ok (.iconst 1, 1) := by decide +kernel
theorem dX7_sees_29 : decode cX7_sees 29 = .ok (.goto 4, 3) := by decide +kernel
theorem dX7_sees_32 : decode cX7_sees 32 = .ok (.iconst 0, 1) := by decide +kernel
theorem dX7_sees_33 : decode cX7_sees 33 = .ok (.ireturn, 1) := by decide +kernel
theorem dX7_takes_0 : decode cX7_takes 0 = .ok (.aload_n 0, 1) := by decide +kernel
theorem dX7_takes_1 : decode cX7_takes 1 = .ok (.iload_n 1, 1) := by decide +kernel
theorem dX7_takes_2 : decode cX7_takes 2 = .ok (.iload_n 1, 1) := by decide +kernel
theorem dX7_takes_3 : decode cX7_takes 3 = .ok (.invokevirtual 102, 3) := by decide +kernel
theorem dX7_takes_6 : decode cX7_takes 6 = .ok (.istore_n 2, 1) := by decide +kernel
theorem dX7_takes_7 : decode cX7_takes 7 = .ok (.aload_n 0, 1) := by decide +kernel
theorem dX7_takes_8 : decode cX7_takes 8 = .ok (.dup, 1) := by decide +kernel
theorem dX7_takes_9 : decode cX7_takes 9 = .ok (.getfield 99, 3) := by decide +kernel
theorem dX7_takes_12 : decode cX7_takes 12 = .ok (.iload_n 2, 1) := by decide +kernel
theorem dX7_takes_13 : decode cX7_takes 13 = .ok (.ifCond .eq 7, 3) := by decide +kernel
theorem dX7_takes_16 : decode cX7_takes 16 = .ok (.iconst 1, 1) := by decide +kernel
theorem dX7_takes_17 : decode cX7_takes 17 = .ok (.goto 4, 3) := by decide +kernel
theorem dX7_takes_20 : decode cX7_takes 20 = .ok (.iconst 0, 1) := by decide +kernel
theorem dX7_takes_21 : decode cX7_takes 21 = .ok (.iadd, 1) := by decide +kernel
theorem dX7_takes_22 : decode cX7_takes 22 = .ok (.putfield 99, 3) := by decide +kernel
theorem dX7_takes_25 : decode cX7_takes 25 = .ok (.iload_n 2, 1) := by decide +kernel
theorem dX7_takes_26 : decode cX7_takes 26 = .ok (.ireturn, 1) := by decide +kernel
theorem dX7_readsPlots_0 : decode cX7_readsPlots 0 = .ok (.iconst 0, 1) := by decide +kernel
theorem dX7_readsPlots_1 : decode cX7_readsPlots 1 = .ok (.istore_n 1, 1) := by decide +kernel
theorem dX7_readsPlots_2 : decode cX7_readsPlots 2 = .ok (.iconst 0, 1) := by decide +kernel
theorem dX7_readsPlots_3 : decode cX7_readsPlots 3 = .ok (.istore_n 2, 1) := by decide +kernel
theorem dX7_readsPlots_4 : decode cX7_readsPlots 4 = .ok (.aload_n 0, 1) := by decide +kernel
theorem dX7_readsPlots_5 : decode cX7_readsPlots 5 = .ok (.bipush 48, 2) := by decide +kernel
theorem dX7_readsPlots_7 : decode cX7_readsPlots 7 = .ok (.iload_n 2, 1) := by decide +kernel
theorem dX7_readsPlots_8 : decode cX7_readsPlots 8 = .ok (.iadd, 1) := by decide +kernel
theorem dX7_readsPlots_9 : decode cX7_readsPlots 9 = .ok (.bipush 53, 2) := by decide +kernel
theorem dX7_readsPlots_11 : decode cX7_readsPlots 11 = .ok (.invokevirtual 102, 3) := by decide +kernel
theorem dX7_readsPlots_14 : decode cX7_readsPlots 14 = .ok (.ifCond .eq 39, 3) := by decide +kernel
theorem dX7_readsPlots_17 : decode cX7_readsPlots 17 = .ok (.aload_n 0, 1) := by decide +kernel
theorem dX7_readsPlots_18 : decode cX7_readsPlots 18 = .ok (.getfield 16, 3) := by decide +kernel
theorem dX7_readsPlots_21 : decode cX7_readsPlots 21 = .ok (.aload_n 0, 1) := by decide +kernel
theorem dX7_readsPlots_22 : decode cX7_readsPlots 22 = .ok (.getfield 99, 3) := by decide +kernel
theorem dX7_readsPlots_25 : decode cX7_readsPlots 25 = .ok (.caload, 1) := by decide +kernel
theorem dX7_readsPlots_26 : decode cX7_readsPlots 26 = .ok (.bipush 48, 2) := by decide +kernel
theorem dX7_readsPlots_28 : decode cX7_readsPlots 28 = .ok (.isub, 1) := by decide +kernel
theorem dX7_readsPlots_29 : decode cX7_readsPlots 29 = .ok (.iconst 1, 1) := by decide +kernel
theorem dX7_readsPlots_30 : decode cX7_readsPlots 30 = .ok (.iadd, 1) := by decide +kernel
theorem dX7_readsPlots_31 : decode cX7_readsPlots 31 = .ok (.istore_n 2, 1) := by decide +kernel
theorem dX7_readsPlots_32 : decode cX7_readsPlots 32 = .ok (.iload_n 1, 1) := by decide +kernel
theorem dX7_readsPlots_33 : decode cX7_readsPlots 33 = .ok (.iconst 1, 1) := by decide +kernel
theorem dX7_readsPlots_34 : decode cX7_readsPlots 34 = .ok (.iload_n 2, 1) := by decide +kernel
theorem dX7_readsPlots_35 : decode cX7_readsPlots 35 = .ok (.iconst 1, 1) := by decide +kernel
theorem dX7_readsPlots_36 : decode cX7_readsPlots 36 = .ok (.isub, 1) := by decide +kernel
theorem dX7_readsPlots_37 : decode cX7_readsPlots 37 = .ok (.ishl, 1) := by decide +kernel
theorem dX7_readsPlots_38 : decode cX7_readsPlots 38 = .ok (.ior, 1) := by decide +kernel
theorem dX7_readsPlots_39 : decode cX7_readsPlots 39 = .ok (.istore_n 1, 1) := by decide +kernel
theorem dX7_readsPlots_40 : decode cX7_readsPlots 40 = .ok (.aload_n 0, 1) := by decide +kernel
theorem dX7_readsPlots_41 : decode cX7_readsPlots 41 = .ok (.dup, 1) := by decide +kernel
theorem dX7_readsPlots_42 : decode cX7_readsPlots 42 = .ok (.getfield 99, 3) := by decide +kernel
theorem dX7_readsPlots_45 : decode cX7_readsPlots 45 = .ok (.iconst 1, 1) := by decide +kernel
theorem dX7_readsPlots_46 : decode cX7_readsPlots 46 = .ok (.iadd, 1) := by decide +kernel
theorem dX7_readsPlots_47 : decode cX7_readsPlots 47 = .ok (.putfield 99, 3) := by decide +kernel
theorem dX7_readsPlots_50 : decode cX7_readsPlots 50 = .ok (.goto (-46), 3) := by decide +kernel
theorem dX7_readsPlots_53 : decode cX7_readsPlots 53 = .ok (.iload_n 1, 1) := by decide +kernel
theorem dX7_readsPlots_54 : decode cX7_readsPlots 54 = .ok (.ireturn, 1) := by decide +kernel
theorem dX7_readsCliff_0 : decode cX7_readsCliff 0 = .ok (.aload_n 0, 1) := by decide +kernel
theorem dX7_readsCliff_1 : decode cX7_readsCliff 1 = .ok (.bipush 48, 2) := by decide +kernel
theorem dX7_readsCliff_3 : decode cX7_readsCliff 3 = .ok (.bipush 53, 2) := by decide +kernel
theorem dX7_readsCliff_5 : decode cX7_readsCliff 5 = .ok (.invokevirtual 102, 3) := by decide +kernel
theorem dX7_readsCliff_8 : decode cX7_readsCliff 8 = .ok (.ifCond .eq 27, 3) := by decide +kernel
theorem dX7_readsCliff_11 : decode cX7_readsCliff 11 = .ok (.iload_n 1, 1) := by decide +kernel
theorem dX7_readsCliff_12 : decode cX7_readsCliff 12 = .ok (.aload_n 0, 1) := by decide +kernel
theorem dX7_readsCliff_13 : decode cX7_readsCliff 13 = .ok (.getfield 16, 3) := by decide +kernel
theorem dX7_readsCliff_16 : decode cX7_readsCliff 16 = .ok (.aload_n 0, 1) := by decide +kernel
theorem dX7_readsCliff_17 : decode cX7_readsCliff 17 = .ok (.getfield 99, 3) := by decide +kernel
theorem dX7_readsCliff_20 : decode cX7_readsCliff 20 = .ok (.caload, 1) := by decide +kernel
theorem dX7_readsCliff_21 : decode cX7_readsCliff 21 = .ok (.bipush 48, 2) := by decide +kernel
theorem dX7_readsCliff_23 : decode cX7_readsCliff 23 = .ok (.isub, 1) := by decide +kernel
theorem dX7_readsCliff_24 : decode cX7_readsCliff 24 = .ok (.ishr, 1) := by decide +kernel
theorem dX7_readsCliff_25 : decode cX7_readsCliff 25 = .ok (.iconst 1, 1) := by decide +kernel
theorem dX7_readsCliff_26 : decode cX7_readsCliff 26 = .ok (.iand, 1) := by decide +kernel
theorem dX7_readsCliff_27 : decode cX7_readsCliff 27 = .ok (.iconst 1, 1) := by decide +kernel
theorem dX7_readsCliff_28 : decode cX7_readsCliff 28 = .ok (.if_icmp .ne 7, 3) := by decide +kernel
theorem dX7_readsCliff_31 : decode cX7_readsCliff 31 = .ok (.iconst 1, 1) := by decide +kernel
theorem dX7_readsCliff_32 : decode cX7_readsCliff 32 = .ok (.goto 4, 3) := by decide +kernel
theorem dX7_readsCliff_35 : decode cX7_readsCliff 35 = .ok (.iconst 0, 1) := by decide +kernel
theorem dX7_readsCliff_36 : decode cX7_readsCliff 36 = .ok (.istore_n 2, 1) := by decide +kernel
theorem dX7_readsCliff_37 : decode cX7_readsCliff 37 = .ok (.aload_n 0, 1) := by decide +kernel
theorem dX7_readsCliff_38 : decode cX7_readsCliff 38 = .ok (.dup, 1) := by decide +kernel
theorem dX7_readsCliff_39 : decode cX7_readsCliff 39 = .ok (.getfield 99, 3) := by decide +kernel
theorem dX7_readsCliff_42 : decode cX7_readsCliff 42 = .ok (.iload_n 2, 1) := by decide +kernel
theorem dX7_readsCliff_43 : decode cX7_readsCliff 43 = .ok (.ifCond .eq 7, 3) := by decide +kernel
theorem dX7_readsCliff_46 : decode cX7_readsCliff 46 = .ok (.iconst 1, 1) := by decide +kernel
theorem dX7_readsCliff_47 : decode cX7_readsCliff 47 = .ok (.goto 4, 3) := by decide +kernel
theorem dX7_readsCliff_50 : decode cX7_readsCliff 50 = .ok (.iconst 0, 1) := by decide +kernel
theorem dX7_readsCliff_51 : decode cX7_readsCliff 51 = .ok (.iadd, 1) := by decide +kernel
theorem dX7_readsCliff_52 : decode cX7_readsCliff 52 = .ok (.putfield 99, 3) := by decide +kernel
theorem dX7_readsCliff_55 : decode cX7_readsCliff 55 = .ok (.iload_n 2, 1) := by decide +kernel
theorem dX7_readsCliff_56 : decode cX7_readsCliff 56 = .ok (.ifCond .eq 20, 3) := by decide +kernel
theorem dX7_readsCliff_59 : decode cX7_readsCliff 59 = .ok (.aload_n 0, 1) := by decide +kernel
theorem dX7_readsCliff_60 : decode cX7_readsCliff 60 = .ok (.getfield 16, 3) := by decide +kernel
theorem dX7_readsCliff_63 : decode cX7_readsCliff 63 = .ok (.aload_n 0, 1) := by decide +kernel
theorem dX7_readsCliff_64 : decode cX7_readsCliff 64 = .ok (.getfield 99, 3) := by decide +kernel
theorem dX7_readsCliff_67 : decode cX7_readsCliff 67 = .ok (.iconst 1, 1) := by decide +kernel
theorem dX7_readsCliff_68 : decode cX7_readsCliff 68 = .ok (.isub, 1) := by decide +kernel
theorem dX7_readsCliff_69 : decode cX7_readsCliff 69 = .ok (.caload, 1) := by decide +kernel
theorem dX7_readsCliff_70 : decode cX7_readsCliff 70 = .ok (.bipush 48, 2) := by decide +kernel
theorem dX7_readsCliff_72 : decode cX7_readsCliff 72 = .ok (.isub, 1) := by decide +kernel
theorem dX7_readsCliff_73 : decode cX7_readsCliff 73 = .ok (.goto 5, 3) := by decide +kernel
theorem dX7_readsCliff_76 : decode cX7_readsCliff 76 = .ok (.bipush (-2), 2) := by decide +kernel
theorem dX7_readsCliff_78 : decode cX7_readsCliff 78 = .ok (.ireturn, 1) := by decide +kernel
theorem dX7_readsWords_0 : decode cX7_readsWords 0 = .ok (.aload_n 0, 1) := by decide +kernel
theorem dX7_readsWords_1 : decode cX7_readsWords 1 = .ok (.bipush 49, 2) := by decide +kernel
theorem dX7_readsWords_3 : decode cX7_readsWords 3 = .ok (.bipush 57, 2) := by decide +kernel
theorem dX7_readsWords_5 : decode cX7_readsWords 5 = .ok (.invokevirtual 102, 3) := by decide +kernel
theorem dX7_readsWords_8 : decode cX7_readsWords 8 = .ok (.ifCond .ne 6, 3) := by decide +kernel
theorem dX7_readsWords_11 : decode cX7_readsWords 11 = .ok (.bipush (-2), 2) := by decide +kernel
theorem dX7_readsWords_13 : decode cX7_readsWords 13 = .ok (.ireturn, 1) := by decide +kernel
theorem dX7_readsWords_14 : decode cX7_readsWords 14 = .ok (.aload_n 0, 1) := by decide +kernel
theorem dX7_readsWords_15 : decode cX7_readsWords 15 = .ok (.getfield 16, 3) := by decide +kernel
theorem dX7_readsWords_18 : decode cX7_readsWords 18 = .ok (.aload_n 0, 1) := by decide +kernel
theorem dX7_readsWords_19 : decode cX7_readsWords 19 = .ok (.getfield 99, 3) := by decide +kernel
theorem dX7_readsWords_22 : decode cX7_readsWords 22 = .ok (.caload, 1) := by decide +kernel
theorem dX7_readsWords_23 : decode cX7_readsWords 23 = .ok (.bipush 48, 2) := by decide +kernel
theorem dX7_readsWords_25 : decode cX7_readsWords 25 = .ok (.isub, 1) := by decide +kernel
theorem dX7_readsWords_26 : decode cX7_readsWords 26 = .ok (.istore_n 1, 1) := by decide +kernel
theorem dX7_readsWords_27 : decode cX7_readsWords 27 = .ok (.aload_n 0, 1) := by decide +kernel
theorem dX7_readsWords_28 : decode cX7_readsWords 28 = .ok (.dup, 1) := by decide +kernel
theorem dX7_readsWords_29 : decode cX7_readsWords 29 = .ok (.getfield 99, 3) := by decide +kernel
theorem dX7_readsWords_32 : decode cX7_readsWords 32 = .ok (.iconst 1, 1) := by decide +kernel
theorem dX7_readsWords_33 : decode cX7_readsWords 33 = .ok (.iadd, 1) := by decide +kernel
theorem dX7_readsWords_34 : decode cX7_readsWords 34 = .ok (.putfield 99, 3) := by decide +kernel
theorem dX7_readsWords_37 : decode cX7_readsWords 37 = .ok (.aload_n 0, 1) := by decide +kernel
theorem dX7_readsWords_38 : decode cX7_readsWords 38 = .ok (.bipush 48, 2) := by decide +kernel
theorem dX7_readsWords_40 : decode cX7_readsWords 40 = .ok (.bipush 57, 2) := by decide +kernel
theorem dX7_readsWords_42 : decode cX7_readsWords 42 = .ok (.invokevirtual 102, 3) := by decide +kernel
theorem dX7_readsWords_45 : decode cX7_readsWords 45 = .ok (.ifCond .eq 31, 3) := by decide +kernel
theorem dX7_readsWords_48 : decode cX7_readsWords 48 = .ok (.bipush 10, 2) := by decide +kernel
theorem dX7_readsWords_50 : decode cX7_readsWords 50 = .ok (.iload_n 1, 1) := by decide +kernel
theorem dX7_readsWords_51 : decode cX7_readsWords 51 = .ok (.imul, 1) := by decide +kernel
theorem dX7_readsWords_52 : decode cX7_readsWords 52 = .ok (.aload_n 0, 1) := by decide +kernel
theorem dX7_readsWords_53 : decode cX7_readsWords 53 = .ok (.getfield 16, 3) := by decide +kernel
theorem dX7_readsWords_56 : decode cX7_readsWords 56 = .ok (.aload_n 0, 1) := by decide +kernel
theorem dX7_readsWords_57 : decode cX7_readsWords 57 = .ok (.getfield 99, 3) := by decide +kernel
theorem dX7_readsWords_60 : decode cX7_readsWords 60 = .ok (.caload, 1) := by decide +kernel
theorem dX7_readsWords_61 : decode cX7_readsWords 61 = .ok (.iadd, 1) := by decide +kernel
theorem dX7_readsWords_62 : decode cX7_readsWords 62 = .ok (.bipush 48, 2) := by decide +kernel
theorem dX7_readsWords_64 : decode cX7_readsWords 64 = .ok (.isub, 1) := by decide +kernel
theorem dX7_readsWords_65 : decode cX7_readsWords 65 = .ok (.istore_n 1, 1) := by decide +kernel
theorem dX7_readsWords_66 : decode cX7_readsWords 66 = .ok (.aload_n 0, 1) := by decide +kernel
theorem dX7_readsWords_67 : decode cX7_readsWords 67 = .ok (.dup, 1) := by decide +kernel
theorem dX7_readsWords_68 : decode cX7_readsWords 68 = .ok (.getfield 99, 3) := by decide +kernel
theorem dX7_readsWords_71 : decode cX7_readsWords 71 = .ok (.iconst 1, 1) := by decide +kernel
theorem dX7_readsWords_72 : decode cX7_readsWords 72 = .ok (.iadd, 1) := by decide +kernel
theorem dX7_readsWords_73 : decode cX7_readsWords 73 = .ok (.putfield 99, 3) := by decide +kernel
theorem dX7_readsWords_76 : decode cX7_readsWords 76 = .ok (.iload_n 1, 1) := by decide +kernel
theorem dX7_readsWords_77 : decode cX7_readsWords 77 = .ok (.ireturn, 1) := by decide +kernel
theorem dX7_readsPart_0 : decode cX7_readsPart 0 = .ok (.aload_n 0, 1) := by decide +kernel
theorem dX7_readsPart_1 : decode cX7_readsPart 1 = .ok (.invokevirtual 105, 3) := by decide +kernel
theorem dX7_readsPart_4 : decode cX7_readsPart 4 = .ok (.istore_n 1, 1) := by decide +kernel
theorem dX7_readsPart_5 : decode cX7_readsPart 5 = .ok (.iload_n 1, 1) := by decide +kernel
theorem dX7_readsPart_6 : decode cX7_readsPart 6 = .ok (.ifCond .le 20, 3) := by decide +kernel
theorem dX7_readsPart_9 : decode cX7_readsPart 9 = .ok (.aload_n 0, 1) := by decide +kernel
theorem dX7_readsPart_10 : decode cX7_readsPart 10 = .ok (.bipush 33, 2) := by decide +kernel
theorem dX7_readsPart_12 : decode cX7_readsPart 12 = .ok (.invokevirtual 109, 3) := by decide +kernel
theorem dX7_readsPart_15 : decode cX7_readsPart 15 = .ok (.ifCond .eq 11, 3) := by decide +kernel
theorem dX7_readsPart_18 : decode cX7_readsPart 18 = .ok (.aload_n 0, 1) := by decide +kernel
theorem dX7_readsPart_19 : decode cX7_readsPart 19 = .ok (.iload_n 1, 1) := by decide +kernel
theorem dX7_readsPart_20 : decode cX7_readsPart 20 = .ok (.invokevirtual 113, 3) := by decide +kernel
theorem dX7_readsPart_23 : decode cX7_readsPart 23 = .ok (.goto 4, 3) := by decide +kernel
theorem dX7_readsPart_26 : decode cX7_readsPart 26 = .ok (.iconst (-1), 1) := by decide +kernel
theorem dX7_readsPart_27 : decode cX7_readsPart 27 = .ok (.istore_n 2, 1) := by decide +kernel
theorem dX7_readsPart_28 : decode cX7_readsPart 28 = .ok (.iload_n 1, 1) := by decide +kernel
theorem dX7_readsPart_29 : decode cX7_readsPart 29 = .ok (.ifCond .le 25, 3) := by decide +kernel
theorem dX7_readsPart_32 : decode cX7_readsPart 32 = .ok (.iload_n 2, 1) := by decide +kernel
theorem dX7_readsPart_33 : decode cX7_readsPart 33 = .ok (.bipush (-2), 2) := by decide +kernel
theorem dX7_readsPart_35 : decode cX7_readsPart 35 = .ok (.if_icmp .le 19, 3) := by decide +kernel
theorem dX7_readsPart_38 : decode cX7_readsPart 38 = .ok (.aload_n 0, 1) := by decide +kernel
theorem dX7_readsPart_39 : decode cX7_readsPart 39 = .ok (.bipush 119, 2) := by decide +kernel
theorem dX7_readsPart_41 : decode cX7_readsPart 41 = .ok (.invokevirtual 109, 3) := by decide +kernel
theorem dX7_readsPart_44 : decode cX7_readsPart 44 = .ok (.ifCond .eq 10, 3) := by decide +kernel
theorem dX7_readsPart_47 : decode cX7_readsPart 47 = .ok (.aload_n 0, 1) := by decide +kernel
theorem dX7_readsPart_48 : decode cX7_readsPart 48 = .ok (.invokevirtual 116, 3) := by decide +kernel
theorem dX7_readsPart_51 : decode cX7_readsPart 51 = .ok (.goto 5, 3) := by decide +kernel
theorem dX7_readsPart_54 : decode cX7_readsPart 54 = .ok (.bipush 10, 2) := by decide +kernel
theorem dX7_readsPart_56 : decode cX7_readsPart 56 = .ok (.istore_n 3, 1) := by decide +kernel
theorem dX7_readsPart_57 : decode cX7_readsPart 57 = .ok (.iload_n 1, 1) := by decide +kernel
theorem dX7_readsPart_58 : decode cX7_readsPart 58 = .ok (.ifCond .le 17, 3) := by decide +kernel
theorem dX7_readsPart_61 : decode cX7_readsPart 61 = .ok (.iload_n 2, 1) := by decide +kernel
theorem dX7_readsPart_62 : decode cX7_readsPart 62 = .ok (.bipush (-2), 2) := by decide +kernel
theorem dX7_readsPart_64 : decode cX7_readsPart 64 = .ok (.if_icmp .le 11, 3) := by decide +kernel
theorem dX7_readsPart_67 : decode cX7_readsPart 67 = .ok (.iload_n 3, 1) := by decide +kernel
theorem dX7_readsPart_68 : decode cX7_readsPart 68 = .ok (.ifCond .le 7, 3) := by decide +kernel
theorem dX7_readsPart_71 : decode cX7_readsPart 71 = .ok (.iconst 1, 1) := by decide +kernel
theorem dX7_readsPart_72 : decode cX7_readsPart 72 = .ok (.goto 4, 3) := by decide +kernel
theorem dX7_readsPart_75 : decode cX7_readsPart 75 = .ok (.iconst 0, 1) := by decide +kernel
theorem dX7_readsPart_76 : decode cX7_readsPart 76 = .ok (.istore 4, 2) := by decide +kernel
theorem dX7_readsPart_78 : decode cX7_readsPart 78 = .ok (.iload 4, 2) := by decide +kernel
theorem dX7_readsPart_80 : decode cX7_readsPart 80 = .ok (.ifCond .eq 53, 3) := by decide +kernel
theorem dX7_readsPart_83 : decode cX7_readsPart 83 = .ok (.aload_n 0, 1) := by decide +kernel
theorem dX7_readsPart_84 : decode cX7_readsPart 84 = .ok (.getfield 20, 3) := by decide +kernel
theorem dX7_readsPart_87 : decode cX7_readsPart 87 = .ok (.iconst 3, 1) := by decide +kernel
theorem dX7_readsPart_88 : decode cX7_readsPart 88 = .ok (.aload_n 0, 1) := by decide +kernel
theorem dX7_readsPart_89 : decode cX7_readsPart 89 = .ok (.getfield 119, 3) := by decide +kernel
theorem dX7_readsPart_92 : decode cX7_readsPart 92 = .ok (.imul, 1) := by decide +kernel
theorem dX7_readsPart_93 : decode cX7_readsPart 93 = .ok (.iload_n 1, 1) := by decide +kernel
theorem dX7_readsPart_94 : decode cX7_readsPart 94 = .ok (.iastore, 1) := by decide +kernel
theorem dX7_readsPart_95 : decode cX7_readsPart 95 = .ok (.aload_n 0, 1) := by decide +kernel
theorem dX7_readsPart_96 : decode cX7_readsPart 96 = .ok (.getfield 20, 3) := by decide +kernel
theorem dX7_readsPart_99 : decode cX7_readsPart 99 = .ok (.iconst 3, 1) := by decide +kernel
theorem dX7_readsPart_100 : decode cX7_readsPart 100 = .ok (.aload_n 0, 1) := by decide +kernel
theorem dX7_readsPart_101 : decode cX7_readsPart 101 = .ok (.getfield 119, 3) := by decide +kernel
theorem dX7_readsPart_104 : decode cX7_readsPart 104 = .ok (.imul, 1) := by decide +kernel
theorem dX7_readsPart_105 : decode cX7_readsPart 105 = .ok (.iconst 1, 1) := by decide +kernel
theorem dX7_readsPart_106 : decode cX7_readsPart 106 = .ok (.iadd, 1) := by decide +kernel
theorem dX7_readsPart_107 : decode cX7_readsPart 107 = .ok (.iload_n 2, 1) := by decide +kernel
theorem dX7_readsPart_108 : decode cX7_readsPart 108 = .ok (.iastore, 1) := by decide +kernel
theorem dX7_readsPart_109 : decode cX7_readsPart 109 = .ok (.aload_n 0, 1) := by decide +kernel
theorem dX7_readsPart_110 : decode cX7_readsPart 110 = .ok (.getfield 20, 3) := by decide +kernel
theorem dX7_readsPart_113 : decode cX7_readsPart 113 = .ok (.iconst 3, 1) := by decide +kernel
theorem dX7_readsPart_114 : decode cX7_readsPart 114 = .ok (.aload_n 0, 1) := by decide +kernel
theorem dX7_readsPart_115 : decode cX7_readsPart 115 = .ok (.getfield 119, 3) := by decide +kernel
theorem dX7_readsPart_118 : decode cX7_readsPart 118 = .ok (.imul, 1) := by decide +kernel
theorem dX7_readsPart_119 : decode cX7_readsPart 119 = .ok (.iconst 2, 1) := by decide +kernel
theorem dX7_readsPart_120 : decode cX7_readsPart 120 = .ok (.iadd, 1) := by decide +kernel
theorem dX7_readsPart_121 : decode cX7_readsPart 121 = .ok (.iload_n 3, 1) := by decide +kernel
theorem dX7_readsPart_122 : decode cX7_readsPart 122 = .ok (.iastore, 1) := by decide +kernel
theorem dX7_readsPart_123 : decode cX7_readsPart 123 = .ok (.aload_n 0, 1) := by decide +kernel
theorem dX7_readsPart_124 : decode cX7_readsPart 124 = .ok (.dup, 1) := by decide +kernel
theorem dX7_readsPart_125 : decode cX7_readsPart 125 = .ok (.getfield 119, 3) := by decide +kernel
theorem dX7_readsPart_128 : decode cX7_readsPart 128 = .ok (.iconst 1, 1) := by decide +kernel
theorem dX7_readsPart_129 : decode cX7_readsPart 129 = .ok (.iadd, 1) := by decide +kernel
theorem dX7_readsPart_130 : decode cX7_readsPart 130 = .ok (.putfield 119, 3) := by decide +kernel
theorem dX7_readsPart_133 : decode cX7_readsPart 133 = .ok (.iload 4, 2) := by decide +kernel
theorem dX7_readsPart_135 : decode cX7_readsPart 135 = .ok (.ireturn, 1) := by decide +kernel
theorem dX7_isText_0 : decode cX7_isText 0 = .ok (.aload_n 0, 1) := by decide +kernel
theorem dX7_isText_1 : decode cX7_isText 1 = .ok (.iconst 0, 1) := by decide +kernel
theorem dX7_isText_2 : decode cX7_isText 2 = .ok (.putfield 99, 3) := by decide +kernel
theorem dX7_isText_5 : decode cX7_isText 5 = .ok (.aload_n 0, 1) := by decide +kernel
theorem dX7_isText_6 : decode cX7_isText 6 = .ok (.iconst 0, 1) := by decide +kernel
theorem dX7_isText_7 : decode cX7_isText 7 = .ok (.putfield 119, 3) := by decide +kernel
theorem dX7_isText_10 : decode cX7_isText 10 = .ok (.iconst 1, 1) := by decide +kernel
theorem dX7_isText_11 : decode cX7_isText 11 = .ok (.istore_n 1, 1) := by decide +kernel
theorem dX7_isText_12 : decode cX7_isText 12 = .ok (.iload_n 1, 1) := by decide +kernel
theorem dX7_isText_13 : decode cX7_isText 13 = .ok (.ifCond .eq 22, 3) := by decide +kernel
theorem dX7_isText_16 : decode cX7_isText 16 = .ok (.aload_n 0, 1) := by decide +kernel
theorem dX7_isText_17 : decode cX7_isText 17 = .ok (.invokevirtual 122, 3) := by decide +kernel
theorem dX7_isText_20 : decode cX7_isText 20 = .ok (.ifCond .ne 5, 3) := by decide +kernel
theorem dX7_isText_23 : decode cX7_isText 23 = .ok (.iconst 0, 1) := by decide +kernel
theorem dX7_isText_24 : decode cX7_isText 24 = .ok (.ireturn, 1) := by decide +kernel
theorem dX7_isText_25 : decode cX7_isText 25 = .ok (.aload_n 0, 1) := by decide +kernel
theorem dX7_isText_26 : decode cX7_isText 26 = .ok (.bipush 59, 2) := by decide +kernel
theorem dX7_isText_28 : decode cX7_isText 28 = .ok (.invokevirtual 109, 3) := by decide +kernel
theorem dX7_isText_31 : decode cX7_isText 31 = .ok (.istore_n 1, 1) := by decide +kernel
theorem dX7_isText_32 : decode cX7_isText 32 = .ok (.goto (-20), 3) := by decide +kernel
theorem dX7_isText_35 : decode cX7_isText 35 = .ok (.aload_n 0, 1) := by decide +kernel
theorem dX7_isText_36 : decode cX7_isText 36 = .ok (.getfield 99, 3) := by decide +kernel
theorem dX7_isText_39 : decode cX7_isText 39 = .ok (.aload_n 0, 1) := by decide +kernel
theorem dX7_isText_40 : decode cX7_isText 40 = .ok (.getfield 96, 3) := by decide +kernel
theorem dX7_isText_43 : decode cX7_isText 43 = .ok (.if_icmp .ne 7, 3) := by decide +kernel
theorem dX7_isText_46 : decode cX7_isText 46 = .ok (.iconst 1, 1) := by decide +kernel
theorem dX7_isText_47 : decode cX7_isText 47 = .ok (.goto 4, 3) := by decide +kernel
theorem dX7_isText_50 : decode cX7_isText 50 = .ok (.iconst 0, 1) := by decide +kernel
theorem dX7_isText_51 : decode cX7_isText 51 = .ok (.ireturn, 1) := by decide +kernel
theorem dX7_firstError_0 : decode cX7_firstError 0 = .ok (.aload_n 0, 1) := by decide +kernel
theorem dX7_firstError_1 : decode cX7_firstError 1 = .ok (.iconst 0, 1) := by decide +kernel
theorem dX7_firstError_2 : decode cX7_firstError 2 = .ok (.putfield 23, 3) := by decide +kernel
theorem dX7_firstError_5 : decode cX7_firstError 5 = .ok (.aload_n 0, 1) := by decide +kernel
theorem dX7_firstError_6 : decode cX7_firstError 6 = .ok (.invokevirtual 126, 3) := by decide +kernel
theorem dX7_firstError_9 : decode cX7_firstError 9 = .ok (.istore_n 1, 1) := by decide +kernel
theorem dX7_firstError_10 : decode cX7_firstError 10 = .ok (.iload_n 1, 1) := by decide +kernel
theorem dX7_firstError_11 : decode cX7_firstError 11 = .ok (.ifCond .eq 10, 3) := by decide +kernel
theorem dX7_firstError_14 : decode cX7_firstError 14 = .ok (.aload_n 0, 1) := by decide +kernel
theorem dX7_firstError_15 : decode cX7_firstError 15 = .ok (.getfield 96, 3) := by decide +kernel
theorem dX7_firstError_18 : decode cX7_firstError 18 = .ok (.goto 7, 3) := by decide +kernel
theorem dX7_firstError_21 : decode cX7_firstError 21 = .ok (.aload_n 0, 1) := by decide +kernel
theorem dX7_firstError_22 : decode cX7_firstError 22 = .ok (.getfield 99, 3) := by decide +kernel
theorem dX7_firstError_25 : decode cX7_firstError 25 = .ok (.ireturn, 1) := by decide +kernel
theorem dX7_addAll_0 : decode cX7_addAll 0 = .ok (.aload_n 0, 1) := by decide +kernel
theorem dX7_addAll_1 : decode cX7_addAll 1 = .ok (.invokevirtual 126, 3) := by decide +kernel
theorem dX7_addAll_4 : decode cX7_addAll 4 = .ok (.istore_n 1, 1) := by decide +kernel
theorem dX7_addAll_5 : decode cX7_addAll 5 = .ok (.aload_n 0, 1) := by decide +kernel
theorem dX7_addAll_6 : decode cX7_addAll 6 = .ok (.iload_n 1, 1) := by decide +kernel
theorem dX7_addAll_7 : decode cX7_addAll 7 = .ok (.ifCond .ne 7, 3) := by decide +kernel
theorem dX7_addAll_10 : decode cX7_addAll 10 = .ok (.iconst 1, 1) := by decide +kernel
theorem dX7_addAll_11 : decode cX7_addAll 11 = .ok (.goto 24, 3) := by decide +kernel
theorem dX7_addAll_14 : decode cX7_addAll 14 = .ok (.aload_n 0, 1) := by decide +kernel
theorem dX7_addAll_15 : decode cX7_addAll 15 = .ok (.getfield 7, 3) := by decide +kernel
theorem dX7_addAll_18 : decode cX7_addAll 18 = .ok (.iconst 0, 1) := by decide +kernel
theorem dX7_addAll_19 : decode cX7_addAll 19 = .ok (.iaload, 1) := by decide +kernel
theorem dX7_addAll_20 : decode cX7_addAll 20 = .ok (.aload_n 0, 1) := by decide +kernel
theorem dX7_addAll_21 : decode cX7_addAll 21 = .ok (.getfield 119, 3) := by decide +kernel
theorem dX7_addAll_24 : decode cX7_addAll 24 = .ok (.iadd, 1) := by decide +kernel
theorem dX7_addAll_25 : decode cX7_addAll 25 = .ok (.bipush 20, 2) := by decide +kernel
theorem dX7_addAll_27 : decode cX7_addAll 27 = .ok (.if_icmp .le 7, 3) := by decide +kernel
theorem dX7_addAll_30 : decode cX7_addAll 30 = .ok (.iconst 2, 1) := by decide +kernel
theorem dX7_addAll_31 : decode cX7_addAll 31 = .ok (.goto 4, 3) := by decide +kernel
theorem dX7_addAll_34 : decode cX7_addAll 34 = .ok (.iconst 0, 1) := by decide +kernel
theorem dX7_addAll_35 : decode cX7_addAll 35 = .ok (.invokevirtual 30, 3) := by decide +kernel
theorem dX7_addAll_38 : decode cX7_addAll 38 = .ok (.ifCond .eq 5, 3) := by decide +kernel
theorem dX7_addAll_41 : decode cX7_addAll 41 = .ok (.iconst 0, 1) := by decide +kernel
theorem dX7_addAll_42 : decode cX7_addAll 42 = .ok (.ireturn, 1) := by decide +kernel
theorem dX7_addAll_43 : decode cX7_addAll 43 = .ok (.aload_n 0, 1) := by decide +kernel
theorem dX7_addAll_44 : decode cX7_addAll 44 = .ok (.invokevirtual 63, 3) := by decide +kernel
theorem dX7_addAll_47 : decode cX7_addAll 47 = .ok (.iconst 0, 1) := by decide +kernel
theorem dX7_addAll_48 : decode cX7_addAll 48 = .ok (.istore_n 2, 1) := by decide +kernel
theorem dX7_addAll_49 : decode cX7_addAll 49 = .ok (.iload_n 2, 1) := by decide +kernel
theorem dX7_addAll_50 : decode cX7_addAll 50 = .ok (.aload_n 0, 1) := by decide +kernel
theorem dX7_addAll_51 : decode cX7_addAll 51 = .ok (.getfield 119, 3) := by decide +kernel
theorem dX7_addAll_54 : decode cX7_addAll 54 = .ok (.if_icmp .ge 41, 3) := by decide +kernel
theorem dX7_addAll_57 : decode cX7_addAll 57 = .ok (.aload_n 0, 1) := by decide +kernel
theorem dX7_addAll_58 : decode cX7_addAll 58 = .ok (.aload_n 0, 1) := by decide +kernel
theorem dX7_addAll_59 : decode cX7_addAll 59 = .ok (.getfield 20, 3) := by decide +kernel
theorem dX7_addAll_62 : decode cX7_addAll 62 = .ok (.iconst 3, 1) := by decide +kernel
theorem dX7_addAll_63 : decode cX7_addAll 63 = .ok (.iload_n 2, 1) := by decide +kernel
theorem dX7_addAll_64 : decode cX7_addAll 64 = .ok (.imul, 1) := by decide +kernel
theorem dX7_addAll_65 : decode cX7_addAll 65 = .ok (.iaload, 1) := by decide +kernel
theorem dX7_addAll_66 : decode cX7_addAll 66 = .ok (.aload_n 0, 1) := by decide +kernel
theorem dX7_addAll_67 : decode cX7_addAll 67 = .ok (.getfield 20, 3) := by decide +kernel
theorem dX7_addAll_70 : decode cX7_addAll 70 = .ok (.iconst 3, 1) := by decide +kernel
theorem dX7_addAll_71 : decode cX7_addAll 71 = .ok (.iload_n 2, 1) := by decide +kernel
theorem dX7_addAll_72 : decode cX7_addAll 72 = .ok (.imul, 1) := by decide +kernel
theorem dX7_addAll_73 : decode cX7_addAll 73 = .ok (.iconst 1, 1) := by decide +kernel
theorem dX7_addAll_74 : decode cX7_addAll 74 = .ok (.iadd, 1) := by decide +kernel
theorem dX7_addAll_75 : decode cX7_addAll 75 = .ok (.iaload, 1) := by decide +kernel
theorem dX7_addAll_76 : decode cX7_addAll 76 = .ok (.aload_n 0, 1) := by decide +kernel
theorem dX7_addAll_77 : decode cX7_addAll 77 = .ok (.getfield 20, 3) := by decide +kernel
theorem dX7_addAll_80 : decode cX7_addAll 80 = .ok (.iconst 3, 1) := by decide +kernel
theorem dX7_addAll_81 : decode cX7_addAll 81 = .ok (.iload_n 2, 1) := by decide +kernel
theorem dX7_addAll_82 : decode cX7_addAll 82 = .ok (.imul, 1) := by decide +kernel
theorem dX7_addAll_83 : decode cX7_addAll 83 = .ok (.iconst 2, 1) := by decide +kernel
theorem dX7_addAll_84 : decode cX7_addAll 84 = .ok (.iadd, 1) := by decide +kernel
theorem dX7_addAll_85 : decode cX7_addAll 85 = .ok (.iaload, 1) := by decide +kernel
theorem dX7_addAll_86 : decode cX7_addAll 86 = .ok (.invokevirtual 66, 3) := by decide +kernel
theorem dX7_addAll_89 : decode cX7_addAll 89 = .ok (.iinc 2 1, 3) := by decide +kernel
theorem dX7_addAll_92 : decode cX7_addAll 92 = .ok (.goto (-43), 3) := by decide +kernel
theorem dX7_addAll_95 : decode cX7_addAll 95 = .ok (.aload_n 0, 1) := by decide +kernel
theorem dX7_addAll_96 : decode cX7_addAll 96 = .ok (.iconst 0, 1) := by decide +kernel
theorem dX7_addAll_97 : decode cX7_addAll 97 = .ok (.putfield 96, 3) := by decide +kernel
theorem dX7_addAll_100 : decode cX7_addAll 100 = .ok (.aload_n 0, 1) := by decide +kernel
theorem dX7_addAll_101 : decode cX7_addAll 101 = .ok (.getfield 7, 3) := by decide +kernel
theorem dX7_addAll_104 : decode cX7_addAll 104 = .ok (.iconst 0, 1) := by decide +kernel
theorem dX7_addAll_105 : decode cX7_addAll 105 = .ok (.iaload, 1) := by decide +kernel
theorem dX7_addAll_106 : decode cX7_addAll 106 = .ok (.ireturn, 1) := by decide +kernel
theorem dX7_needing_0 : decode cX7_needing 0 = .ok (.iconst 0, 1) := by decide +kernel
theorem dX7_needing_1 : decode cX7_needing 1 = .ok (.istore_n 2, 1) := by decide +kernel
theorem dX7_needing_2 : decode cX7_needing 2 = .ok (.iload_n 1, 1) := by decide +kernel
theorem dX7_needing_3 : decode cX7_needing 3 = .ok (.iconst 1, 1) := by decide +kernel
theorem dX7_needing_4 : decode cX7_needing 4 = .ok (.iadd, 1) := by decide +kernel
theorem dX7_needing_5 : decode cX7_needing 5 = .ok (.istore_n 3, 1) := by decide +kernel
theorem dX7_needing_6 : decode cX7_needing 6 = .ok (.iload_n 3, 1) := by decide +kernel
theorem dX7_needing_7 : decode cX7_needing 7 = .ok (.aload_n 0, 1) := by decide +kernel
theorem dX7_needing_8 : decode cX7_needing 8 = .ok (.getfield 7, 3) := by decide +kernel
theorem dX7_needing_11 : decode cX7_needing 11 = .ok (.iconst 0, 1) := by decide +kernel
theorem dX7_needing_12 : decode cX7_needing 12 = .ok (.iaload, 1) := by decide +kernel
theorem dX7_needing_13 : decode cX7_needing 13 = .ok (.if_icmp .ge 21, 3) := by decide +kernel
theorem dX7_needing_16 : decode cX7_needing 16 = .ok (.iload_n 2, 1) := by decide +kernel
theorem dX7_needing_17 : decode cX7_needing 17 = .ok (.aload_n 0, 1) := by decide +kernel
theorem dX7_needing_18 : decode cX7_needing 18 = .ok (.iload_n 3, 1) := by decide +kernel
theorem dX7_needing_19 : decode cX7_needing 19 = .ok (.invokevirtual 42, 3) := by decide +kernel
theorem dX7_needing_22 : decode cX7_needing 22 = .ok (.iload_n 1, 1) := by decide +kernel
theorem dX7_needing_23 : decode cX7_needing 23 = .ok (.ishr, 1) := by decide +kernel
theorem dX7_needing_24 : decode cX7_needing 24 = .ok (.iconst 1, 1) := by decide +kernel
theorem dX7_needing_25 : decode cX7_needing 25 = .ok (.iand, 1) := by decide +kernel
theorem dX7_needing_26 : decode cX7_needing 26 = .ok (.iadd, 1) := by decide +kernel
theorem dX7_needing_27 : decode cX7_needing 27 = .ok (.istore_n 2, 1) := by decide +kernel
theorem dX7_needing_28 : decode cX7_needing 28 = .ok (.iinc 3 1, 3) := by decide +kernel
theorem dX7_needing_31 : decode cX7_needing 31 = .ok (.goto (-25), 3) := by decide +kernel
theorem dX7_needing_34 : decode cX7_needing 34 = .ok (.iload_n 2, 1) := by decide +kernel
theorem dX7_needing_35 : decode cX7_needing 35 = .ok (.ireturn, 1) := by decide +kernel
theorem dX7_partOf_0 : decode cX7_partOf 0 = .ok (.iload_n 2, 1) := by decide +kernel
theorem dX7_partOf_1 : decode cX7_partOf 1 = .ok (.tableswitch 59 3 6 #[31, 37, 43, 49], 31) := by decide +kernel
theorem dX7_partOf_32 : decode cX7_partOf 32 = .ok (.aload_n 0, 1) := by decide +kernel
theorem dX7_partOf_33 : decode cX7_partOf 33 = .ok (.iload_n 1, 1) := by decide +kernel
theorem dX7_partOf_34 : decode cX7_partOf 34 = .ok (.invokevirtual 42, 3) := by decide +kernel
theorem dX7_partOf_37 : decode cX7_partOf 37 = .ok (.ireturn, 1) := by decide +kernel
theorem dX7_partOf_38 : decode cX7_partOf 38 = .ok (.aload_n 0, 1) := by decide +kernel
theorem dX7_partOf_39 : decode cX7_partOf 39 = .ok (.iload_n 1, 1) := by decide +kernel
theorem dX7_partOf_40 : decode cX7_partOf 40 = .ok (.invokevirtual 129, 3) := by decide +kernel
theorem dX7_partOf_43 : decode cX7_partOf 43 = .ok (.ireturn, 1) := by decide +kernel
theorem dX7_partOf_44 : decode cX7_partOf 44 = .ok (.aload_n 0, 1) := by decide +kernel
theorem dX7_partOf_45 : decode cX7_partOf 45 = .ok (.iload_n 1, 1) := by decide +kernel
theorem dX7_partOf_46 : decode cX7_partOf 46 = .ok (.invokevirtual 72, 3) := by decide +kernel
theorem dX7_partOf_49 : decode cX7_partOf 49 = .ok (.ireturn, 1) := by decide +kernel
theorem dX7_partOf_50 : decode cX7_partOf 50 = .ok (.aload_n 0, 1) := by decide +kernel
theorem dX7_partOf_51 : decode cX7_partOf 51 = .ok (.iload_n 1, 1) := by decide +kernel
theorem dX7_partOf_52 : decode cX7_partOf 52 = .ok (.iconst (-1), 1) := by decide +kernel
theorem dX7_partOf_53 : decode cX7_partOf 53 = .ok (.invokevirtual 52, 3) := by decide +kernel
theorem dX7_partOf_56 : decode cX7_partOf 56 = .ok (.invokestatic 75, 3) := by decide +kernel
theorem dX7_partOf_59 : decode cX7_partOf 59 = .ok (.ireturn, 1) := by decide +kernel
theorem dX7_partOf_60 : decode cX7_partOf 60 = .ok (.aload_n 0, 1) := by decide +kernel
theorem dX7_partOf_61 : decode cX7_partOf 61 = .ok (.iload_n 1, 1) := by decide +kernel
theorem dX7_partOf_62 : decode cX7_partOf 62 = .ok (.iload_n 2, 1) := by decide +kernel
theorem dX7_partOf_63 : decode cX7_partOf 63 = .ok (.invokevirtual 38, 3) := by decide +kernel
theorem dX7_partOf_66 : decode cX7_partOf 66 = .ok (.ireturn, 1) := by decide +kernel
theorem dX7_part_0 : decode cX7_part 0 = .ok (.aload_n 0, 1) := by decide +kernel
theorem dX7_part_1 : decode cX7_part 1 = .ok (.aload_n 0, 1) := by decide +kernel
theorem dX7_part_2 : decode cX7_part 2 = .ok (.iload_n 1, 1) := by decide +kernel
theorem dX7_part_3 : decode cX7_part 3 = .ok (.invokevirtual 69, 3) := by decide +kernel
theorem dX7_part_6 : decode cX7_part 6 = .ok (.ifCond .ne 7, 3) := by decide +kernel
theorem dX7_part_9 : decode cX7_part 9 = .ok (.iconst 1, 1) := by decide +kernel
theorem dX7_part_10 : decode cX7_part 10 = .ok (.goto 18, 3) := by decide +kernel
theorem dX7_part_13 : decode cX7_part 13 = .ok (.iload_n 2, 1) := by decide +kernel
theorem dX7_part_14 : decode cX7_part 14 = .ok (.iconst 0, 1) := by decide +kernel
theorem dX7_part_15 : decode cX7_part 15 = .ok (.bipush 6, 2) := by decide +kernel
theorem dX7_part_17 : decode cX7_part 17 = .ok (.invokestatic 34, 3) := by decide +kernel
theorem dX7_part_20 : decode cX7_part 20 = .ok (.ifCond .eq 7, 3) := by decide +kernel
theorem dX7_part_23 : decode cX7_part 23 = .ok (.iconst 0, 1) := by decide +kernel
theorem dX7_part_24 : decode cX7_part 24 = .ok (.goto 4, 3) := by decide +kernel
theorem dX7_part_27 : decode cX7_part 27 = .ok (.iconst 2, 1) := by decide +kernel
theorem dX7_part_28 : decode cX7_part 28 = .ok (.invokevirtual 30, 3) := by decide +kernel
theorem dX7_part_31 : decode cX7_part 31 = .ok (.ifCond .eq 7, 3) := by decide +kernel
theorem dX7_part_34 : decode cX7_part 34 = .ok (.iconst 0, 1) := by decide +kernel
theorem dX7_part_35 : decode cX7_part 35 = .ok (.goto 9, 3) := by decide +kernel
theorem dX7_part_38 : decode cX7_part 38 = .ok (.aload_n 0, 1) := by decide +kernel
theorem dX7_part_39 : decode cX7_part 39 = .ok (.iload_n 1, 1) := by decide +kernel
theorem dX7_part_40 : decode cX7_part 40 = .ok (.iload_n 2, 1) := by decide +kernel
theorem dX7_part_41 : decode cX7_part 41 = .ok (.invokevirtual 132, 3) := by decide +kernel
theorem dX7_part_44 : decode cX7_part 44 = .ok (.ireturn, 1) := by decide +kernel
theorem dX7_knows_0 : decode cX7_knows 0 = .ok (.aload_n 0, 1) := by decide +kernel
theorem dX7_knows_1 : decode cX7_knows 1 = .ok (.iload_n 1, 1) := by decide +kernel
theorem dX7_knows_2 : decode cX7_knows 2 = .ok (.invokestatic 90, 3) := by decide +kernel
theorem dX7_knows_5 : decode cX7_knows 5 = .ok (.ifCond .eq 15, 3) := by decide +kernel
theorem dX7_knows_8 : decode cX7_knows 8 = .ok (.aload_n 0, 1) := by decide +kernel
theorem dX7_knows_9 : decode cX7_knows 9 = .ok (.iload_n 2, 1) := by decide +kernel
theorem dX7_knows_10 : decode cX7_knows 10 = .ok (.invokevirtual 69, 3) := by decide +kernel
theorem dX7_knows_13 : decode cX7_knows 13 = .ok (.ifCond .eq 7, 3) := by decide +kernel
theorem dX7_knows_16 : decode cX7_knows 16 = .ok (.iconst 0, 1) := by decide +kernel
theorem dX7_knows_17 : decode cX7_knows 17 = .ok (.goto 4, 3) := by decide +kernel
theorem dX7_knows_20 : decode cX7_knows 20 = .ok (.iconst 1, 1) := by decide +kernel
theorem dX7_knows_21 : decode cX7_knows 21 = .ok (.invokevirtual 30, 3) := by decide +kernel
theorem dX7_knows_24 : decode cX7_knows 24 = .ok (.ifCond .eq 7, 3) := by decide +kernel
theorem dX7_knows_27 : decode cX7_knows 27 = .ok (.iconst 0, 1) := by decide +kernel
theorem dX7_knows_28 : decode cX7_knows 28 = .ok (.goto 9, 3) := by decide +kernel
theorem dX7_knows_31 : decode cX7_knows 31 = .ok (.aload_n 0, 1) := by decide +kernel
theorem dX7_knows_32 : decode cX7_knows 32 = .ok (.iload_n 1, 1) := by decide +kernel
theorem dX7_knows_33 : decode cX7_knows 33 = .ok (.iload_n 2, 1) := by decide +kernel
theorem dX7_knows_34 : decode cX7_knows 34 = .ok (.invokevirtual 46, 3) := by decide +kernel
theorem dX7_knows_37 : decode cX7_knows 37 = .ok (.ireturn, 1) := by decide +kernel
theorem dX7_manyKnown_0 : decode cX7_manyKnown 0 = .ok (.iconst 0, 1) := by decide +kernel
theorem dX7_manyKnown_1 : decode cX7_manyKnown 1 = .ok (.istore_n 3, 1) := by decide +kernel
theorem dX7_manyKnown_2 : decode cX7_manyKnown 2 = .ok (.iconst 0, 1) := by decide +kernel
theorem dX7_manyKnown_3 : decode cX7_manyKnown 3 = .ok (.istore 4, 2) := by decide +kernel
theorem dX7_manyKnown_5 : decode cX7_manyKnown 5 = .ok (.iload 4, 2) := by decide +kernel
theorem dX7_manyKnown_7 : decode cX7_manyKnown 7 = .ok (.aload_n 0, 1) := by decide +kernel
theorem dX7_manyKnown_8 : decode cX7_manyKnown 8 = .ok (.getfield 7, 3) := by decide +kernel
theorem dX7_manyKnown_11 : decode cX7_manyKnown 11 = .ok (.iconst 0, 1) := by decide +kernel
theorem dX7_manyKnown_12 : decode cX7_manyKnown 12 = .ok (.iaload, 1) := by decide +kernel
theorem dX7_manyKnown_13 : decode cX7_manyKnown 13 = .ok (.if_icmp .ge 28, 3) := by decide +kernel
theorem dX7_manyKnown_16 : decode cX7_manyKnown 16 = .ok (.iload_n 3, 1) := by decide +kernel
theorem dX7_manyKnown_17 : decode cX7_manyKnown 17 = .ok (.aload_n 0, 1) := by decide +kernel
theorem dX7_manyKnown_18 : decode cX7_manyKnown 18 = .ok (.iload_n 1, 1) := by decide +kernel
theorem dX7_manyKnown_19 : decode cX7_manyKnown 19 = .ok (.iload 4, 2) := by decide +kernel
theorem dX7_manyKnown_21 : decode cX7_manyKnown 21 = .ok (.invokevirtual 46, 3) := by decide +kernel
theorem dX7_manyKnown_24 : decode cX7_manyKnown 24 = .ok (.iload_n 2, 1) := by decide +kernel
theorem dX7_manyKnown_25 : decode cX7_manyKnown 25 = .ok (.if_icmp .ne 7, 3) := by decide +kernel
theorem dX7_manyKnown_28 : decode cX7_manyKnown 28 = .ok (.iconst 1, 1) := by decide +kernel
theorem dX7_manyKnown_29 : decode cX7_manyKnown 29 = .ok (.goto 4, 3) := by decide +kernel
theorem dX7_manyKnown_32 : decode cX7_manyKnown 32 = .ok (.iconst 0, 1) := by decide +kernel
theorem dX7_manyKnown_33 : decode cX7_manyKnown 33 = .ok (.iadd, 1) := by decide +kernel
theorem dX7_manyKnown_34 : decode cX7_manyKnown 34 = .ok (.istore_n 3, 1) := by decide +kernel
theorem dX7_manyKnown_35 : decode cX7_manyKnown 35 = .ok (.iinc 4 1, 3) := by decide +kernel
theorem dX7_manyKnown_38 : decode cX7_manyKnown 38 = .ok (.goto (-33), 3) := by decide +kernel
theorem dX7_manyKnown_41 : decode cX7_manyKnown 41 = .ok (.iload_n 3, 1) := by decide +kernel
theorem dX7_manyKnown_42 : decode cX7_manyKnown 42 = .ok (.ireturn, 1) := by decide +kernel
theorem dX7_open_0 : decode cX7_open 0 = .ok (.iconst 0, 1) := by decide +kernel
theorem dX7_open_1 : decode cX7_open 1 = .ok (.istore_n 2, 1) := by decide +kernel
theorem dX7_open_2 : decode cX7_open 2 = .ok (.iconst 0, 1) := by decide +kernel
theorem dX7_open_3 : decode cX7_open 3 = .ok (.istore_n 3, 1) := by decide +kernel
theorem dX7_open_4 : decode cX7_open 4 = .ok (.iload_n 3, 1) := by decide +kernel
theorem dX7_open_5 : decode cX7_open 5 = .ok (.aload_n 0, 1) := by decide +kernel
theorem dX7_open_6 : decode cX7_open 6 = .ok (.getfield 7, 3) := by decide +kernel
theorem dX7_open_9 : decode cX7_open 9 = .ok (.iconst 0, 1) := by decide +kernel
theorem dX7_open_10 : decode cX7_open 10 = .ok (.iaload, 1) := by decide +kernel
theorem dX7_open_11 : decode cX7_open 11 = .ok (.if_icmp .ge 54, 3) := by decide +kernel
theorem dX7_open_14 : decode cX7_open 14 = .ok (.aload_n 0, 1) := by decide +kernel
theorem dX7_open_15 : decode cX7_open 15 = .ok (.iload_n 1, 1) := by decide +kernel
theorem dX7_open_16 : decode cX7_open 16 = .ok (.iload_n 3, 1) := by decide +kernel
theorem dX7_open_17 : decode cX7_open 17 = .ok (.invokevirtual 46, 3) := by decide +kernel
theorem dX7_open_20 : decode cX7_open 20 = .ok (.ifCond .le 39, 3) := by decide +kernel
theorem dX7_open_23 : decode cX7_open 23 = .ok (.iload_n 2, 1) := by decide +kernel
theorem dX7_open_24 : decode cX7_open 24 = .ok (.aload_n 0, 1) := by decide +kernel
theorem dX7_open_25 : decode cX7_open 25 = .ok (.iload_n 3, 1) := by decide +kernel
theorem dX7_open_26 : decode cX7_open 26 = .ok (.iconst 0, 1) := by decide +kernel
theorem dX7_open_27 : decode cX7_open 27 = .ok (.invokevirtual 38, 3) := by decide +kernel
theorem dX7_open_30 : decode cX7_open 30 = .ok (.iconst (-1), 1) := by decide +kernel
theorem dX7_open_31 : decode cX7_open 31 = .ok (.ixor, 1) := by decide +kernel
theorem dX7_open_32 : decode cX7_open 32 = .ok (.iand, 1) := by decide +kernel
theorem dX7_open_33 : decode cX7_open 33 = .ok (.istore_n 2, 1) := by decide +kernel
theorem dX7_open_34 : decode cX7_open 34 = .ok (.iload_n 2, 1) := by decide +kernel
theorem dX7_open_35 : decode cX7_open 35 = .ok (.aload_n 0, 1) := by decide +kernel
theorem dX7_open_36 : decode cX7_open 36 = .ok (.iload_n 3, 1) := by decide +kernel
theorem dX7_open_37 : decode cX7_open 37 = .ok (.iconst 1, 1) := by decide +kernel
theorem dX7_open_38 : decode cX7_open 38 = .ok (.invokevirtual 38, 3) := by decide +kernel
theorem dX7_open_41 : decode cX7_open 41 = .ok (.iconst (-1), 1) := by decide +kernel
theorem dX7_open_42 : decode cX7_open 42 = .ok (.if_icmp .ne 7, 3) := by decide +kernel
theorem dX7_open_45 : decode cX7_open 45 = .ok (.iconst 0, 1) := by decide +kernel
theorem dX7_open_46 : decode cX7_open 46 = .ok (.goto 11, 3) := by decide +kernel
theorem dX7_open_49 : decode cX7_open 49 = .ok (.iconst 1, 1) := by decide +kernel
theorem dX7_open_50 : decode cX7_open 50 = .ok (.aload_n 0, 1) := by decide +kernel
theorem dX7_open_51 : decode cX7_open 51 = .ok (.iload_n 3, 1) := by decide +kernel
theorem dX7_open_52 : decode cX7_open 52 = .ok (.iconst 1, 1) := by decide +kernel
theorem dX7_open_53 : decode cX7_open 53 = .ok (.invokevirtual 38, 3) := by decide +kernel
theorem dX7_open_56 : decode cX7_open 56 = .ok (.ishl, 1) := by decide +kernel
theorem dX7_open_57 : decode cX7_open 57 = .ok (.ior, 1) := by decide +kernel
theorem dX7_open_58 : decode cX7_open 58 = .ok (.istore_n 2, 1) := by decide +kernel
theorem dX7_open_59 : decode cX7_open 59 = .ok (.iinc 3 1, 3) := by decide +kernel
theorem dX7_open_62 : decode cX7_open 62 = .ok (.goto (-58), 3) := by decide +kernel
theorem dX7_open_65 : decode cX7_open 65 = .ok (.iload_n 2, 1) := by decide +kernel
theorem dX7_open_66 : decode cX7_open 66 = .ok (.ireturn, 1) := by decide +kernel
theorem dX7_readerOf_0 : decode cX7_readerOf 0 = .ok (.iload_n 2, 1) := by decide +kernel
theorem dX7_readerOf_1 : decode cX7_readerOf 1 = .ok (.tableswitch 46 0 3 #[31, 31, 31, 40], 31) := by decide +kernel
theorem dX7_readerOf_32 : decode cX7_readerOf 32 = .ok (.aload_n 0, 1) := by decide +kernel
theorem dX7_readerOf_33 : decode cX7_readerOf 33 = .ok (.iload_n 1, 1) := by decide +kernel
theorem dX7_readerOf_34 : decode cX7_readerOf 34 = .ok (.iconst 2, 1) := by decide +kernel
theorem dX7_readerOf_35 : decode cX7_readerOf 35 = .ok (.iload_n 2, 1) := by decide +kernel
theorem dX7_readerOf_36 : decode cX7_readerOf 36 = .ok (.isub, 1) := by decide +kernel
theorem dX7_readerOf_37 : decode cX7_readerOf 37 = .ok (.invokevirtual 135, 3) := by decide +kernel
theorem dX7_readerOf_40 : decode cX7_readerOf 40 = .ok (.ireturn, 1) := by decide +kernel
theorem dX7_readerOf_41 : decode cX7_readerOf 41 = .ok (.aload_n 0, 1) := by decide +kernel
theorem dX7_readerOf_42 : decode cX7_readerOf 42 = .ok (.iload_n 1, 1) := by decide +kernel
theorem dX7_readerOf_43 : decode cX7_readerOf 43 = .ok (.invokevirtual 138, 3) := by decide +kernel
theorem dX7_readerOf_46 : decode cX7_readerOf 46 = .ok (.ireturn, 1) := by decide +kernel
theorem dX7_readerOf_47 : decode cX7_readerOf 47 = .ok (.aload_n 0, 1) := by decide +kernel
theorem dX7_readerOf_48 : decode cX7_readerOf 48 = .ok (.getfield 7, 3) := by decide +kernel
theorem dX7_readerOf_51 : decode cX7_readerOf 51 = .ok (.bipush 65, 2) := by decide +kernel
theorem dX7_readerOf_53 : decode cX7_readerOf 53 = .ok (.iconst 3, 1) := by decide +kernel
theorem dX7_readerOf_54 : decode cX7_readerOf 54 = .ok (.iload_n 1, 1) := by decide +kernel
theorem dX7_readerOf_55 : decode cX7_readerOf 55 = .ok (.imul, 1) := by decide +kernel
theorem dX7_readerOf_56 : decode cX7_readerOf 56 = .ok (.iadd, 1) := by decide +kernel
theorem dX7_readerOf_57 : decode cX7_readerOf 57 = .ok (.iload_n 2, 1) := by decide +kernel
theorem dX7_readerOf_58 : decode cX7_readerOf 58 = .ok (.iadd, 1) := by decide +kernel
theorem dX7_readerOf_59 : decode cX7_readerOf 59 = .ok (.iconst 4, 1) := by decide +kernel
theorem dX7_readerOf_60 : decode cX7_readerOf 60 = .ok (.isub, 1) := by decide +kernel
theorem dX7_readerOf_61 : decode cX7_readerOf 61 = .ok (.iaload, 1) := by decide +kernel
theorem dX7_readerOf_62 : decode cX7_readerOf 62 = .ok (.ireturn, 1) := by decide +kernel
theorem dX7_reader_0 : decode cX7_reader 0 = .ok (.aload_n 0, 1) := by decide +kernel
theorem dX7_reader_1 : decode cX7_reader 1 = .ok (.iload_n 1, 1) := by decide +kernel
theorem dX7_reader_2 : decode cX7_reader 2 = .ok (.invokestatic 90, 3) := by decide +kernel
theorem dX7_reader_5 : decode cX7_reader 5 = .ok (.ifCond .ne 7, 3) := by decide +kernel
theorem dX7_reader_8 : decode cX7_reader 8 = .ok (.iconst 1, 1) := by decide +kernel
theorem dX7_reader_9 : decode cX7_reader 9 = .ok (.goto 18, 3) := by decide +kernel
theorem dX7_reader_12 : decode cX7_reader 12 = .ok (.iload_n 2, 1) := by decide +kernel
theorem dX7_reader_13 : decode cX7_reader 13 = .ok (.iconst 0, 1) := by decide +kernel
theorem dX7_reader_14 : decode cX7_reader 14 = .ok (.bipush 6, 2) := by decide +kernel
theorem dX7_reader_16 : decode cX7_reader 16 = .ok (.invokestatic 34, 3) := by decide +kernel
theorem dX7_reader_19 : decode cX7_reader 19 = .ok (.ifCond .eq 7, 3) := by decide +kernel
theorem dX7_reader_22 : decode cX7_reader 22 = .ok (.iconst 0, 1) := by decide +kernel
theorem dX7_reader_23 : decode cX7_reader 23 = .ok (.goto 4, 3) := by decide +kernel
theorem dX7_reader_26 : decode cX7_reader 26 = .ok (.iconst 2, 1) := by decide +kernel
theorem dX7_reader_27 : decode cX7_reader 27 = .ok (.invokevirtual 30, 3) := by decide +kernel
theorem dX7_reader_30 : decode cX7_reader 30 = .ok (.ifCond .eq 7, 3) := by decide +kernel
theorem dX7_reader_33 : decode cX7_reader 33 = .ok (.iconst 0, 1) := by decide +kernel
theorem dX7_reader_34 : decode cX7_reader 34 = .ok (.goto 9, 3) := by decide +kernel
theorem dX7_reader_37 : decode cX7_reader 37 = .ok (.aload_n 0, 1) := by decide +kernel
theorem dX7_reader_38 : decode cX7_reader 38 = .ok (.iload_n 1, 1) := by decide +kernel
theorem dX7_reader_39 : decode cX7_reader 39 = .ok (.iload_n 2, 1) := by decide +kernel
theorem dX7_reader_40 : decode cX7_reader 40 = .ok (.invokevirtual 141, 3) := by decide +kernel
theorem dX7_reader_43 : decode cX7_reader 43 = .ok (.ireturn, 1) := by decide +kernel
theorem dX7_ofParts_0 : decode cX7_ofParts 0 = .ok (.iconst 0, 1) := by decide +kernel
theorem dX7_ofParts_1 : decode cX7_ofParts 1 = .ok (.istore_n 3, 1) := by decide +kernel
theorem dX7_ofParts_2 : decode cX7_ofParts 2 = .ok (.iconst (-1), 1) := by decide +kernel
theorem dX7_ofParts_3 : decode cX7_ofParts 3 = .ok (.istore 4, 2) := by decide +kernel
theorem dX7_ofParts_5 : decode cX7_ofParts 5 = .ok (.iconst 0, 1) := by decide +kernel
theorem dX7_ofParts_6 : decode cX7_ofParts 6 = .ok (.istore 5, 2) := by decide +kernel
theorem dX7_ofParts_8 : decode cX7_ofParts 8 = .ok (.iconst 0, 1) := by decide +kernel
theorem dX7_ofParts_9 : decode cX7_ofParts 9 = .ok (.istore 6, 2) := by decide +kernel
theorem dX7_ofParts_11 : decode cX7_ofParts 11 = .ok (.iload 6, 2) := by decide +kernel
theorem dX7_ofParts_13 : decode cX7_ofParts 13 = .ok (.aload_n 0, 1) := by decide +kernel
theorem dX7_ofParts_14 : decode cX7_ofParts 14 = .ok (.getfield 7, 3) := by decide +kernel
theorem dX7_ofParts_17 : decode cX7_ofParts 17 = .ok (.iconst 0, 1) := by decide +kernel
theorem dX7_ofParts_18 : decode cX7_ofParts 18 = .ok (.iaload, 1) := by decide +kernel
theorem dX7_ofParts_19 : decode cX7_ofParts 19 = .ok (.if_icmp .ge 67, 3) := by decide +kernel
theorem dX7_ofParts_22 : decode cX7_ofParts 22 = .ok (.iload_n 3, 1) := by decide +kernel
theorem dX7_ofParts_23 : decode cX7_ofParts 23 = .ok (.aload_n 0, 1) := by decide +kernel
theorem dX7_ofParts_24 : decode cX7_ofParts 24 = .ok (.iload 6, 2) := by decide +kernel
theorem dX7_ofParts_26 : decode cX7_ofParts 26 = .ok (.iload_n 1, 1) := by decide +kernel
theorem dX7_ofParts_27 : decode cX7_ofParts 27 = .ok (.invokevirtual 144, 3) := by decide +kernel
theorem dX7_ofParts_30 : decode cX7_ofParts 30 = .ok (.ifCond .eq 7, 3) := by decide +kernel
theorem dX7_ofParts_33 : decode cX7_ofParts 33 = .ok (.iconst 1, 1) := by decide +kernel
theorem dX7_ofParts_34 : decode cX7_ofParts 34 = .ok (.goto 4, 3) := by decide +kernel
theorem dX7_ofParts_37 : decode cX7_ofParts 37 = .ok (.iconst 0, 1) := by decide +kernel
theorem dX7_ofParts_38 : decode cX7_ofParts 38 = .ok (.iadd, 1) := by decide +kernel
theorem dX7_ofParts_39 : decode cX7_ofParts 39 = .ok (.istore_n 3, 1) := by decide +kernel
theorem dX7_ofParts_40 : decode cX7_ofParts 40 = .ok (.aload_n 0, 1) := by decide +kernel
theorem dX7_ofParts_41 : decode cX7_ofParts 41 = .ok (.iload 6, 2) := by decide +kernel
theorem dX7_ofParts_43 : decode cX7_ofParts 43 = .ok (.iload_n 1, 1) := by decide +kernel
theorem dX7_ofParts_44 : decode cX7_ofParts 44 = .ok (.invokevirtual 144, 3) := by decide +kernel
theorem dX7_ofParts_47 : decode cX7_ofParts 47 = .ok (.ifCond .eq 8, 3) := by decide +kernel
theorem dX7_ofParts_50 : decode cX7_ofParts 50 = .ok (.iload 6, 2) := by decide +kernel
theorem dX7_ofParts_52 : decode cX7_ofParts 52 = .ok (.goto 5, 3) := by decide +kernel
theorem dX7_ofParts_55 : decode cX7_ofParts 55 = .ok (.iload 4, 2) := by decide +kernel
theorem dX7_ofParts_57 : decode cX7_ofParts 57 = .ok (.istore 4, 2) := by decide +kernel
theorem dX7_ofParts_59 : decode cX7_ofParts 59 = .ok (.iload 5, 2) := by decide +kernel
theorem dX7_ofParts_61 : decode cX7_ofParts 61 = .ok (.aload_n 0, 1) := by decide +kernel
theorem dX7_ofParts_62 : decode cX7_ofParts 62 = .ok (.iload 6, 2) := by decide +kernel
theorem dX7_ofParts_64 : decode cX7_ofParts 64 = .ok (.iconst 1, 1) := by decide +kernel
theorem dX7_ofParts_65 : decode cX7_ofParts 65 = .ok (.invokevirtual 38, 3) := by decide +kernel
theorem dX7_ofParts_68 : decode cX7_ofParts 68 = .ok (.iload_n 1, 1) := by decide +kernel
theorem dX7_ofParts_69 : decode cX7_ofParts 69 = .ok (.if_icmp .ne 7, 3) := by decide +kernel
theorem dX7_ofParts_72 : decode cX7_ofParts 72 = .ok (.iconst 1, 1) := by decide +kernel
theorem dX7_ofParts_73 : decode cX7_ofParts 73 = .ok (.goto 4, 3) := by decide +kernel
theorem dX7_ofParts_76 : decode cX7_ofParts 76 = .ok (.iconst 0, 1) := by decide +kernel
theorem dX7_ofParts_77 : decode cX7_ofParts 77 = .ok (.iadd, 1) := by decide +kernel
theorem dX7_ofParts_78 : decode cX7_ofParts 78 = .ok (.istore 5, 2) := by decide +kernel
theorem dX7_ofParts_80 : decode cX7_ofParts 80 = .ok (.iinc 6 1, 3) := by decide +kernel
theorem dX7_ofParts_83 : decode cX7_ofParts 83 = .ok (.goto (-72), 3) := by decide +kernel
theorem dX7_ofParts_86 : decode cX7_ofParts 86 = .ok (.iload_n 2, 1) := by decide +kernel
theorem dX7_ofParts_87 : decode cX7_ofParts 87 = .ok (.ifCond .ne 7, 3) := by decide +kernel
theorem dX7_ofParts_90 : decode cX7_ofParts 90 = .ok (.iload_n 3, 1) := by decide +kernel
theorem dX7_ofParts_91 : decode cX7_ofParts 91 = .ok (.goto 15, 3) := by decide +kernel
theorem dX7_ofParts_94 : decode cX7_ofParts 94 = .ok (.iload_n 2, 1) := by decide +kernel
theorem dX7_ofParts_95 : decode cX7_ofParts 95 = .ok (.iconst 1, 1) := by decide +kernel
theorem dX7_ofParts_96 : decode cX7_ofParts 96 = .ok (.if_icmp .ne 8, 3) := by decide +kernel
theorem dX7_ofParts_99 : decode cX7_ofParts 99 = .ok (.iload 4, 2) := by decide +kernel
theorem dX7_ofParts_101 : decode cX7_ofParts 101 = .ok (.goto 5, 3) := by decide +kernel
theorem dX7_ofParts_104 : decode cX7_ofParts 104 = .ok (.iload 5, 2) := by decide +kernel
theorem dX7_ofParts_106 : decode cX7_ofParts 106 = .ok (.ireturn, 1) := by decide +kernel
theorem dX7_openTo_0 : decode cX7_openTo 0 = .ok (.iconst 0, 1) := by decide +kernel
theorem dX7_openTo_1 : decode cX7_openTo 1 = .ok (.istore_n 2, 1) := by decide +kernel
theorem dX7_openTo_2 : decode cX7_openTo 2 = .ok (.iconst 0, 1) := by decide +kernel
theorem dX7_openTo_3 : decode cX7_openTo 3 = .ok (.istore_n 3, 1) := by decide +kernel
theorem dX7_openTo_4 : decode cX7_openTo 4 = .ok (.iload_n 3, 1) := by decide +kernel
theorem dX7_openTo_5 : decode cX7_openTo 5 = .ok (.bipush 6, 2) := by decide +kernel
theorem dX7_openTo_7 : decode cX7_openTo 7 = .ok (.if_icmp .ge 21, 3) := by decide +kernel
theorem dX7_openTo_10 : decode cX7_openTo 10 = .ok (.iload_n 2, 1) := by decide +kernel
theorem dX7_openTo_11 : decode cX7_openTo 11 = .ok (.aload_n 0, 1) := by decide +kernel
theorem dX7_openTo_12 : decode cX7_openTo 12 = .ok (.iload_n 3, 1) := by decide +kernel
theorem dX7_openTo_13 : decode cX7_openTo 13 = .ok (.invokevirtual 138, 3) := by decide +kernel
theorem dX7_openTo_16 : decode cX7_openTo 16 = .ok (.iload_n 1, 1) := by decide +kernel
theorem dX7_openTo_17 : decode cX7_openTo 17 = .ok (.ishr, 1) := by decide +kernel
theorem dX7_openTo_18 : decode cX7_openTo 18 = .ok (.iconst 1, 1) := by decide +kernel
theorem dX7_openTo_19 : decode cX7_openTo 19 = .ok (.iand, 1) := by decide +kernel
theorem dX7_openTo_20 : decode cX7_openTo 20 = .ok (.iadd, 1) := by decide +kernel
theorem dX7_openTo_21 : decode cX7_openTo 21 = .ok (.istore_n 2, 1) := by decide +kernel
theorem dX7_openTo_22 : decode cX7_openTo 22 = .ok (.iinc 3 1, 3) := by decide +kernel
theorem dX7_openTo_25 : decode cX7_openTo 25 = .ok (.goto (-21), 3) := by decide +kernel
theorem dX7_openTo_28 : decode cX7_openTo 28 = .ok (.iload_n 2, 1) := by decide +kernel
theorem dX7_openTo_29 : decode cX7_openTo 29 = .ok (.ireturn, 1) := by decide +kernel
theorem dX7_plotOf_0 : decode cX7_plotOf 0 = .ok (.iload_n 2, 1) := by decide +kernel
theorem dX7_plotOf_1 : decode cX7_plotOf 1 = .ok (.iconst 3, 1) := by decide +kernel
theorem dX7_plotOf_2 : decode cX7_plotOf 2 = .ok (.if_icmp .ne 11, 3) := by decide +kernel
theorem dX7_plotOf_5 : decode cX7_plotOf 5 = .ok (.aload_n 0, 1) := by decide +kernel
theorem dX7_plotOf_6 : decode cX7_plotOf 6 = .ok (.iload_n 1, 1) := by decide +kernel
theorem dX7_plotOf_7 : decode cX7_plotOf 7 = .ok (.invokevirtual 147, 3) := by decide +kernel
theorem dX7_plotOf_10 : decode cX7_plotOf 10 = .ok (.goto 9, 3) := by decide +kernel
theorem dX7_plotOf_13 : decode cX7_plotOf 13 = .ok (.aload_n 0, 1) := by decide +kernel
theorem dX7_plotOf_14 : decode cX7_plotOf 14 = .ok (.iload_n 1, 1) := by decide +kernel
theorem dX7_plotOf_15 : decode cX7_plotOf 15 = .ok (.iload_n 2, 1) := by decide +kernel
theorem dX7_plotOf_16 : decode cX7_plotOf 16 = .ok (.invokevirtual 150, 3) := by decide +kernel
theorem dX7_plotOf_19 : decode cX7_plotOf 19 = .ok (.ireturn, 1) := by decide +kernel
theorem dX7_plot_0 : decode cX7_plot 0 = .ok (.aload_n 0, 1) := by decide +kernel
theorem dX7_plot_1 : decode cX7_plot 1 = .ok (.iload_n 1, 1) := by decide +kernel
theorem dX7_plot_2 : decode cX7_plot 2 = .ok (.iconst 0, 1) := by decide +kernel
theorem dX7_plot_3 : decode cX7_plot 3 = .ok (.iconst 5, 1) := by decide +kernel
theorem dX7_plot_4 : decode cX7_plot 4 = .ok (.invokestatic 34, 3) := by decide +kernel
theorem dX7_plot_7 : decode cX7_plot 7 = .ok (.ifCond .ne 7, 3) := by decide +kernel
theorem dX7_plot_10 : decode cX7_plot 10 = .ok (.iconst 1, 1) := by decide +kernel
theorem dX7_plot_11 : decode cX7_plot 11 = .ok (.goto 17, 3) := by decide +kernel
theorem dX7_plot_14 : decode cX7_plot 14 = .ok (.iload_n 2, 1) := by decide +kernel
theorem dX7_plot_15 : decode cX7_plot 15 = .ok (.iconst 0, 1) := by decide +kernel
theorem dX7_plot_16 : decode cX7_plot 16 = .ok (.iconst 3, 1) := by decide +kernel
theorem dX7_plot_17 : decode cX7_plot 17 = .ok (.invokestatic 34, 3) := by decide +kernel
theorem dX7_plot_20 : decode cX7_plot 20 = .ok (.ifCond .eq 7, 3) := by decide +kernel
theorem dX7_plot_23 : decode cX7_plot 23 = .ok (.iconst 0, 1) := by decide +kernel
theorem dX7_plot_24 : decode cX7_plot 24 = .ok (.goto 4, 3) := by decide +kernel
theorem dX7_plot_27 : decode cX7_plot 27 = .ok (.iconst 2, 1) := by decide +kernel
theorem dX7_plot_28 : decode cX7_plot 28 = .ok (.invokevirtual 30, 3) := by decide +kernel
theorem dX7_plot_31 : decode cX7_plot 31 = .ok (.ifCond .eq 7, 3) := by decide +kernel
theorem dX7_plot_34 : decode cX7_plot 34 = .ok (.iconst 0, 1) := by decide +kernel
theorem dX7_plot_35 : decode cX7_plot 35 = .ok (.goto 9, 3) := by decide +kernel
theorem dX7_plot_38 : decode cX7_plot 38 = .ok (.aload_n 0, 1) := by decide +kernel
theorem dX7_plot_39 : decode cX7_plot 39 = .ok (.iload_n 1, 1) := by decide +kernel
theorem dX7_plot_40 : decode cX7_plot 40 = .ok (.iload_n 2, 1) := by decide +kernel
theorem dX7_plot_41 : decode cX7_plot 41 = .ok (.invokevirtual 153, 3) := by decide +kernel
theorem dX7_plot_44 : decode cX7_plot 44 = .ok (.ireturn, 1) := by decide +kernel
theorem dX7_allWords_0 : decode cX7_allWords 0 = .ok (.iconst 0, 1) := by decide +kernel
theorem dX7_allWords_1 : decode cX7_allWords 1 = .ok (.istore_n 1, 1) := by decide +kernel
theorem dX7_allWords_2 : decode cX7_allWords 2 = .ok (.iconst 0, 1) := by decide +kernel
theorem dX7_allWords_3 : decode cX7_allWords 3 = .ok (.istore_n 2, 1) := by decide +kernel
theorem dX7_allWords_4 : decode cX7_allWords 4 = .ok (.iload_n 2, 1) := by decide +kernel
theorem dX7_allWords_5 : decode cX7_allWords 5 = .ok (.aload_n 0, 1) := by decide +kernel
theorem dX7_allWords_6 : decode cX7_allWords 6 = .ok (.getfield 7, 3) := by decide +kernel
theorem dX7_allWords_9 : decode cX7_allWords 9 = .ok (.iconst 0, 1) := by decide +kernel
theorem dX7_allWords_10 : decode cX7_allWords 10 = .ok (.iaload, 1) := by decide +kernel
theorem dX7_allWords_11 : decode cX7_allWords 11 = .ok (.if_icmp .ge 18, 3) := by decide +kernel
theorem dX7_allWords_14 : decode cX7_allWords 14 = .ok (.iload_n 1, 1) := by decide +kernel
theorem dX7_allWords_15 : decode cX7_allWords 15 = .ok (.aload_n 0, 1) := by decide +kernel
theorem dX7_allWords_16 : decode cX7_allWords 16 = .ok (.iload_n 2, 1) := by decide +kernel
theorem dX7_allWords_17 : decode cX7_allWords 17 = .ok (.iconst 2, 1) := by decide +kernel
theorem dX7_allWords_18 : decode cX7_allWords 18 = .ok (.invokevirtual 38, 3) := by decide +kernel
theorem dX7_allWords_21 : decode cX7_allWords 21 = .ok (.iadd, 1) := by decide +kernel
theorem dX7_allWords_22 : decode cX7_allWords 22 = .ok (.istore_n 1, 1) := by decide +kernel
theorem dX7_allWords_23 : decode cX7_allWords 23 = .ok (.iinc 2 1, 3) := by decide +kernel
theorem dX7_allWords_26 : decode cX7_allWords 26 = .ok (.goto (-22), 3) := by decide +kernel
theorem dX7_allWords_29 : decode cX7_allWords 29 = .ok (.iload_n 1, 1) := by decide +kernel
theorem dX7_allWords_30 : decode cX7_allWords 30 = .ok (.ireturn, 1) := by decide +kernel
theorem dX7_wordsRead_0 : decode cX7_wordsRead 0 = .ok (.iconst 0, 1) := by decide +kernel
theorem dX7_wordsRead_1 : decode cX7_wordsRead 1 = .ok (.istore_n 1, 1) := by decide +kernel
theorem dX7_wordsRead_2 : decode cX7_wordsRead 2 = .ok (.iconst 0, 1) := by decide +kernel
theorem dX7_wordsRead_3 : decode cX7_wordsRead 3 = .ok (.istore_n 2, 1) := by decide +kernel
theorem dX7_wordsRead_4 : decode cX7_wordsRead 4 = .ok (.iload_n 2, 1) := by decide +kernel
theorem dX7_wordsRead_5 : decode cX7_wordsRead 5 = .ok (.bipush 6, 2) := by decide +kernel
theorem dX7_wordsRead_7 : decode cX7_wordsRead 7 = .ok (.if_icmp .ge 23, 3) := by decide +kernel
theorem dX7_wordsRead_10 : decode cX7_wordsRead 10 = .ok (.iload_n 1, 1) := by decide +kernel
theorem dX7_wordsRead_11 : decode cX7_wordsRead 11 = .ok (.aload_n 0, 1) := by decide +kernel
theorem dX7_wordsRead_12 : decode cX7_wordsRead 12 = .ok (.getfield 7, 3) := by decide +kernel
theorem dX7_wordsRead_15 : decode cX7_wordsRead 15 = .ok (.bipush 65, 2) := by decide +kernel
theorem dX7_wordsRead_17 : decode cX7_wordsRead 17 = .ok (.iconst 3, 1) := by decide +kernel
theorem dX7_wordsRead_18 : decode cX7_wordsRead 18 = .ok (.iload_n 2, 1) := by decide +kernel
theorem dX7_wordsRead_19 : decode cX7_wordsRead 19 = .ok (.imul, 1) := by decide +kernel
theorem dX7_wordsRead_20 : decode cX7_wordsRead 20 = .ok (.iadd, 1) := by decide +kernel
theorem dX7_wordsRead_21 : decode cX7_wordsRead 21 = .ok (.iaload, 1) := by decide +kernel
theorem dX7_wordsRead_22 : decode cX7_wordsRead 22 = .ok (.iadd, 1) := by decide +kernel
theorem dX7_wordsRead_23 : decode cX7_wordsRead 23 = .ok (.istore_n 1, 1) := by decide +kernel
theorem dX7_wordsRead_24 : decode cX7_wordsRead 24 = .ok (.iinc 2 1, 3) := by decide +kernel
theorem dX7_wordsRead_27 : decode cX7_wordsRead 27 = .ok (.goto (-23), 3) := by decide +kernel
theorem dX7_wordsRead_30 : decode cX7_wordsRead 30 = .ok (.iload_n 1, 1) := by decide +kernel
theorem dX7_wordsRead_31 : decode cX7_wordsRead 31 = .ok (.ireturn, 1) := by decide +kernel
theorem dX7_knowAll_0 : decode cX7_knowAll 0 = .ok (.iconst 0, 1) := by decide +kernel
theorem dX7_knowAll_1 : decode cX7_knowAll 1 = .ok (.istore_n 1, 1) := by decide +kernel
theorem dX7_knowAll_2 : decode cX7_knowAll 2 = .ok (.iconst 0, 1) := by decide +kernel
theorem dX7_knowAll_3 : decode cX7_knowAll 3 = .ok (.istore_n 2, 1) := by decide +kernel
theorem dX7_knowAll_4 : decode cX7_knowAll 4 = .ok (.iload_n 2, 1) := by decide +kernel
theorem dX7_knowAll_5 : decode cX7_knowAll 5 = .ok (.bipush 6, 2) := by decide +kernel
theorem dX7_knowAll_7 : decode cX7_knowAll 7 = .ok (.if_icmp .ge 25, 3) := by decide +kernel
theorem dX7_knowAll_10 : decode cX7_knowAll 10 = .ok (.iload_n 1, 1) := by decide +kernel
theorem dX7_knowAll_11 : decode cX7_knowAll 11 = .ok (.aload_n 0, 1) := by decide +kernel
theorem dX7_knowAll_12 : decode cX7_knowAll 12 = .ok (.iload_n 2, 1) := by decide +kernel
theorem dX7_knowAll_13 : decode cX7_knowAll 13 = .ok (.invokevirtual 49, 3) := by decide +kernel
theorem dX7_knowAll_16 : decode cX7_knowAll 16 = .ok (.ifCond .ne 7, 3) := by decide +kernel
theorem dX7_knowAll_19 : decode cX7_knowAll 19 = .ok (.iconst 1, 1) := by decide +kernel
theorem dX7_knowAll_20 : decode cX7_knowAll 20 = .ok (.goto 4, 3) := by decide +kernel
theorem dX7_knowAll_23 : decode cX7_knowAll 23 = .ok (.iconst 0, 1) := by decide +kernel
theorem dX7_knowAll_24 : decode cX7_knowAll 24 = .ok (.iadd, 1) := by decide +kernel
theorem dX7_knowAll_25 : decode cX7_knowAll 25 = .ok (.istore_n 1, 1) := by decide +kernel
theorem dX7_knowAll_26 : decode cX7_knowAll 26 = .ok (.iinc 2 1, 3) := by decide +kernel
theorem dX7_knowAll_29 : decode cX7_knowAll 29 = .ok (.goto (-25), 3) := by decide +kernel
theorem dX7_knowAll_32 : decode cX7_knowAll 32 = .ok (.iload_n 1, 1) := by decide +kernel
theorem dX7_knowAll_33 : decode cX7_knowAll 33 = .ok (.ireturn, 1) := by decide +kernel
theorem dX7_counted_0 : decode cX7_counted 0 = .ok (.iload_n 1, 1) := by decide +kernel
theorem dX7_counted_1 : decode cX7_counted 1 = .ok (.tableswitch 72 0 5 #[39, 46, 51, 51, 62, 67], 39) := by decide +kernel
theorem dX7_counted_40 : decode cX7_counted 40 = .ok (.aload_n 0, 1) := by decide +kernel
theorem dX7_counted_41 : decode cX7_counted 41 = .ok (.getfield 7, 3) := by decide +kernel
theorem dX7_counted_44 : decode cX7_counted 44 = .ok (.iconst 0, 1) := by decide +kernel
theorem dX7_counted_45 : decode cX7_counted 45 = .ok (.iaload, 1) := by decide +kernel
theorem dX7_counted_46 : decode cX7_counted 46 = .ok (.ireturn, 1) := by decide +kernel
theorem dX7_counted_47 : decode cX7_counted 47 = .ok (.aload_n 0, 1) := by decide +kernel
theorem dX7_counted_48 : decode cX7_counted 48 = .ok (.invokevirtual 156, 3) := by decide +kernel
theorem dX7_counted_51 : decode cX7_counted 51 = .ok (.ireturn, 1) := by decide +kernel
theorem dX7_counted_52 : decode cX7_counted 52 = .ok (.aload_n 0, 1) := by decide +kernel
theorem dX7_counted_53 : decode cX7_counted 53 = .ok (.getfield 7, 3) := by decide +kernel
theorem dX7_counted_56 : decode cX7_counted 56 = .ok (.iconst 3, 1) := by decide +kernel
theorem dX7_counted_57 : decode cX7_counted 57 = .ok (.iload_n 1, 1) := by decide +kernel
theorem dX7_counted_58 : decode cX7_counted 58 = .ok (.iadd, 1) := by decide +kernel
theorem dX7_counted_59 : decode cX7_counted 59 = .ok (.iconst 2, 1) := by decide +kernel
theorem dX7_counted_60 : decode cX7_counted 60 = .ok (.isub, 1) := by decide +kernel
theorem dX7_counted_61 : decode cX7_counted 61 = .ok (.iaload, 1) := by decide +kernel
theorem dX7_counted_62 : decode cX7_counted 62 = .ok (.ireturn, 1) := by decide +kernel
theorem dX7_counted_63 : decode cX7_counted 63 = .ok (.aload_n 0, 1) := by decide +kernel
theorem dX7_counted_64 : decode cX7_counted 64 = .ok (.invokevirtual 159, 3) := by decide +kernel
theorem dX7_counted_67 : decode cX7_counted 67 = .ok (.ireturn, 1) := by decide +kernel
theorem dX7_counted_68 : decode cX7_counted 68 = .ok (.aload_n 0, 1) := by decide +kernel
theorem dX7_counted_69 : decode cX7_counted 69 = .ok (.invokevirtual 162, 3) := by decide +kernel
theorem dX7_counted_72 : decode cX7_counted 72 = .ok (.ireturn, 1) := by decide +kernel
theorem dX7_counted_73 : decode cX7_counted 73 = .ok (.aload_n 0, 1) := by decide +kernel
theorem dX7_counted_74 : decode cX7_counted 74 = .ok (.getfield 27, 3) := by decide +kernel
theorem dX7_counted_77 : decode cX7_counted 77 = .ok (.ireturn, 1) := by decide +kernel
theorem dX7_count_0 : decode cX7_count 0 = .ok (.aload_n 0, 1) := by decide +kernel
theorem dX7_count_1 : decode cX7_count 1 = .ok (.iload_n 1, 1) := by decide +kernel
theorem dX7_count_2 : decode cX7_count 2 = .ok (.iconst 0, 1) := by decide +kernel
theorem dX7_count_3 : decode cX7_count 3 = .ok (.bipush 6, 2) := by decide +kernel
theorem dX7_count_5 : decode cX7_count 5 = .ok (.invokestatic 34, 3) := by decide +kernel
theorem dX7_count_8 : decode cX7_count 8 = .ok (.ifCond .eq 7, 3) := by decide +kernel
theorem dX7_count_11 : decode cX7_count 11 = .ok (.iconst 0, 1) := by decide +kernel
theorem dX7_count_12 : decode cX7_count 12 = .ok (.goto 4, 3) := by decide +kernel
theorem dX7_count_15 : decode cX7_count 15 = .ok (.iconst 1, 1) := by decide +kernel
theorem dX7_count_16 : decode cX7_count 16 = .ok (.invokevirtual 30, 3) := by decide +kernel
theorem dX7_count_19 : decode cX7_count 19 = .ok (.ifCond .eq 7, 3) := by decide +kernel
theorem dX7_count_22 : decode cX7_count 22 = .ok (.iconst 0, 1) := by decide +kernel
theorem dX7_count_23 : decode cX7_count 23 = .ok (.goto 8, 3) := by decide +kernel
theorem dX7_count_26 : decode cX7_count 26 = .ok (.aload_n 0, 1) := by decide +kernel
theorem dX7_count_27 : decode cX7_count 27 = .ok (.iload_n 1, 1) := by decide +kernel
theorem dX7_count_28 : decode cX7_count 28 = .ok (.invokevirtual 165, 3) := by decide +kernel
theorem dX7_count_31 : decode cX7_count 31 = .ok (.ireturn, 1) := by decide +kernel
theorem dX7_setting_0 : decode cX7_setting 0 = .ok (.aload_n 0, 1) := by decide +kernel
theorem dX7_setting_1 : decode cX7_setting 1 = .ok (.iload_n 1, 1) := by decide +kernel
theorem dX7_setting_2 : decode cX7_setting 2 = .ok (.iconst 0, 1) := by decide +kernel
theorem dX7_setting_3 : decode cX7_setting 3 = .ok (.iconst 1, 1) := by decide +kernel
theorem dX7_setting_4 : decode cX7_setting 4 = .ok (.invokestatic 34, 3) := by decide +kernel
theorem dX7_setting_7 : decode cX7_setting 7 = .ok (.ifCond .eq 7, 3) := by decide +kernel
theorem dX7_setting_10 : decode cX7_setting 10 = .ok (.iconst 0, 1) := by decide +kernel
theorem dX7_setting_11 : decode cX7_setting 11 = .ok (.goto 4, 3) := by decide +kernel
theorem dX7_setting_14 : decode cX7_setting 14 = .ok (.iconst 1, 1) := by decide +kernel
theorem dX7_setting_15 : decode cX7_setting 15 = .ok (.invokevirtual 30, 3) := by decide +kernel
theorem dX7_setting_18 : decode cX7_setting 18 = .ok (.ifCond .eq 7, 3) := by decide +kernel
theorem dX7_setting_21 : decode cX7_setting 21 = .ok (.iconst 0, 1) := by decide +kernel
theorem dX7_setting_22 : decode cX7_setting 22 = .ok (.goto 11, 3) := by decide +kernel
theorem dX7_setting_25 : decode cX7_setting 25 = .ok (.aload_n 0, 1) := by decide +kernel
theorem dX7_setting_26 : decode cX7_setting 26 = .ok (.getfield 7, 3) := by decide +kernel
theorem dX7_setting_29 : decode cX7_setting 29 = .ok (.iconst 1, 1) := by decide +kernel
theorem dX7_setting_30 : decode cX7_setting 30 = .ok (.iload_n 1, 1) := by decide +kernel
theorem dX7_setting_31 : decode cX7_setting 31 = .ok (.iadd, 1) := by decide +kernel
theorem dX7_setting_32 : decode cX7_setting 32 = .ok (.iaload, 1) := by decide +kernel
theorem dX7_setting_33 : decode cX7_setting 33 = .ok (.ireturn, 1) := by decide +kernel
theorem dX7_recapOf_0 : decode cX7_recapOf 0 = .ok (.aload_n 0, 1) := by decide +kernel
theorem dX7_recapOf_1 : decode cX7_recapOf 1 = .ok (.iload_n 1, 1) := by decide +kernel
theorem dX7_recapOf_2 : decode cX7_recapOf 2 = .ok (.iload_n 2, 1) := by decide +kernel
theorem dX7_recapOf_3 : decode cX7_recapOf 3 = .ok (.invokevirtual 78, 3) := by decide +kernel
theorem dX7_recapOf_6 : decode cX7_recapOf 6 = .ok (.istore 4, 2) := by decide +kernel
theorem dX7_recapOf_8 : decode cX7_recapOf 8 = .ok (.aload_n 0, 1) := by decide +kernel
theorem dX7_recapOf_9 : decode cX7_recapOf 9 = .ok (.iload 4, 2) := by decide +kernel
theorem dX7_recapOf_11 : decode cX7_recapOf 11 = .ok (.invokevirtual 81, 3) := by decide +kernel
theorem dX7_recapOf_14 : decode cX7_recapOf 14 = .ok (.istore 5, 2) := by decide +kernel
theorem dX7_recapOf_16 : decode cX7_recapOf 16 = .ok (.iload_n 3, 1) := by decide +kernel
theorem dX7_recapOf_17 : decode cX7_recapOf 17 = .ok (.tableswitch 59 0 3 #[31, 37, 44, 47], 31) := by decide +kernel
theorem dX7_recapOf_48 : decode cX7_recapOf 48 = .ok (.iload 5, 2) := by decide +kernel
theorem dX7_recapOf_50 : decode cX7_recapOf 50 = .ok (.invokestatic 75, 3) := by decide +kernel
theorem dX7_recapOf_53 : decode cX7_recapOf 53 = .ok (.ireturn, 1) := by decide +kernel
theorem dX7_recapOf_54 : decode cX7_recapOf 54 = .ok (.aload_n 0, 1) := by decide +kernel
theorem dX7_recapOf_55 : decode cX7_recapOf 55 = .ok (.iload 5, 2) := by decide +kernel
theorem dX7_recapOf_57 : decode cX7_recapOf 57 = .ok (.invokevirtual 84, 3) := by decide +kernel
theorem dX7_recapOf_60 : decode cX7_recapOf 60 = .ok (.ireturn, 1) := by decide +kernel
theorem dX7_recapOf_61 : decode cX7_recapOf 61 = .ok (.iload 5, 2) := by decide +kernel
theorem dX7_recapOf_63 : decode cX7_recapOf 63 = .ok (.ireturn, 1) := by decide +kernel
theorem dX7_recapOf_64 : decode cX7_recapOf 64 = .ok (.iload 4, 2) := by decide +kernel
theorem dX7_recapOf_66 : decode cX7_recapOf 66 = .ok (.invokestatic 75, 3) := by decide +kernel
theorem dX7_recapOf_69 : decode cX7_recapOf 69 = .ok (.iload 5, 2) := by decide +kernel
theorem dX7_recapOf_71 : decode cX7_recapOf 71 = .ok (.invokestatic 75, 3) := by decide +kernel
theorem dX7_recapOf_74 : decode cX7_recapOf 74 = .ok (.isub, 1) := by decide +kernel
theorem dX7_recapOf_75 : decode cX7_recapOf 75 = .ok (.ireturn, 1) := by decide +kernel
theorem dX7_recapOf_76 : decode cX7_recapOf 76 = .ok (.aload_n 0, 1) := by decide +kernel
theorem dX7_recapOf_77 : decode cX7_recapOf 77 = .ok (.iload_n 2, 1) := by decide +kernel
theorem dX7_recapOf_78 : decode cX7_recapOf 78 = .ok (.iconst 2, 1) := by decide +kernel
theorem dX7_recapOf_79 : decode cX7_recapOf 79 = .ok (.invokevirtual 38, 3) := by decide +kernel
theorem dX7_recapOf_82 : decode cX7_recapOf 82 = .ok (.aload_n 0, 1) := by decide +kernel
theorem dX7_recapOf_83 : decode cX7_recapOf 83 = .ok (.iload 5, 2) := by decide +kernel
theorem dX7_recapOf_85 : decode cX7_recapOf 85 = .ok (.invokevirtual 84, 3) := by decide +kernel
theorem dX7_recapOf_88 : decode cX7_recapOf 88 = .ok (.iadd, 1) := by decide +kernel
theorem dX7_recapOf_89 : decode cX7_recapOf 89 = .ok (.ireturn, 1) := by decide +kernel
theorem dX7_recap_0 : decode cX7_recap 0 = .ok (.aload_n 0, 1) := by decide +kernel
theorem dX7_recap_1 : decode cX7_recap 1 = .ok (.iload_n 1, 1) := by decide +kernel
theorem dX7_recap_2 : decode cX7_recap 2 = .ok (.invokestatic 90, 3) := by decide +kernel
theorem dX7_recap_5 : decode cX7_recap 5 = .ok (.ifCond .eq 11, 3) := by decide +kernel
theorem dX7_recap_8 : decode cX7_recap 8 = .ok (.aload_n 0, 1) := by decide +kernel
theorem dX7_recap_9 : decode cX7_recap 9 = .ok (.iload_n 2, 1) := by decide +kernel
theorem dX7_recap_10 : decode cX7_recap 10 = .ok (.invokevirtual 69, 3) := by decide +kernel
theorem dX7_recap_13 : decode cX7_recap 13 = .ok (.ifCond .ne 7, 3) := by decide +kernel
theorem dX7_recap_16 : decode cX7_recap 16 = .ok (.iconst 1, 1) := by decide +kernel
theorem dX7_recap_17 : decode cX7_recap 17 = .ok (.goto 17, 3) := by decide +kernel
theorem dX7_recap_20 : decode cX7_recap 20 = .ok (.iload_n 3, 1) := by decide +kernel
theorem dX7_recap_21 : decode cX7_recap 21 = .ok (.iconst 0, 1) := by decide +kernel
theorem dX7_recap_22 : decode cX7_recap 22 = .ok (.iconst 4, 1) := by decide +kernel
theorem dX7_recap_23 : decode cX7_recap 23 = .ok (.invokestatic 34, 3) := by decide +kernel
theorem dX7_recap_26 : decode cX7_recap 26 = .ok (.ifCond .eq 7, 3) := by decide +kernel
theorem dX7_recap_29 : decode cX7_recap 29 = .ok (.iconst 0, 1) := by decide +kernel
theorem dX7_recap_30 : decode cX7_recap 30 = .ok (.goto 4, 3) := by decide +kernel
theorem dX7_recap_33 : decode cX7_recap 33 = .ok (.iconst 2, 1) := by decide +kernel
theorem dX7_recap_34 : decode cX7_recap 34 = .ok (.invokevirtual 30, 3) := by decide +kernel
theorem dX7_recap_37 : decode cX7_recap 37 = .ok (.ifCond .eq 7, 3) := by decide +kernel
theorem dX7_recap_40 : decode cX7_recap 40 = .ok (.iconst 0, 1) := by decide +kernel
theorem dX7_recap_41 : decode cX7_recap 41 = .ok (.goto 10, 3) := by decide +kernel
theorem dX7_recap_44 : decode cX7_recap 44 = .ok (.aload_n 0, 1) := by decide +kernel
theorem dX7_recap_45 : decode cX7_recap 45 = .ok (.iload_n 1, 1) := by decide +kernel
theorem dX7_recap_46 : decode cX7_recap 46 = .ok (.iload_n 2, 1) := by decide +kernel
theorem dX7_recap_47 : decode cX7_recap 47 = .ok (.iload_n 3, 1) := by decide +kernel
theorem dX7_recap_48 : decode cX7_recap 48 = .ok (.invokevirtual 168, 3) := by decide +kernel
theorem dX7_recap_51 : decode cX7_recap 51 = .ok (.ireturn, 1) := by decide +kernel
theorem dX7_easiestOf_0 : decode cX7_easiestOf 0 = .ok (.iconst (-1), 1) := by decide +kernel
theorem dX7_easiestOf_1 : decode cX7_easiestOf 1 = .ok (.istore_n 2, 1) := by decide +kernel
theorem dX7_easiestOf_2 : decode cX7_easiestOf 2 = .ok (.iconst 0, 1) := by decide +kernel
theorem dX7_easiestOf_3 : decode cX7_easiestOf 3 = .ok (.istore_n 3, 1) := by decide +kernel
theorem dX7_easiestOf_4 : decode cX7_easiestOf 4 = .ok (.iconst 0, 1) := by decide +kernel
theorem dX7_easiestOf_5 : decode cX7_easiestOf 5 = .ok (.istore 4, 2) := by decide +kernel
theorem dX7_easiestOf_7 : decode cX7_easiestOf 7 = .ok (.iconst 0, 1) := by decide +kernel
theorem dX7_easiestOf_8 : decode cX7_easiestOf 8 = .ok (.istore 5, 2) := by decide +kernel
theorem dX7_easiestOf_10 : decode cX7_easiestOf 10 = .ok (.iload 5, 2) := by decide +kernel
theorem dX7_easiestOf_12 : decode cX7_easiestOf 12 = .ok (.aload_n 0, 1) := by decide +kernel
theorem dX7_easiestOf_13 : decode cX7_easiestOf 13 = .ok (.getfield 7, 3) := by decide +kernel
theorem dX7_easiestOf_16 : decode cX7_easiestOf 16 = .ok (.iconst 0, 1) := by decide +kernel
theorem dX7_easiestOf_17 : decode cX7_easiestOf 17 = .ok (.iaload, 1) := by decide +kernel
theorem dX7_easiestOf_18 : decode cX7_easiestOf 18 = .ok (.if_icmp .ge 109, 3) := by decide +kernel
theorem dX7_easiestOf_21 : decode cX7_easiestOf 21 = .ok (.aload_n 0, 1) := by decide +kernel
theorem dX7_easiestOf_22 : decode cX7_easiestOf 22 = .ok (.iload_n 1, 1) := by decide +kernel
theorem dX7_easiestOf_23 : decode cX7_easiestOf 23 = .ok (.iload 5, 2) := by decide +kernel
theorem dX7_easiestOf_25 : decode cX7_easiestOf 25 = .ok (.iconst 3, 1) := by decide +kernel
theorem dX7_easiestOf_26 : decode cX7_easiestOf 26 = .ok (.invokevirtual 168, 3) := by decide +kernel
theorem dX7_easiestOf_29 : decode cX7_easiestOf 29 = .ok (.istore 6, 2) := by decide +kernel
theorem dX7_easiestOf_31 : decode cX7_easiestOf 31 = .ok (.aload_n 0, 1) := by decide +kernel
theorem dX7_easiestOf_32 : decode cX7_easiestOf 32 = .ok (.iload_n 1, 1) := by decide +kernel
theorem dX7_easiestOf_33 : decode cX7_easiestOf 33 = .ok (.iload 5, 2) := by decide +kernel
theorem dX7_easiestOf_35 : decode cX7_easiestOf 35 = .ok (.iconst 4, 1) := by decide +kernel
theorem dX7_easiestOf_36 : decode cX7_easiestOf 36 = .ok (.invokevirtual 168, 3) := by decide +kernel
theorem dX7_easiestOf_39 : decode cX7_easiestOf 39 = .ok (.istore 7, 2) := by decide +kernel
theorem dX7_easiestOf_41 : decode cX7_easiestOf 41 = .ok (.aload_n 0, 1) := by decide +kernel
theorem dX7_easiestOf_42 : decode cX7_easiestOf 42 = .ok (.iload_n 1, 1) := by decide +kernel
theorem dX7_easiestOf_43 : decode cX7_easiestOf 43 = .ok (.iload 5, 2) := by decide +kernel
theorem dX7_easiestOf_45 : decode cX7_easiestOf 45 = .ok (.invokevirtual 46, 3) := by decide +kernel
theorem dX7_easiestOf_48 : decode cX7_easiestOf 48 = .ok (.iconst 2, 1) := by decide +kernel
theorem dX7_easiestOf_49 : decode cX7_easiestOf 49 = .ok (.if_icmp .eq 31, 3) := by decide +kernel
theorem dX7_easiestOf_52 : decode cX7_easiestOf 52 = .ok (.iload_n 2, 1) := by decide +kernel
theorem dX7_easiestOf_53 : decode cX7_easiestOf 53 = .ok (.iconst (-1), 1) := by decide +kernel
theorem dX7_easiestOf_54 : decode cX7_easiestOf 54 = .ok (.if_icmp .eq 22, 3) := by decide +kernel
theorem dX7_easiestOf_57 : decode cX7_easiestOf 57 = .ok (.iload 6, 2) := by decide +kernel
theorem dX7_easiestOf_59 : decode cX7_easiestOf 59 = .ok (.iload_n 3, 1) := by decide +kernel
theorem dX7_easiestOf_60 : decode cX7_easiestOf 60 = .ok (.if_icmp .lt 16, 3) := by decide +kernel
theorem dX7_easiestOf_63 : decode cX7_easiestOf 63 = .ok (.iload 6, 2) := by decide +kernel
theorem dX7_easiestOf_65 : decode cX7_easiestOf 65 = .ok (.iload_n 3, 1) := by decide +kernel
theorem dX7_easiestOf_66 : decode cX7_easiestOf 66 = .ok (.if_icmp .ne 14, 3) := by decide +kernel
theorem dX7_easiestOf_69 : decode cX7_easiestOf 69 = .ok (.iload 7, 2) := by decide +kernel
theorem dX7_easiestOf_71 : decode cX7_easiestOf 71 = .ok (.iload 4, 2) := by decide +kernel
theorem dX7_easiestOf_73 : decode cX7_easiestOf 73 = .ok (.if_icmp .ge 7, 3) := by decide +kernel
theorem dX7_easiestOf_76 : decode cX7_easiestOf 76 = .ok (.iconst 1, 1) := by decide +kernel
theorem dX7_easiestOf_77 : decode cX7_easiestOf 77 = .ok (.goto 4, 3) := by decide +kernel
theorem dX7_easiestOf_80 : decode cX7_easiestOf 80 = .ok (.iconst 0, 1) := by decide +kernel
theorem dX7_easiestOf_81 : decode cX7_easiestOf 81 = .ok (.istore 8, 2) := by decide +kernel
theorem dX7_easiestOf_83 : decode cX7_easiestOf 83 = .ok (.iload 8, 2) := by decide +kernel
theorem dX7_easiestOf_85 : decode cX7_easiestOf 85 = .ok (.ifCond .eq 8, 3) := by decide +kernel
theorem dX7_easiestOf_88 : decode cX7_easiestOf 88 = .ok (.iload 5, 2) := by decide +kernel
theorem dX7_easiestOf_90 : decode cX7_easiestOf 90 = .ok (.goto 4, 3) := by decide +kernel
theorem dX7_easiestOf_93 : decode cX7_easiestOf 93 = .ok (.iload_n 2, 1) := by decide +kernel
theorem dX7_easiestOf_94 : decode cX7_easiestOf 94 = .ok (.istore_n 2, 1) := by decide +kernel
theorem dX7_easiestOf_95 : decode cX7_easiestOf 95 = .ok (.iload 8, 2) := by decide +kernel
theorem dX7_easiestOf_97 : decode cX7_easiestOf 97 = .ok (.ifCond .eq 8, 3) := by decide +kernel
theorem dX7_easiestOf_100 : decode cX7_easiestOf 100 = .ok (.iload 6, 2) := by decide +kernel
theorem dX7_easiestOf_102 : decode cX7_easiestOf 102 = .ok (.goto 4, 3) := by decide +kernel
theorem dX7_easiestOf_105 : decode cX7_easiestOf 105 = .ok (.iload_n 3, 1) := by decide +kernel
theorem dX7_easiestOf_106 : decode cX7_easiestOf 106 = .ok (.istore_n 3, 1) := by decide +kernel
theorem dX7_easiestOf_107 : decode cX7_easiestOf 107 = .ok (.iload 8, 2) := by decide +kernel
theorem dX7_easiestOf_109 : decode cX7_easiestOf 109 = .ok (.ifCond .eq 8, 3) := by decide +kernel
theorem dX7_easiestOf_112 : decode cX7_easiestOf 112 = .ok (.iload 7, 2) := by decide +kernel
theorem dX7_easiestOf_114 : decode cX7_easiestOf 114 = .ok (.goto 5, 3) := by decide +kernel
theorem dX7_easiestOf_117 : decode cX7_easiestOf 117 = .ok (.iload 4, 2) := by decide +kernel
theorem dX7_easiestOf_119 : decode cX7_easiestOf 119 = .ok (.istore 4, 2) := by decide +kernel
theorem dX7_easiestOf_121 : decode cX7_easiestOf 121 = .ok (.iinc 5 1, 3) := by decide +kernel
theorem dX7_easiestOf_124 : decode cX7_easiestOf 124 = .ok (.goto (-114), 3) := by decide +kernel
theorem dX7_easiestOf_127 : decode cX7_easiestOf 127 = .ok (.iload_n 2, 1) := by decide +kernel
theorem dX7_easiestOf_128 : decode cX7_easiestOf 128 = .ok (.ireturn, 1) := by decide +kernel
theorem dX7_easiest_0 : decode cX7_easiest 0 = .ok (.aload_n 0, 1) := by decide +kernel
theorem dX7_easiest_1 : decode cX7_easiest 1 = .ok (.iload_n 1, 1) := by decide +kernel
theorem dX7_easiest_2 : decode cX7_easiest 2 = .ok (.invokestatic 90, 3) := by decide +kernel
theorem dX7_easiest_5 : decode cX7_easiest 5 = .ok (.ifCond .eq 7, 3) := by decide +kernel
theorem dX7_easiest_8 : decode cX7_easiest 8 = .ok (.iconst 0, 1) := by decide +kernel
theorem dX7_easiest_9 : decode cX7_easiest 9 = .ok (.goto 4, 3) := by decide +kernel
theorem dX7_easiest_12 : decode cX7_easiest 12 = .ok (.iconst 1, 1) := by decide +kernel
theorem dX7_easiest_13 : decode cX7_easiest 13 = .ok (.invokevirtual 30, 3) := by decide +kernel
theorem dX7_easiest_16 : decode cX7_easiest 16 = .ok (.ifCond .eq 7, 3) := by decide +kernel
theorem dX7_easiest_19 : decode cX7_easiest 19 = .ok (.iconst 0, 1) := by decide +kernel
theorem dX7_easiest_20 : decode cX7_easiest 20 = .ok (.goto 8, 3) := by decide +kernel
theorem dX7_easiest_23 : decode cX7_easiest 23 = .ok (.aload_n 0, 1) := by decide +kernel
theorem dX7_easiest_24 : decode cX7_easiest 24 = .ok (.iload_n 1, 1) := by decide +kernel
theorem dX7_easiest_25 : decode cX7_easiest 25 = .ok (.invokevirtual 172, 3) := by decide +kernel
theorem dX7_easiest_28 : decode cX7_easiest 28 = .ok (.ireturn, 1) := by decide +kernel
theorem dX7_enoughOf_0 : decode cX7_enoughOf 0 = .ok (.iconst 0, 1) := by decide +kernel
theorem dX7_enoughOf_1 : decode cX7_enoughOf 1 = .ok (.istore_n 2, 1) := by decide +kernel
theorem dX7_enoughOf_2 : decode cX7_enoughOf 2 = .ok (.iconst 0, 1) := by decide +kernel
theorem dX7_enoughOf_3 : decode cX7_enoughOf 3 = .ok (.istore_n 3, 1) := by decide +kernel
theorem dX7_enoughOf_4 : decode cX7_enoughOf 4 = .ok (.iload_n 3, 1) := by decide +kernel
theorem dX7_enoughOf_5 : decode cX7_enoughOf 5 = .ok (.aload_n 0, 1) := by decide +kernel
theorem dX7_enoughOf_6 : decode cX7_enoughOf 6 = .ok (.getfield 7, 3) := by decide +kernel
theorem dX7_enoughOf_9 : decode cX7_enoughOf 9 = .ok (.iconst 0, 1) := by decide +kernel
theorem dX7_enoughOf_10 : decode cX7_enoughOf 10 = .ok (.iaload, 1) := by decide +kernel
theorem dX7_enoughOf_11 : decode cX7_enoughOf 11 = .ok (.if_icmp .ge 47, 3) := by decide +kernel
theorem dX7_enoughOf_14 : decode cX7_enoughOf 14 = .ok (.aload_n 0, 1) := by decide +kernel
theorem dX7_enoughOf_15 : decode cX7_enoughOf 15 = .ok (.iload_n 1, 1) := by decide +kernel
theorem dX7_enoughOf_16 : decode cX7_enoughOf 16 = .ok (.iload_n 3, 1) := by decide +kernel
theorem dX7_enoughOf_17 : decode cX7_enoughOf 17 = .ok (.invokevirtual 46, 3) := by decide +kernel
theorem dX7_enoughOf_20 : decode cX7_enoughOf 20 = .ok (.iconst 2, 1) := by decide +kernel
theorem dX7_enoughOf_21 : decode cX7_enoughOf 21 = .ok (.if_icmp .ne 7, 3) := by decide +kernel
theorem dX7_enoughOf_24 : decode cX7_enoughOf 24 = .ok (.iconst 0, 1) := by decide +kernel
theorem dX7_enoughOf_25 : decode cX7_enoughOf 25 = .ok (.goto 12, 3) := by decide +kernel
theorem dX7_enoughOf_28 : decode cX7_enoughOf 28 = .ok (.aload_n 0, 1) := by decide +kernel
theorem dX7_enoughOf_29 : decode cX7_enoughOf 29 = .ok (.iload_n 1, 1) := by decide +kernel
theorem dX7_enoughOf_30 : decode cX7_enoughOf 30 = .ok (.iload_n 3, 1) := by decide +kernel
theorem dX7_enoughOf_31 : decode cX7_enoughOf 31 = .ok (.invokevirtual 78, 3) := by decide +kernel
theorem dX7_enoughOf_34 : decode cX7_enoughOf 34 = .ok (.invokestatic 75, 3) := by decide +kernel
theorem dX7_enoughOf_37 : decode cX7_enoughOf 37 = .ok (.istore 4, 2) := by decide +kernel
theorem dX7_enoughOf_39 : decode cX7_enoughOf 39 = .ok (.iload 4, 2) := by decide +kernel
theorem dX7_enoughOf_41 : decode cX7_enoughOf 41 = .ok (.iload_n 2, 1) := by decide +kernel
theorem dX7_enoughOf_42 : decode cX7_enoughOf 42 = .ok (.if_icmp .le 8, 3) := by decide +kernel
theorem dX7_enoughOf_45 : decode cX7_enoughOf 45 = .ok (.iload 4, 2) := by decide +kernel
theorem dX7_enoughOf_47 : decode cX7_enoughOf 47 = .ok (.goto 4, 3) := by decide +kernel
theorem dX7_enoughOf_50 : decode cX7_enoughOf 50 = .ok (.iload_n 2, 1) := by decide +kernel
theorem dX7_enoughOf_51 : decode cX7_enoughOf 51 = .ok (.istore_n 2, 1) := by decide +kernel
theorem dX7_enoughOf_52 : decode cX7_enoughOf 52 = .ok (.iinc 3 1, 3) := by decide +kernel
theorem dX7_enoughOf_55 : decode cX7_enoughOf 55 = .ok (.goto (-51), 3) := by decide +kernel
theorem dX7_enoughOf_58 : decode cX7_enoughOf 58 = .ok (.iload_n 2, 1) := by decide +kernel
theorem dX7_enoughOf_59 : decode cX7_enoughOf 59 = .ok (.ireturn, 1) := by decide +kernel
theorem dX7_enough_0 : decode cX7_enough 0 = .ok (.aload_n 0, 1) := by decide +kernel
theorem dX7_enough_1 : decode cX7_enough 1 = .ok (.iload_n 1, 1) := by decide +kernel
theorem dX7_enough_2 : decode cX7_enough 2 = .ok (.invokestatic 90, 3) := by decide +kernel
theorem dX7_enough_5 : decode cX7_enough 5 = .ok (.ifCond .eq 7, 3) := by decide +kernel
theorem dX7_enough_8 : decode cX7_enough 8 = .ok (.iconst 0, 1) := by decide +kernel
theorem dX7_enough_9 : decode cX7_enough 9 = .ok (.goto 4, 3) := by decide +kernel
theorem dX7_enough_12 : decode cX7_enough 12 = .ok (.iconst 1, 1) := by decide +kernel
theorem dX7_enough_13 : decode cX7_enough 13 = .ok (.invokevirtual 30, 3) := by decide +kernel
theorem dX7_enough_16 : decode cX7_enough 16 = .ok (.ifCond .eq 7, 3) := by decide +kernel
theorem dX7_enough_19 : decode cX7_enough 19 = .ok (.iconst 0, 1) := by decide +kernel
theorem dX7_enough_20 : decode cX7_enough 20 = .ok (.goto 8, 3) := by decide +kernel
theorem dX7_enough_23 : decode cX7_enough 23 = .ok (.aload_n 0, 1) := by decide +kernel
theorem dX7_enough_24 : decode cX7_enough 24 = .ok (.iload_n 1, 1) := by decide +kernel
theorem dX7_enough_25 : decode cX7_enough 25 = .ok (.invokevirtual 175, 3) := by decide +kernel
theorem dX7_enough_28 : decode cX7_enough 28 = .ok (.ireturn, 1) := by decide +kernel
theorem dX7_share_0 : decode cX7_share 0 = .ok (.iconst 0, 1) := by decide +kernel
theorem dX7_share_1 : decode cX7_share 1 = .ok (.istore_n 1, 1) := by decide +kernel
theorem dX7_share_2 : decode cX7_share 2 = .ok (.iconst 0, 1) := by decide +kernel
theorem dX7_share_3 : decode cX7_share 3 = .ok (.istore_n 2, 1) := by decide +kernel
theorem dX7_share_4 : decode cX7_share 4 = .ok (.iload_n 2, 1) := by decide +kernel
theorem dX7_share_5 : decode cX7_share 5 = .ok (.bipush 6, 2) := by decide +kernel
theorem dX7_share_7 : decode cX7_share 7 = .ok (.if_icmp .ge 18, 3) := by decide +kernel
theorem dX7_share_10 : decode cX7_share 10 = .ok (.iload_n 1, 1) := by decide +kernel
theorem dX7_share_11 : decode cX7_share 11 = .ok (.aload_n 0, 1) := by decide +kernel
theorem dX7_share_12 : decode cX7_share 12 = .ok (.iload_n 2, 1) := by decide +kernel
theorem dX7_share_13 : decode cX7_share 13 = .ok (.iconst 2, 1) := by decide +kernel
theorem dX7_share_14 : decode cX7_share 14 = .ok (.invokevirtual 135, 3) := by decide +kernel
theorem dX7_share_17 : decode cX7_share 17 = .ok (.iadd, 1) := by decide +kernel
theorem dX7_share_18 : decode cX7_share 18 = .ok (.istore_n 1, 1) := by decide +kernel
theorem dX7_share_19 : decode cX7_share 19 = .ok (.iinc 2 1, 3) := by decide +kernel
theorem dX7_share_22 : decode cX7_share 22 = .ok (.goto (-18), 3) := by decide +kernel
theorem dX7_share_25 : decode cX7_share 25 = .ok (.aload_n 0, 1) := by decide +kernel
theorem dX7_share_26 : decode cX7_share 26 = .ok (.getfield 7, 3) := by decide +kernel
theorem dX7_share_29 : decode cX7_share 29 = .ok (.iconst 0, 1) := by decide +kernel
theorem dX7_share_30 : decode cX7_share 30 = .ok (.iaload, 1) := by decide +kernel
theorem dX7_share_31 : decode cX7_share 31 = .ok (.ifCond .ne 7, 3) := by decide +kernel
theorem dX7_share_34 : decode cX7_share 34 = .ok (.dconst 1, 1) := by decide +kernel
theorem dX7_share_35 : decode cX7_share 35 = .ok (.goto 16, 3) := by decide +kernel
theorem dX7_share_38 : decode cX7_share 38 = .ok (.iload_n 1, 1) := by decide +kernel
theorem dX7_share_39 : decode cX7_share 39 = .ok (.i2d, 1) := by decide +kernel
theorem dX7_share_40 : decode cX7_share 40 = .ok (.bipush 6, 2) := by decide +kernel
theorem dX7_share_42 : decode cX7_share 42 = .ok (.aload_n 0, 1) := by decide +kernel
theorem dX7_share_43 : decode cX7_share 43 = .ok (.getfield 7, 3) := by decide +kernel
theorem dX7_share_46 : decode cX7_share 46 = .ok (.iconst 0, 1) := by decide +kernel
theorem dX7_share_47 : decode cX7_share 47 = .ok (.iaload, 1) := by decide +kernel
theorem dX7_share_48 : decode cX7_share 48 = .ok (.imul, 1) := by decide +kernel
theorem dX7_share_49 : decode cX7_share 49 = .ok (.i2d, 1) := by decide +kernel
theorem dX7_share_50 : decode cX7_share 50 = .ok (.ddiv, 1) := by decide +kernel
theorem dX7_share_51 : decode cX7_share 51 = .ok (.dreturn, 1) := by decide +kernel
theorem dX7_readShare_0 : decode cX7_readShare 0 = .ok (.aload_n 0, 1) := by decide +kernel
theorem dX7_readShare_1 : decode cX7_readShare 1 = .ok (.iconst 0, 1) := by decide +kernel
theorem dX7_readShare_2 : decode cX7_readShare 2 = .ok (.putfield 23, 3) := by decide +kernel
theorem dX7_readShare_5 : decode cX7_readShare 5 = .ok (.aload_n 0, 1) := by decide +kernel
theorem dX7_readShare_6 : decode cX7_readShare 6 = .ok (.invokevirtual 178, 3) := by decide +kernel
theorem dX7_readShare_9 : decode cX7_readShare 9 = .ok (.dreturn, 1) := by decide +kernel
theorem dX7_mixes_0 : decode cX7_mixes 0 = .ok (.aload_n 0, 1) := by decide +kernel
theorem dX7_mixes_1 : decode cX7_mixes 1 = .ok (.ldc2_w 182, 3) := by decide +kernel
theorem dX7_mixes_4 : decode cX7_mixes 4 = .ok (.aload_n 0, 1) := by decide +kernel
theorem dX7_mixes_5 : decode cX7_mixes 5 = .ok (.getfield 184, 3) := by decide +kernel
theorem dX7_mixes_8 : decode cX7_mixes 8 = .ok (.lmul, 1) := by decide +kernel
theorem dX7_mixes_9 : decode cX7_mixes 9 = .ok (.lload_n 1, 1) := by decide +kernel
theorem dX7_mixes_10 : decode cX7_mixes 10 = .ok (.ladd, 1) := by decide +kernel
theorem dX7_mixes_11 : decode cX7_mixes 11 = .ok (.putfield 184, 3) := by decide +kernel
theorem dX7_mixes_14 : decode cX7_mixes 14 = .ok (.return_, 1) := by decide +kernel
theorem dX7_mixesReader_0 : decode cX7_mixesReader 0 = .ok (.iconst 0, 1) := by decide +kernel
theorem dX7_mixesReader_1 : decode cX7_mixesReader 1 = .ok (.istore_n 2, 1) := by decide +kernel
theorem dX7_mixesReader_2 : decode cX7_mixesReader 2 = .ok (.iload_n 2, 1) := by decide +kernel
theorem dX7_mixesReader_3 : decode cX7_mixesReader 3 = .ok (.aload_n 0, 1) := by decide +kernel
theorem dX7_mixesReader_4 : decode cX7_mixesReader 4 = .ok (.getfield 7, 3) := by decide +kernel
theorem dX7_mixesReader_7 : decode cX7_mixesReader 7 = .ok (.iconst 0, 1) := by decide +kernel
theorem dX7_mixesReader_8 : decode cX7_mixesReader 8 = .ok (.iaload, 1) := by decide +kernel
theorem dX7_mixesReader_9 : decode cX7_mixesReader 9 = .ok (.if_icmp .ge 20, 3) := by decide +kernel
theorem dX7_mixesReader_12 : decode cX7_mixesReader 12 = .ok (.aload_n 0, 1) := by decide +kernel
theorem dX7_mixesReader_13 : decode cX7_mixesReader 13 = .ok (.aload_n 0, 1) := by decide +kernel
theorem dX7_mixesReader_14 : decode cX7_mixesReader 14 = .ok (.iload_n 1, 1) := by decide +kernel
theorem dX7_mixesReader_15 : decode cX7_mixesReader 15 = .ok (.iload_n 2, 1) := by decide +kernel
theorem dX7_mixesReader_16 : decode cX7_mixesReader 16 = .ok (.invokevirtual 46, 3) := by decide +kernel
theorem dX7_mixesReader_19 : decode cX7_mixesReader 19 = .ok (.i2l, 1) := by decide +kernel
theorem dX7_mixesReader_20 : decode cX7_mixesReader 20 = .ok (.invokevirtual 188, 3) := by decide +kernel
theorem dX7_mixesReader_23 : decode cX7_mixesReader 23 = .ok (.iinc 2 1, 3) := by decide +kernel
theorem dX7_mixesReader_26 : decode cX7_mixesReader 26 = .ok (.goto (-24), 3) := by decide +kernel
theorem dX7_mixesReader_29 : decode cX7_mixesReader 29 = .ok (.iconst 0, 1) := by decide +kernel
theorem dX7_mixesReader_30 : decode cX7_mixesReader 30 = .ok (.istore_n 2, 1) := by decide +kernel
theorem dX7_mixesReader_31 : decode cX7_mixesReader 31 = .ok (.iload_n 2, 1) := by decide +kernel
theorem dX7_mixesReader_32 : decode cX7_mixesReader 32 = .ok (.bipush 7, 2) := by decide +kernel
theorem dX7_mixesReader_34 : decode cX7_mixesReader 34 = .ok (.if_icmp .ge 20, 3) := by decide +kernel
theorem dX7_mixesReader_37 : decode cX7_mixesReader 37 = .ok (.aload_n 0, 1) := by decide +kernel
theorem dX7_mixesReader_38 : decode cX7_mixesReader 38 = .ok (.aload_n 0, 1) := by decide +kernel
theorem dX7_mixesReader_39 : decode cX7_mixesReader 39 = .ok (.iload_n 1, 1) := by decide +kernel
theorem dX7_mixesReader_40 : decode cX7_mixesReader 40 = .ok (.iload_n 2, 1) := by decide +kernel
theorem dX7_mixesReader_41 : decode cX7_mixesReader 41 = .ok (.invokevirtual 141, 3) := by decide +kernel
theorem dX7_mixesReader_44 : decode cX7_mixesReader 44 = .ok (.i2l, 1) := by decide +kernel
theorem dX7_mixesReader_45 : decode cX7_mixesReader 45 = .ok (.invokevirtual 188, 3) := by decide +kernel
theorem dX7_mixesReader_48 : decode cX7_mixesReader 48 = .ok (.iinc 2 1, 3) := by decide +kernel
theorem dX7_mixesReader_51 : decode cX7_mixesReader 51 = .ok (.goto (-20), 3) := by decide +kernel
theorem dX7_mixesReader_54 : decode cX7_mixesReader 54 = .ok (.aload_n 0, 1) := by decide +kernel
theorem dX7_mixesReader_55 : decode cX7_mixesReader 55 = .ok (.aload_n 0, 1) := by decide +kernel
theorem dX7_mixesReader_56 : decode cX7_mixesReader 56 = .ok (.iload_n 1, 1) := by decide +kernel
theorem dX7_mixesReader_57 : decode cX7_mixesReader 57 = .ok (.invokevirtual 172, 3) := by decide +kernel
theorem dX7_mixesReader_60 : decode cX7_mixesReader 60 = .ok (.i2l, 1) := by decide +kernel
theorem dX7_mixesReader_61 : decode cX7_mixesReader 61 = .ok (.invokevirtual 188, 3) := by decide +kernel
theorem dX7_mixesReader_64 : decode cX7_mixesReader 64 = .ok (.aload_n 0, 1) := by decide +kernel
theorem dX7_mixesReader_65 : decode cX7_mixesReader 65 = .ok (.aload_n 0, 1) := by decide +kernel
theorem dX7_mixesReader_66 : decode cX7_mixesReader 66 = .ok (.iload_n 1, 1) := by decide +kernel
theorem dX7_mixesReader_67 : decode cX7_mixesReader 67 = .ok (.invokevirtual 175, 3) := by decide +kernel
theorem dX7_mixesReader_70 : decode cX7_mixesReader 70 = .ok (.i2l, 1) := by decide +kernel
theorem dX7_mixesReader_71 : decode cX7_mixesReader 71 = .ok (.invokevirtual 188, 3) := by decide +kernel
theorem dX7_mixesReader_74 : decode cX7_mixesReader 74 = .ok (.iconst 0, 1) := by decide +kernel
theorem dX7_mixesReader_75 : decode cX7_mixesReader 75 = .ok (.istore_n 2, 1) := by decide +kernel
theorem dX7_mixesReader_76 : decode cX7_mixesReader 76 = .ok (.iload_n 2, 1) := by decide +kernel
theorem dX7_mixesReader_77 : decode cX7_mixesReader 77 = .ok (.iconst 5, 1) := by decide +kernel
theorem dX7_mixesReader_78 : decode cX7_mixesReader 78 = .ok (.if_icmp .ge 37, 3) := by decide +kernel
theorem dX7_mixesReader_81 : decode cX7_mixesReader 81 = .ok (.aload_n 0, 1) := by decide +kernel
theorem dX7_mixesReader_82 : decode cX7_mixesReader 82 = .ok (.getfield 7, 3) := by decide +kernel
theorem dX7_mixesReader_85 : decode cX7_mixesReader 85 = .ok (.iconst 0, 1) := by decide +kernel
theorem dX7_mixesReader_86 : decode cX7_mixesReader 86 = .ok (.iaload, 1) := by decide +kernel
theorem dX7_mixesReader_87 : decode cX7_mixesReader 87 = .ok (.ifCond .le 28, 3) := by decide +kernel
theorem dX7_mixesReader_90 : decode cX7_mixesReader 90 = .ok (.aload_n 0, 1) := by decide +kernel
theorem dX7_mixesReader_91 : decode cX7_mixesReader 91 = .ok (.aload_n 0, 1) := by decide +kernel
theorem dX7_mixesReader_92 : decode cX7_mixesReader 92 = .ok (.iload_n 1, 1) := by decide +kernel
theorem dX7_mixesReader_93 : decode cX7_mixesReader 93 = .ok (.aload_n 0, 1) := by decide +kernel
theorem dX7_mixesReader_94 : decode cX7_mixesReader 94 = .ok (.getfield 7, 3) := by decide +kernel
theorem dX7_mixesReader_97 : decode cX7_mixesReader 97 = .ok (.iconst 0, 1) := by decide +kernel
theorem dX7_mixesReader_98 : decode cX7_mixesReader 98 = .ok (.iaload, 1) := by decide +kernel
theorem dX7_mixesReader_99 : decode cX7_mixesReader 99 = .ok (.iconst 1, 1) := by decide +kernel
theorem dX7_mixesReader_100 : decode cX7_mixesReader 100 = .ok (.isub, 1) := by decide +kernel
theorem dX7_mixesReader_101 : decode cX7_mixesReader 101 = .ok (.iload_n 2, 1) := by decide +kernel
theorem dX7_mixesReader_102 : decode cX7_mixesReader 102 = .ok (.invokevirtual 168, 3) := by decide +kernel
theorem dX7_mixesReader_105 : decode cX7_mixesReader 105 = .ok (.i2l, 1) := by decide +kernel
theorem dX7_mixesReader_106 : decode cX7_mixesReader 106 = .ok (.invokevirtual 188, 3) := by decide +kernel
theorem dX7_mixesReader_109 : decode cX7_mixesReader 109 = .ok (.iinc 2 1, 3) := by decide +kernel
theorem dX7_mixesReader_112 : decode cX7_mixesReader 112 = .ok (.goto (-36), 3) := by decide +kernel
theorem dX7_mixesReader_115 : decode cX7_mixesReader 115 = .ok (.return_, 1) := by decide +kernel
theorem dX7_digest_0 : decode cX7_digest 0 = .ok (.aload_n 0, 1) := by decide +kernel
theorem dX7_digest_1 : decode cX7_digest 1 = .ok (.iconst 0, 1) := by decide +kernel
theorem dX7_digest_2 : decode cX7_digest 2 = .ok (.putfield 23, 3) := by decide +kernel
theorem dX7_digest_5 : decode cX7_digest 5 = .ok (.aload_n 0, 1) := by decide +kernel
theorem dX7_digest_6 : decode cX7_digest 6 = .ok (.ldc2_w 192, 3) := by decide +kernel
theorem dX7_digest_9 : decode cX7_digest 9 = .ok (.putfield 184, 3) := by decide +kernel
theorem dX7_digest_12 : decode cX7_digest 12 = .ok (.iconst 0, 1) := by decide +kernel
theorem dX7_digest_13 : decode cX7_digest 13 = .ok (.istore_n 1, 1) := by decide +kernel
theorem dX7_digest_14 : decode cX7_digest 14 = .ok (.iload_n 1, 1) := by decide +kernel
theorem dX7_digest_15 : decode cX7_digest 15 = .ok (.bipush 7, 2) := by decide +kernel
theorem dX7_digest_17 : decode cX7_digest 17 = .ok (.if_icmp .ge 19, 3) := by decide +kernel
theorem dX7_digest_20 : decode cX7_digest 20 = .ok (.aload_n 0, 1) := by decide +kernel
theorem dX7_digest_21 : decode cX7_digest 21 = .ok (.aload_n 0, 1) := by decide +kernel
theorem dX7_digest_22 : decode cX7_digest 22 = .ok (.iload_n 1, 1) := by decide +kernel
theorem dX7_digest_23 : decode cX7_digest 23 = .ok (.invokevirtual 165, 3) := by decide +kernel
theorem dX7_digest_26 : decode cX7_digest 26 = .ok (.i2l, 1) := by decide +kernel
theorem dX7_digest_27 : decode cX7_digest 27 = .ok (.invokevirtual 188, 3) := by decide +kernel
theorem dX7_digest_30 : decode cX7_digest 30 = .ok (.iinc 1 1, 3) := by decide +kernel
theorem dX7_digest_33 : decode cX7_digest 33 = .ok (.goto (-19), 3) := by decide +kernel
theorem dX7_digest_36 : decode cX7_digest 36 = .ok (.aload_n 0, 1) := by decide +kernel
theorem dX7_digest_37 : decode cX7_digest 37 = .ok (.aload_n 0, 1) := by decide +kernel
theorem dX7_digest_38 : decode cX7_digest 38 = .ok (.getfield 7, 3) := by decide +kernel
theorem dX7_digest_41 : decode cX7_digest 41 = .ok (.iconst 1, 1) := by decide +kernel
theorem dX7_digest_42 : decode cX7_digest 42 = .ok (.iaload, 1) := by decide +kernel
theorem dX7_digest_43 : decode cX7_digest 43 = .ok (.i2l, 1) := by decide +kernel
theorem dX7_digest_44 : decode cX7_digest 44 = .ok (.invokevirtual 188, 3) := by decide +kernel
theorem dX7_digest_47 : decode cX7_digest 47 = .ok (.aload_n 0, 1) := by decide +kernel
theorem dX7_digest_48 : decode cX7_digest 48 = .ok (.aload_n 0, 1) := by decide +kernel
theorem dX7_digest_49 : decode cX7_digest 49 = .ok (.getfield 7, 3) := by decide +kernel
theorem dX7_digest_52 : decode cX7_digest 52 = .ok (.iconst 2, 1) := by decide +kernel
theorem dX7_digest_53 : decode cX7_digest 53 = .ok (.iaload, 1) := by decide +kernel
theorem dX7_digest_54 : decode cX7_digest 54 = .ok (.i2l, 1) := by decide +kernel
theorem dX7_digest_55 : decode cX7_digest 55 = .ok (.invokevirtual 188, 3) := by decide +kernel
theorem dX7_digest_58 : decode cX7_digest 58 = .ok (.iconst 0, 1) := by decide +kernel
theorem dX7_digest_59 : decode cX7_digest 59 = .ok (.istore_n 1, 1) := by decide +kernel
theorem dX7_digest_60 : decode cX7_digest 60 = .ok (.iload_n 1, 1) := by decide +kernel
theorem dX7_digest_61 : decode cX7_digest 61 = .ok (.bipush 7, 2) := by decide +kernel
theorem dX7_digest_63 : decode cX7_digest 63 = .ok (.aload_n 0, 1) := by decide +kernel
theorem dX7_digest_64 : decode cX7_digest 64 = .ok (.getfield 7, 3) := by decide +kernel
theorem dX7_digest_67 : decode cX7_digest 67 = .ok (.iconst 0, 1) := by decide +kernel
theorem dX7_digest_68 : decode cX7_digest 68 = .ok (.iaload, 1) := by decide +kernel
theorem dX7_digest_69 : decode cX7_digest 69 = .ok (.imul, 1) := by decide +kernel
theorem dX7_digest_70 : decode cX7_digest 70 = .ok (.if_icmp .ge 26, 3) := by decide +kernel
theorem dX7_digest_73 : decode cX7_digest 73 = .ok (.aload_n 0, 1) := by decide +kernel
theorem dX7_digest_74 : decode cX7_digest 74 = .ok (.aload_n 0, 1) := by decide +kernel
theorem dX7_digest_75 : decode cX7_digest 75 = .ok (.iload_n 1, 1) := by decide +kernel
theorem dX7_digest_76 : decode cX7_digest 76 = .ok (.bipush 7, 2) := by decide +kernel
theorem dX7_digest_78 : decode cX7_digest 78 = .ok (.idiv, 1) := by decide +kernel
theorem dX7_digest_79 : decode cX7_digest 79 = .ok (.iload_n 1, 1) := by decide +kernel
theorem dX7_digest_80 : decode cX7_digest 80 = .ok (.bipush 7, 2) := by decide +kernel
theorem dX7_digest_82 : decode cX7_digest 82 = .ok (.irem, 1) := by decide +kernel
theorem dX7_digest_83 : decode cX7_digest 83 = .ok (.invokevirtual 132, 3) := by decide +kernel
theorem dX7_digest_86 : decode cX7_digest 86 = .ok (.i2l, 1) := by decide +kernel
theorem dX7_digest_87 : decode cX7_digest 87 = .ok (.invokevirtual 188, 3) := by decide +kernel
theorem dX7_digest_90 : decode cX7_digest 90 = .ok (.iinc 1 1, 3) := by decide +kernel
theorem dX7_digest_93 : decode cX7_digest 93 = .ok (.goto (-33), 3) := by decide +kernel
theorem dX7_digest_96 : decode cX7_digest 96 = .ok (.iconst 0, 1) := by decide +kernel
theorem dX7_digest_97 : decode cX7_digest 97 = .ok (.istore_n 1, 1) := by decide +kernel
theorem dX7_digest_98 : decode cX7_digest 98 = .ok (.iload_n 1, 1) := by decide +kernel
theorem dX7_digest_99 : decode cX7_digest 99 = .ok (.bipush 6, 2) := by decide +kernel
theorem dX7_digest_101 : decode cX7_digest 101 = .ok (.if_icmp .ge 14, 3) := by decide +kernel
theorem dX7_digest_104 : decode cX7_digest 104 = .ok (.aload_n 0, 1) := by decide +kernel
theorem dX7_digest_105 : decode cX7_digest 105 = .ok (.iload_n 1, 1) := by decide +kernel
theorem dX7_digest_106 : decode cX7_digest 106 = .ok (.invokevirtual 194, 3) := by decide +kernel
theorem dX7_digest_109 : decode cX7_digest 109 = .ok (.iinc 1 1, 3) := by decide +kernel
theorem dX7_digest_112 : decode cX7_digest 112 = .ok (.goto (-14), 3) := by decide +kernel
theorem dX7_digest_115 : decode cX7_digest 115 = .ok (.iconst 0, 1) := by decide +kernel
theorem dX7_digest_116 : decode cX7_digest 116 = .ok (.istore_n 1, 1) := by decide +kernel
theorem dX7_digest_117 : decode cX7_digest 117 = .ok (.iload_n 1, 1) := by decide +kernel
theorem dX7_digest_118 : decode cX7_digest 118 = .ok (.bipush 24, 2) := by decide +kernel
theorem dX7_digest_120 : decode cX7_digest 120 = .ok (.if_icmp .ge 24, 3) := by decide +kernel
theorem dX7_digest_123 : decode cX7_digest 123 = .ok (.aload_n 0, 1) := by decide +kernel
theorem dX7_digest_124 : decode cX7_digest 124 = .ok (.aload_n 0, 1) := by decide +kernel
theorem dX7_digest_125 : decode cX7_digest 125 = .ok (.iload_n 1, 1) := by decide +kernel
theorem dX7_digest_126 : decode cX7_digest 126 = .ok (.iconst 4, 1) := by decide +kernel
theorem dX7_digest_127 : decode cX7_digest 127 = .ok (.idiv, 1) := by decide +kernel
theorem dX7_digest_128 : decode cX7_digest 128 = .ok (.iload_n 1, 1) := by decide +kernel
theorem dX7_digest_129 : decode cX7_digest 129 = .ok (.iconst 4, 1) := by decide +kernel
theorem dX7_digest_130 : decode cX7_digest 130 = .ok (.irem, 1) := by decide +kernel
theorem dX7_digest_131 : decode cX7_digest 131 = .ok (.invokevirtual 153, 3) := by decide +kernel
theorem dX7_digest_134 : decode cX7_digest 134 = .ok (.i2l, 1) := by decide +kernel
theorem dX7_digest_135 : decode cX7_digest 135 = .ok (.invokevirtual 188, 3) := by decide +kernel
theorem dX7_digest_138 : decode cX7_digest 138 = .ok (.iinc 1 1, 3) := by decide +kernel
theorem dX7_digest_141 : decode cX7_digest 141 = .ok (.goto (-24), 3) := by decide +kernel
theorem dX7_digest_144 : decode cX7_digest 144 = .ok (.aload_n 0, 1) := by decide +kernel
theorem dX7_digest_145 : decode cX7_digest 145 = .ok (.aload_n 0, 1) := by decide +kernel
theorem dX7_digest_146 : decode cX7_digest 146 = .ok (.invokevirtual 178, 3) := by decide +kernel
theorem dX7_digest_149 : decode cX7_digest 149 = .ok (.invokestatic 198, 3) := by decide +kernel
theorem dX7_digest_152 : decode cX7_digest 152 = .ok (.invokevirtual 188, 3) := by decide +kernel
theorem dX7_digest_155 : decode cX7_digest 155 = .ok (.aload_n 0, 1) := by decide +kernel
theorem dX7_digest_156 : decode cX7_digest 156 = .ok (.aload_n 0, 1) := by decide +kernel
theorem dX7_digest_157 : decode cX7_digest 157 = .ok (.getfield 96, 3) := by decide +kernel
theorem dX7_digest_160 : decode cX7_digest 160 = .ok (.i2l, 1) := by decide +kernel
theorem dX7_digest_161 : decode cX7_digest 161 = .ok (.invokevirtual 188, 3) := by decide +kernel
theorem dX7_digest_164 : decode cX7_digest 164 = .ok (.iconst 0, 1) := by decide +kernel
theorem dX7_digest_165 : decode cX7_digest 165 = .ok (.istore_n 1, 1) := by decide +kernel
theorem dX7_digest_166 : decode cX7_digest 166 = .ok (.iload_n 1, 1) := by decide +kernel
theorem dX7_digest_167 : decode cX7_digest 167 = .ok (.aload_n 0, 1) := by decide +kernel
theorem dX7_digest_168 : decode cX7_digest 168 = .ok (.getfield 96, 3) := by decide +kernel
theorem dX7_digest_171 : decode cX7_digest 171 = .ok (.if_icmp .ge 20, 3) := by decide +kernel
theorem dX7_digest_174 : decode cX7_digest 174 = .ok (.aload_n 0, 1) := by decide +kernel
theorem dX7_digest_175 : decode cX7_digest 175 = .ok (.aload_n 0, 1) := by decide +kernel
theorem dX7_digest_176 : decode cX7_digest 176 = .ok (.getfield 16, 3) := by decide +kernel
theorem dX7_digest_179 : decode cX7_digest 179 = .ok (.iload_n 1, 1) := by decide +kernel
theorem dX7_digest_180 : decode cX7_digest 180 = .ok (.caload, 1) := by decide +kernel
theorem dX7_digest_181 : decode cX7_digest 181 = .ok (.i2l, 1) := by decide +kernel
theorem dX7_digest_182 : decode cX7_digest 182 = .ok (.invokevirtual 188, 3) := by decide +kernel
theorem dX7_digest_185 : decode cX7_digest 185 = .ok (.iinc 1 1, 3) := by decide +kernel
theorem dX7_digest_188 : decode cX7_digest 188 = .ok (.goto (-22), 3) := by decide +kernel
theorem dX7_digest_191 : decode cX7_digest 191 = .ok (.aload_n 0, 1) := by decide +kernel
theorem dX7_digest_192 : decode cX7_digest 192 = .ok (.getfield 184, 3) := by decide +kernel
theorem dX7_digest_195 : decode cX7_digest 195 = .ok (.lreturn, 1) := by decide +kernel
theorem dJxe99ae_isNaN_b9ae7_0 : decode cJxe99ae_isNaN_b9ae7 0 = .ok (.dload_n 0, 1) := by decide +kernel
theorem dJxe99ae_isNaN_b9ae7_1 : decode cJxe99ae_isNaN_b9ae7 1 = .ok (.dload_n 0, 1) := by decide +kernel
theorem dJxe99ae_isNaN_b9ae7_2 : decode cJxe99ae_isNaN_b9ae7 2 = .ok (.dcmp .l, 1) := by decide +kernel
theorem dJxe99ae_isNaN_b9ae7_3 : decode cJxe99ae_isNaN_b9ae7 3 = .ok (.ifCond .eq 7, 3) := by decide +kernel
theorem dJxe99ae_isNaN_b9ae7_6 : decode cJxe99ae_isNaN_b9ae7 6 = .ok (.iconst 1, 1) := by decide +kernel
theorem dJxe99ae_isNaN_b9ae7_7 : decode cJxe99ae_isNaN_b9ae7 7 = .ok (.goto 4, 3) := by decide +kernel
theorem dJxe99ae_isNaN_b9ae7_10 : decode cJxe99ae_isNaN_b9ae7 10 = .ok (.iconst 0, 1) := by decide +kernel
theorem dJxe99ae_isNaN_b9ae7_11 : decode cJxe99ae_isNaN_b9ae7 11 = .ok (.ireturn, 1) := by decide +kernel
theorem dJxe99ae_doubleToLongBits_ccdee_0 : decode cJxe99ae_doubleToLongBits_ccdee 0 = .ok (.dload_n 0, 1) := by decide +kernel
theorem dJxe99ae_doubleToLongBits_ccdee_1 : decode cJxe99ae_doubleToLongBits_ccdee 1 = .ok (.invokestatic 122, 3) := by decide +kernel
theorem dJxe99ae_doubleToLongBits_ccdee_4 : decode cJxe99ae_doubleToLongBits_ccdee 4 = .ok (.ifCond .ne 8, 3) := by decide +kernel
theorem dJxe99ae_doubleToLongBits_ccdee_7 : decode cJxe99ae_doubleToLongBits_ccdee 7 = .ok (.dload_n 0, 1) := by decide +kernel
theorem dJxe99ae_doubleToLongBits_ccdee_8 : decode cJxe99ae_doubleToLongBits_ccdee 8 = .ok (.invokestatic 134, 3) := by decide +kernel
theorem dJxe99ae_doubleToLongBits_ccdee_11 : decode cJxe99ae_doubleToLongBits_ccdee 11 = .ok (.lreturn, 1) := by decide +kernel
theorem dJxe99ae_doubleToLongBits_ccdee_12 : decode cJxe99ae_doubleToLongBits_ccdee 12 = .ok (.ldc2_w 137, 3) := by decide +kernel
theorem dJxe99ae_doubleToLongBits_ccdee_15 : decode cJxe99ae_doubleToLongBits_ccdee 15 = .ok (.lreturn, 1) := by decide +kernel
theorem dJ6_bitCount_0f7a4_0 : decode cJ6_bitCount_0f7a4 0 = .ok (.iload_n 0, 1) := by decide +kernel
theorem dJ6_bitCount_0f7a4_1 : decode cJ6_bitCount_0f7a4 1 = .ok (.iload_n 0, 1) := by decide +kernel
theorem dJ6_bitCount_0f7a4_2 : decode cJ6_bitCount_0f7a4 2 = .ok (.iconst 1, 1) := by decide +kernel
theorem dJ6_bitCount_0f7a4_3 : decode cJ6_bitCount_0f7a4 3 = .ok (.iushr, 1) := by decide +kernel
theorem dJ6_bitCount_0f7a4_4 : decode cJ6_bitCount_0f7a4 4 = .ok (.ldc_w 265, 3) := by decide +kernel
theorem dJ6_bitCount_0f7a4_7 : decode cJ6_bitCount_0f7a4 7 = .ok (.iand, 1) := by decide +kernel
theorem dJ6_bitCount_0f7a4_8 : decode cJ6_bitCount_0f7a4 8 = .ok (.isub, 1) := by decide +kernel
theorem dJ6_bitCount_0f7a4_9 : decode cJ6_bitCount_0f7a4 9 = .ok (.istore_n 0, 1) := by decide +kernel
theorem dJ6_bitCount_0f7a4_10 : decode cJ6_bitCount_0f7a4 10 = .ok (.iload_n 0, 1) := by decide +kernel
theorem dJ6_bitCount_0f7a4_11 : decode cJ6_bitCount_0f7a4 11 = .ok (.ldc_w 266, 3) := by decide +kernel
theorem dJ6_bitCount_0f7a4_14 : decode cJ6_bitCount_0f7a4 14 = .ok (.iand, 1) := by decide +kernel
theorem dJ6_bitCount_0f7a4_15 : decode cJ6_bitCount_0f7a4 15 = .ok (.iload_n 0, 1) := by decide +kernel
theorem dJ6_bitCount_0f7a4_16 : decode cJ6_bitCount_0f7a4 16 = .ok (.iconst 2, 1) := by decide +kernel
theorem dJ6_bitCount_0f7a4_17 : decode cJ6_bitCount_0f7a4 17 = .ok (.iushr, 1) := by decide +kernel
theorem dJ6_bitCount_0f7a4_18 : decode cJ6_bitCount_0f7a4 18 = .ok (.ldc_w 266, 3) := by decide +kernel
theorem dJ6_bitCount_0f7a4_21 : decode cJ6_bitCount_0f7a4 21 = .ok (.iand, 1) := by decide +kernel
theorem dJ6_bitCount_0f7a4_22 : decode cJ6_bitCount_0f7a4 22 = .ok (.iadd, 1) := by decide +kernel
theorem dJ6_bitCount_0f7a4_23 : decode cJ6_bitCount_0f7a4 23 = .ok (.istore_n 0, 1) := by decide +kernel
theorem dJ6_bitCount_0f7a4_24 : decode cJ6_bitCount_0f7a4 24 = .ok (.iload_n 0, 1) := by decide +kernel
theorem dJ6_bitCount_0f7a4_25 : decode cJ6_bitCount_0f7a4 25 = .ok (.iload_n 0, 1) := by decide +kernel
theorem dJ6_bitCount_0f7a4_26 : decode cJ6_bitCount_0f7a4 26 = .ok (.iconst 4, 1) := by decide +kernel
theorem dJ6_bitCount_0f7a4_27 : decode cJ6_bitCount_0f7a4 27 = .ok (.iushr, 1) := by decide +kernel
theorem dJ6_bitCount_0f7a4_28 : decode cJ6_bitCount_0f7a4 28 = .ok (.iadd, 1) := by decide +kernel
theorem dJ6_bitCount_0f7a4_29 : decode cJ6_bitCount_0f7a4 29 = .ok (.ldc_w 267, 3) := by decide +kernel
theorem dJ6_bitCount_0f7a4_32 : decode cJ6_bitCount_0f7a4 32 = .ok (.iand, 1) := by decide +kernel
theorem dJ6_bitCount_0f7a4_33 : decode cJ6_bitCount_0f7a4 33 = .ok (.istore_n 0, 1) := by decide +kernel
theorem dJ6_bitCount_0f7a4_34 : decode cJ6_bitCount_0f7a4 34 = .ok (.iload_n 0, 1) := by decide +kernel
theorem dJ6_bitCount_0f7a4_35 : decode cJ6_bitCount_0f7a4 35 = .ok (.iload_n 0, 1) := by decide +kernel
theorem dJ6_bitCount_0f7a4_36 : decode cJ6_bitCount_0f7a4 36 = .ok (.bipush 8, 2) := by decide +kernel
theorem dJ6_bitCount_0f7a4_38 : decode cJ6_bitCount_0f7a4 38 = .ok (.iushr, 1) := by decide +kernel
theorem dJ6_bitCount_0f7a4_39 : decode cJ6_bitCount_0f7a4 39 = .ok (.iadd, 1) := by decide +kernel
theorem dJ6_bitCount_0f7a4_40 : decode cJ6_bitCount_0f7a4 40 = .ok (.istore_n 0, 1) := by decide +kernel
theorem dJ6_bitCount_0f7a4_41 : decode cJ6_bitCount_0f7a4 41 = .ok (.iload_n 0, 1) := by decide +kernel
theorem dJ6_bitCount_0f7a4_42 : decode cJ6_bitCount_0f7a4 42 = .ok (.iload_n 0, 1) := by decide +kernel
theorem dJ6_bitCount_0f7a4_43 : decode cJ6_bitCount_0f7a4 43 = .ok (.bipush 16, 2) := by decide +kernel
theorem dJ6_bitCount_0f7a4_45 : decode cJ6_bitCount_0f7a4 45 = .ok (.iushr, 1) := by decide +kernel
theorem dJ6_bitCount_0f7a4_46 : decode cJ6_bitCount_0f7a4 46 = .ok (.iadd, 1) := by decide +kernel
theorem dJ6_bitCount_0f7a4_47 : decode cJ6_bitCount_0f7a4 47 = .ok (.istore_n 0, 1) := by decide +kernel
theorem dJ6_bitCount_0f7a4_48 : decode cJ6_bitCount_0f7a4 48 = .ok (.iload_n 0, 1) := by decide +kernel
theorem dJ6_bitCount_0f7a4_49 : decode cJ6_bitCount_0f7a4 49 = .ok (.bipush 63, 2) := by decide +kernel
theorem dJ6_bitCount_0f7a4_51 : decode cJ6_bitCount_0f7a4 51 = .ok (.iand, 1) := by decide +kernel
theorem dJ6_bitCount_0f7a4_52 : decode cJ6_bitCount_0f7a4 52 = .ok (.ireturn, 1) := by decide +kernel
theorem dJ9_max_7cf53_0 : decode cJ9_max_7cf53 0 = .ok (.iload_n 0, 1) := by decide +kernel
theorem dJ9_max_7cf53_1 : decode cJ9_max_7cf53 1 = .ok (.iload_n 1, 1) := by decide +kernel
theorem dJ9_max_7cf53_2 : decode cJ9_max_7cf53 2 = .ok (.if_icmp .lt 7, 3) := by decide +kernel
theorem dJ9_max_7cf53_5 : decode cJ9_max_7cf53 5 = .ok (.iload_n 0, 1) := by decide +kernel
theorem dJ9_max_7cf53_6 : decode cJ9_max_7cf53 6 = .ok (.goto 4, 3) := by decide +kernel
theorem dJ9_max_7cf53_9 : decode cJ9_max_7cf53 9 = .ok (.iload_n 1, 1) := by decide +kernel
theorem dJ9_max_7cf53_10 : decode cJ9_max_7cf53 10 = .ok (.ireturn, 1) := by decide +kernel
theorem dL_add_0 : decode cL_add 0 = .ok (.aload 4, 2) := by decide +kernel
theorem dL_add_2 : decode cL_add 2 = .ok (.iconst 0, 1) := by decide +kernel
theorem dL_add_3 : decode cL_add 3 = .ok (.aload_n 0, 1) := by decide +kernel
theorem dL_add_4 : decode cL_add 4 = .ok (.iload_n 1, 1) := by decide +kernel
theorem dL_add_5 : decode cL_add 5 = .ok (.iload_n 2, 1) := by decide +kernel
theorem dL_add_6 : decode cL_add 6 = .ok (.iload_n 3, 1) := by decide +kernel
theorem dL_add_7 : decode cL_add 7 = .ok (.invokevirtual 7, 3) := by decide +kernel
theorem dL_add_10 : decode cL_add 10 = .ok (.i2l, 1) := by decide +kernel
theorem dL_add_11 : decode cL_add 11 = .ok (.lastore, 1) := by decide +kernel
theorem dL_add_12 : decode cL_add 12 = .ok (.goto 11, 3) := by decide +kernel
theorem dL_add_15 : decode cL_add 15 = .ok (.astore 5, 2) := by decide +kernel
theorem dL_add_17 : decode cL_add 17 = .ok (.iconst 1, 1) := by decide +kernel
theorem dL_add_18 : decode cL_add 18 = .ok (.ireturn, 1) := by decide +kernel
theorem dL_add_19 : decode cL_add 19 = .ok (.astore 5, 2) := by decide +kernel
theorem dL_add_21 : decode cL_add 21 = .ok (.iconst 2, 1) := by decide +kernel
theorem dL_add_22 : decode cL_add 22 = .ok (.ireturn, 1) := by decide +kernel
theorem dL_add_23 : decode cL_add 23 = .ok (.iconst 0, 1) := by decide +kernel
theorem dL_add_24 : decode cL_add 24 = .ok (.ireturn, 1) := by decide +kernel
theorem dL_change_0 : decode cL_change 0 = .ok (.aload 4, 2) := by decide +kernel
theorem dL_change_2 : decode cL_change 2 = .ok (.iconst 0, 1) := by decide +kernel
theorem dL_change_3 : decode cL_change 3 = .ok (.aload_n 0, 1) := by decide +kernel
theorem dL_change_4 : decode cL_change 4 = .ok (.iload_n 1, 1) := by decide +kernel
theorem dL_change_5 : decode cL_change 5 = .ok (.iload_n 2, 1) := by decide +kernel
theorem dL_change_6 : decode cL_change 6 = .ok (.iload_n 3, 1) := by decide +kernel
theorem dL_change_7 : decode cL_change 7 = .ok (.invokevirtual 17, 3) := by decide +kernel
theorem dL_change_10 : decode cL_change 10 = .ok (.i2l, 1) := by decide +kernel
theorem dL_change_11 : decode cL_change 11 = .ok (.lastore, 1) := by decide +kernel
theorem dL_change_12 : decode cL_change 12 = .ok (.goto 11, 3) := by decide +kernel
theorem dL_change_15 : decode cL_change 15 = .ok (.astore 5, 2) := by decide +kernel
theorem dL_change_17 : decode cL_change 17 = .ok (.iconst 1, 1) := by decide +kernel
theorem dL_change_18 : decode cL_change 18 = .ok (.ireturn, 1) := by decide +kernel
theorem dL_change_19 : decode cL_change 19 = .ok (.astore 5, 2) := by decide +kernel
theorem dL_change_21 : decode cL_change 21 = .ok (.iconst 2, 1) := by decide +kernel
theorem dL_change_22 : decode cL_change 22 = .ok (.ireturn, 1) := by decide +kernel
theorem dL_change_23 : decode cL_change 23 = .ok (.iconst 0, 1) := by decide +kernel
theorem dL_change_24 : decode cL_change 24 = .ok (.ireturn, 1) := by decide +kernel
theorem dL_removeLast_0 : decode cL_removeLast 0 = .ok (.aload_n 1, 1) := by decide +kernel
theorem dL_removeLast_1 : decode cL_removeLast 1 = .ok (.iconst 0, 1) := by decide +kernel
theorem dL_removeLast_2 : decode cL_removeLast 2 = .ok (.aload_n 0, 1) := by decide +kernel
theorem dL_removeLast_3 : decode cL_removeLast 3 = .ok (.invokevirtual 22, 3) := by decide +kernel
theorem dL_removeLast_6 : decode cL_removeLast 6 = .ok (.i2l, 1) := by decide +kernel
theorem dL_removeLast_7 : decode cL_removeLast 7 = .ok (.lastore, 1) := by decide +kernel
theorem dL_removeLast_8 : decode cL_removeLast 8 = .ok (.goto 6, 3) := by decide +kernel
theorem dL_removeLast_11 : decode cL_removeLast 11 = .ok (.astore_n 2, 1) := by decide +kernel
theorem dL_removeLast_12 : decode cL_removeLast 12 = .ok (.iconst 1, 1) := by decide +kernel
theorem dL_removeLast_13 : decode cL_removeLast 13 = .ok (.ireturn, 1) := by decide +kernel
theorem dL_removeLast_14 : decode cL_removeLast 14 = .ok (.iconst 0, 1) := by decide +kernel
theorem dL_removeLast_15 : decode cL_removeLast 15 = .ok (.ireturn, 1) := by decide +kernel
theorem dL_set_0 : decode cL_set 0 = .ok (.aload_n 3, 1) := by decide +kernel
theorem dL_set_1 : decode cL_set 1 = .ok (.iconst 0, 1) := by decide +kernel
theorem dL_set_2 : decode cL_set 2 = .ok (.aload_n 0, 1) := by decide +kernel
theorem dL_set_3 : decode cL_set 3 = .ok (.iload_n 1, 1) := by decide +kernel
theorem dL_set_4 : decode cL_set 4 = .ok (.iload_n 2, 1) := by decide +kernel
theorem dL_set_5 : decode cL_set 5 = .ok (.invokevirtual 26, 3) := by decide +kernel
theorem dL_set_8 : decode cL_set 8 = .ok (.i2l, 1) := by decide +kernel
theorem dL_set_9 : decode cL_set 9 = .ok (.lastore, 1) := by decide +kernel
theorem dL_set_10 : decode cL_set 10 = .ok (.goto 11, 3) := by decide +kernel
theorem dL_set_13 : decode cL_set 13 = .ok (.astore 4, 2) := by decide +kernel
theorem dL_set_15 : decode cL_set 15 = .ok (.iconst 1, 1) := by decide +kernel
theorem dL_set_16 : decode cL_set 16 = .ok (.ireturn, 1) := by decide +kernel
theorem dL_set_17 : decode cL_set 17 = .ok (.astore 4, 2) := by decide +kernel
theorem dL_set_19 : decode cL_set 19 = .ok (.iconst 2, 1) := by decide +kernel
theorem dL_set_20 : decode cL_set 20 = .ok (.ireturn, 1) := by decide +kernel
theorem dL_set_21 : decode cL_set 21 = .ok (.iconst 0, 1) := by decide +kernel
theorem dL_set_22 : decode cL_set 22 = .ok (.ireturn, 1) := by decide +kernel
theorem dL_mail_0 : decode cL_mail 0 = .ok (.aload_n 3, 1) := by decide +kernel
theorem dL_mail_1 : decode cL_mail 1 = .ok (.iconst 0, 1) := by decide +kernel
theorem dL_mail_2 : decode cL_mail 2 = .ok (.aload_n 0, 1) := by decide +kernel
theorem dL_mail_3 : decode cL_mail 3 = .ok (.iload_n 1, 1) := by decide +kernel
theorem dL_mail_4 : decode cL_mail 4 = .ok (.iload_n 2, 1) := by decide +kernel
theorem dL_mail_5 : decode cL_mail 5 = .ok (.invokevirtual 30, 3) := by decide +kernel
theorem dL_mail_8 : decode cL_mail 8 = .ok (.i2l, 1) := by decide +kernel
theorem dL_mail_9 : decode cL_mail 9 = .ok (.lastore, 1) := by decide +kernel
theorem dL_mail_10 : decode cL_mail 10 = .ok (.goto 11, 3) := by decide +kernel
theorem dL_mail_13 : decode cL_mail 13 = .ok (.astore 4, 2) := by decide +kernel
theorem dL_mail_15 : decode cL_mail 15 = .ok (.iconst 1, 1) := by decide +kernel
theorem dL_mail_16 : decode cL_mail 16 = .ok (.ireturn, 1) := by decide +kernel
theorem dL_mail_17 : decode cL_mail 17 = .ok (.astore 4, 2) := by decide +kernel
theorem dL_mail_19 : decode cL_mail 19 = .ok (.iconst 2, 1) := by decide +kernel
theorem dL_mail_20 : decode cL_mail 20 = .ok (.ireturn, 1) := by decide +kernel
theorem dL_mail_21 : decode cL_mail 21 = .ok (.iconst 0, 1) := by decide +kernel
theorem dL_mail_22 : decode cL_mail 22 = .ok (.ireturn, 1) := by decide +kernel
theorem dL_mailAll_0 : decode cL_mailAll 0 = .ok (.aload_n 3, 1) := by decide +kernel
theorem dL_mailAll_1 : decode cL_mailAll 1 = .ok (.iconst 0, 1) := by decide +kernel
theorem dL_mailAll_2 : decode cL_mailAll 2 = .ok (.aload_n 0, 1) := by decide +kernel
theorem dL_mailAll_3 : decode cL_mailAll 3 = .ok (.iload_n 1, 1) := by decide +kernel
theorem dL_mailAll_4 : decode cL_mailAll 4 = .ok (.iload_n 2, 1) := by decide +kernel
theorem dL_mailAll_5 : decode cL_mailAll 5 = .ok (.invokevirtual 33, 3) := by decide +kernel
theorem dL_mailAll_8 : decode cL_mailAll 8 = .ok (.i2l, 1) := by decide +kernel
theorem dL_mailAll_9 : decode cL_mailAll 9 = .ok (.lastore, 1) := by decide +kernel
theorem dL_mailAll_10 : decode cL_mailAll 10 = .ok (.goto 11, 3) := by decide +kernel
theorem dL_mailAll_13 : decode cL_mailAll 13 = .ok (.astore 4, 2) := by decide +kernel
theorem dL_mailAll_15 : decode cL_mailAll 15 = .ok (.iconst 1, 1) := by decide +kernel
theorem dL_mailAll_16 : decode cL_mailAll 16 = .ok (.ireturn, 1) := by decide +kernel
theorem dL_mailAll_17 : decode cL_mailAll 17 = .ok (.astore 4, 2) := by decide +kernel
theorem dL_mailAll_19 : decode cL_mailAll 19 = .ok (.iconst 2, 1) := by decide +kernel
theorem dL_mailAll_20 : decode cL_mailAll 20 = .ok (.ireturn, 1) := by decide +kernel
theorem dL_mailAll_21 : decode cL_mailAll 21 = .ok (.iconst 0, 1) := by decide +kernel
theorem dL_mailAll_22 : decode cL_mailAll 22 = .ok (.ireturn, 1) := by decide +kernel
theorem dL_forget_0 : decode cL_forget 0 = .ok (.aload_n 2, 1) := by decide +kernel
theorem dL_forget_1 : decode cL_forget 1 = .ok (.iconst 0, 1) := by decide +kernel
theorem dL_forget_2 : decode cL_forget 2 = .ok (.aload_n 0, 1) := by decide +kernel
theorem dL_forget_3 : decode cL_forget 3 = .ok (.iload_n 1, 1) := by decide +kernel
theorem dL_forget_4 : decode cL_forget 4 = .ok (.invokevirtual 36, 3) := by decide +kernel
theorem dL_forget_7 : decode cL_forget 7 = .ok (.i2l, 1) := by decide +kernel
theorem dL_forget_8 : decode cL_forget 8 = .ok (.lastore, 1) := by decide +kernel
theorem dL_forget_9 : decode cL_forget 9 = .ok (.goto 6, 3) := by decide +kernel
theorem dL_forget_12 : decode cL_forget 12 = .ok (.astore_n 3, 1) := by decide +kernel
theorem dL_forget_13 : decode cL_forget 13 = .ok (.iconst 1, 1) := by decide +kernel
theorem dL_forget_14 : decode cL_forget 14 = .ok (.ireturn, 1) := by decide +kernel
theorem dL_forget_15 : decode cL_forget 15 = .ok (.iconst 0, 1) := by decide +kernel
theorem dL_forget_16 : decode cL_forget 16 = .ok (.ireturn, 1) := by decide +kernel
theorem dL_catchUp_0 : decode cL_catchUp 0 = .ok (.aload_n 2, 1) := by decide +kernel
theorem dL_catchUp_1 : decode cL_catchUp 1 = .ok (.iconst 0, 1) := by decide +kernel
theorem dL_catchUp_2 : decode cL_catchUp 2 = .ok (.aload_n 0, 1) := by decide +kernel
theorem dL_catchUp_3 : decode cL_catchUp 3 = .ok (.iload_n 1, 1) := by decide +kernel
theorem dL_catchUp_4 : decode cL_catchUp 4 = .ok (.invokevirtual 40, 3) := by decide +kernel
theorem dL_catchUp_7 : decode cL_catchUp 7 = .ok (.i2l, 1) := by decide +kernel
theorem dL_catchUp_8 : decode cL_catchUp 8 = .ok (.lastore, 1) := by decide +kernel
theorem dL_catchUp_9 : decode cL_catchUp 9 = .ok (.goto 6, 3) := by decide +kernel
theorem dL_catchUp_12 : decode cL_catchUp 12 = .ok (.astore_n 3, 1) := by decide +kernel
theorem dL_catchUp_13 : decode cL_catchUp 13 = .ok (.iconst 1, 1) := by decide +kernel
theorem dL_catchUp_14 : decode cL_catchUp 14 = .ok (.ireturn, 1) := by decide +kernel
theorem dL_catchUp_15 : decode cL_catchUp 15 = .ok (.iconst 0, 1) := by decide +kernel
theorem dL_catchUp_16 : decode cL_catchUp 16 = .ok (.ireturn, 1) := by decide +kernel
theorem dL_append_0 : decode cL_append 0 = .ok (.aload_n 2, 1) := by decide +kernel
theorem dL_append_1 : decode cL_append 1 = .ok (.iconst 0, 1) := by decide +kernel
theorem dL_append_2 : decode cL_append 2 = .ok (.aload_n 0, 1) := by decide +kernel
theorem dL_append_3 : decode cL_append 3 = .ok (.iload_n 1, 1) := by decide +kernel
theorem dL_append_4 : decode cL_append 4 = .ok (.invokevirtual 43, 3) := by decide +kernel
theorem dL_append_7 : decode cL_append 7 = .ok (.i2l, 1) := by decide +kernel
theorem dL_append_8 : decode cL_append 8 = .ok (.lastore, 1) := by decide +kernel
theorem dL_append_9 : decode cL_append 9 = .ok (.goto 9, 3) := by decide +kernel
theorem dL_append_12 : decode cL_append 12 = .ok (.astore_n 3, 1) := by decide +kernel
theorem dL_append_13 : decode cL_append 13 = .ok (.iconst 1, 1) := by decide +kernel
theorem dL_append_14 : decode cL_append 14 = .ok (.ireturn, 1) := by decide +kernel
theorem dL_append_15 : decode cL_append 15 = .ok (.astore_n 3, 1) := by decide +kernel
theorem dL_append_16 : decode cL_append 16 = .ok (.iconst 2, 1) := by decide +kernel
theorem dL_append_17 : decode cL_append 17 = .ok (.ireturn, 1) := by decide +kernel
theorem dL_append_18 : decode cL_append 18 = .ok (.iconst 0, 1) := by decide +kernel
theorem dL_append_19 : decode cL_append 19 = .ok (.ireturn, 1) := by decide +kernel
theorem dL_addAll_0 : decode cL_addAll 0 = .ok (.aload_n 1, 1) := by decide +kernel
theorem dL_addAll_1 : decode cL_addAll 1 = .ok (.iconst 0, 1) := by decide +kernel
theorem dL_addAll_2 : decode cL_addAll 2 = .ok (.aload_n 0, 1) := by decide +kernel
theorem dL_addAll_3 : decode cL_addAll 3 = .ok (.invokevirtual 46, 3) := by decide +kernel
theorem dL_addAll_6 : decode cL_addAll 6 = .ok (.i2l, 1) := by decide +kernel
theorem dL_addAll_7 : decode cL_addAll 7 = .ok (.lastore, 1) := by decide +kernel
theorem dL_addAll_8 : decode cL_addAll 8 = .ok (.goto 9, 3) := by decide +kernel
theorem dL_addAll_11 : decode cL_addAll 11 = .ok (.astore_n 2, 1) := by decide +kernel
theorem dL_addAll_12 : decode cL_addAll 12 = .ok (.iconst 1, 1) := by decide +kernel
theorem dL_addAll_13 : decode cL_addAll 13 = .ok (.ireturn, 1) := by decide +kernel
theorem dL_addAll_14 : decode cL_addAll 14 = .ok (.astore_n 2, 1) := by decide +kernel
theorem dL_addAll_15 : decode cL_addAll 15 = .ok (.iconst 2, 1) := by decide +kernel
theorem dL_addAll_16 : decode cL_addAll 16 = .ok (.ireturn, 1) := by decide +kernel
theorem dL_addAll_17 : decode cL_addAll 17 = .ok (.iconst 0, 1) := by decide +kernel
theorem dL_addAll_18 : decode cL_addAll 18 = .ok (.ireturn, 1) := by decide +kernel
theorem dL_undo_0 : decode cL_undo 0 = .ok (.aload_n 1, 1) := by decide +kernel
theorem dL_undo_1 : decode cL_undo 1 = .ok (.iconst 0, 1) := by decide +kernel
theorem dL_undo_2 : decode cL_undo 2 = .ok (.aload_n 0, 1) := by decide +kernel
theorem dL_undo_3 : decode cL_undo 3 = .ok (.invokevirtual 49, 3) := by decide +kernel
theorem dL_undo_6 : decode cL_undo 6 = .ok (.i2l, 1) := by decide +kernel
theorem dL_undo_7 : decode cL_undo 7 = .ok (.lastore, 1) := by decide +kernel
theorem dL_undo_8 : decode cL_undo 8 = .ok (.goto 6, 3) := by decide +kernel
theorem dL_undo_11 : decode cL_undo 11 = .ok (.astore_n 2, 1) := by decide +kernel
theorem dL_undo_12 : decode cL_undo 12 = .ok (.iconst 1, 1) := by decide +kernel
theorem dL_undo_13 : decode cL_undo 13 = .ok (.ireturn, 1) := by decide +kernel
theorem dL_undo_14 : decode cL_undo 14 = .ok (.iconst 0, 1) := by decide +kernel
theorem dL_undo_15 : decode cL_undo 15 = .ok (.ireturn, 1) := by decide +kernel
theorem dL_part_0 : decode cL_part 0 = .ok (.aload_n 3, 1) := by decide +kernel
theorem dL_part_1 : decode cL_part 1 = .ok (.iconst 0, 1) := by decide +kernel
theorem dL_part_2 : decode cL_part 2 = .ok (.aload_n 0, 1) := by decide +kernel
theorem dL_part_3 : decode cL_part 3 = .ok (.iload_n 1, 1) := by decide +kernel
theorem dL_part_4 : decode cL_part 4 = .ok (.iload_n 2, 1) := by decide +kernel
theorem dL_part_5 : decode cL_part 5 = .ok (.invokevirtual 52, 3) := by decide +kernel
theorem dL_part_8 : decode cL_part 8 = .ok (.i2l, 1) := by decide +kernel
theorem dL_part_9 : decode cL_part 9 = .ok (.lastore, 1) := by decide +kernel
theorem dL_part_10 : decode cL_part 10 = .ok (.goto 11, 3) := by decide +kernel
theorem dL_part_13 : decode cL_part 13 = .ok (.astore 4, 2) := by decide +kernel
theorem dL_part_15 : decode cL_part 15 = .ok (.iconst 1, 1) := by decide +kernel
theorem dL_part_16 : decode cL_part 16 = .ok (.ireturn, 1) := by decide +kernel
theorem dL_part_17 : decode cL_part 17 = .ok (.astore 4, 2) := by decide +kernel
theorem dL_part_19 : decode cL_part 19 = .ok (.iconst 2, 1) := by decide +kernel
theorem dL_part_20 : decode cL_part 20 = .ok (.ireturn, 1) := by decide +kernel
theorem dL_part_21 : decode cL_part 21 = .ok (.iconst 0, 1) := by decide +kernel
theorem dL_part_22 : decode cL_part 22 = .ok (.ireturn, 1) := by decide +kernel
theorem dL_knows_0 : decode cL_knows 0 = .ok (.aload_n 3, 1) := by decide +kernel
theorem dL_knows_1 : decode cL_knows 1 = .ok (.iconst 0, 1) := by decide +kernel
theorem dL_knows_2 : decode cL_knows 2 = .ok (.aload_n 0, 1) := by decide +kernel
theorem dL_knows_3 : decode cL_knows 3 = .ok (.iload_n 1, 1) := by decide +kernel
theorem dL_knows_4 : decode cL_knows 4 = .ok (.iload_n 2, 1) := by decide +kernel
theorem dL_knows_5 : decode cL_knows 5 = .ok (.invokevirtual 55, 3) := by decide +kernel
theorem dL_knows_8 : decode cL_knows 8 = .ok (.i2l, 1) := by decide +kernel
theorem dL_knows_9 : decode cL_knows 9 = .ok (.lastore, 1) := by decide +kernel
theorem dL_knows_10 : decode cL_knows 10 = .ok (.goto 7, 3) := by decide +kernel
theorem dL_knows_13 : decode cL_knows 13 = .ok (.astore 4, 2) := by decide +kernel
theorem dL_knows_15 : decode cL_knows 15 = .ok (.iconst 1, 1) := by decide +kernel
theorem dL_knows_16 : decode cL_knows 16 = .ok (.ireturn, 1) := by decide +kernel
theorem dL_knows_17 : decode cL_knows 17 = .ok (.iconst 0, 1) := by decide +kernel
theorem dL_knows_18 : decode cL_knows 18 = .ok (.ireturn, 1) := by decide +kernel
theorem dL_reader_0 : decode cL_reader 0 = .ok (.aload_n 3, 1) := by decide +kernel
theorem dL_reader_1 : decode cL_reader 1 = .ok (.iconst 0, 1) := by decide +kernel
theorem dL_reader_2 : decode cL_reader 2 = .ok (.aload_n 0, 1) := by decide +kernel
theorem dL_reader_3 : decode cL_reader 3 = .ok (.iload_n 1, 1) := by decide +kernel
theorem dL_reader_4 : decode cL_reader 4 = .ok (.iload_n 2, 1) := by decide +kernel
theorem dL_reader_5 : decode cL_reader 5 = .ok (.invokevirtual 58, 3) := by decide +kernel
theorem dL_reader_8 : decode cL_reader 8 = .ok (.i2l, 1) := by decide +kernel
theorem dL_reader_9 : decode cL_reader 9 = .ok (.lastore, 1) := by decide +kernel
theorem dL_reader_10 : decode cL_reader 10 = .ok (.goto 11, 3) := by decide +kernel
theorem dL_reader_13 : decode cL_reader 13 = .ok (.astore 4, 2) := by decide +kernel
theorem dL_reader_15 : decode cL_reader 15 = .ok (.iconst 1, 1) := by decide +kernel
theorem dL_reader_16 : decode cL_reader 16 = .ok (.ireturn, 1) := by decide +kernel
theorem dL_reader_17 : decode cL_reader 17 = .ok (.astore 4, 2) := by decide +kernel
theorem dL_reader_19 : decode cL_reader 19 = .ok (.iconst 2, 1) := by decide +kernel
theorem dL_reader_20 : decode cL_reader 20 = .ok (.ireturn, 1) := by decide +kernel
theorem dL_reader_21 : decode cL_reader 21 = .ok (.iconst 0, 1) := by decide +kernel
theorem dL_reader_22 : decode cL_reader 22 = .ok (.ireturn, 1) := by decide +kernel
theorem dL_plot_0 : decode cL_plot 0 = .ok (.aload_n 3, 1) := by decide +kernel
theorem dL_plot_1 : decode cL_plot 1 = .ok (.iconst 0, 1) := by decide +kernel
theorem dL_plot_2 : decode cL_plot 2 = .ok (.aload_n 0, 1) := by decide +kernel
theorem dL_plot_3 : decode cL_plot 3 = .ok (.iload_n 1, 1) := by decide +kernel
theorem dL_plot_4 : decode cL_plot 4 = .ok (.iload_n 2, 1) := by decide +kernel
theorem dL_plot_5 : decode cL_plot 5 = .ok (.invokevirtual 61, 3) := by decide +kernel
theorem dL_plot_8 : decode cL_plot 8 = .ok (.i2l, 1) := by decide +kernel
theorem dL_plot_9 : decode cL_plot 9 = .ok (.lastore, 1) := by decide +kernel
theorem dL_plot_10 : decode cL_plot 10 = .ok (.goto 11, 3) := by decide +kernel
theorem dL_plot_13 : decode cL_plot 13 = .ok (.astore 4, 2) := by decide +kernel
theorem dL_plot_15 : decode cL_plot 15 = .ok (.iconst 1, 1) := by decide +kernel
theorem dL_plot_16 : decode cL_plot 16 = .ok (.ireturn, 1) := by decide +kernel
theorem dL_plot_17 : decode cL_plot 17 = .ok (.astore 4, 2) := by decide +kernel
theorem dL_plot_19 : decode cL_plot 19 = .ok (.iconst 2, 1) := by decide +kernel
theorem dL_plot_20 : decode cL_plot 20 = .ok (.ireturn, 1) := by decide +kernel
theorem dL_plot_21 : decode cL_plot 21 = .ok (.iconst 0, 1) := by decide +kernel
theorem dL_plot_22 : decode cL_plot 22 = .ok (.ireturn, 1) := by decide +kernel
theorem dL_count_0 : decode cL_count 0 = .ok (.aload_n 2, 1) := by decide +kernel
theorem dL_count_1 : decode cL_count 1 = .ok (.iconst 0, 1) := by decide +kernel
theorem dL_count_2 : decode cL_count 2 = .ok (.aload_n 0, 1) := by decide +kernel
theorem dL_count_3 : decode cL_count 3 = .ok (.iload_n 1, 1) := by decide +kernel
theorem dL_count_4 : decode cL_count 4 = .ok (.invokevirtual 64, 3) := by decide +kernel
theorem dL_count_7 : decode cL_count 7 = .ok (.i2l, 1) := by decide +kernel
theorem dL_count_8 : decode cL_count 8 = .ok (.lastore, 1) := by decide +kernel
theorem dL_count_9 : decode cL_count 9 = .ok (.goto 6, 3) := by decide +kernel
theorem dL_count_12 : decode cL_count 12 = .ok (.astore_n 3, 1) := by decide +kernel
theorem dL_count_13 : decode cL_count 13 = .ok (.iconst 1, 1) := by decide +kernel
theorem dL_count_14 : decode cL_count 14 = .ok (.ireturn, 1) := by decide +kernel
theorem dL_count_15 : decode cL_count 15 = .ok (.iconst 0, 1) := by decide +kernel
theorem dL_count_16 : decode cL_count 16 = .ok (.ireturn, 1) := by decide +kernel
theorem dL_setting_0 : decode cL_setting 0 = .ok (.aload_n 2, 1) := by decide +kernel
theorem dL_setting_1 : decode cL_setting 1 = .ok (.iconst 0, 1) := by decide +kernel
theorem dL_setting_2 : decode cL_setting 2 = .ok (.aload_n 0, 1) := by decide +kernel
theorem dL_setting_3 : decode cL_setting 3 = .ok (.iload_n 1, 1) := by decide +kernel
theorem dL_setting_4 : decode cL_setting 4 = .ok (.invokevirtual 67, 3) := by decide +kernel
theorem dL_setting_7 : decode cL_setting 7 = .ok (.i2l, 1) := by decide +kernel
theorem dL_setting_8 : decode cL_setting 8 = .ok (.lastore, 1) := by decide +kernel
theorem dL_setting_9 : decode cL_setting 9 = .ok (.goto 6, 3) := by decide +kernel
theorem dL_setting_12 : decode cL_setting 12 = .ok (.astore_n 3, 1) := by decide +kernel
theorem dL_setting_13 : decode cL_setting 13 = .ok (.iconst 1, 1) := by decide +kernel
theorem dL_setting_14 : decode cL_setting 14 = .ok (.ireturn, 1) := by decide +kernel
theorem dL_setting_15 : decode cL_setting 15 = .ok (.iconst 0, 1) := by decide +kernel
theorem dL_setting_16 : decode cL_setting 16 = .ok (.ireturn, 1) := by decide +kernel
theorem dL_recap_0 : decode cL_recap 0 = .ok (.aload 4, 2) := by decide +kernel
theorem dL_recap_2 : decode cL_recap 2 = .ok (.iconst 0, 1) := by decide +kernel
theorem dL_recap_3 : decode cL_recap 3 = .ok (.aload_n 0, 1) := by decide +kernel
theorem dL_recap_4 : decode cL_recap 4 = .ok (.iload_n 1, 1) := by decide +kernel
theorem dL_recap_5 : decode cL_recap 5 = .ok (.iload_n 2, 1) := by decide +kernel
theorem dL_recap_6 : decode cL_recap 6 = .ok (.iload_n 3, 1) := by decide +kernel
theorem dL_recap_7 : decode cL_recap 7 = .ok (.invokevirtual 70, 3) := by decide +kernel
theorem dL_recap_10 : decode cL_recap 10 = .ok (.i2l, 1) := by decide +kernel
theorem dL_recap_11 : decode cL_recap 11 = .ok (.lastore, 1) := by decide +kernel
theorem dL_recap_12 : decode cL_recap 12 = .ok (.goto 11, 3) := by decide +kernel
theorem dL_recap_15 : decode cL_recap 15 = .ok (.astore 5, 2) := by decide +kernel
theorem dL_recap_17 : decode cL_recap 17 = .ok (.iconst 1, 1) := by decide +kernel
theorem dL_recap_18 : decode cL_recap 18 = .ok (.ireturn, 1) := by decide +kernel
theorem dL_recap_19 : decode cL_recap 19 = .ok (.astore 5, 2) := by decide +kernel
theorem dL_recap_21 : decode cL_recap 21 = .ok (.iconst 2, 1) := by decide +kernel
theorem dL_recap_22 : decode cL_recap 22 = .ok (.ireturn, 1) := by decide +kernel
theorem dL_recap_23 : decode cL_recap 23 = .ok (.iconst 0, 1) := by decide +kernel
theorem dL_recap_24 : decode cL_recap 24 = .ok (.ireturn, 1) := by decide +kernel
theorem dL_easiest_0 : decode cL_easiest 0 = .ok (.aload_n 2, 1) := by decide +kernel
theorem dL_easiest_1 : decode cL_easiest 1 = .ok (.iconst 0, 1) := by decide +kernel
theorem dL_easiest_2 : decode cL_easiest 2 = .ok (.aload_n 0, 1) := by decide +kernel
theorem dL_easiest_3 : decode cL_easiest 3 = .ok (.iload_n 1, 1) := by decide +kernel
theorem dL_easiest_4 : decode cL_easiest 4 = .ok (.invokevirtual 73, 3) := by decide +kernel
theorem dL_easiest_7 : decode cL_easiest 7 = .ok (.i2l, 1) := by decide +kernel
theorem dL_easiest_8 : decode cL_easiest 8 = .ok (.lastore, 1) := by decide +kernel
theorem dL_easiest_9 : decode cL_easiest 9 = .ok (.goto 6, 3) := by decide +kernel
theorem dL_easiest_12 : decode cL_easiest 12 = .ok (.astore_n 3, 1) := by decide +kernel
theorem dL_easiest_13 : decode cL_easiest 13 = .ok (.iconst 1, 1) := by decide +kernel
theorem dL_easiest_14 : decode cL_easiest 14 = .ok (.ireturn, 1) := by decide +kernel
theorem dL_easiest_15 : decode cL_easiest 15 = .ok (.iconst 0, 1) := by decide +kernel
theorem dL_easiest_16 : decode cL_easiest 16 = .ok (.ireturn, 1) := by decide +kernel
theorem dL_enough_0 : decode cL_enough 0 = .ok (.aload_n 2, 1) := by decide +kernel
theorem dL_enough_1 : decode cL_enough 1 = .ok (.iconst 0, 1) := by decide +kernel
theorem dL_enough_2 : decode cL_enough 2 = .ok (.aload_n 0, 1) := by decide +kernel
theorem dL_enough_3 : decode cL_enough 3 = .ok (.iload_n 1, 1) := by decide +kernel
theorem dL_enough_4 : decode cL_enough 4 = .ok (.invokevirtual 76, 3) := by decide +kernel
theorem dL_enough_7 : decode cL_enough 7 = .ok (.i2l, 1) := by decide +kernel
theorem dL_enough_8 : decode cL_enough 8 = .ok (.lastore, 1) := by decide +kernel
theorem dL_enough_9 : decode cL_enough 9 = .ok (.goto 6, 3) := by decide +kernel
theorem dL_enough_12 : decode cL_enough 12 = .ok (.astore_n 3, 1) := by decide +kernel
theorem dL_enough_13 : decode cL_enough 13 = .ok (.iconst 1, 1) := by decide +kernel
theorem dL_enough_14 : decode cL_enough 14 = .ok (.ireturn, 1) := by decide +kernel
theorem dL_enough_15 : decode cL_enough 15 = .ok (.iconst 0, 1) := by decide +kernel
theorem dL_enough_16 : decode cL_enough 16 = .ok (.ireturn, 1) := by decide +kernel
theorem dL_law_0 : decode cL_law 0 = .ok (.new 8, 3) := by decide +kernel
theorem dL_law_3 : decode cL_law 3 = .ok (.dup, 1) := by decide +kernel
theorem dL_law_4 : decode cL_law 4 = .ok (.invokespecial 79, 3) := by decide +kernel
theorem dL_law_7 : decode cL_law 7 = .ok (.astore_n 1, 1) := by decide +kernel
theorem dL_law_8 : decode cL_law 8 = .ok (.new 80, 3) := by decide +kernel
theorem dL_law_11 : decode cL_law 11 = .ok (.dup, 1) := by decide +kernel
theorem dL_law_12 : decode cL_law 12 = .ok (.invokespecial 82, 3) := by decide +kernel
theorem dL_law_15 : decode cL_law 15 = .ok (.astore_n 2, 1) := by decide +kernel
theorem dL_law_16 : decode cL_law 16 = .ok (.iconst 1, 1) := by decide +kernel
theorem dL_law_17 : decode cL_law 17 = .ok (.newarray .long, 2) := by decide +kernel
theorem dL_law_19 : decode cL_law 19 = .ok (.astore_n 3, 1) := by decide +kernel
theorem dL_law_20 : decode cL_law 20 = .ok (.iconst 0, 1) := by decide +kernel
theorem dL_law_21 : decode cL_law 21 = .ok (.istore 4, 2) := by decide +kernel
theorem dL_law_23 : decode cL_law 23 = .ok (.iload 4, 2) := by decide +kernel
theorem dL_law_25 : decode cL_law 25 = .ok (.aload_n 0, 1) := by decide +kernel
theorem dL_law_26 : decode cL_law 26 = .ok (.arraylength, 1) := by decide +kernel
theorem dL_law_27 : decode cL_law 27 = .ok (.iconst 4, 1) := by decide +kernel
theorem dL_law_28 : decode cL_law 28 = .ok (.isub, 1) := by decide +kernel
theorem dL_law_29 : decode cL_law 29 = .ok (.if_icmp .gt 1446, 3) := by decide +kernel
theorem dL_law_32 : decode cL_law 32 = .ok (.aload_n 0, 1) := by decide +kernel
theorem dL_law_33 : decode cL_law 33 = .ok (.iload 4, 2) := by decide +kernel
theorem dL_law_35 : decode cL_law 35 = .ok (.iaload, 1) := by decide +kernel
theorem dL_law_36 : decode cL_law 36 = .ok (.bipush 31, 2) := by decide +kernel
theorem dL_law_38 : decode cL_law 38 = .ok (.iand, 1) := by decide +kernel
theorem dL_law_39 : decode cL_law 39 = .ok (.tableswitch 1430 0 23 #[109, 189, 269, 313, 381, 449, 517, 573, 629, 685, 698, 711, 755, 799, 867, 935, 1003, 1071, 1127, 1183, 1263, 1319, 1375, 1416], 109) := by decide +kernel
theorem dL_law_148 : decode cL_law 148 = .ok (.aload_n 1, 1) := by decide +kernel
theorem dL_law_149 : decode cL_law 149 = .ok (.aload_n 0, 1) := by decide +kernel
theorem dL_law_150 : decode cL_law 150 = .ok (.iload 4, 2) := by decide +kernel
theorem dL_law_152 : decode cL_law 152 = .ok (.iconst 1, 1) := by decide +kernel
theorem dL_law_153 : decode cL_law 153 = .ok (.iadd, 1) := by decide +kernel
theorem dL_law_154 : decode cL_law 154 = .ok (.iaload, 1) := by decide +kernel
theorem dL_law_155 : decode cL_law 155 = .ok (.aload_n 0, 1) := by decide +kernel
theorem dL_law_156 : decode cL_law 156 = .ok (.iload 4, 2) := by decide +kernel
theorem dL_law_158 : decode cL_law 158 = .ok (.iconst 2, 1) := by decide +kernel
theorem dL_law_159 : decode cL_law 159 = .ok (.iadd, 1) := by decide +kernel
theorem dL_law_160 : decode cL_law 160 = .ok (.iaload, 1) := by decide +kernel
theorem dL_law_161 : decode cL_law 161 = .ok (.aload_n 0, 1) := by decide +kernel
theorem dL_law_162 : decode cL_law 162 = .ok (.iload 4, 2) := by decide +kernel
theorem dL_law_164 : decode cL_law 164 = .ok (.iconst 3, 1) := by decide +kernel
theorem dL_law_165 : decode cL_law 165 = .ok (.iadd, 1) := by decide +kernel
theorem dL_law_166 : decode cL_law 166 = .ok (.iaload, 1) := by decide +kernel
theorem dL_law_167 : decode cL_law 167 = .ok (.aload_n 3, 1) := by decide +kernel
theorem dL_law_168 : decode cL_law 168 = .ok (.invokestatic 83, 3) := by decide +kernel
theorem dL_law_171 : decode cL_law 171 = .ok (.istore 5, 2) := by decide +kernel
theorem dL_law_173 : decode cL_law 173 = .ok (.aload_n 2, 1) := by decide +kernel
theorem dL_law_174 : decode cL_law 174 = .ok (.aload_n 0, 1) := by decide +kernel
theorem dL_law_175 : decode cL_law 175 = .ok (.iload 4, 2) := by decide +kernel
theorem dL_law_177 : decode cL_law 177 = .ok (.iconst 1, 1) := by decide +kernel
theorem dL_law_178 : decode cL_law 178 = .ok (.iadd, 1) := by decide +kernel
theorem dL_law_179 : decode cL_law 179 = .ok (.iaload, 1) := by decide +kernel
theorem dL_law_180 : decode cL_law 180 = .ok (.aload_n 0, 1) := by decide +kernel
theorem dL_law_181 : decode cL_law 181 = .ok (.iload 4, 2) := by decide +kernel
theorem dL_law_183 : decode cL_law 183 = .ok (.iconst 2, 1) := by decide +kernel
theorem dL_law_184 : decode cL_law 184 = .ok (.iadd, 1) := by decide +kernel
theorem dL_law_185 : decode cL_law 185 = .ok (.iaload, 1) := by decide +kernel
theorem dL_law_186 : decode cL_law 186 = .ok (.aload_n 0, 1) := by decide +kernel
theorem dL_law_187 : decode cL_law 187 = .ok (.iload 4, 2) := by decide +kernel
theorem dL_law_189 : decode cL_law 189 = .ok (.iconst 3, 1) := by decide +kernel
theorem dL_law_190 : decode cL_law 190 = .ok (.iadd, 1) := by decide +kernel
theorem dL_law_191 : decode cL_law 191 = .ok (.iaload, 1) := by decide +kernel
theorem dL_law_192 : decode cL_law 192 = .ok (.invokevirtual 88, 3) := by decide +kernel
theorem dL_law_195 : decode cL_law 195 = .ok (.istore 6, 2) := by decide +kernel
theorem dL_law_197 : decode cL_law 197 = .ok (.aload_n 2, 1) := by decide +kernel
theorem dL_law_198 : decode cL_law 198 = .ok (.invokevirtual 89, 3) := by decide +kernel
theorem dL_law_201 : decode cL_law 201 = .ok (.iload 5, 2) := by decide +kernel
theorem dL_law_203 : decode cL_law 203 = .ok (.if_icmp .eq 5, 3) := by decide +kernel
theorem dL_law_206 : decode cL_law 206 = .ok (.iconst 0, 1) := by decide +kernel
theorem dL_law_207 : decode cL_law 207 = .ok (.ireturn, 1) := by decide +kernel
theorem dL_law_208 : decode cL_law 208 = .ok (.iload 5, 2) := by decide +kernel
theorem dL_law_210 : decode cL_law 210 = .ok (.ifCond .ne 15, 3) := by decide +kernel
theorem dL_law_213 : decode cL_law 213 = .ok (.aload_n 3, 1) := by decide +kernel
theorem dL_law_214 : decode cL_law 214 = .ok (.iconst 0, 1) := by decide +kernel
theorem dL_law_215 : decode cL_law 215 = .ok (.laload, 1) := by decide +kernel
theorem dL_law_216 : decode cL_law 216 = .ok (.iload 6, 2) := by decide +kernel
theorem dL_law_218 : decode cL_law 218 = .ok (.i2l, 1) := by decide +kernel
theorem dL_law_219 : decode cL_law 219 = .ok (.lcmp, 1) := by decide +kernel
theorem dL_law_220 : decode cL_law 220 = .ok (.ifCond .eq 5, 3) := by decide +kernel
theorem dL_law_223 : decode cL_law 223 = .ok (.iconst 0, 1) := by decide +kernel
theorem dL_law_224 : decode cL_law 224 = .ok (.ireturn, 1) := by decide +kernel
theorem dL_law_225 : decode cL_law 225 = .ok (.goto 1244, 3) := by decide +kernel
theorem dL_law_228 : decode cL_law 228 = .ok (.aload_n 1, 1) := by decide +kernel
theorem dL_law_229 : decode cL_law 229 = .ok (.aload_n 0, 1) := by decide +kernel
theorem dL_law_230 : decode cL_law 230 = .ok (.iload 4, 2) := by decide +kernel
theorem dL_law_232 : decode cL_law 232 = .ok (.iconst 1, 1) := by decide +kernel
theorem dL_law_233 : decode cL_law 233 = .ok (.iadd, 1) := by decide +kernel
theorem dL_law_234 : decode cL_law 234 = .ok (.iaload, 1) := by decide +kernel
theorem dL_law_235 : decode cL_law 235 = .ok (.aload_n 0, 1) := by decide +kernel
theorem dL_law_236 : decode cL_law 236 = .ok (.iload 4, 2) := by decide +kernel
theorem dL_law_238 : decode cL_law 238 = .ok (.iconst 2, 1) := by decide +kernel
theorem dL_law_239 : decode cL_law 239 = .ok (.iadd, 1) := by decide +kernel
theorem dL_law_240 : decode cL_law 240 = .ok (.iaload, 1) := by decide +kernel
theorem dL_law_241 : decode cL_law 241 = .ok (.aload_n 0, 1) := by decide +kernel
theorem dL_law_242 : decode cL_law 242 = .ok (.iload 4, 2) := by decide +kernel
theorem dL_law_244 : decode cL_law 244 = .ok (.iconst 3, 1) := by decide +kernel
theorem dL_law_245 : decode cL_law 245 = .ok (.iadd, 1) := by decide +kernel
theorem dL_law_246 : decode cL_law 246 = .ok (.iaload, 1) := by decide +kernel
theorem dL_law_247 : decode cL_law 247 = .ok (.aload_n 3, 1) := by decide +kernel
theorem dL_law_248 : decode cL_law 248 = .ok (.invokestatic 92, 3) := by decide +kernel
theorem dL_law_251 : decode cL_law 251 = .ok (.istore 5, 2) := by decide +kernel
theorem dL_law_253 : decode cL_law 253 = .ok (.aload_n 2, 1) := by decide +kernel
theorem dL_law_254 : decode cL_law 254 = .ok (.aload_n 0, 1) := by decide +kernel
theorem dL_law_255 : decode cL_law 255 = .ok (.iload 4, 2) := by decide +kernel
theorem dL_law_257 : decode cL_law 257 = .ok (.iconst 1, 1) := by decide +kernel
theorem dL_law_258 : decode cL_law 258 = .ok (.iadd, 1) := by decide +kernel
theorem dL_law_259 : decode cL_law 259 = .ok (.iaload, 1) := by decide +kernel
theorem dL_law_260 : decode cL_law 260 = .ok (.aload_n 0, 1) := by decide +kernel
theorem dL_law_261 : decode cL_law 261 = .ok (.iload 4, 2) := by decide +kernel
theorem dL_law_263 : decode cL_law 263 = .ok (.iconst 2, 1) := by decide +kernel
theorem dL_law_264 : decode cL_law 264 = .ok (.iadd, 1) := by decide +kernel
theorem dL_law_265 : decode cL_law 265 = .ok (.iaload, 1) := by decide +kernel
theorem dL_law_266 : decode cL_law 266 = .ok (.aload_n 0, 1) := by decide +kernel
theorem dL_law_267 : decode cL_law 267 = .ok (.iload 4, 2) := by decide +kernel
theorem dL_law_269 : decode cL_law 269 = .ok (.iconst 3, 1) := by decide +kernel
theorem dL_law_270 : decode cL_law 270 = .ok (.iadd, 1) := by decide +kernel
theorem dL_law_271 : decode cL_law 271 = .ok (.iaload, 1) := by decide +kernel
theorem dL_law_272 : decode cL_law 272 = .ok (.invokevirtual 94, 3) := by decide +kernel
theorem dL_law_275 : decode cL_law 275 = .ok (.istore 6, 2) := by decide +kernel
theorem dL_law_277 : decode cL_law 277 = .ok (.aload_n 2, 1) := by decide +kernel
theorem dL_law_278 : decode cL_law 278 = .ok (.invokevirtual 89, 3) := by decide +kernel
theorem dL_law_281 : decode cL_law 281 = .ok (.iload 5, 2) := by decide +kernel
theorem dL_law_283 : decode cL_law 283 = .ok (.if_icmp .eq 5, 3) := by decide +kernel
theorem dL_law_286 : decode cL_law 286 = .ok (.iconst 0, 1) := by decide +kernel
theorem dL_law_287 : decode cL_law 287 = .ok (.ireturn, 1) := by decide +kernel
theorem dL_law_288 : decode cL_law 288 = .ok (.iload 5, 2) := by decide +kernel
theorem dL_law_290 : decode cL_law 290 = .ok (.ifCond .ne 15, 3) := by decide +kernel
theorem dL_law_293 : decode cL_law 293 = .ok (.aload_n 3, 1) := by decide +kernel
theorem dL_law_294 : decode cL_law 294 = .ok (.iconst 0, 1) := by decide +kernel
theorem dL_law_295 : decode cL_law 295 = .ok (.laload, 1) := by decide +kernel
theorem dL_law_296 : decode cL_law 296 = .ok (.iload 6, 2) := by decide +kernel
theorem dL_law_298 : decode cL_law 298 = .ok (.i2l, 1) := by decide +kernel
theorem dL_law_299 : decode cL_law 299 = .ok (.lcmp, 1) := by decide +kernel
theorem dL_law_300 : decode cL_law 300 = .ok (.ifCond .eq 5, 3) := by decide +kernel
theorem dL_law_303 : decode cL_law 303 = .ok (.iconst 0, 1) := by decide +kernel
theorem dL_law_304 : decode cL_law 304 = .ok (.ireturn, 1) := by decide +kernel
theorem dL_law_305 : decode cL_law 305 = .ok (.goto 1164, 3) := by decide +kernel
theorem dL_law_308 : decode cL_law 308 = .ok (.aload_n 1, 1) := by decide +kernel
theorem dL_law_309 : decode cL_law 309 = .ok (.aload_n 3, 1) := by decide +kernel
theorem dL_law_310 : decode cL_law 310 = .ok (.invokestatic 95, 3) := by decide +kernel
theorem dL_law_313 : decode cL_law 313 = .ok (.istore 5, 2) := by decide +kernel
theorem dL_law_315 : decode cL_law 315 = .ok (.aload_n 2, 1) := by decide +kernel
theorem dL_law_316 : decode cL_law 316 = .ok (.invokevirtual 98, 3) := by decide +kernel
theorem dL_law_319 : decode cL_law 319 = .ok (.istore 6, 2) := by decide +kernel
theorem dL_law_321 : decode cL_law 321 = .ok (.aload_n 2, 1) := by decide +kernel
theorem dL_law_322 : decode cL_law 322 = .ok (.invokevirtual 89, 3) := by decide +kernel
theorem dL_law_325 : decode cL_law 325 = .ok (.iload 5, 2) := by decide +kernel
theorem dL_law_327 : decode cL_law 327 = .ok (.if_icmp .eq 5, 3) := by decide +kernel
theorem dL_law_330 : decode cL_law 330 = .ok (.iconst 0, 1) := by decide +kernel
theorem dL_law_331 : decode cL_law 331 = .ok (.ireturn, 1) := by decide +kernel
theorem dL_law_332 : decode cL_law 332 = .ok (.iload 5, 2) := by decide +kernel
theorem dL_law_334 : decode cL_law 334 = .ok (.ifCond .ne 15, 3) := by decide +kernel
theorem dL_law_337 : decode cL_law 337 = .ok (.aload_n 3, 1) := by decide +kernel
theorem dL_law_338 : decode cL_law 338 = .ok (.iconst 0, 1) := by decide +kernel
theorem dL_law_339 : decode cL_law 339 = .ok (.laload, 1) := by decide +kernel
theorem dL_law_340 : decode cL_law 340 = .ok (.iload 6, 2) := by decide +kernel
theorem dL_law_342 : decode cL_law 342 = .ok (.i2l, 1) := by decide +kernel
theorem dL_law_343 : decode cL_law 343 = .ok (.lcmp, 1) := by decide +kernel
theorem dL_law_344 : decode cL_law 344 = .ok (.ifCond .eq 5, 3) := by decide +kernel
theorem dL_law_347 : decode cL_law 347 = .ok (.iconst 0, 1) := by decide +kernel
theorem dL_law_348 : decode cL_law 348 = .ok (.ireturn, 1) := by decide +kernel
theorem dL_law_349 : decode cL_law 349 = .ok (.goto 1120, 3) := by decide +kernel
theorem dL_law_352 : decode cL_law 352 = .ok (.aload_n 1, 1) := by decide +kernel
theorem dL_law_353 : decode cL_law 353 = .ok (.aload_n 0, 1) := by decide +kernel
theorem dL_law_354 : decode cL_law 354 = .ok (.iload 4, 2) := by decide +kernel
theorem dL_law_356 : decode cL_law 356 = .ok (.iconst 1, 1) := by decide +kernel
theorem dL_law_357 : decode cL_law 357 = .ok (.iadd, 1) := by decide +kernel
theorem dL_law_358 : decode cL_law 358 = .ok (.iaload, 1) := by decide +kernel
theorem dL_law_359 : decode cL_law 359 = .ok (.aload_n 0, 1) := by decide +kernel
theorem dL_law_360 : decode cL_law 360 = .ok (.iload 4, 2) := by decide +kernel
theorem dL_law_362 : decode cL_law 362 = .ok (.iconst 2, 1) := by decide +kernel
theorem dL_law_363 : decode cL_law 363 = .ok (.iadd, 1) := by decide +kernel
theorem dL_law_364 : decode cL_law 364 = .ok (.iaload, 1) := by decide +kernel
theorem dL_law_365 : decode cL_law 365 = .ok (.aload_n 3, 1) := by decide +kernel
theorem dL_law_366 : decode cL_law 366 = .ok (.invokestatic 99, 3) := by decide +kernel
theorem dL_law_369 : decode cL_law 369 = .ok (.istore 5, 2) := by decide +kernel
theorem dL_law_371 : decode cL_law 371 = .ok (.aload_n 2, 1) := by decide +kernel
theorem dL_law_372 : decode cL_law 372 = .ok (.aload_n 0, 1) := by decide +kernel
theorem dL_law_373 : decode cL_law 373 = .ok (.iload 4, 2) := by decide +kernel
theorem dL_law_375 : decode cL_law 375 = .ok (.iconst 1, 1) := by decide +kernel
theorem dL_law_376 : decode cL_law 376 = .ok (.iadd, 1) := by decide +kernel
theorem dL_law_377 : decode cL_law 377 = .ok (.iaload, 1) := by decide +kernel
theorem dL_law_378 : decode cL_law 378 = .ok (.aload_n 0, 1) := by decide +kernel
theorem dL_law_379 : decode cL_law 379 = .ok (.iload 4, 2) := by decide +kernel
theorem dL_law_381 : decode cL_law 381 = .ok (.iconst 2, 1) := by decide +kernel
theorem dL_law_382 : decode cL_law 382 = .ok (.iadd, 1) := by decide +kernel
theorem dL_law_383 : decode cL_law 383 = .ok (.iaload, 1) := by decide +kernel
theorem dL_law_384 : decode cL_law 384 = .ok (.invokevirtual 102, 3) := by decide +kernel
theorem dL_law_387 : decode cL_law 387 = .ok (.istore 6, 2) := by decide +kernel
theorem dL_law_389 : decode cL_law 389 = .ok (.aload_n 2, 1) := by decide +kernel
theorem dL_law_390 : decode cL_law 390 = .ok (.invokevirtual 89, 3) := by decide +kernel
theorem dL_law_393 : decode cL_law 393 = .ok (.iload 5, 2) := by decide +kernel
theorem dL_law_395 : decode cL_law 395 = .ok (.if_icmp .eq 5, 3) := by decide +kernel
theorem dL_law_398 : decode cL_law 398 = .ok (.iconst 0, 1) := by decide +kernel
theorem dL_law_399 : decode cL_law 399 = .ok (.ireturn, 1) := by decide +kernel
theorem dL_law_400 : decode cL_law 400 = .ok (.iload 5, 2) := by decide +kernel
theorem dL_law_402 : decode cL_law 402 = .ok (.ifCond .ne 15, 3) := by decide +kernel
theorem dL_law_405 : decode cL_law 405 = .ok (.aload_n 3, 1) := by decide +kernel
theorem dL_law_406 : decode cL_law 406 = .ok (.iconst 0, 1) := by decide +kernel
theorem dL_law_407 : decode cL_law 407 = .ok (.laload, 1) := by decide +kernel
theorem dL_law_408 : decode cL_law 408 = .ok (.iload 6, 2) := by decide +kernel
theorem dL_law_410 : decode cL_law 410 = .ok (.i2l, 1) := by decide +kernel
theorem dL_law_411 : decode cL_law 411 = .ok (.lcmp, 1) := by decide +kernel
theorem dL_law_412 : decode cL_law 412 = .ok (.ifCond .eq 5, 3) := by decide +kernel
theorem dL_law_415 : decode cL_law 415 = .ok (.iconst 0, 1) := by decide +kernel
theorem dL_law_416 : decode cL_law 416 = .ok (.ireturn, 1) := by decide +kernel
theorem dL_law_417 : decode cL_law 417 = .ok (.goto 1052, 3) := by decide +kernel
theorem dL_law_420 : decode cL_law 420 = .ok (.aload_n 1, 1) := by decide +kernel
theorem dL_law_421 : decode cL_law 421 = .ok (.aload_n 0, 1) := by decide +kernel
theorem dL_law_422 : decode cL_law 422 = .ok (.iload 4, 2) := by decide +kernel
theorem dL_law_424 : decode cL_law 424 = .ok (.iconst 1, 1) := by decide +kernel
theorem dL_law_425 : decode cL_law 425 = .ok (.iadd, 1) := by decide +kernel
theorem dL_law_426 : decode cL_law 426 = .ok (.iaload, 1) := by decide +kernel
theorem dL_law_427 : decode cL_law 427 = .ok (.aload_n 0, 1) := by decide +kernel
theorem dL_law_428 : decode cL_law 428 = .ok (.iload 4, 2) := by decide +kernel
theorem dL_law_430 : decode cL_law 430 = .ok (.iconst 2, 1) := by decide +kernel
theorem dL_law_431 : decode cL_law 431 = .ok (.iadd, 1) := by decide +kernel
theorem dL_law_432 : decode cL_law 432 = .ok (.iaload, 1) := by decide +kernel
theorem dL_law_433 : decode cL_law 433 = .ok (.aload_n 3, 1) := by decide +kernel
theorem dL_law_434 : decode cL_law 434 = .ok (.invokestatic 103, 3) := by decide +kernel
theorem dL_law_437 : decode cL_law 437 = .ok (.istore 5, 2) := by decide +kernel
theorem dL_law_439 : decode cL_law 439 = .ok (.aload_n 2, 1) := by decide +kernel
theorem dL_law_440 : decode cL_law 440 = .ok (.aload_n 0, 1) := by decide +kernel
theorem dL_law_441 : decode cL_law 441 = .ok (.iload 4, 2) := by decide +kernel
theorem dL_law_443 : decode cL_law 443 = .ok (.iconst 1, 1) := by decide +kernel
theorem dL_law_444 : decode cL_law 444 = .ok (.iadd, 1) := by decide +kernel
theorem dL_law_445 : decode cL_law 445 = .ok (.iaload, 1) := by decide +kernel
theorem dL_law_446 : decode cL_law 446 = .ok (.aload_n 0, 1) := by decide +kernel
theorem dL_law_447 : decode cL_law 447 = .ok (.iload 4, 2) := by decide +kernel
theorem dL_law_449 : decode cL_law 449 = .ok (.iconst 2, 1) := by decide +kernel
theorem dL_law_450 : decode cL_law 450 = .ok (.iadd, 1) := by decide +kernel
theorem dL_law_451 : decode cL_law 451 = .ok (.iaload, 1) := by decide +kernel
theorem dL_law_452 : decode cL_law 452 = .ok (.invokevirtual 105, 3) := by decide +kernel
theorem dL_law_455 : decode cL_law 455 = .ok (.istore 6, 2) := by decide +kernel
theorem dL_law_457 : decode cL_law 457 = .ok (.aload_n 2, 1) := by decide +kernel
theorem dL_law_458 : decode cL_law 458 = .ok (.invokevirtual 89, 3) := by decide +kernel
theorem dL_law_461 : decode cL_law 461 = .ok (.iload 5, 2) := by decide +kernel
theorem dL_law_463 : decode cL_law 463 = .ok (.if_icmp .eq 5, 3) := by decide +kernel
theorem dL_law_466 : decode cL_law 466 = .ok (.iconst 0, 1) := by decide +kernel
theorem dL_law_467 : decode cL_law 467 = .ok (.ireturn, 1) := by decide +kernel
theorem dL_law_468 : decode cL_law 468 = .ok (.iload 5, 2) := by decide +kernel
theorem dL_law_470 : decode cL_law 470 = .ok (.ifCond .ne 15, 3) := by decide +kernel
theorem dL_law_473 : decode cL_law 473 = .ok (.aload_n 3, 1) := by decide +kernel
theorem dL_law_474 : decode cL_law 474 = .ok (.iconst 0, 1) := by decide +kernel
theorem dL_law_475 : decode cL_law 475 = .ok (.laload, 1) := by decide +kernel
theorem dL_law_476 : decode cL_law 476 = .ok (.iload 6, 2) := by decide +kernel
theorem dL_law_478 : decode cL_law 478 = .ok (.i2l, 1) := by decide +kernel
theorem dL_law_479 : decode cL_law 479 = .ok (.lcmp, 1) := by decide +kernel
theorem dL_law_480 : decode cL_law 480 = .ok (.ifCond .eq 5, 3) := by decide +kernel
theorem dL_law_483 : decode cL_law 483 = .ok (.iconst 0, 1) := by decide +kernel
theorem dL_law_484 : decode cL_law 484 = .ok (.ireturn, 1) := by decide +kernel
theorem dL_law_485 : decode cL_law 485 = .ok (.goto 984, 3) := by decide +kernel
theorem dL_law_488 : decode cL_law 488 = .ok (.aload_n 1, 1) := by decide +kernel
theorem dL_law_489 : decode cL_law 489 = .ok (.aload_n 0, 1) := by decide +kernel
theorem dL_law_490 : decode cL_law 490 = .ok (.iload 4, 2) := by decide +kernel
theorem dL_law_492 : decode cL_law 492 = .ok (.iconst 1, 1) := by decide +kernel
theorem dL_law_493 : decode cL_law 493 = .ok (.iadd, 1) := by decide +kernel
theorem dL_law_494 : decode cL_law 494 = .ok (.iaload, 1) := by decide +kernel
theorem dL_law_495 : decode cL_law 495 = .ok (.aload_n 0, 1) := by decide +kernel
theorem dL_law_496 : decode cL_law 496 = .ok (.iload 4, 2) := by decide +kernel
theorem dL_law_498 : decode cL_law 498 = .ok (.iconst 2, 1) := by decide +kernel
theorem dL_law_499 : decode cL_law 499 = .ok (.iadd, 1) := by decide +kernel
theorem dL_law_500 : decode cL_law 500 = .ok (.iaload, 1) := by decide +kernel
theorem dL_law_501 : decode cL_law 501 = .ok (.aload_n 3, 1) := by decide +kernel
theorem dL_law_502 : decode cL_law 502 = .ok (.invokestatic 106, 3) := by decide +kernel
theorem dL_law_505 : decode cL_law 505 = .ok (.istore 5, 2) := by decide +kernel
theorem dL_law_507 : decode cL_law 507 = .ok (.aload_n 2, 1) := by decide +kernel
theorem dL_law_508 : decode cL_law 508 = .ok (.aload_n 0, 1) := by decide +kernel
theorem dL_law_509 : decode cL_law 509 = .ok (.iload 4, 2) := by decide +kernel
theorem dL_law_511 : decode cL_law 511 = .ok (.iconst 1, 1) := by decide +kernel
theorem dL_law_512 : decode cL_law 512 = .ok (.iadd, 1) := by decide +kernel
theorem dL_law_513 : decode cL_law 513 = .ok (.iaload, 1) := by decide +kernel
theorem dL_law_514 : decode cL_law 514 = .ok (.aload_n 0, 1) := by decide +kernel
theorem dL_law_515 : decode cL_law 515 = .ok (.iload 4, 2) := by decide +kernel
theorem dL_law_517 : decode cL_law 517 = .ok (.iconst 2, 1) := by decide +kernel
theorem dL_law_518 : decode cL_law 518 = .ok (.iadd, 1) := by decide +kernel
theorem dL_law_519 : decode cL_law 519 = .ok (.iaload, 1) := by decide +kernel
theorem dL_law_520 : decode cL_law 520 = .ok (.invokevirtual 108, 3) := by decide +kernel
theorem dL_law_523 : decode cL_law 523 = .ok (.istore 6, 2) := by decide +kernel
theorem dL_law_525 : decode cL_law 525 = .ok (.aload_n 2, 1) := by decide +kernel
theorem dL_law_526 : decode cL_law 526 = .ok (.invokevirtual 89, 3) := by decide +kernel
theorem dL_law_529 : decode cL_law 529 = .ok (.iload 5, 2) := by decide +kernel
theorem dL_law_531 : decode cL_law 531 = .ok (.if_icmp .eq 5, 3) := by decide +kernel
theorem dL_law_534 : decode cL_law 534 = .ok (.iconst 0, 1) := by decide +kernel
theorem dL_law_535 : decode cL_law 535 = .ok (.ireturn, 1) := by decide +kernel
theorem dL_law_536 : decode cL_law 536 = .ok (.iload 5, 2) := by decide +kernel
theorem dL_law_538 : decode cL_law 538 = .ok (.ifCond .ne 15, 3) := by decide +kernel
theorem dL_law_541 : decode cL_law 541 = .ok (.aload_n 3, 1) := by decide +kernel
theorem dL_law_542 : decode cL_law 542 = .ok (.iconst 0, 1) := by decide +kernel
theorem dL_law_543 : decode cL_law 543 = .ok (.laload, 1) := by decide +kernel
theorem dL_law_544 : decode cL_law 544 = .ok (.iload 6, 2) := by decide +kernel
theorem dL_law_546 : decode cL_law 546 = .ok (.i2l, 1) := by decide +kernel
theorem dL_law_547 : decode cL_law 547 = .ok (.lcmp, 1) := by decide +kernel
theorem dL_law_548 : decode cL_law 548 = .ok (.ifCond .eq 5, 3) := by decide +kernel
theorem dL_law_551 : decode cL_law 551 = .ok (.iconst 0, 1) := by decide +kernel
theorem dL_law_552 : decode cL_law 552 = .ok (.ireturn, 1) := by decide +kernel
theorem dL_law_553 : decode cL_law 553 = .ok (.goto 916, 3) := by decide +kernel
theorem dL_law_556 : decode cL_law 556 = .ok (.aload_n 1, 1) := by decide +kernel
theorem dL_law_557 : decode cL_law 557 = .ok (.aload_n 0, 1) := by decide +kernel
theorem dL_law_558 : decode cL_law 558 = .ok (.iload 4, 2) := by decide +kernel
theorem dL_law_560 : decode cL_law 560 = .ok (.iconst 1, 1) := by decide +kernel
theorem dL_law_561 : decode cL_law 561 = .ok (.iadd, 1) := by decide +kernel
theorem dL_law_562 : decode cL_law 562 = .ok (.iaload, 1) := by decide +kernel
theorem dL_law_563 : decode cL_law 563 = .ok (.aload_n 3, 1) := by decide +kernel
theorem dL_law_564 : decode cL_law 564 = .ok (.invokestatic 109, 3) := by decide +kernel
theorem dL_law_567 : decode cL_law 567 = .ok (.istore 5, 2) := by decide +kernel
theorem dL_law_569 : decode cL_law 569 = .ok (.aload_n 2, 1) := by decide +kernel
theorem dL_law_570 : decode cL_law 570 = .ok (.aload_n 0, 1) := by decide +kernel
theorem dL_law_571 : decode cL_law 571 = .ok (.iload 4, 2) := by decide +kernel
theorem dL_law_573 : decode cL_law 573 = .ok (.iconst 1, 1) := by decide +kernel
theorem dL_law_574 : decode cL_law 574 = .ok (.iadd, 1) := by decide +kernel
theorem dL_law_575 : decode cL_law 575 = .ok (.iaload, 1) := by decide +kernel
theorem dL_law_576 : decode cL_law 576 = .ok (.invokevirtual 112, 3) := by decide +kernel
theorem dL_law_579 : decode cL_law 579 = .ok (.istore 6, 2) := by decide +kernel
theorem dL_law_581 : decode cL_law 581 = .ok (.aload_n 2, 1) := by decide +kernel
theorem dL_law_582 : decode cL_law 582 = .ok (.invokevirtual 89, 3) := by decide +kernel
theorem dL_law_585 : decode cL_law 585 = .ok (.iload 5, 2) := by decide +kernel
theorem dL_law_587 : decode cL_law 587 = .ok (.if_icmp .eq 5, 3) := by decide +kernel
theorem dL_law_590 : decode cL_law 590 = .ok (.iconst 0, 1) := by decide +kernel
theorem dL_law_591 : decode cL_law 591 = .ok (.ireturn, 1) := by decide +kernel
theorem dL_law_592 : decode cL_law 592 = .ok (.iload 5, 2) := by decide +kernel
theorem dL_law_594 : decode cL_law 594 = .ok (.ifCond .ne 15, 3) := by decide +kernel
theorem dL_law_597 : decode cL_law 597 = .ok (.aload_n 3, 1) := by decide +kernel
theorem dL_law_598 : decode cL_law 598 = .ok (.iconst 0, 1) := by decide +kernel
theorem dL_law_599 : decode cL_law 599 = .ok (.laload, 1) := by decide +kernel
theorem dL_law_600 : decode cL_law 600 = .ok (.iload 6, 2) := by decide +kernel
theorem dL_law_602 : decode cL_law 602 = .ok (.i2l, 1) := by decide +kernel
theorem dL_law_603 : decode cL_law 603 = .ok (.lcmp, 1) := by decide +kernel
theorem dL_law_604 : decode cL_law 604 = .ok (.ifCond .eq 5, 3) := by decide +kernel
theorem dL_law_607 : decode cL_law 607 = .ok (.iconst 0, 1) := by decide +kernel
theorem dL_law_608 : decode cL_law 608 = .ok (.ireturn, 1) := by decide +kernel
theorem dL_law_609 : decode cL_law 609 = .ok (.goto 860, 3) := by decide +kernel
theorem dL_law_612 : decode cL_law 612 = .ok (.aload_n 1, 1) := by decide +kernel
theorem dL_law_613 : decode cL_law 613 = .ok (.aload_n 0, 1) := by decide +kernel
theorem dL_law_614 : decode cL_law 614 = .ok (.iload 4, 2) := by decide +kernel
theorem dL_law_616 : decode cL_law 616 = .ok (.iconst 1, 1) := by decide +kernel
theorem dL_law_617 : decode cL_law 617 = .ok (.iadd, 1) := by decide +kernel
theorem dL_law_618 : decode cL_law 618 = .ok (.iaload, 1) := by decide +kernel
theorem dL_law_619 : decode cL_law 619 = .ok (.aload_n 3, 1) := by decide +kernel
theorem dL_law_620 : decode cL_law 620 = .ok (.invokestatic 113, 3) := by decide +kernel
theorem dL_law_623 : decode cL_law 623 = .ok (.istore 5, 2) := by decide +kernel
theorem dL_law_625 : decode cL_law 625 = .ok (.aload_n 2, 1) := by decide +kernel
theorem dL_law_626 : decode cL_law 626 = .ok (.aload_n 0, 1) := by decide +kernel
theorem dL_law_627 : decode cL_law 627 = .ok (.iload 4, 2) := by decide +kernel
theorem dL_law_629 : decode cL_law 629 = .ok (.iconst 1, 1) := by decide +kernel
theorem dL_law_630 : decode cL_law 630 = .ok (.iadd, 1) := by decide +kernel
theorem dL_law_631 : decode cL_law 631 = .ok (.iaload, 1) := by decide +kernel
theorem dL_law_632 : decode cL_law 632 = .ok (.invokevirtual 115, 3) := by decide +kernel
theorem dL_law_635 : decode cL_law 635 = .ok (.istore 6, 2) := by decide +kernel
theorem dL_law_637 : decode cL_law 637 = .ok (.aload_n 2, 1) := by decide +kernel
theorem dL_law_638 : decode cL_law 638 = .ok (.invokevirtual 89, 3) := by decide +kernel
theorem dL_law_641 : decode cL_law 641 = .ok (.iload 5, 2) := by decide +kernel
theorem dL_law_643 : decode cL_law 643 = .ok (.if_icmp .eq 5, 3) := by decide +kernel
theorem dL_law_646 : decode cL_law 646 = .ok (.iconst 0, 1) := by decide +kernel
theorem dL_law_647 : decode cL_law 647 = .ok (.ireturn, 1) := by decide +kernel
theorem dL_law_648 : decode cL_law 648 = .ok (.iload 5, 2) := by decide +kernel
theorem dL_law_650 : decode cL_law 650 = .ok (.ifCond .ne 15, 3) := by decide +kernel
theorem dL_law_653 : decode cL_law 653 = .ok (.aload_n 3, 1) := by decide +kernel
theorem dL_law_654 : decode cL_law 654 = .ok (.iconst 0, 1) := by decide +kernel
theorem dL_law_655 : decode cL_law 655 = .ok (.laload, 1) := by decide +kernel
theorem dL_law_656 : decode cL_law 656 = .ok (.iload 6, 2) := by decide +kernel
theorem dL_law_658 : decode cL_law 658 = .ok (.i2l, 1) := by decide +kernel
theorem dL_law_659 : decode cL_law 659 = .ok (.lcmp, 1) := by decide +kernel
theorem dL_law_660 : decode cL_law 660 = .ok (.ifCond .eq 5, 3) := by decide +kernel
theorem dL_law_663 : decode cL_law 663 = .ok (.iconst 0, 1) := by decide +kernel
theorem dL_law_664 : decode cL_law 664 = .ok (.ireturn, 1) := by decide +kernel
theorem dL_law_665 : decode cL_law 665 = .ok (.goto 804, 3) := by decide +kernel
theorem dL_law_668 : decode cL_law 668 = .ok (.aload_n 1, 1) := by decide +kernel
theorem dL_law_669 : decode cL_law 669 = .ok (.aload_n 0, 1) := by decide +kernel
theorem dL_law_670 : decode cL_law 670 = .ok (.iload 4, 2) := by decide +kernel
theorem dL_law_672 : decode cL_law 672 = .ok (.iconst 1, 1) := by decide +kernel
theorem dL_law_673 : decode cL_law 673 = .ok (.iadd, 1) := by decide +kernel
theorem dL_law_674 : decode cL_law 674 = .ok (.iaload, 1) := by decide +kernel
theorem dL_law_675 : decode cL_law 675 = .ok (.aload_n 3, 1) := by decide +kernel
theorem dL_law_676 : decode cL_law 676 = .ok (.invokestatic 116, 3) := by decide +kernel
theorem dL_law_679 : decode cL_law 679 = .ok (.istore 5, 2) := by decide +kernel
theorem dL_law_681 : decode cL_law 681 = .ok (.aload_n 2, 1) := by decide +kernel
theorem dL_law_682 : decode cL_law 682 = .ok (.aload_n 0, 1) := by decide +kernel
theorem dL_law_683 : decode cL_law 683 = .ok (.iload 4, 2) := by decide +kernel
theorem dL_law_685 : decode cL_law 685 = .ok (.iconst 1, 1) := by decide +kernel
theorem dL_law_686 : decode cL_law 686 = .ok (.iadd, 1) := by decide +kernel
theorem dL_law_687 : decode cL_law 687 = .ok (.iaload, 1) := by decide +kernel
theorem dL_law_688 : decode cL_law 688 = .ok (.invokevirtual 118, 3) := by decide +kernel
theorem dL_law_691 : decode cL_law 691 = .ok (.istore 6, 2) := by decide +kernel
theorem dL_law_693 : decode cL_law 693 = .ok (.aload_n 2, 1) := by decide +kernel
theorem dL_law_694 : decode cL_law 694 = .ok (.invokevirtual 89, 3) := by decide +kernel
theorem dL_law_697 : decode cL_law 697 = .ok (.iload 5, 2) := by decide +kernel
theorem dL_law_699 : decode cL_law 699 = .ok (.if_icmp .eq 5, 3) := by decide +kernel
theorem dL_law_702 : decode cL_law 702 = .ok (.iconst 0, 1) := by decide +kernel
theorem dL_law_703 : decode cL_law 703 = .ok (.ireturn, 1) := by decide +kernel
theorem dL_law_704 : decode cL_law 704 = .ok (.iload 5, 2) := by decide +kernel
theorem dL_law_706 : decode cL_law 706 = .ok (.ifCond .ne 15, 3) := by decide +kernel
theorem dL_law_709 : decode cL_law 709 = .ok (.aload_n 3, 1) := by decide +kernel
theorem dL_law_710 : decode cL_law 710 = .ok (.iconst 0, 1) := by decide +kernel
theorem dL_law_711 : decode cL_law 711 = .ok (.laload, 1) := by decide +kernel
theorem dL_law_712 : decode cL_law 712 = .ok (.iload 6, 2) := by decide +kernel
theorem dL_law_714 : decode cL_law 714 = .ok (.i2l, 1) := by decide +kernel
theorem dL_law_715 : decode cL_law 715 = .ok (.lcmp, 1) := by decide +kernel
theorem dL_law_716 : decode cL_law 716 = .ok (.ifCond .eq 5, 3) := by decide +kernel
theorem dL_law_719 : decode cL_law 719 = .ok (.iconst 0, 1) := by decide +kernel
theorem dL_law_720 : decode cL_law 720 = .ok (.ireturn, 1) := by decide +kernel
theorem dL_law_721 : decode cL_law 721 = .ok (.goto 748, 3) := by decide +kernel
theorem dL_law_724 : decode cL_law 724 = .ok (.aload_n 1, 1) := by decide +kernel
theorem dL_law_725 : decode cL_law 725 = .ok (.invokevirtual 119, 3) := by decide +kernel
theorem dL_law_728 : decode cL_law 728 = .ok (.aload_n 2, 1) := by decide +kernel
theorem dL_law_729 : decode cL_law 729 = .ok (.invokevirtual 122, 3) := by decide +kernel
theorem dL_law_732 : decode cL_law 732 = .ok (.if_icmp .eq 737, 3) := by decide +kernel
theorem dL_law_735 : decode cL_law 735 = .ok (.iconst 0, 1) := by decide +kernel
theorem dL_law_736 : decode cL_law 736 = .ok (.ireturn, 1) := by decide +kernel
theorem dL_law_737 : decode cL_law 737 = .ok (.aload_n 1, 1) := by decide +kernel
theorem dL_law_738 : decode cL_law 738 = .ok (.invokevirtual 123, 3) := by decide +kernel
theorem dL_law_741 : decode cL_law 741 = .ok (.aload_n 2, 1) := by decide +kernel
theorem dL_law_742 : decode cL_law 742 = .ok (.invokevirtual 126, 3) := by decide +kernel
theorem dL_law_745 : decode cL_law 745 = .ok (.if_icmp .eq 724, 3) := by decide +kernel
theorem dL_law_748 : decode cL_law 748 = .ok (.iconst 0, 1) := by decide +kernel
theorem dL_law_749 : decode cL_law 749 = .ok (.ireturn, 1) := by decide +kernel
theorem dL_law_750 : decode cL_law 750 = .ok (.aload_n 1, 1) := by decide +kernel
theorem dL_law_751 : decode cL_law 751 = .ok (.aload_n 3, 1) := by decide +kernel
theorem dL_law_752 : decode cL_law 752 = .ok (.invokestatic 127, 3) := by decide +kernel
theorem dL_law_755 : decode cL_law 755 = .ok (.istore 5, 2) := by decide +kernel
theorem dL_law_757 : decode cL_law 757 = .ok (.aload_n 2, 1) := by decide +kernel
theorem dL_law_758 : decode cL_law 758 = .ok (.invokevirtual 129, 3) := by decide +kernel
theorem dL_law_761 : decode cL_law 761 = .ok (.istore 6, 2) := by decide +kernel
theorem dL_law_763 : decode cL_law 763 = .ok (.aload_n 2, 1) := by decide +kernel
theorem dL_law_764 : decode cL_law 764 = .ok (.invokevirtual 89, 3) := by decide +kernel
theorem dL_law_767 : decode cL_law 767 = .ok (.iload 5, 2) := by decide +kernel
theorem dL_law_769 : decode cL_law 769 = .ok (.if_icmp .eq 5, 3) := by decide +kernel
theorem dL_law_772 : decode cL_law 772 = .ok (.iconst 0, 1) := by decide +kernel
theorem dL_law_773 : decode cL_law 773 = .ok (.ireturn, 1) := by decide +kernel
theorem dL_law_774 : decode cL_law 774 = .ok (.iload 5, 2) := by decide +kernel
theorem dL_law_776 : decode cL_law 776 = .ok (.ifCond .ne 15, 3) := by decide +kernel
theorem dL_law_779 : decode cL_law 779 = .ok (.aload_n 3, 1) := by decide +kernel
theorem dL_law_780 : decode cL_law 780 = .ok (.iconst 0, 1) := by decide +kernel
theorem dL_law_781 : decode cL_law 781 = .ok (.laload, 1) := by decide +kernel
theorem dL_law_782 : decode cL_law 782 = .ok (.iload 6, 2) := by decide +kernel
theorem dL_law_784 : decode cL_law 784 = .ok (.i2l, 1) := by decide +kernel
theorem dL_law_785 : decode cL_law 785 = .ok (.lcmp, 1) := by decide +kernel
theorem dL_law_786 : decode cL_law 786 = .ok (.ifCond .eq 5, 3) := by decide +kernel
theorem dL_law_789 : decode cL_law 789 = .ok (.iconst 0, 1) := by decide +kernel
theorem dL_law_790 : decode cL_law 790 = .ok (.ireturn, 1) := by decide +kernel
theorem dL_law_791 : decode cL_law 791 = .ok (.goto 678, 3) := by decide +kernel
theorem dL_law_794 : decode cL_law 794 = .ok (.aload_n 1, 1) := by decide +kernel
theorem dL_law_795 : decode cL_law 795 = .ok (.aload_n 3, 1) := by decide +kernel
theorem dL_law_796 : decode cL_law 796 = .ok (.invokestatic 130, 3) := by decide +kernel
theorem dL_law_799 : decode cL_law 799 = .ok (.istore 5, 2) := by decide +kernel
theorem dL_law_801 : decode cL_law 801 = .ok (.aload_n 2, 1) := by decide +kernel
theorem dL_law_802 : decode cL_law 802 = .ok (.invokevirtual 132, 3) := by decide +kernel
theorem dL_law_805 : decode cL_law 805 = .ok (.istore 6, 2) := by decide +kernel
theorem dL_law_807 : decode cL_law 807 = .ok (.aload_n 2, 1) := by decide +kernel
theorem dL_law_808 : decode cL_law 808 = .ok (.invokevirtual 89, 3) := by decide +kernel
theorem dL_law_811 : decode cL_law 811 = .ok (.iload 5, 2) := by decide +kernel
theorem dL_law_813 : decode cL_law 813 = .ok (.if_icmp .eq 5, 3) := by decide +kernel
theorem dL_law_816 : decode cL_law 816 = .ok (.iconst 0, 1) := by decide +kernel
theorem dL_law_817 : decode cL_law 817 = .ok (.ireturn, 1) := by decide +kernel
theorem dL_law_818 : decode cL_law 818 = .ok (.iload 5, 2) := by decide +kernel
theorem dL_law_820 : decode cL_law 820 = .ok (.ifCond .ne 15, 3) := by decide +kernel
theorem dL_law_823 : decode cL_law 823 = .ok (.aload_n 3, 1) := by decide +kernel
theorem dL_law_824 : decode cL_law 824 = .ok (.iconst 0, 1) := by decide +kernel
theorem dL_law_825 : decode cL_law 825 = .ok (.laload, 1) := by decide +kernel
theorem dL_law_826 : decode cL_law 826 = .ok (.iload 6, 2) := by decide +kernel
theorem dL_law_828 : decode cL_law 828 = .ok (.i2l, 1) := by decide +kernel
theorem dL_law_829 : decode cL_law 829 = .ok (.lcmp, 1) := by decide +kernel
theorem dL_law_830 : decode cL_law 830 = .ok (.ifCond .eq 5, 3) := by decide +kernel
theorem dL_law_833 : decode cL_law 833 = .ok (.iconst 0, 1) := by decide +kernel
theorem dL_law_834 : decode cL_law 834 = .ok (.ireturn, 1) := by decide +kernel
theorem dL_law_835 : decode cL_law 835 = .ok (.goto 634, 3) := by decide +kernel
theorem dL_law_838 : decode cL_law 838 = .ok (.aload_n 1, 1) := by decide +kernel
theorem dL_law_839 : decode cL_law 839 = .ok (.aload_n 0, 1) := by decide +kernel
theorem dL_law_840 : decode cL_law 840 = .ok (.iload 4, 2) := by decide +kernel
theorem dL_law_842 : decode cL_law 842 = .ok (.iconst 1, 1) := by decide +kernel
theorem dL_law_843 : decode cL_law 843 = .ok (.iadd, 1) := by decide +kernel
theorem dL_law_844 : decode cL_law 844 = .ok (.iaload, 1) := by decide +kernel
theorem dL_law_845 : decode cL_law 845 = .ok (.aload_n 0, 1) := by decide +kernel
theorem dL_law_846 : decode cL_law 846 = .ok (.iload 4, 2) := by decide +kernel
theorem dL_law_848 : decode cL_law 848 = .ok (.iconst 2, 1) := by decide +kernel
theorem dL_law_849 : decode cL_law 849 = .ok (.iadd, 1) := by decide +kernel
theorem dL_law_850 : decode cL_law 850 = .ok (.iaload, 1) := by decide +kernel
theorem dL_law_851 : decode cL_law 851 = .ok (.aload_n 3, 1) := by decide +kernel
theorem dL_law_852 : decode cL_law 852 = .ok (.invokestatic 133, 3) := by decide +kernel
theorem dL_law_855 : decode cL_law 855 = .ok (.istore 5, 2) := by decide +kernel
theorem dL_law_857 : decode cL_law 857 = .ok (.aload_n 2, 1) := by decide +kernel
theorem dL_law_858 : decode cL_law 858 = .ok (.aload_n 0, 1) := by decide +kernel
theorem dL_law_859 : decode cL_law 859 = .ok (.iload 4, 2) := by decide +kernel
theorem dL_law_861 : decode cL_law 861 = .ok (.iconst 1, 1) := by decide +kernel
theorem dL_law_862 : decode cL_law 862 = .ok (.iadd, 1) := by decide +kernel
theorem dL_law_863 : decode cL_law 863 = .ok (.iaload, 1) := by decide +kernel
theorem dL_law_864 : decode cL_law 864 = .ok (.aload_n 0, 1) := by decide +kernel
theorem dL_law_865 : decode cL_law 865 = .ok (.iload 4, 2) := by decide +kernel
theorem dL_law_867 : decode cL_law 867 = .ok (.iconst 2, 1) := by decide +kernel
theorem dL_law_868 : decode cL_law 868 = .ok (.iadd, 1) := by decide +kernel
theorem dL_law_869 : decode cL_law 869 = .ok (.iaload, 1) := by decide +kernel
theorem dL_law_870 : decode cL_law 870 = .ok (.invokevirtual 135, 3) := by decide +kernel
theorem dL_law_873 : decode cL_law 873 = .ok (.istore 6, 2) := by decide +kernel
theorem dL_law_875 : decode cL_law 875 = .ok (.aload_n 2, 1) := by decide +kernel
theorem dL_law_876 : decode cL_law 876 = .ok (.invokevirtual 89, 3) := by decide +kernel
theorem dL_law_879 : decode cL_law 879 = .ok (.iload 5, 2) := by decide +kernel
theorem dL_law_881 : decode cL_law 881 = .ok (.if_icmp .eq 5, 3) := by decide +kernel
theorem dL_law_884 : decode cL_law 884 = .ok (.iconst 0, 1) := by decide +kernel
theorem dL_law_885 : decode cL_law 885 = .ok (.ireturn, 1) := by decide +kernel
theorem dL_law_886 : decode cL_law 886 = .ok (.iload 5, 2) := by decide +kernel
theorem dL_law_888 : decode cL_law 888 = .ok (.ifCond .ne 15, 3) := by decide +kernel
theorem dL_law_891 : decode cL_law 891 = .ok (.aload_n 3, 1) := by decide +kernel
theorem dL_law_892 : decode cL_law 892 = .ok (.iconst 0, 1) := by decide +kernel
theorem dL_law_893 : decode cL_law 893 = .ok (.laload, 1) := by decide +kernel
theorem dL_law_894 : decode cL_law 894 = .ok (.iload 6, 2) := by decide +kernel
theorem dL_law_896 : decode cL_law 896 = .ok (.i2l, 1) := by decide +kernel
theorem dL_law_897 : decode cL_law 897 = .ok (.lcmp, 1) := by decide +kernel
theorem dL_law_898 : decode cL_law 898 = .ok (.ifCond .eq 5, 3) := by decide +kernel
theorem dL_law_901 : decode cL_law 901 = .ok (.iconst 0, 1) := by decide +kernel
theorem dL_law_902 : decode cL_law 902 = .ok (.ireturn, 1) := by decide +kernel
theorem dL_law_903 : decode cL_law 903 = .ok (.goto 566, 3) := by decide +kernel
theorem dL_law_906 : decode cL_law 906 = .ok (.aload_n 1, 1) := by decide +kernel
theorem dL_law_907 : decode cL_law 907 = .ok (.aload_n 0, 1) := by decide +kernel
theorem dL_law_908 : decode cL_law 908 = .ok (.iload 4, 2) := by decide +kernel
theorem dL_law_910 : decode cL_law 910 = .ok (.iconst 1, 1) := by decide +kernel
theorem dL_law_911 : decode cL_law 911 = .ok (.iadd, 1) := by decide +kernel
theorem dL_law_912 : decode cL_law 912 = .ok (.iaload, 1) := by decide +kernel
theorem dL_law_913 : decode cL_law 913 = .ok (.aload_n 0, 1) := by decide +kernel
theorem dL_law_914 : decode cL_law 914 = .ok (.iload 4, 2) := by decide +kernel
theorem dL_law_916 : decode cL_law 916 = .ok (.iconst 2, 1) := by decide +kernel
theorem dL_law_917 : decode cL_law 917 = .ok (.iadd, 1) := by decide +kernel
theorem dL_law_918 : decode cL_law 918 = .ok (.iaload, 1) := by decide +kernel
theorem dL_law_919 : decode cL_law 919 = .ok (.aload_n 3, 1) := by decide +kernel
theorem dL_law_920 : decode cL_law 920 = .ok (.invokestatic 136, 3) := by decide +kernel
theorem dL_law_923 : decode cL_law 923 = .ok (.istore 5, 2) := by decide +kernel
theorem dL_law_925 : decode cL_law 925 = .ok (.aload_n 2, 1) := by decide +kernel
theorem dL_law_926 : decode cL_law 926 = .ok (.aload_n 0, 1) := by decide +kernel
theorem dL_law_927 : decode cL_law 927 = .ok (.iload 4, 2) := by decide +kernel
theorem dL_law_929 : decode cL_law 929 = .ok (.iconst 1, 1) := by decide +kernel
theorem dL_law_930 : decode cL_law 930 = .ok (.iadd, 1) := by decide +kernel
theorem dL_law_931 : decode cL_law 931 = .ok (.iaload, 1) := by decide +kernel
theorem dL_law_932 : decode cL_law 932 = .ok (.aload_n 0, 1) := by decide +kernel
theorem dL_law_933 : decode cL_law 933 = .ok (.iload 4, 2) := by decide +kernel
theorem dL_law_935 : decode cL_law 935 = .ok (.iconst 2, 1) := by decide +kernel
theorem dL_law_936 : decode cL_law 936 = .ok (.iadd, 1) := by decide +kernel
theorem dL_law_937 : decode cL_law 937 = .ok (.iaload, 1) := by decide +kernel
theorem dL_law_938 : decode cL_law 938 = .ok (.invokevirtual 138, 3) := by decide +kernel
theorem dL_law_941 : decode cL_law 941 = .ok (.istore 6, 2) := by decide +kernel
theorem dL_law_943 : decode cL_law 943 = .ok (.aload_n 2, 1) := by decide +kernel
theorem dL_law_944 : decode cL_law 944 = .ok (.invokevirtual 89, 3) := by decide +kernel
theorem dL_law_947 : decode cL_law 947 = .ok (.iload 5, 2) := by decide +kernel
theorem dL_law_949 : decode cL_law 949 = .ok (.if_icmp .eq 5, 3) := by decide +kernel
theorem dL_law_952 : decode cL_law 952 = .ok (.iconst 0, 1) := by decide +kernel
theorem dL_law_953 : decode cL_law 953 = .ok (.ireturn, 1) := by decide +kernel
theorem dL_law_954 : decode cL_law 954 = .ok (.iload 5, 2) := by decide +kernel
theorem dL_law_956 : decode cL_law 956 = .ok (.ifCond .ne 15, 3) := by decide +kernel
theorem dL_law_959 : decode cL_law 959 = .ok (.aload_n 3, 1) := by decide +kernel
theorem dL_law_960 : decode cL_law 960 = .ok (.iconst 0, 1) := by decide +kernel
theorem dL_law_961 : decode cL_law 961 = .ok (.laload, 1) := by decide +kernel
theorem dL_law_962 : decode cL_law 962 = .ok (.iload 6, 2) := by decide +kernel
theorem dL_law_964 : decode cL_law 964 = .ok (.i2l, 1) := by decide +kernel
theorem dL_law_965 : decode cL_law 965 = .ok (.lcmp, 1) := by decide +kernel
theorem dL_law_966 : decode cL_law 966 = .ok (.ifCond .eq 5, 3) := by decide +kernel
theorem dL_law_969 : decode cL_law 969 = .ok (.iconst 0, 1) := by decide +kernel
theorem dL_law_970 : decode cL_law 970 = .ok (.ireturn, 1) := by decide +kernel
theorem dL_law_971 : decode cL_law 971 = .ok (.goto 498, 3) := by decide +kernel
theorem dL_law_974 : decode cL_law 974 = .ok (.aload_n 1, 1) := by decide +kernel
theorem dL_law_975 : decode cL_law 975 = .ok (.aload_n 0, 1) := by decide +kernel
theorem dL_law_976 : decode cL_law 976 = .ok (.iload 4, 2) := by decide +kernel
theorem dL_law_978 : decode cL_law 978 = .ok (.iconst 1, 1) := by decide +kernel
theorem dL_law_979 : decode cL_law 979 = .ok (.iadd, 1) := by decide +kernel
theorem dL_law_980 : decode cL_law 980 = .ok (.iaload, 1) := by decide +kernel
theorem dL_law_981 : decode cL_law 981 = .ok (.aload_n 0, 1) := by decide +kernel
theorem dL_law_982 : decode cL_law 982 = .ok (.iload 4, 2) := by decide +kernel
theorem dL_law_984 : decode cL_law 984 = .ok (.iconst 2, 1) := by decide +kernel
theorem dL_law_985 : decode cL_law 985 = .ok (.iadd, 1) := by decide +kernel
theorem dL_law_986 : decode cL_law 986 = .ok (.iaload, 1) := by decide +kernel
theorem dL_law_987 : decode cL_law 987 = .ok (.aload_n 3, 1) := by decide +kernel
theorem dL_law_988 : decode cL_law 988 = .ok (.invokestatic 139, 3) := by decide +kernel
theorem dL_law_991 : decode cL_law 991 = .ok (.istore 5, 2) := by decide +kernel
theorem dL_law_993 : decode cL_law 993 = .ok (.aload_n 2, 1) := by decide +kernel
theorem dL_law_994 : decode cL_law 994 = .ok (.aload_n 0, 1) := by decide +kernel
theorem dL_law_995 : decode cL_law 995 = .ok (.iload 4, 2) := by decide +kernel
theorem dL_law_997 : decode cL_law 997 = .ok (.iconst 1, 1) := by decide +kernel
theorem dL_law_998 : decode cL_law 998 = .ok (.iadd, 1) := by decide +kernel
theorem dL_law_999 : decode cL_law 999 = .ok (.iaload, 1) := by decide +kernel
theorem dL_law_1000 : decode cL_law 1000 = .ok (.aload_n 0, 1) := by decide +kernel
theorem dL_law_1001 : decode cL_law 1001 = .ok (.iload 4, 2) := by decide +kernel
theorem dL_law_1003 : decode cL_law 1003 = .ok (.iconst 2, 1) := by decide +kernel
theorem dL_law_1004 : decode cL_law 1004 = .ok (.iadd, 1) := by decide +kernel
theorem dL_law_1005 : decode cL_law 1005 = .ok (.iaload, 1) := by decide +kernel
theorem dL_law_1006 : decode cL_law 1006 = .ok (.invokevirtual 141, 3) := by decide +kernel
theorem dL_law_1009 : decode cL_law 1009 = .ok (.istore 6, 2) := by decide +kernel
theorem dL_law_1011 : decode cL_law 1011 = .ok (.aload_n 2, 1) := by decide +kernel
theorem dL_law_1012 : decode cL_law 1012 = .ok (.invokevirtual 89, 3) := by decide +kernel
theorem dL_law_1015 : decode cL_law 1015 = .ok (.iload 5, 2) := by decide +kernel
theorem dL_law_1017 : decode cL_law 1017 = .ok (.if_icmp .eq 5, 3) := by decide +kernel
theorem dL_law_1020 : decode cL_law 1020 = .ok (.iconst 0, 1) := by decide +kernel
theorem dL_law_1021 : decode cL_law 1021 = .ok (.ireturn, 1) := by decide +kernel
theorem dL_law_1022 : decode cL_law 1022 = .ok (.iload 5, 2) := by decide +kernel
theorem dL_law_1024 : decode cL_law 1024 = .ok (.ifCond .ne 15, 3) := by decide +kernel
theorem dL_law_1027 : decode cL_law 1027 = .ok (.aload_n 3, 1) := by decide +kernel
theorem dL_law_1028 : decode cL_law 1028 = .ok (.iconst 0, 1) := by decide +kernel
theorem dL_law_1029 : decode cL_law 1029 = .ok (.laload, 1) := by decide +kernel
theorem dL_law_1030 : decode cL_law 1030 = .ok (.iload 6, 2) := by decide +kernel
theorem dL_law_1032 : decode cL_law 1032 = .ok (.i2l, 1) := by decide +kernel
theorem dL_law_1033 : decode cL_law 1033 = .ok (.lcmp, 1) := by decide +kernel
theorem dL_law_1034 : decode cL_law 1034 = .ok (.ifCond .eq 5, 3) := by decide +kernel
theorem dL_law_1037 : decode cL_law 1037 = .ok (.iconst 0, 1) := by decide +kernel
theorem dL_law_1038 : decode cL_law 1038 = .ok (.ireturn, 1) := by decide +kernel
theorem dL_law_1039 : decode cL_law 1039 = .ok (.goto 430, 3) := by decide +kernel
theorem dL_law_1042 : decode cL_law 1042 = .ok (.aload_n 1, 1) := by decide +kernel
theorem dL_law_1043 : decode cL_law 1043 = .ok (.aload_n 0, 1) := by decide +kernel
theorem dL_law_1044 : decode cL_law 1044 = .ok (.iload 4, 2) := by decide +kernel
theorem dL_law_1046 : decode cL_law 1046 = .ok (.iconst 1, 1) := by decide +kernel
theorem dL_law_1047 : decode cL_law 1047 = .ok (.iadd, 1) := by decide +kernel
theorem dL_law_1048 : decode cL_law 1048 = .ok (.iaload, 1) := by decide +kernel
theorem dL_law_1049 : decode cL_law 1049 = .ok (.aload_n 0, 1) := by decide +kernel
theorem dL_law_1050 : decode cL_law 1050 = .ok (.iload 4, 2) := by decide +kernel
theorem dL_law_1052 : decode cL_law 1052 = .ok (.iconst 2, 1) := by decide +kernel
theorem dL_law_1053 : decode cL_law 1053 = .ok (.iadd, 1) := by decide +kernel
theorem dL_law_1054 : decode cL_law 1054 = .ok (.iaload, 1) := by decide +kernel
theorem dL_law_1055 : decode cL_law 1055 = .ok (.aload_n 3, 1) := by decide +kernel
theorem dL_law_1056 : decode cL_law 1056 = .ok (.invokestatic 142, 3) := by decide +kernel
theorem dL_law_1059 : decode cL_law 1059 = .ok (.istore 5, 2) := by decide +kernel
theorem dL_law_1061 : decode cL_law 1061 = .ok (.aload_n 2, 1) := by decide +kernel
theorem dL_law_1062 : decode cL_law 1062 = .ok (.aload_n 0, 1) := by decide +kernel
theorem dL_law_1063 : decode cL_law 1063 = .ok (.iload 4, 2) := by decide +kernel
theorem dL_law_1065 : decode cL_law 1065 = .ok (.iconst 1, 1) := by decide +kernel
theorem dL_law_1066 : decode cL_law 1066 = .ok (.iadd, 1) := by decide +kernel
theorem dL_law_1067 : decode cL_law 1067 = .ok (.iaload, 1) := by decide +kernel
theorem dL_law_1068 : decode cL_law 1068 = .ok (.aload_n 0, 1) := by decide +kernel
theorem dL_law_1069 : decode cL_law 1069 = .ok (.iload 4, 2) := by decide +kernel
theorem dL_law_1071 : decode cL_law 1071 = .ok (.iconst 2, 1) := by decide +kernel
theorem dL_law_1072 : decode cL_law 1072 = .ok (.iadd, 1) := by decide +kernel
theorem dL_law_1073 : decode cL_law 1073 = .ok (.iaload, 1) := by decide +kernel
theorem dL_law_1074 : decode cL_law 1074 = .ok (.invokevirtual 144, 3) := by decide +kernel
theorem dL_law_1077 : decode cL_law 1077 = .ok (.istore 6, 2) := by decide +kernel
theorem dL_law_1079 : decode cL_law 1079 = .ok (.aload_n 2, 1) := by decide +kernel
theorem dL_law_1080 : decode cL_law 1080 = .ok (.invokevirtual 89, 3) := by decide +kernel
theorem dL_law_1083 : decode cL_law 1083 = .ok (.iload 5, 2) := by decide +kernel
theorem dL_law_1085 : decode cL_law 1085 = .ok (.if_icmp .eq 5, 3) := by decide +kernel
theorem dL_law_1088 : decode cL_law 1088 = .ok (.iconst 0, 1) := by decide +kernel
theorem dL_law_1089 : decode cL_law 1089 = .ok (.ireturn, 1) := by decide +kernel
theorem dL_law_1090 : decode cL_law 1090 = .ok (.iload 5, 2) := by decide +kernel
theorem dL_law_1092 : decode cL_law 1092 = .ok (.ifCond .ne 15, 3) := by decide +kernel
theorem dL_law_1095 : decode cL_law 1095 = .ok (.aload_n 3, 1) := by decide +kernel
theorem dL_law_1096 : decode cL_law 1096 = .ok (.iconst 0, 1) := by decide +kernel
theorem dL_law_1097 : decode cL_law 1097 = .ok (.laload, 1) := by decide +kernel
theorem dL_law_1098 : decode cL_law 1098 = .ok (.iload 6, 2) := by decide +kernel
theorem dL_law_1100 : decode cL_law 1100 = .ok (.i2l, 1) := by decide +kernel
theorem dL_law_1101 : decode cL_law 1101 = .ok (.lcmp, 1) := by decide +kernel
theorem dL_law_1102 : decode cL_law 1102 = .ok (.ifCond .eq 5, 3) := by decide +kernel
theorem dL_law_1105 : decode cL_law 1105 = .ok (.iconst 0, 1) := by decide +kernel
theorem dL_law_1106 : decode cL_law 1106 = .ok (.ireturn, 1) := by decide +kernel
theorem dL_law_1107 : decode cL_law 1107 = .ok (.goto 362, 3) := by decide +kernel
theorem dL_law_1110 : decode cL_law 1110 = .ok (.aload_n 1, 1) := by decide +kernel
theorem dL_law_1111 : decode cL_law 1111 = .ok (.aload_n 0, 1) := by decide +kernel
theorem dL_law_1112 : decode cL_law 1112 = .ok (.iload 4, 2) := by decide +kernel
theorem dL_law_1114 : decode cL_law 1114 = .ok (.iconst 1, 1) := by decide +kernel
theorem dL_law_1115 : decode cL_law 1115 = .ok (.iadd, 1) := by decide +kernel
theorem dL_law_1116 : decode cL_law 1116 = .ok (.iaload, 1) := by decide +kernel
theorem dL_law_1117 : decode cL_law 1117 = .ok (.aload_n 3, 1) := by decide +kernel
theorem dL_law_1118 : decode cL_law 1118 = .ok (.invokestatic 145, 3) := by decide +kernel
theorem dL_law_1121 : decode cL_law 1121 = .ok (.istore 5, 2) := by decide +kernel
theorem dL_law_1123 : decode cL_law 1123 = .ok (.aload_n 2, 1) := by decide +kernel
theorem dL_law_1124 : decode cL_law 1124 = .ok (.aload_n 0, 1) := by decide +kernel
theorem dL_law_1125 : decode cL_law 1125 = .ok (.iload 4, 2) := by decide +kernel
theorem dL_law_1127 : decode cL_law 1127 = .ok (.iconst 1, 1) := by decide +kernel
theorem dL_law_1128 : decode cL_law 1128 = .ok (.iadd, 1) := by decide +kernel
theorem dL_law_1129 : decode cL_law 1129 = .ok (.iaload, 1) := by decide +kernel
theorem dL_law_1130 : decode cL_law 1130 = .ok (.invokevirtual 147, 3) := by decide +kernel
theorem dL_law_1133 : decode cL_law 1133 = .ok (.istore 6, 2) := by decide +kernel
theorem dL_law_1135 : decode cL_law 1135 = .ok (.aload_n 2, 1) := by decide +kernel
theorem dL_law_1136 : decode cL_law 1136 = .ok (.invokevirtual 89, 3) := by decide +kernel
theorem dL_law_1139 : decode cL_law 1139 = .ok (.iload 5, 2) := by decide +kernel
theorem dL_law_1141 : decode cL_law 1141 = .ok (.if_icmp .eq 5, 3) := by decide +kernel
theorem dL_law_1144 : decode cL_law 1144 = .ok (.iconst 0, 1) := by decide +kernel
theorem dL_law_1145 : decode cL_law 1145 = .ok (.ireturn, 1) := by decide +kernel
theorem dL_law_1146 : decode cL_law 1146 = .ok (.iload 5, 2) := by decide +kernel
theorem dL_law_1148 : decode cL_law 1148 = .ok (.ifCond .ne 15, 3) := by decide +kernel
theorem dL_law_1151 : decode cL_law 1151 = .ok (.aload_n 3, 1) := by decide +kernel
theorem dL_law_1152 : decode cL_law 1152 = .ok (.iconst 0, 1) := by decide +kernel
theorem dL_law_1153 : decode cL_law 1153 = .ok (.laload, 1) := by decide +kernel
theorem dL_law_1154 : decode cL_law 1154 = .ok (.iload 6, 2) := by decide +kernel
theorem dL_law_1156 : decode cL_law 1156 = .ok (.i2l, 1) := by decide +kernel
theorem dL_law_1157 : decode cL_law 1157 = .ok (.lcmp, 1) := by decide +kernel
theorem dL_law_1158 : decode cL_law 1158 = .ok (.ifCond .eq 5, 3) := by decide +kernel
theorem dL_law_1161 : decode cL_law 1161 = .ok (.iconst 0, 1) := by decide +kernel
theorem dL_law_1162 : decode cL_law 1162 = .ok (.ireturn, 1) := by decide +kernel
theorem dL_law_1163 : decode cL_law 1163 = .ok (.goto 306, 3) := by decide +kernel
theorem dL_law_1166 : decode cL_law 1166 = .ok (.aload_n 1, 1) := by decide +kernel
theorem dL_law_1167 : decode cL_law 1167 = .ok (.aload_n 0, 1) := by decide +kernel
theorem dL_law_1168 : decode cL_law 1168 = .ok (.iload 4, 2) := by decide +kernel
theorem dL_law_1170 : decode cL_law 1170 = .ok (.iconst 1, 1) := by decide +kernel
theorem dL_law_1171 : decode cL_law 1171 = .ok (.iadd, 1) := by decide +kernel
theorem dL_law_1172 : decode cL_law 1172 = .ok (.iaload, 1) := by decide +kernel
theorem dL_law_1173 : decode cL_law 1173 = .ok (.aload_n 3, 1) := by decide +kernel
theorem dL_law_1174 : decode cL_law 1174 = .ok (.invokestatic 148, 3) := by decide +kernel
theorem dL_law_1177 : decode cL_law 1177 = .ok (.istore 5, 2) := by decide +kernel
theorem dL_law_1179 : decode cL_law 1179 = .ok (.aload_n 2, 1) := by decide +kernel
theorem dL_law_1180 : decode cL_law 1180 = .ok (.aload_n 0, 1) := by decide +kernel
theorem dL_law_1181 : decode cL_law 1181 = .ok (.iload 4, 2) := by decide +kernel
theorem dL_law_1183 : decode cL_law 1183 = .ok (.iconst 1, 1) := by decide +kernel
theorem dL_law_1184 : decode cL_law 1184 = .ok (.iadd, 1) := by decide +kernel
theorem dL_law_1185 : decode cL_law 1185 = .ok (.iaload, 1) := by decide +kernel
theorem dL_law_1186 : decode cL_law 1186 = .ok (.invokevirtual 150, 3) := by decide +kernel
theorem dL_law_1189 : decode cL_law 1189 = .ok (.istore 6, 2) := by decide +kernel
theorem dL_law_1191 : decode cL_law 1191 = .ok (.aload_n 2, 1) := by decide +kernel
theorem dL_law_1192 : decode cL_law 1192 = .ok (.invokevirtual 89, 3) := by decide +kernel
theorem dL_law_1195 : decode cL_law 1195 = .ok (.iload 5, 2) := by decide +kernel
theorem dL_law_1197 : decode cL_law 1197 = .ok (.if_icmp .eq 5, 3) := by decide +kernel
theorem dL_law_1200 : decode cL_law 1200 = .ok (.iconst 0, 1) := by decide +kernel
theorem dL_law_1201 : decode cL_law 1201 = .ok (.ireturn, 1) := by decide +kernel
theorem dL_law_1202 : decode cL_law 1202 = .ok (.iload 5, 2) := by decide +kernel
theorem dL_law_1204 : decode cL_law 1204 = .ok (.ifCond .ne 15, 3) := by decide +kernel
theorem dL_law_1207 : decode cL_law 1207 = .ok (.aload_n 3, 1) := by decide +kernel
theorem dL_law_1208 : decode cL_law 1208 = .ok (.iconst 0, 1) := by decide +kernel
theorem dL_law_1209 : decode cL_law 1209 = .ok (.laload, 1) := by decide +kernel
theorem dL_law_1210 : decode cL_law 1210 = .ok (.iload 6, 2) := by decide +kernel
theorem dL_law_1212 : decode cL_law 1212 = .ok (.i2l, 1) := by decide +kernel
theorem dL_law_1213 : decode cL_law 1213 = .ok (.lcmp, 1) := by decide +kernel
theorem dL_law_1214 : decode cL_law 1214 = .ok (.ifCond .eq 5, 3) := by decide +kernel
theorem dL_law_1217 : decode cL_law 1217 = .ok (.iconst 0, 1) := by decide +kernel
theorem dL_law_1218 : decode cL_law 1218 = .ok (.ireturn, 1) := by decide +kernel
theorem dL_law_1219 : decode cL_law 1219 = .ok (.goto 250, 3) := by decide +kernel
theorem dL_law_1222 : decode cL_law 1222 = .ok (.aload_n 1, 1) := by decide +kernel
theorem dL_law_1223 : decode cL_law 1223 = .ok (.aload_n 0, 1) := by decide +kernel
theorem dL_law_1224 : decode cL_law 1224 = .ok (.iload 4, 2) := by decide +kernel
theorem dL_law_1226 : decode cL_law 1226 = .ok (.iconst 1, 1) := by decide +kernel
theorem dL_law_1227 : decode cL_law 1227 = .ok (.iadd, 1) := by decide +kernel
theorem dL_law_1228 : decode cL_law 1228 = .ok (.iaload, 1) := by decide +kernel
theorem dL_law_1229 : decode cL_law 1229 = .ok (.aload_n 0, 1) := by decide +kernel
theorem dL_law_1230 : decode cL_law 1230 = .ok (.iload 4, 2) := by decide +kernel
theorem dL_law_1232 : decode cL_law 1232 = .ok (.iconst 2, 1) := by decide +kernel
theorem dL_law_1233 : decode cL_law 1233 = .ok (.iadd, 1) := by decide +kernel
theorem dL_law_1234 : decode cL_law 1234 = .ok (.iaload, 1) := by decide +kernel
theorem dL_law_1235 : decode cL_law 1235 = .ok (.aload_n 0, 1) := by decide +kernel
theorem dL_law_1236 : decode cL_law 1236 = .ok (.iload 4, 2) := by decide +kernel
theorem dL_law_1238 : decode cL_law 1238 = .ok (.iconst 3, 1) := by decide +kernel
theorem dL_law_1239 : decode cL_law 1239 = .ok (.iadd, 1) := by decide +kernel
theorem dL_law_1240 : decode cL_law 1240 = .ok (.iaload, 1) := by decide +kernel
theorem dL_law_1241 : decode cL_law 1241 = .ok (.aload_n 3, 1) := by decide +kernel
theorem dL_law_1242 : decode cL_law 1242 = .ok (.invokestatic 151, 3) := by decide +kernel
theorem dL_law_1245 : decode cL_law 1245 = .ok (.istore 5, 2) := by decide +kernel
theorem dL_law_1247 : decode cL_law 1247 = .ok (.aload_n 2, 1) := by decide +kernel
theorem dL_law_1248 : decode cL_law 1248 = .ok (.aload_n 0, 1) := by decide +kernel
theorem dL_law_1249 : decode cL_law 1249 = .ok (.iload 4, 2) := by decide +kernel
theorem dL_law_1251 : decode cL_law 1251 = .ok (.iconst 1, 1) := by decide +kernel
theorem dL_law_1252 : decode cL_law 1252 = .ok (.iadd, 1) := by decide +kernel
theorem dL_law_1253 : decode cL_law 1253 = .ok (.iaload, 1) := by decide +kernel
theorem dL_law_1254 : decode cL_law 1254 = .ok (.aload_n 0, 1) := by decide +kernel
theorem dL_law_1255 : decode cL_law 1255 = .ok (.iload 4, 2) := by decide +kernel
theorem dL_law_1257 : decode cL_law 1257 = .ok (.iconst 2, 1) := by decide +kernel
theorem dL_law_1258 : decode cL_law 1258 = .ok (.iadd, 1) := by decide +kernel
theorem dL_law_1259 : decode cL_law 1259 = .ok (.iaload, 1) := by decide +kernel
theorem dL_law_1260 : decode cL_law 1260 = .ok (.aload_n 0, 1) := by decide +kernel
theorem dL_law_1261 : decode cL_law 1261 = .ok (.iload 4, 2) := by decide +kernel
theorem dL_law_1263 : decode cL_law 1263 = .ok (.iconst 3, 1) := by decide +kernel
theorem dL_law_1264 : decode cL_law 1264 = .ok (.iadd, 1) := by decide +kernel
theorem dL_law_1265 : decode cL_law 1265 = .ok (.iaload, 1) := by decide +kernel
theorem dL_law_1266 : decode cL_law 1266 = .ok (.invokevirtual 153, 3) := by decide +kernel
theorem dL_law_1269 : decode cL_law 1269 = .ok (.istore 6, 2) := by decide +kernel
theorem dL_law_1271 : decode cL_law 1271 = .ok (.aload_n 2, 1) := by decide +kernel
theorem dL_law_1272 : decode cL_law 1272 = .ok (.invokevirtual 89, 3) := by decide +kernel
theorem dL_law_1275 : decode cL_law 1275 = .ok (.iload 5, 2) := by decide +kernel
theorem dL_law_1277 : decode cL_law 1277 = .ok (.if_icmp .eq 5, 3) := by decide +kernel
theorem dL_law_1280 : decode cL_law 1280 = .ok (.iconst 0, 1) := by decide +kernel
theorem dL_law_1281 : decode cL_law 1281 = .ok (.ireturn, 1) := by decide +kernel
theorem dL_law_1282 : decode cL_law 1282 = .ok (.iload 5, 2) := by decide +kernel
theorem dL_law_1284 : decode cL_law 1284 = .ok (.ifCond .ne 15, 3) := by decide +kernel
theorem dL_law_1287 : decode cL_law 1287 = .ok (.aload_n 3, 1) := by decide +kernel
theorem dL_law_1288 : decode cL_law 1288 = .ok (.iconst 0, 1) := by decide +kernel
theorem dL_law_1289 : decode cL_law 1289 = .ok (.laload, 1) := by decide +kernel
theorem dL_law_1290 : decode cL_law 1290 = .ok (.iload 6, 2) := by decide +kernel
theorem dL_law_1292 : decode cL_law 1292 = .ok (.i2l, 1) := by decide +kernel
theorem dL_law_1293 : decode cL_law 1293 = .ok (.lcmp, 1) := by decide +kernel
theorem dL_law_1294 : decode cL_law 1294 = .ok (.ifCond .eq 5, 3) := by decide +kernel
theorem dL_law_1297 : decode cL_law 1297 = .ok (.iconst 0, 1) := by decide +kernel
theorem dL_law_1298 : decode cL_law 1298 = .ok (.ireturn, 1) := by decide +kernel
theorem dL_law_1299 : decode cL_law 1299 = .ok (.goto 170, 3) := by decide +kernel
theorem dL_law_1302 : decode cL_law 1302 = .ok (.aload_n 1, 1) := by decide +kernel
theorem dL_law_1303 : decode cL_law 1303 = .ok (.aload_n 0, 1) := by decide +kernel
theorem dL_law_1304 : decode cL_law 1304 = .ok (.iload 4, 2) := by decide +kernel
theorem dL_law_1306 : decode cL_law 1306 = .ok (.iconst 1, 1) := by decide +kernel
theorem dL_law_1307 : decode cL_law 1307 = .ok (.iadd, 1) := by decide +kernel
theorem dL_law_1308 : decode cL_law 1308 = .ok (.iaload, 1) := by decide +kernel
theorem dL_law_1309 : decode cL_law 1309 = .ok (.aload_n 3, 1) := by decide +kernel
theorem dL_law_1310 : decode cL_law 1310 = .ok (.invokestatic 154, 3) := by decide +kernel
theorem dL_law_1313 : decode cL_law 1313 = .ok (.istore 5, 2) := by decide +kernel
theorem dL_law_1315 : decode cL_law 1315 = .ok (.aload_n 2, 1) := by decide +kernel
theorem dL_law_1316 : decode cL_law 1316 = .ok (.aload_n 0, 1) := by decide +kernel
theorem dL_law_1317 : decode cL_law 1317 = .ok (.iload 4, 2) := by decide +kernel
theorem dL_law_1319 : decode cL_law 1319 = .ok (.iconst 1, 1) := by decide +kernel
theorem dL_law_1320 : decode cL_law 1320 = .ok (.iadd, 1) := by decide +kernel
theorem dL_law_1321 : decode cL_law 1321 = .ok (.iaload, 1) := by decide +kernel
theorem dL_law_1322 : decode cL_law 1322 = .ok (.invokevirtual 156, 3) := by decide +kernel
theorem dL_law_1325 : decode cL_law 1325 = .ok (.istore 6, 2) := by decide +kernel
theorem dL_law_1327 : decode cL_law 1327 = .ok (.aload_n 2, 1) := by decide +kernel
theorem dL_law_1328 : decode cL_law 1328 = .ok (.invokevirtual 89, 3) := by decide +kernel
theorem dL_law_1331 : decode cL_law 1331 = .ok (.iload 5, 2) := by decide +kernel
theorem dL_law_1333 : decode cL_law 1333 = .ok (.if_icmp .eq 5, 3) := by decide +kernel
theorem dL_law_1336 : decode cL_law 1336 = .ok (.iconst 0, 1) := by decide +kernel
theorem dL_law_1337 : decode cL_law 1337 = .ok (.ireturn, 1) := by decide +kernel
theorem dL_law_1338 : decode cL_law 1338 = .ok (.iload 5, 2) := by decide +kernel
theorem dL_law_1340 : decode cL_law 1340 = .ok (.ifCond .ne 15, 3) := by decide +kernel
theorem dL_law_1343 : decode cL_law 1343 = .ok (.aload_n 3, 1) := by decide +kernel
theorem dL_law_1344 : decode cL_law 1344 = .ok (.iconst 0, 1) := by decide +kernel
theorem dL_law_1345 : decode cL_law 1345 = .ok (.laload, 1) := by decide +kernel
theorem dL_law_1346 : decode cL_law 1346 = .ok (.iload 6, 2) := by decide +kernel
theorem dL_law_1348 : decode cL_law 1348 = .ok (.i2l, 1) := by decide +kernel
theorem dL_law_1349 : decode cL_law 1349 = .ok (.lcmp, 1) := by decide +kernel
theorem dL_law_1350 : decode cL_law 1350 = .ok (.ifCond .eq 5, 3) := by decide +kernel
theorem dL_law_1353 : decode cL_law 1353 = .ok (.iconst 0, 1) := by decide +kernel
theorem dL_law_1354 : decode cL_law 1354 = .ok (.ireturn, 1) := by decide +kernel
theorem dL_law_1355 : decode cL_law 1355 = .ok (.goto 114, 3) := by decide +kernel
theorem dL_law_1358 : decode cL_law 1358 = .ok (.aload_n 1, 1) := by decide +kernel
theorem dL_law_1359 : decode cL_law 1359 = .ok (.aload_n 0, 1) := by decide +kernel
theorem dL_law_1360 : decode cL_law 1360 = .ok (.iload 4, 2) := by decide +kernel
theorem dL_law_1362 : decode cL_law 1362 = .ok (.iconst 1, 1) := by decide +kernel
theorem dL_law_1363 : decode cL_law 1363 = .ok (.iadd, 1) := by decide +kernel
theorem dL_law_1364 : decode cL_law 1364 = .ok (.iaload, 1) := by decide +kernel
theorem dL_law_1365 : decode cL_law 1365 = .ok (.aload_n 3, 1) := by decide +kernel
theorem dL_law_1366 : decode cL_law 1366 = .ok (.invokestatic 157, 3) := by decide +kernel
theorem dL_law_1369 : decode cL_law 1369 = .ok (.istore 5, 2) := by decide +kernel
theorem dL_law_1371 : decode cL_law 1371 = .ok (.aload_n 2, 1) := by decide +kernel
theorem dL_law_1372 : decode cL_law 1372 = .ok (.aload_n 0, 1) := by decide +kernel
theorem dL_law_1373 : decode cL_law 1373 = .ok (.iload 4, 2) := by decide +kernel
theorem dL_law_1375 : decode cL_law 1375 = .ok (.iconst 1, 1) := by decide +kernel
theorem dL_law_1376 : decode cL_law 1376 = .ok (.iadd, 1) := by decide +kernel
theorem dL_law_1377 : decode cL_law 1377 = .ok (.iaload, 1) := by decide +kernel
theorem dL_law_1378 : decode cL_law 1378 = .ok (.invokevirtual 159, 3) := by decide +kernel
theorem dL_law_1381 : decode cL_law 1381 = .ok (.istore 6, 2) := by decide +kernel
theorem dL_law_1383 : decode cL_law 1383 = .ok (.aload_n 2, 1) := by decide +kernel
theorem dL_law_1384 : decode cL_law 1384 = .ok (.invokevirtual 89, 3) := by decide +kernel
theorem dL_law_1387 : decode cL_law 1387 = .ok (.iload 5, 2) := by decide +kernel
theorem dL_law_1389 : decode cL_law 1389 = .ok (.if_icmp .eq 5, 3) := by decide +kernel
theorem dL_law_1392 : decode cL_law 1392 = .ok (.iconst 0, 1) := by decide +kernel
theorem dL_law_1393 : decode cL_law 1393 = .ok (.ireturn, 1) := by decide +kernel
theorem dL_law_1394 : decode cL_law 1394 = .ok (.iload 5, 2) := by decide +kernel
theorem dL_law_1396 : decode cL_law 1396 = .ok (.ifCond .ne 15, 3) := by decide +kernel
theorem dL_law_1399 : decode cL_law 1399 = .ok (.aload_n 3, 1) := by decide +kernel
theorem dL_law_1400 : decode cL_law 1400 = .ok (.iconst 0, 1) := by decide +kernel
theorem dL_law_1401 : decode cL_law 1401 = .ok (.laload, 1) := by decide +kernel
theorem dL_law_1402 : decode cL_law 1402 = .ok (.iload 6, 2) := by decide +kernel
theorem dL_law_1404 : decode cL_law 1404 = .ok (.i2l, 1) := by decide +kernel
theorem dL_law_1405 : decode cL_law 1405 = .ok (.lcmp, 1) := by decide +kernel
theorem dL_law_1406 : decode cL_law 1406 = .ok (.ifCond .eq 5, 3) := by decide +kernel
theorem dL_law_1409 : decode cL_law 1409 = .ok (.iconst 0, 1) := by decide +kernel
theorem dL_law_1410 : decode cL_law 1410 = .ok (.ireturn, 1) := by decide +kernel
theorem dL_law_1411 : decode cL_law 1411 = .ok (.goto 58, 3) := by decide +kernel
theorem dL_law_1414 : decode cL_law 1414 = .ok (.aload_n 1, 1) := by decide +kernel
theorem dL_law_1415 : decode cL_law 1415 = .ok (.invokevirtual 160, 3) := by decide +kernel
theorem dL_law_1418 : decode cL_law 1418 = .ok (.dstore 5, 2) := by decide +kernel
theorem dL_law_1420 : decode cL_law 1420 = .ok (.aload_n 2, 1) := by decide +kernel
theorem dL_law_1421 : decode cL_law 1421 = .ok (.invokevirtual 164, 3) := by decide +kernel
theorem dL_law_1424 : decode cL_law 1424 = .ok (.dstore 7, 2) := by decide +kernel
theorem dL_law_1426 : decode cL_law 1426 = .ok (.dload 5, 2) := by decide +kernel
theorem dL_law_1428 : decode cL_law 1428 = .ok (.dload 7, 2) := by decide +kernel
theorem dL_law_1430 : decode cL_law 1430 = .ok (.dcmp .l, 1) := by decide +kernel
theorem dL_law_1431 : decode cL_law 1431 = .ok (.ifCond .eq 21, 3) := by decide +kernel
theorem dL_law_1434 : decode cL_law 1434 = .ok (.dload 5, 2) := by decide +kernel
theorem dL_law_1436 : decode cL_law 1436 = .ok (.dload 5, 2) := by decide +kernel
theorem dL_law_1438 : decode cL_law 1438 = .ok (.dcmp .l, 1) := by decide +kernel
theorem dL_law_1439 : decode cL_law 1439 = .ok (.ifCond .eq 11, 3) := by decide +kernel
theorem dL_law_1442 : decode cL_law 1442 = .ok (.dload 7, 2) := by decide +kernel
theorem dL_law_1444 : decode cL_law 1444 = .ok (.dload 7, 2) := by decide +kernel
theorem dL_law_1446 : decode cL_law 1446 = .ok (.dcmp .l, 1) := by decide +kernel
theorem dL_law_1447 : decode cL_law 1447 = .ok (.ifCond .ne 5, 3) := by decide +kernel
theorem dL_law_1450 : decode cL_law 1450 = .ok (.iconst 0, 1) := by decide +kernel
theorem dL_law_1451 : decode cL_law 1451 = .ok (.ireturn, 1) := by decide +kernel
theorem dL_law_1452 : decode cL_law 1452 = .ok (.goto 17, 3) := by decide +kernel
theorem dL_law_1455 : decode cL_law 1455 = .ok (.aload_n 1, 1) := by decide +kernel
theorem dL_law_1456 : decode cL_law 1456 = .ok (.invokevirtual 165, 3) := by decide +kernel
theorem dL_law_1459 : decode cL_law 1459 = .ok (.aload_n 2, 1) := by decide +kernel
theorem dL_law_1460 : decode cL_law 1460 = .ok (.invokevirtual 169, 3) := by decide +kernel
theorem dL_law_1463 : decode cL_law 1463 = .ok (.lcmp, 1) := by decide +kernel
theorem dL_law_1464 : decode cL_law 1464 = .ok (.ifCond .eq 5, 3) := by decide +kernel
theorem dL_law_1467 : decode cL_law 1467 = .ok (.iconst 0, 1) := by decide +kernel
theorem dL_law_1468 : decode cL_law 1468 = .ok (.ireturn, 1) := by decide +kernel
theorem dL_law_1469 : decode cL_law 1469 = .ok (.iinc 4 4, 3) := by decide +kernel
theorem dL_law_1472 : decode cL_law 1472 = .ok (.goto (-1449), 3) := by decide +kernel
theorem dL_law_1475 : decode cL_law 1475 = .ok (.iconst 1, 1) := by decide +kernel
theorem dL_law_1476 : decode cL_law 1476 = .ok (.ireturn, 1) := by decide +kernel
end
section
/-! BASE: one list of words, one form of world, one form of contract; rows of the kit with these put in. -/
def zG : List Cond := lw_tbl.filter goodWord
theorem zG_of (i : Nat) {w : Cond} (h : lw_tbl[i]? = some w) (hg : goodWord w = true) : w ∈ zG := List.mem_filter.mpr ⟨List.mem_of_getElem? h, hg⟩
theorem zG_good {ws : List Cond} (h : ∀ w ∈ ws, w ∈ zG) : GoodIn zG ws := fun w hw => ⟨h w hw, good_of_word (List.mem_filter.mp (h w hw)).2⟩
theorem zG_tbl {w : Cond} (h : w ∈ zG) : w ∈ lw_tbl := (List.mem_filter.mp h).1
/-- the tables' numbers: of the classes, of the arrays int[], char[], long[], State[] -/
abbrev zE : Type := va_G × ClassId × ClassId × ClassId × ClassId
def zT (Δ : zE) : List (ClassId × FieldType) := [(Δ.2.1, .int), (Δ.2.2.1, .char), (Δ.2.2.2.1, .long), (Δ.2.2.2.2, .object "SerialRecaps$State")]
/-- words that the tables decide, but that aren't kept by every warming: links to a nest mate's private method, castable, declares -/
def zIsN : Cond → Bool
  | .methodLinkNest .. => true
  | .castable .. => true
  | .declares .. => true
  | _ => false
def zNw : List Cond := lw_tbl.filter zIsN
theorem zNw_of (i : Nat) {w : Cond} (h : lw_tbl[i]? = some w) (hg : zIsN w = true) : w ∈ zNw := List.mem_filter.mpr ⟨List.mem_of_getElem? h, hg⟩
/-- the texts of the exceptions -/
def zStr : List (String × Nat × String) := [("SerialRecaps", 250, "plots are 1 to 63"), ("SerialRecaps", 255, "the cliff is none of the plots"), ("SerialRecaps", 36, "words are 1 to 99"), ("SerialRecaps", 53, "there are 20 parts"), ("SerialRecaps", 242, "there is no such part"), ("SerialRecaps", 72, "there are no parts"), ("SerialRecaps", 246, "there is no such setting"), ("SerialRecaps", 95, "the value is out of range"), ("SerialRecaps", 244, "there is no such reader"), ("SerialRecaps", 108, "the reader has read it"), ("SerialRecaps", 114, "lost is 0 to 63"), ("SerialRecaps", 125, "the code is 33 to 126"), ("SerialRecaps", 130, "the buffer has 60 characters"), ("SerialRecaps", 142, "the buffer is not complete parts as a text"), ("SerialRecaps", 147, "there would be more than 20 parts"), ("SerialRecaps", 157, "there is no saved state"), ("SerialRecaps", 248, "what is out of range"), ("SerialRecaps", 182, "there is no such plot")]
def zKn (U : State) : Prop := (∀ w ∈ zNw, va_Nw w U) ∧ (∀ q ∈ zStr, ∃ a, vk_R q.1 q.2.1 q.2.2 a U) ∧ va_AO "SerialRecaps$State" U
theorem zNw_warm {w : Cond} (hw : zIsN w = true) {s U : State} (hW : s.WarmedH U.vm) (h : va_Nw w s) : va_Nw w U := by
  cases w <;> first | exact va_Nw.warmM hW h | exact va_Nw.warmC hW h | exact va_Nw.warmD hW h | cases hw
theorem zNw_same {w : Cond} (hw : zIsN w = true) {u U : State} (hv : u.vm = U.vm) (h : va_Nw w u) : va_Nw w U := by
  cases w <;> first | exact va_Nw.same rfl hv h | cases hw
def zK (Δ : zE) (U : State) : Prop := va_K Δ.1 vwCl (zT Δ) U ∧ zKn U
theorem zK.warm {Δ : zE} {s U : State} (h : zK Δ s) (hW : s.WarmedH U.vm) : zK Δ U := ⟨va_K.moved hW.alike h.1, fun w hw => zNw_warm (List.mem_filter.mp hw).2 hW (h.2.1 w hw), fun q hq => by
  obtain ⟨a, ha⟩ := h.2.2.1 q hq
  exact ⟨a, vk_R.warm hW ha⟩, va_AO.moved hW.alike h.2.2.2⟩
theorem zK.calling {Δ : zE} {U : State} {g : JFrame} {mk : MethodId} {a : Array Value} (h : zK Δ U) : zK Δ (U.calling g mk a) := ⟨va_K.moved (u := U) (U := U.calling g mk a) (Vm.Alike.refl U.vm) h.1, fun w hw => zNw_same (List.mem_filter.mp hw).2 (u := U) (U := U.calling g mk a) rfl (h.2.1 w hw), fun q hq => by
  obtain ⟨b, hb⟩ := h.2.2.1 q hq
  exact ⟨b, vk_R.same (u := U) (U := U.calling g mk a) rfl hb⟩, va_AO.moved (u := U) (U := U.calling g mk a) (Vm.Alike.refl U.vm) h.2.2.2⟩
def zW (Δ : zE) (A : Nat → Prop) (H0 : Heap) (ws : va_W) (H : Heap) (locs : List Loc) : Prop := va_P Δ.1 vwCl ws H ∧ va_D A ws ∧ va_S A H0 H locs
/-- some places of a world by others -/
def zput (ws : va_W) : List Nat → va_W → va_W
  | i :: is, x :: xs => (zput ws is xs).set i x
  | _, _ => ws
theorem zput_len (ws : va_W) : ∀ (is : List Nat) (xs : va_W), (zput ws is xs).length = ws.length
  | [], _ => rfl
  | _ :: _, [] => rfl
  | i :: is, x :: xs => by rw [zput, List.length_set]; exact zput_len ws is xs
theorem zput_out {ws : va_W} : ∀ {is : List Nat} {xs : va_W} {k : Nat}, k ∉ is → (zput ws is xs)[k]? = ws[k]?
  | [], _, _, _ => rfl
  | _ :: _, [], _, _ => rfl
  | i :: is, x :: xs, k, h => by
    rw [zput, List.getElem?_set_ne (fun e => h (by rw [e]; exact List.mem_cons_self))]
    exact zput_out (fun e => h (List.mem_cons_of_mem _ e))
theorem zput_in {ws : va_W} : ∀ {is : List Nat} {xs : va_W} {j k : Nat}, va_nd is = true → is[j]? = some k → k < ws.length → j < xs.length → (zput ws is xs)[k]? = xs[j]?
  | [], _, _, _, _, h, _, _ => by simp at h
  | _ :: _, [], _, _, _, _, _, h => by simp at h
  | i :: is, x :: xs, 0, k, _, h, hk, _ => by
    have e : i = k := by simpa using h
    subst e
    rw [zput, List.getElem?_set_self (by rw [zput_len]; exact hk)]
    rfl
  | i :: is, x :: xs, j + 1, k, hn, h, hk, hj => by
    have hn' : (decide (i ∉ is) && va_nd is) = true := hn
    rw [Bool.and_eq_true] at hn'
    have hki : is[j]? = some k := by simpa using h
    have hne : i ≠ k := fun e => (of_decide_eq_true hn'.1) (by rw [e]; exact List.mem_of_getElem? hki)
    rw [zput, List.getElem?_set_ne hne, zput_in hn'.2 hki hk (by simpa using hj)]
    rfl
theorem va_D_fst {A : Nat → Prop} {ws w' : va_W} (h : w'.map Prod.fst = ws.map Prod.fst) (hD : va_D A ws) : va_D A w' := by
  have key : ∀ (k : Nat) (q : Nat × va_E), w'[k]? = some q → ∃ r, ws[k]? = some r ∧ r.1 = q.1 := by
    intro k q hq
    have h1 : (ws.map Prod.fst)[k]? = some q.1 := by rw [← h, List.getElem?_map, hq]; rfl
    rw [List.getElem?_map] at h1
    cases hr : ws[k]? with
    | none => rw [hr] at h1; cases h1
    | some r => rw [hr] at h1; exact ⟨r, rfl, Option.some.inj h1⟩
  refine ⟨fun i j p q hi hj e => ?_, fun k q hq => ?_⟩
  · obtain ⟨p', h1, e1⟩ := key i p hi
    obtain ⟨q', h2, e2⟩ := key j q hj
    exact hD.1 i j p' q' h1 h2 (by rw [e1, e2, e])
  · obtain ⟨r, h1, e1⟩ := key k q hq
    rw [← e1]
    exact hD.2 k r h1
theorem zput_fst {ws wc : va_W} {is : List Nat} {xs : va_W} (hn : va_nd is = true) (hC : is.map (fun i => ws[i]?) = wc.map some) (hf : xs.map Prod.fst = wc.map Prod.fst) : (zput ws is xs).map Prod.fst = ws.map Prod.fst := by
  have hl : is.length = wc.length := by have := congrArg List.length hC; simpa using this
  have hx : xs.length = wc.length := by have := congrArg List.length hf; simpa using this
  apply List.ext_getElem?
  intro k
  rw [List.getElem?_map, List.getElem?_map]
  by_cases hk : k ∈ is
  · obtain ⟨j, hj⟩ := List.getElem?_of_mem hk
    have hjl : j < is.length := (List.getElem?_eq_some_iff.mp hj).1
    have h1 : (is.map (fun i => ws[i]?))[j]? = some (ws[k]?) := by rw [List.getElem?_map, hj]; rfl
    rw [hC, List.getElem?_map] at h1
    have hjw : j < wc.length := by omega
    rw [List.getElem?_eq_getElem hjw] at h1
    have h2 : ws[k]? = some wc[j] := (Option.some.inj h1).symm
    have hkl : k < ws.length := (List.getElem?_eq_some_iff.mp h2).1
    have h3 : (xs.map Prod.fst)[j]? = (wc.map Prod.fst)[j]? := by rw [hf]
    rw [List.getElem?_map, List.getElem?_map] at h3
    rw [zput_in hn hj hkl (by omega), h3, h2, List.getElem?_eq_getElem hjw]
  · rw [zput_out hk]
/-- a method's end: what it answers, its world -/
def zQ (Δ : zE) (rv : Option Value) (w1 : va_W) (A : Nat → Prop) : Array Value → State → Outcome → State → Prop := fun _ st oc t => (oc = .returned rv ∧ va_P Δ.1 vwCl w1 t.heap) ∧ va_F A st t
/-- the contract of a method that makes no cell and throws nothing -/
def zMet (l : Launch) (Δ : zE) (y : MethodName) (bytes : ByteArray) (maxL : Nat) (ret : Option FieldType) (fr lo : Nat) (av : List Value) (wc w1 : va_W) (rv : Option Value) : Prop :=
  ∀ sz : Nat, Met l y (.code y bytes maxL ret :: zG) { frames := fr, cells := 0, slots := 0, locals := lo } (va_Pc av (fun U => U.heap.size = sz ∧ va_P Δ.1 vwCl wc U.heap ∧ zK Δ U ∧ va_D (fun _ => True) wc)) (zQ Δ rv w1 (va_A wc sz)) 0 0 (va_A wc sz)
def zEnd (Δ : zE) (below : List Frame) (args : Array Value) (s : State) (cells slots : Nat) (A : Nat → Prop) (rv : Option Value) (w1 : va_W) : State → Prop := MQ below (zQ Δ rv w1 A) args s cells slots A
/-- what stays as it is along a method's walk -/
def zX (Δ : zE) (p : Program) (s : State) (m : MethodId) (args : Array Value) (meth : Method) (c : Code) (y : MethodName) (bytes : ByteArray) (maxL : Nat) (ret : Option FieldType) (A : Nat → Prop) : Prop :=
  CallFix p m c bytes maxL s args zG y.cls ∧ zK Δ s ∧ (∀ q, s.heap.size ≤ q → A q) ∧ meth.sig.returnType = ret ∧ meth.locks = false ∧ meth.name = y.name
section ZB
variable {p : Program} {l : Launch} {e : Env} {R : Room} {s : State} {m : MethodId} {args : Array Value} {below : List Frame} {meth : Method} {c : Code} {H : Heap} {locs : List Loc} {cells slots : Nat} {Q : State → Prop} {Δ : zE} {y0 : MethodName} {cc : ByteArray} {nL : Nat} {rt : Option FieldType} {A : Nat → Prop} {ws w' : va_W} {pc : Nat} {ls : Array Slot} {rest : List Value}
theorem zX.x (X : zX Δ p s m args meth c y0 cc nL rt A) : p.tables.exec = Jvm.exec := X.1.1
theorem zX.b (X : zX Δ p s m args meth c y0 cc nL rt A) : c.code = cc := X.1.2.1
theorem zX.own (X : zX Δ p s m args meth c y0 cc nL rt A) : s.vm.findClass y0.cls = some m.cls := X.1.2.2.2.1
theorem zX.ts (X : zX Δ p s m args meth c y0 cc nL rt A) : ∀ w ∈ zG, w.before args s = true := X.1.2.2.2.2
theorem zX.K (X : zX Δ p s m args meth c y0 cc nL rt A) : zK Δ s := X.2.1
theorem z_start {y : MethodName} {bytes : ByteArray} {maxL : Nat} {ret : Option FieldType} {fr lo : Nat} {av : List Value} {wc w1 : va_W} {rv : Option Value} (hy : plainName y.cls = true) (hn : (lg_sl av).length ≤ maxL)
    (body : ∀ (p : Program) (e : Env) (s : State) (m : MethodId) (args : Array Value) (below : List Frame) (meth : Method) (c : Code) (A : Nat → Prop) (ls : Array Slot), zX Δ p s m args meth c y bytes maxL ret A → zW Δ A s.heap wc s.heap [] → lv_has ls maxL (lv_args 0 av) →
      W p l e { frames := fr, cells := 0, slots := 0, locals := lo } s m args below meth c s.heap [] 0 0 (zEnd Δ below args s 0 0 A rv w1) (F0 m 0 ls [])) : zMet l Δ y bytes maxL ret fr lo av wc w1 rv := by
  intro sz
  refine Met.ofW (cc := bytes) (maxL := maxL) (ret := ret) hy rfl ?_
  intro p e s m args below meth c s₁ B hml hv
  obtain ⟨rfl, hsz, hP, hK, hD0⟩ := hv
  have hts := atoms_spec (ws := .code y bytes maxL ret :: zG) B.pre
  have hts' : ∀ w ∈ zG, w.before av.toArray s = true := fun w h => hts w (List.mem_cons_of_mem _ h)
  subst hsz
  have hD := hD0.self (sz := s.heap.size)
  have hA : ∀ q : Nat, s.heap.size ≤ q → va_A wc s.heap.size q := fun q h => Or.inr h
  have hl := lv_entry av (n := maxL) hn
  rw [lg_entry_eq]
  exact body p e s m _ below meth c _ _ ⟨⟨B.exec, B.bytes, hml, findClass_of_methodNamed B.named, hts'⟩, hK, hA, B.returns, B.notSynchronized, (name_of_methodNamed B.named B.method).1⟩ ⟨hP, hD, va_S.rf⟩ hl
theorem z_iret {v : Int32} {w1 : va_W} (X : zX Δ p s m args meth c y0 cc nL (some .int) A) (Z : zW Δ A s.heap w1 H locs) (hdg : decode cc pc = .ok (.ireturn, 1)) : W p l e R s m args below meth c H locs cells slots (zEnd Δ below args s cells slots A (some (.int v)) w1) (F0 m pc ls [.int v]) :=
  W.iret (v := v) X.x X.b X.2.2.2.1 (fun t ht _ => ⟨⟨rfl, by rw [ht]; exact Z.1⟩, Z.2.2.F ht⟩) Z.2.2.2.2 hdg X.2.2.2.2.1
theorem z_zret {v : Int32} {w1 : va_W} (X : zX Δ p s m args meth c y0 cc nL (some .boolean) A) (Z : zW Δ A s.heap w1 H locs) (hv : v = 0 ∨ v = 1) (hdg : decode cc pc = .ok (.ireturn, 1)) : W p l e R s m args below meth c H locs cells slots (zEnd Δ below args s cells slots A (some (.int v)) w1) (F0 m pc ls [.int v]) :=
  W.zret (v := v) (ty := .boolean) X.x X.b X.2.2.2.1 (by rcases hv with rfl | rfl <;> decide) (fun t ht _ => ⟨⟨rfl, by rw [ht]; exact Z.1⟩, Z.2.2.F ht⟩) Z.2.2.2.2 hdg X.2.2.2.2.1
theorem z_vret {w1 : va_W} (X : zX Δ p s m args meth c y0 cc nL none A) (Z : zW Δ A s.heap w1 H locs) (hdg : decode cc pc = .ok (.return_, 1)) : W p l e R s m args below meth c H locs cells slots (zEnd Δ below args s cells slots A none w1) (F0 m pc ls []) :=
  W.vret X.x X.b X.2.2.2.1 (fun t ht _ => ⟨⟨rfl, by rw [ht]; exact Z.1⟩, Z.2.2.F ht⟩) Z.2.2.2.2 hdg X.2.2.2.2.1
theorem z_lret {v : Int64} {w1 : va_W} (X : zX Δ p s m args meth c y0 cc nL (some .long) A) (Z : zW Δ A s.heap w1 H locs) (hdg : decode cc pc = .ok (.lreturn, 1)) : W p l e R s m args below meth c H locs cells slots (zEnd Δ below args s cells slots A (some (.long v)) w1) (F0 m pc ls [.long v]) :=
  W.lret (v := v) X.x X.b X.2.2.2.1 (fun t ht _ => ⟨⟨rfl, by rw [ht]; exact Z.1⟩, Z.2.2.F ht⟩) Z.2.2.2.2 hdg X.2.2.2.2.1
theorem z_dret {v : UInt64} {w1 : va_W} (X : zX Δ p s m args meth c y0 cc nL (some .double) A) (Z : zW Δ A s.heap w1 H locs) (hdg : decode cc pc = .ok (.dreturn, 1)) : W p l e R s m args below meth c H locs cells slots (zEnd Δ below args s cells slots A (some (.double v)) w1) (F0 m pc ls [.double v]) :=
  W.dret (v := v) X.x X.b X.2.2.2.1 (fun t ht _ => ⟨⟨rfl, by rw [ht]; exact Z.1⟩, Z.2.2.F ht⟩) Z.2.2.2.2 hdg X.2.2.2.2.1
/-- a field is read -/
theorem z_gf {ref C : String} {T : u_T} {N ci index : Nat} (hin : ∀ w ∈ u_ws C T N, w ∈ zG) (hc : vwCl[ci]? = some (C, T, N)) (k : Nat) (hk : k < N) (href : ref = (T k).1) (X : zX Δ p s m args meth c y0 cc nL rt A) (Z : zW Δ A s.heap ws H locs) (hl : Cond.fieldLink y0.cls index ref (T k).2.1 (T k).2.2.1 ∈ zG) (q0 : Nat) {a : Nat} {fs : List Value} (he : ws[q0]? = some (a, .inr (ci, fs))) {v : Value} (hv : fs[k]? = some v) (hdg : decode cc pc = .ok (.getfield index, 3))
    (kk : W p l e R s m args below meth c H locs cells slots Q (F0 m (pc + 3) ls (v :: rest))) : W p l e R s m args below meth c H locs cells slots Q (F0 m pc ls (.ref a :: rest)) :=
  va_get X.x X.b X.ts hin X.own X.K.1 Z.1 q0 he hc k hk (X.ts _ hl) (fun _ h => by rw [href]; exact h) hv hdg kk
/-- a field is written -/
theorem z_pf {ref C : String} {T : u_T} {N ci index : Nat} (hin : ∀ w ∈ u_ws C T N, w ∈ zG) (hc : vwCl[ci]? = some (C, T, N)) (ty0 : Nat → FieldType) (hty : ∀ k, k < N → parseFieldDescriptor (T k).2.2.1 = some (ty0 k)) (hnm : ∀ a, a < N → ∀ b, b < N → a ≠ b → (T a).2.1 ≠ (T b).2.1) (k : Nat) (hk : k < N) (href : ref = (T k).1) (hfin : (T k).2.2.2 = false) (X : zX Δ p s m args meth c y0 cc nL rt A) (Z : zW Δ A s.heap ws H locs) (hl : Cond.fieldLink y0.cls index ref (T k).2.1 (T k).2.2.1 ∈ zG) (q0 : Nat) {a : Nat} {fs : List Value} (he : ws[q0]? = some (a, .inr (ci, fs))) {v : Value} (hn : narrow (ty0 k) v = v) (hfit : fits (ty0 k) v = true) (hlen : k < fs.length) (hw : ws.set q0 (a, .inr (ci, fs.set k v)) = w') (hdg : decode cc pc = .ok (.putfield index, 3))
    (kk : ∀ (H1 : Heap) (locs1 : List Loc), zW Δ A s.heap w' H1 locs1 → W p l e R s m args below meth c H1 locs1 cells slots Q (F0 m (pc + 3) ls rest)) : W p l e R s m args below meth c H locs cells slots Q (F0 m pc ls (v :: .ref a :: rest)) := by
  subst hw
  exact va_put X.x X.b X.ts hin ty0 hty hnm X.own X.K.1 Z.1 Z.2.1 Z.2.2 q0 he hc k hk (X.ts _ hl) (fun _ h => by rw [href]; exact h) hfin (hty k hk) hn hfit hlen hdg (fun H1 locs1 a b d => kk H1 locs1 ⟨a, b, d⟩)
theorem z_iald (X : zX Δ p s m args meth c y0 cc nL rt A) (Z : zW Δ A s.heap ws H locs) (q0 : Nat) {a n : Nat} {f : Nat → Int32} (ha : ws[q0]? = some (a, .inl (Δ.2.1, n, .inl f))) {i : Int32} (hin : vp_in i n) (hdg : decode cc pc = .ok (.iaload, 1))
    (kk : W p l e R s m args below meth c H locs cells slots Q (F0 m (pc + 1) ls (.int (f i.toNatClampNeg) :: rest))) : W p l e R s m args below meth c H locs cells slots Q (F0 m pc ls (.int i :: .ref a :: rest)) :=
  va_iald X.x X.b X.K.1 Z.1 q0 0 ha rfl hin hdg kk
theorem z_cald (X : zX Δ p s m args meth c y0 cc nL rt A) (Z : zW Δ A s.heap ws H locs) (q0 : Nat) {a n : Nat} {f : Nat → Int32} (ha : ws[q0]? = some (a, .inl (Δ.2.2.1, n, .inl f))) {i : Int32} (hin : vp_in i n) (hdg : decode cc pc = .ok (.caload, 1))
    (kk : W p l e R s m args below meth c H locs cells slots Q (F0 m (pc + 1) ls (.int (f i.toNatClampNeg) :: rest))) : W p l e R s m args below meth c H locs cells slots Q (F0 m pc ls (.int i :: .ref a :: rest)) :=
  va_cald X.x X.b X.K.1 Z.1 q0 1 ha rfl hin hdg kk
theorem z_iast (X : zX Δ p s m args meth c y0 cc nL rt A) (Z : zW Δ A s.heap ws H locs) (q0 : Nat) {a n : Nat} {f : Nat → Int32} (ha : ws[q0]? = some (a, .inl (Δ.2.1, n, .inl f))) {i x : Int32} (hin : vp_in i n) (hw : ws.set q0 (a, .inl (Δ.2.1, n, .inl (upd f i.toNatClampNeg x))) = w') (hdg : decode cc pc = .ok (.iastore, 1))
    (kk : ∀ (H1 : Heap) (locs1 : List Loc), zW Δ A s.heap w' H1 locs1 → W p l e R s m args below meth c H1 locs1 cells slots Q (F0 m (pc + 1) ls rest)) : W p l e R s m args below meth c H locs cells slots Q (F0 m pc ls (.int x :: .int i :: .ref a :: rest)) := by
  subst hw
  exact va_iast X.x X.b X.K.1 Z.1 Z.2.1 Z.2.2 q0 0 ha rfl hin hdg (fun H1 locs1 a b d => kk H1 locs1 ⟨a, b, d⟩)
theorem z_cast (X : zX Δ p s m args meth c y0 cc nL rt A) (Z : zW Δ A s.heap ws H locs) (q0 : Nat) {a n : Nat} {f : Nat → Int32} (ha : ws[q0]? = some (a, .inl (Δ.2.2.1, n, .inl f))) {i x : Int32} (hin : vp_in i n) (hw : ws.set q0 (a, .inl (Δ.2.2.1, n, .inl (upd f i.toNatClampNeg (vp_nar .char x)))) = w') (hdg : decode cc pc = .ok (.castore, 1))
    (kk : ∀ (H1 : Heap) (locs1 : List Loc), zW Δ A s.heap w' H1 locs1 → W p l e R s m args below meth c H1 locs1 cells slots Q (F0 m (pc + 1) ls rest)) : W p l e R s m args below meth c H locs cells slots Q (F0 m pc ls (.int x :: .int i :: .ref a :: rest)) := by
  subst hw
  exact va_cast X.x X.b X.K.1 Z.1 Z.2.1 Z.2.2 q0 1 ha rfl hin hdg (fun H1 locs1 a b d => kk H1 locs1 ⟨a, b, d⟩)
/-- a callee's world among the caller's cells -/
def zSub (ws wc : va_W) (isC : List Nat) : Prop := isC.map (fun i => ws[i]?) = wc.map some ∧ va_nd isC = true
/-- what may be called by its name -/
def zOK (y : MethodName) (n : Nat) : Prop := y.cls ≠ "java/lang/invoke/MethodHandle" ∧ y.cls ≠ "java/lang/invoke/VarHandle" ∧ (parseMethodDescriptor y.desc).map (fun d => d.parameters.length) = some n
/-- the world behind a change of some of its cells -/
theorem z_after {Δ : zE} {A A1 : Nat → Prop} {H0 H H1 : Heap} {ws wc w1 w' : va_W} {locs locs1 : List Loc} {isC : List Nat} (Z : zW Δ A H0 ws H locs) (hA1 : ∀ q, A1 q → va_A wc H.size q) (hsub : zSub ws wc isC) (hfst : w1.map Prod.fst = wc.map Prod.fst) (hw : zput ws isC w1 = w') (hS' : va_S A H0 H1 locs1)
    (hk : ∀ q : Nat, q < H.size → ¬ A1 q → H1[q]? = H[q]?) (hP1 : va_P Δ.1 vwCl w1 H1) : zW Δ A H0 w' H1 locs1 := by
  obtain ⟨hP, hD, hS⟩ := Z
  obtain ⟨hC, hn⟩ := hsub
  have hl : isC.length = wc.length := by have := congrArg List.length hC; simpa using this
  have hx : w1.length = wc.length := by have := congrArg List.length hfst; simpa using this
  have hcell : ∀ (j k : Nat), isC[j]? = some k → ∃ q, wc[j]? = some q ∧ ws[k]? = some q := by
    intro j k hj
    have h1 : (isC.map (fun i => ws[i]?))[j]? = some (ws[k]?) := by rw [List.getElem?_map, hj]; rfl
    rw [hC, List.getElem?_map] at h1
    cases hq : wc[j]? with
    | none => rw [hq] at h1; cases h1
    | some q => rw [hq] at h1; exact ⟨q, rfl, (Option.some.inj h1).symm⟩
  refine ⟨?_, by rw [← hw]; exact va_D_fst (zput_fst hn hC hfst) hD, hS'⟩
  intro k q hq
  rw [← hw] at hq
  by_cases hk' : k ∈ isC
  · obtain ⟨j, hj⟩ := List.getElem?_of_mem hk'
    obtain ⟨q0, h1, h2⟩ := hcell j k hj
    have hjl : j < wc.length := (List.getElem?_eq_some_iff.mp h1).1
    rw [zput_in hn hj (List.getElem?_eq_some_iff.mp h2).1 (by omega)] at hq
    exact hP1 j q hq
  · rw [zput_out hk'] at hq
    have hat := hP k q hq
    refine hat.kept (hk q.1 hat.lt fun hA => ?_)
    rcases hA1 _ hA with (⟨j, e9, hj⟩ | h)
    · have hjl : j < wc.length := (List.getElem?_eq_some_iff.mp hj).1
      have hji : j < isC.length := by omega
      obtain ⟨q0, h1, h2⟩ := hcell j isC[j] (List.getElem?_eq_getElem hji)
      rw [hj] at h1
      have : isC[j] = k := hD.1 _ _ _ _ h2 hq (by rw [← Option.some.inj h1])
      exact hk' (this ▸ List.getElem_mem hji)
    · have := hat.lt; omega
theorem va_D_nd {A : Nat → Prop} {ws : va_W} (hD : va_D A ws) : (ws.map Prod.fst).Nodup := by
  show List.Pairwise (· ≠ ·) _
  rw [List.pairwise_iff_getElem]
  intro i j hi hj hij e
  rw [List.length_map] at hi hj
  rw [List.getElem_map, List.getElem_map] at e
  have := hD.1 i j _ _ (List.getElem?_eq_getElem hi) (List.getElem?_eq_getElem hj) e
  omega
/-- a part of a world, the rest of it; what came in the part's place beside the rest -/
theorem z_afterG {Δ : zE} {A : Nat → Prop} {H0 H H1 : Heap} {ws wc wr w1 : va_W} {locs locs1 : List Loc} (Z : zW Δ A H0 ws H locs) (hA : ∀ q, H0.size ≤ q → A q) (hperm : ws.Perm (wc ++ wr)) (hS' : va_S A H0 H1 locs1)
    (hk : ∀ q : Nat, q < H.size → ¬ va_A wc H.size q → H1[q]? = H[q]?) (hP1 : va_P Δ.1 vwCl w1 H1) (hD1 : va_D (va_A wc H.size) w1) : zW Δ A H0 (w1 ++ wr) H1 locs1 := by
  obtain ⟨hP, hD, hS⟩ := Z
  have mem : ∀ q ∈ ws, va_at Δ.1 vwCl q H ∧ A q.1 := by
    intro q hq
    obtain ⟨k, hk⟩ := List.getElem?_of_mem hq
    exact ⟨hP k q hk, hD.2 k q hk⟩
  have nd : (ws.map Prod.fst).Nodup := va_D_nd hD
  have nd2 : ((wc ++ wr).map Prod.fst).Nodup := (hperm.map Prod.fst).nodup_iff.mp nd
  rw [List.map_append] at nd2
  have ndr := (List.nodup_append.mp nd2).2.1
  have disj := (List.nodup_append.mp nd2).2.2
  have apart : ∀ q ∈ wr, q.1 < H.size ∧ ¬ va_A wc H.size q.1 := by
    intro q hq
    have hl := (mem q (hperm.mem_iff.mpr (List.mem_append_right _ hq))).1.lt
    refine ⟨hl, ?_⟩
    rintro (⟨k, e, h⟩ | h)
    · exact disj q.1 (List.mem_map.mpr ⟨(q.1, e), List.mem_of_getElem? h, rfl⟩) q.1 (List.mem_map.mpr ⟨q, hq, rfl⟩) rfl
    · omega
  have hF : ∀ q, va_A wc H.size q → A q := by
    rintro q (⟨k, e, h⟩ | h)
    · exact (mem (q, e) (hperm.mem_iff.mpr (List.mem_append_left _ (List.mem_of_getElem? h)))).2
    · exact hA q (Nat.le_trans hS.1 h)
  refine ⟨va_P.app hP1 (fun k q hq => ?_), va_D.app (hD1.weaken (fun k q _ h => hF q.1 h)) ⟨fun i j p q hi hj e => ?_, fun k q hq => (mem q (hperm.mem_iff.mpr (List.mem_append_right _ (List.mem_of_getElem? hq)))).2⟩ (fun i j x y hx hy hxy => ?_), hS'⟩
  · have hq' := List.mem_of_getElem? hq
    obtain ⟨g1, g2⟩ := apart q hq'
    exact (mem q (hperm.mem_iff.mpr (List.mem_append_right _ hq'))).1.kept (hk q.1 g1 g2)
  · have hil : i < wr.length := (List.getElem?_eq_some_iff.mp hi).1
    have hjl : j < wr.length := (List.getElem?_eq_some_iff.mp hj).1
    have h1 : (wr.map Prod.fst)[i]? = some p.1 := by rw [List.getElem?_map, hi]; rfl
    have h2 : (wr.map Prod.fst)[j]? = some q.1 := by rw [List.getElem?_map, hj]; rfl
    exact (List.getElem?_inj (by rw [List.length_map]; exact hil) ndr).mp (by rw [h1, h2, e])
  · exact (apart y (List.mem_of_getElem? hy)).2 (by rw [← hxy]; exact hD1.2 i x hx)
theorem zW.perm {Δ : zE} {A : Nat → Prop} {H0 H : Heap} {ws ws' : va_W} {locs : List Loc} (Z : zW Δ A H0 ws H locs) (h : ws.Perm ws') : zW Δ A H0 ws' H locs := by
  obtain ⟨hP, hD, hS⟩ := Z
  have mem : ∀ q ∈ ws, va_at Δ.1 vwCl q H ∧ A q.1 := by
    intro q hq
    obtain ⟨k, hk⟩ := List.getElem?_of_mem hq
    exact ⟨hP k q hk, hD.2 k q hk⟩
  have nd : (ws.map Prod.fst).Nodup := va_D_nd hD
  have nd2 : (ws'.map Prod.fst).Nodup := (h.map Prod.fst).nodup_iff.mp nd
  refine ⟨fun k q hq => (mem q (h.mem_iff.mpr (List.mem_of_getElem? hq))).1, ⟨fun i j p q hi hj e => ?_, fun k q hq => (mem q (h.mem_iff.mpr (List.mem_of_getElem? hq))).2⟩, hS⟩
  have hil : i < ws'.length := (List.getElem?_eq_some_iff.mp hi).1
  have h1 : (ws'.map Prod.fst)[i]? = some p.1 := by rw [List.getElem?_map, hi]; rfl
  have h2 : (ws'.map Prod.fst)[j]? = some q.1 := by rw [List.getElem?_map, hj]; rfl
  exact (List.getElem?_inj (by rw [List.length_map]; exact hil) nd2).mp (by rw [h1, h2, e])
/-- behind a call: the world with the callee's cells as they are now -/
theorem z_goes {rv : Option Value} {w1 wc : va_W} {st0 : List Value} {a : Array Value} (X : zX Δ p s m args meth c y0 cc nL rt A) (Z : zW Δ A s.heap ws H locs) (isC : List Nat) (hC : isC.map (fun i => ws[i]?) = wc.map some) (hn : va_nd isC = true) (hfst : w1.map Prod.fst = wc.map Prod.fst) (hw : zput ws isC w1 = w')
    (hr : va_Run p l e R s m args below meth c H locs cells slots 0 0 (F0 m pc ls st0) rest (zQ Δ rv w1 (va_A wc H.size) a) (va_A wc H.size)) {st1 : List Value} (hs1 : rv.toList ++ rest = st1)
    (kk : ∀ (H1 : Heap) (locs1 : List Loc), zW Δ A s.heap w' H1 locs1 → W p l e R s m args below meth c H1 locs1 cells slots Q (F0 m (pc + 3) ls st1)) : W p l e R s m args below meth c H locs cells slots Q (F0 m pc ls st0) := by
  subst hs1
  intro T hT Y
  obtain ⟨v, st₀, t, T', L, h0, Y', hL, e1, e2, ⟨⟨hv, hP1⟩, hz, hk⟩, st⟩ := hr T hT Y
  obtain rfl : v = rv := by cases hv; rfl
  rw [h0] at hz hk
  obtain ⟨hP, hD, hS⟩ := Z
  have hF := va_free hD hS X.2.2.1 isC hC
  have hl : isC.length = wc.length := by have := congrArg List.length hC; simpa using this
  have hx : w1.length = wc.length := by have := congrArg List.length hfst; simpa using this
  have hcell : ∀ (j k : Nat), isC[j]? = some k → ∃ q, wc[j]? = some q ∧ ws[k]? = some q := by
    intro j k hj
    have h1 : (isC.map (fun i => ws[i]?))[j]? = some (ws[k]?) := by rw [List.getElem?_map, hj]; rfl
    rw [hC, List.getElem?_map] at h1
    cases hq : wc[j]? with
    | none => rw [hq] at h1; cases h1
    | some q => rw [hq] at h1; exact ⟨q, rfl, (Option.some.inj h1).symm⟩
  have hS' : va_S A s.heap T'.heap (locs ++ L) := ⟨Nat.le_trans hS.1 (by rw [e1]; exact hz), fun q h1 h2 => by rw [e1, hk q (Nat.lt_of_lt_of_le h1 hS.1) (fun z => h2 (hF q z))]; exact hS.2.1 q h1 h2, fun q hq => by
      rcases List.mem_append.mp hq with h | h
      · exact hS.2.2 q h
      · exact hF _ (hL q h)⟩
  have hD' : va_D A w' := by rw [← hw]; exact va_D_fst (zput_fst hn hC hfst) hD
  have hP' : va_P Δ.1 vwCl w' T'.heap := by
    intro k q hq
    rw [← hw] at hq
    by_cases hk' : k ∈ isC
    · obtain ⟨j, hj⟩ := List.getElem?_of_mem hk'
      obtain ⟨q0, h1, h2⟩ := hcell j k hj
      have hjl : j < wc.length := (List.getElem?_eq_some_iff.mp h1).1
      rw [zput_in hn hj (List.getElem?_eq_some_iff.mp h2).1 (by omega)] at hq
      rw [e1]
      exact hP1 j q hq
    · rw [zput_out hk'] at hq
      have hat := hP k q hq
      rw [e1]
      refine hat.kept (hk q.1 hat.lt ?_)
      rintro (⟨j, e9, hj⟩ | h)
      · have hjl : j < wc.length := (List.getElem?_eq_some_iff.mp hj).1
        have hji : j < isC.length := by omega
        obtain ⟨q0, h1, h2⟩ := hcell j isC[j] (List.getElem?_eq_getElem hji)
        rw [hj] at h1
        have : isC[j] = k := hD.1 _ _ _ _ h2 hq (by rw [← Option.some.inj h1])
        exact hk' (this ▸ List.getElem_mem hji)
      · have := hat.lt; omega
  obtain ⟨t2, a1, b1⟩ := kk T'.heap (locs ++ L) ⟨hP', hD', hS'⟩ T' rfl Y'
  exact ⟨t2, st t2 a1, b1⟩
theorem zBlind {av : List Value} {wc : va_W} {sz : Nat} : FrameBlind (va_Pc av (fun U => U.heap.size = sz ∧ va_P Δ.1 vwCl wc U.heap ∧ zK Δ U ∧ va_D (fun _ => True) wc)) := fun a U g mk q => by
  obtain ⟨q0, q1, qP, qK, qD⟩ := q
  exact ⟨q0, q1, qP, qK.calling, qD⟩
theorem zPre {av : List Value} {wc : va_W} (X : zX Δ p s m args meth c y0 cc nL rt A) (Z : zW Δ A s.heap ws H locs) (isC : List Nat) (hn : va_nd isC = true) (hC : isC.map (fun i => ws[i]?) = wc.map some) : ∀ U : State, U.heap = H → s.WarmedH U.vm → va_Pc av (fun U => U.heap.size = H.size ∧ va_P Δ.1 vwCl wc U.heap ∧ zK Δ U ∧ va_D (fun _ => True) wc) av.toArray U := by
  intro U hU hW
  refine ⟨rfl, by rw [hU], ?_, X.K.warm hW, (Z.2.1.sub isC hn hC).weaken (fun _ _ _ _ => trivial)⟩
  rw [hU]
  refine Z.1.sub isC ?_
  have h2 : isC.filterMap (fun i => ws[i]?) = (isC.map (fun i => ws[i]?)).filterMap id := by rw [List.filterMap_map]; rfl
  rw [h2, hC, List.filterMap_map]
  have h3 : (id ∘ some : Nat × va_E → Option (Nat × va_E)) = some := rfl
  rw [h3, List.filterMap_some]
variable {y : MethodName} {bytes : ByteArray} {maxL index n : Nat} {ret : Option FieldType} {fr lo : Nat} {As : List Value} {wc w1 : va_W} {rv : Option Value} {st0 : List Value} {b : Nat} {lvs : List (Nat × Value)}
/-- an instance method is called -/
theorem z_callV (X : zX Δ p s m args meth c y0 cc nL rt A) (Z : zW Δ A s.heap ws H locs) (hl : lv_has ls nL lvs) (hM : zMet l Δ y bytes maxL ret fr lo (.ref b :: As) wc w1 rv) (h1 : Cond.methodLink y0.cls index y ∈ zG) (h2 : Cond.instanceMethod y ∈ zG) (h3 : Cond.selects y.cls y y ∈ zG) (h4 : Cond.initialized y.cls ∈ zG) (h5 : Cond.code y bytes maxL ret ∈ zG) (hd : zOK y n)
    (ci : Nat) {fs : List Value} {T : u_T} {N : Nat} (hcl : vwCl[ci]? = some (y.cls, T, N)) (q0 : Nat) (hb0 : ws[q0]? = some (b, .inr (ci, fs))) {isC : List Nat} (hsub : zSub ws wc isC) (hfst : w1.map Prod.fst = wc.map Prod.fst) (hw : zput ws isC w1 = w') (hlen : As.length = n) (hst : st0 = As.reverse ++ .ref b :: rest) (hW : (rest.map fun v => v.category).sum ≤ 8) (hR : fr + 1 ≤ R.frames ∧ 8 + (maxL + 11) + lo ≤ R.locals) (hrc : cells ≤ R.cells ∧ slots ≤ R.slots) {st1 : List Value} (hs1 : rv.toList ++ rest = st1) (hdg : decode cc pc = .ok (.invokevirtual index, 3))
    (kk : ∀ (H1 : Heap) (locs1 : List Loc), zW Δ A s.heap w' H1 locs1 → W p l e R s m args below meth c H1 locs1 cells slots Q (F0 m (pc + 3) ls st1)) : W p l e R s m args below meth c H locs cells slots Q (F0 m pc ls st0) := by
  subst hst
  have g : GoodIn zG (wsV y0.cls index y.cls y (.code y bytes maxL ret :: zG)) := zG_good (by
    intro w hw
    simp only [wsV, List.mem_append, List.mem_cons, List.not_mem_nil, or_false] at hw
    rcases hw with (rfl | rfl | rfl | rfl) | rfl | h
    · exact h1
    · exact h2
    · exact h3
    · exact h4
    · exact h5
    · exact h)
  exact z_goes X Z isC hsub.1 hsub.2 hfst hw (va_runV (As := As) (rest := rest) (n := n) X.1 (hM H.size) (cwV n X.ts g rfl rfl rfl ⟨rfl, hd.1, hd.2.1, hd.2.2⟩ hR) ⟨zBlind, va_recv X.K.1 Z.1 hcl hb0, zPre X Z isC hsub.2 hsub.1⟩ rfl hlen hl.1 rfl (lv_room hW) hdg ⟨hrc.1, hrc.2⟩) hs1 kk
/-- a static method is called -/
theorem z_callS (X : zX Δ p s m args meth c y0 cc nL rt A) (Z : zW Δ A s.heap ws H locs) (hl : lv_has ls nL lvs) (hM : zMet l Δ y bytes maxL ret fr lo As wc w1 rv) (h1 : Cond.methodLink y0.cls index y ∈ zG) (h2 : Cond.static y ∈ zG) (h4 : Cond.initialized y.cls ∈ zG) (h5 : Cond.code y bytes maxL ret ∈ zG) (hd : zOK y n)
    {isC : List Nat} (hsub : zSub ws wc isC) (hfst : w1.map Prod.fst = wc.map Prod.fst) (hw : zput ws isC w1 = w') (hlen : As.length = n) (hst : st0 = As.reverse ++ rest) (hW : (rest.map fun v => v.category).sum ≤ 8) (hR : fr + 1 ≤ R.frames ∧ 8 + (maxL + 11) + lo ≤ R.locals) (hrc : cells ≤ R.cells ∧ slots ≤ R.slots) {st1 : List Value} (hs1 : rv.toList ++ rest = st1) (hdg : decode cc pc = .ok (.invokestatic index, 3))
    (kk : ∀ (H1 : Heap) (locs1 : List Loc), zW Δ A s.heap w' H1 locs1 → W p l e R s m args below meth c H1 locs1 cells slots Q (F0 m (pc + 3) ls st1)) : W p l e R s m args below meth c H locs cells slots Q (F0 m pc ls st0) := by
  subst hst
  have g : GoodIn zG (va_wsS y0.cls index y (.code y bytes maxL ret :: zG)) := zG_good (by
    intro w hw
    simp only [va_wsS, List.mem_append, List.mem_cons, List.not_mem_nil, or_false] at hw
    rcases hw with (rfl | rfl | rfl) | rfl | h
    · exact h1
    · exact h2
    · exact h4
    · exact h5
    · exact h)
  exact z_goes X Z isC hsub.1 hsub.2 hfst hw (va_runS (As := As) (rest := rest) (n := n) X.1 (hM H.size) (va_cwS n X.ts g rfl rfl rfl ⟨hd.1, hd.2.1, hd.2.2⟩ hR) ⟨zBlind, zPre X Z isC hsub.2 hsub.1⟩ rfl hlen hl.1 rfl (lv_room hW) hdg ⟨hrc.1, hrc.2⟩) hs1 kk
/-- a static method of a nest mate is called -/
theorem z_callSN {host : String} (X : zX Δ p s m args meth c y0 cc nL rt A) (Z : zW Δ A s.heap ws H locs) (hl : lv_has ls nL lvs) (hM : zMet l Δ y bytes maxL ret fr lo As wc w1 rv) (h1 : Cond.methodLinkNest y0.cls index y host ∈ zNw) (h2 : Cond.static y ∈ zG) (h4 : Cond.initialized y.cls ∈ zG) (h5 : Cond.code y bytes maxL ret ∈ zG) (hd : zOK y n)
    {isC : List Nat} (hsub : zSub ws wc isC) (hfst : w1.map Prod.fst = wc.map Prod.fst) (hw : zput ws isC w1 = w') (hlen : As.length = n) (hst : st0 = As.reverse ++ rest) (hW : (rest.map fun v => v.category).sum ≤ 8) (hR : fr + 1 ≤ R.frames ∧ 8 + (maxL + 11) + lo ≤ R.locals) (hrc : cells ≤ R.cells ∧ slots ≤ R.slots) {st1 : List Value} (hs1 : rv.toList ++ rest = st1) (hdg : decode cc pc = .ok (.invokestatic index, 3))
    (kk : ∀ (H1 : Heap) (locs1 : List Loc), zW Δ A s.heap w' H1 locs1 → W p l e R s m args below meth c H1 locs1 cells slots Q (F0 m (pc + 3) ls st1)) : W p l e R s m args below meth c H locs cells slots Q (F0 m pc ls st0) := by
  subst hst
  have g : GoodIn zG (.code y bytes maxL ret :: zG) := zG_good (by
    intro w hw
    rcases List.mem_cons.mp hw with rfl | h
    · exact h5
    · exact h)
  exact z_goes X Z isC hsub.1 hsub.2 hfst hw (va_runSN (As := As) (rest := rest) (n := n) X.1 (hM H.size) ⟨va_cnB n X.ts g rfl rfl rfl (X.K.2.1 _ h1) (X.ts _ h4) ⟨hd.1, hd.2.1, hd.2.2⟩ hR, X.ts _ h2, trivial⟩ ⟨zBlind, zPre X Z isC hsub.2 hsub.1⟩ rfl hlen hl.1 rfl (lv_room hW) hdg ⟨hrc.1, hrc.2⟩) hs1 kk
end ZB
theorem zSub_nil {ws : va_W} : zSub ws [] [] := ⟨rfl, rfl⟩
theorem zput_nil {ws : va_W} : zput ws [] [] = ws := rfl
theorem zput_app (ws : va_W) (i2 : List Nat) (x2 : va_W) : ∀ (i1 : List Nat) (x1 : va_W), i1.length = x1.length → zput ws (i1 ++ i2) (x1 ++ x2) = zput (zput ws i2 x2) i1 x1
  | [], [], _ => rfl
  | _ :: _, [], h => by cases h
  | [], _ :: _, h => by cases h
  | i :: is, x :: xs, h => by
    show (zput ws (is ++ i2) (xs ++ x2)).set i x = (zput (zput ws i2 x2) is xs).set i x
    rw [zput_app ws i2 x2 is xs (by simpa using h)]
/-- a run of places -/
theorem zput_rng : ∀ (n o : Nat) (ws xs : va_W), o + n ≤ ws.length → xs.length = n → zput ws (List.range' o n) xs = ws.take o ++ xs ++ ws.drop (o + n)
  | 0, o, ws, xs, _, hx => by
    obtain rfl := List.length_eq_zero_iff.mp hx
    simp [zput]
  | n + 1, o, ws, x :: xs, h, hx => by
    show (zput ws (List.range' (o + 1) n) xs).set o x = _
    rw [zput_rng n (o + 1) ws xs (by omega) (by simpa using hx)]
    have ho : o < ws.length := by omega
    apply List.ext_getElem?
    intro k
    have e1 : o + 1 + n = o + (n + 1) := by omega
    rw [e1, List.getElem?_set]
    simp only [List.append_assoc, List.getElem?_append, List.length_take, List.getElem?_take, List.length_append, List.getElem?_drop, List.length_drop, List.length_cons]
    have hxl : xs.length = n := by simpa using hx
    by_cases hk : o = k
    · subst hk
      have m1 : min (o + 1) ws.length = o + 1 := by omega
      have m2 : min o ws.length = o := by omega
      simp [m1, m2]
      omega
    · by_cases hlt : k < o
      · have a1 : k < min (o + 1) ws.length := by omega
        have a2 : k < min o ws.length := by omega
        simp [hk, a1, a2, hlt]
        omega
      · have m1 : min (o + 1) ws.length = o + 1 := by omega
        have m2 : min o ws.length = o := by omega
        have a1 : ¬ k < o + 1 := by omega
        obtain ⟨j, rfl⟩ : ∃ j, k = o + 1 + j := ⟨k - (o + 1), by omega⟩
        have e2 : o + 1 + j - (o + 1) = j := by omega
        have e3 : o + 1 + j - o = j + 1 := by omega
        have e4 : ¬ o + 1 + j < o := by omega
        simp [m1, m2, a1, e2, e3, hk, e4, hxl]
/-! the steps of the pure functions -/
def zin (i : Int32) (n : Nat) : Bool := decide (¬ (i < 0 ∨ n ≤ i.toNatClampNeg))
theorem zg_in {α : Type} {i : Int32} {n : Nat} {x : Option α} {r : α} (h : (if zin i n = true then x else none) = some r) : vp_in i n ∧ x = some r := by
  by_cases g : zin i n = true
  · rw [if_pos g] at h
    exact ⟨by unfold vp_in; exact of_decide_eq_true g, h⟩
  · rw [if_neg g] at h; cases h
theorem zg_nz {α : Type} {y : Int32} {x : Option α} {r : α} (h : (if y = 0 then none else x) = some r) : ¬ y = 0 ∧ x = some r := by
  by_cases g : y = 0
  · rw [if_pos g] at h; cases h
  · rw [if_neg g] at h; exact ⟨g, h⟩
theorem zg_bo {α : Type} {y : Int32} {x : Option α} {r : α} (h : (if y = 0 ∨ y = 1 then x else none) = some r) : (y = 0 ∨ y = 1) ∧ x = some r := by
  by_cases g : y = 0 ∨ y = 1
  · rw [if_pos g] at h; exact ⟨g, h⟩
  · rw [if_neg g] at h; cases h
def zn64 (r : UInt64) : Bool := decide (r &&& 0x7fffffffffffffff ≤ 0x7ff0000000000000)
theorem zg_nn {α : Type} {y : UInt64} {x : Option α} {r : α} (h : (if zn64 y = true then x else none) = some r) : vf_n64 y ∧ x = some r := by
  by_cases g : zn64 y = true
  · rw [if_pos g] at h; exact ⟨by unfold vf_n64; exact of_decide_eq_true g, h⟩
  · rw [if_neg g] at h; cases h
theorem zif_t {α : Type} {c : Prop} [Decidable c] {a b : Option α} {r : α} (hc : c) (h : (if c then a else b) = some r) : a = some r := by rw [if_pos hc] at h; exact h
theorem zif_f {α : Type} {c : Prop} [Decidable c] {a b : Option α} {r : α} (hc : ¬ c) (h : (if c then a else b) = some r) : b = some r := by rw [if_neg hc] at h; exact h
theorem zb_ok {α β : Type} {x : Option α} {f : α → Option β} {r : β} (h : x.bind f = some r) : ∃ q, x = some q ∧ f q = some r := by
  cases x with
  | none => cases h
  | some q => exact ⟨q, rfl, h⟩
def zfuel : Nat := 5000
theorem zvin {i : Int32} {n : Nat} (h : zin i n = true) : vp_in i n := by unfold vp_in; exact of_decide_eq_true h
def zus (x y : Int32) : Int32 := (x.toUInt32 >>> (y.toUInt32 &&& Int32.toUInt32 31)).toInt32
theorem zt_ne {x v : Int32} {n : Int} (h : ¬ x = v) (e : v.toInt = n) : x.toInt ≠ n := fun g => h (Int32.toInt_inj.mp (g.trans e.symm))
theorem zt_lo {x v : Int32} (h : x = v) {lo : Int} (g : lo ≤ v.toInt) : ¬ x.toInt < lo := by rw [h]; omega
theorem zt_hi {x v : Int32} (h : x = v) {hi : Int} (g : v.toInt ≤ hi) : ¬ hi < x.toInt := by rw [h]; omega
theorem zt_at {x v : Int32} (h : x = v) {lo off : Int} {offs : Array Int} (g : offs[(v.toInt - lo).toNat]? = some off) : offs[(x.toInt - lo).toNat]? = some off := by rw [h]; exact g
end
section
/-! METHODS THAT THROW, OR MAKE CELLS -/
/-- the statics that a throw reads -/
def zSt (A : Nat → Prop) (U : State) (H : Heap) : Prop := vx_Zq Bundle.tN "UNASSIGNED_STACK" Bundle.steD A U H ∧ vx_Zq Bundle.tN "SUPPRESSED_SENTINEL" Bundle.listD A U H
def zQG (Δ : zE) (P : Option Value → va_W → Prop) (A : Nat → Prop) : Array Value → State → Outcome → State → Prop := fun _ st oc t => (∃ (rv : Option Value) (w1 : va_W), oc = .returned rv ∧ P rv w1 ∧ va_P Δ.1 vwCl w1 t.heap ∧ va_D A w1) ∧ va_F A st t
def zXC (Δ : zE) (PX : String → Prop) (wc : va_W) (A : Nat → Prop) : String → State → State → Prop := fun E st t => PX E ∧ va_P Δ.1 vwCl wc t.heap ∧ va_F A st t
def zPX (Δ : zE) (av : List Value) (wc : va_W) (sz : Nat) : Array Value → State → Prop := va_Pc av (fun U => U.heap.size = sz ∧ va_P Δ.1 vwCl wc U.heap ∧ zK Δ U ∧ va_D (fun _ => True) wc ∧ zSt (va_A wc sz) U U.heap)
/-- the contract of a method that may throw and may make cells: P of what it answers and its world then, PX of the class that it throws (its world as it was) -/
def zMX (l : Launch) (Δ : zE) (y : MethodName) (cw : Cond) (fr lo mc ms : Nat) (av : List Value) (wc : va_W) (P : Option Value → va_W → Prop) (PX : String → Prop) : Prop :=
  ∀ sz : Nat, vx_Met l y (cw :: zG) { frames := fr, cells := mc, slots := ms, locals := lo } (zPX Δ av wc sz) (zQG Δ P (va_A wc sz)) (zXC Δ PX wc (va_A wc sz)) mc ms (va_A wc sz)
def zEndX (Δ : zE) (below : List Frame) (args : Array Value) (s : State) (mc ms : Nat) (A : Nat → Prop) (P : Option Value → va_W → Prop) (PX : String → Prop) (wc : va_W) : State → Prop := vx_MQ below (zQG Δ P A) (zXC Δ PX wc A) args s mc ms A
/-- what stays along such a walk -/
def zY (Δ : zE) (p : Program) (l : Launch) (s : State) (m : MethodId) (args : Array Value) (meth : Method) (c : Code) (y : MethodName) (bytes : ByteArray) (maxL : Nat) (ret : Option FieldType) (A : Nat → Prop) : Prop :=
  zX Δ p s m args meth c y bytes maxL ret A ∧ zSt A s s.heap ∧ l.stackTraces = false
theorem zput_self {ws wc : va_W} {isC : List Nat} (h : zSub ws wc isC) : zput ws isC wc = ws := by
  obtain ⟨hC, hn⟩ := h
  apply List.ext_getElem?
  intro k
  by_cases hk : k ∈ isC
  · obtain ⟨j, hj⟩ := List.getElem?_of_mem hk
    have h1 : (isC.map (fun i => ws[i]?))[j]? = some (ws[k]?) := by rw [List.getElem?_map, hj]; rfl
    rw [hC, List.getElem?_map] at h1
    cases hq : wc[j]? with
    | none => rw [hq] at h1; cases h1
    | some q =>
      rw [hq] at h1
      have h2 : ws[k]? = some q := (Option.some.inj h1).symm
      rw [zput_in hn hj (List.getElem?_eq_some_iff.mp h2).1 (List.getElem?_eq_some_iff.mp hq).1, hq, h2]
  · rw [zput_out hk]
theorem zSt.at {Δ : zE} {A A1 : Nat → Prop} {s U : State} {H : Heap} {ws : va_W} {locs : List Loc} (h : zSt A s s.heap) (Z : zW Δ A s.heap ws H locs) (hA : ∀ q, A1 q → A q) (hvm : s.vm.Alike U.vm) : zSt A1 U H :=
  ⟨((h.1.kept Z.2.2.2.1).moved hvm).narrow hA, ((h.2.kept Z.2.2.2.1).moved hvm).narrow hA⟩
section ZXB
variable {p : Program} {l : Launch} {e : Env} {R : Room} {s : State} {m : MethodId} {args : Array Value} {below : List Frame} {meth : Method} {c : Code} {H : Heap} {locs : List Loc} {cells slots : Nat} {Q : State → Prop} {Δ : zE} {y0 : MethodName} {cc : ByteArray} {nL : Nat} {rt : Option FieldType} {A : Nat → Prop} {ws w' : va_W} {pc : Nat} {ls : Array Slot} {rest : List Value}
variable {P : Option Value → va_W → Prop} {PX : String → Prop} {mc ms : Nat} {wc0 : va_W}
theorem x_start {y : MethodName} {bytes : ByteArray} {maxL : Nat} {ret : Option FieldType} {fr lo : Nat} {av : List Value} (hT : l.stackTraces = false) (hy : plainName y.cls = true) (hn : (lg_sl av).length ≤ maxL)
    (body : ∀ (p : Program) (e : Env) (s : State) (m : MethodId) (args : Array Value) (below : List Frame) (meth : Method) (c : Code) (A : Nat → Prop) (ls : Array Slot), zY Δ p l s m args meth c y bytes maxL ret A → (∀ x ∈ c.exceptionTable.toList, False) → zW Δ A s.heap wc0 s.heap [] → lv_has ls maxL (lv_args 0 av) →
      W p l e { frames := fr, cells := mc, slots := ms, locals := lo } s m args below meth c s.heap [] 0 0 (zEndX Δ below args s mc ms A P PX wc0) (F0 m 0 ls [])) : zMX l Δ y (.code y bytes maxL ret) fr lo mc ms av wc0 P PX := by
  intro sz
  refine vx_ofW (cc := bytes) (maxL := maxL) (ret := ret) hy rfl ?_
  intro p e s m args below meth c s₁ B hml htab hv
  obtain ⟨rfl, hsz, hP, hK, hD0, hSt⟩ := hv
  have hts := atoms_spec (ws := .code y bytes maxL ret :: zG) B.pre
  have hts' : ∀ w ∈ zG, w.before av.toArray s = true := fun w h => hts w (List.mem_cons_of_mem _ h)
  subst hsz
  have hD := hD0.self (sz := s.heap.size)
  have hA : ∀ q : Nat, s.heap.size ≤ q → va_A wc0 s.heap.size q := fun q h => Or.inr h
  have hl := lv_entry av (n := maxL) hn
  rw [lg_entry_eq]
  exact body p e s m _ below meth c _ _ ⟨⟨⟨B.exec, B.bytes, hml, findClass_of_methodNamed B.named, hts'⟩, hK, hA, B.returns, B.notSynchronized, (name_of_methodNamed B.named B.method).1⟩, hSt, hT⟩ htab ⟨hP, hD, va_S.rf⟩ hl
/-- the same for a method with handlers -/
theorem x_startH {y : MethodName} {bytes : ByteArray} {maxL : Nat} {ret : Option FieldType} {hh : List (Nat × Nat × Nat × Nat)} {fr lo : Nat} {av : List Value} (hT : l.stackTraces = false) (hy : plainName y.cls = true) (hn : (lg_sl av).length ≤ maxL)
    (body : ∀ (p : Program) (e : Env) (s : State) (m : MethodId) (args : Array Value) (below : List Frame) (meth : Method) (c : Code) (A : Nat → Prop) (ls : Array Slot), zY Δ p l s m args meth c y bytes maxL ret A → c.exceptionTable.toList = tableOf hh → zW Δ A s.heap wc0 s.heap [] → lv_has ls maxL (lv_args 0 av) →
      W p l e { frames := fr, cells := mc, slots := ms, locals := lo } s m args below meth c s.heap [] 0 0 (zEndX Δ below args s mc ms A P PX wc0) (F0 m 0 ls [])) : zMX l Δ y (.codeWith y bytes maxL ret hh) fr lo mc ms av wc0 P PX := by
  intro sz
  refine vx_ofWH (cc := bytes) (maxL := maxL) (ret := ret) (hh := hh) hy rfl ?_
  intro p e s m args below meth c s₁ B hml hv
  obtain ⟨rfl, hsz, hP, hK, hD0, hSt⟩ := hv
  have hts := atoms_spec (ws := .codeWith y bytes maxL ret hh :: zG) B.pre
  have hts' : ∀ w ∈ zG, w.before av.toArray s = true := fun w h => hts w (List.mem_cons_of_mem _ h)
  have htab := vx_table (x := y) B (hts _ List.mem_cons_self)
  subst hsz
  have hD := hD0.self (sz := s.heap.size)
  have hA : ∀ q : Nat, s.heap.size ≤ q → va_A wc0 s.heap.size q := fun q h => Or.inr h
  have hl := lv_entry av (n := maxL) hn
  rw [lg_entry_eq]
  exact body p e s m _ below meth c _ _ ⟨⟨⟨B.exec, B.bytes, hml, findClass_of_methodNamed B.named, hts'⟩, hK, hA, B.returns, B.notSynchronized, (name_of_methodNamed B.named B.method).1⟩, hSt, hT⟩ htab ⟨hP, hD, va_S.rf⟩ hl
theorem x_iret {v : Int32} {w1 : va_W} (X : zX Δ p s m args meth c y0 cc nL (some .int) A) (Z : zW Δ A s.heap w1 H locs) (hP : P (some (.int v)) w1) (hc : cells ≤ mc) (hs : slots ≤ ms) (hdg : decode cc pc = .ok (.ireturn, 1)) : W p l e R s m args below meth c H locs cells slots (zEndX Δ below args s mc ms A P PX wc0) (F0 m pc ls [.int v]) :=
  W.widen hc hs (vx_ret (W.iret (v := v) X.x X.b X.2.2.2.1 (fun t ht _ => ⟨⟨_, _, rfl, hP, by rw [ht]; exact Z.1, Z.2.1⟩, Z.2.2.F ht⟩) Z.2.2.2.2 hdg X.2.2.2.2.1))
theorem x_vret {w1 : va_W} (X : zX Δ p s m args meth c y0 cc nL none A) (Z : zW Δ A s.heap w1 H locs) (hP : P none w1) (hc : cells ≤ mc) (hs : slots ≤ ms) (hdg : decode cc pc = .ok (.return_, 1)) : W p l e R s m args below meth c H locs cells slots (zEndX Δ below args s mc ms A P PX wc0) (F0 m pc ls []) :=
  W.widen hc hs (vx_ret (W.vret X.x X.b X.2.2.2.1 (fun t ht _ => ⟨⟨_, _, rfl, hP, by rw [ht]; exact Z.1, Z.2.1⟩, Z.2.2.F ht⟩) Z.2.2.2.2 hdg X.2.2.2.2.1))
theorem x_aret {v : Value} {rt1 : FieldType} {w1 : va_W} (X : zX Δ p s m args meth c y0 cc nL (some rt1) A) (Z : zW Δ A s.heap w1 H locs) (hrt : (∃ n, rt1 = .object n) ∨ ∃ t, rt1 = .array t) (hv : v = .null ∨ ∃ a, v = .ref a) (hP : P (some v) w1) (hc : cells ≤ mc) (hs : slots ≤ ms) (hdg : decode cc pc = .ok (.areturn, 1)) : W p l e R s m args below meth c H locs cells slots (zEndX Δ below args s mc ms A P PX wc0) (F0 m pc ls [v]) :=
  W.widen hc hs (vx_ret (W.aret X.x X.b X.2.2.2.1 hrt hv (fun t ht _ => ⟨⟨_, _, rfl, hP, by rw [ht]; exact Z.1, Z.2.1⟩, Z.2.2.F ht⟩) Z.2.2.2.2 hdg X.2.2.2.2.1))
abbrev zNm : List String := ["java/lang/RuntimeException", "java/lang/Exception"]
/-- throw new E("text") -/
theorem x_throw {cls text : String} {ik is ic : Nat} (Y : zY Δ p l s m args meth c y0 cc nL rt A) (htab : ∀ x ∈ c.exceptionTable.toList, False) (Z : zW Δ A s.heap wc0 H locs) {lvs : List (Nat × Value)} (hl : lv_has ls nL lvs) (h1 : Cond.classLink y0.cls ik cls ∈ zG) (h2 : Cond.initialized cls ∈ zG) (h3 : (y0.cls, is, text) ∈ zStr)
    (h4 : ∀ w ∈ (vx_atS y0.cls ic cls zNm).filter goodWord, w ∈ zG) (h5 : ∀ w ∈ (vx_atS y0.cls ic cls zNm).filter (fun w => !goodWord w), w ∈ zNw) (h6 : ∀ w ∈ Cond.classLink y0.cls ik cls :: Cond.initialized cls :: vx_atS y0.cls ic cls zNm, vx_ot w = true) (hf1 : Bundle.fit cls = true) (hf2 : ∀ n ∈ zNm, Bundle.fit n = true)
    (d0 : decode cc pc = .ok (.new ik, 3)) (d3 : decode cc (pc + 3) = .ok (.dup, 1)) (d4 : decode cc (pc + 4) = .ok (.ldc is, 2)) (d6 : decode cc (pc + 6) = .ok (.invokespecial ic, 3)) (d9 : decode cc (pc + 9) = .ok (.athrow, 1))
    (hr1 : 6 ≤ R.frames) (hr2 : (rest.map fun v => v.category).sum + 82 ≤ R.locals) (hr3 : cells + 1 ≤ R.cells) (hr4 : slots + 6 ≤ R.slots) (hPX : PX cls) (hc : cells + 1 ≤ mc) (hs : slots + 6 ≤ ms) :
    W p l e R s m args below meth c H locs cells slots (zEndX Δ below args s mc ms A P PX wc0) (F0 m pc ls rest) := by
  obtain ⟨X, hSt, hT⟩ := Y
  obtain ⟨sa, hsa⟩ := X.K.2.2.1 _ h3
  refine vx_throwS X.x X.b hT X.own hf1 hf2 (X.ts _ h1) (X.ts _ h2) hsa (vx_hat (fun w hw => X.ts _ (h4 w hw)) h5 (fun w hw => va_Nw.use ?_ (X.K.2.1 w hw))) h6 hSt.1 hSt.2 Z.2.2 (hl.1.trans X.1.2.2.1.symm) d0 d3 d4 d6 d9 (fun x hx => (htab x hx).elim) hr1 hr2 hr3 hr4 X.2.2.2.2.1 ?_ Z.2.2.2.2 hc hs
  · have := (List.mem_filter.mp hw).2
    cases w <;> first | rfl | cases this
  · intro t _ hz hk
    exact ⟨hPX, Z.1.kept (fun k q hq => hk q.1 (Z.1 k q hq).lt), ⟨Nat.le_trans Z.2.2.1 hz, fun q h1 h2 => by rw [hk q (Nat.lt_of_lt_of_le h1 Z.2.2.1)]; exact Z.2.2.2.1 q h1 h2⟩⟩
/-- a thrown thing goes on to the caller -/
theorem x_out {E : String} {ce : Cell} {q : Addr} {locs1 : List Loc} {H1 : Heap} (X : zX Δ p s m args meth c y0 cc nL rt A) (htab : ∀ x ∈ c.exceptionTable.toList, False) (Z : zW Δ A s.heap wc0 H1 locs1) (hPX : PX E) (hcell : H1[q]? = some ce) (hv : ce.vm = .none) (hcl : s.vm.findClass E = some ce.cls) (hc : cells ≤ mc) (hs : slots ≤ ms) :
    vx_W p l e R s m args below meth c H1 locs1 cells slots (zEndX Δ below args s mc ms A P PX wc0) (F0 m pc ls rest) q :=
  vx_out (fun x hx => (htab x hx).elim) X.2.2.2.2.1 hcell hv hcl (fun t ht _ => ⟨hPX, by rw [ht]; exact Z.1, Z.2.2.F ht⟩) Z.2.2.2.2 hc hs
theorem xBlind {av : List Value} {wc : va_W} {sz : Nat} : FrameBlind (zPX Δ av wc sz) := fun a U g mk q => by
  obtain ⟨q0, q1, qP, qK, qD, qS⟩ := q
  exact ⟨q0, q1, qP, qK.calling, qD, vx_Zq.moved (u := U) (U := U.calling g mk a) (Vm.Alike.refl U.vm) qS.1, vx_Zq.moved (u := U) (U := U.calling g mk a) (Vm.Alike.refl U.vm) qS.2⟩
theorem xPre {av : List Value} {wc wr : va_W} (Y : zY Δ p l s m args meth c y0 cc nL rt A) (Z : zW Δ A s.heap ws H locs) (hperm : ws.Perm (wc ++ wr)) : ∀ U : State, U.heap = H → s.WarmedH U.vm → zPX Δ av wc H.size av.toArray U := by
  intro U hU hW
  have Z2 := Z.perm hperm
  have hP : va_P Δ.1 vwCl wc H := fun k q hq => Z2.1 k q (by rw [List.getElem?_append_left (List.getElem?_eq_some_iff.mp hq).1]; exact hq)
  have hD : va_D A wc := ⟨fun i j p q hi hj e => Z2.2.1.1 i j p q (by rw [List.getElem?_append_left (List.getElem?_eq_some_iff.mp hi).1]; exact hi) (by rw [List.getElem?_append_left (List.getElem?_eq_some_iff.mp hj).1]; exact hj) e, fun k q hq => Z2.2.1.2 k q (by rw [List.getElem?_append_left (List.getElem?_eq_some_iff.mp hq).1]; exact hq)⟩
  have hF : ∀ q, va_A wc H.size q → A q := by
    rintro q (⟨k, e, h⟩ | h)
    · exact hD.2 k (q, e) h
    · exact Y.1.2.2.1 q (Nat.le_trans Z.2.2.1 h)
  refine ⟨rfl, by rw [hU], by rw [hU]; exact hP, Y.1.K.warm hW, hD.weaken (fun _ _ _ _ => trivial), ?_⟩
  rw [hU]
  exact Y.2.1.at Z hF hW.alike
theorem x_goes {wc wr : va_W} {P1 : Option Value → va_W → Prop} {PX1 : String → Prop} {mc1 ms1 : Nat} {st0 : List Value} {a : Array Value} (Y : zY Δ p l s m args meth c y0 cc nL rt A) (Z : zW Δ A s.heap ws H locs) (hperm : ws.Perm (wc ++ wr))
    (hr : vx_Run p l e R s m args below meth c H locs cells slots mc1 ms1 (F0 m pc ls st0) rest (zQG Δ P1 (va_A wc H.size) a) (zXC Δ PX1 wc (va_A wc H.size)) (va_A wc H.size))
    (kx : ∀ (E : String) (ce : Cell) (q : Addr) (H1 : Heap) (locs1 : List Loc), PX1 E → zW Δ A s.heap ws H1 locs1 → H1[q]? = some ce → ce.vm = .none → s.vm.findClass E = some ce.cls → vx_W p l e R s m args below meth c H1 locs1 (cells + mc1) (slots + ms1) Q (F0 m pc ls rest) q)
    (kk : ∀ (rv : Option Value) (w1 : va_W) (H1 : Heap) (locs1 : List Loc), P1 rv w1 → zW Δ A s.heap (w1 ++ wr) H1 locs1 → W p l e R s m args below meth c H1 locs1 (cells + mc1) (slots + ms1) Q (F0 m (pc + 3) ls (rv.toList ++ rest))) : W p l e R s m args below meth c H locs cells slots Q (F0 m pc ls st0) := by
  have hF : ∀ q, va_A wc H.size q → A q := by
    have Z2 := Z.perm hperm
    rintro q (⟨k, e, h⟩ | h)
    · exact Z2.2.1.2 k (q, e) (by rw [List.getElem?_append_left (List.getElem?_eq_some_iff.mp h).1]; exact h)
    · exact Y.1.2.2.1 q (Nat.le_trans Z.2.2.1 h)
  have hDc : va_D (va_A wc H.size) wc := by
    have Z2 := Z.perm hperm
    exact ⟨fun i j p q hi hj e => Z2.2.1.1 i j p q (by rw [List.getElem?_append_left (List.getElem?_eq_some_iff.mp hi).1]; exact hi) (by rw [List.getElem?_append_left (List.getElem?_eq_some_iff.mp hj).1]; exact hj) e, fun k q hq => Or.inl ⟨k, q.2, hq⟩⟩
  intro T hT X
  rcases hr T hT X with ⟨v, st₀, t, T', L, h0, X', hL, e1, e2, ⟨⟨rv, w1, hv, hp, hP1, hD1⟩, hF1⟩, st⟩ | ⟨q, st₀, t, T', L, E, ce, h0, X', hL, e1, e2, ⟨hp, hP1, hF1⟩, hce, hcv, hcl, st⟩
  · obtain ⟨k1, k2, k3⟩ := vx_keep h0 e1 Z.2.2 (fun q _ h => hF q h) hF hL hF1
    obtain rfl : v = rv := by cases hv; rfl
    obtain ⟨t2, a1, b1⟩ := kk v w1 T'.heap (locs ++ L) hp (z_afterG Z Y.1.2.2.1 hperm k3 k2 (by rw [e1]; exact hP1) hD1) T' rfl X'
    exact ⟨t2, st t2 a1, b1⟩
  · obtain ⟨k1, k2, k3⟩ := vx_keep h0 e1 Z.2.2 (fun q _ h => hF q h) hF hL hF1
    obtain ⟨t2, a1, b1⟩ := kx E ce q T'.heap (locs ++ L) hp ((z_afterG Z Y.1.2.2.1 hperm k3 k2 (by rw [e1]; exact hP1) hDc).perm hperm.symm) (by rw [e1]; exact hce) hcv hcl T' rfl X'
    exact ⟨t2, st.trans a1, b1⟩
theorem xPreD {av : List Value} {wc : va_W} {isC : List Nat} (Y : zY Δ p l s m args meth c y0 cc nL rt A) (Z : zW Δ A s.heap ws H locs) (hsub : zSub ws wc isC) : ∀ U : State, U.heap = H → s.WarmedH U.vm → zPX Δ av wc H.size av.toArray U := by
  intro U hU hW
  obtain ⟨h1, h2, h3, h4, h5⟩ := zPre (av := av) Y.1 Z isC hsub.2 hsub.1 U hU hW
  refine ⟨h1, h2, h3, h4, h5, ?_⟩
  rw [hU]
  exact Y.2.1.at Z (va_free Z.2.1 Z.2.2 Y.1.2.2.1 isC hsub.1) hW.alike
theorem x_goesD {wc w1 : va_W} {rv : Option Value} {isC : List Nat} {P1 : Option Value → va_W → Prop} {PX1 : String → Prop} {mc1 ms1 : Nat} {st0 st1 : List Value} {a : Array Value} (Y : zY Δ p l s m args meth c y0 cc nL rt A) (Z : zW Δ A s.heap ws H locs) (hsub : zSub ws wc isC)
    (hr : vx_Run p l e R s m args below meth c H locs cells slots mc1 ms1 (F0 m pc ls st0) rest (zQG Δ P1 (va_A wc H.size) a) (zXC Δ PX1 wc (va_A wc H.size)) (va_A wc H.size))
    (hfst : w1.map Prod.fst = wc.map Prod.fst) (hw : zput ws isC w1 = w') (hdet : ∀ rv' w'', P1 rv' w'' → rv' = rv ∧ w'' = w1) (hs1 : rv.toList ++ rest = st1)
    (kx : ∀ (E : String) (ce : Cell) (q : Addr) (H1 : Heap) (locs1 : List Loc), PX1 E → zW Δ A s.heap ws H1 locs1 → H1[q]? = some ce → ce.vm = .none → s.vm.findClass E = some ce.cls → vx_W p l e R s m args below meth c H1 locs1 (cells + mc1) (slots + ms1) Q (F0 m pc ls rest) q)
    (kk : P1 rv w1 → ∀ (H1 : Heap) (locs1 : List Loc), zW Δ A s.heap w' H1 locs1 → W p l e R s m args below meth c H1 locs1 (cells + mc1) (slots + ms1) Q (F0 m (pc + 3) ls st1)) : W p l e R s m args below meth c H locs cells slots Q (F0 m pc ls st0) := by
  subst hs1
  have hF := va_free Z.2.1 Z.2.2 Y.1.2.2.1 isC hsub.1
  intro T hT X
  rcases hr T hT X with ⟨v, st₀, t, T', L, h0, X', hL, e1, e2, ⟨⟨rv', w1', hv, hp, hP1, hD1⟩, hF1⟩, st⟩ | ⟨q, st₀, t, T', L, E, ce, h0, X', hL, e1, e2, ⟨hp, hP1, hF1⟩, hce, hcv, hcl, st⟩
  · obtain ⟨k1, k2, k3⟩ := vx_keep h0 e1 Z.2.2 (fun q _ h => hF q h) hF hL hF1
    obtain ⟨rfl, rfl⟩ := hdet _ _ hp
    obtain rfl : v = rv' := by cases hv; rfl
    obtain ⟨t2, a1, b1⟩ := kk hp T'.heap (locs ++ L) (z_after Z (fun _ h => h) hsub hfst hw k3 k2 (by rw [e1]; exact hP1)) T' rfl X'
    exact ⟨t2, st t2 a1, b1⟩
  · obtain ⟨k1, k2, k3⟩ := vx_keep h0 e1 Z.2.2 (fun q _ h => hF q h) hF hL hF1
    obtain ⟨t2, a1, b1⟩ := kx E ce q T'.heap (locs ++ L) hp (z_after Z (fun _ h => h) hsub rfl (zput_self hsub) k3 k2 (by rw [e1]; exact hP1)) (by rw [e1]; exact hce) hcv hcl T' rfl X'
    exact ⟨t2, st.trans a1, b1⟩
variable {y : MethodName} {bytes : ByteArray} {maxL index n : Nat} {ret : Option FieldType} {fr1 lo1 mc1 ms1 : Nat} {As : List Value} {wc w1 wr : va_W} {rv : Option Value} {st0 st1 : List Value} {b : Nat} {lvs : List (Nat × Value)} {P1 : Option Value → va_W → Prop} {PX1 : String → Prop} {isC : List Nat}
theorem x_gV (h1 : Cond.methodLink y0.cls index y ∈ zG) (h2 : Cond.instanceMethod y ∈ zG) (h3 : Cond.selects y.cls y y ∈ zG) (h4 : Cond.initialized y.cls ∈ zG) (h5 : Cond.code y bytes maxL ret ∈ zG) : GoodIn zG (wsV y0.cls index y.cls y (.code y bytes maxL ret :: zG)) := zG_good (by
    intro w hw
    simp only [wsV, List.mem_append, List.mem_cons, List.not_mem_nil, or_false] at hw
    rcases hw with (rfl | rfl | rfl | rfl) | rfl | h
    · exact h1
    · exact h2
    · exact h3
    · exact h4
    · exact h5
    · exact h)
theorem x_gS {cw : Cond} (h1 : Cond.methodLink y0.cls index y ∈ zG) (h2 : Cond.static y ∈ zG) (h4 : Cond.initialized y.cls ∈ zG) (h5 : cw ∈ zG) : GoodIn zG (va_wsS y0.cls index y (cw :: zG)) := zG_good (by
    intro w hw
    simp only [va_wsS, List.mem_append, List.mem_cons, List.not_mem_nil, or_false] at hw
    rcases hw with (rfl | rfl | rfl) | rfl | h
    · exact h1
    · exact h2
    · exact h4
    · exact h5
    · exact h)
/-- a call that returns -/
theorem x_callV_in (Y : zY Δ p l s m args meth c y0 cc nL rt A) (Z : zW Δ A s.heap ws H locs) (hl : lv_has ls nL lvs) (hM : zMX l Δ y (.code y bytes maxL ret) fr1 lo1 mc1 ms1 (.ref b :: As) wc P1 PX1) (h1 : Cond.methodLink y0.cls index y ∈ zG) (h2 : Cond.instanceMethod y ∈ zG) (h3 : Cond.selects y.cls y y ∈ zG) (h4 : Cond.initialized y.cls ∈ zG) (h5 : Cond.code y bytes maxL ret ∈ zG) (hd : zOK y n)
    (ci : Nat) {fs : List Value} {T : u_T} {N : Nat} (hcl : vwCl[ci]? = some (y.cls, T, N)) (q0 : Nat) (hb0 : ws[q0]? = some (b, .inr (ci, fs))) (hsub : zSub ws wc isC) (hfst : w1.map Prod.fst = wc.map Prod.fst) (hw : zput ws isC w1 = w') (hlen : As.length = n) (hst : st0 = As.reverse ++ .ref b :: rest) (hW : (rest.map fun v => v.category).sum ≤ 8) (hR : fr1 + 1 ≤ R.frames ∧ 8 + (maxL + 11) + lo1 ≤ R.locals) (hrc : cells + mc1 ≤ R.cells ∧ slots + ms1 ≤ R.slots) (hs1 : rv.toList ++ rest = st1) (hdg : decode cc pc = .ok (.invokevirtual index, 3))
    (hdet : ∀ rv' w'', P1 rv' w'' → rv' = rv ∧ w'' = w1) (hno : ∀ E, ¬ PX1 E)
    (kk : ∀ (H1 : Heap) (locs1 : List Loc), zW Δ A s.heap w' H1 locs1 → W p l e R s m args below meth c H1 locs1 (cells + mc1) (slots + ms1) Q (F0 m (pc + 3) ls st1)) : W p l e R s m args below meth c H locs cells slots Q (F0 m pc ls st0) := by
  subst hst
  exact x_goesD Y Z hsub (vx_runV (As := As) (rest := rest) (n := n) Y.1.1 (hM H.size) (cwV n Y.1.ts (x_gV h1 h2 h3 h4 h5) rfl rfl rfl ⟨rfl, hd.1, hd.2.1, hd.2.2⟩ hR) ⟨xBlind, va_recv Y.1.K.1 Z.1 hcl hb0, xPreD Y Z hsub⟩ rfl hlen hl.1 rfl (lv_room hW) hdg hrc) hfst hw hdet hs1 (fun E _ _ _ _ h => absurd h (hno E)) (fun _ => kk)
/-- a call that throws, which goes on to the caller -/
theorem x_callV_out (Y : zY Δ p l s m args meth c y0 cc nL rt A) (htab : ∀ x ∈ c.exceptionTable.toList, False) (Z : zW Δ A s.heap wc0 H locs) (hl : lv_has ls nL lvs) (hM : zMX l Δ y (.code y bytes maxL ret) fr1 lo1 mc1 ms1 (.ref b :: As) wc P1 PX1) (h1 : Cond.methodLink y0.cls index y ∈ zG) (h2 : Cond.instanceMethod y ∈ zG) (h3 : Cond.selects y.cls y y ∈ zG) (h4 : Cond.initialized y.cls ∈ zG) (h5 : Cond.code y bytes maxL ret ∈ zG) (hd : zOK y n)
    (ci : Nat) {fs : List Value} {T : u_T} {N : Nat} (hcl : vwCl[ci]? = some (y.cls, T, N)) (q0 : Nat) (hb0 : wc0[q0]? = some (b, .inr (ci, fs))) (hsub : zSub wc0 wc isC) (hlen : As.length = n) (hst : st0 = As.reverse ++ .ref b :: rest) (hW : (rest.map fun v => v.category).sum ≤ 8) (hR : fr1 + 1 ≤ R.frames ∧ 8 + (maxL + 11) + lo1 ≤ R.locals) (hrc : cells + mc1 ≤ R.cells ∧ slots + ms1 ≤ R.slots) (hdg : decode cc pc = .ok (.invokevirtual index, 3))
    (hno : ∀ rv' w'', ¬ P1 rv' w'') (hX : ∀ E, PX1 E → PX E) (hc : cells + mc1 ≤ mc) (hs : slots + ms1 ≤ ms) : W p l e R s m args below meth c H locs cells slots (zEndX Δ below args s mc ms A P PX wc0) (F0 m pc ls st0) := by
  subst hst
  exact x_goesD (rv := none) (w1 := wc) Y Z hsub (vx_runV (As := As) (rest := rest) (n := n) Y.1.1 (hM H.size) (cwV n Y.1.ts (x_gV h1 h2 h3 h4 h5) rfl rfl rfl ⟨rfl, hd.1, hd.2.1, hd.2.2⟩ hR) ⟨xBlind, va_recv Y.1.K.1 Z.1 hcl hb0, xPreD Y Z hsub⟩ rfl hlen hl.1 rfl (lv_room hW) hdg hrc) rfl rfl (fun rv' w'' h => absurd h (hno rv' w'')) rfl (fun E ce q H1 locs1 h Z1 g1 g2 g3 => x_out Y.1 htab Z1 (hX E h) g1 g2 g3 hc hs) (fun h => absurd h (hno _ _))
theorem x_callS_in (Y : zY Δ p l s m args meth c y0 cc nL rt A) (Z : zW Δ A s.heap ws H locs) (hl : lv_has ls nL lvs) (hM : zMX l Δ y (.code y bytes maxL ret) fr1 lo1 mc1 ms1 As wc P1 PX1) (h1 : Cond.methodLink y0.cls index y ∈ zG) (h2 : Cond.static y ∈ zG) (h4 : Cond.initialized y.cls ∈ zG) (h5 : Cond.code y bytes maxL ret ∈ zG) (hd : zOK y n)
    (hsub : zSub ws wc isC) (hfst : w1.map Prod.fst = wc.map Prod.fst) (hw : zput ws isC w1 = w') (hlen : As.length = n) (hst : st0 = As.reverse ++ rest) (hW : (rest.map fun v => v.category).sum ≤ 8) (hR : fr1 + 1 ≤ R.frames ∧ 8 + (maxL + 11) + lo1 ≤ R.locals) (hrc : cells + mc1 ≤ R.cells ∧ slots + ms1 ≤ R.slots) (hs1 : rv.toList ++ rest = st1) (hdg : decode cc pc = .ok (.invokestatic index, 3))
    (hdet : ∀ rv' w'', P1 rv' w'' → rv' = rv ∧ w'' = w1) (hno : ∀ E, ¬ PX1 E)
    (kk : ∀ (H1 : Heap) (locs1 : List Loc), zW Δ A s.heap w' H1 locs1 → W p l e R s m args below meth c H1 locs1 (cells + mc1) (slots + ms1) Q (F0 m (pc + 3) ls st1)) : W p l e R s m args below meth c H locs cells slots Q (F0 m pc ls st0) := by
  subst hst
  exact x_goesD Y Z hsub (vx_runS (As := As) (rest := rest) (n := n) Y.1.1 (hM H.size) (va_cwS n Y.1.ts (x_gS h1 h2 h4 h5) rfl rfl rfl ⟨hd.1, hd.2.1, hd.2.2⟩ hR) ⟨xBlind, xPreD Y Z hsub⟩ rfl hlen hl.1 rfl (lv_room hW) hdg hrc) hfst hw hdet hs1 (fun E _ _ _ _ h => absurd h (hno E)) (fun _ => kk)
theorem x_callS_out (Y : zY Δ p l s m args meth c y0 cc nL rt A) (htab : ∀ x ∈ c.exceptionTable.toList, False) (Z : zW Δ A s.heap wc0 H locs) (hl : lv_has ls nL lvs) (hM : zMX l Δ y (.code y bytes maxL ret) fr1 lo1 mc1 ms1 As wc P1 PX1) (h1 : Cond.methodLink y0.cls index y ∈ zG) (h2 : Cond.static y ∈ zG) (h4 : Cond.initialized y.cls ∈ zG) (h5 : Cond.code y bytes maxL ret ∈ zG) (hd : zOK y n)
    (hsub : zSub wc0 wc isC) (hlen : As.length = n) (hst : st0 = As.reverse ++ rest) (hW : (rest.map fun v => v.category).sum ≤ 8) (hR : fr1 + 1 ≤ R.frames ∧ 8 + (maxL + 11) + lo1 ≤ R.locals) (hrc : cells + mc1 ≤ R.cells ∧ slots + ms1 ≤ R.slots) (hdg : decode cc pc = .ok (.invokestatic index, 3))
    (hno : ∀ rv' w'', ¬ P1 rv' w'') (hX : ∀ E, PX1 E → PX E) (hc : cells + mc1 ≤ mc) (hs : slots + ms1 ≤ ms) : W p l e R s m args below meth c H locs cells slots (zEndX Δ below args s mc ms A P PX wc0) (F0 m pc ls st0) := by
  subst hst
  exact x_goesD (rv := none) (w1 := wc) Y Z hsub (vx_runS (As := As) (rest := rest) (n := n) Y.1.1 (hM H.size) (va_cwS n Y.1.ts (x_gS h1 h2 h4 h5) rfl rfl rfl ⟨hd.1, hd.2.1, hd.2.2⟩ hR) ⟨xBlind, xPreD Y Z hsub⟩ rfl hlen hl.1 rfl (lv_room hW) hdg hrc) rfl rfl (fun rv' w'' h => absurd h (hno rv' w'')) rfl (fun E ce q H1 locs1 h Z1 g1 g2 g3 => x_out Y.1 htab Z1 (hX E h) g1 g2 g3 hc hs) (fun h => absurd h (hno _ _))
end ZXB
end
section
/-! METHODS THAT MAKE CELLS AND THROW NOTHING; making cells -/
def zMC (l : Launch) (Δ : zE) (y : MethodName) (cw : Cond) (fr lo mc ms : Nat) (av : List Value) (wc : va_W) (P : Option Value → va_W → Prop) : Prop :=
  ∀ sz : Nat, Met l y (cw :: zG) { frames := fr, cells := mc, slots := ms, locals := lo } (va_Pc av (fun U => U.heap.size = sz ∧ va_P Δ.1 vwCl wc U.heap ∧ zK Δ U ∧ va_D (fun _ => True) wc)) (zQG Δ P (va_A wc sz)) mc ms (va_A wc sz)
def zEndC (Δ : zE) (below : List Frame) (args : Array Value) (s : State) (mc ms : Nat) (A : Nat → Prop) (P : Option Value → va_W → Prop) : State → Prop := MQ below (zQG Δ P A) args s mc ms A
/-- addresses by a list -/
def zAd (L : List Nat) : Nat → Nat := fun k => L.getD k 0
theorem zPerm {α : Type} {a b : List α} (h : ∀ [DecidableEq α] (x : α), a.count x = b.count x) : a.Perm b := by
  haveI : DecidableEq α := fun a b => Classical.propDecidable _
  exact List.perm_iff_count.mpr h
section ZCB
variable {p : Program} {l : Launch} {e : Env} {R : Room} {s : State} {m : MethodId} {args : Array Value} {below : List Frame} {meth : Method} {c : Code} {H : Heap} {locs : List Loc} {cells slots : Nat} {Q : State → Prop} {Δ : zE} {y0 : MethodName} {cc : ByteArray} {nL : Nat} {rt : Option FieldType} {A : Nat → Prop} {ws w' : va_W} {pc : Nat} {ls : Array Slot} {rest : List Value}
variable {P : Option Value → va_W → Prop} {mc ms : Nat} {wc0 : va_W}
theorem c_start {y : MethodName} {bytes : ByteArray} {maxL : Nat} {ret : Option FieldType} {fr lo : Nat} {av : List Value} (hy : plainName y.cls = true) (hn : (lg_sl av).length ≤ maxL)
    (body : ∀ (p : Program) (e : Env) (s : State) (m : MethodId) (args : Array Value) (below : List Frame) (meth : Method) (c : Code) (A : Nat → Prop) (ls : Array Slot), zX Δ p s m args meth c y bytes maxL ret A → zW Δ A s.heap wc0 s.heap [] → lv_has ls maxL (lv_args 0 av) →
      W p l e { frames := fr, cells := mc, slots := ms, locals := lo } s m args below meth c s.heap [] 0 0 (zEndC Δ below args s mc ms A P) (F0 m 0 ls [])) : zMC l Δ y (.code y bytes maxL ret) fr lo mc ms av wc0 P := by
  intro sz
  refine Met.ofW (cc := bytes) (maxL := maxL) (ret := ret) hy rfl ?_
  intro p e s m args below meth c s₁ B hml hv
  obtain ⟨rfl, hsz, hP, hK, hD0⟩ := hv
  have hts := atoms_spec (ws := .code y bytes maxL ret :: zG) B.pre
  have hts' : ∀ w ∈ zG, w.before av.toArray s = true := fun w h => hts w (List.mem_cons_of_mem _ h)
  subst hsz
  have hD := hD0.self (sz := s.heap.size)
  have hA : ∀ q : Nat, s.heap.size ≤ q → va_A wc0 s.heap.size q := fun q h => Or.inr h
  have hl := lv_entry av (n := maxL) hn
  rw [lg_entry_eq]
  exact body p e s m _ below meth c _ _ ⟨⟨B.exec, B.bytes, hml, findClass_of_methodNamed B.named, hts'⟩, hK, hA, B.returns, B.notSynchronized, (name_of_methodNamed B.named B.method).1⟩ ⟨hP, hD, va_S.rf⟩ hl
theorem c_vret {w1 : va_W} (X : zX Δ p s m args meth c y0 cc nL none A) (Z : zW Δ A s.heap w1 H locs) (hP : P none w1) (hc : cells ≤ mc) (hs : slots ≤ ms) (hdg : decode cc pc = .ok (.return_, 1)) : W p l e R s m args below meth c H locs cells slots (zEndC Δ below args s mc ms A P) (F0 m pc ls []) :=
  W.widen hc hs (W.vret X.x X.b X.2.2.2.1 (fun t ht _ => ⟨⟨_, _, rfl, hP, by rw [ht]; exact Z.1, Z.2.1⟩, Z.2.2.F ht⟩) Z.2.2.2.2 hdg X.2.2.2.2.1)
theorem c_aret {v : Value} {rt1 : FieldType} {w1 : va_W} (X : zX Δ p s m args meth c y0 cc nL (some rt1) A) (Z : zW Δ A s.heap w1 H locs) (hrt : (∃ n, rt1 = .object n) ∨ ∃ t, rt1 = .array t) (hv : v = .null ∨ ∃ a, v = .ref a) (hP : P (some v) w1) (hc : cells ≤ mc) (hs : slots ≤ ms) (hdg : decode cc pc = .ok (.areturn, 1)) : W p l e R s m args below meth c H locs cells slots (zEndC Δ below args s mc ms A P) (F0 m pc ls [v]) :=
  W.widen hc hs (W.aret X.x X.b X.2.2.2.1 hrt hv (fun t ht _ => ⟨⟨_, _, rfl, hP, by rw [ht]; exact Z.1, Z.2.1⟩, Z.2.2.F ht⟩) Z.2.2.2.2 hdg X.2.2.2.2.1)
theorem c_objInit {idx : Nat} {a : Nat} {lvs : List (Nat × Value)} (X : zX Δ p s m args meth c y0 cc nL rt A) (hl : lv_has ls nL lvs) (h1 : Cond.methodLink y0.cls idx Lib.objectInit ∈ zG) (h2 : Cond.instanceMethod Lib.objectInit ∈ zG) (h3 : Cond.code Lib.objectInit ⟨#[0xb1]⟩ 1 none ∈ zG) (hd : decode cc pc = .ok (.invokespecial idx, 3)) (hr1 : 1 ≤ R.frames) (hr2 : (rest.map fun v => v.category).sum + 12 ≤ R.locals)
    (kk : W p l e R s m args below meth c H locs cells slots Q (F0 m (pc + 3) ls rest)) : W p l e R s m args below meth c H locs cells slots Q (F0 m pc ls (.ref a :: rest)) :=
  W.objInit X.x X.b X.own (X.ts _ h1) (X.ts _ h2) (X.ts _ h3) (g := F0 m pc ls (.ref a :: rest)) rfl (hl.1.trans X.1.2.2.1.symm) rfl hd hr1 (by show 2 * 0 + _ + 12 ≤ _; omega) kk
theorem c_new {C : String} {T : u_T} {N ci index : Nat} (hin : ∀ w ∈ u_ws C T N, w ∈ zG) (hc : vwCl[ci]? = some (C, T, N)) (ty : Nat → FieldType) (hty : ∀ k, k < N → parseFieldDescriptor (T k).2.2.1 = some (ty k)) {fs : List Value} (hfs : ∀ j, j < N → defaultValue (ty j) = vp_V fs j) (X : zX Δ p s m args meth c y0 cc nL rt A) (Z : zW Δ A s.heap ws H locs) (h1 : Cond.classLink y0.cls index C ∈ zG) (h2 : Cond.instantiable C N ∈ zG) (h3 : Cond.initialized C ∈ zG) (hcells : cells + 1 ≤ R.cells) (hslots : slots + N ≤ R.slots) (hdg : decode cc pc = .ok (.new index, 3))
    (kk : ∀ (q : Nat) (H1 : Heap), zW Δ A s.heap (ws ++ [(q, .inr (ci, fs))]) H1 locs → W p l e R s m args below meth c H1 locs (cells + 1) (slots + N) Q (F0 m (pc + 3) ls (.ref q :: rest))) : W p l e R s m args below meth c H locs cells slots Q (F0 m pc ls rest) :=
  va_new X.x X.b X.ts hin ty hty X.own (X.ts _ h1) (X.ts _ h2) (X.ts _ h3) X.K.1 Z.1 Z.2.1 Z.2.2 X.2.2.1 hc hfs hcells hslots hdg (fun q H1 a b d => kk q H1 ⟨a, b, d⟩)
theorem c_newaI {n : Int32} {N' : Nat} (X : zX Δ p s m args meth c y0 cc nL rt A) (Z : zW Δ A s.heap ws H locs) (h1 : Cond.arrayClass .int ∈ zG) (hn : ¬ n < 0) (hN : n.toNatClampNeg = N') (hb : N' * componentBytes .int ≤ 536870912) (hcells : cells + 1 ≤ R.cells) (hslots : slots + N' ≤ R.slots) (hdg : decode cc pc = .ok (.newarray .int, 2))
    (kk : ∀ (q : Nat) (H1 : Heap), zW Δ A s.heap (ws ++ [(q, .inl (Δ.2.1, N', .inl (fun _ => 0)))]) H1 locs → W p l e R s m args below meth c H1 locs (cells + 1) (slots + N') Q (F0 m (pc + 2) ls (.ref q :: rest))) : W p l e R s m args below meth c H locs cells slots Q (F0 m pc ls (.int n :: rest)) := by
  refine va_newa (atype := .int) (ty := .int) (a0 := (N', .inl (fun _ => 0))) X.x X.b (X.ts _ h1) rfl X.K.1 Z.1 Z.2.1 Z.2.2 X.2.2.1 (fun _ => rfl) hn hN hb hcells hslots hdg (fun q cA H1 hK a b d => ?_)
  have e1 := (hK.2 4 (cA, .int) rfl).2
  have e2 := (X.K.1.2 0 (Δ.2.1, .int) rfl).2
  have e : cA = Δ.2.1 := Option.some.inj (e1.symm.trans e2)
  subst e
  exact kk q H1 ⟨a, b, d⟩
theorem c_newaC {n : Int32} {N' : Nat} (X : zX Δ p s m args meth c y0 cc nL rt A) (Z : zW Δ A s.heap ws H locs) (h1 : Cond.arrayClass .char ∈ zG) (hn : ¬ n < 0) (hN : n.toNatClampNeg = N') (hb : N' * componentBytes .char ≤ 536870912) (hcells : cells + 1 ≤ R.cells) (hslots : slots + N' ≤ R.slots) (hdg : decode cc pc = .ok (.newarray .char, 2))
    (kk : ∀ (q : Nat) (H1 : Heap), zW Δ A s.heap (ws ++ [(q, .inl (Δ.2.2.1, N', .inl (fun _ => 0)))]) H1 locs → W p l e R s m args below meth c H1 locs (cells + 1) (slots + N') Q (F0 m (pc + 2) ls (.ref q :: rest))) : W p l e R s m args below meth c H locs cells slots Q (F0 m pc ls (.int n :: rest)) := by
  refine va_newa (atype := .char) (ty := .char) (a0 := (N', .inl (fun _ => 0))) X.x X.b (X.ts _ h1) rfl X.K.1 Z.1 Z.2.1 Z.2.2 X.2.2.1 (fun _ => rfl) hn hN hb hcells hslots hdg (fun q cA H1 hK a b d => ?_)
  have e1 := (hK.2 4 (cA, .char) rfl).2
  have e2 := (X.K.1.2 1 (Δ.2.2.1, .char) rfl).2
  have e : cA = Δ.2.2.1 := Option.some.inj (e1.symm.trans e2)
  subst e
  exact kk q H1 ⟨a, b, d⟩
theorem c_newaL {n : Int32} {N' : Nat} (X : zX Δ p s m args meth c y0 cc nL rt A) (Z : zW Δ A s.heap ws H locs) (h1 : Cond.arrayClass .long ∈ zG) (hn : ¬ n < 0) (hN : n.toNatClampNeg = N') (hb : N' * componentBytes .long ≤ 536870912) (hcells : cells + 1 ≤ R.cells) (hslots : slots + N' ≤ R.slots) (hdg : decode cc pc = .ok (.newarray .long, 2))
    (kk : ∀ (q : Nat) (H1 : Heap), zW Δ A s.heap (ws ++ [(q, .inl (Δ.2.2.2.1, N', .inr (.inl (fun _ => 0))))]) H1 locs → W p l e R s m args below meth c H1 locs (cells + 1) (slots + N') Q (F0 m (pc + 2) ls (.ref q :: rest))) : W p l e R s m args below meth c H locs cells slots Q (F0 m pc ls (.int n :: rest)) := by
  refine va_newa (atype := .long) (ty := .long) (a0 := (N', .inr (.inl (fun _ => 0)))) X.x X.b (X.ts _ h1) rfl X.K.1 Z.1 Z.2.1 Z.2.2 X.2.2.1 (fun _ => rfl) hn hN hb hcells hslots hdg (fun q cA H1 hK a b d => ?_)
  have e1 := (hK.2 4 (cA, .long) rfl).2
  have e2 := (X.K.1.2 2 (Δ.2.2.2.1, .long) rfl).2
  have e : cA = Δ.2.2.2.1 := Option.some.inj (e1.symm.trans e2)
  subst e
  exact kk q H1 ⟨a, b, d⟩
theorem c_newaQ {n : Int32} {N' index : Nat} (X : zX Δ p s m args meth c y0 cc nL rt A) (Z : zW Δ A s.heap ws H locs) (h1 : Cond.classLink y0.cls index "SerialRecaps$State" ∈ zG) (hn : ¬ n < 0) (hN : n.toNatClampNeg = N') (hb : N' * 4 ≤ 536870912) (hcells : cells + 1 ≤ R.cells) (hslots : slots + N' ≤ R.slots) (hdg : decode cc pc = .ok (.anewarray index, 3))
    (kk : ∀ (q : Nat) (H1 : Heap), zW Δ A s.heap (ws ++ [(q, .inl (Δ.2.2.2.2, N', .inr (.inr (.inr (.inr (fun _ => none))))))]) H1 locs → W p l e R s m args below meth c H1 locs (cells + 1) (slots + N') Q (F0 m (pc + 3) ls (.ref q :: rest))) : W p l e R s m args below meth c H locs cells slots Q (F0 m pc ls (.int n :: rest)) := by
  refine va_newq (C := "SerialRecaps$State") X.x X.b X.own (X.ts _ h1) X.K.2.2.2 X.K.1 Z.1 Z.2.1 Z.2.2 X.2.2.1 hn hN hb hcells hslots hdg (fun q cA H1 hK a b d => ?_)
  have e1 := (hK.2 4 (cA, .object "SerialRecaps$State") rfl).2
  have e2 := (X.K.1.2 3 (Δ.2.2.2.2, .object "SerialRecaps$State") rfl).2
  obtain ⟨_, _, _, _, _, e3⟩ := e1
  obtain ⟨_, _, _, _, _, e4⟩ := e2
  have e : cA = Δ.2.2.2.2 := Option.some.inj (e3.symm.trans e4)
  subst e
  exact kk q H1 ⟨a, b, d⟩
/-- a final field is written in its constructor -/
theorem c_pfF {ref C : String} {T : u_T} {N ci index : Nat} (hin : ∀ w ∈ u_ws C T N, w ∈ zG) (hc : vwCl[ci]? = some (C, T, N)) (ty0 : Nat → FieldType) (hty : ∀ k, k < N → parseFieldDescriptor (T k).2.2.1 = some (ty0 k)) (hnm : ∀ a, a < N → ∀ b, b < N → a ≠ b → (T a).2.1 ≠ (T b).2.1) (k : Nat) (hk : k < N) (href : ref = (T k).1) (hfin : (T k).2.2.2 = true) (X : zX Δ p s m args meth c y0 cc nL rt A) (hinit : y0.name = "<init>") (hdecl : (T k).1 = y0.cls) (Z : zW Δ A s.heap ws H locs) (hl : Cond.fieldLink y0.cls index ref (T k).2.1 (T k).2.2.1 ∈ zG) (q0 : Nat) {a : Nat} {fs : List Value} (he : ws[q0]? = some (a, .inr (ci, fs))) {v : Value} (hn : narrow (ty0 k) v = v) (hfit : fits (ty0 k) v = true) (hlen : k < fs.length) (hw : ws.set q0 (a, .inr (ci, fs.set k v)) = w') (hdg : decode cc pc = .ok (.putfield index, 3))
    (kk : ∀ (H1 : Heap) (locs1 : List Loc), zW Δ A s.heap w' H1 locs1 → W p l e R s m args below meth c H1 locs1 cells slots Q (F0 m (pc + 3) ls rest)) : W p l e R s m args below meth c H locs cells slots Q (F0 m pc ls (v :: .ref a :: rest)) := by
  subst hw
  exact va_putF X.x X.b X.ts hin ty0 hty hnm X.own X.K.1 Z.1 Z.2.1 Z.2.2 q0 he hc k hk (X.ts _ hl) (fun _ h => by rw [href]; exact h) hfin (X.2.2.2.2.2.trans hinit) hdecl (hty k hk) hn hfit hlen hdg (fun H1 locs1 a b d => kk H1 locs1 ⟨a, b, d⟩)
theorem c_goes {wc wr : va_W} {P1 : Option Value → va_W → Prop} {mc1 ms1 : Nat} {st0 : List Value} {a : Array Value} (X : zX Δ p s m args meth c y0 cc nL rt A) (Z : zW Δ A s.heap ws H locs) (hperm : ws.Perm (wc ++ wr))
    (hr : va_Run p l e R s m args below meth c H locs cells slots mc1 ms1 (F0 m pc ls st0) rest (zQG Δ P1 (va_A wc H.size) a) (va_A wc H.size))
    (kk : ∀ (rv : Option Value) (w1 : va_W) (H1 : Heap) (locs1 : List Loc), P1 rv w1 → zW Δ A s.heap (w1 ++ wr) H1 locs1 → W p l e R s m args below meth c H1 locs1 (cells + mc1) (slots + ms1) Q (F0 m (pc + 3) ls (rv.toList ++ rest))) : W p l e R s m args below meth c H locs cells slots Q (F0 m pc ls st0) := by
  have hF : ∀ q, va_A wc H.size q → A q := by
    have Z2 := Z.perm hperm
    rintro q (⟨k, e, h⟩ | h)
    · exact Z2.2.1.2 k (q, e) (by rw [List.getElem?_append_left (List.getElem?_eq_some_iff.mp h).1]; exact h)
    · exact X.2.2.1 q (Nat.le_trans Z.2.2.1 h)
  intro T hT X1
  obtain ⟨v, st₀, t, T', L, h0, X', hL, e1, e2, ⟨⟨rv, w1, hv, hp, hP1, hD1⟩, hF1⟩, st⟩ := hr T hT X1
  obtain ⟨k1, k2, k3⟩ := vx_keep h0 e1 Z.2.2 (fun q _ h => hF q h) hF hL hF1
  obtain rfl : v = rv := by cases hv; rfl
  obtain ⟨t2, a1, b1⟩ := kk v w1 T'.heap (locs ++ L) hp (z_afterG Z X.2.2.1 hperm k3 k2 (by rw [e1]; exact hP1) hD1) T' rfl X'
  exact ⟨t2, st t2 a1, b1⟩
theorem cPre {av : List Value} {wc wr : va_W} (X : zX Δ p s m args meth c y0 cc nL rt A) (Z : zW Δ A s.heap ws H locs) (hperm : ws.Perm (wc ++ wr)) : ∀ U : State, U.heap = H → s.WarmedH U.vm → va_Pc av (fun U => U.heap.size = H.size ∧ va_P Δ.1 vwCl wc U.heap ∧ zK Δ U ∧ va_D (fun _ => True) wc) av.toArray U := by
  intro U hU hW
  have Z2 := Z.perm hperm
  refine ⟨rfl, by rw [hU], ?_, X.K.warm hW, ⟨fun i j p q hi hj e => Z2.2.1.1 i j p q (by rw [List.getElem?_append_left (List.getElem?_eq_some_iff.mp hi).1]; exact hi) (by rw [List.getElem?_append_left (List.getElem?_eq_some_iff.mp hj).1]; exact hj) e, fun _ _ _ => trivial⟩⟩
  rw [hU]
  exact fun k q hq => Z2.1 k q (by rw [List.getElem?_append_left (List.getElem?_eq_some_iff.mp hq).1]; exact hq)
variable {y : MethodName} {bytes : ByteArray} {maxL index n : Nat} {ret : Option FieldType} {fr1 lo1 mc1 ms1 : Nat} {As : List Value} {wc w1 wr : va_W} {rv : Option Value} {st0 st1 : List Value} {b : Nat} {lvs : List (Nat × Value)} {P1 : Option Value → va_W → Prop}
/-- a constructor is called -/
theorem c_callI (X : zX Δ p s m args meth c y0 cc nL rt A) (Z : zW Δ A s.heap ws H locs) (hl : lv_has ls nL lvs) (hM : zMC l Δ y (.code y bytes maxL none) fr1 lo1 mc1 ms1 (.ref b :: As) wc P1) (h1 : Cond.methodLink y0.cls index y ∈ zG) (h2 : Cond.instanceMethod y ∈ zG) (h4 : Cond.initialized y.cls ∈ zG) (h5 : Cond.code y bytes maxL none ∈ zG) (hd : zOK y n) (hy : y.name = "<init>")
    (hperm : ws.Perm (wc ++ wr)) (hlen : As.length = n) (hst : st0 = As.reverse ++ .ref b :: rest) (hW : (rest.map fun v => v.category).sum ≤ 8) (hR : fr1 + 1 ≤ R.frames ∧ 8 + (maxL + 11) + lo1 ≤ R.locals) (hrc : cells + mc1 ≤ R.cells ∧ slots + ms1 ≤ R.slots) (hdg : decode cc pc = .ok (.invokespecial index, 3))
    (kk : ∀ (rv : Option Value) (w1 : va_W) (H1 : Heap) (locs1 : List Loc), P1 rv w1 → zW Δ A s.heap (w1 ++ wr) H1 locs1 → W p l e R s m args below meth c H1 locs1 (cells + mc1) (slots + ms1) Q (F0 m (pc + 3) ls (rv.toList ++ rest))) : W p l e R s m args below meth c H locs cells slots Q (F0 m pc ls st0) := by
  subst hst
  exact c_goes X Z hperm (va_runI (As := As) (rest := rest) (n := n) X.1 (hM H.size) (cwI n X.ts (zG_good (by intro w hw; rcases List.mem_cons.mp hw with rfl | h; exact h5; exact h)) rfl rfl rfl (X.ts _ h4) (X.ts _ h1) (X.ts _ h2) hy ⟨hd.1, hd.2.1, hd.2.2⟩ hR) ⟨zBlind, cPre X Z hperm⟩ rfl hlen hl.1 rfl (lv_room hW) hdg hrc) kk
theorem c_callIN {host : String} (X : zX Δ p s m args meth c y0 cc nL rt A) (Z : zW Δ A s.heap ws H locs) (hl : lv_has ls nL lvs) (hM : zMC l Δ y (.code y bytes maxL none) fr1 lo1 mc1 ms1 (.ref b :: As) wc P1) (h1 : Cond.methodLinkNest y0.cls index y host ∈ zNw) (h2 : Cond.instanceMethod y ∈ zG) (h4 : Cond.initialized y.cls ∈ zG) (h5 : Cond.code y bytes maxL none ∈ zG) (hd : zOK y n) (hy : y.name = "<init>")
    (hperm : ws.Perm (wc ++ wr)) (hlen : As.length = n) (hst : st0 = As.reverse ++ .ref b :: rest) (hW : (rest.map fun v => v.category).sum ≤ 8) (hR : fr1 + 1 ≤ R.frames ∧ 8 + (maxL + 11) + lo1 ≤ R.locals) (hrc : cells + mc1 ≤ R.cells ∧ slots + ms1 ≤ R.slots) (hdg : decode cc pc = .ok (.invokespecial index, 3))
    (kk : ∀ (rv : Option Value) (w1 : va_W) (H1 : Heap) (locs1 : List Loc), P1 rv w1 → zW Δ A s.heap (w1 ++ wr) H1 locs1 → W p l e R s m args below meth c H1 locs1 (cells + mc1) (slots + ms1) Q (F0 m (pc + 3) ls (rv.toList ++ rest))) : W p l e R s m args below meth c H locs cells slots Q (F0 m pc ls st0) := by
  subst hst
  exact c_goes X Z hperm (va_runIN (As := As) (rest := rest) (n := n) X.1 (hM H.size) ⟨va_cnB n X.ts (zG_good (by intro w hw; rcases List.mem_cons.mp hw with rfl | h; exact h5; exact h)) rfl rfl rfl (X.K.2.1 _ h1) (X.ts _ h4) ⟨hd.1, hd.2.1, hd.2.2⟩ hR, hy, X.ts _ h2⟩ ⟨zBlind, cPre X Z hperm⟩ rfl hlen hl.1 rfl (lv_room hW) hdg hrc) kk
/-- an instance method that makes cells is called -/
theorem c_callV (X : zX Δ p s m args meth c y0 cc nL rt A) (Z : zW Δ A s.heap ws H locs) (hl : lv_has ls nL lvs) (hM : zMC l Δ y (.code y bytes maxL ret) fr1 lo1 mc1 ms1 (.ref b :: As) wc P1) (h1 : Cond.methodLink y0.cls index y ∈ zG) (h2 : Cond.instanceMethod y ∈ zG) (h3 : Cond.selects y.cls y y ∈ zG) (h4 : Cond.initialized y.cls ∈ zG) (h5 : Cond.code y bytes maxL ret ∈ zG) (hd : zOK y n)
    (ci : Nat) {fs : List Value} {T : u_T} {N : Nat} (hcl : vwCl[ci]? = some (y.cls, T, N)) (q0 : Nat) (hb0 : ws[q0]? = some (b, .inr (ci, fs))) (hperm : ws.Perm (wc ++ wr)) (hlen : As.length = n) (hst : st0 = As.reverse ++ .ref b :: rest) (hW : (rest.map fun v => v.category).sum ≤ 8) (hR : fr1 + 1 ≤ R.frames ∧ 8 + (maxL + 11) + lo1 ≤ R.locals) (hrc : cells + mc1 ≤ R.cells ∧ slots + ms1 ≤ R.slots) (hdg : decode cc pc = .ok (.invokevirtual index, 3))
    (kk : ∀ (rv : Option Value) (w1 : va_W) (H1 : Heap) (locs1 : List Loc), P1 rv w1 → zW Δ A s.heap (w1 ++ wr) H1 locs1 → W p l e R s m args below meth c H1 locs1 (cells + mc1) (slots + ms1) Q (F0 m (pc + 3) ls (rv.toList ++ rest))) : W p l e R s m args below meth c H locs cells slots Q (F0 m pc ls st0) := by
  subst hst
  exact c_goes X Z hperm (va_runV (As := As) (rest := rest) (n := n) X.1 (hM H.size) (cwV n X.ts (x_gV h1 h2 h3 h4 h5) rfl rfl rfl ⟨rfl, hd.1, hd.2.1, hd.2.2⟩ hR) ⟨zBlind, va_recv X.K.1 Z.1 hcl hb0, cPre X Z hperm⟩ rfl hlen hl.1 rfl (lv_room hW) hdg hrc) kk
end ZCB
end
