-- ===== PART A: goes FIRST, ahead of the names: the tables' words, and 'selects' of the private methods out of them =====
/-- a private method of a class that the tables say can be made, by its rows of tables_1 -/
def lw_okq (q : MethodName × Nat) : Prop := (q.1.cls ≠ "java/lang/invoke/MethodHandle" ∧ q.1.cls ≠ "java/lang/invoke/VarHandle") ∧ Cond.instantiable q.1.cls q.2 ∈ tables_1 ∧ Cond.privateMethod q.1 ∈ tables_1 ∧ Cond.instanceMethod q.1 ∈ tables_1
theorem lw_p0 : lw_okq (⟨"TimeWords", "changesTo", "(LTimeWords$Row;)I"⟩, 8) := ⟨⟨by decide +kernel, by decide +kernel⟩, List.mem_of_getElem? (i := 26) (by decide +kernel), List.mem_of_getElem? (i := 154) (by decide +kernel), List.mem_of_getElem? (i := 155) (by decide +kernel)⟩
theorem lw_p1 : lw_okq (⟨"TimeWords", "changesWithSign", "(ILTimeWords$Row;)I"⟩, 8) := ⟨⟨by decide +kernel, by decide +kernel⟩, List.mem_of_getElem? (i := 26) (by decide +kernel), List.mem_of_getElem? (i := 158) (by decide +kernel), List.mem_of_getElem? (i := 159) (by decide +kernel)⟩
theorem lw_p2 : lw_okq (⟨"java/lang/Throwable", "fillInStackTrace", "(I)Ljava/lang/Throwable;"⟩, 6) := ⟨⟨by decide +kernel, by decide +kernel⟩, List.mem_of_getElem? (i := 225) (by decide +kernel), List.mem_of_getElem? (i := 223) (by decide +kernel), List.mem_of_getElem? (i := 224) (by decide +kernel)⟩
theorem lw_p3 : lw_okq (⟨"TimeWords", "padMayBeName", "()Z"⟩, 8) := ⟨⟨by decide +kernel, by decide +kernel⟩, List.mem_of_getElem? (i := 26) (by decide +kernel), List.mem_of_getElem? (i := 282) (by decide +kernel), List.mem_of_getElem? (i := 283) (by decide +kernel)⟩
theorem lw_p4 : lw_okq (⟨"TimeWords", "nameFrom", "(I)I"⟩, 8) := ⟨⟨by decide +kernel, by decide +kernel⟩, List.mem_of_getElem? (i := 26) (by decide +kernel), List.mem_of_getElem? (i := 287) (by decide +kernel), List.mem_of_getElem? (i := 288) (by decide +kernel)⟩
theorem lw_p5 : lw_okq (⟨"java/util/ArrayList", "add", "(Ljava/lang/Object;[Ljava/lang/Object;I)V"⟩, 3) := ⟨⟨by decide +kernel, by decide +kernel⟩, List.mem_of_getElem? (i := 49) (by decide +kernel), List.mem_of_getElem? (i := 328) (by decide +kernel), List.mem_of_getElem? (i := 329) (by decide +kernel)⟩
theorem lw_p6 : lw_okq (⟨"java/util/ArrayList", "grow", "()[Ljava/lang/Object;"⟩, 3) := ⟨⟨by decide +kernel, by decide +kernel⟩, List.mem_of_getElem? (i := 49) (by decide +kernel), List.mem_of_getElem? (i := 332) (by decide +kernel), List.mem_of_getElem? (i := 333) (by decide +kernel)⟩
theorem lw_p7 : lw_okq (⟨"java/util/ArrayList", "grow", "(I)[Ljava/lang/Object;"⟩, 3) := ⟨⟨by decide +kernel, by decide +kernel⟩, List.mem_of_getElem? (i := 49) (by decide +kernel), List.mem_of_getElem? (i := 336) (by decide +kernel), List.mem_of_getElem? (i := 337) (by decide +kernel)⟩
theorem lw_p8 : lw_okq (⟨"TimeWords", "nameNumbered", "(I)LTimeWords$Name;"⟩, 8) := ⟨⟨by decide +kernel, by decide +kernel⟩, List.mem_of_getElem? (i := 26) (by decide +kernel), List.mem_of_getElem? (i := 387) (by decide +kernel), List.mem_of_getElem? (i := 388) (by decide +kernel)⟩
theorem lw_p9 : lw_okq (⟨"TimeWords", "checkRoomForSpan", "()V"⟩, 8) := ⟨⟨by decide +kernel, by decide +kernel⟩, List.mem_of_getElem? (i := 26) (by decide +kernel), List.mem_of_getElem? (i := 465) (by decide +kernel), List.mem_of_getElem? (i := 466) (by decide +kernel)⟩
theorem lw_p10 : lw_okq (⟨"TimeWords", "findWordFrom", "(IIII)Z"⟩, 8) := ⟨⟨by decide +kernel, by decide +kernel⟩, List.mem_of_getElem? (i := 26) (by decide +kernel), List.mem_of_getElem? (i := 470) (by decide +kernel), List.mem_of_getElem? (i := 471) (by decide +kernel)⟩
theorem lw_p11 : lw_okq (⟨"TimeWords", "beginningAt", "(I)I"⟩, 8) := ⟨⟨by decide +kernel, by decide +kernel⟩, List.mem_of_getElem? (i := 26) (by decide +kernel), List.mem_of_getElem? (i := 474) (by decide +kernel), List.mem_of_getElem? (i := 475) (by decide +kernel)⟩
theorem lw_p12 : lw_okq (⟨"TimeWords", "findCenturyFrom", "(I)Z"⟩, 8) := ⟨⟨by decide +kernel, by decide +kernel⟩, List.mem_of_getElem? (i := 26) (by decide +kernel), List.mem_of_getElem? (i := 538) (by decide +kernel), List.mem_of_getElem? (i := 539) (by decide +kernel)⟩
theorem lw_p13 : lw_okq (⟨"TimeWords", "findCentury", "(I)Z"⟩, 8) := ⟨⟨by decide +kernel, by decide +kernel⟩, List.mem_of_getElem? (i := 26) (by decide +kernel), List.mem_of_getElem? (i := 542) (by decide +kernel), List.mem_of_getElem? (i := 543) (by decide +kernel)⟩
theorem lw_p14 : lw_okq (⟨"TimeWords", "findNameFrom", "(III)Z"⟩, 8) := ⟨⟨by decide +kernel, by decide +kernel⟩, List.mem_of_getElem? (i := 26) (by decide +kernel), List.mem_of_getElem? (i := 550) (by decide +kernel), List.mem_of_getElem? (i := 551) (by decide +kernel)⟩
theorem lw_p15 : lw_okq (⟨"TimeWords", "findName", "(LTimeWords$Name;II)Z"⟩, 8) := ⟨⟨by decide +kernel, by decide +kernel⟩, List.mem_of_getElem? (i := 26) (by decide +kernel), List.mem_of_getElem? (i := 554) (by decide +kernel), List.mem_of_getElem? (i := 555) (by decide +kernel)⟩
def lw_privs_1 : List (MethodName × Nat) := [(⟨"TimeWords", "changesTo", "(LTimeWords$Row;)I"⟩, 8), (⟨"TimeWords", "changesWithSign", "(ILTimeWords$Row;)I"⟩, 8), (⟨"java/lang/Throwable", "fillInStackTrace", "(I)Ljava/lang/Throwable;"⟩, 6), (⟨"TimeWords", "padMayBeName", "()Z"⟩, 8), (⟨"TimeWords", "nameFrom", "(I)I"⟩, 8), (⟨"java/util/ArrayList", "add", "(Ljava/lang/Object;[Ljava/lang/Object;I)V"⟩, 3), (⟨"java/util/ArrayList", "grow", "()[Ljava/lang/Object;"⟩, 3), (⟨"java/util/ArrayList", "grow", "(I)[Ljava/lang/Object;"⟩, 3), (⟨"TimeWords", "nameNumbered", "(I)LTimeWords$Name;"⟩, 8), (⟨"TimeWords", "checkRoomForSpan", "()V"⟩, 8), (⟨"TimeWords", "findWordFrom", "(IIII)Z"⟩, 8), (⟨"TimeWords", "beginningAt", "(I)I"⟩, 8), (⟨"TimeWords", "findCenturyFrom", "(I)Z"⟩, 8), (⟨"TimeWords", "findCentury", "(I)Z"⟩, 8), (⟨"TimeWords", "findNameFrom", "(III)Z"⟩, 8), (⟨"TimeWords", "findName", "(LTimeWords$Name;II)Z"⟩, 8)]
theorem lw_r1 : ∀ q ∈ lw_privs_1, lw_okq q := List.forall_mem_cons.mpr ⟨lw_p0, List.forall_mem_cons.mpr ⟨lw_p1, List.forall_mem_cons.mpr ⟨lw_p2, List.forall_mem_cons.mpr ⟨lw_p3, List.forall_mem_cons.mpr ⟨lw_p4, List.forall_mem_cons.mpr ⟨lw_p5, List.forall_mem_cons.mpr ⟨lw_p6, List.forall_mem_cons.mpr ⟨lw_p7, List.forall_mem_cons.mpr ⟨lw_p8, List.forall_mem_cons.mpr ⟨lw_p9, List.forall_mem_cons.mpr ⟨lw_p10, List.forall_mem_cons.mpr ⟨lw_p11, List.forall_mem_cons.mpr ⟨lw_p12, List.forall_mem_cons.mpr ⟨lw_p13, List.forall_mem_cons.mpr ⟨lw_p14, List.forall_mem_cons.mpr ⟨lw_p15, fun _ h => absurd h List.not_mem_nil⟩⟩⟩⟩⟩⟩⟩⟩⟩⟩⟩⟩⟩⟩⟩⟩
theorem lw_p16 : lw_okq (⟨"TimeWords", "begin", "(I)Z"⟩, 8) := ⟨⟨by decide +kernel, by decide +kernel⟩, List.mem_of_getElem? (i := 26) (by decide +kernel), List.mem_of_getElem? (i := 570) (by decide +kernel), List.mem_of_getElem? (i := 571) (by decide +kernel)⟩
theorem lw_p17 : lw_okq (⟨"TimeWords", "keepFound", "()I"⟩, 8) := ⟨⟨by decide +kernel, by decide +kernel⟩, List.mem_of_getElem? (i := 26) (by decide +kernel), List.mem_of_getElem? (i := 600) (by decide +kernel), List.mem_of_getElem? (i := 601) (by decide +kernel)⟩
theorem lw_p18 : lw_okq (⟨"TimeWords", "spanNumbered", "(I)LTimeWords$Years;"⟩, 8) := ⟨⟨by decide +kernel, by decide +kernel⟩, List.mem_of_getElem? (i := 26) (by decide +kernel), List.mem_of_getElem? (i := 618) (by decide +kernel), List.mem_of_getElem? (i := 619) (by decide +kernel)⟩
theorem lw_p19 : lw_okq (⟨"TimeWords", "findShortest", "(LTimeWords$Years;)V"⟩, 8) := ⟨⟨by decide +kernel, by decide +kernel⟩, List.mem_of_getElem? (i := 26) (by decide +kernel), List.mem_of_getElem? (i := 684) (by decide +kernel), List.mem_of_getElem? (i := 685) (by decide +kernel)⟩
theorem lw_p20 : lw_okq (⟨"TimeWords", "tryCentury", "(LTimeWords$Years;II)V"⟩, 8) := ⟨⟨by decide +kernel, by decide +kernel⟩, List.mem_of_getElem? (i := 26) (by decide +kernel), List.mem_of_getElem? (i := 694) (by decide +kernel), List.mem_of_getElem? (i := 695) (by decide +kernel)⟩
theorem lw_p21 : lw_okq (⟨"TimeWords", "foundSays", "(LTimeWords$Years;)Z"⟩, 8) := ⟨⟨by decide +kernel, by decide +kernel⟩, List.mem_of_getElem? (i := 26) (by decide +kernel), List.mem_of_getElem? (i := 698) (by decide +kernel), List.mem_of_getElem? (i := 699) (by decide +kernel)⟩
theorem lw_p22 : lw_okq (⟨"TimeWords", "startTrial", "(LTimeWords$Years;)V"⟩, 8) := ⟨⟨by decide +kernel, by decide +kernel⟩, List.mem_of_getElem? (i := 26) (by decide +kernel), List.mem_of_getElem? (i := 702) (by decide +kernel), List.mem_of_getElem? (i := 703) (by decide +kernel)⟩
theorem lw_p23 : lw_okq (⟨"TimeWords", "keepShorter", "()V"⟩, 8) := ⟨⟨by decide +kernel, by decide +kernel⟩, List.mem_of_getElem? (i := 26) (by decide +kernel), List.mem_of_getElem? (i := 710) (by decide +kernel), List.mem_of_getElem? (i := 711) (by decide +kernel)⟩
theorem lw_p24 : lw_okq (⟨"TimeWords", "tryName", "(LTimeWords$Years;LTimeWords$Name;)V"⟩, 8) := ⟨⟨by decide +kernel, by decide +kernel⟩, List.mem_of_getElem? (i := 26) (by decide +kernel), List.mem_of_getElem? (i := 719) (by decide +kernel), List.mem_of_getElem? (i := 720) (by decide +kernel)⟩
theorem lw_p25 : lw_okq (⟨"TimeWordsModel", "fails", "(I)I"⟩, 28) := ⟨⟨by decide +kernel, by decide +kernel⟩, List.mem_of_getElem? (i := 764) (by decide +kernel), List.mem_of_getElem? (i := 873) (by decide +kernel), List.mem_of_getElem? (i := 874) (by decide +kernel)⟩
theorem lw_p26 : lw_okq (⟨"TimeWordsModel", "nameAt", "(I)I"⟩, 28) := ⟨⟨by decide +kernel, by decide +kernel⟩, List.mem_of_getElem? (i := 764) (by decide +kernel), List.mem_of_getElem? (i := 885) (by decide +kernel), List.mem_of_getElem? (i := 886) (by decide +kernel)⟩
theorem lw_p27 : lw_okq (⟨"TimeWordsModel", "isName", "(I)Z"⟩, 28) := ⟨⟨by decide +kernel, by decide +kernel⟩, List.mem_of_getElem? (i := 764) (by decide +kernel), List.mem_of_getElem? (i := 893) (by decide +kernel), List.mem_of_getElem? (i := 894) (by decide +kernel)⟩
theorem lw_p28 : lw_okq (⟨"TimeWordsModel", "isWord", "(II)Z"⟩, 28) := ⟨⟨by decide +kernel, by decide +kernel⟩, List.mem_of_getElem? (i := 764) (by decide +kernel), List.mem_of_getElem? (i := 913) (by decide +kernel), List.mem_of_getElem? (i := 914) (by decide +kernel)⟩
theorem lw_p29 : lw_okq (⟨"TimeWordsModel", "begins", "(II)Z"⟩, 28) := ⟨⟨by decide +kernel, by decide +kernel⟩, List.mem_of_getElem? (i := 764) (by decide +kernel), List.mem_of_getElem? (i := 917) (by decide +kernel), List.mem_of_getElem? (i := 918) (by decide +kernel)⟩
theorem lw_p30 : lw_okq (⟨"TimeWordsModel", "core", "(III)Z"⟩, 28) := ⟨⟨by decide +kernel, by decide +kernel⟩, List.mem_of_getElem? (i := 764) (by decide +kernel), List.mem_of_getElem? (i := 937) (by decide +kernel), List.mem_of_getElem? (i := 938) (by decide +kernel)⟩
theorem lw_p31 : lw_okq (⟨"TimeWordsModel", "set", "(II)V"⟩, 28) := ⟨⟨by decide +kernel, by decide +kernel⟩, List.mem_of_getElem? (i := 764) (by decide +kernel), List.mem_of_getElem? (i := 941) (by decide +kernel), List.mem_of_getElem? (i := 942) (by decide +kernel)⟩
def lw_privs_2 : List (MethodName × Nat) := [(⟨"TimeWords", "begin", "(I)Z"⟩, 8), (⟨"TimeWords", "keepFound", "()I"⟩, 8), (⟨"TimeWords", "spanNumbered", "(I)LTimeWords$Years;"⟩, 8), (⟨"TimeWords", "findShortest", "(LTimeWords$Years;)V"⟩, 8), (⟨"TimeWords", "tryCentury", "(LTimeWords$Years;II)V"⟩, 8), (⟨"TimeWords", "foundSays", "(LTimeWords$Years;)Z"⟩, 8), (⟨"TimeWords", "startTrial", "(LTimeWords$Years;)V"⟩, 8), (⟨"TimeWords", "keepShorter", "()V"⟩, 8), (⟨"TimeWords", "tryName", "(LTimeWords$Years;LTimeWords$Name;)V"⟩, 8), (⟨"TimeWordsModel", "fails", "(I)I"⟩, 28), (⟨"TimeWordsModel", "nameAt", "(I)I"⟩, 28), (⟨"TimeWordsModel", "isName", "(I)Z"⟩, 28), (⟨"TimeWordsModel", "isWord", "(II)Z"⟩, 28), (⟨"TimeWordsModel", "begins", "(II)Z"⟩, 28), (⟨"TimeWordsModel", "core", "(III)Z"⟩, 28), (⟨"TimeWordsModel", "set", "(II)V"⟩, 28)]
theorem lw_r2 : ∀ q ∈ lw_privs_2, lw_okq q := List.forall_mem_cons.mpr ⟨lw_p16, List.forall_mem_cons.mpr ⟨lw_p17, List.forall_mem_cons.mpr ⟨lw_p18, List.forall_mem_cons.mpr ⟨lw_p19, List.forall_mem_cons.mpr ⟨lw_p20, List.forall_mem_cons.mpr ⟨lw_p21, List.forall_mem_cons.mpr ⟨lw_p22, List.forall_mem_cons.mpr ⟨lw_p23, List.forall_mem_cons.mpr ⟨lw_p24, List.forall_mem_cons.mpr ⟨lw_p25, List.forall_mem_cons.mpr ⟨lw_p26, List.forall_mem_cons.mpr ⟨lw_p27, List.forall_mem_cons.mpr ⟨lw_p28, List.forall_mem_cons.mpr ⟨lw_p29, List.forall_mem_cons.mpr ⟨lw_p30, List.forall_mem_cons.mpr ⟨lw_p31, fun _ h => absurd h List.not_mem_nil⟩⟩⟩⟩⟩⟩⟩⟩⟩⟩⟩⟩⟩⟩⟩⟩
theorem lw_p32 : lw_okq (⟨"TimeWordsModel", "named", "(III)Z"⟩, 28) := ⟨⟨by decide +kernel, by decide +kernel⟩, List.mem_of_getElem? (i := 764) (by decide +kernel), List.mem_of_getElem? (i := 945) (by decide +kernel), List.mem_of_getElem? (i := 946) (by decide +kernel)⟩
theorem lw_p33 : lw_okq (⟨"TimeWordsModel", "makes", "(I)Z"⟩, 28) := ⟨⟨by decide +kernel, by decide +kernel⟩, List.mem_of_getElem? (i := 764) (by decide +kernel), List.mem_of_getElem? (i := 949) (by decide +kernel), List.mem_of_getElem? (i := 950) (by decide +kernel)⟩
theorem lw_p34 : lw_okq (⟨"TimeWordsModel", "make", "()I"⟩, 28) := ⟨⟨by decide +kernel, by decide +kernel⟩, List.mem_of_getElem? (i := 764) (by decide +kernel), List.mem_of_getElem? (i := 953) (by decide +kernel), List.mem_of_getElem? (i := 954) (by decide +kernel)⟩
theorem lw_p35 : lw_okq (⟨"TimeWordsModel", "isSpan", "(I)Z"⟩, 28) := ⟨⟨by decide +kernel, by decide +kernel⟩, List.mem_of_getElem? (i := 764) (by decide +kernel), List.mem_of_getElem? (i := 965) (by decide +kernel), List.mem_of_getElem? (i := 966) (by decide +kernel)⟩
theorem lw_p36 : lw_okq (⟨"TimeWordsModel", "isOpen", "(II)Z"⟩, 28) := ⟨⟨by decide +kernel, by decide +kernel⟩, List.mem_of_getElem? (i := 764) (by decide +kernel), List.mem_of_getElem? (i := 969) (by decide +kernel), List.mem_of_getElem? (i := 970) (by decide +kernel)⟩
theorem lw_p37 : lw_okq (⟨"TimeWordsModel", "lowest", "(I)I"⟩, 28) := ⟨⟨by decide +kernel, by decide +kernel⟩, List.mem_of_getElem? (i := 764) (by decide +kernel), List.mem_of_getElem? (i := 985) (by decide +kernel), List.mem_of_getElem? (i := 986) (by decide +kernel)⟩
theorem lw_p38 : lw_okq (⟨"TimeWordsModel", "highest", "(I)I"⟩, 28) := ⟨⟨by decide +kernel, by decide +kernel⟩, List.mem_of_getElem? (i := 764) (by decide +kernel), List.mem_of_getElem? (i := 989) (by decide +kernel), List.mem_of_getElem? (i := 990) (by decide +kernel)⟩
theorem lw_p39 : lw_okq (⟨"TimeWordsModel", "tries", "(IIII)V"⟩, 28) := ⟨⟨by decide +kernel, by decide +kernel⟩, List.mem_of_getElem? (i := 764) (by decide +kernel), List.mem_of_getElem? (i := 1004) (by decide +kernel), List.mem_of_getElem? (i := 1005) (by decide +kernel)⟩
theorem lw_p40 : lw_okq (⟨"TimeWordsModel", "says", "(II)Z"⟩, 28) := ⟨⟨by decide +kernel, by decide +kernel⟩, List.mem_of_getElem? (i := 764) (by decide +kernel), List.mem_of_getElem? (i := 1008) (by decide +kernel), List.mem_of_getElem? (i := 1009) (by decide +kernel)⟩
theorem lw_p41 : lw_okq (⟨"TimeWordsModel", "putWord", "(J)V"⟩, 28) := ⟨⟨by decide +kernel, by decide +kernel⟩, List.mem_of_getElem? (i := 764) (by decide +kernel), List.mem_of_getElem? (i := 1012) (by decide +kernel), List.mem_of_getElem? (i := 1013) (by decide +kernel)⟩
theorem lw_p42 : lw_okq (⟨"TimeWordsModel", "put", "(I)V"⟩, 28) := ⟨⟨by decide +kernel, by decide +kernel⟩, List.mem_of_getElem? (i := 764) (by decide +kernel), List.mem_of_getElem? (i := 1016) (by decide +kernel), List.mem_of_getElem? (i := 1017) (by decide +kernel)⟩
theorem lw_p43 : lw_okq (⟨"TimeWordsModel", "isBetter", "()Z"⟩, 28) := ⟨⟨by decide +kernel, by decide +kernel⟩, List.mem_of_getElem? (i := 764) (by decide +kernel), List.mem_of_getElem? (i := 1020) (by decide +kernel), List.mem_of_getElem? (i := 1021) (by decide +kernel)⟩
theorem lw_p44 : lw_okq (⟨"TimeWordsModel", "far", "(I)I"⟩, 28) := ⟨⟨by decide +kernel, by decide +kernel⟩, List.mem_of_getElem? (i := 764) (by decide +kernel), List.mem_of_getElem? (i := 1028) (by decide +kernel), List.mem_of_getElem? (i := 1029) (by decide +kernel)⟩
def lw_privs_3 : List (MethodName × Nat) := [(⟨"TimeWordsModel", "named", "(III)Z"⟩, 28), (⟨"TimeWordsModel", "makes", "(I)Z"⟩, 28), (⟨"TimeWordsModel", "make", "()I"⟩, 28), (⟨"TimeWordsModel", "isSpan", "(I)Z"⟩, 28), (⟨"TimeWordsModel", "isOpen", "(II)Z"⟩, 28), (⟨"TimeWordsModel", "lowest", "(I)I"⟩, 28), (⟨"TimeWordsModel", "highest", "(I)I"⟩, 28), (⟨"TimeWordsModel", "tries", "(IIII)V"⟩, 28), (⟨"TimeWordsModel", "says", "(II)Z"⟩, 28), (⟨"TimeWordsModel", "putWord", "(J)V"⟩, 28), (⟨"TimeWordsModel", "put", "(I)V"⟩, 28), (⟨"TimeWordsModel", "isBetter", "()Z"⟩, 28), (⟨"TimeWordsModel", "far", "(I)I"⟩, 28)]
theorem lw_r3 : ∀ q ∈ lw_privs_3, lw_okq q := List.forall_mem_cons.mpr ⟨lw_p32, List.forall_mem_cons.mpr ⟨lw_p33, List.forall_mem_cons.mpr ⟨lw_p34, List.forall_mem_cons.mpr ⟨lw_p35, List.forall_mem_cons.mpr ⟨lw_p36, List.forall_mem_cons.mpr ⟨lw_p37, List.forall_mem_cons.mpr ⟨lw_p38, List.forall_mem_cons.mpr ⟨lw_p39, List.forall_mem_cons.mpr ⟨lw_p40, List.forall_mem_cons.mpr ⟨lw_p41, List.forall_mem_cons.mpr ⟨lw_p42, List.forall_mem_cons.mpr ⟨lw_p43, List.forall_mem_cons.mpr ⟨lw_p44, fun _ h => absurd h List.not_mem_nil⟩⟩⟩⟩⟩⟩⟩⟩⟩⟩⟩⟩⟩
def lw_privs : List (MethodName × Nat) := lw_privs_1 ++ (lw_privs_2 ++ (lw_privs_3))
def lw_tbl : List Cond := k2_sels lw_privs ++ tables_1
theorem lw_privs_ok : ∀ q ∈ lw_privs, lw_okq q := by
  show ∀ q ∈ lw_privs_1 ++ (lw_privs_2 ++ (lw_privs_3)), lw_okq q
  exact List.forall_mem_append.mpr ⟨lw_r1, List.forall_mem_append.mpr ⟨lw_r2, lw_r3⟩⟩
/-- the good words of the claim's tables: one list of words for every method -/
def bg_W : List Cond := lw_tbl.filter goodWord
theorem bg_t (k : Nat) {w : Cond} (h : tables_1[k]? = some w) (g : goodWord w = true) : w ∈ bg_W := List.mem_filter.mpr ⟨List.mem_append_right _ (List.mem_of_getElem? h), g⟩
theorem bg_s (k : Nat) {q : MethodName × Nat} (h : lw_privs[k]? = some q) (g : goodWord (Cond.selects q.1.cls q.1 q.1) = true) : Cond.selects q.1.cls q.1 q.1 ∈ bg_W :=
  List.mem_filter.mpr ⟨List.mem_append_left _ (List.mem_map.mpr ⟨q, List.mem_of_getElem? h, rfl⟩), g⟩
theorem bg_L : ∀ w ∈ bg_W, w ∈ lw_tbl := fun _ h => (List.mem_filter.mp h).1
theorem bg_G {ws : List Cond} (h : ∀ w ∈ ws, w ∈ bg_W) : GoodIn bg_W ws := fun w hw => ⟨h w hw, good_of_word (List.mem_filter.mp (h w hw)).2⟩
theorem bg_c {y : MethodName} {b : ByteArray} {n : Nat} {r : Option FieldType} (h : Cond.code y b n r ∈ bg_W) : GoodIn bg_W (Cond.code y b n r :: bg_W) := bg_G (List.forall_mem_cons.mpr ⟨h, fun _ h => h⟩)
theorem bg_V {own C : String} {i n : Nat} {y : MethodName} {b : ByteArray} {r : Option FieldType} (h1 : Cond.methodLink own i y ∈ bg_W) (h2 : Cond.instanceMethod y ∈ bg_W) (h3 : Cond.selects C y y ∈ bg_W) (h4 : Cond.initialized C ∈ bg_W) (h5 : Cond.code y b n r ∈ bg_W) : GoodIn bg_W (wsV own i C y (Cond.code y b n r :: bg_W)) :=
  bg_G (List.forall_mem_append.mpr ⟨List.forall_mem_cons.mpr ⟨h1, List.forall_mem_cons.mpr ⟨h2, List.forall_mem_cons.mpr ⟨h3, List.forall_mem_cons.mpr ⟨h4, fun _ h => absurd h List.not_mem_nil⟩⟩⟩⟩, List.forall_mem_cons.mpr ⟨h5, fun _ h => h⟩⟩)
theorem bg_S {own : String} {i n : Nat} {y : MethodName} {b : ByteArray} {r : Option FieldType} (h1 : Cond.methodLink own i y ∈ bg_W) (h2 : Cond.static y ∈ bg_W) (h4 : Cond.initialized y.cls ∈ bg_W) (h5 : Cond.code y b n r ∈ bg_W) : GoodIn bg_W (va_wsS own i y (Cond.code y b n r :: bg_W)) :=
  bg_G (List.forall_mem_append.mpr ⟨List.forall_mem_cons.mpr ⟨h1, List.forall_mem_cons.mpr ⟨h2, List.forall_mem_cons.mpr ⟨h4, fun _ h => absurd h List.not_mem_nil⟩⟩⟩, List.forall_mem_cons.mpr ⟨h5, fun _ h => h⟩⟩)
abbrev b_T_init : ByteArray := prog_1_method_1_code
abbrev y_T_init : MethodName := ⟨"TimeWords", "<init>", "()V"⟩
abbrev b_OB_init : ByteArray := object_method_1_code
abbrev y_OB_init : MethodName := ⟨"java/lang/Object", "<init>", "()V"⟩
abbrev b_R_init : ByteArray := prog_4_method_1_code
abbrev y_R_init : MethodName := ⟨"TimeWords$Row", "<init>", "(I)V"⟩
abbrev b_A_init : ByteArray := prog_24_method_2_code
abbrev y_A_init : MethodName := ⟨"java/util/ArrayList", "<init>", "()V"⟩
abbrev b_AL_init : ByteArray := prog_23_method_1_code
abbrev y_AL_init : MethodName := ⟨"java/util/AbstractList", "<init>", "()V"⟩
abbrev b_AC_init : ByteArray := prog_22_method_1_code
abbrev y_AC_init : MethodName := ⟨"java/util/AbstractCollection", "<init>", "()V"⟩
abbrev b_Y_init : ByteArray := prog_5_method_1_code
abbrev y_Y_init : MethodName := ⟨"TimeWords$Years", "<init>", "(II)V"⟩
abbrev b_T_clear : ByteArray := prog_1_method_3_code
abbrev y_T_clear : MethodName := ⟨"TimeWords", "clear", "()I"⟩
abbrev b_R_empty : ByteArray := prog_4_method_3_code
abbrev y_R_empty : MethodName := ⟨"TimeWords$Row", "empty", "()V"⟩
abbrev b_T_near : ByteArray := prog_1_method_16_code
abbrev y_T_near : MethodName := ⟨"TimeWords", "near", "()I"⟩
abbrev b_A_size : ByteArray := prog_24_method_8_code
abbrev y_A_size : MethodName := ⟨"java/util/ArrayList", "size", "()I"⟩
abbrev b_A_get : ByteArray := prog_24_method_20_code
abbrev y_A_get : MethodName := ⟨"java/util/ArrayList", "get", "(I)Ljava/lang/Object;"⟩
abbrev b_O_checkIndex : ByteArray := prog_28_method_17_code
abbrev y_O_checkIndex : MethodName := ⟨"java/util/Objects", "checkIndex", "(II)I"⟩
abbrev b_PC_checkIndex : ByteArray := prog_32_method_11_code
abbrev y_PC_checkIndex : MethodName := ⟨"jdk/internal/util/Preconditions", "checkIndex", "(IILjava/util/function/BiFunction;)I"⟩
abbrev b_A_elementData : ByteArray := prog_24_method_18_code
abbrev y_A_elementData : MethodName := ⟨"java/util/ArrayList", "elementData", "(I)Ljava/lang/Object;"⟩
abbrev b_T_changesTo : ByteArray := prog_1_method_49_code
abbrev y_T_changesTo : MethodName := ⟨"TimeWords", "changesTo", "(LTimeWords$Row;)I"⟩
abbrev b_T_changesWithSign : ByteArray := prog_1_method_50_code
abbrev y_T_changesWithSign : MethodName := ⟨"TimeWords", "changesWithSign", "(ILTimeWords$Row;)I"⟩
abbrev b_R_at : ByteArray := prog_4_method_2_code
abbrev y_R_at : MethodName := ⟨"TimeWords$Row", "at", "(I)I"⟩
abbrev b_MA_min : ByteArray := prog_15_method_69_code
abbrev y_MA_min : MethodName := ⟨"java/lang/Math", "min", "(II)I"⟩
abbrev b_L_unit : ByteArray := method_3_code
abbrev y_L_unit : MethodName := ⟨"TimeWordsLaw", "unit", "(LTimeWords;I[J)I"⟩
abbrev b_T_unit : ByteArray := prog_1_method_2_code
abbrev y_T_unit : MethodName := ⟨"TimeWords", "unit", "(I)I"⟩
abbrev b_T_isSign : ByteArray := prog_1_method_28_code
abbrev y_T_isSign : MethodName := ⟨"TimeWords", "isSign", "(I)Z"⟩
abbrev b_T_isLetter : ByteArray := prog_1_method_29_code
abbrev y_T_isLetter : MethodName := ⟨"TimeWords", "isLetter", "(I)Z"⟩
abbrev b_T_isDigit : ByteArray := prog_1_method_30_code
abbrev y_T_isDigit : MethodName := ⟨"TimeWords", "isDigit", "(I)Z"⟩
abbrev b_R_add : ByteArray := prog_4_method_4_code
abbrev y_R_add : MethodName := ⟨"TimeWords$Row", "add", "(I)V"⟩
abbrev b_L_name : ByteArray := method_4_code
abbrev y_L_name : MethodName := ⟨"TimeWordsLaw", "name", "(LTimeWords;[J)I"⟩
abbrev b_T_name : ByteArray := prog_1_method_4_code
abbrev y_T_name : MethodName := ⟨"TimeWords", "name", "()I"⟩
abbrev b_T_padMayBeName : ByteArray := prog_1_method_31_code
abbrev y_T_padMayBeName : MethodName := ⟨"TimeWords", "padMayBeName", "()Z"⟩
abbrev b_T_nameFrom : ByteArray := prog_1_method_32_code
abbrev y_T_nameFrom : MethodName := ⟨"TimeWords", "nameFrom", "(I)I"⟩
abbrev b_R_endsWith : ByteArray := prog_4_method_8_code
abbrev y_R_endsWith : MethodName := ⟨"TimeWords$Row", "endsWith", "(ILTimeWords$Row;)Z"⟩
abbrev b_N_init : ByteArray := prog_2_method_1_code
abbrev y_N_init : MethodName := ⟨"TimeWords$Name", "<init>", "(LTimeWords$Row;)V"⟩
abbrev b_R_addRow : ByteArray := prog_4_method_6_code
abbrev y_R_addRow : MethodName := ⟨"TimeWords$Row", "addRow", "(LTimeWords$Row;)V"⟩
abbrev b_A_add_0 : ByteArray := prog_24_method_25_code
abbrev y_A_add_0 : MethodName := ⟨"java/util/ArrayList", "add", "(Ljava/lang/Object;)Z"⟩
abbrev b_A_add_1 : ByteArray := prog_24_method_24_code
abbrev y_A_add_1 : MethodName := ⟨"java/util/ArrayList", "add", "(Ljava/lang/Object;[Ljava/lang/Object;I)V"⟩
abbrev b_A_grow_0 : ByteArray := prog_24_method_7_code
abbrev y_A_grow_0 : MethodName := ⟨"java/util/ArrayList", "grow", "()[Ljava/lang/Object;"⟩
abbrev b_A_grow_1 : ByteArray := prog_24_method_6_code
abbrev y_A_grow_1 : MethodName := ⟨"java/util/ArrayList", "grow", "(I)[Ljava/lang/Object;"⟩
abbrev b_AS_newLength : ByteArray := prog_31_method_27_code
abbrev y_AS_newLength : MethodName := ⟨"jdk/internal/util/ArraysSupport", "newLength", "(III)I"⟩
abbrev b_MA_max : ByteArray := prog_15_method_65_code
abbrev y_MA_max : MethodName := ⟨"java/lang/Math", "max", "(II)I"⟩
abbrev b_AS_hugeLength : ByteArray := prog_31_method_28_code
abbrev y_AS_hugeLength : MethodName := ⟨"jdk/internal/util/ArraysSupport", "hugeLength", "(II)I"⟩
abbrev b_AR_copyOf_0 : ByteArray := prog_25_method_119_code
abbrev y_AR_copyOf_0 : MethodName := ⟨"java/util/Arrays", "copyOf", "([Ljava/lang/Object;I)[Ljava/lang/Object;"⟩
abbrev b_AR_copyOf_1 : ByteArray := prog_25_method_120_code
abbrev y_AR_copyOf_1 : MethodName := ⟨"java/util/Arrays", "copyOf", "([Ljava/lang/Object;ILjava/lang/Class;)[Ljava/lang/Object;"⟩
abbrev b_L_reign : ByteArray := method_5_code
abbrev y_L_reign : MethodName := ⟨"TimeWordsLaw", "reign", "(LTimeWords;III[J)I"⟩
abbrev b_T_reign : ByteArray := prog_1_method_5_code
abbrev y_T_reign : MethodName := ⟨"TimeWords", "reign", "(III)Z"⟩
abbrev b_T_nameNumbered : ByteArray := prog_1_method_20_code
abbrev y_T_nameNumbered : MethodName := ⟨"TimeWords", "nameNumbered", "(I)LTimeWords$Name;"⟩
abbrev b_T_checkYears : ByteArray := prog_1_method_25_code
abbrev y_T_checkYears : MethodName := ⟨"TimeWords", "checkYears", "(II)V"⟩
abbrev b_T_isYear : ByteArray := prog_1_method_27_code
abbrev y_T_isYear : MethodName := ⟨"TimeWords", "isYear", "(I)Z"⟩
abbrev b_L_phase : ByteArray := method_6_code
abbrev y_L_phase : MethodName := ⟨"TimeWordsLaw", "phase", "(LTimeWords;IIIII[J)I"⟩
abbrev b_T_phase : ByteArray := prog_1_method_6_code
abbrev y_T_phase : MethodName := ⟨"TimeWords", "phase", "(IIIII)I"⟩
abbrev b_T_checkPlace : ByteArray := prog_1_method_23_code
abbrev y_T_checkPlace : MethodName := ⟨"TimeWords", "checkPlace", "(I)V"⟩
abbrev b_T_checkDay : ByteArray := prog_1_method_26_code
abbrev y_T_checkDay : MethodName := ⟨"TimeWords", "checkDay", "(I)V"⟩
abbrev b_P_init : ByteArray := prog_3_method_1_code
abbrev y_P_init : MethodName := ⟨"TimeWords$Phase", "<init>", "(IILTimeWords$Years;)V"⟩
abbrev b_L_width : ByteArray := method_7_code
abbrev y_L_width : MethodName := ⟨"TimeWordsLaw", "width", "(LTimeWords;I[J)I"⟩
abbrev b_T_width : ByteArray := prog_1_method_7_code
abbrev y_T_width : MethodName := ⟨"TimeWords", "width", "(I)I"⟩
abbrev b_L_read : ByteArray := method_8_code
abbrev y_L_read : MethodName := ⟨"TimeWordsLaw", "read", "(LTimeWords;II[J)I"⟩
abbrev b_T_read : ByteArray := prog_1_method_8_code
abbrev y_T_read : MethodName := ⟨"TimeWords", "read", "(II)I"⟩
abbrev b_T_checkRoomForSpan : ByteArray := prog_1_method_22_code
abbrev y_T_checkRoomForSpan : MethodName := ⟨"TimeWords", "checkRoomForSpan", "()V"⟩
abbrev b_T_findWordFrom : ByteArray := prog_1_method_34_code
abbrev y_T_findWordFrom : MethodName := ⟨"TimeWords", "findWordFrom", "(IIII)Z"⟩
abbrev b_T_beginningAt : ByteArray := prog_1_method_35_code
abbrev y_T_beginningAt : MethodName := ⟨"TimeWords", "beginningAt", "(I)I"⟩
abbrev b_T_beginning : ByteArray := prog_1_method_36_code
abbrev y_T_beginning : MethodName := ⟨"TimeWords", "beginning", "(I)Ljava/lang/String;"⟩
abbrev b_R_holds : ByteArray := prog_4_method_7_code
abbrev y_R_holds : MethodName := ⟨"TimeWords$Row", "holds", "(ILjava/lang/String;)Z"⟩
abbrev b_S_length : ByteArray := prog_17_method_54_code
abbrev y_S_length : MethodName := ⟨"java/lang/String", "length", "()I"⟩
abbrev b_S_coder : ByteArray := prog_17_method_152_code
abbrev y_S_coder : MethodName := ⟨"java/lang/String", "coder", "()B"⟩
abbrev b_S_charAt : ByteArray := prog_17_method_56_code
abbrev y_S_charAt : MethodName := ⟨"java/lang/String", "charAt", "(I)C"⟩
abbrev b_S_isLatin1 : ByteArray := prog_17_method_154_code
abbrev y_S_isLatin1 : MethodName := ⟨"java/lang/String", "isLatin1", "()Z"⟩
abbrev b_SL_charAt : ByteArray := prog_18_method_2_code
abbrev y_SL_charAt : MethodName := ⟨"java/lang/StringLatin1", "charAt", "([BI)C"⟩
abbrev b_S_checkIndex : ByteArray := prog_17_method_155_code
abbrev y_S_checkIndex : MethodName := ⟨"java/lang/String", "checkIndex", "(II)V"⟩
abbrev b_SU_charAt : ByteArray := prog_19_method_83_code
abbrev y_SU_charAt : MethodName := ⟨"java/lang/StringUTF16", "charAt", "([BI)C"⟩
abbrev b_SU_checkIndex : ByteArray := prog_19_method_91_code
abbrev y_SU_checkIndex : MethodName := ⟨"java/lang/StringUTF16", "checkIndex", "(I[B)V"⟩
abbrev b_SU_length : ByteArray := prog_19_method_6_code
abbrev y_SU_length : MethodName := ⟨"java/lang/StringUTF16", "length", "([B)I"⟩
abbrev b_SU_getChar : ByteArray := prog_19_method_5_code
abbrev y_SU_getChar : MethodName := ⟨"java/lang/StringUTF16", "getChar", "([BI)C"⟩
abbrev b_T_findCenturyFrom : ByteArray := prog_1_method_38_code
abbrev y_T_findCenturyFrom : MethodName := ⟨"TimeWords", "findCenturyFrom", "(I)Z"⟩
abbrev b_T_findCentury : ByteArray := prog_1_method_39_code
abbrev y_T_findCentury : MethodName := ⟨"TimeWords", "findCentury", "(I)Z"⟩
abbrev b_Y_become : ByteArray := prog_5_method_2_code
abbrev y_Y_become : MethodName := ⟨"TimeWords$Years", "become", "(II)V"⟩
abbrev b_T_findNameFrom : ByteArray := prog_1_method_40_code
abbrev y_T_findNameFrom : MethodName := ⟨"TimeWords", "findNameFrom", "(III)Z"⟩
abbrev b_T_findName : ByteArray := prog_1_method_41_code
abbrev y_T_findName : MethodName := ⟨"TimeWords", "findName", "(LTimeWords$Name;II)Z"⟩
abbrev b_N_yearsAt : ByteArray := prog_2_method_2_code
abbrev y_N_yearsAt : MethodName := ⟨"TimeWords$Name", "yearsAt", "(II)LTimeWords$Years;"⟩
abbrev b_Y_copyOf : ByteArray := prog_5_method_3_code
abbrev y_Y_copyOf : MethodName := ⟨"TimeWords$Years", "copyOf", "(LTimeWords$Years;)V"⟩
abbrev b_T_begin : ByteArray := prog_1_method_37_code
abbrev y_T_begin : MethodName := ⟨"TimeWords", "begin", "(I)Z"⟩
abbrev b_Y_widen : ByteArray := prog_5_method_9_code
abbrev y_Y_widen : MethodName := ⟨"TimeWords$Years", "widen", "(I)Z"⟩
abbrev b_Y_isOpen : ByteArray := prog_5_method_4_code
abbrev y_Y_isOpen : MethodName := ⟨"TimeWords$Years", "isOpen", "()Z"⟩
abbrev b_Y_turnBefore : ByteArray := prog_5_method_10_code
abbrev y_Y_turnBefore : MethodName := ⟨"TimeWords$Years", "turnBefore", "()Z"⟩
abbrev b_Y_turnAfter : ByteArray := prog_5_method_11_code
abbrev y_Y_turnAfter : MethodName := ⟨"TimeWords$Years", "turnAfter", "()Z"⟩
abbrev b_Y_takeThird : ByteArray := prog_5_method_8_code
abbrev y_Y_takeThird : MethodName := ⟨"TimeWords$Years", "takeThird", "(I)Z"⟩
abbrev b_Y_length : ByteArray := prog_5_method_6_code
abbrev y_Y_length : MethodName := ⟨"TimeWords$Years", "length", "()I"⟩
abbrev b_T_keepFound : ByteArray := prog_1_method_33_code
abbrev y_T_keepFound : MethodName := ⟨"TimeWords", "keepFound", "()I"⟩
abbrev b_L_span : ByteArray := method_9_code
abbrev y_L_span : MethodName := ⟨"TimeWordsLaw", "span", "(LTimeWords;II[J)I"⟩
abbrev b_T_span : ByteArray := prog_1_method_9_code
abbrev y_T_span : MethodName := ⟨"TimeWords", "span", "(II)I"⟩
abbrev b_L_end : ByteArray := method_10_code
abbrev y_L_end : MethodName := ⟨"TimeWordsLaw", "end", "(LTimeWords;II[J)I"⟩
abbrev b_T_end : ByteArray := prog_1_method_10_code
abbrev y_T_end : MethodName := ⟨"TimeWords", "end", "(II)I"⟩
abbrev b_T_spanNumbered : ByteArray := prog_1_method_21_code
abbrev y_T_spanNumbered : MethodName := ⟨"TimeWords", "spanNumbered", "(I)LTimeWords$Years;"⟩
abbrev b_T_checkEnd : ByteArray := prog_1_method_24_code
abbrev y_T_checkEnd : MethodName := ⟨"TimeWords", "checkEnd", "(I)V"⟩
abbrev b_Y_isOpenAt : ByteArray := prog_5_method_5_code
abbrev y_Y_isOpenAt : MethodName := ⟨"TimeWords$Years", "isOpenAt", "(I)Z"⟩
abbrev b_L_open : ByteArray := method_11_code
abbrev y_L_open : MethodName := ⟨"TimeWordsLaw", "open", "(LTimeWords;II[J)I"⟩
abbrev b_T_open : ByteArray := prog_1_method_11_code
abbrev y_T_open : MethodName := ⟨"TimeWords", "open", "(II)Z"⟩
abbrev b_L_join : ByteArray := method_12_code
abbrev y_L_join : MethodName := ⟨"TimeWordsLaw", "join", "(LTimeWords;II[J)I"⟩
abbrev b_T_join : ByteArray := prog_1_method_12_code
abbrev y_T_join : MethodName := ⟨"TimeWords", "join", "(II)I"⟩
abbrev b_Y_growTo : ByteArray := prog_5_method_7_code
abbrev y_Y_growTo : MethodName := ⟨"TimeWords$Years", "growTo", "(LTimeWords$Years;)V"⟩
abbrev b_L_relations : ByteArray := method_13_code
abbrev y_L_relations : MethodName := ⟨"TimeWordsLaw", "relations", "(LTimeWords;II[J)I"⟩
abbrev b_T_relations : ByteArray := prog_1_method_13_code
abbrev y_T_relations : MethodName := ⟨"TimeWords", "relations", "(II)I"⟩
abbrev b_T_relationsAhead : ByteArray := prog_1_method_52_code
abbrev y_T_relationsAhead : MethodName := ⟨"TimeWords", "relationsAhead", "(LTimeWords$Years;LTimeWords$Years;)I"⟩
abbrev b_T_relationsOfSharing : ByteArray := prog_1_method_53_code
abbrev y_T_relationsOfSharing : MethodName := ⟨"TimeWords", "relationsOfSharing", "(LTimeWords$Years;LTimeWords$Years;)I"⟩
abbrev b_L_relation : ByteArray := method_14_code
abbrev y_L_relation : MethodName := ⟨"TimeWordsLaw", "relation", "(LTimeWords;II[J)I"⟩
abbrev b_T_relation : ByteArray := prog_1_method_14_code
abbrev y_T_relation : MethodName := ⟨"TimeWords", "relation", "(II)I"⟩
abbrev b_T_relationOf : ByteArray := prog_1_method_51_code
abbrev y_T_relationOf : MethodName := ⟨"TimeWords", "relationOf", "(LTimeWords$Years;LTimeWords$Years;)I"⟩
abbrev b_L_word : ByteArray := method_15_code
abbrev y_L_word : MethodName := ⟨"TimeWordsLaw", "word", "(LTimeWords;II[J)I"⟩
abbrev b_T_word : ByteArray := prog_1_method_15_code
abbrev y_T_word : MethodName := ⟨"TimeWords", "word", "(II)I"⟩
abbrev b_T_findShortest : ByteArray := prog_1_method_42_code
abbrev y_T_findShortest : MethodName := ⟨"TimeWords", "findShortest", "(LTimeWords$Years;)V"⟩
abbrev b_T_yearSaid : ByteArray := prog_1_method_43_code
abbrev y_T_yearSaid : MethodName := ⟨"TimeWords", "yearSaid", "(LTimeWords$Years;)I"⟩
abbrev b_MA_floorDiv : ByteArray := prog_15_method_47_code
abbrev y_MA_floorDiv : MethodName := ⟨"java/lang/Math", "floorDiv", "(II)I"⟩
abbrev b_T_tryCentury : ByteArray := prog_1_method_44_code
abbrev y_T_tryCentury : MethodName := ⟨"TimeWords", "tryCentury", "(LTimeWords$Years;II)V"⟩
abbrev b_T_foundSays : ByteArray := prog_1_method_46_code
abbrev y_T_foundSays : MethodName := ⟨"TimeWords", "foundSays", "(LTimeWords$Years;)Z"⟩
abbrev b_T_startTrial : ByteArray := prog_1_method_47_code
abbrev y_T_startTrial : MethodName := ⟨"TimeWords", "startTrial", "(LTimeWords$Years;)V"⟩
abbrev b_R_addText : ByteArray := prog_4_method_5_code
abbrev y_R_addText : MethodName := ⟨"TimeWords$Row", "addText", "(Ljava/lang/String;)V"⟩
abbrev b_T_keepShorter : ByteArray := prog_1_method_48_code
abbrev y_T_keepShorter : MethodName := ⟨"TimeWords", "keepShorter", "()V"⟩
abbrev b_R_isAheadOf : ByteArray := prog_4_method_9_code
abbrev y_R_isAheadOf : MethodName := ⟨"TimeWords$Row", "isAheadOf", "(LTimeWords$Row;)Z"⟩
abbrev b_T_tryName : ByteArray := prog_1_method_45_code
abbrev y_T_tryName : MethodName := ⟨"TimeWords", "tryName", "(LTimeWords$Years;LTimeWords$Name;)V"⟩
abbrev b_L_feast : ByteArray := method_16_code
abbrev y_L_feast : MethodName := ⟨"TimeWordsLaw", "feast", "(LTimeWords;IIII[J)I"⟩
abbrev b_T_feast : ByteArray := prog_1_method_17_code
abbrev y_T_feast : MethodName := ⟨"TimeWords", "feast", "(IIII)I"⟩
abbrev b_T_daysIn : ByteArray := prog_1_method_55_code
abbrev y_T_daysIn : MethodName := ⟨"TimeWords", "daysIn", "(II)I"⟩
abbrev b_T_isLeapYear : ByteArray := prog_1_method_54_code
abbrev y_T_isLeapYear : MethodName := ⟨"TimeWords", "isLeapYear", "(I)Z"⟩
abbrev b_T_firstWeekday : ByteArray := prog_1_method_56_code
abbrev y_T_firstWeekday : MethodName := ⟨"TimeWords", "firstWeekday", "(II)I"⟩
abbrev b_MA_floorMod : ByteArray := prog_15_method_50_code
abbrev y_MA_floorMod : MethodName := ⟨"java/lang/Math", "floorMod", "(II)I"⟩
abbrev b_L_regnal : ByteArray := method_17_code
abbrev y_L_regnal : MethodName := ⟨"TimeWordsLaw", "regnal", "(LTimeWords;II[J)I"⟩
abbrev b_T_regnal : ByteArray := prog_1_method_18_code
abbrev y_T_regnal : MethodName := ⟨"TimeWords", "regnal", "(II)I"⟩
abbrev b_L_count : ByteArray := method_18_code
abbrev y_L_count : MethodName := ⟨"TimeWordsLaw", "count", "(LTimeWords;I[J)I"⟩
abbrev b_T_count : ByteArray := prog_1_method_19_code
abbrev y_T_count : MethodName := ⟨"TimeWords", "count", "(I)I"⟩
abbrev b_M_init : ByteArray := prog_7_method_1_code
abbrev y_M_init : MethodName := ⟨"TimeWordsModel", "<init>", "()V"⟩
abbrev b_M_thrown : ByteArray := prog_7_method_2_code
abbrev y_M_thrown : MethodName := ⟨"TimeWordsModel", "thrown", "()I"⟩
abbrev b_M_unit : ByteArray := prog_7_method_10_code
abbrev y_M_unit : MethodName := ⟨"TimeWordsModel", "unit", "(I)I"⟩
abbrev b_M_isLetter : ByteArray := prog_7_method_6_code
abbrev y_M_isLetter : MethodName := ⟨"TimeWordsModel", "isLetter", "(I)Z"⟩
abbrev b_M_in : ByteArray := prog_7_method_4_code
abbrev y_M_in : MethodName := ⟨"TimeWordsModel", "in", "(III)Z"⟩
abbrev b_M_isDigit : ByteArray := prog_7_method_7_code
abbrev y_M_isDigit : MethodName := ⟨"TimeWordsModel", "isDigit", "(I)Z"⟩
abbrev b_M_fails : ByteArray := prog_7_method_3_code
abbrev y_M_fails : MethodName := ⟨"TimeWordsModel", "fails", "(I)I"⟩
abbrev b_M_clear : ByteArray := prog_7_method_11_code
abbrev y_M_clear : MethodName := ⟨"TimeWordsModel", "clear", "()I"⟩
abbrev b_M_name : ByteArray := prog_7_method_13_code
abbrev y_M_name : MethodName := ⟨"TimeWordsModel", "name", "()I"⟩
abbrev b_M_nameAt : ByteArray := prog_7_method_12_code
abbrev y_M_nameAt : MethodName := ⟨"TimeWordsModel", "nameAt", "(I)I"⟩
abbrev b_M_reign : ByteArray := prog_7_method_14_code
abbrev y_M_reign : MethodName := ⟨"TimeWordsModel", "reign", "(III)Z"⟩
abbrev b_M_isName : ByteArray := prog_7_method_8_code
abbrev y_M_isName : MethodName := ⟨"TimeWordsModel", "isName", "(I)Z"⟩
abbrev b_M_isYear : ByteArray := prog_7_method_5_code
abbrev y_M_isYear : MethodName := ⟨"TimeWordsModel", "isYear", "(I)Z"⟩
abbrev b_M_phase : ByteArray := prog_7_method_15_code
abbrev y_M_phase : MethodName := ⟨"TimeWordsModel", "phase", "(IIIII)I"⟩
abbrev b_M_width : ByteArray := prog_7_method_16_code
abbrev y_M_width : MethodName := ⟨"TimeWordsModel", "width", "(I)I"⟩
abbrev b_M_read : ByteArray := prog_7_method_27_code
abbrev y_M_read : MethodName := ⟨"TimeWordsModel", "read", "(II)I"⟩
abbrev b_M_isWord : ByteArray := prog_7_method_25_code
abbrev y_M_isWord : MethodName := ⟨"TimeWordsModel", "isWord", "(II)Z"⟩
abbrev b_M_begins : ByteArray := prog_7_method_20_code
abbrev y_M_begins : MethodName := ⟨"TimeWordsModel", "begins", "(II)Z"⟩
abbrev b_M_beginning : ByteArray := prog_7_method_19_code
abbrev y_M_beginning : MethodName := ⟨"TimeWordsModel", "beginning", "(I)J"⟩
abbrev b_M_signs : ByteArray := prog_7_method_17_code
abbrev y_M_signs : MethodName := ⟨"TimeWordsModel", "signs", "(J)I"⟩
abbrev b_M_signOf : ByteArray := prog_7_method_18_code
abbrev y_M_signOf : MethodName := ⟨"TimeWordsModel", "signOf", "(JI)I"⟩
abbrev b_M_core : ByteArray := prog_7_method_23_code
abbrev y_M_core : MethodName := ⟨"TimeWordsModel", "core", "(III)Z"⟩
abbrev b_M_set : ByteArray := prog_7_method_21_code
abbrev y_M_set : MethodName := ⟨"TimeWordsModel", "set", "(II)V"⟩
abbrev b_M_named : ByteArray := prog_7_method_22_code
abbrev y_M_named : MethodName := ⟨"TimeWordsModel", "named", "(III)Z"⟩
abbrev b_M_makes : ByteArray := prog_7_method_24_code
abbrev y_M_makes : MethodName := ⟨"TimeWordsModel", "makes", "(I)Z"⟩
abbrev b_M_make : ByteArray := prog_7_method_26_code
abbrev y_M_make : MethodName := ⟨"TimeWordsModel", "make", "()I"⟩
abbrev b_M_span : ByteArray := prog_7_method_28_code
abbrev y_M_span : MethodName := ⟨"TimeWordsModel", "span", "(II)I"⟩
abbrev b_M_end : ByteArray := prog_7_method_30_code
abbrev y_M_end : MethodName := ⟨"TimeWordsModel", "end", "(II)I"⟩
abbrev b_M_isSpan : ByteArray := prog_7_method_9_code
abbrev y_M_isSpan : MethodName := ⟨"TimeWordsModel", "isSpan", "(I)Z"⟩
abbrev b_M_isOpen : ByteArray := prog_7_method_29_code
abbrev y_M_isOpen : MethodName := ⟨"TimeWordsModel", "isOpen", "(II)Z"⟩
abbrev b_M_open : ByteArray := prog_7_method_31_code
abbrev y_M_open : MethodName := ⟨"TimeWordsModel", "open", "(II)Z"⟩
abbrev b_M_join : ByteArray := prog_7_method_32_code
abbrev y_M_join : MethodName := ⟨"TimeWordsModel", "join", "(II)I"⟩
abbrev b_M_relations : ByteArray := prog_7_method_36_code
abbrev y_M_relations : MethodName := ⟨"TimeWordsModel", "relations", "(II)I"⟩
abbrev b_M_lowest : ByteArray := prog_7_method_33_code
abbrev y_M_lowest : MethodName := ⟨"TimeWordsModel", "lowest", "(I)I"⟩
abbrev b_M_highest : ByteArray := prog_7_method_34_code
abbrev y_M_highest : MethodName := ⟨"TimeWordsModel", "highest", "(I)I"⟩
abbrev b_M_mayBe : ByteArray := prog_7_method_35_code
abbrev y_M_mayBe : MethodName := ⟨"TimeWordsModel", "mayBe", "(IIIII)Z"⟩
abbrev b_M_relation : ByteArray := prog_7_method_37_code
abbrev y_M_relation : MethodName := ⟨"TimeWordsModel", "relation", "(II)I"⟩
abbrev b_M_word : ByteArray := prog_7_method_43_code
abbrev y_M_word : MethodName := ⟨"TimeWordsModel", "word", "(II)I"⟩
abbrev b_M_tries : ByteArray := prog_7_method_42_code
abbrev y_M_tries : MethodName := ⟨"TimeWordsModel", "tries", "(IIII)V"⟩
abbrev b_M_says : ByteArray := prog_7_method_41_code
abbrev y_M_says : MethodName := ⟨"TimeWordsModel", "says", "(II)Z"⟩
abbrev b_M_putWord : ByteArray := prog_7_method_39_code
abbrev y_M_putWord : MethodName := ⟨"TimeWordsModel", "putWord", "(J)V"⟩
abbrev b_M_put : ByteArray := prog_7_method_38_code
abbrev y_M_put : MethodName := ⟨"TimeWordsModel", "put", "(I)V"⟩
abbrev b_M_isBetter : ByteArray := prog_7_method_40_code
abbrev y_M_isBetter : MethodName := ⟨"TimeWordsModel", "isBetter", "()Z"⟩
abbrev b_M_near : ByteArray := prog_7_method_45_code
abbrev y_M_near : MethodName := ⟨"TimeWordsModel", "near", "()I"⟩
abbrev b_M_far : ByteArray := prog_7_method_44_code
abbrev y_M_far : MethodName := ⟨"TimeWordsModel", "far", "(I)I"⟩
abbrev b_M_feast : ByteArray := prog_7_method_49_code
abbrev y_M_feast : MethodName := ⟨"TimeWordsModel", "feast", "(IIII)I"⟩
abbrev b_M_floor : ByteArray := prog_7_method_46_code
abbrev y_M_floor : MethodName := ⟨"TimeWordsModel", "floor", "(II)I"⟩
abbrev b_M_daysOf : ByteArray := prog_7_method_48_code
abbrev y_M_daysOf : MethodName := ⟨"TimeWordsModel", "daysOf", "(II)I"⟩
abbrev b_M_isLeap : ByteArray := prog_7_method_47_code
abbrev y_M_isLeap : MethodName := ⟨"TimeWordsModel", "isLeap", "(I)Z"⟩
abbrev b_M_regnal : ByteArray := prog_7_method_50_code
abbrev y_M_regnal : MethodName := ⟨"TimeWordsModel", "regnal", "(II)I"⟩
abbrev b_M_count : ByteArray := prog_7_method_51_code
abbrev y_M_count : MethodName := ⟨"TimeWordsModel", "count", "(I)I"⟩
abbrev b_L_law : ByteArray := code
abbrev y_L_law : MethodName := ⟨"TimeWordsLaw", "law", "([I)Z"⟩
