section
-- ===== PART A: goes FIRST, ahead of the names: the tables' words, and 'selects' of the private methods out of them =====
/-- a private method of a class that the tables say can be made, by its rows of tables_1 -/
def lw_okq (q : MethodName × Nat) : Prop := (q.1.cls ≠ "java/lang/invoke/MethodHandle" ∧ q.1.cls ≠ "java/lang/invoke/VarHandle") ∧ Cond.instantiable q.1.cls q.2 ∈ tables_1 ∧ Cond.privateMethod q.1 ∈ tables_1 ∧ Cond.instanceMethod q.1 ∈ tables_1
theorem lw_p0 : lw_okq (⟨"TinString$Street", "forget", "()V"⟩, 4) := ⟨⟨by decide +kernel, by decide +kernel⟩, List.mem_of_getElem? (i := 62) (by decide +kernel), List.mem_of_getElem? (i := 376) (by decide +kernel), List.mem_of_getElem? (i := 377) (by decide +kernel)⟩
theorem lw_p1 : lw_okq (⟨"TinString$Tape", "readWord", "()V"⟩, 7) := ⟨⟨by decide +kernel, by decide +kernel⟩, List.mem_of_getElem? (i := 27) (by decide +kernel), List.mem_of_getElem? (i := 390) (by decide +kernel), List.mem_of_getElem? (i := 391) (by decide +kernel)⟩
theorem lw_p2 : lw_okq (⟨"TinString$Tape", "readNumber", "()V"⟩, 7) := ⟨⟨by decide +kernel, by decide +kernel⟩, List.mem_of_getElem? (i := 27) (by decide +kernel), List.mem_of_getElem? (i := 398) (by decide +kernel), List.mem_of_getElem? (i := 399) (by decide +kernel)⟩
theorem lw_p3 : lw_okq (⟨"TinString$Street", "readClause", "(LTinString$Tape;)I"⟩, 4) := ⟨⟨by decide +kernel, by decide +kernel⟩, List.mem_of_getElem? (i := 62) (by decide +kernel), List.mem_of_getElem? (i := 402) (by decide +kernel), List.mem_of_getElem? (i := 403) (by decide +kernel)⟩
theorem lw_p4 : lw_okq (⟨"TinString$Street", "readName", "(LTinString$Tape;I)I"⟩, 4) := ⟨⟨by decide +kernel, by decide +kernel⟩, List.mem_of_getElem? (i := 62) (by decide +kernel), List.mem_of_getElem? (i := 475) (by decide +kernel), List.mem_of_getElem? (i := 476) (by decide +kernel)⟩
theorem lw_p5 : lw_okq (⟨"TinString$Street", "readNumber", "(LTinString$Tape;II)I"⟩, 4) := ⟨⟨by decide +kernel, by decide +kernel⟩, List.mem_of_getElem? (i := 62) (by decide +kernel), List.mem_of_getElem? (i := 481) (by decide +kernel), List.mem_of_getElem? (i := 482) (by decide +kernel)⟩
theorem lw_p6 : lw_okq (⟨"TinString$Street", "isOneAt", "(III)Z"⟩, 4) := ⟨⟨by decide +kernel, by decide +kernel⟩, List.mem_of_getElem? (i := 62) (by decide +kernel), List.mem_of_getElem? (i := 487) (by decide +kernel), List.mem_of_getElem? (i := 488) (by decide +kernel)⟩
theorem lw_p7 : lw_okq (⟨"TinString", "isOne", "(II)Z"⟩, 12) := ⟨⟨by decide +kernel, by decide +kernel⟩, List.mem_of_getElem? (i := 19) (by decide +kernel), List.mem_of_getElem? (i := 516) (by decide +kernel), List.mem_of_getElem? (i := 517) (by decide +kernel)⟩
theorem lw_p8 : lw_okq (⟨"TinString", "lineLacks", "()Z"⟩, 12) := ⟨⟨by decide +kernel, by decide +kernel⟩, List.mem_of_getElem? (i := 19) (by decide +kernel), List.mem_of_getElem? (i := 572) (by decide +kernel), List.mem_of_getElem? (i := 573) (by decide +kernel)⟩
theorem lw_p9 : lw_okq (⟨"TinString$Line", "overBends", "(LTinString$Street;III)I"⟩, 8) := ⟨⟨by decide +kernel, by decide +kernel⟩, List.mem_of_getElem? (i := 92) (by decide +kernel), List.mem_of_getElem? (i := 594) (by decide +kernel), List.mem_of_getElem? (i := 595) (by decide +kernel)⟩
theorem lw_p10 : lw_okq (⟨"TinString", "allWords", "()I"⟩, 12) := ⟨⟨by decide +kernel, by decide +kernel⟩, List.mem_of_getElem? (i := 19) (by decide +kernel), List.mem_of_getElem? (i := 623) (by decide +kernel), List.mem_of_getElem? (i := 624) (by decide +kernel)⟩
theorem lw_p11 : lw_okq (⟨"TinString", "takenFor", "(III)I"⟩, 12) := ⟨⟨by decide +kernel, by decide +kernel⟩, List.mem_of_getElem? (i := 19) (by decide +kernel), List.mem_of_getElem? (i := 627) (by decide +kernel), List.mem_of_getElem? (i := 628) (by decide +kernel)⟩
theorem lw_p12 : lw_okq (⟨"TinString$Ear", "thinkOf", "(I)V"⟩, 10) := ⟨⟨by decide +kernel, by decide +kernel⟩, List.mem_of_getElem? (i := 134) (by decide +kernel), List.mem_of_getElem? (i := 654) (by decide +kernel), List.mem_of_getElem? (i := 655) (by decide +kernel)⟩
theorem lw_p13 : lw_okq (⟨"TinString$Ear", "soundsAsEarlier", "(I)Z"⟩, 10) := ⟨⟨by decide +kernel, by decide +kernel⟩, List.mem_of_getElem? (i := 134) (by decide +kernel), List.mem_of_getElem? (i := 658) (by decide +kernel), List.mem_of_getElem? (i := 659) (by decide +kernel)⟩
theorem lw_p14 : lw_okq (⟨"TinString$Ear", "spread", "(II)V"⟩, 10) := ⟨⟨by decide +kernel, by decide +kernel⟩, List.mem_of_getElem? (i := 134) (by decide +kernel), List.mem_of_getElem? (i := 662) (by decide +kernel), List.mem_of_getElem? (i := 663) (by decide +kernel)⟩
theorem lw_p15 : lw_okq (⟨"TinString$Ear", "heardWith", "(III)I"⟩, 10) := ⟨⟨by decide +kernel, by decide +kernel⟩, List.mem_of_getElem? (i := 134) (by decide +kernel), List.mem_of_getElem? (i := 666) (by decide +kernel), List.mem_of_getElem? (i := 667) (by decide +kernel)⟩
def lw_privs_1 : List (MethodName × Nat) := [(⟨"TinString$Street", "forget", "()V"⟩, 4), (⟨"TinString$Tape", "readWord", "()V"⟩, 7), (⟨"TinString$Tape", "readNumber", "()V"⟩, 7), (⟨"TinString$Street", "readClause", "(LTinString$Tape;)I"⟩, 4), (⟨"TinString$Street", "readName", "(LTinString$Tape;I)I"⟩, 4), (⟨"TinString$Street", "readNumber", "(LTinString$Tape;II)I"⟩, 4), (⟨"TinString$Street", "isOneAt", "(III)Z"⟩, 4), (⟨"TinString", "isOne", "(II)Z"⟩, 12), (⟨"TinString", "lineLacks", "()Z"⟩, 12), (⟨"TinString$Line", "overBends", "(LTinString$Street;III)I"⟩, 8), (⟨"TinString", "allWords", "()I"⟩, 12), (⟨"TinString", "takenFor", "(III)I"⟩, 12), (⟨"TinString$Ear", "thinkOf", "(I)V"⟩, 10), (⟨"TinString$Ear", "soundsAsEarlier", "(I)Z"⟩, 10), (⟨"TinString$Ear", "spread", "(II)V"⟩, 10), (⟨"TinString$Ear", "heardWith", "(III)I"⟩, 10)]
theorem lw_r1 : ∀ q ∈ lw_privs_1, lw_okq q := List.forall_mem_cons.mpr ⟨lw_p0, List.forall_mem_cons.mpr ⟨lw_p1, List.forall_mem_cons.mpr ⟨lw_p2, List.forall_mem_cons.mpr ⟨lw_p3, List.forall_mem_cons.mpr ⟨lw_p4, List.forall_mem_cons.mpr ⟨lw_p5, List.forall_mem_cons.mpr ⟨lw_p6, List.forall_mem_cons.mpr ⟨lw_p7, List.forall_mem_cons.mpr ⟨lw_p8, List.forall_mem_cons.mpr ⟨lw_p9, List.forall_mem_cons.mpr ⟨lw_p10, List.forall_mem_cons.mpr ⟨lw_p11, List.forall_mem_cons.mpr ⟨lw_p12, List.forall_mem_cons.mpr ⟨lw_p13, List.forall_mem_cons.mpr ⟨lw_p14, List.forall_mem_cons.mpr ⟨lw_p15, fun _ h => absurd h List.not_mem_nil⟩⟩⟩⟩⟩⟩⟩⟩⟩⟩⟩⟩⟩⟩⟩⟩
theorem lw_p16 : lw_okq (⟨"TinString$Ear", "offFrom", "(II)J"⟩, 10) := ⟨⟨by decide +kernel, by decide +kernel⟩, List.mem_of_getElem? (i := 134) (by decide +kernel), List.mem_of_getElem? (i := 672) (by decide +kernel), List.mem_of_getElem? (i := 673) (by decide +kernel)⟩
theorem lw_p17 : lw_okq (⟨"TinString$Ear", "hearRest", "(JI[I)V"⟩, 10) := ⟨⟨by decide +kernel, by decide +kernel⟩, List.mem_of_getElem? (i := 134) (by decide +kernel), List.mem_of_getElem? (i := 678) (by decide +kernel), List.mem_of_getElem? (i := 679) (by decide +kernel)⟩
theorem lw_p18 : lw_okq (⟨"TinString$Ear", "nearest", "(J)I"⟩, 10) := ⟨⟨by decide +kernel, by decide +kernel⟩, List.mem_of_getElem? (i := 134) (by decide +kernel), List.mem_of_getElem? (i := 682) (by decide +kernel), List.mem_of_getElem? (i := 683) (by decide +kernel)⟩
theorem lw_p19 : lw_okq (⟨"TinString", "bestStuff", "()I"⟩, 12) := ⟨⟨by decide +kernel, by decide +kernel⟩, List.mem_of_getElem? (i := 19) (by decide +kernel), List.mem_of_getElem? (i := 705) (by decide +kernel), List.mem_of_getElem? (i := 706) (by decide +kernel)⟩
theorem lw_p20 : lw_okq (⟨"TinString", "bestTin", "()I"⟩, 12) := ⟨⟨by decide +kernel, by decide +kernel⟩, List.mem_of_getElem? (i := 19) (by decide +kernel), List.mem_of_getElem? (i := 715) (by decide +kernel), List.mem_of_getElem? (i := 716) (by decide +kernel)⟩
theorem lw_p21 : lw_okq (⟨"TinString$Ear", "noiseOf", "(I)I"⟩, 10) := ⟨⟨by decide +kernel, by decide +kernel⟩, List.mem_of_getElem? (i := 134) (by decide +kernel), List.mem_of_getElem? (i := 745) (by decide +kernel), List.mem_of_getElem? (i := 746) (by decide +kernel)⟩
theorem lw_p22 : lw_okq (⟨"TinString", "isPair", "(II)Z"⟩, 12) := ⟨⟨by decide +kernel, by decide +kernel⟩, List.mem_of_getElem? (i := 19) (by decide +kernel), List.mem_of_getElem? (i := 809) (by decide +kernel), List.mem_of_getElem? (i := 810) (by decide +kernel)⟩
theorem lw_p23 : lw_okq (⟨"TinString$Wishes", "yardsOf", "(II)I"⟩, 6) := ⟨⟨by decide +kernel, by decide +kernel⟩, List.mem_of_getElem? (i := 175) (by decide +kernel), List.mem_of_getElem? (i := 845) (by decide +kernel), List.mem_of_getElem? (i := 846) (by decide +kernel)⟩
theorem lw_p24 : lw_okq (⟨"TinString$Wishes", "grants", "(IIII)Z"⟩, 6) := ⟨⟨by decide +kernel, by decide +kernel⟩, List.mem_of_getElem? (i := 175) (by decide +kernel), List.mem_of_getElem? (i := 849) (by decide +kernel), List.mem_of_getElem? (i := 850) (by decide +kernel)⟩
theorem lw_p25 : lw_okq (⟨"TinString$Wishes", "reachOf", "(IIII)I"⟩, 6) := ⟨⟨by decide +kernel, by decide +kernel⟩, List.mem_of_getElem? (i := 175) (by decide +kernel), List.mem_of_getElem? (i := 853) (by decide +kernel), List.mem_of_getElem? (i := 854) (by decide +kernel)⟩
theorem lw_p26 : lw_okq (⟨"TinString$Wishes", "isReached", "(II)Z"⟩, 6) := ⟨⟨by decide +kernel, by decide +kernel⟩, List.mem_of_getElem? (i := 175) (by decide +kernel), List.mem_of_getElem? (i := 857) (by decide +kernel), List.mem_of_getElem? (i := 858) (by decide +kernel)⟩
theorem lw_p27 : lw_okq (⟨"TinString", "isStep", "(I)Z"⟩, 12) := ⟨⟨by decide +kernel, by decide +kernel⟩, List.mem_of_getElem? (i := 19) (by decide +kernel), List.mem_of_getElem? (i := 901) (by decide +kernel), List.mem_of_getElem? (i := 902) (by decide +kernel)⟩
theorem lw_p28 : lw_okq (⟨"TinString$Book", "weigh", "(LTinString$Ear;I)Z"⟩, 15) := ⟨⟨by decide +kernel, by decide +kernel⟩, List.mem_of_getElem? (i := 203) (by decide +kernel), List.mem_of_getElem? (i := 926) (by decide +kernel), List.mem_of_getElem? (i := 927) (by decide +kernel)⟩
theorem lw_p29 : lw_okq (⟨"TinString$Book", "writtenAsKnown", "(II)I"⟩, 15) := ⟨⟨by decide +kernel, by decide +kernel⟩, List.mem_of_getElem? (i := 203) (by decide +kernel), List.mem_of_getElem? (i := 935) (by decide +kernel), List.mem_of_getElem? (i := 936) (by decide +kernel)⟩
theorem lw_p30 : lw_okq (⟨"TinStringModel", "begin", "()V"⟩, 63) := ⟨⟨by decide +kernel, by decide +kernel⟩, List.mem_of_getElem? (i := 962) (by decide +kernel), List.mem_of_getElem? (i := 968) (by decide +kernel), List.mem_of_getElem? (i := 969) (by decide +kernel)⟩
theorem lw_p31 : lw_okq (⟨"TinStringModel", "settle", "()V"⟩, 63) := ⟨⟨by decide +kernel, by decide +kernel⟩, List.mem_of_getElem? (i := 962) (by decide +kernel), List.mem_of_getElem? (i := 972) (by decide +kernel), List.mem_of_getElem? (i := 973) (by decide +kernel)⟩
def lw_privs_2 : List (MethodName × Nat) := [(⟨"TinString$Ear", "offFrom", "(II)J"⟩, 10), (⟨"TinString$Ear", "hearRest", "(JI[I)V"⟩, 10), (⟨"TinString$Ear", "nearest", "(J)I"⟩, 10), (⟨"TinString", "bestStuff", "()I"⟩, 12), (⟨"TinString", "bestTin", "()I"⟩, 12), (⟨"TinString$Ear", "noiseOf", "(I)I"⟩, 10), (⟨"TinString", "isPair", "(II)Z"⟩, 12), (⟨"TinString$Wishes", "yardsOf", "(II)I"⟩, 6), (⟨"TinString$Wishes", "grants", "(IIII)Z"⟩, 6), (⟨"TinString$Wishes", "reachOf", "(IIII)I"⟩, 6), (⟨"TinString$Wishes", "isReached", "(II)Z"⟩, 6), (⟨"TinString", "isStep", "(I)Z"⟩, 12), (⟨"TinString$Book", "weigh", "(LTinString$Ear;I)Z"⟩, 15), (⟨"TinString$Book", "writtenAsKnown", "(II)I"⟩, 15), (⟨"TinStringModel", "begin", "()V"⟩, 63), (⟨"TinStringModel", "settle", "()V"⟩, 63)]
theorem lw_r2 : ∀ q ∈ lw_privs_2, lw_okq q := List.forall_mem_cons.mpr ⟨lw_p16, List.forall_mem_cons.mpr ⟨lw_p17, List.forall_mem_cons.mpr ⟨lw_p18, List.forall_mem_cons.mpr ⟨lw_p19, List.forall_mem_cons.mpr ⟨lw_p20, List.forall_mem_cons.mpr ⟨lw_p21, List.forall_mem_cons.mpr ⟨lw_p22, List.forall_mem_cons.mpr ⟨lw_p23, List.forall_mem_cons.mpr ⟨lw_p24, List.forall_mem_cons.mpr ⟨lw_p25, List.forall_mem_cons.mpr ⟨lw_p26, List.forall_mem_cons.mpr ⟨lw_p27, List.forall_mem_cons.mpr ⟨lw_p28, List.forall_mem_cons.mpr ⟨lw_p29, List.forall_mem_cons.mpr ⟨lw_p30, List.forall_mem_cons.mpr ⟨lw_p31, fun _ h => absurd h List.not_mem_nil⟩⟩⟩⟩⟩⟩⟩⟩⟩⟩⟩⟩⟩⟩⟩⟩
theorem lw_p32 : lw_okq (⟨"TinStringModel", "newStretch", "(I)V"⟩, 63) := ⟨⟨by decide +kernel, by decide +kernel⟩, List.mem_of_getElem? (i := 962) (by decide +kernel), List.mem_of_getElem? (i := 979) (by decide +kernel), List.mem_of_getElem? (i := 980) (by decide +kernel)⟩
theorem lw_p33 : lw_okq (⟨"TinStringModel", "takeTape", "()V"⟩, 63) := ⟨⟨by decide +kernel, by decide +kernel⟩, List.mem_of_getElem? (i := 962) (by decide +kernel), List.mem_of_getElem? (i := 1193) (by decide +kernel), List.mem_of_getElem? (i := 1194) (by decide +kernel)⟩
theorem lw_p34 : lw_okq (⟨"TinStringModel", "scan", "()V"⟩, 63) := ⟨⟨by decide +kernel, by decide +kernel⟩, List.mem_of_getElem? (i := 962) (by decide +kernel), List.mem_of_getElem? (i := 1197) (by decide +kernel), List.mem_of_getElem? (i := 1198) (by decide +kernel)⟩
theorem lw_p35 : lw_okq (⟨"TinStringModel", "byteAt", "(I)I"⟩, 63) := ⟨⟨by decide +kernel, by decide +kernel⟩, List.mem_of_getElem? (i := 962) (by decide +kernel), List.mem_of_getElem? (i := 1201) (by decide +kernel), List.mem_of_getElem? (i := 1202) (by decide +kernel)⟩
theorem lw_p36 : lw_okq (⟨"TinStringModel", "keyAt", "(II)I"⟩, 63) := ⟨⟨by decide +kernel, by decide +kernel⟩, List.mem_of_getElem? (i := 962) (by decide +kernel), List.mem_of_getElem? (i := 1210) (by decide +kernel), List.mem_of_getElem? (i := 1211) (by decide +kernel)⟩
theorem lw_p37 : lw_okq (⟨"TinStringModel", "readClause", "()Z"⟩, 63) := ⟨⟨by decide +kernel, by decide +kernel⟩, List.mem_of_getElem? (i := 962) (by decide +kernel), List.mem_of_getElem? (i := 1220) (by decide +kernel), List.mem_of_getElem? (i := 1221) (by decide +kernel)⟩
theorem lw_p38 : lw_okq (⟨"TinStringModel", "readThing", "(I)Z"⟩, 63) := ⟨⟨by decide +kernel, by decide +kernel⟩, List.mem_of_getElem? (i := 962) (by decide +kernel), List.mem_of_getElem? (i := 1224) (by decide +kernel), List.mem_of_getElem? (i := 1225) (by decide +kernel)⟩
theorem lw_p39 : lw_okq (⟨"TinStringModel", "readName", "(II)Z"⟩, 63) := ⟨⟨by decide +kernel, by decide +kernel⟩, List.mem_of_getElem? (i := 962) (by decide +kernel), List.mem_of_getElem? (i := 1228) (by decide +kernel), List.mem_of_getElem? (i := 1229) (by decide +kernel)⟩
theorem lw_p40 : lw_okq (⟨"TinStringModel", "fails", "(I)Z"⟩, 63) := ⟨⟨by decide +kernel, by decide +kernel⟩, List.mem_of_getElem? (i := 962) (by decide +kernel), List.mem_of_getElem? (i := 1232) (by decide +kernel), List.mem_of_getElem? (i := 1233) (by decide +kernel)⟩
theorem lw_p41 : lw_okq (⟨"TinStringModel", "readRow", "([IIIIII)Z"⟩, 63) := ⟨⟨by decide +kernel, by decide +kernel⟩, List.mem_of_getElem? (i := 962) (by decide +kernel), List.mem_of_getElem? (i := 1236) (by decide +kernel), List.mem_of_getElem? (i := 1237) (by decide +kernel)⟩
theorem lw_p42 : lw_okq (⟨"TinStringModel", "readNumber", "(II)Z"⟩, 63) := ⟨⟨by decide +kernel, by decide +kernel⟩, List.mem_of_getElem? (i := 962) (by decide +kernel), List.mem_of_getElem? (i := 1240) (by decide +kernel), List.mem_of_getElem? (i := 1241) (by decide +kernel)⟩
theorem lw_p43 : lw_okq (⟨"TinStringModel", "readPlace", "([I[III)Z"⟩, 63) := ⟨⟨by decide +kernel, by decide +kernel⟩, List.mem_of_getElem? (i := 962) (by decide +kernel), List.mem_of_getElem? (i := 1244) (by decide +kernel), List.mem_of_getElem? (i := 1245) (by decide +kernel)⟩
theorem lw_p44 : lw_okq (⟨"TinStringModel", "is", "(II)Z"⟩, 63) := ⟨⟨by decide +kernel, by decide +kernel⟩, List.mem_of_getElem? (i := 962) (by decide +kernel), List.mem_of_getElem? (i := 1252) (by decide +kernel), List.mem_of_getElem? (i := 1253) (by decide +kernel)⟩
theorem lw_p45 : lw_okq (⟨"TinStringModel", "hasStuff", "()Z"⟩, 63) := ⟨⟨by decide +kernel, by decide +kernel⟩, List.mem_of_getElem? (i := 962) (by decide +kernel), List.mem_of_getElem? (i := 1283) (by decide +kernel), List.mem_of_getElem? (i := 1284) (by decide +kernel)⟩
theorem lw_p46 : lw_okq (⟨"TinStringModel", "bearsOf", "(I)I"⟩, 63) := ⟨⟨by decide +kernel, by decide +kernel⟩, List.mem_of_getElem? (i := 962) (by decide +kernel), List.mem_of_getElem? (i := 1287) (by decide +kernel), List.mem_of_getElem? (i := 1288) (by decide +kernel)⟩
theorem lw_p47 : lw_okq (⟨"TinStringModel", "handsOf", "(I)I"⟩, 63) := ⟨⟨by decide +kernel, by decide +kernel⟩, List.mem_of_getElem? (i := 962) (by decide +kernel), List.mem_of_getElem? (i := 1291) (by decide +kernel), List.mem_of_getElem? (i := 1292) (by decide +kernel)⟩
def lw_privs_3 : List (MethodName × Nat) := [(⟨"TinStringModel", "newStretch", "(I)V"⟩, 63), (⟨"TinStringModel", "takeTape", "()V"⟩, 63), (⟨"TinStringModel", "scan", "()V"⟩, 63), (⟨"TinStringModel", "byteAt", "(I)I"⟩, 63), (⟨"TinStringModel", "keyAt", "(II)I"⟩, 63), (⟨"TinStringModel", "readClause", "()Z"⟩, 63), (⟨"TinStringModel", "readThing", "(I)Z"⟩, 63), (⟨"TinStringModel", "readName", "(II)Z"⟩, 63), (⟨"TinStringModel", "fails", "(I)Z"⟩, 63), (⟨"TinStringModel", "readRow", "([IIIIII)Z"⟩, 63), (⟨"TinStringModel", "readNumber", "(II)Z"⟩, 63), (⟨"TinStringModel", "readPlace", "([I[III)Z"⟩, 63), (⟨"TinStringModel", "is", "(II)Z"⟩, 63), (⟨"TinStringModel", "hasStuff", "()Z"⟩, 63), (⟨"TinStringModel", "bearsOf", "(I)I"⟩, 63), (⟨"TinStringModel", "handsOf", "(I)I"⟩, 63)]
theorem lw_r3 : ∀ q ∈ lw_privs_3, lw_okq q := List.forall_mem_cons.mpr ⟨lw_p32, List.forall_mem_cons.mpr ⟨lw_p33, List.forall_mem_cons.mpr ⟨lw_p34, List.forall_mem_cons.mpr ⟨lw_p35, List.forall_mem_cons.mpr ⟨lw_p36, List.forall_mem_cons.mpr ⟨lw_p37, List.forall_mem_cons.mpr ⟨lw_p38, List.forall_mem_cons.mpr ⟨lw_p39, List.forall_mem_cons.mpr ⟨lw_p40, List.forall_mem_cons.mpr ⟨lw_p41, List.forall_mem_cons.mpr ⟨lw_p42, List.forall_mem_cons.mpr ⟨lw_p43, List.forall_mem_cons.mpr ⟨lw_p44, List.forall_mem_cons.mpr ⟨lw_p45, List.forall_mem_cons.mpr ⟨lw_p46, List.forall_mem_cons.mpr ⟨lw_p47, fun _ h => absurd h List.not_mem_nil⟩⟩⟩⟩⟩⟩⟩⟩⟩⟩⟩⟩⟩⟩⟩⟩
theorem lw_p48 : lw_okq (⟨"TinStringModel", "hasLine", "()Z"⟩, 63) := ⟨⟨by decide +kernel, by decide +kernel⟩, List.mem_of_getElem? (i := 962) (by decide +kernel), List.mem_of_getElem? (i := 1299) (by decide +kernel), List.mem_of_getElem? (i := 1300) (by decide +kernel)⟩
theorem lw_p49 : lw_okq (⟨"TinStringModel", "throughOf", "(IIIII)I"⟩, 63) := ⟨⟨by decide +kernel, by decide +kernel⟩, List.mem_of_getElem? (i := 962) (by decide +kernel), List.mem_of_getElem? (i := 1303) (by decide +kernel), List.mem_of_getElem? (i := 1304) (by decide +kernel)⟩
theorem lw_p50 : lw_okq (⟨"TinStringModel", "comesTo", "(IIIIII)I"⟩, 63) := ⟨⟨by decide +kernel, by decide +kernel⟩, List.mem_of_getElem? (i := 962) (by decide +kernel), List.mem_of_getElem? (i := 1307) (by decide +kernel), List.mem_of_getElem? (i := 1308) (by decide +kernel)⟩
theorem lw_p51 : lw_okq (⟨"TinStringModel", "letsBy", "(II)I"⟩, 63) := ⟨⟨by decide +kernel, by decide +kernel⟩, List.mem_of_getElem? (i := 962) (by decide +kernel), List.mem_of_getElem? (i := 1311) (by decide +kernel), List.mem_of_getElem? (i := 1312) (by decide +kernel)⟩
theorem lw_p52 : lw_okq (⟨"TinStringModel", "makeOwn", "()V"⟩, 63) := ⟨⟨by decide +kernel, by decide +kernel⟩, List.mem_of_getElem? (i := 962) (by decide +kernel), List.mem_of_getElem? (i := 1326) (by decide +kernel), List.mem_of_getElem? (i := 1327) (by decide +kernel)⟩
theorem lw_p53 : lw_okq (⟨"TinStringModel", "makeLevels", "(III)V"⟩, 63) := ⟨⟨by decide +kernel, by decide +kernel⟩, List.mem_of_getElem? (i := 962) (by decide +kernel), List.mem_of_getElem? (i := 1330) (by decide +kernel), List.mem_of_getElem? (i := 1331) (by decide +kernel)⟩
theorem lw_p54 : lw_okq (⟨"TinStringModel", "allWords", "()I"⟩, 63) := ⟨⟨by decide +kernel, by decide +kernel⟩, List.mem_of_getElem? (i := 962) (by decide +kernel), List.mem_of_getElem? (i := 1338) (by decide +kernel), List.mem_of_getElem? (i := 1339) (by decide +kernel)⟩
theorem lw_p55 : lw_okq (⟨"TinStringModel", "listen", "(II)V"⟩, 63) := ⟨⟨by decide +kernel, by decide +kernel⟩, List.mem_of_getElem? (i := 962) (by decide +kernel), List.mem_of_getElem? (i := 1342) (by decide +kernel), List.mem_of_getElem? (i := 1343) (by decide +kernel)⟩
theorem lw_p56 : lw_okq (⟨"TinStringModel", "ear", "(I)I"⟩, 63) := ⟨⟨by decide +kernel, by decide +kernel⟩, List.mem_of_getElem? (i := 962) (by decide +kernel), List.mem_of_getElem? (i := 1349) (by decide +kernel), List.mem_of_getElem? (i := 1350) (by decide +kernel)⟩
theorem lw_p57 : lw_okq (⟨"TinStringModel", "right", "(II)I"⟩, 63) := ⟨⟨by decide +kernel, by decide +kernel⟩, List.mem_of_getElem? (i := 962) (by decide +kernel), List.mem_of_getElem? (i := 1362) (by decide +kernel), List.mem_of_getElem? (i := 1363) (by decide +kernel)⟩
theorem lw_p58 : lw_okq (⟨"TinStringModel", "allWays", "()I"⟩, 63) := ⟨⟨by decide +kernel, by decide +kernel⟩, List.mem_of_getElem? (i := 962) (by decide +kernel), List.mem_of_getElem? (i := 1366) (by decide +kernel), List.mem_of_getElem? (i := 1367) (by decide +kernel)⟩
theorem lw_p59 : lw_okq (⟨"TinStringModel", "worst", "(I)I"⟩, 63) := ⟨⟨by decide +kernel, by decide +kernel⟩, List.mem_of_getElem? (i := 962) (by decide +kernel), List.mem_of_getElem? (i := 1374) (by decide +kernel), List.mem_of_getElem? (i := 1375) (by decide +kernel)⟩
theorem lw_p60 : lw_okq (⟨"TinStringModel", "isCell", "(I)Z"⟩, 63) := ⟨⟨by decide +kernel, by decide +kernel⟩, List.mem_of_getElem? (i := 962) (by decide +kernel), List.mem_of_getElem? (i := 1405) (by decide +kernel), List.mem_of_getElem? (i := 1406) (by decide +kernel)⟩
theorem lw_p61 : lw_okq (⟨"TinStringModel", "tickOnce", "()V"⟩, 63) := ⟨⟨by decide +kernel, by decide +kernel⟩, List.mem_of_getElem? (i := 962) (by decide +kernel), List.mem_of_getElem? (i := 1422) (by decide +kernel), List.mem_of_getElem? (i := 1423) (by decide +kernel)⟩
theorem lw_p62 : lw_okq (⟨"TinStringModel", "toRight", "(II)V"⟩, 63) := ⟨⟨by decide +kernel, by decide +kernel⟩, List.mem_of_getElem? (i := 962) (by decide +kernel), List.mem_of_getElem? (i := 1426) (by decide +kernel), List.mem_of_getElem? (i := 1427) (by decide +kernel)⟩
theorem lw_p63 : lw_okq (⟨"TinStringModel", "toLeft", "(II)V"⟩, 63) := ⟨⟨by decide +kernel, by decide +kernel⟩, List.mem_of_getElem? (i := 962) (by decide +kernel), List.mem_of_getElem? (i := 1430) (by decide +kernel), List.mem_of_getElem? (i := 1431) (by decide +kernel)⟩
def lw_privs_4 : List (MethodName × Nat) := [(⟨"TinStringModel", "hasLine", "()Z"⟩, 63), (⟨"TinStringModel", "throughOf", "(IIIII)I"⟩, 63), (⟨"TinStringModel", "comesTo", "(IIIIII)I"⟩, 63), (⟨"TinStringModel", "letsBy", "(II)I"⟩, 63), (⟨"TinStringModel", "makeOwn", "()V"⟩, 63), (⟨"TinStringModel", "makeLevels", "(III)V"⟩, 63), (⟨"TinStringModel", "allWords", "()I"⟩, 63), (⟨"TinStringModel", "listen", "(II)V"⟩, 63), (⟨"TinStringModel", "ear", "(I)I"⟩, 63), (⟨"TinStringModel", "right", "(II)I"⟩, 63), (⟨"TinStringModel", "allWays", "()I"⟩, 63), (⟨"TinStringModel", "worst", "(I)I"⟩, 63), (⟨"TinStringModel", "isCell", "(I)Z"⟩, 63), (⟨"TinStringModel", "tickOnce", "()V"⟩, 63), (⟨"TinStringModel", "toRight", "(II)V"⟩, 63), (⟨"TinStringModel", "toLeft", "(II)V"⟩, 63)]
theorem lw_r4 : ∀ q ∈ lw_privs_4, lw_okq q := List.forall_mem_cons.mpr ⟨lw_p48, List.forall_mem_cons.mpr ⟨lw_p49, List.forall_mem_cons.mpr ⟨lw_p50, List.forall_mem_cons.mpr ⟨lw_p51, List.forall_mem_cons.mpr ⟨lw_p52, List.forall_mem_cons.mpr ⟨lw_p53, List.forall_mem_cons.mpr ⟨lw_p54, List.forall_mem_cons.mpr ⟨lw_p55, List.forall_mem_cons.mpr ⟨lw_p56, List.forall_mem_cons.mpr ⟨lw_p57, List.forall_mem_cons.mpr ⟨lw_p58, List.forall_mem_cons.mpr ⟨lw_p59, List.forall_mem_cons.mpr ⟨lw_p60, List.forall_mem_cons.mpr ⟨lw_p61, List.forall_mem_cons.mpr ⟨lw_p62, List.forall_mem_cons.mpr ⟨lw_p63, fun _ h => absurd h List.not_mem_nil⟩⟩⟩⟩⟩⟩⟩⟩⟩⟩⟩⟩⟩⟩⟩⟩
theorem lw_p64 : lw_okq (⟨"TinStringModel", "arePair", "(II)Z"⟩, 63) := ⟨⟨by decide +kernel, by decide +kernel⟩, List.mem_of_getElem? (i := 962) (by decide +kernel), List.mem_of_getElem? (i := 1459) (by decide +kernel), List.mem_of_getElem? (i := 1460) (by decide +kernel)⟩
theorem lw_p65 : lw_okq (⟨"TinStringModel", "isBarred", "(II)Z"⟩, 63) := ⟨⟨by decide +kernel, by decide +kernel⟩, List.mem_of_getElem? (i := 962) (by decide +kernel), List.mem_of_getElem? (i := 1463) (by decide +kernel), List.mem_of_getElem? (i := 1464) (by decide +kernel)⟩
theorem lw_p66 : lw_okq (⟨"TinStringModel", "yardsOf", "(II)I"⟩, 63) := ⟨⟨by decide +kernel, by decide +kernel⟩, List.mem_of_getElem? (i := 962) (by decide +kernel), List.mem_of_getElem? (i := 1467) (by decide +kernel), List.mem_of_getElem? (i := 1468) (by decide +kernel)⟩
theorem lw_p67 : lw_okq (⟨"TinStringModel", "makeStrings", "()V"⟩, 63) := ⟨⟨by decide +kernel, by decide +kernel⟩, List.mem_of_getElem? (i := 962) (by decide +kernel), List.mem_of_getElem? (i := 1479) (by decide +kernel), List.mem_of_getElem? (i := 1480) (by decide +kernel)⟩
theorem lw_p68 : lw_okq (⟨"TinStringModel", "yardsBy", "(II)I"⟩, 63) := ⟨⟨by decide +kernel, by decide +kernel⟩, List.mem_of_getElem? (i := 962) (by decide +kernel), List.mem_of_getElem? (i := 1483) (by decide +kernel), List.mem_of_getElem? (i := 1484) (by decide +kernel)⟩
theorem lw_p69 : lw_okq (⟨"TinStringModel", "isGranted", "(III)Z"⟩, 63) := ⟨⟨by decide +kernel, by decide +kernel⟩, List.mem_of_getElem? (i := 962) (by decide +kernel), List.mem_of_getElem? (i := 1487) (by decide +kernel), List.mem_of_getElem? (i := 1488) (by decide +kernel)⟩
theorem lw_p70 : lw_okq (⟨"TinStringModel", "findTaps", "(I)V"⟩, 63) := ⟨⟨by decide +kernel, by decide +kernel⟩, List.mem_of_getElem? (i := 962) (by decide +kernel), List.mem_of_getElem? (i := 1495) (by decide +kernel), List.mem_of_getElem? (i := 1496) (by decide +kernel)⟩
theorem lw_p71 : lw_okq (⟨"TinStringModel", "rowsOf", "(I)I"⟩, 63) := ⟨⟨by decide +kernel, by decide +kernel⟩, List.mem_of_getElem? (i := 962) (by decide +kernel), List.mem_of_getElem? (i := 1499) (by decide +kernel), List.mem_of_getElem? (i := 1500) (by decide +kernel)⟩
theorem lw_p72 : lw_okq (⟨"TinStringModel", "readNumbers", "([III)I"⟩, 63) := ⟨⟨by decide +kernel, by decide +kernel⟩, List.mem_of_getElem? (i := 962) (by decide +kernel), List.mem_of_getElem? (i := 1507) (by decide +kernel), List.mem_of_getElem? (i := 1508) (by decide +kernel)⟩
theorem lw_p73 : lw_okq (⟨"TinStringModel", "lets", "(II)Z"⟩, 63) := ⟨⟨by decide +kernel, by decide +kernel⟩, List.mem_of_getElem? (i := 962) (by decide +kernel), List.mem_of_getElem? (i := 1523) (by decide +kernel), List.mem_of_getElem? (i := 1524) (by decide +kernel)⟩
theorem lw_p74 : lw_okq (⟨"TinStringModel", "wroteAt", "(II)I"⟩, 63) := ⟨⟨by decide +kernel, by decide +kernel⟩, List.mem_of_getElem? (i := 962) (by decide +kernel), List.mem_of_getElem? (i := 1527) (by decide +kernel), List.mem_of_getElem? (i := 1528) (by decide +kernel)⟩
theorem lw_p75 : lw_okq (⟨"TinStringModel", "times", "(I)V"⟩, 63) := ⟨⟨by decide +kernel, by decide +kernel⟩, List.mem_of_getElem? (i := 962) (by decide +kernel), List.mem_of_getElem? (i := 1531) (by decide +kernel), List.mem_of_getElem? (i := 1532) (by decide +kernel)⟩
theorem lw_p76 : lw_okq (⟨"TinStringModel", "isGreater", "()Z"⟩, 63) := ⟨⟨by decide +kernel, by decide +kernel⟩, List.mem_of_getElem? (i := 962) (by decide +kernel), List.mem_of_getElem? (i := 1536) (by decide +kernel), List.mem_of_getElem? (i := 1537) (by decide +kernel)⟩
def lw_privs_5 : List (MethodName × Nat) := [(⟨"TinStringModel", "arePair", "(II)Z"⟩, 63), (⟨"TinStringModel", "isBarred", "(II)Z"⟩, 63), (⟨"TinStringModel", "yardsOf", "(II)I"⟩, 63), (⟨"TinStringModel", "makeStrings", "()V"⟩, 63), (⟨"TinStringModel", "yardsBy", "(II)I"⟩, 63), (⟨"TinStringModel", "isGranted", "(III)Z"⟩, 63), (⟨"TinStringModel", "findTaps", "(I)V"⟩, 63), (⟨"TinStringModel", "rowsOf", "(I)I"⟩, 63), (⟨"TinStringModel", "readNumbers", "([III)I"⟩, 63), (⟨"TinStringModel", "lets", "(II)Z"⟩, 63), (⟨"TinStringModel", "wroteAt", "(II)I"⟩, 63), (⟨"TinStringModel", "times", "(I)V"⟩, 63), (⟨"TinStringModel", "isGreater", "()Z"⟩, 63)]
theorem lw_r5 : ∀ q ∈ lw_privs_5, lw_okq q := List.forall_mem_cons.mpr ⟨lw_p64, List.forall_mem_cons.mpr ⟨lw_p65, List.forall_mem_cons.mpr ⟨lw_p66, List.forall_mem_cons.mpr ⟨lw_p67, List.forall_mem_cons.mpr ⟨lw_p68, List.forall_mem_cons.mpr ⟨lw_p69, List.forall_mem_cons.mpr ⟨lw_p70, List.forall_mem_cons.mpr ⟨lw_p71, List.forall_mem_cons.mpr ⟨lw_p72, List.forall_mem_cons.mpr ⟨lw_p73, List.forall_mem_cons.mpr ⟨lw_p74, List.forall_mem_cons.mpr ⟨lw_p75, List.forall_mem_cons.mpr ⟨lw_p76, fun _ h => absurd h List.not_mem_nil⟩⟩⟩⟩⟩⟩⟩⟩⟩⟩⟩⟩⟩
def lw_privs : List (MethodName × Nat) := lw_privs_1 ++ (lw_privs_2 ++ (lw_privs_3 ++ (lw_privs_4 ++ (lw_privs_5))))
def lw_tbl : List Cond := k2_sels lw_privs ++ tables_1
theorem lw_privs_ok : ∀ q ∈ lw_privs, lw_okq q := by
  show ∀ q ∈ lw_privs_1 ++ (lw_privs_2 ++ (lw_privs_3 ++ (lw_privs_4 ++ (lw_privs_5)))), lw_okq q
  exact List.forall_mem_append.mpr ⟨lw_r1, List.forall_mem_append.mpr ⟨lw_r2, List.forall_mem_append.mpr ⟨lw_r3, List.forall_mem_append.mpr ⟨lw_r4, lw_r5⟩⟩⟩⟩
end
section
/-! THE PURE MACHINE: values are a kind and an integer (0 int, 1 long, 2 a cell, 3 a String constant, 4 a static array, 5 the script, 9 nothing); a world is the list of the cells' kinds (0 int[], 1 long[], 2 byte[], 3 boolean[], 4 int[][], 5 long[][], 6 Row[], 10 + c an object of class c; and how many slots) and their contents. Cell 0 is null; its slots hold the script. -/
abbrev pv := Nat × Int
abbrev pw := List (Nat × Nat) × (Nat → Nat → Int)
/-- a method: its class, its code, its labels, its locals, its answer's kind (7 boolean, 9 none), its depth, its room, its arguments' kinds, whether it is a constructor -/
abbrev pm := Nat × List (Nat × Instr × Nat) × List Nat × Nat × Nat × Nat × Nat × List Nat × Bool
abbrev pq := pm × Nat × List pv × List pv × pw
abbrev pr := Int × pw
def px_own (m : pm) : Nat := m.1
def px_cod (m : pm) : List (Nat × Instr × Nat) := m.2.1
def px_lab (m : pm) : List Nat := m.2.2.1
def px_max (m : pm) : Nat := m.2.2.2.1
def px_ret (m : pm) : Nat := m.2.2.2.2.1
def px_dep (m : pm) : Nat := m.2.2.2.2.2.1
def px_loc (m : pm) : Nat := m.2.2.2.2.2.2.1
def px_arg (m : pm) : List Nat := m.2.2.2.2.2.2.2.1
def px_ini (m : pm) : Bool := m.2.2.2.2.2.2.2.2
def px_find {α : Type} : List (Nat × α) → Nat → Option α
  | [], _ => none
  | (k, a) :: l, n => bif Nat.beq k n then some a else px_find l n
def px_mem : List Nat → Nat → Bool
  | [], _ => false
  | k :: l, n => bif Nat.beq k n then true else px_mem l n
def px_kds : List (Nat × Nat) → Nat → Nat × Nat
  | [], _ => (99, 0)
  | a :: _, 0 => a
  | _ :: l, k + 1 => px_kds l k
def px_kd (w : pw) (r : Int) : Nat × Nat := px_kds w.1 r.toNat
def px_rd (w : pw) (r : Int) (j : Nat) : Int := w.2 r.toNat j
def px_wr (w : pw) (r : Int) (j : Nat) (v : Int) : pw := (w.1, fun a b => if a = r.toNat ∧ b = j then v else w.2 a b)
def px_al (w : pw) (k : Nat × Nat) : pw := (w.1 ++ [k], fun a b => if a = w.1.length then 0 else w.2 a b)
def px_al2 (w : pw) (o i : Nat) (n k : Nat) : pw := (w.1 ++ ((o, n) :: List.replicate n (i, k)), fun a b => if a = w.1.length then (if b < n then (w.1.length : Int) + 1 + b else 0) else if w.1.length < a then 0 else w.2 a b)
def px_w (x : Int) : Int := Int.bmod x 4294967296
def px_wl (x : Int) : Int := Int.bmod x 18446744073709551616
def px_wb (x : Int) : Int := Int.bmod x 256
def px_and (a b : Int) : Int := (Int32.ofInt a &&& Int32.ofInt b).toInt
def px_or (a b : Int) : Int := (Int32.ofInt a ||| Int32.ofInt b).toInt
def px_shl (a b : Int) : Int := (Int32.ofInt a <<< (Int32.ofInt b &&& 31)).toInt
def px_shr (a b : Int) : Int := (Int32.ofInt a >>> (Int32.ofInt b &&& 31)).toInt
def px_ush (a b : Int) : Int := ((Int32.ofInt a).toUInt32 >>> ((Int32.ofInt b).toUInt32 &&& Int32.toUInt32 31)).toInt32.toInt
def px_land (a b : Int) : Int := (Int64.ofInt a &&& Int64.ofInt b).toInt
def px_lshl (a b : Int) : Int := (Int64.ofInt a <<< ((Int32.ofInt b).toInt64 &&& 63)).toInt
def px_lshr (a b : Int) : Int := (Int64.ofInt a >>> ((Int32.ofInt b).toInt64 &&& 63)).toInt
def px_lush (a b : Int) : Int := ((Int64.ofInt a).toUInt64 >>> ((Int32.ofInt b).toInt64.toUInt64 &&& Int64.toUInt64 63)).toInt64.toInt
def px_cmp (a b : Int) : Int := if b < a then 1 else if a = b then 0 else -1
/-- r is an array of kind t that has a place i -/
def px_ga (w : pw) (t : Nat) (r i : Int) : Bool := Nat.beq (px_kd w r).1 t && (decide (0 ≤ i) && decide (i < ((px_kd w r).2 : Int)))
/-- r is an object of class c -/
def px_go (w : pw) (r : Int) (c : Nat) : Bool := Nat.beq (px_kd w r).1 (10 + c)
def px_gb (w : pw) (r i x : Int) : Bool := (px_ga w 2 r i && (decide (-128 ≤ x) && decide (x < 128))) || (px_ga w 3 r i && (decide (0 ≤ x) && decide (x < 2)))
/-- lists of values -/
def px_nth : List pv → Nat → pv
  | [], _ => (9, 0)
  | a :: _, 0 => a
  | _ :: l, k + 1 => px_nth l k
def px_set : List pv → Nat → pv → List pv
  | [], _, _ => []
  | _ :: l, 0, v => v :: l
  | a :: l, k + 1, v => a :: px_set l k v
def px_kil (ls : List pv) : Nat → List pv
  | 0 => ls
  | k + 1 => bif Nat.beq (px_nth ls k).1 1 then px_set ls k (9, 0) else ls
def px_st1 (ls : List pv) (k : Nat) (v : pv) : List pv := px_set (px_kil ls k) k v
def px_st2 (ls : List pv) (k : Nat) (v : pv) : List pv := px_set (px_set (px_kil ls k) k v) (k + 1) (9, 0)
def px_exp : List pv → List pv
  | [] => []
  | a :: l => bif Nat.beq a.1 1 then a :: (9, 0) :: px_exp l else a :: px_exp l
def px_pad : Nat → List pv → List pv
  | 0, l => l
  | n + 1, [] => (9, 0) :: px_pad n []
  | n + 1, a :: l => a :: px_pad n l
def px_ent (m : pm) (args : List pv) : List pv := px_pad (px_max m) (px_exp args)
def px_cat : List pv → Nat
  | [] => 0
  | a :: l => (bif Nat.beq a.1 1 then 2 else 1) + px_cat l
/-- n values off the stack, the first argument first; and the rest -/
def px_pop : Nat → List pv → List pv → Option (List pv × List pv)
  | 0, acc, st => some (acc, st)
  | _ + 1, _, [] => none
  | n + 1, acc, a :: st => px_pop n (a :: acc) st
def px_tys : List pv → List Nat → Bool
  | [], [] => true
  | a :: l, t :: ts => Nat.beq a.1 t && px_tys l ts
  | _, _ => false
abbrev px_A := (Bool × Nat × List pv × List pv × pw) ⊕ (Bool × Int × pw) ⊕ (Nat × Int × Int × Nat × Nat × List pv × List pv × pw) ⊕ (Int × List (Int × Nat) × Nat × List pv × List pv × pw) ⊕ (Bool × pm × List pv × Nat × List pv × List pv × pw)
def px_nx (pc : Nat) (ls st : List pv) (w : pw) : Option px_A := some (.inl (true, pc, ls, st, w))
def px_gd (g : Bool) (pc : Nat) (ls st : List pv) (w : pw) : Option px_A := some (.inl (g, pc, ls, st, w))
def px_tgt (pc : Nat) (off : Int) : Option Nat := match (pc : Int) + off with
  | .ofNat k => some k
  | .negSucc _ => none
def px_i1 (st : List pv) (k : Int → List pv → Option px_A) : Option px_A := match st with
  | (0, x) :: st => k x st
  | _ => none
def px_i2 (st : List pv) (k : Int → Int → List pv → Option px_A) : Option px_A := match st with
  | (0, y) :: (0, x) :: st => k x y st
  | _ => none
def px_l1 (st : List pv) (k : Int → List pv → Option px_A) : Option px_A := match st with
  | (1, x) :: st => k x st
  | _ => none
def px_l2 (st : List pv) (k : Int → Int → List pv → Option px_A) : Option px_A := match st with
  | (1, y) :: (1, x) :: st => k x y st
  | _ => none
def px_li (st : List pv) (k : Int → Int → List pv → Option px_A) : Option px_A := match st with
  | (0, y) :: (1, x) :: st => k x y st
  | _ => none
def px_r1 (st : List pv) (k : Int → List pv → Option px_A) : Option px_A := match st with
  | (2, x) :: st => k x st
  | _ => none
def px_br (pc : Nat) (off : Int) (f : Nat) (ls : List pv) (w : pw) (c : Nat) (x y : Int) (st : List pv) : Option px_A := match px_tgt pc off with
  | some t => some (.inr (.inr (.inl (c, x, y, t, f, ls, st, w))))
  | none => none
def px_ld (t : Nat) (i : Nat) (pc : Nat) (ls st : List pv) (w : pw) : Option px_A := bif Nat.beq (px_nth ls i).1 t then px_nx pc ls ((t, (px_nth ls i).2) :: st) w else none
def px_lda (i : Nat) (pc : Nat) (ls st : List pv) (w : pw) : Option px_A := bif Nat.ble 2 (px_nth ls i).1 && Nat.ble (px_nth ls i).1 5 then px_nx pc ls (px_nth ls i :: st) w else none
def px_frc {α : Type} : List pv → (List pv → α) → α
  | [], k => k []
  | a :: l, k => px_frc l fun l => k (a :: l)
def px_sto (m : pm) (t : Nat) (i : Nat) (pc : Nat) (ls st : List pv) (w : pw) : Option px_A := match st with
  | (s, x) :: st => bif Nat.beq s t && Nat.blt (bif Nat.beq t 1 then i + 1 else i) (px_max m) then (px_frc (bif Nat.beq t 1 then px_st2 ls i (t, x) else px_st1 ls i (t, x)) fun ls => px_nx pc ls st w) else none
  | _ => none
def px_sta' (m : pm) (i : Nat) (pc : Nat) (ls st : List pv) (w : pw) : Option px_A := match st with
  | (s, x) :: st => bif Nat.beq s 2 && Nat.blt i (px_max m) then (px_frc (px_st1 ls i (s, x)) fun ls => px_nx pc ls st w) else none
  | _ => none
def px_ccd : Jvm.ClassFile.Cond → Nat
  | .eq => 0
  | .ne => 1
  | .lt => 2
  | .ge => 3
  | .gt => 4
  | .le => 5
def px_swc (pc : Nat) : Int → List Int → Option (List (Int × Nat))
  | _, [] => some []
  | lo, o :: l => match px_tgt pc o, px_swc pc (lo + 1) l with
    | some t, some r => some ((lo, t) :: r)
    | _, _ => none
def px_aty : ArrayType → Option Nat
  | .int => some 0
  | .long => some 1
  | .byte => some 2
  | .boolean => some 3
  | _ => none
end
section
/-! The methods and the tables of the pure machine: by program, out of the class files' listing. -/
def mc_Book_begin : List (Nat × Instr × Nat) := [(0, .aload_n 0, 1), (1, .iconst 0, 1), (2, .putfield 47, 3), (5, .aload_n 0, 1), (6, .iconst 0, 1), (7, .putfield 51, 3), (10, .aload_n 0, 1), (11, .iconst 0, 1), (12, .putfield 54, 3), (15, .return_, 1)]
def mc_Book_mend : List (Nat × Instr × Nat) := [(0, .aload_n 0, 1), (1, .iload_n 1, 1), (2, .putfield 47, 3), (5, .aload_n 0, 1), (6, .getfield 21, 3), (9, .aload_n 0, 1), (10, .getfield 54, 3), (13, .iload_n 1, 1), (14, .iastore, 1), (15, .aload_n 0, 1), (16, .getfield 24, 3), (19, .aload_n 0, 1), (20, .getfield 54, 3), (23, .iload_n 2, 1), (24, .iastore, 1), (25, .aload_n 0, 1), (26, .getfield 27, 3), (29, .aload_n 0, 1), (30, .getfield 54, 3), (33, .iload_n 3, 1), (34, .iastore, 1), (35, .aload_n 0, 1), (36, .dup, 1), (37, .getfield 54, 3), (40, .iconst 1, 1), (41, .iadd, 1), (42, .putfield 54, 3), (45, .iconst 0, 1), (46, .istore 4, 2), (48, .iconst 0, 1), (49, .istore 5, 2), (51, .iload 5, 2), (53, .aload_n 0, 1), (54, .getfield 54, 3), (57, .if_icmp .ge 30, 3), (60, .iload 4, 2), (62, .aload_n 0, 1), (63, .getfield 24, 3), (66, .iload 5, 2), (68, .iaload, 1), (69, .iload_n 2, 1), (70, .if_icmp .ne 7, 3), (73, .iconst 1, 1), (74, .goto 4, 3), (77, .iconst 0, 1), (78, .iadd, 1), (79, .istore 4, 2), (81, .iinc 5 1, 3), (84, .goto (-33), 3), (87, .iload 4, 2), (89, .ireturn, 1)]
def mc_Book_note : List (Nat × Instr × Nat) := [(0, .aload_n 0, 1), (1, .iload_n 1, 1), (2, .putfield 47, 3), (5, .aload_n 0, 1), (6, .getfield 11, 3), (9, .aload_n 0, 1), (10, .getfield 51, 3), (13, .iload_n 1, 1), (14, .iastore, 1), (15, .aload_n 0, 1), (16, .getfield 15, 3), (19, .aload_n 0, 1), (20, .getfield 51, 3), (23, .iload_n 2, 1), (24, .iastore, 1), (25, .aload_n 0, 1), (26, .getfield 18, 3), (29, .aload_n 0, 1), (30, .getfield 51, 3), (33, .iload_n 3, 1), (34, .iastore, 1), (35, .aload_n 0, 1), (36, .dup, 1), (37, .getfield 51, 3), (40, .iconst 1, 1), (41, .iadd, 1), (42, .putfield 51, 3), (45, .aload_n 0, 1), (46, .getfield 51, 3), (49, .iconst 1, 1), (50, .isub, 1), (51, .ireturn, 1)]
def mc_Book_writtenAsKnown : List (Nat × Instr × Nat) := [(0, .aload_n 0, 1), (1, .getfield 18, 3), (4, .iload_n 1, 1), (5, .iaload, 1), (6, .istore_n 3, 1), (7, .iconst 0, 1), (8, .istore 4, 2), (10, .iload 4, 2), (12, .aload_n 0, 1), (13, .getfield 54, 3), (16, .if_icmp .ge 39, 3), (19, .aload_n 0, 1), (20, .getfield 24, 3), (23, .iload 4, 2), (25, .iaload, 1), (26, .iload_n 1, 1), (27, .if_icmp .ne 22, 3), (30, .aload_n 0, 1), (31, .getfield 21, 3), (34, .iload 4, 2), (36, .iaload, 1), (37, .iload_n 2, 1), (38, .if_icmp .gt 11, 3), (41, .aload_n 0, 1), (42, .getfield 27, 3), (45, .iload 4, 2), (47, .iaload, 1), (48, .istore_n 3, 1), (49, .iinc 4 1, 3), (52, .goto (-42), 3), (55, .iload_n 3, 1), (56, .ireturn, 1)]
def mc_Ear_allWays : List (Nat × Instr × Nat) := [(0, .aload_n 0, 1), (1, .getfield 61, 3), (4, .iconst 1, 1), (5, .iadd, 1), (6, .aload_n 0, 1), (7, .getfield 61, 3), (10, .iconst 1, 1), (11, .iadd, 1), (12, .imul, 1), (13, .istore_n 1, 1), (14, .iload_n 1, 1), (15, .iload_n 1, 1), (16, .imul, 1), (17, .iload_n 1, 1), (18, .imul, 1), (19, .iload_n 1, 1), (20, .imul, 1), (21, .ireturn, 1)]
def mc_Ear_nearest : List (Nat × Instr × Nat) := [(0, .lload_n 1, 1), (1, .lstore_n 3, 1), (2, .sipush 1024, 3), (5, .istore 5, 2), (7, .iconst 0, 1), (8, .istore 6, 2), (10, .iconst 0, 1), (11, .istore 7, 2), (13, .iload 7, 2), (15, .aload_n 0, 1), (16, .getfield 102, 3), (19, .if_icmp .ge 37, 3), (22, .lload_n 3, 1), (23, .l2i, 1), (24, .sipush 1023, 3), (27, .iand, 1), (28, .istore 8, 2), (30, .iload 8, 2), (32, .iload 5, 2), (34, .if_icmp .ge 11, 3), (37, .iload 8, 2), (39, .istore 5, 2), (41, .iload 7, 2), (43, .istore 6, 2), (45, .lload_n 3, 1), (46, .bipush 10, 2), (48, .lshr, 1), (49, .lstore_n 3, 1), (50, .iinc 7 1, 3), (53, .goto (-40), 3), (56, .aload_n 0, 1), (57, .getfield 23, 3), (60, .iload 6, 2), (62, .iaload, 1), (63, .ireturn, 1)]
def mc_Ear_soundsAsEarlier : List (Nat × Instr × Nat) := [(0, .iconst 0, 1), (1, .istore_n 2, 1), (2, .iload_n 2, 1), (3, .aload_n 0, 1), (4, .getfield 102, 3), (7, .if_icmp .ge 73, 3), (10, .aload_n 0, 1), (11, .getfield 13, 3), (14, .aload_n 0, 1), (15, .getfield 23, 3), (18, .iload_n 2, 1), (19, .iaload, 1), (20, .aaload, 1), (21, .astore_n 3, 1), (22, .iconst 0, 1), (23, .istore 4, 2), (25, .iconst 0, 1), (26, .istore 5, 2), (28, .iload 5, 2), (30, .iconst 4, 1), (31, .if_icmp .ge 35, 3), (34, .iload 4, 2), (36, .aload_n 0, 1), (37, .getfield 13, 3), (40, .iload_n 1, 1), (41, .aaload, 1), (42, .iload 5, 2), (44, .iaload, 1), (45, .aload_n 3, 1), (46, .iload 5, 2), (48, .iaload, 1), (49, .if_icmp .ne 7, 3), (52, .iconst 1, 1), (53, .goto 4, 3), (56, .iconst 0, 1), (57, .iadd, 1), (58, .istore 4, 2), (60, .iinc 5 1, 3), (63, .goto (-35), 3), (66, .iload 4, 2), (68, .iconst 4, 1), (69, .if_icmp .ne 5, 3), (72, .iconst 1, 1), (73, .ireturn, 1), (74, .iinc 2 1, 3), (77, .goto (-75), 3), (80, .iconst 0, 1), (81, .ireturn, 1)]
def mc_Line_begin : List (Nat × Instr × Nat) := [(0, .aload_n 0, 1), (1, .iconst 0, 1), (2, .putfield 22, 3), (5, .aload_n 0, 1), (6, .iconst 0, 1), (7, .putfield 25, 3), (10, .aload_n 0, 1), (11, .bipush 10, 2), (13, .putfield 9, 3), (16, .aload_n 0, 1), (17, .iconst 0, 1), (18, .putfield 28, 3), (21, .aload_n 0, 1), (22, .iconst 0, 1), (23, .putfield 31, 3), (26, .aload_n 0, 1), (27, .iconst 0, 1), (28, .putfield 34, 3), (31, .return_, 1)]
def mc_Prod_beOne : List (Nat × Instr × Nat) := [(0, .iconst 0, 1), (1, .istore_n 1, 1), (2, .iload_n 1, 1), (3, .bipush 11, 2), (5, .if_icmp .ge 16, 3), (8, .aload_n 0, 1), (9, .getfield 9, 3), (12, .iload_n 1, 1), (13, .lconst 0, 1), (14, .lastore, 1), (15, .iinc 1 1, 3), (18, .goto (-16), 3), (21, .aload_n 0, 1), (22, .getfield 9, 3), (25, .iconst 0, 1), (26, .lconst 1, 1), (27, .lastore, 1), (28, .return_, 1)]
def mc_Prod_become : List (Nat × Instr × Nat) := [(0, .iconst 0, 1), (1, .istore_n 2, 1), (2, .iload_n 2, 1), (3, .bipush 11, 2), (5, .if_icmp .ge 21, 3), (8, .aload_n 0, 1), (9, .getfield 9, 3), (12, .iload_n 2, 1), (13, .aload_n 1, 1), (14, .getfield 9, 3), (17, .iload_n 2, 1), (18, .laload, 1), (19, .lastore, 1), (20, .iinc 2 1, 3), (23, .goto (-21), 3), (26, .return_, 1)]
def mc_Prod_isAbove : List (Nat × Instr × Nat) := [(0, .bipush 10, 2), (2, .istore_n 2, 1), (3, .iload_n 2, 1), (4, .ifCond .lt 47, 3), (7, .aload_n 0, 1), (8, .getfield 9, 3), (11, .iload_n 2, 1), (12, .laload, 1), (13, .aload_n 1, 1), (14, .getfield 9, 3), (17, .iload_n 2, 1), (18, .laload, 1), (19, .lcmp, 1), (20, .ifCond .eq 25, 3), (23, .aload_n 0, 1), (24, .getfield 9, 3), (27, .iload_n 2, 1), (28, .laload, 1), (29, .aload_n 1, 1), (30, .getfield 9, 3), (33, .iload_n 2, 1), (34, .laload, 1), (35, .lcmp, 1), (36, .ifCond .le 7, 3), (39, .iconst 1, 1), (40, .goto 4, 3), (43, .iconst 0, 1), (44, .ireturn, 1), (45, .iinc 2 (-1), 3), (48, .goto (-45), 3), (51, .iconst 0, 1), (52, .ireturn, 1)]
def mc_Prod_times : List (Nat × Instr × Nat) := [(0, .lconst 0, 1), (1, .lstore_n 2, 1), (2, .iconst 0, 1), (3, .istore 4, 2), (5, .iload 4, 2), (7, .bipush 11, 2), (9, .if_icmp .ge 42, 3), (12, .aload_n 0, 1), (13, .getfield 9, 3), (16, .iload 4, 2), (18, .laload, 1), (19, .iload_n 1, 1), (20, .i2l, 1), (21, .lmul, 1), (22, .lload_n 2, 1), (23, .ladd, 1), (24, .lstore 5, 2), (26, .aload_n 0, 1), (27, .getfield 9, 3), (30, .iload 4, 2), (32, .lload 5, 2), (34, .ldc2_w 13, 3), (37, .land, 1), (38, .lastore, 1), (39, .lload 5, 2), (41, .bipush 32, 2), (43, .lushr, 1), (44, .lstore_n 2, 1), (45, .iinc 4 1, 3), (48, .goto (-43), 3), (51, .return_, 1)]
def mc_Row_become : List (Nat × Instr × Nat) := [(0, .aload_n 0, 1), (1, .aload_n 1, 1), (2, .getfield 22, 3), (5, .putfield 22, 3), (8, .aload_n 0, 1), (9, .aload_n 1, 1), (10, .getfield 26, 3), (13, .putfield 26, 3), (16, .aload_n 0, 1), (17, .aload_n 1, 1), (18, .getfield 29, 3), (21, .putfield 29, 3), (24, .aload_n 0, 1), (25, .aload_n 1, 1), (26, .getfield 33, 3), (29, .putfield 33, 3), (32, .iconst 0, 1), (33, .istore_n 2, 1), (34, .iload_n 2, 1), (35, .bipush 40, 2), (37, .if_icmp .ge 57, 3), (40, .aload_n 0, 1), (41, .getfield 9, 3), (44, .iload_n 2, 1), (45, .aload_n 1, 1), (46, .getfield 9, 3), (49, .iload_n 2, 1), (50, .iaload, 1), (51, .iastore, 1), (52, .aload_n 0, 1), (53, .getfield 13, 3), (56, .iload_n 2, 1), (57, .aload_n 1, 1), (58, .getfield 13, 3), (61, .iload_n 2, 1), (62, .iaload, 1), (63, .iastore, 1), (64, .aload_n 0, 1), (65, .getfield 16, 3), (68, .iload_n 2, 1), (69, .aload_n 1, 1), (70, .getfield 16, 3), (73, .iload_n 2, 1), (74, .iaload, 1), (75, .iastore, 1), (76, .aload_n 0, 1), (77, .getfield 19, 3), (80, .iload_n 2, 1), (81, .aload_n 1, 1), (82, .getfield 19, 3), (85, .iload_n 2, 1), (86, .iaload, 1), (87, .iastore, 1), (88, .iinc 2 1, 3), (91, .goto (-57), 3), (94, .return_, 1)]
def mc_Row_lay : List (Nat × Instr × Nat) := [(0, .aload_n 0, 1), (1, .iload_n 1, 1), (2, .putfield 22, 3), (5, .aload_n 0, 1), (6, .iconst 0, 1), (7, .putfield 26, 3), (10, .aload_n 0, 1), (11, .lconst 0, 1), (12, .putfield 29, 3), (15, .aload_n 0, 1), (16, .lconst 0, 1), (17, .putfield 33, 3), (20, .iconst 0, 1), (21, .istore_n 2, 1), (22, .iload_n 2, 1), (23, .bipush 40, 2), (25, .if_icmp .ge 38, 3), (28, .aload_n 0, 1), (29, .getfield 9, 3), (32, .iload_n 2, 1), (33, .iconst 0, 1), (34, .iastore, 1), (35, .aload_n 0, 1), (36, .getfield 13, 3), (39, .iload_n 2, 1), (40, .iconst 0, 1), (41, .iastore, 1), (42, .aload_n 0, 1), (43, .getfield 16, 3), (46, .iload_n 2, 1), (47, .bipush 100, 2), (49, .iastore, 1), (50, .aload_n 0, 1), (51, .getfield 19, 3), (54, .iload_n 2, 1), (55, .iconst 0, 1), (56, .iastore, 1), (57, .iinc 2 1, 3), (60, .goto (-38), 3), (63, .return_, 1)]
def mc_Row_part : List (Nat × Instr × Nat) := [(0, .iload_n 0, 1), (1, .iload_n 1, 1), (2, .imul, 1), (3, .bipush 100, 2), (5, .idiv, 1), (6, .ireturn, 1)]
def mc_Str_forget : List (Nat × Instr × Nat) := [(0, .aload_n 0, 1), (1, .iconst 0, 1), (2, .putfield 44, 3), (5, .iconst 0, 1), (6, .istore_n 1, 1), (7, .iload_n 1, 1), (8, .bipush 9, 2), (10, .if_icmp .ge 16, 3), (13, .aload_n 0, 1), (14, .getfield 11, 3), (17, .iload_n 1, 1), (18, .iconst 0, 1), (19, .iastore, 1), (20, .iinc 1 1, 3), (23, .goto (-16), 3), (26, .aload_n 0, 1), (27, .getfield 22, 3), (30, .bipush 6, 2), (32, .aaload, 1), (33, .iconst 0, 1), (34, .iconst 0, 1), (35, .iastore, 1), (36, .aload_n 0, 1), (37, .getfield 22, 3), (40, .bipush 7, 2), (42, .aaload, 1), (43, .iconst 0, 1), (44, .iconst 0, 1), (45, .iastore, 1), (46, .aload_n 0, 1), (47, .getfield 22, 3), (50, .bipush 8, 2), (52, .aaload, 1), (53, .iconst 0, 1), (54, .iconst 1, 1), (55, .iastore, 1), (56, .return_, 1)]
def mc_Str_isNamed : List (Nat × Instr × Nat) := [(0, .iload_n 0, 1), (1, .bipush 6, 2), (3, .if_icmp .ge 12, 3), (6, .iload_n 0, 1), (7, .iconst 4, 1), (8, .if_icmp .eq 7, 3), (11, .iconst 1, 1), (12, .goto 4, 3), (15, .iconst 0, 1), (16, .ireturn, 1)]
def mc_Str_number : List (Nat × Instr × Nat) := [(0, .aload_n 0, 1), (1, .getfield 22, 3), (4, .iload_n 1, 1), (5, .aaload, 1), (6, .iload_n 2, 1), (7, .iconst 5, 1), (8, .imul, 1), (9, .iload_n 3, 1), (10, .iadd, 1), (11, .iaload, 1), (12, .ireturn, 1)]
def mc_Str_ofBand : List (Nat × Instr × Nat) := [(0, .iload_n 1, 1), (1, .ifCond .eq 8, 3), (4, .iload_n 1, 1), (5, .iconst 5, 1), (6, .if_icmp .ne 7, 3), (9, .iconst 1, 1), (10, .goto 4, 3), (13, .iconst 0, 1), (14, .istore 4, 2), (16, .aload_n 0, 1), (17, .getfield 22, 3), (20, .iload_n 1, 1), (21, .aaload, 1), (22, .iload_n 2, 1), (23, .iconst 5, 1), (24, .imul, 1), (25, .iload 4, 2), (27, .iadd, 1), (28, .iload_n 3, 1), (29, .iadd, 1), (30, .iaload, 1), (31, .ireturn, 1)]
def mc_Tape_isBlank : List (Nat × Instr × Nat) := [(0, .iload_n 0, 1), (1, .bipush 32, 2), (3, .if_icmp .eq 9, 3), (6, .iload_n 0, 1), (7, .bipush 10, 2), (9, .if_icmp .ne 7, 3), (12, .iconst 1, 1), (13, .goto 4, 3), (16, .iconst 0, 1), (17, .ireturn, 1)]
def mc_Tape_isDigit : List (Nat × Instr × Nat) := [(0, .iload_n 0, 1), (1, .bipush 48, 2), (3, .if_icmp .lt 13, 3), (6, .iload_n 0, 1), (7, .bipush 57, 2), (9, .if_icmp .gt 7, 3), (12, .iconst 1, 1), (13, .goto 4, 3), (16, .iconst 0, 1), (17, .ireturn, 1)]
def mc_Tape_isLetter : List (Nat × Instr × Nat) := [(0, .iload_n 0, 1), (1, .bipush 97, 2), (3, .if_icmp .lt 13, 3), (6, .iload_n 0, 1), (7, .bipush 122, 2), (9, .if_icmp .gt 7, 3), (12, .iconst 1, 1), (13, .goto 4, 3), (16, .iconst 0, 1), (17, .ireturn, 1)]
def mc_Tape_put : List (Nat × Instr × Nat) := [(0, .bipush 24, 2), (2, .istore_n 2, 1), (3, .iload_n 2, 1), (4, .ifCond .lt 42, 3), (7, .aload_n 0, 1), (8, .getfield 15, 3), (11, .sipush 900, 3), (14, .if_icmp .ge 26, 3), (17, .aload_n 0, 1), (18, .getfield 11, 3), (21, .aload_n 0, 1), (22, .getfield 15, 3), (25, .iload_n 1, 1), (26, .iload_n 2, 1), (27, .ishr, 1), (28, .i2b, 1), (29, .bastore, 1), (30, .aload_n 0, 1), (31, .dup, 1), (32, .getfield 15, 3), (35, .iconst 1, 1), (36, .iadd, 1), (37, .putfield 15, 3), (40, .iinc 2 (-8), 3), (43, .goto (-40), 3), (46, .return_, 1)]
def mc_Wish_begin : List (Nat × Instr × Nat) := [(0, .aload_n 0, 1), (1, .iconst 0, 1), (2, .putfield 21, 3), (5, .return_, 1)]
def mc_Wish_isReached : List (Nat × Instr × Nat) := [(0, .iconst 0, 1), (1, .istore_n 3, 1), (2, .iload_n 3, 1), (3, .iload_n 2, 1), (4, .if_icmp .ge 47, 3), (7, .aload_n 0, 1), (8, .getfield 15, 3), (11, .iload_n 1, 1), (12, .iaload, 1), (13, .iload_n 3, 1), (14, .ishr, 1), (15, .iconst 1, 1), (16, .iand, 1), (17, .iconst 1, 1), (18, .if_icmp .ne 27, 3), (21, .aload_n 0, 1), (22, .getfield 18, 3), (25, .iload_n 3, 1), (26, .iaload, 1), (27, .aload_n 0, 1), (28, .getfield 15, 3), (31, .iload_n 1, 1), (32, .iaload, 1), (33, .iand, 1), (34, .aload_n 0, 1), (35, .getfield 15, 3), (38, .iload_n 1, 1), (39, .iaload, 1), (40, .if_icmp .eq 5, 3), (43, .iconst 0, 1), (44, .ireturn, 1), (45, .iinc 3 1, 3), (48, .goto (-46), 3), (51, .iconst 1, 1), (52, .ireturn, 1)]
def mc_Wish_pairOf : List (Nat × Instr × Nat) := [(0, .iload_n 0, 1), (1, .iconst 2, 1), (2, .iload_n 2, 1), (3, .imul, 1), (4, .iload_n 0, 1), (5, .isub, 1), (6, .iconst 1, 1), (7, .isub, 1), (8, .imul, 1), (9, .iconst 2, 1), (10, .idiv, 1), (11, .iload_n 1, 1), (12, .iadd, 1), (13, .iload_n 0, 1), (14, .isub, 1), (15, .iconst 1, 1), (16, .isub, 1), (17, .ireturn, 1)]
def mc_Wish_reachOf : List (Nat × Instr × Nat) := [(0, .iconst 1, 1), (1, .iload_n 1, 1), (2, .ishl, 1), (3, .istore 5, 2), (5, .iconst 0, 1), (6, .istore 6, 2), (8, .iload 6, 2), (10, .iload 4, 2), (12, .if_icmp .ge 67, 3), (15, .iload 5, 2), (17, .istore 7, 2), (19, .iconst 0, 1), (20, .istore 8, 2), (22, .iload 8, 2), (24, .iload_n 3, 1), (25, .if_icmp .ge 44, 3), (28, .iload_n 2, 1), (29, .iload 8, 2), (31, .ishr, 1), (32, .iconst 1, 1), (33, .iand, 1), (34, .iconst 1, 1), (35, .if_icmp .ne 28, 3), (38, .aload_n 0, 1), (39, .getfield 15, 3), (42, .iload 8, 2), (44, .iaload, 1), (45, .iload 5, 2), (47, .iand, 1), (48, .ifCond .eq 15, 3), (51, .iload 7, 2), (53, .aload_n 0, 1), (54, .getfield 15, 3), (57, .iload 8, 2), (59, .iaload, 1), (60, .ior, 1), (61, .istore 7, 2), (63, .iinc 8 1, 3), (66, .goto (-44), 3), (69, .iload 7, 2), (71, .istore 5, 2), (73, .iinc 6 1, 3), (76, .goto (-68), 3), (79, .iload 5, 2), (81, .ireturn, 1)]
def mc_Wish_yardsOf : List (Nat × Instr × Nat) := [(0, .iconst 0, 1), (1, .istore_n 3, 1), (2, .iconst 0, 1), (3, .istore 4, 2), (5, .iload 4, 2), (7, .iload_n 2, 1), (8, .if_icmp .ge 33, 3), (11, .iload_n 3, 1), (12, .iload_n 1, 1), (13, .iload 4, 2), (15, .ishr, 1), (16, .iconst 1, 1), (17, .iand, 1), (18, .iconst 1, 1), (19, .if_icmp .ne 13, 3), (22, .aload_n 0, 1), (23, .getfield 11, 3), (26, .iload 4, 2), (28, .iaload, 1), (29, .goto 4, 3), (32, .iconst 0, 1), (33, .iadd, 1), (34, .istore_n 3, 1), (35, .iinc 4 1, 3), (38, .goto (-33), 3), (41, .iload_n 3, 1), (42, .ireturn, 1)]
def mc_Tin_allWords : List (Nat × Instr × Nat) := [(0, .iconst 1, 1), (1, .aload_n 0, 1), (2, .getfield 19, 3), (5, .getfield 82, 3), (8, .iconst 2, 1), (9, .iaload, 1), (10, .ishl, 1), (11, .iconst 1, 1), (12, .isub, 1), (13, .ireturn, 1)]
def mc_Tin_fault : List (Nat × Instr × Nat) := [(0, .iload_n 1, 1), (1, .ifCond .ne 8, 3), (4, .aload_n 0, 1), (5, .getfield 71, 3), (8, .ireturn, 1), (9, .iload_n 1, 1), (10, .iconst 1, 1), (11, .if_icmp .ne 10, 3), (14, .aload_n 0, 1), (15, .getfield 75, 3), (18, .goto 4, 3), (21, .iconst (-1), 1), (22, .ireturn, 1)]
def mc_Tin_lineLacks : List (Nat × Instr × Nat) := [(0, .aload_n 0, 1), (1, .getfield 19, 3), (4, .getfield 82, 3), (7, .iconst 0, 1), (8, .iaload, 1), (9, .ifCond .eq 15, 3), (12, .aload_n 0, 1), (13, .getfield 19, 3), (16, .getfield 82, 3), (19, .iconst 1, 1), (20, .iaload, 1), (21, .ifCond .ne 7, 3), (24, .iconst 1, 1), (25, .goto 4, 3), (28, .iconst 0, 1), (29, .ireturn, 1)]
def mc_Tin_straighten : List (Nat × Instr × Nat) := [(0, .aload_n 0, 1), (1, .getfield 29, 3), (4, .getfield 137, 3), (7, .aload_n 0, 1), (8, .getfield 29, 3), (11, .getfield 143, 3), (14, .iadd, 1), (15, .istore_n 1, 1), (16, .aload_n 0, 1), (17, .getfield 29, 3), (20, .iconst 0, 1), (21, .putfield 137, 3), (24, .aload_n 0, 1), (25, .getfield 29, 3), (28, .iconst 0, 1), (29, .putfield 143, 3), (32, .iload_n 1, 1), (33, .ireturn, 1)]
def mc_Tin_within : List (Nat × Instr × Nat) := [(0, .iload_n 0, 1), (1, .iload_n 1, 1), (2, .if_icmp .lt 12, 3), (5, .iload_n 0, 1), (6, .iload_n 2, 1), (7, .if_icmp .gt 7, 3), (10, .iconst 1, 1), (11, .goto 4, 3), (14, .iconst 0, 1), (15, .ireturn, 1)]
def mc_Mod_allWays : List (Nat × Instr × Nat) := [(0, .iconst 1, 1), (1, .istore_n 1, 1), (2, .iconst 0, 1), (3, .istore_n 2, 1), (4, .iload_n 2, 1), (5, .bipush 8, 2), (7, .if_icmp .ge 21, 3), (10, .iload_n 1, 1), (11, .aload_n 0, 1), (12, .getfield 17, 3), (15, .bipush 8, 2), (17, .iaload, 1), (18, .iconst 1, 1), (19, .iadd, 1), (20, .imul, 1), (21, .istore_n 1, 1), (22, .iinc 2 1, 3), (25, .goto (-21), 3), (28, .iload_n 1, 1), (29, .ireturn, 1)]
def mc_Mod_allWords : List (Nat × Instr × Nat) := [(0, .iconst 1, 1), (1, .aload_n 0, 1), (2, .getfield 17, 3), (5, .iconst 2, 1), (6, .iaload, 1), (7, .ishl, 1), (8, .iconst 1, 1), (9, .isub, 1), (10, .ireturn, 1)]
def mc_Mod_bearsOf : List (Nat × Instr × Nat) := [(0, .aload_n 0, 1), (1, .getfield 25, 3), (4, .iconst 5, 1), (5, .iload_n 1, 1), (6, .imul, 1), (7, .iaload, 1), (8, .bipush 100, 2), (10, .aload_n 0, 1), (11, .getfield 17, 3), (14, .bipush 6, 2), (16, .iaload, 1), (17, .isub, 1), (18, .imul, 1), (19, .bipush 100, 2), (21, .idiv, 1), (22, .aload_n 0, 1), (23, .getfield 17, 3), (26, .bipush 7, 2), (28, .iaload, 1), (29, .isub, 1), (30, .istore_n 2, 1), (31, .iload_n 2, 1), (32, .ifCond .ge 7, 3), (35, .iconst 0, 1), (36, .goto 4, 3), (39, .iload_n 2, 1), (40, .ireturn, 1)]
def mc_Mod_begin : List (Nat × Instr × Nat) := [(0, .iconst 0, 1), (1, .istore_n 1, 1), (2, .iload_n 1, 1), (3, .bipush 9, 2), (5, .if_icmp .ge 19, 3), (8, .aload_n 0, 1), (9, .getfield 17, 3), (12, .bipush 9, 2), (14, .iload_n 1, 1), (15, .iadd, 1), (16, .iconst 0, 1), (17, .iastore, 1), (18, .iinc 1 1, 3), (21, .goto (-19), 3), (24, .aload_n 0, 1), (25, .getfield 17, 3), (28, .bipush 17, 2), (30, .iconst 1, 1), (31, .iastore, 1), (32, .aload_n 0, 1), (33, .iconst 0, 1), (34, .putfield 207, 3), (37, .return_, 1)]
def mc_Mod_bits : List (Nat × Instr × Nat) := [(0, .iconst 0, 1), (1, .istore_n 1, 1), (2, .iload_n 0, 1), (3, .istore_n 2, 1), (4, .iload_n 2, 1), (5, .ifCond .eq 15, 3), (8, .iinc 1 1, 3), (11, .iload_n 2, 1), (12, .iload_n 2, 1), (13, .iconst 1, 1), (14, .isub, 1), (15, .iand, 1), (16, .istore_n 2, 1), (17, .goto (-13), 3), (20, .iload_n 1, 1), (21, .ireturn, 1)]
def mc_Mod_bounded : List (Nat × Instr × Nat) := [(0, .iload_n 0, 1), (1, .ldc_w 348, 3), (4, .if_icmp .le 9, 3), (7, .ldc_w 348, 3), (10, .goto 17, 3), (13, .iload_n 0, 1), (14, .ldc_w 349, 3), (17, .if_icmp .ge 9, 3), (20, .ldc_w 349, 3), (23, .goto 4, 3), (26, .iload_n 0, 1), (27, .ireturn, 1)]
def mc_Mod_byteAt : List (Nat × Instr × Nat) := [(0, .iload_n 1, 1), (1, .aload_n 0, 1), (2, .getfield 138, 3), (5, .if_icmp .ge 16, 3), (8, .aload_n 0, 1), (9, .getfield 7, 3), (12, .iload_n 1, 1), (13, .baload, 1), (14, .sipush 255, 3), (17, .iand, 1), (18, .goto 4, 3), (21, .iconst (-1), 1), (22, .ireturn, 1)]
def mc_Mod_comes : List (Nat × Instr × Nat) := [(0, .iconst 0, 1), (1, .istore_n 2, 1), (2, .iload_n 2, 1), (3, .iload_n 1, 1), (4, .if_icmp .ge 17, 3), (7, .aload_n 0, 1), (8, .iload_n 2, 1), (9, .aload_n 0, 1), (10, .iload_n 1, 1), (11, .iload_n 2, 1), (12, .iadd, 1), (13, .iaload, 1), (14, .iastore, 1), (15, .iinc 2 1, 3), (18, .goto (-16), 3), (21, .return_, 1)]
def mc_Mod_count : List (Nat × Instr × Nat) := [(0, .iload_n 1, 1), (1, .tableswitch 82 0 6 #[43, 48, 53, 58, 63, 70, 77], 43), (44, .aload_n 0, 1), (45, .getfield 269, 3), (48, .ireturn, 1), (49, .aload_n 0, 1), (50, .getfield 232, 3), (53, .ireturn, 1), (54, .aload_n 0, 1), (55, .getfield 235, 3), (58, .ireturn, 1), (59, .aload_n 0, 1), (60, .getfield 241, 3), (63, .ireturn, 1), (64, .aload_n 0, 1), (65, .getfield 64, 3), (68, .iconst 0, 1), (69, .iaload, 1), (70, .ireturn, 1), (71, .aload_n 0, 1), (72, .getfield 64, 3), (75, .iconst 1, 1), (76, .iaload, 1), (77, .ireturn, 1), (78, .aload_n 0, 1), (79, .getfield 135, 3), (82, .ireturn, 1), (83, .iconst (-1), 1), (84, .ireturn, 1)]
def mc_Mod_end : List (Nat × Instr × Nat) := [(0, .iload_n 1, 1), (1, .ifCond .lt 11, 3), (4, .iload_n 1, 1), (5, .aload_n 0, 1), (6, .getfield 135, 3), (9, .if_icmp .le 5, 3), (12, .iconst (-1), 1), (13, .ireturn, 1), (14, .aload_n 0, 1), (15, .iload_n 1, 1), (16, .putfield 135, 3), (19, .iload_n 1, 1), (20, .ireturn, 1)]
def mc_Mod_fails : List (Nat × Instr × Nat) := [(0, .aload_n 0, 1), (1, .iload_n 1, 1), (2, .putfield 191, 3), (5, .aload_n 0, 1), (6, .aload_n 0, 1), (7, .getfield 160, 3), (10, .putfield 13, 3), (13, .iconst 0, 1), (14, .ireturn, 1)]
def mc_Mod_fault : List (Nat × Instr × Nat) := [(0, .iload_n 1, 1), (1, .ifCond .ne 10, 3), (4, .aload_n 0, 1), (5, .getfield 191, 3), (8, .goto 16, 3), (11, .iload_n 1, 1), (12, .iconst 1, 1), (13, .if_icmp .ne 10, 3), (16, .aload_n 0, 1), (17, .getfield 13, 3), (20, .goto 4, 3), (23, .iconst (-1), 1), (24, .ireturn, 1)]
def mc_Mod_feed : List (Nat × Instr × Nat) := [(0, .aload_n 0, 1), (1, .getfield 135, 3), (4, .bipush 20, 2), (6, .iadd, 1), (7, .sipush 900, 3), (10, .if_icmp .le 6, 3), (13, .bipush (-3), 2), (15, .ireturn, 1), (16, .iconst 0, 1), (17, .istore 6, 2), (19, .iload 6, 2), (21, .iconst 5, 1), (22, .if_icmp .ge 93, 3), (25, .iload 6, 2), (27, .ifCond .ne 7, 3), (30, .iload_n 1, 1), (31, .goto 36, 3), (34, .iload 6, 2), (36, .iconst 1, 1), (37, .if_icmp .ne 7, 3), (40, .iload_n 2, 1), (41, .goto 26, 3), (44, .iload 6, 2), (46, .iconst 2, 1), (47, .if_icmp .ne 7, 3), (50, .iload_n 3, 1), (51, .goto 16, 3), (54, .iload 6, 2), (56, .iconst 3, 1), (57, .if_icmp .ne 8, 3), (60, .iload 4, 2), (62, .goto 5, 3), (65, .iload 5, 2), (67, .istore 7, 2), (69, .bipush 24, 2), (71, .istore 8, 2), (73, .iload 8, 2), (75, .ifCond .lt 34, 3), (78, .aload_n 0, 1), (79, .getfield 7, 3), (82, .aload_n 0, 1), (83, .getfield 135, 3), (86, .iload 7, 2), (88, .iload 8, 2), (90, .ishr, 1), (91, .i2b, 1), (92, .bastore, 1), (93, .aload_n 0, 1), (94, .dup, 1), (95, .getfield 135, 3), (98, .iconst 1, 1), (99, .iadd, 1), (100, .putfield 135, 3), (103, .iinc 8 (-8), 3), (106, .goto (-33), 3), (109, .iinc 6 1, 3), (112, .goto (-93), 3), (115, .aload_n 0, 1), (116, .getfield 135, 3), (119, .ireturn, 1)]
def mc_Mod_hasStuff : List (Nat × Instr × Nat) := [(0, .aload_n 0, 1), (1, .getfield 17, 3), (4, .iconst 0, 1), (5, .iaload, 1), (6, .ifCond .le 7, 3), (9, .iconst 1, 1), (10, .goto 4, 3), (13, .iconst 0, 1), (14, .ireturn, 1)]
def mc_Mod_heard : List (Nat × Instr × Nat) := [(0, .iload_n 0, 1), (1, .ifCond .ge 7, 3), (4, .iconst 0, 1), (5, .goto 15, 3), (8, .iload_n 0, 1), (9, .bipush 9, 2), (11, .if_icmp .le 8, 3), (14, .bipush 9, 2), (16, .goto 4, 3), (19, .iload_n 0, 1), (20, .ireturn, 1)]
def mc_Mod_in : List (Nat × Instr × Nat) := [(0, .iload_n 0, 1), (1, .iload_n 1, 1), (2, .if_icmp .lt 12, 3), (5, .iload_n 0, 1), (6, .iload_n 2, 1), (7, .if_icmp .gt 7, 3), (10, .iconst 1, 1), (11, .goto 4, 3), (14, .iconst 0, 1), (15, .ireturn, 1)]
def mc_Mod_isBarred : List (Nat × Instr × Nat) := [(0, .iconst 0, 1), (1, .istore_n 3, 1), (2, .iload_n 3, 1), (3, .aload_n 0, 1), (4, .getfield 17, 3), (7, .iconst 4, 1), (8, .iaload, 1), (9, .if_icmp .ge 98, 3), (12, .aload_n 0, 1), (13, .getfield 40, 3), (16, .iload_n 3, 1), (17, .iaload, 1), (18, .aload_n 0, 1), (19, .getfield 34, 3), (22, .iload_n 1, 1), (23, .iaload, 1), (24, .isub, 1), (25, .istore 4, 2), (27, .aload_n 0, 1), (28, .getfield 43, 3), (31, .iload_n 3, 1), (32, .iaload, 1), (33, .aload_n 0, 1), (34, .getfield 37, 3), (37, .iload_n 1, 1), (38, .iaload, 1), (39, .isub, 1), (40, .istore 5, 2), (42, .aload_n 0, 1), (43, .getfield 40, 3), (46, .iload_n 3, 1), (47, .iaload, 1), (48, .aload_n 0, 1), (49, .getfield 34, 3), (52, .iload_n 2, 1), (53, .iaload, 1), (54, .isub, 1), (55, .istore 6, 2), (57, .aload_n 0, 1), (58, .getfield 43, 3), (61, .iload_n 3, 1), (62, .iaload, 1), (63, .aload_n 0, 1), (64, .getfield 37, 3), (67, .iload_n 2, 1), (68, .iaload, 1), (69, .isub, 1), (70, .istore 7, 2), (72, .iload 4, 2), (74, .iload 7, 2), (76, .imul, 1), (77, .iload 5, 2), (79, .iload 6, 2), (81, .imul, 1), (82, .if_icmp .ne 19, 3), (85, .iload 4, 2), (87, .iload 6, 2), (89, .imul, 1), (90, .iload 5, 2), (92, .iload 7, 2), (94, .imul, 1), (95, .iadd, 1), (96, .ifCond .gt 5, 3), (99, .iconst 1, 1), (100, .ireturn, 1), (101, .iinc 3 1, 3), (104, .goto (-102), 3), (107, .iconst 0, 1), (108, .ireturn, 1)]
def mc_Mod_isDigit : List (Nat × Instr × Nat) := [(0, .iload_n 0, 1), (1, .bipush 48, 2), (3, .if_icmp .lt 13, 3), (6, .iload_n 0, 1), (7, .bipush 57, 2), (9, .if_icmp .gt 7, 3), (12, .iconst 1, 1), (13, .goto 4, 3), (16, .iconst 0, 1), (17, .ireturn, 1)]
def mc_Mod_isGranted : List (Nat × Instr × Nat) := [(0, .iconst 1, 1), (1, .aload_n 0, 1), (2, .getfield 80, 3), (5, .iload_n 1, 1), (6, .iaload, 1), (7, .ishl, 1), (8, .istore 4, 2), (10, .iconst 0, 1), (11, .istore 5, 2), (13, .iload 5, 2), (15, .iload_n 3, 1), (16, .if_icmp .ge 103, 3), (19, .iload 4, 2), (21, .istore 6, 2), (23, .iconst 0, 1), (24, .istore 7, 2), (26, .iload 7, 2), (28, .aload_n 0, 1), (29, .getfield 377, 3), (32, .if_icmp .ge 81, 3), (35, .iload_n 2, 1), (36, .iload 7, 2), (38, .ishr, 1), (39, .iconst 1, 1), (40, .iand, 1), (41, .ifCond .ne 6, 3), (44, .goto 63, 3), (47, .iload 6, 2), (49, .aload_n 0, 1), (50, .getfield 86, 3), (53, .iload 7, 2), (55, .iaload, 1), (56, .ishr, 1), (57, .iconst 1, 1), (58, .iand, 1), (59, .iconst 1, 1), (60, .if_icmp .ne 17, 3), (63, .iload 4, 2), (65, .iconst 1, 1), (66, .aload_n 0, 1), (67, .getfield 89, 3), (70, .iload 7, 2), (72, .iaload, 1), (73, .ishl, 1), (74, .ior, 1), (75, .istore 4, 2), (77, .iload 6, 2), (79, .aload_n 0, 1), (80, .getfield 89, 3), (83, .iload 7, 2), (85, .iaload, 1), (86, .ishr, 1), (87, .iconst 1, 1), (88, .iand, 1), (89, .iconst 1, 1), (90, .if_icmp .ne 17, 3), (93, .iload 4, 2), (95, .iconst 1, 1), (96, .aload_n 0, 1), (97, .getfield 86, 3), (100, .iload 7, 2), (102, .iaload, 1), (103, .ishl, 1), (104, .ior, 1), (105, .istore 4, 2), (107, .iinc 7 1, 3), (110, .goto (-84), 3), (113, .iinc 5 1, 3), (116, .goto (-103), 3), (119, .iload 4, 2), (121, .aload_n 0, 1), (122, .getfield 83, 3), (125, .iload_n 1, 1), (126, .iaload, 1), (127, .ishr, 1), (128, .iconst 1, 1), (129, .iand, 1), (130, .iconst 1, 1), (131, .if_icmp .ne 7, 3), (134, .iconst 1, 1), (135, .goto 4, 3), (138, .iconst 0, 1), (139, .ireturn, 1)]
def mc_Mod_isGreater : List (Nat × Instr × Nat) := [(0, .bipush 29, 2), (2, .istore_n 1, 1), (3, .iload_n 1, 1), (4, .ifCond .lt 45, 3), (7, .aload_n 0, 1), (8, .getfield 116, 3), (11, .iload_n 1, 1), (12, .iaload, 1), (13, .aload_n 0, 1), (14, .getfield 119, 3), (17, .iload_n 1, 1), (18, .iaload, 1), (19, .if_icmp .eq 24, 3), (22, .aload_n 0, 1), (23, .getfield 116, 3), (26, .iload_n 1, 1), (27, .iaload, 1), (28, .aload_n 0, 1), (29, .getfield 119, 3), (32, .iload_n 1, 1), (33, .iaload, 1), (34, .if_icmp .le 7, 3), (37, .iconst 1, 1), (38, .goto 4, 3), (41, .iconst 0, 1), (42, .ireturn, 1), (43, .iinc 1 (-1), 3), (46, .goto (-43), 3), (49, .iconst 0, 1), (50, .ireturn, 1)]
def mc_Mod_isSmall : List (Nat × Instr × Nat) := [(0, .iload_n 0, 1), (1, .bipush 97, 2), (3, .if_icmp .lt 13, 3), (6, .iload_n 0, 1), (7, .bipush 122, 2), (9, .if_icmp .gt 7, 3), (12, .iconst 1, 1), (13, .goto 4, 3), (16, .iconst 0, 1), (17, .ireturn, 1)]
def mc_Mod_plain : List (Nat × Instr × Nat) := [(0, .iload_n 0, 1), (1, .ifCond .ge 8, 3), (4, .iload_n 0, 1), (5, .ineg, 1), (6, .goto 4, 3), (9, .iload_n 0, 1), (10, .ireturn, 1)]
def mc_Mod_rowsOf : List (Nat × Instr × Nat) := [(0, .iload_n 1, 1), (1, .iconst 1, 1), (2, .if_icmp .ge 5, 3), (5, .iconst 0, 1), (6, .ireturn, 1), (7, .iconst 0, 1), (8, .istore_n 2, 1), (9, .iconst 0, 1), (10, .istore_n 3, 1), (11, .iconst 0, 1), (12, .istore 4, 2), (14, .iconst 1, 1), (15, .istore 5, 2), (17, .iload 5, 2), (19, .iload_n 1, 1), (20, .if_icmp .gt 64, 3), (23, .iload 5, 2), (25, .iconst 2, 1), (26, .irem, 1), (27, .ifCond .ne 7, 3), (30, .iconst 0, 1), (31, .goto 28, 3), (34, .iload 5, 2), (36, .iconst 1, 1), (37, .if_icmp .ne 7, 3), (40, .iconst 1, 1), (41, .goto 18, 3), (44, .iload_n 2, 1), (45, .iload_n 3, 1), (46, .iadd, 1), (47, .iload 5, 2), (49, .iconst 3, 1), (50, .if_icmp .ne 7, 3), (53, .iconst 1, 1), (54, .goto 4, 3), (57, .iconst 0, 1), (58, .iadd, 1), (59, .istore 6, 2), (61, .iload 5, 2), (63, .iconst 2, 1), (64, .irem, 1), (65, .iconst 1, 1), (66, .if_icmp .ne 8, 3), (69, .iload_n 2, 1), (70, .istore_n 3, 1), (71, .iload 6, 2), (73, .istore_n 2, 1), (74, .iload 6, 2), (76, .istore 4, 2), (78, .iinc 5 1, 3), (81, .goto (-64), 3), (84, .iload 4, 2), (86, .ireturn, 1)]
def mc_Mod_straighten : List (Nat × Instr × Nat) := [(0, .aload_n 0, 1), (1, .getfield 226, 3), (4, .aload_n 0, 1), (5, .getfield 229, 3), (8, .iadd, 1), (9, .istore_n 1, 1), (10, .aload_n 0, 1), (11, .iconst 0, 1), (12, .putfield 226, 3), (15, .aload_n 0, 1), (16, .iconst 0, 1), (17, .putfield 229, 3), (20, .iload_n 1, 1), (21, .ireturn, 1)]
def mc_Mod_times : List (Nat × Instr × Nat) := [(0, .lconst 0, 1), (1, .lstore_n 2, 1), (2, .iconst 0, 1), (3, .istore 4, 2), (5, .iload 4, 2), (7, .bipush 30, 2), (9, .if_icmp .ge 45, 3), (12, .aload_n 0, 1), (13, .getfield 116, 3), (16, .iload 4, 2), (18, .iaload, 1), (19, .i2l, 1), (20, .iload_n 1, 1), (21, .i2l, 1), (22, .lmul, 1), (23, .lload_n 2, 1), (24, .ladd, 1), (25, .lstore 5, 2), (27, .aload_n 0, 1), (28, .getfield 116, 3), (31, .iload 4, 2), (33, .lload 5, 2), (35, .ldc2_w 408, 3), (38, .lrem, 1), (39, .l2i, 1), (40, .iastore, 1), (41, .lload 5, 2), (43, .ldc2_w 408, 3), (46, .ldiv, 1), (47, .lstore_n 2, 1), (48, .iinc 4 1, 3), (51, .goto (-46), 3), (54, .return_, 1)]
def mc_Mod_toLeft : List (Nat × Instr × Nat) := [(0, .iload_n 1, 1), (1, .ifCond .ge 17, 3), (4, .aload_n 0, 1), (5, .getfield 67, 3), (8, .iconst 0, 1), (9, .dup2, 1), (10, .laload, 1), (11, .iload_n 2, 1), (12, .i2l, 1), (13, .ladd, 1), (14, .lastore, 1), (15, .goto 13, 3), (18, .aload_n 0, 1), (19, .getfield 77, 3), (22, .iload_n 1, 1), (23, .dup2, 1), (24, .iaload, 1), (25, .iload_n 2, 1), (26, .iadd, 1), (27, .iastore, 1), (28, .return_, 1)]
def mc_Mod_toRight : List (Nat × Instr × Nat) := [(0, .iload_n 1, 1), (1, .aload_n 0, 1), (2, .getfield 64, 3), (5, .iconst 0, 1), (6, .iaload, 1), (7, .if_icmp .ne 17, 3), (10, .aload_n 0, 1), (11, .getfield 67, 3), (14, .iconst 1, 1), (15, .dup2, 1), (16, .laload, 1), (17, .iload_n 2, 1), (18, .i2l, 1), (19, .ladd, 1), (20, .lastore, 1), (21, .goto 13, 3), (24, .aload_n 0, 1), (25, .getfield 74, 3), (28, .iload_n 1, 1), (29, .dup2, 1), (30, .iaload, 1), (31, .iload_n 2, 1), (32, .iadd, 1), (33, .iastore, 1), (34, .return_, 1)]
def mc_Mod_wroteAt : List (Nat × Instr × Nat) := [(0, .aload_n 0, 1), (1, .getfield 104, 3), (4, .iload_n 1, 1), (5, .iaload, 1), (6, .istore_n 3, 1), (7, .iconst 0, 1), (8, .istore 4, 2), (10, .iload 4, 2), (12, .aload_n 0, 1), (13, .getfield 235, 3), (16, .if_icmp .ge 39, 3), (19, .aload_n 0, 1), (20, .getfield 110, 3), (23, .iload 4, 2), (25, .iaload, 1), (26, .iload_n 1, 1), (27, .if_icmp .ne 22, 3), (30, .aload_n 0, 1), (31, .getfield 107, 3), (34, .iload 4, 2), (36, .iaload, 1), (37, .iload_n 2, 1), (38, .if_icmp .gt 11, 3), (41, .aload_n 0, 1), (42, .getfield 113, 3), (45, .iload 4, 2), (47, .iaload, 1), (48, .istore_n 3, 1), (49, .iinc 4 1, 3), (52, .goto (-42), 3), (55, .iload_n 3, 1), (56, .ireturn, 1)]
def mc_Mod_yardsOf : List (Nat × Instr × Nat) := [(0, .aload_n 0, 1), (1, .getfield 34, 3), (4, .iload_n 1, 1), (5, .iaload, 1), (6, .aload_n 0, 1), (7, .getfield 34, 3), (10, .iload_n 2, 1), (11, .iaload, 1), (12, .isub, 1), (13, .istore_n 3, 1), (14, .aload_n 0, 1), (15, .getfield 37, 3), (18, .iload_n 1, 1), (19, .iaload, 1), (20, .aload_n 0, 1), (21, .getfield 37, 3), (24, .iload_n 2, 1), (25, .iaload, 1), (26, .isub, 1), (27, .istore 4, 2), (29, .iconst 0, 1), (30, .istore 5, 2), (32, .iload 5, 2), (34, .iload 5, 2), (36, .imul, 1), (37, .iload_n 3, 1), (38, .iload_n 3, 1), (39, .imul, 1), (40, .iload 4, 2), (42, .iload 4, 2), (44, .imul, 1), (45, .iadd, 1), (46, .if_icmp .ge 9, 3), (49, .iinc 5 1, 3), (52, .goto (-20), 3), (55, .iload 5, 2), (57, .ireturn, 1)]
def mc_Taps_beats : List (Nat × Instr × Nat) := [(0, .iload_n 0, 1), (1, .istore_n 1, 1), (2, .iconst 1, 1), (3, .istore_n 2, 1), (4, .iload_n 2, 1), (5, .getstatic 7, 3), (8, .arraylength, 1), (9, .iconst 1, 1), (10, .isub, 1), (11, .if_icmp .ge 26, 3), (14, .iload_n 1, 1), (15, .getstatic 7, 3), (18, .iload_n 2, 1), (19, .iaload, 1), (20, .if_icmp .lt 17, 3), (23, .iload_n 1, 1), (24, .getstatic 7, 3), (27, .iload_n 2, 1), (28, .iaload, 1), (29, .isub, 1), (30, .istore_n 1, 1), (31, .iinc 2 1, 3), (34, .goto (-30), 3), (37, .iload_n 2, 1), (38, .ireturn, 1)]
def mc_Integer_bitCount : List (Nat × Instr × Nat) := [(0, .iload_n 0, 1), (1, .iload_n 0, 1), (2, .iconst 1, 1), (3, .iushr, 1), (4, .ldc_w 265, 3), (7, .iand, 1), (8, .isub, 1), (9, .istore_n 0, 1), (10, .iload_n 0, 1), (11, .ldc_w 266, 3), (14, .iand, 1), (15, .iload_n 0, 1), (16, .iconst 2, 1), (17, .iushr, 1), (18, .ldc_w 266, 3), (21, .iand, 1), (22, .iadd, 1), (23, .istore_n 0, 1), (24, .iload_n 0, 1), (25, .iload_n 0, 1), (26, .iconst 4, 1), (27, .iushr, 1), (28, .iadd, 1), (29, .ldc_w 267, 3), (32, .iand, 1), (33, .istore_n 0, 1), (34, .iload_n 0, 1), (35, .iload_n 0, 1), (36, .bipush 8, 2), (38, .iushr, 1), (39, .iadd, 1), (40, .istore_n 0, 1), (41, .iload_n 0, 1), (42, .iload_n 0, 1), (43, .bipush 16, 2), (45, .iushr, 1), (46, .iadd, 1), (47, .istore_n 0, 1), (48, .iload_n 0, 1), (49, .bipush 63, 2), (51, .iand, 1), (52, .ireturn, 1)]
def mc_Math_abs : List (Nat × Instr × Nat) := [(0, .iload_n 0, 1), (1, .ifCond .ge 8, 3), (4, .iload_n 0, 1), (5, .ineg, 1), (6, .goto 4, 3), (9, .iload_n 0, 1), (10, .ireturn, 1)]
def mc_Math_max : List (Nat × Instr × Nat) := [(0, .iload_n 0, 1), (1, .iload_n 1, 1), (2, .if_icmp .lt 7, 3), (5, .iload_n 0, 1), (6, .goto 4, 3), (9, .iload_n 1, 1), (10, .ireturn, 1)]
def mc_Math_min : List (Nat × Instr × Nat) := [(0, .iload_n 0, 1), (1, .iload_n 1, 1), (2, .if_icmp .gt 7, 3), (5, .iload_n 0, 1), (6, .goto 4, 3), (9, .iload_n 1, 1), (10, .ireturn, 1)]
def mc_Ear_init : List (Nat × Instr × Nat) := [(0, .aload_n 0, 1), (1, .invokespecial 3, 3), (4, .aload_n 0, 1), (5, .bipush 6, 2), (7, .iconst 4, 1), (8, .multianewarray 11 2, 4), (12, .putfield 13, 3), (15, .aload_n 0, 1), (16, .bipush 6, 2), (18, .iconst 4, 1), (19, .multianewarray 11 2, 4), (23, .putfield 16, 3), (26, .aload_n 0, 1), (27, .bipush 6, 2), (29, .newarray .int, 2), (31, .putfield 19, 3), (34, .aload_n 0, 1), (35, .bipush 6, 2), (37, .newarray .int, 2), (39, .putfield 23, 3), (42, .aload_n 0, 1), (43, .iconst 4, 1), (44, .newarray .int, 2), (46, .putfield 26, 3), (49, .aload_n 0, 1), (50, .iconst 4, 1), (51, .bipush 7, 2), (53, .multianewarray 29 2, 4), (57, .putfield 31, 3), (60, .aload_n 0, 1), (61, .iconst 4, 1), (62, .bipush 7, 2), (64, .multianewarray 11 2, 4), (68, .putfield 34, 3), (71, .return_, 1)]
def mc_Ear_hearRest : List (Nat × Instr × Nat) := [(0, .iconst 0, 1), (1, .istore 5, 2), (3, .iload 5, 2), (5, .aload_n 0, 1), (6, .getfield 26, 3), (9, .iconst 2, 1), (10, .iaload, 1), (11, .if_icmp .ge 101, 3), (14, .lload_n 1, 1), (15, .aload_n 0, 1), (16, .getfield 31, 3), (19, .iconst 2, 1), (20, .aaload, 1), (21, .iload 5, 2), (23, .laload, 1), (24, .ladd, 1), (25, .lstore 6, 2), (27, .iload_n 3, 1), (28, .aload_n 0, 1), (29, .getfield 34, 3), (32, .iconst 2, 1), (33, .aaload, 1), (34, .iload 5, 2), (36, .iaload, 1), (37, .imul, 1), (38, .istore 8, 2), (40, .iconst 0, 1), (41, .istore 9, 2), (43, .iload 9, 2), (45, .aload_n 0, 1), (46, .getfield 26, 3), (49, .iconst 3, 1), (50, .iaload, 1), (51, .if_icmp .ge 55, 3), (54, .aload_n 0, 1), (55, .lload 6, 2), (57, .aload_n 0, 1), (58, .getfield 31, 3), (61, .iconst 3, 1), (62, .aaload, 1), (63, .iload 9, 2), (65, .laload, 1), (66, .ladd, 1), (67, .invokevirtual 98, 3), (70, .istore 10, 2), (72, .iload 10, 2), (74, .aload 4, 2), (76, .arraylength, 1), (77, .if_icmp .ge 23, 3), (80, .aload 4, 2), (82, .iload 10, 2), (84, .dup2, 1), (85, .iaload, 1), (86, .iload 8, 2), (88, .aload_n 0, 1), (89, .getfield 34, 3), (92, .iconst 3, 1), (93, .aaload, 1), (94, .iload 9, 2), (96, .iaload, 1), (97, .imul, 1), (98, .iadd, 1), (99, .iastore, 1), (100, .iinc 9 1, 3), (103, .goto (-60), 3), (106, .iinc 5 1, 3), (109, .goto (-106), 3), (112, .return_, 1)]
def mc_Ear_heardWith : List (Nat × Instr × Nat) := [(0, .iconst 0, 1), (1, .bipush 9, 2), (3, .aload_n 0, 1), (4, .getfield 13, 3), (7, .iload_n 1, 1), (8, .aaload, 1), (9, .iload_n 2, 1), (10, .iaload, 1), (11, .iload_n 3, 1), (12, .iadd, 1), (13, .invokestatic 121, 3), (16, .invokestatic 125, 3), (19, .ireturn, 1)]
def mc_Ear_noiseOf : List (Nat × Instr × Nat) := [(0, .iload_n 1, 1), (1, .istore_n 2, 1), (2, .aload_n 0, 1), (3, .getfield 61, 3), (6, .ineg, 1), (7, .istore_n 3, 1), (8, .iload_n 3, 1), (9, .aload_n 0, 1), (10, .getfield 61, 3), (13, .if_icmp .ge 29, 3), (16, .iload_n 2, 1), (17, .aload_n 0, 1), (18, .getfield 61, 3), (21, .iconst 1, 1), (22, .iadd, 1), (23, .iload_n 3, 1), (24, .invokestatic 116, 3), (27, .isub, 1), (28, .isub, 1), (29, .istore_n 2, 1), (30, .iload_n 2, 1), (31, .ifCond .ge 5, 3), (34, .iload_n 3, 1), (35, .ireturn, 1), (36, .iinc 3 1, 3), (39, .goto (-31), 3), (42, .aload_n 0, 1), (43, .getfield 61, 3), (46, .ireturn, 1)]
def mc_Ear_offFrom : List (Nat × Instr × Nat) := [(0, .lconst 0, 1), (1, .lstore_n 3, 1), (2, .aload_n 0, 1), (3, .getfield 102, 3), (6, .iconst 1, 1), (7, .isub, 1), (8, .istore 5, 2), (10, .iload 5, 2), (12, .ifCond .lt 62, 3), (15, .iload_n 2, 1), (16, .aload_n 0, 1), (17, .getfield 13, 3), (20, .aload_n 0, 1), (21, .getfield 23, 3), (24, .iload 5, 2), (26, .iaload, 1), (27, .aaload, 1), (28, .iload_n 1, 1), (29, .iaload, 1), (30, .isub, 1), (31, .invokestatic 116, 3), (34, .iload_n 2, 1), (35, .aload_n 0, 1), (36, .getfield 13, 3), (39, .aload_n 0, 1), (40, .getfield 23, 3), (43, .iconst 0, 1), (44, .iaload, 1), (45, .aaload, 1), (46, .iload_n 1, 1), (47, .iaload, 1), (48, .isub, 1), (49, .invokestatic 116, 3), (52, .isub, 1), (53, .istore 6, 2), (55, .lload_n 3, 1), (56, .bipush 10, 2), (58, .lshl, 1), (59, .iload 6, 2), (61, .i2l, 1), (62, .ladd, 1), (63, .ldc2_w 128, 3), (66, .ladd, 1), (67, .lstore_n 3, 1), (68, .iinc 5 (-1), 3), (71, .goto (-61), 3), (74, .lload_n 3, 1), (75, .lreturn, 1)]
def mc_Ear_thinkOf : List (Nat × Instr × Nat) := [(0, .aload_n 0, 1), (1, .iconst 0, 1), (2, .putfield 102, 3), (5, .iconst 0, 1), (6, .istore_n 2, 1), (7, .iload_n 2, 1), (8, .aload_n 0, 1), (9, .getfield 54, 3), (12, .if_icmp .ge 46, 3), (15, .iload_n 1, 1), (16, .iload_n 2, 1), (17, .ishr, 1), (18, .iconst 1, 1), (19, .iand, 1), (20, .iconst 1, 1), (21, .if_icmp .ne 31, 3), (24, .aload_n 0, 1), (25, .iload_n 2, 1), (26, .invokevirtual 105, 3), (29, .ifCond .ne 23, 3), (32, .aload_n 0, 1), (33, .getfield 23, 3), (36, .aload_n 0, 1), (37, .getfield 102, 3), (40, .iload_n 2, 1), (41, .iastore, 1), (42, .aload_n 0, 1), (43, .dup, 1), (44, .getfield 102, 3), (47, .iconst 1, 1), (48, .iadd, 1), (49, .putfield 102, 3), (52, .iinc 2 1, 3), (55, .goto (-48), 3), (58, .return_, 1)]
def mc_Line_init : List (Nat × Instr × Nat) := [(0, .aload_n 0, 1), (1, .invokespecial 3, 3), (4, .aload_n 0, 1), (5, .bipush 10, 2), (7, .putfield 9, 3), (10, .aload_n 0, 1), (11, .iconst 4, 1), (12, .newarray .int, 2), (14, .putfield 15, 3), (17, .aload_n 0, 1), (18, .iconst 4, 1), (19, .newarray .int, 2), (21, .putfield 19, 3), (24, .return_, 1)]
def mc_Line_asLevel : List (Nat × Instr × Nat) := [(0, .bipush 9, 2), (2, .iload_n 0, 1), (3, .sipush 500, 3), (6, .idiv, 1), (7, .invokestatic 77, 3), (10, .ireturn, 1)]
def mc_Line_enters : List (Nat × Instr × Nat) := [(0, .sipush 1000, 3), (3, .iload_n 3, 1), (4, .imul, 1), (5, .aload_n 1, 1), (6, .iconst 1, 1), (7, .aload_n 0, 1), (8, .getfield 25, 3), (11, .iload 4, 2), (13, .invokevirtual 53, 3), (16, .imul, 1), (17, .bipush 100, 2), (19, .idiv, 1), (20, .istore 5, 2), (22, .iload 5, 2), (24, .iload_n 2, 1), (25, .imul, 1), (26, .bipush 100, 2), (28, .idiv, 1), (29, .ireturn, 1)]
def mc_Line_overBends : List (Nat × Instr × Nat) := [(0, .iload_n 2, 1), (1, .istore 5, 2), (3, .iconst 0, 1), (4, .istore 6, 2), (6, .iload 6, 2), (8, .aload_n 0, 1), (9, .getfield 31, 3), (12, .if_icmp .ge 75, 3), (15, .iconst 0, 1), (16, .istore 7, 2), (18, .aload_n 0, 1), (19, .getfield 15, 3), (22, .iload 6, 2), (24, .iaload, 1), (25, .iconst (-1), 1), (26, .if_icmp .eq 45, 3), (29, .aload_n 1, 1), (30, .iconst 5, 1), (31, .aload_n 0, 1), (32, .getfield 15, 3), (35, .iload 6, 2), (37, .iaload, 1), (38, .iconst 0, 1), (39, .invokevirtual 39, 3), (42, .istore 8, 2), (44, .bipush 100, 2), (46, .bipush 10, 2), (48, .iload 8, 2), (50, .aload_n 1, 1), (51, .iconst 5, 1), (52, .aload_n 0, 1), (53, .getfield 15, 3), (56, .iload 6, 2), (58, .iaload, 1), (59, .iload_n 3, 1), (60, .invokevirtual 53, 3), (63, .isub, 1), (64, .invokestatic 56, 3), (67, .imul, 1), (68, .isub, 1), (69, .istore 7, 2), (71, .iload 5, 2), (73, .iload 7, 2), (75, .imul, 1), (76, .bipush 100, 2), (78, .idiv, 1), (79, .istore 5, 2), (81, .iinc 6 1, 3), (84, .goto (-78), 3), (87, .iconst 0, 1), (88, .istore 6, 2), (90, .iload 6, 2), (92, .iload 4, 2), (94, .if_icmp .ge 27, 3), (97, .iload 5, 2), (99, .bipush 100, 2), (101, .aload_n 0, 1), (102, .getfield 19, 3), (105, .iload 6, 2), (107, .iaload, 1), (108, .isub, 1), (109, .imul, 1), (110, .bipush 100, 2), (112, .idiv, 1), (113, .istore 5, 2), (115, .iinc 6 1, 3), (118, .goto (-28), 3), (121, .iload 5, 2), (123, .ireturn, 1)]
def mc_Line_overYards : List (Nat × Instr × Nat) := [(0, .sipush 1000, 3), (3, .aload_n 1, 1), (4, .iconst 0, 1), (5, .aload_n 0, 1), (6, .getfield 22, 3), (9, .iload_n 3, 1), (10, .invokevirtual 53, 3), (13, .isub, 1), (14, .istore 5, 2), (16, .iload_n 2, 1), (17, .istore 6, 2), (19, .iconst 0, 1), (20, .istore 7, 2), (22, .iload 7, 2), (24, .iload 4, 2), (26, .if_icmp .ge 20, 3), (29, .iload 6, 2), (31, .iload 5, 2), (33, .imul, 1), (34, .sipush 1000, 3), (37, .idiv, 1), (38, .istore 6, 2), (40, .iinc 7 1, 3), (43, .goto (-21), 3), (46, .iload 6, 2), (48, .ireturn, 1)]
def mc_Line_strength : List (Nat × Instr × Nat) := [(0, .aload_n 1, 1), (1, .iconst 0, 1), (2, .aload_n 0, 1), (3, .getfield 22, 3), (6, .iconst 0, 1), (7, .invokevirtual 39, 3), (10, .bipush 100, 2), (12, .aload_n 1, 1), (13, .bipush 6, 2), (15, .iconst 0, 1), (16, .iconst 0, 1), (17, .invokevirtual 39, 3), (20, .isub, 1), (21, .imul, 1), (22, .bipush 100, 2), (24, .idiv, 1), (25, .istore_n 2, 1), (26, .iconst 0, 1), (27, .iload_n 2, 1), (28, .aload_n 1, 1), (29, .bipush 7, 2), (31, .iconst 0, 1), (32, .iconst 0, 1), (33, .invokevirtual 39, 3), (36, .isub, 1), (37, .invokestatic 43, 3), (40, .ireturn, 1)]
def mc_Prod_init : List (Nat × Instr × Nat) := [(0, .aload_n 0, 1), (1, .invokespecial 1, 3), (4, .aload_n 0, 1), (5, .bipush 11, 2), (7, .newarray .long, 2), (9, .putfield 9, 3), (12, .return_, 1)]
def mc_Row_init : List (Nat × Instr × Nat) := [(0, .aload_n 0, 1), (1, .invokespecial 1, 3), (4, .aload_n 0, 1), (5, .bipush 40, 2), (7, .newarray .int, 2), (9, .putfield 9, 3), (12, .aload_n 0, 1), (13, .bipush 40, 2), (15, .newarray .int, 2), (17, .putfield 13, 3), (20, .aload_n 0, 1), (21, .bipush 40, 2), (23, .newarray .int, 2), (25, .putfield 16, 3), (28, .aload_n 0, 1), (29, .bipush 40, 2), (31, .newarray .int, 2), (33, .putfield 19, 3), (36, .return_, 1)]
def mc_Row_bounded : List (Nat × Instr × Nat) := [(0, .ldc 36, 2), (2, .ldc 37, 2), (4, .iload_n 0, 1), (5, .invokestatic 38, 3), (8, .invokestatic 44, 3), (11, .ireturn, 1)]
def mc_Str_init : List (Nat × Instr × Nat) := [(0, .aload_n 0, 1), (1, .invokespecial 3, 3), (4, .aload_n 0, 1), (5, .bipush 9, 2), (7, .newarray .int, 2), (9, .putfield 11, 3), (12, .aload_n 0, 1), (13, .bipush 9, 2), (15, .bipush 6, 2), (17, .multianewarray 15 2, 4), (21, .putfield 17, 3), (24, .aload_n 0, 1), (25, .bipush 9, 2), (27, .bipush 30, 2), (29, .multianewarray 20 2, 4), (33, .putfield 22, 3), (36, .aload_n 0, 1), (37, .getfield 22, 3), (40, .bipush 8, 2), (42, .aaload, 1), (43, .iconst 0, 1), (44, .iconst 1, 1), (45, .iastore, 1), (46, .return_, 1)]
def mc_Str_isOneAt : List (Nat × Instr × Nat) := [(0, .iconst 0, 1), (1, .istore 4, 2), (3, .iload 4, 2), (5, .aload_n 0, 1), (6, .getfield 11, 3), (9, .iload_n 1, 1), (10, .iaload, 1), (11, .if_icmp .ge 35, 3), (14, .aload_n 0, 1), (15, .iload_n 1, 1), (16, .iload 4, 2), (18, .iconst 0, 1), (19, .invokevirtual 82, 3), (22, .iload_n 2, 1), (23, .if_icmp .ne 17, 3), (26, .aload_n 0, 1), (27, .iload_n 1, 1), (28, .iload 4, 2), (30, .iconst 1, 1), (31, .invokevirtual 82, 3), (34, .iload_n 3, 1), (35, .if_icmp .ne 5, 3), (38, .iconst 1, 1), (39, .ireturn, 1), (40, .iinc 4 1, 3), (43, .goto (-40), 3), (46, .iconst 0, 1), (47, .ireturn, 1)]
def mc_Tape_init : List (Nat × Instr × Nat) := [(0, .aload_n 0, 1), (1, .invokespecial 3, 3), (4, .aload_n 0, 1), (5, .sipush 900, 3), (8, .newarray .byte, 2), (10, .putfield 11, 3), (13, .return_, 1)]
def mc_Tape_readNumber : List (Nat × Instr × Nat) := [(0, .aload_n 0, 1), (1, .getfield 19, 3), (4, .aload_n 0, 1), (5, .getfield 15, 3), (8, .if_icmp .ge 55, 3), (11, .aload_n 0, 1), (12, .getfield 11, 3), (15, .aload_n 0, 1), (16, .getfield 19, 3), (19, .baload, 1), (20, .invokestatic 45, 3), (23, .ifCond .eq 40, 3), (26, .aload_n 0, 1), (27, .aload_n 0, 1), (28, .getfield 33, 3), (31, .bipush 10, 2), (33, .imul, 1), (34, .aload_n 0, 1), (35, .getfield 11, 3), (38, .aload_n 0, 1), (39, .getfield 19, 3), (42, .baload, 1), (43, .bipush 48, 2), (45, .isub, 1), (46, .iadd, 1), (47, .putfield 33, 3), (50, .aload_n 0, 1), (51, .dup, 1), (52, .getfield 19, 3), (55, .iconst 1, 1), (56, .iadd, 1), (57, .putfield 19, 3), (60, .goto (-60), 3), (63, .aload_n 0, 1), (64, .aload_n 0, 1), (65, .getfield 19, 3), (68, .aload_n 0, 1), (69, .getfield 26, 3), (72, .isub, 1), (73, .iconst 4, 1), (74, .if_icmp .le 7, 3), (77, .iconst 1, 1), (78, .goto 4, 3), (81, .iconst 3, 1), (82, .putfield 36, 3), (85, .return_, 1)]
def mc_Tape_readWord : List (Nat × Instr × Nat) := [(0, .aload_n 0, 1), (1, .getfield 19, 3), (4, .aload_n 0, 1), (5, .getfield 15, 3), (8, .if_icmp .ge 59, 3), (11, .aload_n 0, 1), (12, .getfield 11, 3), (15, .aload_n 0, 1), (16, .getfield 19, 3), (19, .baload, 1), (20, .invokestatic 39, 3), (23, .ifCond .eq 44, 3), (26, .aload_n 0, 1), (27, .aload_n 0, 1), (28, .getfield 29, 3), (31, .ldc2_w 51, 3), (34, .lmul, 1), (35, .aload_n 0, 1), (36, .getfield 11, 3), (39, .aload_n 0, 1), (40, .getfield 19, 3), (43, .baload, 1), (44, .bipush 97, 2), (46, .isub, 1), (47, .iconst 1, 1), (48, .iadd, 1), (49, .i2l, 1), (50, .ladd, 1), (51, .putfield 29, 3), (54, .aload_n 0, 1), (55, .dup, 1), (56, .getfield 19, 3), (59, .iconst 1, 1), (60, .iadd, 1), (61, .putfield 19, 3), (64, .goto (-64), 3), (67, .aload_n 0, 1), (68, .aload_n 0, 1), (69, .getfield 19, 3), (72, .aload_n 0, 1), (73, .getfield 26, 3), (76, .isub, 1), (77, .bipush 8, 2), (79, .if_icmp .le 7, 3), (82, .iconst 1, 1), (83, .goto 4, 3), (86, .iconst 2, 1), (87, .putfield 36, 3), (90, .return_, 1)]
def mc_Wish_init : List (Nat × Instr × Nat) := [(0, .aload_n 0, 1), (1, .invokespecial 3, 3), (4, .aload_n 0, 1), (5, .bipush 10, 2), (7, .newarray .int, 2), (9, .putfield 11, 3), (12, .aload_n 0, 1), (13, .bipush 10, 2), (15, .newarray .int, 2), (17, .putfield 15, 3), (20, .aload_n 0, 1), (21, .iconst 5, 1), (22, .newarray .int, 2), (24, .putfield 18, 3), (27, .return_, 1)]
def mc_Wish_add : List (Nat × Instr × Nat) := [(0, .aload_n 0, 1), (1, .dup, 1), (2, .getfield 21, 3), (5, .iconst 1, 1), (6, .iload_n 1, 1), (7, .ishl, 1), (8, .ior, 1), (9, .putfield 21, 3), (12, .aload_n 0, 1), (13, .getfield 21, 3), (16, .invokestatic 25, 3), (19, .ireturn, 1)]
def mc_Wish_grants : List (Nat × Instr × Nat) := [(0, .iconst 0, 1), (1, .istore 5, 2), (3, .iload 5, 2), (5, .iload_n 3, 1), (6, .if_icmp .ge 26, 3), (9, .aload_n 0, 1), (10, .getfield 18, 3), (13, .iload 5, 2), (15, .aload_n 0, 1), (16, .iload 5, 2), (18, .iload_n 1, 1), (19, .iload_n 2, 1), (20, .iload 4, 2), (22, .invokevirtual 70, 3), (25, .iastore, 1), (26, .iinc 5 1, 3), (29, .goto (-26), 3), (32, .iconst 0, 1), (33, .istore 5, 2), (35, .iload 5, 2), (37, .iload_n 2, 1), (38, .if_icmp .ge 34, 3), (41, .aload_n 0, 1), (42, .getfield 21, 3), (45, .iload 5, 2), (47, .ishr, 1), (48, .iconst 1, 1), (49, .iand, 1), (50, .iconst 1, 1), (51, .if_icmp .ne 15, 3), (54, .aload_n 0, 1), (55, .iload 5, 2), (57, .iload_n 3, 1), (58, .invokevirtual 74, 3), (61, .ifCond .ne 5, 3), (64, .iconst 0, 1), (65, .ireturn, 1), (66, .iinc 5 1, 3), (69, .goto (-34), 3), (72, .iconst 1, 1), (73, .ireturn, 1)]
def mc_Wish_isBetween : List (Nat × Instr × Nat) := [(0, .iload_n 0, 1), (1, .iconst 0, 1), (2, .iload_n 1, 1), (3, .invokestatic 44, 3), (6, .if_icmp .lt 16, 3), (9, .iload_n 0, 1), (10, .iconst 0, 1), (11, .iload_n 1, 1), (12, .invokestatic 50, 3), (15, .if_icmp .gt 7, 3), (18, .iconst 1, 1), (19, .goto 4, 3), (22, .iconst 0, 1), (23, .ireturn, 1)]
def mc_Tin_cell : List (Nat × Instr × Nat) := [(0, .iload_n 1, 1), (1, .iconst 0, 1), (2, .aload_n 0, 1), (3, .getfield 57, 3), (6, .getfield 223, 3), (9, .iconst 1, 1), (10, .isub, 1), (11, .invokestatic 85, 3), (14, .ifCond .eq 25, 3), (17, .iload_n 2, 1), (18, .iconst 0, 1), (19, .bipush 100, 2), (21, .invokestatic 85, 3), (24, .ifCond .eq 15, 3), (27, .iload_n 3, 1), (28, .iconst 0, 1), (29, .bipush 100, 2), (31, .iload_n 2, 1), (32, .isub, 1), (33, .invokestatic 85, 3), (36, .ifCond .ne 6, 3), (39, .bipush (-2), 2), (41, .ireturn, 1), (42, .aload_n 0, 1), (43, .getfield 57, 3), (46, .getfield 226, 3), (49, .iload_n 1, 1), (50, .iload_n 2, 1), (51, .iastore, 1), (52, .aload_n 0, 1), (53, .getfield 57, 3), (56, .getfield 229, 3), (59, .iload_n 1, 1), (60, .iload_n 3, 1), (61, .iastore, 1), (62, .iconst 1, 1), (63, .ireturn, 1)]
def mc_Tin_count : List (Nat × Instr × Nat) := [(0, .iload_n 1, 1), (1, .tableswitch 102 0 6 #[43, 51, 59, 67, 78, 86, 94], 43), (44, .aload_n 0, 1), (45, .getfield 19, 3), (48, .getfield 107, 3), (51, .ireturn, 1), (52, .aload_n 0, 1), (53, .getfield 50, 3), (56, .getfield 313, 3), (59, .ireturn, 1), (60, .aload_n 0, 1), (61, .getfield 50, 3), (64, .getfield 319, 3), (67, .ireturn, 1), (68, .aload_n 0, 1), (69, .getfield 43, 3), (72, .getfield 342, 3), (75, .invokestatic 215, 3), (78, .ireturn, 1), (79, .aload_n 0, 1), (80, .getfield 57, 3), (83, .getfield 223, 3), (86, .ireturn, 1), (87, .aload_n 0, 1), (88, .getfield 57, 3), (91, .getfield 238, 3), (94, .ireturn, 1), (95, .aload_n 0, 1), (96, .getfield 10, 3), (99, .getfield 89, 3), (102, .ireturn, 1), (103, .iconst (-1), 1), (104, .ireturn, 1)]
def mc_Tin_end : List (Nat × Instr × Nat) := [(0, .iload_n 1, 1), (1, .iconst 0, 1), (2, .aload_n 0, 1), (3, .getfield 10, 3), (6, .getfield 89, 3), (9, .invokestatic 85, 3), (12, .ifCond .ne 5, 3), (15, .iconst (-1), 1), (16, .ireturn, 1), (17, .aload_n 0, 1), (18, .getfield 10, 3), (21, .iload_n 1, 1), (22, .putfield 89, 3), (25, .iload_n 1, 1), (26, .ireturn, 1)]
def mc_Tin_feed : List (Nat × Instr × Nat) := [(0, .aload_n 0, 1), (1, .getfield 10, 3), (4, .getfield 89, 3), (7, .bipush 20, 2), (9, .iadd, 1), (10, .sipush 900, 3), (13, .if_icmp .le 6, 3), (16, .bipush (-3), 2), (18, .ireturn, 1), (19, .aload_n 0, 1), (20, .getfield 10, 3), (23, .iload_n 1, 1), (24, .invokevirtual 92, 3), (27, .aload_n 0, 1), (28, .getfield 10, 3), (31, .iload_n 2, 1), (32, .invokevirtual 92, 3), (35, .aload_n 0, 1), (36, .getfield 10, 3), (39, .iload_n 3, 1), (40, .invokevirtual 92, 3), (43, .aload_n 0, 1), (44, .getfield 10, 3), (47, .iload 4, 2), (49, .invokevirtual 92, 3), (52, .aload_n 0, 1), (53, .getfield 10, 3), (56, .iload 5, 2), (58, .invokevirtual 92, 3), (61, .aload_n 0, 1), (62, .getfield 10, 3), (65, .getfield 89, 3), (68, .ireturn, 1)]
def mc_Tin_goes : List (Nat × Instr × Nat) := [(0, .iload_n 1, 1), (1, .iconst 0, 1), (2, .aload_n 0, 1), (3, .getfield 57, 3), (6, .getfield 223, 3), (9, .iconst 1, 1), (10, .isub, 1), (11, .invokestatic 85, 3), (14, .ifCond .ne 6, 3), (17, .ldc 241, 2), (19, .ireturn, 1), (20, .iload_n 2, 1), (21, .tableswitch 71 0 3 #[31, 41, 51, 61], 31), (52, .aload_n 0, 1), (53, .getfield 57, 3), (56, .getfield 242, 3), (59, .iload_n 1, 1), (60, .iaload, 1), (61, .ireturn, 1), (62, .aload_n 0, 1), (63, .getfield 57, 3), (66, .getfield 245, 3), (69, .iload_n 1, 1), (70, .iaload, 1), (71, .ireturn, 1), (72, .aload_n 0, 1), (73, .getfield 57, 3), (76, .getfield 226, 3), (79, .iload_n 1, 1), (80, .iaload, 1), (81, .ireturn, 1), (82, .aload_n 0, 1), (83, .getfield 57, 3), (86, .getfield 229, 3), (89, .iload_n 1, 1), (90, .iaload, 1), (91, .ireturn, 1), (92, .ldc 241, 2), (94, .ireturn, 1)]
def mc_Tin_isBand : List (Nat × Instr × Nat) := [(0, .iload_n 0, 1), (1, .iconst 0, 1), (2, .iconst 3, 1), (3, .invokestatic 85, 3), (6, .ireturn, 1)]
def mc_Tin_isOne : List (Nat × Instr × Nat) := [(0, .iload_n 2, 1), (1, .iconst 0, 1), (2, .aload_n 0, 1), (3, .getfield 19, 3), (6, .getfield 82, 3), (9, .iload_n 1, 1), (10, .iaload, 1), (11, .iconst 1, 1), (12, .isub, 1), (13, .invokestatic 85, 3), (16, .ireturn, 1)]
def mc_Tin_isStep : List (Nat × Instr × Nat) := [(0, .iload_n 1, 1), (1, .aload_n 0, 1), (2, .getfield 50, 3), (5, .getfield 307, 3), (8, .sipush 999, 3), (11, .invokestatic 85, 3), (14, .ireturn, 1)]
def mc_Tin_keep : List (Nat × Instr × Nat) := [(0, .iload_n 1, 1), (1, .iconst 0, 1), (2, .iconst 2, 1), (3, .invokestatic 85, 3), (6, .ifCond .ne 6, 3), (9, .bipush (-2), 2), (11, .ireturn, 1), (12, .aload_n 0, 1), (13, .getfield 61, 3), (16, .iload_n 1, 1), (17, .aaload, 1), (18, .aload_n 0, 1), (19, .getfield 57, 3), (22, .invokevirtual 257, 3), (25, .aload_n 0, 1), (26, .getfield 57, 3), (29, .getfield 238, 3), (32, .ireturn, 1)]
def mc_Tin_out : List (Nat × Instr × Nat) := [(0, .iload_n 1, 1), (1, .iconst 0, 1), (2, .iconst 1, 1), (3, .invokestatic 85, 3), (6, .ifCond .ne 7, 3), (9, .ldc2_w 248, 3), (12, .lreturn, 1), (13, .iload_n 1, 1), (14, .ifCond .ne 13, 3), (17, .aload_n 0, 1), (18, .getfield 57, 3), (21, .getfield 250, 3), (24, .goto 10, 3), (27, .aload_n 0, 1), (28, .getfield 57, 3), (31, .getfield 254, 3), (34, .lreturn, 1)]
def mc_Tin_stretch : List (Nat × Instr × Nat) := [(0, .iload_n 1, 1), (1, .iconst 2, 1), (2, .bipush 40, 2), (4, .invokestatic 85, 3), (7, .ifCond .ne 6, 3), (10, .bipush (-2), 2), (12, .ireturn, 1), (13, .aload_n 0, 1), (14, .getfield 57, 3), (17, .iload_n 1, 1), (18, .invokevirtual 78, 3), (21, .iload_n 1, 1), (22, .ireturn, 1)]
def mc_Tin_take : List (Nat × Instr × Nat) := [(0, .iload_n 1, 1), (1, .iconst 0, 1), (2, .iconst 2, 1), (3, .invokestatic 85, 3), (6, .ifCond .ne 6, 3), (9, .bipush (-2), 2), (11, .ireturn, 1), (12, .aload_n 0, 1), (13, .getfield 61, 3), (16, .iload_n 1, 1), (17, .aaload, 1), (18, .getfield 223, 3), (21, .ifCond .ne 6, 3), (24, .bipush (-4), 2), (26, .ireturn, 1), (27, .aload_n 0, 1), (28, .getfield 57, 3), (31, .aload_n 0, 1), (32, .getfield 61, 3), (35, .iload_n 1, 1), (36, .aaload, 1), (37, .invokevirtual 257, 3), (40, .aload_n 0, 1), (41, .getfield 57, 3), (44, .getfield 238, 3), (47, .ireturn, 1)]
def mc_Tin_tie : List (Nat × Instr × Nat) := [(0, .iload_n 1, 1), (1, .iconst 0, 1), (2, .bipush 100, 2), (4, .invokestatic 85, 3), (7, .ifCond .ne 6, 3), (10, .bipush (-2), 2), (12, .ireturn, 1), (13, .aload_n 0, 1), (14, .getfield 29, 3), (17, .getfield 143, 3), (20, .iconst 4, 1), (21, .if_icmp .lt 6, 3), (24, .bipush (-3), 2), (26, .ireturn, 1), (27, .aload_n 0, 1), (28, .getfield 29, 3), (31, .getfield 146, 3), (34, .aload_n 0, 1), (35, .getfield 29, 3), (38, .getfield 143, 3), (41, .iload_n 1, 1), (42, .iastore, 1), (43, .aload_n 0, 1), (44, .getfield 29, 3), (47, .dup, 1), (48, .getfield 143, 3), (51, .iconst 1, 1), (52, .iadd, 1), (53, .putfield 143, 3), (56, .aload_n 0, 1), (57, .getfield 29, 3), (60, .getfield 143, 3), (63, .ireturn, 1)]
def mc_Mod_ear : List (Nat × Instr × Nat) := [(0, .iconst (-1), 1), (1, .istore_n 2, 1), (2, .iconst 0, 1), (3, .istore_n 3, 1), (4, .iconst 0, 1), (5, .istore 4, 2), (7, .iload 4, 2), (9, .aload_n 0, 1), (10, .getfield 17, 3), (13, .iconst 2, 1), (14, .iaload, 1), (15, .if_icmp .ge 87, 3), (18, .iload_n 1, 1), (19, .iload 4, 2), (21, .ishr, 1), (22, .iconst 1, 1), (23, .iand, 1), (24, .ifCond .ne 6, 3), (27, .goto 69, 3), (30, .iconst 0, 1), (31, .istore 5, 2), (33, .iconst 0, 1), (34, .istore 6, 2), (36, .iload 6, 2), (38, .iconst 4, 1), (39, .if_icmp .ge 37, 3), (42, .iload 5, 2), (44, .aload_n 0, 1), (45, .getfield 55, 3), (48, .iconst 4, 1), (49, .iload 4, 2), (51, .imul, 1), (52, .iload 6, 2), (54, .iadd, 1), (55, .iaload, 1), (56, .aload_n 0, 1), (57, .getfield 58, 3), (60, .iload 6, 2), (62, .iaload, 1), (63, .isub, 1), (64, .invokestatic 287, 3), (67, .iadd, 1), (68, .istore 5, 2), (70, .iinc 6 1, 3), (73, .goto (-37), 3), (76, .iload_n 2, 1), (77, .iconst (-1), 1), (78, .if_icmp .eq 12, 3), (81, .iload 5, 2), (83, .iload_n 3, 1), (84, .if_icmp .lt 6, 3), (87, .goto 9, 3), (90, .iload 4, 2), (92, .istore_n 2, 1), (93, .iload 5, 2), (95, .istore_n 3, 1), (96, .iinc 4 1, 3), (99, .goto (-92), 3), (102, .iload_n 2, 1), (103, .ireturn, 1)]
def mc_Mod_findTaps : List (Nat × Instr × Nat) := [(0, .iload_n 1, 1), (1, .istore_n 2, 1), (2, .iconst 1, 1), (3, .istore_n 3, 1), (4, .iload_n 2, 1), (5, .aload_n 0, 1), (6, .iload_n 3, 1), (7, .invokevirtual 389, 3), (10, .if_icmp .lt 17, 3), (13, .iload_n 2, 1), (14, .aload_n 0, 1), (15, .iload_n 3, 1), (16, .invokevirtual 389, 3), (19, .isub, 1), (20, .istore_n 2, 1), (21, .iinc 3 1, 3), (24, .goto (-20), 3), (27, .aload_n 0, 1), (28, .iload_n 3, 1), (29, .putfield 392, 3), (32, .aload_n 0, 1), (33, .iconst 0, 1), (34, .putfield 395, 3), (37, .aload_n 0, 1), (38, .iconst 0, 1), (39, .putfield 398, 3), (42, .iload_n 3, 1), (43, .ifCond .le 91, 3), (46, .iload_n 3, 1), (47, .iconst 1, 1), (48, .if_icmp .ne 7, 3), (51, .iconst 1, 1), (52, .goto 10, 3), (55, .aload_n 0, 1), (56, .iload_n 3, 1), (57, .iconst 2, 1), (58, .isub, 1), (59, .invokevirtual 389, 3), (62, .istore 4, 2), (64, .iload_n 2, 1), (65, .iload 4, 2), (67, .if_icmp .lt 7, 3), (70, .iconst 1, 1), (71, .goto 4, 3), (74, .iconst 0, 1), (75, .istore 5, 2), (77, .iload 5, 2), (79, .ifCond .eq 8, 3), (82, .iload_n 2, 1), (83, .iload 4, 2), (85, .isub, 1), (86, .istore_n 2, 1), (87, .aload_n 0, 1), (88, .iconst 2, 1), (89, .aload_n 0, 1), (90, .getfield 398, 3), (93, .imul, 1), (94, .iload 5, 2), (96, .ifCond .eq 7, 3), (99, .iconst 1, 1), (100, .goto 4, 3), (103, .iconst 0, 1), (104, .iadd, 1), (105, .putfield 398, 3), (108, .aload_n 0, 1), (109, .dup, 1), (110, .getfield 395, 3), (113, .iconst 1, 1), (114, .iadd, 1), (115, .putfield 395, 3), (118, .iload_n 3, 1), (119, .iload 5, 2), (121, .ifCond .eq 7, 3), (124, .iconst 4, 1), (125, .goto 4, 3), (128, .iconst 2, 1), (129, .isub, 1), (130, .istore_n 3, 1), (131, .goto (-89), 3), (134, .return_, 1)]
def mc_Mod_handsOf : List (Nat × Instr × Nat) := [(0, .aload_n 0, 1), (1, .iload_n 1, 1), (2, .invokevirtual 278, 3), (5, .istore_n 2, 1), (6, .aload_n 0, 1), (7, .getfield 223, 3), (10, .ifCond .eq 11, 3), (13, .aload_n 0, 1), (14, .getfield 223, 3), (17, .iload_n 2, 1), (18, .if_icmp .le 5, 3), (21, .iconst 0, 1), (22, .ireturn, 1), (23, .iconst 2, 1), (24, .aload_n 0, 1), (25, .getfield 223, 3), (28, .imul, 1), (29, .iload_n 2, 1), (30, .if_icmp .lt 8, 3), (33, .bipush 100, 2), (35, .goto 13, 3), (38, .sipush 200, 3), (41, .aload_n 0, 1), (42, .getfield 223, 3), (45, .imul, 1), (46, .iload_n 2, 1), (47, .idiv, 1), (48, .ireturn, 1)]
def mc_Mod_hasLine : List (Nat × Instr × Nat) := [(0, .aload_n 0, 1), (1, .invokevirtual 281, 3), (4, .ifCond .eq 16, 3), (7, .aload_n 0, 1), (8, .getfield 17, 3), (11, .iconst 1, 1), (12, .iaload, 1), (13, .ifCond .le 7, 3), (16, .iconst 1, 1), (17, .goto 4, 3), (20, .iconst 0, 1), (21, .ireturn, 1)]
def mc_Mod_is : List (Nat × Instr × Nat) := [(0, .iload_n 2, 1), (1, .iconst 0, 1), (2, .aload_n 0, 1), (3, .getfield 17, 3), (6, .iload_n 1, 1), (7, .iaload, 1), (8, .iconst 1, 1), (9, .isub, 1), (10, .invokestatic 197, 3), (13, .ireturn, 1)]
def mc_Mod_isBand : List (Nat × Instr × Nat) := [(0, .iload_n 0, 1), (1, .iconst 0, 1), (2, .iconst 3, 1), (3, .invokestatic 197, 3), (6, .ireturn, 1)]
def mc_Mod_isCell : List (Nat × Instr × Nat) := [(0, .iload_n 1, 1), (1, .iconst 0, 1), (2, .aload_n 0, 1), (3, .getfield 64, 3), (6, .iconst 0, 1), (7, .iaload, 1), (8, .iconst 1, 1), (9, .isub, 1), (10, .invokestatic 197, 3), (13, .ireturn, 1)]
def mc_Mod_isSlot : List (Nat × Instr × Nat) := [(0, .iload_n 0, 1), (1, .iconst 0, 1), (2, .iconst 2, 1), (3, .invokestatic 197, 3), (6, .ireturn, 1)]
def mc_Mod_letsBy : List (Nat × Instr × Nat) := [(0, .iload_n 1, 1), (1, .iconst (-1), 1), (2, .if_icmp .ne 7, 3), (5, .iconst 0, 1), (6, .goto 33, 3), (9, .bipush 100, 2), (11, .bipush 10, 2), (13, .aload_n 0, 1), (14, .getfield 46, 3), (17, .iconst 5, 1), (18, .iload_n 1, 1), (19, .imul, 1), (20, .iaload, 1), (21, .aload_n 0, 1), (22, .getfield 46, 3), (25, .iconst 5, 1), (26, .iload_n 1, 1), (27, .imul, 1), (28, .iconst 1, 1), (29, .iadd, 1), (30, .iload_n 2, 1), (31, .iadd, 1), (32, .iaload, 1), (33, .isub, 1), (34, .invokestatic 287, 3), (37, .imul, 1), (38, .isub, 1), (39, .ireturn, 1)]
def mc_Mod_makeStrings : List (Nat × Instr × Nat) := [(0, .aload_n 0, 1), (1, .iconst 0, 1), (2, .putfield 377, 3), (5, .iconst 0, 1), (6, .istore_n 1, 1), (7, .iload_n 1, 1), (8, .aload_n 0, 1), (9, .getfield 17, 3), (12, .iconst 3, 1), (13, .iaload, 1), (14, .if_icmp .ge 87, 3), (17, .iload_n 1, 1), (18, .iconst 1, 1), (19, .iadd, 1), (20, .istore_n 2, 1), (21, .iload_n 2, 1), (22, .aload_n 0, 1), (23, .getfield 17, 3), (26, .iconst 3, 1), (27, .iaload, 1), (28, .if_icmp .ge 67, 3), (31, .aload_n 0, 1), (32, .getfield 86, 3), (35, .aload_n 0, 1), (36, .getfield 377, 3), (39, .iload_n 1, 1), (40, .iastore, 1), (41, .aload_n 0, 1), (42, .getfield 89, 3), (45, .aload_n 0, 1), (46, .getfield 377, 3), (49, .iload_n 2, 1), (50, .iastore, 1), (51, .aload_n 0, 1), (52, .getfield 92, 3), (55, .aload_n 0, 1), (56, .getfield 377, 3), (59, .aload_n 0, 1), (60, .iload_n 1, 1), (61, .iload_n 2, 1), (62, .invokevirtual 371, 3), (65, .ifCond .eq 7, 3), (68, .iconst (-1), 1), (69, .goto 9, 3), (72, .aload_n 0, 1), (73, .iload_n 1, 1), (74, .iload_n 2, 1), (75, .invokevirtual 374, 3), (78, .iastore, 1), (79, .aload_n 0, 1), (80, .dup, 1), (81, .getfield 377, 3), (84, .iconst 1, 1), (85, .iadd, 1), (86, .putfield 377, 3), (89, .iinc 2 1, 3), (92, .goto (-71), 3), (95, .iinc 1 1, 3), (98, .goto (-91), 3), (101, .return_, 1)]
def mc_Mod_newStretch : List (Nat × Instr × Nat) := [(0, .iconst 0, 1), (1, .istore_n 2, 1), (2, .iload_n 2, 1), (3, .sipush 162, 3), (6, .if_icmp .ge 32, 3), (9, .aload_n 0, 1), (10, .getfield 64, 3), (13, .iload_n 2, 1), (14, .iload_n 2, 1), (15, .bipush 82, 2), (17, .bipush 121, 2), (19, .invokestatic 197, 3), (22, .ifCond .eq 8, 3), (25, .bipush 100, 2), (27, .goto 4, 3), (30, .iconst 0, 1), (31, .iastore, 1), (32, .iinc 2 1, 3), (35, .goto (-33), 3), (38, .aload_n 0, 1), (39, .getfield 64, 3), (42, .iconst 0, 1), (43, .iload_n 1, 1), (44, .iastore, 1), (45, .aload_n 0, 1), (46, .getfield 67, 3), (49, .iconst 0, 1), (50, .lconst 0, 1), (51, .lastore, 1), (52, .aload_n 0, 1), (53, .getfield 67, 3), (56, .iconst 1, 1), (57, .lconst 0, 1), (58, .lastore, 1), (59, .return_, 1)]
def mc_Mod_out : List (Nat × Instr × Nat) := [(0, .iload_n 1, 1), (1, .iconst 0, 1), (2, .iconst 1, 1), (3, .invokestatic 197, 3), (6, .ifCond .eq 12, 3), (9, .aload_n 0, 1), (10, .getfield 67, 3), (13, .iload_n 1, 1), (14, .laload, 1), (15, .goto 6, 3), (18, .ldc2_w 363, 3), (21, .lreturn, 1)]
def mc_Mod_send : List (Nat × Instr × Nat) := [(0, .iload_n 1, 1), (1, .iconst 0, 1), (2, .iconst 1, 1), (3, .invokestatic 197, 3), (6, .ifCond .eq 16, 3), (9, .iload_n 2, 1), (10, .sipush (-9999), 3), (13, .sipush 9999, 3), (16, .invokestatic 197, 3), (19, .ifCond .ne 6, 3), (22, .bipush (-2), 2), (24, .ireturn, 1), (25, .iload_n 1, 1), (26, .ifCond .ne 7, 3), (29, .iconst 2, 1), (30, .goto 14, 3), (33, .bipush 42, 2), (35, .aload_n 0, 1), (36, .getfield 64, 3), (39, .iconst 0, 1), (40, .iaload, 1), (41, .iadd, 1), (42, .iconst 1, 1), (43, .isub, 1), (44, .istore_n 3, 1), (45, .aload_n 0, 1), (46, .getfield 64, 3), (49, .iload_n 3, 1), (50, .aload_n 0, 1), (51, .getfield 64, 3), (54, .iload_n 3, 1), (55, .iaload, 1), (56, .iload_n 2, 1), (57, .iadd, 1), (58, .invokestatic 350, 3), (61, .iastore, 1), (62, .aload_n 0, 1), (63, .getfield 64, 3), (66, .iload_n 3, 1), (67, .iaload, 1), (68, .ireturn, 1)]
def mc_Mod_settle : List (Nat × Instr × Nat) := [(0, .aload_n 0, 1), (1, .getfield 17, 3), (4, .bipush 9, 2), (6, .invokestatic 210, 3), (9, .aload_n 0, 1), (10, .getfield 25, 3), (13, .bipush 20, 2), (15, .invokestatic 210, 3), (18, .aload_n 0, 1), (19, .getfield 28, 3), (22, .bipush 16, 2), (24, .invokestatic 210, 3), (27, .aload_n 0, 1), (28, .getfield 31, 3), (31, .bipush 24, 2), (33, .invokestatic 210, 3), (36, .aload_n 0, 1), (37, .getfield 34, 3), (40, .iconst 5, 1), (41, .invokestatic 210, 3), (44, .aload_n 0, 1), (45, .getfield 37, 3), (48, .iconst 5, 1), (49, .invokestatic 210, 3), (52, .aload_n 0, 1), (53, .getfield 40, 3), (56, .iconst 4, 1), (57, .invokestatic 210, 3), (60, .aload_n 0, 1), (61, .getfield 43, 3), (64, .iconst 4, 1), (65, .invokestatic 210, 3), (68, .aload_n 0, 1), (69, .getfield 46, 3), (72, .bipush 20, 2), (74, .invokestatic 210, 3), (77, .aload_n 0, 1), (78, .iconst 0, 1), (79, .putfield 214, 3), (82, .aload_n 0, 1), (83, .iconst 0, 1), (84, .putfield 217, 3), (87, .aload_n 0, 1), (88, .bipush 10, 2), (90, .putfield 220, 3), (93, .aload_n 0, 1), (94, .iconst 0, 1), (95, .putfield 223, 3), (98, .aload_n 0, 1), (99, .iconst 0, 1), (100, .putfield 226, 3), (103, .aload_n 0, 1), (104, .iconst 0, 1), (105, .putfield 229, 3), (108, .aload_n 0, 1), (109, .iconst 0, 1), (110, .putfield 232, 3), (113, .aload_n 0, 1), (114, .iconst 0, 1), (115, .putfield 235, 3), (118, .aload_n 0, 1), (119, .iconst 0, 1), (120, .putfield 238, 3), (123, .aload_n 0, 1), (124, .iconst 0, 1), (125, .putfield 241, 3), (128, .return_, 1)]
def mc_Mod_tickOnce : List (Nat × Instr × Nat) := [(0, .aload_n 0, 1), (1, .getfield 64, 3), (4, .iconst 0, 1), (5, .iaload, 1), (6, .istore_n 1, 1), (7, .iconst 0, 1), (8, .istore_n 2, 1), (9, .iload_n 2, 1), (10, .iload_n 1, 1), (11, .if_icmp .ge 23, 3), (14, .aload_n 0, 1), (15, .getfield 74, 3), (18, .iload_n 2, 1), (19, .iconst 0, 1), (20, .iastore, 1), (21, .aload_n 0, 1), (22, .getfield 77, 3), (25, .iload_n 2, 1), (26, .iconst 0, 1), (27, .iastore, 1), (28, .iinc 2 1, 3), (31, .goto (-22), 3), (34, .iconst 0, 1), (35, .istore_n 2, 1), (36, .iload_n 2, 1), (37, .iload_n 1, 1), (38, .if_icmp .ge 109, 3), (41, .aload_n 0, 1), (42, .getfield 64, 3), (45, .bipush 82, 2), (47, .iload_n 2, 1), (48, .iadd, 1), (49, .iaload, 1), (50, .istore_n 3, 1), (51, .aload_n 0, 1), (52, .getfield 64, 3), (55, .bipush 122, 2), (57, .iload_n 2, 1), (58, .iadd, 1), (59, .iaload, 1), (60, .istore 4, 2), (62, .aload_n 0, 1), (63, .getfield 64, 3), (66, .iconst 2, 1), (67, .iload_n 2, 1), (68, .iadd, 1), (69, .iaload, 1), (70, .istore 5, 2), (72, .aload_n 0, 1), (73, .getfield 64, 3), (76, .bipush 42, 2), (78, .iload_n 2, 1), (79, .iadd, 1), (80, .iaload, 1), (81, .istore 6, 2), (83, .aload_n 0, 1), (84, .iload_n 2, 1), (85, .iconst 1, 1), (86, .iadd, 1), (87, .iload 5, 2), (89, .iload_n 3, 1), (90, .imul, 1), (91, .bipush 100, 2), (93, .idiv, 1), (94, .invokevirtual 353, 3), (97, .aload_n 0, 1), (98, .iload_n 2, 1), (99, .iconst 1, 1), (100, .isub, 1), (101, .iload 5, 2), (103, .iload 4, 2), (105, .imul, 1), (106, .bipush 100, 2), (108, .idiv, 1), (109, .invokevirtual 356, 3), (112, .aload_n 0, 1), (113, .iload_n 2, 1), (114, .iconst 1, 1), (115, .isub, 1), (116, .iload 6, 2), (118, .iload_n 3, 1), (119, .imul, 1), (120, .bipush 100, 2), (122, .idiv, 1), (123, .invokevirtual 356, 3), (126, .aload_n 0, 1), (127, .iload_n 2, 1), (128, .iconst 1, 1), (129, .iadd, 1), (130, .iload 6, 2), (132, .iload 4, 2), (134, .imul, 1), (135, .bipush 100, 2), (137, .idiv, 1), (138, .invokevirtual 353, 3), (141, .iinc 2 1, 3), (144, .goto (-108), 3), (147, .iconst 0, 1), (148, .istore_n 2, 1), (149, .iload_n 2, 1), (150, .iload_n 1, 1), (151, .if_icmp .ge 44, 3), (154, .aload_n 0, 1), (155, .getfield 64, 3), (158, .iconst 2, 1), (159, .iload_n 2, 1), (160, .iadd, 1), (161, .aload_n 0, 1), (162, .getfield 74, 3), (165, .iload_n 2, 1), (166, .iaload, 1), (167, .invokestatic 350, 3), (170, .iastore, 1), (171, .aload_n 0, 1), (172, .getfield 64, 3), (175, .bipush 42, 2), (177, .iload_n 2, 1), (178, .iadd, 1), (179, .aload_n 0, 1), (180, .getfield 77, 3), (183, .iload_n 2, 1), (184, .iaload, 1), (185, .invokestatic 350, 3), (188, .iastore, 1), (189, .iinc 2 1, 3), (192, .goto (-43), 3), (195, .aload_n 0, 1), (196, .getfield 64, 3), (199, .iconst 1, 1), (200, .dup2, 1), (201, .iaload, 1), (202, .iconst 1, 1), (203, .iadd, 1), (204, .iastore, 1), (205, .return_, 1)]
def mc_Mod_tie : List (Nat × Instr × Nat) := [(0, .iload_n 1, 1), (1, .iconst 0, 1), (2, .bipush 100, 2), (4, .invokestatic 197, 3), (7, .ifCond .ne 6, 3), (10, .bipush (-2), 2), (12, .ireturn, 1), (13, .aload_n 0, 1), (14, .getfield 229, 3), (17, .iconst 4, 1), (18, .if_icmp .ne 6, 3), (21, .bipush (-3), 2), (23, .ireturn, 1), (24, .aload_n 0, 1), (25, .getfield 52, 3), (28, .aload_n 0, 1), (29, .getfield 229, 3), (32, .iload_n 1, 1), (33, .iastore, 1), (34, .aload_n 0, 1), (35, .dup, 1), (36, .getfield 229, 3), (39, .iconst 1, 1), (40, .iadd, 1), (41, .putfield 229, 3), (44, .aload_n 0, 1), (45, .getfield 229, 3), (48, .ireturn, 1)]
def mc_Mod_yardsBy : List (Nat × Instr × Nat) := [(0, .iconst 0, 1), (1, .istore_n 3, 1), (2, .iconst 0, 1), (3, .istore 4, 2), (5, .iload 4, 2), (7, .aload_n 0, 1), (8, .getfield 377, 3), (11, .if_icmp .ge 43, 3), (14, .iload_n 1, 1), (15, .iload 4, 2), (17, .ishr, 1), (18, .iconst 1, 1), (19, .iand, 1), (20, .ifCond .ne 6, 3), (23, .goto 25, 3), (26, .aload_n 0, 1), (27, .getfield 92, 3), (30, .iload 4, 2), (32, .iaload, 1), (33, .ifCond .ge 5, 3), (36, .iconst (-1), 1), (37, .ireturn, 1), (38, .iload_n 3, 1), (39, .aload_n 0, 1), (40, .getfield 92, 3), (43, .iload 4, 2), (45, .iaload, 1), (46, .iadd, 1), (47, .istore_n 3, 1), (48, .iinc 4 1, 3), (51, .goto (-46), 3), (54, .iconst 0, 1), (55, .istore 4, 2), (57, .iload 4, 2), (59, .aload_n 0, 1), (60, .getfield 241, 3), (63, .if_icmp .ge 22, 3), (66, .aload_n 0, 1), (67, .iload 4, 2), (69, .iload_n 1, 1), (70, .iload_n 2, 1), (71, .invokevirtual 380, 3), (74, .ifCond .ne 5, 3), (77, .iconst (-1), 1), (78, .ireturn, 1), (79, .iinc 4 1, 3), (82, .goto (-25), 3), (85, .iload_n 3, 1), (86, .ireturn, 1)]
def mc_Taps_lasts : List (Nat × Instr × Nat) := [(0, .iconst 2, 1), (1, .iload_n 0, 1), (2, .invokestatic 13, 3), (5, .imul, 1), (6, .iconst 1, 1), (7, .isub, 1), (8, .ireturn, 1)]
def mc_Taps_place : List (Nat × Instr × Nat) := [(0, .iload_n 0, 1), (1, .istore_n 1, 1), (2, .iload_n 0, 1), (3, .invokestatic 13, 3), (6, .iconst 1, 1), (7, .isub, 1), (8, .istore_n 2, 1), (9, .iload_n 2, 1), (10, .iconst 1, 1), (11, .if_icmp .lt 17, 3), (14, .iload_n 1, 1), (15, .getstatic 7, 3), (18, .iload_n 2, 1), (19, .iaload, 1), (20, .isub, 1), (21, .istore_n 1, 1), (22, .iinc 2 (-1), 3), (25, .goto (-16), 3), (28, .iload_n 1, 1), (29, .ireturn, 1)]
def mc_Book_init : List (Nat × Instr × Nat) := [(0, .aload_n 0, 1), (1, .invokespecial 3, 3), (4, .aload_n 0, 1), (5, .bipush 20, 2), (7, .newarray .int, 2), (9, .putfield 11, 3), (12, .aload_n 0, 1), (13, .bipush 20, 2), (15, .newarray .int, 2), (17, .putfield 15, 3), (20, .aload_n 0, 1), (21, .bipush 20, 2), (23, .newarray .int, 2), (25, .putfield 18, 3), (28, .aload_n 0, 1), (29, .bipush 20, 2), (31, .newarray .int, 2), (33, .putfield 21, 3), (36, .aload_n 0, 1), (37, .bipush 20, 2), (39, .newarray .int, 2), (41, .putfield 24, 3), (44, .aload_n 0, 1), (45, .bipush 20, 2), (47, .newarray .int, 2), (49, .putfield 27, 3), (52, .aload_n 0, 1), (53, .bipush 6, 2), (55, .bipush 6, 2), (57, .multianewarray 32 2, 4), (61, .putfield 34, 3), (64, .aload_n 0, 1), (65, .new 37, 3), (68, .dup, 1), (69, .invokespecial 39, 3), (72, .putfield 40, 3), (75, .aload_n 0, 1), (76, .new 37, 3), (79, .dup, 1), (80, .invokespecial 39, 3), (83, .putfield 44, 3), (86, .return_, 1)]
def mc_Ear_hearOnce : List (Nat × Instr × Nat) := [(0, .aload_n 0, 1), (1, .iconst 1, 1), (2, .aload_n 0, 1), (3, .getfield 54, 3), (6, .ishl, 1), (7, .iconst 1, 1), (8, .isub, 1), (9, .invokevirtual 86, 3), (12, .iload_n 2, 1), (13, .i2l, 1), (14, .lstore_n 3, 1), (15, .lconst 0, 1), (16, .lstore 5, 2), (18, .iconst 0, 1), (19, .istore 7, 2), (21, .iload 7, 2), (23, .iconst 4, 1), (24, .if_icmp .ge 70, 3), (27, .ldc2_w 135, 3), (30, .lload_n 3, 1), (31, .lmul, 1), (32, .ldc2_w 137, 3), (35, .ladd, 1), (36, .ldc2_w 139, 3), (39, .lrem, 1), (40, .lstore_n 3, 1), (41, .lload_n 3, 1), (42, .ldc2_w 141, 3), (45, .ldiv, 1), (46, .aload_n 0, 1), (47, .getfield 61, 3), (50, .iconst 1, 1), (51, .iadd, 1), (52, .aload_n 0, 1), (53, .getfield 61, 3), (56, .iconst 1, 1), (57, .iadd, 1), (58, .imul, 1), (59, .i2l, 1), (60, .lrem, 1), (61, .l2i, 1), (62, .istore 8, 2), (64, .lload 5, 2), (66, .aload_n 0, 1), (67, .iload 7, 2), (69, .aload_n 0, 1), (70, .iload_n 1, 1), (71, .iload 7, 2), (73, .aload_n 0, 1), (74, .iload 8, 2), (76, .invokevirtual 143, 3), (79, .invokevirtual 109, 3), (82, .invokevirtual 112, 3), (85, .ladd, 1), (86, .lstore 5, 2), (88, .iinc 7 1, 3), (91, .goto (-70), 3), (94, .aload_n 0, 1), (95, .lload 5, 2), (97, .invokevirtual 98, 3), (100, .ireturn, 1)]
def mc_Ear_spread : List (Nat × Instr × Nat) := [(0, .aload_n 0, 1), (1, .getfield 26, 3), (4, .iload_n 2, 1), (5, .iconst 0, 1), (6, .iastore, 1), (7, .aload_n 0, 1), (8, .getfield 61, 3), (11, .ineg, 1), (12, .istore_n 3, 1), (13, .iload_n 3, 1), (14, .aload_n 0, 1), (15, .getfield 61, 3), (18, .if_icmp .gt 123, 3), (21, .aload_n 0, 1), (22, .iload_n 2, 1), (23, .aload_n 0, 1), (24, .iload_n 1, 1), (25, .iload_n 2, 1), (26, .iload_n 3, 1), (27, .invokevirtual 109, 3), (30, .invokevirtual 112, 3), (33, .lstore 4, 2), (35, .iconst 0, 1), (36, .istore 6, 2), (38, .iload 6, 2), (40, .aload_n 0, 1), (41, .getfield 26, 3), (44, .iload_n 2, 1), (45, .iaload, 1), (46, .if_icmp .ge 24, 3), (49, .aload_n 0, 1), (50, .getfield 31, 3), (53, .iload_n 2, 1), (54, .aaload, 1), (55, .iload 6, 2), (57, .laload, 1), (58, .lload 4, 2), (60, .lcmp, 1), (61, .ifCond .eq 9, 3), (64, .iinc 6 1, 3), (67, .goto (-29), 3), (70, .iload 6, 2), (72, .aload_n 0, 1), (73, .getfield 26, 3), (76, .iload_n 2, 1), (77, .iaload, 1), (78, .if_icmp .ne 34, 3), (81, .aload_n 0, 1), (82, .getfield 31, 3), (85, .iload_n 2, 1), (86, .aaload, 1), (87, .iload 6, 2), (89, .lload 4, 2), (91, .lastore, 1), (92, .aload_n 0, 1), (93, .getfield 34, 3), (96, .iload_n 2, 1), (97, .aaload, 1), (98, .iload 6, 2), (100, .iconst 0, 1), (101, .iastore, 1), (102, .aload_n 0, 1), (103, .getfield 26, 3), (106, .iload_n 2, 1), (107, .dup2, 1), (108, .iaload, 1), (109, .iconst 1, 1), (110, .iadd, 1), (111, .iastore, 1), (112, .aload_n 0, 1), (113, .getfield 34, 3), (116, .iload_n 2, 1), (117, .aaload, 1), (118, .iload 6, 2), (120, .dup2, 1), (121, .iaload, 1), (122, .aload_n 0, 1), (123, .getfield 61, 3), (126, .iconst 1, 1), (127, .iadd, 1), (128, .iload_n 3, 1), (129, .invokestatic 116, 3), (132, .isub, 1), (133, .iadd, 1), (134, .iastore, 1), (135, .iinc 3 1, 3), (138, .goto (-125), 3), (141, .return_, 1)]
def mc_Line_handsOn : List (Nat × Instr × Nat) := [(0, .aload_n 0, 1), (1, .aload_n 1, 1), (2, .invokevirtual 49, 3), (5, .istore_n 2, 1), (6, .aload_n 0, 1), (7, .getfield 28, 3), (10, .ifCond .eq 11, 3), (13, .aload_n 0, 1), (14, .getfield 28, 3), (17, .iload_n 2, 1), (18, .if_icmp .le 5, 3), (21, .iconst 0, 1), (22, .ireturn, 1), (23, .iconst 2, 1), (24, .aload_n 0, 1), (25, .getfield 28, 3), (28, .imul, 1), (29, .iload_n 2, 1), (30, .if_icmp .lt 8, 3), (33, .bipush 100, 2), (35, .goto 13, 3), (38, .sipush 200, 3), (41, .aload_n 0, 1), (42, .getfield 28, 3), (45, .imul, 1), (46, .iload_n 2, 1), (47, .idiv, 1), (48, .ireturn, 1)]
def mc_Line_leaves : List (Nat × Instr × Nat) := [(0, .aload_n 0, 1), (1, .aload_n 1, 1), (2, .iload_n 2, 1), (3, .iload_n 3, 1), (4, .aload_n 0, 1), (5, .getfield 34, 3), (8, .invokevirtual 60, 3), (11, .aload_n 1, 1), (12, .iconst 1, 1), (13, .aload_n 0, 1), (14, .getfield 25, 3), (17, .iload_n 3, 1), (18, .invokevirtual 53, 3), (21, .imul, 1), (22, .bipush 100, 2), (24, .idiv, 1), (25, .ireturn, 1)]
def mc_Line_snaps : List (Nat × Instr × Nat) := [(0, .aload_n 0, 1), (1, .getfield 28, 3), (4, .aload_n 0, 1), (5, .aload_n 1, 1), (6, .invokevirtual 49, 3), (9, .if_icmp .le 7, 3), (12, .iconst 1, 1), (13, .goto 4, 3), (16, .iconst 0, 1), (17, .ireturn, 1)]
def mc_Row_move : List (Nat × Instr × Nat) := [(0, .iconst 0, 1), (1, .istore_n 1, 1), (2, .iconst 0, 1), (3, .istore_n 2, 1), (4, .iload_n 2, 1), (5, .aload_n 0, 1), (6, .getfield 22, 3), (9, .if_icmp .ge 118, 3), (12, .iload_n 1, 1), (13, .istore_n 3, 1), (14, .aload_n 0, 1), (15, .getfield 9, 3), (18, .iload_n 2, 1), (19, .iaload, 1), (20, .aload_n 0, 1), (21, .getfield 16, 3), (24, .iload_n 2, 1), (25, .iaload, 1), (26, .invokestatic 51, 3), (29, .aload_n 0, 1), (30, .getfield 13, 3), (33, .iload_n 2, 1), (34, .iaload, 1), (35, .aload_n 0, 1), (36, .getfield 19, 3), (39, .iload_n 2, 1), (40, .iaload, 1), (41, .invokestatic 51, 3), (44, .iadd, 1), (45, .invokestatic 47, 3), (48, .istore_n 1, 1), (49, .aload_n 0, 1), (50, .getfield 13, 3), (53, .iload_n 2, 1), (54, .iaload, 1), (55, .aload_n 0, 1), (56, .getfield 16, 3), (59, .iload_n 2, 1), (60, .iaload, 1), (61, .invokestatic 51, 3), (64, .aload_n 0, 1), (65, .getfield 9, 3), (68, .iload_n 2, 1), (69, .iaload, 1), (70, .aload_n 0, 1), (71, .getfield 19, 3), (74, .iload_n 2, 1), (75, .iaload, 1), (76, .invokestatic 51, 3), (79, .iadd, 1), (80, .invokestatic 47, 3), (83, .istore 4, 2), (85, .iload_n 2, 1), (86, .ifCond .ne 18, 3), (89, .aload_n 0, 1), (90, .dup, 1), (91, .getfield 29, 3), (94, .iload 4, 2), (96, .i2l, 1), (97, .ladd, 1), (98, .putfield 29, 3), (101, .goto 13, 3), (104, .aload_n 0, 1), (105, .getfield 13, 3), (108, .iload_n 2, 1), (109, .iconst 1, 1), (110, .isub, 1), (111, .iload 4, 2), (113, .iastore, 1), (114, .aload_n 0, 1), (115, .getfield 9, 3), (118, .iload_n 2, 1), (119, .iload_n 3, 1), (120, .iastore, 1), (121, .iinc 2 1, 3), (124, .goto (-120), 3), (127, .aload_n 0, 1), (128, .getfield 13, 3), (131, .aload_n 0, 1), (132, .getfield 22, 3), (135, .iconst 1, 1), (136, .isub, 1), (137, .iconst 0, 1), (138, .iastore, 1), (139, .aload_n 0, 1), (140, .dup, 1), (141, .getfield 33, 3), (144, .iload_n 1, 1), (145, .i2l, 1), (146, .ladd, 1), (147, .putfield 33, 3), (150, .aload_n 0, 1), (151, .dup, 1), (152, .getfield 26, 3), (155, .iconst 1, 1), (156, .iadd, 1), (157, .putfield 26, 3), (160, .return_, 1)]
def mc_Row_pullAt : List (Nat × Instr × Nat) := [(0, .iload_n 1, 1), (1, .ifCond .ne 27, 3), (4, .aload_n 0, 1), (5, .getfield 9, 3), (8, .iconst 0, 1), (9, .aload_n 0, 1), (10, .getfield 9, 3), (13, .iconst 0, 1), (14, .iaload, 1), (15, .iload_n 2, 1), (16, .iadd, 1), (17, .invokestatic 47, 3), (20, .iastore, 1), (21, .aload_n 0, 1), (22, .getfield 9, 3), (25, .iconst 0, 1), (26, .iaload, 1), (27, .ireturn, 1), (28, .aload_n 0, 1), (29, .getfield 13, 3), (32, .aload_n 0, 1), (33, .getfield 22, 3), (36, .iconst 1, 1), (37, .isub, 1), (38, .aload_n 0, 1), (39, .getfield 13, 3), (42, .aload_n 0, 1), (43, .getfield 22, 3), (46, .iconst 1, 1), (47, .isub, 1), (48, .iaload, 1), (49, .iload_n 2, 1), (50, .iadd, 1), (51, .invokestatic 47, 3), (54, .iastore, 1), (55, .aload_n 0, 1), (56, .getfield 13, 3), (59, .aload_n 0, 1), (60, .getfield 22, 3), (63, .iconst 1, 1), (64, .isub, 1), (65, .iaload, 1), (66, .ireturn, 1)]
def mc_Tape_readNext : List (Nat × Instr × Nat) := [(0, .aload_n 0, 1), (1, .getfield 19, 3), (4, .aload_n 0, 1), (5, .getfield 15, 3), (8, .if_icmp .ge 31, 3), (11, .aload_n 0, 1), (12, .getfield 11, 3), (15, .aload_n 0, 1), (16, .getfield 19, 3), (19, .baload, 1), (20, .invokestatic 22, 3), (23, .ifCond .eq 16, 3), (26, .aload_n 0, 1), (27, .dup, 1), (28, .getfield 19, 3), (31, .iconst 1, 1), (32, .iadd, 1), (33, .putfield 19, 3), (36, .goto (-36), 3), (39, .aload_n 0, 1), (40, .aload_n 0, 1), (41, .getfield 19, 3), (44, .putfield 26, 3), (47, .aload_n 0, 1), (48, .lconst 0, 1), (49, .putfield 29, 3), (52, .aload_n 0, 1), (53, .iconst 0, 1), (54, .putfield 33, 3), (57, .aload_n 0, 1), (58, .getfield 19, 3), (61, .aload_n 0, 1), (62, .getfield 15, 3), (65, .if_icmp .lt 11, 3), (68, .aload_n 0, 1), (69, .iconst 0, 1), (70, .putfield 36, 3), (73, .goto 80, 3), (76, .aload_n 0, 1), (77, .getfield 11, 3), (80, .aload_n 0, 1), (81, .getfield 19, 3), (84, .baload, 1), (85, .invokestatic 39, 3), (88, .ifCond .eq 10, 3), (91, .aload_n 0, 1), (92, .invokevirtual 42, 3), (95, .goto 58, 3), (98, .aload_n 0, 1), (99, .getfield 11, 3), (102, .aload_n 0, 1), (103, .getfield 19, 3), (106, .baload, 1), (107, .invokestatic 45, 3), (110, .ifCond .eq 10, 3), (113, .aload_n 0, 1), (114, .invokevirtual 48, 3), (117, .goto 36, 3), (120, .aload_n 0, 1), (121, .aload_n 0, 1), (122, .getfield 11, 3), (125, .aload_n 0, 1), (126, .getfield 19, 3), (129, .baload, 1), (130, .bipush 59, 2), (132, .if_icmp .ne 7, 3), (135, .iconst 4, 1), (136, .goto 4, 3), (139, .iconst 1, 1), (140, .putfield 36, 3), (143, .aload_n 0, 1), (144, .dup, 1), (145, .getfield 19, 3), (148, .iconst 1, 1), (149, .iadd, 1), (150, .putfield 19, 3), (153, .return_, 1)]
def mc_Wish_apart : List (Nat × Instr × Nat) := [(0, .aload_n 0, 1), (1, .iconst 3, 1), (2, .iload_n 1, 1), (3, .iconst 0, 1), (4, .invokevirtual 33, 3), (7, .istore_n 3, 1), (8, .aload_n 0, 1), (9, .iconst 3, 1), (10, .iload_n 1, 1), (11, .iconst 1, 1), (12, .invokevirtual 33, 3), (15, .istore 4, 2), (17, .aload_n 0, 1), (18, .iconst 3, 1), (19, .iload_n 2, 1), (20, .iconst 0, 1), (21, .invokevirtual 33, 3), (24, .istore 5, 2), (26, .aload_n 0, 1), (27, .iconst 3, 1), (28, .iload_n 2, 1), (29, .iconst 1, 1), (30, .invokevirtual 33, 3), (33, .istore 6, 2), (35, .iconst 0, 1), (36, .istore 7, 2), (38, .iload 7, 2), (40, .aload_n 0, 1), (41, .getfield 37, 3), (44, .iconst 4, 1), (45, .iaload, 1), (46, .if_icmp .ge 91, 3), (49, .aload_n 0, 1), (50, .iconst 4, 1), (51, .iload 7, 2), (53, .iconst 0, 1), (54, .invokevirtual 33, 3), (57, .iload_n 3, 1), (58, .isub, 1), (59, .istore 8, 2), (61, .aload_n 0, 1), (62, .iconst 4, 1), (63, .iload 7, 2), (65, .iconst 1, 1), (66, .invokevirtual 33, 3), (69, .iload 4, 2), (71, .isub, 1), (72, .istore 9, 2), (74, .iload 8, 2), (76, .iload 6, 2), (78, .iload 4, 2), (80, .isub, 1), (81, .imul, 1), (82, .iload 9, 2), (84, .iload 5, 2), (86, .iload_n 3, 1), (87, .isub, 1), (88, .imul, 1), (89, .if_icmp .ne 7, 3), (92, .iconst 1, 1), (93, .goto 4, 3), (96, .iconst 0, 1), (97, .istore 10, 2), (99, .iload 10, 2), (101, .ifCond .eq 30, 3), (104, .iload 8, 2), (106, .iload 5, 2), (108, .iload_n 3, 1), (109, .isub, 1), (110, .invokestatic 40, 3), (113, .ifCond .eq 18, 3), (116, .iload 9, 2), (118, .iload 6, 2), (120, .iload 4, 2), (122, .isub, 1), (123, .invokestatic 40, 3), (126, .ifCond .eq 5, 3), (129, .iconst (-1), 1), (130, .ireturn, 1), (131, .iinc 7 1, 3), (134, .goto (-96), 3), (137, .iload 5, 2), (139, .iload_n 3, 1), (140, .isub, 1), (141, .iload 5, 2), (143, .iload_n 3, 1), (144, .isub, 1), (145, .imul, 1), (146, .iload 6, 2), (148, .iload 4, 2), (150, .isub, 1), (151, .iload 6, 2), (153, .iload 4, 2), (155, .isub, 1), (156, .imul, 1), (157, .iadd, 1), (158, .istore 7, 2), (160, .iconst 0, 1), (161, .istore 8, 2), (163, .iload 8, 2), (165, .sipush 141, 3), (168, .if_icmp .ge 22, 3), (171, .iload 8, 2), (173, .iload 8, 2), (175, .imul, 1), (176, .iload 7, 2), (178, .if_icmp .lt 6, 3), (181, .iload 8, 2), (183, .ireturn, 1), (184, .iinc 8 1, 3), (187, .goto (-24), 3), (190, .sipush 141, 3), (193, .ireturn, 1)]
def mc_Tin_band : List (Nat × Instr × Nat) := [(0, .iload_n 1, 1), (1, .iconst 0, 1), (2, .iconst 3, 1), (3, .invokestatic 85, 3), (6, .ifCond .eq 10, 3), (9, .iload_n 3, 1), (10, .invokestatic 118, 3), (13, .ifCond .ne 6, 3), (16, .bipush (-2), 2), (18, .ireturn, 1), (19, .iload_n 1, 1), (20, .iconst 3, 1), (21, .if_icmp .ne 7, 3), (24, .iconst 5, 1), (25, .goto 4, 3), (28, .iload_n 1, 1), (29, .istore 4, 2), (31, .aload_n 0, 1), (32, .iload 4, 2), (34, .iload_n 2, 1), (35, .invokevirtual 114, 3), (38, .ifCond .eq 17, 3), (41, .aload_n 0, 1), (42, .getfield 19, 3), (45, .iload 4, 2), (47, .iload_n 2, 1), (48, .iload_n 3, 1), (49, .invokevirtual 122, 3), (52, .goto 5, 3), (55, .bipush (-2), 2), (57, .ireturn, 1)]
def mc_Tin_bend : List (Nat × Instr × Nat) := [(0, .iload_n 1, 1), (1, .iconst (-1), 1), (2, .if_icmp .eq 15, 3), (5, .aload_n 0, 1), (6, .iconst 5, 1), (7, .iload_n 1, 1), (8, .invokevirtual 114, 3), (11, .ifCond .ne 6, 3), (14, .bipush (-2), 2), (16, .ireturn, 1), (17, .aload_n 0, 1), (18, .getfield 29, 3), (21, .getfield 137, 3), (24, .iconst 4, 1), (25, .if_icmp .lt 6, 3), (28, .bipush (-3), 2), (30, .ireturn, 1), (31, .aload_n 0, 1), (32, .getfield 29, 3), (35, .getfield 140, 3), (38, .aload_n 0, 1), (39, .getfield 29, 3), (42, .getfield 137, 3), (45, .iload_n 1, 1), (46, .iastore, 1), (47, .aload_n 0, 1), (48, .getfield 29, 3), (51, .dup, 1), (52, .getfield 137, 3), (55, .iconst 1, 1), (56, .iadd, 1), (57, .putfield 137, 3), (60, .aload_n 0, 1), (61, .getfield 29, 3), (64, .getfield 137, 3), (67, .ireturn, 1)]
def mc_Tin_isPair : List (Nat × Instr × Nat) := [(0, .iload_n 1, 1), (1, .iload_n 2, 1), (2, .if_icmp .eq 25, 3), (5, .aload_n 0, 1), (6, .iconst 3, 1), (7, .iload_n 1, 1), (8, .invokevirtual 114, 3), (11, .ifCond .eq 16, 3), (14, .aload_n 0, 1), (15, .iconst 3, 1), (16, .iload_n 2, 1), (17, .invokevirtual 114, 3), (20, .ifCond .eq 7, 3), (23, .iconst 1, 1), (24, .goto 4, 3), (27, .iconst 0, 1), (28, .ireturn, 1)]
def mc_Tin_line : List (Nat × Instr × Nat) := [(0, .aload_n 0, 1), (1, .iconst 0, 1), (2, .iload_n 1, 1), (3, .invokevirtual 114, 3), (6, .ifCond .eq 12, 3), (9, .aload_n 0, 1), (10, .iconst 1, 1), (11, .iload_n 2, 1), (12, .invokevirtual 114, 3), (15, .ifCond .ne 6, 3), (18, .bipush (-2), 2), (20, .ireturn, 1), (21, .iload_n 3, 1), (22, .iconst 1, 1), (23, .sipush 400, 3), (26, .invokestatic 85, 3), (29, .ifCond .eq 14, 3), (32, .iload 4, 2), (34, .iconst 0, 1), (35, .bipush 99, 2), (37, .invokestatic 85, 3), (40, .ifCond .ne 6, 3), (43, .bipush (-2), 2), (45, .ireturn, 1), (46, .aload_n 0, 1), (47, .getfield 29, 3), (50, .iload_n 1, 1), (51, .putfield 125, 3), (54, .aload_n 0, 1), (55, .getfield 29, 3), (58, .iload_n 2, 1), (59, .putfield 128, 3), (62, .aload_n 0, 1), (63, .getfield 29, 3), (66, .iload_n 3, 1), (67, .putfield 131, 3), (70, .aload_n 0, 1), (71, .getfield 29, 3), (74, .iload 4, 2), (76, .putfield 134, 3), (79, .iconst 1, 1), (80, .ireturn, 1)]
def mc_Tin_right : List (Nat × Instr × Nat) := [(0, .aload_n 0, 1), (1, .iload_n 1, 1), (2, .invokevirtual 310, 3), (5, .ifCond .eq 29, 3), (8, .iload_n 2, 1), (9, .iconst 0, 1), (10, .aload_n 0, 1), (11, .getfield 50, 3), (14, .getfield 313, 3), (17, .iconst 1, 1), (18, .isub, 1), (19, .invokestatic 85, 3), (22, .ifCond .eq 12, 3), (25, .aload_n 0, 1), (26, .iconst 2, 1), (27, .iload_n 3, 1), (28, .invokevirtual 114, 3), (31, .ifCond .ne 6, 3), (34, .bipush (-2), 2), (36, .ireturn, 1), (37, .aload_n 0, 1), (38, .getfield 50, 3), (41, .getfield 319, 3), (44, .bipush 20, 2), (46, .if_icmp .lt 8, 3), (49, .bipush (-3), 2), (51, .goto 13, 3), (54, .aload_n 0, 1), (55, .getfield 50, 3), (58, .iload_n 1, 1), (59, .iload_n 2, 1), (60, .iload_n 3, 1), (61, .invokevirtual 322, 3), (64, .ireturn, 1)]
def mc_Tin_told : List (Nat × Instr × Nat) := [(0, .iload_n 1, 1), (1, .iconst 0, 1), (2, .iconst 5, 1), (3, .invokestatic 85, 3), (6, .ifCond .eq 13, 3), (9, .aload_n 0, 1), (10, .getfield 19, 3), (13, .getfield 82, 3), (16, .iload_n 1, 1), (17, .iaload, 1), (18, .ireturn, 1), (19, .iload_n 1, 1), (20, .bipush 6, 2), (22, .bipush 8, 2), (24, .invokestatic 85, 3), (27, .ifCond .eq 14, 3), (30, .aload_n 0, 1), (31, .getfield 19, 3), (34, .iload_n 1, 1), (35, .iconst 0, 1), (36, .iconst 0, 1), (37, .invokevirtual 110, 3), (40, .ireturn, 1), (41, .iload_n 1, 1), (42, .bipush 10, 2), (44, .bipush 19, 2), (46, .invokestatic 85, 3), (49, .ifCond .eq 29, 3), (52, .aload_n 0, 1), (53, .iconst 0, 1), (54, .iload_n 1, 1), (55, .bipush 10, 2), (57, .isub, 1), (58, .invokevirtual 114, 3), (61, .ifCond .eq 17, 3), (64, .aload_n 0, 1), (65, .getfield 19, 3), (68, .iconst 0, 1), (69, .iload_n 1, 1), (70, .bipush 10, 2), (72, .isub, 1), (73, .iconst 0, 1), (74, .invokevirtual 110, 3), (77, .ireturn, 1), (78, .iload_n 1, 1), (79, .bipush 20, 2), (81, .bipush 29, 2), (83, .invokestatic 85, 3), (86, .ifCond .eq 29, 3), (89, .aload_n 0, 1), (90, .iconst 5, 1), (91, .iload_n 1, 1), (92, .bipush 20, 2), (94, .isub, 1), (95, .invokevirtual 114, 3), (98, .ifCond .eq 17, 3), (101, .aload_n 0, 1), (102, .getfield 19, 3), (105, .iconst 5, 1), (106, .iload_n 1, 1), (107, .bipush 20, 2), (109, .isub, 1), (110, .iconst 0, 1), (111, .invokevirtual 110, 3), (114, .ireturn, 1), (115, .iconst (-1), 1), (116, .ireturn, 1)]
def mc_Tin_write : List (Nat × Instr × Nat) := [(0, .aload_n 0, 1), (1, .iload_n 1, 1), (2, .invokevirtual 310, 3), (5, .ifCond .eq 21, 3), (8, .aload_n 0, 1), (9, .iconst 2, 1), (10, .iload_n 2, 1), (11, .invokevirtual 114, 3), (14, .ifCond .eq 12, 3), (17, .aload_n 0, 1), (18, .iconst 2, 1), (19, .iload_n 3, 1), (20, .invokevirtual 114, 3), (23, .ifCond .ne 6, 3), (26, .bipush (-2), 2), (28, .ireturn, 1), (29, .aload_n 0, 1), (30, .getfield 50, 3), (33, .getfield 313, 3), (36, .bipush 20, 2), (38, .if_icmp .lt 8, 3), (41, .bipush (-3), 2), (43, .goto 13, 3), (46, .aload_n 0, 1), (47, .getfield 50, 3), (50, .iload_n 1, 1), (51, .iload_n 2, 1), (52, .iload_n 3, 1), (53, .invokevirtual 316, 3), (56, .ireturn, 1)]
def mc_Mod_init : List (Nat × Instr × Nat) := [(0, .aload_n 0, 1), (1, .invokespecial 1, 3), (4, .aload_n 0, 1), (5, .sipush 900, 3), (8, .newarray .byte, 2), (10, .putfield 7, 3), (13, .aload_n 0, 1), (14, .iconst (-1), 1), (15, .putfield 13, 3), (18, .aload_n 0, 1), (19, .bipush 18, 2), (21, .newarray .int, 2), (23, .putfield 17, 3), (26, .aload_n 0, 1), (27, .bipush 36, 2), (29, .newarray .long, 2), (31, .putfield 21, 3), (34, .aload_n 0, 1), (35, .bipush 40, 2), (37, .newarray .int, 2), (39, .putfield 25, 3), (42, .aload_n 0, 1), (43, .bipush 32, 2), (45, .newarray .int, 2), (47, .putfield 28, 3), (50, .aload_n 0, 1), (51, .bipush 48, 2), (53, .newarray .int, 2), (55, .putfield 31, 3), (58, .aload_n 0, 1), (59, .bipush 10, 2), (61, .newarray .int, 2), (63, .putfield 34, 3), (66, .aload_n 0, 1), (67, .bipush 10, 2), (69, .newarray .int, 2), (71, .putfield 37, 3), (74, .aload_n 0, 1), (75, .bipush 8, 2), (77, .newarray .int, 2), (79, .putfield 40, 3), (82, .aload_n 0, 1), (83, .bipush 8, 2), (85, .newarray .int, 2), (87, .putfield 43, 3), (90, .aload_n 0, 1), (91, .bipush 40, 2), (93, .newarray .int, 2), (95, .putfield 46, 3), (98, .aload_n 0, 1), (99, .iconst 4, 1), (100, .newarray .int, 2), (102, .putfield 49, 3), (105, .aload_n 0, 1), (106, .iconst 4, 1), (107, .newarray .int, 2), (109, .putfield 52, 3), (112, .aload_n 0, 1), (113, .bipush 24, 2), (115, .newarray .int, 2), (117, .putfield 55, 3), (120, .aload_n 0, 1), (121, .iconst 4, 1), (122, .newarray .int, 2), (124, .putfield 58, 3), (127, .aload_n 0, 1), (128, .bipush 6, 2), (130, .newarray .int, 2), (132, .putfield 61, 3), (135, .aload_n 0, 1), (136, .sipush 648, 3), (139, .newarray .int, 2), (141, .putfield 64, 3), (144, .aload_n 0, 1), (145, .bipush 8, 2), (147, .newarray .long, 2), (149, .putfield 67, 3), (152, .aload_n 0, 1), (153, .iconst 3, 1), (154, .newarray .boolean, 2), (156, .putfield 70, 3), (159, .aload_n 0, 1), (160, .bipush 40, 2), (162, .newarray .int, 2), (164, .putfield 74, 3), (167, .aload_n 0, 1), (168, .bipush 40, 2), (170, .newarray .int, 2), (172, .putfield 77, 3), (175, .aload_n 0, 1), (176, .bipush 10, 2), (178, .newarray .int, 2), (180, .putfield 80, 3), (183, .aload_n 0, 1), (184, .bipush 10, 2), (186, .newarray .int, 2), (188, .putfield 83, 3), (191, .aload_n 0, 1), (192, .bipush 10, 2), (194, .newarray .int, 2), (196, .putfield 86, 3), (199, .aload_n 0, 1), (200, .bipush 10, 2), (202, .newarray .int, 2), (204, .putfield 89, 3), (207, .aload_n 0, 1), (208, .bipush 10, 2), (210, .newarray .int, 2), (212, .putfield 92, 3), (215, .aload_n 0, 1), (216, .bipush 16, 2), (218, .newarray .int, 2), (220, .putfield 95, 3), (223, .aload_n 0, 1), (224, .bipush 20, 2), (226, .newarray .int, 2), (228, .putfield 98, 3), (231, .aload_n 0, 1), (232, .bipush 20, 2), (234, .newarray .int, 2), (236, .putfield 101, 3), (239, .aload_n 0, 1), (240, .bipush 20, 2), (242, .newarray .int, 2), (244, .putfield 104, 3), (247, .aload_n 0, 1), (248, .bipush 20, 2), (250, .newarray .int, 2), (252, .putfield 107, 3), (255, .aload_n 0, 1), (256, .bipush 20, 2), (258, .newarray .int, 2), (260, .putfield 110, 3), (263, .aload_n 0, 1), (264, .bipush 20, 2), (266, .newarray .int, 2), (268, .putfield 113, 3), (271, .aload_n 0, 1), (272, .bipush 30, 2), (274, .newarray .int, 2), (276, .putfield 116, 3), (279, .aload_n 0, 1), (280, .bipush 30, 2), (282, .newarray .int, 2), (284, .putfield 119, 3), (287, .aload_n 0, 1), (288, .iconst 4, 1), (289, .newarray .int, 2), (291, .putfield 122, 3), (294, .aload_n 0, 1), (295, .invokevirtual 125, 3), (298, .aload_n 0, 1), (299, .invokevirtual 128, 3), (302, .aload_n 0, 1), (303, .iconst 2, 1), (304, .invokevirtual 131, 3), (307, .return_, 1)]
def mc_Mod_arePair : List (Nat × Instr × Nat) := [(0, .aload_n 0, 1), (1, .iconst 3, 1), (2, .iload_n 1, 1), (3, .invokevirtual 272, 3), (6, .ifCond .eq 21, 3), (9, .aload_n 0, 1), (10, .iconst 3, 1), (11, .iload_n 2, 1), (12, .invokevirtual 272, 3), (15, .ifCond .eq 12, 3), (18, .iload_n 1, 1), (19, .iload_n 2, 1), (20, .if_icmp .eq 7, 3), (23, .iconst 1, 1), (24, .goto 4, 3), (27, .iconst 0, 1), (28, .ireturn, 1)]
def mc_Mod_band : List (Nat × Instr × Nat) := [(0, .iload_n 1, 1), (1, .iconst 0, 1), (2, .iconst 3, 1), (3, .invokestatic 197, 3), (6, .ifCond .eq 28, 3), (9, .aload_n 0, 1), (10, .iload_n 1, 1), (11, .iconst 3, 1), (12, .if_icmp .ne 7, 3), (15, .iconst 5, 1), (16, .goto 4, 3), (19, .iload_n 1, 1), (20, .iload_n 2, 1), (21, .invokevirtual 272, 3), (24, .ifCond .eq 10, 3), (27, .iload_n 3, 1), (28, .invokestatic 275, 3), (31, .ifCond .ne 6, 3), (34, .bipush (-2), 2), (36, .ireturn, 1), (37, .iload_n 1, 1), (38, .ifCond .ne 18, 3), (41, .aload_n 0, 1), (42, .getfield 25, 3), (45, .iconst 5, 1), (46, .iload_n 2, 1), (47, .imul, 1), (48, .iconst 1, 1), (49, .iadd, 1), (50, .iload_n 3, 1), (51, .iadd, 1), (52, .iaload, 1), (53, .goto 51, 3), (56, .iload_n 1, 1), (57, .iconst 1, 1), (58, .if_icmp .ne 16, 3), (61, .aload_n 0, 1), (62, .getfield 28, 3), (65, .iconst 4, 1), (66, .iload_n 2, 1), (67, .imul, 1), (68, .iload_n 3, 1), (69, .iadd, 1), (70, .iaload, 1), (71, .goto 33, 3), (74, .iload_n 1, 1), (75, .iconst 2, 1), (76, .if_icmp .ne 16, 3), (79, .aload_n 0, 1), (80, .getfield 31, 3), (83, .iconst 4, 1), (84, .iload_n 2, 1), (85, .imul, 1), (86, .iload_n 3, 1), (87, .iadd, 1), (88, .iaload, 1), (89, .goto 15, 3), (92, .aload_n 0, 1), (93, .getfield 46, 3), (96, .iconst 5, 1), (97, .iload_n 2, 1), (98, .imul, 1), (99, .iconst 1, 1), (100, .iadd, 1), (101, .iload_n 3, 1), (102, .iadd, 1), (103, .iaload, 1), (104, .ireturn, 1)]
def mc_Mod_bears : List (Nat × Instr × Nat) := [(0, .iload_n 1, 1), (1, .iconst 0, 1), (2, .iconst 4, 1), (3, .invokestatic 197, 3), (6, .ifCond .ne 6, 3), (9, .bipush (-2), 2), (11, .ireturn, 1), (12, .aload_n 0, 1), (13, .invokevirtual 281, 3), (16, .ifCond .ne 6, 3), (19, .bipush (-4), 2), (21, .ireturn, 1), (22, .iload_n 1, 1), (23, .tableswitch 73 0 3 #[29, 38, 47, 68], 29), (52, .aload_n 0, 1), (53, .aload_n 0, 1), (54, .getfield 214, 3), (57, .invokevirtual 278, 3), (60, .ireturn, 1), (61, .aload_n 0, 1), (62, .aload_n 0, 1), (63, .getfield 214, 3), (66, .invokevirtual 284, 3), (69, .ireturn, 1), (70, .aload_n 0, 1), (71, .getfield 223, 3), (74, .aload_n 0, 1), (75, .aload_n 0, 1), (76, .getfield 214, 3), (79, .invokevirtual 278, 3), (82, .if_icmp .le 7, 3), (85, .iconst 1, 1), (86, .goto 4, 3), (89, .iconst 0, 1), (90, .ireturn, 1), (91, .aload_n 0, 1), (92, .getfield 226, 3), (95, .ireturn, 1), (96, .aload_n 0, 1), (97, .getfield 229, 3), (100, .ireturn, 1)]
def mc_Mod_bend : List (Nat × Instr × Nat) := [(0, .iload_n 1, 1), (1, .iconst (-1), 1), (2, .if_icmp .eq 15, 3), (5, .aload_n 0, 1), (6, .iconst 5, 1), (7, .iload_n 1, 1), (8, .invokevirtual 272, 3), (11, .ifCond .ne 6, 3), (14, .bipush (-2), 2), (16, .ireturn, 1), (17, .aload_n 0, 1), (18, .getfield 226, 3), (21, .iconst 4, 1), (22, .if_icmp .ne 6, 3), (25, .bipush (-3), 2), (27, .ireturn, 1), (28, .aload_n 0, 1), (29, .getfield 49, 3), (32, .aload_n 0, 1), (33, .getfield 226, 3), (36, .iload_n 1, 1), (37, .iastore, 1), (38, .aload_n 0, 1), (39, .dup, 1), (40, .getfield 226, 3), (43, .iconst 1, 1), (44, .iadd, 1), (45, .putfield 226, 3), (48, .aload_n 0, 1), (49, .getfield 226, 3), (52, .ireturn, 1)]
def mc_Mod_cell : List (Nat × Instr × Nat) := [(0, .aload_n 0, 1), (1, .iload_n 1, 1), (2, .invokevirtual 345, 3), (5, .ifCond .eq 31, 3), (8, .iload_n 2, 1), (9, .iconst 0, 1), (10, .bipush 100, 2), (12, .invokestatic 197, 3), (15, .ifCond .eq 21, 3), (18, .iload_n 3, 1), (19, .iconst 0, 1), (20, .bipush 100, 2), (22, .invokestatic 197, 3), (25, .ifCond .eq 11, 3), (28, .iload_n 2, 1), (29, .iload_n 3, 1), (30, .iadd, 1), (31, .bipush 100, 2), (33, .if_icmp .le 6, 3), (36, .bipush (-2), 2), (38, .ireturn, 1), (39, .aload_n 0, 1), (40, .getfield 64, 3), (43, .bipush 82, 2), (45, .iload_n 1, 1), (46, .iadd, 1), (47, .iload_n 2, 1), (48, .iastore, 1), (49, .aload_n 0, 1), (50, .getfield 64, 3), (53, .bipush 122, 2), (55, .iload_n 1, 1), (56, .iadd, 1), (57, .iload_n 3, 1), (58, .iastore, 1), (59, .iconst 1, 1), (60, .ireturn, 1)]
def mc_Mod_comesTo : List (Nat × Instr × Nat) := [(0, .sipush 1000, 3), (3, .iload 4, 2), (5, .imul, 1), (6, .aload_n 0, 1), (7, .getfield 28, 3), (10, .iconst 4, 1), (11, .iload_n 2, 1), (12, .imul, 1), (13, .iload 5, 2), (15, .iadd, 1), (16, .iaload, 1), (17, .imul, 1), (18, .bipush 100, 2), (20, .idiv, 1), (21, .istore 7, 2), (23, .iload 7, 2), (25, .aload_n 0, 1), (26, .iload_n 1, 1), (27, .invokevirtual 284, 3), (30, .imul, 1), (31, .bipush 100, 2), (33, .idiv, 1), (34, .istore 7, 2), (36, .iconst 0, 1), (37, .istore 8, 2), (39, .iload 8, 2), (41, .iload_n 3, 1), (42, .if_icmp .ge 40, 3), (45, .iload 7, 2), (47, .ifCond .le 35, 3), (50, .iload 7, 2), (52, .sipush 1000, 3), (55, .aload_n 0, 1), (56, .getfield 25, 3), (59, .iconst 5, 1), (60, .iload_n 1, 1), (61, .imul, 1), (62, .iconst 1, 1), (63, .iadd, 1), (64, .iload 5, 2), (66, .iadd, 1), (67, .iaload, 1), (68, .isub, 1), (69, .imul, 1), (70, .sipush 1000, 3), (73, .idiv, 1), (74, .istore 7, 2), (76, .iinc 8 1, 3), (79, .goto (-40), 3), (82, .iconst 0, 1), (83, .istore 8, 2), (85, .iload 8, 2), (87, .aload_n 0, 1), (88, .getfield 226, 3), (91, .if_icmp .ge 30, 3), (94, .iload 7, 2), (96, .aload_n 0, 1), (97, .aload_n 0, 1), (98, .getfield 49, 3), (101, .iload 8, 2), (103, .iaload, 1), (104, .iload 5, 2), (106, .invokevirtual 290, 3), (109, .imul, 1), (110, .bipush 100, 2), (112, .idiv, 1), (113, .istore 7, 2), (115, .iinc 8 1, 3), (118, .goto (-33), 3), (121, .iconst 0, 1), (122, .istore 8, 2), (124, .iload 8, 2), (126, .iload 6, 2), (128, .if_icmp .ge 27, 3), (131, .iload 7, 2), (133, .bipush 100, 2), (135, .aload_n 0, 1), (136, .getfield 52, 3), (139, .iload 8, 2), (141, .iaload, 1), (142, .isub, 1), (143, .imul, 1), (144, .bipush 100, 2), (146, .idiv, 1), (147, .istore 7, 2), (149, .iinc 8 1, 3), (152, .goto (-28), 3), (155, .iload 7, 2), (157, .ireturn, 1)]
def mc_Mod_goes : List (Nat × Instr × Nat) := [(0, .aload_n 0, 1), (1, .iload_n 1, 1), (2, .invokevirtual 345, 3), (5, .ifCond .eq 12, 3), (8, .iload_n 2, 1), (9, .iconst 0, 1), (10, .iconst 3, 1), (11, .invokestatic 197, 3), (14, .ifCond .ne 7, 3), (17, .ldc_w 362, 3), (20, .ireturn, 1), (21, .aload_n 0, 1), (22, .getfield 64, 3), (25, .iconst 2, 1), (26, .bipush 40, 2), (28, .iload_n 2, 1), (29, .imul, 1), (30, .iadd, 1), (31, .iload_n 1, 1), (32, .iadd, 1), (33, .iaload, 1), (34, .ireturn, 1)]
def mc_Mod_keep : List (Nat × Instr × Nat) := [(0, .iload_n 1, 1), (1, .invokestatic 365, 3), (4, .ifCond .ne 6, 3), (7, .bipush (-2), 2), (9, .ireturn, 1), (10, .aload_n 0, 1), (11, .getfield 70, 3), (14, .iload_n 1, 1), (15, .iconst 1, 1), (16, .bastore, 1), (17, .iconst 0, 1), (18, .istore_n 2, 1), (19, .iload_n 2, 1), (20, .sipush 162, 3), (23, .if_icmp .ge 29, 3), (26, .aload_n 0, 1), (27, .getfield 64, 3), (30, .sipush 162, 3), (33, .iload_n 1, 1), (34, .iconst 1, 1), (35, .iadd, 1), (36, .imul, 1), (37, .iload_n 2, 1), (38, .iadd, 1), (39, .aload_n 0, 1), (40, .getfield 64, 3), (43, .iload_n 2, 1), (44, .iaload, 1), (45, .iastore, 1), (46, .iinc 2 1, 3), (49, .goto (-30), 3), (52, .iconst 0, 1), (53, .istore_n 2, 1), (54, .iload_n 2, 1), (55, .iconst 2, 1), (56, .if_icmp .ge 27, 3), (59, .aload_n 0, 1), (60, .getfield 67, 3), (63, .iconst 2, 1), (64, .iload_n 1, 1), (65, .iconst 1, 1), (66, .iadd, 1), (67, .imul, 1), (68, .iload_n 2, 1), (69, .iadd, 1), (70, .aload_n 0, 1), (71, .getfield 67, 3), (74, .iload_n 2, 1), (75, .laload, 1), (76, .lastore, 1), (77, .iinc 2 1, 3), (80, .goto (-26), 3), (83, .aload_n 0, 1), (84, .getfield 64, 3), (87, .iconst 1, 1), (88, .iaload, 1), (89, .ireturn, 1)]
def mc_Mod_least : List (Nat × Instr × Nat) := [(0, .iload_n 1, 1), (1, .iconst 1, 1), (2, .iconst 4, 1), (3, .invokestatic 197, 3), (6, .ifCond .eq 12, 3), (9, .iload_n 2, 1), (10, .iconst 0, 1), (11, .iconst 1, 1), (12, .invokestatic 197, 3), (15, .ifCond .ne 6, 3), (18, .bipush (-2), 2), (20, .ireturn, 1), (21, .aload_n 0, 1), (22, .invokevirtual 383, 3), (25, .iconst (-1), 1), (26, .istore_n 3, 1), (27, .iconst 0, 1), (28, .istore 4, 2), (30, .iconst 0, 1), (31, .istore 5, 2), (33, .iload 5, 2), (35, .iconst 1, 1), (36, .aload_n 0, 1), (37, .getfield 377, 3), (40, .ishl, 1), (41, .if_icmp .ge 45, 3), (44, .aload_n 0, 1), (45, .iload 5, 2), (47, .iload_n 1, 1), (48, .invokevirtual 386, 3), (51, .istore 6, 2), (53, .iload 6, 2), (55, .ifCond .lt 25, 3), (58, .iload_n 3, 1), (59, .iconst (-1), 1), (60, .if_icmp .eq 13, 3), (63, .iload 6, 2), (65, .iload 4, 2), (67, .if_icmp .lt 6, 3), (70, .goto 10, 3), (73, .iload 5, 2), (75, .istore_n 3, 1), (76, .iload 6, 2), (78, .istore 4, 2), (80, .iinc 5 1, 3), (83, .goto (-50), 3), (86, .iload_n 3, 1), (87, .iconst (-1), 1), (88, .if_icmp .ne 7, 3), (91, .iconst (-1), 1), (92, .goto 13, 3), (95, .iload_n 2, 1), (96, .ifCond .ne 8, 3), (99, .iload 4, 2), (101, .goto 4, 3), (104, .iload_n 3, 1), (105, .ireturn, 1)]
def mc_Mod_line : List (Nat × Instr × Nat) := [(0, .aload_n 0, 1), (1, .iconst 0, 1), (2, .iload_n 1, 1), (3, .invokevirtual 272, 3), (6, .ifCond .eq 34, 3), (9, .aload_n 0, 1), (10, .iconst 1, 1), (11, .iload_n 2, 1), (12, .invokevirtual 272, 3), (15, .ifCond .eq 25, 3), (18, .iload_n 3, 1), (19, .iconst 1, 1), (20, .sipush 400, 3), (23, .invokestatic 197, 3), (26, .ifCond .eq 14, 3), (29, .iload 4, 2), (31, .iconst 0, 1), (32, .bipush 99, 2), (34, .invokestatic 197, 3), (37, .ifCond .ne 6, 3), (40, .bipush (-2), 2), (42, .ireturn, 1), (43, .aload_n 0, 1), (44, .iload_n 1, 1), (45, .putfield 214, 3), (48, .aload_n 0, 1), (49, .iload_n 2, 1), (50, .putfield 217, 3), (53, .aload_n 0, 1), (54, .iload_n 3, 1), (55, .putfield 220, 3), (58, .aload_n 0, 1), (59, .iload 4, 2), (61, .putfield 223, 3), (64, .iconst 1, 1), (65, .ireturn, 1)]
def mc_Mod_listen : List (Nat × Instr × Nat) := [(0, .aload_n 0, 1), (1, .getfield 17, 3), (4, .bipush 8, 2), (6, .iaload, 1), (7, .istore_n 3, 1), (8, .iconst 2, 1), (9, .iload_n 3, 1), (10, .imul, 1), (11, .iconst 1, 1), (12, .iadd, 1), (13, .istore 4, 2), (15, .iconst 0, 1), (16, .istore 5, 2), (18, .iload 5, 2), (20, .bipush 6, 2), (22, .if_icmp .ge 17, 3), (25, .aload_n 0, 1), (26, .getfield 61, 3), (29, .iload 5, 2), (31, .iconst 0, 1), (32, .iastore, 1), (33, .iinc 5 1, 3), (36, .goto (-18), 3), (39, .iconst 0, 1), (40, .istore 5, 2), (42, .iload 5, 2), (44, .iload 4, 2), (46, .iload 4, 2), (48, .imul, 1), (49, .iload 4, 2), (51, .imul, 1), (52, .iload 4, 2), (54, .imul, 1), (55, .if_icmp .ge 100, 3), (58, .iconst 1, 1), (59, .istore 6, 2), (61, .iload 5, 2), (63, .istore 7, 2), (65, .iconst 0, 1), (66, .istore 8, 2), (68, .iload 8, 2), (70, .iconst 4, 1), (71, .if_icmp .ge 63, 3), (74, .iload 7, 2), (76, .iload 4, 2), (78, .irem, 1), (79, .iload_n 3, 1), (80, .isub, 1), (81, .istore 9, 2), (83, .iload 7, 2), (85, .iload 4, 2), (87, .idiv, 1), (88, .istore 7, 2), (90, .iload 6, 2), (92, .iload_n 3, 1), (93, .iconst 1, 1), (94, .iadd, 1), (95, .iload 9, 2), (97, .invokestatic 287, 3), (100, .isub, 1), (101, .imul, 1), (102, .istore 6, 2), (104, .aload_n 0, 1), (105, .getfield 58, 3), (108, .iload 8, 2), (110, .aload_n 0, 1), (111, .getfield 55, 3), (114, .iconst 4, 1), (115, .iload_n 2, 1), (116, .imul, 1), (117, .iload 8, 2), (119, .iadd, 1), (120, .iaload, 1), (121, .iload 9, 2), (123, .iadd, 1), (124, .invokestatic 311, 3), (127, .iastore, 1), (128, .iinc 8 1, 3), (131, .goto (-63), 3), (134, .aload_n 0, 1), (135, .getfield 61, 3), (138, .aload_n 0, 1), (139, .iload_n 1, 1), (140, .invokevirtual 314, 3), (143, .dup2, 1), (144, .iaload, 1), (145, .iload 6, 2), (147, .iadd, 1), (148, .iastore, 1), (149, .iinc 5 1, 3), (152, .goto (-110), 3), (155, .return_, 1)]
def mc_Mod_right_1 : List (Nat × Instr × Nat) := [(0, .iload_n 1, 1), (1, .aload_n 0, 1), (2, .getfield 238, 3), (5, .sipush 999, 3), (8, .invokestatic 197, 3), (11, .ifCond .eq 26, 3), (14, .iload_n 2, 1), (15, .iconst 0, 1), (16, .aload_n 0, 1), (17, .getfield 232, 3), (20, .iconst 1, 1), (21, .isub, 1), (22, .invokestatic 197, 3), (25, .ifCond .eq 12, 3), (28, .aload_n 0, 1), (29, .iconst 2, 1), (30, .iload_n 3, 1), (31, .invokevirtual 272, 3), (34, .ifCond .ne 6, 3), (37, .bipush (-2), 2), (39, .ireturn, 1), (40, .aload_n 0, 1), (41, .getfield 235, 3), (44, .bipush 20, 2), (46, .if_icmp .ne 6, 3), (49, .bipush (-3), 2), (51, .ireturn, 1), (52, .aload_n 0, 1), (53, .iload_n 1, 1), (54, .putfield 238, 3), (57, .aload_n 0, 1), (58, .getfield 107, 3), (61, .aload_n 0, 1), (62, .getfield 235, 3), (65, .iload_n 1, 1), (66, .iastore, 1), (67, .aload_n 0, 1), (68, .getfield 110, 3), (71, .aload_n 0, 1), (72, .getfield 235, 3), (75, .iload_n 2, 1), (76, .iastore, 1), (77, .aload_n 0, 1), (78, .getfield 113, 3), (81, .aload_n 0, 1), (82, .getfield 235, 3), (85, .iload_n 3, 1), (86, .iastore, 1), (87, .aload_n 0, 1), (88, .dup, 1), (89, .getfield 235, 3), (92, .iconst 1, 1), (93, .iadd, 1), (94, .putfield 235, 3), (97, .iconst 0, 1), (98, .istore 4, 2), (100, .iconst 0, 1), (101, .istore 5, 2), (103, .iload 5, 2), (105, .aload_n 0, 1), (106, .getfield 235, 3), (109, .if_icmp .ge 30, 3), (112, .iload 4, 2), (114, .aload_n 0, 1), (115, .getfield 110, 3), (118, .iload 5, 2), (120, .iaload, 1), (121, .iload_n 2, 1), (122, .if_icmp .ne 7, 3), (125, .iconst 1, 1), (126, .goto 4, 3), (129, .iconst 0, 1), (130, .iadd, 1), (131, .istore 4, 2), (133, .iinc 5 1, 3), (136, .goto (-33), 3), (139, .iload 4, 2), (141, .ireturn, 1)]
def mc_Mod_stretch : List (Nat × Instr × Nat) := [(0, .iload_n 1, 1), (1, .iconst 2, 1), (2, .bipush 40, 2), (4, .invokestatic 197, 3), (7, .ifCond .ne 6, 3), (10, .bipush (-2), 2), (12, .ireturn, 1), (13, .aload_n 0, 1), (14, .iload_n 1, 1), (15, .invokevirtual 131, 3), (18, .iload_n 1, 1), (19, .ireturn, 1)]
def mc_Mod_take : List (Nat × Instr × Nat) := [(0, .iload_n 1, 1), (1, .invokestatic 365, 3), (4, .ifCond .ne 6, 3), (7, .bipush (-2), 2), (9, .ireturn, 1), (10, .aload_n 0, 1), (11, .getfield 70, 3), (14, .iload_n 1, 1), (15, .baload, 1), (16, .ifCond .ne 6, 3), (19, .bipush (-4), 2), (21, .ireturn, 1), (22, .iconst 0, 1), (23, .istore_n 2, 1), (24, .iload_n 2, 1), (25, .sipush 162, 3), (28, .if_icmp .ge 29, 3), (31, .aload_n 0, 1), (32, .getfield 64, 3), (35, .iload_n 2, 1), (36, .aload_n 0, 1), (37, .getfield 64, 3), (40, .sipush 162, 3), (43, .iload_n 1, 1), (44, .iconst 1, 1), (45, .iadd, 1), (46, .imul, 1), (47, .iload_n 2, 1), (48, .iadd, 1), (49, .iaload, 1), (50, .iastore, 1), (51, .iinc 2 1, 3), (54, .goto (-30), 3), (57, .iconst 0, 1), (58, .istore_n 2, 1), (59, .iload_n 2, 1), (60, .iconst 2, 1), (61, .if_icmp .ge 27, 3), (64, .aload_n 0, 1), (65, .getfield 67, 3), (68, .iload_n 2, 1), (69, .aload_n 0, 1), (70, .getfield 67, 3), (73, .iconst 2, 1), (74, .iload_n 1, 1), (75, .iconst 1, 1), (76, .iadd, 1), (77, .imul, 1), (78, .iload_n 2, 1), (79, .iadd, 1), (80, .laload, 1), (81, .lastore, 1), (82, .iinc 2 1, 3), (85, .goto (-26), 3), (88, .aload_n 0, 1), (89, .getfield 64, 3), (92, .iconst 1, 1), (93, .iaload, 1), (94, .ireturn, 1)]
def mc_Mod_tapRow : List (Nat × Instr × Nat) := [(0, .iload_n 1, 1), (1, .iconst 0, 1), (2, .bipush 99, 2), (4, .invokestatic 197, 3), (7, .ifCond .eq 12, 3), (10, .iload_n 2, 1), (11, .iconst 0, 1), (12, .iconst 2, 1), (13, .invokestatic 197, 3), (16, .ifCond .ne 6, 3), (19, .bipush (-2), 2), (21, .ireturn, 1), (22, .aload_n 0, 1), (23, .iload_n 1, 1), (24, .invokevirtual 401, 3), (27, .iload_n 2, 1), (28, .ifCond .ne 10, 3), (31, .aload_n 0, 1), (32, .getfield 392, 3), (35, .goto 19, 3), (38, .iload_n 2, 1), (39, .iconst 1, 1), (40, .if_icmp .ne 10, 3), (43, .aload_n 0, 1), (44, .getfield 395, 3), (47, .goto 7, 3), (50, .aload_n 0, 1), (51, .getfield 398, 3), (54, .ireturn, 1)]
def mc_Mod_tick : List (Nat × Instr × Nat) := [(0, .iload_n 1, 1), (1, .iconst 0, 1), (2, .sipush 400, 3), (5, .invokestatic 197, 3), (8, .ifCond .ne 6, 3), (11, .bipush (-2), 2), (13, .ireturn, 1), (14, .iconst 0, 1), (15, .istore_n 2, 1), (16, .iload_n 2, 1), (17, .iload_n 1, 1), (18, .if_icmp .ge 13, 3), (21, .aload_n 0, 1), (22, .invokevirtual 359, 3), (25, .iinc 2 1, 3), (28, .goto (-12), 3), (31, .aload_n 0, 1), (32, .getfield 64, 3), (35, .iconst 1, 1), (36, .iaload, 1), (37, .ireturn, 1)]
def mc_Mod_told : List (Nat × Instr × Nat) := [(0, .iload_n 1, 1), (1, .iconst 0, 1), (2, .bipush 8, 2), (4, .invokestatic 197, 3), (7, .ifCond .eq 10, 3), (10, .aload_n 0, 1), (11, .getfield 17, 3), (14, .iload_n 1, 1), (15, .iaload, 1), (16, .ireturn, 1), (17, .aload_n 0, 1), (18, .iconst 0, 1), (19, .iload_n 1, 1), (20, .bipush 10, 2), (22, .isub, 1), (23, .invokevirtual 272, 3), (26, .ifCond .eq 15, 3), (29, .aload_n 0, 1), (30, .getfield 25, 3), (33, .iconst 5, 1), (34, .iload_n 1, 1), (35, .bipush 10, 2), (37, .isub, 1), (38, .imul, 1), (39, .iaload, 1), (40, .ireturn, 1), (41, .aload_n 0, 1), (42, .iconst 5, 1), (43, .iload_n 1, 1), (44, .bipush 20, 2), (46, .isub, 1), (47, .invokevirtual 272, 3), (50, .ifCond .eq 17, 3), (53, .aload_n 0, 1), (54, .getfield 46, 3), (57, .iconst 5, 1), (58, .iload_n 1, 1), (59, .bipush 20, 2), (61, .isub, 1), (62, .imul, 1), (63, .iaload, 1), (64, .goto 4, 3), (67, .iconst (-1), 1), (68, .ireturn, 1)]
def mc_Mod_write : List (Nat × Instr × Nat) := [(0, .iload_n 1, 1), (1, .aload_n 0, 1), (2, .getfield 238, 3), (5, .sipush 999, 3), (8, .invokestatic 197, 3), (11, .ifCond .eq 21, 3), (14, .aload_n 0, 1), (15, .iconst 2, 1), (16, .iload_n 2, 1), (17, .invokevirtual 272, 3), (20, .ifCond .eq 12, 3), (23, .aload_n 0, 1), (24, .iconst 2, 1), (25, .iload_n 3, 1), (26, .invokevirtual 272, 3), (29, .ifCond .ne 6, 3), (32, .bipush (-2), 2), (34, .ireturn, 1), (35, .aload_n 0, 1), (36, .getfield 232, 3), (39, .bipush 20, 2), (41, .if_icmp .ne 6, 3), (44, .bipush (-3), 2), (46, .ireturn, 1), (47, .aload_n 0, 1), (48, .iload_n 1, 1), (49, .putfield 238, 3), (52, .aload_n 0, 1), (53, .getfield 98, 3), (56, .aload_n 0, 1), (57, .getfield 232, 3), (60, .iload_n 1, 1), (61, .iastore, 1), (62, .aload_n 0, 1), (63, .getfield 101, 3), (66, .aload_n 0, 1), (67, .getfield 232, 3), (70, .iload_n 2, 1), (71, .iastore, 1), (72, .aload_n 0, 1), (73, .getfield 104, 3), (76, .aload_n 0, 1), (77, .getfield 232, 3), (80, .iload_n 3, 1), (81, .iastore, 1), (82, .aload_n 0, 1), (83, .dup, 1), (84, .getfield 232, 3), (87, .iconst 1, 1), (88, .iadd, 1), (89, .putfield 232, 3), (92, .aload_n 0, 1), (93, .getfield 232, 3), (96, .iconst 1, 1), (97, .isub, 1), (98, .ireturn, 1)]
def mc_Taps_bits : List (Nat × Instr × Nat) := [(0, .iload_n 0, 1), (1, .invokestatic 13, 3), (4, .istore_n 1, 1), (5, .iload_n 0, 1), (6, .invokestatic 25, 3), (9, .istore_n 2, 1), (10, .iconst 0, 1), (11, .istore_n 3, 1), (12, .iload_n 1, 1), (13, .ifCond .le 67, 3), (16, .iload_n 2, 1), (17, .getstatic 7, 3), (20, .iload_n 1, 1), (21, .iconst 1, 1), (22, .isub, 1), (23, .iaload, 1), (24, .if_icmp .lt 7, 3), (27, .iconst 1, 1), (28, .goto 4, 3), (31, .iconst 0, 1), (32, .istore 4, 2), (34, .iload 4, 2), (36, .ifCond .eq 13, 3), (39, .iload_n 2, 1), (40, .getstatic 7, 3), (43, .iload_n 1, 1), (44, .iconst 1, 1), (45, .isub, 1), (46, .iaload, 1), (47, .isub, 1), (48, .istore_n 2, 1), (49, .iload_n 3, 1), (50, .iconst 2, 1), (51, .imul, 1), (52, .iload 4, 2), (54, .ifCond .eq 7, 3), (57, .iconst 1, 1), (58, .goto 4, 3), (61, .iconst 0, 1), (62, .iadd, 1), (63, .istore_n 3, 1), (64, .iload_n 1, 1), (65, .iload 4, 2), (67, .ifCond .eq 7, 3), (70, .iconst 2, 1), (71, .goto 4, 3), (74, .iconst 1, 1), (75, .isub, 1), (76, .istore_n 1, 1), (77, .goto (-65), 3), (80, .iload_n 3, 1), (81, .ireturn, 1)]
def mc_Taps_together : List (Nat × Instr × Nat) := [(0, .iconst 0, 1), (1, .istore_n 2, 1), (2, .iconst 0, 1), (3, .istore_n 3, 1), (4, .iload_n 3, 1), (5, .iload_n 1, 1), (6, .if_icmp .ge 65, 3), (9, .iload_n 3, 1), (10, .iconst 1, 1), (11, .iadd, 1), (12, .istore 4, 2), (14, .iload 4, 2), (16, .iload_n 1, 1), (17, .if_icmp .ge 37, 3), (20, .aload_n 0, 1), (21, .iload 4, 2), (23, .iaload, 1), (24, .aload_n 0, 1), (25, .iload_n 3, 1), (26, .iaload, 1), (27, .if_icmp .le 21, 3), (30, .aload_n 0, 1), (31, .iload_n 3, 1), (32, .iaload, 1), (33, .istore 5, 2), (35, .aload_n 0, 1), (36, .iload_n 3, 1), (37, .aload_n 0, 1), (38, .iload 4, 2), (40, .iaload, 1), (41, .iastore, 1), (42, .aload_n 0, 1), (43, .iload 4, 2), (45, .iload 5, 2), (47, .iastore, 1), (48, .iinc 4 1, 3), (51, .goto (-37), 3), (54, .iload_n 2, 1), (55, .aload_n 0, 1), (56, .iload_n 3, 1), (57, .iaload, 1), (58, .iload_n 3, 1), (59, .invokestatic 28, 3), (62, .imul, 1), (63, .iadd, 1), (64, .istore_n 2, 1), (65, .iinc 3 1, 3), (68, .goto (-64), 3), (71, .iload_n 2, 1), (72, .ireturn, 1)]
def mc_Ear_begin : List (Nat × Instr × Nat) := [(0, .aload_n 0, 1), (1, .aload_n 1, 1), (2, .getfield 51, 3), (5, .iconst 2, 1), (6, .iaload, 1), (7, .putfield 54, 3), (10, .aload_n 0, 1), (11, .aload_n 1, 1), (12, .bipush 8, 2), (14, .iconst 0, 1), (15, .iconst 0, 1), (16, .invokevirtual 57, 3), (19, .putfield 61, 3), (22, .aload_n 2, 1), (23, .aload_n 1, 1), (24, .invokevirtual 64, 3), (27, .istore_n 3, 1), (28, .iconst 0, 1), (29, .istore 4, 2), (31, .iload 4, 2), (33, .aload_n 0, 1), (34, .getfield 54, 3), (37, .if_icmp .ge 51, 3), (40, .iconst 0, 1), (41, .istore 5, 2), (43, .iload 5, 2), (45, .iconst 4, 1), (46, .if_icmp .ge 36, 3), (49, .aload_n 0, 1), (50, .getfield 16, 3), (53, .iload 4, 2), (55, .aaload, 1), (56, .iload 5, 2), (58, .aload_n 2, 1), (59, .aload_n 1, 1), (60, .iload_n 3, 1), (61, .aload_n 1, 1), (62, .iconst 2, 1), (63, .iload 4, 2), (65, .iload 5, 2), (67, .invokevirtual 68, 3), (70, .iload 5, 2), (72, .invokevirtual 71, 3), (75, .iastore, 1), (76, .iinc 5 1, 3), (79, .goto (-36), 3), (82, .iinc 4 1, 3), (85, .goto (-54), 3), (88, .return_, 1)]
def mc_Ear_goOn : List (Nat × Instr × Nat) := [(0, .iconst 0, 1), (1, .istore 4, 2), (3, .iconst 0, 1), (4, .istore 5, 2), (6, .iload 5, 2), (8, .aload_n 0, 1), (9, .getfield 54, 3), (12, .if_icmp .ge 113, 3), (15, .iconst 0, 1), (16, .istore 6, 2), (18, .iload 6, 2), (20, .iconst 4, 1), (21, .if_icmp .ge 98, 3), (24, .aload_n 0, 1), (25, .getfield 16, 3), (28, .iload 5, 2), (30, .aaload, 1), (31, .iload 6, 2), (33, .aload_n 2, 1), (34, .aload_n 1, 1), (35, .aload_n 0, 1), (36, .getfield 16, 3), (39, .iload 5, 2), (41, .aaload, 1), (42, .iload 6, 2), (44, .iaload, 1), (45, .iload 6, 2), (47, .iload_n 3, 1), (48, .invokevirtual 75, 3), (51, .iastore, 1), (52, .aload_n 2, 1), (53, .aload_n 1, 1), (54, .aload_n 0, 1), (55, .getfield 16, 3), (58, .iload 5, 2), (60, .aaload, 1), (61, .iload 6, 2), (63, .iaload, 1), (64, .iload 6, 2), (66, .invokevirtual 78, 3), (69, .invokestatic 82, 3), (72, .istore 7, 2), (74, .iload 4, 2), (76, .ifCond .ne 18, 3), (79, .iload 7, 2), (81, .aload_n 0, 1), (82, .getfield 13, 3), (85, .iload 5, 2), (87, .aaload, 1), (88, .iload 6, 2), (90, .iaload, 1), (91, .if_icmp .eq 7, 3), (94, .iconst 1, 1), (95, .goto 4, 3), (98, .iconst 0, 1), (99, .istore 4, 2), (101, .aload_n 0, 1), (102, .getfield 13, 3), (105, .iload 5, 2), (107, .aaload, 1), (108, .iload 6, 2), (110, .iload 7, 2), (112, .iastore, 1), (113, .iinc 6 1, 3), (116, .goto (-98), 3), (119, .iinc 5 1, 3), (122, .goto (-116), 3), (125, .iload 4, 2), (127, .ireturn, 1)]
def mc_Ear_hear : List (Nat × Instr × Nat) := [(0, .aload_n 0, 1), (1, .iload_n 2, 1), (2, .invokevirtual 86, 3), (5, .iconst 0, 1), (6, .istore 4, 2), (8, .iload 4, 2), (10, .aload_n 3, 1), (11, .arraylength, 1), (12, .if_icmp .ge 14, 3), (15, .aload_n 3, 1), (16, .iload 4, 2), (18, .iconst 0, 1), (19, .iastore, 1), (20, .iinc 4 1, 3), (23, .goto (-15), 3), (26, .iconst 0, 1), (27, .istore 4, 2), (29, .iload 4, 2), (31, .iconst 4, 1), (32, .if_icmp .ge 16, 3), (35, .aload_n 0, 1), (36, .iload_n 1, 1), (37, .iload 4, 2), (39, .invokevirtual 90, 3), (42, .iinc 4 1, 3), (45, .goto (-16), 3), (48, .iconst 0, 1), (49, .istore 4, 2), (51, .iload 4, 2), (53, .aload_n 0, 1), (54, .getfield 26, 3), (57, .iconst 0, 1), (58, .iaload, 1), (59, .if_icmp .ge 72, 3), (62, .iconst 0, 1), (63, .istore 5, 2), (65, .iload 5, 2), (67, .aload_n 0, 1), (68, .getfield 26, 3), (71, .iconst 1, 1), (72, .iaload, 1), (73, .if_icmp .ge 52, 3), (76, .aload_n 0, 1), (77, .aload_n 0, 1), (78, .getfield 31, 3), (81, .iconst 0, 1), (82, .aaload, 1), (83, .iload 4, 2), (85, .laload, 1), (86, .aload_n 0, 1), (87, .getfield 31, 3), (90, .iconst 1, 1), (91, .aaload, 1), (92, .iload 5, 2), (94, .laload, 1), (95, .ladd, 1), (96, .aload_n 0, 1), (97, .getfield 34, 3), (100, .iconst 0, 1), (101, .aaload, 1), (102, .iload 4, 2), (104, .iaload, 1), (105, .aload_n 0, 1), (106, .getfield 34, 3), (109, .iconst 1, 1), (110, .aaload, 1), (111, .iload 5, 2), (113, .iaload, 1), (114, .imul, 1), (115, .aload_n 3, 1), (116, .invokevirtual 94, 3), (119, .iinc 5 1, 3), (122, .goto (-57), 3), (125, .iinc 4 1, 3), (128, .goto (-77), 3), (131, .return_, 1)]
def mc_Line_arrives : List (Nat × Instr × Nat) := [(0, .aload_n 0, 1), (1, .aload_n 1, 1), (2, .aload_n 0, 1), (3, .aload_n 1, 1), (4, .aload_n 0, 1), (5, .aload_n 1, 1), (6, .aload_n 0, 1), (7, .aload_n 1, 1), (8, .invokevirtual 64, 3), (11, .iload_n 2, 1), (12, .iload_n 3, 1), (13, .invokevirtual 67, 3), (16, .iload_n 3, 1), (17, .aload_n 0, 1), (18, .getfield 9, 3), (21, .invokevirtual 70, 3), (24, .iload_n 3, 1), (25, .invokevirtual 73, 3), (28, .ireturn, 1)]
def mc_Line_tiedOff : List (Nat × Instr × Nat) := [(0, .aload_n 0, 1), (1, .aload_n 1, 1), (2, .aload_n 0, 1), (3, .aload_n 1, 1), (4, .aload_n 0, 1), (5, .aload_n 1, 1), (6, .invokevirtual 64, 3), (9, .iload_n 3, 1), (10, .iload 4, 2), (12, .invokevirtual 67, 3), (15, .iload 4, 2), (17, .aload_n 0, 1), (18, .getfield 9, 3), (21, .invokevirtual 70, 3), (24, .istore 5, 2), (26, .aload_n 0, 1), (27, .aload_n 1, 1), (28, .iload 5, 2), (30, .iload 4, 2), (32, .iload_n 2, 1), (33, .invokevirtual 60, 3), (36, .aload_n 0, 1), (37, .getfield 19, 3), (40, .iload_n 2, 1), (41, .iaload, 1), (42, .imul, 1), (43, .bipush 100, 2), (45, .idiv, 1), (46, .ireturn, 1)]
def mc_Str_readName : List (Nat × Instr × Nat) := [(0, .aload_n 1, 1), (1, .invokevirtual 34, 3), (4, .aload_n 1, 1), (5, .getfield 37, 3), (8, .iconst 2, 1), (9, .if_icmp .eq 5, 3), (12, .iconst 1, 1), (13, .ireturn, 1), (14, .iconst 0, 1), (15, .istore_n 3, 1), (16, .iload_n 3, 1), (17, .aload_n 0, 1), (18, .getfield 11, 3), (21, .iload_n 2, 1), (22, .iaload, 1), (23, .if_icmp .ge 27, 3), (26, .aload_n 0, 1), (27, .getfield 17, 3), (30, .iload_n 2, 1), (31, .aaload, 1), (32, .iload_n 3, 1), (33, .laload, 1), (34, .aload_n 1, 1), (35, .getfield 68, 3), (38, .lcmp, 1), (39, .ifCond .ne 5, 3), (42, .iconst 3, 1), (43, .ireturn, 1), (44, .iinc 3 1, 3), (47, .goto (-31), 3), (50, .aload_n 0, 1), (51, .getfield 17, 3), (54, .iload_n 2, 1), (55, .aaload, 1), (56, .aload_n 0, 1), (57, .getfield 11, 3), (60, .iload_n 2, 1), (61, .iaload, 1), (62, .aload_n 1, 1), (63, .getfield 68, 3), (66, .lastore, 1), (67, .iconst 0, 1), (68, .ireturn, 1)]
def mc_Str_readNumber : List (Nat × Instr × Nat) := [(0, .aload_n 1, 1), (1, .invokevirtual 34, 3), (4, .aload_n 1, 1), (5, .getfield 37, 3), (8, .iconst 3, 1), (9, .if_icmp .eq 5, 3), (12, .iconst 1, 1), (13, .ireturn, 1), (14, .iload_n 3, 1), (15, .ifCond .ne 7, 3), (18, .iconst 1, 1), (19, .goto 4, 3), (22, .iconst 0, 1), (23, .istore 4, 2), (25, .iload 4, 2), (27, .ifCond .eq 16, 3), (30, .iload_n 2, 1), (31, .ifCond .eq 8, 3), (34, .iload_n 2, 1), (35, .iconst 5, 1), (36, .if_icmp .ne 7, 3), (39, .iconst 1, 1), (40, .goto 4, 3), (43, .iconst 0, 1), (44, .istore 5, 2), (46, .iload 4, 2), (48, .ifCond .eq 12, 3), (51, .iload_n 2, 1), (52, .ifCond .ne 8, 3), (55, .bipush 99, 2), (57, .goto 8, 3), (60, .getstatic 72, 3), (63, .iload_n 2, 1), (64, .iaload, 1), (65, .istore 6, 2), (67, .aload_n 1, 1), (68, .getfield 75, 3), (71, .iload 5, 2), (73, .if_icmp .lt 12, 3), (76, .aload_n 1, 1), (77, .getfield 75, 3), (80, .iload 6, 2), (82, .if_icmp .le 5, 3), (85, .iconst 2, 1), (86, .ireturn, 1), (87, .aload_n 0, 1), (88, .getfield 11, 3), (91, .iload_n 2, 1), (92, .iaload, 1), (93, .iconst 5, 1), (94, .imul, 1), (95, .istore 7, 2), (97, .aload_n 0, 1), (98, .getfield 22, 3), (101, .iload_n 2, 1), (102, .aaload, 1), (103, .iload 7, 2), (105, .iload_n 3, 1), (106, .iadd, 1), (107, .aload_n 1, 1), (108, .getfield 75, 3), (111, .iastore, 1), (112, .iload_n 3, 1), (113, .iconst 1, 1), (114, .if_icmp .ne 17, 3), (117, .iload_n 2, 1), (118, .iconst 3, 1), (119, .if_icmp .eq 8, 3), (122, .iload_n 2, 1), (123, .iconst 4, 1), (124, .if_icmp .ne 7, 3), (127, .iconst 1, 1), (128, .goto 4, 3), (131, .iconst 0, 1), (132, .istore 8, 2), (134, .iload 8, 2), (136, .ifCond .eq 28, 3), (139, .aload_n 0, 1), (140, .iload_n 2, 1), (141, .aload_n 0, 1), (142, .getfield 22, 3), (145, .iload_n 2, 1), (146, .aaload, 1), (147, .iload 7, 2), (149, .iaload, 1), (150, .aload_n 1, 1), (151, .getfield 75, 3), (154, .invokevirtual 78, 3), (157, .ifCond .eq 7, 3), (160, .iconst 3, 1), (161, .goto 4, 3), (164, .iconst 0, 1), (165, .ireturn, 1)]
def mc_Tape_readNumbers : List (Nat × Instr × Nat) := [(0, .aload_n 0, 1), (1, .iconst 0, 1), (2, .putfield 19, 3), (5, .iconst (-1), 1), (6, .istore_n 3, 1), (7, .iconst 0, 1), (8, .istore 4, 2), (10, .iload 4, 2), (12, .iload_n 2, 1), (13, .if_icmp .gt 58, 3), (16, .aload_n 0, 1), (17, .invokevirtual 63, 3), (20, .aload_n 0, 1), (21, .getfield 36, 3), (24, .ifCond .ne 9, 3), (27, .iload 4, 2), (29, .istore_n 3, 1), (30, .goto 41, 3), (33, .aload_n 0, 1), (34, .getfield 36, 3), (37, .iconst 3, 1), (38, .if_icmp .ne 33, 3), (41, .iload 4, 2), (43, .iload_n 2, 1), (44, .if_icmp .ge 27, 3), (47, .iload 4, 2), (49, .aload_n 1, 1), (50, .arraylength, 1), (51, .if_icmp .lt 6, 3), (54, .goto 17, 3), (57, .aload_n 1, 1), (58, .iload 4, 2), (60, .aload_n 0, 1), (61, .getfield 33, 3), (64, .iastore, 1), (65, .iinc 4 1, 3), (68, .goto (-58), 3), (71, .aload_n 0, 1), (72, .iconst 0, 1), (73, .putfield 15, 3), (76, .iload_n 3, 1), (77, .ireturn, 1)]
def mc_Wish_search : List (Nat × Instr × Nat) := [(0, .aload_n 1, 1), (1, .getfield 37, 3), (4, .iconst 3, 1), (5, .iaload, 1), (6, .istore_n 3, 1), (7, .iconst 0, 1), (8, .istore 4, 2), (10, .iconst 0, 1), (11, .istore 5, 2), (13, .iconst 0, 1), (14, .istore 6, 2), (16, .iload 6, 2), (18, .iload_n 3, 1), (19, .if_icmp .ge 85, 3), (22, .iload 6, 2), (24, .iconst 1, 1), (25, .iadd, 1), (26, .istore 7, 2), (28, .iload 7, 2), (30, .iload_n 3, 1), (31, .if_icmp .ge 67, 3), (34, .aload_n 0, 1), (35, .getfield 11, 3), (38, .iload 4, 2), (40, .aload_n 1, 1), (41, .iload 6, 2), (43, .iload 7, 2), (45, .invokestatic 53, 3), (48, .iastore, 1), (49, .aload_n 0, 1), (50, .getfield 15, 3), (53, .iload 4, 2), (55, .iconst 1, 1), (56, .iload 6, 2), (58, .ishl, 1), (59, .iconst 1, 1), (60, .iload 7, 2), (62, .ishl, 1), (63, .ior, 1), (64, .iastore, 1), (65, .iload 5, 2), (67, .aload_n 0, 1), (68, .getfield 11, 3), (71, .iload 4, 2), (73, .iaload, 1), (74, .iconst (-1), 1), (75, .if_icmp .ne 10, 3), (78, .iconst 1, 1), (79, .iload 4, 2), (81, .ishl, 1), (82, .goto 4, 3), (85, .iconst 0, 1), (86, .ior, 1), (87, .istore 5, 2), (89, .iinc 4 1, 3), (92, .iinc 7 1, 3), (95, .goto (-67), 3), (98, .iinc 6 1, 3), (101, .goto (-85), 3), (104, .aload_n 0, 1), (105, .iconst (-1), 1), (106, .putfield 57, 3), (109, .aload_n 0, 1), (110, .iconst (-1), 1), (111, .putfield 60, 3), (114, .iconst 0, 1), (115, .istore 6, 2), (117, .iload 6, 2), (119, .iconst 1, 1), (120, .iload 4, 2), (122, .ishl, 1), (123, .if_icmp .ge 69, 3), (126, .iload 6, 2), (128, .iload 5, 2), (130, .iand, 1), (131, .ifCond .ne 55, 3), (134, .aload_n 0, 1), (135, .iload 6, 2), (137, .iload 4, 2), (139, .invokevirtual 63, 3), (142, .istore 7, 2), (144, .aload_n 0, 1), (145, .getfield 57, 3), (148, .iconst (-1), 1), (149, .if_icmp .eq 12, 3), (152, .iload 7, 2), (154, .aload_n 0, 1), (155, .getfield 57, 3), (158, .if_icmp .ge 28, 3), (161, .aload_n 0, 1), (162, .iload 6, 2), (164, .iload 4, 2), (166, .iload_n 3, 1), (167, .iload_n 2, 1), (168, .invokevirtual 66, 3), (171, .ifCond .eq 15, 3), (174, .aload_n 0, 1), (175, .iload 7, 2), (177, .putfield 57, 3), (180, .aload_n 0, 1), (181, .iload 6, 2), (183, .putfield 60, 3), (186, .iinc 6 1, 3), (189, .goto (-72), 3), (192, .return_, 1)]
def mc_Tin_init : List (Nat × Instr × Nat) := [(0, .aload_n 0, 1), (1, .invokespecial 1, 3), (4, .aload_n 0, 1), (5, .new 7, 3), (8, .dup, 1), (9, .invokespecial 9, 3), (12, .putfield 10, 3), (15, .aload_n 0, 1), (16, .new 16, 3), (19, .dup, 1), (20, .invokespecial 18, 3), (23, .putfield 19, 3), (26, .aload_n 0, 1), (27, .new 16, 3), (30, .dup, 1), (31, .invokespecial 18, 3), (34, .putfield 23, 3), (37, .aload_n 0, 1), (38, .new 26, 3), (41, .dup, 1), (42, .invokespecial 28, 3), (45, .putfield 29, 3), (48, .aload_n 0, 1), (49, .new 33, 3), (52, .dup, 1), (53, .invokespecial 35, 3), (56, .putfield 36, 3), (59, .aload_n 0, 1), (60, .new 40, 3), (63, .dup, 1), (64, .invokespecial 42, 3), (67, .putfield 43, 3), (70, .aload_n 0, 1), (71, .new 47, 3), (74, .dup, 1), (75, .invokespecial 49, 3), (78, .putfield 50, 3), (81, .aload_n 0, 1), (82, .new 54, 3), (85, .dup, 1), (86, .invokespecial 56, 3), (89, .putfield 57, 3), (92, .aload_n 0, 1), (93, .iconst 3, 1), (94, .anewarray 54, 3), (97, .putfield 61, 3), (100, .iconst 0, 1), (101, .istore_n 1, 1), (102, .iload_n 1, 1), (103, .iconst 3, 1), (104, .if_icmp .ge 22, 3), (107, .aload_n 0, 1), (108, .getfield 61, 3), (111, .iload_n 1, 1), (112, .new 54, 3), (115, .dup, 1), (116, .invokespecial 56, 3), (119, .aastore, 1), (120, .iinc 1 1, 3), (123, .goto (-21), 3), (126, .aload_n 0, 1), (127, .bipush 16, 2), (129, .newarray .int, 2), (131, .putfield 67, 3), (134, .aload_n 0, 1), (135, .iconst 0, 1), (136, .putfield 71, 3), (139, .aload_n 0, 1), (140, .iconst (-1), 1), (141, .putfield 75, 3), (144, .aload_n 0, 1), (145, .getfield 57, 3), (148, .iconst 2, 1), (149, .invokevirtual 78, 3), (152, .return_, 1)]
def mc_Tin_bears : List (Nat × Instr × Nat) := [(0, .iload_n 1, 1), (1, .iconst 0, 1), (2, .iconst 4, 1), (3, .invokestatic 85, 3), (6, .ifCond .ne 6, 3), (9, .bipush (-2), 2), (11, .ireturn, 1), (12, .aload_n 0, 1), (13, .getfield 19, 3), (16, .getfield 82, 3), (19, .iconst 0, 1), (20, .iaload, 1), (21, .ifCond .ne 6, 3), (24, .bipush (-4), 2), (26, .ireturn, 1), (27, .iload_n 1, 1), (28, .tableswitch 84 0 3 #[32, 44, 56, 76], 32), (60, .aload_n 0, 1), (61, .getfield 29, 3), (64, .aload_n 0, 1), (65, .getfield 19, 3), (68, .invokevirtual 149, 3), (71, .ireturn, 1), (72, .aload_n 0, 1), (73, .getfield 29, 3), (76, .aload_n 0, 1), (77, .getfield 19, 3), (80, .invokevirtual 153, 3), (83, .ireturn, 1), (84, .aload_n 0, 1), (85, .getfield 29, 3), (88, .aload_n 0, 1), (89, .getfield 19, 3), (92, .invokevirtual 156, 3), (95, .ifCond .eq 7, 3), (98, .iconst 1, 1), (99, .goto 4, 3), (102, .iconst 0, 1), (103, .ireturn, 1), (104, .aload_n 0, 1), (105, .getfield 29, 3), (108, .getfield 137, 3), (111, .ireturn, 1), (112, .aload_n 0, 1), (113, .getfield 29, 3), (116, .getfield 143, 3), (119, .ireturn, 1)]
def mc_Tin_send : List (Nat × Instr × Nat) := [(0, .iload_n 1, 1), (1, .iconst 0, 1), (2, .iconst 1, 1), (3, .invokestatic 85, 3), (6, .ifCond .eq 16, 3), (9, .iload_n 2, 1), (10, .sipush (-9999), 3), (13, .sipush 9999, 3), (16, .invokestatic 85, 3), (19, .ifCond .ne 6, 3), (22, .bipush (-2), 2), (24, .ireturn, 1), (25, .aload_n 0, 1), (26, .getfield 57, 3), (29, .iload_n 1, 1), (30, .iload_n 2, 1), (31, .invokevirtual 232, 3), (34, .ireturn, 1)]
def mc_Tin_tick : List (Nat × Instr × Nat) := [(0, .iload_n 1, 1), (1, .iconst 0, 1), (2, .sipush 400, 3), (5, .invokestatic 85, 3), (8, .ifCond .ne 6, 3), (11, .bipush (-2), 2), (13, .ireturn, 1), (14, .iconst 0, 1), (15, .istore_n 2, 1), (16, .iload_n 2, 1), (17, .iload_n 1, 1), (18, .if_icmp .ge 16, 3), (21, .aload_n 0, 1), (22, .getfield 57, 3), (25, .invokevirtual 235, 3), (28, .iinc 2 1, 3), (31, .goto (-15), 3), (34, .aload_n 0, 1), (35, .getfield 57, 3), (38, .getfield 238, 3), (41, .ireturn, 1)]
def mc_Tin_wish : List (Nat × Instr × Nat) := [(0, .aload_n 0, 1), (1, .iload_n 1, 1), (2, .iload_n 2, 1), (3, .invokevirtual 261, 3), (6, .ifCond .ne 6, 3), (9, .bipush (-2), 2), (11, .ireturn, 1), (12, .aload_n 0, 1), (13, .getfield 43, 3), (16, .iload_n 1, 1), (17, .iload_n 2, 1), (18, .invokestatic 267, 3), (21, .iload_n 1, 1), (22, .iload_n 2, 1), (23, .invokestatic 272, 3), (26, .aload_n 0, 1), (27, .getfield 19, 3), (30, .getfield 82, 3), (33, .iconst 3, 1), (34, .iaload, 1), (35, .invokestatic 275, 3), (38, .invokevirtual 278, 3), (41, .ireturn, 1)]
def mc_Tin_yards : List (Nat × Instr × Nat) := [(0, .aload_n 0, 1), (1, .iload_n 1, 1), (2, .iload_n 2, 1), (3, .invokevirtual 261, 3), (6, .ifCond .eq 15, 3), (9, .aload_n 0, 1), (10, .getfield 19, 3), (13, .iload_n 1, 1), (14, .iload_n 2, 1), (15, .invokestatic 264, 3), (18, .goto 5, 3), (21, .bipush (-2), 2), (23, .ireturn, 1)]
def mc_Mod_right_0 : List (Nat × Instr × Nat) := [(0, .aload_n 0, 1), (1, .iload_n 1, 1), (2, .iload_n 2, 1), (3, .invokevirtual 317, 3), (6, .aload_n 0, 1), (7, .getfield 61, 3), (10, .iload_n 2, 1), (11, .iaload, 1), (12, .ireturn, 1)]
def mc_Mod_share : List (Nat × Instr × Nat) := [(0, .iload_n 1, 1), (1, .iconst 0, 1), (2, .aload_n 0, 1), (3, .getfield 229, 3), (6, .iconst 1, 1), (7, .isub, 1), (8, .invokestatic 197, 3), (11, .ifCond .eq 20, 3), (14, .iload_n 2, 1), (15, .iconst 0, 1), (16, .bipush 9, 2), (18, .invokestatic 197, 3), (21, .ifCond .eq 10, 3), (24, .iload_n 3, 1), (25, .invokestatic 275, 3), (28, .ifCond .ne 6, 3), (31, .bipush (-2), 2), (33, .ireturn, 1), (34, .aload_n 0, 1), (35, .invokevirtual 297, 3), (38, .ifCond .eq 35, 3), (41, .aload_n 0, 1), (42, .aload_n 0, 1), (43, .getfield 214, 3), (46, .aload_n 0, 1), (47, .getfield 217, 3), (50, .aload_n 0, 1), (51, .getfield 220, 3), (54, .iload_n 2, 1), (55, .iload_n 3, 1), (56, .iload_n 1, 1), (57, .invokevirtual 293, 3), (60, .aload_n 0, 1), (61, .getfield 52, 3), (64, .iload_n 1, 1), (65, .iaload, 1), (66, .imul, 1), (67, .bipush 100, 2), (69, .idiv, 1), (70, .goto 5, 3), (73, .bipush (-4), 2), (75, .ireturn, 1)]
def mc_Mod_throughOf : List (Nat × Instr × Nat) := [(0, .aload_n 0, 1), (1, .iload_n 1, 1), (2, .iload_n 2, 1), (3, .iload_n 3, 1), (4, .iload 4, 2), (6, .iload 5, 2), (8, .aload_n 0, 1), (9, .getfield 229, 3), (12, .invokevirtual 293, 3), (15, .aload_n 0, 1), (16, .getfield 28, 3), (19, .iconst 4, 1), (20, .iload_n 2, 1), (21, .imul, 1), (22, .iload 5, 2), (24, .iadd, 1), (25, .iaload, 1), (26, .imul, 1), (27, .bipush 100, 2), (29, .idiv, 1), (30, .ireturn, 1)]
def mc_Mod_wish : List (Nat × Instr × Nat) := [(0, .aload_n 0, 1), (1, .iload_n 1, 1), (2, .iload_n 2, 1), (3, .invokevirtual 368, 3), (6, .ifCond .ne 6, 3), (9, .bipush (-2), 2), (11, .ireturn, 1), (12, .iload_n 1, 1), (13, .iload_n 2, 1), (14, .if_icmp .ge 7, 3), (17, .iload_n 1, 1), (18, .goto 4, 3), (21, .iload_n 2, 1), (22, .istore_n 3, 1), (23, .iload_n 1, 1), (24, .iload_n 2, 1), (25, .if_icmp .ge 7, 3), (28, .iload_n 2, 1), (29, .goto 4, 3), (32, .iload_n 1, 1), (33, .istore 4, 2), (35, .iconst 0, 1), (36, .istore 5, 2), (38, .iload 5, 2), (40, .aload_n 0, 1), (41, .getfield 241, 3), (44, .if_icmp .ge 37, 3), (47, .aload_n 0, 1), (48, .getfield 80, 3), (51, .iload 5, 2), (53, .iaload, 1), (54, .iload_n 3, 1), (55, .if_icmp .ne 20, 3), (58, .aload_n 0, 1), (59, .getfield 83, 3), (62, .iload 5, 2), (64, .iaload, 1), (65, .iload 4, 2), (67, .if_icmp .ne 8, 3), (70, .aload_n 0, 1), (71, .getfield 241, 3), (74, .ireturn, 1), (75, .iinc 5 1, 3), (78, .goto (-40), 3), (81, .aload_n 0, 1), (82, .getfield 80, 3), (85, .aload_n 0, 1), (86, .getfield 241, 3), (89, .iload_n 3, 1), (90, .iastore, 1), (91, .aload_n 0, 1), (92, .getfield 83, 3), (95, .aload_n 0, 1), (96, .getfield 241, 3), (99, .iload 4, 2), (101, .iastore, 1), (102, .aload_n 0, 1), (103, .dup, 1), (104, .getfield 241, 3), (107, .iconst 1, 1), (108, .iadd, 1), (109, .putfield 241, 3), (112, .aload_n 0, 1), (113, .getfield 241, 3), (116, .ireturn, 1)]
def mc_Mod_yards : List (Nat × Instr × Nat) := [(0, .aload_n 0, 1), (1, .iload_n 1, 1), (2, .iload_n 2, 1), (3, .invokevirtual 368, 3), (6, .ifCond .ne 8, 3), (9, .bipush (-2), 2), (11, .goto 22, 3), (14, .aload_n 0, 1), (15, .iload_n 1, 1), (16, .iload_n 2, 1), (17, .invokevirtual 371, 3), (20, .ifCond .eq 7, 3), (23, .iconst (-1), 1), (24, .goto 9, 3), (27, .aload_n 0, 1), (28, .iload_n 1, 1), (29, .iload_n 2, 1), (30, .invokevirtual 374, 3), (33, .ireturn, 1)]
def mc_Taps_length : List (Nat × Instr × Nat) := [(0, .iload_n 0, 1), (1, .invokestatic 13, 3), (4, .iload_n 0, 1), (5, .invokestatic 17, 3), (8, .invokestatic 20, 3), (11, .isub, 1), (12, .ireturn, 1)]
def mc_Book_weigh : List (Nat × Instr × Nat) := [(0, .iconst 0, 1), (1, .istore_n 3, 1), (2, .aload_n 0, 1), (3, .getfield 40, 3), (6, .invokevirtual 95, 3), (9, .iconst 0, 1), (10, .istore 4, 2), (12, .iload 4, 2), (14, .aload_n 0, 1), (15, .getfield 51, 3), (18, .if_icmp .ge 99, 3), (21, .aload_n 0, 1), (22, .getfield 11, 3), (25, .iload 4, 2), (27, .iaload, 1), (28, .iload_n 2, 1), (29, .if_icmp .gt 82, 3), (32, .aload_n 0, 1), (33, .getfield 15, 3), (36, .iload 4, 2), (38, .iaload, 1), (39, .istore 5, 2), (41, .iload_n 3, 1), (42, .iload 5, 2), (44, .ishr, 1), (45, .iconst 1, 1), (46, .iand, 1), (47, .ifCond .ne 31, 3), (50, .iload_n 3, 1), (51, .iconst 1, 1), (52, .iload 5, 2), (54, .ishl, 1), (55, .ior, 1), (56, .istore_n 3, 1), (57, .aload_n 1, 1), (58, .iload 5, 2), (60, .iconst 1, 1), (61, .aload_n 1, 1), (62, .getfield 98, 3), (65, .ishl, 1), (66, .iconst 1, 1), (67, .isub, 1), (68, .aload_n 0, 1), (69, .getfield 34, 3), (72, .iload 5, 2), (74, .aaload, 1), (75, .invokevirtual 101, 3), (78, .aload_n 0, 1), (79, .getfield 34, 3), (82, .iload 5, 2), (84, .aaload, 1), (85, .aload_n 0, 1), (86, .iload 4, 2), (88, .iload_n 2, 1), (89, .invokevirtual 105, 3), (92, .iaload, 1), (93, .istore 6, 2), (95, .iload 6, 2), (97, .ifCond .ne 5, 3), (100, .iconst 0, 1), (101, .ireturn, 1), (102, .aload_n 0, 1), (103, .getfield 40, 3), (106, .iload 6, 2), (108, .invokevirtual 109, 3), (111, .iinc 4 1, 3), (114, .goto (-102), 3), (117, .iconst 1, 1), (118, .ireturn, 1)]
def mc_Ear_learn : List (Nat × Instr × Nat) := [(0, .aload_n 0, 1), (1, .aload_n 1, 1), (2, .aload_n 2, 1), (3, .invokevirtual 37, 3), (6, .aload_n 0, 1), (7, .aload_n 1, 1), (8, .aload_n 2, 1), (9, .aload_n 2, 1), (10, .getfield 41, 3), (13, .invokevirtual 47, 3), (16, .ireturn, 1)]
def mc_Ear_leastOf : List (Nat × Instr × Nat) := [(0, .ldc 130, 2), (2, .istore_n 3, 1), (3, .iconst 0, 1), (4, .istore 4, 2), (6, .iload 4, 2), (8, .aload_n 0, 1), (9, .getfield 54, 3), (12, .if_icmp .ge 47, 3), (15, .iload_n 3, 1), (16, .iload_n 2, 1), (17, .if_icmp .le 42, 3), (20, .iload_n 1, 1), (21, .iload 4, 2), (23, .ishr, 1), (24, .iconst 1, 1), (25, .iand, 1), (26, .iconst 1, 1), (27, .if_icmp .ne 26, 3), (30, .aload_n 0, 1), (31, .iload 4, 2), (33, .iload_n 1, 1), (34, .aload_n 0, 1), (35, .getfield 19, 3), (38, .invokevirtual 131, 3), (41, .iload_n 3, 1), (42, .aload_n 0, 1), (43, .getfield 19, 3), (46, .iload 4, 2), (48, .iaload, 1), (49, .invokestatic 121, 3), (52, .istore_n 3, 1), (53, .iinc 4 1, 3), (56, .goto (-50), 3), (59, .iload_n 3, 1), (60, .ireturn, 1)]
def mc_Tape_isWord : List (Nat × Instr × Nat) := [(0, .aload_n 0, 1), (1, .getfield 36, 3), (4, .iconst 2, 1), (5, .if_icmp .ne 19, 3), (8, .aload_n 0, 1), (9, .getfield 19, 3), (12, .aload_n 0, 1), (13, .getfield 26, 3), (16, .isub, 1), (17, .aload_n 1, 1), (18, .invokevirtual 53, 3), (21, .if_icmp .eq 5, 3), (24, .iconst 0, 1), (25, .ireturn, 1), (26, .iconst 0, 1), (27, .istore_n 2, 1), (28, .iload_n 2, 1), (29, .aload_n 1, 1), (30, .invokevirtual 53, 3), (33, .if_icmp .ge 30, 3), (36, .aload_n 0, 1), (37, .getfield 11, 3), (40, .aload_n 0, 1), (41, .getfield 26, 3), (44, .iload_n 2, 1), (45, .iadd, 1), (46, .baload, 1), (47, .aload_n 1, 1), (48, .iload_n 2, 1), (49, .invokevirtual 59, 3), (52, .if_icmp .eq 5, 3), (55, .iconst 0, 1), (56, .ireturn, 1), (57, .iinc 2 1, 3), (60, .goto (-32), 3), (63, .iconst 1, 1), (64, .ireturn, 1)]
def mc_Tin_least : List (Nat × Instr × Nat) := [(0, .iload_n 1, 1), (1, .iconst 1, 1), (2, .iconst 4, 1), (3, .invokestatic 85, 3), (6, .ifCond .eq 12, 3), (9, .iload_n 2, 1), (10, .iconst 0, 1), (11, .iconst 1, 1), (12, .invokestatic 85, 3), (15, .ifCond .ne 6, 3), (18, .bipush (-2), 2), (20, .ireturn, 1), (21, .aload_n 0, 1), (22, .getfield 43, 3), (25, .aload_n 0, 1), (26, .getfield 19, 3), (29, .iload_n 1, 1), (30, .invokevirtual 281, 3), (33, .iload_n 2, 1), (34, .ifCond .ne 13, 3), (37, .aload_n 0, 1), (38, .getfield 43, 3), (41, .getfield 285, 3), (44, .goto 10, 3), (47, .aload_n 0, 1), (48, .getfield 43, 3), (51, .getfield 288, 3), (54, .ireturn, 1)]
def mc_Tin_level : List (Nat × Instr × Nat) := [(0, .aload_n 0, 1), (1, .iconst 2, 1), (2, .iload_n 1, 1), (3, .invokevirtual 114, 3), (6, .ifCond .eq 10, 3), (9, .iload_n 2, 1), (10, .invokestatic 118, 3), (13, .ifCond .ne 6, 3), (16, .bipush (-2), 2), (18, .ireturn, 1), (19, .aload_n 0, 1), (20, .invokevirtual 160, 3), (23, .ifCond .eq 6, 3), (26, .bipush (-4), 2), (28, .ireturn, 1), (29, .aload_n 0, 1), (30, .getfield 29, 3), (33, .aload_n 0, 1), (34, .getfield 19, 3), (37, .aload_n 0, 1), (38, .getfield 19, 3), (41, .iconst 2, 1), (42, .iload_n 1, 1), (43, .iload_n 2, 1), (44, .invokevirtual 122, 3), (47, .iload_n 2, 1), (48, .invokevirtual 164, 3), (51, .invokestatic 172, 3), (54, .ireturn, 1)]
def mc_Tin_listened : List (Nat × Instr × Nat) := [(0, .aload_n 0, 1), (1, .getfield 10, 3), (4, .aload_n 0, 1), (5, .getfield 67, 3), (8, .iconst 4, 1), (9, .invokevirtual 291, 3), (12, .istore 4, 2), (14, .iload_n 1, 1), (15, .iconst 0, 1), (16, .ldc_w 338, 3), (19, .invokestatic 85, 3), (22, .ifCond .eq 25, 3), (25, .iload_n 2, 1), (26, .iconst 0, 1), (27, .ldc_w 338, 3), (30, .invokestatic 85, 3), (33, .ifCond .eq 14, 3), (36, .iload_n 3, 1), (37, .iconst 0, 1), (38, .ldc_w 338, 3), (41, .invokestatic 85, 3), (44, .ifCond .ne 6, 3), (47, .bipush (-2), 2), (49, .ireturn, 1), (50, .iload 4, 2), (52, .iconst 4, 1), (53, .if_icmp .eq 5, 3), (56, .iconst (-1), 1), (57, .ireturn, 1), (58, .iconst 0, 1), (59, .istore 5, 2), (61, .iconst 0, 1), (62, .istore 6, 2), (64, .iload 6, 2), (66, .iconst 4, 1), (67, .if_icmp .ge 56, 3), (70, .aload_n 0, 1), (71, .getfield 67, 3), (74, .iload 6, 2), (76, .iaload, 1), (77, .bipush 100, 2), (79, .if_icmp .le 5, 3), (82, .iconst (-1), 1), (83, .ireturn, 1), (84, .iload_n 1, 1), (85, .bipush 100, 2), (87, .aload_n 0, 1), (88, .getfield 67, 3), (91, .iload 6, 2), (93, .iaload, 1), (94, .isub, 1), (95, .imul, 1), (96, .bipush 100, 2), (98, .idiv, 1), (99, .iload_n 2, 1), (100, .isub, 1), (101, .invokestatic 339, 3), (104, .iload_n 3, 1), (105, .if_icmp .gt 12, 3), (108, .iload 5, 2), (110, .iconst 1, 1), (111, .iload 6, 2), (113, .ishl, 1), (114, .ior, 1), (115, .istore 5, 2), (117, .iinc 6 1, 3), (120, .goto (-56), 3), (123, .iload 5, 2), (125, .ireturn, 1)]
def mc_Tin_longest : List (Nat × Instr × Nat) := [(0, .aload_n 0, 1), (1, .iconst 2, 1), (2, .iload_n 1, 1), (3, .invokevirtual 114, 3), (6, .ifCond .eq 23, 3), (9, .iload_n 2, 1), (10, .iconst 0, 1), (11, .ldc 194, 2), (13, .invokestatic 85, 3), (16, .ifCond .eq 13, 3), (19, .iload_n 3, 1), (20, .iconst 1, 1), (21, .ldc 194, 2), (23, .invokestatic 85, 3), (26, .ifCond .ne 6, 3), (29, .bipush (-2), 2), (31, .ireturn, 1), (32, .aload_n 0, 1), (33, .invokevirtual 160, 3), (36, .ifCond .eq 6, 3), (39, .bipush (-4), 2), (41, .ireturn, 1), (42, .iconst (-1), 1), (43, .istore 4, 2), (45, .iconst 0, 1), (46, .istore 5, 2), (48, .aload_n 0, 1), (49, .getfield 36, 3), (52, .aload_n 0, 1), (53, .getfield 19, 3), (56, .aload_n 0, 1), (57, .getfield 29, 3), (60, .invokevirtual 195, 3), (63, .iconst 1, 1), (64, .istore 6, 2), (66, .iload 6, 2), (68, .sipush 400, 3), (71, .if_icmp .gt 97, 3), (74, .aload_n 0, 1), (75, .getfield 36, 3), (78, .aload_n 0, 1), (79, .getfield 19, 3), (82, .aload_n 0, 1), (83, .getfield 29, 3), (86, .iconst 1, 1), (87, .invokevirtual 198, 3), (90, .ifCond .ne 9, 3), (93, .iload 6, 2), (95, .iconst 1, 1), (96, .if_icmp .ne 57, 3), (99, .aload_n 0, 1), (100, .getfield 36, 3), (103, .iload_n 1, 1), (104, .aload_n 0, 1), (105, .invokevirtual 176, 3), (108, .aload_n 0, 1), (109, .getfield 36, 3), (112, .getfield 187, 3), (115, .invokevirtual 190, 3), (118, .aload_n 0, 1), (119, .getfield 36, 3), (122, .getfield 187, 3), (125, .iload_n 1, 1), (126, .iaload, 1), (127, .i2l, 1), (128, .iload_n 3, 1), (129, .i2l, 1), (130, .lmul, 1), (131, .iload_n 2, 1), (132, .i2l, 1), (133, .aload_n 0, 1), (134, .getfield 36, 3), (137, .invokevirtual 202, 3), (140, .i2l, 1), (141, .lmul, 1), (142, .lcmp, 1), (143, .ifCond .lt 7, 3), (146, .iconst 1, 1), (147, .goto 4, 3), (150, .iconst 0, 1), (151, .istore 5, 2), (153, .iload 5, 2), (155, .ifCond .eq 7, 3), (158, .iload 6, 2), (160, .istore 4, 2), (162, .iinc 6 1, 3), (165, .goto (-99), 3), (168, .iload 4, 2), (170, .ireturn, 1)]
def mc_Tin_share : List (Nat × Instr × Nat) := [(0, .iload_n 1, 1), (1, .iconst 0, 1), (2, .aload_n 0, 1), (3, .getfield 29, 3), (6, .getfield 143, 3), (9, .iconst 1, 1), (10, .isub, 1), (11, .invokestatic 85, 3), (14, .ifCond .eq 20, 3), (17, .iload_n 2, 1), (18, .iconst 0, 1), (19, .bipush 9, 2), (21, .invokestatic 85, 3), (24, .ifCond .eq 10, 3), (27, .iload_n 3, 1), (28, .invokestatic 118, 3), (31, .ifCond .ne 6, 3), (34, .bipush (-2), 2), (36, .ireturn, 1), (37, .aload_n 0, 1), (38, .invokevirtual 160, 3), (41, .ifCond .eq 8, 3), (44, .bipush (-4), 2), (46, .goto 17, 3), (49, .aload_n 0, 1), (50, .getfield 29, 3), (53, .aload_n 0, 1), (54, .getfield 19, 3), (57, .iload_n 1, 1), (58, .iload_n 2, 1), (59, .iload_n 3, 1), (60, .invokevirtual 168, 3), (63, .ireturn, 1)]
def mc_Tin_tapRow : List (Nat × Instr × Nat) := [(0, .iload_n 1, 1), (1, .iconst 0, 1), (2, .bipush 99, 2), (4, .invokestatic 85, 3), (7, .ifCond .ne 6, 3), (10, .bipush (-2), 2), (12, .ireturn, 1), (13, .iload_n 2, 1), (14, .tableswitch 41 0 2 #[26, 31, 36], 26), (40, .iload_n 1, 1), (41, .invokestatic 298, 3), (44, .ireturn, 1), (45, .iload_n 1, 1), (46, .invokestatic 301, 3), (49, .ireturn, 1), (50, .iload_n 1, 1), (51, .invokestatic 304, 3), (54, .ireturn, 1), (55, .bipush (-2), 2), (57, .ireturn, 1)]
def mc_Tin_taps : List (Nat × Instr × Nat) := [(0, .aload_n 0, 1), (1, .getfield 10, 3), (4, .aload_n 0, 1), (5, .getfield 67, 3), (8, .bipush 16, 2), (10, .invokevirtual 291, 3), (13, .istore_n 1, 1), (14, .iload_n 1, 1), (15, .iconst 1, 1), (16, .if_icmp .ge 7, 3), (19, .iconst (-1), 1), (20, .goto 11, 3), (23, .aload_n 0, 1), (24, .getfield 67, 3), (27, .iload_n 1, 1), (28, .invokestatic 295, 3), (31, .ireturn, 1)]
def mc_Tin_through : List (Nat × Instr × Nat) := [(0, .iload_n 1, 1), (1, .iconst 0, 1), (2, .bipush 9, 2), (4, .invokestatic 85, 3), (7, .ifCond .eq 10, 3), (10, .iload_n 2, 1), (11, .invokestatic 118, 3), (14, .ifCond .ne 6, 3), (17, .bipush (-2), 2), (19, .ireturn, 1), (20, .aload_n 0, 1), (21, .invokevirtual 160, 3), (24, .ifCond .eq 8, 3), (27, .bipush (-4), 2), (29, .goto 16, 3), (32, .aload_n 0, 1), (33, .getfield 29, 3), (36, .aload_n 0, 1), (37, .getfield 19, 3), (40, .iload_n 1, 1), (41, .iload_n 2, 1), (42, .invokevirtual 164, 3), (45, .ireturn, 1)]
def mc_Mod_keyAt : List (Nat × Instr × Nat) := [(0, .iconst 0, 1), (1, .istore_n 3, 1), (2, .iconst 0, 1), (3, .istore 4, 2), (5, .iconst 0, 1), (6, .istore 5, 2), (8, .iload 5, 2), (10, .ldc 141, 2), (12, .invokevirtual 143, 3), (15, .if_icmp .ge 104, 3), (18, .ldc 141, 2), (20, .iload 5, 2), (22, .invokevirtual 149, 3), (25, .bipush 32, 2), (27, .if_icmp .eq 6, 3), (30, .goto 83, 3), (33, .iload 5, 2), (35, .iload 4, 2), (37, .isub, 1), (38, .iload_n 2, 1), (39, .if_icmp .ne 7, 3), (42, .iconst 1, 1), (43, .goto 4, 3), (46, .iconst 0, 1), (47, .istore 6, 2), (49, .iconst 0, 1), (50, .istore 7, 2), (52, .iload 7, 2), (54, .iload_n 2, 1), (55, .if_icmp .ge 42, 3), (58, .iload 6, 2), (60, .ifCond .eq 37, 3), (63, .ldc 141, 2), (65, .iload 4, 2), (67, .iload 7, 2), (69, .iadd, 1), (70, .invokevirtual 149, 3), (73, .aload_n 0, 1), (74, .iload_n 1, 1), (75, .iload 7, 2), (77, .iadd, 1), (78, .invokevirtual 153, 3), (81, .if_icmp .ne 7, 3), (84, .iconst 1, 1), (85, .goto 4, 3), (88, .iconst 0, 1), (89, .istore 6, 2), (91, .iinc 7 1, 3), (94, .goto (-42), 3), (97, .iload 6, 2), (99, .ifCond .eq 5, 3), (102, .iload_n 3, 1), (103, .ireturn, 1), (104, .iinc 3 1, 3), (107, .iload 5, 2), (109, .iconst 1, 1), (110, .iadd, 1), (111, .istore 4, 2), (113, .iinc 5 1, 3), (116, .goto (-108), 3), (119, .iconst (-1), 1), (120, .ireturn, 1)]
def mc_Mod_makeLevels : List (Nat × Instr × Nat) := [(0, .iconst 0, 1), (1, .istore 4, 2), (3, .iload 4, 2), (5, .aload_n 0, 1), (6, .getfield 17, 3), (9, .iconst 2, 1), (10, .iaload, 1), (11, .if_icmp .ge 77, 3), (14, .iconst 0, 1), (15, .istore 5, 2), (17, .iload 5, 2), (19, .iconst 4, 1), (20, .if_icmp .ge 62, 3), (23, .aload_n 0, 1), (24, .iload_n 1, 1), (25, .iload_n 2, 1), (26, .iload_n 3, 1), (27, .aload_n 0, 1), (28, .getfield 31, 3), (31, .iconst 4, 1), (32, .iload 4, 2), (34, .imul, 1), (35, .iload 5, 2), (37, .iadd, 1), (38, .iaload, 1), (39, .iload 5, 2), (41, .invokevirtual 300, 3), (44, .sipush 500, 3), (47, .idiv, 1), (48, .istore 6, 2), (50, .aload_n 0, 1), (51, .getfield 55, 3), (54, .iconst 4, 1), (55, .iload 4, 2), (57, .imul, 1), (58, .iload 5, 2), (60, .iadd, 1), (61, .iload 6, 2), (63, .bipush 9, 2), (65, .if_icmp .le 8, 3), (68, .bipush 9, 2), (70, .goto 5, 3), (73, .iload 6, 2), (75, .iastore, 1), (76, .iinc 5 1, 3), (79, .goto (-62), 3), (82, .iinc 4 1, 3), (85, .goto (-82), 3), (88, .return_, 1)]
def mc_Mod_through : List (Nat × Instr × Nat) := [(0, .iload_n 1, 1), (1, .iconst 0, 1), (2, .bipush 9, 2), (4, .invokestatic 197, 3), (7, .ifCond .eq 10, 3), (10, .iload_n 2, 1), (11, .invokestatic 275, 3), (14, .ifCond .ne 6, 3), (17, .bipush (-2), 2), (19, .ireturn, 1), (20, .aload_n 0, 1), (21, .invokevirtual 297, 3), (24, .ifCond .eq 24, 3), (27, .aload_n 0, 1), (28, .aload_n 0, 1), (29, .getfield 214, 3), (32, .aload_n 0, 1), (33, .getfield 217, 3), (36, .aload_n 0, 1), (37, .getfield 220, 3), (40, .iload_n 1, 1), (41, .iload_n 2, 1), (42, .invokevirtual 300, 3), (45, .goto 5, 3), (48, .bipush (-4), 2), (50, .ireturn, 1)]
def mc_Mod_worst : List (Nat × Instr × Nat) := [(0, .iconst (-1), 1), (1, .istore_n 2, 1), (2, .iconst 0, 1), (3, .istore_n 3, 1), (4, .iload_n 3, 1), (5, .aload_n 0, 1), (6, .getfield 17, 3), (9, .iconst 2, 1), (10, .iaload, 1), (11, .if_icmp .ge 46, 3), (14, .iload_n 1, 1), (15, .iload_n 3, 1), (16, .ishr, 1), (17, .iconst 1, 1), (18, .iand, 1), (19, .ifCond .ne 6, 3), (22, .goto 29, 3), (25, .aload_n 0, 1), (26, .iload_n 1, 1), (27, .iload_n 3, 1), (28, .invokevirtual 325, 3), (31, .istore 4, 2), (33, .iload_n 2, 1), (34, .iconst (-1), 1), (35, .if_icmp .eq 9, 3), (38, .iload 4, 2), (40, .iload_n 2, 1), (41, .if_icmp .ge 8, 3), (44, .iload 4, 2), (46, .goto 4, 3), (49, .iload_n 2, 1), (50, .istore_n 2, 1), (51, .iinc 3 1, 3), (54, .goto (-50), 3), (57, .iload_n 2, 1), (58, .ireturn, 1)]
def mc_Book_tryLaws : List (Nat × Instr × Nat) := [(0, .aload_n 2, 1), (1, .getfield 57, 3), (4, .istore 5, 2), (6, .aload_n 2, 1), (7, .getfield 62, 3), (10, .istore 6, 2), (12, .iconst 0, 1), (13, .istore 7, 2), (15, .aload_n 0, 1), (16, .iconst 0, 1), (17, .putfield 65, 3), (20, .aload_n 0, 1), (21, .iconst (-1), 1), (22, .putfield 68, 3), (25, .aload_n 0, 1), (26, .iconst (-1), 1), (27, .putfield 71, 3), (30, .iconst 0, 1), (31, .istore 8, 2), (33, .iload 8, 2), (35, .bipush 20, 2), (37, .aload_n 1, 1), (38, .getfield 74, 3), (41, .iconst 0, 1), (42, .iaload, 1), (43, .imul, 1), (44, .if_icmp .ge 135, 3), (47, .aload_n 2, 1), (48, .iload 8, 2), (50, .bipush 20, 2), (52, .idiv, 1), (53, .putfield 57, 3), (56, .aload_n 2, 1), (57, .bipush 10, 2), (59, .iload 8, 2), (61, .bipush 20, 2), (63, .irem, 1), (64, .iconst 1, 1), (65, .iadd, 1), (66, .imul, 1), (67, .putfield 62, 3), (70, .aload_n 3, 1), (71, .aload_n 1, 1), (72, .aload_n 2, 1), (73, .invokevirtual 77, 3), (76, .ifCond .ne 8, 3), (79, .iload 8, 2), (81, .ifCond .ne 56, 3), (84, .aload_n 0, 1), (85, .aload_n 3, 1), (86, .iload 4, 2), (88, .invokevirtual 83, 3), (91, .istore 7, 2), (93, .iload 7, 2), (95, .ifCond .eq 42, 3), (98, .aload_n 0, 1), (99, .getfield 71, 3), (102, .iconst (-1), 1), (103, .if_icmp .eq 17, 3), (106, .aload_n 0, 1), (107, .getfield 40, 3), (110, .aload_n 0, 1), (111, .getfield 44, 3), (114, .invokevirtual 87, 3), (117, .ifCond .eq 20, 3), (120, .aload_n 0, 1), (121, .iload 8, 2), (123, .putfield 71, 3), (126, .aload_n 0, 1), (127, .getfield 44, 3), (130, .aload_n 0, 1), (131, .getfield 40, 3), (134, .invokevirtual 91, 3), (137, .iload 7, 2), (139, .ifCond .eq 34, 3), (142, .aload_n 0, 1), (143, .dup, 1), (144, .getfield 65, 3), (147, .iconst 1, 1), (148, .iadd, 1), (149, .putfield 65, 3), (152, .aload_n 0, 1), (153, .aload_n 0, 1), (154, .getfield 68, 3), (157, .iconst (-1), 1), (158, .if_icmp .ne 8, 3), (161, .iload 8, 2), (163, .goto 7, 3), (166, .aload_n 0, 1), (167, .getfield 68, 3), (170, .putfield 68, 3), (173, .iinc 8 1, 3), (176, .goto (-143), 3), (179, .aload_n 2, 1), (180, .iload 5, 2), (182, .putfield 57, 3), (185, .aload_n 2, 1), (186, .iload 6, 2), (188, .putfield 62, 3), (191, .return_, 1)]
def mc_Str_kindOf : List (Nat × Instr × Nat) := [(0, .aload_n 0, 1), (1, .ldc 85, 2), (3, .invokevirtual 87, 3), (6, .ifCond .eq 5, 3), (9, .iconst 0, 1), (10, .ireturn, 1), (11, .aload_n 0, 1), (12, .ldc 91, 2), (14, .invokevirtual 87, 3), (17, .ifCond .eq 5, 3), (20, .iconst 1, 1), (21, .ireturn, 1), (22, .aload_n 0, 1), (23, .ldc 93, 2), (25, .invokevirtual 87, 3), (28, .ifCond .eq 5, 3), (31, .iconst 2, 1), (32, .ireturn, 1), (33, .aload_n 0, 1), (34, .ldc 94, 2), (36, .invokevirtual 87, 3), (39, .ifCond .eq 5, 3), (42, .iconst 3, 1), (43, .ireturn, 1), (44, .aload_n 0, 1), (45, .ldc 96, 2), (47, .invokevirtual 87, 3), (50, .ifCond .eq 5, 3), (53, .iconst 4, 1), (54, .ireturn, 1), (55, .aload_n 0, 1), (56, .ldc 98, 2), (58, .invokevirtual 87, 3), (61, .ifCond .eq 5, 3), (64, .iconst 5, 1), (65, .ireturn, 1), (66, .aload_n 0, 1), (67, .ldc 100, 2), (69, .invokevirtual 87, 3), (72, .ifCond .eq 6, 3), (75, .bipush 6, 2), (77, .ireturn, 1), (78, .aload_n 0, 1), (79, .ldc 102, 2), (81, .invokevirtual 87, 3), (84, .ifCond .eq 6, 3), (87, .bipush 7, 2), (89, .ireturn, 1), (90, .aload_n 0, 1), (91, .ldc 104, 2), (93, .invokevirtual 87, 3), (96, .ifCond .eq 8, 3), (99, .bipush 8, 2), (101, .goto 4, 3), (104, .iconst (-1), 1), (105, .ireturn, 1)]
def mc_Tin_bestLoop : List (Nat × Instr × Nat) := [(0, .iload_n 1, 1), (1, .iconst 0, 1), (2, .aload_n 0, 1), (3, .getfield 29, 3), (6, .getfield 137, 3), (9, .iconst 1, 1), (10, .isub, 1), (11, .invokestatic 85, 3), (14, .ifCond .ne 6, 3), (17, .bipush (-2), 2), (19, .ireturn, 1), (20, .aload_n 0, 1), (21, .invokevirtual 160, 3), (24, .ifCond .eq 6, 3), (27, .bipush (-4), 2), (29, .ireturn, 1), (30, .aload_n 0, 1), (31, .getfield 19, 3), (34, .getfield 82, 3), (37, .iconst 2, 1), (38, .iaload, 1), (39, .ifCond .ne 5, 3), (42, .iconst (-1), 1), (43, .ireturn, 1), (44, .aload_n 0, 1), (45, .getfield 29, 3), (48, .getfield 140, 3), (51, .iload_n 1, 1), (52, .iaload, 1), (53, .istore_n 2, 1), (54, .iconst (-1), 1), (55, .istore_n 3, 1), (56, .iconst (-1), 1), (57, .istore 4, 2), (59, .iconst 0, 1), (60, .istore 5, 2), (62, .iload 5, 2), (64, .aload_n 0, 1), (65, .getfield 19, 3), (68, .getfield 82, 3), (71, .iconst 5, 1), (72, .iaload, 1), (73, .if_icmp .ge 63, 3), (76, .aload_n 0, 1), (77, .getfield 29, 3), (80, .getfield 140, 3), (83, .iload_n 1, 1), (84, .iload 5, 2), (86, .iastore, 1), (87, .aload_n 0, 1), (88, .getfield 36, 3), (91, .aload_n 0, 1), (92, .getfield 19, 3), (95, .aload_n 0, 1), (96, .getfield 29, 3), (99, .invokevirtual 183, 3), (102, .pop, 1), (103, .aload_n 0, 1), (104, .getfield 36, 3), (107, .aload_n 0, 1), (108, .invokevirtual 176, 3), (111, .iload_n 3, 1), (112, .invokevirtual 211, 3), (115, .istore 6, 2), (117, .iload 6, 2), (119, .iload_n 3, 1), (120, .if_icmp .le 10, 3), (123, .iload 6, 2), (125, .istore_n 3, 1), (126, .iload 5, 2), (128, .istore 4, 2), (130, .iinc 5 1, 3), (133, .goto (-71), 3), (136, .aload_n 0, 1), (137, .getfield 29, 3), (140, .getfield 140, 3), (143, .iload_n 1, 1), (144, .iload_n 2, 1), (145, .iastore, 1), (146, .iload 4, 2), (148, .ireturn, 1)]
def mc_Tin_bestStuff : List (Nat × Instr × Nat) := [(0, .aload_n 0, 1), (1, .getfield 29, 3), (4, .getfield 125, 3), (7, .istore_n 1, 1), (8, .iconst (-1), 1), (9, .istore_n 2, 1), (10, .iconst (-1), 1), (11, .istore_n 3, 1), (12, .iconst 0, 1), (13, .istore 4, 2), (15, .iload 4, 2), (17, .aload_n 0, 1), (18, .getfield 19, 3), (21, .getfield 82, 3), (24, .iconst 0, 1), (25, .iaload, 1), (26, .if_icmp .ge 60, 3), (29, .aload_n 0, 1), (30, .getfield 29, 3), (33, .iload 4, 2), (35, .putfield 125, 3), (38, .aload_n 0, 1), (39, .getfield 36, 3), (42, .aload_n 0, 1), (43, .getfield 19, 3), (46, .aload_n 0, 1), (47, .getfield 29, 3), (50, .invokevirtual 183, 3), (53, .pop, 1), (54, .aload_n 0, 1), (55, .getfield 36, 3), (58, .aload_n 0, 1), (59, .invokevirtual 176, 3), (62, .iload_n 2, 1), (63, .invokevirtual 211, 3), (66, .istore 5, 2), (68, .iload 5, 2), (70, .iload_n 2, 1), (71, .if_icmp .le 9, 3), (74, .iload 5, 2), (76, .istore_n 2, 1), (77, .iload 4, 2), (79, .istore_n 3, 1), (80, .iinc 4 1, 3), (83, .goto (-68), 3), (86, .aload_n 0, 1), (87, .getfield 29, 3), (90, .iload_n 1, 1), (91, .putfield 125, 3), (94, .iload_n 3, 1), (95, .ireturn, 1)]
def mc_Tin_bestTin : List (Nat × Instr × Nat) := [(0, .aload_n 0, 1), (1, .getfield 29, 3), (4, .getfield 128, 3), (7, .istore_n 1, 1), (8, .iconst (-1), 1), (9, .istore_n 2, 1), (10, .iconst (-1), 1), (11, .istore_n 3, 1), (12, .iconst 0, 1), (13, .istore 4, 2), (15, .iload 4, 2), (17, .aload_n 0, 1), (18, .getfield 19, 3), (21, .getfield 82, 3), (24, .iconst 1, 1), (25, .iaload, 1), (26, .if_icmp .ge 60, 3), (29, .aload_n 0, 1), (30, .getfield 29, 3), (33, .iload 4, 2), (35, .putfield 128, 3), (38, .aload_n 0, 1), (39, .getfield 36, 3), (42, .aload_n 0, 1), (43, .getfield 19, 3), (46, .aload_n 0, 1), (47, .getfield 29, 3), (50, .invokevirtual 183, 3), (53, .pop, 1), (54, .aload_n 0, 1), (55, .getfield 36, 3), (58, .aload_n 0, 1), (59, .invokevirtual 176, 3), (62, .iload_n 2, 1), (63, .invokevirtual 211, 3), (66, .istore 5, 2), (68, .iload 5, 2), (70, .iload_n 2, 1), (71, .if_icmp .le 9, 3), (74, .iload 5, 2), (76, .istore_n 2, 1), (77, .iload 4, 2), (79, .istore_n 3, 1), (80, .iinc 4 1, 3), (83, .goto (-68), 3), (86, .aload_n 0, 1), (87, .getfield 29, 3), (90, .iload_n 1, 1), (91, .putfield 128, 3), (94, .iload_n 3, 1), (95, .ireturn, 1)]
def mc_Tin_list : List (Nat × Instr × Nat) := [(0, .iload_n 1, 1), (1, .iconst 1, 1), (2, .aload_n 0, 1), (3, .getfield 19, 3), (6, .getfield 82, 3), (9, .iconst 2, 1), (10, .iaload, 1), (11, .invokestatic 85, 3), (14, .ifCond .ne 6, 3), (17, .bipush (-2), 2), (19, .ireturn, 1), (20, .aload_n 0, 1), (21, .invokevirtual 160, 3), (24, .ifCond .eq 6, 3), (27, .bipush (-4), 2), (29, .ireturn, 1), (30, .aload_n 0, 1), (31, .getfield 36, 3), (34, .aload_n 0, 1), (35, .getfield 19, 3), (38, .aload_n 0, 1), (39, .getfield 29, 3), (42, .invokevirtual 183, 3), (45, .pop, 1), (46, .iconst (-1), 1), (47, .istore_n 2, 1), (48, .iconst (-1), 1), (49, .istore_n 3, 1), (50, .iconst 1, 1), (51, .istore 4, 2), (53, .iload 4, 2), (55, .aload_n 0, 1), (56, .invokevirtual 176, 3), (59, .if_icmp .gt 45, 3), (62, .iload 4, 2), (64, .invokestatic 215, 3), (67, .iload_n 1, 1), (68, .if_icmp .eq 6, 3), (71, .goto 27, 3), (74, .aload_n 0, 1), (75, .getfield 36, 3), (78, .iload 4, 2), (80, .iload_n 2, 1), (81, .invokevirtual 211, 3), (84, .istore 5, 2), (86, .iload 5, 2), (88, .iload_n 2, 1), (89, .if_icmp .le 9, 3), (92, .iload 5, 2), (94, .istore_n 2, 1), (95, .iload 4, 2), (97, .istore_n 3, 1), (98, .iinc 4 1, 3), (101, .goto (-48), 3), (104, .iload_n 3, 1), (105, .ireturn, 1)]
def mc_Tin_said : List (Nat × Instr × Nat) := [(0, .aload_n 0, 1), (1, .iconst 2, 1), (2, .iload_n 1, 1), (3, .invokevirtual 114, 3), (6, .ifCond .eq 7, 3), (9, .iload_n 2, 1), (10, .ifCond .ge 6, 3), (13, .bipush (-2), 2), (15, .ireturn, 1), (16, .aload_n 0, 1), (17, .invokevirtual 160, 3), (20, .ifCond .eq 6, 3), (23, .bipush (-4), 2), (25, .ireturn, 1), (26, .aload_n 0, 1), (27, .getfield 36, 3), (30, .aload_n 0, 1), (31, .getfield 19, 3), (34, .aload_n 0, 1), (35, .getfield 29, 3), (38, .invokevirtual 183, 3), (41, .pop, 1), (42, .aload_n 0, 1), (43, .getfield 36, 3), (46, .iload_n 1, 1), (47, .iload_n 2, 1), (48, .invokevirtual 220, 3), (51, .ireturn, 1)]
def mc_Tin_takenFor : List (Nat × Instr × Nat) := [(0, .aload_n 0, 1), (1, .invokevirtual 160, 3), (4, .ifCond .eq 6, 3), (7, .bipush (-4), 2), (9, .ireturn, 1), (10, .aload_n 0, 1), (11, .getfield 36, 3), (14, .aload_n 0, 1), (15, .getfield 19, 3), (18, .aload_n 0, 1), (19, .getfield 29, 3), (22, .invokevirtual 183, 3), (25, .pop, 1), (26, .aload_n 0, 1), (27, .getfield 36, 3), (30, .iload_n 2, 1), (31, .iload_n 1, 1), (32, .aload_n 0, 1), (33, .getfield 36, 3), (36, .getfield 187, 3), (39, .invokevirtual 190, 3), (42, .aload_n 0, 1), (43, .getfield 36, 3), (46, .getfield 187, 3), (49, .iload_n 3, 1), (50, .iaload, 1), (51, .ireturn, 1)]
def mc_Mod_best : List (Nat × Instr × Nat) := [(0, .iload_n 1, 1), (1, .iconst 0, 1), (2, .iconst 1, 1), (3, .invokestatic 197, 3), (6, .ifCond .ne 6, 3), (9, .bipush (-2), 2), (11, .ireturn, 1), (12, .aload_n 0, 1), (13, .invokevirtual 297, 3), (16, .ifCond .ne 6, 3), (19, .bipush (-4), 2), (21, .ireturn, 1), (22, .aload_n 0, 1), (23, .getfield 17, 3), (26, .iconst 2, 1), (27, .iaload, 1), (28, .ifCond .ne 5, 3), (31, .iconst (-1), 1), (32, .ireturn, 1), (33, .iconst (-1), 1), (34, .istore_n 2, 1), (35, .iconst 0, 1), (36, .istore_n 3, 1), (37, .iconst 0, 1), (38, .istore 4, 2), (40, .iload 4, 2), (42, .aload_n 0, 1), (43, .getfield 17, 3), (46, .iload_n 1, 1), (47, .iaload, 1), (48, .if_icmp .ge 74, 3), (51, .aload_n 0, 1), (52, .iload_n 1, 1), (53, .ifCond .ne 8, 3), (56, .iload 4, 2), (58, .goto 7, 3), (61, .aload_n 0, 1), (62, .getfield 214, 3), (65, .iload_n 1, 1), (66, .iconst 1, 1), (67, .if_icmp .ne 8, 3), (70, .iload 4, 2), (72, .goto 7, 3), (75, .aload_n 0, 1), (76, .getfield 217, 3), (79, .aload_n 0, 1), (80, .getfield 220, 3), (83, .invokevirtual 304, 3), (86, .aload_n 0, 1), (87, .aload_n 0, 1), (88, .invokevirtual 321, 3), (91, .invokevirtual 331, 3), (94, .istore 5, 2), (96, .iload_n 2, 1), (97, .iconst (-1), 1), (98, .if_icmp .eq 12, 3), (101, .iload 5, 2), (103, .iload_n 3, 1), (104, .if_icmp .gt 6, 3), (107, .goto 9, 3), (110, .iload 4, 2), (112, .istore_n 2, 1), (113, .iload 5, 2), (115, .istore_n 3, 1), (116, .iinc 4 1, 3), (119, .goto (-79), 3), (122, .iload_n 2, 1), (123, .ireturn, 1)]
def mc_Mod_lets : List (Nat × Instr × Nat) := [(0, .aload_n 0, 1), (1, .iload_n 1, 1), (2, .bipush 20, 2), (4, .idiv, 1), (5, .aload_n 0, 1), (6, .getfield 217, 3), (9, .bipush 10, 2), (11, .iload_n 1, 1), (12, .bipush 20, 2), (14, .irem, 1), (15, .iconst 1, 1), (16, .iadd, 1), (17, .imul, 1), (18, .invokevirtual 304, 3), (21, .iconst 0, 1), (22, .istore_n 3, 1), (23, .iload_n 3, 1), (24, .bipush 30, 2), (26, .if_icmp .ge 24, 3), (29, .aload_n 0, 1), (30, .getfield 116, 3), (33, .iload_n 3, 1), (34, .iload_n 3, 1), (35, .ifCond .ne 7, 3), (38, .iconst 1, 1), (39, .goto 4, 3), (42, .iconst 0, 1), (43, .iastore, 1), (44, .iinc 3 1, 3), (47, .goto (-24), 3), (50, .iconst 0, 1), (51, .istore_n 3, 1), (52, .iload_n 3, 1), (53, .aload_n 0, 1), (54, .getfield 232, 3), (57, .if_icmp .ge 62, 3), (60, .aload_n 0, 1), (61, .getfield 98, 3), (64, .iload_n 3, 1), (65, .iaload, 1), (66, .iload_n 2, 1), (67, .if_icmp .le 6, 3), (70, .goto 43, 3), (73, .aload_n 0, 1), (74, .aload_n 0, 1), (75, .invokevirtual 321, 3), (78, .aload_n 0, 1), (79, .getfield 101, 3), (82, .iload_n 3, 1), (83, .iaload, 1), (84, .invokevirtual 317, 3), (87, .aload_n 0, 1), (88, .getfield 61, 3), (91, .aload_n 0, 1), (92, .iload_n 3, 1), (93, .iload_n 2, 1), (94, .invokevirtual 410, 3), (97, .iaload, 1), (98, .istore 4, 2), (100, .iload 4, 2), (102, .ifCond .ne 5, 3), (105, .iconst 0, 1), (106, .ireturn, 1), (107, .aload_n 0, 1), (108, .iload 4, 2), (110, .invokevirtual 413, 3), (113, .iinc 3 1, 3), (116, .goto (-64), 3), (119, .iconst 1, 1), (120, .ireturn, 1)]
def mc_Mod_longest : List (Nat × Instr × Nat) := [(0, .aload_n 0, 1), (1, .iconst 2, 1), (2, .iload_n 1, 1), (3, .invokevirtual 272, 3), (6, .ifCond .eq 25, 3), (9, .iload_n 2, 1), (10, .iconst 0, 1), (11, .ldc_w 324, 3), (14, .invokestatic 197, 3), (17, .ifCond .eq 14, 3), (20, .iload_n 3, 1), (21, .iconst 1, 1), (22, .ldc_w 324, 3), (25, .invokestatic 197, 3), (28, .ifCond .ne 6, 3), (31, .bipush (-2), 2), (33, .ireturn, 1), (34, .aload_n 0, 1), (35, .invokevirtual 297, 3), (38, .ifCond .ne 6, 3), (41, .bipush (-4), 2), (43, .ireturn, 1), (44, .sipush 400, 3), (47, .istore 4, 2), (49, .iload 4, 2), (51, .ifCond .le 51, 3), (54, .aload_n 0, 1), (55, .aload_n 0, 1), (56, .getfield 214, 3), (59, .aload_n 0, 1), (60, .getfield 217, 3), (63, .iload 4, 2), (65, .invokevirtual 304, 3), (68, .aload_n 0, 1), (69, .aload_n 0, 1), (70, .invokevirtual 321, 3), (73, .iload_n 1, 1), (74, .invokevirtual 325, 3), (77, .i2l, 1), (78, .iload_n 3, 1), (79, .i2l, 1), (80, .lmul, 1), (81, .iload_n 2, 1), (82, .i2l, 1), (83, .aload_n 0, 1), (84, .invokevirtual 328, 3), (87, .i2l, 1), (88, .lmul, 1), (89, .lcmp, 1), (90, .ifCond .lt 6, 3), (93, .iload 4, 2), (95, .ireturn, 1), (96, .iinc 4 (-1), 3), (99, .goto (-50), 3), (102, .iconst (-1), 1), (103, .ireturn, 1)]
def mc_Mod_makeOwn : List (Nat × Instr × Nat) := [(0, .aload_n 0, 1), (1, .aload_n 0, 1), (2, .getfield 214, 3), (5, .aload_n 0, 1), (6, .getfield 217, 3), (9, .aload_n 0, 1), (10, .getfield 220, 3), (13, .invokevirtual 304, 3), (16, .return_, 1)]
def mc_Mod_scan : List (Nat × Instr × Nat) := [(0, .aload_n 0, 1), (1, .getfield 157, 3), (4, .istore_n 1, 1), (5, .aload_n 0, 1), (6, .iload_n 1, 1), (7, .invokevirtual 153, 3), (10, .bipush 32, 2), (12, .if_icmp .eq 13, 3), (15, .aload_n 0, 1), (16, .iload_n 1, 1), (17, .invokevirtual 153, 3), (20, .bipush 10, 2), (22, .if_icmp .ne 9, 3), (25, .iinc 1 1, 3), (28, .goto (-23), 3), (31, .aload_n 0, 1), (32, .iload_n 1, 1), (33, .putfield 160, 3), (36, .aload_n 0, 1), (37, .iload_n 1, 1), (38, .invokevirtual 153, 3), (41, .istore_n 2, 1), (42, .iload_n 1, 1), (43, .iconst 1, 1), (44, .iadd, 1), (45, .istore_n 3, 1), (46, .aload_n 0, 1), (47, .iconst (-1), 1), (48, .putfield 163, 3), (51, .iload_n 2, 1), (52, .iconst (-1), 1), (53, .if_icmp .ne 13, 3), (56, .aload_n 0, 1), (57, .iconst 4, 1), (58, .putfield 166, 3), (61, .iload_n 1, 1), (62, .istore_n 3, 1), (63, .goto 207, 3), (66, .iload_n 2, 1), (67, .invokestatic 169, 3), (70, .ifCond .eq 100, 3), (73, .aload_n 0, 1), (74, .lconst 0, 1), (75, .putfield 173, 3), (78, .iload_n 1, 1), (79, .istore_n 3, 1), (80, .aload_n 0, 1), (81, .iload_n 3, 1), (82, .invokevirtual 153, 3), (85, .invokestatic 169, 3), (88, .ifCond .eq 42, 3), (91, .iload_n 3, 1), (92, .iload_n 1, 1), (93, .isub, 1), (94, .bipush 8, 2), (96, .if_icmp .ge 28, 3), (99, .aload_n 0, 1), (100, .ldc2_w 177, 3), (103, .aload_n 0, 1), (104, .getfield 173, 3), (107, .lmul, 1), (108, .aload_n 0, 1), (109, .iload_n 3, 1), (110, .invokevirtual 153, 3), (113, .i2l, 1), (114, .ladd, 1), (115, .ldc2_w 179, 3), (118, .lsub, 1), (119, .lconst 1, 1), (120, .ladd, 1), (121, .putfield 173, 3), (124, .iinc 3 1, 3), (127, .goto (-47), 3), (130, .aload_n 0, 1), (131, .iload_n 3, 1), (132, .iload_n 1, 1), (133, .isub, 1), (134, .bipush 8, 2), (136, .if_icmp .le 7, 3), (139, .iconst 0, 1), (140, .goto 4, 3), (143, .iconst 1, 1), (144, .putfield 166, 3), (147, .aload_n 0, 1), (148, .getfield 166, 3), (151, .iconst 1, 1), (152, .if_icmp .ne 118, 3), (155, .aload_n 0, 1), (156, .aload_n 0, 1), (157, .iload_n 1, 1), (158, .iload_n 3, 1), (159, .iload_n 1, 1), (160, .isub, 1), (161, .invokevirtual 181, 3), (164, .putfield 163, 3), (167, .goto 103, 3), (170, .iload_n 2, 1), (171, .invokestatic 185, 3), (174, .ifCond .eq 81, 3), (177, .aload_n 0, 1), (178, .iload_n 2, 1), (179, .bipush 48, 2), (181, .isub, 1), (182, .putfield 188, 3), (185, .aload_n 0, 1), (186, .iload_n 3, 1), (187, .invokevirtual 153, 3), (190, .invokestatic 185, 3), (193, .ifCond .eq 43, 3), (196, .aload_n 0, 1), (197, .iload_n 3, 1), (198, .iload_n 1, 1), (199, .isub, 1), (200, .iconst 4, 1), (201, .if_icmp .ge 22, 3), (204, .bipush 10, 2), (206, .aload_n 0, 1), (207, .getfield 188, 3), (210, .imul, 1), (211, .aload_n 0, 1), (212, .iload_n 3, 1), (213, .invokevirtual 153, 3), (216, .iadd, 1), (217, .bipush 48, 2), (219, .isub, 1), (220, .goto 7, 3), (223, .aload_n 0, 1), (224, .getfield 188, 3), (227, .putfield 188, 3), (230, .iinc 3 1, 3), (233, .goto (-48), 3), (236, .aload_n 0, 1), (237, .iload_n 3, 1), (238, .iload_n 1, 1), (239, .isub, 1), (240, .iconst 4, 1), (241, .if_icmp .le 7, 3), (244, .iconst 0, 1), (245, .goto 4, 3), (248, .iconst 2, 1), (249, .putfield 166, 3), (252, .goto 18, 3), (255, .aload_n 0, 1), (256, .iload_n 2, 1), (257, .bipush 59, 2), (259, .if_icmp .ne 7, 3), (262, .iconst 3, 1), (263, .goto 4, 3), (266, .iconst 0, 1), (267, .putfield 166, 3), (270, .aload_n 0, 1), (271, .iload_n 3, 1), (272, .putfield 157, 3), (275, .return_, 1)]
def mc_Str_readClause : List (Nat × Instr × Nat) := [(0, .aload_n 1, 1), (1, .invokestatic 47, 3), (4, .istore_n 2, 1), (5, .iload_n 2, 1), (6, .iconst (-1), 1), (7, .if_icmp .ne 5, 3), (10, .iconst 1, 1), (11, .ireturn, 1), (12, .aload_n 0, 1), (13, .getfield 11, 3), (16, .iload_n 2, 1), (17, .iaload, 1), (18, .getstatic 50, 3), (21, .iload_n 2, 1), (22, .iaload, 1), (23, .if_icmp .lt 15, 3), (26, .iload_n 2, 1), (27, .bipush 6, 2), (29, .if_icmp .lt 7, 3), (32, .iconst 3, 1), (33, .goto 4, 3), (36, .iconst 4, 1), (37, .ireturn, 1), (38, .iload_n 2, 1), (39, .invokestatic 53, 3), (42, .ifCond .eq 12, 3), (45, .aload_n 0, 1), (46, .aload_n 1, 1), (47, .iload_n 2, 1), (48, .invokevirtual 57, 3), (51, .goto 4, 3), (54, .iconst 0, 1), (55, .istore_n 3, 1), (56, .iconst 0, 1), (57, .istore 4, 2), (59, .iload 4, 2), (61, .getstatic 61, 3), (64, .iload_n 2, 1), (65, .iaload, 1), (66, .if_icmp .ge 22, 3), (69, .iload_n 3, 1), (70, .ifCond .ne 18, 3), (73, .aload_n 0, 1), (74, .aload_n 1, 1), (75, .iload_n 2, 1), (76, .iload 4, 2), (78, .invokevirtual 64, 3), (81, .istore_n 3, 1), (82, .iinc 4 1, 3), (85, .goto (-26), 3), (88, .iload_n 3, 1), (89, .ifCond .eq 5, 3), (92, .iload_n 3, 1), (93, .ireturn, 1), (94, .aload_n 1, 1), (95, .invokevirtual 34, 3), (98, .aload_n 1, 1), (99, .getfield 37, 3), (102, .iconst 4, 1), (103, .if_icmp .eq 5, 3), (106, .iconst 1, 1), (107, .ireturn, 1), (108, .aload_n 0, 1), (109, .getfield 11, 3), (112, .iload_n 2, 1), (113, .dup2, 1), (114, .iaload, 1), (115, .iconst 1, 1), (116, .iadd, 1), (117, .iastore, 1), (118, .iconst 0, 1), (119, .ireturn, 1)]
def mc_Tin_among : List (Nat × Instr × Nat) := [(0, .iload_n 1, 1), (1, .iconst 0, 1), (2, .aload_n 0, 1), (3, .invokevirtual 176, 3), (6, .invokestatic 85, 3), (9, .ifCond .eq 21, 3), (12, .aload_n 0, 1), (13, .iconst 2, 1), (14, .iload_n 2, 1), (15, .invokevirtual 114, 3), (18, .ifCond .eq 12, 3), (21, .aload_n 0, 1), (22, .iconst 2, 1), (23, .iload_n 3, 1), (24, .invokevirtual 114, 3), (27, .ifCond .ne 6, 3), (30, .bipush (-2), 2), (32, .ireturn, 1), (33, .iload_n 1, 1), (34, .iload_n 2, 1), (35, .ishr, 1), (36, .iconst 1, 1), (37, .iand, 1), (38, .ifCond .eq 11, 3), (41, .iload_n 1, 1), (42, .iload_n 3, 1), (43, .ishr, 1), (44, .iconst 1, 1), (45, .iand, 1), (46, .ifCond .ne 6, 3), (49, .bipush (-2), 2), (51, .ireturn, 1), (52, .aload_n 0, 1), (53, .iload_n 1, 1), (54, .iload_n 2, 1), (55, .iload_n 3, 1), (56, .invokevirtual 180, 3), (59, .ireturn, 1)]
def mc_Tin_best : List (Nat × Instr × Nat) := [(0, .iload_n 1, 1), (1, .iconst 0, 1), (2, .iconst 1, 1), (3, .invokestatic 85, 3), (6, .ifCond .ne 6, 3), (9, .bipush (-2), 2), (11, .ireturn, 1), (12, .aload_n 0, 1), (13, .invokevirtual 160, 3), (16, .ifCond .eq 6, 3), (19, .bipush (-4), 2), (21, .ireturn, 1), (22, .aload_n 0, 1), (23, .getfield 19, 3), (26, .getfield 82, 3), (29, .iconst 2, 1), (30, .iaload, 1), (31, .ifCond .ne 5, 3), (34, .iconst (-1), 1), (35, .ireturn, 1), (36, .iload_n 1, 1), (37, .ifCond .ne 10, 3), (40, .aload_n 0, 1), (41, .invokevirtual 205, 3), (44, .goto 7, 3), (47, .aload_n 0, 1), (48, .invokevirtual 208, 3), (51, .ireturn, 1)]
def mc_Tin_fit : List (Nat × Instr × Nat) := [(0, .iload_n 1, 1), (1, .iconst 0, 1), (2, .sipush 999, 3), (5, .invokestatic 85, 3), (8, .ifCond .eq 12, 3), (11, .iload_n 2, 1), (12, .iconst 0, 1), (13, .iconst 2, 1), (14, .invokestatic 85, 3), (17, .ifCond .ne 6, 3), (20, .bipush (-2), 2), (22, .ireturn, 1), (23, .aload_n 0, 1), (24, .invokevirtual 160, 3), (27, .ifCond .eq 6, 3), (30, .bipush (-4), 2), (32, .ireturn, 1), (33, .aload_n 0, 1), (34, .getfield 50, 3), (37, .aload_n 0, 1), (38, .getfield 19, 3), (41, .aload_n 0, 1), (42, .getfield 29, 3), (45, .aload_n 0, 1), (46, .getfield 36, 3), (49, .iload_n 1, 1), (50, .invokevirtual 325, 3), (53, .iload_n 2, 1), (54, .ifCond .ne 11, 3), (57, .aload_n 0, 1), (58, .getfield 50, 3), (61, .getfield 329, 3), (64, .ireturn, 1), (65, .iload_n 2, 1), (66, .iconst 1, 1), (67, .if_icmp .ne 13, 3), (70, .aload_n 0, 1), (71, .getfield 50, 3), (74, .getfield 332, 3), (77, .goto 10, 3), (80, .aload_n 0, 1), (81, .getfield 50, 3), (84, .getfield 335, 3), (87, .ireturn, 1)]
def mc_Tin_table : List (Nat × Instr × Nat) := [(0, .aload_n 0, 1), (1, .iconst 2, 1), (2, .iload_n 1, 1), (3, .invokevirtual 114, 3), (6, .ifCond .eq 12, 3), (9, .aload_n 0, 1), (10, .iconst 2, 1), (11, .iload_n 2, 1), (12, .invokevirtual 114, 3), (15, .ifCond .ne 6, 3), (18, .bipush (-2), 2), (20, .ireturn, 1), (21, .aload_n 0, 1), (22, .aload_n 0, 1), (23, .invokevirtual 176, 3), (26, .iload_n 1, 1), (27, .iload_n 2, 1), (28, .invokevirtual 180, 3), (31, .ireturn, 1)]
def mc_Mod_among : List (Nat × Instr × Nat) := [(0, .aload_n 0, 1), (1, .iconst 2, 1), (2, .iload_n 2, 1), (3, .invokevirtual 272, 3), (6, .ifCond .eq 40, 3), (9, .aload_n 0, 1), (10, .iconst 2, 1), (11, .iload_n 3, 1), (12, .invokevirtual 272, 3), (15, .ifCond .eq 31, 3), (18, .iload_n 1, 1), (19, .iconst 0, 1), (20, .aload_n 0, 1), (21, .invokevirtual 321, 3), (24, .invokestatic 197, 3), (27, .ifCond .eq 19, 3), (30, .iload_n 1, 1), (31, .iload_n 2, 1), (32, .ishr, 1), (33, .iconst 1, 1), (34, .iand, 1), (35, .ifCond .eq 11, 3), (38, .iload_n 1, 1), (39, .iload_n 3, 1), (40, .ishr, 1), (41, .iconst 1, 1), (42, .iand, 1), (43, .ifCond .ne 6, 3), (46, .bipush (-2), 2), (48, .ireturn, 1), (49, .aload_n 0, 1), (50, .invokevirtual 297, 3), (53, .ifCond .ne 6, 3), (56, .bipush (-4), 2), (58, .ireturn, 1), (59, .aload_n 0, 1), (60, .invokevirtual 308, 3), (63, .aload_n 0, 1), (64, .iload_n 1, 1), (65, .iload_n 2, 1), (66, .invokevirtual 317, 3), (69, .aload_n 0, 1), (70, .getfield 61, 3), (73, .iload_n 3, 1), (74, .iaload, 1), (75, .ireturn, 1)]
def mc_Mod_bestLoop : List (Nat × Instr × Nat) := [(0, .iload_n 1, 1), (1, .iconst 0, 1), (2, .aload_n 0, 1), (3, .getfield 226, 3), (6, .iconst 1, 1), (7, .isub, 1), (8, .invokestatic 197, 3), (11, .ifCond .ne 6, 3), (14, .bipush (-2), 2), (16, .ireturn, 1), (17, .aload_n 0, 1), (18, .invokevirtual 297, 3), (21, .ifCond .ne 6, 3), (24, .bipush (-4), 2), (26, .ireturn, 1), (27, .aload_n 0, 1), (28, .getfield 17, 3), (31, .iconst 2, 1), (32, .iaload, 1), (33, .ifCond .eq 12, 3), (36, .aload_n 0, 1), (37, .getfield 17, 3), (40, .iconst 5, 1), (41, .iaload, 1), (42, .ifCond .ne 5, 3), (45, .iconst (-1), 1), (46, .ireturn, 1), (47, .aload_n 0, 1), (48, .getfield 49, 3), (51, .iload_n 1, 1), (52, .iaload, 1), (53, .istore_n 2, 1), (54, .iconst (-1), 1), (55, .istore_n 3, 1), (56, .iconst 0, 1), (57, .istore 4, 2), (59, .iconst 0, 1), (60, .istore 5, 2), (62, .iload 5, 2), (64, .aload_n 0, 1), (65, .getfield 17, 3), (68, .iconst 5, 1), (69, .iaload, 1), (70, .if_icmp .ge 53, 3), (73, .aload_n 0, 1), (74, .getfield 49, 3), (77, .iload_n 1, 1), (78, .iload 5, 2), (80, .iastore, 1), (81, .aload_n 0, 1), (82, .invokevirtual 308, 3), (85, .aload_n 0, 1), (86, .aload_n 0, 1), (87, .invokevirtual 321, 3), (90, .invokevirtual 331, 3), (93, .istore 6, 2), (95, .iload_n 3, 1), (96, .iconst (-1), 1), (97, .if_icmp .eq 13, 3), (100, .iload 6, 2), (102, .iload 4, 2), (104, .if_icmp .gt 6, 3), (107, .goto 10, 3), (110, .iload 5, 2), (112, .istore_n 3, 1), (113, .iload 6, 2), (115, .istore 4, 2), (117, .iinc 5 1, 3), (120, .goto (-58), 3), (123, .aload_n 0, 1), (124, .getfield 49, 3), (127, .iload_n 1, 1), (128, .iload_n 2, 1), (129, .iastore, 1), (130, .iload_n 3, 1), (131, .ireturn, 1)]
def mc_Mod_fit : List (Nat × Instr × Nat) := [(0, .iload_n 1, 1), (1, .iconst 0, 1), (2, .sipush 999, 3), (5, .invokestatic 197, 3), (8, .ifCond .eq 12, 3), (11, .iload_n 2, 1), (12, .iconst 0, 1), (13, .iconst 2, 1), (14, .invokestatic 197, 3), (17, .ifCond .ne 6, 3), (20, .bipush (-2), 2), (22, .ireturn, 1), (23, .aload_n 0, 1), (24, .invokevirtual 297, 3), (27, .ifCond .ne 6, 3), (30, .bipush (-4), 2), (32, .ireturn, 1), (33, .iconst 0, 1), (34, .istore_n 3, 1), (35, .iconst (-1), 1), (36, .istore 4, 2), (38, .iconst (-1), 1), (39, .istore 5, 2), (41, .iconst 0, 1), (42, .istore 6, 2), (44, .iload 6, 2), (46, .bipush 20, 2), (48, .aload_n 0, 1), (49, .getfield 17, 3), (52, .iconst 0, 1), (53, .iaload, 1), (54, .imul, 1), (55, .if_icmp .ge 90, 3), (58, .aload_n 0, 1), (59, .iload 6, 2), (61, .iload_n 1, 1), (62, .invokevirtual 416, 3), (65, .ifCond .ne 6, 3), (68, .goto 71, 3), (71, .iinc 3 1, 3), (74, .iload 4, 2), (76, .iconst (-1), 1), (77, .if_icmp .ne 8, 3), (80, .iload 6, 2), (82, .goto 5, 3), (85, .iload 4, 2), (87, .istore 4, 2), (89, .iload 5, 2), (91, .iconst (-1), 1), (92, .if_icmp .eq 13, 3), (95, .aload_n 0, 1), (96, .invokevirtual 419, 3), (99, .ifCond .ne 6, 3), (102, .goto 37, 3), (105, .iload 6, 2), (107, .istore 5, 2), (109, .iconst 0, 1), (110, .istore 7, 2), (112, .iload 7, 2), (114, .bipush 30, 2), (116, .if_icmp .ge 23, 3), (119, .aload_n 0, 1), (120, .getfield 119, 3), (123, .iload 7, 2), (125, .aload_n 0, 1), (126, .getfield 116, 3), (129, .iload 7, 2), (131, .iaload, 1), (132, .iastore, 1), (133, .iinc 7 1, 3), (136, .goto (-24), 3), (139, .iinc 6 1, 3), (142, .goto (-98), 3), (145, .iload_n 2, 1), (146, .ifCond .ne 7, 3), (149, .iload_n 3, 1), (150, .goto 15, 3), (153, .iload_n 2, 1), (154, .iconst 1, 1), (155, .if_icmp .ne 8, 3), (158, .iload 4, 2), (160, .goto 5, 3), (163, .iload 5, 2), (165, .ireturn, 1)]
def mc_Mod_level : List (Nat × Instr × Nat) := [(0, .aload_n 0, 1), (1, .iconst 2, 1), (2, .iload_n 1, 1), (3, .invokevirtual 272, 3), (6, .ifCond .eq 10, 3), (9, .iload_n 2, 1), (10, .invokestatic 275, 3), (13, .ifCond .ne 6, 3), (16, .bipush (-2), 2), (18, .ireturn, 1), (19, .aload_n 0, 1), (20, .invokevirtual 297, 3), (23, .ifCond .ne 6, 3), (26, .bipush (-4), 2), (28, .ireturn, 1), (29, .aload_n 0, 1), (30, .invokevirtual 308, 3), (33, .aload_n 0, 1), (34, .getfield 55, 3), (37, .iconst 4, 1), (38, .iload_n 1, 1), (39, .imul, 1), (40, .iload_n 2, 1), (41, .iadd, 1), (42, .iaload, 1), (43, .ireturn, 1)]
def mc_Mod_list : List (Nat × Instr × Nat) := [(0, .iload_n 1, 1), (1, .iconst 1, 1), (2, .aload_n 0, 1), (3, .getfield 17, 3), (6, .iconst 2, 1), (7, .iaload, 1), (8, .invokestatic 197, 3), (11, .ifCond .ne 6, 3), (14, .bipush (-2), 2), (16, .ireturn, 1), (17, .aload_n 0, 1), (18, .invokevirtual 297, 3), (21, .ifCond .ne 6, 3), (24, .bipush (-4), 2), (26, .ireturn, 1), (27, .aload_n 0, 1), (28, .invokevirtual 308, 3), (31, .iconst (-1), 1), (32, .istore_n 2, 1), (33, .iconst 0, 1), (34, .istore_n 3, 1), (35, .iconst 1, 1), (36, .istore 4, 2), (38, .iload 4, 2), (40, .aload_n 0, 1), (41, .invokevirtual 321, 3), (44, .if_icmp .gt 49, 3), (47, .iload 4, 2), (49, .invokestatic 334, 3), (52, .iload_n 1, 1), (53, .if_icmp .eq 6, 3), (56, .goto 31, 3), (59, .aload_n 0, 1), (60, .iload 4, 2), (62, .invokevirtual 331, 3), (65, .istore 5, 2), (67, .iload_n 2, 1), (68, .iconst (-1), 1), (69, .if_icmp .eq 12, 3), (72, .iload 5, 2), (74, .iload_n 3, 1), (75, .if_icmp .gt 6, 3), (78, .goto 9, 3), (81, .iload 4, 2), (83, .istore_n 2, 1), (84, .iload 5, 2), (86, .istore_n 3, 1), (87, .iinc 4 1, 3), (90, .goto (-52), 3), (93, .iload_n 2, 1), (94, .ireturn, 1)]
def mc_Mod_readName : List (Nat × Instr × Nat) := [(0, .aload_n 0, 1), (1, .getfield 17, 3), (4, .bipush 9, 2), (6, .iload_n 1, 1), (7, .iadd, 1), (8, .iaload, 1), (9, .istore_n 3, 1), (10, .iload_n 3, 1), (11, .iload_n 2, 1), (12, .if_icmp .ne 9, 3), (15, .aload_n 0, 1), (16, .iconst 4, 1), (17, .invokevirtual 194, 3), (20, .ireturn, 1), (21, .aload_n 0, 1), (22, .invokevirtual 204, 3), (25, .aload_n 0, 1), (26, .getfield 166, 3), (29, .iconst 1, 1), (30, .if_icmp .eq 9, 3), (33, .aload_n 0, 1), (34, .iconst 1, 1), (35, .invokevirtual 194, 3), (38, .ireturn, 1), (39, .iconst 0, 1), (40, .istore 4, 2), (42, .iload 4, 2), (44, .iload_n 3, 1), (45, .if_icmp .ge 35, 3), (48, .aload_n 0, 1), (49, .getfield 21, 3), (52, .bipush 6, 2), (54, .iload_n 1, 1), (55, .imul, 1), (56, .iload 4, 2), (58, .iadd, 1), (59, .laload, 1), (60, .aload_n 0, 1), (61, .getfield 173, 3), (64, .lcmp, 1), (65, .ifCond .ne 9, 3), (68, .aload_n 0, 1), (69, .iconst 3, 1), (70, .invokevirtual 194, 3), (73, .ireturn, 1), (74, .iinc 4 1, 3), (77, .goto (-35), 3), (80, .aload_n 0, 1), (81, .getfield 21, 3), (84, .bipush 6, 2), (86, .iload_n 1, 1), (87, .imul, 1), (88, .iload_n 3, 1), (89, .iadd, 1), (90, .aload_n 0, 1), (91, .getfield 173, 3), (94, .lastore, 1), (95, .aload_n 0, 1), (96, .invokevirtual 204, 3), (99, .iconst 1, 1), (100, .ireturn, 1)]
def mc_Mod_readNumber : List (Nat × Instr × Nat) := [(0, .aload_n 0, 1), (1, .getfield 166, 3), (4, .iconst 2, 1), (5, .if_icmp .eq 9, 3), (8, .aload_n 0, 1), (9, .iconst 1, 1), (10, .invokevirtual 194, 3), (13, .ireturn, 1), (14, .aload_n 0, 1), (15, .getfield 188, 3), (18, .iload_n 1, 1), (19, .iload_n 2, 1), (20, .invokestatic 197, 3), (23, .ifCond .ne 9, 3), (26, .aload_n 0, 1), (27, .iconst 2, 1), (28, .invokevirtual 194, 3), (31, .ireturn, 1), (32, .aload_n 0, 1), (33, .aload_n 0, 1), (34, .getfield 188, 3), (37, .putfield 201, 3), (40, .aload_n 0, 1), (41, .invokevirtual 204, 3), (44, .iconst 1, 1), (45, .ireturn, 1)]
def mc_Mod_said : List (Nat × Instr × Nat) := [(0, .aload_n 0, 1), (1, .iconst 2, 1), (2, .iload_n 1, 1), (3, .invokevirtual 272, 3), (6, .ifCond .eq 7, 3), (9, .iload_n 2, 1), (10, .ifCond .ge 6, 3), (13, .bipush (-2), 2), (15, .ireturn, 1), (16, .aload_n 0, 1), (17, .invokevirtual 297, 3), (20, .ifCond .ne 6, 3), (23, .bipush (-4), 2), (25, .ireturn, 1), (26, .aload_n 0, 1), (27, .invokevirtual 308, 3), (30, .aload_n 0, 1), (31, .getfield 17, 3), (34, .bipush 8, 2), (36, .iaload, 1), (37, .istore_n 3, 1), (38, .iload_n 2, 1), (39, .i2l, 1), (40, .lstore 4, 2), (42, .iconst 0, 1), (43, .istore 6, 2), (45, .iload 6, 2), (47, .iconst 4, 1), (48, .if_icmp .ge 105, 3), (51, .ldc2_w 337, 3), (54, .lload 4, 2), (56, .lmul, 1), (57, .ldc2_w 339, 3), (60, .ladd, 1), (61, .ldc2_w 341, 3), (64, .lrem, 1), (65, .lstore 4, 2), (67, .lload 4, 2), (69, .ldc2_w 343, 3), (72, .ldiv, 1), (73, .iload_n 3, 1), (74, .iconst 1, 1), (75, .iadd, 1), (76, .iload_n 3, 1), (77, .iconst 1, 1), (78, .iadd, 1), (79, .imul, 1), (80, .i2l, 1), (81, .lrem, 1), (82, .l2i, 1), (83, .istore 7, 2), (85, .iload_n 3, 1), (86, .ineg, 1), (87, .istore 8, 2), (89, .iload 7, 2), (91, .iload_n 3, 1), (92, .iconst 1, 1), (93, .iadd, 1), (94, .iload 8, 2), (96, .invokestatic 287, 3), (99, .isub, 1), (100, .if_icmp .lt 23, 3), (103, .iload 7, 2), (105, .iload_n 3, 1), (106, .iconst 1, 1), (107, .iadd, 1), (108, .iload 8, 2), (110, .invokestatic 287, 3), (113, .isub, 1), (114, .isub, 1), (115, .istore 7, 2), (117, .iinc 8 1, 3), (120, .goto (-31), 3), (123, .aload_n 0, 1), (124, .getfield 58, 3), (127, .iload 6, 2), (129, .aload_n 0, 1), (130, .getfield 55, 3), (133, .iconst 4, 1), (134, .iload_n 1, 1), (135, .imul, 1), (136, .iload 6, 2), (138, .iadd, 1), (139, .iaload, 1), (140, .iload 8, 2), (142, .iadd, 1), (143, .invokestatic 311, 3), (146, .iastore, 1), (147, .iinc 6 1, 3), (150, .goto (-105), 3), (153, .aload_n 0, 1), (154, .aload_n 0, 1), (155, .invokevirtual 321, 3), (158, .invokevirtual 314, 3), (161, .ireturn, 1)]
def mc_Mod_table : List (Nat × Instr × Nat) := [(0, .aload_n 0, 1), (1, .iconst 2, 1), (2, .iload_n 1, 1), (3, .invokevirtual 272, 3), (6, .ifCond .eq 12, 3), (9, .aload_n 0, 1), (10, .iconst 2, 1), (11, .iload_n 2, 1), (12, .invokevirtual 272, 3), (15, .ifCond .ne 6, 3), (18, .bipush (-2), 2), (20, .ireturn, 1), (21, .aload_n 0, 1), (22, .invokevirtual 297, 3), (25, .ifCond .ne 6, 3), (28, .bipush (-4), 2), (30, .ireturn, 1), (31, .aload_n 0, 1), (32, .invokevirtual 308, 3), (35, .aload_n 0, 1), (36, .aload_n 0, 1), (37, .invokevirtual 321, 3), (40, .iload_n 1, 1), (41, .invokevirtual 317, 3), (44, .aload_n 0, 1), (45, .getfield 61, 3), (48, .iload_n 2, 1), (49, .iaload, 1), (50, .ireturn, 1)]
def mc_Mod_takeTape : List (Nat × Instr × Nat) := [(0, .aload_n 0, 1), (1, .aload_n 0, 1), (2, .getfield 135, 3), (5, .putfield 138, 3), (8, .aload_n 0, 1), (9, .iconst 0, 1), (10, .putfield 135, 3), (13, .aload_n 0, 1), (14, .iconst 0, 1), (15, .putfield 157, 3), (18, .aload_n 0, 1), (19, .invokevirtual 204, 3), (22, .return_, 1)]
def mc_Str_read : List (Nat × Instr × Nat) := [(0, .aload_n 0, 1), (1, .invokevirtual 25, 3), (4, .aload_n 1, 1), (5, .iconst 0, 1), (6, .putfield 28, 3), (9, .iconst 0, 1), (10, .istore_n 2, 1), (11, .iload_n 2, 1), (12, .sipush 900, 3), (15, .if_icmp .gt 44, 3), (18, .aload_n 1, 1), (19, .invokevirtual 34, 3), (22, .aload_n 1, 1), (23, .getfield 37, 3), (26, .ifCond .ne 5, 3), (29, .iconst 0, 1), (30, .ireturn, 1), (31, .aload_n 0, 1), (32, .aload_n 1, 1), (33, .invokevirtual 40, 3), (36, .istore_n 3, 1), (37, .iload_n 3, 1), (38, .ifCond .eq 5, 3), (41, .iload_n 3, 1), (42, .ireturn, 1), (43, .aload_n 0, 1), (44, .dup, 1), (45, .getfield 44, 3), (48, .iconst 1, 1), (49, .iadd, 1), (50, .putfield 44, 3), (53, .iinc 2 1, 3), (56, .goto (-45), 3), (59, .iconst 1, 1), (60, .ireturn, 1)]
def mc_Mod_readNumbers : List (Nat × Instr × Nat) := [(0, .aload_n 0, 1), (1, .invokevirtual 262, 3), (4, .iconst 0, 1), (5, .istore 4, 2), (7, .aload_n 0, 1), (8, .getfield 166, 3), (11, .iconst 4, 1), (12, .if_icmp .eq 45, 3), (15, .aload_n 0, 1), (16, .getfield 166, 3), (19, .iconst 2, 1), (20, .if_icmp .ne 17, 3), (23, .aload_n 0, 1), (24, .getfield 188, 3), (27, .iload_n 3, 1), (28, .if_icmp .gt 9, 3), (31, .iload 4, 2), (33, .iload_n 2, 1), (34, .if_icmp .ne 5, 3), (37, .iconst (-1), 1), (38, .ireturn, 1), (39, .aload_n 1, 1), (40, .iload 4, 2), (42, .aload_n 0, 1), (43, .getfield 188, 3), (46, .iastore, 1), (47, .iinc 4 1, 3), (50, .aload_n 0, 1), (51, .invokevirtual 204, 3), (54, .goto (-47), 3), (57, .iload 4, 2), (59, .ireturn, 1)]
def mc_Mod_readPlace : List (Nat × Instr × Nat) := [(0, .aload_n 0, 1), (1, .iconst 0, 1), (2, .bipush 99, 2), (4, .invokevirtual 244, 3), (7, .ifCond .ne 5, 3), (10, .iconst 0, 1), (11, .ireturn, 1), (12, .aload_n 1, 1), (13, .iload_n 3, 1), (14, .iload 4, 2), (16, .iadd, 1), (17, .aload_n 0, 1), (18, .getfield 201, 3), (21, .iastore, 1), (22, .aload_n 0, 1), (23, .getfield 166, 3), (26, .iconst 2, 1), (27, .if_icmp .eq 9, 3), (30, .aload_n 0, 1), (31, .iconst 1, 1), (32, .invokevirtual 194, 3), (35, .ireturn, 1), (36, .aload_n 0, 1), (37, .getfield 188, 3), (40, .iconst 0, 1), (41, .bipush 99, 2), (43, .invokestatic 197, 3), (46, .ifCond .ne 9, 3), (49, .aload_n 0, 1), (50, .iconst 2, 1), (51, .invokevirtual 194, 3), (54, .ireturn, 1), (55, .iconst 0, 1), (56, .istore 5, 2), (58, .iload 5, 2), (60, .iload 4, 2), (62, .if_icmp .ge 43, 3), (65, .aload_n 1, 1), (66, .iload_n 3, 1), (67, .iload 5, 2), (69, .iadd, 1), (70, .iaload, 1), (71, .aload_n 1, 1), (72, .iload_n 3, 1), (73, .iload 4, 2), (75, .iadd, 1), (76, .iaload, 1), (77, .if_icmp .ne 22, 3), (80, .aload_n 2, 1), (81, .iload_n 3, 1), (82, .iload 5, 2), (84, .iadd, 1), (85, .iaload, 1), (86, .aload_n 0, 1), (87, .getfield 188, 3), (90, .if_icmp .ne 9, 3), (93, .aload_n 0, 1), (94, .iconst 3, 1), (95, .invokevirtual 194, 3), (98, .ireturn, 1), (99, .iinc 5 1, 3), (102, .goto (-44), 3), (105, .aload_n 2, 1), (106, .iload_n 3, 1), (107, .iload 4, 2), (109, .iadd, 1), (110, .aload_n 0, 1), (111, .getfield 188, 3), (114, .iastore, 1), (115, .aload_n 0, 1), (116, .invokevirtual 204, 3), (119, .iconst 1, 1), (120, .ireturn, 1)]
def mc_Mod_readRow : List (Nat × Instr × Nat) := [(0, .iconst 0, 1), (1, .istore 7, 2), (3, .iload 7, 2), (5, .iload_n 3, 1), (6, .if_icmp .ge 50, 3), (9, .iload 7, 2), (11, .ifCond .ne 17, 3), (14, .aload_n 0, 1), (15, .iload 4, 2), (17, .iload 5, 2), (19, .invokevirtual 244, 3), (22, .ifCond .eq 16, 3), (25, .goto 15, 3), (28, .aload_n 0, 1), (29, .iconst 0, 1), (30, .iload 6, 2), (32, .invokevirtual 244, 3), (35, .ifCond .ne 5, 3), (38, .iconst 0, 1), (39, .ireturn, 1), (40, .aload_n 1, 1), (41, .iload_n 2, 1), (42, .iload 7, 2), (44, .iadd, 1), (45, .aload_n 0, 1), (46, .getfield 201, 3), (49, .iastore, 1), (50, .iinc 7 1, 3), (53, .goto (-50), 3), (56, .iconst 1, 1), (57, .ireturn, 1)]
def mc_Tin_street : List (Nat × Instr × Nat) := [(0, .aload_n 0, 1), (1, .aload_n 0, 1), (2, .getfield 23, 3), (5, .aload_n 0, 1), (6, .getfield 10, 3), (9, .invokevirtual 95, 3), (12, .putfield 71, 3), (15, .aload_n 0, 1), (16, .aload_n 0, 1), (17, .getfield 71, 3), (20, .ifCond .ne 7, 3), (23, .iconst (-1), 1), (24, .goto 10, 3), (27, .aload_n 0, 1), (28, .getfield 10, 3), (31, .getfield 99, 3), (34, .putfield 75, 3), (37, .aload_n 0, 1), (38, .getfield 10, 3), (41, .iconst 0, 1), (42, .putfield 89, 3), (45, .aload_n 0, 1), (46, .getfield 71, 3), (49, .ifCond .eq 5, 3), (52, .iconst (-1), 1), (53, .ireturn, 1), (54, .aload_n 0, 1), (55, .getfield 19, 3), (58, .astore_n 1, 1), (59, .aload_n 0, 1), (60, .aload_n 0, 1), (61, .getfield 23, 3), (64, .putfield 19, 3), (67, .aload_n 0, 1), (68, .aload_n 1, 1), (69, .putfield 23, 3), (72, .aload_n 0, 1), (73, .getfield 29, 3), (76, .invokevirtual 102, 3), (79, .aload_n 0, 1), (80, .getfield 50, 3), (83, .invokevirtual 105, 3), (86, .aload_n 0, 1), (87, .getfield 43, 3), (90, .invokevirtual 106, 3), (93, .aload_n 0, 1), (94, .getfield 19, 3), (97, .getfield 107, 3), (100, .ireturn, 1)]
def mc_Mod_listened : List (Nat × Instr × Nat) := [(0, .aload_n 0, 1), (1, .aload_n 0, 1), (2, .getfield 122, 3), (5, .iconst 4, 1), (6, .bipush 100, 2), (8, .invokevirtual 404, 3), (11, .istore 4, 2), (13, .iload_n 1, 1), (14, .iconst 0, 1), (15, .ldc_w 422, 3), (18, .invokestatic 197, 3), (21, .ifCond .eq 25, 3), (24, .iload_n 2, 1), (25, .iconst 0, 1), (26, .ldc_w 422, 3), (29, .invokestatic 197, 3), (32, .ifCond .eq 14, 3), (35, .iload_n 3, 1), (36, .iconst 0, 1), (37, .ldc_w 422, 3), (40, .invokestatic 197, 3), (43, .ifCond .ne 6, 3), (46, .bipush (-2), 2), (48, .ireturn, 1), (49, .iload 4, 2), (51, .iconst 4, 1), (52, .if_icmp .eq 5, 3), (55, .iconst (-1), 1), (56, .ireturn, 1), (57, .iconst 0, 1), (58, .istore 5, 2), (60, .iconst 0, 1), (61, .istore 6, 2), (63, .iload 6, 2), (65, .iconst 4, 1), (66, .if_icmp .ge 46, 3), (69, .iload 5, 2), (71, .iload_n 1, 1), (72, .bipush 100, 2), (74, .aload_n 0, 1), (75, .getfield 122, 3), (78, .iload 6, 2), (80, .iaload, 1), (81, .isub, 1), (82, .imul, 1), (83, .bipush 100, 2), (85, .idiv, 1), (86, .iload_n 2, 1), (87, .isub, 1), (88, .invokestatic 287, 3), (91, .iload_n 3, 1), (92, .if_icmp .gt 10, 3), (95, .iconst 1, 1), (96, .iload 6, 2), (98, .ishl, 1), (99, .goto 4, 3), (102, .iconst 0, 1), (103, .ior, 1), (104, .istore 5, 2), (106, .iinc 6 1, 3), (109, .goto (-46), 3), (112, .iload 5, 2), (114, .ireturn, 1)]
def mc_Mod_readThing : List (Nat × Instr × Nat) := [(0, .aload_n 0, 1), (1, .getfield 17, 3), (4, .bipush 9, 2), (6, .iload_n 1, 1), (7, .iadd, 1), (8, .iaload, 1), (9, .istore_n 2, 1), (10, .iload_n 1, 1), (11, .ifCond .ne 44, 3), (14, .aload_n 0, 1), (15, .iload_n 1, 1), (16, .iconst 4, 1), (17, .invokevirtual 248, 3), (20, .ifCond .eq 30, 3), (23, .aload_n 0, 1), (24, .aload_n 0, 1), (25, .getfield 25, 3), (28, .iconst 5, 1), (29, .iconst 4, 1), (30, .iload_n 2, 1), (31, .iadd, 1), (32, .imul, 1), (33, .iconst 5, 1), (34, .iconst 1, 1), (35, .bipush 99, 2), (37, .sipush 999, 3), (40, .invokevirtual 251, 3), (43, .ifCond .eq 7, 3), (46, .iconst 1, 1), (47, .goto 4, 3), (50, .iconst 0, 1), (51, .istore_n 3, 1), (52, .goto 210, 3), (55, .iload_n 1, 1), (56, .iconst 1, 1), (57, .if_icmp .ne 43, 3), (60, .aload_n 0, 1), (61, .iload_n 1, 1), (62, .iconst 4, 1), (63, .invokevirtual 248, 3), (66, .ifCond .eq 29, 3), (69, .aload_n 0, 1), (70, .aload_n 0, 1), (71, .getfield 28, 3), (74, .iconst 4, 1), (75, .iconst 4, 1), (76, .iload_n 2, 1), (77, .iadd, 1), (78, .imul, 1), (79, .iconst 4, 1), (80, .iconst 0, 1), (81, .bipush 100, 2), (83, .bipush 100, 2), (85, .invokevirtual 251, 3), (88, .ifCond .eq 7, 3), (91, .iconst 1, 1), (92, .goto 4, 3), (95, .iconst 0, 1), (96, .istore_n 3, 1), (97, .goto 165, 3), (100, .iload_n 1, 1), (101, .iconst 2, 1), (102, .if_icmp .ne 45, 3), (105, .aload_n 0, 1), (106, .iload_n 1, 1), (107, .bipush 6, 2), (109, .invokevirtual 248, 3), (112, .ifCond .eq 30, 3), (115, .aload_n 0, 1), (116, .aload_n 0, 1), (117, .getfield 31, 3), (120, .iconst 4, 1), (121, .bipush 6, 2), (123, .iload_n 2, 1), (124, .iadd, 1), (125, .imul, 1), (126, .iconst 4, 1), (127, .iconst 0, 1), (128, .bipush 9, 2), (130, .bipush 9, 2), (132, .invokevirtual 251, 3), (135, .ifCond .eq 7, 3), (138, .iconst 1, 1), (139, .goto 4, 3), (142, .iconst 0, 1), (143, .istore_n 3, 1), (144, .goto 118, 3), (147, .iload_n 1, 1), (148, .iconst 3, 1), (149, .if_icmp .ne 38, 3), (152, .aload_n 0, 1), (153, .iload_n 1, 1), (154, .iconst 5, 1), (155, .invokevirtual 248, 3), (158, .ifCond .eq 24, 3), (161, .aload_n 0, 1), (162, .aload_n 0, 1), (163, .getfield 34, 3), (166, .aload_n 0, 1), (167, .getfield 37, 3), (170, .iconst 5, 1), (171, .iload_n 2, 1), (172, .invokevirtual 255, 3), (175, .ifCond .eq 7, 3), (178, .iconst 1, 1), (179, .goto 4, 3), (182, .iconst 0, 1), (183, .istore_n 3, 1), (184, .goto 78, 3), (187, .iload_n 1, 1), (188, .iconst 5, 1), (189, .if_icmp .ne 43, 3), (192, .aload_n 0, 1), (193, .iload_n 1, 1), (194, .iconst 4, 1), (195, .invokevirtual 248, 3), (198, .ifCond .eq 29, 3), (201, .aload_n 0, 1), (202, .aload_n 0, 1), (203, .getfield 46, 3), (206, .iconst 5, 1), (207, .iconst 4, 1), (208, .iload_n 2, 1), (209, .iadd, 1), (210, .imul, 1), (211, .iconst 5, 1), (212, .iconst 1, 1), (213, .bipush 9, 2), (215, .bipush 9, 2), (217, .invokevirtual 251, 3), (220, .ifCond .eq 7, 3), (223, .iconst 1, 1), (224, .goto 4, 3), (227, .iconst 0, 1), (228, .istore_n 3, 1), (229, .goto 33, 3), (232, .iload_n 2, 1), (233, .iconst 4, 1), (234, .if_icmp .ne 9, 3), (237, .aload_n 0, 1), (238, .iconst 4, 1), (239, .invokevirtual 194, 3), (242, .ireturn, 1), (243, .aload_n 0, 1), (244, .invokevirtual 204, 3), (247, .aload_n 0, 1), (248, .aload_n 0, 1), (249, .getfield 40, 3), (252, .aload_n 0, 1), (253, .getfield 43, 3), (256, .iconst 4, 1), (257, .iload_n 2, 1), (258, .invokevirtual 255, 3), (261, .istore_n 3, 1), (262, .iload_n 3, 1), (263, .ifCond .eq 16, 3), (266, .aload_n 0, 1), (267, .getfield 17, 3), (270, .bipush 9, 2), (272, .iload_n 1, 1), (273, .iadd, 1), (274, .dup2, 1), (275, .iaload, 1), (276, .iconst 1, 1), (277, .iadd, 1), (278, .iastore, 1), (279, .iload_n 3, 1), (280, .ireturn, 1)]
def mc_Mod_taps : List (Nat × Instr × Nat) := [(0, .aload_n 0, 1), (1, .aload_n 0, 1), (2, .getfield 95, 3), (5, .bipush 16, 2), (7, .sipush 9999, 3), (10, .invokevirtual 404, 3), (13, .istore_n 1, 1), (14, .iload_n 1, 1), (15, .iconst 1, 1), (16, .if_icmp .ge 5, 3), (19, .iconst (-1), 1), (20, .ireturn, 1), (21, .iconst 0, 1), (22, .istore_n 2, 1), (23, .iconst 0, 1), (24, .istore_n 3, 1), (25, .iload_n 3, 1), (26, .iload_n 1, 1), (27, .if_icmp .ge 81, 3), (30, .iconst 0, 1), (31, .istore 4, 2), (33, .iconst 1, 1), (34, .istore 5, 2), (36, .iload 5, 2), (38, .iload_n 1, 1), (39, .if_icmp .ge 35, 3), (42, .aload_n 0, 1), (43, .getfield 95, 3), (46, .iload 5, 2), (48, .iaload, 1), (49, .aload_n 0, 1), (50, .getfield 95, 3), (53, .iload 4, 2), (55, .iaload, 1), (56, .if_icmp .le 8, 3), (59, .iload 5, 2), (61, .goto 5, 3), (64, .iload 4, 2), (66, .istore 4, 2), (68, .iinc 5 1, 3), (71, .goto (-35), 3), (74, .aload_n 0, 1), (75, .iload_n 3, 1), (76, .invokevirtual 401, 3), (79, .iload_n 2, 1), (80, .aload_n 0, 1), (81, .getfield 95, 3), (84, .iload 4, 2), (86, .iaload, 1), (87, .aload_n 0, 1), (88, .getfield 392, 3), (91, .imul, 1), (92, .iadd, 1), (93, .istore_n 2, 1), (94, .aload_n 0, 1), (95, .getfield 95, 3), (98, .iload 4, 2), (100, .iconst (-1), 1), (101, .iastore, 1), (102, .iinc 3 1, 3), (105, .goto (-80), 3), (108, .iload_n 2, 1), (109, .ireturn, 1)]
def mc_Mod_readClause : List (Nat × Instr × Nat) := [(0, .aload_n 0, 1), (1, .getfield 166, 3), (4, .iconst 1, 1), (5, .if_icmp .ne 10, 3), (8, .aload_n 0, 1), (9, .getfield 163, 3), (12, .goto 4, 3), (15, .iconst (-1), 1), (16, .istore_n 1, 1), (17, .iload_n 1, 1), (18, .iconst 0, 1), (19, .iconst 5, 1), (20, .invokestatic 197, 3), (23, .ifCond .eq 9, 3), (26, .aload_n 0, 1), (27, .iload_n 1, 1), (28, .invokevirtual 259, 3), (31, .ireturn, 1), (32, .iload_n 1, 1), (33, .iconst (-1), 1), (34, .if_icmp .ne 9, 3), (37, .aload_n 0, 1), (38, .iconst 1, 1), (39, .invokevirtual 194, 3), (42, .ireturn, 1), (43, .aload_n 0, 1), (44, .getfield 207, 3), (47, .iload_n 1, 1), (48, .ishr, 1), (49, .iconst 1, 1), (50, .iand, 1), (51, .iconst 1, 1), (52, .if_icmp .ne 9, 3), (55, .aload_n 0, 1), (56, .iconst 3, 1), (57, .invokevirtual 194, 3), (60, .ireturn, 1), (61, .aload_n 0, 1), (62, .dup, 1), (63, .getfield 207, 3), (66, .iconst 1, 1), (67, .iload_n 1, 1), (68, .ishl, 1), (69, .ior, 1), (70, .putfield 207, 3), (73, .aload_n 0, 1), (74, .invokevirtual 204, 3), (77, .aload_n 0, 1), (78, .iconst 0, 1), (79, .iload_n 1, 1), (80, .bipush 6, 2), (82, .if_icmp .ne 8, 3), (85, .bipush 90, 2), (87, .goto 15, 3), (90, .iload_n 1, 1), (91, .bipush 7, 2), (93, .if_icmp .ne 8, 3), (96, .bipush 50, 2), (98, .goto 4, 3), (101, .iconst 3, 1), (102, .invokevirtual 244, 3), (105, .ifCond .ne 5, 3), (108, .iconst 0, 1), (109, .ireturn, 1), (110, .aload_n 0, 1), (111, .getfield 17, 3), (114, .bipush 9, 2), (116, .iload_n 1, 1), (117, .iadd, 1), (118, .aload_n 0, 1), (119, .getfield 201, 3), (122, .iastore, 1), (123, .iconst 1, 1), (124, .ireturn, 1)]
def mc_Mod_street : List (Nat × Instr × Nat) := [(0, .aload_n 0, 1), (1, .invokevirtual 262, 3), (4, .aload_n 0, 1), (5, .iconst 0, 1), (6, .putfield 191, 3), (9, .aload_n 0, 1), (10, .iconst (-1), 1), (11, .putfield 13, 3), (14, .aload_n 0, 1), (15, .invokevirtual 125, 3), (18, .iconst 0, 1), (19, .istore_n 1, 1), (20, .aload_n 0, 1), (21, .getfield 166, 3), (24, .iconst 4, 1), (25, .if_icmp .eq 38, 3), (28, .aload_n 0, 1), (29, .invokevirtual 265, 3), (32, .ifCond .ne 5, 3), (35, .iconst (-1), 1), (36, .ireturn, 1), (37, .aload_n 0, 1), (38, .getfield 166, 3), (41, .iconst 3, 1), (42, .if_icmp .eq 11, 3), (45, .aload_n 0, 1), (46, .iconst 1, 1), (47, .invokevirtual 194, 3), (50, .pop, 1), (51, .iconst (-1), 1), (52, .ireturn, 1), (53, .aload_n 0, 1), (54, .invokevirtual 204, 3), (57, .iinc 1 1, 3), (60, .goto (-40), 3), (63, .aload_n 0, 1), (64, .invokevirtual 128, 3), (67, .aload_n 0, 1), (68, .iload_n 1, 1), (69, .putfield 269, 3), (72, .iload_n 1, 1), (73, .ireturn, 1)]
def mc_Law_law : List (Nat × Instr × Nat) := [(0, .new 7, 3), (3, .dup, 1), (4, .invokespecial 9, 3), (7, .astore_n 1, 1), (8, .new 10, 3), (11, .dup, 1), (12, .invokespecial 12, 3), (15, .astore_n 2, 1), (16, .iconst 0, 1), (17, .istore_n 3, 1), (18, .iload_n 3, 1), (19, .aload_n 0, 1), (20, .arraylength, 1), (21, .bipush 6, 2), (23, .isub, 1), (24, .if_icmp .gt 1394, 3), (27, .aload_n 0, 1), (28, .iload_n 3, 1), (29, .iaload, 1), (30, .bipush 63, 2), (32, .iand, 1), (33, .tableswitch 1379 0 38 #[171, 234, 257, 270, 293, 316, 359, 412, 435, 458, 471, 494, 527, 570, 603, 636, 679, 722, 745, 768, 791, 824, 847, 890, 923, 946, 979, 1003, 1026, 1049, 1082, 1115, 1148, 1161, 1194, 1237, 1280, 1313, 1356], 171), (204, .aload_n 1, 1), (205, .aload_n 0, 1), (206, .iload_n 3, 1), (207, .iconst 1, 1), (208, .iadd, 1), (209, .iaload, 1), (210, .aload_n 0, 1), (211, .iload_n 3, 1), (212, .iconst 2, 1), (213, .iadd, 1), (214, .iaload, 1), (215, .aload_n 0, 1), (216, .iload_n 3, 1), (217, .iconst 3, 1), (218, .iadd, 1), (219, .iaload, 1), (220, .aload_n 0, 1), (221, .iload_n 3, 1), (222, .iconst 4, 1), (223, .iadd, 1), (224, .iaload, 1), (225, .aload_n 0, 1), (226, .iload_n 3, 1), (227, .iconst 5, 1), (228, .iadd, 1), (229, .iaload, 1), (230, .invokevirtual 13, 3), (233, .aload_n 2, 1), (234, .aload_n 0, 1), (235, .iload_n 3, 1), (236, .iconst 1, 1), (237, .iadd, 1), (238, .iaload, 1), (239, .aload_n 0, 1), (240, .iload_n 3, 1), (241, .iconst 2, 1), (242, .iadd, 1), (243, .iaload, 1), (244, .aload_n 0, 1), (245, .iload_n 3, 1), (246, .iconst 3, 1), (247, .iadd, 1), (248, .iaload, 1), (249, .aload_n 0, 1), (250, .iload_n 3, 1), (251, .iconst 4, 1), (252, .iadd, 1), (253, .iaload, 1), (254, .aload_n 0, 1), (255, .iload_n 3, 1), (256, .iconst 5, 1), (257, .iadd, 1), (258, .iaload, 1), (259, .invokevirtual 17, 3), (262, .if_icmp .eq 1150, 3), (265, .iconst 0, 1), (266, .ireturn, 1), (267, .aload_n 1, 1), (268, .aload_n 0, 1), (269, .iload_n 3, 1), (270, .iconst 1, 1), (271, .iadd, 1), (272, .iaload, 1), (273, .invokevirtual 18, 3), (276, .aload_n 2, 1), (277, .aload_n 0, 1), (278, .iload_n 3, 1), (279, .iconst 1, 1), (280, .iadd, 1), (281, .iaload, 1), (282, .invokevirtual 22, 3), (285, .if_icmp .eq 1127, 3), (288, .iconst 0, 1), (289, .ireturn, 1), (290, .aload_n 1, 1), (291, .invokevirtual 23, 3), (294, .aload_n 2, 1), (295, .invokevirtual 27, 3), (298, .if_icmp .eq 1114, 3), (301, .iconst 0, 1), (302, .ireturn, 1), (303, .aload_n 1, 1), (304, .aload_n 0, 1), (305, .iload_n 3, 1), (306, .iconst 1, 1), (307, .iadd, 1), (308, .iaload, 1), (309, .invokevirtual 28, 3), (312, .aload_n 2, 1), (313, .aload_n 0, 1), (314, .iload_n 3, 1), (315, .iconst 1, 1), (316, .iadd, 1), (317, .iaload, 1), (318, .invokevirtual 31, 3), (321, .if_icmp .eq 1091, 3), (324, .iconst 0, 1), (325, .ireturn, 1), (326, .aload_n 1, 1), (327, .aload_n 0, 1), (328, .iload_n 3, 1), (329, .iconst 1, 1), (330, .iadd, 1), (331, .iaload, 1), (332, .invokevirtual 32, 3), (335, .aload_n 2, 1), (336, .aload_n 0, 1), (337, .iload_n 3, 1), (338, .iconst 1, 1), (339, .iadd, 1), (340, .iaload, 1), (341, .invokevirtual 35, 3), (344, .if_icmp .eq 1068, 3), (347, .iconst 0, 1), (348, .ireturn, 1), (349, .aload_n 1, 1), (350, .aload_n 0, 1), (351, .iload_n 3, 1), (352, .iconst 1, 1), (353, .iadd, 1), (354, .iaload, 1), (355, .aload_n 0, 1), (356, .iload_n 3, 1), (357, .iconst 2, 1), (358, .iadd, 1), (359, .iaload, 1), (360, .aload_n 0, 1), (361, .iload_n 3, 1), (362, .iconst 3, 1), (363, .iadd, 1), (364, .iaload, 1), (365, .invokevirtual 36, 3), (368, .aload_n 2, 1), (369, .aload_n 0, 1), (370, .iload_n 3, 1), (371, .iconst 1, 1), (372, .iadd, 1), (373, .iaload, 1), (374, .aload_n 0, 1), (375, .iload_n 3, 1), (376, .iconst 2, 1), (377, .iadd, 1), (378, .iaload, 1), (379, .aload_n 0, 1), (380, .iload_n 3, 1), (381, .iconst 3, 1), (382, .iadd, 1), (383, .iaload, 1), (384, .invokevirtual 40, 3), (387, .if_icmp .eq 1025, 3), (390, .iconst 0, 1), (391, .ireturn, 1), (392, .aload_n 1, 1), (393, .aload_n 0, 1), (394, .iload_n 3, 1), (395, .iconst 1, 1), (396, .iadd, 1), (397, .iaload, 1), (398, .aload_n 0, 1), (399, .iload_n 3, 1), (400, .iconst 2, 1), (401, .iadd, 1), (402, .iaload, 1), (403, .aload_n 0, 1), (404, .iload_n 3, 1), (405, .iconst 3, 1), (406, .iadd, 1), (407, .iaload, 1), (408, .aload_n 0, 1), (409, .iload_n 3, 1), (410, .iconst 4, 1), (411, .iadd, 1), (412, .iaload, 1), (413, .invokevirtual 41, 3), (416, .aload_n 2, 1), (417, .aload_n 0, 1), (418, .iload_n 3, 1), (419, .iconst 1, 1), (420, .iadd, 1), (421, .iaload, 1), (422, .aload_n 0, 1), (423, .iload_n 3, 1), (424, .iconst 2, 1), (425, .iadd, 1), (426, .iaload, 1), (427, .aload_n 0, 1), (428, .iload_n 3, 1), (429, .iconst 3, 1), (430, .iadd, 1), (431, .iaload, 1), (432, .aload_n 0, 1), (433, .iload_n 3, 1), (434, .iconst 4, 1), (435, .iadd, 1), (436, .iaload, 1), (437, .invokevirtual 45, 3), (440, .if_icmp .eq 972, 3), (443, .iconst 0, 1), (444, .ireturn, 1), (445, .aload_n 1, 1), (446, .aload_n 0, 1), (447, .iload_n 3, 1), (448, .iconst 1, 1), (449, .iadd, 1), (450, .iaload, 1), (451, .invokevirtual 46, 3), (454, .aload_n 2, 1), (455, .aload_n 0, 1), (456, .iload_n 3, 1), (457, .iconst 1, 1), (458, .iadd, 1), (459, .iaload, 1), (460, .invokevirtual 49, 3), (463, .if_icmp .eq 949, 3), (466, .iconst 0, 1), (467, .ireturn, 1), (468, .aload_n 1, 1), (469, .aload_n 0, 1), (470, .iload_n 3, 1), (471, .iconst 1, 1), (472, .iadd, 1), (473, .iaload, 1), (474, .invokevirtual 50, 3), (477, .aload_n 2, 1), (478, .aload_n 0, 1), (479, .iload_n 3, 1), (480, .iconst 1, 1), (481, .iadd, 1), (482, .iaload, 1), (483, .invokevirtual 53, 3), (486, .if_icmp .eq 926, 3), (489, .iconst 0, 1), (490, .ireturn, 1), (491, .aload_n 1, 1), (492, .invokevirtual 54, 3), (495, .aload_n 2, 1), (496, .invokevirtual 57, 3), (499, .if_icmp .eq 913, 3), (502, .iconst 0, 1), (503, .ireturn, 1), (504, .aload_n 1, 1), (505, .aload_n 0, 1), (506, .iload_n 3, 1), (507, .iconst 1, 1), (508, .iadd, 1), (509, .iaload, 1), (510, .invokevirtual 58, 3), (513, .aload_n 2, 1), (514, .aload_n 0, 1), (515, .iload_n 3, 1), (516, .iconst 1, 1), (517, .iadd, 1), (518, .iaload, 1), (519, .invokevirtual 61, 3), (522, .if_icmp .eq 890, 3), (525, .iconst 0, 1), (526, .ireturn, 1), (527, .aload_n 1, 1), (528, .aload_n 0, 1), (529, .iload_n 3, 1), (530, .iconst 1, 1), (531, .iadd, 1), (532, .iaload, 1), (533, .aload_n 0, 1), (534, .iload_n 3, 1), (535, .iconst 2, 1), (536, .iadd, 1), (537, .iaload, 1), (538, .invokevirtual 62, 3), (541, .aload_n 2, 1), (542, .aload_n 0, 1), (543, .iload_n 3, 1), (544, .iconst 1, 1), (545, .iadd, 1), (546, .iaload, 1), (547, .aload_n 0, 1), (548, .iload_n 3, 1), (549, .iconst 2, 1), (550, .iadd, 1), (551, .iaload, 1), (552, .invokevirtual 66, 3), (555, .if_icmp .eq 857, 3), (558, .iconst 0, 1), (559, .ireturn, 1), (560, .aload_n 1, 1), (561, .aload_n 0, 1), (562, .iload_n 3, 1), (563, .iconst 1, 1), (564, .iadd, 1), (565, .iaload, 1), (566, .aload_n 0, 1), (567, .iload_n 3, 1), (568, .iconst 2, 1), (569, .iadd, 1), (570, .iaload, 1), (571, .aload_n 0, 1), (572, .iload_n 3, 1), (573, .iconst 3, 1), (574, .iadd, 1), (575, .iaload, 1), (576, .invokevirtual 67, 3), (579, .aload_n 2, 1), (580, .aload_n 0, 1), (581, .iload_n 3, 1), (582, .iconst 1, 1), (583, .iadd, 1), (584, .iaload, 1), (585, .aload_n 0, 1), (586, .iload_n 3, 1), (587, .iconst 2, 1), (588, .iadd, 1), (589, .iaload, 1), (590, .aload_n 0, 1), (591, .iload_n 3, 1), (592, .iconst 3, 1), (593, .iadd, 1), (594, .iaload, 1), (595, .invokevirtual 70, 3), (598, .if_icmp .eq 814, 3), (601, .iconst 0, 1), (602, .ireturn, 1), (603, .aload_n 1, 1), (604, .aload_n 0, 1), (605, .iload_n 3, 1), (606, .iconst 1, 1), (607, .iadd, 1), (608, .iaload, 1), (609, .aload_n 0, 1), (610, .iload_n 3, 1), (611, .iconst 2, 1), (612, .iadd, 1), (613, .iaload, 1), (614, .invokevirtual 71, 3), (617, .aload_n 2, 1), (618, .aload_n 0, 1), (619, .iload_n 3, 1), (620, .iconst 1, 1), (621, .iadd, 1), (622, .iaload, 1), (623, .aload_n 0, 1), (624, .iload_n 3, 1), (625, .iconst 2, 1), (626, .iadd, 1), (627, .iaload, 1), (628, .invokevirtual 74, 3), (631, .if_icmp .eq 781, 3), (634, .iconst 0, 1), (635, .ireturn, 1), (636, .aload_n 1, 1), (637, .aload_n 0, 1), (638, .iload_n 3, 1), (639, .iconst 1, 1), (640, .iadd, 1), (641, .iaload, 1), (642, .aload_n 0, 1), (643, .iload_n 3, 1), (644, .iconst 2, 1), (645, .iadd, 1), (646, .iaload, 1), (647, .invokevirtual 75, 3), (650, .aload_n 2, 1), (651, .aload_n 0, 1), (652, .iload_n 3, 1), (653, .iconst 1, 1), (654, .iadd, 1), (655, .iaload, 1), (656, .aload_n 0, 1), (657, .iload_n 3, 1), (658, .iconst 2, 1), (659, .iadd, 1), (660, .iaload, 1), (661, .invokevirtual 78, 3), (664, .if_icmp .eq 748, 3), (667, .iconst 0, 1), (668, .ireturn, 1), (669, .aload_n 1, 1), (670, .aload_n 0, 1), (671, .iload_n 3, 1), (672, .iconst 1, 1), (673, .iadd, 1), (674, .iaload, 1), (675, .aload_n 0, 1), (676, .iload_n 3, 1), (677, .iconst 2, 1), (678, .iadd, 1), (679, .iaload, 1), (680, .aload_n 0, 1), (681, .iload_n 3, 1), (682, .iconst 3, 1), (683, .iadd, 1), (684, .iaload, 1), (685, .invokevirtual 79, 3), (688, .aload_n 2, 1), (689, .aload_n 0, 1), (690, .iload_n 3, 1), (691, .iconst 1, 1), (692, .iadd, 1), (693, .iaload, 1), (694, .aload_n 0, 1), (695, .iload_n 3, 1), (696, .iconst 2, 1), (697, .iadd, 1), (698, .iaload, 1), (699, .aload_n 0, 1), (700, .iload_n 3, 1), (701, .iconst 3, 1), (702, .iadd, 1), (703, .iaload, 1), (704, .invokevirtual 82, 3), (707, .if_icmp .eq 705, 3), (710, .iconst 0, 1), (711, .ireturn, 1), (712, .aload_n 1, 1), (713, .aload_n 0, 1), (714, .iload_n 3, 1), (715, .iconst 1, 1), (716, .iadd, 1), (717, .iaload, 1), (718, .aload_n 0, 1), (719, .iload_n 3, 1), (720, .iconst 2, 1), (721, .iadd, 1), (722, .iaload, 1), (723, .aload_n 0, 1), (724, .iload_n 3, 1), (725, .iconst 3, 1), (726, .iadd, 1), (727, .iaload, 1), (728, .invokevirtual 83, 3), (731, .aload_n 2, 1), (732, .aload_n 0, 1), (733, .iload_n 3, 1), (734, .iconst 1, 1), (735, .iadd, 1), (736, .iaload, 1), (737, .aload_n 0, 1), (738, .iload_n 3, 1), (739, .iconst 2, 1), (740, .iadd, 1), (741, .iaload, 1), (742, .aload_n 0, 1), (743, .iload_n 3, 1), (744, .iconst 3, 1), (745, .iadd, 1), (746, .iaload, 1), (747, .invokevirtual 86, 3), (750, .if_icmp .eq 662, 3), (753, .iconst 0, 1), (754, .ireturn, 1), (755, .aload_n 1, 1), (756, .aload_n 0, 1), (757, .iload_n 3, 1), (758, .iconst 1, 1), (759, .iadd, 1), (760, .iaload, 1), (761, .invokevirtual 87, 3), (764, .aload_n 2, 1), (765, .aload_n 0, 1), (766, .iload_n 3, 1), (767, .iconst 1, 1), (768, .iadd, 1), (769, .iaload, 1), (770, .invokevirtual 90, 3), (773, .if_icmp .eq 639, 3), (776, .iconst 0, 1), (777, .ireturn, 1), (778, .aload_n 1, 1), (779, .aload_n 0, 1), (780, .iload_n 3, 1), (781, .iconst 1, 1), (782, .iadd, 1), (783, .iaload, 1), (784, .invokevirtual 91, 3), (787, .aload_n 2, 1), (788, .aload_n 0, 1), (789, .iload_n 3, 1), (790, .iconst 1, 1), (791, .iadd, 1), (792, .iaload, 1), (793, .invokevirtual 94, 3), (796, .if_icmp .eq 616, 3), (799, .iconst 0, 1), (800, .ireturn, 1), (801, .aload_n 1, 1), (802, .aload_n 0, 1), (803, .iload_n 3, 1), (804, .iconst 1, 1), (805, .iadd, 1), (806, .iaload, 1), (807, .invokevirtual 95, 3), (810, .aload_n 2, 1), (811, .aload_n 0, 1), (812, .iload_n 3, 1), (813, .iconst 1, 1), (814, .iadd, 1), (815, .iaload, 1), (816, .invokevirtual 98, 3), (819, .if_icmp .eq 593, 3), (822, .iconst 0, 1), (823, .ireturn, 1), (824, .aload_n 1, 1), (825, .aload_n 0, 1), (826, .iload_n 3, 1), (827, .iconst 1, 1), (828, .iadd, 1), (829, .iaload, 1), (830, .aload_n 0, 1), (831, .iload_n 3, 1), (832, .iconst 2, 1), (833, .iadd, 1), (834, .iaload, 1), (835, .invokevirtual 99, 3), (838, .aload_n 2, 1), (839, .aload_n 0, 1), (840, .iload_n 3, 1), (841, .iconst 1, 1), (842, .iadd, 1), (843, .iaload, 1), (844, .aload_n 0, 1), (845, .iload_n 3, 1), (846, .iconst 2, 1), (847, .iadd, 1), (848, .iaload, 1), (849, .invokevirtual 102, 3), (852, .if_icmp .eq 560, 3), (855, .iconst 0, 1), (856, .ireturn, 1), (857, .aload_n 1, 1), (858, .aload_n 0, 1), (859, .iload_n 3, 1), (860, .iconst 1, 1), (861, .iadd, 1), (862, .iaload, 1), (863, .invokevirtual 103, 3), (866, .aload_n 2, 1), (867, .aload_n 0, 1), (868, .iload_n 3, 1), (869, .iconst 1, 1), (870, .iadd, 1), (871, .iaload, 1), (872, .invokevirtual 106, 3), (875, .if_icmp .eq 537, 3), (878, .iconst 0, 1), (879, .ireturn, 1), (880, .aload_n 1, 1), (881, .aload_n 0, 1), (882, .iload_n 3, 1), (883, .iconst 1, 1), (884, .iadd, 1), (885, .iaload, 1), (886, .aload_n 0, 1), (887, .iload_n 3, 1), (888, .iconst 2, 1), (889, .iadd, 1), (890, .iaload, 1), (891, .aload_n 0, 1), (892, .iload_n 3, 1), (893, .iconst 3, 1), (894, .iadd, 1), (895, .iaload, 1), (896, .invokevirtual 107, 3), (899, .aload_n 2, 1), (900, .aload_n 0, 1), (901, .iload_n 3, 1), (902, .iconst 1, 1), (903, .iadd, 1), (904, .iaload, 1), (905, .aload_n 0, 1), (906, .iload_n 3, 1), (907, .iconst 2, 1), (908, .iadd, 1), (909, .iaload, 1), (910, .aload_n 0, 1), (911, .iload_n 3, 1), (912, .iconst 3, 1), (913, .iadd, 1), (914, .iaload, 1), (915, .invokevirtual 110, 3), (918, .if_icmp .eq 494, 3), (921, .iconst 0, 1), (922, .ireturn, 1), (923, .aload_n 1, 1), (924, .aload_n 0, 1), (925, .iload_n 3, 1), (926, .iconst 1, 1), (927, .iadd, 1), (928, .iaload, 1), (929, .aload_n 0, 1), (930, .iload_n 3, 1), (931, .iconst 2, 1), (932, .iadd, 1), (933, .iaload, 1), (934, .invokevirtual 111, 3), (937, .aload_n 2, 1), (938, .aload_n 0, 1), (939, .iload_n 3, 1), (940, .iconst 1, 1), (941, .iadd, 1), (942, .iaload, 1), (943, .aload_n 0, 1), (944, .iload_n 3, 1), (945, .iconst 2, 1), (946, .iadd, 1), (947, .iaload, 1), (948, .invokevirtual 114, 3), (951, .if_icmp .eq 461, 3), (954, .iconst 0, 1), (955, .ireturn, 1), (956, .aload_n 1, 1), (957, .aload_n 0, 1), (958, .iload_n 3, 1), (959, .iconst 1, 1), (960, .iadd, 1), (961, .iaload, 1), (962, .invokevirtual 115, 3), (965, .aload_n 2, 1), (966, .aload_n 0, 1), (967, .iload_n 3, 1), (968, .iconst 1, 1), (969, .iadd, 1), (970, .iaload, 1), (971, .invokevirtual 118, 3), (974, .if_icmp .eq 438, 3), (977, .iconst 0, 1), (978, .ireturn, 1), (979, .aload_n 1, 1), (980, .aload_n 0, 1), (981, .iload_n 3, 1), (982, .iconst 1, 1), (983, .iadd, 1), (984, .iaload, 1), (985, .aload_n 0, 1), (986, .iload_n 3, 1), (987, .iconst 2, 1), (988, .iadd, 1), (989, .iaload, 1), (990, .invokevirtual 119, 3), (993, .aload_n 2, 1), (994, .aload_n 0, 1), (995, .iload_n 3, 1), (996, .iconst 1, 1), (997, .iadd, 1), (998, .iaload, 1), (999, .aload_n 0, 1), (1000, .iload_n 3, 1), (1001, .iconst 2, 1), (1002, .iadd, 1), (1003, .iaload, 1), (1004, .invokevirtual 122, 3), (1007, .if_icmp .eq 405, 3), (1010, .iconst 0, 1), (1011, .ireturn, 1), (1012, .aload_n 1, 1), (1013, .aload_n 0, 1), (1014, .iload_n 3, 1), (1015, .iconst 1, 1), (1016, .iadd, 1), (1017, .iaload, 1), (1018, .invokevirtual 123, 3), (1021, .aload_n 2, 1), (1022, .aload_n 0, 1), (1023, .iload_n 3, 1), (1024, .iconst 1, 1), (1025, .iadd, 1), (1026, .iaload, 1), (1027, .invokevirtual 127, 3), (1030, .lcmp, 1), (1031, .ifCond .eq 381, 3), (1034, .iconst 0, 1), (1035, .ireturn, 1), (1036, .aload_n 1, 1), (1037, .aload_n 0, 1), (1038, .iload_n 3, 1), (1039, .iconst 1, 1), (1040, .iadd, 1), (1041, .iaload, 1), (1042, .invokevirtual 128, 3), (1045, .aload_n 2, 1), (1046, .aload_n 0, 1), (1047, .iload_n 3, 1), (1048, .iconst 1, 1), (1049, .iadd, 1), (1050, .iaload, 1), (1051, .invokevirtual 131, 3), (1054, .if_icmp .eq 358, 3), (1057, .iconst 0, 1), (1058, .ireturn, 1), (1059, .aload_n 1, 1), (1060, .aload_n 0, 1), (1061, .iload_n 3, 1), (1062, .iconst 1, 1), (1063, .iadd, 1), (1064, .iaload, 1), (1065, .invokevirtual 132, 3), (1068, .aload_n 2, 1), (1069, .aload_n 0, 1), (1070, .iload_n 3, 1), (1071, .iconst 1, 1), (1072, .iadd, 1), (1073, .iaload, 1), (1074, .invokevirtual 135, 3), (1077, .if_icmp .eq 335, 3), (1080, .iconst 0, 1), (1081, .ireturn, 1), (1082, .aload_n 1, 1), (1083, .aload_n 0, 1), (1084, .iload_n 3, 1), (1085, .iconst 1, 1), (1086, .iadd, 1), (1087, .iaload, 1), (1088, .aload_n 0, 1), (1089, .iload_n 3, 1), (1090, .iconst 2, 1), (1091, .iadd, 1), (1092, .iaload, 1), (1093, .invokevirtual 136, 3), (1096, .aload_n 2, 1), (1097, .aload_n 0, 1), (1098, .iload_n 3, 1), (1099, .iconst 1, 1), (1100, .iadd, 1), (1101, .iaload, 1), (1102, .aload_n 0, 1), (1103, .iload_n 3, 1), (1104, .iconst 2, 1), (1105, .iadd, 1), (1106, .iaload, 1), (1107, .invokevirtual 139, 3), (1110, .if_icmp .eq 302, 3), (1113, .iconst 0, 1), (1114, .ireturn, 1), (1115, .aload_n 1, 1), (1116, .aload_n 0, 1), (1117, .iload_n 3, 1), (1118, .iconst 1, 1), (1119, .iadd, 1), (1120, .iaload, 1), (1121, .aload_n 0, 1), (1122, .iload_n 3, 1), (1123, .iconst 2, 1), (1124, .iadd, 1), (1125, .iaload, 1), (1126, .invokevirtual 140, 3), (1129, .aload_n 2, 1), (1130, .aload_n 0, 1), (1131, .iload_n 3, 1), (1132, .iconst 1, 1), (1133, .iadd, 1), (1134, .iaload, 1), (1135, .aload_n 0, 1), (1136, .iload_n 3, 1), (1137, .iconst 2, 1), (1138, .iadd, 1), (1139, .iaload, 1), (1140, .invokevirtual 143, 3), (1143, .if_icmp .eq 269, 3), (1146, .iconst 0, 1), (1147, .ireturn, 1), (1148, .aload_n 1, 1), (1149, .aload_n 0, 1), (1150, .iload_n 3, 1), (1151, .iconst 1, 1), (1152, .iadd, 1), (1153, .iaload, 1), (1154, .aload_n 0, 1), (1155, .iload_n 3, 1), (1156, .iconst 2, 1), (1157, .iadd, 1), (1158, .iaload, 1), (1159, .invokevirtual 144, 3), (1162, .aload_n 2, 1), (1163, .aload_n 0, 1), (1164, .iload_n 3, 1), (1165, .iconst 1, 1), (1166, .iadd, 1), (1167, .iaload, 1), (1168, .aload_n 0, 1), (1169, .iload_n 3, 1), (1170, .iconst 2, 1), (1171, .iadd, 1), (1172, .iaload, 1), (1173, .invokevirtual 147, 3), (1176, .if_icmp .eq 236, 3), (1179, .iconst 0, 1), (1180, .ireturn, 1), (1181, .aload_n 1, 1), (1182, .invokevirtual 148, 3), (1185, .aload_n 2, 1), (1186, .invokevirtual 151, 3), (1189, .if_icmp .eq 223, 3), (1192, .iconst 0, 1), (1193, .ireturn, 1), (1194, .aload_n 1, 1), (1195, .aload_n 0, 1), (1196, .iload_n 3, 1), (1197, .iconst 1, 1), (1198, .iadd, 1), (1199, .iaload, 1), (1200, .aload_n 0, 1), (1201, .iload_n 3, 1), (1202, .iconst 2, 1), (1203, .iadd, 1), (1204, .iaload, 1), (1205, .invokevirtual 152, 3), (1208, .aload_n 2, 1), (1209, .aload_n 0, 1), (1210, .iload_n 3, 1), (1211, .iconst 1, 1), (1212, .iadd, 1), (1213, .iaload, 1), (1214, .aload_n 0, 1), (1215, .iload_n 3, 1), (1216, .iconst 2, 1), (1217, .iadd, 1), (1218, .iaload, 1), (1219, .invokevirtual 155, 3), (1222, .if_icmp .eq 190, 3), (1225, .iconst 0, 1), (1226, .ireturn, 1), (1227, .aload_n 1, 1), (1228, .aload_n 0, 1), (1229, .iload_n 3, 1), (1230, .iconst 1, 1), (1231, .iadd, 1), (1232, .iaload, 1), (1233, .aload_n 0, 1), (1234, .iload_n 3, 1), (1235, .iconst 2, 1), (1236, .iadd, 1), (1237, .iaload, 1), (1238, .aload_n 0, 1), (1239, .iload_n 3, 1), (1240, .iconst 3, 1), (1241, .iadd, 1), (1242, .iaload, 1), (1243, .invokevirtual 156, 3), (1246, .aload_n 2, 1), (1247, .aload_n 0, 1), (1248, .iload_n 3, 1), (1249, .iconst 1, 1), (1250, .iadd, 1), (1251, .iaload, 1), (1252, .aload_n 0, 1), (1253, .iload_n 3, 1), (1254, .iconst 2, 1), (1255, .iadd, 1), (1256, .iaload, 1), (1257, .aload_n 0, 1), (1258, .iload_n 3, 1), (1259, .iconst 3, 1), (1260, .iadd, 1), (1261, .iaload, 1), (1262, .invokevirtual 159, 3), (1265, .if_icmp .eq 147, 3), (1268, .iconst 0, 1), (1269, .ireturn, 1), (1270, .aload_n 1, 1), (1271, .aload_n 0, 1), (1272, .iload_n 3, 1), (1273, .iconst 1, 1), (1274, .iadd, 1), (1275, .iaload, 1), (1276, .aload_n 0, 1), (1277, .iload_n 3, 1), (1278, .iconst 2, 1), (1279, .iadd, 1), (1280, .iaload, 1), (1281, .aload_n 0, 1), (1282, .iload_n 3, 1), (1283, .iconst 3, 1), (1284, .iadd, 1), (1285, .iaload, 1), (1286, .invokevirtual 160, 3), (1289, .aload_n 2, 1), (1290, .aload_n 0, 1), (1291, .iload_n 3, 1), (1292, .iconst 1, 1), (1293, .iadd, 1), (1294, .iaload, 1), (1295, .aload_n 0, 1), (1296, .iload_n 3, 1), (1297, .iconst 2, 1), (1298, .iadd, 1), (1299, .iaload, 1), (1300, .aload_n 0, 1), (1301, .iload_n 3, 1), (1302, .iconst 3, 1), (1303, .iadd, 1), (1304, .iaload, 1), (1305, .invokevirtual 163, 3), (1308, .if_icmp .eq 104, 3), (1311, .iconst 0, 1), (1312, .ireturn, 1), (1313, .aload_n 1, 1), (1314, .aload_n 0, 1), (1315, .iload_n 3, 1), (1316, .iconst 1, 1), (1317, .iadd, 1), (1318, .iaload, 1), (1319, .aload_n 0, 1), (1320, .iload_n 3, 1), (1321, .iconst 2, 1), (1322, .iadd, 1), (1323, .iaload, 1), (1324, .invokevirtual 164, 3), (1327, .aload_n 2, 1), (1328, .aload_n 0, 1), (1329, .iload_n 3, 1), (1330, .iconst 1, 1), (1331, .iadd, 1), (1332, .iaload, 1), (1333, .aload_n 0, 1), (1334, .iload_n 3, 1), (1335, .iconst 2, 1), (1336, .iadd, 1), (1337, .iaload, 1), (1338, .invokevirtual 167, 3), (1341, .if_icmp .eq 71, 3), (1344, .iconst 0, 1), (1345, .ireturn, 1), (1346, .aload_n 1, 1), (1347, .aload_n 0, 1), (1348, .iload_n 3, 1), (1349, .iconst 1, 1), (1350, .iadd, 1), (1351, .iaload, 1), (1352, .aload_n 0, 1), (1353, .iload_n 3, 1), (1354, .iconst 2, 1), (1355, .iadd, 1), (1356, .iaload, 1), (1357, .aload_n 0, 1), (1358, .iload_n 3, 1), (1359, .iconst 3, 1), (1360, .iadd, 1), (1361, .iaload, 1), (1362, .invokevirtual 168, 3), (1365, .aload_n 2, 1), (1366, .aload_n 0, 1), (1367, .iload_n 3, 1), (1368, .iconst 1, 1), (1369, .iadd, 1), (1370, .iaload, 1), (1371, .aload_n 0, 1), (1372, .iload_n 3, 1), (1373, .iconst 2, 1), (1374, .iadd, 1), (1375, .iaload, 1), (1376, .aload_n 0, 1), (1377, .iload_n 3, 1), (1378, .iconst 3, 1), (1379, .iadd, 1), (1380, .iaload, 1), (1381, .invokevirtual 171, 3), (1384, .if_icmp .eq 28, 3), (1387, .iconst 0, 1), (1388, .ireturn, 1), (1389, .aload_n 1, 1), (1390, .aload_n 0, 1), (1391, .iload_n 3, 1), (1392, .iconst 1, 1), (1393, .iadd, 1), (1394, .iaload, 1), (1395, .invokevirtual 172, 3), (1398, .aload_n 2, 1), (1399, .aload_n 0, 1), (1400, .iload_n 3, 1), (1401, .iconst 1, 1), (1402, .iadd, 1), (1403, .iaload, 1), (1404, .invokevirtual 175, 3), (1407, .if_icmp .eq 5, 3), (1410, .iconst 0, 1), (1411, .ireturn, 1), (1412, .iinc 3 6, 3), (1415, .goto (-1397), 3), (1418, .iconst 1, 1), (1419, .ireturn, 1)]
def mm_Book_begin : pm := (0, mc_Book_begin, [], 1, 9, 1, 0, [2], false)
def mm_Book_mend : pm := (0, mc_Book_mend, [35, 51], 6, 0, 1, 0, [2, 0, 0, 0], false)
def mm_Book_note : pm := (0, mc_Book_note, [35], 4, 0, 1, 0, [2, 0, 0, 0], false)
def mm_Book_writtenAsKnown : pm := (0, mc_Book_writtenAsKnown, [10], 5, 0, 1, 0, [2, 0, 0], false)
def mm_Ear_allWays : pm := (1, mc_Ear_allWays, [], 2, 0, 1, 0, [2], false)
def mm_Ear_nearest : pm := (1, mc_Ear_nearest, [13], 9, 0, 1, 0, [2, 1], false)
def mm_Ear_soundsAsEarlier : pm := (1, mc_Ear_soundsAsEarlier, [2, 28], 6, 7, 1, 0, [2, 0], false)
def mm_Line_begin : pm := (2, mc_Line_begin, [21], 1, 9, 1, 0, [2], false)
def mm_Prod_beOne : pm := (3, mc_Prod_beOne, [2], 2, 9, 1, 0, [2], false)
def mm_Prod_become : pm := (3, mc_Prod_become, [2], 3, 9, 1, 0, [2, 2], false)
def mm_Prod_isAbove : pm := (3, mc_Prod_isAbove, [3], 3, 7, 1, 0, [2, 2], false)
def mm_Prod_times : pm := (3, mc_Prod_times, [5], 7, 9, 1, 0, [2, 0], false)
def mm_Row_become : pm := (4, mc_Row_become, [32, 34, 88], 3, 9, 1, 0, [2, 2], false)
def mm_Row_lay : pm := (4, mc_Row_lay, [20, 22, 57], 3, 9, 1, 0, [2, 0], false)
def mm_Row_part : pm := (4, mc_Row_part, [], 2, 0, 1, 0, [0, 0], false)
def mm_Str_forget : pm := (5, mc_Str_forget, [7], 2, 9, 1, 0, [2], false)
def mm_Str_isNamed : pm := (5, mc_Str_isNamed, [], 1, 7, 1, 0, [0], false)
def mm_Str_number : pm := (5, mc_Str_number, [], 4, 0, 1, 0, [2, 0, 0, 0], false)
def mm_Str_ofBand : pm := (5, mc_Str_ofBand, [9], 5, 0, 1, 0, [2, 0, 0, 0], false)
def mm_Tape_isBlank : pm := (6, mc_Tape_isBlank, [], 1, 7, 1, 0, [0], false)
def mm_Tape_isDigit : pm := (6, mc_Tape_isDigit, [], 1, 7, 1, 0, [0], false)
def mm_Tape_isLetter : pm := (6, mc_Tape_isLetter, [], 1, 7, 1, 0, [0], false)
def mm_Tape_put : pm := (6, mc_Tape_put, [3], 3, 9, 1, 0, [2, 0], false)
def mm_Wish_begin : pm := (7, mc_Wish_begin, [], 1, 9, 1, 0, [2], false)
def mm_Wish_isReached : pm := (7, mc_Wish_isReached, [2], 4, 7, 1, 0, [2, 0, 0], false)
def mm_Wish_pairOf : pm := (7, mc_Wish_pairOf, [], 3, 0, 1, 0, [0, 0, 0], false)
def mm_Wish_reachOf : pm := (7, mc_Wish_reachOf, [8, 22], 9, 0, 1, 0, [2, 0, 0, 0, 0], false)
def mm_Wish_yardsOf : pm := (7, mc_Wish_yardsOf, [5], 5, 0, 1, 0, [2, 0, 0], false)
def mm_Tin_allWords : pm := (8, mc_Tin_allWords, [], 1, 0, 1, 0, [2], false)
def mm_Tin_fault : pm := (8, mc_Tin_fault, [], 2, 0, 1, 0, [2, 0], false)
def mm_Tin_lineLacks : pm := (8, mc_Tin_lineLacks, [], 1, 7, 1, 0, [2], false)
def mm_Tin_straighten : pm := (8, mc_Tin_straighten, [], 2, 0, 1, 0, [2], false)
def mm_Tin_within : pm := (8, mc_Tin_within, [], 3, 7, 1, 0, [0, 0, 0], false)
def mm_Mod_allWays : pm := (9, mc_Mod_allWays, [4], 3, 0, 1, 0, [2], false)
def mm_Mod_allWords : pm := (9, mc_Mod_allWords, [], 1, 0, 1, 0, [2], false)
def mm_Mod_bearsOf : pm := (9, mc_Mod_bearsOf, [], 3, 0, 1, 0, [2, 0], false)
def mm_Mod_begin : pm := (9, mc_Mod_begin, [2], 2, 9, 1, 0, [2], false)
def mm_Mod_bits : pm := (9, mc_Mod_bits, [4], 3, 0, 1, 0, [0], false)
def mm_Mod_bounded : pm := (9, mc_Mod_bounded, [], 1, 0, 1, 0, [0], false)
def mm_Mod_byteAt : pm := (9, mc_Mod_byteAt, [], 2, 0, 1, 0, [2, 0], false)
def mm_Mod_comes : pm := (9, mc_Mod_comes, [2], 3, 9, 1, 0, [2, 0], false)
def mm_Mod_count : pm := (9, mc_Mod_count, [], 2, 0, 1, 0, [2, 0], false)
def mm_Mod_end : pm := (9, mc_Mod_end, [], 2, 0, 1, 0, [2, 0], false)
def mm_Mod_fails : pm := (9, mc_Mod_fails, [], 2, 7, 1, 0, [2, 0], false)
def mm_Mod_fault : pm := (9, mc_Mod_fault, [], 2, 0, 1, 0, [2, 0], false)
def mm_Mod_feed : pm := (9, mc_Mod_feed, [19, 67, 73], 9, 0, 1, 0, [2, 0, 0, 0, 0, 0], false)
def mm_Mod_hasStuff : pm := (9, mc_Mod_hasStuff, [], 1, 7, 1, 0, [2], false)
def mm_Mod_heard : pm := (9, mc_Mod_heard, [], 1, 0, 1, 0, [0], false)
def mm_Mod_in : pm := (9, mc_Mod_in, [], 3, 7, 1, 0, [0, 0, 0], false)
def mm_Mod_isBarred : pm := (9, mc_Mod_isBarred, [2], 8, 7, 1, 0, [2, 0, 0], false)
def mm_Mod_isDigit : pm := (9, mc_Mod_isDigit, [], 1, 7, 1, 0, [0], false)
def mm_Mod_isGranted : pm := (9, mc_Mod_isGranted, [13, 26, 77], 8, 7, 1, 0, [2, 0, 0, 0], false)
def mm_Mod_isGreater : pm := (9, mc_Mod_isGreater, [3], 2, 7, 1, 0, [2], false)
def mm_Mod_isSmall : pm := (9, mc_Mod_isSmall, [], 1, 7, 1, 0, [0], false)
def mm_Mod_plain : pm := (9, mc_Mod_plain, [], 1, 0, 1, 0, [0], false)
def mm_Mod_rowsOf : pm := (9, mc_Mod_rowsOf, [17, 59], 7, 0, 1, 0, [2, 0], false)
def mm_Mod_straighten : pm := (9, mc_Mod_straighten, [], 2, 0, 1, 0, [2], false)
def mm_Mod_times : pm := (9, mc_Mod_times, [5], 7, 9, 1, 0, [2, 0], false)
def mm_Mod_toLeft : pm := (9, mc_Mod_toLeft, [], 3, 9, 1, 0, [2, 0, 0], false)
def mm_Mod_toRight : pm := (9, mc_Mod_toRight, [], 3, 9, 1, 0, [2, 0, 0], false)
def mm_Mod_wroteAt : pm := (9, mc_Mod_wroteAt, [10], 5, 0, 1, 0, [2, 0, 0], false)
def mm_Mod_yardsOf : pm := (9, mc_Mod_yardsOf, [32], 6, 0, 1, 0, [2, 0, 0], false)
def mm_Taps_beats : pm := (10, mc_Taps_beats, [4], 3, 0, 1, 0, [0], false)
def mm_Integer_bitCount : pm := (12, mc_Integer_bitCount, [], 1, 0, 1, 0, [0], false)
def mm_Math_abs : pm := (13, mc_Math_abs, [], 1, 0, 1, 0, [0], false)
def mm_Math_max : pm := (13, mc_Math_max, [], 2, 0, 1, 0, [0, 0], false)
def mm_Math_min : pm := (13, mc_Math_min, [], 2, 0, 1, 0, [0, 0], false)
def mm_Ear_init : pm := (1, mc_Ear_init, [26, 42, 60], 1, 9, 2, 12, [2], true)
def mm_Ear_hearRest : pm := (1, mc_Ear_hearRest, [3, 43], 11, 9, 2, 28, [2, 1, 0, 2], false)
def mm_Ear_heardWith : pm := (1, mc_Ear_heardWith, [], 4, 0, 2, 21, [2, 0, 0, 0], false)
def mm_Ear_noiseOf : pm := (1, mc_Ear_noiseOf, [8], 4, 0, 2, 20, [2, 0], false)
def mm_Ear_offFrom : pm := (1, mc_Ear_offFrom, [10], 7, 1, 2, 20, [2, 0, 0], false)
def mm_Ear_thinkOf : pm := (1, mc_Ear_thinkOf, [7], 3, 9, 2, 25, [2, 0], false)
def mm_Line_init : pm := (2, mc_Line_init, [21], 1, 9, 2, 12, [2], true)
def mm_Line_asLevel : pm := (2, mc_Line_asLevel, [], 1, 0, 2, 21, [0], false)
def mm_Line_enters : pm := (2, mc_Line_enters, [], 6, 0, 2, 24, [2, 2, 0, 0, 0], false)
def mm_Line_overBends : pm := (2, mc_Line_overBends, [6, 90], 9, 0, 2, 24, [2, 2, 0, 0, 0], false)
def mm_Line_overYards : pm := (2, mc_Line_overYards, [22], 8, 0, 2, 24, [2, 2, 0, 0, 0], false)
def mm_Line_strength : pm := (2, mc_Line_strength, [], 3, 0, 2, 23, [2, 2], false)
def mm_Prod_init : pm := (3, mc_Prod_init, [], 1, 9, 2, 12, [2], true)
def mm_Row_init : pm := (4, mc_Row_init, [20, 36], 1, 9, 2, 12, [2], true)
def mm_Row_bounded : pm := (4, mc_Row_bounded, [], 1, 0, 2, 21, [0], false)
def mm_Str_init : pm := (5, mc_Str_init, [24], 1, 9, 2, 12, [2], true)
def mm_Str_isOneAt : pm := (5, mc_Str_isOneAt, [3], 5, 7, 2, 23, [2, 0, 0, 0], false)
def mm_Tape_init : pm := (6, mc_Tape_init, [], 1, 9, 2, 12, [2], true)
def mm_Tape_readNumber : pm := (6, mc_Tape_readNumber, [0, 63], 1, 9, 2, 20, [2], false)
def mm_Tape_readWord : pm := (6, mc_Tape_readWord, [0, 67], 1, 9, 2, 20, [2], false)
def mm_Wish_init : pm := (7, mc_Wish_init, [20], 1, 9, 2, 12, [2], true)
def mm_Wish_add : pm := (7, mc_Wish_add, [], 2, 0, 2, 20, [2, 0], false)
def mm_Wish_grants : pm := (7, mc_Wish_grants, [3, 35], 6, 7, 2, 28, [2, 0, 0, 0, 0], false)
def mm_Wish_isBetween : pm := (7, mc_Wish_isBetween, [], 2, 7, 2, 21, [0, 0], false)
def mm_Tin_cell : pm := (8, mc_Tin_cell, [], 4, 0, 2, 22, [2, 0, 0, 0], false)
def mm_Tin_count : pm := (8, mc_Tin_count, [], 2, 0, 2, 20, [2, 0], false)
def mm_Tin_end : pm := (8, mc_Tin_end, [], 2, 0, 2, 22, [2, 0], false)
def mm_Tin_feed : pm := (8, mc_Tin_feed, [], 6, 0, 2, 22, [2, 0, 0, 0, 0, 0], false)
def mm_Tin_goes : pm := (8, mc_Tin_goes, [], 3, 0, 2, 22, [2, 0, 0], false)
def mm_Tin_isBand : pm := (8, mc_Tin_isBand, [], 1, 7, 2, 22, [0], false)
def mm_Tin_isOne : pm := (8, mc_Tin_isOne, [], 3, 7, 2, 22, [2, 0, 0], false)
def mm_Tin_isStep : pm := (8, mc_Tin_isStep, [], 2, 7, 2, 22, [2, 0], false)
def mm_Tin_keep : pm := (8, mc_Tin_keep, [], 2, 0, 2, 22, [2, 0], false)
def mm_Tin_out : pm := (8, mc_Tin_out, [], 2, 1, 2, 22, [2, 0], false)
def mm_Tin_stretch : pm := (8, mc_Tin_stretch, [], 2, 0, 2, 22, [2, 0], false)
def mm_Tin_take : pm := (8, mc_Tin_take, [], 2, 0, 2, 22, [2, 0], false)
def mm_Tin_tie : pm := (8, mc_Tin_tie, [], 2, 0, 2, 22, [2, 0], false)
def mm_Mod_ear : pm := (9, mc_Mod_ear, [7, 36], 7, 0, 2, 20, [2, 0], false)
def mm_Mod_findTaps : pm := (9, mc_Mod_findTaps, [4, 42, 75, 104], 6, 9, 2, 26, [2, 0], false)
def mm_Mod_handsOf : pm := (9, mc_Mod_handsOf, [], 3, 0, 2, 22, [2, 0], false)
def mm_Mod_hasLine : pm := (9, mc_Mod_hasLine, [], 1, 7, 2, 20, [2], false)
def mm_Mod_is : pm := (9, mc_Mod_is, [], 3, 7, 2, 22, [2, 0, 0], false)
def mm_Mod_isBand : pm := (9, mc_Mod_isBand, [], 1, 7, 2, 22, [0], false)
def mm_Mod_isCell : pm := (9, mc_Mod_isCell, [], 2, 7, 2, 22, [2, 0], false)
def mm_Mod_isSlot : pm := (9, mc_Mod_isSlot, [], 1, 7, 2, 22, [0], false)
def mm_Mod_letsBy : pm := (9, mc_Mod_letsBy, [], 3, 0, 2, 20, [2, 0, 0], false)
def mm_Mod_makeStrings : pm := (9, mc_Mod_makeStrings, [7, 21], 3, 9, 2, 27, [2], false)
def mm_Mod_newStretch : pm := (9, mc_Mod_newStretch, [2], 3, 9, 2, 22, [2, 0], false)
def mm_Mod_out : pm := (9, mc_Mod_out, [], 2, 1, 2, 22, [2, 0], false)
def mm_Mod_send : pm := (9, mc_Mod_send, [44], 4, 0, 2, 22, [2, 0, 0], false)
def mm_Mod_settle : pm := (9, mc_Mod_settle, [98, 118], 1, 9, 2, 22, [2], false)
def mm_Mod_tickOnce : pm := (9, mc_Mod_tickOnce, [9, 36, 149], 7, 9, 2, 22, [2], false)
def mm_Mod_tie : pm := (9, mc_Mod_tie, [], 2, 0, 2, 22, [2, 0], false)
def mm_Mod_yardsBy : pm := (9, mc_Mod_yardsBy, [5, 57], 5, 0, 2, 27, [2, 0, 0], false)
def mm_Taps_lasts : pm := (10, mc_Taps_lasts, [], 1, 0, 2, 22, [0], false)
def mm_Taps_place : pm := (10, mc_Taps_place, [9], 3, 0, 2, 22, [0], false)
def mm_Book_init : pm := (0, mc_Book_init, [20, 36, 52, 83], 1, 9, 3, 32, [2], true)
def mm_Ear_hearOnce : pm := (1, mc_Ear_hearOnce, [21], 9, 0, 3, 47, [2, 0, 0], false)
def mm_Ear_spread : pm := (1, mc_Ear_spread, [13, 38, 70, 112], 7, 9, 3, 46, [2, 0, 0], false)
def mm_Line_handsOn : pm := (2, mc_Line_handsOn, [], 3, 0, 3, 45, [2, 2], false)
def mm_Line_leaves : pm := (2, mc_Line_leaves, [], 4, 0, 3, 52, [2, 2, 0, 0], false)
def mm_Line_snaps : pm := (2, mc_Line_snaps, [], 2, 7, 3, 45, [2, 2], false)
def mm_Row_move : pm := (4, mc_Row_move, [4], 5, 9, 3, 41, [2], false)
def mm_Row_pullAt : pm := (4, mc_Row_pullAt, [], 3, 0, 3, 41, [2, 0, 0], false)
def mm_Tape_readNext : pm := (6, mc_Tape_readNext, [0, 39, 73], 1, 9, 3, 40, [2], false)
def mm_Wish_apart : pm := (7, mc_Wish_apart, [38, 97, 163], 11, 0, 3, 42, [2, 0, 0], false)
def mm_Tin_band : pm := (8, mc_Tin_band, [29], 5, 0, 3, 44, [2, 0, 0, 0], false)
def mm_Tin_bend : pm := (8, mc_Tin_bend, [17], 2, 0, 3, 44, [2, 0], false)
def mm_Tin_isPair : pm := (8, mc_Tin_isPair, [], 3, 7, 3, 44, [2, 0, 0], false)
def mm_Tin_line : pm := (8, mc_Tin_line, [79], 5, 0, 3, 44, [2, 0, 0, 0, 0], false)
def mm_Tin_right : pm := (8, mc_Tin_right, [], 4, 0, 3, 44, [2, 0, 0, 0], false)
def mm_Tin_told : pm := (8, mc_Tin_told, [78], 2, 0, 3, 44, [2, 0], false)
def mm_Tin_write : pm := (8, mc_Tin_write, [], 4, 0, 3, 44, [2, 0, 0, 0], false)
def mm_Mod_init : pm := (9, mc_Mod_init, [23, 39, 55, 71, 87, 102, 117, 132, 149, 164, 180, 196, 212, 228, 244, 260, 276, 291], 1, 9, 3, 44, [2], true)
def mm_Mod_arePair : pm := (9, mc_Mod_arePair, [], 3, 7, 3, 44, [2, 0, 0], false)
def mm_Mod_band : pm := (9, mc_Mod_band, [20], 4, 0, 3, 44, [2, 0, 0, 0], false)
def mm_Mod_bears : pm := (9, mc_Mod_bears, [], 2, 0, 3, 44, [2, 0], false)
def mm_Mod_bend : pm := (9, mc_Mod_bend, [17], 2, 0, 3, 44, [2, 0], false)
def mm_Mod_cell : pm := (9, mc_Mod_cell, [], 4, 0, 3, 43, [2, 0, 0, 0], false)
def mm_Mod_comesTo : pm := (9, mc_Mod_comesTo, [39, 85, 124], 9, 0, 3, 44, [2, 0, 0, 0, 0, 0, 0], false)
def mm_Mod_goes : pm := (9, mc_Mod_goes, [], 3, 0, 3, 43, [2, 0, 0], false)
def mm_Mod_keep : pm := (9, mc_Mod_keep, [19, 54], 3, 0, 3, 42, [2, 0], false)
def mm_Mod_least : pm := (9, mc_Mod_least, [33], 7, 0, 3, 51, [2, 0, 0], false)
def mm_Mod_line : pm := (9, mc_Mod_line, [64], 5, 0, 3, 44, [2, 0, 0, 0, 0], false)
def mm_Mod_listen : pm := (9, mc_Mod_listen, [18, 42, 68], 10, 9, 3, 46, [2, 0, 0], false)
def mm_Mod_right_1 : pm := (9, mc_Mod_right_1, [87, 103], 6, 0, 3, 44, [2, 0, 0, 0], false)
def mm_Mod_stretch : pm := (9, mc_Mod_stretch, [], 2, 0, 3, 44, [2, 0], false)
def mm_Mod_take : pm := (9, mc_Mod_take, [24, 59], 3, 0, 3, 42, [2, 0], false)
def mm_Mod_tapRow : pm := (9, mc_Mod_tapRow, [], 3, 0, 3, 51, [2, 0, 0], false)
def mm_Mod_tick : pm := (9, mc_Mod_tick, [16], 3, 0, 3, 48, [2, 0], false)
def mm_Mod_told : pm := (9, mc_Mod_told, [], 2, 0, 3, 44, [2, 0], false)
def mm_Mod_write : pm := (9, mc_Mod_write, [82], 4, 0, 3, 44, [2, 0, 0, 0], false)
def mm_Taps_bits : pm := (10, mc_Taps_bits, [12, 32, 62], 5, 0, 3, 44, [0], false)
def mm_Taps_together : pm := (10, mc_Taps_together, [4, 14], 6, 0, 3, 42, [2, 0], false)
def mm_Ear_begin : pm := (1, mc_Ear_begin, [31, 43], 6, 9, 4, 67, [2, 2, 2], false)
def mm_Ear_goOn : pm := (1, mc_Ear_goOn, [6, 18], 8, 7, 4, 75, [2, 2, 2, 0], false)
def mm_Ear_hear : pm := (1, mc_Ear_hear, [8, 29, 51, 65], 6, 9, 4, 72, [2, 0, 0, 2], false)
def mm_Line_arrives : pm := (2, mc_Line_arrives, [], 4, 0, 4, 75, [2, 2, 0, 0], false)
def mm_Line_tiedOff : pm := (2, mc_Line_tiedOff, [], 6, 0, 4, 67, [2, 2, 0, 0, 0], false)
def mm_Str_readName : pm := (5, mc_Str_readName, [16], 4, 0, 4, 60, [2, 2, 0], false)
def mm_Str_readNumber : pm := (5, mc_Str_readNumber, [23, 44, 65, 132], 9, 0, 4, 60, [2, 2, 0, 0], false)
def mm_Tape_readNumbers : pm := (6, mc_Tape_readNumbers, [10, 71], 5, 0, 4, 60, [2, 2, 0], false)
def mm_Wish_search : pm := (7, mc_Wish_search, [16, 28, 117, 161], 8, 9, 4, 72, [2, 2, 0], false)
def mm_Tin_init : pm := (8, mc_Tin_init, [30, 56, 81, 102, 144], 2, 9, 4, 52, [2], true)
def mm_Tin_bears : pm := (8, mc_Tin_bears, [], 2, 0, 4, 67, [2, 0], false)
def mm_Tin_send : pm := (8, mc_Tin_send, [], 3, 0, 4, 63, [2, 0, 0], false)
def mm_Tin_tick : pm := (8, mc_Tin_tick, [16], 3, 0, 4, 65, [2, 0], false)
def mm_Tin_wish : pm := (8, mc_Tin_wish, [], 3, 0, 4, 66, [2, 0, 0], false)
def mm_Tin_yards : pm := (8, mc_Tin_yards, [], 3, 0, 4, 72, [2, 0, 0], false)
def mm_Mod_right_0 : pm := (9, mc_Mod_right_0, [], 3, 0, 4, 75, [2, 0, 0], false)
def mm_Mod_share : pm := (9, mc_Mod_share, [], 4, 0, 4, 72, [2, 0, 0, 0], false)
def mm_Mod_throughOf : pm := (9, mc_Mod_throughOf, [], 6, 0, 4, 72, [2, 0, 0, 0, 0, 0], false)
def mm_Mod_wish : pm := (9, mc_Mod_wish, [22, 38], 6, 0, 4, 66, [2, 0, 0], false)
def mm_Mod_yards : pm := (9, mc_Mod_yards, [], 3, 0, 4, 66, [2, 0, 0], false)
def mm_Taps_length : pm := (10, mc_Taps_length, [], 1, 0, 4, 68, [0], false)
def mm_Book_weigh : pm := (0, mc_Book_weigh, [12, 78], 7, 7, 5, 97, [2, 2, 0], false)
def mm_Ear_learn : pm := (1, mc_Ear_learn, [], 3, 7, 5, 102, [2, 2, 2], false)
def mm_Ear_leastOf : pm := (1, mc_Ear_leastOf, [6], 5, 0, 5, 97, [2, 0, 0], false)
def mm_Tape_isWord : pm := (6, mc_Tape_isWord, [28], 3, 7, 5, 85, [2, 3], false)
def mm_Tin_least : pm := (8, mc_Tin_least, [], 3, 0, 5, 99, [2, 0, 0], false)
def mm_Tin_level : pm := (8, mc_Tin_level, [], 3, 0, 5, 98, [2, 0, 0], false)
def mm_Tin_listened : pm := (8, mc_Tin_listened, [64], 7, 0, 5, 84, [2, 0, 0, 0], false)
def mm_Tin_longest : pm := (8, mc_Tin_longest, [66, 99], 7, 0, 5, 102, [2, 0, 0, 0], false)
def mm_Tin_share : pm := (8, mc_Tin_share, [], 4, 0, 5, 92, [2, 0, 0, 0], false)
def mm_Tin_tapRow : pm := (8, mc_Tin_tapRow, [], 3, 0, 5, 88, [2, 0, 0], false)
def mm_Tin_taps : pm := (8, mc_Tin_taps, [], 2, 0, 5, 84, [2], false)
def mm_Tin_through : pm := (8, mc_Tin_through, [], 3, 0, 5, 98, [2, 0, 0], false)
def mm_Mod_keyAt : pm := (9, mc_Mod_keyAt, [8, 52], 8, 0, 5, 85, [2, 0, 0], false)
def mm_Mod_makeLevels : pm := (9, mc_Mod_makeLevels, [3, 17], 7, 9, 5, 97, [2, 0, 0, 0], false)
def mm_Mod_through : pm := (9, mc_Mod_through, [], 3, 0, 5, 97, [2, 0, 0], false)
def mm_Mod_worst : pm := (9, mc_Mod_worst, [4], 5, 0, 5, 97, [2, 0], false)
def mm_Book_tryLaws : pm := (0, mc_Book_tryLaws, [33, 84, 137], 9, 9, 6, 124, [2, 2, 2, 2, 0], false)
def mm_Str_kindOf : pm := (5, mc_Str_kindOf, [], 1, 0, 6, 107, [2], false)
def mm_Tin_bestLoop : pm := (8, mc_Tin_bestLoop, [62], 7, 0, 6, 124, [2, 0], false)
def mm_Tin_bestStuff : pm := (8, mc_Tin_bestStuff, [15], 6, 0, 6, 124, [2], false)
def mm_Tin_bestTin : pm := (8, mc_Tin_bestTin, [15], 6, 0, 6, 124, [2], false)
def mm_Tin_list : pm := (8, mc_Tin_list, [53], 6, 0, 6, 124, [2, 0], false)
def mm_Tin_said : pm := (8, mc_Tin_said, [], 3, 0, 6, 124, [2, 0, 0], false)
def mm_Tin_takenFor : pm := (8, mc_Tin_takenFor, [], 4, 0, 6, 124, [2, 0, 0, 0], false)
def mm_Mod_best : pm := (9, mc_Mod_best, [40, 79], 6, 0, 6, 123, [2, 0], false)
def mm_Mod_lets : pm := (9, mc_Mod_lets, [23, 52], 5, 7, 6, 123, [2, 0, 0], false)
def mm_Mod_longest : pm := (9, mc_Mod_longest, [49], 5, 0, 6, 123, [2, 0, 0, 0], false)
def mm_Mod_makeOwn : pm := (9, mc_Mod_makeOwn, [], 1, 9, 6, 123, [2], false)
def mm_Mod_scan : pm := (9, mc_Mod_scan, [5, 80, 144, 185, 270], 4, 9, 6, 112, [2], false)
def mm_Str_readClause : pm := (5, mc_Str_readClause, [59, 88], 5, 0, 7, 127, [2, 2], false)
def mm_Tin_among : pm := (8, mc_Tin_among, [], 4, 0, 7, 147, [2, 0, 0, 0], false)
def mm_Tin_best : pm := (8, mc_Tin_best, [], 2, 0, 7, 149, [2, 0], false)
def mm_Tin_fit : pm := (8, mc_Tin_fit, [], 3, 0, 7, 152, [2, 0, 0], false)
def mm_Tin_table : pm := (8, mc_Tin_table, [], 3, 0, 7, 147, [2, 0, 0], false)
def mm_Mod_among : pm := (9, mc_Mod_among, [], 4, 0, 7, 143, [2, 0, 0, 0], false)
def mm_Mod_bestLoop : pm := (9, mc_Mod_bestLoop, [62], 7, 0, 7, 143, [2, 0], false)
def mm_Mod_fit : pm := (9, mc_Mod_fit, [44, 87, 112], 8, 0, 7, 147, [2, 0, 0], false)
def mm_Mod_level : pm := (9, mc_Mod_level, [], 3, 0, 7, 143, [2, 0, 0], false)
def mm_Mod_list : pm := (9, mc_Mod_list, [38], 6, 0, 7, 143, [2, 0], false)
def mm_Mod_readName : pm := (9, mc_Mod_readName, [42], 5, 7, 7, 135, [2, 0, 0], false)
def mm_Mod_readNumber : pm := (9, mc_Mod_readNumber, [], 3, 7, 7, 135, [2, 0, 0], false)
def mm_Mod_said : pm := (9, mc_Mod_said, [45, 89], 9, 0, 7, 143, [2, 0, 0], false)
def mm_Mod_table : pm := (9, mc_Mod_table, [], 3, 0, 7, 143, [2, 0, 0], false)
def mm_Mod_takeTape : pm := (9, mc_Mod_takeTape, [], 1, 9, 7, 135, [2], false)
def mm_Str_read : pm := (5, mc_Str_read, [11], 4, 0, 8, 151, [2, 2], false)
def mm_Mod_readNumbers : pm := (9, mc_Mod_readNumbers, [7], 5, 0, 8, 155, [2, 2, 0, 0], false)
def mm_Mod_readPlace : pm := (9, mc_Mod_readPlace, [58], 6, 7, 8, 157, [2, 2, 2, 0, 0], false)
def mm_Mod_readRow : pm := (9, mc_Mod_readRow, [3], 8, 7, 8, 157, [2, 2, 0, 0, 0, 0, 0], false)
def mm_Tin_street : pm := (8, mc_Tin_street, [34, 72], 2, 0, 9, 174, [2], false)
def mm_Mod_listened : pm := (9, mc_Mod_listened, [63], 7, 0, 9, 179, [2, 0, 0, 0], false)
def mm_Mod_readThing : pm := (9, mc_Mod_readThing, [262], 4, 7, 9, 184, [2, 0], false)
def mm_Mod_taps : pm := (9, mc_Mod_taps, [25, 36], 6, 0, 9, 179, [2], false)
def mm_Mod_readClause : pm := (9, mc_Mod_readClause, [16, 102], 2, 7, 10, 207, [2], false)
def mm_Mod_street : pm := (9, mc_Mod_street, [20], 2, 0, 11, 228, [2], false)
def mm_Law_law : pm := (11, mc_Law_law, [18, 204, 267, 290, 303, 326, 349, 392, 445, 468, 491, 504, 527, 560, 603, 636, 669, 712, 755, 778, 801, 824, 857, 880, 923, 956, 979, 1012, 1036, 1059, 1082, 1115, 1148, 1181, 1194, 1227, 1270, 1313, 1346, 1389, 1412], 4, 7, 12, 249, [5], false)
def px_cal : Nat → List (Nat × Nat × pm) := fun c => match c with
  | 0 => [(3, 5, mm_Tin_within), (39, 4, mm_Prod_init), (77, 1, mm_Ear_learn), (83, 1, mm_Book_weigh), (87, 1, mm_Prod_isAbove), (91, 1, mm_Prod_become), (95, 1, mm_Prod_beOne), (101, 1, mm_Ear_hear), (105, 1, mm_Book_writtenAsKnown), (109, 1, mm_Prod_times)]
  | 1 => [(3, 5, mm_Tin_within), (37, 1, mm_Ear_begin), (47, 1, mm_Ear_goOn), (57, 1, mm_Str_number), (64, 1, mm_Line_handsOn), (68, 1, mm_Str_ofBand), (71, 1, mm_Line_enters), (75, 1, mm_Line_overYards), (78, 1, mm_Line_leaves), (82, 0, mm_Line_asLevel), (86, 1, mm_Ear_thinkOf), (90, 1, mm_Ear_spread), (94, 1, mm_Ear_hearRest), (98, 1, mm_Ear_nearest), (105, 1, mm_Ear_soundsAsEarlier), (109, 1, mm_Ear_heardWith), (112, 1, mm_Ear_offFrom), (116, 0, mm_Math_abs), (121, 0, mm_Math_min), (125, 0, mm_Math_max), (131, 1, mm_Ear_hear), (143, 1, mm_Ear_noiseOf)]
  | 2 => [(3, 5, mm_Tin_within), (39, 1, mm_Str_number), (43, 0, mm_Math_max), (49, 1, mm_Line_strength), (53, 1, mm_Str_ofBand), (56, 0, mm_Math_abs), (60, 1, mm_Line_overBends), (64, 1, mm_Line_handsOn), (67, 1, mm_Line_enters), (70, 1, mm_Line_overYards), (73, 1, mm_Line_leaves), (77, 0, mm_Math_min)]
  | 3 => [(1, 5, mm_Tin_within)]
  | 4 => [(1, 5, mm_Tin_within), (38, 0, mm_Math_min), (44, 0, mm_Math_max), (47, 0, mm_Row_bounded), (51, 0, mm_Row_part)]
  | 5 => [(3, 5, mm_Tin_within), (25, 1, mm_Str_forget), (34, 1, mm_Tape_readNext), (40, 1, mm_Str_readClause), (47, 0, mm_Str_kindOf), (53, 0, mm_Str_isNamed), (57, 1, mm_Str_readName), (64, 1, mm_Str_readNumber), (78, 1, mm_Str_isOneAt), (82, 1, mm_Str_number), (87, 1, mm_Tape_isWord)]
  | 6 => [(3, 5, mm_Tin_within), (22, 0, mm_Tape_isBlank), (39, 0, mm_Tape_isLetter), (42, 1, mm_Tape_readWord), (45, 0, mm_Tape_isDigit), (48, 1, mm_Tape_readNumber), (53, 6, mm_Tin_within), (59, 7, mm_Tin_within), (63, 1, mm_Tape_readNext)]
  | 7 => [(3, 5, mm_Tin_within), (25, 0, mm_Integer_bitCount), (33, 1, mm_Str_number), (40, 0, mm_Wish_isBetween), (44, 0, mm_Math_min), (50, 0, mm_Math_max), (53, 0, mm_Wish_apart), (63, 1, mm_Wish_yardsOf), (66, 1, mm_Wish_grants), (70, 1, mm_Wish_reachOf), (74, 1, mm_Wish_isReached)]
  | 8 => [(1, 5, mm_Tin_within), (9, 4, mm_Tape_init), (18, 3, mm_Str_init), (28, 4, mm_Line_init), (35, 4, mm_Ear_init), (42, 4, mm_Wish_init), (49, 4, mm_Book_init), (56, 4, mm_Row_init), (78, 1, mm_Row_lay), (85, 0, mm_Tin_within), (92, 1, mm_Tape_put), (95, 1, mm_Str_read), (102, 1, mm_Line_begin), (105, 1, mm_Book_begin), (106, 1, mm_Wish_begin), (110, 1, mm_Str_number), (114, 1, mm_Tin_isOne), (118, 0, mm_Tin_isBand), (122, 1, mm_Str_ofBand), (149, 1, mm_Line_strength), (153, 1, mm_Line_handsOn), (156, 1, mm_Line_snaps), (160, 1, mm_Tin_lineLacks), (164, 1, mm_Line_arrives), (168, 1, mm_Line_tiedOff), (172, 0, mm_Line_asLevel), (176, 1, mm_Tin_allWords), (180, 1, mm_Tin_takenFor), (183, 1, mm_Ear_learn), (190, 1, mm_Ear_hear), (195, 1, mm_Ear_begin), (198, 1, mm_Ear_goOn), (202, 1, mm_Ear_allWays), (205, 1, mm_Tin_bestStuff), (208, 1, mm_Tin_bestTin), (211, 1, mm_Ear_leastOf), (215, 0, mm_Integer_bitCount), (220, 1, mm_Ear_hearOnce), (232, 1, mm_Row_pullAt), (235, 1, mm_Row_move), (257, 1, mm_Row_become), (261, 1, mm_Tin_isPair), (264, 0, mm_Wish_apart), (267, 0, mm_Math_min), (272, 0, mm_Math_max), (275, 0, mm_Wish_pairOf), (278, 1, mm_Wish_add), (281, 1, mm_Wish_search), (291, 1, mm_Tape_readNumbers), (295, 0, mm_Taps_together), (298, 0, mm_Taps_lasts), (301, 0, mm_Taps_length), (304, 0, mm_Taps_bits), (310, 1, mm_Tin_isStep), (316, 1, mm_Book_note), (322, 1, mm_Book_mend), (325, 1, mm_Book_tryLaws), (339, 0, mm_Math_abs)]
  | 9 => [(1, 5, mm_Tin_within), (125, 1, mm_Mod_begin), (128, 1, mm_Mod_settle), (131, 1, mm_Mod_newStretch), (143, 6, mm_Tin_within), (149, 7, mm_Tin_within), (153, 1, mm_Mod_byteAt), (169, 0, mm_Mod_isSmall), (181, 1, mm_Mod_keyAt), (185, 0, mm_Mod_isDigit), (194, 1, mm_Mod_fails), (197, 0, mm_Mod_in), (204, 1, mm_Mod_scan), (210, 0, mm_Mod_comes), (244, 1, mm_Mod_readNumber), (248, 1, mm_Mod_readName), (251, 1, mm_Mod_readRow), (255, 1, mm_Mod_readPlace), (259, 1, mm_Mod_readThing), (262, 1, mm_Mod_takeTape), (265, 1, mm_Mod_readClause), (272, 1, mm_Mod_is), (275, 0, mm_Mod_isBand), (278, 1, mm_Mod_bearsOf), (281, 1, mm_Mod_hasStuff), (284, 1, mm_Mod_handsOf), (287, 0, mm_Mod_plain), (290, 1, mm_Mod_letsBy), (293, 1, mm_Mod_comesTo), (297, 1, mm_Mod_hasLine), (300, 1, mm_Mod_throughOf), (304, 1, mm_Mod_makeLevels), (308, 1, mm_Mod_makeOwn), (311, 0, mm_Mod_heard), (314, 1, mm_Mod_ear), (317, 1, mm_Mod_listen), (321, 1, mm_Mod_allWords), (325, 1, mm_Mod_right_0), (328, 1, mm_Mod_allWays), (331, 1, mm_Mod_worst), (334, 0, mm_Mod_bits), (345, 1, mm_Mod_isCell), (350, 0, mm_Mod_bounded), (353, 1, mm_Mod_toRight), (356, 1, mm_Mod_toLeft), (359, 1, mm_Mod_tickOnce), (365, 0, mm_Mod_isSlot), (368, 1, mm_Mod_arePair), (371, 1, mm_Mod_isBarred), (374, 1, mm_Mod_yardsOf), (380, 1, mm_Mod_isGranted), (383, 1, mm_Mod_makeStrings), (386, 1, mm_Mod_yardsBy), (389, 1, mm_Mod_rowsOf), (401, 1, mm_Mod_findTaps), (404, 1, mm_Mod_readNumbers), (410, 1, mm_Mod_wroteAt), (413, 1, mm_Mod_times), (416, 1, mm_Mod_lets), (419, 1, mm_Mod_isGreater)]
  | 10 => [(13, 0, mm_Taps_beats), (17, 0, mm_Taps_bits), (20, 0, mm_Integer_bitCount), (25, 0, mm_Taps_place), (28, 0, mm_Taps_lasts)]
  | 11 => [(9, 3, mm_Tin_init), (12, 3, mm_Mod_init), (13, 1, mm_Tin_feed), (17, 1, mm_Mod_feed), (18, 1, mm_Tin_end), (22, 1, mm_Mod_end), (23, 1, mm_Tin_street), (27, 1, mm_Mod_street), (28, 1, mm_Tin_fault), (31, 1, mm_Mod_fault), (32, 1, mm_Tin_told), (35, 1, mm_Mod_told), (36, 1, mm_Tin_band), (40, 1, mm_Mod_band), (41, 1, mm_Tin_line), (45, 1, mm_Mod_line), (46, 1, mm_Tin_bend), (49, 1, mm_Mod_bend), (50, 1, mm_Tin_tie), (53, 1, mm_Mod_tie), (54, 1, mm_Tin_straighten), (57, 1, mm_Mod_straighten), (58, 1, mm_Tin_bears), (61, 1, mm_Mod_bears), (62, 1, mm_Tin_through), (66, 1, mm_Mod_through), (67, 1, mm_Tin_share), (70, 1, mm_Mod_share), (71, 1, mm_Tin_level), (74, 1, mm_Mod_level), (75, 1, mm_Tin_table), (78, 1, mm_Mod_table), (79, 1, mm_Tin_among), (82, 1, mm_Mod_among), (83, 1, mm_Tin_longest), (86, 1, mm_Mod_longest), (87, 1, mm_Tin_best), (90, 1, mm_Mod_best), (91, 1, mm_Tin_bestLoop), (94, 1, mm_Mod_bestLoop), (95, 1, mm_Tin_list), (98, 1, mm_Mod_list), (99, 1, mm_Tin_said), (102, 1, mm_Mod_said), (103, 1, mm_Tin_stretch), (106, 1, mm_Mod_stretch), (107, 1, mm_Tin_cell), (110, 1, mm_Mod_cell), (111, 1, mm_Tin_send), (114, 1, mm_Mod_send), (115, 1, mm_Tin_tick), (118, 1, mm_Mod_tick), (119, 1, mm_Tin_goes), (122, 1, mm_Mod_goes), (123, 1, mm_Tin_out), (127, 1, mm_Mod_out), (128, 1, mm_Tin_keep), (131, 1, mm_Mod_keep), (132, 1, mm_Tin_take), (135, 1, mm_Mod_take), (136, 1, mm_Tin_yards), (139, 1, mm_Mod_yards), (140, 1, mm_Tin_wish), (143, 1, mm_Mod_wish), (144, 1, mm_Tin_least), (147, 1, mm_Mod_least), (148, 1, mm_Tin_taps), (151, 1, mm_Mod_taps), (152, 1, mm_Tin_tapRow), (155, 1, mm_Mod_tapRow), (156, 1, mm_Tin_write), (159, 1, mm_Mod_write), (160, 1, mm_Tin_right), (163, 1, mm_Mod_right_1), (164, 1, mm_Tin_fit), (167, 1, mm_Mod_fit), (168, 1, mm_Tin_listened), (171, 1, mm_Mod_listened), (172, 1, mm_Tin_count), (175, 1, mm_Mod_count)]
  | _ => []
def px_fld : Nat → List (Nat × Nat × Nat × Nat × Bool) := fun c => match c with
  | 0 => [(11, 0, 3, 2, true), (15, 0, 4, 2, true), (18, 0, 5, 2, true), (21, 0, 6, 2, true), (24, 0, 7, 2, true), (27, 0, 8, 2, true), (34, 0, 12, 2, true), (40, 0, 13, 2, true), (44, 0, 14, 2, true), (47, 0, 0, 0, false), (51, 0, 1, 0, false), (54, 0, 2, 0, false), (57, 2, 0, 0, false), (62, 2, 2, 0, false), (65, 0, 9, 0, false), (68, 0, 10, 0, false), (71, 0, 11, 0, false), (74, 5, 1, 2, true), (98, 1, 0, 0, false)]
  | 1 => [(13, 1, 2, 2, true), (16, 1, 3, 2, true), (19, 1, 4, 2, true), (23, 1, 6, 2, true), (26, 1, 7, 2, true), (31, 1, 8, 2, true), (34, 1, 9, 2, true), (41, 2, 2, 0, false), (51, 5, 1, 2, true), (54, 1, 0, 0, false), (61, 1, 1, 0, false), (102, 1, 5, 0, false)]
  | 2 => [(9, 2, 2, 0, false), (15, 2, 5, 2, true), (19, 2, 7, 2, true), (22, 2, 0, 0, false), (25, 2, 1, 0, false), (28, 2, 3, 0, false), (31, 2, 4, 0, false), (34, 2, 6, 0, false)]
  | 3 => [(9, 3, 0, 2, true)]
  | 4 => [(9, 4, 4, 2, true), (13, 4, 5, 2, true), (16, 4, 6, 2, true), (19, 4, 7, 2, true), (22, 4, 0, 0, false), (26, 4, 1, 0, false), (29, 4, 2, 1, false), (33, 4, 3, 1, false)]
  | 5 => [(11, 5, 1, 2, true), (17, 5, 2, 2, true), (22, 5, 3, 2, true), (28, 6, 4, 0, false), (37, 6, 2, 0, false), (44, 5, 0, 0, false), (68, 6, 5, 1, false), (75, 6, 6, 0, false)]
  | 6 => [(11, 6, 0, 2, true), (15, 6, 1, 0, false), (19, 6, 4, 0, false), (26, 6, 3, 0, false), (29, 6, 5, 1, false), (33, 6, 6, 0, false), (36, 6, 2, 0, false)]
  | 7 => [(11, 7, 3, 2, true), (15, 7, 4, 2, true), (18, 7, 5, 2, true), (21, 7, 0, 0, false), (37, 5, 1, 2, true), (57, 7, 1, 0, false), (60, 7, 2, 0, false)]
  | 8 => [(10, 8, 0, 2, true), (19, 8, 8, 2, false), (23, 8, 9, 2, false), (29, 8, 1, 2, true), (36, 8, 2, 2, true), (43, 8, 3, 2, true), (50, 8, 4, 2, true), (57, 8, 5, 2, true), (61, 8, 6, 2, true), (67, 8, 7, 2, true), (71, 8, 10, 0, false), (75, 8, 11, 0, false), (82, 5, 1, 2, true), (89, 6, 1, 0, false), (99, 6, 3, 0, false), (107, 5, 0, 0, false), (125, 2, 0, 0, false), (128, 2, 1, 0, false), (131, 2, 2, 0, false), (134, 2, 3, 0, false), (137, 2, 4, 0, false), (140, 2, 5, 2, true), (143, 2, 6, 0, false), (146, 2, 7, 2, true), (187, 1, 4, 2, true), (223, 4, 0, 0, false), (226, 4, 6, 2, true), (229, 4, 7, 2, true), (238, 4, 1, 0, false), (242, 4, 4, 2, true), (245, 4, 5, 2, true), (250, 4, 2, 1, false), (254, 4, 3, 1, false), (285, 7, 1, 0, false), (288, 7, 2, 0, false), (307, 0, 0, 0, false), (313, 0, 1, 0, false), (319, 0, 2, 0, false), (329, 0, 9, 0, false), (332, 0, 10, 0, false), (335, 0, 11, 0, false), (342, 7, 0, 0, false)]
  | 9 => [(7, 9, 0, 2, true), (13, 9, 9, 0, false), (17, 9, 12, 2, true), (21, 9, 13, 2, true), (25, 9, 14, 2, true), (28, 9, 15, 2, true), (31, 9, 16, 2, true), (34, 9, 17, 2, true), (37, 9, 18, 2, true), (40, 9, 19, 2, true), (43, 9, 20, 2, true), (46, 9, 21, 2, true), (49, 9, 30, 2, true), (52, 9, 31, 2, true), (55, 9, 32, 2, true), (58, 9, 33, 2, true), (61, 9, 34, 2, true), (64, 9, 35, 2, true), (67, 9, 36, 2, true), (70, 9, 37, 2, true), (74, 9, 38, 2, true), (77, 9, 39, 2, true), (80, 9, 41, 2, true), (83, 9, 42, 2, true), (86, 9, 44, 2, true), (89, 9, 45, 2, true), (92, 9, 46, 2, true), (95, 9, 50, 2, true), (98, 9, 54, 2, true), (101, 9, 55, 2, true), (104, 9, 56, 2, true), (107, 9, 57, 2, true), (110, 9, 58, 2, true), (113, 9, 59, 2, true), (116, 9, 60, 2, true), (119, 9, 61, 2, true), (122, 9, 62, 2, true), (135, 9, 1, 0, false), (138, 9, 2, 0, false), (157, 9, 6, 0, false), (160, 9, 5, 0, false), (163, 9, 4, 0, false), (166, 9, 3, 0, false), (173, 9, 10, 1, false), (188, 9, 7, 0, false), (191, 9, 8, 0, false), (201, 9, 11, 0, false), (207, 9, 23, 0, false), (214, 9, 24, 0, false), (217, 9, 25, 0, false), (220, 9, 26, 0, false), (223, 9, 27, 0, false), (226, 9, 28, 0, false), (229, 9, 29, 0, false), (232, 9, 51, 0, false), (235, 9, 52, 0, false), (238, 9, 53, 0, false), (241, 9, 40, 0, false), (269, 9, 22, 0, false), (377, 9, 43, 0, false), (392, 9, 47, 0, false), (395, 9, 48, 0, false), (398, 9, 49, 0, false)]
  | _ => []
def px_con : Nat → List (Nat × pv) := fun c => match c with
  | 1 => [(128, (1, 9)), (130, (0, 65536)), (135, (1, 1103515245)), (137, (1, 12345)), (139, (1, 2147483648)), (141, (1, 65536))]
  | 3 => [(13, (1, 4294967295))]
  | 4 => [(36, (0, (-999999))), (37, (0, 999999))]
  | 5 => [(85, (3, 0)), (91, (3, 1)), (93, (3, 2)), (94, (3, 3)), (96, (3, 4)), (98, (3, 5)), (100, (3, 6)), (102, (3, 7)), (104, (3, 8))]
  | 6 => [(51, (1, 32))]
  | 8 => [(194, (0, 65536)), (241, (0, (-2000000000))), (248, (1, (-2000000000))), (338, (0, 99999))]
  | 9 => [(141, (3, 9)), (177, (1, 32)), (179, (1, 97)), (324, (0, 65536)), (337, (1, 1103515245)), (339, (1, 12345)), (341, (1, 2147483648)), (343, (1, 65536)), (348, (0, 999999)), (349, (0, (-999999))), (362, (0, (-2000000000))), (363, (1, (-2000000000))), (408, (1, 10000)), (422, (0, 99999))]
  | 12 => [(265, (0, 1431655765)), (266, (0, 858993459)), (267, (0, 252645135))]
  | _ => []
def px_stt : Nat → List (Nat × Nat) := fun c => match c with
  | 5 => [(50, 0), (61, 1), (72, 2)]
  | 10 => [(7, 3)]
  | _ => []
def px_ncl : Nat → List (Nat × Nat) := fun c => match c with
  | 0 => [(37, 3)]
  | 8 => [(7, 6), (16, 5), (26, 2), (33, 1), (40, 7), (47, 0), (54, 4)]
  | 11 => [(7, 8), (10, 9)]
  | _ => []
def px_mar : Nat → List (Nat × Nat × Nat) := fun c => match c with
  | 0 => [(32, 4, 0)]
  | 1 => [(11, 4, 0), (29, 5, 1)]
  | 5 => [(15, 5, 1), (20, 4, 0)]
  | _ => []
def px_anr : Nat → List (Nat × Nat) := fun c => match c with
  | 8 => [(54, 6)]
  | _ => []
def px_nfl : Nat → Nat := fun c => match c with
  | 0 => 15
  | 1 => 10
  | 2 => 8
  | 3 => 1
  | 4 => 8
  | 5 => 4
  | 6 => 7
  | 7 => 6
  | 8 => 12
  | 9 => 63
  | _ => 0
def px_sar : Nat → List Int := fun c => match c with
  | 0 => [4, 4, 6, 5, 4, 4, 1, 1, 1]
  | 1 => [5, 4, 4, 2, 2, 5, 1, 1, 1]
  | 2 => [999, 100, 9, 99, 99, 9, 90, 50, 3]
  | 3 => [1, 1, 2, 3, 5, 8, 13, 21, 34, 55]
  | _ => []
def px_str : Nat → List Int := fun c => match c with
  | 0 => [115, 116, 117, 102, 102]
  | 1 => [116, 105, 110]
  | 2 => [119, 111, 114, 100]
  | 3 => [104, 111, 117, 115, 101]
  | 4 => [112, 111, 115, 116]
  | 5 => [108, 111, 111, 112]
  | 6 => [119, 101, 116]
  | 7 => [119, 105, 110, 100]
  | 8 => [110, 111, 105, 115, 101]
  | 9 => [115, 116, 117, 102, 102, 32, 116, 105, 110, 32, 119, 111, 114, 100, 32, 104, 111, 117, 115, 101, 32, 112, 111, 115, 116, 32, 108, 111, 111, 112, 32, 119, 101, 116, 32, 119, 105, 110, 100, 32, 110, 111, 105, 115, 101, 32]
  | _ => []
end
section
def px_lst : List Int → Nat → Int
  | [], _ => 0
  | a :: _, 0 => a
  | _ :: l, k + 1 => px_lst l k
def px_gl (l : List Int) (i : Int) : Bool := decide (0 ≤ i) && decide (i < (l.length : Int))
/-- a call: the arguments are taken, the receiver looked at -/
def px_inv (m : pm) (idx : Nat) (kinds : List Nat) (pc : Nat) (ls st : List pv) (w : pw) : Option px_A := match px_find (px_cal (px_own m)) idx with
  | some (5, _) => bif px_mem kinds 5 then (px_r1 st fun _ st => bif Nat.ble (px_cat st + 12) (px_loc m) && Nat.ble 2 (px_dep m) then px_nx pc ls st w else none) else none
  | some (6, _) => bif px_mem kinds 1 && (Nat.blt 1 (px_dep m) && Nat.ble 39 (px_loc m)) then (match st with
    | (3, x) :: st => bif Nat.ble (px_cat st) 8 then px_nx pc ls ((0, ((px_str x.toNat).length : Int)) :: st) w else none
    | _ => none) else none
  | some (7, _) => bif px_mem kinds 1 && (Nat.blt 4 (px_dep m) && Nat.ble 85 (px_loc m)) then (match st with
    | (0, i) :: (3, x) :: st => bif Nat.ble (px_cat st) 8 then px_gd (px_gl (px_str x.toNat) i) pc ls ((0, px_lst (px_str x.toNat) i.toNat) :: st) w else none
    | _ => none) else none
  | some (k, t) => bif px_mem kinds k && (Nat.blt (px_dep t) (px_dep m) && Nat.ble (8 + (px_max t + 11) + px_loc t) (px_loc m)) then (match px_pop (px_arg t).length [] st with
    | some (as, st) => bif px_tys as (px_arg t) && Nat.ble (px_cat st) 8 then some (.inr (.inr (.inr (.inr (bif Nat.beq k 0 then true else px_go w (px_nth as 0).2 (px_own t), t, as, pc, ls, st, w))))) else none
    | none => none) else none
  | none => none
def px_act (m : pm) (pc : Nat) (i : Instr) (n : Nat) (ls st : List pv) (w : pw) : Option px_A := match i with
  | .iconst x => px_gd (decide (-2 ≤ x) && decide (x < 6)) (pc + n) ls ((0, x) :: st) w
  | .bipush x => px_gd (decide (-128 ≤ x) && decide (x < 128)) (pc + n) ls ((0, x) :: st) w
  | .sipush x => px_gd (decide (-32768 ≤ x) && decide (x < 32768)) (pc + n) ls ((0, x) :: st) w
  | .lconst x => px_nx (pc + n) ls ((1, ((x : Nat) : Int)) :: st) w
  | .ldc x => match px_find (px_con (px_own m)) x with
    | some (t, v) => bif Nat.beq t 0 || Nat.beq t 3 then px_nx (pc + n) ls ((t, v) :: st) w else none
    | none => none
  | .ldc_w x => match px_find (px_con (px_own m)) x with
    | some (t, v) => bif Nat.beq t 0 then px_nx (pc + n) ls ((t, v) :: st) w else none
    | none => none
  | .ldc2_w x => match px_find (px_con (px_own m)) x with
    | some (t, v) => bif Nat.beq t 1 then px_nx (pc + n) ls ((t, v) :: st) w else none
    | none => none
  | .iload x => px_ld 0 x (pc + n) ls st w
  | .iload_n x => px_ld 0 x (pc + n) ls st w
  | .lload x => px_ld 1 x (pc + n) ls st w
  | .lload_n x => px_ld 1 x (pc + n) ls st w
  | .aload x => px_lda x (pc + n) ls st w
  | .aload_n x => px_lda x (pc + n) ls st w
  | .istore x => px_sto m 0 x (pc + n) ls st w
  | .istore_n x => px_sto m 0 x (pc + n) ls st w
  | .lstore x => px_sto m 1 x (pc + n) ls st w
  | .lstore_n x => px_sto m 1 x (pc + n) ls st w
  | .astore x => px_sta' m x (pc + n) ls st w
  | .astore_n x => px_sta' m x (pc + n) ls st w
  | .iinc x c => bif Nat.beq (px_nth ls x).1 0 && (Nat.blt x (px_max m) && (Nat.beq n 3 && (decide (-128 ≤ c) && decide (c < 128)))) then (px_frc (px_st1 ls x (0, px_w ((px_nth ls x).2 + c))) fun ls => px_nx (pc + n) ls st w) else none
  | .iadd => px_i2 st fun x y st => px_nx (pc + n) ls ((0, px_w (x + y)) :: st) w
  | .isub => px_i2 st fun x y st => px_nx (pc + n) ls ((0, px_w (x - y)) :: st) w
  | .imul => px_i2 st fun x y st => px_nx (pc + n) ls ((0, px_w (x * y)) :: st) w
  | .idiv => px_i2 st fun x y st => px_gd (!decide (y = 0)) (pc + n) ls ((0, px_w (Int.tdiv x y)) :: st) w
  | .irem => px_i2 st fun x y st => px_gd (!decide (y = 0)) (pc + n) ls ((0, Int.tmod x y) :: st) w
  | .ineg => px_i1 st fun x st => px_nx (pc + n) ls ((0, px_w (-x)) :: st) w
  | .iand => px_i2 st fun x y st => px_nx (pc + n) ls ((0, px_and x y) :: st) w
  | .ior => px_i2 st fun x y st => px_nx (pc + n) ls ((0, px_or x y) :: st) w
  | .ishl => px_i2 st fun x y st => px_nx (pc + n) ls ((0, px_shl x y) :: st) w
  | .ishr => px_i2 st fun x y st => px_nx (pc + n) ls ((0, px_shr x y) :: st) w
  | .iushr => px_i2 st fun x y st => px_nx (pc + n) ls ((0, px_ush x y) :: st) w
  | .ladd => px_l2 st fun x y st => px_nx (pc + n) ls ((1, px_wl (x + y)) :: st) w
  | .lsub => px_l2 st fun x y st => px_nx (pc + n) ls ((1, px_wl (x - y)) :: st) w
  | .lmul => px_l2 st fun x y st => px_nx (pc + n) ls ((1, px_wl (x * y)) :: st) w
  | .ldiv => px_l2 st fun x y st => px_gd (!decide (y = 0)) (pc + n) ls ((1, px_wl (Int.tdiv x y)) :: st) w
  | .lrem => px_l2 st fun x y st => px_gd (!decide (y = 0)) (pc + n) ls ((1, Int.tmod x y) :: st) w
  | .land => px_l2 st fun x y st => px_nx (pc + n) ls ((1, px_land x y) :: st) w
  | .lshl => px_li st fun x y st => px_nx (pc + n) ls ((1, px_lshl x y) :: st) w
  | .lshr => px_li st fun x y st => px_nx (pc + n) ls ((1, px_lshr x y) :: st) w
  | .lushr => px_li st fun x y st => px_nx (pc + n) ls ((1, px_lush x y) :: st) w
  | .lcmp => px_l2 st fun x y st => px_nx (pc + n) ls ((0, px_cmp x y) :: st) w
  | .i2l => px_i1 st fun x st => px_nx (pc + n) ls ((1, x) :: st) w
  | .l2i => px_l1 st fun x st => px_nx (pc + n) ls ((0, px_w x) :: st) w
  | .i2b => px_i1 st fun x st => px_nx (pc + n) ls ((0, px_wb x) :: st) w
  | .dup => match st with
    | (t, x) :: st => bif Nat.beq t 1 then none else px_nx (pc + n) ls ((t, x) :: (t, x) :: st) w
    | _ => none
  | .dup2 => match st with
    | (1, x) :: st => px_nx (pc + n) ls ((1, x) :: (1, x) :: st) w
    | (0, x) :: (2, y) :: st => px_nx (pc + n) ls ((0, x) :: (2, y) :: (0, x) :: (2, y) :: st) w
    | _ => none
  | .pop => match st with
    | (t, _) :: st => bif Nat.beq t 1 then none else px_nx (pc + n) ls st w
    | _ => none
  | .goto off => match px_tgt pc off with
    | some t => px_nx t ls st w
    | none => none
  | .ifCond c off => px_i1 st fun x st => px_br pc off (pc + n) ls w (px_ccd c) x 0 st
  | .if_icmp c off => px_i2 st fun x y st => px_br pc off (pc + n) ls w (px_ccd c) x y st
  | .tableswitch d lo hi offs => px_i1 st fun x st => match px_tgt pc d, px_swc pc lo offs.toList with
    | some d, some l => bif decide (hi = lo + (l.length : Int) - 1) then some (.inr (.inr (.inr (.inl (x, l, d, ls, st, w))))) else none
    | _, _ => none
  | .getfield x => px_r1 st fun r st => match px_find (px_fld (px_own m)) x with
    | some (c, j, t, _) => px_gd (px_go w r c) (pc + n) ls ((t, px_rd w r j) :: st) w
    | none => none
  | .putfield x => match st with
    | (t, v) :: (2, r) :: st => match px_find (px_fld (px_own m)) x with
      | some (c, j, t', f) => bif Nat.beq t t' && (!f || (px_ini m && Nat.beq c (px_own m))) then px_gd (px_go w r c) (pc + n) ls st (px_wr w r j v) else none
      | none => none
    | _ => none
  | .getstatic x => match px_find (px_stt (px_own m)) x with
    | some s => px_nx (pc + n) ls ((4, (s : Int)) :: st) w
    | none => none
  | .arraylength => match st with
    | (2, r) :: st => px_gd (Nat.ble (px_kd w r).1 6) (pc + n) ls ((0, ((px_kd w r).2 : Int)) :: st) w
    | (4, s) :: st => px_nx (pc + n) ls ((0, ((px_sar s.toNat).length : Int)) :: st) w
    | (5, l) :: st => px_nx (pc + n) ls ((0, l) :: st) w
    | _ => none
  | .iaload => match st with
    | (0, i) :: (2, r) :: st => px_gd (px_ga w 0 r i) (pc + n) ls ((0, px_rd w r i.toNat) :: st) w
    | (0, i) :: (4, s) :: st => px_gd (px_gl (px_sar s.toNat) i) (pc + n) ls ((0, px_lst (px_sar s.toNat) i.toNat) :: st) w
    | (0, i) :: (5, l) :: st => px_gd (decide (0 ≤ i) && decide (i < l)) (pc + n) ls ((0, px_rd w 0 i.toNat) :: st) w
    | _ => none
  | .baload => match st with
    | (0, i) :: (2, r) :: st => px_gd (px_ga w 2 r i || px_ga w 3 r i) (pc + n) ls ((0, px_rd w r i.toNat) :: st) w
    | _ => none
  | .laload => match st with
    | (0, i) :: (2, r) :: st => px_gd (px_ga w 1 r i) (pc + n) ls ((1, px_rd w r i.toNat) :: st) w
    | _ => none
  | .aaload => match st with
    | (0, i) :: (2, r) :: st => px_gd (px_ga w 4 r i || (px_ga w 5 r i || px_ga w 6 r i)) (pc + n) ls ((2, px_rd w r i.toNat) :: st) w
    | _ => none
  | .iastore => match st with
    | (0, x) :: (0, i) :: (2, r) :: st => px_gd (px_ga w 0 r i) (pc + n) ls st (px_wr w r i.toNat x)
    | _ => none
  | .bastore => match st with
    | (0, x) :: (0, i) :: (2, r) :: st => px_gd (px_gb w r i x) (pc + n) ls st (px_wr w r i.toNat x)
    | _ => none
  | .lastore => match st with
    | (1, x) :: (0, i) :: (2, r) :: st => px_gd (px_ga w 1 r i) (pc + n) ls st (px_wr w r i.toNat x)
    | _ => none
  | .aastore => match st with
    | (2, x) :: (0, i) :: (2, r) :: st => px_gd (px_ga w 6 r i && px_go w x 4) (pc + n) ls st (px_wr w r i.toNat x)
    | _ => none
  | .new x => match px_find (px_ncl (px_own m)) x with
    | some c => px_nx (pc + n) ls ((2, (w.1.length : Int)) :: st) (px_al w (10 + c, px_nfl c))
    | none => none
  | .newarray a => px_i1 st fun x st => match px_aty a with
    | some t => px_gd (decide (0 ≤ x) && decide (x < 1000)) (pc + n) ls ((2, (w.1.length : Int)) :: st) (px_al w (t, x.toNat))
    | none => none
  | .anewarray x => px_i1 st fun k st => match px_find (px_anr (px_own m)) x with
    | some t => px_gd (decide (0 ≤ k) && decide (k < 1000)) (pc + n) ls ((2, (w.1.length : Int)) :: st) (px_al w (t, k.toNat))
    | none => none
  | .multianewarray x d => px_i2 st fun a b st => match px_find (px_mar (px_own m)) x with
    | some (o, i) => bif Nat.beq d 2 then px_gd ((decide (0 ≤ a) && decide (a < 1000)) && (decide (0 ≤ b) && decide (b < 1000))) (pc + n) ls ((2, (w.1.length : Int)) :: st) (px_al2 w o i a.toNat b.toNat) else none
    | none => none
  | .invokestatic x => px_inv m x [0] (pc + n) ls st w
  | .invokevirtual x => px_inv m x [1] (pc + n) ls st w
  | .invokespecial x => px_inv m x [3, 4, 5] (pc + n) ls st w
  | .ireturn => match st with
    | (0, x) :: [] => bif Nat.beq (px_ret m) 0 then some (.inr (.inl (true, x, w))) else bif Nat.beq (px_ret m) 7 then some (.inr (.inl (decide (0 ≤ x) && decide (x < 2), x, w))) else none
    | _ => none
  | .lreturn => match st with
    | (1, x) :: [] => bif Nat.beq (px_ret m) 1 then some (.inr (.inl (true, x, w))) else none
    | _ => none
  | .return_ => match st with
    | [] => bif Nat.beq (px_ret m) 9 then some (.inr (.inl (true, 0, w))) else none
    | _ => none
  | _ => none
def px_psh (t : Nat) (x : Int) (st : List pv) : List pv := bif Nat.beq t 9 then st else bif Nat.beq t 7 then (0, x) :: st else (t, x) :: st
def px_if (c : Nat) (x y : Int) (A B : Option pr) : Option pr := match c with
  | 0 => if x = y then A else B
  | 1 => if x = y then B else A
  | 2 => if x < y then A else B
  | 3 => if x < y then B else A
  | 4 => if y < x then A else B
  | _ => if y < x then B else A
def px_sw (x : Int) (B : Option pr) (J : Nat → Option pr) : List (Int × Nat) → Option pr
  | [] => B
  | (k, t) :: l => if x = k then J t else px_sw x B J l
def px_j (F : pq → Option pr) (m : pm) (K : Nat → List pv → List pv → pw → Option pr) (pc : Nat) (ls st : List pv) (w : pw) : Option pr := bif px_mem (px_lab m) pc then F (m, pc, ls, st, w) else K pc ls st w
def px_on (F : pq → Option pr) (m : pm) (K : Nat → List pv → List pv → pw → Option pr) (a : px_A) : Option pr := match a with
  | .inl (g, pc, ls, st, w) => if g = true then px_j F m K pc ls st w else none
  | .inr (.inl (g, x, w)) => if g = true then some (x, w) else none
  | .inr (.inr (.inl (c, x, y, t, f, ls, st, w))) => px_if c x y (px_j F m K t ls st w) (px_j F m K f ls st w)
  | .inr (.inr (.inr (.inl (x, l, d, ls, st, w)))) => px_sw x (px_j F m K d ls st w) (fun t => px_j F m K t ls st w) l
  | .inr (.inr (.inr (.inr (g, t, as, pc, ls, st, w)))) => if g = true then (F (t, 0, px_ent t as, [], w)).bind fun r => px_j F m K pc ls (px_psh (px_ret t) r.1 st) r.2 else none
def px_s1 (F : pq → Option pr) (m : pm) (K : Nat → List pv → List pv → pw → Option pr) (pc : Nat) (ls st : List pv) (w : pw) : Option pr := match px_find (px_cod m) pc with
  | some (i, n) => match px_act m pc i n ls st w with
    | some a => px_on F m K a
    | none => none
  | none => none
noncomputable def px_blk (F : pq → Option pr) (m : pm) (k : Nat) : Nat → List pv → List pv → pw → Option pr := Nat.rec (fun _ _ _ _ => none) (fun _ K => px_s1 F m K) k
noncomputable def px_run (n : Nat) : pq → Option pr := Nat.rec (fun _ => none) (fun _ F q => px_blk F q.1 400 q.2.1 q.2.2.1 q.2.2.2.1 q.2.2.2.2) n
end
section
/-! The machine without a bound: what some number of rounds answers. -/
def px_le (F G : pq → Option pr) : Prop := ∀ q r, F q = some r → G q = some r
theorem px_ite_m {p : Prop} [Decidable p] {A B A' B' : Option pr} {r : pr} (ha : A = some r → A' = some r) (hb : B = some r → B' = some r) (h : (if p then A else B) = some r) : (if p then A' else B') = some r := by
  by_cases e : p
  · rw [if_pos e] at h ⊢
    exact ha h
  · rw [if_neg e] at h ⊢
    exact hb h
theorem px_ite_c {p : Prop} [Decidable p] {A B : Option pr} {A' B' : Nat → Option pr} {r : pr} (ha : A = some r → ∃ n, A' n = some r) (hb : B = some r → ∃ n, B' n = some r) (h : (if p then A else B) = some r) : ∃ n, (if p then A' n else B' n) = some r := by
  by_cases e : p
  · rw [if_pos e] at h
    obtain ⟨n, hn⟩ := ha h
    exact ⟨n, by rw [if_pos e]; exact hn⟩
  · rw [if_neg e] at h
    obtain ⟨n, hn⟩ := hb h
    exact ⟨n, by rw [if_neg e]; exact hn⟩
theorem px_if_m {c : Nat} {x y : Int} {A B A' B' : Option pr} {r : pr} (ha : A = some r → A' = some r) (hb : B = some r → B' = some r) (h : px_if c x y A B = some r) : px_if c x y A' B' = some r :=
  match c, h with
  | 0, h => px_ite_m (p := x = y) ha hb h
  | 1, h => px_ite_m (p := x = y) hb ha h
  | 2, h => px_ite_m (p := x < y) ha hb h
  | 3, h => px_ite_m (p := x < y) hb ha h
  | 4, h => px_ite_m (p := y < x) ha hb h
  | _ + 5, h => px_ite_m (p := y < x) hb ha h
theorem px_sw_m {x : Int} {B B' : Option pr} {J J' : Nat → Option pr} {r : pr} (hb : B = some r → B' = some r) (hj : ∀ t, J t = some r → J' t = some r) : ∀ l, px_sw x B J l = some r → px_sw x B' J' l = some r
  | [], h => hb h
  | (k, t) :: l, h => by
    unfold px_sw at h ⊢
    split at h
    · rename_i e
      rw [if_pos e]
      exact hj t h
    · rename_i e
      rw [if_neg e]
      exact px_sw_m hb hj l h
theorem px_j_m {F G : pq → Option pr} {m : pm} {K K' : Nat → List pv → List pv → pw → Option pr} (hF : px_le F G) (hK : ∀ pc ls st w r, K pc ls st w = some r → K' pc ls st w = some r) {pc : Nat} {ls st : List pv} {w : pw} {r : pr} (h : px_j F m K pc ls st w = some r) : px_j G m K' pc ls st w = some r := by
  unfold px_j at h ⊢
  cases e : px_mem (px_lab m) pc
  · rw [e] at h
    exact hK _ _ _ _ _ h
  · rw [e] at h
    exact hF _ _ h
theorem px_on_m {F G : pq → Option pr} {m : pm} {K K' : Nat → List pv → List pv → pw → Option pr} (hF : px_le F G) (hK : ∀ pc ls st w r, K pc ls st w = some r → K' pc ls st w = some r) {a : px_A} {r : pr} (h : px_on F m K a = some r) : px_on G m K' a = some r := by
  rcases a with ⟨g, pc, ls, st, w⟩ | ⟨g, x, w⟩ | ⟨c, x, y, t, f, ls, st, w⟩ | ⟨x, l, d, ls, st, w⟩ | ⟨g, t, as, pc, ls, st, w⟩
  · simp only [px_on] at h ⊢
    cases g
    · simp at h
    · simp only [if_pos] at h ⊢
      exact px_j_m hF hK h
  · exact h
  · exact px_if_m (px_j_m hF hK) (px_j_m hF hK) h
  · exact px_sw_m (px_j_m hF hK) (fun t => px_j_m hF hK) l h
  · simp only [px_on] at h ⊢
    cases g
    · simp at h
    · simp only [if_pos] at h ⊢
      cases e : F (t, 0, px_ent t as, [], w) with
      | none => rw [e] at h; simp at h
      | some r1 =>
        rw [e] at h
        rw [hF _ _ e]
        simp only [Option.bind_some] at h ⊢
        exact px_j_m hF hK h
theorem px_s1_m {F G : pq → Option pr} {m : pm} {K K' : Nat → List pv → List pv → pw → Option pr} (hF : px_le F G) (hK : ∀ pc ls st w r, K pc ls st w = some r → K' pc ls st w = some r) {pc : Nat} {ls st : List pv} {w : pw} {r : pr} (h : px_s1 F m K pc ls st w = some r) : px_s1 G m K' pc ls st w = some r := by
  unfold px_s1 at h ⊢
  cases e : px_find (px_cod m) pc with
  | none => rw [e] at h; cases h
  | some x =>
    obtain ⟨i, n⟩ := x
    rw [e] at h
    simp only at h ⊢
    cases e2 : px_act m pc i n ls st w with
    | none => rw [e2] at h; cases h
    | some a =>
      rw [e2] at h
      exact px_on_m hF hK h
theorem px_blk_m {F G : pq → Option pr} (hF : px_le F G) (m : pm) : ∀ (k pc : Nat) (ls st : List pv) (w : pw) (r : pr), px_blk F m k pc ls st w = some r → px_blk G m k pc ls st w = some r
  | 0, _, _, _, _, _, h => by cases h
  | k + 1, _, _, _, _, _, h => px_s1_m (K := px_blk F m k) (K' := px_blk G m k) hF (px_blk_m hF m k) h
theorem px_run_s (n : Nat) (q : pq) : px_run (n + 1) q = px_blk (px_run n) q.1 400 q.2.1 q.2.2.1 q.2.2.2.1 q.2.2.2.2 := rfl
theorem px_run_m : ∀ n, px_le (px_run n) (px_run (n + 1))
  | 0 => fun _ _ h => by cases h
  | n + 1 => fun q r h => by
    rw [px_run_s] at h ⊢
    exact px_blk_m (px_run_m n) _ _ _ _ _ _ _ h
theorem px_run_mm {n m : Nat} (h : n ≤ m) : px_le (px_run n) (px_run m) := by
  induction h with
  | refl => exact fun _ _ h => h
  | step _ ih => exact fun q r hq => px_run_m _ q r (ih q r hq)
theorem px_run_u {n m : Nat} {q : pq} {r r' : pr} (h : px_run n q = some r) (h' : px_run m q = some r') : r = r' := by
  have h1 := px_run_mm (Nat.le_max_left n m) q r h
  have h2 := px_run_mm (Nat.le_max_right n m) q r' h'
  rw [h1] at h2
  exact Option.some.inj h2
noncomputable def px_R (q : pq) : Option pr := @dite (Option pr) (∃ (r : pr) (n : Nat), px_run n q = some r) (Classical.propDecidable _) (fun h => some (Classical.choose h)) (fun _ => none)
theorem px_R_iff {q : pq} {r : pr} : px_R q = some r ↔ ∃ n, px_run n q = some r := by
  unfold px_R
  by_cases h : ∃ (r : pr) (n : Nat), px_run n q = some r
  · rw [dif_pos h]
    constructor
    · intro e
      cases e
      exact Classical.choose_spec h
    · rintro ⟨n, e⟩
      obtain ⟨m, e2⟩ := Classical.choose_spec h
      exact congrArg some (px_run_u e2 e)
  · rw [dif_neg h]
    constructor
    · intro e; cases e
    · rintro ⟨n, e⟩; exact absurd ⟨r, n, e⟩ h
theorem px_j_c {m : pm} {K : Nat → List pv → List pv → pw → Option pr} {K' : Nat → Nat → List pv → List pv → pw → Option pr} (hK : ∀ pc ls st w r, K pc ls st w = some r → ∃ n, K' n pc ls st w = some r) {pc : Nat} {ls st : List pv} {w : pw} {r : pr} (h : px_j px_R m K pc ls st w = some r) : ∃ n, px_j (px_run n) m (K' n) pc ls st w = some r := by
  unfold px_j at h ⊢
  cases e : px_mem (px_lab m) pc
  · rw [e] at h
    exact hK _ _ _ _ _ h
  · rw [e] at h
    exact px_R_iff.mp h
theorem px_sw_c {x : Int} {B : Option pr} {J : Nat → Option pr} {B' : Nat → Option pr} {J' : Nat → Nat → Option pr} {r : pr} (hb : B = some r → ∃ n, B' n = some r) (hj : ∀ t, J t = some r → ∃ n, J' n t = some r) : ∀ l, px_sw x B J l = some r → ∃ n, px_sw x (B' n) (J' n) l = some r
  | [], h => hb h
  | (k, t) :: l, h => by
    unfold px_sw at h ⊢
    split at h
    · rename_i e
      obtain ⟨n, hn⟩ := hj t h
      exact ⟨n, by rw [if_pos e]; exact hn⟩
    · rename_i e
      obtain ⟨n, hn⟩ := px_sw_c hb hj l h
      exact ⟨n, by rw [if_neg e]; exact hn⟩
theorem px_if_c {c : Nat} {x y : Int} {A B : Option pr} {A' B' : Nat → Option pr} {r : pr} (ha : A = some r → ∃ n, A' n = some r) (hb : B = some r → ∃ n, B' n = some r) (h : px_if c x y A B = some r) : ∃ n, px_if c x y (A' n) (B' n) = some r :=
  match c, h with
  | 0, h => px_ite_c (p := x = y) ha hb h
  | 1, h => px_ite_c (p := x = y) hb ha h
  | 2, h => px_ite_c (p := x < y) ha hb h
  | 3, h => px_ite_c (p := x < y) hb ha h
  | 4, h => px_ite_c (p := y < x) ha hb h
  | _ + 5, h => px_ite_c (p := y < x) hb ha h
theorem px_on_c {m : pm} {K : Nat → List pv → List pv → pw → Option pr} {K' : Nat → Nat → List pv → List pv → pw → Option pr} (hM : ∀ a b, a ≤ b → ∀ pc ls st w r, K' a pc ls st w = some r → K' b pc ls st w = some r) (hK : ∀ pc ls st w r, K pc ls st w = some r → ∃ n, K' n pc ls st w = some r) {a : px_A} {r : pr} (h : px_on px_R m K a = some r) : ∃ n, px_on (px_run n) m (K' n) a = some r := by
  rcases a with ⟨g, pc, ls, st, w⟩ | ⟨g, x, w⟩ | ⟨c, x, y, t, f, ls, st, w⟩ | ⟨x, l, d, ls, st, w⟩ | ⟨g, t, as, pc, ls, st, w⟩
  · simp only [px_on] at h ⊢
    cases g
    · simp at h
    · simp only [if_pos] at h ⊢
      exact px_j_c hK h
  · exact ⟨0, h⟩
  · exact px_if_c (A' := fun n => px_j (px_run n) m (K' n) t ls st w) (B' := fun n => px_j (px_run n) m (K' n) f ls st w) (px_j_c hK) (px_j_c hK) h
  · exact px_sw_c (B' := fun n => px_j (px_run n) m (K' n) d ls st w) (J' := fun n t => px_j (px_run n) m (K' n) t ls st w) (px_j_c hK) (fun t => px_j_c hK) l h
  · simp only [px_on] at h ⊢
    cases g
    · simp at h
    · simp only [if_pos] at h ⊢
      cases e : px_R (t, 0, px_ent t as, [], w) with
      | none => rw [e] at h; simp at h
      | some r1 =>
        rw [e] at h
        simp only [Option.bind_some] at h
        obtain ⟨n1, e1⟩ := px_R_iff.mp e
        obtain ⟨n2, e2⟩ := px_j_c hK h
        refine ⟨max n1 n2, ?_⟩
        rw [px_run_mm (Nat.le_max_left n1 n2) _ _ e1]
        simp only [Option.bind_some]
        exact px_j_m (px_run_mm (Nat.le_max_right n1 n2)) (hM _ _ (Nat.le_max_right n1 n2)) e2
theorem px_s1_c {m : pm} {K : Nat → List pv → List pv → pw → Option pr} {K' : Nat → Nat → List pv → List pv → pw → Option pr} (hM : ∀ a b, a ≤ b → ∀ pc ls st w r, K' a pc ls st w = some r → K' b pc ls st w = some r) (hK : ∀ pc ls st w r, K pc ls st w = some r → ∃ n, K' n pc ls st w = some r) {pc : Nat} {ls st : List pv} {w : pw} {r : pr} (h : px_s1 px_R m K pc ls st w = some r) : ∃ n, px_s1 (px_run n) m (K' n) pc ls st w = some r := by
  unfold px_s1 at h ⊢
  cases e : px_find (px_cod m) pc with
  | none => rw [e] at h; cases h
  | some x =>
    obtain ⟨i, n⟩ := x
    rw [e] at h
    simp only at h ⊢
    cases e2 : px_act m pc i n ls st w with
    | none => rw [e2] at h; cases h
    | some a =>
      rw [e2] at h
      exact px_on_c hM hK h
theorem px_blk_c (m : pm) : ∀ (k pc : Nat) (ls st : List pv) (w : pw) (r : pr), px_blk px_R m k pc ls st w = some r → ∃ n, px_blk (px_run n) m k pc ls st w = some r
  | 0, _, _, _, _, _, h => by cases h
  | k + 1, _, _, _, _, _, h => px_s1_c (K := px_blk px_R m k) (K' := fun n => px_blk (px_run n) m k) (fun _ _ hab pc ls st w r => px_blk_m (px_run_mm hab) m k pc ls st w r) (px_blk_c m k) h
theorem px_Rn {n : Nat} {q : pq} {r : pr} (h : px_run n q = some r) : px_R q = some r := px_R_iff.mpr ⟨n, h⟩
/-- the machine's own equation -/
theorem px_Req (m : pm) (pc : Nat) (ls st : List pv) (w : pw) : px_R (m, pc, ls, st, w) = px_blk px_R m 400 pc ls st w := by
  cases e : px_blk px_R m 400 pc ls st w with
  | some r =>
    obtain ⟨n, hn⟩ := px_blk_c m 400 pc ls st w r e
    exact px_R_iff.mpr ⟨n + 1, (px_run_s n (m, pc, ls, st, w)).trans hn⟩
  | none =>
    cases e2 : px_R (m, pc, ls, st, w) with
    | none => rfl
    | some r =>
      obtain ⟨n, hn⟩ := px_R_iff.mp e2
      cases n with
      | zero => cases hn
      | succ n =>
        have h2 := px_blk_m (G := px_R) (fun q r h => px_Rn h) m 400 pc ls st w r ((px_run_s n (m, pc, ls, st, w)).symm.trans hn)
        rw [e] at h2
        cases h2
end
section
set_option maxRecDepth 100000 in
theorem eq_Book_begin_0 (x0 : Int) (w : pw) : px_R (mm_Book_begin, 0, [(2, x0)], [], w) =
    (if px_go w x0 0 = true then
      if px_go (px_wr w x0 0 0) x0 0 = true then
        if px_go (px_wr (px_wr w x0 0 0) x0 1 0) x0 0 = true then
          some (0, (px_wr (px_wr (px_wr w x0 0 0) x0 1 0) x0 2 0))
        else none
      else none
    else none) := (px_Req mm_Book_begin 0 [(2, x0)] [] w).trans rfl
set_option maxRecDepth 100000 in
theorem eq_Book_mend_0 (x0 x1 x2 x3 : Int) (w : pw) : px_R (mm_Book_mend, 0, [(2, x0), (0, x1), (0, x2), (0, x3), (9, 0), (9, 0)], [], w) =
    (if px_go w x0 0 = true then
      if px_go (px_wr w x0 0 x1) x0 0 = true then
        if px_go (px_wr w x0 0 x1) x0 0 = true then
          if px_ga (px_wr w x0 0 x1) 0 (px_rd (px_wr w x0 0 x1) x0 6) (px_rd (px_wr w x0 0 x1) x0 2) = true then
            if px_go (px_wr (px_wr w x0 0 x1) (px_rd (px_wr w x0 0 x1) x0 6) ((px_rd (px_wr w x0 0 x1) x0 2)).toNat x1) x0 0 = true then
              if px_go (px_wr (px_wr w x0 0 x1) (px_rd (px_wr w x0 0 x1) x0 6) ((px_rd (px_wr w x0 0 x1) x0 2)).toNat x1) x0 0 = true then
                if px_ga (px_wr (px_wr w x0 0 x1) (px_rd (px_wr w x0 0 x1) x0 6) ((px_rd (px_wr w x0 0 x1) x0 2)).toNat x1) 0 (px_rd (px_wr (px_wr w x0 0 x1) (px_rd (px_wr w x0 0 x1) x0 6) ((px_rd (px_wr w x0 0 x1) x0 2)).toNat x1) x0 7) (px_rd (px_wr (px_wr w x0 0 x1) (px_rd (px_wr w x0 0 x1) x0 6) ((px_rd (px_wr w x0 0 x1) x0 2)).toNat x1) x0 2) = true then
                  if px_go (px_wr (px_wr (px_wr w x0 0 x1) (px_rd (px_wr w x0 0 x1) x0 6) ((px_rd (px_wr w x0 0 x1) x0 2)).toNat x1) (px_rd (px_wr (px_wr w x0 0 x1) (px_rd (px_wr w x0 0 x1) x0 6) ((px_rd (px_wr w x0 0 x1) x0 2)).toNat x1) x0 7) ((px_rd (px_wr (px_wr w x0 0 x1) (px_rd (px_wr w x0 0 x1) x0 6) ((px_rd (px_wr w x0 0 x1) x0 2)).toNat x1) x0 2)).toNat x2) x0 0 = true then
                    if px_go (px_wr (px_wr (px_wr w x0 0 x1) (px_rd (px_wr w x0 0 x1) x0 6) ((px_rd (px_wr w x0 0 x1) x0 2)).toNat x1) (px_rd (px_wr (px_wr w x0 0 x1) (px_rd (px_wr w x0 0 x1) x0 6) ((px_rd (px_wr w x0 0 x1) x0 2)).toNat x1) x0 7) ((px_rd (px_wr (px_wr w x0 0 x1) (px_rd (px_wr w x0 0 x1) x0 6) ((px_rd (px_wr w x0 0 x1) x0 2)).toNat x1) x0 2)).toNat x2) x0 0 = true then
                      if px_ga (px_wr (px_wr (px_wr w x0 0 x1) (px_rd (px_wr w x0 0 x1) x0 6) ((px_rd (px_wr w x0 0 x1) x0 2)).toNat x1) (px_rd (px_wr (px_wr w x0 0 x1) (px_rd (px_wr w x0 0 x1) x0 6) ((px_rd (px_wr w x0 0 x1) x0 2)).toNat x1) x0 7) ((px_rd (px_wr (px_wr w x0 0 x1) (px_rd (px_wr w x0 0 x1) x0 6) ((px_rd (px_wr w x0 0 x1) x0 2)).toNat x1) x0 2)).toNat x2) 0 (px_rd (px_wr (px_wr (px_wr w x0 0 x1) (px_rd (px_wr w x0 0 x1) x0 6) ((px_rd (px_wr w x0 0 x1) x0 2)).toNat x1) (px_rd (px_wr (px_wr w x0 0 x1) (px_rd (px_wr w x0 0 x1) x0 6) ((px_rd (px_wr w x0 0 x1) x0 2)).toNat x1) x0 7) ((px_rd (px_wr (px_wr w x0 0 x1) (px_rd (px_wr w x0 0 x1) x0 6) ((px_rd (px_wr w x0 0 x1) x0 2)).toNat x1) x0 2)).toNat x2) x0 8) (px_rd (px_wr (px_wr (px_wr w x0 0 x1) (px_rd (px_wr w x0 0 x1) x0 6) ((px_rd (px_wr w x0 0 x1) x0 2)).toNat x1) (px_rd (px_wr (px_wr w x0 0 x1) (px_rd (px_wr w x0 0 x1) x0 6) ((px_rd (px_wr w x0 0 x1) x0 2)).toNat x1) x0 7) ((px_rd (px_wr (px_wr w x0 0 x1) (px_rd (px_wr w x0 0 x1) x0 6) ((px_rd (px_wr w x0 0 x1) x0 2)).toNat x1) x0 2)).toNat x2) x0 2) = true then
                        px_R (mm_Book_mend, 35, [(2, x0), (0, x1), (0, x2), (0, x3), (9, 0), (9, 0)], [], (px_wr (px_wr (px_wr (px_wr w x0 0 x1) (px_rd (px_wr w x0 0 x1) x0 6) ((px_rd (px_wr w x0 0 x1) x0 2)).toNat x1) (px_rd (px_wr (px_wr w x0 0 x1) (px_rd (px_wr w x0 0 x1) x0 6) ((px_rd (px_wr w x0 0 x1) x0 2)).toNat x1) x0 7) ((px_rd (px_wr (px_wr w x0 0 x1) (px_rd (px_wr w x0 0 x1) x0 6) ((px_rd (px_wr w x0 0 x1) x0 2)).toNat x1) x0 2)).toNat x2) (px_rd (px_wr (px_wr (px_wr w x0 0 x1) (px_rd (px_wr w x0 0 x1) x0 6) ((px_rd (px_wr w x0 0 x1) x0 2)).toNat x1) (px_rd (px_wr (px_wr w x0 0 x1) (px_rd (px_wr w x0 0 x1) x0 6) ((px_rd (px_wr w x0 0 x1) x0 2)).toNat x1) x0 7) ((px_rd (px_wr (px_wr w x0 0 x1) (px_rd (px_wr w x0 0 x1) x0 6) ((px_rd (px_wr w x0 0 x1) x0 2)).toNat x1) x0 2)).toNat x2) x0 8) ((px_rd (px_wr (px_wr (px_wr w x0 0 x1) (px_rd (px_wr w x0 0 x1) x0 6) ((px_rd (px_wr w x0 0 x1) x0 2)).toNat x1) (px_rd (px_wr (px_wr w x0 0 x1) (px_rd (px_wr w x0 0 x1) x0 6) ((px_rd (px_wr w x0 0 x1) x0 2)).toNat x1) x0 7) ((px_rd (px_wr (px_wr w x0 0 x1) (px_rd (px_wr w x0 0 x1) x0 6) ((px_rd (px_wr w x0 0 x1) x0 2)).toNat x1) x0 2)).toNat x2) x0 2)).toNat x3))
                      else none
                    else none
                  else none
                else none
              else none
            else none
          else none
        else none
      else none
    else none) := (px_Req mm_Book_mend 0 [(2, x0), (0, x1), (0, x2), (0, x3), (9, 0), (9, 0)] [] w).trans rfl
set_option maxRecDepth 100000 in
theorem eq_Book_mend_35 (x0 x1 x2 x3 : Int) (w : pw) : px_R (mm_Book_mend, 35, [(2, x0), (0, x1), (0, x2), (0, x3), (9, 0), (9, 0)], [], w) =
    (if px_go w x0 0 = true then
      if px_go w x0 0 = true then
        px_R (mm_Book_mend, 51, [(2, x0), (0, x1), (0, x2), (0, x3), (0, 0), (0, 0)], [], (px_wr w x0 2 (px_w ((px_rd w x0 2) + 1))))
      else none
    else none) := (px_Req mm_Book_mend 35 [(2, x0), (0, x1), (0, x2), (0, x3), (9, 0), (9, 0)] [] w).trans rfl
set_option maxRecDepth 100000 in
theorem eq_Book_mend_51 (x0 x1 x2 x3 x4 x5 : Int) (w : pw) : px_R (mm_Book_mend, 51, [(2, x0), (0, x1), (0, x2), (0, x3), (0, x4), (0, x5)], [], w) =
    (if px_go w x0 0 = true then
      if x5 < (px_rd w x0 2) then
        if px_go w x0 0 = true then
          if px_ga w 0 (px_rd w x0 7) x5 = true then
            if (px_rd w (px_rd w x0 7) (x5).toNat) = x2 then
              px_R (mm_Book_mend, 51, [(2, x0), (0, x1), (0, x2), (0, x3), (0, (px_w (x4 + 1))), (0, (px_w (x5 + 1)))], [], w)
            else
              px_R (mm_Book_mend, 51, [(2, x0), (0, x1), (0, x2), (0, x3), (0, (px_w (x4 + 0))), (0, (px_w (x5 + 1)))], [], w)
          else none
        else none
      else
        some (x4, w)
    else none) := (px_Req mm_Book_mend 51 [(2, x0), (0, x1), (0, x2), (0, x3), (0, x4), (0, x5)] [] w).trans rfl
set_option maxRecDepth 100000 in
theorem eq_Book_note_0 (x0 x1 x2 x3 : Int) (w : pw) : px_R (mm_Book_note, 0, [(2, x0), (0, x1), (0, x2), (0, x3)], [], w) =
    (if px_go w x0 0 = true then
      if px_go (px_wr w x0 0 x1) x0 0 = true then
        if px_go (px_wr w x0 0 x1) x0 0 = true then
          if px_ga (px_wr w x0 0 x1) 0 (px_rd (px_wr w x0 0 x1) x0 3) (px_rd (px_wr w x0 0 x1) x0 1) = true then
            if px_go (px_wr (px_wr w x0 0 x1) (px_rd (px_wr w x0 0 x1) x0 3) ((px_rd (px_wr w x0 0 x1) x0 1)).toNat x1) x0 0 = true then
              if px_go (px_wr (px_wr w x0 0 x1) (px_rd (px_wr w x0 0 x1) x0 3) ((px_rd (px_wr w x0 0 x1) x0 1)).toNat x1) x0 0 = true then
                if px_ga (px_wr (px_wr w x0 0 x1) (px_rd (px_wr w x0 0 x1) x0 3) ((px_rd (px_wr w x0 0 x1) x0 1)).toNat x1) 0 (px_rd (px_wr (px_wr w x0 0 x1) (px_rd (px_wr w x0 0 x1) x0 3) ((px_rd (px_wr w x0 0 x1) x0 1)).toNat x1) x0 4) (px_rd (px_wr (px_wr w x0 0 x1) (px_rd (px_wr w x0 0 x1) x0 3) ((px_rd (px_wr w x0 0 x1) x0 1)).toNat x1) x0 1) = true then
                  if px_go (px_wr (px_wr (px_wr w x0 0 x1) (px_rd (px_wr w x0 0 x1) x0 3) ((px_rd (px_wr w x0 0 x1) x0 1)).toNat x1) (px_rd (px_wr (px_wr w x0 0 x1) (px_rd (px_wr w x0 0 x1) x0 3) ((px_rd (px_wr w x0 0 x1) x0 1)).toNat x1) x0 4) ((px_rd (px_wr (px_wr w x0 0 x1) (px_rd (px_wr w x0 0 x1) x0 3) ((px_rd (px_wr w x0 0 x1) x0 1)).toNat x1) x0 1)).toNat x2) x0 0 = true then
                    if px_go (px_wr (px_wr (px_wr w x0 0 x1) (px_rd (px_wr w x0 0 x1) x0 3) ((px_rd (px_wr w x0 0 x1) x0 1)).toNat x1) (px_rd (px_wr (px_wr w x0 0 x1) (px_rd (px_wr w x0 0 x1) x0 3) ((px_rd (px_wr w x0 0 x1) x0 1)).toNat x1) x0 4) ((px_rd (px_wr (px_wr w x0 0 x1) (px_rd (px_wr w x0 0 x1) x0 3) ((px_rd (px_wr w x0 0 x1) x0 1)).toNat x1) x0 1)).toNat x2) x0 0 = true then
                      if px_ga (px_wr (px_wr (px_wr w x0 0 x1) (px_rd (px_wr w x0 0 x1) x0 3) ((px_rd (px_wr w x0 0 x1) x0 1)).toNat x1) (px_rd (px_wr (px_wr w x0 0 x1) (px_rd (px_wr w x0 0 x1) x0 3) ((px_rd (px_wr w x0 0 x1) x0 1)).toNat x1) x0 4) ((px_rd (px_wr (px_wr w x0 0 x1) (px_rd (px_wr w x0 0 x1) x0 3) ((px_rd (px_wr w x0 0 x1) x0 1)).toNat x1) x0 1)).toNat x2) 0 (px_rd (px_wr (px_wr (px_wr w x0 0 x1) (px_rd (px_wr w x0 0 x1) x0 3) ((px_rd (px_wr w x0 0 x1) x0 1)).toNat x1) (px_rd (px_wr (px_wr w x0 0 x1) (px_rd (px_wr w x0 0 x1) x0 3) ((px_rd (px_wr w x0 0 x1) x0 1)).toNat x1) x0 4) ((px_rd (px_wr (px_wr w x0 0 x1) (px_rd (px_wr w x0 0 x1) x0 3) ((px_rd (px_wr w x0 0 x1) x0 1)).toNat x1) x0 1)).toNat x2) x0 5) (px_rd (px_wr (px_wr (px_wr w x0 0 x1) (px_rd (px_wr w x0 0 x1) x0 3) ((px_rd (px_wr w x0 0 x1) x0 1)).toNat x1) (px_rd (px_wr (px_wr w x0 0 x1) (px_rd (px_wr w x0 0 x1) x0 3) ((px_rd (px_wr w x0 0 x1) x0 1)).toNat x1) x0 4) ((px_rd (px_wr (px_wr w x0 0 x1) (px_rd (px_wr w x0 0 x1) x0 3) ((px_rd (px_wr w x0 0 x1) x0 1)).toNat x1) x0 1)).toNat x2) x0 1) = true then
                        px_R (mm_Book_note, 35, [(2, x0), (0, x1), (0, x2), (0, x3)], [], (px_wr (px_wr (px_wr (px_wr w x0 0 x1) (px_rd (px_wr w x0 0 x1) x0 3) ((px_rd (px_wr w x0 0 x1) x0 1)).toNat x1) (px_rd (px_wr (px_wr w x0 0 x1) (px_rd (px_wr w x0 0 x1) x0 3) ((px_rd (px_wr w x0 0 x1) x0 1)).toNat x1) x0 4) ((px_rd (px_wr (px_wr w x0 0 x1) (px_rd (px_wr w x0 0 x1) x0 3) ((px_rd (px_wr w x0 0 x1) x0 1)).toNat x1) x0 1)).toNat x2) (px_rd (px_wr (px_wr (px_wr w x0 0 x1) (px_rd (px_wr w x0 0 x1) x0 3) ((px_rd (px_wr w x0 0 x1) x0 1)).toNat x1) (px_rd (px_wr (px_wr w x0 0 x1) (px_rd (px_wr w x0 0 x1) x0 3) ((px_rd (px_wr w x0 0 x1) x0 1)).toNat x1) x0 4) ((px_rd (px_wr (px_wr w x0 0 x1) (px_rd (px_wr w x0 0 x1) x0 3) ((px_rd (px_wr w x0 0 x1) x0 1)).toNat x1) x0 1)).toNat x2) x0 5) ((px_rd (px_wr (px_wr (px_wr w x0 0 x1) (px_rd (px_wr w x0 0 x1) x0 3) ((px_rd (px_wr w x0 0 x1) x0 1)).toNat x1) (px_rd (px_wr (px_wr w x0 0 x1) (px_rd (px_wr w x0 0 x1) x0 3) ((px_rd (px_wr w x0 0 x1) x0 1)).toNat x1) x0 4) ((px_rd (px_wr (px_wr w x0 0 x1) (px_rd (px_wr w x0 0 x1) x0 3) ((px_rd (px_wr w x0 0 x1) x0 1)).toNat x1) x0 1)).toNat x2) x0 1)).toNat x3))
                      else none
                    else none
                  else none
                else none
              else none
            else none
          else none
        else none
      else none
    else none) := (px_Req mm_Book_note 0 [(2, x0), (0, x1), (0, x2), (0, x3)] [] w).trans rfl
set_option maxRecDepth 100000 in
theorem eq_Book_note_35 (x0 x1 x2 x3 : Int) (w : pw) : px_R (mm_Book_note, 35, [(2, x0), (0, x1), (0, x2), (0, x3)], [], w) =
    (if px_go w x0 0 = true then
      if px_go w x0 0 = true then
        if px_go (px_wr w x0 1 (px_w ((px_rd w x0 1) + 1))) x0 0 = true then
          some ((px_w ((px_rd (px_wr w x0 1 (px_w ((px_rd w x0 1) + 1))) x0 1) - 1)), (px_wr w x0 1 (px_w ((px_rd w x0 1) + 1))))
        else none
      else none
    else none) := (px_Req mm_Book_note 35 [(2, x0), (0, x1), (0, x2), (0, x3)] [] w).trans rfl
set_option maxRecDepth 100000 in
theorem eq_Book_writtenAsKnown_0 (x0 x1 x2 : Int) (w : pw) : px_R (mm_Book_writtenAsKnown, 0, [(2, x0), (0, x1), (0, x2), (9, 0), (9, 0)], [], w) =
    (if px_go w x0 0 = true then
      if px_ga w 0 (px_rd w x0 5) x1 = true then
        px_R (mm_Book_writtenAsKnown, 10, [(2, x0), (0, x1), (0, x2), (0, (px_rd w (px_rd w x0 5) (x1).toNat)), (0, 0)], [], w)
      else none
    else none) := (px_Req mm_Book_writtenAsKnown 0 [(2, x0), (0, x1), (0, x2), (9, 0), (9, 0)] [] w).trans rfl
set_option maxRecDepth 100000 in
theorem eq_Book_writtenAsKnown_10 (x0 x1 x2 x3 x4 : Int) (w : pw) : px_R (mm_Book_writtenAsKnown, 10, [(2, x0), (0, x1), (0, x2), (0, x3), (0, x4)], [], w) =
    (if px_go w x0 0 = true then
      if x4 < (px_rd w x0 2) then
        if px_go w x0 0 = true then
          if px_ga w 0 (px_rd w x0 7) x4 = true then
            if (px_rd w (px_rd w x0 7) (x4).toNat) = x1 then
              if px_go w x0 0 = true then
                if px_ga w 0 (px_rd w x0 6) x4 = true then
                  if x2 < (px_rd w (px_rd w x0 6) (x4).toNat) then
                    px_R (mm_Book_writtenAsKnown, 10, [(2, x0), (0, x1), (0, x2), (0, x3), (0, (px_w (x4 + 1)))], [], w)
                  else
                    if px_go w x0 0 = true then
                      if px_ga w 0 (px_rd w x0 8) x4 = true then
                        px_R (mm_Book_writtenAsKnown, 10, [(2, x0), (0, x1), (0, x2), (0, (px_rd w (px_rd w x0 8) (x4).toNat)), (0, (px_w (x4 + 1)))], [], w)
                      else none
                    else none
                else none
              else none
            else
              px_R (mm_Book_writtenAsKnown, 10, [(2, x0), (0, x1), (0, x2), (0, x3), (0, (px_w (x4 + 1)))], [], w)
          else none
        else none
      else
        some (x3, w)
    else none) := (px_Req mm_Book_writtenAsKnown 10 [(2, x0), (0, x1), (0, x2), (0, x3), (0, x4)] [] w).trans rfl
set_option maxRecDepth 100000 in
theorem eq_Ear_allWays_0 (x0 : Int) (w : pw) : px_R (mm_Ear_allWays, 0, [(2, x0), (9, 0)], [], w) =
    (if px_go w x0 1 = true then
      if px_go w x0 1 = true then
        some ((px_w ((px_w ((px_w ((px_w ((px_w ((px_rd w x0 1) + 1)) * (px_w ((px_rd w x0 1) + 1)))) * (px_w ((px_w ((px_rd w x0 1) + 1)) * (px_w ((px_rd w x0 1) + 1)))))) * (px_w ((px_w ((px_rd w x0 1) + 1)) * (px_w ((px_rd w x0 1) + 1)))))) * (px_w ((px_w ((px_rd w x0 1) + 1)) * (px_w ((px_rd w x0 1) + 1)))))), w)
      else none
    else none) := (px_Req mm_Ear_allWays 0 [(2, x0), (9, 0)] [] w).trans rfl
set_option maxRecDepth 100000 in
theorem eq_Ear_nearest_0 (x0 x1 : Int) (w : pw) : px_R (mm_Ear_nearest, 0, [(2, x0), (1, x1), (9, 0), (9, 0), (9, 0), (9, 0), (9, 0), (9, 0), (9, 0)], [], w) =
    (px_R (mm_Ear_nearest, 13, [(2, x0), (1, x1), (9, 0), (1, x1), (9, 0), (0, 1024), (0, 0), (0, 0), (9, 0)], [], w)) := (px_Req mm_Ear_nearest 0 [(2, x0), (1, x1), (9, 0), (9, 0), (9, 0), (9, 0), (9, 0), (9, 0), (9, 0)] [] w).trans rfl
set_option maxRecDepth 100000 in
theorem eq_Ear_nearest_13 (x0 x1 x3 x5 x6 x7 : Int) (y8 : pv) (w : pw) : px_R (mm_Ear_nearest, 13, [(2, x0), (1, x1), (9, 0), (1, x3), (9, 0), (0, x5), (0, x6), (0, x7), y8], [], w) =
    (if px_go w x0 1 = true then
      if x7 < (px_rd w x0 5) then
        if (px_and (px_w x3) 1023) < x5 then
          px_R (mm_Ear_nearest, 13, [(2, x0), (1, x1), (9, 0), (1, (px_lshr x3 10)), (9, 0), (0, (px_and (px_w x3) 1023)), (0, x7), (0, (px_w (x7 + 1))), (0, (px_and (px_w x3) 1023))], [], w)
        else
          px_R (mm_Ear_nearest, 13, [(2, x0), (1, x1), (9, 0), (1, (px_lshr x3 10)), (9, 0), (0, x5), (0, x6), (0, (px_w (x7 + 1))), (0, (px_and (px_w x3) 1023))], [], w)
      else
        if px_go w x0 1 = true then
          if px_ga w 0 (px_rd w x0 6) x6 = true then
            some ((px_rd w (px_rd w x0 6) (x6).toNat), w)
          else none
        else none
    else none) := (px_Req mm_Ear_nearest 13 [(2, x0), (1, x1), (9, 0), (1, x3), (9, 0), (0, x5), (0, x6), (0, x7), y8] [] w).trans rfl
set_option maxRecDepth 100000 in
theorem eq_Ear_soundsAsEarlier_0 (x0 x1 : Int) (w : pw) : px_R (mm_Ear_soundsAsEarlier, 0, [(2, x0), (0, x1), (9, 0), (9, 0), (9, 0), (9, 0)], [], w) =
    (px_R (mm_Ear_soundsAsEarlier, 2, [(2, x0), (0, x1), (0, 0), (9, 0), (9, 0), (9, 0)], [], w)) := (px_Req mm_Ear_soundsAsEarlier 0 [(2, x0), (0, x1), (9, 0), (9, 0), (9, 0), (9, 0)] [] w).trans rfl
set_option maxRecDepth 100000 in
theorem eq_Ear_soundsAsEarlier_2 (x0 x1 x2 : Int) (y3 y4 y5 : pv) (w : pw) : px_R (mm_Ear_soundsAsEarlier, 2, [(2, x0), (0, x1), (0, x2), y3, y4, y5], [], w) =
    (if px_go w x0 1 = true then
      if x2 < (px_rd w x0 5) then
        if px_go w x0 1 = true then
          if px_go w x0 1 = true then
            if px_ga w 0 (px_rd w x0 6) x2 = true then
              if (px_ga w 4 (px_rd w x0 2) (px_rd w (px_rd w x0 6) (x2).toNat) || (px_ga w 5 (px_rd w x0 2) (px_rd w (px_rd w x0 6) (x2).toNat) || px_ga w 6 (px_rd w x0 2) (px_rd w (px_rd w x0 6) (x2).toNat))) = true then
                px_R (mm_Ear_soundsAsEarlier, 28, [(2, x0), (0, x1), (0, x2), (2, (px_rd w (px_rd w x0 2) ((px_rd w (px_rd w x0 6) (x2).toNat)).toNat)), (0, 0), (0, 0)], [], w)
              else none
            else none
          else none
        else none
      else
        some (0, w)
    else none) := (px_Req mm_Ear_soundsAsEarlier 2 [(2, x0), (0, x1), (0, x2), y3, y4, y5] [] w).trans rfl
set_option maxRecDepth 100000 in
theorem eq_Ear_soundsAsEarlier_28 (x0 x1 x2 x3 x4 x5 : Int) (w : pw) : px_R (mm_Ear_soundsAsEarlier, 28, [(2, x0), (0, x1), (0, x2), (2, x3), (0, x4), (0, x5)], [], w) =
    (if x5 < 4 then
      if px_go w x0 1 = true then
        if (px_ga w 4 (px_rd w x0 2) x1 || (px_ga w 5 (px_rd w x0 2) x1 || px_ga w 6 (px_rd w x0 2) x1)) = true then
          if px_ga w 0 (px_rd w (px_rd w x0 2) (x1).toNat) x5 = true then
            if px_ga w 0 x3 x5 = true then
              if (px_rd w (px_rd w (px_rd w x0 2) (x1).toNat) (x5).toNat) = (px_rd w x3 (x5).toNat) then
                px_R (mm_Ear_soundsAsEarlier, 28, [(2, x0), (0, x1), (0, x2), (2, x3), (0, (px_w (x4 + 1))), (0, (px_w (x5 + 1)))], [], w)
              else
                px_R (mm_Ear_soundsAsEarlier, 28, [(2, x0), (0, x1), (0, x2), (2, x3), (0, (px_w (x4 + 0))), (0, (px_w (x5 + 1)))], [], w)
            else none
          else none
        else none
      else none
    else
      if x4 = 4 then
        some (1, w)
      else
        px_R (mm_Ear_soundsAsEarlier, 2, [(2, x0), (0, x1), (0, (px_w (x2 + 1))), (2, x3), (0, x4), (0, x5)], [], w)) := (px_Req mm_Ear_soundsAsEarlier 28 [(2, x0), (0, x1), (0, x2), (2, x3), (0, x4), (0, x5)] [] w).trans rfl
set_option maxRecDepth 100000 in
theorem eq_Line_begin_0 (x0 : Int) (w : pw) : px_R (mm_Line_begin, 0, [(2, x0)], [], w) =
    (if px_go w x0 2 = true then
      if px_go (px_wr w x0 0 0) x0 2 = true then
        if px_go (px_wr (px_wr w x0 0 0) x0 1 0) x0 2 = true then
          if px_go (px_wr (px_wr (px_wr w x0 0 0) x0 1 0) x0 2 10) x0 2 = true then
            px_R (mm_Line_begin, 21, [(2, x0)], [], (px_wr (px_wr (px_wr (px_wr w x0 0 0) x0 1 0) x0 2 10) x0 3 0))
          else none
        else none
      else none
    else none) := (px_Req mm_Line_begin 0 [(2, x0)] [] w).trans rfl
set_option maxRecDepth 100000 in
theorem eq_Line_begin_21 (x0 : Int) (w : pw) : px_R (mm_Line_begin, 21, [(2, x0)], [], w) =
    (if px_go w x0 2 = true then
      if px_go (px_wr w x0 4 0) x0 2 = true then
        some (0, (px_wr (px_wr w x0 4 0) x0 6 0))
      else none
    else none) := (px_Req mm_Line_begin 21 [(2, x0)] [] w).trans rfl
set_option maxRecDepth 100000 in
theorem eq_Prod_beOne_0 (x0 : Int) (w : pw) : px_R (mm_Prod_beOne, 0, [(2, x0), (9, 0)], [], w) =
    (px_R (mm_Prod_beOne, 2, [(2, x0), (0, 0)], [], w)) := (px_Req mm_Prod_beOne 0 [(2, x0), (9, 0)] [] w).trans rfl
set_option maxRecDepth 100000 in
theorem eq_Prod_beOne_2 (x0 x1 : Int) (w : pw) : px_R (mm_Prod_beOne, 2, [(2, x0), (0, x1)], [], w) =
    (if x1 < 11 then
      if px_go w x0 3 = true then
        if px_ga w 1 (px_rd w x0 0) x1 = true then
          px_R (mm_Prod_beOne, 2, [(2, x0), (0, (px_w (x1 + 1)))], [], (px_wr w (px_rd w x0 0) (x1).toNat 0))
        else none
      else none
    else
      if px_go w x0 3 = true then
        if px_ga w 1 (px_rd w x0 0) 0 = true then
          some (0, (px_wr w (px_rd w x0 0) 0 1))
        else none
      else none) := (px_Req mm_Prod_beOne 2 [(2, x0), (0, x1)] [] w).trans rfl
set_option maxRecDepth 100000 in
theorem eq_Prod_become_0 (x0 x1 : Int) (w : pw) : px_R (mm_Prod_become, 0, [(2, x0), (2, x1), (9, 0)], [], w) =
    (px_R (mm_Prod_become, 2, [(2, x0), (2, x1), (0, 0)], [], w)) := (px_Req mm_Prod_become 0 [(2, x0), (2, x1), (9, 0)] [] w).trans rfl
set_option maxRecDepth 100000 in
theorem eq_Prod_become_2 (x0 x1 x2 : Int) (w : pw) : px_R (mm_Prod_become, 2, [(2, x0), (2, x1), (0, x2)], [], w) =
    (if x2 < 11 then
      if px_go w x0 3 = true then
        if px_go w x1 3 = true then
          if px_ga w 1 (px_rd w x1 0) x2 = true then
            if px_ga w 1 (px_rd w x0 0) x2 = true then
              px_R (mm_Prod_become, 2, [(2, x0), (2, x1), (0, (px_w (x2 + 1)))], [], (px_wr w (px_rd w x0 0) (x2).toNat (px_rd w (px_rd w x1 0) (x2).toNat)))
            else none
          else none
        else none
      else none
    else
      some (0, w)) := (px_Req mm_Prod_become 2 [(2, x0), (2, x1), (0, x2)] [] w).trans rfl
set_option maxRecDepth 100000 in
theorem eq_Prod_isAbove_0 (x0 x1 : Int) (w : pw) : px_R (mm_Prod_isAbove, 0, [(2, x0), (2, x1), (9, 0)], [], w) =
    (px_R (mm_Prod_isAbove, 3, [(2, x0), (2, x1), (0, 10)], [], w)) := (px_Req mm_Prod_isAbove 0 [(2, x0), (2, x1), (9, 0)] [] w).trans rfl
set_option maxRecDepth 100000 in
theorem eq_Prod_isAbove_3 (x0 x1 x2 : Int) (w : pw) : px_R (mm_Prod_isAbove, 3, [(2, x0), (2, x1), (0, x2)], [], w) =
    (if x2 < 0 then
      some (0, w)
    else
      if px_go w x0 3 = true then
        if px_ga w 1 (px_rd w x0 0) x2 = true then
          if px_go w x1 3 = true then
            if px_ga w 1 (px_rd w x1 0) x2 = true then
              if (px_cmp (px_rd w (px_rd w x0 0) (x2).toNat) (px_rd w (px_rd w x1 0) (x2).toNat)) = 0 then
                px_R (mm_Prod_isAbove, 3, [(2, x0), (2, x1), (0, (px_w (x2 + (-1))))], [], w)
              else
                if px_go w x0 3 = true then
                  if px_ga w 1 (px_rd w x0 0) x2 = true then
                    if px_go w x1 3 = true then
                      if px_ga w 1 (px_rd w x1 0) x2 = true then
                        if 0 < (px_cmp (px_rd w (px_rd w x0 0) (x2).toNat) (px_rd w (px_rd w x1 0) (x2).toNat)) then
                          some (1, w)
                        else
                          some (0, w)
                      else none
                    else none
                  else none
                else none
            else none
          else none
        else none
      else none) := (px_Req mm_Prod_isAbove 3 [(2, x0), (2, x1), (0, x2)] [] w).trans rfl
set_option maxRecDepth 100000 in
theorem eq_Prod_times_0 (x0 x1 : Int) (w : pw) : px_R (mm_Prod_times, 0, [(2, x0), (0, x1), (9, 0), (9, 0), (9, 0), (9, 0), (9, 0)], [], w) =
    (px_R (mm_Prod_times, 5, [(2, x0), (0, x1), (1, 0), (9, 0), (0, 0), (9, 0), (9, 0)], [], w)) := (px_Req mm_Prod_times 0 [(2, x0), (0, x1), (9, 0), (9, 0), (9, 0), (9, 0), (9, 0)] [] w).trans rfl
set_option maxRecDepth 100000 in
theorem eq_Prod_times_5 (x0 x1 x2 x4 : Int) (y5 : pv) (w : pw) : px_R (mm_Prod_times, 5, [(2, x0), (0, x1), (1, x2), (9, 0), (0, x4), y5, (9, 0)], [], w) =
    (if x4 < 11 then
      if px_go w x0 3 = true then
        if px_ga w 1 (px_rd w x0 0) x4 = true then
          if px_go w x0 3 = true then
            if px_ga w 1 (px_rd w x0 0) x4 = true then
              px_R (mm_Prod_times, 5, [(2, x0), (0, x1), (1, (px_lush (px_wl ((px_wl ((px_rd w (px_rd w x0 0) (x4).toNat) * x1)) + x2)) 32)), (9, 0), (0, (px_w (x4 + 1))), (1, (px_wl ((px_wl ((px_rd w (px_rd w x0 0) (x4).toNat) * x1)) + x2))), (9, 0)], [], (px_wr w (px_rd w x0 0) (x4).toNat (px_land (px_wl ((px_wl ((px_rd w (px_rd w x0 0) (x4).toNat) * x1)) + x2)) 4294967295)))
            else none
          else none
        else none
      else none
    else
      some (0, w)) := (px_Req mm_Prod_times 5 [(2, x0), (0, x1), (1, x2), (9, 0), (0, x4), y5, (9, 0)] [] w).trans rfl
set_option maxRecDepth 100000 in
theorem eq_Row_become_0 (x0 x1 : Int) (w : pw) : px_R (mm_Row_become, 0, [(2, x0), (2, x1), (9, 0)], [], w) =
    (if px_go w x1 4 = true then
      if px_go w x0 4 = true then
        if px_go (px_wr w x0 0 (px_rd w x1 0)) x1 4 = true then
          if px_go (px_wr w x0 0 (px_rd w x1 0)) x0 4 = true then
            if px_go (px_wr (px_wr w x0 0 (px_rd w x1 0)) x0 1 (px_rd (px_wr w x0 0 (px_rd w x1 0)) x1 1)) x1 4 = true then
              if px_go (px_wr (px_wr w x0 0 (px_rd w x1 0)) x0 1 (px_rd (px_wr w x0 0 (px_rd w x1 0)) x1 1)) x0 4 = true then
                if px_go (px_wr (px_wr (px_wr w x0 0 (px_rd w x1 0)) x0 1 (px_rd (px_wr w x0 0 (px_rd w x1 0)) x1 1)) x0 2 (px_rd (px_wr (px_wr w x0 0 (px_rd w x1 0)) x0 1 (px_rd (px_wr w x0 0 (px_rd w x1 0)) x1 1)) x1 2)) x1 4 = true then
                  if px_go (px_wr (px_wr (px_wr w x0 0 (px_rd w x1 0)) x0 1 (px_rd (px_wr w x0 0 (px_rd w x1 0)) x1 1)) x0 2 (px_rd (px_wr (px_wr w x0 0 (px_rd w x1 0)) x0 1 (px_rd (px_wr w x0 0 (px_rd w x1 0)) x1 1)) x1 2)) x0 4 = true then
                    px_R (mm_Row_become, 32, [(2, x0), (2, x1), (9, 0)], [], (px_wr (px_wr (px_wr (px_wr w x0 0 (px_rd w x1 0)) x0 1 (px_rd (px_wr w x0 0 (px_rd w x1 0)) x1 1)) x0 2 (px_rd (px_wr (px_wr w x0 0 (px_rd w x1 0)) x0 1 (px_rd (px_wr w x0 0 (px_rd w x1 0)) x1 1)) x1 2)) x0 3 (px_rd (px_wr (px_wr (px_wr w x0 0 (px_rd w x1 0)) x0 1 (px_rd (px_wr w x0 0 (px_rd w x1 0)) x1 1)) x0 2 (px_rd (px_wr (px_wr w x0 0 (px_rd w x1 0)) x0 1 (px_rd (px_wr w x0 0 (px_rd w x1 0)) x1 1)) x1 2)) x1 3)))
                  else none
                else none
              else none
            else none
          else none
        else none
      else none
    else none) := (px_Req mm_Row_become 0 [(2, x0), (2, x1), (9, 0)] [] w).trans rfl
set_option maxRecDepth 100000 in
theorem eq_Row_become_32 (x0 x1 : Int) (w : pw) : px_R (mm_Row_become, 32, [(2, x0), (2, x1), (9, 0)], [], w) =
    (px_R (mm_Row_become, 34, [(2, x0), (2, x1), (0, 0)], [], w)) := (px_Req mm_Row_become 32 [(2, x0), (2, x1), (9, 0)] [] w).trans rfl
set_option maxRecDepth 100000 in
theorem eq_Row_become_34 (x0 x1 x2 : Int) (w : pw) : px_R (mm_Row_become, 34, [(2, x0), (2, x1), (0, x2)], [], w) =
    (if x2 < 40 then
      if px_go w x0 4 = true then
        if px_go w x1 4 = true then
          if px_ga w 0 (px_rd w x1 4) x2 = true then
            if px_ga w 0 (px_rd w x0 4) x2 = true then
              if px_go (px_wr w (px_rd w x0 4) (x2).toNat (px_rd w (px_rd w x1 4) (x2).toNat)) x0 4 = true then
                if px_go (px_wr w (px_rd w x0 4) (x2).toNat (px_rd w (px_rd w x1 4) (x2).toNat)) x1 4 = true then
                  if px_ga (px_wr w (px_rd w x0 4) (x2).toNat (px_rd w (px_rd w x1 4) (x2).toNat)) 0 (px_rd (px_wr w (px_rd w x0 4) (x2).toNat (px_rd w (px_rd w x1 4) (x2).toNat)) x1 5) x2 = true then
                    if px_ga (px_wr w (px_rd w x0 4) (x2).toNat (px_rd w (px_rd w x1 4) (x2).toNat)) 0 (px_rd (px_wr w (px_rd w x0 4) (x2).toNat (px_rd w (px_rd w x1 4) (x2).toNat)) x0 5) x2 = true then
                      if px_go (px_wr (px_wr w (px_rd w x0 4) (x2).toNat (px_rd w (px_rd w x1 4) (x2).toNat)) (px_rd (px_wr w (px_rd w x0 4) (x2).toNat (px_rd w (px_rd w x1 4) (x2).toNat)) x0 5) (x2).toNat (px_rd (px_wr w (px_rd w x0 4) (x2).toNat (px_rd w (px_rd w x1 4) (x2).toNat)) (px_rd (px_wr w (px_rd w x0 4) (x2).toNat (px_rd w (px_rd w x1 4) (x2).toNat)) x1 5) (x2).toNat)) x0 4 = true then
                        if px_go (px_wr (px_wr w (px_rd w x0 4) (x2).toNat (px_rd w (px_rd w x1 4) (x2).toNat)) (px_rd (px_wr w (px_rd w x0 4) (x2).toNat (px_rd w (px_rd w x1 4) (x2).toNat)) x0 5) (x2).toNat (px_rd (px_wr w (px_rd w x0 4) (x2).toNat (px_rd w (px_rd w x1 4) (x2).toNat)) (px_rd (px_wr w (px_rd w x0 4) (x2).toNat (px_rd w (px_rd w x1 4) (x2).toNat)) x1 5) (x2).toNat)) x1 4 = true then
                          if px_ga (px_wr (px_wr w (px_rd w x0 4) (x2).toNat (px_rd w (px_rd w x1 4) (x2).toNat)) (px_rd (px_wr w (px_rd w x0 4) (x2).toNat (px_rd w (px_rd w x1 4) (x2).toNat)) x0 5) (x2).toNat (px_rd (px_wr w (px_rd w x0 4) (x2).toNat (px_rd w (px_rd w x1 4) (x2).toNat)) (px_rd (px_wr w (px_rd w x0 4) (x2).toNat (px_rd w (px_rd w x1 4) (x2).toNat)) x1 5) (x2).toNat)) 0 (px_rd (px_wr (px_wr w (px_rd w x0 4) (x2).toNat (px_rd w (px_rd w x1 4) (x2).toNat)) (px_rd (px_wr w (px_rd w x0 4) (x2).toNat (px_rd w (px_rd w x1 4) (x2).toNat)) x0 5) (x2).toNat (px_rd (px_wr w (px_rd w x0 4) (x2).toNat (px_rd w (px_rd w x1 4) (x2).toNat)) (px_rd (px_wr w (px_rd w x0 4) (x2).toNat (px_rd w (px_rd w x1 4) (x2).toNat)) x1 5) (x2).toNat)) x1 6) x2 = true then
                            if px_ga (px_wr (px_wr w (px_rd w x0 4) (x2).toNat (px_rd w (px_rd w x1 4) (x2).toNat)) (px_rd (px_wr w (px_rd w x0 4) (x2).toNat (px_rd w (px_rd w x1 4) (x2).toNat)) x0 5) (x2).toNat (px_rd (px_wr w (px_rd w x0 4) (x2).toNat (px_rd w (px_rd w x1 4) (x2).toNat)) (px_rd (px_wr w (px_rd w x0 4) (x2).toNat (px_rd w (px_rd w x1 4) (x2).toNat)) x1 5) (x2).toNat)) 0 (px_rd (px_wr (px_wr w (px_rd w x0 4) (x2).toNat (px_rd w (px_rd w x1 4) (x2).toNat)) (px_rd (px_wr w (px_rd w x0 4) (x2).toNat (px_rd w (px_rd w x1 4) (x2).toNat)) x0 5) (x2).toNat (px_rd (px_wr w (px_rd w x0 4) (x2).toNat (px_rd w (px_rd w x1 4) (x2).toNat)) (px_rd (px_wr w (px_rd w x0 4) (x2).toNat (px_rd w (px_rd w x1 4) (x2).toNat)) x1 5) (x2).toNat)) x0 6) x2 = true then
                              if px_go (px_wr (px_wr (px_wr w (px_rd w x0 4) (x2).toNat (px_rd w (px_rd w x1 4) (x2).toNat)) (px_rd (px_wr w (px_rd w x0 4) (x2).toNat (px_rd w (px_rd w x1 4) (x2).toNat)) x0 5) (x2).toNat (px_rd (px_wr w (px_rd w x0 4) (x2).toNat (px_rd w (px_rd w x1 4) (x2).toNat)) (px_rd (px_wr w (px_rd w x0 4) (x2).toNat (px_rd w (px_rd w x1 4) (x2).toNat)) x1 5) (x2).toNat)) (px_rd (px_wr (px_wr w (px_rd w x0 4) (x2).toNat (px_rd w (px_rd w x1 4) (x2).toNat)) (px_rd (px_wr w (px_rd w x0 4) (x2).toNat (px_rd w (px_rd w x1 4) (x2).toNat)) x0 5) (x2).toNat (px_rd (px_wr w (px_rd w x0 4) (x2).toNat (px_rd w (px_rd w x1 4) (x2).toNat)) (px_rd (px_wr w (px_rd w x0 4) (x2).toNat (px_rd w (px_rd w x1 4) (x2).toNat)) x1 5) (x2).toNat)) x0 6) (x2).toNat (px_rd (px_wr (px_wr w (px_rd w x0 4) (x2).toNat (px_rd w (px_rd w x1 4) (x2).toNat)) (px_rd (px_wr w (px_rd w x0 4) (x2).toNat (px_rd w (px_rd w x1 4) (x2).toNat)) x0 5) (x2).toNat (px_rd (px_wr w (px_rd w x0 4) (x2).toNat (px_rd w (px_rd w x1 4) (x2).toNat)) (px_rd (px_wr w (px_rd w x0 4) (x2).toNat (px_rd w (px_rd w x1 4) (x2).toNat)) x1 5) (x2).toNat)) (px_rd (px_wr (px_wr w (px_rd w x0 4) (x2).toNat (px_rd w (px_rd w x1 4) (x2).toNat)) (px_rd (px_wr w (px_rd w x0 4) (x2).toNat (px_rd w (px_rd w x1 4) (x2).toNat)) x0 5) (x2).toNat (px_rd (px_wr w (px_rd w x0 4) (x2).toNat (px_rd w (px_rd w x1 4) (x2).toNat)) (px_rd (px_wr w (px_rd w x0 4) (x2).toNat (px_rd w (px_rd w x1 4) (x2).toNat)) x1 5) (x2).toNat)) x1 6) (x2).toNat)) x0 4 = true then
                                if px_go (px_wr (px_wr (px_wr w (px_rd w x0 4) (x2).toNat (px_rd w (px_rd w x1 4) (x2).toNat)) (px_rd (px_wr w (px_rd w x0 4) (x2).toNat (px_rd w (px_rd w x1 4) (x2).toNat)) x0 5) (x2).toNat (px_rd (px_wr w (px_rd w x0 4) (x2).toNat (px_rd w (px_rd w x1 4) (x2).toNat)) (px_rd (px_wr w (px_rd w x0 4) (x2).toNat (px_rd w (px_rd w x1 4) (x2).toNat)) x1 5) (x2).toNat)) (px_rd (px_wr (px_wr w (px_rd w x0 4) (x2).toNat (px_rd w (px_rd w x1 4) (x2).toNat)) (px_rd (px_wr w (px_rd w x0 4) (x2).toNat (px_rd w (px_rd w x1 4) (x2).toNat)) x0 5) (x2).toNat (px_rd (px_wr w (px_rd w x0 4) (x2).toNat (px_rd w (px_rd w x1 4) (x2).toNat)) (px_rd (px_wr w (px_rd w x0 4) (x2).toNat (px_rd w (px_rd w x1 4) (x2).toNat)) x1 5) (x2).toNat)) x0 6) (x2).toNat (px_rd (px_wr (px_wr w (px_rd w x0 4) (x2).toNat (px_rd w (px_rd w x1 4) (x2).toNat)) (px_rd (px_wr w (px_rd w x0 4) (x2).toNat (px_rd w (px_rd w x1 4) (x2).toNat)) x0 5) (x2).toNat (px_rd (px_wr w (px_rd w x0 4) (x2).toNat (px_rd w (px_rd w x1 4) (x2).toNat)) (px_rd (px_wr w (px_rd w x0 4) (x2).toNat (px_rd w (px_rd w x1 4) (x2).toNat)) x1 5) (x2).toNat)) (px_rd (px_wr (px_wr w (px_rd w x0 4) (x2).toNat (px_rd w (px_rd w x1 4) (x2).toNat)) (px_rd (px_wr w (px_rd w x0 4) (x2).toNat (px_rd w (px_rd w x1 4) (x2).toNat)) x0 5) (x2).toNat (px_rd (px_wr w (px_rd w x0 4) (x2).toNat (px_rd w (px_rd w x1 4) (x2).toNat)) (px_rd (px_wr w (px_rd w x0 4) (x2).toNat (px_rd w (px_rd w x1 4) (x2).toNat)) x1 5) (x2).toNat)) x1 6) (x2).toNat)) x1 4 = true then
                                  if px_ga (px_wr (px_wr (px_wr w (px_rd w x0 4) (x2).toNat (px_rd w (px_rd w x1 4) (x2).toNat)) (px_rd (px_wr w (px_rd w x0 4) (x2).toNat (px_rd w (px_rd w x1 4) (x2).toNat)) x0 5) (x2).toNat (px_rd (px_wr w (px_rd w x0 4) (x2).toNat (px_rd w (px_rd w x1 4) (x2).toNat)) (px_rd (px_wr w (px_rd w x0 4) (x2).toNat (px_rd w (px_rd w x1 4) (x2).toNat)) x1 5) (x2).toNat)) (px_rd (px_wr (px_wr w (px_rd w x0 4) (x2).toNat (px_rd w (px_rd w x1 4) (x2).toNat)) (px_rd (px_wr w (px_rd w x0 4) (x2).toNat (px_rd w (px_rd w x1 4) (x2).toNat)) x0 5) (x2).toNat (px_rd (px_wr w (px_rd w x0 4) (x2).toNat (px_rd w (px_rd w x1 4) (x2).toNat)) (px_rd (px_wr w (px_rd w x0 4) (x2).toNat (px_rd w (px_rd w x1 4) (x2).toNat)) x1 5) (x2).toNat)) x0 6) (x2).toNat (px_rd (px_wr (px_wr w (px_rd w x0 4) (x2).toNat (px_rd w (px_rd w x1 4) (x2).toNat)) (px_rd (px_wr w (px_rd w x0 4) (x2).toNat (px_rd w (px_rd w x1 4) (x2).toNat)) x0 5) (x2).toNat (px_rd (px_wr w (px_rd w x0 4) (x2).toNat (px_rd w (px_rd w x1 4) (x2).toNat)) (px_rd (px_wr w (px_rd w x0 4) (x2).toNat (px_rd w (px_rd w x1 4) (x2).toNat)) x1 5) (x2).toNat)) (px_rd (px_wr (px_wr w (px_rd w x0 4) (x2).toNat (px_rd w (px_rd w x1 4) (x2).toNat)) (px_rd (px_wr w (px_rd w x0 4) (x2).toNat (px_rd w (px_rd w x1 4) (x2).toNat)) x0 5) (x2).toNat (px_rd (px_wr w (px_rd w x0 4) (x2).toNat (px_rd w (px_rd w x1 4) (x2).toNat)) (px_rd (px_wr w (px_rd w x0 4) (x2).toNat (px_rd w (px_rd w x1 4) (x2).toNat)) x1 5) (x2).toNat)) x1 6) (x2).toNat)) 0 (px_rd (px_wr (px_wr (px_wr w (px_rd w x0 4) (x2).toNat (px_rd w (px_rd w x1 4) (x2).toNat)) (px_rd (px_wr w (px_rd w x0 4) (x2).toNat (px_rd w (px_rd w x1 4) (x2).toNat)) x0 5) (x2).toNat (px_rd (px_wr w (px_rd w x0 4) (x2).toNat (px_rd w (px_rd w x1 4) (x2).toNat)) (px_rd (px_wr w (px_rd w x0 4) (x2).toNat (px_rd w (px_rd w x1 4) (x2).toNat)) x1 5) (x2).toNat)) (px_rd (px_wr (px_wr w (px_rd w x0 4) (x2).toNat (px_rd w (px_rd w x1 4) (x2).toNat)) (px_rd (px_wr w (px_rd w x0 4) (x2).toNat (px_rd w (px_rd w x1 4) (x2).toNat)) x0 5) (x2).toNat (px_rd (px_wr w (px_rd w x0 4) (x2).toNat (px_rd w (px_rd w x1 4) (x2).toNat)) (px_rd (px_wr w (px_rd w x0 4) (x2).toNat (px_rd w (px_rd w x1 4) (x2).toNat)) x1 5) (x2).toNat)) x0 6) (x2).toNat (px_rd (px_wr (px_wr w (px_rd w x0 4) (x2).toNat (px_rd w (px_rd w x1 4) (x2).toNat)) (px_rd (px_wr w (px_rd w x0 4) (x2).toNat (px_rd w (px_rd w x1 4) (x2).toNat)) x0 5) (x2).toNat (px_rd (px_wr w (px_rd w x0 4) (x2).toNat (px_rd w (px_rd w x1 4) (x2).toNat)) (px_rd (px_wr w (px_rd w x0 4) (x2).toNat (px_rd w (px_rd w x1 4) (x2).toNat)) x1 5) (x2).toNat)) (px_rd (px_wr (px_wr w (px_rd w x0 4) (x2).toNat (px_rd w (px_rd w x1 4) (x2).toNat)) (px_rd (px_wr w (px_rd w x0 4) (x2).toNat (px_rd w (px_rd w x1 4) (x2).toNat)) x0 5) (x2).toNat (px_rd (px_wr w (px_rd w x0 4) (x2).toNat (px_rd w (px_rd w x1 4) (x2).toNat)) (px_rd (px_wr w (px_rd w x0 4) (x2).toNat (px_rd w (px_rd w x1 4) (x2).toNat)) x1 5) (x2).toNat)) x1 6) (x2).toNat)) x1 7) x2 = true then
                                    if px_ga (px_wr (px_wr (px_wr w (px_rd w x0 4) (x2).toNat (px_rd w (px_rd w x1 4) (x2).toNat)) (px_rd (px_wr w (px_rd w x0 4) (x2).toNat (px_rd w (px_rd w x1 4) (x2).toNat)) x0 5) (x2).toNat (px_rd (px_wr w (px_rd w x0 4) (x2).toNat (px_rd w (px_rd w x1 4) (x2).toNat)) (px_rd (px_wr w (px_rd w x0 4) (x2).toNat (px_rd w (px_rd w x1 4) (x2).toNat)) x1 5) (x2).toNat)) (px_rd (px_wr (px_wr w (px_rd w x0 4) (x2).toNat (px_rd w (px_rd w x1 4) (x2).toNat)) (px_rd (px_wr w (px_rd w x0 4) (x2).toNat (px_rd w (px_rd w x1 4) (x2).toNat)) x0 5) (x2).toNat (px_rd (px_wr w (px_rd w x0 4) (x2).toNat (px_rd w (px_rd w x1 4) (x2).toNat)) (px_rd (px_wr w (px_rd w x0 4) (x2).toNat (px_rd w (px_rd w x1 4) (x2).toNat)) x1 5) (x2).toNat)) x0 6) (x2).toNat (px_rd (px_wr (px_wr w (px_rd w x0 4) (x2).toNat (px_rd w (px_rd w x1 4) (x2).toNat)) (px_rd (px_wr w (px_rd w x0 4) (x2).toNat (px_rd w (px_rd w x1 4) (x2).toNat)) x0 5) (x2).toNat (px_rd (px_wr w (px_rd w x0 4) (x2).toNat (px_rd w (px_rd w x1 4) (x2).toNat)) (px_rd (px_wr w (px_rd w x0 4) (x2).toNat (px_rd w (px_rd w x1 4) (x2).toNat)) x1 5) (x2).toNat)) (px_rd (px_wr (px_wr w (px_rd w x0 4) (x2).toNat (px_rd w (px_rd w x1 4) (x2).toNat)) (px_rd (px_wr w (px_rd w x0 4) (x2).toNat (px_rd w (px_rd w x1 4) (x2).toNat)) x0 5) (x2).toNat (px_rd (px_wr w (px_rd w x0 4) (x2).toNat (px_rd w (px_rd w x1 4) (x2).toNat)) (px_rd (px_wr w (px_rd w x0 4) (x2).toNat (px_rd w (px_rd w x1 4) (x2).toNat)) x1 5) (x2).toNat)) x1 6) (x2).toNat)) 0 (px_rd (px_wr (px_wr (px_wr w (px_rd w x0 4) (x2).toNat (px_rd w (px_rd w x1 4) (x2).toNat)) (px_rd (px_wr w (px_rd w x0 4) (x2).toNat (px_rd w (px_rd w x1 4) (x2).toNat)) x0 5) (x2).toNat (px_rd (px_wr w (px_rd w x0 4) (x2).toNat (px_rd w (px_rd w x1 4) (x2).toNat)) (px_rd (px_wr w (px_rd w x0 4) (x2).toNat (px_rd w (px_rd w x1 4) (x2).toNat)) x1 5) (x2).toNat)) (px_rd (px_wr (px_wr w (px_rd w x0 4) (x2).toNat (px_rd w (px_rd w x1 4) (x2).toNat)) (px_rd (px_wr w (px_rd w x0 4) (x2).toNat (px_rd w (px_rd w x1 4) (x2).toNat)) x0 5) (x2).toNat (px_rd (px_wr w (px_rd w x0 4) (x2).toNat (px_rd w (px_rd w x1 4) (x2).toNat)) (px_rd (px_wr w (px_rd w x0 4) (x2).toNat (px_rd w (px_rd w x1 4) (x2).toNat)) x1 5) (x2).toNat)) x0 6) (x2).toNat (px_rd (px_wr (px_wr w (px_rd w x0 4) (x2).toNat (px_rd w (px_rd w x1 4) (x2).toNat)) (px_rd (px_wr w (px_rd w x0 4) (x2).toNat (px_rd w (px_rd w x1 4) (x2).toNat)) x0 5) (x2).toNat (px_rd (px_wr w (px_rd w x0 4) (x2).toNat (px_rd w (px_rd w x1 4) (x2).toNat)) (px_rd (px_wr w (px_rd w x0 4) (x2).toNat (px_rd w (px_rd w x1 4) (x2).toNat)) x1 5) (x2).toNat)) (px_rd (px_wr (px_wr w (px_rd w x0 4) (x2).toNat (px_rd w (px_rd w x1 4) (x2).toNat)) (px_rd (px_wr w (px_rd w x0 4) (x2).toNat (px_rd w (px_rd w x1 4) (x2).toNat)) x0 5) (x2).toNat (px_rd (px_wr w (px_rd w x0 4) (x2).toNat (px_rd w (px_rd w x1 4) (x2).toNat)) (px_rd (px_wr w (px_rd w x0 4) (x2).toNat (px_rd w (px_rd w x1 4) (x2).toNat)) x1 5) (x2).toNat)) x1 6) (x2).toNat)) x0 7) x2 = true then
                                      px_R (mm_Row_become, 88, [(2, x0), (2, x1), (0, x2)], [], (px_wr (px_wr (px_wr (px_wr w (px_rd w x0 4) (x2).toNat (px_rd w (px_rd w x1 4) (x2).toNat)) (px_rd (px_wr w (px_rd w x0 4) (x2).toNat (px_rd w (px_rd w x1 4) (x2).toNat)) x0 5) (x2).toNat (px_rd (px_wr w (px_rd w x0 4) (x2).toNat (px_rd w (px_rd w x1 4) (x2).toNat)) (px_rd (px_wr w (px_rd w x0 4) (x2).toNat (px_rd w (px_rd w x1 4) (x2).toNat)) x1 5) (x2).toNat)) (px_rd (px_wr (px_wr w (px_rd w x0 4) (x2).toNat (px_rd w (px_rd w x1 4) (x2).toNat)) (px_rd (px_wr w (px_rd w x0 4) (x2).toNat (px_rd w (px_rd w x1 4) (x2).toNat)) x0 5) (x2).toNat (px_rd (px_wr w (px_rd w x0 4) (x2).toNat (px_rd w (px_rd w x1 4) (x2).toNat)) (px_rd (px_wr w (px_rd w x0 4) (x2).toNat (px_rd w (px_rd w x1 4) (x2).toNat)) x1 5) (x2).toNat)) x0 6) (x2).toNat (px_rd (px_wr (px_wr w (px_rd w x0 4) (x2).toNat (px_rd w (px_rd w x1 4) (x2).toNat)) (px_rd (px_wr w (px_rd w x0 4) (x2).toNat (px_rd w (px_rd w x1 4) (x2).toNat)) x0 5) (x2).toNat (px_rd (px_wr w (px_rd w x0 4) (x2).toNat (px_rd w (px_rd w x1 4) (x2).toNat)) (px_rd (px_wr w (px_rd w x0 4) (x2).toNat (px_rd w (px_rd w x1 4) (x2).toNat)) x1 5) (x2).toNat)) (px_rd (px_wr (px_wr w (px_rd w x0 4) (x2).toNat (px_rd w (px_rd w x1 4) (x2).toNat)) (px_rd (px_wr w (px_rd w x0 4) (x2).toNat (px_rd w (px_rd w x1 4) (x2).toNat)) x0 5) (x2).toNat (px_rd (px_wr w (px_rd w x0 4) (x2).toNat (px_rd w (px_rd w x1 4) (x2).toNat)) (px_rd (px_wr w (px_rd w x0 4) (x2).toNat (px_rd w (px_rd w x1 4) (x2).toNat)) x1 5) (x2).toNat)) x1 6) (x2).toNat)) (px_rd (px_wr (px_wr (px_wr w (px_rd w x0 4) (x2).toNat (px_rd w (px_rd w x1 4) (x2).toNat)) (px_rd (px_wr w (px_rd w x0 4) (x2).toNat (px_rd w (px_rd w x1 4) (x2).toNat)) x0 5) (x2).toNat (px_rd (px_wr w (px_rd w x0 4) (x2).toNat (px_rd w (px_rd w x1 4) (x2).toNat)) (px_rd (px_wr w (px_rd w x0 4) (x2).toNat (px_rd w (px_rd w x1 4) (x2).toNat)) x1 5) (x2).toNat)) (px_rd (px_wr (px_wr w (px_rd w x0 4) (x2).toNat (px_rd w (px_rd w x1 4) (x2).toNat)) (px_rd (px_wr w (px_rd w x0 4) (x2).toNat (px_rd w (px_rd w x1 4) (x2).toNat)) x0 5) (x2).toNat (px_rd (px_wr w (px_rd w x0 4) (x2).toNat (px_rd w (px_rd w x1 4) (x2).toNat)) (px_rd (px_wr w (px_rd w x0 4) (x2).toNat (px_rd w (px_rd w x1 4) (x2).toNat)) x1 5) (x2).toNat)) x0 6) (x2).toNat (px_rd (px_wr (px_wr w (px_rd w x0 4) (x2).toNat (px_rd w (px_rd w x1 4) (x2).toNat)) (px_rd (px_wr w (px_rd w x0 4) (x2).toNat (px_rd w (px_rd w x1 4) (x2).toNat)) x0 5) (x2).toNat (px_rd (px_wr w (px_rd w x0 4) (x2).toNat (px_rd w (px_rd w x1 4) (x2).toNat)) (px_rd (px_wr w (px_rd w x0 4) (x2).toNat (px_rd w (px_rd w x1 4) (x2).toNat)) x1 5) (x2).toNat)) (px_rd (px_wr (px_wr w (px_rd w x0 4) (x2).toNat (px_rd w (px_rd w x1 4) (x2).toNat)) (px_rd (px_wr w (px_rd w x0 4) (x2).toNat (px_rd w (px_rd w x1 4) (x2).toNat)) x0 5) (x2).toNat (px_rd (px_wr w (px_rd w x0 4) (x2).toNat (px_rd w (px_rd w x1 4) (x2).toNat)) (px_rd (px_wr w (px_rd w x0 4) (x2).toNat (px_rd w (px_rd w x1 4) (x2).toNat)) x1 5) (x2).toNat)) x1 6) (x2).toNat)) x0 7) (x2).toNat (px_rd (px_wr (px_wr (px_wr w (px_rd w x0 4) (x2).toNat (px_rd w (px_rd w x1 4) (x2).toNat)) (px_rd (px_wr w (px_rd w x0 4) (x2).toNat (px_rd w (px_rd w x1 4) (x2).toNat)) x0 5) (x2).toNat (px_rd (px_wr w (px_rd w x0 4) (x2).toNat (px_rd w (px_rd w x1 4) (x2).toNat)) (px_rd (px_wr w (px_rd w x0 4) (x2).toNat (px_rd w (px_rd w x1 4) (x2).toNat)) x1 5) (x2).toNat)) (px_rd (px_wr (px_wr w (px_rd w x0 4) (x2).toNat (px_rd w (px_rd w x1 4) (x2).toNat)) (px_rd (px_wr w (px_rd w x0 4) (x2).toNat (px_rd w (px_rd w x1 4) (x2).toNat)) x0 5) (x2).toNat (px_rd (px_wr w (px_rd w x0 4) (x2).toNat (px_rd w (px_rd w x1 4) (x2).toNat)) (px_rd (px_wr w (px_rd w x0 4) (x2).toNat (px_rd w (px_rd w x1 4) (x2).toNat)) x1 5) (x2).toNat)) x0 6) (x2).toNat (px_rd (px_wr (px_wr w (px_rd w x0 4) (x2).toNat (px_rd w (px_rd w x1 4) (x2).toNat)) (px_rd (px_wr w (px_rd w x0 4) (x2).toNat (px_rd w (px_rd w x1 4) (x2).toNat)) x0 5) (x2).toNat (px_rd (px_wr w (px_rd w x0 4) (x2).toNat (px_rd w (px_rd w x1 4) (x2).toNat)) (px_rd (px_wr w (px_rd w x0 4) (x2).toNat (px_rd w (px_rd w x1 4) (x2).toNat)) x1 5) (x2).toNat)) (px_rd (px_wr (px_wr w (px_rd w x0 4) (x2).toNat (px_rd w (px_rd w x1 4) (x2).toNat)) (px_rd (px_wr w (px_rd w x0 4) (x2).toNat (px_rd w (px_rd w x1 4) (x2).toNat)) x0 5) (x2).toNat (px_rd (px_wr w (px_rd w x0 4) (x2).toNat (px_rd w (px_rd w x1 4) (x2).toNat)) (px_rd (px_wr w (px_rd w x0 4) (x2).toNat (px_rd w (px_rd w x1 4) (x2).toNat)) x1 5) (x2).toNat)) x1 6) (x2).toNat)) (px_rd (px_wr (px_wr (px_wr w (px_rd w x0 4) (x2).toNat (px_rd w (px_rd w x1 4) (x2).toNat)) (px_rd (px_wr w (px_rd w x0 4) (x2).toNat (px_rd w (px_rd w x1 4) (x2).toNat)) x0 5) (x2).toNat (px_rd (px_wr w (px_rd w x0 4) (x2).toNat (px_rd w (px_rd w x1 4) (x2).toNat)) (px_rd (px_wr w (px_rd w x0 4) (x2).toNat (px_rd w (px_rd w x1 4) (x2).toNat)) x1 5) (x2).toNat)) (px_rd (px_wr (px_wr w (px_rd w x0 4) (x2).toNat (px_rd w (px_rd w x1 4) (x2).toNat)) (px_rd (px_wr w (px_rd w x0 4) (x2).toNat (px_rd w (px_rd w x1 4) (x2).toNat)) x0 5) (x2).toNat (px_rd (px_wr w (px_rd w x0 4) (x2).toNat (px_rd w (px_rd w x1 4) (x2).toNat)) (px_rd (px_wr w (px_rd w x0 4) (x2).toNat (px_rd w (px_rd w x1 4) (x2).toNat)) x1 5) (x2).toNat)) x0 6) (x2).toNat (px_rd (px_wr (px_wr w (px_rd w x0 4) (x2).toNat (px_rd w (px_rd w x1 4) (x2).toNat)) (px_rd (px_wr w (px_rd w x0 4) (x2).toNat (px_rd w (px_rd w x1 4) (x2).toNat)) x0 5) (x2).toNat (px_rd (px_wr w (px_rd w x0 4) (x2).toNat (px_rd w (px_rd w x1 4) (x2).toNat)) (px_rd (px_wr w (px_rd w x0 4) (x2).toNat (px_rd w (px_rd w x1 4) (x2).toNat)) x1 5) (x2).toNat)) (px_rd (px_wr (px_wr w (px_rd w x0 4) (x2).toNat (px_rd w (px_rd w x1 4) (x2).toNat)) (px_rd (px_wr w (px_rd w x0 4) (x2).toNat (px_rd w (px_rd w x1 4) (x2).toNat)) x0 5) (x2).toNat (px_rd (px_wr w (px_rd w x0 4) (x2).toNat (px_rd w (px_rd w x1 4) (x2).toNat)) (px_rd (px_wr w (px_rd w x0 4) (x2).toNat (px_rd w (px_rd w x1 4) (x2).toNat)) x1 5) (x2).toNat)) x1 6) (x2).toNat)) x1 7) (x2).toNat)))
                                    else none
                                  else none
                                else none
                              else none
                            else none
                          else none
                        else none
                      else none
                    else none
                  else none
                else none
              else none
            else none
          else none
        else none
      else none
    else
      some (0, w)) := (px_Req mm_Row_become 34 [(2, x0), (2, x1), (0, x2)] [] w).trans rfl
set_option maxRecDepth 100000 in
theorem eq_Row_become_88 (x0 x1 x2 : Int) (w : pw) : px_R (mm_Row_become, 88, [(2, x0), (2, x1), (0, x2)], [], w) =
    (px_R (mm_Row_become, 34, [(2, x0), (2, x1), (0, (px_w (x2 + 1)))], [], w)) := (px_Req mm_Row_become 88 [(2, x0), (2, x1), (0, x2)] [] w).trans rfl
set_option maxRecDepth 100000 in
theorem eq_Row_lay_0 (x0 x1 : Int) (w : pw) : px_R (mm_Row_lay, 0, [(2, x0), (0, x1), (9, 0)], [], w) =
    (if px_go w x0 4 = true then
      if px_go (px_wr w x0 0 x1) x0 4 = true then
        if px_go (px_wr (px_wr w x0 0 x1) x0 1 0) x0 4 = true then
          if px_go (px_wr (px_wr (px_wr w x0 0 x1) x0 1 0) x0 2 0) x0 4 = true then
            px_R (mm_Row_lay, 20, [(2, x0), (0, x1), (9, 0)], [], (px_wr (px_wr (px_wr (px_wr w x0 0 x1) x0 1 0) x0 2 0) x0 3 0))
          else none
        else none
      else none
    else none) := (px_Req mm_Row_lay 0 [(2, x0), (0, x1), (9, 0)] [] w).trans rfl
set_option maxRecDepth 100000 in
theorem eq_Row_lay_20 (x0 x1 : Int) (w : pw) : px_R (mm_Row_lay, 20, [(2, x0), (0, x1), (9, 0)], [], w) =
    (px_R (mm_Row_lay, 22, [(2, x0), (0, x1), (0, 0)], [], w)) := (px_Req mm_Row_lay 20 [(2, x0), (0, x1), (9, 0)] [] w).trans rfl
set_option maxRecDepth 100000 in
theorem eq_Row_lay_22 (x0 x1 x2 : Int) (w : pw) : px_R (mm_Row_lay, 22, [(2, x0), (0, x1), (0, x2)], [], w) =
    (if x2 < 40 then
      if px_go w x0 4 = true then
        if px_ga w 0 (px_rd w x0 4) x2 = true then
          if px_go (px_wr w (px_rd w x0 4) (x2).toNat 0) x0 4 = true then
            if px_ga (px_wr w (px_rd w x0 4) (x2).toNat 0) 0 (px_rd (px_wr w (px_rd w x0 4) (x2).toNat 0) x0 5) x2 = true then
              if px_go (px_wr (px_wr w (px_rd w x0 4) (x2).toNat 0) (px_rd (px_wr w (px_rd w x0 4) (x2).toNat 0) x0 5) (x2).toNat 0) x0 4 = true then
                if px_ga (px_wr (px_wr w (px_rd w x0 4) (x2).toNat 0) (px_rd (px_wr w (px_rd w x0 4) (x2).toNat 0) x0 5) (x2).toNat 0) 0 (px_rd (px_wr (px_wr w (px_rd w x0 4) (x2).toNat 0) (px_rd (px_wr w (px_rd w x0 4) (x2).toNat 0) x0 5) (x2).toNat 0) x0 6) x2 = true then
                  if px_go (px_wr (px_wr (px_wr w (px_rd w x0 4) (x2).toNat 0) (px_rd (px_wr w (px_rd w x0 4) (x2).toNat 0) x0 5) (x2).toNat 0) (px_rd (px_wr (px_wr w (px_rd w x0 4) (x2).toNat 0) (px_rd (px_wr w (px_rd w x0 4) (x2).toNat 0) x0 5) (x2).toNat 0) x0 6) (x2).toNat 100) x0 4 = true then
                    if px_ga (px_wr (px_wr (px_wr w (px_rd w x0 4) (x2).toNat 0) (px_rd (px_wr w (px_rd w x0 4) (x2).toNat 0) x0 5) (x2).toNat 0) (px_rd (px_wr (px_wr w (px_rd w x0 4) (x2).toNat 0) (px_rd (px_wr w (px_rd w x0 4) (x2).toNat 0) x0 5) (x2).toNat 0) x0 6) (x2).toNat 100) 0 (px_rd (px_wr (px_wr (px_wr w (px_rd w x0 4) (x2).toNat 0) (px_rd (px_wr w (px_rd w x0 4) (x2).toNat 0) x0 5) (x2).toNat 0) (px_rd (px_wr (px_wr w (px_rd w x0 4) (x2).toNat 0) (px_rd (px_wr w (px_rd w x0 4) (x2).toNat 0) x0 5) (x2).toNat 0) x0 6) (x2).toNat 100) x0 7) x2 = true then
                      px_R (mm_Row_lay, 57, [(2, x0), (0, x1), (0, x2)], [], (px_wr (px_wr (px_wr (px_wr w (px_rd w x0 4) (x2).toNat 0) (px_rd (px_wr w (px_rd w x0 4) (x2).toNat 0) x0 5) (x2).toNat 0) (px_rd (px_wr (px_wr w (px_rd w x0 4) (x2).toNat 0) (px_rd (px_wr w (px_rd w x0 4) (x2).toNat 0) x0 5) (x2).toNat 0) x0 6) (x2).toNat 100) (px_rd (px_wr (px_wr (px_wr w (px_rd w x0 4) (x2).toNat 0) (px_rd (px_wr w (px_rd w x0 4) (x2).toNat 0) x0 5) (x2).toNat 0) (px_rd (px_wr (px_wr w (px_rd w x0 4) (x2).toNat 0) (px_rd (px_wr w (px_rd w x0 4) (x2).toNat 0) x0 5) (x2).toNat 0) x0 6) (x2).toNat 100) x0 7) (x2).toNat 0))
                    else none
                  else none
                else none
              else none
            else none
          else none
        else none
      else none
    else
      some (0, w)) := (px_Req mm_Row_lay 22 [(2, x0), (0, x1), (0, x2)] [] w).trans rfl
set_option maxRecDepth 100000 in
theorem eq_Row_lay_57 (x0 x1 x2 : Int) (w : pw) : px_R (mm_Row_lay, 57, [(2, x0), (0, x1), (0, x2)], [], w) =
    (px_R (mm_Row_lay, 22, [(2, x0), (0, x1), (0, (px_w (x2 + 1)))], [], w)) := (px_Req mm_Row_lay 57 [(2, x0), (0, x1), (0, x2)] [] w).trans rfl
set_option maxRecDepth 100000 in
theorem eq_Row_part_0 (x0 x1 : Int) (w : pw) : px_R (mm_Row_part, 0, [(0, x0), (0, x1)], [], w) =
    (some ((px_w (Int.tdiv (px_w (x0 * x1)) 100)), w)) := (px_Req mm_Row_part 0 [(0, x0), (0, x1)] [] w).trans rfl
set_option maxRecDepth 100000 in
theorem eq_Str_forget_0 (x0 : Int) (w : pw) : px_R (mm_Str_forget, 0, [(2, x0), (9, 0)], [], w) =
    (if px_go w x0 5 = true then
      px_R (mm_Str_forget, 7, [(2, x0), (0, 0)], [], (px_wr w x0 0 0))
    else none) := (px_Req mm_Str_forget 0 [(2, x0), (9, 0)] [] w).trans rfl
set_option maxRecDepth 100000 in
theorem eq_Str_forget_7 (x0 x1 : Int) (w : pw) : px_R (mm_Str_forget, 7, [(2, x0), (0, x1)], [], w) =
    (if x1 < 9 then
      if px_go w x0 5 = true then
        if px_ga w 0 (px_rd w x0 1) x1 = true then
          px_R (mm_Str_forget, 7, [(2, x0), (0, (px_w (x1 + 1)))], [], (px_wr w (px_rd w x0 1) (x1).toNat 0))
        else none
      else none
    else
      if px_go w x0 5 = true then
        if (px_ga w 4 (px_rd w x0 3) 6 || (px_ga w 5 (px_rd w x0 3) 6 || px_ga w 6 (px_rd w x0 3) 6)) = true then
          if px_ga w 0 (px_rd w (px_rd w x0 3) 6) 0 = true then
            if px_go (px_wr w (px_rd w (px_rd w x0 3) 6) 0 0) x0 5 = true then
              if (px_ga (px_wr w (px_rd w (px_rd w x0 3) 6) 0 0) 4 (px_rd (px_wr w (px_rd w (px_rd w x0 3) 6) 0 0) x0 3) 7 || (px_ga (px_wr w (px_rd w (px_rd w x0 3) 6) 0 0) 5 (px_rd (px_wr w (px_rd w (px_rd w x0 3) 6) 0 0) x0 3) 7 || px_ga (px_wr w (px_rd w (px_rd w x0 3) 6) 0 0) 6 (px_rd (px_wr w (px_rd w (px_rd w x0 3) 6) 0 0) x0 3) 7)) = true then
                if px_ga (px_wr w (px_rd w (px_rd w x0 3) 6) 0 0) 0 (px_rd (px_wr w (px_rd w (px_rd w x0 3) 6) 0 0) (px_rd (px_wr w (px_rd w (px_rd w x0 3) 6) 0 0) x0 3) 7) 0 = true then
                  if px_go (px_wr (px_wr w (px_rd w (px_rd w x0 3) 6) 0 0) (px_rd (px_wr w (px_rd w (px_rd w x0 3) 6) 0 0) (px_rd (px_wr w (px_rd w (px_rd w x0 3) 6) 0 0) x0 3) 7) 0 0) x0 5 = true then
                    if (px_ga (px_wr (px_wr w (px_rd w (px_rd w x0 3) 6) 0 0) (px_rd (px_wr w (px_rd w (px_rd w x0 3) 6) 0 0) (px_rd (px_wr w (px_rd w (px_rd w x0 3) 6) 0 0) x0 3) 7) 0 0) 4 (px_rd (px_wr (px_wr w (px_rd w (px_rd w x0 3) 6) 0 0) (px_rd (px_wr w (px_rd w (px_rd w x0 3) 6) 0 0) (px_rd (px_wr w (px_rd w (px_rd w x0 3) 6) 0 0) x0 3) 7) 0 0) x0 3) 8 || (px_ga (px_wr (px_wr w (px_rd w (px_rd w x0 3) 6) 0 0) (px_rd (px_wr w (px_rd w (px_rd w x0 3) 6) 0 0) (px_rd (px_wr w (px_rd w (px_rd w x0 3) 6) 0 0) x0 3) 7) 0 0) 5 (px_rd (px_wr (px_wr w (px_rd w (px_rd w x0 3) 6) 0 0) (px_rd (px_wr w (px_rd w (px_rd w x0 3) 6) 0 0) (px_rd (px_wr w (px_rd w (px_rd w x0 3) 6) 0 0) x0 3) 7) 0 0) x0 3) 8 || px_ga (px_wr (px_wr w (px_rd w (px_rd w x0 3) 6) 0 0) (px_rd (px_wr w (px_rd w (px_rd w x0 3) 6) 0 0) (px_rd (px_wr w (px_rd w (px_rd w x0 3) 6) 0 0) x0 3) 7) 0 0) 6 (px_rd (px_wr (px_wr w (px_rd w (px_rd w x0 3) 6) 0 0) (px_rd (px_wr w (px_rd w (px_rd w x0 3) 6) 0 0) (px_rd (px_wr w (px_rd w (px_rd w x0 3) 6) 0 0) x0 3) 7) 0 0) x0 3) 8)) = true then
                      if px_ga (px_wr (px_wr w (px_rd w (px_rd w x0 3) 6) 0 0) (px_rd (px_wr w (px_rd w (px_rd w x0 3) 6) 0 0) (px_rd (px_wr w (px_rd w (px_rd w x0 3) 6) 0 0) x0 3) 7) 0 0) 0 (px_rd (px_wr (px_wr w (px_rd w (px_rd w x0 3) 6) 0 0) (px_rd (px_wr w (px_rd w (px_rd w x0 3) 6) 0 0) (px_rd (px_wr w (px_rd w (px_rd w x0 3) 6) 0 0) x0 3) 7) 0 0) (px_rd (px_wr (px_wr w (px_rd w (px_rd w x0 3) 6) 0 0) (px_rd (px_wr w (px_rd w (px_rd w x0 3) 6) 0 0) (px_rd (px_wr w (px_rd w (px_rd w x0 3) 6) 0 0) x0 3) 7) 0 0) x0 3) 8) 0 = true then
                        some (0, (px_wr (px_wr (px_wr w (px_rd w (px_rd w x0 3) 6) 0 0) (px_rd (px_wr w (px_rd w (px_rd w x0 3) 6) 0 0) (px_rd (px_wr w (px_rd w (px_rd w x0 3) 6) 0 0) x0 3) 7) 0 0) (px_rd (px_wr (px_wr w (px_rd w (px_rd w x0 3) 6) 0 0) (px_rd (px_wr w (px_rd w (px_rd w x0 3) 6) 0 0) (px_rd (px_wr w (px_rd w (px_rd w x0 3) 6) 0 0) x0 3) 7) 0 0) (px_rd (px_wr (px_wr w (px_rd w (px_rd w x0 3) 6) 0 0) (px_rd (px_wr w (px_rd w (px_rd w x0 3) 6) 0 0) (px_rd (px_wr w (px_rd w (px_rd w x0 3) 6) 0 0) x0 3) 7) 0 0) x0 3) 8) 0 1))
                      else none
                    else none
                  else none
                else none
              else none
            else none
          else none
        else none
      else none) := (px_Req mm_Str_forget 7 [(2, x0), (0, x1)] [] w).trans rfl
set_option maxRecDepth 100000 in
theorem eq_Str_isNamed_0 (x0 : Int) (w : pw) : px_R (mm_Str_isNamed, 0, [(0, x0)], [], w) =
    (if x0 < 6 then
      if x0 = 4 then
        some (0, w)
      else
        some (1, w)
    else
      some (0, w)) := (px_Req mm_Str_isNamed 0 [(0, x0)] [] w).trans rfl
set_option maxRecDepth 100000 in
theorem eq_Str_number_0 (x0 x1 x2 x3 : Int) (w : pw) : px_R (mm_Str_number, 0, [(2, x0), (0, x1), (0, x2), (0, x3)], [], w) =
    (if px_go w x0 5 = true then
      if (px_ga w 4 (px_rd w x0 3) x1 || (px_ga w 5 (px_rd w x0 3) x1 || px_ga w 6 (px_rd w x0 3) x1)) = true then
        if px_ga w 0 (px_rd w (px_rd w x0 3) (x1).toNat) (px_w ((px_w (x2 * 5)) + x3)) = true then
          some ((px_rd w (px_rd w (px_rd w x0 3) (x1).toNat) ((px_w ((px_w (x2 * 5)) + x3))).toNat), w)
        else none
      else none
    else none) := (px_Req mm_Str_number 0 [(2, x0), (0, x1), (0, x2), (0, x3)] [] w).trans rfl
set_option maxRecDepth 100000 in
theorem eq_Str_ofBand_0 (x0 x1 x2 x3 : Int) (w : pw) : px_R (mm_Str_ofBand, 0, [(2, x0), (0, x1), (0, x2), (0, x3), (9, 0)], [], w) =
    (if x1 = 0 then
      px_R (mm_Str_ofBand, 9, [(2, x0), (0, x1), (0, x2), (0, x3), (9, 0)], [], w)
    else
      if x1 = 5 then
        px_R (mm_Str_ofBand, 9, [(2, x0), (0, x1), (0, x2), (0, x3), (9, 0)], [], w)
      else
        if px_go w x0 5 = true then
          if (px_ga w 4 (px_rd w x0 3) x1 || (px_ga w 5 (px_rd w x0 3) x1 || px_ga w 6 (px_rd w x0 3) x1)) = true then
            if px_ga w 0 (px_rd w (px_rd w x0 3) (x1).toNat) (px_w ((px_w ((px_w (x2 * 5)) + 0)) + x3)) = true then
              some ((px_rd w (px_rd w (px_rd w x0 3) (x1).toNat) ((px_w ((px_w ((px_w (x2 * 5)) + 0)) + x3))).toNat), w)
            else none
          else none
        else none) := (px_Req mm_Str_ofBand 0 [(2, x0), (0, x1), (0, x2), (0, x3), (9, 0)] [] w).trans rfl
set_option maxRecDepth 100000 in
theorem eq_Str_ofBand_9 (x0 x1 x2 x3 : Int) (w : pw) : px_R (mm_Str_ofBand, 9, [(2, x0), (0, x1), (0, x2), (0, x3), (9, 0)], [], w) =
    (if px_go w x0 5 = true then
      if (px_ga w 4 (px_rd w x0 3) x1 || (px_ga w 5 (px_rd w x0 3) x1 || px_ga w 6 (px_rd w x0 3) x1)) = true then
        if px_ga w 0 (px_rd w (px_rd w x0 3) (x1).toNat) (px_w ((px_w ((px_w (x2 * 5)) + 1)) + x3)) = true then
          some ((px_rd w (px_rd w (px_rd w x0 3) (x1).toNat) ((px_w ((px_w ((px_w (x2 * 5)) + 1)) + x3))).toNat), w)
        else none
      else none
    else none) := (px_Req mm_Str_ofBand 9 [(2, x0), (0, x1), (0, x2), (0, x3), (9, 0)] [] w).trans rfl
set_option maxRecDepth 100000 in
theorem eq_Tape_isBlank_0 (x0 : Int) (w : pw) : px_R (mm_Tape_isBlank, 0, [(0, x0)], [], w) =
    (if x0 = 32 then
      some (1, w)
    else
      if x0 = 10 then
        some (1, w)
      else
        some (0, w)) := (px_Req mm_Tape_isBlank 0 [(0, x0)] [] w).trans rfl
set_option maxRecDepth 100000 in
theorem eq_Tape_isDigit_0 (x0 : Int) (w : pw) : px_R (mm_Tape_isDigit, 0, [(0, x0)], [], w) =
    (if x0 < 48 then
      some (0, w)
    else
      if 57 < x0 then
        some (0, w)
      else
        some (1, w)) := (px_Req mm_Tape_isDigit 0 [(0, x0)] [] w).trans rfl
set_option maxRecDepth 100000 in
theorem eq_Tape_isLetter_0 (x0 : Int) (w : pw) : px_R (mm_Tape_isLetter, 0, [(0, x0)], [], w) =
    (if x0 < 97 then
      some (0, w)
    else
      if 122 < x0 then
        some (0, w)
      else
        some (1, w)) := (px_Req mm_Tape_isLetter 0 [(0, x0)] [] w).trans rfl
set_option maxRecDepth 100000 in
theorem eq_Tape_put_0 (x0 x1 : Int) (w : pw) : px_R (mm_Tape_put, 0, [(2, x0), (0, x1), (9, 0)], [], w) =
    (px_R (mm_Tape_put, 3, [(2, x0), (0, x1), (0, 24)], [], w)) := (px_Req mm_Tape_put 0 [(2, x0), (0, x1), (9, 0)] [] w).trans rfl
set_option maxRecDepth 100000 in
theorem eq_Tape_put_3 (x0 x1 x2 : Int) (w : pw) : px_R (mm_Tape_put, 3, [(2, x0), (0, x1), (0, x2)], [], w) =
    (if x2 < 0 then
      some (0, w)
    else
      if px_go w x0 6 = true then
        if (px_rd w x0 1) < 900 then
          if px_go w x0 6 = true then
            if px_go w x0 6 = true then
              if px_gb w (px_rd w x0 0) (px_rd w x0 1) (px_wb (px_shr x1 x2)) = true then
                if px_go (px_wr w (px_rd w x0 0) ((px_rd w x0 1)).toNat (px_wb (px_shr x1 x2))) x0 6 = true then
                  if px_go (px_wr w (px_rd w x0 0) ((px_rd w x0 1)).toNat (px_wb (px_shr x1 x2))) x0 6 = true then
                    px_R (mm_Tape_put, 3, [(2, x0), (0, x1), (0, (px_w (x2 + (-8))))], [], (px_wr (px_wr w (px_rd w x0 0) ((px_rd w x0 1)).toNat (px_wb (px_shr x1 x2))) x0 1 (px_w ((px_rd (px_wr w (px_rd w x0 0) ((px_rd w x0 1)).toNat (px_wb (px_shr x1 x2))) x0 1) + 1))))
                  else none
                else none
              else none
            else none
          else none
        else
          px_R (mm_Tape_put, 3, [(2, x0), (0, x1), (0, (px_w (x2 + (-8))))], [], w)
      else none) := (px_Req mm_Tape_put 3 [(2, x0), (0, x1), (0, x2)] [] w).trans rfl
set_option maxRecDepth 100000 in
theorem eq_Wish_begin_0 (x0 : Int) (w : pw) : px_R (mm_Wish_begin, 0, [(2, x0)], [], w) =
    (if px_go w x0 7 = true then
      some (0, (px_wr w x0 0 0))
    else none) := (px_Req mm_Wish_begin 0 [(2, x0)] [] w).trans rfl
set_option maxRecDepth 100000 in
theorem eq_Wish_isReached_0 (x0 x1 x2 : Int) (w : pw) : px_R (mm_Wish_isReached, 0, [(2, x0), (0, x1), (0, x2), (9, 0)], [], w) =
    (px_R (mm_Wish_isReached, 2, [(2, x0), (0, x1), (0, x2), (0, 0)], [], w)) := (px_Req mm_Wish_isReached 0 [(2, x0), (0, x1), (0, x2), (9, 0)] [] w).trans rfl
set_option maxRecDepth 100000 in
theorem eq_Wish_isReached_2 (x0 x1 x2 x3 : Int) (w : pw) : px_R (mm_Wish_isReached, 2, [(2, x0), (0, x1), (0, x2), (0, x3)], [], w) =
    (if x3 < x2 then
      if px_go w x0 7 = true then
        if px_ga w 0 (px_rd w x0 4) x1 = true then
          if (px_and (px_shr (px_rd w (px_rd w x0 4) (x1).toNat) x3) 1) = 1 then
            if px_go w x0 7 = true then
              if px_ga w 0 (px_rd w x0 5) x3 = true then
                if px_go w x0 7 = true then
                  if px_ga w 0 (px_rd w x0 4) x1 = true then
                    if px_go w x0 7 = true then
                      if px_ga w 0 (px_rd w x0 4) x1 = true then
                        if (px_and (px_rd w (px_rd w x0 5) (x3).toNat) (px_rd w (px_rd w x0 4) (x1).toNat)) = (px_rd w (px_rd w x0 4) (x1).toNat) then
                          px_R (mm_Wish_isReached, 2, [(2, x0), (0, x1), (0, x2), (0, (px_w (x3 + 1)))], [], w)
                        else
                          some (0, w)
                      else none
                    else none
                  else none
                else none
              else none
            else none
          else
            px_R (mm_Wish_isReached, 2, [(2, x0), (0, x1), (0, x2), (0, (px_w (x3 + 1)))], [], w)
        else none
      else none
    else
      some (1, w)) := (px_Req mm_Wish_isReached 2 [(2, x0), (0, x1), (0, x2), (0, x3)] [] w).trans rfl
set_option maxRecDepth 100000 in
theorem eq_Wish_pairOf_0 (x0 x1 x2 : Int) (w : pw) : px_R (mm_Wish_pairOf, 0, [(0, x0), (0, x1), (0, x2)], [], w) =
    (some ((px_w ((px_w ((px_w ((px_w (Int.tdiv (px_w (x0 * (px_w ((px_w ((px_w (2 * x2)) - x0)) - 1)))) 2)) + x1)) - x0)) - 1)), w)) := (px_Req mm_Wish_pairOf 0 [(0, x0), (0, x1), (0, x2)] [] w).trans rfl
set_option maxRecDepth 100000 in
theorem eq_Wish_reachOf_0 (x0 x1 x2 x3 x4 : Int) (w : pw) : px_R (mm_Wish_reachOf, 0, [(2, x0), (0, x1), (0, x2), (0, x3), (0, x4), (9, 0), (9, 0), (9, 0), (9, 0)], [], w) =
    (px_R (mm_Wish_reachOf, 8, [(2, x0), (0, x1), (0, x2), (0, x3), (0, x4), (0, (px_shl 1 x1)), (0, 0), (9, 0), (9, 0)], [], w)) := (px_Req mm_Wish_reachOf 0 [(2, x0), (0, x1), (0, x2), (0, x3), (0, x4), (9, 0), (9, 0), (9, 0), (9, 0)] [] w).trans rfl
set_option maxRecDepth 100000 in
theorem eq_Wish_reachOf_8 (x0 x1 x2 x3 x4 x5 x6 : Int) (y7 y8 : pv) (w : pw) : px_R (mm_Wish_reachOf, 8, [(2, x0), (0, x1), (0, x2), (0, x3), (0, x4), (0, x5), (0, x6), y7, y8], [], w) =
    (if x6 < x4 then
      px_R (mm_Wish_reachOf, 22, [(2, x0), (0, x1), (0, x2), (0, x3), (0, x4), (0, x5), (0, x6), (0, x5), (0, 0)], [], w)
    else
      some (x5, w)) := (px_Req mm_Wish_reachOf 8 [(2, x0), (0, x1), (0, x2), (0, x3), (0, x4), (0, x5), (0, x6), y7, y8] [] w).trans rfl
set_option maxRecDepth 100000 in
theorem eq_Wish_reachOf_22 (x0 x1 x2 x3 x4 x5 x6 x7 x8 : Int) (w : pw) : px_R (mm_Wish_reachOf, 22, [(2, x0), (0, x1), (0, x2), (0, x3), (0, x4), (0, x5), (0, x6), (0, x7), (0, x8)], [], w) =
    (if x8 < x3 then
      if (px_and (px_shr x2 x8) 1) = 1 then
        if px_go w x0 7 = true then
          if px_ga w 0 (px_rd w x0 4) x8 = true then
            if (px_and (px_rd w (px_rd w x0 4) (x8).toNat) x5) = 0 then
              px_R (mm_Wish_reachOf, 22, [(2, x0), (0, x1), (0, x2), (0, x3), (0, x4), (0, x5), (0, x6), (0, x7), (0, (px_w (x8 + 1)))], [], w)
            else
              if px_go w x0 7 = true then
                if px_ga w 0 (px_rd w x0 4) x8 = true then
                  px_R (mm_Wish_reachOf, 22, [(2, x0), (0, x1), (0, x2), (0, x3), (0, x4), (0, x5), (0, x6), (0, (px_or x7 (px_rd w (px_rd w x0 4) (x8).toNat))), (0, (px_w (x8 + 1)))], [], w)
                else none
              else none
          else none
        else none
      else
        px_R (mm_Wish_reachOf, 22, [(2, x0), (0, x1), (0, x2), (0, x3), (0, x4), (0, x5), (0, x6), (0, x7), (0, (px_w (x8 + 1)))], [], w)
    else
      px_R (mm_Wish_reachOf, 8, [(2, x0), (0, x1), (0, x2), (0, x3), (0, x4), (0, x7), (0, (px_w (x6 + 1))), (0, x7), (0, x8)], [], w)) := (px_Req mm_Wish_reachOf 22 [(2, x0), (0, x1), (0, x2), (0, x3), (0, x4), (0, x5), (0, x6), (0, x7), (0, x8)] [] w).trans rfl
set_option maxRecDepth 100000 in
theorem eq_Wish_yardsOf_0 (x0 x1 x2 : Int) (w : pw) : px_R (mm_Wish_yardsOf, 0, [(2, x0), (0, x1), (0, x2), (9, 0), (9, 0)], [], w) =
    (px_R (mm_Wish_yardsOf, 5, [(2, x0), (0, x1), (0, x2), (0, 0), (0, 0)], [], w)) := (px_Req mm_Wish_yardsOf 0 [(2, x0), (0, x1), (0, x2), (9, 0), (9, 0)] [] w).trans rfl
set_option maxRecDepth 100000 in
theorem eq_Wish_yardsOf_5 (x0 x1 x2 x3 x4 : Int) (w : pw) : px_R (mm_Wish_yardsOf, 5, [(2, x0), (0, x1), (0, x2), (0, x3), (0, x4)], [], w) =
    (if x4 < x2 then
      if (px_and (px_shr x1 x4) 1) = 1 then
        if px_go w x0 7 = true then
          if px_ga w 0 (px_rd w x0 3) x4 = true then
            px_R (mm_Wish_yardsOf, 5, [(2, x0), (0, x1), (0, x2), (0, (px_w (x3 + (px_rd w (px_rd w x0 3) (x4).toNat)))), (0, (px_w (x4 + 1)))], [], w)
          else none
        else none
      else
        px_R (mm_Wish_yardsOf, 5, [(2, x0), (0, x1), (0, x2), (0, (px_w (x3 + 0))), (0, (px_w (x4 + 1)))], [], w)
    else
      some (x3, w)) := (px_Req mm_Wish_yardsOf 5 [(2, x0), (0, x1), (0, x2), (0, x3), (0, x4)] [] w).trans rfl
set_option maxRecDepth 100000 in
theorem eq_Tin_allWords_0 (x0 : Int) (w : pw) : px_R (mm_Tin_allWords, 0, [(2, x0)], [], w) =
    (if px_go w x0 8 = true then
      if px_go w (px_rd w x0 8) 5 = true then
        if px_ga w 0 (px_rd w (px_rd w x0 8) 1) 2 = true then
          some ((px_w ((px_shl 1 (px_rd w (px_rd w (px_rd w x0 8) 1) 2)) - 1)), w)
        else none
      else none
    else none) := (px_Req mm_Tin_allWords 0 [(2, x0)] [] w).trans rfl
set_option maxRecDepth 100000 in
theorem eq_Tin_fault_0 (x0 x1 : Int) (w : pw) : px_R (mm_Tin_fault, 0, [(2, x0), (0, x1)], [], w) =
    (if x1 = 0 then
      if px_go w x0 8 = true then
        some ((px_rd w x0 10), w)
      else none
    else
      if x1 = 1 then
        if px_go w x0 8 = true then
          some ((px_rd w x0 11), w)
        else none
      else
        some ((-1), w)) := (px_Req mm_Tin_fault 0 [(2, x0), (0, x1)] [] w).trans rfl
set_option maxRecDepth 100000 in
theorem eq_Tin_lineLacks_0 (x0 : Int) (w : pw) : px_R (mm_Tin_lineLacks, 0, [(2, x0)], [], w) =
    (if px_go w x0 8 = true then
      if px_go w (px_rd w x0 8) 5 = true then
        if px_ga w 0 (px_rd w (px_rd w x0 8) 1) 0 = true then
          if (px_rd w (px_rd w (px_rd w x0 8) 1) 0) = 0 then
            some (1, w)
          else
            if px_go w x0 8 = true then
              if px_go w (px_rd w x0 8) 5 = true then
                if px_ga w 0 (px_rd w (px_rd w x0 8) 1) 1 = true then
                  if (px_rd w (px_rd w (px_rd w x0 8) 1) 1) = 0 then
                    some (1, w)
                  else
                    some (0, w)
                else none
              else none
            else none
        else none
      else none
    else none) := (px_Req mm_Tin_lineLacks 0 [(2, x0)] [] w).trans rfl
set_option maxRecDepth 100000 in
theorem eq_Tin_straighten_0 (x0 : Int) (w : pw) : px_R (mm_Tin_straighten, 0, [(2, x0), (9, 0)], [], w) =
    (if px_go w x0 8 = true then
      if px_go w (px_rd w x0 1) 2 = true then
        if px_go w x0 8 = true then
          if px_go w (px_rd w x0 1) 2 = true then
            if px_go w x0 8 = true then
              if px_go w (px_rd w x0 1) 2 = true then
                if px_go (px_wr w (px_rd w x0 1) 4 0) x0 8 = true then
                  if px_go (px_wr w (px_rd w x0 1) 4 0) (px_rd (px_wr w (px_rd w x0 1) 4 0) x0 1) 2 = true then
                    some ((px_w ((px_rd w (px_rd w x0 1) 4) + (px_rd w (px_rd w x0 1) 6))), (px_wr (px_wr w (px_rd w x0 1) 4 0) (px_rd (px_wr w (px_rd w x0 1) 4 0) x0 1) 6 0))
                  else none
                else none
              else none
            else none
          else none
        else none
      else none
    else none) := (px_Req mm_Tin_straighten 0 [(2, x0), (9, 0)] [] w).trans rfl
set_option maxRecDepth 100000 in
theorem eq_Tin_within_0 (x0 x1 x2 : Int) (w : pw) : px_R (mm_Tin_within, 0, [(0, x0), (0, x1), (0, x2)], [], w) =
    (if x0 < x1 then
      some (0, w)
    else
      if x2 < x0 then
        some (0, w)
      else
        some (1, w)) := (px_Req mm_Tin_within 0 [(0, x0), (0, x1), (0, x2)] [] w).trans rfl
set_option maxRecDepth 100000 in
theorem eq_Mod_allWays_0 (x0 : Int) (w : pw) : px_R (mm_Mod_allWays, 0, [(2, x0), (9, 0), (9, 0)], [], w) =
    (px_R (mm_Mod_allWays, 4, [(2, x0), (0, 1), (0, 0)], [], w)) := (px_Req mm_Mod_allWays 0 [(2, x0), (9, 0), (9, 0)] [] w).trans rfl
set_option maxRecDepth 100000 in
theorem eq_Mod_allWays_4 (x0 x1 x2 : Int) (w : pw) : px_R (mm_Mod_allWays, 4, [(2, x0), (0, x1), (0, x2)], [], w) =
    (if x2 < 8 then
      if px_go w x0 9 = true then
        if px_ga w 0 (px_rd w x0 12) 8 = true then
          px_R (mm_Mod_allWays, 4, [(2, x0), (0, (px_w (x1 * (px_w ((px_rd w (px_rd w x0 12) 8) + 1))))), (0, (px_w (x2 + 1)))], [], w)
        else none
      else none
    else
      some (x1, w)) := (px_Req mm_Mod_allWays 4 [(2, x0), (0, x1), (0, x2)] [] w).trans rfl
set_option maxRecDepth 100000 in
theorem eq_Mod_allWords_0 (x0 : Int) (w : pw) : px_R (mm_Mod_allWords, 0, [(2, x0)], [], w) =
    (if px_go w x0 9 = true then
      if px_ga w 0 (px_rd w x0 12) 2 = true then
        some ((px_w ((px_shl 1 (px_rd w (px_rd w x0 12) 2)) - 1)), w)
      else none
    else none) := (px_Req mm_Mod_allWords 0 [(2, x0)] [] w).trans rfl
set_option maxRecDepth 100000 in
theorem eq_Mod_bearsOf_0 (x0 x1 : Int) (w : pw) : px_R (mm_Mod_bearsOf, 0, [(2, x0), (0, x1), (9, 0)], [], w) =
    (if px_go w x0 9 = true then
      if px_ga w 0 (px_rd w x0 14) (px_w (5 * x1)) = true then
        if px_go w x0 9 = true then
          if px_ga w 0 (px_rd w x0 12) 6 = true then
            if px_go w x0 9 = true then
              if px_ga w 0 (px_rd w x0 12) 7 = true then
                if (px_w ((px_w (Int.tdiv (px_w ((px_rd w (px_rd w x0 14) ((px_w (5 * x1))).toNat) * (px_w (100 - (px_rd w (px_rd w x0 12) 6))))) 100)) - (px_rd w (px_rd w x0 12) 7))) < 0 then
                  some (0, w)
                else
                  some ((px_w ((px_w (Int.tdiv (px_w ((px_rd w (px_rd w x0 14) ((px_w (5 * x1))).toNat) * (px_w (100 - (px_rd w (px_rd w x0 12) 6))))) 100)) - (px_rd w (px_rd w x0 12) 7))), w)
              else none
            else none
          else none
        else none
      else none
    else none) := (px_Req mm_Mod_bearsOf 0 [(2, x0), (0, x1), (9, 0)] [] w).trans rfl
set_option maxRecDepth 100000 in
theorem eq_Mod_begin_0 (x0 : Int) (w : pw) : px_R (mm_Mod_begin, 0, [(2, x0), (9, 0)], [], w) =
    (px_R (mm_Mod_begin, 2, [(2, x0), (0, 0)], [], w)) := (px_Req mm_Mod_begin 0 [(2, x0), (9, 0)] [] w).trans rfl
set_option maxRecDepth 100000 in
theorem eq_Mod_begin_2 (x0 x1 : Int) (w : pw) : px_R (mm_Mod_begin, 2, [(2, x0), (0, x1)], [], w) =
    (if x1 < 9 then
      if px_go w x0 9 = true then
        if px_ga w 0 (px_rd w x0 12) (px_w (9 + x1)) = true then
          px_R (mm_Mod_begin, 2, [(2, x0), (0, (px_w (x1 + 1)))], [], (px_wr w (px_rd w x0 12) ((px_w (9 + x1))).toNat 0))
        else none
      else none
    else
      if px_go w x0 9 = true then
        if px_ga w 0 (px_rd w x0 12) 17 = true then
          if px_go (px_wr w (px_rd w x0 12) 17 1) x0 9 = true then
            some (0, (px_wr (px_wr w (px_rd w x0 12) 17 1) x0 23 0))
          else none
        else none
      else none) := (px_Req mm_Mod_begin 2 [(2, x0), (0, x1)] [] w).trans rfl
set_option maxRecDepth 100000 in
theorem eq_Mod_bits_0 (x0 : Int) (w : pw) : px_R (mm_Mod_bits, 0, [(0, x0), (9, 0), (9, 0)], [], w) =
    (px_R (mm_Mod_bits, 4, [(0, x0), (0, 0), (0, x0)], [], w)) := (px_Req mm_Mod_bits 0 [(0, x0), (9, 0), (9, 0)] [] w).trans rfl
set_option maxRecDepth 100000 in
theorem eq_Mod_bits_4 (x0 x1 x2 : Int) (w : pw) : px_R (mm_Mod_bits, 4, [(0, x0), (0, x1), (0, x2)], [], w) =
    (if x2 = 0 then
      some (x1, w)
    else
      px_R (mm_Mod_bits, 4, [(0, x0), (0, (px_w (x1 + 1))), (0, (px_and x2 (px_w (x2 - 1))))], [], w)) := (px_Req mm_Mod_bits 4 [(0, x0), (0, x1), (0, x2)] [] w).trans rfl
set_option maxRecDepth 100000 in
theorem eq_Mod_bounded_0 (x0 : Int) (w : pw) : px_R (mm_Mod_bounded, 0, [(0, x0)], [], w) =
    (if 999999 < x0 then
      some (999999, w)
    else
      if x0 < (-999999) then
        some ((-999999), w)
      else
        some (x0, w)) := (px_Req mm_Mod_bounded 0 [(0, x0)] [] w).trans rfl
set_option maxRecDepth 100000 in
theorem eq_Mod_byteAt_0 (x0 x1 : Int) (w : pw) : px_R (mm_Mod_byteAt, 0, [(2, x0), (0, x1)], [], w) =
    (if px_go w x0 9 = true then
      if x1 < (px_rd w x0 2) then
        if px_go w x0 9 = true then
          if (px_ga w 2 (px_rd w x0 0) x1 || px_ga w 3 (px_rd w x0 0) x1) = true then
            some ((px_and (px_rd w (px_rd w x0 0) (x1).toNat) 255), w)
          else none
        else none
      else
        some ((-1), w)
    else none) := (px_Req mm_Mod_byteAt 0 [(2, x0), (0, x1)] [] w).trans rfl
set_option maxRecDepth 100000 in
theorem eq_Mod_comes_0 (x0 x1 : Int) (w : pw) : px_R (mm_Mod_comes, 0, [(2, x0), (0, x1), (9, 0)], [], w) =
    (px_R (mm_Mod_comes, 2, [(2, x0), (0, x1), (0, 0)], [], w)) := (px_Req mm_Mod_comes 0 [(2, x0), (0, x1), (9, 0)] [] w).trans rfl
set_option maxRecDepth 100000 in
theorem eq_Mod_comes_2 (x0 x1 x2 : Int) (w : pw) : px_R (mm_Mod_comes, 2, [(2, x0), (0, x1), (0, x2)], [], w) =
    (if x2 < x1 then
      if px_ga w 0 x0 (px_w (x1 + x2)) = true then
        if px_ga w 0 x0 x2 = true then
          px_R (mm_Mod_comes, 2, [(2, x0), (0, x1), (0, (px_w (x2 + 1)))], [], (px_wr w x0 (x2).toNat (px_rd w x0 ((px_w (x1 + x2))).toNat)))
        else none
      else none
    else
      some (0, w)) := (px_Req mm_Mod_comes 2 [(2, x0), (0, x1), (0, x2)] [] w).trans rfl
set_option maxRecDepth 100000 in
theorem eq_Mod_count_0 (x0 x1 : Int) (w : pw) : px_R (mm_Mod_count, 0, [(2, x0), (0, x1)], [], w) =
    (if x1 = 0 then
      if px_go w x0 9 = true then
        some ((px_rd w x0 22), w)
      else none
    else if x1 = 1 then
      if px_go w x0 9 = true then
        some ((px_rd w x0 51), w)
      else none
    else if x1 = 2 then
      if px_go w x0 9 = true then
        some ((px_rd w x0 52), w)
      else none
    else if x1 = 3 then
      if px_go w x0 9 = true then
        some ((px_rd w x0 40), w)
      else none
    else if x1 = 4 then
      if px_go w x0 9 = true then
        if px_ga w 0 (px_rd w x0 35) 0 = true then
          some ((px_rd w (px_rd w x0 35) 0), w)
        else none
      else none
    else if x1 = 5 then
      if px_go w x0 9 = true then
        if px_ga w 0 (px_rd w x0 35) 1 = true then
          some ((px_rd w (px_rd w x0 35) 1), w)
        else none
      else none
    else if x1 = 6 then
      if px_go w x0 9 = true then
        some ((px_rd w x0 1), w)
      else none
    else 
      some ((-1), w)) := (px_Req mm_Mod_count 0 [(2, x0), (0, x1)] [] w).trans rfl
set_option maxRecDepth 100000 in
theorem eq_Mod_end_0 (x0 x1 : Int) (w : pw) : px_R (mm_Mod_end, 0, [(2, x0), (0, x1)], [], w) =
    (if x1 < 0 then
      some ((-1), w)
    else
      if px_go w x0 9 = true then
        if (px_rd w x0 1) < x1 then
          some ((-1), w)
        else
          if px_go w x0 9 = true then
            some (x1, (px_wr w x0 1 x1))
          else none
      else none) := (px_Req mm_Mod_end 0 [(2, x0), (0, x1)] [] w).trans rfl
set_option maxRecDepth 100000 in
theorem eq_Mod_fails_0 (x0 x1 : Int) (w : pw) : px_R (mm_Mod_fails, 0, [(2, x0), (0, x1)], [], w) =
    (if px_go w x0 9 = true then
      if px_go (px_wr w x0 8 x1) x0 9 = true then
        if px_go (px_wr w x0 8 x1) x0 9 = true then
          some (0, (px_wr (px_wr w x0 8 x1) x0 9 (px_rd (px_wr w x0 8 x1) x0 5)))
        else none
      else none
    else none) := (px_Req mm_Mod_fails 0 [(2, x0), (0, x1)] [] w).trans rfl
set_option maxRecDepth 100000 in
theorem eq_Mod_fault_0 (x0 x1 : Int) (w : pw) : px_R (mm_Mod_fault, 0, [(2, x0), (0, x1)], [], w) =
    (if x1 = 0 then
      if px_go w x0 9 = true then
        some ((px_rd w x0 8), w)
      else none
    else
      if x1 = 1 then
        if px_go w x0 9 = true then
          some ((px_rd w x0 9), w)
        else none
      else
        some ((-1), w)) := (px_Req mm_Mod_fault 0 [(2, x0), (0, x1)] [] w).trans rfl
set_option maxRecDepth 100000 in
theorem eq_Mod_feed_0 (x0 x1 x2 x3 x4 x5 : Int) (w : pw) : px_R (mm_Mod_feed, 0, [(2, x0), (0, x1), (0, x2), (0, x3), (0, x4), (0, x5), (9, 0), (9, 0), (9, 0)], [], w) =
    (if px_go w x0 9 = true then
      if 900 < (px_w ((px_rd w x0 1) + 20)) then
        some ((-3), w)
      else
        px_R (mm_Mod_feed, 19, [(2, x0), (0, x1), (0, x2), (0, x3), (0, x4), (0, x5), (0, 0), (9, 0), (9, 0)], [], w)
    else none) := (px_Req mm_Mod_feed 0 [(2, x0), (0, x1), (0, x2), (0, x3), (0, x4), (0, x5), (9, 0), (9, 0), (9, 0)] [] w).trans rfl
set_option maxRecDepth 100000 in
theorem eq_Mod_feed_19 (x0 x1 x2 x3 x4 x5 x6 : Int) (y7 y8 : pv) (w : pw) : px_R (mm_Mod_feed, 19, [(2, x0), (0, x1), (0, x2), (0, x3), (0, x4), (0, x5), (0, x6), y7, y8], [], w) =
    (if x6 < 5 then
      if x6 = 0 then
        px_R (mm_Mod_feed, 67, [(2, x0), (0, x1), (0, x2), (0, x3), (0, x4), (0, x5), (0, x6), y7, y8], [(0, x1)], w)
      else
        if x6 = 1 then
          px_R (mm_Mod_feed, 67, [(2, x0), (0, x1), (0, x2), (0, x3), (0, x4), (0, x5), (0, x6), y7, y8], [(0, x2)], w)
        else
          if x6 = 2 then
            px_R (mm_Mod_feed, 67, [(2, x0), (0, x1), (0, x2), (0, x3), (0, x4), (0, x5), (0, x6), y7, y8], [(0, x3)], w)
          else
            if x6 = 3 then
              px_R (mm_Mod_feed, 67, [(2, x0), (0, x1), (0, x2), (0, x3), (0, x4), (0, x5), (0, x6), y7, y8], [(0, x4)], w)
            else
              px_R (mm_Mod_feed, 67, [(2, x0), (0, x1), (0, x2), (0, x3), (0, x4), (0, x5), (0, x6), y7, y8], [(0, x5)], w)
    else
      if px_go w x0 9 = true then
        some ((px_rd w x0 1), w)
      else none) := (px_Req mm_Mod_feed 19 [(2, x0), (0, x1), (0, x2), (0, x3), (0, x4), (0, x5), (0, x6), y7, y8] [] w).trans rfl
set_option maxRecDepth 100000 in
theorem eq_Mod_feed_67 (x0 x1 x2 x3 x4 x5 x6 s0 : Int) (y7 y8 : pv) (w : pw) : px_R (mm_Mod_feed, 67, [(2, x0), (0, x1), (0, x2), (0, x3), (0, x4), (0, x5), (0, x6), y7, y8], [(0, s0)], w) =
    (px_R (mm_Mod_feed, 73, [(2, x0), (0, x1), (0, x2), (0, x3), (0, x4), (0, x5), (0, x6), (0, s0), (0, 24)], [], w)) := (px_Req mm_Mod_feed 67 [(2, x0), (0, x1), (0, x2), (0, x3), (0, x4), (0, x5), (0, x6), y7, y8] [(0, s0)] w).trans rfl
set_option maxRecDepth 100000 in
theorem eq_Mod_feed_73 (x0 x1 x2 x3 x4 x5 x6 x7 x8 : Int) (w : pw) : px_R (mm_Mod_feed, 73, [(2, x0), (0, x1), (0, x2), (0, x3), (0, x4), (0, x5), (0, x6), (0, x7), (0, x8)], [], w) =
    (if x8 < 0 then
      px_R (mm_Mod_feed, 19, [(2, x0), (0, x1), (0, x2), (0, x3), (0, x4), (0, x5), (0, (px_w (x6 + 1))), (0, x7), (0, x8)], [], w)
    else
      if px_go w x0 9 = true then
        if px_go w x0 9 = true then
          if px_gb w (px_rd w x0 0) (px_rd w x0 1) (px_wb (px_shr x7 x8)) = true then
            if px_go (px_wr w (px_rd w x0 0) ((px_rd w x0 1)).toNat (px_wb (px_shr x7 x8))) x0 9 = true then
              if px_go (px_wr w (px_rd w x0 0) ((px_rd w x0 1)).toNat (px_wb (px_shr x7 x8))) x0 9 = true then
                px_R (mm_Mod_feed, 73, [(2, x0), (0, x1), (0, x2), (0, x3), (0, x4), (0, x5), (0, x6), (0, x7), (0, (px_w (x8 + (-8))))], [], (px_wr (px_wr w (px_rd w x0 0) ((px_rd w x0 1)).toNat (px_wb (px_shr x7 x8))) x0 1 (px_w ((px_rd (px_wr w (px_rd w x0 0) ((px_rd w x0 1)).toNat (px_wb (px_shr x7 x8))) x0 1) + 1))))
              else none
            else none
          else none
        else none
      else none) := (px_Req mm_Mod_feed 73 [(2, x0), (0, x1), (0, x2), (0, x3), (0, x4), (0, x5), (0, x6), (0, x7), (0, x8)] [] w).trans rfl
set_option maxRecDepth 100000 in
theorem eq_Mod_hasStuff_0 (x0 : Int) (w : pw) : px_R (mm_Mod_hasStuff, 0, [(2, x0)], [], w) =
    (if px_go w x0 9 = true then
      if px_ga w 0 (px_rd w x0 12) 0 = true then
        if 0 < (px_rd w (px_rd w x0 12) 0) then
          some (1, w)
        else
          some (0, w)
      else none
    else none) := (px_Req mm_Mod_hasStuff 0 [(2, x0)] [] w).trans rfl
set_option maxRecDepth 100000 in
theorem eq_Mod_heard_0 (x0 : Int) (w : pw) : px_R (mm_Mod_heard, 0, [(0, x0)], [], w) =
    (if x0 < 0 then
      some (0, w)
    else
      if 9 < x0 then
        some (9, w)
      else
        some (x0, w)) := (px_Req mm_Mod_heard 0 [(0, x0)] [] w).trans rfl
set_option maxRecDepth 100000 in
theorem eq_Mod_in_0 (x0 x1 x2 : Int) (w : pw) : px_R (mm_Mod_in, 0, [(0, x0), (0, x1), (0, x2)], [], w) =
    (if x0 < x1 then
      some (0, w)
    else
      if x2 < x0 then
        some (0, w)
      else
        some (1, w)) := (px_Req mm_Mod_in 0 [(0, x0), (0, x1), (0, x2)] [] w).trans rfl
set_option maxRecDepth 100000 in
theorem eq_Mod_isBarred_0 (x0 x1 x2 : Int) (w : pw) : px_R (mm_Mod_isBarred, 0, [(2, x0), (0, x1), (0, x2), (9, 0), (9, 0), (9, 0), (9, 0), (9, 0)], [], w) =
    (px_R (mm_Mod_isBarred, 2, [(2, x0), (0, x1), (0, x2), (0, 0), (9, 0), (9, 0), (9, 0), (9, 0)], [], w)) := (px_Req mm_Mod_isBarred 0 [(2, x0), (0, x1), (0, x2), (9, 0), (9, 0), (9, 0), (9, 0), (9, 0)] [] w).trans rfl
set_option maxRecDepth 100000 in
theorem eq_Mod_isBarred_2 (x0 x1 x2 x3 : Int) (y4 y5 y6 y7 : pv) (w : pw) : px_R (mm_Mod_isBarred, 2, [(2, x0), (0, x1), (0, x2), (0, x3), y4, y5, y6, y7], [], w) =
    (if px_go w x0 9 = true then
      if px_ga w 0 (px_rd w x0 12) 4 = true then
        if x3 < (px_rd w (px_rd w x0 12) 4) then
          if px_go w x0 9 = true then
            if px_ga w 0 (px_rd w x0 19) x3 = true then
              if px_go w x0 9 = true then
                if px_ga w 0 (px_rd w x0 17) x1 = true then
                  if px_go w x0 9 = true then
                    if px_ga w 0 (px_rd w x0 20) x3 = true then
                      if px_go w x0 9 = true then
                        if px_ga w 0 (px_rd w x0 18) x1 = true then
                          if px_go w x0 9 = true then
                            if px_ga w 0 (px_rd w x0 19) x3 = true then
                              if px_go w x0 9 = true then
                                if px_ga w 0 (px_rd w x0 17) x2 = true then
                                  if px_go w x0 9 = true then
                                    if px_ga w 0 (px_rd w x0 20) x3 = true then
                                      if px_go w x0 9 = true then
                                        if px_ga w 0 (px_rd w x0 18) x2 = true then
                                          if (px_w ((px_w ((px_rd w (px_rd w x0 19) (x3).toNat) - (px_rd w (px_rd w x0 17) (x1).toNat))) * (px_w ((px_rd w (px_rd w x0 20) (x3).toNat) - (px_rd w (px_rd w x0 18) (x2).toNat))))) = (px_w ((px_w ((px_rd w (px_rd w x0 20) (x3).toNat) - (px_rd w (px_rd w x0 18) (x1).toNat))) * (px_w ((px_rd w (px_rd w x0 19) (x3).toNat) - (px_rd w (px_rd w x0 17) (x2).toNat))))) then
                                            if 0 < (px_w ((px_w ((px_w ((px_rd w (px_rd w x0 19) (x3).toNat) - (px_rd w (px_rd w x0 17) (x1).toNat))) * (px_w ((px_rd w (px_rd w x0 19) (x3).toNat) - (px_rd w (px_rd w x0 17) (x2).toNat))))) + (px_w ((px_w ((px_rd w (px_rd w x0 20) (x3).toNat) - (px_rd w (px_rd w x0 18) (x1).toNat))) * (px_w ((px_rd w (px_rd w x0 20) (x3).toNat) - (px_rd w (px_rd w x0 18) (x2).toNat))))))) then
                                              px_R (mm_Mod_isBarred, 2, [(2, x0), (0, x1), (0, x2), (0, (px_w (x3 + 1))), (0, (px_w ((px_rd w (px_rd w x0 19) (x3).toNat) - (px_rd w (px_rd w x0 17) (x1).toNat)))), (0, (px_w ((px_rd w (px_rd w x0 20) (x3).toNat) - (px_rd w (px_rd w x0 18) (x1).toNat)))), (0, (px_w ((px_rd w (px_rd w x0 19) (x3).toNat) - (px_rd w (px_rd w x0 17) (x2).toNat)))), (0, (px_w ((px_rd w (px_rd w x0 20) (x3).toNat) - (px_rd w (px_rd w x0 18) (x2).toNat))))], [], w)
                                            else
                                              some (1, w)
                                          else
                                            px_R (mm_Mod_isBarred, 2, [(2, x0), (0, x1), (0, x2), (0, (px_w (x3 + 1))), (0, (px_w ((px_rd w (px_rd w x0 19) (x3).toNat) - (px_rd w (px_rd w x0 17) (x1).toNat)))), (0, (px_w ((px_rd w (px_rd w x0 20) (x3).toNat) - (px_rd w (px_rd w x0 18) (x1).toNat)))), (0, (px_w ((px_rd w (px_rd w x0 19) (x3).toNat) - (px_rd w (px_rd w x0 17) (x2).toNat)))), (0, (px_w ((px_rd w (px_rd w x0 20) (x3).toNat) - (px_rd w (px_rd w x0 18) (x2).toNat))))], [], w)
                                        else none
                                      else none
                                    else none
                                  else none
                                else none
                              else none
                            else none
                          else none
                        else none
                      else none
                    else none
                  else none
                else none
              else none
            else none
          else none
        else
          some (0, w)
      else none
    else none) := (px_Req mm_Mod_isBarred 2 [(2, x0), (0, x1), (0, x2), (0, x3), y4, y5, y6, y7] [] w).trans rfl
set_option maxRecDepth 100000 in
theorem eq_Mod_isDigit_0 (x0 : Int) (w : pw) : px_R (mm_Mod_isDigit, 0, [(0, x0)], [], w) =
    (if x0 < 48 then
      some (0, w)
    else
      if 57 < x0 then
        some (0, w)
      else
        some (1, w)) := (px_Req mm_Mod_isDigit 0 [(0, x0)] [] w).trans rfl
set_option maxRecDepth 100000 in
theorem eq_Mod_isGranted_0 (x0 x1 x2 x3 : Int) (w : pw) : px_R (mm_Mod_isGranted, 0, [(2, x0), (0, x1), (0, x2), (0, x3), (9, 0), (9, 0), (9, 0), (9, 0)], [], w) =
    (if px_go w x0 9 = true then
      if px_ga w 0 (px_rd w x0 41) x1 = true then
        px_R (mm_Mod_isGranted, 13, [(2, x0), (0, x1), (0, x2), (0, x3), (0, (px_shl 1 (px_rd w (px_rd w x0 41) (x1).toNat))), (0, 0), (9, 0), (9, 0)], [], w)
      else none
    else none) := (px_Req mm_Mod_isGranted 0 [(2, x0), (0, x1), (0, x2), (0, x3), (9, 0), (9, 0), (9, 0), (9, 0)] [] w).trans rfl
set_option maxRecDepth 100000 in
theorem eq_Mod_isGranted_13 (x0 x1 x2 x3 x4 x5 : Int) (y6 y7 : pv) (w : pw) : px_R (mm_Mod_isGranted, 13, [(2, x0), (0, x1), (0, x2), (0, x3), (0, x4), (0, x5), y6, y7], [], w) =
    (if x5 < x3 then
      px_R (mm_Mod_isGranted, 26, [(2, x0), (0, x1), (0, x2), (0, x3), (0, x4), (0, x5), (0, x4), (0, 0)], [], w)
    else
      if px_go w x0 9 = true then
        if px_ga w 0 (px_rd w x0 42) x1 = true then
          if (px_and (px_shr x4 (px_rd w (px_rd w x0 42) (x1).toNat)) 1) = 1 then
            some (1, w)
          else
            some (0, w)
        else none
      else none) := (px_Req mm_Mod_isGranted 13 [(2, x0), (0, x1), (0, x2), (0, x3), (0, x4), (0, x5), y6, y7] [] w).trans rfl
set_option maxRecDepth 100000 in
theorem eq_Mod_isGranted_26 (x0 x1 x2 x3 x4 x5 x6 x7 : Int) (w : pw) : px_R (mm_Mod_isGranted, 26, [(2, x0), (0, x1), (0, x2), (0, x3), (0, x4), (0, x5), (0, x6), (0, x7)], [], w) =
    (if px_go w x0 9 = true then
      if x7 < (px_rd w x0 43) then
        if (px_and (px_shr x2 x7) 1) = 0 then
          px_R (mm_Mod_isGranted, 26, [(2, x0), (0, x1), (0, x2), (0, x3), (0, x4), (0, x5), (0, x6), (0, (px_w (x7 + 1)))], [], w)
        else
          if px_go w x0 9 = true then
            if px_ga w 0 (px_rd w x0 44) x7 = true then
              if (px_and (px_shr x6 (px_rd w (px_rd w x0 44) (x7).toNat)) 1) = 1 then
                if px_go w x0 9 = true then
                  if px_ga w 0 (px_rd w x0 45) x7 = true then
                    px_R (mm_Mod_isGranted, 77, [(2, x0), (0, x1), (0, x2), (0, x3), (0, (px_or x4 (px_shl 1 (px_rd w (px_rd w x0 45) (x7).toNat)))), (0, x5), (0, x6), (0, x7)], [], w)
                  else none
                else none
              else
                px_R (mm_Mod_isGranted, 77, [(2, x0), (0, x1), (0, x2), (0, x3), (0, x4), (0, x5), (0, x6), (0, x7)], [], w)
            else none
          else none
      else
        px_R (mm_Mod_isGranted, 13, [(2, x0), (0, x1), (0, x2), (0, x3), (0, x4), (0, (px_w (x5 + 1))), (0, x6), (0, x7)], [], w)
    else none) := (px_Req mm_Mod_isGranted 26 [(2, x0), (0, x1), (0, x2), (0, x3), (0, x4), (0, x5), (0, x6), (0, x7)] [] w).trans rfl
set_option maxRecDepth 100000 in
theorem eq_Mod_isGranted_77 (x0 x1 x2 x3 x4 x5 x6 x7 : Int) (w : pw) : px_R (mm_Mod_isGranted, 77, [(2, x0), (0, x1), (0, x2), (0, x3), (0, x4), (0, x5), (0, x6), (0, x7)], [], w) =
    (if px_go w x0 9 = true then
      if px_ga w 0 (px_rd w x0 45) x7 = true then
        if (px_and (px_shr x6 (px_rd w (px_rd w x0 45) (x7).toNat)) 1) = 1 then
          if px_go w x0 9 = true then
            if px_ga w 0 (px_rd w x0 44) x7 = true then
              px_R (mm_Mod_isGranted, 26, [(2, x0), (0, x1), (0, x2), (0, x3), (0, (px_or x4 (px_shl 1 (px_rd w (px_rd w x0 44) (x7).toNat)))), (0, x5), (0, x6), (0, (px_w (x7 + 1)))], [], w)
            else none
          else none
        else
          px_R (mm_Mod_isGranted, 26, [(2, x0), (0, x1), (0, x2), (0, x3), (0, x4), (0, x5), (0, x6), (0, (px_w (x7 + 1)))], [], w)
      else none
    else none) := (px_Req mm_Mod_isGranted 77 [(2, x0), (0, x1), (0, x2), (0, x3), (0, x4), (0, x5), (0, x6), (0, x7)] [] w).trans rfl
set_option maxRecDepth 100000 in
theorem eq_Mod_isGreater_0 (x0 : Int) (w : pw) : px_R (mm_Mod_isGreater, 0, [(2, x0), (9, 0)], [], w) =
    (px_R (mm_Mod_isGreater, 3, [(2, x0), (0, 29)], [], w)) := (px_Req mm_Mod_isGreater 0 [(2, x0), (9, 0)] [] w).trans rfl
set_option maxRecDepth 100000 in
theorem eq_Mod_isGreater_3 (x0 x1 : Int) (w : pw) : px_R (mm_Mod_isGreater, 3, [(2, x0), (0, x1)], [], w) =
    (if x1 < 0 then
      some (0, w)
    else
      if px_go w x0 9 = true then
        if px_ga w 0 (px_rd w x0 60) x1 = true then
          if px_go w x0 9 = true then
            if px_ga w 0 (px_rd w x0 61) x1 = true then
              if (px_rd w (px_rd w x0 60) (x1).toNat) = (px_rd w (px_rd w x0 61) (x1).toNat) then
                px_R (mm_Mod_isGreater, 3, [(2, x0), (0, (px_w (x1 + (-1))))], [], w)
              else
                if px_go w x0 9 = true then
                  if px_ga w 0 (px_rd w x0 60) x1 = true then
                    if px_go w x0 9 = true then
                      if px_ga w 0 (px_rd w x0 61) x1 = true then
                        if (px_rd w (px_rd w x0 61) (x1).toNat) < (px_rd w (px_rd w x0 60) (x1).toNat) then
                          some (1, w)
                        else
                          some (0, w)
                      else none
                    else none
                  else none
                else none
            else none
          else none
        else none
      else none) := (px_Req mm_Mod_isGreater 3 [(2, x0), (0, x1)] [] w).trans rfl
set_option maxRecDepth 100000 in
theorem eq_Mod_isSmall_0 (x0 : Int) (w : pw) : px_R (mm_Mod_isSmall, 0, [(0, x0)], [], w) =
    (if x0 < 97 then
      some (0, w)
    else
      if 122 < x0 then
        some (0, w)
      else
        some (1, w)) := (px_Req mm_Mod_isSmall 0 [(0, x0)] [] w).trans rfl
set_option maxRecDepth 100000 in
theorem eq_Mod_plain_0 (x0 : Int) (w : pw) : px_R (mm_Mod_plain, 0, [(0, x0)], [], w) =
    (if x0 < 0 then
      some ((px_w (-x0)), w)
    else
      some (x0, w)) := (px_Req mm_Mod_plain 0 [(0, x0)] [] w).trans rfl
set_option maxRecDepth 100000 in
theorem eq_Mod_rowsOf_0 (x0 x1 : Int) (w : pw) : px_R (mm_Mod_rowsOf, 0, [(2, x0), (0, x1), (9, 0), (9, 0), (9, 0), (9, 0), (9, 0)], [], w) =
    (if x1 < 1 then
      some (0, w)
    else
      px_R (mm_Mod_rowsOf, 17, [(2, x0), (0, x1), (0, 0), (0, 0), (0, 0), (0, 1), (9, 0)], [], w)) := (px_Req mm_Mod_rowsOf 0 [(2, x0), (0, x1), (9, 0), (9, 0), (9, 0), (9, 0), (9, 0)] [] w).trans rfl
set_option maxRecDepth 100000 in
theorem eq_Mod_rowsOf_17 (x0 x1 x2 x3 x4 x5 : Int) (y6 : pv) (w : pw) : px_R (mm_Mod_rowsOf, 17, [(2, x0), (0, x1), (0, x2), (0, x3), (0, x4), (0, x5), y6], [], w) =
    (if x1 < x5 then
      some (x4, w)
    else
      if (Int.tmod x5 2) = 0 then
        px_R (mm_Mod_rowsOf, 59, [(2, x0), (0, x1), (0, x2), (0, x3), (0, x4), (0, x5), y6], [(0, 0)], w)
      else
        if x5 = 1 then
          px_R (mm_Mod_rowsOf, 59, [(2, x0), (0, x1), (0, x2), (0, x3), (0, x4), (0, x5), y6], [(0, 1)], w)
        else
          if x5 = 3 then
            px_R (mm_Mod_rowsOf, 59, [(2, x0), (0, x1), (0, x2), (0, x3), (0, x4), (0, x5), y6], [(0, (px_w ((px_w (x2 + x3)) + 1)))], w)
          else
            px_R (mm_Mod_rowsOf, 59, [(2, x0), (0, x1), (0, x2), (0, x3), (0, x4), (0, x5), y6], [(0, (px_w ((px_w (x2 + x3)) + 0)))], w)) := (px_Req mm_Mod_rowsOf 17 [(2, x0), (0, x1), (0, x2), (0, x3), (0, x4), (0, x5), y6] [] w).trans rfl
set_option maxRecDepth 100000 in
theorem eq_Mod_rowsOf_59 (x0 x1 x2 x3 x4 x5 s0 : Int) (y6 : pv) (w : pw) : px_R (mm_Mod_rowsOf, 59, [(2, x0), (0, x1), (0, x2), (0, x3), (0, x4), (0, x5), y6], [(0, s0)], w) =
    (if (Int.tmod x5 2) = 1 then
      px_R (mm_Mod_rowsOf, 17, [(2, x0), (0, x1), (0, s0), (0, x2), (0, s0), (0, (px_w (x5 + 1))), (0, s0)], [], w)
    else
      px_R (mm_Mod_rowsOf, 17, [(2, x0), (0, x1), (0, x2), (0, x3), (0, s0), (0, (px_w (x5 + 1))), (0, s0)], [], w)) := (px_Req mm_Mod_rowsOf 59 [(2, x0), (0, x1), (0, x2), (0, x3), (0, x4), (0, x5), y6] [(0, s0)] w).trans rfl
set_option maxRecDepth 100000 in
theorem eq_Mod_straighten_0 (x0 : Int) (w : pw) : px_R (mm_Mod_straighten, 0, [(2, x0), (9, 0)], [], w) =
    (if px_go w x0 9 = true then
      if px_go w x0 9 = true then
        if px_go w x0 9 = true then
          if px_go (px_wr w x0 28 0) x0 9 = true then
            some ((px_w ((px_rd w x0 28) + (px_rd w x0 29))), (px_wr (px_wr w x0 28 0) x0 29 0))
          else none
        else none
      else none
    else none) := (px_Req mm_Mod_straighten 0 [(2, x0), (9, 0)] [] w).trans rfl
set_option maxRecDepth 100000 in
theorem eq_Mod_times_0 (x0 x1 : Int) (w : pw) : px_R (mm_Mod_times, 0, [(2, x0), (0, x1), (9, 0), (9, 0), (9, 0), (9, 0), (9, 0)], [], w) =
    (px_R (mm_Mod_times, 5, [(2, x0), (0, x1), (1, 0), (9, 0), (0, 0), (9, 0), (9, 0)], [], w)) := (px_Req mm_Mod_times 0 [(2, x0), (0, x1), (9, 0), (9, 0), (9, 0), (9, 0), (9, 0)] [] w).trans rfl
set_option maxRecDepth 100000 in
theorem eq_Mod_times_5 (x0 x1 x2 x4 : Int) (y5 : pv) (w : pw) : px_R (mm_Mod_times, 5, [(2, x0), (0, x1), (1, x2), (9, 0), (0, x4), y5, (9, 0)], [], w) =
    (if x4 < 30 then
      if px_go w x0 9 = true then
        if px_ga w 0 (px_rd w x0 60) x4 = true then
          if px_go w x0 9 = true then
            if px_ga w 0 (px_rd w x0 60) x4 = true then
              px_R (mm_Mod_times, 5, [(2, x0), (0, x1), (1, (px_wl (Int.tdiv (px_wl ((px_wl ((px_rd w (px_rd w x0 60) (x4).toNat) * x1)) + x2)) 10000))), (9, 0), (0, (px_w (x4 + 1))), (1, (px_wl ((px_wl ((px_rd w (px_rd w x0 60) (x4).toNat) * x1)) + x2))), (9, 0)], [], (px_wr w (px_rd w x0 60) (x4).toNat (px_w (Int.tmod (px_wl ((px_wl ((px_rd w (px_rd w x0 60) (x4).toNat) * x1)) + x2)) 10000))))
            else none
          else none
        else none
      else none
    else
      some (0, w)) := (px_Req mm_Mod_times 5 [(2, x0), (0, x1), (1, x2), (9, 0), (0, x4), y5, (9, 0)] [] w).trans rfl
set_option maxRecDepth 100000 in
theorem eq_Mod_toLeft_0 (x0 x1 x2 : Int) (w : pw) : px_R (mm_Mod_toLeft, 0, [(2, x0), (0, x1), (0, x2)], [], w) =
    (if x1 < 0 then
      if px_go w x0 9 = true then
        if px_ga w 1 (px_rd w x0 36) 0 = true then
          if px_ga w 1 (px_rd w x0 36) 0 = true then
            some (0, (px_wr w (px_rd w x0 36) 0 (px_wl ((px_rd w (px_rd w x0 36) 0) + x2))))
          else none
        else none
      else none
    else
      if px_go w x0 9 = true then
        if px_ga w 0 (px_rd w x0 39) x1 = true then
          if px_ga w 0 (px_rd w x0 39) x1 = true then
            some (0, (px_wr w (px_rd w x0 39) (x1).toNat (px_w ((px_rd w (px_rd w x0 39) (x1).toNat) + x2))))
          else none
        else none
      else none) := (px_Req mm_Mod_toLeft 0 [(2, x0), (0, x1), (0, x2)] [] w).trans rfl
set_option maxRecDepth 100000 in
theorem eq_Mod_toRight_0 (x0 x1 x2 : Int) (w : pw) : px_R (mm_Mod_toRight, 0, [(2, x0), (0, x1), (0, x2)], [], w) =
    (if px_go w x0 9 = true then
      if px_ga w 0 (px_rd w x0 35) 0 = true then
        if x1 = (px_rd w (px_rd w x0 35) 0) then
          if px_go w x0 9 = true then
            if px_ga w 1 (px_rd w x0 36) 1 = true then
              if px_ga w 1 (px_rd w x0 36) 1 = true then
                some (0, (px_wr w (px_rd w x0 36) 1 (px_wl ((px_rd w (px_rd w x0 36) 1) + x2))))
              else none
            else none
          else none
        else
          if px_go w x0 9 = true then
            if px_ga w 0 (px_rd w x0 38) x1 = true then
              if px_ga w 0 (px_rd w x0 38) x1 = true then
                some (0, (px_wr w (px_rd w x0 38) (x1).toNat (px_w ((px_rd w (px_rd w x0 38) (x1).toNat) + x2))))
              else none
            else none
          else none
      else none
    else none) := (px_Req mm_Mod_toRight 0 [(2, x0), (0, x1), (0, x2)] [] w).trans rfl
set_option maxRecDepth 100000 in
theorem eq_Mod_wroteAt_0 (x0 x1 x2 : Int) (w : pw) : px_R (mm_Mod_wroteAt, 0, [(2, x0), (0, x1), (0, x2), (9, 0), (9, 0)], [], w) =
    (if px_go w x0 9 = true then
      if px_ga w 0 (px_rd w x0 56) x1 = true then
        px_R (mm_Mod_wroteAt, 10, [(2, x0), (0, x1), (0, x2), (0, (px_rd w (px_rd w x0 56) (x1).toNat)), (0, 0)], [], w)
      else none
    else none) := (px_Req mm_Mod_wroteAt 0 [(2, x0), (0, x1), (0, x2), (9, 0), (9, 0)] [] w).trans rfl
set_option maxRecDepth 100000 in
theorem eq_Mod_wroteAt_10 (x0 x1 x2 x3 x4 : Int) (w : pw) : px_R (mm_Mod_wroteAt, 10, [(2, x0), (0, x1), (0, x2), (0, x3), (0, x4)], [], w) =
    (if px_go w x0 9 = true then
      if x4 < (px_rd w x0 52) then
        if px_go w x0 9 = true then
          if px_ga w 0 (px_rd w x0 58) x4 = true then
            if (px_rd w (px_rd w x0 58) (x4).toNat) = x1 then
              if px_go w x0 9 = true then
                if px_ga w 0 (px_rd w x0 57) x4 = true then
                  if x2 < (px_rd w (px_rd w x0 57) (x4).toNat) then
                    px_R (mm_Mod_wroteAt, 10, [(2, x0), (0, x1), (0, x2), (0, x3), (0, (px_w (x4 + 1)))], [], w)
                  else
                    if px_go w x0 9 = true then
                      if px_ga w 0 (px_rd w x0 59) x4 = true then
                        px_R (mm_Mod_wroteAt, 10, [(2, x0), (0, x1), (0, x2), (0, (px_rd w (px_rd w x0 59) (x4).toNat)), (0, (px_w (x4 + 1)))], [], w)
                      else none
                    else none
                else none
              else none
            else
              px_R (mm_Mod_wroteAt, 10, [(2, x0), (0, x1), (0, x2), (0, x3), (0, (px_w (x4 + 1)))], [], w)
          else none
        else none
      else
        some (x3, w)
    else none) := (px_Req mm_Mod_wroteAt 10 [(2, x0), (0, x1), (0, x2), (0, x3), (0, x4)] [] w).trans rfl
set_option maxRecDepth 100000 in
theorem eq_Mod_yardsOf_0 (x0 x1 x2 : Int) (w : pw) : px_R (mm_Mod_yardsOf, 0, [(2, x0), (0, x1), (0, x2), (9, 0), (9, 0), (9, 0)], [], w) =
    (if px_go w x0 9 = true then
      if px_ga w 0 (px_rd w x0 17) x1 = true then
        if px_go w x0 9 = true then
          if px_ga w 0 (px_rd w x0 17) x2 = true then
            if px_go w x0 9 = true then
              if px_ga w 0 (px_rd w x0 18) x1 = true then
                if px_go w x0 9 = true then
                  if px_ga w 0 (px_rd w x0 18) x2 = true then
                    px_R (mm_Mod_yardsOf, 32, [(2, x0), (0, x1), (0, x2), (0, (px_w ((px_rd w (px_rd w x0 17) (x1).toNat) - (px_rd w (px_rd w x0 17) (x2).toNat)))), (0, (px_w ((px_rd w (px_rd w x0 18) (x1).toNat) - (px_rd w (px_rd w x0 18) (x2).toNat)))), (0, 0)], [], w)
                  else none
                else none
              else none
            else none
          else none
        else none
      else none
    else none) := (px_Req mm_Mod_yardsOf 0 [(2, x0), (0, x1), (0, x2), (9, 0), (9, 0), (9, 0)] [] w).trans rfl
set_option maxRecDepth 100000 in
theorem eq_Mod_yardsOf_32 (x0 x1 x2 x3 x4 x5 : Int) (w : pw) : px_R (mm_Mod_yardsOf, 32, [(2, x0), (0, x1), (0, x2), (0, x3), (0, x4), (0, x5)], [], w) =
    (if (px_w (x5 * x5)) < (px_w ((px_w (x3 * x3)) + (px_w (x4 * x4)))) then
      px_R (mm_Mod_yardsOf, 32, [(2, x0), (0, x1), (0, x2), (0, x3), (0, x4), (0, (px_w (x5 + 1)))], [], w)
    else
      some (x5, w)) := (px_Req mm_Mod_yardsOf 32 [(2, x0), (0, x1), (0, x2), (0, x3), (0, x4), (0, x5)] [] w).trans rfl
set_option maxRecDepth 100000 in
theorem eq_Taps_beats_0 (x0 : Int) (w : pw) : px_R (mm_Taps_beats, 0, [(0, x0), (9, 0), (9, 0)], [], w) =
    (px_R (mm_Taps_beats, 4, [(0, x0), (0, x0), (0, 1)], [], w)) := (px_Req mm_Taps_beats 0 [(0, x0), (9, 0), (9, 0)] [] w).trans rfl
set_option maxRecDepth 100000 in
theorem eq_Taps_beats_4 (x0 x1 x2 : Int) (w : pw) : px_R (mm_Taps_beats, 4, [(0, x0), (0, x1), (0, x2)], [], w) =
    (if x2 < (px_w (10 - 1)) then
      if px_gl (px_sar 3) x2 = true then
        if x1 < (px_lst (px_sar 3) (x2).toNat) then
          some (x2, w)
        else
          if px_gl (px_sar 3) x2 = true then
            px_R (mm_Taps_beats, 4, [(0, x0), (0, (px_w (x1 - (px_lst (px_sar 3) (x2).toNat)))), (0, (px_w (x2 + 1)))], [], w)
          else none
      else none
    else
      some (x2, w)) := (px_Req mm_Taps_beats 4 [(0, x0), (0, x1), (0, x2)] [] w).trans rfl
set_option maxRecDepth 100000 in
theorem eq_Integer_bitCount_0 (x0 : Int) (w : pw) : px_R (mm_Integer_bitCount, 0, [(0, x0)], [], w) =
    (some ((px_and (px_w ((px_w ((px_and (px_w ((px_w ((px_and (px_w (x0 - (px_and (px_ush x0 1) 1431655765))) 858993459) + (px_and (px_ush (px_w (x0 - (px_and (px_ush x0 1) 1431655765))) 2) 858993459))) + (px_ush (px_w ((px_and (px_w (x0 - (px_and (px_ush x0 1) 1431655765))) 858993459) + (px_and (px_ush (px_w (x0 - (px_and (px_ush x0 1) 1431655765))) 2) 858993459))) 4))) 252645135) + (px_ush (px_and (px_w ((px_w ((px_and (px_w (x0 - (px_and (px_ush x0 1) 1431655765))) 858993459) + (px_and (px_ush (px_w (x0 - (px_and (px_ush x0 1) 1431655765))) 2) 858993459))) + (px_ush (px_w ((px_and (px_w (x0 - (px_and (px_ush x0 1) 1431655765))) 858993459) + (px_and (px_ush (px_w (x0 - (px_and (px_ush x0 1) 1431655765))) 2) 858993459))) 4))) 252645135) 8))) + (px_ush (px_w ((px_and (px_w ((px_w ((px_and (px_w (x0 - (px_and (px_ush x0 1) 1431655765))) 858993459) + (px_and (px_ush (px_w (x0 - (px_and (px_ush x0 1) 1431655765))) 2) 858993459))) + (px_ush (px_w ((px_and (px_w (x0 - (px_and (px_ush x0 1) 1431655765))) 858993459) + (px_and (px_ush (px_w (x0 - (px_and (px_ush x0 1) 1431655765))) 2) 858993459))) 4))) 252645135) + (px_ush (px_and (px_w ((px_w ((px_and (px_w (x0 - (px_and (px_ush x0 1) 1431655765))) 858993459) + (px_and (px_ush (px_w (x0 - (px_and (px_ush x0 1) 1431655765))) 2) 858993459))) + (px_ush (px_w ((px_and (px_w (x0 - (px_and (px_ush x0 1) 1431655765))) 858993459) + (px_and (px_ush (px_w (x0 - (px_and (px_ush x0 1) 1431655765))) 2) 858993459))) 4))) 252645135) 8))) 16))) 63), w)) := (px_Req mm_Integer_bitCount 0 [(0, x0)] [] w).trans rfl
set_option maxRecDepth 100000 in
theorem eq_Math_abs_0 (x0 : Int) (w : pw) : px_R (mm_Math_abs, 0, [(0, x0)], [], w) =
    (if x0 < 0 then
      some ((px_w (-x0)), w)
    else
      some (x0, w)) := (px_Req mm_Math_abs 0 [(0, x0)] [] w).trans rfl
set_option maxRecDepth 100000 in
theorem eq_Math_max_0 (x0 x1 : Int) (w : pw) : px_R (mm_Math_max, 0, [(0, x0), (0, x1)], [], w) =
    (if x0 < x1 then
      some (x1, w)
    else
      some (x0, w)) := (px_Req mm_Math_max 0 [(0, x0), (0, x1)] [] w).trans rfl
set_option maxRecDepth 100000 in
theorem eq_Math_min_0 (x0 x1 : Int) (w : pw) : px_R (mm_Math_min, 0, [(0, x0), (0, x1)], [], w) =
    (if x1 < x0 then
      some (x1, w)
    else
      some (x0, w)) := (px_Req mm_Math_min 0 [(0, x0), (0, x1)] [] w).trans rfl
set_option maxRecDepth 100000 in
theorem eq_Ear_init_0 (x0 : Int) (w : pw) : px_R (mm_Ear_init, 0, [(2, x0)], [], w) =
    (if px_go (px_al2 w 4 0 6 4) x0 1 = true then
      if px_go (px_al2 (px_wr (px_al2 w 4 0 6 4) x0 2 (w.1.length : Int)) 4 0 6 4) x0 1 = true then
        px_R (mm_Ear_init, 26, [(2, x0)], [], (px_wr (px_al2 (px_wr (px_al2 w 4 0 6 4) x0 2 (w.1.length : Int)) 4 0 6 4) x0 3 ((px_wr (px_al2 w 4 0 6 4) x0 2 (w.1.length : Int)).1.length : Int)))
      else none
    else none) := (px_Req mm_Ear_init 0 [(2, x0)] [] w).trans rfl
set_option maxRecDepth 100000 in
theorem eq_Ear_init_26 (x0 : Int) (w : pw) : px_R (mm_Ear_init, 26, [(2, x0)], [], w) =
    (if px_go (px_al w (0, 6)) x0 1 = true then
      if px_go (px_al (px_wr (px_al w (0, 6)) x0 4 (w.1.length : Int)) (0, 6)) x0 1 = true then
        px_R (mm_Ear_init, 42, [(2, x0)], [], (px_wr (px_al (px_wr (px_al w (0, 6)) x0 4 (w.1.length : Int)) (0, 6)) x0 6 ((px_wr (px_al w (0, 6)) x0 4 (w.1.length : Int)).1.length : Int)))
      else none
    else none) := (px_Req mm_Ear_init 26 [(2, x0)] [] w).trans rfl
set_option maxRecDepth 100000 in
theorem eq_Ear_init_42 (x0 : Int) (w : pw) : px_R (mm_Ear_init, 42, [(2, x0)], [], w) =
    (if px_go (px_al w (0, 4)) x0 1 = true then
      if px_go (px_al2 (px_wr (px_al w (0, 4)) x0 7 (w.1.length : Int)) 5 1 4 7) x0 1 = true then
        px_R (mm_Ear_init, 60, [(2, x0)], [], (px_wr (px_al2 (px_wr (px_al w (0, 4)) x0 7 (w.1.length : Int)) 5 1 4 7) x0 8 ((px_wr (px_al w (0, 4)) x0 7 (w.1.length : Int)).1.length : Int)))
      else none
    else none) := (px_Req mm_Ear_init 42 [(2, x0)] [] w).trans rfl
set_option maxRecDepth 100000 in
theorem eq_Ear_init_60 (x0 : Int) (w : pw) : px_R (mm_Ear_init, 60, [(2, x0)], [], w) =
    (if px_go (px_al2 w 4 0 4 7) x0 1 = true then
      some (0, (px_wr (px_al2 w 4 0 4 7) x0 9 (w.1.length : Int)))
    else none) := (px_Req mm_Ear_init 60 [(2, x0)] [] w).trans rfl
set_option maxRecDepth 100000 in
theorem eq_Ear_hearRest_0 (x0 x1 x3 x4 : Int) (w : pw) : px_R (mm_Ear_hearRest, 0, [(2, x0), (1, x1), (9, 0), (0, x3), (2, x4), (9, 0), (9, 0), (9, 0), (9, 0), (9, 0), (9, 0)], [], w) =
    (px_R (mm_Ear_hearRest, 3, [(2, x0), (1, x1), (9, 0), (0, x3), (2, x4), (0, 0), (9, 0), (9, 0), (9, 0), (9, 0), (9, 0)], [], w)) := (px_Req mm_Ear_hearRest 0 [(2, x0), (1, x1), (9, 0), (0, x3), (2, x4), (9, 0), (9, 0), (9, 0), (9, 0), (9, 0), (9, 0)] [] w).trans rfl
set_option maxRecDepth 100000 in
theorem eq_Ear_hearRest_3 (x0 x1 x3 x4 x5 : Int) (y6 y8 y9 y10 : pv) (w : pw) : px_R (mm_Ear_hearRest, 3, [(2, x0), (1, x1), (9, 0), (0, x3), (2, x4), (0, x5), y6, (9, 0), y8, y9, y10], [], w) =
    (if px_go w x0 1 = true then
      if px_ga w 0 (px_rd w x0 7) 2 = true then
        if x5 < (px_rd w (px_rd w x0 7) 2) then
          if px_go w x0 1 = true then
            if (px_ga w 4 (px_rd w x0 8) 2 || (px_ga w 5 (px_rd w x0 8) 2 || px_ga w 6 (px_rd w x0 8) 2)) = true then
              if px_ga w 1 (px_rd w (px_rd w x0 8) 2) x5 = true then
                if px_go w x0 1 = true then
                  if (px_ga w 4 (px_rd w x0 9) 2 || (px_ga w 5 (px_rd w x0 9) 2 || px_ga w 6 (px_rd w x0 9) 2)) = true then
                    if px_ga w 0 (px_rd w (px_rd w x0 9) 2) x5 = true then
                      px_R (mm_Ear_hearRest, 43, [(2, x0), (1, x1), (9, 0), (0, x3), (2, x4), (0, x5), (1, (px_wl (x1 + (px_rd w (px_rd w (px_rd w x0 8) 2) (x5).toNat)))), (9, 0), (0, (px_w (x3 * (px_rd w (px_rd w (px_rd w x0 9) 2) (x5).toNat)))), (0, 0), y10], [], w)
                    else none
                  else none
                else none
              else none
            else none
          else none
        else
          some (0, w)
      else none
    else none) := (px_Req mm_Ear_hearRest 3 [(2, x0), (1, x1), (9, 0), (0, x3), (2, x4), (0, x5), y6, (9, 0), y8, y9, y10] [] w).trans rfl
set_option maxRecDepth 100000 in
theorem eq_Ear_hearRest_43 (x0 x1 x3 x4 x5 x6 x8 x9 : Int) (y10 : pv) (w : pw) : px_R (mm_Ear_hearRest, 43, [(2, x0), (1, x1), (9, 0), (0, x3), (2, x4), (0, x5), (1, x6), (9, 0), (0, x8), (0, x9), y10], [], w) =
    (if px_go w x0 1 = true then
      if px_ga w 0 (px_rd w x0 7) 3 = true then
        if x9 < (px_rd w (px_rd w x0 7) 3) then
          if px_go w x0 1 = true then
            if (px_ga w 4 (px_rd w x0 8) 3 || (px_ga w 5 (px_rd w x0 8) 3 || px_ga w 6 (px_rd w x0 8) 3)) = true then
              if px_ga w 1 (px_rd w (px_rd w x0 8) 3) x9 = true then
                if px_go w x0 1 = true then
                  (px_R (mm_Ear_nearest, 0, [(2, x0), (1, (px_wl (x6 + (px_rd w (px_rd w (px_rd w x0 8) 3) (x9).toNat)))), (9, 0), (9, 0), (9, 0), (9, 0), (9, 0), (9, 0), (9, 0)], [], w)).bind fun r1 =>
                  if Nat.ble (px_kd r1.2 x4).1 6 = true then
                    if r1.1 < ((px_kd r1.2 x4).2 : Int) then
                      if px_ga r1.2 0 x4 r1.1 = true then
                        if px_go r1.2 x0 1 = true then
                          if (px_ga r1.2 4 (px_rd r1.2 x0 9) 3 || (px_ga r1.2 5 (px_rd r1.2 x0 9) 3 || px_ga r1.2 6 (px_rd r1.2 x0 9) 3)) = true then
                            if px_ga r1.2 0 (px_rd r1.2 (px_rd r1.2 x0 9) 3) x9 = true then
                              if px_ga r1.2 0 x4 r1.1 = true then
                                px_R (mm_Ear_hearRest, 43, [(2, x0), (1, x1), (9, 0), (0, x3), (2, x4), (0, x5), (1, x6), (9, 0), (0, x8), (0, (px_w (x9 + 1))), (0, r1.1)], [], (px_wr r1.2 x4 (r1.1).toNat (px_w ((px_rd r1.2 x4 (r1.1).toNat) + (px_w (x8 * (px_rd r1.2 (px_rd r1.2 (px_rd r1.2 x0 9) 3) (x9).toNat)))))))
                              else none
                            else none
                          else none
                        else none
                      else none
                    else
                      px_R (mm_Ear_hearRest, 43, [(2, x0), (1, x1), (9, 0), (0, x3), (2, x4), (0, x5), (1, x6), (9, 0), (0, x8), (0, (px_w (x9 + 1))), (0, r1.1)], [], r1.2)
                  else none
                else none
              else none
            else none
          else none
        else
          px_R (mm_Ear_hearRest, 3, [(2, x0), (1, x1), (9, 0), (0, x3), (2, x4), (0, (px_w (x5 + 1))), (1, x6), (9, 0), (0, x8), (0, x9), y10], [], w)
      else none
    else none) := (px_Req mm_Ear_hearRest 43 [(2, x0), (1, x1), (9, 0), (0, x3), (2, x4), (0, x5), (1, x6), (9, 0), (0, x8), (0, x9), y10] [] w).trans rfl
set_option maxRecDepth 100000 in
theorem eq_Ear_heardWith_0 (x0 x1 x2 x3 : Int) (w : pw) : px_R (mm_Ear_heardWith, 0, [(2, x0), (0, x1), (0, x2), (0, x3)], [], w) =
    (if px_go w x0 1 = true then
      if (px_ga w 4 (px_rd w x0 2) x1 || (px_ga w 5 (px_rd w x0 2) x1 || px_ga w 6 (px_rd w x0 2) x1)) = true then
        if px_ga w 0 (px_rd w (px_rd w x0 2) (x1).toNat) x2 = true then
          (px_R (mm_Math_min, 0, [(0, 9), (0, (px_w ((px_rd w (px_rd w (px_rd w x0 2) (x1).toNat) (x2).toNat) + x3)))], [], w)).bind fun r1 =>
            (px_R (mm_Math_max, 0, [(0, 0), (0, r1.1)], [], r1.2)).bind fun r2 =>
              some (r2.1, r2.2)
        else none
      else none
    else none) := (px_Req mm_Ear_heardWith 0 [(2, x0), (0, x1), (0, x2), (0, x3)] [] w).trans rfl
set_option maxRecDepth 100000 in
theorem eq_Ear_noiseOf_0 (x0 x1 : Int) (w : pw) : px_R (mm_Ear_noiseOf, 0, [(2, x0), (0, x1), (9, 0), (9, 0)], [], w) =
    (if px_go w x0 1 = true then
      px_R (mm_Ear_noiseOf, 8, [(2, x0), (0, x1), (0, x1), (0, (px_w (-(px_rd w x0 1))))], [], w)
    else none) := (px_Req mm_Ear_noiseOf 0 [(2, x0), (0, x1), (9, 0), (9, 0)] [] w).trans rfl
set_option maxRecDepth 100000 in
theorem eq_Ear_noiseOf_8 (x0 x1 x2 x3 : Int) (w : pw) : px_R (mm_Ear_noiseOf, 8, [(2, x0), (0, x1), (0, x2), (0, x3)], [], w) =
    (if px_go w x0 1 = true then
      if x3 < (px_rd w x0 1) then
        if px_go w x0 1 = true then
          (px_R (mm_Math_abs, 0, [(0, x3)], [], w)).bind fun r1 =>
            if (px_w (x2 - (px_w ((px_w ((px_rd w x0 1) + 1)) - r1.1)))) < 0 then
              some (x3, r1.2)
            else
              px_R (mm_Ear_noiseOf, 8, [(2, x0), (0, x1), (0, (px_w (x2 - (px_w ((px_w ((px_rd w x0 1) + 1)) - r1.1))))), (0, (px_w (x3 + 1)))], [], r1.2)
        else none
      else
        if px_go w x0 1 = true then
          some ((px_rd w x0 1), w)
        else none
    else none) := (px_Req mm_Ear_noiseOf 8 [(2, x0), (0, x1), (0, x2), (0, x3)] [] w).trans rfl
set_option maxRecDepth 100000 in
theorem eq_Ear_offFrom_0 (x0 x1 x2 : Int) (w : pw) : px_R (mm_Ear_offFrom, 0, [(2, x0), (0, x1), (0, x2), (9, 0), (9, 0), (9, 0), (9, 0)], [], w) =
    (if px_go w x0 1 = true then
      px_R (mm_Ear_offFrom, 10, [(2, x0), (0, x1), (0, x2), (1, 0), (9, 0), (0, (px_w ((px_rd w x0 5) - 1))), (9, 0)], [], w)
    else none) := (px_Req mm_Ear_offFrom 0 [(2, x0), (0, x1), (0, x2), (9, 0), (9, 0), (9, 0), (9, 0)] [] w).trans rfl
set_option maxRecDepth 100000 in
theorem eq_Ear_offFrom_10 (x0 x1 x2 x3 x5 : Int) (y6 : pv) (w : pw) : px_R (mm_Ear_offFrom, 10, [(2, x0), (0, x1), (0, x2), (1, x3), (9, 0), (0, x5), y6], [], w) =
    (if x5 < 0 then
      some (x3, w)
    else
      if px_go w x0 1 = true then
        if px_go w x0 1 = true then
          if px_ga w 0 (px_rd w x0 6) x5 = true then
            if (px_ga w 4 (px_rd w x0 2) (px_rd w (px_rd w x0 6) (x5).toNat) || (px_ga w 5 (px_rd w x0 2) (px_rd w (px_rd w x0 6) (x5).toNat) || px_ga w 6 (px_rd w x0 2) (px_rd w (px_rd w x0 6) (x5).toNat))) = true then
              if px_ga w 0 (px_rd w (px_rd w x0 2) ((px_rd w (px_rd w x0 6) (x5).toNat)).toNat) x1 = true then
                (px_R (mm_Math_abs, 0, [(0, (px_w (x2 - (px_rd w (px_rd w (px_rd w x0 2) ((px_rd w (px_rd w x0 6) (x5).toNat)).toNat) (x1).toNat))))], [], w)).bind fun r1 =>
                  if px_go r1.2 x0 1 = true then
                    if px_go r1.2 x0 1 = true then
                      if px_ga r1.2 0 (px_rd r1.2 x0 6) 0 = true then
                        if (px_ga r1.2 4 (px_rd r1.2 x0 2) (px_rd r1.2 (px_rd r1.2 x0 6) 0) || (px_ga r1.2 5 (px_rd r1.2 x0 2) (px_rd r1.2 (px_rd r1.2 x0 6) 0) || px_ga r1.2 6 (px_rd r1.2 x0 2) (px_rd r1.2 (px_rd r1.2 x0 6) 0))) = true then
                          if px_ga r1.2 0 (px_rd r1.2 (px_rd r1.2 x0 2) ((px_rd r1.2 (px_rd r1.2 x0 6) 0)).toNat) x1 = true then
                            (px_R (mm_Math_abs, 0, [(0, (px_w (x2 - (px_rd r1.2 (px_rd r1.2 (px_rd r1.2 x0 2) ((px_rd r1.2 (px_rd r1.2 x0 6) 0)).toNat) (x1).toNat))))], [], r1.2)).bind fun r2 =>
                              px_R (mm_Ear_offFrom, 10, [(2, x0), (0, x1), (0, x2), (1, (px_wl ((px_wl ((px_lshl x3 10) + (px_w (r1.1 - r2.1)))) + 9))), (9, 0), (0, (px_w (x5 + (-1)))), (0, (px_w (r1.1 - r2.1)))], [], r2.2)
                          else none
                        else none
                      else none
                    else none
                  else none
              else none
            else none
          else none
        else none
      else none) := (px_Req mm_Ear_offFrom 10 [(2, x0), (0, x1), (0, x2), (1, x3), (9, 0), (0, x5), y6] [] w).trans rfl
set_option maxRecDepth 100000 in
theorem eq_Ear_thinkOf_0 (x0 x1 : Int) (w : pw) : px_R (mm_Ear_thinkOf, 0, [(2, x0), (0, x1), (9, 0)], [], w) =
    (if px_go w x0 1 = true then
      px_R (mm_Ear_thinkOf, 7, [(2, x0), (0, x1), (0, 0)], [], (px_wr w x0 5 0))
    else none) := (px_Req mm_Ear_thinkOf 0 [(2, x0), (0, x1), (9, 0)] [] w).trans rfl
set_option maxRecDepth 100000 in
theorem eq_Ear_thinkOf_7 (x0 x1 x2 : Int) (w : pw) : px_R (mm_Ear_thinkOf, 7, [(2, x0), (0, x1), (0, x2)], [], w) =
    (if px_go w x0 1 = true then
      if x2 < (px_rd w x0 0) then
        if (px_and (px_shr x1 x2) 1) = 1 then
          if px_go w x0 1 = true then
            (px_R (mm_Ear_soundsAsEarlier, 0, [(2, x0), (0, x2), (9, 0), (9, 0), (9, 0), (9, 0)], [], w)).bind fun r1 =>
            if r1.1 = 0 then
              if px_go r1.2 x0 1 = true then
                if px_go r1.2 x0 1 = true then
                  if px_ga r1.2 0 (px_rd r1.2 x0 6) (px_rd r1.2 x0 5) = true then
                    if px_go (px_wr r1.2 (px_rd r1.2 x0 6) ((px_rd r1.2 x0 5)).toNat x2) x0 1 = true then
                      if px_go (px_wr r1.2 (px_rd r1.2 x0 6) ((px_rd r1.2 x0 5)).toNat x2) x0 1 = true then
                        px_R (mm_Ear_thinkOf, 7, [(2, x0), (0, x1), (0, (px_w (x2 + 1)))], [], (px_wr (px_wr r1.2 (px_rd r1.2 x0 6) ((px_rd r1.2 x0 5)).toNat x2) x0 5 (px_w ((px_rd (px_wr r1.2 (px_rd r1.2 x0 6) ((px_rd r1.2 x0 5)).toNat x2) x0 5) + 1))))
                      else none
                    else none
                  else none
                else none
              else none
            else
              px_R (mm_Ear_thinkOf, 7, [(2, x0), (0, x1), (0, (px_w (x2 + 1)))], [], r1.2)
          else none
        else
          px_R (mm_Ear_thinkOf, 7, [(2, x0), (0, x1), (0, (px_w (x2 + 1)))], [], w)
      else
        some (0, w)
    else none) := (px_Req mm_Ear_thinkOf 7 [(2, x0), (0, x1), (0, x2)] [] w).trans rfl
set_option maxRecDepth 100000 in
theorem eq_Line_init_0 (x0 : Int) (w : pw) : px_R (mm_Line_init, 0, [(2, x0)], [], w) =
    (if px_go w x0 2 = true then
      if px_go (px_al (px_wr w x0 2 10) (0, 4)) x0 2 = true then
        px_R (mm_Line_init, 21, [(2, x0)], [(2, ((px_wr (px_al (px_wr w x0 2 10) (0, 4)) x0 5 ((px_wr w x0 2 10).1.length : Int)).1.length : Int)), (2, x0)], (px_al (px_wr (px_al (px_wr w x0 2 10) (0, 4)) x0 5 ((px_wr w x0 2 10).1.length : Int)) (0, 4)))
      else none
    else none) := (px_Req mm_Line_init 0 [(2, x0)] [] w).trans rfl
set_option maxRecDepth 100000 in
theorem eq_Line_init_21 (x0 s0 s1 : Int) (w : pw) : px_R (mm_Line_init, 21, [(2, x0)], [(2, s1), (2, s0)], w) =
    (if px_go w s0 2 = true then
      some (0, (px_wr w s0 7 s1))
    else none) := (px_Req mm_Line_init 21 [(2, x0)] [(2, s1), (2, s0)] w).trans rfl
set_option maxRecDepth 100000 in
theorem eq_Line_asLevel_0 (x0 : Int) (w : pw) : px_R (mm_Line_asLevel, 0, [(0, x0)], [], w) =
    ((px_R (mm_Math_min, 0, [(0, 9), (0, (px_w (Int.tdiv x0 500)))], [], w)).bind fun r1 =>
      some (r1.1, r1.2)) := (px_Req mm_Line_asLevel 0 [(0, x0)] [] w).trans rfl
set_option maxRecDepth 100000 in
theorem eq_Line_enters_0 (x0 x1 x2 x3 x4 : Int) (w : pw) : px_R (mm_Line_enters, 0, [(2, x0), (2, x1), (0, x2), (0, x3), (0, x4), (9, 0)], [], w) =
    (if px_go w x0 2 = true then
      if px_go w x1 5 = true then
        (px_R (mm_Str_ofBand, 0, [(2, x1), (0, 1), (0, (px_rd w x0 1)), (0, x4), (9, 0)], [], w)).bind fun r1 =>
        some ((px_w (Int.tdiv (px_w ((px_w (Int.tdiv (px_w ((px_w (1000 * x3)) * r1.1)) 100)) * x2)) 100)), r1.2)
      else none
    else none) := (px_Req mm_Line_enters 0 [(2, x0), (2, x1), (0, x2), (0, x3), (0, x4), (9, 0)] [] w).trans rfl
set_option maxRecDepth 100000 in
theorem eq_Line_overBends_0 (x0 x1 x2 x3 x4 : Int) (w : pw) : px_R (mm_Line_overBends, 0, [(2, x0), (2, x1), (0, x2), (0, x3), (0, x4), (9, 0), (9, 0), (9, 0), (9, 0)], [], w) =
    (px_R (mm_Line_overBends, 6, [(2, x0), (2, x1), (0, x2), (0, x3), (0, x4), (0, x2), (0, 0), (9, 0), (9, 0)], [], w)) := (px_Req mm_Line_overBends 0 [(2, x0), (2, x1), (0, x2), (0, x3), (0, x4), (9, 0), (9, 0), (9, 0), (9, 0)] [] w).trans rfl
set_option maxRecDepth 100000 in
theorem eq_Line_overBends_6 (x0 x1 x2 x3 x4 x5 x6 : Int) (y7 y8 : pv) (w : pw) : px_R (mm_Line_overBends, 6, [(2, x0), (2, x1), (0, x2), (0, x3), (0, x4), (0, x5), (0, x6), y7, y8], [], w) =
    (if px_go w x0 2 = true then
      if x6 < (px_rd w x0 4) then
        if px_go w x0 2 = true then
          if px_ga w 0 (px_rd w x0 5) x6 = true then
            if (px_rd w (px_rd w x0 5) (x6).toNat) = (-1) then
              px_R (mm_Line_overBends, 6, [(2, x0), (2, x1), (0, x2), (0, x3), (0, x4), (0, (px_w (Int.tdiv (px_w (x5 * 0)) 100))), (0, (px_w (x6 + 1))), (0, 0), y8], [], w)
            else
              if px_go w x0 2 = true then
                if px_ga w 0 (px_rd w x0 5) x6 = true then
                  if px_go w x1 5 = true then
                    (px_R (mm_Str_number, 0, [(2, x1), (0, 5), (0, (px_rd w (px_rd w x0 5) (x6).toNat)), (0, 0)], [], w)).bind fun r1 =>
                    if px_go r1.2 x0 2 = true then
                      if px_ga r1.2 0 (px_rd r1.2 x0 5) x6 = true then
                        if px_go r1.2 x1 5 = true then
                          (px_R (mm_Str_ofBand, 0, [(2, x1), (0, 5), (0, (px_rd r1.2 (px_rd r1.2 x0 5) (x6).toNat)), (0, x3), (9, 0)], [], r1.2)).bind fun r2 =>
                          (px_R (mm_Math_abs, 0, [(0, (px_w (r1.1 - r2.1)))], [], r2.2)).bind fun r3 =>
                            px_R (mm_Line_overBends, 6, [(2, x0), (2, x1), (0, x2), (0, x3), (0, x4), (0, (px_w (Int.tdiv (px_w (x5 * (px_w (100 - (px_w (10 * r3.1)))))) 100))), (0, (px_w (x6 + 1))), (0, (px_w (100 - (px_w (10 * r3.1))))), (0, r1.1)], [], r3.2)
                        else none
                      else none
                    else none
                  else none
                else none
              else none
          else none
        else none
      else
        px_R (mm_Line_overBends, 90, [(2, x0), (2, x1), (0, x2), (0, x3), (0, x4), (0, x5), (0, 0), y7, y8], [], w)
    else none) := (px_Req mm_Line_overBends 6 [(2, x0), (2, x1), (0, x2), (0, x3), (0, x4), (0, x5), (0, x6), y7, y8] [] w).trans rfl
set_option maxRecDepth 100000 in
theorem eq_Line_overBends_90 (x0 x1 x2 x3 x4 x5 x6 : Int) (y7 y8 : pv) (w : pw) : px_R (mm_Line_overBends, 90, [(2, x0), (2, x1), (0, x2), (0, x3), (0, x4), (0, x5), (0, x6), y7, y8], [], w) =
    (if x6 < x4 then
      if px_go w x0 2 = true then
        if px_ga w 0 (px_rd w x0 7) x6 = true then
          px_R (mm_Line_overBends, 90, [(2, x0), (2, x1), (0, x2), (0, x3), (0, x4), (0, (px_w (Int.tdiv (px_w (x5 * (px_w (100 - (px_rd w (px_rd w x0 7) (x6).toNat))))) 100))), (0, (px_w (x6 + 1))), y7, y8], [], w)
        else none
      else none
    else
      some (x5, w)) := (px_Req mm_Line_overBends 90 [(2, x0), (2, x1), (0, x2), (0, x3), (0, x4), (0, x5), (0, x6), y7, y8] [] w).trans rfl
set_option maxRecDepth 100000 in
theorem eq_Line_overYards_0 (x0 x1 x2 x3 x4 : Int) (w : pw) : px_R (mm_Line_overYards, 0, [(2, x0), (2, x1), (0, x2), (0, x3), (0, x4), (9, 0), (9, 0), (9, 0)], [], w) =
    (if px_go w x0 2 = true then
      if px_go w x1 5 = true then
        (px_R (mm_Str_ofBand, 0, [(2, x1), (0, 0), (0, (px_rd w x0 0)), (0, x3), (9, 0)], [], w)).bind fun r1 =>
        px_R (mm_Line_overYards, 22, [(2, x0), (2, x1), (0, x2), (0, x3), (0, x4), (0, (px_w (1000 - r1.1))), (0, x2), (0, 0)], [], r1.2)
      else none
    else none) := (px_Req mm_Line_overYards 0 [(2, x0), (2, x1), (0, x2), (0, x3), (0, x4), (9, 0), (9, 0), (9, 0)] [] w).trans rfl
set_option maxRecDepth 100000 in
theorem eq_Line_overYards_22 (x0 x1 x2 x3 x4 x5 x6 x7 : Int) (w : pw) : px_R (mm_Line_overYards, 22, [(2, x0), (2, x1), (0, x2), (0, x3), (0, x4), (0, x5), (0, x6), (0, x7)], [], w) =
    (if x7 < x4 then
      px_R (mm_Line_overYards, 22, [(2, x0), (2, x1), (0, x2), (0, x3), (0, x4), (0, x5), (0, (px_w (Int.tdiv (px_w (x6 * x5)) 1000))), (0, (px_w (x7 + 1)))], [], w)
    else
      some (x6, w)) := (px_Req mm_Line_overYards 22 [(2, x0), (2, x1), (0, x2), (0, x3), (0, x4), (0, x5), (0, x6), (0, x7)] [] w).trans rfl
set_option maxRecDepth 100000 in
theorem eq_Line_strength_0 (x0 x1 : Int) (w : pw) : px_R (mm_Line_strength, 0, [(2, x0), (2, x1), (9, 0)], [], w) =
    (if px_go w x0 2 = true then
      if px_go w x1 5 = true then
        (px_R (mm_Str_number, 0, [(2, x1), (0, 0), (0, (px_rd w x0 0)), (0, 0)], [], w)).bind fun r1 =>
        if px_go r1.2 x1 5 = true then
          (px_R (mm_Str_number, 0, [(2, x1), (0, 6), (0, 0), (0, 0)], [], r1.2)).bind fun r2 =>
          if px_go r2.2 x1 5 = true then
            (px_R (mm_Str_number, 0, [(2, x1), (0, 7), (0, 0), (0, 0)], [], r2.2)).bind fun r3 =>
            (px_R (mm_Math_max, 0, [(0, 0), (0, (px_w ((px_w (Int.tdiv (px_w (r1.1 * (px_w (100 - r2.1)))) 100)) - r3.1)))], [], r3.2)).bind fun r4 =>
              some (r4.1, r4.2)
          else none
        else none
      else none
    else none) := (px_Req mm_Line_strength 0 [(2, x0), (2, x1), (9, 0)] [] w).trans rfl
set_option maxRecDepth 100000 in
theorem eq_Prod_init_0 (x0 : Int) (w : pw) : px_R (mm_Prod_init, 0, [(2, x0)], [], w) =
    (if px_go (px_al w (1, 11)) x0 3 = true then
      some (0, (px_wr (px_al w (1, 11)) x0 0 (w.1.length : Int)))
    else none) := (px_Req mm_Prod_init 0 [(2, x0)] [] w).trans rfl
set_option maxRecDepth 100000 in
theorem eq_Row_init_0 (x0 : Int) (w : pw) : px_R (mm_Row_init, 0, [(2, x0)], [], w) =
    (if px_go (px_al w (0, 40)) x0 4 = true then
      if px_go (px_al (px_wr (px_al w (0, 40)) x0 4 (w.1.length : Int)) (0, 40)) x0 4 = true then
        px_R (mm_Row_init, 20, [(2, x0)], [], (px_wr (px_al (px_wr (px_al w (0, 40)) x0 4 (w.1.length : Int)) (0, 40)) x0 5 ((px_wr (px_al w (0, 40)) x0 4 (w.1.length : Int)).1.length : Int)))
      else none
    else none) := (px_Req mm_Row_init 0 [(2, x0)] [] w).trans rfl
set_option maxRecDepth 100000 in
theorem eq_Row_init_20 (x0 : Int) (w : pw) : px_R (mm_Row_init, 20, [(2, x0)], [], w) =
    (if px_go (px_al w (0, 40)) x0 4 = true then
      if px_go (px_al (px_wr (px_al w (0, 40)) x0 6 (w.1.length : Int)) (0, 40)) x0 4 = true then
        px_R (mm_Row_init, 36, [(2, x0)], [], (px_wr (px_al (px_wr (px_al w (0, 40)) x0 6 (w.1.length : Int)) (0, 40)) x0 7 ((px_wr (px_al w (0, 40)) x0 6 (w.1.length : Int)).1.length : Int)))
      else none
    else none) := (px_Req mm_Row_init 20 [(2, x0)] [] w).trans rfl
set_option maxRecDepth 100000 in
theorem eq_Row_init_36 (x0 : Int) (w : pw) : px_R (mm_Row_init, 36, [(2, x0)], [], w) =
    (some (0, w)) := (px_Req mm_Row_init 36 [(2, x0)] [] w).trans rfl
set_option maxRecDepth 100000 in
theorem eq_Row_bounded_0 (x0 : Int) (w : pw) : px_R (mm_Row_bounded, 0, [(0, x0)], [], w) =
    ((px_R (mm_Math_min, 0, [(0, 999999), (0, x0)], [], w)).bind fun r1 =>
      (px_R (mm_Math_max, 0, [(0, (-999999)), (0, r1.1)], [], r1.2)).bind fun r2 =>
        some (r2.1, r2.2)) := (px_Req mm_Row_bounded 0 [(0, x0)] [] w).trans rfl
set_option maxRecDepth 100000 in
theorem eq_Str_init_0 (x0 : Int) (w : pw) : px_R (mm_Str_init, 0, [(2, x0)], [], w) =
    (if px_go (px_al w (0, 9)) x0 5 = true then
      if px_go (px_al2 (px_wr (px_al w (0, 9)) x0 1 (w.1.length : Int)) 5 1 9 6) x0 5 = true then
        px_R (mm_Str_init, 24, [(2, x0)], [], (px_wr (px_al2 (px_wr (px_al w (0, 9)) x0 1 (w.1.length : Int)) 5 1 9 6) x0 2 ((px_wr (px_al w (0, 9)) x0 1 (w.1.length : Int)).1.length : Int)))
      else none
    else none) := (px_Req mm_Str_init 0 [(2, x0)] [] w).trans rfl
set_option maxRecDepth 100000 in
theorem eq_Str_init_24 (x0 : Int) (w : pw) : px_R (mm_Str_init, 24, [(2, x0)], [], w) =
    (if px_go (px_al2 w 4 0 9 30) x0 5 = true then
      if px_go (px_wr (px_al2 w 4 0 9 30) x0 3 (w.1.length : Int)) x0 5 = true then
        if (px_ga (px_wr (px_al2 w 4 0 9 30) x0 3 (w.1.length : Int)) 4 (px_rd (px_wr (px_al2 w 4 0 9 30) x0 3 (w.1.length : Int)) x0 3) 8 || (px_ga (px_wr (px_al2 w 4 0 9 30) x0 3 (w.1.length : Int)) 5 (px_rd (px_wr (px_al2 w 4 0 9 30) x0 3 (w.1.length : Int)) x0 3) 8 || px_ga (px_wr (px_al2 w 4 0 9 30) x0 3 (w.1.length : Int)) 6 (px_rd (px_wr (px_al2 w 4 0 9 30) x0 3 (w.1.length : Int)) x0 3) 8)) = true then
          if px_ga (px_wr (px_al2 w 4 0 9 30) x0 3 (w.1.length : Int)) 0 (px_rd (px_wr (px_al2 w 4 0 9 30) x0 3 (w.1.length : Int)) (px_rd (px_wr (px_al2 w 4 0 9 30) x0 3 (w.1.length : Int)) x0 3) 8) 0 = true then
            some (0, (px_wr (px_wr (px_al2 w 4 0 9 30) x0 3 (w.1.length : Int)) (px_rd (px_wr (px_al2 w 4 0 9 30) x0 3 (w.1.length : Int)) (px_rd (px_wr (px_al2 w 4 0 9 30) x0 3 (w.1.length : Int)) x0 3) 8) 0 1))
          else none
        else none
      else none
    else none) := (px_Req mm_Str_init 24 [(2, x0)] [] w).trans rfl
set_option maxRecDepth 100000 in
theorem eq_Str_isOneAt_0 (x0 x1 x2 x3 : Int) (w : pw) : px_R (mm_Str_isOneAt, 0, [(2, x0), (0, x1), (0, x2), (0, x3), (9, 0)], [], w) =
    (px_R (mm_Str_isOneAt, 3, [(2, x0), (0, x1), (0, x2), (0, x3), (0, 0)], [], w)) := (px_Req mm_Str_isOneAt 0 [(2, x0), (0, x1), (0, x2), (0, x3), (9, 0)] [] w).trans rfl
set_option maxRecDepth 100000 in
theorem eq_Str_isOneAt_3 (x0 x1 x2 x3 x4 : Int) (w : pw) : px_R (mm_Str_isOneAt, 3, [(2, x0), (0, x1), (0, x2), (0, x3), (0, x4)], [], w) =
    (if px_go w x0 5 = true then
      if px_ga w 0 (px_rd w x0 1) x1 = true then
        if x4 < (px_rd w (px_rd w x0 1) (x1).toNat) then
          if px_go w x0 5 = true then
            (px_R (mm_Str_number, 0, [(2, x0), (0, x1), (0, x4), (0, 0)], [], w)).bind fun r1 =>
            if r1.1 = x2 then
              if px_go r1.2 x0 5 = true then
                (px_R (mm_Str_number, 0, [(2, x0), (0, x1), (0, x4), (0, 1)], [], r1.2)).bind fun r2 =>
                if r2.1 = x3 then
                  some (1, r2.2)
                else
                  px_R (mm_Str_isOneAt, 3, [(2, x0), (0, x1), (0, x2), (0, x3), (0, (px_w (x4 + 1)))], [], r2.2)
              else none
            else
              px_R (mm_Str_isOneAt, 3, [(2, x0), (0, x1), (0, x2), (0, x3), (0, (px_w (x4 + 1)))], [], r1.2)
          else none
        else
          some (0, w)
      else none
    else none) := (px_Req mm_Str_isOneAt 3 [(2, x0), (0, x1), (0, x2), (0, x3), (0, x4)] [] w).trans rfl
set_option maxRecDepth 100000 in
theorem eq_Tape_init_0 (x0 : Int) (w : pw) : px_R (mm_Tape_init, 0, [(2, x0)], [], w) =
    (if px_go (px_al w (2, 900)) x0 6 = true then
      some (0, (px_wr (px_al w (2, 900)) x0 0 (w.1.length : Int)))
    else none) := (px_Req mm_Tape_init 0 [(2, x0)] [] w).trans rfl
set_option maxRecDepth 100000 in
theorem eq_Tape_readNumber_0 (x0 : Int) (w : pw) : px_R (mm_Tape_readNumber, 0, [(2, x0)], [], w) =
    (if px_go w x0 6 = true then
      if px_go w x0 6 = true then
        if (px_rd w x0 4) < (px_rd w x0 1) then
          if px_go w x0 6 = true then
            if px_go w x0 6 = true then
              if (px_ga w 2 (px_rd w x0 0) (px_rd w x0 4) || px_ga w 3 (px_rd w x0 0) (px_rd w x0 4)) = true then
                (px_R (mm_Tape_isDigit, 0, [(0, (px_rd w (px_rd w x0 0) ((px_rd w x0 4)).toNat))], [], w)).bind fun r1 =>
                  if r1.1 = 0 then
                    px_R (mm_Tape_readNumber, 63, [(2, x0)], [], r1.2)
                  else
                    if px_go r1.2 x0 6 = true then
                      if px_go r1.2 x0 6 = true then
                        if px_go r1.2 x0 6 = true then
                          if (px_ga r1.2 2 (px_rd r1.2 x0 0) (px_rd r1.2 x0 4) || px_ga r1.2 3 (px_rd r1.2 x0 0) (px_rd r1.2 x0 4)) = true then
                            if px_go r1.2 x0 6 = true then
                              if px_go (px_wr r1.2 x0 6 (px_w ((px_w ((px_rd r1.2 x0 6) * 10)) + (px_w ((px_rd r1.2 (px_rd r1.2 x0 0) ((px_rd r1.2 x0 4)).toNat) - 48))))) x0 6 = true then
                                if px_go (px_wr r1.2 x0 6 (px_w ((px_w ((px_rd r1.2 x0 6) * 10)) + (px_w ((px_rd r1.2 (px_rd r1.2 x0 0) ((px_rd r1.2 x0 4)).toNat) - 48))))) x0 6 = true then
                                  px_R (mm_Tape_readNumber, 0, [(2, x0)], [], (px_wr (px_wr r1.2 x0 6 (px_w ((px_w ((px_rd r1.2 x0 6) * 10)) + (px_w ((px_rd r1.2 (px_rd r1.2 x0 0) ((px_rd r1.2 x0 4)).toNat) - 48))))) x0 4 (px_w ((px_rd (px_wr r1.2 x0 6 (px_w ((px_w ((px_rd r1.2 x0 6) * 10)) + (px_w ((px_rd r1.2 (px_rd r1.2 x0 0) ((px_rd r1.2 x0 4)).toNat) - 48))))) x0 4) + 1))))
                                else none
                              else none
                            else none
                          else none
                        else none
                      else none
                    else none
              else none
            else none
          else none
        else
          px_R (mm_Tape_readNumber, 63, [(2, x0)], [], w)
      else none
    else none) := (px_Req mm_Tape_readNumber 0 [(2, x0)] [] w).trans rfl
set_option maxRecDepth 100000 in
theorem eq_Tape_readNumber_63 (x0 : Int) (w : pw) : px_R (mm_Tape_readNumber, 63, [(2, x0)], [], w) =
    (if px_go w x0 6 = true then
      if px_go w x0 6 = true then
        if 4 < (px_w ((px_rd w x0 4) - (px_rd w x0 3))) then
          if px_go w x0 6 = true then
            some (0, (px_wr w x0 2 1))
          else none
        else
          if px_go w x0 6 = true then
            some (0, (px_wr w x0 2 3))
          else none
      else none
    else none) := (px_Req mm_Tape_readNumber 63 [(2, x0)] [] w).trans rfl
set_option maxRecDepth 100000 in
theorem eq_Tape_readWord_0 (x0 : Int) (w : pw) : px_R (mm_Tape_readWord, 0, [(2, x0)], [], w) =
    (if px_go w x0 6 = true then
      if px_go w x0 6 = true then
        if (px_rd w x0 4) < (px_rd w x0 1) then
          if px_go w x0 6 = true then
            if px_go w x0 6 = true then
              if (px_ga w 2 (px_rd w x0 0) (px_rd w x0 4) || px_ga w 3 (px_rd w x0 0) (px_rd w x0 4)) = true then
                (px_R (mm_Tape_isLetter, 0, [(0, (px_rd w (px_rd w x0 0) ((px_rd w x0 4)).toNat))], [], w)).bind fun r1 =>
                  if r1.1 = 0 then
                    px_R (mm_Tape_readWord, 67, [(2, x0)], [], r1.2)
                  else
                    if px_go r1.2 x0 6 = true then
                      if px_go r1.2 x0 6 = true then
                        if px_go r1.2 x0 6 = true then
                          if (px_ga r1.2 2 (px_rd r1.2 x0 0) (px_rd r1.2 x0 4) || px_ga r1.2 3 (px_rd r1.2 x0 0) (px_rd r1.2 x0 4)) = true then
                            if px_go r1.2 x0 6 = true then
                              if px_go (px_wr r1.2 x0 5 (px_wl ((px_wl ((px_rd r1.2 x0 5) * 32)) + (px_w ((px_w ((px_rd r1.2 (px_rd r1.2 x0 0) ((px_rd r1.2 x0 4)).toNat) - 97)) + 1))))) x0 6 = true then
                                if px_go (px_wr r1.2 x0 5 (px_wl ((px_wl ((px_rd r1.2 x0 5) * 32)) + (px_w ((px_w ((px_rd r1.2 (px_rd r1.2 x0 0) ((px_rd r1.2 x0 4)).toNat) - 97)) + 1))))) x0 6 = true then
                                  px_R (mm_Tape_readWord, 0, [(2, x0)], [], (px_wr (px_wr r1.2 x0 5 (px_wl ((px_wl ((px_rd r1.2 x0 5) * 32)) + (px_w ((px_w ((px_rd r1.2 (px_rd r1.2 x0 0) ((px_rd r1.2 x0 4)).toNat) - 97)) + 1))))) x0 4 (px_w ((px_rd (px_wr r1.2 x0 5 (px_wl ((px_wl ((px_rd r1.2 x0 5) * 32)) + (px_w ((px_w ((px_rd r1.2 (px_rd r1.2 x0 0) ((px_rd r1.2 x0 4)).toNat) - 97)) + 1))))) x0 4) + 1))))
                                else none
                              else none
                            else none
                          else none
                        else none
                      else none
                    else none
              else none
            else none
          else none
        else
          px_R (mm_Tape_readWord, 67, [(2, x0)], [], w)
      else none
    else none) := (px_Req mm_Tape_readWord 0 [(2, x0)] [] w).trans rfl
set_option maxRecDepth 100000 in
theorem eq_Tape_readWord_67 (x0 : Int) (w : pw) : px_R (mm_Tape_readWord, 67, [(2, x0)], [], w) =
    (if px_go w x0 6 = true then
      if px_go w x0 6 = true then
        if 8 < (px_w ((px_rd w x0 4) - (px_rd w x0 3))) then
          if px_go w x0 6 = true then
            some (0, (px_wr w x0 2 1))
          else none
        else
          if px_go w x0 6 = true then
            some (0, (px_wr w x0 2 2))
          else none
      else none
    else none) := (px_Req mm_Tape_readWord 67 [(2, x0)] [] w).trans rfl
set_option maxRecDepth 100000 in
theorem eq_Wish_init_0 (x0 : Int) (w : pw) : px_R (mm_Wish_init, 0, [(2, x0)], [], w) =
    (if px_go (px_al w (0, 10)) x0 7 = true then
      if px_go (px_al (px_wr (px_al w (0, 10)) x0 3 (w.1.length : Int)) (0, 10)) x0 7 = true then
        px_R (mm_Wish_init, 20, [(2, x0)], [], (px_wr (px_al (px_wr (px_al w (0, 10)) x0 3 (w.1.length : Int)) (0, 10)) x0 4 ((px_wr (px_al w (0, 10)) x0 3 (w.1.length : Int)).1.length : Int)))
      else none
    else none) := (px_Req mm_Wish_init 0 [(2, x0)] [] w).trans rfl
set_option maxRecDepth 100000 in
theorem eq_Wish_init_20 (x0 : Int) (w : pw) : px_R (mm_Wish_init, 20, [(2, x0)], [], w) =
    (if px_go (px_al w (0, 5)) x0 7 = true then
      some (0, (px_wr (px_al w (0, 5)) x0 5 (w.1.length : Int)))
    else none) := (px_Req mm_Wish_init 20 [(2, x0)] [] w).trans rfl
set_option maxRecDepth 100000 in
theorem eq_Wish_add_0 (x0 x1 : Int) (w : pw) : px_R (mm_Wish_add, 0, [(2, x0), (0, x1)], [], w) =
    (if px_go w x0 7 = true then
      if px_go w x0 7 = true then
        if px_go (px_wr w x0 0 (px_or (px_rd w x0 0) (px_shl 1 x1))) x0 7 = true then
          (px_R (mm_Integer_bitCount, 0, [(0, (px_rd (px_wr w x0 0 (px_or (px_rd w x0 0) (px_shl 1 x1))) x0 0))], [], (px_wr w x0 0 (px_or (px_rd w x0 0) (px_shl 1 x1))))).bind fun r1 =>
            some (r1.1, r1.2)
        else none
      else none
    else none) := (px_Req mm_Wish_add 0 [(2, x0), (0, x1)] [] w).trans rfl
set_option maxRecDepth 100000 in
theorem eq_Wish_grants_0 (x0 x1 x2 x3 x4 : Int) (w : pw) : px_R (mm_Wish_grants, 0, [(2, x0), (0, x1), (0, x2), (0, x3), (0, x4), (9, 0)], [], w) =
    (px_R (mm_Wish_grants, 3, [(2, x0), (0, x1), (0, x2), (0, x3), (0, x4), (0, 0)], [], w)) := (px_Req mm_Wish_grants 0 [(2, x0), (0, x1), (0, x2), (0, x3), (0, x4), (9, 0)] [] w).trans rfl
set_option maxRecDepth 100000 in
theorem eq_Wish_grants_3 (x0 x1 x2 x3 x4 x5 : Int) (w : pw) : px_R (mm_Wish_grants, 3, [(2, x0), (0, x1), (0, x2), (0, x3), (0, x4), (0, x5)], [], w) =
    (if x5 < x3 then
      if px_go w x0 7 = true then
        if px_go w x0 7 = true then
          (px_R (mm_Wish_reachOf, 0, [(2, x0), (0, x5), (0, x1), (0, x2), (0, x4), (9, 0), (9, 0), (9, 0), (9, 0)], [], w)).bind fun r1 =>
          if px_ga r1.2 0 (px_rd w x0 5) x5 = true then
            px_R (mm_Wish_grants, 3, [(2, x0), (0, x1), (0, x2), (0, x3), (0, x4), (0, (px_w (x5 + 1)))], [], (px_wr r1.2 (px_rd w x0 5) (x5).toNat r1.1))
          else none
        else none
      else none
    else
      px_R (mm_Wish_grants, 35, [(2, x0), (0, x1), (0, x2), (0, x3), (0, x4), (0, 0)], [], w)) := (px_Req mm_Wish_grants 3 [(2, x0), (0, x1), (0, x2), (0, x3), (0, x4), (0, x5)] [] w).trans rfl
set_option maxRecDepth 100000 in
theorem eq_Wish_grants_35 (x0 x1 x2 x3 x4 x5 : Int) (w : pw) : px_R (mm_Wish_grants, 35, [(2, x0), (0, x1), (0, x2), (0, x3), (0, x4), (0, x5)], [], w) =
    (if x5 < x2 then
      if px_go w x0 7 = true then
        if (px_and (px_shr (px_rd w x0 0) x5) 1) = 1 then
          if px_go w x0 7 = true then
            (px_R (mm_Wish_isReached, 0, [(2, x0), (0, x5), (0, x3), (9, 0)], [], w)).bind fun r2 =>
            if r2.1 = 0 then
              some (0, r2.2)
            else
              px_R (mm_Wish_grants, 35, [(2, x0), (0, x1), (0, x2), (0, x3), (0, x4), (0, (px_w (x5 + 1)))], [], r2.2)
          else none
        else
          px_R (mm_Wish_grants, 35, [(2, x0), (0, x1), (0, x2), (0, x3), (0, x4), (0, (px_w (x5 + 1)))], [], w)
      else none
    else
      some (1, w)) := (px_Req mm_Wish_grants 35 [(2, x0), (0, x1), (0, x2), (0, x3), (0, x4), (0, x5)] [] w).trans rfl
set_option maxRecDepth 100000 in
theorem eq_Wish_isBetween_0 (x0 x1 : Int) (w : pw) : px_R (mm_Wish_isBetween, 0, [(0, x0), (0, x1)], [], w) =
    ((px_R (mm_Math_min, 0, [(0, 0), (0, x1)], [], w)).bind fun r1 =>
      if x0 < r1.1 then
        some (0, r1.2)
      else
        (px_R (mm_Math_max, 0, [(0, 0), (0, x1)], [], r1.2)).bind fun r2 =>
          if r2.1 < x0 then
            some (0, r2.2)
          else
            some (1, r2.2)) := (px_Req mm_Wish_isBetween 0 [(0, x0), (0, x1)] [] w).trans rfl
set_option maxRecDepth 100000 in
theorem eq_Tin_cell_0 (x0 x1 x2 x3 : Int) (w : pw) : px_R (mm_Tin_cell, 0, [(2, x0), (0, x1), (0, x2), (0, x3)], [], w) =
    (if px_go w x0 8 = true then
      if px_go w (px_rd w x0 5) 4 = true then
        (px_R (mm_Tin_within, 0, [(0, x1), (0, 0), (0, (px_w ((px_rd w (px_rd w x0 5) 0) - 1)))], [], w)).bind fun r1 =>
          if r1.1 = 0 then
            some ((-2), r1.2)
          else
            (px_R (mm_Tin_within, 0, [(0, x2), (0, 0), (0, 100)], [], r1.2)).bind fun r2 =>
              if r2.1 = 0 then
                some ((-2), r2.2)
              else
                (px_R (mm_Tin_within, 0, [(0, x3), (0, 0), (0, (px_w (100 - x2)))], [], r2.2)).bind fun r3 =>
                  if r3.1 = 0 then
                    some ((-2), r3.2)
                  else
                    if px_go r3.2 x0 8 = true then
                      if px_go r3.2 (px_rd r3.2 x0 5) 4 = true then
                        if px_ga r3.2 0 (px_rd r3.2 (px_rd r3.2 x0 5) 6) x1 = true then
                          if px_go (px_wr r3.2 (px_rd r3.2 (px_rd r3.2 x0 5) 6) (x1).toNat x2) x0 8 = true then
                            if px_go (px_wr r3.2 (px_rd r3.2 (px_rd r3.2 x0 5) 6) (x1).toNat x2) (px_rd (px_wr r3.2 (px_rd r3.2 (px_rd r3.2 x0 5) 6) (x1).toNat x2) x0 5) 4 = true then
                              if px_ga (px_wr r3.2 (px_rd r3.2 (px_rd r3.2 x0 5) 6) (x1).toNat x2) 0 (px_rd (px_wr r3.2 (px_rd r3.2 (px_rd r3.2 x0 5) 6) (x1).toNat x2) (px_rd (px_wr r3.2 (px_rd r3.2 (px_rd r3.2 x0 5) 6) (x1).toNat x2) x0 5) 7) x1 = true then
                                some (1, (px_wr (px_wr r3.2 (px_rd r3.2 (px_rd r3.2 x0 5) 6) (x1).toNat x2) (px_rd (px_wr r3.2 (px_rd r3.2 (px_rd r3.2 x0 5) 6) (x1).toNat x2) (px_rd (px_wr r3.2 (px_rd r3.2 (px_rd r3.2 x0 5) 6) (x1).toNat x2) x0 5) 7) (x1).toNat x3))
                              else none
                            else none
                          else none
                        else none
                      else none
                    else none
      else none
    else none) := (px_Req mm_Tin_cell 0 [(2, x0), (0, x1), (0, x2), (0, x3)] [] w).trans rfl
set_option maxRecDepth 100000 in
theorem eq_Tin_count_0 (x0 x1 : Int) (w : pw) : px_R (mm_Tin_count, 0, [(2, x0), (0, x1)], [], w) =
    (if x1 = 0 then
      if px_go w x0 8 = true then
        if px_go w (px_rd w x0 8) 5 = true then
          some ((px_rd w (px_rd w x0 8) 0), w)
        else none
      else none
    else if x1 = 1 then
      if px_go w x0 8 = true then
        if px_go w (px_rd w x0 4) 0 = true then
          some ((px_rd w (px_rd w x0 4) 1), w)
        else none
      else none
    else if x1 = 2 then
      if px_go w x0 8 = true then
        if px_go w (px_rd w x0 4) 0 = true then
          some ((px_rd w (px_rd w x0 4) 2), w)
        else none
      else none
    else if x1 = 3 then
      if px_go w x0 8 = true then
        if px_go w (px_rd w x0 3) 7 = true then
          (px_R (mm_Integer_bitCount, 0, [(0, (px_rd w (px_rd w x0 3) 0))], [], w)).bind fun r1 =>
            some (r1.1, r1.2)
        else none
      else none
    else if x1 = 4 then
      if px_go w x0 8 = true then
        if px_go w (px_rd w x0 5) 4 = true then
          some ((px_rd w (px_rd w x0 5) 0), w)
        else none
      else none
    else if x1 = 5 then
      if px_go w x0 8 = true then
        if px_go w (px_rd w x0 5) 4 = true then
          some ((px_rd w (px_rd w x0 5) 1), w)
        else none
      else none
    else if x1 = 6 then
      if px_go w x0 8 = true then
        if px_go w (px_rd w x0 0) 6 = true then
          some ((px_rd w (px_rd w x0 0) 1), w)
        else none
      else none
    else 
      some ((-1), w)) := (px_Req mm_Tin_count 0 [(2, x0), (0, x1)] [] w).trans rfl
set_option maxRecDepth 100000 in
theorem eq_Tin_end_0 (x0 x1 : Int) (w : pw) : px_R (mm_Tin_end, 0, [(2, x0), (0, x1)], [], w) =
    (if px_go w x0 8 = true then
      if px_go w (px_rd w x0 0) 6 = true then
        (px_R (mm_Tin_within, 0, [(0, x1), (0, 0), (0, (px_rd w (px_rd w x0 0) 1))], [], w)).bind fun r1 =>
          if r1.1 = 0 then
            some ((-1), r1.2)
          else
            if px_go r1.2 x0 8 = true then
              if px_go r1.2 (px_rd r1.2 x0 0) 6 = true then
                some (x1, (px_wr r1.2 (px_rd r1.2 x0 0) 1 x1))
              else none
            else none
      else none
    else none) := (px_Req mm_Tin_end 0 [(2, x0), (0, x1)] [] w).trans rfl
set_option maxRecDepth 100000 in
theorem eq_Tin_feed_0 (x0 x1 x2 x3 x4 x5 : Int) (w : pw) : px_R (mm_Tin_feed, 0, [(2, x0), (0, x1), (0, x2), (0, x3), (0, x4), (0, x5)], [], w) =
    (if px_go w x0 8 = true then
      if px_go w (px_rd w x0 0) 6 = true then
        if 900 < (px_w ((px_rd w (px_rd w x0 0) 1) + 20)) then
          some ((-3), w)
        else
          if px_go w x0 8 = true then
            if px_go w (px_rd w x0 0) 6 = true then
              (px_R (mm_Tape_put, 0, [(2, (px_rd w x0 0)), (0, x1), (9, 0)], [], w)).bind fun r1 =>
              if px_go r1.2 x0 8 = true then
                if px_go r1.2 (px_rd r1.2 x0 0) 6 = true then
                  (px_R (mm_Tape_put, 0, [(2, (px_rd r1.2 x0 0)), (0, x2), (9, 0)], [], r1.2)).bind fun r2 =>
                  if px_go r2.2 x0 8 = true then
                    if px_go r2.2 (px_rd r2.2 x0 0) 6 = true then
                      (px_R (mm_Tape_put, 0, [(2, (px_rd r2.2 x0 0)), (0, x3), (9, 0)], [], r2.2)).bind fun r3 =>
                      if px_go r3.2 x0 8 = true then
                        if px_go r3.2 (px_rd r3.2 x0 0) 6 = true then
                          (px_R (mm_Tape_put, 0, [(2, (px_rd r3.2 x0 0)), (0, x4), (9, 0)], [], r3.2)).bind fun r4 =>
                          if px_go r4.2 x0 8 = true then
                            if px_go r4.2 (px_rd r4.2 x0 0) 6 = true then
                              (px_R (mm_Tape_put, 0, [(2, (px_rd r4.2 x0 0)), (0, x5), (9, 0)], [], r4.2)).bind fun r5 =>
                              if px_go r5.2 x0 8 = true then
                                if px_go r5.2 (px_rd r5.2 x0 0) 6 = true then
                                  some ((px_rd r5.2 (px_rd r5.2 x0 0) 1), r5.2)
                                else none
                              else none
                            else none
                          else none
                        else none
                      else none
                    else none
                  else none
                else none
              else none
            else none
          else none
      else none
    else none) := (px_Req mm_Tin_feed 0 [(2, x0), (0, x1), (0, x2), (0, x3), (0, x4), (0, x5)] [] w).trans rfl
set_option maxRecDepth 100000 in
theorem eq_Tin_goes_0 (x0 x1 x2 : Int) (w : pw) : px_R (mm_Tin_goes, 0, [(2, x0), (0, x1), (0, x2)], [], w) =
    (if px_go w x0 8 = true then
      if px_go w (px_rd w x0 5) 4 = true then
        (px_R (mm_Tin_within, 0, [(0, x1), (0, 0), (0, (px_w ((px_rd w (px_rd w x0 5) 0) - 1)))], [], w)).bind fun r1 =>
          if r1.1 = 0 then
            some ((-2000000000), r1.2)
          else
            if x2 = 0 then
              if px_go r1.2 x0 8 = true then
                if px_go r1.2 (px_rd r1.2 x0 5) 4 = true then
                  if px_ga r1.2 0 (px_rd r1.2 (px_rd r1.2 x0 5) 4) x1 = true then
                    some ((px_rd r1.2 (px_rd r1.2 (px_rd r1.2 x0 5) 4) (x1).toNat), r1.2)
                  else none
                else none
              else none
            else if x2 = 1 then
              if px_go r1.2 x0 8 = true then
                if px_go r1.2 (px_rd r1.2 x0 5) 4 = true then
                  if px_ga r1.2 0 (px_rd r1.2 (px_rd r1.2 x0 5) 5) x1 = true then
                    some ((px_rd r1.2 (px_rd r1.2 (px_rd r1.2 x0 5) 5) (x1).toNat), r1.2)
                  else none
                else none
              else none
            else if x2 = 2 then
              if px_go r1.2 x0 8 = true then
                if px_go r1.2 (px_rd r1.2 x0 5) 4 = true then
                  if px_ga r1.2 0 (px_rd r1.2 (px_rd r1.2 x0 5) 6) x1 = true then
                    some ((px_rd r1.2 (px_rd r1.2 (px_rd r1.2 x0 5) 6) (x1).toNat), r1.2)
                  else none
                else none
              else none
            else if x2 = 3 then
              if px_go r1.2 x0 8 = true then
                if px_go r1.2 (px_rd r1.2 x0 5) 4 = true then
                  if px_ga r1.2 0 (px_rd r1.2 (px_rd r1.2 x0 5) 7) x1 = true then
                    some ((px_rd r1.2 (px_rd r1.2 (px_rd r1.2 x0 5) 7) (x1).toNat), r1.2)
                  else none
                else none
              else none
            else 
              some ((-2000000000), r1.2)
      else none
    else none) := (px_Req mm_Tin_goes 0 [(2, x0), (0, x1), (0, x2)] [] w).trans rfl
set_option maxRecDepth 100000 in
theorem eq_Tin_isBand_0 (x0 : Int) (w : pw) : px_R (mm_Tin_isBand, 0, [(0, x0)], [], w) =
    ((px_R (mm_Tin_within, 0, [(0, x0), (0, 0), (0, 3)], [], w)).bind fun r1 =>
      if (decide (0 ≤ r1.1) && decide (r1.1 < 2)) = true then some (r1.1, r1.2) else none) := (px_Req mm_Tin_isBand 0 [(0, x0)] [] w).trans rfl
set_option maxRecDepth 100000 in
theorem eq_Tin_isOne_0 (x0 x1 x2 : Int) (w : pw) : px_R (mm_Tin_isOne, 0, [(2, x0), (0, x1), (0, x2)], [], w) =
    (if px_go w x0 8 = true then
      if px_go w (px_rd w x0 8) 5 = true then
        if px_ga w 0 (px_rd w (px_rd w x0 8) 1) x1 = true then
          (px_R (mm_Tin_within, 0, [(0, x2), (0, 0), (0, (px_w ((px_rd w (px_rd w (px_rd w x0 8) 1) (x1).toNat) - 1)))], [], w)).bind fun r1 =>
            if (decide (0 ≤ r1.1) && decide (r1.1 < 2)) = true then some (r1.1, r1.2) else none
        else none
      else none
    else none) := (px_Req mm_Tin_isOne 0 [(2, x0), (0, x1), (0, x2)] [] w).trans rfl
set_option maxRecDepth 100000 in
theorem eq_Tin_isStep_0 (x0 x1 : Int) (w : pw) : px_R (mm_Tin_isStep, 0, [(2, x0), (0, x1)], [], w) =
    (if px_go w x0 8 = true then
      if px_go w (px_rd w x0 4) 0 = true then
        (px_R (mm_Tin_within, 0, [(0, x1), (0, (px_rd w (px_rd w x0 4) 0)), (0, 999)], [], w)).bind fun r1 =>
          if (decide (0 ≤ r1.1) && decide (r1.1 < 2)) = true then some (r1.1, r1.2) else none
      else none
    else none) := (px_Req mm_Tin_isStep 0 [(2, x0), (0, x1)] [] w).trans rfl
set_option maxRecDepth 100000 in
theorem eq_Tin_keep_0 (x0 x1 : Int) (w : pw) : px_R (mm_Tin_keep, 0, [(2, x0), (0, x1)], [], w) =
    ((px_R (mm_Tin_within, 0, [(0, x1), (0, 0), (0, 2)], [], w)).bind fun r1 =>
      if r1.1 = 0 then
        some ((-2), r1.2)
      else
        if px_go r1.2 x0 8 = true then
          if (px_ga r1.2 4 (px_rd r1.2 x0 6) x1 || (px_ga r1.2 5 (px_rd r1.2 x0 6) x1 || px_ga r1.2 6 (px_rd r1.2 x0 6) x1)) = true then
            if px_go r1.2 x0 8 = true then
              if px_go r1.2 (px_rd r1.2 (px_rd r1.2 x0 6) (x1).toNat) 4 = true then
                (px_R (mm_Row_become, 0, [(2, (px_rd r1.2 (px_rd r1.2 x0 6) (x1).toNat)), (2, (px_rd r1.2 x0 5)), (9, 0)], [], r1.2)).bind fun r2 =>
                if px_go r2.2 x0 8 = true then
                  if px_go r2.2 (px_rd r2.2 x0 5) 4 = true then
                    some ((px_rd r2.2 (px_rd r2.2 x0 5) 1), r2.2)
                  else none
                else none
              else none
            else none
          else none
        else none) := (px_Req mm_Tin_keep 0 [(2, x0), (0, x1)] [] w).trans rfl
set_option maxRecDepth 100000 in
theorem eq_Tin_out_0 (x0 x1 : Int) (w : pw) : px_R (mm_Tin_out, 0, [(2, x0), (0, x1)], [], w) =
    ((px_R (mm_Tin_within, 0, [(0, x1), (0, 0), (0, 1)], [], w)).bind fun r1 =>
      if r1.1 = 0 then
        some ((-2000000000), r1.2)
      else
        if x1 = 0 then
          if px_go r1.2 x0 8 = true then
            if px_go r1.2 (px_rd r1.2 x0 5) 4 = true then
              some ((px_rd r1.2 (px_rd r1.2 x0 5) 2), r1.2)
            else none
          else none
        else
          if px_go r1.2 x0 8 = true then
            if px_go r1.2 (px_rd r1.2 x0 5) 4 = true then
              some ((px_rd r1.2 (px_rd r1.2 x0 5) 3), r1.2)
            else none
          else none) := (px_Req mm_Tin_out 0 [(2, x0), (0, x1)] [] w).trans rfl
set_option maxRecDepth 100000 in
theorem eq_Tin_stretch_0 (x0 x1 : Int) (w : pw) : px_R (mm_Tin_stretch, 0, [(2, x0), (0, x1)], [], w) =
    ((px_R (mm_Tin_within, 0, [(0, x1), (0, 2), (0, 40)], [], w)).bind fun r1 =>
      if r1.1 = 0 then
        some ((-2), r1.2)
      else
        if px_go r1.2 x0 8 = true then
          if px_go r1.2 (px_rd r1.2 x0 5) 4 = true then
            (px_R (mm_Row_lay, 0, [(2, (px_rd r1.2 x0 5)), (0, x1), (9, 0)], [], r1.2)).bind fun r2 =>
            some (x1, r2.2)
          else none
        else none) := (px_Req mm_Tin_stretch 0 [(2, x0), (0, x1)] [] w).trans rfl
set_option maxRecDepth 100000 in
theorem eq_Tin_take_0 (x0 x1 : Int) (w : pw) : px_R (mm_Tin_take, 0, [(2, x0), (0, x1)], [], w) =
    ((px_R (mm_Tin_within, 0, [(0, x1), (0, 0), (0, 2)], [], w)).bind fun r1 =>
      if r1.1 = 0 then
        some ((-2), r1.2)
      else
        if px_go r1.2 x0 8 = true then
          if (px_ga r1.2 4 (px_rd r1.2 x0 6) x1 || (px_ga r1.2 5 (px_rd r1.2 x0 6) x1 || px_ga r1.2 6 (px_rd r1.2 x0 6) x1)) = true then
            if px_go r1.2 (px_rd r1.2 (px_rd r1.2 x0 6) (x1).toNat) 4 = true then
              if (px_rd r1.2 (px_rd r1.2 (px_rd r1.2 x0 6) (x1).toNat) 0) = 0 then
                some ((-4), r1.2)
              else
                if px_go r1.2 x0 8 = true then
                  if px_go r1.2 x0 8 = true then
                    if (px_ga r1.2 4 (px_rd r1.2 x0 6) x1 || (px_ga r1.2 5 (px_rd r1.2 x0 6) x1 || px_ga r1.2 6 (px_rd r1.2 x0 6) x1)) = true then
                      if px_go r1.2 (px_rd r1.2 x0 5) 4 = true then
                        (px_R (mm_Row_become, 0, [(2, (px_rd r1.2 x0 5)), (2, (px_rd r1.2 (px_rd r1.2 x0 6) (x1).toNat)), (9, 0)], [], r1.2)).bind fun r2 =>
                        if px_go r2.2 x0 8 = true then
                          if px_go r2.2 (px_rd r2.2 x0 5) 4 = true then
                            some ((px_rd r2.2 (px_rd r2.2 x0 5) 1), r2.2)
                          else none
                        else none
                      else none
                    else none
                  else none
                else none
            else none
          else none
        else none) := (px_Req mm_Tin_take 0 [(2, x0), (0, x1)] [] w).trans rfl
set_option maxRecDepth 100000 in
theorem eq_Tin_tie_0 (x0 x1 : Int) (w : pw) : px_R (mm_Tin_tie, 0, [(2, x0), (0, x1)], [], w) =
    ((px_R (mm_Tin_within, 0, [(0, x1), (0, 0), (0, 100)], [], w)).bind fun r1 =>
      if r1.1 = 0 then
        some ((-2), r1.2)
      else
        if px_go r1.2 x0 8 = true then
          if px_go r1.2 (px_rd r1.2 x0 1) 2 = true then
            if (px_rd r1.2 (px_rd r1.2 x0 1) 6) < 4 then
              if px_go r1.2 x0 8 = true then
                if px_go r1.2 (px_rd r1.2 x0 1) 2 = true then
                  if px_go r1.2 x0 8 = true then
                    if px_go r1.2 (px_rd r1.2 x0 1) 2 = true then
                      if px_ga r1.2 0 (px_rd r1.2 (px_rd r1.2 x0 1) 7) (px_rd r1.2 (px_rd r1.2 x0 1) 6) = true then
                        if px_go (px_wr r1.2 (px_rd r1.2 (px_rd r1.2 x0 1) 7) ((px_rd r1.2 (px_rd r1.2 x0 1) 6)).toNat x1) x0 8 = true then
                          if px_go (px_wr r1.2 (px_rd r1.2 (px_rd r1.2 x0 1) 7) ((px_rd r1.2 (px_rd r1.2 x0 1) 6)).toNat x1) (px_rd (px_wr r1.2 (px_rd r1.2 (px_rd r1.2 x0 1) 7) ((px_rd r1.2 (px_rd r1.2 x0 1) 6)).toNat x1) x0 1) 2 = true then
                            if px_go (px_wr r1.2 (px_rd r1.2 (px_rd r1.2 x0 1) 7) ((px_rd r1.2 (px_rd r1.2 x0 1) 6)).toNat x1) (px_rd (px_wr r1.2 (px_rd r1.2 (px_rd r1.2 x0 1) 7) ((px_rd r1.2 (px_rd r1.2 x0 1) 6)).toNat x1) x0 1) 2 = true then
                              if px_go (px_wr (px_wr r1.2 (px_rd r1.2 (px_rd r1.2 x0 1) 7) ((px_rd r1.2 (px_rd r1.2 x0 1) 6)).toNat x1) (px_rd (px_wr r1.2 (px_rd r1.2 (px_rd r1.2 x0 1) 7) ((px_rd r1.2 (px_rd r1.2 x0 1) 6)).toNat x1) x0 1) 6 (px_w ((px_rd (px_wr r1.2 (px_rd r1.2 (px_rd r1.2 x0 1) 7) ((px_rd r1.2 (px_rd r1.2 x0 1) 6)).toNat x1) (px_rd (px_wr r1.2 (px_rd r1.2 (px_rd r1.2 x0 1) 7) ((px_rd r1.2 (px_rd r1.2 x0 1) 6)).toNat x1) x0 1) 6) + 1))) x0 8 = true then
                                if px_go (px_wr (px_wr r1.2 (px_rd r1.2 (px_rd r1.2 x0 1) 7) ((px_rd r1.2 (px_rd r1.2 x0 1) 6)).toNat x1) (px_rd (px_wr r1.2 (px_rd r1.2 (px_rd r1.2 x0 1) 7) ((px_rd r1.2 (px_rd r1.2 x0 1) 6)).toNat x1) x0 1) 6 (px_w ((px_rd (px_wr r1.2 (px_rd r1.2 (px_rd r1.2 x0 1) 7) ((px_rd r1.2 (px_rd r1.2 x0 1) 6)).toNat x1) (px_rd (px_wr r1.2 (px_rd r1.2 (px_rd r1.2 x0 1) 7) ((px_rd r1.2 (px_rd r1.2 x0 1) 6)).toNat x1) x0 1) 6) + 1))) (px_rd (px_wr (px_wr r1.2 (px_rd r1.2 (px_rd r1.2 x0 1) 7) ((px_rd r1.2 (px_rd r1.2 x0 1) 6)).toNat x1) (px_rd (px_wr r1.2 (px_rd r1.2 (px_rd r1.2 x0 1) 7) ((px_rd r1.2 (px_rd r1.2 x0 1) 6)).toNat x1) x0 1) 6 (px_w ((px_rd (px_wr r1.2 (px_rd r1.2 (px_rd r1.2 x0 1) 7) ((px_rd r1.2 (px_rd r1.2 x0 1) 6)).toNat x1) (px_rd (px_wr r1.2 (px_rd r1.2 (px_rd r1.2 x0 1) 7) ((px_rd r1.2 (px_rd r1.2 x0 1) 6)).toNat x1) x0 1) 6) + 1))) x0 1) 2 = true then
                                  some ((px_rd (px_wr (px_wr r1.2 (px_rd r1.2 (px_rd r1.2 x0 1) 7) ((px_rd r1.2 (px_rd r1.2 x0 1) 6)).toNat x1) (px_rd (px_wr r1.2 (px_rd r1.2 (px_rd r1.2 x0 1) 7) ((px_rd r1.2 (px_rd r1.2 x0 1) 6)).toNat x1) x0 1) 6 (px_w ((px_rd (px_wr r1.2 (px_rd r1.2 (px_rd r1.2 x0 1) 7) ((px_rd r1.2 (px_rd r1.2 x0 1) 6)).toNat x1) (px_rd (px_wr r1.2 (px_rd r1.2 (px_rd r1.2 x0 1) 7) ((px_rd r1.2 (px_rd r1.2 x0 1) 6)).toNat x1) x0 1) 6) + 1))) (px_rd (px_wr (px_wr r1.2 (px_rd r1.2 (px_rd r1.2 x0 1) 7) ((px_rd r1.2 (px_rd r1.2 x0 1) 6)).toNat x1) (px_rd (px_wr r1.2 (px_rd r1.2 (px_rd r1.2 x0 1) 7) ((px_rd r1.2 (px_rd r1.2 x0 1) 6)).toNat x1) x0 1) 6 (px_w ((px_rd (px_wr r1.2 (px_rd r1.2 (px_rd r1.2 x0 1) 7) ((px_rd r1.2 (px_rd r1.2 x0 1) 6)).toNat x1) (px_rd (px_wr r1.2 (px_rd r1.2 (px_rd r1.2 x0 1) 7) ((px_rd r1.2 (px_rd r1.2 x0 1) 6)).toNat x1) x0 1) 6) + 1))) x0 1) 6), (px_wr (px_wr r1.2 (px_rd r1.2 (px_rd r1.2 x0 1) 7) ((px_rd r1.2 (px_rd r1.2 x0 1) 6)).toNat x1) (px_rd (px_wr r1.2 (px_rd r1.2 (px_rd r1.2 x0 1) 7) ((px_rd r1.2 (px_rd r1.2 x0 1) 6)).toNat x1) x0 1) 6 (px_w ((px_rd (px_wr r1.2 (px_rd r1.2 (px_rd r1.2 x0 1) 7) ((px_rd r1.2 (px_rd r1.2 x0 1) 6)).toNat x1) (px_rd (px_wr r1.2 (px_rd r1.2 (px_rd r1.2 x0 1) 7) ((px_rd r1.2 (px_rd r1.2 x0 1) 6)).toNat x1) x0 1) 6) + 1))))
                                else none
                              else none
                            else none
                          else none
                        else none
                      else none
                    else none
                  else none
                else none
              else none
            else
              some ((-3), r1.2)
          else none
        else none) := (px_Req mm_Tin_tie 0 [(2, x0), (0, x1)] [] w).trans rfl
set_option maxRecDepth 100000 in
theorem eq_Mod_ear_0 (x0 x1 : Int) (w : pw) : px_R (mm_Mod_ear, 0, [(2, x0), (0, x1), (9, 0), (9, 0), (9, 0), (9, 0), (9, 0)], [], w) =
    (px_R (mm_Mod_ear, 7, [(2, x0), (0, x1), (0, (-1)), (0, 0), (0, 0), (9, 0), (9, 0)], [], w)) := (px_Req mm_Mod_ear 0 [(2, x0), (0, x1), (9, 0), (9, 0), (9, 0), (9, 0), (9, 0)] [] w).trans rfl
set_option maxRecDepth 100000 in
theorem eq_Mod_ear_7 (x0 x1 x2 x3 x4 : Int) (y5 y6 : pv) (w : pw) : px_R (mm_Mod_ear, 7, [(2, x0), (0, x1), (0, x2), (0, x3), (0, x4), y5, y6], [], w) =
    (if px_go w x0 9 = true then
      if px_ga w 0 (px_rd w x0 12) 2 = true then
        if x4 < (px_rd w (px_rd w x0 12) 2) then
          if (px_and (px_shr x1 x4) 1) = 0 then
            px_R (mm_Mod_ear, 7, [(2, x0), (0, x1), (0, x2), (0, x3), (0, (px_w (x4 + 1))), y5, y6], [], w)
          else
            px_R (mm_Mod_ear, 36, [(2, x0), (0, x1), (0, x2), (0, x3), (0, x4), (0, 0), (0, 0)], [], w)
        else
          some (x2, w)
      else none
    else none) := (px_Req mm_Mod_ear 7 [(2, x0), (0, x1), (0, x2), (0, x3), (0, x4), y5, y6] [] w).trans rfl
set_option maxRecDepth 100000 in
theorem eq_Mod_ear_36 (x0 x1 x2 x3 x4 x5 x6 : Int) (w : pw) : px_R (mm_Mod_ear, 36, [(2, x0), (0, x1), (0, x2), (0, x3), (0, x4), (0, x5), (0, x6)], [], w) =
    (if x6 < 4 then
      if px_go w x0 9 = true then
        if px_ga w 0 (px_rd w x0 32) (px_w ((px_w (4 * x4)) + x6)) = true then
          if px_go w x0 9 = true then
            if px_ga w 0 (px_rd w x0 33) x6 = true then
              (px_R (mm_Mod_plain, 0, [(0, (px_w ((px_rd w (px_rd w x0 32) ((px_w ((px_w (4 * x4)) + x6))).toNat) - (px_rd w (px_rd w x0 33) (x6).toNat))))], [], w)).bind fun r1 =>
                px_R (mm_Mod_ear, 36, [(2, x0), (0, x1), (0, x2), (0, x3), (0, x4), (0, (px_w (x5 + r1.1))), (0, (px_w (x6 + 1)))], [], r1.2)
            else none
          else none
        else none
      else none
    else
      if x2 = (-1) then
        px_R (mm_Mod_ear, 7, [(2, x0), (0, x1), (0, x4), (0, x5), (0, (px_w (x4 + 1))), (0, x5), (0, x6)], [], w)
      else
        if x5 < x3 then
          px_R (mm_Mod_ear, 7, [(2, x0), (0, x1), (0, x4), (0, x5), (0, (px_w (x4 + 1))), (0, x5), (0, x6)], [], w)
        else
          px_R (mm_Mod_ear, 7, [(2, x0), (0, x1), (0, x2), (0, x3), (0, (px_w (x4 + 1))), (0, x5), (0, x6)], [], w)) := (px_Req mm_Mod_ear 36 [(2, x0), (0, x1), (0, x2), (0, x3), (0, x4), (0, x5), (0, x6)] [] w).trans rfl
set_option maxRecDepth 100000 in
theorem eq_Mod_findTaps_0 (x0 x1 : Int) (w : pw) : px_R (mm_Mod_findTaps, 0, [(2, x0), (0, x1), (9, 0), (9, 0), (9, 0), (9, 0)], [], w) =
    (px_R (mm_Mod_findTaps, 4, [(2, x0), (0, x1), (0, x1), (0, 1), (9, 0), (9, 0)], [], w)) := (px_Req mm_Mod_findTaps 0 [(2, x0), (0, x1), (9, 0), (9, 0), (9, 0), (9, 0)] [] w).trans rfl
set_option maxRecDepth 100000 in
theorem eq_Mod_findTaps_4 (x0 x1 x2 x3 : Int) (w : pw) : px_R (mm_Mod_findTaps, 4, [(2, x0), (0, x1), (0, x2), (0, x3), (9, 0), (9, 0)], [], w) =
    (if px_go w x0 9 = true then
      (px_R (mm_Mod_rowsOf, 0, [(2, x0), (0, x3), (9, 0), (9, 0), (9, 0), (9, 0), (9, 0)], [], w)).bind fun r1 =>
      if x2 < r1.1 then
        if px_go r1.2 x0 9 = true then
          if px_go (px_wr r1.2 x0 47 x3) x0 9 = true then
            if px_go (px_wr (px_wr r1.2 x0 47 x3) x0 48 0) x0 9 = true then
              px_R (mm_Mod_findTaps, 42, [(2, x0), (0, x1), (0, x2), (0, x3), (9, 0), (9, 0)], [], (px_wr (px_wr (px_wr r1.2 x0 47 x3) x0 48 0) x0 49 0))
            else none
          else none
        else none
      else
        if px_go r1.2 x0 9 = true then
          (px_R (mm_Mod_rowsOf, 0, [(2, x0), (0, x3), (9, 0), (9, 0), (9, 0), (9, 0), (9, 0)], [], r1.2)).bind fun r2 =>
          px_R (mm_Mod_findTaps, 4, [(2, x0), (0, x1), (0, (px_w (x2 - r2.1))), (0, (px_w (x3 + 1))), (9, 0), (9, 0)], [], r2.2)
        else none
    else none) := (px_Req mm_Mod_findTaps 4 [(2, x0), (0, x1), (0, x2), (0, x3), (9, 0), (9, 0)] [] w).trans rfl
set_option maxRecDepth 100000 in
theorem eq_Mod_findTaps_42 (x0 x1 x2 x3 : Int) (y4 y5 : pv) (w : pw) : px_R (mm_Mod_findTaps, 42, [(2, x0), (0, x1), (0, x2), (0, x3), y4, y5], [], w) =
    (if 0 < x3 then
      if x3 = 1 then
        if x2 < 1 then
          px_R (mm_Mod_findTaps, 75, [(2, x0), (0, x1), (0, x2), (0, x3), (0, 1), y5], [(0, 0)], w)
        else
          px_R (mm_Mod_findTaps, 75, [(2, x0), (0, x1), (0, x2), (0, x3), (0, 1), y5], [(0, 1)], w)
      else
        if px_go w x0 9 = true then
          (px_R (mm_Mod_rowsOf, 0, [(2, x0), (0, (px_w (x3 - 2))), (9, 0), (9, 0), (9, 0), (9, 0), (9, 0)], [], w)).bind fun r3 =>
          if x2 < r3.1 then
            px_R (mm_Mod_findTaps, 75, [(2, x0), (0, x1), (0, x2), (0, x3), (0, r3.1), y5], [(0, 0)], r3.2)
          else
            px_R (mm_Mod_findTaps, 75, [(2, x0), (0, x1), (0, x2), (0, x3), (0, r3.1), y5], [(0, 1)], r3.2)
        else none
    else
      some (0, w)) := (px_Req mm_Mod_findTaps 42 [(2, x0), (0, x1), (0, x2), (0, x3), y4, y5] [] w).trans rfl
set_option maxRecDepth 100000 in
theorem eq_Mod_findTaps_75 (x0 x1 x2 x3 x4 s0 : Int) (y5 : pv) (w : pw) : px_R (mm_Mod_findTaps, 75, [(2, x0), (0, x1), (0, x2), (0, x3), (0, x4), y5], [(0, s0)], w) =
    (if s0 = 0 then
      if px_go w x0 9 = true then
        if s0 = 0 then
          px_R (mm_Mod_findTaps, 104, [(2, x0), (0, x1), (0, x2), (0, x3), (0, x4), (0, s0)], [(0, 0), (0, (px_w (2 * (px_rd w x0 49)))), (2, x0)], w)
        else
          px_R (mm_Mod_findTaps, 104, [(2, x0), (0, x1), (0, x2), (0, x3), (0, x4), (0, s0)], [(0, 1), (0, (px_w (2 * (px_rd w x0 49)))), (2, x0)], w)
      else none
    else
      if px_go w x0 9 = true then
        if s0 = 0 then
          px_R (mm_Mod_findTaps, 104, [(2, x0), (0, x1), (0, (px_w (x2 - x4))), (0, x3), (0, x4), (0, s0)], [(0, 0), (0, (px_w (2 * (px_rd w x0 49)))), (2, x0)], w)
        else
          px_R (mm_Mod_findTaps, 104, [(2, x0), (0, x1), (0, (px_w (x2 - x4))), (0, x3), (0, x4), (0, s0)], [(0, 1), (0, (px_w (2 * (px_rd w x0 49)))), (2, x0)], w)
      else none) := (px_Req mm_Mod_findTaps 75 [(2, x0), (0, x1), (0, x2), (0, x3), (0, x4), y5] [(0, s0)] w).trans rfl
set_option maxRecDepth 100000 in
theorem eq_Mod_findTaps_104 (x0 x1 x2 x3 x4 x5 s0 s1 s2 : Int) (w : pw) : px_R (mm_Mod_findTaps, 104, [(2, x0), (0, x1), (0, x2), (0, x3), (0, x4), (0, x5)], [(0, s2), (0, s1), (2, s0)], w) =
    (if px_go w s0 9 = true then
      if px_go (px_wr w s0 49 (px_w (s1 + s2))) x0 9 = true then
        if px_go (px_wr w s0 49 (px_w (s1 + s2))) x0 9 = true then
          if x5 = 0 then
            px_R (mm_Mod_findTaps, 42, [(2, x0), (0, x1), (0, x2), (0, (px_w (x3 - 2))), (0, x4), (0, x5)], [], (px_wr (px_wr w s0 49 (px_w (s1 + s2))) x0 48 (px_w ((px_rd (px_wr w s0 49 (px_w (s1 + s2))) x0 48) + 1))))
          else
            px_R (mm_Mod_findTaps, 42, [(2, x0), (0, x1), (0, x2), (0, (px_w (x3 - 4))), (0, x4), (0, x5)], [], (px_wr (px_wr w s0 49 (px_w (s1 + s2))) x0 48 (px_w ((px_rd (px_wr w s0 49 (px_w (s1 + s2))) x0 48) + 1))))
        else none
      else none
    else none) := (px_Req mm_Mod_findTaps 104 [(2, x0), (0, x1), (0, x2), (0, x3), (0, x4), (0, x5)] [(0, s2), (0, s1), (2, s0)] w).trans rfl
set_option maxRecDepth 100000 in
theorem eq_Mod_handsOf_0 (x0 x1 : Int) (w : pw) : px_R (mm_Mod_handsOf, 0, [(2, x0), (0, x1), (9, 0)], [], w) =
    (if px_go w x0 9 = true then
      (px_R (mm_Mod_bearsOf, 0, [(2, x0), (0, x1), (9, 0)], [], w)).bind fun r1 =>
      if px_go r1.2 x0 9 = true then
        if (px_rd r1.2 x0 27) = 0 then
          some (0, r1.2)
        else
          if px_go r1.2 x0 9 = true then
            if r1.1 < (px_rd r1.2 x0 27) then
              some (0, r1.2)
            else
              if px_go r1.2 x0 9 = true then
                if (px_w (2 * (px_rd r1.2 x0 27))) < r1.1 then
                  if px_go r1.2 x0 9 = true then
                    if (!decide (r1.1 = 0)) = true then
                      some ((px_w (Int.tdiv (px_w (200 * (px_rd r1.2 x0 27))) r1.1)), r1.2)
                    else none
                  else none
                else
                  some (100, r1.2)
              else none
          else none
      else none
    else none) := (px_Req mm_Mod_handsOf 0 [(2, x0), (0, x1), (9, 0)] [] w).trans rfl
set_option maxRecDepth 100000 in
theorem eq_Mod_hasLine_0 (x0 : Int) (w : pw) : px_R (mm_Mod_hasLine, 0, [(2, x0)], [], w) =
    (if px_go w x0 9 = true then
      (px_R (mm_Mod_hasStuff, 0, [(2, x0)], [], w)).bind fun r1 =>
      if r1.1 = 0 then
        some (0, r1.2)
      else
        if px_go r1.2 x0 9 = true then
          if px_ga r1.2 0 (px_rd r1.2 x0 12) 1 = true then
            if 0 < (px_rd r1.2 (px_rd r1.2 x0 12) 1) then
              some (1, r1.2)
            else
              some (0, r1.2)
          else none
        else none
    else none) := (px_Req mm_Mod_hasLine 0 [(2, x0)] [] w).trans rfl
set_option maxRecDepth 100000 in
theorem eq_Mod_is_0 (x0 x1 x2 : Int) (w : pw) : px_R (mm_Mod_is, 0, [(2, x0), (0, x1), (0, x2)], [], w) =
    (if px_go w x0 9 = true then
      if px_ga w 0 (px_rd w x0 12) x1 = true then
        (px_R (mm_Mod_in, 0, [(0, x2), (0, 0), (0, (px_w ((px_rd w (px_rd w x0 12) (x1).toNat) - 1)))], [], w)).bind fun r1 =>
          if (decide (0 ≤ r1.1) && decide (r1.1 < 2)) = true then some (r1.1, r1.2) else none
      else none
    else none) := (px_Req mm_Mod_is 0 [(2, x0), (0, x1), (0, x2)] [] w).trans rfl
set_option maxRecDepth 100000 in
theorem eq_Mod_isBand_0 (x0 : Int) (w : pw) : px_R (mm_Mod_isBand, 0, [(0, x0)], [], w) =
    ((px_R (mm_Mod_in, 0, [(0, x0), (0, 0), (0, 3)], [], w)).bind fun r1 =>
      if (decide (0 ≤ r1.1) && decide (r1.1 < 2)) = true then some (r1.1, r1.2) else none) := (px_Req mm_Mod_isBand 0 [(0, x0)] [] w).trans rfl
set_option maxRecDepth 100000 in
theorem eq_Mod_isCell_0 (x0 x1 : Int) (w : pw) : px_R (mm_Mod_isCell, 0, [(2, x0), (0, x1)], [], w) =
    (if px_go w x0 9 = true then
      if px_ga w 0 (px_rd w x0 35) 0 = true then
        (px_R (mm_Mod_in, 0, [(0, x1), (0, 0), (0, (px_w ((px_rd w (px_rd w x0 35) 0) - 1)))], [], w)).bind fun r1 =>
          if (decide (0 ≤ r1.1) && decide (r1.1 < 2)) = true then some (r1.1, r1.2) else none
      else none
    else none) := (px_Req mm_Mod_isCell 0 [(2, x0), (0, x1)] [] w).trans rfl
set_option maxRecDepth 100000 in
theorem eq_Mod_isSlot_0 (x0 : Int) (w : pw) : px_R (mm_Mod_isSlot, 0, [(0, x0)], [], w) =
    ((px_R (mm_Mod_in, 0, [(0, x0), (0, 0), (0, 2)], [], w)).bind fun r1 =>
      if (decide (0 ≤ r1.1) && decide (r1.1 < 2)) = true then some (r1.1, r1.2) else none) := (px_Req mm_Mod_isSlot 0 [(0, x0)] [] w).trans rfl
set_option maxRecDepth 100000 in
theorem eq_Mod_letsBy_0 (x0 x1 x2 : Int) (w : pw) : px_R (mm_Mod_letsBy, 0, [(2, x0), (0, x1), (0, x2)], [], w) =
    (if x1 = (-1) then
      some (0, w)
    else
      if px_go w x0 9 = true then
        if px_ga w 0 (px_rd w x0 21) (px_w (5 * x1)) = true then
          if px_go w x0 9 = true then
            if px_ga w 0 (px_rd w x0 21) (px_w ((px_w ((px_w (5 * x1)) + 1)) + x2)) = true then
              (px_R (mm_Mod_plain, 0, [(0, (px_w ((px_rd w (px_rd w x0 21) ((px_w (5 * x1))).toNat) - (px_rd w (px_rd w x0 21) ((px_w ((px_w ((px_w (5 * x1)) + 1)) + x2))).toNat))))], [], w)).bind fun r1 =>
                some ((px_w (100 - (px_w (10 * r1.1)))), r1.2)
            else none
          else none
        else none
      else none) := (px_Req mm_Mod_letsBy 0 [(2, x0), (0, x1), (0, x2)] [] w).trans rfl
set_option maxRecDepth 100000 in
theorem eq_Mod_makeStrings_0 (x0 : Int) (w : pw) : px_R (mm_Mod_makeStrings, 0, [(2, x0), (9, 0), (9, 0)], [], w) =
    (if px_go w x0 9 = true then
      px_R (mm_Mod_makeStrings, 7, [(2, x0), (0, 0), (9, 0)], [], (px_wr w x0 43 0))
    else none) := (px_Req mm_Mod_makeStrings 0 [(2, x0), (9, 0), (9, 0)] [] w).trans rfl
set_option maxRecDepth 100000 in
theorem eq_Mod_makeStrings_7 (x0 x1 : Int) (y2 : pv) (w : pw) : px_R (mm_Mod_makeStrings, 7, [(2, x0), (0, x1), y2], [], w) =
    (if px_go w x0 9 = true then
      if px_ga w 0 (px_rd w x0 12) 3 = true then
        if x1 < (px_rd w (px_rd w x0 12) 3) then
          px_R (mm_Mod_makeStrings, 21, [(2, x0), (0, x1), (0, (px_w (x1 + 1)))], [], w)
        else
          some (0, w)
      else none
    else none) := (px_Req mm_Mod_makeStrings 7 [(2, x0), (0, x1), y2] [] w).trans rfl
set_option maxRecDepth 100000 in
theorem eq_Mod_makeStrings_21 (x0 x1 x2 : Int) (w : pw) : px_R (mm_Mod_makeStrings, 21, [(2, x0), (0, x1), (0, x2)], [], w) =
    (if px_go w x0 9 = true then
      if px_ga w 0 (px_rd w x0 12) 3 = true then
        if x2 < (px_rd w (px_rd w x0 12) 3) then
          if px_go w x0 9 = true then
            if px_go w x0 9 = true then
              if px_ga w 0 (px_rd w x0 44) (px_rd w x0 43) = true then
                if px_go (px_wr w (px_rd w x0 44) ((px_rd w x0 43)).toNat x1) x0 9 = true then
                  if px_go (px_wr w (px_rd w x0 44) ((px_rd w x0 43)).toNat x1) x0 9 = true then
                    if px_ga (px_wr w (px_rd w x0 44) ((px_rd w x0 43)).toNat x1) 0 (px_rd (px_wr w (px_rd w x0 44) ((px_rd w x0 43)).toNat x1) x0 45) (px_rd (px_wr w (px_rd w x0 44) ((px_rd w x0 43)).toNat x1) x0 43) = true then
                      if px_go (px_wr (px_wr w (px_rd w x0 44) ((px_rd w x0 43)).toNat x1) (px_rd (px_wr w (px_rd w x0 44) ((px_rd w x0 43)).toNat x1) x0 45) ((px_rd (px_wr w (px_rd w x0 44) ((px_rd w x0 43)).toNat x1) x0 43)).toNat x2) x0 9 = true then
                        if px_go (px_wr (px_wr w (px_rd w x0 44) ((px_rd w x0 43)).toNat x1) (px_rd (px_wr w (px_rd w x0 44) ((px_rd w x0 43)).toNat x1) x0 45) ((px_rd (px_wr w (px_rd w x0 44) ((px_rd w x0 43)).toNat x1) x0 43)).toNat x2) x0 9 = true then
                          if px_go (px_wr (px_wr w (px_rd w x0 44) ((px_rd w x0 43)).toNat x1) (px_rd (px_wr w (px_rd w x0 44) ((px_rd w x0 43)).toNat x1) x0 45) ((px_rd (px_wr w (px_rd w x0 44) ((px_rd w x0 43)).toNat x1) x0 43)).toNat x2) x0 9 = true then
                            (px_R (mm_Mod_isBarred, 0, [(2, x0), (0, x1), (0, x2), (9, 0), (9, 0), (9, 0), (9, 0), (9, 0)], [], (px_wr (px_wr w (px_rd w x0 44) ((px_rd w x0 43)).toNat x1) (px_rd (px_wr w (px_rd w x0 44) ((px_rd w x0 43)).toNat x1) x0 45) ((px_rd (px_wr w (px_rd w x0 44) ((px_rd w x0 43)).toNat x1) x0 43)).toNat x2))).bind fun r1 =>
                            if r1.1 = 0 then
                              if px_go r1.2 x0 9 = true then
                                (px_R (mm_Mod_yardsOf, 0, [(2, x0), (0, x1), (0, x2), (9, 0), (9, 0), (9, 0)], [], r1.2)).bind fun r2 =>
                                if px_ga r2.2 0 (px_rd (px_wr (px_wr w (px_rd w x0 44) ((px_rd w x0 43)).toNat x1) (px_rd (px_wr w (px_rd w x0 44) ((px_rd w x0 43)).toNat x1) x0 45) ((px_rd (px_wr w (px_rd w x0 44) ((px_rd w x0 43)).toNat x1) x0 43)).toNat x2) x0 46) (px_rd (px_wr (px_wr w (px_rd w x0 44) ((px_rd w x0 43)).toNat x1) (px_rd (px_wr w (px_rd w x0 44) ((px_rd w x0 43)).toNat x1) x0 45) ((px_rd (px_wr w (px_rd w x0 44) ((px_rd w x0 43)).toNat x1) x0 43)).toNat x2) x0 43) = true then
                                  if px_go (px_wr r2.2 (px_rd (px_wr (px_wr w (px_rd w x0 44) ((px_rd w x0 43)).toNat x1) (px_rd (px_wr w (px_rd w x0 44) ((px_rd w x0 43)).toNat x1) x0 45) ((px_rd (px_wr w (px_rd w x0 44) ((px_rd w x0 43)).toNat x1) x0 43)).toNat x2) x0 46) ((px_rd (px_wr (px_wr w (px_rd w x0 44) ((px_rd w x0 43)).toNat x1) (px_rd (px_wr w (px_rd w x0 44) ((px_rd w x0 43)).toNat x1) x0 45) ((px_rd (px_wr w (px_rd w x0 44) ((px_rd w x0 43)).toNat x1) x0 43)).toNat x2) x0 43)).toNat r2.1) x0 9 = true then
                                    if px_go (px_wr r2.2 (px_rd (px_wr (px_wr w (px_rd w x0 44) ((px_rd w x0 43)).toNat x1) (px_rd (px_wr w (px_rd w x0 44) ((px_rd w x0 43)).toNat x1) x0 45) ((px_rd (px_wr w (px_rd w x0 44) ((px_rd w x0 43)).toNat x1) x0 43)).toNat x2) x0 46) ((px_rd (px_wr (px_wr w (px_rd w x0 44) ((px_rd w x0 43)).toNat x1) (px_rd (px_wr w (px_rd w x0 44) ((px_rd w x0 43)).toNat x1) x0 45) ((px_rd (px_wr w (px_rd w x0 44) ((px_rd w x0 43)).toNat x1) x0 43)).toNat x2) x0 43)).toNat r2.1) x0 9 = true then
                                      px_R (mm_Mod_makeStrings, 21, [(2, x0), (0, x1), (0, (px_w (x2 + 1)))], [], (px_wr (px_wr r2.2 (px_rd (px_wr (px_wr w (px_rd w x0 44) ((px_rd w x0 43)).toNat x1) (px_rd (px_wr w (px_rd w x0 44) ((px_rd w x0 43)).toNat x1) x0 45) ((px_rd (px_wr w (px_rd w x0 44) ((px_rd w x0 43)).toNat x1) x0 43)).toNat x2) x0 46) ((px_rd (px_wr (px_wr w (px_rd w x0 44) ((px_rd w x0 43)).toNat x1) (px_rd (px_wr w (px_rd w x0 44) ((px_rd w x0 43)).toNat x1) x0 45) ((px_rd (px_wr w (px_rd w x0 44) ((px_rd w x0 43)).toNat x1) x0 43)).toNat x2) x0 43)).toNat r2.1) x0 43 (px_w ((px_rd (px_wr r2.2 (px_rd (px_wr (px_wr w (px_rd w x0 44) ((px_rd w x0 43)).toNat x1) (px_rd (px_wr w (px_rd w x0 44) ((px_rd w x0 43)).toNat x1) x0 45) ((px_rd (px_wr w (px_rd w x0 44) ((px_rd w x0 43)).toNat x1) x0 43)).toNat x2) x0 46) ((px_rd (px_wr (px_wr w (px_rd w x0 44) ((px_rd w x0 43)).toNat x1) (px_rd (px_wr w (px_rd w x0 44) ((px_rd w x0 43)).toNat x1) x0 45) ((px_rd (px_wr w (px_rd w x0 44) ((px_rd w x0 43)).toNat x1) x0 43)).toNat x2) x0 43)).toNat r2.1) x0 43) + 1))))
                                    else none
                                  else none
                                else none
                              else none
                            else
                              if px_ga r1.2 0 (px_rd (px_wr (px_wr w (px_rd w x0 44) ((px_rd w x0 43)).toNat x1) (px_rd (px_wr w (px_rd w x0 44) ((px_rd w x0 43)).toNat x1) x0 45) ((px_rd (px_wr w (px_rd w x0 44) ((px_rd w x0 43)).toNat x1) x0 43)).toNat x2) x0 46) (px_rd (px_wr (px_wr w (px_rd w x0 44) ((px_rd w x0 43)).toNat x1) (px_rd (px_wr w (px_rd w x0 44) ((px_rd w x0 43)).toNat x1) x0 45) ((px_rd (px_wr w (px_rd w x0 44) ((px_rd w x0 43)).toNat x1) x0 43)).toNat x2) x0 43) = true then
                                if px_go (px_wr r1.2 (px_rd (px_wr (px_wr w (px_rd w x0 44) ((px_rd w x0 43)).toNat x1) (px_rd (px_wr w (px_rd w x0 44) ((px_rd w x0 43)).toNat x1) x0 45) ((px_rd (px_wr w (px_rd w x0 44) ((px_rd w x0 43)).toNat x1) x0 43)).toNat x2) x0 46) ((px_rd (px_wr (px_wr w (px_rd w x0 44) ((px_rd w x0 43)).toNat x1) (px_rd (px_wr w (px_rd w x0 44) ((px_rd w x0 43)).toNat x1) x0 45) ((px_rd (px_wr w (px_rd w x0 44) ((px_rd w x0 43)).toNat x1) x0 43)).toNat x2) x0 43)).toNat (-1)) x0 9 = true then
                                  if px_go (px_wr r1.2 (px_rd (px_wr (px_wr w (px_rd w x0 44) ((px_rd w x0 43)).toNat x1) (px_rd (px_wr w (px_rd w x0 44) ((px_rd w x0 43)).toNat x1) x0 45) ((px_rd (px_wr w (px_rd w x0 44) ((px_rd w x0 43)).toNat x1) x0 43)).toNat x2) x0 46) ((px_rd (px_wr (px_wr w (px_rd w x0 44) ((px_rd w x0 43)).toNat x1) (px_rd (px_wr w (px_rd w x0 44) ((px_rd w x0 43)).toNat x1) x0 45) ((px_rd (px_wr w (px_rd w x0 44) ((px_rd w x0 43)).toNat x1) x0 43)).toNat x2) x0 43)).toNat (-1)) x0 9 = true then
                                    px_R (mm_Mod_makeStrings, 21, [(2, x0), (0, x1), (0, (px_w (x2 + 1)))], [], (px_wr (px_wr r1.2 (px_rd (px_wr (px_wr w (px_rd w x0 44) ((px_rd w x0 43)).toNat x1) (px_rd (px_wr w (px_rd w x0 44) ((px_rd w x0 43)).toNat x1) x0 45) ((px_rd (px_wr w (px_rd w x0 44) ((px_rd w x0 43)).toNat x1) x0 43)).toNat x2) x0 46) ((px_rd (px_wr (px_wr w (px_rd w x0 44) ((px_rd w x0 43)).toNat x1) (px_rd (px_wr w (px_rd w x0 44) ((px_rd w x0 43)).toNat x1) x0 45) ((px_rd (px_wr w (px_rd w x0 44) ((px_rd w x0 43)).toNat x1) x0 43)).toNat x2) x0 43)).toNat (-1)) x0 43 (px_w ((px_rd (px_wr r1.2 (px_rd (px_wr (px_wr w (px_rd w x0 44) ((px_rd w x0 43)).toNat x1) (px_rd (px_wr w (px_rd w x0 44) ((px_rd w x0 43)).toNat x1) x0 45) ((px_rd (px_wr w (px_rd w x0 44) ((px_rd w x0 43)).toNat x1) x0 43)).toNat x2) x0 46) ((px_rd (px_wr (px_wr w (px_rd w x0 44) ((px_rd w x0 43)).toNat x1) (px_rd (px_wr w (px_rd w x0 44) ((px_rd w x0 43)).toNat x1) x0 45) ((px_rd (px_wr w (px_rd w x0 44) ((px_rd w x0 43)).toNat x1) x0 43)).toNat x2) x0 43)).toNat (-1)) x0 43) + 1))))
                                  else none
                                else none
                              else none
                          else none
                        else none
                      else none
                    else none
                  else none
                else none
              else none
            else none
          else none
        else
          px_R (mm_Mod_makeStrings, 7, [(2, x0), (0, (px_w (x1 + 1))), (0, x2)], [], w)
      else none
    else none) := (px_Req mm_Mod_makeStrings 21 [(2, x0), (0, x1), (0, x2)] [] w).trans rfl
set_option maxRecDepth 100000 in
theorem eq_Mod_newStretch_0 (x0 x1 : Int) (w : pw) : px_R (mm_Mod_newStretch, 0, [(2, x0), (0, x1), (9, 0)], [], w) =
    (px_R (mm_Mod_newStretch, 2, [(2, x0), (0, x1), (0, 0)], [], w)) := (px_Req mm_Mod_newStretch 0 [(2, x0), (0, x1), (9, 0)] [] w).trans rfl
set_option maxRecDepth 100000 in
theorem eq_Mod_newStretch_2 (x0 x1 x2 : Int) (w : pw) : px_R (mm_Mod_newStretch, 2, [(2, x0), (0, x1), (0, x2)], [], w) =
    (if x2 < 162 then
      if px_go w x0 9 = true then
        (px_R (mm_Mod_in, 0, [(0, x2), (0, 82), (0, 121)], [], w)).bind fun r1 =>
          if r1.1 = 0 then
            if px_ga r1.2 0 (px_rd w x0 35) x2 = true then
              px_R (mm_Mod_newStretch, 2, [(2, x0), (0, x1), (0, (px_w (x2 + 1)))], [], (px_wr r1.2 (px_rd w x0 35) (x2).toNat 0))
            else none
          else
            if px_ga r1.2 0 (px_rd w x0 35) x2 = true then
              px_R (mm_Mod_newStretch, 2, [(2, x0), (0, x1), (0, (px_w (x2 + 1)))], [], (px_wr r1.2 (px_rd w x0 35) (x2).toNat 100))
            else none
      else none
    else
      if px_go w x0 9 = true then
        if px_ga w 0 (px_rd w x0 35) 0 = true then
          if px_go (px_wr w (px_rd w x0 35) 0 x1) x0 9 = true then
            if px_ga (px_wr w (px_rd w x0 35) 0 x1) 1 (px_rd (px_wr w (px_rd w x0 35) 0 x1) x0 36) 0 = true then
              if px_go (px_wr (px_wr w (px_rd w x0 35) 0 x1) (px_rd (px_wr w (px_rd w x0 35) 0 x1) x0 36) 0 0) x0 9 = true then
                if px_ga (px_wr (px_wr w (px_rd w x0 35) 0 x1) (px_rd (px_wr w (px_rd w x0 35) 0 x1) x0 36) 0 0) 1 (px_rd (px_wr (px_wr w (px_rd w x0 35) 0 x1) (px_rd (px_wr w (px_rd w x0 35) 0 x1) x0 36) 0 0) x0 36) 1 = true then
                  some (0, (px_wr (px_wr (px_wr w (px_rd w x0 35) 0 x1) (px_rd (px_wr w (px_rd w x0 35) 0 x1) x0 36) 0 0) (px_rd (px_wr (px_wr w (px_rd w x0 35) 0 x1) (px_rd (px_wr w (px_rd w x0 35) 0 x1) x0 36) 0 0) x0 36) 1 0))
                else none
              else none
            else none
          else none
        else none
      else none) := (px_Req mm_Mod_newStretch 2 [(2, x0), (0, x1), (0, x2)] [] w).trans rfl
set_option maxRecDepth 100000 in
theorem eq_Mod_out_0 (x0 x1 : Int) (w : pw) : px_R (mm_Mod_out, 0, [(2, x0), (0, x1)], [], w) =
    ((px_R (mm_Mod_in, 0, [(0, x1), (0, 0), (0, 1)], [], w)).bind fun r1 =>
      if r1.1 = 0 then
        some ((-2000000000), r1.2)
      else
        if px_go r1.2 x0 9 = true then
          if px_ga r1.2 1 (px_rd r1.2 x0 36) x1 = true then
            some ((px_rd r1.2 (px_rd r1.2 x0 36) (x1).toNat), r1.2)
          else none
        else none) := (px_Req mm_Mod_out 0 [(2, x0), (0, x1)] [] w).trans rfl
set_option maxRecDepth 100000 in
theorem eq_Mod_send_0 (x0 x1 x2 : Int) (w : pw) : px_R (mm_Mod_send, 0, [(2, x0), (0, x1), (0, x2), (9, 0)], [], w) =
    ((px_R (mm_Mod_in, 0, [(0, x1), (0, 0), (0, 1)], [], w)).bind fun r1 =>
      if r1.1 = 0 then
        some ((-2), r1.2)
      else
        (px_R (mm_Mod_in, 0, [(0, x2), (0, (-9999)), (0, 9999)], [], r1.2)).bind fun r2 =>
          if r2.1 = 0 then
            some ((-2), r2.2)
          else
            if x1 = 0 then
              px_R (mm_Mod_send, 44, [(2, x0), (0, x1), (0, x2), (9, 0)], [(0, 2)], r2.2)
            else
              if px_go r2.2 x0 9 = true then
                if px_ga r2.2 0 (px_rd r2.2 x0 35) 0 = true then
                  px_R (mm_Mod_send, 44, [(2, x0), (0, x1), (0, x2), (9, 0)], [(0, (px_w ((px_w (42 + (px_rd r2.2 (px_rd r2.2 x0 35) 0))) - 1)))], r2.2)
                else none
              else none) := (px_Req mm_Mod_send 0 [(2, x0), (0, x1), (0, x2), (9, 0)] [] w).trans rfl
set_option maxRecDepth 100000 in
theorem eq_Mod_send_44 (x0 x1 x2 s0 : Int) (w : pw) : px_R (mm_Mod_send, 44, [(2, x0), (0, x1), (0, x2), (9, 0)], [(0, s0)], w) =
    (if px_go w x0 9 = true then
      if px_go w x0 9 = true then
        if px_ga w 0 (px_rd w x0 35) s0 = true then
          (px_R (mm_Mod_bounded, 0, [(0, (px_w ((px_rd w (px_rd w x0 35) (s0).toNat) + x2)))], [], w)).bind fun r3 =>
            if px_ga r3.2 0 (px_rd w x0 35) s0 = true then
              if px_go (px_wr r3.2 (px_rd w x0 35) (s0).toNat r3.1) x0 9 = true then
                if px_ga (px_wr r3.2 (px_rd w x0 35) (s0).toNat r3.1) 0 (px_rd (px_wr r3.2 (px_rd w x0 35) (s0).toNat r3.1) x0 35) s0 = true then
                  some ((px_rd (px_wr r3.2 (px_rd w x0 35) (s0).toNat r3.1) (px_rd (px_wr r3.2 (px_rd w x0 35) (s0).toNat r3.1) x0 35) (s0).toNat), (px_wr r3.2 (px_rd w x0 35) (s0).toNat r3.1))
                else none
              else none
            else none
        else none
      else none
    else none) := (px_Req mm_Mod_send 44 [(2, x0), (0, x1), (0, x2), (9, 0)] [(0, s0)] w).trans rfl
set_option maxRecDepth 100000 in
theorem eq_Mod_settle_0 (x0 : Int) (w : pw) : px_R (mm_Mod_settle, 0, [(2, x0)], [], w) =
    (if px_go w x0 9 = true then
      (px_R (mm_Mod_comes, 0, [(2, (px_rd w x0 12)), (0, 9), (9, 0)], [], w)).bind fun r1 =>
        if px_go r1.2 x0 9 = true then
          (px_R (mm_Mod_comes, 0, [(2, (px_rd r1.2 x0 14)), (0, 20), (9, 0)], [], r1.2)).bind fun r2 =>
            if px_go r2.2 x0 9 = true then
              (px_R (mm_Mod_comes, 0, [(2, (px_rd r2.2 x0 15)), (0, 16), (9, 0)], [], r2.2)).bind fun r3 =>
                if px_go r3.2 x0 9 = true then
                  (px_R (mm_Mod_comes, 0, [(2, (px_rd r3.2 x0 16)), (0, 24), (9, 0)], [], r3.2)).bind fun r4 =>
                    if px_go r4.2 x0 9 = true then
                      (px_R (mm_Mod_comes, 0, [(2, (px_rd r4.2 x0 17)), (0, 5), (9, 0)], [], r4.2)).bind fun r5 =>
                        if px_go r5.2 x0 9 = true then
                          (px_R (mm_Mod_comes, 0, [(2, (px_rd r5.2 x0 18)), (0, 5), (9, 0)], [], r5.2)).bind fun r6 =>
                            if px_go r6.2 x0 9 = true then
                              (px_R (mm_Mod_comes, 0, [(2, (px_rd r6.2 x0 19)), (0, 4), (9, 0)], [], r6.2)).bind fun r7 =>
                                if px_go r7.2 x0 9 = true then
                                  (px_R (mm_Mod_comes, 0, [(2, (px_rd r7.2 x0 20)), (0, 4), (9, 0)], [], r7.2)).bind fun r8 =>
                                    if px_go r8.2 x0 9 = true then
                                      (px_R (mm_Mod_comes, 0, [(2, (px_rd r8.2 x0 21)), (0, 20), (9, 0)], [], r8.2)).bind fun r9 =>
                                        if px_go r9.2 x0 9 = true then
                                          if px_go (px_wr r9.2 x0 24 0) x0 9 = true then
                                            if px_go (px_wr (px_wr r9.2 x0 24 0) x0 25 0) x0 9 = true then
                                              if px_go (px_wr (px_wr (px_wr r9.2 x0 24 0) x0 25 0) x0 26 10) x0 9 = true then
                                                px_R (mm_Mod_settle, 98, [(2, x0)], [], (px_wr (px_wr (px_wr (px_wr r9.2 x0 24 0) x0 25 0) x0 26 10) x0 27 0))
                                              else none
                                            else none
                                          else none
                                        else none
                                    else none
                                else none
                            else none
                        else none
                    else none
                else none
            else none
        else none
    else none) := (px_Req mm_Mod_settle 0 [(2, x0)] [] w).trans rfl
set_option maxRecDepth 100000 in
theorem eq_Mod_settle_98 (x0 : Int) (w : pw) : px_R (mm_Mod_settle, 98, [(2, x0)], [], w) =
    (if px_go w x0 9 = true then
      if px_go (px_wr w x0 28 0) x0 9 = true then
        if px_go (px_wr (px_wr w x0 28 0) x0 29 0) x0 9 = true then
          if px_go (px_wr (px_wr (px_wr w x0 28 0) x0 29 0) x0 51 0) x0 9 = true then
            px_R (mm_Mod_settle, 118, [(2, x0)], [], (px_wr (px_wr (px_wr (px_wr w x0 28 0) x0 29 0) x0 51 0) x0 52 0))
          else none
        else none
      else none
    else none) := (px_Req mm_Mod_settle 98 [(2, x0)] [] w).trans rfl
set_option maxRecDepth 100000 in
theorem eq_Mod_settle_118 (x0 : Int) (w : pw) : px_R (mm_Mod_settle, 118, [(2, x0)], [], w) =
    (if px_go w x0 9 = true then
      if px_go (px_wr w x0 53 0) x0 9 = true then
        some (0, (px_wr (px_wr w x0 53 0) x0 40 0))
      else none
    else none) := (px_Req mm_Mod_settle 118 [(2, x0)] [] w).trans rfl
set_option maxRecDepth 100000 in
theorem eq_Mod_tickOnce_0 (x0 : Int) (w : pw) : px_R (mm_Mod_tickOnce, 0, [(2, x0), (9, 0), (9, 0), (9, 0), (9, 0), (9, 0), (9, 0)], [], w) =
    (if px_go w x0 9 = true then
      if px_ga w 0 (px_rd w x0 35) 0 = true then
        px_R (mm_Mod_tickOnce, 9, [(2, x0), (0, (px_rd w (px_rd w x0 35) 0)), (0, 0), (9, 0), (9, 0), (9, 0), (9, 0)], [], w)
      else none
    else none) := (px_Req mm_Mod_tickOnce 0 [(2, x0), (9, 0), (9, 0), (9, 0), (9, 0), (9, 0), (9, 0)] [] w).trans rfl
set_option maxRecDepth 100000 in
theorem eq_Mod_tickOnce_9 (x0 x1 x2 : Int) (w : pw) : px_R (mm_Mod_tickOnce, 9, [(2, x0), (0, x1), (0, x2), (9, 0), (9, 0), (9, 0), (9, 0)], [], w) =
    (if x2 < x1 then
      if px_go w x0 9 = true then
        if px_ga w 0 (px_rd w x0 38) x2 = true then
          if px_go (px_wr w (px_rd w x0 38) (x2).toNat 0) x0 9 = true then
            if px_ga (px_wr w (px_rd w x0 38) (x2).toNat 0) 0 (px_rd (px_wr w (px_rd w x0 38) (x2).toNat 0) x0 39) x2 = true then
              px_R (mm_Mod_tickOnce, 9, [(2, x0), (0, x1), (0, (px_w (x2 + 1))), (9, 0), (9, 0), (9, 0), (9, 0)], [], (px_wr (px_wr w (px_rd w x0 38) (x2).toNat 0) (px_rd (px_wr w (px_rd w x0 38) (x2).toNat 0) x0 39) (x2).toNat 0))
            else none
          else none
        else none
      else none
    else
      px_R (mm_Mod_tickOnce, 36, [(2, x0), (0, x1), (0, 0), (9, 0), (9, 0), (9, 0), (9, 0)], [], w)) := (px_Req mm_Mod_tickOnce 9 [(2, x0), (0, x1), (0, x2), (9, 0), (9, 0), (9, 0), (9, 0)] [] w).trans rfl
set_option maxRecDepth 100000 in
theorem eq_Mod_tickOnce_36 (x0 x1 x2 : Int) (y3 y4 y5 y6 : pv) (w : pw) : px_R (mm_Mod_tickOnce, 36, [(2, x0), (0, x1), (0, x2), y3, y4, y5, y6], [], w) =
    (if x2 < x1 then
      if px_go w x0 9 = true then
        if px_ga w 0 (px_rd w x0 35) (px_w (82 + x2)) = true then
          if px_go w x0 9 = true then
            if px_ga w 0 (px_rd w x0 35) (px_w (122 + x2)) = true then
              if px_go w x0 9 = true then
                if px_ga w 0 (px_rd w x0 35) (px_w (2 + x2)) = true then
                  if px_go w x0 9 = true then
                    if px_ga w 0 (px_rd w x0 35) (px_w (42 + x2)) = true then
                      if px_go w x0 9 = true then
                        (px_R (mm_Mod_toRight, 0, [(2, x0), (0, (px_w (x2 + 1))), (0, (px_w (Int.tdiv (px_w ((px_rd w (px_rd w x0 35) ((px_w (2 + x2))).toNat) * (px_rd w (px_rd w x0 35) ((px_w (82 + x2))).toNat))) 100)))], [], w)).bind fun r1 =>
                        if px_go r1.2 x0 9 = true then
                          (px_R (mm_Mod_toLeft, 0, [(2, x0), (0, (px_w (x2 - 1))), (0, (px_w (Int.tdiv (px_w ((px_rd w (px_rd w x0 35) ((px_w (2 + x2))).toNat) * (px_rd w (px_rd w x0 35) ((px_w (122 + x2))).toNat))) 100)))], [], r1.2)).bind fun r2 =>
                          if px_go r2.2 x0 9 = true then
                            (px_R (mm_Mod_toLeft, 0, [(2, x0), (0, (px_w (x2 - 1))), (0, (px_w (Int.tdiv (px_w ((px_rd w (px_rd w x0 35) ((px_w (42 + x2))).toNat) * (px_rd w (px_rd w x0 35) ((px_w (82 + x2))).toNat))) 100)))], [], r2.2)).bind fun r3 =>
                            if px_go r3.2 x0 9 = true then
                              (px_R (mm_Mod_toRight, 0, [(2, x0), (0, (px_w (x2 + 1))), (0, (px_w (Int.tdiv (px_w ((px_rd w (px_rd w x0 35) ((px_w (42 + x2))).toNat) * (px_rd w (px_rd w x0 35) ((px_w (122 + x2))).toNat))) 100)))], [], r3.2)).bind fun r4 =>
                              px_R (mm_Mod_tickOnce, 36, [(2, x0), (0, x1), (0, (px_w (x2 + 1))), (0, (px_rd w (px_rd w x0 35) ((px_w (82 + x2))).toNat)), (0, (px_rd w (px_rd w x0 35) ((px_w (122 + x2))).toNat)), (0, (px_rd w (px_rd w x0 35) ((px_w (2 + x2))).toNat)), (0, (px_rd w (px_rd w x0 35) ((px_w (42 + x2))).toNat))], [], r4.2)
                            else none
                          else none
                        else none
                      else none
                    else none
                  else none
                else none
              else none
            else none
          else none
        else none
      else none
    else
      px_R (mm_Mod_tickOnce, 149, [(2, x0), (0, x1), (0, 0), y3, y4, y5, y6], [], w)) := (px_Req mm_Mod_tickOnce 36 [(2, x0), (0, x1), (0, x2), y3, y4, y5, y6] [] w).trans rfl
set_option maxRecDepth 100000 in
theorem eq_Mod_tickOnce_149 (x0 x1 x2 : Int) (y3 y4 y5 y6 : pv) (w : pw) : px_R (mm_Mod_tickOnce, 149, [(2, x0), (0, x1), (0, x2), y3, y4, y5, y6], [], w) =
    (if x2 < x1 then
      if px_go w x0 9 = true then
        if px_go w x0 9 = true then
          if px_ga w 0 (px_rd w x0 38) x2 = true then
            (px_R (mm_Mod_bounded, 0, [(0, (px_rd w (px_rd w x0 38) (x2).toNat))], [], w)).bind fun r5 =>
              if px_ga r5.2 0 (px_rd w x0 35) (px_w (2 + x2)) = true then
                if px_go (px_wr r5.2 (px_rd w x0 35) ((px_w (2 + x2))).toNat r5.1) x0 9 = true then
                  if px_go (px_wr r5.2 (px_rd w x0 35) ((px_w (2 + x2))).toNat r5.1) x0 9 = true then
                    if px_ga (px_wr r5.2 (px_rd w x0 35) ((px_w (2 + x2))).toNat r5.1) 0 (px_rd (px_wr r5.2 (px_rd w x0 35) ((px_w (2 + x2))).toNat r5.1) x0 39) x2 = true then
                      (px_R (mm_Mod_bounded, 0, [(0, (px_rd (px_wr r5.2 (px_rd w x0 35) ((px_w (2 + x2))).toNat r5.1) (px_rd (px_wr r5.2 (px_rd w x0 35) ((px_w (2 + x2))).toNat r5.1) x0 39) (x2).toNat))], [], (px_wr r5.2 (px_rd w x0 35) ((px_w (2 + x2))).toNat r5.1))).bind fun r6 =>
                        if px_ga r6.2 0 (px_rd (px_wr r5.2 (px_rd w x0 35) ((px_w (2 + x2))).toNat r5.1) x0 35) (px_w (42 + x2)) = true then
                          px_R (mm_Mod_tickOnce, 149, [(2, x0), (0, x1), (0, (px_w (x2 + 1))), y3, y4, y5, y6], [], (px_wr r6.2 (px_rd (px_wr r5.2 (px_rd w x0 35) ((px_w (2 + x2))).toNat r5.1) x0 35) ((px_w (42 + x2))).toNat r6.1))
                        else none
                    else none
                  else none
                else none
              else none
          else none
        else none
      else none
    else
      if px_go w x0 9 = true then
        if px_ga w 0 (px_rd w x0 35) 1 = true then
          if px_ga w 0 (px_rd w x0 35) 1 = true then
            some (0, (px_wr w (px_rd w x0 35) 1 (px_w ((px_rd w (px_rd w x0 35) 1) + 1))))
          else none
        else none
      else none) := (px_Req mm_Mod_tickOnce 149 [(2, x0), (0, x1), (0, x2), y3, y4, y5, y6] [] w).trans rfl
set_option maxRecDepth 100000 in
theorem eq_Mod_tie_0 (x0 x1 : Int) (w : pw) : px_R (mm_Mod_tie, 0, [(2, x0), (0, x1)], [], w) =
    ((px_R (mm_Mod_in, 0, [(0, x1), (0, 0), (0, 100)], [], w)).bind fun r1 =>
      if r1.1 = 0 then
        some ((-2), r1.2)
      else
        if px_go r1.2 x0 9 = true then
          if (px_rd r1.2 x0 29) = 4 then
            some ((-3), r1.2)
          else
            if px_go r1.2 x0 9 = true then
              if px_go r1.2 x0 9 = true then
                if px_ga r1.2 0 (px_rd r1.2 x0 31) (px_rd r1.2 x0 29) = true then
                  if px_go (px_wr r1.2 (px_rd r1.2 x0 31) ((px_rd r1.2 x0 29)).toNat x1) x0 9 = true then
                    if px_go (px_wr r1.2 (px_rd r1.2 x0 31) ((px_rd r1.2 x0 29)).toNat x1) x0 9 = true then
                      if px_go (px_wr (px_wr r1.2 (px_rd r1.2 x0 31) ((px_rd r1.2 x0 29)).toNat x1) x0 29 (px_w ((px_rd (px_wr r1.2 (px_rd r1.2 x0 31) ((px_rd r1.2 x0 29)).toNat x1) x0 29) + 1))) x0 9 = true then
                        some ((px_rd (px_wr (px_wr r1.2 (px_rd r1.2 x0 31) ((px_rd r1.2 x0 29)).toNat x1) x0 29 (px_w ((px_rd (px_wr r1.2 (px_rd r1.2 x0 31) ((px_rd r1.2 x0 29)).toNat x1) x0 29) + 1))) x0 29), (px_wr (px_wr r1.2 (px_rd r1.2 x0 31) ((px_rd r1.2 x0 29)).toNat x1) x0 29 (px_w ((px_rd (px_wr r1.2 (px_rd r1.2 x0 31) ((px_rd r1.2 x0 29)).toNat x1) x0 29) + 1))))
                      else none
                    else none
                  else none
                else none
              else none
            else none
        else none) := (px_Req mm_Mod_tie 0 [(2, x0), (0, x1)] [] w).trans rfl
set_option maxRecDepth 100000 in
theorem eq_Mod_yardsBy_0 (x0 x1 x2 : Int) (w : pw) : px_R (mm_Mod_yardsBy, 0, [(2, x0), (0, x1), (0, x2), (9, 0), (9, 0)], [], w) =
    (px_R (mm_Mod_yardsBy, 5, [(2, x0), (0, x1), (0, x2), (0, 0), (0, 0)], [], w)) := (px_Req mm_Mod_yardsBy 0 [(2, x0), (0, x1), (0, x2), (9, 0), (9, 0)] [] w).trans rfl
set_option maxRecDepth 100000 in
theorem eq_Mod_yardsBy_5 (x0 x1 x2 x3 x4 : Int) (w : pw) : px_R (mm_Mod_yardsBy, 5, [(2, x0), (0, x1), (0, x2), (0, x3), (0, x4)], [], w) =
    (if px_go w x0 9 = true then
      if x4 < (px_rd w x0 43) then
        if (px_and (px_shr x1 x4) 1) = 0 then
          px_R (mm_Mod_yardsBy, 5, [(2, x0), (0, x1), (0, x2), (0, x3), (0, (px_w (x4 + 1)))], [], w)
        else
          if px_go w x0 9 = true then
            if px_ga w 0 (px_rd w x0 46) x4 = true then
              if (px_rd w (px_rd w x0 46) (x4).toNat) < 0 then
                some ((-1), w)
              else
                if px_go w x0 9 = true then
                  if px_ga w 0 (px_rd w x0 46) x4 = true then
                    px_R (mm_Mod_yardsBy, 5, [(2, x0), (0, x1), (0, x2), (0, (px_w (x3 + (px_rd w (px_rd w x0 46) (x4).toNat)))), (0, (px_w (x4 + 1)))], [], w)
                  else none
                else none
            else none
          else none
      else
        px_R (mm_Mod_yardsBy, 57, [(2, x0), (0, x1), (0, x2), (0, x3), (0, 0)], [], w)
    else none) := (px_Req mm_Mod_yardsBy 5 [(2, x0), (0, x1), (0, x2), (0, x3), (0, x4)] [] w).trans rfl
set_option maxRecDepth 100000 in
theorem eq_Mod_yardsBy_57 (x0 x1 x2 x3 x4 : Int) (w : pw) : px_R (mm_Mod_yardsBy, 57, [(2, x0), (0, x1), (0, x2), (0, x3), (0, x4)], [], w) =
    (if px_go w x0 9 = true then
      if x4 < (px_rd w x0 40) then
        if px_go w x0 9 = true then
          (px_R (mm_Mod_isGranted, 0, [(2, x0), (0, x4), (0, x1), (0, x2), (9, 0), (9, 0), (9, 0), (9, 0)], [], w)).bind fun r1 =>
          if r1.1 = 0 then
            some ((-1), r1.2)
          else
            px_R (mm_Mod_yardsBy, 57, [(2, x0), (0, x1), (0, x2), (0, x3), (0, (px_w (x4 + 1)))], [], r1.2)
        else none
      else
        some (x3, w)
    else none) := (px_Req mm_Mod_yardsBy 57 [(2, x0), (0, x1), (0, x2), (0, x3), (0, x4)] [] w).trans rfl
set_option maxRecDepth 100000 in
theorem eq_Taps_lasts_0 (x0 : Int) (w : pw) : px_R (mm_Taps_lasts, 0, [(0, x0)], [], w) =
    ((px_R (mm_Taps_beats, 0, [(0, x0), (9, 0), (9, 0)], [], w)).bind fun r1 =>
      some ((px_w ((px_w (2 * r1.1)) - 1)), r1.2)) := (px_Req mm_Taps_lasts 0 [(0, x0)] [] w).trans rfl
set_option maxRecDepth 100000 in
theorem eq_Taps_place_0 (x0 : Int) (w : pw) : px_R (mm_Taps_place, 0, [(0, x0), (9, 0), (9, 0)], [], w) =
    ((px_R (mm_Taps_beats, 0, [(0, x0), (9, 0), (9, 0)], [], w)).bind fun r1 =>
      px_R (mm_Taps_place, 9, [(0, x0), (0, x0), (0, (px_w (r1.1 - 1)))], [], r1.2)) := (px_Req mm_Taps_place 0 [(0, x0), (9, 0), (9, 0)] [] w).trans rfl
set_option maxRecDepth 100000 in
theorem eq_Taps_place_9 (x0 x1 x2 : Int) (w : pw) : px_R (mm_Taps_place, 9, [(0, x0), (0, x1), (0, x2)], [], w) =
    (if x2 < 1 then
      some (x1, w)
    else
      if px_gl (px_sar 3) x2 = true then
        px_R (mm_Taps_place, 9, [(0, x0), (0, (px_w (x1 - (px_lst (px_sar 3) (x2).toNat)))), (0, (px_w (x2 + (-1))))], [], w)
      else none) := (px_Req mm_Taps_place 9 [(0, x0), (0, x1), (0, x2)] [] w).trans rfl
set_option maxRecDepth 100000 in
theorem eq_Book_init_0 (x0 : Int) (w : pw) : px_R (mm_Book_init, 0, [(2, x0)], [], w) =
    (if px_go (px_al w (0, 20)) x0 0 = true then
      if px_go (px_al (px_wr (px_al w (0, 20)) x0 3 (w.1.length : Int)) (0, 20)) x0 0 = true then
        px_R (mm_Book_init, 20, [(2, x0)], [], (px_wr (px_al (px_wr (px_al w (0, 20)) x0 3 (w.1.length : Int)) (0, 20)) x0 4 ((px_wr (px_al w (0, 20)) x0 3 (w.1.length : Int)).1.length : Int)))
      else none
    else none) := (px_Req mm_Book_init 0 [(2, x0)] [] w).trans rfl
set_option maxRecDepth 100000 in
theorem eq_Book_init_20 (x0 : Int) (w : pw) : px_R (mm_Book_init, 20, [(2, x0)], [], w) =
    (if px_go (px_al w (0, 20)) x0 0 = true then
      if px_go (px_al (px_wr (px_al w (0, 20)) x0 5 (w.1.length : Int)) (0, 20)) x0 0 = true then
        px_R (mm_Book_init, 36, [(2, x0)], [], (px_wr (px_al (px_wr (px_al w (0, 20)) x0 5 (w.1.length : Int)) (0, 20)) x0 6 ((px_wr (px_al w (0, 20)) x0 5 (w.1.length : Int)).1.length : Int)))
      else none
    else none) := (px_Req mm_Book_init 20 [(2, x0)] [] w).trans rfl
set_option maxRecDepth 100000 in
theorem eq_Book_init_36 (x0 : Int) (w : pw) : px_R (mm_Book_init, 36, [(2, x0)], [], w) =
    (if px_go (px_al w (0, 20)) x0 0 = true then
      if px_go (px_al (px_wr (px_al w (0, 20)) x0 7 (w.1.length : Int)) (0, 20)) x0 0 = true then
        px_R (mm_Book_init, 52, [(2, x0)], [], (px_wr (px_al (px_wr (px_al w (0, 20)) x0 7 (w.1.length : Int)) (0, 20)) x0 8 ((px_wr (px_al w (0, 20)) x0 7 (w.1.length : Int)).1.length : Int)))
      else none
    else none) := (px_Req mm_Book_init 36 [(2, x0)] [] w).trans rfl
set_option maxRecDepth 100000 in
theorem eq_Book_init_52 (x0 : Int) (w : pw) : px_R (mm_Book_init, 52, [(2, x0)], [], w) =
    (if px_go (px_al2 w 4 0 6 6) x0 0 = true then
      if px_go (px_al (px_wr (px_al2 w 4 0 6 6) x0 12 (w.1.length : Int)) (13, 1)) ((px_wr (px_al2 w 4 0 6 6) x0 12 (w.1.length : Int)).1.length : Int) 3 = true then
        (px_R (mm_Prod_init, 0, [(2, ((px_wr (px_al2 w 4 0 6 6) x0 12 (w.1.length : Int)).1.length : Int))], [], (px_al (px_wr (px_al2 w 4 0 6 6) x0 12 (w.1.length : Int)) (13, 1)))).bind fun r1 =>
        if px_go r1.2 x0 0 = true then
          if px_go (px_al (px_wr r1.2 x0 13 ((px_wr (px_al2 w 4 0 6 6) x0 12 (w.1.length : Int)).1.length : Int)) (13, 1)) ((px_wr r1.2 x0 13 ((px_wr (px_al2 w 4 0 6 6) x0 12 (w.1.length : Int)).1.length : Int)).1.length : Int) 3 = true then
            (px_R (mm_Prod_init, 0, [(2, ((px_wr r1.2 x0 13 ((px_wr (px_al2 w 4 0 6 6) x0 12 (w.1.length : Int)).1.length : Int)).1.length : Int))], [], (px_al (px_wr r1.2 x0 13 ((px_wr (px_al2 w 4 0 6 6) x0 12 (w.1.length : Int)).1.length : Int)) (13, 1)))).bind fun r2 =>
            px_R (mm_Book_init, 83, [(2, x0)], [(2, ((px_wr r1.2 x0 13 ((px_wr (px_al2 w 4 0 6 6) x0 12 (w.1.length : Int)).1.length : Int)).1.length : Int)), (2, x0)], r2.2)
          else none
        else none
      else none
    else none) := (px_Req mm_Book_init 52 [(2, x0)] [] w).trans rfl
set_option maxRecDepth 100000 in
theorem eq_Book_init_83 (x0 s0 s1 : Int) (w : pw) : px_R (mm_Book_init, 83, [(2, x0)], [(2, s1), (2, s0)], w) =
    (if px_go w s0 0 = true then
      some (0, (px_wr w s0 14 s1))
    else none) := (px_Req mm_Book_init 83 [(2, x0)] [(2, s1), (2, s0)] w).trans rfl
set_option maxRecDepth 100000 in
theorem eq_Ear_hearOnce_0 (x0 x1 x2 : Int) (w : pw) : px_R (mm_Ear_hearOnce, 0, [(2, x0), (0, x1), (0, x2), (9, 0), (9, 0), (9, 0), (9, 0), (9, 0), (9, 0)], [], w) =
    (if px_go w x0 1 = true then
      if px_go w x0 1 = true then
        (px_R (mm_Ear_thinkOf, 0, [(2, x0), (0, (px_w ((px_shl 1 (px_rd w x0 0)) - 1))), (9, 0)], [], w)).bind fun r1 =>
        px_R (mm_Ear_hearOnce, 21, [(2, x0), (0, x1), (0, x2), (1, x2), (9, 0), (1, 0), (9, 0), (0, 0), (9, 0)], [], r1.2)
      else none
    else none) := (px_Req mm_Ear_hearOnce 0 [(2, x0), (0, x1), (0, x2), (9, 0), (9, 0), (9, 0), (9, 0), (9, 0), (9, 0)] [] w).trans rfl
set_option maxRecDepth 100000 in
theorem eq_Ear_hearOnce_21 (x0 x1 x2 x3 x5 x7 : Int) (y8 : pv) (w : pw) : px_R (mm_Ear_hearOnce, 21, [(2, x0), (0, x1), (0, x2), (1, x3), (9, 0), (1, x5), (9, 0), (0, x7), y8], [], w) =
    (if x7 < 4 then
      if px_go w x0 1 = true then
        if px_go w x0 1 = true then
          if (!decide ((px_w ((px_w ((px_rd w x0 1) + 1)) * (px_w ((px_rd w x0 1) + 1)))) = 0)) = true then
            if px_go w x0 1 = true then
              (px_R (mm_Ear_noiseOf, 0, [(2, x0), (0, (px_w (Int.tmod (px_wl (Int.tdiv (Int.tmod (px_wl ((px_wl (1103515245 * x3)) + 12345)) 2147483648) 65536)) (px_w ((px_w ((px_rd w x0 1) + 1)) * (px_w ((px_rd w x0 1) + 1))))))), (9, 0), (9, 0)], [], w)).bind fun r3 =>
              if px_go r3.2 x0 1 = true then
                (px_R (mm_Ear_heardWith, 0, [(2, x0), (0, x1), (0, x7), (0, r3.1)], [], r3.2)).bind fun r4 =>
                if px_go r4.2 x0 1 = true then
                  (px_R (mm_Ear_offFrom, 0, [(2, x0), (0, x7), (0, r4.1), (9, 0), (9, 0), (9, 0), (9, 0)], [], r4.2)).bind fun r5 =>
                  px_R (mm_Ear_hearOnce, 21, [(2, x0), (0, x1), (0, x2), (1, (Int.tmod (px_wl ((px_wl (1103515245 * x3)) + 12345)) 2147483648)), (9, 0), (1, (px_wl (x5 + r5.1))), (9, 0), (0, (px_w (x7 + 1))), (0, (px_w (Int.tmod (px_wl (Int.tdiv (Int.tmod (px_wl ((px_wl (1103515245 * x3)) + 12345)) 2147483648) 65536)) (px_w ((px_w ((px_rd w x0 1) + 1)) * (px_w ((px_rd w x0 1) + 1)))))))], [], r5.2)
                else none
              else none
            else none
          else none
        else none
      else none
    else
      if px_go w x0 1 = true then
        (px_R (mm_Ear_nearest, 0, [(2, x0), (1, x5), (9, 0), (9, 0), (9, 0), (9, 0), (9, 0), (9, 0), (9, 0)], [], w)).bind fun r2 =>
        some (r2.1, r2.2)
      else none) := (px_Req mm_Ear_hearOnce 21 [(2, x0), (0, x1), (0, x2), (1, x3), (9, 0), (1, x5), (9, 0), (0, x7), y8] [] w).trans rfl
set_option maxRecDepth 100000 in
theorem eq_Ear_spread_0 (x0 x1 x2 : Int) (w : pw) : px_R (mm_Ear_spread, 0, [(2, x0), (0, x1), (0, x2), (9, 0), (9, 0), (9, 0), (9, 0)], [], w) =
    (if px_go w x0 1 = true then
      if px_ga w 0 (px_rd w x0 7) x2 = true then
        if px_go (px_wr w (px_rd w x0 7) (x2).toNat 0) x0 1 = true then
          px_R (mm_Ear_spread, 13, [(2, x0), (0, x1), (0, x2), (0, (px_w (-(px_rd (px_wr w (px_rd w x0 7) (x2).toNat 0) x0 1)))), (9, 0), (9, 0), (9, 0)], [], (px_wr w (px_rd w x0 7) (x2).toNat 0))
        else none
      else none
    else none) := (px_Req mm_Ear_spread 0 [(2, x0), (0, x1), (0, x2), (9, 0), (9, 0), (9, 0), (9, 0)] [] w).trans rfl
set_option maxRecDepth 100000 in
theorem eq_Ear_spread_13 (x0 x1 x2 x3 : Int) (y4 y6 : pv) (w : pw) : px_R (mm_Ear_spread, 13, [(2, x0), (0, x1), (0, x2), (0, x3), y4, (9, 0), y6], [], w) =
    (if px_go w x0 1 = true then
      if (px_rd w x0 1) < x3 then
        some (0, w)
      else
        if px_go w x0 1 = true then
          (px_R (mm_Ear_heardWith, 0, [(2, x0), (0, x1), (0, x2), (0, x3)], [], w)).bind fun r1 =>
          if px_go r1.2 x0 1 = true then
            (px_R (mm_Ear_offFrom, 0, [(2, x0), (0, x2), (0, r1.1), (9, 0), (9, 0), (9, 0), (9, 0)], [], r1.2)).bind fun r2 =>
            px_R (mm_Ear_spread, 38, [(2, x0), (0, x1), (0, x2), (0, x3), (1, r2.1), (9, 0), (0, 0)], [], r2.2)
          else none
        else none
    else none) := (px_Req mm_Ear_spread 13 [(2, x0), (0, x1), (0, x2), (0, x3), y4, (9, 0), y6] [] w).trans rfl
set_option maxRecDepth 100000 in
theorem eq_Ear_spread_38 (x0 x1 x2 x3 x4 x6 : Int) (w : pw) : px_R (mm_Ear_spread, 38, [(2, x0), (0, x1), (0, x2), (0, x3), (1, x4), (9, 0), (0, x6)], [], w) =
    (if px_go w x0 1 = true then
      if px_ga w 0 (px_rd w x0 7) x2 = true then
        if x6 < (px_rd w (px_rd w x0 7) (x2).toNat) then
          if px_go w x0 1 = true then
            if (px_ga w 4 (px_rd w x0 8) x2 || (px_ga w 5 (px_rd w x0 8) x2 || px_ga w 6 (px_rd w x0 8) x2)) = true then
              if px_ga w 1 (px_rd w (px_rd w x0 8) (x2).toNat) x6 = true then
                if (px_cmp (px_rd w (px_rd w (px_rd w x0 8) (x2).toNat) (x6).toNat) x4) = 0 then
                  px_R (mm_Ear_spread, 70, [(2, x0), (0, x1), (0, x2), (0, x3), (1, x4), (9, 0), (0, x6)], [], w)
                else
                  px_R (mm_Ear_spread, 38, [(2, x0), (0, x1), (0, x2), (0, x3), (1, x4), (9, 0), (0, (px_w (x6 + 1)))], [], w)
              else none
            else none
          else none
        else
          px_R (mm_Ear_spread, 70, [(2, x0), (0, x1), (0, x2), (0, x3), (1, x4), (9, 0), (0, x6)], [], w)
      else none
    else none) := (px_Req mm_Ear_spread 38 [(2, x0), (0, x1), (0, x2), (0, x3), (1, x4), (9, 0), (0, x6)] [] w).trans rfl
set_option maxRecDepth 100000 in
theorem eq_Ear_spread_70 (x0 x1 x2 x3 x4 x6 : Int) (w : pw) : px_R (mm_Ear_spread, 70, [(2, x0), (0, x1), (0, x2), (0, x3), (1, x4), (9, 0), (0, x6)], [], w) =
    (if px_go w x0 1 = true then
      if px_ga w 0 (px_rd w x0 7) x2 = true then
        if x6 = (px_rd w (px_rd w x0 7) (x2).toNat) then
          if px_go w x0 1 = true then
            if (px_ga w 4 (px_rd w x0 8) x2 || (px_ga w 5 (px_rd w x0 8) x2 || px_ga w 6 (px_rd w x0 8) x2)) = true then
              if px_ga w 1 (px_rd w (px_rd w x0 8) (x2).toNat) x6 = true then
                if px_go (px_wr w (px_rd w (px_rd w x0 8) (x2).toNat) (x6).toNat x4) x0 1 = true then
                  if (px_ga (px_wr w (px_rd w (px_rd w x0 8) (x2).toNat) (x6).toNat x4) 4 (px_rd (px_wr w (px_rd w (px_rd w x0 8) (x2).toNat) (x6).toNat x4) x0 9) x2 || (px_ga (px_wr w (px_rd w (px_rd w x0 8) (x2).toNat) (x6).toNat x4) 5 (px_rd (px_wr w (px_rd w (px_rd w x0 8) (x2).toNat) (x6).toNat x4) x0 9) x2 || px_ga (px_wr w (px_rd w (px_rd w x0 8) (x2).toNat) (x6).toNat x4) 6 (px_rd (px_wr w (px_rd w (px_rd w x0 8) (x2).toNat) (x6).toNat x4) x0 9) x2)) = true then
                    if px_ga (px_wr w (px_rd w (px_rd w x0 8) (x2).toNat) (x6).toNat x4) 0 (px_rd (px_wr w (px_rd w (px_rd w x0 8) (x2).toNat) (x6).toNat x4) (px_rd (px_wr w (px_rd w (px_rd w x0 8) (x2).toNat) (x6).toNat x4) x0 9) (x2).toNat) x6 = true then
                      if px_go (px_wr (px_wr w (px_rd w (px_rd w x0 8) (x2).toNat) (x6).toNat x4) (px_rd (px_wr w (px_rd w (px_rd w x0 8) (x2).toNat) (x6).toNat x4) (px_rd (px_wr w (px_rd w (px_rd w x0 8) (x2).toNat) (x6).toNat x4) x0 9) (x2).toNat) (x6).toNat 0) x0 1 = true then
                        if px_ga (px_wr (px_wr w (px_rd w (px_rd w x0 8) (x2).toNat) (x6).toNat x4) (px_rd (px_wr w (px_rd w (px_rd w x0 8) (x2).toNat) (x6).toNat x4) (px_rd (px_wr w (px_rd w (px_rd w x0 8) (x2).toNat) (x6).toNat x4) x0 9) (x2).toNat) (x6).toNat 0) 0 (px_rd (px_wr (px_wr w (px_rd w (px_rd w x0 8) (x2).toNat) (x6).toNat x4) (px_rd (px_wr w (px_rd w (px_rd w x0 8) (x2).toNat) (x6).toNat x4) (px_rd (px_wr w (px_rd w (px_rd w x0 8) (x2).toNat) (x6).toNat x4) x0 9) (x2).toNat) (x6).toNat 0) x0 7) x2 = true then
                          if px_ga (px_wr (px_wr w (px_rd w (px_rd w x0 8) (x2).toNat) (x6).toNat x4) (px_rd (px_wr w (px_rd w (px_rd w x0 8) (x2).toNat) (x6).toNat x4) (px_rd (px_wr w (px_rd w (px_rd w x0 8) (x2).toNat) (x6).toNat x4) x0 9) (x2).toNat) (x6).toNat 0) 0 (px_rd (px_wr (px_wr w (px_rd w (px_rd w x0 8) (x2).toNat) (x6).toNat x4) (px_rd (px_wr w (px_rd w (px_rd w x0 8) (x2).toNat) (x6).toNat x4) (px_rd (px_wr w (px_rd w (px_rd w x0 8) (x2).toNat) (x6).toNat x4) x0 9) (x2).toNat) (x6).toNat 0) x0 7) x2 = true then
                            px_R (mm_Ear_spread, 112, [(2, x0), (0, x1), (0, x2), (0, x3), (1, x4), (9, 0), (0, x6)], [], (px_wr (px_wr (px_wr w (px_rd w (px_rd w x0 8) (x2).toNat) (x6).toNat x4) (px_rd (px_wr w (px_rd w (px_rd w x0 8) (x2).toNat) (x6).toNat x4) (px_rd (px_wr w (px_rd w (px_rd w x0 8) (x2).toNat) (x6).toNat x4) x0 9) (x2).toNat) (x6).toNat 0) (px_rd (px_wr (px_wr w (px_rd w (px_rd w x0 8) (x2).toNat) (x6).toNat x4) (px_rd (px_wr w (px_rd w (px_rd w x0 8) (x2).toNat) (x6).toNat x4) (px_rd (px_wr w (px_rd w (px_rd w x0 8) (x2).toNat) (x6).toNat x4) x0 9) (x2).toNat) (x6).toNat 0) x0 7) (x2).toNat (px_w ((px_rd (px_wr (px_wr w (px_rd w (px_rd w x0 8) (x2).toNat) (x6).toNat x4) (px_rd (px_wr w (px_rd w (px_rd w x0 8) (x2).toNat) (x6).toNat x4) (px_rd (px_wr w (px_rd w (px_rd w x0 8) (x2).toNat) (x6).toNat x4) x0 9) (x2).toNat) (x6).toNat 0) (px_rd (px_wr (px_wr w (px_rd w (px_rd w x0 8) (x2).toNat) (x6).toNat x4) (px_rd (px_wr w (px_rd w (px_rd w x0 8) (x2).toNat) (x6).toNat x4) (px_rd (px_wr w (px_rd w (px_rd w x0 8) (x2).toNat) (x6).toNat x4) x0 9) (x2).toNat) (x6).toNat 0) x0 7) (x2).toNat) + 1))))
                          else none
                        else none
                      else none
                    else none
                  else none
                else none
              else none
            else none
          else none
        else
          px_R (mm_Ear_spread, 112, [(2, x0), (0, x1), (0, x2), (0, x3), (1, x4), (9, 0), (0, x6)], [], w)
      else none
    else none) := (px_Req mm_Ear_spread 70 [(2, x0), (0, x1), (0, x2), (0, x3), (1, x4), (9, 0), (0, x6)] [] w).trans rfl
set_option maxRecDepth 100000 in
theorem eq_Ear_spread_112 (x0 x1 x2 x3 x4 x6 : Int) (w : pw) : px_R (mm_Ear_spread, 112, [(2, x0), (0, x1), (0, x2), (0, x3), (1, x4), (9, 0), (0, x6)], [], w) =
    (if px_go w x0 1 = true then
      if (px_ga w 4 (px_rd w x0 9) x2 || (px_ga w 5 (px_rd w x0 9) x2 || px_ga w 6 (px_rd w x0 9) x2)) = true then
        if px_ga w 0 (px_rd w (px_rd w x0 9) (x2).toNat) x6 = true then
          if px_go w x0 1 = true then
            (px_R (mm_Math_abs, 0, [(0, x3)], [], w)).bind fun r3 =>
              if px_ga r3.2 0 (px_rd w (px_rd w x0 9) (x2).toNat) x6 = true then
                px_R (mm_Ear_spread, 13, [(2, x0), (0, x1), (0, x2), (0, (px_w (x3 + 1))), (1, x4), (9, 0), (0, x6)], [], (px_wr r3.2 (px_rd w (px_rd w x0 9) (x2).toNat) (x6).toNat (px_w ((px_rd w (px_rd w (px_rd w x0 9) (x2).toNat) (x6).toNat) + (px_w ((px_w ((px_rd w x0 1) + 1)) - r3.1))))))
              else none
          else none
        else none
      else none
    else none) := (px_Req mm_Ear_spread 112 [(2, x0), (0, x1), (0, x2), (0, x3), (1, x4), (9, 0), (0, x6)] [] w).trans rfl
set_option maxRecDepth 100000 in
theorem eq_Line_handsOn_0 (x0 x1 : Int) (w : pw) : px_R (mm_Line_handsOn, 0, [(2, x0), (2, x1), (9, 0)], [], w) =
    (if px_go w x0 2 = true then
      (px_R (mm_Line_strength, 0, [(2, x0), (2, x1), (9, 0)], [], w)).bind fun r1 =>
      if px_go r1.2 x0 2 = true then
        if (px_rd r1.2 x0 3) = 0 then
          some (0, r1.2)
        else
          if px_go r1.2 x0 2 = true then
            if r1.1 < (px_rd r1.2 x0 3) then
              some (0, r1.2)
            else
              if px_go r1.2 x0 2 = true then
                if (px_w (2 * (px_rd r1.2 x0 3))) < r1.1 then
                  if px_go r1.2 x0 2 = true then
                    if (!decide (r1.1 = 0)) = true then
                      some ((px_w (Int.tdiv (px_w (200 * (px_rd r1.2 x0 3))) r1.1)), r1.2)
                    else none
                  else none
                else
                  some (100, r1.2)
              else none
          else none
      else none
    else none) := (px_Req mm_Line_handsOn 0 [(2, x0), (2, x1), (9, 0)] [] w).trans rfl
set_option maxRecDepth 100000 in
theorem eq_Line_leaves_0 (x0 x1 x2 x3 : Int) (w : pw) : px_R (mm_Line_leaves, 0, [(2, x0), (2, x1), (0, x2), (0, x3)], [], w) =
    (if px_go w x0 2 = true then
      if px_go w x0 2 = true then
        (px_R (mm_Line_overBends, 0, [(2, x0), (2, x1), (0, x2), (0, x3), (0, (px_rd w x0 6)), (9, 0), (9, 0), (9, 0), (9, 0)], [], w)).bind fun r1 =>
        if px_go r1.2 x0 2 = true then
          if px_go r1.2 x1 5 = true then
            (px_R (mm_Str_ofBand, 0, [(2, x1), (0, 1), (0, (px_rd r1.2 x0 1)), (0, x3), (9, 0)], [], r1.2)).bind fun r2 =>
            some ((px_w (Int.tdiv (px_w (r1.1 * r2.1)) 100)), r2.2)
          else none
        else none
      else none
    else none) := (px_Req mm_Line_leaves 0 [(2, x0), (2, x1), (0, x2), (0, x3)] [] w).trans rfl
set_option maxRecDepth 100000 in
theorem eq_Line_snaps_0 (x0 x1 : Int) (w : pw) : px_R (mm_Line_snaps, 0, [(2, x0), (2, x1)], [], w) =
    (if px_go w x0 2 = true then
      if px_go w x0 2 = true then
        (px_R (mm_Line_strength, 0, [(2, x0), (2, x1), (9, 0)], [], w)).bind fun r1 =>
        if r1.1 < (px_rd w x0 3) then
          some (1, r1.2)
        else
          some (0, r1.2)
      else none
    else none) := (px_Req mm_Line_snaps 0 [(2, x0), (2, x1)] [] w).trans rfl
set_option maxRecDepth 100000 in
theorem eq_Row_move_0 (x0 : Int) (w : pw) : px_R (mm_Row_move, 0, [(2, x0), (9, 0), (9, 0), (9, 0), (9, 0)], [], w) =
    (px_R (mm_Row_move, 4, [(2, x0), (0, 0), (0, 0), (9, 0), (9, 0)], [], w)) := (px_Req mm_Row_move 0 [(2, x0), (9, 0), (9, 0), (9, 0), (9, 0)] [] w).trans rfl
set_option maxRecDepth 100000 in
theorem eq_Row_move_4 (x0 x1 x2 : Int) (y3 y4 : pv) (w : pw) : px_R (mm_Row_move, 4, [(2, x0), (0, x1), (0, x2), y3, y4], [], w) =
    (if px_go w x0 4 = true then
      if x2 < (px_rd w x0 0) then
        if px_go w x0 4 = true then
          if px_ga w 0 (px_rd w x0 4) x2 = true then
            if px_go w x0 4 = true then
              if px_ga w 0 (px_rd w x0 6) x2 = true then
                (px_R (mm_Row_part, 0, [(0, (px_rd w (px_rd w x0 4) (x2).toNat)), (0, (px_rd w (px_rd w x0 6) (x2).toNat))], [], w)).bind fun r1 =>
                  if px_go r1.2 x0 4 = true then
                    if px_ga r1.2 0 (px_rd r1.2 x0 5) x2 = true then
                      if px_go r1.2 x0 4 = true then
                        if px_ga r1.2 0 (px_rd r1.2 x0 7) x2 = true then
                          (px_R (mm_Row_part, 0, [(0, (px_rd r1.2 (px_rd r1.2 x0 5) (x2).toNat)), (0, (px_rd r1.2 (px_rd r1.2 x0 7) (x2).toNat))], [], r1.2)).bind fun r2 =>
                            (px_R (mm_Row_bounded, 0, [(0, (px_w (r1.1 + r2.1)))], [], r2.2)).bind fun r3 =>
                              if px_go r3.2 x0 4 = true then
                                if px_ga r3.2 0 (px_rd r3.2 x0 5) x2 = true then
                                  if px_go r3.2 x0 4 = true then
                                    if px_ga r3.2 0 (px_rd r3.2 x0 6) x2 = true then
                                      (px_R (mm_Row_part, 0, [(0, (px_rd r3.2 (px_rd r3.2 x0 5) (x2).toNat)), (0, (px_rd r3.2 (px_rd r3.2 x0 6) (x2).toNat))], [], r3.2)).bind fun r4 =>
                                        if px_go r4.2 x0 4 = true then
                                          if px_ga r4.2 0 (px_rd r4.2 x0 4) x2 = true then
                                            if px_go r4.2 x0 4 = true then
                                              if px_ga r4.2 0 (px_rd r4.2 x0 7) x2 = true then
                                                (px_R (mm_Row_part, 0, [(0, (px_rd r4.2 (px_rd r4.2 x0 4) (x2).toNat)), (0, (px_rd r4.2 (px_rd r4.2 x0 7) (x2).toNat))], [], r4.2)).bind fun r5 =>
                                                  (px_R (mm_Row_bounded, 0, [(0, (px_w (r4.1 + r5.1)))], [], r5.2)).bind fun r6 =>
                                                    if x2 = 0 then
                                                      if px_go r6.2 x0 4 = true then
                                                        if px_go r6.2 x0 4 = true then
                                                          if px_go (px_wr r6.2 x0 2 (px_wl ((px_rd r6.2 x0 2) + r6.1))) x0 4 = true then
                                                            if px_ga (px_wr r6.2 x0 2 (px_wl ((px_rd r6.2 x0 2) + r6.1))) 0 (px_rd (px_wr r6.2 x0 2 (px_wl ((px_rd r6.2 x0 2) + r6.1))) x0 4) x2 = true then
                                                              px_R (mm_Row_move, 4, [(2, x0), (0, r3.1), (0, (px_w (x2 + 1))), (0, x1), (0, r6.1)], [], (px_wr (px_wr r6.2 x0 2 (px_wl ((px_rd r6.2 x0 2) + r6.1))) (px_rd (px_wr r6.2 x0 2 (px_wl ((px_rd r6.2 x0 2) + r6.1))) x0 4) (x2).toNat x1))
                                                            else none
                                                          else none
                                                        else none
                                                      else none
                                                    else
                                                      if px_go r6.2 x0 4 = true then
                                                        if px_ga r6.2 0 (px_rd r6.2 x0 5) (px_w (x2 - 1)) = true then
                                                          if px_go (px_wr r6.2 (px_rd r6.2 x0 5) ((px_w (x2 - 1))).toNat r6.1) x0 4 = true then
                                                            if px_ga (px_wr r6.2 (px_rd r6.2 x0 5) ((px_w (x2 - 1))).toNat r6.1) 0 (px_rd (px_wr r6.2 (px_rd r6.2 x0 5) ((px_w (x2 - 1))).toNat r6.1) x0 4) x2 = true then
                                                              px_R (mm_Row_move, 4, [(2, x0), (0, r3.1), (0, (px_w (x2 + 1))), (0, x1), (0, r6.1)], [], (px_wr (px_wr r6.2 (px_rd r6.2 x0 5) ((px_w (x2 - 1))).toNat r6.1) (px_rd (px_wr r6.2 (px_rd r6.2 x0 5) ((px_w (x2 - 1))).toNat r6.1) x0 4) (x2).toNat x1))
                                                            else none
                                                          else none
                                                        else none
                                                      else none
                                              else none
                                            else none
                                          else none
                                        else none
                                    else none
                                  else none
                                else none
                              else none
                        else none
                      else none
                    else none
                  else none
              else none
            else none
          else none
        else none
      else
        if px_go w x0 4 = true then
          if px_go w x0 4 = true then
            if px_ga w 0 (px_rd w x0 5) (px_w ((px_rd w x0 0) - 1)) = true then
              if px_go (px_wr w (px_rd w x0 5) ((px_w ((px_rd w x0 0) - 1))).toNat 0) x0 4 = true then
                if px_go (px_wr w (px_rd w x0 5) ((px_w ((px_rd w x0 0) - 1))).toNat 0) x0 4 = true then
                  if px_go (px_wr (px_wr w (px_rd w x0 5) ((px_w ((px_rd w x0 0) - 1))).toNat 0) x0 3 (px_wl ((px_rd (px_wr w (px_rd w x0 5) ((px_w ((px_rd w x0 0) - 1))).toNat 0) x0 3) + x1))) x0 4 = true then
                    if px_go (px_wr (px_wr w (px_rd w x0 5) ((px_w ((px_rd w x0 0) - 1))).toNat 0) x0 3 (px_wl ((px_rd (px_wr w (px_rd w x0 5) ((px_w ((px_rd w x0 0) - 1))).toNat 0) x0 3) + x1))) x0 4 = true then
                      some (0, (px_wr (px_wr (px_wr w (px_rd w x0 5) ((px_w ((px_rd w x0 0) - 1))).toNat 0) x0 3 (px_wl ((px_rd (px_wr w (px_rd w x0 5) ((px_w ((px_rd w x0 0) - 1))).toNat 0) x0 3) + x1))) x0 1 (px_w ((px_rd (px_wr (px_wr w (px_rd w x0 5) ((px_w ((px_rd w x0 0) - 1))).toNat 0) x0 3 (px_wl ((px_rd (px_wr w (px_rd w x0 5) ((px_w ((px_rd w x0 0) - 1))).toNat 0) x0 3) + x1))) x0 1) + 1))))
                    else none
                  else none
                else none
              else none
            else none
          else none
        else none
    else none) := (px_Req mm_Row_move 4 [(2, x0), (0, x1), (0, x2), y3, y4] [] w).trans rfl
set_option maxRecDepth 100000 in
theorem eq_Row_pullAt_0 (x0 x1 x2 : Int) (w : pw) : px_R (mm_Row_pullAt, 0, [(2, x0), (0, x1), (0, x2)], [], w) =
    (if x1 = 0 then
      if px_go w x0 4 = true then
        if px_go w x0 4 = true then
          if px_ga w 0 (px_rd w x0 4) 0 = true then
            (px_R (mm_Row_bounded, 0, [(0, (px_w ((px_rd w (px_rd w x0 4) 0) + x2)))], [], w)).bind fun r2 =>
              if px_ga r2.2 0 (px_rd w x0 4) 0 = true then
                if px_go (px_wr r2.2 (px_rd w x0 4) 0 r2.1) x0 4 = true then
                  if px_ga (px_wr r2.2 (px_rd w x0 4) 0 r2.1) 0 (px_rd (px_wr r2.2 (px_rd w x0 4) 0 r2.1) x0 4) 0 = true then
                    some ((px_rd (px_wr r2.2 (px_rd w x0 4) 0 r2.1) (px_rd (px_wr r2.2 (px_rd w x0 4) 0 r2.1) x0 4) 0), (px_wr r2.2 (px_rd w x0 4) 0 r2.1))
                  else none
                else none
              else none
          else none
        else none
      else none
    else
      if px_go w x0 4 = true then
        if px_go w x0 4 = true then
          if px_go w x0 4 = true then
            if px_go w x0 4 = true then
              if px_ga w 0 (px_rd w x0 5) (px_w ((px_rd w x0 0) - 1)) = true then
                (px_R (mm_Row_bounded, 0, [(0, (px_w ((px_rd w (px_rd w x0 5) ((px_w ((px_rd w x0 0) - 1))).toNat) + x2)))], [], w)).bind fun r1 =>
                  if px_ga r1.2 0 (px_rd w x0 5) (px_w ((px_rd w x0 0) - 1)) = true then
                    if px_go (px_wr r1.2 (px_rd w x0 5) ((px_w ((px_rd w x0 0) - 1))).toNat r1.1) x0 4 = true then
                      if px_go (px_wr r1.2 (px_rd w x0 5) ((px_w ((px_rd w x0 0) - 1))).toNat r1.1) x0 4 = true then
                        if px_ga (px_wr r1.2 (px_rd w x0 5) ((px_w ((px_rd w x0 0) - 1))).toNat r1.1) 0 (px_rd (px_wr r1.2 (px_rd w x0 5) ((px_w ((px_rd w x0 0) - 1))).toNat r1.1) x0 5) (px_w ((px_rd (px_wr r1.2 (px_rd w x0 5) ((px_w ((px_rd w x0 0) - 1))).toNat r1.1) x0 0) - 1)) = true then
                          some ((px_rd (px_wr r1.2 (px_rd w x0 5) ((px_w ((px_rd w x0 0) - 1))).toNat r1.1) (px_rd (px_wr r1.2 (px_rd w x0 5) ((px_w ((px_rd w x0 0) - 1))).toNat r1.1) x0 5) ((px_w ((px_rd (px_wr r1.2 (px_rd w x0 5) ((px_w ((px_rd w x0 0) - 1))).toNat r1.1) x0 0) - 1))).toNat), (px_wr r1.2 (px_rd w x0 5) ((px_w ((px_rd w x0 0) - 1))).toNat r1.1))
                        else none
                      else none
                    else none
                  else none
              else none
            else none
          else none
        else none
      else none) := (px_Req mm_Row_pullAt 0 [(2, x0), (0, x1), (0, x2)] [] w).trans rfl
set_option maxRecDepth 100000 in
theorem eq_Tape_readNext_0 (x0 : Int) (w : pw) : px_R (mm_Tape_readNext, 0, [(2, x0)], [], w) =
    (if px_go w x0 6 = true then
      if px_go w x0 6 = true then
        if (px_rd w x0 4) < (px_rd w x0 1) then
          if px_go w x0 6 = true then
            if px_go w x0 6 = true then
              if (px_ga w 2 (px_rd w x0 0) (px_rd w x0 4) || px_ga w 3 (px_rd w x0 0) (px_rd w x0 4)) = true then
                (px_R (mm_Tape_isBlank, 0, [(0, (px_rd w (px_rd w x0 0) ((px_rd w x0 4)).toNat))], [], w)).bind fun r1 =>
                  if r1.1 = 0 then
                    px_R (mm_Tape_readNext, 39, [(2, x0)], [], r1.2)
                  else
                    if px_go r1.2 x0 6 = true then
                      if px_go r1.2 x0 6 = true then
                        px_R (mm_Tape_readNext, 0, [(2, x0)], [], (px_wr r1.2 x0 4 (px_w ((px_rd r1.2 x0 4) + 1))))
                      else none
                    else none
              else none
            else none
          else none
        else
          px_R (mm_Tape_readNext, 39, [(2, x0)], [], w)
      else none
    else none) := (px_Req mm_Tape_readNext 0 [(2, x0)] [] w).trans rfl
set_option maxRecDepth 100000 in
theorem eq_Tape_readNext_39 (x0 : Int) (w : pw) : px_R (mm_Tape_readNext, 39, [(2, x0)], [], w) =
    (if px_go w x0 6 = true then
      if px_go w x0 6 = true then
        if px_go (px_wr w x0 3 (px_rd w x0 4)) x0 6 = true then
          if px_go (px_wr (px_wr w x0 3 (px_rd w x0 4)) x0 5 0) x0 6 = true then
            if px_go (px_wr (px_wr (px_wr w x0 3 (px_rd w x0 4)) x0 5 0) x0 6 0) x0 6 = true then
              if px_go (px_wr (px_wr (px_wr w x0 3 (px_rd w x0 4)) x0 5 0) x0 6 0) x0 6 = true then
                if (px_rd (px_wr (px_wr (px_wr w x0 3 (px_rd w x0 4)) x0 5 0) x0 6 0) x0 4) < (px_rd (px_wr (px_wr (px_wr w x0 3 (px_rd w x0 4)) x0 5 0) x0 6 0) x0 1) then
                  if px_go (px_wr (px_wr (px_wr w x0 3 (px_rd w x0 4)) x0 5 0) x0 6 0) x0 6 = true then
                    if px_go (px_wr (px_wr (px_wr w x0 3 (px_rd w x0 4)) x0 5 0) x0 6 0) x0 6 = true then
                      if (px_ga (px_wr (px_wr (px_wr w x0 3 (px_rd w x0 4)) x0 5 0) x0 6 0) 2 (px_rd (px_wr (px_wr (px_wr w x0 3 (px_rd w x0 4)) x0 5 0) x0 6 0) x0 0) (px_rd (px_wr (px_wr (px_wr w x0 3 (px_rd w x0 4)) x0 5 0) x0 6 0) x0 4) || px_ga (px_wr (px_wr (px_wr w x0 3 (px_rd w x0 4)) x0 5 0) x0 6 0) 3 (px_rd (px_wr (px_wr (px_wr w x0 3 (px_rd w x0 4)) x0 5 0) x0 6 0) x0 0) (px_rd (px_wr (px_wr (px_wr w x0 3 (px_rd w x0 4)) x0 5 0) x0 6 0) x0 4)) = true then
                        (px_R (mm_Tape_isLetter, 0, [(0, (px_rd (px_wr (px_wr (px_wr w x0 3 (px_rd w x0 4)) x0 5 0) x0 6 0) (px_rd (px_wr (px_wr (px_wr w x0 3 (px_rd w x0 4)) x0 5 0) x0 6 0) x0 0) ((px_rd (px_wr (px_wr (px_wr w x0 3 (px_rd w x0 4)) x0 5 0) x0 6 0) x0 4)).toNat))], [], (px_wr (px_wr (px_wr w x0 3 (px_rd w x0 4)) x0 5 0) x0 6 0))).bind fun r2 =>
                          if r2.1 = 0 then
                            if px_go r2.2 x0 6 = true then
                              if px_go r2.2 x0 6 = true then
                                if (px_ga r2.2 2 (px_rd r2.2 x0 0) (px_rd r2.2 x0 4) || px_ga r2.2 3 (px_rd r2.2 x0 0) (px_rd r2.2 x0 4)) = true then
                                  (px_R (mm_Tape_isDigit, 0, [(0, (px_rd r2.2 (px_rd r2.2 x0 0) ((px_rd r2.2 x0 4)).toNat))], [], r2.2)).bind fun r3 =>
                                    if r3.1 = 0 then
                                      if px_go r3.2 x0 6 = true then
                                        if px_go r3.2 x0 6 = true then
                                          if (px_ga r3.2 2 (px_rd r3.2 x0 0) (px_rd r3.2 x0 4) || px_ga r3.2 3 (px_rd r3.2 x0 0) (px_rd r3.2 x0 4)) = true then
                                            if (px_rd r3.2 (px_rd r3.2 x0 0) ((px_rd r3.2 x0 4)).toNat) = 59 then
                                              if px_go r3.2 x0 6 = true then
                                                if px_go (px_wr r3.2 x0 2 4) x0 6 = true then
                                                  if px_go (px_wr r3.2 x0 2 4) x0 6 = true then
                                                    some (0, (px_wr (px_wr r3.2 x0 2 4) x0 4 (px_w ((px_rd (px_wr r3.2 x0 2 4) x0 4) + 1))))
                                                  else none
                                                else none
                                              else none
                                            else
                                              if px_go r3.2 x0 6 = true then
                                                if px_go (px_wr r3.2 x0 2 1) x0 6 = true then
                                                  if px_go (px_wr r3.2 x0 2 1) x0 6 = true then
                                                    some (0, (px_wr (px_wr r3.2 x0 2 1) x0 4 (px_w ((px_rd (px_wr r3.2 x0 2 1) x0 4) + 1))))
                                                  else none
                                                else none
                                              else none
                                          else none
                                        else none
                                      else none
                                    else
                                      if px_go r3.2 x0 6 = true then
                                        (px_R (mm_Tape_readNumber, 0, [(2, x0)], [], r3.2)).bind fun r4 =>
                                        some (0, r4.2)
                                      else none
                                else none
                              else none
                            else none
                          else
                            if px_go r2.2 x0 6 = true then
                              (px_R (mm_Tape_readWord, 0, [(2, x0)], [], r2.2)).bind fun r5 =>
                              some (0, r5.2)
                            else none
                      else none
                    else none
                  else none
                else
                  if px_go (px_wr (px_wr (px_wr w x0 3 (px_rd w x0 4)) x0 5 0) x0 6 0) x0 6 = true then
                    px_R (mm_Tape_readNext, 73, [(2, x0)], [], (px_wr (px_wr (px_wr (px_wr w x0 3 (px_rd w x0 4)) x0 5 0) x0 6 0) x0 2 0))
                  else none
              else none
            else none
          else none
        else none
      else none
    else none) := (px_Req mm_Tape_readNext 39 [(2, x0)] [] w).trans rfl
set_option maxRecDepth 100000 in
theorem eq_Tape_readNext_73 (x0 : Int) (w : pw) : px_R (mm_Tape_readNext, 73, [(2, x0)], [], w) =
    (some (0, w)) := (px_Req mm_Tape_readNext 73 [(2, x0)] [] w).trans rfl
set_option maxRecDepth 100000 in
theorem eq_Wish_apart_0 (x0 x1 x2 : Int) (w : pw) : px_R (mm_Wish_apart, 0, [(2, x0), (0, x1), (0, x2), (9, 0), (9, 0), (9, 0), (9, 0), (9, 0), (9, 0), (9, 0), (9, 0)], [], w) =
    (if px_go w x0 5 = true then
      (px_R (mm_Str_number, 0, [(2, x0), (0, 3), (0, x1), (0, 0)], [], w)).bind fun r1 =>
      if px_go r1.2 x0 5 = true then
        (px_R (mm_Str_number, 0, [(2, x0), (0, 3), (0, x1), (0, 1)], [], r1.2)).bind fun r2 =>
        if px_go r2.2 x0 5 = true then
          (px_R (mm_Str_number, 0, [(2, x0), (0, 3), (0, x2), (0, 0)], [], r2.2)).bind fun r3 =>
          if px_go r3.2 x0 5 = true then
            (px_R (mm_Str_number, 0, [(2, x0), (0, 3), (0, x2), (0, 1)], [], r3.2)).bind fun r4 =>
            px_R (mm_Wish_apart, 38, [(2, x0), (0, x1), (0, x2), (0, r1.1), (0, r2.1), (0, r3.1), (0, r4.1), (0, 0), (9, 0), (9, 0), (9, 0)], [], r4.2)
          else none
        else none
      else none
    else none) := (px_Req mm_Wish_apart 0 [(2, x0), (0, x1), (0, x2), (9, 0), (9, 0), (9, 0), (9, 0), (9, 0), (9, 0), (9, 0), (9, 0)] [] w).trans rfl
set_option maxRecDepth 100000 in
theorem eq_Wish_apart_38 (x0 x1 x2 x3 x4 x5 x6 x7 : Int) (y8 y9 y10 : pv) (w : pw) : px_R (mm_Wish_apart, 38, [(2, x0), (0, x1), (0, x2), (0, x3), (0, x4), (0, x5), (0, x6), (0, x7), y8, y9, y10], [], w) =
    (if px_go w x0 5 = true then
      if px_ga w 0 (px_rd w x0 1) 4 = true then
        if x7 < (px_rd w (px_rd w x0 1) 4) then
          if px_go w x0 5 = true then
            (px_R (mm_Str_number, 0, [(2, x0), (0, 4), (0, x7), (0, 0)], [], w)).bind fun r5 =>
            if px_go r5.2 x0 5 = true then
              (px_R (mm_Str_number, 0, [(2, x0), (0, 4), (0, x7), (0, 1)], [], r5.2)).bind fun r6 =>
              if (px_w ((px_w (r5.1 - x3)) * (px_w (x6 - x4)))) = (px_w ((px_w (r6.1 - x4)) * (px_w (x5 - x3)))) then
                px_R (mm_Wish_apart, 97, [(2, x0), (0, x1), (0, x2), (0, x3), (0, x4), (0, x5), (0, x6), (0, x7), (0, (px_w (r5.1 - x3))), (0, (px_w (r6.1 - x4))), y10], [(0, 1)], r6.2)
              else
                px_R (mm_Wish_apart, 97, [(2, x0), (0, x1), (0, x2), (0, x3), (0, x4), (0, x5), (0, x6), (0, x7), (0, (px_w (r5.1 - x3))), (0, (px_w (r6.1 - x4))), y10], [(0, 0)], r6.2)
            else none
          else none
        else
          px_R (mm_Wish_apart, 163, [(2, x0), (0, x1), (0, x2), (0, x3), (0, x4), (0, x5), (0, x6), (0, (px_w ((px_w ((px_w (x5 - x3)) * (px_w (x5 - x3)))) + (px_w ((px_w (x6 - x4)) * (px_w (x6 - x4))))))), (0, 0), y9, y10], [], w)
      else none
    else none) := (px_Req mm_Wish_apart 38 [(2, x0), (0, x1), (0, x2), (0, x3), (0, x4), (0, x5), (0, x6), (0, x7), y8, y9, y10] [] w).trans rfl
set_option maxRecDepth 100000 in
theorem eq_Wish_apart_97 (x0 x1 x2 x3 x4 x5 x6 x7 x8 x9 s0 : Int) (y10 : pv) (w : pw) : px_R (mm_Wish_apart, 97, [(2, x0), (0, x1), (0, x2), (0, x3), (0, x4), (0, x5), (0, x6), (0, x7), (0, x8), (0, x9), y10], [(0, s0)], w) =
    (if s0 = 0 then
      px_R (mm_Wish_apart, 38, [(2, x0), (0, x1), (0, x2), (0, x3), (0, x4), (0, x5), (0, x6), (0, (px_w (x7 + 1))), (0, x8), (0, x9), (0, s0)], [], w)
    else
      (px_R (mm_Wish_isBetween, 0, [(0, x8), (0, (px_w (x5 - x3)))], [], w)).bind fun r7 =>
        if r7.1 = 0 then
          px_R (mm_Wish_apart, 38, [(2, x0), (0, x1), (0, x2), (0, x3), (0, x4), (0, x5), (0, x6), (0, (px_w (x7 + 1))), (0, x8), (0, x9), (0, s0)], [], r7.2)
        else
          (px_R (mm_Wish_isBetween, 0, [(0, x9), (0, (px_w (x6 - x4)))], [], r7.2)).bind fun r8 =>
            if r8.1 = 0 then
              px_R (mm_Wish_apart, 38, [(2, x0), (0, x1), (0, x2), (0, x3), (0, x4), (0, x5), (0, x6), (0, (px_w (x7 + 1))), (0, x8), (0, x9), (0, s0)], [], r8.2)
            else
              some ((-1), r8.2)) := (px_Req mm_Wish_apart 97 [(2, x0), (0, x1), (0, x2), (0, x3), (0, x4), (0, x5), (0, x6), (0, x7), (0, x8), (0, x9), y10] [(0, s0)] w).trans rfl
set_option maxRecDepth 100000 in
theorem eq_Wish_apart_163 (x0 x1 x2 x3 x4 x5 x6 x7 x8 : Int) (y9 y10 : pv) (w : pw) : px_R (mm_Wish_apart, 163, [(2, x0), (0, x1), (0, x2), (0, x3), (0, x4), (0, x5), (0, x6), (0, x7), (0, x8), y9, y10], [], w) =
    (if x8 < 141 then
      if (px_w (x8 * x8)) < x7 then
        px_R (mm_Wish_apart, 163, [(2, x0), (0, x1), (0, x2), (0, x3), (0, x4), (0, x5), (0, x6), (0, x7), (0, (px_w (x8 + 1))), y9, y10], [], w)
      else
        some (x8, w)
    else
      some (141, w)) := (px_Req mm_Wish_apart 163 [(2, x0), (0, x1), (0, x2), (0, x3), (0, x4), (0, x5), (0, x6), (0, x7), (0, x8), y9, y10] [] w).trans rfl
set_option maxRecDepth 100000 in
theorem eq_Tin_band_0 (x0 x1 x2 x3 : Int) (w : pw) : px_R (mm_Tin_band, 0, [(2, x0), (0, x1), (0, x2), (0, x3), (9, 0)], [], w) =
    ((px_R (mm_Tin_within, 0, [(0, x1), (0, 0), (0, 3)], [], w)).bind fun r1 =>
      if r1.1 = 0 then
        some ((-2), r1.2)
      else
        (px_R (mm_Tin_isBand, 0, [(0, x3)], [], r1.2)).bind fun r2 =>
          if r2.1 = 0 then
            some ((-2), r2.2)
          else
            if x1 = 3 then
              px_R (mm_Tin_band, 29, [(2, x0), (0, x1), (0, x2), (0, x3), (9, 0)], [(0, 5)], r2.2)
            else
              px_R (mm_Tin_band, 29, [(2, x0), (0, x1), (0, x2), (0, x3), (9, 0)], [(0, x1)], r2.2)) := (px_Req mm_Tin_band 0 [(2, x0), (0, x1), (0, x2), (0, x3), (9, 0)] [] w).trans rfl
set_option maxRecDepth 100000 in
theorem eq_Tin_band_29 (x0 x1 x2 x3 s0 : Int) (w : pw) : px_R (mm_Tin_band, 29, [(2, x0), (0, x1), (0, x2), (0, x3), (9, 0)], [(0, s0)], w) =
    (if px_go w x0 8 = true then
      (px_R (mm_Tin_isOne, 0, [(2, x0), (0, s0), (0, x2)], [], w)).bind fun r3 =>
      if r3.1 = 0 then
        some ((-2), r3.2)
      else
        if px_go r3.2 x0 8 = true then
          if px_go r3.2 (px_rd r3.2 x0 8) 5 = true then
            (px_R (mm_Str_ofBand, 0, [(2, (px_rd r3.2 x0 8)), (0, s0), (0, x2), (0, x3), (9, 0)], [], r3.2)).bind fun r4 =>
            some (r4.1, r4.2)
          else none
        else none
    else none) := (px_Req mm_Tin_band 29 [(2, x0), (0, x1), (0, x2), (0, x3), (9, 0)] [(0, s0)] w).trans rfl
set_option maxRecDepth 100000 in
theorem eq_Tin_bend_0 (x0 x1 : Int) (w : pw) : px_R (mm_Tin_bend, 0, [(2, x0), (0, x1)], [], w) =
    (if x1 = (-1) then
      px_R (mm_Tin_bend, 17, [(2, x0), (0, x1)], [], w)
    else
      if px_go w x0 8 = true then
        (px_R (mm_Tin_isOne, 0, [(2, x0), (0, 5), (0, x1)], [], w)).bind fun r1 =>
        if r1.1 = 0 then
          some ((-2), r1.2)
        else
          px_R (mm_Tin_bend, 17, [(2, x0), (0, x1)], [], r1.2)
      else none) := (px_Req mm_Tin_bend 0 [(2, x0), (0, x1)] [] w).trans rfl
set_option maxRecDepth 100000 in
theorem eq_Tin_bend_17 (x0 x1 : Int) (w : pw) : px_R (mm_Tin_bend, 17, [(2, x0), (0, x1)], [], w) =
    (if px_go w x0 8 = true then
      if px_go w (px_rd w x0 1) 2 = true then
        if (px_rd w (px_rd w x0 1) 4) < 4 then
          if px_go w x0 8 = true then
            if px_go w (px_rd w x0 1) 2 = true then
              if px_go w x0 8 = true then
                if px_go w (px_rd w x0 1) 2 = true then
                  if px_ga w 0 (px_rd w (px_rd w x0 1) 5) (px_rd w (px_rd w x0 1) 4) = true then
                    if px_go (px_wr w (px_rd w (px_rd w x0 1) 5) ((px_rd w (px_rd w x0 1) 4)).toNat x1) x0 8 = true then
                      if px_go (px_wr w (px_rd w (px_rd w x0 1) 5) ((px_rd w (px_rd w x0 1) 4)).toNat x1) (px_rd (px_wr w (px_rd w (px_rd w x0 1) 5) ((px_rd w (px_rd w x0 1) 4)).toNat x1) x0 1) 2 = true then
                        if px_go (px_wr w (px_rd w (px_rd w x0 1) 5) ((px_rd w (px_rd w x0 1) 4)).toNat x1) (px_rd (px_wr w (px_rd w (px_rd w x0 1) 5) ((px_rd w (px_rd w x0 1) 4)).toNat x1) x0 1) 2 = true then
                          if px_go (px_wr (px_wr w (px_rd w (px_rd w x0 1) 5) ((px_rd w (px_rd w x0 1) 4)).toNat x1) (px_rd (px_wr w (px_rd w (px_rd w x0 1) 5) ((px_rd w (px_rd w x0 1) 4)).toNat x1) x0 1) 4 (px_w ((px_rd (px_wr w (px_rd w (px_rd w x0 1) 5) ((px_rd w (px_rd w x0 1) 4)).toNat x1) (px_rd (px_wr w (px_rd w (px_rd w x0 1) 5) ((px_rd w (px_rd w x0 1) 4)).toNat x1) x0 1) 4) + 1))) x0 8 = true then
                            if px_go (px_wr (px_wr w (px_rd w (px_rd w x0 1) 5) ((px_rd w (px_rd w x0 1) 4)).toNat x1) (px_rd (px_wr w (px_rd w (px_rd w x0 1) 5) ((px_rd w (px_rd w x0 1) 4)).toNat x1) x0 1) 4 (px_w ((px_rd (px_wr w (px_rd w (px_rd w x0 1) 5) ((px_rd w (px_rd w x0 1) 4)).toNat x1) (px_rd (px_wr w (px_rd w (px_rd w x0 1) 5) ((px_rd w (px_rd w x0 1) 4)).toNat x1) x0 1) 4) + 1))) (px_rd (px_wr (px_wr w (px_rd w (px_rd w x0 1) 5) ((px_rd w (px_rd w x0 1) 4)).toNat x1) (px_rd (px_wr w (px_rd w (px_rd w x0 1) 5) ((px_rd w (px_rd w x0 1) 4)).toNat x1) x0 1) 4 (px_w ((px_rd (px_wr w (px_rd w (px_rd w x0 1) 5) ((px_rd w (px_rd w x0 1) 4)).toNat x1) (px_rd (px_wr w (px_rd w (px_rd w x0 1) 5) ((px_rd w (px_rd w x0 1) 4)).toNat x1) x0 1) 4) + 1))) x0 1) 2 = true then
                              some ((px_rd (px_wr (px_wr w (px_rd w (px_rd w x0 1) 5) ((px_rd w (px_rd w x0 1) 4)).toNat x1) (px_rd (px_wr w (px_rd w (px_rd w x0 1) 5) ((px_rd w (px_rd w x0 1) 4)).toNat x1) x0 1) 4 (px_w ((px_rd (px_wr w (px_rd w (px_rd w x0 1) 5) ((px_rd w (px_rd w x0 1) 4)).toNat x1) (px_rd (px_wr w (px_rd w (px_rd w x0 1) 5) ((px_rd w (px_rd w x0 1) 4)).toNat x1) x0 1) 4) + 1))) (px_rd (px_wr (px_wr w (px_rd w (px_rd w x0 1) 5) ((px_rd w (px_rd w x0 1) 4)).toNat x1) (px_rd (px_wr w (px_rd w (px_rd w x0 1) 5) ((px_rd w (px_rd w x0 1) 4)).toNat x1) x0 1) 4 (px_w ((px_rd (px_wr w (px_rd w (px_rd w x0 1) 5) ((px_rd w (px_rd w x0 1) 4)).toNat x1) (px_rd (px_wr w (px_rd w (px_rd w x0 1) 5) ((px_rd w (px_rd w x0 1) 4)).toNat x1) x0 1) 4) + 1))) x0 1) 4), (px_wr (px_wr w (px_rd w (px_rd w x0 1) 5) ((px_rd w (px_rd w x0 1) 4)).toNat x1) (px_rd (px_wr w (px_rd w (px_rd w x0 1) 5) ((px_rd w (px_rd w x0 1) 4)).toNat x1) x0 1) 4 (px_w ((px_rd (px_wr w (px_rd w (px_rd w x0 1) 5) ((px_rd w (px_rd w x0 1) 4)).toNat x1) (px_rd (px_wr w (px_rd w (px_rd w x0 1) 5) ((px_rd w (px_rd w x0 1) 4)).toNat x1) x0 1) 4) + 1))))
                            else none
                          else none
                        else none
                      else none
                    else none
                  else none
                else none
              else none
            else none
          else none
        else
          some ((-3), w)
      else none
    else none) := (px_Req mm_Tin_bend 17 [(2, x0), (0, x1)] [] w).trans rfl
set_option maxRecDepth 100000 in
theorem eq_Tin_isPair_0 (x0 x1 x2 : Int) (w : pw) : px_R (mm_Tin_isPair, 0, [(2, x0), (0, x1), (0, x2)], [], w) =
    (if x1 = x2 then
      some (0, w)
    else
      if px_go w x0 8 = true then
        (px_R (mm_Tin_isOne, 0, [(2, x0), (0, 3), (0, x1)], [], w)).bind fun r1 =>
        if r1.1 = 0 then
          some (0, r1.2)
        else
          if px_go r1.2 x0 8 = true then
            (px_R (mm_Tin_isOne, 0, [(2, x0), (0, 3), (0, x2)], [], r1.2)).bind fun r2 =>
            if r2.1 = 0 then
              some (0, r2.2)
            else
              some (1, r2.2)
          else none
      else none) := (px_Req mm_Tin_isPair 0 [(2, x0), (0, x1), (0, x2)] [] w).trans rfl
set_option maxRecDepth 100000 in
theorem eq_Tin_line_0 (x0 x1 x2 x3 x4 : Int) (w : pw) : px_R (mm_Tin_line, 0, [(2, x0), (0, x1), (0, x2), (0, x3), (0, x4)], [], w) =
    (if px_go w x0 8 = true then
      (px_R (mm_Tin_isOne, 0, [(2, x0), (0, 0), (0, x1)], [], w)).bind fun r1 =>
      if r1.1 = 0 then
        some ((-2), r1.2)
      else
        if px_go r1.2 x0 8 = true then
          (px_R (mm_Tin_isOne, 0, [(2, x0), (0, 1), (0, x2)], [], r1.2)).bind fun r2 =>
          if r2.1 = 0 then
            some ((-2), r2.2)
          else
            (px_R (mm_Tin_within, 0, [(0, x3), (0, 1), (0, 400)], [], r2.2)).bind fun r3 =>
              if r3.1 = 0 then
                some ((-2), r3.2)
              else
                (px_R (mm_Tin_within, 0, [(0, x4), (0, 0), (0, 99)], [], r3.2)).bind fun r4 =>
                  if r4.1 = 0 then
                    some ((-2), r4.2)
                  else
                    if px_go r4.2 x0 8 = true then
                      if px_go r4.2 (px_rd r4.2 x0 1) 2 = true then
                        if px_go (px_wr r4.2 (px_rd r4.2 x0 1) 0 x1) x0 8 = true then
                          if px_go (px_wr r4.2 (px_rd r4.2 x0 1) 0 x1) (px_rd (px_wr r4.2 (px_rd r4.2 x0 1) 0 x1) x0 1) 2 = true then
                            if px_go (px_wr (px_wr r4.2 (px_rd r4.2 x0 1) 0 x1) (px_rd (px_wr r4.2 (px_rd r4.2 x0 1) 0 x1) x0 1) 1 x2) x0 8 = true then
                              if px_go (px_wr (px_wr r4.2 (px_rd r4.2 x0 1) 0 x1) (px_rd (px_wr r4.2 (px_rd r4.2 x0 1) 0 x1) x0 1) 1 x2) (px_rd (px_wr (px_wr r4.2 (px_rd r4.2 x0 1) 0 x1) (px_rd (px_wr r4.2 (px_rd r4.2 x0 1) 0 x1) x0 1) 1 x2) x0 1) 2 = true then
                                if px_go (px_wr (px_wr (px_wr r4.2 (px_rd r4.2 x0 1) 0 x1) (px_rd (px_wr r4.2 (px_rd r4.2 x0 1) 0 x1) x0 1) 1 x2) (px_rd (px_wr (px_wr r4.2 (px_rd r4.2 x0 1) 0 x1) (px_rd (px_wr r4.2 (px_rd r4.2 x0 1) 0 x1) x0 1) 1 x2) x0 1) 2 x3) x0 8 = true then
                                  if px_go (px_wr (px_wr (px_wr r4.2 (px_rd r4.2 x0 1) 0 x1) (px_rd (px_wr r4.2 (px_rd r4.2 x0 1) 0 x1) x0 1) 1 x2) (px_rd (px_wr (px_wr r4.2 (px_rd r4.2 x0 1) 0 x1) (px_rd (px_wr r4.2 (px_rd r4.2 x0 1) 0 x1) x0 1) 1 x2) x0 1) 2 x3) (px_rd (px_wr (px_wr (px_wr r4.2 (px_rd r4.2 x0 1) 0 x1) (px_rd (px_wr r4.2 (px_rd r4.2 x0 1) 0 x1) x0 1) 1 x2) (px_rd (px_wr (px_wr r4.2 (px_rd r4.2 x0 1) 0 x1) (px_rd (px_wr r4.2 (px_rd r4.2 x0 1) 0 x1) x0 1) 1 x2) x0 1) 2 x3) x0 1) 2 = true then
                                    px_R (mm_Tin_line, 79, [(2, x0), (0, x1), (0, x2), (0, x3), (0, x4)], [], (px_wr (px_wr (px_wr (px_wr r4.2 (px_rd r4.2 x0 1) 0 x1) (px_rd (px_wr r4.2 (px_rd r4.2 x0 1) 0 x1) x0 1) 1 x2) (px_rd (px_wr (px_wr r4.2 (px_rd r4.2 x0 1) 0 x1) (px_rd (px_wr r4.2 (px_rd r4.2 x0 1) 0 x1) x0 1) 1 x2) x0 1) 2 x3) (px_rd (px_wr (px_wr (px_wr r4.2 (px_rd r4.2 x0 1) 0 x1) (px_rd (px_wr r4.2 (px_rd r4.2 x0 1) 0 x1) x0 1) 1 x2) (px_rd (px_wr (px_wr r4.2 (px_rd r4.2 x0 1) 0 x1) (px_rd (px_wr r4.2 (px_rd r4.2 x0 1) 0 x1) x0 1) 1 x2) x0 1) 2 x3) x0 1) 3 x4))
                                  else none
                                else none
                              else none
                            else none
                          else none
                        else none
                      else none
                    else none
        else none
    else none) := (px_Req mm_Tin_line 0 [(2, x0), (0, x1), (0, x2), (0, x3), (0, x4)] [] w).trans rfl
set_option maxRecDepth 100000 in
theorem eq_Tin_line_79 (x0 x1 x2 x3 x4 : Int) (w : pw) : px_R (mm_Tin_line, 79, [(2, x0), (0, x1), (0, x2), (0, x3), (0, x4)], [], w) =
    (some (1, w)) := (px_Req mm_Tin_line 79 [(2, x0), (0, x1), (0, x2), (0, x3), (0, x4)] [] w).trans rfl
set_option maxRecDepth 100000 in
theorem eq_Tin_right_0 (x0 x1 x2 x3 : Int) (w : pw) : px_R (mm_Tin_right, 0, [(2, x0), (0, x1), (0, x2), (0, x3)], [], w) =
    (if px_go w x0 8 = true then
      (px_R (mm_Tin_isStep, 0, [(2, x0), (0, x1)], [], w)).bind fun r1 =>
      if r1.1 = 0 then
        some ((-2), r1.2)
      else
        if px_go r1.2 x0 8 = true then
          if px_go r1.2 (px_rd r1.2 x0 4) 0 = true then
            (px_R (mm_Tin_within, 0, [(0, x2), (0, 0), (0, (px_w ((px_rd r1.2 (px_rd r1.2 x0 4) 1) - 1)))], [], r1.2)).bind fun r2 =>
              if r2.1 = 0 then
                some ((-2), r2.2)
              else
                if px_go r2.2 x0 8 = true then
                  (px_R (mm_Tin_isOne, 0, [(2, x0), (0, 2), (0, x3)], [], r2.2)).bind fun r3 =>
                  if r3.1 = 0 then
                    some ((-2), r3.2)
                  else
                    if px_go r3.2 x0 8 = true then
                      if px_go r3.2 (px_rd r3.2 x0 4) 0 = true then
                        if (px_rd r3.2 (px_rd r3.2 x0 4) 2) < 20 then
                          if px_go r3.2 x0 8 = true then
                            if px_go r3.2 (px_rd r3.2 x0 4) 0 = true then
                              (px_R (mm_Book_mend, 0, [(2, (px_rd r3.2 x0 4)), (0, x1), (0, x2), (0, x3), (9, 0), (9, 0)], [], r3.2)).bind fun r4 =>
                              some (r4.1, r4.2)
                            else none
                          else none
                        else
                          some ((-3), r3.2)
                      else none
                    else none
                else none
          else none
        else none
    else none) := (px_Req mm_Tin_right 0 [(2, x0), (0, x1), (0, x2), (0, x3)] [] w).trans rfl
set_option maxRecDepth 100000 in
theorem eq_Tin_told_0 (x0 x1 : Int) (w : pw) : px_R (mm_Tin_told, 0, [(2, x0), (0, x1)], [], w) =
    ((px_R (mm_Tin_within, 0, [(0, x1), (0, 0), (0, 5)], [], w)).bind fun r1 =>
      if r1.1 = 0 then
        (px_R (mm_Tin_within, 0, [(0, x1), (0, 6), (0, 8)], [], r1.2)).bind fun r2 =>
          if r2.1 = 0 then
            (px_R (mm_Tin_within, 0, [(0, x1), (0, 10), (0, 19)], [], r2.2)).bind fun r3 =>
              if r3.1 = 0 then
                px_R (mm_Tin_told, 78, [(2, x0), (0, x1)], [], r3.2)
              else
                if px_go r3.2 x0 8 = true then
                  (px_R (mm_Tin_isOne, 0, [(2, x0), (0, 0), (0, (px_w (x1 - 10)))], [], r3.2)).bind fun r4 =>
                  if r4.1 = 0 then
                    px_R (mm_Tin_told, 78, [(2, x0), (0, x1)], [], r4.2)
                  else
                    if px_go r4.2 x0 8 = true then
                      if px_go r4.2 (px_rd r4.2 x0 8) 5 = true then
                        (px_R (mm_Str_number, 0, [(2, (px_rd r4.2 x0 8)), (0, 0), (0, (px_w (x1 - 10))), (0, 0)], [], r4.2)).bind fun r5 =>
                        some (r5.1, r5.2)
                      else none
                    else none
                else none
          else
            if px_go r2.2 x0 8 = true then
              if px_go r2.2 (px_rd r2.2 x0 8) 5 = true then
                (px_R (mm_Str_number, 0, [(2, (px_rd r2.2 x0 8)), (0, x1), (0, 0), (0, 0)], [], r2.2)).bind fun r6 =>
                some (r6.1, r6.2)
              else none
            else none
      else
        if px_go r1.2 x0 8 = true then
          if px_go r1.2 (px_rd r1.2 x0 8) 5 = true then
            if px_ga r1.2 0 (px_rd r1.2 (px_rd r1.2 x0 8) 1) x1 = true then
              some ((px_rd r1.2 (px_rd r1.2 (px_rd r1.2 x0 8) 1) (x1).toNat), r1.2)
            else none
          else none
        else none) := (px_Req mm_Tin_told 0 [(2, x0), (0, x1)] [] w).trans rfl
set_option maxRecDepth 100000 in
theorem eq_Tin_told_78 (x0 x1 : Int) (w : pw) : px_R (mm_Tin_told, 78, [(2, x0), (0, x1)], [], w) =
    ((px_R (mm_Tin_within, 0, [(0, x1), (0, 20), (0, 29)], [], w)).bind fun r7 =>
      if r7.1 = 0 then
        some ((-1), r7.2)
      else
        if px_go r7.2 x0 8 = true then
          (px_R (mm_Tin_isOne, 0, [(2, x0), (0, 5), (0, (px_w (x1 - 20)))], [], r7.2)).bind fun r8 =>
          if r8.1 = 0 then
            some ((-1), r8.2)
          else
            if px_go r8.2 x0 8 = true then
              if px_go r8.2 (px_rd r8.2 x0 8) 5 = true then
                (px_R (mm_Str_number, 0, [(2, (px_rd r8.2 x0 8)), (0, 5), (0, (px_w (x1 - 20))), (0, 0)], [], r8.2)).bind fun r9 =>
                some (r9.1, r9.2)
              else none
            else none
        else none) := (px_Req mm_Tin_told 78 [(2, x0), (0, x1)] [] w).trans rfl
set_option maxRecDepth 100000 in
theorem eq_Tin_write_0 (x0 x1 x2 x3 : Int) (w : pw) : px_R (mm_Tin_write, 0, [(2, x0), (0, x1), (0, x2), (0, x3)], [], w) =
    (if px_go w x0 8 = true then
      (px_R (mm_Tin_isStep, 0, [(2, x0), (0, x1)], [], w)).bind fun r1 =>
      if r1.1 = 0 then
        some ((-2), r1.2)
      else
        if px_go r1.2 x0 8 = true then
          (px_R (mm_Tin_isOne, 0, [(2, x0), (0, 2), (0, x2)], [], r1.2)).bind fun r2 =>
          if r2.1 = 0 then
            some ((-2), r2.2)
          else
            if px_go r2.2 x0 8 = true then
              (px_R (mm_Tin_isOne, 0, [(2, x0), (0, 2), (0, x3)], [], r2.2)).bind fun r3 =>
              if r3.1 = 0 then
                some ((-2), r3.2)
              else
                if px_go r3.2 x0 8 = true then
                  if px_go r3.2 (px_rd r3.2 x0 4) 0 = true then
                    if (px_rd r3.2 (px_rd r3.2 x0 4) 1) < 20 then
                      if px_go r3.2 x0 8 = true then
                        if px_go r3.2 (px_rd r3.2 x0 4) 0 = true then
                          (px_R (mm_Book_note, 0, [(2, (px_rd r3.2 x0 4)), (0, x1), (0, x2), (0, x3)], [], r3.2)).bind fun r4 =>
                          some (r4.1, r4.2)
                        else none
                      else none
                    else
                      some ((-3), r3.2)
                  else none
                else none
            else none
        else none
    else none) := (px_Req mm_Tin_write 0 [(2, x0), (0, x1), (0, x2), (0, x3)] [] w).trans rfl
set_option maxRecDepth 100000 in
theorem eq_Mod_init_0 (x0 : Int) (w : pw) : px_R (mm_Mod_init, 0, [(2, x0)], [], w) =
    (if px_go (px_al w (2, 900)) x0 9 = true then
      if px_go (px_wr (px_al w (2, 900)) x0 0 (w.1.length : Int)) x0 9 = true then
        px_R (mm_Mod_init, 23, [(2, x0)], [(2, ((px_wr (px_wr (px_al w (2, 900)) x0 0 (w.1.length : Int)) x0 9 (-1)).1.length : Int)), (2, x0)], (px_al (px_wr (px_wr (px_al w (2, 900)) x0 0 (w.1.length : Int)) x0 9 (-1)) (0, 18)))
      else none
    else none) := (px_Req mm_Mod_init 0 [(2, x0)] [] w).trans rfl
set_option maxRecDepth 100000 in
theorem eq_Mod_init_23 (x0 s0 s1 : Int) (w : pw) : px_R (mm_Mod_init, 23, [(2, x0)], [(2, s1), (2, s0)], w) =
    (if px_go w s0 9 = true then
      if px_go (px_al (px_wr w s0 12 s1) (1, 36)) x0 9 = true then
        px_R (mm_Mod_init, 39, [(2, x0)], [(2, ((px_wr (px_al (px_wr w s0 12 s1) (1, 36)) x0 13 ((px_wr w s0 12 s1).1.length : Int)).1.length : Int)), (2, x0)], (px_al (px_wr (px_al (px_wr w s0 12 s1) (1, 36)) x0 13 ((px_wr w s0 12 s1).1.length : Int)) (0, 40)))
      else none
    else none) := (px_Req mm_Mod_init 23 [(2, x0)] [(2, s1), (2, s0)] w).trans rfl
set_option maxRecDepth 100000 in
theorem eq_Mod_init_39 (x0 s0 s1 : Int) (w : pw) : px_R (mm_Mod_init, 39, [(2, x0)], [(2, s1), (2, s0)], w) =
    (if px_go w s0 9 = true then
      if px_go (px_al (px_wr w s0 14 s1) (0, 32)) x0 9 = true then
        px_R (mm_Mod_init, 55, [(2, x0)], [(2, ((px_wr (px_al (px_wr w s0 14 s1) (0, 32)) x0 15 ((px_wr w s0 14 s1).1.length : Int)).1.length : Int)), (2, x0)], (px_al (px_wr (px_al (px_wr w s0 14 s1) (0, 32)) x0 15 ((px_wr w s0 14 s1).1.length : Int)) (0, 48)))
      else none
    else none) := (px_Req mm_Mod_init 39 [(2, x0)] [(2, s1), (2, s0)] w).trans rfl
set_option maxRecDepth 100000 in
theorem eq_Mod_init_55 (x0 s0 s1 : Int) (w : pw) : px_R (mm_Mod_init, 55, [(2, x0)], [(2, s1), (2, s0)], w) =
    (if px_go w s0 9 = true then
      if px_go (px_al (px_wr w s0 16 s1) (0, 10)) x0 9 = true then
        px_R (mm_Mod_init, 71, [(2, x0)], [(2, ((px_wr (px_al (px_wr w s0 16 s1) (0, 10)) x0 17 ((px_wr w s0 16 s1).1.length : Int)).1.length : Int)), (2, x0)], (px_al (px_wr (px_al (px_wr w s0 16 s1) (0, 10)) x0 17 ((px_wr w s0 16 s1).1.length : Int)) (0, 10)))
      else none
    else none) := (px_Req mm_Mod_init 55 [(2, x0)] [(2, s1), (2, s0)] w).trans rfl
set_option maxRecDepth 100000 in
theorem eq_Mod_init_71 (x0 s0 s1 : Int) (w : pw) : px_R (mm_Mod_init, 71, [(2, x0)], [(2, s1), (2, s0)], w) =
    (if px_go w s0 9 = true then
      if px_go (px_al (px_wr w s0 18 s1) (0, 8)) x0 9 = true then
        px_R (mm_Mod_init, 87, [(2, x0)], [(2, ((px_wr (px_al (px_wr w s0 18 s1) (0, 8)) x0 19 ((px_wr w s0 18 s1).1.length : Int)).1.length : Int)), (2, x0)], (px_al (px_wr (px_al (px_wr w s0 18 s1) (0, 8)) x0 19 ((px_wr w s0 18 s1).1.length : Int)) (0, 8)))
      else none
    else none) := (px_Req mm_Mod_init 71 [(2, x0)] [(2, s1), (2, s0)] w).trans rfl
set_option maxRecDepth 100000 in
theorem eq_Mod_init_87 (x0 s0 s1 : Int) (w : pw) : px_R (mm_Mod_init, 87, [(2, x0)], [(2, s1), (2, s0)], w) =
    (if px_go w s0 9 = true then
      if px_go (px_al (px_wr w s0 20 s1) (0, 40)) x0 9 = true then
        px_R (mm_Mod_init, 102, [(2, x0)], [(2, ((px_wr (px_al (px_wr w s0 20 s1) (0, 40)) x0 21 ((px_wr w s0 20 s1).1.length : Int)).1.length : Int)), (2, x0)], (px_al (px_wr (px_al (px_wr w s0 20 s1) (0, 40)) x0 21 ((px_wr w s0 20 s1).1.length : Int)) (0, 4)))
      else none
    else none) := (px_Req mm_Mod_init 87 [(2, x0)] [(2, s1), (2, s0)] w).trans rfl
set_option maxRecDepth 100000 in
theorem eq_Mod_init_102 (x0 s0 s1 : Int) (w : pw) : px_R (mm_Mod_init, 102, [(2, x0)], [(2, s1), (2, s0)], w) =
    (if px_go w s0 9 = true then
      if px_go (px_al (px_wr w s0 30 s1) (0, 4)) x0 9 = true then
        px_R (mm_Mod_init, 117, [(2, x0)], [(2, ((px_wr (px_al (px_wr w s0 30 s1) (0, 4)) x0 31 ((px_wr w s0 30 s1).1.length : Int)).1.length : Int)), (2, x0)], (px_al (px_wr (px_al (px_wr w s0 30 s1) (0, 4)) x0 31 ((px_wr w s0 30 s1).1.length : Int)) (0, 24)))
      else none
    else none) := (px_Req mm_Mod_init 102 [(2, x0)] [(2, s1), (2, s0)] w).trans rfl
set_option maxRecDepth 100000 in
theorem eq_Mod_init_117 (x0 s0 s1 : Int) (w : pw) : px_R (mm_Mod_init, 117, [(2, x0)], [(2, s1), (2, s0)], w) =
    (if px_go w s0 9 = true then
      if px_go (px_al (px_wr w s0 32 s1) (0, 4)) x0 9 = true then
        px_R (mm_Mod_init, 132, [(2, x0)], [(2, ((px_wr (px_al (px_wr w s0 32 s1) (0, 4)) x0 33 ((px_wr w s0 32 s1).1.length : Int)).1.length : Int)), (2, x0)], (px_al (px_wr (px_al (px_wr w s0 32 s1) (0, 4)) x0 33 ((px_wr w s0 32 s1).1.length : Int)) (0, 6)))
      else none
    else none) := (px_Req mm_Mod_init 117 [(2, x0)] [(2, s1), (2, s0)] w).trans rfl
set_option maxRecDepth 100000 in
theorem eq_Mod_init_132 (x0 s0 s1 : Int) (w : pw) : px_R (mm_Mod_init, 132, [(2, x0)], [(2, s1), (2, s0)], w) =
    (if px_go w s0 9 = true then
      if px_go (px_al (px_wr w s0 34 s1) (0, 648)) x0 9 = true then
        px_R (mm_Mod_init, 149, [(2, x0)], [(2, ((px_wr (px_al (px_wr w s0 34 s1) (0, 648)) x0 35 ((px_wr w s0 34 s1).1.length : Int)).1.length : Int)), (2, x0)], (px_al (px_wr (px_al (px_wr w s0 34 s1) (0, 648)) x0 35 ((px_wr w s0 34 s1).1.length : Int)) (1, 8)))
      else none
    else none) := (px_Req mm_Mod_init 132 [(2, x0)] [(2, s1), (2, s0)] w).trans rfl
set_option maxRecDepth 100000 in
theorem eq_Mod_init_149 (x0 s0 s1 : Int) (w : pw) : px_R (mm_Mod_init, 149, [(2, x0)], [(2, s1), (2, s0)], w) =
    (if px_go w s0 9 = true then
      if px_go (px_al (px_wr w s0 36 s1) (3, 3)) x0 9 = true then
        px_R (mm_Mod_init, 164, [(2, x0)], [(2, ((px_wr (px_al (px_wr w s0 36 s1) (3, 3)) x0 37 ((px_wr w s0 36 s1).1.length : Int)).1.length : Int)), (2, x0)], (px_al (px_wr (px_al (px_wr w s0 36 s1) (3, 3)) x0 37 ((px_wr w s0 36 s1).1.length : Int)) (0, 40)))
      else none
    else none) := (px_Req mm_Mod_init 149 [(2, x0)] [(2, s1), (2, s0)] w).trans rfl
set_option maxRecDepth 100000 in
theorem eq_Mod_init_164 (x0 s0 s1 : Int) (w : pw) : px_R (mm_Mod_init, 164, [(2, x0)], [(2, s1), (2, s0)], w) =
    (if px_go w s0 9 = true then
      if px_go (px_al (px_wr w s0 38 s1) (0, 40)) x0 9 = true then
        px_R (mm_Mod_init, 180, [(2, x0)], [(2, ((px_wr (px_al (px_wr w s0 38 s1) (0, 40)) x0 39 ((px_wr w s0 38 s1).1.length : Int)).1.length : Int)), (2, x0)], (px_al (px_wr (px_al (px_wr w s0 38 s1) (0, 40)) x0 39 ((px_wr w s0 38 s1).1.length : Int)) (0, 10)))
      else none
    else none) := (px_Req mm_Mod_init 164 [(2, x0)] [(2, s1), (2, s0)] w).trans rfl
set_option maxRecDepth 100000 in
theorem eq_Mod_init_180 (x0 s0 s1 : Int) (w : pw) : px_R (mm_Mod_init, 180, [(2, x0)], [(2, s1), (2, s0)], w) =
    (if px_go w s0 9 = true then
      if px_go (px_al (px_wr w s0 41 s1) (0, 10)) x0 9 = true then
        px_R (mm_Mod_init, 196, [(2, x0)], [(2, ((px_wr (px_al (px_wr w s0 41 s1) (0, 10)) x0 42 ((px_wr w s0 41 s1).1.length : Int)).1.length : Int)), (2, x0)], (px_al (px_wr (px_al (px_wr w s0 41 s1) (0, 10)) x0 42 ((px_wr w s0 41 s1).1.length : Int)) (0, 10)))
      else none
    else none) := (px_Req mm_Mod_init 180 [(2, x0)] [(2, s1), (2, s0)] w).trans rfl
set_option maxRecDepth 100000 in
theorem eq_Mod_init_196 (x0 s0 s1 : Int) (w : pw) : px_R (mm_Mod_init, 196, [(2, x0)], [(2, s1), (2, s0)], w) =
    (if px_go w s0 9 = true then
      if px_go (px_al (px_wr w s0 44 s1) (0, 10)) x0 9 = true then
        px_R (mm_Mod_init, 212, [(2, x0)], [(2, ((px_wr (px_al (px_wr w s0 44 s1) (0, 10)) x0 45 ((px_wr w s0 44 s1).1.length : Int)).1.length : Int)), (2, x0)], (px_al (px_wr (px_al (px_wr w s0 44 s1) (0, 10)) x0 45 ((px_wr w s0 44 s1).1.length : Int)) (0, 10)))
      else none
    else none) := (px_Req mm_Mod_init 196 [(2, x0)] [(2, s1), (2, s0)] w).trans rfl
set_option maxRecDepth 100000 in
theorem eq_Mod_init_212 (x0 s0 s1 : Int) (w : pw) : px_R (mm_Mod_init, 212, [(2, x0)], [(2, s1), (2, s0)], w) =
    (if px_go w s0 9 = true then
      if px_go (px_al (px_wr w s0 46 s1) (0, 16)) x0 9 = true then
        px_R (mm_Mod_init, 228, [(2, x0)], [(2, ((px_wr (px_al (px_wr w s0 46 s1) (0, 16)) x0 50 ((px_wr w s0 46 s1).1.length : Int)).1.length : Int)), (2, x0)], (px_al (px_wr (px_al (px_wr w s0 46 s1) (0, 16)) x0 50 ((px_wr w s0 46 s1).1.length : Int)) (0, 20)))
      else none
    else none) := (px_Req mm_Mod_init 212 [(2, x0)] [(2, s1), (2, s0)] w).trans rfl
set_option maxRecDepth 100000 in
theorem eq_Mod_init_228 (x0 s0 s1 : Int) (w : pw) : px_R (mm_Mod_init, 228, [(2, x0)], [(2, s1), (2, s0)], w) =
    (if px_go w s0 9 = true then
      if px_go (px_al (px_wr w s0 54 s1) (0, 20)) x0 9 = true then
        px_R (mm_Mod_init, 244, [(2, x0)], [(2, ((px_wr (px_al (px_wr w s0 54 s1) (0, 20)) x0 55 ((px_wr w s0 54 s1).1.length : Int)).1.length : Int)), (2, x0)], (px_al (px_wr (px_al (px_wr w s0 54 s1) (0, 20)) x0 55 ((px_wr w s0 54 s1).1.length : Int)) (0, 20)))
      else none
    else none) := (px_Req mm_Mod_init 228 [(2, x0)] [(2, s1), (2, s0)] w).trans rfl
set_option maxRecDepth 100000 in
theorem eq_Mod_init_244 (x0 s0 s1 : Int) (w : pw) : px_R (mm_Mod_init, 244, [(2, x0)], [(2, s1), (2, s0)], w) =
    (if px_go w s0 9 = true then
      if px_go (px_al (px_wr w s0 56 s1) (0, 20)) x0 9 = true then
        px_R (mm_Mod_init, 260, [(2, x0)], [(2, ((px_wr (px_al (px_wr w s0 56 s1) (0, 20)) x0 57 ((px_wr w s0 56 s1).1.length : Int)).1.length : Int)), (2, x0)], (px_al (px_wr (px_al (px_wr w s0 56 s1) (0, 20)) x0 57 ((px_wr w s0 56 s1).1.length : Int)) (0, 20)))
      else none
    else none) := (px_Req mm_Mod_init 244 [(2, x0)] [(2, s1), (2, s0)] w).trans rfl
set_option maxRecDepth 100000 in
theorem eq_Mod_init_260 (x0 s0 s1 : Int) (w : pw) : px_R (mm_Mod_init, 260, [(2, x0)], [(2, s1), (2, s0)], w) =
    (if px_go w s0 9 = true then
      if px_go (px_al (px_wr w s0 58 s1) (0, 20)) x0 9 = true then
        px_R (mm_Mod_init, 276, [(2, x0)], [(2, ((px_wr (px_al (px_wr w s0 58 s1) (0, 20)) x0 59 ((px_wr w s0 58 s1).1.length : Int)).1.length : Int)), (2, x0)], (px_al (px_wr (px_al (px_wr w s0 58 s1) (0, 20)) x0 59 ((px_wr w s0 58 s1).1.length : Int)) (0, 30)))
      else none
    else none) := (px_Req mm_Mod_init 260 [(2, x0)] [(2, s1), (2, s0)] w).trans rfl
set_option maxRecDepth 100000 in
theorem eq_Mod_init_276 (x0 s0 s1 : Int) (w : pw) : px_R (mm_Mod_init, 276, [(2, x0)], [(2, s1), (2, s0)], w) =
    (if px_go w s0 9 = true then
      if px_go (px_al (px_wr w s0 60 s1) (0, 30)) x0 9 = true then
        px_R (mm_Mod_init, 291, [(2, x0)], [(2, ((px_wr (px_al (px_wr w s0 60 s1) (0, 30)) x0 61 ((px_wr w s0 60 s1).1.length : Int)).1.length : Int)), (2, x0)], (px_al (px_wr (px_al (px_wr w s0 60 s1) (0, 30)) x0 61 ((px_wr w s0 60 s1).1.length : Int)) (0, 4)))
      else none
    else none) := (px_Req mm_Mod_init 276 [(2, x0)] [(2, s1), (2, s0)] w).trans rfl
set_option maxRecDepth 100000 in
theorem eq_Mod_init_291 (x0 s0 s1 : Int) (w : pw) : px_R (mm_Mod_init, 291, [(2, x0)], [(2, s1), (2, s0)], w) =
    (if px_go w s0 9 = true then
      if px_go (px_wr w s0 62 s1) x0 9 = true then
        (px_R (mm_Mod_begin, 0, [(2, x0), (9, 0)], [], (px_wr w s0 62 s1))).bind fun r1 =>
        if px_go r1.2 x0 9 = true then
          (px_R (mm_Mod_settle, 0, [(2, x0)], [], r1.2)).bind fun r2 =>
          if px_go r2.2 x0 9 = true then
            (px_R (mm_Mod_newStretch, 0, [(2, x0), (0, 2), (9, 0)], [], r2.2)).bind fun r3 =>
            some (0, r3.2)
          else none
        else none
      else none
    else none) := (px_Req mm_Mod_init 291 [(2, x0)] [(2, s1), (2, s0)] w).trans rfl
set_option maxRecDepth 100000 in
theorem eq_Mod_arePair_0 (x0 x1 x2 : Int) (w : pw) : px_R (mm_Mod_arePair, 0, [(2, x0), (0, x1), (0, x2)], [], w) =
    (if px_go w x0 9 = true then
      (px_R (mm_Mod_is, 0, [(2, x0), (0, 3), (0, x1)], [], w)).bind fun r1 =>
      if r1.1 = 0 then
        some (0, r1.2)
      else
        if px_go r1.2 x0 9 = true then
          (px_R (mm_Mod_is, 0, [(2, x0), (0, 3), (0, x2)], [], r1.2)).bind fun r2 =>
          if r2.1 = 0 then
            some (0, r2.2)
          else
            if x1 = x2 then
              some (0, r2.2)
            else
              some (1, r2.2)
        else none
    else none) := (px_Req mm_Mod_arePair 0 [(2, x0), (0, x1), (0, x2)] [] w).trans rfl
set_option maxRecDepth 100000 in
theorem eq_Mod_band_0 (x0 x1 x2 x3 : Int) (w : pw) : px_R (mm_Mod_band, 0, [(2, x0), (0, x1), (0, x2), (0, x3)], [], w) =
    ((px_R (mm_Mod_in, 0, [(0, x1), (0, 0), (0, 3)], [], w)).bind fun r1 =>
      if r1.1 = 0 then
        some ((-2), r1.2)
      else
        if x1 = 3 then
          px_R (mm_Mod_band, 20, [(2, x0), (0, x1), (0, x2), (0, x3)], [(0, 5), (2, x0)], r1.2)
        else
          px_R (mm_Mod_band, 20, [(2, x0), (0, x1), (0, x2), (0, x3)], [(0, x1), (2, x0)], r1.2)) := (px_Req mm_Mod_band 0 [(2, x0), (0, x1), (0, x2), (0, x3)] [] w).trans rfl
set_option maxRecDepth 100000 in
theorem eq_Mod_band_20 (x0 x1 x2 x3 s0 s1 : Int) (w : pw) : px_R (mm_Mod_band, 20, [(2, x0), (0, x1), (0, x2), (0, x3)], [(0, s1), (2, s0)], w) =
    (if px_go w s0 9 = true then
      (px_R (mm_Mod_is, 0, [(2, s0), (0, s1), (0, x2)], [], w)).bind fun r2 =>
      if r2.1 = 0 then
        some ((-2), r2.2)
      else
        (px_R (mm_Mod_isBand, 0, [(0, x3)], [], r2.2)).bind fun r3 =>
          if r3.1 = 0 then
            some ((-2), r3.2)
          else
            if x1 = 0 then
              if px_go r3.2 x0 9 = true then
                if px_ga r3.2 0 (px_rd r3.2 x0 14) (px_w ((px_w ((px_w (5 * x2)) + 1)) + x3)) = true then
                  some ((px_rd r3.2 (px_rd r3.2 x0 14) ((px_w ((px_w ((px_w (5 * x2)) + 1)) + x3))).toNat), r3.2)
                else none
              else none
            else
              if x1 = 1 then
                if px_go r3.2 x0 9 = true then
                  if px_ga r3.2 0 (px_rd r3.2 x0 15) (px_w ((px_w (4 * x2)) + x3)) = true then
                    some ((px_rd r3.2 (px_rd r3.2 x0 15) ((px_w ((px_w (4 * x2)) + x3))).toNat), r3.2)
                  else none
                else none
              else
                if x1 = 2 then
                  if px_go r3.2 x0 9 = true then
                    if px_ga r3.2 0 (px_rd r3.2 x0 16) (px_w ((px_w (4 * x2)) + x3)) = true then
                      some ((px_rd r3.2 (px_rd r3.2 x0 16) ((px_w ((px_w (4 * x2)) + x3))).toNat), r3.2)
                    else none
                  else none
                else
                  if px_go r3.2 x0 9 = true then
                    if px_ga r3.2 0 (px_rd r3.2 x0 21) (px_w ((px_w ((px_w (5 * x2)) + 1)) + x3)) = true then
                      some ((px_rd r3.2 (px_rd r3.2 x0 21) ((px_w ((px_w ((px_w (5 * x2)) + 1)) + x3))).toNat), r3.2)
                    else none
                  else none
    else none) := (px_Req mm_Mod_band 20 [(2, x0), (0, x1), (0, x2), (0, x3)] [(0, s1), (2, s0)] w).trans rfl
set_option maxRecDepth 100000 in
theorem eq_Mod_bears_0 (x0 x1 : Int) (w : pw) : px_R (mm_Mod_bears, 0, [(2, x0), (0, x1)], [], w) =
    ((px_R (mm_Mod_in, 0, [(0, x1), (0, 0), (0, 4)], [], w)).bind fun r1 =>
      if r1.1 = 0 then
        some ((-2), r1.2)
      else
        if px_go r1.2 x0 9 = true then
          (px_R (mm_Mod_hasStuff, 0, [(2, x0)], [], r1.2)).bind fun r2 =>
          if r2.1 = 0 then
            some ((-4), r2.2)
          else
            if x1 = 0 then
              if px_go r2.2 x0 9 = true then
                if px_go r2.2 x0 9 = true then
                  (px_R (mm_Mod_bearsOf, 0, [(2, x0), (0, (px_rd r2.2 x0 24)), (9, 0)], [], r2.2)).bind fun r3 =>
                  some (r3.1, r3.2)
                else none
              else none
            else if x1 = 1 then
              if px_go r2.2 x0 9 = true then
                if px_go r2.2 x0 9 = true then
                  (px_R (mm_Mod_handsOf, 0, [(2, x0), (0, (px_rd r2.2 x0 24)), (9, 0)], [], r2.2)).bind fun r4 =>
                  some (r4.1, r4.2)
                else none
              else none
            else if x1 = 2 then
              if px_go r2.2 x0 9 = true then
                if px_go r2.2 x0 9 = true then
                  if px_go r2.2 x0 9 = true then
                    (px_R (mm_Mod_bearsOf, 0, [(2, x0), (0, (px_rd r2.2 x0 24)), (9, 0)], [], r2.2)).bind fun r5 =>
                    if r5.1 < (px_rd r2.2 x0 27) then
                      some (1, r5.2)
                    else
                      some (0, r5.2)
                  else none
                else none
              else none
            else if x1 = 3 then
              if px_go r2.2 x0 9 = true then
                some ((px_rd r2.2 x0 28), r2.2)
              else none
            else 
              if px_go r2.2 x0 9 = true then
                some ((px_rd r2.2 x0 29), r2.2)
              else none
        else none) := (px_Req mm_Mod_bears 0 [(2, x0), (0, x1)] [] w).trans rfl
set_option maxRecDepth 100000 in
theorem eq_Mod_bend_0 (x0 x1 : Int) (w : pw) : px_R (mm_Mod_bend, 0, [(2, x0), (0, x1)], [], w) =
    (if x1 = (-1) then
      px_R (mm_Mod_bend, 17, [(2, x0), (0, x1)], [], w)
    else
      if px_go w x0 9 = true then
        (px_R (mm_Mod_is, 0, [(2, x0), (0, 5), (0, x1)], [], w)).bind fun r1 =>
        if r1.1 = 0 then
          some ((-2), r1.2)
        else
          px_R (mm_Mod_bend, 17, [(2, x0), (0, x1)], [], r1.2)
      else none) := (px_Req mm_Mod_bend 0 [(2, x0), (0, x1)] [] w).trans rfl
set_option maxRecDepth 100000 in
theorem eq_Mod_bend_17 (x0 x1 : Int) (w : pw) : px_R (mm_Mod_bend, 17, [(2, x0), (0, x1)], [], w) =
    (if px_go w x0 9 = true then
      if (px_rd w x0 28) = 4 then
        some ((-3), w)
      else
        if px_go w x0 9 = true then
          if px_go w x0 9 = true then
            if px_ga w 0 (px_rd w x0 30) (px_rd w x0 28) = true then
              if px_go (px_wr w (px_rd w x0 30) ((px_rd w x0 28)).toNat x1) x0 9 = true then
                if px_go (px_wr w (px_rd w x0 30) ((px_rd w x0 28)).toNat x1) x0 9 = true then
                  if px_go (px_wr (px_wr w (px_rd w x0 30) ((px_rd w x0 28)).toNat x1) x0 28 (px_w ((px_rd (px_wr w (px_rd w x0 30) ((px_rd w x0 28)).toNat x1) x0 28) + 1))) x0 9 = true then
                    some ((px_rd (px_wr (px_wr w (px_rd w x0 30) ((px_rd w x0 28)).toNat x1) x0 28 (px_w ((px_rd (px_wr w (px_rd w x0 30) ((px_rd w x0 28)).toNat x1) x0 28) + 1))) x0 28), (px_wr (px_wr w (px_rd w x0 30) ((px_rd w x0 28)).toNat x1) x0 28 (px_w ((px_rd (px_wr w (px_rd w x0 30) ((px_rd w x0 28)).toNat x1) x0 28) + 1))))
                  else none
                else none
              else none
            else none
          else none
        else none
    else none) := (px_Req mm_Mod_bend 17 [(2, x0), (0, x1)] [] w).trans rfl
set_option maxRecDepth 100000 in
theorem eq_Mod_cell_0 (x0 x1 x2 x3 : Int) (w : pw) : px_R (mm_Mod_cell, 0, [(2, x0), (0, x1), (0, x2), (0, x3)], [], w) =
    (if px_go w x0 9 = true then
      (px_R (mm_Mod_isCell, 0, [(2, x0), (0, x1)], [], w)).bind fun r1 =>
      if r1.1 = 0 then
        some ((-2), r1.2)
      else
        (px_R (mm_Mod_in, 0, [(0, x2), (0, 0), (0, 100)], [], r1.2)).bind fun r2 =>
          if r2.1 = 0 then
            some ((-2), r2.2)
          else
            (px_R (mm_Mod_in, 0, [(0, x3), (0, 0), (0, 100)], [], r2.2)).bind fun r3 =>
              if r3.1 = 0 then
                some ((-2), r3.2)
              else
                if 100 < (px_w (x2 + x3)) then
                  some ((-2), r3.2)
                else
                  if px_go r3.2 x0 9 = true then
                    if px_ga r3.2 0 (px_rd r3.2 x0 35) (px_w (82 + x1)) = true then
                      if px_go (px_wr r3.2 (px_rd r3.2 x0 35) ((px_w (82 + x1))).toNat x2) x0 9 = true then
                        if px_ga (px_wr r3.2 (px_rd r3.2 x0 35) ((px_w (82 + x1))).toNat x2) 0 (px_rd (px_wr r3.2 (px_rd r3.2 x0 35) ((px_w (82 + x1))).toNat x2) x0 35) (px_w (122 + x1)) = true then
                          some (1, (px_wr (px_wr r3.2 (px_rd r3.2 x0 35) ((px_w (82 + x1))).toNat x2) (px_rd (px_wr r3.2 (px_rd r3.2 x0 35) ((px_w (82 + x1))).toNat x2) x0 35) ((px_w (122 + x1))).toNat x3))
                        else none
                      else none
                    else none
                  else none
    else none) := (px_Req mm_Mod_cell 0 [(2, x0), (0, x1), (0, x2), (0, x3)] [] w).trans rfl
set_option maxRecDepth 100000 in
theorem eq_Mod_comesTo_0 (x0 x1 x2 x3 x4 x5 x6 : Int) (w : pw) : px_R (mm_Mod_comesTo, 0, [(2, x0), (0, x1), (0, x2), (0, x3), (0, x4), (0, x5), (0, x6), (9, 0), (9, 0)], [], w) =
    (if px_go w x0 9 = true then
      if px_ga w 0 (px_rd w x0 15) (px_w ((px_w (4 * x2)) + x5)) = true then
        if px_go w x0 9 = true then
          (px_R (mm_Mod_handsOf, 0, [(2, x0), (0, x1), (9, 0)], [], w)).bind fun r1 =>
          px_R (mm_Mod_comesTo, 39, [(2, x0), (0, x1), (0, x2), (0, x3), (0, x4), (0, x5), (0, x6), (0, (px_w (Int.tdiv (px_w ((px_w (Int.tdiv (px_w ((px_w (1000 * x4)) * (px_rd w (px_rd w x0 15) ((px_w ((px_w (4 * x2)) + x5))).toNat))) 100)) * r1.1)) 100))), (0, 0)], [], r1.2)
        else none
      else none
    else none) := (px_Req mm_Mod_comesTo 0 [(2, x0), (0, x1), (0, x2), (0, x3), (0, x4), (0, x5), (0, x6), (9, 0), (9, 0)] [] w).trans rfl
set_option maxRecDepth 100000 in
theorem eq_Mod_comesTo_39 (x0 x1 x2 x3 x4 x5 x6 x7 x8 : Int) (w : pw) : px_R (mm_Mod_comesTo, 39, [(2, x0), (0, x1), (0, x2), (0, x3), (0, x4), (0, x5), (0, x6), (0, x7), (0, x8)], [], w) =
    (if x8 < x3 then
      if 0 < x7 then
        if px_go w x0 9 = true then
          if px_ga w 0 (px_rd w x0 14) (px_w ((px_w ((px_w (5 * x1)) + 1)) + x5)) = true then
            px_R (mm_Mod_comesTo, 39, [(2, x0), (0, x1), (0, x2), (0, x3), (0, x4), (0, x5), (0, x6), (0, (px_w (Int.tdiv (px_w (x7 * (px_w (1000 - (px_rd w (px_rd w x0 14) ((px_w ((px_w ((px_w (5 * x1)) + 1)) + x5))).toNat))))) 1000))), (0, (px_w (x8 + 1)))], [], w)
          else none
        else none
      else
        px_R (mm_Mod_comesTo, 85, [(2, x0), (0, x1), (0, x2), (0, x3), (0, x4), (0, x5), (0, x6), (0, x7), (0, 0)], [], w)
    else
      px_R (mm_Mod_comesTo, 85, [(2, x0), (0, x1), (0, x2), (0, x3), (0, x4), (0, x5), (0, x6), (0, x7), (0, 0)], [], w)) := (px_Req mm_Mod_comesTo 39 [(2, x0), (0, x1), (0, x2), (0, x3), (0, x4), (0, x5), (0, x6), (0, x7), (0, x8)] [] w).trans rfl
set_option maxRecDepth 100000 in
theorem eq_Mod_comesTo_85 (x0 x1 x2 x3 x4 x5 x6 x7 x8 : Int) (w : pw) : px_R (mm_Mod_comesTo, 85, [(2, x0), (0, x1), (0, x2), (0, x3), (0, x4), (0, x5), (0, x6), (0, x7), (0, x8)], [], w) =
    (if px_go w x0 9 = true then
      if x8 < (px_rd w x0 28) then
        if px_go w x0 9 = true then
          if px_ga w 0 (px_rd w x0 30) x8 = true then
            if px_go w x0 9 = true then
              (px_R (mm_Mod_letsBy, 0, [(2, x0), (0, (px_rd w (px_rd w x0 30) (x8).toNat)), (0, x5)], [], w)).bind fun r2 =>
              px_R (mm_Mod_comesTo, 85, [(2, x0), (0, x1), (0, x2), (0, x3), (0, x4), (0, x5), (0, x6), (0, (px_w (Int.tdiv (px_w (x7 * r2.1)) 100))), (0, (px_w (x8 + 1)))], [], r2.2)
            else none
          else none
        else none
      else
        px_R (mm_Mod_comesTo, 124, [(2, x0), (0, x1), (0, x2), (0, x3), (0, x4), (0, x5), (0, x6), (0, x7), (0, 0)], [], w)
    else none) := (px_Req mm_Mod_comesTo 85 [(2, x0), (0, x1), (0, x2), (0, x3), (0, x4), (0, x5), (0, x6), (0, x7), (0, x8)] [] w).trans rfl
set_option maxRecDepth 100000 in
theorem eq_Mod_comesTo_124 (x0 x1 x2 x3 x4 x5 x6 x7 x8 : Int) (w : pw) : px_R (mm_Mod_comesTo, 124, [(2, x0), (0, x1), (0, x2), (0, x3), (0, x4), (0, x5), (0, x6), (0, x7), (0, x8)], [], w) =
    (if x8 < x6 then
      if px_go w x0 9 = true then
        if px_ga w 0 (px_rd w x0 31) x8 = true then
          px_R (mm_Mod_comesTo, 124, [(2, x0), (0, x1), (0, x2), (0, x3), (0, x4), (0, x5), (0, x6), (0, (px_w (Int.tdiv (px_w (x7 * (px_w (100 - (px_rd w (px_rd w x0 31) (x8).toNat))))) 100))), (0, (px_w (x8 + 1)))], [], w)
        else none
      else none
    else
      some (x7, w)) := (px_Req mm_Mod_comesTo 124 [(2, x0), (0, x1), (0, x2), (0, x3), (0, x4), (0, x5), (0, x6), (0, x7), (0, x8)] [] w).trans rfl
set_option maxRecDepth 100000 in
theorem eq_Mod_goes_0 (x0 x1 x2 : Int) (w : pw) : px_R (mm_Mod_goes, 0, [(2, x0), (0, x1), (0, x2)], [], w) =
    (if px_go w x0 9 = true then
      (px_R (mm_Mod_isCell, 0, [(2, x0), (0, x1)], [], w)).bind fun r1 =>
      if r1.1 = 0 then
        some ((-2000000000), r1.2)
      else
        (px_R (mm_Mod_in, 0, [(0, x2), (0, 0), (0, 3)], [], r1.2)).bind fun r2 =>
          if r2.1 = 0 then
            some ((-2000000000), r2.2)
          else
            if px_go r2.2 x0 9 = true then
              if px_ga r2.2 0 (px_rd r2.2 x0 35) (px_w ((px_w (2 + (px_w (40 * x2)))) + x1)) = true then
                some ((px_rd r2.2 (px_rd r2.2 x0 35) ((px_w ((px_w (2 + (px_w (40 * x2)))) + x1))).toNat), r2.2)
              else none
            else none
    else none) := (px_Req mm_Mod_goes 0 [(2, x0), (0, x1), (0, x2)] [] w).trans rfl
set_option maxRecDepth 100000 in
theorem eq_Mod_keep_0 (x0 x1 : Int) (w : pw) : px_R (mm_Mod_keep, 0, [(2, x0), (0, x1), (9, 0)], [], w) =
    ((px_R (mm_Mod_isSlot, 0, [(0, x1)], [], w)).bind fun r1 =>
      if r1.1 = 0 then
        some ((-2), r1.2)
      else
        if px_go r1.2 x0 9 = true then
          if px_gb r1.2 (px_rd r1.2 x0 37) x1 1 = true then
            px_R (mm_Mod_keep, 19, [(2, x0), (0, x1), (0, 0)], [], (px_wr r1.2 (px_rd r1.2 x0 37) (x1).toNat 1))
          else none
        else none) := (px_Req mm_Mod_keep 0 [(2, x0), (0, x1), (9, 0)] [] w).trans rfl
set_option maxRecDepth 100000 in
theorem eq_Mod_keep_19 (x0 x1 x2 : Int) (w : pw) : px_R (mm_Mod_keep, 19, [(2, x0), (0, x1), (0, x2)], [], w) =
    (if x2 < 162 then
      if px_go w x0 9 = true then
        if px_go w x0 9 = true then
          if px_ga w 0 (px_rd w x0 35) x2 = true then
            if px_ga w 0 (px_rd w x0 35) (px_w ((px_w (162 * (px_w (x1 + 1)))) + x2)) = true then
              px_R (mm_Mod_keep, 19, [(2, x0), (0, x1), (0, (px_w (x2 + 1)))], [], (px_wr w (px_rd w x0 35) ((px_w ((px_w (162 * (px_w (x1 + 1)))) + x2))).toNat (px_rd w (px_rd w x0 35) (x2).toNat)))
            else none
          else none
        else none
      else none
    else
      px_R (mm_Mod_keep, 54, [(2, x0), (0, x1), (0, 0)], [], w)) := (px_Req mm_Mod_keep 19 [(2, x0), (0, x1), (0, x2)] [] w).trans rfl
set_option maxRecDepth 100000 in
theorem eq_Mod_keep_54 (x0 x1 x2 : Int) (w : pw) : px_R (mm_Mod_keep, 54, [(2, x0), (0, x1), (0, x2)], [], w) =
    (if x2 < 2 then
      if px_go w x0 9 = true then
        if px_go w x0 9 = true then
          if px_ga w 1 (px_rd w x0 36) x2 = true then
            if px_ga w 1 (px_rd w x0 36) (px_w ((px_w (2 * (px_w (x1 + 1)))) + x2)) = true then
              px_R (mm_Mod_keep, 54, [(2, x0), (0, x1), (0, (px_w (x2 + 1)))], [], (px_wr w (px_rd w x0 36) ((px_w ((px_w (2 * (px_w (x1 + 1)))) + x2))).toNat (px_rd w (px_rd w x0 36) (x2).toNat)))
            else none
          else none
        else none
      else none
    else
      if px_go w x0 9 = true then
        if px_ga w 0 (px_rd w x0 35) 1 = true then
          some ((px_rd w (px_rd w x0 35) 1), w)
        else none
      else none) := (px_Req mm_Mod_keep 54 [(2, x0), (0, x1), (0, x2)] [] w).trans rfl
set_option maxRecDepth 100000 in
theorem eq_Mod_least_0 (x0 x1 x2 : Int) (w : pw) : px_R (mm_Mod_least, 0, [(2, x0), (0, x1), (0, x2), (9, 0), (9, 0), (9, 0), (9, 0)], [], w) =
    ((px_R (mm_Mod_in, 0, [(0, x1), (0, 1), (0, 4)], [], w)).bind fun r1 =>
      if r1.1 = 0 then
        some ((-2), r1.2)
      else
        (px_R (mm_Mod_in, 0, [(0, x2), (0, 0), (0, 1)], [], r1.2)).bind fun r2 =>
          if r2.1 = 0 then
            some ((-2), r2.2)
          else
            if px_go r2.2 x0 9 = true then
              (px_R (mm_Mod_makeStrings, 0, [(2, x0), (9, 0), (9, 0)], [], r2.2)).bind fun r3 =>
              px_R (mm_Mod_least, 33, [(2, x0), (0, x1), (0, x2), (0, (-1)), (0, 0), (0, 0), (9, 0)], [], r3.2)
            else none) := (px_Req mm_Mod_least 0 [(2, x0), (0, x1), (0, x2), (9, 0), (9, 0), (9, 0), (9, 0)] [] w).trans rfl
set_option maxRecDepth 100000 in
theorem eq_Mod_least_33 (x0 x1 x2 x3 x4 x5 : Int) (y6 : pv) (w : pw) : px_R (mm_Mod_least, 33, [(2, x0), (0, x1), (0, x2), (0, x3), (0, x4), (0, x5), y6], [], w) =
    (if px_go w x0 9 = true then
      if x5 < (px_shl 1 (px_rd w x0 43)) then
        if px_go w x0 9 = true then
          (px_R (mm_Mod_yardsBy, 0, [(2, x0), (0, x5), (0, x1), (9, 0), (9, 0)], [], w)).bind fun r4 =>
          if r4.1 < 0 then
            px_R (mm_Mod_least, 33, [(2, x0), (0, x1), (0, x2), (0, x3), (0, x4), (0, (px_w (x5 + 1))), (0, r4.1)], [], r4.2)
          else
            if x3 = (-1) then
              px_R (mm_Mod_least, 33, [(2, x0), (0, x1), (0, x2), (0, x5), (0, r4.1), (0, (px_w (x5 + 1))), (0, r4.1)], [], r4.2)
            else
              if r4.1 < x4 then
                px_R (mm_Mod_least, 33, [(2, x0), (0, x1), (0, x2), (0, x5), (0, r4.1), (0, (px_w (x5 + 1))), (0, r4.1)], [], r4.2)
              else
                px_R (mm_Mod_least, 33, [(2, x0), (0, x1), (0, x2), (0, x3), (0, x4), (0, (px_w (x5 + 1))), (0, r4.1)], [], r4.2)
        else none
      else
        if x3 = (-1) then
          some ((-1), w)
        else
          if x2 = 0 then
            some (x4, w)
          else
            some (x3, w)
    else none) := (px_Req mm_Mod_least 33 [(2, x0), (0, x1), (0, x2), (0, x3), (0, x4), (0, x5), y6] [] w).trans rfl
set_option maxRecDepth 100000 in
theorem eq_Mod_line_0 (x0 x1 x2 x3 x4 : Int) (w : pw) : px_R (mm_Mod_line, 0, [(2, x0), (0, x1), (0, x2), (0, x3), (0, x4)], [], w) =
    (if px_go w x0 9 = true then
      (px_R (mm_Mod_is, 0, [(2, x0), (0, 0), (0, x1)], [], w)).bind fun r1 =>
      if r1.1 = 0 then
        some ((-2), r1.2)
      else
        if px_go r1.2 x0 9 = true then
          (px_R (mm_Mod_is, 0, [(2, x0), (0, 1), (0, x2)], [], r1.2)).bind fun r2 =>
          if r2.1 = 0 then
            some ((-2), r2.2)
          else
            (px_R (mm_Mod_in, 0, [(0, x3), (0, 1), (0, 400)], [], r2.2)).bind fun r3 =>
              if r3.1 = 0 then
                some ((-2), r3.2)
              else
                (px_R (mm_Mod_in, 0, [(0, x4), (0, 0), (0, 99)], [], r3.2)).bind fun r4 =>
                  if r4.1 = 0 then
                    some ((-2), r4.2)
                  else
                    if px_go r4.2 x0 9 = true then
                      if px_go (px_wr r4.2 x0 24 x1) x0 9 = true then
                        if px_go (px_wr (px_wr r4.2 x0 24 x1) x0 25 x2) x0 9 = true then
                          if px_go (px_wr (px_wr (px_wr r4.2 x0 24 x1) x0 25 x2) x0 26 x3) x0 9 = true then
                            px_R (mm_Mod_line, 64, [(2, x0), (0, x1), (0, x2), (0, x3), (0, x4)], [], (px_wr (px_wr (px_wr (px_wr r4.2 x0 24 x1) x0 25 x2) x0 26 x3) x0 27 x4))
                          else none
                        else none
                      else none
                    else none
        else none
    else none) := (px_Req mm_Mod_line 0 [(2, x0), (0, x1), (0, x2), (0, x3), (0, x4)] [] w).trans rfl
set_option maxRecDepth 100000 in
theorem eq_Mod_line_64 (x0 x1 x2 x3 x4 : Int) (w : pw) : px_R (mm_Mod_line, 64, [(2, x0), (0, x1), (0, x2), (0, x3), (0, x4)], [], w) =
    (some (1, w)) := (px_Req mm_Mod_line 64 [(2, x0), (0, x1), (0, x2), (0, x3), (0, x4)] [] w).trans rfl
set_option maxRecDepth 100000 in
theorem eq_Mod_listen_0 (x0 x1 x2 : Int) (w : pw) : px_R (mm_Mod_listen, 0, [(2, x0), (0, x1), (0, x2), (9, 0), (9, 0), (9, 0), (9, 0), (9, 0), (9, 0), (9, 0)], [], w) =
    (if px_go w x0 9 = true then
      if px_ga w 0 (px_rd w x0 12) 8 = true then
        px_R (mm_Mod_listen, 18, [(2, x0), (0, x1), (0, x2), (0, (px_rd w (px_rd w x0 12) 8)), (0, (px_w ((px_w (2 * (px_rd w (px_rd w x0 12) 8))) + 1))), (0, 0), (9, 0), (9, 0), (9, 0), (9, 0)], [], w)
      else none
    else none) := (px_Req mm_Mod_listen 0 [(2, x0), (0, x1), (0, x2), (9, 0), (9, 0), (9, 0), (9, 0), (9, 0), (9, 0), (9, 0)] [] w).trans rfl
set_option maxRecDepth 100000 in
theorem eq_Mod_listen_18 (x0 x1 x2 x3 x4 x5 : Int) (w : pw) : px_R (mm_Mod_listen, 18, [(2, x0), (0, x1), (0, x2), (0, x3), (0, x4), (0, x5), (9, 0), (9, 0), (9, 0), (9, 0)], [], w) =
    (if x5 < 6 then
      if px_go w x0 9 = true then
        if px_ga w 0 (px_rd w x0 34) x5 = true then
          px_R (mm_Mod_listen, 18, [(2, x0), (0, x1), (0, x2), (0, x3), (0, x4), (0, (px_w (x5 + 1))), (9, 0), (9, 0), (9, 0), (9, 0)], [], (px_wr w (px_rd w x0 34) (x5).toNat 0))
        else none
      else none
    else
      px_R (mm_Mod_listen, 42, [(2, x0), (0, x1), (0, x2), (0, x3), (0, x4), (0, 0), (9, 0), (9, 0), (9, 0), (9, 0)], [], w)) := (px_Req mm_Mod_listen 18 [(2, x0), (0, x1), (0, x2), (0, x3), (0, x4), (0, x5), (9, 0), (9, 0), (9, 0), (9, 0)] [] w).trans rfl
set_option maxRecDepth 100000 in
theorem eq_Mod_listen_42 (x0 x1 x2 x3 x4 x5 : Int) (y6 y7 y8 y9 : pv) (w : pw) : px_R (mm_Mod_listen, 42, [(2, x0), (0, x1), (0, x2), (0, x3), (0, x4), (0, x5), y6, y7, y8, y9], [], w) =
    (if x5 < (px_w ((px_w ((px_w (x4 * x4)) * x4)) * x4)) then
      px_R (mm_Mod_listen, 68, [(2, x0), (0, x1), (0, x2), (0, x3), (0, x4), (0, x5), (0, 1), (0, x5), (0, 0), y9], [], w)
    else
      some (0, w)) := (px_Req mm_Mod_listen 42 [(2, x0), (0, x1), (0, x2), (0, x3), (0, x4), (0, x5), y6, y7, y8, y9] [] w).trans rfl
set_option maxRecDepth 100000 in
theorem eq_Mod_listen_68 (x0 x1 x2 x3 x4 x5 x6 x7 x8 : Int) (y9 : pv) (w : pw) : px_R (mm_Mod_listen, 68, [(2, x0), (0, x1), (0, x2), (0, x3), (0, x4), (0, x5), (0, x6), (0, x7), (0, x8), y9], [], w) =
    (if x8 < 4 then
      if (!decide (x4 = 0)) = true then
        if (!decide (x4 = 0)) = true then
          (px_R (mm_Mod_plain, 0, [(0, (px_w ((Int.tmod x7 x4) - x3)))], [], w)).bind fun r2 =>
            if px_go r2.2 x0 9 = true then
              if px_go r2.2 x0 9 = true then
                if px_ga r2.2 0 (px_rd r2.2 x0 32) (px_w ((px_w (4 * x2)) + x8)) = true then
                  (px_R (mm_Mod_heard, 0, [(0, (px_w ((px_rd r2.2 (px_rd r2.2 x0 32) ((px_w ((px_w (4 * x2)) + x8))).toNat) + (px_w ((Int.tmod x7 x4) - x3)))))], [], r2.2)).bind fun r3 =>
                    if px_ga r3.2 0 (px_rd r2.2 x0 33) x8 = true then
                      px_R (mm_Mod_listen, 68, [(2, x0), (0, x1), (0, x2), (0, x3), (0, x4), (0, x5), (0, (px_w (x6 * (px_w ((px_w (x3 + 1)) - r2.1))))), (0, (px_w (Int.tdiv x7 x4))), (0, (px_w (x8 + 1))), (0, (px_w ((Int.tmod x7 x4) - x3)))], [], (px_wr r3.2 (px_rd r2.2 x0 33) (x8).toNat r3.1))
                    else none
                else none
              else none
            else none
        else none
      else none
    else
      if px_go w x0 9 = true then
        if px_go w x0 9 = true then
          (px_R (mm_Mod_ear, 0, [(2, x0), (0, x1), (9, 0), (9, 0), (9, 0), (9, 0), (9, 0)], [], w)).bind fun r1 =>
          if px_ga r1.2 0 (px_rd w x0 34) r1.1 = true then
            if px_ga r1.2 0 (px_rd w x0 34) r1.1 = true then
              px_R (mm_Mod_listen, 42, [(2, x0), (0, x1), (0, x2), (0, x3), (0, x4), (0, (px_w (x5 + 1))), (0, x6), (0, x7), (0, x8), y9], [], (px_wr r1.2 (px_rd w x0 34) (r1.1).toNat (px_w ((px_rd r1.2 (px_rd w x0 34) (r1.1).toNat) + x6))))
            else none
          else none
        else none
      else none) := (px_Req mm_Mod_listen 68 [(2, x0), (0, x1), (0, x2), (0, x3), (0, x4), (0, x5), (0, x6), (0, x7), (0, x8), y9] [] w).trans rfl
set_option maxRecDepth 100000 in
theorem eq_Mod_right_1_0 (x0 x1 x2 x3 : Int) (w : pw) : px_R (mm_Mod_right_1, 0, [(2, x0), (0, x1), (0, x2), (0, x3), (9, 0), (9, 0)], [], w) =
    (if px_go w x0 9 = true then
      (px_R (mm_Mod_in, 0, [(0, x1), (0, (px_rd w x0 53)), (0, 999)], [], w)).bind fun r1 =>
        if r1.1 = 0 then
          some ((-2), r1.2)
        else
          if px_go r1.2 x0 9 = true then
            (px_R (mm_Mod_in, 0, [(0, x2), (0, 0), (0, (px_w ((px_rd r1.2 x0 51) - 1)))], [], r1.2)).bind fun r2 =>
              if r2.1 = 0 then
                some ((-2), r2.2)
              else
                if px_go r2.2 x0 9 = true then
                  (px_R (mm_Mod_is, 0, [(2, x0), (0, 2), (0, x3)], [], r2.2)).bind fun r3 =>
                  if r3.1 = 0 then
                    some ((-2), r3.2)
                  else
                    if px_go r3.2 x0 9 = true then
                      if (px_rd r3.2 x0 52) = 20 then
                        some ((-3), r3.2)
                      else
                        if px_go r3.2 x0 9 = true then
                          if px_go (px_wr r3.2 x0 53 x1) x0 9 = true then
                            if px_go (px_wr r3.2 x0 53 x1) x0 9 = true then
                              if px_ga (px_wr r3.2 x0 53 x1) 0 (px_rd (px_wr r3.2 x0 53 x1) x0 57) (px_rd (px_wr r3.2 x0 53 x1) x0 52) = true then
                                if px_go (px_wr (px_wr r3.2 x0 53 x1) (px_rd (px_wr r3.2 x0 53 x1) x0 57) ((px_rd (px_wr r3.2 x0 53 x1) x0 52)).toNat x1) x0 9 = true then
                                  if px_go (px_wr (px_wr r3.2 x0 53 x1) (px_rd (px_wr r3.2 x0 53 x1) x0 57) ((px_rd (px_wr r3.2 x0 53 x1) x0 52)).toNat x1) x0 9 = true then
                                    if px_ga (px_wr (px_wr r3.2 x0 53 x1) (px_rd (px_wr r3.2 x0 53 x1) x0 57) ((px_rd (px_wr r3.2 x0 53 x1) x0 52)).toNat x1) 0 (px_rd (px_wr (px_wr r3.2 x0 53 x1) (px_rd (px_wr r3.2 x0 53 x1) x0 57) ((px_rd (px_wr r3.2 x0 53 x1) x0 52)).toNat x1) x0 58) (px_rd (px_wr (px_wr r3.2 x0 53 x1) (px_rd (px_wr r3.2 x0 53 x1) x0 57) ((px_rd (px_wr r3.2 x0 53 x1) x0 52)).toNat x1) x0 52) = true then
                                      if px_go (px_wr (px_wr (px_wr r3.2 x0 53 x1) (px_rd (px_wr r3.2 x0 53 x1) x0 57) ((px_rd (px_wr r3.2 x0 53 x1) x0 52)).toNat x1) (px_rd (px_wr (px_wr r3.2 x0 53 x1) (px_rd (px_wr r3.2 x0 53 x1) x0 57) ((px_rd (px_wr r3.2 x0 53 x1) x0 52)).toNat x1) x0 58) ((px_rd (px_wr (px_wr r3.2 x0 53 x1) (px_rd (px_wr r3.2 x0 53 x1) x0 57) ((px_rd (px_wr r3.2 x0 53 x1) x0 52)).toNat x1) x0 52)).toNat x2) x0 9 = true then
                                        if px_go (px_wr (px_wr (px_wr r3.2 x0 53 x1) (px_rd (px_wr r3.2 x0 53 x1) x0 57) ((px_rd (px_wr r3.2 x0 53 x1) x0 52)).toNat x1) (px_rd (px_wr (px_wr r3.2 x0 53 x1) (px_rd (px_wr r3.2 x0 53 x1) x0 57) ((px_rd (px_wr r3.2 x0 53 x1) x0 52)).toNat x1) x0 58) ((px_rd (px_wr (px_wr r3.2 x0 53 x1) (px_rd (px_wr r3.2 x0 53 x1) x0 57) ((px_rd (px_wr r3.2 x0 53 x1) x0 52)).toNat x1) x0 52)).toNat x2) x0 9 = true then
                                          if px_ga (px_wr (px_wr (px_wr r3.2 x0 53 x1) (px_rd (px_wr r3.2 x0 53 x1) x0 57) ((px_rd (px_wr r3.2 x0 53 x1) x0 52)).toNat x1) (px_rd (px_wr (px_wr r3.2 x0 53 x1) (px_rd (px_wr r3.2 x0 53 x1) x0 57) ((px_rd (px_wr r3.2 x0 53 x1) x0 52)).toNat x1) x0 58) ((px_rd (px_wr (px_wr r3.2 x0 53 x1) (px_rd (px_wr r3.2 x0 53 x1) x0 57) ((px_rd (px_wr r3.2 x0 53 x1) x0 52)).toNat x1) x0 52)).toNat x2) 0 (px_rd (px_wr (px_wr (px_wr r3.2 x0 53 x1) (px_rd (px_wr r3.2 x0 53 x1) x0 57) ((px_rd (px_wr r3.2 x0 53 x1) x0 52)).toNat x1) (px_rd (px_wr (px_wr r3.2 x0 53 x1) (px_rd (px_wr r3.2 x0 53 x1) x0 57) ((px_rd (px_wr r3.2 x0 53 x1) x0 52)).toNat x1) x0 58) ((px_rd (px_wr (px_wr r3.2 x0 53 x1) (px_rd (px_wr r3.2 x0 53 x1) x0 57) ((px_rd (px_wr r3.2 x0 53 x1) x0 52)).toNat x1) x0 52)).toNat x2) x0 59) (px_rd (px_wr (px_wr (px_wr r3.2 x0 53 x1) (px_rd (px_wr r3.2 x0 53 x1) x0 57) ((px_rd (px_wr r3.2 x0 53 x1) x0 52)).toNat x1) (px_rd (px_wr (px_wr r3.2 x0 53 x1) (px_rd (px_wr r3.2 x0 53 x1) x0 57) ((px_rd (px_wr r3.2 x0 53 x1) x0 52)).toNat x1) x0 58) ((px_rd (px_wr (px_wr r3.2 x0 53 x1) (px_rd (px_wr r3.2 x0 53 x1) x0 57) ((px_rd (px_wr r3.2 x0 53 x1) x0 52)).toNat x1) x0 52)).toNat x2) x0 52) = true then
                                            px_R (mm_Mod_right_1, 87, [(2, x0), (0, x1), (0, x2), (0, x3), (9, 0), (9, 0)], [], (px_wr (px_wr (px_wr (px_wr r3.2 x0 53 x1) (px_rd (px_wr r3.2 x0 53 x1) x0 57) ((px_rd (px_wr r3.2 x0 53 x1) x0 52)).toNat x1) (px_rd (px_wr (px_wr r3.2 x0 53 x1) (px_rd (px_wr r3.2 x0 53 x1) x0 57) ((px_rd (px_wr r3.2 x0 53 x1) x0 52)).toNat x1) x0 58) ((px_rd (px_wr (px_wr r3.2 x0 53 x1) (px_rd (px_wr r3.2 x0 53 x1) x0 57) ((px_rd (px_wr r3.2 x0 53 x1) x0 52)).toNat x1) x0 52)).toNat x2) (px_rd (px_wr (px_wr (px_wr r3.2 x0 53 x1) (px_rd (px_wr r3.2 x0 53 x1) x0 57) ((px_rd (px_wr r3.2 x0 53 x1) x0 52)).toNat x1) (px_rd (px_wr (px_wr r3.2 x0 53 x1) (px_rd (px_wr r3.2 x0 53 x1) x0 57) ((px_rd (px_wr r3.2 x0 53 x1) x0 52)).toNat x1) x0 58) ((px_rd (px_wr (px_wr r3.2 x0 53 x1) (px_rd (px_wr r3.2 x0 53 x1) x0 57) ((px_rd (px_wr r3.2 x0 53 x1) x0 52)).toNat x1) x0 52)).toNat x2) x0 59) ((px_rd (px_wr (px_wr (px_wr r3.2 x0 53 x1) (px_rd (px_wr r3.2 x0 53 x1) x0 57) ((px_rd (px_wr r3.2 x0 53 x1) x0 52)).toNat x1) (px_rd (px_wr (px_wr r3.2 x0 53 x1) (px_rd (px_wr r3.2 x0 53 x1) x0 57) ((px_rd (px_wr r3.2 x0 53 x1) x0 52)).toNat x1) x0 58) ((px_rd (px_wr (px_wr r3.2 x0 53 x1) (px_rd (px_wr r3.2 x0 53 x1) x0 57) ((px_rd (px_wr r3.2 x0 53 x1) x0 52)).toNat x1) x0 52)).toNat x2) x0 52)).toNat x3))
                                          else none
                                        else none
                                      else none
                                    else none
                                  else none
                                else none
                              else none
                            else none
                          else none
                        else none
                    else none
                else none
          else none
    else none) := (px_Req mm_Mod_right_1 0 [(2, x0), (0, x1), (0, x2), (0, x3), (9, 0), (9, 0)] [] w).trans rfl
set_option maxRecDepth 100000 in
theorem eq_Mod_right_1_87 (x0 x1 x2 x3 : Int) (w : pw) : px_R (mm_Mod_right_1, 87, [(2, x0), (0, x1), (0, x2), (0, x3), (9, 0), (9, 0)], [], w) =
    (if px_go w x0 9 = true then
      if px_go w x0 9 = true then
        px_R (mm_Mod_right_1, 103, [(2, x0), (0, x1), (0, x2), (0, x3), (0, 0), (0, 0)], [], (px_wr w x0 52 (px_w ((px_rd w x0 52) + 1))))
      else none
    else none) := (px_Req mm_Mod_right_1 87 [(2, x0), (0, x1), (0, x2), (0, x3), (9, 0), (9, 0)] [] w).trans rfl
set_option maxRecDepth 100000 in
theorem eq_Mod_right_1_103 (x0 x1 x2 x3 x4 x5 : Int) (w : pw) : px_R (mm_Mod_right_1, 103, [(2, x0), (0, x1), (0, x2), (0, x3), (0, x4), (0, x5)], [], w) =
    (if px_go w x0 9 = true then
      if x5 < (px_rd w x0 52) then
        if px_go w x0 9 = true then
          if px_ga w 0 (px_rd w x0 58) x5 = true then
            if (px_rd w (px_rd w x0 58) (x5).toNat) = x2 then
              px_R (mm_Mod_right_1, 103, [(2, x0), (0, x1), (0, x2), (0, x3), (0, (px_w (x4 + 1))), (0, (px_w (x5 + 1)))], [], w)
            else
              px_R (mm_Mod_right_1, 103, [(2, x0), (0, x1), (0, x2), (0, x3), (0, (px_w (x4 + 0))), (0, (px_w (x5 + 1)))], [], w)
          else none
        else none
      else
        some (x4, w)
    else none) := (px_Req mm_Mod_right_1 103 [(2, x0), (0, x1), (0, x2), (0, x3), (0, x4), (0, x5)] [] w).trans rfl
set_option maxRecDepth 100000 in
theorem eq_Mod_stretch_0 (x0 x1 : Int) (w : pw) : px_R (mm_Mod_stretch, 0, [(2, x0), (0, x1)], [], w) =
    ((px_R (mm_Mod_in, 0, [(0, x1), (0, 2), (0, 40)], [], w)).bind fun r1 =>
      if r1.1 = 0 then
        some ((-2), r1.2)
      else
        if px_go r1.2 x0 9 = true then
          (px_R (mm_Mod_newStretch, 0, [(2, x0), (0, x1), (9, 0)], [], r1.2)).bind fun r2 =>
          some (x1, r2.2)
        else none) := (px_Req mm_Mod_stretch 0 [(2, x0), (0, x1)] [] w).trans rfl
set_option maxRecDepth 100000 in
theorem eq_Mod_take_0 (x0 x1 : Int) (w : pw) : px_R (mm_Mod_take, 0, [(2, x0), (0, x1), (9, 0)], [], w) =
    ((px_R (mm_Mod_isSlot, 0, [(0, x1)], [], w)).bind fun r1 =>
      if r1.1 = 0 then
        some ((-2), r1.2)
      else
        if px_go r1.2 x0 9 = true then
          if (px_ga r1.2 2 (px_rd r1.2 x0 37) x1 || px_ga r1.2 3 (px_rd r1.2 x0 37) x1) = true then
            if (px_rd r1.2 (px_rd r1.2 x0 37) (x1).toNat) = 0 then
              some ((-4), r1.2)
            else
              px_R (mm_Mod_take, 24, [(2, x0), (0, x1), (0, 0)], [], r1.2)
          else none
        else none) := (px_Req mm_Mod_take 0 [(2, x0), (0, x1), (9, 0)] [] w).trans rfl
set_option maxRecDepth 100000 in
theorem eq_Mod_take_24 (x0 x1 x2 : Int) (w : pw) : px_R (mm_Mod_take, 24, [(2, x0), (0, x1), (0, x2)], [], w) =
    (if x2 < 162 then
      if px_go w x0 9 = true then
        if px_go w x0 9 = true then
          if px_ga w 0 (px_rd w x0 35) (px_w ((px_w (162 * (px_w (x1 + 1)))) + x2)) = true then
            if px_ga w 0 (px_rd w x0 35) x2 = true then
              px_R (mm_Mod_take, 24, [(2, x0), (0, x1), (0, (px_w (x2 + 1)))], [], (px_wr w (px_rd w x0 35) (x2).toNat (px_rd w (px_rd w x0 35) ((px_w ((px_w (162 * (px_w (x1 + 1)))) + x2))).toNat)))
            else none
          else none
        else none
      else none
    else
      px_R (mm_Mod_take, 59, [(2, x0), (0, x1), (0, 0)], [], w)) := (px_Req mm_Mod_take 24 [(2, x0), (0, x1), (0, x2)] [] w).trans rfl
set_option maxRecDepth 100000 in
theorem eq_Mod_take_59 (x0 x1 x2 : Int) (w : pw) : px_R (mm_Mod_take, 59, [(2, x0), (0, x1), (0, x2)], [], w) =
    (if x2 < 2 then
      if px_go w x0 9 = true then
        if px_go w x0 9 = true then
          if px_ga w 1 (px_rd w x0 36) (px_w ((px_w (2 * (px_w (x1 + 1)))) + x2)) = true then
            if px_ga w 1 (px_rd w x0 36) x2 = true then
              px_R (mm_Mod_take, 59, [(2, x0), (0, x1), (0, (px_w (x2 + 1)))], [], (px_wr w (px_rd w x0 36) (x2).toNat (px_rd w (px_rd w x0 36) ((px_w ((px_w (2 * (px_w (x1 + 1)))) + x2))).toNat)))
            else none
          else none
        else none
      else none
    else
      if px_go w x0 9 = true then
        if px_ga w 0 (px_rd w x0 35) 1 = true then
          some ((px_rd w (px_rd w x0 35) 1), w)
        else none
      else none) := (px_Req mm_Mod_take 59 [(2, x0), (0, x1), (0, x2)] [] w).trans rfl
set_option maxRecDepth 100000 in
theorem eq_Mod_tapRow_0 (x0 x1 x2 : Int) (w : pw) : px_R (mm_Mod_tapRow, 0, [(2, x0), (0, x1), (0, x2)], [], w) =
    ((px_R (mm_Mod_in, 0, [(0, x1), (0, 0), (0, 99)], [], w)).bind fun r1 =>
      if r1.1 = 0 then
        some ((-2), r1.2)
      else
        (px_R (mm_Mod_in, 0, [(0, x2), (0, 0), (0, 2)], [], r1.2)).bind fun r2 =>
          if r2.1 = 0 then
            some ((-2), r2.2)
          else
            if px_go r2.2 x0 9 = true then
              (px_R (mm_Mod_findTaps, 0, [(2, x0), (0, x1), (9, 0), (9, 0), (9, 0), (9, 0)], [], r2.2)).bind fun r3 =>
              if x2 = 0 then
                if px_go r3.2 x0 9 = true then
                  some ((px_rd r3.2 x0 47), r3.2)
                else none
              else
                if x2 = 1 then
                  if px_go r3.2 x0 9 = true then
                    some ((px_rd r3.2 x0 48), r3.2)
                  else none
                else
                  if px_go r3.2 x0 9 = true then
                    some ((px_rd r3.2 x0 49), r3.2)
                  else none
            else none) := (px_Req mm_Mod_tapRow 0 [(2, x0), (0, x1), (0, x2)] [] w).trans rfl
set_option maxRecDepth 100000 in
theorem eq_Mod_tick_0 (x0 x1 : Int) (w : pw) : px_R (mm_Mod_tick, 0, [(2, x0), (0, x1), (9, 0)], [], w) =
    ((px_R (mm_Mod_in, 0, [(0, x1), (0, 0), (0, 400)], [], w)).bind fun r1 =>
      if r1.1 = 0 then
        some ((-2), r1.2)
      else
        px_R (mm_Mod_tick, 16, [(2, x0), (0, x1), (0, 0)], [], r1.2)) := (px_Req mm_Mod_tick 0 [(2, x0), (0, x1), (9, 0)] [] w).trans rfl
set_option maxRecDepth 100000 in
theorem eq_Mod_tick_16 (x0 x1 x2 : Int) (w : pw) : px_R (mm_Mod_tick, 16, [(2, x0), (0, x1), (0, x2)], [], w) =
    (if x2 < x1 then
      if px_go w x0 9 = true then
        (px_R (mm_Mod_tickOnce, 0, [(2, x0), (9, 0), (9, 0), (9, 0), (9, 0), (9, 0), (9, 0)], [], w)).bind fun r2 =>
        px_R (mm_Mod_tick, 16, [(2, x0), (0, x1), (0, (px_w (x2 + 1)))], [], r2.2)
      else none
    else
      if px_go w x0 9 = true then
        if px_ga w 0 (px_rd w x0 35) 1 = true then
          some ((px_rd w (px_rd w x0 35) 1), w)
        else none
      else none) := (px_Req mm_Mod_tick 16 [(2, x0), (0, x1), (0, x2)] [] w).trans rfl
set_option maxRecDepth 100000 in
theorem eq_Mod_told_0 (x0 x1 : Int) (w : pw) : px_R (mm_Mod_told, 0, [(2, x0), (0, x1)], [], w) =
    ((px_R (mm_Mod_in, 0, [(0, x1), (0, 0), (0, 8)], [], w)).bind fun r1 =>
      if r1.1 = 0 then
        if px_go r1.2 x0 9 = true then
          (px_R (mm_Mod_is, 0, [(2, x0), (0, 0), (0, (px_w (x1 - 10)))], [], r1.2)).bind fun r2 =>
          if r2.1 = 0 then
            if px_go r2.2 x0 9 = true then
              (px_R (mm_Mod_is, 0, [(2, x0), (0, 5), (0, (px_w (x1 - 20)))], [], r2.2)).bind fun r3 =>
              if r3.1 = 0 then
                some ((-1), r3.2)
              else
                if px_go r3.2 x0 9 = true then
                  if px_ga r3.2 0 (px_rd r3.2 x0 21) (px_w (5 * (px_w (x1 - 20)))) = true then
                    some ((px_rd r3.2 (px_rd r3.2 x0 21) ((px_w (5 * (px_w (x1 - 20))))).toNat), r3.2)
                  else none
                else none
            else none
          else
            if px_go r2.2 x0 9 = true then
              if px_ga r2.2 0 (px_rd r2.2 x0 14) (px_w (5 * (px_w (x1 - 10)))) = true then
                some ((px_rd r2.2 (px_rd r2.2 x0 14) ((px_w (5 * (px_w (x1 - 10))))).toNat), r2.2)
              else none
            else none
        else none
      else
        if px_go r1.2 x0 9 = true then
          if px_ga r1.2 0 (px_rd r1.2 x0 12) x1 = true then
            some ((px_rd r1.2 (px_rd r1.2 x0 12) (x1).toNat), r1.2)
          else none
        else none) := (px_Req mm_Mod_told 0 [(2, x0), (0, x1)] [] w).trans rfl
set_option maxRecDepth 100000 in
theorem eq_Mod_write_0 (x0 x1 x2 x3 : Int) (w : pw) : px_R (mm_Mod_write, 0, [(2, x0), (0, x1), (0, x2), (0, x3)], [], w) =
    (if px_go w x0 9 = true then
      (px_R (mm_Mod_in, 0, [(0, x1), (0, (px_rd w x0 53)), (0, 999)], [], w)).bind fun r1 =>
        if r1.1 = 0 then
          some ((-2), r1.2)
        else
          if px_go r1.2 x0 9 = true then
            (px_R (mm_Mod_is, 0, [(2, x0), (0, 2), (0, x2)], [], r1.2)).bind fun r2 =>
            if r2.1 = 0 then
              some ((-2), r2.2)
            else
              if px_go r2.2 x0 9 = true then
                (px_R (mm_Mod_is, 0, [(2, x0), (0, 2), (0, x3)], [], r2.2)).bind fun r3 =>
                if r3.1 = 0 then
                  some ((-2), r3.2)
                else
                  if px_go r3.2 x0 9 = true then
                    if (px_rd r3.2 x0 51) = 20 then
                      some ((-3), r3.2)
                    else
                      if px_go r3.2 x0 9 = true then
                        if px_go (px_wr r3.2 x0 53 x1) x0 9 = true then
                          if px_go (px_wr r3.2 x0 53 x1) x0 9 = true then
                            if px_ga (px_wr r3.2 x0 53 x1) 0 (px_rd (px_wr r3.2 x0 53 x1) x0 54) (px_rd (px_wr r3.2 x0 53 x1) x0 51) = true then
                              if px_go (px_wr (px_wr r3.2 x0 53 x1) (px_rd (px_wr r3.2 x0 53 x1) x0 54) ((px_rd (px_wr r3.2 x0 53 x1) x0 51)).toNat x1) x0 9 = true then
                                if px_go (px_wr (px_wr r3.2 x0 53 x1) (px_rd (px_wr r3.2 x0 53 x1) x0 54) ((px_rd (px_wr r3.2 x0 53 x1) x0 51)).toNat x1) x0 9 = true then
                                  if px_ga (px_wr (px_wr r3.2 x0 53 x1) (px_rd (px_wr r3.2 x0 53 x1) x0 54) ((px_rd (px_wr r3.2 x0 53 x1) x0 51)).toNat x1) 0 (px_rd (px_wr (px_wr r3.2 x0 53 x1) (px_rd (px_wr r3.2 x0 53 x1) x0 54) ((px_rd (px_wr r3.2 x0 53 x1) x0 51)).toNat x1) x0 55) (px_rd (px_wr (px_wr r3.2 x0 53 x1) (px_rd (px_wr r3.2 x0 53 x1) x0 54) ((px_rd (px_wr r3.2 x0 53 x1) x0 51)).toNat x1) x0 51) = true then
                                    if px_go (px_wr (px_wr (px_wr r3.2 x0 53 x1) (px_rd (px_wr r3.2 x0 53 x1) x0 54) ((px_rd (px_wr r3.2 x0 53 x1) x0 51)).toNat x1) (px_rd (px_wr (px_wr r3.2 x0 53 x1) (px_rd (px_wr r3.2 x0 53 x1) x0 54) ((px_rd (px_wr r3.2 x0 53 x1) x0 51)).toNat x1) x0 55) ((px_rd (px_wr (px_wr r3.2 x0 53 x1) (px_rd (px_wr r3.2 x0 53 x1) x0 54) ((px_rd (px_wr r3.2 x0 53 x1) x0 51)).toNat x1) x0 51)).toNat x2) x0 9 = true then
                                      if px_go (px_wr (px_wr (px_wr r3.2 x0 53 x1) (px_rd (px_wr r3.2 x0 53 x1) x0 54) ((px_rd (px_wr r3.2 x0 53 x1) x0 51)).toNat x1) (px_rd (px_wr (px_wr r3.2 x0 53 x1) (px_rd (px_wr r3.2 x0 53 x1) x0 54) ((px_rd (px_wr r3.2 x0 53 x1) x0 51)).toNat x1) x0 55) ((px_rd (px_wr (px_wr r3.2 x0 53 x1) (px_rd (px_wr r3.2 x0 53 x1) x0 54) ((px_rd (px_wr r3.2 x0 53 x1) x0 51)).toNat x1) x0 51)).toNat x2) x0 9 = true then
                                        if px_ga (px_wr (px_wr (px_wr r3.2 x0 53 x1) (px_rd (px_wr r3.2 x0 53 x1) x0 54) ((px_rd (px_wr r3.2 x0 53 x1) x0 51)).toNat x1) (px_rd (px_wr (px_wr r3.2 x0 53 x1) (px_rd (px_wr r3.2 x0 53 x1) x0 54) ((px_rd (px_wr r3.2 x0 53 x1) x0 51)).toNat x1) x0 55) ((px_rd (px_wr (px_wr r3.2 x0 53 x1) (px_rd (px_wr r3.2 x0 53 x1) x0 54) ((px_rd (px_wr r3.2 x0 53 x1) x0 51)).toNat x1) x0 51)).toNat x2) 0 (px_rd (px_wr (px_wr (px_wr r3.2 x0 53 x1) (px_rd (px_wr r3.2 x0 53 x1) x0 54) ((px_rd (px_wr r3.2 x0 53 x1) x0 51)).toNat x1) (px_rd (px_wr (px_wr r3.2 x0 53 x1) (px_rd (px_wr r3.2 x0 53 x1) x0 54) ((px_rd (px_wr r3.2 x0 53 x1) x0 51)).toNat x1) x0 55) ((px_rd (px_wr (px_wr r3.2 x0 53 x1) (px_rd (px_wr r3.2 x0 53 x1) x0 54) ((px_rd (px_wr r3.2 x0 53 x1) x0 51)).toNat x1) x0 51)).toNat x2) x0 56) (px_rd (px_wr (px_wr (px_wr r3.2 x0 53 x1) (px_rd (px_wr r3.2 x0 53 x1) x0 54) ((px_rd (px_wr r3.2 x0 53 x1) x0 51)).toNat x1) (px_rd (px_wr (px_wr r3.2 x0 53 x1) (px_rd (px_wr r3.2 x0 53 x1) x0 54) ((px_rd (px_wr r3.2 x0 53 x1) x0 51)).toNat x1) x0 55) ((px_rd (px_wr (px_wr r3.2 x0 53 x1) (px_rd (px_wr r3.2 x0 53 x1) x0 54) ((px_rd (px_wr r3.2 x0 53 x1) x0 51)).toNat x1) x0 51)).toNat x2) x0 51) = true then
                                          px_R (mm_Mod_write, 82, [(2, x0), (0, x1), (0, x2), (0, x3)], [], (px_wr (px_wr (px_wr (px_wr r3.2 x0 53 x1) (px_rd (px_wr r3.2 x0 53 x1) x0 54) ((px_rd (px_wr r3.2 x0 53 x1) x0 51)).toNat x1) (px_rd (px_wr (px_wr r3.2 x0 53 x1) (px_rd (px_wr r3.2 x0 53 x1) x0 54) ((px_rd (px_wr r3.2 x0 53 x1) x0 51)).toNat x1) x0 55) ((px_rd (px_wr (px_wr r3.2 x0 53 x1) (px_rd (px_wr r3.2 x0 53 x1) x0 54) ((px_rd (px_wr r3.2 x0 53 x1) x0 51)).toNat x1) x0 51)).toNat x2) (px_rd (px_wr (px_wr (px_wr r3.2 x0 53 x1) (px_rd (px_wr r3.2 x0 53 x1) x0 54) ((px_rd (px_wr r3.2 x0 53 x1) x0 51)).toNat x1) (px_rd (px_wr (px_wr r3.2 x0 53 x1) (px_rd (px_wr r3.2 x0 53 x1) x0 54) ((px_rd (px_wr r3.2 x0 53 x1) x0 51)).toNat x1) x0 55) ((px_rd (px_wr (px_wr r3.2 x0 53 x1) (px_rd (px_wr r3.2 x0 53 x1) x0 54) ((px_rd (px_wr r3.2 x0 53 x1) x0 51)).toNat x1) x0 51)).toNat x2) x0 56) ((px_rd (px_wr (px_wr (px_wr r3.2 x0 53 x1) (px_rd (px_wr r3.2 x0 53 x1) x0 54) ((px_rd (px_wr r3.2 x0 53 x1) x0 51)).toNat x1) (px_rd (px_wr (px_wr r3.2 x0 53 x1) (px_rd (px_wr r3.2 x0 53 x1) x0 54) ((px_rd (px_wr r3.2 x0 53 x1) x0 51)).toNat x1) x0 55) ((px_rd (px_wr (px_wr r3.2 x0 53 x1) (px_rd (px_wr r3.2 x0 53 x1) x0 54) ((px_rd (px_wr r3.2 x0 53 x1) x0 51)).toNat x1) x0 51)).toNat x2) x0 51)).toNat x3))
                                        else none
                                      else none
                                    else none
                                  else none
                                else none
                              else none
                            else none
                          else none
                        else none
                      else none
                  else none
              else none
          else none
    else none) := (px_Req mm_Mod_write 0 [(2, x0), (0, x1), (0, x2), (0, x3)] [] w).trans rfl
set_option maxRecDepth 100000 in
theorem eq_Mod_write_82 (x0 x1 x2 x3 : Int) (w : pw) : px_R (mm_Mod_write, 82, [(2, x0), (0, x1), (0, x2), (0, x3)], [], w) =
    (if px_go w x0 9 = true then
      if px_go w x0 9 = true then
        if px_go (px_wr w x0 51 (px_w ((px_rd w x0 51) + 1))) x0 9 = true then
          some ((px_w ((px_rd (px_wr w x0 51 (px_w ((px_rd w x0 51) + 1))) x0 51) - 1)), (px_wr w x0 51 (px_w ((px_rd w x0 51) + 1))))
        else none
      else none
    else none) := (px_Req mm_Mod_write 82 [(2, x0), (0, x1), (0, x2), (0, x3)] [] w).trans rfl
set_option maxRecDepth 100000 in
theorem eq_Taps_bits_0 (x0 : Int) (w : pw) : px_R (mm_Taps_bits, 0, [(0, x0), (9, 0), (9, 0), (9, 0), (9, 0)], [], w) =
    ((px_R (mm_Taps_beats, 0, [(0, x0), (9, 0), (9, 0)], [], w)).bind fun r1 =>
      (px_R (mm_Taps_place, 0, [(0, x0), (9, 0), (9, 0)], [], r1.2)).bind fun r2 =>
        px_R (mm_Taps_bits, 12, [(0, x0), (0, r1.1), (0, r2.1), (0, 0), (9, 0)], [], r2.2)) := (px_Req mm_Taps_bits 0 [(0, x0), (9, 0), (9, 0), (9, 0), (9, 0)] [] w).trans rfl
set_option maxRecDepth 100000 in
theorem eq_Taps_bits_12 (x0 x1 x2 x3 : Int) (y4 : pv) (w : pw) : px_R (mm_Taps_bits, 12, [(0, x0), (0, x1), (0, x2), (0, x3), y4], [], w) =
    (if 0 < x1 then
      if px_gl (px_sar 3) (px_w (x1 - 1)) = true then
        if x2 < (px_lst (px_sar 3) ((px_w (x1 - 1))).toNat) then
          px_R (mm_Taps_bits, 32, [(0, x0), (0, x1), (0, x2), (0, x3), y4], [(0, 0)], w)
        else
          px_R (mm_Taps_bits, 32, [(0, x0), (0, x1), (0, x2), (0, x3), y4], [(0, 1)], w)
      else none
    else
      some (x3, w)) := (px_Req mm_Taps_bits 12 [(0, x0), (0, x1), (0, x2), (0, x3), y4] [] w).trans rfl
set_option maxRecDepth 100000 in
theorem eq_Taps_bits_32 (x0 x1 x2 x3 s0 : Int) (y4 : pv) (w : pw) : px_R (mm_Taps_bits, 32, [(0, x0), (0, x1), (0, x2), (0, x3), y4], [(0, s0)], w) =
    (if s0 = 0 then
      if s0 = 0 then
        px_R (mm_Taps_bits, 62, [(0, x0), (0, x1), (0, x2), (0, x3), (0, s0)], [(0, 0), (0, (px_w (x3 * 2)))], w)
      else
        px_R (mm_Taps_bits, 62, [(0, x0), (0, x1), (0, x2), (0, x3), (0, s0)], [(0, 1), (0, (px_w (x3 * 2)))], w)
    else
      if px_gl (px_sar 3) (px_w (x1 - 1)) = true then
        if s0 = 0 then
          px_R (mm_Taps_bits, 62, [(0, x0), (0, x1), (0, (px_w (x2 - (px_lst (px_sar 3) ((px_w (x1 - 1))).toNat)))), (0, x3), (0, s0)], [(0, 0), (0, (px_w (x3 * 2)))], w)
        else
          px_R (mm_Taps_bits, 62, [(0, x0), (0, x1), (0, (px_w (x2 - (px_lst (px_sar 3) ((px_w (x1 - 1))).toNat)))), (0, x3), (0, s0)], [(0, 1), (0, (px_w (x3 * 2)))], w)
      else none) := (px_Req mm_Taps_bits 32 [(0, x0), (0, x1), (0, x2), (0, x3), y4] [(0, s0)] w).trans rfl
set_option maxRecDepth 100000 in
theorem eq_Taps_bits_62 (x0 x1 x2 x3 x4 s0 s1 : Int) (w : pw) : px_R (mm_Taps_bits, 62, [(0, x0), (0, x1), (0, x2), (0, x3), (0, x4)], [(0, s1), (0, s0)], w) =
    (if x4 = 0 then
      px_R (mm_Taps_bits, 12, [(0, x0), (0, (px_w (x1 - 1))), (0, x2), (0, (px_w (s0 + s1))), (0, x4)], [], w)
    else
      px_R (mm_Taps_bits, 12, [(0, x0), (0, (px_w (x1 - 2))), (0, x2), (0, (px_w (s0 + s1))), (0, x4)], [], w)) := (px_Req mm_Taps_bits 62 [(0, x0), (0, x1), (0, x2), (0, x3), (0, x4)] [(0, s1), (0, s0)] w).trans rfl
set_option maxRecDepth 100000 in
theorem eq_Taps_together_0 (x0 x1 : Int) (w : pw) : px_R (mm_Taps_together, 0, [(2, x0), (0, x1), (9, 0), (9, 0), (9, 0), (9, 0)], [], w) =
    (px_R (mm_Taps_together, 4, [(2, x0), (0, x1), (0, 0), (0, 0), (9, 0), (9, 0)], [], w)) := (px_Req mm_Taps_together 0 [(2, x0), (0, x1), (9, 0), (9, 0), (9, 0), (9, 0)] [] w).trans rfl
set_option maxRecDepth 100000 in
theorem eq_Taps_together_4 (x0 x1 x2 x3 : Int) (y4 y5 : pv) (w : pw) : px_R (mm_Taps_together, 4, [(2, x0), (0, x1), (0, x2), (0, x3), y4, y5], [], w) =
    (if x3 < x1 then
      px_R (mm_Taps_together, 14, [(2, x0), (0, x1), (0, x2), (0, x3), (0, (px_w (x3 + 1))), y5], [], w)
    else
      some (x2, w)) := (px_Req mm_Taps_together 4 [(2, x0), (0, x1), (0, x2), (0, x3), y4, y5] [] w).trans rfl
set_option maxRecDepth 100000 in
theorem eq_Taps_together_14 (x0 x1 x2 x3 x4 : Int) (y5 : pv) (w : pw) : px_R (mm_Taps_together, 14, [(2, x0), (0, x1), (0, x2), (0, x3), (0, x4), y5], [], w) =
    (if x4 < x1 then
      if px_ga w 0 x0 x4 = true then
        if px_ga w 0 x0 x3 = true then
          if (px_rd w x0 (x3).toNat) < (px_rd w x0 (x4).toNat) then
            if px_ga w 0 x0 x3 = true then
              if px_ga w 0 x0 x4 = true then
                if px_ga w 0 x0 x3 = true then
                  if px_ga (px_wr w x0 (x3).toNat (px_rd w x0 (x4).toNat)) 0 x0 x4 = true then
                    px_R (mm_Taps_together, 14, [(2, x0), (0, x1), (0, x2), (0, x3), (0, (px_w (x4 + 1))), (0, (px_rd w x0 (x3).toNat))], [], (px_wr (px_wr w x0 (x3).toNat (px_rd w x0 (x4).toNat)) x0 (x4).toNat (px_rd w x0 (x3).toNat)))
                  else none
                else none
              else none
            else none
          else
            px_R (mm_Taps_together, 14, [(2, x0), (0, x1), (0, x2), (0, x3), (0, (px_w (x4 + 1))), y5], [], w)
        else none
      else none
    else
      if px_ga w 0 x0 x3 = true then
        (px_R (mm_Taps_lasts, 0, [(0, x3)], [], w)).bind fun r1 =>
          px_R (mm_Taps_together, 4, [(2, x0), (0, x1), (0, (px_w (x2 + (px_w ((px_rd w x0 (x3).toNat) * r1.1))))), (0, (px_w (x3 + 1))), (0, x4), y5], [], r1.2)
      else none) := (px_Req mm_Taps_together 14 [(2, x0), (0, x1), (0, x2), (0, x3), (0, x4), y5] [] w).trans rfl
set_option maxRecDepth 100000 in
theorem eq_Ear_begin_0 (x0 x1 x2 : Int) (w : pw) : px_R (mm_Ear_begin, 0, [(2, x0), (2, x1), (2, x2), (9, 0), (9, 0), (9, 0)], [], w) =
    (if px_go w x1 5 = true then
      if px_ga w 0 (px_rd w x1 1) 2 = true then
        if px_go w x0 1 = true then
          if px_go (px_wr w x0 0 (px_rd w (px_rd w x1 1) 2)) x1 5 = true then
            (px_R (mm_Str_number, 0, [(2, x1), (0, 8), (0, 0), (0, 0)], [], (px_wr w x0 0 (px_rd w (px_rd w x1 1) 2)))).bind fun r1 =>
            if px_go r1.2 x0 1 = true then
              if px_go (px_wr r1.2 x0 1 r1.1) x2 2 = true then
                (px_R (mm_Line_handsOn, 0, [(2, x2), (2, x1), (9, 0)], [], (px_wr r1.2 x0 1 r1.1))).bind fun r2 =>
                px_R (mm_Ear_begin, 31, [(2, x0), (2, x1), (2, x2), (0, r2.1), (0, 0), (9, 0)], [], r2.2)
              else none
            else none
          else none
        else none
      else none
    else none) := (px_Req mm_Ear_begin 0 [(2, x0), (2, x1), (2, x2), (9, 0), (9, 0), (9, 0)] [] w).trans rfl
set_option maxRecDepth 100000 in
theorem eq_Ear_begin_31 (x0 x1 x2 x3 x4 : Int) (y5 : pv) (w : pw) : px_R (mm_Ear_begin, 31, [(2, x0), (2, x1), (2, x2), (0, x3), (0, x4), y5], [], w) =
    (if px_go w x0 1 = true then
      if x4 < (px_rd w x0 0) then
        px_R (mm_Ear_begin, 43, [(2, x0), (2, x1), (2, x2), (0, x3), (0, x4), (0, 0)], [], w)
      else
        some (0, w)
    else none) := (px_Req mm_Ear_begin 31 [(2, x0), (2, x1), (2, x2), (0, x3), (0, x4), y5] [] w).trans rfl
set_option maxRecDepth 100000 in
theorem eq_Ear_begin_43 (x0 x1 x2 x3 x4 x5 : Int) (w : pw) : px_R (mm_Ear_begin, 43, [(2, x0), (2, x1), (2, x2), (0, x3), (0, x4), (0, x5)], [], w) =
    (if x5 < 4 then
      if px_go w x0 1 = true then
        if (px_ga w 4 (px_rd w x0 3) x4 || (px_ga w 5 (px_rd w x0 3) x4 || px_ga w 6 (px_rd w x0 3) x4)) = true then
          if px_go w x1 5 = true then
            (px_R (mm_Str_ofBand, 0, [(2, x1), (0, 2), (0, x4), (0, x5), (9, 0)], [], w)).bind fun r3 =>
            if px_go r3.2 x2 2 = true then
              (px_R (mm_Line_enters, 0, [(2, x2), (2, x1), (0, x3), (0, r3.1), (0, x5), (9, 0)], [], r3.2)).bind fun r4 =>
              if px_ga r4.2 0 (px_rd w (px_rd w x0 3) (x4).toNat) x5 = true then
                px_R (mm_Ear_begin, 43, [(2, x0), (2, x1), (2, x2), (0, x3), (0, x4), (0, (px_w (x5 + 1)))], [], (px_wr r4.2 (px_rd w (px_rd w x0 3) (x4).toNat) (x5).toNat r4.1))
              else none
            else none
          else none
        else none
      else none
    else
      px_R (mm_Ear_begin, 31, [(2, x0), (2, x1), (2, x2), (0, x3), (0, (px_w (x4 + 1))), (0, x5)], [], w)) := (px_Req mm_Ear_begin 43 [(2, x0), (2, x1), (2, x2), (0, x3), (0, x4), (0, x5)] [] w).trans rfl
set_option maxRecDepth 100000 in
theorem eq_Ear_goOn_0 (x0 x1 x2 x3 : Int) (w : pw) : px_R (mm_Ear_goOn, 0, [(2, x0), (2, x1), (2, x2), (0, x3), (9, 0), (9, 0), (9, 0), (9, 0)], [], w) =
    (px_R (mm_Ear_goOn, 6, [(2, x0), (2, x1), (2, x2), (0, x3), (0, 0), (0, 0), (9, 0), (9, 0)], [], w)) := (px_Req mm_Ear_goOn 0 [(2, x0), (2, x1), (2, x2), (0, x3), (9, 0), (9, 0), (9, 0), (9, 0)] [] w).trans rfl
set_option maxRecDepth 100000 in
theorem eq_Ear_goOn_6 (x0 x1 x2 x3 x4 x5 : Int) (y6 y7 : pv) (w : pw) : px_R (mm_Ear_goOn, 6, [(2, x0), (2, x1), (2, x2), (0, x3), (0, x4), (0, x5), y6, y7], [], w) =
    (if px_go w x0 1 = true then
      if x5 < (px_rd w x0 0) then
        px_R (mm_Ear_goOn, 18, [(2, x0), (2, x1), (2, x2), (0, x3), (0, x4), (0, x5), (0, 0), y7], [], w)
      else
        if (decide (0 ≤ x4) && decide (x4 < 2)) = true then some (x4, w) else none
    else none) := (px_Req mm_Ear_goOn 6 [(2, x0), (2, x1), (2, x2), (0, x3), (0, x4), (0, x5), y6, y7] [] w).trans rfl
set_option maxRecDepth 100000 in
theorem eq_Ear_goOn_18 (x0 x1 x2 x3 x4 x5 x6 : Int) (y7 : pv) (w : pw) : px_R (mm_Ear_goOn, 18, [(2, x0), (2, x1), (2, x2), (0, x3), (0, x4), (0, x5), (0, x6), y7], [], w) =
    (if x6 < 4 then
      if px_go w x0 1 = true then
        if (px_ga w 4 (px_rd w x0 3) x5 || (px_ga w 5 (px_rd w x0 3) x5 || px_ga w 6 (px_rd w x0 3) x5)) = true then
          if px_go w x0 1 = true then
            if (px_ga w 4 (px_rd w x0 3) x5 || (px_ga w 5 (px_rd w x0 3) x5 || px_ga w 6 (px_rd w x0 3) x5)) = true then
              if px_ga w 0 (px_rd w (px_rd w x0 3) (x5).toNat) x6 = true then
                if px_go w x2 2 = true then
                  (px_R (mm_Line_overYards, 0, [(2, x2), (2, x1), (0, (px_rd w (px_rd w (px_rd w x0 3) (x5).toNat) (x6).toNat)), (0, x6), (0, x3), (9, 0), (9, 0), (9, 0)], [], w)).bind fun r1 =>
                  if px_ga r1.2 0 (px_rd w (px_rd w x0 3) (x5).toNat) x6 = true then
                    if px_go (px_wr r1.2 (px_rd w (px_rd w x0 3) (x5).toNat) (x6).toNat r1.1) x0 1 = true then
                      if (px_ga (px_wr r1.2 (px_rd w (px_rd w x0 3) (x5).toNat) (x6).toNat r1.1) 4 (px_rd (px_wr r1.2 (px_rd w (px_rd w x0 3) (x5).toNat) (x6).toNat r1.1) x0 3) x5 || (px_ga (px_wr r1.2 (px_rd w (px_rd w x0 3) (x5).toNat) (x6).toNat r1.1) 5 (px_rd (px_wr r1.2 (px_rd w (px_rd w x0 3) (x5).toNat) (x6).toNat r1.1) x0 3) x5 || px_ga (px_wr r1.2 (px_rd w (px_rd w x0 3) (x5).toNat) (x6).toNat r1.1) 6 (px_rd (px_wr r1.2 (px_rd w (px_rd w x0 3) (x5).toNat) (x6).toNat r1.1) x0 3) x5)) = true then
                        if px_ga (px_wr r1.2 (px_rd w (px_rd w x0 3) (x5).toNat) (x6).toNat r1.1) 0 (px_rd (px_wr r1.2 (px_rd w (px_rd w x0 3) (x5).toNat) (x6).toNat r1.1) (px_rd (px_wr r1.2 (px_rd w (px_rd w x0 3) (x5).toNat) (x6).toNat r1.1) x0 3) (x5).toNat) x6 = true then
                          if px_go (px_wr r1.2 (px_rd w (px_rd w x0 3) (x5).toNat) (x6).toNat r1.1) x2 2 = true then
                            (px_R (mm_Line_leaves, 0, [(2, x2), (2, x1), (0, (px_rd (px_wr r1.2 (px_rd w (px_rd w x0 3) (x5).toNat) (x6).toNat r1.1) (px_rd (px_wr r1.2 (px_rd w (px_rd w x0 3) (x5).toNat) (x6).toNat r1.1) (px_rd (px_wr r1.2 (px_rd w (px_rd w x0 3) (x5).toNat) (x6).toNat r1.1) x0 3) (x5).toNat) (x6).toNat)), (0, x6)], [], (px_wr r1.2 (px_rd w (px_rd w x0 3) (x5).toNat) (x6).toNat r1.1))).bind fun r2 =>
                            (px_R (mm_Line_asLevel, 0, [(0, r2.1)], [], r2.2)).bind fun r3 =>
                              if x4 = 0 then
                                if px_go r3.2 x0 1 = true then
                                  if (px_ga r3.2 4 (px_rd r3.2 x0 2) x5 || (px_ga r3.2 5 (px_rd r3.2 x0 2) x5 || px_ga r3.2 6 (px_rd r3.2 x0 2) x5)) = true then
                                    if px_ga r3.2 0 (px_rd r3.2 (px_rd r3.2 x0 2) (x5).toNat) x6 = true then
                                      if r3.1 = (px_rd r3.2 (px_rd r3.2 (px_rd r3.2 x0 2) (x5).toNat) (x6).toNat) then
                                        if px_go r3.2 x0 1 = true then
                                          if (px_ga r3.2 4 (px_rd r3.2 x0 2) x5 || (px_ga r3.2 5 (px_rd r3.2 x0 2) x5 || px_ga r3.2 6 (px_rd r3.2 x0 2) x5)) = true then
                                            if px_ga r3.2 0 (px_rd r3.2 (px_rd r3.2 x0 2) (x5).toNat) x6 = true then
                                              px_R (mm_Ear_goOn, 18, [(2, x0), (2, x1), (2, x2), (0, x3), (0, 0), (0, x5), (0, (px_w (x6 + 1))), (0, r3.1)], [], (px_wr r3.2 (px_rd r3.2 (px_rd r3.2 x0 2) (x5).toNat) (x6).toNat r3.1))
                                            else none
                                          else none
                                        else none
                                      else
                                        if px_go r3.2 x0 1 = true then
                                          if (px_ga r3.2 4 (px_rd r3.2 x0 2) x5 || (px_ga r3.2 5 (px_rd r3.2 x0 2) x5 || px_ga r3.2 6 (px_rd r3.2 x0 2) x5)) = true then
                                            if px_ga r3.2 0 (px_rd r3.2 (px_rd r3.2 x0 2) (x5).toNat) x6 = true then
                                              px_R (mm_Ear_goOn, 18, [(2, x0), (2, x1), (2, x2), (0, x3), (0, 1), (0, x5), (0, (px_w (x6 + 1))), (0, r3.1)], [], (px_wr r3.2 (px_rd r3.2 (px_rd r3.2 x0 2) (x5).toNat) (x6).toNat r3.1))
                                            else none
                                          else none
                                        else none
                                    else none
                                  else none
                                else none
                              else
                                if px_go r3.2 x0 1 = true then
                                  if (px_ga r3.2 4 (px_rd r3.2 x0 2) x5 || (px_ga r3.2 5 (px_rd r3.2 x0 2) x5 || px_ga r3.2 6 (px_rd r3.2 x0 2) x5)) = true then
                                    if px_ga r3.2 0 (px_rd r3.2 (px_rd r3.2 x0 2) (x5).toNat) x6 = true then
                                      px_R (mm_Ear_goOn, 18, [(2, x0), (2, x1), (2, x2), (0, x3), (0, 1), (0, x5), (0, (px_w (x6 + 1))), (0, r3.1)], [], (px_wr r3.2 (px_rd r3.2 (px_rd r3.2 x0 2) (x5).toNat) (x6).toNat r3.1))
                                    else none
                                  else none
                                else none
                          else none
                        else none
                      else none
                    else none
                  else none
                else none
              else none
            else none
          else none
        else none
      else none
    else
      px_R (mm_Ear_goOn, 6, [(2, x0), (2, x1), (2, x2), (0, x3), (0, x4), (0, (px_w (x5 + 1))), (0, x6), y7], [], w)) := (px_Req mm_Ear_goOn 18 [(2, x0), (2, x1), (2, x2), (0, x3), (0, x4), (0, x5), (0, x6), y7] [] w).trans rfl
set_option maxRecDepth 100000 in
theorem eq_Ear_hear_0 (x0 x1 x2 x3 : Int) (w : pw) : px_R (mm_Ear_hear, 0, [(2, x0), (0, x1), (0, x2), (2, x3), (9, 0), (9, 0)], [], w) =
    (if px_go w x0 1 = true then
      (px_R (mm_Ear_thinkOf, 0, [(2, x0), (0, x2), (9, 0)], [], w)).bind fun r1 =>
      px_R (mm_Ear_hear, 8, [(2, x0), (0, x1), (0, x2), (2, x3), (0, 0), (9, 0)], [], r1.2)
    else none) := (px_Req mm_Ear_hear 0 [(2, x0), (0, x1), (0, x2), (2, x3), (9, 0), (9, 0)] [] w).trans rfl
set_option maxRecDepth 100000 in
theorem eq_Ear_hear_8 (x0 x1 x2 x3 x4 : Int) (w : pw) : px_R (mm_Ear_hear, 8, [(2, x0), (0, x1), (0, x2), (2, x3), (0, x4), (9, 0)], [], w) =
    (if Nat.ble (px_kd w x3).1 6 = true then
      if x4 < ((px_kd w x3).2 : Int) then
        if px_ga w 0 x3 x4 = true then
          px_R (mm_Ear_hear, 8, [(2, x0), (0, x1), (0, x2), (2, x3), (0, (px_w (x4 + 1))), (9, 0)], [], (px_wr w x3 (x4).toNat 0))
        else none
      else
        px_R (mm_Ear_hear, 29, [(2, x0), (0, x1), (0, x2), (2, x3), (0, 0), (9, 0)], [], w)
    else none) := (px_Req mm_Ear_hear 8 [(2, x0), (0, x1), (0, x2), (2, x3), (0, x4), (9, 0)] [] w).trans rfl
set_option maxRecDepth 100000 in
theorem eq_Ear_hear_29 (x0 x1 x2 x3 x4 : Int) (w : pw) : px_R (mm_Ear_hear, 29, [(2, x0), (0, x1), (0, x2), (2, x3), (0, x4), (9, 0)], [], w) =
    (if x4 < 4 then
      if px_go w x0 1 = true then
        (px_R (mm_Ear_spread, 0, [(2, x0), (0, x1), (0, x4), (9, 0), (9, 0), (9, 0), (9, 0)], [], w)).bind fun r2 =>
        px_R (mm_Ear_hear, 29, [(2, x0), (0, x1), (0, x2), (2, x3), (0, (px_w (x4 + 1))), (9, 0)], [], r2.2)
      else none
    else
      px_R (mm_Ear_hear, 51, [(2, x0), (0, x1), (0, x2), (2, x3), (0, 0), (9, 0)], [], w)) := (px_Req mm_Ear_hear 29 [(2, x0), (0, x1), (0, x2), (2, x3), (0, x4), (9, 0)] [] w).trans rfl
set_option maxRecDepth 100000 in
theorem eq_Ear_hear_51 (x0 x1 x2 x3 x4 : Int) (y5 : pv) (w : pw) : px_R (mm_Ear_hear, 51, [(2, x0), (0, x1), (0, x2), (2, x3), (0, x4), y5], [], w) =
    (if px_go w x0 1 = true then
      if px_ga w 0 (px_rd w x0 7) 0 = true then
        if x4 < (px_rd w (px_rd w x0 7) 0) then
          px_R (mm_Ear_hear, 65, [(2, x0), (0, x1), (0, x2), (2, x3), (0, x4), (0, 0)], [], w)
        else
          some (0, w)
      else none
    else none) := (px_Req mm_Ear_hear 51 [(2, x0), (0, x1), (0, x2), (2, x3), (0, x4), y5] [] w).trans rfl
set_option maxRecDepth 100000 in
theorem eq_Ear_hear_65 (x0 x1 x2 x3 x4 x5 : Int) (w : pw) : px_R (mm_Ear_hear, 65, [(2, x0), (0, x1), (0, x2), (2, x3), (0, x4), (0, x5)], [], w) =
    (if px_go w x0 1 = true then
      if px_ga w 0 (px_rd w x0 7) 1 = true then
        if x5 < (px_rd w (px_rd w x0 7) 1) then
          if px_go w x0 1 = true then
            if (px_ga w 4 (px_rd w x0 8) 0 || (px_ga w 5 (px_rd w x0 8) 0 || px_ga w 6 (px_rd w x0 8) 0)) = true then
              if px_ga w 1 (px_rd w (px_rd w x0 8) 0) x4 = true then
                if px_go w x0 1 = true then
                  if (px_ga w 4 (px_rd w x0 8) 1 || (px_ga w 5 (px_rd w x0 8) 1 || px_ga w 6 (px_rd w x0 8) 1)) = true then
                    if px_ga w 1 (px_rd w (px_rd w x0 8) 1) x5 = true then
                      if px_go w x0 1 = true then
                        if (px_ga w 4 (px_rd w x0 9) 0 || (px_ga w 5 (px_rd w x0 9) 0 || px_ga w 6 (px_rd w x0 9) 0)) = true then
                          if px_ga w 0 (px_rd w (px_rd w x0 9) 0) x4 = true then
                            if px_go w x0 1 = true then
                              if (px_ga w 4 (px_rd w x0 9) 1 || (px_ga w 5 (px_rd w x0 9) 1 || px_ga w 6 (px_rd w x0 9) 1)) = true then
                                if px_ga w 0 (px_rd w (px_rd w x0 9) 1) x5 = true then
                                  if px_go w x0 1 = true then
                                    (px_R (mm_Ear_hearRest, 0, [(2, x0), (1, (px_wl ((px_rd w (px_rd w (px_rd w x0 8) 0) (x4).toNat) + (px_rd w (px_rd w (px_rd w x0 8) 1) (x5).toNat)))), (9, 0), (0, (px_w ((px_rd w (px_rd w (px_rd w x0 9) 0) (x4).toNat) * (px_rd w (px_rd w (px_rd w x0 9) 1) (x5).toNat)))), (2, x3), (9, 0), (9, 0), (9, 0), (9, 0), (9, 0), (9, 0)], [], w)).bind fun r3 =>
                                    px_R (mm_Ear_hear, 65, [(2, x0), (0, x1), (0, x2), (2, x3), (0, x4), (0, (px_w (x5 + 1)))], [], r3.2)
                                  else none
                                else none
                              else none
                            else none
                          else none
                        else none
                      else none
                    else none
                  else none
                else none
              else none
            else none
          else none
        else
          px_R (mm_Ear_hear, 51, [(2, x0), (0, x1), (0, x2), (2, x3), (0, (px_w (x4 + 1))), (0, x5)], [], w)
      else none
    else none) := (px_Req mm_Ear_hear 65 [(2, x0), (0, x1), (0, x2), (2, x3), (0, x4), (0, x5)] [] w).trans rfl
set_option maxRecDepth 100000 in
theorem eq_Line_arrives_0 (x0 x1 x2 x3 : Int) (w : pw) : px_R (mm_Line_arrives, 0, [(2, x0), (2, x1), (0, x2), (0, x3)], [], w) =
    (if px_go w x0 2 = true then
      (px_R (mm_Line_handsOn, 0, [(2, x0), (2, x1), (9, 0)], [], w)).bind fun r1 =>
      if px_go r1.2 x0 2 = true then
        (px_R (mm_Line_enters, 0, [(2, x0), (2, x1), (0, r1.1), (0, x2), (0, x3), (9, 0)], [], r1.2)).bind fun r2 =>
        if px_go r2.2 x0 2 = true then
          if px_go r2.2 x0 2 = true then
            (px_R (mm_Line_overYards, 0, [(2, x0), (2, x1), (0, r2.1), (0, x3), (0, (px_rd r2.2 x0 2)), (9, 0), (9, 0), (9, 0)], [], r2.2)).bind fun r3 =>
            if px_go r3.2 x0 2 = true then
              (px_R (mm_Line_leaves, 0, [(2, x0), (2, x1), (0, r3.1), (0, x3)], [], r3.2)).bind fun r4 =>
              some (r4.1, r4.2)
            else none
          else none
        else none
      else none
    else none) := (px_Req mm_Line_arrives 0 [(2, x0), (2, x1), (0, x2), (0, x3)] [] w).trans rfl
set_option maxRecDepth 100000 in
theorem eq_Line_tiedOff_0 (x0 x1 x2 x3 x4 : Int) (w : pw) : px_R (mm_Line_tiedOff, 0, [(2, x0), (2, x1), (0, x2), (0, x3), (0, x4), (9, 0)], [], w) =
    (if px_go w x0 2 = true then
      (px_R (mm_Line_handsOn, 0, [(2, x0), (2, x1), (9, 0)], [], w)).bind fun r1 =>
      if px_go r1.2 x0 2 = true then
        (px_R (mm_Line_enters, 0, [(2, x0), (2, x1), (0, r1.1), (0, x3), (0, x4), (9, 0)], [], r1.2)).bind fun r2 =>
        if px_go r2.2 x0 2 = true then
          if px_go r2.2 x0 2 = true then
            (px_R (mm_Line_overYards, 0, [(2, x0), (2, x1), (0, r2.1), (0, x4), (0, (px_rd r2.2 x0 2)), (9, 0), (9, 0), (9, 0)], [], r2.2)).bind fun r3 =>
            if px_go r3.2 x0 2 = true then
              (px_R (mm_Line_overBends, 0, [(2, x0), (2, x1), (0, r3.1), (0, x4), (0, x2), (9, 0), (9, 0), (9, 0), (9, 0)], [], r3.2)).bind fun r4 =>
              if px_go r4.2 x0 2 = true then
                if px_ga r4.2 0 (px_rd r4.2 x0 7) x2 = true then
                  some ((px_w (Int.tdiv (px_w (r4.1 * (px_rd r4.2 (px_rd r4.2 x0 7) (x2).toNat))) 100)), r4.2)
                else none
              else none
            else none
          else none
        else none
      else none
    else none) := (px_Req mm_Line_tiedOff 0 [(2, x0), (2, x1), (0, x2), (0, x3), (0, x4), (9, 0)] [] w).trans rfl
set_option maxRecDepth 100000 in
theorem eq_Str_readName_0 (x0 x1 x2 : Int) (w : pw) : px_R (mm_Str_readName, 0, [(2, x0), (2, x1), (0, x2), (9, 0)], [], w) =
    (if px_go w x1 6 = true then
      (px_R (mm_Tape_readNext, 0, [(2, x1)], [], w)).bind fun r1 =>
      if px_go r1.2 x1 6 = true then
        if (px_rd r1.2 x1 2) = 2 then
          px_R (mm_Str_readName, 16, [(2, x0), (2, x1), (0, x2), (0, 0)], [], r1.2)
        else
          some (1, r1.2)
      else none
    else none) := (px_Req mm_Str_readName 0 [(2, x0), (2, x1), (0, x2), (9, 0)] [] w).trans rfl
set_option maxRecDepth 100000 in
theorem eq_Str_readName_16 (x0 x1 x2 x3 : Int) (w : pw) : px_R (mm_Str_readName, 16, [(2, x0), (2, x1), (0, x2), (0, x3)], [], w) =
    (if px_go w x0 5 = true then
      if px_ga w 0 (px_rd w x0 1) x2 = true then
        if x3 < (px_rd w (px_rd w x0 1) (x2).toNat) then
          if px_go w x0 5 = true then
            if (px_ga w 4 (px_rd w x0 2) x2 || (px_ga w 5 (px_rd w x0 2) x2 || px_ga w 6 (px_rd w x0 2) x2)) = true then
              if px_ga w 1 (px_rd w (px_rd w x0 2) (x2).toNat) x3 = true then
                if px_go w x1 6 = true then
                  if (px_cmp (px_rd w (px_rd w (px_rd w x0 2) (x2).toNat) (x3).toNat) (px_rd w x1 5)) = 0 then
                    some (3, w)
                  else
                    px_R (mm_Str_readName, 16, [(2, x0), (2, x1), (0, x2), (0, (px_w (x3 + 1)))], [], w)
                else none
              else none
            else none
          else none
        else
          if px_go w x0 5 = true then
            if (px_ga w 4 (px_rd w x0 2) x2 || (px_ga w 5 (px_rd w x0 2) x2 || px_ga w 6 (px_rd w x0 2) x2)) = true then
              if px_go w x0 5 = true then
                if px_ga w 0 (px_rd w x0 1) x2 = true then
                  if px_go w x1 6 = true then
                    if px_ga w 1 (px_rd w (px_rd w x0 2) (x2).toNat) (px_rd w (px_rd w x0 1) (x2).toNat) = true then
                      some (0, (px_wr w (px_rd w (px_rd w x0 2) (x2).toNat) ((px_rd w (px_rd w x0 1) (x2).toNat)).toNat (px_rd w x1 5)))
                    else none
                  else none
                else none
              else none
            else none
          else none
      else none
    else none) := (px_Req mm_Str_readName 16 [(2, x0), (2, x1), (0, x2), (0, x3)] [] w).trans rfl
set_option maxRecDepth 100000 in
theorem eq_Str_readNumber_0 (x0 x1 x2 x3 : Int) (w : pw) : px_R (mm_Str_readNumber, 0, [(2, x0), (2, x1), (0, x2), (0, x3), (9, 0), (9, 0), (9, 0), (9, 0), (9, 0)], [], w) =
    (if px_go w x1 6 = true then
      (px_R (mm_Tape_readNext, 0, [(2, x1)], [], w)).bind fun r1 =>
      if px_go r1.2 x1 6 = true then
        if (px_rd r1.2 x1 2) = 3 then
          if x3 = 0 then
            px_R (mm_Str_readNumber, 23, [(2, x0), (2, x1), (0, x2), (0, x3), (9, 0), (9, 0), (9, 0), (9, 0), (9, 0)], [(0, 1)], r1.2)
          else
            px_R (mm_Str_readNumber, 23, [(2, x0), (2, x1), (0, x2), (0, x3), (9, 0), (9, 0), (9, 0), (9, 0), (9, 0)], [(0, 0)], r1.2)
        else
          some (1, r1.2)
      else none
    else none) := (px_Req mm_Str_readNumber 0 [(2, x0), (2, x1), (0, x2), (0, x3), (9, 0), (9, 0), (9, 0), (9, 0), (9, 0)] [] w).trans rfl
set_option maxRecDepth 100000 in
theorem eq_Str_readNumber_23 (x0 x1 x2 x3 s0 : Int) (w : pw) : px_R (mm_Str_readNumber, 23, [(2, x0), (2, x1), (0, x2), (0, x3), (9, 0), (9, 0), (9, 0), (9, 0), (9, 0)], [(0, s0)], w) =
    (if s0 = 0 then
      px_R (mm_Str_readNumber, 44, [(2, x0), (2, x1), (0, x2), (0, x3), (0, s0), (9, 0), (9, 0), (9, 0), (9, 0)], [(0, 0)], w)
    else
      if x2 = 0 then
        px_R (mm_Str_readNumber, 44, [(2, x0), (2, x1), (0, x2), (0, x3), (0, s0), (9, 0), (9, 0), (9, 0), (9, 0)], [(0, 1)], w)
      else
        if x2 = 5 then
          px_R (mm_Str_readNumber, 44, [(2, x0), (2, x1), (0, x2), (0, x3), (0, s0), (9, 0), (9, 0), (9, 0), (9, 0)], [(0, 1)], w)
        else
          px_R (mm_Str_readNumber, 44, [(2, x0), (2, x1), (0, x2), (0, x3), (0, s0), (9, 0), (9, 0), (9, 0), (9, 0)], [(0, 0)], w)) := (px_Req mm_Str_readNumber 23 [(2, x0), (2, x1), (0, x2), (0, x3), (9, 0), (9, 0), (9, 0), (9, 0), (9, 0)] [(0, s0)] w).trans rfl
set_option maxRecDepth 100000 in
theorem eq_Str_readNumber_44 (x0 x1 x2 x3 x4 s0 : Int) (w : pw) : px_R (mm_Str_readNumber, 44, [(2, x0), (2, x1), (0, x2), (0, x3), (0, x4), (9, 0), (9, 0), (9, 0), (9, 0)], [(0, s0)], w) =
    (if x4 = 0 then
      if px_gl (px_sar 2) x2 = true then
        px_R (mm_Str_readNumber, 65, [(2, x0), (2, x1), (0, x2), (0, x3), (0, x4), (0, s0), (9, 0), (9, 0), (9, 0)], [(0, (px_lst (px_sar 2) (x2).toNat))], w)
      else none
    else
      if x2 = 0 then
        px_R (mm_Str_readNumber, 65, [(2, x0), (2, x1), (0, x2), (0, x3), (0, x4), (0, s0), (9, 0), (9, 0), (9, 0)], [(0, 99)], w)
      else
        if px_gl (px_sar 2) x2 = true then
          px_R (mm_Str_readNumber, 65, [(2, x0), (2, x1), (0, x2), (0, x3), (0, x4), (0, s0), (9, 0), (9, 0), (9, 0)], [(0, (px_lst (px_sar 2) (x2).toNat))], w)
        else none) := (px_Req mm_Str_readNumber 44 [(2, x0), (2, x1), (0, x2), (0, x3), (0, x4), (9, 0), (9, 0), (9, 0), (9, 0)] [(0, s0)] w).trans rfl
set_option maxRecDepth 100000 in
theorem eq_Str_readNumber_65 (x0 x1 x2 x3 x4 x5 s0 : Int) (w : pw) : px_R (mm_Str_readNumber, 65, [(2, x0), (2, x1), (0, x2), (0, x3), (0, x4), (0, x5), (9, 0), (9, 0), (9, 0)], [(0, s0)], w) =
    (if px_go w x1 6 = true then
      if (px_rd w x1 6) < x5 then
        some (2, w)
      else
        if px_go w x1 6 = true then
          if s0 < (px_rd w x1 6) then
            some (2, w)
          else
            if px_go w x0 5 = true then
              if px_ga w 0 (px_rd w x0 1) x2 = true then
                if px_go w x0 5 = true then
                  if (px_ga w 4 (px_rd w x0 3) x2 || (px_ga w 5 (px_rd w x0 3) x2 || px_ga w 6 (px_rd w x0 3) x2)) = true then
                    if px_go w x1 6 = true then
                      if px_ga w 0 (px_rd w (px_rd w x0 3) (x2).toNat) (px_w ((px_w ((px_rd w (px_rd w x0 1) (x2).toNat) * 5)) + x3)) = true then
                        if x3 = 1 then
                          if x2 = 3 then
                            px_R (mm_Str_readNumber, 132, [(2, x0), (2, x1), (0, x2), (0, x3), (0, x4), (0, x5), (0, s0), (0, (px_w ((px_rd w (px_rd w x0 1) (x2).toNat) * 5))), (9, 0)], [(0, 1)], (px_wr w (px_rd w (px_rd w x0 3) (x2).toNat) ((px_w ((px_w ((px_rd w (px_rd w x0 1) (x2).toNat) * 5)) + x3))).toNat (px_rd w x1 6)))
                          else
                            if x2 = 4 then
                              px_R (mm_Str_readNumber, 132, [(2, x0), (2, x1), (0, x2), (0, x3), (0, x4), (0, x5), (0, s0), (0, (px_w ((px_rd w (px_rd w x0 1) (x2).toNat) * 5))), (9, 0)], [(0, 1)], (px_wr w (px_rd w (px_rd w x0 3) (x2).toNat) ((px_w ((px_w ((px_rd w (px_rd w x0 1) (x2).toNat) * 5)) + x3))).toNat (px_rd w x1 6)))
                            else
                              px_R (mm_Str_readNumber, 132, [(2, x0), (2, x1), (0, x2), (0, x3), (0, x4), (0, x5), (0, s0), (0, (px_w ((px_rd w (px_rd w x0 1) (x2).toNat) * 5))), (9, 0)], [(0, 0)], (px_wr w (px_rd w (px_rd w x0 3) (x2).toNat) ((px_w ((px_w ((px_rd w (px_rd w x0 1) (x2).toNat) * 5)) + x3))).toNat (px_rd w x1 6)))
                        else
                          px_R (mm_Str_readNumber, 132, [(2, x0), (2, x1), (0, x2), (0, x3), (0, x4), (0, x5), (0, s0), (0, (px_w ((px_rd w (px_rd w x0 1) (x2).toNat) * 5))), (9, 0)], [(0, 0)], (px_wr w (px_rd w (px_rd w x0 3) (x2).toNat) ((px_w ((px_w ((px_rd w (px_rd w x0 1) (x2).toNat) * 5)) + x3))).toNat (px_rd w x1 6)))
                      else none
                    else none
                  else none
                else none
              else none
            else none
        else none
    else none) := (px_Req mm_Str_readNumber 65 [(2, x0), (2, x1), (0, x2), (0, x3), (0, x4), (0, x5), (9, 0), (9, 0), (9, 0)] [(0, s0)] w).trans rfl
set_option maxRecDepth 100000 in
theorem eq_Str_readNumber_132 (x0 x1 x2 x3 x4 x5 x6 x7 s0 : Int) (w : pw) : px_R (mm_Str_readNumber, 132, [(2, x0), (2, x1), (0, x2), (0, x3), (0, x4), (0, x5), (0, x6), (0, x7), (9, 0)], [(0, s0)], w) =
    (if s0 = 0 then
      some (0, w)
    else
      if px_go w x0 5 = true then
        if (px_ga w 4 (px_rd w x0 3) x2 || (px_ga w 5 (px_rd w x0 3) x2 || px_ga w 6 (px_rd w x0 3) x2)) = true then
          if px_ga w 0 (px_rd w (px_rd w x0 3) (x2).toNat) x7 = true then
            if px_go w x1 6 = true then
              if px_go w x0 5 = true then
                (px_R (mm_Str_isOneAt, 0, [(2, x0), (0, x2), (0, (px_rd w (px_rd w (px_rd w x0 3) (x2).toNat) (x7).toNat)), (0, (px_rd w x1 6)), (9, 0)], [], w)).bind fun r2 =>
                if r2.1 = 0 then
                  some (0, r2.2)
                else
                  some (3, r2.2)
              else none
            else none
          else none
        else none
      else none) := (px_Req mm_Str_readNumber 132 [(2, x0), (2, x1), (0, x2), (0, x3), (0, x4), (0, x5), (0, x6), (0, x7), (9, 0)] [(0, s0)] w).trans rfl
set_option maxRecDepth 100000 in
theorem eq_Tape_readNumbers_0 (x0 x1 x2 : Int) (w : pw) : px_R (mm_Tape_readNumbers, 0, [(2, x0), (2, x1), (0, x2), (9, 0), (9, 0)], [], w) =
    (if px_go w x0 6 = true then
      px_R (mm_Tape_readNumbers, 10, [(2, x0), (2, x1), (0, x2), (0, (-1)), (0, 0)], [], (px_wr w x0 4 0))
    else none) := (px_Req mm_Tape_readNumbers 0 [(2, x0), (2, x1), (0, x2), (9, 0), (9, 0)] [] w).trans rfl
set_option maxRecDepth 100000 in
theorem eq_Tape_readNumbers_10 (x0 x1 x2 x3 x4 : Int) (w : pw) : px_R (mm_Tape_readNumbers, 10, [(2, x0), (2, x1), (0, x2), (0, x3), (0, x4)], [], w) =
    (if x2 < x4 then
      px_R (mm_Tape_readNumbers, 71, [(2, x0), (2, x1), (0, x2), (0, x3), (0, x4)], [], w)
    else
      if px_go w x0 6 = true then
        (px_R (mm_Tape_readNext, 0, [(2, x0)], [], w)).bind fun r1 =>
        if px_go r1.2 x0 6 = true then
          if (px_rd r1.2 x0 2) = 0 then
            px_R (mm_Tape_readNumbers, 71, [(2, x0), (2, x1), (0, x2), (0, x4), (0, x4)], [], r1.2)
          else
            if px_go r1.2 x0 6 = true then
              if (px_rd r1.2 x0 2) = 3 then
                if x4 < x2 then
                  if Nat.ble (px_kd r1.2 x1).1 6 = true then
                    if x4 < ((px_kd r1.2 x1).2 : Int) then
                      if px_go r1.2 x0 6 = true then
                        if px_ga r1.2 0 x1 x4 = true then
                          px_R (mm_Tape_readNumbers, 10, [(2, x0), (2, x1), (0, x2), (0, x3), (0, (px_w (x4 + 1)))], [], (px_wr r1.2 x1 (x4).toNat (px_rd r1.2 x0 6)))
                        else none
                      else none
                    else
                      px_R (mm_Tape_readNumbers, 71, [(2, x0), (2, x1), (0, x2), (0, x3), (0, x4)], [], r1.2)
                  else none
                else
                  px_R (mm_Tape_readNumbers, 71, [(2, x0), (2, x1), (0, x2), (0, x3), (0, x4)], [], r1.2)
              else
                px_R (mm_Tape_readNumbers, 71, [(2, x0), (2, x1), (0, x2), (0, x3), (0, x4)], [], r1.2)
            else none
        else none
      else none) := (px_Req mm_Tape_readNumbers 10 [(2, x0), (2, x1), (0, x2), (0, x3), (0, x4)] [] w).trans rfl
set_option maxRecDepth 100000 in
theorem eq_Tape_readNumbers_71 (x0 x1 x2 x3 x4 : Int) (w : pw) : px_R (mm_Tape_readNumbers, 71, [(2, x0), (2, x1), (0, x2), (0, x3), (0, x4)], [], w) =
    (if px_go w x0 6 = true then
      some (x3, (px_wr w x0 1 0))
    else none) := (px_Req mm_Tape_readNumbers 71 [(2, x0), (2, x1), (0, x2), (0, x3), (0, x4)] [] w).trans rfl
set_option maxRecDepth 100000 in
theorem eq_Wish_search_0 (x0 x1 x2 : Int) (w : pw) : px_R (mm_Wish_search, 0, [(2, x0), (2, x1), (0, x2), (9, 0), (9, 0), (9, 0), (9, 0), (9, 0)], [], w) =
    (if px_go w x1 5 = true then
      if px_ga w 0 (px_rd w x1 1) 3 = true then
        px_R (mm_Wish_search, 16, [(2, x0), (2, x1), (0, x2), (0, (px_rd w (px_rd w x1 1) 3)), (0, 0), (0, 0), (0, 0), (9, 0)], [], w)
      else none
    else none) := (px_Req mm_Wish_search 0 [(2, x0), (2, x1), (0, x2), (9, 0), (9, 0), (9, 0), (9, 0), (9, 0)] [] w).trans rfl
set_option maxRecDepth 100000 in
theorem eq_Wish_search_16 (x0 x1 x2 x3 x4 x5 x6 : Int) (y7 : pv) (w : pw) : px_R (mm_Wish_search, 16, [(2, x0), (2, x1), (0, x2), (0, x3), (0, x4), (0, x5), (0, x6), y7], [], w) =
    (if x6 < x3 then
      px_R (mm_Wish_search, 28, [(2, x0), (2, x1), (0, x2), (0, x3), (0, x4), (0, x5), (0, x6), (0, (px_w (x6 + 1)))], [], w)
    else
      if px_go w x0 7 = true then
        if px_go (px_wr w x0 1 (-1)) x0 7 = true then
          px_R (mm_Wish_search, 117, [(2, x0), (2, x1), (0, x2), (0, x3), (0, x4), (0, x5), (0, 0), y7], [], (px_wr (px_wr w x0 1 (-1)) x0 2 (-1)))
        else none
      else none) := (px_Req mm_Wish_search 16 [(2, x0), (2, x1), (0, x2), (0, x3), (0, x4), (0, x5), (0, x6), y7] [] w).trans rfl
set_option maxRecDepth 100000 in
theorem eq_Wish_search_28 (x0 x1 x2 x3 x4 x5 x6 x7 : Int) (w : pw) : px_R (mm_Wish_search, 28, [(2, x0), (2, x1), (0, x2), (0, x3), (0, x4), (0, x5), (0, x6), (0, x7)], [], w) =
    (if x7 < x3 then
      if px_go w x0 7 = true then
        (px_R (mm_Wish_apart, 0, [(2, x1), (0, x6), (0, x7), (9, 0), (9, 0), (9, 0), (9, 0), (9, 0), (9, 0), (9, 0), (9, 0)], [], w)).bind fun r1 =>
          if px_ga r1.2 0 (px_rd w x0 3) x4 = true then
            if px_go (px_wr r1.2 (px_rd w x0 3) (x4).toNat r1.1) x0 7 = true then
              if px_ga (px_wr r1.2 (px_rd w x0 3) (x4).toNat r1.1) 0 (px_rd (px_wr r1.2 (px_rd w x0 3) (x4).toNat r1.1) x0 4) x4 = true then
                if px_go (px_wr (px_wr r1.2 (px_rd w x0 3) (x4).toNat r1.1) (px_rd (px_wr r1.2 (px_rd w x0 3) (x4).toNat r1.1) x0 4) (x4).toNat (px_or (px_shl 1 x6) (px_shl 1 x7))) x0 7 = true then
                  if px_ga (px_wr (px_wr r1.2 (px_rd w x0 3) (x4).toNat r1.1) (px_rd (px_wr r1.2 (px_rd w x0 3) (x4).toNat r1.1) x0 4) (x4).toNat (px_or (px_shl 1 x6) (px_shl 1 x7))) 0 (px_rd (px_wr (px_wr r1.2 (px_rd w x0 3) (x4).toNat r1.1) (px_rd (px_wr r1.2 (px_rd w x0 3) (x4).toNat r1.1) x0 4) (x4).toNat (px_or (px_shl 1 x6) (px_shl 1 x7))) x0 3) x4 = true then
                    if (px_rd (px_wr (px_wr r1.2 (px_rd w x0 3) (x4).toNat r1.1) (px_rd (px_wr r1.2 (px_rd w x0 3) (x4).toNat r1.1) x0 4) (x4).toNat (px_or (px_shl 1 x6) (px_shl 1 x7))) (px_rd (px_wr (px_wr r1.2 (px_rd w x0 3) (x4).toNat r1.1) (px_rd (px_wr r1.2 (px_rd w x0 3) (x4).toNat r1.1) x0 4) (x4).toNat (px_or (px_shl 1 x6) (px_shl 1 x7))) x0 3) (x4).toNat) = (-1) then
                      px_R (mm_Wish_search, 28, [(2, x0), (2, x1), (0, x2), (0, x3), (0, (px_w (x4 + 1))), (0, (px_or x5 (px_shl 1 x4))), (0, x6), (0, (px_w (x7 + 1)))], [], (px_wr (px_wr r1.2 (px_rd w x0 3) (x4).toNat r1.1) (px_rd (px_wr r1.2 (px_rd w x0 3) (x4).toNat r1.1) x0 4) (x4).toNat (px_or (px_shl 1 x6) (px_shl 1 x7))))
                    else
                      px_R (mm_Wish_search, 28, [(2, x0), (2, x1), (0, x2), (0, x3), (0, (px_w (x4 + 1))), (0, (px_or x5 0)), (0, x6), (0, (px_w (x7 + 1)))], [], (px_wr (px_wr r1.2 (px_rd w x0 3) (x4).toNat r1.1) (px_rd (px_wr r1.2 (px_rd w x0 3) (x4).toNat r1.1) x0 4) (x4).toNat (px_or (px_shl 1 x6) (px_shl 1 x7))))
                  else none
                else none
              else none
            else none
          else none
      else none
    else
      px_R (mm_Wish_search, 16, [(2, x0), (2, x1), (0, x2), (0, x3), (0, x4), (0, x5), (0, (px_w (x6 + 1))), (0, x7)], [], w)) := (px_Req mm_Wish_search 28 [(2, x0), (2, x1), (0, x2), (0, x3), (0, x4), (0, x5), (0, x6), (0, x7)] [] w).trans rfl
set_option maxRecDepth 100000 in
theorem eq_Wish_search_117 (x0 x1 x2 x3 x4 x5 x6 : Int) (y7 : pv) (w : pw) : px_R (mm_Wish_search, 117, [(2, x0), (2, x1), (0, x2), (0, x3), (0, x4), (0, x5), (0, x6), y7], [], w) =
    (if x6 < (px_shl 1 x4) then
      if (px_and x6 x5) = 0 then
        if px_go w x0 7 = true then
          (px_R (mm_Wish_yardsOf, 0, [(2, x0), (0, x6), (0, x4), (9, 0), (9, 0)], [], w)).bind fun r2 =>
          if px_go r2.2 x0 7 = true then
            if (px_rd r2.2 x0 1) = (-1) then
              px_R (mm_Wish_search, 161, [(2, x0), (2, x1), (0, x2), (0, x3), (0, x4), (0, x5), (0, x6), (0, r2.1)], [], r2.2)
            else
              if px_go r2.2 x0 7 = true then
                if r2.1 < (px_rd r2.2 x0 1) then
                  px_R (mm_Wish_search, 161, [(2, x0), (2, x1), (0, x2), (0, x3), (0, x4), (0, x5), (0, x6), (0, r2.1)], [], r2.2)
                else
                  px_R (mm_Wish_search, 117, [(2, x0), (2, x1), (0, x2), (0, x3), (0, x4), (0, x5), (0, (px_w (x6 + 1))), (0, r2.1)], [], r2.2)
              else none
          else none
        else none
      else
        px_R (mm_Wish_search, 117, [(2, x0), (2, x1), (0, x2), (0, x3), (0, x4), (0, x5), (0, (px_w (x6 + 1))), y7], [], w)
    else
      some (0, w)) := (px_Req mm_Wish_search 117 [(2, x0), (2, x1), (0, x2), (0, x3), (0, x4), (0, x5), (0, x6), y7] [] w).trans rfl
set_option maxRecDepth 100000 in
theorem eq_Wish_search_161 (x0 x1 x2 x3 x4 x5 x6 x7 : Int) (w : pw) : px_R (mm_Wish_search, 161, [(2, x0), (2, x1), (0, x2), (0, x3), (0, x4), (0, x5), (0, x6), (0, x7)], [], w) =
    (if px_go w x0 7 = true then
      (px_R (mm_Wish_grants, 0, [(2, x0), (0, x6), (0, x4), (0, x3), (0, x2), (9, 0)], [], w)).bind fun r3 =>
      if r3.1 = 0 then
        px_R (mm_Wish_search, 117, [(2, x0), (2, x1), (0, x2), (0, x3), (0, x4), (0, x5), (0, (px_w (x6 + 1))), (0, x7)], [], r3.2)
      else
        if px_go r3.2 x0 7 = true then
          if px_go (px_wr r3.2 x0 1 x7) x0 7 = true then
            px_R (mm_Wish_search, 117, [(2, x0), (2, x1), (0, x2), (0, x3), (0, x4), (0, x5), (0, (px_w (x6 + 1))), (0, x7)], [], (px_wr (px_wr r3.2 x0 1 x7) x0 2 x6))
          else none
        else none
    else none) := (px_Req mm_Wish_search 161 [(2, x0), (2, x1), (0, x2), (0, x3), (0, x4), (0, x5), (0, x6), (0, x7)] [] w).trans rfl
set_option maxRecDepth 100000 in
theorem eq_Tin_init_0 (x0 : Int) (w : pw) : px_R (mm_Tin_init, 0, [(2, x0), (9, 0)], [], w) =
    (if px_go (px_al w (16, 7)) (w.1.length : Int) 6 = true then
      (px_R (mm_Tape_init, 0, [(2, (w.1.length : Int))], [], (px_al w (16, 7)))).bind fun r1 =>
      if px_go r1.2 x0 8 = true then
        if px_go (px_al (px_wr r1.2 x0 0 (w.1.length : Int)) (15, 4)) ((px_wr r1.2 x0 0 (w.1.length : Int)).1.length : Int) 5 = true then
          (px_R (mm_Str_init, 0, [(2, ((px_wr r1.2 x0 0 (w.1.length : Int)).1.length : Int))], [], (px_al (px_wr r1.2 x0 0 (w.1.length : Int)) (15, 4)))).bind fun r2 =>
          if px_go r2.2 x0 8 = true then
            px_R (mm_Tin_init, 30, [(2, x0), (9, 0)], [(2, ((px_wr r2.2 x0 8 ((px_wr r1.2 x0 0 (w.1.length : Int)).1.length : Int)).1.length : Int)), (2, x0)], (px_al (px_wr r2.2 x0 8 ((px_wr r1.2 x0 0 (w.1.length : Int)).1.length : Int)) (15, 4)))
          else none
        else none
      else none
    else none) := (px_Req mm_Tin_init 0 [(2, x0), (9, 0)] [] w).trans rfl
set_option maxRecDepth 100000 in
theorem eq_Tin_init_30 (x0 s0 s1 : Int) (w : pw) : px_R (mm_Tin_init, 30, [(2, x0), (9, 0)], [(2, s1), (2, s0)], w) =
    (if px_go w s1 5 = true then
      (px_R (mm_Str_init, 0, [(2, s1)], [], w)).bind fun r3 =>
      if px_go r3.2 s0 8 = true then
        if px_go (px_al (px_wr r3.2 s0 9 s1) (12, 8)) ((px_wr r3.2 s0 9 s1).1.length : Int) 2 = true then
          (px_R (mm_Line_init, 0, [(2, ((px_wr r3.2 s0 9 s1).1.length : Int))], [], (px_al (px_wr r3.2 s0 9 s1) (12, 8)))).bind fun r4 =>
          if px_go r4.2 x0 8 = true then
            if px_go (px_al (px_wr r4.2 x0 1 ((px_wr r3.2 s0 9 s1).1.length : Int)) (11, 10)) ((px_wr r4.2 x0 1 ((px_wr r3.2 s0 9 s1).1.length : Int)).1.length : Int) 1 = true then
              (px_R (mm_Ear_init, 0, [(2, ((px_wr r4.2 x0 1 ((px_wr r3.2 s0 9 s1).1.length : Int)).1.length : Int))], [], (px_al (px_wr r4.2 x0 1 ((px_wr r3.2 s0 9 s1).1.length : Int)) (11, 10)))).bind fun r5 =>
              px_R (mm_Tin_init, 56, [(2, x0), (9, 0)], [(2, ((px_wr r4.2 x0 1 ((px_wr r3.2 s0 9 s1).1.length : Int)).1.length : Int)), (2, x0)], r5.2)
            else none
          else none
        else none
      else none
    else none) := (px_Req mm_Tin_init 30 [(2, x0), (9, 0)] [(2, s1), (2, s0)] w).trans rfl
set_option maxRecDepth 100000 in
theorem eq_Tin_init_56 (x0 s0 s1 : Int) (w : pw) : px_R (mm_Tin_init, 56, [(2, x0), (9, 0)], [(2, s1), (2, s0)], w) =
    (if px_go w s0 8 = true then
      if px_go (px_al (px_wr w s0 2 s1) (17, 6)) ((px_wr w s0 2 s1).1.length : Int) 7 = true then
        (px_R (mm_Wish_init, 0, [(2, ((px_wr w s0 2 s1).1.length : Int))], [], (px_al (px_wr w s0 2 s1) (17, 6)))).bind fun r6 =>
        if px_go r6.2 x0 8 = true then
          if px_go (px_al (px_wr r6.2 x0 3 ((px_wr w s0 2 s1).1.length : Int)) (10, 15)) ((px_wr r6.2 x0 3 ((px_wr w s0 2 s1).1.length : Int)).1.length : Int) 0 = true then
            (px_R (mm_Book_init, 0, [(2, ((px_wr r6.2 x0 3 ((px_wr w s0 2 s1).1.length : Int)).1.length : Int))], [], (px_al (px_wr r6.2 x0 3 ((px_wr w s0 2 s1).1.length : Int)) (10, 15)))).bind fun r7 =>
            if px_go r7.2 x0 8 = true then
              px_R (mm_Tin_init, 81, [(2, x0), (9, 0)], [], (px_wr r7.2 x0 4 ((px_wr r6.2 x0 3 ((px_wr w s0 2 s1).1.length : Int)).1.length : Int)))
            else none
          else none
        else none
      else none
    else none) := (px_Req mm_Tin_init 56 [(2, x0), (9, 0)] [(2, s1), (2, s0)] w).trans rfl
set_option maxRecDepth 100000 in
theorem eq_Tin_init_81 (x0 : Int) (w : pw) : px_R (mm_Tin_init, 81, [(2, x0), (9, 0)], [], w) =
    (if px_go (px_al w (14, 8)) (w.1.length : Int) 4 = true then
      (px_R (mm_Row_init, 0, [(2, (w.1.length : Int))], [], (px_al w (14, 8)))).bind fun r8 =>
      if px_go r8.2 x0 8 = true then
        if px_go (px_al (px_wr r8.2 x0 5 (w.1.length : Int)) (6, 3)) x0 8 = true then
          px_R (mm_Tin_init, 102, [(2, x0), (0, 0)], [], (px_wr (px_al (px_wr r8.2 x0 5 (w.1.length : Int)) (6, 3)) x0 6 ((px_wr r8.2 x0 5 (w.1.length : Int)).1.length : Int)))
        else none
      else none
    else none) := (px_Req mm_Tin_init 81 [(2, x0), (9, 0)] [] w).trans rfl
set_option maxRecDepth 100000 in
theorem eq_Tin_init_102 (x0 x1 : Int) (w : pw) : px_R (mm_Tin_init, 102, [(2, x0), (0, x1)], [], w) =
    (if x1 < 3 then
      if px_go w x0 8 = true then
        if px_go (px_al w (14, 8)) (w.1.length : Int) 4 = true then
          (px_R (mm_Row_init, 0, [(2, (w.1.length : Int))], [], (px_al w (14, 8)))).bind fun r9 =>
          if (px_ga r9.2 6 (px_rd w x0 6) x1 && px_go r9.2 (w.1.length : Int) 4) = true then
            px_R (mm_Tin_init, 102, [(2, x0), (0, (px_w (x1 + 1)))], [], (px_wr r9.2 (px_rd w x0 6) (x1).toNat (w.1.length : Int)))
          else none
        else none
      else none
    else
      if px_go (px_al w (0, 16)) x0 8 = true then
        if px_go (px_wr (px_al w (0, 16)) x0 7 (w.1.length : Int)) x0 8 = true then
          if px_go (px_wr (px_wr (px_al w (0, 16)) x0 7 (w.1.length : Int)) x0 10 0) x0 8 = true then
            px_R (mm_Tin_init, 144, [(2, x0), (0, x1)], [], (px_wr (px_wr (px_wr (px_al w (0, 16)) x0 7 (w.1.length : Int)) x0 10 0) x0 11 (-1)))
          else none
        else none
      else none) := (px_Req mm_Tin_init 102 [(2, x0), (0, x1)] [] w).trans rfl
set_option maxRecDepth 100000 in
theorem eq_Tin_init_144 (x0 x1 : Int) (w : pw) : px_R (mm_Tin_init, 144, [(2, x0), (0, x1)], [], w) =
    (if px_go w x0 8 = true then
      if px_go w (px_rd w x0 5) 4 = true then
        (px_R (mm_Row_lay, 0, [(2, (px_rd w x0 5)), (0, 2), (9, 0)], [], w)).bind fun r10 =>
        some (0, r10.2)
      else none
    else none) := (px_Req mm_Tin_init 144 [(2, x0), (0, x1)] [] w).trans rfl
set_option maxRecDepth 100000 in
theorem eq_Tin_bears_0 (x0 x1 : Int) (w : pw) : px_R (mm_Tin_bears, 0, [(2, x0), (0, x1)], [], w) =
    ((px_R (mm_Tin_within, 0, [(0, x1), (0, 0), (0, 4)], [], w)).bind fun r1 =>
      if r1.1 = 0 then
        some ((-2), r1.2)
      else
        if px_go r1.2 x0 8 = true then
          if px_go r1.2 (px_rd r1.2 x0 8) 5 = true then
            if px_ga r1.2 0 (px_rd r1.2 (px_rd r1.2 x0 8) 1) 0 = true then
              if (px_rd r1.2 (px_rd r1.2 (px_rd r1.2 x0 8) 1) 0) = 0 then
                some ((-4), r1.2)
              else
                if x1 = 0 then
                  if px_go r1.2 x0 8 = true then
                    if px_go r1.2 x0 8 = true then
                      if px_go r1.2 (px_rd r1.2 x0 1) 2 = true then
                        (px_R (mm_Line_strength, 0, [(2, (px_rd r1.2 x0 1)), (2, (px_rd r1.2 x0 8)), (9, 0)], [], r1.2)).bind fun r2 =>
                        some (r2.1, r2.2)
                      else none
                    else none
                  else none
                else if x1 = 1 then
                  if px_go r1.2 x0 8 = true then
                    if px_go r1.2 x0 8 = true then
                      if px_go r1.2 (px_rd r1.2 x0 1) 2 = true then
                        (px_R (mm_Line_handsOn, 0, [(2, (px_rd r1.2 x0 1)), (2, (px_rd r1.2 x0 8)), (9, 0)], [], r1.2)).bind fun r3 =>
                        some (r3.1, r3.2)
                      else none
                    else none
                  else none
                else if x1 = 2 then
                  if px_go r1.2 x0 8 = true then
                    if px_go r1.2 x0 8 = true then
                      if px_go r1.2 (px_rd r1.2 x0 1) 2 = true then
                        (px_R (mm_Line_snaps, 0, [(2, (px_rd r1.2 x0 1)), (2, (px_rd r1.2 x0 8))], [], r1.2)).bind fun r4 =>
                        if r4.1 = 0 then
                          some (0, r4.2)
                        else
                          some (1, r4.2)
                      else none
                    else none
                  else none
                else if x1 = 3 then
                  if px_go r1.2 x0 8 = true then
                    if px_go r1.2 (px_rd r1.2 x0 1) 2 = true then
                      some ((px_rd r1.2 (px_rd r1.2 x0 1) 4), r1.2)
                    else none
                  else none
                else 
                  if px_go r1.2 x0 8 = true then
                    if px_go r1.2 (px_rd r1.2 x0 1) 2 = true then
                      some ((px_rd r1.2 (px_rd r1.2 x0 1) 6), r1.2)
                    else none
                  else none
            else none
          else none
        else none) := (px_Req mm_Tin_bears 0 [(2, x0), (0, x1)] [] w).trans rfl
set_option maxRecDepth 100000 in
theorem eq_Tin_send_0 (x0 x1 x2 : Int) (w : pw) : px_R (mm_Tin_send, 0, [(2, x0), (0, x1), (0, x2)], [], w) =
    ((px_R (mm_Tin_within, 0, [(0, x1), (0, 0), (0, 1)], [], w)).bind fun r1 =>
      if r1.1 = 0 then
        some ((-2), r1.2)
      else
        (px_R (mm_Tin_within, 0, [(0, x2), (0, (-9999)), (0, 9999)], [], r1.2)).bind fun r2 =>
          if r2.1 = 0 then
            some ((-2), r2.2)
          else
            if px_go r2.2 x0 8 = true then
              if px_go r2.2 (px_rd r2.2 x0 5) 4 = true then
                (px_R (mm_Row_pullAt, 0, [(2, (px_rd r2.2 x0 5)), (0, x1), (0, x2)], [], r2.2)).bind fun r3 =>
                some (r3.1, r3.2)
              else none
            else none) := (px_Req mm_Tin_send 0 [(2, x0), (0, x1), (0, x2)] [] w).trans rfl
set_option maxRecDepth 100000 in
theorem eq_Tin_tick_0 (x0 x1 : Int) (w : pw) : px_R (mm_Tin_tick, 0, [(2, x0), (0, x1), (9, 0)], [], w) =
    ((px_R (mm_Tin_within, 0, [(0, x1), (0, 0), (0, 400)], [], w)).bind fun r1 =>
      if r1.1 = 0 then
        some ((-2), r1.2)
      else
        px_R (mm_Tin_tick, 16, [(2, x0), (0, x1), (0, 0)], [], r1.2)) := (px_Req mm_Tin_tick 0 [(2, x0), (0, x1), (9, 0)] [] w).trans rfl
set_option maxRecDepth 100000 in
theorem eq_Tin_tick_16 (x0 x1 x2 : Int) (w : pw) : px_R (mm_Tin_tick, 16, [(2, x0), (0, x1), (0, x2)], [], w) =
    (if x2 < x1 then
      if px_go w x0 8 = true then
        if px_go w (px_rd w x0 5) 4 = true then
          (px_R (mm_Row_move, 0, [(2, (px_rd w x0 5)), (9, 0), (9, 0), (9, 0), (9, 0)], [], w)).bind fun r2 =>
          px_R (mm_Tin_tick, 16, [(2, x0), (0, x1), (0, (px_w (x2 + 1)))], [], r2.2)
        else none
      else none
    else
      if px_go w x0 8 = true then
        if px_go w (px_rd w x0 5) 4 = true then
          some ((px_rd w (px_rd w x0 5) 1), w)
        else none
      else none) := (px_Req mm_Tin_tick 16 [(2, x0), (0, x1), (0, x2)] [] w).trans rfl
set_option maxRecDepth 100000 in
theorem eq_Tin_wish_0 (x0 x1 x2 : Int) (w : pw) : px_R (mm_Tin_wish, 0, [(2, x0), (0, x1), (0, x2)], [], w) =
    (if px_go w x0 8 = true then
      (px_R (mm_Tin_isPair, 0, [(2, x0), (0, x1), (0, x2)], [], w)).bind fun r1 =>
      if r1.1 = 0 then
        some ((-2), r1.2)
      else
        if px_go r1.2 x0 8 = true then
          (px_R (mm_Math_min, 0, [(0, x1), (0, x2)], [], r1.2)).bind fun r2 =>
            (px_R (mm_Math_max, 0, [(0, x1), (0, x2)], [], r2.2)).bind fun r3 =>
              if px_go r3.2 x0 8 = true then
                if px_go r3.2 (px_rd r3.2 x0 8) 5 = true then
                  if px_ga r3.2 0 (px_rd r3.2 (px_rd r3.2 x0 8) 1) 3 = true then
                    (px_R (mm_Wish_pairOf, 0, [(0, r2.1), (0, r3.1), (0, (px_rd r3.2 (px_rd r3.2 (px_rd r3.2 x0 8) 1) 3))], [], r3.2)).bind fun r4 =>
                      if px_go r4.2 (px_rd r1.2 x0 3) 7 = true then
                        (px_R (mm_Wish_add, 0, [(2, (px_rd r1.2 x0 3)), (0, r4.1)], [], r4.2)).bind fun r5 =>
                        some (r5.1, r5.2)
                      else none
                  else none
                else none
              else none
        else none
    else none) := (px_Req mm_Tin_wish 0 [(2, x0), (0, x1), (0, x2)] [] w).trans rfl
set_option maxRecDepth 100000 in
theorem eq_Tin_yards_0 (x0 x1 x2 : Int) (w : pw) : px_R (mm_Tin_yards, 0, [(2, x0), (0, x1), (0, x2)], [], w) =
    (if px_go w x0 8 = true then
      (px_R (mm_Tin_isPair, 0, [(2, x0), (0, x1), (0, x2)], [], w)).bind fun r1 =>
      if r1.1 = 0 then
        some ((-2), r1.2)
      else
        if px_go r1.2 x0 8 = true then
          (px_R (mm_Wish_apart, 0, [(2, (px_rd r1.2 x0 8)), (0, x1), (0, x2), (9, 0), (9, 0), (9, 0), (9, 0), (9, 0), (9, 0), (9, 0), (9, 0)], [], r1.2)).bind fun r2 =>
            some (r2.1, r2.2)
        else none
    else none) := (px_Req mm_Tin_yards 0 [(2, x0), (0, x1), (0, x2)] [] w).trans rfl
set_option maxRecDepth 100000 in
theorem eq_Mod_right_0_0 (x0 x1 x2 : Int) (w : pw) : px_R (mm_Mod_right_0, 0, [(2, x0), (0, x1), (0, x2)], [], w) =
    (if px_go w x0 9 = true then
      (px_R (mm_Mod_listen, 0, [(2, x0), (0, x1), (0, x2), (9, 0), (9, 0), (9, 0), (9, 0), (9, 0), (9, 0), (9, 0)], [], w)).bind fun r1 =>
      if px_go r1.2 x0 9 = true then
        if px_ga r1.2 0 (px_rd r1.2 x0 34) x2 = true then
          some ((px_rd r1.2 (px_rd r1.2 x0 34) (x2).toNat), r1.2)
        else none
      else none
    else none) := (px_Req mm_Mod_right_0 0 [(2, x0), (0, x1), (0, x2)] [] w).trans rfl
set_option maxRecDepth 100000 in
theorem eq_Mod_share_0 (x0 x1 x2 x3 : Int) (w : pw) : px_R (mm_Mod_share, 0, [(2, x0), (0, x1), (0, x2), (0, x3)], [], w) =
    (if px_go w x0 9 = true then
      (px_R (mm_Mod_in, 0, [(0, x1), (0, 0), (0, (px_w ((px_rd w x0 29) - 1)))], [], w)).bind fun r1 =>
        if r1.1 = 0 then
          some ((-2), r1.2)
        else
          (px_R (mm_Mod_in, 0, [(0, x2), (0, 0), (0, 9)], [], r1.2)).bind fun r2 =>
            if r2.1 = 0 then
              some ((-2), r2.2)
            else
              (px_R (mm_Mod_isBand, 0, [(0, x3)], [], r2.2)).bind fun r3 =>
                if r3.1 = 0 then
                  some ((-2), r3.2)
                else
                  if px_go r3.2 x0 9 = true then
                    (px_R (mm_Mod_hasLine, 0, [(2, x0)], [], r3.2)).bind fun r4 =>
                    if r4.1 = 0 then
                      some ((-4), r4.2)
                    else
                      if px_go r4.2 x0 9 = true then
                        if px_go r4.2 x0 9 = true then
                          if px_go r4.2 x0 9 = true then
                            if px_go r4.2 x0 9 = true then
                              (px_R (mm_Mod_comesTo, 0, [(2, x0), (0, (px_rd r4.2 x0 24)), (0, (px_rd r4.2 x0 25)), (0, (px_rd r4.2 x0 26)), (0, x2), (0, x3), (0, x1), (9, 0), (9, 0)], [], r4.2)).bind fun r5 =>
                              if px_go r5.2 x0 9 = true then
                                if px_ga r5.2 0 (px_rd r5.2 x0 31) x1 = true then
                                  some ((px_w (Int.tdiv (px_w (r5.1 * (px_rd r5.2 (px_rd r5.2 x0 31) (x1).toNat))) 100)), r5.2)
                                else none
                              else none
                            else none
                          else none
                        else none
                      else none
                  else none
    else none) := (px_Req mm_Mod_share 0 [(2, x0), (0, x1), (0, x2), (0, x3)] [] w).trans rfl
set_option maxRecDepth 100000 in
theorem eq_Mod_throughOf_0 (x0 x1 x2 x3 x4 x5 : Int) (w : pw) : px_R (mm_Mod_throughOf, 0, [(2, x0), (0, x1), (0, x2), (0, x3), (0, x4), (0, x5)], [], w) =
    (if px_go w x0 9 = true then
      if px_go w x0 9 = true then
        (px_R (mm_Mod_comesTo, 0, [(2, x0), (0, x1), (0, x2), (0, x3), (0, x4), (0, x5), (0, (px_rd w x0 29)), (9, 0), (9, 0)], [], w)).bind fun r1 =>
        if px_go r1.2 x0 9 = true then
          if px_ga r1.2 0 (px_rd r1.2 x0 15) (px_w ((px_w (4 * x2)) + x5)) = true then
            some ((px_w (Int.tdiv (px_w (r1.1 * (px_rd r1.2 (px_rd r1.2 x0 15) ((px_w ((px_w (4 * x2)) + x5))).toNat))) 100)), r1.2)
          else none
        else none
      else none
    else none) := (px_Req mm_Mod_throughOf 0 [(2, x0), (0, x1), (0, x2), (0, x3), (0, x4), (0, x5)] [] w).trans rfl
set_option maxRecDepth 100000 in
theorem eq_Mod_wish_0 (x0 x1 x2 : Int) (w : pw) : px_R (mm_Mod_wish, 0, [(2, x0), (0, x1), (0, x2), (9, 0), (9, 0), (9, 0)], [], w) =
    (if px_go w x0 9 = true then
      (px_R (mm_Mod_arePair, 0, [(2, x0), (0, x1), (0, x2)], [], w)).bind fun r1 =>
      if r1.1 = 0 then
        some ((-2), r1.2)
      else
        if x1 < x2 then
          px_R (mm_Mod_wish, 22, [(2, x0), (0, x1), (0, x2), (9, 0), (9, 0), (9, 0)], [(0, x1)], r1.2)
        else
          px_R (mm_Mod_wish, 22, [(2, x0), (0, x1), (0, x2), (9, 0), (9, 0), (9, 0)], [(0, x2)], r1.2)
    else none) := (px_Req mm_Mod_wish 0 [(2, x0), (0, x1), (0, x2), (9, 0), (9, 0), (9, 0)] [] w).trans rfl
set_option maxRecDepth 100000 in
theorem eq_Mod_wish_22 (x0 x1 x2 s0 : Int) (w : pw) : px_R (mm_Mod_wish, 22, [(2, x0), (0, x1), (0, x2), (9, 0), (9, 0), (9, 0)], [(0, s0)], w) =
    (if x1 < x2 then
      px_R (mm_Mod_wish, 38, [(2, x0), (0, x1), (0, x2), (0, s0), (0, x2), (0, 0)], [], w)
    else
      px_R (mm_Mod_wish, 38, [(2, x0), (0, x1), (0, x2), (0, s0), (0, x1), (0, 0)], [], w)) := (px_Req mm_Mod_wish 22 [(2, x0), (0, x1), (0, x2), (9, 0), (9, 0), (9, 0)] [(0, s0)] w).trans rfl
set_option maxRecDepth 100000 in
theorem eq_Mod_wish_38 (x0 x1 x2 x3 x4 x5 : Int) (w : pw) : px_R (mm_Mod_wish, 38, [(2, x0), (0, x1), (0, x2), (0, x3), (0, x4), (0, x5)], [], w) =
    (if px_go w x0 9 = true then
      if x5 < (px_rd w x0 40) then
        if px_go w x0 9 = true then
          if px_ga w 0 (px_rd w x0 41) x5 = true then
            if (px_rd w (px_rd w x0 41) (x5).toNat) = x3 then
              if px_go w x0 9 = true then
                if px_ga w 0 (px_rd w x0 42) x5 = true then
                  if (px_rd w (px_rd w x0 42) (x5).toNat) = x4 then
                    if px_go w x0 9 = true then
                      some ((px_rd w x0 40), w)
                    else none
                  else
                    px_R (mm_Mod_wish, 38, [(2, x0), (0, x1), (0, x2), (0, x3), (0, x4), (0, (px_w (x5 + 1)))], [], w)
                else none
              else none
            else
              px_R (mm_Mod_wish, 38, [(2, x0), (0, x1), (0, x2), (0, x3), (0, x4), (0, (px_w (x5 + 1)))], [], w)
          else none
        else none
      else
        if px_go w x0 9 = true then
          if px_go w x0 9 = true then
            if px_ga w 0 (px_rd w x0 41) (px_rd w x0 40) = true then
              if px_go (px_wr w (px_rd w x0 41) ((px_rd w x0 40)).toNat x3) x0 9 = true then
                if px_go (px_wr w (px_rd w x0 41) ((px_rd w x0 40)).toNat x3) x0 9 = true then
                  if px_ga (px_wr w (px_rd w x0 41) ((px_rd w x0 40)).toNat x3) 0 (px_rd (px_wr w (px_rd w x0 41) ((px_rd w x0 40)).toNat x3) x0 42) (px_rd (px_wr w (px_rd w x0 41) ((px_rd w x0 40)).toNat x3) x0 40) = true then
                    if px_go (px_wr (px_wr w (px_rd w x0 41) ((px_rd w x0 40)).toNat x3) (px_rd (px_wr w (px_rd w x0 41) ((px_rd w x0 40)).toNat x3) x0 42) ((px_rd (px_wr w (px_rd w x0 41) ((px_rd w x0 40)).toNat x3) x0 40)).toNat x4) x0 9 = true then
                      if px_go (px_wr (px_wr w (px_rd w x0 41) ((px_rd w x0 40)).toNat x3) (px_rd (px_wr w (px_rd w x0 41) ((px_rd w x0 40)).toNat x3) x0 42) ((px_rd (px_wr w (px_rd w x0 41) ((px_rd w x0 40)).toNat x3) x0 40)).toNat x4) x0 9 = true then
                        if px_go (px_wr (px_wr (px_wr w (px_rd w x0 41) ((px_rd w x0 40)).toNat x3) (px_rd (px_wr w (px_rd w x0 41) ((px_rd w x0 40)).toNat x3) x0 42) ((px_rd (px_wr w (px_rd w x0 41) ((px_rd w x0 40)).toNat x3) x0 40)).toNat x4) x0 40 (px_w ((px_rd (px_wr (px_wr w (px_rd w x0 41) ((px_rd w x0 40)).toNat x3) (px_rd (px_wr w (px_rd w x0 41) ((px_rd w x0 40)).toNat x3) x0 42) ((px_rd (px_wr w (px_rd w x0 41) ((px_rd w x0 40)).toNat x3) x0 40)).toNat x4) x0 40) + 1))) x0 9 = true then
                          some ((px_rd (px_wr (px_wr (px_wr w (px_rd w x0 41) ((px_rd w x0 40)).toNat x3) (px_rd (px_wr w (px_rd w x0 41) ((px_rd w x0 40)).toNat x3) x0 42) ((px_rd (px_wr w (px_rd w x0 41) ((px_rd w x0 40)).toNat x3) x0 40)).toNat x4) x0 40 (px_w ((px_rd (px_wr (px_wr w (px_rd w x0 41) ((px_rd w x0 40)).toNat x3) (px_rd (px_wr w (px_rd w x0 41) ((px_rd w x0 40)).toNat x3) x0 42) ((px_rd (px_wr w (px_rd w x0 41) ((px_rd w x0 40)).toNat x3) x0 40)).toNat x4) x0 40) + 1))) x0 40), (px_wr (px_wr (px_wr w (px_rd w x0 41) ((px_rd w x0 40)).toNat x3) (px_rd (px_wr w (px_rd w x0 41) ((px_rd w x0 40)).toNat x3) x0 42) ((px_rd (px_wr w (px_rd w x0 41) ((px_rd w x0 40)).toNat x3) x0 40)).toNat x4) x0 40 (px_w ((px_rd (px_wr (px_wr w (px_rd w x0 41) ((px_rd w x0 40)).toNat x3) (px_rd (px_wr w (px_rd w x0 41) ((px_rd w x0 40)).toNat x3) x0 42) ((px_rd (px_wr w (px_rd w x0 41) ((px_rd w x0 40)).toNat x3) x0 40)).toNat x4) x0 40) + 1))))
                        else none
                      else none
                    else none
                  else none
                else none
              else none
            else none
          else none
        else none
    else none) := (px_Req mm_Mod_wish 38 [(2, x0), (0, x1), (0, x2), (0, x3), (0, x4), (0, x5)] [] w).trans rfl
set_option maxRecDepth 100000 in
theorem eq_Mod_yards_0 (x0 x1 x2 : Int) (w : pw) : px_R (mm_Mod_yards, 0, [(2, x0), (0, x1), (0, x2)], [], w) =
    (if px_go w x0 9 = true then
      (px_R (mm_Mod_arePair, 0, [(2, x0), (0, x1), (0, x2)], [], w)).bind fun r1 =>
      if r1.1 = 0 then
        some ((-2), r1.2)
      else
        if px_go r1.2 x0 9 = true then
          (px_R (mm_Mod_isBarred, 0, [(2, x0), (0, x1), (0, x2), (9, 0), (9, 0), (9, 0), (9, 0), (9, 0)], [], r1.2)).bind fun r2 =>
          if r2.1 = 0 then
            if px_go r2.2 x0 9 = true then
              (px_R (mm_Mod_yardsOf, 0, [(2, x0), (0, x1), (0, x2), (9, 0), (9, 0), (9, 0)], [], r2.2)).bind fun r3 =>
              some (r3.1, r3.2)
            else none
          else
            some ((-1), r2.2)
        else none
    else none) := (px_Req mm_Mod_yards 0 [(2, x0), (0, x1), (0, x2)] [] w).trans rfl
set_option maxRecDepth 100000 in
theorem eq_Taps_length_0 (x0 : Int) (w : pw) : px_R (mm_Taps_length, 0, [(0, x0)], [], w) =
    ((px_R (mm_Taps_beats, 0, [(0, x0), (9, 0), (9, 0)], [], w)).bind fun r1 =>
      (px_R (mm_Taps_bits, 0, [(0, x0), (9, 0), (9, 0), (9, 0), (9, 0)], [], r1.2)).bind fun r2 =>
        (px_R (mm_Integer_bitCount, 0, [(0, r2.1)], [], r2.2)).bind fun r3 =>
          some ((px_w (r1.1 - r3.1)), r3.2)) := (px_Req mm_Taps_length 0 [(0, x0)] [] w).trans rfl
set_option maxRecDepth 100000 in
theorem eq_Book_weigh_0 (x0 x1 x2 : Int) (w : pw) : px_R (mm_Book_weigh, 0, [(2, x0), (2, x1), (0, x2), (9, 0), (9, 0), (9, 0), (9, 0)], [], w) =
    (if px_go w x0 0 = true then
      if px_go w (px_rd w x0 13) 3 = true then
        (px_R (mm_Prod_beOne, 0, [(2, (px_rd w x0 13)), (9, 0)], [], w)).bind fun r1 =>
        px_R (mm_Book_weigh, 12, [(2, x0), (2, x1), (0, x2), (0, 0), (0, 0), (9, 0), (9, 0)], [], r1.2)
      else none
    else none) := (px_Req mm_Book_weigh 0 [(2, x0), (2, x1), (0, x2), (9, 0), (9, 0), (9, 0), (9, 0)] [] w).trans rfl
set_option maxRecDepth 100000 in
theorem eq_Book_weigh_12 (x0 x1 x2 x3 x4 : Int) (y5 y6 : pv) (w : pw) : px_R (mm_Book_weigh, 12, [(2, x0), (2, x1), (0, x2), (0, x3), (0, x4), y5, y6], [], w) =
    (if px_go w x0 0 = true then
      if x4 < (px_rd w x0 1) then
        if px_go w x0 0 = true then
          if px_ga w 0 (px_rd w x0 3) x4 = true then
            if x2 < (px_rd w (px_rd w x0 3) (x4).toNat) then
              px_R (mm_Book_weigh, 12, [(2, x0), (2, x1), (0, x2), (0, x3), (0, (px_w (x4 + 1))), y5, y6], [], w)
            else
              if px_go w x0 0 = true then
                if px_ga w 0 (px_rd w x0 4) x4 = true then
                  if (px_and (px_shr x3 (px_rd w (px_rd w x0 4) (x4).toNat)) 1) = 0 then
                    if px_go w x1 1 = true then
                      if px_go w x0 0 = true then
                        if (px_ga w 4 (px_rd w x0 12) (px_rd w (px_rd w x0 4) (x4).toNat) || (px_ga w 5 (px_rd w x0 12) (px_rd w (px_rd w x0 4) (x4).toNat) || px_ga w 6 (px_rd w x0 12) (px_rd w (px_rd w x0 4) (x4).toNat))) = true then
                          if px_go w x1 1 = true then
                            (px_R (mm_Ear_hear, 0, [(2, x1), (0, (px_rd w (px_rd w x0 4) (x4).toNat)), (0, (px_w ((px_shl 1 (px_rd w x1 0)) - 1))), (2, (px_rd w (px_rd w x0 12) ((px_rd w (px_rd w x0 4) (x4).toNat)).toNat)), (9, 0), (9, 0)], [], w)).bind fun r2 =>
                            px_R (mm_Book_weigh, 78, [(2, x0), (2, x1), (0, x2), (0, (px_or x3 (px_shl 1 (px_rd w (px_rd w x0 4) (x4).toNat)))), (0, x4), (0, (px_rd w (px_rd w x0 4) (x4).toNat)), y6], [], r2.2)
                          else none
                        else none
                      else none
                    else none
                  else
                    px_R (mm_Book_weigh, 78, [(2, x0), (2, x1), (0, x2), (0, x3), (0, x4), (0, (px_rd w (px_rd w x0 4) (x4).toNat)), y6], [], w)
                else none
              else none
          else none
        else none
      else
        some (1, w)
    else none) := (px_Req mm_Book_weigh 12 [(2, x0), (2, x1), (0, x2), (0, x3), (0, x4), y5, y6] [] w).trans rfl
set_option maxRecDepth 100000 in
theorem eq_Book_weigh_78 (x0 x1 x2 x3 x4 x5 : Int) (y6 : pv) (w : pw) : px_R (mm_Book_weigh, 78, [(2, x0), (2, x1), (0, x2), (0, x3), (0, x4), (0, x5), y6], [], w) =
    (if px_go w x0 0 = true then
      if (px_ga w 4 (px_rd w x0 12) x5 || (px_ga w 5 (px_rd w x0 12) x5 || px_ga w 6 (px_rd w x0 12) x5)) = true then
        if px_go w x0 0 = true then
          (px_R (mm_Book_writtenAsKnown, 0, [(2, x0), (0, x4), (0, x2), (9, 0), (9, 0)], [], w)).bind fun r3 =>
          if px_ga r3.2 0 (px_rd w (px_rd w x0 12) (x5).toNat) r3.1 = true then
            if (px_rd r3.2 (px_rd w (px_rd w x0 12) (x5).toNat) (r3.1).toNat) = 0 then
              some (0, r3.2)
            else
              if px_go r3.2 x0 0 = true then
                if px_go r3.2 (px_rd r3.2 x0 13) 3 = true then
                  (px_R (mm_Prod_times, 0, [(2, (px_rd r3.2 x0 13)), (0, (px_rd r3.2 (px_rd w (px_rd w x0 12) (x5).toNat) (r3.1).toNat)), (9, 0), (9, 0), (9, 0), (9, 0), (9, 0)], [], r3.2)).bind fun r4 =>
                  px_R (mm_Book_weigh, 12, [(2, x0), (2, x1), (0, x2), (0, x3), (0, (px_w (x4 + 1))), (0, x5), (0, (px_rd r3.2 (px_rd w (px_rd w x0 12) (x5).toNat) (r3.1).toNat))], [], r4.2)
                else none
              else none
          else none
        else none
      else none
    else none) := (px_Req mm_Book_weigh 78 [(2, x0), (2, x1), (0, x2), (0, x3), (0, x4), (0, x5), y6] [] w).trans rfl
set_option maxRecDepth 100000 in
theorem eq_Ear_learn_0 (x0 x1 x2 : Int) (w : pw) : px_R (mm_Ear_learn, 0, [(2, x0), (2, x1), (2, x2)], [], w) =
    (if px_go w x0 1 = true then
      (px_R (mm_Ear_begin, 0, [(2, x0), (2, x1), (2, x2), (9, 0), (9, 0), (9, 0)], [], w)).bind fun r1 =>
      if px_go r1.2 x2 2 = true then
        if px_go r1.2 x0 1 = true then
          (px_R (mm_Ear_goOn, 0, [(2, x0), (2, x1), (2, x2), (0, (px_rd r1.2 x2 2)), (9, 0), (9, 0), (9, 0), (9, 0)], [], r1.2)).bind fun r2 =>
          if (decide (0 ≤ r2.1) && decide (r2.1 < 2)) = true then some (r2.1, r2.2) else none
        else none
      else none
    else none) := (px_Req mm_Ear_learn 0 [(2, x0), (2, x1), (2, x2)] [] w).trans rfl
set_option maxRecDepth 100000 in
theorem eq_Ear_leastOf_0 (x0 x1 x2 : Int) (w : pw) : px_R (mm_Ear_leastOf, 0, [(2, x0), (0, x1), (0, x2), (9, 0), (9, 0)], [], w) =
    (px_R (mm_Ear_leastOf, 6, [(2, x0), (0, x1), (0, x2), (0, 65536), (0, 0)], [], w)) := (px_Req mm_Ear_leastOf 0 [(2, x0), (0, x1), (0, x2), (9, 0), (9, 0)] [] w).trans rfl
set_option maxRecDepth 100000 in
theorem eq_Ear_leastOf_6 (x0 x1 x2 x3 x4 : Int) (w : pw) : px_R (mm_Ear_leastOf, 6, [(2, x0), (0, x1), (0, x2), (0, x3), (0, x4)], [], w) =
    (if px_go w x0 1 = true then
      if x4 < (px_rd w x0 0) then
        if x2 < x3 then
          if (px_and (px_shr x1 x4) 1) = 1 then
            if px_go w x0 1 = true then
              if px_go w x0 1 = true then
                (px_R (mm_Ear_hear, 0, [(2, x0), (0, x4), (0, x1), (2, (px_rd w x0 4)), (9, 0), (9, 0)], [], w)).bind fun r1 =>
                if px_go r1.2 x0 1 = true then
                  if px_ga r1.2 0 (px_rd r1.2 x0 4) x4 = true then
                    (px_R (mm_Math_min, 0, [(0, x3), (0, (px_rd r1.2 (px_rd r1.2 x0 4) (x4).toNat))], [], r1.2)).bind fun r2 =>
                      px_R (mm_Ear_leastOf, 6, [(2, x0), (0, x1), (0, x2), (0, r2.1), (0, (px_w (x4 + 1)))], [], r2.2)
                  else none
                else none
              else none
            else none
          else
            px_R (mm_Ear_leastOf, 6, [(2, x0), (0, x1), (0, x2), (0, x3), (0, (px_w (x4 + 1)))], [], w)
        else
          some (x3, w)
      else
        some (x3, w)
    else none) := (px_Req mm_Ear_leastOf 6 [(2, x0), (0, x1), (0, x2), (0, x3), (0, x4)] [] w).trans rfl
set_option maxRecDepth 100000 in
theorem eq_Tape_isWord_0 (x0 x1 : Int) (w : pw) : px_R (mm_Tape_isWord, 0, [(2, x0), (3, x1), (9, 0)], [], w) =
    (if px_go w x0 6 = true then
      if (px_rd w x0 2) = 2 then
        if px_go w x0 6 = true then
          if px_go w x0 6 = true then
            if (px_w ((px_rd w x0 4) - (px_rd w x0 3))) = ((px_str (x1).toNat).length : Int) then
              px_R (mm_Tape_isWord, 28, [(2, x0), (3, x1), (0, 0)], [], w)
            else
              some (0, w)
          else none
        else none
      else
        some (0, w)
    else none) := (px_Req mm_Tape_isWord 0 [(2, x0), (3, x1), (9, 0)] [] w).trans rfl
set_option maxRecDepth 100000 in
theorem eq_Tape_isWord_28 (x0 x1 x2 : Int) (w : pw) : px_R (mm_Tape_isWord, 28, [(2, x0), (3, x1), (0, x2)], [], w) =
    (if x2 < ((px_str (x1).toNat).length : Int) then
      if px_go w x0 6 = true then
        if px_go w x0 6 = true then
          if (px_ga w 2 (px_rd w x0 0) (px_w ((px_rd w x0 3) + x2)) || px_ga w 3 (px_rd w x0 0) (px_w ((px_rd w x0 3) + x2))) = true then
            if px_gl (px_str (x1).toNat) x2 = true then
              if (px_rd w (px_rd w x0 0) ((px_w ((px_rd w x0 3) + x2))).toNat) = (px_lst (px_str (x1).toNat) (x2).toNat) then
                px_R (mm_Tape_isWord, 28, [(2, x0), (3, x1), (0, (px_w (x2 + 1)))], [], w)
              else
                some (0, w)
            else none
          else none
        else none
      else none
    else
      some (1, w)) := (px_Req mm_Tape_isWord 28 [(2, x0), (3, x1), (0, x2)] [] w).trans rfl
set_option maxRecDepth 100000 in
theorem eq_Tin_least_0 (x0 x1 x2 : Int) (w : pw) : px_R (mm_Tin_least, 0, [(2, x0), (0, x1), (0, x2)], [], w) =
    ((px_R (mm_Tin_within, 0, [(0, x1), (0, 1), (0, 4)], [], w)).bind fun r1 =>
      if r1.1 = 0 then
        some ((-2), r1.2)
      else
        (px_R (mm_Tin_within, 0, [(0, x2), (0, 0), (0, 1)], [], r1.2)).bind fun r2 =>
          if r2.1 = 0 then
            some ((-2), r2.2)
          else
            if px_go r2.2 x0 8 = true then
              if px_go r2.2 x0 8 = true then
                if px_go r2.2 (px_rd r2.2 x0 3) 7 = true then
                  (px_R (mm_Wish_search, 0, [(2, (px_rd r2.2 x0 3)), (2, (px_rd r2.2 x0 8)), (0, x1), (9, 0), (9, 0), (9, 0), (9, 0), (9, 0)], [], r2.2)).bind fun r3 =>
                  if x2 = 0 then
                    if px_go r3.2 x0 8 = true then
                      if px_go r3.2 (px_rd r3.2 x0 3) 7 = true then
                        some ((px_rd r3.2 (px_rd r3.2 x0 3) 1), r3.2)
                      else none
                    else none
                  else
                    if px_go r3.2 x0 8 = true then
                      if px_go r3.2 (px_rd r3.2 x0 3) 7 = true then
                        some ((px_rd r3.2 (px_rd r3.2 x0 3) 2), r3.2)
                      else none
                    else none
                else none
              else none
            else none) := (px_Req mm_Tin_least 0 [(2, x0), (0, x1), (0, x2)] [] w).trans rfl
set_option maxRecDepth 100000 in
theorem eq_Tin_level_0 (x0 x1 x2 : Int) (w : pw) : px_R (mm_Tin_level, 0, [(2, x0), (0, x1), (0, x2)], [], w) =
    (if px_go w x0 8 = true then
      (px_R (mm_Tin_isOne, 0, [(2, x0), (0, 2), (0, x1)], [], w)).bind fun r1 =>
      if r1.1 = 0 then
        some ((-2), r1.2)
      else
        (px_R (mm_Tin_isBand, 0, [(0, x2)], [], r1.2)).bind fun r2 =>
          if r2.1 = 0 then
            some ((-2), r2.2)
          else
            if px_go r2.2 x0 8 = true then
              (px_R (mm_Tin_lineLacks, 0, [(2, x0)], [], r2.2)).bind fun r3 =>
              if r3.1 = 0 then
                if px_go r3.2 x0 8 = true then
                  if px_go r3.2 x0 8 = true then
                    if px_go r3.2 x0 8 = true then
                      if px_go r3.2 (px_rd r3.2 x0 8) 5 = true then
                        (px_R (mm_Str_ofBand, 0, [(2, (px_rd r3.2 x0 8)), (0, 2), (0, x1), (0, x2), (9, 0)], [], r3.2)).bind fun r4 =>
                        if px_go r4.2 (px_rd r3.2 x0 1) 2 = true then
                          (px_R (mm_Line_arrives, 0, [(2, (px_rd r3.2 x0 1)), (2, (px_rd r3.2 x0 8)), (0, r4.1), (0, x2)], [], r4.2)).bind fun r5 =>
                          (px_R (mm_Line_asLevel, 0, [(0, r5.1)], [], r5.2)).bind fun r6 =>
                            some (r6.1, r6.2)
                        else none
                      else none
                    else none
                  else none
                else none
              else
                some ((-4), r3.2)
            else none
    else none) := (px_Req mm_Tin_level 0 [(2, x0), (0, x1), (0, x2)] [] w).trans rfl
set_option maxRecDepth 100000 in
theorem eq_Tin_listened_0 (x0 x1 x2 x3 : Int) (w : pw) : px_R (mm_Tin_listened, 0, [(2, x0), (0, x1), (0, x2), (0, x3), (9, 0), (9, 0), (9, 0)], [], w) =
    (if px_go w x0 8 = true then
      if px_go w x0 8 = true then
        if px_go w (px_rd w x0 0) 6 = true then
          (px_R (mm_Tape_readNumbers, 0, [(2, (px_rd w x0 0)), (2, (px_rd w x0 7)), (0, 4), (9, 0), (9, 0)], [], w)).bind fun r1 =>
          (px_R (mm_Tin_within, 0, [(0, x1), (0, 0), (0, 99999)], [], r1.2)).bind fun r2 =>
            if r2.1 = 0 then
              some ((-2), r2.2)
            else
              (px_R (mm_Tin_within, 0, [(0, x2), (0, 0), (0, 99999)], [], r2.2)).bind fun r3 =>
                if r3.1 = 0 then
                  some ((-2), r3.2)
                else
                  (px_R (mm_Tin_within, 0, [(0, x3), (0, 0), (0, 99999)], [], r3.2)).bind fun r4 =>
                    if r4.1 = 0 then
                      some ((-2), r4.2)
                    else
                      if r1.1 = 4 then
                        px_R (mm_Tin_listened, 64, [(2, x0), (0, x1), (0, x2), (0, x3), (0, r1.1), (0, 0), (0, 0)], [], r4.2)
                      else
                        some ((-1), r4.2)
        else none
      else none
    else none) := (px_Req mm_Tin_listened 0 [(2, x0), (0, x1), (0, x2), (0, x3), (9, 0), (9, 0), (9, 0)] [] w).trans rfl
set_option maxRecDepth 100000 in
theorem eq_Tin_listened_64 (x0 x1 x2 x3 x4 x5 x6 : Int) (w : pw) : px_R (mm_Tin_listened, 64, [(2, x0), (0, x1), (0, x2), (0, x3), (0, x4), (0, x5), (0, x6)], [], w) =
    (if x6 < 4 then
      if px_go w x0 8 = true then
        if px_ga w 0 (px_rd w x0 7) x6 = true then
          if 100 < (px_rd w (px_rd w x0 7) (x6).toNat) then
            some ((-1), w)
          else
            if px_go w x0 8 = true then
              if px_ga w 0 (px_rd w x0 7) x6 = true then
                (px_R (mm_Math_abs, 0, [(0, (px_w ((px_w (Int.tdiv (px_w (x1 * (px_w (100 - (px_rd w (px_rd w x0 7) (x6).toNat))))) 100)) - x2)))], [], w)).bind fun r5 =>
                  if x3 < r5.1 then
                    px_R (mm_Tin_listened, 64, [(2, x0), (0, x1), (0, x2), (0, x3), (0, x4), (0, x5), (0, (px_w (x6 + 1)))], [], r5.2)
                  else
                    px_R (mm_Tin_listened, 64, [(2, x0), (0, x1), (0, x2), (0, x3), (0, x4), (0, (px_or x5 (px_shl 1 x6))), (0, (px_w (x6 + 1)))], [], r5.2)
              else none
            else none
        else none
      else none
    else
      some (x5, w)) := (px_Req mm_Tin_listened 64 [(2, x0), (0, x1), (0, x2), (0, x3), (0, x4), (0, x5), (0, x6)] [] w).trans rfl
set_option maxRecDepth 100000 in
theorem eq_Tin_longest_0 (x0 x1 x2 x3 : Int) (w : pw) : px_R (mm_Tin_longest, 0, [(2, x0), (0, x1), (0, x2), (0, x3), (9, 0), (9, 0), (9, 0)], [], w) =
    (if px_go w x0 8 = true then
      (px_R (mm_Tin_isOne, 0, [(2, x0), (0, 2), (0, x1)], [], w)).bind fun r1 =>
      if r1.1 = 0 then
        some ((-2), r1.2)
      else
        (px_R (mm_Tin_within, 0, [(0, x2), (0, 0), (0, 65536)], [], r1.2)).bind fun r2 =>
          if r2.1 = 0 then
            some ((-2), r2.2)
          else
            (px_R (mm_Tin_within, 0, [(0, x3), (0, 1), (0, 65536)], [], r2.2)).bind fun r3 =>
              if r3.1 = 0 then
                some ((-2), r3.2)
              else
                if px_go r3.2 x0 8 = true then
                  (px_R (mm_Tin_lineLacks, 0, [(2, x0)], [], r3.2)).bind fun r4 =>
                  if r4.1 = 0 then
                    if px_go r4.2 x0 8 = true then
                      if px_go r4.2 x0 8 = true then
                        if px_go r4.2 x0 8 = true then
                          if px_go r4.2 (px_rd r4.2 x0 2) 1 = true then
                            (px_R (mm_Ear_begin, 0, [(2, (px_rd r4.2 x0 2)), (2, (px_rd r4.2 x0 8)), (2, (px_rd r4.2 x0 1)), (9, 0), (9, 0), (9, 0)], [], r4.2)).bind fun r5 =>
                            px_R (mm_Tin_longest, 66, [(2, x0), (0, x1), (0, x2), (0, x3), (0, (-1)), (0, 0), (0, 1)], [], r5.2)
                          else none
                        else none
                      else none
                    else none
                  else
                    some ((-4), r4.2)
                else none
    else none) := (px_Req mm_Tin_longest 0 [(2, x0), (0, x1), (0, x2), (0, x3), (9, 0), (9, 0), (9, 0)] [] w).trans rfl
set_option maxRecDepth 100000 in
theorem eq_Tin_longest_66 (x0 x1 x2 x3 x4 x5 x6 : Int) (w : pw) : px_R (mm_Tin_longest, 66, [(2, x0), (0, x1), (0, x2), (0, x3), (0, x4), (0, x5), (0, x6)], [], w) =
    (if 400 < x6 then
      some (x4, w)
    else
      if px_go w x0 8 = true then
        if px_go w x0 8 = true then
          if px_go w x0 8 = true then
            if px_go w (px_rd w x0 2) 1 = true then
              (px_R (mm_Ear_goOn, 0, [(2, (px_rd w x0 2)), (2, (px_rd w x0 8)), (2, (px_rd w x0 1)), (0, 1), (9, 0), (9, 0), (9, 0), (9, 0)], [], w)).bind fun r6 =>
              if r6.1 = 0 then
                if x6 = 1 then
                  px_R (mm_Tin_longest, 99, [(2, x0), (0, x1), (0, x2), (0, x3), (0, x4), (0, x5), (0, x6)], [], r6.2)
                else
                  if x5 = 0 then
                    px_R (mm_Tin_longest, 66, [(2, x0), (0, x1), (0, x2), (0, x3), (0, x4), (0, x5), (0, (px_w (x6 + 1)))], [], r6.2)
                  else
                    px_R (mm_Tin_longest, 66, [(2, x0), (0, x1), (0, x2), (0, x3), (0, x6), (0, x5), (0, (px_w (x6 + 1)))], [], r6.2)
              else
                px_R (mm_Tin_longest, 99, [(2, x0), (0, x1), (0, x2), (0, x3), (0, x4), (0, x5), (0, x6)], [], r6.2)
            else none
          else none
        else none
      else none) := (px_Req mm_Tin_longest 66 [(2, x0), (0, x1), (0, x2), (0, x3), (0, x4), (0, x5), (0, x6)] [] w).trans rfl
set_option maxRecDepth 100000 in
theorem eq_Tin_longest_99 (x0 x1 x2 x3 x4 x5 x6 : Int) (w : pw) : px_R (mm_Tin_longest, 99, [(2, x0), (0, x1), (0, x2), (0, x3), (0, x4), (0, x5), (0, x6)], [], w) =
    (if px_go w x0 8 = true then
      if px_go w x0 8 = true then
        (px_R (mm_Tin_allWords, 0, [(2, x0)], [], w)).bind fun r7 =>
        if px_go r7.2 x0 8 = true then
          if px_go r7.2 (px_rd r7.2 x0 2) 1 = true then
            if px_go r7.2 (px_rd w x0 2) 1 = true then
              (px_R (mm_Ear_hear, 0, [(2, (px_rd w x0 2)), (0, x1), (0, r7.1), (2, (px_rd r7.2 (px_rd r7.2 x0 2) 4)), (9, 0), (9, 0)], [], r7.2)).bind fun r8 =>
              if px_go r8.2 x0 8 = true then
                if px_go r8.2 (px_rd r8.2 x0 2) 1 = true then
                  if px_ga r8.2 0 (px_rd r8.2 (px_rd r8.2 x0 2) 4) x1 = true then
                    if px_go r8.2 x0 8 = true then
                      if px_go r8.2 (px_rd r8.2 x0 2) 1 = true then
                        (px_R (mm_Ear_allWays, 0, [(2, (px_rd r8.2 x0 2)), (9, 0)], [], r8.2)).bind fun r9 =>
                        if (px_cmp (px_wl ((px_rd r8.2 (px_rd r8.2 (px_rd r8.2 x0 2) 4) (x1).toNat) * x3)) (px_wl (x2 * r9.1))) < 0 then
                          if 0 = 0 then
                            px_R (mm_Tin_longest, 66, [(2, x0), (0, x1), (0, x2), (0, x3), (0, x4), (0, 0), (0, (px_w (x6 + 1)))], [], r9.2)
                          else
                            px_R (mm_Tin_longest, 66, [(2, x0), (0, x1), (0, x2), (0, x3), (0, x6), (0, 0), (0, (px_w (x6 + 1)))], [], r9.2)
                        else
                          if 1 = 0 then
                            px_R (mm_Tin_longest, 66, [(2, x0), (0, x1), (0, x2), (0, x3), (0, x4), (0, 1), (0, (px_w (x6 + 1)))], [], r9.2)
                          else
                            px_R (mm_Tin_longest, 66, [(2, x0), (0, x1), (0, x2), (0, x3), (0, x6), (0, 1), (0, (px_w (x6 + 1)))], [], r9.2)
                      else none
                    else none
                  else none
                else none
              else none
            else none
          else none
        else none
      else none
    else none) := (px_Req mm_Tin_longest 99 [(2, x0), (0, x1), (0, x2), (0, x3), (0, x4), (0, x5), (0, x6)] [] w).trans rfl
set_option maxRecDepth 100000 in
theorem eq_Tin_share_0 (x0 x1 x2 x3 : Int) (w : pw) : px_R (mm_Tin_share, 0, [(2, x0), (0, x1), (0, x2), (0, x3)], [], w) =
    (if px_go w x0 8 = true then
      if px_go w (px_rd w x0 1) 2 = true then
        (px_R (mm_Tin_within, 0, [(0, x1), (0, 0), (0, (px_w ((px_rd w (px_rd w x0 1) 6) - 1)))], [], w)).bind fun r1 =>
          if r1.1 = 0 then
            some ((-2), r1.2)
          else
            (px_R (mm_Tin_within, 0, [(0, x2), (0, 0), (0, 9)], [], r1.2)).bind fun r2 =>
              if r2.1 = 0 then
                some ((-2), r2.2)
              else
                (px_R (mm_Tin_isBand, 0, [(0, x3)], [], r2.2)).bind fun r3 =>
                  if r3.1 = 0 then
                    some ((-2), r3.2)
                  else
                    if px_go r3.2 x0 8 = true then
                      (px_R (mm_Tin_lineLacks, 0, [(2, x0)], [], r3.2)).bind fun r4 =>
                      if r4.1 = 0 then
                        if px_go r4.2 x0 8 = true then
                          if px_go r4.2 x0 8 = true then
                            if px_go r4.2 (px_rd r4.2 x0 1) 2 = true then
                              (px_R (mm_Line_tiedOff, 0, [(2, (px_rd r4.2 x0 1)), (2, (px_rd r4.2 x0 8)), (0, x1), (0, x2), (0, x3), (9, 0)], [], r4.2)).bind fun r5 =>
                              some (r5.1, r5.2)
                            else none
                          else none
                        else none
                      else
                        some ((-4), r4.2)
                    else none
      else none
    else none) := (px_Req mm_Tin_share 0 [(2, x0), (0, x1), (0, x2), (0, x3)] [] w).trans rfl
set_option maxRecDepth 100000 in
theorem eq_Tin_tapRow_0 (x0 x1 x2 : Int) (w : pw) : px_R (mm_Tin_tapRow, 0, [(2, x0), (0, x1), (0, x2)], [], w) =
    ((px_R (mm_Tin_within, 0, [(0, x1), (0, 0), (0, 99)], [], w)).bind fun r1 =>
      if r1.1 = 0 then
        some ((-2), r1.2)
      else
        if x2 = 0 then
          (px_R (mm_Taps_lasts, 0, [(0, x1)], [], r1.2)).bind fun r2 =>
            some (r2.1, r2.2)
        else if x2 = 1 then
          (px_R (mm_Taps_length, 0, [(0, x1)], [], r1.2)).bind fun r3 =>
            some (r3.1, r3.2)
        else if x2 = 2 then
          (px_R (mm_Taps_bits, 0, [(0, x1), (9, 0), (9, 0), (9, 0), (9, 0)], [], r1.2)).bind fun r4 =>
            some (r4.1, r4.2)
        else 
          some ((-2), r1.2)) := (px_Req mm_Tin_tapRow 0 [(2, x0), (0, x1), (0, x2)] [] w).trans rfl
set_option maxRecDepth 100000 in
theorem eq_Tin_taps_0 (x0 : Int) (w : pw) : px_R (mm_Tin_taps, 0, [(2, x0), (9, 0)], [], w) =
    (if px_go w x0 8 = true then
      if px_go w x0 8 = true then
        if px_go w (px_rd w x0 0) 6 = true then
          (px_R (mm_Tape_readNumbers, 0, [(2, (px_rd w x0 0)), (2, (px_rd w x0 7)), (0, 16), (9, 0), (9, 0)], [], w)).bind fun r1 =>
          if r1.1 < 1 then
            some ((-1), r1.2)
          else
            if px_go r1.2 x0 8 = true then
              (px_R (mm_Taps_together, 0, [(2, (px_rd r1.2 x0 7)), (0, r1.1), (9, 0), (9, 0), (9, 0), (9, 0)], [], r1.2)).bind fun r2 =>
                some (r2.1, r2.2)
            else none
        else none
      else none
    else none) := (px_Req mm_Tin_taps 0 [(2, x0), (9, 0)] [] w).trans rfl
set_option maxRecDepth 100000 in
theorem eq_Tin_through_0 (x0 x1 x2 : Int) (w : pw) : px_R (mm_Tin_through, 0, [(2, x0), (0, x1), (0, x2)], [], w) =
    ((px_R (mm_Tin_within, 0, [(0, x1), (0, 0), (0, 9)], [], w)).bind fun r1 =>
      if r1.1 = 0 then
        some ((-2), r1.2)
      else
        (px_R (mm_Tin_isBand, 0, [(0, x2)], [], r1.2)).bind fun r2 =>
          if r2.1 = 0 then
            some ((-2), r2.2)
          else
            if px_go r2.2 x0 8 = true then
              (px_R (mm_Tin_lineLacks, 0, [(2, x0)], [], r2.2)).bind fun r3 =>
              if r3.1 = 0 then
                if px_go r3.2 x0 8 = true then
                  if px_go r3.2 x0 8 = true then
                    if px_go r3.2 (px_rd r3.2 x0 1) 2 = true then
                      (px_R (mm_Line_arrives, 0, [(2, (px_rd r3.2 x0 1)), (2, (px_rd r3.2 x0 8)), (0, x1), (0, x2)], [], r3.2)).bind fun r4 =>
                      some (r4.1, r4.2)
                    else none
                  else none
                else none
              else
                some ((-4), r3.2)
            else none) := (px_Req mm_Tin_through 0 [(2, x0), (0, x1), (0, x2)] [] w).trans rfl
set_option maxRecDepth 100000 in
theorem eq_Mod_keyAt_0 (x0 x1 x2 : Int) (w : pw) : px_R (mm_Mod_keyAt, 0, [(2, x0), (0, x1), (0, x2), (9, 0), (9, 0), (9, 0), (9, 0), (9, 0)], [], w) =
    (px_R (mm_Mod_keyAt, 8, [(2, x0), (0, x1), (0, x2), (0, 0), (0, 0), (0, 0), (9, 0), (9, 0)], [], w)) := (px_Req mm_Mod_keyAt 0 [(2, x0), (0, x1), (0, x2), (9, 0), (9, 0), (9, 0), (9, 0), (9, 0)] [] w).trans rfl
set_option maxRecDepth 100000 in
theorem eq_Mod_keyAt_8 (x0 x1 x2 x3 x4 x5 : Int) (y6 y7 : pv) (w : pw) : px_R (mm_Mod_keyAt, 8, [(2, x0), (0, x1), (0, x2), (0, x3), (0, x4), (0, x5), y6, y7], [], w) =
    (if x5 < ((px_str 9).length : Int) then
      if px_gl (px_str 9) x5 = true then
        if (px_lst (px_str 9) (x5).toNat) = 32 then
          if (px_w (x5 - x4)) = x2 then
            px_R (mm_Mod_keyAt, 52, [(2, x0), (0, x1), (0, x2), (0, x3), (0, x4), (0, x5), (0, 1), (0, 0)], [], w)
          else
            px_R (mm_Mod_keyAt, 52, [(2, x0), (0, x1), (0, x2), (0, x3), (0, x4), (0, x5), (0, 0), (0, 0)], [], w)
        else
          px_R (mm_Mod_keyAt, 8, [(2, x0), (0, x1), (0, x2), (0, x3), (0, x4), (0, (px_w (x5 + 1))), y6, y7], [], w)
      else none
    else
      some ((-1), w)) := (px_Req mm_Mod_keyAt 8 [(2, x0), (0, x1), (0, x2), (0, x3), (0, x4), (0, x5), y6, y7] [] w).trans rfl
set_option maxRecDepth 100000 in
theorem eq_Mod_keyAt_52 (x0 x1 x2 x3 x4 x5 x6 x7 : Int) (w : pw) : px_R (mm_Mod_keyAt, 52, [(2, x0), (0, x1), (0, x2), (0, x3), (0, x4), (0, x5), (0, x6), (0, x7)], [], w) =
    (if x7 < x2 then
      if x6 = 0 then
        if x6 = 0 then
          px_R (mm_Mod_keyAt, 8, [(2, x0), (0, x1), (0, x2), (0, (px_w (x3 + 1))), (0, (px_w (x5 + 1))), (0, (px_w (x5 + 1))), (0, x6), (0, x7)], [], w)
        else
          some (x3, w)
      else
        if px_gl (px_str 9) (px_w (x4 + x7)) = true then
          if px_go w x0 9 = true then
            (px_R (mm_Mod_byteAt, 0, [(2, x0), (0, (px_w (x1 + x7)))], [], w)).bind fun r1 =>
            if (px_lst (px_str 9) ((px_w (x4 + x7))).toNat) = r1.1 then
              px_R (mm_Mod_keyAt, 52, [(2, x0), (0, x1), (0, x2), (0, x3), (0, x4), (0, x5), (0, 1), (0, (px_w (x7 + 1)))], [], r1.2)
            else
              px_R (mm_Mod_keyAt, 52, [(2, x0), (0, x1), (0, x2), (0, x3), (0, x4), (0, x5), (0, 0), (0, (px_w (x7 + 1)))], [], r1.2)
          else none
        else none
    else
      if x6 = 0 then
        px_R (mm_Mod_keyAt, 8, [(2, x0), (0, x1), (0, x2), (0, (px_w (x3 + 1))), (0, (px_w (x5 + 1))), (0, (px_w (x5 + 1))), (0, x6), (0, x7)], [], w)
      else
        some (x3, w)) := (px_Req mm_Mod_keyAt 52 [(2, x0), (0, x1), (0, x2), (0, x3), (0, x4), (0, x5), (0, x6), (0, x7)] [] w).trans rfl
set_option maxRecDepth 100000 in
theorem eq_Mod_makeLevels_0 (x0 x1 x2 x3 : Int) (w : pw) : px_R (mm_Mod_makeLevels, 0, [(2, x0), (0, x1), (0, x2), (0, x3), (9, 0), (9, 0), (9, 0)], [], w) =
    (px_R (mm_Mod_makeLevels, 3, [(2, x0), (0, x1), (0, x2), (0, x3), (0, 0), (9, 0), (9, 0)], [], w)) := (px_Req mm_Mod_makeLevels 0 [(2, x0), (0, x1), (0, x2), (0, x3), (9, 0), (9, 0), (9, 0)] [] w).trans rfl
set_option maxRecDepth 100000 in
theorem eq_Mod_makeLevels_3 (x0 x1 x2 x3 x4 : Int) (y5 y6 : pv) (w : pw) : px_R (mm_Mod_makeLevels, 3, [(2, x0), (0, x1), (0, x2), (0, x3), (0, x4), y5, y6], [], w) =
    (if px_go w x0 9 = true then
      if px_ga w 0 (px_rd w x0 12) 2 = true then
        if x4 < (px_rd w (px_rd w x0 12) 2) then
          px_R (mm_Mod_makeLevels, 17, [(2, x0), (0, x1), (0, x2), (0, x3), (0, x4), (0, 0), y6], [], w)
        else
          some (0, w)
      else none
    else none) := (px_Req mm_Mod_makeLevels 3 [(2, x0), (0, x1), (0, x2), (0, x3), (0, x4), y5, y6] [] w).trans rfl
set_option maxRecDepth 100000 in
theorem eq_Mod_makeLevels_17 (x0 x1 x2 x3 x4 x5 : Int) (y6 : pv) (w : pw) : px_R (mm_Mod_makeLevels, 17, [(2, x0), (0, x1), (0, x2), (0, x3), (0, x4), (0, x5), y6], [], w) =
    (if x5 < 4 then
      if px_go w x0 9 = true then
        if px_ga w 0 (px_rd w x0 16) (px_w ((px_w (4 * x4)) + x5)) = true then
          if px_go w x0 9 = true then
            (px_R (mm_Mod_throughOf, 0, [(2, x0), (0, x1), (0, x2), (0, x3), (0, (px_rd w (px_rd w x0 16) ((px_w ((px_w (4 * x4)) + x5))).toNat)), (0, x5)], [], w)).bind fun r1 =>
            if px_go r1.2 x0 9 = true then
              if 9 < (px_w (Int.tdiv r1.1 500)) then
                if px_ga r1.2 0 (px_rd r1.2 x0 32) (px_w ((px_w (4 * x4)) + x5)) = true then
                  px_R (mm_Mod_makeLevels, 17, [(2, x0), (0, x1), (0, x2), (0, x3), (0, x4), (0, (px_w (x5 + 1))), (0, (px_w (Int.tdiv r1.1 500)))], [], (px_wr r1.2 (px_rd r1.2 x0 32) ((px_w ((px_w (4 * x4)) + x5))).toNat 9))
                else none
              else
                if px_ga r1.2 0 (px_rd r1.2 x0 32) (px_w ((px_w (4 * x4)) + x5)) = true then
                  px_R (mm_Mod_makeLevels, 17, [(2, x0), (0, x1), (0, x2), (0, x3), (0, x4), (0, (px_w (x5 + 1))), (0, (px_w (Int.tdiv r1.1 500)))], [], (px_wr r1.2 (px_rd r1.2 x0 32) ((px_w ((px_w (4 * x4)) + x5))).toNat (px_w (Int.tdiv r1.1 500))))
                else none
            else none
          else none
        else none
      else none
    else
      px_R (mm_Mod_makeLevels, 3, [(2, x0), (0, x1), (0, x2), (0, x3), (0, (px_w (x4 + 1))), (0, x5), y6], [], w)) := (px_Req mm_Mod_makeLevels 17 [(2, x0), (0, x1), (0, x2), (0, x3), (0, x4), (0, x5), y6] [] w).trans rfl
set_option maxRecDepth 100000 in
theorem eq_Mod_through_0 (x0 x1 x2 : Int) (w : pw) : px_R (mm_Mod_through, 0, [(2, x0), (0, x1), (0, x2)], [], w) =
    ((px_R (mm_Mod_in, 0, [(0, x1), (0, 0), (0, 9)], [], w)).bind fun r1 =>
      if r1.1 = 0 then
        some ((-2), r1.2)
      else
        (px_R (mm_Mod_isBand, 0, [(0, x2)], [], r1.2)).bind fun r2 =>
          if r2.1 = 0 then
            some ((-2), r2.2)
          else
            if px_go r2.2 x0 9 = true then
              (px_R (mm_Mod_hasLine, 0, [(2, x0)], [], r2.2)).bind fun r3 =>
              if r3.1 = 0 then
                some ((-4), r3.2)
              else
                if px_go r3.2 x0 9 = true then
                  if px_go r3.2 x0 9 = true then
                    if px_go r3.2 x0 9 = true then
                      if px_go r3.2 x0 9 = true then
                        (px_R (mm_Mod_throughOf, 0, [(2, x0), (0, (px_rd r3.2 x0 24)), (0, (px_rd r3.2 x0 25)), (0, (px_rd r3.2 x0 26)), (0, x1), (0, x2)], [], r3.2)).bind fun r4 =>
                        some (r4.1, r4.2)
                      else none
                    else none
                  else none
                else none
            else none) := (px_Req mm_Mod_through 0 [(2, x0), (0, x1), (0, x2)] [] w).trans rfl
set_option maxRecDepth 100000 in
theorem eq_Mod_worst_0 (x0 x1 : Int) (w : pw) : px_R (mm_Mod_worst, 0, [(2, x0), (0, x1), (9, 0), (9, 0), (9, 0)], [], w) =
    (px_R (mm_Mod_worst, 4, [(2, x0), (0, x1), (0, (-1)), (0, 0), (9, 0)], [], w)) := (px_Req mm_Mod_worst 0 [(2, x0), (0, x1), (9, 0), (9, 0), (9, 0)] [] w).trans rfl
set_option maxRecDepth 100000 in
theorem eq_Mod_worst_4 (x0 x1 x2 x3 : Int) (y4 : pv) (w : pw) : px_R (mm_Mod_worst, 4, [(2, x0), (0, x1), (0, x2), (0, x3), y4], [], w) =
    (if px_go w x0 9 = true then
      if px_ga w 0 (px_rd w x0 12) 2 = true then
        if x3 < (px_rd w (px_rd w x0 12) 2) then
          if (px_and (px_shr x1 x3) 1) = 0 then
            px_R (mm_Mod_worst, 4, [(2, x0), (0, x1), (0, x2), (0, (px_w (x3 + 1))), y4], [], w)
          else
            if px_go w x0 9 = true then
              (px_R (mm_Mod_right_0, 0, [(2, x0), (0, x1), (0, x3)], [], w)).bind fun r1 =>
              if x2 = (-1) then
                px_R (mm_Mod_worst, 4, [(2, x0), (0, x1), (0, r1.1), (0, (px_w (x3 + 1))), (0, r1.1)], [], r1.2)
              else
                if r1.1 < x2 then
                  px_R (mm_Mod_worst, 4, [(2, x0), (0, x1), (0, r1.1), (0, (px_w (x3 + 1))), (0, r1.1)], [], r1.2)
                else
                  px_R (mm_Mod_worst, 4, [(2, x0), (0, x1), (0, x2), (0, (px_w (x3 + 1))), (0, r1.1)], [], r1.2)
            else none
        else
          some (x2, w)
      else none
    else none) := (px_Req mm_Mod_worst 4 [(2, x0), (0, x1), (0, x2), (0, x3), y4] [] w).trans rfl
set_option maxRecDepth 100000 in
theorem eq_Book_tryLaws_0 (x0 x1 x2 x3 x4 : Int) (w : pw) : px_R (mm_Book_tryLaws, 0, [(2, x0), (2, x1), (2, x2), (2, x3), (0, x4), (9, 0), (9, 0), (9, 0), (9, 0)], [], w) =
    (if px_go w x2 2 = true then
      if px_go w x2 2 = true then
        if px_go w x0 0 = true then
          if px_go (px_wr w x0 9 0) x0 0 = true then
            if px_go (px_wr (px_wr w x0 9 0) x0 10 (-1)) x0 0 = true then
              px_R (mm_Book_tryLaws, 33, [(2, x0), (2, x1), (2, x2), (2, x3), (0, x4), (0, (px_rd w x2 0)), (0, (px_rd w x2 2)), (0, 0), (0, 0)], [], (px_wr (px_wr (px_wr w x0 9 0) x0 10 (-1)) x0 11 (-1)))
            else none
          else none
        else none
      else none
    else none) := (px_Req mm_Book_tryLaws 0 [(2, x0), (2, x1), (2, x2), (2, x3), (0, x4), (9, 0), (9, 0), (9, 0), (9, 0)] [] w).trans rfl
set_option maxRecDepth 100000 in
theorem eq_Book_tryLaws_33 (x0 x1 x2 x3 x4 x5 x6 x7 x8 : Int) (w : pw) : px_R (mm_Book_tryLaws, 33, [(2, x0), (2, x1), (2, x2), (2, x3), (0, x4), (0, x5), (0, x6), (0, x7), (0, x8)], [], w) =
    (if px_go w x1 5 = true then
      if px_ga w 0 (px_rd w x1 1) 0 = true then
        if x8 < (px_w (20 * (px_rd w (px_rd w x1 1) 0))) then
          if px_go w x2 2 = true then
            if px_go (px_wr w x2 0 (px_w (Int.tdiv x8 20))) x2 2 = true then
              if px_go (px_wr (px_wr w x2 0 (px_w (Int.tdiv x8 20))) x2 2 (px_w (10 * (px_w ((Int.tmod x8 20) + 1))))) x3 1 = true then
                (px_R (mm_Ear_learn, 0, [(2, x3), (2, x1), (2, x2)], [], (px_wr (px_wr w x2 0 (px_w (Int.tdiv x8 20))) x2 2 (px_w (10 * (px_w ((Int.tmod x8 20) + 1))))))).bind fun r1 =>
                if r1.1 = 0 then
                  if x8 = 0 then
                    px_R (mm_Book_tryLaws, 84, [(2, x0), (2, x1), (2, x2), (2, x3), (0, x4), (0, x5), (0, x6), (0, x7), (0, x8)], [], r1.2)
                  else
                    px_R (mm_Book_tryLaws, 137, [(2, x0), (2, x1), (2, x2), (2, x3), (0, x4), (0, x5), (0, x6), (0, x7), (0, x8)], [], r1.2)
                else
                  px_R (mm_Book_tryLaws, 84, [(2, x0), (2, x1), (2, x2), (2, x3), (0, x4), (0, x5), (0, x6), (0, x7), (0, x8)], [], r1.2)
              else none
            else none
          else none
        else
          if px_go w x2 2 = true then
            if px_go (px_wr w x2 0 x5) x2 2 = true then
              some (0, (px_wr (px_wr w x2 0 x5) x2 2 x6))
            else none
          else none
      else none
    else none) := (px_Req mm_Book_tryLaws 33 [(2, x0), (2, x1), (2, x2), (2, x3), (0, x4), (0, x5), (0, x6), (0, x7), (0, x8)] [] w).trans rfl
set_option maxRecDepth 100000 in
theorem eq_Book_tryLaws_84 (x0 x1 x2 x3 x4 x5 x6 x7 x8 : Int) (w : pw) : px_R (mm_Book_tryLaws, 84, [(2, x0), (2, x1), (2, x2), (2, x3), (0, x4), (0, x5), (0, x6), (0, x7), (0, x8)], [], w) =
    (if px_go w x0 0 = true then
      (px_R (mm_Book_weigh, 0, [(2, x0), (2, x3), (0, x4), (9, 0), (9, 0), (9, 0), (9, 0)], [], w)).bind fun r2 =>
      if r2.1 = 0 then
        px_R (mm_Book_tryLaws, 137, [(2, x0), (2, x1), (2, x2), (2, x3), (0, x4), (0, x5), (0, x6), (0, r2.1), (0, x8)], [], r2.2)
      else
        if px_go r2.2 x0 0 = true then
          if (px_rd r2.2 x0 11) = (-1) then
            if px_go r2.2 x0 0 = true then
              if px_go (px_wr r2.2 x0 11 x8) x0 0 = true then
                if px_go (px_wr r2.2 x0 11 x8) x0 0 = true then
                  if px_go (px_wr r2.2 x0 11 x8) (px_rd (px_wr r2.2 x0 11 x8) x0 14) 3 = true then
                    (px_R (mm_Prod_become, 0, [(2, (px_rd (px_wr r2.2 x0 11 x8) x0 14)), (2, (px_rd (px_wr r2.2 x0 11 x8) x0 13)), (9, 0)], [], (px_wr r2.2 x0 11 x8))).bind fun r3 =>
                    px_R (mm_Book_tryLaws, 137, [(2, x0), (2, x1), (2, x2), (2, x3), (0, x4), (0, x5), (0, x6), (0, r2.1), (0, x8)], [], r3.2)
                  else none
                else none
              else none
            else none
          else
            if px_go r2.2 x0 0 = true then
              if px_go r2.2 x0 0 = true then
                if px_go r2.2 (px_rd r2.2 x0 13) 3 = true then
                  (px_R (mm_Prod_isAbove, 0, [(2, (px_rd r2.2 x0 13)), (2, (px_rd r2.2 x0 14)), (9, 0)], [], r2.2)).bind fun r4 =>
                  if r4.1 = 0 then
                    px_R (mm_Book_tryLaws, 137, [(2, x0), (2, x1), (2, x2), (2, x3), (0, x4), (0, x5), (0, x6), (0, r2.1), (0, x8)], [], r4.2)
                  else
                    if px_go r4.2 x0 0 = true then
                      if px_go (px_wr r4.2 x0 11 x8) x0 0 = true then
                        if px_go (px_wr r4.2 x0 11 x8) x0 0 = true then
                          if px_go (px_wr r4.2 x0 11 x8) (px_rd (px_wr r4.2 x0 11 x8) x0 14) 3 = true then
                            (px_R (mm_Prod_become, 0, [(2, (px_rd (px_wr r4.2 x0 11 x8) x0 14)), (2, (px_rd (px_wr r4.2 x0 11 x8) x0 13)), (9, 0)], [], (px_wr r4.2 x0 11 x8))).bind fun r5 =>
                            px_R (mm_Book_tryLaws, 137, [(2, x0), (2, x1), (2, x2), (2, x3), (0, x4), (0, x5), (0, x6), (0, r2.1), (0, x8)], [], r5.2)
                          else none
                        else none
                      else none
                    else none
                else none
              else none
            else none
        else none
    else none) := (px_Req mm_Book_tryLaws 84 [(2, x0), (2, x1), (2, x2), (2, x3), (0, x4), (0, x5), (0, x6), (0, x7), (0, x8)] [] w).trans rfl
set_option maxRecDepth 100000 in
theorem eq_Book_tryLaws_137 (x0 x1 x2 x3 x4 x5 x6 x7 x8 : Int) (w : pw) : px_R (mm_Book_tryLaws, 137, [(2, x0), (2, x1), (2, x2), (2, x3), (0, x4), (0, x5), (0, x6), (0, x7), (0, x8)], [], w) =
    (if x7 = 0 then
      px_R (mm_Book_tryLaws, 33, [(2, x0), (2, x1), (2, x2), (2, x3), (0, x4), (0, x5), (0, x6), (0, x7), (0, (px_w (x8 + 1)))], [], w)
    else
      if px_go w x0 0 = true then
        if px_go w x0 0 = true then
          if px_go (px_wr w x0 9 (px_w ((px_rd w x0 9) + 1))) x0 0 = true then
            if (px_rd (px_wr w x0 9 (px_w ((px_rd w x0 9) + 1))) x0 10) = (-1) then
              if px_go (px_wr w x0 9 (px_w ((px_rd w x0 9) + 1))) x0 0 = true then
                px_R (mm_Book_tryLaws, 33, [(2, x0), (2, x1), (2, x2), (2, x3), (0, x4), (0, x5), (0, x6), (0, x7), (0, (px_w (x8 + 1)))], [], (px_wr (px_wr w x0 9 (px_w ((px_rd w x0 9) + 1))) x0 10 x8))
              else none
            else
              if px_go (px_wr w x0 9 (px_w ((px_rd w x0 9) + 1))) x0 0 = true then
                if px_go (px_wr w x0 9 (px_w ((px_rd w x0 9) + 1))) x0 0 = true then
                  px_R (mm_Book_tryLaws, 33, [(2, x0), (2, x1), (2, x2), (2, x3), (0, x4), (0, x5), (0, x6), (0, x7), (0, (px_w (x8 + 1)))], [], (px_wr (px_wr w x0 9 (px_w ((px_rd w x0 9) + 1))) x0 10 (px_rd (px_wr w x0 9 (px_w ((px_rd w x0 9) + 1))) x0 10)))
                else none
              else none
          else none
        else none
      else none) := (px_Req mm_Book_tryLaws 137 [(2, x0), (2, x1), (2, x2), (2, x3), (0, x4), (0, x5), (0, x6), (0, x7), (0, x8)] [] w).trans rfl
set_option maxRecDepth 100000 in
theorem eq_Str_kindOf_0 (x0 : Int) (w : pw) : px_R (mm_Str_kindOf, 0, [(2, x0)], [], w) =
    (if px_go w x0 6 = true then
      (px_R (mm_Tape_isWord, 0, [(2, x0), (3, 0), (9, 0)], [], w)).bind fun r1 =>
      if r1.1 = 0 then
        if px_go r1.2 x0 6 = true then
          (px_R (mm_Tape_isWord, 0, [(2, x0), (3, 1), (9, 0)], [], r1.2)).bind fun r2 =>
          if r2.1 = 0 then
            if px_go r2.2 x0 6 = true then
              (px_R (mm_Tape_isWord, 0, [(2, x0), (3, 2), (9, 0)], [], r2.2)).bind fun r3 =>
              if r3.1 = 0 then
                if px_go r3.2 x0 6 = true then
                  (px_R (mm_Tape_isWord, 0, [(2, x0), (3, 3), (9, 0)], [], r3.2)).bind fun r4 =>
                  if r4.1 = 0 then
                    if px_go r4.2 x0 6 = true then
                      (px_R (mm_Tape_isWord, 0, [(2, x0), (3, 4), (9, 0)], [], r4.2)).bind fun r5 =>
                      if r5.1 = 0 then
                        if px_go r5.2 x0 6 = true then
                          (px_R (mm_Tape_isWord, 0, [(2, x0), (3, 5), (9, 0)], [], r5.2)).bind fun r6 =>
                          if r6.1 = 0 then
                            if px_go r6.2 x0 6 = true then
                              (px_R (mm_Tape_isWord, 0, [(2, x0), (3, 6), (9, 0)], [], r6.2)).bind fun r7 =>
                              if r7.1 = 0 then
                                if px_go r7.2 x0 6 = true then
                                  (px_R (mm_Tape_isWord, 0, [(2, x0), (3, 7), (9, 0)], [], r7.2)).bind fun r8 =>
                                  if r8.1 = 0 then
                                    if px_go r8.2 x0 6 = true then
                                      (px_R (mm_Tape_isWord, 0, [(2, x0), (3, 8), (9, 0)], [], r8.2)).bind fun r9 =>
                                      if r9.1 = 0 then
                                        some ((-1), r9.2)
                                      else
                                        some (8, r9.2)
                                    else none
                                  else
                                    some (7, r8.2)
                                else none
                              else
                                some (6, r7.2)
                            else none
                          else
                            some (5, r6.2)
                        else none
                      else
                        some (4, r5.2)
                    else none
                  else
                    some (3, r4.2)
                else none
              else
                some (2, r3.2)
            else none
          else
            some (1, r2.2)
        else none
      else
        some (0, r1.2)
    else none) := (px_Req mm_Str_kindOf 0 [(2, x0)] [] w).trans rfl
set_option maxRecDepth 100000 in
theorem eq_Tin_bestLoop_0 (x0 x1 : Int) (w : pw) : px_R (mm_Tin_bestLoop, 0, [(2, x0), (0, x1), (9, 0), (9, 0), (9, 0), (9, 0), (9, 0)], [], w) =
    (if px_go w x0 8 = true then
      if px_go w (px_rd w x0 1) 2 = true then
        (px_R (mm_Tin_within, 0, [(0, x1), (0, 0), (0, (px_w ((px_rd w (px_rd w x0 1) 4) - 1)))], [], w)).bind fun r1 =>
          if r1.1 = 0 then
            some ((-2), r1.2)
          else
            if px_go r1.2 x0 8 = true then
              (px_R (mm_Tin_lineLacks, 0, [(2, x0)], [], r1.2)).bind fun r2 =>
              if r2.1 = 0 then
                if px_go r2.2 x0 8 = true then
                  if px_go r2.2 (px_rd r2.2 x0 8) 5 = true then
                    if px_ga r2.2 0 (px_rd r2.2 (px_rd r2.2 x0 8) 1) 2 = true then
                      if (px_rd r2.2 (px_rd r2.2 (px_rd r2.2 x0 8) 1) 2) = 0 then
                        some ((-1), r2.2)
                      else
                        if px_go r2.2 x0 8 = true then
                          if px_go r2.2 (px_rd r2.2 x0 1) 2 = true then
                            if px_ga r2.2 0 (px_rd r2.2 (px_rd r2.2 x0 1) 5) x1 = true then
                              px_R (mm_Tin_bestLoop, 62, [(2, x0), (0, x1), (0, (px_rd r2.2 (px_rd r2.2 (px_rd r2.2 x0 1) 5) (x1).toNat)), (0, (-1)), (0, (-1)), (0, 0), (9, 0)], [], r2.2)
                            else none
                          else none
                        else none
                    else none
                  else none
                else none
              else
                some ((-4), r2.2)
            else none
      else none
    else none) := (px_Req mm_Tin_bestLoop 0 [(2, x0), (0, x1), (9, 0), (9, 0), (9, 0), (9, 0), (9, 0)] [] w).trans rfl
set_option maxRecDepth 100000 in
theorem eq_Tin_bestLoop_62 (x0 x1 x2 x3 x4 x5 : Int) (y6 : pv) (w : pw) : px_R (mm_Tin_bestLoop, 62, [(2, x0), (0, x1), (0, x2), (0, x3), (0, x4), (0, x5), y6], [], w) =
    (if px_go w x0 8 = true then
      if px_go w (px_rd w x0 8) 5 = true then
        if px_ga w 0 (px_rd w (px_rd w x0 8) 1) 5 = true then
          if x5 < (px_rd w (px_rd w (px_rd w x0 8) 1) 5) then
            if px_go w x0 8 = true then
              if px_go w (px_rd w x0 1) 2 = true then
                if px_ga w 0 (px_rd w (px_rd w x0 1) 5) x1 = true then
                  if px_go (px_wr w (px_rd w (px_rd w x0 1) 5) (x1).toNat x5) x0 8 = true then
                    if px_go (px_wr w (px_rd w (px_rd w x0 1) 5) (x1).toNat x5) x0 8 = true then
                      if px_go (px_wr w (px_rd w (px_rd w x0 1) 5) (x1).toNat x5) x0 8 = true then
                        if px_go (px_wr w (px_rd w (px_rd w x0 1) 5) (x1).toNat x5) (px_rd (px_wr w (px_rd w (px_rd w x0 1) 5) (x1).toNat x5) x0 2) 1 = true then
                          (px_R (mm_Ear_learn, 0, [(2, (px_rd (px_wr w (px_rd w (px_rd w x0 1) 5) (x1).toNat x5) x0 2)), (2, (px_rd (px_wr w (px_rd w (px_rd w x0 1) 5) (x1).toNat x5) x0 8)), (2, (px_rd (px_wr w (px_rd w (px_rd w x0 1) 5) (x1).toNat x5) x0 1))], [], (px_wr w (px_rd w (px_rd w x0 1) 5) (x1).toNat x5))).bind fun r3 =>
                          if px_go r3.2 x0 8 = true then
                            if px_go r3.2 x0 8 = true then
                              (px_R (mm_Tin_allWords, 0, [(2, x0)], [], r3.2)).bind fun r4 =>
                              if px_go r4.2 (px_rd r3.2 x0 2) 1 = true then
                                (px_R (mm_Ear_leastOf, 0, [(2, (px_rd r3.2 x0 2)), (0, r4.1), (0, x3), (9, 0), (9, 0)], [], r4.2)).bind fun r5 =>
                                if x3 < r5.1 then
                                  px_R (mm_Tin_bestLoop, 62, [(2, x0), (0, x1), (0, x2), (0, r5.1), (0, x5), (0, (px_w (x5 + 1))), (0, r5.1)], [], r5.2)
                                else
                                  px_R (mm_Tin_bestLoop, 62, [(2, x0), (0, x1), (0, x2), (0, x3), (0, x4), (0, (px_w (x5 + 1))), (0, r5.1)], [], r5.2)
                              else none
                            else none
                          else none
                        else none
                      else none
                    else none
                  else none
                else none
              else none
            else none
          else
            if px_go w x0 8 = true then
              if px_go w (px_rd w x0 1) 2 = true then
                if px_ga w 0 (px_rd w (px_rd w x0 1) 5) x1 = true then
                  some (x4, (px_wr w (px_rd w (px_rd w x0 1) 5) (x1).toNat x2))
                else none
              else none
            else none
        else none
      else none
    else none) := (px_Req mm_Tin_bestLoop 62 [(2, x0), (0, x1), (0, x2), (0, x3), (0, x4), (0, x5), y6] [] w).trans rfl
set_option maxRecDepth 100000 in
theorem eq_Tin_bestStuff_0 (x0 : Int) (w : pw) : px_R (mm_Tin_bestStuff, 0, [(2, x0), (9, 0), (9, 0), (9, 0), (9, 0), (9, 0)], [], w) =
    (if px_go w x0 8 = true then
      if px_go w (px_rd w x0 1) 2 = true then
        px_R (mm_Tin_bestStuff, 15, [(2, x0), (0, (px_rd w (px_rd w x0 1) 0)), (0, (-1)), (0, (-1)), (0, 0), (9, 0)], [], w)
      else none
    else none) := (px_Req mm_Tin_bestStuff 0 [(2, x0), (9, 0), (9, 0), (9, 0), (9, 0), (9, 0)] [] w).trans rfl
set_option maxRecDepth 100000 in
theorem eq_Tin_bestStuff_15 (x0 x1 x2 x3 x4 : Int) (y5 : pv) (w : pw) : px_R (mm_Tin_bestStuff, 15, [(2, x0), (0, x1), (0, x2), (0, x3), (0, x4), y5], [], w) =
    (if px_go w x0 8 = true then
      if px_go w (px_rd w x0 8) 5 = true then
        if px_ga w 0 (px_rd w (px_rd w x0 8) 1) 0 = true then
          if x4 < (px_rd w (px_rd w (px_rd w x0 8) 1) 0) then
            if px_go w x0 8 = true then
              if px_go w (px_rd w x0 1) 2 = true then
                if px_go (px_wr w (px_rd w x0 1) 0 x4) x0 8 = true then
                  if px_go (px_wr w (px_rd w x0 1) 0 x4) x0 8 = true then
                    if px_go (px_wr w (px_rd w x0 1) 0 x4) x0 8 = true then
                      if px_go (px_wr w (px_rd w x0 1) 0 x4) (px_rd (px_wr w (px_rd w x0 1) 0 x4) x0 2) 1 = true then
                        (px_R (mm_Ear_learn, 0, [(2, (px_rd (px_wr w (px_rd w x0 1) 0 x4) x0 2)), (2, (px_rd (px_wr w (px_rd w x0 1) 0 x4) x0 8)), (2, (px_rd (px_wr w (px_rd w x0 1) 0 x4) x0 1))], [], (px_wr w (px_rd w x0 1) 0 x4))).bind fun r1 =>
                        if px_go r1.2 x0 8 = true then
                          if px_go r1.2 x0 8 = true then
                            (px_R (mm_Tin_allWords, 0, [(2, x0)], [], r1.2)).bind fun r2 =>
                            if px_go r2.2 (px_rd r1.2 x0 2) 1 = true then
                              (px_R (mm_Ear_leastOf, 0, [(2, (px_rd r1.2 x0 2)), (0, r2.1), (0, x2), (9, 0), (9, 0)], [], r2.2)).bind fun r3 =>
                              if x2 < r3.1 then
                                px_R (mm_Tin_bestStuff, 15, [(2, x0), (0, x1), (0, r3.1), (0, x4), (0, (px_w (x4 + 1))), (0, r3.1)], [], r3.2)
                              else
                                px_R (mm_Tin_bestStuff, 15, [(2, x0), (0, x1), (0, x2), (0, x3), (0, (px_w (x4 + 1))), (0, r3.1)], [], r3.2)
                            else none
                          else none
                        else none
                      else none
                    else none
                  else none
                else none
              else none
            else none
          else
            if px_go w x0 8 = true then
              if px_go w (px_rd w x0 1) 2 = true then
                some (x3, (px_wr w (px_rd w x0 1) 0 x1))
              else none
            else none
        else none
      else none
    else none) := (px_Req mm_Tin_bestStuff 15 [(2, x0), (0, x1), (0, x2), (0, x3), (0, x4), y5] [] w).trans rfl
set_option maxRecDepth 100000 in
theorem eq_Tin_bestTin_0 (x0 : Int) (w : pw) : px_R (mm_Tin_bestTin, 0, [(2, x0), (9, 0), (9, 0), (9, 0), (9, 0), (9, 0)], [], w) =
    (if px_go w x0 8 = true then
      if px_go w (px_rd w x0 1) 2 = true then
        px_R (mm_Tin_bestTin, 15, [(2, x0), (0, (px_rd w (px_rd w x0 1) 1)), (0, (-1)), (0, (-1)), (0, 0), (9, 0)], [], w)
      else none
    else none) := (px_Req mm_Tin_bestTin 0 [(2, x0), (9, 0), (9, 0), (9, 0), (9, 0), (9, 0)] [] w).trans rfl
set_option maxRecDepth 100000 in
theorem eq_Tin_bestTin_15 (x0 x1 x2 x3 x4 : Int) (y5 : pv) (w : pw) : px_R (mm_Tin_bestTin, 15, [(2, x0), (0, x1), (0, x2), (0, x3), (0, x4), y5], [], w) =
    (if px_go w x0 8 = true then
      if px_go w (px_rd w x0 8) 5 = true then
        if px_ga w 0 (px_rd w (px_rd w x0 8) 1) 1 = true then
          if x4 < (px_rd w (px_rd w (px_rd w x0 8) 1) 1) then
            if px_go w x0 8 = true then
              if px_go w (px_rd w x0 1) 2 = true then
                if px_go (px_wr w (px_rd w x0 1) 1 x4) x0 8 = true then
                  if px_go (px_wr w (px_rd w x0 1) 1 x4) x0 8 = true then
                    if px_go (px_wr w (px_rd w x0 1) 1 x4) x0 8 = true then
                      if px_go (px_wr w (px_rd w x0 1) 1 x4) (px_rd (px_wr w (px_rd w x0 1) 1 x4) x0 2) 1 = true then
                        (px_R (mm_Ear_learn, 0, [(2, (px_rd (px_wr w (px_rd w x0 1) 1 x4) x0 2)), (2, (px_rd (px_wr w (px_rd w x0 1) 1 x4) x0 8)), (2, (px_rd (px_wr w (px_rd w x0 1) 1 x4) x0 1))], [], (px_wr w (px_rd w x0 1) 1 x4))).bind fun r1 =>
                        if px_go r1.2 x0 8 = true then
                          if px_go r1.2 x0 8 = true then
                            (px_R (mm_Tin_allWords, 0, [(2, x0)], [], r1.2)).bind fun r2 =>
                            if px_go r2.2 (px_rd r1.2 x0 2) 1 = true then
                              (px_R (mm_Ear_leastOf, 0, [(2, (px_rd r1.2 x0 2)), (0, r2.1), (0, x2), (9, 0), (9, 0)], [], r2.2)).bind fun r3 =>
                              if x2 < r3.1 then
                                px_R (mm_Tin_bestTin, 15, [(2, x0), (0, x1), (0, r3.1), (0, x4), (0, (px_w (x4 + 1))), (0, r3.1)], [], r3.2)
                              else
                                px_R (mm_Tin_bestTin, 15, [(2, x0), (0, x1), (0, x2), (0, x3), (0, (px_w (x4 + 1))), (0, r3.1)], [], r3.2)
                            else none
                          else none
                        else none
                      else none
                    else none
                  else none
                else none
              else none
            else none
          else
            if px_go w x0 8 = true then
              if px_go w (px_rd w x0 1) 2 = true then
                some (x3, (px_wr w (px_rd w x0 1) 1 x1))
              else none
            else none
        else none
      else none
    else none) := (px_Req mm_Tin_bestTin 15 [(2, x0), (0, x1), (0, x2), (0, x3), (0, x4), y5] [] w).trans rfl
set_option maxRecDepth 100000 in
theorem eq_Tin_list_0 (x0 x1 : Int) (w : pw) : px_R (mm_Tin_list, 0, [(2, x0), (0, x1), (9, 0), (9, 0), (9, 0), (9, 0)], [], w) =
    (if px_go w x0 8 = true then
      if px_go w (px_rd w x0 8) 5 = true then
        if px_ga w 0 (px_rd w (px_rd w x0 8) 1) 2 = true then
          (px_R (mm_Tin_within, 0, [(0, x1), (0, 1), (0, (px_rd w (px_rd w (px_rd w x0 8) 1) 2))], [], w)).bind fun r1 =>
            if r1.1 = 0 then
              some ((-2), r1.2)
            else
              if px_go r1.2 x0 8 = true then
                (px_R (mm_Tin_lineLacks, 0, [(2, x0)], [], r1.2)).bind fun r2 =>
                if r2.1 = 0 then
                  if px_go r2.2 x0 8 = true then
                    if px_go r2.2 x0 8 = true then
                      if px_go r2.2 x0 8 = true then
                        if px_go r2.2 (px_rd r2.2 x0 2) 1 = true then
                          (px_R (mm_Ear_learn, 0, [(2, (px_rd r2.2 x0 2)), (2, (px_rd r2.2 x0 8)), (2, (px_rd r2.2 x0 1))], [], r2.2)).bind fun r3 =>
                          px_R (mm_Tin_list, 53, [(2, x0), (0, x1), (0, (-1)), (0, (-1)), (0, 1), (9, 0)], [], r3.2)
                        else none
                      else none
                    else none
                  else none
                else
                  some ((-4), r2.2)
              else none
        else none
      else none
    else none) := (px_Req mm_Tin_list 0 [(2, x0), (0, x1), (9, 0), (9, 0), (9, 0), (9, 0)] [] w).trans rfl
set_option maxRecDepth 100000 in
theorem eq_Tin_list_53 (x0 x1 x2 x3 x4 : Int) (y5 : pv) (w : pw) : px_R (mm_Tin_list, 53, [(2, x0), (0, x1), (0, x2), (0, x3), (0, x4), y5], [], w) =
    (if px_go w x0 8 = true then
      (px_R (mm_Tin_allWords, 0, [(2, x0)], [], w)).bind fun r4 =>
      if r4.1 < x4 then
        some (x3, r4.2)
      else
        (px_R (mm_Integer_bitCount, 0, [(0, x4)], [], r4.2)).bind fun r5 =>
          if r5.1 = x1 then
            if px_go r5.2 x0 8 = true then
              if px_go r5.2 (px_rd r5.2 x0 2) 1 = true then
                (px_R (mm_Ear_leastOf, 0, [(2, (px_rd r5.2 x0 2)), (0, x4), (0, x2), (9, 0), (9, 0)], [], r5.2)).bind fun r6 =>
                if x2 < r6.1 then
                  px_R (mm_Tin_list, 53, [(2, x0), (0, x1), (0, r6.1), (0, x4), (0, (px_w (x4 + 1))), (0, r6.1)], [], r6.2)
                else
                  px_R (mm_Tin_list, 53, [(2, x0), (0, x1), (0, x2), (0, x3), (0, (px_w (x4 + 1))), (0, r6.1)], [], r6.2)
              else none
            else none
          else
            px_R (mm_Tin_list, 53, [(2, x0), (0, x1), (0, x2), (0, x3), (0, (px_w (x4 + 1))), y5], [], r5.2)
    else none) := (px_Req mm_Tin_list 53 [(2, x0), (0, x1), (0, x2), (0, x3), (0, x4), y5] [] w).trans rfl
set_option maxRecDepth 100000 in
theorem eq_Tin_said_0 (x0 x1 x2 : Int) (w : pw) : px_R (mm_Tin_said, 0, [(2, x0), (0, x1), (0, x2)], [], w) =
    (if px_go w x0 8 = true then
      (px_R (mm_Tin_isOne, 0, [(2, x0), (0, 2), (0, x1)], [], w)).bind fun r1 =>
      if r1.1 = 0 then
        some ((-2), r1.2)
      else
        if x2 < 0 then
          some ((-2), r1.2)
        else
          if px_go r1.2 x0 8 = true then
            (px_R (mm_Tin_lineLacks, 0, [(2, x0)], [], r1.2)).bind fun r2 =>
            if r2.1 = 0 then
              if px_go r2.2 x0 8 = true then
                if px_go r2.2 x0 8 = true then
                  if px_go r2.2 x0 8 = true then
                    if px_go r2.2 (px_rd r2.2 x0 2) 1 = true then
                      (px_R (mm_Ear_learn, 0, [(2, (px_rd r2.2 x0 2)), (2, (px_rd r2.2 x0 8)), (2, (px_rd r2.2 x0 1))], [], r2.2)).bind fun r3 =>
                      if px_go r3.2 x0 8 = true then
                        if px_go r3.2 (px_rd r3.2 x0 2) 1 = true then
                          (px_R (mm_Ear_hearOnce, 0, [(2, (px_rd r3.2 x0 2)), (0, x1), (0, x2), (9, 0), (9, 0), (9, 0), (9, 0), (9, 0), (9, 0)], [], r3.2)).bind fun r4 =>
                          some (r4.1, r4.2)
                        else none
                      else none
                    else none
                  else none
                else none
              else none
            else
              some ((-4), r2.2)
          else none
    else none) := (px_Req mm_Tin_said 0 [(2, x0), (0, x1), (0, x2)] [] w).trans rfl
set_option maxRecDepth 100000 in
theorem eq_Tin_takenFor_0 (x0 x1 x2 x3 : Int) (w : pw) : px_R (mm_Tin_takenFor, 0, [(2, x0), (0, x1), (0, x2), (0, x3)], [], w) =
    (if px_go w x0 8 = true then
      (px_R (mm_Tin_lineLacks, 0, [(2, x0)], [], w)).bind fun r1 =>
      if r1.1 = 0 then
        if px_go r1.2 x0 8 = true then
          if px_go r1.2 x0 8 = true then
            if px_go r1.2 x0 8 = true then
              if px_go r1.2 (px_rd r1.2 x0 2) 1 = true then
                (px_R (mm_Ear_learn, 0, [(2, (px_rd r1.2 x0 2)), (2, (px_rd r1.2 x0 8)), (2, (px_rd r1.2 x0 1))], [], r1.2)).bind fun r2 =>
                if px_go r2.2 x0 8 = true then
                  if px_go r2.2 x0 8 = true then
                    if px_go r2.2 (px_rd r2.2 x0 2) 1 = true then
                      if px_go r2.2 (px_rd r2.2 x0 2) 1 = true then
                        (px_R (mm_Ear_hear, 0, [(2, (px_rd r2.2 x0 2)), (0, x2), (0, x1), (2, (px_rd r2.2 (px_rd r2.2 x0 2) 4)), (9, 0), (9, 0)], [], r2.2)).bind fun r3 =>
                        if px_go r3.2 x0 8 = true then
                          if px_go r3.2 (px_rd r3.2 x0 2) 1 = true then
                            if px_ga r3.2 0 (px_rd r3.2 (px_rd r3.2 x0 2) 4) x3 = true then
                              some ((px_rd r3.2 (px_rd r3.2 (px_rd r3.2 x0 2) 4) (x3).toNat), r3.2)
                            else none
                          else none
                        else none
                      else none
                    else none
                  else none
                else none
              else none
            else none
          else none
        else none
      else
        some ((-4), r1.2)
    else none) := (px_Req mm_Tin_takenFor 0 [(2, x0), (0, x1), (0, x2), (0, x3)] [] w).trans rfl
set_option maxRecDepth 100000 in
theorem eq_Mod_best_0 (x0 x1 : Int) (w : pw) : px_R (mm_Mod_best, 0, [(2, x0), (0, x1), (9, 0), (9, 0), (9, 0), (9, 0)], [], w) =
    ((px_R (mm_Mod_in, 0, [(0, x1), (0, 0), (0, 1)], [], w)).bind fun r1 =>
      if r1.1 = 0 then
        some ((-2), r1.2)
      else
        if px_go r1.2 x0 9 = true then
          (px_R (mm_Mod_hasLine, 0, [(2, x0)], [], r1.2)).bind fun r2 =>
          if r2.1 = 0 then
            some ((-4), r2.2)
          else
            if px_go r2.2 x0 9 = true then
              if px_ga r2.2 0 (px_rd r2.2 x0 12) 2 = true then
                if (px_rd r2.2 (px_rd r2.2 x0 12) 2) = 0 then
                  some ((-1), r2.2)
                else
                  px_R (mm_Mod_best, 40, [(2, x0), (0, x1), (0, (-1)), (0, 0), (0, 0), (9, 0)], [], r2.2)
              else none
            else none
        else none) := (px_Req mm_Mod_best 0 [(2, x0), (0, x1), (9, 0), (9, 0), (9, 0), (9, 0)] [] w).trans rfl
set_option maxRecDepth 100000 in
theorem eq_Mod_best_40 (x0 x1 x2 x3 x4 : Int) (y5 : pv) (w : pw) : px_R (mm_Mod_best, 40, [(2, x0), (0, x1), (0, x2), (0, x3), (0, x4), y5], [], w) =
    (if px_go w x0 9 = true then
      if px_ga w 0 (px_rd w x0 12) x1 = true then
        if x4 < (px_rd w (px_rd w x0 12) (x1).toNat) then
          if x1 = 0 then
            if x1 = 1 then
              px_R (mm_Mod_best, 79, [(2, x0), (0, x1), (0, x2), (0, x3), (0, x4), y5], [(0, x4), (0, x4), (2, x0)], w)
            else
              if px_go w x0 9 = true then
                px_R (mm_Mod_best, 79, [(2, x0), (0, x1), (0, x2), (0, x3), (0, x4), y5], [(0, (px_rd w x0 25)), (0, x4), (2, x0)], w)
              else none
          else
            if px_go w x0 9 = true then
              if x1 = 1 then
                px_R (mm_Mod_best, 79, [(2, x0), (0, x1), (0, x2), (0, x3), (0, x4), y5], [(0, x4), (0, (px_rd w x0 24)), (2, x0)], w)
              else
                if px_go w x0 9 = true then
                  px_R (mm_Mod_best, 79, [(2, x0), (0, x1), (0, x2), (0, x3), (0, x4), y5], [(0, (px_rd w x0 25)), (0, (px_rd w x0 24)), (2, x0)], w)
                else none
            else none
        else
          some (x2, w)
      else none
    else none) := (px_Req mm_Mod_best 40 [(2, x0), (0, x1), (0, x2), (0, x3), (0, x4), y5] [] w).trans rfl
set_option maxRecDepth 100000 in
theorem eq_Mod_best_79 (x0 x1 x2 x3 x4 s0 s1 s2 : Int) (y5 : pv) (w : pw) : px_R (mm_Mod_best, 79, [(2, x0), (0, x1), (0, x2), (0, x3), (0, x4), y5], [(0, s2), (0, s1), (2, s0)], w) =
    (if px_go w x0 9 = true then
      if px_go w s0 9 = true then
        (px_R (mm_Mod_makeLevels, 0, [(2, s0), (0, s1), (0, s2), (0, (px_rd w x0 26)), (9, 0), (9, 0), (9, 0)], [], w)).bind fun r3 =>
        if px_go r3.2 x0 9 = true then
          (px_R (mm_Mod_allWords, 0, [(2, x0)], [], r3.2)).bind fun r4 =>
          if px_go r4.2 x0 9 = true then
            (px_R (mm_Mod_worst, 0, [(2, x0), (0, r4.1), (9, 0), (9, 0), (9, 0)], [], r4.2)).bind fun r5 =>
            if x2 = (-1) then
              px_R (mm_Mod_best, 40, [(2, x0), (0, x1), (0, x4), (0, r5.1), (0, (px_w (x4 + 1))), (0, r5.1)], [], r5.2)
            else
              if x3 < r5.1 then
                px_R (mm_Mod_best, 40, [(2, x0), (0, x1), (0, x4), (0, r5.1), (0, (px_w (x4 + 1))), (0, r5.1)], [], r5.2)
              else
                px_R (mm_Mod_best, 40, [(2, x0), (0, x1), (0, x2), (0, x3), (0, (px_w (x4 + 1))), (0, r5.1)], [], r5.2)
          else none
        else none
      else none
    else none) := (px_Req mm_Mod_best 79 [(2, x0), (0, x1), (0, x2), (0, x3), (0, x4), y5] [(0, s2), (0, s1), (2, s0)] w).trans rfl
set_option maxRecDepth 100000 in
theorem eq_Mod_lets_0 (x0 x1 x2 : Int) (w : pw) : px_R (mm_Mod_lets, 0, [(2, x0), (0, x1), (0, x2), (9, 0), (9, 0)], [], w) =
    (if px_go w x0 9 = true then
      if px_go w x0 9 = true then
        (px_R (mm_Mod_makeLevels, 0, [(2, x0), (0, (px_w (Int.tdiv x1 20))), (0, (px_rd w x0 25)), (0, (px_w (10 * (px_w ((Int.tmod x1 20) + 1))))), (9, 0), (9, 0), (9, 0)], [], w)).bind fun r1 =>
        px_R (mm_Mod_lets, 23, [(2, x0), (0, x1), (0, x2), (0, 0), (9, 0)], [], r1.2)
      else none
    else none) := (px_Req mm_Mod_lets 0 [(2, x0), (0, x1), (0, x2), (9, 0), (9, 0)] [] w).trans rfl
set_option maxRecDepth 100000 in
theorem eq_Mod_lets_23 (x0 x1 x2 x3 : Int) (w : pw) : px_R (mm_Mod_lets, 23, [(2, x0), (0, x1), (0, x2), (0, x3), (9, 0)], [], w) =
    (if x3 < 30 then
      if px_go w x0 9 = true then
        if x3 = 0 then
          if px_ga w 0 (px_rd w x0 60) x3 = true then
            px_R (mm_Mod_lets, 23, [(2, x0), (0, x1), (0, x2), (0, (px_w (x3 + 1))), (9, 0)], [], (px_wr w (px_rd w x0 60) (x3).toNat 1))
          else none
        else
          if px_ga w 0 (px_rd w x0 60) x3 = true then
            px_R (mm_Mod_lets, 23, [(2, x0), (0, x1), (0, x2), (0, (px_w (x3 + 1))), (9, 0)], [], (px_wr w (px_rd w x0 60) (x3).toNat 0))
          else none
      else none
    else
      px_R (mm_Mod_lets, 52, [(2, x0), (0, x1), (0, x2), (0, 0), (9, 0)], [], w)) := (px_Req mm_Mod_lets 23 [(2, x0), (0, x1), (0, x2), (0, x3), (9, 0)] [] w).trans rfl
set_option maxRecDepth 100000 in
theorem eq_Mod_lets_52 (x0 x1 x2 x3 : Int) (y4 : pv) (w : pw) : px_R (mm_Mod_lets, 52, [(2, x0), (0, x1), (0, x2), (0, x3), y4], [], w) =
    (if px_go w x0 9 = true then
      if x3 < (px_rd w x0 51) then
        if px_go w x0 9 = true then
          if px_ga w 0 (px_rd w x0 54) x3 = true then
            if x2 < (px_rd w (px_rd w x0 54) (x3).toNat) then
              px_R (mm_Mod_lets, 52, [(2, x0), (0, x1), (0, x2), (0, (px_w (x3 + 1))), y4], [], w)
            else
              if px_go w x0 9 = true then
                (px_R (mm_Mod_allWords, 0, [(2, x0)], [], w)).bind fun r2 =>
                if px_go r2.2 x0 9 = true then
                  if px_ga r2.2 0 (px_rd r2.2 x0 55) x3 = true then
                    if px_go r2.2 x0 9 = true then
                      (px_R (mm_Mod_listen, 0, [(2, x0), (0, r2.1), (0, (px_rd r2.2 (px_rd r2.2 x0 55) (x3).toNat)), (9, 0), (9, 0), (9, 0), (9, 0), (9, 0), (9, 0), (9, 0)], [], r2.2)).bind fun r3 =>
                      if px_go r3.2 x0 9 = true then
                        if px_go r3.2 x0 9 = true then
                          (px_R (mm_Mod_wroteAt, 0, [(2, x0), (0, x3), (0, x2), (9, 0), (9, 0)], [], r3.2)).bind fun r4 =>
                          if px_ga r4.2 0 (px_rd r3.2 x0 34) r4.1 = true then
                            if (px_rd r4.2 (px_rd r3.2 x0 34) (r4.1).toNat) = 0 then
                              some (0, r4.2)
                            else
                              if px_go r4.2 x0 9 = true then
                                (px_R (mm_Mod_times, 0, [(2, x0), (0, (px_rd r4.2 (px_rd r3.2 x0 34) (r4.1).toNat)), (9, 0), (9, 0), (9, 0), (9, 0), (9, 0)], [], r4.2)).bind fun r5 =>
                                px_R (mm_Mod_lets, 52, [(2, x0), (0, x1), (0, x2), (0, (px_w (x3 + 1))), (0, (px_rd r4.2 (px_rd r3.2 x0 34) (r4.1).toNat))], [], r5.2)
                              else none
                          else none
                        else none
                      else none
                    else none
                  else none
                else none
              else none
          else none
        else none
      else
        some (1, w)
    else none) := (px_Req mm_Mod_lets 52 [(2, x0), (0, x1), (0, x2), (0, x3), y4] [] w).trans rfl
set_option maxRecDepth 100000 in
theorem eq_Mod_longest_0 (x0 x1 x2 x3 : Int) (w : pw) : px_R (mm_Mod_longest, 0, [(2, x0), (0, x1), (0, x2), (0, x3), (9, 0)], [], w) =
    (if px_go w x0 9 = true then
      (px_R (mm_Mod_is, 0, [(2, x0), (0, 2), (0, x1)], [], w)).bind fun r1 =>
      if r1.1 = 0 then
        some ((-2), r1.2)
      else
        (px_R (mm_Mod_in, 0, [(0, x2), (0, 0), (0, 65536)], [], r1.2)).bind fun r2 =>
          if r2.1 = 0 then
            some ((-2), r2.2)
          else
            (px_R (mm_Mod_in, 0, [(0, x3), (0, 1), (0, 65536)], [], r2.2)).bind fun r3 =>
              if r3.1 = 0 then
                some ((-2), r3.2)
              else
                if px_go r3.2 x0 9 = true then
                  (px_R (mm_Mod_hasLine, 0, [(2, x0)], [], r3.2)).bind fun r4 =>
                  if r4.1 = 0 then
                    some ((-4), r4.2)
                  else
                    px_R (mm_Mod_longest, 49, [(2, x0), (0, x1), (0, x2), (0, x3), (0, 400)], [], r4.2)
                else none
    else none) := (px_Req mm_Mod_longest 0 [(2, x0), (0, x1), (0, x2), (0, x3), (9, 0)] [] w).trans rfl
set_option maxRecDepth 100000 in
theorem eq_Mod_longest_49 (x0 x1 x2 x3 x4 : Int) (w : pw) : px_R (mm_Mod_longest, 49, [(2, x0), (0, x1), (0, x2), (0, x3), (0, x4)], [], w) =
    (if 0 < x4 then
      if px_go w x0 9 = true then
        if px_go w x0 9 = true then
          if px_go w x0 9 = true then
            (px_R (mm_Mod_makeLevels, 0, [(2, x0), (0, (px_rd w x0 24)), (0, (px_rd w x0 25)), (0, x4), (9, 0), (9, 0), (9, 0)], [], w)).bind fun r5 =>
            if px_go r5.2 x0 9 = true then
              (px_R (mm_Mod_allWords, 0, [(2, x0)], [], r5.2)).bind fun r6 =>
              if px_go r6.2 x0 9 = true then
                (px_R (mm_Mod_right_0, 0, [(2, x0), (0, r6.1), (0, x1)], [], r6.2)).bind fun r7 =>
                if px_go r7.2 x0 9 = true then
                  (px_R (mm_Mod_allWays, 0, [(2, x0), (9, 0), (9, 0)], [], r7.2)).bind fun r8 =>
                  if (px_cmp (px_wl (r7.1 * x3)) (px_wl (x2 * r8.1))) < 0 then
                    px_R (mm_Mod_longest, 49, [(2, x0), (0, x1), (0, x2), (0, x3), (0, (px_w (x4 + (-1))))], [], r8.2)
                  else
                    some (x4, r8.2)
                else none
              else none
            else none
          else none
        else none
      else none
    else
      some ((-1), w)) := (px_Req mm_Mod_longest 49 [(2, x0), (0, x1), (0, x2), (0, x3), (0, x4)] [] w).trans rfl
set_option maxRecDepth 100000 in
theorem eq_Mod_makeOwn_0 (x0 : Int) (w : pw) : px_R (mm_Mod_makeOwn, 0, [(2, x0)], [], w) =
    (if px_go w x0 9 = true then
      if px_go w x0 9 = true then
        if px_go w x0 9 = true then
          if px_go w x0 9 = true then
            (px_R (mm_Mod_makeLevels, 0, [(2, x0), (0, (px_rd w x0 24)), (0, (px_rd w x0 25)), (0, (px_rd w x0 26)), (9, 0), (9, 0), (9, 0)], [], w)).bind fun r1 =>
            some (0, r1.2)
          else none
        else none
      else none
    else none) := (px_Req mm_Mod_makeOwn 0 [(2, x0)] [] w).trans rfl
set_option maxRecDepth 100000 in
theorem eq_Mod_scan_0 (x0 : Int) (w : pw) : px_R (mm_Mod_scan, 0, [(2, x0), (9, 0), (9, 0), (9, 0)], [], w) =
    (if px_go w x0 9 = true then
      px_R (mm_Mod_scan, 5, [(2, x0), (0, (px_rd w x0 6)), (9, 0), (9, 0)], [], w)
    else none) := (px_Req mm_Mod_scan 0 [(2, x0), (9, 0), (9, 0), (9, 0)] [] w).trans rfl
set_option maxRecDepth 100000 in
theorem eq_Mod_scan_5 (x0 x1 : Int) (w : pw) : px_R (mm_Mod_scan, 5, [(2, x0), (0, x1), (9, 0), (9, 0)], [], w) =
    (if px_go w x0 9 = true then
      (px_R (mm_Mod_byteAt, 0, [(2, x0), (0, x1)], [], w)).bind fun r1 =>
      if r1.1 = 32 then
        px_R (mm_Mod_scan, 5, [(2, x0), (0, (px_w (x1 + 1))), (9, 0), (9, 0)], [], r1.2)
      else
        if px_go r1.2 x0 9 = true then
          (px_R (mm_Mod_byteAt, 0, [(2, x0), (0, x1)], [], r1.2)).bind fun r2 =>
          if r2.1 = 10 then
            px_R (mm_Mod_scan, 5, [(2, x0), (0, (px_w (x1 + 1))), (9, 0), (9, 0)], [], r2.2)
          else
            if px_go r2.2 x0 9 = true then
              if px_go (px_wr r2.2 x0 5 x1) x0 9 = true then
                (px_R (mm_Mod_byteAt, 0, [(2, x0), (0, x1)], [], (px_wr r2.2 x0 5 x1))).bind fun r3 =>
                if px_go r3.2 x0 9 = true then
                  if r3.1 = (-1) then
                    if px_go (px_wr r3.2 x0 4 (-1)) x0 9 = true then
                      px_R (mm_Mod_scan, 270, [(2, x0), (0, x1), (0, r3.1), (0, x1)], [], (px_wr (px_wr r3.2 x0 4 (-1)) x0 3 4))
                    else none
                  else
                    (px_R (mm_Mod_isSmall, 0, [(0, r3.1)], [], (px_wr r3.2 x0 4 (-1)))).bind fun r4 =>
                      if r4.1 = 0 then
                        (px_R (mm_Mod_isDigit, 0, [(0, r3.1)], [], r4.2)).bind fun r5 =>
                          if r5.1 = 0 then
                            if r3.1 = 59 then
                              if px_go r5.2 x0 9 = true then
                                px_R (mm_Mod_scan, 270, [(2, x0), (0, x1), (0, r3.1), (0, (px_w (x1 + 1)))], [], (px_wr r5.2 x0 3 3))
                              else none
                            else
                              if px_go r5.2 x0 9 = true then
                                px_R (mm_Mod_scan, 270, [(2, x0), (0, x1), (0, r3.1), (0, (px_w (x1 + 1)))], [], (px_wr r5.2 x0 3 0))
                              else none
                          else
                            if px_go r5.2 x0 9 = true then
                              px_R (mm_Mod_scan, 185, [(2, x0), (0, x1), (0, r3.1), (0, (px_w (x1 + 1)))], [], (px_wr r5.2 x0 7 (px_w (r3.1 - 48))))
                            else none
                      else
                        if px_go r4.2 x0 9 = true then
                          px_R (mm_Mod_scan, 80, [(2, x0), (0, x1), (0, r3.1), (0, x1)], [], (px_wr r4.2 x0 10 0))
                        else none
                else none
              else none
            else none
        else none
    else none) := (px_Req mm_Mod_scan 5 [(2, x0), (0, x1), (9, 0), (9, 0)] [] w).trans rfl
set_option maxRecDepth 100000 in
theorem eq_Mod_scan_80 (x0 x1 x2 x3 : Int) (w : pw) : px_R (mm_Mod_scan, 80, [(2, x0), (0, x1), (0, x2), (0, x3)], [], w) =
    (if px_go w x0 9 = true then
      (px_R (mm_Mod_byteAt, 0, [(2, x0), (0, x3)], [], w)).bind fun r6 =>
      (px_R (mm_Mod_isSmall, 0, [(0, r6.1)], [], r6.2)).bind fun r7 =>
        if r7.1 = 0 then
          if 8 < (px_w (x3 - x1)) then
            px_R (mm_Mod_scan, 144, [(2, x0), (0, x1), (0, x2), (0, x3)], [(0, 0), (2, x0)], r7.2)
          else
            px_R (mm_Mod_scan, 144, [(2, x0), (0, x1), (0, x2), (0, x3)], [(0, 1), (2, x0)], r7.2)
        else
          if (px_w (x3 - x1)) < 8 then
            if px_go r7.2 x0 9 = true then
              if px_go r7.2 x0 9 = true then
                (px_R (mm_Mod_byteAt, 0, [(2, x0), (0, x3)], [], r7.2)).bind fun r8 =>
                if px_go r8.2 x0 9 = true then
                  px_R (mm_Mod_scan, 80, [(2, x0), (0, x1), (0, x2), (0, (px_w (x3 + 1)))], [], (px_wr r8.2 x0 10 (px_wl ((px_wl ((px_wl ((px_wl (32 * (px_rd r7.2 x0 10))) + r8.1)) - 97)) + 1))))
                else none
              else none
            else none
          else
            px_R (mm_Mod_scan, 80, [(2, x0), (0, x1), (0, x2), (0, (px_w (x3 + 1)))], [], r7.2)
    else none) := (px_Req mm_Mod_scan 80 [(2, x0), (0, x1), (0, x2), (0, x3)] [] w).trans rfl
set_option maxRecDepth 100000 in
theorem eq_Mod_scan_144 (x0 x1 x2 x3 s0 s1 : Int) (w : pw) : px_R (mm_Mod_scan, 144, [(2, x0), (0, x1), (0, x2), (0, x3)], [(0, s1), (2, s0)], w) =
    (if px_go w s0 9 = true then
      if px_go (px_wr w s0 3 s1) x0 9 = true then
        if (px_rd (px_wr w s0 3 s1) x0 3) = 1 then
          if px_go (px_wr w s0 3 s1) x0 9 = true then
            (px_R (mm_Mod_keyAt, 0, [(2, x0), (0, x1), (0, (px_w (x3 - x1))), (9, 0), (9, 0), (9, 0), (9, 0), (9, 0)], [], (px_wr w s0 3 s1))).bind fun r9 =>
            if px_go r9.2 x0 9 = true then
              px_R (mm_Mod_scan, 270, [(2, x0), (0, x1), (0, x2), (0, x3)], [], (px_wr r9.2 x0 4 r9.1))
            else none
          else none
        else
          px_R (mm_Mod_scan, 270, [(2, x0), (0, x1), (0, x2), (0, x3)], [], (px_wr w s0 3 s1))
      else none
    else none) := (px_Req mm_Mod_scan 144 [(2, x0), (0, x1), (0, x2), (0, x3)] [(0, s1), (2, s0)] w).trans rfl
set_option maxRecDepth 100000 in
theorem eq_Mod_scan_185 (x0 x1 x2 x3 : Int) (w : pw) : px_R (mm_Mod_scan, 185, [(2, x0), (0, x1), (0, x2), (0, x3)], [], w) =
    (if px_go w x0 9 = true then
      (px_R (mm_Mod_byteAt, 0, [(2, x0), (0, x3)], [], w)).bind fun r10 =>
      (px_R (mm_Mod_isDigit, 0, [(0, r10.1)], [], r10.2)).bind fun r11 =>
        if r11.1 = 0 then
          if 4 < (px_w (x3 - x1)) then
            if px_go r11.2 x0 9 = true then
              px_R (mm_Mod_scan, 270, [(2, x0), (0, x1), (0, x2), (0, x3)], [], (px_wr r11.2 x0 3 0))
            else none
          else
            if px_go r11.2 x0 9 = true then
              px_R (mm_Mod_scan, 270, [(2, x0), (0, x1), (0, x2), (0, x3)], [], (px_wr r11.2 x0 3 2))
            else none
        else
          if (px_w (x3 - x1)) < 4 then
            if px_go r11.2 x0 9 = true then
              if px_go r11.2 x0 9 = true then
                (px_R (mm_Mod_byteAt, 0, [(2, x0), (0, x3)], [], r11.2)).bind fun r12 =>
                if px_go r12.2 x0 9 = true then
                  px_R (mm_Mod_scan, 185, [(2, x0), (0, x1), (0, x2), (0, (px_w (x3 + 1)))], [], (px_wr r12.2 x0 7 (px_w ((px_w ((px_w (10 * (px_rd r11.2 x0 7))) + r12.1)) - 48))))
                else none
              else none
            else none
          else
            if px_go r11.2 x0 9 = true then
              if px_go r11.2 x0 9 = true then
                px_R (mm_Mod_scan, 185, [(2, x0), (0, x1), (0, x2), (0, (px_w (x3 + 1)))], [], (px_wr r11.2 x0 7 (px_rd r11.2 x0 7)))
              else none
            else none
    else none) := (px_Req mm_Mod_scan 185 [(2, x0), (0, x1), (0, x2), (0, x3)] [] w).trans rfl
set_option maxRecDepth 100000 in
theorem eq_Mod_scan_270 (x0 x1 x2 x3 : Int) (w : pw) : px_R (mm_Mod_scan, 270, [(2, x0), (0, x1), (0, x2), (0, x3)], [], w) =
    (if px_go w x0 9 = true then
      some (0, (px_wr w x0 6 x3))
    else none) := (px_Req mm_Mod_scan 270 [(2, x0), (0, x1), (0, x2), (0, x3)] [] w).trans rfl
set_option maxRecDepth 100000 in
theorem eq_Str_readClause_0 (x0 x1 : Int) (w : pw) : px_R (mm_Str_readClause, 0, [(2, x0), (2, x1), (9, 0), (9, 0), (9, 0)], [], w) =
    ((px_R (mm_Str_kindOf, 0, [(2, x1)], [], w)).bind fun r1 =>
      if r1.1 = (-1) then
        some (1, r1.2)
      else
        if px_go r1.2 x0 5 = true then
          if px_ga r1.2 0 (px_rd r1.2 x0 1) r1.1 = true then
            if px_gl (px_sar 0) r1.1 = true then
              if (px_rd r1.2 (px_rd r1.2 x0 1) (r1.1).toNat) < (px_lst (px_sar 0) (r1.1).toNat) then
                (px_R (mm_Str_isNamed, 0, [(0, r1.1)], [], r1.2)).bind fun r2 =>
                  if r2.1 = 0 then
                    px_R (mm_Str_readClause, 59, [(2, x0), (2, x1), (0, r1.1), (0, 0), (0, 0)], [], r2.2)
                  else
                    if px_go r2.2 x0 5 = true then
                      (px_R (mm_Str_readName, 0, [(2, x0), (2, x1), (0, r1.1), (9, 0)], [], r2.2)).bind fun r3 =>
                      px_R (mm_Str_readClause, 59, [(2, x0), (2, x1), (0, r1.1), (0, r3.1), (0, 0)], [], r3.2)
                    else none
              else
                if r1.1 < 6 then
                  some (4, r1.2)
                else
                  some (3, r1.2)
            else none
          else none
        else none) := (px_Req mm_Str_readClause 0 [(2, x0), (2, x1), (9, 0), (9, 0), (9, 0)] [] w).trans rfl
set_option maxRecDepth 100000 in
theorem eq_Str_readClause_59 (x0 x1 x2 x3 x4 : Int) (w : pw) : px_R (mm_Str_readClause, 59, [(2, x0), (2, x1), (0, x2), (0, x3), (0, x4)], [], w) =
    (if px_gl (px_sar 1) x2 = true then
      if x4 < (px_lst (px_sar 1) (x2).toNat) then
        if x3 = 0 then
          if px_go w x0 5 = true then
            (px_R (mm_Str_readNumber, 0, [(2, x0), (2, x1), (0, x2), (0, x4), (9, 0), (9, 0), (9, 0), (9, 0), (9, 0)], [], w)).bind fun r4 =>
            px_R (mm_Str_readClause, 59, [(2, x0), (2, x1), (0, x2), (0, r4.1), (0, (px_w (x4 + 1)))], [], r4.2)
          else none
        else
          px_R (mm_Str_readClause, 88, [(2, x0), (2, x1), (0, x2), (0, x3), (0, x4)], [], w)
      else
        px_R (mm_Str_readClause, 88, [(2, x0), (2, x1), (0, x2), (0, x3), (0, x4)], [], w)
    else none) := (px_Req mm_Str_readClause 59 [(2, x0), (2, x1), (0, x2), (0, x3), (0, x4)] [] w).trans rfl
set_option maxRecDepth 100000 in
theorem eq_Str_readClause_88 (x0 x1 x2 x3 x4 : Int) (w : pw) : px_R (mm_Str_readClause, 88, [(2, x0), (2, x1), (0, x2), (0, x3), (0, x4)], [], w) =
    (if x3 = 0 then
      if px_go w x1 6 = true then
        (px_R (mm_Tape_readNext, 0, [(2, x1)], [], w)).bind fun r5 =>
        if px_go r5.2 x1 6 = true then
          if (px_rd r5.2 x1 2) = 4 then
            if px_go r5.2 x0 5 = true then
              if px_ga r5.2 0 (px_rd r5.2 x0 1) x2 = true then
                if px_ga r5.2 0 (px_rd r5.2 x0 1) x2 = true then
                  some (0, (px_wr r5.2 (px_rd r5.2 x0 1) (x2).toNat (px_w ((px_rd r5.2 (px_rd r5.2 x0 1) (x2).toNat) + 1))))
                else none
              else none
            else none
          else
            some (1, r5.2)
        else none
      else none
    else
      some (x3, w)) := (px_Req mm_Str_readClause 88 [(2, x0), (2, x1), (0, x2), (0, x3), (0, x4)] [] w).trans rfl
set_option maxRecDepth 100000 in
theorem eq_Tin_among_0 (x0 x1 x2 x3 : Int) (w : pw) : px_R (mm_Tin_among, 0, [(2, x0), (0, x1), (0, x2), (0, x3)], [], w) =
    (if px_go w x0 8 = true then
      (px_R (mm_Tin_allWords, 0, [(2, x0)], [], w)).bind fun r1 =>
      (px_R (mm_Tin_within, 0, [(0, x1), (0, 0), (0, r1.1)], [], r1.2)).bind fun r2 =>
        if r2.1 = 0 then
          some ((-2), r2.2)
        else
          if px_go r2.2 x0 8 = true then
            (px_R (mm_Tin_isOne, 0, [(2, x0), (0, 2), (0, x2)], [], r2.2)).bind fun r3 =>
            if r3.1 = 0 then
              some ((-2), r3.2)
            else
              if px_go r3.2 x0 8 = true then
                (px_R (mm_Tin_isOne, 0, [(2, x0), (0, 2), (0, x3)], [], r3.2)).bind fun r4 =>
                if r4.1 = 0 then
                  some ((-2), r4.2)
                else
                  if (px_and (px_shr x1 x2) 1) = 0 then
                    some ((-2), r4.2)
                  else
                    if (px_and (px_shr x1 x3) 1) = 0 then
                      some ((-2), r4.2)
                    else
                      if px_go r4.2 x0 8 = true then
                        (px_R (mm_Tin_takenFor, 0, [(2, x0), (0, x1), (0, x2), (0, x3)], [], r4.2)).bind fun r5 =>
                        some (r5.1, r5.2)
                      else none
              else none
          else none
    else none) := (px_Req mm_Tin_among 0 [(2, x0), (0, x1), (0, x2), (0, x3)] [] w).trans rfl
set_option maxRecDepth 100000 in
theorem eq_Tin_best_0 (x0 x1 : Int) (w : pw) : px_R (mm_Tin_best, 0, [(2, x0), (0, x1)], [], w) =
    ((px_R (mm_Tin_within, 0, [(0, x1), (0, 0), (0, 1)], [], w)).bind fun r1 =>
      if r1.1 = 0 then
        some ((-2), r1.2)
      else
        if px_go r1.2 x0 8 = true then
          (px_R (mm_Tin_lineLacks, 0, [(2, x0)], [], r1.2)).bind fun r2 =>
          if r2.1 = 0 then
            if px_go r2.2 x0 8 = true then
              if px_go r2.2 (px_rd r2.2 x0 8) 5 = true then
                if px_ga r2.2 0 (px_rd r2.2 (px_rd r2.2 x0 8) 1) 2 = true then
                  if (px_rd r2.2 (px_rd r2.2 (px_rd r2.2 x0 8) 1) 2) = 0 then
                    some ((-1), r2.2)
                  else
                    if x1 = 0 then
                      if px_go r2.2 x0 8 = true then
                        (px_R (mm_Tin_bestStuff, 0, [(2, x0), (9, 0), (9, 0), (9, 0), (9, 0), (9, 0)], [], r2.2)).bind fun r4 =>
                        some (r4.1, r4.2)
                      else none
                    else
                      if px_go r2.2 x0 8 = true then
                        (px_R (mm_Tin_bestTin, 0, [(2, x0), (9, 0), (9, 0), (9, 0), (9, 0), (9, 0)], [], r2.2)).bind fun r3 =>
                        some (r3.1, r3.2)
                      else none
                else none
              else none
            else none
          else
            some ((-4), r2.2)
        else none) := (px_Req mm_Tin_best 0 [(2, x0), (0, x1)] [] w).trans rfl
set_option maxRecDepth 100000 in
theorem eq_Tin_fit_0 (x0 x1 x2 : Int) (w : pw) : px_R (mm_Tin_fit, 0, [(2, x0), (0, x1), (0, x2)], [], w) =
    ((px_R (mm_Tin_within, 0, [(0, x1), (0, 0), (0, 999)], [], w)).bind fun r1 =>
      if r1.1 = 0 then
        some ((-2), r1.2)
      else
        (px_R (mm_Tin_within, 0, [(0, x2), (0, 0), (0, 2)], [], r1.2)).bind fun r2 =>
          if r2.1 = 0 then
            some ((-2), r2.2)
          else
            if px_go r2.2 x0 8 = true then
              (px_R (mm_Tin_lineLacks, 0, [(2, x0)], [], r2.2)).bind fun r3 =>
              if r3.1 = 0 then
                if px_go r3.2 x0 8 = true then
                  if px_go r3.2 x0 8 = true then
                    if px_go r3.2 x0 8 = true then
                      if px_go r3.2 x0 8 = true then
                        if px_go r3.2 (px_rd r3.2 x0 4) 0 = true then
                          (px_R (mm_Book_tryLaws, 0, [(2, (px_rd r3.2 x0 4)), (2, (px_rd r3.2 x0 8)), (2, (px_rd r3.2 x0 1)), (2, (px_rd r3.2 x0 2)), (0, x1), (9, 0), (9, 0), (9, 0), (9, 0)], [], r3.2)).bind fun r4 =>
                          if x2 = 0 then
                            if px_go r4.2 x0 8 = true then
                              if px_go r4.2 (px_rd r4.2 x0 4) 0 = true then
                                some ((px_rd r4.2 (px_rd r4.2 x0 4) 9), r4.2)
                              else none
                            else none
                          else
                            if x2 = 1 then
                              if px_go r4.2 x0 8 = true then
                                if px_go r4.2 (px_rd r4.2 x0 4) 0 = true then
                                  some ((px_rd r4.2 (px_rd r4.2 x0 4) 10), r4.2)
                                else none
                              else none
                            else
                              if px_go r4.2 x0 8 = true then
                                if px_go r4.2 (px_rd r4.2 x0 4) 0 = true then
                                  some ((px_rd r4.2 (px_rd r4.2 x0 4) 11), r4.2)
                                else none
                              else none
                        else none
                      else none
                    else none
                  else none
                else none
              else
                some ((-4), r3.2)
            else none) := (px_Req mm_Tin_fit 0 [(2, x0), (0, x1), (0, x2)] [] w).trans rfl
set_option maxRecDepth 100000 in
theorem eq_Tin_table_0 (x0 x1 x2 : Int) (w : pw) : px_R (mm_Tin_table, 0, [(2, x0), (0, x1), (0, x2)], [], w) =
    (if px_go w x0 8 = true then
      (px_R (mm_Tin_isOne, 0, [(2, x0), (0, 2), (0, x1)], [], w)).bind fun r1 =>
      if r1.1 = 0 then
        some ((-2), r1.2)
      else
        if px_go r1.2 x0 8 = true then
          (px_R (mm_Tin_isOne, 0, [(2, x0), (0, 2), (0, x2)], [], r1.2)).bind fun r2 =>
          if r2.1 = 0 then
            some ((-2), r2.2)
          else
            if px_go r2.2 x0 8 = true then
              (px_R (mm_Tin_allWords, 0, [(2, x0)], [], r2.2)).bind fun r3 =>
              if px_go r3.2 x0 8 = true then
                (px_R (mm_Tin_takenFor, 0, [(2, x0), (0, r3.1), (0, x1), (0, x2)], [], r3.2)).bind fun r4 =>
                some (r4.1, r4.2)
              else none
            else none
        else none
    else none) := (px_Req mm_Tin_table 0 [(2, x0), (0, x1), (0, x2)] [] w).trans rfl
set_option maxRecDepth 100000 in
theorem eq_Mod_among_0 (x0 x1 x2 x3 : Int) (w : pw) : px_R (mm_Mod_among, 0, [(2, x0), (0, x1), (0, x2), (0, x3)], [], w) =
    (if px_go w x0 9 = true then
      (px_R (mm_Mod_is, 0, [(2, x0), (0, 2), (0, x2)], [], w)).bind fun r1 =>
      if r1.1 = 0 then
        some ((-2), r1.2)
      else
        if px_go r1.2 x0 9 = true then
          (px_R (mm_Mod_is, 0, [(2, x0), (0, 2), (0, x3)], [], r1.2)).bind fun r2 =>
          if r2.1 = 0 then
            some ((-2), r2.2)
          else
            if px_go r2.2 x0 9 = true then
              (px_R (mm_Mod_allWords, 0, [(2, x0)], [], r2.2)).bind fun r3 =>
              (px_R (mm_Mod_in, 0, [(0, x1), (0, 0), (0, r3.1)], [], r3.2)).bind fun r4 =>
                if r4.1 = 0 then
                  some ((-2), r4.2)
                else
                  if (px_and (px_shr x1 x2) 1) = 0 then
                    some ((-2), r4.2)
                  else
                    if (px_and (px_shr x1 x3) 1) = 0 then
                      some ((-2), r4.2)
                    else
                      if px_go r4.2 x0 9 = true then
                        (px_R (mm_Mod_hasLine, 0, [(2, x0)], [], r4.2)).bind fun r5 =>
                        if r5.1 = 0 then
                          some ((-4), r5.2)
                        else
                          if px_go r5.2 x0 9 = true then
                            (px_R (mm_Mod_makeOwn, 0, [(2, x0)], [], r5.2)).bind fun r6 =>
                            if px_go r6.2 x0 9 = true then
                              (px_R (mm_Mod_listen, 0, [(2, x0), (0, x1), (0, x2), (9, 0), (9, 0), (9, 0), (9, 0), (9, 0), (9, 0), (9, 0)], [], r6.2)).bind fun r7 =>
                              if px_go r7.2 x0 9 = true then
                                if px_ga r7.2 0 (px_rd r7.2 x0 34) x3 = true then
                                  some ((px_rd r7.2 (px_rd r7.2 x0 34) (x3).toNat), r7.2)
                                else none
                              else none
                            else none
                          else none
                      else none
            else none
        else none
    else none) := (px_Req mm_Mod_among 0 [(2, x0), (0, x1), (0, x2), (0, x3)] [] w).trans rfl
set_option maxRecDepth 100000 in
theorem eq_Mod_bestLoop_0 (x0 x1 : Int) (w : pw) : px_R (mm_Mod_bestLoop, 0, [(2, x0), (0, x1), (9, 0), (9, 0), (9, 0), (9, 0), (9, 0)], [], w) =
    (if px_go w x0 9 = true then
      (px_R (mm_Mod_in, 0, [(0, x1), (0, 0), (0, (px_w ((px_rd w x0 28) - 1)))], [], w)).bind fun r1 =>
        if r1.1 = 0 then
          some ((-2), r1.2)
        else
          if px_go r1.2 x0 9 = true then
            (px_R (mm_Mod_hasLine, 0, [(2, x0)], [], r1.2)).bind fun r2 =>
            if r2.1 = 0 then
              some ((-4), r2.2)
            else
              if px_go r2.2 x0 9 = true then
                if px_ga r2.2 0 (px_rd r2.2 x0 12) 2 = true then
                  if (px_rd r2.2 (px_rd r2.2 x0 12) 2) = 0 then
                    some ((-1), r2.2)
                  else
                    if px_go r2.2 x0 9 = true then
                      if px_ga r2.2 0 (px_rd r2.2 x0 12) 5 = true then
                        if (px_rd r2.2 (px_rd r2.2 x0 12) 5) = 0 then
                          some ((-1), r2.2)
                        else
                          if px_go r2.2 x0 9 = true then
                            if px_ga r2.2 0 (px_rd r2.2 x0 30) x1 = true then
                              px_R (mm_Mod_bestLoop, 62, [(2, x0), (0, x1), (0, (px_rd r2.2 (px_rd r2.2 x0 30) (x1).toNat)), (0, (-1)), (0, 0), (0, 0), (9, 0)], [], r2.2)
                            else none
                          else none
                      else none
                    else none
                else none
              else none
          else none
    else none) := (px_Req mm_Mod_bestLoop 0 [(2, x0), (0, x1), (9, 0), (9, 0), (9, 0), (9, 0), (9, 0)] [] w).trans rfl
set_option maxRecDepth 100000 in
theorem eq_Mod_bestLoop_62 (x0 x1 x2 x3 x4 x5 : Int) (y6 : pv) (w : pw) : px_R (mm_Mod_bestLoop, 62, [(2, x0), (0, x1), (0, x2), (0, x3), (0, x4), (0, x5), y6], [], w) =
    (if px_go w x0 9 = true then
      if px_ga w 0 (px_rd w x0 12) 5 = true then
        if x5 < (px_rd w (px_rd w x0 12) 5) then
          if px_go w x0 9 = true then
            if px_ga w 0 (px_rd w x0 30) x1 = true then
              if px_go (px_wr w (px_rd w x0 30) (x1).toNat x5) x0 9 = true then
                (px_R (mm_Mod_makeOwn, 0, [(2, x0)], [], (px_wr w (px_rd w x0 30) (x1).toNat x5))).bind fun r3 =>
                if px_go r3.2 x0 9 = true then
                  (px_R (mm_Mod_allWords, 0, [(2, x0)], [], r3.2)).bind fun r4 =>
                  if px_go r4.2 x0 9 = true then
                    (px_R (mm_Mod_worst, 0, [(2, x0), (0, r4.1), (9, 0), (9, 0), (9, 0)], [], r4.2)).bind fun r5 =>
                    if x3 = (-1) then
                      px_R (mm_Mod_bestLoop, 62, [(2, x0), (0, x1), (0, x2), (0, x5), (0, r5.1), (0, (px_w (x5 + 1))), (0, r5.1)], [], r5.2)
                    else
                      if x4 < r5.1 then
                        px_R (mm_Mod_bestLoop, 62, [(2, x0), (0, x1), (0, x2), (0, x5), (0, r5.1), (0, (px_w (x5 + 1))), (0, r5.1)], [], r5.2)
                      else
                        px_R (mm_Mod_bestLoop, 62, [(2, x0), (0, x1), (0, x2), (0, x3), (0, x4), (0, (px_w (x5 + 1))), (0, r5.1)], [], r5.2)
                  else none
                else none
              else none
            else none
          else none
        else
          if px_go w x0 9 = true then
            if px_ga w 0 (px_rd w x0 30) x1 = true then
              some (x3, (px_wr w (px_rd w x0 30) (x1).toNat x2))
            else none
          else none
      else none
    else none) := (px_Req mm_Mod_bestLoop 62 [(2, x0), (0, x1), (0, x2), (0, x3), (0, x4), (0, x5), y6] [] w).trans rfl
set_option maxRecDepth 100000 in
theorem eq_Mod_fit_0 (x0 x1 x2 : Int) (w : pw) : px_R (mm_Mod_fit, 0, [(2, x0), (0, x1), (0, x2), (9, 0), (9, 0), (9, 0), (9, 0), (9, 0)], [], w) =
    ((px_R (mm_Mod_in, 0, [(0, x1), (0, 0), (0, 999)], [], w)).bind fun r1 =>
      if r1.1 = 0 then
        some ((-2), r1.2)
      else
        (px_R (mm_Mod_in, 0, [(0, x2), (0, 0), (0, 2)], [], r1.2)).bind fun r2 =>
          if r2.1 = 0 then
            some ((-2), r2.2)
          else
            if px_go r2.2 x0 9 = true then
              (px_R (mm_Mod_hasLine, 0, [(2, x0)], [], r2.2)).bind fun r3 =>
              if r3.1 = 0 then
                some ((-4), r3.2)
              else
                px_R (mm_Mod_fit, 44, [(2, x0), (0, x1), (0, x2), (0, 0), (0, (-1)), (0, (-1)), (0, 0), (9, 0)], [], r3.2)
            else none) := (px_Req mm_Mod_fit 0 [(2, x0), (0, x1), (0, x2), (9, 0), (9, 0), (9, 0), (9, 0), (9, 0)] [] w).trans rfl
set_option maxRecDepth 100000 in
theorem eq_Mod_fit_44 (x0 x1 x2 x3 x4 x5 x6 : Int) (y7 : pv) (w : pw) : px_R (mm_Mod_fit, 44, [(2, x0), (0, x1), (0, x2), (0, x3), (0, x4), (0, x5), (0, x6), y7], [], w) =
    (if px_go w x0 9 = true then
      if px_ga w 0 (px_rd w x0 12) 0 = true then
        if x6 < (px_w (20 * (px_rd w (px_rd w x0 12) 0))) then
          if px_go w x0 9 = true then
            (px_R (mm_Mod_lets, 0, [(2, x0), (0, x6), (0, x1), (9, 0), (9, 0)], [], w)).bind fun r4 =>
            if r4.1 = 0 then
              px_R (mm_Mod_fit, 44, [(2, x0), (0, x1), (0, x2), (0, x3), (0, x4), (0, x5), (0, (px_w (x6 + 1))), y7], [], r4.2)
            else
              if x4 = (-1) then
                px_R (mm_Mod_fit, 87, [(2, x0), (0, x1), (0, x2), (0, (px_w (x3 + 1))), (0, x4), (0, x5), (0, x6), y7], [(0, x6)], r4.2)
              else
                px_R (mm_Mod_fit, 87, [(2, x0), (0, x1), (0, x2), (0, (px_w (x3 + 1))), (0, x4), (0, x5), (0, x6), y7], [(0, x4)], r4.2)
          else none
        else
          if x2 = 0 then
            some (x3, w)
          else
            if x2 = 1 then
              some (x4, w)
            else
              some (x5, w)
      else none
    else none) := (px_Req mm_Mod_fit 44 [(2, x0), (0, x1), (0, x2), (0, x3), (0, x4), (0, x5), (0, x6), y7] [] w).trans rfl
set_option maxRecDepth 100000 in
theorem eq_Mod_fit_87 (x0 x1 x2 x3 x4 x5 x6 s0 : Int) (y7 : pv) (w : pw) : px_R (mm_Mod_fit, 87, [(2, x0), (0, x1), (0, x2), (0, x3), (0, x4), (0, x5), (0, x6), y7], [(0, s0)], w) =
    (if x5 = (-1) then
      px_R (mm_Mod_fit, 112, [(2, x0), (0, x1), (0, x2), (0, x3), (0, s0), (0, x6), (0, x6), (0, 0)], [], w)
    else
      if px_go w x0 9 = true then
        (px_R (mm_Mod_isGreater, 0, [(2, x0), (9, 0)], [], w)).bind fun r5 =>
        if r5.1 = 0 then
          px_R (mm_Mod_fit, 44, [(2, x0), (0, x1), (0, x2), (0, x3), (0, s0), (0, x5), (0, (px_w (x6 + 1))), y7], [], r5.2)
        else
          px_R (mm_Mod_fit, 112, [(2, x0), (0, x1), (0, x2), (0, x3), (0, s0), (0, x6), (0, x6), (0, 0)], [], r5.2)
      else none) := (px_Req mm_Mod_fit 87 [(2, x0), (0, x1), (0, x2), (0, x3), (0, x4), (0, x5), (0, x6), y7] [(0, s0)] w).trans rfl
set_option maxRecDepth 100000 in
theorem eq_Mod_fit_112 (x0 x1 x2 x3 x4 x5 x6 x7 : Int) (w : pw) : px_R (mm_Mod_fit, 112, [(2, x0), (0, x1), (0, x2), (0, x3), (0, x4), (0, x5), (0, x6), (0, x7)], [], w) =
    (if x7 < 30 then
      if px_go w x0 9 = true then
        if px_go w x0 9 = true then
          if px_ga w 0 (px_rd w x0 60) x7 = true then
            if px_ga w 0 (px_rd w x0 61) x7 = true then
              px_R (mm_Mod_fit, 112, [(2, x0), (0, x1), (0, x2), (0, x3), (0, x4), (0, x5), (0, x6), (0, (px_w (x7 + 1)))], [], (px_wr w (px_rd w x0 61) (x7).toNat (px_rd w (px_rd w x0 60) (x7).toNat)))
            else none
          else none
        else none
      else none
    else
      px_R (mm_Mod_fit, 44, [(2, x0), (0, x1), (0, x2), (0, x3), (0, x4), (0, x5), (0, (px_w (x6 + 1))), (0, x7)], [], w)) := (px_Req mm_Mod_fit 112 [(2, x0), (0, x1), (0, x2), (0, x3), (0, x4), (0, x5), (0, x6), (0, x7)] [] w).trans rfl
set_option maxRecDepth 100000 in
theorem eq_Mod_level_0 (x0 x1 x2 : Int) (w : pw) : px_R (mm_Mod_level, 0, [(2, x0), (0, x1), (0, x2)], [], w) =
    (if px_go w x0 9 = true then
      (px_R (mm_Mod_is, 0, [(2, x0), (0, 2), (0, x1)], [], w)).bind fun r1 =>
      if r1.1 = 0 then
        some ((-2), r1.2)
      else
        (px_R (mm_Mod_isBand, 0, [(0, x2)], [], r1.2)).bind fun r2 =>
          if r2.1 = 0 then
            some ((-2), r2.2)
          else
            if px_go r2.2 x0 9 = true then
              (px_R (mm_Mod_hasLine, 0, [(2, x0)], [], r2.2)).bind fun r3 =>
              if r3.1 = 0 then
                some ((-4), r3.2)
              else
                if px_go r3.2 x0 9 = true then
                  (px_R (mm_Mod_makeOwn, 0, [(2, x0)], [], r3.2)).bind fun r4 =>
                  if px_go r4.2 x0 9 = true then
                    if px_ga r4.2 0 (px_rd r4.2 x0 32) (px_w ((px_w (4 * x1)) + x2)) = true then
                      some ((px_rd r4.2 (px_rd r4.2 x0 32) ((px_w ((px_w (4 * x1)) + x2))).toNat), r4.2)
                    else none
                  else none
                else none
            else none
    else none) := (px_Req mm_Mod_level 0 [(2, x0), (0, x1), (0, x2)] [] w).trans rfl
set_option maxRecDepth 100000 in
theorem eq_Mod_list_0 (x0 x1 : Int) (w : pw) : px_R (mm_Mod_list, 0, [(2, x0), (0, x1), (9, 0), (9, 0), (9, 0), (9, 0)], [], w) =
    (if px_go w x0 9 = true then
      if px_ga w 0 (px_rd w x0 12) 2 = true then
        (px_R (mm_Mod_in, 0, [(0, x1), (0, 1), (0, (px_rd w (px_rd w x0 12) 2))], [], w)).bind fun r1 =>
          if r1.1 = 0 then
            some ((-2), r1.2)
          else
            if px_go r1.2 x0 9 = true then
              (px_R (mm_Mod_hasLine, 0, [(2, x0)], [], r1.2)).bind fun r2 =>
              if r2.1 = 0 then
                some ((-4), r2.2)
              else
                if px_go r2.2 x0 9 = true then
                  (px_R (mm_Mod_makeOwn, 0, [(2, x0)], [], r2.2)).bind fun r3 =>
                  px_R (mm_Mod_list, 38, [(2, x0), (0, x1), (0, (-1)), (0, 0), (0, 1), (9, 0)], [], r3.2)
                else none
            else none
      else none
    else none) := (px_Req mm_Mod_list 0 [(2, x0), (0, x1), (9, 0), (9, 0), (9, 0), (9, 0)] [] w).trans rfl
set_option maxRecDepth 100000 in
theorem eq_Mod_list_38 (x0 x1 x2 x3 x4 : Int) (y5 : pv) (w : pw) : px_R (mm_Mod_list, 38, [(2, x0), (0, x1), (0, x2), (0, x3), (0, x4), y5], [], w) =
    (if px_go w x0 9 = true then
      (px_R (mm_Mod_allWords, 0, [(2, x0)], [], w)).bind fun r4 =>
      if r4.1 < x4 then
        some (x2, r4.2)
      else
        (px_R (mm_Mod_bits, 0, [(0, x4), (9, 0), (9, 0)], [], r4.2)).bind fun r5 =>
          if r5.1 = x1 then
            if px_go r5.2 x0 9 = true then
              (px_R (mm_Mod_worst, 0, [(2, x0), (0, x4), (9, 0), (9, 0), (9, 0)], [], r5.2)).bind fun r6 =>
              if x2 = (-1) then
                px_R (mm_Mod_list, 38, [(2, x0), (0, x1), (0, x4), (0, r6.1), (0, (px_w (x4 + 1))), (0, r6.1)], [], r6.2)
              else
                if x3 < r6.1 then
                  px_R (mm_Mod_list, 38, [(2, x0), (0, x1), (0, x4), (0, r6.1), (0, (px_w (x4 + 1))), (0, r6.1)], [], r6.2)
                else
                  px_R (mm_Mod_list, 38, [(2, x0), (0, x1), (0, x2), (0, x3), (0, (px_w (x4 + 1))), (0, r6.1)], [], r6.2)
            else none
          else
            px_R (mm_Mod_list, 38, [(2, x0), (0, x1), (0, x2), (0, x3), (0, (px_w (x4 + 1))), y5], [], r5.2)
    else none) := (px_Req mm_Mod_list 38 [(2, x0), (0, x1), (0, x2), (0, x3), (0, x4), y5] [] w).trans rfl
set_option maxRecDepth 100000 in
theorem eq_Mod_readName_0 (x0 x1 x2 : Int) (w : pw) : px_R (mm_Mod_readName, 0, [(2, x0), (0, x1), (0, x2), (9, 0), (9, 0)], [], w) =
    (if px_go w x0 9 = true then
      if px_ga w 0 (px_rd w x0 12) (px_w (9 + x1)) = true then
        if (px_rd w (px_rd w x0 12) ((px_w (9 + x1))).toNat) = x2 then
          if px_go w x0 9 = true then
            (px_R (mm_Mod_fails, 0, [(2, x0), (0, 4)], [], w)).bind fun r3 =>
            if (decide (0 ≤ r3.1) && decide (r3.1 < 2)) = true then some (r3.1, r3.2) else none
          else none
        else
          if px_go w x0 9 = true then
            (px_R (mm_Mod_scan, 0, [(2, x0), (9, 0), (9, 0), (9, 0)], [], w)).bind fun r1 =>
            if px_go r1.2 x0 9 = true then
              if (px_rd r1.2 x0 3) = 1 then
                px_R (mm_Mod_readName, 42, [(2, x0), (0, x1), (0, x2), (0, (px_rd w (px_rd w x0 12) ((px_w (9 + x1))).toNat)), (0, 0)], [], r1.2)
              else
                if px_go r1.2 x0 9 = true then
                  (px_R (mm_Mod_fails, 0, [(2, x0), (0, 1)], [], r1.2)).bind fun r2 =>
                  if (decide (0 ≤ r2.1) && decide (r2.1 < 2)) = true then some (r2.1, r2.2) else none
                else none
            else none
          else none
      else none
    else none) := (px_Req mm_Mod_readName 0 [(2, x0), (0, x1), (0, x2), (9, 0), (9, 0)] [] w).trans rfl
set_option maxRecDepth 100000 in
theorem eq_Mod_readName_42 (x0 x1 x2 x3 x4 : Int) (w : pw) : px_R (mm_Mod_readName, 42, [(2, x0), (0, x1), (0, x2), (0, x3), (0, x4)], [], w) =
    (if x4 < x3 then
      if px_go w x0 9 = true then
        if px_ga w 1 (px_rd w x0 13) (px_w ((px_w (6 * x1)) + x4)) = true then
          if px_go w x0 9 = true then
            if (px_cmp (px_rd w (px_rd w x0 13) ((px_w ((px_w (6 * x1)) + x4))).toNat) (px_rd w x0 10)) = 0 then
              if px_go w x0 9 = true then
                (px_R (mm_Mod_fails, 0, [(2, x0), (0, 3)], [], w)).bind fun r5 =>
                if (decide (0 ≤ r5.1) && decide (r5.1 < 2)) = true then some (r5.1, r5.2) else none
              else none
            else
              px_R (mm_Mod_readName, 42, [(2, x0), (0, x1), (0, x2), (0, x3), (0, (px_w (x4 + 1)))], [], w)
          else none
        else none
      else none
    else
      if px_go w x0 9 = true then
        if px_go w x0 9 = true then
          if px_ga w 1 (px_rd w x0 13) (px_w ((px_w (6 * x1)) + x3)) = true then
            if px_go (px_wr w (px_rd w x0 13) ((px_w ((px_w (6 * x1)) + x3))).toNat (px_rd w x0 10)) x0 9 = true then
              (px_R (mm_Mod_scan, 0, [(2, x0), (9, 0), (9, 0), (9, 0)], [], (px_wr w (px_rd w x0 13) ((px_w ((px_w (6 * x1)) + x3))).toNat (px_rd w x0 10)))).bind fun r4 =>
              some (1, r4.2)
            else none
          else none
        else none
      else none) := (px_Req mm_Mod_readName 42 [(2, x0), (0, x1), (0, x2), (0, x3), (0, x4)] [] w).trans rfl
set_option maxRecDepth 100000 in
theorem eq_Mod_readNumber_0 (x0 x1 x2 : Int) (w : pw) : px_R (mm_Mod_readNumber, 0, [(2, x0), (0, x1), (0, x2)], [], w) =
    (if px_go w x0 9 = true then
      if (px_rd w x0 3) = 2 then
        if px_go w x0 9 = true then
          (px_R (mm_Mod_in, 0, [(0, (px_rd w x0 7)), (0, x1), (0, x2)], [], w)).bind fun r1 =>
            if r1.1 = 0 then
              if px_go r1.2 x0 9 = true then
                (px_R (mm_Mod_fails, 0, [(2, x0), (0, 2)], [], r1.2)).bind fun r3 =>
                if (decide (0 ≤ r3.1) && decide (r3.1 < 2)) = true then some (r3.1, r3.2) else none
              else none
            else
              if px_go r1.2 x0 9 = true then
                if px_go r1.2 x0 9 = true then
                  if px_go (px_wr r1.2 x0 11 (px_rd r1.2 x0 7)) x0 9 = true then
                    (px_R (mm_Mod_scan, 0, [(2, x0), (9, 0), (9, 0), (9, 0)], [], (px_wr r1.2 x0 11 (px_rd r1.2 x0 7)))).bind fun r2 =>
                    some (1, r2.2)
                  else none
                else none
              else none
        else none
      else
        if px_go w x0 9 = true then
          (px_R (mm_Mod_fails, 0, [(2, x0), (0, 1)], [], w)).bind fun r4 =>
          if (decide (0 ≤ r4.1) && decide (r4.1 < 2)) = true then some (r4.1, r4.2) else none
        else none
    else none) := (px_Req mm_Mod_readNumber 0 [(2, x0), (0, x1), (0, x2)] [] w).trans rfl
set_option maxRecDepth 100000 in
theorem eq_Mod_said_0 (x0 x1 x2 : Int) (w : pw) : px_R (mm_Mod_said, 0, [(2, x0), (0, x1), (0, x2), (9, 0), (9, 0), (9, 0), (9, 0), (9, 0), (9, 0)], [], w) =
    (if px_go w x0 9 = true then
      (px_R (mm_Mod_is, 0, [(2, x0), (0, 2), (0, x1)], [], w)).bind fun r1 =>
      if r1.1 = 0 then
        some ((-2), r1.2)
      else
        if x2 < 0 then
          some ((-2), r1.2)
        else
          if px_go r1.2 x0 9 = true then
            (px_R (mm_Mod_hasLine, 0, [(2, x0)], [], r1.2)).bind fun r2 =>
            if r2.1 = 0 then
              some ((-4), r2.2)
            else
              if px_go r2.2 x0 9 = true then
                (px_R (mm_Mod_makeOwn, 0, [(2, x0)], [], r2.2)).bind fun r3 =>
                if px_go r3.2 x0 9 = true then
                  if px_ga r3.2 0 (px_rd r3.2 x0 12) 8 = true then
                    px_R (mm_Mod_said, 45, [(2, x0), (0, x1), (0, x2), (0, (px_rd r3.2 (px_rd r3.2 x0 12) 8)), (1, x2), (9, 0), (0, 0), (9, 0), (9, 0)], [], r3.2)
                  else none
                else none
              else none
          else none
    else none) := (px_Req mm_Mod_said 0 [(2, x0), (0, x1), (0, x2), (9, 0), (9, 0), (9, 0), (9, 0), (9, 0), (9, 0)] [] w).trans rfl
set_option maxRecDepth 100000 in
theorem eq_Mod_said_45 (x0 x1 x2 x3 x4 x6 : Int) (y7 y8 : pv) (w : pw) : px_R (mm_Mod_said, 45, [(2, x0), (0, x1), (0, x2), (0, x3), (1, x4), (9, 0), (0, x6), y7, y8], [], w) =
    (if x6 < 4 then
      if (!decide ((px_w ((px_w (x3 + 1)) * (px_w (x3 + 1)))) = 0)) = true then
        px_R (mm_Mod_said, 89, [(2, x0), (0, x1), (0, x2), (0, x3), (1, (Int.tmod (px_wl ((px_wl (1103515245 * x4)) + 12345)) 2147483648)), (9, 0), (0, x6), (0, (px_w (Int.tmod (px_wl (Int.tdiv (Int.tmod (px_wl ((px_wl (1103515245 * x4)) + 12345)) 2147483648) 65536)) (px_w ((px_w (x3 + 1)) * (px_w (x3 + 1))))))), (0, (px_w (-x3)))], [], w)
      else none
    else
      if px_go w x0 9 = true then
        (px_R (mm_Mod_allWords, 0, [(2, x0)], [], w)).bind fun r4 =>
        if px_go r4.2 x0 9 = true then
          (px_R (mm_Mod_ear, 0, [(2, x0), (0, r4.1), (9, 0), (9, 0), (9, 0), (9, 0), (9, 0)], [], r4.2)).bind fun r5 =>
          some (r5.1, r5.2)
        else none
      else none) := (px_Req mm_Mod_said 45 [(2, x0), (0, x1), (0, x2), (0, x3), (1, x4), (9, 0), (0, x6), y7, y8] [] w).trans rfl
set_option maxRecDepth 100000 in
theorem eq_Mod_said_89 (x0 x1 x2 x3 x4 x6 x7 x8 : Int) (w : pw) : px_R (mm_Mod_said, 89, [(2, x0), (0, x1), (0, x2), (0, x3), (1, x4), (9, 0), (0, x6), (0, x7), (0, x8)], [], w) =
    ((px_R (mm_Mod_plain, 0, [(0, x8)], [], w)).bind fun r6 =>
      if x7 < (px_w ((px_w (x3 + 1)) - r6.1)) then
        if px_go r6.2 x0 9 = true then
          if px_go r6.2 x0 9 = true then
            if px_ga r6.2 0 (px_rd r6.2 x0 32) (px_w ((px_w (4 * x1)) + x6)) = true then
              (px_R (mm_Mod_heard, 0, [(0, (px_w ((px_rd r6.2 (px_rd r6.2 x0 32) ((px_w ((px_w (4 * x1)) + x6))).toNat) + x8)))], [], r6.2)).bind fun r7 =>
                if px_ga r7.2 0 (px_rd r6.2 x0 33) x6 = true then
                  px_R (mm_Mod_said, 45, [(2, x0), (0, x1), (0, x2), (0, x3), (1, x4), (9, 0), (0, (px_w (x6 + 1))), (0, x7), (0, x8)], [], (px_wr r7.2 (px_rd r6.2 x0 33) (x6).toNat r7.1))
                else none
            else none
          else none
        else none
      else
        (px_R (mm_Mod_plain, 0, [(0, x8)], [], r6.2)).bind fun r8 =>
          px_R (mm_Mod_said, 89, [(2, x0), (0, x1), (0, x2), (0, x3), (1, x4), (9, 0), (0, x6), (0, (px_w (x7 - (px_w ((px_w (x3 + 1)) - r8.1))))), (0, (px_w (x8 + 1)))], [], r8.2)) := (px_Req mm_Mod_said 89 [(2, x0), (0, x1), (0, x2), (0, x3), (1, x4), (9, 0), (0, x6), (0, x7), (0, x8)] [] w).trans rfl
set_option maxRecDepth 100000 in
theorem eq_Mod_table_0 (x0 x1 x2 : Int) (w : pw) : px_R (mm_Mod_table, 0, [(2, x0), (0, x1), (0, x2)], [], w) =
    (if px_go w x0 9 = true then
      (px_R (mm_Mod_is, 0, [(2, x0), (0, 2), (0, x1)], [], w)).bind fun r1 =>
      if r1.1 = 0 then
        some ((-2), r1.2)
      else
        if px_go r1.2 x0 9 = true then
          (px_R (mm_Mod_is, 0, [(2, x0), (0, 2), (0, x2)], [], r1.2)).bind fun r2 =>
          if r2.1 = 0 then
            some ((-2), r2.2)
          else
            if px_go r2.2 x0 9 = true then
              (px_R (mm_Mod_hasLine, 0, [(2, x0)], [], r2.2)).bind fun r3 =>
              if r3.1 = 0 then
                some ((-4), r3.2)
              else
                if px_go r3.2 x0 9 = true then
                  (px_R (mm_Mod_makeOwn, 0, [(2, x0)], [], r3.2)).bind fun r4 =>
                  if px_go r4.2 x0 9 = true then
                    (px_R (mm_Mod_allWords, 0, [(2, x0)], [], r4.2)).bind fun r5 =>
                    if px_go r5.2 x0 9 = true then
                      (px_R (mm_Mod_listen, 0, [(2, x0), (0, r5.1), (0, x1), (9, 0), (9, 0), (9, 0), (9, 0), (9, 0), (9, 0), (9, 0)], [], r5.2)).bind fun r6 =>
                      if px_go r6.2 x0 9 = true then
                        if px_ga r6.2 0 (px_rd r6.2 x0 34) x2 = true then
                          some ((px_rd r6.2 (px_rd r6.2 x0 34) (x2).toNat), r6.2)
                        else none
                      else none
                    else none
                  else none
                else none
            else none
        else none
    else none) := (px_Req mm_Mod_table 0 [(2, x0), (0, x1), (0, x2)] [] w).trans rfl
set_option maxRecDepth 100000 in
theorem eq_Mod_takeTape_0 (x0 : Int) (w : pw) : px_R (mm_Mod_takeTape, 0, [(2, x0)], [], w) =
    (if px_go w x0 9 = true then
      if px_go w x0 9 = true then
        if px_go (px_wr w x0 2 (px_rd w x0 1)) x0 9 = true then
          if px_go (px_wr (px_wr w x0 2 (px_rd w x0 1)) x0 1 0) x0 9 = true then
            if px_go (px_wr (px_wr (px_wr w x0 2 (px_rd w x0 1)) x0 1 0) x0 6 0) x0 9 = true then
              (px_R (mm_Mod_scan, 0, [(2, x0), (9, 0), (9, 0), (9, 0)], [], (px_wr (px_wr (px_wr w x0 2 (px_rd w x0 1)) x0 1 0) x0 6 0))).bind fun r1 =>
              some (0, r1.2)
            else none
          else none
        else none
      else none
    else none) := (px_Req mm_Mod_takeTape 0 [(2, x0)] [] w).trans rfl
set_option maxRecDepth 100000 in
theorem eq_Str_read_0 (x0 x1 : Int) (w : pw) : px_R (mm_Str_read, 0, [(2, x0), (2, x1), (9, 0), (9, 0)], [], w) =
    (if px_go w x0 5 = true then
      (px_R (mm_Str_forget, 0, [(2, x0), (9, 0)], [], w)).bind fun r1 =>
      if px_go r1.2 x1 6 = true then
        px_R (mm_Str_read, 11, [(2, x0), (2, x1), (0, 0), (9, 0)], [], (px_wr r1.2 x1 4 0))
      else none
    else none) := (px_Req mm_Str_read 0 [(2, x0), (2, x1), (9, 0), (9, 0)] [] w).trans rfl
set_option maxRecDepth 100000 in
theorem eq_Str_read_11 (x0 x1 x2 : Int) (y3 : pv) (w : pw) : px_R (mm_Str_read, 11, [(2, x0), (2, x1), (0, x2), y3], [], w) =
    (if 900 < x2 then
      some (1, w)
    else
      if px_go w x1 6 = true then
        (px_R (mm_Tape_readNext, 0, [(2, x1)], [], w)).bind fun r2 =>
        if px_go r2.2 x1 6 = true then
          if (px_rd r2.2 x1 2) = 0 then
            some (0, r2.2)
          else
            if px_go r2.2 x0 5 = true then
              (px_R (mm_Str_readClause, 0, [(2, x0), (2, x1), (9, 0), (9, 0), (9, 0)], [], r2.2)).bind fun r3 =>
              if r3.1 = 0 then
                if px_go r3.2 x0 5 = true then
                  if px_go r3.2 x0 5 = true then
                    px_R (mm_Str_read, 11, [(2, x0), (2, x1), (0, (px_w (x2 + 1))), (0, r3.1)], [], (px_wr r3.2 x0 0 (px_w ((px_rd r3.2 x0 0) + 1))))
                  else none
                else none
              else
                some (r3.1, r3.2)
            else none
        else none
      else none) := (px_Req mm_Str_read 11 [(2, x0), (2, x1), (0, x2), y3] [] w).trans rfl
set_option maxRecDepth 100000 in
theorem eq_Mod_readNumbers_0 (x0 x1 x2 x3 : Int) (w : pw) : px_R (mm_Mod_readNumbers, 0, [(2, x0), (2, x1), (0, x2), (0, x3), (9, 0)], [], w) =
    (if px_go w x0 9 = true then
      (px_R (mm_Mod_takeTape, 0, [(2, x0)], [], w)).bind fun r1 =>
      px_R (mm_Mod_readNumbers, 7, [(2, x0), (2, x1), (0, x2), (0, x3), (0, 0)], [], r1.2)
    else none) := (px_Req mm_Mod_readNumbers 0 [(2, x0), (2, x1), (0, x2), (0, x3), (9, 0)] [] w).trans rfl
set_option maxRecDepth 100000 in
theorem eq_Mod_readNumbers_7 (x0 x1 x2 x3 x4 : Int) (w : pw) : px_R (mm_Mod_readNumbers, 7, [(2, x0), (2, x1), (0, x2), (0, x3), (0, x4)], [], w) =
    (if px_go w x0 9 = true then
      if (px_rd w x0 3) = 4 then
        some (x4, w)
      else
        if px_go w x0 9 = true then
          if (px_rd w x0 3) = 2 then
            if px_go w x0 9 = true then
              if x3 < (px_rd w x0 7) then
                some ((-1), w)
              else
                if x4 = x2 then
                  some ((-1), w)
                else
                  if px_go w x0 9 = true then
                    if px_ga w 0 x1 x4 = true then
                      if px_go (px_wr w x1 (x4).toNat (px_rd w x0 7)) x0 9 = true then
                        (px_R (mm_Mod_scan, 0, [(2, x0), (9, 0), (9, 0), (9, 0)], [], (px_wr w x1 (x4).toNat (px_rd w x0 7)))).bind fun r2 =>
                        px_R (mm_Mod_readNumbers, 7, [(2, x0), (2, x1), (0, x2), (0, x3), (0, (px_w (x4 + 1)))], [], r2.2)
                      else none
                    else none
                  else none
            else none
          else
            some ((-1), w)
        else none
    else none) := (px_Req mm_Mod_readNumbers 7 [(2, x0), (2, x1), (0, x2), (0, x3), (0, x4)] [] w).trans rfl
set_option maxRecDepth 100000 in
theorem eq_Mod_readPlace_0 (x0 x1 x2 x3 x4 : Int) (w : pw) : px_R (mm_Mod_readPlace, 0, [(2, x0), (2, x1), (2, x2), (0, x3), (0, x4), (9, 0)], [], w) =
    (if px_go w x0 9 = true then
      (px_R (mm_Mod_readNumber, 0, [(2, x0), (0, 0), (0, 99)], [], w)).bind fun r1 =>
      if r1.1 = 0 then
        some (0, r1.2)
      else
        if px_go r1.2 x0 9 = true then
          if px_ga r1.2 0 x1 (px_w (x3 + x4)) = true then
            if px_go (px_wr r1.2 x1 ((px_w (x3 + x4))).toNat (px_rd r1.2 x0 11)) x0 9 = true then
              if (px_rd (px_wr r1.2 x1 ((px_w (x3 + x4))).toNat (px_rd r1.2 x0 11)) x0 3) = 2 then
                if px_go (px_wr r1.2 x1 ((px_w (x3 + x4))).toNat (px_rd r1.2 x0 11)) x0 9 = true then
                  (px_R (mm_Mod_in, 0, [(0, (px_rd (px_wr r1.2 x1 ((px_w (x3 + x4))).toNat (px_rd r1.2 x0 11)) x0 7)), (0, 0), (0, 99)], [], (px_wr r1.2 x1 ((px_w (x3 + x4))).toNat (px_rd r1.2 x0 11)))).bind fun r2 =>
                    if r2.1 = 0 then
                      if px_go r2.2 x0 9 = true then
                        (px_R (mm_Mod_fails, 0, [(2, x0), (0, 2)], [], r2.2)).bind fun r3 =>
                        if (decide (0 ≤ r3.1) && decide (r3.1 < 2)) = true then some (r3.1, r3.2) else none
                      else none
                    else
                      px_R (mm_Mod_readPlace, 58, [(2, x0), (2, x1), (2, x2), (0, x3), (0, x4), (0, 0)], [], r2.2)
                else none
              else
                if px_go (px_wr r1.2 x1 ((px_w (x3 + x4))).toNat (px_rd r1.2 x0 11)) x0 9 = true then
                  (px_R (mm_Mod_fails, 0, [(2, x0), (0, 1)], [], (px_wr r1.2 x1 ((px_w (x3 + x4))).toNat (px_rd r1.2 x0 11)))).bind fun r4 =>
                  if (decide (0 ≤ r4.1) && decide (r4.1 < 2)) = true then some (r4.1, r4.2) else none
                else none
            else none
          else none
        else none
    else none) := (px_Req mm_Mod_readPlace 0 [(2, x0), (2, x1), (2, x2), (0, x3), (0, x4), (9, 0)] [] w).trans rfl
set_option maxRecDepth 100000 in
theorem eq_Mod_readPlace_58 (x0 x1 x2 x3 x4 x5 : Int) (w : pw) : px_R (mm_Mod_readPlace, 58, [(2, x0), (2, x1), (2, x2), (0, x3), (0, x4), (0, x5)], [], w) =
    (if x5 < x4 then
      if px_ga w 0 x1 (px_w (x3 + x5)) = true then
        if px_ga w 0 x1 (px_w (x3 + x4)) = true then
          if (px_rd w x1 ((px_w (x3 + x5))).toNat) = (px_rd w x1 ((px_w (x3 + x4))).toNat) then
            if px_ga w 0 x2 (px_w (x3 + x5)) = true then
              if px_go w x0 9 = true then
                if (px_rd w x2 ((px_w (x3 + x5))).toNat) = (px_rd w x0 7) then
                  if px_go w x0 9 = true then
                    (px_R (mm_Mod_fails, 0, [(2, x0), (0, 3)], [], w)).bind fun r6 =>
                    if (decide (0 ≤ r6.1) && decide (r6.1 < 2)) = true then some (r6.1, r6.2) else none
                  else none
                else
                  px_R (mm_Mod_readPlace, 58, [(2, x0), (2, x1), (2, x2), (0, x3), (0, x4), (0, (px_w (x5 + 1)))], [], w)
              else none
            else none
          else
            px_R (mm_Mod_readPlace, 58, [(2, x0), (2, x1), (2, x2), (0, x3), (0, x4), (0, (px_w (x5 + 1)))], [], w)
        else none
      else none
    else
      if px_go w x0 9 = true then
        if px_ga w 0 x2 (px_w (x3 + x4)) = true then
          if px_go (px_wr w x2 ((px_w (x3 + x4))).toNat (px_rd w x0 7)) x0 9 = true then
            (px_R (mm_Mod_scan, 0, [(2, x0), (9, 0), (9, 0), (9, 0)], [], (px_wr w x2 ((px_w (x3 + x4))).toNat (px_rd w x0 7)))).bind fun r5 =>
            some (1, r5.2)
          else none
        else none
      else none) := (px_Req mm_Mod_readPlace 58 [(2, x0), (2, x1), (2, x2), (0, x3), (0, x4), (0, x5)] [] w).trans rfl
set_option maxRecDepth 100000 in
theorem eq_Mod_readRow_0 (x0 x1 x2 x3 x4 x5 x6 : Int) (w : pw) : px_R (mm_Mod_readRow, 0, [(2, x0), (2, x1), (0, x2), (0, x3), (0, x4), (0, x5), (0, x6), (9, 0)], [], w) =
    (px_R (mm_Mod_readRow, 3, [(2, x0), (2, x1), (0, x2), (0, x3), (0, x4), (0, x5), (0, x6), (0, 0)], [], w)) := (px_Req mm_Mod_readRow 0 [(2, x0), (2, x1), (0, x2), (0, x3), (0, x4), (0, x5), (0, x6), (9, 0)] [] w).trans rfl
set_option maxRecDepth 100000 in
theorem eq_Mod_readRow_3 (x0 x1 x2 x3 x4 x5 x6 x7 : Int) (w : pw) : px_R (mm_Mod_readRow, 3, [(2, x0), (2, x1), (0, x2), (0, x3), (0, x4), (0, x5), (0, x6), (0, x7)], [], w) =
    (if x7 < x3 then
      if x7 = 0 then
        if px_go w x0 9 = true then
          (px_R (mm_Mod_readNumber, 0, [(2, x0), (0, x4), (0, x5)], [], w)).bind fun r2 =>
          if r2.1 = 0 then
            some (0, r2.2)
          else
            if px_go r2.2 x0 9 = true then
              if px_ga r2.2 0 x1 (px_w (x2 + x7)) = true then
                px_R (mm_Mod_readRow, 3, [(2, x0), (2, x1), (0, x2), (0, x3), (0, x4), (0, x5), (0, x6), (0, (px_w (x7 + 1)))], [], (px_wr r2.2 x1 ((px_w (x2 + x7))).toNat (px_rd r2.2 x0 11)))
              else none
            else none
        else none
      else
        if px_go w x0 9 = true then
          (px_R (mm_Mod_readNumber, 0, [(2, x0), (0, 0), (0, x6)], [], w)).bind fun r1 =>
          if r1.1 = 0 then
            some (0, r1.2)
          else
            if px_go r1.2 x0 9 = true then
              if px_ga r1.2 0 x1 (px_w (x2 + x7)) = true then
                px_R (mm_Mod_readRow, 3, [(2, x0), (2, x1), (0, x2), (0, x3), (0, x4), (0, x5), (0, x6), (0, (px_w (x7 + 1)))], [], (px_wr r1.2 x1 ((px_w (x2 + x7))).toNat (px_rd r1.2 x0 11)))
              else none
            else none
        else none
    else
      some (1, w)) := (px_Req mm_Mod_readRow 3 [(2, x0), (2, x1), (0, x2), (0, x3), (0, x4), (0, x5), (0, x6), (0, x7)] [] w).trans rfl
set_option maxRecDepth 100000 in
theorem eq_Tin_street_0 (x0 : Int) (w : pw) : px_R (mm_Tin_street, 0, [(2, x0), (9, 0)], [], w) =
    (if px_go w x0 8 = true then
      if px_go w x0 8 = true then
        if px_go w (px_rd w x0 9) 5 = true then
          (px_R (mm_Str_read, 0, [(2, (px_rd w x0 9)), (2, (px_rd w x0 0)), (9, 0), (9, 0)], [], w)).bind fun r1 =>
          if px_go r1.2 x0 8 = true then
            if px_go (px_wr r1.2 x0 10 r1.1) x0 8 = true then
              if (px_rd (px_wr r1.2 x0 10 r1.1) x0 10) = 0 then
                px_R (mm_Tin_street, 34, [(2, x0), (9, 0)], [(0, (-1)), (2, x0)], (px_wr r1.2 x0 10 r1.1))
              else
                if px_go (px_wr r1.2 x0 10 r1.1) x0 8 = true then
                  if px_go (px_wr r1.2 x0 10 r1.1) (px_rd (px_wr r1.2 x0 10 r1.1) x0 0) 6 = true then
                    px_R (mm_Tin_street, 34, [(2, x0), (9, 0)], [(0, (px_rd (px_wr r1.2 x0 10 r1.1) (px_rd (px_wr r1.2 x0 10 r1.1) x0 0) 3)), (2, x0)], (px_wr r1.2 x0 10 r1.1))
                  else none
                else none
            else none
          else none
        else none
      else none
    else none) := (px_Req mm_Tin_street 0 [(2, x0), (9, 0)] [] w).trans rfl
set_option maxRecDepth 100000 in
theorem eq_Tin_street_34 (x0 s0 s1 : Int) (w : pw) : px_R (mm_Tin_street, 34, [(2, x0), (9, 0)], [(0, s1), (2, s0)], w) =
    (if px_go w s0 8 = true then
      if px_go (px_wr w s0 11 s1) x0 8 = true then
        if px_go (px_wr w s0 11 s1) (px_rd (px_wr w s0 11 s1) x0 0) 6 = true then
          if px_go (px_wr (px_wr w s0 11 s1) (px_rd (px_wr w s0 11 s1) x0 0) 1 0) x0 8 = true then
            if (px_rd (px_wr (px_wr w s0 11 s1) (px_rd (px_wr w s0 11 s1) x0 0) 1 0) x0 10) = 0 then
              if px_go (px_wr (px_wr w s0 11 s1) (px_rd (px_wr w s0 11 s1) x0 0) 1 0) x0 8 = true then
                if px_go (px_wr (px_wr w s0 11 s1) (px_rd (px_wr w s0 11 s1) x0 0) 1 0) x0 8 = true then
                  if px_go (px_wr (px_wr w s0 11 s1) (px_rd (px_wr w s0 11 s1) x0 0) 1 0) x0 8 = true then
                    if px_go (px_wr (px_wr (px_wr w s0 11 s1) (px_rd (px_wr w s0 11 s1) x0 0) 1 0) x0 8 (px_rd (px_wr (px_wr w s0 11 s1) (px_rd (px_wr w s0 11 s1) x0 0) 1 0) x0 9)) x0 8 = true then
                      px_R (mm_Tin_street, 72, [(2, x0), (2, (px_rd (px_wr (px_wr w s0 11 s1) (px_rd (px_wr w s0 11 s1) x0 0) 1 0) x0 8))], [], (px_wr (px_wr (px_wr (px_wr w s0 11 s1) (px_rd (px_wr w s0 11 s1) x0 0) 1 0) x0 8 (px_rd (px_wr (px_wr w s0 11 s1) (px_rd (px_wr w s0 11 s1) x0 0) 1 0) x0 9)) x0 9 (px_rd (px_wr (px_wr w s0 11 s1) (px_rd (px_wr w s0 11 s1) x0 0) 1 0) x0 8)))
                    else none
                  else none
                else none
              else none
            else
              some ((-1), (px_wr (px_wr w s0 11 s1) (px_rd (px_wr w s0 11 s1) x0 0) 1 0))
          else none
        else none
      else none
    else none) := (px_Req mm_Tin_street 34 [(2, x0), (9, 0)] [(0, s1), (2, s0)] w).trans rfl
set_option maxRecDepth 100000 in
theorem eq_Tin_street_72 (x0 x1 : Int) (w : pw) : px_R (mm_Tin_street, 72, [(2, x0), (2, x1)], [], w) =
    (if px_go w x0 8 = true then
      if px_go w (px_rd w x0 1) 2 = true then
        (px_R (mm_Line_begin, 0, [(2, (px_rd w x0 1))], [], w)).bind fun r2 =>
        if px_go r2.2 x0 8 = true then
          if px_go r2.2 (px_rd r2.2 x0 4) 0 = true then
            (px_R (mm_Book_begin, 0, [(2, (px_rd r2.2 x0 4))], [], r2.2)).bind fun r3 =>
            if px_go r3.2 x0 8 = true then
              if px_go r3.2 (px_rd r3.2 x0 3) 7 = true then
                (px_R (mm_Wish_begin, 0, [(2, (px_rd r3.2 x0 3))], [], r3.2)).bind fun r4 =>
                if px_go r4.2 x0 8 = true then
                  if px_go r4.2 (px_rd r4.2 x0 8) 5 = true then
                    some ((px_rd r4.2 (px_rd r4.2 x0 8) 0), r4.2)
                  else none
                else none
              else none
            else none
          else none
        else none
      else none
    else none) := (px_Req mm_Tin_street 72 [(2, x0), (2, x1)] [] w).trans rfl
set_option maxRecDepth 100000 in
theorem eq_Mod_listened_0 (x0 x1 x2 x3 : Int) (w : pw) : px_R (mm_Mod_listened, 0, [(2, x0), (0, x1), (0, x2), (0, x3), (9, 0), (9, 0), (9, 0)], [], w) =
    (if px_go w x0 9 = true then
      if px_go w x0 9 = true then
        (px_R (mm_Mod_readNumbers, 0, [(2, x0), (2, (px_rd w x0 62)), (0, 4), (0, 100), (9, 0)], [], w)).bind fun r1 =>
        (px_R (mm_Mod_in, 0, [(0, x1), (0, 0), (0, 99999)], [], r1.2)).bind fun r2 =>
          if r2.1 = 0 then
            some ((-2), r2.2)
          else
            (px_R (mm_Mod_in, 0, [(0, x2), (0, 0), (0, 99999)], [], r2.2)).bind fun r3 =>
              if r3.1 = 0 then
                some ((-2), r3.2)
              else
                (px_R (mm_Mod_in, 0, [(0, x3), (0, 0), (0, 99999)], [], r3.2)).bind fun r4 =>
                  if r4.1 = 0 then
                    some ((-2), r4.2)
                  else
                    if r1.1 = 4 then
                      px_R (mm_Mod_listened, 63, [(2, x0), (0, x1), (0, x2), (0, x3), (0, r1.1), (0, 0), (0, 0)], [], r4.2)
                    else
                      some ((-1), r4.2)
      else none
    else none) := (px_Req mm_Mod_listened 0 [(2, x0), (0, x1), (0, x2), (0, x3), (9, 0), (9, 0), (9, 0)] [] w).trans rfl
set_option maxRecDepth 100000 in
theorem eq_Mod_listened_63 (x0 x1 x2 x3 x4 x5 x6 : Int) (w : pw) : px_R (mm_Mod_listened, 63, [(2, x0), (0, x1), (0, x2), (0, x3), (0, x4), (0, x5), (0, x6)], [], w) =
    (if x6 < 4 then
      if px_go w x0 9 = true then
        if px_ga w 0 (px_rd w x0 62) x6 = true then
          (px_R (mm_Mod_plain, 0, [(0, (px_w ((px_w (Int.tdiv (px_w (x1 * (px_w (100 - (px_rd w (px_rd w x0 62) (x6).toNat))))) 100)) - x2)))], [], w)).bind fun r5 =>
            if x3 < r5.1 then
              px_R (mm_Mod_listened, 63, [(2, x0), (0, x1), (0, x2), (0, x3), (0, x4), (0, (px_or x5 0)), (0, (px_w (x6 + 1)))], [], r5.2)
            else
              px_R (mm_Mod_listened, 63, [(2, x0), (0, x1), (0, x2), (0, x3), (0, x4), (0, (px_or x5 (px_shl 1 x6))), (0, (px_w (x6 + 1)))], [], r5.2)
        else none
      else none
    else
      some (x5, w)) := (px_Req mm_Mod_listened 63 [(2, x0), (0, x1), (0, x2), (0, x3), (0, x4), (0, x5), (0, x6)] [] w).trans rfl
set_option maxRecDepth 100000 in
theorem eq_Mod_readThing_0 (x0 x1 : Int) (w : pw) : px_R (mm_Mod_readThing, 0, [(2, x0), (0, x1), (9, 0), (9, 0)], [], w) =
    (if px_go w x0 9 = true then
      if px_ga w 0 (px_rd w x0 12) (px_w (9 + x1)) = true then
        if x1 = 0 then
          if px_go w x0 9 = true then
            (px_R (mm_Mod_readName, 0, [(2, x0), (0, x1), (0, 4), (9, 0), (9, 0)], [], w)).bind fun r12 =>
            if r12.1 = 0 then
              px_R (mm_Mod_readThing, 262, [(2, x0), (0, x1), (0, (px_rd w (px_rd w x0 12) ((px_w (9 + x1))).toNat)), (0, 0)], [], r12.2)
            else
              if px_go r12.2 x0 9 = true then
                if px_go r12.2 x0 9 = true then
                  (px_R (mm_Mod_readRow, 0, [(2, x0), (2, (px_rd r12.2 x0 14)), (0, (px_w (5 * (px_w (4 + (px_rd w (px_rd w x0 12) ((px_w (9 + x1))).toNat)))))), (0, 5), (0, 1), (0, 99), (0, 999), (9, 0)], [], r12.2)).bind fun r13 =>
                  if r13.1 = 0 then
                    px_R (mm_Mod_readThing, 262, [(2, x0), (0, x1), (0, (px_rd w (px_rd w x0 12) ((px_w (9 + x1))).toNat)), (0, 0)], [], r13.2)
                  else
                    px_R (mm_Mod_readThing, 262, [(2, x0), (0, x1), (0, (px_rd w (px_rd w x0 12) ((px_w (9 + x1))).toNat)), (0, 1)], [], r13.2)
                else none
              else none
          else none
        else
          if x1 = 1 then
            if px_go w x0 9 = true then
              (px_R (mm_Mod_readName, 0, [(2, x0), (0, x1), (0, 4), (9, 0), (9, 0)], [], w)).bind fun r10 =>
              if r10.1 = 0 then
                px_R (mm_Mod_readThing, 262, [(2, x0), (0, x1), (0, (px_rd w (px_rd w x0 12) ((px_w (9 + x1))).toNat)), (0, 0)], [], r10.2)
              else
                if px_go r10.2 x0 9 = true then
                  if px_go r10.2 x0 9 = true then
                    (px_R (mm_Mod_readRow, 0, [(2, x0), (2, (px_rd r10.2 x0 15)), (0, (px_w (4 * (px_w (4 + (px_rd w (px_rd w x0 12) ((px_w (9 + x1))).toNat)))))), (0, 4), (0, 0), (0, 100), (0, 100), (9, 0)], [], r10.2)).bind fun r11 =>
                    if r11.1 = 0 then
                      px_R (mm_Mod_readThing, 262, [(2, x0), (0, x1), (0, (px_rd w (px_rd w x0 12) ((px_w (9 + x1))).toNat)), (0, 0)], [], r11.2)
                    else
                      px_R (mm_Mod_readThing, 262, [(2, x0), (0, x1), (0, (px_rd w (px_rd w x0 12) ((px_w (9 + x1))).toNat)), (0, 1)], [], r11.2)
                  else none
                else none
            else none
          else
            if x1 = 2 then
              if px_go w x0 9 = true then
                (px_R (mm_Mod_readName, 0, [(2, x0), (0, x1), (0, 6), (9, 0), (9, 0)], [], w)).bind fun r8 =>
                if r8.1 = 0 then
                  px_R (mm_Mod_readThing, 262, [(2, x0), (0, x1), (0, (px_rd w (px_rd w x0 12) ((px_w (9 + x1))).toNat)), (0, 0)], [], r8.2)
                else
                  if px_go r8.2 x0 9 = true then
                    if px_go r8.2 x0 9 = true then
                      (px_R (mm_Mod_readRow, 0, [(2, x0), (2, (px_rd r8.2 x0 16)), (0, (px_w (4 * (px_w (6 + (px_rd w (px_rd w x0 12) ((px_w (9 + x1))).toNat)))))), (0, 4), (0, 0), (0, 9), (0, 9), (9, 0)], [], r8.2)).bind fun r9 =>
                      if r9.1 = 0 then
                        px_R (mm_Mod_readThing, 262, [(2, x0), (0, x1), (0, (px_rd w (px_rd w x0 12) ((px_w (9 + x1))).toNat)), (0, 0)], [], r9.2)
                      else
                        px_R (mm_Mod_readThing, 262, [(2, x0), (0, x1), (0, (px_rd w (px_rd w x0 12) ((px_w (9 + x1))).toNat)), (0, 1)], [], r9.2)
                    else none
                  else none
              else none
            else
              if x1 = 3 then
                if px_go w x0 9 = true then
                  (px_R (mm_Mod_readName, 0, [(2, x0), (0, x1), (0, 5), (9, 0), (9, 0)], [], w)).bind fun r6 =>
                  if r6.1 = 0 then
                    px_R (mm_Mod_readThing, 262, [(2, x0), (0, x1), (0, (px_rd w (px_rd w x0 12) ((px_w (9 + x1))).toNat)), (0, 0)], [], r6.2)
                  else
                    if px_go r6.2 x0 9 = true then
                      if px_go r6.2 x0 9 = true then
                        if px_go r6.2 x0 9 = true then
                          (px_R (mm_Mod_readPlace, 0, [(2, x0), (2, (px_rd r6.2 x0 17)), (2, (px_rd r6.2 x0 18)), (0, 5), (0, (px_rd w (px_rd w x0 12) ((px_w (9 + x1))).toNat)), (9, 0)], [], r6.2)).bind fun r7 =>
                          if r7.1 = 0 then
                            px_R (mm_Mod_readThing, 262, [(2, x0), (0, x1), (0, (px_rd w (px_rd w x0 12) ((px_w (9 + x1))).toNat)), (0, 0)], [], r7.2)
                          else
                            px_R (mm_Mod_readThing, 262, [(2, x0), (0, x1), (0, (px_rd w (px_rd w x0 12) ((px_w (9 + x1))).toNat)), (0, 1)], [], r7.2)
                        else none
                      else none
                    else none
                else none
              else
                if x1 = 5 then
                  if px_go w x0 9 = true then
                    (px_R (mm_Mod_readName, 0, [(2, x0), (0, x1), (0, 4), (9, 0), (9, 0)], [], w)).bind fun r4 =>
                    if r4.1 = 0 then
                      px_R (mm_Mod_readThing, 262, [(2, x0), (0, x1), (0, (px_rd w (px_rd w x0 12) ((px_w (9 + x1))).toNat)), (0, 0)], [], r4.2)
                    else
                      if px_go r4.2 x0 9 = true then
                        if px_go r4.2 x0 9 = true then
                          (px_R (mm_Mod_readRow, 0, [(2, x0), (2, (px_rd r4.2 x0 21)), (0, (px_w (5 * (px_w (4 + (px_rd w (px_rd w x0 12) ((px_w (9 + x1))).toNat)))))), (0, 5), (0, 1), (0, 9), (0, 9), (9, 0)], [], r4.2)).bind fun r5 =>
                          if r5.1 = 0 then
                            px_R (mm_Mod_readThing, 262, [(2, x0), (0, x1), (0, (px_rd w (px_rd w x0 12) ((px_w (9 + x1))).toNat)), (0, 0)], [], r5.2)
                          else
                            px_R (mm_Mod_readThing, 262, [(2, x0), (0, x1), (0, (px_rd w (px_rd w x0 12) ((px_w (9 + x1))).toNat)), (0, 1)], [], r5.2)
                        else none
                      else none
                  else none
                else
                  if (px_rd w (px_rd w x0 12) ((px_w (9 + x1))).toNat) = 4 then
                    if px_go w x0 9 = true then
                      (px_R (mm_Mod_fails, 0, [(2, x0), (0, 4)], [], w)).bind fun r3 =>
                      if (decide (0 ≤ r3.1) && decide (r3.1 < 2)) = true then some (r3.1, r3.2) else none
                    else none
                  else
                    if px_go w x0 9 = true then
                      (px_R (mm_Mod_scan, 0, [(2, x0), (9, 0), (9, 0), (9, 0)], [], w)).bind fun r1 =>
                      if px_go r1.2 x0 9 = true then
                        if px_go r1.2 x0 9 = true then
                          if px_go r1.2 x0 9 = true then
                            (px_R (mm_Mod_readPlace, 0, [(2, x0), (2, (px_rd r1.2 x0 19)), (2, (px_rd r1.2 x0 20)), (0, 4), (0, (px_rd w (px_rd w x0 12) ((px_w (9 + x1))).toNat)), (9, 0)], [], r1.2)).bind fun r2 =>
                            px_R (mm_Mod_readThing, 262, [(2, x0), (0, x1), (0, (px_rd w (px_rd w x0 12) ((px_w (9 + x1))).toNat)), (0, r2.1)], [], r2.2)
                          else none
                        else none
                      else none
                    else none
      else none
    else none) := (px_Req mm_Mod_readThing 0 [(2, x0), (0, x1), (9, 0), (9, 0)] [] w).trans rfl
set_option maxRecDepth 100000 in
theorem eq_Mod_readThing_262 (x0 x1 x2 x3 : Int) (w : pw) : px_R (mm_Mod_readThing, 262, [(2, x0), (0, x1), (0, x2), (0, x3)], [], w) =
    (if x3 = 0 then
      if (decide (0 ≤ x3) && decide (x3 < 2)) = true then some (x3, w) else none
    else
      if px_go w x0 9 = true then
        if px_ga w 0 (px_rd w x0 12) (px_w (9 + x1)) = true then
          if px_ga w 0 (px_rd w x0 12) (px_w (9 + x1)) = true then
            if (decide (0 ≤ x3) && decide (x3 < 2)) = true then some (x3, (px_wr w (px_rd w x0 12) ((px_w (9 + x1))).toNat (px_w ((px_rd w (px_rd w x0 12) ((px_w (9 + x1))).toNat) + 1)))) else none
          else none
        else none
      else none) := (px_Req mm_Mod_readThing 262 [(2, x0), (0, x1), (0, x2), (0, x3)] [] w).trans rfl
set_option maxRecDepth 100000 in
theorem eq_Mod_taps_0 (x0 : Int) (w : pw) : px_R (mm_Mod_taps, 0, [(2, x0), (9, 0), (9, 0), (9, 0), (9, 0), (9, 0)], [], w) =
    (if px_go w x0 9 = true then
      if px_go w x0 9 = true then
        (px_R (mm_Mod_readNumbers, 0, [(2, x0), (2, (px_rd w x0 50)), (0, 16), (0, 9999), (9, 0)], [], w)).bind fun r1 =>
        if r1.1 < 1 then
          some ((-1), r1.2)
        else
          px_R (mm_Mod_taps, 25, [(2, x0), (0, r1.1), (0, 0), (0, 0), (9, 0), (9, 0)], [], r1.2)
      else none
    else none) := (px_Req mm_Mod_taps 0 [(2, x0), (9, 0), (9, 0), (9, 0), (9, 0), (9, 0)] [] w).trans rfl
set_option maxRecDepth 100000 in
theorem eq_Mod_taps_25 (x0 x1 x2 x3 : Int) (y4 y5 : pv) (w : pw) : px_R (mm_Mod_taps, 25, [(2, x0), (0, x1), (0, x2), (0, x3), y4, y5], [], w) =
    (if x3 < x1 then
      px_R (mm_Mod_taps, 36, [(2, x0), (0, x1), (0, x2), (0, x3), (0, 0), (0, 1)], [], w)
    else
      some (x2, w)) := (px_Req mm_Mod_taps 25 [(2, x0), (0, x1), (0, x2), (0, x3), y4, y5] [] w).trans rfl
set_option maxRecDepth 100000 in
theorem eq_Mod_taps_36 (x0 x1 x2 x3 x4 x5 : Int) (w : pw) : px_R (mm_Mod_taps, 36, [(2, x0), (0, x1), (0, x2), (0, x3), (0, x4), (0, x5)], [], w) =
    (if x5 < x1 then
      if px_go w x0 9 = true then
        if px_ga w 0 (px_rd w x0 50) x5 = true then
          if px_go w x0 9 = true then
            if px_ga w 0 (px_rd w x0 50) x4 = true then
              if (px_rd w (px_rd w x0 50) (x4).toNat) < (px_rd w (px_rd w x0 50) (x5).toNat) then
                px_R (mm_Mod_taps, 36, [(2, x0), (0, x1), (0, x2), (0, x3), (0, x5), (0, (px_w (x5 + 1)))], [], w)
              else
                px_R (mm_Mod_taps, 36, [(2, x0), (0, x1), (0, x2), (0, x3), (0, x4), (0, (px_w (x5 + 1)))], [], w)
            else none
          else none
        else none
      else none
    else
      if px_go w x0 9 = true then
        (px_R (mm_Mod_findTaps, 0, [(2, x0), (0, x3), (9, 0), (9, 0), (9, 0), (9, 0)], [], w)).bind fun r2 =>
        if px_go r2.2 x0 9 = true then
          if px_ga r2.2 0 (px_rd r2.2 x0 50) x4 = true then
            if px_go r2.2 x0 9 = true then
              if px_go r2.2 x0 9 = true then
                if px_ga r2.2 0 (px_rd r2.2 x0 50) x4 = true then
                  px_R (mm_Mod_taps, 25, [(2, x0), (0, x1), (0, (px_w (x2 + (px_w ((px_rd r2.2 (px_rd r2.2 x0 50) (x4).toNat) * (px_rd r2.2 x0 47)))))), (0, (px_w (x3 + 1))), (0, x4), (0, x5)], [], (px_wr r2.2 (px_rd r2.2 x0 50) (x4).toNat (-1)))
                else none
              else none
            else none
          else none
        else none
      else none) := (px_Req mm_Mod_taps 36 [(2, x0), (0, x1), (0, x2), (0, x3), (0, x4), (0, x5)] [] w).trans rfl
set_option maxRecDepth 100000 in
theorem eq_Mod_readClause_0 (x0 : Int) (w : pw) : px_R (mm_Mod_readClause, 0, [(2, x0), (9, 0)], [], w) =
    (if px_go w x0 9 = true then
      if (px_rd w x0 3) = 1 then
        if px_go w x0 9 = true then
          px_R (mm_Mod_readClause, 16, [(2, x0), (9, 0)], [(0, (px_rd w x0 4))], w)
        else none
      else
        px_R (mm_Mod_readClause, 16, [(2, x0), (9, 0)], [(0, (-1))], w)
    else none) := (px_Req mm_Mod_readClause 0 [(2, x0), (9, 0)] [] w).trans rfl
set_option maxRecDepth 100000 in
theorem eq_Mod_readClause_16 (x0 s0 : Int) (w : pw) : px_R (mm_Mod_readClause, 16, [(2, x0), (9, 0)], [(0, s0)], w) =
    ((px_R (mm_Mod_in, 0, [(0, s0), (0, 0), (0, 5)], [], w)).bind fun r1 =>
      if r1.1 = 0 then
        if s0 = (-1) then
          if px_go r1.2 x0 9 = true then
            (px_R (mm_Mod_fails, 0, [(2, x0), (0, 1)], [], r1.2)).bind fun r4 =>
            if (decide (0 ≤ r4.1) && decide (r4.1 < 2)) = true then some (r4.1, r4.2) else none
          else none
        else
          if px_go r1.2 x0 9 = true then
            if (px_and (px_shr (px_rd r1.2 x0 23) s0) 1) = 1 then
              if px_go r1.2 x0 9 = true then
                (px_R (mm_Mod_fails, 0, [(2, x0), (0, 3)], [], r1.2)).bind fun r3 =>
                if (decide (0 ≤ r3.1) && decide (r3.1 < 2)) = true then some (r3.1, r3.2) else none
              else none
            else
              if px_go r1.2 x0 9 = true then
                if px_go r1.2 x0 9 = true then
                  if px_go (px_wr r1.2 x0 23 (px_or (px_rd r1.2 x0 23) (px_shl 1 s0))) x0 9 = true then
                    (px_R (mm_Mod_scan, 0, [(2, x0), (9, 0), (9, 0), (9, 0)], [], (px_wr r1.2 x0 23 (px_or (px_rd r1.2 x0 23) (px_shl 1 s0))))).bind fun r2 =>
                    if s0 = 6 then
                      px_R (mm_Mod_readClause, 102, [(2, x0), (0, s0)], [(0, 90), (0, 0), (2, x0)], r2.2)
                    else
                      if s0 = 7 then
                        px_R (mm_Mod_readClause, 102, [(2, x0), (0, s0)], [(0, 50), (0, 0), (2, x0)], r2.2)
                      else
                        px_R (mm_Mod_readClause, 102, [(2, x0), (0, s0)], [(0, 3), (0, 0), (2, x0)], r2.2)
                  else none
                else none
              else none
          else none
      else
        if px_go r1.2 x0 9 = true then
          (px_R (mm_Mod_readThing, 0, [(2, x0), (0, s0), (9, 0), (9, 0)], [], r1.2)).bind fun r5 =>
          if (decide (0 ≤ r5.1) && decide (r5.1 < 2)) = true then some (r5.1, r5.2) else none
        else none) := (px_Req mm_Mod_readClause 16 [(2, x0), (9, 0)] [(0, s0)] w).trans rfl
set_option maxRecDepth 100000 in
theorem eq_Mod_readClause_102 (x0 x1 s0 s1 s2 : Int) (w : pw) : px_R (mm_Mod_readClause, 102, [(2, x0), (0, x1)], [(0, s2), (0, s1), (2, s0)], w) =
    (if px_go w s0 9 = true then
      (px_R (mm_Mod_readNumber, 0, [(2, s0), (0, s1), (0, s2)], [], w)).bind fun r6 =>
      if r6.1 = 0 then
        some (0, r6.2)
      else
        if px_go r6.2 x0 9 = true then
          if px_go r6.2 x0 9 = true then
            if px_ga r6.2 0 (px_rd r6.2 x0 12) (px_w (9 + x1)) = true then
              some (1, (px_wr r6.2 (px_rd r6.2 x0 12) ((px_w (9 + x1))).toNat (px_rd r6.2 x0 11)))
            else none
          else none
        else none
    else none) := (px_Req mm_Mod_readClause 102 [(2, x0), (0, x1)] [(0, s2), (0, s1), (2, s0)] w).trans rfl
set_option maxRecDepth 100000 in
theorem eq_Mod_street_0 (x0 : Int) (w : pw) : px_R (mm_Mod_street, 0, [(2, x0), (9, 0)], [], w) =
    (if px_go w x0 9 = true then
      (px_R (mm_Mod_takeTape, 0, [(2, x0)], [], w)).bind fun r1 =>
      if px_go r1.2 x0 9 = true then
        if px_go (px_wr r1.2 x0 8 0) x0 9 = true then
          if px_go (px_wr (px_wr r1.2 x0 8 0) x0 9 (-1)) x0 9 = true then
            (px_R (mm_Mod_begin, 0, [(2, x0), (9, 0)], [], (px_wr (px_wr r1.2 x0 8 0) x0 9 (-1)))).bind fun r2 =>
            px_R (mm_Mod_street, 20, [(2, x0), (0, 0)], [], r2.2)
          else none
        else none
      else none
    else none) := (px_Req mm_Mod_street 0 [(2, x0), (9, 0)] [] w).trans rfl
set_option maxRecDepth 100000 in
theorem eq_Mod_street_20 (x0 x1 : Int) (w : pw) : px_R (mm_Mod_street, 20, [(2, x0), (0, x1)], [], w) =
    (if px_go w x0 9 = true then
      if (px_rd w x0 3) = 4 then
        if px_go w x0 9 = true then
          (px_R (mm_Mod_settle, 0, [(2, x0)], [], w)).bind fun r3 =>
          if px_go r3.2 x0 9 = true then
            some (x1, (px_wr r3.2 x0 22 x1))
          else none
        else none
      else
        if px_go w x0 9 = true then
          (px_R (mm_Mod_readClause, 0, [(2, x0), (9, 0)], [], w)).bind fun r4 =>
          if r4.1 = 0 then
            some ((-1), r4.2)
          else
            if px_go r4.2 x0 9 = true then
              if (px_rd r4.2 x0 3) = 3 then
                if px_go r4.2 x0 9 = true then
                  (px_R (mm_Mod_scan, 0, [(2, x0), (9, 0), (9, 0), (9, 0)], [], r4.2)).bind fun r5 =>
                  px_R (mm_Mod_street, 20, [(2, x0), (0, (px_w (x1 + 1)))], [], r5.2)
                else none
              else
                if px_go r4.2 x0 9 = true then
                  (px_R (mm_Mod_fails, 0, [(2, x0), (0, 1)], [], r4.2)).bind fun r6 =>
                  some ((-1), r6.2)
                else none
            else none
        else none
    else none) := (px_Req mm_Mod_street 20 [(2, x0), (0, x1)] [] w).trans rfl
set_option maxRecDepth 100000 in
theorem eq_Law_law_0 (x0 : Int) (w : pw) : px_R (mm_Law_law, 0, [(5, x0), (9, 0), (9, 0), (9, 0)], [], w) =
    (if px_go (px_al w (18, 12)) (w.1.length : Int) 8 = true then
      (px_R (mm_Tin_init, 0, [(2, (w.1.length : Int)), (9, 0)], [], (px_al w (18, 12)))).bind fun r1 =>
      if px_go (px_al r1.2 (19, 63)) (r1.2.1.length : Int) 9 = true then
        (px_R (mm_Mod_init, 0, [(2, (r1.2.1.length : Int))], [], (px_al r1.2 (19, 63)))).bind fun r2 =>
        px_R (mm_Law_law, 18, [(5, x0), (2, (w.1.length : Int)), (2, (r1.2.1.length : Int)), (0, 0)], [], r2.2)
      else none
    else none) := (px_Req mm_Law_law 0 [(5, x0), (9, 0), (9, 0), (9, 0)] [] w).trans rfl
set_option maxRecDepth 100000 in
theorem eq_Law_law_18 (x0 x1 x2 x3 : Int) (w : pw) : px_R (mm_Law_law, 18, [(5, x0), (2, x1), (2, x2), (0, x3)], [], w) =
    (if (px_w (x0 - 6)) < x3 then
      some (1, w)
    else
      if (decide (0 ≤ x3) && decide (x3 < x0)) = true then
        if (px_and (px_rd w 0 (x3).toNat) 63) = 0 then
          px_R (mm_Law_law, 204, [(5, x0), (2, x1), (2, x2), (0, x3)], [], w)
        else if (px_and (px_rd w 0 (x3).toNat) 63) = 1 then
          px_R (mm_Law_law, 267, [(5, x0), (2, x1), (2, x2), (0, x3)], [], w)
        else if (px_and (px_rd w 0 (x3).toNat) 63) = 2 then
          px_R (mm_Law_law, 290, [(5, x0), (2, x1), (2, x2), (0, x3)], [], w)
        else if (px_and (px_rd w 0 (x3).toNat) 63) = 3 then
          px_R (mm_Law_law, 303, [(5, x0), (2, x1), (2, x2), (0, x3)], [], w)
        else if (px_and (px_rd w 0 (x3).toNat) 63) = 4 then
          px_R (mm_Law_law, 326, [(5, x0), (2, x1), (2, x2), (0, x3)], [], w)
        else if (px_and (px_rd w 0 (x3).toNat) 63) = 5 then
          px_R (mm_Law_law, 349, [(5, x0), (2, x1), (2, x2), (0, x3)], [], w)
        else if (px_and (px_rd w 0 (x3).toNat) 63) = 6 then
          px_R (mm_Law_law, 392, [(5, x0), (2, x1), (2, x2), (0, x3)], [], w)
        else if (px_and (px_rd w 0 (x3).toNat) 63) = 7 then
          px_R (mm_Law_law, 445, [(5, x0), (2, x1), (2, x2), (0, x3)], [], w)
        else if (px_and (px_rd w 0 (x3).toNat) 63) = 8 then
          px_R (mm_Law_law, 468, [(5, x0), (2, x1), (2, x2), (0, x3)], [], w)
        else if (px_and (px_rd w 0 (x3).toNat) 63) = 9 then
          px_R (mm_Law_law, 491, [(5, x0), (2, x1), (2, x2), (0, x3)], [], w)
        else if (px_and (px_rd w 0 (x3).toNat) 63) = 10 then
          px_R (mm_Law_law, 504, [(5, x0), (2, x1), (2, x2), (0, x3)], [], w)
        else if (px_and (px_rd w 0 (x3).toNat) 63) = 11 then
          px_R (mm_Law_law, 527, [(5, x0), (2, x1), (2, x2), (0, x3)], [], w)
        else if (px_and (px_rd w 0 (x3).toNat) 63) = 12 then
          px_R (mm_Law_law, 560, [(5, x0), (2, x1), (2, x2), (0, x3)], [], w)
        else if (px_and (px_rd w 0 (x3).toNat) 63) = 13 then
          px_R (mm_Law_law, 603, [(5, x0), (2, x1), (2, x2), (0, x3)], [], w)
        else if (px_and (px_rd w 0 (x3).toNat) 63) = 14 then
          px_R (mm_Law_law, 636, [(5, x0), (2, x1), (2, x2), (0, x3)], [], w)
        else if (px_and (px_rd w 0 (x3).toNat) 63) = 15 then
          px_R (mm_Law_law, 669, [(5, x0), (2, x1), (2, x2), (0, x3)], [], w)
        else if (px_and (px_rd w 0 (x3).toNat) 63) = 16 then
          px_R (mm_Law_law, 712, [(5, x0), (2, x1), (2, x2), (0, x3)], [], w)
        else if (px_and (px_rd w 0 (x3).toNat) 63) = 17 then
          px_R (mm_Law_law, 755, [(5, x0), (2, x1), (2, x2), (0, x3)], [], w)
        else if (px_and (px_rd w 0 (x3).toNat) 63) = 18 then
          px_R (mm_Law_law, 778, [(5, x0), (2, x1), (2, x2), (0, x3)], [], w)
        else if (px_and (px_rd w 0 (x3).toNat) 63) = 19 then
          px_R (mm_Law_law, 801, [(5, x0), (2, x1), (2, x2), (0, x3)], [], w)
        else if (px_and (px_rd w 0 (x3).toNat) 63) = 20 then
          px_R (mm_Law_law, 824, [(5, x0), (2, x1), (2, x2), (0, x3)], [], w)
        else if (px_and (px_rd w 0 (x3).toNat) 63) = 21 then
          px_R (mm_Law_law, 857, [(5, x0), (2, x1), (2, x2), (0, x3)], [], w)
        else if (px_and (px_rd w 0 (x3).toNat) 63) = 22 then
          px_R (mm_Law_law, 880, [(5, x0), (2, x1), (2, x2), (0, x3)], [], w)
        else if (px_and (px_rd w 0 (x3).toNat) 63) = 23 then
          px_R (mm_Law_law, 923, [(5, x0), (2, x1), (2, x2), (0, x3)], [], w)
        else if (px_and (px_rd w 0 (x3).toNat) 63) = 24 then
          px_R (mm_Law_law, 956, [(5, x0), (2, x1), (2, x2), (0, x3)], [], w)
        else if (px_and (px_rd w 0 (x3).toNat) 63) = 25 then
          px_R (mm_Law_law, 979, [(5, x0), (2, x1), (2, x2), (0, x3)], [], w)
        else if (px_and (px_rd w 0 (x3).toNat) 63) = 26 then
          px_R (mm_Law_law, 1012, [(5, x0), (2, x1), (2, x2), (0, x3)], [], w)
        else if (px_and (px_rd w 0 (x3).toNat) 63) = 27 then
          px_R (mm_Law_law, 1036, [(5, x0), (2, x1), (2, x2), (0, x3)], [], w)
        else if (px_and (px_rd w 0 (x3).toNat) 63) = 28 then
          px_R (mm_Law_law, 1059, [(5, x0), (2, x1), (2, x2), (0, x3)], [], w)
        else if (px_and (px_rd w 0 (x3).toNat) 63) = 29 then
          px_R (mm_Law_law, 1082, [(5, x0), (2, x1), (2, x2), (0, x3)], [], w)
        else if (px_and (px_rd w 0 (x3).toNat) 63) = 30 then
          px_R (mm_Law_law, 1115, [(5, x0), (2, x1), (2, x2), (0, x3)], [], w)
        else if (px_and (px_rd w 0 (x3).toNat) 63) = 31 then
          px_R (mm_Law_law, 1148, [(5, x0), (2, x1), (2, x2), (0, x3)], [], w)
        else if (px_and (px_rd w 0 (x3).toNat) 63) = 32 then
          px_R (mm_Law_law, 1181, [(5, x0), (2, x1), (2, x2), (0, x3)], [], w)
        else if (px_and (px_rd w 0 (x3).toNat) 63) = 33 then
          px_R (mm_Law_law, 1194, [(5, x0), (2, x1), (2, x2), (0, x3)], [], w)
        else if (px_and (px_rd w 0 (x3).toNat) 63) = 34 then
          px_R (mm_Law_law, 1227, [(5, x0), (2, x1), (2, x2), (0, x3)], [], w)
        else if (px_and (px_rd w 0 (x3).toNat) 63) = 35 then
          px_R (mm_Law_law, 1270, [(5, x0), (2, x1), (2, x2), (0, x3)], [], w)
        else if (px_and (px_rd w 0 (x3).toNat) 63) = 36 then
          px_R (mm_Law_law, 1313, [(5, x0), (2, x1), (2, x2), (0, x3)], [], w)
        else if (px_and (px_rd w 0 (x3).toNat) 63) = 37 then
          px_R (mm_Law_law, 1346, [(5, x0), (2, x1), (2, x2), (0, x3)], [], w)
        else if (px_and (px_rd w 0 (x3).toNat) 63) = 38 then
          px_R (mm_Law_law, 1389, [(5, x0), (2, x1), (2, x2), (0, x3)], [], w)
        else 
          px_R (mm_Law_law, 1412, [(5, x0), (2, x1), (2, x2), (0, x3)], [], w)
      else none) := (px_Req mm_Law_law 18 [(5, x0), (2, x1), (2, x2), (0, x3)] [] w).trans rfl
set_option maxRecDepth 100000 in
theorem eq_Law_law_204 (x0 x1 x2 x3 : Int) (w : pw) : px_R (mm_Law_law, 204, [(5, x0), (2, x1), (2, x2), (0, x3)], [], w) =
    (if (decide (0 ≤ (px_w (x3 + 1))) && decide ((px_w (x3 + 1)) < x0)) = true then
      if (decide (0 ≤ (px_w (x3 + 2))) && decide ((px_w (x3 + 2)) < x0)) = true then
        if (decide (0 ≤ (px_w (x3 + 3))) && decide ((px_w (x3 + 3)) < x0)) = true then
          if (decide (0 ≤ (px_w (x3 + 4))) && decide ((px_w (x3 + 4)) < x0)) = true then
            if (decide (0 ≤ (px_w (x3 + 5))) && decide ((px_w (x3 + 5)) < x0)) = true then
              if px_go w x1 8 = true then
                (px_R (mm_Tin_feed, 0, [(2, x1), (0, (px_rd w 0 ((px_w (x3 + 1))).toNat)), (0, (px_rd w 0 ((px_w (x3 + 2))).toNat)), (0, (px_rd w 0 ((px_w (x3 + 3))).toNat)), (0, (px_rd w 0 ((px_w (x3 + 4))).toNat)), (0, (px_rd w 0 ((px_w (x3 + 5))).toNat))], [], w)).bind fun r3 =>
                if (decide (0 ≤ (px_w (x3 + 1))) && decide ((px_w (x3 + 1)) < x0)) = true then
                  if (decide (0 ≤ (px_w (x3 + 2))) && decide ((px_w (x3 + 2)) < x0)) = true then
                    if (decide (0 ≤ (px_w (x3 + 3))) && decide ((px_w (x3 + 3)) < x0)) = true then
                      if (decide (0 ≤ (px_w (x3 + 4))) && decide ((px_w (x3 + 4)) < x0)) = true then
                        if (decide (0 ≤ (px_w (x3 + 5))) && decide ((px_w (x3 + 5)) < x0)) = true then
                          if px_go r3.2 x2 9 = true then
                            (px_R (mm_Mod_feed, 0, [(2, x2), (0, (px_rd r3.2 0 ((px_w (x3 + 1))).toNat)), (0, (px_rd r3.2 0 ((px_w (x3 + 2))).toNat)), (0, (px_rd r3.2 0 ((px_w (x3 + 3))).toNat)), (0, (px_rd r3.2 0 ((px_w (x3 + 4))).toNat)), (0, (px_rd r3.2 0 ((px_w (x3 + 5))).toNat)), (9, 0), (9, 0), (9, 0)], [], r3.2)).bind fun r4 =>
                            if r3.1 = r4.1 then
                              px_R (mm_Law_law, 1412, [(5, x0), (2, x1), (2, x2), (0, x3)], [], r4.2)
                            else
                              some (0, r4.2)
                          else none
                        else none
                      else none
                    else none
                  else none
                else none
              else none
            else none
          else none
        else none
      else none
    else none) := (px_Req mm_Law_law 204 [(5, x0), (2, x1), (2, x2), (0, x3)] [] w).trans rfl
set_option maxRecDepth 100000 in
theorem eq_Law_law_267 (x0 x1 x2 x3 : Int) (w : pw) : px_R (mm_Law_law, 267, [(5, x0), (2, x1), (2, x2), (0, x3)], [], w) =
    (if (decide (0 ≤ (px_w (x3 + 1))) && decide ((px_w (x3 + 1)) < x0)) = true then
      if px_go w x1 8 = true then
        (px_R (mm_Tin_end, 0, [(2, x1), (0, (px_rd w 0 ((px_w (x3 + 1))).toNat))], [], w)).bind fun r5 =>
        if (decide (0 ≤ (px_w (x3 + 1))) && decide ((px_w (x3 + 1)) < x0)) = true then
          if px_go r5.2 x2 9 = true then
            (px_R (mm_Mod_end, 0, [(2, x2), (0, (px_rd r5.2 0 ((px_w (x3 + 1))).toNat))], [], r5.2)).bind fun r6 =>
            if r5.1 = r6.1 then
              px_R (mm_Law_law, 1412, [(5, x0), (2, x1), (2, x2), (0, x3)], [], r6.2)
            else
              some (0, r6.2)
          else none
        else none
      else none
    else none) := (px_Req mm_Law_law 267 [(5, x0), (2, x1), (2, x2), (0, x3)] [] w).trans rfl
set_option maxRecDepth 100000 in
theorem eq_Law_law_290 (x0 x1 x2 x3 : Int) (w : pw) : px_R (mm_Law_law, 290, [(5, x0), (2, x1), (2, x2), (0, x3)], [], w) =
    (if px_go w x1 8 = true then
      (px_R (mm_Tin_street, 0, [(2, x1), (9, 0)], [], w)).bind fun r7 =>
      if px_go r7.2 x2 9 = true then
        (px_R (mm_Mod_street, 0, [(2, x2), (9, 0)], [], r7.2)).bind fun r8 =>
        if r7.1 = r8.1 then
          px_R (mm_Law_law, 1412, [(5, x0), (2, x1), (2, x2), (0, x3)], [], r8.2)
        else
          some (0, r8.2)
      else none
    else none) := (px_Req mm_Law_law 290 [(5, x0), (2, x1), (2, x2), (0, x3)] [] w).trans rfl
set_option maxRecDepth 100000 in
theorem eq_Law_law_303 (x0 x1 x2 x3 : Int) (w : pw) : px_R (mm_Law_law, 303, [(5, x0), (2, x1), (2, x2), (0, x3)], [], w) =
    (if (decide (0 ≤ (px_w (x3 + 1))) && decide ((px_w (x3 + 1)) < x0)) = true then
      if px_go w x1 8 = true then
        (px_R (mm_Tin_fault, 0, [(2, x1), (0, (px_rd w 0 ((px_w (x3 + 1))).toNat))], [], w)).bind fun r9 =>
        if (decide (0 ≤ (px_w (x3 + 1))) && decide ((px_w (x3 + 1)) < x0)) = true then
          if px_go r9.2 x2 9 = true then
            (px_R (mm_Mod_fault, 0, [(2, x2), (0, (px_rd r9.2 0 ((px_w (x3 + 1))).toNat))], [], r9.2)).bind fun r10 =>
            if r9.1 = r10.1 then
              px_R (mm_Law_law, 1412, [(5, x0), (2, x1), (2, x2), (0, x3)], [], r10.2)
            else
              some (0, r10.2)
          else none
        else none
      else none
    else none) := (px_Req mm_Law_law 303 [(5, x0), (2, x1), (2, x2), (0, x3)] [] w).trans rfl
set_option maxRecDepth 100000 in
theorem eq_Law_law_326 (x0 x1 x2 x3 : Int) (w : pw) : px_R (mm_Law_law, 326, [(5, x0), (2, x1), (2, x2), (0, x3)], [], w) =
    (if (decide (0 ≤ (px_w (x3 + 1))) && decide ((px_w (x3 + 1)) < x0)) = true then
      if px_go w x1 8 = true then
        (px_R (mm_Tin_told, 0, [(2, x1), (0, (px_rd w 0 ((px_w (x3 + 1))).toNat))], [], w)).bind fun r11 =>
        if (decide (0 ≤ (px_w (x3 + 1))) && decide ((px_w (x3 + 1)) < x0)) = true then
          if px_go r11.2 x2 9 = true then
            (px_R (mm_Mod_told, 0, [(2, x2), (0, (px_rd r11.2 0 ((px_w (x3 + 1))).toNat))], [], r11.2)).bind fun r12 =>
            if r11.1 = r12.1 then
              px_R (mm_Law_law, 1412, [(5, x0), (2, x1), (2, x2), (0, x3)], [], r12.2)
            else
              some (0, r12.2)
          else none
        else none
      else none
    else none) := (px_Req mm_Law_law 326 [(5, x0), (2, x1), (2, x2), (0, x3)] [] w).trans rfl
set_option maxRecDepth 100000 in
theorem eq_Law_law_349 (x0 x1 x2 x3 : Int) (w : pw) : px_R (mm_Law_law, 349, [(5, x0), (2, x1), (2, x2), (0, x3)], [], w) =
    (if (decide (0 ≤ (px_w (x3 + 1))) && decide ((px_w (x3 + 1)) < x0)) = true then
      if (decide (0 ≤ (px_w (x3 + 2))) && decide ((px_w (x3 + 2)) < x0)) = true then
        if (decide (0 ≤ (px_w (x3 + 3))) && decide ((px_w (x3 + 3)) < x0)) = true then
          if px_go w x1 8 = true then
            (px_R (mm_Tin_band, 0, [(2, x1), (0, (px_rd w 0 ((px_w (x3 + 1))).toNat)), (0, (px_rd w 0 ((px_w (x3 + 2))).toNat)), (0, (px_rd w 0 ((px_w (x3 + 3))).toNat)), (9, 0)], [], w)).bind fun r13 =>
            if (decide (0 ≤ (px_w (x3 + 1))) && decide ((px_w (x3 + 1)) < x0)) = true then
              if (decide (0 ≤ (px_w (x3 + 2))) && decide ((px_w (x3 + 2)) < x0)) = true then
                if (decide (0 ≤ (px_w (x3 + 3))) && decide ((px_w (x3 + 3)) < x0)) = true then
                  if px_go r13.2 x2 9 = true then
                    (px_R (mm_Mod_band, 0, [(2, x2), (0, (px_rd r13.2 0 ((px_w (x3 + 1))).toNat)), (0, (px_rd r13.2 0 ((px_w (x3 + 2))).toNat)), (0, (px_rd r13.2 0 ((px_w (x3 + 3))).toNat))], [], r13.2)).bind fun r14 =>
                    if r13.1 = r14.1 then
                      px_R (mm_Law_law, 1412, [(5, x0), (2, x1), (2, x2), (0, x3)], [], r14.2)
                    else
                      some (0, r14.2)
                  else none
                else none
              else none
            else none
          else none
        else none
      else none
    else none) := (px_Req mm_Law_law 349 [(5, x0), (2, x1), (2, x2), (0, x3)] [] w).trans rfl
set_option maxRecDepth 100000 in
theorem eq_Law_law_392 (x0 x1 x2 x3 : Int) (w : pw) : px_R (mm_Law_law, 392, [(5, x0), (2, x1), (2, x2), (0, x3)], [], w) =
    (if (decide (0 ≤ (px_w (x3 + 1))) && decide ((px_w (x3 + 1)) < x0)) = true then
      if (decide (0 ≤ (px_w (x3 + 2))) && decide ((px_w (x3 + 2)) < x0)) = true then
        if (decide (0 ≤ (px_w (x3 + 3))) && decide ((px_w (x3 + 3)) < x0)) = true then
          if (decide (0 ≤ (px_w (x3 + 4))) && decide ((px_w (x3 + 4)) < x0)) = true then
            if px_go w x1 8 = true then
              (px_R (mm_Tin_line, 0, [(2, x1), (0, (px_rd w 0 ((px_w (x3 + 1))).toNat)), (0, (px_rd w 0 ((px_w (x3 + 2))).toNat)), (0, (px_rd w 0 ((px_w (x3 + 3))).toNat)), (0, (px_rd w 0 ((px_w (x3 + 4))).toNat))], [], w)).bind fun r15 =>
              if (decide (0 ≤ (px_w (x3 + 1))) && decide ((px_w (x3 + 1)) < x0)) = true then
                if (decide (0 ≤ (px_w (x3 + 2))) && decide ((px_w (x3 + 2)) < x0)) = true then
                  if (decide (0 ≤ (px_w (x3 + 3))) && decide ((px_w (x3 + 3)) < x0)) = true then
                    if (decide (0 ≤ (px_w (x3 + 4))) && decide ((px_w (x3 + 4)) < x0)) = true then
                      if px_go r15.2 x2 9 = true then
                        (px_R (mm_Mod_line, 0, [(2, x2), (0, (px_rd r15.2 0 ((px_w (x3 + 1))).toNat)), (0, (px_rd r15.2 0 ((px_w (x3 + 2))).toNat)), (0, (px_rd r15.2 0 ((px_w (x3 + 3))).toNat)), (0, (px_rd r15.2 0 ((px_w (x3 + 4))).toNat))], [], r15.2)).bind fun r16 =>
                        if r15.1 = r16.1 then
                          px_R (mm_Law_law, 1412, [(5, x0), (2, x1), (2, x2), (0, x3)], [], r16.2)
                        else
                          some (0, r16.2)
                      else none
                    else none
                  else none
                else none
              else none
            else none
          else none
        else none
      else none
    else none) := (px_Req mm_Law_law 392 [(5, x0), (2, x1), (2, x2), (0, x3)] [] w).trans rfl
set_option maxRecDepth 100000 in
theorem eq_Law_law_445 (x0 x1 x2 x3 : Int) (w : pw) : px_R (mm_Law_law, 445, [(5, x0), (2, x1), (2, x2), (0, x3)], [], w) =
    (if (decide (0 ≤ (px_w (x3 + 1))) && decide ((px_w (x3 + 1)) < x0)) = true then
      if px_go w x1 8 = true then
        (px_R (mm_Tin_bend, 0, [(2, x1), (0, (px_rd w 0 ((px_w (x3 + 1))).toNat))], [], w)).bind fun r17 =>
        if (decide (0 ≤ (px_w (x3 + 1))) && decide ((px_w (x3 + 1)) < x0)) = true then
          if px_go r17.2 x2 9 = true then
            (px_R (mm_Mod_bend, 0, [(2, x2), (0, (px_rd r17.2 0 ((px_w (x3 + 1))).toNat))], [], r17.2)).bind fun r18 =>
            if r17.1 = r18.1 then
              px_R (mm_Law_law, 1412, [(5, x0), (2, x1), (2, x2), (0, x3)], [], r18.2)
            else
              some (0, r18.2)
          else none
        else none
      else none
    else none) := (px_Req mm_Law_law 445 [(5, x0), (2, x1), (2, x2), (0, x3)] [] w).trans rfl
set_option maxRecDepth 100000 in
theorem eq_Law_law_468 (x0 x1 x2 x3 : Int) (w : pw) : px_R (mm_Law_law, 468, [(5, x0), (2, x1), (2, x2), (0, x3)], [], w) =
    (if (decide (0 ≤ (px_w (x3 + 1))) && decide ((px_w (x3 + 1)) < x0)) = true then
      if px_go w x1 8 = true then
        (px_R (mm_Tin_tie, 0, [(2, x1), (0, (px_rd w 0 ((px_w (x3 + 1))).toNat))], [], w)).bind fun r19 =>
        if (decide (0 ≤ (px_w (x3 + 1))) && decide ((px_w (x3 + 1)) < x0)) = true then
          if px_go r19.2 x2 9 = true then
            (px_R (mm_Mod_tie, 0, [(2, x2), (0, (px_rd r19.2 0 ((px_w (x3 + 1))).toNat))], [], r19.2)).bind fun r20 =>
            if r19.1 = r20.1 then
              px_R (mm_Law_law, 1412, [(5, x0), (2, x1), (2, x2), (0, x3)], [], r20.2)
            else
              some (0, r20.2)
          else none
        else none
      else none
    else none) := (px_Req mm_Law_law 468 [(5, x0), (2, x1), (2, x2), (0, x3)] [] w).trans rfl
set_option maxRecDepth 100000 in
theorem eq_Law_law_491 (x0 x1 x2 x3 : Int) (w : pw) : px_R (mm_Law_law, 491, [(5, x0), (2, x1), (2, x2), (0, x3)], [], w) =
    (if px_go w x1 8 = true then
      (px_R (mm_Tin_straighten, 0, [(2, x1), (9, 0)], [], w)).bind fun r21 =>
      if px_go r21.2 x2 9 = true then
        (px_R (mm_Mod_straighten, 0, [(2, x2), (9, 0)], [], r21.2)).bind fun r22 =>
        if r21.1 = r22.1 then
          px_R (mm_Law_law, 1412, [(5, x0), (2, x1), (2, x2), (0, x3)], [], r22.2)
        else
          some (0, r22.2)
      else none
    else none) := (px_Req mm_Law_law 491 [(5, x0), (2, x1), (2, x2), (0, x3)] [] w).trans rfl
set_option maxRecDepth 100000 in
theorem eq_Law_law_504 (x0 x1 x2 x3 : Int) (w : pw) : px_R (mm_Law_law, 504, [(5, x0), (2, x1), (2, x2), (0, x3)], [], w) =
    (if (decide (0 ≤ (px_w (x3 + 1))) && decide ((px_w (x3 + 1)) < x0)) = true then
      if px_go w x1 8 = true then
        (px_R (mm_Tin_bears, 0, [(2, x1), (0, (px_rd w 0 ((px_w (x3 + 1))).toNat))], [], w)).bind fun r23 =>
        if (decide (0 ≤ (px_w (x3 + 1))) && decide ((px_w (x3 + 1)) < x0)) = true then
          if px_go r23.2 x2 9 = true then
            (px_R (mm_Mod_bears, 0, [(2, x2), (0, (px_rd r23.2 0 ((px_w (x3 + 1))).toNat))], [], r23.2)).bind fun r24 =>
            if r23.1 = r24.1 then
              px_R (mm_Law_law, 1412, [(5, x0), (2, x1), (2, x2), (0, x3)], [], r24.2)
            else
              some (0, r24.2)
          else none
        else none
      else none
    else none) := (px_Req mm_Law_law 504 [(5, x0), (2, x1), (2, x2), (0, x3)] [] w).trans rfl
set_option maxRecDepth 100000 in
theorem eq_Law_law_527 (x0 x1 x2 x3 : Int) (w : pw) : px_R (mm_Law_law, 527, [(5, x0), (2, x1), (2, x2), (0, x3)], [], w) =
    (if (decide (0 ≤ (px_w (x3 + 1))) && decide ((px_w (x3 + 1)) < x0)) = true then
      if (decide (0 ≤ (px_w (x3 + 2))) && decide ((px_w (x3 + 2)) < x0)) = true then
        if px_go w x1 8 = true then
          (px_R (mm_Tin_through, 0, [(2, x1), (0, (px_rd w 0 ((px_w (x3 + 1))).toNat)), (0, (px_rd w 0 ((px_w (x3 + 2))).toNat))], [], w)).bind fun r25 =>
          if (decide (0 ≤ (px_w (x3 + 1))) && decide ((px_w (x3 + 1)) < x0)) = true then
            if (decide (0 ≤ (px_w (x3 + 2))) && decide ((px_w (x3 + 2)) < x0)) = true then
              if px_go r25.2 x2 9 = true then
                (px_R (mm_Mod_through, 0, [(2, x2), (0, (px_rd r25.2 0 ((px_w (x3 + 1))).toNat)), (0, (px_rd r25.2 0 ((px_w (x3 + 2))).toNat))], [], r25.2)).bind fun r26 =>
                if r25.1 = r26.1 then
                  px_R (mm_Law_law, 1412, [(5, x0), (2, x1), (2, x2), (0, x3)], [], r26.2)
                else
                  some (0, r26.2)
              else none
            else none
          else none
        else none
      else none
    else none) := (px_Req mm_Law_law 527 [(5, x0), (2, x1), (2, x2), (0, x3)] [] w).trans rfl
set_option maxRecDepth 100000 in
theorem eq_Law_law_560 (x0 x1 x2 x3 : Int) (w : pw) : px_R (mm_Law_law, 560, [(5, x0), (2, x1), (2, x2), (0, x3)], [], w) =
    (if (decide (0 ≤ (px_w (x3 + 1))) && decide ((px_w (x3 + 1)) < x0)) = true then
      if (decide (0 ≤ (px_w (x3 + 2))) && decide ((px_w (x3 + 2)) < x0)) = true then
        if (decide (0 ≤ (px_w (x3 + 3))) && decide ((px_w (x3 + 3)) < x0)) = true then
          if px_go w x1 8 = true then
            (px_R (mm_Tin_share, 0, [(2, x1), (0, (px_rd w 0 ((px_w (x3 + 1))).toNat)), (0, (px_rd w 0 ((px_w (x3 + 2))).toNat)), (0, (px_rd w 0 ((px_w (x3 + 3))).toNat))], [], w)).bind fun r27 =>
            if (decide (0 ≤ (px_w (x3 + 1))) && decide ((px_w (x3 + 1)) < x0)) = true then
              if (decide (0 ≤ (px_w (x3 + 2))) && decide ((px_w (x3 + 2)) < x0)) = true then
                if (decide (0 ≤ (px_w (x3 + 3))) && decide ((px_w (x3 + 3)) < x0)) = true then
                  if px_go r27.2 x2 9 = true then
                    (px_R (mm_Mod_share, 0, [(2, x2), (0, (px_rd r27.2 0 ((px_w (x3 + 1))).toNat)), (0, (px_rd r27.2 0 ((px_w (x3 + 2))).toNat)), (0, (px_rd r27.2 0 ((px_w (x3 + 3))).toNat))], [], r27.2)).bind fun r28 =>
                    if r27.1 = r28.1 then
                      px_R (mm_Law_law, 1412, [(5, x0), (2, x1), (2, x2), (0, x3)], [], r28.2)
                    else
                      some (0, r28.2)
                  else none
                else none
              else none
            else none
          else none
        else none
      else none
    else none) := (px_Req mm_Law_law 560 [(5, x0), (2, x1), (2, x2), (0, x3)] [] w).trans rfl
set_option maxRecDepth 100000 in
theorem eq_Law_law_603 (x0 x1 x2 x3 : Int) (w : pw) : px_R (mm_Law_law, 603, [(5, x0), (2, x1), (2, x2), (0, x3)], [], w) =
    (if (decide (0 ≤ (px_w (x3 + 1))) && decide ((px_w (x3 + 1)) < x0)) = true then
      if (decide (0 ≤ (px_w (x3 + 2))) && decide ((px_w (x3 + 2)) < x0)) = true then
        if px_go w x1 8 = true then
          (px_R (mm_Tin_level, 0, [(2, x1), (0, (px_rd w 0 ((px_w (x3 + 1))).toNat)), (0, (px_rd w 0 ((px_w (x3 + 2))).toNat))], [], w)).bind fun r29 =>
          if (decide (0 ≤ (px_w (x3 + 1))) && decide ((px_w (x3 + 1)) < x0)) = true then
            if (decide (0 ≤ (px_w (x3 + 2))) && decide ((px_w (x3 + 2)) < x0)) = true then
              if px_go r29.2 x2 9 = true then
                (px_R (mm_Mod_level, 0, [(2, x2), (0, (px_rd r29.2 0 ((px_w (x3 + 1))).toNat)), (0, (px_rd r29.2 0 ((px_w (x3 + 2))).toNat))], [], r29.2)).bind fun r30 =>
                if r29.1 = r30.1 then
                  px_R (mm_Law_law, 1412, [(5, x0), (2, x1), (2, x2), (0, x3)], [], r30.2)
                else
                  some (0, r30.2)
              else none
            else none
          else none
        else none
      else none
    else none) := (px_Req mm_Law_law 603 [(5, x0), (2, x1), (2, x2), (0, x3)] [] w).trans rfl
set_option maxRecDepth 100000 in
theorem eq_Law_law_636 (x0 x1 x2 x3 : Int) (w : pw) : px_R (mm_Law_law, 636, [(5, x0), (2, x1), (2, x2), (0, x3)], [], w) =
    (if (decide (0 ≤ (px_w (x3 + 1))) && decide ((px_w (x3 + 1)) < x0)) = true then
      if (decide (0 ≤ (px_w (x3 + 2))) && decide ((px_w (x3 + 2)) < x0)) = true then
        if px_go w x1 8 = true then
          (px_R (mm_Tin_table, 0, [(2, x1), (0, (px_rd w 0 ((px_w (x3 + 1))).toNat)), (0, (px_rd w 0 ((px_w (x3 + 2))).toNat))], [], w)).bind fun r31 =>
          if (decide (0 ≤ (px_w (x3 + 1))) && decide ((px_w (x3 + 1)) < x0)) = true then
            if (decide (0 ≤ (px_w (x3 + 2))) && decide ((px_w (x3 + 2)) < x0)) = true then
              if px_go r31.2 x2 9 = true then
                (px_R (mm_Mod_table, 0, [(2, x2), (0, (px_rd r31.2 0 ((px_w (x3 + 1))).toNat)), (0, (px_rd r31.2 0 ((px_w (x3 + 2))).toNat))], [], r31.2)).bind fun r32 =>
                if r31.1 = r32.1 then
                  px_R (mm_Law_law, 1412, [(5, x0), (2, x1), (2, x2), (0, x3)], [], r32.2)
                else
                  some (0, r32.2)
              else none
            else none
          else none
        else none
      else none
    else none) := (px_Req mm_Law_law 636 [(5, x0), (2, x1), (2, x2), (0, x3)] [] w).trans rfl
set_option maxRecDepth 100000 in
theorem eq_Law_law_669 (x0 x1 x2 x3 : Int) (w : pw) : px_R (mm_Law_law, 669, [(5, x0), (2, x1), (2, x2), (0, x3)], [], w) =
    (if (decide (0 ≤ (px_w (x3 + 1))) && decide ((px_w (x3 + 1)) < x0)) = true then
      if (decide (0 ≤ (px_w (x3 + 2))) && decide ((px_w (x3 + 2)) < x0)) = true then
        if (decide (0 ≤ (px_w (x3 + 3))) && decide ((px_w (x3 + 3)) < x0)) = true then
          if px_go w x1 8 = true then
            (px_R (mm_Tin_among, 0, [(2, x1), (0, (px_rd w 0 ((px_w (x3 + 1))).toNat)), (0, (px_rd w 0 ((px_w (x3 + 2))).toNat)), (0, (px_rd w 0 ((px_w (x3 + 3))).toNat))], [], w)).bind fun r33 =>
            if (decide (0 ≤ (px_w (x3 + 1))) && decide ((px_w (x3 + 1)) < x0)) = true then
              if (decide (0 ≤ (px_w (x3 + 2))) && decide ((px_w (x3 + 2)) < x0)) = true then
                if (decide (0 ≤ (px_w (x3 + 3))) && decide ((px_w (x3 + 3)) < x0)) = true then
                  if px_go r33.2 x2 9 = true then
                    (px_R (mm_Mod_among, 0, [(2, x2), (0, (px_rd r33.2 0 ((px_w (x3 + 1))).toNat)), (0, (px_rd r33.2 0 ((px_w (x3 + 2))).toNat)), (0, (px_rd r33.2 0 ((px_w (x3 + 3))).toNat))], [], r33.2)).bind fun r34 =>
                    if r33.1 = r34.1 then
                      px_R (mm_Law_law, 1412, [(5, x0), (2, x1), (2, x2), (0, x3)], [], r34.2)
                    else
                      some (0, r34.2)
                  else none
                else none
              else none
            else none
          else none
        else none
      else none
    else none) := (px_Req mm_Law_law 669 [(5, x0), (2, x1), (2, x2), (0, x3)] [] w).trans rfl
set_option maxRecDepth 100000 in
theorem eq_Law_law_712 (x0 x1 x2 x3 : Int) (w : pw) : px_R (mm_Law_law, 712, [(5, x0), (2, x1), (2, x2), (0, x3)], [], w) =
    (if (decide (0 ≤ (px_w (x3 + 1))) && decide ((px_w (x3 + 1)) < x0)) = true then
      if (decide (0 ≤ (px_w (x3 + 2))) && decide ((px_w (x3 + 2)) < x0)) = true then
        if (decide (0 ≤ (px_w (x3 + 3))) && decide ((px_w (x3 + 3)) < x0)) = true then
          if px_go w x1 8 = true then
            (px_R (mm_Tin_longest, 0, [(2, x1), (0, (px_rd w 0 ((px_w (x3 + 1))).toNat)), (0, (px_rd w 0 ((px_w (x3 + 2))).toNat)), (0, (px_rd w 0 ((px_w (x3 + 3))).toNat)), (9, 0), (9, 0), (9, 0)], [], w)).bind fun r35 =>
            if (decide (0 ≤ (px_w (x3 + 1))) && decide ((px_w (x3 + 1)) < x0)) = true then
              if (decide (0 ≤ (px_w (x3 + 2))) && decide ((px_w (x3 + 2)) < x0)) = true then
                if (decide (0 ≤ (px_w (x3 + 3))) && decide ((px_w (x3 + 3)) < x0)) = true then
                  if px_go r35.2 x2 9 = true then
                    (px_R (mm_Mod_longest, 0, [(2, x2), (0, (px_rd r35.2 0 ((px_w (x3 + 1))).toNat)), (0, (px_rd r35.2 0 ((px_w (x3 + 2))).toNat)), (0, (px_rd r35.2 0 ((px_w (x3 + 3))).toNat)), (9, 0)], [], r35.2)).bind fun r36 =>
                    if r35.1 = r36.1 then
                      px_R (mm_Law_law, 1412, [(5, x0), (2, x1), (2, x2), (0, x3)], [], r36.2)
                    else
                      some (0, r36.2)
                  else none
                else none
              else none
            else none
          else none
        else none
      else none
    else none) := (px_Req mm_Law_law 712 [(5, x0), (2, x1), (2, x2), (0, x3)] [] w).trans rfl
set_option maxRecDepth 100000 in
theorem eq_Law_law_755 (x0 x1 x2 x3 : Int) (w : pw) : px_R (mm_Law_law, 755, [(5, x0), (2, x1), (2, x2), (0, x3)], [], w) =
    (if (decide (0 ≤ (px_w (x3 + 1))) && decide ((px_w (x3 + 1)) < x0)) = true then
      if px_go w x1 8 = true then
        (px_R (mm_Tin_best, 0, [(2, x1), (0, (px_rd w 0 ((px_w (x3 + 1))).toNat))], [], w)).bind fun r37 =>
        if (decide (0 ≤ (px_w (x3 + 1))) && decide ((px_w (x3 + 1)) < x0)) = true then
          if px_go r37.2 x2 9 = true then
            (px_R (mm_Mod_best, 0, [(2, x2), (0, (px_rd r37.2 0 ((px_w (x3 + 1))).toNat)), (9, 0), (9, 0), (9, 0), (9, 0)], [], r37.2)).bind fun r38 =>
            if r37.1 = r38.1 then
              px_R (mm_Law_law, 1412, [(5, x0), (2, x1), (2, x2), (0, x3)], [], r38.2)
            else
              some (0, r38.2)
          else none
        else none
      else none
    else none) := (px_Req mm_Law_law 755 [(5, x0), (2, x1), (2, x2), (0, x3)] [] w).trans rfl
set_option maxRecDepth 100000 in
theorem eq_Law_law_778 (x0 x1 x2 x3 : Int) (w : pw) : px_R (mm_Law_law, 778, [(5, x0), (2, x1), (2, x2), (0, x3)], [], w) =
    (if (decide (0 ≤ (px_w (x3 + 1))) && decide ((px_w (x3 + 1)) < x0)) = true then
      if px_go w x1 8 = true then
        (px_R (mm_Tin_bestLoop, 0, [(2, x1), (0, (px_rd w 0 ((px_w (x3 + 1))).toNat)), (9, 0), (9, 0), (9, 0), (9, 0), (9, 0)], [], w)).bind fun r39 =>
        if (decide (0 ≤ (px_w (x3 + 1))) && decide ((px_w (x3 + 1)) < x0)) = true then
          if px_go r39.2 x2 9 = true then
            (px_R (mm_Mod_bestLoop, 0, [(2, x2), (0, (px_rd r39.2 0 ((px_w (x3 + 1))).toNat)), (9, 0), (9, 0), (9, 0), (9, 0), (9, 0)], [], r39.2)).bind fun r40 =>
            if r39.1 = r40.1 then
              px_R (mm_Law_law, 1412, [(5, x0), (2, x1), (2, x2), (0, x3)], [], r40.2)
            else
              some (0, r40.2)
          else none
        else none
      else none
    else none) := (px_Req mm_Law_law 778 [(5, x0), (2, x1), (2, x2), (0, x3)] [] w).trans rfl
set_option maxRecDepth 100000 in
theorem eq_Law_law_801 (x0 x1 x2 x3 : Int) (w : pw) : px_R (mm_Law_law, 801, [(5, x0), (2, x1), (2, x2), (0, x3)], [], w) =
    (if (decide (0 ≤ (px_w (x3 + 1))) && decide ((px_w (x3 + 1)) < x0)) = true then
      if px_go w x1 8 = true then
        (px_R (mm_Tin_list, 0, [(2, x1), (0, (px_rd w 0 ((px_w (x3 + 1))).toNat)), (9, 0), (9, 0), (9, 0), (9, 0)], [], w)).bind fun r41 =>
        if (decide (0 ≤ (px_w (x3 + 1))) && decide ((px_w (x3 + 1)) < x0)) = true then
          if px_go r41.2 x2 9 = true then
            (px_R (mm_Mod_list, 0, [(2, x2), (0, (px_rd r41.2 0 ((px_w (x3 + 1))).toNat)), (9, 0), (9, 0), (9, 0), (9, 0)], [], r41.2)).bind fun r42 =>
            if r41.1 = r42.1 then
              px_R (mm_Law_law, 1412, [(5, x0), (2, x1), (2, x2), (0, x3)], [], r42.2)
            else
              some (0, r42.2)
          else none
        else none
      else none
    else none) := (px_Req mm_Law_law 801 [(5, x0), (2, x1), (2, x2), (0, x3)] [] w).trans rfl
set_option maxRecDepth 100000 in
theorem eq_Law_law_824 (x0 x1 x2 x3 : Int) (w : pw) : px_R (mm_Law_law, 824, [(5, x0), (2, x1), (2, x2), (0, x3)], [], w) =
    (if (decide (0 ≤ (px_w (x3 + 1))) && decide ((px_w (x3 + 1)) < x0)) = true then
      if (decide (0 ≤ (px_w (x3 + 2))) && decide ((px_w (x3 + 2)) < x0)) = true then
        if px_go w x1 8 = true then
          (px_R (mm_Tin_said, 0, [(2, x1), (0, (px_rd w 0 ((px_w (x3 + 1))).toNat)), (0, (px_rd w 0 ((px_w (x3 + 2))).toNat))], [], w)).bind fun r43 =>
          if (decide (0 ≤ (px_w (x3 + 1))) && decide ((px_w (x3 + 1)) < x0)) = true then
            if (decide (0 ≤ (px_w (x3 + 2))) && decide ((px_w (x3 + 2)) < x0)) = true then
              if px_go r43.2 x2 9 = true then
                (px_R (mm_Mod_said, 0, [(2, x2), (0, (px_rd r43.2 0 ((px_w (x3 + 1))).toNat)), (0, (px_rd r43.2 0 ((px_w (x3 + 2))).toNat)), (9, 0), (9, 0), (9, 0), (9, 0), (9, 0), (9, 0)], [], r43.2)).bind fun r44 =>
                if r43.1 = r44.1 then
                  px_R (mm_Law_law, 1412, [(5, x0), (2, x1), (2, x2), (0, x3)], [], r44.2)
                else
                  some (0, r44.2)
              else none
            else none
          else none
        else none
      else none
    else none) := (px_Req mm_Law_law 824 [(5, x0), (2, x1), (2, x2), (0, x3)] [] w).trans rfl
set_option maxRecDepth 100000 in
theorem eq_Law_law_857 (x0 x1 x2 x3 : Int) (w : pw) : px_R (mm_Law_law, 857, [(5, x0), (2, x1), (2, x2), (0, x3)], [], w) =
    (if (decide (0 ≤ (px_w (x3 + 1))) && decide ((px_w (x3 + 1)) < x0)) = true then
      if px_go w x1 8 = true then
        (px_R (mm_Tin_stretch, 0, [(2, x1), (0, (px_rd w 0 ((px_w (x3 + 1))).toNat))], [], w)).bind fun r45 =>
        if (decide (0 ≤ (px_w (x3 + 1))) && decide ((px_w (x3 + 1)) < x0)) = true then
          if px_go r45.2 x2 9 = true then
            (px_R (mm_Mod_stretch, 0, [(2, x2), (0, (px_rd r45.2 0 ((px_w (x3 + 1))).toNat))], [], r45.2)).bind fun r46 =>
            if r45.1 = r46.1 then
              px_R (mm_Law_law, 1412, [(5, x0), (2, x1), (2, x2), (0, x3)], [], r46.2)
            else
              some (0, r46.2)
          else none
        else none
      else none
    else none) := (px_Req mm_Law_law 857 [(5, x0), (2, x1), (2, x2), (0, x3)] [] w).trans rfl
set_option maxRecDepth 100000 in
theorem eq_Law_law_880 (x0 x1 x2 x3 : Int) (w : pw) : px_R (mm_Law_law, 880, [(5, x0), (2, x1), (2, x2), (0, x3)], [], w) =
    (if (decide (0 ≤ (px_w (x3 + 1))) && decide ((px_w (x3 + 1)) < x0)) = true then
      if (decide (0 ≤ (px_w (x3 + 2))) && decide ((px_w (x3 + 2)) < x0)) = true then
        if (decide (0 ≤ (px_w (x3 + 3))) && decide ((px_w (x3 + 3)) < x0)) = true then
          if px_go w x1 8 = true then
            (px_R (mm_Tin_cell, 0, [(2, x1), (0, (px_rd w 0 ((px_w (x3 + 1))).toNat)), (0, (px_rd w 0 ((px_w (x3 + 2))).toNat)), (0, (px_rd w 0 ((px_w (x3 + 3))).toNat))], [], w)).bind fun r47 =>
            if (decide (0 ≤ (px_w (x3 + 1))) && decide ((px_w (x3 + 1)) < x0)) = true then
              if (decide (0 ≤ (px_w (x3 + 2))) && decide ((px_w (x3 + 2)) < x0)) = true then
                if (decide (0 ≤ (px_w (x3 + 3))) && decide ((px_w (x3 + 3)) < x0)) = true then
                  if px_go r47.2 x2 9 = true then
                    (px_R (mm_Mod_cell, 0, [(2, x2), (0, (px_rd r47.2 0 ((px_w (x3 + 1))).toNat)), (0, (px_rd r47.2 0 ((px_w (x3 + 2))).toNat)), (0, (px_rd r47.2 0 ((px_w (x3 + 3))).toNat))], [], r47.2)).bind fun r48 =>
                    if r47.1 = r48.1 then
                      px_R (mm_Law_law, 1412, [(5, x0), (2, x1), (2, x2), (0, x3)], [], r48.2)
                    else
                      some (0, r48.2)
                  else none
                else none
              else none
            else none
          else none
        else none
      else none
    else none) := (px_Req mm_Law_law 880 [(5, x0), (2, x1), (2, x2), (0, x3)] [] w).trans rfl
set_option maxRecDepth 100000 in
theorem eq_Law_law_923 (x0 x1 x2 x3 : Int) (w : pw) : px_R (mm_Law_law, 923, [(5, x0), (2, x1), (2, x2), (0, x3)], [], w) =
    (if (decide (0 ≤ (px_w (x3 + 1))) && decide ((px_w (x3 + 1)) < x0)) = true then
      if (decide (0 ≤ (px_w (x3 + 2))) && decide ((px_w (x3 + 2)) < x0)) = true then
        if px_go w x1 8 = true then
          (px_R (mm_Tin_send, 0, [(2, x1), (0, (px_rd w 0 ((px_w (x3 + 1))).toNat)), (0, (px_rd w 0 ((px_w (x3 + 2))).toNat))], [], w)).bind fun r49 =>
          if (decide (0 ≤ (px_w (x3 + 1))) && decide ((px_w (x3 + 1)) < x0)) = true then
            if (decide (0 ≤ (px_w (x3 + 2))) && decide ((px_w (x3 + 2)) < x0)) = true then
              if px_go r49.2 x2 9 = true then
                (px_R (mm_Mod_send, 0, [(2, x2), (0, (px_rd r49.2 0 ((px_w (x3 + 1))).toNat)), (0, (px_rd r49.2 0 ((px_w (x3 + 2))).toNat)), (9, 0)], [], r49.2)).bind fun r50 =>
                if r49.1 = r50.1 then
                  px_R (mm_Law_law, 1412, [(5, x0), (2, x1), (2, x2), (0, x3)], [], r50.2)
                else
                  some (0, r50.2)
              else none
            else none
          else none
        else none
      else none
    else none) := (px_Req mm_Law_law 923 [(5, x0), (2, x1), (2, x2), (0, x3)] [] w).trans rfl
set_option maxRecDepth 100000 in
theorem eq_Law_law_956 (x0 x1 x2 x3 : Int) (w : pw) : px_R (mm_Law_law, 956, [(5, x0), (2, x1), (2, x2), (0, x3)], [], w) =
    (if (decide (0 ≤ (px_w (x3 + 1))) && decide ((px_w (x3 + 1)) < x0)) = true then
      if px_go w x1 8 = true then
        (px_R (mm_Tin_tick, 0, [(2, x1), (0, (px_rd w 0 ((px_w (x3 + 1))).toNat)), (9, 0)], [], w)).bind fun r51 =>
        if (decide (0 ≤ (px_w (x3 + 1))) && decide ((px_w (x3 + 1)) < x0)) = true then
          if px_go r51.2 x2 9 = true then
            (px_R (mm_Mod_tick, 0, [(2, x2), (0, (px_rd r51.2 0 ((px_w (x3 + 1))).toNat)), (9, 0)], [], r51.2)).bind fun r52 =>
            if r51.1 = r52.1 then
              px_R (mm_Law_law, 1412, [(5, x0), (2, x1), (2, x2), (0, x3)], [], r52.2)
            else
              some (0, r52.2)
          else none
        else none
      else none
    else none) := (px_Req mm_Law_law 956 [(5, x0), (2, x1), (2, x2), (0, x3)] [] w).trans rfl
set_option maxRecDepth 100000 in
theorem eq_Law_law_979 (x0 x1 x2 x3 : Int) (w : pw) : px_R (mm_Law_law, 979, [(5, x0), (2, x1), (2, x2), (0, x3)], [], w) =
    (if (decide (0 ≤ (px_w (x3 + 1))) && decide ((px_w (x3 + 1)) < x0)) = true then
      if (decide (0 ≤ (px_w (x3 + 2))) && decide ((px_w (x3 + 2)) < x0)) = true then
        if px_go w x1 8 = true then
          (px_R (mm_Tin_goes, 0, [(2, x1), (0, (px_rd w 0 ((px_w (x3 + 1))).toNat)), (0, (px_rd w 0 ((px_w (x3 + 2))).toNat))], [], w)).bind fun r53 =>
          if (decide (0 ≤ (px_w (x3 + 1))) && decide ((px_w (x3 + 1)) < x0)) = true then
            if (decide (0 ≤ (px_w (x3 + 2))) && decide ((px_w (x3 + 2)) < x0)) = true then
              if px_go r53.2 x2 9 = true then
                (px_R (mm_Mod_goes, 0, [(2, x2), (0, (px_rd r53.2 0 ((px_w (x3 + 1))).toNat)), (0, (px_rd r53.2 0 ((px_w (x3 + 2))).toNat))], [], r53.2)).bind fun r54 =>
                if r53.1 = r54.1 then
                  px_R (mm_Law_law, 1412, [(5, x0), (2, x1), (2, x2), (0, x3)], [], r54.2)
                else
                  some (0, r54.2)
              else none
            else none
          else none
        else none
      else none
    else none) := (px_Req mm_Law_law 979 [(5, x0), (2, x1), (2, x2), (0, x3)] [] w).trans rfl
set_option maxRecDepth 100000 in
theorem eq_Law_law_1012 (x0 x1 x2 x3 : Int) (w : pw) : px_R (mm_Law_law, 1012, [(5, x0), (2, x1), (2, x2), (0, x3)], [], w) =
    (if (decide (0 ≤ (px_w (x3 + 1))) && decide ((px_w (x3 + 1)) < x0)) = true then
      if px_go w x1 8 = true then
        (px_R (mm_Tin_out, 0, [(2, x1), (0, (px_rd w 0 ((px_w (x3 + 1))).toNat))], [], w)).bind fun r55 =>
        if (decide (0 ≤ (px_w (x3 + 1))) && decide ((px_w (x3 + 1)) < x0)) = true then
          if px_go r55.2 x2 9 = true then
            (px_R (mm_Mod_out, 0, [(2, x2), (0, (px_rd r55.2 0 ((px_w (x3 + 1))).toNat))], [], r55.2)).bind fun r56 =>
            if (px_cmp r55.1 r56.1) = 0 then
              px_R (mm_Law_law, 1412, [(5, x0), (2, x1), (2, x2), (0, x3)], [], r56.2)
            else
              some (0, r56.2)
          else none
        else none
      else none
    else none) := (px_Req mm_Law_law 1012 [(5, x0), (2, x1), (2, x2), (0, x3)] [] w).trans rfl
set_option maxRecDepth 100000 in
theorem eq_Law_law_1036 (x0 x1 x2 x3 : Int) (w : pw) : px_R (mm_Law_law, 1036, [(5, x0), (2, x1), (2, x2), (0, x3)], [], w) =
    (if (decide (0 ≤ (px_w (x3 + 1))) && decide ((px_w (x3 + 1)) < x0)) = true then
      if px_go w x1 8 = true then
        (px_R (mm_Tin_keep, 0, [(2, x1), (0, (px_rd w 0 ((px_w (x3 + 1))).toNat))], [], w)).bind fun r57 =>
        if (decide (0 ≤ (px_w (x3 + 1))) && decide ((px_w (x3 + 1)) < x0)) = true then
          if px_go r57.2 x2 9 = true then
            (px_R (mm_Mod_keep, 0, [(2, x2), (0, (px_rd r57.2 0 ((px_w (x3 + 1))).toNat)), (9, 0)], [], r57.2)).bind fun r58 =>
            if r57.1 = r58.1 then
              px_R (mm_Law_law, 1412, [(5, x0), (2, x1), (2, x2), (0, x3)], [], r58.2)
            else
              some (0, r58.2)
          else none
        else none
      else none
    else none) := (px_Req mm_Law_law 1036 [(5, x0), (2, x1), (2, x2), (0, x3)] [] w).trans rfl
set_option maxRecDepth 100000 in
theorem eq_Law_law_1059 (x0 x1 x2 x3 : Int) (w : pw) : px_R (mm_Law_law, 1059, [(5, x0), (2, x1), (2, x2), (0, x3)], [], w) =
    (if (decide (0 ≤ (px_w (x3 + 1))) && decide ((px_w (x3 + 1)) < x0)) = true then
      if px_go w x1 8 = true then
        (px_R (mm_Tin_take, 0, [(2, x1), (0, (px_rd w 0 ((px_w (x3 + 1))).toNat))], [], w)).bind fun r59 =>
        if (decide (0 ≤ (px_w (x3 + 1))) && decide ((px_w (x3 + 1)) < x0)) = true then
          if px_go r59.2 x2 9 = true then
            (px_R (mm_Mod_take, 0, [(2, x2), (0, (px_rd r59.2 0 ((px_w (x3 + 1))).toNat)), (9, 0)], [], r59.2)).bind fun r60 =>
            if r59.1 = r60.1 then
              px_R (mm_Law_law, 1412, [(5, x0), (2, x1), (2, x2), (0, x3)], [], r60.2)
            else
              some (0, r60.2)
          else none
        else none
      else none
    else none) := (px_Req mm_Law_law 1059 [(5, x0), (2, x1), (2, x2), (0, x3)] [] w).trans rfl
set_option maxRecDepth 100000 in
theorem eq_Law_law_1082 (x0 x1 x2 x3 : Int) (w : pw) : px_R (mm_Law_law, 1082, [(5, x0), (2, x1), (2, x2), (0, x3)], [], w) =
    (if (decide (0 ≤ (px_w (x3 + 1))) && decide ((px_w (x3 + 1)) < x0)) = true then
      if (decide (0 ≤ (px_w (x3 + 2))) && decide ((px_w (x3 + 2)) < x0)) = true then
        if px_go w x1 8 = true then
          (px_R (mm_Tin_yards, 0, [(2, x1), (0, (px_rd w 0 ((px_w (x3 + 1))).toNat)), (0, (px_rd w 0 ((px_w (x3 + 2))).toNat))], [], w)).bind fun r61 =>
          if (decide (0 ≤ (px_w (x3 + 1))) && decide ((px_w (x3 + 1)) < x0)) = true then
            if (decide (0 ≤ (px_w (x3 + 2))) && decide ((px_w (x3 + 2)) < x0)) = true then
              if px_go r61.2 x2 9 = true then
                (px_R (mm_Mod_yards, 0, [(2, x2), (0, (px_rd r61.2 0 ((px_w (x3 + 1))).toNat)), (0, (px_rd r61.2 0 ((px_w (x3 + 2))).toNat))], [], r61.2)).bind fun r62 =>
                if r61.1 = r62.1 then
                  px_R (mm_Law_law, 1412, [(5, x0), (2, x1), (2, x2), (0, x3)], [], r62.2)
                else
                  some (0, r62.2)
              else none
            else none
          else none
        else none
      else none
    else none) := (px_Req mm_Law_law 1082 [(5, x0), (2, x1), (2, x2), (0, x3)] [] w).trans rfl
set_option maxRecDepth 100000 in
theorem eq_Law_law_1115 (x0 x1 x2 x3 : Int) (w : pw) : px_R (mm_Law_law, 1115, [(5, x0), (2, x1), (2, x2), (0, x3)], [], w) =
    (if (decide (0 ≤ (px_w (x3 + 1))) && decide ((px_w (x3 + 1)) < x0)) = true then
      if (decide (0 ≤ (px_w (x3 + 2))) && decide ((px_w (x3 + 2)) < x0)) = true then
        if px_go w x1 8 = true then
          (px_R (mm_Tin_wish, 0, [(2, x1), (0, (px_rd w 0 ((px_w (x3 + 1))).toNat)), (0, (px_rd w 0 ((px_w (x3 + 2))).toNat))], [], w)).bind fun r63 =>
          if (decide (0 ≤ (px_w (x3 + 1))) && decide ((px_w (x3 + 1)) < x0)) = true then
            if (decide (0 ≤ (px_w (x3 + 2))) && decide ((px_w (x3 + 2)) < x0)) = true then
              if px_go r63.2 x2 9 = true then
                (px_R (mm_Mod_wish, 0, [(2, x2), (0, (px_rd r63.2 0 ((px_w (x3 + 1))).toNat)), (0, (px_rd r63.2 0 ((px_w (x3 + 2))).toNat)), (9, 0), (9, 0), (9, 0)], [], r63.2)).bind fun r64 =>
                if r63.1 = r64.1 then
                  px_R (mm_Law_law, 1412, [(5, x0), (2, x1), (2, x2), (0, x3)], [], r64.2)
                else
                  some (0, r64.2)
              else none
            else none
          else none
        else none
      else none
    else none) := (px_Req mm_Law_law 1115 [(5, x0), (2, x1), (2, x2), (0, x3)] [] w).trans rfl
set_option maxRecDepth 100000 in
theorem eq_Law_law_1148 (x0 x1 x2 x3 : Int) (w : pw) : px_R (mm_Law_law, 1148, [(5, x0), (2, x1), (2, x2), (0, x3)], [], w) =
    (if (decide (0 ≤ (px_w (x3 + 1))) && decide ((px_w (x3 + 1)) < x0)) = true then
      if (decide (0 ≤ (px_w (x3 + 2))) && decide ((px_w (x3 + 2)) < x0)) = true then
        if px_go w x1 8 = true then
          (px_R (mm_Tin_least, 0, [(2, x1), (0, (px_rd w 0 ((px_w (x3 + 1))).toNat)), (0, (px_rd w 0 ((px_w (x3 + 2))).toNat))], [], w)).bind fun r65 =>
          if (decide (0 ≤ (px_w (x3 + 1))) && decide ((px_w (x3 + 1)) < x0)) = true then
            if (decide (0 ≤ (px_w (x3 + 2))) && decide ((px_w (x3 + 2)) < x0)) = true then
              if px_go r65.2 x2 9 = true then
                (px_R (mm_Mod_least, 0, [(2, x2), (0, (px_rd r65.2 0 ((px_w (x3 + 1))).toNat)), (0, (px_rd r65.2 0 ((px_w (x3 + 2))).toNat)), (9, 0), (9, 0), (9, 0), (9, 0)], [], r65.2)).bind fun r66 =>
                if r65.1 = r66.1 then
                  px_R (mm_Law_law, 1412, [(5, x0), (2, x1), (2, x2), (0, x3)], [], r66.2)
                else
                  some (0, r66.2)
              else none
            else none
          else none
        else none
      else none
    else none) := (px_Req mm_Law_law 1148 [(5, x0), (2, x1), (2, x2), (0, x3)] [] w).trans rfl
set_option maxRecDepth 100000 in
theorem eq_Law_law_1181 (x0 x1 x2 x3 : Int) (w : pw) : px_R (mm_Law_law, 1181, [(5, x0), (2, x1), (2, x2), (0, x3)], [], w) =
    (if px_go w x1 8 = true then
      (px_R (mm_Tin_taps, 0, [(2, x1), (9, 0)], [], w)).bind fun r67 =>
      if px_go r67.2 x2 9 = true then
        (px_R (mm_Mod_taps, 0, [(2, x2), (9, 0), (9, 0), (9, 0), (9, 0), (9, 0)], [], r67.2)).bind fun r68 =>
        if r67.1 = r68.1 then
          px_R (mm_Law_law, 1412, [(5, x0), (2, x1), (2, x2), (0, x3)], [], r68.2)
        else
          some (0, r68.2)
      else none
    else none) := (px_Req mm_Law_law 1181 [(5, x0), (2, x1), (2, x2), (0, x3)] [] w).trans rfl
set_option maxRecDepth 100000 in
theorem eq_Law_law_1194 (x0 x1 x2 x3 : Int) (w : pw) : px_R (mm_Law_law, 1194, [(5, x0), (2, x1), (2, x2), (0, x3)], [], w) =
    (if (decide (0 ≤ (px_w (x3 + 1))) && decide ((px_w (x3 + 1)) < x0)) = true then
      if (decide (0 ≤ (px_w (x3 + 2))) && decide ((px_w (x3 + 2)) < x0)) = true then
        if px_go w x1 8 = true then
          (px_R (mm_Tin_tapRow, 0, [(2, x1), (0, (px_rd w 0 ((px_w (x3 + 1))).toNat)), (0, (px_rd w 0 ((px_w (x3 + 2))).toNat))], [], w)).bind fun r69 =>
          if (decide (0 ≤ (px_w (x3 + 1))) && decide ((px_w (x3 + 1)) < x0)) = true then
            if (decide (0 ≤ (px_w (x3 + 2))) && decide ((px_w (x3 + 2)) < x0)) = true then
              if px_go r69.2 x2 9 = true then
                (px_R (mm_Mod_tapRow, 0, [(2, x2), (0, (px_rd r69.2 0 ((px_w (x3 + 1))).toNat)), (0, (px_rd r69.2 0 ((px_w (x3 + 2))).toNat))], [], r69.2)).bind fun r70 =>
                if r69.1 = r70.1 then
                  px_R (mm_Law_law, 1412, [(5, x0), (2, x1), (2, x2), (0, x3)], [], r70.2)
                else
                  some (0, r70.2)
              else none
            else none
          else none
        else none
      else none
    else none) := (px_Req mm_Law_law 1194 [(5, x0), (2, x1), (2, x2), (0, x3)] [] w).trans rfl
set_option maxRecDepth 100000 in
theorem eq_Law_law_1227 (x0 x1 x2 x3 : Int) (w : pw) : px_R (mm_Law_law, 1227, [(5, x0), (2, x1), (2, x2), (0, x3)], [], w) =
    (if (decide (0 ≤ (px_w (x3 + 1))) && decide ((px_w (x3 + 1)) < x0)) = true then
      if (decide (0 ≤ (px_w (x3 + 2))) && decide ((px_w (x3 + 2)) < x0)) = true then
        if (decide (0 ≤ (px_w (x3 + 3))) && decide ((px_w (x3 + 3)) < x0)) = true then
          if px_go w x1 8 = true then
            (px_R (mm_Tin_write, 0, [(2, x1), (0, (px_rd w 0 ((px_w (x3 + 1))).toNat)), (0, (px_rd w 0 ((px_w (x3 + 2))).toNat)), (0, (px_rd w 0 ((px_w (x3 + 3))).toNat))], [], w)).bind fun r71 =>
            if (decide (0 ≤ (px_w (x3 + 1))) && decide ((px_w (x3 + 1)) < x0)) = true then
              if (decide (0 ≤ (px_w (x3 + 2))) && decide ((px_w (x3 + 2)) < x0)) = true then
                if (decide (0 ≤ (px_w (x3 + 3))) && decide ((px_w (x3 + 3)) < x0)) = true then
                  if px_go r71.2 x2 9 = true then
                    (px_R (mm_Mod_write, 0, [(2, x2), (0, (px_rd r71.2 0 ((px_w (x3 + 1))).toNat)), (0, (px_rd r71.2 0 ((px_w (x3 + 2))).toNat)), (0, (px_rd r71.2 0 ((px_w (x3 + 3))).toNat))], [], r71.2)).bind fun r72 =>
                    if r71.1 = r72.1 then
                      px_R (mm_Law_law, 1412, [(5, x0), (2, x1), (2, x2), (0, x3)], [], r72.2)
                    else
                      some (0, r72.2)
                  else none
                else none
              else none
            else none
          else none
        else none
      else none
    else none) := (px_Req mm_Law_law 1227 [(5, x0), (2, x1), (2, x2), (0, x3)] [] w).trans rfl
set_option maxRecDepth 100000 in
theorem eq_Law_law_1270 (x0 x1 x2 x3 : Int) (w : pw) : px_R (mm_Law_law, 1270, [(5, x0), (2, x1), (2, x2), (0, x3)], [], w) =
    (if (decide (0 ≤ (px_w (x3 + 1))) && decide ((px_w (x3 + 1)) < x0)) = true then
      if (decide (0 ≤ (px_w (x3 + 2))) && decide ((px_w (x3 + 2)) < x0)) = true then
        if (decide (0 ≤ (px_w (x3 + 3))) && decide ((px_w (x3 + 3)) < x0)) = true then
          if px_go w x1 8 = true then
            (px_R (mm_Tin_right, 0, [(2, x1), (0, (px_rd w 0 ((px_w (x3 + 1))).toNat)), (0, (px_rd w 0 ((px_w (x3 + 2))).toNat)), (0, (px_rd w 0 ((px_w (x3 + 3))).toNat))], [], w)).bind fun r73 =>
            if (decide (0 ≤ (px_w (x3 + 1))) && decide ((px_w (x3 + 1)) < x0)) = true then
              if (decide (0 ≤ (px_w (x3 + 2))) && decide ((px_w (x3 + 2)) < x0)) = true then
                if (decide (0 ≤ (px_w (x3 + 3))) && decide ((px_w (x3 + 3)) < x0)) = true then
                  if px_go r73.2 x2 9 = true then
                    (px_R (mm_Mod_right_1, 0, [(2, x2), (0, (px_rd r73.2 0 ((px_w (x3 + 1))).toNat)), (0, (px_rd r73.2 0 ((px_w (x3 + 2))).toNat)), (0, (px_rd r73.2 0 ((px_w (x3 + 3))).toNat)), (9, 0), (9, 0)], [], r73.2)).bind fun r74 =>
                    if r73.1 = r74.1 then
                      px_R (mm_Law_law, 1412, [(5, x0), (2, x1), (2, x2), (0, x3)], [], r74.2)
                    else
                      some (0, r74.2)
                  else none
                else none
              else none
            else none
          else none
        else none
      else none
    else none) := (px_Req mm_Law_law 1270 [(5, x0), (2, x1), (2, x2), (0, x3)] [] w).trans rfl
set_option maxRecDepth 100000 in
theorem eq_Law_law_1313 (x0 x1 x2 x3 : Int) (w : pw) : px_R (mm_Law_law, 1313, [(5, x0), (2, x1), (2, x2), (0, x3)], [], w) =
    (if (decide (0 ≤ (px_w (x3 + 1))) && decide ((px_w (x3 + 1)) < x0)) = true then
      if (decide (0 ≤ (px_w (x3 + 2))) && decide ((px_w (x3 + 2)) < x0)) = true then
        if px_go w x1 8 = true then
          (px_R (mm_Tin_fit, 0, [(2, x1), (0, (px_rd w 0 ((px_w (x3 + 1))).toNat)), (0, (px_rd w 0 ((px_w (x3 + 2))).toNat))], [], w)).bind fun r75 =>
          if (decide (0 ≤ (px_w (x3 + 1))) && decide ((px_w (x3 + 1)) < x0)) = true then
            if (decide (0 ≤ (px_w (x3 + 2))) && decide ((px_w (x3 + 2)) < x0)) = true then
              if px_go r75.2 x2 9 = true then
                (px_R (mm_Mod_fit, 0, [(2, x2), (0, (px_rd r75.2 0 ((px_w (x3 + 1))).toNat)), (0, (px_rd r75.2 0 ((px_w (x3 + 2))).toNat)), (9, 0), (9, 0), (9, 0), (9, 0), (9, 0)], [], r75.2)).bind fun r76 =>
                if r75.1 = r76.1 then
                  px_R (mm_Law_law, 1412, [(5, x0), (2, x1), (2, x2), (0, x3)], [], r76.2)
                else
                  some (0, r76.2)
              else none
            else none
          else none
        else none
      else none
    else none) := (px_Req mm_Law_law 1313 [(5, x0), (2, x1), (2, x2), (0, x3)] [] w).trans rfl
set_option maxRecDepth 100000 in
theorem eq_Law_law_1346 (x0 x1 x2 x3 : Int) (w : pw) : px_R (mm_Law_law, 1346, [(5, x0), (2, x1), (2, x2), (0, x3)], [], w) =
    (if (decide (0 ≤ (px_w (x3 + 1))) && decide ((px_w (x3 + 1)) < x0)) = true then
      if (decide (0 ≤ (px_w (x3 + 2))) && decide ((px_w (x3 + 2)) < x0)) = true then
        if (decide (0 ≤ (px_w (x3 + 3))) && decide ((px_w (x3 + 3)) < x0)) = true then
          if px_go w x1 8 = true then
            (px_R (mm_Tin_listened, 0, [(2, x1), (0, (px_rd w 0 ((px_w (x3 + 1))).toNat)), (0, (px_rd w 0 ((px_w (x3 + 2))).toNat)), (0, (px_rd w 0 ((px_w (x3 + 3))).toNat)), (9, 0), (9, 0), (9, 0)], [], w)).bind fun r77 =>
            if (decide (0 ≤ (px_w (x3 + 1))) && decide ((px_w (x3 + 1)) < x0)) = true then
              if (decide (0 ≤ (px_w (x3 + 2))) && decide ((px_w (x3 + 2)) < x0)) = true then
                if (decide (0 ≤ (px_w (x3 + 3))) && decide ((px_w (x3 + 3)) < x0)) = true then
                  if px_go r77.2 x2 9 = true then
                    (px_R (mm_Mod_listened, 0, [(2, x2), (0, (px_rd r77.2 0 ((px_w (x3 + 1))).toNat)), (0, (px_rd r77.2 0 ((px_w (x3 + 2))).toNat)), (0, (px_rd r77.2 0 ((px_w (x3 + 3))).toNat)), (9, 0), (9, 0), (9, 0)], [], r77.2)).bind fun r78 =>
                    if r77.1 = r78.1 then
                      px_R (mm_Law_law, 1412, [(5, x0), (2, x1), (2, x2), (0, x3)], [], r78.2)
                    else
                      some (0, r78.2)
                  else none
                else none
              else none
            else none
          else none
        else none
      else none
    else none) := (px_Req mm_Law_law 1346 [(5, x0), (2, x1), (2, x2), (0, x3)] [] w).trans rfl
set_option maxRecDepth 100000 in
theorem eq_Law_law_1389 (x0 x1 x2 x3 : Int) (w : pw) : px_R (mm_Law_law, 1389, [(5, x0), (2, x1), (2, x2), (0, x3)], [], w) =
    (if (decide (0 ≤ (px_w (x3 + 1))) && decide ((px_w (x3 + 1)) < x0)) = true then
      if px_go w x1 8 = true then
        (px_R (mm_Tin_count, 0, [(2, x1), (0, (px_rd w 0 ((px_w (x3 + 1))).toNat))], [], w)).bind fun r79 =>
        if (decide (0 ≤ (px_w (x3 + 1))) && decide ((px_w (x3 + 1)) < x0)) = true then
          if px_go r79.2 x2 9 = true then
            (px_R (mm_Mod_count, 0, [(2, x2), (0, (px_rd r79.2 0 ((px_w (x3 + 1))).toNat))], [], r79.2)).bind fun r80 =>
            if r79.1 = r80.1 then
              px_R (mm_Law_law, 1412, [(5, x0), (2, x1), (2, x2), (0, x3)], [], r80.2)
            else
              some (0, r80.2)
          else none
        else none
      else none
    else none) := (px_Req mm_Law_law 1389 [(5, x0), (2, x1), (2, x2), (0, x3)] [] w).trans rfl
set_option maxRecDepth 100000 in
theorem eq_Law_law_1412 (x0 x1 x2 x3 : Int) (w : pw) : px_R (mm_Law_law, 1412, [(5, x0), (2, x1), (2, x2), (0, x3)], [], w) =
    (px_R (mm_Law_law, 18, [(5, x0), (2, x1), (2, x2), (0, (px_w (x3 + 6)))], [], w)) := (px_Req mm_Law_law 1412 [(5, x0), (2, x1), (2, x2), (0, x3)] [] w).trans rfl
end
section
theorem zz_b : True := by
  have := @Jvm.Free.Multi.fill_facts
  have := @Jvm.Stand.multianewarray2F
  trivial
theorem zz_c : True := trivial
end
