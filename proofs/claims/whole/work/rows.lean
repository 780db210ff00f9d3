section
-- ===== PART A: goes FIRST, ahead of the names: the tables' words, and 'selects' of the private methods out of them =====
/-- a private method of a class that the tables say can be made, by its rows of tables_1 -/
def lw_okq (q : MethodName × Nat) : Prop := (q.1.cls ≠ "java/lang/invoke/MethodHandle" ∧ q.1.cls ≠ "java/lang/invoke/VarHandle") ∧ Cond.instantiable q.1.cls q.2 ∈ tables_1 ∧ Cond.privateMethod q.1 ∈ tables_1 ∧ Cond.instanceMethod q.1 ∈ tables_1
theorem lw_p0 : lw_okq (⟨"SeaReceiver$Sentence", "begin", "(I)I"⟩, 6) := ⟨⟨by decide +kernel, by decide +kernel⟩, List.mem_of_getElem? (i := 48) (by decide +kernel), List.mem_of_getElem? (i := 234) (by decide +kernel), List.mem_of_getElem? (i := 235) (by decide +kernel)⟩
theorem lw_p1 : lw_okq (⟨"SeaReceiver$Sentence", "step", "(ZI)I"⟩, 6) := ⟨⟨by decide +kernel, by decide +kernel⟩, List.mem_of_getElem? (i := 48) (by decide +kernel), List.mem_of_getElem? (i := 238) (by decide +kernel), List.mem_of_getElem? (i := 239) (by decide +kernel)⟩
theorem lw_p2 : lw_okq (⟨"SeaReceiver$Sentence", "store", "(I)I"⟩, 6) := ⟨⟨by decide +kernel, by decide +kernel⟩, List.mem_of_getElem? (i := 48) (by decide +kernel), List.mem_of_getElem? (i := 242) (by decide +kernel), List.mem_of_getElem? (i := 243) (by decide +kernel)⟩
theorem lw_p3 : lw_okq (⟨"SeaReceiver$Sentence", "hearDigit", "(II)I"⟩, 6) := ⟨⟨by decide +kernel, by decide +kernel⟩, List.mem_of_getElem? (i := 48) (by decide +kernel), List.mem_of_getElem? (i := 246) (by decide +kernel), List.mem_of_getElem? (i := 247) (by decide +kernel)⟩
theorem lw_p4 : lw_okq (⟨"SeaReceiver", "judge", "()I"⟩, 10) := ⟨⟨by decide +kernel, by decide +kernel⟩, List.mem_of_getElem? (i := 24) (by decide +kernel), List.mem_of_getElem? (i := 250) (by decide +kernel), List.mem_of_getElem? (i := 251) (by decide +kernel)⟩
theorem lw_p5 : lw_okq (⟨"SeaReceiver$Fields", "to", "(I)I"⟩, 4) := ⟨⟨by decide +kernel, by decide +kernel⟩, List.mem_of_getElem? (i := 77) (by decide +kernel), List.mem_of_getElem? (i := 267) (by decide +kernel), List.mem_of_getElem? (i := 268) (by decide +kernel)⟩
theorem lw_p6 : lw_okq (⟨"SeaReceiver$Fields", "isForm", "(Ljava/lang/String;)Z"⟩, 4) := ⟨⟨by decide +kernel, by decide +kernel⟩, List.mem_of_getElem? (i := 77) (by decide +kernel), List.mem_of_getElem? (i := 272) (by decide +kernel), List.mem_of_getElem? (i := 273) (by decide +kernel)⟩
theorem lw_p7 : lw_okq (⟨"SeaReceiver$Fields", "from", "(I)I"⟩, 4) := ⟨⟨by decide +kernel, by decide +kernel⟩, List.mem_of_getElem? (i := 77) (by decide +kernel), List.mem_of_getElem? (i := 332) (by decide +kernel), List.mem_of_getElem? (i := 333) (by decide +kernel)⟩
theorem lw_p8 : lw_okq (⟨"SeaReceiver$Fields", "digits", "(IIIIII)I"⟩, 4) := ⟨⟨by decide +kernel, by decide +kernel⟩, List.mem_of_getElem? (i := 77) (by decide +kernel), List.mem_of_getElem? (i := 337) (by decide +kernel), List.mem_of_getElem? (i := 338) (by decide +kernel)⟩
theorem lw_p9 : lw_okq (⟨"SeaReceiver$Fields", "digitAt", "(I)I"⟩, 4) := ⟨⟨by decide +kernel, by decide +kernel⟩, List.mem_of_getElem? (i := 77) (by decide +kernel), List.mem_of_getElem? (i := 341) (by decide +kernel), List.mem_of_getElem? (i := 342) (by decide +kernel)⟩
theorem lw_p10 : lw_okq (⟨"SeaReceiver$Fields", "wrong", "()I"⟩, 4) := ⟨⟨by decide +kernel, by decide +kernel⟩, List.mem_of_getElem? (i := 77) (by decide +kernel), List.mem_of_getElem? (i := 345) (by decide +kernel), List.mem_of_getElem? (i := 346) (by decide +kernel)⟩
theorem lw_p11 : lw_okq (⟨"SeaReceiver$Fields", "at", "(I)I"⟩, 4) := ⟨⟨by decide +kernel, by decide +kernel⟩, List.mem_of_getElem? (i := 77) (by decide +kernel), List.mem_of_getElem? (i := 349) (by decide +kernel), List.mem_of_getElem? (i := 350) (by decide +kernel)⟩
theorem lw_p12 : lw_okq (⟨"SeaReceiver$Fields", "angle", "(III)I"⟩, 4) := ⟨⟨by decide +kernel, by decide +kernel⟩, List.mem_of_getElem? (i := 77) (by decide +kernel), List.mem_of_getElem? (i := 362) (by decide +kernel), List.mem_of_getElem? (i := 363) (by decide +kernel)⟩
theorem lw_p13 : lw_okq (⟨"SeaReceiver$Fields", "onSide", "(IIII)I"⟩, 4) := ⟨⟨by decide +kernel, by decide +kernel⟩, List.mem_of_getElem? (i := 77) (by decide +kernel), List.mem_of_getElem? (i := 368) (by decide +kernel), List.mem_of_getElem? (i := 369) (by decide +kernel)⟩
theorem lw_p14 : lw_okq (⟨"SeaReceiver$Position", "settle", "(Z[I)Z"⟩, 2) := ⟨⟨by decide +kernel, by decide +kernel⟩, List.mem_of_getElem? (i := 100) (by decide +kernel), List.mem_of_getElem? (i := 400) (by decide +kernel), List.mem_of_getElem? (i := 401) (by decide +kernel)⟩
theorem lw_p15 : lw_okq (⟨"SeaReceiver", "takePart", "()Z"⟩, 10) := ⟨⟨by decide +kernel, by decide +kernel⟩, List.mem_of_getElem? (i := 24) (by decide +kernel), List.mem_of_getElem? (i := 503) (by decide +kernel), List.mem_of_getElem? (i := 504) (by decide +kernel)⟩
def lw_privs_1 : List (MethodName × Nat) := [(⟨"SeaReceiver$Sentence", "begin", "(I)I"⟩, 6), (⟨"SeaReceiver$Sentence", "step", "(ZI)I"⟩, 6), (⟨"SeaReceiver$Sentence", "store", "(I)I"⟩, 6), (⟨"SeaReceiver$Sentence", "hearDigit", "(II)I"⟩, 6), (⟨"SeaReceiver", "judge", "()I"⟩, 10), (⟨"SeaReceiver$Fields", "to", "(I)I"⟩, 4), (⟨"SeaReceiver$Fields", "isForm", "(Ljava/lang/String;)Z"⟩, 4), (⟨"SeaReceiver$Fields", "from", "(I)I"⟩, 4), (⟨"SeaReceiver$Fields", "digits", "(IIIIII)I"⟩, 4), (⟨"SeaReceiver$Fields", "digitAt", "(I)I"⟩, 4), (⟨"SeaReceiver$Fields", "wrong", "()I"⟩, 4), (⟨"SeaReceiver$Fields", "at", "(I)I"⟩, 4), (⟨"SeaReceiver$Fields", "angle", "(III)I"⟩, 4), (⟨"SeaReceiver$Fields", "onSide", "(IIII)I"⟩, 4), (⟨"SeaReceiver$Position", "settle", "(Z[I)Z"⟩, 2), (⟨"SeaReceiver", "takePart", "()Z"⟩, 10)]
theorem lw_r1 : ∀ q ∈ lw_privs_1, lw_okq q := List.forall_mem_cons.mpr ⟨lw_p0, List.forall_mem_cons.mpr ⟨lw_p1, List.forall_mem_cons.mpr ⟨lw_p2, List.forall_mem_cons.mpr ⟨lw_p3, List.forall_mem_cons.mpr ⟨lw_p4, List.forall_mem_cons.mpr ⟨lw_p5, List.forall_mem_cons.mpr ⟨lw_p6, List.forall_mem_cons.mpr ⟨lw_p7, List.forall_mem_cons.mpr ⟨lw_p8, List.forall_mem_cons.mpr ⟨lw_p9, List.forall_mem_cons.mpr ⟨lw_p10, List.forall_mem_cons.mpr ⟨lw_p11, List.forall_mem_cons.mpr ⟨lw_p12, List.forall_mem_cons.mpr ⟨lw_p13, List.forall_mem_cons.mpr ⟨lw_p14, List.forall_mem_cons.mpr ⟨lw_p15, fun _ h => absurd h List.not_mem_nil⟩⟩⟩⟩⟩⟩⟩⟩⟩⟩⟩⟩⟩⟩⟩⟩
theorem lw_p16 : lw_okq (⟨"SeaReceiver", "isInOrder", "(III)Z"⟩, 10) := ⟨⟨by decide +kernel, by decide +kernel⟩, List.mem_of_getElem? (i := 24) (by decide +kernel), List.mem_of_getElem? (i := 515) (by decide +kernel), List.mem_of_getElem? (i := 516) (by decide +kernel)⟩
theorem lw_p17 : lw_okq (⟨"SeaReceiver", "receive", "()V"⟩, 10) := ⟨⟨by decide +kernel, by decide +kernel⟩, List.mem_of_getElem? (i := 24) (by decide +kernel), List.mem_of_getElem? (i := 549) (by decide +kernel), List.mem_of_getElem? (i := 550) (by decide +kernel)⟩
theorem lw_p18 : lw_okq (⟨"SeaReceiver$Vessel", "learnText", "(ILSeaReceiver$BitRow;II)V"⟩, 3) := ⟨⟨by decide +kernel, by decide +kernel⟩, List.mem_of_getElem? (i := 569) (by decide +kernel), List.mem_of_getElem? (i := 609) (by decide +kernel), List.mem_of_getElem? (i := 610) (by decide +kernel)⟩
theorem lw_p19 : lw_okq (⟨"java/lang/Throwable", "fillInStackTrace", "(I)Ljava/lang/Throwable;"⟩, 6) := ⟨⟨by decide +kernel, by decide +kernel⟩, List.mem_of_getElem? (i := 719) (by decide +kernel), List.mem_of_getElem? (i := 717) (by decide +kernel), List.mem_of_getElem? (i := 718) (by decide +kernel)⟩
theorem lw_p20 : lw_okq (⟨"SeaReceiver$Vessel", "tellText", "(ILSeaReceiver$BitRow;I)V"⟩, 3) := ⟨⟨by decide +kernel, by decide +kernel⟩, List.mem_of_getElem? (i := 569) (by decide +kernel), List.mem_of_getElem? (i := 796) (by decide +kernel), List.mem_of_getElem? (i := 797) (by decide +kernel)⟩
theorem lw_p21 : lw_okq (⟨"SeaReceiver", "writeSentence", "(Ljava/lang/String;III)V"⟩, 10) := ⟨⟨by decide +kernel, by decide +kernel⟩, List.mem_of_getElem? (i := 24) (by decide +kernel), List.mem_of_getElem? (i := 802) (by decide +kernel), List.mem_of_getElem? (i := 803) (by decide +kernel)⟩
theorem lw_p22 : lw_okq (⟨"SeaReceiver", "closeSentence", "(I)V"⟩, 10) := ⟨⟨by decide +kernel, by decide +kernel⟩, List.mem_of_getElem? (i := 24) (by decide +kernel), List.mem_of_getElem? (i := 814) (by decide +kernel), List.mem_of_getElem? (i := 815) (by decide +kernel)⟩
theorem lw_p23 : lw_okq (⟨"SeaReceiverModel", "forget", "()V"⟩, 38) := ⟨⟨by decide +kernel, by decide +kernel⟩, List.mem_of_getElem? (i := 827) (by decide +kernel), List.mem_of_getElem? (i := 834) (by decide +kernel), List.mem_of_getElem? (i := 835) (by decide +kernel)⟩
theorem lw_p24 : lw_okq (⟨"SeaReceiverModel", "comes", "(I)V"⟩, 38) := ⟨⟨by decide +kernel, by decide +kernel⟩, List.mem_of_getElem? (i := 827) (by decide +kernel), List.mem_of_getElem? (i := 970) (by decide +kernel), List.mem_of_getElem? (i := 971) (by decide +kernel)⟩
theorem lw_p25 : lw_okq (⟨"SeaReceiverModel", "ended", "()V"⟩, 38) := ⟨⟨by decide +kernel, by decide +kernel⟩, List.mem_of_getElem? (i := 827) (by decide +kernel), List.mem_of_getElem? (i := 983) (by decide +kernel), List.mem_of_getElem? (i := 984) (by decide +kernel)⟩
theorem lw_p26 : lw_okq (⟨"SeaReceiverModel", "form", "()I"⟩, 38) := ⟨⟨by decide +kernel, by decide +kernel⟩, List.mem_of_getElem? (i := 827) (by decide +kernel), List.mem_of_getElem? (i := 987) (by decide +kernel), List.mem_of_getElem? (i := 988) (by decide +kernel)⟩
theorem lw_p27 : lw_okq (⟨"SeaReceiverModel", "ends", "(Ljava/lang/String;)Z"⟩, 38) := ⟨⟨by decide +kernel, by decide +kernel⟩, List.mem_of_getElem? (i := 827) (by decide +kernel), List.mem_of_getElem? (i := 993) (by decide +kernel), List.mem_of_getElem? (i := 994) (by decide +kernel)⟩
theorem lw_p28 : lw_okq (⟨"SeaReceiverModel", "fits", "(I)Z"⟩, 38) := ⟨⟨by decide +kernel, by decide +kernel⟩, List.mem_of_getElem? (i := 827) (by decide +kernel), List.mem_of_getElem? (i := 1002) (by decide +kernel), List.mem_of_getElem? (i := 1003) (by decide +kernel)⟩
theorem lw_p29 : lw_okq (⟨"SeaReceiverModel", "gga", "()V"⟩, 38) := ⟨⟨by decide +kernel, by decide +kernel⟩, List.mem_of_getElem? (i := 827) (by decide +kernel), List.mem_of_getElem? (i := 1006) (by decide +kernel), List.mem_of_getElem? (i := 1007) (by decide +kernel)⟩
theorem lw_p30 : lw_okq (⟨"SeaReceiverModel", "time", "(I)I"⟩, 38) := ⟨⟨by decide +kernel, by decide +kernel⟩, List.mem_of_getElem? (i := 827) (by decide +kernel), List.mem_of_getElem? (i := 1010) (by decide +kernel), List.mem_of_getElem? (i := 1011) (by decide +kernel)⟩
theorem lw_p31 : lw_okq (⟨"SeaReceiverModel", "size", "(I)I"⟩, 38) := ⟨⟨by decide +kernel, by decide +kernel⟩, List.mem_of_getElem? (i := 827) (by decide +kernel), List.mem_of_getElem? (i := 1014) (by decide +kernel), List.mem_of_getElem? (i := 1015) (by decide +kernel)⟩
def lw_privs_2 : List (MethodName × Nat) := [(⟨"SeaReceiver", "isInOrder", "(III)Z"⟩, 10), (⟨"SeaReceiver", "receive", "()V"⟩, 10), (⟨"SeaReceiver$Vessel", "learnText", "(ILSeaReceiver$BitRow;II)V"⟩, 3), (⟨"java/lang/Throwable", "fillInStackTrace", "(I)Ljava/lang/Throwable;"⟩, 6), (⟨"SeaReceiver$Vessel", "tellText", "(ILSeaReceiver$BitRow;I)V"⟩, 3), (⟨"SeaReceiver", "writeSentence", "(Ljava/lang/String;III)V"⟩, 10), (⟨"SeaReceiver", "closeSentence", "(I)V"⟩, 10), (⟨"SeaReceiverModel", "forget", "()V"⟩, 38), (⟨"SeaReceiverModel", "comes", "(I)V"⟩, 38), (⟨"SeaReceiverModel", "ended", "()V"⟩, 38), (⟨"SeaReceiverModel", "form", "()I"⟩, 38), (⟨"SeaReceiverModel", "ends", "(Ljava/lang/String;)Z"⟩, 38), (⟨"SeaReceiverModel", "fits", "(I)Z"⟩, 38), (⟨"SeaReceiverModel", "gga", "()V"⟩, 38), (⟨"SeaReceiverModel", "time", "(I)I"⟩, 38), (⟨"SeaReceiverModel", "size", "(I)I"⟩, 38)]
theorem lw_r2 : ∀ q ∈ lw_privs_2, lw_okq q := List.forall_mem_cons.mpr ⟨lw_p16, List.forall_mem_cons.mpr ⟨lw_p17, List.forall_mem_cons.mpr ⟨lw_p18, List.forall_mem_cons.mpr ⟨lw_p19, List.forall_mem_cons.mpr ⟨lw_p20, List.forall_mem_cons.mpr ⟨lw_p21, List.forall_mem_cons.mpr ⟨lw_p22, List.forall_mem_cons.mpr ⟨lw_p23, List.forall_mem_cons.mpr ⟨lw_p24, List.forall_mem_cons.mpr ⟨lw_p25, List.forall_mem_cons.mpr ⟨lw_p26, List.forall_mem_cons.mpr ⟨lw_p27, List.forall_mem_cons.mpr ⟨lw_p28, List.forall_mem_cons.mpr ⟨lw_p29, List.forall_mem_cons.mpr ⟨lw_p30, List.forall_mem_cons.mpr ⟨lw_p31, fun _ h => absurd h List.not_mem_nil⟩⟩⟩⟩⟩⟩⟩⟩⟩⟩⟩⟩⟩⟩⟩⟩
theorem lw_p32 : lw_okq (⟨"SeaReceiverModel", "digits", "(II)I"⟩, 38) := ⟨⟨by decide +kernel, by decide +kernel⟩, List.mem_of_getElem? (i := 827) (by decide +kernel), List.mem_of_getElem? (i := 1018) (by decide +kernel), List.mem_of_getElem? (i := 1019) (by decide +kernel)⟩
theorem lw_p33 : lw_okq (⟨"SeaReceiverModel", "at", "(II)I"⟩, 38) := ⟨⟨by decide +kernel, by decide +kernel⟩, List.mem_of_getElem? (i := 827) (by decide +kernel), List.mem_of_getElem? (i := 1022) (by decide +kernel), List.mem_of_getElem? (i := 1023) (by decide +kernel)⟩
theorem lw_p34 : lw_okq (⟨"SeaReceiverModel", "bad", "()I"⟩, 38) := ⟨⟨by decide +kernel, by decide +kernel⟩, List.mem_of_getElem? (i := 827) (by decide +kernel), List.mem_of_getElem? (i := 1029) (by decide +kernel), List.mem_of_getElem? (i := 1030) (by decide +kernel)⟩
theorem lw_p35 : lw_okq (⟨"SeaReceiverModel", "whole", "(III)I"⟩, 38) := ⟨⟨by decide +kernel, by decide +kernel⟩, List.mem_of_getElem? (i := 827) (by decide +kernel), List.mem_of_getElem? (i := 1033) (by decide +kernel), List.mem_of_getElem? (i := 1034) (by decide +kernel)⟩
theorem lw_p36 : lw_okq (⟨"SeaReceiverModel", "behind", "(IIII)I"⟩, 38) := ⟨⟨by decide +kernel, by decide +kernel⟩, List.mem_of_getElem? (i := 827) (by decide +kernel), List.mem_of_getElem? (i := 1037) (by decide +kernel), List.mem_of_getElem? (i := 1038) (by decide +kernel)⟩
theorem lw_p37 : lw_okq (⟨"SeaReceiverModel", "place", "(IIILjava/lang/String;)I"⟩, 38) := ⟨⟨by decide +kernel, by decide +kernel⟩, List.mem_of_getElem? (i := 827) (by decide +kernel), List.mem_of_getElem? (i := 1042) (by decide +kernel), List.mem_of_getElem? (i := 1043) (by decide +kernel)⟩
theorem lw_p38 : lw_okq (⟨"SeaReceiverModel", "sided", "(IILjava/lang/String;)I"⟩, 38) := ⟨⟨by decide +kernel, by decide +kernel⟩, List.mem_of_getElem? (i := 827) (by decide +kernel), List.mem_of_getElem? (i := 1047) (by decide +kernel), List.mem_of_getElem? (i := 1048) (by decide +kernel)⟩
theorem lw_p39 : lw_okq (⟨"SeaReceiverModel", "one", "(ILjava/lang/String;)I"⟩, 38) := ⟨⟨by decide +kernel, by decide +kernel⟩, List.mem_of_getElem? (i := 827) (by decide +kernel), List.mem_of_getElem? (i := 1051) (by decide +kernel), List.mem_of_getElem? (i := 1052) (by decide +kernel)⟩
theorem lw_p40 : lw_okq (⟨"SeaReceiverModel", "number", "(II)I"⟩, 38) := ⟨⟨by decide +kernel, by decide +kernel⟩, List.mem_of_getElem? (i := 827) (by decide +kernel), List.mem_of_getElem? (i := 1057) (by decide +kernel), List.mem_of_getElem? (i := 1058) (by decide +kernel)⟩
theorem lw_p41 : lw_okq (⟨"SeaReceiverModel", "decimal", "(IIIZ)I"⟩, 38) := ⟨⟨by decide +kernel, by decide +kernel⟩, List.mem_of_getElem? (i := 827) (by decide +kernel), List.mem_of_getElem? (i := 1061) (by decide +kernel), List.mem_of_getElem? (i := 1062) (by decide +kernel)⟩
theorem lw_p42 : lw_okq (⟨"SeaReceiverModel", "measured", "(IILjava/lang/String;)I"⟩, 38) := ⟨⟨by decide +kernel, by decide +kernel⟩, List.mem_of_getElem? (i := 827) (by decide +kernel), List.mem_of_getElem? (i := 1069) (by decide +kernel), List.mem_of_getElem? (i := 1070) (by decide +kernel)⟩
theorem lw_p43 : lw_okq (⟨"SeaReceiverModel", "rmc", "()V"⟩, 38) := ⟨⟨by decide +kernel, by decide +kernel⟩, List.mem_of_getElem? (i := 827) (by decide +kernel), List.mem_of_getElem? (i := 1073) (by decide +kernel), List.mem_of_getElem? (i := 1074) (by decide +kernel)⟩
theorem lw_p44 : lw_okq (⟨"SeaReceiverModel", "below", "(II)I"⟩, 38) := ⟨⟨by decide +kernel, by decide +kernel⟩, List.mem_of_getElem? (i := 827) (by decide +kernel), List.mem_of_getElem? (i := 1079) (by decide +kernel), List.mem_of_getElem? (i := 1080) (by decide +kernel)⟩
theorem lw_p45 : lw_okq (⟨"SeaReceiverModel", "date", "(I)I"⟩, 38) := ⟨⟨by decide +kernel, by decide +kernel⟩, List.mem_of_getElem? (i := 827) (by decide +kernel), List.mem_of_getElem? (i := 1083) (by decide +kernel), List.mem_of_getElem? (i := 1084) (by decide +kernel)⟩
theorem lw_p46 : lw_okq (⟨"SeaReceiverModel", "vtg", "()V"⟩, 38) := ⟨⟨by decide +kernel, by decide +kernel⟩, List.mem_of_getElem? (i := 827) (by decide +kernel), List.mem_of_getElem? (i := 1090) (by decide +kernel), List.mem_of_getElem? (i := 1091) (by decide +kernel)⟩
theorem lw_p47 : lw_okq (⟨"SeaReceiverModel", "part", "()V"⟩, 38) := ⟨⟨by decide +kernel, by decide +kernel⟩, List.mem_of_getElem? (i := 827) (by decide +kernel), List.mem_of_getElem? (i := 1097) (by decide +kernel), List.mem_of_getElem? (i := 1098) (by decide +kernel)⟩
def lw_privs_3 : List (MethodName × Nat) := [(⟨"SeaReceiverModel", "digits", "(II)I"⟩, 38), (⟨"SeaReceiverModel", "at", "(II)I"⟩, 38), (⟨"SeaReceiverModel", "bad", "()I"⟩, 38), (⟨"SeaReceiverModel", "whole", "(III)I"⟩, 38), (⟨"SeaReceiverModel", "behind", "(IIII)I"⟩, 38), (⟨"SeaReceiverModel", "place", "(IIILjava/lang/String;)I"⟩, 38), (⟨"SeaReceiverModel", "sided", "(IILjava/lang/String;)I"⟩, 38), (⟨"SeaReceiverModel", "one", "(ILjava/lang/String;)I"⟩, 38), (⟨"SeaReceiverModel", "number", "(II)I"⟩, 38), (⟨"SeaReceiverModel", "decimal", "(IIIZ)I"⟩, 38), (⟨"SeaReceiverModel", "measured", "(IILjava/lang/String;)I"⟩, 38), (⟨"SeaReceiverModel", "rmc", "()V"⟩, 38), (⟨"SeaReceiverModel", "below", "(II)I"⟩, 38), (⟨"SeaReceiverModel", "date", "(I)I"⟩, 38), (⟨"SeaReceiverModel", "vtg", "()V"⟩, 38), (⟨"SeaReceiverModel", "part", "()V"⟩, 38)]
theorem lw_r3 : ∀ q ∈ lw_privs_3, lw_okq q := List.forall_mem_cons.mpr ⟨lw_p32, List.forall_mem_cons.mpr ⟨lw_p33, List.forall_mem_cons.mpr ⟨lw_p34, List.forall_mem_cons.mpr ⟨lw_p35, List.forall_mem_cons.mpr ⟨lw_p36, List.forall_mem_cons.mpr ⟨lw_p37, List.forall_mem_cons.mpr ⟨lw_p38, List.forall_mem_cons.mpr ⟨lw_p39, List.forall_mem_cons.mpr ⟨lw_p40, List.forall_mem_cons.mpr ⟨lw_p41, List.forall_mem_cons.mpr ⟨lw_p42, List.forall_mem_cons.mpr ⟨lw_p43, List.forall_mem_cons.mpr ⟨lw_p44, List.forall_mem_cons.mpr ⟨lw_p45, List.forall_mem_cons.mpr ⟨lw_p46, List.forall_mem_cons.mpr ⟨lw_p47, fun _ h => absurd h List.not_mem_nil⟩⟩⟩⟩⟩⟩⟩⟩⟩⟩⟩⟩⟩⟩⟩⟩
theorem lw_p48 : lw_okq (⟨"SeaReceiverModel", "taken", "(I)V"⟩, 38) := ⟨⟨by decide +kernel, by decide +kernel⟩, List.mem_of_getElem? (i := 827) (by decide +kernel), List.mem_of_getElem? (i := 1106) (by decide +kernel), List.mem_of_getElem? (i := 1107) (by decide +kernel)⟩
theorem lw_p49 : lw_okq (⟨"SeaReceiverModel", "keep", "(II)V"⟩, 38) := ⟨⟨by decide +kernel, by decide +kernel⟩, List.mem_of_getElem? (i := 827) (by decide +kernel), List.mem_of_getElem? (i := 1110) (by decide +kernel), List.mem_of_getElem? (i := 1111) (by decide +kernel)⟩
theorem lw_p50 : lw_okq (⟨"SeaReceiverModel", "parted", "()V"⟩, 38) := ⟨⟨by decide +kernel, by decide +kernel⟩, List.mem_of_getElem? (i := 827) (by decide +kernel), List.mem_of_getElem? (i := 1114) (by decide +kernel), List.mem_of_getElem? (i := 1115) (by decide +kernel)⟩
theorem lw_p51 : lw_okq (⟨"SeaReceiverModel", "message", "()V"⟩, 38) := ⟨⟨by decide +kernel, by decide +kernel⟩, List.mem_of_getElem? (i := 827) (by decide +kernel), List.mem_of_getElem? (i := 1118) (by decide +kernel), List.mem_of_getElem? (i := 1119) (by decide +kernel)⟩
theorem lw_p52 : lw_okq (⟨"SeaReceiverModel", "read", "(II)I"⟩, 38) := ⟨⟨by decide +kernel, by decide +kernel⟩, List.mem_of_getElem? (i := 827) (by decide +kernel), List.mem_of_getElem? (i := 1122) (by decide +kernel), List.mem_of_getElem? (i := 1123) (by decide +kernel)⟩
theorem lw_p53 : lw_okq (⟨"SeaReceiverModel", "found", "(I)I"⟩, 38) := ⟨⟨by decide +kernel, by decide +kernel⟩, List.mem_of_getElem? (i := 827) (by decide +kernel), List.mem_of_getElem? (i := 1127) (by decide +kernel), List.mem_of_getElem? (i := 1128) (by decide +kernel)⟩
theorem lw_p54 : lw_okq (⟨"SeaReceiverModel", "reports", "(II)V"⟩, 38) := ⟨⟨by decide +kernel, by decide +kernel⟩, List.mem_of_getElem? (i := 827) (by decide +kernel), List.mem_of_getElem? (i := 1131) (by decide +kernel), List.mem_of_getElem? (i := 1132) (by decide +kernel)⟩
theorem lw_p55 : lw_okq (⟨"SeaReceiverModel", "go", "(IIZ)V"⟩, 38) := ⟨⟨by decide +kernel, by decide +kernel⟩, List.mem_of_getElem? (i := 827) (by decide +kernel), List.mem_of_getElem? (i := 1135) (by decide +kernel), List.mem_of_getElem? (i := 1136) (by decide +kernel)⟩
theorem lw_p56 : lw_okq (⟨"SeaReceiverModel", "signed", "(II)I"⟩, 38) := ⟨⟨by decide +kernel, by decide +kernel⟩, List.mem_of_getElem? (i := 827) (by decide +kernel), List.mem_of_getElem? (i := 1139) (by decide +kernel), List.mem_of_getElem? (i := 1140) (by decide +kernel)⟩
theorem lw_p57 : lw_okq (⟨"SeaReceiverModel", "put", "(II)V"⟩, 38) := ⟨⟨by decide +kernel, by decide +kernel⟩, List.mem_of_getElem? (i := 827) (by decide +kernel), List.mem_of_getElem? (i := 1143) (by decide +kernel), List.mem_of_getElem? (i := 1144) (by decide +kernel)⟩
theorem lw_p58 : lw_okq (⟨"SeaReceiverModel", "where", "()V"⟩, 38) := ⟨⟨by decide +kernel, by decide +kernel⟩, List.mem_of_getElem? (i := 827) (by decide +kernel), List.mem_of_getElem? (i := 1147) (by decide +kernel), List.mem_of_getElem? (i := 1148) (by decide +kernel)⟩
theorem lw_p59 : lw_okq (⟨"SeaReceiverModel", "way", "()V"⟩, 38) := ⟨⟨by decide +kernel, by decide +kernel⟩, List.mem_of_getElem? (i := 827) (by decide +kernel), List.mem_of_getElem? (i := 1151) (by decide +kernel), List.mem_of_getElem? (i := 1152) (by decide +kernel)⟩
theorem lw_p60 : lw_okq (⟨"SeaReceiverModel", "skip", "(I)V"⟩, 38) := ⟨⟨by decide +kernel, by decide +kernel⟩, List.mem_of_getElem? (i := 827) (by decide +kernel), List.mem_of_getElem? (i := 1155) (by decide +kernel), List.mem_of_getElem? (i := 1156) (by decide +kernel)⟩
theorem lw_p61 : lw_okq (⟨"SeaReceiverModel", "still", "()V"⟩, 38) := ⟨⟨by decide +kernel, by decide +kernel⟩, List.mem_of_getElem? (i := 827) (by decide +kernel), List.mem_of_getElem? (i := 1159) (by decide +kernel), List.mem_of_getElem? (i := 1160) (by decide +kernel)⟩
theorem lw_p62 : lw_okq (⟨"SeaReceiverModel", "words", "(I)V"⟩, 38) := ⟨⟨by decide +kernel, by decide +kernel⟩, List.mem_of_getElem? (i := 827) (by decide +kernel), List.mem_of_getElem? (i := 1163) (by decide +kernel), List.mem_of_getElem? (i := 1164) (by decide +kernel)⟩
theorem lw_p63 : lw_okq (⟨"SeaReceiverModel", "refuse", "(I)I"⟩, 38) := ⟨⟨by decide +kernel, by decide +kernel⟩, List.mem_of_getElem? (i := 827) (by decide +kernel), List.mem_of_getElem? (i := 1180) (by decide +kernel), List.mem_of_getElem? (i := 1181) (by decide +kernel)⟩
def lw_privs_4 : List (MethodName × Nat) := [(⟨"SeaReceiverModel", "taken", "(I)V"⟩, 38), (⟨"SeaReceiverModel", "keep", "(II)V"⟩, 38), (⟨"SeaReceiverModel", "parted", "()V"⟩, 38), (⟨"SeaReceiverModel", "message", "()V"⟩, 38), (⟨"SeaReceiverModel", "read", "(II)I"⟩, 38), (⟨"SeaReceiverModel", "found", "(I)I"⟩, 38), (⟨"SeaReceiverModel", "reports", "(II)V"⟩, 38), (⟨"SeaReceiverModel", "go", "(IIZ)V"⟩, 38), (⟨"SeaReceiverModel", "signed", "(II)I"⟩, 38), (⟨"SeaReceiverModel", "put", "(II)V"⟩, 38), (⟨"SeaReceiverModel", "where", "()V"⟩, 38), (⟨"SeaReceiverModel", "way", "()V"⟩, 38), (⟨"SeaReceiverModel", "skip", "(I)V"⟩, 38), (⟨"SeaReceiverModel", "still", "()V"⟩, 38), (⟨"SeaReceiverModel", "words", "(I)V"⟩, 38), (⟨"SeaReceiverModel", "refuse", "(I)I"⟩, 38)]
theorem lw_r4 : ∀ q ∈ lw_privs_4, lw_okq q := List.forall_mem_cons.mpr ⟨lw_p48, List.forall_mem_cons.mpr ⟨lw_p49, List.forall_mem_cons.mpr ⟨lw_p50, List.forall_mem_cons.mpr ⟨lw_p51, List.forall_mem_cons.mpr ⟨lw_p52, List.forall_mem_cons.mpr ⟨lw_p53, List.forall_mem_cons.mpr ⟨lw_p54, List.forall_mem_cons.mpr ⟨lw_p55, List.forall_mem_cons.mpr ⟨lw_p56, List.forall_mem_cons.mpr ⟨lw_p57, List.forall_mem_cons.mpr ⟨lw_p58, List.forall_mem_cons.mpr ⟨lw_p59, List.forall_mem_cons.mpr ⟨lw_p60, List.forall_mem_cons.mpr ⟨lw_p61, List.forall_mem_cons.mpr ⟨lw_p62, List.forall_mem_cons.mpr ⟨lw_p63, fun _ h => absurd h List.not_mem_nil⟩⟩⟩⟩⟩⟩⟩⟩⟩⟩⟩⟩⟩⟩⟩⟩
theorem lw_p64 : lw_okq (⟨"SeaReceiverModel", "sentence", "(IIIII)V"⟩, 38) := ⟨⟨by decide +kernel, by decide +kernel⟩, List.mem_of_getElem? (i := 827) (by decide +kernel), List.mem_of_getElem? (i := 1208) (by decide +kernel), List.mem_of_getElem? (i := 1209) (by decide +kernel)⟩
theorem lw_p65 : lw_okq (⟨"SeaReceiverModel", "writeAll", "(Ljava/lang/String;)V"⟩, 38) := ⟨⟨by decide +kernel, by decide +kernel⟩, List.mem_of_getElem? (i := 827) (by decide +kernel), List.mem_of_getElem? (i := 1213) (by decide +kernel), List.mem_of_getElem? (i := 1214) (by decide +kernel)⟩
theorem lw_p66 : lw_okq (⟨"SeaReceiverModel", "write", "(I)V"⟩, 38) := ⟨⟨by decide +kernel, by decide +kernel⟩, List.mem_of_getElem? (i := 827) (by decide +kernel), List.mem_of_getElem? (i := 1217) (by decide +kernel), List.mem_of_getElem? (i := 1218) (by decide +kernel)⟩
def lw_privs_5 : List (MethodName × Nat) := [(⟨"SeaReceiverModel", "sentence", "(IIIII)V"⟩, 38), (⟨"SeaReceiverModel", "writeAll", "(Ljava/lang/String;)V"⟩, 38), (⟨"SeaReceiverModel", "write", "(I)V"⟩, 38)]
theorem lw_r5 : ∀ q ∈ lw_privs_5, lw_okq q := List.forall_mem_cons.mpr ⟨lw_p64, List.forall_mem_cons.mpr ⟨lw_p65, List.forall_mem_cons.mpr ⟨lw_p66, fun _ h => absurd h List.not_mem_nil⟩⟩⟩
def lw_privs : List (MethodName × Nat) := lw_privs_1 ++ (lw_privs_2 ++ (lw_privs_3 ++ (lw_privs_4 ++ (lw_privs_5))))
def lw_tbl : List Cond := k2_sels lw_privs ++ tables_1
theorem lw_privs_ok : ∀ q ∈ lw_privs, lw_okq q := by
  show ∀ q ∈ lw_privs_1 ++ (lw_privs_2 ++ (lw_privs_3 ++ (lw_privs_4 ++ (lw_privs_5)))), lw_okq q
  exact List.forall_mem_append.mpr ⟨lw_r1, List.forall_mem_append.mpr ⟨lw_r2, List.forall_mem_append.mpr ⟨lw_r3, List.forall_mem_append.mpr ⟨lw_r4, lw_r5⟩⟩⟩⟩
-- ===== end of PART A; then your names; then what follows =====
end
section
def RX0 : String := "SeaReceiver$BitRow"
def TX0 : u_T := fun k => match k with
  | 0 => ("SeaReceiver$BitRow", "room", "I", true)
  | 1 => ("SeaReceiver$BitRow", "words", "[I", true)
  | _ => ("SeaReceiver$BitRow", "length", "I", false)
def tyX0 : Nat → FieldType := fun k => match k with
  | 0 => .int
  | 1 => .array .int
  | _ => .int
abbrev wsX00 : List Cond := u_ws RX0 TX0 3
theorem nmX0 : ∀ a, a < 3 → ∀ b, b < 3 → a ≠ b → (TX0 a).2.1 ≠ (TX0 b).2.1 := by decide +kernel
theorem tyX0_ok : ∀ k, k < 3 → parseFieldDescriptor (TX0 k).2.2.1 = some (tyX0 k) := by decide +kernel
abbrev cX0_init : ByteArray := prog_2_method_1_code
def yX0_init : MethodName := ⟨RX0, "<init>", "(I)V"⟩
abbrev cX0_empty : ByteArray := prog_2_method_2_code
def yX0_empty : MethodName := ⟨RX0, "empty", "()V"⟩
abbrev cX0_copy : ByteArray := prog_2_method_3_code
def yX0_copy : MethodName := ⟨RX0, "copy", "(LSeaReceiver$BitRow;)V"⟩
abbrev cX0_append : ByteArray := prog_2_method_4_code
def yX0_append : MethodName := ⟨RX0, "append", "(II)V"⟩
abbrev cX0_read : ByteArray := prog_2_method_5_code
def yX0_read : MethodName := ⟨RX0, "read", "(II)I"⟩
def RX1 : String := "SeaReceiver$Fields"
def TX1 : u_T := fun k => match k with
  | 0 => ("SeaReceiver$Fields", "signs", "[B", true)
  | 1 => ("SeaReceiver$Fields", "starts", "[I", true)
  | 2 => ("SeaReceiver$Fields", "many", "I", false)
  | _ => ("SeaReceiver$Fields", "good", "Z", false)
def tyX1 : Nat → FieldType := fun k => match k with
  | 0 => .array .byte
  | 1 => .array .int
  | 2 => .int
  | _ => .boolean
abbrev wsX10 : List Cond := u_ws RX1 TX1 4
theorem nmX1 : ∀ a, a < 4 → ∀ b, b < 4 → a ≠ b → (TX1 a).2.1 ≠ (TX1 b).2.1 := by decide +kernel
theorem tyX1_ok : ∀ k, k < 4 → parseFieldDescriptor (TX1 k).2.2.1 = some (tyX1 k) := by decide +kernel
abbrev cX1_init : ByteArray := prog_3_method_1_code
def yX1_init : MethodName := ⟨RX1, "<init>", "()V"⟩
abbrev cX1_split : ByteArray := prog_3_method_2_code
def yX1_split : MethodName := ⟨RX1, "split", "(LSeaReceiver$Sentence;)V"⟩
abbrev cX1_form : ByteArray := prog_3_method_3_code
def yX1_form : MethodName := ⟨RX1, "form", "(I)I"⟩
abbrev cX1_isForm : ByteArray := prog_3_method_4_code
def yX1_isForm : MethodName := ⟨RX1, "isForm", "(Ljava/lang/String;)Z"⟩
abbrev cX1_isEmpty : ByteArray := prog_3_method_5_code
def yX1_isEmpty : MethodName := ⟨RX1, "isEmpty", "(I)Z"⟩
abbrev cX1_from : ByteArray := prog_3_method_6_code
def yX1_from : MethodName := ⟨RX1, "from", "(I)I"⟩
abbrev cX1_to : ByteArray := prog_3_method_7_code
def yX1_to : MethodName := ⟨RX1, "to", "(I)I"⟩
abbrev cX1_at : ByteArray := prog_3_method_8_code
def yX1_at : MethodName := ⟨RX1, "at", "(I)I"⟩
abbrev cX1_wrong : ByteArray := prog_3_method_9_code
def yX1_wrong : MethodName := ⟨RX1, "wrong", "()I"⟩
abbrev cX1_digit : ByteArray := prog_3_method_10_code
def yX1_digit : MethodName := ⟨RX1, "digit", "(III)I"⟩
abbrev cX1_oneOf : ByteArray := prog_3_method_11_code
def yX1_oneOf : MethodName := ⟨RX1, "oneOf", "(ILjava/lang/String;)I"⟩
abbrev cX1_whole : ByteArray := prog_3_method_12_code
def yX1_whole : MethodName := ⟨RX1, "whole", "(III)I"⟩
abbrev cX1_decimal : ByteArray := prog_3_method_13_code
def yX1_decimal : MethodName := ⟨RX1, "decimal", "(III)I"⟩
abbrev cX1_signed : ByteArray := prog_3_method_14_code
def yX1_signed : MethodName := ⟨RX1, "signed", "(III)I"⟩
abbrev cX1_course : ByteArray := prog_3_method_15_code
def yX1_course : MethodName := ⟨RX1, "course", "(I)I"⟩
abbrev cX1_variation : ByteArray := prog_3_method_16_code
def yX1_variation : MethodName := ⟨RX1, "variation", "(I)I"⟩
abbrev cX1_time : ByteArray := prog_3_method_17_code
def yX1_time : MethodName := ⟨RX1, "time", "(I)I"⟩
abbrev cX1_date : ByteArray := prog_3_method_18_code
def yX1_date : MethodName := ⟨RX1, "date", "(I)I"⟩
abbrev cX1_latitude : ByteArray := prog_3_method_19_code
def yX1_latitude : MethodName := ⟨RX1, "latitude", "(I)I"⟩
abbrev cX1_longitude : ByteArray := prog_3_method_20_code
def yX1_longitude : MethodName := ⟨RX1, "longitude", "(I)I"⟩
abbrev cX1_angle : ByteArray := prog_3_method_21_code
def yX1_angle : MethodName := ⟨RX1, "angle", "(III)I"⟩
abbrev cX1_onSide : ByteArray := prog_3_method_22_code
def yX1_onSide : MethodName := ⟨RX1, "onSide", "(IIII)I"⟩
abbrev cX1_checkUnit : ByteArray := prog_3_method_23_code
def yX1_checkUnit : MethodName := ⟨RX1, "checkUnit", "(II)V"⟩
abbrev cX1_digits : ByteArray := prog_3_method_24_code
def yX1_digits : MethodName := ⟨RX1, "digits", "(IIIIII)I"⟩
abbrev cX1_digitAt : ByteArray := prog_3_method_25_code
def yX1_digitAt : MethodName := ⟨RX1, "digitAt", "(I)I"⟩
abbrev cX1_checkPack : ByteArray := prog_3_method_26_code
def yX1_checkPack : MethodName := ⟨RX1, "checkPack", "(I)V"⟩
abbrev cX1_unpack : ByteArray := prog_3_method_27_code
def yX1_unpack : MethodName := ⟨RX1, "unpack", "(IILSeaReceiver$BitRow;)V"⟩
def RX2 : String := "SeaReceiver$Fleet"
def TX2 : u_T := fun k => match k with
  | 0 => ("SeaReceiver$Fleet", "vessels", "[LSeaReceiver$Vessel;", true)
  | _ => ("SeaReceiver$Fleet", "size", "I", false)
def tyX2 : Nat → FieldType := fun k => match k with
  | 0 => .array (.object "SeaReceiver$Vessel")
  | _ => .int
abbrev wsX20 : List Cond := u_ws RX2 TX2 2
theorem nmX2 : ∀ a, a < 2 → ∀ b, b < 2 → a ≠ b → (TX2 a).2.1 ≠ (TX2 b).2.1 := by decide +kernel
theorem tyX2_ok : ∀ k, k < 2 → parseFieldDescriptor (TX2 k).2.2.1 = some (tyX2 k) := by decide +kernel
abbrev cX2_init : ByteArray := prog_4_method_1_code
def yX2_init : MethodName := ⟨RX2, "<init>", "()V"⟩
abbrev cX2_at : ByteArray := prog_4_method_2_code
def yX2_at : MethodName := ⟨RX2, "at", "(I)LSeaReceiver$Vessel;"⟩
abbrev cX2_numberOf : ByteArray := prog_4_method_3_code
def yX2_numberOf : MethodName := ⟨RX2, "numberOf", "(I)I"⟩
abbrev cX2_vesselOf : ByteArray := prog_4_method_4_code
def yX2_vesselOf : MethodName := ⟨RX2, "vesselOf", "(I)LSeaReceiver$Vessel;"⟩
def RX3 : String := "SeaReceiver$Parts"
def TX3 : u_T := fun k => match k with
  | 0 => ("SeaReceiver$Parts", "rows", "[LSeaReceiver$BitRow;", true)
  | 1 => ("SeaReceiver$Parts", "manys", "[I", true)
  | _ => ("SeaReceiver$Parts", "kept", "[I", true)
def tyX3 : Nat → FieldType := fun k => match k with
  | 0 => .array (.object "SeaReceiver$BitRow")
  | 1 => .array .int
  | _ => .array .int
abbrev wsX30 : List Cond := u_ws RX3 TX3 3
theorem nmX3 : ∀ a, a < 3 → ∀ b, b < 3 → a ≠ b → (TX3 a).2.1 ≠ (TX3 b).2.1 := by decide +kernel
theorem tyX3_ok : ∀ k, k < 3 → parseFieldDescriptor (TX3 k).2.2.1 = some (tyX3 k) := by decide +kernel
abbrev cX3_init : ByteArray := prog_5_method_1_code
def yX3_init : MethodName := ⟨RX3, "<init>", "()V"⟩
abbrev cX3_forget : ByteArray := prog_5_method_2_code
def yX3_forget : MethodName := ⟨RX3, "forget", "()V"⟩
abbrev cX3_keptInAll : ByteArray := prog_5_method_3_code
def yX3_keptInAll : MethodName := ⟨RX3, "keptInAll", "()I"⟩
abbrev cX3_drop : ByteArray := prog_5_method_4_code
def yX3_drop : MethodName := ⟨RX3, "drop", "(I)Z"⟩
abbrev cX3_awaits : ByteArray := prog_5_method_5_code
def yX3_awaits : MethodName := ⟨RX3, "awaits", "(III)Z"⟩
abbrev cX3_keep : ByteArray := prog_5_method_6_code
def yX3_keep : MethodName := ⟨RX3, "keep", "(II)LSeaReceiver$BitRow;"⟩
def RX4 : String := "SeaReceiver$Position"
def TX4 : u_T := fun k => match k with
  | 0 => ("SeaReceiver$Position", "told", "[I", true)
  | _ => ("SeaReceiver$Position", "fresh", "[I", true)
def tyX4 : Nat → FieldType := fun k => match k with
  | 0 => .array .int
  | _ => .array .int
abbrev wsX40 : List Cond := u_ws RX4 TX4 2
theorem nmX4 : ∀ a, a < 2 → ∀ b, b < 2 → a ≠ b → (TX4 a).2.1 ≠ (TX4 b).2.1 := by decide +kernel
theorem tyX4_ok : ∀ k, k < 2 → parseFieldDescriptor (TX4 k).2.2.1 = some (tyX4 k) := by decide +kernel
abbrev cX4_init : ByteArray := prog_6_method_1_code
def yX4_init : MethodName := ⟨RX4, "<init>", "()V"⟩
abbrev cX4_forget : ByteArray := prog_6_method_2_code
def yX4_forget : MethodName := ⟨RX4, "forget", "()V"⟩
abbrev cX4_takeGga : ByteArray := prog_6_method_3_code
def yX4_takeGga : MethodName := ⟨RX4, "takeGga", "(LSeaReceiver$Fields;)Z"⟩
abbrev cX4_takeRmc : ByteArray := prog_6_method_4_code
def yX4_takeRmc : MethodName := ⟨RX4, "takeRmc", "(LSeaReceiver$Fields;)Z"⟩
abbrev cX4_takeVtg : ByteArray := prog_6_method_5_code
def yX4_takeVtg : MethodName := ⟨RX4, "takeVtg", "(LSeaReceiver$Fields;)Z"⟩
abbrev cX4_settle : ByteArray := prog_6_method_6_code
def yX4_settle : MethodName := ⟨RX4, "settle", "(Z[I)Z"⟩
def RX5 : String := "SeaReceiver$Sentence"
def TX5 : u_T := fun k => match k with
  | 0 => ("SeaReceiver$Sentence", "signs", "[B", true)
  | 1 => ("SeaReceiver$Sentence", "stage", "I", false)
  | 2 => ("SeaReceiver$Sentence", "start", "I", false)
  | 3 => ("SeaReceiver$Sentence", "length", "I", false)
  | 4 => ("SeaReceiver$Sentence", "sum", "I", false)
  | _ => ("SeaReceiver$Sentence", "toldSum", "I", false)
def tyX5 : Nat → FieldType := fun k => match k with
  | 0 => .array .byte
  | 1 => .int
  | 2 => .int
  | 3 => .int
  | 4 => .int
  | _ => .int
abbrev wsX50 : List Cond := u_ws RX5 TX5 6
theorem nmX5 : ∀ a, a < 6 → ∀ b, b < 6 → a ≠ b → (TX5 a).2.1 ≠ (TX5 b).2.1 := by decide +kernel
theorem tyX5_ok : ∀ k, k < 6 → parseFieldDescriptor (TX5 k).2.2.1 = some (tyX5 k) := by decide +kernel
abbrev cX5_init : ByteArray := prog_7_method_1_code
def yX5_init : MethodName := ⟨RX5, "<init>", "()V"⟩
abbrev cX5_forget : ByteArray := prog_7_method_2_code
def yX5_forget : MethodName := ⟨RX5, "forget", "()V"⟩
abbrev cX5_underWay : ByteArray := prog_7_method_3_code
def yX5_underWay : MethodName := ⟨RX5, "underWay", "()I"⟩
abbrev cX5_at : ByteArray := prog_7_method_4_code
def yX5_at : MethodName := ⟨RX5, "at", "(I)I"⟩
abbrev cX5_hear : ByteArray := prog_7_method_5_code
def yX5_hear : MethodName := ⟨RX5, "hear", "(I)I"⟩
abbrev cX5_begin : ByteArray := prog_7_method_6_code
def yX5_begin : MethodName := ⟨RX5, "begin", "(I)I"⟩
abbrev cX5_step : ByteArray := prog_7_method_7_code
def yX5_step : MethodName := ⟨RX5, "step", "(ZI)I"⟩
abbrev cX5_store : ByteArray := prog_7_method_8_code
def yX5_store : MethodName := ⟨RX5, "store", "(I)I"⟩
abbrev cX5_hearDigit : ByteArray := prog_7_method_9_code
def yX5_hearDigit : MethodName := ⟨RX5, "hearDigit", "(II)I"⟩
def RX6 : String := "SeaReceiver$SignRow"
def TX6 : u_T := fun k => match k with
  | 0 => ("SeaReceiver$SignRow", "signs", "[B", true)
  | _ => ("SeaReceiver$SignRow", "size", "I", false)
def tyX6 : Nat → FieldType := fun k => match k with
  | 0 => .array .byte
  | _ => .int
abbrev wsX60 : List Cond := u_ws RX6 TX6 2
theorem nmX6 : ∀ a, a < 2 → ∀ b, b < 2 → a ≠ b → (TX6 a).2.1 ≠ (TX6 b).2.1 := by decide +kernel
theorem tyX6_ok : ∀ k, k < 2 → parseFieldDescriptor (TX6 k).2.2.1 = some (tyX6 k) := by decide +kernel
abbrev cX6_init : ByteArray := prog_8_method_1_code
def yX6_init : MethodName := ⟨RX6, "<init>", "(I)V"⟩
abbrev cX6_hasRoom : ByteArray := prog_8_method_2_code
def yX6_hasRoom : MethodName := ⟨RX6, "hasRoom", "(I)Z"⟩
abbrev cX6_add : ByteArray := prog_8_method_3_code
def yX6_add : MethodName := ⟨RX6, "add", "(I)V"⟩
abbrev cX6_addWord : ByteArray := prog_8_method_4_code
def yX6_addWord : MethodName := ⟨RX6, "addWord", "(I)V"⟩
abbrev cX6_addText : ByteArray := prog_8_method_5_code
def yX6_addText : MethodName := ⟨RX6, "addText", "(Ljava/lang/String;)V"⟩
abbrev cX6_at : ByteArray := prog_8_method_6_code
def yX6_at : MethodName := ⟨RX6, "at", "(I)I"⟩
def RX7 : String := "SeaReceiver$Vessel"
def TX7 : u_T := fun k => match k with
  | 0 => ("SeaReceiver$Vessel", "values", "[I", true)
  | 1 => ("SeaReceiver$Vessel", "lengths", "[I", true)
  | _ => ("SeaReceiver$Vessel", "signs", "[B", true)
def tyX7 : Nat → FieldType := fun k => match k with
  | 0 => .array .int
  | 1 => .array .int
  | _ => .array .byte
abbrev wsX70 : List Cond := u_ws RX7 TX7 3
theorem nmX7 : ∀ a, a < 3 → ∀ b, b < 3 → a ≠ b → (TX7 a).2.1 ≠ (TX7 b).2.1 := by decide +kernel
theorem tyX7_ok : ∀ k, k < 3 → parseFieldDescriptor (TX7 k).2.2.1 = some (tyX7 k) := by decide +kernel
abbrev cX7_init : ByteArray := prog_9_method_1_code
def yX7_init : MethodName := ⟨RX7, "<init>", "()V"⟩
abbrev cX7_bitsOf : ByteArray := prog_9_method_2_code
def yX7_bitsOf : MethodName := ⟨RX7, "bitsOf", "(I)I"⟩
abbrev cX7_layoutOf : ByteArray := prog_9_method_3_code
def yX7_layoutOf : MethodName := ⟨RX7, "layoutOf", "(I)[I"⟩
abbrev cX7_hasSign : ByteArray := prog_9_method_4_code
def yX7_hasSign : MethodName := ⟨RX7, "hasSign", "(I)Z"⟩
abbrev cX7_begin : ByteArray := prog_9_method_5_code
def yX7_begin : MethodName := ⟨RX7, "begin", "(I)V"⟩
abbrev cX7_learn : ByteArray := prog_9_method_6_code
def yX7_learn : MethodName := ⟨RX7, "learn", "(ILSeaReceiver$BitRow;)V"⟩
abbrev cX7_learnText : ByteArray := prog_9_method_7_code
def yX7_learnText : MethodName := ⟨RX7, "learnText", "(ILSeaReceiver$BitRow;II)V"⟩
abbrev cX7_signOf : ByteArray := prog_9_method_8_code
def yX7_signOf : MethodName := ⟨RX7, "signOf", "(II)I"⟩
abbrev cX7_tell : ByteArray := prog_9_method_9_code
def yX7_tell : MethodName := ⟨RX7, "tell", "(ILSeaReceiver$BitRow;)V"⟩
abbrev cX7_tellText : ByteArray := prog_9_method_10_code
def yX7_tellText : MethodName := ⟨RX7, "tellText", "(ILSeaReceiver$BitRow;I)V"⟩
def RX8 : String := "SeaReceiver"
def TX8 : u_T := fun k => match k with
  | 0 => ("SeaReceiver", "tallies", "[I", true)
  | 1 => ("SeaReceiver", "tape", "LSeaReceiver$SignRow;", true)
  | 2 => ("SeaReceiver", "sent", "LSeaReceiver$SignRow;", true)
  | 3 => ("SeaReceiver", "sentence", "LSeaReceiver$Sentence;", true)
  | 4 => ("SeaReceiver", "fields", "LSeaReceiver$Fields;", true)
  | 5 => ("SeaReceiver", "position", "LSeaReceiver$Position;", true)
  | 6 => ("SeaReceiver", "parts", "LSeaReceiver$Parts;", true)
  | 7 => ("SeaReceiver", "message", "LSeaReceiver$BitRow;", true)
  | 8 => ("SeaReceiver", "fleet", "LSeaReceiver$Fleet;", true)
  | _ => ("SeaReceiver", "report", "LSeaReceiver$BitRow;", true)
def tyX8 : Nat → FieldType := fun k => match k with
  | 0 => .array .int
  | 1 => .object "SeaReceiver$SignRow"
  | 2 => .object "SeaReceiver$SignRow"
  | 3 => .object "SeaReceiver$Sentence"
  | 4 => .object "SeaReceiver$Fields"
  | 5 => .object "SeaReceiver$Position"
  | 6 => .object "SeaReceiver$Parts"
  | 7 => .object "SeaReceiver$BitRow"
  | 8 => .object "SeaReceiver$Fleet"
  | _ => .object "SeaReceiver$BitRow"
abbrev wsX80 : List Cond := u_ws RX8 TX8 10
theorem nmX8 : ∀ a, a < 10 → ∀ b, b < 10 → a ≠ b → (TX8 a).2.1 ≠ (TX8 b).2.1 := by decide +kernel
theorem tyX8_ok : ∀ k, k < 10 → parseFieldDescriptor (TX8 k).2.2.1 = some (tyX8 k) := by decide +kernel
abbrev cX8_init : ByteArray := prog_1_method_1_code
def yX8_init : MethodName := ⟨RX8, "<init>", "()V"⟩
abbrev cX8_feed : ByteArray := prog_1_method_2_code
def yX8_feed : MethodName := ⟨RX8, "feed", "(IIIII)I"⟩
abbrev cX8_end : ByteArray := prog_1_method_3_code
def yX8_end : MethodName := ⟨RX8, "end", "(I)Z"⟩
abbrev cX8_stream : ByteArray := prog_1_method_4_code
def yX8_stream : MethodName := ⟨RX8, "stream", "()I"⟩
abbrev cX8_count : ByteArray := prog_1_method_5_code
def yX8_count : MethodName := ⟨RX8, "count", "(I)I"⟩
abbrev cX8_fix : ByteArray := prog_1_method_6_code
def yX8_fix : MethodName := ⟨RX8, "fix", "(I)I"⟩
abbrev cX8_find : ByteArray := prog_1_method_7_code
def yX8_find : MethodName := ⟨RX8, "find", "(I)I"⟩
abbrev cX8_vessel : ByteArray := prog_1_method_8_code
def yX8_vessel : MethodName := ⟨RX8, "vessel", "(II)I"⟩
abbrev cX8_letter : ByteArray := prog_1_method_9_code
def yX8_letter : MethodName := ⟨RX8, "letter", "(III)I"⟩
abbrev cX8_bits : ByteArray := prog_1_method_10_code
def yX8_bits : MethodName := ⟨RX8, "bits", "(II)I"⟩
abbrev cX8_send : ByteArray := prog_1_method_11_code
def yX8_send : MethodName := ⟨RX8, "send", "(III)I"⟩
abbrev cX8_out : ByteArray := prog_1_method_12_code
def yX8_out : MethodName := ⟨RX8, "out", "(I)I"⟩
abbrev cX8_again : ByteArray := prog_1_method_13_code
def yX8_again : MethodName := ⟨RX8, "again", "()I"⟩
abbrev cX8_clear : ByteArray := prog_1_method_14_code
def yX8_clear : MethodName := ⟨RX8, "clear", "()V"⟩
abbrev cX8_judge : ByteArray := prog_1_method_15_code
def yX8_judge : MethodName := ⟨RX8, "judge", "()I"⟩
abbrev cX8_takePart : ByteArray := prog_1_method_16_code
def yX8_takePart : MethodName := ⟨RX8, "takePart", "()Z"⟩
abbrev cX8_isInOrder : ByteArray := prog_1_method_17_code
def yX8_isInOrder : MethodName := ⟨RX8, "isInOrder", "(III)Z"⟩
abbrev cX8_receive : ByteArray := prog_1_method_18_code
def yX8_receive : MethodName := ⟨RX8, "receive", "()V"⟩
abbrev cX8_writeSentence : ByteArray := prog_1_method_19_code
def yX8_writeSentence : MethodName := ⟨RX8, "writeSentence", "(Ljava/lang/String;III)V"⟩
abbrev cX8_closeSentence : ByteArray := prog_1_method_20_code
def yX8_closeSentence : MethodName := ⟨RX8, "closeSentence", "(I)V"⟩
abbrev cX8_sixteen : ByteArray := prog_1_method_21_code
def yX8_sixteen : MethodName := ⟨RX8, "sixteen", "(I)I"⟩
def RX9 : String := "SeaReceiverModel"
def TX9 : u_T := fun k => match k with
  | 0 => ("SeaReceiverModel", "thrown", "I", false)
  | 1 => ("SeaReceiverModel", "tape", "[I", true)
  | 2 => ("SeaReceiverModel", "taped", "I", false)
  | 3 => ("SeaReceiverModel", "out", "[I", true)
  | 4 => ("SeaReceiverModel", "outs", "I", false)
  | 5 => ("SeaReceiverModel", "may", "I", false)
  | 6 => ("SeaReceiverModel", "sign", "[I", true)
  | 7 => ("SeaReceiverModel", "signs", "I", false)
  | 8 => ("SeaReceiverModel", "sum", "I", false)
  | 9 => ("SeaReceiverModel", "told", "I", false)
  | 10 => ("SeaReceiverModel", "many", "[I", true)
  | 11 => ("SeaReceiverModel", "from", "[I", true)
  | 12 => ("SeaReceiverModel", "to", "[I", true)
  | 13 => ("SeaReceiverModel", "fields", "I", false)
  | 14 => ("SeaReceiverModel", "good", "Z", false)
  | 15 => ("SeaReceiverModel", "value", "[I", true)
  | 16 => ("SeaReceiverModel", "fix", "[I", true)
  | 17 => ("SeaReceiverModel", "parts", "I", false)
  | 18 => ("SeaReceiverModel", "which", "I", false)
  | 19 => ("SeaReceiverModel", "id", "I", false)
  | 20 => ("SeaReceiverModel", "fill", "I", false)
  | 21 => ("SeaReceiverModel", "ofMany", "[I", true)
  | 22 => ("SeaReceiverModel", "came", "[I", true)
  | 23 => ("SeaReceiverModel", "long1", "[I", true)
  | 24 => ("SeaReceiverModel", "kept", "[Z", true)
  | 25 => ("SeaReceiverModel", "bit", "[Z", true)
  | 26 => ("SeaReceiverModel", "bits", "I", false)
  | 27 => ("SeaReceiverModel", "hasMessage", "Z", false)
  | 28 => ("SeaReceiverModel", "vessels", "I", false)
  | 29 => ("SeaReceiverModel", "row", "[I", true)
  | 30 => ("SeaReceiverModel", "text", "[I", true)
  | 31 => ("SeaReceiverModel", "textLong", "[I", true)
  | 32 => ("SeaReceiverModel", "place", "I", false)
  | 33 => ("SeaReceiverModel", "writes", "Z", false)
  | 34 => ("SeaReceiverModel", "now", "I", false)
  | 35 => ("SeaReceiverModel", "sent", "[Z", true)
  | 36 => ("SeaReceiverModel", "sents", "I", false)
  | _ => ("SeaReceiverModel", "check", "I", false)
def tyX9 : Nat → FieldType := fun k => match k with
  | 0 => .int
  | 1 => .array .int
  | 2 => .int
  | 3 => .array .int
  | 4 => .int
  | 5 => .int
  | 6 => .array .int
  | 7 => .int
  | 8 => .int
  | 9 => .int
  | 10 => .array .int
  | 11 => .array .int
  | 12 => .array .int
  | 13 => .int
  | 14 => .boolean
  | 15 => .array .int
  | 16 => .array .int
  | 17 => .int
  | 18 => .int
  | 19 => .int
  | 20 => .int
  | 21 => .array .int
  | 22 => .array .int
  | 23 => .array .int
  | 24 => .array .boolean
  | 25 => .array .boolean
  | 26 => .int
  | 27 => .boolean
  | 28 => .int
  | 29 => .array .int
  | 30 => .array .int
  | 31 => .array .int
  | 32 => .int
  | 33 => .boolean
  | 34 => .int
  | 35 => .array .boolean
  | 36 => .int
  | _ => .int
abbrev wsX90 : List Cond := u_ws RX9 TX9 38
theorem nmX9 : ∀ a, a < 38 → ∀ b, b < 38 → a ≠ b → (TX9 a).2.1 ≠ (TX9 b).2.1 := by decide +kernel
theorem tyX9_ok : ∀ k, k < 38 → parseFieldDescriptor (TX9 k).2.2.1 = some (tyX9 k) := by decide +kernel
abbrev cX9_thrown : ByteArray := prog_11_method_1_code
def yX9_thrown : MethodName := ⟨RX9, "thrown", "()I"⟩
abbrev cX9_in : ByteArray := prog_11_method_2_code
def yX9_in : MethodName := ⟨RX9, "in", "(JJJ)Z"⟩
abbrev cX9_refuse : ByteArray := prog_11_method_3_code
def yX9_refuse : MethodName := ⟨RX9, "refuse", "(I)I"⟩
abbrev cX9_init : ByteArray := prog_11_method_4_code
def yX9_init : MethodName := ⟨RX9, "<init>", "()V"⟩
abbrev cX9_feed : ByteArray := prog_11_method_5_code
def yX9_feed : MethodName := ⟨RX9, "feed", "(IIIII)I"⟩
abbrev cX9_end : ByteArray := prog_11_method_6_code
def yX9_end : MethodName := ⟨RX9, "end", "(I)Z"⟩
abbrev cX9_sixteen : ByteArray := prog_11_method_7_code
def yX9_sixteen : MethodName := ⟨RX9, "sixteen", "(I)I"⟩
abbrev cX9_stream : ByteArray := prog_11_method_8_code
def yX9_stream : MethodName := ⟨RX9, "stream", "()I"⟩
abbrev cX9_comes : ByteArray := prog_11_method_9_code
def yX9_comes : MethodName := ⟨RX9, "comes", "(I)V"⟩
abbrev cX9_ended : ByteArray := prog_11_method_10_code
def yX9_ended : MethodName := ⟨RX9, "ended", "()V"⟩
abbrev cX9_ends : ByteArray := prog_11_method_11_code
def yX9_ends : MethodName := ⟨RX9, "ends", "(Ljava/lang/String;)Z"⟩
abbrev cX9_form : ByteArray := prog_11_method_12_code
def yX9_form : MethodName := ⟨RX9, "form", "()I"⟩
abbrev cX9_size : ByteArray := prog_11_method_13_code
def yX9_size : MethodName := ⟨RX9, "size", "(I)I"⟩
abbrev cX9_at : ByteArray := prog_11_method_14_code
def yX9_at : MethodName := ⟨RX9, "at", "(II)I"⟩
abbrev cX9_isDigit : ByteArray := prog_11_method_15_code
def yX9_isDigit : MethodName := ⟨RX9, "isDigit", "(I)Z"⟩
abbrev cX9_bad : ByteArray := prog_11_method_16_code
def yX9_bad : MethodName := ⟨RX9, "bad", "()I"⟩
abbrev cX9_digits : ByteArray := prog_11_method_17_code
def yX9_digits : MethodName := ⟨RX9, "digits", "(II)I"⟩
abbrev cX9_whole : ByteArray := prog_11_method_18_code
def yX9_whole : MethodName := ⟨RX9, "whole", "(III)I"⟩
abbrev cX9_behind : ByteArray := prog_11_method_19_code
def yX9_behind : MethodName := ⟨RX9, "behind", "(IIII)I"⟩
abbrev cX9_ten : ByteArray := prog_11_method_20_code
def yX9_ten : MethodName := ⟨RX9, "ten", "(I)I"⟩
abbrev cX9_decimal : ByteArray := prog_11_method_21_code
def yX9_decimal : MethodName := ⟨RX9, "decimal", "(IIIZ)I"⟩
abbrev cX9_below : ByteArray := prog_11_method_22_code
def yX9_below : MethodName := ⟨RX9, "below", "(II)I"⟩
abbrev cX9_number : ByteArray := prog_11_method_23_code
def yX9_number : MethodName := ⟨RX9, "number", "(II)I"⟩
abbrev cX9_time : ByteArray := prog_11_method_24_code
def yX9_time : MethodName := ⟨RX9, "time", "(I)I"⟩
abbrev cX9_date : ByteArray := prog_11_method_25_code
def yX9_date : MethodName := ⟨RX9, "date", "(I)I"⟩
abbrev cX9_one : ByteArray := prog_11_method_26_code
def yX9_one : MethodName := ⟨RX9, "one", "(ILjava/lang/String;)I"⟩
abbrev cX9_sided : ByteArray := prog_11_method_27_code
def yX9_sided : MethodName := ⟨RX9, "sided", "(IILjava/lang/String;)I"⟩
abbrev cX9_place : ByteArray := prog_11_method_28_code
def yX9_place : MethodName := ⟨RX9, "place", "(IIILjava/lang/String;)I"⟩
abbrev cX9_measured : ByteArray := prog_11_method_29_code
def yX9_measured : MethodName := ⟨RX9, "measured", "(IILjava/lang/String;)I"⟩
abbrev cX9_fits : ByteArray := prog_11_method_30_code
def yX9_fits : MethodName := ⟨RX9, "fits", "(I)Z"⟩
abbrev cX9_gga : ByteArray := prog_11_method_31_code
def yX9_gga : MethodName := ⟨RX9, "gga", "()V"⟩
abbrev cX9_rmc : ByteArray := prog_11_method_32_code
def yX9_rmc : MethodName := ⟨RX9, "rmc", "()V"⟩
abbrev cX9_vtg : ByteArray := prog_11_method_33_code
def yX9_vtg : MethodName := ⟨RX9, "vtg", "()V"⟩
abbrev cX9_part : ByteArray := prog_11_method_34_code
def yX9_part : MethodName := ⟨RX9, "part", "()V"⟩
abbrev cX9_taken : ByteArray := prog_11_method_35_code
def yX9_taken : MethodName := ⟨RX9, "taken", "(I)V"⟩
abbrev cX9_keep : ByteArray := prog_11_method_36_code
def yX9_keep : MethodName := ⟨RX9, "keep", "(II)V"⟩
abbrev cX9_parted : ByteArray := prog_11_method_37_code
def yX9_parted : MethodName := ⟨RX9, "parted", "()V"⟩
abbrev cX9_read : ByteArray := prog_11_method_38_code
def yX9_read : MethodName := ⟨RX9, "read", "(II)I"⟩
abbrev cX9_signed : ByteArray := prog_11_method_39_code
def yX9_signed : MethodName := ⟨RX9, "signed", "(II)I"⟩
abbrev cX9_found : ByteArray := prog_11_method_40_code
def yX9_found : MethodName := ⟨RX9, "found", "(I)I"⟩
abbrev cX9_message : ByteArray := prog_11_method_41_code
def yX9_message : MethodName := ⟨RX9, "message", "()V"⟩
abbrev cX9_go : ByteArray := prog_11_method_42_code
def yX9_go : MethodName := ⟨RX9, "go", "(IIZ)V"⟩
abbrev cX9_skip : ByteArray := prog_11_method_43_code
def yX9_skip : MethodName := ⟨RX9, "skip", "(I)V"⟩
abbrev cX9_room : ByteArray := prog_11_method_44_code
def yX9_room : MethodName := ⟨RX9, "room", "(I)I"⟩
abbrev cX9_words : ByteArray := prog_11_method_45_code
def yX9_words : MethodName := ⟨RX9, "words", "(I)V"⟩
abbrev cX9_where : ByteArray := prog_11_method_46_code
def yX9_where : MethodName := ⟨RX9, "where", "()V"⟩
abbrev cX9_way : ByteArray := prog_11_method_47_code
def yX9_way : MethodName := ⟨RX9, "way", "()V"⟩
abbrev cX9_reports : ByteArray := prog_11_method_48_code
def yX9_reports : MethodName := ⟨RX9, "reports", "(II)V"⟩
abbrev cX9_still : ByteArray := prog_11_method_49_code
def yX9_still : MethodName := ⟨RX9, "still", "()V"⟩
abbrev cX9_count : ByteArray := prog_11_method_50_code
def yX9_count : MethodName := ⟨RX9, "count", "(I)I"⟩
abbrev cX9_fix : ByteArray := prog_11_method_51_code
def yX9_fix : MethodName := ⟨RX9, "fix", "(I)I"⟩
abbrev cX9_find : ByteArray := prog_11_method_52_code
def yX9_find : MethodName := ⟨RX9, "find", "(I)I"⟩
abbrev cX9_vessel : ByteArray := prog_11_method_53_code
def yX9_vessel : MethodName := ⟨RX9, "vessel", "(II)I"⟩
abbrev cX9_letter : ByteArray := prog_11_method_54_code
def yX9_letter : MethodName := ⟨RX9, "letter", "(III)I"⟩
abbrev cX9_bits : ByteArray := prog_11_method_55_code
def yX9_bits : MethodName := ⟨RX9, "bits", "(II)I"⟩
abbrev cX9_put : ByteArray := prog_11_method_56_code
def yX9_put : MethodName := ⟨RX9, "put", "(II)V"⟩
abbrev cX9_write : ByteArray := prog_11_method_57_code
def yX9_write : MethodName := ⟨RX9, "write", "(I)V"⟩
abbrev cX9_writeAll : ByteArray := prog_11_method_58_code
def yX9_writeAll : MethodName := ⟨RX9, "writeAll", "(Ljava/lang/String;)V"⟩
abbrev cX9_hexOf : ByteArray := prog_11_method_59_code
def yX9_hexOf : MethodName := ⟨RX9, "hexOf", "(I)I"⟩
abbrev cX9_sentence : ByteArray := prog_11_method_60_code
def yX9_sentence : MethodName := ⟨RX9, "sentence", "(IIIII)V"⟩
abbrev cX9_send : ByteArray := prog_11_method_61_code
def yX9_send : MethodName := ⟨RX9, "send", "(III)I"⟩
abbrev cX9_out : ByteArray := prog_11_method_62_code
def yX9_out : MethodName := ⟨RX9, "out", "(I)I"⟩
abbrev cX9_again : ByteArray := prog_11_method_63_code
def yX9_again : MethodName := ⟨RX9, "again", "()I"⟩
abbrev cX9_forget : ByteArray := prog_11_method_64_code
def yX9_forget : MethodName := ⟨RX9, "forget", "()V"⟩
abbrev cX9_clear : ByteArray := prog_11_method_65_code
def yX9_clear : MethodName := ⟨RX9, "clear", "()V"⟩
def RJ11 : String := "java/lang/Character"
def TJ11 : u_T := fun k => match k with
  | _ => ("", "", "", false)
def tyJ11 : Nat → FieldType := fun k => match k with
  | _ => .int
abbrev cJ11_isValidCodePoint_9a6ad : ByteArray := prog_12_method_11_code
def yJ11_isValidCodePoint_9a6ad : MethodName := ⟨RJ11, "isValidCodePoint", "(I)Z"⟩
abbrev cJ11_highSurrogate_5068e : ByteArray := prog_12_method_28_code
def yJ11_highSurrogate_5068e : MethodName := ⟨RJ11, "highSurrogate", "(I)C"⟩
abbrev cJ11_lowSurrogate_5068e : ByteArray := prog_12_method_29_code
def yJ11_lowSurrogate_5068e : MethodName := ⟨RJ11, "lowSurrogate", "(I)C"⟩
def RJ9 : String := "java/lang/Math"
def TJ9 : u_T := fun k => match k with
  | _ => ("", "", "", false)
def tyJ9 : Nat → FieldType := fun k => match k with
  | _ => .int
abbrev cJ9_max_7cf53 : ByteArray := prog_15_method_65_code
def yJ9_max_7cf53 : MethodName := ⟨RJ9, "max", "(II)I"⟩
abbrev cJ9_min_7cf53 : ByteArray := prog_15_method_69_code
def yJ9_min_7cf53 : MethodName := ⟨RJ9, "min", "(II)I"⟩
def RJ0 : String := "java/lang/String"
def TJ0 : u_T := fun k => match k with
  | _ => ("", "", "", false)
def tyJ0 : Nat → FieldType := fun k => match k with
  | _ => .int
abbrev cJ0_length_8abf5 : ByteArray := prog_17_method_54_code
def yJ0_length_8abf5 : MethodName := ⟨RJ0, "length", "()I"⟩
abbrev cJ0_charAt_5068e : ByteArray := prog_17_method_56_code
def yJ0_charAt_5068e : MethodName := ⟨RJ0, "charAt", "(I)C"⟩
abbrev cJ0_indexOf_0f7a4 : ByteArray := prog_17_method_79_code
def yJ0_indexOf_0f7a4 : MethodName := ⟨RJ0, "indexOf", "(I)I"⟩
abbrev cJ0_indexOf_7cf53 : ByteArray := prog_17_method_80_code
def yJ0_indexOf_7cf53 : MethodName := ⟨RJ0, "indexOf", "(II)I"⟩
abbrev cJ0_coder_7d493 : ByteArray := prog_17_method_152_code
def yJ0_coder_7d493 : MethodName := ⟨RJ0, "coder", "()B"⟩
abbrev cJ0_isLatin1_aae02 : ByteArray := prog_17_method_154_code
def yJ0_isLatin1_aae02 : MethodName := ⟨RJ0, "isLatin1", "()Z"⟩
abbrev cJ0_checkIndex_df160 : ByteArray := prog_17_method_155_code
def yJ0_checkIndex_df160 : MethodName := ⟨RJ0, "checkIndex", "(II)V"⟩
abbrev cJ0_checkBoundsBeginEnd_23922 : ByteArray := prog_17_method_158_code
def yJ0_checkBoundsBeginEnd_23922 : MethodName := ⟨RJ0, "checkBoundsBeginEnd", "(III)V"⟩
def RJ1 : String := "java/lang/StringLatin1"
def TJ1 : u_T := fun k => match k with
  | _ => ("", "", "", false)
def tyJ1 : Nat → FieldType := fun k => match k with
  | _ => .int
abbrev cJ1_charAt_3b067 : ByteArray := prog_18_method_2_code
def yJ1_charAt_3b067 : MethodName := ⟨RJ1, "charAt", "([BI)C"⟩
abbrev cJ1_canEncode_9a6ad : ByteArray := prog_18_method_4_code
def yJ1_canEncode_9a6ad : MethodName := ⟨RJ1, "canEncode", "(I)Z"⟩
abbrev cJ1_indexOf_4cfef : ByteArray := prog_18_method_22_code
def yJ1_indexOf_4cfef : MethodName := ⟨RJ1, "indexOf", "([BIII)I"⟩
abbrev cJ1_indexOfChar_4cfef : ByteArray := prog_18_method_23_code
def yJ1_indexOfChar_4cfef : MethodName := ⟨RJ1, "indexOfChar", "([BIII)I"⟩
def RJ2 : String := "java/lang/StringUTF16"
def TJ2 : u_T := fun k => match k with
  | _ => ("", "", "", false)
def tyJ2 : Nat → FieldType := fun k => match k with
  | _ => .int
abbrev cJ2_getChar_3b067 : ByteArray := prog_19_method_5_code
def yJ2_getChar_3b067 : MethodName := ⟨RJ2, "getChar", "([BI)C"⟩
abbrev cJ2_length_9d52b : ByteArray := prog_19_method_6_code
def yJ2_length_9d52b : MethodName := ⟨RJ2, "length", "([B)I"⟩
abbrev cJ2_indexOf_4cfef : ByteArray := prog_19_method_40_code
def yJ2_indexOf_4cfef : MethodName := ⟨RJ2, "indexOf", "([BIII)I"⟩
abbrev cJ2_indexOfChar_4cfef : ByteArray := prog_19_method_47_code
def yJ2_indexOfChar_4cfef : MethodName := ⟨RJ2, "indexOfChar", "([BIII)I"⟩
abbrev cJ2_indexOfCharUnsafe_4cfef : ByteArray := prog_19_method_48_code
def yJ2_indexOfCharUnsafe_4cfef : MethodName := ⟨RJ2, "indexOfCharUnsafe", "([BIII)I"⟩
abbrev cJ2_indexOfSupplementary_4cfef : ByteArray := prog_19_method_49_code
def yJ2_indexOfSupplementary_4cfef : MethodName := ⟨RJ2, "indexOfSupplementary", "([BIII)I"⟩
abbrev cJ2_charAt_3b067 : ByteArray := prog_19_method_83_code
def yJ2_charAt_3b067 : MethodName := ⟨RJ2, "charAt", "([BI)C"⟩
abbrev cJ2_checkIndex_2214a : ByteArray := prog_19_method_91_code
def yJ2_checkIndex_2214a : MethodName := ⟨RJ2, "checkIndex", "(I[B)V"⟩
abbrev cJ2_checkBoundsBeginEnd_d044e : ByteArray := prog_19_method_93_code
def yJ2_checkBoundsBeginEnd_d044e : MethodName := ⟨RJ2, "checkBoundsBeginEnd", "(II[B)V"⟩
def RJ7 : String := "java/util/Arrays"
def TJ7 : u_T := fun k => match k with
  | _ => ("", "", "", false)
def tyJ7 : Nat → FieldType := fun k => match k with
  | _ => .int
abbrev cJ7_fill_53178 : ByteArray := prog_21_method_103_code
def yJ7_fill_53178 : MethodName := ⟨RJ7, "fill", "([II)V"⟩
def RJ3 : String := "jdk/internal/util/Preconditions"
def TJ3 : u_T := fun k => match k with
  | _ => ("", "", "", false)
def tyJ3 : Nat → FieldType := fun k => match k with
  | _ => .int
abbrev cJ3_checkIndex_8e157 : ByteArray := prog_23_method_11_code
def yJ3_checkIndex_8e157 : MethodName := ⟨RJ3, "checkIndex", "(IILjava/util/function/BiFunction;)I"⟩
abbrev cJ3_checkFromToIndex_8c36e : ByteArray := prog_23_method_12_code
def yJ3_checkFromToIndex_8c36e : MethodName := ⟨RJ3, "checkFromToIndex", "(IIILjava/util/function/BiFunction;)I"⟩
def RL : String := "SeaReceiverLaw"
abbrev cL_fix : ByteArray := method_3_code
def yL_fix : MethodName := ⟨RL, "fix", "(LSeaReceiver;I[J)I"⟩
abbrev cL_vessel : ByteArray := method_4_code
def yL_vessel : MethodName := ⟨RL, "vessel", "(LSeaReceiver;II[J)I"⟩
abbrev cL_bits : ByteArray := method_5_code
def yL_bits : MethodName := ⟨RL, "bits", "(LSeaReceiver;II[J)I"⟩
abbrev cL_send : ByteArray := method_6_code
def yL_send : MethodName := ⟨RL, "send", "(LSeaReceiver;III[J)I"⟩
abbrev cL_law : ByteArray := code
def yL_law : MethodName := ⟨RL, "law", "([I)Z"⟩
abbrev vwCl : List vw_C := [(RX0, TX0, 3), (RX1, TX1, 4), (RX2, TX2, 2), (RX3, TX3, 3), (RX4, TX4, 2), (RX5, TX5, 6), (RX6, TX6, 2), (RX7, TX7, 3), (RX8, TX8, 10), (RX9, TX9, 38)]
/-- the words of the tables that stay good over calls: the words of every method -/
def sv_w : List Cond := lw_tbl.filter goodWord
end
section
theorem sv_t1 {w : Cond} (h : w ∈ tables_1) (hg : goodWord w = true) : w ∈ sv_w := List.mem_filter.mpr ⟨List.mem_append_right _ h, hg⟩
theorem sv_m1 {w : Cond} (i : Nat) (h : tables_1_1[i]? = some w) (hg : goodWord w = true) : w ∈ sv_w := sv_t1 (List.mem_append_left _ (List.mem_of_getElem? h)) hg
theorem sv_m2 {w : Cond} (i : Nat) (h : tables_1_2[i]? = some w) (hg : goodWord w = true) : w ∈ sv_w := sv_t1 (List.mem_append_right _ (List.mem_append_left _ (List.mem_of_getElem? h))) hg
theorem sv_m3 {w : Cond} (i : Nat) (h : tables_1_3[i]? = some w) (hg : goodWord w = true) : w ∈ sv_w := sv_t1 (List.mem_append_right _ (List.mem_append_right _ (List.mem_append_left _ (List.mem_of_getElem? h)))) hg
theorem sv_m4 {w : Cond} (i : Nat) (h : tables_1_4[i]? = some w) (hg : goodWord w = true) : w ∈ sv_w := sv_t1 (List.mem_append_right _ (List.mem_append_right _ (List.mem_append_right _ (List.mem_append_left _ (List.mem_of_getElem? h))))) hg
theorem sv_m5 {w : Cond} (i : Nat) (h : tables_1_5[i]? = some w) (hg : goodWord w = true) : w ∈ sv_w := sv_t1 (List.mem_append_right _ (List.mem_append_right _ (List.mem_append_right _ (List.mem_append_right _ (List.mem_append_left _ (List.mem_of_getElem? h)))))) hg
theorem sv_m6 {w : Cond} (i : Nat) (h : tables_1_6[i]? = some w) (hg : goodWord w = true) : w ∈ sv_w := sv_t1 (List.mem_append_right _ (List.mem_append_right _ (List.mem_append_right _ (List.mem_append_right _ (List.mem_append_right _ ((List.mem_of_getElem? h))))))) hg
theorem sv_p1 {y : MethodName} {n : Nat} (i : Nat) (h : lw_privs_1[i]? = some (y, n)) (hg : goodWord (Cond.selects y.cls y y) = true) : Cond.selects y.cls y y ∈ sv_w := List.mem_filter.mpr ⟨List.mem_append_left _ (List.mem_map.mpr ⟨(y, n), List.mem_append_left _ (List.mem_of_getElem? h), rfl⟩), hg⟩
theorem sv_p2 {y : MethodName} {n : Nat} (i : Nat) (h : lw_privs_2[i]? = some (y, n)) (hg : goodWord (Cond.selects y.cls y y) = true) : Cond.selects y.cls y y ∈ sv_w := List.mem_filter.mpr ⟨List.mem_append_left _ (List.mem_map.mpr ⟨(y, n), List.mem_append_right _ (List.mem_append_left _ (List.mem_of_getElem? h)), rfl⟩), hg⟩
theorem sv_p3 {y : MethodName} {n : Nat} (i : Nat) (h : lw_privs_3[i]? = some (y, n)) (hg : goodWord (Cond.selects y.cls y y) = true) : Cond.selects y.cls y y ∈ sv_w := List.mem_filter.mpr ⟨List.mem_append_left _ (List.mem_map.mpr ⟨(y, n), List.mem_append_right _ (List.mem_append_right _ (List.mem_append_left _ (List.mem_of_getElem? h))), rfl⟩), hg⟩
theorem sv_p4 {y : MethodName} {n : Nat} (i : Nat) (h : lw_privs_4[i]? = some (y, n)) (hg : goodWord (Cond.selects y.cls y y) = true) : Cond.selects y.cls y y ∈ sv_w := List.mem_filter.mpr ⟨List.mem_append_left _ (List.mem_map.mpr ⟨(y, n), List.mem_append_right _ (List.mem_append_right _ (List.mem_append_right _ (List.mem_append_left _ (List.mem_of_getElem? h)))), rfl⟩), hg⟩
theorem sv_p5 {y : MethodName} {n : Nat} (i : Nat) (h : lw_privs_5[i]? = some (y, n)) (hg : goodWord (Cond.selects y.cls y y) = true) : Cond.selects y.cls y y ∈ sv_w := List.mem_filter.mpr ⟨List.mem_append_left _ (List.mem_map.mpr ⟨(y, n), List.mem_append_right _ (List.mem_append_right _ (List.mem_append_right _ (List.mem_append_right _ ((List.mem_of_getElem? h))))), rfl⟩), hg⟩
theorem kw_0 : Cond.methodLink RX0 1 objectInit ∈ sv_w := sv_m1 140 rfl rfl
theorem kw_1 : Cond.instanceMethod objectInit ∈ sv_w := sv_m1 29 rfl rfl
theorem kw_3 : Cond.fieldLink RX0 7 "SeaReceiver$BitRow" "room" "I" ∈ sv_w := sv_m1 141 rfl rfl
theorem kw_4 : Cond.arrayClass .int ∈ sv_w := sv_m1 45 rfl rfl
theorem kw_5 : Cond.fieldLink RX0 13 "SeaReceiver$BitRow" "words" "[I" ∈ sv_w := sv_m1 142 rfl rfl
theorem kw_6 : Cond.fieldLink RX0 23 "SeaReceiver$BitRow" "length" "I" ∈ sv_w := sv_m1 143 rfl rfl
theorem kw_7 : Cond.methodLink RX0 17 yJ7_fill_53178 ∈ sv_w := sv_m3 55 rfl rfl
theorem kw_8 : Cond.static yJ7_fill_53178 ∈ sv_w := sv_m1 107 rfl rfl
theorem kw_9 : Cond.initialized RJ7 ∈ sv_w := sv_m1 6 rfl rfl
theorem kw_10 : Cond.code yJ7_fill_53178 cJ7_fill_53178 4 none ∈ sv_w := sv_m1 108 rfl rfl
theorem kw_11 : Cond.constantLong RX0 26 (4294967295) ∈ sv_w := sv_m3 76 rfl rfl
theorem kw_12 : Cond.methodLink RX1 3 objectInit ∈ sv_w := sv_m1 81 rfl rfl
theorem kw_13 : Cond.arrayClass .byte ∈ sv_w := sv_m1 46 rfl rfl
theorem kw_14 : Cond.fieldLink RX1 11 "SeaReceiver$Fields" "signs" "[B" ∈ sv_w := sv_m1 82 rfl rfl
theorem kw_15 : Cond.fieldLink RX1 17 "SeaReceiver$Fields" "starts" "[I" ∈ sv_w := sv_m1 83 rfl rfl
theorem kw_16 : Cond.fieldLink RX5 19 "SeaReceiver$Sentence" "length" "I" ∈ sv_w := sv_m1 58 rfl rfl
theorem kw_17 : Cond.fieldLink RX5 11 "SeaReceiver$Sentence" "signs" "[B" ∈ sv_w := sv_m1 53 rfl rfl
theorem kw_18 : Cond.constant RX5 22 (-2147483648) ∈ sv_w := sv_m2 21 rfl rfl
theorem kw_19 : Cond.fieldLink RX1 21 "SeaReceiver$Fields" "good" "Z" ∈ sv_w := sv_m1 87 rfl rfl
theorem kw_20 : Cond.fieldLink RX1 25 "SeaReceiver$Fields" "many" "I" ∈ sv_w := sv_m1 84 rfl rfl
theorem kw_21 : Cond.fieldLink RX1 29 "SeaReceiver$Sentence" "length" "I" ∈ sv_w := sv_m1 57 rfl rfl
theorem kw_22 : Cond.methodLink RX1 32 yX5_at ∈ sv_w := sv_m2 17 rfl rfl
theorem kw_23 : Cond.instanceMethod yX5_at ∈ sv_w := sv_m2 18 rfl rfl
theorem kw_24 : Cond.selects RX5 yX5_at yX5_at ∈ sv_w := sv_m2 19 rfl rfl
theorem kw_25 : Cond.initialized RX5 ∈ sv_w := sv_m1 3 rfl rfl
theorem kw_26 : Cond.code yX5_at cX5_at 2 (some .int) ∈ sv_w := sv_m2 20 rfl rfl
theorem kw_27 : Cond.fieldLink RJ0 38 "java/lang/String" "COMPACT_STRINGS" "Z" ∈ sv_w := sv_m2 43 rfl rfl
theorem kw_28 : Cond.fieldLink RJ0 15 "java/lang/String" "coder" "B" ∈ sv_w := sv_m6 38 rfl rfl
theorem kw_29 : Cond.fieldLink RJ0 1053 "jdk/internal/util/Preconditions" "SIOOBE_FORMATTER" "Ljava/util/function/BiFunction;" ∈ sv_w := sv_m2 51 rfl rfl
theorem kw_30 : Cond.methodLink RJ0 1059 yJ3_checkIndex_8e157 ∈ sv_w := sv_m2 53 rfl rfl
theorem kw_31 : Cond.static yJ3_checkIndex_8e157 ∈ sv_w := sv_m2 54 rfl rfl
theorem kw_32 : Cond.initialized RJ3 ∈ sv_w := sv_m1 13 rfl rfl
theorem kw_33 : Cond.code yJ3_checkIndex_8e157 cJ3_checkIndex_8e157 3 (some .int) ∈ sv_w := sv_m2 55 rfl rfl
theorem kw_34 : Cond.methodLink RJ1 9 yJ0_checkIndex_df160 ∈ sv_w := sv_m2 48 rfl rfl
theorem kw_35 : Cond.static yJ0_checkIndex_df160 ∈ sv_w := sv_m2 49 rfl rfl
theorem kw_36 : Cond.initialized RJ0 ∈ sv_w := sv_m1 11 rfl rfl
theorem kw_37 : Cond.code yJ0_checkIndex_df160 cJ0_checkIndex_df160 2 none ∈ sv_w := sv_m2 50 rfl rfl
theorem kw_38 : Cond.methodLink RJ2 48 yJ2_length_9d52b ∈ sv_w := sv_m2 62 rfl rfl
theorem kw_39 : Cond.static yJ2_length_9d52b ∈ sv_w := sv_m2 63 rfl rfl
theorem kw_40 : Cond.initialized RJ2 ∈ sv_w := sv_m1 14 rfl rfl
theorem kw_41 : Cond.code yJ2_length_9d52b cJ2_length_9d52b 1 (some .int) ∈ sv_w := sv_m2 64 rfl rfl
theorem kw_42 : Cond.methodLink RJ2 414 yJ0_checkIndex_df160 ∈ sv_w := sv_m2 65 rfl rfl
theorem kw_43 : Cond.fieldLink RJ2 44 "java/lang/StringUTF16" "$assertionsDisabled" "Z" ∈ sv_w := sv_m2 69 rfl rfl
theorem kw_44 : Cond.fieldLink RJ2 59 "java/lang/StringUTF16" "HI_BYTE_SHIFT" "I" ∈ sv_w := sv_m2 71 rfl rfl
theorem kw_45 : Cond.fieldLink RJ2 63 "java/lang/StringUTF16" "LO_BYTE_SHIFT" "I" ∈ sv_w := sv_m2 73 rfl rfl
theorem kw_46 : Cond.methodLink RJ2 67 yJ2_checkIndex_2214a ∈ sv_w := sv_m2 59 rfl rfl
theorem kw_47 : Cond.static yJ2_checkIndex_2214a ∈ sv_w := sv_m2 60 rfl rfl
theorem kw_48 : Cond.code yJ2_checkIndex_2214a cJ2_checkIndex_2214a 2 none ∈ sv_w := sv_m2 61 rfl rfl
theorem kw_49 : Cond.methodLink RJ2 71 yJ2_getChar_3b067 ∈ sv_w := sv_m2 66 rfl rfl
theorem kw_50 : Cond.static yJ2_getChar_3b067 ∈ sv_w := sv_m2 67 rfl rfl
theorem kw_51 : Cond.code yJ2_getChar_3b067 cJ2_getChar_3b067 2 (some .char) ∈ sv_w := sv_m2 68 rfl rfl
theorem kw_52 : Cond.fieldLink RJ0 9 "java/lang/String" "value" "[B" ∈ sv_w := sv_m6 39 rfl rfl
theorem kw_53 : Cond.methodLink RJ0 492 yJ0_isLatin1_aae02 ∈ sv_w := sv_m2 39 rfl rfl
theorem kw_54 : Cond.instanceMethod yJ0_isLatin1_aae02 ∈ sv_w := sv_m2 40 rfl rfl
theorem kw_55 : Cond.selects RJ0 yJ0_isLatin1_aae02 yJ0_isLatin1_aae02 ∈ sv_w := sv_m2 41 rfl rfl
theorem kw_56 : Cond.code yJ0_isLatin1_aae02 cJ0_isLatin1_aae02 1 (some .boolean) ∈ sv_w := sv_m2 42 rfl rfl
theorem kw_57 : Cond.methodLink RJ0 495 yJ1_charAt_3b067 ∈ sv_w := sv_m2 45 rfl rfl
theorem kw_58 : Cond.static yJ1_charAt_3b067 ∈ sv_w := sv_m2 46 rfl rfl
theorem kw_59 : Cond.initialized RJ1 ∈ sv_w := sv_m1 12 rfl rfl
theorem kw_60 : Cond.code yJ1_charAt_3b067 cJ1_charAt_3b067 2 (some .char) ∈ sv_w := sv_m2 47 rfl rfl
theorem kw_61 : Cond.methodLink RJ0 498 yJ2_charAt_3b067 ∈ sv_w := sv_m2 56 rfl rfl
theorem kw_62 : Cond.static yJ2_charAt_3b067 ∈ sv_w := sv_m2 57 rfl rfl
theorem kw_63 : Cond.code yJ2_charAt_3b067 cJ2_charAt_3b067 2 (some .char) ∈ sv_w := sv_m2 58 rfl rfl
theorem kw_64 : Cond.methodLink RX1 53 yJ0_charAt_5068e ∈ sv_w := sv_m2 35 rfl rfl
theorem kw_65 : Cond.instanceMethod yJ0_charAt_5068e ∈ sv_w := sv_m2 36 rfl rfl
theorem kw_66 : Cond.selects RJ0 yJ0_charAt_5068e yJ0_charAt_5068e ∈ sv_w := sv_m2 37 rfl rfl
theorem kw_67 : Cond.code yJ0_charAt_5068e cJ0_charAt_5068e 2 (some .char) ∈ sv_w := sv_m2 38 rfl rfl
theorem kw_68 : Cond.methodLink RX1 36 yX1_to ∈ sv_w := sv_m2 26 rfl rfl
theorem kw_69 : Cond.instanceMethod yX1_to ∈ sv_w := sv_m2 28 rfl rfl
theorem kw_70 : Cond.selects RX1 yX1_to yX1_to ∈ sv_w := sv_p1 5 rfl rfl
theorem kw_71 : Cond.initialized RX1 ∈ sv_w := sv_m1 4 rfl rfl
theorem kw_72 : Cond.code yX1_to cX1_to 2 (some .int) ∈ sv_w := sv_m2 29 rfl rfl
theorem kw_73 : Cond.methodLink RX1 41 yX1_isForm ∈ sv_w := sv_m2 31 rfl rfl
theorem kw_74 : Cond.instanceMethod yX1_isForm ∈ sv_w := sv_m2 33 rfl rfl
theorem kw_75 : Cond.selects RX1 yX1_isForm yX1_isForm ∈ sv_w := sv_p1 6 rfl rfl
theorem kw_76 : Cond.code yX1_isForm cX1_isForm 2 (some .boolean) ∈ sv_w := sv_m2 34 rfl rfl
theorem kw_77 : Cond.methodLink RX1 59 yX1_from ∈ sv_w := sv_m2 91 rfl rfl
theorem kw_78 : Cond.instanceMethod yX1_from ∈ sv_w := sv_m2 93 rfl rfl
theorem kw_79 : Cond.selects RX1 yX1_from yX1_from ∈ sv_w := sv_p1 7 rfl rfl
theorem kw_80 : Cond.code yX1_from cX1_from 2 (some .int) ∈ sv_w := sv_m2 94 rfl rfl
theorem kw_81 : Cond.constant RX1 62 (-2147483648) ∈ sv_w := sv_m2 95 rfl rfl
theorem kw_82 : Cond.methodLink RX1 63 yX1_digitAt ∈ sv_w := sv_m2 100 rfl rfl
theorem kw_83 : Cond.instanceMethod yX1_digitAt ∈ sv_w := sv_m2 102 rfl rfl
theorem kw_84 : Cond.selects RX1 yX1_digitAt yX1_digitAt ∈ sv_w := sv_p1 9 rfl rfl
theorem kw_85 : Cond.code yX1_digitAt cX1_digitAt 3 (some .int) ∈ sv_w := sv_m2 103 rfl rfl
theorem kw_86 : Cond.methodLink RX1 66 yX1_wrong ∈ sv_w := sv_m2 104 rfl rfl
theorem kw_87 : Cond.instanceMethod yX1_wrong ∈ sv_w := sv_m2 106 rfl rfl
theorem kw_88 : Cond.selects RX1 yX1_wrong yX1_wrong ∈ sv_w := sv_p1 10 rfl rfl
theorem kw_89 : Cond.code yX1_wrong cX1_wrong 1 (some .int) ∈ sv_w := sv_m2 107 rfl rfl
theorem kw_90 : Cond.methodLink RJ0 335 yJ0_coder_7d493 ∈ sv_w := sv_m2 185 rfl rfl
theorem kw_91 : Cond.instanceMethod yJ0_coder_7d493 ∈ sv_w := sv_m2 186 rfl rfl
theorem kw_92 : Cond.selects RJ0 yJ0_coder_7d493 yJ0_coder_7d493 ∈ sv_w := sv_m2 187 rfl rfl
theorem kw_93 : Cond.code yJ0_coder_7d493 cJ0_coder_7d493 1 (some .byte) ∈ sv_w := sv_m2 188 rfl rfl
theorem kw_96 : Cond.initialized "java/lang/Math" ∈ sv_w := sv_m1 15 rfl rfl
theorem kw_101 : Cond.methodLink RJ1 88 yJ1_canEncode_9a6ad ∈ sv_w := sv_m2 192 rfl rfl
theorem kw_102 : Cond.static yJ1_canEncode_9a6ad ∈ sv_w := sv_m2 193 rfl rfl
theorem kw_103 : Cond.code yJ1_canEncode_9a6ad cJ1_canEncode_9a6ad 1 (some .boolean) ∈ sv_w := sv_m2 194 rfl rfl
theorem kw_104 : Cond.methodLink RJ1 95 yJ1_indexOfChar_4cfef ∈ sv_w := sv_m2 201 rfl rfl
theorem kw_105 : Cond.static yJ1_indexOfChar_4cfef ∈ sv_w := sv_m2 202 rfl rfl
theorem kw_106 : Cond.code yJ1_indexOfChar_4cfef cJ1_indexOfChar_4cfef 6 (some .int) ∈ sv_w := sv_m2 203 rfl rfl
theorem kw_107 : Cond.methodLink RJ0 1062 yJ3_checkFromToIndex_8c36e ∈ sv_w := sv_m2 219 rfl rfl
theorem kw_108 : Cond.static yJ3_checkFromToIndex_8c36e ∈ sv_w := sv_m2 220 rfl rfl
theorem kw_109 : Cond.code yJ3_checkFromToIndex_8c36e cJ3_checkFromToIndex_8c36e 4 (some .int) ∈ sv_w := sv_m2 221 rfl rfl
theorem kw_110 : Cond.methodLink RJ2 241 yJ0_checkBoundsBeginEnd_23922 ∈ sv_w := sv_m2 216 rfl rfl
theorem kw_111 : Cond.static yJ0_checkBoundsBeginEnd_23922 ∈ sv_w := sv_m2 217 rfl rfl
theorem kw_112 : Cond.code yJ0_checkBoundsBeginEnd_23922 cJ0_checkBoundsBeginEnd_23922 3 none ∈ sv_w := sv_m2 218 rfl rfl
theorem kw_113 : Cond.methodLink RJ2 96 yJ2_checkBoundsBeginEnd_d044e ∈ sv_w := sv_m2 213 rfl rfl
theorem kw_114 : Cond.static yJ2_checkBoundsBeginEnd_d044e ∈ sv_w := sv_m2 214 rfl rfl
theorem kw_115 : Cond.code yJ2_checkBoundsBeginEnd_d044e cJ2_checkBoundsBeginEnd_d044e 3 none ∈ sv_w := sv_m2 215 rfl rfl
theorem kw_116 : Cond.methodLink RJ2 244 yJ2_indexOfCharUnsafe_4cfef ∈ sv_w := sv_m2 222 rfl rfl
theorem kw_117 : Cond.static yJ2_indexOfCharUnsafe_4cfef ∈ sv_w := sv_m2 223 rfl rfl
theorem kw_118 : Cond.code yJ2_indexOfCharUnsafe_4cfef cJ2_indexOfCharUnsafe_4cfef 5 (some .int) ∈ sv_w := sv_m2 224 rfl rfl
theorem kw_119 : Cond.constant RJ11 110 (55232) ∈ sv_w := sv_m2 234 rfl rfl
theorem kw_120 : Cond.constant RJ11 76 (56320) ∈ sv_w := sv_m2 238 rfl rfl
theorem kw_121 : Cond.methodLink RJ2 164 yJ11_isValidCodePoint_9a6ad ∈ sv_w := sv_m2 228 rfl rfl
theorem kw_122 : Cond.static yJ11_isValidCodePoint_9a6ad ∈ sv_w := sv_m2 229 rfl rfl
theorem kw_123 : Cond.initialized RJ11 ∈ sv_w := sv_m1 16 rfl rfl
theorem kw_124 : Cond.code yJ11_isValidCodePoint_9a6ad cJ11_isValidCodePoint_9a6ad 2 (some .boolean) ∈ sv_w := sv_m2 230 rfl rfl
theorem kw_125 : Cond.methodLink RJ2 157 yJ11_highSurrogate_5068e ∈ sv_w := sv_m2 231 rfl rfl
theorem kw_126 : Cond.static yJ11_highSurrogate_5068e ∈ sv_w := sv_m2 232 rfl rfl
theorem kw_127 : Cond.code yJ11_highSurrogate_5068e cJ11_highSurrogate_5068e 1 (some .char) ∈ sv_w := sv_m2 233 rfl rfl
theorem kw_128 : Cond.methodLink RJ2 161 yJ11_lowSurrogate_5068e ∈ sv_w := sv_m2 235 rfl rfl
theorem kw_129 : Cond.static yJ11_lowSurrogate_5068e ∈ sv_w := sv_m2 236 rfl rfl
theorem kw_130 : Cond.code yJ11_lowSurrogate_5068e cJ11_lowSurrogate_5068e 1 (some .char) ∈ sv_w := sv_m2 237 rfl rfl
theorem kw_133 : Cond.constant RJ2 227 (65536) ∈ sv_w := sv_m2 209 rfl rfl
theorem kw_134 : Cond.methodLink RJ2 228 yJ2_indexOfChar_4cfef ∈ sv_w := sv_m2 210 rfl rfl
theorem kw_135 : Cond.static yJ2_indexOfChar_4cfef ∈ sv_w := sv_m2 211 rfl rfl
theorem kw_136 : Cond.code yJ2_indexOfChar_4cfef cJ2_indexOfChar_4cfef 4 (some .int) ∈ sv_w := sv_m2 212 rfl rfl
theorem kw_137 : Cond.methodLink RJ2 232 yJ2_indexOfSupplementary_4cfef ∈ sv_w := sv_m2 225 rfl rfl
theorem kw_138 : Cond.static yJ2_indexOfSupplementary_4cfef ∈ sv_w := sv_m2 226 rfl rfl
theorem kw_139 : Cond.code yJ2_indexOfSupplementary_4cfef cJ2_indexOfSupplementary_4cfef 7 (some .int) ∈ sv_w := sv_m2 227 rfl rfl
theorem kw_140 : Cond.methodLink RJ0 505 yJ0_length_8abf5 ∈ sv_w := sv_m2 181 rfl rfl
theorem kw_141 : Cond.instanceMethod yJ0_length_8abf5 ∈ sv_w := sv_m2 182 rfl rfl
theorem kw_142 : Cond.selects RJ0 yJ0_length_8abf5 yJ0_length_8abf5 ∈ sv_w := sv_m2 183 rfl rfl
theorem kw_143 : Cond.code yJ0_length_8abf5 cJ0_length_8abf5 1 (some .int) ∈ sv_w := sv_m2 184 rfl rfl
theorem kw_144 : Cond.methodLink RJ0 637 yJ1_indexOf_4cfef ∈ sv_w := sv_m2 189 rfl rfl
theorem kw_145 : Cond.static yJ1_indexOf_4cfef ∈ sv_w := sv_m2 190 rfl rfl
theorem kw_146 : Cond.code yJ1_indexOf_4cfef cJ1_indexOf_4cfef 4 (some .int) ∈ sv_w := sv_m2 191 rfl rfl
theorem kw_147 : Cond.methodLink RJ0 640 yJ2_indexOf_4cfef ∈ sv_w := sv_m2 204 rfl rfl
theorem kw_148 : Cond.static yJ2_indexOf_4cfef ∈ sv_w := sv_m2 205 rfl rfl
theorem kw_149 : Cond.code yJ2_indexOf_4cfef cJ2_indexOf_4cfef 4 (some .int) ∈ sv_w := sv_m2 206 rfl rfl
theorem kw_150 : Cond.methodLink RJ0 633 yJ0_indexOf_7cf53 ∈ sv_w := sv_m2 177 rfl rfl
theorem kw_151 : Cond.instanceMethod yJ0_indexOf_7cf53 ∈ sv_w := sv_m2 178 rfl rfl
theorem kw_152 : Cond.selects RJ0 yJ0_indexOf_7cf53 yJ0_indexOf_7cf53 ∈ sv_w := sv_m2 179 rfl rfl
theorem kw_153 : Cond.code yJ0_indexOf_7cf53 cJ0_indexOf_7cf53 3 (some .int) ∈ sv_w := sv_m2 180 rfl rfl
theorem kw_154 : Cond.methodLink RX1 70 yX1_isEmpty ∈ sv_w := sv_m2 87 rfl rfl
theorem kw_155 : Cond.instanceMethod yX1_isEmpty ∈ sv_w := sv_m2 88 rfl rfl
theorem kw_156 : Cond.selects RX1 yX1_isEmpty yX1_isEmpty ∈ sv_w := sv_m2 89 rfl rfl
theorem kw_157 : Cond.code yX1_isEmpty cX1_isEmpty 2 (some .boolean) ∈ sv_w := sv_m2 90 rfl rfl
theorem kw_158 : Cond.methodLink RX1 74 yX1_at ∈ sv_w := sv_m2 108 rfl rfl
theorem kw_159 : Cond.instanceMethod yX1_at ∈ sv_w := sv_m2 110 rfl rfl
theorem kw_160 : Cond.selects RX1 yX1_at yX1_at ∈ sv_w := sv_p1 11 rfl rfl
theorem kw_161 : Cond.code yX1_at cX1_at 2 (some .int) ∈ sv_w := sv_m2 111 rfl rfl
theorem kw_162 : Cond.methodLink RX1 75 yJ0_indexOf_0f7a4 ∈ sv_w := sv_m2 173 rfl rfl
theorem kw_163 : Cond.instanceMethod yJ0_indexOf_0f7a4 ∈ sv_w := sv_m2 174 rfl rfl
theorem kw_164 : Cond.selects RJ0 yJ0_indexOf_0f7a4 yJ0_indexOf_0f7a4 ∈ sv_w := sv_m2 175 rfl rfl
theorem kw_165 : Cond.code yJ0_indexOf_0f7a4 cJ0_indexOf_0f7a4 2 (some .int) ∈ sv_w := sv_m2 176 rfl rfl
theorem kw_166 : Cond.methodLink RX1 78 yX1_digits ∈ sv_w := sv_m2 96 rfl rfl
theorem kw_167 : Cond.instanceMethod yX1_digits ∈ sv_w := sv_m2 98 rfl rfl
theorem kw_168 : Cond.selects RX1 yX1_digits yX1_digits ∈ sv_w := sv_p1 8 rfl rfl
theorem kw_169 : Cond.code yX1_digits cX1_digits 13 (some .int) ∈ sv_w := sv_m2 99 rfl rfl
theorem kw_170 : Cond.methodLink RX1 82 yX1_decimal ∈ sv_w := sv_m2 152 rfl rfl
theorem kw_171 : Cond.instanceMethod yX1_decimal ∈ sv_w := sv_m2 145 rfl rfl
theorem kw_172 : Cond.selects RX1 yX1_decimal yX1_decimal ∈ sv_w := sv_m2 146 rfl rfl
theorem kw_173 : Cond.code yX1_decimal cX1_decimal 4 (some .int) ∈ sv_w := sv_m2 147 rfl rfl
theorem kw_174 : Cond.constant RX1 86 (36000) ∈ sv_w := sv_m3 3 rfl rfl
theorem kw_175 : Cond.methodLink RX1 87 yX1_onSide ∈ sv_w := sv_m2 127 rfl rfl
theorem kw_176 : Cond.instanceMethod yX1_onSide ∈ sv_w := sv_m2 129 rfl rfl
theorem kw_177 : Cond.selects RX1 yX1_onSide yX1_onSide ∈ sv_w := sv_p1 13 rfl rfl
theorem kw_178 : Cond.code yX1_onSide cX1_onSide 6 (some .int) ∈ sv_w := sv_m2 130 rfl rfl
theorem kw_179 : Cond.constant RX1 91 (10000000) ∈ sv_w := sv_m2 112 rfl rfl
theorem kw_180 : Cond.constant RX1 92 (100000) ∈ sv_w := sv_m2 113 rfl rfl
theorem kw_181 : Cond.constant RX1 93 (59999) ∈ sv_w := sv_m2 114 rfl rfl
theorem kw_182 : Cond.constant RX1 94 (60000) ∈ sv_w := sv_m2 115 rfl rfl
theorem kw_183 : Cond.methodLink RX1 95 yX1_whole ∈ sv_w := sv_m3 8 rfl rfl
theorem kw_184 : Cond.instanceMethod yX1_whole ∈ sv_w := sv_m2 141 rfl rfl
theorem kw_185 : Cond.selects RX1 yX1_whole yX1_whole ∈ sv_w := sv_m2 142 rfl rfl
theorem kw_186 : Cond.code yX1_whole cX1_whole 4 (some .int) ∈ sv_w := sv_m2 143 rfl rfl
theorem kw_187 : Cond.constant RX1 103 (1000000) ∈ sv_w := sv_m2 125 rfl rfl
theorem kw_188 : Cond.constant RX1 104 (600000) ∈ sv_w := sv_m2 126 rfl rfl
theorem kw_189 : Cond.constant RX1 98 (54000000) ∈ sv_w := sv_m2 120 rfl rfl
theorem kw_190 : Cond.methodLink RX1 99 yX1_angle ∈ sv_w := sv_m2 121 rfl rfl
theorem kw_191 : Cond.instanceMethod yX1_angle ∈ sv_w := sv_m2 123 rfl rfl
theorem kw_192 : Cond.selects RX1 yX1_angle yX1_angle ∈ sv_w := sv_p1 12 rfl rfl
theorem kw_193 : Cond.code yX1_angle cX1_angle 7 (some .int) ∈ sv_w := sv_m2 124 rfl rfl
theorem kw_194 : Cond.constant RX1 102 (108000000) ∈ sv_w := sv_m2 135 rfl rfl
theorem kw_195 : Cond.methodLink RX1 105 yX0_append ∈ sv_w := sv_m3 60 rfl rfl
theorem kw_196 : Cond.instanceMethod yX0_append ∈ sv_w := sv_m3 61 rfl rfl
theorem kw_197 : Cond.selects RX0 yX0_append yX0_append ∈ sv_w := sv_m3 62 rfl rfl
theorem kw_198 : Cond.initialized RX0 ∈ sv_w := sv_m1 8 rfl rfl
theorem kw_199 : Cond.code yX0_append cX0_append 8 none ∈ sv_w := sv_m3 63 rfl rfl
theorem kw_200 : Cond.methodLink RX2 3 objectInit ∈ sv_w := sv_m1 157 rfl rfl
theorem kw_201 : Cond.classLink RX2 11 RX7 ∈ sv_w := sv_m1 158 rfl rfl
theorem kw_202 : Cond.fieldLink RX2 13 "SeaReceiver$Fleet" "vessels" "[LSeaReceiver$Vessel;" ∈ sv_w := sv_m1 160 rfl rfl
theorem kw_203 : Cond.fieldLink RX2 17 "SeaReceiver$Fleet" "size" "I" ∈ sv_w := sv_m1 161 rfl rfl
theorem kw_204 : Cond.fieldLink RX2 21 "SeaReceiver$Vessel" "values" "[I" ∈ sv_w := sv_m3 95 rfl rfl
theorem kw_205 : Cond.constant RX2 25 (-2147483648) ∈ sv_w := sv_m3 88 rfl rfl
theorem kw_206 : Cond.methodLink RX7 3 objectInit ∈ sv_w := sv_m3 93 rfl rfl
theorem kw_207 : Cond.fieldLink RX7 11 "SeaReceiver$Vessel" "values" "[I" ∈ sv_w := sv_m3 94 rfl rfl
theorem kw_208 : Cond.fieldLink RX7 15 "SeaReceiver$Vessel" "lengths" "[I" ∈ sv_w := sv_m3 97 rfl rfl
theorem kw_209 : Cond.fieldLink RX7 18 "SeaReceiver$Vessel" "signs" "[B" ∈ sv_w := sv_m3 99 rfl rfl
theorem kw_210 : Cond.constant RX7 34 (-2147483648) ∈ sv_w := sv_m3 111 rfl rfl
theorem kw_211 : Cond.methodLink RX7 35 yJ7_fill_53178 ∈ sv_w := sv_m3 112 rfl rfl
theorem kw_212 : Cond.instantiable RX7 3 ∈ sv_w := sv_m3 89 rfl rfl
theorem kw_213 : Cond.initialized RX7 ∈ sv_w := sv_m1 17 rfl rfl
theorem kw_214 : Cond.methodLink RX2 26 yX2_numberOf ∈ sv_w := sv_m3 84 rfl rfl
theorem kw_215 : Cond.instanceMethod yX2_numberOf ∈ sv_w := sv_m3 85 rfl rfl
theorem kw_216 : Cond.selects RX2 yX2_numberOf yX2_numberOf ∈ sv_w := sv_m3 86 rfl rfl
theorem kw_217 : Cond.initialized RX2 ∈ sv_w := sv_m1 9 rfl rfl
theorem kw_218 : Cond.code yX2_numberOf cX2_numberOf 3 (some .int) ∈ sv_w := sv_m3 87 rfl rfl
theorem kw_219 : Cond.instanceMethod yX7_init ∈ sv_w := sv_m3 91 rfl rfl
theorem kw_220 : Cond.code yX7_init cX7_init 1 none ∈ sv_w := sv_m3 92 rfl rfl
theorem kw_221 : Cond.methodLink RX2 31 yX7_begin ∈ sv_w := sv_m3 107 rfl rfl
theorem kw_222 : Cond.instanceMethod yX7_begin ∈ sv_w := sv_m3 108 rfl rfl
theorem kw_223 : Cond.selects RX7 yX7_begin yX7_begin ∈ sv_w := sv_m3 109 rfl rfl
theorem kw_224 : Cond.code yX7_begin cX7_begin 2 none ∈ sv_w := sv_m3 110 rfl rfl
theorem kw_225 : Cond.methodLink RX3 3 objectInit ∈ sv_w := sv_m1 122 rfl rfl
theorem kw_226 : Cond.classLink RX3 11 RX0 ∈ sv_w := sv_m1 123 rfl rfl
theorem kw_227 : Cond.fieldLink RX3 13 "SeaReceiver$Parts" "rows" "[LSeaReceiver$BitRow;" ∈ sv_w := sv_m1 125 rfl rfl
theorem kw_228 : Cond.fieldLink RX3 17 "SeaReceiver$Parts" "manys" "[I" ∈ sv_w := sv_m1 126 rfl rfl
theorem kw_229 : Cond.fieldLink RX3 21 "SeaReceiver$Parts" "kept" "[I" ∈ sv_w := sv_m1 127 rfl rfl
theorem kw_230 : Cond.methodLink RX3 24 yJ7_fill_53178 ∈ sv_w := sv_m3 191 rfl rfl
theorem kw_231 : Cond.instantiable RX0 3 ∈ sv_w := sv_m1 136 rfl rfl
theorem kw_232 : Cond.methodLink RX3 30 yX0_init ∈ sv_w := sv_m3 50 rfl rfl
theorem kw_233 : Cond.instanceMethod yX0_init ∈ sv_w := sv_m1 138 rfl rfl
theorem kw_234 : Cond.code yX0_init cX0_init 2 none ∈ sv_w := sv_m1 139 rfl rfl
theorem kw_235 : Cond.methodLink RX3 33 yX0_empty ∈ sv_w := sv_m3 51 rfl rfl
theorem kw_236 : Cond.instanceMethod yX0_empty ∈ sv_w := sv_m3 52 rfl rfl
theorem kw_237 : Cond.selects RX0 yX0_empty yX0_empty ∈ sv_w := sv_m3 53 rfl rfl
theorem kw_238 : Cond.code yX0_empty cX0_empty 1 none ∈ sv_w := sv_m3 54 rfl rfl
theorem kw_239 : Cond.methodLink RX4 3 objectInit ∈ sv_w := sv_m1 104 rfl rfl
theorem kw_240 : Cond.fieldLink RX4 11 "SeaReceiver$Position" "told" "[I" ∈ sv_w := sv_m1 109 rfl rfl
theorem kw_241 : Cond.fieldLink RX4 15 "SeaReceiver$Position" "fresh" "[I" ∈ sv_w := sv_m1 111 rfl rfl
theorem kw_242 : Cond.constant RX4 18 (-2147483648) ∈ sv_w := sv_m1 105 rfl rfl
theorem kw_243 : Cond.methodLink RX4 19 yJ7_fill_53178 ∈ sv_w := sv_m1 106 rfl rfl
theorem kw_244 : Cond.fieldLink RX4 25 "SeaReceiver$Fields" "many" "I" ∈ sv_w := sv_m1 85 rfl rfl
theorem kw_245 : Cond.fieldLink RX4 58 "SeaReceiver$Fields" "good" "Z" ∈ sv_w := sv_m1 88 rfl rfl
theorem kw_246 : Cond.fieldLink RX4 62 "SeaReceiver$Position" "OF_GGA" "[I" ∈ sv_w := sv_m2 157 rfl rfl
theorem kw_247 : Cond.methodLink RX4 31 yX1_time ∈ sv_w := sv_m2 83 rfl rfl
theorem kw_248 : Cond.instanceMethod yX1_time ∈ sv_w := sv_m2 84 rfl rfl
theorem kw_249 : Cond.selects RX1 yX1_time yX1_time ∈ sv_w := sv_m2 85 rfl rfl
theorem kw_250 : Cond.code yX1_time cX1_time 6 (some .int) ∈ sv_w := sv_m2 86 rfl rfl
theorem kw_251 : Cond.methodLink RX4 35 yX1_latitude ∈ sv_w := sv_m2 116 rfl rfl
theorem kw_252 : Cond.instanceMethod yX1_latitude ∈ sv_w := sv_m2 117 rfl rfl
theorem kw_253 : Cond.selects RX1 yX1_latitude yX1_latitude ∈ sv_w := sv_m2 118 rfl rfl
theorem kw_254 : Cond.code yX1_latitude cX1_latitude 2 (some .int) ∈ sv_w := sv_m2 119 rfl rfl
theorem kw_255 : Cond.methodLink RX4 38 yX1_longitude ∈ sv_w := sv_m2 131 rfl rfl
theorem kw_256 : Cond.instanceMethod yX1_longitude ∈ sv_w := sv_m2 132 rfl rfl
theorem kw_257 : Cond.selects RX1 yX1_longitude yX1_longitude ∈ sv_w := sv_m2 133 rfl rfl
theorem kw_258 : Cond.code yX1_longitude cX1_longitude 2 (some .int) ∈ sv_w := sv_m2 134 rfl rfl
theorem kw_259 : Cond.methodLink RX4 41 yX1_digit ∈ sv_w := sv_m2 136 rfl rfl
theorem kw_260 : Cond.instanceMethod yX1_digit ∈ sv_w := sv_m2 137 rfl rfl
theorem kw_261 : Cond.selects RX1 yX1_digit yX1_digit ∈ sv_w := sv_m2 138 rfl rfl
theorem kw_262 : Cond.code yX1_digit cX1_digit 6 (some .int) ∈ sv_w := sv_m2 139 rfl rfl
theorem kw_263 : Cond.methodLink RX4 45 yX1_whole ∈ sv_w := sv_m2 140 rfl rfl
theorem kw_264 : Cond.methodLink RX4 48 yX1_decimal ∈ sv_w := sv_m2 144 rfl rfl
theorem kw_265 : Cond.methodLink RX4 51 yX1_signed ∈ sv_w := sv_m2 148 rfl rfl
theorem kw_266 : Cond.instanceMethod yX1_signed ∈ sv_w := sv_m2 149 rfl rfl
theorem kw_267 : Cond.selects RX1 yX1_signed yX1_signed ∈ sv_w := sv_m2 150 rfl rfl
theorem kw_268 : Cond.code yX1_signed cX1_signed 5 (some .int) ∈ sv_w := sv_m2 151 rfl rfl
theorem kw_269 : Cond.methodLink RX4 54 yX1_checkUnit ∈ sv_w := sv_m2 153 rfl rfl
theorem kw_270 : Cond.instanceMethod yX1_checkUnit ∈ sv_w := sv_m2 154 rfl rfl
theorem kw_271 : Cond.selects RX1 yX1_checkUnit yX1_checkUnit ∈ sv_w := sv_m2 155 rfl rfl
theorem kw_272 : Cond.code yX1_checkUnit cX1_checkUnit 4 none ∈ sv_w := sv_m2 156 rfl rfl
theorem kw_273 : Cond.methodLink RX4 65 yX4_settle ∈ sv_w := sv_m2 159 rfl rfl
theorem kw_274 : Cond.instanceMethod yX4_settle ∈ sv_w := sv_m2 161 rfl rfl
theorem kw_275 : Cond.selects RX4 yX4_settle yX4_settle ∈ sv_w := sv_p1 14 rfl rfl
theorem kw_276 : Cond.initialized RX4 ∈ sv_w := sv_m1 5 rfl rfl
theorem kw_277 : Cond.code yX4_settle cX4_settle 4 (some .boolean) ∈ sv_w := sv_m2 162 rfl rfl
theorem kw_278 : Cond.fieldLink RX4 90 "SeaReceiver$Position" "OF_RMC" "[I" ∈ sv_w := sv_m3 14 rfl rfl
theorem kw_279 : Cond.methodLink RX4 69 yX1_isEmpty ∈ sv_w := sv_m2 167 rfl rfl
theorem kw_280 : Cond.methodLink RX4 75 yX1_oneOf ∈ sv_w := sv_m2 169 rfl rfl
theorem kw_281 : Cond.instanceMethod yX1_oneOf ∈ sv_w := sv_m2 170 rfl rfl
theorem kw_282 : Cond.selects RX1 yX1_oneOf yX1_oneOf ∈ sv_w := sv_m2 171 rfl rfl
theorem kw_283 : Cond.code yX1_oneOf cX1_oneOf 5 (some .int) ∈ sv_w := sv_m2 172 rfl rfl
theorem kw_284 : Cond.methodLink RX4 79 yX1_course ∈ sv_w := sv_m2 239 rfl rfl
theorem kw_285 : Cond.instanceMethod yX1_course ∈ sv_w := sv_m3 0 rfl rfl
theorem kw_286 : Cond.selects RX1 yX1_course yX1_course ∈ sv_w := sv_m3 1 rfl rfl
theorem kw_287 : Cond.code yX1_course cX1_course 3 (some .int) ∈ sv_w := sv_m3 2 rfl rfl
theorem kw_288 : Cond.methodLink RX4 82 yX1_date ∈ sv_w := sv_m3 4 rfl rfl
theorem kw_289 : Cond.instanceMethod yX1_date ∈ sv_w := sv_m3 5 rfl rfl
theorem kw_290 : Cond.selects RX1 yX1_date yX1_date ∈ sv_w := sv_m3 6 rfl rfl
theorem kw_291 : Cond.code yX1_date cX1_date 6 (some .int) ∈ sv_w := sv_m3 7 rfl rfl
theorem kw_292 : Cond.methodLink RX4 85 yX1_variation ∈ sv_w := sv_m3 9 rfl rfl
theorem kw_293 : Cond.instanceMethod yX1_variation ∈ sv_w := sv_m3 10 rfl rfl
theorem kw_294 : Cond.selects RX1 yX1_variation yX1_variation ∈ sv_w := sv_m3 11 rfl rfl
theorem kw_295 : Cond.code yX1_variation cX1_variation 3 (some .int) ∈ sv_w := sv_m3 12 rfl rfl
theorem kw_296 : Cond.fieldLink RX4 93 "SeaReceiver$Position" "OF_VTG" "[I" ∈ sv_w := sv_m3 20 rfl rfl
theorem kw_297 : Cond.methodLink RX5 3 objectInit ∈ sv_w := sv_m1 52 rfl rfl
theorem kw_298 : Cond.fieldLink RX5 15 "SeaReceiver$Sentence" "stage" "I" ∈ sv_w := sv_m1 54 rfl rfl
theorem kw_299 : Cond.fieldLink RX5 38 "SeaReceiver$Sentence" "start" "I" ∈ sv_w := sv_m1 55 rfl rfl
theorem kw_300 : Cond.fieldLink RX5 41 "SeaReceiver$Sentence" "sum" "I" ∈ sv_w := sv_m1 59 rfl rfl
theorem kw_301 : Cond.fieldLink RX5 44 "SeaReceiver$Sentence" "toldSum" "I" ∈ sv_w := sv_m1 61 rfl rfl
theorem kw_302 : Cond.methodLink RX5 27 yX5_step ∈ sv_w := sv_m1 237 rfl rfl
theorem kw_303 : Cond.instanceMethod yX5_step ∈ sv_w := sv_m1 239 rfl rfl
theorem kw_304 : Cond.selects RX5 yX5_step yX5_step ∈ sv_w := sv_p1 1 rfl rfl
theorem kw_305 : Cond.code yX5_step cX5_step 3 (some .int) ∈ sv_w := sv_m2 0 rfl rfl
theorem kw_306 : Cond.methodLink RX5 23 yX5_begin ∈ sv_w := sv_m1 233 rfl rfl
theorem kw_307 : Cond.instanceMethod yX5_begin ∈ sv_w := sv_m1 235 rfl rfl
theorem kw_308 : Cond.selects RX5 yX5_begin yX5_begin ∈ sv_w := sv_p1 0 rfl rfl
theorem kw_309 : Cond.code yX5_begin cX5_begin 3 (some .int) ∈ sv_w := sv_m1 236 rfl rfl
theorem kw_310 : Cond.methodLink RX5 31 yX5_store ∈ sv_w := sv_m2 1 rfl rfl
theorem kw_311 : Cond.instanceMethod yX5_store ∈ sv_w := sv_m2 3 rfl rfl
theorem kw_312 : Cond.selects RX5 yX5_store yX5_store ∈ sv_w := sv_p1 2 rfl rfl
theorem kw_313 : Cond.code yX5_store cX5_store 2 (some .int) ∈ sv_w := sv_m2 4 rfl rfl
theorem kw_314 : Cond.methodLink RX5 34 yX5_hearDigit ∈ sv_w := sv_m2 5 rfl rfl
theorem kw_315 : Cond.instanceMethod yX5_hearDigit ∈ sv_w := sv_m2 7 rfl rfl
theorem kw_316 : Cond.selects RX5 yX5_hearDigit yX5_hearDigit ∈ sv_w := sv_p1 3 rfl rfl
theorem kw_317 : Cond.code yX5_hearDigit cX5_hearDigit 3 (some .int) ∈ sv_w := sv_m2 8 rfl rfl
theorem kw_318 : Cond.methodLink RX6 3 objectInit ∈ sv_w := sv_m1 36 rfl rfl
theorem kw_319 : Cond.fieldLink RX6 9 "SeaReceiver$SignRow" "signs" "[B" ∈ sv_w := sv_m1 37 rfl rfl
theorem kw_320 : Cond.fieldLink RX6 15 "SeaReceiver$SignRow" "size" "I" ∈ sv_w := sv_m1 38 rfl rfl
theorem kw_321 : Cond.methodLink RX6 19 yX6_add ∈ sv_w := sv_m1 212 rfl rfl
theorem kw_322 : Cond.instanceMethod yX6_add ∈ sv_w := sv_m1 213 rfl rfl
theorem kw_323 : Cond.selects RX6 yX6_add yX6_add ∈ sv_w := sv_m1 214 rfl rfl
theorem kw_324 : Cond.initialized RX6 ∈ sv_w := sv_m1 2 rfl rfl
theorem kw_325 : Cond.code yX6_add cX6_add 2 none ∈ sv_w := sv_m1 215 rfl rfl
theorem kw_326 : Cond.methodLink RX6 23 yJ0_length_8abf5 ∈ sv_w := sv_m4 90 rfl rfl
theorem kw_327 : Cond.methodLink RX6 29 yJ0_charAt_5068e ∈ sv_w := sv_m4 91 rfl rfl
theorem kw_328 : Cond.constant RX6 33 (-2147483648) ∈ sv_w := sv_m1 228 rfl rfl
theorem kw_329 : Cond.fieldLink RX7 22 "SeaReceiver$Vessel" "OF_4" "[I" ∈ sv_w := sv_m3 120 rfl rfl
theorem kw_330 : Cond.fieldLink RX7 25 "SeaReceiver$Vessel" "OF_5" "[I" ∈ sv_w := sv_m3 122 rfl rfl
theorem kw_331 : Cond.fieldLink RX7 28 "SeaReceiver$Vessel" "OF_18" "[I" ∈ sv_w := sv_m3 124 rfl rfl
theorem kw_332 : Cond.fieldLink RX7 31 "SeaReceiver$Vessel" "OF_1" "[I" ∈ sv_w := sv_m3 126 rfl rfl
theorem kw_333 : Cond.methodLink RX7 49 yX0_read ∈ sv_w := sv_m3 132 rfl rfl
theorem kw_334 : Cond.instanceMethod yX0_read ∈ sv_w := sv_m3 73 rfl rfl
theorem kw_335 : Cond.selects RX0 yX0_read yX0_read ∈ sv_w := sv_m3 74 rfl rfl
theorem kw_336 : Cond.code yX0_read cX0_read 6 (some .int) ∈ sv_w := sv_m3 75 rfl rfl
theorem kw_337 : Cond.methodLink RX7 41 yX7_layoutOf ∈ sv_w := sv_m3 117 rfl rfl
theorem kw_338 : Cond.static yX7_layoutOf ∈ sv_w := sv_m3 118 rfl rfl
theorem kw_339 : Cond.code yX7_layoutOf cX7_layoutOf 1 (some (.array .int)) ∈ sv_w := sv_m3 119 rfl rfl
theorem kw_340 : Cond.methodLink RX7 45 yX7_learnText ∈ sv_w := sv_m3 128 rfl rfl
theorem kw_341 : Cond.instanceMethod yX7_learnText ∈ sv_w := sv_m3 130 rfl rfl
theorem kw_342 : Cond.selects RX7 yX7_learnText yX7_learnText ∈ sv_w := sv_p2 2 rfl rfl
theorem kw_343 : Cond.code yX7_learnText cX7_learnText 8 none ∈ sv_w := sv_m3 131 rfl rfl
theorem kw_344 : Cond.methodLink RX7 55 yX7_hasSign ∈ sv_w := sv_m3 133 rfl rfl
theorem kw_345 : Cond.static yX7_hasSign ∈ sv_w := sv_m3 134 rfl rfl
theorem kw_346 : Cond.code yX7_hasSign cX7_hasSign 1 (some .boolean) ∈ sv_w := sv_m3 135 rfl rfl
theorem kw_347 : Cond.methodLink RX7 70 yX7_signOf ∈ sv_w := sv_m4 79 rfl rfl
theorem kw_348 : Cond.instanceMethod yX7_signOf ∈ sv_w := sv_m3 162 rfl rfl
theorem kw_349 : Cond.selects RX7 yX7_signOf yX7_signOf ∈ sv_w := sv_m3 163 rfl rfl
theorem kw_350 : Cond.code yX7_signOf cX7_signOf 3 (some .int) ∈ sv_w := sv_m3 164 rfl rfl
theorem kw_351 : Cond.methodLink RX7 62 yX0_append ∈ sv_w := sv_m4 74 rfl rfl
theorem kw_352 : Cond.methodLink RX7 59 yX0_empty ∈ sv_w := sv_m4 73 rfl rfl
theorem kw_353 : Cond.methodLink RX7 66 yX7_tellText ∈ sv_w := sv_m4 75 rfl rfl
theorem kw_354 : Cond.instanceMethod yX7_tellText ∈ sv_w := sv_m4 77 rfl rfl
theorem kw_355 : Cond.selects RX7 yX7_tellText yX7_tellText ∈ sv_w := sv_p2 4 rfl rfl
theorem kw_356 : Cond.code yX7_tellText cX7_tellText 7 none ∈ sv_w := sv_m4 78 rfl rfl
theorem kw_357 : Cond.methodLink RX8 1 objectInit ∈ sv_w := sv_m1 28 rfl rfl
theorem kw_358 : Cond.fieldLink RX8 9 "SeaReceiver" "tallies" "[I" ∈ sv_w := sv_m1 168 rfl rfl
theorem kw_359 : Cond.classLink RX8 13 RX6 ∈ sv_w := sv_m1 31 rfl rfl
theorem kw_360 : Cond.instantiable RX6 2 ∈ sv_w := sv_m1 32 rfl rfl
theorem kw_361 : Cond.fieldLink RX8 18 "SeaReceiver" "tape" "LSeaReceiver$SignRow;" ∈ sv_w := sv_m1 169 rfl rfl
theorem kw_362 : Cond.fieldLink RX8 22 "SeaReceiver" "sent" "LSeaReceiver$SignRow;" ∈ sv_w := sv_m1 170 rfl rfl
theorem kw_363 : Cond.classLink RX8 25 RX5 ∈ sv_w := sv_m1 47 rfl rfl
theorem kw_364 : Cond.instantiable RX5 6 ∈ sv_w := sv_m1 48 rfl rfl
theorem kw_365 : Cond.fieldLink RX8 28 "SeaReceiver" "sentence" "LSeaReceiver$Sentence;" ∈ sv_w := sv_m1 171 rfl rfl
theorem kw_366 : Cond.classLink RX8 32 RX1 ∈ sv_w := sv_m1 76 rfl rfl
theorem kw_367 : Cond.instantiable RX1 4 ∈ sv_w := sv_m1 77 rfl rfl
theorem kw_368 : Cond.fieldLink RX8 35 "SeaReceiver" "fields" "LSeaReceiver$Fields;" ∈ sv_w := sv_m1 172 rfl rfl
theorem kw_369 : Cond.classLink RX8 39 RX4 ∈ sv_w := sv_m1 99 rfl rfl
theorem kw_370 : Cond.instantiable RX4 2 ∈ sv_w := sv_m1 100 rfl rfl
theorem kw_371 : Cond.fieldLink RX8 42 "SeaReceiver" "position" "LSeaReceiver$Position;" ∈ sv_w := sv_m1 173 rfl rfl
theorem kw_372 : Cond.classLink RX8 46 RX3 ∈ sv_w := sv_m1 117 rfl rfl
theorem kw_373 : Cond.instantiable RX3 3 ∈ sv_w := sv_m1 118 rfl rfl
theorem kw_374 : Cond.initialized RX3 ∈ sv_w := sv_m1 7 rfl rfl
theorem kw_375 : Cond.fieldLink RX8 49 "SeaReceiver" "parts" "LSeaReceiver$Parts;" ∈ sv_w := sv_m1 174 rfl rfl
theorem kw_376 : Cond.classLink RX8 53 RX0 ∈ sv_w := sv_m1 135 rfl rfl
theorem kw_377 : Cond.fieldLink RX8 56 "SeaReceiver" "message" "LSeaReceiver$BitRow;" ∈ sv_w := sv_m1 175 rfl rfl
theorem kw_378 : Cond.classLink RX8 60 RX2 ∈ sv_w := sv_m1 152 rfl rfl
theorem kw_379 : Cond.instantiable RX2 2 ∈ sv_w := sv_m1 153 rfl rfl
theorem kw_380 : Cond.fieldLink RX8 63 "SeaReceiver" "fleet" "LSeaReceiver$Fleet;" ∈ sv_w := sv_m1 176 rfl rfl
theorem kw_381 : Cond.fieldLink RX8 67 "SeaReceiver" "report" "LSeaReceiver$BitRow;" ∈ sv_w := sv_m1 177 rfl rfl
theorem kw_382 : Cond.methodLink RX8 15 yX6_init ∈ sv_w := sv_m1 33 rfl rfl
theorem kw_383 : Cond.instanceMethod yX6_init ∈ sv_w := sv_m1 34 rfl rfl
theorem kw_384 : Cond.code yX6_init cX6_init 2 none ∈ sv_w := sv_m1 35 rfl rfl
theorem kw_385 : Cond.instanceMethod yX5_init ∈ sv_w := sv_m1 50 rfl rfl
theorem kw_386 : Cond.code yX5_init cX5_init 1 none ∈ sv_w := sv_m1 51 rfl rfl
theorem kw_387 : Cond.instanceMethod yX1_init ∈ sv_w := sv_m1 79 rfl rfl
theorem kw_388 : Cond.code yX1_init cX1_init 1 none ∈ sv_w := sv_m1 80 rfl rfl
theorem kw_389 : Cond.methodLink RX8 41 yX4_init ∈ sv_w := sv_m1 101 rfl rfl
theorem kw_390 : Cond.instanceMethod yX4_init ∈ sv_w := sv_m1 102 rfl rfl
theorem kw_391 : Cond.code yX4_init cX4_init 1 none ∈ sv_w := sv_m1 103 rfl rfl
theorem kw_392 : Cond.instanceMethod yX3_init ∈ sv_w := sv_m1 120 rfl rfl
theorem kw_393 : Cond.code yX3_init cX3_init 1 none ∈ sv_w := sv_m1 121 rfl rfl
theorem kw_394 : Cond.methodLink RX8 55 yX0_init ∈ sv_w := sv_m1 137 rfl rfl
theorem kw_395 : Cond.instanceMethod yX2_init ∈ sv_w := sv_m1 155 rfl rfl
theorem kw_396 : Cond.code yX2_init cX2_init 1 none ∈ sv_w := sv_m1 156 rfl rfl
theorem kw_397 : Cond.constant RX8 74 (-2147483648) ∈ sv_w := sv_m1 207 rfl rfl
theorem kw_398 : Cond.fieldLink RX8 78 "SeaReceiver$SignRow" "size" "I" ∈ sv_w := sv_m1 39 rfl rfl
theorem kw_399 : Cond.methodLink RX8 70 yX6_hasRoom ∈ sv_w := sv_m1 203 rfl rfl
theorem kw_400 : Cond.instanceMethod yX6_hasRoom ∈ sv_w := sv_m1 204 rfl rfl
theorem kw_401 : Cond.selects RX6 yX6_hasRoom yX6_hasRoom ∈ sv_w := sv_m1 205 rfl rfl
theorem kw_402 : Cond.code yX6_hasRoom cX6_hasRoom 2 (some .boolean) ∈ sv_w := sv_m1 206 rfl rfl
theorem kw_403 : Cond.methodLink RX8 75 yX6_addWord ∈ sv_w := sv_m1 208 rfl rfl
theorem kw_404 : Cond.instanceMethod yX6_addWord ∈ sv_w := sv_m1 209 rfl rfl
theorem kw_405 : Cond.selects RX6 yX6_addWord yX6_addWord ∈ sv_w := sv_m1 210 rfl rfl
theorem kw_406 : Cond.code yX6_addWord cX6_addWord 2 none ∈ sv_w := sv_m1 211 rfl rfl
theorem kw_407 : Cond.methodLink RX8 247 yX3_drop ∈ sv_w := sv_m3 38 rfl rfl
theorem kw_408 : Cond.instanceMethod yX3_drop ∈ sv_w := sv_m3 39 rfl rfl
theorem kw_409 : Cond.selects RX3 yX3_drop yX3_drop ∈ sv_w := sv_m3 40 rfl rfl
theorem kw_410 : Cond.code yX3_drop cX3_drop 2 (some .boolean) ∈ sv_w := sv_m3 41 rfl rfl
theorem kw_411 : Cond.methodLink RX8 253 yX3_awaits ∈ sv_w := sv_m3 42 rfl rfl
theorem kw_412 : Cond.instanceMethod yX3_awaits ∈ sv_w := sv_m3 43 rfl rfl
theorem kw_413 : Cond.selects RX3 yX3_awaits yX3_awaits ∈ sv_w := sv_m3 44 rfl rfl
theorem kw_414 : Cond.code yX3_awaits cX3_awaits 4 (some .boolean) ∈ sv_w := sv_m3 45 rfl rfl
theorem kw_415 : Cond.fieldLink RX8 132 "SeaReceiver$BitRow" "length" "I" ∈ sv_w := sv_m1 144 rfl rfl
theorem kw_416 : Cond.methodLink RX8 137 yX0_read ∈ sv_w := sv_m3 72 rfl rfl
theorem kw_417 : Cond.methodLink RX8 256 yX7_bitsOf ∈ sv_w := sv_m3 77 rfl rfl
theorem kw_418 : Cond.static yX7_bitsOf ∈ sv_w := sv_m3 78 rfl rfl
theorem kw_419 : Cond.code yX7_bitsOf cX7_bitsOf 1 (some .int) ∈ sv_w := sv_m3 79 rfl rfl
theorem kw_420 : Cond.methodLink RX8 259 yX2_vesselOf ∈ sv_w := sv_m3 80 rfl rfl
theorem kw_421 : Cond.instanceMethod yX2_vesselOf ∈ sv_w := sv_m3 81 rfl rfl
theorem kw_422 : Cond.selects RX2 yX2_vesselOf yX2_vesselOf ∈ sv_w := sv_m3 82 rfl rfl
theorem kw_423 : Cond.code yX2_vesselOf cX2_vesselOf 3 (some (.object "SeaReceiver$Vessel")) ∈ sv_w := sv_m3 83 rfl rfl
theorem kw_424 : Cond.methodLink RX8 262 yX7_learn ∈ sv_w := sv_m3 113 rfl rfl
theorem kw_425 : Cond.instanceMethod yX7_learn ∈ sv_w := sv_m3 114 rfl rfl
theorem kw_426 : Cond.selects RX7 yX7_learn yX7_learn ∈ sv_w := sv_m3 115 rfl rfl
theorem kw_427 : Cond.code yX7_learn cX7_learn 9 none ∈ sv_w := sv_m3 116 rfl rfl
theorem kw_428 : Cond.fieldLink RX8 208 "SeaReceiver$Fields" "many" "I" ∈ sv_w := sv_m1 86 rfl rfl
theorem kw_429 : Cond.fieldLink RX8 227 "SeaReceiver$Fields" "good" "Z" ∈ sv_w := sv_m1 89 rfl rfl
theorem kw_430 : Cond.methodLink RX8 211 yX1_digit ∈ sv_w := sv_m3 26 rfl rfl
theorem kw_431 : Cond.methodLink RX8 215 yX1_isEmpty ∈ sv_w := sv_m3 27 rfl rfl
theorem kw_432 : Cond.methodLink RX8 220 yX1_oneOf ∈ sv_w := sv_m3 29 rfl rfl
theorem kw_433 : Cond.methodLink RX8 224 yX1_checkPack ∈ sv_w := sv_m3 30 rfl rfl
theorem kw_434 : Cond.instanceMethod yX1_checkPack ∈ sv_w := sv_m3 31 rfl rfl
theorem kw_435 : Cond.selects RX1 yX1_checkPack yX1_checkPack ∈ sv_w := sv_m3 32 rfl rfl
theorem kw_436 : Cond.code yX1_checkPack cX1_checkPack 6 none ∈ sv_w := sv_m3 33 rfl rfl
theorem kw_437 : Cond.methodLink RX8 231 yX8_isInOrder ∈ sv_w := sv_m3 34 rfl rfl
theorem kw_438 : Cond.instanceMethod yX8_isInOrder ∈ sv_w := sv_m3 36 rfl rfl
theorem kw_439 : Cond.selects RX8 yX8_isInOrder yX8_isInOrder ∈ sv_w := sv_p2 0 rfl rfl
theorem kw_440 : Cond.initialized RX8 ∈ sv_w := sv_m1 1 rfl rfl
theorem kw_441 : Cond.code yX8_isInOrder cX8_isInOrder 4 (some .boolean) ∈ sv_w := sv_m3 37 rfl rfl
theorem kw_442 : Cond.methodLink RX8 235 yX3_keep ∈ sv_w := sv_m3 46 rfl rfl
theorem kw_443 : Cond.instanceMethod yX3_keep ∈ sv_w := sv_m3 47 rfl rfl
theorem kw_444 : Cond.selects RX3 yX3_keep yX3_keep ∈ sv_w := sv_m3 48 rfl rfl
theorem kw_445 : Cond.code yX3_keep cX3_keep 4 (some (.object "SeaReceiver$BitRow")) ∈ sv_w := sv_m3 49 rfl rfl
theorem kw_446 : Cond.methodLink RX8 239 yX1_unpack ∈ sv_w := sv_m3 56 rfl rfl
theorem kw_447 : Cond.instanceMethod yX1_unpack ∈ sv_w := sv_m3 57 rfl rfl
theorem kw_448 : Cond.selects RX1 yX1_unpack yX1_unpack ∈ sv_w := sv_m3 58 rfl rfl
theorem kw_449 : Cond.code yX1_unpack cX1_unpack 8 none ∈ sv_w := sv_m3 59 rfl rfl
theorem kw_450 : Cond.methodLink RX8 243 yX0_copy ∈ sv_w := sv_m3 64 rfl rfl
theorem kw_451 : Cond.instanceMethod yX0_copy ∈ sv_w := sv_m3 65 rfl rfl
theorem kw_452 : Cond.selects RX0 yX0_copy yX0_copy ∈ sv_w := sv_m3 66 rfl rfl
theorem kw_453 : Cond.code yX0_copy cX0_copy 3 none ∈ sv_w := sv_m3 67 rfl rfl
theorem kw_454 : Cond.methodLink RX8 250 yX8_receive ∈ sv_w := sv_m3 68 rfl rfl
theorem kw_455 : Cond.instanceMethod yX8_receive ∈ sv_w := sv_m3 70 rfl rfl
theorem kw_456 : Cond.selects RX8 yX8_receive yX8_receive ∈ sv_w := sv_p2 1 rfl rfl
theorem kw_457 : Cond.code yX8_receive cX8_receive 3 none ∈ sv_w := sv_m3 71 rfl rfl
theorem kw_458 : Cond.fieldLink RX8 178 "SeaReceiver$Sentence" "sum" "I" ∈ sv_w := sv_m1 60 rfl rfl
theorem kw_459 : Cond.fieldLink RX8 181 "SeaReceiver$Sentence" "toldSum" "I" ∈ sv_w := sv_m1 62 rfl rfl
theorem kw_460 : Cond.fieldLink RX8 188 "SeaReceiver$Sentence" "start" "I" ∈ sv_w := sv_m1 56 rfl rfl
theorem kw_461 : Cond.methodLink RX8 184 yX1_split ∈ sv_w := sv_m2 13 rfl rfl
theorem kw_462 : Cond.instanceMethod yX1_split ∈ sv_w := sv_m2 14 rfl rfl
theorem kw_463 : Cond.selects RX1 yX1_split yX1_split ∈ sv_w := sv_m2 15 rfl rfl
theorem kw_464 : Cond.code yX1_split cX1_split 5 none ∈ sv_w := sv_m2 16 rfl rfl
theorem kw_465 : Cond.methodLink RX8 191 yX1_form ∈ sv_w := sv_m2 22 rfl rfl
theorem kw_466 : Cond.instanceMethod yX1_form ∈ sv_w := sv_m2 23 rfl rfl
theorem kw_467 : Cond.selects RX1 yX1_form yX1_form ∈ sv_w := sv_m2 24 rfl rfl
theorem kw_468 : Cond.code yX1_form cX1_form 4 (some .int) ∈ sv_w := sv_m2 25 rfl rfl
theorem kw_469 : Cond.methodLink RX8 194 yX4_takeGga ∈ sv_w := sv_m2 79 rfl rfl
theorem kw_470 : Cond.instanceMethod yX4_takeGga ∈ sv_w := sv_m2 80 rfl rfl
theorem kw_471 : Cond.selects RX4 yX4_takeGga yX4_takeGga ∈ sv_w := sv_m2 81 rfl rfl
theorem kw_472 : Cond.code yX4_takeGga cX4_takeGga 2 (some .boolean) ∈ sv_w := sv_m2 82 rfl rfl
theorem kw_473 : Cond.methodLink RX8 198 yX4_takeRmc ∈ sv_w := sv_m2 163 rfl rfl
theorem kw_474 : Cond.instanceMethod yX4_takeRmc ∈ sv_w := sv_m2 164 rfl rfl
theorem kw_475 : Cond.selects RX4 yX4_takeRmc yX4_takeRmc ∈ sv_w := sv_m2 165 rfl rfl
theorem kw_476 : Cond.code yX4_takeRmc cX4_takeRmc 2 (some .boolean) ∈ sv_w := sv_m2 166 rfl rfl
theorem kw_477 : Cond.methodLink RX8 201 yX4_takeVtg ∈ sv_w := sv_m3 16 rfl rfl
theorem kw_478 : Cond.instanceMethod yX4_takeVtg ∈ sv_w := sv_m3 17 rfl rfl
theorem kw_479 : Cond.selects RX4 yX4_takeVtg yX4_takeVtg ∈ sv_w := sv_m3 18 rfl rfl
theorem kw_480 : Cond.code yX4_takeVtg cX4_takeVtg 2 (some .boolean) ∈ sv_w := sv_m3 19 rfl rfl
theorem kw_481 : Cond.methodLink RX8 204 yX8_takePart ∈ sv_w := sv_m3 22 rfl rfl
theorem kw_482 : Cond.instanceMethod yX8_takePart ∈ sv_w := sv_m3 24 rfl rfl
theorem kw_483 : Cond.selects RX8 yX8_takePart yX8_takePart ∈ sv_w := sv_p1 15 rfl rfl
theorem kw_484 : Cond.code yX8_takePart cX8_takePart 6 (some .boolean) ∈ sv_w := sv_m3 25 rfl rfl
theorem kw_485 : Cond.methodLink RX8 82 yX6_at ∈ sv_w := sv_m1 224 rfl rfl
theorem kw_486 : Cond.instanceMethod yX6_at ∈ sv_w := sv_m1 225 rfl rfl
theorem kw_487 : Cond.selects RX6 yX6_at yX6_at ∈ sv_w := sv_m1 226 rfl rfl
theorem kw_488 : Cond.code yX6_at cX6_at 2 (some .int) ∈ sv_w := sv_m1 227 rfl rfl
theorem kw_489 : Cond.methodLink RX8 86 yX5_hear ∈ sv_w := sv_m1 229 rfl rfl
theorem kw_490 : Cond.instanceMethod yX5_hear ∈ sv_w := sv_m1 230 rfl rfl
theorem kw_491 : Cond.selects RX5 yX5_hear yX5_hear ∈ sv_w := sv_m1 231 rfl rfl
theorem kw_492 : Cond.code yX5_hear cX5_hear 2 (some .int) ∈ sv_w := sv_m1 232 rfl rfl
theorem kw_493 : Cond.methodLink RX8 89 yX8_judge ∈ sv_w := sv_m2 9 rfl rfl
theorem kw_494 : Cond.instanceMethod yX8_judge ∈ sv_w := sv_m2 11 rfl rfl
theorem kw_495 : Cond.selects RX8 yX8_judge yX8_judge ∈ sv_w := sv_p1 4 rfl rfl
theorem kw_496 : Cond.code yX8_judge cX8_judge 2 (some .int) ∈ sv_w := sv_m2 12 rfl rfl
theorem kw_497 : Cond.fieldLink RX8 93 "SeaReceiver$Fleet" "size" "I" ∈ sv_w := sv_m1 162 rfl rfl
theorem kw_498 : Cond.methodLink RX8 94 yX5_underWay ∈ sv_w := sv_m3 140 rfl rfl
theorem kw_499 : Cond.instanceMethod yX5_underWay ∈ sv_w := sv_m3 141 rfl rfl
theorem kw_500 : Cond.selects RX5 yX5_underWay yX5_underWay ∈ sv_w := sv_m3 142 rfl rfl
theorem kw_501 : Cond.code yX5_underWay cX5_underWay 1 (some .int) ∈ sv_w := sv_m3 143 rfl rfl
theorem kw_502 : Cond.methodLink RX8 97 yX3_keptInAll ∈ sv_w := sv_m3 144 rfl rfl
theorem kw_503 : Cond.instanceMethod yX3_keptInAll ∈ sv_w := sv_m3 145 rfl rfl
theorem kw_504 : Cond.selects RX3 yX3_keptInAll yX3_keptInAll ∈ sv_w := sv_m3 146 rfl rfl
theorem kw_505 : Cond.code yX3_keptInAll cX3_keptInAll 3 (some .int) ∈ sv_w := sv_m3 147 rfl rfl
theorem kw_506 : Cond.classLink RX8 100 "java/util/NoSuchElementException" ∈ sv_w := sv_m3 201 rfl rfl
theorem kw_507 : Cond.initialized "java/util/NoSuchElementException" ∈ sv_w := sv_m1 21 rfl rfl
theorem kw_508 : Cond.fieldLink RX8 107 "SeaReceiver$Position" "told" "[I" ∈ sv_w := sv_m1 110 rfl rfl
theorem kw_511 : Cond.methodLink RX8 110 yX2_numberOf ∈ sv_w := sv_m3 152 rfl rfl
theorem kw_512 : Cond.fieldLink RX8 120 "SeaReceiver$Vessel" "values" "[I" ∈ sv_w := sv_m3 96 rfl rfl
theorem kw_513 : Cond.fieldLink RX8 125 "SeaReceiver$Vessel" "lengths" "[I" ∈ sv_w := sv_m3 98 rfl rfl
theorem kw_514 : Cond.methodLink RX8 113 yX2_at ∈ sv_w := sv_m3 157 rfl rfl
theorem kw_515 : Cond.instanceMethod yX2_at ∈ sv_w := sv_m3 158 rfl rfl
theorem kw_516 : Cond.selects RX2 yX2_at yX2_at ∈ sv_w := sv_m3 159 rfl rfl
theorem kw_517 : Cond.code yX2_at cX2_at 2 (some (.object "SeaReceiver$Vessel")) ∈ sv_w := sv_m3 160 rfl rfl
theorem kw_518 : Cond.methodLink RX8 128 yX7_signOf ∈ sv_w := sv_m3 161 rfl rfl
theorem kw_519 : Cond.methodLink RX8 161 yX6_add ∈ sv_w := sv_m3 173 rfl rfl
theorem kw_520 : Cond.methodLink RX8 275 yX8_sixteen ∈ sv_w := sv_m4 97 rfl rfl
theorem kw_521 : Cond.static yX8_sixteen ∈ sv_w := sv_m4 98 rfl rfl
theorem kw_522 : Cond.code yX8_sixteen cX8_sixteen 1 (some .int) ∈ sv_w := sv_m4 99 rfl rfl
theorem kw_523 : Cond.methodLink RX8 267 yX6_addText ∈ sv_w := sv_m4 86 rfl rfl
theorem kw_524 : Cond.instanceMethod yX6_addText ∈ sv_w := sv_m4 87 rfl rfl
theorem kw_525 : Cond.selects RX6 yX6_addText yX6_addText ∈ sv_w := sv_m4 88 rfl rfl
theorem kw_526 : Cond.code yX6_addText cX6_addText 3 none ∈ sv_w := sv_m4 89 rfl rfl
theorem kw_527 : Cond.methodLink RX8 272 yX8_closeSentence ∈ sv_w := sv_m4 93 rfl rfl
theorem kw_528 : Cond.instanceMethod yX8_closeSentence ∈ sv_w := sv_m4 95 rfl rfl
theorem kw_529 : Cond.selects RX8 yX8_closeSentence yX8_closeSentence ∈ sv_w := sv_p2 6 rfl rfl
theorem kw_530 : Cond.code yX8_closeSentence cX8_closeSentence 4 none ∈ sv_w := sv_m4 96 rfl rfl
theorem kw_531 : Cond.classLink RX8 140 "java/lang/IllegalArgumentException" ∈ sv_w := sv_m4 52 rfl rfl
theorem kw_532 : Cond.initialized "java/lang/IllegalArgumentException" ∈ sv_w := sv_m1 22 rfl rfl
theorem kw_533 : Cond.methodLink RX8 147 yX7_tell ∈ sv_w := sv_m4 69 rfl rfl
theorem kw_534 : Cond.instanceMethod yX7_tell ∈ sv_w := sv_m4 70 rfl rfl
theorem kw_535 : Cond.selects RX7 yX7_tell yX7_tell ∈ sv_w := sv_m4 71 rfl rfl
theorem kw_536 : Cond.code yX7_tell cX7_tell 8 none ∈ sv_w := sv_m4 72 rfl rfl
theorem kw_537 : Cond.methodLink RX8 153 yX8_writeSentence ∈ sv_w := sv_m4 81 rfl rfl
theorem kw_538 : Cond.instanceMethod yX8_writeSentence ∈ sv_w := sv_m4 83 rfl rfl
theorem kw_539 : Cond.selects RX8 yX8_writeSentence yX8_writeSentence ∈ sv_w := sv_p2 5 rfl rfl
theorem kw_540 : Cond.code yX8_writeSentence cX8_writeSentence 8 none ∈ sv_w := sv_m4 84 rfl rfl
theorem kw_541 : Cond.methodLink RX8 164 yJ7_fill_53178 ∈ sv_w := sv_m3 178 rfl rfl
theorem kw_542 : Cond.methodLink RX8 170 yX5_forget ∈ sv_w := sv_m3 179 rfl rfl
theorem kw_543 : Cond.instanceMethod yX5_forget ∈ sv_w := sv_m3 180 rfl rfl
theorem kw_544 : Cond.selects RX5 yX5_forget yX5_forget ∈ sv_w := sv_m3 181 rfl rfl
theorem kw_545 : Cond.code yX5_forget cX5_forget 1 none ∈ sv_w := sv_m3 182 rfl rfl
theorem kw_546 : Cond.methodLink RX8 173 yX4_forget ∈ sv_w := sv_m3 183 rfl rfl
theorem kw_547 : Cond.instanceMethod yX4_forget ∈ sv_w := sv_m3 184 rfl rfl
theorem kw_548 : Cond.selects RX4 yX4_forget yX4_forget ∈ sv_w := sv_m3 185 rfl rfl
theorem kw_549 : Cond.code yX4_forget cX4_forget 1 none ∈ sv_w := sv_m3 186 rfl rfl
theorem kw_550 : Cond.methodLink RX8 174 yX3_forget ∈ sv_w := sv_m3 187 rfl rfl
theorem kw_551 : Cond.instanceMethod yX3_forget ∈ sv_w := sv_m3 188 rfl rfl
theorem kw_552 : Cond.selects RX3 yX3_forget yX3_forget ∈ sv_w := sv_m3 189 rfl rfl
theorem kw_553 : Cond.code yX3_forget cX3_forget 1 none ∈ sv_w := sv_m3 190 rfl rfl
theorem kw_554 : Cond.methodLink RX8 175 yX0_empty ∈ sv_w := sv_m3 192 rfl rfl
theorem kw_555 : Cond.fieldLink RX9 1 "SeaReceiverModel" "thrown" "I" ∈ sv_w := sv_m4 118 rfl rfl
theorem kw_556 : Cond.fieldLink RX9 90 "SeaReceiverModel" "may" "I" ∈ sv_w := sv_m4 123 rfl rfl
theorem kw_557 : Cond.fieldLink RX9 93 "SeaReceiverModel" "signs" "I" ∈ sv_w := sv_m4 125 rfl rfl
theorem kw_558 : Cond.fieldLink RX9 289 "SeaReceiverModel" "vessels" "I" ∈ sv_w := sv_m4 146 rfl rfl
theorem kw_559 : Cond.fieldLink RX9 280 "SeaReceiverModel" "hasMessage" "Z" ∈ sv_w := sv_m4 145 rfl rfl
theorem kw_560 : Cond.fieldLink RX9 23 "SeaReceiverModel" "many" "[I" ∈ sv_w := sv_m4 128 rfl rfl
theorem kw_561 : Cond.fieldLink RX9 35 "SeaReceiverModel" "fix" "[I" ∈ sv_w := sv_m4 134 rfl rfl
theorem kw_562 : Cond.constant RX9 73 (-2147483648) ∈ sv_w := sv_m4 117 rfl rfl
theorem kw_563 : Cond.fieldLink RX9 41 "SeaReceiverModel" "came" "[I" ∈ sv_w := sv_m4 140 rfl rfl
theorem kw_564 : Cond.fieldLink RX9 44 "SeaReceiverModel" "long1" "[I" ∈ sv_w := sv_m4 141 rfl rfl
theorem kw_565 : Cond.methodLink RX9 7 objectInit ∈ sv_w := sv_m4 111 rfl rfl
theorem kw_566 : Cond.fieldLink RX9 13 "SeaReceiverModel" "tape" "[I" ∈ sv_w := sv_m4 119 rfl rfl
theorem kw_567 : Cond.fieldLink RX9 17 "SeaReceiverModel" "out" "[I" ∈ sv_w := sv_m4 121 rfl rfl
theorem kw_568 : Cond.fieldLink RX9 20 "SeaReceiverModel" "sign" "[I" ∈ sv_w := sv_m4 124 rfl rfl
theorem kw_569 : Cond.fieldLink RX9 26 "SeaReceiverModel" "from" "[I" ∈ sv_w := sv_m4 129 rfl rfl
theorem kw_570 : Cond.fieldLink RX9 29 "SeaReceiverModel" "to" "[I" ∈ sv_w := sv_m4 130 rfl rfl
theorem kw_571 : Cond.fieldLink RX9 32 "SeaReceiverModel" "value" "[I" ∈ sv_w := sv_m4 133 rfl rfl
theorem kw_572 : Cond.fieldLink RX9 38 "SeaReceiverModel" "ofMany" "[I" ∈ sv_w := sv_m4 139 rfl rfl
theorem kw_573 : Cond.constant RX9 47 (35640) ∈ sv_w := sv_m4 112 rfl rfl
theorem kw_574 : Cond.arrayClass .boolean ∈ sv_w := sv_m4 233 rfl rfl
theorem kw_575 : Cond.fieldLink RX9 48 "SeaReceiverModel" "kept" "[Z" ∈ sv_w := sv_m4 142 rfl rfl
theorem kw_576 : Cond.fieldLink RX9 52 "SeaReceiverModel" "bit" "[Z" ∈ sv_w := sv_m4 143 rfl rfl
theorem kw_577 : Cond.fieldLink RX9 55 "SeaReceiverModel" "row" "[I" ∈ sv_w := sv_m4 147 rfl rfl
theorem kw_578 : Cond.fieldLink RX9 58 "SeaReceiverModel" "text" "[I" ∈ sv_w := sv_m4 148 rfl rfl
theorem kw_579 : Cond.fieldLink RX9 61 "SeaReceiverModel" "textLong" "[I" ∈ sv_w := sv_m4 149 rfl rfl
theorem kw_580 : Cond.fieldLink RX9 64 "SeaReceiverModel" "sent" "[Z" ∈ sv_w := sv_m4 153 rfl rfl
theorem kw_581 : Cond.methodLink RX9 67 yX9_forget ∈ sv_w := sv_m4 113 rfl rfl
theorem kw_582 : Cond.instanceMethod yX9_forget ∈ sv_w := sv_m4 115 rfl rfl
theorem kw_583 : Cond.selects RX9 yX9_forget yX9_forget ∈ sv_w := sv_p2 7 rfl rfl
theorem kw_584 : Cond.initialized RX9 ∈ sv_w := sv_m1 10 rfl rfl
theorem kw_585 : Cond.code yX9_forget cX9_forget 2 none ∈ sv_w := sv_m4 116 rfl rfl
theorem kw_586 : Cond.fieldLink RX9 70 "SeaReceiverModel" "taped" "I" ∈ sv_w := sv_m4 120 rfl rfl
theorem kw_587 : Cond.methodLink RX9 74 yX9_in ∈ sv_w := sv_m5 2 rfl rfl
theorem kw_588 : Cond.static yX9_in ∈ sv_w := sv_m5 3 rfl rfl
theorem kw_589 : Cond.code yX9_in cX9_in 6 (some .boolean) ∈ sv_w := sv_m5 4 rfl rfl
theorem kw_590 : Cond.constantLong RX9 78 (48) ∈ sv_w := sv_m5 18 rfl rfl
theorem kw_591 : Cond.constantLong RX9 80 (57) ∈ sv_w := sv_m5 19 rfl rfl
theorem kw_592 : Cond.constantLong RX9 82 (65) ∈ sv_w := sv_m5 20 rfl rfl
theorem kw_593 : Cond.constantLong RX9 84 (70) ∈ sv_w := sv_m5 21 rfl rfl
theorem kw_594 : Cond.methodLink RX9 127 yJ0_charAt_5068e ∈ sv_w := sv_m5 36 rfl rfl
theorem kw_595 : Cond.constantLong RX9 133 (90) ∈ sv_w := sv_m5 30 rfl rfl
theorem kw_596 : Cond.methodLink RX9 137 yX9_ends ∈ sv_w := sv_m5 32 rfl rfl
theorem kw_597 : Cond.instanceMethod yX9_ends ∈ sv_w := sv_m5 34 rfl rfl
theorem kw_598 : Cond.selects RX9 yX9_ends yX9_ends ∈ sv_w := sv_p2 11 rfl rfl
theorem kw_599 : Cond.code yX9_ends cX9_ends 2 (some .boolean) ∈ sv_w := sv_m5 35 rfl rfl
theorem kw_600 : Cond.methodLink RX9 153 yX9_size ∈ sv_w := sv_m5 53 rfl rfl
theorem kw_601 : Cond.instanceMethod yX9_size ∈ sv_w := sv_m5 55 rfl rfl
theorem kw_602 : Cond.selects RX9 yX9_size yX9_size ∈ sv_w := sv_p2 15 rfl rfl
theorem kw_603 : Cond.code yX9_size cX9_size 2 (some .int) ∈ sv_w := sv_m5 56 rfl rfl
theorem kw_604 : Cond.methodLink RX9 156 yX9_at ∈ sv_w := sv_m5 61 rfl rfl
theorem kw_605 : Cond.instanceMethod yX9_at ∈ sv_w := sv_m5 63 rfl rfl
theorem kw_606 : Cond.selects RX9 yX9_at yX9_at ∈ sv_w := sv_p3 1 rfl rfl
theorem kw_607 : Cond.code yX9_at cX9_at 3 (some .int) ∈ sv_w := sv_m5 64 rfl rfl
theorem kw_608 : Cond.methodLink RX9 160 yX9_isDigit ∈ sv_w := sv_m5 65 rfl rfl
theorem kw_609 : Cond.static yX9_isDigit ∈ sv_w := sv_m5 66 rfl rfl
theorem kw_610 : Cond.code yX9_isDigit cX9_isDigit 1 (some .boolean) ∈ sv_w := sv_m5 67 rfl rfl
theorem kw_611 : Cond.fieldLink RX9 149 "SeaReceiverModel" "good" "Z" ∈ sv_w := sv_m4 132 rfl rfl
theorem kw_612 : Cond.methodLink RX9 163 yX9_digits ∈ sv_w := sv_m5 57 rfl rfl
theorem kw_613 : Cond.instanceMethod yX9_digits ∈ sv_w := sv_m5 59 rfl rfl
theorem kw_614 : Cond.selects RX9 yX9_digits yX9_digits ∈ sv_w := sv_p3 0 rfl rfl
theorem kw_615 : Cond.code yX9_digits cX9_digits 4 (some .int) ∈ sv_w := sv_m5 60 rfl rfl
theorem kw_616 : Cond.methodLink RX9 166 yX9_bad ∈ sv_w := sv_m5 68 rfl rfl
theorem kw_617 : Cond.instanceMethod yX9_bad ∈ sv_w := sv_m5 70 rfl rfl
theorem kw_618 : Cond.selects RX9 yX9_bad yX9_bad ∈ sv_w := sv_p3 2 rfl rfl
theorem kw_619 : Cond.code yX9_bad cX9_bad 1 (some .int) ∈ sv_w := sv_m5 71 rfl rfl
theorem kw_620 : Cond.methodLink RX9 173 yX9_whole ∈ sv_w := sv_m5 72 rfl rfl
theorem kw_621 : Cond.instanceMethod yX9_whole ∈ sv_w := sv_m5 74 rfl rfl
theorem kw_622 : Cond.selects RX9 yX9_whole yX9_whole ∈ sv_w := sv_p3 3 rfl rfl
theorem kw_623 : Cond.code yX9_whole cX9_whole 6 (some .int) ∈ sv_w := sv_m5 75 rfl rfl
theorem kw_624 : Cond.methodLink RX9 169 yX9_behind ∈ sv_w := sv_m5 76 rfl rfl
theorem kw_625 : Cond.instanceMethod yX9_behind ∈ sv_w := sv_m5 78 rfl rfl
theorem kw_626 : Cond.selects RX9 yX9_behind yX9_behind ∈ sv_w := sv_p3 4 rfl rfl
theorem kw_627 : Cond.code yX9_behind cX9_behind 8 (some .int) ∈ sv_w := sv_m5 79 rfl rfl
theorem kw_628 : Cond.methodLink RX9 187 yJ0_length_8abf5 ∈ sv_w := sv_m5 94 rfl rfl
theorem kw_629 : Cond.methodLink RX9 190 yX9_one ∈ sv_w := sv_m5 90 rfl rfl
theorem kw_630 : Cond.instanceMethod yX9_one ∈ sv_w := sv_m5 92 rfl rfl
theorem kw_631 : Cond.selects RX9 yX9_one yX9_one ∈ sv_w := sv_p3 7 rfl rfl
theorem kw_632 : Cond.code yX9_one cX9_one 5 (some .int) ∈ sv_w := sv_m5 93 rfl rfl
theorem kw_633 : Cond.constant RX9 194 (600000) ∈ sv_w := sv_m5 85 rfl rfl
theorem kw_634 : Cond.methodLink RX9 195 yX9_sided ∈ sv_w := sv_m5 86 rfl rfl
theorem kw_635 : Cond.instanceMethod yX9_sided ∈ sv_w := sv_m5 88 rfl rfl
theorem kw_636 : Cond.selects RX9 yX9_sided yX9_sided ∈ sv_w := sv_p3 6 rfl rfl
theorem kw_637 : Cond.code yX9_sided cX9_sided 5 (some .int) ∈ sv_w := sv_m5 89 rfl rfl
theorem kw_638 : Cond.methodLink RX9 177 yX9_ten ∈ sv_w := sv_m5 104 rfl rfl
theorem kw_639 : Cond.static yX9_ten ∈ sv_w := sv_m5 105 rfl rfl
theorem kw_640 : Cond.code yX9_ten cX9_ten 3 (some .int) ∈ sv_w := sv_m5 106 rfl rfl
theorem kw_641 : Cond.methodLink RX9 211 yX9_time ∈ sv_w := sv_m5 49 rfl rfl
theorem kw_642 : Cond.instanceMethod yX9_time ∈ sv_w := sv_m5 51 rfl rfl
theorem kw_643 : Cond.selects RX9 yX9_time yX9_time ∈ sv_w := sv_p2 14 rfl rfl
theorem kw_644 : Cond.code yX9_time cX9_time 6 (some .int) ∈ sv_w := sv_m5 52 rfl rfl
theorem kw_645 : Cond.methodLink RX9 216 yX9_place ∈ sv_w := sv_m5 81 rfl rfl
theorem kw_646 : Cond.instanceMethod yX9_place ∈ sv_w := sv_m5 83 rfl rfl
theorem kw_647 : Cond.selects RX9 yX9_place yX9_place ∈ sv_w := sv_p3 5 rfl rfl
theorem kw_648 : Cond.code yX9_place cX9_place 9 (some .int) ∈ sv_w := sv_m5 84 rfl rfl
theorem kw_649 : Cond.methodLink RX9 180 yX9_number ∈ sv_w := sv_m5 96 rfl rfl
theorem kw_650 : Cond.instanceMethod yX9_number ∈ sv_w := sv_m5 98 rfl rfl
theorem kw_651 : Cond.selects RX9 yX9_number yX9_number ∈ sv_w := sv_p3 8 rfl rfl
theorem kw_652 : Cond.code yX9_number cX9_number 3 (some .int) ∈ sv_w := sv_m5 99 rfl rfl
theorem kw_653 : Cond.methodLink RX9 222 yX9_decimal ∈ sv_w := sv_m5 100 rfl rfl
theorem kw_654 : Cond.instanceMethod yX9_decimal ∈ sv_w := sv_m5 102 rfl rfl
theorem kw_655 : Cond.selects RX9 yX9_decimal yX9_decimal ∈ sv_w := sv_p3 9 rfl rfl
theorem kw_656 : Cond.code yX9_decimal cX9_decimal 9 (some .int) ∈ sv_w := sv_m5 103 rfl rfl
theorem kw_657 : Cond.methodLink RX9 228 yX9_measured ∈ sv_w := sv_m5 108 rfl rfl
theorem kw_658 : Cond.instanceMethod yX9_measured ∈ sv_w := sv_m5 110 rfl rfl
theorem kw_659 : Cond.selects RX9 yX9_measured yX9_measured ∈ sv_w := sv_p3 10 rfl rfl
theorem kw_660 : Cond.code yX9_measured cX9_measured 5 (some .int) ∈ sv_w := sv_m5 111 rfl rfl
theorem kw_661 : Cond.constantLong RX9 183 (31) ∈ sv_w := sv_m5 126 rfl rfl
theorem kw_662 : Cond.constantLong RX9 185 (12) ∈ sv_w := sv_m5 127 rfl rfl
theorem kw_663 : Cond.constant RX9 233 (35999) ∈ sv_w := sv_m5 117 rfl rfl
theorem kw_664 : Cond.fieldLink RX9 113 "SeaReceiverModel" "fields" "I" ∈ sv_w := sv_m4 131 rfl rfl
theorem kw_665 : Cond.methodLink RX9 234 yX9_below ∈ sv_w := sv_m5 118 rfl rfl
theorem kw_666 : Cond.instanceMethod yX9_below ∈ sv_w := sv_m5 120 rfl rfl
theorem kw_667 : Cond.selects RX9 yX9_below yX9_below ∈ sv_w := sv_p3 12 rfl rfl
theorem kw_668 : Cond.code yX9_below cX9_below 3 (some .int) ∈ sv_w := sv_m5 121 rfl rfl
theorem kw_669 : Cond.methodLink RX9 237 yX9_date ∈ sv_w := sv_m5 122 rfl rfl
theorem kw_670 : Cond.instanceMethod yX9_date ∈ sv_w := sv_m5 124 rfl rfl
theorem kw_671 : Cond.selects RX9 yX9_date yX9_date ∈ sv_w := sv_p3 13 rfl rfl
theorem kw_672 : Cond.code yX9_date cX9_date 5 (some .int) ∈ sv_w := sv_m5 125 rfl rfl
theorem kw_673 : Cond.fieldLink RX9 248 "SeaReceiverModel" "parts" "I" ∈ sv_w := sv_m4 135 rfl rfl
theorem kw_674 : Cond.fieldLink RX9 251 "SeaReceiverModel" "which" "I" ∈ sv_w := sv_m4 136 rfl rfl
theorem kw_675 : Cond.fieldLink RX9 254 "SeaReceiverModel" "id" "I" ∈ sv_w := sv_m4 137 rfl rfl
theorem kw_676 : Cond.fieldLink RX9 259 "SeaReceiverModel" "fill" "I" ∈ sv_w := sv_m4 138 rfl rfl
theorem kw_677 : Cond.constantLong RX9 262 (60) ∈ sv_w := sv_m5 141 rfl rfl
theorem kw_678 : Cond.constantLong RX9 264 (87) ∈ sv_w := sv_m5 142 rfl rfl
theorem kw_679 : Cond.constantLong RX9 266 (96) ∈ sv_w := sv_m5 143 rfl rfl
theorem kw_680 : Cond.constantLong RX9 268 (119) ∈ sv_w := sv_m5 144 rfl rfl
theorem kw_681 : Cond.methodLink RX9 199 yX9_gga ∈ sv_w := sv_m5 45 rfl rfl
theorem kw_682 : Cond.instanceMethod yX9_gga ∈ sv_w := sv_m5 47 rfl rfl
theorem kw_683 : Cond.selects RX9 yX9_gga yX9_gga ∈ sv_w := sv_p2 13 rfl rfl
theorem kw_684 : Cond.code yX9_gga cX9_gga 1 none ∈ sv_w := sv_m5 48 rfl rfl
theorem kw_685 : Cond.methodLink RX9 202 yX9_rmc ∈ sv_w := sv_m5 112 rfl rfl
theorem kw_686 : Cond.instanceMethod yX9_rmc ∈ sv_w := sv_m5 114 rfl rfl
theorem kw_687 : Cond.selects RX9 yX9_rmc yX9_rmc ∈ sv_w := sv_p3 11 rfl rfl
theorem kw_688 : Cond.code yX9_rmc cX9_rmc 2 none ∈ sv_w := sv_m5 115 rfl rfl
theorem kw_689 : Cond.methodLink RX9 205 yX9_vtg ∈ sv_w := sv_m5 129 rfl rfl
theorem kw_690 : Cond.instanceMethod yX9_vtg ∈ sv_w := sv_m5 131 rfl rfl
theorem kw_691 : Cond.selects RX9 yX9_vtg yX9_vtg ∈ sv_w := sv_p3 14 rfl rfl
theorem kw_692 : Cond.code yX9_vtg cX9_vtg 1 none ∈ sv_w := sv_m5 132 rfl rfl
theorem kw_693 : Cond.methodLink RX9 208 yX9_part ∈ sv_w := sv_m5 136 rfl rfl
theorem kw_694 : Cond.instanceMethod yX9_part ∈ sv_w := sv_m5 138 rfl rfl
theorem kw_695 : Cond.selects RX9 yX9_part yX9_part ∈ sv_w := sv_p3 15 rfl rfl
theorem kw_696 : Cond.code yX9_part cX9_part 4 none ∈ sv_w := sv_m5 139 rfl rfl
theorem kw_697 : Cond.methodLink RX9 286 yX9_read ∈ sv_w := sv_m5 161 rfl rfl
theorem kw_698 : Cond.instanceMethod yX9_read ∈ sv_w := sv_m5 163 rfl rfl
theorem kw_699 : Cond.selects RX9 yX9_read yX9_read ∈ sv_w := sv_p4 4 rfl rfl
theorem kw_700 : Cond.code yX9_read cX9_read 5 (some .int) ∈ sv_w := sv_m5 164 rfl rfl
theorem kw_701 : Cond.fieldLink RX9 352 "SeaReceiverModel" "sents" "I" ∈ sv_w := sv_m4 154 rfl rfl
theorem kw_702 : Cond.fieldLink RX9 300 "SeaReceiverModel" "now" "I" ∈ sv_w := sv_m4 152 rfl rfl
theorem kw_703 : Cond.fieldLink RX9 303 "SeaReceiverModel" "writes" "Z" ∈ sv_w := sv_m4 151 rfl rfl
theorem kw_704 : Cond.fieldLink RX9 306 "SeaReceiverModel" "place" "I" ∈ sv_w := sv_m4 150 rfl rfl
theorem kw_705 : Cond.methodLink RX9 308 yX9_signed ∈ sv_w := sv_m5 178 rfl rfl
theorem kw_706 : Cond.instanceMethod yX9_signed ∈ sv_w := sv_m5 180 rfl rfl
theorem kw_707 : Cond.selects RX9 yX9_signed yX9_signed ∈ sv_w := sv_p4 8 rfl rfl
theorem kw_708 : Cond.code yX9_signed cX9_signed 3 (some .int) ∈ sv_w := sv_m5 181 rfl rfl
theorem kw_709 : Cond.methodLink RX9 311 yX9_put ∈ sv_w := sv_m5 182 rfl rfl
theorem kw_710 : Cond.instanceMethod yX9_put ∈ sv_w := sv_m5 184 rfl rfl
theorem kw_711 : Cond.selects RX9 yX9_put yX9_put ∈ sv_w := sv_p4 9 rfl rfl
theorem kw_712 : Cond.code yX9_put cX9_put 4 none ∈ sv_w := sv_m5 185 rfl rfl
theorem kw_713 : Cond.methodLink RX9 317 yX9_go ∈ sv_w := sv_m5 174 rfl rfl
theorem kw_714 : Cond.instanceMethod yX9_go ∈ sv_w := sv_m5 176 rfl rfl
theorem kw_715 : Cond.selects RX9 yX9_go yX9_go ∈ sv_w := sv_p4 7 rfl rfl
theorem kw_716 : Cond.code yX9_go cX9_go 5 none ∈ sv_w := sv_m5 177 rfl rfl
theorem kw_717 : Cond.methodLink RX9 314 yX9_room ∈ sv_w := sv_m5 206 rfl rfl
theorem kw_718 : Cond.static yX9_room ∈ sv_w := sv_m5 207 rfl rfl
theorem kw_719 : Cond.code yX9_room cX9_room 1 (some .int) ∈ sv_w := sv_m5 208 rfl rfl
theorem kw_720 : Cond.methodLink RX9 327 yX9_skip ∈ sv_w := sv_m5 194 rfl rfl
theorem kw_721 : Cond.instanceMethod yX9_skip ∈ sv_w := sv_m5 196 rfl rfl
theorem kw_722 : Cond.selects RX9 yX9_skip yX9_skip ∈ sv_w := sv_p4 12 rfl rfl
theorem kw_723 : Cond.code yX9_skip cX9_skip 2 none ∈ sv_w := sv_m5 197 rfl rfl
theorem kw_724 : Cond.methodLink RX9 333 yX9_words ∈ sv_w := sv_m5 202 rfl rfl
theorem kw_725 : Cond.instanceMethod yX9_words ∈ sv_w := sv_m5 204 rfl rfl
theorem kw_726 : Cond.selects RX9 yX9_words yX9_words ∈ sv_w := sv_p4 14 rfl rfl
theorem kw_727 : Cond.code yX9_words cX9_words 7 none ∈ sv_w := sv_m5 205 rfl rfl
theorem kw_728 : Cond.methodLink RX9 321 yX9_where ∈ sv_w := sv_m5 186 rfl rfl
theorem kw_729 : Cond.instanceMethod yX9_where ∈ sv_w := sv_m5 188 rfl rfl
theorem kw_730 : Cond.selects RX9 yX9_where yX9_where ∈ sv_w := sv_p4 10 rfl rfl
theorem kw_731 : Cond.code yX9_where cX9_where 1 none ∈ sv_w := sv_m5 189 rfl rfl
theorem kw_732 : Cond.methodLink RX9 324 yX9_way ∈ sv_w := sv_m5 190 rfl rfl
theorem kw_733 : Cond.instanceMethod yX9_way ∈ sv_w := sv_m5 192 rfl rfl
theorem kw_734 : Cond.selects RX9 yX9_way yX9_way ∈ sv_w := sv_p4 11 rfl rfl
theorem kw_735 : Cond.code yX9_way cX9_way 1 none ∈ sv_w := sv_m5 193 rfl rfl
theorem kw_736 : Cond.methodLink RX9 330 yX9_still ∈ sv_w := sv_m5 198 rfl rfl
theorem kw_737 : Cond.instanceMethod yX9_still ∈ sv_w := sv_m5 200 rfl rfl
theorem kw_738 : Cond.selects RX9 yX9_still yX9_still ∈ sv_w := sv_p4 13 rfl rfl
theorem kw_739 : Cond.code yX9_still cX9_still 1 none ∈ sv_w := sv_m5 201 rfl rfl
theorem kw_740 : Cond.fieldLink RX9 277 "SeaReceiverModel" "bits" "I" ∈ sv_w := sv_m4 144 rfl rfl
theorem kw_741 : Cond.constantLong RX9 292 (4) ∈ sv_w := sv_m5 165 rfl rfl
theorem kw_742 : Cond.methodLink RX9 294 yX9_found ∈ sv_w := sv_m5 166 rfl rfl
theorem kw_743 : Cond.instanceMethod yX9_found ∈ sv_w := sv_m5 168 rfl rfl
theorem kw_744 : Cond.selects RX9 yX9_found yX9_found ∈ sv_w := sv_p4 5 rfl rfl
theorem kw_745 : Cond.code yX9_found cX9_found 3 (some .int) ∈ sv_w := sv_m5 169 rfl rfl
theorem kw_746 : Cond.methodLink RX9 297 yX9_reports ∈ sv_w := sv_m5 170 rfl rfl
theorem kw_747 : Cond.instanceMethod yX9_reports ∈ sv_w := sv_m5 172 rfl rfl
theorem kw_748 : Cond.selects RX9 yX9_reports yX9_reports ∈ sv_w := sv_p4 6 rfl rfl
theorem kw_749 : Cond.code yX9_reports cX9_reports 3 none ∈ sv_w := sv_m5 173 rfl rfl
theorem kw_750 : Cond.methodLink RX9 283 yX9_message ∈ sv_w := sv_m5 157 rfl rfl
theorem kw_751 : Cond.instanceMethod yX9_message ∈ sv_w := sv_m5 159 rfl rfl
theorem kw_752 : Cond.selects RX9 yX9_message yX9_message ∈ sv_w := sv_p4 3 rfl rfl
theorem kw_753 : Cond.code yX9_message cX9_message 6 none ∈ sv_w := sv_m5 160 rfl rfl
theorem kw_754 : Cond.methodLink RX9 270 yX9_keep ∈ sv_w := sv_m5 149 rfl rfl
theorem kw_755 : Cond.instanceMethod yX9_keep ∈ sv_w := sv_m5 151 rfl rfl
theorem kw_756 : Cond.selects RX9 yX9_keep yX9_keep ∈ sv_w := sv_p4 1 rfl rfl
theorem kw_757 : Cond.code yX9_keep cX9_keep 4 none ∈ sv_w := sv_m5 152 rfl rfl
theorem kw_758 : Cond.methodLink RX9 274 yX9_parted ∈ sv_w := sv_m5 153 rfl rfl
theorem kw_759 : Cond.instanceMethod yX9_parted ∈ sv_w := sv_m5 155 rfl rfl
theorem kw_760 : Cond.selects RX9 yX9_parted yX9_parted ∈ sv_w := sv_p4 2 rfl rfl
theorem kw_761 : Cond.code yX9_parted cX9_parted 5 none ∈ sv_w := sv_m5 156 rfl rfl
theorem kw_762 : Cond.fieldLink RX9 107 "SeaReceiverModel" "told" "I" ∈ sv_w := sv_m4 127 rfl rfl
theorem kw_763 : Cond.fieldLink RX9 96 "SeaReceiverModel" "sum" "I" ∈ sv_w := sv_m4 126 rfl rfl
theorem kw_764 : Cond.methodLink RX9 116 yX9_form ∈ sv_w := sv_m5 26 rfl rfl
theorem kw_765 : Cond.instanceMethod yX9_form ∈ sv_w := sv_m5 28 rfl rfl
theorem kw_766 : Cond.selects RX9 yX9_form yX9_form ∈ sv_w := sv_p2 10 rfl rfl
theorem kw_767 : Cond.code yX9_form cX9_form 2 (some .int) ∈ sv_w := sv_m5 29 rfl rfl
theorem kw_768 : Cond.methodLink RX9 120 yX9_fits ∈ sv_w := sv_m5 41 rfl rfl
theorem kw_769 : Cond.instanceMethod yX9_fits ∈ sv_w := sv_m5 43 rfl rfl
theorem kw_770 : Cond.selects RX9 yX9_fits yX9_fits ∈ sv_w := sv_p2 12 rfl rfl
theorem kw_771 : Cond.code yX9_fits cX9_fits 2 (some .boolean) ∈ sv_w := sv_m5 44 rfl rfl
theorem kw_772 : Cond.methodLink RX9 124 yX9_taken ∈ sv_w := sv_m5 145 rfl rfl
theorem kw_773 : Cond.instanceMethod yX9_taken ∈ sv_w := sv_m5 147 rfl rfl
theorem kw_774 : Cond.selects RX9 yX9_taken yX9_taken ∈ sv_w := sv_p4 0 rfl rfl
theorem kw_775 : Cond.code yX9_taken cX9_taken 2 none ∈ sv_w := sv_m5 148 rfl rfl
theorem kw_776 : Cond.constantLong RX9 99 (32) ∈ sv_w := sv_m5 13 rfl rfl
theorem kw_777 : Cond.constantLong RX9 101 (126) ∈ sv_w := sv_m5 14 rfl rfl
theorem kw_778 : Cond.methodLink RX9 103 yX9_sixteen ∈ sv_w := sv_m5 15 rfl rfl
theorem kw_779 : Cond.static yX9_sixteen ∈ sv_w := sv_m5 16 rfl rfl
theorem kw_780 : Cond.code yX9_sixteen cX9_sixteen 1 (some .int) ∈ sv_w := sv_m5 17 rfl rfl
theorem kw_781 : Cond.methodLink RX9 110 yX9_ended ∈ sv_w := sv_m5 22 rfl rfl
theorem kw_782 : Cond.instanceMethod yX9_ended ∈ sv_w := sv_m5 24 rfl rfl
theorem kw_783 : Cond.selects RX9 yX9_ended yX9_ended ∈ sv_w := sv_p2 9 rfl rfl
theorem kw_784 : Cond.code yX9_ended cX9_ended 2 none ∈ sv_w := sv_m5 25 rfl rfl
theorem kw_785 : Cond.methodLink RX9 86 yX9_comes ∈ sv_w := sv_m5 9 rfl rfl
theorem kw_786 : Cond.instanceMethod yX9_comes ∈ sv_w := sv_m5 11 rfl rfl
theorem kw_787 : Cond.selects RX9 yX9_comes yX9_comes ∈ sv_w := sv_p2 8 rfl rfl
theorem kw_788 : Cond.code yX9_comes cX9_comes 3 none ∈ sv_w := sv_m5 12 rfl rfl
theorem kw_789 : Cond.constantLong RX9 336 (8) ∈ sv_w := sv_m5 213 rfl rfl
theorem kw_790 : Cond.fieldLink RX9 338 "SeaReceiverModel" "outs" "I" ∈ sv_w := sv_m4 122 rfl rfl
theorem kw_791 : Cond.constantLong RX9 341 (17) ∈ sv_w := sv_m5 218 rfl rfl
theorem kw_792 : Cond.methodLink RX9 343 yX9_refuse ∈ sv_w := sv_m5 219 rfl rfl
theorem kw_793 : Cond.instanceMethod yX9_refuse ∈ sv_w := sv_m5 221 rfl rfl
theorem kw_794 : Cond.selects RX9 yX9_refuse yX9_refuse ∈ sv_w := sv_p4 15 rfl rfl
theorem kw_795 : Cond.code yX9_refuse cX9_refuse 2 (some .int) ∈ sv_w := sv_m5 222 rfl rfl
theorem kw_796 : Cond.constantLong RX9 346 (23) ∈ sv_w := sv_m5 231 rfl rfl
theorem kw_797 : Cond.constantLong RX9 348 (30) ∈ sv_w := sv_m5 232 rfl rfl
theorem kw_798 : Cond.constantLong RX9 350 (2) ∈ sv_w := sv_m5 237 rfl rfl
theorem kw_799 : Cond.fieldLink RX9 355 "SeaReceiverModel" "check" "I" ∈ sv_w := sv_m4 155 rfl rfl
theorem kw_800 : Cond.methodLink RX9 358 yX9_write ∈ sv_w := sv_m6 16 rfl rfl
theorem kw_801 : Cond.instanceMethod yX9_write ∈ sv_w := sv_m6 18 rfl rfl
theorem kw_802 : Cond.selects RX9 yX9_write yX9_write ∈ sv_w := sv_p5 2 rfl rfl
theorem kw_803 : Cond.code yX9_write cX9_write 2 none ∈ sv_w := sv_m6 19 rfl rfl
theorem kw_804 : Cond.methodLink RX9 363 yX9_writeAll ∈ sv_w := sv_m6 12 rfl rfl
theorem kw_805 : Cond.instanceMethod yX9_writeAll ∈ sv_w := sv_m6 14 rfl rfl
theorem kw_806 : Cond.selects RX9 yX9_writeAll yX9_writeAll ∈ sv_w := sv_p5 1 rfl rfl
theorem kw_807 : Cond.code yX9_writeAll cX9_writeAll 3 none ∈ sv_w := sv_m6 15 rfl rfl
theorem kw_808 : Cond.methodLink RX9 369 yX9_hexOf ∈ sv_w := sv_m6 21 rfl rfl
theorem kw_809 : Cond.static yX9_hexOf ∈ sv_w := sv_m6 22 rfl rfl
theorem kw_810 : Cond.code yX9_hexOf cX9_hexOf 1 (some .int) ∈ sv_w := sv_m6 23 rfl rfl
theorem kw_811 : Cond.constantLong RX9 372 (9) ∈ sv_w := sv_m6 6 rfl rfl
theorem kw_812 : Cond.methodLink RX9 374 yX9_sentence ∈ sv_w := sv_m6 7 rfl rfl
theorem kw_813 : Cond.instanceMethod yX9_sentence ∈ sv_w := sv_m6 9 rfl rfl
theorem kw_814 : Cond.selects RX9 yX9_sentence yX9_sentence ∈ sv_w := sv_p5 0 rfl rfl
theorem kw_815 : Cond.code yX9_sentence cX9_sentence 10 none ∈ sv_w := sv_m6 10 rfl rfl
theorem kw_817 : Cond.classLink RL 13 "java/util/NoSuchElementException" ∈ sv_w := sv_m3 196 rfl rfl
theorem kw_818 : Cond.methodLink RL 7 yX8_fix ∈ sv_w := sv_m3 197 rfl rfl
theorem kw_819 : Cond.instanceMethod yX8_fix ∈ sv_w := sv_m3 198 rfl rfl
theorem kw_820 : Cond.selects RX8 yX8_fix yX8_fix ∈ sv_w := sv_m3 199 rfl rfl
theorem kw_821 : Cond.code yX8_fix cX8_fix 2 (some .int) ∈ sv_w := sv_m3 200 rfl rfl
theorem kw_823 : Cond.methodLink RL 15 yX8_vessel ∈ sv_w := sv_m4 30 rfl rfl
theorem kw_824 : Cond.instanceMethod yX8_vessel ∈ sv_w := sv_m4 31 rfl rfl
theorem kw_825 : Cond.selects RX8 yX8_vessel yX8_vessel ∈ sv_w := sv_m4 32 rfl rfl
theorem kw_826 : Cond.code yX8_vessel cX8_vessel 4 (some .int) ∈ sv_w := sv_m4 33 rfl rfl
theorem kw_827 : Cond.methodLink RL 19 yX8_bits ∈ sv_w := sv_m4 39 rfl rfl
theorem kw_828 : Cond.instanceMethod yX8_bits ∈ sv_w := sv_m4 40 rfl rfl
theorem kw_829 : Cond.selects RX8 yX8_bits yX8_bits ∈ sv_w := sv_m4 41 rfl rfl
theorem kw_830 : Cond.code yX8_bits cX8_bits 3 (some .int) ∈ sv_w := sv_m4 42 rfl rfl
theorem kw_831 : Cond.classLink RL 26 "java/lang/IllegalArgumentException" ∈ sv_w := sv_m4 47 rfl rfl
theorem kw_832 : Cond.methodLink RL 22 yX8_send ∈ sv_w := sv_m4 48 rfl rfl
theorem kw_833 : Cond.instanceMethod yX8_send ∈ sv_w := sv_m4 49 rfl rfl
theorem kw_834 : Cond.selects RX8 yX8_send yX8_send ∈ sv_w := sv_m4 50 rfl rfl
theorem kw_835 : Cond.code yX8_send cX8_send 6 (some .int) ∈ sv_w := sv_m4 51 rfl rfl
theorem kw_838 : Cond.classLink RL 8 RX8 ∈ sv_w := sv_m1 23 rfl rfl
theorem kw_839 : Cond.instantiable RX8 10 ∈ sv_w := sv_m1 24 rfl rfl
theorem kw_840 : Cond.classLink RL 29 RX9 ∈ sv_w := sv_m4 106 rfl rfl
theorem kw_841 : Cond.instantiable RX9 38 ∈ sv_w := sv_m4 107 rfl rfl
theorem kw_842 : Cond.arrayClass .long ∈ sv_w := sv_m6 36 rfl rfl
theorem kw_843 : Cond.methodLink RL 28 yX8_init ∈ sv_w := sv_m1 25 rfl rfl
theorem kw_844 : Cond.instanceMethod yX8_init ∈ sv_w := sv_m1 26 rfl rfl
theorem kw_845 : Cond.code yX8_init cX8_init 1 none ∈ sv_w := sv_m1 27 rfl rfl
theorem kw_846 : Cond.methodLink RL 31 yX9_init ∈ sv_w := sv_m4 108 rfl rfl
theorem kw_847 : Cond.instanceMethod yX9_init ∈ sv_w := sv_m4 109 rfl rfl
theorem kw_848 : Cond.code yX9_init cX9_init 1 none ∈ sv_w := sv_m4 110 rfl rfl
theorem kw_849 : Cond.methodLink RL 32 yX8_feed ∈ sv_w := sv_m1 199 rfl rfl
theorem kw_850 : Cond.instanceMethod yX8_feed ∈ sv_w := sv_m1 200 rfl rfl
theorem kw_851 : Cond.selects RX8 yX8_feed yX8_feed ∈ sv_w := sv_m1 201 rfl rfl
theorem kw_852 : Cond.code yX8_feed cX8_feed 6 (some .int) ∈ sv_w := sv_m1 202 rfl rfl
theorem kw_853 : Cond.methodLink RL 36 yX9_feed ∈ sv_w := sv_m4 234 rfl rfl
theorem kw_854 : Cond.instanceMethod yX9_feed ∈ sv_w := sv_m4 235 rfl rfl
theorem kw_855 : Cond.selects RX9 yX9_feed yX9_feed ∈ sv_w := sv_m4 236 rfl rfl
theorem kw_856 : Cond.code yX9_feed cX9_feed 8 (some .int) ∈ sv_w := sv_m4 237 rfl rfl
theorem kw_857 : Cond.methodLink RL 37 yX8_end ∈ sv_w := sv_m1 216 rfl rfl
theorem kw_858 : Cond.instanceMethod yX8_end ∈ sv_w := sv_m1 217 rfl rfl
theorem kw_859 : Cond.selects RX8 yX8_end yX8_end ∈ sv_w := sv_m1 218 rfl rfl
theorem kw_860 : Cond.code yX8_end cX8_end 2 (some .boolean) ∈ sv_w := sv_m1 219 rfl rfl
theorem kw_861 : Cond.methodLink RL 41 yX9_end ∈ sv_w := sv_m4 238 rfl rfl
theorem kw_862 : Cond.instanceMethod yX9_end ∈ sv_w := sv_m4 239 rfl rfl
theorem kw_863 : Cond.selects RX9 yX9_end yX9_end ∈ sv_w := sv_m5 0 rfl rfl
theorem kw_864 : Cond.code yX9_end cX9_end 2 (some .boolean) ∈ sv_w := sv_m5 1 rfl rfl
theorem kw_865 : Cond.methodLink RL 42 yX8_stream ∈ sv_w := sv_m1 220 rfl rfl
theorem kw_866 : Cond.instanceMethod yX8_stream ∈ sv_w := sv_m1 221 rfl rfl
theorem kw_867 : Cond.selects RX8 yX8_stream yX8_stream ∈ sv_w := sv_m1 222 rfl rfl
theorem kw_868 : Cond.code yX8_stream cX8_stream 5 (some .int) ∈ sv_w := sv_m1 223 rfl rfl
theorem kw_869 : Cond.methodLink RL 46 yX9_stream ∈ sv_w := sv_m5 5 rfl rfl
theorem kw_870 : Cond.instanceMethod yX9_stream ∈ sv_w := sv_m5 6 rfl rfl
theorem kw_871 : Cond.selects RX9 yX9_stream yX9_stream ∈ sv_w := sv_m5 7 rfl rfl
theorem kw_872 : Cond.code yX9_stream cX9_stream 4 (some .int) ∈ sv_w := sv_m5 8 rfl rfl
theorem kw_873 : Cond.methodLink RL 47 yX8_count ∈ sv_w := sv_m3 136 rfl rfl
theorem kw_874 : Cond.instanceMethod yX8_count ∈ sv_w := sv_m3 137 rfl rfl
theorem kw_875 : Cond.selects RX8 yX8_count yX8_count ∈ sv_w := sv_m3 138 rfl rfl
theorem kw_876 : Cond.code yX8_count cX8_count 2 (some .int) ∈ sv_w := sv_m3 139 rfl rfl
theorem kw_877 : Cond.methodLink RL 50 yX9_count ∈ sv_w := sv_m5 209 rfl rfl
theorem kw_878 : Cond.instanceMethod yX9_count ∈ sv_w := sv_m5 210 rfl rfl
theorem kw_879 : Cond.selects RX9 yX9_count yX9_count ∈ sv_w := sv_m5 211 rfl rfl
theorem kw_880 : Cond.code yX9_count cX9_count 4 (some .int) ∈ sv_w := sv_m5 212 rfl rfl
theorem kw_881 : Cond.methodLink RL 51 yL_fix ∈ sv_w := sv_m3 193 rfl rfl
theorem kw_882 : Cond.static yL_fix ∈ sv_w := sv_m3 194 rfl rfl
theorem kw_883 : Cond.initialized RL ∈ sv_w := sv_m1 0 rfl rfl
theorem kw_885 : Cond.methodLink RL 56 yX9_fix ∈ sv_w := sv_m5 214 rfl rfl
theorem kw_886 : Cond.instanceMethod yX9_fix ∈ sv_w := sv_m5 215 rfl rfl
theorem kw_887 : Cond.selects RX9 yX9_fix yX9_fix ∈ sv_w := sv_m5 216 rfl rfl
theorem kw_888 : Cond.code yX9_fix cX9_fix 2 (some .int) ∈ sv_w := sv_m5 217 rfl rfl
theorem kw_889 : Cond.methodLink RL 57 yX9_thrown ∈ sv_w := sv_m4 102 rfl rfl
theorem kw_890 : Cond.instanceMethod yX9_thrown ∈ sv_w := sv_m4 103 rfl rfl
theorem kw_891 : Cond.selects RX9 yX9_thrown yX9_thrown ∈ sv_w := sv_m4 104 rfl rfl
theorem kw_892 : Cond.code yX9_thrown cX9_thrown 1 (some .int) ∈ sv_w := sv_m4 105 rfl rfl
theorem kw_893 : Cond.methodLink RL 60 yX8_find ∈ sv_w := sv_m3 148 rfl rfl
theorem kw_894 : Cond.instanceMethod yX8_find ∈ sv_w := sv_m3 149 rfl rfl
theorem kw_895 : Cond.selects RX8 yX8_find yX8_find ∈ sv_w := sv_m3 150 rfl rfl
theorem kw_896 : Cond.code yX8_find cX8_find 2 (some .int) ∈ sv_w := sv_m3 151 rfl rfl
theorem kw_897 : Cond.methodLink RL 63 yX9_find ∈ sv_w := sv_m5 223 rfl rfl
theorem kw_898 : Cond.instanceMethod yX9_find ∈ sv_w := sv_m5 224 rfl rfl
theorem kw_899 : Cond.selects RX9 yX9_find yX9_find ∈ sv_w := sv_m5 225 rfl rfl
theorem kw_900 : Cond.code yX9_find cX9_find 2 (some .int) ∈ sv_w := sv_m5 226 rfl rfl
theorem kw_901 : Cond.methodLink RL 64 yL_vessel ∈ sv_w := sv_m4 27 rfl rfl
theorem kw_902 : Cond.static yL_vessel ∈ sv_w := sv_m4 28 rfl rfl
theorem kw_904 : Cond.methodLink RL 67 yX9_vessel ∈ sv_w := sv_m5 227 rfl rfl
theorem kw_905 : Cond.instanceMethod yX9_vessel ∈ sv_w := sv_m5 228 rfl rfl
theorem kw_906 : Cond.selects RX9 yX9_vessel yX9_vessel ∈ sv_w := sv_m5 229 rfl rfl
theorem kw_907 : Cond.code yX9_vessel cX9_vessel 3 (some .int) ∈ sv_w := sv_m5 230 rfl rfl
theorem kw_908 : Cond.methodLink RL 68 yX8_letter ∈ sv_w := sv_m3 153 rfl rfl
theorem kw_909 : Cond.instanceMethod yX8_letter ∈ sv_w := sv_m3 154 rfl rfl
theorem kw_910 : Cond.selects RX8 yX8_letter yX8_letter ∈ sv_w := sv_m3 155 rfl rfl
theorem kw_911 : Cond.code yX8_letter cX8_letter 5 (some .int) ∈ sv_w := sv_m3 156 rfl rfl
theorem kw_912 : Cond.methodLink RL 71 yX9_letter ∈ sv_w := sv_m5 233 rfl rfl
theorem kw_913 : Cond.instanceMethod yX9_letter ∈ sv_w := sv_m5 234 rfl rfl
theorem kw_914 : Cond.selects RX9 yX9_letter yX9_letter ∈ sv_w := sv_m5 235 rfl rfl
theorem kw_915 : Cond.code yX9_letter cX9_letter 4 (some .int) ∈ sv_w := sv_m5 236 rfl rfl
theorem kw_916 : Cond.methodLink RL 72 yL_bits ∈ sv_w := sv_m4 36 rfl rfl
theorem kw_917 : Cond.static yL_bits ∈ sv_w := sv_m4 37 rfl rfl
theorem kw_919 : Cond.methodLink RL 74 yX9_bits ∈ sv_w := sv_m5 238 rfl rfl
theorem kw_920 : Cond.instanceMethod yX9_bits ∈ sv_w := sv_m5 239 rfl rfl
theorem kw_921 : Cond.selects RX9 yX9_bits yX9_bits ∈ sv_w := sv_m6 0 rfl rfl
theorem kw_922 : Cond.code yX9_bits cX9_bits 3 (some .int) ∈ sv_w := sv_m6 1 rfl rfl
theorem kw_923 : Cond.methodLink RL 75 yL_send ∈ sv_w := sv_m4 44 rfl rfl
theorem kw_924 : Cond.static yL_send ∈ sv_w := sv_m4 45 rfl rfl
theorem kw_926 : Cond.methodLink RL 78 yX9_send ∈ sv_w := sv_m6 2 rfl rfl
theorem kw_927 : Cond.instanceMethod yX9_send ∈ sv_w := sv_m6 3 rfl rfl
theorem kw_928 : Cond.selects RX9 yX9_send yX9_send ∈ sv_w := sv_m6 4 rfl rfl
theorem kw_929 : Cond.code yX9_send cX9_send 4 (some .int) ∈ sv_w := sv_m6 5 rfl rfl
theorem kw_930 : Cond.methodLink RL 79 yX8_out ∈ sv_w := sv_m3 165 rfl rfl
theorem kw_931 : Cond.instanceMethod yX8_out ∈ sv_w := sv_m3 166 rfl rfl
theorem kw_932 : Cond.selects RX8 yX8_out yX8_out ∈ sv_w := sv_m3 167 rfl rfl
theorem kw_933 : Cond.code yX8_out cX8_out 2 (some .int) ∈ sv_w := sv_m3 168 rfl rfl
theorem kw_934 : Cond.methodLink RL 82 yX9_out ∈ sv_w := sv_m6 24 rfl rfl
theorem kw_935 : Cond.instanceMethod yX9_out ∈ sv_w := sv_m6 25 rfl rfl
theorem kw_936 : Cond.selects RX9 yX9_out yX9_out ∈ sv_w := sv_m6 26 rfl rfl
theorem kw_937 : Cond.code yX9_out cX9_out 2 (some .int) ∈ sv_w := sv_m6 27 rfl rfl
theorem kw_938 : Cond.methodLink RL 83 yX8_again ∈ sv_w := sv_m3 169 rfl rfl
theorem kw_939 : Cond.instanceMethod yX8_again ∈ sv_w := sv_m3 170 rfl rfl
theorem kw_940 : Cond.selects RX8 yX8_again yX8_again ∈ sv_w := sv_m3 171 rfl rfl
theorem kw_941 : Cond.code yX8_again cX8_again 2 (some .int) ∈ sv_w := sv_m3 172 rfl rfl
theorem kw_942 : Cond.methodLink RL 86 yX9_again ∈ sv_w := sv_m6 28 rfl rfl
theorem kw_943 : Cond.instanceMethod yX9_again ∈ sv_w := sv_m6 29 rfl rfl
theorem kw_944 : Cond.selects RX9 yX9_again yX9_again ∈ sv_w := sv_m6 30 rfl rfl
theorem kw_945 : Cond.code yX9_again cX9_again 2 (some .int) ∈ sv_w := sv_m6 31 rfl rfl
theorem kw_946 : Cond.methodLink RL 87 yX8_clear ∈ sv_w := sv_m3 174 rfl rfl
theorem kw_947 : Cond.instanceMethod yX8_clear ∈ sv_w := sv_m3 175 rfl rfl
theorem kw_948 : Cond.selects RX8 yX8_clear yX8_clear ∈ sv_w := sv_m3 176 rfl rfl
theorem kw_949 : Cond.code yX8_clear cX8_clear 1 none ∈ sv_w := sv_m3 177 rfl rfl
theorem kw_950 : Cond.methodLink RL 90 yX9_clear ∈ sv_w := sv_m6 32 rfl rfl
theorem kw_951 : Cond.instanceMethod yX9_clear ∈ sv_w := sv_m6 33 rfl rfl
theorem kw_952 : Cond.selects RX9 yX9_clear yX9_clear ∈ sv_w := sv_m6 34 rfl rfl
theorem kw_953 : Cond.code yX9_clear cX9_clear 1 none ∈ sv_w := sv_m6 35 rfl rfl
theorem kw_954 : Cond.code yJ9_max_7cf53 cJ9_max_7cf53 2 (some .int) ∈ sv_w := sv_m2 197 rfl rfl
theorem kw_955 : Cond.code yJ9_min_7cf53 cJ9_min_7cf53 2 (some .int) ∈ sv_w := sv_m2 200 rfl rfl
theorem sv_ins {C : String} {T : u_T} {N : Nat} (h : ((List.range N).map (u_lay C T)).all (fun w => decide (w ∈ tables_1) && goodWord w) = true) : ∀ w ∈ u_ws C T N, w ∈ sv_w := fun w hw => by
  have h1 := List.all_eq_true.mp h w hw
  simp only [Bool.and_eq_true, decide_eq_true_eq] at h1
  exact sv_t1 h1.1 h1.2
theorem sv_in0 : ∀ w ∈ wsX00, w ∈ sv_w := sv_ins (by decide +kernel)
theorem sv_in1 : ∀ w ∈ wsX10, w ∈ sv_w := sv_ins (by decide +kernel)
theorem sv_in2 : ∀ w ∈ wsX20, w ∈ sv_w := sv_ins (by decide +kernel)
theorem sv_in3 : ∀ w ∈ wsX30, w ∈ sv_w := sv_ins (by decide +kernel)
theorem sv_in4 : ∀ w ∈ wsX40, w ∈ sv_w := sv_ins (by decide +kernel)
theorem sv_in5 : ∀ w ∈ wsX50, w ∈ sv_w := sv_ins (by decide +kernel)
theorem sv_in6 : ∀ w ∈ wsX60, w ∈ sv_w := sv_ins (by decide +kernel)
theorem sv_in7 : ∀ w ∈ wsX70, w ∈ sv_w := sv_ins (by decide +kernel)
theorem sv_in8 : ∀ w ∈ wsX80, w ∈ sv_w := sv_ins (by decide +kernel)
theorem sv_in9 : ∀ w ∈ wsX90, w ∈ sv_w := sv_ins (by decide +kernel)
end
section
theorem dX9_thrown_0 : decode cX9_thrown 0 = .ok (.aload_n 0, 1) := by decide +kernel
theorem dX9_thrown_1 : decode cX9_thrown 1 = .ok (.getfield 1, 3) := by decide +kernel
theorem dX9_thrown_4 : decode cX9_thrown 4 = .ok (.ireturn, 1) := by decide +kernel
theorem dX9_in_0 : decode cX9_in 0 = .ok (.lload_n 0, 1) := by decide +kernel
theorem dX9_in_1 : decode cX9_in 1 = .ok (.lload_n 2, 1) := by decide +kernel
theorem dX9_in_2 : decode cX9_in 2 = .ok (.lcmp, 1) := by decide +kernel
theorem dX9_in_3 : decode cX9_in 3 = .ok (.ifCond .lt 14, 3) := by decide +kernel
theorem dX9_in_6 : decode cX9_in 6 = .ok (.lload_n 0, 1) := by decide +kernel
theorem dX9_in_7 : decode cX9_in 7 = .ok (.lload 4, 2) := by decide +kernel
theorem dX9_in_9 : decode cX9_in 9 = .ok (.lcmp, 1) := by decide +kernel
theorem dX9_in_10 : decode cX9_in 10 = .ok (.ifCond .gt 7, 3) := by decide +kernel
theorem dX9_in_13 : decode cX9_in 13 = .ok (.iconst 1, 1) := by decide +kernel
theorem dX9_in_14 : decode cX9_in 14 = .ok (.goto 4, 3) := by decide +kernel
theorem dX9_in_17 : decode cX9_in 17 = .ok (.iconst 0, 1) := by decide +kernel
theorem dX9_in_18 : decode cX9_in 18 = .ok (.ireturn, 1) := by decide +kernel
theorem dX9_refuse_0 : decode cX9_refuse 0 = .ok (.aload_n 0, 1) := by decide +kernel
theorem dX9_refuse_1 : decode cX9_refuse 1 = .ok (.iload_n 1, 1) := by decide +kernel
theorem dX9_refuse_2 : decode cX9_refuse 2 = .ok (.putfield 1, 3) := by decide +kernel
theorem dX9_refuse_5 : decode cX9_refuse 5 = .ok (.iconst 0, 1) := by decide +kernel
theorem dX9_refuse_6 : decode cX9_refuse 6 = .ok (.ireturn, 1) := by decide +kernel
theorem dX9_init_0 : decode cX9_init 0 = .ok (.aload_n 0, 1) := by decide +kernel
theorem dX9_init_1 : decode cX9_init 1 = .ok (.invokespecial 7, 3) := by decide +kernel
theorem dX9_init_4 : decode cX9_init 4 = .ok (.aload_n 0, 1) := by decide +kernel
theorem dX9_init_5 : decode cX9_init 5 = .ok (.sipush 2000, 3) := by decide +kernel
theorem dX9_init_8 : decode cX9_init 8 = .ok (.newarray .int, 2) := by decide +kernel
theorem dX9_init_10 : decode cX9_init 10 = .ok (.putfield 13, 3) := by decide +kernel
theorem dX9_init_13 : decode cX9_init 13 = .ok (.aload_n 0, 1) := by decide +kernel
theorem dX9_init_14 : decode cX9_init 14 = .ok (.sipush 200, 3) := by decide +kernel
theorem dX9_init_17 : decode cX9_init 17 = .ok (.newarray .int, 2) := by decide +kernel
theorem dX9_init_19 : decode cX9_init 19 = .ok (.putfield 17, 3) := by decide +kernel
theorem dX9_init_22 : decode cX9_init 22 = .ok (.aload_n 0, 1) := by decide +kernel
theorem dX9_init_23 : decode cX9_init 23 = .ok (.bipush 79, 2) := by decide +kernel
theorem dX9_init_25 : decode cX9_init 25 = .ok (.newarray .int, 2) := by decide +kernel
theorem dX9_init_27 : decode cX9_init 27 = .ok (.putfield 20, 3) := by decide +kernel
theorem dX9_init_30 : decode cX9_init 30 = .ok (.aload_n 0, 1) := by decide +kernel
theorem dX9_init_31 : decode cX9_init 31 = .ok (.bipush 9, 2) := by decide +kernel
theorem dX9_init_33 : decode cX9_init 33 = .ok (.newarray .int, 2) := by decide +kernel
theorem dX9_init_35 : decode cX9_init 35 = .ok (.putfield 23, 3) := by decide +kernel
theorem dX9_init_38 : decode cX9_init 38 = .ok (.aload_n 0, 1) := by decide +kernel
theorem dX9_init_39 : decode cX9_init 39 = .ok (.bipush 80, 2) := by decide +kernel
theorem dX9_init_41 : decode cX9_init 41 = .ok (.newarray .int, 2) := by decide +kernel
theorem dX9_init_43 : decode cX9_init 43 = .ok (.putfield 26, 3) := by decide +kernel
theorem dX9_init_46 : decode cX9_init 46 = .ok (.aload_n 0, 1) := by decide +kernel
theorem dX9_init_47 : decode cX9_init 47 = .ok (.bipush 80, 2) := by decide +kernel
theorem dX9_init_49 : decode cX9_init 49 = .ok (.newarray .int, 2) := by decide +kernel
theorem dX9_init_51 : decode cX9_init 51 = .ok (.putfield 29, 3) := by decide +kernel
theorem dX9_init_54 : decode cX9_init 54 = .ok (.aload_n 0, 1) := by decide +kernel
theorem dX9_init_55 : decode cX9_init 55 = .ok (.bipush 18, 2) := by decide +kernel
theorem dX9_init_57 : decode cX9_init 57 = .ok (.newarray .int, 2) := by decide +kernel
theorem dX9_init_59 : decode cX9_init 59 = .ok (.putfield 32, 3) := by decide +kernel
theorem dX9_init_62 : decode cX9_init 62 = .ok (.aload_n 0, 1) := by decide +kernel
theorem dX9_init_63 : decode cX9_init 63 = .ok (.bipush 18, 2) := by decide +kernel
theorem dX9_init_65 : decode cX9_init 65 = .ok (.newarray .int, 2) := by decide +kernel
theorem dX9_init_67 : decode cX9_init 67 = .ok (.putfield 35, 3) := by decide +kernel
theorem dX9_init_70 : decode cX9_init 70 = .ok (.aload_n 0, 1) := by decide +kernel
theorem dX9_init_71 : decode cX9_init 71 = .ok (.bipush 11, 2) := by decide +kernel
theorem dX9_init_73 : decode cX9_init 73 = .ok (.newarray .int, 2) := by decide +kernel
theorem dX9_init_75 : decode cX9_init 75 = .ok (.putfield 38, 3) := by decide +kernel
theorem dX9_init_78 : decode cX9_init 78 = .ok (.aload_n 0, 1) := by decide +kernel
theorem dX9_init_79 : decode cX9_init 79 = .ok (.bipush 11, 2) := by decide +kernel
theorem dX9_init_81 : decode cX9_init 81 = .ok (.newarray .int, 2) := by decide +kernel
theorem dX9_init_83 : decode cX9_init 83 = .ok (.putfield 41, 3) := by decide +kernel
theorem dX9_init_86 : decode cX9_init 86 = .ok (.aload_n 0, 1) := by decide +kernel
theorem dX9_init_87 : decode cX9_init 87 = .ok (.bipush 11, 2) := by decide +kernel
theorem dX9_init_89 : decode cX9_init 89 = .ok (.newarray .int, 2) := by decide +kernel
theorem dX9_init_91 : decode cX9_init 91 = .ok (.putfield 44, 3) := by decide +kernel
theorem dX9_init_94 : decode cX9_init 94 = .ok (.aload_n 0, 1) := by decide +kernel
theorem dX9_init_95 : decode cX9_init 95 = .ok (.ldc 47, 2) := by decide +kernel
theorem dX9_init_97 : decode cX9_init 97 = .ok (.newarray .boolean, 2) := by decide +kernel
theorem dX9_init_99 : decode cX9_init 99 = .ok (.putfield 48, 3) := by decide +kernel
theorem dX9_init_102 : decode cX9_init 102 = .ok (.aload_n 0, 1) := by decide +kernel
theorem dX9_init_103 : decode cX9_init 103 = .ok (.sipush 3240, 3) := by decide +kernel
theorem dX9_init_106 : decode cX9_init 106 = .ok (.newarray .boolean, 2) := by decide +kernel
theorem dX9_init_108 : decode cX9_init 108 = .ok (.putfield 52, 3) := by decide +kernel
theorem dX9_init_111 : decode cX9_init 111 = .ok (.aload_n 0, 1) := by decide +kernel
theorem dX9_init_112 : decode cX9_init 112 = .ok (.sipush 960, 3) := by decide +kernel
theorem dX9_init_115 : decode cX9_init 115 = .ok (.newarray .int, 2) := by decide +kernel
theorem dX9_init_117 : decode cX9_init 117 = .ok (.putfield 55, 3) := by decide +kernel
theorem dX9_init_120 : decode cX9_init 120 = .ok (.aload_n 0, 1) := by decide +kernel
theorem dX9_init_121 : decode cX9_init 121 = .ok (.sipush 2400, 3) := by decide +kernel
theorem dX9_init_124 : decode cX9_init 124 = .ok (.newarray .int, 2) := by decide +kernel
theorem dX9_init_126 : decode cX9_init 126 = .ok (.putfield 58, 3) := by decide +kernel
theorem dX9_init_129 : decode cX9_init 129 = .ok (.aload_n 0, 1) := by decide +kernel
theorem dX9_init_130 : decode cX9_init 130 = .ok (.bipush 120, 2) := by decide +kernel
theorem dX9_init_132 : decode cX9_init 132 = .ok (.newarray .int, 2) := by decide +kernel
theorem dX9_init_134 : decode cX9_init 134 = .ok (.putfield 61, 3) := by decide +kernel
theorem dX9_init_137 : decode cX9_init 137 = .ok (.aload_n 0, 1) := by decide +kernel
theorem dX9_init_138 : decode cX9_init 138 = .ok (.sipush 424, 3) := by decide +kernel
theorem dX9_init_141 : decode cX9_init 141 = .ok (.newarray .boolean, 2) := by decide +kernel
theorem dX9_init_143 : decode cX9_init 143 = .ok (.putfield 64, 3) := by decide +kernel
theorem dX9_init_146 : decode cX9_init 146 = .ok (.aload_n 0, 1) := by decide +kernel
theorem dX9_init_147 : decode cX9_init 147 = .ok (.invokevirtual 67, 3) := by decide +kernel
theorem dX9_init_150 : decode cX9_init 150 = .ok (.return_, 1) := by decide +kernel
theorem dX9_feed_0 : decode cX9_feed 0 = .ok (.aload_n 0, 1) := by decide +kernel
theorem dX9_feed_1 : decode cX9_feed 1 = .ok (.iconst 0, 1) := by decide +kernel
theorem dX9_feed_2 : decode cX9_feed 2 = .ok (.putfield 1, 3) := by decide +kernel
theorem dX9_feed_5 : decode cX9_feed 5 = .ok (.aload_n 0, 1) := by decide +kernel
theorem dX9_feed_6 : decode cX9_feed 6 = .ok (.getfield 70, 3) := by decide +kernel
theorem dX9_feed_9 : decode cX9_feed 9 = .ok (.sipush 1980, 3) := by decide +kernel
theorem dX9_feed_12 : decode cX9_feed 12 = .ok (.if_icmp .le 6, 3) := by decide +kernel
theorem dX9_feed_15 : decode cX9_feed 15 = .ok (.ldc 73, 2) := by decide +kernel
theorem dX9_feed_17 : decode cX9_feed 17 = .ok (.ireturn, 1) := by decide +kernel
theorem dX9_feed_18 : decode cX9_feed 18 = .ok (.iconst 0, 1) := by decide +kernel
theorem dX9_feed_19 : decode cX9_feed 19 = .ok (.istore 6, 2) := by decide +kernel
theorem dX9_feed_21 : decode cX9_feed 21 = .ok (.iload 6, 2) := by decide +kernel
theorem dX9_feed_23 : decode cX9_feed 23 = .ok (.bipush 20, 2) := by decide +kernel
theorem dX9_feed_25 : decode cX9_feed 25 = .ok (.if_icmp .ge 86, 3) := by decide +kernel
theorem dX9_feed_28 : decode cX9_feed 28 = .ok (.iload 6, 2) := by decide +kernel
theorem dX9_feed_30 : decode cX9_feed 30 = .ok (.iconst 4, 1) := by decide +kernel
theorem dX9_feed_31 : decode cX9_feed 31 = .ok (.if_icmp .ge 7, 3) := by decide +kernel
theorem dX9_feed_34 : decode cX9_feed 34 = .ok (.iload_n 1, 1) := by decide +kernel
theorem dX9_feed_35 : decode cX9_feed 35 = .ok (.goto 39, 3) := by decide +kernel
theorem dX9_feed_38 : decode cX9_feed 38 = .ok (.iload 6, 2) := by decide +kernel
theorem dX9_feed_40 : decode cX9_feed 40 = .ok (.bipush 8, 2) := by decide +kernel
theorem dX9_feed_42 : decode cX9_feed 42 = .ok (.if_icmp .ge 7, 3) := by decide +kernel
theorem dX9_feed_45 : decode cX9_feed 45 = .ok (.iload_n 2, 1) := by decide +kernel
theorem dX9_feed_46 : decode cX9_feed 46 = .ok (.goto 28, 3) := by decide +kernel
theorem dX9_feed_49 : decode cX9_feed 49 = .ok (.iload 6, 2) := by decide +kernel
theorem dX9_feed_51 : decode cX9_feed 51 = .ok (.bipush 12, 2) := by decide +kernel
theorem dX9_feed_53 : decode cX9_feed 53 = .ok (.if_icmp .ge 7, 3) := by decide +kernel
theorem dX9_feed_56 : decode cX9_feed 56 = .ok (.iload_n 3, 1) := by decide +kernel
theorem dX9_feed_57 : decode cX9_feed 57 = .ok (.goto 17, 3) := by decide +kernel
theorem dX9_feed_60 : decode cX9_feed 60 = .ok (.iload 6, 2) := by decide +kernel
theorem dX9_feed_62 : decode cX9_feed 62 = .ok (.bipush 16, 2) := by decide +kernel
theorem dX9_feed_64 : decode cX9_feed 64 = .ok (.if_icmp .ge 8, 3) := by decide +kernel
theorem dX9_feed_67 : decode cX9_feed 67 = .ok (.iload 4, 2) := by decide +kernel
theorem dX9_feed_69 : decode cX9_feed 69 = .ok (.goto 5, 3) := by decide +kernel
theorem dX9_feed_72 : decode cX9_feed 72 = .ok (.iload 5, 2) := by decide +kernel
theorem dX9_feed_74 : decode cX9_feed 74 = .ok (.istore 7, 2) := by decide +kernel
theorem dX9_feed_76 : decode cX9_feed 76 = .ok (.aload_n 0, 1) := by decide +kernel
theorem dX9_feed_77 : decode cX9_feed 77 = .ok (.getfield 13, 3) := by decide +kernel
theorem dX9_feed_80 : decode cX9_feed 80 = .ok (.aload_n 0, 1) := by decide +kernel
theorem dX9_feed_81 : decode cX9_feed 81 = .ok (.getfield 70, 3) := by decide +kernel
theorem dX9_feed_84 : decode cX9_feed 84 = .ok (.iload 6, 2) := by decide +kernel
theorem dX9_feed_86 : decode cX9_feed 86 = .ok (.iadd, 1) := by decide +kernel
theorem dX9_feed_87 : decode cX9_feed 87 = .ok (.iload 7, 2) := by decide +kernel
theorem dX9_feed_89 : decode cX9_feed 89 = .ok (.bipush 24, 2) := by decide +kernel
theorem dX9_feed_91 : decode cX9_feed 91 = .ok (.bipush 8, 2) := by decide +kernel
theorem dX9_feed_93 : decode cX9_feed 93 = .ok (.iload 6, 2) := by decide +kernel
theorem dX9_feed_95 : decode cX9_feed 95 = .ok (.iconst 4, 1) := by decide +kernel
theorem dX9_feed_96 : decode cX9_feed 96 = .ok (.irem, 1) := by decide +kernel
theorem dX9_feed_97 : decode cX9_feed 97 = .ok (.imul, 1) := by decide +kernel
theorem dX9_feed_98 : decode cX9_feed 98 = .ok (.isub, 1) := by decide +kernel
theorem dX9_feed_99 : decode cX9_feed 99 = .ok (.ishr, 1) := by decide +kernel
theorem dX9_feed_100 : decode cX9_feed 100 = .ok (.sipush 255, 3) := by decide +kernel
theorem dX9_feed_103 : decode cX9_feed 103 = .ok (.iand, 1) := by decide +kernel
theorem dX9_feed_104 : decode cX9_feed 104 = .ok (.iastore, 1) := by decide +kernel
theorem dX9_feed_105 : decode cX9_feed 105 = .ok (.iinc 6 1, 3) := by decide +kernel
theorem dX9_feed_108 : decode cX9_feed 108 = .ok (.goto (-87), 3) := by decide +kernel
theorem dX9_feed_111 : decode cX9_feed 111 = .ok (.aload_n 0, 1) := by decide +kernel
theorem dX9_feed_112 : decode cX9_feed 112 = .ok (.dup, 1) := by decide +kernel
theorem dX9_feed_113 : decode cX9_feed 113 = .ok (.getfield 70, 3) := by decide +kernel
theorem dX9_feed_116 : decode cX9_feed 116 = .ok (.bipush 20, 2) := by decide +kernel
theorem dX9_feed_118 : decode cX9_feed 118 = .ok (.iadd, 1) := by decide +kernel
theorem dX9_feed_119 : decode cX9_feed 119 = .ok (.putfield 70, 3) := by decide +kernel
theorem dX9_feed_122 : decode cX9_feed 122 = .ok (.aload_n 0, 1) := by decide +kernel
theorem dX9_feed_123 : decode cX9_feed 123 = .ok (.getfield 70, 3) := by decide +kernel
theorem dX9_feed_126 : decode cX9_feed 126 = .ok (.ireturn, 1) := by decide +kernel
theorem dX9_end_0 : decode cX9_end 0 = .ok (.aload_n 0, 1) := by decide +kernel
theorem dX9_end_1 : decode cX9_end 1 = .ok (.iconst 0, 1) := by decide +kernel
theorem dX9_end_2 : decode cX9_end 2 = .ok (.putfield 1, 3) := by decide +kernel
theorem dX9_end_5 : decode cX9_end 5 = .ok (.iload_n 1, 1) := by decide +kernel
theorem dX9_end_6 : decode cX9_end 6 = .ok (.i2l, 1) := by decide +kernel
theorem dX9_end_7 : decode cX9_end 7 = .ok (.lconst 0, 1) := by decide +kernel
theorem dX9_end_8 : decode cX9_end 8 = .ok (.aload_n 0, 1) := by decide +kernel
theorem dX9_end_9 : decode cX9_end 9 = .ok (.getfield 70, 3) := by decide +kernel
theorem dX9_end_12 : decode cX9_end 12 = .ok (.i2l, 1) := by decide +kernel
theorem dX9_end_13 : decode cX9_end 13 = .ok (.invokestatic 74, 3) := by decide +kernel
theorem dX9_end_16 : decode cX9_end 16 = .ok (.ifCond .ne 5, 3) := by decide +kernel
theorem dX9_end_19 : decode cX9_end 19 = .ok (.iconst 0, 1) := by decide +kernel
theorem dX9_end_20 : decode cX9_end 20 = .ok (.ireturn, 1) := by decide +kernel
theorem dX9_end_21 : decode cX9_end 21 = .ok (.aload_n 0, 1) := by decide +kernel
theorem dX9_end_22 : decode cX9_end 22 = .ok (.iload_n 1, 1) := by decide +kernel
theorem dX9_end_23 : decode cX9_end 23 = .ok (.putfield 70, 3) := by decide +kernel
theorem dX9_end_26 : decode cX9_end 26 = .ok (.iconst 1, 1) := by decide +kernel
theorem dX9_end_27 : decode cX9_end 27 = .ok (.ireturn, 1) := by decide +kernel
theorem dX9_sixteen_0 : decode cX9_sixteen 0 = .ok (.iload_n 0, 1) := by decide +kernel
theorem dX9_sixteen_1 : decode cX9_sixteen 1 = .ok (.i2l, 1) := by decide +kernel
theorem dX9_sixteen_2 : decode cX9_sixteen 2 = .ok (.ldc2_w 78, 3) := by decide +kernel
theorem dX9_sixteen_5 : decode cX9_sixteen 5 = .ok (.ldc2_w 80, 3) := by decide +kernel
theorem dX9_sixteen_8 : decode cX9_sixteen 8 = .ok (.invokestatic 74, 3) := by decide +kernel
theorem dX9_sixteen_11 : decode cX9_sixteen 11 = .ok (.ifCond .eq 10, 3) := by decide +kernel
theorem dX9_sixteen_14 : decode cX9_sixteen 14 = .ok (.iload_n 0, 1) := by decide +kernel
theorem dX9_sixteen_15 : decode cX9_sixteen 15 = .ok (.bipush 48, 2) := by decide +kernel
theorem dX9_sixteen_17 : decode cX9_sixteen 17 = .ok (.isub, 1) := by decide +kernel
theorem dX9_sixteen_18 : decode cX9_sixteen 18 = .ok (.goto 28, 3) := by decide +kernel
theorem dX9_sixteen_21 : decode cX9_sixteen 21 = .ok (.iload_n 0, 1) := by decide +kernel
theorem dX9_sixteen_22 : decode cX9_sixteen 22 = .ok (.i2l, 1) := by decide +kernel
theorem dX9_sixteen_23 : decode cX9_sixteen 23 = .ok (.ldc2_w 82, 3) := by decide +kernel
theorem dX9_sixteen_26 : decode cX9_sixteen 26 = .ok (.ldc2_w 84, 3) := by decide +kernel
theorem dX9_sixteen_29 : decode cX9_sixteen 29 = .ok (.invokestatic 74, 3) := by decide +kernel
theorem dX9_sixteen_32 : decode cX9_sixteen 32 = .ok (.ifCond .eq 13, 3) := by decide +kernel
theorem dX9_sixteen_35 : decode cX9_sixteen 35 = .ok (.iload_n 0, 1) := by decide +kernel
theorem dX9_sixteen_36 : decode cX9_sixteen 36 = .ok (.bipush 65, 2) := by decide +kernel
theorem dX9_sixteen_38 : decode cX9_sixteen 38 = .ok (.isub, 1) := by decide +kernel
theorem dX9_sixteen_39 : decode cX9_sixteen 39 = .ok (.bipush 10, 2) := by decide +kernel
theorem dX9_sixteen_41 : decode cX9_sixteen 41 = .ok (.iadd, 1) := by decide +kernel
theorem dX9_sixteen_42 : decode cX9_sixteen 42 = .ok (.goto 4, 3) := by decide +kernel
theorem dX9_sixteen_45 : decode cX9_sixteen 45 = .ok (.iconst (-1), 1) := by decide +kernel
theorem dX9_sixteen_46 : decode cX9_sixteen 46 = .ok (.ireturn, 1) := by decide +kernel
theorem dX9_stream_0 : decode cX9_stream 0 = .ok (.aload_n 0, 1) := by decide +kernel
theorem dX9_stream_1 : decode cX9_stream 1 = .ok (.iconst 0, 1) := by decide +kernel
theorem dX9_stream_2 : decode cX9_stream 2 = .ok (.putfield 1, 3) := by decide +kernel
theorem dX9_stream_5 : decode cX9_stream 5 = .ok (.aload_n 0, 1) := by decide +kernel
theorem dX9_stream_6 : decode cX9_stream 6 = .ok (.getfield 23, 3) := by decide +kernel
theorem dX9_stream_9 : decode cX9_stream 9 = .ok (.iconst 0, 1) := by decide +kernel
theorem dX9_stream_10 : decode cX9_stream 10 = .ok (.iaload, 1) := by decide +kernel
theorem dX9_stream_11 : decode cX9_stream 11 = .ok (.istore_n 1, 1) := by decide +kernel
theorem dX9_stream_12 : decode cX9_stream 12 = .ok (.aload_n 0, 1) := by decide +kernel
theorem dX9_stream_13 : decode cX9_stream 13 = .ok (.getfield 70, 3) := by decide +kernel
theorem dX9_stream_16 : decode cX9_stream 16 = .ok (.istore_n 2, 1) := by decide +kernel
theorem dX9_stream_17 : decode cX9_stream 17 = .ok (.aload_n 0, 1) := by decide +kernel
theorem dX9_stream_18 : decode cX9_stream 18 = .ok (.iconst 0, 1) := by decide +kernel
theorem dX9_stream_19 : decode cX9_stream 19 = .ok (.putfield 70, 3) := by decide +kernel
theorem dX9_stream_22 : decode cX9_stream 22 = .ok (.iconst 0, 1) := by decide +kernel
theorem dX9_stream_23 : decode cX9_stream 23 = .ok (.istore_n 3, 1) := by decide +kernel
theorem dX9_stream_24 : decode cX9_stream 24 = .ok (.iload_n 3, 1) := by decide +kernel
theorem dX9_stream_25 : decode cX9_stream 25 = .ok (.iload_n 2, 1) := by decide +kernel
theorem dX9_stream_26 : decode cX9_stream 26 = .ok (.if_icmp .ge 19, 3) := by decide +kernel
theorem dX9_stream_29 : decode cX9_stream 29 = .ok (.aload_n 0, 1) := by decide +kernel
theorem dX9_stream_30 : decode cX9_stream 30 = .ok (.aload_n 0, 1) := by decide +kernel
theorem dX9_stream_31 : decode cX9_stream 31 = .ok (.getfield 13, 3) := by decide +kernel
theorem dX9_stream_34 : decode cX9_stream 34 = .ok (.iload_n 3, 1) := by decide +kernel
theorem dX9_stream_35 : decode cX9_stream 35 = .ok (.iaload, 1) := by decide +kernel
theorem dX9_stream_36 : decode cX9_stream 36 = .ok (.invokevirtual 86, 3) := by decide +kernel
theorem dX9_stream_39 : decode cX9_stream 39 = .ok (.iinc 3 1, 3) := by decide +kernel
theorem dX9_stream_42 : decode cX9_stream 42 = .ok (.goto (-18), 3) := by decide +kernel
theorem dX9_stream_45 : decode cX9_stream 45 = .ok (.aload_n 0, 1) := by decide +kernel
theorem dX9_stream_46 : decode cX9_stream 46 = .ok (.getfield 23, 3) := by decide +kernel
theorem dX9_stream_49 : decode cX9_stream 49 = .ok (.iconst 0, 1) := by decide +kernel
theorem dX9_stream_50 : decode cX9_stream 50 = .ok (.iaload, 1) := by decide +kernel
theorem dX9_stream_51 : decode cX9_stream 51 = .ok (.iload_n 1, 1) := by decide +kernel
theorem dX9_stream_52 : decode cX9_stream 52 = .ok (.isub, 1) := by decide +kernel
theorem dX9_stream_53 : decode cX9_stream 53 = .ok (.ireturn, 1) := by decide +kernel
theorem dX9_comes_0 : decode cX9_comes 0 = .ok (.iload_n 1, 1) := by decide +kernel
theorem dX9_comes_1 : decode cX9_comes 1 = .ok (.bipush 36, 2) := by decide +kernel
theorem dX9_comes_3 : decode cX9_comes 3 = .ok (.if_icmp .eq 9, 3) := by decide +kernel
theorem dX9_comes_6 : decode cX9_comes 6 = .ok (.iload_n 1, 1) := by decide +kernel
theorem dX9_comes_7 : decode cX9_comes 7 = .ok (.bipush 33, 2) := by decide +kernel
theorem dX9_comes_9 : decode cX9_comes 9 = .ok (.if_icmp .ne 47, 3) := by decide +kernel
theorem dX9_comes_12 : decode cX9_comes 12 = .ok (.aload_n 0, 1) := by decide +kernel
theorem dX9_comes_13 : decode cX9_comes 13 = .ok (.getfield 23, 3) := by decide +kernel
theorem dX9_comes_16 : decode cX9_comes 16 = .ok (.iconst 1, 1) := by decide +kernel
theorem dX9_comes_17 : decode cX9_comes 17 = .ok (.dup2, 1) := by decide +kernel
theorem dX9_comes_18 : decode cX9_comes 18 = .ok (.iaload, 1) := by decide +kernel
theorem dX9_comes_19 : decode cX9_comes 19 = .ok (.aload_n 0, 1) := by decide +kernel
theorem dX9_comes_20 : decode cX9_comes 20 = .ok (.getfield 90, 3) := by decide +kernel
theorem dX9_comes_23 : decode cX9_comes 23 = .ok (.ifCond .eq 7, 3) := by decide +kernel
theorem dX9_comes_26 : decode cX9_comes 26 = .ok (.iconst 1, 1) := by decide +kernel
theorem dX9_comes_27 : decode cX9_comes 27 = .ok (.goto 4, 3) := by decide +kernel
theorem dX9_comes_30 : decode cX9_comes 30 = .ok (.iconst 0, 1) := by decide +kernel
theorem dX9_comes_31 : decode cX9_comes 31 = .ok (.iadd, 1) := by decide +kernel
theorem dX9_comes_32 : decode cX9_comes 32 = .ok (.iastore, 1) := by decide +kernel
theorem dX9_comes_33 : decode cX9_comes 33 = .ok (.aload_n 0, 1) := by decide +kernel
theorem dX9_comes_34 : decode cX9_comes 34 = .ok (.iconst 1, 1) := by decide +kernel
theorem dX9_comes_35 : decode cX9_comes 35 = .ok (.putfield 90, 3) := by decide +kernel
theorem dX9_comes_38 : decode cX9_comes 38 = .ok (.aload_n 0, 1) := by decide +kernel
theorem dX9_comes_39 : decode cX9_comes 39 = .ok (.getfield 20, 3) := by decide +kernel
theorem dX9_comes_42 : decode cX9_comes 42 = .ok (.iconst 0, 1) := by decide +kernel
theorem dX9_comes_43 : decode cX9_comes 43 = .ok (.iload_n 1, 1) := by decide +kernel
theorem dX9_comes_44 : decode cX9_comes 44 = .ok (.iastore, 1) := by decide +kernel
theorem dX9_comes_45 : decode cX9_comes 45 = .ok (.aload_n 0, 1) := by decide +kernel
theorem dX9_comes_46 : decode cX9_comes 46 = .ok (.iconst 1, 1) := by decide +kernel
theorem dX9_comes_47 : decode cX9_comes 47 = .ok (.putfield 93, 3) := by decide +kernel
theorem dX9_comes_50 : decode cX9_comes 50 = .ok (.aload_n 0, 1) := by decide +kernel
theorem dX9_comes_51 : decode cX9_comes 51 = .ok (.iconst 0, 1) := by decide +kernel
theorem dX9_comes_52 : decode cX9_comes 52 = .ok (.putfield 96, 3) := by decide +kernel
theorem dX9_comes_55 : decode cX9_comes 55 = .ok (.return_, 1) := by decide +kernel
theorem dX9_comes_56 : decode cX9_comes 56 = .ok (.aload_n 0, 1) := by decide +kernel
theorem dX9_comes_57 : decode cX9_comes 57 = .ok (.getfield 90, 3) := by decide +kernel
theorem dX9_comes_60 : decode cX9_comes 60 = .ok (.ifCond .ne 4, 3) := by decide +kernel
theorem dX9_comes_63 : decode cX9_comes 63 = .ok (.return_, 1) := by decide +kernel
theorem dX9_comes_64 : decode cX9_comes 64 = .ok (.aload_n 0, 1) := by decide +kernel
theorem dX9_comes_65 : decode cX9_comes 65 = .ok (.getfield 90, 3) := by decide +kernel
theorem dX9_comes_68 : decode cX9_comes 68 = .ok (.iconst 1, 1) := by decide +kernel
theorem dX9_comes_69 : decode cX9_comes 69 = .ok (.if_icmp .ne 109, 3) := by decide +kernel
theorem dX9_comes_72 : decode cX9_comes 72 = .ok (.iload_n 1, 1) := by decide +kernel
theorem dX9_comes_73 : decode cX9_comes 73 = .ok (.bipush 42, 2) := by decide +kernel
theorem dX9_comes_75 : decode cX9_comes 75 = .ok (.if_icmp .ne 19, 3) := by decide +kernel
theorem dX9_comes_78 : decode cX9_comes 78 = .ok (.aload_n 0, 1) := by decide +kernel
theorem dX9_comes_79 : decode cX9_comes 79 = .ok (.getfield 93, 3) := by decide +kernel
theorem dX9_comes_82 : decode cX9_comes 82 = .ok (.iconst 1, 1) := by decide +kernel
theorem dX9_comes_83 : decode cX9_comes 83 = .ok (.if_icmp .le 7, 3) := by decide +kernel
theorem dX9_comes_86 : decode cX9_comes 86 = .ok (.iconst 1, 1) := by decide +kernel
theorem dX9_comes_87 : decode cX9_comes 87 = .ok (.goto 35, 3) := by decide +kernel
theorem dX9_comes_90 : decode cX9_comes 90 = .ok (.iconst 0, 1) := by decide +kernel
theorem dX9_comes_91 : decode cX9_comes 91 = .ok (.goto 31, 3) := by decide +kernel
theorem dX9_comes_94 : decode cX9_comes 94 = .ok (.iload_n 1, 1) := by decide +kernel
theorem dX9_comes_95 : decode cX9_comes 95 = .ok (.i2l, 1) := by decide +kernel
theorem dX9_comes_96 : decode cX9_comes 96 = .ok (.ldc2_w 99, 3) := by decide +kernel
theorem dX9_comes_99 : decode cX9_comes 99 = .ok (.ldc2_w 101, 3) := by decide +kernel
theorem dX9_comes_102 : decode cX9_comes 102 = .ok (.invokestatic 74, 3) := by decide +kernel
theorem dX9_comes_105 : decode cX9_comes 105 = .ok (.ifCond .eq 16, 3) := by decide +kernel
theorem dX9_comes_108 : decode cX9_comes 108 = .ok (.aload_n 0, 1) := by decide +kernel
theorem dX9_comes_109 : decode cX9_comes 109 = .ok (.getfield 93, 3) := by decide +kernel
theorem dX9_comes_112 : decode cX9_comes 112 = .ok (.bipush 78, 2) := by decide +kernel
theorem dX9_comes_114 : decode cX9_comes 114 = .ok (.if_icmp .gt 7, 3) := by decide +kernel
theorem dX9_comes_117 : decode cX9_comes 117 = .ok (.iconst 1, 1) := by decide +kernel
theorem dX9_comes_118 : decode cX9_comes 118 = .ok (.goto 4, 3) := by decide +kernel
theorem dX9_comes_121 : decode cX9_comes 121 = .ok (.iconst 0, 1) := by decide +kernel
theorem dX9_comes_122 : decode cX9_comes 122 = .ok (.istore_n 2, 1) := by decide +kernel
theorem dX9_comes_123 : decode cX9_comes 123 = .ok (.iload_n 2, 1) := by decide +kernel
theorem dX9_comes_124 : decode cX9_comes 124 = .ok (.ifCond .eq 17, 3) := by decide +kernel
theorem dX9_comes_127 : decode cX9_comes 127 = .ok (.iload_n 1, 1) := by decide +kernel
theorem dX9_comes_128 : decode cX9_comes 128 = .ok (.bipush 42, 2) := by decide +kernel
theorem dX9_comes_130 : decode cX9_comes 130 = .ok (.if_icmp .ne 11, 3) := by decide +kernel
theorem dX9_comes_133 : decode cX9_comes 133 = .ok (.aload_n 0, 1) := by decide +kernel
theorem dX9_comes_134 : decode cX9_comes 134 = .ok (.iconst 2, 1) := by decide +kernel
theorem dX9_comes_135 : decode cX9_comes 135 = .ok (.putfield 90, 3) := by decide +kernel
theorem dX9_comes_138 : decode cX9_comes 138 = .ok (.goto 140, 3) := by decide +kernel
theorem dX9_comes_141 : decode cX9_comes 141 = .ok (.iload_n 2, 1) := by decide +kernel
theorem dX9_comes_142 : decode cX9_comes 142 = .ok (.ifCond .eq 136, 3) := by decide +kernel
theorem dX9_comes_145 : decode cX9_comes 145 = .ok (.aload_n 0, 1) := by decide +kernel
theorem dX9_comes_146 : decode cX9_comes 146 = .ok (.getfield 20, 3) := by decide +kernel
theorem dX9_comes_149 : decode cX9_comes 149 = .ok (.aload_n 0, 1) := by decide +kernel
theorem dX9_comes_150 : decode cX9_comes 150 = .ok (.getfield 93, 3) := by decide +kernel
theorem dX9_comes_153 : decode cX9_comes 153 = .ok (.iload_n 1, 1) := by decide +kernel
theorem dX9_comes_154 : decode cX9_comes 154 = .ok (.iastore, 1) := by decide +kernel
theorem dX9_comes_155 : decode cX9_comes 155 = .ok (.aload_n 0, 1) := by decide +kernel
theorem dX9_comes_156 : decode cX9_comes 156 = .ok (.dup, 1) := by decide +kernel
theorem dX9_comes_157 : decode cX9_comes 157 = .ok (.getfield 93, 3) := by decide +kernel
theorem dX9_comes_160 : decode cX9_comes 160 = .ok (.iconst 1, 1) := by decide +kernel
theorem dX9_comes_161 : decode cX9_comes 161 = .ok (.iadd, 1) := by decide +kernel
theorem dX9_comes_162 : decode cX9_comes 162 = .ok (.putfield 93, 3) := by decide +kernel
theorem dX9_comes_165 : decode cX9_comes 165 = .ok (.aload_n 0, 1) := by decide +kernel
theorem dX9_comes_166 : decode cX9_comes 166 = .ok (.dup, 1) := by decide +kernel
theorem dX9_comes_167 : decode cX9_comes 167 = .ok (.getfield 96, 3) := by decide +kernel
theorem dX9_comes_170 : decode cX9_comes 170 = .ok (.iload_n 1, 1) := by decide +kernel
theorem dX9_comes_171 : decode cX9_comes 171 = .ok (.ixor, 1) := by decide +kernel
theorem dX9_comes_172 : decode cX9_comes 172 = .ok (.putfield 96, 3) := by decide +kernel
theorem dX9_comes_175 : decode cX9_comes 175 = .ok (.goto 103, 3) := by decide +kernel
theorem dX9_comes_178 : decode cX9_comes 178 = .ok (.aload_n 0, 1) := by decide +kernel
theorem dX9_comes_179 : decode cX9_comes 179 = .ok (.getfield 90, 3) := by decide +kernel
theorem dX9_comes_182 : decode cX9_comes 182 = .ok (.iconst 4, 1) := by decide +kernel
theorem dX9_comes_183 : decode cX9_comes 183 = .ok (.if_icmp .ge 60, 3) := by decide +kernel
theorem dX9_comes_186 : decode cX9_comes 186 = .ok (.iload_n 1, 1) := by decide +kernel
theorem dX9_comes_187 : decode cX9_comes 187 = .ok (.invokestatic 103, 3) := by decide +kernel
theorem dX9_comes_190 : decode cX9_comes 190 = .ok (.ifCond .lt 7, 3) := by decide +kernel
theorem dX9_comes_193 : decode cX9_comes 193 = .ok (.iconst 1, 1) := by decide +kernel
theorem dX9_comes_194 : decode cX9_comes 194 = .ok (.goto 4, 3) := by decide +kernel
theorem dX9_comes_197 : decode cX9_comes 197 = .ok (.iconst 0, 1) := by decide +kernel
theorem dX9_comes_198 : decode cX9_comes 198 = .ok (.istore_n 2, 1) := by decide +kernel
theorem dX9_comes_199 : decode cX9_comes 199 = .ok (.aload_n 0, 1) := by decide +kernel
theorem dX9_comes_200 : decode cX9_comes 200 = .ok (.aload_n 0, 1) := by decide +kernel
theorem dX9_comes_201 : decode cX9_comes 201 = .ok (.getfield 90, 3) := by decide +kernel
theorem dX9_comes_204 : decode cX9_comes 204 = .ok (.iconst 2, 1) := by decide +kernel
theorem dX9_comes_205 : decode cX9_comes 205 = .ok (.if_icmp .ne 10, 3) := by decide +kernel
theorem dX9_comes_208 : decode cX9_comes 208 = .ok (.iload_n 1, 1) := by decide +kernel
theorem dX9_comes_209 : decode cX9_comes 209 = .ok (.invokestatic 103, 3) := by decide +kernel
theorem dX9_comes_212 : decode cX9_comes 212 = .ok (.goto 15, 3) := by decide +kernel
theorem dX9_comes_215 : decode cX9_comes 215 = .ok (.bipush 16, 2) := by decide +kernel
theorem dX9_comes_217 : decode cX9_comes 217 = .ok (.aload_n 0, 1) := by decide +kernel
theorem dX9_comes_218 : decode cX9_comes 218 = .ok (.getfield 107, 3) := by decide +kernel
theorem dX9_comes_221 : decode cX9_comes 221 = .ok (.imul, 1) := by decide +kernel
theorem dX9_comes_222 : decode cX9_comes 222 = .ok (.iload_n 1, 1) := by decide +kernel
theorem dX9_comes_223 : decode cX9_comes 223 = .ok (.invokestatic 103, 3) := by decide +kernel
theorem dX9_comes_226 : decode cX9_comes 226 = .ok (.iadd, 1) := by decide +kernel
theorem dX9_comes_227 : decode cX9_comes 227 = .ok (.putfield 107, 3) := by decide +kernel
theorem dX9_comes_230 : decode cX9_comes 230 = .ok (.aload_n 0, 1) := by decide +kernel
theorem dX9_comes_231 : decode cX9_comes 231 = .ok (.dup, 1) := by decide +kernel
theorem dX9_comes_232 : decode cX9_comes 232 = .ok (.getfield 90, 3) := by decide +kernel
theorem dX9_comes_235 : decode cX9_comes 235 = .ok (.iconst 1, 1) := by decide +kernel
theorem dX9_comes_236 : decode cX9_comes 236 = .ok (.iadd, 1) := by decide +kernel
theorem dX9_comes_237 : decode cX9_comes 237 = .ok (.putfield 90, 3) := by decide +kernel
theorem dX9_comes_240 : decode cX9_comes 240 = .ok (.goto 38, 3) := by decide +kernel
theorem dX9_comes_243 : decode cX9_comes 243 = .ok (.iload_n 1, 1) := by decide +kernel
theorem dX9_comes_244 : decode cX9_comes 244 = .ok (.aload_n 0, 1) := by decide +kernel
theorem dX9_comes_245 : decode cX9_comes 245 = .ok (.getfield 90, 3) := by decide +kernel
theorem dX9_comes_248 : decode cX9_comes 248 = .ok (.iconst 4, 1) := by decide +kernel
theorem dX9_comes_249 : decode cX9_comes 249 = .ok (.if_icmp .ne 8, 3) := by decide +kernel
theorem dX9_comes_252 : decode cX9_comes 252 = .ok (.bipush 13, 2) := by decide +kernel
theorem dX9_comes_254 : decode cX9_comes 254 = .ok (.goto 5, 3) := by decide +kernel
theorem dX9_comes_257 : decode cX9_comes 257 = .ok (.bipush 10, 2) := by decide +kernel
theorem dX9_comes_259 : decode cX9_comes 259 = .ok (.if_icmp .ne 7, 3) := by decide +kernel
theorem dX9_comes_262 : decode cX9_comes 262 = .ok (.iconst 1, 1) := by decide +kernel
theorem dX9_comes_263 : decode cX9_comes 263 = .ok (.goto 4, 3) := by decide +kernel
theorem dX9_comes_266 : decode cX9_comes 266 = .ok (.iconst 0, 1) := by decide +kernel
theorem dX9_comes_267 : decode cX9_comes 267 = .ok (.istore_n 2, 1) := by decide +kernel
theorem dX9_comes_268 : decode cX9_comes 268 = .ok (.aload_n 0, 1) := by decide +kernel
theorem dX9_comes_269 : decode cX9_comes 269 = .ok (.dup, 1) := by decide +kernel
theorem dX9_comes_270 : decode cX9_comes 270 = .ok (.getfield 90, 3) := by decide +kernel
theorem dX9_comes_273 : decode cX9_comes 273 = .ok (.iconst 1, 1) := by decide +kernel
theorem dX9_comes_274 : decode cX9_comes 274 = .ok (.iadd, 1) := by decide +kernel
theorem dX9_comes_275 : decode cX9_comes 275 = .ok (.putfield 90, 3) := by decide +kernel
theorem dX9_comes_278 : decode cX9_comes 278 = .ok (.iload_n 2, 1) := by decide +kernel
theorem dX9_comes_279 : decode cX9_comes 279 = .ok (.ifCond .ne 21, 3) := by decide +kernel
theorem dX9_comes_282 : decode cX9_comes 282 = .ok (.aload_n 0, 1) := by decide +kernel
theorem dX9_comes_283 : decode cX9_comes 283 = .ok (.getfield 23, 3) := by decide +kernel
theorem dX9_comes_286 : decode cX9_comes 286 = .ok (.iconst 1, 1) := by decide +kernel
theorem dX9_comes_287 : decode cX9_comes 287 = .ok (.dup2, 1) := by decide +kernel
theorem dX9_comes_288 : decode cX9_comes 288 = .ok (.iaload, 1) := by decide +kernel
theorem dX9_comes_289 : decode cX9_comes 289 = .ok (.iconst 1, 1) := by decide +kernel
theorem dX9_comes_290 : decode cX9_comes 290 = .ok (.iadd, 1) := by decide +kernel
theorem dX9_comes_291 : decode cX9_comes 291 = .ok (.iastore, 1) := by decide +kernel
theorem dX9_comes_292 : decode cX9_comes 292 = .ok (.aload_n 0, 1) := by decide +kernel
theorem dX9_comes_293 : decode cX9_comes 293 = .ok (.iconst 0, 1) := by decide +kernel
theorem dX9_comes_294 : decode cX9_comes 294 = .ok (.putfield 90, 3) := by decide +kernel
theorem dX9_comes_297 : decode cX9_comes 297 = .ok (.goto 21, 3) := by decide +kernel
theorem dX9_comes_300 : decode cX9_comes 300 = .ok (.aload_n 0, 1) := by decide +kernel
theorem dX9_comes_301 : decode cX9_comes 301 = .ok (.getfield 90, 3) := by decide +kernel
theorem dX9_comes_304 : decode cX9_comes 304 = .ok (.bipush 6, 2) := by decide +kernel
theorem dX9_comes_306 : decode cX9_comes 306 = .ok (.if_icmp .ne 12, 3) := by decide +kernel
theorem dX9_comes_309 : decode cX9_comes 309 = .ok (.aload_n 0, 1) := by decide +kernel
theorem dX9_comes_310 : decode cX9_comes 310 = .ok (.iconst 0, 1) := by decide +kernel
theorem dX9_comes_311 : decode cX9_comes 311 = .ok (.putfield 90, 3) := by decide +kernel
theorem dX9_comes_314 : decode cX9_comes 314 = .ok (.aload_n 0, 1) := by decide +kernel
theorem dX9_comes_315 : decode cX9_comes 315 = .ok (.invokevirtual 110, 3) := by decide +kernel
theorem dX9_comes_318 : decode cX9_comes 318 = .ok (.return_, 1) := by decide +kernel
theorem dX9_ended_0 : decode cX9_ended 0 = .ok (.aload_n 0, 1) := by decide +kernel
theorem dX9_ended_1 : decode cX9_ended 1 = .ok (.getfield 107, 3) := by decide +kernel
theorem dX9_ended_4 : decode cX9_ended 4 = .ok (.aload_n 0, 1) := by decide +kernel
theorem dX9_ended_5 : decode cX9_ended 5 = .ok (.getfield 96, 3) := by decide +kernel
theorem dX9_ended_8 : decode cX9_ended 8 = .ok (.if_icmp .eq 14, 3) := by decide +kernel
theorem dX9_ended_11 : decode cX9_ended 11 = .ok (.aload_n 0, 1) := by decide +kernel
theorem dX9_ended_12 : decode cX9_ended 12 = .ok (.getfield 23, 3) := by decide +kernel
theorem dX9_ended_15 : decode cX9_ended 15 = .ok (.iconst 2, 1) := by decide +kernel
theorem dX9_ended_16 : decode cX9_ended 16 = .ok (.dup2, 1) := by decide +kernel
theorem dX9_ended_17 : decode cX9_ended 17 = .ok (.iaload, 1) := by decide +kernel
theorem dX9_ended_18 : decode cX9_ended 18 = .ok (.iconst 1, 1) := by decide +kernel
theorem dX9_ended_19 : decode cX9_ended 19 = .ok (.iadd, 1) := by decide +kernel
theorem dX9_ended_20 : decode cX9_ended 20 = .ok (.iastore, 1) := by decide +kernel
theorem dX9_ended_21 : decode cX9_ended 21 = .ok (.return_, 1) := by decide +kernel
theorem dX9_ended_22 : decode cX9_ended 22 = .ok (.aload_n 0, 1) := by decide +kernel
theorem dX9_ended_23 : decode cX9_ended 23 = .ok (.iconst 0, 1) := by decide +kernel
theorem dX9_ended_24 : decode cX9_ended 24 = .ok (.putfield 113, 3) := by decide +kernel
theorem dX9_ended_27 : decode cX9_ended 27 = .ok (.aload_n 0, 1) := by decide +kernel
theorem dX9_ended_28 : decode cX9_ended 28 = .ok (.getfield 26, 3) := by decide +kernel
theorem dX9_ended_31 : decode cX9_ended 31 = .ok (.iconst 0, 1) := by decide +kernel
theorem dX9_ended_32 : decode cX9_ended 32 = .ok (.iconst 1, 1) := by decide +kernel
theorem dX9_ended_33 : decode cX9_ended 33 = .ok (.iastore, 1) := by decide +kernel
theorem dX9_ended_34 : decode cX9_ended 34 = .ok (.iconst 1, 1) := by decide +kernel
theorem dX9_ended_35 : decode cX9_ended 35 = .ok (.istore_n 1, 1) := by decide +kernel
theorem dX9_ended_36 : decode cX9_ended 36 = .ok (.iload_n 1, 1) := by decide +kernel
theorem dX9_ended_37 : decode cX9_ended 37 = .ok (.aload_n 0, 1) := by decide +kernel
theorem dX9_ended_38 : decode cX9_ended 38 = .ok (.getfield 93, 3) := by decide +kernel
theorem dX9_ended_41 : decode cX9_ended 41 = .ok (.if_icmp .gt 60, 3) := by decide +kernel
theorem dX9_ended_44 : decode cX9_ended 44 = .ok (.iload_n 1, 1) := by decide +kernel
theorem dX9_ended_45 : decode cX9_ended 45 = .ok (.aload_n 0, 1) := by decide +kernel
theorem dX9_ended_46 : decode cX9_ended 46 = .ok (.getfield 93, 3) := by decide +kernel
theorem dX9_ended_49 : decode cX9_ended 49 = .ok (.if_icmp .eq 14, 3) := by decide +kernel
theorem dX9_ended_52 : decode cX9_ended 52 = .ok (.aload_n 0, 1) := by decide +kernel
theorem dX9_ended_53 : decode cX9_ended 53 = .ok (.getfield 20, 3) := by decide +kernel
theorem dX9_ended_56 : decode cX9_ended 56 = .ok (.iload_n 1, 1) := by decide +kernel
theorem dX9_ended_57 : decode cX9_ended 57 = .ok (.iaload, 1) := by decide +kernel
theorem dX9_ended_58 : decode cX9_ended 58 = .ok (.bipush 44, 2) := by decide +kernel
theorem dX9_ended_60 : decode cX9_ended 60 = .ok (.if_icmp .ne 35, 3) := by decide +kernel
theorem dX9_ended_63 : decode cX9_ended 63 = .ok (.aload_n 0, 1) := by decide +kernel
theorem dX9_ended_64 : decode cX9_ended 64 = .ok (.getfield 29, 3) := by decide +kernel
theorem dX9_ended_67 : decode cX9_ended 67 = .ok (.aload_n 0, 1) := by decide +kernel
theorem dX9_ended_68 : decode cX9_ended 68 = .ok (.getfield 113, 3) := by decide +kernel
theorem dX9_ended_71 : decode cX9_ended 71 = .ok (.iload_n 1, 1) := by decide +kernel
theorem dX9_ended_72 : decode cX9_ended 72 = .ok (.iastore, 1) := by decide +kernel
theorem dX9_ended_73 : decode cX9_ended 73 = .ok (.aload_n 0, 1) := by decide +kernel
theorem dX9_ended_74 : decode cX9_ended 74 = .ok (.dup, 1) := by decide +kernel
theorem dX9_ended_75 : decode cX9_ended 75 = .ok (.getfield 113, 3) := by decide +kernel
theorem dX9_ended_78 : decode cX9_ended 78 = .ok (.iconst 1, 1) := by decide +kernel
theorem dX9_ended_79 : decode cX9_ended 79 = .ok (.iadd, 1) := by decide +kernel
theorem dX9_ended_80 : decode cX9_ended 80 = .ok (.putfield 113, 3) := by decide +kernel
theorem dX9_ended_83 : decode cX9_ended 83 = .ok (.aload_n 0, 1) := by decide +kernel
theorem dX9_ended_84 : decode cX9_ended 84 = .ok (.getfield 26, 3) := by decide +kernel
theorem dX9_ended_87 : decode cX9_ended 87 = .ok (.aload_n 0, 1) := by decide +kernel
theorem dX9_ended_88 : decode cX9_ended 88 = .ok (.getfield 113, 3) := by decide +kernel
theorem dX9_ended_91 : decode cX9_ended 91 = .ok (.iload_n 1, 1) := by decide +kernel
theorem dX9_ended_92 : decode cX9_ended 92 = .ok (.iconst 1, 1) := by decide +kernel
theorem dX9_ended_93 : decode cX9_ended 93 = .ok (.iadd, 1) := by decide +kernel
theorem dX9_ended_94 : decode cX9_ended 94 = .ok (.iastore, 1) := by decide +kernel
theorem dX9_ended_95 : decode cX9_ended 95 = .ok (.iinc 1 1, 3) := by decide +kernel
theorem dX9_ended_98 : decode cX9_ended 98 = .ok (.goto (-62), 3) := by decide +kernel
theorem dX9_ended_101 : decode cX9_ended 101 = .ok (.aload_n 0, 1) := by decide +kernel
theorem dX9_ended_102 : decode cX9_ended 102 = .ok (.invokevirtual 116, 3) := by decide +kernel
theorem dX9_ended_105 : decode cX9_ended 105 = .ok (.istore_n 1, 1) := by decide +kernel
theorem dX9_ended_106 : decode cX9_ended 106 = .ok (.iload_n 1, 1) := by decide +kernel
theorem dX9_ended_107 : decode cX9_ended 107 = .ok (.ifCond .ge 16, 3) := by decide +kernel
theorem dX9_ended_110 : decode cX9_ended 110 = .ok (.aload_n 0, 1) := by decide +kernel
theorem dX9_ended_111 : decode cX9_ended 111 = .ok (.getfield 23, 3) := by decide +kernel
theorem dX9_ended_114 : decode cX9_ended 114 = .ok (.iconst 3, 1) := by decide +kernel
theorem dX9_ended_115 : decode cX9_ended 115 = .ok (.dup2, 1) := by decide +kernel
theorem dX9_ended_116 : decode cX9_ended 116 = .ok (.iaload, 1) := by decide +kernel
theorem dX9_ended_117 : decode cX9_ended 117 = .ok (.iconst 1, 1) := by decide +kernel
theorem dX9_ended_118 : decode cX9_ended 118 = .ok (.iadd, 1) := by decide +kernel
theorem dX9_ended_119 : decode cX9_ended 119 = .ok (.iastore, 1) := by decide +kernel
theorem dX9_ended_120 : decode cX9_ended 120 = .ok (.goto 39, 3) := by decide +kernel
theorem dX9_ended_123 : decode cX9_ended 123 = .ok (.aload_n 0, 1) := by decide +kernel
theorem dX9_ended_124 : decode cX9_ended 124 = .ok (.iload_n 1, 1) := by decide +kernel
theorem dX9_ended_125 : decode cX9_ended 125 = .ok (.invokevirtual 120, 3) := by decide +kernel
theorem dX9_ended_128 : decode cX9_ended 128 = .ok (.ifCond .ne 16, 3) := by decide +kernel
theorem dX9_ended_131 : decode cX9_ended 131 = .ok (.aload_n 0, 1) := by decide +kernel
theorem dX9_ended_132 : decode cX9_ended 132 = .ok (.getfield 23, 3) := by decide +kernel
theorem dX9_ended_135 : decode cX9_ended 135 = .ok (.iconst 4, 1) := by decide +kernel
theorem dX9_ended_136 : decode cX9_ended 136 = .ok (.dup2, 1) := by decide +kernel
theorem dX9_ended_137 : decode cX9_ended 137 = .ok (.iaload, 1) := by decide +kernel
theorem dX9_ended_138 : decode cX9_ended 138 = .ok (.iconst 1, 1) := by decide +kernel
theorem dX9_ended_139 : decode cX9_ended 139 = .ok (.iadd, 1) := by decide +kernel
theorem dX9_ended_140 : decode cX9_ended 140 = .ok (.iastore, 1) := by decide +kernel
theorem dX9_ended_141 : decode cX9_ended 141 = .ok (.goto 18, 3) := by decide +kernel
theorem dX9_ended_144 : decode cX9_ended 144 = .ok (.aload_n 0, 1) := by decide +kernel
theorem dX9_ended_145 : decode cX9_ended 145 = .ok (.getfield 23, 3) := by decide +kernel
theorem dX9_ended_148 : decode cX9_ended 148 = .ok (.iconst 0, 1) := by decide +kernel
theorem dX9_ended_149 : decode cX9_ended 149 = .ok (.dup2, 1) := by decide +kernel
theorem dX9_ended_150 : decode cX9_ended 150 = .ok (.iaload, 1) := by decide +kernel
theorem dX9_ended_151 : decode cX9_ended 151 = .ok (.iconst 1, 1) := by decide +kernel
theorem dX9_ended_152 : decode cX9_ended 152 = .ok (.iadd, 1) := by decide +kernel
theorem dX9_ended_153 : decode cX9_ended 153 = .ok (.iastore, 1) := by decide +kernel
theorem dX9_ended_154 : decode cX9_ended 154 = .ok (.aload_n 0, 1) := by decide +kernel
theorem dX9_ended_155 : decode cX9_ended 155 = .ok (.iload_n 1, 1) := by decide +kernel
theorem dX9_ended_156 : decode cX9_ended 156 = .ok (.invokevirtual 124, 3) := by decide +kernel
theorem dX9_ended_159 : decode cX9_ended 159 = .ok (.return_, 1) := by decide +kernel
theorem dX9_ends_0 : decode cX9_ends 0 = .ok (.aload_n 0, 1) := by decide +kernel
theorem dX9_ends_1 : decode cX9_ends 1 = .ok (.getfield 20, 3) := by decide +kernel
theorem dX9_ends_4 : decode cX9_ends 4 = .ok (.iconst 3, 1) := by decide +kernel
theorem dX9_ends_5 : decode cX9_ends 5 = .ok (.iaload, 1) := by decide +kernel
theorem dX9_ends_6 : decode cX9_ends 6 = .ok (.aload_n 1, 1) := by decide +kernel
theorem dX9_ends_7 : decode cX9_ends 7 = .ok (.iconst 0, 1) := by decide +kernel
theorem dX9_ends_8 : decode cX9_ends 8 = .ok (.invokevirtual 127, 3) := by decide +kernel
theorem dX9_ends_11 : decode cX9_ends 11 = .ok (.if_icmp .ne 35, 3) := by decide +kernel
theorem dX9_ends_14 : decode cX9_ends 14 = .ok (.aload_n 0, 1) := by decide +kernel
theorem dX9_ends_15 : decode cX9_ends 15 = .ok (.getfield 20, 3) := by decide +kernel
theorem dX9_ends_18 : decode cX9_ends 18 = .ok (.iconst 4, 1) := by decide +kernel
theorem dX9_ends_19 : decode cX9_ends 19 = .ok (.iaload, 1) := by decide +kernel
theorem dX9_ends_20 : decode cX9_ends 20 = .ok (.aload_n 1, 1) := by decide +kernel
theorem dX9_ends_21 : decode cX9_ends 21 = .ok (.iconst 1, 1) := by decide +kernel
theorem dX9_ends_22 : decode cX9_ends 22 = .ok (.invokevirtual 127, 3) := by decide +kernel
theorem dX9_ends_25 : decode cX9_ends 25 = .ok (.if_icmp .ne 21, 3) := by decide +kernel
theorem dX9_ends_28 : decode cX9_ends 28 = .ok (.aload_n 0, 1) := by decide +kernel
theorem dX9_ends_29 : decode cX9_ends 29 = .ok (.getfield 20, 3) := by decide +kernel
theorem dX9_ends_32 : decode cX9_ends 32 = .ok (.iconst 5, 1) := by decide +kernel
theorem dX9_ends_33 : decode cX9_ends 33 = .ok (.iaload, 1) := by decide +kernel
theorem dX9_ends_34 : decode cX9_ends 34 = .ok (.aload_n 1, 1) := by decide +kernel
theorem dX9_ends_35 : decode cX9_ends 35 = .ok (.iconst 2, 1) := by decide +kernel
theorem dX9_ends_36 : decode cX9_ends 36 = .ok (.invokevirtual 127, 3) := by decide +kernel
theorem dX9_ends_39 : decode cX9_ends 39 = .ok (.if_icmp .ne 7, 3) := by decide +kernel
theorem dX9_ends_42 : decode cX9_ends 42 = .ok (.iconst 1, 1) := by decide +kernel
theorem dX9_ends_43 : decode cX9_ends 43 = .ok (.goto 4, 3) := by decide +kernel
theorem dX9_ends_46 : decode cX9_ends 46 = .ok (.iconst 0, 1) := by decide +kernel
theorem dX9_ends_47 : decode cX9_ends 47 = .ok (.ireturn, 1) := by decide +kernel
theorem dX9_form_0 : decode cX9_form 0 = .ok (.aload_n 0, 1) := by decide +kernel
theorem dX9_form_1 : decode cX9_form 1 = .ok (.getfield 29, 3) := by decide +kernel
theorem dX9_form_4 : decode cX9_form 4 = .ok (.iconst 0, 1) := by decide +kernel
theorem dX9_form_5 : decode cX9_form 5 = .ok (.iaload, 1) := by decide +kernel
theorem dX9_form_6 : decode cX9_form 6 = .ok (.bipush 6, 2) := by decide +kernel
theorem dX9_form_8 : decode cX9_form 8 = .ok (.if_icmp .eq 5, 3) := by decide +kernel
theorem dX9_form_11 : decode cX9_form 11 = .ok (.iconst (-1), 1) := by decide +kernel
theorem dX9_form_12 : decode cX9_form 12 = .ok (.ireturn, 1) := by decide +kernel
theorem dX9_form_13 : decode cX9_form 13 = .ok (.iconst 1, 1) := by decide +kernel
theorem dX9_form_14 : decode cX9_form 14 = .ok (.istore_n 1, 1) := by decide +kernel
theorem dX9_form_15 : decode cX9_form 15 = .ok (.iload_n 1, 1) := by decide +kernel
theorem dX9_form_16 : decode cX9_form 16 = .ok (.bipush 6, 2) := by decide +kernel
theorem dX9_form_18 : decode cX9_form 18 = .ok (.if_icmp .ge 49, 3) := by decide +kernel
theorem dX9_form_21 : decode cX9_form 21 = .ok (.aload_n 0, 1) := by decide +kernel
theorem dX9_form_22 : decode cX9_form 22 = .ok (.getfield 20, 3) := by decide +kernel
theorem dX9_form_25 : decode cX9_form 25 = .ok (.iload_n 1, 1) := by decide +kernel
theorem dX9_form_26 : decode cX9_form 26 = .ok (.iaload, 1) := by decide +kernel
theorem dX9_form_27 : decode cX9_form 27 = .ok (.i2l, 1) := by decide +kernel
theorem dX9_form_28 : decode cX9_form 28 = .ok (.ldc2_w 82, 3) := by decide +kernel
theorem dX9_form_31 : decode cX9_form 31 = .ok (.ldc2_w 133, 3) := by decide +kernel
theorem dX9_form_34 : decode cX9_form 34 = .ok (.invokestatic 74, 3) := by decide +kernel
theorem dX9_form_37 : decode cX9_form 37 = .ok (.ifCond .ne 24, 3) := by decide +kernel
theorem dX9_form_40 : decode cX9_form 40 = .ok (.aload_n 0, 1) := by decide +kernel
theorem dX9_form_41 : decode cX9_form 41 = .ok (.getfield 20, 3) := by decide +kernel
theorem dX9_form_44 : decode cX9_form 44 = .ok (.iload_n 1, 1) := by decide +kernel
theorem dX9_form_45 : decode cX9_form 45 = .ok (.iaload, 1) := by decide +kernel
theorem dX9_form_46 : decode cX9_form 46 = .ok (.i2l, 1) := by decide +kernel
theorem dX9_form_47 : decode cX9_form 47 = .ok (.ldc2_w 78, 3) := by decide +kernel
theorem dX9_form_50 : decode cX9_form 50 = .ok (.ldc2_w 80, 3) := by decide +kernel
theorem dX9_form_53 : decode cX9_form 53 = .ok (.invokestatic 74, 3) := by decide +kernel
theorem dX9_form_56 : decode cX9_form 56 = .ok (.ifCond .ne 5, 3) := by decide +kernel
theorem dX9_form_59 : decode cX9_form 59 = .ok (.iconst (-1), 1) := by decide +kernel
theorem dX9_form_60 : decode cX9_form 60 = .ok (.ireturn, 1) := by decide +kernel
theorem dX9_form_61 : decode cX9_form 61 = .ok (.iinc 1 1, 3) := by decide +kernel
theorem dX9_form_64 : decode cX9_form 64 = .ok (.goto (-49), 3) := by decide +kernel
theorem dX9_form_67 : decode cX9_form 67 = .ok (.aload_n 0, 1) := by decide +kernel
theorem dX9_form_68 : decode cX9_form 68 = .ok (.getfield 20, 3) := by decide +kernel
theorem dX9_form_71 : decode cX9_form 71 = .ok (.iconst 0, 1) := by decide +kernel
theorem dX9_form_72 : decode cX9_form 72 = .ok (.iaload, 1) := by decide +kernel
theorem dX9_form_73 : decode cX9_form 73 = .ok (.bipush 33, 2) := by decide +kernel
theorem dX9_form_75 : decode cX9_form 75 = .ok (.if_icmp .ne 27, 3) := by decide +kernel
theorem dX9_form_78 : decode cX9_form 78 = .ok (.aload_n 0, 1) := by decide +kernel
theorem dX9_form_79 : decode cX9_form 79 = .ok (.ldc 135, 2) := by decide +kernel
theorem dX9_form_81 : decode cX9_form 81 = .ok (.invokevirtual 137, 3) := by decide +kernel
theorem dX9_form_84 : decode cX9_form 84 = .ok (.ifCond .ne 12, 3) := by decide +kernel
theorem dX9_form_87 : decode cX9_form 87 = .ok (.aload_n 0, 1) := by decide +kernel
theorem dX9_form_88 : decode cX9_form 88 = .ok (.ldc 141, 2) := by decide +kernel
theorem dX9_form_90 : decode cX9_form 90 = .ok (.invokevirtual 137, 3) := by decide +kernel
theorem dX9_form_93 : decode cX9_form 93 = .ok (.ifCond .eq 7, 3) := by decide +kernel
theorem dX9_form_96 : decode cX9_form 96 = .ok (.iconst 3, 1) := by decide +kernel
theorem dX9_form_97 : decode cX9_form 97 = .ok (.goto 4, 3) := by decide +kernel
theorem dX9_form_100 : decode cX9_form 100 = .ok (.iconst (-1), 1) := by decide +kernel
theorem dX9_form_101 : decode cX9_form 101 = .ok (.ireturn, 1) := by decide +kernel
theorem dX9_form_102 : decode cX9_form 102 = .ok (.aload_n 0, 1) := by decide +kernel
theorem dX9_form_103 : decode cX9_form 103 = .ok (.ldc 143, 2) := by decide +kernel
theorem dX9_form_105 : decode cX9_form 105 = .ok (.invokevirtual 137, 3) := by decide +kernel
theorem dX9_form_108 : decode cX9_form 108 = .ok (.ifCond .eq 7, 3) := by decide +kernel
theorem dX9_form_111 : decode cX9_form 111 = .ok (.iconst 0, 1) := by decide +kernel
theorem dX9_form_112 : decode cX9_form 112 = .ok (.goto 30, 3) := by decide +kernel
theorem dX9_form_115 : decode cX9_form 115 = .ok (.aload_n 0, 1) := by decide +kernel
theorem dX9_form_116 : decode cX9_form 116 = .ok (.ldc 145, 2) := by decide +kernel
theorem dX9_form_118 : decode cX9_form 118 = .ok (.invokevirtual 137, 3) := by decide +kernel
theorem dX9_form_121 : decode cX9_form 121 = .ok (.ifCond .eq 7, 3) := by decide +kernel
theorem dX9_form_124 : decode cX9_form 124 = .ok (.iconst 1, 1) := by decide +kernel
theorem dX9_form_125 : decode cX9_form 125 = .ok (.goto 17, 3) := by decide +kernel
theorem dX9_form_128 : decode cX9_form 128 = .ok (.aload_n 0, 1) := by decide +kernel
theorem dX9_form_129 : decode cX9_form 129 = .ok (.ldc 147, 2) := by decide +kernel
theorem dX9_form_131 : decode cX9_form 131 = .ok (.invokevirtual 137, 3) := by decide +kernel
theorem dX9_form_134 : decode cX9_form 134 = .ok (.ifCond .eq 7, 3) := by decide +kernel
theorem dX9_form_137 : decode cX9_form 137 = .ok (.iconst 2, 1) := by decide +kernel
theorem dX9_form_138 : decode cX9_form 138 = .ok (.goto 4, 3) := by decide +kernel
theorem dX9_form_141 : decode cX9_form 141 = .ok (.iconst (-1), 1) := by decide +kernel
theorem dX9_form_142 : decode cX9_form 142 = .ok (.ireturn, 1) := by decide +kernel
theorem dX9_size_0 : decode cX9_size 0 = .ok (.aload_n 0, 1) := by decide +kernel
theorem dX9_size_1 : decode cX9_size 1 = .ok (.getfield 29, 3) := by decide +kernel
theorem dX9_size_4 : decode cX9_size 4 = .ok (.iload_n 1, 1) := by decide +kernel
theorem dX9_size_5 : decode cX9_size 5 = .ok (.iaload, 1) := by decide +kernel
theorem dX9_size_6 : decode cX9_size 6 = .ok (.aload_n 0, 1) := by decide +kernel
theorem dX9_size_7 : decode cX9_size 7 = .ok (.getfield 26, 3) := by decide +kernel
theorem dX9_size_10 : decode cX9_size 10 = .ok (.iload_n 1, 1) := by decide +kernel
theorem dX9_size_11 : decode cX9_size 11 = .ok (.iaload, 1) := by decide +kernel
theorem dX9_size_12 : decode cX9_size 12 = .ok (.isub, 1) := by decide +kernel
theorem dX9_size_13 : decode cX9_size 13 = .ok (.ireturn, 1) := by decide +kernel
theorem dX9_at_0 : decode cX9_at 0 = .ok (.aload_n 0, 1) := by decide +kernel
theorem dX9_at_1 : decode cX9_at 1 = .ok (.getfield 20, 3) := by decide +kernel
theorem dX9_at_4 : decode cX9_at 4 = .ok (.aload_n 0, 1) := by decide +kernel
theorem dX9_at_5 : decode cX9_at 5 = .ok (.getfield 26, 3) := by decide +kernel
theorem dX9_at_8 : decode cX9_at 8 = .ok (.iload_n 1, 1) := by decide +kernel
theorem dX9_at_9 : decode cX9_at 9 = .ok (.iaload, 1) := by decide +kernel
theorem dX9_at_10 : decode cX9_at 10 = .ok (.iload_n 2, 1) := by decide +kernel
theorem dX9_at_11 : decode cX9_at 11 = .ok (.iadd, 1) := by decide +kernel
theorem dX9_at_12 : decode cX9_at 12 = .ok (.iaload, 1) := by decide +kernel
theorem dX9_at_13 : decode cX9_at 13 = .ok (.ireturn, 1) := by decide +kernel
theorem dX9_isDigit_0 : decode cX9_isDigit 0 = .ok (.iload_n 0, 1) := by decide +kernel
theorem dX9_isDigit_1 : decode cX9_isDigit 1 = .ok (.i2l, 1) := by decide +kernel
theorem dX9_isDigit_2 : decode cX9_isDigit 2 = .ok (.ldc2_w 78, 3) := by decide +kernel
theorem dX9_isDigit_5 : decode cX9_isDigit 5 = .ok (.ldc2_w 80, 3) := by decide +kernel
theorem dX9_isDigit_8 : decode cX9_isDigit 8 = .ok (.invokestatic 74, 3) := by decide +kernel
theorem dX9_isDigit_11 : decode cX9_isDigit 11 = .ok (.ireturn, 1) := by decide +kernel
theorem dX9_bad_0 : decode cX9_bad 0 = .ok (.aload_n 0, 1) := by decide +kernel
theorem dX9_bad_1 : decode cX9_bad 1 = .ok (.iconst 0, 1) := by decide +kernel
theorem dX9_bad_2 : decode cX9_bad 2 = .ok (.putfield 149, 3) := by decide +kernel
theorem dX9_bad_5 : decode cX9_bad 5 = .ok (.ldc 73, 2) := by decide +kernel
theorem dX9_bad_7 : decode cX9_bad 7 = .ok (.ireturn, 1) := by decide +kernel
theorem dX9_digits_0 : decode cX9_digits 0 = .ok (.iconst 0, 1) := by decide +kernel
theorem dX9_digits_1 : decode cX9_digits 1 = .ok (.istore_n 3, 1) := by decide +kernel
theorem dX9_digits_2 : decode cX9_digits 2 = .ok (.iload_n 2, 1) := by decide +kernel
theorem dX9_digits_3 : decode cX9_digits 3 = .ok (.iload_n 3, 1) := by decide +kernel
theorem dX9_digits_4 : decode cX9_digits 4 = .ok (.iadd, 1) := by decide +kernel
theorem dX9_digits_5 : decode cX9_digits 5 = .ok (.aload_n 0, 1) := by decide +kernel
theorem dX9_digits_6 : decode cX9_digits 6 = .ok (.iload_n 1, 1) := by decide +kernel
theorem dX9_digits_7 : decode cX9_digits 7 = .ok (.invokevirtual 153, 3) := by decide +kernel
theorem dX9_digits_10 : decode cX9_digits 10 = .ok (.if_icmp .ge 23, 3) := by decide +kernel
theorem dX9_digits_13 : decode cX9_digits 13 = .ok (.aload_n 0, 1) := by decide +kernel
theorem dX9_digits_14 : decode cX9_digits 14 = .ok (.iload_n 1, 1) := by decide +kernel
theorem dX9_digits_15 : decode cX9_digits 15 = .ok (.iload_n 2, 1) := by decide +kernel
theorem dX9_digits_16 : decode cX9_digits 16 = .ok (.iload_n 3, 1) := by decide +kernel
theorem dX9_digits_17 : decode cX9_digits 17 = .ok (.iadd, 1) := by decide +kernel
theorem dX9_digits_18 : decode cX9_digits 18 = .ok (.invokevirtual 156, 3) := by decide +kernel
theorem dX9_digits_21 : decode cX9_digits 21 = .ok (.invokestatic 160, 3) := by decide +kernel
theorem dX9_digits_24 : decode cX9_digits 24 = .ok (.ifCond .eq 9, 3) := by decide +kernel
theorem dX9_digits_27 : decode cX9_digits 27 = .ok (.iinc 3 1, 3) := by decide +kernel
theorem dX9_digits_30 : decode cX9_digits 30 = .ok (.goto (-28), 3) := by decide +kernel
theorem dX9_digits_33 : decode cX9_digits 33 = .ok (.iload_n 3, 1) := by decide +kernel
theorem dX9_digits_34 : decode cX9_digits 34 = .ok (.ireturn, 1) := by decide +kernel
theorem dX9_whole_0 : decode cX9_whole 0 = .ok (.iconst 0, 1) := by decide +kernel
theorem dX9_whole_1 : decode cX9_whole 1 = .ok (.istore 4, 2) := by decide +kernel
theorem dX9_whole_3 : decode cX9_whole 3 = .ok (.iload_n 2, 1) := by decide +kernel
theorem dX9_whole_4 : decode cX9_whole 4 = .ok (.istore 5, 2) := by decide +kernel
theorem dX9_whole_6 : decode cX9_whole 6 = .ok (.iload 5, 2) := by decide +kernel
theorem dX9_whole_8 : decode cX9_whole 8 = .ok (.iload_n 2, 1) := by decide +kernel
theorem dX9_whole_9 : decode cX9_whole 9 = .ok (.iload_n 3, 1) := by decide +kernel
theorem dX9_whole_10 : decode cX9_whole 10 = .ok (.iadd, 1) := by decide +kernel
theorem dX9_whole_11 : decode cX9_whole 11 = .ok (.if_icmp .ge 27, 3) := by decide +kernel
theorem dX9_whole_14 : decode cX9_whole 14 = .ok (.bipush 10, 2) := by decide +kernel
theorem dX9_whole_16 : decode cX9_whole 16 = .ok (.iload 4, 2) := by decide +kernel
theorem dX9_whole_18 : decode cX9_whole 18 = .ok (.imul, 1) := by decide +kernel
theorem dX9_whole_19 : decode cX9_whole 19 = .ok (.aload_n 0, 1) := by decide +kernel
theorem dX9_whole_20 : decode cX9_whole 20 = .ok (.iload_n 1, 1) := by decide +kernel
theorem dX9_whole_21 : decode cX9_whole 21 = .ok (.iload 5, 2) := by decide +kernel
theorem dX9_whole_23 : decode cX9_whole 23 = .ok (.invokevirtual 156, 3) := by decide +kernel
theorem dX9_whole_26 : decode cX9_whole 26 = .ok (.iadd, 1) := by decide +kernel
theorem dX9_whole_27 : decode cX9_whole 27 = .ok (.bipush 48, 2) := by decide +kernel
theorem dX9_whole_29 : decode cX9_whole 29 = .ok (.isub, 1) := by decide +kernel
theorem dX9_whole_30 : decode cX9_whole 30 = .ok (.istore 4, 2) := by decide +kernel
theorem dX9_whole_32 : decode cX9_whole 32 = .ok (.iinc 5 1, 3) := by decide +kernel
theorem dX9_whole_35 : decode cX9_whole 35 = .ok (.goto (-29), 3) := by decide +kernel
theorem dX9_whole_38 : decode cX9_whole 38 = .ok (.iload 4, 2) := by decide +kernel
theorem dX9_whole_40 : decode cX9_whole 40 = .ok (.ireturn, 1) := by decide +kernel
theorem dX9_behind_0 : decode cX9_behind 0 = .ok (.aload_n 0, 1) := by decide +kernel
theorem dX9_behind_1 : decode cX9_behind 1 = .ok (.iload_n 1, 1) := by decide +kernel
theorem dX9_behind_2 : decode cX9_behind 2 = .ok (.invokevirtual 153, 3) := by decide +kernel
theorem dX9_behind_5 : decode cX9_behind 5 = .ok (.iload_n 2, 1) := by decide +kernel
theorem dX9_behind_6 : decode cX9_behind 6 = .ok (.isub, 1) := by decide +kernel
theorem dX9_behind_7 : decode cX9_behind 7 = .ok (.iconst 1, 1) := by decide +kernel
theorem dX9_behind_8 : decode cX9_behind 8 = .ok (.isub, 1) := by decide +kernel
theorem dX9_behind_9 : decode cX9_behind 9 = .ok (.istore 5, 2) := by decide +kernel
theorem dX9_behind_11 : decode cX9_behind 11 = .ok (.iload 5, 2) := by decide +kernel
theorem dX9_behind_13 : decode cX9_behind 13 = .ok (.ifCond .lt 44, 3) := by decide +kernel
theorem dX9_behind_16 : decode cX9_behind 16 = .ok (.aload_n 0, 1) := by decide +kernel
theorem dX9_behind_17 : decode cX9_behind 17 = .ok (.iload_n 1, 1) := by decide +kernel
theorem dX9_behind_18 : decode cX9_behind 18 = .ok (.iload_n 2, 1) := by decide +kernel
theorem dX9_behind_19 : decode cX9_behind 19 = .ok (.invokevirtual 156, 3) := by decide +kernel
theorem dX9_behind_22 : decode cX9_behind 22 = .ok (.bipush 46, 2) := by decide +kernel
theorem dX9_behind_24 : decode cX9_behind 24 = .ok (.if_icmp .ne 28, 3) := by decide +kernel
theorem dX9_behind_27 : decode cX9_behind 27 = .ok (.iload 5, 2) := by decide +kernel
theorem dX9_behind_29 : decode cX9_behind 29 = .ok (.i2l, 1) := by decide +kernel
theorem dX9_behind_30 : decode cX9_behind 30 = .ok (.lconst 1, 1) := by decide +kernel
theorem dX9_behind_31 : decode cX9_behind 31 = .ok (.iload_n 3, 1) := by decide +kernel
theorem dX9_behind_32 : decode cX9_behind 32 = .ok (.i2l, 1) := by decide +kernel
theorem dX9_behind_33 : decode cX9_behind 33 = .ok (.invokestatic 74, 3) := by decide +kernel
theorem dX9_behind_36 : decode cX9_behind 36 = .ok (.ifCond .eq 16, 3) := by decide +kernel
theorem dX9_behind_39 : decode cX9_behind 39 = .ok (.aload_n 0, 1) := by decide +kernel
theorem dX9_behind_40 : decode cX9_behind 40 = .ok (.iload_n 1, 1) := by decide +kernel
theorem dX9_behind_41 : decode cX9_behind 41 = .ok (.iload_n 2, 1) := by decide +kernel
theorem dX9_behind_42 : decode cX9_behind 42 = .ok (.iconst 1, 1) := by decide +kernel
theorem dX9_behind_43 : decode cX9_behind 43 = .ok (.iadd, 1) := by decide +kernel
theorem dX9_behind_44 : decode cX9_behind 44 = .ok (.invokevirtual 163, 3) := by decide +kernel
theorem dX9_behind_47 : decode cX9_behind 47 = .ok (.iload 5, 2) := by decide +kernel
theorem dX9_behind_49 : decode cX9_behind 49 = .ok (.if_icmp .eq 8, 3) := by decide +kernel
theorem dX9_behind_52 : decode cX9_behind 52 = .ok (.aload_n 0, 1) := by decide +kernel
theorem dX9_behind_53 : decode cX9_behind 53 = .ok (.invokevirtual 166, 3) := by decide +kernel
theorem dX9_behind_56 : decode cX9_behind 56 = .ok (.ireturn, 1) := by decide +kernel
theorem dX9_behind_57 : decode cX9_behind 57 = .ok (.iconst 0, 1) := by decide +kernel
theorem dX9_behind_58 : decode cX9_behind 58 = .ok (.istore 6, 2) := by decide +kernel
theorem dX9_behind_60 : decode cX9_behind 60 = .ok (.iconst 0, 1) := by decide +kernel
theorem dX9_behind_61 : decode cX9_behind 61 = .ok (.istore 7, 2) := by decide +kernel
theorem dX9_behind_63 : decode cX9_behind 63 = .ok (.iload 7, 2) := by decide +kernel
theorem dX9_behind_65 : decode cX9_behind 65 = .ok (.iload 4, 2) := by decide +kernel
theorem dX9_behind_67 : decode cX9_behind 67 = .ok (.if_icmp .ge 42, 3) := by decide +kernel
theorem dX9_behind_70 : decode cX9_behind 70 = .ok (.bipush 10, 2) := by decide +kernel
theorem dX9_behind_72 : decode cX9_behind 72 = .ok (.iload 6, 2) := by decide +kernel
theorem dX9_behind_74 : decode cX9_behind 74 = .ok (.imul, 1) := by decide +kernel
theorem dX9_behind_75 : decode cX9_behind 75 = .ok (.iload 7, 2) := by decide +kernel
theorem dX9_behind_77 : decode cX9_behind 77 = .ok (.iload 5, 2) := by decide +kernel
theorem dX9_behind_79 : decode cX9_behind 79 = .ok (.if_icmp .ge 20, 3) := by decide +kernel
theorem dX9_behind_82 : decode cX9_behind 82 = .ok (.aload_n 0, 1) := by decide +kernel
theorem dX9_behind_83 : decode cX9_behind 83 = .ok (.iload_n 1, 1) := by decide +kernel
theorem dX9_behind_84 : decode cX9_behind 84 = .ok (.iload_n 2, 1) := by decide +kernel
theorem dX9_behind_85 : decode cX9_behind 85 = .ok (.iconst 1, 1) := by decide +kernel
theorem dX9_behind_86 : decode cX9_behind 86 = .ok (.iadd, 1) := by decide +kernel
theorem dX9_behind_87 : decode cX9_behind 87 = .ok (.iload 7, 2) := by decide +kernel
theorem dX9_behind_89 : decode cX9_behind 89 = .ok (.iadd, 1) := by decide +kernel
theorem dX9_behind_90 : decode cX9_behind 90 = .ok (.invokevirtual 156, 3) := by decide +kernel
theorem dX9_behind_93 : decode cX9_behind 93 = .ok (.bipush 48, 2) := by decide +kernel
theorem dX9_behind_95 : decode cX9_behind 95 = .ok (.isub, 1) := by decide +kernel
theorem dX9_behind_96 : decode cX9_behind 96 = .ok (.goto 4, 3) := by decide +kernel
theorem dX9_behind_99 : decode cX9_behind 99 = .ok (.iconst 0, 1) := by decide +kernel
theorem dX9_behind_100 : decode cX9_behind 100 = .ok (.iadd, 1) := by decide +kernel
theorem dX9_behind_101 : decode cX9_behind 101 = .ok (.istore 6, 2) := by decide +kernel
theorem dX9_behind_103 : decode cX9_behind 103 = .ok (.iinc 7 1, 3) := by decide +kernel
theorem dX9_behind_106 : decode cX9_behind 106 = .ok (.goto (-43), 3) := by decide +kernel
theorem dX9_behind_109 : decode cX9_behind 109 = .ok (.iload 6, 2) := by decide +kernel
theorem dX9_behind_111 : decode cX9_behind 111 = .ok (.ireturn, 1) := by decide +kernel
theorem dX9_ten_0 : decode cX9_ten 0 = .ok (.iconst 1, 1) := by decide +kernel
theorem dX9_ten_1 : decode cX9_ten 1 = .ok (.istore_n 1, 1) := by decide +kernel
theorem dX9_ten_2 : decode cX9_ten 2 = .ok (.iconst 0, 1) := by decide +kernel
theorem dX9_ten_3 : decode cX9_ten 3 = .ok (.istore_n 2, 1) := by decide +kernel
theorem dX9_ten_4 : decode cX9_ten 4 = .ok (.iload_n 2, 1) := by decide +kernel
theorem dX9_ten_5 : decode cX9_ten 5 = .ok (.iload_n 0, 1) := by decide +kernel
theorem dX9_ten_6 : decode cX9_ten 6 = .ok (.if_icmp .ge 14, 3) := by decide +kernel
theorem dX9_ten_9 : decode cX9_ten 9 = .ok (.iload_n 1, 1) := by decide +kernel
theorem dX9_ten_10 : decode cX9_ten 10 = .ok (.bipush 10, 2) := by decide +kernel
theorem dX9_ten_12 : decode cX9_ten 12 = .ok (.imul, 1) := by decide +kernel
theorem dX9_ten_13 : decode cX9_ten 13 = .ok (.istore_n 1, 1) := by decide +kernel
theorem dX9_ten_14 : decode cX9_ten 14 = .ok (.iinc 2 1, 3) := by decide +kernel
theorem dX9_ten_17 : decode cX9_ten 17 = .ok (.goto (-13), 3) := by decide +kernel
theorem dX9_ten_20 : decode cX9_ten 20 = .ok (.iload_n 1, 1) := by decide +kernel
theorem dX9_ten_21 : decode cX9_ten 21 = .ok (.ireturn, 1) := by decide +kernel
theorem dX9_decimal_0 : decode cX9_decimal 0 = .ok (.aload_n 0, 1) := by decide +kernel
theorem dX9_decimal_1 : decode cX9_decimal 1 = .ok (.iload_n 1, 1) := by decide +kernel
theorem dX9_decimal_2 : decode cX9_decimal 2 = .ok (.invokevirtual 153, 3) := by decide +kernel
theorem dX9_decimal_5 : decode cX9_decimal 5 = .ok (.ifCond .ne 6, 3) := by decide +kernel
theorem dX9_decimal_8 : decode cX9_decimal 8 = .ok (.ldc 73, 2) := by decide +kernel
theorem dX9_decimal_10 : decode cX9_decimal 10 = .ok (.ireturn, 1) := by decide +kernel
theorem dX9_decimal_11 : decode cX9_decimal 11 = .ok (.iload 4, 2) := by decide +kernel
theorem dX9_decimal_13 : decode cX9_decimal 13 = .ok (.ifCond .eq 18, 3) := by decide +kernel
theorem dX9_decimal_16 : decode cX9_decimal 16 = .ok (.aload_n 0, 1) := by decide +kernel
theorem dX9_decimal_17 : decode cX9_decimal 17 = .ok (.iload_n 1, 1) := by decide +kernel
theorem dX9_decimal_18 : decode cX9_decimal 18 = .ok (.iconst 0, 1) := by decide +kernel
theorem dX9_decimal_19 : decode cX9_decimal 19 = .ok (.invokevirtual 156, 3) := by decide +kernel
theorem dX9_decimal_22 : decode cX9_decimal 22 = .ok (.bipush 45, 2) := by decide +kernel
theorem dX9_decimal_24 : decode cX9_decimal 24 = .ok (.if_icmp .ne 7, 3) := by decide +kernel
theorem dX9_decimal_27 : decode cX9_decimal 27 = .ok (.iconst 1, 1) := by decide +kernel
theorem dX9_decimal_28 : decode cX9_decimal 28 = .ok (.goto 4, 3) := by decide +kernel
theorem dX9_decimal_31 : decode cX9_decimal 31 = .ok (.iconst 0, 1) := by decide +kernel
theorem dX9_decimal_32 : decode cX9_decimal 32 = .ok (.istore 5, 2) := by decide +kernel
theorem dX9_decimal_34 : decode cX9_decimal 34 = .ok (.aload_n 0, 1) := by decide +kernel
theorem dX9_decimal_35 : decode cX9_decimal 35 = .ok (.iload_n 1, 1) := by decide +kernel
theorem dX9_decimal_36 : decode cX9_decimal 36 = .ok (.iload 5, 2) := by decide +kernel
theorem dX9_decimal_38 : decode cX9_decimal 38 = .ok (.invokevirtual 163, 3) := by decide +kernel
theorem dX9_decimal_41 : decode cX9_decimal 41 = .ok (.istore 6, 2) := by decide +kernel
theorem dX9_decimal_43 : decode cX9_decimal 43 = .ok (.iload 6, 2) := by decide +kernel
theorem dX9_decimal_45 : decode cX9_decimal 45 = .ok (.i2l, 1) := by decide +kernel
theorem dX9_decimal_46 : decode cX9_decimal 46 = .ok (.lconst 1, 1) := by decide +kernel
theorem dX9_decimal_47 : decode cX9_decimal 47 = .ok (.iload_n 3, 1) := by decide +kernel
theorem dX9_decimal_48 : decode cX9_decimal 48 = .ok (.i2l, 1) := by decide +kernel
theorem dX9_decimal_49 : decode cX9_decimal 49 = .ok (.invokestatic 74, 3) := by decide +kernel
theorem dX9_decimal_52 : decode cX9_decimal 52 = .ok (.ifCond .ne 8, 3) := by decide +kernel
theorem dX9_decimal_55 : decode cX9_decimal 55 = .ok (.aload_n 0, 1) := by decide +kernel
theorem dX9_decimal_56 : decode cX9_decimal 56 = .ok (.invokevirtual 166, 3) := by decide +kernel
theorem dX9_decimal_59 : decode cX9_decimal 59 = .ok (.ireturn, 1) := by decide +kernel
theorem dX9_decimal_60 : decode cX9_decimal 60 = .ok (.aload_n 0, 1) := by decide +kernel
theorem dX9_decimal_61 : decode cX9_decimal 61 = .ok (.iload_n 1, 1) := by decide +kernel
theorem dX9_decimal_62 : decode cX9_decimal 62 = .ok (.iload 5, 2) := by decide +kernel
theorem dX9_decimal_64 : decode cX9_decimal 64 = .ok (.iload 6, 2) := by decide +kernel
theorem dX9_decimal_66 : decode cX9_decimal 66 = .ok (.iadd, 1) := by decide +kernel
theorem dX9_decimal_67 : decode cX9_decimal 67 = .ok (.bipush 6, 2) := by decide +kernel
theorem dX9_decimal_69 : decode cX9_decimal 69 = .ok (.iload_n 2, 1) := by decide +kernel
theorem dX9_decimal_70 : decode cX9_decimal 70 = .ok (.invokevirtual 169, 3) := by decide +kernel
theorem dX9_decimal_73 : decode cX9_decimal 73 = .ok (.istore 7, 2) := by decide +kernel
theorem dX9_decimal_75 : decode cX9_decimal 75 = .ok (.aload_n 0, 1) := by decide +kernel
theorem dX9_decimal_76 : decode cX9_decimal 76 = .ok (.iload_n 1, 1) := by decide +kernel
theorem dX9_decimal_77 : decode cX9_decimal 77 = .ok (.iload 5, 2) := by decide +kernel
theorem dX9_decimal_79 : decode cX9_decimal 79 = .ok (.iload 6, 2) := by decide +kernel
theorem dX9_decimal_81 : decode cX9_decimal 81 = .ok (.invokevirtual 173, 3) := by decide +kernel
theorem dX9_decimal_84 : decode cX9_decimal 84 = .ok (.iload_n 2, 1) := by decide +kernel
theorem dX9_decimal_85 : decode cX9_decimal 85 = .ok (.invokestatic 177, 3) := by decide +kernel
theorem dX9_decimal_88 : decode cX9_decimal 88 = .ok (.imul, 1) := by decide +kernel
theorem dX9_decimal_89 : decode cX9_decimal 89 = .ok (.iload 7, 2) := by decide +kernel
theorem dX9_decimal_91 : decode cX9_decimal 91 = .ok (.iadd, 1) := by decide +kernel
theorem dX9_decimal_92 : decode cX9_decimal 92 = .ok (.istore 8, 2) := by decide +kernel
theorem dX9_decimal_94 : decode cX9_decimal 94 = .ok (.iload 7, 2) := by decide +kernel
theorem dX9_decimal_96 : decode cX9_decimal 96 = .ok (.ldc 73, 2) := by decide +kernel
theorem dX9_decimal_98 : decode cX9_decimal 98 = .ok (.if_icmp .ne 8, 3) := by decide +kernel
theorem dX9_decimal_101 : decode cX9_decimal 101 = .ok (.ldc 73, 2) := by decide +kernel
theorem dX9_decimal_103 : decode cX9_decimal 103 = .ok (.goto 17, 3) := by decide +kernel
theorem dX9_decimal_106 : decode cX9_decimal 106 = .ok (.iload 5, 2) := by decide +kernel
theorem dX9_decimal_108 : decode cX9_decimal 108 = .ok (.iconst 1, 1) := by decide +kernel
theorem dX9_decimal_109 : decode cX9_decimal 109 = .ok (.if_icmp .ne 9, 3) := by decide +kernel
theorem dX9_decimal_112 : decode cX9_decimal 112 = .ok (.iload 8, 2) := by decide +kernel
theorem dX9_decimal_114 : decode cX9_decimal 114 = .ok (.ineg, 1) := by decide +kernel
theorem dX9_decimal_115 : decode cX9_decimal 115 = .ok (.goto 5, 3) := by decide +kernel
theorem dX9_decimal_118 : decode cX9_decimal 118 = .ok (.iload 8, 2) := by decide +kernel
theorem dX9_decimal_120 : decode cX9_decimal 120 = .ok (.ireturn, 1) := by decide +kernel
theorem dX9_below_0 : decode cX9_below 0 = .ok (.iload_n 1, 1) := by decide +kernel
theorem dX9_below_1 : decode cX9_below 1 = .ok (.ldc 73, 2) := by decide +kernel
theorem dX9_below_3 : decode cX9_below 3 = .ok (.if_icmp .eq 15, 3) := by decide +kernel
theorem dX9_below_6 : decode cX9_below 6 = .ok (.iload_n 1, 1) := by decide +kernel
theorem dX9_below_7 : decode cX9_below 7 = .ok (.iload_n 2, 1) := by decide +kernel
theorem dX9_below_8 : decode cX9_below 8 = .ok (.if_icmp .le 10, 3) := by decide +kernel
theorem dX9_below_11 : decode cX9_below 11 = .ok (.aload_n 0, 1) := by decide +kernel
theorem dX9_below_12 : decode cX9_below 12 = .ok (.invokevirtual 166, 3) := by decide +kernel
theorem dX9_below_15 : decode cX9_below 15 = .ok (.goto 4, 3) := by decide +kernel
theorem dX9_below_18 : decode cX9_below 18 = .ok (.iload_n 1, 1) := by decide +kernel
theorem dX9_below_19 : decode cX9_below 19 = .ok (.ireturn, 1) := by decide +kernel
theorem dX9_number_0 : decode cX9_number 0 = .ok (.aload_n 0, 1) := by decide +kernel
theorem dX9_number_1 : decode cX9_number 1 = .ok (.iload_n 1, 1) := by decide +kernel
theorem dX9_number_2 : decode cX9_number 2 = .ok (.invokevirtual 153, 3) := by decide +kernel
theorem dX9_number_5 : decode cX9_number 5 = .ok (.ifCond .ne 8, 3) := by decide +kernel
theorem dX9_number_8 : decode cX9_number 8 = .ok (.ldc 73, 2) := by decide +kernel
theorem dX9_number_10 : decode cX9_number 10 = .ok (.goto 36, 3) := by decide +kernel
theorem dX9_number_13 : decode cX9_number 13 = .ok (.aload_n 0, 1) := by decide +kernel
theorem dX9_number_14 : decode cX9_number 14 = .ok (.iload_n 1, 1) := by decide +kernel
theorem dX9_number_15 : decode cX9_number 15 = .ok (.invokevirtual 153, 3) := by decide +kernel
theorem dX9_number_18 : decode cX9_number 18 = .ok (.iload_n 2, 1) := by decide +kernel
theorem dX9_number_19 : decode cX9_number 19 = .ok (.if_icmp .ne 13, 3) := by decide +kernel
theorem dX9_number_22 : decode cX9_number 22 = .ok (.aload_n 0, 1) := by decide +kernel
theorem dX9_number_23 : decode cX9_number 23 = .ok (.iload_n 1, 1) := by decide +kernel
theorem dX9_number_24 : decode cX9_number 24 = .ok (.iconst 0, 1) := by decide +kernel
theorem dX9_number_25 : decode cX9_number 25 = .ok (.invokevirtual 163, 3) := by decide +kernel
theorem dX9_number_28 : decode cX9_number 28 = .ok (.iload_n 2, 1) := by decide +kernel
theorem dX9_number_29 : decode cX9_number 29 = .ok (.if_icmp .eq 10, 3) := by decide +kernel
theorem dX9_number_32 : decode cX9_number 32 = .ok (.aload_n 0, 1) := by decide +kernel
theorem dX9_number_33 : decode cX9_number 33 = .ok (.invokevirtual 166, 3) := by decide +kernel
theorem dX9_number_36 : decode cX9_number 36 = .ok (.goto 10, 3) := by decide +kernel
theorem dX9_number_39 : decode cX9_number 39 = .ok (.aload_n 0, 1) := by decide +kernel
theorem dX9_number_40 : decode cX9_number 40 = .ok (.iload_n 1, 1) := by decide +kernel
theorem dX9_number_41 : decode cX9_number 41 = .ok (.iconst 0, 1) := by decide +kernel
theorem dX9_number_42 : decode cX9_number 42 = .ok (.iload_n 2, 1) := by decide +kernel
theorem dX9_number_43 : decode cX9_number 43 = .ok (.invokevirtual 173, 3) := by decide +kernel
theorem dX9_number_46 : decode cX9_number 46 = .ok (.ireturn, 1) := by decide +kernel
theorem dX9_time_0 : decode cX9_time 0 = .ok (.aload_n 0, 1) := by decide +kernel
theorem dX9_time_1 : decode cX9_time 1 = .ok (.iload_n 1, 1) := by decide +kernel
theorem dX9_time_2 : decode cX9_time 2 = .ok (.invokevirtual 153, 3) := by decide +kernel
theorem dX9_time_5 : decode cX9_time 5 = .ok (.ifCond .ne 6, 3) := by decide +kernel
theorem dX9_time_8 : decode cX9_time 8 = .ok (.ldc 73, 2) := by decide +kernel
theorem dX9_time_10 : decode cX9_time 10 = .ok (.ireturn, 1) := by decide +kernel
theorem dX9_time_11 : decode cX9_time 11 = .ok (.aload_n 0, 1) := by decide +kernel
theorem dX9_time_12 : decode cX9_time 12 = .ok (.iload_n 1, 1) := by decide +kernel
theorem dX9_time_13 : decode cX9_time 13 = .ok (.iconst 0, 1) := by decide +kernel
theorem dX9_time_14 : decode cX9_time 14 = .ok (.invokevirtual 163, 3) := by decide +kernel
theorem dX9_time_17 : decode cX9_time 17 = .ok (.bipush 6, 2) := by decide +kernel
theorem dX9_time_19 : decode cX9_time 19 = .ok (.if_icmp .eq 8, 3) := by decide +kernel
theorem dX9_time_22 : decode cX9_time 22 = .ok (.aload_n 0, 1) := by decide +kernel
theorem dX9_time_23 : decode cX9_time 23 = .ok (.invokevirtual 166, 3) := by decide +kernel
theorem dX9_time_26 : decode cX9_time 26 = .ok (.ireturn, 1) := by decide +kernel
theorem dX9_time_27 : decode cX9_time 27 = .ok (.aload_n 0, 1) := by decide +kernel
theorem dX9_time_28 : decode cX9_time 28 = .ok (.iload_n 1, 1) := by decide +kernel
theorem dX9_time_29 : decode cX9_time 29 = .ok (.iconst 0, 1) := by decide +kernel
theorem dX9_time_30 : decode cX9_time 30 = .ok (.iconst 2, 1) := by decide +kernel
theorem dX9_time_31 : decode cX9_time 31 = .ok (.invokevirtual 173, 3) := by decide +kernel
theorem dX9_time_34 : decode cX9_time 34 = .ok (.istore_n 2, 1) := by decide +kernel
theorem dX9_time_35 : decode cX9_time 35 = .ok (.aload_n 0, 1) := by decide +kernel
theorem dX9_time_36 : decode cX9_time 36 = .ok (.iload_n 1, 1) := by decide +kernel
theorem dX9_time_37 : decode cX9_time 37 = .ok (.iconst 2, 1) := by decide +kernel
theorem dX9_time_38 : decode cX9_time 38 = .ok (.iconst 2, 1) := by decide +kernel
theorem dX9_time_39 : decode cX9_time 39 = .ok (.invokevirtual 173, 3) := by decide +kernel
theorem dX9_time_42 : decode cX9_time 42 = .ok (.istore_n 3, 1) := by decide +kernel
theorem dX9_time_43 : decode cX9_time 43 = .ok (.aload_n 0, 1) := by decide +kernel
theorem dX9_time_44 : decode cX9_time 44 = .ok (.iload_n 1, 1) := by decide +kernel
theorem dX9_time_45 : decode cX9_time 45 = .ok (.iconst 4, 1) := by decide +kernel
theorem dX9_time_46 : decode cX9_time 46 = .ok (.iconst 2, 1) := by decide +kernel
theorem dX9_time_47 : decode cX9_time 47 = .ok (.invokevirtual 173, 3) := by decide +kernel
theorem dX9_time_50 : decode cX9_time 50 = .ok (.istore 4, 2) := by decide +kernel
theorem dX9_time_52 : decode cX9_time 52 = .ok (.aload_n 0, 1) := by decide +kernel
theorem dX9_time_53 : decode cX9_time 53 = .ok (.iload_n 1, 1) := by decide +kernel
theorem dX9_time_54 : decode cX9_time 54 = .ok (.bipush 6, 2) := by decide +kernel
theorem dX9_time_56 : decode cX9_time 56 = .ok (.iconst 3, 1) := by decide +kernel
theorem dX9_time_57 : decode cX9_time 57 = .ok (.iconst 3, 1) := by decide +kernel
theorem dX9_time_58 : decode cX9_time 58 = .ok (.invokevirtual 169, 3) := by decide +kernel
theorem dX9_time_61 : decode cX9_time 61 = .ok (.istore 5, 2) := by decide +kernel
theorem dX9_time_63 : decode cX9_time 63 = .ok (.iload 5, 2) := by decide +kernel
theorem dX9_time_65 : decode cX9_time 65 = .ok (.ldc 73, 2) := by decide +kernel
theorem dX9_time_67 : decode cX9_time 67 = .ok (.if_icmp .ne 8, 3) := by decide +kernel
theorem dX9_time_70 : decode cX9_time 70 = .ok (.ldc 73, 2) := by decide +kernel
theorem dX9_time_72 : decode cX9_time 72 = .ok (.goto 48, 3) := by decide +kernel
theorem dX9_time_75 : decode cX9_time 75 = .ok (.iload_n 2, 1) := by decide +kernel
theorem dX9_time_76 : decode cX9_time 76 = .ok (.bipush 23, 2) := by decide +kernel
theorem dX9_time_78 : decode cX9_time 78 = .ok (.if_icmp .gt 16, 3) := by decide +kernel
theorem dX9_time_81 : decode cX9_time 81 = .ok (.iload_n 3, 1) := by decide +kernel
theorem dX9_time_82 : decode cX9_time 82 = .ok (.bipush 59, 2) := by decide +kernel
theorem dX9_time_84 : decode cX9_time 84 = .ok (.if_icmp .gt 10, 3) := by decide +kernel
theorem dX9_time_87 : decode cX9_time 87 = .ok (.iload 4, 2) := by decide +kernel
theorem dX9_time_89 : decode cX9_time 89 = .ok (.bipush 59, 2) := by decide +kernel
theorem dX9_time_91 : decode cX9_time 91 = .ok (.if_icmp .le 10, 3) := by decide +kernel
theorem dX9_time_94 : decode cX9_time 94 = .ok (.aload_n 0, 1) := by decide +kernel
theorem dX9_time_95 : decode cX9_time 95 = .ok (.invokevirtual 166, 3) := by decide +kernel
theorem dX9_time_98 : decode cX9_time 98 = .ok (.goto 22, 3) := by decide +kernel
theorem dX9_time_101 : decode cX9_time 101 = .ok (.iload_n 2, 1) := by decide +kernel
theorem dX9_time_102 : decode cX9_time 102 = .ok (.bipush 60, 2) := by decide +kernel
theorem dX9_time_104 : decode cX9_time 104 = .ok (.imul, 1) := by decide +kernel
theorem dX9_time_105 : decode cX9_time 105 = .ok (.iload_n 3, 1) := by decide +kernel
theorem dX9_time_106 : decode cX9_time 106 = .ok (.iadd, 1) := by decide +kernel
theorem dX9_time_107 : decode cX9_time 107 = .ok (.bipush 60, 2) := by decide +kernel
theorem dX9_time_109 : decode cX9_time 109 = .ok (.imul, 1) := by decide +kernel
theorem dX9_time_110 : decode cX9_time 110 = .ok (.iload 4, 2) := by decide +kernel
theorem dX9_time_112 : decode cX9_time 112 = .ok (.iadd, 1) := by decide +kernel
theorem dX9_time_113 : decode cX9_time 113 = .ok (.sipush 1000, 3) := by decide +kernel
theorem dX9_time_116 : decode cX9_time 116 = .ok (.imul, 1) := by decide +kernel
theorem dX9_time_117 : decode cX9_time 117 = .ok (.iload 5, 2) := by decide +kernel
theorem dX9_time_119 : decode cX9_time 119 = .ok (.iadd, 1) := by decide +kernel
theorem dX9_time_120 : decode cX9_time 120 = .ok (.ireturn, 1) := by decide +kernel
theorem dX9_date_0 : decode cX9_date 0 = .ok (.aload_n 0, 1) := by decide +kernel
theorem dX9_date_1 : decode cX9_date 1 = .ok (.iload_n 1, 1) := by decide +kernel
theorem dX9_date_2 : decode cX9_date 2 = .ok (.bipush 6, 2) := by decide +kernel
theorem dX9_date_4 : decode cX9_date 4 = .ok (.invokevirtual 180, 3) := by decide +kernel
theorem dX9_date_7 : decode cX9_date 7 = .ok (.istore_n 2, 1) := by decide +kernel
theorem dX9_date_8 : decode cX9_date 8 = .ok (.iload_n 2, 1) := by decide +kernel
theorem dX9_date_9 : decode cX9_date 9 = .ok (.ldc 73, 2) := by decide +kernel
theorem dX9_date_11 : decode cX9_date 11 = .ok (.if_icmp .ne 6, 3) := by decide +kernel
theorem dX9_date_14 : decode cX9_date 14 = .ok (.ldc 73, 2) := by decide +kernel
theorem dX9_date_16 : decode cX9_date 16 = .ok (.ireturn, 1) := by decide +kernel
theorem dX9_date_17 : decode cX9_date 17 = .ok (.iload_n 2, 1) := by decide +kernel
theorem dX9_date_18 : decode cX9_date 18 = .ok (.sipush 10000, 3) := by decide +kernel
theorem dX9_date_21 : decode cX9_date 21 = .ok (.idiv, 1) := by decide +kernel
theorem dX9_date_22 : decode cX9_date 22 = .ok (.istore_n 3, 1) := by decide +kernel
theorem dX9_date_23 : decode cX9_date 23 = .ok (.iload_n 2, 1) := by decide +kernel
theorem dX9_date_24 : decode cX9_date 24 = .ok (.bipush 100, 2) := by decide +kernel
theorem dX9_date_26 : decode cX9_date 26 = .ok (.idiv, 1) := by decide +kernel
theorem dX9_date_27 : decode cX9_date 27 = .ok (.bipush 100, 2) := by decide +kernel
theorem dX9_date_29 : decode cX9_date 29 = .ok (.irem, 1) := by decide +kernel
theorem dX9_date_30 : decode cX9_date 30 = .ok (.istore 4, 2) := by decide +kernel
theorem dX9_date_32 : decode cX9_date 32 = .ok (.iload_n 3, 1) := by decide +kernel
theorem dX9_date_33 : decode cX9_date 33 = .ok (.i2l, 1) := by decide +kernel
theorem dX9_date_34 : decode cX9_date 34 = .ok (.lconst 1, 1) := by decide +kernel
theorem dX9_date_35 : decode cX9_date 35 = .ok (.ldc2_w 183, 3) := by decide +kernel
theorem dX9_date_38 : decode cX9_date 38 = .ok (.invokestatic 74, 3) := by decide +kernel
theorem dX9_date_41 : decode cX9_date 41 = .ok (.ifCond .eq 16, 3) := by decide +kernel
theorem dX9_date_44 : decode cX9_date 44 = .ok (.iload 4, 2) := by decide +kernel
theorem dX9_date_46 : decode cX9_date 46 = .ok (.i2l, 1) := by decide +kernel
theorem dX9_date_47 : decode cX9_date 47 = .ok (.lconst 1, 1) := by decide +kernel
theorem dX9_date_48 : decode cX9_date 48 = .ok (.ldc2_w 185, 3) := by decide +kernel
theorem dX9_date_51 : decode cX9_date 51 = .ok (.invokestatic 74, 3) := by decide +kernel
theorem dX9_date_54 : decode cX9_date 54 = .ok (.ifCond .ne 10, 3) := by decide +kernel
theorem dX9_date_57 : decode cX9_date 57 = .ok (.aload_n 0, 1) := by decide +kernel
theorem dX9_date_58 : decode cX9_date 58 = .ok (.invokevirtual 166, 3) := by decide +kernel
theorem dX9_date_61 : decode cX9_date 61 = .ok (.goto 19, 3) := by decide +kernel
theorem dX9_date_64 : decode cX9_date 64 = .ok (.iload_n 3, 1) := by decide +kernel
theorem dX9_date_65 : decode cX9_date 65 = .ok (.bipush 100, 2) := by decide +kernel
theorem dX9_date_67 : decode cX9_date 67 = .ok (.iload 4, 2) := by decide +kernel
theorem dX9_date_69 : decode cX9_date 69 = .ok (.imul, 1) := by decide +kernel
theorem dX9_date_70 : decode cX9_date 70 = .ok (.iadd, 1) := by decide +kernel
theorem dX9_date_71 : decode cX9_date 71 = .ok (.sipush 10000, 3) := by decide +kernel
theorem dX9_date_74 : decode cX9_date 74 = .ok (.iload_n 2, 1) := by decide +kernel
theorem dX9_date_75 : decode cX9_date 75 = .ok (.bipush 100, 2) := by decide +kernel
theorem dX9_date_77 : decode cX9_date 77 = .ok (.irem, 1) := by decide +kernel
theorem dX9_date_78 : decode cX9_date 78 = .ok (.imul, 1) := by decide +kernel
theorem dX9_date_79 : decode cX9_date 79 = .ok (.iadd, 1) := by decide +kernel
theorem dX9_date_80 : decode cX9_date 80 = .ok (.ireturn, 1) := by decide +kernel
theorem dX9_one_0 : decode cX9_one 0 = .ok (.aload_n 0, 1) := by decide +kernel
theorem dX9_one_1 : decode cX9_one 1 = .ok (.iload_n 1, 1) := by decide +kernel
theorem dX9_one_2 : decode cX9_one 2 = .ok (.invokevirtual 153, 3) := by decide +kernel
theorem dX9_one_5 : decode cX9_one 5 = .ok (.ifCond .ne 6, 3) := by decide +kernel
theorem dX9_one_8 : decode cX9_one 8 = .ok (.ldc 73, 2) := by decide +kernel
theorem dX9_one_10 : decode cX9_one 10 = .ok (.ireturn, 1) := by decide +kernel
theorem dX9_one_11 : decode cX9_one 11 = .ok (.iconst 0, 1) := by decide +kernel
theorem dX9_one_12 : decode cX9_one 12 = .ok (.istore_n 3, 1) := by decide +kernel
theorem dX9_one_13 : decode cX9_one 13 = .ok (.iconst 0, 1) := by decide +kernel
theorem dX9_one_14 : decode cX9_one 14 = .ok (.istore 4, 2) := by decide +kernel
theorem dX9_one_16 : decode cX9_one 16 = .ok (.iload 4, 2) := by decide +kernel
theorem dX9_one_18 : decode cX9_one 18 = .ok (.aload_n 2, 1) := by decide +kernel
theorem dX9_one_19 : decode cX9_one 19 = .ok (.invokevirtual 187, 3) := by decide +kernel
theorem dX9_one_22 : decode cX9_one 22 = .ok (.if_icmp .ge 43, 3) := by decide +kernel
theorem dX9_one_25 : decode cX9_one 25 = .ok (.iload_n 3, 1) := by decide +kernel
theorem dX9_one_26 : decode cX9_one 26 = .ok (.ifCond .ne 27, 3) := by decide +kernel
theorem dX9_one_29 : decode cX9_one 29 = .ok (.aload_n 0, 1) := by decide +kernel
theorem dX9_one_30 : decode cX9_one 30 = .ok (.iload_n 1, 1) := by decide +kernel
theorem dX9_one_31 : decode cX9_one 31 = .ok (.invokevirtual 153, 3) := by decide +kernel
theorem dX9_one_34 : decode cX9_one 34 = .ok (.iconst 1, 1) := by decide +kernel
theorem dX9_one_35 : decode cX9_one 35 = .ok (.if_icmp .ne 22, 3) := by decide +kernel
theorem dX9_one_38 : decode cX9_one 38 = .ok (.aload_n 0, 1) := by decide +kernel
theorem dX9_one_39 : decode cX9_one 39 = .ok (.iload_n 1, 1) := by decide +kernel
theorem dX9_one_40 : decode cX9_one 40 = .ok (.iconst 0, 1) := by decide +kernel
theorem dX9_one_41 : decode cX9_one 41 = .ok (.invokevirtual 156, 3) := by decide +kernel
theorem dX9_one_44 : decode cX9_one 44 = .ok (.aload_n 2, 1) := by decide +kernel
theorem dX9_one_45 : decode cX9_one 45 = .ok (.iload 4, 2) := by decide +kernel
theorem dX9_one_47 : decode cX9_one 47 = .ok (.invokevirtual 127, 3) := by decide +kernel
theorem dX9_one_50 : decode cX9_one 50 = .ok (.if_icmp .ne 7, 3) := by decide +kernel
theorem dX9_one_53 : decode cX9_one 53 = .ok (.iconst 1, 1) := by decide +kernel
theorem dX9_one_54 : decode cX9_one 54 = .ok (.goto 4, 3) := by decide +kernel
theorem dX9_one_57 : decode cX9_one 57 = .ok (.iconst 0, 1) := by decide +kernel
theorem dX9_one_58 : decode cX9_one 58 = .ok (.istore_n 3, 1) := by decide +kernel
theorem dX9_one_59 : decode cX9_one 59 = .ok (.iinc 4 1, 3) := by decide +kernel
theorem dX9_one_62 : decode cX9_one 62 = .ok (.goto (-46), 3) := by decide +kernel
theorem dX9_one_65 : decode cX9_one 65 = .ok (.iload_n 3, 1) := by decide +kernel
theorem dX9_one_66 : decode cX9_one 66 = .ok (.ifCond .eq 12, 3) := by decide +kernel
theorem dX9_one_69 : decode cX9_one 69 = .ok (.aload_n 0, 1) := by decide +kernel
theorem dX9_one_70 : decode cX9_one 70 = .ok (.iload_n 1, 1) := by decide +kernel
theorem dX9_one_71 : decode cX9_one 71 = .ok (.iconst 0, 1) := by decide +kernel
theorem dX9_one_72 : decode cX9_one 72 = .ok (.invokevirtual 156, 3) := by decide +kernel
theorem dX9_one_75 : decode cX9_one 75 = .ok (.goto 7, 3) := by decide +kernel
theorem dX9_one_78 : decode cX9_one 78 = .ok (.aload_n 0, 1) := by decide +kernel
theorem dX9_one_79 : decode cX9_one 79 = .ok (.invokevirtual 166, 3) := by decide +kernel
theorem dX9_one_82 : decode cX9_one 82 = .ok (.ireturn, 1) := by decide +kernel
theorem dX9_sided_0 : decode cX9_sided 0 = .ok (.aload_n 0, 1) := by decide +kernel
theorem dX9_sided_1 : decode cX9_sided 1 = .ok (.iload_n 2, 1) := by decide +kernel
theorem dX9_sided_2 : decode cX9_sided 2 = .ok (.aload_n 3, 1) := by decide +kernel
theorem dX9_sided_3 : decode cX9_sided 3 = .ok (.invokevirtual 190, 3) := by decide +kernel
theorem dX9_sided_6 : decode cX9_sided 6 = .ok (.istore 4, 2) := by decide +kernel
theorem dX9_sided_8 : decode cX9_sided 8 = .ok (.iload_n 1, 1) := by decide +kernel
theorem dX9_sided_9 : decode cX9_sided 9 = .ok (.ldc 73, 2) := by decide +kernel
theorem dX9_sided_11 : decode cX9_sided 11 = .ok (.if_icmp .ne 7, 3) := by decide +kernel
theorem dX9_sided_14 : decode cX9_sided 14 = .ok (.iconst 1, 1) := by decide +kernel
theorem dX9_sided_15 : decode cX9_sided 15 = .ok (.goto 4, 3) := by decide +kernel
theorem dX9_sided_18 : decode cX9_sided 18 = .ok (.iconst 0, 1) := by decide +kernel
theorem dX9_sided_19 : decode cX9_sided 19 = .ok (.iload 4, 2) := by decide +kernel
theorem dX9_sided_21 : decode cX9_sided 21 = .ok (.ldc 73, 2) := by decide +kernel
theorem dX9_sided_23 : decode cX9_sided 23 = .ok (.if_icmp .ne 7, 3) := by decide +kernel
theorem dX9_sided_26 : decode cX9_sided 26 = .ok (.iconst 1, 1) := by decide +kernel
theorem dX9_sided_27 : decode cX9_sided 27 = .ok (.goto 4, 3) := by decide +kernel
theorem dX9_sided_30 : decode cX9_sided 30 = .ok (.iconst 0, 1) := by decide +kernel
theorem dX9_sided_31 : decode cX9_sided 31 = .ok (.if_icmp .eq 8, 3) := by decide +kernel
theorem dX9_sided_34 : decode cX9_sided 34 = .ok (.aload_n 0, 1) := by decide +kernel
theorem dX9_sided_35 : decode cX9_sided 35 = .ok (.invokevirtual 166, 3) := by decide +kernel
theorem dX9_sided_38 : decode cX9_sided 38 = .ok (.ireturn, 1) := by decide +kernel
theorem dX9_sided_39 : decode cX9_sided 39 = .ok (.iload_n 1, 1) := by decide +kernel
theorem dX9_sided_40 : decode cX9_sided 40 = .ok (.ldc 73, 2) := by decide +kernel
theorem dX9_sided_42 : decode cX9_sided 42 = .ok (.if_icmp .eq 18, 3) := by decide +kernel
theorem dX9_sided_45 : decode cX9_sided 45 = .ok (.iload 4, 2) := by decide +kernel
theorem dX9_sided_47 : decode cX9_sided 47 = .ok (.aload_n 3, 1) := by decide +kernel
theorem dX9_sided_48 : decode cX9_sided 48 = .ok (.iconst 1, 1) := by decide +kernel
theorem dX9_sided_49 : decode cX9_sided 49 = .ok (.invokevirtual 127, 3) := by decide +kernel
theorem dX9_sided_52 : decode cX9_sided 52 = .ok (.if_icmp .ne 8, 3) := by decide +kernel
theorem dX9_sided_55 : decode cX9_sided 55 = .ok (.iload_n 1, 1) := by decide +kernel
theorem dX9_sided_56 : decode cX9_sided 56 = .ok (.ineg, 1) := by decide +kernel
theorem dX9_sided_57 : decode cX9_sided 57 = .ok (.goto 4, 3) := by decide +kernel
theorem dX9_sided_60 : decode cX9_sided 60 = .ok (.iload_n 1, 1) := by decide +kernel
theorem dX9_sided_61 : decode cX9_sided 61 = .ok (.ireturn, 1) := by decide +kernel
theorem dX9_place_0 : decode cX9_place 0 = .ok (.ldc 73, 2) := by decide +kernel
theorem dX9_place_2 : decode cX9_place 2 = .ok (.istore 5, 2) := by decide +kernel
theorem dX9_place_4 : decode cX9_place 4 = .ok (.aload_n 0, 1) := by decide +kernel
theorem dX9_place_5 : decode cX9_place 5 = .ok (.iload_n 1, 1) := by decide +kernel
theorem dX9_place_6 : decode cX9_place 6 = .ok (.invokevirtual 153, 3) := by decide +kernel
theorem dX9_place_9 : decode cX9_place 9 = .ok (.ifCond .le 96, 3) := by decide +kernel
theorem dX9_place_12 : decode cX9_place 12 = .ok (.aload_n 0, 1) := by decide +kernel
theorem dX9_place_13 : decode cX9_place 13 = .ok (.iload_n 1, 1) := by decide +kernel
theorem dX9_place_14 : decode cX9_place 14 = .ok (.iconst 0, 1) := by decide +kernel
theorem dX9_place_15 : decode cX9_place 15 = .ok (.invokevirtual 163, 3) := by decide +kernel
theorem dX9_place_18 : decode cX9_place 18 = .ok (.iload_n 2, 1) := by decide +kernel
theorem dX9_place_19 : decode cX9_place 19 = .ok (.if_icmp .eq 8, 3) := by decide +kernel
theorem dX9_place_22 : decode cX9_place 22 = .ok (.aload_n 0, 1) := by decide +kernel
theorem dX9_place_23 : decode cX9_place 23 = .ok (.invokevirtual 166, 3) := by decide +kernel
theorem dX9_place_26 : decode cX9_place 26 = .ok (.ireturn, 1) := by decide +kernel
theorem dX9_place_27 : decode cX9_place 27 = .ok (.aload_n 0, 1) := by decide +kernel
theorem dX9_place_28 : decode cX9_place 28 = .ok (.iload_n 1, 1) := by decide +kernel
theorem dX9_place_29 : decode cX9_place 29 = .ok (.iconst 0, 1) := by decide +kernel
theorem dX9_place_30 : decode cX9_place 30 = .ok (.iload_n 2, 1) := by decide +kernel
theorem dX9_place_31 : decode cX9_place 31 = .ok (.iconst 2, 1) := by decide +kernel
theorem dX9_place_32 : decode cX9_place 32 = .ok (.isub, 1) := by decide +kernel
theorem dX9_place_33 : decode cX9_place 33 = .ok (.invokevirtual 173, 3) := by decide +kernel
theorem dX9_place_36 : decode cX9_place 36 = .ok (.istore 6, 2) := by decide +kernel
theorem dX9_place_38 : decode cX9_place 38 = .ok (.aload_n 0, 1) := by decide +kernel
theorem dX9_place_39 : decode cX9_place 39 = .ok (.iload_n 1, 1) := by decide +kernel
theorem dX9_place_40 : decode cX9_place 40 = .ok (.iload_n 2, 1) := by decide +kernel
theorem dX9_place_41 : decode cX9_place 41 = .ok (.iconst 2, 1) := by decide +kernel
theorem dX9_place_42 : decode cX9_place 42 = .ok (.isub, 1) := by decide +kernel
theorem dX9_place_43 : decode cX9_place 43 = .ok (.iconst 2, 1) := by decide +kernel
theorem dX9_place_44 : decode cX9_place 44 = .ok (.invokevirtual 173, 3) := by decide +kernel
theorem dX9_place_47 : decode cX9_place 47 = .ok (.istore 7, 2) := by decide +kernel
theorem dX9_place_49 : decode cX9_place 49 = .ok (.aload_n 0, 1) := by decide +kernel
theorem dX9_place_50 : decode cX9_place 50 = .ok (.iload_n 1, 1) := by decide +kernel
theorem dX9_place_51 : decode cX9_place 51 = .ok (.iload_n 2, 1) := by decide +kernel
theorem dX9_place_52 : decode cX9_place 52 = .ok (.bipush 6, 2) := by decide +kernel
theorem dX9_place_54 : decode cX9_place 54 = .ok (.iconst 4, 1) := by decide +kernel
theorem dX9_place_55 : decode cX9_place 55 = .ok (.invokevirtual 169, 3) := by decide +kernel
theorem dX9_place_58 : decode cX9_place 58 = .ok (.istore 8, 2) := by decide +kernel
theorem dX9_place_60 : decode cX9_place 60 = .ok (.iload 6, 2) := by decide +kernel
theorem dX9_place_62 : decode cX9_place 62 = .ok (.bipush 60, 2) := by decide +kernel
theorem dX9_place_64 : decode cX9_place 64 = .ok (.imul, 1) := by decide +kernel
theorem dX9_place_65 : decode cX9_place 65 = .ok (.iload 7, 2) := by decide +kernel
theorem dX9_place_67 : decode cX9_place 67 = .ok (.iadd, 1) := by decide +kernel
theorem dX9_place_68 : decode cX9_place 68 = .ok (.sipush 10000, 3) := by decide +kernel
theorem dX9_place_71 : decode cX9_place 71 = .ok (.imul, 1) := by decide +kernel
theorem dX9_place_72 : decode cX9_place 72 = .ok (.iload 8, 2) := by decide +kernel
theorem dX9_place_74 : decode cX9_place 74 = .ok (.iadd, 1) := by decide +kernel
theorem dX9_place_75 : decode cX9_place 75 = .ok (.istore 5, 2) := by decide +kernel
theorem dX9_place_77 : decode cX9_place 77 = .ok (.iload 8, 2) := by decide +kernel
theorem dX9_place_79 : decode cX9_place 79 = .ok (.ldc 73, 2) := by decide +kernel
theorem dX9_place_81 : decode cX9_place 81 = .ok (.if_icmp .eq 19, 3) := by decide +kernel
theorem dX9_place_84 : decode cX9_place 84 = .ok (.iload 7, 2) := by decide +kernel
theorem dX9_place_86 : decode cX9_place 86 = .ok (.bipush 59, 2) := by decide +kernel
theorem dX9_place_88 : decode cX9_place 88 = .ok (.if_icmp .gt 12, 3) := by decide +kernel
theorem dX9_place_91 : decode cX9_place 91 = .ok (.iload 5, 2) := by decide +kernel
theorem dX9_place_93 : decode cX9_place 93 = .ok (.iload_n 3, 1) := by decide +kernel
theorem dX9_place_94 : decode cX9_place 94 = .ok (.ldc 194, 2) := by decide +kernel
theorem dX9_place_96 : decode cX9_place 96 = .ok (.imul, 1) := by decide +kernel
theorem dX9_place_97 : decode cX9_place 97 = .ok (.if_icmp .le 8, 3) := by decide +kernel
theorem dX9_place_100 : decode cX9_place 100 = .ok (.aload_n 0, 1) := by decide +kernel
theorem dX9_place_101 : decode cX9_place 101 = .ok (.invokevirtual 166, 3) := by decide +kernel
theorem dX9_place_104 : decode cX9_place 104 = .ok (.ireturn, 1) := by decide +kernel
theorem dX9_place_105 : decode cX9_place 105 = .ok (.aload_n 0, 1) := by decide +kernel
theorem dX9_place_106 : decode cX9_place 106 = .ok (.iload 5, 2) := by decide +kernel
theorem dX9_place_108 : decode cX9_place 108 = .ok (.iload_n 1, 1) := by decide +kernel
theorem dX9_place_109 : decode cX9_place 109 = .ok (.iconst 1, 1) := by decide +kernel
theorem dX9_place_110 : decode cX9_place 110 = .ok (.iadd, 1) := by decide +kernel
theorem dX9_place_111 : decode cX9_place 111 = .ok (.aload 4, 2) := by decide +kernel
theorem dX9_place_113 : decode cX9_place 113 = .ok (.invokevirtual 195, 3) := by decide +kernel
theorem dX9_place_116 : decode cX9_place 116 = .ok (.ireturn, 1) := by decide +kernel
theorem dX9_measured_0 : decode cX9_measured 0 = .ok (.aload_n 0, 1) := by decide +kernel
theorem dX9_measured_1 : decode cX9_measured 1 = .ok (.iload_n 2, 1) := by decide +kernel
theorem dX9_measured_2 : decode cX9_measured 2 = .ok (.aload_n 3, 1) := by decide +kernel
theorem dX9_measured_3 : decode cX9_measured 3 = .ok (.invokevirtual 190, 3) := by decide +kernel
theorem dX9_measured_6 : decode cX9_measured 6 = .ok (.istore 4, 2) := by decide +kernel
theorem dX9_measured_8 : decode cX9_measured 8 = .ok (.iload_n 1, 1) := by decide +kernel
theorem dX9_measured_9 : decode cX9_measured 9 = .ok (.ldc 73, 2) := by decide +kernel
theorem dX9_measured_11 : decode cX9_measured 11 = .ok (.if_icmp .eq 17, 3) := by decide +kernel
theorem dX9_measured_14 : decode cX9_measured 14 = .ok (.iload 4, 2) := by decide +kernel
theorem dX9_measured_16 : decode cX9_measured 16 = .ok (.ldc 73, 2) := by decide +kernel
theorem dX9_measured_18 : decode cX9_measured 18 = .ok (.if_icmp .ne 10, 3) := by decide +kernel
theorem dX9_measured_21 : decode cX9_measured 21 = .ok (.aload_n 0, 1) := by decide +kernel
theorem dX9_measured_22 : decode cX9_measured 22 = .ok (.invokevirtual 166, 3) := by decide +kernel
theorem dX9_measured_25 : decode cX9_measured 25 = .ok (.goto 4, 3) := by decide +kernel
theorem dX9_measured_28 : decode cX9_measured 28 = .ok (.iload_n 1, 1) := by decide +kernel
theorem dX9_measured_29 : decode cX9_measured 29 = .ok (.ireturn, 1) := by decide +kernel
theorem dX9_fits_0 : decode cX9_fits 0 = .ok (.aload_n 0, 1) := by decide +kernel
theorem dX9_fits_1 : decode cX9_fits 1 = .ok (.iconst 1, 1) := by decide +kernel
theorem dX9_fits_2 : decode cX9_fits 2 = .ok (.putfield 149, 3) := by decide +kernel
theorem dX9_fits_5 : decode cX9_fits 5 = .ok (.iload_n 1, 1) := by decide +kernel
theorem dX9_fits_6 : decode cX9_fits 6 = .ok (.tableswitch 98 0 2 #[26, 44, 71], 26) := by decide +kernel
theorem dX9_fits_32 : decode cX9_fits 32 = .ok (.aload_n 0, 1) := by decide +kernel
theorem dX9_fits_33 : decode cX9_fits 33 = .ok (.getfield 113, 3) := by decide +kernel
theorem dX9_fits_36 : decode cX9_fits 36 = .ok (.bipush 15, 2) := by decide +kernel
theorem dX9_fits_38 : decode cX9_fits 38 = .ok (.if_icmp .eq 5, 3) := by decide +kernel
theorem dX9_fits_41 : decode cX9_fits 41 = .ok (.iconst 0, 1) := by decide +kernel
theorem dX9_fits_42 : decode cX9_fits 42 = .ok (.ireturn, 1) := by decide +kernel
theorem dX9_fits_43 : decode cX9_fits 43 = .ok (.aload_n 0, 1) := by decide +kernel
theorem dX9_fits_44 : decode cX9_fits 44 = .ok (.invokevirtual 199, 3) := by decide +kernel
theorem dX9_fits_47 : decode cX9_fits 47 = .ok (.goto 72, 3) := by decide +kernel
theorem dX9_fits_50 : decode cX9_fits 50 = .ok (.aload_n 0, 1) := by decide +kernel
theorem dX9_fits_51 : decode cX9_fits 51 = .ok (.getfield 113, 3) := by decide +kernel
theorem dX9_fits_54 : decode cX9_fits 54 = .ok (.bipush 12, 2) := by decide +kernel
theorem dX9_fits_56 : decode cX9_fits 56 = .ok (.if_icmp .eq 14, 3) := by decide +kernel
theorem dX9_fits_59 : decode cX9_fits 59 = .ok (.aload_n 0, 1) := by decide +kernel
theorem dX9_fits_60 : decode cX9_fits 60 = .ok (.getfield 113, 3) := by decide +kernel
theorem dX9_fits_63 : decode cX9_fits 63 = .ok (.bipush 13, 2) := by decide +kernel
theorem dX9_fits_65 : decode cX9_fits 65 = .ok (.if_icmp .eq 5, 3) := by decide +kernel
theorem dX9_fits_68 : decode cX9_fits 68 = .ok (.iconst 0, 1) := by decide +kernel
theorem dX9_fits_69 : decode cX9_fits 69 = .ok (.ireturn, 1) := by decide +kernel
theorem dX9_fits_70 : decode cX9_fits 70 = .ok (.aload_n 0, 1) := by decide +kernel
theorem dX9_fits_71 : decode cX9_fits 71 = .ok (.invokevirtual 202, 3) := by decide +kernel
theorem dX9_fits_74 : decode cX9_fits 74 = .ok (.goto 45, 3) := by decide +kernel
theorem dX9_fits_77 : decode cX9_fits 77 = .ok (.aload_n 0, 1) := by decide +kernel
theorem dX9_fits_78 : decode cX9_fits 78 = .ok (.getfield 113, 3) := by decide +kernel
theorem dX9_fits_81 : decode cX9_fits 81 = .ok (.bipush 9, 2) := by decide +kernel
theorem dX9_fits_83 : decode cX9_fits 83 = .ok (.if_icmp .eq 14, 3) := by decide +kernel
theorem dX9_fits_86 : decode cX9_fits 86 = .ok (.aload_n 0, 1) := by decide +kernel
theorem dX9_fits_87 : decode cX9_fits 87 = .ok (.getfield 113, 3) := by decide +kernel
theorem dX9_fits_90 : decode cX9_fits 90 = .ok (.bipush 10, 2) := by decide +kernel
theorem dX9_fits_92 : decode cX9_fits 92 = .ok (.if_icmp .eq 5, 3) := by decide +kernel
theorem dX9_fits_95 : decode cX9_fits 95 = .ok (.iconst 0, 1) := by decide +kernel
theorem dX9_fits_96 : decode cX9_fits 96 = .ok (.ireturn, 1) := by decide +kernel
theorem dX9_fits_97 : decode cX9_fits 97 = .ok (.aload_n 0, 1) := by decide +kernel
theorem dX9_fits_98 : decode cX9_fits 98 = .ok (.invokevirtual 205, 3) := by decide +kernel
theorem dX9_fits_101 : decode cX9_fits 101 = .ok (.goto 18, 3) := by decide +kernel
theorem dX9_fits_104 : decode cX9_fits 104 = .ok (.aload_n 0, 1) := by decide +kernel
theorem dX9_fits_105 : decode cX9_fits 105 = .ok (.getfield 113, 3) := by decide +kernel
theorem dX9_fits_108 : decode cX9_fits 108 = .ok (.bipush 7, 2) := by decide +kernel
theorem dX9_fits_110 : decode cX9_fits 110 = .ok (.if_icmp .eq 5, 3) := by decide +kernel
theorem dX9_fits_113 : decode cX9_fits 113 = .ok (.iconst 0, 1) := by decide +kernel
theorem dX9_fits_114 : decode cX9_fits 114 = .ok (.ireturn, 1) := by decide +kernel
theorem dX9_fits_115 : decode cX9_fits 115 = .ok (.aload_n 0, 1) := by decide +kernel
theorem dX9_fits_116 : decode cX9_fits 116 = .ok (.invokevirtual 208, 3) := by decide +kernel
theorem dX9_fits_119 : decode cX9_fits 119 = .ok (.aload_n 0, 1) := by decide +kernel
theorem dX9_fits_120 : decode cX9_fits 120 = .ok (.getfield 149, 3) := by decide +kernel
theorem dX9_fits_123 : decode cX9_fits 123 = .ok (.ireturn, 1) := by decide +kernel
theorem dX9_gga_0 : decode cX9_gga 0 = .ok (.aload_n 0, 1) := by decide +kernel
theorem dX9_gga_1 : decode cX9_gga 1 = .ok (.getfield 32, 3) := by decide +kernel
theorem dX9_gga_4 : decode cX9_gga 4 = .ok (.iconst 0, 1) := by decide +kernel
theorem dX9_gga_5 : decode cX9_gga 5 = .ok (.aload_n 0, 1) := by decide +kernel
theorem dX9_gga_6 : decode cX9_gga 6 = .ok (.iconst 1, 1) := by decide +kernel
theorem dX9_gga_7 : decode cX9_gga 7 = .ok (.invokevirtual 211, 3) := by decide +kernel
theorem dX9_gga_10 : decode cX9_gga 10 = .ok (.iastore, 1) := by decide +kernel
theorem dX9_gga_11 : decode cX9_gga 11 = .ok (.aload_n 0, 1) := by decide +kernel
theorem dX9_gga_12 : decode cX9_gga 12 = .ok (.getfield 32, 3) := by decide +kernel
theorem dX9_gga_15 : decode cX9_gga 15 = .ok (.iconst 1, 1) := by decide +kernel
theorem dX9_gga_16 : decode cX9_gga 16 = .ok (.aload_n 0, 1) := by decide +kernel
theorem dX9_gga_17 : decode cX9_gga 17 = .ok (.iconst 2, 1) := by decide +kernel
theorem dX9_gga_18 : decode cX9_gga 18 = .ok (.iconst 4, 1) := by decide +kernel
theorem dX9_gga_19 : decode cX9_gga 19 = .ok (.bipush 90, 2) := by decide +kernel
theorem dX9_gga_21 : decode cX9_gga 21 = .ok (.ldc 214, 2) := by decide +kernel
theorem dX9_gga_23 : decode cX9_gga 23 = .ok (.invokevirtual 216, 3) := by decide +kernel
theorem dX9_gga_26 : decode cX9_gga 26 = .ok (.iastore, 1) := by decide +kernel
theorem dX9_gga_27 : decode cX9_gga 27 = .ok (.aload_n 0, 1) := by decide +kernel
theorem dX9_gga_28 : decode cX9_gga 28 = .ok (.getfield 32, 3) := by decide +kernel
theorem dX9_gga_31 : decode cX9_gga 31 = .ok (.iconst 2, 1) := by decide +kernel
theorem dX9_gga_32 : decode cX9_gga 32 = .ok (.aload_n 0, 1) := by decide +kernel
theorem dX9_gga_33 : decode cX9_gga 33 = .ok (.iconst 4, 1) := by decide +kernel
theorem dX9_gga_34 : decode cX9_gga 34 = .ok (.iconst 5, 1) := by decide +kernel
theorem dX9_gga_35 : decode cX9_gga 35 = .ok (.sipush 180, 3) := by decide +kernel
theorem dX9_gga_38 : decode cX9_gga 38 = .ok (.ldc 220, 2) := by decide +kernel
theorem dX9_gga_40 : decode cX9_gga 40 = .ok (.invokevirtual 216, 3) := by decide +kernel
theorem dX9_gga_43 : decode cX9_gga 43 = .ok (.iastore, 1) := by decide +kernel
theorem dX9_gga_44 : decode cX9_gga 44 = .ok (.aload_n 0, 1) := by decide +kernel
theorem dX9_gga_45 : decode cX9_gga 45 = .ok (.getfield 32, 3) := by decide +kernel
theorem dX9_gga_48 : decode cX9_gga 48 = .ok (.iconst 3, 1) := by decide +kernel
theorem dX9_gga_49 : decode cX9_gga 49 = .ok (.aload_n 0, 1) := by decide +kernel
theorem dX9_gga_50 : decode cX9_gga 50 = .ok (.bipush 6, 2) := by decide +kernel
theorem dX9_gga_52 : decode cX9_gga 52 = .ok (.iconst 1, 1) := by decide +kernel
theorem dX9_gga_53 : decode cX9_gga 53 = .ok (.invokevirtual 180, 3) := by decide +kernel
theorem dX9_gga_56 : decode cX9_gga 56 = .ok (.iastore, 1) := by decide +kernel
theorem dX9_gga_57 : decode cX9_gga 57 = .ok (.aload_n 0, 1) := by decide +kernel
theorem dX9_gga_58 : decode cX9_gga 58 = .ok (.getfield 32, 3) := by decide +kernel
theorem dX9_gga_61 : decode cX9_gga 61 = .ok (.iconst 3, 1) := by decide +kernel
theorem dX9_gga_62 : decode cX9_gga 62 = .ok (.iaload, 1) := by decide +kernel
theorem dX9_gga_63 : decode cX9_gga 63 = .ok (.ldc 73, 2) := by decide +kernel
theorem dX9_gga_65 : decode cX9_gga 65 = .ok (.if_icmp .eq 14, 3) := by decide +kernel
theorem dX9_gga_68 : decode cX9_gga 68 = .ok (.aload_n 0, 1) := by decide +kernel
theorem dX9_gga_69 : decode cX9_gga 69 = .ok (.getfield 32, 3) := by decide +kernel
theorem dX9_gga_72 : decode cX9_gga 72 = .ok (.iconst 3, 1) := by decide +kernel
theorem dX9_gga_73 : decode cX9_gga 73 = .ok (.iaload, 1) := by decide +kernel
theorem dX9_gga_74 : decode cX9_gga 74 = .ok (.bipush 8, 2) := by decide +kernel
theorem dX9_gga_76 : decode cX9_gga 76 = .ok (.if_icmp .le 8, 3) := by decide +kernel
theorem dX9_gga_79 : decode cX9_gga 79 = .ok (.aload_n 0, 1) := by decide +kernel
theorem dX9_gga_80 : decode cX9_gga 80 = .ok (.iconst 0, 1) := by decide +kernel
theorem dX9_gga_81 : decode cX9_gga 81 = .ok (.putfield 149, 3) := by decide +kernel
theorem dX9_gga_84 : decode cX9_gga 84 = .ok (.aload_n 0, 1) := by decide +kernel
theorem dX9_gga_85 : decode cX9_gga 85 = .ok (.getfield 32, 3) := by decide +kernel
theorem dX9_gga_88 : decode cX9_gga 88 = .ok (.iconst 4, 1) := by decide +kernel
theorem dX9_gga_89 : decode cX9_gga 89 = .ok (.aload_n 0, 1) := by decide +kernel
theorem dX9_gga_90 : decode cX9_gga 90 = .ok (.bipush 7, 2) := by decide +kernel
theorem dX9_gga_92 : decode cX9_gga 92 = .ok (.invokevirtual 153, 3) := by decide +kernel
theorem dX9_gga_95 : decode cX9_gga 95 = .ok (.ifCond .ne 8, 3) := by decide +kernel
theorem dX9_gga_98 : decode cX9_gga 98 = .ok (.ldc 73, 2) := by decide +kernel
theorem dX9_gga_100 : decode cX9_gga 100 = .ok (.goto 49, 3) := by decide +kernel
theorem dX9_gga_103 : decode cX9_gga 103 = .ok (.aload_n 0, 1) := by decide +kernel
theorem dX9_gga_104 : decode cX9_gga 104 = .ok (.bipush 7, 2) := by decide +kernel
theorem dX9_gga_106 : decode cX9_gga 106 = .ok (.invokevirtual 153, 3) := by decide +kernel
theorem dX9_gga_109 : decode cX9_gga 109 = .ok (.iconst 2, 1) := by decide +kernel
theorem dX9_gga_110 : decode cX9_gga 110 = .ok (.if_icmp .gt 19, 3) := by decide +kernel
theorem dX9_gga_113 : decode cX9_gga 113 = .ok (.aload_n 0, 1) := by decide +kernel
theorem dX9_gga_114 : decode cX9_gga 114 = .ok (.bipush 7, 2) := by decide +kernel
theorem dX9_gga_116 : decode cX9_gga 116 = .ok (.iconst 0, 1) := by decide +kernel
theorem dX9_gga_117 : decode cX9_gga 117 = .ok (.invokevirtual 163, 3) := by decide +kernel
theorem dX9_gga_120 : decode cX9_gga 120 = .ok (.aload_n 0, 1) := by decide +kernel
theorem dX9_gga_121 : decode cX9_gga 121 = .ok (.bipush 7, 2) := by decide +kernel
theorem dX9_gga_123 : decode cX9_gga 123 = .ok (.invokevirtual 153, 3) := by decide +kernel
theorem dX9_gga_126 : decode cX9_gga 126 = .ok (.if_icmp .eq 10, 3) := by decide +kernel
theorem dX9_gga_129 : decode cX9_gga 129 = .ok (.aload_n 0, 1) := by decide +kernel
theorem dX9_gga_130 : decode cX9_gga 130 = .ok (.invokevirtual 166, 3) := by decide +kernel
theorem dX9_gga_133 : decode cX9_gga 133 = .ok (.goto 16, 3) := by decide +kernel
theorem dX9_gga_136 : decode cX9_gga 136 = .ok (.aload_n 0, 1) := by decide +kernel
theorem dX9_gga_137 : decode cX9_gga 137 = .ok (.bipush 7, 2) := by decide +kernel
theorem dX9_gga_139 : decode cX9_gga 139 = .ok (.iconst 0, 1) := by decide +kernel
theorem dX9_gga_140 : decode cX9_gga 140 = .ok (.aload_n 0, 1) := by decide +kernel
theorem dX9_gga_141 : decode cX9_gga 141 = .ok (.bipush 7, 2) := by decide +kernel
theorem dX9_gga_143 : decode cX9_gga 143 = .ok (.invokevirtual 153, 3) := by decide +kernel
theorem dX9_gga_146 : decode cX9_gga 146 = .ok (.invokevirtual 173, 3) := by decide +kernel
theorem dX9_gga_149 : decode cX9_gga 149 = .ok (.iastore, 1) := by decide +kernel
theorem dX9_gga_150 : decode cX9_gga 150 = .ok (.aload_n 0, 1) := by decide +kernel
theorem dX9_gga_151 : decode cX9_gga 151 = .ok (.getfield 32, 3) := by decide +kernel
theorem dX9_gga_154 : decode cX9_gga 154 = .ok (.iconst 5, 1) := by decide +kernel
theorem dX9_gga_155 : decode cX9_gga 155 = .ok (.aload_n 0, 1) := by decide +kernel
theorem dX9_gga_156 : decode cX9_gga 156 = .ok (.bipush 8, 2) := by decide +kernel
theorem dX9_gga_158 : decode cX9_gga 158 = .ok (.iconst 2, 1) := by decide +kernel
theorem dX9_gga_159 : decode cX9_gga 159 = .ok (.iconst 2, 1) := by decide +kernel
theorem dX9_gga_160 : decode cX9_gga 160 = .ok (.iconst 0, 1) := by decide +kernel
theorem dX9_gga_161 : decode cX9_gga 161 = .ok (.invokevirtual 222, 3) := by decide +kernel
theorem dX9_gga_164 : decode cX9_gga 164 = .ok (.iastore, 1) := by decide +kernel
theorem dX9_gga_165 : decode cX9_gga 165 = .ok (.aload_n 0, 1) := by decide +kernel
theorem dX9_gga_166 : decode cX9_gga 166 = .ok (.getfield 32, 3) := by decide +kernel
theorem dX9_gga_169 : decode cX9_gga 169 = .ok (.bipush 6, 2) := by decide +kernel
theorem dX9_gga_171 : decode cX9_gga 171 = .ok (.aload_n 0, 1) := by decide +kernel
theorem dX9_gga_172 : decode cX9_gga 172 = .ok (.aload_n 0, 1) := by decide +kernel
theorem dX9_gga_173 : decode cX9_gga 173 = .ok (.bipush 9, 2) := by decide +kernel
theorem dX9_gga_175 : decode cX9_gga 175 = .ok (.iconst 1, 1) := by decide +kernel
theorem dX9_gga_176 : decode cX9_gga 176 = .ok (.iconst 5, 1) := by decide +kernel
theorem dX9_gga_177 : decode cX9_gga 177 = .ok (.iconst 1, 1) := by decide +kernel
theorem dX9_gga_178 : decode cX9_gga 178 = .ok (.invokevirtual 222, 3) := by decide +kernel
theorem dX9_gga_181 : decode cX9_gga 181 = .ok (.bipush 10, 2) := by decide +kernel
theorem dX9_gga_183 : decode cX9_gga 183 = .ok (.ldc 226, 2) := by decide +kernel
theorem dX9_gga_185 : decode cX9_gga 185 = .ok (.invokevirtual 228, 3) := by decide +kernel
theorem dX9_gga_188 : decode cX9_gga 188 = .ok (.iastore, 1) := by decide +kernel
theorem dX9_gga_189 : decode cX9_gga 189 = .ok (.aload_n 0, 1) := by decide +kernel
theorem dX9_gga_190 : decode cX9_gga 190 = .ok (.getfield 32, 3) := by decide +kernel
theorem dX9_gga_193 : decode cX9_gga 193 = .ok (.bipush 7, 2) := by decide +kernel
theorem dX9_gga_195 : decode cX9_gga 195 = .ok (.aload_n 0, 1) := by decide +kernel
theorem dX9_gga_196 : decode cX9_gga 196 = .ok (.aload_n 0, 1) := by decide +kernel
theorem dX9_gga_197 : decode cX9_gga 197 = .ok (.bipush 11, 2) := by decide +kernel
theorem dX9_gga_199 : decode cX9_gga 199 = .ok (.iconst 1, 1) := by decide +kernel
theorem dX9_gga_200 : decode cX9_gga 200 = .ok (.iconst 4, 1) := by decide +kernel
theorem dX9_gga_201 : decode cX9_gga 201 = .ok (.iconst 1, 1) := by decide +kernel
theorem dX9_gga_202 : decode cX9_gga 202 = .ok (.invokevirtual 222, 3) := by decide +kernel
theorem dX9_gga_205 : decode cX9_gga 205 = .ok (.bipush 12, 2) := by decide +kernel
theorem dX9_gga_207 : decode cX9_gga 207 = .ok (.ldc 226, 2) := by decide +kernel
theorem dX9_gga_209 : decode cX9_gga 209 = .ok (.invokevirtual 228, 3) := by decide +kernel
theorem dX9_gga_212 : decode cX9_gga 212 = .ok (.iastore, 1) := by decide +kernel
theorem dX9_gga_213 : decode cX9_gga 213 = .ok (.aload_n 0, 1) := by decide +kernel
theorem dX9_gga_214 : decode cX9_gga 214 = .ok (.getfield 32, 3) := by decide +kernel
theorem dX9_gga_217 : decode cX9_gga 217 = .ok (.bipush 8, 2) := by decide +kernel
theorem dX9_gga_219 : decode cX9_gga 219 = .ok (.aload_n 0, 1) := by decide +kernel
theorem dX9_gga_220 : decode cX9_gga 220 = .ok (.bipush 13, 2) := by decide +kernel
theorem dX9_gga_222 : decode cX9_gga 222 = .ok (.iconst 1, 1) := by decide +kernel
theorem dX9_gga_223 : decode cX9_gga 223 = .ok (.iconst 4, 1) := by decide +kernel
theorem dX9_gga_224 : decode cX9_gga 224 = .ok (.iconst 0, 1) := by decide +kernel
theorem dX9_gga_225 : decode cX9_gga 225 = .ok (.invokevirtual 222, 3) := by decide +kernel
theorem dX9_gga_228 : decode cX9_gga 228 = .ok (.iastore, 1) := by decide +kernel
theorem dX9_gga_229 : decode cX9_gga 229 = .ok (.aload_n 0, 1) := by decide +kernel
theorem dX9_gga_230 : decode cX9_gga 230 = .ok (.getfield 32, 3) := by decide +kernel
theorem dX9_gga_233 : decode cX9_gga 233 = .ok (.bipush 9, 2) := by decide +kernel
theorem dX9_gga_235 : decode cX9_gga 235 = .ok (.aload_n 0, 1) := by decide +kernel
theorem dX9_gga_236 : decode cX9_gga 236 = .ok (.bipush 14, 2) := by decide +kernel
theorem dX9_gga_238 : decode cX9_gga 238 = .ok (.iconst 4, 1) := by decide +kernel
theorem dX9_gga_239 : decode cX9_gga 239 = .ok (.invokevirtual 180, 3) := by decide +kernel
theorem dX9_gga_242 : decode cX9_gga 242 = .ok (.iastore, 1) := by decide +kernel
theorem dX9_gga_243 : decode cX9_gga 243 = .ok (.return_, 1) := by decide +kernel
theorem dX9_rmc_0 : decode cX9_rmc 0 = .ok (.aload_n 0, 1) := by decide +kernel
theorem dX9_rmc_1 : decode cX9_rmc 1 = .ok (.getfield 32, 3) := by decide +kernel
theorem dX9_rmc_4 : decode cX9_rmc 4 = .ok (.iconst 0, 1) := by decide +kernel
theorem dX9_rmc_5 : decode cX9_rmc 5 = .ok (.aload_n 0, 1) := by decide +kernel
theorem dX9_rmc_6 : decode cX9_rmc 6 = .ok (.iconst 1, 1) := by decide +kernel
theorem dX9_rmc_7 : decode cX9_rmc 7 = .ok (.invokevirtual 211, 3) := by decide +kernel
theorem dX9_rmc_10 : decode cX9_rmc 10 = .ok (.iastore, 1) := by decide +kernel
theorem dX9_rmc_11 : decode cX9_rmc 11 = .ok (.aload_n 0, 1) := by decide +kernel
theorem dX9_rmc_12 : decode cX9_rmc 12 = .ok (.iconst 2, 1) := by decide +kernel
theorem dX9_rmc_13 : decode cX9_rmc 13 = .ok (.ldc 231, 2) := by decide +kernel
theorem dX9_rmc_15 : decode cX9_rmc 15 = .ok (.invokevirtual 190, 3) := by decide +kernel
theorem dX9_rmc_18 : decode cX9_rmc 18 = .ok (.istore_n 1, 1) := by decide +kernel
theorem dX9_rmc_19 : decode cX9_rmc 19 = .ok (.iload_n 1, 1) := by decide +kernel
theorem dX9_rmc_20 : decode cX9_rmc 20 = .ok (.ldc 73, 2) := by decide +kernel
theorem dX9_rmc_22 : decode cX9_rmc 22 = .ok (.if_icmp .ne 8, 3) := by decide +kernel
theorem dX9_rmc_25 : decode cX9_rmc 25 = .ok (.aload_n 0, 1) := by decide +kernel
theorem dX9_rmc_26 : decode cX9_rmc 26 = .ok (.iconst 0, 1) := by decide +kernel
theorem dX9_rmc_27 : decode cX9_rmc 27 = .ok (.putfield 149, 3) := by decide +kernel
theorem dX9_rmc_30 : decode cX9_rmc 30 = .ok (.aload_n 0, 1) := by decide +kernel
theorem dX9_rmc_31 : decode cX9_rmc 31 = .ok (.getfield 32, 3) := by decide +kernel
theorem dX9_rmc_34 : decode cX9_rmc 34 = .ok (.bipush 10, 2) := by decide +kernel
theorem dX9_rmc_36 : decode cX9_rmc 36 = .ok (.iload_n 1, 1) := by decide +kernel
theorem dX9_rmc_37 : decode cX9_rmc 37 = .ok (.bipush 65, 2) := by decide +kernel
theorem dX9_rmc_39 : decode cX9_rmc 39 = .ok (.if_icmp .ne 7, 3) := by decide +kernel
theorem dX9_rmc_42 : decode cX9_rmc 42 = .ok (.iconst 1, 1) := by decide +kernel
theorem dX9_rmc_43 : decode cX9_rmc 43 = .ok (.goto 4, 3) := by decide +kernel
theorem dX9_rmc_46 : decode cX9_rmc 46 = .ok (.iconst 0, 1) := by decide +kernel
theorem dX9_rmc_47 : decode cX9_rmc 47 = .ok (.iastore, 1) := by decide +kernel
theorem dX9_rmc_48 : decode cX9_rmc 48 = .ok (.aload_n 0, 1) := by decide +kernel
theorem dX9_rmc_49 : decode cX9_rmc 49 = .ok (.getfield 32, 3) := by decide +kernel
theorem dX9_rmc_52 : decode cX9_rmc 52 = .ok (.iconst 1, 1) := by decide +kernel
theorem dX9_rmc_53 : decode cX9_rmc 53 = .ok (.aload_n 0, 1) := by decide +kernel
theorem dX9_rmc_54 : decode cX9_rmc 54 = .ok (.iconst 3, 1) := by decide +kernel
theorem dX9_rmc_55 : decode cX9_rmc 55 = .ok (.iconst 4, 1) := by decide +kernel
theorem dX9_rmc_56 : decode cX9_rmc 56 = .ok (.bipush 90, 2) := by decide +kernel
theorem dX9_rmc_58 : decode cX9_rmc 58 = .ok (.ldc 214, 2) := by decide +kernel
theorem dX9_rmc_60 : decode cX9_rmc 60 = .ok (.invokevirtual 216, 3) := by decide +kernel
theorem dX9_rmc_63 : decode cX9_rmc 63 = .ok (.iastore, 1) := by decide +kernel
theorem dX9_rmc_64 : decode cX9_rmc 64 = .ok (.aload_n 0, 1) := by decide +kernel
theorem dX9_rmc_65 : decode cX9_rmc 65 = .ok (.getfield 32, 3) := by decide +kernel
theorem dX9_rmc_68 : decode cX9_rmc 68 = .ok (.iconst 2, 1) := by decide +kernel
theorem dX9_rmc_69 : decode cX9_rmc 69 = .ok (.aload_n 0, 1) := by decide +kernel
theorem dX9_rmc_70 : decode cX9_rmc 70 = .ok (.iconst 5, 1) := by decide +kernel
theorem dX9_rmc_71 : decode cX9_rmc 71 = .ok (.iconst 5, 1) := by decide +kernel
theorem dX9_rmc_72 : decode cX9_rmc 72 = .ok (.sipush 180, 3) := by decide +kernel
theorem dX9_rmc_75 : decode cX9_rmc 75 = .ok (.ldc 220, 2) := by decide +kernel
theorem dX9_rmc_77 : decode cX9_rmc 77 = .ok (.invokevirtual 216, 3) := by decide +kernel
theorem dX9_rmc_80 : decode cX9_rmc 80 = .ok (.iastore, 1) := by decide +kernel
theorem dX9_rmc_81 : decode cX9_rmc 81 = .ok (.aload_n 0, 1) := by decide +kernel
theorem dX9_rmc_82 : decode cX9_rmc 82 = .ok (.getfield 32, 3) := by decide +kernel
theorem dX9_rmc_85 : decode cX9_rmc 85 = .ok (.bipush 11, 2) := by decide +kernel
theorem dX9_rmc_87 : decode cX9_rmc 87 = .ok (.aload_n 0, 1) := by decide +kernel
theorem dX9_rmc_88 : decode cX9_rmc 88 = .ok (.bipush 7, 2) := by decide +kernel
theorem dX9_rmc_90 : decode cX9_rmc 90 = .ok (.iconst 2, 1) := by decide +kernel
theorem dX9_rmc_91 : decode cX9_rmc 91 = .ok (.iconst 4, 1) := by decide +kernel
theorem dX9_rmc_92 : decode cX9_rmc 92 = .ok (.iconst 0, 1) := by decide +kernel
theorem dX9_rmc_93 : decode cX9_rmc 93 = .ok (.invokevirtual 222, 3) := by decide +kernel
theorem dX9_rmc_96 : decode cX9_rmc 96 = .ok (.iastore, 1) := by decide +kernel
theorem dX9_rmc_97 : decode cX9_rmc 97 = .ok (.aload_n 0, 1) := by decide +kernel
theorem dX9_rmc_98 : decode cX9_rmc 98 = .ok (.getfield 32, 3) := by decide +kernel
theorem dX9_rmc_101 : decode cX9_rmc 101 = .ok (.bipush 12, 2) := by decide +kernel
theorem dX9_rmc_103 : decode cX9_rmc 103 = .ok (.aload_n 0, 1) := by decide +kernel
theorem dX9_rmc_104 : decode cX9_rmc 104 = .ok (.aload_n 0, 1) := by decide +kernel
theorem dX9_rmc_105 : decode cX9_rmc 105 = .ok (.bipush 8, 2) := by decide +kernel
theorem dX9_rmc_107 : decode cX9_rmc 107 = .ok (.iconst 2, 1) := by decide +kernel
theorem dX9_rmc_108 : decode cX9_rmc 108 = .ok (.iconst 3, 1) := by decide +kernel
theorem dX9_rmc_109 : decode cX9_rmc 109 = .ok (.iconst 0, 1) := by decide +kernel
theorem dX9_rmc_110 : decode cX9_rmc 110 = .ok (.invokevirtual 222, 3) := by decide +kernel
theorem dX9_rmc_113 : decode cX9_rmc 113 = .ok (.ldc 233, 2) := by decide +kernel
theorem dX9_rmc_115 : decode cX9_rmc 115 = .ok (.invokevirtual 234, 3) := by decide +kernel
theorem dX9_rmc_118 : decode cX9_rmc 118 = .ok (.iastore, 1) := by decide +kernel
theorem dX9_rmc_119 : decode cX9_rmc 119 = .ok (.aload_n 0, 1) := by decide +kernel
theorem dX9_rmc_120 : decode cX9_rmc 120 = .ok (.getfield 32, 3) := by decide +kernel
theorem dX9_rmc_123 : decode cX9_rmc 123 = .ok (.bipush 13, 2) := by decide +kernel
theorem dX9_rmc_125 : decode cX9_rmc 125 = .ok (.aload_n 0, 1) := by decide +kernel
theorem dX9_rmc_126 : decode cX9_rmc 126 = .ok (.bipush 9, 2) := by decide +kernel
theorem dX9_rmc_128 : decode cX9_rmc 128 = .ok (.invokevirtual 237, 3) := by decide +kernel
theorem dX9_rmc_131 : decode cX9_rmc 131 = .ok (.iastore, 1) := by decide +kernel
theorem dX9_rmc_132 : decode cX9_rmc 132 = .ok (.aload_n 0, 1) := by decide +kernel
theorem dX9_rmc_133 : decode cX9_rmc 133 = .ok (.getfield 32, 3) := by decide +kernel
theorem dX9_rmc_136 : decode cX9_rmc 136 = .ok (.bipush 14, 2) := by decide +kernel
theorem dX9_rmc_138 : decode cX9_rmc 138 = .ok (.aload_n 0, 1) := by decide +kernel
theorem dX9_rmc_139 : decode cX9_rmc 139 = .ok (.aload_n 0, 1) := by decide +kernel
theorem dX9_rmc_140 : decode cX9_rmc 140 = .ok (.aload_n 0, 1) := by decide +kernel
theorem dX9_rmc_141 : decode cX9_rmc 141 = .ok (.bipush 10, 2) := by decide +kernel
theorem dX9_rmc_143 : decode cX9_rmc 143 = .ok (.iconst 1, 1) := by decide +kernel
theorem dX9_rmc_144 : decode cX9_rmc 144 = .ok (.iconst 3, 1) := by decide +kernel
theorem dX9_rmc_145 : decode cX9_rmc 145 = .ok (.iconst 0, 1) := by decide +kernel
theorem dX9_rmc_146 : decode cX9_rmc 146 = .ok (.invokevirtual 222, 3) := by decide +kernel
theorem dX9_rmc_149 : decode cX9_rmc 149 = .ok (.sipush 1800, 3) := by decide +kernel
theorem dX9_rmc_152 : decode cX9_rmc 152 = .ok (.invokevirtual 234, 3) := by decide +kernel
theorem dX9_rmc_155 : decode cX9_rmc 155 = .ok (.bipush 11, 2) := by decide +kernel
theorem dX9_rmc_157 : decode cX9_rmc 157 = .ok (.ldc 220, 2) := by decide +kernel
theorem dX9_rmc_159 : decode cX9_rmc 159 = .ok (.invokevirtual 195, 3) := by decide +kernel
theorem dX9_rmc_162 : decode cX9_rmc 162 = .ok (.iastore, 1) := by decide +kernel
theorem dX9_rmc_163 : decode cX9_rmc 163 = .ok (.aload_n 0, 1) := by decide +kernel
theorem dX9_rmc_164 : decode cX9_rmc 164 = .ok (.getfield 32, 3) := by decide +kernel
theorem dX9_rmc_167 : decode cX9_rmc 167 = .ok (.bipush 17, 2) := by decide +kernel
theorem dX9_rmc_169 : decode cX9_rmc 169 = .ok (.aload_n 0, 1) := by decide +kernel
theorem dX9_rmc_170 : decode cX9_rmc 170 = .ok (.getfield 113, 3) := by decide +kernel
theorem dX9_rmc_173 : decode cX9_rmc 173 = .ok (.bipush 13, 2) := by decide +kernel
theorem dX9_rmc_175 : decode cX9_rmc 175 = .ok (.if_icmp .ne 14, 3) := by decide +kernel
theorem dX9_rmc_178 : decode cX9_rmc 178 = .ok (.aload_n 0, 1) := by decide +kernel
theorem dX9_rmc_179 : decode cX9_rmc 179 = .ok (.bipush 12, 2) := by decide +kernel
theorem dX9_rmc_181 : decode cX9_rmc 181 = .ok (.ldc 240, 2) := by decide +kernel
theorem dX9_rmc_183 : decode cX9_rmc 183 = .ok (.invokevirtual 190, 3) := by decide +kernel
theorem dX9_rmc_186 : decode cX9_rmc 186 = .ok (.goto 5, 3) := by decide +kernel
theorem dX9_rmc_189 : decode cX9_rmc 189 = .ok (.ldc 73, 2) := by decide +kernel
theorem dX9_rmc_191 : decode cX9_rmc 191 = .ok (.iastore, 1) := by decide +kernel
theorem dX9_rmc_192 : decode cX9_rmc 192 = .ok (.return_, 1) := by decide +kernel
theorem dX9_vtg_0 : decode cX9_vtg 0 = .ok (.aload_n 0, 1) := by decide +kernel
theorem dX9_vtg_1 : decode cX9_vtg 1 = .ok (.getfield 32, 3) := by decide +kernel
theorem dX9_vtg_4 : decode cX9_vtg 4 = .ok (.bipush 12, 2) := by decide +kernel
theorem dX9_vtg_6 : decode cX9_vtg 6 = .ok (.aload_n 0, 1) := by decide +kernel
theorem dX9_vtg_7 : decode cX9_vtg 7 = .ok (.aload_n 0, 1) := by decide +kernel
theorem dX9_vtg_8 : decode cX9_vtg 8 = .ok (.aload_n 0, 1) := by decide +kernel
theorem dX9_vtg_9 : decode cX9_vtg 9 = .ok (.iconst 1, 1) := by decide +kernel
theorem dX9_vtg_10 : decode cX9_vtg 10 = .ok (.iconst 2, 1) := by decide +kernel
theorem dX9_vtg_11 : decode cX9_vtg 11 = .ok (.iconst 3, 1) := by decide +kernel
theorem dX9_vtg_12 : decode cX9_vtg 12 = .ok (.iconst 0, 1) := by decide +kernel
theorem dX9_vtg_13 : decode cX9_vtg 13 = .ok (.invokevirtual 222, 3) := by decide +kernel
theorem dX9_vtg_16 : decode cX9_vtg 16 = .ok (.ldc 233, 2) := by decide +kernel
theorem dX9_vtg_18 : decode cX9_vtg 18 = .ok (.invokevirtual 234, 3) := by decide +kernel
theorem dX9_vtg_21 : decode cX9_vtg 21 = .ok (.iconst 2, 1) := by decide +kernel
theorem dX9_vtg_22 : decode cX9_vtg 22 = .ok (.ldc 242, 2) := by decide +kernel
theorem dX9_vtg_24 : decode cX9_vtg 24 = .ok (.invokevirtual 228, 3) := by decide +kernel
theorem dX9_vtg_27 : decode cX9_vtg 27 = .ok (.iastore, 1) := by decide +kernel
theorem dX9_vtg_28 : decode cX9_vtg 28 = .ok (.aload_n 0, 1) := by decide +kernel
theorem dX9_vtg_29 : decode cX9_vtg 29 = .ok (.getfield 32, 3) := by decide +kernel
theorem dX9_vtg_32 : decode cX9_vtg 32 = .ok (.bipush 15, 2) := by decide +kernel
theorem dX9_vtg_34 : decode cX9_vtg 34 = .ok (.aload_n 0, 1) := by decide +kernel
theorem dX9_vtg_35 : decode cX9_vtg 35 = .ok (.aload_n 0, 1) := by decide +kernel
theorem dX9_vtg_36 : decode cX9_vtg 36 = .ok (.aload_n 0, 1) := by decide +kernel
theorem dX9_vtg_37 : decode cX9_vtg 37 = .ok (.iconst 3, 1) := by decide +kernel
theorem dX9_vtg_38 : decode cX9_vtg 38 = .ok (.iconst 2, 1) := by decide +kernel
theorem dX9_vtg_39 : decode cX9_vtg 39 = .ok (.iconst 3, 1) := by decide +kernel
theorem dX9_vtg_40 : decode cX9_vtg 40 = .ok (.iconst 0, 1) := by decide +kernel
theorem dX9_vtg_41 : decode cX9_vtg 41 = .ok (.invokevirtual 222, 3) := by decide +kernel
theorem dX9_vtg_44 : decode cX9_vtg 44 = .ok (.ldc 233, 2) := by decide +kernel
theorem dX9_vtg_46 : decode cX9_vtg 46 = .ok (.invokevirtual 234, 3) := by decide +kernel
theorem dX9_vtg_49 : decode cX9_vtg 49 = .ok (.iconst 4, 1) := by decide +kernel
theorem dX9_vtg_50 : decode cX9_vtg 50 = .ok (.ldc 226, 2) := by decide +kernel
theorem dX9_vtg_52 : decode cX9_vtg 52 = .ok (.invokevirtual 228, 3) := by decide +kernel
theorem dX9_vtg_55 : decode cX9_vtg 55 = .ok (.iastore, 1) := by decide +kernel
theorem dX9_vtg_56 : decode cX9_vtg 56 = .ok (.aload_n 0, 1) := by decide +kernel
theorem dX9_vtg_57 : decode cX9_vtg 57 = .ok (.getfield 32, 3) := by decide +kernel
theorem dX9_vtg_60 : decode cX9_vtg 60 = .ok (.bipush 11, 2) := by decide +kernel
theorem dX9_vtg_62 : decode cX9_vtg 62 = .ok (.aload_n 0, 1) := by decide +kernel
theorem dX9_vtg_63 : decode cX9_vtg 63 = .ok (.aload_n 0, 1) := by decide +kernel
theorem dX9_vtg_64 : decode cX9_vtg 64 = .ok (.iconst 5, 1) := by decide +kernel
theorem dX9_vtg_65 : decode cX9_vtg 65 = .ok (.iconst 2, 1) := by decide +kernel
theorem dX9_vtg_66 : decode cX9_vtg 66 = .ok (.iconst 4, 1) := by decide +kernel
theorem dX9_vtg_67 : decode cX9_vtg 67 = .ok (.iconst 0, 1) := by decide +kernel
theorem dX9_vtg_68 : decode cX9_vtg 68 = .ok (.invokevirtual 222, 3) := by decide +kernel
theorem dX9_vtg_71 : decode cX9_vtg 71 = .ok (.bipush 6, 2) := by decide +kernel
theorem dX9_vtg_73 : decode cX9_vtg 73 = .ok (.ldc 244, 2) := by decide +kernel
theorem dX9_vtg_75 : decode cX9_vtg 75 = .ok (.invokevirtual 228, 3) := by decide +kernel
theorem dX9_vtg_78 : decode cX9_vtg 78 = .ok (.iastore, 1) := by decide +kernel
theorem dX9_vtg_79 : decode cX9_vtg 79 = .ok (.aload_n 0, 1) := by decide +kernel
theorem dX9_vtg_80 : decode cX9_vtg 80 = .ok (.getfield 32, 3) := by decide +kernel
theorem dX9_vtg_83 : decode cX9_vtg 83 = .ok (.bipush 16, 2) := by decide +kernel
theorem dX9_vtg_85 : decode cX9_vtg 85 = .ok (.aload_n 0, 1) := by decide +kernel
theorem dX9_vtg_86 : decode cX9_vtg 86 = .ok (.aload_n 0, 1) := by decide +kernel
theorem dX9_vtg_87 : decode cX9_vtg 87 = .ok (.bipush 7, 2) := by decide +kernel
theorem dX9_vtg_89 : decode cX9_vtg 89 = .ok (.iconst 2, 1) := by decide +kernel
theorem dX9_vtg_90 : decode cX9_vtg 90 = .ok (.iconst 4, 1) := by decide +kernel
theorem dX9_vtg_91 : decode cX9_vtg 91 = .ok (.iconst 0, 1) := by decide +kernel
theorem dX9_vtg_92 : decode cX9_vtg 92 = .ok (.invokevirtual 222, 3) := by decide +kernel
theorem dX9_vtg_95 : decode cX9_vtg 95 = .ok (.bipush 8, 2) := by decide +kernel
theorem dX9_vtg_97 : decode cX9_vtg 97 = .ok (.ldc 246, 2) := by decide +kernel
theorem dX9_vtg_99 : decode cX9_vtg 99 = .ok (.invokevirtual 228, 3) := by decide +kernel
theorem dX9_vtg_102 : decode cX9_vtg 102 = .ok (.iastore, 1) := by decide +kernel
theorem dX9_vtg_103 : decode cX9_vtg 103 = .ok (.aload_n 0, 1) := by decide +kernel
theorem dX9_vtg_104 : decode cX9_vtg 104 = .ok (.getfield 32, 3) := by decide +kernel
theorem dX9_vtg_107 : decode cX9_vtg 107 = .ok (.bipush 17, 2) := by decide +kernel
theorem dX9_vtg_109 : decode cX9_vtg 109 = .ok (.aload_n 0, 1) := by decide +kernel
theorem dX9_vtg_110 : decode cX9_vtg 110 = .ok (.getfield 113, 3) := by decide +kernel
theorem dX9_vtg_113 : decode cX9_vtg 113 = .ok (.bipush 10, 2) := by decide +kernel
theorem dX9_vtg_115 : decode cX9_vtg 115 = .ok (.if_icmp .ne 14, 3) := by decide +kernel
theorem dX9_vtg_118 : decode cX9_vtg 118 = .ok (.aload_n 0, 1) := by decide +kernel
theorem dX9_vtg_119 : decode cX9_vtg 119 = .ok (.bipush 9, 2) := by decide +kernel
theorem dX9_vtg_121 : decode cX9_vtg 121 = .ok (.ldc 240, 2) := by decide +kernel
theorem dX9_vtg_123 : decode cX9_vtg 123 = .ok (.invokevirtual 190, 3) := by decide +kernel
theorem dX9_vtg_126 : decode cX9_vtg 126 = .ok (.goto 5, 3) := by decide +kernel
theorem dX9_vtg_129 : decode cX9_vtg 129 = .ok (.ldc 73, 2) := by decide +kernel
theorem dX9_vtg_131 : decode cX9_vtg 131 = .ok (.iastore, 1) := by decide +kernel
theorem dX9_vtg_132 : decode cX9_vtg 132 = .ok (.return_, 1) := by decide +kernel
theorem dX9_part_0 : decode cX9_part 0 = .ok (.aload_n 0, 1) := by decide +kernel
theorem dX9_part_1 : decode cX9_part 1 = .ok (.aload_n 0, 1) := by decide +kernel
theorem dX9_part_2 : decode cX9_part 2 = .ok (.iconst 1, 1) := by decide +kernel
theorem dX9_part_3 : decode cX9_part 3 = .ok (.iconst 1, 1) := by decide +kernel
theorem dX9_part_4 : decode cX9_part 4 = .ok (.invokevirtual 180, 3) := by decide +kernel
theorem dX9_part_7 : decode cX9_part 7 = .ok (.putfield 248, 3) := by decide +kernel
theorem dX9_part_10 : decode cX9_part 10 = .ok (.aload_n 0, 1) := by decide +kernel
theorem dX9_part_11 : decode cX9_part 11 = .ok (.aload_n 0, 1) := by decide +kernel
theorem dX9_part_12 : decode cX9_part 12 = .ok (.iconst 2, 1) := by decide +kernel
theorem dX9_part_13 : decode cX9_part 13 = .ok (.iconst 1, 1) := by decide +kernel
theorem dX9_part_14 : decode cX9_part 14 = .ok (.invokevirtual 180, 3) := by decide +kernel
theorem dX9_part_17 : decode cX9_part 17 = .ok (.putfield 251, 3) := by decide +kernel
theorem dX9_part_20 : decode cX9_part 20 = .ok (.aload_n 0, 1) := by decide +kernel
theorem dX9_part_21 : decode cX9_part 21 = .ok (.iconst 3, 1) := by decide +kernel
theorem dX9_part_22 : decode cX9_part 22 = .ok (.iconst 1, 1) := by decide +kernel
theorem dX9_part_23 : decode cX9_part 23 = .ok (.invokevirtual 180, 3) := by decide +kernel
theorem dX9_part_26 : decode cX9_part 26 = .ok (.istore_n 1, 1) := by decide +kernel
theorem dX9_part_27 : decode cX9_part 27 = .ok (.aload_n 0, 1) := by decide +kernel
theorem dX9_part_28 : decode cX9_part 28 = .ok (.iload_n 1, 1) := by decide +kernel
theorem dX9_part_29 : decode cX9_part 29 = .ok (.ldc 73, 2) := by decide +kernel
theorem dX9_part_31 : decode cX9_part 31 = .ok (.if_icmp .ne 8, 3) := by decide +kernel
theorem dX9_part_34 : decode cX9_part 34 = .ok (.bipush 10, 2) := by decide +kernel
theorem dX9_part_36 : decode cX9_part 36 = .ok (.goto 4, 3) := by decide +kernel
theorem dX9_part_39 : decode cX9_part 39 = .ok (.iload_n 1, 1) := by decide +kernel
theorem dX9_part_40 : decode cX9_part 40 = .ok (.putfield 254, 3) := by decide +kernel
theorem dX9_part_43 : decode cX9_part 43 = .ok (.aload_n 0, 1) := by decide +kernel
theorem dX9_part_44 : decode cX9_part 44 = .ok (.iconst 4, 1) := by decide +kernel
theorem dX9_part_45 : decode cX9_part 45 = .ok (.ldc_w 257, 3) := by decide +kernel
theorem dX9_part_48 : decode cX9_part 48 = .ok (.invokevirtual 190, 3) := by decide +kernel
theorem dX9_part_51 : decode cX9_part 51 = .ok (.istore_n 2, 1) := by decide +kernel
theorem dX9_part_52 : decode cX9_part 52 = .ok (.aload_n 0, 1) := by decide +kernel
theorem dX9_part_53 : decode cX9_part 53 = .ok (.aload_n 0, 1) := by decide +kernel
theorem dX9_part_54 : decode cX9_part 54 = .ok (.bipush 6, 2) := by decide +kernel
theorem dX9_part_56 : decode cX9_part 56 = .ok (.iconst 1, 1) := by decide +kernel
theorem dX9_part_57 : decode cX9_part 57 = .ok (.invokevirtual 180, 3) := by decide +kernel
theorem dX9_part_60 : decode cX9_part 60 = .ok (.putfield 259, 3) := by decide +kernel
theorem dX9_part_63 : decode cX9_part 63 = .ok (.aload_n 0, 1) := by decide +kernel
theorem dX9_part_64 : decode cX9_part 64 = .ok (.getfield 248, 3) := by decide +kernel
theorem dX9_part_67 : decode cX9_part 67 = .ok (.ldc 73, 2) := by decide +kernel
theorem dX9_part_69 : decode cX9_part 69 = .ok (.if_icmp .eq 70, 3) := by decide +kernel
theorem dX9_part_72 : decode cX9_part 72 = .ok (.aload_n 0, 1) := by decide +kernel
theorem dX9_part_73 : decode cX9_part 73 = .ok (.getfield 251, 3) := by decide +kernel
theorem dX9_part_76 : decode cX9_part 76 = .ok (.ldc 73, 2) := by decide +kernel
theorem dX9_part_78 : decode cX9_part 78 = .ok (.if_icmp .eq 61, 3) := by decide +kernel
theorem dX9_part_81 : decode cX9_part 81 = .ok (.aload_n 0, 1) := by decide +kernel
theorem dX9_part_82 : decode cX9_part 82 = .ok (.getfield 259, 3) := by decide +kernel
theorem dX9_part_85 : decode cX9_part 85 = .ok (.ldc 73, 2) := by decide +kernel
theorem dX9_part_87 : decode cX9_part 87 = .ok (.if_icmp .eq 52, 3) := by decide +kernel
theorem dX9_part_90 : decode cX9_part 90 = .ok (.aload_n 0, 1) := by decide +kernel
theorem dX9_part_91 : decode cX9_part 91 = .ok (.getfield 248, 3) := by decide +kernel
theorem dX9_part_94 : decode cX9_part 94 = .ok (.iconst 1, 1) := by decide +kernel
theorem dX9_part_95 : decode cX9_part 95 = .ok (.if_icmp .lt 44, 3) := by decide +kernel
theorem dX9_part_98 : decode cX9_part 98 = .ok (.aload_n 0, 1) := by decide +kernel
theorem dX9_part_99 : decode cX9_part 99 = .ok (.getfield 251, 3) := by decide +kernel
theorem dX9_part_102 : decode cX9_part 102 = .ok (.i2l, 1) := by decide +kernel
theorem dX9_part_103 : decode cX9_part 103 = .ok (.lconst 1, 1) := by decide +kernel
theorem dX9_part_104 : decode cX9_part 104 = .ok (.aload_n 0, 1) := by decide +kernel
theorem dX9_part_105 : decode cX9_part 105 = .ok (.getfield 248, 3) := by decide +kernel
theorem dX9_part_108 : decode cX9_part 108 = .ok (.i2l, 1) := by decide +kernel
theorem dX9_part_109 : decode cX9_part 109 = .ok (.invokestatic 74, 3) := by decide +kernel
theorem dX9_part_112 : decode cX9_part 112 = .ok (.ifCond .eq 27, 3) := by decide +kernel
theorem dX9_part_115 : decode cX9_part 115 = .ok (.aload_n 0, 1) := by decide +kernel
theorem dX9_part_116 : decode cX9_part 116 = .ok (.getfield 259, 3) := by decide +kernel
theorem dX9_part_119 : decode cX9_part 119 = .ok (.iconst 5, 1) := by decide +kernel
theorem dX9_part_120 : decode cX9_part 120 = .ok (.if_icmp .gt 19, 3) := by decide +kernel
theorem dX9_part_123 : decode cX9_part 123 = .ok (.aload_n 0, 1) := by decide +kernel
theorem dX9_part_124 : decode cX9_part 124 = .ok (.iconst 5, 1) := by decide +kernel
theorem dX9_part_125 : decode cX9_part 125 = .ok (.invokevirtual 153, 3) := by decide +kernel
theorem dX9_part_128 : decode cX9_part 128 = .ok (.i2l, 1) := by decide +kernel
theorem dX9_part_129 : decode cX9_part 129 = .ok (.lconst 1, 1) := by decide +kernel
theorem dX9_part_130 : decode cX9_part 130 = .ok (.ldc2_w 262, 3) := by decide +kernel
theorem dX9_part_133 : decode cX9_part 133 = .ok (.invokestatic 74, 3) := by decide +kernel
theorem dX9_part_136 : decode cX9_part 136 = .ok (.ifCond .ne 8, 3) := by decide +kernel
theorem dX9_part_139 : decode cX9_part 139 = .ok (.aload_n 0, 1) := by decide +kernel
theorem dX9_part_140 : decode cX9_part 140 = .ok (.iconst 0, 1) := by decide +kernel
theorem dX9_part_141 : decode cX9_part 141 = .ok (.putfield 149, 3) := by decide +kernel
theorem dX9_part_144 : decode cX9_part 144 = .ok (.iconst 0, 1) := by decide +kernel
theorem dX9_part_145 : decode cX9_part 145 = .ok (.istore_n 3, 1) := by decide +kernel
theorem dX9_part_146 : decode cX9_part 146 = .ok (.iload_n 3, 1) := by decide +kernel
theorem dX9_part_147 : decode cX9_part 147 = .ok (.aload_n 0, 1) := by decide +kernel
theorem dX9_part_148 : decode cX9_part 148 = .ok (.iconst 5, 1) := by decide +kernel
theorem dX9_part_149 : decode cX9_part 149 = .ok (.invokevirtual 153, 3) := by decide +kernel
theorem dX9_part_152 : decode cX9_part 152 = .ok (.if_icmp .ge 52, 3) := by decide +kernel
theorem dX9_part_155 : decode cX9_part 155 = .ok (.aload_n 0, 1) := by decide +kernel
theorem dX9_part_156 : decode cX9_part 156 = .ok (.iconst 5, 1) := by decide +kernel
theorem dX9_part_157 : decode cX9_part 157 = .ok (.iload_n 3, 1) := by decide +kernel
theorem dX9_part_158 : decode cX9_part 158 = .ok (.invokevirtual 156, 3) := by decide +kernel
theorem dX9_part_161 : decode cX9_part 161 = .ok (.i2l, 1) := by decide +kernel
theorem dX9_part_162 : decode cX9_part 162 = .ok (.ldc2_w 78, 3) := by decide +kernel
theorem dX9_part_165 : decode cX9_part 165 = .ok (.ldc2_w 264, 3) := by decide +kernel
theorem dX9_part_168 : decode cX9_part 168 = .ok (.invokestatic 74, 3) := by decide +kernel
theorem dX9_part_171 : decode cX9_part 171 = .ok (.ifCond .ne 27, 3) := by decide +kernel
theorem dX9_part_174 : decode cX9_part 174 = .ok (.aload_n 0, 1) := by decide +kernel
theorem dX9_part_175 : decode cX9_part 175 = .ok (.iconst 5, 1) := by decide +kernel
theorem dX9_part_176 : decode cX9_part 176 = .ok (.iload_n 3, 1) := by decide +kernel
theorem dX9_part_177 : decode cX9_part 177 = .ok (.invokevirtual 156, 3) := by decide +kernel
theorem dX9_part_180 : decode cX9_part 180 = .ok (.i2l, 1) := by decide +kernel
theorem dX9_part_181 : decode cX9_part 181 = .ok (.ldc2_w 266, 3) := by decide +kernel
theorem dX9_part_184 : decode cX9_part 184 = .ok (.ldc2_w 268, 3) := by decide +kernel
theorem dX9_part_187 : decode cX9_part 187 = .ok (.invokestatic 74, 3) := by decide +kernel
theorem dX9_part_190 : decode cX9_part 190 = .ok (.ifCond .ne 8, 3) := by decide +kernel
theorem dX9_part_193 : decode cX9_part 193 = .ok (.aload_n 0, 1) := by decide +kernel
theorem dX9_part_194 : decode cX9_part 194 = .ok (.iconst 0, 1) := by decide +kernel
theorem dX9_part_195 : decode cX9_part 195 = .ok (.putfield 149, 3) := by decide +kernel
theorem dX9_part_198 : decode cX9_part 198 = .ok (.iinc 3 1, 3) := by decide +kernel
theorem dX9_part_201 : decode cX9_part 201 = .ok (.goto (-55), 3) := by decide +kernel
theorem dX9_part_204 : decode cX9_part 204 = .ok (.return_, 1) := by decide +kernel
theorem dX9_taken_0 : decode cX9_taken 0 = .ok (.iload_n 1, 1) := by decide +kernel
theorem dX9_taken_1 : decode cX9_taken 1 = .ok (.tableswitch 81 0 2 #[27, 37, 62], 27) := by decide +kernel
theorem dX9_taken_28 : decode cX9_taken 28 = .ok (.aload_n 0, 1) := by decide +kernel
theorem dX9_taken_29 : decode cX9_taken 29 = .ok (.iconst 0, 1) := by decide +kernel
theorem dX9_taken_30 : decode cX9_taken 30 = .ok (.bipush 9, 2) := by decide +kernel
theorem dX9_taken_32 : decode cX9_taken 32 = .ok (.invokevirtual 270, 3) := by decide +kernel
theorem dX9_taken_35 : decode cX9_taken 35 = .ok (.goto 51, 3) := by decide +kernel
theorem dX9_taken_38 : decode cX9_taken 38 = .ok (.aload_n 0, 1) := by decide +kernel
theorem dX9_taken_39 : decode cX9_taken 39 = .ok (.iconst 0, 1) := by decide +kernel
theorem dX9_taken_40 : decode cX9_taken 40 = .ok (.iconst 2, 1) := by decide +kernel
theorem dX9_taken_41 : decode cX9_taken 41 = .ok (.invokevirtual 270, 3) := by decide +kernel
theorem dX9_taken_44 : decode cX9_taken 44 = .ok (.aload_n 0, 1) := by decide +kernel
theorem dX9_taken_45 : decode cX9_taken 45 = .ok (.bipush 10, 2) := by decide +kernel
theorem dX9_taken_47 : decode cX9_taken 47 = .ok (.bipush 14, 2) := by decide +kernel
theorem dX9_taken_49 : decode cX9_taken 49 = .ok (.invokevirtual 270, 3) := by decide +kernel
theorem dX9_taken_52 : decode cX9_taken 52 = .ok (.aload_n 0, 1) := by decide +kernel
theorem dX9_taken_53 : decode cX9_taken 53 = .ok (.bipush 17, 2) := by decide +kernel
theorem dX9_taken_55 : decode cX9_taken 55 = .ok (.bipush 17, 2) := by decide +kernel
theorem dX9_taken_57 : decode cX9_taken 57 = .ok (.invokevirtual 270, 3) := by decide +kernel
theorem dX9_taken_60 : decode cX9_taken 60 = .ok (.goto 26, 3) := by decide +kernel
theorem dX9_taken_63 : decode cX9_taken 63 = .ok (.aload_n 0, 1) := by decide +kernel
theorem dX9_taken_64 : decode cX9_taken 64 = .ok (.bipush 11, 2) := by decide +kernel
theorem dX9_taken_66 : decode cX9_taken 66 = .ok (.bipush 12, 2) := by decide +kernel
theorem dX9_taken_68 : decode cX9_taken 68 = .ok (.invokevirtual 270, 3) := by decide +kernel
theorem dX9_taken_71 : decode cX9_taken 71 = .ok (.aload_n 0, 1) := by decide +kernel
theorem dX9_taken_72 : decode cX9_taken 72 = .ok (.bipush 15, 2) := by decide +kernel
theorem dX9_taken_74 : decode cX9_taken 74 = .ok (.bipush 17, 2) := by decide +kernel
theorem dX9_taken_76 : decode cX9_taken 76 = .ok (.invokevirtual 270, 3) := by decide +kernel
theorem dX9_taken_79 : decode cX9_taken 79 = .ok (.goto 7, 3) := by decide +kernel
theorem dX9_taken_82 : decode cX9_taken 82 = .ok (.aload_n 0, 1) := by decide +kernel
theorem dX9_taken_83 : decode cX9_taken 83 = .ok (.invokevirtual 274, 3) := by decide +kernel
theorem dX9_taken_86 : decode cX9_taken 86 = .ok (.return_, 1) := by decide +kernel
theorem dX9_keep_0 : decode cX9_keep 0 = .ok (.iload_n 1, 1) := by decide +kernel
theorem dX9_keep_1 : decode cX9_keep 1 = .ok (.istore_n 3, 1) := by decide +kernel
theorem dX9_keep_2 : decode cX9_keep 2 = .ok (.iload_n 3, 1) := by decide +kernel
theorem dX9_keep_3 : decode cX9_keep 3 = .ok (.iload_n 2, 1) := by decide +kernel
theorem dX9_keep_4 : decode cX9_keep 4 = .ok (.if_icmp .gt 21, 3) := by decide +kernel
theorem dX9_keep_7 : decode cX9_keep 7 = .ok (.aload_n 0, 1) := by decide +kernel
theorem dX9_keep_8 : decode cX9_keep 8 = .ok (.getfield 35, 3) := by decide +kernel
theorem dX9_keep_11 : decode cX9_keep 11 = .ok (.iload_n 3, 1) := by decide +kernel
theorem dX9_keep_12 : decode cX9_keep 12 = .ok (.aload_n 0, 1) := by decide +kernel
theorem dX9_keep_13 : decode cX9_keep 13 = .ok (.getfield 32, 3) := by decide +kernel
theorem dX9_keep_16 : decode cX9_keep 16 = .ok (.iload_n 3, 1) := by decide +kernel
theorem dX9_keep_17 : decode cX9_keep 17 = .ok (.iaload, 1) := by decide +kernel
theorem dX9_keep_18 : decode cX9_keep 18 = .ok (.iastore, 1) := by decide +kernel
theorem dX9_keep_19 : decode cX9_keep 19 = .ok (.iinc 3 1, 3) := by decide +kernel
theorem dX9_keep_22 : decode cX9_keep 22 = .ok (.goto (-20), 3) := by decide +kernel
theorem dX9_keep_25 : decode cX9_keep 25 = .ok (.return_, 1) := by decide +kernel
theorem dX9_parted_0 : decode cX9_parted 0 = .ok (.aload_n 0, 1) := by decide +kernel
theorem dX9_parted_1 : decode cX9_parted 1 = .ok (.getfield 251, 3) := by decide +kernel
theorem dX9_parted_4 : decode cX9_parted 4 = .ok (.iconst 1, 1) := by decide +kernel
theorem dX9_parted_5 : decode cX9_parted 5 = .ok (.if_icmp .ne 53, 3) := by decide +kernel
theorem dX9_parted_8 : decode cX9_parted 8 = .ok (.aload_n 0, 1) := by decide +kernel
theorem dX9_parted_9 : decode cX9_parted 9 = .ok (.getfield 23, 3) := by decide +kernel
theorem dX9_parted_12 : decode cX9_parted 12 = .ok (.bipush 7, 2) := by decide +kernel
theorem dX9_parted_14 : decode cX9_parted 14 = .ok (.dup2, 1) := by decide +kernel
theorem dX9_parted_15 : decode cX9_parted 15 = .ok (.iaload, 1) := by decide +kernel
theorem dX9_parted_16 : decode cX9_parted 16 = .ok (.aload_n 0, 1) := by decide +kernel
theorem dX9_parted_17 : decode cX9_parted 17 = .ok (.getfield 41, 3) := by decide +kernel
theorem dX9_parted_20 : decode cX9_parted 20 = .ok (.aload_n 0, 1) := by decide +kernel
theorem dX9_parted_21 : decode cX9_parted 21 = .ok (.getfield 254, 3) := by decide +kernel
theorem dX9_parted_24 : decode cX9_parted 24 = .ok (.iaload, 1) := by decide +kernel
theorem dX9_parted_25 : decode cX9_parted 25 = .ok (.ifCond .le 7, 3) := by decide +kernel
theorem dX9_parted_28 : decode cX9_parted 28 = .ok (.iconst 1, 1) := by decide +kernel
theorem dX9_parted_29 : decode cX9_parted 29 = .ok (.goto 4, 3) := by decide +kernel
theorem dX9_parted_32 : decode cX9_parted 32 = .ok (.iconst 0, 1) := by decide +kernel
theorem dX9_parted_33 : decode cX9_parted 33 = .ok (.iadd, 1) := by decide +kernel
theorem dX9_parted_34 : decode cX9_parted 34 = .ok (.iastore, 1) := by decide +kernel
theorem dX9_parted_35 : decode cX9_parted 35 = .ok (.aload_n 0, 1) := by decide +kernel
theorem dX9_parted_36 : decode cX9_parted 36 = .ok (.getfield 41, 3) := by decide +kernel
theorem dX9_parted_39 : decode cX9_parted 39 = .ok (.aload_n 0, 1) := by decide +kernel
theorem dX9_parted_40 : decode cX9_parted 40 = .ok (.getfield 254, 3) := by decide +kernel
theorem dX9_parted_43 : decode cX9_parted 43 = .ok (.iconst 0, 1) := by decide +kernel
theorem dX9_parted_44 : decode cX9_parted 44 = .ok (.iastore, 1) := by decide +kernel
theorem dX9_parted_45 : decode cX9_parted 45 = .ok (.aload_n 0, 1) := by decide +kernel
theorem dX9_parted_46 : decode cX9_parted 46 = .ok (.getfield 44, 3) := by decide +kernel
theorem dX9_parted_49 : decode cX9_parted 49 = .ok (.aload_n 0, 1) := by decide +kernel
theorem dX9_parted_50 : decode cX9_parted 50 = .ok (.getfield 254, 3) := by decide +kernel
theorem dX9_parted_53 : decode cX9_parted 53 = .ok (.iconst 0, 1) := by decide +kernel
theorem dX9_parted_54 : decode cX9_parted 54 = .ok (.iastore, 1) := by decide +kernel
theorem dX9_parted_55 : decode cX9_parted 55 = .ok (.goto 59, 3) := by decide +kernel
theorem dX9_parted_58 : decode cX9_parted 58 = .ok (.aload_n 0, 1) := by decide +kernel
theorem dX9_parted_59 : decode cX9_parted 59 = .ok (.getfield 38, 3) := by decide +kernel
theorem dX9_parted_62 : decode cX9_parted 62 = .ok (.aload_n 0, 1) := by decide +kernel
theorem dX9_parted_63 : decode cX9_parted 63 = .ok (.getfield 254, 3) := by decide +kernel
theorem dX9_parted_66 : decode cX9_parted 66 = .ok (.iaload, 1) := by decide +kernel
theorem dX9_parted_67 : decode cX9_parted 67 = .ok (.aload_n 0, 1) := by decide +kernel
theorem dX9_parted_68 : decode cX9_parted 68 = .ok (.getfield 248, 3) := by decide +kernel
theorem dX9_parted_71 : decode cX9_parted 71 = .ok (.if_icmp .ne 21, 3) := by decide +kernel
theorem dX9_parted_74 : decode cX9_parted 74 = .ok (.aload_n 0, 1) := by decide +kernel
theorem dX9_parted_75 : decode cX9_parted 75 = .ok (.getfield 41, 3) := by decide +kernel
theorem dX9_parted_78 : decode cX9_parted 78 = .ok (.aload_n 0, 1) := by decide +kernel
theorem dX9_parted_79 : decode cX9_parted 79 = .ok (.getfield 254, 3) := by decide +kernel
theorem dX9_parted_82 : decode cX9_parted 82 = .ok (.iaload, 1) := by decide +kernel
theorem dX9_parted_83 : decode cX9_parted 83 = .ok (.aload_n 0, 1) := by decide +kernel
theorem dX9_parted_84 : decode cX9_parted 84 = .ok (.getfield 251, 3) := by decide +kernel
theorem dX9_parted_87 : decode cX9_parted 87 = .ok (.iconst 1, 1) := by decide +kernel
theorem dX9_parted_88 : decode cX9_parted 88 = .ok (.isub, 1) := by decide +kernel
theorem dX9_parted_89 : decode cX9_parted 89 = .ok (.if_icmp .eq 25, 3) := by decide +kernel
theorem dX9_parted_92 : decode cX9_parted 92 = .ok (.aload_n 0, 1) := by decide +kernel
theorem dX9_parted_93 : decode cX9_parted 93 = .ok (.getfield 23, 3) := by decide +kernel
theorem dX9_parted_96 : decode cX9_parted 96 = .ok (.bipush 7, 2) := by decide +kernel
theorem dX9_parted_98 : decode cX9_parted 98 = .ok (.dup2, 1) := by decide +kernel
theorem dX9_parted_99 : decode cX9_parted 99 = .ok (.iaload, 1) := by decide +kernel
theorem dX9_parted_100 : decode cX9_parted 100 = .ok (.iconst 1, 1) := by decide +kernel
theorem dX9_parted_101 : decode cX9_parted 101 = .ok (.iadd, 1) := by decide +kernel
theorem dX9_parted_102 : decode cX9_parted 102 = .ok (.iastore, 1) := by decide +kernel
theorem dX9_parted_103 : decode cX9_parted 103 = .ok (.aload_n 0, 1) := by decide +kernel
theorem dX9_parted_104 : decode cX9_parted 104 = .ok (.getfield 41, 3) := by decide +kernel
theorem dX9_parted_107 : decode cX9_parted 107 = .ok (.aload_n 0, 1) := by decide +kernel
theorem dX9_parted_108 : decode cX9_parted 108 = .ok (.getfield 254, 3) := by decide +kernel
theorem dX9_parted_111 : decode cX9_parted 111 = .ok (.iconst 0, 1) := by decide +kernel
theorem dX9_parted_112 : decode cX9_parted 112 = .ok (.iastore, 1) := by decide +kernel
theorem dX9_parted_113 : decode cX9_parted 113 = .ok (.return_, 1) := by decide +kernel
theorem dX9_parted_114 : decode cX9_parted 114 = .ok (.aload_n 0, 1) := by decide +kernel
theorem dX9_parted_115 : decode cX9_parted 115 = .ok (.getfield 38, 3) := by decide +kernel
theorem dX9_parted_118 : decode cX9_parted 118 = .ok (.aload_n 0, 1) := by decide +kernel
theorem dX9_parted_119 : decode cX9_parted 119 = .ok (.getfield 254, 3) := by decide +kernel
theorem dX9_parted_122 : decode cX9_parted 122 = .ok (.aload_n 0, 1) := by decide +kernel
theorem dX9_parted_123 : decode cX9_parted 123 = .ok (.getfield 248, 3) := by decide +kernel
theorem dX9_parted_126 : decode cX9_parted 126 = .ok (.iastore, 1) := by decide +kernel
theorem dX9_parted_127 : decode cX9_parted 127 = .ok (.aload_n 0, 1) := by decide +kernel
theorem dX9_parted_128 : decode cX9_parted 128 = .ok (.getfield 41, 3) := by decide +kernel
theorem dX9_parted_131 : decode cX9_parted 131 = .ok (.aload_n 0, 1) := by decide +kernel
theorem dX9_parted_132 : decode cX9_parted 132 = .ok (.getfield 254, 3) := by decide +kernel
theorem dX9_parted_135 : decode cX9_parted 135 = .ok (.dup2, 1) := by decide +kernel
theorem dX9_parted_136 : decode cX9_parted 136 = .ok (.iaload, 1) := by decide +kernel
theorem dX9_parted_137 : decode cX9_parted 137 = .ok (.iconst 1, 1) := by decide +kernel
theorem dX9_parted_138 : decode cX9_parted 138 = .ok (.iadd, 1) := by decide +kernel
theorem dX9_parted_139 : decode cX9_parted 139 = .ok (.iastore, 1) := by decide +kernel
theorem dX9_parted_140 : decode cX9_parted 140 = .ok (.bipush 6, 2) := by decide +kernel
theorem dX9_parted_142 : decode cX9_parted 142 = .ok (.aload_n 0, 1) := by decide +kernel
theorem dX9_parted_143 : decode cX9_parted 143 = .ok (.iconst 5, 1) := by decide +kernel
theorem dX9_parted_144 : decode cX9_parted 144 = .ok (.invokevirtual 153, 3) := by decide +kernel
theorem dX9_parted_147 : decode cX9_parted 147 = .ok (.imul, 1) := by decide +kernel
theorem dX9_parted_148 : decode cX9_parted 148 = .ok (.aload_n 0, 1) := by decide +kernel
theorem dX9_parted_149 : decode cX9_parted 149 = .ok (.getfield 259, 3) := by decide +kernel
theorem dX9_parted_152 : decode cX9_parted 152 = .ok (.isub, 1) := by decide +kernel
theorem dX9_parted_153 : decode cX9_parted 153 = .ok (.istore_n 1, 1) := by decide +kernel
theorem dX9_parted_154 : decode cX9_parted 154 = .ok (.iconst 0, 1) := by decide +kernel
theorem dX9_parted_155 : decode cX9_parted 155 = .ok (.istore_n 2, 1) := by decide +kernel
theorem dX9_parted_156 : decode cX9_parted 156 = .ok (.iload_n 2, 1) := by decide +kernel
theorem dX9_parted_157 : decode cX9_parted 157 = .ok (.iload_n 1, 1) := by decide +kernel
theorem dX9_parted_158 : decode cX9_parted 158 = .ok (.if_icmp .ge 83, 3) := by decide +kernel
theorem dX9_parted_161 : decode cX9_parted 161 = .ok (.aload_n 0, 1) := by decide +kernel
theorem dX9_parted_162 : decode cX9_parted 162 = .ok (.iconst 5, 1) := by decide +kernel
theorem dX9_parted_163 : decode cX9_parted 163 = .ok (.iload_n 2, 1) := by decide +kernel
theorem dX9_parted_164 : decode cX9_parted 164 = .ok (.bipush 6, 2) := by decide +kernel
theorem dX9_parted_166 : decode cX9_parted 166 = .ok (.idiv, 1) := by decide +kernel
theorem dX9_parted_167 : decode cX9_parted 167 = .ok (.invokevirtual 156, 3) := by decide +kernel
theorem dX9_parted_170 : decode cX9_parted 170 = .ok (.bipush 48, 2) := by decide +kernel
theorem dX9_parted_172 : decode cX9_parted 172 = .ok (.isub, 1) := by decide +kernel
theorem dX9_parted_173 : decode cX9_parted 173 = .ok (.istore_n 3, 1) := by decide +kernel
theorem dX9_parted_174 : decode cX9_parted 174 = .ok (.iload_n 3, 1) := by decide +kernel
theorem dX9_parted_175 : decode cX9_parted 175 = .ok (.bipush 40, 2) := by decide +kernel
theorem dX9_parted_177 : decode cX9_parted 177 = .ok (.if_icmp .le 10, 3) := by decide +kernel
theorem dX9_parted_180 : decode cX9_parted 180 = .ok (.iload_n 3, 1) := by decide +kernel
theorem dX9_parted_181 : decode cX9_parted 181 = .ok (.bipush 8, 2) := by decide +kernel
theorem dX9_parted_183 : decode cX9_parted 183 = .ok (.isub, 1) := by decide +kernel
theorem dX9_parted_184 : decode cX9_parted 184 = .ok (.goto 4, 3) := by decide +kernel
theorem dX9_parted_187 : decode cX9_parted 187 = .ok (.iload_n 3, 1) := by decide +kernel
theorem dX9_parted_188 : decode cX9_parted 188 = .ok (.istore 4, 2) := by decide +kernel
theorem dX9_parted_190 : decode cX9_parted 190 = .ok (.aload_n 0, 1) := by decide +kernel
theorem dX9_parted_191 : decode cX9_parted 191 = .ok (.getfield 48, 3) := by decide +kernel
theorem dX9_parted_194 : decode cX9_parted 194 = .ok (.aload_n 0, 1) := by decide +kernel
theorem dX9_parted_195 : decode cX9_parted 195 = .ok (.getfield 254, 3) := by decide +kernel
theorem dX9_parted_198 : decode cX9_parted 198 = .ok (.sipush 3240, 3) := by decide +kernel
theorem dX9_parted_201 : decode cX9_parted 201 = .ok (.imul, 1) := by decide +kernel
theorem dX9_parted_202 : decode cX9_parted 202 = .ok (.aload_n 0, 1) := by decide +kernel
theorem dX9_parted_203 : decode cX9_parted 203 = .ok (.getfield 44, 3) := by decide +kernel
theorem dX9_parted_206 : decode cX9_parted 206 = .ok (.aload_n 0, 1) := by decide +kernel
theorem dX9_parted_207 : decode cX9_parted 207 = .ok (.getfield 254, 3) := by decide +kernel
theorem dX9_parted_210 : decode cX9_parted 210 = .ok (.iaload, 1) := by decide +kernel
theorem dX9_parted_211 : decode cX9_parted 211 = .ok (.iadd, 1) := by decide +kernel
theorem dX9_parted_212 : decode cX9_parted 212 = .ok (.iload_n 2, 1) := by decide +kernel
theorem dX9_parted_213 : decode cX9_parted 213 = .ok (.iadd, 1) := by decide +kernel
theorem dX9_parted_214 : decode cX9_parted 214 = .ok (.iload 4, 2) := by decide +kernel
theorem dX9_parted_216 : decode cX9_parted 216 = .ok (.iconst 5, 1) := by decide +kernel
theorem dX9_parted_217 : decode cX9_parted 217 = .ok (.iload_n 2, 1) := by decide +kernel
theorem dX9_parted_218 : decode cX9_parted 218 = .ok (.bipush 6, 2) := by decide +kernel
theorem dX9_parted_220 : decode cX9_parted 220 = .ok (.irem, 1) := by decide +kernel
theorem dX9_parted_221 : decode cX9_parted 221 = .ok (.isub, 1) := by decide +kernel
theorem dX9_parted_222 : decode cX9_parted 222 = .ok (.ishr, 1) := by decide +kernel
theorem dX9_parted_223 : decode cX9_parted 223 = .ok (.iconst 1, 1) := by decide +kernel
theorem dX9_parted_224 : decode cX9_parted 224 = .ok (.iand, 1) := by decide +kernel
theorem dX9_parted_225 : decode cX9_parted 225 = .ok (.iconst 1, 1) := by decide +kernel
theorem dX9_parted_226 : decode cX9_parted 226 = .ok (.if_icmp .ne 7, 3) := by decide +kernel
theorem dX9_parted_229 : decode cX9_parted 229 = .ok (.iconst 1, 1) := by decide +kernel
theorem dX9_parted_230 : decode cX9_parted 230 = .ok (.goto 4, 3) := by decide +kernel
theorem dX9_parted_233 : decode cX9_parted 233 = .ok (.iconst 0, 1) := by decide +kernel
theorem dX9_parted_234 : decode cX9_parted 234 = .ok (.bastore, 1) := by decide +kernel
theorem dX9_parted_235 : decode cX9_parted 235 = .ok (.iinc 2 1, 3) := by decide +kernel
theorem dX9_parted_238 : decode cX9_parted 238 = .ok (.goto (-82), 3) := by decide +kernel
theorem dX9_parted_241 : decode cX9_parted 241 = .ok (.aload_n 0, 1) := by decide +kernel
theorem dX9_parted_242 : decode cX9_parted 242 = .ok (.getfield 44, 3) := by decide +kernel
theorem dX9_parted_245 : decode cX9_parted 245 = .ok (.aload_n 0, 1) := by decide +kernel
theorem dX9_parted_246 : decode cX9_parted 246 = .ok (.getfield 254, 3) := by decide +kernel
theorem dX9_parted_249 : decode cX9_parted 249 = .ok (.dup2, 1) := by decide +kernel
theorem dX9_parted_250 : decode cX9_parted 250 = .ok (.iaload, 1) := by decide +kernel
theorem dX9_parted_251 : decode cX9_parted 251 = .ok (.iload_n 1, 1) := by decide +kernel
theorem dX9_parted_252 : decode cX9_parted 252 = .ok (.iadd, 1) := by decide +kernel
theorem dX9_parted_253 : decode cX9_parted 253 = .ok (.iastore, 1) := by decide +kernel
theorem dX9_parted_254 : decode cX9_parted 254 = .ok (.aload_n 0, 1) := by decide +kernel
theorem dX9_parted_255 : decode cX9_parted 255 = .ok (.getfield 251, 3) := by decide +kernel
theorem dX9_parted_258 : decode cX9_parted 258 = .ok (.aload_n 0, 1) := by decide +kernel
theorem dX9_parted_259 : decode cX9_parted 259 = .ok (.getfield 248, 3) := by decide +kernel
theorem dX9_parted_262 : decode cX9_parted 262 = .ok (.if_icmp .ne 72, 3) := by decide +kernel
theorem dX9_parted_265 : decode cX9_parted 265 = .ok (.aload_n 0, 1) := by decide +kernel
theorem dX9_parted_266 : decode cX9_parted 266 = .ok (.aload_n 0, 1) := by decide +kernel
theorem dX9_parted_267 : decode cX9_parted 267 = .ok (.getfield 44, 3) := by decide +kernel
theorem dX9_parted_270 : decode cX9_parted 270 = .ok (.aload_n 0, 1) := by decide +kernel
theorem dX9_parted_271 : decode cX9_parted 271 = .ok (.getfield 254, 3) := by decide +kernel
theorem dX9_parted_274 : decode cX9_parted 274 = .ok (.iaload, 1) := by decide +kernel
theorem dX9_parted_275 : decode cX9_parted 275 = .ok (.putfield 277, 3) := by decide +kernel
theorem dX9_parted_278 : decode cX9_parted 278 = .ok (.iconst 0, 1) := by decide +kernel
theorem dX9_parted_279 : decode cX9_parted 279 = .ok (.istore_n 2, 1) := by decide +kernel
theorem dX9_parted_280 : decode cX9_parted 280 = .ok (.iload_n 2, 1) := by decide +kernel
theorem dX9_parted_281 : decode cX9_parted 281 = .ok (.aload_n 0, 1) := by decide +kernel
theorem dX9_parted_282 : decode cX9_parted 282 = .ok (.getfield 277, 3) := by decide +kernel
theorem dX9_parted_285 : decode cX9_parted 285 = .ok (.if_icmp .ge 30, 3) := by decide +kernel
theorem dX9_parted_288 : decode cX9_parted 288 = .ok (.aload_n 0, 1) := by decide +kernel
theorem dX9_parted_289 : decode cX9_parted 289 = .ok (.getfield 52, 3) := by decide +kernel
theorem dX9_parted_292 : decode cX9_parted 292 = .ok (.iload_n 2, 1) := by decide +kernel
theorem dX9_parted_293 : decode cX9_parted 293 = .ok (.aload_n 0, 1) := by decide +kernel
theorem dX9_parted_294 : decode cX9_parted 294 = .ok (.getfield 48, 3) := by decide +kernel
theorem dX9_parted_297 : decode cX9_parted 297 = .ok (.aload_n 0, 1) := by decide +kernel
theorem dX9_parted_298 : decode cX9_parted 298 = .ok (.getfield 254, 3) := by decide +kernel
theorem dX9_parted_301 : decode cX9_parted 301 = .ok (.sipush 3240, 3) := by decide +kernel
theorem dX9_parted_304 : decode cX9_parted 304 = .ok (.imul, 1) := by decide +kernel
theorem dX9_parted_305 : decode cX9_parted 305 = .ok (.iload_n 2, 1) := by decide +kernel
theorem dX9_parted_306 : decode cX9_parted 306 = .ok (.iadd, 1) := by decide +kernel
theorem dX9_parted_307 : decode cX9_parted 307 = .ok (.baload, 1) := by decide +kernel
theorem dX9_parted_308 : decode cX9_parted 308 = .ok (.bastore, 1) := by decide +kernel
theorem dX9_parted_309 : decode cX9_parted 309 = .ok (.iinc 2 1, 3) := by decide +kernel
theorem dX9_parted_312 : decode cX9_parted 312 = .ok (.goto (-32), 3) := by decide +kernel
theorem dX9_parted_315 : decode cX9_parted 315 = .ok (.aload_n 0, 1) := by decide +kernel
theorem dX9_parted_316 : decode cX9_parted 316 = .ok (.getfield 41, 3) := by decide +kernel
theorem dX9_parted_319 : decode cX9_parted 319 = .ok (.aload_n 0, 1) := by decide +kernel
theorem dX9_parted_320 : decode cX9_parted 320 = .ok (.getfield 254, 3) := by decide +kernel
theorem dX9_parted_323 : decode cX9_parted 323 = .ok (.iconst 0, 1) := by decide +kernel
theorem dX9_parted_324 : decode cX9_parted 324 = .ok (.iastore, 1) := by decide +kernel
theorem dX9_parted_325 : decode cX9_parted 325 = .ok (.aload_n 0, 1) := by decide +kernel
theorem dX9_parted_326 : decode cX9_parted 326 = .ok (.iconst 1, 1) := by decide +kernel
theorem dX9_parted_327 : decode cX9_parted 327 = .ok (.putfield 280, 3) := by decide +kernel
theorem dX9_parted_330 : decode cX9_parted 330 = .ok (.aload_n 0, 1) := by decide +kernel
theorem dX9_parted_331 : decode cX9_parted 331 = .ok (.invokevirtual 283, 3) := by decide +kernel
theorem dX9_parted_334 : decode cX9_parted 334 = .ok (.return_, 1) := by decide +kernel
theorem dX9_read_0 : decode cX9_read 0 = .ok (.iconst 0, 1) := by decide +kernel
theorem dX9_read_1 : decode cX9_read 1 = .ok (.istore_n 3, 1) := by decide +kernel
theorem dX9_read_2 : decode cX9_read 2 = .ok (.iload_n 1, 1) := by decide +kernel
theorem dX9_read_3 : decode cX9_read 3 = .ok (.istore 4, 2) := by decide +kernel
theorem dX9_read_5 : decode cX9_read 5 = .ok (.iload 4, 2) := by decide +kernel
theorem dX9_read_7 : decode cX9_read 7 = .ok (.iload_n 1, 1) := by decide +kernel
theorem dX9_read_8 : decode cX9_read 8 = .ok (.iload_n 2, 1) := by decide +kernel
theorem dX9_read_9 : decode cX9_read 9 = .ok (.iadd, 1) := by decide +kernel
theorem dX9_read_10 : decode cX9_read 10 = .ok (.if_icmp .ge 29, 3) := by decide +kernel
theorem dX9_read_13 : decode cX9_read 13 = .ok (.iload_n 3, 1) := by decide +kernel
theorem dX9_read_14 : decode cX9_read 14 = .ok (.iconst 1, 1) := by decide +kernel
theorem dX9_read_15 : decode cX9_read 15 = .ok (.ishl, 1) := by decide +kernel
theorem dX9_read_16 : decode cX9_read 16 = .ok (.aload_n 0, 1) := by decide +kernel
theorem dX9_read_17 : decode cX9_read 17 = .ok (.getfield 52, 3) := by decide +kernel
theorem dX9_read_20 : decode cX9_read 20 = .ok (.iload 4, 2) := by decide +kernel
theorem dX9_read_22 : decode cX9_read 22 = .ok (.baload, 1) := by decide +kernel
theorem dX9_read_23 : decode cX9_read 23 = .ok (.ifCond .eq 7, 3) := by decide +kernel
theorem dX9_read_26 : decode cX9_read 26 = .ok (.iconst 1, 1) := by decide +kernel
theorem dX9_read_27 : decode cX9_read 27 = .ok (.goto 4, 3) := by decide +kernel
theorem dX9_read_30 : decode cX9_read 30 = .ok (.iconst 0, 1) := by decide +kernel
theorem dX9_read_31 : decode cX9_read 31 = .ok (.ior, 1) := by decide +kernel
theorem dX9_read_32 : decode cX9_read 32 = .ok (.istore_n 3, 1) := by decide +kernel
theorem dX9_read_33 : decode cX9_read 33 = .ok (.iinc 4 1, 3) := by decide +kernel
theorem dX9_read_36 : decode cX9_read 36 = .ok (.goto (-31), 3) := by decide +kernel
theorem dX9_read_39 : decode cX9_read 39 = .ok (.iload_n 3, 1) := by decide +kernel
theorem dX9_read_40 : decode cX9_read 40 = .ok (.ireturn, 1) := by decide +kernel
theorem dX9_signed_0 : decode cX9_signed 0 = .ok (.aload_n 0, 1) := by decide +kernel
theorem dX9_signed_1 : decode cX9_signed 1 = .ok (.iload_n 1, 1) := by decide +kernel
theorem dX9_signed_2 : decode cX9_signed 2 = .ok (.iload_n 2, 1) := by decide +kernel
theorem dX9_signed_3 : decode cX9_signed 3 = .ok (.invokevirtual 286, 3) := by decide +kernel
theorem dX9_signed_6 : decode cX9_signed 6 = .ok (.bipush 32, 2) := by decide +kernel
theorem dX9_signed_8 : decode cX9_signed 8 = .ok (.iload_n 2, 1) := by decide +kernel
theorem dX9_signed_9 : decode cX9_signed 9 = .ok (.isub, 1) := by decide +kernel
theorem dX9_signed_10 : decode cX9_signed 10 = .ok (.ishl, 1) := by decide +kernel
theorem dX9_signed_11 : decode cX9_signed 11 = .ok (.bipush 32, 2) := by decide +kernel
theorem dX9_signed_13 : decode cX9_signed 13 = .ok (.iload_n 2, 1) := by decide +kernel
theorem dX9_signed_14 : decode cX9_signed 14 = .ok (.isub, 1) := by decide +kernel
theorem dX9_signed_15 : decode cX9_signed 15 = .ok (.ishr, 1) := by decide +kernel
theorem dX9_signed_16 : decode cX9_signed 16 = .ok (.ireturn, 1) := by decide +kernel
theorem dX9_found_0 : decode cX9_found 0 = .ok (.iconst 0, 1) := by decide +kernel
theorem dX9_found_1 : decode cX9_found 1 = .ok (.istore_n 2, 1) := by decide +kernel
theorem dX9_found_2 : decode cX9_found 2 = .ok (.iload_n 2, 1) := by decide +kernel
theorem dX9_found_3 : decode cX9_found 3 = .ok (.aload_n 0, 1) := by decide +kernel
theorem dX9_found_4 : decode cX9_found 4 = .ok (.getfield 289, 3) := by decide +kernel
theorem dX9_found_7 : decode cX9_found 7 = .ok (.if_icmp .ge 24, 3) := by decide +kernel
theorem dX9_found_10 : decode cX9_found 10 = .ok (.aload_n 0, 1) := by decide +kernel
theorem dX9_found_11 : decode cX9_found 11 = .ok (.getfield 55, 3) := by decide +kernel
theorem dX9_found_14 : decode cX9_found 14 = .ok (.bipush 24, 2) := by decide +kernel
theorem dX9_found_16 : decode cX9_found 16 = .ok (.iload_n 2, 1) := by decide +kernel
theorem dX9_found_17 : decode cX9_found 17 = .ok (.imul, 1) := by decide +kernel
theorem dX9_found_18 : decode cX9_found 18 = .ok (.iaload, 1) := by decide +kernel
theorem dX9_found_19 : decode cX9_found 19 = .ok (.iload_n 1, 1) := by decide +kernel
theorem dX9_found_20 : decode cX9_found 20 = .ok (.if_icmp .ne 5, 3) := by decide +kernel
theorem dX9_found_23 : decode cX9_found 23 = .ok (.iload_n 2, 1) := by decide +kernel
theorem dX9_found_24 : decode cX9_found 24 = .ok (.ireturn, 1) := by decide +kernel
theorem dX9_found_25 : decode cX9_found 25 = .ok (.iinc 2 1, 3) := by decide +kernel
theorem dX9_found_28 : decode cX9_found 28 = .ok (.goto (-26), 3) := by decide +kernel
theorem dX9_found_31 : decode cX9_found 31 = .ok (.ldc 73, 2) := by decide +kernel
theorem dX9_found_33 : decode cX9_found 33 = .ok (.ireturn, 1) := by decide +kernel
theorem dX9_message_0 : decode cX9_message 0 = .ok (.aload_n 0, 1) := by decide +kernel
theorem dX9_message_1 : decode cX9_message 1 = .ok (.getfield 277, 3) := by decide +kernel
theorem dX9_message_4 : decode cX9_message 4 = .ok (.bipush 38, 2) := by decide +kernel
theorem dX9_message_6 : decode cX9_message 6 = .ok (.if_icmp .ge 7, 3) := by decide +kernel
theorem dX9_message_9 : decode cX9_message 9 = .ok (.iconst 0, 1) := by decide +kernel
theorem dX9_message_10 : decode cX9_message 10 = .ok (.goto 10, 3) := by decide +kernel
theorem dX9_message_13 : decode cX9_message 13 = .ok (.aload_n 0, 1) := by decide +kernel
theorem dX9_message_14 : decode cX9_message 14 = .ok (.iconst 0, 1) := by decide +kernel
theorem dX9_message_15 : decode cX9_message 15 = .ok (.bipush 6, 2) := by decide +kernel
theorem dX9_message_17 : decode cX9_message 17 = .ok (.invokevirtual 286, 3) := by decide +kernel
theorem dX9_message_20 : decode cX9_message 20 = .ok (.istore_n 1, 1) := by decide +kernel
theorem dX9_message_21 : decode cX9_message 21 = .ok (.iload_n 1, 1) := by decide +kernel
theorem dX9_message_22 : decode cX9_message 22 = .ok (.i2l, 1) := by decide +kernel
theorem dX9_message_23 : decode cX9_message 23 = .ok (.lconst 1, 1) := by decide +kernel
theorem dX9_message_24 : decode cX9_message 24 = .ok (.ldc2_w 292, 3) := by decide +kernel
theorem dX9_message_27 : decode cX9_message 27 = .ok (.invokestatic 74, 3) := by decide +kernel
theorem dX9_message_30 : decode cX9_message 30 = .ok (.ifCond .ne 9, 3) := by decide +kernel
theorem dX9_message_33 : decode cX9_message 33 = .ok (.iload_n 1, 1) := by decide +kernel
theorem dX9_message_34 : decode cX9_message 34 = .ok (.bipush 18, 2) := by decide +kernel
theorem dX9_message_36 : decode cX9_message 36 = .ok (.if_icmp .ne 13, 3) := by decide +kernel
theorem dX9_message_39 : decode cX9_message 39 = .ok (.aload_n 0, 1) := by decide +kernel
theorem dX9_message_40 : decode cX9_message 40 = .ok (.getfield 277, 3) := by decide +kernel
theorem dX9_message_43 : decode cX9_message 43 = .ok (.sipush 168, 3) := by decide +kernel
theorem dX9_message_46 : decode cX9_message 46 = .ok (.if_icmp .eq 18, 3) := by decide +kernel
theorem dX9_message_49 : decode cX9_message 49 = .ok (.iload_n 1, 1) := by decide +kernel
theorem dX9_message_50 : decode cX9_message 50 = .ok (.iconst 5, 1) := by decide +kernel
theorem dX9_message_51 : decode cX9_message 51 = .ok (.if_icmp .ne 17, 3) := by decide +kernel
theorem dX9_message_54 : decode cX9_message 54 = .ok (.aload_n 0, 1) := by decide +kernel
theorem dX9_message_55 : decode cX9_message 55 = .ok (.getfield 277, 3) := by decide +kernel
theorem dX9_message_58 : decode cX9_message 58 = .ok (.sipush 424, 3) := by decide +kernel
theorem dX9_message_61 : decode cX9_message 61 = .ok (.if_icmp .ne 7, 3) := by decide +kernel
theorem dX9_message_64 : decode cX9_message 64 = .ok (.iconst 1, 1) := by decide +kernel
theorem dX9_message_65 : decode cX9_message 65 = .ok (.goto 4, 3) := by decide +kernel
theorem dX9_message_68 : decode cX9_message 68 = .ok (.iconst 0, 1) := by decide +kernel
theorem dX9_message_69 : decode cX9_message 69 = .ok (.istore_n 2, 1) := by decide +kernel
theorem dX9_message_70 : decode cX9_message 70 = .ok (.iload_n 2, 1) := by decide +kernel
theorem dX9_message_71 : decode cX9_message 71 = .ok (.ifCond .ne 15, 3) := by decide +kernel
theorem dX9_message_74 : decode cX9_message 74 = .ok (.aload_n 0, 1) := by decide +kernel
theorem dX9_message_75 : decode cX9_message 75 = .ok (.getfield 23, 3) := by decide +kernel
theorem dX9_message_78 : decode cX9_message 78 = .ok (.bipush 6, 2) := by decide +kernel
theorem dX9_message_80 : decode cX9_message 80 = .ok (.dup2, 1) := by decide +kernel
theorem dX9_message_81 : decode cX9_message 81 = .ok (.iaload, 1) := by decide +kernel
theorem dX9_message_82 : decode cX9_message 82 = .ok (.iconst 1, 1) := by decide +kernel
theorem dX9_message_83 : decode cX9_message 83 = .ok (.iadd, 1) := by decide +kernel
theorem dX9_message_84 : decode cX9_message 84 = .ok (.iastore, 1) := by decide +kernel
theorem dX9_message_85 : decode cX9_message 85 = .ok (.return_, 1) := by decide +kernel
theorem dX9_message_86 : decode cX9_message 86 = .ok (.aload_n 0, 1) := by decide +kernel
theorem dX9_message_87 : decode cX9_message 87 = .ok (.getfield 23, 3) := by decide +kernel
theorem dX9_message_90 : decode cX9_message 90 = .ok (.iconst 5, 1) := by decide +kernel
theorem dX9_message_91 : decode cX9_message 91 = .ok (.dup2, 1) := by decide +kernel
theorem dX9_message_92 : decode cX9_message 92 = .ok (.iaload, 1) := by decide +kernel
theorem dX9_message_93 : decode cX9_message 93 = .ok (.iconst 1, 1) := by decide +kernel
theorem dX9_message_94 : decode cX9_message 94 = .ok (.iadd, 1) := by decide +kernel
theorem dX9_message_95 : decode cX9_message 95 = .ok (.iastore, 1) := by decide +kernel
theorem dX9_message_96 : decode cX9_message 96 = .ok (.aload_n 0, 1) := by decide +kernel
theorem dX9_message_97 : decode cX9_message 97 = .ok (.bipush 8, 2) := by decide +kernel
theorem dX9_message_99 : decode cX9_message 99 = .ok (.bipush 30, 2) := by decide +kernel
theorem dX9_message_101 : decode cX9_message 101 = .ok (.invokevirtual 286, 3) := by decide +kernel
theorem dX9_message_104 : decode cX9_message 104 = .ok (.istore_n 3, 1) := by decide +kernel
theorem dX9_message_105 : decode cX9_message 105 = .ok (.aload_n 0, 1) := by decide +kernel
theorem dX9_message_106 : decode cX9_message 106 = .ok (.iload_n 3, 1) := by decide +kernel
theorem dX9_message_107 : decode cX9_message 107 = .ok (.invokevirtual 294, 3) := by decide +kernel
theorem dX9_message_110 : decode cX9_message 110 = .ok (.istore 4, 2) := by decide +kernel
theorem dX9_message_112 : decode cX9_message 112 = .ok (.iload 4, 2) := by decide +kernel
theorem dX9_message_114 : decode cX9_message 114 = .ok (.ifCond .ge 24, 3) := by decide +kernel
theorem dX9_message_117 : decode cX9_message 117 = .ok (.aload_n 0, 1) := by decide +kernel
theorem dX9_message_118 : decode cX9_message 118 = .ok (.getfield 289, 3) := by decide +kernel
theorem dX9_message_121 : decode cX9_message 121 = .ok (.bipush 40, 2) := by decide +kernel
theorem dX9_message_123 : decode cX9_message 123 = .ok (.if_icmp .ne 15, 3) := by decide +kernel
theorem dX9_message_126 : decode cX9_message 126 = .ok (.aload_n 0, 1) := by decide +kernel
theorem dX9_message_127 : decode cX9_message 127 = .ok (.getfield 23, 3) := by decide +kernel
theorem dX9_message_130 : decode cX9_message 130 = .ok (.bipush 8, 2) := by decide +kernel
theorem dX9_message_132 : decode cX9_message 132 = .ok (.dup2, 1) := by decide +kernel
theorem dX9_message_133 : decode cX9_message 133 = .ok (.iaload, 1) := by decide +kernel
theorem dX9_message_134 : decode cX9_message 134 = .ok (.iconst 1, 1) := by decide +kernel
theorem dX9_message_135 : decode cX9_message 135 = .ok (.iadd, 1) := by decide +kernel
theorem dX9_message_136 : decode cX9_message 136 = .ok (.iastore, 1) := by decide +kernel
theorem dX9_message_137 : decode cX9_message 137 = .ok (.return_, 1) := by decide +kernel
theorem dX9_message_138 : decode cX9_message 138 = .ok (.iload 4, 2) := by decide +kernel
theorem dX9_message_140 : decode cX9_message 140 = .ok (.ifCond .ge 103, 3) := by decide +kernel
theorem dX9_message_143 : decode cX9_message 143 = .ok (.aload_n 0, 1) := by decide +kernel
theorem dX9_message_144 : decode cX9_message 144 = .ok (.getfield 289, 3) := by decide +kernel
theorem dX9_message_147 : decode cX9_message 147 = .ok (.istore 4, 2) := by decide +kernel
theorem dX9_message_149 : decode cX9_message 149 = .ok (.aload_n 0, 1) := by decide +kernel
theorem dX9_message_150 : decode cX9_message 150 = .ok (.dup, 1) := by decide +kernel
theorem dX9_message_151 : decode cX9_message 151 = .ok (.getfield 289, 3) := by decide +kernel
theorem dX9_message_154 : decode cX9_message 154 = .ok (.iconst 1, 1) := by decide +kernel
theorem dX9_message_155 : decode cX9_message 155 = .ok (.iadd, 1) := by decide +kernel
theorem dX9_message_156 : decode cX9_message 156 = .ok (.putfield 289, 3) := by decide +kernel
theorem dX9_message_159 : decode cX9_message 159 = .ok (.iconst 0, 1) := by decide +kernel
theorem dX9_message_160 : decode cX9_message 160 = .ok (.istore 5, 2) := by decide +kernel
theorem dX9_message_162 : decode cX9_message 162 = .ok (.iload 5, 2) := by decide +kernel
theorem dX9_message_164 : decode cX9_message 164 = .ok (.bipush 24, 2) := by decide +kernel
theorem dX9_message_166 : decode cX9_message 166 = .ok (.if_icmp .ge 24, 3) := by decide +kernel
theorem dX9_message_169 : decode cX9_message 169 = .ok (.aload_n 0, 1) := by decide +kernel
theorem dX9_message_170 : decode cX9_message 170 = .ok (.getfield 55, 3) := by decide +kernel
theorem dX9_message_173 : decode cX9_message 173 = .ok (.bipush 24, 2) := by decide +kernel
theorem dX9_message_175 : decode cX9_message 175 = .ok (.iload 4, 2) := by decide +kernel
theorem dX9_message_177 : decode cX9_message 177 = .ok (.imul, 1) := by decide +kernel
theorem dX9_message_178 : decode cX9_message 178 = .ok (.iload 5, 2) := by decide +kernel
theorem dX9_message_180 : decode cX9_message 180 = .ok (.iadd, 1) := by decide +kernel
theorem dX9_message_181 : decode cX9_message 181 = .ok (.ldc 73, 2) := by decide +kernel
theorem dX9_message_183 : decode cX9_message 183 = .ok (.iastore, 1) := by decide +kernel
theorem dX9_message_184 : decode cX9_message 184 = .ok (.iinc 5 1, 3) := by decide +kernel
theorem dX9_message_187 : decode cX9_message 187 = .ok (.goto (-25), 3) := by decide +kernel
theorem dX9_message_190 : decode cX9_message 190 = .ok (.iconst 0, 1) := by decide +kernel
theorem dX9_message_191 : decode cX9_message 191 = .ok (.istore 5, 2) := by decide +kernel
theorem dX9_message_193 : decode cX9_message 193 = .ok (.iload 5, 2) := by decide +kernel
theorem dX9_message_195 : decode cX9_message 195 = .ok (.iconst 3, 1) := by decide +kernel
theorem dX9_message_196 : decode cX9_message 196 = .ok (.if_icmp .ge 22, 3) := by decide +kernel
theorem dX9_message_199 : decode cX9_message 199 = .ok (.aload_n 0, 1) := by decide +kernel
theorem dX9_message_200 : decode cX9_message 200 = .ok (.getfield 61, 3) := by decide +kernel
theorem dX9_message_203 : decode cX9_message 203 = .ok (.iconst 3, 1) := by decide +kernel
theorem dX9_message_204 : decode cX9_message 204 = .ok (.iload 4, 2) := by decide +kernel
theorem dX9_message_206 : decode cX9_message 206 = .ok (.imul, 1) := by decide +kernel
theorem dX9_message_207 : decode cX9_message 207 = .ok (.iload 5, 2) := by decide +kernel
theorem dX9_message_209 : decode cX9_message 209 = .ok (.iadd, 1) := by decide +kernel
theorem dX9_message_210 : decode cX9_message 210 = .ok (.iconst 0, 1) := by decide +kernel
theorem dX9_message_211 : decode cX9_message 211 = .ok (.iastore, 1) := by decide +kernel
theorem dX9_message_212 : decode cX9_message 212 = .ok (.iinc 5 1, 3) := by decide +kernel
theorem dX9_message_215 : decode cX9_message 215 = .ok (.goto (-22), 3) := by decide +kernel
theorem dX9_message_218 : decode cX9_message 218 = .ok (.aload_n 0, 1) := by decide +kernel
theorem dX9_message_219 : decode cX9_message 219 = .ok (.getfield 55, 3) := by decide +kernel
theorem dX9_message_222 : decode cX9_message 222 = .ok (.bipush 24, 2) := by decide +kernel
theorem dX9_message_224 : decode cX9_message 224 = .ok (.iload 4, 2) := by decide +kernel
theorem dX9_message_226 : decode cX9_message 226 = .ok (.imul, 1) := by decide +kernel
theorem dX9_message_227 : decode cX9_message 227 = .ok (.iload_n 3, 1) := by decide +kernel
theorem dX9_message_228 : decode cX9_message 228 = .ok (.iastore, 1) := by decide +kernel
theorem dX9_message_229 : decode cX9_message 229 = .ok (.aload_n 0, 1) := by decide +kernel
theorem dX9_message_230 : decode cX9_message 230 = .ok (.getfield 55, 3) := by decide +kernel
theorem dX9_message_233 : decode cX9_message 233 = .ok (.bipush 24, 2) := by decide +kernel
theorem dX9_message_235 : decode cX9_message 235 = .ok (.iload 4, 2) := by decide +kernel
theorem dX9_message_237 : decode cX9_message 237 = .ok (.imul, 1) := by decide +kernel
theorem dX9_message_238 : decode cX9_message 238 = .ok (.bipush 23, 2) := by decide +kernel
theorem dX9_message_240 : decode cX9_message 240 = .ok (.iadd, 1) := by decide +kernel
theorem dX9_message_241 : decode cX9_message 241 = .ok (.iconst 0, 1) := by decide +kernel
theorem dX9_message_242 : decode cX9_message 242 = .ok (.iastore, 1) := by decide +kernel
theorem dX9_message_243 : decode cX9_message 243 = .ok (.aload_n 0, 1) := by decide +kernel
theorem dX9_message_244 : decode cX9_message 244 = .ok (.getfield 55, 3) := by decide +kernel
theorem dX9_message_247 : decode cX9_message 247 = .ok (.bipush 24, 2) := by decide +kernel
theorem dX9_message_249 : decode cX9_message 249 = .ok (.iload 4, 2) := by decide +kernel
theorem dX9_message_251 : decode cX9_message 251 = .ok (.imul, 1) := by decide +kernel
theorem dX9_message_252 : decode cX9_message 252 = .ok (.iconst 1, 1) := by decide +kernel
theorem dX9_message_253 : decode cX9_message 253 = .ok (.iadd, 1) := by decide +kernel
theorem dX9_message_254 : decode cX9_message 254 = .ok (.iload_n 1, 1) := by decide +kernel
theorem dX9_message_255 : decode cX9_message 255 = .ok (.iastore, 1) := by decide +kernel
theorem dX9_message_256 : decode cX9_message 256 = .ok (.aload_n 0, 1) := by decide +kernel
theorem dX9_message_257 : decode cX9_message 257 = .ok (.getfield 55, 3) := by decide +kernel
theorem dX9_message_260 : decode cX9_message 260 = .ok (.bipush 24, 2) := by decide +kernel
theorem dX9_message_262 : decode cX9_message 262 = .ok (.iload 4, 2) := by decide +kernel
theorem dX9_message_264 : decode cX9_message 264 = .ok (.imul, 1) := by decide +kernel
theorem dX9_message_265 : decode cX9_message 265 = .ok (.bipush 23, 2) := by decide +kernel
theorem dX9_message_267 : decode cX9_message 267 = .ok (.iadd, 1) := by decide +kernel
theorem dX9_message_268 : decode cX9_message 268 = .ok (.dup2, 1) := by decide +kernel
theorem dX9_message_269 : decode cX9_message 269 = .ok (.iaload, 1) := by decide +kernel
theorem dX9_message_270 : decode cX9_message 270 = .ok (.iconst 1, 1) := by decide +kernel
theorem dX9_message_271 : decode cX9_message 271 = .ok (.iadd, 1) := by decide +kernel
theorem dX9_message_272 : decode cX9_message 272 = .ok (.iastore, 1) := by decide +kernel
theorem dX9_message_273 : decode cX9_message 273 = .ok (.aload_n 0, 1) := by decide +kernel
theorem dX9_message_274 : decode cX9_message 274 = .ok (.iload 4, 2) := by decide +kernel
theorem dX9_message_276 : decode cX9_message 276 = .ok (.iload_n 1, 1) := by decide +kernel
theorem dX9_message_277 : decode cX9_message 277 = .ok (.invokevirtual 297, 3) := by decide +kernel
theorem dX9_message_280 : decode cX9_message 280 = .ok (.return_, 1) := by decide +kernel
theorem dX9_go_0 : decode cX9_go 0 = .ok (.bipush 24, 2) := by decide +kernel
theorem dX9_go_2 : decode cX9_go 2 = .ok (.aload_n 0, 1) := by decide +kernel
theorem dX9_go_3 : decode cX9_go 3 = .ok (.getfield 300, 3) := by decide +kernel
theorem dX9_go_6 : decode cX9_go 6 = .ok (.imul, 1) := by decide +kernel
theorem dX9_go_7 : decode cX9_go 7 = .ok (.iload_n 1, 1) := by decide +kernel
theorem dX9_go_8 : decode cX9_go 8 = .ok (.iadd, 1) := by decide +kernel
theorem dX9_go_9 : decode cX9_go 9 = .ok (.istore 4, 2) := by decide +kernel
theorem dX9_go_11 : decode cX9_go 11 = .ok (.aload_n 0, 1) := by decide +kernel
theorem dX9_go_12 : decode cX9_go 12 = .ok (.getfield 303, 3) := by decide +kernel
theorem dX9_go_15 : decode cX9_go 15 = .ok (.ifCond .ne 38, 3) := by decide +kernel
theorem dX9_go_18 : decode cX9_go 18 = .ok (.aload_n 0, 1) := by decide +kernel
theorem dX9_go_19 : decode cX9_go 19 = .ok (.getfield 55, 3) := by decide +kernel
theorem dX9_go_22 : decode cX9_go 22 = .ok (.iload 4, 2) := by decide +kernel
theorem dX9_go_24 : decode cX9_go 24 = .ok (.iload_n 3, 1) := by decide +kernel
theorem dX9_go_25 : decode cX9_go 25 = .ok (.ifCond .eq 15, 3) := by decide +kernel
theorem dX9_go_28 : decode cX9_go 28 = .ok (.aload_n 0, 1) := by decide +kernel
theorem dX9_go_29 : decode cX9_go 29 = .ok (.aload_n 0, 1) := by decide +kernel
theorem dX9_go_30 : decode cX9_go 30 = .ok (.getfield 306, 3) := by decide +kernel
theorem dX9_go_33 : decode cX9_go 33 = .ok (.iload_n 2, 1) := by decide +kernel
theorem dX9_go_34 : decode cX9_go 34 = .ok (.invokevirtual 308, 3) := by decide +kernel
theorem dX9_go_37 : decode cX9_go 37 = .ok (.goto 12, 3) := by decide +kernel
theorem dX9_go_40 : decode cX9_go 40 = .ok (.aload_n 0, 1) := by decide +kernel
theorem dX9_go_41 : decode cX9_go 41 = .ok (.aload_n 0, 1) := by decide +kernel
theorem dX9_go_42 : decode cX9_go 42 = .ok (.getfield 306, 3) := by decide +kernel
theorem dX9_go_45 : decode cX9_go 45 = .ok (.iload_n 2, 1) := by decide +kernel
theorem dX9_go_46 : decode cX9_go 46 = .ok (.invokevirtual 286, 3) := by decide +kernel
theorem dX9_go_49 : decode cX9_go 49 = .ok (.iastore, 1) := by decide +kernel
theorem dX9_go_50 : decode cX9_go 50 = .ok (.goto 31, 3) := by decide +kernel
theorem dX9_go_53 : decode cX9_go 53 = .ok (.aload_n 0, 1) := by decide +kernel
theorem dX9_go_54 : decode cX9_go 54 = .ok (.aload_n 0, 1) := by decide +kernel
theorem dX9_go_55 : decode cX9_go 55 = .ok (.getfield 55, 3) := by decide +kernel
theorem dX9_go_58 : decode cX9_go 58 = .ok (.iload 4, 2) := by decide +kernel
theorem dX9_go_60 : decode cX9_go 60 = .ok (.iaload, 1) := by decide +kernel
theorem dX9_go_61 : decode cX9_go 61 = .ok (.ldc 73, 2) := by decide +kernel
theorem dX9_go_63 : decode cX9_go 63 = .ok (.if_icmp .ne 7, 3) := by decide +kernel
theorem dX9_go_66 : decode cX9_go 66 = .ok (.iconst 0, 1) := by decide +kernel
theorem dX9_go_67 : decode cX9_go 67 = .ok (.goto 10, 3) := by decide +kernel
theorem dX9_go_70 : decode cX9_go 70 = .ok (.aload_n 0, 1) := by decide +kernel
theorem dX9_go_71 : decode cX9_go 71 = .ok (.getfield 55, 3) := by decide +kernel
theorem dX9_go_74 : decode cX9_go 74 = .ok (.iload 4, 2) := by decide +kernel
theorem dX9_go_76 : decode cX9_go 76 = .ok (.iaload, 1) := by decide +kernel
theorem dX9_go_77 : decode cX9_go 77 = .ok (.iload_n 2, 1) := by decide +kernel
theorem dX9_go_78 : decode cX9_go 78 = .ok (.invokevirtual 311, 3) := by decide +kernel
theorem dX9_go_81 : decode cX9_go 81 = .ok (.aload_n 0, 1) := by decide +kernel
theorem dX9_go_82 : decode cX9_go 82 = .ok (.dup, 1) := by decide +kernel
theorem dX9_go_83 : decode cX9_go 83 = .ok (.getfield 306, 3) := by decide +kernel
theorem dX9_go_86 : decode cX9_go 86 = .ok (.iload_n 2, 1) := by decide +kernel
theorem dX9_go_87 : decode cX9_go 87 = .ok (.iadd, 1) := by decide +kernel
theorem dX9_go_88 : decode cX9_go 88 = .ok (.putfield 306, 3) := by decide +kernel
theorem dX9_go_91 : decode cX9_go 91 = .ok (.return_, 1) := by decide +kernel
theorem dX9_skip_0 : decode cX9_skip 0 = .ok (.aload_n 0, 1) := by decide +kernel
theorem dX9_skip_1 : decode cX9_skip 1 = .ok (.getfield 303, 3) := by decide +kernel
theorem dX9_skip_4 : decode cX9_skip 4 = .ok (.ifCond .eq 9, 3) := by decide +kernel
theorem dX9_skip_7 : decode cX9_skip 7 = .ok (.aload_n 0, 1) := by decide +kernel
theorem dX9_skip_8 : decode cX9_skip 8 = .ok (.iconst 0, 1) := by decide +kernel
theorem dX9_skip_9 : decode cX9_skip 9 = .ok (.iload_n 1, 1) := by decide +kernel
theorem dX9_skip_10 : decode cX9_skip 10 = .ok (.invokevirtual 311, 3) := by decide +kernel
theorem dX9_skip_13 : decode cX9_skip 13 = .ok (.aload_n 0, 1) := by decide +kernel
theorem dX9_skip_14 : decode cX9_skip 14 = .ok (.dup, 1) := by decide +kernel
theorem dX9_skip_15 : decode cX9_skip 15 = .ok (.getfield 306, 3) := by decide +kernel
theorem dX9_skip_18 : decode cX9_skip 18 = .ok (.iload_n 1, 1) := by decide +kernel
theorem dX9_skip_19 : decode cX9_skip 19 = .ok (.iadd, 1) := by decide +kernel
theorem dX9_skip_20 : decode cX9_skip 20 = .ok (.putfield 306, 3) := by decide +kernel
theorem dX9_skip_23 : decode cX9_skip 23 = .ok (.return_, 1) := by decide +kernel
theorem dX9_room_0 : decode cX9_room 0 = .ok (.iload_n 0, 1) := by decide +kernel
theorem dX9_room_1 : decode cX9_room 1 = .ok (.ifCond .ne 8, 3) := by decide +kernel
theorem dX9_room_4 : decode cX9_room 4 = .ok (.bipush 7, 2) := by decide +kernel
theorem dX9_room_6 : decode cX9_room 6 = .ok (.goto 5, 3) := by decide +kernel
theorem dX9_room_9 : decode cX9_room 9 = .ok (.bipush 20, 2) := by decide +kernel
theorem dX9_room_11 : decode cX9_room 11 = .ok (.ireturn, 1) := by decide +kernel
theorem dX9_words_0 : decode cX9_words 0 = .ok (.bipush 60, 2) := by decide +kernel
theorem dX9_words_2 : decode cX9_words 2 = .ok (.aload_n 0, 1) := by decide +kernel
theorem dX9_words_3 : decode cX9_words 3 = .ok (.getfield 300, 3) := by decide +kernel
theorem dX9_words_6 : decode cX9_words 6 = .ok (.imul, 1) := by decide +kernel
theorem dX9_words_7 : decode cX9_words 7 = .ok (.bipush 20, 2) := by decide +kernel
theorem dX9_words_9 : decode cX9_words 9 = .ok (.iload_n 1, 1) := by decide +kernel
theorem dX9_words_10 : decode cX9_words 10 = .ok (.imul, 1) := by decide +kernel
theorem dX9_words_11 : decode cX9_words 11 = .ok (.iadd, 1) := by decide +kernel
theorem dX9_words_12 : decode cX9_words 12 = .ok (.istore_n 2, 1) := by decide +kernel
theorem dX9_words_13 : decode cX9_words 13 = .ok (.iload_n 1, 1) := by decide +kernel
theorem dX9_words_14 : decode cX9_words 14 = .ok (.invokestatic 314, 3) := by decide +kernel
theorem dX9_words_17 : decode cX9_words 17 = .ok (.istore_n 3, 1) := by decide +kernel
theorem dX9_words_18 : decode cX9_words 18 = .ok (.aload_n 0, 1) := by decide +kernel
theorem dX9_words_19 : decode cX9_words 19 = .ok (.getfield 303, 3) := by decide +kernel
theorem dX9_words_22 : decode cX9_words 22 = .ok (.ifCond .eq 76, 3) := by decide +kernel
theorem dX9_words_25 : decode cX9_words 25 = .ok (.iconst 0, 1) := by decide +kernel
theorem dX9_words_26 : decode cX9_words 26 = .ok (.istore 4, 2) := by decide +kernel
theorem dX9_words_28 : decode cX9_words 28 = .ok (.iload 4, 2) := by decide +kernel
theorem dX9_words_30 : decode cX9_words 30 = .ok (.iload_n 3, 1) := by decide +kernel
theorem dX9_words_31 : decode cX9_words 31 = .ok (.if_icmp .ge 53, 3) := by decide +kernel
theorem dX9_words_34 : decode cX9_words 34 = .ok (.iload 4, 2) := by decide +kernel
theorem dX9_words_36 : decode cX9_words 36 = .ok (.aload_n 0, 1) := by decide +kernel
theorem dX9_words_37 : decode cX9_words 37 = .ok (.getfield 61, 3) := by decide +kernel
theorem dX9_words_40 : decode cX9_words 40 = .ok (.iconst 3, 1) := by decide +kernel
theorem dX9_words_41 : decode cX9_words 41 = .ok (.aload_n 0, 1) := by decide +kernel
theorem dX9_words_42 : decode cX9_words 42 = .ok (.getfield 300, 3) := by decide +kernel
theorem dX9_words_45 : decode cX9_words 45 = .ok (.imul, 1) := by decide +kernel
theorem dX9_words_46 : decode cX9_words 46 = .ok (.iload_n 1, 1) := by decide +kernel
theorem dX9_words_47 : decode cX9_words 47 = .ok (.iadd, 1) := by decide +kernel
theorem dX9_words_48 : decode cX9_words 48 = .ok (.iaload, 1) := by decide +kernel
theorem dX9_words_49 : decode cX9_words 49 = .ok (.if_icmp .ge 15, 3) := by decide +kernel
theorem dX9_words_52 : decode cX9_words 52 = .ok (.aload_n 0, 1) := by decide +kernel
theorem dX9_words_53 : decode cX9_words 53 = .ok (.getfield 58, 3) := by decide +kernel
theorem dX9_words_56 : decode cX9_words 56 = .ok (.iload_n 2, 1) := by decide +kernel
theorem dX9_words_57 : decode cX9_words 57 = .ok (.iload 4, 2) := by decide +kernel
theorem dX9_words_59 : decode cX9_words 59 = .ok (.iadd, 1) := by decide +kernel
theorem dX9_words_60 : decode cX9_words 60 = .ok (.iaload, 1) := by decide +kernel
theorem dX9_words_61 : decode cX9_words 61 = .ok (.goto 4, 3) := by decide +kernel
theorem dX9_words_64 : decode cX9_words 64 = .ok (.iconst 0, 1) := by decide +kernel
theorem dX9_words_65 : decode cX9_words 65 = .ok (.istore 5, 2) := by decide +kernel
theorem dX9_words_67 : decode cX9_words 67 = .ok (.aload_n 0, 1) := by decide +kernel
theorem dX9_words_68 : decode cX9_words 68 = .ok (.iload 5, 2) := by decide +kernel
theorem dX9_words_70 : decode cX9_words 70 = .ok (.bipush 63, 2) := by decide +kernel
theorem dX9_words_72 : decode cX9_words 72 = .ok (.iand, 1) := by decide +kernel
theorem dX9_words_73 : decode cX9_words 73 = .ok (.bipush 6, 2) := by decide +kernel
theorem dX9_words_75 : decode cX9_words 75 = .ok (.invokevirtual 311, 3) := by decide +kernel
theorem dX9_words_78 : decode cX9_words 78 = .ok (.iinc 4 1, 3) := by decide +kernel
theorem dX9_words_81 : decode cX9_words 81 = .ok (.goto (-53), 3) := by decide +kernel
theorem dX9_words_84 : decode cX9_words 84 = .ok (.aload_n 0, 1) := by decide +kernel
theorem dX9_words_85 : decode cX9_words 85 = .ok (.dup, 1) := by decide +kernel
theorem dX9_words_86 : decode cX9_words 86 = .ok (.getfield 306, 3) := by decide +kernel
theorem dX9_words_89 : decode cX9_words 89 = .ok (.bipush 6, 2) := by decide +kernel
theorem dX9_words_91 : decode cX9_words 91 = .ok (.iload_n 3, 1) := by decide +kernel
theorem dX9_words_92 : decode cX9_words 92 = .ok (.imul, 1) := by decide +kernel
theorem dX9_words_93 : decode cX9_words 93 = .ok (.iadd, 1) := by decide +kernel
theorem dX9_words_94 : decode cX9_words 94 = .ok (.putfield 306, 3) := by decide +kernel
theorem dX9_words_97 : decode cX9_words 97 = .ok (.return_, 1) := by decide +kernel
theorem dX9_words_98 : decode cX9_words 98 = .ok (.iconst 0, 1) := by decide +kernel
theorem dX9_words_99 : decode cX9_words 99 = .ok (.istore 4, 2) := by decide +kernel
theorem dX9_words_101 : decode cX9_words 101 = .ok (.iconst 0, 1) := by decide +kernel
theorem dX9_words_102 : decode cX9_words 102 = .ok (.istore 5, 2) := by decide +kernel
theorem dX9_words_104 : decode cX9_words 104 = .ok (.iload 5, 2) := by decide +kernel
theorem dX9_words_106 : decode cX9_words 106 = .ok (.iload_n 3, 1) := by decide +kernel
theorem dX9_words_107 : decode cX9_words 107 = .ok (.if_icmp .ge 88, 3) := by decide +kernel
theorem dX9_words_110 : decode cX9_words 110 = .ok (.aload_n 0, 1) := by decide +kernel
theorem dX9_words_111 : decode cX9_words 111 = .ok (.aload_n 0, 1) := by decide +kernel
theorem dX9_words_112 : decode cX9_words 112 = .ok (.getfield 306, 3) := by decide +kernel
theorem dX9_words_115 : decode cX9_words 115 = .ok (.bipush 6, 2) := by decide +kernel
theorem dX9_words_117 : decode cX9_words 117 = .ok (.iload 5, 2) := by decide +kernel
theorem dX9_words_119 : decode cX9_words 119 = .ok (.imul, 1) := by decide +kernel
theorem dX9_words_120 : decode cX9_words 120 = .ok (.iadd, 1) := by decide +kernel
theorem dX9_words_121 : decode cX9_words 121 = .ok (.bipush 6, 2) := by decide +kernel
theorem dX9_words_123 : decode cX9_words 123 = .ok (.invokevirtual 286, 3) := by decide +kernel
theorem dX9_words_126 : decode cX9_words 126 = .ok (.ifCond .eq 69, 3) := by decide +kernel
theorem dX9_words_129 : decode cX9_words 129 = .ok (.aload_n 0, 1) := by decide +kernel
theorem dX9_words_130 : decode cX9_words 130 = .ok (.aload_n 0, 1) := by decide +kernel
theorem dX9_words_131 : decode cX9_words 131 = .ok (.getfield 306, 3) := by decide +kernel
theorem dX9_words_134 : decode cX9_words 134 = .ok (.bipush 6, 2) := by decide +kernel
theorem dX9_words_136 : decode cX9_words 136 = .ok (.iload 5, 2) := by decide +kernel
theorem dX9_words_138 : decode cX9_words 138 = .ok (.imul, 1) := by decide +kernel
theorem dX9_words_139 : decode cX9_words 139 = .ok (.iadd, 1) := by decide +kernel
theorem dX9_words_140 : decode cX9_words 140 = .ok (.bipush 6, 2) := by decide +kernel
theorem dX9_words_142 : decode cX9_words 142 = .ok (.invokevirtual 286, 3) := by decide +kernel
theorem dX9_words_145 : decode cX9_words 145 = .ok (.istore 6, 2) := by decide +kernel
theorem dX9_words_147 : decode cX9_words 147 = .ok (.aload_n 0, 1) := by decide +kernel
theorem dX9_words_148 : decode cX9_words 148 = .ok (.getfield 58, 3) := by decide +kernel
theorem dX9_words_151 : decode cX9_words 151 = .ok (.iload_n 2, 1) := by decide +kernel
theorem dX9_words_152 : decode cX9_words 152 = .ok (.iload 5, 2) := by decide +kernel
theorem dX9_words_154 : decode cX9_words 154 = .ok (.iadd, 1) := by decide +kernel
theorem dX9_words_155 : decode cX9_words 155 = .ok (.iload 6, 2) := by decide +kernel
theorem dX9_words_157 : decode cX9_words 157 = .ok (.bipush 32, 2) := by decide +kernel
theorem dX9_words_159 : decode cX9_words 159 = .ok (.if_icmp .ge 11, 3) := by decide +kernel
theorem dX9_words_162 : decode cX9_words 162 = .ok (.iload 6, 2) := by decide +kernel
theorem dX9_words_164 : decode cX9_words 164 = .ok (.bipush 64, 2) := by decide +kernel
theorem dX9_words_166 : decode cX9_words 166 = .ok (.iadd, 1) := by decide +kernel
theorem dX9_words_167 : decode cX9_words 167 = .ok (.goto 5, 3) := by decide +kernel
theorem dX9_words_170 : decode cX9_words 170 = .ok (.iload 6, 2) := by decide +kernel
theorem dX9_words_172 : decode cX9_words 172 = .ok (.iastore, 1) := by decide +kernel
theorem dX9_words_173 : decode cX9_words 173 = .ok (.iinc 5 1, 3) := by decide +kernel
theorem dX9_words_176 : decode cX9_words 176 = .ok (.iload 6, 2) := by decide +kernel
theorem dX9_words_178 : decode cX9_words 178 = .ok (.bipush 32, 2) := by decide +kernel
theorem dX9_words_180 : decode cX9_words 180 = .ok (.if_icmp .ne 8, 3) := by decide +kernel
theorem dX9_words_183 : decode cX9_words 183 = .ok (.iload 4, 2) := by decide +kernel
theorem dX9_words_185 : decode cX9_words 185 = .ok (.goto 5, 3) := by decide +kernel
theorem dX9_words_188 : decode cX9_words 188 = .ok (.iload 5, 2) := by decide +kernel
theorem dX9_words_190 : decode cX9_words 190 = .ok (.istore 4, 2) := by decide +kernel
theorem dX9_words_192 : decode cX9_words 192 = .ok (.goto (-88), 3) := by decide +kernel
theorem dX9_words_195 : decode cX9_words 195 = .ok (.aload_n 0, 1) := by decide +kernel
theorem dX9_words_196 : decode cX9_words 196 = .ok (.getfield 61, 3) := by decide +kernel
theorem dX9_words_199 : decode cX9_words 199 = .ok (.iconst 3, 1) := by decide +kernel
theorem dX9_words_200 : decode cX9_words 200 = .ok (.aload_n 0, 1) := by decide +kernel
theorem dX9_words_201 : decode cX9_words 201 = .ok (.getfield 300, 3) := by decide +kernel
theorem dX9_words_204 : decode cX9_words 204 = .ok (.imul, 1) := by decide +kernel
theorem dX9_words_205 : decode cX9_words 205 = .ok (.iload_n 1, 1) := by decide +kernel
theorem dX9_words_206 : decode cX9_words 206 = .ok (.iadd, 1) := by decide +kernel
theorem dX9_words_207 : decode cX9_words 207 = .ok (.iload 4, 2) := by decide +kernel
theorem dX9_words_209 : decode cX9_words 209 = .ok (.iastore, 1) := by decide +kernel
theorem dX9_words_210 : decode cX9_words 210 = .ok (.aload_n 0, 1) := by decide +kernel
theorem dX9_words_211 : decode cX9_words 211 = .ok (.dup, 1) := by decide +kernel
theorem dX9_words_212 : decode cX9_words 212 = .ok (.getfield 306, 3) := by decide +kernel
theorem dX9_words_215 : decode cX9_words 215 = .ok (.bipush 6, 2) := by decide +kernel
theorem dX9_words_217 : decode cX9_words 217 = .ok (.iload_n 3, 1) := by decide +kernel
theorem dX9_words_218 : decode cX9_words 218 = .ok (.imul, 1) := by decide +kernel
theorem dX9_words_219 : decode cX9_words 219 = .ok (.iadd, 1) := by decide +kernel
theorem dX9_words_220 : decode cX9_words 220 = .ok (.putfield 306, 3) := by decide +kernel
theorem dX9_words_223 : decode cX9_words 223 = .ok (.return_, 1) := by decide +kernel
theorem dX9_where_0 : decode cX9_where 0 = .ok (.aload_n 0, 1) := by decide +kernel
theorem dX9_where_1 : decode cX9_where 1 = .ok (.iconst 5, 1) := by decide +kernel
theorem dX9_where_2 : decode cX9_where 2 = .ok (.iconst 1, 1) := by decide +kernel
theorem dX9_where_3 : decode cX9_where 3 = .ok (.iconst 0, 1) := by decide +kernel
theorem dX9_where_4 : decode cX9_where 4 = .ok (.invokevirtual 317, 3) := by decide +kernel
theorem dX9_where_7 : decode cX9_where 7 = .ok (.aload_n 0, 1) := by decide +kernel
theorem dX9_where_8 : decode cX9_where 8 = .ok (.bipush 6, 2) := by decide +kernel
theorem dX9_where_10 : decode cX9_where 10 = .ok (.bipush 28, 2) := by decide +kernel
theorem dX9_where_12 : decode cX9_where 12 = .ok (.iconst 1, 1) := by decide +kernel
theorem dX9_where_13 : decode cX9_where 13 = .ok (.invokevirtual 317, 3) := by decide +kernel
theorem dX9_where_16 : decode cX9_where 16 = .ok (.aload_n 0, 1) := by decide +kernel
theorem dX9_where_17 : decode cX9_where 17 = .ok (.bipush 7, 2) := by decide +kernel
theorem dX9_where_19 : decode cX9_where 19 = .ok (.bipush 27, 2) := by decide +kernel
theorem dX9_where_21 : decode cX9_where 21 = .ok (.iconst 1, 1) := by decide +kernel
theorem dX9_where_22 : decode cX9_where 22 = .ok (.invokevirtual 317, 3) := by decide +kernel
theorem dX9_where_25 : decode cX9_where 25 = .ok (.return_, 1) := by decide +kernel
theorem dX9_way_0 : decode cX9_way 0 = .ok (.aload_n 0, 1) := by decide +kernel
theorem dX9_way_1 : decode cX9_way 1 = .ok (.bipush 8, 2) := by decide +kernel
theorem dX9_way_3 : decode cX9_way 3 = .ok (.bipush 12, 2) := by decide +kernel
theorem dX9_way_5 : decode cX9_way 5 = .ok (.iconst 0, 1) := by decide +kernel
theorem dX9_way_6 : decode cX9_way 6 = .ok (.invokevirtual 317, 3) := by decide +kernel
theorem dX9_way_9 : decode cX9_way 9 = .ok (.aload_n 0, 1) := by decide +kernel
theorem dX9_way_10 : decode cX9_way 10 = .ok (.bipush 9, 2) := by decide +kernel
theorem dX9_way_12 : decode cX9_way 12 = .ok (.bipush 9, 2) := by decide +kernel
theorem dX9_way_14 : decode cX9_way 14 = .ok (.iconst 0, 1) := by decide +kernel
theorem dX9_way_15 : decode cX9_way 15 = .ok (.invokevirtual 317, 3) := by decide +kernel
theorem dX9_way_18 : decode cX9_way 18 = .ok (.aload_n 0, 1) := by decide +kernel
theorem dX9_way_19 : decode cX9_way 19 = .ok (.bipush 10, 2) := by decide +kernel
theorem dX9_way_21 : decode cX9_way 21 = .ok (.bipush 6, 2) := by decide +kernel
theorem dX9_way_23 : decode cX9_way 23 = .ok (.iconst 0, 1) := by decide +kernel
theorem dX9_way_24 : decode cX9_way 24 = .ok (.invokevirtual 317, 3) := by decide +kernel
theorem dX9_way_27 : decode cX9_way 27 = .ok (.return_, 1) := by decide +kernel
theorem dX9_reports_0 : decode cX9_reports 0 = .ok (.aload_n 0, 1) := by decide +kernel
theorem dX9_reports_1 : decode cX9_reports 1 = .ok (.iload_n 1, 1) := by decide +kernel
theorem dX9_reports_2 : decode cX9_reports 2 = .ok (.putfield 300, 3) := by decide +kernel
theorem dX9_reports_5 : decode cX9_reports 5 = .ok (.aload_n 0, 1) := by decide +kernel
theorem dX9_reports_6 : decode cX9_reports 6 = .ok (.bipush 38, 2) := by decide +kernel
theorem dX9_reports_8 : decode cX9_reports 8 = .ok (.putfield 306, 3) := by decide +kernel
theorem dX9_reports_11 : decode cX9_reports 11 = .ok (.iload_n 2, 1) := by decide +kernel
theorem dX9_reports_12 : decode cX9_reports 12 = .ok (.iconst 4, 1) := by decide +kernel
theorem dX9_reports_13 : decode cX9_reports 13 = .ok (.if_icmp .ge 43, 3) := by decide +kernel
theorem dX9_reports_16 : decode cX9_reports 16 = .ok (.aload_n 0, 1) := by decide +kernel
theorem dX9_reports_17 : decode cX9_reports 17 = .ok (.iconst 2, 1) := by decide +kernel
theorem dX9_reports_18 : decode cX9_reports 18 = .ok (.iconst 4, 1) := by decide +kernel
theorem dX9_reports_19 : decode cX9_reports 19 = .ok (.iconst 0, 1) := by decide +kernel
theorem dX9_reports_20 : decode cX9_reports 20 = .ok (.invokevirtual 317, 3) := by decide +kernel
theorem dX9_reports_23 : decode cX9_reports 23 = .ok (.aload_n 0, 1) := by decide +kernel
theorem dX9_reports_24 : decode cX9_reports 24 = .ok (.iconst 3, 1) := by decide +kernel
theorem dX9_reports_25 : decode cX9_reports 25 = .ok (.bipush 8, 2) := by decide +kernel
theorem dX9_reports_27 : decode cX9_reports 27 = .ok (.iconst 1, 1) := by decide +kernel
theorem dX9_reports_28 : decode cX9_reports 28 = .ok (.invokevirtual 317, 3) := by decide +kernel
theorem dX9_reports_31 : decode cX9_reports 31 = .ok (.aload_n 0, 1) := by decide +kernel
theorem dX9_reports_32 : decode cX9_reports 32 = .ok (.iconst 4, 1) := by decide +kernel
theorem dX9_reports_33 : decode cX9_reports 33 = .ok (.bipush 10, 2) := by decide +kernel
theorem dX9_reports_35 : decode cX9_reports 35 = .ok (.iconst 0, 1) := by decide +kernel
theorem dX9_reports_36 : decode cX9_reports 36 = .ok (.invokevirtual 317, 3) := by decide +kernel
theorem dX9_reports_39 : decode cX9_reports 39 = .ok (.aload_n 0, 1) := by decide +kernel
theorem dX9_reports_40 : decode cX9_reports 40 = .ok (.invokevirtual 321, 3) := by decide +kernel
theorem dX9_reports_43 : decode cX9_reports 43 = .ok (.aload_n 0, 1) := by decide +kernel
theorem dX9_reports_44 : decode cX9_reports 44 = .ok (.invokevirtual 324, 3) := by decide +kernel
theorem dX9_reports_47 : decode cX9_reports 47 = .ok (.aload_n 0, 1) := by decide +kernel
theorem dX9_reports_48 : decode cX9_reports 48 = .ok (.bipush 25, 2) := by decide +kernel
theorem dX9_reports_50 : decode cX9_reports 50 = .ok (.invokevirtual 327, 3) := by decide +kernel
theorem dX9_reports_53 : decode cX9_reports 53 = .ok (.goto 113, 3) := by decide +kernel
theorem dX9_reports_56 : decode cX9_reports 56 = .ok (.iload_n 2, 1) := by decide +kernel
theorem dX9_reports_57 : decode cX9_reports 57 = .ok (.iconst 4, 1) := by decide +kernel
theorem dX9_reports_58 : decode cX9_reports 58 = .ok (.if_icmp .ne 67, 3) := by decide +kernel
theorem dX9_reports_61 : decode cX9_reports 61 = .ok (.aload_n 0, 1) := by decide +kernel
theorem dX9_reports_62 : decode cX9_reports 62 = .ok (.bipush 11, 2) := by decide +kernel
theorem dX9_reports_64 : decode cX9_reports 64 = .ok (.bipush 14, 2) := by decide +kernel
theorem dX9_reports_66 : decode cX9_reports 66 = .ok (.iconst 0, 1) := by decide +kernel
theorem dX9_reports_67 : decode cX9_reports 67 = .ok (.invokevirtual 317, 3) := by decide +kernel
theorem dX9_reports_70 : decode cX9_reports 70 = .ok (.aload_n 0, 1) := by decide +kernel
theorem dX9_reports_71 : decode cX9_reports 71 = .ok (.bipush 12, 2) := by decide +kernel
theorem dX9_reports_73 : decode cX9_reports 73 = .ok (.iconst 4, 1) := by decide +kernel
theorem dX9_reports_74 : decode cX9_reports 74 = .ok (.iconst 0, 1) := by decide +kernel
theorem dX9_reports_75 : decode cX9_reports 75 = .ok (.invokevirtual 317, 3) := by decide +kernel
theorem dX9_reports_78 : decode cX9_reports 78 = .ok (.aload_n 0, 1) := by decide +kernel
theorem dX9_reports_79 : decode cX9_reports 79 = .ok (.bipush 13, 2) := by decide +kernel
theorem dX9_reports_81 : decode cX9_reports 81 = .ok (.iconst 5, 1) := by decide +kernel
theorem dX9_reports_82 : decode cX9_reports 82 = .ok (.iconst 0, 1) := by decide +kernel
theorem dX9_reports_83 : decode cX9_reports 83 = .ok (.invokevirtual 317, 3) := by decide +kernel
theorem dX9_reports_86 : decode cX9_reports 86 = .ok (.aload_n 0, 1) := by decide +kernel
theorem dX9_reports_87 : decode cX9_reports 87 = .ok (.bipush 14, 2) := by decide +kernel
theorem dX9_reports_89 : decode cX9_reports 89 = .ok (.iconst 5, 1) := by decide +kernel
theorem dX9_reports_90 : decode cX9_reports 90 = .ok (.iconst 0, 1) := by decide +kernel
theorem dX9_reports_91 : decode cX9_reports 91 = .ok (.invokevirtual 317, 3) := by decide +kernel
theorem dX9_reports_94 : decode cX9_reports 94 = .ok (.aload_n 0, 1) := by decide +kernel
theorem dX9_reports_95 : decode cX9_reports 95 = .ok (.bipush 15, 2) := by decide +kernel
theorem dX9_reports_97 : decode cX9_reports 97 = .ok (.bipush 6, 2) := by decide +kernel
theorem dX9_reports_99 : decode cX9_reports 99 = .ok (.iconst 0, 1) := by decide +kernel
theorem dX9_reports_100 : decode cX9_reports 100 = .ok (.invokevirtual 317, 3) := by decide +kernel
theorem dX9_reports_103 : decode cX9_reports 103 = .ok (.aload_n 0, 1) := by decide +kernel
theorem dX9_reports_104 : decode cX9_reports 104 = .ok (.bipush 10, 2) := by decide +kernel
theorem dX9_reports_106 : decode cX9_reports 106 = .ok (.bipush 6, 2) := by decide +kernel
theorem dX9_reports_108 : decode cX9_reports 108 = .ok (.iconst 0, 1) := by decide +kernel
theorem dX9_reports_109 : decode cX9_reports 109 = .ok (.invokevirtual 317, 3) := by decide +kernel
theorem dX9_reports_112 : decode cX9_reports 112 = .ok (.aload_n 0, 1) := by decide +kernel
theorem dX9_reports_113 : decode cX9_reports 113 = .ok (.invokevirtual 321, 3) := by decide +kernel
theorem dX9_reports_116 : decode cX9_reports 116 = .ok (.aload_n 0, 1) := by decide +kernel
theorem dX9_reports_117 : decode cX9_reports 117 = .ok (.bipush 34, 2) := by decide +kernel
theorem dX9_reports_119 : decode cX9_reports 119 = .ok (.invokevirtual 327, 3) := by decide +kernel
theorem dX9_reports_122 : decode cX9_reports 122 = .ok (.goto 44, 3) := by decide +kernel
theorem dX9_reports_125 : decode cX9_reports 125 = .ok (.iload_n 2, 1) := by decide +kernel
theorem dX9_reports_126 : decode cX9_reports 126 = .ok (.bipush 18, 2) := by decide +kernel
theorem dX9_reports_128 : decode cX9_reports 128 = .ok (.if_icmp .ne 34, 3) := by decide +kernel
theorem dX9_reports_131 : decode cX9_reports 131 = .ok (.aload_n 0, 1) := by decide +kernel
theorem dX9_reports_132 : decode cX9_reports 132 = .ok (.bipush 8, 2) := by decide +kernel
theorem dX9_reports_134 : decode cX9_reports 134 = .ok (.invokevirtual 327, 3) := by decide +kernel
theorem dX9_reports_137 : decode cX9_reports 137 = .ok (.aload_n 0, 1) := by decide +kernel
theorem dX9_reports_138 : decode cX9_reports 138 = .ok (.iconst 4, 1) := by decide +kernel
theorem dX9_reports_139 : decode cX9_reports 139 = .ok (.bipush 10, 2) := by decide +kernel
theorem dX9_reports_141 : decode cX9_reports 141 = .ok (.iconst 0, 1) := by decide +kernel
theorem dX9_reports_142 : decode cX9_reports 142 = .ok (.invokevirtual 317, 3) := by decide +kernel
theorem dX9_reports_145 : decode cX9_reports 145 = .ok (.aload_n 0, 1) := by decide +kernel
theorem dX9_reports_146 : decode cX9_reports 146 = .ok (.invokevirtual 321, 3) := by decide +kernel
theorem dX9_reports_149 : decode cX9_reports 149 = .ok (.aload_n 0, 1) := by decide +kernel
theorem dX9_reports_150 : decode cX9_reports 150 = .ok (.invokevirtual 324, 3) := by decide +kernel
theorem dX9_reports_153 : decode cX9_reports 153 = .ok (.aload_n 0, 1) := by decide +kernel
theorem dX9_reports_154 : decode cX9_reports 154 = .ok (.bipush 29, 2) := by decide +kernel
theorem dX9_reports_156 : decode cX9_reports 156 = .ok (.invokevirtual 327, 3) := by decide +kernel
theorem dX9_reports_159 : decode cX9_reports 159 = .ok (.goto 7, 3) := by decide +kernel
theorem dX9_reports_162 : decode cX9_reports 162 = .ok (.aload_n 0, 1) := by decide +kernel
theorem dX9_reports_163 : decode cX9_reports 163 = .ok (.invokevirtual 330, 3) := by decide +kernel
theorem dX9_reports_166 : decode cX9_reports 166 = .ok (.return_, 1) := by decide +kernel
theorem dX9_still_0 : decode cX9_still 0 = .ok (.aload_n 0, 1) := by decide +kernel
theorem dX9_still_1 : decode cX9_still 1 = .ok (.iconst 2, 1) := by decide +kernel
theorem dX9_still_2 : decode cX9_still 2 = .ok (.invokevirtual 327, 3) := by decide +kernel
theorem dX9_still_5 : decode cX9_still 5 = .ok (.aload_n 0, 1) := by decide +kernel
theorem dX9_still_6 : decode cX9_still 6 = .ok (.bipush 16, 2) := by decide +kernel
theorem dX9_still_8 : decode cX9_still 8 = .ok (.bipush 30, 2) := by decide +kernel
theorem dX9_still_10 : decode cX9_still 10 = .ok (.iconst 0, 1) := by decide +kernel
theorem dX9_still_11 : decode cX9_still 11 = .ok (.invokevirtual 317, 3) := by decide +kernel
theorem dX9_still_14 : decode cX9_still 14 = .ok (.aload_n 0, 1) := by decide +kernel
theorem dX9_still_15 : decode cX9_still 15 = .ok (.iconst 0, 1) := by decide +kernel
theorem dX9_still_16 : decode cX9_still 16 = .ok (.invokevirtual 333, 3) := by decide +kernel
theorem dX9_still_19 : decode cX9_still 19 = .ok (.aload_n 0, 1) := by decide +kernel
theorem dX9_still_20 : decode cX9_still 20 = .ok (.iconst 1, 1) := by decide +kernel
theorem dX9_still_21 : decode cX9_still 21 = .ok (.invokevirtual 333, 3) := by decide +kernel
theorem dX9_still_24 : decode cX9_still 24 = .ok (.aload_n 0, 1) := by decide +kernel
theorem dX9_still_25 : decode cX9_still 25 = .ok (.bipush 17, 2) := by decide +kernel
theorem dX9_still_27 : decode cX9_still 27 = .ok (.bipush 8, 2) := by decide +kernel
theorem dX9_still_29 : decode cX9_still 29 = .ok (.iconst 0, 1) := by decide +kernel
theorem dX9_still_30 : decode cX9_still 30 = .ok (.invokevirtual 317, 3) := by decide +kernel
theorem dX9_still_33 : decode cX9_still 33 = .ok (.aload_n 0, 1) := by decide +kernel
theorem dX9_still_34 : decode cX9_still 34 = .ok (.bipush 18, 2) := by decide +kernel
theorem dX9_still_36 : decode cX9_still 36 = .ok (.bipush 9, 2) := by decide +kernel
theorem dX9_still_38 : decode cX9_still 38 = .ok (.iconst 0, 1) := by decide +kernel
theorem dX9_still_39 : decode cX9_still 39 = .ok (.invokevirtual 317, 3) := by decide +kernel
theorem dX9_still_42 : decode cX9_still 42 = .ok (.aload_n 0, 1) := by decide +kernel
theorem dX9_still_43 : decode cX9_still 43 = .ok (.bipush 19, 2) := by decide +kernel
theorem dX9_still_45 : decode cX9_still 45 = .ok (.bipush 9, 2) := by decide +kernel
theorem dX9_still_47 : decode cX9_still 47 = .ok (.iconst 0, 1) := by decide +kernel
theorem dX9_still_48 : decode cX9_still 48 = .ok (.invokevirtual 317, 3) := by decide +kernel
theorem dX9_still_51 : decode cX9_still 51 = .ok (.aload_n 0, 1) := by decide +kernel
theorem dX9_still_52 : decode cX9_still 52 = .ok (.bipush 20, 2) := by decide +kernel
theorem dX9_still_54 : decode cX9_still 54 = .ok (.bipush 6, 2) := by decide +kernel
theorem dX9_still_56 : decode cX9_still 56 = .ok (.iconst 0, 1) := by decide +kernel
theorem dX9_still_57 : decode cX9_still 57 = .ok (.invokevirtual 317, 3) := by decide +kernel
theorem dX9_still_60 : decode cX9_still 60 = .ok (.aload_n 0, 1) := by decide +kernel
theorem dX9_still_61 : decode cX9_still 61 = .ok (.bipush 21, 2) := by decide +kernel
theorem dX9_still_63 : decode cX9_still 63 = .ok (.bipush 6, 2) := by decide +kernel
theorem dX9_still_65 : decode cX9_still 65 = .ok (.iconst 0, 1) := by decide +kernel
theorem dX9_still_66 : decode cX9_still 66 = .ok (.invokevirtual 317, 3) := by decide +kernel
theorem dX9_still_69 : decode cX9_still 69 = .ok (.aload_n 0, 1) := by decide +kernel
theorem dX9_still_70 : decode cX9_still 70 = .ok (.iconst 4, 1) := by decide +kernel
theorem dX9_still_71 : decode cX9_still 71 = .ok (.invokevirtual 327, 3) := by decide +kernel
theorem dX9_still_74 : decode cX9_still 74 = .ok (.aload_n 0, 1) := by decide +kernel
theorem dX9_still_75 : decode cX9_still 75 = .ok (.bipush 12, 2) := by decide +kernel
theorem dX9_still_77 : decode cX9_still 77 = .ok (.iconst 4, 1) := by decide +kernel
theorem dX9_still_78 : decode cX9_still 78 = .ok (.iconst 0, 1) := by decide +kernel
theorem dX9_still_79 : decode cX9_still 79 = .ok (.invokevirtual 317, 3) := by decide +kernel
theorem dX9_still_82 : decode cX9_still 82 = .ok (.aload_n 0, 1) := by decide +kernel
theorem dX9_still_83 : decode cX9_still 83 = .ok (.bipush 13, 2) := by decide +kernel
theorem dX9_still_85 : decode cX9_still 85 = .ok (.iconst 5, 1) := by decide +kernel
theorem dX9_still_86 : decode cX9_still 86 = .ok (.iconst 0, 1) := by decide +kernel
theorem dX9_still_87 : decode cX9_still 87 = .ok (.invokevirtual 317, 3) := by decide +kernel
theorem dX9_still_90 : decode cX9_still 90 = .ok (.aload_n 0, 1) := by decide +kernel
theorem dX9_still_91 : decode cX9_still 91 = .ok (.bipush 14, 2) := by decide +kernel
theorem dX9_still_93 : decode cX9_still 93 = .ok (.iconst 5, 1) := by decide +kernel
theorem dX9_still_94 : decode cX9_still 94 = .ok (.iconst 0, 1) := by decide +kernel
theorem dX9_still_95 : decode cX9_still 95 = .ok (.invokevirtual 317, 3) := by decide +kernel
theorem dX9_still_98 : decode cX9_still 98 = .ok (.aload_n 0, 1) := by decide +kernel
theorem dX9_still_99 : decode cX9_still 99 = .ok (.bipush 15, 2) := by decide +kernel
theorem dX9_still_101 : decode cX9_still 101 = .ok (.bipush 6, 2) := by decide +kernel
theorem dX9_still_103 : decode cX9_still 103 = .ok (.iconst 0, 1) := by decide +kernel
theorem dX9_still_104 : decode cX9_still 104 = .ok (.invokevirtual 317, 3) := by decide +kernel
theorem dX9_still_107 : decode cX9_still 107 = .ok (.aload_n 0, 1) := by decide +kernel
theorem dX9_still_108 : decode cX9_still 108 = .ok (.bipush 22, 2) := by decide +kernel
theorem dX9_still_110 : decode cX9_still 110 = .ok (.bipush 8, 2) := by decide +kernel
theorem dX9_still_112 : decode cX9_still 112 = .ok (.iconst 0, 1) := by decide +kernel
theorem dX9_still_113 : decode cX9_still 113 = .ok (.invokevirtual 317, 3) := by decide +kernel
theorem dX9_still_116 : decode cX9_still 116 = .ok (.aload_n 0, 1) := by decide +kernel
theorem dX9_still_117 : decode cX9_still 117 = .ok (.iconst 2, 1) := by decide +kernel
theorem dX9_still_118 : decode cX9_still 118 = .ok (.invokevirtual 333, 3) := by decide +kernel
theorem dX9_still_121 : decode cX9_still 121 = .ok (.aload_n 0, 1) := by decide +kernel
theorem dX9_still_122 : decode cX9_still 122 = .ok (.iconst 2, 1) := by decide +kernel
theorem dX9_still_123 : decode cX9_still 123 = .ok (.invokevirtual 327, 3) := by decide +kernel
theorem dX9_still_126 : decode cX9_still 126 = .ok (.return_, 1) := by decide +kernel
theorem dX9_count_0 : decode cX9_count 0 = .ok (.aload_n 0, 1) := by decide +kernel
theorem dX9_count_1 : decode cX9_count 1 = .ok (.iconst 0, 1) := by decide +kernel
theorem dX9_count_2 : decode cX9_count 2 = .ok (.putfield 1, 3) := by decide +kernel
theorem dX9_count_5 : decode cX9_count 5 = .ok (.iload_n 1, 1) := by decide +kernel
theorem dX9_count_6 : decode cX9_count 6 = .ok (.i2l, 1) := by decide +kernel
theorem dX9_count_7 : decode cX9_count 7 = .ok (.lconst 0, 1) := by decide +kernel
theorem dX9_count_8 : decode cX9_count 8 = .ok (.ldc2_w 336, 3) := by decide +kernel
theorem dX9_count_11 : decode cX9_count 11 = .ok (.invokestatic 74, 3) := by decide +kernel
theorem dX9_count_14 : decode cX9_count 14 = .ok (.ifCond .eq 10, 3) := by decide +kernel
theorem dX9_count_17 : decode cX9_count 17 = .ok (.aload_n 0, 1) := by decide +kernel
theorem dX9_count_18 : decode cX9_count 18 = .ok (.getfield 23, 3) := by decide +kernel
theorem dX9_count_21 : decode cX9_count 21 = .ok (.iload_n 1, 1) := by decide +kernel
theorem dX9_count_22 : decode cX9_count 22 = .ok (.iaload, 1) := by decide +kernel
theorem dX9_count_23 : decode cX9_count 23 = .ok (.ireturn, 1) := by decide +kernel
theorem dX9_count_24 : decode cX9_count 24 = .ok (.iconst 0, 1) := by decide +kernel
theorem dX9_count_25 : decode cX9_count 25 = .ok (.istore_n 2, 1) := by decide +kernel
theorem dX9_count_26 : decode cX9_count 26 = .ok (.iconst 0, 1) := by decide +kernel
theorem dX9_count_27 : decode cX9_count 27 = .ok (.istore_n 3, 1) := by decide +kernel
theorem dX9_count_28 : decode cX9_count 28 = .ok (.iload_n 3, 1) := by decide +kernel
theorem dX9_count_29 : decode cX9_count 29 = .ok (.bipush 11, 2) := by decide +kernel
theorem dX9_count_31 : decode cX9_count 31 = .ok (.if_icmp .ge 18, 3) := by decide +kernel
theorem dX9_count_34 : decode cX9_count 34 = .ok (.iload_n 2, 1) := by decide +kernel
theorem dX9_count_35 : decode cX9_count 35 = .ok (.aload_n 0, 1) := by decide +kernel
theorem dX9_count_36 : decode cX9_count 36 = .ok (.getfield 41, 3) := by decide +kernel
theorem dX9_count_39 : decode cX9_count 39 = .ok (.iload_n 3, 1) := by decide +kernel
theorem dX9_count_40 : decode cX9_count 40 = .ok (.iaload, 1) := by decide +kernel
theorem dX9_count_41 : decode cX9_count 41 = .ok (.iadd, 1) := by decide +kernel
theorem dX9_count_42 : decode cX9_count 42 = .ok (.istore_n 2, 1) := by decide +kernel
theorem dX9_count_43 : decode cX9_count 43 = .ok (.iinc 3 1, 3) := by decide +kernel
theorem dX9_count_46 : decode cX9_count 46 = .ok (.goto (-18), 3) := by decide +kernel
theorem dX9_count_49 : decode cX9_count 49 = .ok (.iload_n 1, 1) := by decide +kernel
theorem dX9_count_50 : decode cX9_count 50 = .ok (.tableswitch 67 9 13 #[34, 39, 44, 49, 65], 34) := by decide +kernel
theorem dX9_count_84 : decode cX9_count 84 = .ok (.aload_n 0, 1) := by decide +kernel
theorem dX9_count_85 : decode cX9_count 85 = .ok (.getfield 289, 3) := by decide +kernel
theorem dX9_count_88 : decode cX9_count 88 = .ok (.ireturn, 1) := by decide +kernel
theorem dX9_count_89 : decode cX9_count 89 = .ok (.aload_n 0, 1) := by decide +kernel
theorem dX9_count_90 : decode cX9_count 90 = .ok (.getfield 70, 3) := by decide +kernel
theorem dX9_count_93 : decode cX9_count 93 = .ok (.ireturn, 1) := by decide +kernel
theorem dX9_count_94 : decode cX9_count 94 = .ok (.aload_n 0, 1) := by decide +kernel
theorem dX9_count_95 : decode cX9_count 95 = .ok (.getfield 338, 3) := by decide +kernel
theorem dX9_count_98 : decode cX9_count 98 = .ok (.ireturn, 1) := by decide +kernel
theorem dX9_count_99 : decode cX9_count 99 = .ok (.aload_n 0, 1) := by decide +kernel
theorem dX9_count_100 : decode cX9_count 100 = .ok (.getfield 90, 3) := by decide +kernel
theorem dX9_count_103 : decode cX9_count 103 = .ok (.ifCond .ne 7, 3) := by decide +kernel
theorem dX9_count_106 : decode cX9_count 106 = .ok (.iconst 0, 1) := by decide +kernel
theorem dX9_count_107 : decode cX9_count 107 = .ok (.goto 7, 3) := by decide +kernel
theorem dX9_count_110 : decode cX9_count 110 = .ok (.aload_n 0, 1) := by decide +kernel
theorem dX9_count_111 : decode cX9_count 111 = .ok (.getfield 93, 3) := by decide +kernel
theorem dX9_count_114 : decode cX9_count 114 = .ok (.ireturn, 1) := by decide +kernel
theorem dX9_count_115 : decode cX9_count 115 = .ok (.iload_n 2, 1) := by decide +kernel
theorem dX9_count_116 : decode cX9_count 116 = .ok (.ireturn, 1) := by decide +kernel
theorem dX9_count_117 : decode cX9_count 117 = .ok (.ldc 73, 2) := by decide +kernel
theorem dX9_count_119 : decode cX9_count 119 = .ok (.ireturn, 1) := by decide +kernel
theorem dX9_fix_0 : decode cX9_fix 0 = .ok (.aload_n 0, 1) := by decide +kernel
theorem dX9_fix_1 : decode cX9_fix 1 = .ok (.iconst 0, 1) := by decide +kernel
theorem dX9_fix_2 : decode cX9_fix 2 = .ok (.putfield 1, 3) := by decide +kernel
theorem dX9_fix_5 : decode cX9_fix 5 = .ok (.iload_n 1, 1) := by decide +kernel
theorem dX9_fix_6 : decode cX9_fix 6 = .ok (.i2l, 1) := by decide +kernel
theorem dX9_fix_7 : decode cX9_fix 7 = .ok (.lconst 0, 1) := by decide +kernel
theorem dX9_fix_8 : decode cX9_fix 8 = .ok (.ldc2_w 341, 3) := by decide +kernel
theorem dX9_fix_11 : decode cX9_fix 11 = .ok (.invokestatic 74, 3) := by decide +kernel
theorem dX9_fix_14 : decode cX9_fix 14 = .ok (.ifCond .eq 12, 3) := by decide +kernel
theorem dX9_fix_17 : decode cX9_fix 17 = .ok (.aload_n 0, 1) := by decide +kernel
theorem dX9_fix_18 : decode cX9_fix 18 = .ok (.getfield 35, 3) := by decide +kernel
theorem dX9_fix_21 : decode cX9_fix 21 = .ok (.iload_n 1, 1) := by decide +kernel
theorem dX9_fix_22 : decode cX9_fix 22 = .ok (.iaload, 1) := by decide +kernel
theorem dX9_fix_23 : decode cX9_fix 23 = .ok (.goto 8, 3) := by decide +kernel
theorem dX9_fix_26 : decode cX9_fix 26 = .ok (.aload_n 0, 1) := by decide +kernel
theorem dX9_fix_27 : decode cX9_fix 27 = .ok (.iconst 1, 1) := by decide +kernel
theorem dX9_fix_28 : decode cX9_fix 28 = .ok (.invokevirtual 343, 3) := by decide +kernel
theorem dX9_fix_31 : decode cX9_fix 31 = .ok (.ireturn, 1) := by decide +kernel
theorem dX9_find_0 : decode cX9_find 0 = .ok (.aload_n 0, 1) := by decide +kernel
theorem dX9_find_1 : decode cX9_find 1 = .ok (.iconst 0, 1) := by decide +kernel
theorem dX9_find_2 : decode cX9_find 2 = .ok (.putfield 1, 3) := by decide +kernel
theorem dX9_find_5 : decode cX9_find 5 = .ok (.aload_n 0, 1) := by decide +kernel
theorem dX9_find_6 : decode cX9_find 6 = .ok (.iload_n 1, 1) := by decide +kernel
theorem dX9_find_7 : decode cX9_find 7 = .ok (.invokevirtual 294, 3) := by decide +kernel
theorem dX9_find_10 : decode cX9_find 10 = .ok (.ireturn, 1) := by decide +kernel
theorem dX9_vessel_0 : decode cX9_vessel 0 = .ok (.aload_n 0, 1) := by decide +kernel
theorem dX9_vessel_1 : decode cX9_vessel 1 = .ok (.iconst 0, 1) := by decide +kernel
theorem dX9_vessel_2 : decode cX9_vessel 2 = .ok (.putfield 1, 3) := by decide +kernel
theorem dX9_vessel_5 : decode cX9_vessel 5 = .ok (.iload_n 1, 1) := by decide +kernel
theorem dX9_vessel_6 : decode cX9_vessel 6 = .ok (.i2l, 1) := by decide +kernel
theorem dX9_vessel_7 : decode cX9_vessel 7 = .ok (.lconst 0, 1) := by decide +kernel
theorem dX9_vessel_8 : decode cX9_vessel 8 = .ok (.aload_n 0, 1) := by decide +kernel
theorem dX9_vessel_9 : decode cX9_vessel 9 = .ok (.getfield 289, 3) := by decide +kernel
theorem dX9_vessel_12 : decode cX9_vessel 12 = .ok (.iconst 1, 1) := by decide +kernel
theorem dX9_vessel_13 : decode cX9_vessel 13 = .ok (.isub, 1) := by decide +kernel
theorem dX9_vessel_14 : decode cX9_vessel 14 = .ok (.i2l, 1) := by decide +kernel
theorem dX9_vessel_15 : decode cX9_vessel 15 = .ok (.invokestatic 74, 3) := by decide +kernel
theorem dX9_vessel_18 : decode cX9_vessel 18 = .ok (.ifCond .eq 29, 3) := by decide +kernel
theorem dX9_vessel_21 : decode cX9_vessel 21 = .ok (.iload_n 2, 1) := by decide +kernel
theorem dX9_vessel_22 : decode cX9_vessel 22 = .ok (.i2l, 1) := by decide +kernel
theorem dX9_vessel_23 : decode cX9_vessel 23 = .ok (.lconst 0, 1) := by decide +kernel
theorem dX9_vessel_24 : decode cX9_vessel 24 = .ok (.ldc2_w 346, 3) := by decide +kernel
theorem dX9_vessel_27 : decode cX9_vessel 27 = .ok (.invokestatic 74, 3) := by decide +kernel
theorem dX9_vessel_30 : decode cX9_vessel 30 = .ok (.ifCond .ne 23, 3) := by decide +kernel
theorem dX9_vessel_33 : decode cX9_vessel 33 = .ok (.iload_n 2, 1) := by decide +kernel
theorem dX9_vessel_34 : decode cX9_vessel 34 = .ok (.i2l, 1) := by decide +kernel
theorem dX9_vessel_35 : decode cX9_vessel 35 = .ok (.ldc2_w 348, 3) := by decide +kernel
theorem dX9_vessel_38 : decode cX9_vessel 38 = .ok (.ldc2_w 99, 3) := by decide +kernel
theorem dX9_vessel_41 : decode cX9_vessel 41 = .ok (.invokestatic 74, 3) := by decide +kernel
theorem dX9_vessel_44 : decode cX9_vessel 44 = .ok (.ifCond .ne 9, 3) := by decide +kernel
theorem dX9_vessel_47 : decode cX9_vessel 47 = .ok (.aload_n 0, 1) := by decide +kernel
theorem dX9_vessel_48 : decode cX9_vessel 48 = .ok (.iconst 1, 1) := by decide +kernel
theorem dX9_vessel_49 : decode cX9_vessel 49 = .ok (.invokevirtual 343, 3) := by decide +kernel
theorem dX9_vessel_52 : decode cX9_vessel 52 = .ok (.ireturn, 1) := by decide +kernel
theorem dX9_vessel_53 : decode cX9_vessel 53 = .ok (.iload_n 2, 1) := by decide +kernel
theorem dX9_vessel_54 : decode cX9_vessel 54 = .ok (.bipush 24, 2) := by decide +kernel
theorem dX9_vessel_56 : decode cX9_vessel 56 = .ok (.if_icmp .ge 17, 3) := by decide +kernel
theorem dX9_vessel_59 : decode cX9_vessel 59 = .ok (.aload_n 0, 1) := by decide +kernel
theorem dX9_vessel_60 : decode cX9_vessel 60 = .ok (.getfield 55, 3) := by decide +kernel
theorem dX9_vessel_63 : decode cX9_vessel 63 = .ok (.bipush 24, 2) := by decide +kernel
theorem dX9_vessel_65 : decode cX9_vessel 65 = .ok (.iload_n 1, 1) := by decide +kernel
theorem dX9_vessel_66 : decode cX9_vessel 66 = .ok (.imul, 1) := by decide +kernel
theorem dX9_vessel_67 : decode cX9_vessel 67 = .ok (.iload_n 2, 1) := by decide +kernel
theorem dX9_vessel_68 : decode cX9_vessel 68 = .ok (.iadd, 1) := by decide +kernel
theorem dX9_vessel_69 : decode cX9_vessel 69 = .ok (.iaload, 1) := by decide +kernel
theorem dX9_vessel_70 : decode cX9_vessel 70 = .ok (.goto 16, 3) := by decide +kernel
theorem dX9_vessel_73 : decode cX9_vessel 73 = .ok (.aload_n 0, 1) := by decide +kernel
theorem dX9_vessel_74 : decode cX9_vessel 74 = .ok (.getfield 61, 3) := by decide +kernel
theorem dX9_vessel_77 : decode cX9_vessel 77 = .ok (.iconst 3, 1) := by decide +kernel
theorem dX9_vessel_78 : decode cX9_vessel 78 = .ok (.iload_n 1, 1) := by decide +kernel
theorem dX9_vessel_79 : decode cX9_vessel 79 = .ok (.imul, 1) := by decide +kernel
theorem dX9_vessel_80 : decode cX9_vessel 80 = .ok (.iload_n 2, 1) := by decide +kernel
theorem dX9_vessel_81 : decode cX9_vessel 81 = .ok (.iadd, 1) := by decide +kernel
theorem dX9_vessel_82 : decode cX9_vessel 82 = .ok (.bipush 30, 2) := by decide +kernel
theorem dX9_vessel_84 : decode cX9_vessel 84 = .ok (.isub, 1) := by decide +kernel
theorem dX9_vessel_85 : decode cX9_vessel 85 = .ok (.iaload, 1) := by decide +kernel
theorem dX9_vessel_86 : decode cX9_vessel 86 = .ok (.ireturn, 1) := by decide +kernel
theorem dX9_letter_0 : decode cX9_letter 0 = .ok (.aload_n 0, 1) := by decide +kernel
theorem dX9_letter_1 : decode cX9_letter 1 = .ok (.iconst 0, 1) := by decide +kernel
theorem dX9_letter_2 : decode cX9_letter 2 = .ok (.putfield 1, 3) := by decide +kernel
theorem dX9_letter_5 : decode cX9_letter 5 = .ok (.iload_n 1, 1) := by decide +kernel
theorem dX9_letter_6 : decode cX9_letter 6 = .ok (.i2l, 1) := by decide +kernel
theorem dX9_letter_7 : decode cX9_letter 7 = .ok (.lconst 0, 1) := by decide +kernel
theorem dX9_letter_8 : decode cX9_letter 8 = .ok (.aload_n 0, 1) := by decide +kernel
theorem dX9_letter_9 : decode cX9_letter 9 = .ok (.getfield 289, 3) := by decide +kernel
theorem dX9_letter_12 : decode cX9_letter 12 = .ok (.iconst 1, 1) := by decide +kernel
theorem dX9_letter_13 : decode cX9_letter 13 = .ok (.isub, 1) := by decide +kernel
theorem dX9_letter_14 : decode cX9_letter 14 = .ok (.i2l, 1) := by decide +kernel
theorem dX9_letter_15 : decode cX9_letter 15 = .ok (.invokestatic 74, 3) := by decide +kernel
theorem dX9_letter_18 : decode cX9_letter 18 = .ok (.ifCond .eq 37, 3) := by decide +kernel
theorem dX9_letter_21 : decode cX9_letter 21 = .ok (.iload_n 2, 1) := by decide +kernel
theorem dX9_letter_22 : decode cX9_letter 22 = .ok (.i2l, 1) := by decide +kernel
theorem dX9_letter_23 : decode cX9_letter 23 = .ok (.lconst 0, 1) := by decide +kernel
theorem dX9_letter_24 : decode cX9_letter 24 = .ok (.ldc2_w 350, 3) := by decide +kernel
theorem dX9_letter_27 : decode cX9_letter 27 = .ok (.invokestatic 74, 3) := by decide +kernel
theorem dX9_letter_30 : decode cX9_letter 30 = .ok (.ifCond .eq 25, 3) := by decide +kernel
theorem dX9_letter_33 : decode cX9_letter 33 = .ok (.iload_n 3, 1) := by decide +kernel
theorem dX9_letter_34 : decode cX9_letter 34 = .ok (.i2l, 1) := by decide +kernel
theorem dX9_letter_35 : decode cX9_letter 35 = .ok (.lconst 0, 1) := by decide +kernel
theorem dX9_letter_36 : decode cX9_letter 36 = .ok (.aload_n 0, 1) := by decide +kernel
theorem dX9_letter_37 : decode cX9_letter 37 = .ok (.getfield 61, 3) := by decide +kernel
theorem dX9_letter_40 : decode cX9_letter 40 = .ok (.iconst 3, 1) := by decide +kernel
theorem dX9_letter_41 : decode cX9_letter 41 = .ok (.iload_n 1, 1) := by decide +kernel
theorem dX9_letter_42 : decode cX9_letter 42 = .ok (.imul, 1) := by decide +kernel
theorem dX9_letter_43 : decode cX9_letter 43 = .ok (.iload_n 2, 1) := by decide +kernel
theorem dX9_letter_44 : decode cX9_letter 44 = .ok (.iadd, 1) := by decide +kernel
theorem dX9_letter_45 : decode cX9_letter 45 = .ok (.iaload, 1) := by decide +kernel
theorem dX9_letter_46 : decode cX9_letter 46 = .ok (.iconst 1, 1) := by decide +kernel
theorem dX9_letter_47 : decode cX9_letter 47 = .ok (.isub, 1) := by decide +kernel
theorem dX9_letter_48 : decode cX9_letter 48 = .ok (.i2l, 1) := by decide +kernel
theorem dX9_letter_49 : decode cX9_letter 49 = .ok (.invokestatic 74, 3) := by decide +kernel
theorem dX9_letter_52 : decode cX9_letter 52 = .ok (.ifCond .ne 6, 3) := by decide +kernel
theorem dX9_letter_55 : decode cX9_letter 55 = .ok (.ldc 73, 2) := by decide +kernel
theorem dX9_letter_57 : decode cX9_letter 57 = .ok (.ireturn, 1) := by decide +kernel
theorem dX9_letter_58 : decode cX9_letter 58 = .ok (.aload_n 0, 1) := by decide +kernel
theorem dX9_letter_59 : decode cX9_letter 59 = .ok (.getfield 58, 3) := by decide +kernel
theorem dX9_letter_62 : decode cX9_letter 62 = .ok (.bipush 60, 2) := by decide +kernel
theorem dX9_letter_64 : decode cX9_letter 64 = .ok (.iload_n 1, 1) := by decide +kernel
theorem dX9_letter_65 : decode cX9_letter 65 = .ok (.imul, 1) := by decide +kernel
theorem dX9_letter_66 : decode cX9_letter 66 = .ok (.bipush 20, 2) := by decide +kernel
theorem dX9_letter_68 : decode cX9_letter 68 = .ok (.iload_n 2, 1) := by decide +kernel
theorem dX9_letter_69 : decode cX9_letter 69 = .ok (.imul, 1) := by decide +kernel
theorem dX9_letter_70 : decode cX9_letter 70 = .ok (.iadd, 1) := by decide +kernel
theorem dX9_letter_71 : decode cX9_letter 71 = .ok (.iload_n 3, 1) := by decide +kernel
theorem dX9_letter_72 : decode cX9_letter 72 = .ok (.iadd, 1) := by decide +kernel
theorem dX9_letter_73 : decode cX9_letter 73 = .ok (.iaload, 1) := by decide +kernel
theorem dX9_letter_74 : decode cX9_letter 74 = .ok (.ireturn, 1) := by decide +kernel
theorem dX9_bits_0 : decode cX9_bits 0 = .ok (.aload_n 0, 1) := by decide +kernel
theorem dX9_bits_1 : decode cX9_bits 1 = .ok (.iconst 0, 1) := by decide +kernel
theorem dX9_bits_2 : decode cX9_bits 2 = .ok (.putfield 1, 3) := by decide +kernel
theorem dX9_bits_5 : decode cX9_bits 5 = .ok (.aload_n 0, 1) := by decide +kernel
theorem dX9_bits_6 : decode cX9_bits 6 = .ok (.getfield 280, 3) := by decide +kernel
theorem dX9_bits_9 : decode cX9_bits 9 = .ok (.ifCond .eq 33, 3) := by decide +kernel
theorem dX9_bits_12 : decode cX9_bits 12 = .ok (.iload_n 2, 1) := by decide +kernel
theorem dX9_bits_13 : decode cX9_bits 13 = .ok (.i2l, 1) := by decide +kernel
theorem dX9_bits_14 : decode cX9_bits 14 = .ok (.lconst 1, 1) := by decide +kernel
theorem dX9_bits_15 : decode cX9_bits 15 = .ok (.ldc2_w 99, 3) := by decide +kernel
theorem dX9_bits_18 : decode cX9_bits 18 = .ok (.invokestatic 74, 3) := by decide +kernel
theorem dX9_bits_21 : decode cX9_bits 21 = .ok (.ifCond .eq 21, 3) := by decide +kernel
theorem dX9_bits_24 : decode cX9_bits 24 = .ok (.iload_n 1, 1) := by decide +kernel
theorem dX9_bits_25 : decode cX9_bits 25 = .ok (.ifCond .lt 17, 3) := by decide +kernel
theorem dX9_bits_28 : decode cX9_bits 28 = .ok (.iload_n 1, 1) := by decide +kernel
theorem dX9_bits_29 : decode cX9_bits 29 = .ok (.i2l, 1) := by decide +kernel
theorem dX9_bits_30 : decode cX9_bits 30 = .ok (.iload_n 2, 1) := by decide +kernel
theorem dX9_bits_31 : decode cX9_bits 31 = .ok (.i2l, 1) := by decide +kernel
theorem dX9_bits_32 : decode cX9_bits 32 = .ok (.ladd, 1) := by decide +kernel
theorem dX9_bits_33 : decode cX9_bits 33 = .ok (.aload_n 0, 1) := by decide +kernel
theorem dX9_bits_34 : decode cX9_bits 34 = .ok (.getfield 277, 3) := by decide +kernel
theorem dX9_bits_37 : decode cX9_bits 37 = .ok (.i2l, 1) := by decide +kernel
theorem dX9_bits_38 : decode cX9_bits 38 = .ok (.lcmp, 1) := by decide +kernel
theorem dX9_bits_39 : decode cX9_bits 39 = .ok (.ifCond .le 9, 3) := by decide +kernel
theorem dX9_bits_42 : decode cX9_bits 42 = .ok (.aload_n 0, 1) := by decide +kernel
theorem dX9_bits_43 : decode cX9_bits 43 = .ok (.iconst 1, 1) := by decide +kernel
theorem dX9_bits_44 : decode cX9_bits 44 = .ok (.invokevirtual 343, 3) := by decide +kernel
theorem dX9_bits_47 : decode cX9_bits 47 = .ok (.ireturn, 1) := by decide +kernel
theorem dX9_bits_48 : decode cX9_bits 48 = .ok (.aload_n 0, 1) := by decide +kernel
theorem dX9_bits_49 : decode cX9_bits 49 = .ok (.iload_n 1, 1) := by decide +kernel
theorem dX9_bits_50 : decode cX9_bits 50 = .ok (.iload_n 2, 1) := by decide +kernel
theorem dX9_bits_51 : decode cX9_bits 51 = .ok (.invokevirtual 286, 3) := by decide +kernel
theorem dX9_bits_54 : decode cX9_bits 54 = .ok (.ireturn, 1) := by decide +kernel
theorem dX9_put_0 : decode cX9_put 0 = .ok (.iload_n 2, 1) := by decide +kernel
theorem dX9_put_1 : decode cX9_put 1 = .ok (.iconst 1, 1) := by decide +kernel
theorem dX9_put_2 : decode cX9_put 2 = .ok (.isub, 1) := by decide +kernel
theorem dX9_put_3 : decode cX9_put 3 = .ok (.istore_n 3, 1) := by decide +kernel
theorem dX9_put_4 : decode cX9_put 4 = .ok (.iload_n 3, 1) := by decide +kernel
theorem dX9_put_5 : decode cX9_put 5 = .ok (.ifCond .lt 42, 3) := by decide +kernel
theorem dX9_put_8 : decode cX9_put 8 = .ok (.aload_n 0, 1) := by decide +kernel
theorem dX9_put_9 : decode cX9_put 9 = .ok (.getfield 64, 3) := by decide +kernel
theorem dX9_put_12 : decode cX9_put 12 = .ok (.aload_n 0, 1) := by decide +kernel
theorem dX9_put_13 : decode cX9_put 13 = .ok (.getfield 352, 3) := by decide +kernel
theorem dX9_put_16 : decode cX9_put 16 = .ok (.iload_n 1, 1) := by decide +kernel
theorem dX9_put_17 : decode cX9_put 17 = .ok (.iload_n 3, 1) := by decide +kernel
theorem dX9_put_18 : decode cX9_put 18 = .ok (.ishr, 1) := by decide +kernel
theorem dX9_put_19 : decode cX9_put 19 = .ok (.iconst 1, 1) := by decide +kernel
theorem dX9_put_20 : decode cX9_put 20 = .ok (.iand, 1) := by decide +kernel
theorem dX9_put_21 : decode cX9_put 21 = .ok (.iconst 1, 1) := by decide +kernel
theorem dX9_put_22 : decode cX9_put 22 = .ok (.if_icmp .ne 7, 3) := by decide +kernel
theorem dX9_put_25 : decode cX9_put 25 = .ok (.iconst 1, 1) := by decide +kernel
theorem dX9_put_26 : decode cX9_put 26 = .ok (.goto 4, 3) := by decide +kernel
theorem dX9_put_29 : decode cX9_put 29 = .ok (.iconst 0, 1) := by decide +kernel
theorem dX9_put_30 : decode cX9_put 30 = .ok (.bastore, 1) := by decide +kernel
theorem dX9_put_31 : decode cX9_put 31 = .ok (.aload_n 0, 1) := by decide +kernel
theorem dX9_put_32 : decode cX9_put 32 = .ok (.dup, 1) := by decide +kernel
theorem dX9_put_33 : decode cX9_put 33 = .ok (.getfield 352, 3) := by decide +kernel
theorem dX9_put_36 : decode cX9_put 36 = .ok (.iconst 1, 1) := by decide +kernel
theorem dX9_put_37 : decode cX9_put 37 = .ok (.iadd, 1) := by decide +kernel
theorem dX9_put_38 : decode cX9_put 38 = .ok (.putfield 352, 3) := by decide +kernel
theorem dX9_put_41 : decode cX9_put 41 = .ok (.iinc 3 (-1), 3) := by decide +kernel
theorem dX9_put_44 : decode cX9_put 44 = .ok (.goto (-40), 3) := by decide +kernel
theorem dX9_put_47 : decode cX9_put 47 = .ok (.return_, 1) := by decide +kernel
theorem dX9_write_0 : decode cX9_write 0 = .ok (.aload_n 0, 1) := by decide +kernel
theorem dX9_write_1 : decode cX9_write 1 = .ok (.getfield 17, 3) := by decide +kernel
theorem dX9_write_4 : decode cX9_write 4 = .ok (.aload_n 0, 1) := by decide +kernel
theorem dX9_write_5 : decode cX9_write 5 = .ok (.getfield 338, 3) := by decide +kernel
theorem dX9_write_8 : decode cX9_write 8 = .ok (.iload_n 1, 1) := by decide +kernel
theorem dX9_write_9 : decode cX9_write 9 = .ok (.iastore, 1) := by decide +kernel
theorem dX9_write_10 : decode cX9_write 10 = .ok (.aload_n 0, 1) := by decide +kernel
theorem dX9_write_11 : decode cX9_write 11 = .ok (.dup, 1) := by decide +kernel
theorem dX9_write_12 : decode cX9_write 12 = .ok (.getfield 338, 3) := by decide +kernel
theorem dX9_write_15 : decode cX9_write 15 = .ok (.iconst 1, 1) := by decide +kernel
theorem dX9_write_16 : decode cX9_write 16 = .ok (.iadd, 1) := by decide +kernel
theorem dX9_write_17 : decode cX9_write 17 = .ok (.putfield 338, 3) := by decide +kernel
theorem dX9_write_20 : decode cX9_write 20 = .ok (.aload_n 0, 1) := by decide +kernel
theorem dX9_write_21 : decode cX9_write 21 = .ok (.iload_n 1, 1) := by decide +kernel
theorem dX9_write_22 : decode cX9_write 22 = .ok (.bipush 33, 2) := by decide +kernel
theorem dX9_write_24 : decode cX9_write 24 = .ok (.if_icmp .ne 7, 3) := by decide +kernel
theorem dX9_write_27 : decode cX9_write 27 = .ok (.iconst 0, 1) := by decide +kernel
theorem dX9_write_28 : decode cX9_write 28 = .ok (.goto 9, 3) := by decide +kernel
theorem dX9_write_31 : decode cX9_write 31 = .ok (.aload_n 0, 1) := by decide +kernel
theorem dX9_write_32 : decode cX9_write 32 = .ok (.getfield 355, 3) := by decide +kernel
theorem dX9_write_35 : decode cX9_write 35 = .ok (.iload_n 1, 1) := by decide +kernel
theorem dX9_write_36 : decode cX9_write 36 = .ok (.ixor, 1) := by decide +kernel
theorem dX9_write_37 : decode cX9_write 37 = .ok (.putfield 355, 3) := by decide +kernel
theorem dX9_write_40 : decode cX9_write 40 = .ok (.return_, 1) := by decide +kernel
theorem dX9_writeAll_0 : decode cX9_writeAll 0 = .ok (.iconst 0, 1) := by decide +kernel
theorem dX9_writeAll_1 : decode cX9_writeAll 1 = .ok (.istore_n 2, 1) := by decide +kernel
theorem dX9_writeAll_2 : decode cX9_writeAll 2 = .ok (.iload_n 2, 1) := by decide +kernel
theorem dX9_writeAll_3 : decode cX9_writeAll 3 = .ok (.aload_n 1, 1) := by decide +kernel
theorem dX9_writeAll_4 : decode cX9_writeAll 4 = .ok (.invokevirtual 187, 3) := by decide +kernel
theorem dX9_writeAll_7 : decode cX9_writeAll 7 = .ok (.if_icmp .ge 18, 3) := by decide +kernel
theorem dX9_writeAll_10 : decode cX9_writeAll 10 = .ok (.aload_n 0, 1) := by decide +kernel
theorem dX9_writeAll_11 : decode cX9_writeAll 11 = .ok (.aload_n 1, 1) := by decide +kernel
theorem dX9_writeAll_12 : decode cX9_writeAll 12 = .ok (.iload_n 2, 1) := by decide +kernel
theorem dX9_writeAll_13 : decode cX9_writeAll 13 = .ok (.invokevirtual 127, 3) := by decide +kernel
theorem dX9_writeAll_16 : decode cX9_writeAll 16 = .ok (.invokevirtual 358, 3) := by decide +kernel
theorem dX9_writeAll_19 : decode cX9_writeAll 19 = .ok (.iinc 2 1, 3) := by decide +kernel
theorem dX9_writeAll_22 : decode cX9_writeAll 22 = .ok (.goto (-20), 3) := by decide +kernel
theorem dX9_writeAll_25 : decode cX9_writeAll 25 = .ok (.return_, 1) := by decide +kernel
theorem dX9_hexOf_0 : decode cX9_hexOf 0 = .ok (.iload_n 0, 1) := by decide +kernel
theorem dX9_hexOf_1 : decode cX9_hexOf 1 = .ok (.bipush 10, 2) := by decide +kernel
theorem dX9_hexOf_3 : decode cX9_hexOf 3 = .ok (.if_icmp .ge 10, 3) := by decide +kernel
theorem dX9_hexOf_6 : decode cX9_hexOf 6 = .ok (.bipush 48, 2) := by decide +kernel
theorem dX9_hexOf_8 : decode cX9_hexOf 8 = .ok (.iload_n 0, 1) := by decide +kernel
theorem dX9_hexOf_9 : decode cX9_hexOf 9 = .ok (.iadd, 1) := by decide +kernel
theorem dX9_hexOf_10 : decode cX9_hexOf 10 = .ok (.goto 10, 3) := by decide +kernel
theorem dX9_hexOf_13 : decode cX9_hexOf 13 = .ok (.bipush 65, 2) := by decide +kernel
theorem dX9_hexOf_15 : decode cX9_hexOf 15 = .ok (.iload_n 0, 1) := by decide +kernel
theorem dX9_hexOf_16 : decode cX9_hexOf 16 = .ok (.iadd, 1) := by decide +kernel
theorem dX9_hexOf_17 : decode cX9_hexOf 17 = .ok (.bipush 10, 2) := by decide +kernel
theorem dX9_hexOf_19 : decode cX9_hexOf 19 = .ok (.isub, 1) := by decide +kernel
theorem dX9_hexOf_20 : decode cX9_hexOf 20 = .ok (.ireturn, 1) := by decide +kernel
theorem dX9_sentence_0 : decode cX9_sentence 0 = .ok (.aload_n 0, 1) := by decide +kernel
theorem dX9_sentence_1 : decode cX9_sentence 1 = .ok (.ldc_w 361, 3) := by decide +kernel
theorem dX9_sentence_4 : decode cX9_sentence 4 = .ok (.invokevirtual 363, 3) := by decide +kernel
theorem dX9_sentence_7 : decode cX9_sentence 7 = .ok (.aload_n 0, 1) := by decide +kernel
theorem dX9_sentence_8 : decode cX9_sentence 8 = .ok (.bipush 48, 2) := by decide +kernel
theorem dX9_sentence_10 : decode cX9_sentence 10 = .ok (.iload_n 1, 1) := by decide +kernel
theorem dX9_sentence_11 : decode cX9_sentence 11 = .ok (.iadd, 1) := by decide +kernel
theorem dX9_sentence_12 : decode cX9_sentence 12 = .ok (.invokevirtual 358, 3) := by decide +kernel
theorem dX9_sentence_15 : decode cX9_sentence 15 = .ok (.aload_n 0, 1) := by decide +kernel
theorem dX9_sentence_16 : decode cX9_sentence 16 = .ok (.bipush 44, 2) := by decide +kernel
theorem dX9_sentence_18 : decode cX9_sentence 18 = .ok (.invokevirtual 358, 3) := by decide +kernel
theorem dX9_sentence_21 : decode cX9_sentence 21 = .ok (.aload_n 0, 1) := by decide +kernel
theorem dX9_sentence_22 : decode cX9_sentence 22 = .ok (.bipush 48, 2) := by decide +kernel
theorem dX9_sentence_24 : decode cX9_sentence 24 = .ok (.iload_n 2, 1) := by decide +kernel
theorem dX9_sentence_25 : decode cX9_sentence 25 = .ok (.iadd, 1) := by decide +kernel
theorem dX9_sentence_26 : decode cX9_sentence 26 = .ok (.invokevirtual 358, 3) := by decide +kernel
theorem dX9_sentence_29 : decode cX9_sentence 29 = .ok (.aload_n 0, 1) := by decide +kernel
theorem dX9_sentence_30 : decode cX9_sentence 30 = .ok (.bipush 44, 2) := by decide +kernel
theorem dX9_sentence_32 : decode cX9_sentence 32 = .ok (.invokevirtual 358, 3) := by decide +kernel
theorem dX9_sentence_35 : decode cX9_sentence 35 = .ok (.iload_n 3, 1) := by decide +kernel
theorem dX9_sentence_36 : decode cX9_sentence 36 = .ok (.ifCond .lt 11, 3) := by decide +kernel
theorem dX9_sentence_39 : decode cX9_sentence 39 = .ok (.aload_n 0, 1) := by decide +kernel
theorem dX9_sentence_40 : decode cX9_sentence 40 = .ok (.bipush 48, 2) := by decide +kernel
theorem dX9_sentence_42 : decode cX9_sentence 42 = .ok (.iload_n 3, 1) := by decide +kernel
theorem dX9_sentence_43 : decode cX9_sentence 43 = .ok (.iadd, 1) := by decide +kernel
theorem dX9_sentence_44 : decode cX9_sentence 44 = .ok (.invokevirtual 358, 3) := by decide +kernel
theorem dX9_sentence_47 : decode cX9_sentence 47 = .ok (.aload_n 0, 1) := by decide +kernel
theorem dX9_sentence_48 : decode cX9_sentence 48 = .ok (.ldc_w 367, 3) := by decide +kernel
theorem dX9_sentence_51 : decode cX9_sentence 51 = .ok (.invokevirtual 363, 3) := by decide +kernel
theorem dX9_sentence_54 : decode cX9_sentence 54 = .ok (.iload 5, 2) := by decide +kernel
theorem dX9_sentence_56 : decode cX9_sentence 56 = .ok (.iconst 5, 1) := by decide +kernel
theorem dX9_sentence_57 : decode cX9_sentence 57 = .ok (.iadd, 1) := by decide +kernel
theorem dX9_sentence_58 : decode cX9_sentence 58 = .ok (.bipush 6, 2) := by decide +kernel
theorem dX9_sentence_60 : decode cX9_sentence 60 = .ok (.idiv, 1) := by decide +kernel
theorem dX9_sentence_61 : decode cX9_sentence 61 = .ok (.istore 6, 2) := by decide +kernel
theorem dX9_sentence_63 : decode cX9_sentence 63 = .ok (.iconst 0, 1) := by decide +kernel
theorem dX9_sentence_64 : decode cX9_sentence 64 = .ok (.istore 7, 2) := by decide +kernel
theorem dX9_sentence_66 : decode cX9_sentence 66 = .ok (.iload 7, 2) := by decide +kernel
theorem dX9_sentence_68 : decode cX9_sentence 68 = .ok (.iload 6, 2) := by decide +kernel
theorem dX9_sentence_70 : decode cX9_sentence 70 = .ok (.if_icmp .ge 94, 3) := by decide +kernel
theorem dX9_sentence_73 : decode cX9_sentence 73 = .ok (.iconst 0, 1) := by decide +kernel
theorem dX9_sentence_74 : decode cX9_sentence 74 = .ok (.istore 8, 2) := by decide +kernel
theorem dX9_sentence_76 : decode cX9_sentence 76 = .ok (.bipush 6, 2) := by decide +kernel
theorem dX9_sentence_78 : decode cX9_sentence 78 = .ok (.iload 7, 2) := by decide +kernel
theorem dX9_sentence_80 : decode cX9_sentence 80 = .ok (.imul, 1) := by decide +kernel
theorem dX9_sentence_81 : decode cX9_sentence 81 = .ok (.istore 9, 2) := by decide +kernel
theorem dX9_sentence_83 : decode cX9_sentence 83 = .ok (.iload 9, 2) := by decide +kernel
theorem dX9_sentence_85 : decode cX9_sentence 85 = .ok (.bipush 6, 2) := by decide +kernel
theorem dX9_sentence_87 : decode cX9_sentence 87 = .ok (.iload 7, 2) := by decide +kernel
theorem dX9_sentence_89 : decode cX9_sentence 89 = .ok (.imul, 1) := by decide +kernel
theorem dX9_sentence_90 : decode cX9_sentence 90 = .ok (.bipush 6, 2) := by decide +kernel
theorem dX9_sentence_92 : decode cX9_sentence 92 = .ok (.iadd, 1) := by decide +kernel
theorem dX9_sentence_93 : decode cX9_sentence 93 = .ok (.if_icmp .ge 41, 3) := by decide +kernel
theorem dX9_sentence_96 : decode cX9_sentence 96 = .ok (.iconst 2, 1) := by decide +kernel
theorem dX9_sentence_97 : decode cX9_sentence 97 = .ok (.iload 8, 2) := by decide +kernel
theorem dX9_sentence_99 : decode cX9_sentence 99 = .ok (.imul, 1) := by decide +kernel
theorem dX9_sentence_100 : decode cX9_sentence 100 = .ok (.iload 9, 2) := by decide +kernel
theorem dX9_sentence_102 : decode cX9_sentence 102 = .ok (.iload 5, 2) := by decide +kernel
theorem dX9_sentence_104 : decode cX9_sentence 104 = .ok (.if_icmp .ge 20, 3) := by decide +kernel
theorem dX9_sentence_107 : decode cX9_sentence 107 = .ok (.aload_n 0, 1) := by decide +kernel
theorem dX9_sentence_108 : decode cX9_sentence 108 = .ok (.getfield 64, 3) := by decide +kernel
theorem dX9_sentence_111 : decode cX9_sentence 111 = .ok (.iload 4, 2) := by decide +kernel
theorem dX9_sentence_113 : decode cX9_sentence 113 = .ok (.iload 9, 2) := by decide +kernel
theorem dX9_sentence_115 : decode cX9_sentence 115 = .ok (.iadd, 1) := by decide +kernel
theorem dX9_sentence_116 : decode cX9_sentence 116 = .ok (.baload, 1) := by decide +kernel
theorem dX9_sentence_117 : decode cX9_sentence 117 = .ok (.ifCond .eq 7, 3) := by decide +kernel
theorem dX9_sentence_120 : decode cX9_sentence 120 = .ok (.iconst 1, 1) := by decide +kernel
theorem dX9_sentence_121 : decode cX9_sentence 121 = .ok (.goto 4, 3) := by decide +kernel
theorem dX9_sentence_124 : decode cX9_sentence 124 = .ok (.iconst 0, 1) := by decide +kernel
theorem dX9_sentence_125 : decode cX9_sentence 125 = .ok (.iadd, 1) := by decide +kernel
theorem dX9_sentence_126 : decode cX9_sentence 126 = .ok (.istore 8, 2) := by decide +kernel
theorem dX9_sentence_128 : decode cX9_sentence 128 = .ok (.iinc 9 1, 3) := by decide +kernel
theorem dX9_sentence_131 : decode cX9_sentence 131 = .ok (.goto (-48), 3) := by decide +kernel
theorem dX9_sentence_134 : decode cX9_sentence 134 = .ok (.aload_n 0, 1) := by decide +kernel
theorem dX9_sentence_135 : decode cX9_sentence 135 = .ok (.iload 8, 2) := by decide +kernel
theorem dX9_sentence_137 : decode cX9_sentence 137 = .ok (.bipush 40, 2) := by decide +kernel
theorem dX9_sentence_139 : decode cX9_sentence 139 = .ok (.if_icmp .ge 11, 3) := by decide +kernel
theorem dX9_sentence_142 : decode cX9_sentence 142 = .ok (.iload 8, 2) := by decide +kernel
theorem dX9_sentence_144 : decode cX9_sentence 144 = .ok (.bipush 48, 2) := by decide +kernel
theorem dX9_sentence_146 : decode cX9_sentence 146 = .ok (.iadd, 1) := by decide +kernel
theorem dX9_sentence_147 : decode cX9_sentence 147 = .ok (.goto 8, 3) := by decide +kernel
theorem dX9_sentence_150 : decode cX9_sentence 150 = .ok (.iload 8, 2) := by decide +kernel
theorem dX9_sentence_152 : decode cX9_sentence 152 = .ok (.bipush 56, 2) := by decide +kernel
theorem dX9_sentence_154 : decode cX9_sentence 154 = .ok (.iadd, 1) := by decide +kernel
theorem dX9_sentence_155 : decode cX9_sentence 155 = .ok (.invokevirtual 358, 3) := by decide +kernel
theorem dX9_sentence_158 : decode cX9_sentence 158 = .ok (.iinc 7 1, 3) := by decide +kernel
theorem dX9_sentence_161 : decode cX9_sentence 161 = .ok (.goto (-95), 3) := by decide +kernel
theorem dX9_sentence_164 : decode cX9_sentence 164 = .ok (.aload_n 0, 1) := by decide +kernel
theorem dX9_sentence_165 : decode cX9_sentence 165 = .ok (.bipush 44, 2) := by decide +kernel
theorem dX9_sentence_167 : decode cX9_sentence 167 = .ok (.invokevirtual 358, 3) := by decide +kernel
theorem dX9_sentence_170 : decode cX9_sentence 170 = .ok (.aload_n 0, 1) := by decide +kernel
theorem dX9_sentence_171 : decode cX9_sentence 171 = .ok (.bipush 48, 2) := by decide +kernel
theorem dX9_sentence_173 : decode cX9_sentence 173 = .ok (.bipush 6, 2) := by decide +kernel
theorem dX9_sentence_175 : decode cX9_sentence 175 = .ok (.iload 6, 2) := by decide +kernel
theorem dX9_sentence_177 : decode cX9_sentence 177 = .ok (.imul, 1) := by decide +kernel
theorem dX9_sentence_178 : decode cX9_sentence 178 = .ok (.iadd, 1) := by decide +kernel
theorem dX9_sentence_179 : decode cX9_sentence 179 = .ok (.iload 5, 2) := by decide +kernel
theorem dX9_sentence_181 : decode cX9_sentence 181 = .ok (.isub, 1) := by decide +kernel
theorem dX9_sentence_182 : decode cX9_sentence 182 = .ok (.invokevirtual 358, 3) := by decide +kernel
theorem dX9_sentence_185 : decode cX9_sentence 185 = .ok (.aload_n 0, 1) := by decide +kernel
theorem dX9_sentence_186 : decode cX9_sentence 186 = .ok (.getfield 355, 3) := by decide +kernel
theorem dX9_sentence_189 : decode cX9_sentence 189 = .ok (.istore 7, 2) := by decide +kernel
theorem dX9_sentence_191 : decode cX9_sentence 191 = .ok (.aload_n 0, 1) := by decide +kernel
theorem dX9_sentence_192 : decode cX9_sentence 192 = .ok (.bipush 42, 2) := by decide +kernel
theorem dX9_sentence_194 : decode cX9_sentence 194 = .ok (.invokevirtual 358, 3) := by decide +kernel
theorem dX9_sentence_197 : decode cX9_sentence 197 = .ok (.aload_n 0, 1) := by decide +kernel
theorem dX9_sentence_198 : decode cX9_sentence 198 = .ok (.iload 7, 2) := by decide +kernel
theorem dX9_sentence_200 : decode cX9_sentence 200 = .ok (.iconst 4, 1) := by decide +kernel
theorem dX9_sentence_201 : decode cX9_sentence 201 = .ok (.ishr, 1) := by decide +kernel
theorem dX9_sentence_202 : decode cX9_sentence 202 = .ok (.invokestatic 369, 3) := by decide +kernel
theorem dX9_sentence_205 : decode cX9_sentence 205 = .ok (.invokevirtual 358, 3) := by decide +kernel
theorem dX9_sentence_208 : decode cX9_sentence 208 = .ok (.aload_n 0, 1) := by decide +kernel
theorem dX9_sentence_209 : decode cX9_sentence 209 = .ok (.iload 7, 2) := by decide +kernel
theorem dX9_sentence_211 : decode cX9_sentence 211 = .ok (.bipush 15, 2) := by decide +kernel
theorem dX9_sentence_213 : decode cX9_sentence 213 = .ok (.iand, 1) := by decide +kernel
theorem dX9_sentence_214 : decode cX9_sentence 214 = .ok (.invokestatic 369, 3) := by decide +kernel
theorem dX9_sentence_217 : decode cX9_sentence 217 = .ok (.invokevirtual 358, 3) := by decide +kernel
theorem dX9_sentence_220 : decode cX9_sentence 220 = .ok (.aload_n 0, 1) := by decide +kernel
theorem dX9_sentence_221 : decode cX9_sentence 221 = .ok (.bipush 13, 2) := by decide +kernel
theorem dX9_sentence_223 : decode cX9_sentence 223 = .ok (.invokevirtual 358, 3) := by decide +kernel
theorem dX9_sentence_226 : decode cX9_sentence 226 = .ok (.aload_n 0, 1) := by decide +kernel
theorem dX9_sentence_227 : decode cX9_sentence 227 = .ok (.bipush 10, 2) := by decide +kernel
theorem dX9_sentence_229 : decode cX9_sentence 229 = .ok (.invokevirtual 358, 3) := by decide +kernel
theorem dX9_sentence_232 : decode cX9_sentence 232 = .ok (.return_, 1) := by decide +kernel
theorem dX9_send_0 : decode cX9_send 0 = .ok (.aload_n 0, 1) := by decide +kernel
theorem dX9_send_1 : decode cX9_send 1 = .ok (.iconst 0, 1) := by decide +kernel
theorem dX9_send_2 : decode cX9_send 2 = .ok (.putfield 1, 3) := by decide +kernel
theorem dX9_send_5 : decode cX9_send 5 = .ok (.iload_n 1, 1) := by decide +kernel
theorem dX9_send_6 : decode cX9_send 6 = .ok (.i2l, 1) := by decide +kernel
theorem dX9_send_7 : decode cX9_send 7 = .ok (.lconst 0, 1) := by decide +kernel
theorem dX9_send_8 : decode cX9_send 8 = .ok (.aload_n 0, 1) := by decide +kernel
theorem dX9_send_9 : decode cX9_send 9 = .ok (.getfield 289, 3) := by decide +kernel
theorem dX9_send_12 : decode cX9_send 12 = .ok (.iconst 1, 1) := by decide +kernel
theorem dX9_send_13 : decode cX9_send 13 = .ok (.isub, 1) := by decide +kernel
theorem dX9_send_14 : decode cX9_send 14 = .ok (.i2l, 1) := by decide +kernel
theorem dX9_send_15 : decode cX9_send 15 = .ok (.invokestatic 74, 3) := by decide +kernel
theorem dX9_send_18 : decode cX9_send 18 = .ok (.ifCond .ne 9, 3) := by decide +kernel
theorem dX9_send_21 : decode cX9_send 21 = .ok (.aload_n 0, 1) := by decide +kernel
theorem dX9_send_22 : decode cX9_send 22 = .ok (.iconst 1, 1) := by decide +kernel
theorem dX9_send_23 : decode cX9_send 23 = .ok (.invokevirtual 343, 3) := by decide +kernel
theorem dX9_send_26 : decode cX9_send 26 = .ok (.ireturn, 1) := by decide +kernel
theorem dX9_send_27 : decode cX9_send 27 = .ok (.iload_n 2, 1) := by decide +kernel
theorem dX9_send_28 : decode cX9_send 28 = .ok (.iconst 1, 1) := by decide +kernel
theorem dX9_send_29 : decode cX9_send 29 = .ok (.if_icmp .eq 32, 3) := by decide +kernel
theorem dX9_send_32 : decode cX9_send 32 = .ok (.iload_n 2, 1) := by decide +kernel
theorem dX9_send_33 : decode cX9_send 33 = .ok (.bipush 18, 2) := by decide +kernel
theorem dX9_send_35 : decode cX9_send 35 = .ok (.if_icmp .eq 26, 3) := by decide +kernel
theorem dX9_send_38 : decode cX9_send 38 = .ok (.iload_n 2, 1) := by decide +kernel
theorem dX9_send_39 : decode cX9_send 39 = .ok (.iconst 5, 1) := by decide +kernel
theorem dX9_send_40 : decode cX9_send 40 = .ok (.if_icmp .ne 15, 3) := by decide +kernel
theorem dX9_send_43 : decode cX9_send 43 = .ok (.iload_n 3, 1) := by decide +kernel
theorem dX9_send_44 : decode cX9_send 44 = .ok (.i2l, 1) := by decide +kernel
theorem dX9_send_45 : decode cX9_send 45 = .ok (.lconst 0, 1) := by decide +kernel
theorem dX9_send_46 : decode cX9_send 46 = .ok (.ldc2_w 372, 3) := by decide +kernel
theorem dX9_send_49 : decode cX9_send 49 = .ok (.invokestatic 74, 3) := by decide +kernel
theorem dX9_send_52 : decode cX9_send 52 = .ok (.ifCond .ne 9, 3) := by decide +kernel
theorem dX9_send_55 : decode cX9_send 55 = .ok (.aload_n 0, 1) := by decide +kernel
theorem dX9_send_56 : decode cX9_send 56 = .ok (.iconst 2, 1) := by decide +kernel
theorem dX9_send_57 : decode cX9_send 57 = .ok (.invokevirtual 343, 3) := by decide +kernel
theorem dX9_send_60 : decode cX9_send 60 = .ok (.ireturn, 1) := by decide +kernel
theorem dX9_send_61 : decode cX9_send 61 = .ok (.aload_n 0, 1) := by decide +kernel
theorem dX9_send_62 : decode cX9_send 62 = .ok (.iconst 0, 1) := by decide +kernel
theorem dX9_send_63 : decode cX9_send 63 = .ok (.putfield 352, 3) := by decide +kernel
theorem dX9_send_66 : decode cX9_send 66 = .ok (.aload_n 0, 1) := by decide +kernel
theorem dX9_send_67 : decode cX9_send 67 = .ok (.iload_n 2, 1) := by decide +kernel
theorem dX9_send_68 : decode cX9_send 68 = .ok (.bipush 6, 2) := by decide +kernel
theorem dX9_send_70 : decode cX9_send 70 = .ok (.invokevirtual 311, 3) := by decide +kernel
theorem dX9_send_73 : decode cX9_send 73 = .ok (.aload_n 0, 1) := by decide +kernel
theorem dX9_send_74 : decode cX9_send 74 = .ok (.iconst 0, 1) := by decide +kernel
theorem dX9_send_75 : decode cX9_send 75 = .ok (.iconst 2, 1) := by decide +kernel
theorem dX9_send_76 : decode cX9_send 76 = .ok (.invokevirtual 311, 3) := by decide +kernel
theorem dX9_send_79 : decode cX9_send 79 = .ok (.aload_n 0, 1) := by decide +kernel
theorem dX9_send_80 : decode cX9_send 80 = .ok (.aload_n 0, 1) := by decide +kernel
theorem dX9_send_81 : decode cX9_send 81 = .ok (.getfield 55, 3) := by decide +kernel
theorem dX9_send_84 : decode cX9_send 84 = .ok (.bipush 24, 2) := by decide +kernel
theorem dX9_send_86 : decode cX9_send 86 = .ok (.iload_n 1, 1) := by decide +kernel
theorem dX9_send_87 : decode cX9_send 87 = .ok (.imul, 1) := by decide +kernel
theorem dX9_send_88 : decode cX9_send 88 = .ok (.iaload, 1) := by decide +kernel
theorem dX9_send_89 : decode cX9_send 89 = .ok (.bipush 30, 2) := by decide +kernel
theorem dX9_send_91 : decode cX9_send 91 = .ok (.invokevirtual 311, 3) := by decide +kernel
theorem dX9_send_94 : decode cX9_send 94 = .ok (.aload_n 0, 1) := by decide +kernel
theorem dX9_send_95 : decode cX9_send 95 = .ok (.iconst 1, 1) := by decide +kernel
theorem dX9_send_96 : decode cX9_send 96 = .ok (.putfield 303, 3) := by decide +kernel
theorem dX9_send_99 : decode cX9_send 99 = .ok (.aload_n 0, 1) := by decide +kernel
theorem dX9_send_100 : decode cX9_send 100 = .ok (.iload_n 1, 1) := by decide +kernel
theorem dX9_send_101 : decode cX9_send 101 = .ok (.iload_n 2, 1) := by decide +kernel
theorem dX9_send_102 : decode cX9_send 102 = .ok (.invokevirtual 297, 3) := by decide +kernel
theorem dX9_send_105 : decode cX9_send 105 = .ok (.aload_n 0, 1) := by decide +kernel
theorem dX9_send_106 : decode cX9_send 106 = .ok (.iconst 0, 1) := by decide +kernel
theorem dX9_send_107 : decode cX9_send 107 = .ok (.putfield 303, 3) := by decide +kernel
theorem dX9_send_110 : decode cX9_send 110 = .ok (.aload_n 0, 1) := by decide +kernel
theorem dX9_send_111 : decode cX9_send 111 = .ok (.iconst 0, 1) := by decide +kernel
theorem dX9_send_112 : decode cX9_send 112 = .ok (.putfield 338, 3) := by decide +kernel
theorem dX9_send_115 : decode cX9_send 115 = .ok (.iload_n 2, 1) := by decide +kernel
theorem dX9_send_116 : decode cX9_send 116 = .ok (.iconst 5, 1) := by decide +kernel
theorem dX9_send_117 : decode cX9_send 117 = .ok (.if_icmp .ne 29, 3) := by decide +kernel
theorem dX9_send_120 : decode cX9_send 120 = .ok (.aload_n 0, 1) := by decide +kernel
theorem dX9_send_121 : decode cX9_send 121 = .ok (.iconst 2, 1) := by decide +kernel
theorem dX9_send_122 : decode cX9_send 122 = .ok (.iconst 1, 1) := by decide +kernel
theorem dX9_send_123 : decode cX9_send 123 = .ok (.iload_n 3, 1) := by decide +kernel
theorem dX9_send_124 : decode cX9_send 124 = .ok (.iconst 0, 1) := by decide +kernel
theorem dX9_send_125 : decode cX9_send 125 = .ok (.sipush 360, 3) := by decide +kernel
theorem dX9_send_128 : decode cX9_send 128 = .ok (.invokevirtual 374, 3) := by decide +kernel
theorem dX9_send_131 : decode cX9_send 131 = .ok (.aload_n 0, 1) := by decide +kernel
theorem dX9_send_132 : decode cX9_send 132 = .ok (.iconst 2, 1) := by decide +kernel
theorem dX9_send_133 : decode cX9_send 133 = .ok (.iconst 2, 1) := by decide +kernel
theorem dX9_send_134 : decode cX9_send 134 = .ok (.iload_n 3, 1) := by decide +kernel
theorem dX9_send_135 : decode cX9_send 135 = .ok (.sipush 360, 3) := by decide +kernel
theorem dX9_send_138 : decode cX9_send 138 = .ok (.bipush 64, 2) := by decide +kernel
theorem dX9_send_140 : decode cX9_send 140 = .ok (.invokevirtual 374, 3) := by decide +kernel
theorem dX9_send_143 : decode cX9_send 143 = .ok (.goto 14, 3) := by decide +kernel
theorem dX9_send_146 : decode cX9_send 146 = .ok (.aload_n 0, 1) := by decide +kernel
theorem dX9_send_147 : decode cX9_send 147 = .ok (.iconst 1, 1) := by decide +kernel
theorem dX9_send_148 : decode cX9_send 148 = .ok (.iconst 1, 1) := by decide +kernel
theorem dX9_send_149 : decode cX9_send 149 = .ok (.iconst (-1), 1) := by decide +kernel
theorem dX9_send_150 : decode cX9_send 150 = .ok (.iconst 0, 1) := by decide +kernel
theorem dX9_send_151 : decode cX9_send 151 = .ok (.sipush 168, 3) := by decide +kernel
theorem dX9_send_154 : decode cX9_send 154 = .ok (.invokevirtual 374, 3) := by decide +kernel
theorem dX9_send_157 : decode cX9_send 157 = .ok (.aload_n 0, 1) := by decide +kernel
theorem dX9_send_158 : decode cX9_send 158 = .ok (.getfield 338, 3) := by decide +kernel
theorem dX9_send_161 : decode cX9_send 161 = .ok (.ireturn, 1) := by decide +kernel
theorem dX9_out_0 : decode cX9_out 0 = .ok (.aload_n 0, 1) := by decide +kernel
theorem dX9_out_1 : decode cX9_out 1 = .ok (.iconst 0, 1) := by decide +kernel
theorem dX9_out_2 : decode cX9_out 2 = .ok (.putfield 1, 3) := by decide +kernel
theorem dX9_out_5 : decode cX9_out 5 = .ok (.iload_n 1, 1) := by decide +kernel
theorem dX9_out_6 : decode cX9_out 6 = .ok (.i2l, 1) := by decide +kernel
theorem dX9_out_7 : decode cX9_out 7 = .ok (.lconst 0, 1) := by decide +kernel
theorem dX9_out_8 : decode cX9_out 8 = .ok (.aload_n 0, 1) := by decide +kernel
theorem dX9_out_9 : decode cX9_out 9 = .ok (.getfield 338, 3) := by decide +kernel
theorem dX9_out_12 : decode cX9_out 12 = .ok (.iconst 1, 1) := by decide +kernel
theorem dX9_out_13 : decode cX9_out 13 = .ok (.isub, 1) := by decide +kernel
theorem dX9_out_14 : decode cX9_out 14 = .ok (.i2l, 1) := by decide +kernel
theorem dX9_out_15 : decode cX9_out 15 = .ok (.invokestatic 74, 3) := by decide +kernel
theorem dX9_out_18 : decode cX9_out 18 = .ok (.ifCond .eq 12, 3) := by decide +kernel
theorem dX9_out_21 : decode cX9_out 21 = .ok (.aload_n 0, 1) := by decide +kernel
theorem dX9_out_22 : decode cX9_out 22 = .ok (.getfield 17, 3) := by decide +kernel
theorem dX9_out_25 : decode cX9_out 25 = .ok (.iload_n 1, 1) := by decide +kernel
theorem dX9_out_26 : decode cX9_out 26 = .ok (.iaload, 1) := by decide +kernel
theorem dX9_out_27 : decode cX9_out 27 = .ok (.goto 5, 3) := by decide +kernel
theorem dX9_out_30 : decode cX9_out 30 = .ok (.ldc 73, 2) := by decide +kernel
theorem dX9_out_32 : decode cX9_out 32 = .ok (.ireturn, 1) := by decide +kernel
theorem dX9_again_0 : decode cX9_again 0 = .ok (.aload_n 0, 1) := by decide +kernel
theorem dX9_again_1 : decode cX9_again 1 = .ok (.iconst 0, 1) := by decide +kernel
theorem dX9_again_2 : decode cX9_again 2 = .ok (.putfield 1, 3) := by decide +kernel
theorem dX9_again_5 : decode cX9_again 5 = .ok (.aload_n 0, 1) := by decide +kernel
theorem dX9_again_6 : decode cX9_again 6 = .ok (.getfield 70, 3) := by decide +kernel
theorem dX9_again_9 : decode cX9_again 9 = .ok (.aload_n 0, 1) := by decide +kernel
theorem dX9_again_10 : decode cX9_again 10 = .ok (.getfield 338, 3) := by decide +kernel
theorem dX9_again_13 : decode cX9_again 13 = .ok (.iadd, 1) := by decide +kernel
theorem dX9_again_14 : decode cX9_again 14 = .ok (.sipush 2000, 3) := by decide +kernel
theorem dX9_again_17 : decode cX9_again 17 = .ok (.if_icmp .le 6, 3) := by decide +kernel
theorem dX9_again_20 : decode cX9_again 20 = .ok (.ldc 73, 2) := by decide +kernel
theorem dX9_again_22 : decode cX9_again 22 = .ok (.ireturn, 1) := by decide +kernel
theorem dX9_again_23 : decode cX9_again 23 = .ok (.iconst 0, 1) := by decide +kernel
theorem dX9_again_24 : decode cX9_again 24 = .ok (.istore_n 1, 1) := by decide +kernel
theorem dX9_again_25 : decode cX9_again 25 = .ok (.iload_n 1, 1) := by decide +kernel
theorem dX9_again_26 : decode cX9_again 26 = .ok (.aload_n 0, 1) := by decide +kernel
theorem dX9_again_27 : decode cX9_again 27 = .ok (.getfield 338, 3) := by decide +kernel
theorem dX9_again_30 : decode cX9_again 30 = .ok (.if_icmp .ge 34, 3) := by decide +kernel
theorem dX9_again_33 : decode cX9_again 33 = .ok (.aload_n 0, 1) := by decide +kernel
theorem dX9_again_34 : decode cX9_again 34 = .ok (.getfield 13, 3) := by decide +kernel
theorem dX9_again_37 : decode cX9_again 37 = .ok (.aload_n 0, 1) := by decide +kernel
theorem dX9_again_38 : decode cX9_again 38 = .ok (.getfield 70, 3) := by decide +kernel
theorem dX9_again_41 : decode cX9_again 41 = .ok (.aload_n 0, 1) := by decide +kernel
theorem dX9_again_42 : decode cX9_again 42 = .ok (.getfield 17, 3) := by decide +kernel
theorem dX9_again_45 : decode cX9_again 45 = .ok (.iload_n 1, 1) := by decide +kernel
theorem dX9_again_46 : decode cX9_again 46 = .ok (.iaload, 1) := by decide +kernel
theorem dX9_again_47 : decode cX9_again 47 = .ok (.iastore, 1) := by decide +kernel
theorem dX9_again_48 : decode cX9_again 48 = .ok (.aload_n 0, 1) := by decide +kernel
theorem dX9_again_49 : decode cX9_again 49 = .ok (.dup, 1) := by decide +kernel
theorem dX9_again_50 : decode cX9_again 50 = .ok (.getfield 70, 3) := by decide +kernel
theorem dX9_again_53 : decode cX9_again 53 = .ok (.iconst 1, 1) := by decide +kernel
theorem dX9_again_54 : decode cX9_again 54 = .ok (.iadd, 1) := by decide +kernel
theorem dX9_again_55 : decode cX9_again 55 = .ok (.putfield 70, 3) := by decide +kernel
theorem dX9_again_58 : decode cX9_again 58 = .ok (.iinc 1 1, 3) := by decide +kernel
theorem dX9_again_61 : decode cX9_again 61 = .ok (.goto (-36), 3) := by decide +kernel
theorem dX9_again_64 : decode cX9_again 64 = .ok (.aload_n 0, 1) := by decide +kernel
theorem dX9_again_65 : decode cX9_again 65 = .ok (.getfield 70, 3) := by decide +kernel
theorem dX9_again_68 : decode cX9_again 68 = .ok (.ireturn, 1) := by decide +kernel
theorem dX9_forget_0 : decode cX9_forget 0 = .ok (.aload_n 0, 1) := by decide +kernel
theorem dX9_forget_1 : decode cX9_forget 1 = .ok (.iconst 0, 1) := by decide +kernel
theorem dX9_forget_2 : decode cX9_forget 2 = .ok (.putfield 90, 3) := by decide +kernel
theorem dX9_forget_5 : decode cX9_forget 5 = .ok (.aload_n 0, 1) := by decide +kernel
theorem dX9_forget_6 : decode cX9_forget 6 = .ok (.iconst 0, 1) := by decide +kernel
theorem dX9_forget_7 : decode cX9_forget 7 = .ok (.putfield 93, 3) := by decide +kernel
theorem dX9_forget_10 : decode cX9_forget 10 = .ok (.aload_n 0, 1) := by decide +kernel
theorem dX9_forget_11 : decode cX9_forget 11 = .ok (.iconst 0, 1) := by decide +kernel
theorem dX9_forget_12 : decode cX9_forget 12 = .ok (.putfield 289, 3) := by decide +kernel
theorem dX9_forget_15 : decode cX9_forget 15 = .ok (.aload_n 0, 1) := by decide +kernel
theorem dX9_forget_16 : decode cX9_forget 16 = .ok (.iconst 0, 1) := by decide +kernel
theorem dX9_forget_17 : decode cX9_forget 17 = .ok (.putfield 280, 3) := by decide +kernel
theorem dX9_forget_20 : decode cX9_forget 20 = .ok (.iconst 0, 1) := by decide +kernel
theorem dX9_forget_21 : decode cX9_forget 21 = .ok (.istore_n 1, 1) := by decide +kernel
theorem dX9_forget_22 : decode cX9_forget 22 = .ok (.iload_n 1, 1) := by decide +kernel
theorem dX9_forget_23 : decode cX9_forget 23 = .ok (.bipush 9, 2) := by decide +kernel
theorem dX9_forget_25 : decode cX9_forget 25 = .ok (.if_icmp .ge 16, 3) := by decide +kernel
theorem dX9_forget_28 : decode cX9_forget 28 = .ok (.aload_n 0, 1) := by decide +kernel
theorem dX9_forget_29 : decode cX9_forget 29 = .ok (.getfield 23, 3) := by decide +kernel
theorem dX9_forget_32 : decode cX9_forget 32 = .ok (.iload_n 1, 1) := by decide +kernel
theorem dX9_forget_33 : decode cX9_forget 33 = .ok (.iconst 0, 1) := by decide +kernel
theorem dX9_forget_34 : decode cX9_forget 34 = .ok (.iastore, 1) := by decide +kernel
theorem dX9_forget_35 : decode cX9_forget 35 = .ok (.iinc 1 1, 3) := by decide +kernel
theorem dX9_forget_38 : decode cX9_forget 38 = .ok (.goto (-16), 3) := by decide +kernel
theorem dX9_forget_41 : decode cX9_forget 41 = .ok (.iconst 0, 1) := by decide +kernel
theorem dX9_forget_42 : decode cX9_forget 42 = .ok (.istore_n 1, 1) := by decide +kernel
theorem dX9_forget_43 : decode cX9_forget 43 = .ok (.iload_n 1, 1) := by decide +kernel
theorem dX9_forget_44 : decode cX9_forget 44 = .ok (.bipush 18, 2) := by decide +kernel
theorem dX9_forget_46 : decode cX9_forget 46 = .ok (.if_icmp .ge 17, 3) := by decide +kernel
theorem dX9_forget_49 : decode cX9_forget 49 = .ok (.aload_n 0, 1) := by decide +kernel
theorem dX9_forget_50 : decode cX9_forget 50 = .ok (.getfield 35, 3) := by decide +kernel
theorem dX9_forget_53 : decode cX9_forget 53 = .ok (.iload_n 1, 1) := by decide +kernel
theorem dX9_forget_54 : decode cX9_forget 54 = .ok (.ldc 73, 2) := by decide +kernel
theorem dX9_forget_56 : decode cX9_forget 56 = .ok (.iastore, 1) := by decide +kernel
theorem dX9_forget_57 : decode cX9_forget 57 = .ok (.iinc 1 1, 3) := by decide +kernel
theorem dX9_forget_60 : decode cX9_forget 60 = .ok (.goto (-17), 3) := by decide +kernel
theorem dX9_forget_63 : decode cX9_forget 63 = .ok (.iconst 0, 1) := by decide +kernel
theorem dX9_forget_64 : decode cX9_forget 64 = .ok (.istore_n 1, 1) := by decide +kernel
theorem dX9_forget_65 : decode cX9_forget 65 = .ok (.iload_n 1, 1) := by decide +kernel
theorem dX9_forget_66 : decode cX9_forget 66 = .ok (.bipush 11, 2) := by decide +kernel
theorem dX9_forget_68 : decode cX9_forget 68 = .ok (.if_icmp .ge 23, 3) := by decide +kernel
theorem dX9_forget_71 : decode cX9_forget 71 = .ok (.aload_n 0, 1) := by decide +kernel
theorem dX9_forget_72 : decode cX9_forget 72 = .ok (.getfield 41, 3) := by decide +kernel
theorem dX9_forget_75 : decode cX9_forget 75 = .ok (.iload_n 1, 1) := by decide +kernel
theorem dX9_forget_76 : decode cX9_forget 76 = .ok (.iconst 0, 1) := by decide +kernel
theorem dX9_forget_77 : decode cX9_forget 77 = .ok (.iastore, 1) := by decide +kernel
theorem dX9_forget_78 : decode cX9_forget 78 = .ok (.aload_n 0, 1) := by decide +kernel
theorem dX9_forget_79 : decode cX9_forget 79 = .ok (.getfield 44, 3) := by decide +kernel
theorem dX9_forget_82 : decode cX9_forget 82 = .ok (.iload_n 1, 1) := by decide +kernel
theorem dX9_forget_83 : decode cX9_forget 83 = .ok (.iconst 0, 1) := by decide +kernel
theorem dX9_forget_84 : decode cX9_forget 84 = .ok (.iastore, 1) := by decide +kernel
theorem dX9_forget_85 : decode cX9_forget 85 = .ok (.iinc 1 1, 3) := by decide +kernel
theorem dX9_forget_88 : decode cX9_forget 88 = .ok (.goto (-23), 3) := by decide +kernel
theorem dX9_forget_91 : decode cX9_forget 91 = .ok (.return_, 1) := by decide +kernel
theorem dX9_clear_0 : decode cX9_clear 0 = .ok (.aload_n 0, 1) := by decide +kernel
theorem dX9_clear_1 : decode cX9_clear 1 = .ok (.iconst 0, 1) := by decide +kernel
theorem dX9_clear_2 : decode cX9_clear 2 = .ok (.putfield 1, 3) := by decide +kernel
theorem dX9_clear_5 : decode cX9_clear 5 = .ok (.aload_n 0, 1) := by decide +kernel
theorem dX9_clear_6 : decode cX9_clear 6 = .ok (.invokevirtual 67, 3) := by decide +kernel
theorem dX9_clear_9 : decode cX9_clear 9 = .ok (.return_, 1) := by decide +kernel
end
section
/-! ===== the judgement sv_J: W over any heap that holds a world; its rows ===== -/
/-- what is the same in the whole run: class numbers and slots, array classes, strings, static arrays -/
abbrev sv_E : Type := va_G × (Nat → ClassId) × (Nat → Nat) × (Nat → Nat) × (Nat → Nat)
/-- one method's run -/
abbrev sv_X : Type := Program × Launch × Env × Room × State × MethodId × Array Value × List Frame × Method × Code × (State → Prop) × (Nat → Prop) × Nat
def sv_tys (E : sv_E) : List (ClassId × FieldType) := [(E.2.1 0, .byte), (E.2.1 1, .int), (E.2.1 2, .boolean), (E.2.1 3, .long), (E.2.1 4, .object "SeaReceiver$BitRow"), (E.2.1 5, .object "SeaReceiver$Vessel")]
/-- the String constants: class, place, text, bytes -/
def sv_strs : List (String × Nat × String × List Int32) := [("SeaReceiver", 102, "no such value of the fix", [110, 111, 32, 115, 117, 99, 104, 32, 118, 97, 108, 117, 101, 32, 111, 102, 32, 116, 104, 101, 32, 102, 105, 120]), ("SeaReceiver", 116, "no such vessel", [110, 111, 32, 115, 117, 99, 104, 32, 118, 101, 115, 115, 101, 108]), ("SeaReceiver", 123, "no such value of a vessel", [110, 111, 32, 115, 117, 99, 104, 32, 118, 97, 108, 117, 101, 32, 111, 102, 32, 97, 32, 118, 101, 115, 115, 101, 108]), ("SeaReceiver", 135, "the latest message has no such bits", [116, 104, 101, 32, 108, 97, 116, 101, 115, 116, 32, 109, 101, 115, 115, 97, 103, 101, 32, 104, 97, 115, 32, 110, 111, 32, 115, 117, 99, 104, 32, 98, 105, 116, 115]), ("SeaReceiver", 142, "no report of this type is sent", [110, 111, 32, 114, 101, 112, 111, 114, 116, 32, 111, 102, 32, 116, 104, 105, 115, 32, 116, 121, 112, 101, 32, 105, 115, 32, 115, 101, 110, 116]), ("SeaReceiver", 145, "the id is not a digit", [116, 104, 101, 32, 105, 100, 32, 105, 115, 32, 110, 111, 116, 32, 97, 32, 100, 105, 103, 105, 116]), ("SeaReceiver", 151, "2,1,", [50, 44, 49, 44]), ("SeaReceiver", 157, "2,2,", [50, 44, 50, 44]), ("SeaReceiver", 159, "1,1,", [49, 44, 49, 44]), ("SeaReceiver", 218, "AB12", [65, 66, 49, 50]), ("SeaReceiver", 265, "!AIVDM,", [33, 65, 73, 86, 68, 77, 44]), ("SeaReceiver", 270, ",A,", [44, 65, 44]), ("SeaReceiver$Fields", 39, "VDM", [86, 68, 77]), ("SeaReceiver$Fields", 45, "VDO", [86, 68, 79]), ("SeaReceiver$Fields", 47, "GGA", [71, 71, 65]), ("SeaReceiver$Fields", 49, "RMC", [82, 77, 67]), ("SeaReceiver$Fields", 51, "VTG", [86, 84, 71]), ("SeaReceiver$Position", 73, "AV", [65, 86]), ("SeaReceiver$Position", 88, "ADEMNS", [65, 68, 69, 77, 78, 83]), ("SeaReceiverModel", 135, "VDM", [86, 68, 77]), ("SeaReceiverModel", 141, "VDO", [86, 68, 79]), ("SeaReceiverModel", 143, "GGA", [71, 71, 65]), ("SeaReceiverModel", 145, "RMC", [82, 77, 67]), ("SeaReceiverModel", 147, "VTG", [86, 84, 71]), ("SeaReceiverModel", 214, "NS", [78, 83]), ("SeaReceiverModel", 220, "EW", [69, 87]), ("SeaReceiverModel", 226, "M", [77]), ("SeaReceiverModel", 231, "AV", [65, 86]), ("SeaReceiverModel", 240, "ADEMNS", [65, 68, 69, 77, 78, 83]), ("SeaReceiverModel", 242, "T", [84]), ("SeaReceiverModel", 244, "N", [78]), ("SeaReceiverModel", 246, "K", [75]), ("SeaReceiverModel", 257, "AB12", [65, 66, 49, 50]), ("SeaReceiverModel", 361, "!AIVDM,", [33, 65, 73, 86, 68, 77, 44]), ("SeaReceiverModel", 367, ",A,", [44, 65, 44])]
/-- the static arrays: class, name, contents -/
def sv_sta : List (String × String × List Int32) := [("SeaReceiver$Position", "OF_GGA", [0, 1, 2, 3, 4, 5, 6, 7, 8, 9]), ("SeaReceiver$Position", "OF_RMC", [0, 1, 2, 10, 11, 12, 13, 14, 17]), ("SeaReceiver$Position", "OF_VTG", [11, 12, 15, 16, 17]), ("SeaReceiver$Vessel", "OF_4", [11, 14, 12, 4, 13, 5, 14, 5, 15, 6, 10, 6, 5, 1, 6, 28, 7, 27, -1, 4, -1, 30]), ("SeaReceiver$Vessel", "OF_5", [-1, 2, 16, 30, 30, 42, 31, 120, 17, 8, 18, 9, 19, 9, 20, 6, 21, 6, -1, 4, 12, 4, 13, 5, 14, 5, 15, 6, 22, 8, 32, 120, -1, 2]), ("SeaReceiver$Vessel", "OF_18", [-1, 8, 4, 10, 5, 1, 6, 28, 7, 27, 8, 12, 9, 9, 10, 6, -1, 29]), ("SeaReceiver$Vessel", "OF_1", [2, 4, 3, 8, 4, 10, 5, 1, 6, 28, 7, 27, 8, 12, 9, 9, 10, 6, -1, 25])]
/-- a String at k, its bytes at v -/
def sv_St (k v : Nat) (bs : List Int32) (A : Nat → Prop) (U : State) (H : Heap) : Prop := va_O "java/lang/String" k A U H ∧ va_OF "java/lang/String" "coder" "B" (.int 0) k A U H ∧ va_OF "java/lang/String" "value" "[B" (.ref v) k A U H ∧ va_T .byte v bs.length (fun j => .int (bs.getD j 0)) A U H
def sv_En (E : sv_E) (A : Nat → Prop) (U : State) (H : Heap) : Prop :=
  (∀ i q, sv_strs[i]? = some q → vk_R q.1 q.2.1 q.2.2.1 (E.2.2.1 i) U ∧ sv_St (E.2.2.1 i) (E.2.2.2.1 i) q.2.2.2 A U H) ∧
  (∀ i q, sv_sta[i]? = some q → va_Z q.1 q.2.1 "[I" (.ref (E.2.2.2.2 i)) A U H ∧ va_T .int (E.2.2.2.2 i) q.2.2.length (fun j => .int (q.2.2.getD j 0)) A U H) ∧
  va_Z "java/lang/String" "COMPACT_STRINGS" "Z" (.int 1) A U H
theorem sv_St.move {k v : Nat} {bs : List Int32} {A B : Nat → Prop} {s U : State} {H H1 : Heap} (h : sv_St k v bs A s H) (hvm : s.vm.Alike U.vm) (hq : ∀ a : Nat, a < H.size → ¬ A a → H1[a]? = H[a]?) (hAB : ∀ q, B q → A q) : sv_St k v bs B U H1 :=
  ⟨((h.1.moved hvm).kept hq).narrow hAB, ((h.2.1.moved hvm).kept hq).narrow hAB, ((h.2.2.1.moved hvm).kept hq).narrow hAB, ((h.2.2.2.moved hvm).kept hq).narrow hAB⟩
theorem sv_En.move {E : sv_E} {A B : Nat → Prop} {s U : State} {H H1 : Heap} (h : sv_En E A s H) (hR : ∀ o k t a, vk_R o k t a s → vk_R o k t a U) (hvm : s.vm.Alike U.vm) (hq : ∀ a : Nat, a < H.size → ¬ A a → H1[a]? = H[a]?) (hAB : ∀ q, B q → A q) : sv_En E B U H1 :=
  ⟨fun i q hi => ⟨hR _ _ _ _ (h.1 i q hi).1, (h.1 i q hi).2.move hvm hq hAB⟩, fun i q hi => ⟨(((h.2.1 i q hi).1.moved hvm).kept hq).narrow hAB, (((h.2.1 i q hi).2.moved hvm).kept hq).narrow hAB⟩, ((h.2.2.moved hvm).kept hq).narrow hAB⟩
def sv_J (E : sv_E) (X : sv_X) (wd : va_W) (sz ce sl pc : Nat) (lv : List (Nat × Value)) (st : List Value) : Prop := match X with
  | (p, l, e, R, s, m, args, below, meth, c, Q, A, nL) => ∀ (H : Heap) (locs : List Loc) (ls : Array Slot), H.size = sz → va_P E.1 vwCl wd H → va_D A wd → va_S A s.heap H locs → lv_has ls nL lv → W p l e R s m args below meth c H locs ce sl Q (F0 m pc ls st)
/-- what holds of a method's run: its code, its class, its words, its strings sx -/
def sv_C (E : sv_E) (X : sv_X) (cc : ByteArray) (own : String) (sx : List (Nat × Nat × List Int32)) : Prop := match X with
  | (p, _, _, _, s, m, args, _, meth, c, _, A, nL) => CallFix p m c cc nL s args sv_w own ∧ va_K E.1 vwCl (sv_tys E) s ∧ meth.locks = false ∧ (∀ q, s.heap.size ≤ q → A q) ∧ sv_En E A s s.heap ∧ ∀ x ∈ sx, sv_St x.1 x.2.1 x.2.2 A s s.heap
/-- a method's start -/
def sv_Pre (E : sv_E) (sx : List (Nat × Nat × List Int32)) (vs : List Value) (wd : va_W) (sz : Nat) : Array Value → State → Prop := va_Pc vs (fun U => U.heap.size = sz ∧ va_P E.1 vwCl wd U.heap ∧ va_K E.1 vwCl (sv_tys E) U ∧ va_D (fun _ => True) wd ∧ sv_En E (va_A wd sz) U U.heap ∧ ∀ x ∈ sx, sv_St x.1 x.2.1 x.2.2 (va_A wd sz) U U.heap)
/-- a method's end: the answer, the world and the heap's size behind it -/
def sv_Q (E : sv_E) (wd : va_W) (sz : Nat) (res : Option Value) (wd' : va_W) (sz' : Nat) : Array Value → State → Outcome → State → Prop := fun _ st oc t => (oc = .returned res ∧ t.heap.size = sz' ∧ va_P E.1 vwCl wd' t.heap ∧ va_D (va_A wd sz) wd') ∧ va_F (va_A wd sz) st t
/-- a method's contract -/
def sv_Met (l : Launch) (E : sv_E) (y : MethodName) (cc : ByteArray) (mL : Nat) (rt : Option FieldType) (fr lo : Nat) (sx : List (Nat × Nat × List Int32)) (vs : List Value) (wd : va_W) (sz : Nat) (res : Option Value) (wd' : va_W) (sz' mc ms : Nat) : Prop :=
  Met l y (Cond.code y cc mL rt :: sv_w) { frames := fr, cells := mc, slots := ms, locals := lo } (sv_Pre E sx vs wd sz) (sv_Q E wd sz res wd' sz') mc ms (va_A wd sz)
/-- the end of a run that is to give the contract -/
def sv_Z (E : sv_E) (X : sv_X) (rt : Option FieldType) (res : Option Value) (wd' : va_W) (sz' mc ms : Nat) : Prop := match X with
  | (_, _, _, R, s, _, args, below, meth, _, Q, A, _) => meth.sig.returnType = rt ∧ (∃ wd sz, A = va_A wd sz ∧ Q = MQ below (sv_Q E wd sz res wd' sz') args s mc ms A)
def sv_R (X : sv_X) : Room := match X with
  | (_, _, _, R, _, _, _, _, _, _, _, _, _) => R
def sv_l (X : sv_X) : Launch := match X with
  | (_, l, _, _, _, _, _, _, _, _, _, _, _) => l
def sv_nm (X : sv_X) : String := match X with
  | (_, _, _, _, _, _, _, _, meth, _, _, _, _) => meth.name
def sv_nL (X : sv_X) : Nat := match X with
  | (_, _, _, _, _, _, _, _, _, _, _, _, nL) => nL
section SVA
variable {E : sv_E} {X : sv_X} {cc : ByteArray} {own : String} {sx : List (Nat × Nat × List Int32)} {wd : va_W} {sz ce sl pc : Nat} {lv lv' : List (Nat × Value)} {st : List Value}
/-- the contract out of the walk from its entry -/
theorem sv_ofJ {l : Launch} {y : MethodName} {mL : Nat} {rt : Option FieldType} {fr lo : Nat} {vs : List Value} {res : Option Value} {wd' : va_W} {sz' mc ms : Nat} (hy : plainName y.cls = true) (hvs : (lg_sl vs).length ≤ mL)
    (h : ∀ X : sv_X, sv_l X = l → sv_nL X = mL → sv_nm X = y.name → sv_R X = { frames := fr, cells := mc, slots := ms, locals := lo } → sv_C E X cc y.cls sx → sv_Z E X rt res wd' sz' mc ms → sv_J E X wd sz 0 0 0 (lv_args 0 vs) []) : sv_Met l E y cc mL rt fr lo sx vs wd sz res wd' sz' mc ms := by
  refine Met.ofW (cc := cc) (maxL := mL) (ret := rt) hy rfl ?_
  intro p e s m args below meth c s₁ B hml hv
  obtain ⟨rfl, hsz, hP, hK, hD0, hE, hX⟩ := hv
  have hts := atoms_spec (ws := Cond.code y cc mL rt :: sv_w) B.pre
  have hown : s.vm.findClass y.cls = some m.cls := findClass_of_methodNamed B.named
  subst hsz
  have hD := hD0.self (sz := s.heap.size)
  have hA : ∀ q : Nat, s.heap.size ≤ q → va_A wd s.heap.size q := fun q h => Or.inr h
  have hl := lv_entry vs (n := mL) hvs
  have hk := h (p, l, e, { frames := fr, cells := mc, slots := ms, locals := lo }, s, m, vs.toArray, below, meth, c, MQ below (sv_Q E wd s.heap.size res wd' sz') vs.toArray s mc ms (va_A wd s.heap.size), va_A wd s.heap.size, mL) rfl rfl (name_of_methodNamed B.named B.method).1 rfl
    ⟨⟨B.exec, B.bytes, hml, hown, fun w hw => hts w (List.mem_cons_of_mem _ hw)⟩, hK, B.notSynchronized, hA, hE, hX⟩ ⟨B.returns, wd, s.heap.size, rfl, rfl⟩
  rw [lg_entry_eq]
  exact hk s.heap [] _ rfl hP hD va_S.rf hl
theorem sv_iconst {n : Int} {v : Int32} (C : sv_C E X cc own sx) (hd : decode cc pc = .ok (.iconst n, 1)) (hv : Int32.ofInt n = v) (k : sv_J E X wd sz ce sl (pc + 1) lv (.int v :: st)) : sv_J E X wd sz ce sl pc lv st := by
  obtain ⟨p, l, e, R, s, m, args, below, meth, c, Q, A, nL⟩ := X
  exact fun H locs ls h1 h2 h3 h4 h5 => lv_iconst C.1.1 C.1.2.1 hd hv (k H locs ls h1 h2 h3 h4 h5)
theorem sv_bipush {n : Int} {v : Int32} (C : sv_C E X cc own sx) (hd : decode cc pc = .ok (.bipush n, 2)) (hv : (Int8.ofInt n).toInt32 = v) (k : sv_J E X wd sz ce sl (pc + 2) lv (.int v :: st)) : sv_J E X wd sz ce sl pc lv st := by
  obtain ⟨p, l, e, R, s, m, args, below, meth, c, Q, A, nL⟩ := X
  exact fun H locs ls h1 h2 h3 h4 h5 => lv_bipush C.1.1 C.1.2.1 hd hv (k H locs ls h1 h2 h3 h4 h5)
theorem sv_sipush {n : Int} {v : Int32} (C : sv_C E X cc own sx) (hd : decode cc pc = .ok (.sipush n, 3)) (hv : (Int16.ofInt n).toInt32 = v) (k : sv_J E X wd sz ce sl (pc + 3) lv (.int v :: st)) : sv_J E X wd sz ce sl pc lv st := by
  obtain ⟨p, l, e, R, s, m, args, below, meth, c, Q, A, nL⟩ := X
  exact fun H locs ls h1 h2 h3 h4 h5 => lv_sipush C.1.1 C.1.2.1 hd hv (k H locs ls h1 h2 h3 h4 h5)
theorem sv_lconst {n : Fin 2} {v : Int64} (C : sv_C E X cc own sx) (hd : decode cc pc = .ok (.lconst n, 1)) (hv : Int64.ofNat (n : Nat) = v) (k : sv_J E X wd sz ce sl (pc + 1) lv (.long v :: st)) : sv_J E X wd sz ce sl pc lv st := by
  obtain ⟨p, l, e, R, s, m, args, below, meth, c, Q, A, nL⟩ := X
  exact fun H locs ls h1 h2 h3 h4 h5 => lv_lconst C.1.1 C.1.2.1 hd hv (k H locs ls h1 h2 h3 h4 h5)
theorem sv_ldc {index : Nat} {v : Int32} (C : sv_C E X cc own sx) (hw : Cond.constant own index v ∈ sv_w) (hd : decode cc pc = .ok (.ldc index, 2)) (k : sv_J E X wd sz ce sl (pc + 2) lv (.int v :: st)) : sv_J E X wd sz ce sl pc lv st := by
  obtain ⟨p, l, e, R, s, m, args, below, meth, c, Q, A, nL⟩ := X
  exact fun H locs ls h1 h2 h3 h4 h5 => lv_ldc C.1.1 C.1.2.1 C.1.2.2.2.1 (C.1.2.2.2.2 _ hw) hd (k H locs ls h1 h2 h3 h4 h5)
theorem sv_ldcw {index : Nat} {v : Int32} (C : sv_C E X cc own sx) (hw : Cond.constant own index v ∈ sv_w) (hd : decode cc pc = .ok (.ldc_w index, 3)) (k : sv_J E X wd sz ce sl (pc + 3) lv (.int v :: st)) : sv_J E X wd sz ce sl pc lv st := by
  obtain ⟨p, l, e, R, s, m, args, below, meth, c, Q, A, nL⟩ := X
  exact fun H locs ls h1 h2 h3 h4 h5 => lv_ldcw C.1.1 C.1.2.1 C.1.2.2.2.1 (C.1.2.2.2.2 _ hw) hd (k H locs ls h1 h2 h3 h4 h5)
theorem sv_ldc2 {index : Nat} {v : Int64} (C : sv_C E X cc own sx) (hw : Cond.constantLong own index v ∈ sv_w) (hd : decode cc pc = .ok (.ldc2_w index, 3)) (k : sv_J E X wd sz ce sl (pc + 3) lv (.long v :: st)) : sv_J E X wd sz ce sl pc lv st := by
  obtain ⟨p, l, e, R, s, m, args, below, meth, c, Q, A, nL⟩ := X
  exact fun H locs ls h1 h2 h3 h4 h5 => lv_ldc2 C.1.1 C.1.2.1 C.1.2.2.2.1 (C.1.2.2.2.2 _ hw) hd (k H locs ls h1 h2 h3 h4 h5)
/-- a String constant -/
theorem sv_ldcS {index i : Nat} {tx : String} {bs : List Int32} (C : sv_C E X cc own sx) (hi : sv_strs[i]? = some (own, index, tx, bs)) (hd : decode cc pc = .ok (.ldc index, 2)) (k : sv_J E X wd sz ce sl (pc + 2) lv (.ref (E.2.2.1 i) :: st)) : sv_J E X wd sz ce sl pc lv st := by
  obtain ⟨p, l, e, R, s, m, args, below, meth, c, Q, A, nL⟩ := X
  exact fun H locs ls h1 h2 h3 h4 h5 => va_ldcS C.1.1 C.1.2.1 C.1.2.2.2.1 (C.2.2.2.2.1.1 i _ hi).1 hd (k H locs ls h1 h2 h3 h4 h5)
theorem sv_iload_n {j : Fin 4} {i : Nat} {x : Int32} (q : Nat) (C : sv_C E X cc own sx) (hd : decode cc pc = .ok (.iload_n j, 1)) (hi : (j : Nat) = i) (hl : lv[q]? = some (i, .int x)) (k : sv_J E X wd sz ce sl (pc + 1) lv (.int x :: st)) : sv_J E X wd sz ce sl pc lv st := by
  obtain ⟨p, l, e, R, s, m, args, below, meth, c, Q, A, nL⟩ := X
  exact fun H locs ls h1 h2 h3 h4 h5 => lv_iload_n C.1.1 C.1.2.1 hd hi (lv_at h5 q hl) (k H locs ls h1 h2 h3 h4 h5)
theorem sv_iload {i : Nat} {x : Int32} (q : Nat) (C : sv_C E X cc own sx) (hd : decode cc pc = .ok (.iload i, 2)) (hl : lv[q]? = some (i, .int x)) (k : sv_J E X wd sz ce sl (pc + 2) lv (.int x :: st)) : sv_J E X wd sz ce sl pc lv st := by
  obtain ⟨p, l, e, R, s, m, args, below, meth, c, Q, A, nL⟩ := X
  exact fun H locs ls h1 h2 h3 h4 h5 => lv_iload C.1.1 C.1.2.1 hd (lv_at h5 q hl) (k H locs ls h1 h2 h3 h4 h5)
theorem sv_lload_n {j : Fin 4} {i : Nat} {x : Int64} (q : Nat) (C : sv_C E X cc own sx) (hd : decode cc pc = .ok (.lload_n j, 1)) (hi : (j : Nat) = i) (hl : lv[q]? = some (i, .long x)) (k : sv_J E X wd sz ce sl (pc + 1) lv (.long x :: st)) : sv_J E X wd sz ce sl pc lv st := by
  obtain ⟨p, l, e, R, s, m, args, below, meth, c, Q, A, nL⟩ := X
  exact fun H locs ls h1 h2 h3 h4 h5 => lv_lload_n C.1.1 C.1.2.1 hd hi (lv_at h5 q hl) (k H locs ls h1 h2 h3 h4 h5)
theorem sv_lload {i : Nat} {x : Int64} (q : Nat) (C : sv_C E X cc own sx) (hd : decode cc pc = .ok (.lload i, 2)) (hl : lv[q]? = some (i, .long x)) (k : sv_J E X wd sz ce sl (pc + 2) lv (.long x :: st)) : sv_J E X wd sz ce sl pc lv st := by
  obtain ⟨p, l, e, R, s, m, args, below, meth, c, Q, A, nL⟩ := X
  exact fun H locs ls h1 h2 h3 h4 h5 => lv_lload C.1.1 C.1.2.1 hd (lv_at h5 q hl) (k H locs ls h1 h2 h3 h4 h5)
theorem sv_aload_n {j : Fin 4} {i : Nat} {x : Nat} (q : Nat) (C : sv_C E X cc own sx) (hd : decode cc pc = .ok (.aload_n j, 1)) (hi : (j : Nat) = i) (hl : lv[q]? = some (i, .ref x)) (k : sv_J E X wd sz ce sl (pc + 1) lv (.ref x :: st)) : sv_J E X wd sz ce sl pc lv st := by
  obtain ⟨p, l, e, R, s, m, args, below, meth, c, Q, A, nL⟩ := X
  exact fun H locs ls h1 h2 h3 h4 h5 => lv_aload_n C.1.1 C.1.2.1 hd hi (lv_at h5 q hl) (k H locs ls h1 h2 h3 h4 h5)
theorem sv_aload {i : Nat} {x : Nat} (q : Nat) (C : sv_C E X cc own sx) (hd : decode cc pc = .ok (.aload i, 2)) (hl : lv[q]? = some (i, .ref x)) (k : sv_J E X wd sz ce sl (pc + 2) lv (.ref x :: st)) : sv_J E X wd sz ce sl pc lv st := by
  obtain ⟨p, l, e, R, s, m, args, below, meth, c, Q, A, nL⟩ := X
  exact fun H locs ls h1 h2 h3 h4 h5 => lv_aload C.1.1 C.1.2.1 hd (lv_at h5 q hl) (k H locs ls h1 h2 h3 h4 h5)
theorem sv_istore_n {j : Fin 4} {i : Nat} {x : Int32} (C : sv_C E X cc own sx) (hd : decode cc pc = .ok (.istore_n j, 1)) (hi : (j : Nat) = i) (hn : i < sv_nL X) (hl : (i, Value.int x) :: lv.filter (fun q => !(q.1 == i) && !(q.1 + 1 == i && q.2.category == 2)) = lv') (k : sv_J E X wd sz ce sl (pc + 1) lv' st) : sv_J E X wd sz ce sl pc lv (.int x :: st) := by
  obtain ⟨p, l, e, R, s, m, args, below, meth, c, Q, A, nL⟩ := X
  exact fun H locs ls h1 h2 h3 h4 h5 => lv_istore_n C.1.1 C.1.2.1 hd hi h5 hn hl (fun ls' h5 => k H locs ls' h1 h2 h3 h4 h5)
theorem sv_istore {i : Nat} {x : Int32} (C : sv_C E X cc own sx) (hd : decode cc pc = .ok (.istore i, 2)) (hn : i < sv_nL X) (hl : (i, Value.int x) :: lv.filter (fun q => !(q.1 == i) && !(q.1 + 1 == i && q.2.category == 2)) = lv') (k : sv_J E X wd sz ce sl (pc + 2) lv' st) : sv_J E X wd sz ce sl pc lv (.int x :: st) := by
  obtain ⟨p, l, e, R, s, m, args, below, meth, c, Q, A, nL⟩ := X
  exact fun H locs ls h1 h2 h3 h4 h5 => lv_istore C.1.1 C.1.2.1 hd h5 hn hl (fun ls' h5 => k H locs ls' h1 h2 h3 h4 h5)
theorem sv_lstore_n {j : Fin 4} {i : Nat} {x : Int64} (C : sv_C E X cc own sx) (hd : decode cc pc = .ok (.lstore_n j, 1)) (hi : (j : Nat) = i) (hn : i + 1 < sv_nL X) (hl : (i, Value.long x) :: lv.filter (fun q => !(q.1 == i) && (!(q.1 == i + 1) && !(q.1 + 1 == i && q.2.category == 2))) = lv') (k : sv_J E X wd sz ce sl (pc + 1) lv' st) : sv_J E X wd sz ce sl pc lv (.long x :: st) := by
  obtain ⟨p, l, e, R, s, m, args, below, meth, c, Q, A, nL⟩ := X
  exact fun H locs ls h1 h2 h3 h4 h5 => lv_lstore_n C.1.1 C.1.2.1 hd hi h5 hn hl (fun ls' h5 => k H locs ls' h1 h2 h3 h4 h5)
theorem sv_lstore {i : Nat} {x : Int64} (C : sv_C E X cc own sx) (hd : decode cc pc = .ok (.lstore i, 2)) (hn : i + 1 < sv_nL X) (hl : (i, Value.long x) :: lv.filter (fun q => !(q.1 == i) && (!(q.1 == i + 1) && !(q.1 + 1 == i && q.2.category == 2))) = lv') (k : sv_J E X wd sz ce sl (pc + 2) lv' st) : sv_J E X wd sz ce sl pc lv (.long x :: st) := by
  obtain ⟨p, l, e, R, s, m, args, below, meth, c, Q, A, nL⟩ := X
  exact fun H locs ls h1 h2 h3 h4 h5 => lv_lstore C.1.1 C.1.2.1 hd h5 hn hl (fun ls' h5 => k H locs ls' h1 h2 h3 h4 h5)
theorem sv_astore_n {j : Fin 4} {i : Nat} {x : Nat} (C : sv_C E X cc own sx) (hd : decode cc pc = .ok (.astore_n j, 1)) (hi : (j : Nat) = i) (hn : i < sv_nL X) (hl : (i, Value.ref x) :: lv.filter (fun q => !(q.1 == i) && !(q.1 + 1 == i && q.2.category == 2)) = lv') (k : sv_J E X wd sz ce sl (pc + 1) lv' st) : sv_J E X wd sz ce sl pc lv (.ref x :: st) := by
  obtain ⟨p, l, e, R, s, m, args, below, meth, c, Q, A, nL⟩ := X
  exact fun H locs ls h1 h2 h3 h4 h5 => lv_astore_n C.1.1 C.1.2.1 hd hi h5 hn hl (fun ls' h5 => k H locs ls' h1 h2 h3 h4 h5)
theorem sv_astore {i : Nat} {x : Nat} (C : sv_C E X cc own sx) (hd : decode cc pc = .ok (.astore i, 2)) (hn : i < sv_nL X) (hl : (i, Value.ref x) :: lv.filter (fun q => !(q.1 == i) && !(q.1 + 1 == i && q.2.category == 2)) = lv') (k : sv_J E X wd sz ce sl (pc + 2) lv' st) : sv_J E X wd sz ce sl pc lv (.ref x :: st) := by
  obtain ⟨p, l, e, R, s, m, args, below, meth, c, Q, A, nL⟩ := X
  exact fun H locs ls h1 h2 h3 h4 h5 => lv_astore C.1.1 C.1.2.1 hd h5 hn hl (fun ls' h5 => k H locs ls' h1 h2 h3 h4 h5)
theorem sv_iinc {i : Nat} {n : Int} {x v : Int32} (q : Nat) (C : sv_C E X cc own sx) (hd : decode cc pc = .ok (.iinc i n, 3)) (hk : lv[q]? = some (i, .int x)) (hv : x + Int32.ofInt n = v) (hn : i < sv_nL X) (hl : (i, Value.int v) :: lv.filter (fun q => !(q.1 == i) && !(q.1 + 1 == i && q.2.category == 2)) = lv') (k : sv_J E X wd sz ce sl (pc + 3) lv' st) : sv_J E X wd sz ce sl pc lv st := by
  obtain ⟨p, l, e, R, s, m, args, below, meth, c, Q, A, nL⟩ := X
  exact fun H locs ls h1 h2 h3 h4 h5 => lv_iinc C.1.1 C.1.2.1 hd h5 hk hv hn hl (fun ls' h5 => k H locs ls' h1 h2 h3 h4 h5)
theorem sv_iadd {x y : Int32} (C : sv_C E X cc own sx) (hd : decode cc pc = .ok (.iadd, 1)) (k : sv_J E X wd sz ce sl (pc + 1) lv (.int (x + y) :: st)) : sv_J E X wd sz ce sl pc lv (.int y :: .int x :: st) := by
  obtain ⟨p, l, e, R, s, m, args, below, meth, c, Q, A, nL⟩ := X
  exact fun H locs ls h1 h2 h3 h4 h5 => lv_iadd C.1.1 C.1.2.1 hd (k H locs ls h1 h2 h3 h4 h5)
theorem sv_isub {x y : Int32} (C : sv_C E X cc own sx) (hd : decode cc pc = .ok (.isub, 1)) (k : sv_J E X wd sz ce sl (pc + 1) lv (.int (x - y) :: st)) : sv_J E X wd sz ce sl pc lv (.int y :: .int x :: st) := by
  obtain ⟨p, l, e, R, s, m, args, below, meth, c, Q, A, nL⟩ := X
  exact fun H locs ls h1 h2 h3 h4 h5 => lv_isub C.1.1 C.1.2.1 hd (k H locs ls h1 h2 h3 h4 h5)
theorem sv_imul {x y : Int32} (C : sv_C E X cc own sx) (hd : decode cc pc = .ok (.imul, 1)) (k : sv_J E X wd sz ce sl (pc + 1) lv (.int (x * y) :: st)) : sv_J E X wd sz ce sl pc lv (.int y :: .int x :: st) := by
  obtain ⟨p, l, e, R, s, m, args, below, meth, c, Q, A, nL⟩ := X
  exact fun H locs ls h1 h2 h3 h4 h5 => lv_imul C.1.1 C.1.2.1 hd (k H locs ls h1 h2 h3 h4 h5)
theorem sv_iand {x y : Int32} (C : sv_C E X cc own sx) (hd : decode cc pc = .ok (.iand, 1)) (k : sv_J E X wd sz ce sl (pc + 1) lv (.int (x &&& y) :: st)) : sv_J E X wd sz ce sl pc lv (.int y :: .int x :: st) := by
  obtain ⟨p, l, e, R, s, m, args, below, meth, c, Q, A, nL⟩ := X
  exact fun H locs ls h1 h2 h3 h4 h5 => lv_iand C.1.1 C.1.2.1 hd (k H locs ls h1 h2 h3 h4 h5)
theorem sv_ior {x y : Int32} (C : sv_C E X cc own sx) (hd : decode cc pc = .ok (.ior, 1)) (k : sv_J E X wd sz ce sl (pc + 1) lv (.int (x ||| y) :: st)) : sv_J E X wd sz ce sl pc lv (.int y :: .int x :: st) := by
  obtain ⟨p, l, e, R, s, m, args, below, meth, c, Q, A, nL⟩ := X
  exact fun H locs ls h1 h2 h3 h4 h5 => lv_ior C.1.1 C.1.2.1 hd (k H locs ls h1 h2 h3 h4 h5)
theorem sv_ixor {x y : Int32} (C : sv_C E X cc own sx) (hd : decode cc pc = .ok (.ixor, 1)) (k : sv_J E X wd sz ce sl (pc + 1) lv (.int (x ^^^ y) :: st)) : sv_J E X wd sz ce sl pc lv (.int y :: .int x :: st) := by
  obtain ⟨p, l, e, R, s, m, args, below, meth, c, Q, A, nL⟩ := X
  exact fun H locs ls h1 h2 h3 h4 h5 => lv_ixor C.1.1 C.1.2.1 hd (k H locs ls h1 h2 h3 h4 h5)
theorem sv_ishl {x y : Int32} (C : sv_C E X cc own sx) (hd : decode cc pc = .ok (.ishl, 1)) (k : sv_J E X wd sz ce sl (pc + 1) lv (.int (x <<< (y &&& 31)) :: st)) : sv_J E X wd sz ce sl pc lv (.int y :: .int x :: st) := by
  obtain ⟨p, l, e, R, s, m, args, below, meth, c, Q, A, nL⟩ := X
  exact fun H locs ls h1 h2 h3 h4 h5 => lv_ishl C.1.1 C.1.2.1 hd (k H locs ls h1 h2 h3 h4 h5)
theorem sv_ishr {x y : Int32} (C : sv_C E X cc own sx) (hd : decode cc pc = .ok (.ishr, 1)) (k : sv_J E X wd sz ce sl (pc + 1) lv (.int (x >>> (y &&& 31)) :: st)) : sv_J E X wd sz ce sl pc lv (.int y :: .int x :: st) := by
  obtain ⟨p, l, e, R, s, m, args, below, meth, c, Q, A, nL⟩ := X
  exact fun H locs ls h1 h2 h3 h4 h5 => lv_ishr C.1.1 C.1.2.1 hd (k H locs ls h1 h2 h3 h4 h5)
theorem sv_idiv {x y : Int32} (C : sv_C E X cc own sx) (hd : decode cc pc = .ok (.idiv, 1)) (hne : ¬ y = 0) (k : sv_J E X wd sz ce sl (pc + 1) lv (.int (x / y) :: st)) : sv_J E X wd sz ce sl pc lv (.int y :: .int x :: st) := by
  obtain ⟨p, l, e, R, s, m, args, below, meth, c, Q, A, nL⟩ := X
  exact fun H locs ls h1 h2 h3 h4 h5 => lv_idiv C.1.1 C.1.2.1 hd hne (k H locs ls h1 h2 h3 h4 h5)
theorem sv_irem {x y : Int32} (C : sv_C E X cc own sx) (hd : decode cc pc = .ok (.irem, 1)) (hne : ¬ y = 0) (k : sv_J E X wd sz ce sl (pc + 1) lv (.int (x - x / y * y) :: st)) : sv_J E X wd sz ce sl pc lv (.int y :: .int x :: st) := by
  obtain ⟨p, l, e, R, s, m, args, below, meth, c, Q, A, nL⟩ := X
  exact fun H locs ls h1 h2 h3 h4 h5 => lv_irem C.1.1 C.1.2.1 hd hne (k H locs ls h1 h2 h3 h4 h5)
theorem sv_ineg {x : Int32} (C : sv_C E X cc own sx) (hd : decode cc pc = .ok (.ineg, 1)) (k : sv_J E X wd sz ce sl (pc + 1) lv (.int (-x) :: st)) : sv_J E X wd sz ce sl pc lv (.int x :: st) := by
  obtain ⟨p, l, e, R, s, m, args, below, meth, c, Q, A, nL⟩ := X
  exact fun H locs ls h1 h2 h3 h4 h5 => lv_ineg C.1.1 C.1.2.1 hd (k H locs ls h1 h2 h3 h4 h5)
theorem sv_iushr {x y : Int32} (C : sv_C E X cc own sx) (hd : decode cc pc = .ok (.iushr, 1)) (k : sv_J E X wd sz ce sl (pc + 1) lv (.int (x.toUInt32 >>> (y.toUInt32 &&& Int32.toUInt32 31)).toInt32 :: st)) : sv_J E X wd sz ce sl pc lv (.int y :: .int x :: st) := by
  obtain ⟨p, l, e, R, s, m, args, below, meth, c, Q, A, nL⟩ := X
  exact fun H locs ls h1 h2 h3 h4 h5 => lv_iushr C.1.1 C.1.2.1 hd rfl (k H locs ls h1 h2 h3 h4 h5)
theorem sv_i2l {x : Int32} (C : sv_C E X cc own sx) (hd : decode cc pc = .ok (.i2l, 1)) (k : sv_J E X wd sz ce sl (pc + 1) lv (.long x.toInt64 :: st)) : sv_J E X wd sz ce sl pc lv (.int x :: st) := by
  obtain ⟨p, l, e, R, s, m, args, below, meth, c, Q, A, nL⟩ := X
  exact fun H locs ls h1 h2 h3 h4 h5 => lv_i2l C.1.1 C.1.2.1 hd rfl (k H locs ls h1 h2 h3 h4 h5)
theorem sv_l2i {x : Int64} (C : sv_C E X cc own sx) (hd : decode cc pc = .ok (.l2i, 1)) (k : sv_J E X wd sz ce sl (pc + 1) lv (.int x.toInt32 :: st)) : sv_J E X wd sz ce sl pc lv (.long x :: st) := by
  obtain ⟨p, l, e, R, s, m, args, below, meth, c, Q, A, nL⟩ := X
  exact fun H locs ls h1 h2 h3 h4 h5 => lv_l2i C.1.1 C.1.2.1 hd rfl (k H locs ls h1 h2 h3 h4 h5)
theorem sv_i2b {x : Int32} (C : sv_C E X cc own sx) (hd : decode cc pc = .ok (.i2b, 1)) (k : sv_J E X wd sz ce sl (pc + 1) lv (.int x.toInt8.toInt32 :: st)) : sv_J E X wd sz ce sl pc lv (.int x :: st) := by
  obtain ⟨p, l, e, R, s, m, args, below, meth, c, Q, A, nL⟩ := X
  exact fun H locs ls h1 h2 h3 h4 h5 => lv_i2b C.1.1 C.1.2.1 hd rfl (k H locs ls h1 h2 h3 h4 h5)
theorem sv_i2c {x : Int32} (C : sv_C E X cc own sx) (hd : decode cc pc = .ok (.i2c, 1)) (k : sv_J E X wd sz ce sl (pc + 1) lv (.int (x.toUInt32 % 65536).toInt32 :: st)) : sv_J E X wd sz ce sl pc lv (.int x :: st) := by
  obtain ⟨p, l, e, R, s, m, args, below, meth, c, Q, A, nL⟩ := X
  exact fun H locs ls h1 h2 h3 h4 h5 => lv_i2c C.1.1 C.1.2.1 hd rfl (k H locs ls h1 h2 h3 h4 h5)
theorem sv_ladd {x y : Int64} (C : sv_C E X cc own sx) (hd : decode cc pc = .ok (.ladd, 1)) (k : sv_J E X wd sz ce sl (pc + 1) lv (.long (x + y) :: st)) : sv_J E X wd sz ce sl pc lv (.long y :: .long x :: st) := by
  obtain ⟨p, l, e, R, s, m, args, below, meth, c, Q, A, nL⟩ := X
  exact fun H locs ls h1 h2 h3 h4 h5 => lv_ladd C.1.1 C.1.2.1 hd (k H locs ls h1 h2 h3 h4 h5)
theorem sv_lsub {x y : Int64} (C : sv_C E X cc own sx) (hd : decode cc pc = .ok (.lsub, 1)) (k : sv_J E X wd sz ce sl (pc + 1) lv (.long (x - y) :: st)) : sv_J E X wd sz ce sl pc lv (.long y :: .long x :: st) := by
  obtain ⟨p, l, e, R, s, m, args, below, meth, c, Q, A, nL⟩ := X
  exact fun H locs ls h1 h2 h3 h4 h5 => lv_lsub C.1.1 C.1.2.1 hd (k H locs ls h1 h2 h3 h4 h5)
theorem sv_land {x y : Int64} (C : sv_C E X cc own sx) (hd : decode cc pc = .ok (.land, 1)) (k : sv_J E X wd sz ce sl (pc + 1) lv (.long (x &&& y) :: st)) : sv_J E X wd sz ce sl pc lv (.long y :: .long x :: st) := by
  obtain ⟨p, l, e, R, s, m, args, below, meth, c, Q, A, nL⟩ := X
  exact fun H locs ls h1 h2 h3 h4 h5 => lv_land C.1.1 C.1.2.1 hd (k H locs ls h1 h2 h3 h4 h5)
theorem sv_lor {x y : Int64} (C : sv_C E X cc own sx) (hd : decode cc pc = .ok (.lor, 1)) (k : sv_J E X wd sz ce sl (pc + 1) lv (.long (x ||| y) :: st)) : sv_J E X wd sz ce sl pc lv (.long y :: .long x :: st) := by
  obtain ⟨p, l, e, R, s, m, args, below, meth, c, Q, A, nL⟩ := X
  exact fun H locs ls h1 h2 h3 h4 h5 => lv_lor C.1.1 C.1.2.1 hd (k H locs ls h1 h2 h3 h4 h5)
theorem sv_lushr {x : Int64} {y : Int32} (C : sv_C E X cc own sx) (hd : decode cc pc = .ok (.lushr, 1)) (k : sv_J E X wd sz ce sl (pc + 1) lv (.long (x.toUInt64 >>> (y.toInt64.toUInt64 &&& Int64.toUInt64 63)).toInt64 :: st)) : sv_J E X wd sz ce sl pc lv (.int y :: .long x :: st) := by
  obtain ⟨p, l, e, R, s, m, args, below, meth, c, Q, A, nL⟩ := X
  exact fun H locs ls h1 h2 h3 h4 h5 => lv_lushr C.1.1 C.1.2.1 hd rfl (k H locs ls h1 h2 h3 h4 h5)
theorem sv_lshl {x : Int64} {y : Int32} (C : sv_C E X cc own sx) (hd : decode cc pc = .ok (.lshl, 1)) (k : sv_J E X wd sz ce sl (pc + 1) lv (.long (x <<< (y.toInt64 &&& 63)) :: st)) : sv_J E X wd sz ce sl pc lv (.int y :: .long x :: st) := by
  obtain ⟨p, l, e, R, s, m, args, below, meth, c, Q, A, nL⟩ := X
  exact fun H locs ls h1 h2 h3 h4 h5 => lv_lshl C.1.1 C.1.2.1 hd rfl (k H locs ls h1 h2 h3 h4 h5)
theorem sv_if_eq {x : Int32} {off : Int} {tgt : Nat} (C : sv_C E X cc own sx) (hd : decode cc pc = .ok (.ifCond .eq off, 3)) (ht : (pc : Int) + off = (tgt : Int)) (kt : x = 0 → sv_J E X wd sz ce sl tgt lv st) (kf : ¬ x = 0 → sv_J E X wd sz ce sl (pc + 3) lv st) : sv_J E X wd sz ce sl pc lv (.int x :: st) := by
  obtain ⟨p, l, e, R, s, m, args, below, meth, c, Q, A, nL⟩ := X
  exact fun H locs ls h1 h2 h3 h4 h5 => lv_if_eq C.1.1 C.1.2.1 hd ht (fun h => kt h H locs ls h1 h2 h3 h4 h5) (fun h => kf h H locs ls h1 h2 h3 h4 h5)
theorem sv_icmp_eq {x y : Int32} {off : Int} {tgt : Nat} (C : sv_C E X cc own sx) (hd : decode cc pc = .ok (.if_icmp .eq off, 3)) (ht : (pc : Int) + off = (tgt : Int)) (kt : x = y → sv_J E X wd sz ce sl tgt lv st) (kf : ¬ x = y → sv_J E X wd sz ce sl (pc + 3) lv st) : sv_J E X wd sz ce sl pc lv (.int y :: .int x :: st) := by
  obtain ⟨p, l, e, R, s, m, args, below, meth, c, Q, A, nL⟩ := X
  exact fun H locs ls h1 h2 h3 h4 h5 => lv_icmp_eq C.1.1 C.1.2.1 hd ht (fun h => kt h H locs ls h1 h2 h3 h4 h5) (fun h => kf h H locs ls h1 h2 h3 h4 h5)
theorem sv_if_ne {x : Int32} {off : Int} {tgt : Nat} (C : sv_C E X cc own sx) (hd : decode cc pc = .ok (.ifCond .ne off, 3)) (ht : (pc : Int) + off = (tgt : Int)) (kt : ¬ x = 0 → sv_J E X wd sz ce sl tgt lv st) (kf : x = 0 → sv_J E X wd sz ce sl (pc + 3) lv st) : sv_J E X wd sz ce sl pc lv (.int x :: st) := by
  obtain ⟨p, l, e, R, s, m, args, below, meth, c, Q, A, nL⟩ := X
  exact fun H locs ls h1 h2 h3 h4 h5 => lv_if_ne C.1.1 C.1.2.1 hd ht (fun h => kt h H locs ls h1 h2 h3 h4 h5) (fun h => kf h H locs ls h1 h2 h3 h4 h5)
theorem sv_icmp_ne {x y : Int32} {off : Int} {tgt : Nat} (C : sv_C E X cc own sx) (hd : decode cc pc = .ok (.if_icmp .ne off, 3)) (ht : (pc : Int) + off = (tgt : Int)) (kt : ¬ x = y → sv_J E X wd sz ce sl tgt lv st) (kf : x = y → sv_J E X wd sz ce sl (pc + 3) lv st) : sv_J E X wd sz ce sl pc lv (.int y :: .int x :: st) := by
  obtain ⟨p, l, e, R, s, m, args, below, meth, c, Q, A, nL⟩ := X
  exact fun H locs ls h1 h2 h3 h4 h5 => lv_icmp_ne C.1.1 C.1.2.1 hd ht (fun h => kt h H locs ls h1 h2 h3 h4 h5) (fun h => kf h H locs ls h1 h2 h3 h4 h5)
theorem sv_if_lt {x : Int32} {off : Int} {tgt : Nat} (C : sv_C E X cc own sx) (hd : decode cc pc = .ok (.ifCond .lt off, 3)) (ht : (pc : Int) + off = (tgt : Int)) (kt : x < 0 → sv_J E X wd sz ce sl tgt lv st) (kf : ¬ x < 0 → sv_J E X wd sz ce sl (pc + 3) lv st) : sv_J E X wd sz ce sl pc lv (.int x :: st) := by
  obtain ⟨p, l, e, R, s, m, args, below, meth, c, Q, A, nL⟩ := X
  exact fun H locs ls h1 h2 h3 h4 h5 => lv_if_lt C.1.1 C.1.2.1 hd ht (fun h => kt h H locs ls h1 h2 h3 h4 h5) (fun h => kf h H locs ls h1 h2 h3 h4 h5)
theorem sv_icmp_lt {x y : Int32} {off : Int} {tgt : Nat} (C : sv_C E X cc own sx) (hd : decode cc pc = .ok (.if_icmp .lt off, 3)) (ht : (pc : Int) + off = (tgt : Int)) (kt : x < y → sv_J E X wd sz ce sl tgt lv st) (kf : ¬ x < y → sv_J E X wd sz ce sl (pc + 3) lv st) : sv_J E X wd sz ce sl pc lv (.int y :: .int x :: st) := by
  obtain ⟨p, l, e, R, s, m, args, below, meth, c, Q, A, nL⟩ := X
  exact fun H locs ls h1 h2 h3 h4 h5 => lv_icmp_lt C.1.1 C.1.2.1 hd ht (fun h => kt h H locs ls h1 h2 h3 h4 h5) (fun h => kf h H locs ls h1 h2 h3 h4 h5)
theorem sv_if_ge {x : Int32} {off : Int} {tgt : Nat} (C : sv_C E X cc own sx) (hd : decode cc pc = .ok (.ifCond .ge off, 3)) (ht : (pc : Int) + off = (tgt : Int)) (kt : 0 ≤ x → sv_J E X wd sz ce sl tgt lv st) (kf : ¬ 0 ≤ x → sv_J E X wd sz ce sl (pc + 3) lv st) : sv_J E X wd sz ce sl pc lv (.int x :: st) := by
  obtain ⟨p, l, e, R, s, m, args, below, meth, c, Q, A, nL⟩ := X
  exact fun H locs ls h1 h2 h3 h4 h5 => lv_if_ge C.1.1 C.1.2.1 hd ht (fun h => kt h H locs ls h1 h2 h3 h4 h5) (fun h => kf h H locs ls h1 h2 h3 h4 h5)
theorem sv_icmp_ge {x y : Int32} {off : Int} {tgt : Nat} (C : sv_C E X cc own sx) (hd : decode cc pc = .ok (.if_icmp .ge off, 3)) (ht : (pc : Int) + off = (tgt : Int)) (kt : y ≤ x → sv_J E X wd sz ce sl tgt lv st) (kf : ¬ y ≤ x → sv_J E X wd sz ce sl (pc + 3) lv st) : sv_J E X wd sz ce sl pc lv (.int y :: .int x :: st) := by
  obtain ⟨p, l, e, R, s, m, args, below, meth, c, Q, A, nL⟩ := X
  exact fun H locs ls h1 h2 h3 h4 h5 => lv_icmp_ge C.1.1 C.1.2.1 hd ht (fun h => kt h H locs ls h1 h2 h3 h4 h5) (fun h => kf h H locs ls h1 h2 h3 h4 h5)
theorem sv_if_gt {x : Int32} {off : Int} {tgt : Nat} (C : sv_C E X cc own sx) (hd : decode cc pc = .ok (.ifCond .gt off, 3)) (ht : (pc : Int) + off = (tgt : Int)) (kt : 0 < x → sv_J E X wd sz ce sl tgt lv st) (kf : ¬ 0 < x → sv_J E X wd sz ce sl (pc + 3) lv st) : sv_J E X wd sz ce sl pc lv (.int x :: st) := by
  obtain ⟨p, l, e, R, s, m, args, below, meth, c, Q, A, nL⟩ := X
  exact fun H locs ls h1 h2 h3 h4 h5 => lv_if_gt C.1.1 C.1.2.1 hd ht (fun h => kt h H locs ls h1 h2 h3 h4 h5) (fun h => kf h H locs ls h1 h2 h3 h4 h5)
theorem sv_icmp_gt {x y : Int32} {off : Int} {tgt : Nat} (C : sv_C E X cc own sx) (hd : decode cc pc = .ok (.if_icmp .gt off, 3)) (ht : (pc : Int) + off = (tgt : Int)) (kt : y < x → sv_J E X wd sz ce sl tgt lv st) (kf : ¬ y < x → sv_J E X wd sz ce sl (pc + 3) lv st) : sv_J E X wd sz ce sl pc lv (.int y :: .int x :: st) := by
  obtain ⟨p, l, e, R, s, m, args, below, meth, c, Q, A, nL⟩ := X
  exact fun H locs ls h1 h2 h3 h4 h5 => lv_icmp_gt C.1.1 C.1.2.1 hd ht (fun h => kt h H locs ls h1 h2 h3 h4 h5) (fun h => kf h H locs ls h1 h2 h3 h4 h5)
theorem sv_if_le {x : Int32} {off : Int} {tgt : Nat} (C : sv_C E X cc own sx) (hd : decode cc pc = .ok (.ifCond .le off, 3)) (ht : (pc : Int) + off = (tgt : Int)) (kt : x ≤ 0 → sv_J E X wd sz ce sl tgt lv st) (kf : ¬ x ≤ 0 → sv_J E X wd sz ce sl (pc + 3) lv st) : sv_J E X wd sz ce sl pc lv (.int x :: st) := by
  obtain ⟨p, l, e, R, s, m, args, below, meth, c, Q, A, nL⟩ := X
  exact fun H locs ls h1 h2 h3 h4 h5 => lv_if_le C.1.1 C.1.2.1 hd ht (fun h => kt h H locs ls h1 h2 h3 h4 h5) (fun h => kf h H locs ls h1 h2 h3 h4 h5)
theorem sv_icmp_le {x y : Int32} {off : Int} {tgt : Nat} (C : sv_C E X cc own sx) (hd : decode cc pc = .ok (.if_icmp .le off, 3)) (ht : (pc : Int) + off = (tgt : Int)) (kt : x ≤ y → sv_J E X wd sz ce sl tgt lv st) (kf : ¬ x ≤ y → sv_J E X wd sz ce sl (pc + 3) lv st) : sv_J E X wd sz ce sl pc lv (.int y :: .int x :: st) := by
  obtain ⟨p, l, e, R, s, m, args, below, meth, c, Q, A, nL⟩ := X
  exact fun H locs ls h1 h2 h3 h4 h5 => lv_icmp_le C.1.1 C.1.2.1 hd ht (fun h => kt h H locs ls h1 h2 h3 h4 h5) (fun h => kf h H locs ls h1 h2 h3 h4 h5)
theorem sv_dup {va : Value} (C : sv_C E X cc own sx) (hd : decode cc pc = .ok (.dup, 1)) (hva : va.category = 1) (k : sv_J E X wd sz ce sl (pc + 1) lv (va :: va :: st)) : sv_J E X wd sz ce sl pc lv (va :: st) := by
  obtain ⟨p, l, e, R, s, m, args, below, meth, c, Q, A, nL⟩ := X
  exact fun H locs ls h1 h2 h3 h4 h5 => lv_dup C.1.1 C.1.2.1 hd hva (k H locs ls h1 h2 h3 h4 h5)
theorem sv_pop {va : Value} (C : sv_C E X cc own sx) (hd : decode cc pc = .ok (.pop, 1)) (hva : va.category = 1) (k : sv_J E X wd sz ce sl (pc + 1) lv st) : sv_J E X wd sz ce sl pc lv (va :: st) := by
  obtain ⟨p, l, e, R, s, m, args, below, meth, c, Q, A, nL⟩ := X
  exact fun H locs ls h1 h2 h3 h4 h5 => lv_pop C.1.1 C.1.2.1 hd hva (k H locs ls h1 h2 h3 h4 h5)
theorem sv_dup_x1 {va vb : Value} (C : sv_C E X cc own sx) (hd : decode cc pc = .ok (.dup_x1, 1)) (hva : va.category = 1) (hvb : vb.category = 1) (k : sv_J E X wd sz ce sl (pc + 1) lv (va :: vb :: va :: st)) : sv_J E X wd sz ce sl pc lv (va :: vb :: st) := by
  obtain ⟨p, l, e, R, s, m, args, below, meth, c, Q, A, nL⟩ := X
  exact fun H locs ls h1 h2 h3 h4 h5 => lv_dup_x1 C.1.1 C.1.2.1 hd hva hvb (k H locs ls h1 h2 h3 h4 h5)
theorem sv_dup2 {va vb : Value} (C : sv_C E X cc own sx) (hd : decode cc pc = .ok (.dup2, 1)) (hva : va.category = 1) (hvb : vb.category = 1) (k : sv_J E X wd sz ce sl (pc + 1) lv (va :: vb :: va :: vb :: st)) : sv_J E X wd sz ce sl pc lv (va :: vb :: st) := by
  obtain ⟨p, l, e, R, s, m, args, below, meth, c, Q, A, nL⟩ := X
  exact fun H locs ls h1 h2 h3 h4 h5 => lv_dup2_11 C.1.1 C.1.2.1 hd hva hvb (k H locs ls h1 h2 h3 h4 h5)
theorem sv_goto {off : Int} {tgt : Nat} (C : sv_C E X cc own sx) (hd : decode cc pc = .ok (.goto off, 3)) (ht : (pc : Int) + off = (tgt : Int)) (k : sv_J E X wd sz ce sl tgt lv st) : sv_J E X wd sz ce sl pc lv st := by
  obtain ⟨p, l, e, R, s, m, args, below, meth, c, Q, A, nL⟩ := X
  exact fun H locs ls h1 h2 h3 h4 h5 => lv_goto C.1.1 C.1.2.1 hd ht (k H locs ls h1 h2 h3 h4 h5)
/-- fewer locals, in any order -/
theorem sv_sub (ks : List Nat) (hl : lv_pick lv ks = lv') (k : sv_J E X wd sz ce sl pc lv' st) : sv_J E X wd sz ce sl pc lv st := by
  obtain ⟨p, l, e, R, s, m, args, below, meth, c, Q, A, nL⟩ := X
  exact fun H locs ls h1 h2 h3 h4 h5 => k H locs ls h1 h2 h3 h4 (lv_sub h5 ks hl)
theorem sv_iret {v : Int32} (C : sv_C E X cc own sx) (hZ : sv_Z E X (some .int) (some (.int v)) wd sz ce sl) (hd : decode cc pc = .ok (.ireturn, 1)) : sv_J E X wd sz ce sl pc lv [.int v] := by
  obtain ⟨p, l, e, R, s, m, args, below, meth, c, Q, A, nL⟩ := X
  obtain ⟨hr, wd0, sz0, rfl, rfl⟩ := hZ
  exact fun H locs ls h1 h2 h3 h4 h5 => W.iret C.1.1 C.1.2.1 hr (fun t ht hW => ⟨⟨rfl, by rw [ht]; exact h1, by rw [ht]; exact h2, h3⟩, h4.F ht⟩) h4.2.2 hd C.2.2.1
theorem sv_zret {v : Int32} {ty : FieldType} (C : sv_C E X cc own sx) (hn : narrow ty (.int v) = .int v) (hZ : sv_Z E X (some ty) (some (.int v)) wd sz ce sl) (hd : decode cc pc = .ok (.ireturn, 1)) : sv_J E X wd sz ce sl pc lv [.int v] := by
  obtain ⟨p, l, e, R, s, m, args, below, meth, c, Q, A, nL⟩ := X
  obtain ⟨hr, wd0, sz0, rfl, rfl⟩ := hZ
  exact fun H locs ls h1 h2 h3 h4 h5 => W.zret C.1.1 C.1.2.1 hr hn (fun t ht hW => ⟨⟨rfl, by rw [ht]; exact h1, by rw [ht]; exact h2, h3⟩, h4.F ht⟩) h4.2.2 hd C.2.2.1
theorem sv_vret (C : sv_C E X cc own sx) (hZ : sv_Z E X none none wd sz ce sl) (hd : decode cc pc = .ok (.return_, 1)) : sv_J E X wd sz ce sl pc lv [] := by
  obtain ⟨p, l, e, R, s, m, args, below, meth, c, Q, A, nL⟩ := X
  obtain ⟨hr, wd0, sz0, rfl, rfl⟩ := hZ
  exact fun H locs ls h1 h2 h3 h4 h5 => W.vret C.1.1 C.1.2.1 hr (fun t ht hW => ⟨⟨rfl, by rw [ht]; exact h1, by rw [ht]; exact h2, h3⟩, h4.F ht⟩) h4.2.2 hd C.2.2.1
theorem sv_aret {v : Value} {rt : FieldType} (C : sv_C E X cc own sx) (hrt : (∃ n, rt = .object n) ∨ ∃ t, rt = .array t) (hv : v = .null ∨ ∃ a, v = .ref a) (hZ : sv_Z E X (some rt) (some v) wd sz ce sl) (hd : decode cc pc = .ok (.areturn, 1)) : sv_J E X wd sz ce sl pc lv [v] := by
  obtain ⟨p, l, e, R, s, m, args, below, meth, c, Q, A, nL⟩ := X
  obtain ⟨hr, wd0, sz0, rfl, rfl⟩ := hZ
  exact fun H locs ls h1 h2 h3 h4 h5 => W.aret C.1.1 C.1.2.1 hr hrt hv (fun t ht hW => ⟨⟨rfl, by rw [ht]; exact h1, by rw [ht]; exact h2, h3⟩, h4.F ht⟩) h4.2.2 hd C.2.2.1
theorem sv_widen {k n : Nat} (h1 : ce ≤ k) (h2 : sl ≤ n) (kk : sv_J E X wd sz k n pc lv st) : sv_J E X wd sz ce sl pc lv st := by
  obtain ⟨p, l, e, R, s, m, args, below, meth, c, Q, A, nL⟩ := X
  exact fun H locs ls g1 g2 g3 g4 g5 => W.widen h1 h2 (kk H locs ls g1 g2 g3 g4 g5)
end SVA
end
section
/-! ===== rows over a world: fields, arrays, calls ===== -/
/-- a field's link: in class own at place index, field k of the class ci -/
def sv_FL (own : String) (index ci k : Nat) (fin : Bool) (ty : FieldType) : Prop := ∃ (Cn : String) (T : u_T) (N : Nat) (ty0 : Nat → FieldType), vwCl[ci]? = some (Cn, T, N) ∧ (∀ w ∈ u_ws Cn T N, w ∈ sv_w) ∧ (∀ k, k < N → parseFieldDescriptor (T k).2.2.1 = some (ty0 k)) ∧ (∀ a, a < N → ∀ b, b < N → a ≠ b → (T a).2.1 ≠ (T b).2.1) ∧ k < N ∧ Cond.fieldLink own index (T k).1 (T k).2.1 (T k).2.2.1 ∈ sv_w ∧ (T k).2.2.2 = fin ∧ parseFieldDescriptor (T k).2.2.1 = some ty ∧ (T k).1 = Cn
theorem sv_gd {w : Cond} (h : w ∈ sv_w) : w ∈ sv_w ∧ ((w.onTables && w.keeps) = true ∨ ∃ ty, w = .arrayClass ty) := ⟨h, good_of_word (List.mem_filter.mp h).2⟩
theorem sv_gds {ws : List Cond} (h : ∀ w ∈ ws, w ∈ sv_w) : GoodIn sv_w ws := fun w hw => sv_gd (h w hw)
def sv_dn (y : MethodName) (n : Nat) : Prop := y.cls ≠ "java/lang/invoke/MethodHandle" ∧ y.cls ≠ "java/lang/invoke/VarHandle" ∧ (parseMethodDescriptor y.desc).map (fun d => d.parameters.length) = some n
/-- a method's link: called by class own at place index, n arguments -/
def sv_MV (own : String) (index : Nat) (y : MethodName) (cb : ByteArray) (mL : Nat) (rt : Option FieldType) (n : Nat) : Prop := GoodIn sv_w (wsV own index y.cls y (Cond.code y cb mL rt :: sv_w)) ∧ sv_dn y n
def sv_MS (own : String) (index : Nat) (y : MethodName) (cb : ByteArray) (mL : Nat) (rt : Option FieldType) (n : Nat) : Prop := (Cond.methodLink own index y ∈ sv_w ∧ Cond.static y ∈ sv_w ∧ Cond.initialized y.cls ∈ sv_w ∧ Cond.code y cb mL rt ∈ sv_w) ∧ sv_dn y n
theorem sv_mkV {own : String} {index : Nat} {y : MethodName} {cb : ByteArray} {mL : Nat} {rt : Option FieldType} {n : Nat} (h1 : Cond.methodLink own index y ∈ sv_w) (h2 : Cond.instanceMethod y ∈ sv_w) (h3 : Cond.selects y.cls y y ∈ sv_w) (h4 : Cond.initialized y.cls ∈ sv_w) (h5 : Cond.code y cb mL rt ∈ sv_w) (hd : sv_dn y n) : sv_MV own index y cb mL rt n :=
  ⟨sv_gds (fun w hw => by
    simp only [wsV, List.mem_append, List.mem_cons, List.not_mem_nil, or_false] at hw
    rcases hw with (rfl | rfl | rfl | rfl) | rfl | hw <;> assumption), hd⟩
section SVB
variable {E : sv_E} {X : sv_X} {cc : ByteArray} {own : String} {sx : List (Nat × Nat × List Int32)} {wd : va_W} {sz ce sl pc : Nat} {lv lv' : List (Nat × Value)} {st : List Value}
theorem sv_getf {index ci k a : Nat} {fin : Bool} {ty : FieldType} {fs : List Value} {v : Value} (C : sv_C E X cc own sx) (hF : sv_FL own index ci k fin ty) (q0 : Nat) (he : wd[q0]? = some (a, .inr (ci, fs))) (hv : fs[k]? = some v) (hd : decode cc pc = .ok (.getfield index, 3)) (kk : sv_J E X wd sz ce sl (pc + 3) lv (v :: st)) : sv_J E X wd sz ce sl pc lv (.ref a :: st) := by
  obtain ⟨p, l, e, R, s, m, args, below, meth, c, Q, A, nL⟩ := X
  obtain ⟨Cn, T, N, ty0, f1, f2, f3, f4, f5, f6, f7, f8, f9⟩ := hF
  exact fun H locs ls h1 h2 h3 h4 h5 => va_get C.1.1 C.1.2.1 C.1.2.2.2.2 f2 C.1.2.2.2.1 C.2.1 h2 q0 he f1 k f5 (C.1.2.2.2.2 _ f6) (fun _ h => h) hv hd (kk H locs ls h1 h2 h3 h4 h5)
theorem sv_putf {index ci k a : Nat} {ty : FieldType} {fs : List Value} {v : Value} (C : sv_C E X cc own sx) (hF : sv_FL own index ci k false ty) (q0 : Nat) (he : wd[q0]? = some (a, .inr (ci, fs))) (hn : narrow ty v = v) (hfit : fits ty v = true) (hl : k < fs.length) (hd : decode cc pc = .ok (.putfield index, 3)) (kk : sv_J E X (wd.set q0 (a, .inr (ci, fs.set k v))) sz ce sl (pc + 3) lv st) : sv_J E X wd sz ce sl pc lv (v :: .ref a :: st) := by
  obtain ⟨p, l, e, R, s, m, args, below, meth, c, Q, A, nL⟩ := X
  obtain ⟨Cn, T, N, ty0, f1, f2, f3, f4, f5, f6, f7, f8, f9⟩ := hF
  obtain ⟨⟨hx, hb, hml, hown, hts⟩, hK, hC⟩ := C
  intro H locs ls g1 hP hD hS g5
  have hap := va_apart (own := own) hts f2 ty0 f3 f4 hK f1
  obtain ⟨r, h1, cell, q1, q2, q3, q4⟩ := hP q0 _ he
  have hr : r = (Cn, T, N) := Option.some.inj (h1.symm.trans f1)
  subst hr
  obtain ⟨hSl, hfc, kC, hkC, hkind⟩ := hK.1 ci _ f1
  obtain ⟨cf, kf, fi, f, hi, hsl⟩ := hSl k f5
  have hlay := hts _ (f2 _ (u_in_lay f5))
  unfold u_lay at hlay
  rw [if_neg (by rw [f7]; decide)] at hlay
  have hst := (u_facts hfc hkC (u_lays hts f2 f5) hi).1
  have h6 := u_store hfc hkC hkind hlay hi f8 hn hfit
  refine W.putK hx hb (f := f) ⟨hown, hts _ f6, ⟨_, _, _, hi⟩, hst⟩ (by rw [q2]; exact h6) q1 q3 (by rw [hsl]; exact k2_hasslot (q4 k f5)) rfl rfl hd fun H' e1 e2 e3 => ?_
  rw [hsl] at e1 ⊢
  exact kk H' _ ls (e2.trans g1) (hP.set hD he ⟨_, f1, t_OB.to (V := updV (vp_V fs) k v) ⟨_, e1, q2, q3, t_set q4 hap f5 v⟩ (fun j _ => vp_updV_set hl v j)⟩ e3) (hD.set he) (hS.put e2 e3 (hD.2 q0 _ he)) g5
/-- a final field, in a constructor -/
theorem sv_putF {index ci k a : Nat} {ty : FieldType} {fs : List Value} {v : Value} (C : sv_C E X cc own sx) (hF : sv_FL own index ci k true ty) (ho : (vwCl[ci]?).map (fun q => q.1) = some own) (hnm : sv_nm X = "<init>") (q0 : Nat) (he : wd[q0]? = some (a, .inr (ci, fs))) (hn : narrow ty v = v) (hfit : fits ty v = true) (hl : k < fs.length) (hd : decode cc pc = .ok (.putfield index, 3)) (kk : sv_J E X (wd.set q0 (a, .inr (ci, fs.set k v))) sz ce sl (pc + 3) lv st) : sv_J E X wd sz ce sl pc lv (v :: .ref a :: st) := by
  obtain ⟨p, l, e, R, s, m, args, below, meth, c, Q, A, nL⟩ := X
  obtain ⟨Cn, T, N, ty0, f1, f2, f3, f4, f5, f6, f7, f8, f9⟩ := hF
  obtain ⟨⟨hx, hb, hml, hown, hts⟩, hK, hC⟩ := C
  intro H locs ls g1 hP hD hS g5
  have hap := va_apart (own := own) hts f2 ty0 f3 f4 hK f1
  obtain ⟨r, h1, cell, q1, q2, q3, q4⟩ := hP q0 _ he
  have hr : r = (Cn, T, N) := Option.some.inj (h1.symm.trans f1)
  subst hr
  obtain ⟨hSl, hfc, kC, hkC, hkind⟩ := hK.1 ci _ f1
  obtain ⟨cf, kf, fi, f, hi, hsl⟩ := hSl k f5
  have hlay := hts _ (f2 _ (u_in_lay f5))
  unfold u_lay at hlay
  rw [if_pos f7] at hlay
  have hst := (u_facts hfc hkC (u_lays hts f2 f5) hi).1
  rw [f1] at ho
  have hoC : Cn = own := Option.some.inj ho
  have hcf : m.cls = cf := by
    obtain ⟨_, _, c', _, _, _, -, -, hf', -, -, -, hown2, -⟩ := Cond.laysFinal_spec hlay
    have e1 : c' = cf := by have := hi.symm.trans hf'; simp at this; exact this.1.symm
    rw [f9, hoC] at hown2
    rw [← e1]; exact Option.some.inj (hown.symm.trans hown2)
  have h6 := u_fits hfc hkC hkind (Or.inr hlay) hi f8 hn hfit
  refine W.putFinK hx hb hown (hts _ f6) hi hst hcf hnm (by rw [q2]; exact h6) q1 q3 (by rw [hsl]; exact k2_hasslot (q4 k f5)) rfl rfl hd fun H' e1 e2 e3 => ?_
  rw [hsl] at e1 ⊢
  exact kk H' _ ls (e2.trans g1) (hP.set hD he ⟨_, f1, t_OB.to (V := updV (vp_V fs) k v) ⟨_, e1, q2, q3, t_set q4 hap f5 v⟩ (fun j _ => vp_updV_set hl v j)⟩ e3) (hD.set he) (hS.put e2 e3 (hD.2 q0 _ he)) g5
/-- a place of an array of n -/
def sv_inb (i : Int32) (n : Nat) : Bool := decide (¬ (i < 0 ∨ n ≤ i.toNatClampNeg))
theorem sv_inb_in {i : Int32} {n : Nat} (h : sv_inb i n = true) : vp_in i n := of_decide_eq_true (p := ¬ (i < 0 ∨ n ≤ i.toNatClampNeg)) h
theorem sv_iald {a n : Nat} {f : Nat → Int32} {i : Int32} (C : sv_C E X cc own sx) (q0 : Nat) (ha : wd[q0]? = some (a, .inl (E.2.1 1, n, .inl f))) (hin : sv_inb i n = true) (hd : decode cc pc = .ok (.iaload, 1)) (kk : sv_J E X wd sz ce sl (pc + 1) lv (.int (f i.toNatClampNeg) :: st)) : sv_J E X wd sz ce sl pc lv (.int i :: .ref a :: st) := by
  obtain ⟨p, l, e, R, s, m, args, below, meth, c, Q, A, nL⟩ := X
  exact fun H locs ls h1 h2 h3 h4 h5 => va_iald C.1.1 C.1.2.1 C.2.1 h2 q0 1 ha rfl (sv_inb_in hin) hd (kk H locs ls h1 h2 h3 h4 h5)
theorem sv_bald {a n : Nat} {f : Nat → Int32} {i : Int32} (C : sv_C E X cc own sx) (q0 : Nat) (ha : wd[q0]? = some (a, .inl (E.2.1 0, n, .inl f))) (hin : sv_inb i n = true) (hd : decode cc pc = .ok (.baload, 1)) (kk : sv_J E X wd sz ce sl (pc + 1) lv (.int (f i.toNatClampNeg) :: st)) : sv_J E X wd sz ce sl pc lv (.int i :: .ref a :: st) := by
  obtain ⟨p, l, e, R, s, m, args, below, meth, c, Q, A, nL⟩ := X
  exact fun H locs ls h1 h2 h3 h4 h5 => va_bald C.1.1 C.1.2.1 C.2.1 h2 q0 0 ha rfl (sv_inb_in hin) hd (kk H locs ls h1 h2 h3 h4 h5)
theorem sv_zald {a n : Nat} {f : Nat → Int32} {i : Int32} (C : sv_C E X cc own sx) (q0 : Nat) (ha : wd[q0]? = some (a, .inl (E.2.1 2, n, .inl f))) (hin : sv_inb i n = true) (hd : decode cc pc = .ok (.baload, 1)) (kk : sv_J E X wd sz ce sl (pc + 1) lv (.int (f i.toNatClampNeg) :: st)) : sv_J E X wd sz ce sl pc lv (.int i :: .ref a :: st) := by
  obtain ⟨p, l, e, R, s, m, args, below, meth, c, Q, A, nL⟩ := X
  exact fun H locs ls h1 h2 h3 h4 h5 => va_zald C.1.1 C.1.2.1 C.2.1 h2 q0 2 ha rfl (sv_inb_in hin) hd (kk H locs ls h1 h2 h3 h4 h5)
theorem sv_aald {a n : Nat} {f : Nat → Option Nat} {t0 : Nat} {cA : ClassId} {K : String} {i : Int32} (C : sv_C E X cc own sx) (q0 : Nat) (ht : (sv_tys E)[t0]? = some (cA, .object K)) (ha : wd[q0]? = some (a, .inl (cA, n, .inr (.inr (.inr (.inr f)))))) (hin : sv_inb i n = true) (hd : decode cc pc = .ok (.aaload, 1)) (kk : sv_J E X wd sz ce sl (pc + 1) lv (va_rf (f i.toNatClampNeg) :: st)) : sv_J E X wd sz ce sl pc lv (.int i :: .ref a :: st) := by
  obtain ⟨p, l, e, R, s, m, args, below, meth, c, Q, A, nL⟩ := X
  exact fun H locs ls h1 h2 h3 h4 h5 => va_aldq C.1.1 C.1.2.1 C.2.1 h2 q0 t0 ha ht (sv_inb_in hin) hd (kk H locs ls h1 h2 h3 h4 h5)
theorem sv_alen {a t0 : Nat} {cA : ClassId} {x : vp_A} {ty : FieldType} (C : sv_C E X cc own sx) (q0 : Nat) (ht : (sv_tys E)[t0]? = some (cA, ty)) (ha : wd[q0]? = some (a, .inl (cA, x))) (hd : decode cc pc = .ok (.arraylength, 1)) (kk : sv_J E X wd sz ce sl (pc + 1) lv (.int (Int32.ofNat x.1) :: st)) : sv_J E X wd sz ce sl pc lv (.ref a :: st) := by
  obtain ⟨p, l, e, R, s, m, args, below, meth, c, Q, A, nL⟩ := X
  exact fun H locs ls h1 h2 h3 h4 h5 => va_alen C.1.1 C.1.2.1 C.2.1 h2 q0 t0 ha ht rfl hd (kk H locs ls h1 h2 h3 h4 h5)
theorem sv_celli {cA : ClassId} {n j : Nat} {f : Nat → Int32} {x : Int32} : (vp_cell cA (n, .inl f)).setSlot j (.int x) = vp_cell cA (n, .inl (upd f j x)) := by
  rw [vp_cell_i, vp_cell_i, arrV_store]
  congr 2
  funext q
  by_cases hq : q = j
  · subst hq
    simp [updV, upd]
  · simp [updV, upd, hq]
theorem sv_iast {a n : Nat} {f : Nat → Int32} {i x : Int32} (C : sv_C E X cc own sx) (q0 : Nat) (ha : wd[q0]? = some (a, .inl (E.2.1 1, n, .inl f))) (hin : sv_inb i n = true) (hd : decode cc pc = .ok (.iastore, 1)) (kk : sv_J E X (wd.set q0 (a, .inl (E.2.1 1, n, .inl (upd f i.toNatClampNeg x)))) sz ce sl (pc + 1) lv st) : sv_J E X wd sz ce sl pc lv (.int x :: .int i :: .ref a :: st) := by
  obtain ⟨p, l, e, R, s, m, args, below, meth, c, Q, A, nL⟩ := X
  obtain ⟨⟨hx, hb, hml, hown, hts⟩, hK, hC⟩ := C
  intro H locs ls g1 hP hD hS g5
  have hin := sv_inb_in hin
  refine W.iast hx hb (hP q0 _ ha) ((hK.2 1 _ rfl).1 n (fun j => .int (f j))) (fun q => by cases q) (by show ¬ (i < 0 ∨ (arrV _ _ _).slots.size ≤ _); rw [arrV_size]; exact hin) rfl rfl hd fun H1 e1 z oq => ?_
  exact kk H1 _ ls (z.trans g1) (hP.set hD ha (by show H1[a]? = some (vp_cell _ _); rw [e1]; exact congrArg some sv_celli) oq) (hD.set ha) (hS.put z oq (hD.2 q0 _ ha)) g5
theorem sv_nrb {x : Int32} : narrow .byte (.int x) = .int (vp_nar .byte x) := rfl
theorem sv_nrz {x : Int32} : narrow .boolean (.int x) = .int (vp_nar .boolean x) := rfl
theorem sv_bast {a n : Nat} {f : Nat → Int32} {i x : Int32} (C : sv_C E X cc own sx) (q0 : Nat) (ha : wd[q0]? = some (a, .inl (E.2.1 0, n, .inl f))) (hin : sv_inb i n = true) (hd : decode cc pc = .ok (.bastore, 1)) (kk : sv_J E X (wd.set q0 (a, .inl (E.2.1 0, n, .inl (upd f i.toNatClampNeg (vp_nar .byte x))))) sz ce sl (pc + 1) lv st) : sv_J E X wd sz ce sl pc lv (.int x :: .int i :: .ref a :: st) := by
  obtain ⟨p, l, e, R, s, m, args, below, meth, c, Q, A, nL⟩ := X
  obtain ⟨⟨hx, hb, hml, hown, hts⟩, hK, hC⟩ := C
  intro H locs ls g1 hP hD hS g5
  have hin := sv_inb_in hin
  refine W.bast hx hb (hP q0 _ ha) ((hK.2 0 _ rfl).1 n (fun j => .int (f j))) (fun q => by cases q) (by show ¬ (i < 0 ∨ (arrV _ _ _).slots.size ≤ _); rw [arrV_size]; exact hin) rfl rfl hd fun H1 e1 z oq => ?_
  exact kk H1 _ ls (z.trans g1) (hP.set hD ha (by show H1[a]? = some (vp_cell _ _); rw [e1]; exact congrArg some (sv_celli (x := vp_nar .byte x))) oq) (hD.set ha) (hS.put z oq (hD.2 q0 _ ha)) g5
theorem sv_zast {a n : Nat} {f : Nat → Int32} {i x : Int32} (C : sv_C E X cc own sx) (q0 : Nat) (ha : wd[q0]? = some (a, .inl (E.2.1 2, n, .inl f))) (hin : sv_inb i n = true) (hd : decode cc pc = .ok (.bastore, 1)) (kk : sv_J E X (wd.set q0 (a, .inl (E.2.1 2, n, .inl (upd f i.toNatClampNeg (vp_nar .boolean x))))) sz ce sl (pc + 1) lv st) : sv_J E X wd sz ce sl pc lv (.int x :: .int i :: .ref a :: st) := by
  obtain ⟨p, l, e, R, s, m, args, below, meth, c, Q, A, nL⟩ := X
  obtain ⟨⟨hx, hb, hml, hown, hts⟩, hK, hC⟩ := C
  intro H locs ls g1 hP hD hS g5
  have hin := sv_inb_in hin
  refine W.zast hx hb (hP q0 _ ha) ((hK.2 2 _ rfl).1 n (fun j => .int (f j))) (fun q => by cases q) (by show ¬ (i < 0 ∨ (arrV _ _ _).slots.size ≤ _); rw [arrV_size]; exact hin) rfl rfl hd fun H1 e1 z oq => ?_
  exact kk H1 _ ls (z.trans g1) (hP.set hD ha (by show H1[a]? = some (vp_cell _ _); rw [e1]; exact congrArg some (sv_celli (x := vp_nar .boolean x))) oq) (hD.set ha) (hS.put z oq (hD.2 q0 _ ha)) g5
end SVB
section SVC
variable {p : Program} {l : Launch} {e : Env} {R : Room} {s : State} {m : MethodId} {args : Array Value} {below : List Frame} {meth : Method} {c : Code} {H : Heap} {locs : List Loc} {cells slots : Nat} {Q : State → Prop}
variable {pc : Nat} {ls : Array Slot} {rest st0 : List Value} {a : Array Value} {A : Nat → Prop} {mc ms : Nat}
/-- behind a call -/
theorem sv_cont {E : sv_E} {wd wd' : va_W} {sz sz' : Nat} {res : Option Value} (hr : va_Run p l e R s m args below meth c H locs cells slots mc ms (F0 m pc ls st0) rest (sv_Q E wd sz res wd' sz' a) (va_A wd sz)) (hS : va_S A s.heap H locs) (hf : ∀ q, va_A wd sz q → A q)
    (kk : ∀ (H1 : Heap) (locs1 : List Loc), H1.size = sz' → va_P E.1 vwCl wd' H1 → va_D A wd' → (∀ q : Nat, q < H.size → ¬ va_A wd sz q → H1[q]? = H[q]?) → va_D (va_A wd sz) wd' → va_S A s.heap H1 locs1 → W p l e R s m args below meth c H1 locs1 (cells + mc) (slots + ms) Q (F0 m (pc + 3) ls (res.toList ++ rest))) : W p l e R s m args below meth c H locs cells slots Q (F0 m pc ls st0) := by
  intro T hT X
  obtain ⟨v, st₀, t, T', L, h0, X', hL, e1, e2, ⟨⟨hv, hz', hp, hd⟩, hz, hk⟩, st⟩ := hr T hT X
  cases hv
  rw [h0] at hz hk
  obtain ⟨t2, a1, b1⟩ := kk T'.heap (locs ++ L) (by rw [e1]; exact hz') (by rw [e1]; exact hp) (hd.weaken (fun _ _ _ h => hf _ h)) (fun q h1 h2 => by rw [e1]; exact hk q h1 h2) hd
    ⟨Nat.le_trans hS.1 (by rw [e1]; exact hz), fun q h1 h2 => by rw [e1, hk q (Nat.lt_of_lt_of_le h1 hS.1) (fun z => h2 (hf q z))]; exact hS.2.1 q h1 h2, fun q hq => by
      rcases List.mem_append.mp hq with h | h
      · exact hS.2.2 q h
      · exact hf _ (hL q h)⟩ T' rfl X'
  exact ⟨t2, st t2 a1, b1⟩
/-- what a contract's start asks, at a call -/
theorem sv_blind {E : sv_E} {sx : List (Nat × Nat × List Int32)} {vs : List Value} {wd : va_W} {sz : Nat} : FrameBlind (sv_Pre E sx vs wd sz) := fun a U g mk q => by
  obtain ⟨q0, q1, qP, qK, qD, qE, qX⟩ := q
  exact ⟨q0, q1, qP, va_K.moved (u := U) (U := U.calling g mk a) (Vm.Alike.refl U.vm) qK, qD, qE.move (fun _ _ _ _ h => vk_R.same (u := U) (U := U.calling g mk a) rfl h) (Vm.Alike.refl U.vm) (fun _ _ _ => rfl) (fun _ h => h), fun x hx => (qX x hx).move (U := U.calling g mk a) (Vm.Alike.refl U.vm) (fun _ _ _ => rfl) (fun _ h => h)⟩
theorem sv_pre {E : sv_E} {sx sx' : List (Nat × Nat × List Int32)} {vs : List Value} {wd wd0 : va_W} {sz : Nat} (hK : va_K E.1 vwCl (sv_tys E) s) (hE : sv_En E A s s.heap) (hX : ∀ x ∈ sx', sv_St x.1 x.2.1 x.2.2 A s s.heap) (hsz : H.size = sz) (hP : va_P E.1 vwCl wd H) (hD : va_D A wd) (hS : va_S A s.heap H locs) (hf : ∀ q, va_A wd sz q → A q) : ∀ U : State, U.heap = H → s.WarmedH U.vm → sv_Pre E sx' vs wd sz vs.toArray U := fun U hU hW => by
  refine ⟨rfl, by rw [hU]; exact hsz, by rw [hU]; exact hP, va_K.moved hW.alike hK, hD.weaken (fun _ _ _ _ => trivial), hE.move (fun _ _ _ _ h => vk_R.warm hW h) hW.alike (fun q h1 h2 => by rw [hU]; exact hS.2.1 q h1 h2) hf, fun x hx => (hX x hx).move hW.alike (fun q h1 h2 => by rw [hU]; exact hS.2.1 q h1 h2) hf⟩
theorem sv_free {wd : va_W} (hA : ∀ q, s.heap.size ≤ q → A q) (hD : va_D A wd) (hS : va_S A s.heap H locs) : ∀ q, va_A wd H.size q → A q := fun q h => by
  rcases h with ⟨k, x, h⟩ | h
  · exact hD.2 k _ h
  · exact hA q (Nat.le_trans hS.1 h)
end SVC
section SVD
variable {E : sv_E} {X : sv_X} {cc : ByteArray} {own : String} {sx sx' : List (Nat × Nat × List Int32)} {wd wd' : va_W} {sz sz' ce sl pc : Nat} {lv lv' : List (Nat × Value)} {st rest : List Value}
variable {index : Nat} {y : MethodName} {cb : ByteArray} {mL : Nat} {rt : Option FieldType} {n fr lo : Nat} {As : List Value} {b : Nat} {res : Option Value} {mc ms : Nat}
/-- the strings that a callee is given: the caller's, or constants -/
def sv_sxs (E : sv_E) (sx sx' : List (Nat × Nat × List Int32)) : Prop := ∀ x ∈ sx', x ∈ sx ∨ ∃ i q, sv_strs[i]? = some q ∧ x = (E.2.2.1 i, E.2.2.2.1 i, q.2.2.2)
theorem sv_sx0 : sv_sxs E sx [] := fun x h => absurd h List.not_mem_nil
theorem sv_sx1 : sv_sxs E sx sx := fun x h => Or.inl h
theorem sv_sxi {i : Nat} {q : String × Nat × String × List Int32} (h : sv_strs[i]? = some q) : sv_sxs E sx [(E.2.2.1 i, E.2.2.2.1 i, q.2.2.2)] := fun x hx => by
  simp only [List.mem_cons, List.not_mem_nil, or_false] at hx
  exact Or.inr ⟨i, q, h, hx⟩
theorem sv_sxu {A : Nat → Prop} {s : State} (hE : sv_En E A s s.heap) (hX : ∀ x ∈ sx, sv_St x.1 x.2.1 x.2.2 A s s.heap) (h : sv_sxs E sx sx') : ∀ x ∈ sx', sv_St x.1 x.2.1 x.2.2 A s s.heap := fun x hx => by
  rcases h x hx with h | ⟨i, q, h, rfl⟩
  · exact hX x h
  · exact (hE.1 i q h).2
/-- invokevirtual, the receiver an object of the world -/
theorem sv_callV {ci : Nat} {fs : List Value} (C : sv_C E X cc own sx) (L : sv_MV own index y cb mL rt n) (M : sv_Met (sv_l X) E y cb mL rt fr lo sx' (.ref b :: As) wd sz res wd' sz' mc ms) (hsx : sv_sxs E sx sx') (q0 : Nat) (he : wd[q0]? = some (b, .inr (ci, fs))) (hc : (vwCl[ci]?).map (fun q => q.1) = some y.cls) (hn : As.length = n) (hst : st = As.reverse ++ .ref b :: rest) (hw : (rest.map fun v => v.category).sum ≤ 8)
    (hR : fr + 1 ≤ (sv_R X).frames ∧ 8 + (mL + 11) + lo ≤ (sv_R X).locals) (hcs : ce + mc ≤ (sv_R X).cells ∧ sl + ms ≤ (sv_R X).slots) (hd : decode cc pc = .ok (.invokevirtual index, 3)) (kk : sv_J E X wd' sz' (ce + mc) (sl + ms) (pc + 3) lv (res.toList ++ rest)) : sv_J E X wd sz ce sl pc lv st := by
  obtain ⟨p, l, e, R, s, m, args, below, meth, c, Q, A, nL⟩ := X
  obtain ⟨S, hK, hlk, hA, hE, hX⟩ := C
  intro H locs ls g1 hP hD hS g5
  subst g1
  have hf := sv_free hA hD hS
  cases hcq : vwCl[ci]? with
  | none => rw [hcq] at hc; cases hc
  | some q =>
    rw [hcq] at hc
    have hq : q.1 = y.cls := Option.some.inj hc
    have hrec := va_recv hK hP hcq he
    rw [hq] at hrec
    refine sv_cont (va_runV (As := As) (rest := rest) S M (cwV n S.2.2.2.2 L.1 rfl rfl rfl ⟨rfl, L.2⟩ hR) ⟨sv_blind, hrec, sv_pre (wd0 := wd) (sx := sx) hK hE (sv_sxu hE hX hsx) rfl hP hD hS hf⟩ rfl hn g5.1 hst (lv_room hw) hd hcs) hS hf (fun H1 locs1 k1 k2 k3 k4 k5 k6 => kk H1 locs1 ls k1 k2 k3 k6 g5)
/-- invokestatic -/
theorem sv_callS (C : sv_C E X cc own sx) (L : sv_MS own index y cb mL rt n) (M : sv_Met (sv_l X) E y cb mL rt fr lo sx' As wd sz res wd' sz' mc ms) (hsx : sv_sxs E sx sx') (hn : As.length = n) (hst : st = As.reverse ++ rest) (hw : (rest.map fun v => v.category).sum ≤ 8)
    (hR : fr + 1 ≤ (sv_R X).frames ∧ 8 + (mL + 11) + lo ≤ (sv_R X).locals) (hcs : ce + mc ≤ (sv_R X).cells ∧ sl + ms ≤ (sv_R X).slots) (hd : decode cc pc = .ok (.invokestatic index, 3)) (kk : sv_J E X wd' sz' (ce + mc) (sl + ms) (pc + 3) lv (res.toList ++ rest)) : sv_J E X wd sz ce sl pc lv st := by
  obtain ⟨p, l, e, R, s, m, args, below, meth, c, Q, A, nL⟩ := X
  obtain ⟨S, hK, hlk, hA, hE, hX⟩ := C
  intro H locs ls g1 hP hD hS g5
  subst g1
  have hf := sv_free hA hD hS
  have hgood : GoodIn sv_w (Cond.code y cb mL rt :: sv_w) := sv_gds (fun w hw => by
    rcases List.mem_cons.mp hw with rfl | hw
    · exact L.1.2.2.2
    · exact hw)
  refine sv_cont (va_runS (As := As) (rest := rest) S M ⟨callB_of n S.2.2.2.2 hgood rfl rfl rfl (S.2.2.2.2 _ L.1.2.2.1) (S.2.2.2.2 _ L.1.1) L.2 hR, S.2.2.2.2 _ L.1.2.1⟩ ⟨sv_blind, sv_pre (wd0 := wd) (sx := sx) hK hE (sv_sxu hE hX hsx) rfl hP hD hS hf⟩ rfl hn g5.1 hst (lv_room hw) hd hcs) hS hf (fun H1 locs1 k1 k2 k3 k4 k5 k6 => kk H1 locs1 ls k1 k2 k3 k6 g5)
end SVD
end
section
/-! ===== the reference's world: one object and its arrays; md_B: int fields by slot, arrays by the slot of the field that holds them ===== -/
abbrev md_B : Type := (Nat → Int32) × (Nat → Nat → Int32)
def md_arr : List (Nat × Nat × Nat) := [(1, 1, 2000), (3, 1, 200), (6, 1, 79), (10, 1, 9), (11, 1, 80), (12, 1, 80), (15, 1, 18), (16, 1, 18), (21, 1, 11), (22, 1, 11), (23, 1, 11), (24, 2, 35640), (25, 2, 3240), (29, 1, 960), (30, 1, 2400), (31, 1, 120), (35, 2, 424)]
def md_ref (k : Nat) : Bool := k == 1 || k == 3 || k == 6 || k == 10 || k == 11 || k == 12 || k == 15 || k == 16 || k == 21 || k == 22 || k == 23 || k == 24 || k == 25 || k == 29 || k == 30 || k == 31 || k == 35
def md_fs (ad : Nat → Nat) (F : Nat → Int32) : List Value := (List.range 38).map (fun k => if md_ref k = true then .ref (ad k) else .int (F k))
def md_w (E : sv_E) (h0 : Nat) (ad : Nat → Nat) (B : md_B) : va_W := (h0, .inr (9, md_fs ad B.1)) :: md_arr.map (fun q => (ad q.1, .inl (E.2.1 q.2.1, q.2.2, .inl (B.2 q.1))))
/-- a field, a place of an array: set -/
def md_pf (B : md_B) (k : Nat) (v : Int32) : md_B := (upd B.1 k v, B.2)
def md_pa (B : md_B) (k : Nat) (i : Int32) (v : Int32) : md_B := (B.1, fun j => if j = k then upd (B.2 k) i.toNatClampNeg v else B.2 j)
theorem md_fs_i {ad : Nat → Nat} {F : Nat → Int32} {k : Nat} (h : md_ref k = false) (hk : k < 38) : (md_fs ad F)[k]? = some (.int (F k)) := by
  simp [md_fs, List.getElem?_map, List.getElem?_range hk, h]
theorem md_fs_r {ad : Nat → Nat} {F : Nat → Int32} {k : Nat} (h : md_ref k = true) (hk : k < 38) : (md_fs ad F)[k]? = some (.ref (ad k)) := by
  simp [md_fs, List.getElem?_map, List.getElem?_range hk, h]
theorem md_fs_s {ad : Nat → Nat} {F : Nat → Int32} {k : Nat} {v : Int32} (h : md_ref k = false) : (md_fs ad F).set k (.int v) = md_fs ad (upd F k v) := by
  apply List.ext_getElem?
  intro j
  rw [List.getElem?_set]
  by_cases hj : k = j
  · subst hj
    by_cases hk : k < 38
    · rw [md_fs_i h hk]
      simp [md_fs, hk, upd, h]
    · simp [md_fs, hk]
  · rw [if_neg hj]
    simp only [md_fs, List.getElem?_map]
    by_cases hk : j < 38
    · rw [List.getElem?_range hk]
      simp [upd, Ne.symm hj]
    · simp [hk]
theorem md_fs_l {ad : Nat → Nat} {F : Nat → Int32} : (md_fs ad F).length = 38 := by simp [md_fs]
theorem md_set_f {E : sv_E} {h0 : Nat} {ad : Nat → Nat} {B : md_B} {k : Nat} {v : Int32} (h : md_ref k = false) : (md_w E h0 ad B).set 0 (h0, .inr (9, (md_fs ad B.1).set k (.int v))) = md_w E h0 ad (md_pf B k v) := by
  simp [md_w, md_pf, md_fs_s h]
theorem md_at {E : sv_E} {h0 : Nat} {ad : Nat → Nat} {B : md_B} {j k t n : Nat} (h : md_arr[j]? = some (k, t, n)) : (md_w E h0 ad B)[j + 1]? = some (ad k, .inl (E.2.1 t, n, .inl (B.2 k))) := by
  simp [md_w, List.getElem?_map, h]
theorem md_one : ∀ i, i < 17 → ∀ j, j < 17 → (md_arr[i]?).map (fun q => q.1) = (md_arr[j]?).map (fun q => q.1) → i = j := by decide
theorem md_set_a {E : sv_E} {h0 : Nat} {ad : Nat → Nat} {B : md_B} {j k t n : Nat} {f : Nat → Int32} (h : md_arr[j]? = some (k, t, n)) : (md_w E h0 ad B).set (j + 1) (ad k, .inl (E.2.1 t, n, .inl f)) = md_w E h0 ad (B.1, fun i => if i = k then f else B.2 i) := by
  have hj : j < 17 := (List.getElem?_eq_some_iff.mp h).1
  simp only [md_w, List.set_cons_succ]
  congr 1
  apply List.ext_getElem?
  intro i
  rw [List.getElem?_set]
  by_cases hi : j = i
  · subst hi
    rw [if_pos rfl, if_pos (by rw [List.length_map]; exact hj), List.getElem?_map, h]
    simp
  · rw [if_neg hi, List.getElem?_map, List.getElem?_map]
    cases hq : md_arr[i]? with
    | none => rfl
    | some q =>
      have hi2 : i < 17 := (List.getElem?_eq_some_iff.mp hq).1
      have hne : q.1 ≠ k := fun e => hi (md_one j hj i hi2 (by rw [h, hq]; simp [e]))
      simp [hne]
section MDR
variable {E : sv_E} {X : sv_X} {cc : ByteArray} {own : String} {sx : List (Nat × Nat × List Int32)} {h0 : Nat} {ad : Nat → Nat} {B : md_B} {sz ce sl pc : Nat} {lv lv' : List (Nat × Value)} {st : List Value}
theorem md_geti {index k : Nat} {fin : Bool} {ty : FieldType} (C : sv_C E X cc own sx) (hF : sv_FL own index 9 k fin ty) (hk : (!md_ref k && decide (k < 38)) = true) (hd : decode cc pc = .ok (.getfield index, 3)) (kk : sv_J E X (md_w E h0 ad B) sz ce sl (pc + 3) lv (.int (B.1 k) :: st)) : sv_J E X (md_w E h0 ad B) sz ce sl pc lv (.ref h0 :: st) := by
  simp only [Bool.and_eq_true, Bool.not_eq_true', decide_eq_true_eq] at hk
  exact sv_getf C hF 0 rfl (md_fs_i hk.1 hk.2) hd kk
theorem md_getr {index k : Nat} {fin : Bool} {ty : FieldType} (C : sv_C E X cc own sx) (hF : sv_FL own index 9 k fin ty) (hk : (md_ref k && decide (k < 38)) = true) (hd : decode cc pc = .ok (.getfield index, 3)) (kk : sv_J E X (md_w E h0 ad B) sz ce sl (pc + 3) lv (.ref (ad k) :: st)) : sv_J E X (md_w E h0 ad B) sz ce sl pc lv (.ref h0 :: st) := by
  simp only [Bool.and_eq_true, decide_eq_true_eq] at hk
  exact sv_getf C hF 0 rfl (md_fs_r hk.1 hk.2) hd kk
theorem md_puti {index k : Nat} {ty : FieldType} {v : Int32} (C : sv_C E X cc own sx) (hF : sv_FL own index 9 k false ty) (hk : (!md_ref k && decide (k < 38)) = true) (hn : narrow ty (.int v) = .int v) (hfit : fits ty (.int v) = true) (hd : decode cc pc = .ok (.putfield index, 3)) (kk : sv_J E X (md_w E h0 ad (md_pf B k v)) sz ce sl (pc + 3) lv st) : sv_J E X (md_w E h0 ad B) sz ce sl pc lv (.int v :: .ref h0 :: st) := by
  simp only [Bool.and_eq_true, Bool.not_eq_true', decide_eq_true_eq] at hk
  refine sv_putf C hF 0 rfl hn hfit (by rw [md_fs_l]; exact hk.2) hd ?_
  rw [md_set_f hk.1]
  exact kk
theorem md_iald {k n : Nat} {i : Int32} (C : sv_C E X cc own sx) (j : Nat) (hj : md_arr[j]? = some (k, 1, n)) (hin : sv_inb i n = true) (hd : decode cc pc = .ok (.iaload, 1)) (kk : sv_J E X (md_w E h0 ad B) sz ce sl (pc + 1) lv (.int (B.2 k i.toNatClampNeg) :: st)) : sv_J E X (md_w E h0 ad B) sz ce sl pc lv (.int i :: .ref (ad k) :: st) := sv_iald C (j + 1) (md_at hj) hin hd kk
theorem md_zald {k n : Nat} {i : Int32} (C : sv_C E X cc own sx) (j : Nat) (hj : md_arr[j]? = some (k, 2, n)) (hin : sv_inb i n = true) (hd : decode cc pc = .ok (.baload, 1)) (kk : sv_J E X (md_w E h0 ad B) sz ce sl (pc + 1) lv (.int (B.2 k i.toNatClampNeg) :: st)) : sv_J E X (md_w E h0 ad B) sz ce sl pc lv (.int i :: .ref (ad k) :: st) := sv_zald C (j + 1) (md_at hj) hin hd kk
theorem md_iast {k n : Nat} {i x : Int32} (C : sv_C E X cc own sx) (j : Nat) (hj : md_arr[j]? = some (k, 1, n)) (hin : sv_inb i n = true) (hd : decode cc pc = .ok (.iastore, 1)) (kk : sv_J E X (md_w E h0 ad (md_pa B k i x)) sz ce sl (pc + 1) lv st) : sv_J E X (md_w E h0 ad B) sz ce sl pc lv (.int x :: .int i :: .ref (ad k) :: st) := by
  refine sv_iast C (j + 1) (md_at hj) hin hd ?_
  rw [md_set_a hj]
  exact kk
theorem md_zast {k n : Nat} {i x : Int32} (C : sv_C E X cc own sx) (j : Nat) (hj : md_arr[j]? = some (k, 2, n)) (hin : sv_inb i n = true) (hd : decode cc pc = .ok (.bastore, 1)) (kk : sv_J E X (md_w E h0 ad (md_pa B k i (vp_nar .boolean x))) sz ce sl (pc + 1) lv st) : sv_J E X (md_w E h0 ad B) sz ce sl pc lv (.int x :: .int i :: .ref (ad k) :: st) := by
  refine sv_zast C (j + 1) (md_at hj) hin hd ?_
  rw [md_set_a hj]
  exact kk
end MDR
/-! ===== pure functions that may fail: guards ===== -/
/-- fails unless b -/
def sv_g {α : Type} (b : Bool) (x : Option α) : Option α := if b = true then x else none
theorem sv_g_some {α : Type} {b : Bool} {x : Option α} {y : α} (h : sv_g b x = some y) : b = true ∧ x = some y := by
  unfold sv_g at h
  split at h
  · exact ⟨by assumption, h⟩
  · cases h
theorem sv_g_t {α : Type} {b : Bool} {x : Option α} (h : b = true) : sv_g b x = x := if_pos h
theorem sv_bind_some {α β : Type} {x : Option α} {f : α → Option β} {y : β} (h : x.bind f = some y) : ∃ a, x = some a ∧ f a = some y := by
  cases x with
  | none => cases h
  | some a => exact ⟨a, rfl, h⟩
theorem sv_if_t {α : Type} {c : Prop} [Decidable c] {a b : Option α} {y : α} (h : c) (e : (if c then a else b) = some y) : a = some y := by rw [if_pos h] at e; exact e
theorem sv_if_f {α : Type} {c : Prop} [Decidable c] {a b : Option α} {y : α} (h : ¬ c) (e : (if c then a else b) = some y) : b = some y := by rw [if_neg h] at e; exact e
/-- how often a loop may turn -/
def sv_fu : Nat := 100000
end
section
theorem fl_X0_7 : sv_FL RX0 7 0 0 true .int := ⟨RX0, TX0, 3, tyX0, rfl, sv_in0, tyX0_ok, nmX0, by decide, kw_3, rfl, by decide +kernel, rfl⟩
theorem fl_X0_13 : sv_FL RX0 13 0 1 true (.array .int) := ⟨RX0, TX0, 3, tyX0, rfl, sv_in0, tyX0_ok, nmX0, by decide, kw_5, rfl, by decide +kernel, rfl⟩
theorem fl_X0_23 : sv_FL RX0 23 0 2 false .int := ⟨RX0, TX0, 3, tyX0, rfl, sv_in0, tyX0_ok, nmX0, by decide, kw_6, rfl, by decide +kernel, rfl⟩
theorem fl_X1_11 : sv_FL RX1 11 1 0 true (.array .byte) := ⟨RX1, TX1, 4, tyX1, rfl, sv_in1, tyX1_ok, nmX1, by decide, kw_14, rfl, by decide +kernel, rfl⟩
theorem fl_X1_17 : sv_FL RX1 17 1 1 true (.array .int) := ⟨RX1, TX1, 4, tyX1, rfl, sv_in1, tyX1_ok, nmX1, by decide, kw_15, rfl, by decide +kernel, rfl⟩
theorem fl_X5_19 : sv_FL RX5 19 5 3 false .int := ⟨RX5, TX5, 6, tyX5, rfl, sv_in5, tyX5_ok, nmX5, by decide, kw_16, rfl, by decide +kernel, rfl⟩
theorem fl_X5_11 : sv_FL RX5 11 5 0 true (.array .byte) := ⟨RX5, TX5, 6, tyX5, rfl, sv_in5, tyX5_ok, nmX5, by decide, kw_17, rfl, by decide +kernel, rfl⟩
theorem fl_X1_21 : sv_FL RX1 21 1 3 false .boolean := ⟨RX1, TX1, 4, tyX1, rfl, sv_in1, tyX1_ok, nmX1, by decide, kw_19, rfl, by decide +kernel, rfl⟩
theorem fl_X1_25 : sv_FL RX1 25 1 2 false .int := ⟨RX1, TX1, 4, tyX1, rfl, sv_in1, tyX1_ok, nmX1, by decide, kw_20, rfl, by decide +kernel, rfl⟩
theorem fl_X1_29 : sv_FL RX1 29 5 3 false .int := ⟨RX5, TX5, 6, tyX5, rfl, sv_in5, tyX5_ok, nmX5, by decide, kw_21, rfl, by decide +kernel, rfl⟩
theorem fl_X2_13 : sv_FL RX2 13 2 0 true (.array (.object "SeaReceiver$Vessel")) := ⟨RX2, TX2, 2, tyX2, rfl, sv_in2, tyX2_ok, nmX2, by decide, kw_202, rfl, by decide +kernel, rfl⟩
theorem fl_X2_17 : sv_FL RX2 17 2 1 false .int := ⟨RX2, TX2, 2, tyX2, rfl, sv_in2, tyX2_ok, nmX2, by decide, kw_203, rfl, by decide +kernel, rfl⟩
theorem fl_X2_21 : sv_FL RX2 21 7 0 true (.array .int) := ⟨RX7, TX7, 3, tyX7, rfl, sv_in7, tyX7_ok, nmX7, by decide, kw_204, rfl, by decide +kernel, rfl⟩
theorem fl_X7_11 : sv_FL RX7 11 7 0 true (.array .int) := ⟨RX7, TX7, 3, tyX7, rfl, sv_in7, tyX7_ok, nmX7, by decide, kw_207, rfl, by decide +kernel, rfl⟩
theorem fl_X7_15 : sv_FL RX7 15 7 1 true (.array .int) := ⟨RX7, TX7, 3, tyX7, rfl, sv_in7, tyX7_ok, nmX7, by decide, kw_208, rfl, by decide +kernel, rfl⟩
theorem fl_X7_18 : sv_FL RX7 18 7 2 true (.array .byte) := ⟨RX7, TX7, 3, tyX7, rfl, sv_in7, tyX7_ok, nmX7, by decide, kw_209, rfl, by decide +kernel, rfl⟩
theorem fl_X3_13 : sv_FL RX3 13 3 0 true (.array (.object "SeaReceiver$BitRow")) := ⟨RX3, TX3, 3, tyX3, rfl, sv_in3, tyX3_ok, nmX3, by decide, kw_227, rfl, by decide +kernel, rfl⟩
theorem fl_X3_17 : sv_FL RX3 17 3 1 true (.array .int) := ⟨RX3, TX3, 3, tyX3, rfl, sv_in3, tyX3_ok, nmX3, by decide, kw_228, rfl, by decide +kernel, rfl⟩
theorem fl_X3_21 : sv_FL RX3 21 3 2 true (.array .int) := ⟨RX3, TX3, 3, tyX3, rfl, sv_in3, tyX3_ok, nmX3, by decide, kw_229, rfl, by decide +kernel, rfl⟩
theorem fl_X4_11 : sv_FL RX4 11 4 0 true (.array .int) := ⟨RX4, TX4, 2, tyX4, rfl, sv_in4, tyX4_ok, nmX4, by decide, kw_240, rfl, by decide +kernel, rfl⟩
theorem fl_X4_15 : sv_FL RX4 15 4 1 true (.array .int) := ⟨RX4, TX4, 2, tyX4, rfl, sv_in4, tyX4_ok, nmX4, by decide, kw_241, rfl, by decide +kernel, rfl⟩
theorem fl_X4_25 : sv_FL RX4 25 1 2 false .int := ⟨RX1, TX1, 4, tyX1, rfl, sv_in1, tyX1_ok, nmX1, by decide, kw_244, rfl, by decide +kernel, rfl⟩
theorem fl_X4_58 : sv_FL RX4 58 1 3 false .boolean := ⟨RX1, TX1, 4, tyX1, rfl, sv_in1, tyX1_ok, nmX1, by decide, kw_245, rfl, by decide +kernel, rfl⟩
theorem fl_X5_15 : sv_FL RX5 15 5 1 false .int := ⟨RX5, TX5, 6, tyX5, rfl, sv_in5, tyX5_ok, nmX5, by decide, kw_298, rfl, by decide +kernel, rfl⟩
theorem fl_X5_38 : sv_FL RX5 38 5 2 false .int := ⟨RX5, TX5, 6, tyX5, rfl, sv_in5, tyX5_ok, nmX5, by decide, kw_299, rfl, by decide +kernel, rfl⟩
theorem fl_X5_41 : sv_FL RX5 41 5 4 false .int := ⟨RX5, TX5, 6, tyX5, rfl, sv_in5, tyX5_ok, nmX5, by decide, kw_300, rfl, by decide +kernel, rfl⟩
theorem fl_X5_44 : sv_FL RX5 44 5 5 false .int := ⟨RX5, TX5, 6, tyX5, rfl, sv_in5, tyX5_ok, nmX5, by decide, kw_301, rfl, by decide +kernel, rfl⟩
theorem fl_X6_9 : sv_FL RX6 9 6 0 true (.array .byte) := ⟨RX6, TX6, 2, tyX6, rfl, sv_in6, tyX6_ok, nmX6, by decide, kw_319, rfl, by decide +kernel, rfl⟩
theorem fl_X6_15 : sv_FL RX6 15 6 1 false .int := ⟨RX6, TX6, 2, tyX6, rfl, sv_in6, tyX6_ok, nmX6, by decide, kw_320, rfl, by decide +kernel, rfl⟩
theorem fl_X8_9 : sv_FL RX8 9 8 0 true (.array .int) := ⟨RX8, TX8, 10, tyX8, rfl, sv_in8, tyX8_ok, nmX8, by decide, kw_358, rfl, by decide +kernel, rfl⟩
theorem fl_X8_18 : sv_FL RX8 18 8 1 true (.object "SeaReceiver$SignRow") := ⟨RX8, TX8, 10, tyX8, rfl, sv_in8, tyX8_ok, nmX8, by decide, kw_361, rfl, by decide +kernel, rfl⟩
theorem fl_X8_22 : sv_FL RX8 22 8 2 true (.object "SeaReceiver$SignRow") := ⟨RX8, TX8, 10, tyX8, rfl, sv_in8, tyX8_ok, nmX8, by decide, kw_362, rfl, by decide +kernel, rfl⟩
theorem fl_X8_28 : sv_FL RX8 28 8 3 true (.object "SeaReceiver$Sentence") := ⟨RX8, TX8, 10, tyX8, rfl, sv_in8, tyX8_ok, nmX8, by decide, kw_365, rfl, by decide +kernel, rfl⟩
theorem fl_X8_35 : sv_FL RX8 35 8 4 true (.object "SeaReceiver$Fields") := ⟨RX8, TX8, 10, tyX8, rfl, sv_in8, tyX8_ok, nmX8, by decide, kw_368, rfl, by decide +kernel, rfl⟩
theorem fl_X8_42 : sv_FL RX8 42 8 5 true (.object "SeaReceiver$Position") := ⟨RX8, TX8, 10, tyX8, rfl, sv_in8, tyX8_ok, nmX8, by decide, kw_371, rfl, by decide +kernel, rfl⟩
theorem fl_X8_49 : sv_FL RX8 49 8 6 true (.object "SeaReceiver$Parts") := ⟨RX8, TX8, 10, tyX8, rfl, sv_in8, tyX8_ok, nmX8, by decide, kw_375, rfl, by decide +kernel, rfl⟩
theorem fl_X8_56 : sv_FL RX8 56 8 7 true (.object "SeaReceiver$BitRow") := ⟨RX8, TX8, 10, tyX8, rfl, sv_in8, tyX8_ok, nmX8, by decide, kw_377, rfl, by decide +kernel, rfl⟩
theorem fl_X8_63 : sv_FL RX8 63 8 8 true (.object "SeaReceiver$Fleet") := ⟨RX8, TX8, 10, tyX8, rfl, sv_in8, tyX8_ok, nmX8, by decide, kw_380, rfl, by decide +kernel, rfl⟩
theorem fl_X8_67 : sv_FL RX8 67 8 9 true (.object "SeaReceiver$BitRow") := ⟨RX8, TX8, 10, tyX8, rfl, sv_in8, tyX8_ok, nmX8, by decide, kw_381, rfl, by decide +kernel, rfl⟩
theorem fl_X8_78 : sv_FL RX8 78 6 1 false .int := ⟨RX6, TX6, 2, tyX6, rfl, sv_in6, tyX6_ok, nmX6, by decide, kw_398, rfl, by decide +kernel, rfl⟩
theorem fl_X8_132 : sv_FL RX8 132 0 2 false .int := ⟨RX0, TX0, 3, tyX0, rfl, sv_in0, tyX0_ok, nmX0, by decide, kw_415, rfl, by decide +kernel, rfl⟩
theorem fl_X8_208 : sv_FL RX8 208 1 2 false .int := ⟨RX1, TX1, 4, tyX1, rfl, sv_in1, tyX1_ok, nmX1, by decide, kw_428, rfl, by decide +kernel, rfl⟩
theorem fl_X8_227 : sv_FL RX8 227 1 3 false .boolean := ⟨RX1, TX1, 4, tyX1, rfl, sv_in1, tyX1_ok, nmX1, by decide, kw_429, rfl, by decide +kernel, rfl⟩
theorem fl_X8_178 : sv_FL RX8 178 5 4 false .int := ⟨RX5, TX5, 6, tyX5, rfl, sv_in5, tyX5_ok, nmX5, by decide, kw_458, rfl, by decide +kernel, rfl⟩
theorem fl_X8_181 : sv_FL RX8 181 5 5 false .int := ⟨RX5, TX5, 6, tyX5, rfl, sv_in5, tyX5_ok, nmX5, by decide, kw_459, rfl, by decide +kernel, rfl⟩
theorem fl_X8_188 : sv_FL RX8 188 5 2 false .int := ⟨RX5, TX5, 6, tyX5, rfl, sv_in5, tyX5_ok, nmX5, by decide, kw_460, rfl, by decide +kernel, rfl⟩
theorem fl_X8_93 : sv_FL RX8 93 2 1 false .int := ⟨RX2, TX2, 2, tyX2, rfl, sv_in2, tyX2_ok, nmX2, by decide, kw_497, rfl, by decide +kernel, rfl⟩
theorem fl_X8_107 : sv_FL RX8 107 4 0 true (.array .int) := ⟨RX4, TX4, 2, tyX4, rfl, sv_in4, tyX4_ok, nmX4, by decide, kw_508, rfl, by decide +kernel, rfl⟩
theorem fl_X8_120 : sv_FL RX8 120 7 0 true (.array .int) := ⟨RX7, TX7, 3, tyX7, rfl, sv_in7, tyX7_ok, nmX7, by decide, kw_512, rfl, by decide +kernel, rfl⟩
theorem fl_X8_125 : sv_FL RX8 125 7 1 true (.array .int) := ⟨RX7, TX7, 3, tyX7, rfl, sv_in7, tyX7_ok, nmX7, by decide, kw_513, rfl, by decide +kernel, rfl⟩
theorem fl_X9_1 : sv_FL RX9 1 9 0 false .int := ⟨RX9, TX9, 38, tyX9, rfl, sv_in9, tyX9_ok, nmX9, by decide, kw_555, rfl, by decide +kernel, rfl⟩
theorem fl_X9_90 : sv_FL RX9 90 9 5 false .int := ⟨RX9, TX9, 38, tyX9, rfl, sv_in9, tyX9_ok, nmX9, by decide, kw_556, rfl, by decide +kernel, rfl⟩
theorem fl_X9_93 : sv_FL RX9 93 9 7 false .int := ⟨RX9, TX9, 38, tyX9, rfl, sv_in9, tyX9_ok, nmX9, by decide, kw_557, rfl, by decide +kernel, rfl⟩
theorem fl_X9_289 : sv_FL RX9 289 9 28 false .int := ⟨RX9, TX9, 38, tyX9, rfl, sv_in9, tyX9_ok, nmX9, by decide, kw_558, rfl, by decide +kernel, rfl⟩
theorem fl_X9_280 : sv_FL RX9 280 9 27 false .boolean := ⟨RX9, TX9, 38, tyX9, rfl, sv_in9, tyX9_ok, nmX9, by decide, kw_559, rfl, by decide +kernel, rfl⟩
theorem fl_X9_23 : sv_FL RX9 23 9 10 true (.array .int) := ⟨RX9, TX9, 38, tyX9, rfl, sv_in9, tyX9_ok, nmX9, by decide, kw_560, rfl, by decide +kernel, rfl⟩
theorem fl_X9_35 : sv_FL RX9 35 9 16 true (.array .int) := ⟨RX9, TX9, 38, tyX9, rfl, sv_in9, tyX9_ok, nmX9, by decide, kw_561, rfl, by decide +kernel, rfl⟩
theorem fl_X9_41 : sv_FL RX9 41 9 22 true (.array .int) := ⟨RX9, TX9, 38, tyX9, rfl, sv_in9, tyX9_ok, nmX9, by decide, kw_563, rfl, by decide +kernel, rfl⟩
theorem fl_X9_44 : sv_FL RX9 44 9 23 true (.array .int) := ⟨RX9, TX9, 38, tyX9, rfl, sv_in9, tyX9_ok, nmX9, by decide, kw_564, rfl, by decide +kernel, rfl⟩
theorem fl_X9_13 : sv_FL RX9 13 9 1 true (.array .int) := ⟨RX9, TX9, 38, tyX9, rfl, sv_in9, tyX9_ok, nmX9, by decide, kw_566, rfl, by decide +kernel, rfl⟩
theorem fl_X9_17 : sv_FL RX9 17 9 3 true (.array .int) := ⟨RX9, TX9, 38, tyX9, rfl, sv_in9, tyX9_ok, nmX9, by decide, kw_567, rfl, by decide +kernel, rfl⟩
theorem fl_X9_20 : sv_FL RX9 20 9 6 true (.array .int) := ⟨RX9, TX9, 38, tyX9, rfl, sv_in9, tyX9_ok, nmX9, by decide, kw_568, rfl, by decide +kernel, rfl⟩
theorem fl_X9_26 : sv_FL RX9 26 9 11 true (.array .int) := ⟨RX9, TX9, 38, tyX9, rfl, sv_in9, tyX9_ok, nmX9, by decide, kw_569, rfl, by decide +kernel, rfl⟩
theorem fl_X9_29 : sv_FL RX9 29 9 12 true (.array .int) := ⟨RX9, TX9, 38, tyX9, rfl, sv_in9, tyX9_ok, nmX9, by decide, kw_570, rfl, by decide +kernel, rfl⟩
theorem fl_X9_32 : sv_FL RX9 32 9 15 true (.array .int) := ⟨RX9, TX9, 38, tyX9, rfl, sv_in9, tyX9_ok, nmX9, by decide, kw_571, rfl, by decide +kernel, rfl⟩
theorem fl_X9_38 : sv_FL RX9 38 9 21 true (.array .int) := ⟨RX9, TX9, 38, tyX9, rfl, sv_in9, tyX9_ok, nmX9, by decide, kw_572, rfl, by decide +kernel, rfl⟩
theorem fl_X9_48 : sv_FL RX9 48 9 24 true (.array .boolean) := ⟨RX9, TX9, 38, tyX9, rfl, sv_in9, tyX9_ok, nmX9, by decide, kw_575, rfl, by decide +kernel, rfl⟩
theorem fl_X9_52 : sv_FL RX9 52 9 25 true (.array .boolean) := ⟨RX9, TX9, 38, tyX9, rfl, sv_in9, tyX9_ok, nmX9, by decide, kw_576, rfl, by decide +kernel, rfl⟩
theorem fl_X9_55 : sv_FL RX9 55 9 29 true (.array .int) := ⟨RX9, TX9, 38, tyX9, rfl, sv_in9, tyX9_ok, nmX9, by decide, kw_577, rfl, by decide +kernel, rfl⟩
theorem fl_X9_58 : sv_FL RX9 58 9 30 true (.array .int) := ⟨RX9, TX9, 38, tyX9, rfl, sv_in9, tyX9_ok, nmX9, by decide, kw_578, rfl, by decide +kernel, rfl⟩
theorem fl_X9_61 : sv_FL RX9 61 9 31 true (.array .int) := ⟨RX9, TX9, 38, tyX9, rfl, sv_in9, tyX9_ok, nmX9, by decide, kw_579, rfl, by decide +kernel, rfl⟩
theorem fl_X9_64 : sv_FL RX9 64 9 35 true (.array .boolean) := ⟨RX9, TX9, 38, tyX9, rfl, sv_in9, tyX9_ok, nmX9, by decide, kw_580, rfl, by decide +kernel, rfl⟩
theorem fl_X9_70 : sv_FL RX9 70 9 2 false .int := ⟨RX9, TX9, 38, tyX9, rfl, sv_in9, tyX9_ok, nmX9, by decide, kw_586, rfl, by decide +kernel, rfl⟩
theorem fl_X9_149 : sv_FL RX9 149 9 14 false .boolean := ⟨RX9, TX9, 38, tyX9, rfl, sv_in9, tyX9_ok, nmX9, by decide, kw_611, rfl, by decide +kernel, rfl⟩
theorem fl_X9_113 : sv_FL RX9 113 9 13 false .int := ⟨RX9, TX9, 38, tyX9, rfl, sv_in9, tyX9_ok, nmX9, by decide, kw_664, rfl, by decide +kernel, rfl⟩
theorem fl_X9_248 : sv_FL RX9 248 9 17 false .int := ⟨RX9, TX9, 38, tyX9, rfl, sv_in9, tyX9_ok, nmX9, by decide, kw_673, rfl, by decide +kernel, rfl⟩
theorem fl_X9_251 : sv_FL RX9 251 9 18 false .int := ⟨RX9, TX9, 38, tyX9, rfl, sv_in9, tyX9_ok, nmX9, by decide, kw_674, rfl, by decide +kernel, rfl⟩
theorem fl_X9_254 : sv_FL RX9 254 9 19 false .int := ⟨RX9, TX9, 38, tyX9, rfl, sv_in9, tyX9_ok, nmX9, by decide, kw_675, rfl, by decide +kernel, rfl⟩
theorem fl_X9_259 : sv_FL RX9 259 9 20 false .int := ⟨RX9, TX9, 38, tyX9, rfl, sv_in9, tyX9_ok, nmX9, by decide, kw_676, rfl, by decide +kernel, rfl⟩
theorem fl_X9_352 : sv_FL RX9 352 9 36 false .int := ⟨RX9, TX9, 38, tyX9, rfl, sv_in9, tyX9_ok, nmX9, by decide, kw_701, rfl, by decide +kernel, rfl⟩
theorem fl_X9_300 : sv_FL RX9 300 9 34 false .int := ⟨RX9, TX9, 38, tyX9, rfl, sv_in9, tyX9_ok, nmX9, by decide, kw_702, rfl, by decide +kernel, rfl⟩
theorem fl_X9_303 : sv_FL RX9 303 9 33 false .boolean := ⟨RX9, TX9, 38, tyX9, rfl, sv_in9, tyX9_ok, nmX9, by decide, kw_703, rfl, by decide +kernel, rfl⟩
theorem fl_X9_306 : sv_FL RX9 306 9 32 false .int := ⟨RX9, TX9, 38, tyX9, rfl, sv_in9, tyX9_ok, nmX9, by decide, kw_704, rfl, by decide +kernel, rfl⟩
theorem fl_X9_277 : sv_FL RX9 277 9 26 false .int := ⟨RX9, TX9, 38, tyX9, rfl, sv_in9, tyX9_ok, nmX9, by decide, kw_740, rfl, by decide +kernel, rfl⟩
theorem fl_X9_107 : sv_FL RX9 107 9 9 false .int := ⟨RX9, TX9, 38, tyX9, rfl, sv_in9, tyX9_ok, nmX9, by decide, kw_762, rfl, by decide +kernel, rfl⟩
theorem fl_X9_96 : sv_FL RX9 96 9 8 false .int := ⟨RX9, TX9, 38, tyX9, rfl, sv_in9, tyX9_ok, nmX9, by decide, kw_763, rfl, by decide +kernel, rfl⟩
theorem fl_X9_338 : sv_FL RX9 338 9 4 false .int := ⟨RX9, TX9, 38, tyX9, rfl, sv_in9, tyX9_ok, nmX9, by decide, kw_790, rfl, by decide +kernel, rfl⟩
theorem fl_X9_355 : sv_FL RX9 355 9 37 false .int := ⟨RX9, TX9, 38, tyX9, rfl, sv_in9, tyX9_ok, nmX9, by decide, kw_799, rfl, by decide +kernel, rfl⟩
theorem ms_X0_17 : sv_MS RX0 17 yJ7_fill_53178 cJ7_fill_53178 4 none 2 := ⟨⟨kw_7, kw_8, kw_9, kw_10⟩, by decide, by decide, by decide +kernel⟩
theorem mv_X1_32 : sv_MV RX1 32 yX5_at cX5_at 2 (some .int) 1 := sv_mkV kw_22 kw_23 kw_24 kw_25 kw_26 ⟨by decide, by decide, by decide +kernel⟩
theorem ms_J0_1059 : sv_MS RJ0 1059 yJ3_checkIndex_8e157 cJ3_checkIndex_8e157 3 (some .int) 3 := ⟨⟨kw_30, kw_31, kw_32, kw_33⟩, by decide, by decide, by decide +kernel⟩
theorem ms_J1_9 : sv_MS RJ1 9 yJ0_checkIndex_df160 cJ0_checkIndex_df160 2 none 2 := ⟨⟨kw_34, kw_35, kw_36, kw_37⟩, by decide, by decide, by decide +kernel⟩
theorem ms_J2_48 : sv_MS RJ2 48 yJ2_length_9d52b cJ2_length_9d52b 1 (some .int) 1 := ⟨⟨kw_38, kw_39, kw_40, kw_41⟩, by decide, by decide, by decide +kernel⟩
theorem ms_J2_414 : sv_MS RJ2 414 yJ0_checkIndex_df160 cJ0_checkIndex_df160 2 none 2 := ⟨⟨kw_42, kw_35, kw_36, kw_37⟩, by decide, by decide, by decide +kernel⟩
theorem ms_J2_67 : sv_MS RJ2 67 yJ2_checkIndex_2214a cJ2_checkIndex_2214a 2 none 2 := ⟨⟨kw_46, kw_47, kw_40, kw_48⟩, by decide, by decide, by decide +kernel⟩
theorem ms_J2_71 : sv_MS RJ2 71 yJ2_getChar_3b067 cJ2_getChar_3b067 2 (some .char) 2 := ⟨⟨kw_49, kw_50, kw_40, kw_51⟩, by decide, by decide, by decide +kernel⟩
theorem mv_J0_492 : sv_MV RJ0 492 yJ0_isLatin1_aae02 cJ0_isLatin1_aae02 1 (some .boolean) 0 := sv_mkV kw_53 kw_54 kw_55 kw_36 kw_56 ⟨by decide, by decide, by decide +kernel⟩
theorem ms_J0_495 : sv_MS RJ0 495 yJ1_charAt_3b067 cJ1_charAt_3b067 2 (some .char) 2 := ⟨⟨kw_57, kw_58, kw_59, kw_60⟩, by decide, by decide, by decide +kernel⟩
theorem ms_J0_498 : sv_MS RJ0 498 yJ2_charAt_3b067 cJ2_charAt_3b067 2 (some .char) 2 := ⟨⟨kw_61, kw_62, kw_40, kw_63⟩, by decide, by decide, by decide +kernel⟩
theorem mv_X1_53 : sv_MV RX1 53 yJ0_charAt_5068e cJ0_charAt_5068e 2 (some .char) 1 := sv_mkV kw_64 kw_65 kw_66 kw_36 kw_67 ⟨by decide, by decide, by decide +kernel⟩
theorem mv_X1_36 : sv_MV RX1 36 yX1_to cX1_to 2 (some .int) 1 := sv_mkV kw_68 kw_69 kw_70 kw_71 kw_72 ⟨by decide, by decide, by decide +kernel⟩
theorem mv_X1_41 : sv_MV RX1 41 yX1_isForm cX1_isForm 2 (some .boolean) 1 := sv_mkV kw_73 kw_74 kw_75 kw_71 kw_76 ⟨by decide, by decide, by decide +kernel⟩
theorem mv_X1_59 : sv_MV RX1 59 yX1_from cX1_from 2 (some .int) 1 := sv_mkV kw_77 kw_78 kw_79 kw_71 kw_80 ⟨by decide, by decide, by decide +kernel⟩
theorem mv_X1_63 : sv_MV RX1 63 yX1_digitAt cX1_digitAt 3 (some .int) 1 := sv_mkV kw_82 kw_83 kw_84 kw_71 kw_85 ⟨by decide, by decide, by decide +kernel⟩
theorem mv_X1_66 : sv_MV RX1 66 yX1_wrong cX1_wrong 1 (some .int) 0 := sv_mkV kw_86 kw_87 kw_88 kw_71 kw_89 ⟨by decide, by decide, by decide +kernel⟩
theorem mv_J0_335 : sv_MV RJ0 335 yJ0_coder_7d493 cJ0_coder_7d493 1 (some .byte) 0 := sv_mkV kw_90 kw_91 kw_92 kw_36 kw_93 ⟨by decide, by decide, by decide +kernel⟩
theorem ms_J1_88 : sv_MS RJ1 88 yJ1_canEncode_9a6ad cJ1_canEncode_9a6ad 1 (some .boolean) 1 := ⟨⟨kw_101, kw_102, kw_59, kw_103⟩, by decide, by decide, by decide +kernel⟩
theorem ms_J1_95 : sv_MS RJ1 95 yJ1_indexOfChar_4cfef cJ1_indexOfChar_4cfef 6 (some .int) 4 := ⟨⟨kw_104, kw_105, kw_59, kw_106⟩, by decide, by decide, by decide +kernel⟩
theorem ms_J0_1062 : sv_MS RJ0 1062 yJ3_checkFromToIndex_8c36e cJ3_checkFromToIndex_8c36e 4 (some .int) 4 := ⟨⟨kw_107, kw_108, kw_32, kw_109⟩, by decide, by decide, by decide +kernel⟩
theorem ms_J2_241 : sv_MS RJ2 241 yJ0_checkBoundsBeginEnd_23922 cJ0_checkBoundsBeginEnd_23922 3 none 3 := ⟨⟨kw_110, kw_111, kw_36, kw_112⟩, by decide, by decide, by decide +kernel⟩
theorem ms_J2_96 : sv_MS RJ2 96 yJ2_checkBoundsBeginEnd_d044e cJ2_checkBoundsBeginEnd_d044e 3 none 3 := ⟨⟨kw_113, kw_114, kw_40, kw_115⟩, by decide, by decide, by decide +kernel⟩
theorem ms_J2_244 : sv_MS RJ2 244 yJ2_indexOfCharUnsafe_4cfef cJ2_indexOfCharUnsafe_4cfef 5 (some .int) 4 := ⟨⟨kw_116, kw_117, kw_40, kw_118⟩, by decide, by decide, by decide +kernel⟩
theorem ms_J2_164 : sv_MS RJ2 164 yJ11_isValidCodePoint_9a6ad cJ11_isValidCodePoint_9a6ad 2 (some .boolean) 1 := ⟨⟨kw_121, kw_122, kw_123, kw_124⟩, by decide, by decide, by decide +kernel⟩
theorem ms_J2_157 : sv_MS RJ2 157 yJ11_highSurrogate_5068e cJ11_highSurrogate_5068e 1 (some .char) 1 := ⟨⟨kw_125, kw_126, kw_123, kw_127⟩, by decide, by decide, by decide +kernel⟩
theorem ms_J2_161 : sv_MS RJ2 161 yJ11_lowSurrogate_5068e cJ11_lowSurrogate_5068e 1 (some .char) 1 := ⟨⟨kw_128, kw_129, kw_123, kw_130⟩, by decide, by decide, by decide +kernel⟩
theorem ms_J2_228 : sv_MS RJ2 228 yJ2_indexOfChar_4cfef cJ2_indexOfChar_4cfef 4 (some .int) 4 := ⟨⟨kw_134, kw_135, kw_40, kw_136⟩, by decide, by decide, by decide +kernel⟩
theorem ms_J2_232 : sv_MS RJ2 232 yJ2_indexOfSupplementary_4cfef cJ2_indexOfSupplementary_4cfef 7 (some .int) 4 := ⟨⟨kw_137, kw_138, kw_40, kw_139⟩, by decide, by decide, by decide +kernel⟩
theorem mv_J0_505 : sv_MV RJ0 505 yJ0_length_8abf5 cJ0_length_8abf5 1 (some .int) 0 := sv_mkV kw_140 kw_141 kw_142 kw_36 kw_143 ⟨by decide, by decide, by decide +kernel⟩
theorem ms_J0_637 : sv_MS RJ0 637 yJ1_indexOf_4cfef cJ1_indexOf_4cfef 4 (some .int) 4 := ⟨⟨kw_144, kw_145, kw_59, kw_146⟩, by decide, by decide, by decide +kernel⟩
theorem ms_J0_640 : sv_MS RJ0 640 yJ2_indexOf_4cfef cJ2_indexOf_4cfef 4 (some .int) 4 := ⟨⟨kw_147, kw_148, kw_40, kw_149⟩, by decide, by decide, by decide +kernel⟩
theorem mv_J0_633 : sv_MV RJ0 633 yJ0_indexOf_7cf53 cJ0_indexOf_7cf53 3 (some .int) 2 := sv_mkV kw_150 kw_151 kw_152 kw_36 kw_153 ⟨by decide, by decide, by decide +kernel⟩
theorem mv_X1_70 : sv_MV RX1 70 yX1_isEmpty cX1_isEmpty 2 (some .boolean) 1 := sv_mkV kw_154 kw_155 kw_156 kw_71 kw_157 ⟨by decide, by decide, by decide +kernel⟩
theorem mv_X1_74 : sv_MV RX1 74 yX1_at cX1_at 2 (some .int) 1 := sv_mkV kw_158 kw_159 kw_160 kw_71 kw_161 ⟨by decide, by decide, by decide +kernel⟩
theorem mv_X1_75 : sv_MV RX1 75 yJ0_indexOf_0f7a4 cJ0_indexOf_0f7a4 2 (some .int) 1 := sv_mkV kw_162 kw_163 kw_164 kw_36 kw_165 ⟨by decide, by decide, by decide +kernel⟩
theorem mv_X1_78 : sv_MV RX1 78 yX1_digits cX1_digits 13 (some .int) 6 := sv_mkV kw_166 kw_167 kw_168 kw_71 kw_169 ⟨by decide, by decide, by decide +kernel⟩
theorem mv_X1_82 : sv_MV RX1 82 yX1_decimal cX1_decimal 4 (some .int) 3 := sv_mkV kw_170 kw_171 kw_172 kw_71 kw_173 ⟨by decide, by decide, by decide +kernel⟩
theorem mv_X1_87 : sv_MV RX1 87 yX1_onSide cX1_onSide 6 (some .int) 4 := sv_mkV kw_175 kw_176 kw_177 kw_71 kw_178 ⟨by decide, by decide, by decide +kernel⟩
theorem mv_X1_95 : sv_MV RX1 95 yX1_whole cX1_whole 4 (some .int) 3 := sv_mkV kw_183 kw_184 kw_185 kw_71 kw_186 ⟨by decide, by decide, by decide +kernel⟩
theorem mv_X1_99 : sv_MV RX1 99 yX1_angle cX1_angle 7 (some .int) 3 := sv_mkV kw_190 kw_191 kw_192 kw_71 kw_193 ⟨by decide, by decide, by decide +kernel⟩
theorem mv_X1_105 : sv_MV RX1 105 yX0_append cX0_append 8 none 2 := sv_mkV kw_195 kw_196 kw_197 kw_198 kw_199 ⟨by decide, by decide, by decide +kernel⟩
theorem ms_X7_35 : sv_MS RX7 35 yJ7_fill_53178 cJ7_fill_53178 4 none 2 := ⟨⟨kw_211, kw_8, kw_9, kw_10⟩, by decide, by decide, by decide +kernel⟩
theorem mv_X2_26 : sv_MV RX2 26 yX2_numberOf cX2_numberOf 3 (some .int) 1 := sv_mkV kw_214 kw_215 kw_216 kw_217 kw_218 ⟨by decide, by decide, by decide +kernel⟩
theorem mv_X2_31 : sv_MV RX2 31 yX7_begin cX7_begin 2 none 1 := sv_mkV kw_221 kw_222 kw_223 kw_213 kw_224 ⟨by decide, by decide, by decide +kernel⟩
theorem ms_X3_24 : sv_MS RX3 24 yJ7_fill_53178 cJ7_fill_53178 4 none 2 := ⟨⟨kw_230, kw_8, kw_9, kw_10⟩, by decide, by decide, by decide +kernel⟩
theorem mv_X3_33 : sv_MV RX3 33 yX0_empty cX0_empty 1 none 0 := sv_mkV kw_235 kw_236 kw_237 kw_198 kw_238 ⟨by decide, by decide, by decide +kernel⟩
theorem ms_X4_19 : sv_MS RX4 19 yJ7_fill_53178 cJ7_fill_53178 4 none 2 := ⟨⟨kw_243, kw_8, kw_9, kw_10⟩, by decide, by decide, by decide +kernel⟩
theorem mv_X4_31 : sv_MV RX4 31 yX1_time cX1_time 6 (some .int) 1 := sv_mkV kw_247 kw_248 kw_249 kw_71 kw_250 ⟨by decide, by decide, by decide +kernel⟩
theorem mv_X4_35 : sv_MV RX4 35 yX1_latitude cX1_latitude 2 (some .int) 1 := sv_mkV kw_251 kw_252 kw_253 kw_71 kw_254 ⟨by decide, by decide, by decide +kernel⟩
theorem mv_X4_38 : sv_MV RX4 38 yX1_longitude cX1_longitude 2 (some .int) 1 := sv_mkV kw_255 kw_256 kw_257 kw_71 kw_258 ⟨by decide, by decide, by decide +kernel⟩
theorem mv_X4_41 : sv_MV RX4 41 yX1_digit cX1_digit 6 (some .int) 3 := sv_mkV kw_259 kw_260 kw_261 kw_71 kw_262 ⟨by decide, by decide, by decide +kernel⟩
theorem mv_X4_45 : sv_MV RX4 45 yX1_whole cX1_whole 4 (some .int) 3 := sv_mkV kw_263 kw_184 kw_185 kw_71 kw_186 ⟨by decide, by decide, by decide +kernel⟩
theorem mv_X4_48 : sv_MV RX4 48 yX1_decimal cX1_decimal 4 (some .int) 3 := sv_mkV kw_264 kw_171 kw_172 kw_71 kw_173 ⟨by decide, by decide, by decide +kernel⟩
theorem mv_X4_51 : sv_MV RX4 51 yX1_signed cX1_signed 5 (some .int) 3 := sv_mkV kw_265 kw_266 kw_267 kw_71 kw_268 ⟨by decide, by decide, by decide +kernel⟩
theorem mv_X4_54 : sv_MV RX4 54 yX1_checkUnit cX1_checkUnit 4 none 2 := sv_mkV kw_269 kw_270 kw_271 kw_71 kw_272 ⟨by decide, by decide, by decide +kernel⟩
theorem mv_X4_65 : sv_MV RX4 65 yX4_settle cX4_settle 4 (some .boolean) 2 := sv_mkV kw_273 kw_274 kw_275 kw_276 kw_277 ⟨by decide, by decide, by decide +kernel⟩
theorem mv_X4_69 : sv_MV RX4 69 yX1_isEmpty cX1_isEmpty 2 (some .boolean) 1 := sv_mkV kw_279 kw_155 kw_156 kw_71 kw_157 ⟨by decide, by decide, by decide +kernel⟩
theorem mv_X4_75 : sv_MV RX4 75 yX1_oneOf cX1_oneOf 5 (some .int) 2 := sv_mkV kw_280 kw_281 kw_282 kw_71 kw_283 ⟨by decide, by decide, by decide +kernel⟩
theorem mv_X4_79 : sv_MV RX4 79 yX1_course cX1_course 3 (some .int) 1 := sv_mkV kw_284 kw_285 kw_286 kw_71 kw_287 ⟨by decide, by decide, by decide +kernel⟩
theorem mv_X4_82 : sv_MV RX4 82 yX1_date cX1_date 6 (some .int) 1 := sv_mkV kw_288 kw_289 kw_290 kw_71 kw_291 ⟨by decide, by decide, by decide +kernel⟩
theorem mv_X4_85 : sv_MV RX4 85 yX1_variation cX1_variation 3 (some .int) 1 := sv_mkV kw_292 kw_293 kw_294 kw_71 kw_295 ⟨by decide, by decide, by decide +kernel⟩
theorem mv_X5_27 : sv_MV RX5 27 yX5_step cX5_step 3 (some .int) 2 := sv_mkV kw_302 kw_303 kw_304 kw_25 kw_305 ⟨by decide, by decide, by decide +kernel⟩
theorem mv_X5_23 : sv_MV RX5 23 yX5_begin cX5_begin 3 (some .int) 1 := sv_mkV kw_306 kw_307 kw_308 kw_25 kw_309 ⟨by decide, by decide, by decide +kernel⟩
theorem mv_X5_31 : sv_MV RX5 31 yX5_store cX5_store 2 (some .int) 1 := sv_mkV kw_310 kw_311 kw_312 kw_25 kw_313 ⟨by decide, by decide, by decide +kernel⟩
theorem mv_X5_34 : sv_MV RX5 34 yX5_hearDigit cX5_hearDigit 3 (some .int) 2 := sv_mkV kw_314 kw_315 kw_316 kw_25 kw_317 ⟨by decide, by decide, by decide +kernel⟩
theorem mv_X6_19 : sv_MV RX6 19 yX6_add cX6_add 2 none 1 := sv_mkV kw_321 kw_322 kw_323 kw_324 kw_325 ⟨by decide, by decide, by decide +kernel⟩
theorem mv_X6_23 : sv_MV RX6 23 yJ0_length_8abf5 cJ0_length_8abf5 1 (some .int) 0 := sv_mkV kw_326 kw_141 kw_142 kw_36 kw_143 ⟨by decide, by decide, by decide +kernel⟩
theorem mv_X6_29 : sv_MV RX6 29 yJ0_charAt_5068e cJ0_charAt_5068e 2 (some .char) 1 := sv_mkV kw_327 kw_65 kw_66 kw_36 kw_67 ⟨by decide, by decide, by decide +kernel⟩
theorem mv_X7_49 : sv_MV RX7 49 yX0_read cX0_read 6 (some .int) 2 := sv_mkV kw_333 kw_334 kw_335 kw_198 kw_336 ⟨by decide, by decide, by decide +kernel⟩
theorem ms_X7_41 : sv_MS RX7 41 yX7_layoutOf cX7_layoutOf 1 (some (.array .int)) 1 := ⟨⟨kw_337, kw_338, kw_213, kw_339⟩, by decide, by decide, by decide +kernel⟩
theorem mv_X7_45 : sv_MV RX7 45 yX7_learnText cX7_learnText 8 none 4 := sv_mkV kw_340 kw_341 kw_342 kw_213 kw_343 ⟨by decide, by decide, by decide +kernel⟩
theorem ms_X7_55 : sv_MS RX7 55 yX7_hasSign cX7_hasSign 1 (some .boolean) 1 := ⟨⟨kw_344, kw_345, kw_213, kw_346⟩, by decide, by decide, by decide +kernel⟩
theorem mv_X7_70 : sv_MV RX7 70 yX7_signOf cX7_signOf 3 (some .int) 2 := sv_mkV kw_347 kw_348 kw_349 kw_213 kw_350 ⟨by decide, by decide, by decide +kernel⟩
theorem mv_X7_62 : sv_MV RX7 62 yX0_append cX0_append 8 none 2 := sv_mkV kw_351 kw_196 kw_197 kw_198 kw_199 ⟨by decide, by decide, by decide +kernel⟩
theorem mv_X7_59 : sv_MV RX7 59 yX0_empty cX0_empty 1 none 0 := sv_mkV kw_352 kw_236 kw_237 kw_198 kw_238 ⟨by decide, by decide, by decide +kernel⟩
theorem mv_X7_66 : sv_MV RX7 66 yX7_tellText cX7_tellText 7 none 3 := sv_mkV kw_353 kw_354 kw_355 kw_213 kw_356 ⟨by decide, by decide, by decide +kernel⟩
theorem mv_X8_70 : sv_MV RX8 70 yX6_hasRoom cX6_hasRoom 2 (some .boolean) 1 := sv_mkV kw_399 kw_400 kw_401 kw_324 kw_402 ⟨by decide, by decide, by decide +kernel⟩
theorem mv_X8_75 : sv_MV RX8 75 yX6_addWord cX6_addWord 2 none 1 := sv_mkV kw_403 kw_404 kw_405 kw_324 kw_406 ⟨by decide, by decide, by decide +kernel⟩
theorem mv_X8_247 : sv_MV RX8 247 yX3_drop cX3_drop 2 (some .boolean) 1 := sv_mkV kw_407 kw_408 kw_409 kw_374 kw_410 ⟨by decide, by decide, by decide +kernel⟩
theorem mv_X8_253 : sv_MV RX8 253 yX3_awaits cX3_awaits 4 (some .boolean) 3 := sv_mkV kw_411 kw_412 kw_413 kw_374 kw_414 ⟨by decide, by decide, by decide +kernel⟩
theorem mv_X8_137 : sv_MV RX8 137 yX0_read cX0_read 6 (some .int) 2 := sv_mkV kw_416 kw_334 kw_335 kw_198 kw_336 ⟨by decide, by decide, by decide +kernel⟩
theorem ms_X8_256 : sv_MS RX8 256 yX7_bitsOf cX7_bitsOf 1 (some .int) 1 := ⟨⟨kw_417, kw_418, kw_213, kw_419⟩, by decide, by decide, by decide +kernel⟩
theorem mv_X8_259 : sv_MV RX8 259 yX2_vesselOf cX2_vesselOf 3 (some (.object "SeaReceiver$Vessel")) 1 := sv_mkV kw_420 kw_421 kw_422 kw_217 kw_423 ⟨by decide, by decide, by decide +kernel⟩
theorem mv_X8_262 : sv_MV RX8 262 yX7_learn cX7_learn 9 none 2 := sv_mkV kw_424 kw_425 kw_426 kw_213 kw_427 ⟨by decide, by decide, by decide +kernel⟩
theorem mv_X8_211 : sv_MV RX8 211 yX1_digit cX1_digit 6 (some .int) 3 := sv_mkV kw_430 kw_260 kw_261 kw_71 kw_262 ⟨by decide, by decide, by decide +kernel⟩
theorem mv_X8_215 : sv_MV RX8 215 yX1_isEmpty cX1_isEmpty 2 (some .boolean) 1 := sv_mkV kw_431 kw_155 kw_156 kw_71 kw_157 ⟨by decide, by decide, by decide +kernel⟩
theorem mv_X8_220 : sv_MV RX8 220 yX1_oneOf cX1_oneOf 5 (some .int) 2 := sv_mkV kw_432 kw_281 kw_282 kw_71 kw_283 ⟨by decide, by decide, by decide +kernel⟩
theorem mv_X8_224 : sv_MV RX8 224 yX1_checkPack cX1_checkPack 6 none 1 := sv_mkV kw_433 kw_434 kw_435 kw_71 kw_436 ⟨by decide, by decide, by decide +kernel⟩
theorem mv_X8_231 : sv_MV RX8 231 yX8_isInOrder cX8_isInOrder 4 (some .boolean) 3 := sv_mkV kw_437 kw_438 kw_439 kw_440 kw_441 ⟨by decide, by decide, by decide +kernel⟩
theorem mv_X8_235 : sv_MV RX8 235 yX3_keep cX3_keep 4 (some (.object "SeaReceiver$BitRow")) 2 := sv_mkV kw_442 kw_443 kw_444 kw_374 kw_445 ⟨by decide, by decide, by decide +kernel⟩
theorem mv_X8_239 : sv_MV RX8 239 yX1_unpack cX1_unpack 8 none 3 := sv_mkV kw_446 kw_447 kw_448 kw_71 kw_449 ⟨by decide, by decide, by decide +kernel⟩
theorem mv_X8_243 : sv_MV RX8 243 yX0_copy cX0_copy 3 none 1 := sv_mkV kw_450 kw_451 kw_452 kw_198 kw_453 ⟨by decide, by decide, by decide +kernel⟩
theorem mv_X8_250 : sv_MV RX8 250 yX8_receive cX8_receive 3 none 0 := sv_mkV kw_454 kw_455 kw_456 kw_440 kw_457 ⟨by decide, by decide, by decide +kernel⟩
theorem mv_X8_184 : sv_MV RX8 184 yX1_split cX1_split 5 none 1 := sv_mkV kw_461 kw_462 kw_463 kw_71 kw_464 ⟨by decide, by decide, by decide +kernel⟩
theorem mv_X8_191 : sv_MV RX8 191 yX1_form cX1_form 4 (some .int) 1 := sv_mkV kw_465 kw_466 kw_467 kw_71 kw_468 ⟨by decide, by decide, by decide +kernel⟩
theorem mv_X8_194 : sv_MV RX8 194 yX4_takeGga cX4_takeGga 2 (some .boolean) 1 := sv_mkV kw_469 kw_470 kw_471 kw_276 kw_472 ⟨by decide, by decide, by decide +kernel⟩
theorem mv_X8_198 : sv_MV RX8 198 yX4_takeRmc cX4_takeRmc 2 (some .boolean) 1 := sv_mkV kw_473 kw_474 kw_475 kw_276 kw_476 ⟨by decide, by decide, by decide +kernel⟩
theorem mv_X8_201 : sv_MV RX8 201 yX4_takeVtg cX4_takeVtg 2 (some .boolean) 1 := sv_mkV kw_477 kw_478 kw_479 kw_276 kw_480 ⟨by decide, by decide, by decide +kernel⟩
theorem mv_X8_204 : sv_MV RX8 204 yX8_takePart cX8_takePart 6 (some .boolean) 0 := sv_mkV kw_481 kw_482 kw_483 kw_440 kw_484 ⟨by decide, by decide, by decide +kernel⟩
theorem mv_X8_82 : sv_MV RX8 82 yX6_at cX6_at 2 (some .int) 1 := sv_mkV kw_485 kw_486 kw_487 kw_324 kw_488 ⟨by decide, by decide, by decide +kernel⟩
theorem mv_X8_86 : sv_MV RX8 86 yX5_hear cX5_hear 2 (some .int) 1 := sv_mkV kw_489 kw_490 kw_491 kw_25 kw_492 ⟨by decide, by decide, by decide +kernel⟩
theorem mv_X8_89 : sv_MV RX8 89 yX8_judge cX8_judge 2 (some .int) 0 := sv_mkV kw_493 kw_494 kw_495 kw_440 kw_496 ⟨by decide, by decide, by decide +kernel⟩
theorem mv_X8_94 : sv_MV RX8 94 yX5_underWay cX5_underWay 1 (some .int) 0 := sv_mkV kw_498 kw_499 kw_500 kw_25 kw_501 ⟨by decide, by decide, by decide +kernel⟩
theorem mv_X8_97 : sv_MV RX8 97 yX3_keptInAll cX3_keptInAll 3 (some .int) 0 := sv_mkV kw_502 kw_503 kw_504 kw_374 kw_505 ⟨by decide, by decide, by decide +kernel⟩
theorem mv_X8_110 : sv_MV RX8 110 yX2_numberOf cX2_numberOf 3 (some .int) 1 := sv_mkV kw_511 kw_215 kw_216 kw_217 kw_218 ⟨by decide, by decide, by decide +kernel⟩
theorem mv_X8_113 : sv_MV RX8 113 yX2_at cX2_at 2 (some (.object "SeaReceiver$Vessel")) 1 := sv_mkV kw_514 kw_515 kw_516 kw_217 kw_517 ⟨by decide, by decide, by decide +kernel⟩
theorem mv_X8_128 : sv_MV RX8 128 yX7_signOf cX7_signOf 3 (some .int) 2 := sv_mkV kw_518 kw_348 kw_349 kw_213 kw_350 ⟨by decide, by decide, by decide +kernel⟩
theorem mv_X8_161 : sv_MV RX8 161 yX6_add cX6_add 2 none 1 := sv_mkV kw_519 kw_322 kw_323 kw_324 kw_325 ⟨by decide, by decide, by decide +kernel⟩
theorem ms_X8_275 : sv_MS RX8 275 yX8_sixteen cX8_sixteen 1 (some .int) 1 := ⟨⟨kw_520, kw_521, kw_440, kw_522⟩, by decide, by decide, by decide +kernel⟩
theorem mv_X8_267 : sv_MV RX8 267 yX6_addText cX6_addText 3 none 1 := sv_mkV kw_523 kw_524 kw_525 kw_324 kw_526 ⟨by decide, by decide, by decide +kernel⟩
theorem mv_X8_272 : sv_MV RX8 272 yX8_closeSentence cX8_closeSentence 4 none 1 := sv_mkV kw_527 kw_528 kw_529 kw_440 kw_530 ⟨by decide, by decide, by decide +kernel⟩
theorem mv_X8_147 : sv_MV RX8 147 yX7_tell cX7_tell 8 none 2 := sv_mkV kw_533 kw_534 kw_535 kw_213 kw_536 ⟨by decide, by decide, by decide +kernel⟩
theorem mv_X8_153 : sv_MV RX8 153 yX8_writeSentence cX8_writeSentence 8 none 4 := sv_mkV kw_537 kw_538 kw_539 kw_440 kw_540 ⟨by decide, by decide, by decide +kernel⟩
theorem ms_X8_164 : sv_MS RX8 164 yJ7_fill_53178 cJ7_fill_53178 4 none 2 := ⟨⟨kw_541, kw_8, kw_9, kw_10⟩, by decide, by decide, by decide +kernel⟩
theorem mv_X8_170 : sv_MV RX8 170 yX5_forget cX5_forget 1 none 0 := sv_mkV kw_542 kw_543 kw_544 kw_25 kw_545 ⟨by decide, by decide, by decide +kernel⟩
theorem mv_X8_173 : sv_MV RX8 173 yX4_forget cX4_forget 1 none 0 := sv_mkV kw_546 kw_547 kw_548 kw_276 kw_549 ⟨by decide, by decide, by decide +kernel⟩
theorem mv_X8_174 : sv_MV RX8 174 yX3_forget cX3_forget 1 none 0 := sv_mkV kw_550 kw_551 kw_552 kw_374 kw_553 ⟨by decide, by decide, by decide +kernel⟩
theorem mv_X8_175 : sv_MV RX8 175 yX0_empty cX0_empty 1 none 0 := sv_mkV kw_554 kw_236 kw_237 kw_198 kw_238 ⟨by decide, by decide, by decide +kernel⟩
theorem mv_X9_67 : sv_MV RX9 67 yX9_forget cX9_forget 2 none 0 := sv_mkV kw_581 kw_582 kw_583 kw_584 kw_585 ⟨by decide, by decide, by decide +kernel⟩
theorem ms_X9_74 : sv_MS RX9 74 yX9_in cX9_in 6 (some .boolean) 3 := ⟨⟨kw_587, kw_588, kw_584, kw_589⟩, by decide, by decide, by decide +kernel⟩
theorem mv_X9_127 : sv_MV RX9 127 yJ0_charAt_5068e cJ0_charAt_5068e 2 (some .char) 1 := sv_mkV kw_594 kw_65 kw_66 kw_36 kw_67 ⟨by decide, by decide, by decide +kernel⟩
theorem mv_X9_137 : sv_MV RX9 137 yX9_ends cX9_ends 2 (some .boolean) 1 := sv_mkV kw_596 kw_597 kw_598 kw_584 kw_599 ⟨by decide, by decide, by decide +kernel⟩
theorem mv_X9_153 : sv_MV RX9 153 yX9_size cX9_size 2 (some .int) 1 := sv_mkV kw_600 kw_601 kw_602 kw_584 kw_603 ⟨by decide, by decide, by decide +kernel⟩
theorem mv_X9_156 : sv_MV RX9 156 yX9_at cX9_at 3 (some .int) 2 := sv_mkV kw_604 kw_605 kw_606 kw_584 kw_607 ⟨by decide, by decide, by decide +kernel⟩
theorem ms_X9_160 : sv_MS RX9 160 yX9_isDigit cX9_isDigit 1 (some .boolean) 1 := ⟨⟨kw_608, kw_609, kw_584, kw_610⟩, by decide, by decide, by decide +kernel⟩
theorem mv_X9_163 : sv_MV RX9 163 yX9_digits cX9_digits 4 (some .int) 2 := sv_mkV kw_612 kw_613 kw_614 kw_584 kw_615 ⟨by decide, by decide, by decide +kernel⟩
theorem mv_X9_166 : sv_MV RX9 166 yX9_bad cX9_bad 1 (some .int) 0 := sv_mkV kw_616 kw_617 kw_618 kw_584 kw_619 ⟨by decide, by decide, by decide +kernel⟩
theorem mv_X9_173 : sv_MV RX9 173 yX9_whole cX9_whole 6 (some .int) 3 := sv_mkV kw_620 kw_621 kw_622 kw_584 kw_623 ⟨by decide, by decide, by decide +kernel⟩
theorem mv_X9_169 : sv_MV RX9 169 yX9_behind cX9_behind 8 (some .int) 4 := sv_mkV kw_624 kw_625 kw_626 kw_584 kw_627 ⟨by decide, by decide, by decide +kernel⟩
theorem mv_X9_187 : sv_MV RX9 187 yJ0_length_8abf5 cJ0_length_8abf5 1 (some .int) 0 := sv_mkV kw_628 kw_141 kw_142 kw_36 kw_143 ⟨by decide, by decide, by decide +kernel⟩
theorem mv_X9_190 : sv_MV RX9 190 yX9_one cX9_one 5 (some .int) 2 := sv_mkV kw_629 kw_630 kw_631 kw_584 kw_632 ⟨by decide, by decide, by decide +kernel⟩
theorem mv_X9_195 : sv_MV RX9 195 yX9_sided cX9_sided 5 (some .int) 3 := sv_mkV kw_634 kw_635 kw_636 kw_584 kw_637 ⟨by decide, by decide, by decide +kernel⟩
theorem ms_X9_177 : sv_MS RX9 177 yX9_ten cX9_ten 3 (some .int) 1 := ⟨⟨kw_638, kw_639, kw_584, kw_640⟩, by decide, by decide, by decide +kernel⟩
theorem mv_X9_211 : sv_MV RX9 211 yX9_time cX9_time 6 (some .int) 1 := sv_mkV kw_641 kw_642 kw_643 kw_584 kw_644 ⟨by decide, by decide, by decide +kernel⟩
theorem mv_X9_216 : sv_MV RX9 216 yX9_place cX9_place 9 (some .int) 4 := sv_mkV kw_645 kw_646 kw_647 kw_584 kw_648 ⟨by decide, by decide, by decide +kernel⟩
theorem mv_X9_180 : sv_MV RX9 180 yX9_number cX9_number 3 (some .int) 2 := sv_mkV kw_649 kw_650 kw_651 kw_584 kw_652 ⟨by decide, by decide, by decide +kernel⟩
theorem mv_X9_222 : sv_MV RX9 222 yX9_decimal cX9_decimal 9 (some .int) 4 := sv_mkV kw_653 kw_654 kw_655 kw_584 kw_656 ⟨by decide, by decide, by decide +kernel⟩
theorem mv_X9_228 : sv_MV RX9 228 yX9_measured cX9_measured 5 (some .int) 3 := sv_mkV kw_657 kw_658 kw_659 kw_584 kw_660 ⟨by decide, by decide, by decide +kernel⟩
theorem mv_X9_234 : sv_MV RX9 234 yX9_below cX9_below 3 (some .int) 2 := sv_mkV kw_665 kw_666 kw_667 kw_584 kw_668 ⟨by decide, by decide, by decide +kernel⟩
theorem mv_X9_237 : sv_MV RX9 237 yX9_date cX9_date 5 (some .int) 1 := sv_mkV kw_669 kw_670 kw_671 kw_584 kw_672 ⟨by decide, by decide, by decide +kernel⟩
theorem mv_X9_199 : sv_MV RX9 199 yX9_gga cX9_gga 1 none 0 := sv_mkV kw_681 kw_682 kw_683 kw_584 kw_684 ⟨by decide, by decide, by decide +kernel⟩
theorem mv_X9_202 : sv_MV RX9 202 yX9_rmc cX9_rmc 2 none 0 := sv_mkV kw_685 kw_686 kw_687 kw_584 kw_688 ⟨by decide, by decide, by decide +kernel⟩
theorem mv_X9_205 : sv_MV RX9 205 yX9_vtg cX9_vtg 1 none 0 := sv_mkV kw_689 kw_690 kw_691 kw_584 kw_692 ⟨by decide, by decide, by decide +kernel⟩
theorem mv_X9_208 : sv_MV RX9 208 yX9_part cX9_part 4 none 0 := sv_mkV kw_693 kw_694 kw_695 kw_584 kw_696 ⟨by decide, by decide, by decide +kernel⟩
theorem mv_X9_286 : sv_MV RX9 286 yX9_read cX9_read 5 (some .int) 2 := sv_mkV kw_697 kw_698 kw_699 kw_584 kw_700 ⟨by decide, by decide, by decide +kernel⟩
theorem mv_X9_308 : sv_MV RX9 308 yX9_signed cX9_signed 3 (some .int) 2 := sv_mkV kw_705 kw_706 kw_707 kw_584 kw_708 ⟨by decide, by decide, by decide +kernel⟩
theorem mv_X9_311 : sv_MV RX9 311 yX9_put cX9_put 4 none 2 := sv_mkV kw_709 kw_710 kw_711 kw_584 kw_712 ⟨by decide, by decide, by decide +kernel⟩
theorem mv_X9_317 : sv_MV RX9 317 yX9_go cX9_go 5 none 3 := sv_mkV kw_713 kw_714 kw_715 kw_584 kw_716 ⟨by decide, by decide, by decide +kernel⟩
theorem ms_X9_314 : sv_MS RX9 314 yX9_room cX9_room 1 (some .int) 1 := ⟨⟨kw_717, kw_718, kw_584, kw_719⟩, by decide, by decide, by decide +kernel⟩
theorem mv_X9_327 : sv_MV RX9 327 yX9_skip cX9_skip 2 none 1 := sv_mkV kw_720 kw_721 kw_722 kw_584 kw_723 ⟨by decide, by decide, by decide +kernel⟩
theorem mv_X9_333 : sv_MV RX9 333 yX9_words cX9_words 7 none 1 := sv_mkV kw_724 kw_725 kw_726 kw_584 kw_727 ⟨by decide, by decide, by decide +kernel⟩
theorem mv_X9_321 : sv_MV RX9 321 yX9_where cX9_where 1 none 0 := sv_mkV kw_728 kw_729 kw_730 kw_584 kw_731 ⟨by decide, by decide, by decide +kernel⟩
theorem mv_X9_324 : sv_MV RX9 324 yX9_way cX9_way 1 none 0 := sv_mkV kw_732 kw_733 kw_734 kw_584 kw_735 ⟨by decide, by decide, by decide +kernel⟩
theorem mv_X9_330 : sv_MV RX9 330 yX9_still cX9_still 1 none 0 := sv_mkV kw_736 kw_737 kw_738 kw_584 kw_739 ⟨by decide, by decide, by decide +kernel⟩
theorem mv_X9_294 : sv_MV RX9 294 yX9_found cX9_found 3 (some .int) 1 := sv_mkV kw_742 kw_743 kw_744 kw_584 kw_745 ⟨by decide, by decide, by decide +kernel⟩
theorem mv_X9_297 : sv_MV RX9 297 yX9_reports cX9_reports 3 none 2 := sv_mkV kw_746 kw_747 kw_748 kw_584 kw_749 ⟨by decide, by decide, by decide +kernel⟩
theorem mv_X9_283 : sv_MV RX9 283 yX9_message cX9_message 6 none 0 := sv_mkV kw_750 kw_751 kw_752 kw_584 kw_753 ⟨by decide, by decide, by decide +kernel⟩
theorem mv_X9_270 : sv_MV RX9 270 yX9_keep cX9_keep 4 none 2 := sv_mkV kw_754 kw_755 kw_756 kw_584 kw_757 ⟨by decide, by decide, by decide +kernel⟩
theorem mv_X9_274 : sv_MV RX9 274 yX9_parted cX9_parted 5 none 0 := sv_mkV kw_758 kw_759 kw_760 kw_584 kw_761 ⟨by decide, by decide, by decide +kernel⟩
theorem mv_X9_116 : sv_MV RX9 116 yX9_form cX9_form 2 (some .int) 0 := sv_mkV kw_764 kw_765 kw_766 kw_584 kw_767 ⟨by decide, by decide, by decide +kernel⟩
theorem mv_X9_120 : sv_MV RX9 120 yX9_fits cX9_fits 2 (some .boolean) 1 := sv_mkV kw_768 kw_769 kw_770 kw_584 kw_771 ⟨by decide, by decide, by decide +kernel⟩
theorem mv_X9_124 : sv_MV RX9 124 yX9_taken cX9_taken 2 none 1 := sv_mkV kw_772 kw_773 kw_774 kw_584 kw_775 ⟨by decide, by decide, by decide +kernel⟩
theorem ms_X9_103 : sv_MS RX9 103 yX9_sixteen cX9_sixteen 1 (some .int) 1 := ⟨⟨kw_778, kw_779, kw_584, kw_780⟩, by decide, by decide, by decide +kernel⟩
theorem mv_X9_110 : sv_MV RX9 110 yX9_ended cX9_ended 2 none 0 := sv_mkV kw_781 kw_782 kw_783 kw_584 kw_784 ⟨by decide, by decide, by decide +kernel⟩
theorem mv_X9_86 : sv_MV RX9 86 yX9_comes cX9_comes 3 none 1 := sv_mkV kw_785 kw_786 kw_787 kw_584 kw_788 ⟨by decide, by decide, by decide +kernel⟩
theorem mv_X9_343 : sv_MV RX9 343 yX9_refuse cX9_refuse 2 (some .int) 1 := sv_mkV kw_792 kw_793 kw_794 kw_584 kw_795 ⟨by decide, by decide, by decide +kernel⟩
theorem mv_X9_358 : sv_MV RX9 358 yX9_write cX9_write 2 none 1 := sv_mkV kw_800 kw_801 kw_802 kw_584 kw_803 ⟨by decide, by decide, by decide +kernel⟩
theorem mv_X9_363 : sv_MV RX9 363 yX9_writeAll cX9_writeAll 3 none 1 := sv_mkV kw_804 kw_805 kw_806 kw_584 kw_807 ⟨by decide, by decide, by decide +kernel⟩
theorem ms_X9_369 : sv_MS RX9 369 yX9_hexOf cX9_hexOf 1 (some .int) 1 := ⟨⟨kw_808, kw_809, kw_584, kw_810⟩, by decide, by decide, by decide +kernel⟩
theorem mv_X9_374 : sv_MV RX9 374 yX9_sentence cX9_sentence 10 none 5 := sv_mkV kw_812 kw_813 kw_814 kw_584 kw_815 ⟨by decide, by decide, by decide +kernel⟩
theorem mv_L_7 : sv_MV RL 7 yX8_fix cX8_fix 2 (some .int) 1 := sv_mkV kw_818 kw_819 kw_820 kw_440 kw_821 ⟨by decide, by decide, by decide +kernel⟩
theorem mv_L_15 : sv_MV RL 15 yX8_vessel cX8_vessel 4 (some .int) 2 := sv_mkV kw_823 kw_824 kw_825 kw_440 kw_826 ⟨by decide, by decide, by decide +kernel⟩
theorem mv_L_19 : sv_MV RL 19 yX8_bits cX8_bits 3 (some .int) 2 := sv_mkV kw_827 kw_828 kw_829 kw_440 kw_830 ⟨by decide, by decide, by decide +kernel⟩
theorem mv_L_22 : sv_MV RL 22 yX8_send cX8_send 6 (some .int) 3 := sv_mkV kw_832 kw_833 kw_834 kw_440 kw_835 ⟨by decide, by decide, by decide +kernel⟩
theorem mv_L_32 : sv_MV RL 32 yX8_feed cX8_feed 6 (some .int) 5 := sv_mkV kw_849 kw_850 kw_851 kw_440 kw_852 ⟨by decide, by decide, by decide +kernel⟩
theorem mv_L_36 : sv_MV RL 36 yX9_feed cX9_feed 8 (some .int) 5 := sv_mkV kw_853 kw_854 kw_855 kw_584 kw_856 ⟨by decide, by decide, by decide +kernel⟩
theorem mv_L_37 : sv_MV RL 37 yX8_end cX8_end 2 (some .boolean) 1 := sv_mkV kw_857 kw_858 kw_859 kw_440 kw_860 ⟨by decide, by decide, by decide +kernel⟩
theorem mv_L_41 : sv_MV RL 41 yX9_end cX9_end 2 (some .boolean) 1 := sv_mkV kw_861 kw_862 kw_863 kw_584 kw_864 ⟨by decide, by decide, by decide +kernel⟩
theorem mv_L_42 : sv_MV RL 42 yX8_stream cX8_stream 5 (some .int) 0 := sv_mkV kw_865 kw_866 kw_867 kw_440 kw_868 ⟨by decide, by decide, by decide +kernel⟩
theorem mv_L_46 : sv_MV RL 46 yX9_stream cX9_stream 4 (some .int) 0 := sv_mkV kw_869 kw_870 kw_871 kw_584 kw_872 ⟨by decide, by decide, by decide +kernel⟩
theorem mv_L_47 : sv_MV RL 47 yX8_count cX8_count 2 (some .int) 1 := sv_mkV kw_873 kw_874 kw_875 kw_440 kw_876 ⟨by decide, by decide, by decide +kernel⟩
theorem mv_L_50 : sv_MV RL 50 yX9_count cX9_count 4 (some .int) 1 := sv_mkV kw_877 kw_878 kw_879 kw_584 kw_880 ⟨by decide, by decide, by decide +kernel⟩
theorem mv_L_56 : sv_MV RL 56 yX9_fix cX9_fix 2 (some .int) 1 := sv_mkV kw_885 kw_886 kw_887 kw_584 kw_888 ⟨by decide, by decide, by decide +kernel⟩
theorem mv_L_57 : sv_MV RL 57 yX9_thrown cX9_thrown 1 (some .int) 0 := sv_mkV kw_889 kw_890 kw_891 kw_584 kw_892 ⟨by decide, by decide, by decide +kernel⟩
theorem mv_L_60 : sv_MV RL 60 yX8_find cX8_find 2 (some .int) 1 := sv_mkV kw_893 kw_894 kw_895 kw_440 kw_896 ⟨by decide, by decide, by decide +kernel⟩
theorem mv_L_63 : sv_MV RL 63 yX9_find cX9_find 2 (some .int) 1 := sv_mkV kw_897 kw_898 kw_899 kw_584 kw_900 ⟨by decide, by decide, by decide +kernel⟩
theorem mv_L_67 : sv_MV RL 67 yX9_vessel cX9_vessel 3 (some .int) 2 := sv_mkV kw_904 kw_905 kw_906 kw_584 kw_907 ⟨by decide, by decide, by decide +kernel⟩
theorem mv_L_68 : sv_MV RL 68 yX8_letter cX8_letter 5 (some .int) 3 := sv_mkV kw_908 kw_909 kw_910 kw_440 kw_911 ⟨by decide, by decide, by decide +kernel⟩
theorem mv_L_71 : sv_MV RL 71 yX9_letter cX9_letter 4 (some .int) 3 := sv_mkV kw_912 kw_913 kw_914 kw_584 kw_915 ⟨by decide, by decide, by decide +kernel⟩
theorem mv_L_74 : sv_MV RL 74 yX9_bits cX9_bits 3 (some .int) 2 := sv_mkV kw_919 kw_920 kw_921 kw_584 kw_922 ⟨by decide, by decide, by decide +kernel⟩
theorem mv_L_78 : sv_MV RL 78 yX9_send cX9_send 4 (some .int) 3 := sv_mkV kw_926 kw_927 kw_928 kw_584 kw_929 ⟨by decide, by decide, by decide +kernel⟩
theorem mv_L_79 : sv_MV RL 79 yX8_out cX8_out 2 (some .int) 1 := sv_mkV kw_930 kw_931 kw_932 kw_440 kw_933 ⟨by decide, by decide, by decide +kernel⟩
theorem mv_L_82 : sv_MV RL 82 yX9_out cX9_out 2 (some .int) 1 := sv_mkV kw_934 kw_935 kw_936 kw_584 kw_937 ⟨by decide, by decide, by decide +kernel⟩
theorem mv_L_83 : sv_MV RL 83 yX8_again cX8_again 2 (some .int) 0 := sv_mkV kw_938 kw_939 kw_940 kw_440 kw_941 ⟨by decide, by decide, by decide +kernel⟩
theorem mv_L_86 : sv_MV RL 86 yX9_again cX9_again 2 (some .int) 0 := sv_mkV kw_942 kw_943 kw_944 kw_584 kw_945 ⟨by decide, by decide, by decide +kernel⟩
theorem mv_L_87 : sv_MV RL 87 yX8_clear cX8_clear 1 none 0 := sv_mkV kw_946 kw_947 kw_948 kw_440 kw_949 ⟨by decide, by decide, by decide +kernel⟩
theorem mv_L_90 : sv_MV RL 90 yX9_clear cX9_clear 1 none 0 := sv_mkV kw_950 kw_951 kw_952 kw_584 kw_953 ⟨by decide, by decide, by decide +kernel⟩
end
section
/-! ===== more rows: calls that make nothing, long compare, switches ===== -/
section SVE
variable {E : sv_E} {X : sv_X} {cc : ByteArray} {own : String} {sx sx' : List (Nat × Nat × List Int32)} {wd wd' : va_W} {sz sz' ce sl pc : Nat} {lv lv' : List (Nat × Value)} {st rest : List Value}
variable {index : Nat} {y : MethodName} {cb : ByteArray} {mL : Nat} {rt : Option FieldType} {n fr lo : Nat} {As : List Value} {b : Nat} {res : Option Value}
theorem sv_callV0 {ci : Nat} {fs : List Value} (C : sv_C E X cc own sx) (L : sv_MV own index y cb mL rt n) (M : sv_Met (sv_l X) E y cb mL rt fr lo sx' (.ref b :: As) wd sz res wd' sz' 0 0) (hsx : sv_sxs E sx sx') (q0 : Nat) (he : wd[q0]? = some (b, .inr (ci, fs))) (hc : (vwCl[ci]?).map (fun q => q.1) = some y.cls) (hn : As.length = n) (hst : st = As.reverse ++ .ref b :: rest) (hw : (rest.map fun v => v.category).sum ≤ 8)
    (hR : fr + 1 ≤ (sv_R X).frames ∧ 8 + (mL + 11) + lo ≤ (sv_R X).locals) (hcs : ce ≤ (sv_R X).cells ∧ sl ≤ (sv_R X).slots) (hd : decode cc pc = .ok (.invokevirtual index, 3)) (kk : sv_J E X wd' sz' ce sl (pc + 3) lv (res.toList ++ rest)) : sv_J E X wd sz ce sl pc lv st := sv_callV C L M hsx q0 he hc hn hst hw hR hcs hd kk
theorem sv_callS0 (C : sv_C E X cc own sx) (L : sv_MS own index y cb mL rt n) (M : sv_Met (sv_l X) E y cb mL rt fr lo sx' As wd sz res wd' sz' 0 0) (hsx : sv_sxs E sx sx') (hn : As.length = n) (hst : st = As.reverse ++ rest) (hw : (rest.map fun v => v.category).sum ≤ 8)
    (hR : fr + 1 ≤ (sv_R X).frames ∧ 8 + (mL + 11) + lo ≤ (sv_R X).locals) (hcs : ce ≤ (sv_R X).cells ∧ sl ≤ (sv_R X).slots) (hd : decode cc pc = .ok (.invokestatic index, 3)) (kk : sv_J E X wd' sz' ce sl (pc + 3) lv (res.toList ++ rest)) : sv_J E X wd sz ce sl pc lv st := sv_callS C L M hsx hn hst hw hR hcs hd kk
theorem sv_lcmp {x z : Int64} (C : sv_C E X cc own sx) (hd : decode cc pc = .ok (.lcmp, 1)) (k : sv_J E X wd sz ce sl (pc + 1) lv (.int (lg_cmp x z) :: st)) : sv_J E X wd sz ce sl pc lv (.long z :: .long x :: st) := by
  obtain ⟨p, l, e, R, s, m, args, below, meth, c, Q, A, nL⟩ := X
  exact fun H locs ls h1 h2 h3 h4 h5 => W.lcmp C.1.1 C.1.2.1 hd (k H locs ls h1 h2 h3 h4 h5)
theorem sv_tswI {dflt lo hi : Int} {offs : Array Int} {len : Nat} {x v : Int32} {off : Int} {tgt : Nat} (C : sv_C E X cc own sx) (hd : decode cc pc = .ok (.tableswitch dflt lo hi offs, len)) (hx : x = v) (h1 : ¬ v.toInt < lo) (h2 : ¬ hi < v.toInt) (ho : offs[(v.toInt - lo).toNat]? = some off) (ht : (pc : Int) + off = (tgt : Int)) (k : sv_J E X wd sz ce sl tgt lv st) : sv_J E X wd sz ce sl pc lv (.int x :: st) := by
  obtain ⟨p, l, e, R, s, m, args, below, meth, c, Q, A, nL⟩ := X
  subst hx
  exact fun H locs ls g1 g2 g3 g4 g5 => lv_tableIn C.1.1 C.1.2.1 hd h1 h2 ho ht (k H locs ls g1 g2 g3 g4 g5)
theorem sv_tswO {dflt lo hi : Int} {offs : Array Int} {len : Nat} {x : Int32} {tgt : Nat} (C : sv_C E X cc own sx) (hd : decode cc pc = .ok (.tableswitch dflt lo hi offs, len)) (h : x.toInt < lo ∨ hi < x.toInt) (ht : (pc : Int) + dflt = (tgt : Int)) (k : sv_J E X wd sz ce sl tgt lv st) : sv_J E X wd sz ce sl pc lv (.int x :: st) := by
  obtain ⟨p, l, e, R, s, m, args, below, meth, c, Q, A, nL⟩ := X
  exact fun H locs ls g1 g2 g3 g4 g5 => lv_tableOut C.1.1 C.1.2.1 hd h ht (k H locs ls g1 g2 g3 g4 g5)
theorem sv_nei {x v : Int32} (h : ¬ x = v) : x.toInt ≠ v.toInt := fun e => h (Int32.toInt_inj.mp e)
theorem sv_nz {ty : FieldType} {v : Int32} (h : vp_nar ty v = v) (hi : ∃ w, narrow ty (.int v) = .int w := by first | exact ⟨_, rfl⟩) : narrow ty (.int v) = .int v := by
  obtain ⟨w, hw⟩ := hi
  have : vp_nar ty v = w := by unfold vp_nar; rw [hw]
  rw [hw, ← this, h]
end SVE
end
section
def f_X9_thrown (B : md_B) : Option (Int32 × md_B) :=
  some (B.1 0, B)
set_option maxHeartbeats 4000000 in
set_option maxRecDepth 100000 in
theorem m_X9_thrown (l : Launch) (E : sv_E) (h0 : Nat) (ad : Nat → Nat) (sz : Nat) (B : md_B) (q : Int32 × md_B) (hf : f_X9_thrown B = some q) : sv_Met l E yX9_thrown cX9_thrown 1 (some .int) 0 0 [] [.ref h0] (md_w E h0 ad B) sz (some (.int q.1)) (md_w E h0 ad q.2) sz 0 0 := by
  refine sv_ofJ (by decide) (Nat.le_of_ble_eq_true rfl) ?_
  intro X hX hN hnm hR C hZ
  replace C : sv_C E X cX9_thrown RX9 [] := C
  show sv_J E X (md_w E h0 ad B) sz 0 0 0 [(0, .ref h0)] []
  rw [f_X9_thrown] at hf
  refine sv_aload_n 0 C dX9_thrown_0 rfl rfl ?_
  refine md_geti C fl_X9_1 (by decide) dX9_thrown_1 ?_
  exact sv_iret C (by cases hf; exact hZ) dX9_thrown_4
def f_X9_in (B : md_B) (x0 : Int64) (x2 : Int64) (x4 : Int64) : Option (Int32 × md_B) :=
  if (lg_cmp x0 x2) < 0 then
    some (0, B)
  else
    if 0 < (lg_cmp x0 x4) then
      some (0, B)
    else
      some (1, B)
set_option maxHeartbeats 4000000 in
set_option maxRecDepth 100000 in
theorem m_X9_in (l : Launch) (E : sv_E) (h0 : Nat) (ad : Nat → Nat) (sz : Nat) (B : md_B) (x0 : Int64) (x2 : Int64) (x4 : Int64) (q : Int32 × md_B) (hf : f_X9_in B x0 x2 x4 = some q) : sv_Met l E yX9_in cX9_in 6 (some .boolean) 0 0 [] [.long x0, .long x2, .long x4] (md_w E h0 ad B) sz (some (.int q.1)) (md_w E h0 ad q.2) sz 0 0 := by
  refine sv_ofJ (by decide) (Nat.le_of_ble_eq_true rfl) ?_
  intro X hX hN hnm hR C hZ
  replace C : sv_C E X cX9_in RX9 [] := C
  show sv_J E X (md_w E h0 ad B) sz 0 0 0 [(0, .long x0), (2, .long x2), (4, .long x4)] []
  rw [f_X9_in] at hf
  refine sv_lload_n 0 C dX9_in_0 rfl rfl ?_
  refine sv_lload_n 1 C dX9_in_1 rfl rfl ?_
  refine sv_lcmp C dX9_in_2 ?_
  refine sv_if_lt (tgt := 17) C dX9_in_3 (by decide) (fun c3 => ?_) (fun c3 => ?_)
  · replace hf := sv_if_t c3 hf
    refine sv_iconst (v := 0) C dX9_in_17 (by decide) ?_
    exact sv_zret (ty := .boolean) C (by decide) (by cases hf; exact hZ) dX9_in_18
  · replace hf := sv_if_f c3 hf
    refine sv_lload_n 0 C dX9_in_6 rfl rfl ?_
    refine sv_lload 2 C dX9_in_7 rfl ?_
    refine sv_lcmp C dX9_in_9 ?_
    refine sv_if_gt (tgt := 17) C dX9_in_10 (by decide) (fun c10 => ?_) (fun c10 => ?_)
    · replace hf := sv_if_t c10 hf
      refine sv_iconst (v := 0) C dX9_in_17 (by decide) ?_
      exact sv_zret (ty := .boolean) C (by decide) (by cases hf; exact hZ) dX9_in_18
    · replace hf := sv_if_f c10 hf
      refine sv_iconst (v := 1) C dX9_in_13 (by decide) ?_
      refine sv_goto (tgt := 18) C dX9_in_14 (by decide) ?_
      exact sv_zret (ty := .boolean) C (by decide) (by cases hf; exact hZ) dX9_in_18
def f_X9_refuse (B : md_B) (x1 : Int32) : Option (Int32 × md_B) :=
  some (0, md_pf B 0 x1)
set_option maxHeartbeats 4000000 in
set_option maxRecDepth 100000 in
theorem m_X9_refuse (l : Launch) (E : sv_E) (h0 : Nat) (ad : Nat → Nat) (sz : Nat) (B : md_B) (x1 : Int32) (q : Int32 × md_B) (hf : f_X9_refuse B x1 = some q) : sv_Met l E yX9_refuse cX9_refuse 2 (some .int) 0 0 [] [.ref h0, .int x1] (md_w E h0 ad B) sz (some (.int q.1)) (md_w E h0 ad q.2) sz 0 0 := by
  refine sv_ofJ (by decide) (Nat.le_of_ble_eq_true rfl) ?_
  intro X hX hN hnm hR C hZ
  replace C : sv_C E X cX9_refuse RX9 [] := C
  show sv_J E X (md_w E h0 ad B) sz 0 0 0 [(0, .ref h0), (1, .int x1)] []
  rw [f_X9_refuse] at hf
  refine sv_aload_n 0 C dX9_refuse_0 rfl rfl ?_
  refine sv_iload_n 1 C dX9_refuse_1 rfl rfl ?_
  refine md_puti C fl_X9_1 (by decide) rfl rfl dX9_refuse_2 ?_
  refine sv_iconst (v := 0) C dX9_refuse_5 (by decide) ?_
  exact sv_iret C (by cases hf; exact hZ) dX9_refuse_6
def f_X9_forget_65 : Nat → md_B → Int32 → Option (md_B)
  | 0, _, _ => none
  | n + 1, B, x1 =>
    if 11 ≤ x1 then
      some B
    else
      sv_g (sv_inb x1 11) (
        sv_g (sv_inb x1 11) (
          (f_X9_forget_65 n) (md_pa (md_pa B 22 x1 0) 23 x1 0) (x1 + 1)))
def f_X9_forget_43 : Nat → md_B → Int32 → Option (md_B)
  | 0, _, _ => none
  | n + 1, B, x1 =>
    if 18 ≤ x1 then
      f_X9_forget_65 sv_fu B 0
    else
      sv_g (sv_inb x1 18) (
        (f_X9_forget_43 n) (md_pa B 16 x1 (-2147483648)) (x1 + 1))
def f_X9_forget_22 : Nat → md_B → Int32 → Option (md_B)
  | 0, _, _ => none
  | n + 1, B, x1 =>
    if 9 ≤ x1 then
      f_X9_forget_43 sv_fu B 0
    else
      sv_g (sv_inb x1 9) (
        (f_X9_forget_22 n) (md_pa B 10 x1 0) (x1 + 1))
def f_X9_forget (B : md_B) : Option (md_B) :=
  f_X9_forget_22 sv_fu (md_pf (md_pf (md_pf (md_pf B 5 0) 7 0) 28 0) 27 0) 0
set_option maxHeartbeats 4000000 in
set_option maxRecDepth 100000 in
theorem w_X9_forget_65 {E : sv_E} {X : sv_X} {h0 : Nat} {ad : Nat → Nat} {sz : Nat} {q : md_B} (C : sv_C E X cX9_forget RX9 []) (hZ : sv_Z E X none none (md_w E h0 ad q) sz 0 0) (hR : sv_R X = { frames := 0, cells := 0, slots := 0, locals := 0 }) (hN : sv_nL X = 2) : ∀ (n : Nat) (B : md_B) (x1 : Int32), f_X9_forget_65 n B x1 = some q → sv_J E X (md_w E h0 ad B) sz 0 0 65 [(0, .ref h0), (1, .int x1)] [] := by
  intro n
  induction n with
  | zero =>
    intro B x1 hf
    rw [f_X9_forget_65] at hf
    cases hf
  | succ n ih =>
    intro B x1 hf
    rw [f_X9_forget_65] at hf
    refine sv_iload_n 1 C dX9_forget_65 rfl rfl ?_
    refine sv_bipush (v := 11) C dX9_forget_66 (by decide) ?_
    refine sv_icmp_ge (tgt := 91) C dX9_forget_68 (by decide) (fun c68 => ?_) (fun c68 => ?_)
    · replace hf := sv_if_t c68 hf
      exact sv_vret C (by cases hf; exact hZ) dX9_forget_91
    · replace hf := sv_if_f c68 hf
      refine sv_aload_n 0 C dX9_forget_71 rfl rfl ?_
      refine md_getr C fl_X9_41 (by decide) dX9_forget_72 ?_
      refine sv_iload_n 1 C dX9_forget_75 rfl rfl ?_
      refine sv_iconst (v := 0) C dX9_forget_76 (by decide) ?_
      obtain ⟨g77, hf⟩ := sv_g_some hf
      refine md_iast C 9 rfl g77 dX9_forget_77 ?_
      refine sv_aload_n 0 C dX9_forget_78 rfl rfl ?_
      refine md_getr C fl_X9_44 (by decide) dX9_forget_79 ?_
      refine sv_iload_n 1 C dX9_forget_82 rfl rfl ?_
      refine sv_iconst (v := 0) C dX9_forget_83 (by decide) ?_
      obtain ⟨g84, hf⟩ := sv_g_some hf
      refine md_iast C 10 rfl g84 dX9_forget_84 ?_
      refine sv_iinc (v := x1 + 1) (lv' := [(1, .int (x1 + 1)), (0, .ref h0)]) 1 C dX9_forget_85 rfl rfl (by rw [hN]; decide) rfl ?_
      refine sv_goto (tgt := 65) C dX9_forget_88 (by decide) ?_
      refine sv_sub (lv' := [(0, .ref h0), (1, .int (x1 + 1))]) [1, 0] rfl ?_
      exact ih _ _ hf
set_option maxHeartbeats 4000000 in
set_option maxRecDepth 100000 in
theorem w_X9_forget_43 {E : sv_E} {X : sv_X} {h0 : Nat} {ad : Nat → Nat} {sz : Nat} {q : md_B} (C : sv_C E X cX9_forget RX9 []) (hZ : sv_Z E X none none (md_w E h0 ad q) sz 0 0) (hR : sv_R X = { frames := 0, cells := 0, slots := 0, locals := 0 }) (hN : sv_nL X = 2) : ∀ (n : Nat) (B : md_B) (x1 : Int32), f_X9_forget_43 n B x1 = some q → sv_J E X (md_w E h0 ad B) sz 0 0 43 [(0, .ref h0), (1, .int x1)] [] := by
  intro n
  induction n with
  | zero =>
    intro B x1 hf
    rw [f_X9_forget_43] at hf
    cases hf
  | succ n ih =>
    intro B x1 hf
    rw [f_X9_forget_43] at hf
    refine sv_iload_n 1 C dX9_forget_43 rfl rfl ?_
    refine sv_bipush (v := 18) C dX9_forget_44 (by decide) ?_
    refine sv_icmp_ge (tgt := 63) C dX9_forget_46 (by decide) (fun c46 => ?_) (fun c46 => ?_)
    · replace hf := sv_if_t c46 hf
      refine sv_iconst (v := 0) C dX9_forget_63 (by decide) ?_
      refine sv_istore_n (lv' := [(1, .int 0), (0, .ref h0)]) C dX9_forget_64 rfl (by rw [hN]; decide) rfl ?_
      refine sv_sub (lv' := [(0, .ref h0), (1, .int 0)]) [1, 0] rfl ?_
      exact w_X9_forget_65 C hZ hR hN sv_fu _ _ hf
    · replace hf := sv_if_f c46 hf
      refine sv_aload_n 0 C dX9_forget_49 rfl rfl ?_
      refine md_getr C fl_X9_35 (by decide) dX9_forget_50 ?_
      refine sv_iload_n 1 C dX9_forget_53 rfl rfl ?_
      refine sv_ldc C kw_562 dX9_forget_54 ?_
      obtain ⟨g56, hf⟩ := sv_g_some hf
      refine md_iast C 7 rfl g56 dX9_forget_56 ?_
      refine sv_iinc (v := x1 + 1) (lv' := [(1, .int (x1 + 1)), (0, .ref h0)]) 1 C dX9_forget_57 rfl rfl (by rw [hN]; decide) rfl ?_
      refine sv_goto (tgt := 43) C dX9_forget_60 (by decide) ?_
      refine sv_sub (lv' := [(0, .ref h0), (1, .int (x1 + 1))]) [1, 0] rfl ?_
      exact ih _ _ hf
set_option maxHeartbeats 4000000 in
set_option maxRecDepth 100000 in
theorem w_X9_forget_22 {E : sv_E} {X : sv_X} {h0 : Nat} {ad : Nat → Nat} {sz : Nat} {q : md_B} (C : sv_C E X cX9_forget RX9 []) (hZ : sv_Z E X none none (md_w E h0 ad q) sz 0 0) (hR : sv_R X = { frames := 0, cells := 0, slots := 0, locals := 0 }) (hN : sv_nL X = 2) : ∀ (n : Nat) (B : md_B) (x1 : Int32), f_X9_forget_22 n B x1 = some q → sv_J E X (md_w E h0 ad B) sz 0 0 22 [(0, .ref h0), (1, .int x1)] [] := by
  intro n
  induction n with
  | zero =>
    intro B x1 hf
    rw [f_X9_forget_22] at hf
    cases hf
  | succ n ih =>
    intro B x1 hf
    rw [f_X9_forget_22] at hf
    refine sv_iload_n 1 C dX9_forget_22 rfl rfl ?_
    refine sv_bipush (v := 9) C dX9_forget_23 (by decide) ?_
    refine sv_icmp_ge (tgt := 41) C dX9_forget_25 (by decide) (fun c25 => ?_) (fun c25 => ?_)
    · replace hf := sv_if_t c25 hf
      refine sv_iconst (v := 0) C dX9_forget_41 (by decide) ?_
      refine sv_istore_n (lv' := [(1, .int 0), (0, .ref h0)]) C dX9_forget_42 rfl (by rw [hN]; decide) rfl ?_
      refine sv_sub (lv' := [(0, .ref h0), (1, .int 0)]) [1, 0] rfl ?_
      exact w_X9_forget_43 C hZ hR hN sv_fu _ _ hf
    · replace hf := sv_if_f c25 hf
      refine sv_aload_n 0 C dX9_forget_28 rfl rfl ?_
      refine md_getr C fl_X9_23 (by decide) dX9_forget_29 ?_
      refine sv_iload_n 1 C dX9_forget_32 rfl rfl ?_
      refine sv_iconst (v := 0) C dX9_forget_33 (by decide) ?_
      obtain ⟨g34, hf⟩ := sv_g_some hf
      refine md_iast C 3 rfl g34 dX9_forget_34 ?_
      refine sv_iinc (v := x1 + 1) (lv' := [(1, .int (x1 + 1)), (0, .ref h0)]) 1 C dX9_forget_35 rfl rfl (by rw [hN]; decide) rfl ?_
      refine sv_goto (tgt := 22) C dX9_forget_38 (by decide) ?_
      refine sv_sub (lv' := [(0, .ref h0), (1, .int (x1 + 1))]) [1, 0] rfl ?_
      exact ih _ _ hf
set_option maxHeartbeats 4000000 in
set_option maxRecDepth 100000 in
theorem m_X9_forget (l : Launch) (E : sv_E) (h0 : Nat) (ad : Nat → Nat) (sz : Nat) (B : md_B) (q : md_B) (hf : f_X9_forget B = some q) : sv_Met l E yX9_forget cX9_forget 2 none 0 0 [] [.ref h0] (md_w E h0 ad B) sz none (md_w E h0 ad q) sz 0 0 := by
  refine sv_ofJ (by decide) (Nat.le_of_ble_eq_true rfl) ?_
  intro X hX hN hnm hR C hZ
  replace C : sv_C E X cX9_forget RX9 [] := C
  show sv_J E X (md_w E h0 ad B) sz 0 0 0 [(0, .ref h0)] []
  rw [f_X9_forget] at hf
  refine sv_aload_n 0 C dX9_forget_0 rfl rfl ?_
  refine sv_iconst (v := 0) C dX9_forget_1 (by decide) ?_
  refine md_puti C fl_X9_90 (by decide) rfl rfl dX9_forget_2 ?_
  refine sv_aload_n 0 C dX9_forget_5 rfl rfl ?_
  refine sv_iconst (v := 0) C dX9_forget_6 (by decide) ?_
  refine md_puti C fl_X9_93 (by decide) rfl rfl dX9_forget_7 ?_
  refine sv_aload_n 0 C dX9_forget_10 rfl rfl ?_
  refine sv_iconst (v := 0) C dX9_forget_11 (by decide) ?_
  refine md_puti C fl_X9_289 (by decide) rfl rfl dX9_forget_12 ?_
  refine sv_aload_n 0 C dX9_forget_15 rfl rfl ?_
  refine sv_iconst (v := 0) C dX9_forget_16 (by decide) ?_
  refine md_puti C fl_X9_280 (by decide) (by decide) (by decide) dX9_forget_17 ?_
  refine sv_iconst (v := 0) C dX9_forget_20 (by decide) ?_
  refine sv_istore_n (lv' := [(1, .int 0), (0, .ref h0)]) C dX9_forget_21 rfl (by rw [hN]; decide) rfl ?_
  refine sv_sub (lv' := [(0, .ref h0), (1, .int 0)]) [1, 0] rfl ?_
  exact w_X9_forget_22 C hZ hR hN sv_fu _ _ hf
def f_X9_feed_74 (k21 : md_B → Int32 → Int32 → Int32 → Int32 → Int32 → Int32 → Option (Int32 × md_B)) (B : md_B) (x1 : Int32) (x2 : Int32) (x3 : Int32) (x4 : Int32) (x5 : Int32) (x6 : Int32) (s0 : Int32) : Option (Int32 × md_B) :=
  sv_g (sv_inb ((B.1 2) + x6) 2000) (
    k21 (md_pa B 1 ((B.1 2) + x6) ((s0 >>> ((24 - (8 * (x6 - x6 / 4 * 4))) &&& 31)) &&& 255)) x1 x2 x3 x4 x5 (x6 + 1))
def f_X9_feed_21 : Nat → md_B → Int32 → Int32 → Int32 → Int32 → Int32 → Int32 → Option (Int32 × md_B)
  | 0, _, _, _, _, _, _, _ => none
  | n + 1, B, x1, x2, x3, x4, x5, x6 =>
    if 20 ≤ x6 then
      some ((md_pf B 2 ((B.1 2) + 20)).1 2, md_pf B 2 ((B.1 2) + 20))
    else
      if 4 ≤ x6 then
        if 8 ≤ x6 then
          if 12 ≤ x6 then
            if 16 ≤ x6 then
              f_X9_feed_74 (f_X9_feed_21 n) B x1 x2 x3 x4 x5 x6 x5
            else
              f_X9_feed_74 (f_X9_feed_21 n) B x1 x2 x3 x4 x5 x6 x4
          else
            f_X9_feed_74 (f_X9_feed_21 n) B x1 x2 x3 x4 x5 x6 x3
        else
          f_X9_feed_74 (f_X9_feed_21 n) B x1 x2 x3 x4 x5 x6 x2
      else
        f_X9_feed_74 (f_X9_feed_21 n) B x1 x2 x3 x4 x5 x6 x1
def f_X9_feed (B : md_B) (x1 : Int32) (x2 : Int32) (x3 : Int32) (x4 : Int32) (x5 : Int32) : Option (Int32 × md_B) :=
  if ((md_pf B 0 0).1 2) ≤ 1980 then
    f_X9_feed_21 sv_fu (md_pf B 0 0) x1 x2 x3 x4 x5 0
  else
    some ((-2147483648), md_pf B 0 0)
set_option maxHeartbeats 4000000 in
set_option maxRecDepth 100000 in
theorem w_X9_feed_74 {E : sv_E} {X : sv_X} {h0 : Nat} {ad : Nat → Nat} {sz : Nat} {q : Int32 × md_B} (C : sv_C E X cX9_feed RX9 []) (hZ : sv_Z E X (some .int) (some (.int q.1)) (md_w E h0 ad q.2) sz 0 0) (hR : sv_R X = { frames := 0, cells := 0, slots := 0, locals := 0 }) (hN : sv_nL X = 8) {k21 : md_B → Int32 → Int32 → Int32 → Int32 → Int32 → Int32 → Option (Int32 × md_B)} (hk21 : ∀ (B : md_B) (x1 : Int32) (x2 : Int32) (x3 : Int32) (x4 : Int32) (x5 : Int32) (x6 : Int32), k21 B x1 x2 x3 x4 x5 x6 = some q → sv_J E X (md_w E h0 ad B) sz 0 0 21 [(0, .ref h0), (1, .int x1), (2, .int x2), (3, .int x3), (4, .int x4), (5, .int x5), (6, .int x6)] []) (B : md_B) (x1 : Int32) (x2 : Int32) (x3 : Int32) (x4 : Int32) (x5 : Int32) (x6 : Int32) (s0 : Int32) (hf : f_X9_feed_74 k21 B x1 x2 x3 x4 x5 x6 s0 = some q) : sv_J E X (md_w E h0 ad B) sz 0 0 74 [(0, .ref h0), (1, .int x1), (2, .int x2), (3, .int x3), (4, .int x4), (5, .int x5), (6, .int x6)] [.int s0] := by
  rw [f_X9_feed_74] at hf
  refine sv_istore (lv' := [(7, .int s0), (0, .ref h0), (1, .int x1), (2, .int x2), (3, .int x3), (4, .int x4), (5, .int x5), (6, .int x6)]) C dX9_feed_74 (by rw [hN]; decide) rfl ?_
  refine sv_aload_n 1 C dX9_feed_76 rfl rfl ?_
  refine md_getr C fl_X9_13 (by decide) dX9_feed_77 ?_
  refine sv_aload_n 1 C dX9_feed_80 rfl rfl ?_
  refine md_geti C fl_X9_70 (by decide) dX9_feed_81 ?_
  refine sv_iload 7 C dX9_feed_84 rfl ?_
  refine sv_iadd C dX9_feed_86 ?_
  refine sv_iload 0 C dX9_feed_87 rfl ?_
  refine sv_bipush (v := 24) C dX9_feed_89 (by decide) ?_
  refine sv_bipush (v := 8) C dX9_feed_91 (by decide) ?_
  refine sv_iload 7 C dX9_feed_93 rfl ?_
  refine sv_iconst (v := 4) C dX9_feed_95 (by decide) ?_
  refine sv_irem C dX9_feed_96 (by decide) ?_
  refine sv_imul C dX9_feed_97 ?_
  refine sv_isub C dX9_feed_98 ?_
  refine sv_ishr C dX9_feed_99 ?_
  refine sv_sipush (v := 255) C dX9_feed_100 (by decide) ?_
  refine sv_iand C dX9_feed_103 ?_
  obtain ⟨g104, hf⟩ := sv_g_some hf
  refine md_iast C 0 rfl g104 dX9_feed_104 ?_
  refine sv_iinc (v := x6 + 1) (lv' := [(6, .int (x6 + 1)), (7, .int s0), (0, .ref h0), (1, .int x1), (2, .int x2), (3, .int x3), (4, .int x4), (5, .int x5)]) 7 C dX9_feed_105 rfl rfl (by rw [hN]; decide) rfl ?_
  refine sv_goto (tgt := 21) C dX9_feed_108 (by decide) ?_
  refine sv_sub (lv' := [(0, .ref h0), (1, .int x1), (2, .int x2), (3, .int x3), (4, .int x4), (5, .int x5), (6, .int (x6 + 1))]) [2, 3, 4, 5, 6, 7, 0] rfl ?_
  exact hk21 _ _ _ _ _ _ _ hf
set_option maxHeartbeats 4000000 in
set_option maxRecDepth 100000 in
theorem w_X9_feed_21 {E : sv_E} {X : sv_X} {h0 : Nat} {ad : Nat → Nat} {sz : Nat} {q : Int32 × md_B} (C : sv_C E X cX9_feed RX9 []) (hZ : sv_Z E X (some .int) (some (.int q.1)) (md_w E h0 ad q.2) sz 0 0) (hR : sv_R X = { frames := 0, cells := 0, slots := 0, locals := 0 }) (hN : sv_nL X = 8) : ∀ (n : Nat) (B : md_B) (x1 : Int32) (x2 : Int32) (x3 : Int32) (x4 : Int32) (x5 : Int32) (x6 : Int32), f_X9_feed_21 n B x1 x2 x3 x4 x5 x6 = some q → sv_J E X (md_w E h0 ad B) sz 0 0 21 [(0, .ref h0), (1, .int x1), (2, .int x2), (3, .int x3), (4, .int x4), (5, .int x5), (6, .int x6)] [] := by
  intro n
  induction n with
  | zero =>
    intro B x1 x2 x3 x4 x5 x6 hf
    rw [f_X9_feed_21] at hf
    cases hf
  | succ n ih =>
    intro B x1 x2 x3 x4 x5 x6 hf
    rw [f_X9_feed_21] at hf
    refine sv_iload 6 C dX9_feed_21 rfl ?_
    refine sv_bipush (v := 20) C dX9_feed_23 (by decide) ?_
    refine sv_icmp_ge (tgt := 111) C dX9_feed_25 (by decide) (fun c25 => ?_) (fun c25 => ?_)
    · replace hf := sv_if_t c25 hf
      refine sv_aload_n 0 C dX9_feed_111 rfl rfl ?_
      refine sv_dup C dX9_feed_112 rfl ?_
      refine md_geti C fl_X9_70 (by decide) dX9_feed_113 ?_
      refine sv_bipush (v := 20) C dX9_feed_116 (by decide) ?_
      refine sv_iadd C dX9_feed_118 ?_
      refine md_puti C fl_X9_70 (by decide) rfl rfl dX9_feed_119 ?_
      refine sv_aload_n 0 C dX9_feed_122 rfl rfl ?_
      refine md_geti C fl_X9_70 (by decide) dX9_feed_123 ?_
      exact sv_iret C (by cases hf; exact hZ) dX9_feed_126
    · replace hf := sv_if_f c25 hf
      refine sv_iload 6 C dX9_feed_28 rfl ?_
      refine sv_iconst (v := 4) C dX9_feed_30 (by decide) ?_
      refine sv_icmp_ge (tgt := 38) C dX9_feed_31 (by decide) (fun c31 => ?_) (fun c31 => ?_)
      · replace hf := sv_if_t c31 hf
        refine sv_iload 6 C dX9_feed_38 rfl ?_
        refine sv_bipush (v := 8) C dX9_feed_40 (by decide) ?_
        refine sv_icmp_ge (tgt := 49) C dX9_feed_42 (by decide) (fun c42 => ?_) (fun c42 => ?_)
        · replace hf := sv_if_t c42 hf
          refine sv_iload 6 C dX9_feed_49 rfl ?_
          refine sv_bipush (v := 12) C dX9_feed_51 (by decide) ?_
          refine sv_icmp_ge (tgt := 60) C dX9_feed_53 (by decide) (fun c53 => ?_) (fun c53 => ?_)
          · replace hf := sv_if_t c53 hf
            refine sv_iload 6 C dX9_feed_60 rfl ?_
            refine sv_bipush (v := 16) C dX9_feed_62 (by decide) ?_
            refine sv_icmp_ge (tgt := 72) C dX9_feed_64 (by decide) (fun c64 => ?_) (fun c64 => ?_)
            · replace hf := sv_if_t c64 hf
              refine sv_iload 5 C dX9_feed_72 rfl ?_
              refine sv_sub (lv' := [(0, .ref h0), (1, .int x1), (2, .int x2), (3, .int x3), (4, .int x4), (5, .int x5), (6, .int x6)]) [0, 1, 2, 3, 4, 5, 6] rfl ?_
              exact w_X9_feed_74 C hZ hR hN ih _ _ _ _ _ _ _ _ hf
            · replace hf := sv_if_f c64 hf
              refine sv_iload 4 C dX9_feed_67 rfl ?_
              refine sv_goto (tgt := 74) C dX9_feed_69 (by decide) ?_
              refine sv_sub (lv' := [(0, .ref h0), (1, .int x1), (2, .int x2), (3, .int x3), (4, .int x4), (5, .int x5), (6, .int x6)]) [0, 1, 2, 3, 4, 5, 6] rfl ?_
              exact w_X9_feed_74 C hZ hR hN ih _ _ _ _ _ _ _ _ hf
          · replace hf := sv_if_f c53 hf
            refine sv_iload_n 3 C dX9_feed_56 rfl rfl ?_
            refine sv_goto (tgt := 74) C dX9_feed_57 (by decide) ?_
            refine sv_sub (lv' := [(0, .ref h0), (1, .int x1), (2, .int x2), (3, .int x3), (4, .int x4), (5, .int x5), (6, .int x6)]) [0, 1, 2, 3, 4, 5, 6] rfl ?_
            exact w_X9_feed_74 C hZ hR hN ih _ _ _ _ _ _ _ _ hf
        · replace hf := sv_if_f c42 hf
          refine sv_iload_n 2 C dX9_feed_45 rfl rfl ?_
          refine sv_goto (tgt := 74) C dX9_feed_46 (by decide) ?_
          refine sv_sub (lv' := [(0, .ref h0), (1, .int x1), (2, .int x2), (3, .int x3), (4, .int x4), (5, .int x5), (6, .int x6)]) [0, 1, 2, 3, 4, 5, 6] rfl ?_
          exact w_X9_feed_74 C hZ hR hN ih _ _ _ _ _ _ _ _ hf
      · replace hf := sv_if_f c31 hf
        refine sv_iload_n 1 C dX9_feed_34 rfl rfl ?_
        refine sv_goto (tgt := 74) C dX9_feed_35 (by decide) ?_
        refine sv_sub (lv' := [(0, .ref h0), (1, .int x1), (2, .int x2), (3, .int x3), (4, .int x4), (5, .int x5), (6, .int x6)]) [0, 1, 2, 3, 4, 5, 6] rfl ?_
        exact w_X9_feed_74 C hZ hR hN ih _ _ _ _ _ _ _ _ hf
set_option maxHeartbeats 4000000 in
set_option maxRecDepth 100000 in
theorem m_X9_feed (l : Launch) (E : sv_E) (h0 : Nat) (ad : Nat → Nat) (sz : Nat) (B : md_B) (x1 : Int32) (x2 : Int32) (x3 : Int32) (x4 : Int32) (x5 : Int32) (q : Int32 × md_B) (hf : f_X9_feed B x1 x2 x3 x4 x5 = some q) : sv_Met l E yX9_feed cX9_feed 8 (some .int) 0 0 [] [.ref h0, .int x1, .int x2, .int x3, .int x4, .int x5] (md_w E h0 ad B) sz (some (.int q.1)) (md_w E h0 ad q.2) sz 0 0 := by
  refine sv_ofJ (by decide) (Nat.le_of_ble_eq_true rfl) ?_
  intro X hX hN hnm hR C hZ
  replace C : sv_C E X cX9_feed RX9 [] := C
  show sv_J E X (md_w E h0 ad B) sz 0 0 0 [(0, .ref h0), (1, .int x1), (2, .int x2), (3, .int x3), (4, .int x4), (5, .int x5)] []
  rw [f_X9_feed] at hf
  refine sv_aload_n 0 C dX9_feed_0 rfl rfl ?_
  refine sv_iconst (v := 0) C dX9_feed_1 (by decide) ?_
  refine md_puti C fl_X9_1 (by decide) rfl rfl dX9_feed_2 ?_
  refine sv_aload_n 0 C dX9_feed_5 rfl rfl ?_
  refine md_geti C fl_X9_70 (by decide) dX9_feed_6 ?_
  refine sv_sipush (v := 1980) C dX9_feed_9 (by decide) ?_
  refine sv_icmp_le (tgt := 18) C dX9_feed_12 (by decide) (fun c12 => ?_) (fun c12 => ?_)
  · replace hf := sv_if_t c12 hf
    refine sv_iconst (v := 0) C dX9_feed_18 (by decide) ?_
    refine sv_istore (lv' := [(6, .int 0), (0, .ref h0), (1, .int x1), (2, .int x2), (3, .int x3), (4, .int x4), (5, .int x5)]) C dX9_feed_19 (by rw [hN]; decide) rfl ?_
    refine sv_sub (lv' := [(0, .ref h0), (1, .int x1), (2, .int x2), (3, .int x3), (4, .int x4), (5, .int x5), (6, .int 0)]) [1, 2, 3, 4, 5, 6, 0] rfl ?_
    exact w_X9_feed_21 C hZ hR hN sv_fu _ _ _ _ _ _ _ hf
  · replace hf := sv_if_f c12 hf
    refine sv_ldc C kw_562 dX9_feed_15 ?_
    exact sv_iret C (by cases hf; exact hZ) dX9_feed_17
def f_X9_end (B : md_B) (x1 : Int32) : Option (Int32 × md_B) :=
  (f_X9_in (md_pf B 0 0) x1.toInt64 0 (((md_pf B 0 0).1 2).toInt64)).bind (fun q13 =>
    if q13.1 = 0 then
      some (0, q13.2)
    else
      some (1, md_pf q13.2 2 x1))
set_option maxHeartbeats 4000000 in
set_option maxRecDepth 100000 in
theorem m_X9_end (l : Launch) (E : sv_E) (h0 : Nat) (ad : Nat → Nat) (sz : Nat) (B : md_B) (x1 : Int32) (q : Int32 × md_B) (hf : f_X9_end B x1 = some q) : sv_Met l E yX9_end cX9_end 2 (some .boolean) 1 25 [] [.ref h0, .int x1] (md_w E h0 ad B) sz (some (.int q.1)) (md_w E h0 ad q.2) sz 0 0 := by
  refine sv_ofJ (by decide) (Nat.le_of_ble_eq_true rfl) ?_
  intro X hX hN hnm hR C hZ
  replace C : sv_C E X cX9_end RX9 [] := C
  show sv_J E X (md_w E h0 ad B) sz 0 0 0 [(0, .ref h0), (1, .int x1)] []
  rw [f_X9_end] at hf
  refine sv_aload_n 0 C dX9_end_0 rfl rfl ?_
  refine sv_iconst (v := 0) C dX9_end_1 (by decide) ?_
  refine md_puti C fl_X9_1 (by decide) rfl rfl dX9_end_2 ?_
  refine sv_iload_n 1 C dX9_end_5 rfl rfl ?_
  refine sv_i2l C dX9_end_6 ?_
  refine sv_lconst (v := 0) C dX9_end_7 (by decide) ?_
  refine sv_aload_n 0 C dX9_end_8 rfl rfl ?_
  refine md_geti C fl_X9_70 (by decide) dX9_end_9 ?_
  refine sv_i2l C dX9_end_12 ?_
  obtain ⟨q13, hc13, hf⟩ := sv_bind_some hf
  refine sv_callS0 C ms_X9_74 (m_X9_in (sv_l X) E h0 ad sz _ _ _ _ _ hc13) sv_sx0 rfl rfl (Nat.le_of_ble_eq_true rfl) ⟨by rw [hR]; decide, by rw [hR]; decide⟩ ⟨by rw [hR]; decide, by rw [hR]; decide⟩ dX9_end_13 ?_
  refine sv_if_ne (tgt := 21) C dX9_end_16 (by decide) (fun c16 => ?_) (fun c16 => ?_)
  · replace hf := sv_if_f c16 hf
    refine sv_aload_n 0 C dX9_end_21 rfl rfl ?_
    refine sv_iload_n 1 C dX9_end_22 rfl rfl ?_
    refine md_puti C fl_X9_70 (by decide) rfl rfl dX9_end_23 ?_
    refine sv_iconst (v := 1) C dX9_end_26 (by decide) ?_
    exact sv_zret (ty := .boolean) C (by decide) (by cases hf; exact hZ) dX9_end_27
  · replace hf := sv_if_t c16 hf
    refine sv_iconst (v := 0) C dX9_end_19 (by decide) ?_
    exact sv_zret (ty := .boolean) C (by decide) (by cases hf; exact hZ) dX9_end_20
def f_X9_sixteen (B : md_B) (x0 : Int32) : Option (Int32 × md_B) :=
  (f_X9_in B x0.toInt64 48 57).bind (fun q8 =>
    if q8.1 = 0 then
      (f_X9_in q8.2 x0.toInt64 65 70).bind (fun q29 =>
        if q29.1 = 0 then
          some ((-1), q29.2)
        else
          some ((x0 - 65) + 10, q29.2))
    else
      some (x0 - 48, q8.2))
set_option maxHeartbeats 4000000 in
set_option maxRecDepth 100000 in
theorem m_X9_sixteen (l : Launch) (E : sv_E) (h0 : Nat) (ad : Nat → Nat) (sz : Nat) (B : md_B) (x0 : Int32) (q : Int32 × md_B) (hf : f_X9_sixteen B x0 = some q) : sv_Met l E yX9_sixteen cX9_sixteen 1 (some .int) 1 25 [] [.int x0] (md_w E h0 ad B) sz (some (.int q.1)) (md_w E h0 ad q.2) sz 0 0 := by
  refine sv_ofJ (by decide) (Nat.le_of_ble_eq_true rfl) ?_
  intro X hX hN hnm hR C hZ
  replace C : sv_C E X cX9_sixteen RX9 [] := C
  show sv_J E X (md_w E h0 ad B) sz 0 0 0 [(0, .int x0)] []
  rw [f_X9_sixteen] at hf
  refine sv_iload_n 0 C dX9_sixteen_0 rfl rfl ?_
  refine sv_i2l C dX9_sixteen_1 ?_
  refine sv_ldc2 C kw_590 dX9_sixteen_2 ?_
  refine sv_ldc2 C kw_591 dX9_sixteen_5 ?_
  obtain ⟨q8, hc8, hf⟩ := sv_bind_some hf
  refine sv_callS0 C ms_X9_74 (m_X9_in (sv_l X) E h0 ad sz _ _ _ _ _ hc8) sv_sx0 rfl rfl (Nat.le_of_ble_eq_true rfl) ⟨by rw [hR]; decide, by rw [hR]; decide⟩ ⟨by rw [hR]; decide, by rw [hR]; decide⟩ dX9_sixteen_8 ?_
  refine sv_if_eq (tgt := 21) C dX9_sixteen_11 (by decide) (fun c11 => ?_) (fun c11 => ?_)
  · replace hf := sv_if_t c11 hf
    refine sv_iload_n 0 C dX9_sixteen_21 rfl rfl ?_
    refine sv_i2l C dX9_sixteen_22 ?_
    refine sv_ldc2 C kw_592 dX9_sixteen_23 ?_
    refine sv_ldc2 C kw_593 dX9_sixteen_26 ?_
    obtain ⟨q29, hc29, hf⟩ := sv_bind_some hf
    refine sv_callS0 C ms_X9_74 (m_X9_in (sv_l X) E h0 ad sz _ _ _ _ _ hc29) sv_sx0 rfl rfl (Nat.le_of_ble_eq_true rfl) ⟨by rw [hR]; decide, by rw [hR]; decide⟩ ⟨by rw [hR]; decide, by rw [hR]; decide⟩ dX9_sixteen_29 ?_
    refine sv_if_eq (tgt := 45) C dX9_sixteen_32 (by decide) (fun c32 => ?_) (fun c32 => ?_)
    · replace hf := sv_if_t c32 hf
      refine sv_iconst (v := (-1)) C dX9_sixteen_45 (by decide) ?_
      exact sv_iret C (by cases hf; exact hZ) dX9_sixteen_46
    · replace hf := sv_if_f c32 hf
      refine sv_iload_n 0 C dX9_sixteen_35 rfl rfl ?_
      refine sv_bipush (v := 65) C dX9_sixteen_36 (by decide) ?_
      refine sv_isub C dX9_sixteen_38 ?_
      refine sv_bipush (v := 10) C dX9_sixteen_39 (by decide) ?_
      refine sv_iadd C dX9_sixteen_41 ?_
      refine sv_goto (tgt := 46) C dX9_sixteen_42 (by decide) ?_
      exact sv_iret C (by cases hf; exact hZ) dX9_sixteen_46
  · replace hf := sv_if_f c11 hf
    refine sv_iload_n 0 C dX9_sixteen_14 rfl rfl ?_
    refine sv_bipush (v := 48) C dX9_sixteen_15 (by decide) ?_
    refine sv_isub C dX9_sixteen_17 ?_
    refine sv_goto (tgt := 46) C dX9_sixteen_18 (by decide) ?_
    exact sv_iret C (by cases hf; exact hZ) dX9_sixteen_46
def f_X9_size (B : md_B) (x1 : Int32) : Option (Int32 × md_B) :=
  sv_g (sv_inb x1 80) (
    sv_g (sv_inb x1 80) (
      some ((B.2 12 x1.toNatClampNeg) - (B.2 11 x1.toNatClampNeg), B)))
set_option maxHeartbeats 4000000 in
set_option maxRecDepth 100000 in
theorem m_X9_size (l : Launch) (E : sv_E) (h0 : Nat) (ad : Nat → Nat) (sz : Nat) (B : md_B) (x1 : Int32) (q : Int32 × md_B) (hf : f_X9_size B x1 = some q) : sv_Met l E yX9_size cX9_size 2 (some .int) 0 0 [] [.ref h0, .int x1] (md_w E h0 ad B) sz (some (.int q.1)) (md_w E h0 ad q.2) sz 0 0 := by
  refine sv_ofJ (by decide) (Nat.le_of_ble_eq_true rfl) ?_
  intro X hX hN hnm hR C hZ
  replace C : sv_C E X cX9_size RX9 [] := C
  show sv_J E X (md_w E h0 ad B) sz 0 0 0 [(0, .ref h0), (1, .int x1)] []
  rw [f_X9_size] at hf
  refine sv_aload_n 0 C dX9_size_0 rfl rfl ?_
  refine md_getr C fl_X9_29 (by decide) dX9_size_1 ?_
  refine sv_iload_n 1 C dX9_size_4 rfl rfl ?_
  obtain ⟨g5, hf⟩ := sv_g_some hf
  refine md_iald C 5 rfl g5 dX9_size_5 ?_
  refine sv_aload_n 0 C dX9_size_6 rfl rfl ?_
  refine md_getr C fl_X9_26 (by decide) dX9_size_7 ?_
  refine sv_iload_n 1 C dX9_size_10 rfl rfl ?_
  obtain ⟨g11, hf⟩ := sv_g_some hf
  refine md_iald C 4 rfl g11 dX9_size_11 ?_
  refine sv_isub C dX9_size_12 ?_
  exact sv_iret C (by cases hf; exact hZ) dX9_size_13
def f_X9_at (B : md_B) (x1 : Int32) (x2 : Int32) : Option (Int32 × md_B) :=
  sv_g (sv_inb x1 80) (
    sv_g (sv_inb ((B.2 11 x1.toNatClampNeg) + x2) 79) (
      some (B.2 6 ((B.2 11 x1.toNatClampNeg) + x2).toNatClampNeg, B)))
set_option maxHeartbeats 4000000 in
set_option maxRecDepth 100000 in
theorem m_X9_at (l : Launch) (E : sv_E) (h0 : Nat) (ad : Nat → Nat) (sz : Nat) (B : md_B) (x1 : Int32) (x2 : Int32) (q : Int32 × md_B) (hf : f_X9_at B x1 x2 = some q) : sv_Met l E yX9_at cX9_at 3 (some .int) 0 0 [] [.ref h0, .int x1, .int x2] (md_w E h0 ad B) sz (some (.int q.1)) (md_w E h0 ad q.2) sz 0 0 := by
  refine sv_ofJ (by decide) (Nat.le_of_ble_eq_true rfl) ?_
  intro X hX hN hnm hR C hZ
  replace C : sv_C E X cX9_at RX9 [] := C
  show sv_J E X (md_w E h0 ad B) sz 0 0 0 [(0, .ref h0), (1, .int x1), (2, .int x2)] []
  rw [f_X9_at] at hf
  refine sv_aload_n 0 C dX9_at_0 rfl rfl ?_
  refine md_getr C fl_X9_20 (by decide) dX9_at_1 ?_
  refine sv_aload_n 0 C dX9_at_4 rfl rfl ?_
  refine md_getr C fl_X9_26 (by decide) dX9_at_5 ?_
  refine sv_iload_n 1 C dX9_at_8 rfl rfl ?_
  obtain ⟨g9, hf⟩ := sv_g_some hf
  refine md_iald C 4 rfl g9 dX9_at_9 ?_
  refine sv_iload_n 2 C dX9_at_10 rfl rfl ?_
  refine sv_iadd C dX9_at_11 ?_
  obtain ⟨g12, hf⟩ := sv_g_some hf
  refine md_iald C 2 rfl g12 dX9_at_12 ?_
  exact sv_iret C (by cases hf; exact hZ) dX9_at_13
def f_X9_isDigit (B : md_B) (x0 : Int32) : Option (Int32 × md_B) :=
  (f_X9_in B x0.toInt64 48 57).bind (fun q8 =>
    sv_g (decide (vp_nar .boolean q8.1 = q8.1)) (
      some (q8.1, q8.2)))
set_option maxHeartbeats 4000000 in
set_option maxRecDepth 100000 in
theorem m_X9_isDigit (l : Launch) (E : sv_E) (h0 : Nat) (ad : Nat → Nat) (sz : Nat) (B : md_B) (x0 : Int32) (q : Int32 × md_B) (hf : f_X9_isDigit B x0 = some q) : sv_Met l E yX9_isDigit cX9_isDigit 1 (some .boolean) 1 25 [] [.int x0] (md_w E h0 ad B) sz (some (.int q.1)) (md_w E h0 ad q.2) sz 0 0 := by
  refine sv_ofJ (by decide) (Nat.le_of_ble_eq_true rfl) ?_
  intro X hX hN hnm hR C hZ
  replace C : sv_C E X cX9_isDigit RX9 [] := C
  show sv_J E X (md_w E h0 ad B) sz 0 0 0 [(0, .int x0)] []
  rw [f_X9_isDigit] at hf
  refine sv_iload_n 0 C dX9_isDigit_0 rfl rfl ?_
  refine sv_i2l C dX9_isDigit_1 ?_
  refine sv_ldc2 C kw_590 dX9_isDigit_2 ?_
  refine sv_ldc2 C kw_591 dX9_isDigit_5 ?_
  obtain ⟨q8, hc8, hf⟩ := sv_bind_some hf
  refine sv_callS0 C ms_X9_74 (m_X9_in (sv_l X) E h0 ad sz _ _ _ _ _ hc8) sv_sx0 rfl rfl (Nat.le_of_ble_eq_true rfl) ⟨by rw [hR]; decide, by rw [hR]; decide⟩ ⟨by rw [hR]; decide, by rw [hR]; decide⟩ dX9_isDigit_8 ?_
  obtain ⟨g11, hf⟩ := sv_g_some hf
  exact sv_zret (ty := .boolean) C (sv_nz (of_decide_eq_true g11)) (by cases hf; exact hZ) dX9_isDigit_11
def f_X9_digits_2 : Nat → md_B → Int32 → Int32 → Int32 → Option (Int32 × md_B)
  | 0, _, _, _, _ => none
  | n + 1, B, x1, x2, x3 =>
    (f_X9_size B x1).bind (fun q7 =>
      if q7.1 ≤ (x2 + x3) then
        some (x3, q7.2)
      else
        (f_X9_at q7.2 x1 (x2 + x3)).bind (fun q18 =>
          (f_X9_isDigit q18.2 q18.1).bind (fun q21 =>
            if q21.1 = 0 then
              some (x3, q21.2)
            else
              (f_X9_digits_2 n) q21.2 x1 x2 (x3 + 1))))
def f_X9_digits (B : md_B) (x1 : Int32) (x2 : Int32) : Option (Int32 × md_B) :=
  f_X9_digits_2 sv_fu B x1 x2 0
set_option maxHeartbeats 4000000 in
set_option maxRecDepth 100000 in
theorem w_X9_digits_2 {E : sv_E} {X : sv_X} {h0 : Nat} {ad : Nat → Nat} {sz : Nat} {q : Int32 × md_B} (C : sv_C E X cX9_digits RX9 []) (hZ : sv_Z E X (some .int) (some (.int q.1)) (md_w E h0 ad q.2) sz 0 0) (hR : sv_R X = { frames := 2, cells := 0, slots := 0, locals := 45 }) (hN : sv_nL X = 4) : ∀ (n : Nat) (B : md_B) (x1 : Int32) (x2 : Int32) (x3 : Int32), f_X9_digits_2 n B x1 x2 x3 = some q → sv_J E X (md_w E h0 ad B) sz 0 0 2 [(0, .ref h0), (1, .int x1), (2, .int x2), (3, .int x3)] [] := by
  intro n
  induction n with
  | zero =>
    intro B x1 x2 x3 hf
    rw [f_X9_digits_2] at hf
    cases hf
  | succ n ih =>
    intro B x1 x2 x3 hf
    rw [f_X9_digits_2] at hf
    refine sv_iload_n 2 C dX9_digits_2 rfl rfl ?_
    refine sv_iload_n 3 C dX9_digits_3 rfl rfl ?_
    refine sv_iadd C dX9_digits_4 ?_
    refine sv_aload_n 0 C dX9_digits_5 rfl rfl ?_
    refine sv_iload_n 1 C dX9_digits_6 rfl rfl ?_
    obtain ⟨q7, hc7, hf⟩ := sv_bind_some hf
    refine sv_callV0 C mv_X9_153 (m_X9_size (sv_l X) E h0 ad sz _ _ _ hc7) sv_sx0 0 rfl rfl rfl rfl (Nat.le_of_ble_eq_true rfl) ⟨by rw [hR]; decide, by rw [hR]; decide⟩ ⟨by rw [hR]; decide, by rw [hR]; decide⟩ dX9_digits_7 ?_
    refine sv_icmp_ge (tgt := 33) C dX9_digits_10 (by decide) (fun c10 => ?_) (fun c10 => ?_)
    · replace hf := sv_if_t c10 hf
      refine sv_iload_n 3 C dX9_digits_33 rfl rfl ?_
      exact sv_iret C (by cases hf; exact hZ) dX9_digits_34
    · replace hf := sv_if_f c10 hf
      refine sv_aload_n 0 C dX9_digits_13 rfl rfl ?_
      refine sv_iload_n 1 C dX9_digits_14 rfl rfl ?_
      refine sv_iload_n 2 C dX9_digits_15 rfl rfl ?_
      refine sv_iload_n 3 C dX9_digits_16 rfl rfl ?_
      refine sv_iadd C dX9_digits_17 ?_
      obtain ⟨q18, hc18, hf⟩ := sv_bind_some hf
      refine sv_callV0 C mv_X9_156 (m_X9_at (sv_l X) E h0 ad sz _ _ _ _ hc18) sv_sx0 0 rfl rfl rfl rfl (Nat.le_of_ble_eq_true rfl) ⟨by rw [hR]; decide, by rw [hR]; decide⟩ ⟨by rw [hR]; decide, by rw [hR]; decide⟩ dX9_digits_18 ?_
      obtain ⟨q21, hc21, hf⟩ := sv_bind_some hf
      refine sv_callS0 C ms_X9_160 (m_X9_isDigit (sv_l X) E h0 ad sz _ _ _ hc21) sv_sx0 rfl rfl (Nat.le_of_ble_eq_true rfl) ⟨by rw [hR]; decide, by rw [hR]; decide⟩ ⟨by rw [hR]; decide, by rw [hR]; decide⟩ dX9_digits_21 ?_
      refine sv_if_eq (tgt := 33) C dX9_digits_24 (by decide) (fun c24 => ?_) (fun c24 => ?_)
      · replace hf := sv_if_t c24 hf
        refine sv_iload_n 3 C dX9_digits_33 rfl rfl ?_
        exact sv_iret C (by cases hf; exact hZ) dX9_digits_34
      · replace hf := sv_if_f c24 hf
        refine sv_iinc (v := x3 + 1) (lv' := [(3, .int (x3 + 1)), (0, .ref h0), (1, .int x1), (2, .int x2)]) 3 C dX9_digits_27 rfl rfl (by rw [hN]; decide) rfl ?_
        refine sv_goto (tgt := 2) C dX9_digits_30 (by decide) ?_
        refine sv_sub (lv' := [(0, .ref h0), (1, .int x1), (2, .int x2), (3, .int (x3 + 1))]) [1, 2, 3, 0] rfl ?_
        exact ih _ _ _ _ hf
set_option maxHeartbeats 4000000 in
set_option maxRecDepth 100000 in
theorem m_X9_digits (l : Launch) (E : sv_E) (h0 : Nat) (ad : Nat → Nat) (sz : Nat) (B : md_B) (x1 : Int32) (x2 : Int32) (q : Int32 × md_B) (hf : f_X9_digits B x1 x2 = some q) : sv_Met l E yX9_digits cX9_digits 4 (some .int) 2 45 [] [.ref h0, .int x1, .int x2] (md_w E h0 ad B) sz (some (.int q.1)) (md_w E h0 ad q.2) sz 0 0 := by
  refine sv_ofJ (by decide) (Nat.le_of_ble_eq_true rfl) ?_
  intro X hX hN hnm hR C hZ
  replace C : sv_C E X cX9_digits RX9 [] := C
  show sv_J E X (md_w E h0 ad B) sz 0 0 0 [(0, .ref h0), (1, .int x1), (2, .int x2)] []
  rw [f_X9_digits] at hf
  refine sv_iconst (v := 0) C dX9_digits_0 (by decide) ?_
  refine sv_istore_n (lv' := [(3, .int 0), (0, .ref h0), (1, .int x1), (2, .int x2)]) C dX9_digits_1 rfl (by rw [hN]; decide) rfl ?_
  refine sv_sub (lv' := [(0, .ref h0), (1, .int x1), (2, .int x2), (3, .int 0)]) [1, 2, 3, 0] rfl ?_
  exact w_X9_digits_2 C hZ hR hN sv_fu _ _ _ _ hf
def f_X9_bad (B : md_B) : Option (Int32 × md_B) :=
  some ((-2147483648), md_pf B 14 0)
set_option maxHeartbeats 4000000 in
set_option maxRecDepth 100000 in
theorem m_X9_bad (l : Launch) (E : sv_E) (h0 : Nat) (ad : Nat → Nat) (sz : Nat) (B : md_B) (q : Int32 × md_B) (hf : f_X9_bad B = some q) : sv_Met l E yX9_bad cX9_bad 1 (some .int) 0 0 [] [.ref h0] (md_w E h0 ad B) sz (some (.int q.1)) (md_w E h0 ad q.2) sz 0 0 := by
  refine sv_ofJ (by decide) (Nat.le_of_ble_eq_true rfl) ?_
  intro X hX hN hnm hR C hZ
  replace C : sv_C E X cX9_bad RX9 [] := C
  show sv_J E X (md_w E h0 ad B) sz 0 0 0 [(0, .ref h0)] []
  rw [f_X9_bad] at hf
  refine sv_aload_n 0 C dX9_bad_0 rfl rfl ?_
  refine sv_iconst (v := 0) C dX9_bad_1 (by decide) ?_
  refine md_puti C fl_X9_149 (by decide) (by decide) (by decide) dX9_bad_2 ?_
  refine sv_ldc C kw_562 dX9_bad_5 ?_
  exact sv_iret C (by cases hf; exact hZ) dX9_bad_7
def f_X9_whole_6 : Nat → md_B → Int32 → Int32 → Int32 → Int32 → Int32 → Option (Int32 × md_B)
  | 0, _, _, _, _, _, _ => none
  | n + 1, B, x1, x2, x3, x4, x5 =>
    if (x2 + x3) ≤ x5 then
      some (x4, B)
    else
      (f_X9_at B x1 x5).bind (fun q23 =>
        (f_X9_whole_6 n) q23.2 x1 x2 x3 (((10 * x4) + q23.1) - 48) (x5 + 1))
def f_X9_whole (B : md_B) (x1 : Int32) (x2 : Int32) (x3 : Int32) : Option (Int32 × md_B) :=
  f_X9_whole_6 sv_fu B x1 x2 x3 0 x2
set_option maxHeartbeats 4000000 in
set_option maxRecDepth 100000 in
theorem w_X9_whole_6 {E : sv_E} {X : sv_X} {h0 : Nat} {ad : Nat → Nat} {sz : Nat} {q : Int32 × md_B} (C : sv_C E X cX9_whole RX9 []) (hZ : sv_Z E X (some .int) (some (.int q.1)) (md_w E h0 ad q.2) sz 0 0) (hR : sv_R X = { frames := 1, cells := 0, slots := 0, locals := 22 }) (hN : sv_nL X = 6) : ∀ (n : Nat) (B : md_B) (x1 : Int32) (x2 : Int32) (x3 : Int32) (x4 : Int32) (x5 : Int32), f_X9_whole_6 n B x1 x2 x3 x4 x5 = some q → sv_J E X (md_w E h0 ad B) sz 0 0 6 [(0, .ref h0), (1, .int x1), (2, .int x2), (3, .int x3), (4, .int x4), (5, .int x5)] [] := by
  intro n
  induction n with
  | zero =>
    intro B x1 x2 x3 x4 x5 hf
    rw [f_X9_whole_6] at hf
    cases hf
  | succ n ih =>
    intro B x1 x2 x3 x4 x5 hf
    rw [f_X9_whole_6] at hf
    refine sv_iload 5 C dX9_whole_6 rfl ?_
    refine sv_iload_n 2 C dX9_whole_8 rfl rfl ?_
    refine sv_iload_n 3 C dX9_whole_9 rfl rfl ?_
    refine sv_iadd C dX9_whole_10 ?_
    refine sv_icmp_ge (tgt := 38) C dX9_whole_11 (by decide) (fun c11 => ?_) (fun c11 => ?_)
    · replace hf := sv_if_t c11 hf
      refine sv_iload 4 C dX9_whole_38 rfl ?_
      exact sv_iret C (by cases hf; exact hZ) dX9_whole_40
    · replace hf := sv_if_f c11 hf
      refine sv_bipush (v := 10) C dX9_whole_14 (by decide) ?_
      refine sv_iload 4 C dX9_whole_16 rfl ?_
      refine sv_imul C dX9_whole_18 ?_
      refine sv_aload_n 0 C dX9_whole_19 rfl rfl ?_
      refine sv_iload_n 1 C dX9_whole_20 rfl rfl ?_
      refine sv_iload 5 C dX9_whole_21 rfl ?_
      obtain ⟨q23, hc23, hf⟩ := sv_bind_some hf
      refine sv_callV0 C mv_X9_156 (m_X9_at (sv_l X) E h0 ad sz _ _ _ _ hc23) sv_sx0 0 rfl rfl rfl rfl (Nat.le_of_ble_eq_true rfl) ⟨by rw [hR]; decide, by rw [hR]; decide⟩ ⟨by rw [hR]; decide, by rw [hR]; decide⟩ dX9_whole_23 ?_
      refine sv_iadd C dX9_whole_26 ?_
      refine sv_bipush (v := 48) C dX9_whole_27 (by decide) ?_
      refine sv_isub C dX9_whole_29 ?_
      refine sv_istore (lv' := [(4, .int (((10 * x4) + q23.1) - 48)), (0, .ref h0), (1, .int x1), (2, .int x2), (3, .int x3), (5, .int x5)]) C dX9_whole_30 (by rw [hN]; decide) rfl ?_
      refine sv_iinc (v := x5 + 1) (lv' := [(5, .int (x5 + 1)), (4, .int (((10 * x4) + q23.1) - 48)), (0, .ref h0), (1, .int x1), (2, .int x2), (3, .int x3)]) 5 C dX9_whole_32 rfl rfl (by rw [hN]; decide) rfl ?_
      refine sv_goto (tgt := 6) C dX9_whole_35 (by decide) ?_
      refine sv_sub (lv' := [(0, .ref h0), (1, .int x1), (2, .int x2), (3, .int x3), (4, .int (((10 * x4) + q23.1) - 48)), (5, .int (x5 + 1))]) [2, 3, 4, 5, 1, 0] rfl ?_
      exact ih _ _ _ _ _ _ hf
set_option maxHeartbeats 4000000 in
set_option maxRecDepth 100000 in
theorem m_X9_whole (l : Launch) (E : sv_E) (h0 : Nat) (ad : Nat → Nat) (sz : Nat) (B : md_B) (x1 : Int32) (x2 : Int32) (x3 : Int32) (q : Int32 × md_B) (hf : f_X9_whole B x1 x2 x3 = some q) : sv_Met l E yX9_whole cX9_whole 6 (some .int) 1 22 [] [.ref h0, .int x1, .int x2, .int x3] (md_w E h0 ad B) sz (some (.int q.1)) (md_w E h0 ad q.2) sz 0 0 := by
  refine sv_ofJ (by decide) (Nat.le_of_ble_eq_true rfl) ?_
  intro X hX hN hnm hR C hZ
  replace C : sv_C E X cX9_whole RX9 [] := C
  show sv_J E X (md_w E h0 ad B) sz 0 0 0 [(0, .ref h0), (1, .int x1), (2, .int x2), (3, .int x3)] []
  rw [f_X9_whole] at hf
  refine sv_iconst (v := 0) C dX9_whole_0 (by decide) ?_
  refine sv_istore (lv' := [(4, .int 0), (0, .ref h0), (1, .int x1), (2, .int x2), (3, .int x3)]) C dX9_whole_1 (by rw [hN]; decide) rfl ?_
  refine sv_iload_n 3 C dX9_whole_3 rfl rfl ?_
  refine sv_istore (lv' := [(5, .int x2), (4, .int 0), (0, .ref h0), (1, .int x1), (2, .int x2), (3, .int x3)]) C dX9_whole_4 (by rw [hN]; decide) rfl ?_
  refine sv_sub (lv' := [(0, .ref h0), (1, .int x1), (2, .int x2), (3, .int x3), (4, .int 0), (5, .int x2)]) [2, 3, 4, 5, 1, 0] rfl ?_
  exact w_X9_whole_6 C hZ hR hN sv_fu _ _ _ _ _ _ hf
def f_X9_behind_52 (B : md_B) : Option (Int32 × md_B) :=
  (f_X9_bad B).bind (fun q53 =>
    some (q53.1, q53.2))
def f_X9_behind_100 (k63 : md_B → Int32 → Int32 → Int32 → Int32 → Int32 → Int32 → Option (Int32 × md_B)) (B : md_B) (x1 : Int32) (x2 : Int32) (x4 : Int32) (x5 : Int32) (x7 : Int32) (s0 : Int32) (s1 : Int32) : Option (Int32 × md_B) :=
  k63 B x1 x2 x4 x5 (s1 + s0) (x7 + 1)
def f_X9_behind_63 : Nat → md_B → Int32 → Int32 → Int32 → Int32 → Int32 → Int32 → Option (Int32 × md_B)
  | 0, _, _, _, _, _, _, _ => none
  | n + 1, B, x1, x2, x4, x5, x6, x7 =>
    if x4 ≤ x7 then
      some (x6, B)
    else
      if x5 ≤ x7 then
        f_X9_behind_100 (f_X9_behind_63 n) B x1 x2 x4 x5 x7 0 (10 * x6)
      else
        (f_X9_at B x1 ((x2 + 1) + x7)).bind (fun q90 =>
          f_X9_behind_100 (f_X9_behind_63 n) q90.2 x1 x2 x4 x5 x7 (q90.1 - 48) (10 * x6))
def f_X9_behind_57 (B : md_B) (x1 : Int32) (x2 : Int32) (x4 : Int32) (x5 : Int32) : Option (Int32 × md_B) :=
  f_X9_behind_63 sv_fu B x1 x2 x4 x5 0 0
def f_X9_behind (B : md_B) (x1 : Int32) (x2 : Int32) (x3 : Int32) (x4 : Int32) : Option (Int32 × md_B) :=
  (f_X9_size B x1).bind (fun q2 =>
    if ((q2.1 - x2) - 1) < 0 then
      f_X9_behind_57 q2.2 x1 x2 x4 ((q2.1 - x2) - 1)
    else
      (f_X9_at q2.2 x1 x2).bind (fun q19 =>
        if q19.1 = 46 then
          (f_X9_in q19.2 (((q2.1 - x2) - 1).toInt64) 1 x3.toInt64).bind (fun q33 =>
            if q33.1 = 0 then
              f_X9_behind_52 q33.2
            else
              (f_X9_digits q33.2 x1 (x2 + 1)).bind (fun q44 =>
                if q44.1 = ((q2.1 - x2) - 1) then
                  f_X9_behind_57 q44.2 x1 x2 x4 ((q2.1 - x2) - 1)
                else
                  f_X9_behind_52 q44.2))
        else
          f_X9_behind_52 q19.2))
set_option maxHeartbeats 4000000 in
set_option maxRecDepth 100000 in
theorem w_X9_behind_52 {E : sv_E} {X : sv_X} {h0 : Nat} {ad : Nat → Nat} {sz : Nat} {q : Int32 × md_B} (C : sv_C E X cX9_behind RX9 []) (hZ : sv_Z E X (some .int) (some (.int q.1)) (md_w E h0 ad q.2) sz 0 0) (hR : sv_R X = { frames := 3, cells := 0, slots := 0, locals := 68 }) (hN : sv_nL X = 8) (B : md_B) (hf : f_X9_behind_52 B = some q) : sv_J E X (md_w E h0 ad B) sz 0 0 52 [(0, .ref h0)] [] := by
  rw [f_X9_behind_52] at hf
  refine sv_aload_n 0 C dX9_behind_52 rfl rfl ?_
  obtain ⟨q53, hc53, hf⟩ := sv_bind_some hf
  refine sv_callV0 C mv_X9_166 (m_X9_bad (sv_l X) E h0 ad sz _ _ hc53) sv_sx0 0 rfl rfl rfl rfl (Nat.le_of_ble_eq_true rfl) ⟨by rw [hR]; decide, by rw [hR]; decide⟩ ⟨by rw [hR]; decide, by rw [hR]; decide⟩ dX9_behind_53 ?_
  exact sv_iret C (by cases hf; exact hZ) dX9_behind_56
set_option maxHeartbeats 4000000 in
set_option maxRecDepth 100000 in
theorem w_X9_behind_100 {E : sv_E} {X : sv_X} {h0 : Nat} {ad : Nat → Nat} {sz : Nat} {q : Int32 × md_B} (C : sv_C E X cX9_behind RX9 []) (hZ : sv_Z E X (some .int) (some (.int q.1)) (md_w E h0 ad q.2) sz 0 0) (hR : sv_R X = { frames := 3, cells := 0, slots := 0, locals := 68 }) (hN : sv_nL X = 8) {k63 : md_B → Int32 → Int32 → Int32 → Int32 → Int32 → Int32 → Option (Int32 × md_B)} (hk63 : ∀ (B : md_B) (x1 : Int32) (x2 : Int32) (x4 : Int32) (x5 : Int32) (x6 : Int32) (x7 : Int32), k63 B x1 x2 x4 x5 x6 x7 = some q → sv_J E X (md_w E h0 ad B) sz 0 0 63 [(0, .ref h0), (1, .int x1), (2, .int x2), (4, .int x4), (5, .int x5), (6, .int x6), (7, .int x7)] []) (B : md_B) (x1 : Int32) (x2 : Int32) (x4 : Int32) (x5 : Int32) (x7 : Int32) (s0 : Int32) (s1 : Int32) (hf : f_X9_behind_100 k63 B x1 x2 x4 x5 x7 s0 s1 = some q) : sv_J E X (md_w E h0 ad B) sz 0 0 100 [(0, .ref h0), (1, .int x1), (2, .int x2), (4, .int x4), (5, .int x5), (7, .int x7)] [.int s0, .int s1] := by
  rw [f_X9_behind_100] at hf
  refine sv_iadd C dX9_behind_100 ?_
  refine sv_istore (lv' := [(6, .int (s1 + s0)), (0, .ref h0), (1, .int x1), (2, .int x2), (4, .int x4), (5, .int x5), (7, .int x7)]) C dX9_behind_101 (by rw [hN]; decide) rfl ?_
  refine sv_iinc (v := x7 + 1) (lv' := [(7, .int (x7 + 1)), (6, .int (s1 + s0)), (0, .ref h0), (1, .int x1), (2, .int x2), (4, .int x4), (5, .int x5)]) 6 C dX9_behind_103 rfl rfl (by rw [hN]; decide) rfl ?_
  refine sv_goto (tgt := 63) C dX9_behind_106 (by decide) ?_
  refine sv_sub (lv' := [(0, .ref h0), (1, .int x1), (2, .int x2), (4, .int x4), (5, .int x5), (6, .int (s1 + s0)), (7, .int (x7 + 1))]) [2, 3, 4, 5, 6, 1, 0] rfl ?_
  exact hk63 _ _ _ _ _ _ _ hf
set_option maxHeartbeats 4000000 in
set_option maxRecDepth 100000 in
theorem w_X9_behind_63 {E : sv_E} {X : sv_X} {h0 : Nat} {ad : Nat → Nat} {sz : Nat} {q : Int32 × md_B} (C : sv_C E X cX9_behind RX9 []) (hZ : sv_Z E X (some .int) (some (.int q.1)) (md_w E h0 ad q.2) sz 0 0) (hR : sv_R X = { frames := 3, cells := 0, slots := 0, locals := 68 }) (hN : sv_nL X = 8) : ∀ (n : Nat) (B : md_B) (x1 : Int32) (x2 : Int32) (x4 : Int32) (x5 : Int32) (x6 : Int32) (x7 : Int32), f_X9_behind_63 n B x1 x2 x4 x5 x6 x7 = some q → sv_J E X (md_w E h0 ad B) sz 0 0 63 [(0, .ref h0), (1, .int x1), (2, .int x2), (4, .int x4), (5, .int x5), (6, .int x6), (7, .int x7)] [] := by
  intro n
  induction n with
  | zero =>
    intro B x1 x2 x4 x5 x6 x7 hf
    rw [f_X9_behind_63] at hf
    cases hf
  | succ n ih =>
    intro B x1 x2 x4 x5 x6 x7 hf
    rw [f_X9_behind_63] at hf
    refine sv_iload 6 C dX9_behind_63 rfl ?_
    refine sv_iload 3 C dX9_behind_65 rfl ?_
    refine sv_icmp_ge (tgt := 109) C dX9_behind_67 (by decide) (fun c67 => ?_) (fun c67 => ?_)
    · replace hf := sv_if_t c67 hf
      refine sv_iload 5 C dX9_behind_109 rfl ?_
      exact sv_iret C (by cases hf; exact hZ) dX9_behind_111
    · replace hf := sv_if_f c67 hf
      refine sv_bipush (v := 10) C dX9_behind_70 (by decide) ?_
      refine sv_iload 5 C dX9_behind_72 rfl ?_
      refine sv_imul C dX9_behind_74 ?_
      refine sv_iload 6 C dX9_behind_75 rfl ?_
      refine sv_iload 4 C dX9_behind_77 rfl ?_
      refine sv_icmp_ge (tgt := 99) C dX9_behind_79 (by decide) (fun c79 => ?_) (fun c79 => ?_)
      · replace hf := sv_if_t c79 hf
        refine sv_iconst (v := 0) C dX9_behind_99 (by decide) ?_
        refine sv_sub (lv' := [(0, .ref h0), (1, .int x1), (2, .int x2), (4, .int x4), (5, .int x5), (7, .int x7)]) [0, 1, 2, 3, 4, 6] rfl ?_
        exact w_X9_behind_100 C hZ hR hN ih _ _ _ _ _ _ _ _ hf
      · replace hf := sv_if_f c79 hf
        refine sv_aload_n 0 C dX9_behind_82 rfl rfl ?_
        refine sv_iload_n 1 C dX9_behind_83 rfl rfl ?_
        refine sv_iload_n 2 C dX9_behind_84 rfl rfl ?_
        refine sv_iconst (v := 1) C dX9_behind_85 (by decide) ?_
        refine sv_iadd C dX9_behind_86 ?_
        refine sv_iload 6 C dX9_behind_87 rfl ?_
        refine sv_iadd C dX9_behind_89 ?_
        obtain ⟨q90, hc90, hf⟩ := sv_bind_some hf
        refine sv_callV0 C mv_X9_156 (m_X9_at (sv_l X) E h0 ad sz _ _ _ _ hc90) sv_sx0 0 rfl rfl rfl rfl (Nat.le_of_ble_eq_true rfl) ⟨by rw [hR]; decide, by rw [hR]; decide⟩ ⟨by rw [hR]; decide, by rw [hR]; decide⟩ dX9_behind_90 ?_
        refine sv_bipush (v := 48) C dX9_behind_93 (by decide) ?_
        refine sv_isub C dX9_behind_95 ?_
        refine sv_goto (tgt := 100) C dX9_behind_96 (by decide) ?_
        refine sv_sub (lv' := [(0, .ref h0), (1, .int x1), (2, .int x2), (4, .int x4), (5, .int x5), (7, .int x7)]) [0, 1, 2, 3, 4, 6] rfl ?_
        exact w_X9_behind_100 C hZ hR hN ih _ _ _ _ _ _ _ _ hf
set_option maxHeartbeats 4000000 in
set_option maxRecDepth 100000 in
theorem w_X9_behind_57 {E : sv_E} {X : sv_X} {h0 : Nat} {ad : Nat → Nat} {sz : Nat} {q : Int32 × md_B} (C : sv_C E X cX9_behind RX9 []) (hZ : sv_Z E X (some .int) (some (.int q.1)) (md_w E h0 ad q.2) sz 0 0) (hR : sv_R X = { frames := 3, cells := 0, slots := 0, locals := 68 }) (hN : sv_nL X = 8) (B : md_B) (x1 : Int32) (x2 : Int32) (x4 : Int32) (x5 : Int32) (hf : f_X9_behind_57 B x1 x2 x4 x5 = some q) : sv_J E X (md_w E h0 ad B) sz 0 0 57 [(0, .ref h0), (1, .int x1), (2, .int x2), (4, .int x4), (5, .int x5)] [] := by
  rw [f_X9_behind_57] at hf
  refine sv_iconst (v := 0) C dX9_behind_57 (by decide) ?_
  refine sv_istore (lv' := [(6, .int 0), (0, .ref h0), (1, .int x1), (2, .int x2), (4, .int x4), (5, .int x5)]) C dX9_behind_58 (by rw [hN]; decide) rfl ?_
  refine sv_iconst (v := 0) C dX9_behind_60 (by decide) ?_
  refine sv_istore (lv' := [(7, .int 0), (6, .int 0), (0, .ref h0), (1, .int x1), (2, .int x2), (4, .int x4), (5, .int x5)]) C dX9_behind_61 (by rw [hN]; decide) rfl ?_
  refine sv_sub (lv' := [(0, .ref h0), (1, .int x1), (2, .int x2), (4, .int x4), (5, .int x5), (6, .int 0), (7, .int 0)]) [2, 3, 4, 5, 6, 1, 0] rfl ?_
  exact w_X9_behind_63 C hZ hR hN sv_fu _ _ _ _ _ _ _ hf
set_option maxHeartbeats 4000000 in
set_option maxRecDepth 100000 in
theorem m_X9_behind (l : Launch) (E : sv_E) (h0 : Nat) (ad : Nat → Nat) (sz : Nat) (B : md_B) (x1 : Int32) (x2 : Int32) (x3 : Int32) (x4 : Int32) (q : Int32 × md_B) (hf : f_X9_behind B x1 x2 x3 x4 = some q) : sv_Met l E yX9_behind cX9_behind 8 (some .int) 3 68 [] [.ref h0, .int x1, .int x2, .int x3, .int x4] (md_w E h0 ad B) sz (some (.int q.1)) (md_w E h0 ad q.2) sz 0 0 := by
  refine sv_ofJ (by decide) (Nat.le_of_ble_eq_true rfl) ?_
  intro X hX hN hnm hR C hZ
  replace C : sv_C E X cX9_behind RX9 [] := C
  show sv_J E X (md_w E h0 ad B) sz 0 0 0 [(0, .ref h0), (1, .int x1), (2, .int x2), (3, .int x3), (4, .int x4)] []
  rw [f_X9_behind] at hf
  refine sv_aload_n 0 C dX9_behind_0 rfl rfl ?_
  refine sv_iload_n 1 C dX9_behind_1 rfl rfl ?_
  obtain ⟨q2, hc2, hf⟩ := sv_bind_some hf
  refine sv_callV0 C mv_X9_153 (m_X9_size (sv_l X) E h0 ad sz _ _ _ hc2) sv_sx0 0 rfl rfl rfl rfl (Nat.le_of_ble_eq_true rfl) ⟨by rw [hR]; decide, by rw [hR]; decide⟩ ⟨by rw [hR]; decide, by rw [hR]; decide⟩ dX9_behind_2 ?_
  refine sv_iload_n 2 C dX9_behind_5 rfl rfl ?_
  refine sv_isub C dX9_behind_6 ?_
  refine sv_iconst (v := 1) C dX9_behind_7 (by decide) ?_
  refine sv_isub C dX9_behind_8 ?_
  refine sv_istore (lv' := [(5, .int ((q2.1 - x2) - 1)), (0, .ref h0), (1, .int x1), (2, .int x2), (3, .int x3), (4, .int x4)]) C dX9_behind_9 (by rw [hN]; decide) rfl ?_
  refine sv_iload 0 C dX9_behind_11 rfl ?_
  refine sv_if_lt (tgt := 57) C dX9_behind_13 (by decide) (fun c13 => ?_) (fun c13 => ?_)
  · replace hf := sv_if_t c13 hf
    refine sv_sub (lv' := [(0, .ref h0), (1, .int x1), (2, .int x2), (4, .int x4), (5, .int ((q2.1 - x2) - 1))]) [1, 2, 3, 5, 0] rfl ?_
    exact w_X9_behind_57 C hZ hR hN _ _ _ _ _ hf
  · replace hf := sv_if_f c13 hf
    refine sv_aload_n 1 C dX9_behind_16 rfl rfl ?_
    refine sv_iload_n 2 C dX9_behind_17 rfl rfl ?_
    refine sv_iload_n 3 C dX9_behind_18 rfl rfl ?_
    obtain ⟨q19, hc19, hf⟩ := sv_bind_some hf
    refine sv_callV0 C mv_X9_156 (m_X9_at (sv_l X) E h0 ad sz _ _ _ _ hc19) sv_sx0 0 rfl rfl rfl rfl (Nat.le_of_ble_eq_true rfl) ⟨by rw [hR]; decide, by rw [hR]; decide⟩ ⟨by rw [hR]; decide, by rw [hR]; decide⟩ dX9_behind_19 ?_
    refine sv_bipush (v := 46) C dX9_behind_22 (by decide) ?_
    refine sv_icmp_ne (tgt := 52) C dX9_behind_24 (by decide) (fun c24 => ?_) (fun c24 => ?_)
    · replace hf := sv_if_f c24 hf
      refine sv_sub (lv' := [(0, .ref h0)]) [1] rfl ?_
      exact w_X9_behind_52 C hZ hR hN _ hf
    · replace hf := sv_if_t c24 hf
      refine sv_iload 0 C dX9_behind_27 rfl ?_
      refine sv_i2l C dX9_behind_29 ?_
      refine sv_lconst (v := 1) C dX9_behind_30 (by decide) ?_
      refine sv_iload_n 4 C dX9_behind_31 rfl rfl ?_
      refine sv_i2l C dX9_behind_32 ?_
      obtain ⟨q33, hc33, hf⟩ := sv_bind_some hf
      refine sv_callS0 C ms_X9_74 (m_X9_in (sv_l X) E h0 ad sz _ _ _ _ _ hc33) sv_sx0 rfl rfl (Nat.le_of_ble_eq_true rfl) ⟨by rw [hR]; decide, by rw [hR]; decide⟩ ⟨by rw [hR]; decide, by rw [hR]; decide⟩ dX9_behind_33 ?_
      refine sv_if_eq (tgt := 52) C dX9_behind_36 (by decide) (fun c36 => ?_) (fun c36 => ?_)
      · replace hf := sv_if_t c36 hf
        refine sv_sub (lv' := [(0, .ref h0)]) [1] rfl ?_
        exact w_X9_behind_52 C hZ hR hN _ hf
      · replace hf := sv_if_f c36 hf
        refine sv_aload_n 1 C dX9_behind_39 rfl rfl ?_
        refine sv_iload_n 2 C dX9_behind_40 rfl rfl ?_
        refine sv_iload_n 3 C dX9_behind_41 rfl rfl ?_
        refine sv_iconst (v := 1) C dX9_behind_42 (by decide) ?_
        refine sv_iadd C dX9_behind_43 ?_
        obtain ⟨q44, hc44, hf⟩ := sv_bind_some hf
        refine sv_callV0 C mv_X9_163 (m_X9_digits (sv_l X) E h0 ad sz _ _ _ _ hc44) sv_sx0 0 rfl rfl rfl rfl (Nat.le_of_ble_eq_true rfl) ⟨by rw [hR]; decide, by rw [hR]; decide⟩ ⟨by rw [hR]; decide, by rw [hR]; decide⟩ dX9_behind_44 ?_
        refine sv_iload 0 C dX9_behind_47 rfl ?_
        refine sv_icmp_eq (tgt := 57) C dX9_behind_49 (by decide) (fun c49 => ?_) (fun c49 => ?_)
        · replace hf := sv_if_t c49 hf
          refine sv_sub (lv' := [(0, .ref h0), (1, .int x1), (2, .int x2), (4, .int x4), (5, .int ((q2.1 - x2) - 1))]) [1, 2, 3, 5, 0] rfl ?_
          exact w_X9_behind_57 C hZ hR hN _ _ _ _ _ hf
        · replace hf := sv_if_f c49 hf
          refine sv_sub (lv' := [(0, .ref h0)]) [1] rfl ?_
          exact w_X9_behind_52 C hZ hR hN _ hf
def f_X9_time_94 (B : md_B) : Option (Int32 × md_B) :=
  (f_X9_bad B).bind (fun q95 =>
    some (q95.1, q95.2))
def f_X9_time (B : md_B) (x1 : Int32) : Option (Int32 × md_B) :=
  (f_X9_size B x1).bind (fun q2 =>
    if q2.1 = 0 then
      some ((-2147483648), q2.2)
    else
      (f_X9_digits q2.2 x1 0).bind (fun q14 =>
        if q14.1 = 6 then
          (f_X9_whole q14.2 x1 0 2).bind (fun q31 =>
            (f_X9_whole q31.2 x1 2 2).bind (fun q39 =>
              (f_X9_whole q39.2 x1 4 2).bind (fun q47 =>
                (f_X9_behind q47.2 x1 6 3 3).bind (fun q58 =>
                  if q58.1 = (-2147483648) then
                    some ((-2147483648), q58.2)
                  else
                    if 23 < q31.1 then
                      f_X9_time_94 q58.2
                    else
                      if 59 < q39.1 then
                        f_X9_time_94 q58.2
                      else
                        if q47.1 ≤ 59 then
                          some ((((((q31.1 * 60) + q39.1) * 60) + q47.1) * 1000) + q58.1, q58.2)
                        else
                          f_X9_time_94 q58.2))))
        else
          (f_X9_bad q14.2).bind (fun q23 =>
            some (q23.1, q23.2))))
set_option maxHeartbeats 4000000 in
set_option maxRecDepth 100000 in
theorem w_X9_time_94 {E : sv_E} {X : sv_X} {h0 : Nat} {ad : Nat → Nat} {sz : Nat} {q : Int32 × md_B} (C : sv_C E X cX9_time RX9 []) (hZ : sv_Z E X (some .int) (some (.int q.1)) (md_w E h0 ad q.2) sz 0 0) (hR : sv_R X = { frames := 4, cells := 0, slots := 0, locals := 95 }) (hN : sv_nL X = 6) (B : md_B) (hf : f_X9_time_94 B = some q) : sv_J E X (md_w E h0 ad B) sz 0 0 94 [(0, .ref h0)] [] := by
  rw [f_X9_time_94] at hf
  refine sv_aload_n 0 C dX9_time_94 rfl rfl ?_
  obtain ⟨q95, hc95, hf⟩ := sv_bind_some hf
  refine sv_callV0 C mv_X9_166 (m_X9_bad (sv_l X) E h0 ad sz _ _ hc95) sv_sx0 0 rfl rfl rfl rfl (Nat.le_of_ble_eq_true rfl) ⟨by rw [hR]; decide, by rw [hR]; decide⟩ ⟨by rw [hR]; decide, by rw [hR]; decide⟩ dX9_time_95 ?_
  refine sv_goto (tgt := 120) C dX9_time_98 (by decide) ?_
  exact sv_iret C (by cases hf; exact hZ) dX9_time_120
set_option maxHeartbeats 4000000 in
set_option maxRecDepth 100000 in
theorem m_X9_time (l : Launch) (E : sv_E) (h0 : Nat) (ad : Nat → Nat) (sz : Nat) (B : md_B) (x1 : Int32) (q : Int32 × md_B) (hf : f_X9_time B x1 = some q) : sv_Met l E yX9_time cX9_time 6 (some .int) 4 95 [] [.ref h0, .int x1] (md_w E h0 ad B) sz (some (.int q.1)) (md_w E h0 ad q.2) sz 0 0 := by
  refine sv_ofJ (by decide) (Nat.le_of_ble_eq_true rfl) ?_
  intro X hX hN hnm hR C hZ
  replace C : sv_C E X cX9_time RX9 [] := C
  show sv_J E X (md_w E h0 ad B) sz 0 0 0 [(0, .ref h0), (1, .int x1)] []
  rw [f_X9_time] at hf
  refine sv_aload_n 0 C dX9_time_0 rfl rfl ?_
  refine sv_iload_n 1 C dX9_time_1 rfl rfl ?_
  obtain ⟨q2, hc2, hf⟩ := sv_bind_some hf
  refine sv_callV0 C mv_X9_153 (m_X9_size (sv_l X) E h0 ad sz _ _ _ hc2) sv_sx0 0 rfl rfl rfl rfl (Nat.le_of_ble_eq_true rfl) ⟨by rw [hR]; decide, by rw [hR]; decide⟩ ⟨by rw [hR]; decide, by rw [hR]; decide⟩ dX9_time_2 ?_
  refine sv_if_ne (tgt := 11) C dX9_time_5 (by decide) (fun c5 => ?_) (fun c5 => ?_)
  · replace hf := sv_if_f c5 hf
    refine sv_aload_n 0 C dX9_time_11 rfl rfl ?_
    refine sv_iload_n 1 C dX9_time_12 rfl rfl ?_
    refine sv_iconst (v := 0) C dX9_time_13 (by decide) ?_
    obtain ⟨q14, hc14, hf⟩ := sv_bind_some hf
    refine sv_callV0 C mv_X9_163 (m_X9_digits (sv_l X) E h0 ad sz _ _ _ _ hc14) sv_sx0 0 rfl rfl rfl rfl (Nat.le_of_ble_eq_true rfl) ⟨by rw [hR]; decide, by rw [hR]; decide⟩ ⟨by rw [hR]; decide, by rw [hR]; decide⟩ dX9_time_14 ?_
    refine sv_bipush (v := 6) C dX9_time_17 (by decide) ?_
    refine sv_icmp_eq (tgt := 27) C dX9_time_19 (by decide) (fun c19 => ?_) (fun c19 => ?_)
    · replace hf := sv_if_t c19 hf
      refine sv_aload_n 0 C dX9_time_27 rfl rfl ?_
      refine sv_iload_n 1 C dX9_time_28 rfl rfl ?_
      refine sv_iconst (v := 0) C dX9_time_29 (by decide) ?_
      refine sv_iconst (v := 2) C dX9_time_30 (by decide) ?_
      obtain ⟨q31, hc31, hf⟩ := sv_bind_some hf
      refine sv_callV0 C mv_X9_173 (m_X9_whole (sv_l X) E h0 ad sz _ _ _ _ _ hc31) sv_sx0 0 rfl rfl rfl rfl (Nat.le_of_ble_eq_true rfl) ⟨by rw [hR]; decide, by rw [hR]; decide⟩ ⟨by rw [hR]; decide, by rw [hR]; decide⟩ dX9_time_31 ?_
      refine sv_istore_n (lv' := [(2, .int q31.1), (0, .ref h0), (1, .int x1)]) C dX9_time_34 rfl (by rw [hN]; decide) rfl ?_
      refine sv_aload_n 1 C dX9_time_35 rfl rfl ?_
      refine sv_iload_n 2 C dX9_time_36 rfl rfl ?_
      refine sv_iconst (v := 2) C dX9_time_37 (by decide) ?_
      refine sv_iconst (v := 2) C dX9_time_38 (by decide) ?_
      obtain ⟨q39, hc39, hf⟩ := sv_bind_some hf
      refine sv_callV0 C mv_X9_173 (m_X9_whole (sv_l X) E h0 ad sz _ _ _ _ _ hc39) sv_sx0 0 rfl rfl rfl rfl (Nat.le_of_ble_eq_true rfl) ⟨by rw [hR]; decide, by rw [hR]; decide⟩ ⟨by rw [hR]; decide, by rw [hR]; decide⟩ dX9_time_39 ?_
      refine sv_istore_n (lv' := [(3, .int q39.1), (2, .int q31.1), (0, .ref h0), (1, .int x1)]) C dX9_time_42 rfl (by rw [hN]; decide) rfl ?_
      refine sv_aload_n 2 C dX9_time_43 rfl rfl ?_
      refine sv_iload_n 3 C dX9_time_44 rfl rfl ?_
      refine sv_iconst (v := 4) C dX9_time_45 (by decide) ?_
      refine sv_iconst (v := 2) C dX9_time_46 (by decide) ?_
      obtain ⟨q47, hc47, hf⟩ := sv_bind_some hf
      refine sv_callV0 C mv_X9_173 (m_X9_whole (sv_l X) E h0 ad sz _ _ _ _ _ hc47) sv_sx0 0 rfl rfl rfl rfl (Nat.le_of_ble_eq_true rfl) ⟨by rw [hR]; decide, by rw [hR]; decide⟩ ⟨by rw [hR]; decide, by rw [hR]; decide⟩ dX9_time_47 ?_
      refine sv_istore (lv' := [(4, .int q47.1), (3, .int q39.1), (2, .int q31.1), (0, .ref h0), (1, .int x1)]) C dX9_time_50 (by rw [hN]; decide) rfl ?_
      refine sv_aload_n 3 C dX9_time_52 rfl rfl ?_
      refine sv_iload_n 4 C dX9_time_53 rfl rfl ?_
      refine sv_bipush (v := 6) C dX9_time_54 (by decide) ?_
      refine sv_iconst (v := 3) C dX9_time_56 (by decide) ?_
      refine sv_iconst (v := 3) C dX9_time_57 (by decide) ?_
      obtain ⟨q58, hc58, hf⟩ := sv_bind_some hf
      refine sv_callV0 C mv_X9_169 (m_X9_behind (sv_l X) E h0 ad sz _ _ _ _ _ _ hc58) sv_sx0 0 rfl rfl rfl rfl (Nat.le_of_ble_eq_true rfl) ⟨by rw [hR]; decide, by rw [hR]; decide⟩ ⟨by rw [hR]; decide, by rw [hR]; decide⟩ dX9_time_58 ?_
      refine sv_istore (lv' := [(5, .int q58.1), (4, .int q47.1), (3, .int q39.1), (2, .int q31.1), (0, .ref h0), (1, .int x1)]) C dX9_time_61 (by rw [hN]; decide) rfl ?_
      refine sv_iload 0 C dX9_time_63 rfl ?_
      refine sv_ldc C kw_562 dX9_time_65 ?_
      refine sv_icmp_ne (tgt := 75) C dX9_time_67 (by decide) (fun c67 => ?_) (fun c67 => ?_)
      · replace hf := sv_if_f c67 hf
        refine sv_iload_n 3 C dX9_time_75 rfl rfl ?_
        refine sv_bipush (v := 23) C dX9_time_76 (by decide) ?_
        refine sv_icmp_gt (tgt := 94) C dX9_time_78 (by decide) (fun c78 => ?_) (fun c78 => ?_)
        · replace hf := sv_if_t c78 hf
          refine sv_sub (lv' := [(0, .ref h0)]) [4] rfl ?_
          exact w_X9_time_94 C hZ hR hN _ hf
        · replace hf := sv_if_f c78 hf
          refine sv_iload_n 2 C dX9_time_81 rfl rfl ?_
          refine sv_bipush (v := 59) C dX9_time_82 (by decide) ?_
          refine sv_icmp_gt (tgt := 94) C dX9_time_84 (by decide) (fun c84 => ?_) (fun c84 => ?_)
          · replace hf := sv_if_t c84 hf
            refine sv_sub (lv' := [(0, .ref h0)]) [4] rfl ?_
            exact w_X9_time_94 C hZ hR hN _ hf
          · replace hf := sv_if_f c84 hf
            refine sv_iload 1 C dX9_time_87 rfl ?_
            refine sv_bipush (v := 59) C dX9_time_89 (by decide) ?_
            refine sv_icmp_le (tgt := 101) C dX9_time_91 (by decide) (fun c91 => ?_) (fun c91 => ?_)
            · replace hf := sv_if_t c91 hf
              refine sv_iload_n 3 C dX9_time_101 rfl rfl ?_
              refine sv_bipush (v := 60) C dX9_time_102 (by decide) ?_
              refine sv_imul C dX9_time_104 ?_
              refine sv_iload_n 2 C dX9_time_105 rfl rfl ?_
              refine sv_iadd C dX9_time_106 ?_
              refine sv_bipush (v := 60) C dX9_time_107 (by decide) ?_
              refine sv_imul C dX9_time_109 ?_
              refine sv_iload 1 C dX9_time_110 rfl ?_
              refine sv_iadd C dX9_time_112 ?_
              refine sv_sipush (v := 1000) C dX9_time_113 (by decide) ?_
              refine sv_imul C dX9_time_116 ?_
              refine sv_iload 0 C dX9_time_117 rfl ?_
              refine sv_iadd C dX9_time_119 ?_
              exact sv_iret C (by cases hf; exact hZ) dX9_time_120
            · replace hf := sv_if_f c91 hf
              refine sv_sub (lv' := [(0, .ref h0)]) [4] rfl ?_
              exact w_X9_time_94 C hZ hR hN _ hf
      · replace hf := sv_if_t c67 hf
        refine sv_ldc C kw_562 dX9_time_70 ?_
        refine sv_goto (tgt := 120) C dX9_time_72 (by decide) ?_
        exact sv_iret C (by cases hf; exact hZ) dX9_time_120
    · replace hf := sv_if_f c19 hf
      refine sv_aload_n 0 C dX9_time_22 rfl rfl ?_
      obtain ⟨q23, hc23, hf⟩ := sv_bind_some hf
      refine sv_callV0 C mv_X9_166 (m_X9_bad (sv_l X) E h0 ad sz _ _ hc23) sv_sx0 0 rfl rfl rfl rfl (Nat.le_of_ble_eq_true rfl) ⟨by rw [hR]; decide, by rw [hR]; decide⟩ ⟨by rw [hR]; decide, by rw [hR]; decide⟩ dX9_time_23 ?_
      exact sv_iret C (by cases hf; exact hZ) dX9_time_26
  · replace hf := sv_if_t c5 hf
    refine sv_ldc C kw_562 dX9_time_8 ?_
    exact sv_iret C (by cases hf; exact hZ) dX9_time_10
def f_X9_number_32 (B : md_B) : Option (Int32 × md_B) :=
  (f_X9_bad B).bind (fun q33 =>
    some (q33.1, q33.2))
def f_X9_number (B : md_B) (x1 : Int32) (x2 : Int32) : Option (Int32 × md_B) :=
  (f_X9_size B x1).bind (fun q2 =>
    if q2.1 = 0 then
      some ((-2147483648), q2.2)
    else
      (f_X9_size q2.2 x1).bind (fun q15 =>
        if q15.1 = x2 then
          (f_X9_digits q15.2 x1 0).bind (fun q25 =>
            if q25.1 = x2 then
              (f_X9_whole q25.2 x1 0 x2).bind (fun q43 =>
                some (q43.1, q43.2))
            else
              f_X9_number_32 q25.2)
        else
          f_X9_number_32 q15.2))
set_option maxHeartbeats 4000000 in
set_option maxRecDepth 100000 in
theorem w_X9_number_32 {E : sv_E} {X : sv_X} {h0 : Nat} {ad : Nat → Nat} {sz : Nat} {q : Int32 × md_B} (C : sv_C E X cX9_number RX9 []) (hZ : sv_Z E X (some .int) (some (.int q.1)) (md_w E h0 ad q.2) sz 0 0) (hR : sv_R X = { frames := 3, cells := 0, slots := 0, locals := 68 }) (hN : sv_nL X = 3) (B : md_B) (hf : f_X9_number_32 B = some q) : sv_J E X (md_w E h0 ad B) sz 0 0 32 [(0, .ref h0)] [] := by
  rw [f_X9_number_32] at hf
  refine sv_aload_n 0 C dX9_number_32 rfl rfl ?_
  obtain ⟨q33, hc33, hf⟩ := sv_bind_some hf
  refine sv_callV0 C mv_X9_166 (m_X9_bad (sv_l X) E h0 ad sz _ _ hc33) sv_sx0 0 rfl rfl rfl rfl (Nat.le_of_ble_eq_true rfl) ⟨by rw [hR]; decide, by rw [hR]; decide⟩ ⟨by rw [hR]; decide, by rw [hR]; decide⟩ dX9_number_33 ?_
  refine sv_goto (tgt := 46) C dX9_number_36 (by decide) ?_
  exact sv_iret C (by cases hf; exact hZ) dX9_number_46
set_option maxHeartbeats 4000000 in
set_option maxRecDepth 100000 in
theorem m_X9_number (l : Launch) (E : sv_E) (h0 : Nat) (ad : Nat → Nat) (sz : Nat) (B : md_B) (x1 : Int32) (x2 : Int32) (q : Int32 × md_B) (hf : f_X9_number B x1 x2 = some q) : sv_Met l E yX9_number cX9_number 3 (some .int) 3 68 [] [.ref h0, .int x1, .int x2] (md_w E h0 ad B) sz (some (.int q.1)) (md_w E h0 ad q.2) sz 0 0 := by
  refine sv_ofJ (by decide) (Nat.le_of_ble_eq_true rfl) ?_
  intro X hX hN hnm hR C hZ
  replace C : sv_C E X cX9_number RX9 [] := C
  show sv_J E X (md_w E h0 ad B) sz 0 0 0 [(0, .ref h0), (1, .int x1), (2, .int x2)] []
  rw [f_X9_number] at hf
  refine sv_aload_n 0 C dX9_number_0 rfl rfl ?_
  refine sv_iload_n 1 C dX9_number_1 rfl rfl ?_
  obtain ⟨q2, hc2, hf⟩ := sv_bind_some hf
  refine sv_callV0 C mv_X9_153 (m_X9_size (sv_l X) E h0 ad sz _ _ _ hc2) sv_sx0 0 rfl rfl rfl rfl (Nat.le_of_ble_eq_true rfl) ⟨by rw [hR]; decide, by rw [hR]; decide⟩ ⟨by rw [hR]; decide, by rw [hR]; decide⟩ dX9_number_2 ?_
  refine sv_if_ne (tgt := 13) C dX9_number_5 (by decide) (fun c5 => ?_) (fun c5 => ?_)
  · replace hf := sv_if_f c5 hf
    refine sv_aload_n 0 C dX9_number_13 rfl rfl ?_
    refine sv_iload_n 1 C dX9_number_14 rfl rfl ?_
    obtain ⟨q15, hc15, hf⟩ := sv_bind_some hf
    refine sv_callV0 C mv_X9_153 (m_X9_size (sv_l X) E h0 ad sz _ _ _ hc15) sv_sx0 0 rfl rfl rfl rfl (Nat.le_of_ble_eq_true rfl) ⟨by rw [hR]; decide, by rw [hR]; decide⟩ ⟨by rw [hR]; decide, by rw [hR]; decide⟩ dX9_number_15 ?_
    refine sv_iload_n 2 C dX9_number_18 rfl rfl ?_
    refine sv_icmp_ne (tgt := 32) C dX9_number_19 (by decide) (fun c19 => ?_) (fun c19 => ?_)
    · replace hf := sv_if_f c19 hf
      refine sv_sub (lv' := [(0, .ref h0)]) [0] rfl ?_
      exact w_X9_number_32 C hZ hR hN _ hf
    · replace hf := sv_if_t c19 hf
      refine sv_aload_n 0 C dX9_number_22 rfl rfl ?_
      refine sv_iload_n 1 C dX9_number_23 rfl rfl ?_
      refine sv_iconst (v := 0) C dX9_number_24 (by decide) ?_
      obtain ⟨q25, hc25, hf⟩ := sv_bind_some hf
      refine sv_callV0 C mv_X9_163 (m_X9_digits (sv_l X) E h0 ad sz _ _ _ _ hc25) sv_sx0 0 rfl rfl rfl rfl (Nat.le_of_ble_eq_true rfl) ⟨by rw [hR]; decide, by rw [hR]; decide⟩ ⟨by rw [hR]; decide, by rw [hR]; decide⟩ dX9_number_25 ?_
      refine sv_iload_n 2 C dX9_number_28 rfl rfl ?_
      refine sv_icmp_eq (tgt := 39) C dX9_number_29 (by decide) (fun c29 => ?_) (fun c29 => ?_)
      · replace hf := sv_if_t c29 hf
        refine sv_aload_n 0 C dX9_number_39 rfl rfl ?_
        refine sv_iload_n 1 C dX9_number_40 rfl rfl ?_
        refine sv_iconst (v := 0) C dX9_number_41 (by decide) ?_
        refine sv_iload_n 2 C dX9_number_42 rfl rfl ?_
        obtain ⟨q43, hc43, hf⟩ := sv_bind_some hf
        refine sv_callV0 C mv_X9_173 (m_X9_whole (sv_l X) E h0 ad sz _ _ _ _ _ hc43) sv_sx0 0 rfl rfl rfl rfl (Nat.le_of_ble_eq_true rfl) ⟨by rw [hR]; decide, by rw [hR]; decide⟩ ⟨by rw [hR]; decide, by rw [hR]; decide⟩ dX9_number_43 ?_
        exact sv_iret C (by cases hf; exact hZ) dX9_number_46
      · replace hf := sv_if_f c29 hf
        refine sv_sub (lv' := [(0, .ref h0)]) [0] rfl ?_
        exact w_X9_number_32 C hZ hR hN _ hf
  · replace hf := sv_if_t c5 hf
    refine sv_ldc C kw_562 dX9_number_8 ?_
    refine sv_goto (tgt := 46) C dX9_number_10 (by decide) ?_
    exact sv_iret C (by cases hf; exact hZ) dX9_number_46
end
section
def f_X9_ten_4 : Nat → md_B → Int32 → Int32 → Int32 → Option (Int32 × md_B)
  | 0, _, _, _, _ => none
  | n + 1, B, x0, x1, x2 =>
    if x0 ≤ x2 then
      some (x1, B)
    else
      (f_X9_ten_4 n) B x0 (x1 * 10) (x2 + 1)
def f_X9_ten (B : md_B) (x0 : Int32) : Option (Int32 × md_B) :=
  f_X9_ten_4 sv_fu B x0 1 0
set_option maxHeartbeats 4000000 in
set_option maxRecDepth 100000 in
theorem w_X9_ten_4 {E : sv_E} {X : sv_X} {h0 : Nat} {ad : Nat → Nat} {sz : Nat} {q : Int32 × md_B} (C : sv_C E X cX9_ten RX9 []) (hZ : sv_Z E X (some .int) (some (.int q.1)) (md_w E h0 ad q.2) sz 0 0) (hR : sv_R X = { frames := 0, cells := 0, slots := 0, locals := 0 }) (hN : sv_nL X = 3) : ∀ (n : Nat) (B : md_B) (x0 : Int32) (x1 : Int32) (x2 : Int32), f_X9_ten_4 n B x0 x1 x2 = some q → sv_J E X (md_w E h0 ad B) sz 0 0 4 [(0, .int x0), (1, .int x1), (2, .int x2)] [] := by
  intro n
  induction n with
  | zero =>
    intro B x0 x1 x2 hf
    rw [f_X9_ten_4] at hf
    cases hf
  | succ n ih =>
    intro B x0 x1 x2 hf
    rw [f_X9_ten_4] at hf
    refine sv_iload_n 2 C dX9_ten_4 rfl rfl ?_
    refine sv_iload_n 0 C dX9_ten_5 rfl rfl ?_
    refine sv_icmp_ge (tgt := 20) C dX9_ten_6 (by decide) (fun c6 => ?_) (fun c6 => ?_)
    · replace hf := sv_if_t c6 hf
      refine sv_iload_n 1 C dX9_ten_20 rfl rfl ?_
      exact sv_iret C (by cases hf; exact hZ) dX9_ten_21
    · replace hf := sv_if_f c6 hf
      refine sv_iload_n 1 C dX9_ten_9 rfl rfl ?_
      refine sv_bipush (v := 10) C dX9_ten_10 (by decide) ?_
      refine sv_imul C dX9_ten_12 ?_
      refine sv_istore_n (lv' := [(1, .int (x1 * 10)), (0, .int x0), (2, .int x2)]) C dX9_ten_13 rfl (by rw [hN]; decide) rfl ?_
      refine sv_iinc (v := x2 + 1) (lv' := [(2, .int (x2 + 1)), (1, .int (x1 * 10)), (0, .int x0)]) 2 C dX9_ten_14 rfl rfl (by rw [hN]; decide) rfl ?_
      refine sv_goto (tgt := 4) C dX9_ten_17 (by decide) ?_
      refine sv_sub (lv' := [(0, .int x0), (1, .int (x1 * 10)), (2, .int (x2 + 1))]) [2, 1, 0] rfl ?_
      exact ih _ _ _ _ hf
set_option maxHeartbeats 4000000 in
set_option maxRecDepth 100000 in
theorem m_X9_ten (l : Launch) (E : sv_E) (h0 : Nat) (ad : Nat → Nat) (sz : Nat) (B : md_B) (x0 : Int32) (q : Int32 × md_B) (hf : f_X9_ten B x0 = some q) : sv_Met l E yX9_ten cX9_ten 3 (some .int) 0 0 [] [.int x0] (md_w E h0 ad B) sz (some (.int q.1)) (md_w E h0 ad q.2) sz 0 0 := by
  refine sv_ofJ (by decide) (Nat.le_of_ble_eq_true rfl) ?_
  intro X hX hN hnm hR C hZ
  replace C : sv_C E X cX9_ten RX9 [] := C
  show sv_J E X (md_w E h0 ad B) sz 0 0 0 [(0, .int x0)] []
  rw [f_X9_ten] at hf
  refine sv_iconst (v := 1) C dX9_ten_0 (by decide) ?_
  refine sv_istore_n (lv' := [(1, .int 1), (0, .int x0)]) C dX9_ten_1 rfl (by rw [hN]; decide) rfl ?_
  refine sv_iconst (v := 0) C dX9_ten_2 (by decide) ?_
  refine sv_istore_n (lv' := [(2, .int 0), (1, .int 1), (0, .int x0)]) C dX9_ten_3 rfl (by rw [hN]; decide) rfl ?_
  refine sv_sub (lv' := [(0, .int x0), (1, .int 1), (2, .int 0)]) [2, 1, 0] rfl ?_
  exact w_X9_ten_4 C hZ hR hN sv_fu _ _ _ _ hf
def f_X9_decimal_32 (B : md_B) (x1 : Int32) (x2 : Int32) (x3 : Int32) (s0 : Int32) : Option (Int32 × md_B) :=
  (f_X9_digits B x1 s0).bind (fun q38 =>
    (f_X9_in q38.2 q38.1.toInt64 1 x3.toInt64).bind (fun q49 =>
      if q49.1 = 0 then
        (f_X9_bad q49.2).bind (fun q56 =>
          some (q56.1, q56.2))
      else
        (f_X9_behind q49.2 x1 (s0 + q38.1) 6 x2).bind (fun q70 =>
          (f_X9_whole q70.2 x1 s0 q38.1).bind (fun q81 =>
            (f_X9_ten q81.2 x2).bind (fun q85 =>
              if q70.1 = (-2147483648) then
                some ((-2147483648), q85.2)
              else
                if s0 = 1 then
                  some (-((q81.1 * q85.1) + q70.1), q85.2)
                else
                  some ((q81.1 * q85.1) + q70.1, q85.2))))))
def f_X9_decimal_31 (B : md_B) (x1 : Int32) (x2 : Int32) (x3 : Int32) : Option (Int32 × md_B) :=
  f_X9_decimal_32 B x1 x2 x3 0
def f_X9_decimal (B : md_B) (x1 : Int32) (x2 : Int32) (x3 : Int32) (x4 : Int32) : Option (Int32 × md_B) :=
  (f_X9_size B x1).bind (fun q2 =>
    if q2.1 = 0 then
      some ((-2147483648), q2.2)
    else
      if x4 = 0 then
        f_X9_decimal_31 q2.2 x1 x2 x3
      else
        (f_X9_at q2.2 x1 0).bind (fun q19 =>
          if q19.1 = 45 then
            f_X9_decimal_32 q19.2 x1 x2 x3 1
          else
            f_X9_decimal_31 q19.2 x1 x2 x3))
set_option maxHeartbeats 4000000 in
set_option maxRecDepth 100000 in
theorem w_X9_decimal_32 {E : sv_E} {X : sv_X} {h0 : Nat} {ad : Nat → Nat} {sz : Nat} {q : Int32 × md_B} (C : sv_C E X cX9_decimal RX9 []) (hZ : sv_Z E X (some .int) (some (.int q.1)) (md_w E h0 ad q.2) sz 0 0) (hR : sv_R X = { frames := 4, cells := 0, slots := 0, locals := 95 }) (hN : sv_nL X = 9) (B : md_B) (x1 : Int32) (x2 : Int32) (x3 : Int32) (s0 : Int32) (hf : f_X9_decimal_32 B x1 x2 x3 s0 = some q) : sv_J E X (md_w E h0 ad B) sz 0 0 32 [(0, .ref h0), (1, .int x1), (2, .int x2), (3, .int x3)] [.int s0] := by
  rw [f_X9_decimal_32] at hf
  refine sv_istore (lv' := [(5, .int s0), (0, .ref h0), (1, .int x1), (2, .int x2), (3, .int x3)]) C dX9_decimal_32 (by rw [hN]; decide) rfl ?_
  refine sv_aload_n 1 C dX9_decimal_34 rfl rfl ?_
  refine sv_iload_n 2 C dX9_decimal_35 rfl rfl ?_
  refine sv_iload 0 C dX9_decimal_36 rfl ?_
  obtain ⟨q38, hc38, hf⟩ := sv_bind_some hf
  refine sv_callV0 C mv_X9_163 (m_X9_digits (sv_l X) E h0 ad sz _ _ _ _ hc38) sv_sx0 0 rfl rfl rfl rfl (Nat.le_of_ble_eq_true rfl) ⟨by rw [hR]; decide, by rw [hR]; decide⟩ ⟨by rw [hR]; decide, by rw [hR]; decide⟩ dX9_decimal_38 ?_
  refine sv_istore (lv' := [(6, .int q38.1), (5, .int s0), (0, .ref h0), (1, .int x1), (2, .int x2), (3, .int x3)]) C dX9_decimal_41 (by rw [hN]; decide) rfl ?_
  refine sv_iload 0 C dX9_decimal_43 rfl ?_
  refine sv_i2l C dX9_decimal_45 ?_
  refine sv_lconst (v := 1) C dX9_decimal_46 (by decide) ?_
  refine sv_iload_n 5 C dX9_decimal_47 rfl rfl ?_
  refine sv_i2l C dX9_decimal_48 ?_
  obtain ⟨q49, hc49, hf⟩ := sv_bind_some hf
  refine sv_callS0 C ms_X9_74 (m_X9_in (sv_l X) E h0 ad sz _ _ _ _ _ hc49) sv_sx0 rfl rfl (Nat.le_of_ble_eq_true rfl) ⟨by rw [hR]; decide, by rw [hR]; decide⟩ ⟨by rw [hR]; decide, by rw [hR]; decide⟩ dX9_decimal_49 ?_
  refine sv_if_ne (tgt := 60) C dX9_decimal_52 (by decide) (fun c52 => ?_) (fun c52 => ?_)
  · replace hf := sv_if_f c52 hf
    refine sv_aload_n 2 C dX9_decimal_60 rfl rfl ?_
    refine sv_iload_n 3 C dX9_decimal_61 rfl rfl ?_
    refine sv_iload 1 C dX9_decimal_62 rfl ?_
    refine sv_iload 0 C dX9_decimal_64 rfl ?_
    refine sv_iadd C dX9_decimal_66 ?_
    refine sv_bipush (v := 6) C dX9_decimal_67 (by decide) ?_
    refine sv_iload_n 4 C dX9_decimal_69 rfl rfl ?_
    obtain ⟨q70, hc70, hf⟩ := sv_bind_some hf
    refine sv_callV0 C mv_X9_169 (m_X9_behind (sv_l X) E h0 ad sz _ _ _ _ _ _ hc70) sv_sx0 0 rfl rfl rfl rfl (Nat.le_of_ble_eq_true rfl) ⟨by rw [hR]; decide, by rw [hR]; decide⟩ ⟨by rw [hR]; decide, by rw [hR]; decide⟩ dX9_decimal_70 ?_
    refine sv_istore (lv' := [(7, .int q70.1), (6, .int q38.1), (5, .int s0), (0, .ref h0), (1, .int x1), (2, .int x2), (3, .int x3)]) C dX9_decimal_73 (by rw [hN]; decide) rfl ?_
    refine sv_aload_n 3 C dX9_decimal_75 rfl rfl ?_
    refine sv_iload_n 4 C dX9_decimal_76 rfl rfl ?_
    refine sv_iload 2 C dX9_decimal_77 rfl ?_
    refine sv_iload 1 C dX9_decimal_79 rfl ?_
    obtain ⟨q81, hc81, hf⟩ := sv_bind_some hf
    refine sv_callV0 C mv_X9_173 (m_X9_whole (sv_l X) E h0 ad sz _ _ _ _ _ hc81) sv_sx0 0 rfl rfl rfl rfl (Nat.le_of_ble_eq_true rfl) ⟨by rw [hR]; decide, by rw [hR]; decide⟩ ⟨by rw [hR]; decide, by rw [hR]; decide⟩ dX9_decimal_81 ?_
    refine sv_iload_n 5 C dX9_decimal_84 rfl rfl ?_
    obtain ⟨q85, hc85, hf⟩ := sv_bind_some hf
    refine sv_callS0 C ms_X9_177 (m_X9_ten (sv_l X) E h0 ad sz _ _ _ hc85) sv_sx0 rfl rfl (Nat.le_of_ble_eq_true rfl) ⟨by rw [hR]; decide, by rw [hR]; decide⟩ ⟨by rw [hR]; decide, by rw [hR]; decide⟩ dX9_decimal_85 ?_
    refine sv_imul C dX9_decimal_88 ?_
    refine sv_iload 0 C dX9_decimal_89 rfl ?_
    refine sv_iadd C dX9_decimal_91 ?_
    refine sv_istore (lv' := [(8, .int ((q81.1 * q85.1) + q70.1)), (7, .int q70.1), (6, .int q38.1), (5, .int s0), (0, .ref h0), (1, .int x1), (2, .int x2), (3, .int x3)]) C dX9_decimal_92 (by rw [hN]; decide) rfl ?_
    refine sv_iload 1 C dX9_decimal_94 rfl ?_
    refine sv_ldc C kw_562 dX9_decimal_96 ?_
    refine sv_icmp_ne (tgt := 106) C dX9_decimal_98 (by decide) (fun c98 => ?_) (fun c98 => ?_)
    · replace hf := sv_if_f c98 hf
      refine sv_iload 3 C dX9_decimal_106 rfl ?_
      refine sv_iconst (v := 1) C dX9_decimal_108 (by decide) ?_
      refine sv_icmp_ne (tgt := 118) C dX9_decimal_109 (by decide) (fun c109 => ?_) (fun c109 => ?_)
      · replace hf := sv_if_f c109 hf
        refine sv_iload 0 C dX9_decimal_118 rfl ?_
        exact sv_iret C (by cases hf; exact hZ) dX9_decimal_120
      · replace hf := sv_if_t c109 hf
        refine sv_iload 0 C dX9_decimal_112 rfl ?_
        refine sv_ineg C dX9_decimal_114 ?_
        refine sv_goto (tgt := 120) C dX9_decimal_115 (by decide) ?_
        exact sv_iret C (by cases hf; exact hZ) dX9_decimal_120
    · replace hf := sv_if_t c98 hf
      refine sv_ldc C kw_562 dX9_decimal_101 ?_
      refine sv_goto (tgt := 120) C dX9_decimal_103 (by decide) ?_
      exact sv_iret C (by cases hf; exact hZ) dX9_decimal_120
  · replace hf := sv_if_t c52 hf
    refine sv_aload_n 2 C dX9_decimal_55 rfl rfl ?_
    obtain ⟨q56, hc56, hf⟩ := sv_bind_some hf
    refine sv_callV0 C mv_X9_166 (m_X9_bad (sv_l X) E h0 ad sz _ _ hc56) sv_sx0 0 rfl rfl rfl rfl (Nat.le_of_ble_eq_true rfl) ⟨by rw [hR]; decide, by rw [hR]; decide⟩ ⟨by rw [hR]; decide, by rw [hR]; decide⟩ dX9_decimal_56 ?_
    exact sv_iret C (by cases hf; exact hZ) dX9_decimal_59
set_option maxHeartbeats 4000000 in
set_option maxRecDepth 100000 in
theorem w_X9_decimal_31 {E : sv_E} {X : sv_X} {h0 : Nat} {ad : Nat → Nat} {sz : Nat} {q : Int32 × md_B} (C : sv_C E X cX9_decimal RX9 []) (hZ : sv_Z E X (some .int) (some (.int q.1)) (md_w E h0 ad q.2) sz 0 0) (hR : sv_R X = { frames := 4, cells := 0, slots := 0, locals := 95 }) (hN : sv_nL X = 9) (B : md_B) (x1 : Int32) (x2 : Int32) (x3 : Int32) (hf : f_X9_decimal_31 B x1 x2 x3 = some q) : sv_J E X (md_w E h0 ad B) sz 0 0 31 [(0, .ref h0), (1, .int x1), (2, .int x2), (3, .int x3)] [] := by
  rw [f_X9_decimal_31] at hf
  refine sv_iconst (v := 0) C dX9_decimal_31 (by decide) ?_
  refine sv_sub (lv' := [(0, .ref h0), (1, .int x1), (2, .int x2), (3, .int x3)]) [0, 1, 2, 3] rfl ?_
  exact w_X9_decimal_32 C hZ hR hN _ _ _ _ _ hf
set_option maxHeartbeats 4000000 in
set_option maxRecDepth 100000 in
theorem m_X9_decimal (l : Launch) (E : sv_E) (h0 : Nat) (ad : Nat → Nat) (sz : Nat) (B : md_B) (x1 : Int32) (x2 : Int32) (x3 : Int32) (x4 : Int32) (q : Int32 × md_B) (hf : f_X9_decimal B x1 x2 x3 x4 = some q) : sv_Met l E yX9_decimal cX9_decimal 9 (some .int) 4 95 [] [.ref h0, .int x1, .int x2, .int x3, .int x4] (md_w E h0 ad B) sz (some (.int q.1)) (md_w E h0 ad q.2) sz 0 0 := by
  refine sv_ofJ (by decide) (Nat.le_of_ble_eq_true rfl) ?_
  intro X hX hN hnm hR C hZ
  replace C : sv_C E X cX9_decimal RX9 [] := C
  show sv_J E X (md_w E h0 ad B) sz 0 0 0 [(0, .ref h0), (1, .int x1), (2, .int x2), (3, .int x3), (4, .int x4)] []
  rw [f_X9_decimal] at hf
  refine sv_aload_n 0 C dX9_decimal_0 rfl rfl ?_
  refine sv_iload_n 1 C dX9_decimal_1 rfl rfl ?_
  obtain ⟨q2, hc2, hf⟩ := sv_bind_some hf
  refine sv_callV0 C mv_X9_153 (m_X9_size (sv_l X) E h0 ad sz _ _ _ hc2) sv_sx0 0 rfl rfl rfl rfl (Nat.le_of_ble_eq_true rfl) ⟨by rw [hR]; decide, by rw [hR]; decide⟩ ⟨by rw [hR]; decide, by rw [hR]; decide⟩ dX9_decimal_2 ?_
  refine sv_if_ne (tgt := 11) C dX9_decimal_5 (by decide) (fun c5 => ?_) (fun c5 => ?_)
  · replace hf := sv_if_f c5 hf
    refine sv_iload 4 C dX9_decimal_11 rfl ?_
    refine sv_if_eq (tgt := 31) C dX9_decimal_13 (by decide) (fun c13 => ?_) (fun c13 => ?_)
    · replace hf := sv_if_t c13 hf
      refine sv_sub (lv' := [(0, .ref h0), (1, .int x1), (2, .int x2), (3, .int x3)]) [0, 1, 2, 3] rfl ?_
      exact w_X9_decimal_31 C hZ hR hN _ _ _ _ hf
    · replace hf := sv_if_f c13 hf
      refine sv_aload_n 0 C dX9_decimal_16 rfl rfl ?_
      refine sv_iload_n 1 C dX9_decimal_17 rfl rfl ?_
      refine sv_iconst (v := 0) C dX9_decimal_18 (by decide) ?_
      obtain ⟨q19, hc19, hf⟩ := sv_bind_some hf
      refine sv_callV0 C mv_X9_156 (m_X9_at (sv_l X) E h0 ad sz _ _ _ _ hc19) sv_sx0 0 rfl rfl rfl rfl (Nat.le_of_ble_eq_true rfl) ⟨by rw [hR]; decide, by rw [hR]; decide⟩ ⟨by rw [hR]; decide, by rw [hR]; decide⟩ dX9_decimal_19 ?_
      refine sv_bipush (v := 45) C dX9_decimal_22 (by decide) ?_
      refine sv_icmp_ne (tgt := 31) C dX9_decimal_24 (by decide) (fun c24 => ?_) (fun c24 => ?_)
      · replace hf := sv_if_f c24 hf
        refine sv_sub (lv' := [(0, .ref h0), (1, .int x1), (2, .int x2), (3, .int x3)]) [0, 1, 2, 3] rfl ?_
        exact w_X9_decimal_31 C hZ hR hN _ _ _ _ hf
      · replace hf := sv_if_t c24 hf
        refine sv_iconst (v := 1) C dX9_decimal_27 (by decide) ?_
        refine sv_goto (tgt := 32) C dX9_decimal_28 (by decide) ?_
        refine sv_sub (lv' := [(0, .ref h0), (1, .int x1), (2, .int x2), (3, .int x3)]) [0, 1, 2, 3] rfl ?_
        exact w_X9_decimal_32 C hZ hR hN _ _ _ _ _ hf
  · replace hf := sv_if_t c5 hf
    refine sv_ldc C kw_562 dX9_decimal_8 ?_
    exact sv_iret C (by cases hf; exact hZ) dX9_decimal_10
def f_X9_below (B : md_B) (x1 : Int32) (x2 : Int32) : Option (Int32 × md_B) :=
  if x1 = (-2147483648) then
    some (x1, B)
  else
    if x1 ≤ x2 then
      some (x1, B)
    else
      (f_X9_bad B).bind (fun q12 =>
        some (q12.1, q12.2))
set_option maxHeartbeats 4000000 in
set_option maxRecDepth 100000 in
theorem m_X9_below (l : Launch) (E : sv_E) (h0 : Nat) (ad : Nat → Nat) (sz : Nat) (B : md_B) (x1 : Int32) (x2 : Int32) (q : Int32 × md_B) (hf : f_X9_below B x1 x2 = some q) : sv_Met l E yX9_below cX9_below 3 (some .int) 1 20 [] [.ref h0, .int x1, .int x2] (md_w E h0 ad B) sz (some (.int q.1)) (md_w E h0 ad q.2) sz 0 0 := by
  refine sv_ofJ (by decide) (Nat.le_of_ble_eq_true rfl) ?_
  intro X hX hN hnm hR C hZ
  replace C : sv_C E X cX9_below RX9 [] := C
  show sv_J E X (md_w E h0 ad B) sz 0 0 0 [(0, .ref h0), (1, .int x1), (2, .int x2)] []
  rw [f_X9_below] at hf
  refine sv_iload_n 1 C dX9_below_0 rfl rfl ?_
  refine sv_ldc C kw_562 dX9_below_1 ?_
  refine sv_icmp_eq (tgt := 18) C dX9_below_3 (by decide) (fun c3 => ?_) (fun c3 => ?_)
  · replace hf := sv_if_t c3 hf
    refine sv_iload_n 1 C dX9_below_18 rfl rfl ?_
    exact sv_iret C (by cases hf; exact hZ) dX9_below_19
  · replace hf := sv_if_f c3 hf
    refine sv_iload_n 1 C dX9_below_6 rfl rfl ?_
    refine sv_iload_n 2 C dX9_below_7 rfl rfl ?_
    refine sv_icmp_le (tgt := 18) C dX9_below_8 (by decide) (fun c8 => ?_) (fun c8 => ?_)
    · replace hf := sv_if_t c8 hf
      refine sv_iload_n 1 C dX9_below_18 rfl rfl ?_
      exact sv_iret C (by cases hf; exact hZ) dX9_below_19
    · replace hf := sv_if_f c8 hf
      refine sv_aload_n 0 C dX9_below_11 rfl rfl ?_
      obtain ⟨q12, hc12, hf⟩ := sv_bind_some hf
      refine sv_callV0 C mv_X9_166 (m_X9_bad (sv_l X) E h0 ad sz _ _ hc12) sv_sx0 0 rfl rfl rfl rfl (Nat.le_of_ble_eq_true rfl) ⟨by rw [hR]; decide, by rw [hR]; decide⟩ ⟨by rw [hR]; decide, by rw [hR]; decide⟩ dX9_below_12 ?_
      refine sv_goto (tgt := 19) C dX9_below_15 (by decide) ?_
      exact sv_iret C (by cases hf; exact hZ) dX9_below_19
def f_X9_date_57 (B : md_B) : Option (Int32 × md_B) :=
  (f_X9_bad B).bind (fun q58 =>
    some (q58.1, q58.2))
def f_X9_date (B : md_B) (x1 : Int32) : Option (Int32 × md_B) :=
  (f_X9_number B x1 6).bind (fun q4 =>
    if q4.1 = (-2147483648) then
      some ((-2147483648), q4.2)
    else
      (f_X9_in q4.2 ((q4.1 / 10000).toInt64) 1 31).bind (fun q38 =>
        if q38.1 = 0 then
          f_X9_date_57 q38.2
        else
          (f_X9_in q38.2 (((q4.1 / 100) - (q4.1 / 100) / 100 * 100).toInt64) 1 12).bind (fun q51 =>
            if q51.1 = 0 then
              f_X9_date_57 q51.2
            else
              some (((q4.1 / 10000) + (100 * ((q4.1 / 100) - (q4.1 / 100) / 100 * 100))) + (10000 * (q4.1 - q4.1 / 100 * 100)), q51.2))))
set_option maxHeartbeats 4000000 in
set_option maxRecDepth 100000 in
theorem w_X9_date_57 {E : sv_E} {X : sv_X} {h0 : Nat} {ad : Nat → Nat} {sz : Nat} {q : Int32 × md_B} (C : sv_C E X cX9_date RX9 []) (hZ : sv_Z E X (some .int) (some (.int q.1)) (md_w E h0 ad q.2) sz 0 0) (hR : sv_R X = { frames := 4, cells := 0, slots := 0, locals := 90 }) (hN : sv_nL X = 5) (B : md_B) (hf : f_X9_date_57 B = some q) : sv_J E X (md_w E h0 ad B) sz 0 0 57 [(0, .ref h0)] [] := by
  rw [f_X9_date_57] at hf
  refine sv_aload_n 0 C dX9_date_57 rfl rfl ?_
  obtain ⟨q58, hc58, hf⟩ := sv_bind_some hf
  refine sv_callV0 C mv_X9_166 (m_X9_bad (sv_l X) E h0 ad sz _ _ hc58) sv_sx0 0 rfl rfl rfl rfl (Nat.le_of_ble_eq_true rfl) ⟨by rw [hR]; decide, by rw [hR]; decide⟩ ⟨by rw [hR]; decide, by rw [hR]; decide⟩ dX9_date_58 ?_
  refine sv_goto (tgt := 80) C dX9_date_61 (by decide) ?_
  exact sv_iret C (by cases hf; exact hZ) dX9_date_80
set_option maxHeartbeats 4000000 in
set_option maxRecDepth 100000 in
theorem m_X9_date (l : Launch) (E : sv_E) (h0 : Nat) (ad : Nat → Nat) (sz : Nat) (B : md_B) (x1 : Int32) (q : Int32 × md_B) (hf : f_X9_date B x1 = some q) : sv_Met l E yX9_date cX9_date 5 (some .int) 4 90 [] [.ref h0, .int x1] (md_w E h0 ad B) sz (some (.int q.1)) (md_w E h0 ad q.2) sz 0 0 := by
  refine sv_ofJ (by decide) (Nat.le_of_ble_eq_true rfl) ?_
  intro X hX hN hnm hR C hZ
  replace C : sv_C E X cX9_date RX9 [] := C
  show sv_J E X (md_w E h0 ad B) sz 0 0 0 [(0, .ref h0), (1, .int x1)] []
  rw [f_X9_date] at hf
  refine sv_aload_n 0 C dX9_date_0 rfl rfl ?_
  refine sv_iload_n 1 C dX9_date_1 rfl rfl ?_
  refine sv_bipush (v := 6) C dX9_date_2 (by decide) ?_
  obtain ⟨q4, hc4, hf⟩ := sv_bind_some hf
  refine sv_callV0 C mv_X9_180 (m_X9_number (sv_l X) E h0 ad sz _ _ _ _ hc4) sv_sx0 0 rfl rfl rfl rfl (Nat.le_of_ble_eq_true rfl) ⟨by rw [hR]; decide, by rw [hR]; decide⟩ ⟨by rw [hR]; decide, by rw [hR]; decide⟩ dX9_date_4 ?_
  refine sv_istore_n (lv' := [(2, .int q4.1), (0, .ref h0), (1, .int x1)]) C dX9_date_7 rfl (by rw [hN]; decide) rfl ?_
  refine sv_iload_n 0 C dX9_date_8 rfl rfl ?_
  refine sv_ldc C kw_562 dX9_date_9 ?_
  refine sv_icmp_ne (tgt := 17) C dX9_date_11 (by decide) (fun c11 => ?_) (fun c11 => ?_)
  · replace hf := sv_if_f c11 hf
    refine sv_iload_n 0 C dX9_date_17 rfl rfl ?_
    refine sv_sipush (v := 10000) C dX9_date_18 (by decide) ?_
    refine sv_idiv C dX9_date_21 (by decide) ?_
    refine sv_istore_n (lv' := [(3, .int (q4.1 / 10000)), (2, .int q4.1), (0, .ref h0), (1, .int x1)]) C dX9_date_22 rfl (by rw [hN]; decide) rfl ?_
    refine sv_iload_n 1 C dX9_date_23 rfl rfl ?_
    refine sv_bipush (v := 100) C dX9_date_24 (by decide) ?_
    refine sv_idiv C dX9_date_26 (by decide) ?_
    refine sv_bipush (v := 100) C dX9_date_27 (by decide) ?_
    refine sv_irem C dX9_date_29 (by decide) ?_
    refine sv_istore (lv' := [(4, .int ((q4.1 / 100) - (q4.1 / 100) / 100 * 100)), (3, .int (q4.1 / 10000)), (2, .int q4.1), (0, .ref h0), (1, .int x1)]) C dX9_date_30 (by rw [hN]; decide) rfl ?_
    refine sv_iload_n 1 C dX9_date_32 rfl rfl ?_
    refine sv_i2l C dX9_date_33 ?_
    refine sv_lconst (v := 1) C dX9_date_34 (by decide) ?_
    refine sv_ldc2 C kw_661 dX9_date_35 ?_
    obtain ⟨q38, hc38, hf⟩ := sv_bind_some hf
    refine sv_callS0 C ms_X9_74 (m_X9_in (sv_l X) E h0 ad sz _ _ _ _ _ hc38) sv_sx0 rfl rfl (Nat.le_of_ble_eq_true rfl) ⟨by rw [hR]; decide, by rw [hR]; decide⟩ ⟨by rw [hR]; decide, by rw [hR]; decide⟩ dX9_date_38 ?_
    refine sv_if_eq (tgt := 57) C dX9_date_41 (by decide) (fun c41 => ?_) (fun c41 => ?_)
    · replace hf := sv_if_t c41 hf
      refine sv_sub (lv' := [(0, .ref h0)]) [3] rfl ?_
      exact w_X9_date_57 C hZ hR hN _ hf
    · replace hf := sv_if_f c41 hf
      refine sv_iload 0 C dX9_date_44 rfl ?_
      refine sv_i2l C dX9_date_46 ?_
      refine sv_lconst (v := 1) C dX9_date_47 (by decide) ?_
      refine sv_ldc2 C kw_662 dX9_date_48 ?_
      obtain ⟨q51, hc51, hf⟩ := sv_bind_some hf
      refine sv_callS0 C ms_X9_74 (m_X9_in (sv_l X) E h0 ad sz _ _ _ _ _ hc51) sv_sx0 rfl rfl (Nat.le_of_ble_eq_true rfl) ⟨by rw [hR]; decide, by rw [hR]; decide⟩ ⟨by rw [hR]; decide, by rw [hR]; decide⟩ dX9_date_51 ?_
      refine sv_if_ne (tgt := 64) C dX9_date_54 (by decide) (fun c54 => ?_) (fun c54 => ?_)
      · replace hf := sv_if_f c54 hf
        refine sv_iload_n 1 C dX9_date_64 rfl rfl ?_
        refine sv_bipush (v := 100) C dX9_date_65 (by decide) ?_
        refine sv_iload 0 C dX9_date_67 rfl ?_
        refine sv_imul C dX9_date_69 ?_
        refine sv_iadd C dX9_date_70 ?_
        refine sv_sipush (v := 10000) C dX9_date_71 (by decide) ?_
        refine sv_iload_n 2 C dX9_date_74 rfl rfl ?_
        refine sv_bipush (v := 100) C dX9_date_75 (by decide) ?_
        refine sv_irem C dX9_date_77 (by decide) ?_
        refine sv_imul C dX9_date_78 ?_
        refine sv_iadd C dX9_date_79 ?_
        exact sv_iret C (by cases hf; exact hZ) dX9_date_80
      · replace hf := sv_if_t c54 hf
        refine sv_sub (lv' := [(0, .ref h0)]) [3] rfl ?_
        exact w_X9_date_57 C hZ hR hN _ hf
  · replace hf := sv_if_t c11 hf
    refine sv_ldc C kw_562 dX9_date_14 ?_
    exact sv_iret C (by cases hf; exact hZ) dX9_date_16
def f_X9_keep_2 : Nat → md_B → Int32 → Int32 → Option (md_B)
  | 0, _, _, _ => none
  | n + 1, B, x2, x3 =>
    if x2 < x3 then
      some B
    else
      sv_g (sv_inb x3 18) (
        sv_g (sv_inb x3 18) (
          (f_X9_keep_2 n) (md_pa B 16 x3 (B.2 15 x3.toNatClampNeg)) x2 (x3 + 1)))
def f_X9_keep (B : md_B) (x1 : Int32) (x2 : Int32) : Option (md_B) :=
  f_X9_keep_2 sv_fu B x2 x1
set_option maxHeartbeats 4000000 in
set_option maxRecDepth 100000 in
theorem w_X9_keep_2 {E : sv_E} {X : sv_X} {h0 : Nat} {ad : Nat → Nat} {sz : Nat} {q : md_B} (C : sv_C E X cX9_keep RX9 []) (hZ : sv_Z E X none none (md_w E h0 ad q) sz 0 0) (hR : sv_R X = { frames := 0, cells := 0, slots := 0, locals := 0 }) (hN : sv_nL X = 4) : ∀ (n : Nat) (B : md_B) (x2 : Int32) (x3 : Int32), f_X9_keep_2 n B x2 x3 = some q → sv_J E X (md_w E h0 ad B) sz 0 0 2 [(0, .ref h0), (2, .int x2), (3, .int x3)] [] := by
  intro n
  induction n with
  | zero =>
    intro B x2 x3 hf
    rw [f_X9_keep_2] at hf
    cases hf
  | succ n ih =>
    intro B x2 x3 hf
    rw [f_X9_keep_2] at hf
    refine sv_iload_n 2 C dX9_keep_2 rfl rfl ?_
    refine sv_iload_n 1 C dX9_keep_3 rfl rfl ?_
    refine sv_icmp_gt (tgt := 25) C dX9_keep_4 (by decide) (fun c4 => ?_) (fun c4 => ?_)
    · replace hf := sv_if_t c4 hf
      exact sv_vret C (by cases hf; exact hZ) dX9_keep_25
    · replace hf := sv_if_f c4 hf
      refine sv_aload_n 0 C dX9_keep_7 rfl rfl ?_
      refine md_getr C fl_X9_35 (by decide) dX9_keep_8 ?_
      refine sv_iload_n 2 C dX9_keep_11 rfl rfl ?_
      refine sv_aload_n 0 C dX9_keep_12 rfl rfl ?_
      refine md_getr C fl_X9_32 (by decide) dX9_keep_13 ?_
      refine sv_iload_n 2 C dX9_keep_16 rfl rfl ?_
      obtain ⟨g17, hf⟩ := sv_g_some hf
      refine md_iald C 6 rfl g17 dX9_keep_17 ?_
      obtain ⟨g18, hf⟩ := sv_g_some hf
      refine md_iast C 7 rfl g18 dX9_keep_18 ?_
      refine sv_iinc (v := x3 + 1) (lv' := [(3, .int (x3 + 1)), (0, .ref h0), (2, .int x2)]) 2 C dX9_keep_19 rfl rfl (by rw [hN]; decide) rfl ?_
      refine sv_goto (tgt := 2) C dX9_keep_22 (by decide) ?_
      refine sv_sub (lv' := [(0, .ref h0), (2, .int x2), (3, .int (x3 + 1))]) [1, 2, 0] rfl ?_
      exact ih _ _ _ hf
set_option maxHeartbeats 4000000 in
set_option maxRecDepth 100000 in
theorem m_X9_keep (l : Launch) (E : sv_E) (h0 : Nat) (ad : Nat → Nat) (sz : Nat) (B : md_B) (x1 : Int32) (x2 : Int32) (q : md_B) (hf : f_X9_keep B x1 x2 = some q) : sv_Met l E yX9_keep cX9_keep 4 none 0 0 [] [.ref h0, .int x1, .int x2] (md_w E h0 ad B) sz none (md_w E h0 ad q) sz 0 0 := by
  refine sv_ofJ (by decide) (Nat.le_of_ble_eq_true rfl) ?_
  intro X hX hN hnm hR C hZ
  replace C : sv_C E X cX9_keep RX9 [] := C
  show sv_J E X (md_w E h0 ad B) sz 0 0 0 [(0, .ref h0), (1, .int x1), (2, .int x2)] []
  rw [f_X9_keep] at hf
  refine sv_iload_n 1 C dX9_keep_0 rfl rfl ?_
  refine sv_istore_n (lv' := [(3, .int x1), (0, .ref h0), (1, .int x1), (2, .int x2)]) C dX9_keep_1 rfl (by rw [hN]; decide) rfl ?_
  refine sv_sub (lv' := [(0, .ref h0), (2, .int x2), (3, .int x1)]) [1, 3, 0] rfl ?_
  exact w_X9_keep_2 C hZ hR hN sv_fu _ _ _ hf
def f_X9_read_31 (k5 : md_B → Int32 → Int32 → Int32 → Int32 → Option (Int32 × md_B)) (B : md_B) (x1 : Int32) (x2 : Int32) (x4 : Int32) (s0 : Int32) (s1 : Int32) : Option (Int32 × md_B) :=
  k5 B x1 x2 (s1 ||| s0) (x4 + 1)
def f_X9_read_5 : Nat → md_B → Int32 → Int32 → Int32 → Int32 → Option (Int32 × md_B)
  | 0, _, _, _, _, _ => none
  | n + 1, B, x1, x2, x3, x4 =>
    if (x1 + x2) ≤ x4 then
      some (x3, B)
    else
      sv_g (sv_inb x4 3240) (
        if (B.2 25 x4.toNatClampNeg) = 0 then
          f_X9_read_31 (f_X9_read_5 n) B x1 x2 x4 0 (x3 <<< (1 &&& 31))
        else
          f_X9_read_31 (f_X9_read_5 n) B x1 x2 x4 1 (x3 <<< (1 &&& 31)))
def f_X9_read (B : md_B) (x1 : Int32) (x2 : Int32) : Option (Int32 × md_B) :=
  f_X9_read_5 sv_fu B x1 x2 0 x1
set_option maxHeartbeats 4000000 in
set_option maxRecDepth 100000 in
theorem w_X9_read_31 {E : sv_E} {X : sv_X} {h0 : Nat} {ad : Nat → Nat} {sz : Nat} {q : Int32 × md_B} (C : sv_C E X cX9_read RX9 []) (hZ : sv_Z E X (some .int) (some (.int q.1)) (md_w E h0 ad q.2) sz 0 0) (hR : sv_R X = { frames := 0, cells := 0, slots := 0, locals := 0 }) (hN : sv_nL X = 5) {k5 : md_B → Int32 → Int32 → Int32 → Int32 → Option (Int32 × md_B)} (hk5 : ∀ (B : md_B) (x1 : Int32) (x2 : Int32) (x3 : Int32) (x4 : Int32), k5 B x1 x2 x3 x4 = some q → sv_J E X (md_w E h0 ad B) sz 0 0 5 [(0, .ref h0), (1, .int x1), (2, .int x2), (3, .int x3), (4, .int x4)] []) (B : md_B) (x1 : Int32) (x2 : Int32) (x4 : Int32) (s0 : Int32) (s1 : Int32) (hf : f_X9_read_31 k5 B x1 x2 x4 s0 s1 = some q) : sv_J E X (md_w E h0 ad B) sz 0 0 31 [(0, .ref h0), (1, .int x1), (2, .int x2), (4, .int x4)] [.int s0, .int s1] := by
  rw [f_X9_read_31] at hf
  refine sv_ior C dX9_read_31 ?_
  refine sv_istore_n (lv' := [(3, .int (s1 ||| s0)), (0, .ref h0), (1, .int x1), (2, .int x2), (4, .int x4)]) C dX9_read_32 rfl (by rw [hN]; decide) rfl ?_
  refine sv_iinc (v := x4 + 1) (lv' := [(4, .int (x4 + 1)), (3, .int (s1 ||| s0)), (0, .ref h0), (1, .int x1), (2, .int x2)]) 4 C dX9_read_33 rfl rfl (by rw [hN]; decide) rfl ?_
  refine sv_goto (tgt := 5) C dX9_read_36 (by decide) ?_
  refine sv_sub (lv' := [(0, .ref h0), (1, .int x1), (2, .int x2), (3, .int (s1 ||| s0)), (4, .int (x4 + 1))]) [2, 3, 4, 1, 0] rfl ?_
  exact hk5 _ _ _ _ _ hf
set_option maxHeartbeats 4000000 in
set_option maxRecDepth 100000 in
theorem w_X9_read_5 {E : sv_E} {X : sv_X} {h0 : Nat} {ad : Nat → Nat} {sz : Nat} {q : Int32 × md_B} (C : sv_C E X cX9_read RX9 []) (hZ : sv_Z E X (some .int) (some (.int q.1)) (md_w E h0 ad q.2) sz 0 0) (hR : sv_R X = { frames := 0, cells := 0, slots := 0, locals := 0 }) (hN : sv_nL X = 5) : ∀ (n : Nat) (B : md_B) (x1 : Int32) (x2 : Int32) (x3 : Int32) (x4 : Int32), f_X9_read_5 n B x1 x2 x3 x4 = some q → sv_J E X (md_w E h0 ad B) sz 0 0 5 [(0, .ref h0), (1, .int x1), (2, .int x2), (3, .int x3), (4, .int x4)] [] := by
  intro n
  induction n with
  | zero =>
    intro B x1 x2 x3 x4 hf
    rw [f_X9_read_5] at hf
    cases hf
  | succ n ih =>
    intro B x1 x2 x3 x4 hf
    rw [f_X9_read_5] at hf
    refine sv_iload 4 C dX9_read_5 rfl ?_
    refine sv_iload_n 1 C dX9_read_7 rfl rfl ?_
    refine sv_iload_n 2 C dX9_read_8 rfl rfl ?_
    refine sv_iadd C dX9_read_9 ?_
    refine sv_icmp_ge (tgt := 39) C dX9_read_10 (by decide) (fun c10 => ?_) (fun c10 => ?_)
    · replace hf := sv_if_t c10 hf
      refine sv_iload_n 3 C dX9_read_39 rfl rfl ?_
      exact sv_iret C (by cases hf; exact hZ) dX9_read_40
    · replace hf := sv_if_f c10 hf
      refine sv_iload_n 3 C dX9_read_13 rfl rfl ?_
      refine sv_iconst (v := 1) C dX9_read_14 (by decide) ?_
      refine sv_ishl C dX9_read_15 ?_
      refine sv_aload_n 0 C dX9_read_16 rfl rfl ?_
      refine md_getr C fl_X9_52 (by decide) dX9_read_17 ?_
      refine sv_iload 4 C dX9_read_20 rfl ?_
      obtain ⟨g22, hf⟩ := sv_g_some hf
      refine md_zald C 12 rfl g22 dX9_read_22 ?_
      refine sv_if_eq (tgt := 30) C dX9_read_23 (by decide) (fun c23 => ?_) (fun c23 => ?_)
      · replace hf := sv_if_t c23 hf
        refine sv_iconst (v := 0) C dX9_read_30 (by decide) ?_
        refine sv_sub (lv' := [(0, .ref h0), (1, .int x1), (2, .int x2), (4, .int x4)]) [0, 1, 2, 4] rfl ?_
        exact w_X9_read_31 C hZ hR hN ih _ _ _ _ _ _ hf
      · replace hf := sv_if_f c23 hf
        refine sv_iconst (v := 1) C dX9_read_26 (by decide) ?_
        refine sv_goto (tgt := 31) C dX9_read_27 (by decide) ?_
        refine sv_sub (lv' := [(0, .ref h0), (1, .int x1), (2, .int x2), (4, .int x4)]) [0, 1, 2, 4] rfl ?_
        exact w_X9_read_31 C hZ hR hN ih _ _ _ _ _ _ hf
set_option maxHeartbeats 4000000 in
set_option maxRecDepth 100000 in
theorem m_X9_read (l : Launch) (E : sv_E) (h0 : Nat) (ad : Nat → Nat) (sz : Nat) (B : md_B) (x1 : Int32) (x2 : Int32) (q : Int32 × md_B) (hf : f_X9_read B x1 x2 = some q) : sv_Met l E yX9_read cX9_read 5 (some .int) 0 0 [] [.ref h0, .int x1, .int x2] (md_w E h0 ad B) sz (some (.int q.1)) (md_w E h0 ad q.2) sz 0 0 := by
  refine sv_ofJ (by decide) (Nat.le_of_ble_eq_true rfl) ?_
  intro X hX hN hnm hR C hZ
  replace C : sv_C E X cX9_read RX9 [] := C
  show sv_J E X (md_w E h0 ad B) sz 0 0 0 [(0, .ref h0), (1, .int x1), (2, .int x2)] []
  rw [f_X9_read] at hf
  refine sv_iconst (v := 0) C dX9_read_0 (by decide) ?_
  refine sv_istore_n (lv' := [(3, .int 0), (0, .ref h0), (1, .int x1), (2, .int x2)]) C dX9_read_1 rfl (by rw [hN]; decide) rfl ?_
  refine sv_iload_n 2 C dX9_read_2 rfl rfl ?_
  refine sv_istore (lv' := [(4, .int x1), (3, .int 0), (0, .ref h0), (1, .int x1), (2, .int x2)]) C dX9_read_3 (by rw [hN]; decide) rfl ?_
  refine sv_sub (lv' := [(0, .ref h0), (1, .int x1), (2, .int x2), (3, .int 0), (4, .int x1)]) [2, 3, 4, 1, 0] rfl ?_
  exact w_X9_read_5 C hZ hR hN sv_fu _ _ _ _ _ hf
def f_X9_found_2 : Nat → md_B → Int32 → Int32 → Option (Int32 × md_B)
  | 0, _, _, _ => none
  | n + 1, B, x1, x2 =>
    if (B.1 28) ≤ x2 then
      some ((-2147483648), B)
    else
      sv_g (sv_inb (24 * x2) 960) (
        if (B.2 29 (24 * x2).toNatClampNeg) = x1 then
          some (x2, B)
        else
          (f_X9_found_2 n) B x1 (x2 + 1))
def f_X9_found (B : md_B) (x1 : Int32) : Option (Int32 × md_B) :=
  f_X9_found_2 sv_fu B x1 0
set_option maxHeartbeats 4000000 in
set_option maxRecDepth 100000 in
theorem w_X9_found_2 {E : sv_E} {X : sv_X} {h0 : Nat} {ad : Nat → Nat} {sz : Nat} {q : Int32 × md_B} (C : sv_C E X cX9_found RX9 []) (hZ : sv_Z E X (some .int) (some (.int q.1)) (md_w E h0 ad q.2) sz 0 0) (hR : sv_R X = { frames := 0, cells := 0, slots := 0, locals := 0 }) (hN : sv_nL X = 3) : ∀ (n : Nat) (B : md_B) (x1 : Int32) (x2 : Int32), f_X9_found_2 n B x1 x2 = some q → sv_J E X (md_w E h0 ad B) sz 0 0 2 [(0, .ref h0), (1, .int x1), (2, .int x2)] [] := by
  intro n
  induction n with
  | zero =>
    intro B x1 x2 hf
    rw [f_X9_found_2] at hf
    cases hf
  | succ n ih =>
    intro B x1 x2 hf
    rw [f_X9_found_2] at hf
    refine sv_iload_n 2 C dX9_found_2 rfl rfl ?_
    refine sv_aload_n 0 C dX9_found_3 rfl rfl ?_
    refine md_geti C fl_X9_289 (by decide) dX9_found_4 ?_
    refine sv_icmp_ge (tgt := 31) C dX9_found_7 (by decide) (fun c7 => ?_) (fun c7 => ?_)
    · replace hf := sv_if_t c7 hf
      refine sv_ldc C kw_562 dX9_found_31 ?_
      exact sv_iret C (by cases hf; exact hZ) dX9_found_33
    · replace hf := sv_if_f c7 hf
      refine sv_aload_n 0 C dX9_found_10 rfl rfl ?_
      refine md_getr C fl_X9_55 (by decide) dX9_found_11 ?_
      refine sv_bipush (v := 24) C dX9_found_14 (by decide) ?_
      refine sv_iload_n 2 C dX9_found_16 rfl rfl ?_
      refine sv_imul C dX9_found_17 ?_
      obtain ⟨g18, hf⟩ := sv_g_some hf
      refine md_iald C 13 rfl g18 dX9_found_18 ?_
      refine sv_iload_n 1 C dX9_found_19 rfl rfl ?_
      refine sv_icmp_ne (tgt := 25) C dX9_found_20 (by decide) (fun c20 => ?_) (fun c20 => ?_)
      · replace hf := sv_if_f c20 hf
        refine sv_iinc (v := x2 + 1) (lv' := [(2, .int (x2 + 1)), (0, .ref h0), (1, .int x1)]) 2 C dX9_found_25 rfl rfl (by rw [hN]; decide) rfl ?_
        refine sv_goto (tgt := 2) C dX9_found_28 (by decide) ?_
        refine sv_sub (lv' := [(0, .ref h0), (1, .int x1), (2, .int (x2 + 1))]) [1, 2, 0] rfl ?_
        exact ih _ _ _ hf
      · replace hf := sv_if_t c20 hf
        refine sv_iload_n 2 C dX9_found_23 rfl rfl ?_
        exact sv_iret C (by cases hf; exact hZ) dX9_found_24
set_option maxHeartbeats 4000000 in
set_option maxRecDepth 100000 in
theorem m_X9_found (l : Launch) (E : sv_E) (h0 : Nat) (ad : Nat → Nat) (sz : Nat) (B : md_B) (x1 : Int32) (q : Int32 × md_B) (hf : f_X9_found B x1 = some q) : sv_Met l E yX9_found cX9_found 3 (some .int) 0 0 [] [.ref h0, .int x1] (md_w E h0 ad B) sz (some (.int q.1)) (md_w E h0 ad q.2) sz 0 0 := by
  refine sv_ofJ (by decide) (Nat.le_of_ble_eq_true rfl) ?_
  intro X hX hN hnm hR C hZ
  replace C : sv_C E X cX9_found RX9 [] := C
  show sv_J E X (md_w E h0 ad B) sz 0 0 0 [(0, .ref h0), (1, .int x1)] []
  rw [f_X9_found] at hf
  refine sv_iconst (v := 0) C dX9_found_0 (by decide) ?_
  refine sv_istore_n (lv' := [(2, .int 0), (0, .ref h0), (1, .int x1)]) C dX9_found_1 rfl (by rw [hN]; decide) rfl ?_
  refine sv_sub (lv' := [(0, .ref h0), (1, .int x1), (2, .int 0)]) [1, 2, 0] rfl ?_
  exact w_X9_found_2 C hZ hR hN sv_fu _ _ _ hf
def f_X9_signed (B : md_B) (x1 : Int32) (x2 : Int32) : Option (Int32 × md_B) :=
  (f_X9_read B x1 x2).bind (fun q3 =>
    some ((q3.1 <<< ((32 - x2) &&& 31)) >>> ((32 - x2) &&& 31), q3.2))
set_option maxHeartbeats 4000000 in
set_option maxRecDepth 100000 in
theorem m_X9_signed (l : Launch) (E : sv_E) (h0 : Nat) (ad : Nat → Nat) (sz : Nat) (B : md_B) (x1 : Int32) (x2 : Int32) (q : Int32 × md_B) (hf : f_X9_signed B x1 x2 = some q) : sv_Met l E yX9_signed cX9_signed 3 (some .int) 1 24 [] [.ref h0, .int x1, .int x2] (md_w E h0 ad B) sz (some (.int q.1)) (md_w E h0 ad q.2) sz 0 0 := by
  refine sv_ofJ (by decide) (Nat.le_of_ble_eq_true rfl) ?_
  intro X hX hN hnm hR C hZ
  replace C : sv_C E X cX9_signed RX9 [] := C
  show sv_J E X (md_w E h0 ad B) sz 0 0 0 [(0, .ref h0), (1, .int x1), (2, .int x2)] []
  rw [f_X9_signed] at hf
  refine sv_aload_n 0 C dX9_signed_0 rfl rfl ?_
  refine sv_iload_n 1 C dX9_signed_1 rfl rfl ?_
  refine sv_iload_n 2 C dX9_signed_2 rfl rfl ?_
  obtain ⟨q3, hc3, hf⟩ := sv_bind_some hf
  refine sv_callV0 C mv_X9_286 (m_X9_read (sv_l X) E h0 ad sz _ _ _ _ hc3) sv_sx0 0 rfl rfl rfl rfl (Nat.le_of_ble_eq_true rfl) ⟨by rw [hR]; decide, by rw [hR]; decide⟩ ⟨by rw [hR]; decide, by rw [hR]; decide⟩ dX9_signed_3 ?_
  refine sv_bipush (v := 32) C dX9_signed_6 (by decide) ?_
  refine sv_iload_n 2 C dX9_signed_8 rfl rfl ?_
  refine sv_isub C dX9_signed_9 ?_
  refine sv_ishl C dX9_signed_10 ?_
  refine sv_bipush (v := 32) C dX9_signed_11 (by decide) ?_
  refine sv_iload_n 2 C dX9_signed_13 rfl rfl ?_
  refine sv_isub C dX9_signed_14 ?_
  refine sv_ishr C dX9_signed_15 ?_
  exact sv_iret C (by cases hf; exact hZ) dX9_signed_16
def f_X9_put_30 (k4 : md_B → Int32 → Int32 → Option (md_B)) (B : md_B) (x1 : Int32) (x3 : Int32) (s0 : Int32) (s1 : Int32) : Option (md_B) :=
  sv_g (sv_inb s1 424) (
    k4 (md_pf (md_pa B 35 s1 (vp_nar .boolean s0)) 36 (((md_pa B 35 s1 (vp_nar .boolean s0)).1 36) + 1)) x1 (x3 + (-1)))
def f_X9_put_4 : Nat → md_B → Int32 → Int32 → Option (md_B)
  | 0, _, _, _ => none
  | n + 1, B, x1, x3 =>
    if x3 < 0 then
      some B
    else
      if ((x1 >>> (x3 &&& 31)) &&& 1) = 1 then
        f_X9_put_30 (f_X9_put_4 n) B x1 x3 1 (B.1 36)
      else
        f_X9_put_30 (f_X9_put_4 n) B x1 x3 0 (B.1 36)
def f_X9_put (B : md_B) (x1 : Int32) (x2 : Int32) : Option (md_B) :=
  f_X9_put_4 sv_fu B x1 (x2 - 1)
set_option maxHeartbeats 4000000 in
set_option maxRecDepth 100000 in
theorem w_X9_put_30 {E : sv_E} {X : sv_X} {h0 : Nat} {ad : Nat → Nat} {sz : Nat} {q : md_B} (C : sv_C E X cX9_put RX9 []) (hZ : sv_Z E X none none (md_w E h0 ad q) sz 0 0) (hR : sv_R X = { frames := 0, cells := 0, slots := 0, locals := 0 }) (hN : sv_nL X = 4) {k4 : md_B → Int32 → Int32 → Option (md_B)} (hk4 : ∀ (B : md_B) (x1 : Int32) (x3 : Int32), k4 B x1 x3 = some q → sv_J E X (md_w E h0 ad B) sz 0 0 4 [(0, .ref h0), (1, .int x1), (3, .int x3)] []) (B : md_B) (x1 : Int32) (x3 : Int32) (s0 : Int32) (s1 : Int32) (hf : f_X9_put_30 k4 B x1 x3 s0 s1 = some q) : sv_J E X (md_w E h0 ad B) sz 0 0 30 [(0, .ref h0), (1, .int x1), (3, .int x3)] [.int s0, .int s1, .ref (ad 35)] := by
  rw [f_X9_put_30] at hf
  obtain ⟨g30, hf⟩ := sv_g_some hf
  refine md_zast C 16 rfl g30 dX9_put_30 ?_
  refine sv_aload_n 0 C dX9_put_31 rfl rfl ?_
  refine sv_dup C dX9_put_32 rfl ?_
  refine md_geti C fl_X9_352 (by decide) dX9_put_33 ?_
  refine sv_iconst (v := 1) C dX9_put_36 (by decide) ?_
  refine sv_iadd C dX9_put_37 ?_
  refine md_puti C fl_X9_352 (by decide) rfl rfl dX9_put_38 ?_
  refine sv_iinc (v := x3 + (-1)) (lv' := [(3, .int (x3 + (-1))), (0, .ref h0), (1, .int x1)]) 2 C dX9_put_41 rfl rfl (by rw [hN]; decide) rfl ?_
  refine sv_goto (tgt := 4) C dX9_put_44 (by decide) ?_
  refine sv_sub (lv' := [(0, .ref h0), (1, .int x1), (3, .int (x3 + (-1)))]) [1, 2, 0] rfl ?_
  exact hk4 _ _ _ hf
set_option maxHeartbeats 4000000 in
set_option maxRecDepth 100000 in
theorem w_X9_put_4 {E : sv_E} {X : sv_X} {h0 : Nat} {ad : Nat → Nat} {sz : Nat} {q : md_B} (C : sv_C E X cX9_put RX9 []) (hZ : sv_Z E X none none (md_w E h0 ad q) sz 0 0) (hR : sv_R X = { frames := 0, cells := 0, slots := 0, locals := 0 }) (hN : sv_nL X = 4) : ∀ (n : Nat) (B : md_B) (x1 : Int32) (x3 : Int32), f_X9_put_4 n B x1 x3 = some q → sv_J E X (md_w E h0 ad B) sz 0 0 4 [(0, .ref h0), (1, .int x1), (3, .int x3)] [] := by
  intro n
  induction n with
  | zero =>
    intro B x1 x3 hf
    rw [f_X9_put_4] at hf
    cases hf
  | succ n ih =>
    intro B x1 x3 hf
    rw [f_X9_put_4] at hf
    refine sv_iload_n 2 C dX9_put_4 rfl rfl ?_
    refine sv_if_lt (tgt := 47) C dX9_put_5 (by decide) (fun c5 => ?_) (fun c5 => ?_)
    · replace hf := sv_if_t c5 hf
      exact sv_vret C (by cases hf; exact hZ) dX9_put_47
    · replace hf := sv_if_f c5 hf
      refine sv_aload_n 0 C dX9_put_8 rfl rfl ?_
      refine md_getr C fl_X9_64 (by decide) dX9_put_9 ?_
      refine sv_aload_n 0 C dX9_put_12 rfl rfl ?_
      refine md_geti C fl_X9_352 (by decide) dX9_put_13 ?_
      refine sv_iload_n 1 C dX9_put_16 rfl rfl ?_
      refine sv_iload_n 2 C dX9_put_17 rfl rfl ?_
      refine sv_ishr C dX9_put_18 ?_
      refine sv_iconst (v := 1) C dX9_put_19 (by decide) ?_
      refine sv_iand C dX9_put_20 ?_
      refine sv_iconst (v := 1) C dX9_put_21 (by decide) ?_
      refine sv_icmp_ne (tgt := 29) C dX9_put_22 (by decide) (fun c22 => ?_) (fun c22 => ?_)
      · replace hf := sv_if_f c22 hf
        refine sv_iconst (v := 0) C dX9_put_29 (by decide) ?_
        refine sv_sub (lv' := [(0, .ref h0), (1, .int x1), (3, .int x3)]) [0, 1, 2] rfl ?_
        exact w_X9_put_30 C hZ hR hN ih _ _ _ _ _ hf
      · replace hf := sv_if_t c22 hf
        refine sv_iconst (v := 1) C dX9_put_25 (by decide) ?_
        refine sv_goto (tgt := 30) C dX9_put_26 (by decide) ?_
        refine sv_sub (lv' := [(0, .ref h0), (1, .int x1), (3, .int x3)]) [0, 1, 2] rfl ?_
        exact w_X9_put_30 C hZ hR hN ih _ _ _ _ _ hf
set_option maxHeartbeats 4000000 in
set_option maxRecDepth 100000 in
theorem m_X9_put (l : Launch) (E : sv_E) (h0 : Nat) (ad : Nat → Nat) (sz : Nat) (B : md_B) (x1 : Int32) (x2 : Int32) (q : md_B) (hf : f_X9_put B x1 x2 = some q) : sv_Met l E yX9_put cX9_put 4 none 0 0 [] [.ref h0, .int x1, .int x2] (md_w E h0 ad B) sz none (md_w E h0 ad q) sz 0 0 := by
  refine sv_ofJ (by decide) (Nat.le_of_ble_eq_true rfl) ?_
  intro X hX hN hnm hR C hZ
  replace C : sv_C E X cX9_put RX9 [] := C
  show sv_J E X (md_w E h0 ad B) sz 0 0 0 [(0, .ref h0), (1, .int x1), (2, .int x2)] []
  rw [f_X9_put] at hf
  refine sv_iload_n 2 C dX9_put_0 rfl rfl ?_
  refine sv_iconst (v := 1) C dX9_put_1 (by decide) ?_
  refine sv_isub C dX9_put_2 ?_
  refine sv_istore_n (lv' := [(3, .int (x2 - 1)), (0, .ref h0), (1, .int x1), (2, .int x2)]) C dX9_put_3 rfl (by rw [hN]; decide) rfl ?_
  refine sv_sub (lv' := [(0, .ref h0), (1, .int x1), (3, .int (x2 - 1))]) [1, 2, 0] rfl ?_
  exact w_X9_put_4 C hZ hR hN sv_fu _ _ _ hf
def f_X9_go_81 (B : md_B) (x2 : Int32) : Option (md_B) :=
  some (md_pf B 32 ((B.1 32) + x2))
def f_X9_go_49 (B : md_B) (x2 : Int32) (s0 : Int32) (s1 : Int32) : Option (md_B) :=
  sv_g (sv_inb s1 960) (
    f_X9_go_81 (md_pa B 29 s1 s0) x2)
def f_X9_go_77 (B : md_B) (x2 : Int32) (s0 : Int32) : Option (md_B) :=
  (f_X9_put B s0 x2).bind (fun q78 =>
    f_X9_go_81 q78 x2)
def f_X9_go (B : md_B) (x1 : Int32) (x2 : Int32) (x3 : Int32) : Option (md_B) :=
  if (B.1 33) = 0 then
    if x3 = 0 then
      (f_X9_read B (B.1 32) x2).bind (fun q46 =>
        f_X9_go_49 q46.2 x2 q46.1 ((24 * (B.1 34)) + x1))
    else
      (f_X9_signed B (B.1 32) x2).bind (fun q34 =>
        f_X9_go_49 q34.2 x2 q34.1 ((24 * (B.1 34)) + x1))
  else
    sv_g (sv_inb ((24 * (B.1 34)) + x1) 960) (
      if (B.2 29 ((24 * (B.1 34)) + x1).toNatClampNeg) = (-2147483648) then
        f_X9_go_77 B x2 0
      else
        sv_g (sv_inb ((24 * (B.1 34)) + x1) 960) (
          f_X9_go_77 B x2 (B.2 29 ((24 * (B.1 34)) + x1).toNatClampNeg)))
set_option maxHeartbeats 4000000 in
set_option maxRecDepth 100000 in
theorem w_X9_go_81 {E : sv_E} {X : sv_X} {h0 : Nat} {ad : Nat → Nat} {sz : Nat} {q : md_B} (C : sv_C E X cX9_go RX9 []) (hZ : sv_Z E X none none (md_w E h0 ad q) sz 0 0) (hR : sv_R X = { frames := 2, cells := 0, slots := 0, locals := 46 }) (hN : sv_nL X = 5) (B : md_B) (x2 : Int32) (hf : f_X9_go_81 B x2 = some q) : sv_J E X (md_w E h0 ad B) sz 0 0 81 [(0, .ref h0), (2, .int x2)] [] := by
  rw [f_X9_go_81] at hf
  refine sv_aload_n 0 C dX9_go_81 rfl rfl ?_
  refine sv_dup C dX9_go_82 rfl ?_
  refine md_geti C fl_X9_306 (by decide) dX9_go_83 ?_
  refine sv_iload_n 1 C dX9_go_86 rfl rfl ?_
  refine sv_iadd C dX9_go_87 ?_
  refine md_puti C fl_X9_306 (by decide) rfl rfl dX9_go_88 ?_
  exact sv_vret C (by cases hf; exact hZ) dX9_go_91
set_option maxHeartbeats 4000000 in
set_option maxRecDepth 100000 in
theorem w_X9_go_49 {E : sv_E} {X : sv_X} {h0 : Nat} {ad : Nat → Nat} {sz : Nat} {q : md_B} (C : sv_C E X cX9_go RX9 []) (hZ : sv_Z E X none none (md_w E h0 ad q) sz 0 0) (hR : sv_R X = { frames := 2, cells := 0, slots := 0, locals := 46 }) (hN : sv_nL X = 5) (B : md_B) (x2 : Int32) (s0 : Int32) (s1 : Int32) (hf : f_X9_go_49 B x2 s0 s1 = some q) : sv_J E X (md_w E h0 ad B) sz 0 0 49 [(0, .ref h0), (2, .int x2)] [.int s0, .int s1, .ref (ad 29)] := by
  rw [f_X9_go_49] at hf
  obtain ⟨g49, hf⟩ := sv_g_some hf
  refine md_iast C 13 rfl g49 dX9_go_49 ?_
  refine sv_goto (tgt := 81) C dX9_go_50 (by decide) ?_
  refine sv_sub (lv' := [(0, .ref h0), (2, .int x2)]) [0, 1] rfl ?_
  exact w_X9_go_81 C hZ hR hN _ _ hf
set_option maxHeartbeats 4000000 in
set_option maxRecDepth 100000 in
theorem w_X9_go_77 {E : sv_E} {X : sv_X} {h0 : Nat} {ad : Nat → Nat} {sz : Nat} {q : md_B} (C : sv_C E X cX9_go RX9 []) (hZ : sv_Z E X none none (md_w E h0 ad q) sz 0 0) (hR : sv_R X = { frames := 2, cells := 0, slots := 0, locals := 46 }) (hN : sv_nL X = 5) (B : md_B) (x2 : Int32) (s0 : Int32) (hf : f_X9_go_77 B x2 s0 = some q) : sv_J E X (md_w E h0 ad B) sz 0 0 77 [(0, .ref h0), (2, .int x2)] [.int s0, .ref h0] := by
  rw [f_X9_go_77] at hf
  refine sv_iload_n 1 C dX9_go_77 rfl rfl ?_
  obtain ⟨q78, hc78, hf⟩ := sv_bind_some hf
  refine sv_callV0 C mv_X9_311 (m_X9_put (sv_l X) E h0 ad sz _ _ _ _ hc78) sv_sx0 0 rfl rfl rfl rfl (Nat.le_of_ble_eq_true rfl) ⟨by rw [hR]; decide, by rw [hR]; decide⟩ ⟨by rw [hR]; decide, by rw [hR]; decide⟩ dX9_go_78 ?_
  refine sv_sub (lv' := [(0, .ref h0), (2, .int x2)]) [0, 1] rfl ?_
  exact w_X9_go_81 C hZ hR hN _ _ hf
set_option maxHeartbeats 4000000 in
set_option maxRecDepth 100000 in
theorem m_X9_go (l : Launch) (E : sv_E) (h0 : Nat) (ad : Nat → Nat) (sz : Nat) (B : md_B) (x1 : Int32) (x2 : Int32) (x3 : Int32) (q : md_B) (hf : f_X9_go B x1 x2 x3 = some q) : sv_Met l E yX9_go cX9_go 5 none 2 46 [] [.ref h0, .int x1, .int x2, .int x3] (md_w E h0 ad B) sz none (md_w E h0 ad q) sz 0 0 := by
  refine sv_ofJ (by decide) (Nat.le_of_ble_eq_true rfl) ?_
  intro X hX hN hnm hR C hZ
  replace C : sv_C E X cX9_go RX9 [] := C
  show sv_J E X (md_w E h0 ad B) sz 0 0 0 [(0, .ref h0), (1, .int x1), (2, .int x2), (3, .int x3)] []
  rw [f_X9_go] at hf
  refine sv_bipush (v := 24) C dX9_go_0 (by decide) ?_
  refine sv_aload_n 0 C dX9_go_2 rfl rfl ?_
  refine md_geti C fl_X9_300 (by decide) dX9_go_3 ?_
  refine sv_imul C dX9_go_6 ?_
  refine sv_iload_n 1 C dX9_go_7 rfl rfl ?_
  refine sv_iadd C dX9_go_8 ?_
  refine sv_istore (lv' := [(4, .int ((24 * (B.1 34)) + x1)), (0, .ref h0), (1, .int x1), (2, .int x2), (3, .int x3)]) C dX9_go_9 (by rw [hN]; decide) rfl ?_
  refine sv_aload_n 1 C dX9_go_11 rfl rfl ?_
  refine md_geti C fl_X9_303 (by decide) dX9_go_12 ?_
  refine sv_if_ne (tgt := 53) C dX9_go_15 (by decide) (fun c15 => ?_) (fun c15 => ?_)
  · replace hf := sv_if_f c15 hf
    refine sv_aload_n 1 C dX9_go_53 rfl rfl ?_
    refine sv_aload_n 1 C dX9_go_54 rfl rfl ?_
    refine md_getr C fl_X9_55 (by decide) dX9_go_55 ?_
    refine sv_iload 0 C dX9_go_58 rfl ?_
    obtain ⟨g60, hf⟩ := sv_g_some hf
    refine md_iald C 13 rfl g60 dX9_go_60 ?_
    refine sv_ldc C kw_562 dX9_go_61 ?_
    refine sv_icmp_ne (tgt := 70) C dX9_go_63 (by decide) (fun c63 => ?_) (fun c63 => ?_)
    · replace hf := sv_if_f c63 hf
      refine sv_aload_n 1 C dX9_go_70 rfl rfl ?_
      refine md_getr C fl_X9_55 (by decide) dX9_go_71 ?_
      refine sv_iload 0 C dX9_go_74 rfl ?_
      obtain ⟨g76, hf⟩ := sv_g_some hf
      refine md_iald C 13 rfl g76 dX9_go_76 ?_
      refine sv_sub (lv' := [(0, .ref h0), (2, .int x2)]) [1, 3] rfl ?_
      exact w_X9_go_77 C hZ hR hN _ _ _ hf
    · replace hf := sv_if_t c63 hf
      refine sv_iconst (v := 0) C dX9_go_66 (by decide) ?_
      refine sv_goto (tgt := 77) C dX9_go_67 (by decide) ?_
      refine sv_sub (lv' := [(0, .ref h0), (2, .int x2)]) [1, 3] rfl ?_
      exact w_X9_go_77 C hZ hR hN _ _ _ hf
  · replace hf := sv_if_t c15 hf
    refine sv_aload_n 1 C dX9_go_18 rfl rfl ?_
    refine md_getr C fl_X9_55 (by decide) dX9_go_19 ?_
    refine sv_iload 0 C dX9_go_22 rfl ?_
    refine sv_iload_n 4 C dX9_go_24 rfl rfl ?_
    refine sv_if_eq (tgt := 40) C dX9_go_25 (by decide) (fun c25 => ?_) (fun c25 => ?_)
    · replace hf := sv_if_t c25 hf
      refine sv_aload_n 1 C dX9_go_40 rfl rfl ?_
      refine sv_aload_n 1 C dX9_go_41 rfl rfl ?_
      refine md_geti C fl_X9_306 (by decide) dX9_go_42 ?_
      refine sv_iload_n 3 C dX9_go_45 rfl rfl ?_
      obtain ⟨q46, hc46, hf⟩ := sv_bind_some hf
      refine sv_callV0 C mv_X9_286 (m_X9_read (sv_l X) E h0 ad sz _ _ _ _ hc46) sv_sx0 0 rfl rfl rfl rfl (Nat.le_of_ble_eq_true rfl) ⟨by rw [hR]; decide, by rw [hR]; decide⟩ ⟨by rw [hR]; decide, by rw [hR]; decide⟩ dX9_go_46 ?_
      refine sv_sub (lv' := [(0, .ref h0), (2, .int x2)]) [1, 3] rfl ?_
      exact w_X9_go_49 C hZ hR hN _ _ _ _ hf
    · replace hf := sv_if_f c25 hf
      refine sv_aload_n 1 C dX9_go_28 rfl rfl ?_
      refine sv_aload_n 1 C dX9_go_29 rfl rfl ?_
      refine md_geti C fl_X9_306 (by decide) dX9_go_30 ?_
      refine sv_iload_n 3 C dX9_go_33 rfl rfl ?_
      obtain ⟨q34, hc34, hf⟩ := sv_bind_some hf
      refine sv_callV0 C mv_X9_308 (m_X9_signed (sv_l X) E h0 ad sz _ _ _ _ hc34) sv_sx0 0 rfl rfl rfl rfl (Nat.le_of_ble_eq_true rfl) ⟨by rw [hR]; decide, by rw [hR]; decide⟩ ⟨by rw [hR]; decide, by rw [hR]; decide⟩ dX9_go_34 ?_
      refine sv_goto (tgt := 49) C dX9_go_37 (by decide) ?_
      refine sv_sub (lv' := [(0, .ref h0), (2, .int x2)]) [1, 3] rfl ?_
      exact w_X9_go_49 C hZ hR hN _ _ _ _ hf
def f_X9_where (B : md_B) : Option (md_B) :=
  (f_X9_go B 5 1 0).bind (fun q4 =>
    (f_X9_go q4 6 28 1).bind (fun q13 =>
      (f_X9_go q13 7 27 1).bind (fun q22 =>
        some q22)))
set_option maxHeartbeats 4000000 in
set_option maxRecDepth 100000 in
theorem m_X9_where (l : Launch) (E : sv_E) (h0 : Nat) (ad : Nat → Nat) (sz : Nat) (B : md_B) (q : md_B) (hf : f_X9_where B = some q) : sv_Met l E yX9_where cX9_where 1 none 3 70 [] [.ref h0] (md_w E h0 ad B) sz none (md_w E h0 ad q) sz 0 0 := by
  refine sv_ofJ (by decide) (Nat.le_of_ble_eq_true rfl) ?_
  intro X hX hN hnm hR C hZ
  replace C : sv_C E X cX9_where RX9 [] := C
  show sv_J E X (md_w E h0 ad B) sz 0 0 0 [(0, .ref h0)] []
  rw [f_X9_where] at hf
  refine sv_aload_n 0 C dX9_where_0 rfl rfl ?_
  refine sv_iconst (v := 5) C dX9_where_1 (by decide) ?_
  refine sv_iconst (v := 1) C dX9_where_2 (by decide) ?_
  refine sv_iconst (v := 0) C dX9_where_3 (by decide) ?_
  obtain ⟨q4, hc4, hf⟩ := sv_bind_some hf
  refine sv_callV0 C mv_X9_317 (m_X9_go (sv_l X) E h0 ad sz _ _ _ _ _ hc4) sv_sx0 0 rfl rfl rfl rfl (Nat.le_of_ble_eq_true rfl) ⟨by rw [hR]; decide, by rw [hR]; decide⟩ ⟨by rw [hR]; decide, by rw [hR]; decide⟩ dX9_where_4 ?_
  refine sv_aload_n 0 C dX9_where_7 rfl rfl ?_
  refine sv_bipush (v := 6) C dX9_where_8 (by decide) ?_
  refine sv_bipush (v := 28) C dX9_where_10 (by decide) ?_
  refine sv_iconst (v := 1) C dX9_where_12 (by decide) ?_
  obtain ⟨q13, hc13, hf⟩ := sv_bind_some hf
  refine sv_callV0 C mv_X9_317 (m_X9_go (sv_l X) E h0 ad sz _ _ _ _ _ hc13) sv_sx0 0 rfl rfl rfl rfl (Nat.le_of_ble_eq_true rfl) ⟨by rw [hR]; decide, by rw [hR]; decide⟩ ⟨by rw [hR]; decide, by rw [hR]; decide⟩ dX9_where_13 ?_
  refine sv_aload_n 0 C dX9_where_16 rfl rfl ?_
  refine sv_bipush (v := 7) C dX9_where_17 (by decide) ?_
  refine sv_bipush (v := 27) C dX9_where_19 (by decide) ?_
  refine sv_iconst (v := 1) C dX9_where_21 (by decide) ?_
  obtain ⟨q22, hc22, hf⟩ := sv_bind_some hf
  refine sv_callV0 C mv_X9_317 (m_X9_go (sv_l X) E h0 ad sz _ _ _ _ _ hc22) sv_sx0 0 rfl rfl rfl rfl (Nat.le_of_ble_eq_true rfl) ⟨by rw [hR]; decide, by rw [hR]; decide⟩ ⟨by rw [hR]; decide, by rw [hR]; decide⟩ dX9_where_22 ?_
  exact sv_vret C (by cases hf; exact hZ) dX9_where_25
def f_X9_way (B : md_B) : Option (md_B) :=
  (f_X9_go B 8 12 0).bind (fun q6 =>
    (f_X9_go q6 9 9 0).bind (fun q15 =>
      (f_X9_go q15 10 6 0).bind (fun q24 =>
        some q24)))
set_option maxHeartbeats 4000000 in
set_option maxRecDepth 100000 in
theorem m_X9_way (l : Launch) (E : sv_E) (h0 : Nat) (ad : Nat → Nat) (sz : Nat) (B : md_B) (q : md_B) (hf : f_X9_way B = some q) : sv_Met l E yX9_way cX9_way 1 none 3 70 [] [.ref h0] (md_w E h0 ad B) sz none (md_w E h0 ad q) sz 0 0 := by
  refine sv_ofJ (by decide) (Nat.le_of_ble_eq_true rfl) ?_
  intro X hX hN hnm hR C hZ
  replace C : sv_C E X cX9_way RX9 [] := C
  show sv_J E X (md_w E h0 ad B) sz 0 0 0 [(0, .ref h0)] []
  rw [f_X9_way] at hf
  refine sv_aload_n 0 C dX9_way_0 rfl rfl ?_
  refine sv_bipush (v := 8) C dX9_way_1 (by decide) ?_
  refine sv_bipush (v := 12) C dX9_way_3 (by decide) ?_
  refine sv_iconst (v := 0) C dX9_way_5 (by decide) ?_
  obtain ⟨q6, hc6, hf⟩ := sv_bind_some hf
  refine sv_callV0 C mv_X9_317 (m_X9_go (sv_l X) E h0 ad sz _ _ _ _ _ hc6) sv_sx0 0 rfl rfl rfl rfl (Nat.le_of_ble_eq_true rfl) ⟨by rw [hR]; decide, by rw [hR]; decide⟩ ⟨by rw [hR]; decide, by rw [hR]; decide⟩ dX9_way_6 ?_
  refine sv_aload_n 0 C dX9_way_9 rfl rfl ?_
  refine sv_bipush (v := 9) C dX9_way_10 (by decide) ?_
  refine sv_bipush (v := 9) C dX9_way_12 (by decide) ?_
  refine sv_iconst (v := 0) C dX9_way_14 (by decide) ?_
  obtain ⟨q15, hc15, hf⟩ := sv_bind_some hf
  refine sv_callV0 C mv_X9_317 (m_X9_go (sv_l X) E h0 ad sz _ _ _ _ _ hc15) sv_sx0 0 rfl rfl rfl rfl (Nat.le_of_ble_eq_true rfl) ⟨by rw [hR]; decide, by rw [hR]; decide⟩ ⟨by rw [hR]; decide, by rw [hR]; decide⟩ dX9_way_15 ?_
  refine sv_aload_n 0 C dX9_way_18 rfl rfl ?_
  refine sv_bipush (v := 10) C dX9_way_19 (by decide) ?_
  refine sv_bipush (v := 6) C dX9_way_21 (by decide) ?_
  refine sv_iconst (v := 0) C dX9_way_23 (by decide) ?_
  obtain ⟨q24, hc24, hf⟩ := sv_bind_some hf
  refine sv_callV0 C mv_X9_317 (m_X9_go (sv_l X) E h0 ad sz _ _ _ _ _ hc24) sv_sx0 0 rfl rfl rfl rfl (Nat.le_of_ble_eq_true rfl) ⟨by rw [hR]; decide, by rw [hR]; decide⟩ ⟨by rw [hR]; decide, by rw [hR]; decide⟩ dX9_way_24 ?_
  exact sv_vret C (by cases hf; exact hZ) dX9_way_27
def f_X9_skip_13 (B : md_B) (x1 : Int32) : Option (md_B) :=
  some (md_pf B 32 ((B.1 32) + x1))
def f_X9_skip (B : md_B) (x1 : Int32) : Option (md_B) :=
  if (B.1 33) = 0 then
    f_X9_skip_13 B x1
  else
    (f_X9_put B 0 x1).bind (fun q10 =>
      f_X9_skip_13 q10 x1)
set_option maxHeartbeats 4000000 in
set_option maxRecDepth 100000 in
theorem w_X9_skip_13 {E : sv_E} {X : sv_X} {h0 : Nat} {ad : Nat → Nat} {sz : Nat} {q : md_B} (C : sv_C E X cX9_skip RX9 []) (hZ : sv_Z E X none none (md_w E h0 ad q) sz 0 0) (hR : sv_R X = { frames := 1, cells := 0, slots := 0, locals := 23 }) (hN : sv_nL X = 2) (B : md_B) (x1 : Int32) (hf : f_X9_skip_13 B x1 = some q) : sv_J E X (md_w E h0 ad B) sz 0 0 13 [(0, .ref h0), (1, .int x1)] [] := by
  rw [f_X9_skip_13] at hf
  refine sv_aload_n 0 C dX9_skip_13 rfl rfl ?_
  refine sv_dup C dX9_skip_14 rfl ?_
  refine md_geti C fl_X9_306 (by decide) dX9_skip_15 ?_
  refine sv_iload_n 1 C dX9_skip_18 rfl rfl ?_
  refine sv_iadd C dX9_skip_19 ?_
  refine md_puti C fl_X9_306 (by decide) rfl rfl dX9_skip_20 ?_
  exact sv_vret C (by cases hf; exact hZ) dX9_skip_23
set_option maxHeartbeats 4000000 in
set_option maxRecDepth 100000 in
theorem m_X9_skip (l : Launch) (E : sv_E) (h0 : Nat) (ad : Nat → Nat) (sz : Nat) (B : md_B) (x1 : Int32) (q : md_B) (hf : f_X9_skip B x1 = some q) : sv_Met l E yX9_skip cX9_skip 2 none 1 23 [] [.ref h0, .int x1] (md_w E h0 ad B) sz none (md_w E h0 ad q) sz 0 0 := by
  refine sv_ofJ (by decide) (Nat.le_of_ble_eq_true rfl) ?_
  intro X hX hN hnm hR C hZ
  replace C : sv_C E X cX9_skip RX9 [] := C
  show sv_J E X (md_w E h0 ad B) sz 0 0 0 [(0, .ref h0), (1, .int x1)] []
  rw [f_X9_skip] at hf
  refine sv_aload_n 0 C dX9_skip_0 rfl rfl ?_
  refine md_geti C fl_X9_303 (by decide) dX9_skip_1 ?_
  refine sv_if_eq (tgt := 13) C dX9_skip_4 (by decide) (fun c4 => ?_) (fun c4 => ?_)
  · replace hf := sv_if_t c4 hf
    refine sv_sub (lv' := [(0, .ref h0), (1, .int x1)]) [0, 1] rfl ?_
    exact w_X9_skip_13 C hZ hR hN _ _ hf
  · replace hf := sv_if_f c4 hf
    refine sv_aload_n 0 C dX9_skip_7 rfl rfl ?_
    refine sv_iconst (v := 0) C dX9_skip_8 (by decide) ?_
    refine sv_iload_n 1 C dX9_skip_9 rfl rfl ?_
    obtain ⟨q10, hc10, hf⟩ := sv_bind_some hf
    refine sv_callV0 C mv_X9_311 (m_X9_put (sv_l X) E h0 ad sz _ _ _ _ hc10) sv_sx0 0 rfl rfl rfl rfl (Nat.le_of_ble_eq_true rfl) ⟨by rw [hR]; decide, by rw [hR]; decide⟩ ⟨by rw [hR]; decide, by rw [hR]; decide⟩ dX9_skip_10 ?_
    refine sv_sub (lv' := [(0, .ref h0), (1, .int x1)]) [0, 1] rfl ?_
    exact w_X9_skip_13 C hZ hR hN _ _ hf
def f_X9_room (B : md_B) (x0 : Int32) : Option (Int32 × md_B) :=
  if x0 = 0 then
    some (7, B)
  else
    some (20, B)
set_option maxHeartbeats 4000000 in
set_option maxRecDepth 100000 in
theorem m_X9_room (l : Launch) (E : sv_E) (h0 : Nat) (ad : Nat → Nat) (sz : Nat) (B : md_B) (x0 : Int32) (q : Int32 × md_B) (hf : f_X9_room B x0 = some q) : sv_Met l E yX9_room cX9_room 1 (some .int) 0 0 [] [.int x0] (md_w E h0 ad B) sz (some (.int q.1)) (md_w E h0 ad q.2) sz 0 0 := by
  refine sv_ofJ (by decide) (Nat.le_of_ble_eq_true rfl) ?_
  intro X hX hN hnm hR C hZ
  replace C : sv_C E X cX9_room RX9 [] := C
  show sv_J E X (md_w E h0 ad B) sz 0 0 0 [(0, .int x0)] []
  rw [f_X9_room] at hf
  refine sv_iload_n 0 C dX9_room_0 rfl rfl ?_
  refine sv_if_ne (tgt := 9) C dX9_room_1 (by decide) (fun c1 => ?_) (fun c1 => ?_)
  · replace hf := sv_if_f c1 hf
    refine sv_bipush (v := 20) C dX9_room_9 (by decide) ?_
    exact sv_iret C (by cases hf; exact hZ) dX9_room_11
  · replace hf := sv_if_t c1 hf
    refine sv_bipush (v := 7) C dX9_room_4 (by decide) ?_
    refine sv_goto (tgt := 11) C dX9_room_6 (by decide) ?_
    exact sv_iret C (by cases hf; exact hZ) dX9_room_11
def f_X9_words_65 (k28 : md_B → Int32 → Int32 → Int32 → Int32 → Option (md_B)) (B : md_B) (x1 : Int32) (x2 : Int32) (x3 : Int32) (x4 : Int32) (s0 : Int32) : Option (md_B) :=
  (f_X9_put B (s0 &&& 63) 6).bind (fun q75 =>
    k28 q75 x1 x2 x3 (x4 + 1))
def f_X9_words_28 : Nat → md_B → Int32 → Int32 → Int32 → Int32 → Option (md_B)
  | 0, _, _, _, _, _ => none
  | n + 1, B, x1, x2, x3, x4 =>
    if x3 ≤ x4 then
      some (md_pf B 32 ((B.1 32) + (6 * x3)))
    else
      sv_g (sv_inb ((3 * (B.1 34)) + x1) 120) (
        if (B.2 31 ((3 * (B.1 34)) + x1).toNatClampNeg) ≤ x4 then
          f_X9_words_65 (f_X9_words_28 n) B x1 x2 x3 x4 0
        else
          sv_g (sv_inb (x2 + x4) 2400) (
            f_X9_words_65 (f_X9_words_28 n) B x1 x2 x3 x4 (B.2 30 (x2 + x4).toNatClampNeg)))
def f_X9_words_190 (k104 : md_B → Int32 → Int32 → Int32 → Int32 → Int32 → Option (md_B)) (B : md_B) (x1 : Int32) (x2 : Int32) (x3 : Int32) (x5 : Int32) (s0 : Int32) : Option (md_B) :=
  k104 B x1 x2 x3 s0 x5
def f_X9_words_172 (k104 : md_B → Int32 → Int32 → Int32 → Int32 → Int32 → Option (md_B)) (B : md_B) (x1 : Int32) (x2 : Int32) (x3 : Int32) (x4 : Int32) (x5 : Int32) (x6 : Int32) (s0 : Int32) (s1 : Int32) : Option (md_B) :=
  sv_g (sv_inb s1 2400) (
    if x6 = 32 then
      f_X9_words_190 k104 (md_pa B 30 s1 s0) x1 x2 x3 (x5 + 1) x4
    else
      f_X9_words_190 k104 (md_pa B 30 s1 s0) x1 x2 x3 (x5 + 1) (x5 + 1))
def f_X9_words_195 (B : md_B) (x1 : Int32) (x3 : Int32) (x4 : Int32) : Option (md_B) :=
  sv_g (sv_inb ((3 * (B.1 34)) + x1) 120) (
    some (md_pf (md_pa B 31 ((3 * (B.1 34)) + x1) x4) 32 (((md_pa B 31 ((3 * (B.1 34)) + x1) x4).1 32) + (6 * x3))))
def f_X9_words_104 : Nat → md_B → Int32 → Int32 → Int32 → Int32 → Int32 → Option (md_B)
  | 0, _, _, _, _, _, _ => none
  | n + 1, B, x1, x2, x3, x4, x5 =>
    if x3 ≤ x5 then
      f_X9_words_195 B x1 x3 x4
    else
      (f_X9_read B ((B.1 32) + (6 * x5)) 6).bind (fun q123 =>
        if q123.1 = 0 then
          f_X9_words_195 q123.2 x1 x3 x4
        else
          (f_X9_read q123.2 ((q123.2.1 32) + (6 * x5)) 6).bind (fun q142 =>
            if 32 ≤ q142.1 then
              f_X9_words_172 (f_X9_words_104 n) q142.2 x1 x2 x3 x4 x5 q142.1 q142.1 (x2 + x5)
            else
              f_X9_words_172 (f_X9_words_104 n) q142.2 x1 x2 x3 x4 x5 q142.1 (q142.1 + 64) (x2 + x5)))
def f_X9_words (B : md_B) (x1 : Int32) : Option (md_B) :=
  (f_X9_room B x1).bind (fun q14 =>
    if (q14.2.1 33) = 0 then
      f_X9_words_104 sv_fu q14.2 x1 ((60 * (B.1 34)) + (20 * x1)) q14.1 0 0
    else
      f_X9_words_28 sv_fu q14.2 x1 ((60 * (B.1 34)) + (20 * x1)) q14.1 0)
set_option maxHeartbeats 4000000 in
set_option maxRecDepth 100000 in
theorem w_X9_words_65 {E : sv_E} {X : sv_X} {h0 : Nat} {ad : Nat → Nat} {sz : Nat} {q : md_B} (C : sv_C E X cX9_words RX9 []) (hZ : sv_Z E X none none (md_w E h0 ad q) sz 0 0) (hR : sv_R X = { frames := 1, cells := 0, slots := 0, locals := 24 }) (hN : sv_nL X = 7) {k28 : md_B → Int32 → Int32 → Int32 → Int32 → Option (md_B)} (hk28 : ∀ (B : md_B) (x1 : Int32) (x2 : Int32) (x3 : Int32) (x4 : Int32), k28 B x1 x2 x3 x4 = some q → sv_J E X (md_w E h0 ad B) sz 0 0 28 [(0, .ref h0), (1, .int x1), (2, .int x2), (3, .int x3), (4, .int x4)] []) (B : md_B) (x1 : Int32) (x2 : Int32) (x3 : Int32) (x4 : Int32) (s0 : Int32) (hf : f_X9_words_65 k28 B x1 x2 x3 x4 s0 = some q) : sv_J E X (md_w E h0 ad B) sz 0 0 65 [(0, .ref h0), (1, .int x1), (2, .int x2), (3, .int x3), (4, .int x4)] [.int s0] := by
  rw [f_X9_words_65] at hf
  refine sv_istore (lv' := [(5, .int s0), (0, .ref h0), (1, .int x1), (2, .int x2), (3, .int x3), (4, .int x4)]) C dX9_words_65 (by rw [hN]; decide) rfl ?_
  refine sv_aload_n 1 C dX9_words_67 rfl rfl ?_
  refine sv_iload 0 C dX9_words_68 rfl ?_
  refine sv_bipush (v := 63) C dX9_words_70 (by decide) ?_
  refine sv_iand C dX9_words_72 ?_
  refine sv_bipush (v := 6) C dX9_words_73 (by decide) ?_
  obtain ⟨q75, hc75, hf⟩ := sv_bind_some hf
  refine sv_callV0 C mv_X9_311 (m_X9_put (sv_l X) E h0 ad sz _ _ _ _ hc75) sv_sx0 0 rfl rfl rfl rfl (Nat.le_of_ble_eq_true rfl) ⟨by rw [hR]; decide, by rw [hR]; decide⟩ ⟨by rw [hR]; decide, by rw [hR]; decide⟩ dX9_words_75 ?_
  refine sv_iinc (v := x4 + 1) (lv' := [(4, .int (x4 + 1)), (5, .int s0), (0, .ref h0), (1, .int x1), (2, .int x2), (3, .int x3)]) 5 C dX9_words_78 rfl rfl (by rw [hN]; decide) rfl ?_
  refine sv_goto (tgt := 28) C dX9_words_81 (by decide) ?_
  refine sv_sub (lv' := [(0, .ref h0), (1, .int x1), (2, .int x2), (3, .int x3), (4, .int (x4 + 1))]) [2, 3, 4, 5, 0] rfl ?_
  exact hk28 _ _ _ _ _ hf
set_option maxHeartbeats 4000000 in
set_option maxRecDepth 100000 in
theorem w_X9_words_28 {E : sv_E} {X : sv_X} {h0 : Nat} {ad : Nat → Nat} {sz : Nat} {q : md_B} (C : sv_C E X cX9_words RX9 []) (hZ : sv_Z E X none none (md_w E h0 ad q) sz 0 0) (hR : sv_R X = { frames := 1, cells := 0, slots := 0, locals := 24 }) (hN : sv_nL X = 7) : ∀ (n : Nat) (B : md_B) (x1 : Int32) (x2 : Int32) (x3 : Int32) (x4 : Int32), f_X9_words_28 n B x1 x2 x3 x4 = some q → sv_J E X (md_w E h0 ad B) sz 0 0 28 [(0, .ref h0), (1, .int x1), (2, .int x2), (3, .int x3), (4, .int x4)] [] := by
  intro n
  induction n with
  | zero =>
    intro B x1 x2 x3 x4 hf
    rw [f_X9_words_28] at hf
    cases hf
  | succ n ih =>
    intro B x1 x2 x3 x4 hf
    rw [f_X9_words_28] at hf
    refine sv_iload 4 C dX9_words_28 rfl ?_
    refine sv_iload_n 3 C dX9_words_30 rfl rfl ?_
    refine sv_icmp_ge (tgt := 84) C dX9_words_31 (by decide) (fun c31 => ?_) (fun c31 => ?_)
    · replace hf := sv_if_t c31 hf
      refine sv_aload_n 0 C dX9_words_84 rfl rfl ?_
      refine sv_dup C dX9_words_85 rfl ?_
      refine md_geti C fl_X9_306 (by decide) dX9_words_86 ?_
      refine sv_bipush (v := 6) C dX9_words_89 (by decide) ?_
      refine sv_iload_n 3 C dX9_words_91 rfl rfl ?_
      refine sv_imul C dX9_words_92 ?_
      refine sv_iadd C dX9_words_93 ?_
      refine md_puti C fl_X9_306 (by decide) rfl rfl dX9_words_94 ?_
      exact sv_vret C (by cases hf; exact hZ) dX9_words_97
    · replace hf := sv_if_f c31 hf
      refine sv_iload 4 C dX9_words_34 rfl ?_
      refine sv_aload_n 0 C dX9_words_36 rfl rfl ?_
      refine md_getr C fl_X9_61 (by decide) dX9_words_37 ?_
      refine sv_iconst (v := 3) C dX9_words_40 (by decide) ?_
      refine sv_aload_n 0 C dX9_words_41 rfl rfl ?_
      refine md_geti C fl_X9_300 (by decide) dX9_words_42 ?_
      refine sv_imul C dX9_words_45 ?_
      refine sv_iload_n 1 C dX9_words_46 rfl rfl ?_
      refine sv_iadd C dX9_words_47 ?_
      obtain ⟨g48, hf⟩ := sv_g_some hf
      refine md_iald C 15 rfl g48 dX9_words_48 ?_
      refine sv_icmp_ge (tgt := 64) C dX9_words_49 (by decide) (fun c49 => ?_) (fun c49 => ?_)
      · replace hf := sv_if_t c49 hf
        refine sv_iconst (v := 0) C dX9_words_64 (by decide) ?_
        refine sv_sub (lv' := [(0, .ref h0), (1, .int x1), (2, .int x2), (3, .int x3), (4, .int x4)]) [0, 1, 2, 3, 4] rfl ?_
        exact w_X9_words_65 C hZ hR hN ih _ _ _ _ _ _ hf
      · replace hf := sv_if_f c49 hf
        refine sv_aload_n 0 C dX9_words_52 rfl rfl ?_
        refine md_getr C fl_X9_58 (by decide) dX9_words_53 ?_
        refine sv_iload_n 2 C dX9_words_56 rfl rfl ?_
        refine sv_iload 4 C dX9_words_57 rfl ?_
        refine sv_iadd C dX9_words_59 ?_
        obtain ⟨g60, hf⟩ := sv_g_some hf
        refine md_iald C 14 rfl g60 dX9_words_60 ?_
        refine sv_goto (tgt := 65) C dX9_words_61 (by decide) ?_
        refine sv_sub (lv' := [(0, .ref h0), (1, .int x1), (2, .int x2), (3, .int x3), (4, .int x4)]) [0, 1, 2, 3, 4] rfl ?_
        exact w_X9_words_65 C hZ hR hN ih _ _ _ _ _ _ hf
set_option maxHeartbeats 4000000 in
set_option maxRecDepth 100000 in
theorem w_X9_words_190 {E : sv_E} {X : sv_X} {h0 : Nat} {ad : Nat → Nat} {sz : Nat} {q : md_B} (C : sv_C E X cX9_words RX9 []) (hZ : sv_Z E X none none (md_w E h0 ad q) sz 0 0) (hR : sv_R X = { frames := 1, cells := 0, slots := 0, locals := 24 }) (hN : sv_nL X = 7) {k104 : md_B → Int32 → Int32 → Int32 → Int32 → Int32 → Option (md_B)} (hk104 : ∀ (B : md_B) (x1 : Int32) (x2 : Int32) (x3 : Int32) (x4 : Int32) (x5 : Int32), k104 B x1 x2 x3 x4 x5 = some q → sv_J E X (md_w E h0 ad B) sz 0 0 104 [(0, .ref h0), (1, .int x1), (2, .int x2), (3, .int x3), (4, .int x4), (5, .int x5)] []) (B : md_B) (x1 : Int32) (x2 : Int32) (x3 : Int32) (x5 : Int32) (s0 : Int32) (hf : f_X9_words_190 k104 B x1 x2 x3 x5 s0 = some q) : sv_J E X (md_w E h0 ad B) sz 0 0 190 [(0, .ref h0), (1, .int x1), (2, .int x2), (3, .int x3), (5, .int x5)] [.int s0] := by
  rw [f_X9_words_190] at hf
  refine sv_istore (lv' := [(4, .int s0), (0, .ref h0), (1, .int x1), (2, .int x2), (3, .int x3), (5, .int x5)]) C dX9_words_190 (by rw [hN]; decide) rfl ?_
  refine sv_goto (tgt := 104) C dX9_words_192 (by decide) ?_
  refine sv_sub (lv' := [(0, .ref h0), (1, .int x1), (2, .int x2), (3, .int x3), (4, .int s0), (5, .int x5)]) [1, 2, 3, 4, 0, 5] rfl ?_
  exact hk104 _ _ _ _ _ _ hf
set_option maxHeartbeats 4000000 in
set_option maxRecDepth 100000 in
theorem w_X9_words_172 {E : sv_E} {X : sv_X} {h0 : Nat} {ad : Nat → Nat} {sz : Nat} {q : md_B} (C : sv_C E X cX9_words RX9 []) (hZ : sv_Z E X none none (md_w E h0 ad q) sz 0 0) (hR : sv_R X = { frames := 1, cells := 0, slots := 0, locals := 24 }) (hN : sv_nL X = 7) {k104 : md_B → Int32 → Int32 → Int32 → Int32 → Int32 → Option (md_B)} (hk104 : ∀ (B : md_B) (x1 : Int32) (x2 : Int32) (x3 : Int32) (x4 : Int32) (x5 : Int32), k104 B x1 x2 x3 x4 x5 = some q → sv_J E X (md_w E h0 ad B) sz 0 0 104 [(0, .ref h0), (1, .int x1), (2, .int x2), (3, .int x3), (4, .int x4), (5, .int x5)] []) (B : md_B) (x1 : Int32) (x2 : Int32) (x3 : Int32) (x4 : Int32) (x5 : Int32) (x6 : Int32) (s0 : Int32) (s1 : Int32) (hf : f_X9_words_172 k104 B x1 x2 x3 x4 x5 x6 s0 s1 = some q) : sv_J E X (md_w E h0 ad B) sz 0 0 172 [(0, .ref h0), (1, .int x1), (2, .int x2), (3, .int x3), (4, .int x4), (5, .int x5), (6, .int x6)] [.int s0, .int s1, .ref (ad 30)] := by
  rw [f_X9_words_172] at hf
  obtain ⟨g172, hf⟩ := sv_g_some hf
  refine md_iast C 14 rfl g172 dX9_words_172 ?_
  refine sv_iinc (v := x5 + 1) (lv' := [(5, .int (x5 + 1)), (0, .ref h0), (1, .int x1), (2, .int x2), (3, .int x3), (4, .int x4), (6, .int x6)]) 5 C dX9_words_173 rfl rfl (by rw [hN]; decide) rfl ?_
  refine sv_iload 6 C dX9_words_176 rfl ?_
  refine sv_bipush (v := 32) C dX9_words_178 (by decide) ?_
  refine sv_icmp_ne (tgt := 188) C dX9_words_180 (by decide) (fun c180 => ?_) (fun c180 => ?_)
  · replace hf := sv_if_f c180 hf
    refine sv_iload 0 C dX9_words_188 rfl ?_
    refine sv_sub (lv' := [(0, .ref h0), (1, .int x1), (2, .int x2), (3, .int x3), (5, .int (x5 + 1))]) [1, 2, 3, 4, 0] rfl ?_
    exact w_X9_words_190 C hZ hR hN hk104 _ _ _ _ _ _ hf
  · replace hf := sv_if_t c180 hf
    refine sv_iload 5 C dX9_words_183 rfl ?_
    refine sv_goto (tgt := 190) C dX9_words_185 (by decide) ?_
    refine sv_sub (lv' := [(0, .ref h0), (1, .int x1), (2, .int x2), (3, .int x3), (5, .int (x5 + 1))]) [1, 2, 3, 4, 0] rfl ?_
    exact w_X9_words_190 C hZ hR hN hk104 _ _ _ _ _ _ hf
set_option maxHeartbeats 4000000 in
set_option maxRecDepth 100000 in
theorem w_X9_words_195 {E : sv_E} {X : sv_X} {h0 : Nat} {ad : Nat → Nat} {sz : Nat} {q : md_B} (C : sv_C E X cX9_words RX9 []) (hZ : sv_Z E X none none (md_w E h0 ad q) sz 0 0) (hR : sv_R X = { frames := 1, cells := 0, slots := 0, locals := 24 }) (hN : sv_nL X = 7) (B : md_B) (x1 : Int32) (x3 : Int32) (x4 : Int32) (hf : f_X9_words_195 B x1 x3 x4 = some q) : sv_J E X (md_w E h0 ad B) sz 0 0 195 [(0, .ref h0), (1, .int x1), (3, .int x3), (4, .int x4)] [] := by
  rw [f_X9_words_195] at hf
  refine sv_aload_n 0 C dX9_words_195 rfl rfl ?_
  refine md_getr C fl_X9_61 (by decide) dX9_words_196 ?_
  refine sv_iconst (v := 3) C dX9_words_199 (by decide) ?_
  refine sv_aload_n 0 C dX9_words_200 rfl rfl ?_
  refine md_geti C fl_X9_300 (by decide) dX9_words_201 ?_
  refine sv_imul C dX9_words_204 ?_
  refine sv_iload_n 1 C dX9_words_205 rfl rfl ?_
  refine sv_iadd C dX9_words_206 ?_
  refine sv_iload 3 C dX9_words_207 rfl ?_
  obtain ⟨g209, hf⟩ := sv_g_some hf
  refine md_iast C 15 rfl g209 dX9_words_209 ?_
  refine sv_aload_n 0 C dX9_words_210 rfl rfl ?_
  refine sv_dup C dX9_words_211 rfl ?_
  refine md_geti C fl_X9_306 (by decide) dX9_words_212 ?_
  refine sv_bipush (v := 6) C dX9_words_215 (by decide) ?_
  refine sv_iload_n 2 C dX9_words_217 rfl rfl ?_
  refine sv_imul C dX9_words_218 ?_
  refine sv_iadd C dX9_words_219 ?_
  refine md_puti C fl_X9_306 (by decide) rfl rfl dX9_words_220 ?_
  exact sv_vret C (by cases hf; exact hZ) dX9_words_223
set_option maxHeartbeats 4000000 in
set_option maxRecDepth 100000 in
theorem w_X9_words_104 {E : sv_E} {X : sv_X} {h0 : Nat} {ad : Nat → Nat} {sz : Nat} {q : md_B} (C : sv_C E X cX9_words RX9 []) (hZ : sv_Z E X none none (md_w E h0 ad q) sz 0 0) (hR : sv_R X = { frames := 1, cells := 0, slots := 0, locals := 24 }) (hN : sv_nL X = 7) : ∀ (n : Nat) (B : md_B) (x1 : Int32) (x2 : Int32) (x3 : Int32) (x4 : Int32) (x5 : Int32), f_X9_words_104 n B x1 x2 x3 x4 x5 = some q → sv_J E X (md_w E h0 ad B) sz 0 0 104 [(0, .ref h0), (1, .int x1), (2, .int x2), (3, .int x3), (4, .int x4), (5, .int x5)] [] := by
  intro n
  induction n with
  | zero =>
    intro B x1 x2 x3 x4 x5 hf
    rw [f_X9_words_104] at hf
    cases hf
  | succ n ih =>
    intro B x1 x2 x3 x4 x5 hf
    rw [f_X9_words_104] at hf
    refine sv_iload 5 C dX9_words_104 rfl ?_
    refine sv_iload_n 3 C dX9_words_106 rfl rfl ?_
    refine sv_icmp_ge (tgt := 195) C dX9_words_107 (by decide) (fun c107 => ?_) (fun c107 => ?_)
    · replace hf := sv_if_t c107 hf
      refine sv_sub (lv' := [(0, .ref h0), (1, .int x1), (3, .int x3), (4, .int x4)]) [0, 1, 3, 4] rfl ?_
      exact w_X9_words_195 C hZ hR hN _ _ _ _ hf
    · replace hf := sv_if_f c107 hf
      refine sv_aload_n 0 C dX9_words_110 rfl rfl ?_
      refine sv_aload_n 0 C dX9_words_111 rfl rfl ?_
      refine md_geti C fl_X9_306 (by decide) dX9_words_112 ?_
      refine sv_bipush (v := 6) C dX9_words_115 (by decide) ?_
      refine sv_iload 5 C dX9_words_117 rfl ?_
      refine sv_imul C dX9_words_119 ?_
      refine sv_iadd C dX9_words_120 ?_
      refine sv_bipush (v := 6) C dX9_words_121 (by decide) ?_
      obtain ⟨q123, hc123, hf⟩ := sv_bind_some hf
      refine sv_callV0 C mv_X9_286 (m_X9_read (sv_l X) E h0 ad sz _ _ _ _ hc123) sv_sx0 0 rfl rfl rfl rfl (Nat.le_of_ble_eq_true rfl) ⟨by rw [hR]; decide, by rw [hR]; decide⟩ ⟨by rw [hR]; decide, by rw [hR]; decide⟩ dX9_words_123 ?_
      refine sv_if_eq (tgt := 195) C dX9_words_126 (by decide) (fun c126 => ?_) (fun c126 => ?_)
      · replace hf := sv_if_t c126 hf
        refine sv_sub (lv' := [(0, .ref h0), (1, .int x1), (3, .int x3), (4, .int x4)]) [0, 1, 3, 4] rfl ?_
        exact w_X9_words_195 C hZ hR hN _ _ _ _ hf
      · replace hf := sv_if_f c126 hf
        refine sv_aload_n 0 C dX9_words_129 rfl rfl ?_
        refine sv_aload_n 0 C dX9_words_130 rfl rfl ?_
        refine md_geti C fl_X9_306 (by decide) dX9_words_131 ?_
        refine sv_bipush (v := 6) C dX9_words_134 (by decide) ?_
        refine sv_iload 5 C dX9_words_136 rfl ?_
        refine sv_imul C dX9_words_138 ?_
        refine sv_iadd C dX9_words_139 ?_
        refine sv_bipush (v := 6) C dX9_words_140 (by decide) ?_
        obtain ⟨q142, hc142, hf⟩ := sv_bind_some hf
        refine sv_callV0 C mv_X9_286 (m_X9_read (sv_l X) E h0 ad sz _ _ _ _ hc142) sv_sx0 0 rfl rfl rfl rfl (Nat.le_of_ble_eq_true rfl) ⟨by rw [hR]; decide, by rw [hR]; decide⟩ ⟨by rw [hR]; decide, by rw [hR]; decide⟩ dX9_words_142 ?_
        refine sv_istore (lv' := [(6, .int q142.1), (0, .ref h0), (1, .int x1), (2, .int x2), (3, .int x3), (4, .int x4), (5, .int x5)]) C dX9_words_145 (by rw [hN]; decide) rfl ?_
        refine sv_aload_n 1 C dX9_words_147 rfl rfl ?_
        refine md_getr C fl_X9_58 (by decide) dX9_words_148 ?_
        refine sv_iload_n 3 C dX9_words_151 rfl rfl ?_
        refine sv_iload 6 C dX9_words_152 rfl ?_
        refine sv_iadd C dX9_words_154 ?_
        refine sv_iload 0 C dX9_words_155 rfl ?_
        refine sv_bipush (v := 32) C dX9_words_157 (by decide) ?_
        refine sv_icmp_ge (tgt := 170) C dX9_words_159 (by decide) (fun c159 => ?_) (fun c159 => ?_)
        · replace hf := sv_if_t c159 hf
          refine sv_iload 0 C dX9_words_170 rfl ?_
          refine sv_sub (lv' := [(0, .ref h0), (1, .int x1), (2, .int x2), (3, .int x3), (4, .int x4), (5, .int x5), (6, .int q142.1)]) [1, 2, 3, 4, 5, 6, 0] rfl ?_
          exact w_X9_words_172 C hZ hR hN ih _ _ _ _ _ _ _ _ _ hf
        · replace hf := sv_if_f c159 hf
          refine sv_iload 0 C dX9_words_162 rfl ?_
          refine sv_bipush (v := 64) C dX9_words_164 (by decide) ?_
          refine sv_iadd C dX9_words_166 ?_
          refine sv_goto (tgt := 172) C dX9_words_167 (by decide) ?_
          refine sv_sub (lv' := [(0, .ref h0), (1, .int x1), (2, .int x2), (3, .int x3), (4, .int x4), (5, .int x5), (6, .int q142.1)]) [1, 2, 3, 4, 5, 6, 0] rfl ?_
          exact w_X9_words_172 C hZ hR hN ih _ _ _ _ _ _ _ _ _ hf
set_option maxHeartbeats 4000000 in
set_option maxRecDepth 100000 in
theorem m_X9_words (l : Launch) (E : sv_E) (h0 : Nat) (ad : Nat → Nat) (sz : Nat) (B : md_B) (x1 : Int32) (q : md_B) (hf : f_X9_words B x1 = some q) : sv_Met l E yX9_words cX9_words 7 none 1 24 [] [.ref h0, .int x1] (md_w E h0 ad B) sz none (md_w E h0 ad q) sz 0 0 := by
  refine sv_ofJ (by decide) (Nat.le_of_ble_eq_true rfl) ?_
  intro X hX hN hnm hR C hZ
  replace C : sv_C E X cX9_words RX9 [] := C
  show sv_J E X (md_w E h0 ad B) sz 0 0 0 [(0, .ref h0), (1, .int x1)] []
  rw [f_X9_words] at hf
  refine sv_bipush (v := 60) C dX9_words_0 (by decide) ?_
  refine sv_aload_n 0 C dX9_words_2 rfl rfl ?_
  refine md_geti C fl_X9_300 (by decide) dX9_words_3 ?_
  refine sv_imul C dX9_words_6 ?_
  refine sv_bipush (v := 20) C dX9_words_7 (by decide) ?_
  refine sv_iload_n 1 C dX9_words_9 rfl rfl ?_
  refine sv_imul C dX9_words_10 ?_
  refine sv_iadd C dX9_words_11 ?_
  refine sv_istore_n (lv' := [(2, .int ((60 * (B.1 34)) + (20 * x1))), (0, .ref h0), (1, .int x1)]) C dX9_words_12 rfl (by rw [hN]; decide) rfl ?_
  refine sv_iload_n 2 C dX9_words_13 rfl rfl ?_
  obtain ⟨q14, hc14, hf⟩ := sv_bind_some hf
  refine sv_callS0 C ms_X9_314 (m_X9_room (sv_l X) E h0 ad sz _ _ _ hc14) sv_sx0 rfl rfl (Nat.le_of_ble_eq_true rfl) ⟨by rw [hR]; decide, by rw [hR]; decide⟩ ⟨by rw [hR]; decide, by rw [hR]; decide⟩ dX9_words_14 ?_
  refine sv_istore_n (lv' := [(3, .int q14.1), (2, .int ((60 * (B.1 34)) + (20 * x1))), (0, .ref h0), (1, .int x1)]) C dX9_words_17 rfl (by rw [hN]; decide) rfl ?_
  refine sv_aload_n 2 C dX9_words_18 rfl rfl ?_
  refine md_geti C fl_X9_303 (by decide) dX9_words_19 ?_
  refine sv_if_eq (tgt := 98) C dX9_words_22 (by decide) (fun c22 => ?_) (fun c22 => ?_)
  · replace hf := sv_if_t c22 hf
    refine sv_iconst (v := 0) C dX9_words_98 (by decide) ?_
    refine sv_istore (lv' := [(4, .int 0), (3, .int q14.1), (2, .int ((60 * (B.1 34)) + (20 * x1))), (0, .ref h0), (1, .int x1)]) C dX9_words_99 (by rw [hN]; decide) rfl ?_
    refine sv_iconst (v := 0) C dX9_words_101 (by decide) ?_
    refine sv_istore (lv' := [(5, .int 0), (4, .int 0), (3, .int q14.1), (2, .int ((60 * (B.1 34)) + (20 * x1))), (0, .ref h0), (1, .int x1)]) C dX9_words_102 (by rw [hN]; decide) rfl ?_
    refine sv_sub (lv' := [(0, .ref h0), (1, .int x1), (2, .int ((60 * (B.1 34)) + (20 * x1))), (3, .int q14.1), (4, .int 0), (5, .int 0)]) [4, 5, 3, 2, 1, 0] rfl ?_
    exact w_X9_words_104 C hZ hR hN sv_fu _ _ _ _ _ _ hf
  · replace hf := sv_if_f c22 hf
    refine sv_iconst (v := 0) C dX9_words_25 (by decide) ?_
    refine sv_istore (lv' := [(4, .int 0), (3, .int q14.1), (2, .int ((60 * (B.1 34)) + (20 * x1))), (0, .ref h0), (1, .int x1)]) C dX9_words_26 (by rw [hN]; decide) rfl ?_
    refine sv_sub (lv' := [(0, .ref h0), (1, .int x1), (2, .int ((60 * (B.1 34)) + (20 * x1))), (3, .int q14.1), (4, .int 0)]) [3, 4, 2, 1, 0] rfl ?_
    exact w_X9_words_28 C hZ hR hN sv_fu _ _ _ _ _ hf
end
section
def f_X9_still (B : md_B) : Option (md_B) :=
  (f_X9_skip B 2).bind (fun q2 =>
    (f_X9_go q2 16 30 0).bind (fun q11 =>
      (f_X9_words q11 0).bind (fun q16 =>
        (f_X9_words q16 1).bind (fun q21 =>
          (f_X9_go q21 17 8 0).bind (fun q30 =>
            (f_X9_go q30 18 9 0).bind (fun q39 =>
              (f_X9_go q39 19 9 0).bind (fun q48 =>
                (f_X9_go q48 20 6 0).bind (fun q57 =>
                  (f_X9_go q57 21 6 0).bind (fun q66 =>
                    (f_X9_skip q66 4).bind (fun q71 =>
                      (f_X9_go q71 12 4 0).bind (fun q79 =>
                        (f_X9_go q79 13 5 0).bind (fun q87 =>
                          (f_X9_go q87 14 5 0).bind (fun q95 =>
                            (f_X9_go q95 15 6 0).bind (fun q104 =>
                              (f_X9_go q104 22 8 0).bind (fun q113 =>
                                (f_X9_words q113 2).bind (fun q118 =>
                                  (f_X9_skip q118 2).bind (fun q123 =>
                                    some q123)))))))))))))))))
set_option maxHeartbeats 4000000 in
set_option maxRecDepth 100000 in
theorem m_X9_still (l : Launch) (E : sv_E) (h0 : Nat) (ad : Nat → Nat) (sz : Nat) (B : md_B) (q : md_B) (hf : f_X9_still B = some q) : sv_Met l E yX9_still cX9_still 1 none 3 70 [] [.ref h0] (md_w E h0 ad B) sz none (md_w E h0 ad q) sz 0 0 := by
  refine sv_ofJ (by decide) (Nat.le_of_ble_eq_true rfl) ?_
  intro X hX hN hnm hR C hZ
  replace C : sv_C E X cX9_still RX9 [] := C
  show sv_J E X (md_w E h0 ad B) sz 0 0 0 [(0, .ref h0)] []
  rw [f_X9_still] at hf
  refine sv_aload_n 0 C dX9_still_0 rfl rfl ?_
  refine sv_iconst (v := 2) C dX9_still_1 (by decide) ?_
  obtain ⟨q2, hc2, hf⟩ := sv_bind_some hf
  refine sv_callV0 C mv_X9_327 (m_X9_skip (sv_l X) E h0 ad sz _ _ _ hc2) sv_sx0 0 rfl rfl rfl rfl (Nat.le_of_ble_eq_true rfl) ⟨by rw [hR]; decide, by rw [hR]; decide⟩ ⟨by rw [hR]; decide, by rw [hR]; decide⟩ dX9_still_2 ?_
  refine sv_aload_n 0 C dX9_still_5 rfl rfl ?_
  refine sv_bipush (v := 16) C dX9_still_6 (by decide) ?_
  refine sv_bipush (v := 30) C dX9_still_8 (by decide) ?_
  refine sv_iconst (v := 0) C dX9_still_10 (by decide) ?_
  obtain ⟨q11, hc11, hf⟩ := sv_bind_some hf
  refine sv_callV0 C mv_X9_317 (m_X9_go (sv_l X) E h0 ad sz _ _ _ _ _ hc11) sv_sx0 0 rfl rfl rfl rfl (Nat.le_of_ble_eq_true rfl) ⟨by rw [hR]; decide, by rw [hR]; decide⟩ ⟨by rw [hR]; decide, by rw [hR]; decide⟩ dX9_still_11 ?_
  refine sv_aload_n 0 C dX9_still_14 rfl rfl ?_
  refine sv_iconst (v := 0) C dX9_still_15 (by decide) ?_
  obtain ⟨q16, hc16, hf⟩ := sv_bind_some hf
  refine sv_callV0 C mv_X9_333 (m_X9_words (sv_l X) E h0 ad sz _ _ _ hc16) sv_sx0 0 rfl rfl rfl rfl (Nat.le_of_ble_eq_true rfl) ⟨by rw [hR]; decide, by rw [hR]; decide⟩ ⟨by rw [hR]; decide, by rw [hR]; decide⟩ dX9_still_16 ?_
  refine sv_aload_n 0 C dX9_still_19 rfl rfl ?_
  refine sv_iconst (v := 1) C dX9_still_20 (by decide) ?_
  obtain ⟨q21, hc21, hf⟩ := sv_bind_some hf
  refine sv_callV0 C mv_X9_333 (m_X9_words (sv_l X) E h0 ad sz _ _ _ hc21) sv_sx0 0 rfl rfl rfl rfl (Nat.le_of_ble_eq_true rfl) ⟨by rw [hR]; decide, by rw [hR]; decide⟩ ⟨by rw [hR]; decide, by rw [hR]; decide⟩ dX9_still_21 ?_
  refine sv_aload_n 0 C dX9_still_24 rfl rfl ?_
  refine sv_bipush (v := 17) C dX9_still_25 (by decide) ?_
  refine sv_bipush (v := 8) C dX9_still_27 (by decide) ?_
  refine sv_iconst (v := 0) C dX9_still_29 (by decide) ?_
  obtain ⟨q30, hc30, hf⟩ := sv_bind_some hf
  refine sv_callV0 C mv_X9_317 (m_X9_go (sv_l X) E h0 ad sz _ _ _ _ _ hc30) sv_sx0 0 rfl rfl rfl rfl (Nat.le_of_ble_eq_true rfl) ⟨by rw [hR]; decide, by rw [hR]; decide⟩ ⟨by rw [hR]; decide, by rw [hR]; decide⟩ dX9_still_30 ?_
  refine sv_aload_n 0 C dX9_still_33 rfl rfl ?_
  refine sv_bipush (v := 18) C dX9_still_34 (by decide) ?_
  refine sv_bipush (v := 9) C dX9_still_36 (by decide) ?_
  refine sv_iconst (v := 0) C dX9_still_38 (by decide) ?_
  obtain ⟨q39, hc39, hf⟩ := sv_bind_some hf
  refine sv_callV0 C mv_X9_317 (m_X9_go (sv_l X) E h0 ad sz _ _ _ _ _ hc39) sv_sx0 0 rfl rfl rfl rfl (Nat.le_of_ble_eq_true rfl) ⟨by rw [hR]; decide, by rw [hR]; decide⟩ ⟨by rw [hR]; decide, by rw [hR]; decide⟩ dX9_still_39 ?_
  refine sv_aload_n 0 C dX9_still_42 rfl rfl ?_
  refine sv_bipush (v := 19) C dX9_still_43 (by decide) ?_
  refine sv_bipush (v := 9) C dX9_still_45 (by decide) ?_
  refine sv_iconst (v := 0) C dX9_still_47 (by decide) ?_
  obtain ⟨q48, hc48, hf⟩ := sv_bind_some hf
  refine sv_callV0 C mv_X9_317 (m_X9_go (sv_l X) E h0 ad sz _ _ _ _ _ hc48) sv_sx0 0 rfl rfl rfl rfl (Nat.le_of_ble_eq_true rfl) ⟨by rw [hR]; decide, by rw [hR]; decide⟩ ⟨by rw [hR]; decide, by rw [hR]; decide⟩ dX9_still_48 ?_
  refine sv_aload_n 0 C dX9_still_51 rfl rfl ?_
  refine sv_bipush (v := 20) C dX9_still_52 (by decide) ?_
  refine sv_bipush (v := 6) C dX9_still_54 (by decide) ?_
  refine sv_iconst (v := 0) C dX9_still_56 (by decide) ?_
  obtain ⟨q57, hc57, hf⟩ := sv_bind_some hf
  refine sv_callV0 C mv_X9_317 (m_X9_go (sv_l X) E h0 ad sz _ _ _ _ _ hc57) sv_sx0 0 rfl rfl rfl rfl (Nat.le_of_ble_eq_true rfl) ⟨by rw [hR]; decide, by rw [hR]; decide⟩ ⟨by rw [hR]; decide, by rw [hR]; decide⟩ dX9_still_57 ?_
  refine sv_aload_n 0 C dX9_still_60 rfl rfl ?_
  refine sv_bipush (v := 21) C dX9_still_61 (by decide) ?_
  refine sv_bipush (v := 6) C dX9_still_63 (by decide) ?_
  refine sv_iconst (v := 0) C dX9_still_65 (by decide) ?_
  obtain ⟨q66, hc66, hf⟩ := sv_bind_some hf
  refine sv_callV0 C mv_X9_317 (m_X9_go (sv_l X) E h0 ad sz _ _ _ _ _ hc66) sv_sx0 0 rfl rfl rfl rfl (Nat.le_of_ble_eq_true rfl) ⟨by rw [hR]; decide, by rw [hR]; decide⟩ ⟨by rw [hR]; decide, by rw [hR]; decide⟩ dX9_still_66 ?_
  refine sv_aload_n 0 C dX9_still_69 rfl rfl ?_
  refine sv_iconst (v := 4) C dX9_still_70 (by decide) ?_
  obtain ⟨q71, hc71, hf⟩ := sv_bind_some hf
  refine sv_callV0 C mv_X9_327 (m_X9_skip (sv_l X) E h0 ad sz _ _ _ hc71) sv_sx0 0 rfl rfl rfl rfl (Nat.le_of_ble_eq_true rfl) ⟨by rw [hR]; decide, by rw [hR]; decide⟩ ⟨by rw [hR]; decide, by rw [hR]; decide⟩ dX9_still_71 ?_
  refine sv_aload_n 0 C dX9_still_74 rfl rfl ?_
  refine sv_bipush (v := 12) C dX9_still_75 (by decide) ?_
  refine sv_iconst (v := 4) C dX9_still_77 (by decide) ?_
  refine sv_iconst (v := 0) C dX9_still_78 (by decide) ?_
  obtain ⟨q79, hc79, hf⟩ := sv_bind_some hf
  refine sv_callV0 C mv_X9_317 (m_X9_go (sv_l X) E h0 ad sz _ _ _ _ _ hc79) sv_sx0 0 rfl rfl rfl rfl (Nat.le_of_ble_eq_true rfl) ⟨by rw [hR]; decide, by rw [hR]; decide⟩ ⟨by rw [hR]; decide, by rw [hR]; decide⟩ dX9_still_79 ?_
  refine sv_aload_n 0 C dX9_still_82 rfl rfl ?_
  refine sv_bipush (v := 13) C dX9_still_83 (by decide) ?_
  refine sv_iconst (v := 5) C dX9_still_85 (by decide) ?_
  refine sv_iconst (v := 0) C dX9_still_86 (by decide) ?_
  obtain ⟨q87, hc87, hf⟩ := sv_bind_some hf
  refine sv_callV0 C mv_X9_317 (m_X9_go (sv_l X) E h0 ad sz _ _ _ _ _ hc87) sv_sx0 0 rfl rfl rfl rfl (Nat.le_of_ble_eq_true rfl) ⟨by rw [hR]; decide, by rw [hR]; decide⟩ ⟨by rw [hR]; decide, by rw [hR]; decide⟩ dX9_still_87 ?_
  refine sv_aload_n 0 C dX9_still_90 rfl rfl ?_
  refine sv_bipush (v := 14) C dX9_still_91 (by decide) ?_
  refine sv_iconst (v := 5) C dX9_still_93 (by decide) ?_
  refine sv_iconst (v := 0) C dX9_still_94 (by decide) ?_
  obtain ⟨q95, hc95, hf⟩ := sv_bind_some hf
  refine sv_callV0 C mv_X9_317 (m_X9_go (sv_l X) E h0 ad sz _ _ _ _ _ hc95) sv_sx0 0 rfl rfl rfl rfl (Nat.le_of_ble_eq_true rfl) ⟨by rw [hR]; decide, by rw [hR]; decide⟩ ⟨by rw [hR]; decide, by rw [hR]; decide⟩ dX9_still_95 ?_
  refine sv_aload_n 0 C dX9_still_98 rfl rfl ?_
  refine sv_bipush (v := 15) C dX9_still_99 (by decide) ?_
  refine sv_bipush (v := 6) C dX9_still_101 (by decide) ?_
  refine sv_iconst (v := 0) C dX9_still_103 (by decide) ?_
  obtain ⟨q104, hc104, hf⟩ := sv_bind_some hf
  refine sv_callV0 C mv_X9_317 (m_X9_go (sv_l X) E h0 ad sz _ _ _ _ _ hc104) sv_sx0 0 rfl rfl rfl rfl (Nat.le_of_ble_eq_true rfl) ⟨by rw [hR]; decide, by rw [hR]; decide⟩ ⟨by rw [hR]; decide, by rw [hR]; decide⟩ dX9_still_104 ?_
  refine sv_aload_n 0 C dX9_still_107 rfl rfl ?_
  refine sv_bipush (v := 22) C dX9_still_108 (by decide) ?_
  refine sv_bipush (v := 8) C dX9_still_110 (by decide) ?_
  refine sv_iconst (v := 0) C dX9_still_112 (by decide) ?_
  obtain ⟨q113, hc113, hf⟩ := sv_bind_some hf
  refine sv_callV0 C mv_X9_317 (m_X9_go (sv_l X) E h0 ad sz _ _ _ _ _ hc113) sv_sx0 0 rfl rfl rfl rfl (Nat.le_of_ble_eq_true rfl) ⟨by rw [hR]; decide, by rw [hR]; decide⟩ ⟨by rw [hR]; decide, by rw [hR]; decide⟩ dX9_still_113 ?_
  refine sv_aload_n 0 C dX9_still_116 rfl rfl ?_
  refine sv_iconst (v := 2) C dX9_still_117 (by decide) ?_
  obtain ⟨q118, hc118, hf⟩ := sv_bind_some hf
  refine sv_callV0 C mv_X9_333 (m_X9_words (sv_l X) E h0 ad sz _ _ _ hc118) sv_sx0 0 rfl rfl rfl rfl (Nat.le_of_ble_eq_true rfl) ⟨by rw [hR]; decide, by rw [hR]; decide⟩ ⟨by rw [hR]; decide, by rw [hR]; decide⟩ dX9_still_118 ?_
  refine sv_aload_n 0 C dX9_still_121 rfl rfl ?_
  refine sv_iconst (v := 2) C dX9_still_122 (by decide) ?_
  obtain ⟨q123, hc123, hf⟩ := sv_bind_some hf
  refine sv_callV0 C mv_X9_327 (m_X9_skip (sv_l X) E h0 ad sz _ _ _ hc123) sv_sx0 0 rfl rfl rfl rfl (Nat.le_of_ble_eq_true rfl) ⟨by rw [hR]; decide, by rw [hR]; decide⟩ ⟨by rw [hR]; decide, by rw [hR]; decide⟩ dX9_still_123 ?_
  exact sv_vret C (by cases hf; exact hZ) dX9_still_126
def f_X9_reports (B : md_B) (x1 : Int32) (x2 : Int32) : Option (md_B) :=
  if 4 ≤ x2 then
    if x2 = 4 then
      (f_X9_go (md_pf (md_pf B 34 x1) 32 38) 11 14 0).bind (fun q67 =>
        (f_X9_go q67 12 4 0).bind (fun q75 =>
          (f_X9_go q75 13 5 0).bind (fun q83 =>
            (f_X9_go q83 14 5 0).bind (fun q91 =>
              (f_X9_go q91 15 6 0).bind (fun q100 =>
                (f_X9_go q100 10 6 0).bind (fun q109 =>
                  (f_X9_where q109).bind (fun q113 =>
                    (f_X9_skip q113 34).bind (fun q119 =>
                      some q119))))))))
    else
      if x2 = 18 then
        (f_X9_skip (md_pf (md_pf B 34 x1) 32 38) 8).bind (fun q134 =>
          (f_X9_go q134 4 10 0).bind (fun q142 =>
            (f_X9_where q142).bind (fun q146 =>
              (f_X9_way q146).bind (fun q150 =>
                (f_X9_skip q150 29).bind (fun q156 =>
                  some q156)))))
      else
        (f_X9_still (md_pf (md_pf B 34 x1) 32 38)).bind (fun q163 =>
          some q163)
  else
    (f_X9_go (md_pf (md_pf B 34 x1) 32 38) 2 4 0).bind (fun q20 =>
      (f_X9_go q20 3 8 1).bind (fun q28 =>
        (f_X9_go q28 4 10 0).bind (fun q36 =>
          (f_X9_where q36).bind (fun q40 =>
            (f_X9_way q40).bind (fun q44 =>
              (f_X9_skip q44 25).bind (fun q50 =>
                some q50))))))
set_option maxHeartbeats 4000000 in
set_option maxRecDepth 100000 in
theorem m_X9_reports (l : Launch) (E : sv_E) (h0 : Nat) (ad : Nat → Nat) (sz : Nat) (B : md_B) (x1 : Int32) (x2 : Int32) (q : md_B) (hf : f_X9_reports B x1 x2 = some q) : sv_Met l E yX9_reports cX9_reports 3 none 4 90 [] [.ref h0, .int x1, .int x2] (md_w E h0 ad B) sz none (md_w E h0 ad q) sz 0 0 := by
  refine sv_ofJ (by decide) (Nat.le_of_ble_eq_true rfl) ?_
  intro X hX hN hnm hR C hZ
  replace C : sv_C E X cX9_reports RX9 [] := C
  show sv_J E X (md_w E h0 ad B) sz 0 0 0 [(0, .ref h0), (1, .int x1), (2, .int x2)] []
  rw [f_X9_reports] at hf
  refine sv_aload_n 0 C dX9_reports_0 rfl rfl ?_
  refine sv_iload_n 1 C dX9_reports_1 rfl rfl ?_
  refine md_puti C fl_X9_300 (by decide) rfl rfl dX9_reports_2 ?_
  refine sv_aload_n 0 C dX9_reports_5 rfl rfl ?_
  refine sv_bipush (v := 38) C dX9_reports_6 (by decide) ?_
  refine md_puti C fl_X9_306 (by decide) rfl rfl dX9_reports_8 ?_
  refine sv_iload_n 2 C dX9_reports_11 rfl rfl ?_
  refine sv_iconst (v := 4) C dX9_reports_12 (by decide) ?_
  refine sv_icmp_ge (tgt := 56) C dX9_reports_13 (by decide) (fun c13 => ?_) (fun c13 => ?_)
  · replace hf := sv_if_t c13 hf
    refine sv_iload_n 2 C dX9_reports_56 rfl rfl ?_
    refine sv_iconst (v := 4) C dX9_reports_57 (by decide) ?_
    refine sv_icmp_ne (tgt := 125) C dX9_reports_58 (by decide) (fun c58 => ?_) (fun c58 => ?_)
    · replace hf := sv_if_f c58 hf
      refine sv_iload_n 2 C dX9_reports_125 rfl rfl ?_
      refine sv_bipush (v := 18) C dX9_reports_126 (by decide) ?_
      refine sv_icmp_ne (tgt := 162) C dX9_reports_128 (by decide) (fun c128 => ?_) (fun c128 => ?_)
      · replace hf := sv_if_f c128 hf
        refine sv_aload_n 0 C dX9_reports_162 rfl rfl ?_
        obtain ⟨q163, hc163, hf⟩ := sv_bind_some hf
        refine sv_callV0 C mv_X9_330 (m_X9_still (sv_l X) E h0 ad sz _ _ hc163) sv_sx0 0 rfl rfl rfl rfl (Nat.le_of_ble_eq_true rfl) ⟨by rw [hR]; decide, by rw [hR]; decide⟩ ⟨by rw [hR]; decide, by rw [hR]; decide⟩ dX9_reports_163 ?_
        exact sv_vret C (by cases hf; exact hZ) dX9_reports_166
      · replace hf := sv_if_t c128 hf
        refine sv_aload_n 0 C dX9_reports_131 rfl rfl ?_
        refine sv_bipush (v := 8) C dX9_reports_132 (by decide) ?_
        obtain ⟨q134, hc134, hf⟩ := sv_bind_some hf
        refine sv_callV0 C mv_X9_327 (m_X9_skip (sv_l X) E h0 ad sz _ _ _ hc134) sv_sx0 0 rfl rfl rfl rfl (Nat.le_of_ble_eq_true rfl) ⟨by rw [hR]; decide, by rw [hR]; decide⟩ ⟨by rw [hR]; decide, by rw [hR]; decide⟩ dX9_reports_134 ?_
        refine sv_aload_n 0 C dX9_reports_137 rfl rfl ?_
        refine sv_iconst (v := 4) C dX9_reports_138 (by decide) ?_
        refine sv_bipush (v := 10) C dX9_reports_139 (by decide) ?_
        refine sv_iconst (v := 0) C dX9_reports_141 (by decide) ?_
        obtain ⟨q142, hc142, hf⟩ := sv_bind_some hf
        refine sv_callV0 C mv_X9_317 (m_X9_go (sv_l X) E h0 ad sz _ _ _ _ _ hc142) sv_sx0 0 rfl rfl rfl rfl (Nat.le_of_ble_eq_true rfl) ⟨by rw [hR]; decide, by rw [hR]; decide⟩ ⟨by rw [hR]; decide, by rw [hR]; decide⟩ dX9_reports_142 ?_
        refine sv_aload_n 0 C dX9_reports_145 rfl rfl ?_
        obtain ⟨q146, hc146, hf⟩ := sv_bind_some hf
        refine sv_callV0 C mv_X9_321 (m_X9_where (sv_l X) E h0 ad sz _ _ hc146) sv_sx0 0 rfl rfl rfl rfl (Nat.le_of_ble_eq_true rfl) ⟨by rw [hR]; decide, by rw [hR]; decide⟩ ⟨by rw [hR]; decide, by rw [hR]; decide⟩ dX9_reports_146 ?_
        refine sv_aload_n 0 C dX9_reports_149 rfl rfl ?_
        obtain ⟨q150, hc150, hf⟩ := sv_bind_some hf
        refine sv_callV0 C mv_X9_324 (m_X9_way (sv_l X) E h0 ad sz _ _ hc150) sv_sx0 0 rfl rfl rfl rfl (Nat.le_of_ble_eq_true rfl) ⟨by rw [hR]; decide, by rw [hR]; decide⟩ ⟨by rw [hR]; decide, by rw [hR]; decide⟩ dX9_reports_150 ?_
        refine sv_aload_n 0 C dX9_reports_153 rfl rfl ?_
        refine sv_bipush (v := 29) C dX9_reports_154 (by decide) ?_
        obtain ⟨q156, hc156, hf⟩ := sv_bind_some hf
        refine sv_callV0 C mv_X9_327 (m_X9_skip (sv_l X) E h0 ad sz _ _ _ hc156) sv_sx0 0 rfl rfl rfl rfl (Nat.le_of_ble_eq_true rfl) ⟨by rw [hR]; decide, by rw [hR]; decide⟩ ⟨by rw [hR]; decide, by rw [hR]; decide⟩ dX9_reports_156 ?_
        refine sv_goto (tgt := 166) C dX9_reports_159 (by decide) ?_
        exact sv_vret C (by cases hf; exact hZ) dX9_reports_166
    · replace hf := sv_if_t c58 hf
      refine sv_aload_n 0 C dX9_reports_61 rfl rfl ?_
      refine sv_bipush (v := 11) C dX9_reports_62 (by decide) ?_
      refine sv_bipush (v := 14) C dX9_reports_64 (by decide) ?_
      refine sv_iconst (v := 0) C dX9_reports_66 (by decide) ?_
      obtain ⟨q67, hc67, hf⟩ := sv_bind_some hf
      refine sv_callV0 C mv_X9_317 (m_X9_go (sv_l X) E h0 ad sz _ _ _ _ _ hc67) sv_sx0 0 rfl rfl rfl rfl (Nat.le_of_ble_eq_true rfl) ⟨by rw [hR]; decide, by rw [hR]; decide⟩ ⟨by rw [hR]; decide, by rw [hR]; decide⟩ dX9_reports_67 ?_
      refine sv_aload_n 0 C dX9_reports_70 rfl rfl ?_
      refine sv_bipush (v := 12) C dX9_reports_71 (by decide) ?_
      refine sv_iconst (v := 4) C dX9_reports_73 (by decide) ?_
      refine sv_iconst (v := 0) C dX9_reports_74 (by decide) ?_
      obtain ⟨q75, hc75, hf⟩ := sv_bind_some hf
      refine sv_callV0 C mv_X9_317 (m_X9_go (sv_l X) E h0 ad sz _ _ _ _ _ hc75) sv_sx0 0 rfl rfl rfl rfl (Nat.le_of_ble_eq_true rfl) ⟨by rw [hR]; decide, by rw [hR]; decide⟩ ⟨by rw [hR]; decide, by rw [hR]; decide⟩ dX9_reports_75 ?_
      refine sv_aload_n 0 C dX9_reports_78 rfl rfl ?_
      refine sv_bipush (v := 13) C dX9_reports_79 (by decide) ?_
      refine sv_iconst (v := 5) C dX9_reports_81 (by decide) ?_
      refine sv_iconst (v := 0) C dX9_reports_82 (by decide) ?_
      obtain ⟨q83, hc83, hf⟩ := sv_bind_some hf
      refine sv_callV0 C mv_X9_317 (m_X9_go (sv_l X) E h0 ad sz _ _ _ _ _ hc83) sv_sx0 0 rfl rfl rfl rfl (Nat.le_of_ble_eq_true rfl) ⟨by rw [hR]; decide, by rw [hR]; decide⟩ ⟨by rw [hR]; decide, by rw [hR]; decide⟩ dX9_reports_83 ?_
      refine sv_aload_n 0 C dX9_reports_86 rfl rfl ?_
      refine sv_bipush (v := 14) C dX9_reports_87 (by decide) ?_
      refine sv_iconst (v := 5) C dX9_reports_89 (by decide) ?_
      refine sv_iconst (v := 0) C dX9_reports_90 (by decide) ?_
      obtain ⟨q91, hc91, hf⟩ := sv_bind_some hf
      refine sv_callV0 C mv_X9_317 (m_X9_go (sv_l X) E h0 ad sz _ _ _ _ _ hc91) sv_sx0 0 rfl rfl rfl rfl (Nat.le_of_ble_eq_true rfl) ⟨by rw [hR]; decide, by rw [hR]; decide⟩ ⟨by rw [hR]; decide, by rw [hR]; decide⟩ dX9_reports_91 ?_
      refine sv_aload_n 0 C dX9_reports_94 rfl rfl ?_
      refine sv_bipush (v := 15) C dX9_reports_95 (by decide) ?_
      refine sv_bipush (v := 6) C dX9_reports_97 (by decide) ?_
      refine sv_iconst (v := 0) C dX9_reports_99 (by decide) ?_
      obtain ⟨q100, hc100, hf⟩ := sv_bind_some hf
      refine sv_callV0 C mv_X9_317 (m_X9_go (sv_l X) E h0 ad sz _ _ _ _ _ hc100) sv_sx0 0 rfl rfl rfl rfl (Nat.le_of_ble_eq_true rfl) ⟨by rw [hR]; decide, by rw [hR]; decide⟩ ⟨by rw [hR]; decide, by rw [hR]; decide⟩ dX9_reports_100 ?_
      refine sv_aload_n 0 C dX9_reports_103 rfl rfl ?_
      refine sv_bipush (v := 10) C dX9_reports_104 (by decide) ?_
      refine sv_bipush (v := 6) C dX9_reports_106 (by decide) ?_
      refine sv_iconst (v := 0) C dX9_reports_108 (by decide) ?_
      obtain ⟨q109, hc109, hf⟩ := sv_bind_some hf
      refine sv_callV0 C mv_X9_317 (m_X9_go (sv_l X) E h0 ad sz _ _ _ _ _ hc109) sv_sx0 0 rfl rfl rfl rfl (Nat.le_of_ble_eq_true rfl) ⟨by rw [hR]; decide, by rw [hR]; decide⟩ ⟨by rw [hR]; decide, by rw [hR]; decide⟩ dX9_reports_109 ?_
      refine sv_aload_n 0 C dX9_reports_112 rfl rfl ?_
      obtain ⟨q113, hc113, hf⟩ := sv_bind_some hf
      refine sv_callV0 C mv_X9_321 (m_X9_where (sv_l X) E h0 ad sz _ _ hc113) sv_sx0 0 rfl rfl rfl rfl (Nat.le_of_ble_eq_true rfl) ⟨by rw [hR]; decide, by rw [hR]; decide⟩ ⟨by rw [hR]; decide, by rw [hR]; decide⟩ dX9_reports_113 ?_
      refine sv_aload_n 0 C dX9_reports_116 rfl rfl ?_
      refine sv_bipush (v := 34) C dX9_reports_117 (by decide) ?_
      obtain ⟨q119, hc119, hf⟩ := sv_bind_some hf
      refine sv_callV0 C mv_X9_327 (m_X9_skip (sv_l X) E h0 ad sz _ _ _ hc119) sv_sx0 0 rfl rfl rfl rfl (Nat.le_of_ble_eq_true rfl) ⟨by rw [hR]; decide, by rw [hR]; decide⟩ ⟨by rw [hR]; decide, by rw [hR]; decide⟩ dX9_reports_119 ?_
      refine sv_goto (tgt := 166) C dX9_reports_122 (by decide) ?_
      exact sv_vret C (by cases hf; exact hZ) dX9_reports_166
  · replace hf := sv_if_f c13 hf
    refine sv_aload_n 0 C dX9_reports_16 rfl rfl ?_
    refine sv_iconst (v := 2) C dX9_reports_17 (by decide) ?_
    refine sv_iconst (v := 4) C dX9_reports_18 (by decide) ?_
    refine sv_iconst (v := 0) C dX9_reports_19 (by decide) ?_
    obtain ⟨q20, hc20, hf⟩ := sv_bind_some hf
    refine sv_callV0 C mv_X9_317 (m_X9_go (sv_l X) E h0 ad sz _ _ _ _ _ hc20) sv_sx0 0 rfl rfl rfl rfl (Nat.le_of_ble_eq_true rfl) ⟨by rw [hR]; decide, by rw [hR]; decide⟩ ⟨by rw [hR]; decide, by rw [hR]; decide⟩ dX9_reports_20 ?_
    refine sv_aload_n 0 C dX9_reports_23 rfl rfl ?_
    refine sv_iconst (v := 3) C dX9_reports_24 (by decide) ?_
    refine sv_bipush (v := 8) C dX9_reports_25 (by decide) ?_
    refine sv_iconst (v := 1) C dX9_reports_27 (by decide) ?_
    obtain ⟨q28, hc28, hf⟩ := sv_bind_some hf
    refine sv_callV0 C mv_X9_317 (m_X9_go (sv_l X) E h0 ad sz _ _ _ _ _ hc28) sv_sx0 0 rfl rfl rfl rfl (Nat.le_of_ble_eq_true rfl) ⟨by rw [hR]; decide, by rw [hR]; decide⟩ ⟨by rw [hR]; decide, by rw [hR]; decide⟩ dX9_reports_28 ?_
    refine sv_aload_n 0 C dX9_reports_31 rfl rfl ?_
    refine sv_iconst (v := 4) C dX9_reports_32 (by decide) ?_
    refine sv_bipush (v := 10) C dX9_reports_33 (by decide) ?_
    refine sv_iconst (v := 0) C dX9_reports_35 (by decide) ?_
    obtain ⟨q36, hc36, hf⟩ := sv_bind_some hf
    refine sv_callV0 C mv_X9_317 (m_X9_go (sv_l X) E h0 ad sz _ _ _ _ _ hc36) sv_sx0 0 rfl rfl rfl rfl (Nat.le_of_ble_eq_true rfl) ⟨by rw [hR]; decide, by rw [hR]; decide⟩ ⟨by rw [hR]; decide, by rw [hR]; decide⟩ dX9_reports_36 ?_
    refine sv_aload_n 0 C dX9_reports_39 rfl rfl ?_
    obtain ⟨q40, hc40, hf⟩ := sv_bind_some hf
    refine sv_callV0 C mv_X9_321 (m_X9_where (sv_l X) E h0 ad sz _ _ hc40) sv_sx0 0 rfl rfl rfl rfl (Nat.le_of_ble_eq_true rfl) ⟨by rw [hR]; decide, by rw [hR]; decide⟩ ⟨by rw [hR]; decide, by rw [hR]; decide⟩ dX9_reports_40 ?_
    refine sv_aload_n 0 C dX9_reports_43 rfl rfl ?_
    obtain ⟨q44, hc44, hf⟩ := sv_bind_some hf
    refine sv_callV0 C mv_X9_324 (m_X9_way (sv_l X) E h0 ad sz _ _ hc44) sv_sx0 0 rfl rfl rfl rfl (Nat.le_of_ble_eq_true rfl) ⟨by rw [hR]; decide, by rw [hR]; decide⟩ ⟨by rw [hR]; decide, by rw [hR]; decide⟩ dX9_reports_44 ?_
    refine sv_aload_n 0 C dX9_reports_47 rfl rfl ?_
    refine sv_bipush (v := 25) C dX9_reports_48 (by decide) ?_
    obtain ⟨q50, hc50, hf⟩ := sv_bind_some hf
    refine sv_callV0 C mv_X9_327 (m_X9_skip (sv_l X) E h0 ad sz _ _ _ hc50) sv_sx0 0 rfl rfl rfl rfl (Nat.le_of_ble_eq_true rfl) ⟨by rw [hR]; decide, by rw [hR]; decide⟩ ⟨by rw [hR]; decide, by rw [hR]; decide⟩ dX9_reports_50 ?_
    refine sv_goto (tgt := 166) C dX9_reports_53 (by decide) ?_
    exact sv_vret C (by cases hf; exact hZ) dX9_reports_166
def f_X9_message_243 (B : md_B) (x1 : Int32) (x4 : Int32) : Option (md_B) :=
  sv_g (sv_inb ((24 * x4) + 1) 960) (
    sv_g (sv_inb ((24 * x4) + 23) 960) (
      sv_g (sv_inb ((24 * x4) + 23) 960) (
        (f_X9_reports (md_pa (md_pa B 29 ((24 * x4) + 1) x1) 29 ((24 * x4) + 23) (((md_pa B 29 ((24 * x4) + 1) x1).2 29 ((24 * x4) + 23).toNatClampNeg) + 1)) x4 x1).bind (fun q277 =>
          some q277))))
def f_X9_message_193 : Nat → md_B → Int32 → Int32 → Int32 → Int32 → Option (md_B)
  | 0, _, _, _, _, _ => none
  | n + 1, B, x1, x3, x4, x5 =>
    if 3 ≤ x5 then
      sv_g (sv_inb (24 * x4) 960) (
        sv_g (sv_inb ((24 * x4) + 23) 960) (
          f_X9_message_243 (md_pa (md_pa B 29 (24 * x4) x3) 29 ((24 * x4) + 23) 0) x1 x4))
    else
      sv_g (sv_inb ((3 * x4) + x5) 120) (
        (f_X9_message_193 n) (md_pa B 31 ((3 * x4) + x5) 0) x1 x3 x4 (x5 + 1))
def f_X9_message_162 : Nat → md_B → Int32 → Int32 → Int32 → Int32 → Option (md_B)
  | 0, _, _, _, _, _ => none
  | n + 1, B, x1, x3, x4, x5 =>
    if 24 ≤ x5 then
      f_X9_message_193 sv_fu B x1 x3 x4 0
    else
      sv_g (sv_inb ((24 * x4) + x5) 960) (
        (f_X9_message_162 n) (md_pa B 29 ((24 * x4) + x5) (-2147483648)) x1 x3 x4 (x5 + 1))
def f_X9_message_138 (B : md_B) (x1 : Int32) (x3 : Int32) (x4 : Int32) : Option (md_B) :=
  if 0 ≤ x4 then
    f_X9_message_243 B x1 x4
  else
    f_X9_message_162 sv_fu (md_pf B 28 ((B.1 28) + 1)) x1 x3 (B.1 28) 0
def f_X9_message_69 (B : md_B) (x1 : Int32) (s0 : Int32) : Option (md_B) :=
  if s0 = 0 then
    some (md_pa B 10 6 ((B.2 10 (6 : Int32).toNatClampNeg) + 1))
  else
    (f_X9_read (md_pa B 10 5 ((B.2 10 (5 : Int32).toNatClampNeg) + 1)) 8 30).bind (fun q101 =>
      (f_X9_found q101.2 q101.1).bind (fun q107 =>
        if 0 ≤ q107.1 then
          f_X9_message_138 q107.2 x1 q101.1 q107.1
        else
          if (q107.2.1 28) = 40 then
            some (md_pa q107.2 10 8 ((q107.2.2 10 (8 : Int32).toNatClampNeg) + 1))
          else
            f_X9_message_138 q107.2 x1 q101.1 q107.1))
def f_X9_message_64 (B : md_B) (x1 : Int32) : Option (md_B) :=
  f_X9_message_69 B x1 1
def f_X9_message_68 (B : md_B) (x1 : Int32) : Option (md_B) :=
  f_X9_message_69 B x1 0
def f_X9_message_49 (B : md_B) (x1 : Int32) : Option (md_B) :=
  if x1 = 5 then
    if (B.1 26) = 424 then
      f_X9_message_64 B x1
    else
      f_X9_message_68 B x1
  else
    f_X9_message_68 B x1
def f_X9_message_39 (B : md_B) (x1 : Int32) : Option (md_B) :=
  if (B.1 26) = 168 then
    f_X9_message_64 B x1
  else
    f_X9_message_49 B x1
def f_X9_message_20 (B : md_B) (s0 : Int32) : Option (md_B) :=
  (f_X9_in B s0.toInt64 1 4).bind (fun q27 =>
    if q27.1 = 0 then
      if s0 = 18 then
        f_X9_message_39 q27.2 s0
      else
        f_X9_message_49 q27.2 s0
    else
      f_X9_message_39 q27.2 s0)
def f_X9_message (B : md_B) : Option (md_B) :=
  if 38 ≤ (B.1 26) then
    (f_X9_read B 0 6).bind (fun q17 =>
      f_X9_message_20 q17.2 q17.1)
  else
    f_X9_message_20 B 0
set_option maxHeartbeats 4000000 in
set_option maxRecDepth 100000 in
theorem w_X9_message_243 {E : sv_E} {X : sv_X} {h0 : Nat} {ad : Nat → Nat} {sz : Nat} {q : md_B} (C : sv_C E X cX9_message RX9 []) (hZ : sv_Z E X none none (md_w E h0 ad q) sz 0 0) (hR : sv_R X = { frames := 5, cells := 0, slots := 0, locals := 112 }) (hN : sv_nL X = 6) (B : md_B) (x1 : Int32) (x4 : Int32) (hf : f_X9_message_243 B x1 x4 = some q) : sv_J E X (md_w E h0 ad B) sz 0 0 243 [(0, .ref h0), (1, .int x1), (4, .int x4)] [] := by
  rw [f_X9_message_243] at hf
  refine sv_aload_n 0 C dX9_message_243 rfl rfl ?_
  refine md_getr C fl_X9_55 (by decide) dX9_message_244 ?_
  refine sv_bipush (v := 24) C dX9_message_247 (by decide) ?_
  refine sv_iload 2 C dX9_message_249 rfl ?_
  refine sv_imul C dX9_message_251 ?_
  refine sv_iconst (v := 1) C dX9_message_252 (by decide) ?_
  refine sv_iadd C dX9_message_253 ?_
  refine sv_iload_n 1 C dX9_message_254 rfl rfl ?_
  obtain ⟨g255, hf⟩ := sv_g_some hf
  refine md_iast C 13 rfl g255 dX9_message_255 ?_
  refine sv_aload_n 0 C dX9_message_256 rfl rfl ?_
  refine md_getr C fl_X9_55 (by decide) dX9_message_257 ?_
  refine sv_bipush (v := 24) C dX9_message_260 (by decide) ?_
  refine sv_iload 2 C dX9_message_262 rfl ?_
  refine sv_imul C dX9_message_264 ?_
  refine sv_bipush (v := 23) C dX9_message_265 (by decide) ?_
  refine sv_iadd C dX9_message_267 ?_
  refine sv_dup2 C dX9_message_268 rfl rfl ?_
  obtain ⟨g269, hf⟩ := sv_g_some hf
  refine md_iald C 13 rfl g269 dX9_message_269 ?_
  refine sv_iconst (v := 1) C dX9_message_270 (by decide) ?_
  refine sv_iadd C dX9_message_271 ?_
  obtain ⟨g272, hf⟩ := sv_g_some hf
  refine md_iast C 13 rfl g272 dX9_message_272 ?_
  refine sv_aload_n 0 C dX9_message_273 rfl rfl ?_
  refine sv_iload 2 C dX9_message_274 rfl ?_
  refine sv_iload_n 1 C dX9_message_276 rfl rfl ?_
  obtain ⟨q277, hc277, hf⟩ := sv_bind_some hf
  refine sv_callV0 C mv_X9_297 (m_X9_reports (sv_l X) E h0 ad sz _ _ _ _ hc277) sv_sx0 0 rfl rfl rfl rfl (Nat.le_of_ble_eq_true rfl) ⟨by rw [hR]; decide, by rw [hR]; decide⟩ ⟨by rw [hR]; decide, by rw [hR]; decide⟩ dX9_message_277 ?_
  exact sv_vret C (by cases hf; exact hZ) dX9_message_280
set_option maxHeartbeats 4000000 in
set_option maxRecDepth 100000 in
theorem w_X9_message_193 {E : sv_E} {X : sv_X} {h0 : Nat} {ad : Nat → Nat} {sz : Nat} {q : md_B} (C : sv_C E X cX9_message RX9 []) (hZ : sv_Z E X none none (md_w E h0 ad q) sz 0 0) (hR : sv_R X = { frames := 5, cells := 0, slots := 0, locals := 112 }) (hN : sv_nL X = 6) : ∀ (n : Nat) (B : md_B) (x1 : Int32) (x3 : Int32) (x4 : Int32) (x5 : Int32), f_X9_message_193 n B x1 x3 x4 x5 = some q → sv_J E X (md_w E h0 ad B) sz 0 0 193 [(0, .ref h0), (1, .int x1), (3, .int x3), (4, .int x4), (5, .int x5)] [] := by
  intro n
  induction n with
  | zero =>
    intro B x1 x3 x4 x5 hf
    rw [f_X9_message_193] at hf
    cases hf
  | succ n ih =>
    intro B x1 x3 x4 x5 hf
    rw [f_X9_message_193] at hf
    refine sv_iload 4 C dX9_message_193 rfl ?_
    refine sv_iconst (v := 3) C dX9_message_195 (by decide) ?_
    refine sv_icmp_ge (tgt := 218) C dX9_message_196 (by decide) (fun c196 => ?_) (fun c196 => ?_)
    · replace hf := sv_if_t c196 hf
      refine sv_aload_n 0 C dX9_message_218 rfl rfl ?_
      refine md_getr C fl_X9_55 (by decide) dX9_message_219 ?_
      refine sv_bipush (v := 24) C dX9_message_222 (by decide) ?_
      refine sv_iload 3 C dX9_message_224 rfl ?_
      refine sv_imul C dX9_message_226 ?_
      refine sv_iload_n 2 C dX9_message_227 rfl rfl ?_
      obtain ⟨g228, hf⟩ := sv_g_some hf
      refine md_iast C 13 rfl g228 dX9_message_228 ?_
      refine sv_aload_n 0 C dX9_message_229 rfl rfl ?_
      refine md_getr C fl_X9_55 (by decide) dX9_message_230 ?_
      refine sv_bipush (v := 24) C dX9_message_233 (by decide) ?_
      refine sv_iload 3 C dX9_message_235 rfl ?_
      refine sv_imul C dX9_message_237 ?_
      refine sv_bipush (v := 23) C dX9_message_238 (by decide) ?_
      refine sv_iadd C dX9_message_240 ?_
      refine sv_iconst (v := 0) C dX9_message_241 (by decide) ?_
      obtain ⟨g242, hf⟩ := sv_g_some hf
      refine md_iast C 13 rfl g242 dX9_message_242 ?_
      refine sv_sub (lv' := [(0, .ref h0), (1, .int x1), (4, .int x4)]) [0, 1, 3] rfl ?_
      exact w_X9_message_243 C hZ hR hN _ _ _ hf
    · replace hf := sv_if_f c196 hf
      refine sv_aload_n 0 C dX9_message_199 rfl rfl ?_
      refine md_getr C fl_X9_61 (by decide) dX9_message_200 ?_
      refine sv_iconst (v := 3) C dX9_message_203 (by decide) ?_
      refine sv_iload 3 C dX9_message_204 rfl ?_
      refine sv_imul C dX9_message_206 ?_
      refine sv_iload 4 C dX9_message_207 rfl ?_
      refine sv_iadd C dX9_message_209 ?_
      refine sv_iconst (v := 0) C dX9_message_210 (by decide) ?_
      obtain ⟨g211, hf⟩ := sv_g_some hf
      refine md_iast C 15 rfl g211 dX9_message_211 ?_
      refine sv_iinc (v := x5 + 1) (lv' := [(5, .int (x5 + 1)), (0, .ref h0), (1, .int x1), (3, .int x3), (4, .int x4)]) 4 C dX9_message_212 rfl rfl (by rw [hN]; decide) rfl ?_
      refine sv_goto (tgt := 193) C dX9_message_215 (by decide) ?_
      refine sv_sub (lv' := [(0, .ref h0), (1, .int x1), (3, .int x3), (4, .int x4), (5, .int (x5 + 1))]) [1, 2, 3, 4, 0] rfl ?_
      exact ih _ _ _ _ _ hf
set_option maxHeartbeats 4000000 in
set_option maxRecDepth 100000 in
theorem w_X9_message_162 {E : sv_E} {X : sv_X} {h0 : Nat} {ad : Nat → Nat} {sz : Nat} {q : md_B} (C : sv_C E X cX9_message RX9 []) (hZ : sv_Z E X none none (md_w E h0 ad q) sz 0 0) (hR : sv_R X = { frames := 5, cells := 0, slots := 0, locals := 112 }) (hN : sv_nL X = 6) : ∀ (n : Nat) (B : md_B) (x1 : Int32) (x3 : Int32) (x4 : Int32) (x5 : Int32), f_X9_message_162 n B x1 x3 x4 x5 = some q → sv_J E X (md_w E h0 ad B) sz 0 0 162 [(0, .ref h0), (1, .int x1), (3, .int x3), (4, .int x4), (5, .int x5)] [] := by
  intro n
  induction n with
  | zero =>
    intro B x1 x3 x4 x5 hf
    rw [f_X9_message_162] at hf
    cases hf
  | succ n ih =>
    intro B x1 x3 x4 x5 hf
    rw [f_X9_message_162] at hf
    refine sv_iload 4 C dX9_message_162 rfl ?_
    refine sv_bipush (v := 24) C dX9_message_164 (by decide) ?_
    refine sv_icmp_ge (tgt := 190) C dX9_message_166 (by decide) (fun c166 => ?_) (fun c166 => ?_)
    · replace hf := sv_if_t c166 hf
      refine sv_iconst (v := 0) C dX9_message_190 (by decide) ?_
      refine sv_istore (lv' := [(5, .int 0), (0, .ref h0), (1, .int x1), (3, .int x3), (4, .int x4)]) C dX9_message_191 (by rw [hN]; decide) rfl ?_
      refine sv_sub (lv' := [(0, .ref h0), (1, .int x1), (3, .int x3), (4, .int x4), (5, .int 0)]) [1, 2, 3, 4, 0] rfl ?_
      exact w_X9_message_193 C hZ hR hN sv_fu _ _ _ _ _ hf
    · replace hf := sv_if_f c166 hf
      refine sv_aload_n 0 C dX9_message_169 rfl rfl ?_
      refine md_getr C fl_X9_55 (by decide) dX9_message_170 ?_
      refine sv_bipush (v := 24) C dX9_message_173 (by decide) ?_
      refine sv_iload 3 C dX9_message_175 rfl ?_
      refine sv_imul C dX9_message_177 ?_
      refine sv_iload 4 C dX9_message_178 rfl ?_
      refine sv_iadd C dX9_message_180 ?_
      refine sv_ldc C kw_562 dX9_message_181 ?_
      obtain ⟨g183, hf⟩ := sv_g_some hf
      refine md_iast C 13 rfl g183 dX9_message_183 ?_
      refine sv_iinc (v := x5 + 1) (lv' := [(5, .int (x5 + 1)), (0, .ref h0), (1, .int x1), (3, .int x3), (4, .int x4)]) 4 C dX9_message_184 rfl rfl (by rw [hN]; decide) rfl ?_
      refine sv_goto (tgt := 162) C dX9_message_187 (by decide) ?_
      refine sv_sub (lv' := [(0, .ref h0), (1, .int x1), (3, .int x3), (4, .int x4), (5, .int (x5 + 1))]) [1, 2, 3, 4, 0] rfl ?_
      exact ih _ _ _ _ _ hf
set_option maxHeartbeats 4000000 in
set_option maxRecDepth 100000 in
theorem w_X9_message_138 {E : sv_E} {X : sv_X} {h0 : Nat} {ad : Nat → Nat} {sz : Nat} {q : md_B} (C : sv_C E X cX9_message RX9 []) (hZ : sv_Z E X none none (md_w E h0 ad q) sz 0 0) (hR : sv_R X = { frames := 5, cells := 0, slots := 0, locals := 112 }) (hN : sv_nL X = 6) (B : md_B) (x1 : Int32) (x3 : Int32) (x4 : Int32) (hf : f_X9_message_138 B x1 x3 x4 = some q) : sv_J E X (md_w E h0 ad B) sz 0 0 138 [(0, .ref h0), (1, .int x1), (3, .int x3), (4, .int x4)] [] := by
  rw [f_X9_message_138] at hf
  refine sv_iload 3 C dX9_message_138 rfl ?_
  refine sv_if_ge (tgt := 243) C dX9_message_140 (by decide) (fun c140 => ?_) (fun c140 => ?_)
  · replace hf := sv_if_t c140 hf
    refine sv_sub (lv' := [(0, .ref h0), (1, .int x1), (4, .int x4)]) [0, 1, 3] rfl ?_
    exact w_X9_message_243 C hZ hR hN _ _ _ hf
  · replace hf := sv_if_f c140 hf
    refine sv_aload_n 0 C dX9_message_143 rfl rfl ?_
    refine md_geti C fl_X9_289 (by decide) dX9_message_144 ?_
    refine sv_istore (lv' := [(4, .int (B.1 28)), (0, .ref h0), (1, .int x1), (3, .int x3)]) C dX9_message_147 (by rw [hN]; decide) rfl ?_
    refine sv_aload_n 1 C dX9_message_149 rfl rfl ?_
    refine sv_dup C dX9_message_150 rfl ?_
    refine md_geti C fl_X9_289 (by decide) dX9_message_151 ?_
    refine sv_iconst (v := 1) C dX9_message_154 (by decide) ?_
    refine sv_iadd C dX9_message_155 ?_
    refine md_puti C fl_X9_289 (by decide) rfl rfl dX9_message_156 ?_
    refine sv_iconst (v := 0) C dX9_message_159 (by decide) ?_
    refine sv_istore (lv' := [(5, .int 0), (4, .int (B.1 28)), (0, .ref h0), (1, .int x1), (3, .int x3)]) C dX9_message_160 (by rw [hN]; decide) rfl ?_
    refine sv_sub (lv' := [(0, .ref h0), (1, .int x1), (3, .int x3), (4, .int (B.1 28)), (5, .int 0)]) [2, 3, 4, 1, 0] rfl ?_
    exact w_X9_message_162 C hZ hR hN sv_fu _ _ _ _ _ hf
set_option maxHeartbeats 4000000 in
set_option maxRecDepth 100000 in
theorem w_X9_message_69 {E : sv_E} {X : sv_X} {h0 : Nat} {ad : Nat → Nat} {sz : Nat} {q : md_B} (C : sv_C E X cX9_message RX9 []) (hZ : sv_Z E X none none (md_w E h0 ad q) sz 0 0) (hR : sv_R X = { frames := 5, cells := 0, slots := 0, locals := 112 }) (hN : sv_nL X = 6) (B : md_B) (x1 : Int32) (s0 : Int32) (hf : f_X9_message_69 B x1 s0 = some q) : sv_J E X (md_w E h0 ad B) sz 0 0 69 [(0, .ref h0), (1, .int x1)] [.int s0] := by
  rw [f_X9_message_69] at hf
  refine sv_istore_n (lv' := [(2, .int s0), (0, .ref h0), (1, .int x1)]) C dX9_message_69 rfl (by rw [hN]; decide) rfl ?_
  refine sv_iload_n 0 C dX9_message_70 rfl rfl ?_
  refine sv_if_ne (tgt := 86) C dX9_message_71 (by decide) (fun c71 => ?_) (fun c71 => ?_)
  · replace hf := sv_if_f c71 hf
    refine sv_aload_n 1 C dX9_message_86 rfl rfl ?_
    refine md_getr C fl_X9_23 (by decide) dX9_message_87 ?_
    refine sv_iconst (v := 5) C dX9_message_90 (by decide) ?_
    refine sv_dup2 C dX9_message_91 rfl rfl ?_
    refine md_iald C 3 rfl (by decide) dX9_message_92 ?_
    refine sv_iconst (v := 1) C dX9_message_93 (by decide) ?_
    refine sv_iadd C dX9_message_94 ?_
    refine md_iast C 3 rfl (by decide) dX9_message_95 ?_
    refine sv_aload_n 1 C dX9_message_96 rfl rfl ?_
    refine sv_bipush (v := 8) C dX9_message_97 (by decide) ?_
    refine sv_bipush (v := 30) C dX9_message_99 (by decide) ?_
    obtain ⟨q101, hc101, hf⟩ := sv_bind_some hf
    refine sv_callV0 C mv_X9_286 (m_X9_read (sv_l X) E h0 ad sz _ _ _ _ hc101) sv_sx0 0 rfl rfl rfl rfl (Nat.le_of_ble_eq_true rfl) ⟨by rw [hR]; decide, by rw [hR]; decide⟩ ⟨by rw [hR]; decide, by rw [hR]; decide⟩ dX9_message_101 ?_
    refine sv_istore_n (lv' := [(3, .int q101.1), (2, .int s0), (0, .ref h0), (1, .int x1)]) C dX9_message_104 rfl (by rw [hN]; decide) rfl ?_
    refine sv_aload_n 2 C dX9_message_105 rfl rfl ?_
    refine sv_iload_n 0 C dX9_message_106 rfl rfl ?_
    obtain ⟨q107, hc107, hf⟩ := sv_bind_some hf
    refine sv_callV0 C mv_X9_294 (m_X9_found (sv_l X) E h0 ad sz _ _ _ hc107) sv_sx0 0 rfl rfl rfl rfl (Nat.le_of_ble_eq_true rfl) ⟨by rw [hR]; decide, by rw [hR]; decide⟩ ⟨by rw [hR]; decide, by rw [hR]; decide⟩ dX9_message_107 ?_
    refine sv_istore (lv' := [(4, .int q107.1), (3, .int q101.1), (2, .int s0), (0, .ref h0), (1, .int x1)]) C dX9_message_110 (by rw [hN]; decide) rfl ?_
    refine sv_iload 0 C dX9_message_112 rfl ?_
    refine sv_if_ge (tgt := 138) C dX9_message_114 (by decide) (fun c114 => ?_) (fun c114 => ?_)
    · replace hf := sv_if_t c114 hf
      refine sv_sub (lv' := [(0, .ref h0), (1, .int x1), (3, .int q101.1), (4, .int q107.1)]) [3, 4, 1, 0] rfl ?_
      exact w_X9_message_138 C hZ hR hN _ _ _ _ hf
    · replace hf := sv_if_f c114 hf
      refine sv_aload_n 3 C dX9_message_117 rfl rfl ?_
      refine md_geti C fl_X9_289 (by decide) dX9_message_118 ?_
      refine sv_bipush (v := 40) C dX9_message_121 (by decide) ?_
      refine sv_icmp_ne (tgt := 138) C dX9_message_123 (by decide) (fun c123 => ?_) (fun c123 => ?_)
      · replace hf := sv_if_f c123 hf
        refine sv_sub (lv' := [(0, .ref h0), (1, .int x1), (3, .int q101.1), (4, .int q107.1)]) [3, 4, 1, 0] rfl ?_
        exact w_X9_message_138 C hZ hR hN _ _ _ _ hf
      · replace hf := sv_if_t c123 hf
        refine sv_aload_n 3 C dX9_message_126 rfl rfl ?_
        refine md_getr C fl_X9_23 (by decide) dX9_message_127 ?_
        refine sv_bipush (v := 8) C dX9_message_130 (by decide) ?_
        refine sv_dup2 C dX9_message_132 rfl rfl ?_
        refine md_iald C 3 rfl (by decide) dX9_message_133 ?_
        refine sv_iconst (v := 1) C dX9_message_134 (by decide) ?_
        refine sv_iadd C dX9_message_135 ?_
        refine md_iast C 3 rfl (by decide) dX9_message_136 ?_
        exact sv_vret C (by cases hf; exact hZ) dX9_message_137
  · replace hf := sv_if_t c71 hf
    refine sv_aload_n 1 C dX9_message_74 rfl rfl ?_
    refine md_getr C fl_X9_23 (by decide) dX9_message_75 ?_
    refine sv_bipush (v := 6) C dX9_message_78 (by decide) ?_
    refine sv_dup2 C dX9_message_80 rfl rfl ?_
    refine md_iald C 3 rfl (by decide) dX9_message_81 ?_
    refine sv_iconst (v := 1) C dX9_message_82 (by decide) ?_
    refine sv_iadd C dX9_message_83 ?_
    refine md_iast C 3 rfl (by decide) dX9_message_84 ?_
    exact sv_vret C (by cases hf; exact hZ) dX9_message_85
set_option maxHeartbeats 4000000 in
set_option maxRecDepth 100000 in
theorem w_X9_message_64 {E : sv_E} {X : sv_X} {h0 : Nat} {ad : Nat → Nat} {sz : Nat} {q : md_B} (C : sv_C E X cX9_message RX9 []) (hZ : sv_Z E X none none (md_w E h0 ad q) sz 0 0) (hR : sv_R X = { frames := 5, cells := 0, slots := 0, locals := 112 }) (hN : sv_nL X = 6) (B : md_B) (x1 : Int32) (hf : f_X9_message_64 B x1 = some q) : sv_J E X (md_w E h0 ad B) sz 0 0 64 [(0, .ref h0), (1, .int x1)] [] := by
  rw [f_X9_message_64] at hf
  refine sv_iconst (v := 1) C dX9_message_64 (by decide) ?_
  refine sv_goto (tgt := 69) C dX9_message_65 (by decide) ?_
  refine sv_sub (lv' := [(0, .ref h0), (1, .int x1)]) [0, 1] rfl ?_
  exact w_X9_message_69 C hZ hR hN _ _ _ hf
set_option maxHeartbeats 4000000 in
set_option maxRecDepth 100000 in
theorem w_X9_message_68 {E : sv_E} {X : sv_X} {h0 : Nat} {ad : Nat → Nat} {sz : Nat} {q : md_B} (C : sv_C E X cX9_message RX9 []) (hZ : sv_Z E X none none (md_w E h0 ad q) sz 0 0) (hR : sv_R X = { frames := 5, cells := 0, slots := 0, locals := 112 }) (hN : sv_nL X = 6) (B : md_B) (x1 : Int32) (hf : f_X9_message_68 B x1 = some q) : sv_J E X (md_w E h0 ad B) sz 0 0 68 [(0, .ref h0), (1, .int x1)] [] := by
  rw [f_X9_message_68] at hf
  refine sv_iconst (v := 0) C dX9_message_68 (by decide) ?_
  refine sv_sub (lv' := [(0, .ref h0), (1, .int x1)]) [0, 1] rfl ?_
  exact w_X9_message_69 C hZ hR hN _ _ _ hf
set_option maxHeartbeats 4000000 in
set_option maxRecDepth 100000 in
theorem w_X9_message_49 {E : sv_E} {X : sv_X} {h0 : Nat} {ad : Nat → Nat} {sz : Nat} {q : md_B} (C : sv_C E X cX9_message RX9 []) (hZ : sv_Z E X none none (md_w E h0 ad q) sz 0 0) (hR : sv_R X = { frames := 5, cells := 0, slots := 0, locals := 112 }) (hN : sv_nL X = 6) (B : md_B) (x1 : Int32) (hf : f_X9_message_49 B x1 = some q) : sv_J E X (md_w E h0 ad B) sz 0 0 49 [(0, .ref h0), (1, .int x1)] [] := by
  rw [f_X9_message_49] at hf
  refine sv_iload_n 1 C dX9_message_49 rfl rfl ?_
  refine sv_iconst (v := 5) C dX9_message_50 (by decide) ?_
  refine sv_icmp_ne (tgt := 68) C dX9_message_51 (by decide) (fun c51 => ?_) (fun c51 => ?_)
  · replace hf := sv_if_f c51 hf
    refine sv_sub (lv' := [(0, .ref h0), (1, .int x1)]) [0, 1] rfl ?_
    exact w_X9_message_68 C hZ hR hN _ _ hf
  · replace hf := sv_if_t c51 hf
    refine sv_aload_n 0 C dX9_message_54 rfl rfl ?_
    refine md_geti C fl_X9_277 (by decide) dX9_message_55 ?_
    refine sv_sipush (v := 424) C dX9_message_58 (by decide) ?_
    refine sv_icmp_ne (tgt := 68) C dX9_message_61 (by decide) (fun c61 => ?_) (fun c61 => ?_)
    · replace hf := sv_if_f c61 hf
      refine sv_sub (lv' := [(0, .ref h0), (1, .int x1)]) [0, 1] rfl ?_
      exact w_X9_message_68 C hZ hR hN _ _ hf
    · replace hf := sv_if_t c61 hf
      refine sv_sub (lv' := [(0, .ref h0), (1, .int x1)]) [0, 1] rfl ?_
      exact w_X9_message_64 C hZ hR hN _ _ hf
set_option maxHeartbeats 4000000 in
set_option maxRecDepth 100000 in
theorem w_X9_message_39 {E : sv_E} {X : sv_X} {h0 : Nat} {ad : Nat → Nat} {sz : Nat} {q : md_B} (C : sv_C E X cX9_message RX9 []) (hZ : sv_Z E X none none (md_w E h0 ad q) sz 0 0) (hR : sv_R X = { frames := 5, cells := 0, slots := 0, locals := 112 }) (hN : sv_nL X = 6) (B : md_B) (x1 : Int32) (hf : f_X9_message_39 B x1 = some q) : sv_J E X (md_w E h0 ad B) sz 0 0 39 [(0, .ref h0), (1, .int x1)] [] := by
  rw [f_X9_message_39] at hf
  refine sv_aload_n 0 C dX9_message_39 rfl rfl ?_
  refine md_geti C fl_X9_277 (by decide) dX9_message_40 ?_
  refine sv_sipush (v := 168) C dX9_message_43 (by decide) ?_
  refine sv_icmp_eq (tgt := 64) C dX9_message_46 (by decide) (fun c46 => ?_) (fun c46 => ?_)
  · replace hf := sv_if_t c46 hf
    refine sv_sub (lv' := [(0, .ref h0), (1, .int x1)]) [0, 1] rfl ?_
    exact w_X9_message_64 C hZ hR hN _ _ hf
  · replace hf := sv_if_f c46 hf
    refine sv_sub (lv' := [(0, .ref h0), (1, .int x1)]) [0, 1] rfl ?_
    exact w_X9_message_49 C hZ hR hN _ _ hf
set_option maxHeartbeats 4000000 in
set_option maxRecDepth 100000 in
theorem w_X9_message_20 {E : sv_E} {X : sv_X} {h0 : Nat} {ad : Nat → Nat} {sz : Nat} {q : md_B} (C : sv_C E X cX9_message RX9 []) (hZ : sv_Z E X none none (md_w E h0 ad q) sz 0 0) (hR : sv_R X = { frames := 5, cells := 0, slots := 0, locals := 112 }) (hN : sv_nL X = 6) (B : md_B) (s0 : Int32) (hf : f_X9_message_20 B s0 = some q) : sv_J E X (md_w E h0 ad B) sz 0 0 20 [(0, .ref h0)] [.int s0] := by
  rw [f_X9_message_20] at hf
  refine sv_istore_n (lv' := [(1, .int s0), (0, .ref h0)]) C dX9_message_20 rfl (by rw [hN]; decide) rfl ?_
  refine sv_iload_n 0 C dX9_message_21 rfl rfl ?_
  refine sv_i2l C dX9_message_22 ?_
  refine sv_lconst (v := 1) C dX9_message_23 (by decide) ?_
  refine sv_ldc2 C kw_741 dX9_message_24 ?_
  obtain ⟨q27, hc27, hf⟩ := sv_bind_some hf
  refine sv_callS0 C ms_X9_74 (m_X9_in (sv_l X) E h0 ad sz _ _ _ _ _ hc27) sv_sx0 rfl rfl (Nat.le_of_ble_eq_true rfl) ⟨by rw [hR]; decide, by rw [hR]; decide⟩ ⟨by rw [hR]; decide, by rw [hR]; decide⟩ dX9_message_27 ?_
  refine sv_if_ne (tgt := 39) C dX9_message_30 (by decide) (fun c30 => ?_) (fun c30 => ?_)
  · replace hf := sv_if_f c30 hf
    refine sv_sub (lv' := [(0, .ref h0), (1, .int s0)]) [1, 0] rfl ?_
    exact w_X9_message_39 C hZ hR hN _ _ hf
  · replace hf := sv_if_t c30 hf
    refine sv_iload_n 0 C dX9_message_33 rfl rfl ?_
    refine sv_bipush (v := 18) C dX9_message_34 (by decide) ?_
    refine sv_icmp_ne (tgt := 49) C dX9_message_36 (by decide) (fun c36 => ?_) (fun c36 => ?_)
    · replace hf := sv_if_f c36 hf
      refine sv_sub (lv' := [(0, .ref h0), (1, .int s0)]) [1, 0] rfl ?_
      exact w_X9_message_49 C hZ hR hN _ _ hf
    · replace hf := sv_if_t c36 hf
      refine sv_sub (lv' := [(0, .ref h0), (1, .int s0)]) [1, 0] rfl ?_
      exact w_X9_message_39 C hZ hR hN _ _ hf
set_option maxHeartbeats 4000000 in
set_option maxRecDepth 100000 in
theorem m_X9_message (l : Launch) (E : sv_E) (h0 : Nat) (ad : Nat → Nat) (sz : Nat) (B : md_B) (q : md_B) (hf : f_X9_message B = some q) : sv_Met l E yX9_message cX9_message 6 none 5 112 [] [.ref h0] (md_w E h0 ad B) sz none (md_w E h0 ad q) sz 0 0 := by
  refine sv_ofJ (by decide) (Nat.le_of_ble_eq_true rfl) ?_
  intro X hX hN hnm hR C hZ
  replace C : sv_C E X cX9_message RX9 [] := C
  show sv_J E X (md_w E h0 ad B) sz 0 0 0 [(0, .ref h0)] []
  rw [f_X9_message] at hf
  refine sv_aload_n 0 C dX9_message_0 rfl rfl ?_
  refine md_geti C fl_X9_277 (by decide) dX9_message_1 ?_
  refine sv_bipush (v := 38) C dX9_message_4 (by decide) ?_
  refine sv_icmp_ge (tgt := 13) C dX9_message_6 (by decide) (fun c6 => ?_) (fun c6 => ?_)
  · replace hf := sv_if_t c6 hf
    refine sv_aload_n 0 C dX9_message_13 rfl rfl ?_
    refine sv_iconst (v := 0) C dX9_message_14 (by decide) ?_
    refine sv_bipush (v := 6) C dX9_message_15 (by decide) ?_
    obtain ⟨q17, hc17, hf⟩ := sv_bind_some hf
    refine sv_callV0 C mv_X9_286 (m_X9_read (sv_l X) E h0 ad sz _ _ _ _ hc17) sv_sx0 0 rfl rfl rfl rfl (Nat.le_of_ble_eq_true rfl) ⟨by rw [hR]; decide, by rw [hR]; decide⟩ ⟨by rw [hR]; decide, by rw [hR]; decide⟩ dX9_message_17 ?_
    refine sv_sub (lv' := [(0, .ref h0)]) [0] rfl ?_
    exact w_X9_message_20 C hZ hR hN _ _ hf
  · replace hf := sv_if_f c6 hf
    refine sv_iconst (v := 0) C dX9_message_9 (by decide) ?_
    refine sv_goto (tgt := 20) C dX9_message_10 (by decide) ?_
    refine sv_sub (lv' := [(0, .ref h0)]) [0] rfl ?_
    exact w_X9_message_20 C hZ hR hN _ _ hf
def f_X9_parted_234 (k156 : md_B → Int32 → Int32 → Option (md_B)) (B : md_B) (x1 : Int32) (x2 : Int32) (s0 : Int32) (s1 : Int32) : Option (md_B) :=
  sv_g (sv_inb s1 35640) (
    k156 (md_pa B 24 s1 (vp_nar .boolean s0)) x1 (x2 + 1))
def f_X9_parted_188 (k156 : md_B → Int32 → Int32 → Option (md_B)) (B : md_B) (x1 : Int32) (x2 : Int32) (s0 : Int32) : Option (md_B) :=
  sv_g (sv_inb (B.1 19) 11) (
    if ((s0 >>> ((5 - (x2 - x2 / 6 * 6)) &&& 31)) &&& 1) = 1 then
      f_X9_parted_234 k156 B x1 x2 1 ((((B.1 19) * 3240) + (B.2 23 (B.1 19).toNatClampNeg)) + x2)
    else
      f_X9_parted_234 k156 B x1 x2 0 ((((B.1 19) * 3240) + (B.2 23 (B.1 19).toNatClampNeg)) + x2))
def f_X9_parted_280 : Nat → md_B → Int32 → Option (md_B)
  | 0, _, _ => none
  | n + 1, B, x2 =>
    if (B.1 26) ≤ x2 then
      sv_g (sv_inb (B.1 19) 11) (
        (f_X9_message (md_pf (md_pa B 22 (B.1 19) 0) 27 1)).bind (fun q331 =>
          some q331))
    else
      sv_g (sv_inb (((B.1 19) * 3240) + x2) 35640) (
        sv_g (sv_inb x2 3240) (
          (f_X9_parted_280 n) (md_pa B 25 x2 (vp_nar .boolean (B.2 24 (((B.1 19) * 3240) + x2).toNatClampNeg))) (x2 + 1)))
def f_X9_parted_156 : Nat → md_B → Int32 → Int32 → Option (md_B)
  | 0, _, _, _ => none
  | n + 1, B, x1, x2 =>
    if x1 ≤ x2 then
      sv_g (sv_inb (B.1 19) 11) (
        sv_g (sv_inb (B.1 19) 11) (
          if ((md_pa B 23 (B.1 19) ((B.2 23 (B.1 19).toNatClampNeg) + x1)).1 18) = ((md_pa B 23 (B.1 19) ((B.2 23 (B.1 19).toNatClampNeg) + x1)).1 17) then
            sv_g (sv_inb ((md_pa B 23 (B.1 19) ((B.2 23 (B.1 19).toNatClampNeg) + x1)).1 19) 11) (
              f_X9_parted_280 sv_fu (md_pf (md_pa B 23 (B.1 19) ((B.2 23 (B.1 19).toNatClampNeg) + x1)) 26 ((md_pa B 23 (B.1 19) ((B.2 23 (B.1 19).toNatClampNeg) + x1)).2 23 ((md_pa B 23 (B.1 19) ((B.2 23 (B.1 19).toNatClampNeg) + x1)).1 19).toNatClampNeg)) 0)
          else
            some (md_pa B 23 (B.1 19) ((B.2 23 (B.1 19).toNatClampNeg) + x1))))
    else
      (f_X9_at B 5 (x2 / 6)).bind (fun q167 =>
        if (q167.1 - 48) ≤ 40 then
          f_X9_parted_188 (f_X9_parted_156 n) q167.2 x1 x2 (q167.1 - 48)
        else
          f_X9_parted_188 (f_X9_parted_156 n) q167.2 x1 x2 ((q167.1 - 48) - 8))
def f_X9_parted_114 (B : md_B) : Option (md_B) :=
  sv_g (sv_inb (B.1 19) 11) (
    sv_g (sv_inb ((md_pa B 21 (B.1 19) (B.1 17)).1 19) 11) (
      sv_g (sv_inb ((md_pa B 21 (B.1 19) (B.1 17)).1 19) 11) (
        (f_X9_size (md_pa (md_pa B 21 (B.1 19) (B.1 17)) 22 ((md_pa B 21 (B.1 19) (B.1 17)).1 19) (((md_pa B 21 (B.1 19) (B.1 17)).2 22 ((md_pa B 21 (B.1 19) (B.1 17)).1 19).toNatClampNeg) + 1)) 5).bind (fun q144 =>
          f_X9_parted_156 sv_fu q144.2 ((6 * q144.1) - (q144.2.1 20)) 0))))
def f_X9_parted_33 (B : md_B) (s0 : Int32) (s1 : Int32) (s2 : Int32) : Option (md_B) :=
  sv_g (sv_inb s2 9) (
    sv_g (sv_inb ((md_pa B 10 s2 (s1 + s0)).1 19) 11) (
      sv_g (sv_inb ((md_pa (md_pa B 10 s2 (s1 + s0)) 22 ((md_pa B 10 s2 (s1 + s0)).1 19) 0).1 19) 11) (
        f_X9_parted_114 (md_pa (md_pa (md_pa B 10 s2 (s1 + s0)) 22 ((md_pa B 10 s2 (s1 + s0)).1 19) 0) 23 ((md_pa (md_pa B 10 s2 (s1 + s0)) 22 ((md_pa B 10 s2 (s1 + s0)).1 19) 0).1 19) 0))))
def f_X9_parted_92 (B : md_B) : Option (md_B) :=
  sv_g (sv_inb ((md_pa B 10 7 ((B.2 10 (7 : Int32).toNatClampNeg) + 1)).1 19) 11) (
    some (md_pa (md_pa B 10 7 ((B.2 10 (7 : Int32).toNatClampNeg) + 1)) 22 ((md_pa B 10 7 ((B.2 10 (7 : Int32).toNatClampNeg) + 1)).1 19) 0))
def f_X9_parted (B : md_B) : Option (md_B) :=
  if (B.1 18) = 1 then
    sv_g (sv_inb (B.1 19) 11) (
      if (B.2 22 (B.1 19).toNatClampNeg) ≤ 0 then
        f_X9_parted_33 B 0 (B.2 10 (7 : Int32).toNatClampNeg) 7
      else
        f_X9_parted_33 B 1 (B.2 10 (7 : Int32).toNatClampNeg) 7)
  else
    sv_g (sv_inb (B.1 19) 11) (
      if (B.2 21 (B.1 19).toNatClampNeg) = (B.1 17) then
        sv_g (sv_inb (B.1 19) 11) (
          if (B.2 22 (B.1 19).toNatClampNeg) = ((B.1 18) - 1) then
            f_X9_parted_114 B
          else
            f_X9_parted_92 B)
      else
        f_X9_parted_92 B)
set_option maxHeartbeats 4000000 in
set_option maxRecDepth 100000 in
theorem w_X9_parted_234 {E : sv_E} {X : sv_X} {h0 : Nat} {ad : Nat → Nat} {sz : Nat} {q : md_B} (C : sv_C E X cX9_parted RX9 []) (hZ : sv_Z E X none none (md_w E h0 ad q) sz 0 0) (hR : sv_R X = { frames := 6, cells := 0, slots := 0, locals := 137 }) (hN : sv_nL X = 5) {k156 : md_B → Int32 → Int32 → Option (md_B)} (hk156 : ∀ (B : md_B) (x1 : Int32) (x2 : Int32), k156 B x1 x2 = some q → sv_J E X (md_w E h0 ad B) sz 0 0 156 [(0, .ref h0), (1, .int x1), (2, .int x2)] []) (B : md_B) (x1 : Int32) (x2 : Int32) (s0 : Int32) (s1 : Int32) (hf : f_X9_parted_234 k156 B x1 x2 s0 s1 = some q) : sv_J E X (md_w E h0 ad B) sz 0 0 234 [(0, .ref h0), (1, .int x1), (2, .int x2)] [.int s0, .int s1, .ref (ad 24)] := by
  rw [f_X9_parted_234] at hf
  obtain ⟨g234, hf⟩ := sv_g_some hf
  refine md_zast C 11 rfl g234 dX9_parted_234 ?_
  refine sv_iinc (v := x2 + 1) (lv' := [(2, .int (x2 + 1)), (0, .ref h0), (1, .int x1)]) 2 C dX9_parted_235 rfl rfl (by rw [hN]; decide) rfl ?_
  refine sv_goto (tgt := 156) C dX9_parted_238 (by decide) ?_
  refine sv_sub (lv' := [(0, .ref h0), (1, .int x1), (2, .int (x2 + 1))]) [1, 2, 0] rfl ?_
  exact hk156 _ _ _ hf
set_option maxHeartbeats 4000000 in
set_option maxRecDepth 100000 in
theorem w_X9_parted_188 {E : sv_E} {X : sv_X} {h0 : Nat} {ad : Nat → Nat} {sz : Nat} {q : md_B} (C : sv_C E X cX9_parted RX9 []) (hZ : sv_Z E X none none (md_w E h0 ad q) sz 0 0) (hR : sv_R X = { frames := 6, cells := 0, slots := 0, locals := 137 }) (hN : sv_nL X = 5) {k156 : md_B → Int32 → Int32 → Option (md_B)} (hk156 : ∀ (B : md_B) (x1 : Int32) (x2 : Int32), k156 B x1 x2 = some q → sv_J E X (md_w E h0 ad B) sz 0 0 156 [(0, .ref h0), (1, .int x1), (2, .int x2)] []) (B : md_B) (x1 : Int32) (x2 : Int32) (s0 : Int32) (hf : f_X9_parted_188 k156 B x1 x2 s0 = some q) : sv_J E X (md_w E h0 ad B) sz 0 0 188 [(0, .ref h0), (1, .int x1), (2, .int x2)] [.int s0] := by
  rw [f_X9_parted_188] at hf
  refine sv_istore (lv' := [(4, .int s0), (0, .ref h0), (1, .int x1), (2, .int x2)]) C dX9_parted_188 (by rw [hN]; decide) rfl ?_
  refine sv_aload_n 1 C dX9_parted_190 rfl rfl ?_
  refine md_getr C fl_X9_48 (by decide) dX9_parted_191 ?_
  refine sv_aload_n 1 C dX9_parted_194 rfl rfl ?_
  refine md_geti C fl_X9_254 (by decide) dX9_parted_195 ?_
  refine sv_sipush (v := 3240) C dX9_parted_198 (by decide) ?_
  refine sv_imul C dX9_parted_201 ?_
  refine sv_aload_n 1 C dX9_parted_202 rfl rfl ?_
  refine md_getr C fl_X9_44 (by decide) dX9_parted_203 ?_
  refine sv_aload_n 1 C dX9_parted_206 rfl rfl ?_
  refine md_geti C fl_X9_254 (by decide) dX9_parted_207 ?_
  obtain ⟨g210, hf⟩ := sv_g_some hf
  refine md_iald C 10 rfl g210 dX9_parted_210 ?_
  refine sv_iadd C dX9_parted_211 ?_
  refine sv_iload_n 3 C dX9_parted_212 rfl rfl ?_
  refine sv_iadd C dX9_parted_213 ?_
  refine sv_iload 0 C dX9_parted_214 rfl ?_
  refine sv_iconst (v := 5) C dX9_parted_216 (by decide) ?_
  refine sv_iload_n 3 C dX9_parted_217 rfl rfl ?_
  refine sv_bipush (v := 6) C dX9_parted_218 (by decide) ?_
  refine sv_irem C dX9_parted_220 (by decide) ?_
  refine sv_isub C dX9_parted_221 ?_
  refine sv_ishr C dX9_parted_222 ?_
  refine sv_iconst (v := 1) C dX9_parted_223 (by decide) ?_
  refine sv_iand C dX9_parted_224 ?_
  refine sv_iconst (v := 1) C dX9_parted_225 (by decide) ?_
  refine sv_icmp_ne (tgt := 233) C dX9_parted_226 (by decide) (fun c226 => ?_) (fun c226 => ?_)
  · replace hf := sv_if_f c226 hf
    refine sv_iconst (v := 0) C dX9_parted_233 (by decide) ?_
    refine sv_sub (lv' := [(0, .ref h0), (1, .int x1), (2, .int x2)]) [1, 2, 3] rfl ?_
    exact w_X9_parted_234 C hZ hR hN hk156 _ _ _ _ _ hf
  · replace hf := sv_if_t c226 hf
    refine sv_iconst (v := 1) C dX9_parted_229 (by decide) ?_
    refine sv_goto (tgt := 234) C dX9_parted_230 (by decide) ?_
    refine sv_sub (lv' := [(0, .ref h0), (1, .int x1), (2, .int x2)]) [1, 2, 3] rfl ?_
    exact w_X9_parted_234 C hZ hR hN hk156 _ _ _ _ _ hf
set_option maxHeartbeats 4000000 in
set_option maxRecDepth 100000 in
theorem w_X9_parted_280 {E : sv_E} {X : sv_X} {h0 : Nat} {ad : Nat → Nat} {sz : Nat} {q : md_B} (C : sv_C E X cX9_parted RX9 []) (hZ : sv_Z E X none none (md_w E h0 ad q) sz 0 0) (hR : sv_R X = { frames := 6, cells := 0, slots := 0, locals := 137 }) (hN : sv_nL X = 5) : ∀ (n : Nat) (B : md_B) (x2 : Int32), f_X9_parted_280 n B x2 = some q → sv_J E X (md_w E h0 ad B) sz 0 0 280 [(0, .ref h0), (2, .int x2)] [] := by
  intro n
  induction n with
  | zero =>
    intro B x2 hf
    rw [f_X9_parted_280] at hf
    cases hf
  | succ n ih =>
    intro B x2 hf
    rw [f_X9_parted_280] at hf
    refine sv_iload_n 1 C dX9_parted_280 rfl rfl ?_
    refine sv_aload_n 0 C dX9_parted_281 rfl rfl ?_
    refine md_geti C fl_X9_277 (by decide) dX9_parted_282 ?_
    refine sv_icmp_ge (tgt := 315) C dX9_parted_285 (by decide) (fun c285 => ?_) (fun c285 => ?_)
    · replace hf := sv_if_t c285 hf
      refine sv_aload_n 0 C dX9_parted_315 rfl rfl ?_
      refine md_getr C fl_X9_41 (by decide) dX9_parted_316 ?_
      refine sv_aload_n 0 C dX9_parted_319 rfl rfl ?_
      refine md_geti C fl_X9_254 (by decide) dX9_parted_320 ?_
      refine sv_iconst (v := 0) C dX9_parted_323 (by decide) ?_
      obtain ⟨g324, hf⟩ := sv_g_some hf
      refine md_iast C 9 rfl g324 dX9_parted_324 ?_
      refine sv_aload_n 0 C dX9_parted_325 rfl rfl ?_
      refine sv_iconst (v := 1) C dX9_parted_326 (by decide) ?_
      refine md_puti C fl_X9_280 (by decide) (by decide) (by decide) dX9_parted_327 ?_
      refine sv_aload_n 0 C dX9_parted_330 rfl rfl ?_
      obtain ⟨q331, hc331, hf⟩ := sv_bind_some hf
      refine sv_callV0 C mv_X9_283 (m_X9_message (sv_l X) E h0 ad sz _ _ hc331) sv_sx0 0 rfl rfl rfl rfl (Nat.le_of_ble_eq_true rfl) ⟨by rw [hR]; decide, by rw [hR]; decide⟩ ⟨by rw [hR]; decide, by rw [hR]; decide⟩ dX9_parted_331 ?_
      exact sv_vret C (by cases hf; exact hZ) dX9_parted_334
    · replace hf := sv_if_f c285 hf
      refine sv_aload_n 0 C dX9_parted_288 rfl rfl ?_
      refine md_getr C fl_X9_52 (by decide) dX9_parted_289 ?_
      refine sv_iload_n 1 C dX9_parted_292 rfl rfl ?_
      refine sv_aload_n 0 C dX9_parted_293 rfl rfl ?_
      refine md_getr C fl_X9_48 (by decide) dX9_parted_294 ?_
      refine sv_aload_n 0 C dX9_parted_297 rfl rfl ?_
      refine md_geti C fl_X9_254 (by decide) dX9_parted_298 ?_
      refine sv_sipush (v := 3240) C dX9_parted_301 (by decide) ?_
      refine sv_imul C dX9_parted_304 ?_
      refine sv_iload_n 1 C dX9_parted_305 rfl rfl ?_
      refine sv_iadd C dX9_parted_306 ?_
      obtain ⟨g307, hf⟩ := sv_g_some hf
      refine md_zald C 11 rfl g307 dX9_parted_307 ?_
      obtain ⟨g308, hf⟩ := sv_g_some hf
      refine md_zast C 12 rfl g308 dX9_parted_308 ?_
      refine sv_iinc (v := x2 + 1) (lv' := [(2, .int (x2 + 1)), (0, .ref h0)]) 1 C dX9_parted_309 rfl rfl (by rw [hN]; decide) rfl ?_
      refine sv_goto (tgt := 280) C dX9_parted_312 (by decide) ?_
      refine sv_sub (lv' := [(0, .ref h0), (2, .int (x2 + 1))]) [1, 0] rfl ?_
      exact ih _ _ hf
set_option maxHeartbeats 4000000 in
set_option maxRecDepth 100000 in
theorem w_X9_parted_156 {E : sv_E} {X : sv_X} {h0 : Nat} {ad : Nat → Nat} {sz : Nat} {q : md_B} (C : sv_C E X cX9_parted RX9 []) (hZ : sv_Z E X none none (md_w E h0 ad q) sz 0 0) (hR : sv_R X = { frames := 6, cells := 0, slots := 0, locals := 137 }) (hN : sv_nL X = 5) : ∀ (n : Nat) (B : md_B) (x1 : Int32) (x2 : Int32), f_X9_parted_156 n B x1 x2 = some q → sv_J E X (md_w E h0 ad B) sz 0 0 156 [(0, .ref h0), (1, .int x1), (2, .int x2)] [] := by
  intro n
  induction n with
  | zero =>
    intro B x1 x2 hf
    rw [f_X9_parted_156] at hf
    cases hf
  | succ n ih =>
    intro B x1 x2 hf
    rw [f_X9_parted_156] at hf
    refine sv_iload_n 2 C dX9_parted_156 rfl rfl ?_
    refine sv_iload_n 1 C dX9_parted_157 rfl rfl ?_
    refine sv_icmp_ge (tgt := 241) C dX9_parted_158 (by decide) (fun c158 => ?_) (fun c158 => ?_)
    · replace hf := sv_if_t c158 hf
      refine sv_aload_n 0 C dX9_parted_241 rfl rfl ?_
      refine md_getr C fl_X9_44 (by decide) dX9_parted_242 ?_
      refine sv_aload_n 0 C dX9_parted_245 rfl rfl ?_
      refine md_geti C fl_X9_254 (by decide) dX9_parted_246 ?_
      refine sv_dup2 C dX9_parted_249 rfl rfl ?_
      obtain ⟨g250, hf⟩ := sv_g_some hf
      refine md_iald C 10 rfl g250 dX9_parted_250 ?_
      refine sv_iload_n 1 C dX9_parted_251 rfl rfl ?_
      refine sv_iadd C dX9_parted_252 ?_
      obtain ⟨g253, hf⟩ := sv_g_some hf
      refine md_iast C 10 rfl g253 dX9_parted_253 ?_
      refine sv_aload_n 0 C dX9_parted_254 rfl rfl ?_
      refine md_geti C fl_X9_251 (by decide) dX9_parted_255 ?_
      refine sv_aload_n 0 C dX9_parted_258 rfl rfl ?_
      refine md_geti C fl_X9_248 (by decide) dX9_parted_259 ?_
      refine sv_icmp_ne (tgt := 334) C dX9_parted_262 (by decide) (fun c262 => ?_) (fun c262 => ?_)
      · replace hf := sv_if_f c262 hf
        exact sv_vret C (by cases hf; exact hZ) dX9_parted_334
      · replace hf := sv_if_t c262 hf
        refine sv_aload_n 0 C dX9_parted_265 rfl rfl ?_
        refine sv_aload_n 0 C dX9_parted_266 rfl rfl ?_
        refine md_getr C fl_X9_44 (by decide) dX9_parted_267 ?_
        refine sv_aload_n 0 C dX9_parted_270 rfl rfl ?_
        refine md_geti C fl_X9_254 (by decide) dX9_parted_271 ?_
        obtain ⟨g274, hf⟩ := sv_g_some hf
        refine md_iald C 10 rfl g274 dX9_parted_274 ?_
        refine md_puti C fl_X9_277 (by decide) rfl rfl dX9_parted_275 ?_
        refine sv_iconst (v := 0) C dX9_parted_278 (by decide) ?_
        refine sv_istore_n (lv' := [(2, .int 0), (0, .ref h0), (1, .int x1)]) C dX9_parted_279 rfl (by rw [hN]; decide) rfl ?_
        refine sv_sub (lv' := [(0, .ref h0), (2, .int 0)]) [1, 0] rfl ?_
        exact w_X9_parted_280 C hZ hR hN sv_fu _ _ hf
    · replace hf := sv_if_f c158 hf
      refine sv_aload_n 0 C dX9_parted_161 rfl rfl ?_
      refine sv_iconst (v := 5) C dX9_parted_162 (by decide) ?_
      refine sv_iload_n 2 C dX9_parted_163 rfl rfl ?_
      refine sv_bipush (v := 6) C dX9_parted_164 (by decide) ?_
      refine sv_idiv C dX9_parted_166 (by decide) ?_
      obtain ⟨q167, hc167, hf⟩ := sv_bind_some hf
      refine sv_callV0 C mv_X9_156 (m_X9_at (sv_l X) E h0 ad sz _ _ _ _ hc167) sv_sx0 0 rfl rfl rfl rfl (Nat.le_of_ble_eq_true rfl) ⟨by rw [hR]; decide, by rw [hR]; decide⟩ ⟨by rw [hR]; decide, by rw [hR]; decide⟩ dX9_parted_167 ?_
      refine sv_bipush (v := 48) C dX9_parted_170 (by decide) ?_
      refine sv_isub C dX9_parted_172 ?_
      refine sv_istore_n (lv' := [(3, .int (q167.1 - 48)), (0, .ref h0), (1, .int x1), (2, .int x2)]) C dX9_parted_173 rfl (by rw [hN]; decide) rfl ?_
      refine sv_iload_n 0 C dX9_parted_174 rfl rfl ?_
      refine sv_bipush (v := 40) C dX9_parted_175 (by decide) ?_
      refine sv_icmp_le (tgt := 187) C dX9_parted_177 (by decide) (fun c177 => ?_) (fun c177 => ?_)
      · replace hf := sv_if_t c177 hf
        refine sv_iload_n 0 C dX9_parted_187 rfl rfl ?_
        refine sv_sub (lv' := [(0, .ref h0), (1, .int x1), (2, .int x2)]) [1, 2, 3] rfl ?_
        exact w_X9_parted_188 C hZ hR hN ih _ _ _ _ hf
      · replace hf := sv_if_f c177 hf
        refine sv_iload_n 0 C dX9_parted_180 rfl rfl ?_
        refine sv_bipush (v := 8) C dX9_parted_181 (by decide) ?_
        refine sv_isub C dX9_parted_183 ?_
        refine sv_goto (tgt := 188) C dX9_parted_184 (by decide) ?_
        refine sv_sub (lv' := [(0, .ref h0), (1, .int x1), (2, .int x2)]) [1, 2, 3] rfl ?_
        exact w_X9_parted_188 C hZ hR hN ih _ _ _ _ hf
set_option maxHeartbeats 4000000 in
set_option maxRecDepth 100000 in
theorem w_X9_parted_114 {E : sv_E} {X : sv_X} {h0 : Nat} {ad : Nat → Nat} {sz : Nat} {q : md_B} (C : sv_C E X cX9_parted RX9 []) (hZ : sv_Z E X none none (md_w E h0 ad q) sz 0 0) (hR : sv_R X = { frames := 6, cells := 0, slots := 0, locals := 137 }) (hN : sv_nL X = 5) (B : md_B) (hf : f_X9_parted_114 B = some q) : sv_J E X (md_w E h0 ad B) sz 0 0 114 [(0, .ref h0)] [] := by
  rw [f_X9_parted_114] at hf
  refine sv_aload_n 0 C dX9_parted_114 rfl rfl ?_
  refine md_getr C fl_X9_38 (by decide) dX9_parted_115 ?_
  refine sv_aload_n 0 C dX9_parted_118 rfl rfl ?_
  refine md_geti C fl_X9_254 (by decide) dX9_parted_119 ?_
  refine sv_aload_n 0 C dX9_parted_122 rfl rfl ?_
  refine md_geti C fl_X9_248 (by decide) dX9_parted_123 ?_
  obtain ⟨g126, hf⟩ := sv_g_some hf
  refine md_iast C 8 rfl g126 dX9_parted_126 ?_
  refine sv_aload_n 0 C dX9_parted_127 rfl rfl ?_
  refine md_getr C fl_X9_41 (by decide) dX9_parted_128 ?_
  refine sv_aload_n 0 C dX9_parted_131 rfl rfl ?_
  refine md_geti C fl_X9_254 (by decide) dX9_parted_132 ?_
  refine sv_dup2 C dX9_parted_135 rfl rfl ?_
  obtain ⟨g136, hf⟩ := sv_g_some hf
  refine md_iald C 9 rfl g136 dX9_parted_136 ?_
  refine sv_iconst (v := 1) C dX9_parted_137 (by decide) ?_
  refine sv_iadd C dX9_parted_138 ?_
  obtain ⟨g139, hf⟩ := sv_g_some hf
  refine md_iast C 9 rfl g139 dX9_parted_139 ?_
  refine sv_bipush (v := 6) C dX9_parted_140 (by decide) ?_
  refine sv_aload_n 0 C dX9_parted_142 rfl rfl ?_
  refine sv_iconst (v := 5) C dX9_parted_143 (by decide) ?_
  obtain ⟨q144, hc144, hf⟩ := sv_bind_some hf
  refine sv_callV0 C mv_X9_153 (m_X9_size (sv_l X) E h0 ad sz _ _ _ hc144) sv_sx0 0 rfl rfl rfl rfl (Nat.le_of_ble_eq_true rfl) ⟨by rw [hR]; decide, by rw [hR]; decide⟩ ⟨by rw [hR]; decide, by rw [hR]; decide⟩ dX9_parted_144 ?_
  refine sv_imul C dX9_parted_147 ?_
  refine sv_aload_n 0 C dX9_parted_148 rfl rfl ?_
  refine md_geti C fl_X9_259 (by decide) dX9_parted_149 ?_
  refine sv_isub C dX9_parted_152 ?_
  refine sv_istore_n (lv' := [(1, .int ((6 * q144.1) - (q144.2.1 20))), (0, .ref h0)]) C dX9_parted_153 rfl (by rw [hN]; decide) rfl ?_
  refine sv_iconst (v := 0) C dX9_parted_154 (by decide) ?_
  refine sv_istore_n (lv' := [(2, .int 0), (1, .int ((6 * q144.1) - (q144.2.1 20))), (0, .ref h0)]) C dX9_parted_155 rfl (by rw [hN]; decide) rfl ?_
  refine sv_sub (lv' := [(0, .ref h0), (1, .int ((6 * q144.1) - (q144.2.1 20))), (2, .int 0)]) [2, 1, 0] rfl ?_
  exact w_X9_parted_156 C hZ hR hN sv_fu _ _ _ hf
set_option maxHeartbeats 4000000 in
set_option maxRecDepth 100000 in
theorem w_X9_parted_33 {E : sv_E} {X : sv_X} {h0 : Nat} {ad : Nat → Nat} {sz : Nat} {q : md_B} (C : sv_C E X cX9_parted RX9 []) (hZ : sv_Z E X none none (md_w E h0 ad q) sz 0 0) (hR : sv_R X = { frames := 6, cells := 0, slots := 0, locals := 137 }) (hN : sv_nL X = 5) (B : md_B) (s0 : Int32) (s1 : Int32) (s2 : Int32) (hf : f_X9_parted_33 B s0 s1 s2 = some q) : sv_J E X (md_w E h0 ad B) sz 0 0 33 [(0, .ref h0)] [.int s0, .int s1, .int s2, .ref (ad 10)] := by
  rw [f_X9_parted_33] at hf
  refine sv_iadd C dX9_parted_33 ?_
  obtain ⟨g34, hf⟩ := sv_g_some hf
  refine md_iast C 3 rfl g34 dX9_parted_34 ?_
  refine sv_aload_n 0 C dX9_parted_35 rfl rfl ?_
  refine md_getr C fl_X9_41 (by decide) dX9_parted_36 ?_
  refine sv_aload_n 0 C dX9_parted_39 rfl rfl ?_
  refine md_geti C fl_X9_254 (by decide) dX9_parted_40 ?_
  refine sv_iconst (v := 0) C dX9_parted_43 (by decide) ?_
  obtain ⟨g44, hf⟩ := sv_g_some hf
  refine md_iast C 9 rfl g44 dX9_parted_44 ?_
  refine sv_aload_n 0 C dX9_parted_45 rfl rfl ?_
  refine md_getr C fl_X9_44 (by decide) dX9_parted_46 ?_
  refine sv_aload_n 0 C dX9_parted_49 rfl rfl ?_
  refine md_geti C fl_X9_254 (by decide) dX9_parted_50 ?_
  refine sv_iconst (v := 0) C dX9_parted_53 (by decide) ?_
  obtain ⟨g54, hf⟩ := sv_g_some hf
  refine md_iast C 10 rfl g54 dX9_parted_54 ?_
  refine sv_goto (tgt := 114) C dX9_parted_55 (by decide) ?_
  refine sv_sub (lv' := [(0, .ref h0)]) [0] rfl ?_
  exact w_X9_parted_114 C hZ hR hN _ hf
set_option maxHeartbeats 4000000 in
set_option maxRecDepth 100000 in
theorem w_X9_parted_92 {E : sv_E} {X : sv_X} {h0 : Nat} {ad : Nat → Nat} {sz : Nat} {q : md_B} (C : sv_C E X cX9_parted RX9 []) (hZ : sv_Z E X none none (md_w E h0 ad q) sz 0 0) (hR : sv_R X = { frames := 6, cells := 0, slots := 0, locals := 137 }) (hN : sv_nL X = 5) (B : md_B) (hf : f_X9_parted_92 B = some q) : sv_J E X (md_w E h0 ad B) sz 0 0 92 [(0, .ref h0)] [] := by
  rw [f_X9_parted_92] at hf
  refine sv_aload_n 0 C dX9_parted_92 rfl rfl ?_
  refine md_getr C fl_X9_23 (by decide) dX9_parted_93 ?_
  refine sv_bipush (v := 7) C dX9_parted_96 (by decide) ?_
  refine sv_dup2 C dX9_parted_98 rfl rfl ?_
  refine md_iald C 3 rfl (by decide) dX9_parted_99 ?_
  refine sv_iconst (v := 1) C dX9_parted_100 (by decide) ?_
  refine sv_iadd C dX9_parted_101 ?_
  refine md_iast C 3 rfl (by decide) dX9_parted_102 ?_
  refine sv_aload_n 0 C dX9_parted_103 rfl rfl ?_
  refine md_getr C fl_X9_41 (by decide) dX9_parted_104 ?_
  refine sv_aload_n 0 C dX9_parted_107 rfl rfl ?_
  refine md_geti C fl_X9_254 (by decide) dX9_parted_108 ?_
  refine sv_iconst (v := 0) C dX9_parted_111 (by decide) ?_
  obtain ⟨g112, hf⟩ := sv_g_some hf
  refine md_iast C 9 rfl g112 dX9_parted_112 ?_
  exact sv_vret C (by cases hf; exact hZ) dX9_parted_113
set_option maxHeartbeats 4000000 in
set_option maxRecDepth 100000 in
theorem m_X9_parted (l : Launch) (E : sv_E) (h0 : Nat) (ad : Nat → Nat) (sz : Nat) (B : md_B) (q : md_B) (hf : f_X9_parted B = some q) : sv_Met l E yX9_parted cX9_parted 5 none 6 137 [] [.ref h0] (md_w E h0 ad B) sz none (md_w E h0 ad q) sz 0 0 := by
  refine sv_ofJ (by decide) (Nat.le_of_ble_eq_true rfl) ?_
  intro X hX hN hnm hR C hZ
  replace C : sv_C E X cX9_parted RX9 [] := C
  show sv_J E X (md_w E h0 ad B) sz 0 0 0 [(0, .ref h0)] []
  rw [f_X9_parted] at hf
  refine sv_aload_n 0 C dX9_parted_0 rfl rfl ?_
  refine md_geti C fl_X9_251 (by decide) dX9_parted_1 ?_
  refine sv_iconst (v := 1) C dX9_parted_4 (by decide) ?_
  refine sv_icmp_ne (tgt := 58) C dX9_parted_5 (by decide) (fun c5 => ?_) (fun c5 => ?_)
  · replace hf := sv_if_f c5 hf
    refine sv_aload_n 0 C dX9_parted_58 rfl rfl ?_
    refine md_getr C fl_X9_38 (by decide) dX9_parted_59 ?_
    refine sv_aload_n 0 C dX9_parted_62 rfl rfl ?_
    refine md_geti C fl_X9_254 (by decide) dX9_parted_63 ?_
    obtain ⟨g66, hf⟩ := sv_g_some hf
    refine md_iald C 8 rfl g66 dX9_parted_66 ?_
    refine sv_aload_n 0 C dX9_parted_67 rfl rfl ?_
    refine md_geti C fl_X9_248 (by decide) dX9_parted_68 ?_
    refine sv_icmp_ne (tgt := 92) C dX9_parted_71 (by decide) (fun c71 => ?_) (fun c71 => ?_)
    · replace hf := sv_if_f c71 hf
      refine sv_sub (lv' := [(0, .ref h0)]) [0] rfl ?_
      exact w_X9_parted_92 C hZ hR hN _ hf
    · replace hf := sv_if_t c71 hf
      refine sv_aload_n 0 C dX9_parted_74 rfl rfl ?_
      refine md_getr C fl_X9_41 (by decide) dX9_parted_75 ?_
      refine sv_aload_n 0 C dX9_parted_78 rfl rfl ?_
      refine md_geti C fl_X9_254 (by decide) dX9_parted_79 ?_
      obtain ⟨g82, hf⟩ := sv_g_some hf
      refine md_iald C 9 rfl g82 dX9_parted_82 ?_
      refine sv_aload_n 0 C dX9_parted_83 rfl rfl ?_
      refine md_geti C fl_X9_251 (by decide) dX9_parted_84 ?_
      refine sv_iconst (v := 1) C dX9_parted_87 (by decide) ?_
      refine sv_isub C dX9_parted_88 ?_
      refine sv_icmp_eq (tgt := 114) C dX9_parted_89 (by decide) (fun c89 => ?_) (fun c89 => ?_)
      · replace hf := sv_if_t c89 hf
        refine sv_sub (lv' := [(0, .ref h0)]) [0] rfl ?_
        exact w_X9_parted_114 C hZ hR hN _ hf
      · replace hf := sv_if_f c89 hf
        refine sv_sub (lv' := [(0, .ref h0)]) [0] rfl ?_
        exact w_X9_parted_92 C hZ hR hN _ hf
  · replace hf := sv_if_t c5 hf
    refine sv_aload_n 0 C dX9_parted_8 rfl rfl ?_
    refine md_getr C fl_X9_23 (by decide) dX9_parted_9 ?_
    refine sv_bipush (v := 7) C dX9_parted_12 (by decide) ?_
    refine sv_dup2 C dX9_parted_14 rfl rfl ?_
    refine md_iald C 3 rfl (by decide) dX9_parted_15 ?_
    refine sv_aload_n 0 C dX9_parted_16 rfl rfl ?_
    refine md_getr C fl_X9_41 (by decide) dX9_parted_17 ?_
    refine sv_aload_n 0 C dX9_parted_20 rfl rfl ?_
    refine md_geti C fl_X9_254 (by decide) dX9_parted_21 ?_
    obtain ⟨g24, hf⟩ := sv_g_some hf
    refine md_iald C 9 rfl g24 dX9_parted_24 ?_
    refine sv_if_le (tgt := 32) C dX9_parted_25 (by decide) (fun c25 => ?_) (fun c25 => ?_)
    · replace hf := sv_if_t c25 hf
      refine sv_iconst (v := 0) C dX9_parted_32 (by decide) ?_
      refine sv_sub (lv' := [(0, .ref h0)]) [0] rfl ?_
      exact w_X9_parted_33 C hZ hR hN _ _ _ _ hf
    · replace hf := sv_if_f c25 hf
      refine sv_iconst (v := 1) C dX9_parted_28 (by decide) ?_
      refine sv_goto (tgt := 33) C dX9_parted_29 (by decide) ?_
      refine sv_sub (lv' := [(0, .ref h0)]) [0] rfl ?_
      exact w_X9_parted_33 C hZ hR hN _ _ _ _ hf
def f_X9_taken (B : md_B) (x1 : Int32) : Option (md_B) :=
  if x1 = 0 then
    (f_X9_keep B 0 9).bind (fun q32 =>
      some q32)
  else if x1 = 1 then
    (f_X9_keep B 0 2).bind (fun q41 =>
      (f_X9_keep q41 10 14).bind (fun q49 =>
        (f_X9_keep q49 17 17).bind (fun q57 =>
          some q57)))
  else if x1 = 2 then
    (f_X9_keep B 11 12).bind (fun q68 =>
      (f_X9_keep q68 15 17).bind (fun q76 =>
        some q76))
  else 
    (f_X9_parted B).bind (fun q83 =>
      some q83)
set_option maxHeartbeats 4000000 in
set_option maxRecDepth 100000 in
theorem m_X9_taken (l : Launch) (E : sv_E) (h0 : Nat) (ad : Nat → Nat) (sz : Nat) (B : md_B) (x1 : Int32) (q : md_B) (hf : f_X9_taken B x1 = some q) : sv_Met l E yX9_taken cX9_taken 2 none 7 161 [] [.ref h0, .int x1] (md_w E h0 ad B) sz none (md_w E h0 ad q) sz 0 0 := by
  refine sv_ofJ (by decide) (Nat.le_of_ble_eq_true rfl) ?_
  intro X hX hN hnm hR C hZ
  replace C : sv_C E X cX9_taken RX9 [] := C
  show sv_J E X (md_w E h0 ad B) sz 0 0 0 [(0, .ref h0), (1, .int x1)] []
  rw [f_X9_taken] at hf
  refine sv_iload_n 1 C dX9_taken_0 rfl rfl ?_
  by_cases c1_0 : x1 = 0
  · replace hf := sv_if_t c1_0 hf
    refine sv_tswI (v := 0) (tgt := 28) C dX9_taken_1 c1_0 (by decide) (by decide) rfl (by decide) ?_
    refine sv_aload_n 0 C dX9_taken_28 rfl rfl ?_
    refine sv_iconst (v := 0) C dX9_taken_29 (by decide) ?_
    refine sv_bipush (v := 9) C dX9_taken_30 (by decide) ?_
    obtain ⟨q32, hc32, hf⟩ := sv_bind_some hf
    refine sv_callV0 C mv_X9_270 (m_X9_keep (sv_l X) E h0 ad sz _ _ _ _ hc32) sv_sx0 0 rfl rfl rfl rfl (Nat.le_of_ble_eq_true rfl) ⟨by rw [hR]; decide, by rw [hR]; decide⟩ ⟨by rw [hR]; decide, by rw [hR]; decide⟩ dX9_taken_32 ?_
    refine sv_goto (tgt := 86) C dX9_taken_35 (by decide) ?_
    exact sv_vret C (by cases hf; exact hZ) dX9_taken_86
  · replace hf := sv_if_f c1_0 hf
    by_cases c1_1 : x1 = 1
    · replace hf := sv_if_t c1_1 hf
      refine sv_tswI (v := 1) (tgt := 38) C dX9_taken_1 c1_1 (by decide) (by decide) rfl (by decide) ?_
      refine sv_aload_n 0 C dX9_taken_38 rfl rfl ?_
      refine sv_iconst (v := 0) C dX9_taken_39 (by decide) ?_
      refine sv_iconst (v := 2) C dX9_taken_40 (by decide) ?_
      obtain ⟨q41, hc41, hf⟩ := sv_bind_some hf
      refine sv_callV0 C mv_X9_270 (m_X9_keep (sv_l X) E h0 ad sz _ _ _ _ hc41) sv_sx0 0 rfl rfl rfl rfl (Nat.le_of_ble_eq_true rfl) ⟨by rw [hR]; decide, by rw [hR]; decide⟩ ⟨by rw [hR]; decide, by rw [hR]; decide⟩ dX9_taken_41 ?_
      refine sv_aload_n 0 C dX9_taken_44 rfl rfl ?_
      refine sv_bipush (v := 10) C dX9_taken_45 (by decide) ?_
      refine sv_bipush (v := 14) C dX9_taken_47 (by decide) ?_
      obtain ⟨q49, hc49, hf⟩ := sv_bind_some hf
      refine sv_callV0 C mv_X9_270 (m_X9_keep (sv_l X) E h0 ad sz _ _ _ _ hc49) sv_sx0 0 rfl rfl rfl rfl (Nat.le_of_ble_eq_true rfl) ⟨by rw [hR]; decide, by rw [hR]; decide⟩ ⟨by rw [hR]; decide, by rw [hR]; decide⟩ dX9_taken_49 ?_
      refine sv_aload_n 0 C dX9_taken_52 rfl rfl ?_
      refine sv_bipush (v := 17) C dX9_taken_53 (by decide) ?_
      refine sv_bipush (v := 17) C dX9_taken_55 (by decide) ?_
      obtain ⟨q57, hc57, hf⟩ := sv_bind_some hf
      refine sv_callV0 C mv_X9_270 (m_X9_keep (sv_l X) E h0 ad sz _ _ _ _ hc57) sv_sx0 0 rfl rfl rfl rfl (Nat.le_of_ble_eq_true rfl) ⟨by rw [hR]; decide, by rw [hR]; decide⟩ ⟨by rw [hR]; decide, by rw [hR]; decide⟩ dX9_taken_57 ?_
      refine sv_goto (tgt := 86) C dX9_taken_60 (by decide) ?_
      exact sv_vret C (by cases hf; exact hZ) dX9_taken_86
    · replace hf := sv_if_f c1_1 hf
      by_cases c1_2 : x1 = 2
      · replace hf := sv_if_t c1_2 hf
        refine sv_tswI (v := 2) (tgt := 63) C dX9_taken_1 c1_2 (by decide) (by decide) rfl (by decide) ?_
        refine sv_aload_n 0 C dX9_taken_63 rfl rfl ?_
        refine sv_bipush (v := 11) C dX9_taken_64 (by decide) ?_
        refine sv_bipush (v := 12) C dX9_taken_66 (by decide) ?_
        obtain ⟨q68, hc68, hf⟩ := sv_bind_some hf
        refine sv_callV0 C mv_X9_270 (m_X9_keep (sv_l X) E h0 ad sz _ _ _ _ hc68) sv_sx0 0 rfl rfl rfl rfl (Nat.le_of_ble_eq_true rfl) ⟨by rw [hR]; decide, by rw [hR]; decide⟩ ⟨by rw [hR]; decide, by rw [hR]; decide⟩ dX9_taken_68 ?_
        refine sv_aload_n 0 C dX9_taken_71 rfl rfl ?_
        refine sv_bipush (v := 15) C dX9_taken_72 (by decide) ?_
        refine sv_bipush (v := 17) C dX9_taken_74 (by decide) ?_
        obtain ⟨q76, hc76, hf⟩ := sv_bind_some hf
        refine sv_callV0 C mv_X9_270 (m_X9_keep (sv_l X) E h0 ad sz _ _ _ _ hc76) sv_sx0 0 rfl rfl rfl rfl (Nat.le_of_ble_eq_true rfl) ⟨by rw [hR]; decide, by rw [hR]; decide⟩ ⟨by rw [hR]; decide, by rw [hR]; decide⟩ dX9_taken_76 ?_
        refine sv_goto (tgt := 86) C dX9_taken_79 (by decide) ?_
        exact sv_vret C (by cases hf; exact hZ) dX9_taken_86
      · replace hf := sv_if_f c1_2 hf
        have n1_0 : x1.toInt ≠ 0 := fun e => c1_0 (Int32.toInt_inj.mp (e.trans (by decide)))
        have n1_1 : x1.toInt ≠ 1 := fun e => c1_1 (Int32.toInt_inj.mp (e.trans (by decide)))
        have n1_2 : x1.toInt ≠ 2 := fun e => c1_2 (Int32.toInt_inj.mp (e.trans (by decide)))
        refine sv_tswO (tgt := 82) C dX9_taken_1 (by omega) (by decide) ?_
        refine sv_aload_n 0 C dX9_taken_82 rfl rfl ?_
        obtain ⟨q83, hc83, hf⟩ := sv_bind_some hf
        refine sv_callV0 C mv_X9_274 (m_X9_parted (sv_l X) E h0 ad sz _ _ hc83) sv_sx0 0 rfl rfl rfl rfl (Nat.le_of_ble_eq_true rfl) ⟨by rw [hR]; decide, by rw [hR]; decide⟩ ⟨by rw [hR]; decide, by rw [hR]; decide⟩ dX9_taken_83 ?_
        exact sv_vret C (by cases hf; exact hZ) dX9_taken_86
def f_X9_count_28 : Nat → md_B → Int32 → Int32 → Int32 → Option (Int32 × md_B)
  | 0, _, _, _, _ => none
  | n + 1, B, x1, x2, x3 =>
    if 11 ≤ x3 then
      if x1 = 9 then
        some (B.1 28, B)
      else if x1 = 10 then
        some (B.1 2, B)
      else if x1 = 11 then
        some (B.1 4, B)
      else if x1 = 12 then
        if (B.1 5) = 0 then
          some (0, B)
        else
          some (B.1 7, B)
      else if x1 = 13 then
        some (x2, B)
      else 
        some ((-2147483648), B)
    else
      sv_g (sv_inb x3 11) (
        (f_X9_count_28 n) B x1 (x2 + (B.2 22 x3.toNatClampNeg)) (x3 + 1))
def f_X9_count (B : md_B) (x1 : Int32) : Option (Int32 × md_B) :=
  (f_X9_in (md_pf B 0 0) x1.toInt64 0 8).bind (fun q11 =>
    if q11.1 = 0 then
      f_X9_count_28 sv_fu q11.2 x1 0 0
    else
      sv_g (sv_inb x1 9) (
        some (q11.2.2 10 x1.toNatClampNeg, q11.2)))
set_option maxHeartbeats 4000000 in
set_option maxRecDepth 100000 in
theorem w_X9_count_28 {E : sv_E} {X : sv_X} {h0 : Nat} {ad : Nat → Nat} {sz : Nat} {q : Int32 × md_B} (C : sv_C E X cX9_count RX9 []) (hZ : sv_Z E X (some .int) (some (.int q.1)) (md_w E h0 ad q.2) sz 0 0) (hR : sv_R X = { frames := 1, cells := 0, slots := 0, locals := 25 }) (hN : sv_nL X = 4) : ∀ (n : Nat) (B : md_B) (x1 : Int32) (x2 : Int32) (x3 : Int32), f_X9_count_28 n B x1 x2 x3 = some q → sv_J E X (md_w E h0 ad B) sz 0 0 28 [(0, .ref h0), (1, .int x1), (2, .int x2), (3, .int x3)] [] := by
  intro n
  induction n with
  | zero =>
    intro B x1 x2 x3 hf
    rw [f_X9_count_28] at hf
    cases hf
  | succ n ih =>
    intro B x1 x2 x3 hf
    rw [f_X9_count_28] at hf
    refine sv_iload_n 3 C dX9_count_28 rfl rfl ?_
    refine sv_bipush (v := 11) C dX9_count_29 (by decide) ?_
    refine sv_icmp_ge (tgt := 49) C dX9_count_31 (by decide) (fun c31 => ?_) (fun c31 => ?_)
    · replace hf := sv_if_t c31 hf
      refine sv_iload_n 1 C dX9_count_49 rfl rfl ?_
      by_cases c50_9 : x1 = 9
      · replace hf := sv_if_t c50_9 hf
        refine sv_tswI (v := 9) (tgt := 84) C dX9_count_50 c50_9 (by decide) (by decide) rfl (by decide) ?_
        refine sv_aload_n 0 C dX9_count_84 rfl rfl ?_
        refine md_geti C fl_X9_289 (by decide) dX9_count_85 ?_
        exact sv_iret C (by cases hf; exact hZ) dX9_count_88
      · replace hf := sv_if_f c50_9 hf
        by_cases c50_10 : x1 = 10
        · replace hf := sv_if_t c50_10 hf
          refine sv_tswI (v := 10) (tgt := 89) C dX9_count_50 c50_10 (by decide) (by decide) rfl (by decide) ?_
          refine sv_aload_n 0 C dX9_count_89 rfl rfl ?_
          refine md_geti C fl_X9_70 (by decide) dX9_count_90 ?_
          exact sv_iret C (by cases hf; exact hZ) dX9_count_93
        · replace hf := sv_if_f c50_10 hf
          by_cases c50_11 : x1 = 11
          · replace hf := sv_if_t c50_11 hf
            refine sv_tswI (v := 11) (tgt := 94) C dX9_count_50 c50_11 (by decide) (by decide) rfl (by decide) ?_
            refine sv_aload_n 0 C dX9_count_94 rfl rfl ?_
            refine md_geti C fl_X9_338 (by decide) dX9_count_95 ?_
            exact sv_iret C (by cases hf; exact hZ) dX9_count_98
          · replace hf := sv_if_f c50_11 hf
            by_cases c50_12 : x1 = 12
            · replace hf := sv_if_t c50_12 hf
              refine sv_tswI (v := 12) (tgt := 99) C dX9_count_50 c50_12 (by decide) (by decide) rfl (by decide) ?_
              refine sv_aload_n 0 C dX9_count_99 rfl rfl ?_
              refine md_geti C fl_X9_90 (by decide) dX9_count_100 ?_
              refine sv_if_ne (tgt := 110) C dX9_count_103 (by decide) (fun c103 => ?_) (fun c103 => ?_)
              · replace hf := sv_if_f c103 hf
                refine sv_aload_n 0 C dX9_count_110 rfl rfl ?_
                refine md_geti C fl_X9_93 (by decide) dX9_count_111 ?_
                exact sv_iret C (by cases hf; exact hZ) dX9_count_114
              · replace hf := sv_if_t c103 hf
                refine sv_iconst (v := 0) C dX9_count_106 (by decide) ?_
                refine sv_goto (tgt := 114) C dX9_count_107 (by decide) ?_
                exact sv_iret C (by cases hf; exact hZ) dX9_count_114
            · replace hf := sv_if_f c50_12 hf
              by_cases c50_13 : x1 = 13
              · replace hf := sv_if_t c50_13 hf
                refine sv_tswI (v := 13) (tgt := 115) C dX9_count_50 c50_13 (by decide) (by decide) rfl (by decide) ?_
                refine sv_iload_n 2 C dX9_count_115 rfl rfl ?_
                exact sv_iret C (by cases hf; exact hZ) dX9_count_116
              · replace hf := sv_if_f c50_13 hf
                have n50_9 : x1.toInt ≠ 9 := fun e => c50_9 (Int32.toInt_inj.mp (e.trans (by decide)))
                have n50_10 : x1.toInt ≠ 10 := fun e => c50_10 (Int32.toInt_inj.mp (e.trans (by decide)))
                have n50_11 : x1.toInt ≠ 11 := fun e => c50_11 (Int32.toInt_inj.mp (e.trans (by decide)))
                have n50_12 : x1.toInt ≠ 12 := fun e => c50_12 (Int32.toInt_inj.mp (e.trans (by decide)))
                have n50_13 : x1.toInt ≠ 13 := fun e => c50_13 (Int32.toInt_inj.mp (e.trans (by decide)))
                refine sv_tswO (tgt := 117) C dX9_count_50 (by omega) (by decide) ?_
                refine sv_ldc C kw_562 dX9_count_117 ?_
                exact sv_iret C (by cases hf; exact hZ) dX9_count_119
    · replace hf := sv_if_f c31 hf
      refine sv_iload_n 2 C dX9_count_34 rfl rfl ?_
      refine sv_aload_n 0 C dX9_count_35 rfl rfl ?_
      refine md_getr C fl_X9_41 (by decide) dX9_count_36 ?_
      refine sv_iload_n 3 C dX9_count_39 rfl rfl ?_
      obtain ⟨g40, hf⟩ := sv_g_some hf
      refine md_iald C 9 rfl g40 dX9_count_40 ?_
      refine sv_iadd C dX9_count_41 ?_
      refine sv_istore_n (lv' := [(2, .int (x2 + (B.2 22 x3.toNatClampNeg))), (0, .ref h0), (1, .int x1), (3, .int x3)]) C dX9_count_42 rfl (by rw [hN]; decide) rfl ?_
      refine sv_iinc (v := x3 + 1) (lv' := [(3, .int (x3 + 1)), (2, .int (x2 + (B.2 22 x3.toNatClampNeg))), (0, .ref h0), (1, .int x1)]) 3 C dX9_count_43 rfl rfl (by rw [hN]; decide) rfl ?_
      refine sv_goto (tgt := 28) C dX9_count_46 (by decide) ?_
      refine sv_sub (lv' := [(0, .ref h0), (1, .int x1), (2, .int (x2 + (B.2 22 x3.toNatClampNeg))), (3, .int (x3 + 1))]) [2, 3, 1, 0] rfl ?_
      exact ih _ _ _ _ hf
set_option maxHeartbeats 4000000 in
set_option maxRecDepth 100000 in
theorem m_X9_count (l : Launch) (E : sv_E) (h0 : Nat) (ad : Nat → Nat) (sz : Nat) (B : md_B) (x1 : Int32) (q : Int32 × md_B) (hf : f_X9_count B x1 = some q) : sv_Met l E yX9_count cX9_count 4 (some .int) 1 25 [] [.ref h0, .int x1] (md_w E h0 ad B) sz (some (.int q.1)) (md_w E h0 ad q.2) sz 0 0 := by
  refine sv_ofJ (by decide) (Nat.le_of_ble_eq_true rfl) ?_
  intro X hX hN hnm hR C hZ
  replace C : sv_C E X cX9_count RX9 [] := C
  show sv_J E X (md_w E h0 ad B) sz 0 0 0 [(0, .ref h0), (1, .int x1)] []
  rw [f_X9_count] at hf
  refine sv_aload_n 0 C dX9_count_0 rfl rfl ?_
  refine sv_iconst (v := 0) C dX9_count_1 (by decide) ?_
  refine md_puti C fl_X9_1 (by decide) rfl rfl dX9_count_2 ?_
  refine sv_iload_n 1 C dX9_count_5 rfl rfl ?_
  refine sv_i2l C dX9_count_6 ?_
  refine sv_lconst (v := 0) C dX9_count_7 (by decide) ?_
  refine sv_ldc2 C kw_789 dX9_count_8 ?_
  obtain ⟨q11, hc11, hf⟩ := sv_bind_some hf
  refine sv_callS0 C ms_X9_74 (m_X9_in (sv_l X) E h0 ad sz _ _ _ _ _ hc11) sv_sx0 rfl rfl (Nat.le_of_ble_eq_true rfl) ⟨by rw [hR]; decide, by rw [hR]; decide⟩ ⟨by rw [hR]; decide, by rw [hR]; decide⟩ dX9_count_11 ?_
  refine sv_if_eq (tgt := 24) C dX9_count_14 (by decide) (fun c14 => ?_) (fun c14 => ?_)
  · replace hf := sv_if_t c14 hf
    refine sv_iconst (v := 0) C dX9_count_24 (by decide) ?_
    refine sv_istore_n (lv' := [(2, .int 0), (0, .ref h0), (1, .int x1)]) C dX9_count_25 rfl (by rw [hN]; decide) rfl ?_
    refine sv_iconst (v := 0) C dX9_count_26 (by decide) ?_
    refine sv_istore_n (lv' := [(3, .int 0), (2, .int 0), (0, .ref h0), (1, .int x1)]) C dX9_count_27 rfl (by rw [hN]; decide) rfl ?_
    refine sv_sub (lv' := [(0, .ref h0), (1, .int x1), (2, .int 0), (3, .int 0)]) [2, 3, 1, 0] rfl ?_
    exact w_X9_count_28 C hZ hR hN sv_fu _ _ _ _ hf
  · replace hf := sv_if_f c14 hf
    refine sv_aload_n 0 C dX9_count_17 rfl rfl ?_
    refine md_getr C fl_X9_23 (by decide) dX9_count_18 ?_
    refine sv_iload_n 1 C dX9_count_21 rfl rfl ?_
    obtain ⟨g22, hf⟩ := sv_g_some hf
    refine md_iald C 3 rfl g22 dX9_count_22 ?_
    exact sv_iret C (by cases hf; exact hZ) dX9_count_23
def f_X9_fix (B : md_B) (x1 : Int32) : Option (Int32 × md_B) :=
  (f_X9_in (md_pf B 0 0) x1.toInt64 0 17).bind (fun q11 =>
    if q11.1 = 0 then
      (f_X9_refuse q11.2 1).bind (fun q28 =>
        some (q28.1, q28.2))
    else
      sv_g (sv_inb x1 18) (
        some (q11.2.2 16 x1.toNatClampNeg, q11.2)))
set_option maxHeartbeats 4000000 in
set_option maxRecDepth 100000 in
theorem m_X9_fix (l : Launch) (E : sv_E) (h0 : Nat) (ad : Nat → Nat) (sz : Nat) (B : md_B) (x1 : Int32) (q : Int32 × md_B) (hf : f_X9_fix B x1 = some q) : sv_Met l E yX9_fix cX9_fix 2 (some .int) 1 25 [] [.ref h0, .int x1] (md_w E h0 ad B) sz (some (.int q.1)) (md_w E h0 ad q.2) sz 0 0 := by
  refine sv_ofJ (by decide) (Nat.le_of_ble_eq_true rfl) ?_
  intro X hX hN hnm hR C hZ
  replace C : sv_C E X cX9_fix RX9 [] := C
  show sv_J E X (md_w E h0 ad B) sz 0 0 0 [(0, .ref h0), (1, .int x1)] []
  rw [f_X9_fix] at hf
  refine sv_aload_n 0 C dX9_fix_0 rfl rfl ?_
  refine sv_iconst (v := 0) C dX9_fix_1 (by decide) ?_
  refine md_puti C fl_X9_1 (by decide) rfl rfl dX9_fix_2 ?_
  refine sv_iload_n 1 C dX9_fix_5 rfl rfl ?_
  refine sv_i2l C dX9_fix_6 ?_
  refine sv_lconst (v := 0) C dX9_fix_7 (by decide) ?_
  refine sv_ldc2 C kw_791 dX9_fix_8 ?_
  obtain ⟨q11, hc11, hf⟩ := sv_bind_some hf
  refine sv_callS0 C ms_X9_74 (m_X9_in (sv_l X) E h0 ad sz _ _ _ _ _ hc11) sv_sx0 rfl rfl (Nat.le_of_ble_eq_true rfl) ⟨by rw [hR]; decide, by rw [hR]; decide⟩ ⟨by rw [hR]; decide, by rw [hR]; decide⟩ dX9_fix_11 ?_
  refine sv_if_eq (tgt := 26) C dX9_fix_14 (by decide) (fun c14 => ?_) (fun c14 => ?_)
  · replace hf := sv_if_t c14 hf
    refine sv_aload_n 0 C dX9_fix_26 rfl rfl ?_
    refine sv_iconst (v := 1) C dX9_fix_27 (by decide) ?_
    obtain ⟨q28, hc28, hf⟩ := sv_bind_some hf
    refine sv_callV0 C mv_X9_343 (m_X9_refuse (sv_l X) E h0 ad sz _ _ _ hc28) sv_sx0 0 rfl rfl rfl rfl (Nat.le_of_ble_eq_true rfl) ⟨by rw [hR]; decide, by rw [hR]; decide⟩ ⟨by rw [hR]; decide, by rw [hR]; decide⟩ dX9_fix_28 ?_
    exact sv_iret C (by cases hf; exact hZ) dX9_fix_31
  · replace hf := sv_if_f c14 hf
    refine sv_aload_n 0 C dX9_fix_17 rfl rfl ?_
    refine md_getr C fl_X9_35 (by decide) dX9_fix_18 ?_
    refine sv_iload_n 1 C dX9_fix_21 rfl rfl ?_
    obtain ⟨g22, hf⟩ := sv_g_some hf
    refine md_iald C 7 rfl g22 dX9_fix_22 ?_
    refine sv_goto (tgt := 31) C dX9_fix_23 (by decide) ?_
    exact sv_iret C (by cases hf; exact hZ) dX9_fix_31
def f_X9_find (B : md_B) (x1 : Int32) : Option (Int32 × md_B) :=
  (f_X9_found (md_pf B 0 0) x1).bind (fun q7 =>
    some (q7.1, q7.2))
set_option maxHeartbeats 4000000 in
set_option maxRecDepth 100000 in
theorem m_X9_find (l : Launch) (E : sv_E) (h0 : Nat) (ad : Nat → Nat) (sz : Nat) (B : md_B) (x1 : Int32) (q : Int32 × md_B) (hf : f_X9_find B x1 = some q) : sv_Met l E yX9_find cX9_find 2 (some .int) 1 22 [] [.ref h0, .int x1] (md_w E h0 ad B) sz (some (.int q.1)) (md_w E h0 ad q.2) sz 0 0 := by
  refine sv_ofJ (by decide) (Nat.le_of_ble_eq_true rfl) ?_
  intro X hX hN hnm hR C hZ
  replace C : sv_C E X cX9_find RX9 [] := C
  show sv_J E X (md_w E h0 ad B) sz 0 0 0 [(0, .ref h0), (1, .int x1)] []
  rw [f_X9_find] at hf
  refine sv_aload_n 0 C dX9_find_0 rfl rfl ?_
  refine sv_iconst (v := 0) C dX9_find_1 (by decide) ?_
  refine md_puti C fl_X9_1 (by decide) rfl rfl dX9_find_2 ?_
  refine sv_aload_n 0 C dX9_find_5 rfl rfl ?_
  refine sv_iload_n 1 C dX9_find_6 rfl rfl ?_
  obtain ⟨q7, hc7, hf⟩ := sv_bind_some hf
  refine sv_callV0 C mv_X9_294 (m_X9_found (sv_l X) E h0 ad sz _ _ _ hc7) sv_sx0 0 rfl rfl rfl rfl (Nat.le_of_ble_eq_true rfl) ⟨by rw [hR]; decide, by rw [hR]; decide⟩ ⟨by rw [hR]; decide, by rw [hR]; decide⟩ dX9_find_7 ?_
  exact sv_iret C (by cases hf; exact hZ) dX9_find_10
def f_X9_vessel_47 (B : md_B) : Option (Int32 × md_B) :=
  (f_X9_refuse B 1).bind (fun q49 =>
    some (q49.1, q49.2))
def f_X9_vessel_53 (B : md_B) (x1 : Int32) (x2 : Int32) : Option (Int32 × md_B) :=
  if 24 ≤ x2 then
    sv_g (sv_inb (((3 * x1) + x2) - 30) 120) (
      some (B.2 31 (((3 * x1) + x2) - 30).toNatClampNeg, B))
  else
    sv_g (sv_inb ((24 * x1) + x2) 960) (
      some (B.2 29 ((24 * x1) + x2).toNatClampNeg, B))
def f_X9_vessel (B : md_B) (x1 : Int32) (x2 : Int32) : Option (Int32 × md_B) :=
  (f_X9_in (md_pf B 0 0) x1.toInt64 0 ((((md_pf B 0 0).1 28) - 1).toInt64)).bind (fun q15 =>
    if q15.1 = 0 then
      f_X9_vessel_47 q15.2
    else
      (f_X9_in q15.2 x2.toInt64 0 23).bind (fun q27 =>
        if q27.1 = 0 then
          (f_X9_in q27.2 x2.toInt64 30 32).bind (fun q41 =>
            if q41.1 = 0 then
              f_X9_vessel_47 q41.2
            else
              f_X9_vessel_53 q41.2 x1 x2)
        else
          f_X9_vessel_53 q27.2 x1 x2))
set_option maxHeartbeats 4000000 in
set_option maxRecDepth 100000 in
theorem w_X9_vessel_47 {E : sv_E} {X : sv_X} {h0 : Nat} {ad : Nat → Nat} {sz : Nat} {q : Int32 × md_B} (C : sv_C E X cX9_vessel RX9 []) (hZ : sv_Z E X (some .int) (some (.int q.1)) (md_w E h0 ad q.2) sz 0 0) (hR : sv_R X = { frames := 1, cells := 0, slots := 0, locals := 25 }) (hN : sv_nL X = 3) (B : md_B) (hf : f_X9_vessel_47 B = some q) : sv_J E X (md_w E h0 ad B) sz 0 0 47 [(0, .ref h0)] [] := by
  rw [f_X9_vessel_47] at hf
  refine sv_aload_n 0 C dX9_vessel_47 rfl rfl ?_
  refine sv_iconst (v := 1) C dX9_vessel_48 (by decide) ?_
  obtain ⟨q49, hc49, hf⟩ := sv_bind_some hf
  refine sv_callV0 C mv_X9_343 (m_X9_refuse (sv_l X) E h0 ad sz _ _ _ hc49) sv_sx0 0 rfl rfl rfl rfl (Nat.le_of_ble_eq_true rfl) ⟨by rw [hR]; decide, by rw [hR]; decide⟩ ⟨by rw [hR]; decide, by rw [hR]; decide⟩ dX9_vessel_49 ?_
  exact sv_iret C (by cases hf; exact hZ) dX9_vessel_52
set_option maxHeartbeats 4000000 in
set_option maxRecDepth 100000 in
theorem w_X9_vessel_53 {E : sv_E} {X : sv_X} {h0 : Nat} {ad : Nat → Nat} {sz : Nat} {q : Int32 × md_B} (C : sv_C E X cX9_vessel RX9 []) (hZ : sv_Z E X (some .int) (some (.int q.1)) (md_w E h0 ad q.2) sz 0 0) (hR : sv_R X = { frames := 1, cells := 0, slots := 0, locals := 25 }) (hN : sv_nL X = 3) (B : md_B) (x1 : Int32) (x2 : Int32) (hf : f_X9_vessel_53 B x1 x2 = some q) : sv_J E X (md_w E h0 ad B) sz 0 0 53 [(0, .ref h0), (1, .int x1), (2, .int x2)] [] := by
  rw [f_X9_vessel_53] at hf
  refine sv_iload_n 2 C dX9_vessel_53 rfl rfl ?_
  refine sv_bipush (v := 24) C dX9_vessel_54 (by decide) ?_
  refine sv_icmp_ge (tgt := 73) C dX9_vessel_56 (by decide) (fun c56 => ?_) (fun c56 => ?_)
  · replace hf := sv_if_t c56 hf
    refine sv_aload_n 0 C dX9_vessel_73 rfl rfl ?_
    refine md_getr C fl_X9_61 (by decide) dX9_vessel_74 ?_
    refine sv_iconst (v := 3) C dX9_vessel_77 (by decide) ?_
    refine sv_iload_n 1 C dX9_vessel_78 rfl rfl ?_
    refine sv_imul C dX9_vessel_79 ?_
    refine sv_iload_n 2 C dX9_vessel_80 rfl rfl ?_
    refine sv_iadd C dX9_vessel_81 ?_
    refine sv_bipush (v := 30) C dX9_vessel_82 (by decide) ?_
    refine sv_isub C dX9_vessel_84 ?_
    obtain ⟨g85, hf⟩ := sv_g_some hf
    refine md_iald C 15 rfl g85 dX9_vessel_85 ?_
    exact sv_iret C (by cases hf; exact hZ) dX9_vessel_86
  · replace hf := sv_if_f c56 hf
    refine sv_aload_n 0 C dX9_vessel_59 rfl rfl ?_
    refine md_getr C fl_X9_55 (by decide) dX9_vessel_60 ?_
    refine sv_bipush (v := 24) C dX9_vessel_63 (by decide) ?_
    refine sv_iload_n 1 C dX9_vessel_65 rfl rfl ?_
    refine sv_imul C dX9_vessel_66 ?_
    refine sv_iload_n 2 C dX9_vessel_67 rfl rfl ?_
    refine sv_iadd C dX9_vessel_68 ?_
    obtain ⟨g69, hf⟩ := sv_g_some hf
    refine md_iald C 13 rfl g69 dX9_vessel_69 ?_
    refine sv_goto (tgt := 86) C dX9_vessel_70 (by decide) ?_
    exact sv_iret C (by cases hf; exact hZ) dX9_vessel_86
set_option maxHeartbeats 4000000 in
set_option maxRecDepth 100000 in
theorem m_X9_vessel (l : Launch) (E : sv_E) (h0 : Nat) (ad : Nat → Nat) (sz : Nat) (B : md_B) (x1 : Int32) (x2 : Int32) (q : Int32 × md_B) (hf : f_X9_vessel B x1 x2 = some q) : sv_Met l E yX9_vessel cX9_vessel 3 (some .int) 1 25 [] [.ref h0, .int x1, .int x2] (md_w E h0 ad B) sz (some (.int q.1)) (md_w E h0 ad q.2) sz 0 0 := by
  refine sv_ofJ (by decide) (Nat.le_of_ble_eq_true rfl) ?_
  intro X hX hN hnm hR C hZ
  replace C : sv_C E X cX9_vessel RX9 [] := C
  show sv_J E X (md_w E h0 ad B) sz 0 0 0 [(0, .ref h0), (1, .int x1), (2, .int x2)] []
  rw [f_X9_vessel] at hf
  refine sv_aload_n 0 C dX9_vessel_0 rfl rfl ?_
  refine sv_iconst (v := 0) C dX9_vessel_1 (by decide) ?_
  refine md_puti C fl_X9_1 (by decide) rfl rfl dX9_vessel_2 ?_
  refine sv_iload_n 1 C dX9_vessel_5 rfl rfl ?_
  refine sv_i2l C dX9_vessel_6 ?_
  refine sv_lconst (v := 0) C dX9_vessel_7 (by decide) ?_
  refine sv_aload_n 0 C dX9_vessel_8 rfl rfl ?_
  refine md_geti C fl_X9_289 (by decide) dX9_vessel_9 ?_
  refine sv_iconst (v := 1) C dX9_vessel_12 (by decide) ?_
  refine sv_isub C dX9_vessel_13 ?_
  refine sv_i2l C dX9_vessel_14 ?_
  obtain ⟨q15, hc15, hf⟩ := sv_bind_some hf
  refine sv_callS0 C ms_X9_74 (m_X9_in (sv_l X) E h0 ad sz _ _ _ _ _ hc15) sv_sx0 rfl rfl (Nat.le_of_ble_eq_true rfl) ⟨by rw [hR]; decide, by rw [hR]; decide⟩ ⟨by rw [hR]; decide, by rw [hR]; decide⟩ dX9_vessel_15 ?_
  refine sv_if_eq (tgt := 47) C dX9_vessel_18 (by decide) (fun c18 => ?_) (fun c18 => ?_)
  · replace hf := sv_if_t c18 hf
    refine sv_sub (lv' := [(0, .ref h0)]) [0] rfl ?_
    exact w_X9_vessel_47 C hZ hR hN _ hf
  · replace hf := sv_if_f c18 hf
    refine sv_iload_n 2 C dX9_vessel_21 rfl rfl ?_
    refine sv_i2l C dX9_vessel_22 ?_
    refine sv_lconst (v := 0) C dX9_vessel_23 (by decide) ?_
    refine sv_ldc2 C kw_796 dX9_vessel_24 ?_
    obtain ⟨q27, hc27, hf⟩ := sv_bind_some hf
    refine sv_callS0 C ms_X9_74 (m_X9_in (sv_l X) E h0 ad sz _ _ _ _ _ hc27) sv_sx0 rfl rfl (Nat.le_of_ble_eq_true rfl) ⟨by rw [hR]; decide, by rw [hR]; decide⟩ ⟨by rw [hR]; decide, by rw [hR]; decide⟩ dX9_vessel_27 ?_
    refine sv_if_ne (tgt := 53) C dX9_vessel_30 (by decide) (fun c30 => ?_) (fun c30 => ?_)
    · replace hf := sv_if_f c30 hf
      refine sv_sub (lv' := [(0, .ref h0), (1, .int x1), (2, .int x2)]) [0, 1, 2] rfl ?_
      exact w_X9_vessel_53 C hZ hR hN _ _ _ hf
    · replace hf := sv_if_t c30 hf
      refine sv_iload_n 2 C dX9_vessel_33 rfl rfl ?_
      refine sv_i2l C dX9_vessel_34 ?_
      refine sv_ldc2 C kw_797 dX9_vessel_35 ?_
      refine sv_ldc2 C kw_776 dX9_vessel_38 ?_
      obtain ⟨q41, hc41, hf⟩ := sv_bind_some hf
      refine sv_callS0 C ms_X9_74 (m_X9_in (sv_l X) E h0 ad sz _ _ _ _ _ hc41) sv_sx0 rfl rfl (Nat.le_of_ble_eq_true rfl) ⟨by rw [hR]; decide, by rw [hR]; decide⟩ ⟨by rw [hR]; decide, by rw [hR]; decide⟩ dX9_vessel_41 ?_
      refine sv_if_ne (tgt := 53) C dX9_vessel_44 (by decide) (fun c44 => ?_) (fun c44 => ?_)
      · replace hf := sv_if_f c44 hf
        refine sv_sub (lv' := [(0, .ref h0), (1, .int x1), (2, .int x2)]) [0, 1, 2] rfl ?_
        exact w_X9_vessel_53 C hZ hR hN _ _ _ hf
      · replace hf := sv_if_t c44 hf
        refine sv_sub (lv' := [(0, .ref h0)]) [0] rfl ?_
        exact w_X9_vessel_47 C hZ hR hN _ hf
def f_X9_letter (B : md_B) (x1 : Int32) (x2 : Int32) (x3 : Int32) : Option (Int32 × md_B) :=
  (f_X9_in (md_pf B 0 0) x1.toInt64 0 ((((md_pf B 0 0).1 28) - 1).toInt64)).bind (fun q15 =>
    if q15.1 = 0 then
      some ((-2147483648), q15.2)
    else
      (f_X9_in q15.2 x2.toInt64 0 2).bind (fun q27 =>
        if q27.1 = 0 then
          some ((-2147483648), q27.2)
        else
          sv_g (sv_inb ((3 * x1) + x2) 120) (
            (f_X9_in q27.2 x3.toInt64 0 (((q27.2.2 31 ((3 * x1) + x2).toNatClampNeg) - 1).toInt64)).bind (fun q49 =>
              if q49.1 = 0 then
                some ((-2147483648), q49.2)
              else
                sv_g (sv_inb (((60 * x1) + (20 * x2)) + x3) 2400) (
                  some (q49.2.2 30 (((60 * x1) + (20 * x2)) + x3).toNatClampNeg, q49.2))))))
set_option maxHeartbeats 4000000 in
set_option maxRecDepth 100000 in
theorem m_X9_letter (l : Launch) (E : sv_E) (h0 : Nat) (ad : Nat → Nat) (sz : Nat) (B : md_B) (x1 : Int32) (x2 : Int32) (x3 : Int32) (q : Int32 × md_B) (hf : f_X9_letter B x1 x2 x3 = some q) : sv_Met l E yX9_letter cX9_letter 4 (some .int) 1 25 [] [.ref h0, .int x1, .int x2, .int x3] (md_w E h0 ad B) sz (some (.int q.1)) (md_w E h0 ad q.2) sz 0 0 := by
  refine sv_ofJ (by decide) (Nat.le_of_ble_eq_true rfl) ?_
  intro X hX hN hnm hR C hZ
  replace C : sv_C E X cX9_letter RX9 [] := C
  show sv_J E X (md_w E h0 ad B) sz 0 0 0 [(0, .ref h0), (1, .int x1), (2, .int x2), (3, .int x3)] []
  rw [f_X9_letter] at hf
  refine sv_aload_n 0 C dX9_letter_0 rfl rfl ?_
  refine sv_iconst (v := 0) C dX9_letter_1 (by decide) ?_
  refine md_puti C fl_X9_1 (by decide) rfl rfl dX9_letter_2 ?_
  refine sv_iload_n 1 C dX9_letter_5 rfl rfl ?_
  refine sv_i2l C dX9_letter_6 ?_
  refine sv_lconst (v := 0) C dX9_letter_7 (by decide) ?_
  refine sv_aload_n 0 C dX9_letter_8 rfl rfl ?_
  refine md_geti C fl_X9_289 (by decide) dX9_letter_9 ?_
  refine sv_iconst (v := 1) C dX9_letter_12 (by decide) ?_
  refine sv_isub C dX9_letter_13 ?_
  refine sv_i2l C dX9_letter_14 ?_
  obtain ⟨q15, hc15, hf⟩ := sv_bind_some hf
  refine sv_callS0 C ms_X9_74 (m_X9_in (sv_l X) E h0 ad sz _ _ _ _ _ hc15) sv_sx0 rfl rfl (Nat.le_of_ble_eq_true rfl) ⟨by rw [hR]; decide, by rw [hR]; decide⟩ ⟨by rw [hR]; decide, by rw [hR]; decide⟩ dX9_letter_15 ?_
  refine sv_if_eq (tgt := 55) C dX9_letter_18 (by decide) (fun c18 => ?_) (fun c18 => ?_)
  · replace hf := sv_if_t c18 hf
    refine sv_ldc C kw_562 dX9_letter_55 ?_
    exact sv_iret C (by cases hf; exact hZ) dX9_letter_57
  · replace hf := sv_if_f c18 hf
    refine sv_iload_n 2 C dX9_letter_21 rfl rfl ?_
    refine sv_i2l C dX9_letter_22 ?_
    refine sv_lconst (v := 0) C dX9_letter_23 (by decide) ?_
    refine sv_ldc2 C kw_798 dX9_letter_24 ?_
    obtain ⟨q27, hc27, hf⟩ := sv_bind_some hf
    refine sv_callS0 C ms_X9_74 (m_X9_in (sv_l X) E h0 ad sz _ _ _ _ _ hc27) sv_sx0 rfl rfl (Nat.le_of_ble_eq_true rfl) ⟨by rw [hR]; decide, by rw [hR]; decide⟩ ⟨by rw [hR]; decide, by rw [hR]; decide⟩ dX9_letter_27 ?_
    refine sv_if_eq (tgt := 55) C dX9_letter_30 (by decide) (fun c30 => ?_) (fun c30 => ?_)
    · replace hf := sv_if_t c30 hf
      refine sv_ldc C kw_562 dX9_letter_55 ?_
      exact sv_iret C (by cases hf; exact hZ) dX9_letter_57
    · replace hf := sv_if_f c30 hf
      refine sv_iload_n 3 C dX9_letter_33 rfl rfl ?_
      refine sv_i2l C dX9_letter_34 ?_
      refine sv_lconst (v := 0) C dX9_letter_35 (by decide) ?_
      refine sv_aload_n 0 C dX9_letter_36 rfl rfl ?_
      refine md_getr C fl_X9_61 (by decide) dX9_letter_37 ?_
      refine sv_iconst (v := 3) C dX9_letter_40 (by decide) ?_
      refine sv_iload_n 1 C dX9_letter_41 rfl rfl ?_
      refine sv_imul C dX9_letter_42 ?_
      refine sv_iload_n 2 C dX9_letter_43 rfl rfl ?_
      refine sv_iadd C dX9_letter_44 ?_
      obtain ⟨g45, hf⟩ := sv_g_some hf
      refine md_iald C 15 rfl g45 dX9_letter_45 ?_
      refine sv_iconst (v := 1) C dX9_letter_46 (by decide) ?_
      refine sv_isub C dX9_letter_47 ?_
      refine sv_i2l C dX9_letter_48 ?_
      obtain ⟨q49, hc49, hf⟩ := sv_bind_some hf
      refine sv_callS0 C ms_X9_74 (m_X9_in (sv_l X) E h0 ad sz _ _ _ _ _ hc49) sv_sx0 rfl rfl (Nat.le_of_ble_eq_true rfl) ⟨by rw [hR]; decide, by rw [hR]; decide⟩ ⟨by rw [hR]; decide, by rw [hR]; decide⟩ dX9_letter_49 ?_
      refine sv_if_ne (tgt := 58) C dX9_letter_52 (by decide) (fun c52 => ?_) (fun c52 => ?_)
      · replace hf := sv_if_f c52 hf
        refine sv_aload_n 0 C dX9_letter_58 rfl rfl ?_
        refine md_getr C fl_X9_58 (by decide) dX9_letter_59 ?_
        refine sv_bipush (v := 60) C dX9_letter_62 (by decide) ?_
        refine sv_iload_n 1 C dX9_letter_64 rfl rfl ?_
        refine sv_imul C dX9_letter_65 ?_
        refine sv_bipush (v := 20) C dX9_letter_66 (by decide) ?_
        refine sv_iload_n 2 C dX9_letter_68 rfl rfl ?_
        refine sv_imul C dX9_letter_69 ?_
        refine sv_iadd C dX9_letter_70 ?_
        refine sv_iload_n 3 C dX9_letter_71 rfl rfl ?_
        refine sv_iadd C dX9_letter_72 ?_
        obtain ⟨g73, hf⟩ := sv_g_some hf
        refine md_iald C 14 rfl g73 dX9_letter_73 ?_
        exact sv_iret C (by cases hf; exact hZ) dX9_letter_74
      · replace hf := sv_if_t c52 hf
        refine sv_ldc C kw_562 dX9_letter_55 ?_
        exact sv_iret C (by cases hf; exact hZ) dX9_letter_57
def f_X9_bits_42 (B : md_B) : Option (Int32 × md_B) :=
  (f_X9_refuse B 1).bind (fun q44 =>
    some (q44.1, q44.2))
def f_X9_bits (B : md_B) (x1 : Int32) (x2 : Int32) : Option (Int32 × md_B) :=
  if ((md_pf B 0 0).1 27) = 0 then
    f_X9_bits_42 (md_pf B 0 0)
  else
    (f_X9_in (md_pf B 0 0) x2.toInt64 1 32).bind (fun q18 =>
      if q18.1 = 0 then
        f_X9_bits_42 q18.2
      else
        if x1 < 0 then
          f_X9_bits_42 q18.2
        else
          if (lg_cmp (x1.toInt64 + x2.toInt64) ((q18.2.1 26).toInt64)) ≤ 0 then
            (f_X9_read q18.2 x1 x2).bind (fun q51 =>
              some (q51.1, q51.2))
          else
            f_X9_bits_42 q18.2)
set_option maxHeartbeats 4000000 in
set_option maxRecDepth 100000 in
theorem w_X9_bits_42 {E : sv_E} {X : sv_X} {h0 : Nat} {ad : Nat → Nat} {sz : Nat} {q : Int32 × md_B} (C : sv_C E X cX9_bits RX9 []) (hZ : sv_Z E X (some .int) (some (.int q.1)) (md_w E h0 ad q.2) sz 0 0) (hR : sv_R X = { frames := 1, cells := 0, slots := 0, locals := 25 }) (hN : sv_nL X = 3) (B : md_B) (hf : f_X9_bits_42 B = some q) : sv_J E X (md_w E h0 ad B) sz 0 0 42 [(0, .ref h0)] [] := by
  rw [f_X9_bits_42] at hf
  refine sv_aload_n 0 C dX9_bits_42 rfl rfl ?_
  refine sv_iconst (v := 1) C dX9_bits_43 (by decide) ?_
  obtain ⟨q44, hc44, hf⟩ := sv_bind_some hf
  refine sv_callV0 C mv_X9_343 (m_X9_refuse (sv_l X) E h0 ad sz _ _ _ hc44) sv_sx0 0 rfl rfl rfl rfl (Nat.le_of_ble_eq_true rfl) ⟨by rw [hR]; decide, by rw [hR]; decide⟩ ⟨by rw [hR]; decide, by rw [hR]; decide⟩ dX9_bits_44 ?_
  exact sv_iret C (by cases hf; exact hZ) dX9_bits_47
set_option maxHeartbeats 4000000 in
set_option maxRecDepth 100000 in
theorem m_X9_bits (l : Launch) (E : sv_E) (h0 : Nat) (ad : Nat → Nat) (sz : Nat) (B : md_B) (x1 : Int32) (x2 : Int32) (q : Int32 × md_B) (hf : f_X9_bits B x1 x2 = some q) : sv_Met l E yX9_bits cX9_bits 3 (some .int) 1 25 [] [.ref h0, .int x1, .int x2] (md_w E h0 ad B) sz (some (.int q.1)) (md_w E h0 ad q.2) sz 0 0 := by
  refine sv_ofJ (by decide) (Nat.le_of_ble_eq_true rfl) ?_
  intro X hX hN hnm hR C hZ
  replace C : sv_C E X cX9_bits RX9 [] := C
  show sv_J E X (md_w E h0 ad B) sz 0 0 0 [(0, .ref h0), (1, .int x1), (2, .int x2)] []
  rw [f_X9_bits] at hf
  refine sv_aload_n 0 C dX9_bits_0 rfl rfl ?_
  refine sv_iconst (v := 0) C dX9_bits_1 (by decide) ?_
  refine md_puti C fl_X9_1 (by decide) rfl rfl dX9_bits_2 ?_
  refine sv_aload_n 0 C dX9_bits_5 rfl rfl ?_
  refine md_geti C fl_X9_280 (by decide) dX9_bits_6 ?_
  refine sv_if_eq (tgt := 42) C dX9_bits_9 (by decide) (fun c9 => ?_) (fun c9 => ?_)
  · replace hf := sv_if_t c9 hf
    refine sv_sub (lv' := [(0, .ref h0)]) [0] rfl ?_
    exact w_X9_bits_42 C hZ hR hN _ hf
  · replace hf := sv_if_f c9 hf
    refine sv_iload_n 2 C dX9_bits_12 rfl rfl ?_
    refine sv_i2l C dX9_bits_13 ?_
    refine sv_lconst (v := 1) C dX9_bits_14 (by decide) ?_
    refine sv_ldc2 C kw_776 dX9_bits_15 ?_
    obtain ⟨q18, hc18, hf⟩ := sv_bind_some hf
    refine sv_callS0 C ms_X9_74 (m_X9_in (sv_l X) E h0 ad sz _ _ _ _ _ hc18) sv_sx0 rfl rfl (Nat.le_of_ble_eq_true rfl) ⟨by rw [hR]; decide, by rw [hR]; decide⟩ ⟨by rw [hR]; decide, by rw [hR]; decide⟩ dX9_bits_18 ?_
    refine sv_if_eq (tgt := 42) C dX9_bits_21 (by decide) (fun c21 => ?_) (fun c21 => ?_)
    · replace hf := sv_if_t c21 hf
      refine sv_sub (lv' := [(0, .ref h0)]) [0] rfl ?_
      exact w_X9_bits_42 C hZ hR hN _ hf
    · replace hf := sv_if_f c21 hf
      refine sv_iload_n 1 C dX9_bits_24 rfl rfl ?_
      refine sv_if_lt (tgt := 42) C dX9_bits_25 (by decide) (fun c25 => ?_) (fun c25 => ?_)
      · replace hf := sv_if_t c25 hf
        refine sv_sub (lv' := [(0, .ref h0)]) [0] rfl ?_
        exact w_X9_bits_42 C hZ hR hN _ hf
      · replace hf := sv_if_f c25 hf
        refine sv_iload_n 1 C dX9_bits_28 rfl rfl ?_
        refine sv_i2l C dX9_bits_29 ?_
        refine sv_iload_n 2 C dX9_bits_30 rfl rfl ?_
        refine sv_i2l C dX9_bits_31 ?_
        refine sv_ladd C dX9_bits_32 ?_
        refine sv_aload_n 0 C dX9_bits_33 rfl rfl ?_
        refine md_geti C fl_X9_277 (by decide) dX9_bits_34 ?_
        refine sv_i2l C dX9_bits_37 ?_
        refine sv_lcmp C dX9_bits_38 ?_
        refine sv_if_le (tgt := 48) C dX9_bits_39 (by decide) (fun c39 => ?_) (fun c39 => ?_)
        · replace hf := sv_if_t c39 hf
          refine sv_aload_n 0 C dX9_bits_48 rfl rfl ?_
          refine sv_iload_n 1 C dX9_bits_49 rfl rfl ?_
          refine sv_iload_n 2 C dX9_bits_50 rfl rfl ?_
          obtain ⟨q51, hc51, hf⟩ := sv_bind_some hf
          refine sv_callV0 C mv_X9_286 (m_X9_read (sv_l X) E h0 ad sz _ _ _ _ hc51) sv_sx0 0 rfl rfl rfl rfl (Nat.le_of_ble_eq_true rfl) ⟨by rw [hR]; decide, by rw [hR]; decide⟩ ⟨by rw [hR]; decide, by rw [hR]; decide⟩ dX9_bits_51 ?_
          exact sv_iret C (by cases hf; exact hZ) dX9_bits_54
        · replace hf := sv_if_f c39 hf
          refine sv_sub (lv' := [(0, .ref h0)]) [0] rfl ?_
          exact w_X9_bits_42 C hZ hR hN _ hf
def f_X9_write_37 (B : md_B) (s0 : Int32) : Option (md_B) :=
  some (md_pf B 37 s0)
def f_X9_write (B : md_B) (x1 : Int32) : Option (md_B) :=
  sv_g (sv_inb (B.1 4) 200) (
    if x1 = 33 then
      f_X9_write_37 (md_pf (md_pa B 3 (B.1 4) x1) 4 (((md_pa B 3 (B.1 4) x1).1 4) + 1)) 0
    else
      f_X9_write_37 (md_pf (md_pa B 3 (B.1 4) x1) 4 (((md_pa B 3 (B.1 4) x1).1 4) + 1)) (((md_pf (md_pa B 3 (B.1 4) x1) 4 (((md_pa B 3 (B.1 4) x1).1 4) + 1)).1 37) ^^^ x1))
set_option maxHeartbeats 4000000 in
set_option maxRecDepth 100000 in
theorem w_X9_write_37 {E : sv_E} {X : sv_X} {h0 : Nat} {ad : Nat → Nat} {sz : Nat} {q : md_B} (C : sv_C E X cX9_write RX9 []) (hZ : sv_Z E X none none (md_w E h0 ad q) sz 0 0) (hR : sv_R X = { frames := 0, cells := 0, slots := 0, locals := 0 }) (hN : sv_nL X = 2) (B : md_B) (s0 : Int32) (hf : f_X9_write_37 B s0 = some q) : sv_J E X (md_w E h0 ad B) sz 0 0 37 [] [.int s0, .ref h0] := by
  rw [f_X9_write_37] at hf
  refine md_puti C fl_X9_355 (by decide) rfl rfl dX9_write_37 ?_
  exact sv_vret C (by cases hf; exact hZ) dX9_write_40
set_option maxHeartbeats 4000000 in
set_option maxRecDepth 100000 in
theorem m_X9_write (l : Launch) (E : sv_E) (h0 : Nat) (ad : Nat → Nat) (sz : Nat) (B : md_B) (x1 : Int32) (q : md_B) (hf : f_X9_write B x1 = some q) : sv_Met l E yX9_write cX9_write 2 none 0 0 [] [.ref h0, .int x1] (md_w E h0 ad B) sz none (md_w E h0 ad q) sz 0 0 := by
  refine sv_ofJ (by decide) (Nat.le_of_ble_eq_true rfl) ?_
  intro X hX hN hnm hR C hZ
  replace C : sv_C E X cX9_write RX9 [] := C
  show sv_J E X (md_w E h0 ad B) sz 0 0 0 [(0, .ref h0), (1, .int x1)] []
  rw [f_X9_write] at hf
  refine sv_aload_n 0 C dX9_write_0 rfl rfl ?_
  refine md_getr C fl_X9_17 (by decide) dX9_write_1 ?_
  refine sv_aload_n 0 C dX9_write_4 rfl rfl ?_
  refine md_geti C fl_X9_338 (by decide) dX9_write_5 ?_
  refine sv_iload_n 1 C dX9_write_8 rfl rfl ?_
  obtain ⟨g9, hf⟩ := sv_g_some hf
  refine md_iast C 1 rfl g9 dX9_write_9 ?_
  refine sv_aload_n 0 C dX9_write_10 rfl rfl ?_
  refine sv_dup C dX9_write_11 rfl ?_
  refine md_geti C fl_X9_338 (by decide) dX9_write_12 ?_
  refine sv_iconst (v := 1) C dX9_write_15 (by decide) ?_
  refine sv_iadd C dX9_write_16 ?_
  refine md_puti C fl_X9_338 (by decide) rfl rfl dX9_write_17 ?_
  refine sv_aload_n 0 C dX9_write_20 rfl rfl ?_
  refine sv_iload_n 1 C dX9_write_21 rfl rfl ?_
  refine sv_bipush (v := 33) C dX9_write_22 (by decide) ?_
  refine sv_icmp_ne (tgt := 31) C dX9_write_24 (by decide) (fun c24 => ?_) (fun c24 => ?_)
  · replace hf := sv_if_f c24 hf
    refine sv_aload_n 0 C dX9_write_31 rfl rfl ?_
    refine md_geti C fl_X9_355 (by decide) dX9_write_32 ?_
    refine sv_iload_n 1 C dX9_write_35 rfl rfl ?_
    refine sv_ixor C dX9_write_36 ?_
    refine sv_sub (lv' := []) [] rfl ?_
    exact w_X9_write_37 C hZ hR hN _ _ hf
  · replace hf := sv_if_t c24 hf
    refine sv_iconst (v := 0) C dX9_write_27 (by decide) ?_
    refine sv_goto (tgt := 37) C dX9_write_28 (by decide) ?_
    refine sv_sub (lv' := []) [] rfl ?_
    exact w_X9_write_37 C hZ hR hN _ _ hf
def f_X9_hexOf (B : md_B) (x0 : Int32) : Option (Int32 × md_B) :=
  if 10 ≤ x0 then
    some ((65 + x0) - 10, B)
  else
    some (48 + x0, B)
set_option maxHeartbeats 4000000 in
set_option maxRecDepth 100000 in
theorem m_X9_hexOf (l : Launch) (E : sv_E) (h0 : Nat) (ad : Nat → Nat) (sz : Nat) (B : md_B) (x0 : Int32) (q : Int32 × md_B) (hf : f_X9_hexOf B x0 = some q) : sv_Met l E yX9_hexOf cX9_hexOf 1 (some .int) 0 0 [] [.int x0] (md_w E h0 ad B) sz (some (.int q.1)) (md_w E h0 ad q.2) sz 0 0 := by
  refine sv_ofJ (by decide) (Nat.le_of_ble_eq_true rfl) ?_
  intro X hX hN hnm hR C hZ
  replace C : sv_C E X cX9_hexOf RX9 [] := C
  show sv_J E X (md_w E h0 ad B) sz 0 0 0 [(0, .int x0)] []
  rw [f_X9_hexOf] at hf
  refine sv_iload_n 0 C dX9_hexOf_0 rfl rfl ?_
  refine sv_bipush (v := 10) C dX9_hexOf_1 (by decide) ?_
  refine sv_icmp_ge (tgt := 13) C dX9_hexOf_3 (by decide) (fun c3 => ?_) (fun c3 => ?_)
  · replace hf := sv_if_t c3 hf
    refine sv_bipush (v := 65) C dX9_hexOf_13 (by decide) ?_
    refine sv_iload_n 0 C dX9_hexOf_15 rfl rfl ?_
    refine sv_iadd C dX9_hexOf_16 ?_
    refine sv_bipush (v := 10) C dX9_hexOf_17 (by decide) ?_
    refine sv_isub C dX9_hexOf_19 ?_
    exact sv_iret C (by cases hf; exact hZ) dX9_hexOf_20
  · replace hf := sv_if_f c3 hf
    refine sv_bipush (v := 48) C dX9_hexOf_6 (by decide) ?_
    refine sv_iload_n 0 C dX9_hexOf_8 rfl rfl ?_
    refine sv_iadd C dX9_hexOf_9 ?_
    refine sv_goto (tgt := 20) C dX9_hexOf_10 (by decide) ?_
    exact sv_iret C (by cases hf; exact hZ) dX9_hexOf_20
def f_X9_out (B : md_B) (x1 : Int32) : Option (Int32 × md_B) :=
  (f_X9_in (md_pf B 0 0) x1.toInt64 0 ((((md_pf B 0 0).1 4) - 1).toInt64)).bind (fun q15 =>
    if q15.1 = 0 then
      some ((-2147483648), q15.2)
    else
      sv_g (sv_inb x1 200) (
        some (q15.2.2 3 x1.toNatClampNeg, q15.2)))
set_option maxHeartbeats 4000000 in
set_option maxRecDepth 100000 in
theorem m_X9_out (l : Launch) (E : sv_E) (h0 : Nat) (ad : Nat → Nat) (sz : Nat) (B : md_B) (x1 : Int32) (q : Int32 × md_B) (hf : f_X9_out B x1 = some q) : sv_Met l E yX9_out cX9_out 2 (some .int) 1 25 [] [.ref h0, .int x1] (md_w E h0 ad B) sz (some (.int q.1)) (md_w E h0 ad q.2) sz 0 0 := by
  refine sv_ofJ (by decide) (Nat.le_of_ble_eq_true rfl) ?_
  intro X hX hN hnm hR C hZ
  replace C : sv_C E X cX9_out RX9 [] := C
  show sv_J E X (md_w E h0 ad B) sz 0 0 0 [(0, .ref h0), (1, .int x1)] []
  rw [f_X9_out] at hf
  refine sv_aload_n 0 C dX9_out_0 rfl rfl ?_
  refine sv_iconst (v := 0) C dX9_out_1 (by decide) ?_
  refine md_puti C fl_X9_1 (by decide) rfl rfl dX9_out_2 ?_
  refine sv_iload_n 1 C dX9_out_5 rfl rfl ?_
  refine sv_i2l C dX9_out_6 ?_
  refine sv_lconst (v := 0) C dX9_out_7 (by decide) ?_
  refine sv_aload_n 0 C dX9_out_8 rfl rfl ?_
  refine md_geti C fl_X9_338 (by decide) dX9_out_9 ?_
  refine sv_iconst (v := 1) C dX9_out_12 (by decide) ?_
  refine sv_isub C dX9_out_13 ?_
  refine sv_i2l C dX9_out_14 ?_
  obtain ⟨q15, hc15, hf⟩ := sv_bind_some hf
  refine sv_callS0 C ms_X9_74 (m_X9_in (sv_l X) E h0 ad sz _ _ _ _ _ hc15) sv_sx0 rfl rfl (Nat.le_of_ble_eq_true rfl) ⟨by rw [hR]; decide, by rw [hR]; decide⟩ ⟨by rw [hR]; decide, by rw [hR]; decide⟩ dX9_out_15 ?_
  refine sv_if_eq (tgt := 30) C dX9_out_18 (by decide) (fun c18 => ?_) (fun c18 => ?_)
  · replace hf := sv_if_t c18 hf
    refine sv_ldc C kw_562 dX9_out_30 ?_
    exact sv_iret C (by cases hf; exact hZ) dX9_out_32
  · replace hf := sv_if_f c18 hf
    refine sv_aload_n 0 C dX9_out_21 rfl rfl ?_
    refine md_getr C fl_X9_17 (by decide) dX9_out_22 ?_
    refine sv_iload_n 1 C dX9_out_25 rfl rfl ?_
    obtain ⟨g26, hf⟩ := sv_g_some hf
    refine md_iald C 1 rfl g26 dX9_out_26 ?_
    refine sv_goto (tgt := 32) C dX9_out_27 (by decide) ?_
    exact sv_iret C (by cases hf; exact hZ) dX9_out_32
def f_X9_again_25 : Nat → md_B → Int32 → Option (Int32 × md_B)
  | 0, _, _ => none
  | n + 1, B, x1 =>
    if (B.1 4) ≤ x1 then
      some (B.1 2, B)
    else
      sv_g (sv_inb x1 200) (
        sv_g (sv_inb (B.1 2) 2000) (
          (f_X9_again_25 n) (md_pf (md_pa B 1 (B.1 2) (B.2 3 x1.toNatClampNeg)) 2 (((md_pa B 1 (B.1 2) (B.2 3 x1.toNatClampNeg)).1 2) + 1)) (x1 + 1)))
def f_X9_again (B : md_B) : Option (Int32 × md_B) :=
  if (((md_pf B 0 0).1 2) + ((md_pf B 0 0).1 4)) ≤ 2000 then
    f_X9_again_25 sv_fu (md_pf B 0 0) 0
  else
    some ((-2147483648), md_pf B 0 0)
set_option maxHeartbeats 4000000 in
set_option maxRecDepth 100000 in
theorem w_X9_again_25 {E : sv_E} {X : sv_X} {h0 : Nat} {ad : Nat → Nat} {sz : Nat} {q : Int32 × md_B} (C : sv_C E X cX9_again RX9 []) (hZ : sv_Z E X (some .int) (some (.int q.1)) (md_w E h0 ad q.2) sz 0 0) (hR : sv_R X = { frames := 0, cells := 0, slots := 0, locals := 0 }) (hN : sv_nL X = 2) : ∀ (n : Nat) (B : md_B) (x1 : Int32), f_X9_again_25 n B x1 = some q → sv_J E X (md_w E h0 ad B) sz 0 0 25 [(0, .ref h0), (1, .int x1)] [] := by
  intro n
  induction n with
  | zero =>
    intro B x1 hf
    rw [f_X9_again_25] at hf
    cases hf
  | succ n ih =>
    intro B x1 hf
    rw [f_X9_again_25] at hf
    refine sv_iload_n 1 C dX9_again_25 rfl rfl ?_
    refine sv_aload_n 0 C dX9_again_26 rfl rfl ?_
    refine md_geti C fl_X9_338 (by decide) dX9_again_27 ?_
    refine sv_icmp_ge (tgt := 64) C dX9_again_30 (by decide) (fun c30 => ?_) (fun c30 => ?_)
    · replace hf := sv_if_t c30 hf
      refine sv_aload_n 0 C dX9_again_64 rfl rfl ?_
      refine md_geti C fl_X9_70 (by decide) dX9_again_65 ?_
      exact sv_iret C (by cases hf; exact hZ) dX9_again_68
    · replace hf := sv_if_f c30 hf
      refine sv_aload_n 0 C dX9_again_33 rfl rfl ?_
      refine md_getr C fl_X9_13 (by decide) dX9_again_34 ?_
      refine sv_aload_n 0 C dX9_again_37 rfl rfl ?_
      refine md_geti C fl_X9_70 (by decide) dX9_again_38 ?_
      refine sv_aload_n 0 C dX9_again_41 rfl rfl ?_
      refine md_getr C fl_X9_17 (by decide) dX9_again_42 ?_
      refine sv_iload_n 1 C dX9_again_45 rfl rfl ?_
      obtain ⟨g46, hf⟩ := sv_g_some hf
      refine md_iald C 1 rfl g46 dX9_again_46 ?_
      obtain ⟨g47, hf⟩ := sv_g_some hf
      refine md_iast C 0 rfl g47 dX9_again_47 ?_
      refine sv_aload_n 0 C dX9_again_48 rfl rfl ?_
      refine sv_dup C dX9_again_49 rfl ?_
      refine md_geti C fl_X9_70 (by decide) dX9_again_50 ?_
      refine sv_iconst (v := 1) C dX9_again_53 (by decide) ?_
      refine sv_iadd C dX9_again_54 ?_
      refine md_puti C fl_X9_70 (by decide) rfl rfl dX9_again_55 ?_
      refine sv_iinc (v := x1 + 1) (lv' := [(1, .int (x1 + 1)), (0, .ref h0)]) 1 C dX9_again_58 rfl rfl (by rw [hN]; decide) rfl ?_
      refine sv_goto (tgt := 25) C dX9_again_61 (by decide) ?_
      refine sv_sub (lv' := [(0, .ref h0), (1, .int (x1 + 1))]) [1, 0] rfl ?_
      exact ih _ _ hf
set_option maxHeartbeats 4000000 in
set_option maxRecDepth 100000 in
theorem m_X9_again (l : Launch) (E : sv_E) (h0 : Nat) (ad : Nat → Nat) (sz : Nat) (B : md_B) (q : Int32 × md_B) (hf : f_X9_again B = some q) : sv_Met l E yX9_again cX9_again 2 (some .int) 0 0 [] [.ref h0] (md_w E h0 ad B) sz (some (.int q.1)) (md_w E h0 ad q.2) sz 0 0 := by
  refine sv_ofJ (by decide) (Nat.le_of_ble_eq_true rfl) ?_
  intro X hX hN hnm hR C hZ
  replace C : sv_C E X cX9_again RX9 [] := C
  show sv_J E X (md_w E h0 ad B) sz 0 0 0 [(0, .ref h0)] []
  rw [f_X9_again] at hf
  refine sv_aload_n 0 C dX9_again_0 rfl rfl ?_
  refine sv_iconst (v := 0) C dX9_again_1 (by decide) ?_
  refine md_puti C fl_X9_1 (by decide) rfl rfl dX9_again_2 ?_
  refine sv_aload_n 0 C dX9_again_5 rfl rfl ?_
  refine md_geti C fl_X9_70 (by decide) dX9_again_6 ?_
  refine sv_aload_n 0 C dX9_again_9 rfl rfl ?_
  refine md_geti C fl_X9_338 (by decide) dX9_again_10 ?_
  refine sv_iadd C dX9_again_13 ?_
  refine sv_sipush (v := 2000) C dX9_again_14 (by decide) ?_
  refine sv_icmp_le (tgt := 23) C dX9_again_17 (by decide) (fun c17 => ?_) (fun c17 => ?_)
  · replace hf := sv_if_t c17 hf
    refine sv_iconst (v := 0) C dX9_again_23 (by decide) ?_
    refine sv_istore_n (lv' := [(1, .int 0), (0, .ref h0)]) C dX9_again_24 rfl (by rw [hN]; decide) rfl ?_
    refine sv_sub (lv' := [(0, .ref h0), (1, .int 0)]) [1, 0] rfl ?_
    exact w_X9_again_25 C hZ hR hN sv_fu _ _ hf
  · replace hf := sv_if_f c17 hf
    refine sv_ldc C kw_562 dX9_again_20 ?_
    exact sv_iret C (by cases hf; exact hZ) dX9_again_22
def f_X9_clear (B : md_B) : Option (md_B) :=
  (f_X9_forget (md_pf B 0 0)).bind (fun q6 =>
    some q6)
set_option maxHeartbeats 4000000 in
set_option maxRecDepth 100000 in
theorem m_X9_clear (l : Launch) (E : sv_E) (h0 : Nat) (ad : Nat → Nat) (sz : Nat) (B : md_B) (q : md_B) (hf : f_X9_clear B = some q) : sv_Met l E yX9_clear cX9_clear 1 none 1 21 [] [.ref h0] (md_w E h0 ad B) sz none (md_w E h0 ad q) sz 0 0 := by
  refine sv_ofJ (by decide) (Nat.le_of_ble_eq_true rfl) ?_
  intro X hX hN hnm hR C hZ
  replace C : sv_C E X cX9_clear RX9 [] := C
  show sv_J E X (md_w E h0 ad B) sz 0 0 0 [(0, .ref h0)] []
  rw [f_X9_clear] at hf
  refine sv_aload_n 0 C dX9_clear_0 rfl rfl ?_
  refine sv_iconst (v := 0) C dX9_clear_1 (by decide) ?_
  refine md_puti C fl_X9_1 (by decide) rfl rfl dX9_clear_2 ?_
  refine sv_aload_n 0 C dX9_clear_5 rfl rfl ?_
  obtain ⟨q6, hc6, hf⟩ := sv_bind_some hf
  refine sv_callV0 C mv_X9_67 (m_X9_forget (sv_l X) E h0 ad sz _ _ hc6) sv_sx0 0 rfl rfl rfl rfl (Nat.le_of_ble_eq_true rfl) ⟨by rw [hR]; decide, by rw [hR]; decide⟩ ⟨by rw [hR]; decide, by rw [hR]; decide⟩ dX9_clear_6 ?_
  exact sv_vret C (by cases hf; exact hZ) dX9_clear_9
end
section
theorem sv_dummy : True := trivial
end
