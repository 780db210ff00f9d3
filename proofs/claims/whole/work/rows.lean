section
-- ===== PART A: goes FIRST, ahead of the names: the tables' words, and 'selects' of the private methods out of them =====
/-- a private method of a class that the tables say can be made, by its rows of tables_1 -/
def lw_okq (q : MethodName × Nat) : Prop := (q.1.cls ≠ "java/lang/invoke/MethodHandle" ∧ q.1.cls ≠ "java/lang/invoke/VarHandle") ∧ Cond.instantiable q.1.cls q.2 ∈ tables_1 ∧ Cond.privateMethod q.1 ∈ tables_1 ∧ Cond.instanceMethod q.1 ∈ tables_1
theorem lw_p0 : lw_okq (⟨"SeaReceiver$Sentence", "begin", "(I)I"⟩, 6) := ⟨⟨by decide +kernel, by decide +kernel⟩, List.mem_of_getElem? (i := 48) (by decide +kernel), List.mem_of_getElem? (i := 234) (by decide +kernel), List.mem_of_getElem? (i := 235) (by decide +kernel)⟩
theorem lw_p1 : lw_okq (⟨"SeaReceiver$Sentence", "step", "(ZI)I"⟩, 6) := ⟨⟨by decide +kernel, by decide +kernel⟩, List.mem_of_getElem? (i := 48) (by decide +kernel), List.mem_of_getElem? (i := 238) (by decide +kernel), List.mem_of_getElem? (i := 239) (by decide +kernel)⟩
theorem lw_p2 : lw_okq (⟨"SeaReceiver$Sentence", "store", "(I)I"⟩, 6) := ⟨⟨by decide +kernel, by decide +kernel⟩, List.mem_of_getElem? (i := 48) (by decide +kernel), List.mem_of_getElem? (i := 242) (by decide +kernel), List.mem_of_getElem? (i := 243) (by decide +kernel)⟩
theorem lw_p3 : lw_okq (⟨"SeaReceiver$Sentence", "hearDigit", "(II)I"⟩, 6) := ⟨⟨by decide +kernel, by decide +kernel⟩, List.mem_of_getElem? (i := 48) (by decide +kernel), List.mem_of_getElem? (i := 246) (by decide +kernel), List.mem_of_getElem? (i := 247) (by decide +kernel)⟩
theorem lw_p4 : lw_okq (⟨"SeaReceiver", "judge", "()I"⟩, 10) := ⟨⟨by decide +kernel, by decide +kernel⟩, List.mem_of_getElem? (i := 24) (by decide +kernel), List.mem_of_getElem? (i := 250) (by decide +kernel), List.mem_of_getElem? (i := 251) (by decide +kernel)⟩
theorem lw_p5 : lw_okq (⟨"SeaReceiver$Fields", "to", "(I)I"⟩, 4) := ⟨⟨by decide +kernel, by decide +kernel⟩, List.mem_of_getElem? (i := 77) (by decide +kernel), List.mem_of_getElem? (i := 267) (by decide +kernel), List.mem_of_getElem? (i := 268) (by decide +kernel)⟩
theorem lw_p6 : lw_okq (⟨"SeaReceiver$Fields", "isForm", "(Ljava/lang/String;)Z"⟩, 4) := ⟨⟨by decide +kernel, by decide +kernel⟩, List.mem_of_getElem? (i := 77) (by decide +kernel), List.mem_of_getElem? (i := 272) (by decide +kernel), List.mem_of_getElem? (i := 273) (by decide +kernel)⟩
theorem lw_p7 : lw_okq (⟨"SeaReceiver$Fields", "from", "(I)I"⟩, 4) := ⟨⟨by decide +kernel, by decide +kernel⟩, List.mem_of_getElem? (i := 77) (by decide +kernel), List.mem_of_getElem? (i := 332) (by decide +kernel), List.mem_of_getElem? (i := 333) (by decide +kernel)⟩
theorem lw_p8 : lw_okq (⟨"SeaReceiver$Fields", "digits", "(IIIIII)I"⟩, 4) := ⟨⟨by decide +kernel, by decide +kernel⟩, List.mem_of_getElem? (i := 77) (by decide +kernel), List.mem_of_getElem? (i := 337) (by decide +kernel), List.mem_of_getElem? (i := 338) (by decide +kernel)⟩
theorem lw_p9 : lw_okq (⟨"SeaReceiver$Fields", "digitAt", "(I)I"⟩, 4) := ⟨⟨by decide +kernel, by decide +kernel⟩, List.mem_of_getElem? (i := 77) (by decide +kernel), List.mem_of_getElem? (i := 341) (by decide +kernel), List.mem_of_getElem? (i := 342) (by decide +kernel)⟩
theorem lw_p10 : lw_okq (⟨"SeaReceiver$Fields", "wrong", "()I"⟩, 4) := ⟨⟨by decide +kernel, by decide +kernel⟩, List.mem_of_getElem? (i := 77) (by decide +kernel), List.mem_of_getElem? (i := 345) (by decide +kernel), List.mem_of_getElem? (i := 346) (by decide +kernel)⟩
theorem lw_p11 : lw_okq (⟨"SeaReceiver$Fields", "at", "(I)I"⟩, 4) := ⟨⟨by decide +kernel, by decide +kernel⟩, List.mem_of_getElem? (i := 77) (by decide +kernel), List.mem_of_getElem? (i := 349) (by decide +kernel), List.mem_of_getElem? (i := 350) (by decide +kernel)⟩
theorem lw_p12 : lw_okq (⟨"SeaReceiver$Fields", "angle", "(III)I"⟩, 4) := ⟨⟨by decide +kernel, by decide +kernel⟩, List.mem_of_getElem? (i := 77) (by decide +kernel), List.mem_of_getElem? (i := 362) (by decide +kernel), List.mem_of_getElem? (i := 363) (by decide +kernel)⟩
theorem lw_p13 : lw_okq (⟨"SeaReceiver$Fields", "onSide", "(IIII)I"⟩, 4) := ⟨⟨by decide +kernel, by decide +kernel⟩, List.mem_of_getElem? (i := 77) (by decide +kernel), List.mem_of_getElem? (i := 368) (by decide +kernel), List.mem_of_getElem? (i := 369) (by decide +kernel)⟩
theorem lw_p14 : lw_okq (⟨"SeaReceiver$Position", "settle", "(Z[I)Z"⟩, 2) := ⟨⟨by decide +kernel, by decide +kernel⟩, List.mem_of_getElem? (i := 100) (by decide +kernel), List.mem_of_getElem? (i := 400) (by decide +kernel), List.mem_of_getElem? (i := 401) (by decide +kernel)⟩
theorem lw_p15 : lw_okq (⟨"SeaReceiver", "takePart", "()Z"⟩, 10) := ⟨⟨by decide +kernel, by decide +kernel⟩, List.mem_of_getElem? (i := 24) (by decide +kernel), List.mem_of_getElem? (i := 503) (by decide +kernel), List.mem_of_getElem? (i := 504) (by decide +kernel)⟩
def lw_privs_1 : List (MethodName × Nat) := [(⟨"SeaReceiver$Sentence", "begin", "(I)I"⟩, 6), (⟨"SeaReceiver$Sentence", "step", "(ZI)I"⟩, 6), (⟨"SeaReceiver$Sentence", "store", "(I)I"⟩, 6), (⟨"SeaReceiver$Sentence", "hearDigit", "(II)I"⟩, 6), (⟨"SeaReceiver", "judge", "()I"⟩, 10), (⟨"SeaReceiver$Fields", "to", "(I)I"⟩, 4), (⟨"SeaReceiver$Fields", "isForm", "(Ljava/lang/String;)Z"⟩, 4), (⟨"SeaReceiver$Fields", "from", "(I)I"⟩, 4), (⟨"SeaReceiver$Fields", "digits", "(IIIIII)I"⟩, 4), (⟨"SeaReceiver$Fields", "digitAt", "(I)I"⟩, 4), (⟨"SeaReceiver$Fields", "wrong", "()I"⟩, 4), (⟨"SeaReceiver$Fields", "at", "(I)I"⟩, 4), (⟨"SeaReceiver$Fields", "angle", "(III)I"⟩, 4), (⟨"SeaReceiver$Fields", "onSide", "(IIII)I"⟩, 4), (⟨"SeaReceiver$Position", "settle", "(Z[I)Z"⟩, 2), (⟨"SeaReceiver", "takePart", "()Z"⟩, 10)]
theorem lw_r1 : ∀ q ∈ lw_privs_1, lw_okq q := List.forall_mem_cons.mpr ⟨lw_p0, List.forall_mem_cons.mpr ⟨lw_p1, List.forall_mem_cons.mpr ⟨lw_p2, List.forall_mem_cons.mpr ⟨lw_p3, List.forall_mem_cons.mpr ⟨lw_p4, List.forall_mem_cons.mpr ⟨lw_p5, List.forall_mem_cons.mpr ⟨lw_p6, List.forall_mem_cons.mpr ⟨lw_p7, List.forall_mem_cons.mpr ⟨lw_p8, List.forall_mem_cons.mpr ⟨lw_p9, List.forall_mem_cons.mpr ⟨lw_p10, List.forall_mem_cons.mpr ⟨lw_p11, List.forall_mem_cons.mpr ⟨lw_p12, List.forall_mem_cons.mpr ⟨lw_p13, List.forall_mem_cons.mpr ⟨lw_p14, List.forall_mem_cons.mpr ⟨lw_p15, fun _ h => absurd h List.not_mem_nil⟩⟩⟩⟩⟩⟩⟩⟩⟩⟩⟩⟩⟩⟩⟩⟩
theorem lw_p16 : lw_okq (⟨"SeaReceiver", "isInOrder", "(III)Z"⟩, 10) := ⟨⟨by decide +kernel, by decide +kernel⟩, List.mem_of_getElem? (i := 24) (by decide +kernel), List.mem_of_getElem? (i := 515) (by decide +kernel), List.mem_of_getElem? (i := 516) (by decide +kernel)⟩
theorem lw_p17 : lw_okq (⟨"SeaReceiver", "receive", "()V"⟩, 10) := ⟨⟨by decide +kernel, by decide +kernel⟩, List.mem_of_getElem? (i := 24) (by decide +kernel), List.mem_of_getElem? (i := 549) (by decide +kernel), List.mem_of_getElem? (i := 550) (by decide +kernel)⟩
theorem lw_p18 : lw_okq (⟨"SeaReceiver$Vessel", "learnText", "(ILSeaReceiver$BitRow;II)V"⟩, 3) := ⟨⟨by decide +kernel, by decide +kernel⟩, List.mem_of_getElem? (i := 569) (by decide +kernel), List.mem_of_getElem? (i := 609) (by decide +kernel), List.mem_of_getElem? (i := 610) (by decide +kernel)⟩
theorem lw_p19 : lw_okq (⟨"java/lang/Throwable", "fillInStackTrace", "(I)Ljava/lang/Throwable;"⟩, 6) := ⟨⟨by decide +kernel, by decide +kernel⟩, List.mem_of_getElem? (i := 719) (by decide +kernel), List.mem_of_getElem? (i := 717) (by decide +kernel), List.mem_of_getElem? (i := 718) (by decide +kernel)⟩
theorem lw_p20 : lw_okq (⟨"SeaReceiver$Vessel", "tellText", "(ILSeaReceiver$BitRow;I)V"⟩, 3) := ⟨⟨by decide +kernel, by decide +kernel⟩, List.mem_of_getElem? (i := 569) (by decide +kernel), List.mem_of_getElem? (i := 796) (by decide +kernel), List.mem_of_getElem? (i := 797) (by decide +kernel)⟩
theorem lw_p21 : lw_okq (⟨"SeaReceiver", "writeSentence", "(Ljava/lang/String;III)V"⟩, 10) := ⟨⟨by decide +kernel, by decide +kernel⟩, List.mem_of_getElem? (i := 24) (by decide +kernel), List.mem_of_getElem? (i := 802) (by decide +kernel), List.mem_of_getElem? (i := 803) (by decide +kernel)⟩
theorem lw_p22 : lw_okq (⟨"SeaReceiver", "closeSentence", "(I)V"⟩, 10) := ⟨⟨by decide +kernel, by decide +kernel⟩, List.mem_of_getElem? (i := 24) (by decide +kernel), List.mem_of_getElem? (i := 814) (by decide +kernel), List.mem_of_getElem? (i := 815) (by decide +kernel)⟩
theorem lw_p23 : lw_okq (⟨"SeaReceiverModel", "forget", "()V"⟩, 38) := ⟨⟨by decide +kernel, by decide +kernel⟩, List.mem_of_getElem? (i := 827) (by decide +kernel), List.mem_of_getElem? (i := 834) (by decide +kernel), List.mem_of_getElem? (i := 835) (by decide +kernel)⟩
theorem lw_p24 : lw_okq (⟨"SeaReceiverModel", "comes", "(I)V"⟩, 38) := ⟨⟨by decide +kernel, by decide +kernel⟩, List.mem_of_getElem? (i := 827) (by decide +kernel), List.mem_of_getElem? (i := 970) (by decide +kernel), List.mem_of_getElem? (i := 971) (by decide +kernel)⟩
theorem lw_p25 : lw_okq (⟨"SeaReceiverModel", "ended", "()V"⟩, 38) := ⟨⟨by decide +kernel, by decide +kernel⟩, List.mem_of_getElem? (i := 827) (by decide +kernel), List.mem_of_getElem? (i := 983) (by decide +kernel), List.mem_of_getElem? (i := 984) (by decide +kernel)⟩
theorem lw_p26 : lw_okq (⟨"SeaReceiverModel", "form", "()I"⟩, 38) := ⟨⟨by decide +kernel, by decide +kernel⟩, List.mem_of_getElem? (i := 827) (by decide +kernel), List.mem_of_getElem? (i := 987) (by decide +kernel), List.mem_of_getElem? (i := 988) (by decide +kernel)⟩
theorem lw_p27 : lw_okq (⟨"SeaReceiverModel", "ends", "(Ljava/lang/String;)Z"⟩, 38) := ⟨⟨by decide +kernel, by decide +kernel⟩, List.mem_of_getElem? (i := 827) (by decide +kernel), List.mem_of_getElem? (i := 993) (by decide +kernel), List.mem_of_getElem? (i := 994) (by decide +kernel)⟩
theorem lw_p28 : lw_okq (⟨"SeaReceiverModel", "fits", "(I)Z"⟩, 38) := ⟨⟨by decide +kernel, by decide +kernel⟩, List.mem_of_getElem? (i := 827) (by decide +kernel), List.mem_of_getElem? (i := 1002) (by decide +kernel), List.mem_of_getElem? (i := 1003) (by decide +kernel)⟩
theorem lw_p29 : lw_okq (⟨"SeaReceiverModel", "gga", "()V"⟩, 38) := ⟨⟨by decide +kernel, by decide +kernel⟩, List.mem_of_getElem? (i := 827) (by decide +kernel), List.mem_of_getElem? (i := 1006) (by decide +kernel), List.mem_of_getElem? (i := 1007) (by decide +kernel)⟩
theorem lw_p30 : lw_okq (⟨"SeaReceiverModel", "time", "(I)I"⟩, 38) := ⟨⟨by decide +kernel, by decide +kernel⟩, List.mem_of_getElem? (i := 827) (by decide +kernel), List.mem_of_getElem? (i := 1010) (by decide +kernel), List.mem_of_getElem? (i := 1011) (by decide +kernel)⟩
theorem lw_p31 : lw_okq (⟨"SeaReceiverModel", "size", "(I)I"⟩, 38) := ⟨⟨by decide +kernel, by decide +kernel⟩, List.mem_of_getElem? (i := 827) (by decide +kernel), List.mem_of_getElem? (i := 1014) (by decide +kernel), List.mem_of_getElem? (i := 1015) (by decide +kernel)⟩
def lw_privs_2 : List (MethodName × Nat) := [(⟨"SeaReceiver", "isInOrder", "(III)Z"⟩, 10), (⟨"SeaReceiver", "receive", "()V"⟩, 10), (⟨"SeaReceiver$Vessel", "learnText", "(ILSeaReceiver$BitRow;II)V"⟩, 3), (⟨"java/lang/Throwable", "fillInStackTrace", "(I)Ljava/lang/Throwable;"⟩, 6), (⟨"SeaReceiver$Vessel", "tellText", "(ILSeaReceiver$BitRow;I)V"⟩, 3), (⟨"SeaReceiver", "writeSentence", "(Ljava/lang/String;III)V"⟩, 10), (⟨"SeaReceiver", "closeSentence", "(I)V"⟩, 10), (⟨"SeaReceiverModel", "forget", "()V"⟩, 38), (⟨"SeaReceiverModel", "comes", "(I)V"⟩, 38), (⟨"SeaReceiverModel", "ended", "()V"⟩, 38), (⟨"SeaReceiverModel", "form", "()I"⟩, 38), (⟨"SeaReceiverModel", "ends", "(Ljava/lang/String;)Z"⟩, 38), (⟨"SeaReceiverModel", "fits", "(I)Z"⟩, 38), (⟨"SeaReceiverModel", "gga", "()V"⟩, 38), (⟨"SeaReceiverModel", "time", "(I)I"⟩, 38), (⟨"SeaReceiverModel", "size", "(I)I"⟩, 38)]
theorem lw_r2 : ∀ q ∈ lw_privs_2, lw_okq q := List.forall_mem_cons.mpr ⟨lw_p16, List.forall_mem_cons.mpr ⟨lw_p17, List.forall_mem_cons.mpr ⟨lw_p18, List.forall_mem_cons.mpr ⟨lw_p19, List.forall_mem_cons.mpr ⟨lw_p20, List.forall_mem_cons.mpr ⟨lw_p21, List.forall_mem_cons.mpr ⟨lw_p22, List.forall_mem_cons.mpr ⟨lw_p23, List.forall_mem_cons.mpr ⟨lw_p24, List.forall_mem_cons.mpr ⟨lw_p25, List.forall_mem_cons.mpr ⟨lw_p26, List.forall_mem_cons.mpr ⟨lw_p27, List.forall_mem_cons.mpr ⟨lw_p28, List.forall_mem_cons.mpr ⟨lw_p29, List.forall_mem_cons.mpr ⟨lw_p30, List.forall_mem_cons.mpr ⟨lw_p31, fun _ h => absurd h List.not_mem_nil⟩⟩⟩⟩⟩⟩⟩⟩⟩⟩⟩⟩⟩⟩⟩⟩
theorem lw_p32 : lw_okq (⟨"SeaReceiverModel", "digits", "(II)I"⟩, 38) := ⟨⟨by decide +kernel, by decide +kernel⟩, List.mem_of_getElem? (i := 827) (by decide +kernel), List.mem_of_getElem? (i := 1018) (by decide +kernel), List.mem_of_getElem? (i := 1019) (by decide +kernel)⟩
theorem lw_p33 : lw_okq (⟨"SeaReceiverModel", "at", "(II)I"⟩, 38) := ⟨⟨by decide +kernel, by decide +kernel⟩, List.mem_of_getElem? (i := 827) (by decide +kernel), List.mem_of_getElem? (i := 1022) (by decide +kernel), List.mem_of_getElem? (i := 1023) (by decide +kernel)⟩
theorem lw_p34 : lw_okq (⟨"SeaReceiverModel", "bad", "()I"⟩, 38) := ⟨⟨by decide +kernel, by decide +kernel⟩, List.mem_of_getElem? (i := 827) (by decide +kernel), List.mem_of_getElem? (i := 1029) (by decide +kernel), List.mem_of_getElem? (i := 1030) (by decide +kernel)⟩
theorem lw_p35 : lw_okq (⟨"SeaReceiverModel", "whole", "(III)I"⟩, 38) := ⟨⟨by decide +kernel, by decide +kernel⟩, List.mem_of_getElem? (i := 827) (by decide +kernel), List.mem_of_getElem? (i := 1033) (by decide +kernel), List.mem_of_getElem? (i := 1034) (by decide +kernel)⟩
theorem lw_p36 : lw_okq (⟨"SeaReceiverModel", "behind", "(IIII)I"⟩, 38) := ⟨⟨by decide +kernel, by decide +kernel⟩, List.mem_of_getElem? (i := 827) (by decide +kernel), List.mem_of_getElem? (i := 1037) (by decide +kernel), List.mem_of_getElem? (i := 1038) (by decide +kernel)⟩
theorem lw_p37 : lw_okq (⟨"SeaReceiverModel", "place", "(IIILjava/lang/String;)I"⟩, 38) := ⟨⟨by decide +kernel, by decide +kernel⟩, List.mem_of_getElem? (i := 827) (by decide +kernel), List.mem_of_getElem? (i := 1042) (by decide +kernel), List.mem_of_getElem? (i := 1043) (by decide +kernel)⟩
theorem lw_p38 : lw_okq (⟨"SeaReceiverModel", "sided", "(IILjava/lang/String;)I"⟩, 38) := ⟨⟨by decide +kernel, by decide +kernel⟩, List.mem_of_getElem? (i := 827) (by decide +kernel), List.mem_of_getElem? (i := 1047) (by decide +kernel), List.mem_of_getElem? (i := 1048) (by decide +kernel)⟩
theorem lw_p39 : lw_okq (⟨"SeaReceiverModel", "one", "(ILjava/lang/String;)I"⟩, 38) := ⟨⟨by decide +kernel, by decide +kernel⟩, List.mem_of_getElem? (i := 827) (by decide +kernel), List.mem_of_getElem? (i := 1051) (by decide +kernel), List.mem_of_getElem? (i := 1052) (by decide +kernel)⟩
theorem lw_p40 : lw_okq (⟨"SeaReceiverModel", "number", "(II)I"⟩, 38) := ⟨⟨by decide +kernel, by decide +kernel⟩, List.mem_of_getElem? (i := 827) (by decide +kernel), List.mem_of_getElem? (i := 1057) (by decide +kernel), List.mem_of_getElem? (i := 1058) (by decide +kernel)⟩
theorem lw_p41 : lw_okq (⟨"SeaReceiverModel", "decimal", "(IIIZ)I"⟩, 38) := ⟨⟨by decide +kernel, by decide +kernel⟩, List.mem_of_getElem? (i := 827) (by decide +kernel), List.mem_of_getElem? (i := 1061) (by decide +kernel), List.mem_of_getElem? (i := 1062) (by decide +kernel)⟩
theorem lw_p42 : lw_okq (⟨"SeaReceiverModel", "measured", "(IILjava/lang/String;)I"⟩, 38) := ⟨⟨by decide +kernel, by decide +kernel⟩, List.mem_of_getElem? (i := 827) (by decide +kernel), List.mem_of_getElem? (i := 1069) (by decide +kernel), List.mem_of_getElem? (i := 1070) (by decide +kernel)⟩
theorem lw_p43 : lw_okq (⟨"SeaReceiverModel", "rmc", "()V"⟩, 38) := ⟨⟨by decide +kernel, by decide +kernel⟩, List.mem_of_getElem? (i := 827) (by decide +kernel), List.mem_of_getElem? (i := 1073) (by decide +kernel), List.mem_of_getElem? (i := 1074) (by decide +kernel)⟩
theorem lw_p44 : lw_okq (⟨"SeaReceiverModel", "below", "(II)I"⟩, 38) := ⟨⟨by decide +kernel, by decide +kernel⟩, List.mem_of_getElem? (i := 827) (by decide +kernel), List.mem_of_getElem? (i := 1079) (by decide +kernel), List.mem_of_getElem? (i := 1080) (by decide +kernel)⟩
theorem lw_p45 : lw_okq (⟨"SeaReceiverModel", "date", "(I)I"⟩, 38) := ⟨⟨by decide +kernel, by decide +kernel⟩, List.mem_of_getElem? (i := 827) (by decide +kernel), List.mem_of_getElem? (i := 1083) (by decide +kernel), List.mem_of_getElem? (i := 1084) (by decide +kernel)⟩
theorem lw_p46 : lw_okq (⟨"SeaReceiverModel", "vtg", "()V"⟩, 38) := ⟨⟨by decide +kernel, by decide +kernel⟩, List.mem_of_getElem? (i := 827) (by decide +kernel), List.mem_of_getElem? (i := 1090) (by decide +kernel), List.mem_of_getElem? (i := 1091) (by decide +kernel)⟩
theorem lw_p47 : lw_okq (⟨"SeaReceiverModel", "part", "()V"⟩, 38) := ⟨⟨by decide +kernel, by decide +kernel⟩, List.mem_of_getElem? (i := 827) (by decide +kernel), List.mem_of_getElem? (i := 1097) (by decide +kernel), List.mem_of_getElem? (i := 1098) (by decide +kernel)⟩
def lw_privs_3 : List (MethodName × Nat) := [(⟨"SeaReceiverModel", "digits", "(II)I"⟩, 38), (⟨"SeaReceiverModel", "at", "(II)I"⟩, 38), (⟨"SeaReceiverModel", "bad", "()I"⟩, 38), (⟨"SeaReceiverModel", "whole", "(III)I"⟩, 38), (⟨"SeaReceiverModel", "behind", "(IIII)I"⟩, 38), (⟨"SeaReceiverModel", "place", "(IIILjava/lang/String;)I"⟩, 38), (⟨"SeaReceiverModel", "sided", "(IILjava/lang/String;)I"⟩, 38), (⟨"SeaReceiverModel", "one", "(ILjava/lang/String;)I"⟩, 38), (⟨"SeaReceiverModel", "number", "(II)I"⟩, 38), (⟨"SeaReceiverModel", "decimal", "(IIIZ)I"⟩, 38), (⟨"SeaReceiverModel", "measured", "(IILjava/lang/String;)I"⟩, 38), (⟨"SeaReceiverModel", "rmc", "()V"⟩, 38), (⟨"SeaReceiverModel", "below", "(II)I"⟩, 38), (⟨"SeaReceiverModel", "date", "(I)I"⟩, 38), (⟨"SeaReceiverModel", "vtg", "()V"⟩, 38), (⟨"SeaReceiverModel", "part", "()V"⟩, 38)]
theorem lw_r3 : ∀ q ∈ lw_privs_3, lw_okq q := List.forall_mem_cons.mpr ⟨lw_p32, List.forall_mem_cons.mpr ⟨lw_p33, List.forall_mem_cons.mpr ⟨lw_p34, List.forall_mem_cons.mpr ⟨lw_p35, List.forall_mem_cons.mpr ⟨lw_p36, List.forall_mem_cons.mpr ⟨lw_p37, List.forall_mem_cons.mpr ⟨lw_p38, List.forall_mem_cons.mpr ⟨lw_p39, List.forall_mem_cons.mpr ⟨lw_p40, List.forall_mem_cons.mpr ⟨lw_p41, List.forall_mem_cons.mpr ⟨lw_p42, List.forall_mem_cons.mpr ⟨lw_p43, List.forall_mem_cons.mpr ⟨lw_p44, List.forall_mem_cons.mpr ⟨lw_p45, List.forall_mem_cons.mpr ⟨lw_p46, List.forall_mem_cons.mpr ⟨lw_p47, fun _ h => absurd h List.not_mem_nil⟩⟩⟩⟩⟩⟩⟩⟩⟩⟩⟩⟩⟩⟩⟩⟩
theorem lw_p48 : lw_okq (⟨"SeaReceiverModel", "taken", "(I)V"⟩, 38) := ⟨⟨by decide +kernel, by decide +kernel⟩, List.mem_of_getElem? (i := 827) (by decide +kernel), List.mem_of_getElem? (i := 1106) (by decide +kernel), List.mem_of_getElem? (i := 1107) (by decide +kernel)⟩
theorem lw_p49 : lw_okq (⟨"SeaReceiverModel", "keep", "(II)V"⟩, 38) := ⟨⟨by decide +kernel, by decide +kernel⟩, List.mem_of_getElem? (i := 827) (by decide +kernel), List.mem_of_getElem? (i := 1110) (by decide +kernel), List.mem_of_getElem? (i := 1111) (by decide +kernel)⟩
theorem lw_p50 : lw_okq (⟨"SeaReceiverModel", "parted", "()V"⟩, 38) := ⟨⟨by decide +kernel, by decide +kernel⟩, List.mem_of_getElem? (i := 827) (by decide +kernel), List.mem_of_getElem? (i := 1114) (by decide +kernel), List.mem_of_getElem? (i := 1115) (by decide +kernel)⟩
theorem lw_p51 : lw_okq (⟨"SeaReceiverModel", "message", "()V"⟩, 38) := ⟨⟨by decide +kernel, by decide +kernel⟩, List.mem_of_getElem? (i := 827) (by decide +kernel), List.mem_of_getElem? (i := 1118) (by decide +kernel), List.mem_of_getElem? (i := 1119) (by decide +kernel)⟩
theorem lw_p52 : lw_okq (⟨"SeaReceiverModel", "read", "(II)I"⟩, 38) := ⟨⟨by decide +kernel, by decide +kernel⟩, List.mem_of_getElem? (i := 827) (by decide +kernel), List.mem_of_getElem? (i := 1122) (by decide +kernel), List.mem_of_getElem? (i := 1123) (by decide +kernel)⟩
theorem lw_p53 : lw_okq (⟨"SeaReceiverModel", "found", "(I)I"⟩, 38) := ⟨⟨by decide +kernel, by decide +kernel⟩, List.mem_of_getElem? (i := 827) (by decide +kernel), List.mem_of_getElem? (i := 1127) (by decide +kernel), List.mem_of_getElem? (i := 1128) (by decide +kernel)⟩
theorem lw_p54 : lw_okq (⟨"SeaReceiverModel", "reports", "(II)V"⟩, 38) := ⟨⟨by decide +kernel, by decide +kernel⟩, List.mem_of_getElem? (i := 827) (by decide +kernel), List.mem_of_getElem? (i := 1131) (by decide +kernel), List.mem_of_getElem? (i := 1132) (by decide +kernel)⟩
theorem lw_p55 : lw_okq (⟨"SeaReceiverModel", "go", "(IIZ)V"⟩, 38) := ⟨⟨by decide +kernel, by decide +kernel⟩, List.mem_of_getElem? (i := 827) (by decide +kernel), List.mem_of_getElem? (i := 1135) (by decide +kernel), List.mem_of_getElem? (i := 1136) (by decide +kernel)⟩
theorem lw_p56 : lw_okq (⟨"SeaReceiverModel", "signed", "(II)I"⟩, 38) := ⟨⟨by decide +kernel, by decide +kernel⟩, List.mem_of_getElem? (i := 827) (by decide +kernel), List.mem_of_getElem? (i := 1139) (by decide +kernel), List.mem_of_getElem? (i := 1140) (by decide +kernel)⟩
theorem lw_p57 : lw_okq (⟨"SeaReceiverModel", "put", "(II)V"⟩, 38) := ⟨⟨by decide +kernel, by decide +kernel⟩, List.mem_of_getElem? (i := 827) (by decide +kernel), List.mem_of_getElem? (i := 1143) (by decide +kernel), List.mem_of_getElem? (i := 1144) (by decide +kernel)⟩
theorem lw_p58 : lw_okq (⟨"SeaReceiverModel", "where", "()V"⟩, 38) := ⟨⟨by decide +kernel, by decide +kernel⟩, List.mem_of_getElem? (i := 827) (by decide +kernel), List.mem_of_getElem? (i := 1147) (by decide +kernel), List.mem_of_getElem? (i := 1148) (by decide +kernel)⟩
theorem lw_p59 : lw_okq (⟨"SeaReceiverModel", "way", "()V"⟩, 38) := ⟨⟨by decide +kernel, by decide +kernel⟩, List.mem_of_getElem? (i := 827) (by decide +kernel), List.mem_of_getElem? (i := 1151) (by decide +kernel), List.mem_of_getElem? (i := 1152) (by decide +kernel)⟩
theorem lw_p60 : lw_okq (⟨"SeaReceiverModel", "skip", "(I)V"⟩, 38) := ⟨⟨by decide +kernel, by decide +kernel⟩, List.mem_of_getElem? (i := 827) (by decide +kernel), List.mem_of_getElem? (i := 1155) (by decide +kernel), List.mem_of_getElem? (i := 1156) (by decide +kernel)⟩
theorem lw_p61 : lw_okq (⟨"SeaReceiverModel", "still", "()V"⟩, 38) := ⟨⟨by decide +kernel, by decide +kernel⟩, List.mem_of_getElem? (i := 827) (by decide +kernel), List.mem_of_getElem? (i := 1159) (by decide +kernel), List.mem_of_getElem? (i := 1160) (by decide +kernel)⟩
theorem lw_p62 : lw_okq (⟨"SeaReceiverModel", "words", "(I)V"⟩, 38) := ⟨⟨by decide +kernel, by decide +kernel⟩, List.mem_of_getElem? (i := 827) (by decide +kernel), List.mem_of_getElem? (i := 1163) (by decide +kernel), List.mem_of_getElem? (i := 1164) (by decide +kernel)⟩
theorem lw_p63 : lw_okq (⟨"SeaReceiverModel", "refuse", "(I)I"⟩, 38) := ⟨⟨by decide +kernel, by decide +kernel⟩, List.mem_of_getElem? (i := 827) (by decide +kernel), List.mem_of_getElem? (i := 1180) (by decide +kernel), List.mem_of_getElem? (i := 1181) (by decide +kernel)⟩
def lw_privs_4 : List (MethodName × Nat) := [(⟨"SeaReceiverModel", "taken", "(I)V"⟩, 38), (⟨"SeaReceiverModel", "keep", "(II)V"⟩, 38), (⟨"SeaReceiverModel", "parted", "()V"⟩, 38), (⟨"SeaReceiverModel", "message", "()V"⟩, 38), (⟨"SeaReceiverModel", "read", "(II)I"⟩, 38), (⟨"SeaReceiverModel", "found", "(I)I"⟩, 38), (⟨"SeaReceiverModel", "reports", "(II)V"⟩, 38), (⟨"SeaReceiverModel", "go", "(IIZ)V"⟩, 38), (⟨"SeaReceiverModel", "signed", "(II)I"⟩, 38), (⟨"SeaReceiverModel", "put", "(II)V"⟩, 38), (⟨"SeaReceiverModel", "where", "()V"⟩, 38), (⟨"SeaReceiverModel", "way", "()V"⟩, 38), (⟨"SeaReceiverModel", "skip", "(I)V"⟩, 38), (⟨"SeaReceiverModel", "still", "()V"⟩, 38), (⟨"SeaReceiverModel", "words", "(I)V"⟩, 38), (⟨"SeaReceiverModel", "refuse", "(I)I"⟩, 38)]
theorem lw_r4 : ∀ q ∈ lw_privs_4, lw_okq q := List.forall_mem_cons.mpr ⟨lw_p48, List.forall_mem_cons.mpr ⟨lw_p49, List.forall_mem_cons.mpr ⟨lw_p50, List.forall_mem_cons.mpr ⟨lw_p51, List.forall_mem_cons.mpr ⟨lw_p52, List.forall_mem_cons.mpr ⟨lw_p53, List.forall_mem_cons.mpr ⟨lw_p54, List.forall_mem_cons.mpr ⟨lw_p55, List.forall_mem_cons.mpr ⟨lw_p56, List.forall_mem_cons.mpr ⟨lw_p57, List.forall_mem_cons.mpr ⟨lw_p58, List.forall_mem_cons.mpr ⟨lw_p59, List.forall_mem_cons.mpr ⟨lw_p60, List.forall_mem_cons.mpr ⟨lw_p61, List.forall_mem_cons.mpr ⟨lw_p62, List.forall_mem_cons.mpr ⟨lw_p63, fun _ h => absurd h List.not_mem_nil⟩⟩⟩⟩⟩⟩⟩⟩⟩⟩⟩⟩⟩⟩⟩⟩
theorem lw_p64 : lw_okq (⟨"SeaReceiverModel", "sentence", "(IIIII)V"⟩, 38) := ⟨⟨by decide +kernel, by decide +kernel⟩, List.mem_of_getElem? (i := 827) (by decide +kernel), List.mem_of_getElem? (i := 1208) (by decide +kernel), List.mem_of_getElem? (i := 1209) (by decide +kernel)⟩
theorem lw_p65 : lw_okq (⟨"SeaReceiverModel", "writeAll", "(Ljava/lang/String;)V"⟩, 38) := ⟨⟨by decide +kernel, by decide +kernel⟩, List.mem_of_getElem? (i := 827) (by decide +kernel), List.mem_of_getElem? (i := 1213) (by decide +kernel), List.mem_of_getElem? (i := 1214) (by decide +kernel)⟩
theorem lw_p66 : lw_okq (⟨"SeaReceiverModel", "write", "(I)V"⟩, 38) := ⟨⟨by decide +kernel, by decide +kernel⟩, List.mem_of_getElem? (i := 827) (by decide +kernel), List.mem_of_getElem? (i := 1217) (by decide +kernel), List.mem_of_getElem? (i := 1218) (by decide +kernel)⟩
def lw_privs_5 : List (MethodName × Nat) := [(⟨"SeaReceiverModel", "sentence", "(IIIII)V"⟩, 38), (⟨"SeaReceiverModel", "writeAll", "(Ljava/lang/String;)V"⟩, 38), (⟨"SeaReceiverModel", "write", "(I)V"⟩, 38)]
theorem lw_r5 : ∀ q ∈ lw_privs_5, lw_okq q := List.forall_mem_cons.mpr ⟨lw_p64, List.forall_mem_cons.mpr ⟨lw_p65, List.forall_mem_cons.mpr ⟨lw_p66, fun _ h => absurd h List.not_mem_nil⟩⟩⟩
def lw_privs : List (MethodName × Nat) := lw_privs_1 ++ (lw_privs_2 ++ (lw_privs_3 ++ (lw_privs_4 ++ (lw_privs_5))))
def lw_tbl : List Cond := k2_sels lw_privs ++ tables_1
theorem lw_privs_ok : ∀ q ∈ lw_privs, lw_okq q := by
  show ∀ q ∈ lw_privs_1 ++ (lw_privs_2 ++ (lw_privs_3 ++ (lw_privs_4 ++ (lw_privs_5)))), lw_okq q
  exact List.forall_mem_append.mpr ⟨lw_r1, List.forall_mem_append.mpr ⟨lw_r2, List.forall_mem_append.mpr ⟨lw_r3, List.forall_mem_append.mpr ⟨lw_r4, lw_r5⟩⟩⟩⟩
-- ===== end of PART A; then your names; then what follows =====
end
section
def RX0 : String := "SeaReceiver$BitRow"
def TX0 : u_T := fun k => match k with
  | 0 => ("SeaReceiver$BitRow", "room", "I", true)
  | 1 => ("SeaReceiver$BitRow", "words", "[I", true)
  | _ => ("SeaReceiver$BitRow", "length", "I", false)
def tyX0 : Nat → FieldType := fun k => match k with
  | 0 => .int
  | 1 => .array .int
  | _ => .int
abbrev wsX00 : List Cond := u_ws RX0 TX0 3
theorem nmX0 : ∀ a, a < 3 → ∀ b, b < 3 → a ≠ b → (TX0 a).2.1 ≠ (TX0 b).2.1 := by decide +kernel
theorem tyX0_ok : ∀ k, k < 3 → parseFieldDescriptor (TX0 k).2.2.1 = some (tyX0 k) := by decide +kernel
abbrev cX0_init : ByteArray := prog_2_method_1_code
def yX0_init : MethodName := ⟨RX0, "<init>", "(I)V"⟩
abbrev cX0_empty : ByteArray := prog_2_method_2_code
def yX0_empty : MethodName := ⟨RX0, "empty", "()V"⟩
abbrev cX0_copy : ByteArray := prog_2_method_3_code
def yX0_copy : MethodName := ⟨RX0, "copy", "(LSeaReceiver$BitRow;)V"⟩
abbrev cX0_append : ByteArray := prog_2_method_4_code
def yX0_append : MethodName := ⟨RX0, "append", "(II)V"⟩
abbrev cX0_read : ByteArray := prog_2_method_5_code
def yX0_read : MethodName := ⟨RX0, "read", "(II)I"⟩
def RX1 : String := "SeaReceiver$Fields"
def TX1 : u_T := fun k => match k with
  | 0 => ("SeaReceiver$Fields", "signs", "[B", true)
  | 1 => ("SeaReceiver$Fields", "starts", "[I", true)
  | 2 => ("SeaReceiver$Fields", "many", "I", false)
  | _ => ("SeaReceiver$Fields", "good", "Z", false)
def tyX1 : Nat → FieldType := fun k => match k with
  | 0 => .array .byte
  | 1 => .array .int
  | 2 => .int
  | _ => .boolean
abbrev wsX10 : List Cond := u_ws RX1 TX1 4
theorem nmX1 : ∀ a, a < 4 → ∀ b, b < 4 → a ≠ b → (TX1 a).2.1 ≠ (TX1 b).2.1 := by decide +kernel
theorem tyX1_ok : ∀ k, k < 4 → parseFieldDescriptor (TX1 k).2.2.1 = some (tyX1 k) := by decide +kernel
abbrev cX1_init : ByteArray := prog_3_method_1_code
def yX1_init : MethodName := ⟨RX1, "<init>", "()V"⟩
abbrev cX1_split : ByteArray := prog_3_method_2_code
def yX1_split : MethodName := ⟨RX1, "split", "(LSeaReceiver$Sentence;)V"⟩
abbrev cX1_form : ByteArray := prog_3_method_3_code
def yX1_form : MethodName := ⟨RX1, "form", "(I)I"⟩
abbrev cX1_isForm : ByteArray := prog_3_method_4_code
def yX1_isForm : MethodName := ⟨RX1, "isForm", "(Ljava/lang/String;)Z"⟩
abbrev cX1_isEmpty : ByteArray := prog_3_method_5_code
def yX1_isEmpty : MethodName := ⟨RX1, "isEmpty", "(I)Z"⟩
abbrev cX1_from : ByteArray := prog_3_method_6_code
def yX1_from : MethodName := ⟨RX1, "from", "(I)I"⟩
abbrev cX1_to : ByteArray := prog_3_method_7_code
def yX1_to : MethodName := ⟨RX1, "to", "(I)I"⟩
abbrev cX1_at : ByteArray := prog_3_method_8_code
def yX1_at : MethodName := ⟨RX1, "at", "(I)I"⟩
abbrev cX1_wrong : ByteArray := prog_3_method_9_code
def yX1_wrong : MethodName := ⟨RX1, "wrong", "()I"⟩
abbrev cX1_digit : ByteArray := prog_3_method_10_code
def yX1_digit : MethodName := ⟨RX1, "digit", "(III)I"⟩
abbrev cX1_oneOf : ByteArray := prog_3_method_11_code
def yX1_oneOf : MethodName := ⟨RX1, "oneOf", "(ILjava/lang/String;)I"⟩
abbrev cX1_whole : ByteArray := prog_3_method_12_code
def yX1_whole : MethodName := ⟨RX1, "whole", "(III)I"⟩
abbrev cX1_decimal : ByteArray := prog_3_method_13_code
def yX1_decimal : MethodName := ⟨RX1, "decimal", "(III)I"⟩
abbrev cX1_signed : ByteArray := prog_3_method_14_code
def yX1_signed : MethodName := ⟨RX1, "signed", "(III)I"⟩
abbrev cX1_course : ByteArray := prog_3_method_15_code
def yX1_course : MethodName := ⟨RX1, "course", "(I)I"⟩
abbrev cX1_variation : ByteArray := prog_3_method_16_code
def yX1_variation : MethodName := ⟨RX1, "variation", "(I)I"⟩
abbrev cX1_time : ByteArray := prog_3_method_17_code
def yX1_time : MethodName := ⟨RX1, "time", "(I)I"⟩
abbrev cX1_date : ByteArray := prog_3_method_18_code
def yX1_date : MethodName := ⟨RX1, "date", "(I)I"⟩
abbrev cX1_latitude : ByteArray := prog_3_method_19_code
def yX1_latitude : MethodName := ⟨RX1, "latitude", "(I)I"⟩
abbrev cX1_longitude : ByteArray := prog_3_method_20_code
def yX1_longitude : MethodName := ⟨RX1, "longitude", "(I)I"⟩
abbrev cX1_angle : ByteArray := prog_3_method_21_code
def yX1_angle : MethodName := ⟨RX1, "angle", "(III)I"⟩
abbrev cX1_onSide : ByteArray := prog_3_method_22_code
def yX1_onSide : MethodName := ⟨RX1, "onSide", "(IIII)I"⟩
abbrev cX1_checkUnit : ByteArray := prog_3_method_23_code
def yX1_checkUnit : MethodName := ⟨RX1, "checkUnit", "(II)V"⟩
abbrev cX1_digits : ByteArray := prog_3_method_24_code
def yX1_digits : MethodName := ⟨RX1, "digits", "(IIIIII)I"⟩
abbrev cX1_digitAt : ByteArray := prog_3_method_25_code
def yX1_digitAt : MethodName := ⟨RX1, "digitAt", "(I)I"⟩
abbrev cX1_checkPack : ByteArray := prog_3_method_26_code
def yX1_checkPack : MethodName := ⟨RX1, "checkPack", "(I)V"⟩
abbrev cX1_unpack : ByteArray := prog_3_method_27_code
def yX1_unpack : MethodName := ⟨RX1, "unpack", "(IILSeaReceiver$BitRow;)V"⟩
def RX2 : String := "SeaReceiver$Fleet"
def TX2 : u_T := fun k => match k with
  | 0 => ("SeaReceiver$Fleet", "vessels", "[LSeaReceiver$Vessel;", true)
  | _ => ("SeaReceiver$Fleet", "size", "I", false)
def tyX2 : Nat → FieldType := fun k => match k with
  | 0 => .array (.object "SeaReceiver$Vessel")
  | _ => .int
abbrev wsX20 : List Cond := u_ws RX2 TX2 2
theorem nmX2 : ∀ a, a < 2 → ∀ b, b < 2 → a ≠ b → (TX2 a).2.1 ≠ (TX2 b).2.1 := by decide +kernel
theorem tyX2_ok : ∀ k, k < 2 → parseFieldDescriptor (TX2 k).2.2.1 = some (tyX2 k) := by decide +kernel
abbrev cX2_init : ByteArray := prog_4_method_1_code
def yX2_init : MethodName := ⟨RX2, "<init>", "()V"⟩
abbrev cX2_at : ByteArray := prog_4_method_2_code
def yX2_at : MethodName := ⟨RX2, "at", "(I)LSeaReceiver$Vessel;"⟩
abbrev cX2_numberOf : ByteArray := prog_4_method_3_code
def yX2_numberOf : MethodName := ⟨RX2, "numberOf", "(I)I"⟩
abbrev cX2_vesselOf : ByteArray := prog_4_method_4_code
def yX2_vesselOf : MethodName := ⟨RX2, "vesselOf", "(I)LSeaReceiver$Vessel;"⟩
def RX3 : String := "SeaReceiver$Parts"
def TX3 : u_T := fun k => match k with
  | 0 => ("SeaReceiver$Parts", "rows", "[LSeaReceiver$BitRow;", true)
  | 1 => ("SeaReceiver$Parts", "manys", "[I", true)
  | _ => ("SeaReceiver$Parts", "kept", "[I", true)
def tyX3 : Nat → FieldType := fun k => match k with
  | 0 => .array (.object "SeaReceiver$BitRow")
  | 1 => .array .int
  | _ => .array .int
abbrev wsX30 : List Cond := u_ws RX3 TX3 3
theorem nmX3 : ∀ a, a < 3 → ∀ b, b < 3 → a ≠ b → (TX3 a).2.1 ≠ (TX3 b).2.1 := by decide +kernel
theorem tyX3_ok : ∀ k, k < 3 → parseFieldDescriptor (TX3 k).2.2.1 = some (tyX3 k) := by decide +kernel
abbrev cX3_init : ByteArray := prog_5_method_1_code
def yX3_init : MethodName := ⟨RX3, "<init>", "()V"⟩
abbrev cX3_forget : ByteArray := prog_5_method_2_code
def yX3_forget : MethodName := ⟨RX3, "forget", "()V"⟩
abbrev cX3_keptInAll : ByteArray := prog_5_method_3_code
def yX3_keptInAll : MethodName := ⟨RX3, "keptInAll", "()I"⟩
abbrev cX3_drop : ByteArray := prog_5_method_4_code
def yX3_drop : MethodName := ⟨RX3, "drop", "(I)Z"⟩
abbrev cX3_awaits : ByteArray := prog_5_method_5_code
def yX3_awaits : MethodName := ⟨RX3, "awaits", "(III)Z"⟩
abbrev cX3_keep : ByteArray := prog_5_method_6_code
def yX3_keep : MethodName := ⟨RX3, "keep", "(II)LSeaReceiver$BitRow;"⟩
def RX4 : String := "SeaReceiver$Position"
def TX4 : u_T := fun k => match k with
  | 0 => ("SeaReceiver$Position", "told", "[I", true)
  | _ => ("SeaReceiver$Position", "fresh", "[I", true)
def tyX4 : Nat → FieldType := fun k => match k with
  | 0 => .array .int
  | _ => .array .int
abbrev wsX40 : List Cond := u_ws RX4 TX4 2
theorem nmX4 : ∀ a, a < 2 → ∀ b, b < 2 → a ≠ b → (TX4 a).2.1 ≠ (TX4 b).2.1 := by decide +kernel
theorem tyX4_ok : ∀ k, k < 2 → parseFieldDescriptor (TX4 k).2.2.1 = some (tyX4 k) := by decide +kernel
abbrev cX4_init : ByteArray := prog_6_method_1_code
def yX4_init : MethodName := ⟨RX4, "<init>", "()V"⟩
abbrev cX4_forget : ByteArray := prog_6_method_2_code
def yX4_forget : MethodName := ⟨RX4, "forget", "()V"⟩
abbrev cX4_takeGga : ByteArray := prog_6_method_3_code
def yX4_takeGga : MethodName := ⟨RX4, "takeGga", "(LSeaReceiver$Fields;)Z"⟩
abbrev cX4_takeRmc : ByteArray := prog_6_method_4_code
def yX4_takeRmc : MethodName := ⟨RX4, "takeRmc", "(LSeaReceiver$Fields;)Z"⟩
abbrev cX4_takeVtg : ByteArray := prog_6_method_5_code
def yX4_takeVtg : MethodName := ⟨RX4, "takeVtg", "(LSeaReceiver$Fields;)Z"⟩
abbrev cX4_settle : ByteArray := prog_6_method_6_code
def yX4_settle : MethodName := ⟨RX4, "settle", "(Z[I)Z"⟩
def RX5 : String := "SeaReceiver$Sentence"
def TX5 : u_T := fun k => match k with
  | 0 => ("SeaReceiver$Sentence", "signs", "[B", true)
  | 1 => ("SeaReceiver$Sentence", "stage", "I", false)
  | 2 => ("SeaReceiver$Sentence", "start", "I", false)
  | 3 => ("SeaReceiver$Sentence", "length", "I", false)
  | 4 => ("SeaReceiver$Sentence", "sum", "I", false)
  | _ => ("SeaReceiver$Sentence", "toldSum", "I", false)
def tyX5 : Nat → FieldType := fun k => match k with
  | 0 => .array .byte
  | 1 => .int
  | 2 => .int
  | 3 => .int
  | 4 => .int
  | _ => .int
abbrev wsX50 : List Cond := u_ws RX5 TX5 6
theorem nmX5 : ∀ a, a < 6 → ∀ b, b < 6 → a ≠ b → (TX5 a).2.1 ≠ (TX5 b).2.1 := by decide +kernel
theorem tyX5_ok : ∀ k, k < 6 → parseFieldDescriptor (TX5 k).2.2.1 = some (tyX5 k) := by decide +kernel
abbrev cX5_init : ByteArray := prog_7_method_1_code
def yX5_init : MethodName := ⟨RX5, "<init>", "()V"⟩
abbrev cX5_forget : ByteArray := prog_7_method_2_code
def yX5_forget : MethodName := ⟨RX5, "forget", "()V"⟩
abbrev cX5_underWay : ByteArray := prog_7_method_3_code
def yX5_underWay : MethodName := ⟨RX5, "underWay", "()I"⟩
abbrev cX5_at : ByteArray := prog_7_method_4_code
def yX5_at : MethodName := ⟨RX5, "at", "(I)I"⟩
abbrev cX5_hear : ByteArray := prog_7_method_5_code
def yX5_hear : MethodName := ⟨RX5, "hear", "(I)I"⟩
abbrev cX5_begin : ByteArray := prog_7_method_6_code
def yX5_begin : MethodName := ⟨RX5, "begin", "(I)I"⟩
abbrev cX5_step : ByteArray := prog_7_method_7_code
def yX5_step : MethodName := ⟨RX5, "step", "(ZI)I"⟩
abbrev cX5_store : ByteArray := prog_7_method_8_code
def yX5_store : MethodName := ⟨RX5, "store", "(I)I"⟩
abbrev cX5_hearDigit : ByteArray := prog_7_method_9_code
def yX5_hearDigit : MethodName := ⟨RX5, "hearDigit", "(II)I"⟩
def RX6 : String := "SeaReceiver$SignRow"
def TX6 : u_T := fun k => match k with
  | 0 => ("SeaReceiver$SignRow", "signs", "[B", true)
  | _ => ("SeaReceiver$SignRow", "size", "I", false)
def tyX6 : Nat → FieldType := fun k => match k with
  | 0 => .array .byte
  | _ => .int
abbrev wsX60 : List Cond := u_ws RX6 TX6 2
theorem nmX6 : ∀ a, a < 2 → ∀ b, b < 2 → a ≠ b → (TX6 a).2.1 ≠ (TX6 b).2.1 := by decide +kernel
theorem tyX6_ok : ∀ k, k < 2 → parseFieldDescriptor (TX6 k).2.2.1 = some (tyX6 k) := by decide +kernel
abbrev cX6_init : ByteArray := prog_8_method_1_code
def yX6_init : MethodName := ⟨RX6, "<init>", "(I)V"⟩
abbrev cX6_hasRoom : ByteArray := prog_8_method_2_code
def yX6_hasRoom : MethodName := ⟨RX6, "hasRoom", "(I)Z"⟩
abbrev cX6_add : ByteArray := prog_8_method_3_code
def yX6_add : MethodName := ⟨RX6, "add", "(I)V"⟩
abbrev cX6_addWord : ByteArray := prog_8_method_4_code
def yX6_addWord : MethodName := ⟨RX6, "addWord", "(I)V"⟩
abbrev cX6_addText : ByteArray := prog_8_method_5_code
def yX6_addText : MethodName := ⟨RX6, "addText", "(Ljava/lang/String;)V"⟩
abbrev cX6_at : ByteArray := prog_8_method_6_code
def yX6_at : MethodName := ⟨RX6, "at", "(I)I"⟩
def RX7 : String := "SeaReceiver$Vessel"
def TX7 : u_T := fun k => match k with
  | 0 => ("SeaReceiver$Vessel", "values", "[I", true)
  | 1 => ("SeaReceiver$Vessel", "lengths", "[I", true)
  | _ => ("SeaReceiver$Vessel", "signs", "[B", true)
def tyX7 : Nat → FieldType := fun k => match k with
  | 0 => .array .int
  | 1 => .array .int
  | _ => .array .byte
abbrev wsX70 : List Cond := u_ws RX7 TX7 3
theorem nmX7 : ∀ a, a < 3 → ∀ b, b < 3 → a ≠ b → (TX7 a).2.1 ≠ (TX7 b).2.1 := by decide +kernel
theorem tyX7_ok : ∀ k, k < 3 → parseFieldDescriptor (TX7 k).2.2.1 = some (tyX7 k) := by decide +kernel
abbrev cX7_init : ByteArray := prog_9_method_1_code
def yX7_init : MethodName := ⟨RX7, "<init>", "()V"⟩
abbrev cX7_bitsOf : ByteArray := prog_9_method_2_code
def yX7_bitsOf : MethodName := ⟨RX7, "bitsOf", "(I)I"⟩
abbrev cX7_layoutOf : ByteArray := prog_9_method_3_code
def yX7_layoutOf : MethodName := ⟨RX7, "layoutOf", "(I)[I"⟩
abbrev cX7_hasSign : ByteArray := prog_9_method_4_code
def yX7_hasSign : MethodName := ⟨RX7, "hasSign", "(I)Z"⟩
abbrev cX7_begin : ByteArray := prog_9_method_5_code
def yX7_begin : MethodName := ⟨RX7, "begin", "(I)V"⟩
abbrev cX7_learn : ByteArray := prog_9_method_6_code
def yX7_learn : MethodName := ⟨RX7, "learn", "(ILSeaReceiver$BitRow;)V"⟩
abbrev cX7_learnText : ByteArray := prog_9_method_7_code
def yX7_learnText : MethodName := ⟨RX7, "learnText", "(ILSeaReceiver$BitRow;II)V"⟩
abbrev cX7_signOf : ByteArray := prog_9_method_8_code
def yX7_signOf : MethodName := ⟨RX7, "signOf", "(II)I"⟩
abbrev cX7_tell : ByteArray := prog_9_method_9_code
def yX7_tell : MethodName := ⟨RX7, "tell", "(ILSeaReceiver$BitRow;)V"⟩
abbrev cX7_tellText : ByteArray := prog_9_method_10_code
def yX7_tellText : MethodName := ⟨RX7, "tellText", "(ILSeaReceiver$BitRow;I)V"⟩
def RX8 : String := "SeaReceiver"
def TX8 : u_T := fun k => match k with
  | 0 => ("SeaReceiver", "tallies", "[I", true)
  | 1 => ("SeaReceiver", "tape", "LSeaReceiver$SignRow;", true)
  | 2 => ("SeaReceiver", "sent", "LSeaReceiver$SignRow;", true)
  | 3 => ("SeaReceiver", "sentence", "LSeaReceiver$Sentence;", true)
  | 4 => ("SeaReceiver", "fields", "LSeaReceiver$Fields;", true)
  | 5 => ("SeaReceiver", "position", "LSeaReceiver$Position;", true)
  | 6 => ("SeaReceiver", "parts", "LSeaReceiver$Parts;", true)
  | 7 => ("SeaReceiver", "message", "LSeaReceiver$BitRow;", true)
  | 8 => ("SeaReceiver", "fleet", "LSeaReceiver$Fleet;", true)
  | _ => ("SeaReceiver", "report", "LSeaReceiver$BitRow;", true)
def tyX8 : Nat → FieldType := fun k => match k with
  | 0 => .array .int
  | 1 => .object "SeaReceiver$SignRow"
  | 2 => .object "SeaReceiver$SignRow"
  | 3 => .object "SeaReceiver$Sentence"
  | 4 => .object "SeaReceiver$Fields"
  | 5 => .object "SeaReceiver$Position"
  | 6 => .object "SeaReceiver$Parts"
  | 7 => .object "SeaReceiver$BitRow"
  | 8 => .object "SeaReceiver$Fleet"
  | _ => .object "SeaReceiver$BitRow"
abbrev wsX80 : List Cond := u_ws RX8 TX8 10
theorem nmX8 : ∀ a, a < 10 → ∀ b, b < 10 → a ≠ b → (TX8 a).2.1 ≠ (TX8 b).2.1 := by decide +kernel
theorem tyX8_ok : ∀ k, k < 10 → parseFieldDescriptor (TX8 k).2.2.1 = some (tyX8 k) := by decide +kernel
abbrev cX8_init : ByteArray := prog_1_method_1_code
def yX8_init : MethodName := ⟨RX8, "<init>", "()V"⟩
abbrev cX8_feed : ByteArray := prog_1_method_2_code
def yX8_feed : MethodName := ⟨RX8, "feed", "(IIIII)I"⟩
abbrev cX8_end : ByteArray := prog_1_method_3_code
def yX8_end : MethodName := ⟨RX8, "end", "(I)Z"⟩
abbrev cX8_stream : ByteArray := prog_1_method_4_code
def yX8_stream : MethodName := ⟨RX8, "stream", "()I"⟩
abbrev cX8_count : ByteArray := prog_1_method_5_code
def yX8_count : MethodName := ⟨RX8, "count", "(I)I"⟩
abbrev cX8_fix : ByteArray := prog_1_method_6_code
def yX8_fix : MethodName := ⟨RX8, "fix", "(I)I"⟩
abbrev cX8_find : ByteArray := prog_1_method_7_code
def yX8_find : MethodName := ⟨RX8, "find", "(I)I"⟩
abbrev cX8_vessel : ByteArray := prog_1_method_8_code
def yX8_vessel : MethodName := ⟨RX8, "vessel", "(II)I"⟩
abbrev cX8_letter : ByteArray := prog_1_method_9_code
def yX8_letter : MethodName := ⟨RX8, "letter", "(III)I"⟩
abbrev cX8_bits : ByteArray := prog_1_method_10_code
def yX8_bits : MethodName := ⟨RX8, "bits", "(II)I"⟩
abbrev cX8_send : ByteArray := prog_1_method_11_code
def yX8_send : MethodName := ⟨RX8, "send", "(III)I"⟩
abbrev cX8_out : ByteArray := prog_1_method_12_code
def yX8_out : MethodName := ⟨RX8, "out", "(I)I"⟩
abbrev cX8_again : ByteArray := prog_1_method_13_code
def yX8_again : MethodName := ⟨RX8, "again", "()I"⟩
abbrev cX8_clear : ByteArray := prog_1_method_14_code
def yX8_clear : MethodName := ⟨RX8, "clear", "()V"⟩
abbrev cX8_judge : ByteArray := prog_1_method_15_code
def yX8_judge : MethodName := ⟨RX8, "judge", "()I"⟩
abbrev cX8_takePart : ByteArray := prog_1_method_16_code
def yX8_takePart : MethodName := ⟨RX8, "takePart", "()Z"⟩
abbrev cX8_isInOrder : ByteArray := prog_1_method_17_code
def yX8_isInOrder : MethodName := ⟨RX8, "isInOrder", "(III)Z"⟩
abbrev cX8_receive : ByteArray := prog_1_method_18_code
def yX8_receive : MethodName := ⟨RX8, "receive", "()V"⟩
abbrev cX8_writeSentence : ByteArray := prog_1_method_19_code
def yX8_writeSentence : MethodName := ⟨RX8, "writeSentence", "(Ljava/lang/String;III)V"⟩
abbrev cX8_closeSentence : ByteArray := prog_1_method_20_code
def yX8_closeSentence : MethodName := ⟨RX8, "closeSentence", "(I)V"⟩
abbrev cX8_sixteen : ByteArray := prog_1_method_21_code
def yX8_sixteen : MethodName := ⟨RX8, "sixteen", "(I)I"⟩
def RX9 : String := "SeaReceiverModel"
def TX9 : u_T := fun k => match k with
  | 0 => ("SeaReceiverModel", "thrown", "I", false)
  | 1 => ("SeaReceiverModel", "tape", "[I", true)
  | 2 => ("SeaReceiverModel", "taped", "I", false)
  | 3 => ("SeaReceiverModel", "out", "[I", true)
  | 4 => ("SeaReceiverModel", "outs", "I", false)
  | 5 => ("SeaReceiverModel", "may", "I", false)
  | 6 => ("SeaReceiverModel", "sign", "[I", true)
  | 7 => ("SeaReceiverModel", "signs", "I", false)
  | 8 => ("SeaReceiverModel", "sum", "I", false)
  | 9 => ("SeaReceiverModel", "told", "I", false)
  | 10 => ("SeaReceiverModel", "many", "[I", true)
  | 11 => ("SeaReceiverModel", "from", "[I", true)
  | 12 => ("SeaReceiverModel", "to", "[I", true)
  | 13 => ("SeaReceiverModel", "fields", "I", false)
  | 14 => ("SeaReceiverModel", "good", "Z", false)
  | 15 => ("SeaReceiverModel", "value", "[I", true)
  | 16 => ("SeaReceiverModel", "fix", "[I", true)
  | 17 => ("SeaReceiverModel", "parts", "I", false)
  | 18 => ("SeaReceiverModel", "which", "I", false)
  | 19 => ("SeaReceiverModel", "id", "I", false)
  | 20 => ("SeaReceiverModel", "fill", "I", false)
  | 21 => ("SeaReceiverModel", "ofMany", "[I", true)
  | 22 => ("SeaReceiverModel", "came", "[I", true)
  | 23 => ("SeaReceiverModel", "long1", "[I", true)
  | 24 => ("SeaReceiverModel", "kept", "[Z", true)
  | 25 => ("SeaReceiverModel", "bit", "[Z", true)
  | 26 => ("SeaReceiverModel", "bits", "I", false)
  | 27 => ("SeaReceiverModel", "hasMessage", "Z", false)
  | 28 => ("SeaReceiverModel", "vessels", "I", false)
  | 29 => ("SeaReceiverModel", "row", "[I", true)
  | 30 => ("SeaReceiverModel", "text", "[I", true)
  | 31 => ("SeaReceiverModel", "textLong", "[I", true)
  | 32 => ("SeaReceiverModel", "place", "I", false)
  | 33 => ("SeaReceiverModel", "writes", "Z", false)
  | 34 => ("SeaReceiverModel", "now", "I", false)
  | 35 => ("SeaReceiverModel", "sent", "[Z", true)
  | 36 => ("SeaReceiverModel", "sents", "I", false)
  | _ => ("SeaReceiverModel", "check", "I", false)
def tyX9 : Nat → FieldType := fun k => match k with
  | 0 => .int
  | 1 => .array .int
  | 2 => .int
  | 3 => .array .int
  | 4 => .int
  | 5 => .int
  | 6 => .array .int
  | 7 => .int
  | 8 => .int
  | 9 => .int
  | 10 => .array .int
  | 11 => .array .int
  | 12 => .array .int
  | 13 => .int
  | 14 => .boolean
  | 15 => .array .int
  | 16 => .array .int
  | 17 => .int
  | 18 => .int
  | 19 => .int
  | 20 => .int
  | 21 => .array .int
  | 22 => .array .int
  | 23 => .array .int
  | 24 => .array .boolean
  | 25 => .array .boolean
  | 26 => .int
  | 27 => .boolean
  | 28 => .int
  | 29 => .array .int
  | 30 => .array .int
  | 31 => .array .int
  | 32 => .int
  | 33 => .boolean
  | 34 => .int
  | 35 => .array .boolean
  | 36 => .int
  | _ => .int
abbrev wsX90 : List Cond := u_ws RX9 TX9 38
theorem nmX9 : ∀ a, a < 38 → ∀ b, b < 38 → a ≠ b → (TX9 a).2.1 ≠ (TX9 b).2.1 := by decide +kernel
theorem tyX9_ok : ∀ k, k < 38 → parseFieldDescriptor (TX9 k).2.2.1 = some (tyX9 k) := by decide +kernel
abbrev cX9_thrown : ByteArray := prog_11_method_1_code
def yX9_thrown : MethodName := ⟨RX9, "thrown", "()I"⟩
abbrev cX9_in : ByteArray := prog_11_method_2_code
def yX9_in : MethodName := ⟨RX9, "in", "(JJJ)Z"⟩
abbrev cX9_refuse : ByteArray := prog_11_method_3_code
def yX9_refuse : MethodName := ⟨RX9, "refuse", "(I)I"⟩
abbrev cX9_init : ByteArray := prog_11_method_4_code
def yX9_init : MethodName := ⟨RX9, "<init>", "()V"⟩
abbrev cX9_feed : ByteArray := prog_11_method_5_code
def yX9_feed : MethodName := ⟨RX9, "feed", "(IIIII)I"⟩
abbrev cX9_end : ByteArray := prog_11_method_6_code
def yX9_end : MethodName := ⟨RX9, "end", "(I)Z"⟩
abbrev cX9_sixteen : ByteArray := prog_11_method_7_code
def yX9_sixteen : MethodName := ⟨RX9, "sixteen", "(I)I"⟩
abbrev cX9_stream : ByteArray := prog_11_method_8_code
def yX9_stream : MethodName := ⟨RX9, "stream", "()I"⟩
abbrev cX9_comes : ByteArray := prog_11_method_9_code
def yX9_comes : MethodName := ⟨RX9, "comes", "(I)V"⟩
abbrev cX9_ended : ByteArray := prog_11_method_10_code
def yX9_ended : MethodName := ⟨RX9, "ended", "()V"⟩
abbrev cX9_ends : ByteArray := prog_11_method_11_code
def yX9_ends : MethodName := ⟨RX9, "ends", "(Ljava/lang/String;)Z"⟩
abbrev cX9_form : ByteArray := prog_11_method_12_code
def yX9_form : MethodName := ⟨RX9, "form", "()I"⟩
abbrev cX9_size : ByteArray := prog_11_method_13_code
def yX9_size : MethodName := ⟨RX9, "size", "(I)I"⟩
abbrev cX9_at : ByteArray := prog_11_method_14_code
def yX9_at : MethodName := ⟨RX9, "at", "(II)I"⟩
abbrev cX9_isDigit : ByteArray := prog_11_method_15_code
def yX9_isDigit : MethodName := ⟨RX9, "isDigit", "(I)Z"⟩
abbrev cX9_bad : ByteArray := prog_11_method_16_code
def yX9_bad : MethodName := ⟨RX9, "bad", "()I"⟩
abbrev cX9_digits : ByteArray := prog_11_method_17_code
def yX9_digits : MethodName := ⟨RX9, "digits", "(II)I"⟩
abbrev cX9_whole : ByteArray := prog_11_method_18_code
def yX9_whole : MethodName := ⟨RX9, "whole", "(III)I"⟩
abbrev cX9_behind : ByteArray := prog_11_method_19_code
def yX9_behind : MethodName := ⟨RX9, "behind", "(IIII)I"⟩
abbrev cX9_ten : ByteArray := prog_11_method_20_code
def yX9_ten : MethodName := ⟨RX9, "ten", "(I)I"⟩
abbrev cX9_decimal : ByteArray := prog_11_method_21_code
def yX9_decimal : MethodName := ⟨RX9, "decimal", "(IIIZ)I"⟩
abbrev cX9_below : ByteArray := prog_11_method_22_code
def yX9_below : MethodName := ⟨RX9, "below", "(II)I"⟩
abbrev cX9_number : ByteArray := prog_11_method_23_code
def yX9_number : MethodName := ⟨RX9, "number", "(II)I"⟩
abbrev cX9_time : ByteArray := prog_11_method_24_code
def yX9_time : MethodName := ⟨RX9, "time", "(I)I"⟩
abbrev cX9_date : ByteArray := prog_11_method_25_code
def yX9_date : MethodName := ⟨RX9, "date", "(I)I"⟩
abbrev cX9_one : ByteArray := prog_11_method_26_code
def yX9_one : MethodName := ⟨RX9, "one", "(ILjava/lang/String;)I"⟩
abbrev cX9_sided : ByteArray := prog_11_method_27_code
def yX9_sided : MethodName := ⟨RX9, "sided", "(IILjava/lang/String;)I"⟩
abbrev cX9_place : ByteArray := prog_11_method_28_code
def yX9_place : MethodName := ⟨RX9, "place", "(IIILjava/lang/String;)I"⟩
abbrev cX9_measured : ByteArray := prog_11_method_29_code
def yX9_measured : MethodName := ⟨RX9, "measured", "(IILjava/lang/String;)I"⟩
abbrev cX9_fits : ByteArray := prog_11_method_30_code
def yX9_fits : MethodName := ⟨RX9, "fits", "(I)Z"⟩
abbrev cX9_gga : ByteArray := prog_11_method_31_code
def yX9_gga : MethodName := ⟨RX9, "gga", "()V"⟩
abbrev cX9_rmc : ByteArray := prog_11_method_32_code
def yX9_rmc : MethodName := ⟨RX9, "rmc", "()V"⟩
abbrev cX9_vtg : ByteArray := prog_11_method_33_code
def yX9_vtg : MethodName := ⟨RX9, "vtg", "()V"⟩
abbrev cX9_part : ByteArray := prog_11_method_34_code
def yX9_part : MethodName := ⟨RX9, "part", "()V"⟩
abbrev cX9_taken : ByteArray := prog_11_method_35_code
def yX9_taken : MethodName := ⟨RX9, "taken", "(I)V"⟩
abbrev cX9_keep : ByteArray := prog_11_method_36_code
def yX9_keep : MethodName := ⟨RX9, "keep", "(II)V"⟩
abbrev cX9_parted : ByteArray := prog_11_method_37_code
def yX9_parted : MethodName := ⟨RX9, "parted", "()V"⟩
abbrev cX9_read : ByteArray := prog_11_method_38_code
def yX9_read : MethodName := ⟨RX9, "read", "(II)I"⟩
abbrev cX9_signed : ByteArray := prog_11_method_39_code
def yX9_signed : MethodName := ⟨RX9, "signed", "(II)I"⟩
abbrev cX9_found : ByteArray := prog_11_method_40_code
def yX9_found : MethodName := ⟨RX9, "found", "(I)I"⟩
abbrev cX9_message : ByteArray := prog_11_method_41_code
def yX9_message : MethodName := ⟨RX9, "message", "()V"⟩
abbrev cX9_go : ByteArray := prog_11_method_42_code
def yX9_go : MethodName := ⟨RX9, "go", "(IIZ)V"⟩
abbrev cX9_skip : ByteArray := prog_11_method_43_code
def yX9_skip : MethodName := ⟨RX9, "skip", "(I)V"⟩
abbrev cX9_room : ByteArray := prog_11_method_44_code
def yX9_room : MethodName := ⟨RX9, "room", "(I)I"⟩
abbrev cX9_words : ByteArray := prog_11_method_45_code
def yX9_words : MethodName := ⟨RX9, "words", "(I)V"⟩
abbrev cX9_where : ByteArray := prog_11_method_46_code
def yX9_where : MethodName := ⟨RX9, "where", "()V"⟩
abbrev cX9_way : ByteArray := prog_11_method_47_code
def yX9_way : MethodName := ⟨RX9, "way", "()V"⟩
abbrev cX9_reports : ByteArray := prog_11_method_48_code
def yX9_reports : MethodName := ⟨RX9, "reports", "(II)V"⟩
abbrev cX9_still : ByteArray := prog_11_method_49_code
def yX9_still : MethodName := ⟨RX9, "still", "()V"⟩
abbrev cX9_count : ByteArray := prog_11_method_50_code
def yX9_count : MethodName := ⟨RX9, "count", "(I)I"⟩
abbrev cX9_fix : ByteArray := prog_11_method_51_code
def yX9_fix : MethodName := ⟨RX9, "fix", "(I)I"⟩
abbrev cX9_find : ByteArray := prog_11_method_52_code
def yX9_find : MethodName := ⟨RX9, "find", "(I)I"⟩
abbrev cX9_vessel : ByteArray := prog_11_method_53_code
def yX9_vessel : MethodName := ⟨RX9, "vessel", "(II)I"⟩
abbrev cX9_letter : ByteArray := prog_11_method_54_code
def yX9_letter : MethodName := ⟨RX9, "letter", "(III)I"⟩
abbrev cX9_bits : ByteArray := prog_11_method_55_code
def yX9_bits : MethodName := ⟨RX9, "bits", "(II)I"⟩
abbrev cX9_put : ByteArray := prog_11_method_56_code
def yX9_put : MethodName := ⟨RX9, "put", "(II)V"⟩
abbrev cX9_write : ByteArray := prog_11_method_57_code
def yX9_write : MethodName := ⟨RX9, "write", "(I)V"⟩
abbrev cX9_writeAll : ByteArray := prog_11_method_58_code
def yX9_writeAll : MethodName := ⟨RX9, "writeAll", "(Ljava/lang/String;)V"⟩
abbrev cX9_hexOf : ByteArray := prog_11_method_59_code
def yX9_hexOf : MethodName := ⟨RX9, "hexOf", "(I)I"⟩
abbrev cX9_sentence : ByteArray := prog_11_method_60_code
def yX9_sentence : MethodName := ⟨RX9, "sentence", "(IIIII)V"⟩
abbrev cX9_send : ByteArray := prog_11_method_61_code
def yX9_send : MethodName := ⟨RX9, "send", "(III)I"⟩
abbrev cX9_out : ByteArray := prog_11_method_62_code
def yX9_out : MethodName := ⟨RX9, "out", "(I)I"⟩
abbrev cX9_again : ByteArray := prog_11_method_63_code
def yX9_again : MethodName := ⟨RX9, "again", "()I"⟩
abbrev cX9_forget : ByteArray := prog_11_method_64_code
def yX9_forget : MethodName := ⟨RX9, "forget", "()V"⟩
abbrev cX9_clear : ByteArray := prog_11_method_65_code
def yX9_clear : MethodName := ⟨RX9, "clear", "()V"⟩
def RJ11 : String := "java/lang/Character"
def TJ11 : u_T := fun k => match k with
  | _ => ("", "", "", false)
def tyJ11 : Nat → FieldType := fun k => match k with
  | _ => .int
abbrev cJ11_isValidCodePoint_9a6ad : ByteArray := prog_12_method_11_code
def yJ11_isValidCodePoint_9a6ad : MethodName := ⟨RJ11, "isValidCodePoint", "(I)Z"⟩
abbrev cJ11_highSurrogate_5068e : ByteArray := prog_12_method_28_code
def yJ11_highSurrogate_5068e : MethodName := ⟨RJ11, "highSurrogate", "(I)C"⟩
abbrev cJ11_lowSurrogate_5068e : ByteArray := prog_12_method_29_code
def yJ11_lowSurrogate_5068e : MethodName := ⟨RJ11, "lowSurrogate", "(I)C"⟩
def RJ9 : String := "java/lang/Math"
def TJ9 : u_T := fun k => match k with
  | _ => ("", "", "", false)
def tyJ9 : Nat → FieldType := fun k => match k with
  | _ => .int
abbrev cJ9_max_7cf53 : ByteArray := prog_15_method_65_code
def yJ9_max_7cf53 : MethodName := ⟨RJ9, "max", "(II)I"⟩
abbrev cJ9_min_7cf53 : ByteArray := prog_15_method_69_code
def yJ9_min_7cf53 : MethodName := ⟨RJ9, "min", "(II)I"⟩
def RJ0 : String := "java/lang/String"
def TJ0 : u_T := fun k => match k with
  | _ => ("", "", "", false)
def tyJ0 : Nat → FieldType := fun k => match k with
  | _ => .int
abbrev cJ0_length_8abf5 : ByteArray := prog_17_method_54_code
def yJ0_length_8abf5 : MethodName := ⟨RJ0, "length", "()I"⟩
abbrev cJ0_charAt_5068e : ByteArray := prog_17_method_56_code
def yJ0_charAt_5068e : MethodName := ⟨RJ0, "charAt", "(I)C"⟩
abbrev cJ0_indexOf_0f7a4 : ByteArray := prog_17_method_79_code
def yJ0_indexOf_0f7a4 : MethodName := ⟨RJ0, "indexOf", "(I)I"⟩
abbrev cJ0_indexOf_7cf53 : ByteArray := prog_17_method_80_code
def yJ0_indexOf_7cf53 : MethodName := ⟨RJ0, "indexOf", "(II)I"⟩
abbrev cJ0_coder_7d493 : ByteArray := prog_17_method_152_code
def yJ0_coder_7d493 : MethodName := ⟨RJ0, "coder", "()B"⟩
abbrev cJ0_isLatin1_aae02 : ByteArray := prog_17_method_154_code
def yJ0_isLatin1_aae02 : MethodName := ⟨RJ0, "isLatin1", "()Z"⟩
abbrev cJ0_checkIndex_df160 : ByteArray := prog_17_method_155_code
def yJ0_checkIndex_df160 : MethodName := ⟨RJ0, "checkIndex", "(II)V"⟩
abbrev cJ0_checkBoundsBeginEnd_23922 : ByteArray := prog_17_method_158_code
def yJ0_checkBoundsBeginEnd_23922 : MethodName := ⟨RJ0, "checkBoundsBeginEnd", "(III)V"⟩
def RJ1 : String := "java/lang/StringLatin1"
def TJ1 : u_T := fun k => match k with
  | _ => ("", "", "", false)
def tyJ1 : Nat → FieldType := fun k => match k with
  | _ => .int
abbrev cJ1_charAt_3b067 : ByteArray := prog_18_method_2_code
def yJ1_charAt_3b067 : MethodName := ⟨RJ1, "charAt", "([BI)C"⟩
abbrev cJ1_canEncode_9a6ad : ByteArray := prog_18_method_4_code
def yJ1_canEncode_9a6ad : MethodName := ⟨RJ1, "canEncode", "(I)Z"⟩
abbrev cJ1_indexOf_4cfef : ByteArray := prog_18_method_22_code
def yJ1_indexOf_4cfef : MethodName := ⟨RJ1, "indexOf", "([BIII)I"⟩
abbrev cJ1_indexOfChar_4cfef : ByteArray := prog_18_method_23_code
def yJ1_indexOfChar_4cfef : MethodName := ⟨RJ1, "indexOfChar", "([BIII)I"⟩
def RJ2 : String := "java/lang/StringUTF16"
def TJ2 : u_T := fun k => match k with
  | _ => ("", "", "", false)
def tyJ2 : Nat → FieldType := fun k => match k with
  | _ => .int
abbrev cJ2_getChar_3b067 : ByteArray := prog_19_method_5_code
def yJ2_getChar_3b067 : MethodName := ⟨RJ2, "getChar", "([BI)C"⟩
abbrev cJ2_length_9d52b : ByteArray := prog_19_method_6_code
def yJ2_length_9d52b : MethodName := ⟨RJ2, "length", "([B)I"⟩
abbrev cJ2_indexOf_4cfef : ByteArray := prog_19_method_40_code
def yJ2_indexOf_4cfef : MethodName := ⟨RJ2, "indexOf", "([BIII)I"⟩
abbrev cJ2_indexOfChar_4cfef : ByteArray := prog_19_method_47_code
def yJ2_indexOfChar_4cfef : MethodName := ⟨RJ2, "indexOfChar", "([BIII)I"⟩
abbrev cJ2_indexOfCharUnsafe_4cfef : ByteArray := prog_19_method_48_code
def yJ2_indexOfCharUnsafe_4cfef : MethodName := ⟨RJ2, "indexOfCharUnsafe", "([BIII)I"⟩
abbrev cJ2_indexOfSupplementary_4cfef : ByteArray := prog_19_method_49_code
def yJ2_indexOfSupplementary_4cfef : MethodName := ⟨RJ2, "indexOfSupplementary", "([BIII)I"⟩
abbrev cJ2_charAt_3b067 : ByteArray := prog_19_method_83_code
def yJ2_charAt_3b067 : MethodName := ⟨RJ2, "charAt", "([BI)C"⟩
abbrev cJ2_checkIndex_2214a : ByteArray := prog_19_method_91_code
def yJ2_checkIndex_2214a : MethodName := ⟨RJ2, "checkIndex", "(I[B)V"⟩
abbrev cJ2_checkBoundsBeginEnd_d044e : ByteArray := prog_19_method_93_code
def yJ2_checkBoundsBeginEnd_d044e : MethodName := ⟨RJ2, "checkBoundsBeginEnd", "(II[B)V"⟩
def RJ7 : String := "java/util/Arrays"
def TJ7 : u_T := fun k => match k with
  | _ => ("", "", "", false)
def tyJ7 : Nat → FieldType := fun k => match k with
  | _ => .int
abbrev cJ7_fill_53178 : ByteArray := prog_21_method_103_code
def yJ7_fill_53178 : MethodName := ⟨RJ7, "fill", "([II)V"⟩
def RJ3 : String := "jdk/internal/util/Preconditions"
def TJ3 : u_T := fun k => match k with
  | _ => ("", "", "", false)
def tyJ3 : Nat → FieldType := fun k => match k with
  | _ => .int
abbrev cJ3_checkIndex_8e157 : ByteArray := prog_23_method_11_code
def yJ3_checkIndex_8e157 : MethodName := ⟨RJ3, "checkIndex", "(IILjava/util/function/BiFunction;)I"⟩
abbrev cJ3_checkFromToIndex_8c36e : ByteArray := prog_23_method_12_code
def yJ3_checkFromToIndex_8c36e : MethodName := ⟨RJ3, "checkFromToIndex", "(IIILjava/util/function/BiFunction;)I"⟩
def RL : String := "SeaReceiverLaw"
abbrev cL_fix : ByteArray := method_3_code
def yL_fix : MethodName := ⟨RL, "fix", "(LSeaReceiver;I[J)I"⟩
abbrev cL_vessel : ByteArray := method_4_code
def yL_vessel : MethodName := ⟨RL, "vessel", "(LSeaReceiver;II[J)I"⟩
abbrev cL_bits : ByteArray := method_5_code
def yL_bits : MethodName := ⟨RL, "bits", "(LSeaReceiver;II[J)I"⟩
abbrev cL_send : ByteArray := method_6_code
def yL_send : MethodName := ⟨RL, "send", "(LSeaReceiver;III[J)I"⟩
abbrev cL_law : ByteArray := code
def yL_law : MethodName := ⟨RL, "law", "([I)Z"⟩
abbrev vwCl : List vw_C := [(RX0, TX0, 3), (RX1, TX1, 4), (RX2, TX2, 2), (RX3, TX3, 3), (RX4, TX4, 2), (RX5, TX5, 6), (RX6, TX6, 2), (RX7, TX7, 3), (RX8, TX8, 10), (RX9, TX9, 38)]
/-- the words of the tables that stay good over calls: the words of every method -/
def sv_w : List Cond := lw_tbl.filter goodWord
end
section
theorem sv_t1 {w : Cond} (h : w ∈ tables_1) (hg : goodWord w = true) : w ∈ sv_w := List.mem_filter.mpr ⟨List.mem_append_right _ h, hg⟩
theorem sv_m1 {w : Cond} (i : Nat) (h : tables_1_1[i]? = some w) (hg : goodWord w = true) : w ∈ sv_w := sv_t1 (List.mem_append_left _ (List.mem_of_getElem? h)) hg
theorem sv_m2 {w : Cond} (i : Nat) (h : tables_1_2[i]? = some w) (hg : goodWord w = true) : w ∈ sv_w := sv_t1 (List.mem_append_right _ (List.mem_append_left _ (List.mem_of_getElem? h))) hg
theorem sv_m3 {w : Cond} (i : Nat) (h : tables_1_3[i]? = some w) (hg : goodWord w = true) : w ∈ sv_w := sv_t1 (List.mem_append_right _ (List.mem_append_right _ (List.mem_append_left _ (List.mem_of_getElem? h)))) hg
theorem sv_m4 {w : Cond} (i : Nat) (h : tables_1_4[i]? = some w) (hg : goodWord w = true) : w ∈ sv_w := sv_t1 (List.mem_append_right _ (List.mem_append_right _ (List.mem_append_right _ (List.mem_append_left _ (List.mem_of_getElem? h))))) hg
theorem sv_m5 {w : Cond} (i : Nat) (h : tables_1_5[i]? = some w) (hg : goodWord w = true) : w ∈ sv_w := sv_t1 (List.mem_append_right _ (List.mem_append_right _ (List.mem_append_right _ (List.mem_append_right _ (List.mem_append_left _ (List.mem_of_getElem? h)))))) hg
theorem sv_m6 {w : Cond} (i : Nat) (h : tables_1_6[i]? = some w) (hg : goodWord w = true) : w ∈ sv_w := sv_t1 (List.mem_append_right _ (List.mem_append_right _ (List.mem_append_right _ (List.mem_append_right _ (List.mem_append_right _ ((List.mem_of_getElem? h))))))) hg
theorem sv_p1 {y : MethodName} {n : Nat} (i : Nat) (h : lw_privs_1[i]? = some (y, n)) (hg : goodWord (Cond.selects y.cls y y) = true) : Cond.selects y.cls y y ∈ sv_w := List.mem_filter.mpr ⟨List.mem_append_left _ (List.mem_map.mpr ⟨(y, n), List.mem_append_left _ (List.mem_of_getElem? h), rfl⟩), hg⟩
theorem sv_p2 {y : MethodName} {n : Nat} (i : Nat) (h : lw_privs_2[i]? = some (y, n)) (hg : goodWord (Cond.selects y.cls y y) = true) : Cond.selects y.cls y y ∈ sv_w := List.mem_filter.mpr ⟨List.mem_append_left _ (List.mem_map.mpr ⟨(y, n), List.mem_append_right _ (List.mem_append_left _ (List.mem_of_getElem? h)), rfl⟩), hg⟩
theorem sv_p3 {y : MethodName} {n : Nat} (i : Nat) (h : lw_privs_3[i]? = some (y, n)) (hg : goodWord (Cond.selects y.cls y y) = true) : Cond.selects y.cls y y ∈ sv_w := List.mem_filter.mpr ⟨List.mem_append_left _ (List.mem_map.mpr ⟨(y, n), List.mem_append_right _ (List.mem_append_right _ (List.mem_append_left _ (List.mem_of_getElem? h))), rfl⟩), hg⟩
theorem sv_p4 {y : MethodName} {n : Nat} (i : Nat) (h : lw_privs_4[i]? = some (y, n)) (hg : goodWord (Cond.selects y.cls y y) = true) : Cond.selects y.cls y y ∈ sv_w := List.mem_filter.mpr ⟨List.mem_append_left _ (List.mem_map.mpr ⟨(y, n), List.mem_append_right _ (List.mem_append_right _ (List.mem_append_right _ (List.mem_append_left _ (List.mem_of_getElem? h)))), rfl⟩), hg⟩
theorem sv_p5 {y : MethodName} {n : Nat} (i : Nat) (h : lw_privs_5[i]? = some (y, n)) (hg : goodWord (Cond.selects y.cls y y) = true) : Cond.selects y.cls y y ∈ sv_w := List.mem_filter.mpr ⟨List.mem_append_left _ (List.mem_map.mpr ⟨(y, n), List.mem_append_right _ (List.mem_append_right _ (List.mem_append_right _ (List.mem_append_right _ ((List.mem_of_getElem? h))))), rfl⟩), hg⟩
theorem kw_0 : Cond.methodLink RX0 1 objectInit ∈ sv_w := sv_m1 140 rfl rfl
theorem kw_1 : Cond.instanceMethod objectInit ∈ sv_w := sv_m1 29 rfl rfl
theorem kw_3 : Cond.fieldLink RX0 7 "SeaReceiver$BitRow" "room" "I" ∈ sv_w := sv_m1 141 rfl rfl
theorem kw_4 : Cond.arrayClass .int ∈ sv_w := sv_m1 45 rfl rfl
theorem kw_5 : Cond.fieldLink RX0 13 "SeaReceiver$BitRow" "words" "[I" ∈ sv_w := sv_m1 142 rfl rfl
theorem kw_6 : Cond.fieldLink RX0 23 "SeaReceiver$BitRow" "length" "I" ∈ sv_w := sv_m1 143 rfl rfl
theorem kw_7 : Cond.methodLink RX0 17 yJ7_fill_53178 ∈ sv_w := sv_m3 55 rfl rfl
theorem kw_8 : Cond.static yJ7_fill_53178 ∈ sv_w := sv_m1 107 rfl rfl
theorem kw_9 : Cond.initialized RJ7 ∈ sv_w := sv_m1 6 rfl rfl
theorem kw_10 : Cond.code yJ7_fill_53178 cJ7_fill_53178 4 none ∈ sv_w := sv_m1 108 rfl rfl
theorem kw_11 : Cond.constantLong RX0 26 (4294967295) ∈ sv_w := sv_m3 76 rfl rfl
theorem kw_12 : Cond.methodLink RX1 3 objectInit ∈ sv_w := sv_m1 81 rfl rfl
theorem kw_13 : Cond.arrayClass .byte ∈ sv_w := sv_m1 46 rfl rfl
theorem kw_14 : Cond.fieldLink RX1 11 "SeaReceiver$Fields" "signs" "[B" ∈ sv_w := sv_m1 82 rfl rfl
theorem kw_15 : Cond.fieldLink RX1 17 "SeaReceiver$Fields" "starts" "[I" ∈ sv_w := sv_m1 83 rfl rfl
theorem kw_16 : Cond.fieldLink RX5 19 "SeaReceiver$Sentence" "length" "I" ∈ sv_w := sv_m1 58 rfl rfl
theorem kw_17 : Cond.fieldLink RX5 11 "SeaReceiver$Sentence" "signs" "[B" ∈ sv_w := sv_m1 53 rfl rfl
theorem kw_18 : Cond.constant RX5 22 (-2147483648) ∈ sv_w := sv_m2 21 rfl rfl
theorem kw_19 : Cond.fieldLink RX1 21 "SeaReceiver$Fields" "good" "Z" ∈ sv_w := sv_m1 87 rfl rfl
theorem kw_20 : Cond.fieldLink RX1 25 "SeaReceiver$Fields" "many" "I" ∈ sv_w := sv_m1 84 rfl rfl
theorem kw_21 : Cond.fieldLink RX1 29 "SeaReceiver$Sentence" "length" "I" ∈ sv_w := sv_m1 57 rfl rfl
theorem kw_22 : Cond.methodLink RX1 32 yX5_at ∈ sv_w := sv_m2 17 rfl rfl
theorem kw_23 : Cond.instanceMethod yX5_at ∈ sv_w := sv_m2 18 rfl rfl
theorem kw_24 : Cond.selects RX5 yX5_at yX5_at ∈ sv_w := sv_m2 19 rfl rfl
theorem kw_25 : Cond.initialized RX5 ∈ sv_w := sv_m1 3 rfl rfl
theorem kw_26 : Cond.code yX5_at cX5_at 2 (some .int) ∈ sv_w := sv_m2 20 rfl rfl
theorem kw_27 : Cond.fieldLink RJ0 38 "java/lang/String" "COMPACT_STRINGS" "Z" ∈ sv_w := sv_m2 43 rfl rfl
theorem kw_28 : Cond.fieldLink RJ0 15 "java/lang/String" "coder" "B" ∈ sv_w := sv_m6 38 rfl rfl
theorem kw_29 : Cond.fieldLink RJ0 1053 "jdk/internal/util/Preconditions" "SIOOBE_FORMATTER" "Ljava/util/function/BiFunction;" ∈ sv_w := sv_m2 51 rfl rfl
theorem kw_30 : Cond.methodLink RJ0 1059 yJ3_checkIndex_8e157 ∈ sv_w := sv_m2 53 rfl rfl
theorem kw_31 : Cond.static yJ3_checkIndex_8e157 ∈ sv_w := sv_m2 54 rfl rfl
theorem kw_32 : Cond.initialized RJ3 ∈ sv_w := sv_m1 13 rfl rfl
theorem kw_33 : Cond.code yJ3_checkIndex_8e157 cJ3_checkIndex_8e157 3 (some .int) ∈ sv_w := sv_m2 55 rfl rfl
theorem kw_34 : Cond.methodLink RJ1 9 yJ0_checkIndex_df160 ∈ sv_w := sv_m2 48 rfl rfl
theorem kw_35 : Cond.static yJ0_checkIndex_df160 ∈ sv_w := sv_m2 49 rfl rfl
theorem kw_36 : Cond.initialized RJ0 ∈ sv_w := sv_m1 11 rfl rfl
theorem kw_37 : Cond.code yJ0_checkIndex_df160 cJ0_checkIndex_df160 2 none ∈ sv_w := sv_m2 50 rfl rfl
theorem kw_38 : Cond.methodLink RJ2 48 yJ2_length_9d52b ∈ sv_w := sv_m2 62 rfl rfl
theorem kw_39 : Cond.static yJ2_length_9d52b ∈ sv_w := sv_m2 63 rfl rfl
theorem kw_40 : Cond.initialized RJ2 ∈ sv_w := sv_m1 14 rfl rfl
theorem kw_41 : Cond.code yJ2_length_9d52b cJ2_length_9d52b 1 (some .int) ∈ sv_w := sv_m2 64 rfl rfl
theorem kw_42 : Cond.methodLink RJ2 414 yJ0_checkIndex_df160 ∈ sv_w := sv_m2 65 rfl rfl
theorem kw_43 : Cond.fieldLink RJ2 44 "java/lang/StringUTF16" "$assertionsDisabled" "Z" ∈ sv_w := sv_m2 69 rfl rfl
theorem kw_44 : Cond.fieldLink RJ2 59 "java/lang/StringUTF16" "HI_BYTE_SHIFT" "I" ∈ sv_w := sv_m2 71 rfl rfl
theorem kw_45 : Cond.fieldLink RJ2 63 "java/lang/StringUTF16" "LO_BYTE_SHIFT" "I" ∈ sv_w := sv_m2 73 rfl rfl
theorem kw_46 : Cond.methodLink RJ2 67 yJ2_checkIndex_2214a ∈ sv_w := sv_m2 59 rfl rfl
theorem kw_47 : Cond.static yJ2_checkIndex_2214a ∈ sv_w := sv_m2 60 rfl rfl
theorem kw_48 : Cond.code yJ2_checkIndex_2214a cJ2_checkIndex_2214a 2 none ∈ sv_w := sv_m2 61 rfl rfl
theorem kw_49 : Cond.methodLink RJ2 71 yJ2_getChar_3b067 ∈ sv_w := sv_m2 66 rfl rfl
theorem kw_50 : Cond.static yJ2_getChar_3b067 ∈ sv_w := sv_m2 67 rfl rfl
theorem kw_51 : Cond.code yJ2_getChar_3b067 cJ2_getChar_3b067 2 (some .char) ∈ sv_w := sv_m2 68 rfl rfl
theorem kw_52 : Cond.fieldLink RJ0 9 "java/lang/String" "value" "[B" ∈ sv_w := sv_m6 39 rfl rfl
theorem kw_53 : Cond.methodLink RJ0 492 yJ0_isLatin1_aae02 ∈ sv_w := sv_m2 39 rfl rfl
theorem kw_54 : Cond.instanceMethod yJ0_isLatin1_aae02 ∈ sv_w := sv_m2 40 rfl rfl
theorem kw_55 : Cond.selects RJ0 yJ0_isLatin1_aae02 yJ0_isLatin1_aae02 ∈ sv_w := sv_m2 41 rfl rfl
theorem kw_56 : Cond.code yJ0_isLatin1_aae02 cJ0_isLatin1_aae02 1 (some .boolean) ∈ sv_w := sv_m2 42 rfl rfl
theorem kw_57 : Cond.methodLink RJ0 495 yJ1_charAt_3b067 ∈ sv_w := sv_m2 45 rfl rfl
theorem kw_58 : Cond.static yJ1_charAt_3b067 ∈ sv_w := sv_m2 46 rfl rfl
theorem kw_59 : Cond.initialized RJ1 ∈ sv_w := sv_m1 12 rfl rfl
theorem kw_60 : Cond.code yJ1_charAt_3b067 cJ1_charAt_3b067 2 (some .char) ∈ sv_w := sv_m2 47 rfl rfl
theorem kw_61 : Cond.methodLink RJ0 498 yJ2_charAt_3b067 ∈ sv_w := sv_m2 56 rfl rfl
theorem kw_62 : Cond.static yJ2_charAt_3b067 ∈ sv_w := sv_m2 57 rfl rfl
theorem kw_63 : Cond.code yJ2_charAt_3b067 cJ2_charAt_3b067 2 (some .char) ∈ sv_w := sv_m2 58 rfl rfl
theorem kw_64 : Cond.methodLink RX1 53 yJ0_charAt_5068e ∈ sv_w := sv_m2 35 rfl rfl
theorem kw_65 : Cond.instanceMethod yJ0_charAt_5068e ∈ sv_w := sv_m2 36 rfl rfl
theorem kw_66 : Cond.selects RJ0 yJ0_charAt_5068e yJ0_charAt_5068e ∈ sv_w := sv_m2 37 rfl rfl
theorem kw_67 : Cond.code yJ0_charAt_5068e cJ0_charAt_5068e 2 (some .char) ∈ sv_w := sv_m2 38 rfl rfl
theorem kw_68 : Cond.methodLink RX1 36 yX1_to ∈ sv_w := sv_m2 26 rfl rfl
theorem kw_69 : Cond.instanceMethod yX1_to ∈ sv_w := sv_m2 28 rfl rfl
theorem kw_70 : Cond.selects RX1 yX1_to yX1_to ∈ sv_w := sv_p1 5 rfl rfl
theorem kw_71 : Cond.initialized RX1 ∈ sv_w := sv_m1 4 rfl rfl
theorem kw_72 : Cond.code yX1_to cX1_to 2 (some .int) ∈ sv_w := sv_m2 29 rfl rfl
theorem kw_73 : Cond.methodLink RX1 41 yX1_isForm ∈ sv_w := sv_m2 31 rfl rfl
theorem kw_74 : Cond.instanceMethod yX1_isForm ∈ sv_w := sv_m2 33 rfl rfl
theorem kw_75 : Cond.selects RX1 yX1_isForm yX1_isForm ∈ sv_w := sv_p1 6 rfl rfl
theorem kw_76 : Cond.code yX1_isForm cX1_isForm 2 (some .boolean) ∈ sv_w := sv_m2 34 rfl rfl
theorem kw_77 : Cond.methodLink RX1 59 yX1_from ∈ sv_w := sv_m2 91 rfl rfl
theorem kw_78 : Cond.instanceMethod yX1_from ∈ sv_w := sv_m2 93 rfl rfl
theorem kw_79 : Cond.selects RX1 yX1_from yX1_from ∈ sv_w := sv_p1 7 rfl rfl
theorem kw_80 : Cond.code yX1_from cX1_from 2 (some .int) ∈ sv_w := sv_m2 94 rfl rfl
theorem kw_81 : Cond.constant RX1 62 (-2147483648) ∈ sv_w := sv_m2 95 rfl rfl
theorem kw_82 : Cond.methodLink RX1 63 yX1_digitAt ∈ sv_w := sv_m2 100 rfl rfl
theorem kw_83 : Cond.instanceMethod yX1_digitAt ∈ sv_w := sv_m2 102 rfl rfl
theorem kw_84 : Cond.selects RX1 yX1_digitAt yX1_digitAt ∈ sv_w := sv_p1 9 rfl rfl
theorem kw_85 : Cond.code yX1_digitAt cX1_digitAt 3 (some .int) ∈ sv_w := sv_m2 103 rfl rfl
theorem kw_86 : Cond.methodLink RX1 66 yX1_wrong ∈ sv_w := sv_m2 104 rfl rfl
theorem kw_87 : Cond.instanceMethod yX1_wrong ∈ sv_w := sv_m2 106 rfl rfl
theorem kw_88 : Cond.selects RX1 yX1_wrong yX1_wrong ∈ sv_w := sv_p1 10 rfl rfl
theorem kw_89 : Cond.code yX1_wrong cX1_wrong 1 (some .int) ∈ sv_w := sv_m2 107 rfl rfl
theorem kw_90 : Cond.methodLink RJ0 335 yJ0_coder_7d493 ∈ sv_w := sv_m2 185 rfl rfl
theorem kw_91 : Cond.instanceMethod yJ0_coder_7d493 ∈ sv_w := sv_m2 186 rfl rfl
theorem kw_92 : Cond.selects RJ0 yJ0_coder_7d493 yJ0_coder_7d493 ∈ sv_w := sv_m2 187 rfl rfl
theorem kw_93 : Cond.code yJ0_coder_7d493 cJ0_coder_7d493 1 (some .byte) ∈ sv_w := sv_m2 188 rfl rfl
theorem kw_96 : Cond.initialized "java/lang/Math" ∈ sv_w := sv_m1 15 rfl rfl
theorem kw_101 : Cond.methodLink RJ1 88 yJ1_canEncode_9a6ad ∈ sv_w := sv_m2 192 rfl rfl
theorem kw_102 : Cond.static yJ1_canEncode_9a6ad ∈ sv_w := sv_m2 193 rfl rfl
theorem kw_103 : Cond.code yJ1_canEncode_9a6ad cJ1_canEncode_9a6ad 1 (some .boolean) ∈ sv_w := sv_m2 194 rfl rfl
theorem kw_104 : Cond.methodLink RJ1 95 yJ1_indexOfChar_4cfef ∈ sv_w := sv_m2 201 rfl rfl
theorem kw_105 : Cond.static yJ1_indexOfChar_4cfef ∈ sv_w := sv_m2 202 rfl rfl
theorem kw_106 : Cond.code yJ1_indexOfChar_4cfef cJ1_indexOfChar_4cfef 6 (some .int) ∈ sv_w := sv_m2 203 rfl rfl
theorem kw_107 : Cond.methodLink RJ0 1062 yJ3_checkFromToIndex_8c36e ∈ sv_w := sv_m2 219 rfl rfl
theorem kw_108 : Cond.static yJ3_checkFromToIndex_8c36e ∈ sv_w := sv_m2 220 rfl rfl
theorem kw_109 : Cond.code yJ3_checkFromToIndex_8c36e cJ3_checkFromToIndex_8c36e 4 (some .int) ∈ sv_w := sv_m2 221 rfl rfl
theorem kw_110 : Cond.methodLink RJ2 241 yJ0_checkBoundsBeginEnd_23922 ∈ sv_w := sv_m2 216 rfl rfl
theorem kw_111 : Cond.static yJ0_checkBoundsBeginEnd_23922 ∈ sv_w := sv_m2 217 rfl rfl
theorem kw_112 : Cond.code yJ0_checkBoundsBeginEnd_23922 cJ0_checkBoundsBeginEnd_23922 3 none ∈ sv_w := sv_m2 218 rfl rfl
theorem kw_113 : Cond.methodLink RJ2 96 yJ2_checkBoundsBeginEnd_d044e ∈ sv_w := sv_m2 213 rfl rfl
theorem kw_114 : Cond.static yJ2_checkBoundsBeginEnd_d044e ∈ sv_w := sv_m2 214 rfl rfl
theorem kw_115 : Cond.code yJ2_checkBoundsBeginEnd_d044e cJ2_checkBoundsBeginEnd_d044e 3 none ∈ sv_w := sv_m2 215 rfl rfl
theorem kw_116 : Cond.methodLink RJ2 244 yJ2_indexOfCharUnsafe_4cfef ∈ sv_w := sv_m2 222 rfl rfl
theorem kw_117 : Cond.static yJ2_indexOfCharUnsafe_4cfef ∈ sv_w := sv_m2 223 rfl rfl
theorem kw_118 : Cond.code yJ2_indexOfCharUnsafe_4cfef cJ2_indexOfCharUnsafe_4cfef 5 (some .int) ∈ sv_w := sv_m2 224 rfl rfl
theorem kw_119 : Cond.constant RJ11 110 (55232) ∈ sv_w := sv_m2 234 rfl rfl
theorem kw_120 : Cond.constant RJ11 76 (56320) ∈ sv_w := sv_m2 238 rfl rfl
theorem kw_121 : Cond.methodLink RJ2 164 yJ11_isValidCodePoint_9a6ad ∈ sv_w := sv_m2 228 rfl rfl
theorem kw_122 : Cond.static yJ11_isValidCodePoint_9a6ad ∈ sv_w := sv_m2 229 rfl rfl
theorem kw_123 : Cond.initialized RJ11 ∈ sv_w := sv_m1 16 rfl rfl
theorem kw_124 : Cond.code yJ11_isValidCodePoint_9a6ad cJ11_isValidCodePoint_9a6ad 2 (some .boolean) ∈ sv_w := sv_m2 230 rfl rfl
theorem kw_125 : Cond.methodLink RJ2 157 yJ11_highSurrogate_5068e ∈ sv_w := sv_m2 231 rfl rfl
theorem kw_126 : Cond.static yJ11_highSurrogate_5068e ∈ sv_w := sv_m2 232 rfl rfl
theorem kw_127 : Cond.code yJ11_highSurrogate_5068e cJ11_highSurrogate_5068e 1 (some .char) ∈ sv_w := sv_m2 233 rfl rfl
theorem kw_128 : Cond.methodLink RJ2 161 yJ11_lowSurrogate_5068e ∈ sv_w := sv_m2 235 rfl rfl
theorem kw_129 : Cond.static yJ11_lowSurrogate_5068e ∈ sv_w := sv_m2 236 rfl rfl
theorem kw_130 : Cond.code yJ11_lowSurrogate_5068e cJ11_lowSurrogate_5068e 1 (some .char) ∈ sv_w := sv_m2 237 rfl rfl
theorem kw_133 : Cond.constant RJ2 227 (65536) ∈ sv_w := sv_m2 209 rfl rfl
theorem kw_134 : Cond.methodLink RJ2 228 yJ2_indexOfChar_4cfef ∈ sv_w := sv_m2 210 rfl rfl
theorem kw_135 : Cond.static yJ2_indexOfChar_4cfef ∈ sv_w := sv_m2 211 rfl rfl
theorem kw_136 : Cond.code yJ2_indexOfChar_4cfef cJ2_indexOfChar_4cfef 4 (some .int) ∈ sv_w := sv_m2 212 rfl rfl
theorem kw_137 : Cond.methodLink RJ2 232 yJ2_indexOfSupplementary_4cfef ∈ sv_w := sv_m2 225 rfl rfl
theorem kw_138 : Cond.static yJ2_indexOfSupplementary_4cfef ∈ sv_w := sv_m2 226 rfl rfl
theorem kw_139 : Cond.code yJ2_indexOfSupplementary_4cfef cJ2_indexOfSupplementary_4cfef 7 (some .int) ∈ sv_w := sv_m2 227 rfl rfl
theorem kw_140 : Cond.methodLink RJ0 505 yJ0_length_8abf5 ∈ sv_w := sv_m2 181 rfl rfl
theorem kw_141 : Cond.instanceMethod yJ0_length_8abf5 ∈ sv_w := sv_m2 182 rfl rfl
theorem kw_142 : Cond.selects RJ0 yJ0_length_8abf5 yJ0_length_8abf5 ∈ sv_w := sv_m2 183 rfl rfl
theorem kw_143 : Cond.code yJ0_length_8abf5 cJ0_length_8abf5 1 (some .int) ∈ sv_w := sv_m2 184 rfl rfl
theorem kw_144 : Cond.methodLink RJ0 637 yJ1_indexOf_4cfef ∈ sv_w := sv_m2 189 rfl rfl
theorem kw_145 : Cond.static yJ1_indexOf_4cfef ∈ sv_w := sv_m2 190 rfl rfl
theorem kw_146 : Cond.code yJ1_indexOf_4cfef cJ1_indexOf_4cfef 4 (some .int) ∈ sv_w := sv_m2 191 rfl rfl
theorem kw_147 : Cond.methodLink RJ0 640 yJ2_indexOf_4cfef ∈ sv_w := sv_m2 204 rfl rfl
theorem kw_148 : Cond.static yJ2_indexOf_4cfef ∈ sv_w := sv_m2 205 rfl rfl
theorem kw_149 : Cond.code yJ2_indexOf_4cfef cJ2_indexOf_4cfef 4 (some .int) ∈ sv_w := sv_m2 206 rfl rfl
theorem kw_150 : Cond.methodLink RJ0 633 yJ0_indexOf_7cf53 ∈ sv_w := sv_m2 177 rfl rfl
theorem kw_151 : Cond.instanceMethod yJ0_indexOf_7cf53 ∈ sv_w := sv_m2 178 rfl rfl
theorem kw_152 : Cond.selects RJ0 yJ0_indexOf_7cf53 yJ0_indexOf_7cf53 ∈ sv_w := sv_m2 179 rfl rfl
theorem kw_153 : Cond.code yJ0_indexOf_7cf53 cJ0_indexOf_7cf53 3 (some .int) ∈ sv_w := sv_m2 180 rfl rfl
theorem kw_154 : Cond.methodLink RX1 70 yX1_isEmpty ∈ sv_w := sv_m2 87 rfl rfl
theorem kw_155 : Cond.instanceMethod yX1_isEmpty ∈ sv_w := sv_m2 88 rfl rfl
theorem kw_156 : Cond.selects RX1 yX1_isEmpty yX1_isEmpty ∈ sv_w := sv_m2 89 rfl rfl
theorem kw_157 : Cond.code yX1_isEmpty cX1_isEmpty 2 (some .boolean) ∈ sv_w := sv_m2 90 rfl rfl
theorem kw_158 : Cond.methodLink RX1 74 yX1_at ∈ sv_w := sv_m2 108 rfl rfl
theorem kw_159 : Cond.instanceMethod yX1_at ∈ sv_w := sv_m2 110 rfl rfl
theorem kw_160 : Cond.selects RX1 yX1_at yX1_at ∈ sv_w := sv_p1 11 rfl rfl
theorem kw_161 : Cond.code yX1_at cX1_at 2 (some .int) ∈ sv_w := sv_m2 111 rfl rfl
theorem kw_162 : Cond.methodLink RX1 75 yJ0_indexOf_0f7a4 ∈ sv_w := sv_m2 173 rfl rfl
theorem kw_163 : Cond.instanceMethod yJ0_indexOf_0f7a4 ∈ sv_w := sv_m2 174 rfl rfl
theorem kw_164 : Cond.selects RJ0 yJ0_indexOf_0f7a4 yJ0_indexOf_0f7a4 ∈ sv_w := sv_m2 175 rfl rfl
theorem kw_165 : Cond.code yJ0_indexOf_0f7a4 cJ0_indexOf_0f7a4 2 (some .int) ∈ sv_w := sv_m2 176 rfl rfl
theorem kw_166 : Cond.methodLink RX1 78 yX1_digits ∈ sv_w := sv_m2 96 rfl rfl
theorem kw_167 : Cond.instanceMethod yX1_digits ∈ sv_w := sv_m2 98 rfl rfl
theorem kw_168 : Cond.selects RX1 yX1_digits yX1_digits ∈ sv_w := sv_p1 8 rfl rfl
theorem kw_169 : Cond.code yX1_digits cX1_digits 13 (some .int) ∈ sv_w := sv_m2 99 rfl rfl
theorem kw_170 : Cond.methodLink RX1 82 yX1_decimal ∈ sv_w := sv_m2 152 rfl rfl
theorem kw_171 : Cond.instanceMethod yX1_decimal ∈ sv_w := sv_m2 145 rfl rfl
theorem kw_172 : Cond.selects RX1 yX1_decimal yX1_decimal ∈ sv_w := sv_m2 146 rfl rfl
theorem kw_173 : Cond.code yX1_decimal cX1_decimal 4 (some .int) ∈ sv_w := sv_m2 147 rfl rfl
theorem kw_174 : Cond.constant RX1 86 (36000) ∈ sv_w := sv_m3 3 rfl rfl
theorem kw_175 : Cond.methodLink RX1 87 yX1_onSide ∈ sv_w := sv_m2 127 rfl rfl
theorem kw_176 : Cond.instanceMethod yX1_onSide ∈ sv_w := sv_m2 129 rfl rfl
theorem kw_177 : Cond.selects RX1 yX1_onSide yX1_onSide ∈ sv_w := sv_p1 13 rfl rfl
theorem kw_178 : Cond.code yX1_onSide cX1_onSide 6 (some .int) ∈ sv_w := sv_m2 130 rfl rfl
theorem kw_179 : Cond.constant RX1 91 (10000000) ∈ sv_w := sv_m2 112 rfl rfl
theorem kw_180 : Cond.constant RX1 92 (100000) ∈ sv_w := sv_m2 113 rfl rfl
theorem kw_181 : Cond.constant RX1 93 (59999) ∈ sv_w := sv_m2 114 rfl rfl
theorem kw_182 : Cond.constant RX1 94 (60000) ∈ sv_w := sv_m2 115 rfl rfl
theorem kw_183 : Cond.methodLink RX1 95 yX1_whole ∈ sv_w := sv_m3 8 rfl rfl
theorem kw_184 : Cond.instanceMethod yX1_whole ∈ sv_w := sv_m2 141 rfl rfl
theorem kw_185 : Cond.selects RX1 yX1_whole yX1_whole ∈ sv_w := sv_m2 142 rfl rfl
theorem kw_186 : Cond.code yX1_whole cX1_whole 4 (some .int) ∈ sv_w := sv_m2 143 rfl rfl
theorem kw_187 : Cond.constant RX1 103 (1000000) ∈ sv_w := sv_m2 125 rfl rfl
theorem kw_188 : Cond.constant RX1 104 (600000) ∈ sv_w := sv_m2 126 rfl rfl
theorem kw_189 : Cond.constant RX1 98 (54000000) ∈ sv_w := sv_m2 120 rfl rfl
theorem kw_190 : Cond.methodLink RX1 99 yX1_angle ∈ sv_w := sv_m2 121 rfl rfl
theorem kw_191 : Cond.instanceMethod yX1_angle ∈ sv_w := sv_m2 123 rfl rfl
theorem kw_192 : Cond.selects RX1 yX1_angle yX1_angle ∈ sv_w := sv_p1 12 rfl rfl
theorem kw_193 : Cond.code yX1_angle cX1_angle 7 (some .int) ∈ sv_w := sv_m2 124 rfl rfl
theorem kw_194 : Cond.constant RX1 102 (108000000) ∈ sv_w := sv_m2 135 rfl rfl
theorem kw_195 : Cond.methodLink RX1 105 yX0_append ∈ sv_w := sv_m3 60 rfl rfl
theorem kw_196 : Cond.instanceMethod yX0_append ∈ sv_w := sv_m3 61 rfl rfl
theorem kw_197 : Cond.selects RX0 yX0_append yX0_append ∈ sv_w := sv_m3 62 rfl rfl
theorem kw_198 : Cond.initialized RX0 ∈ sv_w := sv_m1 8 rfl rfl
theorem kw_199 : Cond.code yX0_append cX0_append 8 none ∈ sv_w := sv_m3 63 rfl rfl
theorem kw_200 : Cond.methodLink RX2 3 objectInit ∈ sv_w := sv_m1 157 rfl rfl
theorem kw_201 : Cond.classLink RX2 11 RX7 ∈ sv_w := sv_m1 158 rfl rfl
theorem kw_202 : Cond.fieldLink RX2 13 "SeaReceiver$Fleet" "vessels" "[LSeaReceiver$Vessel;" ∈ sv_w := sv_m1 160 rfl rfl
theorem kw_203 : Cond.fieldLink RX2 17 "SeaReceiver$Fleet" "size" "I" ∈ sv_w := sv_m1 161 rfl rfl
theorem kw_204 : Cond.fieldLink RX2 21 "SeaReceiver$Vessel" "values" "[I" ∈ sv_w := sv_m3 95 rfl rfl
theorem kw_205 : Cond.constant RX2 25 (-2147483648) ∈ sv_w := sv_m3 88 rfl rfl
theorem kw_206 : Cond.methodLink RX7 3 objectInit ∈ sv_w := sv_m3 93 rfl rfl
theorem kw_207 : Cond.fieldLink RX7 11 "SeaReceiver$Vessel" "values" "[I" ∈ sv_w := sv_m3 94 rfl rfl
theorem kw_208 : Cond.fieldLink RX7 15 "SeaReceiver$Vessel" "lengths" "[I" ∈ sv_w := sv_m3 97 rfl rfl
theorem kw_209 : Cond.fieldLink RX7 18 "SeaReceiver$Vessel" "signs" "[B" ∈ sv_w := sv_m3 99 rfl rfl
theorem kw_210 : Cond.constant RX7 34 (-2147483648) ∈ sv_w := sv_m3 111 rfl rfl
theorem kw_211 : Cond.methodLink RX7 35 yJ7_fill_53178 ∈ sv_w := sv_m3 112 rfl rfl
theorem kw_212 : Cond.instantiable RX7 3 ∈ sv_w := sv_m3 89 rfl rfl
theorem kw_213 : Cond.initialized RX7 ∈ sv_w := sv_m1 17 rfl rfl
theorem kw_214 : Cond.methodLink RX2 26 yX2_numberOf ∈ sv_w := sv_m3 84 rfl rfl
theorem kw_215 : Cond.instanceMethod yX2_numberOf ∈ sv_w := sv_m3 85 rfl rfl
theorem kw_216 : Cond.selects RX2 yX2_numberOf yX2_numberOf ∈ sv_w := sv_m3 86 rfl rfl
theorem kw_217 : Cond.initialized RX2 ∈ sv_w := sv_m1 9 rfl rfl
theorem kw_218 : Cond.code yX2_numberOf cX2_numberOf 3 (some .int) ∈ sv_w := sv_m3 87 rfl rfl
theorem kw_219 : Cond.instanceMethod yX7_init ∈ sv_w := sv_m3 91 rfl rfl
theorem kw_220 : Cond.code yX7_init cX7_init 1 none ∈ sv_w := sv_m3 92 rfl rfl
theorem kw_221 : Cond.methodLink RX2 31 yX7_begin ∈ sv_w := sv_m3 107 rfl rfl
theorem kw_222 : Cond.instanceMethod yX7_begin ∈ sv_w := sv_m3 108 rfl rfl
theorem kw_223 : Cond.selects RX7 yX7_begin yX7_begin ∈ sv_w := sv_m3 109 rfl rfl
theorem kw_224 : Cond.code yX7_begin cX7_begin 2 none ∈ sv_w := sv_m3 110 rfl rfl
theorem kw_225 : Cond.methodLink RX3 3 objectInit ∈ sv_w := sv_m1 122 rfl rfl
theorem kw_226 : Cond.classLink RX3 11 RX0 ∈ sv_w := sv_m1 123 rfl rfl
theorem kw_227 : Cond.fieldLink RX3 13 "SeaReceiver$Parts" "rows" "[LSeaReceiver$BitRow;" ∈ sv_w := sv_m1 125 rfl rfl
theorem kw_228 : Cond.fieldLink RX3 17 "SeaReceiver$Parts" "manys" "[I" ∈ sv_w := sv_m1 126 rfl rfl
theorem kw_229 : Cond.fieldLink RX3 21 "SeaReceiver$Parts" "kept" "[I" ∈ sv_w := sv_m1 127 rfl rfl
theorem kw_230 : Cond.methodLink RX3 24 yJ7_fill_53178 ∈ sv_w := sv_m3 191 rfl rfl
theorem kw_231 : Cond.instantiable RX0 3 ∈ sv_w := sv_m1 136 rfl rfl
theorem kw_232 : Cond.methodLink RX3 30 yX0_init ∈ sv_w := sv_m3 50 rfl rfl
theorem kw_233 : Cond.instanceMethod yX0_init ∈ sv_w := sv_m1 138 rfl rfl
theorem kw_234 : Cond.code yX0_init cX0_init 2 none ∈ sv_w := sv_m1 139 rfl rfl
theorem kw_235 : Cond.methodLink RX3 33 yX0_empty ∈ sv_w := sv_m3 51 rfl rfl
theorem kw_236 : Cond.instanceMethod yX0_empty ∈ sv_w := sv_m3 52 rfl rfl
theorem kw_237 : Cond.selects RX0 yX0_empty yX0_empty ∈ sv_w := sv_m3 53 rfl rfl
theorem kw_238 : Cond.code yX0_empty cX0_empty 1 none ∈ sv_w := sv_m3 54 rfl rfl
theorem kw_239 : Cond.methodLink RX4 3 objectInit ∈ sv_w := sv_m1 104 rfl rfl
theorem kw_240 : Cond.fieldLink RX4 11 "SeaReceiver$Position" "told" "[I" ∈ sv_w := sv_m1 109 rfl rfl
theorem kw_241 : Cond.fieldLink RX4 15 "SeaReceiver$Position" "fresh" "[I" ∈ sv_w := sv_m1 111 rfl rfl
theorem kw_242 : Cond.constant RX4 18 (-2147483648) ∈ sv_w := sv_m1 105 rfl rfl
theorem kw_243 : Cond.methodLink RX4 19 yJ7_fill_53178 ∈ sv_w := sv_m1 106 rfl rfl
theorem kw_244 : Cond.fieldLink RX4 25 "SeaReceiver$Fields" "many" "I" ∈ sv_w := sv_m1 85 rfl rfl
theorem kw_245 : Cond.fieldLink RX4 58 "SeaReceiver$Fields" "good" "Z" ∈ sv_w := sv_m1 88 rfl rfl
theorem kw_246 : Cond.fieldLink RX4 62 "SeaReceiver$Position" "OF_GGA" "[I" ∈ sv_w := sv_m2 157 rfl rfl
theorem kw_247 : Cond.methodLink RX4 31 yX1_time ∈ sv_w := sv_m2 83 rfl rfl
theorem kw_248 : Cond.instanceMethod yX1_time ∈ sv_w := sv_m2 84 rfl rfl
theorem kw_249 : Cond.selects RX1 yX1_time yX1_time ∈ sv_w := sv_m2 85 rfl rfl
theorem kw_250 : Cond.code yX1_time cX1_time 6 (some .int) ∈ sv_w := sv_m2 86 rfl rfl
theorem kw_251 : Cond.methodLink RX4 35 yX1_latitude ∈ sv_w := sv_m2 116 rfl rfl
theorem kw_252 : Cond.instanceMethod yX1_latitude ∈ sv_w := sv_m2 117 rfl rfl
theorem kw_253 : Cond.selects RX1 yX1_latitude yX1_latitude ∈ sv_w := sv_m2 118 rfl rfl
theorem kw_254 : Cond.code yX1_latitude cX1_latitude 2 (some .int) ∈ sv_w := sv_m2 119 rfl rfl
theorem kw_255 : Cond.methodLink RX4 38 yX1_longitude ∈ sv_w := sv_m2 131 rfl rfl
theorem kw_256 : Cond.instanceMethod yX1_longitude ∈ sv_w := sv_m2 132 rfl rfl
theorem kw_257 : Cond.selects RX1 yX1_longitude yX1_longitude ∈ sv_w := sv_m2 133 rfl rfl
theorem kw_258 : Cond.code yX1_longitude cX1_longitude 2 (some .int) ∈ sv_w := sv_m2 134 rfl rfl
theorem kw_259 : Cond.methodLink RX4 41 yX1_digit ∈ sv_w := sv_m2 136 rfl rfl
theorem kw_260 : Cond.instanceMethod yX1_digit ∈ sv_w := sv_m2 137 rfl rfl
theorem kw_261 : Cond.selects RX1 yX1_digit yX1_digit ∈ sv_w := sv_m2 138 rfl rfl
theorem kw_262 : Cond.code yX1_digit cX1_digit 6 (some .int) ∈ sv_w := sv_m2 139 rfl rfl
theorem kw_263 : Cond.methodLink RX4 45 yX1_whole ∈ sv_w := sv_m2 140 rfl rfl
theorem kw_264 : Cond.methodLink RX4 48 yX1_decimal ∈ sv_w := sv_m2 144 rfl rfl
theorem kw_265 : Cond.methodLink RX4 51 yX1_signed ∈ sv_w := sv_m2 148 rfl rfl
theorem kw_266 : Cond.instanceMethod yX1_signed ∈ sv_w := sv_m2 149 rfl rfl
theorem kw_267 : Cond.selects RX1 yX1_signed yX1_signed ∈ sv_w := sv_m2 150 rfl rfl
theorem kw_268 : Cond.code yX1_signed cX1_signed 5 (some .int) ∈ sv_w := sv_m2 151 rfl rfl
theorem kw_269 : Cond.methodLink RX4 54 yX1_checkUnit ∈ sv_w := sv_m2 153 rfl rfl
theorem kw_270 : Cond.instanceMethod yX1_checkUnit ∈ sv_w := sv_m2 154 rfl rfl
theorem kw_271 : Cond.selects RX1 yX1_checkUnit yX1_checkUnit ∈ sv_w := sv_m2 155 rfl rfl
theorem kw_272 : Cond.code yX1_checkUnit cX1_checkUnit 4 none ∈ sv_w := sv_m2 156 rfl rfl
theorem kw_273 : Cond.methodLink RX4 65 yX4_settle ∈ sv_w := sv_m2 159 rfl rfl
theorem kw_274 : Cond.instanceMethod yX4_settle ∈ sv_w := sv_m2 161 rfl rfl
theorem kw_275 : Cond.selects RX4 yX4_settle yX4_settle ∈ sv_w := sv_p1 14 rfl rfl
theorem kw_276 : Cond.initialized RX4 ∈ sv_w := sv_m1 5 rfl rfl
theorem kw_277 : Cond.code yX4_settle cX4_settle 4 (some .boolean) ∈ sv_w := sv_m2 162 rfl rfl
theorem kw_278 : Cond.fieldLink RX4 90 "SeaReceiver$Position" "OF_RMC" "[I" ∈ sv_w := sv_m3 14 rfl rfl
theorem kw_279 : Cond.methodLink RX4 69 yX1_isEmpty ∈ sv_w := sv_m2 167 rfl rfl
theorem kw_280 : Cond.methodLink RX4 75 yX1_oneOf ∈ sv_w := sv_m2 169 rfl rfl
theorem kw_281 : Cond.instanceMethod yX1_oneOf ∈ sv_w := sv_m2 170 rfl rfl
theorem kw_282 : Cond.selects RX1 yX1_oneOf yX1_oneOf ∈ sv_w := sv_m2 171 rfl rfl
theorem kw_283 : Cond.code yX1_oneOf cX1_oneOf 5 (some .int) ∈ sv_w := sv_m2 172 rfl rfl
theorem kw_284 : Cond.methodLink RX4 79 yX1_course ∈ sv_w := sv_m2 239 rfl rfl
theorem kw_285 : Cond.instanceMethod yX1_course ∈ sv_w := sv_m3 0 rfl rfl
theorem kw_286 : Cond.selects RX1 yX1_course yX1_course ∈ sv_w := sv_m3 1 rfl rfl
theorem kw_287 : Cond.code yX1_course cX1_course 3 (some .int) ∈ sv_w := sv_m3 2 rfl rfl
theorem kw_288 : Cond.methodLink RX4 82 yX1_date ∈ sv_w := sv_m3 4 rfl rfl
theorem kw_289 : Cond.instanceMethod yX1_date ∈ sv_w := sv_m3 5 rfl rfl
theorem kw_290 : Cond.selects RX1 yX1_date yX1_date ∈ sv_w := sv_m3 6 rfl rfl
theorem kw_291 : Cond.code yX1_date cX1_date 6 (some .int) ∈ sv_w := sv_m3 7 rfl rfl
theorem kw_292 : Cond.methodLink RX4 85 yX1_variation ∈ sv_w := sv_m3 9 rfl rfl
theorem kw_293 : Cond.instanceMethod yX1_variation ∈ sv_w := sv_m3 10 rfl rfl
theorem kw_294 : Cond.selects RX1 yX1_variation yX1_variation ∈ sv_w := sv_m3 11 rfl rfl
theorem kw_295 : Cond.code yX1_variation cX1_variation 3 (some .int) ∈ sv_w := sv_m3 12 rfl rfl
theorem kw_296 : Cond.fieldLink RX4 93 "SeaReceiver$Position" "OF_VTG" "[I" ∈ sv_w := sv_m3 20 rfl rfl
theorem kw_297 : Cond.methodLink RX5 3 objectInit ∈ sv_w := sv_m1 52 rfl rfl
theorem kw_298 : Cond.fieldLink RX5 15 "SeaReceiver$Sentence" "stage" "I" ∈ sv_w := sv_m1 54 rfl rfl
theorem kw_299 : Cond.fieldLink RX5 38 "SeaReceiver$Sentence" "start" "I" ∈ sv_w := sv_m1 55 rfl rfl
theorem kw_300 : Cond.fieldLink RX5 41 "SeaReceiver$Sentence" "sum" "I" ∈ sv_w := sv_m1 59 rfl rfl
theorem kw_301 : Cond.fieldLink RX5 44 "SeaReceiver$Sentence" "toldSum" "I" ∈ sv_w := sv_m1 61 rfl rfl
theorem kw_302 : Cond.methodLink RX5 27 yX5_step ∈ sv_w := sv_m1 237 rfl rfl
theorem kw_303 : Cond.instanceMethod yX5_step ∈ sv_w := sv_m1 239 rfl rfl
theorem kw_304 : Cond.selects RX5 yX5_step yX5_step ∈ sv_w := sv_p1 1 rfl rfl
theorem kw_305 : Cond.code yX5_step cX5_step 3 (some .int) ∈ sv_w := sv_m2 0 rfl rfl
theorem kw_306 : Cond.methodLink RX5 23 yX5_begin ∈ sv_w := sv_m1 233 rfl rfl
theorem kw_307 : Cond.instanceMethod yX5_begin ∈ sv_w := sv_m1 235 rfl rfl
theorem kw_308 : Cond.selects RX5 yX5_begin yX5_begin ∈ sv_w := sv_p1 0 rfl rfl
theorem kw_309 : Cond.code yX5_begin cX5_begin 3 (some .int) ∈ sv_w := sv_m1 236 rfl rfl
theorem kw_310 : Cond.methodLink RX5 31 yX5_store ∈ sv_w := sv_m2 1 rfl rfl
theorem kw_311 : Cond.instanceMethod yX5_store ∈ sv_w := sv_m2 3 rfl rfl
theorem kw_312 : Cond.selects RX5 yX5_store yX5_store ∈ sv_w := sv_p1 2 rfl rfl
theorem kw_313 : Cond.code yX5_store cX5_store 2 (some .int) ∈ sv_w := sv_m2 4 rfl rfl
theorem kw_314 : Cond.methodLink RX5 34 yX5_hearDigit ∈ sv_w := sv_m2 5 rfl rfl
theorem kw_315 : Cond.instanceMethod yX5_hearDigit ∈ sv_w := sv_m2 7 rfl rfl
theorem kw_316 : Cond.selects RX5 yX5_hearDigit yX5_hearDigit ∈ sv_w := sv_p1 3 rfl rfl
theorem kw_317 : Cond.code yX5_hearDigit cX5_hearDigit 3 (some .int) ∈ sv_w := sv_m2 8 rfl rfl
theorem kw_318 : Cond.methodLink RX6 3 objectInit ∈ sv_w := sv_m1 36 rfl rfl
theorem kw_319 : Cond.fieldLink RX6 9 "SeaReceiver$SignRow" "signs" "[B" ∈ sv_w := sv_m1 37 rfl rfl
theorem kw_320 : Cond.fieldLink RX6 15 "SeaReceiver$SignRow" "size" "I" ∈ sv_w := sv_m1 38 rfl rfl
theorem kw_321 : Cond.methodLink RX6 19 yX6_add ∈ sv_w := sv_m1 212 rfl rfl
theorem kw_322 : Cond.instanceMethod yX6_add ∈ sv_w := sv_m1 213 rfl rfl
theorem kw_323 : Cond.selects RX6 yX6_add yX6_add ∈ sv_w := sv_m1 214 rfl rfl
theorem kw_324 : Cond.initialized RX6 ∈ sv_w := sv_m1 2 rfl rfl
theorem kw_325 : Cond.code yX6_add cX6_add 2 none ∈ sv_w := sv_m1 215 rfl rfl
theorem kw_326 : Cond.methodLink RX6 23 yJ0_length_8abf5 ∈ sv_w := sv_m4 90 rfl rfl
theorem kw_327 : Cond.methodLink RX6 29 yJ0_charAt_5068e ∈ sv_w := sv_m4 91 rfl rfl
theorem kw_328 : Cond.constant RX6 33 (-2147483648) ∈ sv_w := sv_m1 228 rfl rfl
theorem kw_329 : Cond.fieldLink RX7 22 "SeaReceiver$Vessel" "OF_4" "[I" ∈ sv_w := sv_m3 120 rfl rfl
theorem kw_330 : Cond.fieldLink RX7 25 "SeaReceiver$Vessel" "OF_5" "[I" ∈ sv_w := sv_m3 122 rfl rfl
theorem kw_331 : Cond.fieldLink RX7 28 "SeaReceiver$Vessel" "OF_18" "[I" ∈ sv_w := sv_m3 124 rfl rfl
theorem kw_332 : Cond.fieldLink RX7 31 "SeaReceiver$Vessel" "OF_1" "[I" ∈ sv_w := sv_m3 126 rfl rfl
theorem kw_333 : Cond.methodLink RX7 49 yX0_read ∈ sv_w := sv_m3 132 rfl rfl
theorem kw_334 : Cond.instanceMethod yX0_read ∈ sv_w := sv_m3 73 rfl rfl
theorem kw_335 : Cond.selects RX0 yX0_read yX0_read ∈ sv_w := sv_m3 74 rfl rfl
theorem kw_336 : Cond.code yX0_read cX0_read 6 (some .int) ∈ sv_w := sv_m3 75 rfl rfl
theorem kw_337 : Cond.methodLink RX7 41 yX7_layoutOf ∈ sv_w := sv_m3 117 rfl rfl
theorem kw_338 : Cond.static yX7_layoutOf ∈ sv_w := sv_m3 118 rfl rfl
theorem kw_339 : Cond.code yX7_layoutOf cX7_layoutOf 1 (some (.array .int)) ∈ sv_w := sv_m3 119 rfl rfl
theorem kw_340 : Cond.methodLink RX7 45 yX7_learnText ∈ sv_w := sv_m3 128 rfl rfl
theorem kw_341 : Cond.instanceMethod yX7_learnText ∈ sv_w := sv_m3 130 rfl rfl
theorem kw_342 : Cond.selects RX7 yX7_learnText yX7_learnText ∈ sv_w := sv_p2 2 rfl rfl
theorem kw_343 : Cond.code yX7_learnText cX7_learnText 8 none ∈ sv_w := sv_m3 131 rfl rfl
theorem kw_344 : Cond.methodLink RX7 55 yX7_hasSign ∈ sv_w := sv_m3 133 rfl rfl
theorem kw_345 : Cond.static yX7_hasSign ∈ sv_w := sv_m3 134 rfl rfl
theorem kw_346 : Cond.code yX7_hasSign cX7_hasSign 1 (some .boolean) ∈ sv_w := sv_m3 135 rfl rfl
theorem kw_347 : Cond.methodLink RX7 70 yX7_signOf ∈ sv_w := sv_m4 79 rfl rfl
theorem kw_348 : Cond.instanceMethod yX7_signOf ∈ sv_w := sv_m3 162 rfl rfl
theorem kw_349 : Cond.selects RX7 yX7_signOf yX7_signOf ∈ sv_w := sv_m3 163 rfl rfl
theorem kw_350 : Cond.code yX7_signOf cX7_signOf 3 (some .int) ∈ sv_w := sv_m3 164 rfl rfl
theorem kw_351 : Cond.methodLink RX7 62 yX0_append ∈ sv_w := sv_m4 74 rfl rfl
theorem kw_352 : Cond.methodLink RX7 59 yX0_empty ∈ sv_w := sv_m4 73 rfl rfl
theorem kw_353 : Cond.methodLink RX7 66 yX7_tellText ∈ sv_w := sv_m4 75 rfl rfl
theorem kw_354 : Cond.instanceMethod yX7_tellText ∈ sv_w := sv_m4 77 rfl rfl
theorem kw_355 : Cond.selects RX7 yX7_tellText yX7_tellText ∈ sv_w := sv_p2 4 rfl rfl
theorem kw_356 : Cond.code yX7_tellText cX7_tellText 7 none ∈ sv_w := sv_m4 78 rfl rfl
theorem kw_357 : Cond.methodLink RX8 1 objectInit ∈ sv_w := sv_m1 28 rfl rfl
theorem kw_358 : Cond.fieldLink RX8 9 "SeaReceiver" "tallies" "[I" ∈ sv_w := sv_m1 168 rfl rfl
theorem kw_359 : Cond.classLink RX8 13 RX6 ∈ sv_w := sv_m1 31 rfl rfl
theorem kw_360 : Cond.instantiable RX6 2 ∈ sv_w := sv_m1 32 rfl rfl
theorem kw_361 : Cond.fieldLink RX8 18 "SeaReceiver" "tape" "LSeaReceiver$SignRow;" ∈ sv_w := sv_m1 169 rfl rfl
theorem kw_362 : Cond.fieldLink RX8 22 "SeaReceiver" "sent" "LSeaReceiver$SignRow;" ∈ sv_w := sv_m1 170 rfl rfl
theorem kw_363 : Cond.classLink RX8 25 RX5 ∈ sv_w := sv_m1 47 rfl rfl
theorem kw_364 : Cond.instantiable RX5 6 ∈ sv_w := sv_m1 48 rfl rfl
theorem kw_365 : Cond.fieldLink RX8 28 "SeaReceiver" "sentence" "LSeaReceiver$Sentence;" ∈ sv_w := sv_m1 171 rfl rfl
theorem kw_366 : Cond.classLink RX8 32 RX1 ∈ sv_w := sv_m1 76 rfl rfl
theorem kw_367 : Cond.instantiable RX1 4 ∈ sv_w := sv_m1 77 rfl rfl
theorem kw_368 : Cond.fieldLink RX8 35 "SeaReceiver" "fields" "LSeaReceiver$Fields;" ∈ sv_w := sv_m1 172 rfl rfl
theorem kw_369 : Cond.classLink RX8 39 RX4 ∈ sv_w := sv_m1 99 rfl rfl
theorem kw_370 : Cond.instantiable RX4 2 ∈ sv_w := sv_m1 100 rfl rfl
theorem kw_371 : Cond.fieldLink RX8 42 "SeaReceiver" "position" "LSeaReceiver$Position;" ∈ sv_w := sv_m1 173 rfl rfl
theorem kw_372 : Cond.classLink RX8 46 RX3 ∈ sv_w := sv_m1 117 rfl rfl
theorem kw_373 : Cond.instantiable RX3 3 ∈ sv_w := sv_m1 118 rfl rfl
theorem kw_374 : Cond.initialized RX3 ∈ sv_w := sv_m1 7 rfl rfl
theorem kw_375 : Cond.fieldLink RX8 49 "SeaReceiver" "parts" "LSeaReceiver$Parts;" ∈ sv_w := sv_m1 174 rfl rfl
theorem kw_376 : Cond.classLink RX8 53 RX0 ∈ sv_w := sv_m1 135 rfl rfl
theorem kw_377 : Cond.fieldLink RX8 56 "SeaReceiver" "message" "LSeaReceiver$BitRow;" ∈ sv_w := sv_m1 175 rfl rfl
theorem kw_378 : Cond.classLink RX8 60 RX2 ∈ sv_w := sv_m1 152 rfl rfl
theorem kw_379 : Cond.instantiable RX2 2 ∈ sv_w := sv_m1 153 rfl rfl
theorem kw_380 : Cond.fieldLink RX8 63 "SeaReceiver" "fleet" "LSeaReceiver$Fleet;" ∈ sv_w := sv_m1 176 rfl rfl
theorem kw_381 : Cond.fieldLink RX8 67 "SeaReceiver" "report" "LSeaReceiver$BitRow;" ∈ sv_w := sv_m1 177 rfl rfl
theorem kw_382 : Cond.methodLink RX8 15 yX6_init ∈ sv_w := sv_m1 33 rfl rfl
theorem kw_383 : Cond.instanceMethod yX6_init ∈ sv_w := sv_m1 34 rfl rfl
theorem kw_384 : Cond.code yX6_init cX6_init 2 none ∈ sv_w := sv_m1 35 rfl rfl
theorem kw_385 : Cond.instanceMethod yX5_init ∈ sv_w := sv_m1 50 rfl rfl
theorem kw_386 : Cond.code yX5_init cX5_init 1 none ∈ sv_w := sv_m1 51 rfl rfl
theorem kw_387 : Cond.instanceMethod yX1_init ∈ sv_w := sv_m1 79 rfl rfl
theorem kw_388 : Cond.code yX1_init cX1_init 1 none ∈ sv_w := sv_m1 80 rfl rfl
theorem kw_389 : Cond.methodLink RX8 41 yX4_init ∈ sv_w := sv_m1 101 rfl rfl
theorem kw_390 : Cond.instanceMethod yX4_init ∈ sv_w := sv_m1 102 rfl rfl
theorem kw_391 : Cond.code yX4_init cX4_init 1 none ∈ sv_w := sv_m1 103 rfl rfl
theorem kw_392 : Cond.instanceMethod yX3_init ∈ sv_w := sv_m1 120 rfl rfl
theorem kw_393 : Cond.code yX3_init cX3_init 1 none ∈ sv_w := sv_m1 121 rfl rfl
theorem kw_394 : Cond.methodLink RX8 55 yX0_init ∈ sv_w := sv_m1 137 rfl rfl
theorem kw_395 : Cond.instanceMethod yX2_init ∈ sv_w := sv_m1 155 rfl rfl
theorem kw_396 : Cond.code yX2_init cX2_init 1 none ∈ sv_w := sv_m1 156 rfl rfl
theorem kw_397 : Cond.constant RX8 74 (-2147483648) ∈ sv_w := sv_m1 207 rfl rfl
theorem kw_398 : Cond.fieldLink RX8 78 "SeaReceiver$SignRow" "size" "I" ∈ sv_w := sv_m1 39 rfl rfl
theorem kw_399 : Cond.methodLink RX8 70 yX6_hasRoom ∈ sv_w := sv_m1 203 rfl rfl
theorem kw_400 : Cond.instanceMethod yX6_hasRoom ∈ sv_w := sv_m1 204 rfl rfl
theorem kw_401 : Cond.selects RX6 yX6_hasRoom yX6_hasRoom ∈ sv_w := sv_m1 205 rfl rfl
theorem kw_402 : Cond.code yX6_hasRoom cX6_hasRoom 2 (some .boolean) ∈ sv_w := sv_m1 206 rfl rfl
theorem kw_403 : Cond.methodLink RX8 75 yX6_addWord ∈ sv_w := sv_m1 208 rfl rfl
theorem kw_404 : Cond.instanceMethod yX6_addWord ∈ sv_w := sv_m1 209 rfl rfl
theorem kw_405 : Cond.selects RX6 yX6_addWord yX6_addWord ∈ sv_w := sv_m1 210 rfl rfl
theorem kw_406 : Cond.code yX6_addWord cX6_addWord 2 none ∈ sv_w := sv_m1 211 rfl rfl
theorem kw_407 : Cond.methodLink RX8 247 yX3_drop ∈ sv_w := sv_m3 38 rfl rfl
theorem kw_408 : Cond.instanceMethod yX3_drop ∈ sv_w := sv_m3 39 rfl rfl
theorem kw_409 : Cond.selects RX3 yX3_drop yX3_drop ∈ sv_w := sv_m3 40 rfl rfl
theorem kw_410 : Cond.code yX3_drop cX3_drop 2 (some .boolean) ∈ sv_w := sv_m3 41 rfl rfl
theorem kw_411 : Cond.methodLink RX8 253 yX3_awaits ∈ sv_w := sv_m3 42 rfl rfl
theorem kw_412 : Cond.instanceMethod yX3_awaits ∈ sv_w := sv_m3 43 rfl rfl
theorem kw_413 : Cond.selects RX3 yX3_awaits yX3_awaits ∈ sv_w := sv_m3 44 rfl rfl
theorem kw_414 : Cond.code yX3_awaits cX3_awaits 4 (some .boolean) ∈ sv_w := sv_m3 45 rfl rfl
theorem kw_415 : Cond.fieldLink RX8 132 "SeaReceiver$BitRow" "length" "I" ∈ sv_w := sv_m1 144 rfl rfl
theorem kw_416 : Cond.methodLink RX8 137 yX0_read ∈ sv_w := sv_m3 72 rfl rfl
theorem kw_417 : Cond.methodLink RX8 256 yX7_bitsOf ∈ sv_w := sv_m3 77 rfl rfl
theorem kw_418 : Cond.static yX7_bitsOf ∈ sv_w := sv_m3 78 rfl rfl
theorem kw_419 : Cond.code yX7_bitsOf cX7_bitsOf 1 (some .int) ∈ sv_w := sv_m3 79 rfl rfl
theorem kw_420 : Cond.methodLink RX8 259 yX2_vesselOf ∈ sv_w := sv_m3 80 rfl rfl
theorem kw_421 : Cond.instanceMethod yX2_vesselOf ∈ sv_w := sv_m3 81 rfl rfl
theorem kw_422 : Cond.selects RX2 yX2_vesselOf yX2_vesselOf ∈ sv_w := sv_m3 82 rfl rfl
theorem kw_423 : Cond.code yX2_vesselOf cX2_vesselOf 3 (some (.object "SeaReceiver$Vessel")) ∈ sv_w := sv_m3 83 rfl rfl
theorem kw_424 : Cond.methodLink RX8 262 yX7_learn ∈ sv_w := sv_m3 113 rfl rfl
theorem kw_425 : Cond.instanceMethod yX7_learn ∈ sv_w := sv_m3 114 rfl rfl
theorem kw_426 : Cond.selects RX7 yX7_learn yX7_learn ∈ sv_w := sv_m3 115 rfl rfl
theorem kw_427 : Cond.code yX7_learn cX7_learn 9 none ∈ sv_w := sv_m3 116 rfl rfl
theorem kw_428 : Cond.fieldLink RX8 208 "SeaReceiver$Fields" "many" "I" ∈ sv_w := sv_m1 86 rfl rfl
theorem kw_429 : Cond.fieldLink RX8 227 "SeaReceiver$Fields" "good" "Z" ∈ sv_w := sv_m1 89 rfl rfl
theorem kw_430 : Cond.methodLink RX8 211 yX1_digit ∈ sv_w := sv_m3 26 rfl rfl
theorem kw_431 : Cond.methodLink RX8 215 yX1_isEmpty ∈ sv_w := sv_m3 27 rfl rfl
theorem kw_432 : Cond.methodLink RX8 220 yX1_oneOf ∈ sv_w := sv_m3 29 rfl rfl
theorem kw_433 : Cond.methodLink RX8 224 yX1_checkPack ∈ sv_w := sv_m3 30 rfl rfl
theorem kw_434 : Cond.instanceMethod yX1_checkPack ∈ sv_w := sv_m3 31 rfl rfl
theorem kw_435 : Cond.selects RX1 yX1_checkPack yX1_checkPack ∈ sv_w := sv_m3 32 rfl rfl
theorem kw_436 : Cond.code yX1_checkPack cX1_checkPack 6 none ∈ sv_w := sv_m3 33 rfl rfl
theorem kw_437 : Cond.methodLink RX8 231 yX8_isInOrder ∈ sv_w := sv_m3 34 rfl rfl
theorem kw_438 : Cond.instanceMethod yX8_isInOrder ∈ sv_w := sv_m3 36 rfl rfl
theorem kw_439 : Cond.selects RX8 yX8_isInOrder yX8_isInOrder ∈ sv_w := sv_p2 0 rfl rfl
theorem kw_440 : Cond.initialized RX8 ∈ sv_w := sv_m1 1 rfl rfl
theorem kw_441 : Cond.code yX8_isInOrder cX8_isInOrder 4 (some .boolean) ∈ sv_w := sv_m3 37 rfl rfl
theorem kw_442 : Cond.methodLink RX8 235 yX3_keep ∈ sv_w := sv_m3 46 rfl rfl
theorem kw_443 : Cond.instanceMethod yX3_keep ∈ sv_w := sv_m3 47 rfl rfl
theorem kw_444 : Cond.selects RX3 yX3_keep yX3_keep ∈ sv_w := sv_m3 48 rfl rfl
theorem kw_445 : Cond.code yX3_keep cX3_keep 4 (some (.object "SeaReceiver$BitRow")) ∈ sv_w := sv_m3 49 rfl rfl
theorem kw_446 : Cond.methodLink RX8 239 yX1_unpack ∈ sv_w := sv_m3 56 rfl rfl
theorem kw_447 : Cond.instanceMethod yX1_unpack ∈ sv_w := sv_m3 57 rfl rfl
theorem kw_448 : Cond.selects RX1 yX1_unpack yX1_unpack ∈ sv_w := sv_m3 58 rfl rfl
theorem kw_449 : Cond.code yX1_unpack cX1_unpack 8 none ∈ sv_w := sv_m3 59 rfl rfl
theorem kw_450 : Cond.methodLink RX8 243 yX0_copy ∈ sv_w := sv_m3 64 rfl rfl
theorem kw_451 : Cond.instanceMethod yX0_copy ∈ sv_w := sv_m3 65 rfl rfl
theorem kw_452 : Cond.selects RX0 yX0_copy yX0_copy ∈ sv_w := sv_m3 66 rfl rfl
theorem kw_453 : Cond.code yX0_copy cX0_copy 3 none ∈ sv_w := sv_m3 67 rfl rfl
theorem kw_454 : Cond.methodLink RX8 250 yX8_receive ∈ sv_w := sv_m3 68 rfl rfl
theorem kw_455 : Cond.instanceMethod yX8_receive ∈ sv_w := sv_m3 70 rfl rfl
theorem kw_456 : Cond.selects RX8 yX8_receive yX8_receive ∈ sv_w := sv_p2 1 rfl rfl
theorem kw_457 : Cond.code yX8_receive cX8_receive 3 none ∈ sv_w := sv_m3 71 rfl rfl
theorem kw_458 : Cond.fieldLink RX8 178 "SeaReceiver$Sentence" "sum" "I" ∈ sv_w := sv_m1 60 rfl rfl
theorem kw_459 : Cond.fieldLink RX8 181 "SeaReceiver$Sentence" "toldSum" "I" ∈ sv_w := sv_m1 62 rfl rfl
theorem kw_460 : Cond.fieldLink RX8 188 "SeaReceiver$Sentence" "start" "I" ∈ sv_w := sv_m1 56 rfl rfl
theorem kw_461 : Cond.methodLink RX8 184 yX1_split ∈ sv_w := sv_m2 13 rfl rfl
theorem kw_462 : Cond.instanceMethod yX1_split ∈ sv_w := sv_m2 14 rfl rfl
theorem kw_463 : Cond.selects RX1 yX1_split yX1_split ∈ sv_w := sv_m2 15 rfl rfl
theorem kw_464 : Cond.code yX1_split cX1_split 5 none ∈ sv_w := sv_m2 16 rfl rfl
theorem kw_465 : Cond.methodLink RX8 191 yX1_form ∈ sv_w := sv_m2 22 rfl rfl
theorem kw_466 : Cond.instanceMethod yX1_form ∈ sv_w := sv_m2 23 rfl rfl
theorem kw_467 : Cond.selects RX1 yX1_form yX1_form ∈ sv_w := sv_m2 24 rfl rfl
theorem kw_468 : Cond.code yX1_form cX1_form 4 (some .int) ∈ sv_w := sv_m2 25 rfl rfl
theorem kw_469 : Cond.methodLink RX8 194 yX4_takeGga ∈ sv_w := sv_m2 79 rfl rfl
theorem kw_470 : Cond.instanceMethod yX4_takeGga ∈ sv_w := sv_m2 80 rfl rfl
theorem kw_471 : Cond.selects RX4 yX4_takeGga yX4_takeGga ∈ sv_w := sv_m2 81 rfl rfl
theorem kw_472 : Cond.code yX4_takeGga cX4_takeGga 2 (some .boolean) ∈ sv_w := sv_m2 82 rfl rfl
theorem kw_473 : Cond.methodLink RX8 198 yX4_takeRmc ∈ sv_w := sv_m2 163 rfl rfl
theorem kw_474 : Cond.instanceMethod yX4_takeRmc ∈ sv_w := sv_m2 164 rfl rfl
theorem kw_475 : Cond.selects RX4 yX4_takeRmc yX4_takeRmc ∈ sv_w := sv_m2 165 rfl rfl
theorem kw_476 : Cond.code yX4_takeRmc cX4_takeRmc 2 (some .boolean) ∈ sv_w := sv_m2 166 rfl rfl
theorem kw_477 : Cond.methodLink RX8 201 yX4_takeVtg ∈ sv_w := sv_m3 16 rfl rfl
theorem kw_478 : Cond.instanceMethod yX4_takeVtg ∈ sv_w := sv_m3 17 rfl rfl
theorem kw_479 : Cond.selects RX4 yX4_takeVtg yX4_takeVtg ∈ sv_w := sv_m3 18 rfl rfl
theorem kw_480 : Cond.code yX4_takeVtg cX4_takeVtg 2 (some .boolean) ∈ sv_w := sv_m3 19 rfl rfl
theorem kw_481 : Cond.methodLink RX8 204 yX8_takePart ∈ sv_w := sv_m3 22 rfl rfl
theorem kw_482 : Cond.instanceMethod yX8_takePart ∈ sv_w := sv_m3 24 rfl rfl
theorem kw_483 : Cond.selects RX8 yX8_takePart yX8_takePart ∈ sv_w := sv_p1 15 rfl rfl
theorem kw_484 : Cond.code yX8_takePart cX8_takePart 6 (some .boolean) ∈ sv_w := sv_m3 25 rfl rfl
theorem kw_485 : Cond.methodLink RX8 82 yX6_at ∈ sv_w := sv_m1 224 rfl rfl
theorem kw_486 : Cond.instanceMethod yX6_at ∈ sv_w := sv_m1 225 rfl rfl
theorem kw_487 : Cond.selects RX6 yX6_at yX6_at ∈ sv_w := sv_m1 226 rfl rfl
theorem kw_488 : Cond.code yX6_at cX6_at 2 (some .int) ∈ sv_w := sv_m1 227 rfl rfl
theorem kw_489 : Cond.methodLink RX8 86 yX5_hear ∈ sv_w := sv_m1 229 rfl rfl
theorem kw_490 : Cond.instanceMethod yX5_hear ∈ sv_w := sv_m1 230 rfl rfl
theorem kw_491 : Cond.selects RX5 yX5_hear yX5_hear ∈ sv_w := sv_m1 231 rfl rfl
theorem kw_492 : Cond.code yX5_hear cX5_hear 2 (some .int) ∈ sv_w := sv_m1 232 rfl rfl
theorem kw_493 : Cond.methodLink RX8 89 yX8_judge ∈ sv_w := sv_m2 9 rfl rfl
theorem kw_494 : Cond.instanceMethod yX8_judge ∈ sv_w := sv_m2 11 rfl rfl
theorem kw_495 : Cond.selects RX8 yX8_judge yX8_judge ∈ sv_w := sv_p1 4 rfl rfl
theorem kw_496 : Cond.code yX8_judge cX8_judge 2 (some .int) ∈ sv_w := sv_m2 12 rfl rfl
theorem kw_497 : Cond.fieldLink RX8 93 "SeaReceiver$Fleet" "size" "I" ∈ sv_w := sv_m1 162 rfl rfl
theorem kw_498 : Cond.methodLink RX8 94 yX5_underWay ∈ sv_w := sv_m3 140 rfl rfl
theorem kw_499 : Cond.instanceMethod yX5_underWay ∈ sv_w := sv_m3 141 rfl rfl
theorem kw_500 : Cond.selects RX5 yX5_underWay yX5_underWay ∈ sv_w := sv_m3 142 rfl rfl
theorem kw_501 : Cond.code yX5_underWay cX5_underWay 1 (some .int) ∈ sv_w := sv_m3 143 rfl rfl
theorem kw_502 : Cond.methodLink RX8 97 yX3_keptInAll ∈ sv_w := sv_m3 144 rfl rfl
theorem kw_503 : Cond.instanceMethod yX3_keptInAll ∈ sv_w := sv_m3 145 rfl rfl
theorem kw_504 : Cond.selects RX3 yX3_keptInAll yX3_keptInAll ∈ sv_w := sv_m3 146 rfl rfl
theorem kw_505 : Cond.code yX3_keptInAll cX3_keptInAll 3 (some .int) ∈ sv_w := sv_m3 147 rfl rfl
theorem kw_506 : Cond.classLink RX8 100 "java/util/NoSuchElementException" ∈ sv_w := sv_m3 201 rfl rfl
theorem kw_507 : Cond.initialized "java/util/NoSuchElementException" ∈ sv_w := sv_m1 21 rfl rfl
theorem kw_508 : Cond.fieldLink RX8 107 "SeaReceiver$Position" "told" "[I" ∈ sv_w := sv_m1 110 rfl rfl
theorem kw_511 : Cond.methodLink RX8 110 yX2_numberOf ∈ sv_w := sv_m3 152 rfl rfl
theorem kw_512 : Cond.fieldLink RX8 120 "SeaReceiver$Vessel" "values" "[I" ∈ sv_w := sv_m3 96 rfl rfl
theorem kw_513 : Cond.fieldLink RX8 125 "SeaReceiver$Vessel" "lengths" "[I" ∈ sv_w := sv_m3 98 rfl rfl
theorem kw_514 : Cond.methodLink RX8 113 yX2_at ∈ sv_w := sv_m3 157 rfl rfl
theorem kw_515 : Cond.instanceMethod yX2_at ∈ sv_w := sv_m3 158 rfl rfl
theorem kw_516 : Cond.selects RX2 yX2_at yX2_at ∈ sv_w := sv_m3 159 rfl rfl
theorem kw_517 : Cond.code yX2_at cX2_at 2 (some (.object "SeaReceiver$Vessel")) ∈ sv_w := sv_m3 160 rfl rfl
theorem kw_518 : Cond.methodLink RX8 128 yX7_signOf ∈ sv_w := sv_m3 161 rfl rfl
theorem kw_519 : Cond.methodLink RX8 161 yX6_add ∈ sv_w := sv_m3 173 rfl rfl
theorem kw_520 : Cond.methodLink RX8 275 yX8_sixteen ∈ sv_w := sv_m4 97 rfl rfl
theorem kw_521 : Cond.static yX8_sixteen ∈ sv_w := sv_m4 98 rfl rfl
theorem kw_522 : Cond.code yX8_sixteen cX8_sixteen 1 (some .int) ∈ sv_w := sv_m4 99 rfl rfl
theorem kw_523 : Cond.methodLink RX8 267 yX6_addText ∈ sv_w := sv_m4 86 rfl rfl
theorem kw_524 : Cond.instanceMethod yX6_addText ∈ sv_w := sv_m4 87 rfl rfl
theorem kw_525 : Cond.selects RX6 yX6_addText yX6_addText ∈ sv_w := sv_m4 88 rfl rfl
theorem kw_526 : Cond.code yX6_addText cX6_addText 3 none ∈ sv_w := sv_m4 89 rfl rfl
theorem kw_527 : Cond.methodLink RX8 272 yX8_closeSentence ∈ sv_w := sv_m4 93 rfl rfl
theorem kw_528 : Cond.instanceMethod yX8_closeSentence ∈ sv_w := sv_m4 95 rfl rfl
theorem kw_529 : Cond.selects RX8 yX8_closeSentence yX8_closeSentence ∈ sv_w := sv_p2 6 rfl rfl
theorem kw_530 : Cond.code yX8_closeSentence cX8_closeSentence 4 none ∈ sv_w := sv_m4 96 rfl rfl
theorem kw_531 : Cond.classLink RX8 140 "java/lang/IllegalArgumentException" ∈ sv_w := sv_m4 52 rfl rfl
theorem kw_532 : Cond.initialized "java/lang/IllegalArgumentException" ∈ sv_w := sv_m1 22 rfl rfl
theorem kw_533 : Cond.methodLink RX8 147 yX7_tell ∈ sv_w := sv_m4 69 rfl rfl
theorem kw_534 : Cond.instanceMethod yX7_tell ∈ sv_w := sv_m4 70 rfl rfl
theorem kw_535 : Cond.selects RX7 yX7_tell yX7_tell ∈ sv_w := sv_m4 71 rfl rfl
theorem kw_536 : Cond.code yX7_tell cX7_tell 8 none ∈ sv_w := sv_m4 72 rfl rfl
theorem kw_537 : Cond.methodLink RX8 153 yX8_writeSentence ∈ sv_w := sv_m4 81 rfl rfl
theorem kw_538 : Cond.instanceMethod yX8_writeSentence ∈ sv_w := sv_m4 83 rfl rfl
theorem kw_539 : Cond.selects RX8 yX8_writeSentence yX8_writeSentence ∈ sv_w := sv_p2 5 rfl rfl
theorem kw_540 : Cond.code yX8_writeSentence cX8_writeSentence 8 none ∈ sv_w := sv_m4 84 rfl rfl
theorem kw_541 : Cond.methodLink RX8 164 yJ7_fill_53178 ∈ sv_w := sv_m3 178 rfl rfl
theorem kw_542 : Cond.methodLink RX8 170 yX5_forget ∈ sv_w := sv_m3 179 rfl rfl
theorem kw_543 : Cond.instanceMethod yX5_forget ∈ sv_w := sv_m3 180 rfl rfl
theorem kw_544 : Cond.selects RX5 yX5_forget yX5_forget ∈ sv_w := sv_m3 181 rfl rfl
theorem kw_545 : Cond.code yX5_forget cX5_forget 1 none ∈ sv_w := sv_m3 182 rfl rfl
theorem kw_546 : Cond.methodLink RX8 173 yX4_forget ∈ sv_w := sv_m3 183 rfl rfl
theorem kw_547 : Cond.instanceMethod yX4_forget ∈ sv_w := sv_m3 184 rfl rfl
theorem kw_548 : Cond.selects RX4 yX4_forget yX4_forget ∈ sv_w := sv_m3 185 rfl rfl
theorem kw_549 : Cond.code yX4_forget cX4_forget 1 none ∈ sv_w := sv_m3 186 rfl rfl
theorem kw_550 : Cond.methodLink RX8 174 yX3_forget ∈ sv_w := sv_m3 187 rfl rfl
theorem kw_551 : Cond.instanceMethod yX3_forget ∈ sv_w := sv_m3 188 rfl rfl
theorem kw_552 : Cond.selects RX3 yX3_forget yX3_forget ∈ sv_w := sv_m3 189 rfl rfl
theorem kw_553 : Cond.code yX3_forget cX3_forget 1 none ∈ sv_w := sv_m3 190 rfl rfl
theorem kw_554 : Cond.methodLink RX8 175 yX0_empty ∈ sv_w := sv_m3 192 rfl rfl
theorem kw_555 : Cond.fieldLink RX9 1 "SeaReceiverModel" "thrown" "I" ∈ sv_w := sv_m4 118 rfl rfl
theorem kw_556 : Cond.fieldLink RX9 90 "SeaReceiverModel" "may" "I" ∈ sv_w := sv_m4 123 rfl rfl
theorem kw_557 : Cond.fieldLink RX9 93 "SeaReceiverModel" "signs" "I" ∈ sv_w := sv_m4 125 rfl rfl
theorem kw_558 : Cond.fieldLink RX9 289 "SeaReceiverModel" "vessels" "I" ∈ sv_w := sv_m4 146 rfl rfl
theorem kw_559 : Cond.fieldLink RX9 280 "SeaReceiverModel" "hasMessage" "Z" ∈ sv_w := sv_m4 145 rfl rfl
theorem kw_560 : Cond.fieldLink RX9 23 "SeaReceiverModel" "many" "[I" ∈ sv_w := sv_m4 128 rfl rfl
theorem kw_561 : Cond.fieldLink RX9 35 "SeaReceiverModel" "fix" "[I" ∈ sv_w := sv_m4 134 rfl rfl
theorem kw_562 : Cond.constant RX9 73 (-2147483648) ∈ sv_w := sv_m4 117 rfl rfl
theorem kw_563 : Cond.fieldLink RX9 41 "SeaReceiverModel" "came" "[I" ∈ sv_w := sv_m4 140 rfl rfl
theorem kw_564 : Cond.fieldLink RX9 44 "SeaReceiverModel" "long1" "[I" ∈ sv_w := sv_m4 141 rfl rfl
theorem kw_565 : Cond.methodLink RX9 7 objectInit ∈ sv_w := sv_m4 111 rfl rfl
theorem kw_566 : Cond.fieldLink RX9 13 "SeaReceiverModel" "tape" "[I" ∈ sv_w := sv_m4 119 rfl rfl
theorem kw_567 : Cond.fieldLink RX9 17 "SeaReceiverModel" "out" "[I" ∈ sv_w := sv_m4 121 rfl rfl
theorem kw_568 : Cond.fieldLink RX9 20 "SeaReceiverModel" "sign" "[I" ∈ sv_w := sv_m4 124 rfl rfl
theorem kw_569 : Cond.fieldLink RX9 26 "SeaReceiverModel" "from" "[I" ∈ sv_w := sv_m4 129 rfl rfl
theorem kw_570 : Cond.fieldLink RX9 29 "SeaReceiverModel" "to" "[I" ∈ sv_w := sv_m4 130 rfl rfl
theorem kw_571 : Cond.fieldLink RX9 32 "SeaReceiverModel" "value" "[I" ∈ sv_w := sv_m4 133 rfl rfl
theorem kw_572 : Cond.fieldLink RX9 38 "SeaReceiverModel" "ofMany" "[I" ∈ sv_w := sv_m4 139 rfl rfl
theorem kw_573 : Cond.constant RX9 47 (35640) ∈ sv_w := sv_m4 112 rfl rfl
theorem kw_574 : Cond.arrayClass .boolean ∈ sv_w := sv_m4 233 rfl rfl
theorem kw_575 : Cond.fieldLink RX9 48 "SeaReceiverModel" "kept" "[Z" ∈ sv_w := sv_m4 142 rfl rfl
theorem kw_576 : Cond.fieldLink RX9 52 "SeaReceiverModel" "bit" "[Z" ∈ sv_w := sv_m4 143 rfl rfl
theorem kw_577 : Cond.fieldLink RX9 55 "SeaReceiverModel" "row" "[I" ∈ sv_w := sv_m4 147 rfl rfl
theorem kw_578 : Cond.fieldLink RX9 58 "SeaReceiverModel" "text" "[I" ∈ sv_w := sv_m4 148 rfl rfl
theorem kw_579 : Cond.fieldLink RX9 61 "SeaReceiverModel" "textLong" "[I" ∈ sv_w := sv_m4 149 rfl rfl
theorem kw_580 : Cond.fieldLink RX9 64 "SeaReceiverModel" "sent" "[Z" ∈ sv_w := sv_m4 153 rfl rfl
theorem kw_581 : Cond.methodLink RX9 67 yX9_forget ∈ sv_w := sv_m4 113 rfl rfl
theorem kw_582 : Cond.instanceMethod yX9_forget ∈ sv_w := sv_m4 115 rfl rfl
theorem kw_583 : Cond.selects RX9 yX9_forget yX9_forget ∈ sv_w := sv_p2 7 rfl rfl
theorem kw_584 : Cond.initialized RX9 ∈ sv_w := sv_m1 10 rfl rfl
theorem kw_585 : Cond.code yX9_forget cX9_forget 2 none ∈ sv_w := sv_m4 116 rfl rfl
theorem kw_586 : Cond.fieldLink RX9 70 "SeaReceiverModel" "taped" "I" ∈ sv_w := sv_m4 120 rfl rfl
theorem kw_587 : Cond.methodLink RX9 74 yX9_in ∈ sv_w := sv_m5 2 rfl rfl
theorem kw_588 : Cond.static yX9_in ∈ sv_w := sv_m5 3 rfl rfl
theorem kw_589 : Cond.code yX9_in cX9_in 6 (some .boolean) ∈ sv_w := sv_m5 4 rfl rfl
theorem kw_590 : Cond.constantLong RX9 78 (48) ∈ sv_w := sv_m5 18 rfl rfl
theorem kw_591 : Cond.constantLong RX9 80 (57) ∈ sv_w := sv_m5 19 rfl rfl
theorem kw_592 : Cond.constantLong RX9 82 (65) ∈ sv_w := sv_m5 20 rfl rfl
theorem kw_593 : Cond.constantLong RX9 84 (70) ∈ sv_w := sv_m5 21 rfl rfl
theorem kw_594 : Cond.methodLink RX9 127 yJ0_charAt_5068e ∈ sv_w := sv_m5 36 rfl rfl
theorem kw_595 : Cond.constantLong RX9 133 (90) ∈ sv_w := sv_m5 30 rfl rfl
theorem kw_596 : Cond.methodLink RX9 137 yX9_ends ∈ sv_w := sv_m5 32 rfl rfl
theorem kw_597 : Cond.instanceMethod yX9_ends ∈ sv_w := sv_m5 34 rfl rfl
theorem kw_598 : Cond.selects RX9 yX9_ends yX9_ends ∈ sv_w := sv_p2 11 rfl rfl
theorem kw_599 : Cond.code yX9_ends cX9_ends 2 (some .boolean) ∈ sv_w := sv_m5 35 rfl rfl
theorem kw_600 : Cond.methodLink RX9 153 yX9_size ∈ sv_w := sv_m5 53 rfl rfl
theorem kw_601 : Cond.instanceMethod yX9_size ∈ sv_w := sv_m5 55 rfl rfl
theorem kw_602 : Cond.selects RX9 yX9_size yX9_size ∈ sv_w := sv_p2 15 rfl rfl
theorem kw_603 : Cond.code yX9_size cX9_size 2 (some .int) ∈ sv_w := sv_m5 56 rfl rfl
theorem kw_604 : Cond.methodLink RX9 156 yX9_at ∈ sv_w := sv_m5 61 rfl rfl
theorem kw_605 : Cond.instanceMethod yX9_at ∈ sv_w := sv_m5 63 rfl rfl
theorem kw_606 : Cond.selects RX9 yX9_at yX9_at ∈ sv_w := sv_p3 1 rfl rfl
theorem kw_607 : Cond.code yX9_at cX9_at 3 (some .int) ∈ sv_w := sv_m5 64 rfl rfl
theorem kw_608 : Cond.methodLink RX9 160 yX9_isDigit ∈ sv_w := sv_m5 65 rfl rfl
theorem kw_609 : Cond.static yX9_isDigit ∈ sv_w := sv_m5 66 rfl rfl
theorem kw_610 : Cond.code yX9_isDigit cX9_isDigit 1 (some .boolean) ∈ sv_w := sv_m5 67 rfl rfl
theorem kw_611 : Cond.fieldLink RX9 149 "SeaReceiverModel" "good" "Z" ∈ sv_w := sv_m4 132 rfl rfl
theorem kw_612 : Cond.methodLink RX9 163 yX9_digits ∈ sv_w := sv_m5 57 rfl rfl
theorem kw_613 : Cond.instanceMethod yX9_digits ∈ sv_w := sv_m5 59 rfl rfl
theorem kw_614 : Cond.selects RX9 yX9_digits yX9_digits ∈ sv_w := sv_p3 0 rfl rfl
theorem kw_615 : Cond.code yX9_digits cX9_digits 4 (some .int) ∈ sv_w := sv_m5 60 rfl rfl
theorem kw_616 : Cond.methodLink RX9 166 yX9_bad ∈ sv_w := sv_m5 68 rfl rfl
theorem kw_617 : Cond.instanceMethod yX9_bad ∈ sv_w := sv_m5 70 rfl rfl
theorem kw_618 : Cond.selects RX9 yX9_bad yX9_bad ∈ sv_w := sv_p3 2 rfl rfl
theorem kw_619 : Cond.code yX9_bad cX9_bad 1 (some .int) ∈ sv_w := sv_m5 71 rfl rfl
theorem kw_620 : Cond.methodLink RX9 173 yX9_whole ∈ sv_w := sv_m5 72 rfl rfl
theorem kw_621 : Cond.instanceMethod yX9_whole ∈ sv_w := sv_m5 74 rfl rfl
theorem kw_622 : Cond.selects RX9 yX9_whole yX9_whole ∈ sv_w := sv_p3 3 rfl rfl
theorem kw_623 : Cond.code yX9_whole cX9_whole 6 (some .int) ∈ sv_w := sv_m5 75 rfl rfl
theorem kw_624 : Cond.methodLink RX9 169 yX9_behind ∈ sv_w := sv_m5 76 rfl rfl
theorem kw_625 : Cond.instanceMethod yX9_behind ∈ sv_w := sv_m5 78 rfl rfl
theorem kw_626 : Cond.selects RX9 yX9_behind yX9_behind ∈ sv_w := sv_p3 4 rfl rfl
theorem kw_627 : Cond.code yX9_behind cX9_behind 8 (some .int) ∈ sv_w := sv_m5 79 rfl rfl
theorem kw_628 : Cond.methodLink RX9 187 yJ0_length_8abf5 ∈ sv_w := sv_m5 94 rfl rfl
theorem kw_629 : Cond.methodLink RX9 190 yX9_one ∈ sv_w := sv_m5 90 rfl rfl
theorem kw_630 : Cond.instanceMethod yX9_one ∈ sv_w := sv_m5 92 rfl rfl
theorem kw_631 : Cond.selects RX9 yX9_one yX9_one ∈ sv_w := sv_p3 7 rfl rfl
theorem kw_632 : Cond.code yX9_one cX9_one 5 (some .int) ∈ sv_w := sv_m5 93 rfl rfl
theorem kw_633 : Cond.constant RX9 194 (600000) ∈ sv_w := sv_m5 85 rfl rfl
theorem kw_634 : Cond.methodLink RX9 195 yX9_sided ∈ sv_w := sv_m5 86 rfl rfl
theorem kw_635 : Cond.instanceMethod yX9_sided ∈ sv_w := sv_m5 88 rfl rfl
theorem kw_636 : Cond.selects RX9 yX9_sided yX9_sided ∈ sv_w := sv_p3 6 rfl rfl
theorem kw_637 : Cond.code yX9_sided cX9_sided 5 (some .int) ∈ sv_w := sv_m5 89 rfl rfl
theorem kw_638 : Cond.methodLink RX9 177 yX9_ten ∈ sv_w := sv_m5 104 rfl rfl
theorem kw_639 : Cond.static yX9_ten ∈ sv_w := sv_m5 105 rfl rfl
theorem kw_640 : Cond.code yX9_ten cX9_ten 3 (some .int) ∈ sv_w := sv_m5 106 rfl rfl
theorem kw_641 : Cond.methodLink RX9 211 yX9_time ∈ sv_w := sv_m5 49 rfl rfl
theorem kw_642 : Cond.instanceMethod yX9_time ∈ sv_w := sv_m5 51 rfl rfl
theorem kw_643 : Cond.selects RX9 yX9_time yX9_time ∈ sv_w := sv_p2 14 rfl rfl
theorem kw_644 : Cond.code yX9_time cX9_time 6 (some .int) ∈ sv_w := sv_m5 52 rfl rfl
theorem kw_645 : Cond.methodLink RX9 216 yX9_place ∈ sv_w := sv_m5 81 rfl rfl
theorem kw_646 : Cond.instanceMethod yX9_place ∈ sv_w := sv_m5 83 rfl rfl
theorem kw_647 : Cond.selects RX9 yX9_place yX9_place ∈ sv_w := sv_p3 5 rfl rfl
theorem kw_648 : Cond.code yX9_place cX9_place 9 (some .int) ∈ sv_w := sv_m5 84 rfl rfl
theorem kw_649 : Cond.methodLink RX9 180 yX9_number ∈ sv_w := sv_m5 96 rfl rfl
theorem kw_650 : Cond.instanceMethod yX9_number ∈ sv_w := sv_m5 98 rfl rfl
theorem kw_651 : Cond.selects RX9 yX9_number yX9_number ∈ sv_w := sv_p3 8 rfl rfl
theorem kw_652 : Cond.code yX9_number cX9_number 3 (some .int) ∈ sv_w := sv_m5 99 rfl rfl
theorem kw_653 : Cond.methodLink RX9 222 yX9_decimal ∈ sv_w := sv_m5 100 rfl rfl
theorem kw_654 : Cond.instanceMethod yX9_decimal ∈ sv_w := sv_m5 102 rfl rfl
theorem kw_655 : Cond.selects RX9 yX9_decimal yX9_decimal ∈ sv_w := sv_p3 9 rfl rfl
theorem kw_656 : Cond.code yX9_decimal cX9_decimal 9 (some .int) ∈ sv_w := sv_m5 103 rfl rfl
theorem kw_657 : Cond.methodLink RX9 228 yX9_measured ∈ sv_w := sv_m5 108 rfl rfl
theorem kw_658 : Cond.instanceMethod yX9_measured ∈ sv_w := sv_m5 110 rfl rfl
theorem kw_659 : Cond.selects RX9 yX9_measured yX9_measured ∈ sv_w := sv_p3 10 rfl rfl
theorem kw_660 : Cond.code yX9_measured cX9_measured 5 (some .int) ∈ sv_w := sv_m5 111 rfl rfl
theorem kw_661 : Cond.constantLong RX9 183 (31) ∈ sv_w := sv_m5 126 rfl rfl
theorem kw_662 : Cond.constantLong RX9 185 (12) ∈ sv_w := sv_m5 127 rfl rfl
theorem kw_663 : Cond.constant RX9 233 (35999) ∈ sv_w := sv_m5 117 rfl rfl
theorem kw_664 : Cond.fieldLink RX9 113 "SeaReceiverModel" "fields" "I" ∈ sv_w := sv_m4 131 rfl rfl
theorem kw_665 : Cond.methodLink RX9 234 yX9_below ∈ sv_w := sv_m5 118 rfl rfl
theorem kw_666 : Cond.instanceMethod yX9_below ∈ sv_w := sv_m5 120 rfl rfl
theorem kw_667 : Cond.selects RX9 yX9_below yX9_below ∈ sv_w := sv_p3 12 rfl rfl
theorem kw_668 : Cond.code yX9_below cX9_below 3 (some .int) ∈ sv_w := sv_m5 121 rfl rfl
theorem kw_669 : Cond.methodLink RX9 237 yX9_date ∈ sv_w := sv_m5 122 rfl rfl
theorem kw_670 : Cond.instanceMethod yX9_date ∈ sv_w := sv_m5 124 rfl rfl
theorem kw_671 : Cond.selects RX9 yX9_date yX9_date ∈ sv_w := sv_p3 13 rfl rfl
theorem kw_672 : Cond.code yX9_date cX9_date 5 (some .int) ∈ sv_w := sv_m5 125 rfl rfl
theorem kw_673 : Cond.fieldLink RX9 248 "SeaReceiverModel" "parts" "I" ∈ sv_w := sv_m4 135 rfl rfl
theorem kw_674 : Cond.fieldLink RX9 251 "SeaReceiverModel" "which" "I" ∈ sv_w := sv_m4 136 rfl rfl
theorem kw_675 : Cond.fieldLink RX9 254 "SeaReceiverModel" "id" "I" ∈ sv_w := sv_m4 137 rfl rfl
theorem kw_676 : Cond.fieldLink RX9 259 "SeaReceiverModel" "fill" "I" ∈ sv_w := sv_m4 138 rfl rfl
theorem kw_677 : Cond.constantLong RX9 262 (60) ∈ sv_w := sv_m5 141 rfl rfl
theorem kw_678 : Cond.constantLong RX9 264 (87) ∈ sv_w := sv_m5 142 rfl rfl
theorem kw_679 : Cond.constantLong RX9 266 (96) ∈ sv_w := sv_m5 143 rfl rfl
theorem kw_680 : Cond.constantLong RX9 268 (119) ∈ sv_w := sv_m5 144 rfl rfl
theorem kw_681 : Cond.methodLink RX9 199 yX9_gga ∈ sv_w := sv_m5 45 rfl rfl
theorem kw_682 : Cond.instanceMethod yX9_gga ∈ sv_w := sv_m5 47 rfl rfl
theorem kw_683 : Cond.selects RX9 yX9_gga yX9_gga ∈ sv_w := sv_p2 13 rfl rfl
theorem kw_684 : Cond.code yX9_gga cX9_gga 1 none ∈ sv_w := sv_m5 48 rfl rfl
theorem kw_685 : Cond.methodLink RX9 202 yX9_rmc ∈ sv_w := sv_m5 112 rfl rfl
theorem kw_686 : Cond.instanceMethod yX9_rmc ∈ sv_w := sv_m5 114 rfl rfl
theorem kw_687 : Cond.selects RX9 yX9_rmc yX9_rmc ∈ sv_w := sv_p3 11 rfl rfl
theorem kw_688 : Cond.code yX9_rmc cX9_rmc 2 none ∈ sv_w := sv_m5 115 rfl rfl
theorem kw_689 : Cond.methodLink RX9 205 yX9_vtg ∈ sv_w := sv_m5 129 rfl rfl
theorem kw_690 : Cond.instanceMethod yX9_vtg ∈ sv_w := sv_m5 131 rfl rfl
theorem kw_691 : Cond.selects RX9 yX9_vtg yX9_vtg ∈ sv_w := sv_p3 14 rfl rfl
theorem kw_692 : Cond.code yX9_vtg cX9_vtg 1 none ∈ sv_w := sv_m5 132 rfl rfl
theorem kw_693 : Cond.methodLink RX9 208 yX9_part ∈ sv_w := sv_m5 136 rfl rfl
theorem kw_694 : Cond.instanceMethod yX9_part ∈ sv_w := sv_m5 138 rfl rfl
theorem kw_695 : Cond.selects RX9 yX9_part yX9_part ∈ sv_w := sv_p3 15 rfl rfl
theorem kw_696 : Cond.code yX9_part cX9_part 4 none ∈ sv_w := sv_m5 139 rfl rfl
theorem kw_697 : Cond.methodLink RX9 286 yX9_read ∈ sv_w := sv_m5 161 rfl rfl
theorem kw_698 : Cond.instanceMethod yX9_read ∈ sv_w := sv_m5 163 rfl rfl
theorem kw_699 : Cond.selects RX9 yX9_read yX9_read ∈ sv_w := sv_p4 4 rfl rfl
theorem kw_700 : Cond.code yX9_read cX9_read 5 (some .int) ∈ sv_w := sv_m5 164 rfl rfl
theorem kw_701 : Cond.fieldLink RX9 352 "SeaReceiverModel" "sents" "I" ∈ sv_w := sv_m4 154 rfl rfl
theorem kw_702 : Cond.fieldLink RX9 300 "SeaReceiverModel" "now" "I" ∈ sv_w := sv_m4 152 rfl rfl
theorem kw_703 : Cond.fieldLink RX9 303 "SeaReceiverModel" "writes" "Z" ∈ sv_w := sv_m4 151 rfl rfl
theorem kw_704 : Cond.fieldLink RX9 306 "SeaReceiverModel" "place" "I" ∈ sv_w := sv_m4 150 rfl rfl
theorem kw_705 : Cond.methodLink RX9 308 yX9_signed ∈ sv_w := sv_m5 178 rfl rfl
theorem kw_706 : Cond.instanceMethod yX9_signed ∈ sv_w := sv_m5 180 rfl rfl
theorem kw_707 : Cond.selects RX9 yX9_signed yX9_signed ∈ sv_w := sv_p4 8 rfl rfl
theorem kw_708 : Cond.code yX9_signed cX9_signed 3 (some .int) ∈ sv_w := sv_m5 181 rfl rfl
theorem kw_709 : Cond.methodLink RX9 311 yX9_put ∈ sv_w := sv_m5 182 rfl rfl
theorem kw_710 : Cond.instanceMethod yX9_put ∈ sv_w := sv_m5 184 rfl rfl
theorem kw_711 : Cond.selects RX9 yX9_put yX9_put ∈ sv_w := sv_p4 9 rfl rfl
theorem kw_712 : Cond.code yX9_put cX9_put 4 none ∈ sv_w := sv_m5 185 rfl rfl
theorem kw_713 : Cond.methodLink RX9 317 yX9_go ∈ sv_w := sv_m5 174 rfl rfl
theorem kw_714 : Cond.instanceMethod yX9_go ∈ sv_w := sv_m5 176 rfl rfl
theorem kw_715 : Cond.selects RX9 yX9_go yX9_go ∈ sv_w := sv_p4 7 rfl rfl
theorem kw_716 : Cond.code yX9_go cX9_go 5 none ∈ sv_w := sv_m5 177 rfl rfl
theorem kw_717 : Cond.methodLink RX9 314 yX9_room ∈ sv_w := sv_m5 206 rfl rfl
theorem kw_718 : Cond.static yX9_room ∈ sv_w := sv_m5 207 rfl rfl
theorem kw_719 : Cond.code yX9_room cX9_room 1 (some .int) ∈ sv_w := sv_m5 208 rfl rfl
theorem kw_720 : Cond.methodLink RX9 327 yX9_skip ∈ sv_w := sv_m5 194 rfl rfl
theorem kw_721 : Cond.instanceMethod yX9_skip ∈ sv_w := sv_m5 196 rfl rfl
theorem kw_722 : Cond.selects RX9 yX9_skip yX9_skip ∈ sv_w := sv_p4 12 rfl rfl
theorem kw_723 : Cond.code yX9_skip cX9_skip 2 none ∈ sv_w := sv_m5 197 rfl rfl
theorem kw_724 : Cond.methodLink RX9 333 yX9_words ∈ sv_w := sv_m5 202 rfl rfl
theorem kw_725 : Cond.instanceMethod yX9_words ∈ sv_w := sv_m5 204 rfl rfl
theorem kw_726 : Cond.selects RX9 yX9_words yX9_words ∈ sv_w := sv_p4 14 rfl rfl
theorem kw_727 : Cond.code yX9_words cX9_words 7 none ∈ sv_w := sv_m5 205 rfl rfl
theorem kw_728 : Cond.methodLink RX9 321 yX9_where ∈ sv_w := sv_m5 186 rfl rfl
theorem kw_729 : Cond.instanceMethod yX9_where ∈ sv_w := sv_m5 188 rfl rfl
theorem kw_730 : Cond.selects RX9 yX9_where yX9_where ∈ sv_w := sv_p4 10 rfl rfl
theorem kw_731 : Cond.code yX9_where cX9_where 1 none ∈ sv_w := sv_m5 189 rfl rfl
theorem kw_732 : Cond.methodLink RX9 324 yX9_way ∈ sv_w := sv_m5 190 rfl rfl
theorem kw_733 : Cond.instanceMethod yX9_way ∈ sv_w := sv_m5 192 rfl rfl
theorem kw_734 : Cond.selects RX9 yX9_way yX9_way ∈ sv_w := sv_p4 11 rfl rfl
theorem kw_735 : Cond.code yX9_way cX9_way 1 none ∈ sv_w := sv_m5 193 rfl rfl
theorem kw_736 : Cond.methodLink RX9 330 yX9_still ∈ sv_w := sv_m5 198 rfl rfl
theorem kw_737 : Cond.instanceMethod yX9_still ∈ sv_w := sv_m5 200 rfl rfl
theorem kw_738 : Cond.selects RX9 yX9_still yX9_still ∈ sv_w := sv_p4 13 rfl rfl
theorem kw_739 : Cond.code yX9_still cX9_still 1 none ∈ sv_w := sv_m5 201 rfl rfl
theorem kw_740 : Cond.fieldLink RX9 277 "SeaReceiverModel" "bits" "I" ∈ sv_w := sv_m4 144 rfl rfl
theorem kw_741 : Cond.constantLong RX9 292 (4) ∈ sv_w := sv_m5 165 rfl rfl
theorem kw_742 : Cond.methodLink RX9 294 yX9_found ∈ sv_w := sv_m5 166 rfl rfl
theorem kw_743 : Cond.instanceMethod yX9_found ∈ sv_w := sv_m5 168 rfl rfl
theorem kw_744 : Cond.selects RX9 yX9_found yX9_found ∈ sv_w := sv_p4 5 rfl rfl
theorem kw_745 : Cond.code yX9_found cX9_found 3 (some .int) ∈ sv_w := sv_m5 169 rfl rfl
theorem kw_746 : Cond.methodLink RX9 297 yX9_reports ∈ sv_w := sv_m5 170 rfl rfl
theorem kw_747 : Cond.instanceMethod yX9_reports ∈ sv_w := sv_m5 172 rfl rfl
theorem kw_748 : Cond.selects RX9 yX9_reports yX9_reports ∈ sv_w := sv_p4 6 rfl rfl
theorem kw_749 : Cond.code yX9_reports cX9_reports 3 none ∈ sv_w := sv_m5 173 rfl rfl
theorem kw_750 : Cond.methodLink RX9 283 yX9_message ∈ sv_w := sv_m5 157 rfl rfl
theorem kw_751 : Cond.instanceMethod yX9_message ∈ sv_w := sv_m5 159 rfl rfl
theorem kw_752 : Cond.selects RX9 yX9_message yX9_message ∈ sv_w := sv_p4 3 rfl rfl
theorem kw_753 : Cond.code yX9_message cX9_message 6 none ∈ sv_w := sv_m5 160 rfl rfl
theorem kw_754 : Cond.methodLink RX9 270 yX9_keep ∈ sv_w := sv_m5 149 rfl rfl
theorem kw_755 : Cond.instanceMethod yX9_keep ∈ sv_w := sv_m5 151 rfl rfl
theorem kw_756 : Cond.selects RX9 yX9_keep yX9_keep ∈ sv_w := sv_p4 1 rfl rfl
theorem kw_757 : Cond.code yX9_keep cX9_keep 4 none ∈ sv_w := sv_m5 152 rfl rfl
theorem kw_758 : Cond.methodLink RX9 274 yX9_parted ∈ sv_w := sv_m5 153 rfl rfl
theorem kw_759 : Cond.instanceMethod yX9_parted ∈ sv_w := sv_m5 155 rfl rfl
theorem kw_760 : Cond.selects RX9 yX9_parted yX9_parted ∈ sv_w := sv_p4 2 rfl rfl
theorem kw_761 : Cond.code yX9_parted cX9_parted 5 none ∈ sv_w := sv_m5 156 rfl rfl
theorem kw_762 : Cond.fieldLink RX9 107 "SeaReceiverModel" "told" "I" ∈ sv_w := sv_m4 127 rfl rfl
theorem kw_763 : Cond.fieldLink RX9 96 "SeaReceiverModel" "sum" "I" ∈ sv_w := sv_m4 126 rfl rfl
theorem kw_764 : Cond.methodLink RX9 116 yX9_form ∈ sv_w := sv_m5 26 rfl rfl
theorem kw_765 : Cond.instanceMethod yX9_form ∈ sv_w := sv_m5 28 rfl rfl
theorem kw_766 : Cond.selects RX9 yX9_form yX9_form ∈ sv_w := sv_p2 10 rfl rfl
theorem kw_767 : Cond.code yX9_form cX9_form 2 (some .int) ∈ sv_w := sv_m5 29 rfl rfl
theorem kw_768 : Cond.methodLink RX9 120 yX9_fits ∈ sv_w := sv_m5 41 rfl rfl
theorem kw_769 : Cond.instanceMethod yX9_fits ∈ sv_w := sv_m5 43 rfl rfl
theorem kw_770 : Cond.selects RX9 yX9_fits yX9_fits ∈ sv_w := sv_p2 12 rfl rfl
theorem kw_771 : Cond.code yX9_fits cX9_fits 2 (some .boolean) ∈ sv_w := sv_m5 44 rfl rfl
theorem kw_772 : Cond.methodLink RX9 124 yX9_taken ∈ sv_w := sv_m5 145 rfl rfl
theorem kw_773 : Cond.instanceMethod yX9_taken ∈ sv_w := sv_m5 147 rfl rfl
theorem kw_774 : Cond.selects RX9 yX9_taken yX9_taken ∈ sv_w := sv_p4 0 rfl rfl
theorem kw_775 : Cond.code yX9_taken cX9_taken 2 none ∈ sv_w := sv_m5 148 rfl rfl
theorem kw_776 : Cond.constantLong RX9 99 (32) ∈ sv_w := sv_m5 13 rfl rfl
theorem kw_777 : Cond.constantLong RX9 101 (126) ∈ sv_w := sv_m5 14 rfl rfl
theorem kw_778 : Cond.methodLink RX9 103 yX9_sixteen ∈ sv_w := sv_m5 15 rfl rfl
theorem kw_779 : Cond.static yX9_sixteen ∈ sv_w := sv_m5 16 rfl rfl
theorem kw_780 : Cond.code yX9_sixteen cX9_sixteen 1 (some .int) ∈ sv_w := sv_m5 17 rfl rfl
theorem kw_781 : Cond.methodLink RX9 110 yX9_ended ∈ sv_w := sv_m5 22 rfl rfl
theorem kw_782 : Cond.instanceMethod yX9_ended ∈ sv_w := sv_m5 24 rfl rfl
theorem kw_783 : Cond.selects RX9 yX9_ended yX9_ended ∈ sv_w := sv_p2 9 rfl rfl
theorem kw_784 : Cond.code yX9_ended cX9_ended 2 none ∈ sv_w := sv_m5 25 rfl rfl
theorem kw_785 : Cond.methodLink RX9 86 yX9_comes ∈ sv_w := sv_m5 9 rfl rfl
theorem kw_786 : Cond.instanceMethod yX9_comes ∈ sv_w := sv_m5 11 rfl rfl
theorem kw_787 : Cond.selects RX9 yX9_comes yX9_comes ∈ sv_w := sv_p2 8 rfl rfl
theorem kw_788 : Cond.code yX9_comes cX9_comes 3 none ∈ sv_w := sv_m5 12 rfl rfl
theorem kw_789 : Cond.constantLong RX9 336 (8) ∈ sv_w := sv_m5 213 rfl rfl
theorem kw_790 : Cond.fieldLink RX9 338 "SeaReceiverModel" "outs" "I" ∈ sv_w := sv_m4 122 rfl rfl
theorem kw_791 : Cond.constantLong RX9 341 (17) ∈ sv_w := sv_m5 218 rfl rfl
theorem kw_792 : Cond.methodLink RX9 343 yX9_refuse ∈ sv_w := sv_m5 219 rfl rfl
theorem kw_793 : Cond.instanceMethod yX9_refuse ∈ sv_w := sv_m5 221 rfl rfl
theorem kw_794 : Cond.selects RX9 yX9_refuse yX9_refuse ∈ sv_w := sv_p4 15 rfl rfl
theorem kw_795 : Cond.code yX9_refuse cX9_refuse 2 (some .int) ∈ sv_w := sv_m5 222 rfl rfl
theorem kw_796 : Cond.constantLong RX9 346 (23) ∈ sv_w := sv_m5 231 rfl rfl
theorem kw_797 : Cond.constantLong RX9 348 (30) ∈ sv_w := sv_m5 232 rfl rfl
theorem kw_798 : Cond.constantLong RX9 350 (2) ∈ sv_w := sv_m5 237 rfl rfl
theorem kw_799 : Cond.fieldLink RX9 355 "SeaReceiverModel" "check" "I" ∈ sv_w := sv_m4 155 rfl rfl
theorem kw_800 : Cond.methodLink RX9 358 yX9_write ∈ sv_w := sv_m6 16 rfl rfl
theorem kw_801 : Cond.instanceMethod yX9_write ∈ sv_w := sv_m6 18 rfl rfl
theorem kw_802 : Cond.selects RX9 yX9_write yX9_write ∈ sv_w := sv_p5 2 rfl rfl
theorem kw_803 : Cond.code yX9_write cX9_write 2 none ∈ sv_w := sv_m6 19 rfl rfl
theorem kw_804 : Cond.methodLink RX9 363 yX9_writeAll ∈ sv_w := sv_m6 12 rfl rfl
theorem kw_805 : Cond.instanceMethod yX9_writeAll ∈ sv_w := sv_m6 14 rfl rfl
theorem kw_806 : Cond.selects RX9 yX9_writeAll yX9_writeAll ∈ sv_w := sv_p5 1 rfl rfl
theorem kw_807 : Cond.code yX9_writeAll cX9_writeAll 3 none ∈ sv_w := sv_m6 15 rfl rfl
theorem kw_808 : Cond.methodLink RX9 369 yX9_hexOf ∈ sv_w := sv_m6 21 rfl rfl
theorem kw_809 : Cond.static yX9_hexOf ∈ sv_w := sv_m6 22 rfl rfl
theorem kw_810 : Cond.code yX9_hexOf cX9_hexOf 1 (some .int) ∈ sv_w := sv_m6 23 rfl rfl
theorem kw_811 : Cond.constantLong RX9 372 (9) ∈ sv_w := sv_m6 6 rfl rfl
theorem kw_812 : Cond.methodLink RX9 374 yX9_sentence ∈ sv_w := sv_m6 7 rfl rfl
theorem kw_813 : Cond.instanceMethod yX9_sentence ∈ sv_w := sv_m6 9 rfl rfl
theorem kw_814 : Cond.selects RX9 yX9_sentence yX9_sentence ∈ sv_w := sv_p5 0 rfl rfl
theorem kw_815 : Cond.code yX9_sentence cX9_sentence 10 none ∈ sv_w := sv_m6 10 rfl rfl
theorem kw_817 : Cond.classLink RL 13 "java/util/NoSuchElementException" ∈ sv_w := sv_m3 196 rfl rfl
theorem kw_818 : Cond.methodLink RL 7 yX8_fix ∈ sv_w := sv_m3 197 rfl rfl
theorem kw_819 : Cond.instanceMethod yX8_fix ∈ sv_w := sv_m3 198 rfl rfl
theorem kw_820 : Cond.selects RX8 yX8_fix yX8_fix ∈ sv_w := sv_m3 199 rfl rfl
theorem kw_821 : Cond.code yX8_fix cX8_fix 2 (some .int) ∈ sv_w := sv_m3 200 rfl rfl
theorem kw_823 : Cond.methodLink RL 15 yX8_vessel ∈ sv_w := sv_m4 30 rfl rfl
theorem kw_824 : Cond.instanceMethod yX8_vessel ∈ sv_w := sv_m4 31 rfl rfl
theorem kw_825 : Cond.selects RX8 yX8_vessel yX8_vessel ∈ sv_w := sv_m4 32 rfl rfl
theorem kw_826 : Cond.code yX8_vessel cX8_vessel 4 (some .int) ∈ sv_w := sv_m4 33 rfl rfl
theorem kw_827 : Cond.methodLink RL 19 yX8_bits ∈ sv_w := sv_m4 39 rfl rfl
theorem kw_828 : Cond.instanceMethod yX8_bits ∈ sv_w := sv_m4 40 rfl rfl
theorem kw_829 : Cond.selects RX8 yX8_bits yX8_bits ∈ sv_w := sv_m4 41 rfl rfl
theorem kw_830 : Cond.code yX8_bits cX8_bits 3 (some .int) ∈ sv_w := sv_m4 42 rfl rfl
theorem kw_831 : Cond.classLink RL 26 "java/lang/IllegalArgumentException" ∈ sv_w := sv_m4 47 rfl rfl
theorem kw_832 : Cond.methodLink RL 22 yX8_send ∈ sv_w := sv_m4 48 rfl rfl
theorem kw_833 : Cond.instanceMethod yX8_send ∈ sv_w := sv_m4 49 rfl rfl
theorem kw_834 : Cond.selects RX8 yX8_send yX8_send ∈ sv_w := sv_m4 50 rfl rfl
theorem kw_835 : Cond.code yX8_send cX8_send 6 (some .int) ∈ sv_w := sv_m4 51 rfl rfl
theorem kw_838 : Cond.classLink RL 8 RX8 ∈ sv_w := sv_m1 23 rfl rfl
theorem kw_839 : Cond.instantiable RX8 10 ∈ sv_w := sv_m1 24 rfl rfl
theorem kw_840 : Cond.classLink RL 29 RX9 ∈ sv_w := sv_m4 106 rfl rfl
theorem kw_841 : Cond.instantiable RX9 38 ∈ sv_w := sv_m4 107 rfl rfl
theorem kw_842 : Cond.arrayClass .long ∈ sv_w := sv_m6 36 rfl rfl
theorem kw_843 : Cond.methodLink RL 28 yX8_init ∈ sv_w := sv_m1 25 rfl rfl
theorem kw_844 : Cond.instanceMethod yX8_init ∈ sv_w := sv_m1 26 rfl rfl
theorem kw_845 : Cond.code yX8_init cX8_init 1 none ∈ sv_w := sv_m1 27 rfl rfl
theorem kw_846 : Cond.methodLink RL 31 yX9_init ∈ sv_w := sv_m4 108 rfl rfl
theorem kw_847 : Cond.instanceMethod yX9_init ∈ sv_w := sv_m4 109 rfl rfl
theorem kw_848 : Cond.code yX9_init cX9_init 1 none ∈ sv_w := sv_m4 110 rfl rfl
theorem kw_849 : Cond.methodLink RL 32 yX8_feed ∈ sv_w := sv_m1 199 rfl rfl
theorem kw_850 : Cond.instanceMethod yX8_feed ∈ sv_w := sv_m1 200 rfl rfl
theorem kw_851 : Cond.selects RX8 yX8_feed yX8_feed ∈ sv_w := sv_m1 201 rfl rfl
theorem kw_852 : Cond.code yX8_feed cX8_feed 6 (some .int) ∈ sv_w := sv_m1 202 rfl rfl
theorem kw_853 : Cond.methodLink RL 36 yX9_feed ∈ sv_w := sv_m4 234 rfl rfl
theorem kw_854 : Cond.instanceMethod yX9_feed ∈ sv_w := sv_m4 235 rfl rfl
theorem kw_855 : Cond.selects RX9 yX9_feed yX9_feed ∈ sv_w := sv_m4 236 rfl rfl
theorem kw_856 : Cond.code yX9_feed cX9_feed 8 (some .int) ∈ sv_w := sv_m4 237 rfl rfl
theorem kw_857 : Cond.methodLink RL 37 yX8_end ∈ sv_w := sv_m1 216 rfl rfl
theorem kw_858 : Cond.instanceMethod yX8_end ∈ sv_w := sv_m1 217 rfl rfl
theorem kw_859 : Cond.selects RX8 yX8_end yX8_end ∈ sv_w := sv_m1 218 rfl rfl
theorem kw_860 : Cond.code yX8_end cX8_end 2 (some .boolean) ∈ sv_w := sv_m1 219 rfl rfl
theorem kw_861 : Cond.methodLink RL 41 yX9_end ∈ sv_w := sv_m4 238 rfl rfl
theorem kw_862 : Cond.instanceMethod yX9_end ∈ sv_w := sv_m4 239 rfl rfl
theorem kw_863 : Cond.selects RX9 yX9_end yX9_end ∈ sv_w := sv_m5 0 rfl rfl
theorem kw_864 : Cond.code yX9_end cX9_end 2 (some .boolean) ∈ sv_w := sv_m5 1 rfl rfl
theorem kw_865 : Cond.methodLink RL 42 yX8_stream ∈ sv_w := sv_m1 220 rfl rfl
theorem kw_866 : Cond.instanceMethod yX8_stream ∈ sv_w := sv_m1 221 rfl rfl
theorem kw_867 : Cond.selects RX8 yX8_stream yX8_stream ∈ sv_w := sv_m1 222 rfl rfl
theorem kw_868 : Cond.code yX8_stream cX8_stream 5 (some .int) ∈ sv_w := sv_m1 223 rfl rfl
theorem kw_869 : Cond.methodLink RL 46 yX9_stream ∈ sv_w := sv_m5 5 rfl rfl
theorem kw_870 : Cond.instanceMethod yX9_stream ∈ sv_w := sv_m5 6 rfl rfl
theorem kw_871 : Cond.selects RX9 yX9_stream yX9_stream ∈ sv_w := sv_m5 7 rfl rfl
theorem kw_872 : Cond.code yX9_stream cX9_stream 4 (some .int) ∈ sv_w := sv_m5 8 rfl rfl
theorem kw_873 : Cond.methodLink RL 47 yX8_count ∈ sv_w := sv_m3 136 rfl rfl
theorem kw_874 : Cond.instanceMethod yX8_count ∈ sv_w := sv_m3 137 rfl rfl
theorem kw_875 : Cond.selects RX8 yX8_count yX8_count ∈ sv_w := sv_m3 138 rfl rfl
theorem kw_876 : Cond.code yX8_count cX8_count 2 (some .int) ∈ sv_w := sv_m3 139 rfl rfl
theorem kw_877 : Cond.methodLink RL 50 yX9_count ∈ sv_w := sv_m5 209 rfl rfl
theorem kw_878 : Cond.instanceMethod yX9_count ∈ sv_w := sv_m5 210 rfl rfl
theorem kw_879 : Cond.selects RX9 yX9_count yX9_count ∈ sv_w := sv_m5 211 rfl rfl
theorem kw_880 : Cond.code yX9_count cX9_count 4 (some .int) ∈ sv_w := sv_m5 212 rfl rfl
theorem kw_881 : Cond.methodLink RL 51 yL_fix ∈ sv_w := sv_m3 193 rfl rfl
theorem kw_882 : Cond.static yL_fix ∈ sv_w := sv_m3 194 rfl rfl
theorem kw_883 : Cond.initialized RL ∈ sv_w := sv_m1 0 rfl rfl
theorem kw_885 : Cond.methodLink RL 56 yX9_fix ∈ sv_w := sv_m5 214 rfl rfl
theorem kw_886 : Cond.instanceMethod yX9_fix ∈ sv_w := sv_m5 215 rfl rfl
theorem kw_887 : Cond.selects RX9 yX9_fix yX9_fix ∈ sv_w := sv_m5 216 rfl rfl
theorem kw_888 : Cond.code yX9_fix cX9_fix 2 (some .int) ∈ sv_w := sv_m5 217 rfl rfl
theorem kw_889 : Cond.methodLink RL 57 yX9_thrown ∈ sv_w := sv_m4 102 rfl rfl
theorem kw_890 : Cond.instanceMethod yX9_thrown ∈ sv_w := sv_m4 103 rfl rfl
theorem kw_891 : Cond.selects RX9 yX9_thrown yX9_thrown ∈ sv_w := sv_m4 104 rfl rfl
theorem kw_892 : Cond.code yX9_thrown cX9_thrown 1 (some .int) ∈ sv_w := sv_m4 105 rfl rfl
theorem kw_893 : Cond.methodLink RL 60 yX8_find ∈ sv_w := sv_m3 148 rfl rfl
theorem kw_894 : Cond.instanceMethod yX8_find ∈ sv_w := sv_m3 149 rfl rfl
theorem kw_895 : Cond.selects RX8 yX8_find yX8_find ∈ sv_w := sv_m3 150 rfl rfl
theorem kw_896 : Cond.code yX8_find cX8_find 2 (some .int) ∈ sv_w := sv_m3 151 rfl rfl
theorem kw_897 : Cond.methodLink RL 63 yX9_find ∈ sv_w := sv_m5 223 rfl rfl
theorem kw_898 : Cond.instanceMethod yX9_find ∈ sv_w := sv_m5 224 rfl rfl
theorem kw_899 : Cond.selects RX9 yX9_find yX9_find ∈ sv_w := sv_m5 225 rfl rfl
theorem kw_900 : Cond.code yX9_find cX9_find 2 (some .int) ∈ sv_w := sv_m5 226 rfl rfl
theorem kw_901 : Cond.methodLink RL 64 yL_vessel ∈ sv_w := sv_m4 27 rfl rfl
theorem kw_902 : Cond.static yL_vessel ∈ sv_w := sv_m4 28 rfl rfl
theorem kw_904 : Cond.methodLink RL 67 yX9_vessel ∈ sv_w := sv_m5 227 rfl rfl
theorem kw_905 : Cond.instanceMethod yX9_vessel ∈ sv_w := sv_m5 228 rfl rfl
theorem kw_906 : Cond.selects RX9 yX9_vessel yX9_vessel ∈ sv_w := sv_m5 229 rfl rfl
theorem kw_907 : Cond.code yX9_vessel cX9_vessel 3 (some .int) ∈ sv_w := sv_m5 230 rfl rfl
theorem kw_908 : Cond.methodLink RL 68 yX8_letter ∈ sv_w := sv_m3 153 rfl rfl
theorem kw_909 : Cond.instanceMethod yX8_letter ∈ sv_w := sv_m3 154 rfl rfl
theorem kw_910 : Cond.selects RX8 yX8_letter yX8_letter ∈ sv_w := sv_m3 155 rfl rfl
theorem kw_911 : Cond.code yX8_letter cX8_letter 5 (some .int) ∈ sv_w := sv_m3 156 rfl rfl
theorem kw_912 : Cond.methodLink RL 71 yX9_letter ∈ sv_w := sv_m5 233 rfl rfl
theorem kw_913 : Cond.instanceMethod yX9_letter ∈ sv_w := sv_m5 234 rfl rfl
theorem kw_914 : Cond.selects RX9 yX9_letter yX9_letter ∈ sv_w := sv_m5 235 rfl rfl
theorem kw_915 : Cond.code yX9_letter cX9_letter 4 (some .int) ∈ sv_w := sv_m5 236 rfl rfl
theorem kw_916 : Cond.methodLink RL 72 yL_bits ∈ sv_w := sv_m4 36 rfl rfl
theorem kw_917 : Cond.static yL_bits ∈ sv_w := sv_m4 37 rfl rfl
theorem kw_919 : Cond.methodLink RL 74 yX9_bits ∈ sv_w := sv_m5 238 rfl rfl
theorem kw_920 : Cond.instanceMethod yX9_bits ∈ sv_w := sv_m5 239 rfl rfl
theorem kw_921 : Cond.selects RX9 yX9_bits yX9_bits ∈ sv_w := sv_m6 0 rfl rfl
theorem kw_922 : Cond.code yX9_bits cX9_bits 3 (some .int) ∈ sv_w := sv_m6 1 rfl rfl
theorem kw_923 : Cond.methodLink RL 75 yL_send ∈ sv_w := sv_m4 44 rfl rfl
theorem kw_924 : Cond.static yL_send ∈ sv_w := sv_m4 45 rfl rfl
theorem kw_926 : Cond.methodLink RL 78 yX9_send ∈ sv_w := sv_m6 2 rfl rfl
theorem kw_927 : Cond.instanceMethod yX9_send ∈ sv_w := sv_m6 3 rfl rfl
theorem kw_928 : Cond.selects RX9 yX9_send yX9_send ∈ sv_w := sv_m6 4 rfl rfl
theorem kw_929 : Cond.code yX9_send cX9_send 4 (some .int) ∈ sv_w := sv_m6 5 rfl rfl
theorem kw_930 : Cond.methodLink RL 79 yX8_out ∈ sv_w := sv_m3 165 rfl rfl
theorem kw_931 : Cond.instanceMethod yX8_out ∈ sv_w := sv_m3 166 rfl rfl
theorem kw_932 : Cond.selects RX8 yX8_out yX8_out ∈ sv_w := sv_m3 167 rfl rfl
theorem kw_933 : Cond.code yX8_out cX8_out 2 (some .int) ∈ sv_w := sv_m3 168 rfl rfl
theorem kw_934 : Cond.methodLink RL 82 yX9_out ∈ sv_w := sv_m6 24 rfl rfl
theorem kw_935 : Cond.instanceMethod yX9_out ∈ sv_w := sv_m6 25 rfl rfl
theorem kw_936 : Cond.selects RX9 yX9_out yX9_out ∈ sv_w := sv_m6 26 rfl rfl
theorem kw_937 : Cond.code yX9_out cX9_out 2 (some .int) ∈ sv_w := sv_m6 27 rfl rfl
theorem kw_938 : Cond.methodLink RL 83 yX8_again ∈ sv_w := sv_m3 169 rfl rfl
theorem kw_939 : Cond.instanceMethod yX8_again ∈ sv_w := sv_m3 170 rfl rfl
theorem kw_940 : Cond.selects RX8 yX8_again yX8_again ∈ sv_w := sv_m3 171 rfl rfl
theorem kw_941 : Cond.code yX8_again cX8_again 2 (some .int) ∈ sv_w := sv_m3 172 rfl rfl
theorem kw_942 : Cond.methodLink RL 86 yX9_again ∈ sv_w := sv_m6 28 rfl rfl
theorem kw_943 : Cond.instanceMethod yX9_again ∈ sv_w := sv_m6 29 rfl rfl
theorem kw_944 : Cond.selects RX9 yX9_again yX9_again ∈ sv_w := sv_m6 30 rfl rfl
theorem kw_945 : Cond.code yX9_again cX9_again 2 (some .int) ∈ sv_w := sv_m6 31 rfl rfl
theorem kw_946 : Cond.methodLink RL 87 yX8_clear ∈ sv_w := sv_m3 174 rfl rfl
theorem kw_947 : Cond.instanceMethod yX8_clear ∈ sv_w := sv_m3 175 rfl rfl
theorem kw_948 : Cond.selects RX8 yX8_clear yX8_clear ∈ sv_w := sv_m3 176 rfl rfl
theorem kw_949 : Cond.code yX8_clear cX8_clear 1 none ∈ sv_w := sv_m3 177 rfl rfl
theorem kw_950 : Cond.methodLink RL 90 yX9_clear ∈ sv_w := sv_m6 32 rfl rfl
theorem kw_951 : Cond.instanceMethod yX9_clear ∈ sv_w := sv_m6 33 rfl rfl
theorem kw_952 : Cond.selects RX9 yX9_clear yX9_clear ∈ sv_w := sv_m6 34 rfl rfl
theorem kw_953 : Cond.code yX9_clear cX9_clear 1 none ∈ sv_w := sv_m6 35 rfl rfl
theorem kw_954 : Cond.code yJ9_max_7cf53 cJ9_max_7cf53 2 (some .int) ∈ sv_w := sv_m2 197 rfl rfl
theorem kw_955 : Cond.code yJ9_min_7cf53 cJ9_min_7cf53 2 (some .int) ∈ sv_w := sv_m2 200 rfl rfl
theorem sv_ins {C : String} {T : u_T} {N : Nat} (h : ((List.range N).map (u_lay C T)).all (fun w => decide (w ∈ tables_1) && goodWord w) = true) : ∀ w ∈ u_ws C T N, w ∈ sv_w := fun w hw => by
  have h1 := List.all_eq_true.mp h w hw
  simp only [Bool.and_eq_true, decide_eq_true_eq] at h1
  exact sv_t1 h1.1 h1.2
theorem sv_in0 : ∀ w ∈ wsX00, w ∈ sv_w := sv_ins (by decide +kernel)
theorem sv_in1 : ∀ w ∈ wsX10, w ∈ sv_w := sv_ins (by decide +kernel)
theorem sv_in2 : ∀ w ∈ wsX20, w ∈ sv_w := sv_ins (by decide +kernel)
theorem sv_in3 : ∀ w ∈ wsX30, w ∈ sv_w := sv_ins (by decide +kernel)
theorem sv_in4 : ∀ w ∈ wsX40, w ∈ sv_w := sv_ins (by decide +kernel)
theorem sv_in5 : ∀ w ∈ wsX50, w ∈ sv_w := sv_ins (by decide +kernel)
theorem sv_in6 : ∀ w ∈ wsX60, w ∈ sv_w := sv_ins (by decide +kernel)
theorem sv_in7 : ∀ w ∈ wsX70, w ∈ sv_w := sv_ins (by decide +kernel)
theorem sv_in8 : ∀ w ∈ wsX80, w ∈ sv_w := sv_ins (by decide +kernel)
theorem sv_in9 : ∀ w ∈ wsX90, w ∈ sv_w := sv_ins (by decide +kernel)
end
section
/-! ===== the judgement sv_J: W over any heap that holds a world; its rows ===== -/
/-- what is the same in the whole run: class numbers and slots, array classes, strings, static arrays -/
abbrev sv_E : Type := va_G × (Nat → ClassId) × (Nat → Nat) × (Nat → Nat) × (Nat → Nat)
/-- one method's run -/
abbrev sv_X : Type := Program × Launch × Env × Room × State × MethodId × Array Value × List Frame × Method × Code × (State → Prop) × (Nat → Prop) × Nat
def sv_tys (E : sv_E) : List (ClassId × FieldType) := [(E.2.1 0, .byte), (E.2.1 1, .int), (E.2.1 2, .boolean), (E.2.1 3, .long), (E.2.1 4, .object "SeaReceiver$BitRow"), (E.2.1 5, .object "SeaReceiver$Vessel")]
/-- the String constants: class, place, text, bytes -/
def sv_strs : List (String × Nat × String × List Int32) := [("SeaReceiver", 102, "no such value of the fix", [110, 111, 32, 115, 117, 99, 104, 32, 118, 97, 108, 117, 101, 32, 111, 102, 32, 116, 104, 101, 32, 102, 105, 120]), ("SeaReceiver", 116, "no such vessel", [110, 111, 32, 115, 117, 99, 104, 32, 118, 101, 115, 115, 101, 108]), ("SeaReceiver", 123, "no such value of a vessel", [110, 111, 32, 115, 117, 99, 104, 32, 118, 97, 108, 117, 101, 32, 111, 102, 32, 97, 32, 118, 101, 115, 115, 101, 108]), ("SeaReceiver", 135, "the latest message has no such bits", [116, 104, 101, 32, 108, 97, 116, 101, 115, 116, 32, 109, 101, 115, 115, 97, 103, 101, 32, 104, 97, 115, 32, 110, 111, 32, 115, 117, 99, 104, 32, 98, 105, 116, 115]), ("SeaReceiver", 142, "no report of this type is sent", [110, 111, 32, 114, 101, 112, 111, 114, 116, 32, 111, 102, 32, 116, 104, 105, 115, 32, 116, 121, 112, 101, 32, 105, 115, 32, 115, 101, 110, 116]), ("SeaReceiver", 145, "the id is not a digit", [116, 104, 101, 32, 105, 100, 32, 105, 115, 32, 110, 111, 116, 32, 97, 32, 100, 105, 103, 105, 116]), ("SeaReceiver", 151, "2,1,", [50, 44, 49, 44]), ("SeaReceiver", 157, "2,2,", [50, 44, 50, 44]), ("SeaReceiver", 159, "1,1,", [49, 44, 49, 44]), ("SeaReceiver", 218, "AB12", [65, 66, 49, 50]), ("SeaReceiver", 265, "!AIVDM,", [33, 65, 73, 86, 68, 77, 44]), ("SeaReceiver", 270, ",A,", [44, 65, 44]), ("SeaReceiver$Fields", 39, "VDM", [86, 68, 77]), ("SeaReceiver$Fields", 45, "VDO", [86, 68, 79]), ("SeaReceiver$Fields", 47, "GGA", [71, 71, 65]), ("SeaReceiver$Fields", 49, "RMC", [82, 77, 67]), ("SeaReceiver$Fields", 51, "VTG", [86, 84, 71]), ("SeaReceiver$Position", 73, "AV", [65, 86]), ("SeaReceiver$Position", 88, "ADEMNS", [65, 68, 69, 77, 78, 83]), ("SeaReceiverModel", 135, "VDM", [86, 68, 77]), ("SeaReceiverModel", 141, "VDO", [86, 68, 79]), ("SeaReceiverModel", 143, "GGA", [71, 71, 65]), ("SeaReceiverModel", 145, "RMC", [82, 77, 67]), ("SeaReceiverModel", 147, "VTG", [86, 84, 71]), ("SeaReceiverModel", 214, "NS", [78, 83]), ("SeaReceiverModel", 220, "EW", [69, 87]), ("SeaReceiverModel", 226, "M", [77]), ("SeaReceiverModel", 231, "AV", [65, 86]), ("SeaReceiverModel", 240, "ADEMNS", [65, 68, 69, 77, 78, 83]), ("SeaReceiverModel", 242, "T", [84]), ("SeaReceiverModel", 244, "N", [78]), ("SeaReceiverModel", 246, "K", [75]), ("SeaReceiverModel", 257, "AB12", [65, 66, 49, 50]), ("SeaReceiverModel", 361, "!AIVDM,", [33, 65, 73, 86, 68, 77, 44]), ("SeaReceiverModel", 367, ",A,", [44, 65, 44])]
/-- the static arrays: class, name, contents -/
def sv_sta : List (String × String × List Int32) := [("SeaReceiver$Position", "OF_GGA", [0, 1, 2, 3, 4, 5, 6, 7, 8, 9]), ("SeaReceiver$Position", "OF_RMC", [0, 1, 2, 10, 11, 12, 13, 14, 17]), ("SeaReceiver$Position", "OF_VTG", [11, 12, 15, 16, 17]), ("SeaReceiver$Vessel", "OF_4", [11, 14, 12, 4, 13, 5, 14, 5, 15, 6, 10, 6, 5, 1, 6, 28, 7, 27, -1, 4, -1, 30]), ("SeaReceiver$Vessel", "OF_5", [-1, 2, 16, 30, 30, 42, 31, 120, 17, 8, 18, 9, 19, 9, 20, 6, 21, 6, -1, 4, 12, 4, 13, 5, 14, 5, 15, 6, 22, 8, 32, 120, -1, 2]), ("SeaReceiver$Vessel", "OF_18", [-1, 8, 4, 10, 5, 1, 6, 28, 7, 27, 8, 12, 9, 9, 10, 6, -1, 29]), ("SeaReceiver$Vessel", "OF_1", [2, 4, 3, 8, 4, 10, 5, 1, 6, 28, 7, 27, 8, 12, 9, 9, 10, 6, -1, 25])]
/-- a String at k, its bytes at v -/
def sv_St (k v : Nat) (bs : List Int32) (A : Nat → Prop) (U : State) (H : Heap) : Prop := va_O "java/lang/String" k A U H ∧ va_OF "java/lang/String" "coder" "B" (.int 0) k A U H ∧ va_OF "java/lang/String" "value" "[B" (.ref v) k A U H ∧ va_T .byte v bs.length (fun j => .int (bs.getD j 0)) A U H
def sv_En (E : sv_E) (A : Nat → Prop) (U : State) (H : Heap) : Prop :=
  (∀ i q, sv_strs[i]? = some q → vk_R q.1 q.2.1 q.2.2.1 (E.2.2.1 i) U ∧ sv_St (E.2.2.1 i) (E.2.2.2.1 i) q.2.2.2 A U H) ∧
  (∀ i q, sv_sta[i]? = some q → va_Z q.1 q.2.1 "[I" (.ref (E.2.2.2.2 i)) A U H ∧ va_T .int (E.2.2.2.2 i) q.2.2.length (fun j => .int (q.2.2.getD j 0)) A U H) ∧
  va_Z "java/lang/String" "COMPACT_STRINGS" "Z" (.int 1) A U H
theorem sv_St.move {k v : Nat} {bs : List Int32} {A B : Nat → Prop} {s U : State} {H H1 : Heap} (h : sv_St k v bs A s H) (hvm : s.vm.Alike U.vm) (hq : ∀ a : Nat, a < H.size → ¬ A a → H1[a]? = H[a]?) (hAB : ∀ q, B q → A q) : sv_St k v bs B U H1 :=
  ⟨((h.1.moved hvm).kept hq).narrow hAB, ((h.2.1.moved hvm).kept hq).narrow hAB, ((h.2.2.1.moved hvm).kept hq).narrow hAB, ((h.2.2.2.moved hvm).kept hq).narrow hAB⟩
theorem sv_En.move {E : sv_E} {A B : Nat → Prop} {s U : State} {H H1 : Heap} (h : sv_En E A s H) (hR : ∀ o k t a, vk_R o k t a s → vk_R o k t a U) (hvm : s.vm.Alike U.vm) (hq : ∀ a : Nat, a < H.size → ¬ A a → H1[a]? = H[a]?) (hAB : ∀ q, B q → A q) : sv_En E B U H1 :=
  ⟨fun i q hi => ⟨hR _ _ _ _ (h.1 i q hi).1, (h.1 i q hi).2.move hvm hq hAB⟩, fun i q hi => ⟨(((h.2.1 i q hi).1.moved hvm).kept hq).narrow hAB, (((h.2.1 i q hi).2.moved hvm).kept hq).narrow hAB⟩, ((h.2.2.moved hvm).kept hq).narrow hAB⟩
def sv_J (E : sv_E) (X : sv_X) (wd : va_W) (sz ce sl pc : Nat) (lv : List (Nat × Value)) (st : List Value) : Prop := match X with
  | (p, l, e, R, s, m, args, below, meth, c, Q, A, nL) => ∀ (H : Heap) (locs : List Loc) (ls : Array Slot), H.size = sz → va_P E.1 vwCl wd H → va_D A wd → va_S A s.heap H locs → lv_has ls nL lv → W p l e R s m args below meth c H locs ce sl Q (F0 m pc ls st)
/-- what holds of a method's run: its code, its class, its words, its strings sx -/
def sv_C (E : sv_E) (X : sv_X) (cc : ByteArray) (own : String) (sx : List (Nat × Nat × List Int32)) : Prop := match X with
  | (p, _, _, _, s, m, args, _, meth, c, _, A, nL) => CallFix p m c cc nL s args sv_w own ∧ va_K E.1 vwCl (sv_tys E) s ∧ meth.locks = false ∧ (∀ q, s.heap.size ≤ q → A q) ∧ sv_En E A s s.heap ∧ ∀ x ∈ sx, sv_St x.1 x.2.1 x.2.2 A s s.heap
/-- a method's start -/
def sv_Pre (E : sv_E) (sx : List (Nat × Nat × List Int32)) (vs : List Value) (wd : va_W) (sz : Nat) : Array Value → State → Prop := va_Pc vs (fun U => U.heap.size = sz ∧ va_P E.1 vwCl wd U.heap ∧ va_K E.1 vwCl (sv_tys E) U ∧ va_D (fun _ => True) wd ∧ sv_En E (va_A wd sz) U U.heap ∧ ∀ x ∈ sx, sv_St x.1 x.2.1 x.2.2 (va_A wd sz) U U.heap)
/-- a method's end: the answer, the world and the heap's size behind it -/
def sv_Q (E : sv_E) (wd : va_W) (sz : Nat) (res : Option Value) (wd' : va_W) (sz' : Nat) : Array Value → State → Outcome → State → Prop := fun _ st oc t => (oc = .returned res ∧ t.heap.size = sz' ∧ va_P E.1 vwCl wd' t.heap ∧ va_D (va_A wd sz) wd') ∧ va_F (va_A wd sz) st t
/-- a method's contract -/
def sv_Met (l : Launch) (E : sv_E) (y : MethodName) (cc : ByteArray) (mL : Nat) (rt : Option FieldType) (fr lo : Nat) (sx : List (Nat × Nat × List Int32)) (vs : List Value) (wd : va_W) (sz : Nat) (res : Option Value) (wd' : va_W) (sz' mc ms : Nat) : Prop :=
  Met l y (Cond.code y cc mL rt :: sv_w) { frames := fr, cells := mc, slots := ms, locals := lo } (sv_Pre E sx vs wd sz) (sv_Q E wd sz res wd' sz') mc ms (va_A wd sz)
/-- the end of a run that is to give the contract -/
def sv_Z (E : sv_E) (X : sv_X) (rt : Option FieldType) (res : Option Value) (wd' : va_W) (sz' mc ms : Nat) : Prop := match X with
  | (_, _, _, R, s, _, args, below, meth, _, Q, A, _) => meth.sig.returnType = rt ∧ (∃ wd sz, A = va_A wd sz ∧ Q = MQ below (sv_Q E wd sz res wd' sz') args s mc ms A)
def sv_R (X : sv_X) : Room := match X with
  | (_, _, _, R, _, _, _, _, _, _, _, _, _) => R
def sv_l (X : sv_X) : Launch := match X with
  | (_, l, _, _, _, _, _, _, _, _, _, _, _) => l
def sv_nm (X : sv_X) : String := match X with
  | (_, _, _, _, _, _, _, _, meth, _, _, _, _) => meth.name
def sv_nL (X : sv_X) : Nat := match X with
  | (_, _, _, _, _, _, _, _, _, _, _, _, nL) => nL
section SVA
variable {E : sv_E} {X : sv_X} {cc : ByteArray} {own : String} {sx : List (Nat × Nat × List Int32)} {wd : va_W} {sz ce sl pc : Nat} {lv lv' : List (Nat × Value)} {st : List Value}
/-- the contract out of the walk from its entry -/
theorem sv_ofJ {l : Launch} {y : MethodName} {mL : Nat} {rt : Option FieldType} {fr lo : Nat} {vs : List Value} {res : Option Value} {wd' : va_W} {sz' mc ms : Nat} (hy : plainName y.cls = true) (hvs : (lg_sl vs).length ≤ mL)
    (h : ∀ X : sv_X, sv_l X = l → sv_nL X = mL → sv_nm X = y.name → sv_R X = { frames := fr, cells := mc, slots := ms, locals := lo } → sv_C E X cc y.cls sx → sv_Z E X rt res wd' sz' mc ms → sv_J E X wd sz 0 0 0 (lv_args 0 vs) []) : sv_Met l E y cc mL rt fr lo sx vs wd sz res wd' sz' mc ms := by
  refine Met.ofW (cc := cc) (maxL := mL) (ret := rt) hy rfl ?_
  intro p e s m args below meth c s₁ B hml hv
  obtain ⟨rfl, hsz, hP, hK, hD0, hE, hX⟩ := hv
  have hts := atoms_spec (ws := Cond.code y cc mL rt :: sv_w) B.pre
  have hown : s.vm.findClass y.cls = some m.cls := findClass_of_methodNamed B.named
  subst hsz
  have hD := hD0.self (sz := s.heap.size)
  have hA : ∀ q : Nat, s.heap.size ≤ q → va_A wd s.heap.size q := fun q h => Or.inr h
  have hl := lv_entry vs (n := mL) hvs
  have hk := h (p, l, e, { frames := fr, cells := mc, slots := ms, locals := lo }, s, m, vs.toArray, below, meth, c, MQ below (sv_Q E wd s.heap.size res wd' sz') vs.toArray s mc ms (va_A wd s.heap.size), va_A wd s.heap.size, mL) rfl rfl (name_of_methodNamed B.named B.method).1 rfl
    ⟨⟨B.exec, B.bytes, hml, hown, fun w hw => hts w (List.mem_cons_of_mem _ hw)⟩, hK, B.notSynchronized, hA, hE, hX⟩ ⟨B.returns, wd, s.heap.size, rfl, rfl⟩
  rw [lg_entry_eq]
  exact hk s.heap [] _ rfl hP hD va_S.rf hl
theorem sv_iconst {n : Int} {v : Int32} (C : sv_C E X cc own sx) (hd : decode cc pc = .ok (.iconst n, 1)) (hv : Int32.ofInt n = v) (k : sv_J E X wd sz ce sl (pc + 1) lv (.int v :: st)) : sv_J E X wd sz ce sl pc lv st := by
  obtain ⟨p, l, e, R, s, m, args, below, meth, c, Q, A, nL⟩ := X
  exact fun H locs ls h1 h2 h3 h4 h5 => lv_iconst C.1.1 C.1.2.1 hd hv (k H locs ls h1 h2 h3 h4 h5)
theorem sv_bipush {n : Int} {v : Int32} (C : sv_C E X cc own sx) (hd : decode cc pc = .ok (.bipush n, 2)) (hv : (Int8.ofInt n).toInt32 = v) (k : sv_J E X wd sz ce sl (pc + 2) lv (.int v :: st)) : sv_J E X wd sz ce sl pc lv st := by
  obtain ⟨p, l, e, R, s, m, args, below, meth, c, Q, A, nL⟩ := X
  exact fun H locs ls h1 h2 h3 h4 h5 => lv_bipush C.1.1 C.1.2.1 hd hv (k H locs ls h1 h2 h3 h4 h5)
theorem sv_sipush {n : Int} {v : Int32} (C : sv_C E X cc own sx) (hd : decode cc pc = .ok (.sipush n, 3)) (hv : (Int16.ofInt n).toInt32 = v) (k : sv_J E X wd sz ce sl (pc + 3) lv (.int v :: st)) : sv_J E X wd sz ce sl pc lv st := by
  obtain ⟨p, l, e, R, s, m, args, below, meth, c, Q, A, nL⟩ := X
  exact fun H locs ls h1 h2 h3 h4 h5 => lv_sipush C.1.1 C.1.2.1 hd hv (k H locs ls h1 h2 h3 h4 h5)
theorem sv_lconst {n : Fin 2} {v : Int64} (C : sv_C E X cc own sx) (hd : decode cc pc = .ok (.lconst n, 1)) (hv : Int64.ofNat (n : Nat) = v) (k : sv_J E X wd sz ce sl (pc + 1) lv (.long v :: st)) : sv_J E X wd sz ce sl pc lv st := by
  obtain ⟨p, l, e, R, s, m, args, below, meth, c, Q, A, nL⟩ := X
  exact fun H locs ls h1 h2 h3 h4 h5 => lv_lconst C.1.1 C.1.2.1 hd hv (k H locs ls h1 h2 h3 h4 h5)
theorem sv_ldc {index : Nat} {v : Int32} (C : sv_C E X cc own sx) (hw : Cond.constant own index v ∈ sv_w) (hd : decode cc pc = .ok (.ldc index, 2)) (k : sv_J E X wd sz ce sl (pc + 2) lv (.int v :: st)) : sv_J E X wd sz ce sl pc lv st := by
  obtain ⟨p, l, e, R, s, m, args, below, meth, c, Q, A, nL⟩ := X
  exact fun H locs ls h1 h2 h3 h4 h5 => lv_ldc C.1.1 C.1.2.1 C.1.2.2.2.1 (C.1.2.2.2.2 _ hw) hd (k H locs ls h1 h2 h3 h4 h5)
theorem sv_ldcw {index : Nat} {v : Int32} (C : sv_C E X cc own sx) (hw : Cond.constant own index v ∈ sv_w) (hd : decode cc pc = .ok (.ldc_w index, 3)) (k : sv_J E X wd sz ce sl (pc + 3) lv (.int v :: st)) : sv_J E X wd sz ce sl pc lv st := by
  obtain ⟨p, l, e, R, s, m, args, below, meth, c, Q, A, nL⟩ := X
  exact fun H locs ls h1 h2 h3 h4 h5 => lv_ldcw C.1.1 C.1.2.1 C.1.2.2.2.1 (C.1.2.2.2.2 _ hw) hd (k H locs ls h1 h2 h3 h4 h5)
theorem sv_ldc2 {index : Nat} {v : Int64} (C : sv_C E X cc own sx) (hw : Cond.constantLong own index v ∈ sv_w) (hd : decode cc pc = .ok (.ldc2_w index, 3)) (k : sv_J E X wd sz ce sl (pc + 3) lv (.long v :: st)) : sv_J E X wd sz ce sl pc lv st := by
  obtain ⟨p, l, e, R, s, m, args, below, meth, c, Q, A, nL⟩ := X
  exact fun H locs ls h1 h2 h3 h4 h5 => lv_ldc2 C.1.1 C.1.2.1 C.1.2.2.2.1 (C.1.2.2.2.2 _ hw) hd (k H locs ls h1 h2 h3 h4 h5)
/-- a String constant -/
theorem sv_ldcS {index i : Nat} {tx : String} {bs : List Int32} (C : sv_C E X cc own sx) (hi : sv_strs[i]? = some (own, index, tx, bs)) (hd : decode cc pc = .ok (.ldc index, 2)) (k : sv_J E X wd sz ce sl (pc + 2) lv (.ref (E.2.2.1 i) :: st)) : sv_J E X wd sz ce sl pc lv st := by
  obtain ⟨p, l, e, R, s, m, args, below, meth, c, Q, A, nL⟩ := X
  exact fun H locs ls h1 h2 h3 h4 h5 => va_ldcS C.1.1 C.1.2.1 C.1.2.2.2.1 (C.2.2.2.2.1.1 i _ hi).1 hd (k H locs ls h1 h2 h3 h4 h5)
theorem sv_iload_n {j : Fin 4} {i : Nat} {x : Int32} (q : Nat) (C : sv_C E X cc own sx) (hd : decode cc pc = .ok (.iload_n j, 1)) (hi : (j : Nat) = i) (hl : lv[q]? = some (i, .int x)) (k : sv_J E X wd sz ce sl (pc + 1) lv (.int x :: st)) : sv_J E X wd sz ce sl pc lv st := by
  obtain ⟨p, l, e, R, s, m, args, below, meth, c, Q, A, nL⟩ := X
  exact fun H locs ls h1 h2 h3 h4 h5 => lv_iload_n C.1.1 C.1.2.1 hd hi (lv_at h5 q hl) (k H locs ls h1 h2 h3 h4 h5)
theorem sv_iload {i : Nat} {x : Int32} (q : Nat) (C : sv_C E X cc own sx) (hd : decode cc pc = .ok (.iload i, 2)) (hl : lv[q]? = some (i, .int x)) (k : sv_J E X wd sz ce sl (pc + 2) lv (.int x :: st)) : sv_J E X wd sz ce sl pc lv st := by
  obtain ⟨p, l, e, R, s, m, args, below, meth, c, Q, A, nL⟩ := X
  exact fun H locs ls h1 h2 h3 h4 h5 => lv_iload C.1.1 C.1.2.1 hd (lv_at h5 q hl) (k H locs ls h1 h2 h3 h4 h5)
theorem sv_lload_n {j : Fin 4} {i : Nat} {x : Int64} (q : Nat) (C : sv_C E X cc own sx) (hd : decode cc pc = .ok (.lload_n j, 1)) (hi : (j : Nat) = i) (hl : lv[q]? = some (i, .long x)) (k : sv_J E X wd sz ce sl (pc + 1) lv (.long x :: st)) : sv_J E X wd sz ce sl pc lv st := by
  obtain ⟨p, l, e, R, s, m, args, below, meth, c, Q, A, nL⟩ := X
  exact fun H locs ls h1 h2 h3 h4 h5 => lv_lload_n C.1.1 C.1.2.1 hd hi (lv_at h5 q hl) (k H locs ls h1 h2 h3 h4 h5)
theorem sv_lload {i : Nat} {x : Int64} (q : Nat) (C : sv_C E X cc own sx) (hd : decode cc pc = .ok (.lload i, 2)) (hl : lv[q]? = some (i, .long x)) (k : sv_J E X wd sz ce sl (pc + 2) lv (.long x :: st)) : sv_J E X wd sz ce sl pc lv st := by
  obtain ⟨p, l, e, R, s, m, args, below, meth, c, Q, A, nL⟩ := X
  exact fun H locs ls h1 h2 h3 h4 h5 => lv_lload C.1.1 C.1.2.1 hd (lv_at h5 q hl) (k H locs ls h1 h2 h3 h4 h5)
theorem sv_aload_n {j : Fin 4} {i : Nat} {x : Nat} (q : Nat) (C : sv_C E X cc own sx) (hd : decode cc pc = .ok (.aload_n j, 1)) (hi : (j : Nat) = i) (hl : lv[q]? = some (i, .ref x)) (k : sv_J E X wd sz ce sl (pc + 1) lv (.ref x :: st)) : sv_J E X wd sz ce sl pc lv st := by
  obtain ⟨p, l, e, R, s, m, args, below, meth, c, Q, A, nL⟩ := X
  exact fun H locs ls h1 h2 h3 h4 h5 => lv_aload_n C.1.1 C.1.2.1 hd hi (lv_at h5 q hl) (k H locs ls h1 h2 h3 h4 h5)
theorem sv_aload {i : Nat} {x : Nat} (q : Nat) (C : sv_C E X cc own sx) (hd : decode cc pc = .ok (.aload i, 2)) (hl : lv[q]? = some (i, .ref x)) (k : sv_J E X wd sz ce sl (pc + 2) lv (.ref x :: st)) : sv_J E X wd sz ce sl pc lv st := by
  obtain ⟨p, l, e, R, s, m, args, below, meth, c, Q, A, nL⟩ := X
  exact fun H locs ls h1 h2 h3 h4 h5 => lv_aload C.1.1 C.1.2.1 hd (lv_at h5 q hl) (k H locs ls h1 h2 h3 h4 h5)
theorem sv_istore_n {j : Fin 4} {i : Nat} {x : Int32} (C : sv_C E X cc own sx) (hd : decode cc pc = .ok (.istore_n j, 1)) (hi : (j : Nat) = i) (hn : i < sv_nL X) (hl : (i, Value.int x) :: lv.filter (fun q => !(q.1 == i) && !(q.1 + 1 == i && q.2.category == 2)) = lv') (k : sv_J E X wd sz ce sl (pc + 1) lv' st) : sv_J E X wd sz ce sl pc lv (.int x :: st) := by
  obtain ⟨p, l, e, R, s, m, args, below, meth, c, Q, A, nL⟩ := X
  exact fun H locs ls h1 h2 h3 h4 h5 => lv_istore_n C.1.1 C.1.2.1 hd hi h5 hn hl (fun ls' h5 => k H locs ls' h1 h2 h3 h4 h5)
theorem sv_istore {i : Nat} {x : Int32} (C : sv_C E X cc own sx) (hd : decode cc pc = .ok (.istore i, 2)) (hn : i < sv_nL X) (hl : (i, Value.int x) :: lv.filter (fun q => !(q.1 == i) && !(q.1 + 1 == i && q.2.category == 2)) = lv') (k : sv_J E X wd sz ce sl (pc + 2) lv' st) : sv_J E X wd sz ce sl pc lv (.int x :: st) := by
  obtain ⟨p, l, e, R, s, m, args, below, meth, c, Q, A, nL⟩ := X
  exact fun H locs ls h1 h2 h3 h4 h5 => lv_istore C.1.1 C.1.2.1 hd h5 hn hl (fun ls' h5 => k H locs ls' h1 h2 h3 h4 h5)
theorem sv_lstore_n {j : Fin 4} {i : Nat} {x : Int64} (C : sv_C E X cc own sx) (hd : decode cc pc = .ok (.lstore_n j, 1)) (hi : (j : Nat) = i) (hn : i + 1 < sv_nL X) (hl : (i, Value.long x) :: lv.filter (fun q => !(q.1 == i) && (!(q.1 == i + 1) && !(q.1 + 1 == i && q.2.category == 2))) = lv') (k : sv_J E X wd sz ce sl (pc + 1) lv' st) : sv_J E X wd sz ce sl pc lv (.long x :: st) := by
  obtain ⟨p, l, e, R, s, m, args, below, meth, c, Q, A, nL⟩ := X
  exact fun H locs ls h1 h2 h3 h4 h5 => lv_lstore_n C.1.1 C.1.2.1 hd hi h5 hn hl (fun ls' h5 => k H locs ls' h1 h2 h3 h4 h5)
theorem sv_lstore {i : Nat} {x : Int64} (C : sv_C E X cc own sx) (hd : decode cc pc = .ok (.lstore i, 2)) (hn : i + 1 < sv_nL X) (hl : (i, Value.long x) :: lv.filter (fun q => !(q.1 == i) && (!(q.1 == i + 1) && !(q.1 + 1 == i && q.2.category == 2))) = lv') (k : sv_J E X wd sz ce sl (pc + 2) lv' st) : sv_J E X wd sz ce sl pc lv (.long x :: st) := by
  obtain ⟨p, l, e, R, s, m, args, below, meth, c, Q, A, nL⟩ := X
  exact fun H locs ls h1 h2 h3 h4 h5 => lv_lstore C.1.1 C.1.2.1 hd h5 hn hl (fun ls' h5 => k H locs ls' h1 h2 h3 h4 h5)
theorem sv_astore_n {j : Fin 4} {i : Nat} {x : Nat} (C : sv_C E X cc own sx) (hd : decode cc pc = .ok (.astore_n j, 1)) (hi : (j : Nat) = i) (hn : i < sv_nL X) (hl : (i, Value.ref x) :: lv.filter (fun q => !(q.1 == i) && !(q.1 + 1 == i && q.2.category == 2)) = lv') (k : sv_J E X wd sz ce sl (pc + 1) lv' st) : sv_J E X wd sz ce sl pc lv (.ref x :: st) := by
  obtain ⟨p, l, e, R, s, m, args, below, meth, c, Q, A, nL⟩ := X
  exact fun H locs ls h1 h2 h3 h4 h5 => lv_astore_n C.1.1 C.1.2.1 hd hi h5 hn hl (fun ls' h5 => k H locs ls' h1 h2 h3 h4 h5)
theorem sv_astore {i : Nat} {x : Nat} (C : sv_C E X cc own sx) (hd : decode cc pc = .ok (.astore i, 2)) (hn : i < sv_nL X) (hl : (i, Value.ref x) :: lv.filter (fun q => !(q.1 == i) && !(q.1 + 1 == i && q.2.category == 2)) = lv') (k : sv_J E X wd sz ce sl (pc + 2) lv' st) : sv_J E X wd sz ce sl pc lv (.ref x :: st) := by
  obtain ⟨p, l, e, R, s, m, args, below, meth, c, Q, A, nL⟩ := X
  exact fun H locs ls h1 h2 h3 h4 h5 => lv_astore C.1.1 C.1.2.1 hd h5 hn hl (fun ls' h5 => k H locs ls' h1 h2 h3 h4 h5)
theorem sv_iinc {i : Nat} {n : Int} {x v : Int32} (q : Nat) (C : sv_C E X cc own sx) (hd : decode cc pc = .ok (.iinc i n, 3)) (hk : lv[q]? = some (i, .int x)) (hv : x + Int32.ofInt n = v) (hn : i < sv_nL X) (hl : (i, Value.int v) :: lv.filter (fun q => !(q.1 == i) && !(q.1 + 1 == i && q.2.category == 2)) = lv') (k : sv_J E X wd sz ce sl (pc + 3) lv' st) : sv_J E X wd sz ce sl pc lv st := by
  obtain ⟨p, l, e, R, s, m, args, below, meth, c, Q, A, nL⟩ := X
  exact fun H locs ls h1 h2 h3 h4 h5 => lv_iinc C.1.1 C.1.2.1 hd h5 hk hv hn hl (fun ls' h5 => k H locs ls' h1 h2 h3 h4 h5)
theorem sv_iadd {x y : Int32} (C : sv_C E X cc own sx) (hd : decode cc pc = .ok (.iadd, 1)) (k : sv_J E X wd sz ce sl (pc + 1) lv (.int (x + y) :: st)) : sv_J E X wd sz ce sl pc lv (.int y :: .int x :: st) := by
  obtain ⟨p, l, e, R, s, m, args, below, meth, c, Q, A, nL⟩ := X
  exact fun H locs ls h1 h2 h3 h4 h5 => lv_iadd C.1.1 C.1.2.1 hd (k H locs ls h1 h2 h3 h4 h5)
theorem sv_isub {x y : Int32} (C : sv_C E X cc own sx) (hd : decode cc pc = .ok (.isub, 1)) (k : sv_J E X wd sz ce sl (pc + 1) lv (.int (x - y) :: st)) : sv_J E X wd sz ce sl pc lv (.int y :: .int x :: st) := by
  obtain ⟨p, l, e, R, s, m, args, below, meth, c, Q, A, nL⟩ := X
  exact fun H locs ls h1 h2 h3 h4 h5 => lv_isub C.1.1 C.1.2.1 hd (k H locs ls h1 h2 h3 h4 h5)
theorem sv_imul {x y : Int32} (C : sv_C E X cc own sx) (hd : decode cc pc = .ok (.imul, 1)) (k : sv_J E X wd sz ce sl (pc + 1) lv (.int (x * y) :: st)) : sv_J E X wd sz ce sl pc lv (.int y :: .int x :: st) := by
  obtain ⟨p, l, e, R, s, m, args, below, meth, c, Q, A, nL⟩ := X
  exact fun H locs ls h1 h2 h3 h4 h5 => lv_imul C.1.1 C.1.2.1 hd (k H locs ls h1 h2 h3 h4 h5)
theorem sv_iand {x y : Int32} (C : sv_C E X cc own sx) (hd : decode cc pc = .ok (.iand, 1)) (k : sv_J E X wd sz ce sl (pc + 1) lv (.int (x &&& y) :: st)) : sv_J E X wd sz ce sl pc lv (.int y :: .int x :: st) := by
  obtain ⟨p, l, e, R, s, m, args, below, meth, c, Q, A, nL⟩ := X
  exact fun H locs ls h1 h2 h3 h4 h5 => lv_iand C.1.1 C.1.2.1 hd (k H locs ls h1 h2 h3 h4 h5)
theorem sv_ior {x y : Int32} (C : sv_C E X cc own sx) (hd : decode cc pc = .ok (.ior, 1)) (k : sv_J E X wd sz ce sl (pc + 1) lv (.int (x ||| y) :: st)) : sv_J E X wd sz ce sl pc lv (.int y :: .int x :: st) := by
  obtain ⟨p, l, e, R, s, m, args, below, meth, c, Q, A, nL⟩ := X
  exact fun H locs ls h1 h2 h3 h4 h5 => lv_ior C.1.1 C.1.2.1 hd (k H locs ls h1 h2 h3 h4 h5)
theorem sv_ixor {x y : Int32} (C : sv_C E X cc own sx) (hd : decode cc pc = .ok (.ixor, 1)) (k : sv_J E X wd sz ce sl (pc + 1) lv (.int (x ^^^ y) :: st)) : sv_J E X wd sz ce sl pc lv (.int y :: .int x :: st) := by
  obtain ⟨p, l, e, R, s, m, args, below, meth, c, Q, A, nL⟩ := X
  exact fun H locs ls h1 h2 h3 h4 h5 => lv_ixor C.1.1 C.1.2.1 hd (k H locs ls h1 h2 h3 h4 h5)
theorem sv_ishl {x y : Int32} (C : sv_C E X cc own sx) (hd : decode cc pc = .ok (.ishl, 1)) (k : sv_J E X wd sz ce sl (pc + 1) lv (.int (x <<< (y &&& 31)) :: st)) : sv_J E X wd sz ce sl pc lv (.int y :: .int x :: st) := by
  obtain ⟨p, l, e, R, s, m, args, below, meth, c, Q, A, nL⟩ := X
  exact fun H locs ls h1 h2 h3 h4 h5 => lv_ishl C.1.1 C.1.2.1 hd (k H locs ls h1 h2 h3 h4 h5)
theorem sv_ishr {x y : Int32} (C : sv_C E X cc own sx) (hd : decode cc pc = .ok (.ishr, 1)) (k : sv_J E X wd sz ce sl (pc + 1) lv (.int (x >>> (y &&& 31)) :: st)) : sv_J E X wd sz ce sl pc lv (.int y :: .int x :: st) := by
  obtain ⟨p, l, e, R, s, m, args, below, meth, c, Q, A, nL⟩ := X
  exact fun H locs ls h1 h2 h3 h4 h5 => lv_ishr C.1.1 C.1.2.1 hd (k H locs ls h1 h2 h3 h4 h5)
theorem sv_idiv {x y : Int32} (C : sv_C E X cc own sx) (hd : decode cc pc = .ok (.idiv, 1)) (hne : ¬ y = 0) (k : sv_J E X wd sz ce sl (pc + 1) lv (.int (x / y) :: st)) : sv_J E X wd sz ce sl pc lv (.int y :: .int x :: st) := by
  obtain ⟨p, l, e, R, s, m, args, below, meth, c, Q, A, nL⟩ := X
  exact fun H locs ls h1 h2 h3 h4 h5 => lv_idiv C.1.1 C.1.2.1 hd hne (k H locs ls h1 h2 h3 h4 h5)
theorem sv_irem {x y : Int32} (C : sv_C E X cc own sx) (hd : decode cc pc = .ok (.irem, 1)) (hne : ¬ y = 0) (k : sv_J E X wd sz ce sl (pc + 1) lv (.int (x - x / y * y) :: st)) : sv_J E X wd sz ce sl pc lv (.int y :: .int x :: st) := by
  obtain ⟨p, l, e, R, s, m, args, below, meth, c, Q, A, nL⟩ := X
  exact fun H locs ls h1 h2 h3 h4 h5 => lv_irem C.1.1 C.1.2.1 hd hne (k H locs ls h1 h2 h3 h4 h5)
theorem sv_ineg {x : Int32} (C : sv_C E X cc own sx) (hd : decode cc pc = .ok (.ineg, 1)) (k : sv_J E X wd sz ce sl (pc + 1) lv (.int (-x) :: st)) : sv_J E X wd sz ce sl pc lv (.int x :: st) := by
  obtain ⟨p, l, e, R, s, m, args, below, meth, c, Q, A, nL⟩ := X
  exact fun H locs ls h1 h2 h3 h4 h5 => lv_ineg C.1.1 C.1.2.1 hd (k H locs ls h1 h2 h3 h4 h5)
theorem sv_iushr {x y : Int32} (C : sv_C E X cc own sx) (hd : decode cc pc = .ok (.iushr, 1)) (k : sv_J E X wd sz ce sl (pc + 1) lv (.int (x.toUInt32 >>> (y.toUInt32 &&& Int32.toUInt32 31)).toInt32 :: st)) : sv_J E X wd sz ce sl pc lv (.int y :: .int x :: st) := by
  obtain ⟨p, l, e, R, s, m, args, below, meth, c, Q, A, nL⟩ := X
  exact fun H locs ls h1 h2 h3 h4 h5 => lv_iushr C.1.1 C.1.2.1 hd rfl (k H locs ls h1 h2 h3 h4 h5)
theorem sv_i2l {x : Int32} (C : sv_C E X cc own sx) (hd : decode cc pc = .ok (.i2l, 1)) (k : sv_J E X wd sz ce sl (pc + 1) lv (.long x.toInt64 :: st)) : sv_J E X wd sz ce sl pc lv (.int x :: st) := by
  obtain ⟨p, l, e, R, s, m, args, below, meth, c, Q, A, nL⟩ := X
  exact fun H locs ls h1 h2 h3 h4 h5 => lv_i2l C.1.1 C.1.2.1 hd rfl (k H locs ls h1 h2 h3 h4 h5)
theorem sv_l2i {x : Int64} (C : sv_C E X cc own sx) (hd : decode cc pc = .ok (.l2i, 1)) (k : sv_J E X wd sz ce sl (pc + 1) lv (.int x.toInt32 :: st)) : sv_J E X wd sz ce sl pc lv (.long x :: st) := by
  obtain ⟨p, l, e, R, s, m, args, below, meth, c, Q, A, nL⟩ := X
  exact fun H locs ls h1 h2 h3 h4 h5 => lv_l2i C.1.1 C.1.2.1 hd rfl (k H locs ls h1 h2 h3 h4 h5)
theorem sv_i2b {x : Int32} (C : sv_C E X cc own sx) (hd : decode cc pc = .ok (.i2b, 1)) (k : sv_J E X wd sz ce sl (pc + 1) lv (.int x.toInt8.toInt32 :: st)) : sv_J E X wd sz ce sl pc lv (.int x :: st) := by
  obtain ⟨p, l, e, R, s, m, args, below, meth, c, Q, A, nL⟩ := X
  exact fun H locs ls h1 h2 h3 h4 h5 => lv_i2b C.1.1 C.1.2.1 hd rfl (k H locs ls h1 h2 h3 h4 h5)
theorem sv_i2c {x : Int32} (C : sv_C E X cc own sx) (hd : decode cc pc = .ok (.i2c, 1)) (k : sv_J E X wd sz ce sl (pc + 1) lv (.int (x.toUInt32 % 65536).toInt32 :: st)) : sv_J E X wd sz ce sl pc lv (.int x :: st) := by
  obtain ⟨p, l, e, R, s, m, args, below, meth, c, Q, A, nL⟩ := X
  exact fun H locs ls h1 h2 h3 h4 h5 => lv_i2c C.1.1 C.1.2.1 hd rfl (k H locs ls h1 h2 h3 h4 h5)
theorem sv_ladd {x y : Int64} (C : sv_C E X cc own sx) (hd : decode cc pc = .ok (.ladd, 1)) (k : sv_J E X wd sz ce sl (pc + 1) lv (.long (x + y) :: st)) : sv_J E X wd sz ce sl pc lv (.long y :: .long x :: st) := by
  obtain ⟨p, l, e, R, s, m, args, below, meth, c, Q, A, nL⟩ := X
  exact fun H locs ls h1 h2 h3 h4 h5 => lv_ladd C.1.1 C.1.2.1 hd (k H locs ls h1 h2 h3 h4 h5)
theorem sv_lsub {x y : Int64} (C : sv_C E X cc own sx) (hd : decode cc pc = .ok (.lsub, 1)) (k : sv_J E X wd sz ce sl (pc + 1) lv (.long (x - y) :: st)) : sv_J E X wd sz ce sl pc lv (.long y :: .long x :: st) := by
  obtain ⟨p, l, e, R, s, m, args, below, meth, c, Q, A, nL⟩ := X
  exact fun H locs ls h1 h2 h3 h4 h5 => lv_lsub C.1.1 C.1.2.1 hd (k H locs ls h1 h2 h3 h4 h5)
theorem sv_land {x y : Int64} (C : sv_C E X cc own sx) (hd : decode cc pc = .ok (.land, 1)) (k : sv_J E X wd sz ce sl (pc + 1) lv (.long (x &&& y) :: st)) : sv_J E X wd sz ce sl pc lv (.long y :: .long x :: st) := by
  obtain ⟨p, l, e, R, s, m, args, below, meth, c, Q, A, nL⟩ := X
  exact fun H locs ls h1 h2 h3 h4 h5 => lv_land C.1.1 C.1.2.1 hd (k H locs ls h1 h2 h3 h4 h5)
theorem sv_lor {x y : Int64} (C : sv_C E X cc own sx) (hd : decode cc pc = .ok (.lor, 1)) (k : sv_J E X wd sz ce sl (pc + 1) lv (.long (x ||| y) :: st)) : sv_J E X wd sz ce sl pc lv (.long y :: .long x :: st) := by
  obtain ⟨p, l, e, R, s, m, args, below, meth, c, Q, A, nL⟩ := X
  exact fun H locs ls h1 h2 h3 h4 h5 => lv_lor C.1.1 C.1.2.1 hd (k H locs ls h1 h2 h3 h4 h5)
theorem sv_lushr {x : Int64} {y : Int32} (C : sv_C E X cc own sx) (hd : decode cc pc = .ok (.lushr, 1)) (k : sv_J E X wd sz ce sl (pc + 1) lv (.long (x.toUInt64 >>> (y.toInt64.toUInt64 &&& Int64.toUInt64 63)).toInt64 :: st)) : sv_J E X wd sz ce sl pc lv (.int y :: .long x :: st) := by
  obtain ⟨p, l, e, R, s, m, args, below, meth, c, Q, A, nL⟩ := X
  exact fun H locs ls h1 h2 h3 h4 h5 => lv_lushr C.1.1 C.1.2.1 hd rfl (k H locs ls h1 h2 h3 h4 h5)
theorem sv_lshl {x : Int64} {y : Int32} (C : sv_C E X cc own sx) (hd : decode cc pc = .ok (.lshl, 1)) (k : sv_J E X wd sz ce sl (pc + 1) lv (.long (x <<< (y.toInt64 &&& 63)) :: st)) : sv_J E X wd sz ce sl pc lv (.int y :: .long x :: st) := by
  obtain ⟨p, l, e, R, s, m, args, below, meth, c, Q, A, nL⟩ := X
  exact fun H locs ls h1 h2 h3 h4 h5 => lv_lshl C.1.1 C.1.2.1 hd rfl (k H locs ls h1 h2 h3 h4 h5)
theorem sv_if_eq {x : Int32} {off : Int} {tgt : Nat} (C : sv_C E X cc own sx) (hd : decode cc pc = .ok (.ifCond .eq off, 3)) (ht : (pc : Int) + off = (tgt : Int)) (kt : x = 0 → sv_J E X wd sz ce sl tgt lv st) (kf : ¬ x = 0 → sv_J E X wd sz ce sl (pc + 3) lv st) : sv_J E X wd sz ce sl pc lv (.int x :: st) := by
  obtain ⟨p, l, e, R, s, m, args, below, meth, c, Q, A, nL⟩ := X
  exact fun H locs ls h1 h2 h3 h4 h5 => lv_if_eq C.1.1 C.1.2.1 hd ht (fun h => kt h H locs ls h1 h2 h3 h4 h5) (fun h => kf h H locs ls h1 h2 h3 h4 h5)
theorem sv_icmp_eq {x y : Int32} {off : Int} {tgt : Nat} (C : sv_C E X cc own sx) (hd : decode cc pc = .ok (.if_icmp .eq off, 3)) (ht : (pc : Int) + off = (tgt : Int)) (kt : x = y → sv_J E X wd sz ce sl tgt lv st) (kf : ¬ x = y → sv_J E X wd sz ce sl (pc + 3) lv st) : sv_J E X wd sz ce sl pc lv (.int y :: .int x :: st) := by
  obtain ⟨p, l, e, R, s, m, args, below, meth, c, Q, A, nL⟩ := X
  exact fun H locs ls h1 h2 h3 h4 h5 => lv_icmp_eq C.1.1 C.1.2.1 hd ht (fun h => kt h H locs ls h1 h2 h3 h4 h5) (fun h => kf h H locs ls h1 h2 h3 h4 h5)
theorem sv_if_ne {x : Int32} {off : Int} {tgt : Nat} (C : sv_C E X cc own sx) (hd : decode cc pc = .ok (.ifCond .ne off, 3)) (ht : (pc : Int) + off = (tgt : Int)) (kt : ¬ x = 0 → sv_J E X wd sz ce sl tgt lv st) (kf : x = 0 → sv_J E X wd sz ce sl (pc + 3) lv st) : sv_J E X wd sz ce sl pc lv (.int x :: st) := by
  obtain ⟨p, l, e, R, s, m, args, below, meth, c, Q, A, nL⟩ := X
  exact fun H locs ls h1 h2 h3 h4 h5 => lv_if_ne C.1.1 C.1.2.1 hd ht (fun h => kt h H locs ls h1 h2 h3 h4 h5) (fun h => kf h H locs ls h1 h2 h3 h4 h5)
theorem sv_icmp_ne {x y : Int32} {off : Int} {tgt : Nat} (C : sv_C E X cc own sx) (hd : decode cc pc = .ok (.if_icmp .ne off, 3)) (ht : (pc : Int) + off = (tgt : Int)) (kt : ¬ x = y → sv_J E X wd sz ce sl tgt lv st) (kf : x = y → sv_J E X wd sz ce sl (pc + 3) lv st) : sv_J E X wd sz ce sl pc lv (.int y :: .int x :: st) := by
  obtain ⟨p, l, e, R, s, m, args, below, meth, c, Q, A, nL⟩ := X
  exact fun H locs ls h1 h2 h3 h4 h5 => lv_icmp_ne C.1.1 C.1.2.1 hd ht (fun h => kt h H locs ls h1 h2 h3 h4 h5) (fun h => kf h H locs ls h1 h2 h3 h4 h5)
theorem sv_if_lt {x : Int32} {off : Int} {tgt : Nat} (C : sv_C E X cc own sx) (hd : decode cc pc = .ok (.ifCond .lt off, 3)) (ht : (pc : Int) + off = (tgt : Int)) (kt : x < 0 → sv_J E X wd sz ce sl tgt lv st) (kf : ¬ x < 0 → sv_J E X wd sz ce sl (pc + 3) lv st) : sv_J E X wd sz ce sl pc lv (.int x :: st) := by
  obtain ⟨p, l, e, R, s, m, args, below, meth, c, Q, A, nL⟩ := X
  exact fun H locs ls h1 h2 h3 h4 h5 => lv_if_lt C.1.1 C.1.2.1 hd ht (fun h => kt h H locs ls h1 h2 h3 h4 h5) (fun h => kf h H locs ls h1 h2 h3 h4 h5)
theorem sv_icmp_lt {x y : Int32} {off : Int} {tgt : Nat} (C : sv_C E X cc own sx) (hd : decode cc pc = .ok (.if_icmp .lt off, 3)) (ht : (pc : Int) + off = (tgt : Int)) (kt : x < y → sv_J E X wd sz ce sl tgt lv st) (kf : ¬ x < y → sv_J E X wd sz ce sl (pc + 3) lv st) : sv_J E X wd sz ce sl pc lv (.int y :: .int x :: st) := by
  obtain ⟨p, l, e, R, s, m, args, below, meth, c, Q, A, nL⟩ := X
  exact fun H locs ls h1 h2 h3 h4 h5 => lv_icmp_lt C.1.1 C.1.2.1 hd ht (fun h => kt h H locs ls h1 h2 h3 h4 h5) (fun h => kf h H locs ls h1 h2 h3 h4 h5)
theorem sv_if_ge {x : Int32} {off : Int} {tgt : Nat} (C : sv_C E X cc own sx) (hd : decode cc pc = .ok (.ifCond .ge off, 3)) (ht : (pc : Int) + off = (tgt : Int)) (kt : 0 ≤ x → sv_J E X wd sz ce sl tgt lv st) (kf : ¬ 0 ≤ x → sv_J E X wd sz ce sl (pc + 3) lv st) : sv_J E X wd sz ce sl pc lv (.int x :: st) := by
  obtain ⟨p, l, e, R, s, m, args, below, meth, c, Q, A, nL⟩ := X
  exact fun H locs ls h1 h2 h3 h4 h5 => lv_if_ge C.1.1 C.1.2.1 hd ht (fun h => kt h H locs ls h1 h2 h3 h4 h5) (fun h => kf h H locs ls h1 h2 h3 h4 h5)
theorem sv_icmp_ge {x y : Int32} {off : Int} {tgt : Nat} (C : sv_C E X cc own sx) (hd : decode cc pc = .ok (.if_icmp .ge off, 3)) (ht : (pc : Int) + off = (tgt : Int)) (kt : y ≤ x → sv_J E X wd sz ce sl tgt lv st) (kf : ¬ y ≤ x → sv_J E X wd sz ce sl (pc + 3) lv st) : sv_J E X wd sz ce sl pc lv (.int y :: .int x :: st) := by
  obtain ⟨p, l, e, R, s, m, args, below, meth, c, Q, A, nL⟩ := X
  exact fun H locs ls h1 h2 h3 h4 h5 => lv_icmp_ge C.1.1 C.1.2.1 hd ht (fun h => kt h H locs ls h1 h2 h3 h4 h5) (fun h => kf h H locs ls h1 h2 h3 h4 h5)
theorem sv_if_gt {x : Int32} {off : Int} {tgt : Nat} (C : sv_C E X cc own sx) (hd : decode cc pc = .ok (.ifCond .gt off, 3)) (ht : (pc : Int) + off = (tgt : Int)) (kt : 0 < x → sv_J E X wd sz ce sl tgt lv st) (kf : ¬ 0 < x → sv_J E X wd sz ce sl (pc + 3) lv st) : sv_J E X wd sz ce sl pc lv (.int x :: st) := by
  obtain ⟨p, l, e, R, s, m, args, below, meth, c, Q, A, nL⟩ := X
  exact fun H locs ls h1 h2 h3 h4 h5 => lv_if_gt C.1.1 C.1.2.1 hd ht (fun h => kt h H locs ls h1 h2 h3 h4 h5) (fun h => kf h H locs ls h1 h2 h3 h4 h5)
theorem sv_icmp_gt {x y : Int32} {off : Int} {tgt : Nat} (C : sv_C E X cc own sx) (hd : decode cc pc = .ok (.if_icmp .gt off, 3)) (ht : (pc : Int) + off = (tgt : Int)) (kt : y < x → sv_J E X wd sz ce sl tgt lv st) (kf : ¬ y < x → sv_J E X wd sz ce sl (pc + 3) lv st) : sv_J E X wd sz ce sl pc lv (.int y :: .int x :: st) := by
  obtain ⟨p, l, e, R, s, m, args, below, meth, c, Q, A, nL⟩ := X
  exact fun H locs ls h1 h2 h3 h4 h5 => lv_icmp_gt C.1.1 C.1.2.1 hd ht (fun h => kt h H locs ls h1 h2 h3 h4 h5) (fun h => kf h H locs ls h1 h2 h3 h4 h5)
theorem sv_if_le {x : Int32} {off : Int} {tgt : Nat} (C : sv_C E X cc own sx) (hd : decode cc pc = .ok (.ifCond .le off, 3)) (ht : (pc : Int) + off = (tgt : Int)) (kt : x ≤ 0 → sv_J E X wd sz ce sl tgt lv st) (kf : ¬ x ≤ 0 → sv_J E X wd sz ce sl (pc + 3) lv st) : sv_J E X wd sz ce sl pc lv (.int x :: st) := by
  obtain ⟨p, l, e, R, s, m, args, below, meth, c, Q, A, nL⟩ := X
  exact fun H locs ls h1 h2 h3 h4 h5 => lv_if_le C.1.1 C.1.2.1 hd ht (fun h => kt h H locs ls h1 h2 h3 h4 h5) (fun h => kf h H locs ls h1 h2 h3 h4 h5)
theorem sv_icmp_le {x y : Int32} {off : Int} {tgt : Nat} (C : sv_C E X cc own sx) (hd : decode cc pc = .ok (.if_icmp .le off, 3)) (ht : (pc : Int) + off = (tgt : Int)) (kt : x ≤ y → sv_J E X wd sz ce sl tgt lv st) (kf : ¬ x ≤ y → sv_J E X wd sz ce sl (pc + 3) lv st) : sv_J E X wd sz ce sl pc lv (.int y :: .int x :: st) := by
  obtain ⟨p, l, e, R, s, m, args, below, meth, c, Q, A, nL⟩ := X
  exact fun H locs ls h1 h2 h3 h4 h5 => lv_icmp_le C.1.1 C.1.2.1 hd ht (fun h => kt h H locs ls h1 h2 h3 h4 h5) (fun h => kf h H locs ls h1 h2 h3 h4 h5)
theorem sv_dup {va : Value} (C : sv_C E X cc own sx) (hd : decode cc pc = .ok (.dup, 1)) (hva : va.category = 1) (k : sv_J E X wd sz ce sl (pc + 1) lv (va :: va :: st)) : sv_J E X wd sz ce sl pc lv (va :: st) := by
  obtain ⟨p, l, e, R, s, m, args, below, meth, c, Q, A, nL⟩ := X
  exact fun H locs ls h1 h2 h3 h4 h5 => lv_dup C.1.1 C.1.2.1 hd hva (k H locs ls h1 h2 h3 h4 h5)
theorem sv_pop {va : Value} (C : sv_C E X cc own sx) (hd : decode cc pc = .ok (.pop, 1)) (hva : va.category = 1) (k : sv_J E X wd sz ce sl (pc + 1) lv st) : sv_J E X wd sz ce sl pc lv (va :: st) := by
  obtain ⟨p, l, e, R, s, m, args, below, meth, c, Q, A, nL⟩ := X
  exact fun H locs ls h1 h2 h3 h4 h5 => lv_pop C.1.1 C.1.2.1 hd hva (k H locs ls h1 h2 h3 h4 h5)
theorem sv_dup_x1 {va vb : Value} (C : sv_C E X cc own sx) (hd : decode cc pc = .ok (.dup_x1, 1)) (hva : va.category = 1) (hvb : vb.category = 1) (k : sv_J E X wd sz ce sl (pc + 1) lv (va :: vb :: va :: st)) : sv_J E X wd sz ce sl pc lv (va :: vb :: st) := by
  obtain ⟨p, l, e, R, s, m, args, below, meth, c, Q, A, nL⟩ := X
  exact fun H locs ls h1 h2 h3 h4 h5 => lv_dup_x1 C.1.1 C.1.2.1 hd hva hvb (k H locs ls h1 h2 h3 h4 h5)
theorem sv_dup2 {va vb : Value} (C : sv_C E X cc own sx) (hd : decode cc pc = .ok (.dup2, 1)) (hva : va.category = 1) (hvb : vb.category = 1) (k : sv_J E X wd sz ce sl (pc + 1) lv (va :: vb :: va :: vb :: st)) : sv_J E X wd sz ce sl pc lv (va :: vb :: st) := by
  obtain ⟨p, l, e, R, s, m, args, below, meth, c, Q, A, nL⟩ := X
  exact fun H locs ls h1 h2 h3 h4 h5 => lv_dup2_11 C.1.1 C.1.2.1 hd hva hvb (k H locs ls h1 h2 h3 h4 h5)
theorem sv_goto {off : Int} {tgt : Nat} (C : sv_C E X cc own sx) (hd : decode cc pc = .ok (.goto off, 3)) (ht : (pc : Int) + off = (tgt : Int)) (k : sv_J E X wd sz ce sl tgt lv st) : sv_J E X wd sz ce sl pc lv st := by
  obtain ⟨p, l, e, R, s, m, args, below, meth, c, Q, A, nL⟩ := X
  exact fun H locs ls h1 h2 h3 h4 h5 => lv_goto C.1.1 C.1.2.1 hd ht (k H locs ls h1 h2 h3 h4 h5)
/-- fewer locals, in any order -/
theorem sv_sub (ks : List Nat) (hl : lv_pick lv ks = lv') (k : sv_J E X wd sz ce sl pc lv' st) : sv_J E X wd sz ce sl pc lv st := by
  obtain ⟨p, l, e, R, s, m, args, below, meth, c, Q, A, nL⟩ := X
  exact fun H locs ls h1 h2 h3 h4 h5 => k H locs ls h1 h2 h3 h4 (lv_sub h5 ks hl)
theorem sv_iret {v : Int32} (C : sv_C E X cc own sx) (hZ : sv_Z E X (some .int) (some (.int v)) wd sz ce sl) (hd : decode cc pc = .ok (.ireturn, 1)) : sv_J E X wd sz ce sl pc lv [.int v] := by
  obtain ⟨p, l, e, R, s, m, args, below, meth, c, Q, A, nL⟩ := X
  obtain ⟨hr, wd0, sz0, rfl, rfl⟩ := hZ
  exact fun H locs ls h1 h2 h3 h4 h5 => W.iret C.1.1 C.1.2.1 hr (fun t ht hW => ⟨⟨rfl, by rw [ht]; exact h1, by rw [ht]; exact h2, h3⟩, h4.F ht⟩) h4.2.2 hd C.2.2.1
theorem sv_zret {v : Int32} {ty : FieldType} (C : sv_C E X cc own sx) (hn : narrow ty (.int v) = .int v) (hZ : sv_Z E X (some ty) (some (.int v)) wd sz ce sl) (hd : decode cc pc = .ok (.ireturn, 1)) : sv_J E X wd sz ce sl pc lv [.int v] := by
  obtain ⟨p, l, e, R, s, m, args, below, meth, c, Q, A, nL⟩ := X
  obtain ⟨hr, wd0, sz0, rfl, rfl⟩ := hZ
  exact fun H locs ls h1 h2 h3 h4 h5 => W.zret C.1.1 C.1.2.1 hr hn (fun t ht hW => ⟨⟨rfl, by rw [ht]; exact h1, by rw [ht]; exact h2, h3⟩, h4.F ht⟩) h4.2.2 hd C.2.2.1
theorem sv_vret (C : sv_C E X cc own sx) (hZ : sv_Z E X none none wd sz ce sl) (hd : decode cc pc = .ok (.return_, 1)) : sv_J E X wd sz ce sl pc lv [] := by
  obtain ⟨p, l, e, R, s, m, args, below, meth, c, Q, A, nL⟩ := X
  obtain ⟨hr, wd0, sz0, rfl, rfl⟩ := hZ
  exact fun H locs ls h1 h2 h3 h4 h5 => W.vret C.1.1 C.1.2.1 hr (fun t ht hW => ⟨⟨rfl, by rw [ht]; exact h1, by rw [ht]; exact h2, h3⟩, h4.F ht⟩) h4.2.2 hd C.2.2.1
theorem sv_aret {v : Value} {rt : FieldType} (C : sv_C E X cc own sx) (hrt : (∃ n, rt = .object n) ∨ ∃ t, rt = .array t) (hv : v = .null ∨ ∃ a, v = .ref a) (hZ : sv_Z E X (some rt) (some v) wd sz ce sl) (hd : decode cc pc = .ok (.areturn, 1)) : sv_J E X wd sz ce sl pc lv [v] := by
  obtain ⟨p, l, e, R, s, m, args, below, meth, c, Q, A, nL⟩ := X
  obtain ⟨hr, wd0, sz0, rfl, rfl⟩ := hZ
  exact fun H locs ls h1 h2 h3 h4 h5 => W.aret C.1.1 C.1.2.1 hr hrt hv (fun t ht hW => ⟨⟨rfl, by rw [ht]; exact h1, by rw [ht]; exact h2, h3⟩, h4.F ht⟩) h4.2.2 hd C.2.2.1
theorem sv_widen {k n : Nat} (h1 : ce ≤ k) (h2 : sl ≤ n) (kk : sv_J E X wd sz k n pc lv st) : sv_J E X wd sz ce sl pc lv st := by
  obtain ⟨p, l, e, R, s, m, args, below, meth, c, Q, A, nL⟩ := X
  exact fun H locs ls g1 g2 g3 g4 g5 => W.widen h1 h2 (kk H locs ls g1 g2 g3 g4 g5)
end SVA
end
section
/-! ===== rows over a world: fields, arrays, calls ===== -/
/-- a field's link: in class own at place index, field k of the class ci -/
def sv_FL (own : String) (index ci k : Nat) (fin : Bool) (ty : FieldType) : Prop := ∃ (Cn : String) (T : u_T) (N : Nat) (ty0 : Nat → FieldType), vwCl[ci]? = some (Cn, T, N) ∧ (∀ w ∈ u_ws Cn T N, w ∈ sv_w) ∧ (∀ k, k < N → parseFieldDescriptor (T k).2.2.1 = some (ty0 k)) ∧ (∀ a, a < N → ∀ b, b < N → a ≠ b → (T a).2.1 ≠ (T b).2.1) ∧ k < N ∧ Cond.fieldLink own index (T k).1 (T k).2.1 (T k).2.2.1 ∈ sv_w ∧ (T k).2.2.2 = fin ∧ parseFieldDescriptor (T k).2.2.1 = some ty ∧ (T k).1 = Cn
theorem sv_gd {w : Cond} (h : w ∈ sv_w) : w ∈ sv_w ∧ ((w.onTables && w.keeps) = true ∨ ∃ ty, w = .arrayClass ty) := ⟨h, good_of_word (List.mem_filter.mp h).2⟩
theorem sv_gds {ws : List Cond} (h : ∀ w ∈ ws, w ∈ sv_w) : GoodIn sv_w ws := fun w hw => sv_gd (h w hw)
def sv_dn (y : MethodName) (n : Nat) : Prop := y.cls ≠ "java/lang/invoke/MethodHandle" ∧ y.cls ≠ "java/lang/invoke/VarHandle" ∧ (parseMethodDescriptor y.desc).map (fun d => d.parameters.length) = some n
/-- a method's link: called by class own at place index, n arguments -/
def sv_MV (own : String) (index : Nat) (y : MethodName) (cb : ByteArray) (mL : Nat) (rt : Option FieldType) (n : Nat) : Prop := GoodIn sv_w (wsV own index y.cls y (Cond.code y cb mL rt :: sv_w)) ∧ sv_dn y n
def sv_MS (own : String) (index : Nat) (y : MethodName) (cb : ByteArray) (mL : Nat) (rt : Option FieldType) (n : Nat) : Prop := (Cond.methodLink own index y ∈ sv_w ∧ Cond.static y ∈ sv_w ∧ Cond.initialized y.cls ∈ sv_w ∧ Cond.code y cb mL rt ∈ sv_w) ∧ sv_dn y n
theorem sv_mkV {own : String} {index : Nat} {y : MethodName} {cb : ByteArray} {mL : Nat} {rt : Option FieldType} {n : Nat} (h1 : Cond.methodLink own index y ∈ sv_w) (h2 : Cond.instanceMethod y ∈ sv_w) (h3 : Cond.selects y.cls y y ∈ sv_w) (h4 : Cond.initialized y.cls ∈ sv_w) (h5 : Cond.code y cb mL rt ∈ sv_w) (hd : sv_dn y n) : sv_MV own index y cb mL rt n :=
  ⟨sv_gds (fun w hw => by
    simp only [wsV, List.mem_append, List.mem_cons, List.not_mem_nil, or_false] at hw
    rcases hw with (rfl | rfl | rfl | rfl) | rfl | hw <;> assumption), hd⟩
section SVB
variable {E : sv_E} {X : sv_X} {cc : ByteArray} {own : String} {sx : List (Nat × Nat × List Int32)} {wd : va_W} {sz ce sl pc : Nat} {lv lv' : List (Nat × Value)} {st : List Value}
theorem sv_getf {index ci k a : Nat} {fin : Bool} {ty : FieldType} {fs : List Value} {v : Value} (C : sv_C E X cc own sx) (hF : sv_FL own index ci k fin ty) (q0 : Nat) (he : wd[q0]? = some (a, .inr (ci, fs))) (hv : fs[k]? = some v) (hd : decode cc pc = .ok (.getfield index, 3)) (kk : sv_J E X wd sz ce sl (pc + 3) lv (v :: st)) : sv_J E X wd sz ce sl pc lv (.ref a :: st) := by
  obtain ⟨p, l, e, R, s, m, args, below, meth, c, Q, A, nL⟩ := X
  obtain ⟨Cn, T, N, ty0, f1, f2, f3, f4, f5, f6, f7, f8, f9⟩ := hF
  exact fun H locs ls h1 h2 h3 h4 h5 => va_get C.1.1 C.1.2.1 C.1.2.2.2.2 f2 C.1.2.2.2.1 C.2.1 h2 q0 he f1 k f5 (C.1.2.2.2.2 _ f6) (fun _ h => h) hv hd (kk H locs ls h1 h2 h3 h4 h5)
theorem sv_putf {index ci k a : Nat} {ty : FieldType} {fs : List Value} {v : Value} (C : sv_C E X cc own sx) (hF : sv_FL own index ci k false ty) (q0 : Nat) (he : wd[q0]? = some (a, .inr (ci, fs))) (hn : narrow ty v = v) (hfit : fits ty v = true) (hl : k < fs.length) (hd : decode cc pc = .ok (.putfield index, 3)) (kk : sv_J E X (wd.set q0 (a, .inr (ci, fs.set k v))) sz ce sl (pc + 3) lv st) : sv_J E X wd sz ce sl pc lv (v :: .ref a :: st) := by
  obtain ⟨p, l, e, R, s, m, args, below, meth, c, Q, A, nL⟩ := X
  obtain ⟨Cn, T, N, ty0, f1, f2, f3, f4, f5, f6, f7, f8, f9⟩ := hF
  obtain ⟨⟨hx, hb, hml, hown, hts⟩, hK, hC⟩ := C
  intro H locs ls g1 hP hD hS g5
  have hap := va_apart (own := own) hts f2 ty0 f3 f4 hK f1
  obtain ⟨r, h1, cell, q1, q2, q3, q4⟩ := hP q0 _ he
  have hr : r = (Cn, T, N) := Option.some.inj (h1.symm.trans f1)
  subst hr
  obtain ⟨hSl, hfc, kC, hkC, hkind⟩ := hK.1 ci _ f1
  obtain ⟨cf, kf, fi, f, hi, hsl⟩ := hSl k f5
  have hlay := hts _ (f2 _ (u_in_lay f5))
  unfold u_lay at hlay
  rw [if_neg (by rw [f7]; decide)] at hlay
  have hst := (u_facts hfc hkC (u_lays hts f2 f5) hi).1
  have h6 := u_store hfc hkC hkind hlay hi f8 hn hfit
  refine W.putK hx hb (f := f) ⟨hown, hts _ f6, ⟨_, _, _, hi⟩, hst⟩ (by rw [q2]; exact h6) q1 q3 (by rw [hsl]; exact k2_hasslot (q4 k f5)) rfl rfl hd fun H' e1 e2 e3 => ?_
  rw [hsl] at e1 ⊢
  exact kk H' _ ls (e2.trans g1) (hP.set hD he ⟨_, f1, t_OB.to (V := updV (vp_V fs) k v) ⟨_, e1, q2, q3, t_set q4 hap f5 v⟩ (fun j _ => vp_updV_set hl v j)⟩ e3) (hD.set he) (hS.put e2 e3 (hD.2 q0 _ he)) g5
/-- a final field, in a constructor -/
theorem sv_putF {index ci k a : Nat} {ty : FieldType} {fs : List Value} {v : Value} (C : sv_C E X cc own sx) (hF : sv_FL own index ci k true ty) (ho : (vwCl[ci]?).map (fun q => q.1) = some own) (hnm : sv_nm X = "<init>") (q0 : Nat) (he : wd[q0]? = some (a, .inr (ci, fs))) (hn : narrow ty v = v) (hfit : fits ty v = true) (hl : k < fs.length) (hd : decode cc pc = .ok (.putfield index, 3)) (kk : sv_J E X (wd.set q0 (a, .inr (ci, fs.set k v))) sz ce sl (pc + 3) lv st) : sv_J E X wd sz ce sl pc lv (v :: .ref a :: st) := by
  obtain ⟨p, l, e, R, s, m, args, below, meth, c, Q, A, nL⟩ := X
  obtain ⟨Cn, T, N, ty0, f1, f2, f3, f4, f5, f6, f7, f8, f9⟩ := hF
  obtain ⟨⟨hx, hb, hml, hown, hts⟩, hK, hC⟩ := C
  intro H locs ls g1 hP hD hS g5
  have hap := va_apart (own := own) hts f2 ty0 f3 f4 hK f1
  obtain ⟨r, h1, cell, q1, q2, q3, q4⟩ := hP q0 _ he
  have hr : r = (Cn, T, N) := Option.some.inj (h1.symm.trans f1)
  subst hr
  obtain ⟨hSl, hfc, kC, hkC, hkind⟩ := hK.1 ci _ f1
  obtain ⟨cf, kf, fi, f, hi, hsl⟩ := hSl k f5
  have hlay := hts _ (f2 _ (u_in_lay f5))
  unfold u_lay at hlay
  rw [if_pos f7] at hlay
  have hst := (u_facts hfc hkC (u_lays hts f2 f5) hi).1
  rw [f1] at ho
  have hoC : Cn = own := Option.some.inj ho
  have hcf : m.cls = cf := by
    obtain ⟨_, _, c', _, _, _, -, -, hf', -, -, -, hown2, -⟩ := Cond.laysFinal_spec hlay
    have e1 : c' = cf := by have := hi.symm.trans hf'; simp at this; exact this.1.symm
    rw [f9, hoC] at hown2
    rw [← e1]; exact Option.some.inj (hown.symm.trans hown2)
  have h6 := u_fits hfc hkC hkind (Or.inr hlay) hi f8 hn hfit
  refine W.putFinK hx hb hown (hts _ f6) hi hst hcf hnm (by rw [q2]; exact h6) q1 q3 (by rw [hsl]; exact k2_hasslot (q4 k f5)) rfl rfl hd fun H' e1 e2 e3 => ?_
  rw [hsl] at e1 ⊢
  exact kk H' _ ls (e2.trans g1) (hP.set hD he ⟨_, f1, t_OB.to (V := updV (vp_V fs) k v) ⟨_, e1, q2, q3, t_set q4 hap f5 v⟩ (fun j _ => vp_updV_set hl v j)⟩ e3) (hD.set he) (hS.put e2 e3 (hD.2 q0 _ he)) g5
/-- a place of an array of n -/
def sv_inb (i : Int32) (n : Nat) : Bool := decide (¬ (i < 0 ∨ n ≤ i.toNatClampNeg))
theorem sv_inb_in {i : Int32} {n : Nat} (h : sv_inb i n = true) : vp_in i n := of_decide_eq_true (p := ¬ (i < 0 ∨ n ≤ i.toNatClampNeg)) h
theorem sv_iald {a n : Nat} {f : Nat → Int32} {i : Int32} (C : sv_C E X cc own sx) (q0 : Nat) (ha : wd[q0]? = some (a, .inl (E.2.1 1, n, .inl f))) (hin : sv_inb i n = true) (hd : decode cc pc = .ok (.iaload, 1)) (kk : sv_J E X wd sz ce sl (pc + 1) lv (.int (f i.toNatClampNeg) :: st)) : sv_J E X wd sz ce sl pc lv (.int i :: .ref a :: st) := by
  obtain ⟨p, l, e, R, s, m, args, below, meth, c, Q, A, nL⟩ := X
  exact fun H locs ls h1 h2 h3 h4 h5 => va_iald C.1.1 C.1.2.1 C.2.1 h2 q0 1 ha rfl (sv_inb_in hin) hd (kk H locs ls h1 h2 h3 h4 h5)
theorem sv_bald {a n : Nat} {f : Nat → Int32} {i : Int32} (C : sv_C E X cc own sx) (q0 : Nat) (ha : wd[q0]? = some (a, .inl (E.2.1 0, n, .inl f))) (hin : sv_inb i n = true) (hd : decode cc pc = .ok (.baload, 1)) (kk : sv_J E X wd sz ce sl (pc + 1) lv (.int (f i.toNatClampNeg) :: st)) : sv_J E X wd sz ce sl pc lv (.int i :: .ref a :: st) := by
  obtain ⟨p, l, e, R, s, m, args, below, meth, c, Q, A, nL⟩ := X
  exact fun H locs ls h1 h2 h3 h4 h5 => va_bald C.1.1 C.1.2.1 C.2.1 h2 q0 0 ha rfl (sv_inb_in hin) hd (kk H locs ls h1 h2 h3 h4 h5)
theorem sv_zald {a n : Nat} {f : Nat → Int32} {i : Int32} (C : sv_C E X cc own sx) (q0 : Nat) (ha : wd[q0]? = some (a, .inl (E.2.1 2, n, .inl f))) (hin : sv_inb i n = true) (hd : decode cc pc = .ok (.baload, 1)) (kk : sv_J E X wd sz ce sl (pc + 1) lv (.int (f i.toNatClampNeg) :: st)) : sv_J E X wd sz ce sl pc lv (.int i :: .ref a :: st) := by
  obtain ⟨p, l, e, R, s, m, args, below, meth, c, Q, A, nL⟩ := X
  exact fun H locs ls h1 h2 h3 h4 h5 => va_zald C.1.1 C.1.2.1 C.2.1 h2 q0 2 ha rfl (sv_inb_in hin) hd (kk H locs ls h1 h2 h3 h4 h5)
theorem sv_aald {a n : Nat} {f : Nat → Option Nat} {t0 : Nat} {cA : ClassId} {K : String} {i : Int32} (C : sv_C E X cc own sx) (q0 : Nat) (ht : (sv_tys E)[t0]? = some (cA, .object K)) (ha : wd[q0]? = some (a, .inl (cA, n, .inr (.inr (.inr (.inr f)))))) (hin : sv_inb i n = true) (hd : decode cc pc = .ok (.aaload, 1)) (kk : sv_J E X wd sz ce sl (pc + 1) lv (va_rf (f i.toNatClampNeg) :: st)) : sv_J E X wd sz ce sl pc lv (.int i :: .ref a :: st) := by
  obtain ⟨p, l, e, R, s, m, args, below, meth, c, Q, A, nL⟩ := X
  exact fun H locs ls h1 h2 h3 h4 h5 => va_aldq C.1.1 C.1.2.1 C.2.1 h2 q0 t0 ha ht (sv_inb_in hin) hd (kk H locs ls h1 h2 h3 h4 h5)
theorem sv_alen {a t0 : Nat} {cA : ClassId} {x : vp_A} {ty : FieldType} (C : sv_C E X cc own sx) (q0 : Nat) (ht : (sv_tys E)[t0]? = some (cA, ty)) (ha : wd[q0]? = some (a, .inl (cA, x))) (hd : decode cc pc = .ok (.arraylength, 1)) (kk : sv_J E X wd sz ce sl (pc + 1) lv (.int (Int32.ofNat x.1) :: st)) : sv_J E X wd sz ce sl pc lv (.ref a :: st) := by
  obtain ⟨p, l, e, R, s, m, args, below, meth, c, Q, A, nL⟩ := X
  exact fun H locs ls h1 h2 h3 h4 h5 => va_alen C.1.1 C.1.2.1 C.2.1 h2 q0 t0 ha ht rfl hd (kk H locs ls h1 h2 h3 h4 h5)
theorem sv_celli {cA : ClassId} {n j : Nat} {f : Nat → Int32} {x : Int32} : (vp_cell cA (n, .inl f)).setSlot j (.int x) = vp_cell cA (n, .inl (upd f j x)) := by
  rw [vp_cell_i, vp_cell_i, arrV_store]
  congr 2
  funext q
  by_cases hq : q = j
  · subst hq
    simp [updV, upd]
  · simp [updV, upd, hq]
theorem sv_iast {a n : Nat} {f : Nat → Int32} {i x : Int32} (C : sv_C E X cc own sx) (q0 : Nat) (ha : wd[q0]? = some (a, .inl (E.2.1 1, n, .inl f))) (hin : sv_inb i n = true) (hd : decode cc pc = .ok (.iastore, 1)) (kk : sv_J E X (wd.set q0 (a, .inl (E.2.1 1, n, .inl (upd f i.toNatClampNeg x)))) sz ce sl (pc + 1) lv st) : sv_J E X wd sz ce sl pc lv (.int x :: .int i :: .ref a :: st) := by
  obtain ⟨p, l, e, R, s, m, args, below, meth, c, Q, A, nL⟩ := X
  obtain ⟨⟨hx, hb, hml, hown, hts⟩, hK, hC⟩ := C
  intro H locs ls g1 hP hD hS g5
  have hin := sv_inb_in hin
  refine W.iast hx hb (hP q0 _ ha) ((hK.2 1 _ rfl).1 n (fun j => .int (f j))) (fun q => by cases q) (by show ¬ (i < 0 ∨ (arrV _ _ _).slots.size ≤ _); rw [arrV_size]; exact hin) rfl rfl hd fun H1 e1 z oq => ?_
  exact kk H1 _ ls (z.trans g1) (hP.set hD ha (by show H1[a]? = some (vp_cell _ _); rw [e1]; exact congrArg some sv_celli) oq) (hD.set ha) (hS.put z oq (hD.2 q0 _ ha)) g5
theorem sv_nrb {x : Int32} : narrow .byte (.int x) = .int (vp_nar .byte x) := rfl
theorem sv_nrz {x : Int32} : narrow .boolean (.int x) = .int (vp_nar .boolean x) := rfl
theorem sv_bast {a n : Nat} {f : Nat → Int32} {i x : Int32} (C : sv_C E X cc own sx) (q0 : Nat) (ha : wd[q0]? = some (a, .inl (E.2.1 0, n, .inl f))) (hin : sv_inb i n = true) (hd : decode cc pc = .ok (.bastore, 1)) (kk : sv_J E X (wd.set q0 (a, .inl (E.2.1 0, n, .inl (upd f i.toNatClampNeg (vp_nar .byte x))))) sz ce sl (pc + 1) lv st) : sv_J E X wd sz ce sl pc lv (.int x :: .int i :: .ref a :: st) := by
  obtain ⟨p, l, e, R, s, m, args, below, meth, c, Q, A, nL⟩ := X
  obtain ⟨⟨hx, hb, hml, hown, hts⟩, hK, hC⟩ := C
  intro H locs ls g1 hP hD hS g5
  have hin := sv_inb_in hin
  refine W.bast hx hb (hP q0 _ ha) ((hK.2 0 _ rfl).1 n (fun j => .int (f j))) (fun q => by cases q) (by show ¬ (i < 0 ∨ (arrV _ _ _).slots.size ≤ _); rw [arrV_size]; exact hin) rfl rfl hd fun H1 e1 z oq => ?_
  exact kk H1 _ ls (z.trans g1) (hP.set hD ha (by show H1[a]? = some (vp_cell _ _); rw [e1]; exact congrArg some (sv_celli (x := vp_nar .byte x))) oq) (hD.set ha) (hS.put z oq (hD.2 q0 _ ha)) g5
theorem sv_zast {a n : Nat} {f : Nat → Int32} {i x : Int32} (C : sv_C E X cc own sx) (q0 : Nat) (ha : wd[q0]? = some (a, .inl (E.2.1 2, n, .inl f))) (hin : sv_inb i n = true) (hd : decode cc pc = .ok (.bastore, 1)) (kk : sv_J E X (wd.set q0 (a, .inl (E.2.1 2, n, .inl (upd f i.toNatClampNeg (vp_nar .boolean x))))) sz ce sl (pc + 1) lv st) : sv_J E X wd sz ce sl pc lv (.int x :: .int i :: .ref a :: st) := by
  obtain ⟨p, l, e, R, s, m, args, below, meth, c, Q, A, nL⟩ := X
  obtain ⟨⟨hx, hb, hml, hown, hts⟩, hK, hC⟩ := C
  intro H locs ls g1 hP hD hS g5
  have hin := sv_inb_in hin
  refine W.zast hx hb (hP q0 _ ha) ((hK.2 2 _ rfl).1 n (fun j => .int (f j))) (fun q => by cases q) (by show ¬ (i < 0 ∨ (arrV _ _ _).slots.size ≤ _); rw [arrV_size]; exact hin) rfl rfl hd fun H1 e1 z oq => ?_
  exact kk H1 _ ls (z.trans g1) (hP.set hD ha (by show H1[a]? = some (vp_cell _ _); rw [e1]; exact congrArg some (sv_celli (x := vp_nar .boolean x))) oq) (hD.set ha) (hS.put z oq (hD.2 q0 _ ha)) g5
end SVB
section SVC
variable {p : Program} {l : Launch} {e : Env} {R : Room} {s : State} {m : MethodId} {args : Array Value} {below : List Frame} {meth : Method} {c : Code} {H : Heap} {locs : List Loc} {cells slots : Nat} {Q : State → Prop}
variable {pc : Nat} {ls : Array Slot} {rest st0 : List Value} {a : Array Value} {A : Nat → Prop} {mc ms : Nat}
/-- behind a call -/
theorem sv_cont {E : sv_E} {wd wd' : va_W} {sz sz' : Nat} {res : Option Value} (hr : va_Run p l e R s m args below meth c H locs cells slots mc ms (F0 m pc ls st0) rest (sv_Q E wd sz res wd' sz' a) (va_A wd sz)) (hS : va_S A s.heap H locs) (hf : ∀ q, va_A wd sz q → A q)
    (kk : ∀ (H1 : Heap) (locs1 : List Loc), H1.size = sz' → va_P E.1 vwCl wd' H1 → va_D A wd' → (∀ q : Nat, q < H.size → ¬ va_A wd sz q → H1[q]? = H[q]?) → va_D (va_A wd sz) wd' → va_S A s.heap H1 locs1 → W p l e R s m args below meth c H1 locs1 (cells + mc) (slots + ms) Q (F0 m (pc + 3) ls (res.toList ++ rest))) : W p l e R s m args below meth c H locs cells slots Q (F0 m pc ls st0) := by
  intro T hT X
  obtain ⟨v, st₀, t, T', L, h0, X', hL, e1, e2, ⟨⟨hv, hz', hp, hd⟩, hz, hk⟩, st⟩ := hr T hT X
  cases hv
  rw [h0] at hz hk
  obtain ⟨t2, a1, b1⟩ := kk T'.heap (locs ++ L) (by rw [e1]; exact hz') (by rw [e1]; exact hp) (hd.weaken (fun _ _ _ h => hf _ h)) (fun q h1 h2 => by rw [e1]; exact hk q h1 h2) hd
    ⟨Nat.le_trans hS.1 (by rw [e1]; exact hz), fun q h1 h2 => by rw [e1, hk q (Nat.lt_of_lt_of_le h1 hS.1) (fun z => h2 (hf q z))]; exact hS.2.1 q h1 h2, fun q hq => by
      rcases List.mem_append.mp hq with h | h
      · exact hS.2.2 q h
      · exact hf _ (hL q h)⟩ T' rfl X'
  exact ⟨t2, st t2 a1, b1⟩
/-- what a contract's start asks, at a call -/
theorem sv_blind {E : sv_E} {sx : List (Nat × Nat × List Int32)} {vs : List Value} {wd : va_W} {sz : Nat} : FrameBlind (sv_Pre E sx vs wd sz) := fun a U g mk q => by
  obtain ⟨q0, q1, qP, qK, qD, qE, qX⟩ := q
  exact ⟨q0, q1, qP, va_K.moved (u := U) (U := U.calling g mk a) (Vm.Alike.refl U.vm) qK, qD, qE.move (fun _ _ _ _ h => vk_R.same (u := U) (U := U.calling g mk a) rfl h) (Vm.Alike.refl U.vm) (fun _ _ _ => rfl) (fun _ h => h), fun x hx => (qX x hx).move (U := U.calling g mk a) (Vm.Alike.refl U.vm) (fun _ _ _ => rfl) (fun _ h => h)⟩
theorem sv_pre {E : sv_E} {sx sx' : List (Nat × Nat × List Int32)} {vs : List Value} {wd wd0 : va_W} {sz : Nat} (hK : va_K E.1 vwCl (sv_tys E) s) (hE : sv_En E A s s.heap) (hX : ∀ x ∈ sx', sv_St x.1 x.2.1 x.2.2 A s s.heap) (hsz : H.size = sz) (hP : va_P E.1 vwCl wd H) (hD : va_D A wd) (hS : va_S A s.heap H locs) (hf : ∀ q, va_A wd sz q → A q) : ∀ U : State, U.heap = H → s.WarmedH U.vm → sv_Pre E sx' vs wd sz vs.toArray U := fun U hU hW => by
  refine ⟨rfl, by rw [hU]; exact hsz, by rw [hU]; exact hP, va_K.moved hW.alike hK, hD.weaken (fun _ _ _ _ => trivial), hE.move (fun _ _ _ _ h => vk_R.warm hW h) hW.alike (fun q h1 h2 => by rw [hU]; exact hS.2.1 q h1 h2) hf, fun x hx => (hX x hx).move hW.alike (fun q h1 h2 => by rw [hU]; exact hS.2.1 q h1 h2) hf⟩
theorem sv_free {wd : va_W} (hA : ∀ q, s.heap.size ≤ q → A q) (hD : va_D A wd) (hS : va_S A s.heap H locs) : ∀ q, va_A wd H.size q → A q := fun q h => by
  rcases h with ⟨k, x, h⟩ | h
  · exact hD.2 k _ h
  · exact hA q (Nat.le_trans hS.1 h)
end SVC
section SVD
variable {E : sv_E} {X : sv_X} {cc : ByteArray} {own : String} {sx sx' : List (Nat × Nat × List Int32)} {wd wd' : va_W} {sz sz' ce sl pc : Nat} {lv lv' : List (Nat × Value)} {st rest : List Value}
variable {index : Nat} {y : MethodName} {cb : ByteArray} {mL : Nat} {rt : Option FieldType} {n fr lo : Nat} {As : List Value} {b : Nat} {res : Option Value} {mc ms : Nat}
/-- the strings that a callee is given: the caller's, or constants -/
def sv_sxs (E : sv_E) (sx sx' : List (Nat × Nat × List Int32)) : Prop := ∀ x ∈ sx', x ∈ sx ∨ ∃ i q, sv_strs[i]? = some q ∧ x = (E.2.2.1 i, E.2.2.2.1 i, q.2.2.2)
theorem sv_sx0 : sv_sxs E sx [] := fun x h => absurd h List.not_mem_nil
theorem sv_sx1 : sv_sxs E sx sx := fun x h => Or.inl h
theorem sv_sxi {i : Nat} {q : String × Nat × String × List Int32} (h : sv_strs[i]? = some q) : sv_sxs E sx [(E.2.2.1 i, E.2.2.2.1 i, q.2.2.2)] := fun x hx => by
  simp only [List.mem_cons, List.not_mem_nil, or_false] at hx
  exact Or.inr ⟨i, q, h, hx⟩
theorem sv_sxu {A : Nat → Prop} {s : State} (hE : sv_En E A s s.heap) (hX : ∀ x ∈ sx, sv_St x.1 x.2.1 x.2.2 A s s.heap) (h : sv_sxs E sx sx') : ∀ x ∈ sx', sv_St x.1 x.2.1 x.2.2 A s s.heap := fun x hx => by
  rcases h x hx with h | ⟨i, q, h, rfl⟩
  · exact hX x h
  · exact (hE.1 i q h).2
/-- invokevirtual, the receiver an object of the world -/
theorem sv_callV {ci : Nat} {fs : List Value} (C : sv_C E X cc own sx) (L : sv_MV own index y cb mL rt n) (M : sv_Met (sv_l X) E y cb mL rt fr lo sx' (.ref b :: As) wd sz res wd' sz' mc ms) (hsx : sv_sxs E sx sx') (q0 : Nat) (he : wd[q0]? = some (b, .inr (ci, fs))) (hc : (vwCl[ci]?).map (fun q => q.1) = some y.cls) (hn : As.length = n) (hst : st = As.reverse ++ .ref b :: rest) (hw : (rest.map fun v => v.category).sum ≤ 8)
    (hR : fr + 1 ≤ (sv_R X).frames ∧ 8 + (mL + 11) + lo ≤ (sv_R X).locals) (hcs : ce + mc ≤ (sv_R X).cells ∧ sl + ms ≤ (sv_R X).slots) (hd : decode cc pc = .ok (.invokevirtual index, 3)) (kk : sv_J E X wd' sz' (ce + mc) (sl + ms) (pc + 3) lv (res.toList ++ rest)) : sv_J E X wd sz ce sl pc lv st := by
  obtain ⟨p, l, e, R, s, m, args, below, meth, c, Q, A, nL⟩ := X
  obtain ⟨S, hK, hlk, hA, hE, hX⟩ := C
  intro H locs ls g1 hP hD hS g5
  subst g1
  have hf := sv_free hA hD hS
  cases hcq : vwCl[ci]? with
  | none => rw [hcq] at hc; cases hc
  | some q =>
    rw [hcq] at hc
    have hq : q.1 = y.cls := Option.some.inj hc
    have hrec := va_recv hK hP hcq he
    rw [hq] at hrec
    refine sv_cont (va_runV (As := As) (rest := rest) S M (cwV n S.2.2.2.2 L.1 rfl rfl rfl ⟨rfl, L.2⟩ hR) ⟨sv_blind, hrec, sv_pre (wd0 := wd) (sx := sx) hK hE (sv_sxu hE hX hsx) rfl hP hD hS hf⟩ rfl hn g5.1 hst (lv_room hw) hd hcs) hS hf (fun H1 locs1 k1 k2 k3 k4 k5 k6 => kk H1 locs1 ls k1 k2 k3 k6 g5)
/-- invokestatic -/
theorem sv_callS (C : sv_C E X cc own sx) (L : sv_MS own index y cb mL rt n) (M : sv_Met (sv_l X) E y cb mL rt fr lo sx' As wd sz res wd' sz' mc ms) (hsx : sv_sxs E sx sx') (hn : As.length = n) (hst : st = As.reverse ++ rest) (hw : (rest.map fun v => v.category).sum ≤ 8)
    (hR : fr + 1 ≤ (sv_R X).frames ∧ 8 + (mL + 11) + lo ≤ (sv_R X).locals) (hcs : ce + mc ≤ (sv_R X).cells ∧ sl + ms ≤ (sv_R X).slots) (hd : decode cc pc = .ok (.invokestatic index, 3)) (kk : sv_J E X wd' sz' (ce + mc) (sl + ms) (pc + 3) lv (res.toList ++ rest)) : sv_J E X wd sz ce sl pc lv st := by
  obtain ⟨p, l, e, R, s, m, args, below, meth, c, Q, A, nL⟩ := X
  obtain ⟨S, hK, hlk, hA, hE, hX⟩ := C
  intro H locs ls g1 hP hD hS g5
  subst g1
  have hf := sv_free hA hD hS
  have hgood : GoodIn sv_w (Cond.code y cb mL rt :: sv_w) := sv_gds (fun w hw => by
    rcases List.mem_cons.mp hw with rfl | hw
    · exact L.1.2.2.2
    · exact hw)
  refine sv_cont (va_runS (As := As) (rest := rest) S M ⟨callB_of n S.2.2.2.2 hgood rfl rfl rfl (S.2.2.2.2 _ L.1.2.2.1) (S.2.2.2.2 _ L.1.1) L.2 hR, S.2.2.2.2 _ L.1.2.1⟩ ⟨sv_blind, sv_pre (wd0 := wd) (sx := sx) hK hE (sv_sxu hE hX hsx) rfl hP hD hS hf⟩ rfl hn g5.1 hst (lv_room hw) hd hcs) hS hf (fun H1 locs1 k1 k2 k3 k4 k5 k6 => kk H1 locs1 ls k1 k2 k3 k6 g5)
end SVD
end
section
/-! ===== the reference's world: one object and its arrays; md_B: int fields by slot, arrays by the slot of the field that holds them ===== -/
abbrev md_B : Type := (Nat → Int32) × (Nat → Nat → Int32)
def md_arr : List (Nat × Nat × Nat) := [(1, 1, 2000), (3, 1, 200), (6, 1, 79), (10, 1, 9), (11, 1, 80), (12, 1, 80), (15, 1, 18), (16, 1, 18), (21, 1, 11), (22, 1, 11), (23, 1, 11), (24, 2, 35640), (25, 2, 3240), (29, 1, 960), (30, 1, 2400), (31, 1, 120), (35, 2, 424)]
def md_ref (k : Nat) : Bool := k == 1 || k == 3 || k == 6 || k == 10 || k == 11 || k == 12 || k == 15 || k == 16 || k == 21 || k == 22 || k == 23 || k == 24 || k == 25 || k == 29 || k == 30 || k == 31 || k == 35
def md_fs (ad : Nat → Nat) (F : Nat → Int32) : List Value := (List.range 38).map (fun k => if md_ref k = true then .ref (ad k) else .int (F k))
def md_w (E : sv_E) (h0 : Nat) (ad : Nat → Nat) (B : md_B) : va_W := (h0, .inr (9, md_fs ad B.1)) :: md_arr.map (fun q => (ad q.1, .inl (E.2.1 q.2.1, q.2.2, .inl (B.2 q.1))))
/-- a field, a place of an array: set -/
def md_pf (B : md_B) (k : Nat) (v : Int32) : md_B := (upd B.1 k v, B.2)
def md_pa (B : md_B) (k : Nat) (i : Int32) (v : Int32) : md_B := (B.1, fun j => if j = k then upd (B.2 k) i.toNatClampNeg v else B.2 j)
theorem md_fs_i {ad : Nat → Nat} {F : Nat → Int32} {k : Nat} (h : md_ref k = false) (hk : k < 38) : (md_fs ad F)[k]? = some (.int (F k)) := by
  simp [md_fs, List.getElem?_map, List.getElem?_range hk, h]
theorem md_fs_r {ad : Nat → Nat} {F : Nat → Int32} {k : Nat} (h : md_ref k = true) (hk : k < 38) : (md_fs ad F)[k]? = some (.ref (ad k)) := by
  simp [md_fs, List.getElem?_map, List.getElem?_range hk, h]
theorem md_fs_s {ad : Nat → Nat} {F : Nat → Int32} {k : Nat} {v : Int32} (h : md_ref k = false) : (md_fs ad F).set k (.int v) = md_fs ad (upd F k v) := by
  apply List.ext_getElem?
  intro j
  rw [List.getElem?_set]
  by_cases hj : k = j
  · subst hj
    by_cases hk : k < 38
    · rw [md_fs_i h hk]
      simp [md_fs, hk, upd, h]
    · simp [md_fs, hk]
  · rw [if_neg hj]
    simp only [md_fs, List.getElem?_map]
    by_cases hk : j < 38
    · rw [List.getElem?_range hk]
      simp [upd, Ne.symm hj]
    · simp [hk]
theorem md_fs_l {ad : Nat → Nat} {F : Nat → Int32} : (md_fs ad F).length = 38 := by simp [md_fs]
theorem md_set_f {E : sv_E} {h0 : Nat} {ad : Nat → Nat} {B : md_B} {k : Nat} {v : Int32} (h : md_ref k = false) : (md_w E h0 ad B).set 0 (h0, .inr (9, (md_fs ad B.1).set k (.int v))) = md_w E h0 ad (md_pf B k v) := by
  simp [md_w, md_pf, md_fs_s h]
theorem md_at {E : sv_E} {h0 : Nat} {ad : Nat → Nat} {B : md_B} {j k t n : Nat} (h : md_arr[j]? = some (k, t, n)) : (md_w E h0 ad B)[j + 1]? = some (ad k, .inl (E.2.1 t, n, .inl (B.2 k))) := by
  simp [md_w, List.getElem?_map, h]
theorem md_one : ∀ i, i < 17 → ∀ j, j < 17 → (md_arr[i]?).map (fun q => q.1) = (md_arr[j]?).map (fun q => q.1) → i = j := by decide
theorem md_set_a {E : sv_E} {h0 : Nat} {ad : Nat → Nat} {B : md_B} {j k t n : Nat} {f : Nat → Int32} (h : md_arr[j]? = some (k, t, n)) : (md_w E h0 ad B).set (j + 1) (ad k, .inl (E.2.1 t, n, .inl f)) = md_w E h0 ad (B.1, fun i => if i = k then f else B.2 i) := by
  have hj : j < 17 := (List.getElem?_eq_some_iff.mp h).1
  simp only [md_w, List.set_cons_succ]
  congr 1
  apply List.ext_getElem?
  intro i
  rw [List.getElem?_set]
  by_cases hi : j = i
  · subst hi
    rw [if_pos rfl, if_pos (by rw [List.length_map]; exact hj), List.getElem?_map, h]
    simp
  · rw [if_neg hi, List.getElem?_map, List.getElem?_map]
    cases hq : md_arr[i]? with
    | none => rfl
    | some q =>
      have hi2 : i < 17 := (List.getElem?_eq_some_iff.mp hq).1
      have hne : q.1 ≠ k := fun e => hi (md_one j hj i hi2 (by rw [h, hq]; simp [e]))
      simp [hne]
section MDR
variable {E : sv_E} {X : sv_X} {cc : ByteArray} {own : String} {sx : List (Nat × Nat × List Int32)} {h0 : Nat} {ad : Nat → Nat} {B : md_B} {sz ce sl pc : Nat} {lv lv' : List (Nat × Value)} {st : List Value}
theorem md_geti {index k : Nat} {fin : Bool} {ty : FieldType} (C : sv_C E X cc own sx) (hF : sv_FL own index 9 k fin ty) (hk : (!md_ref k && decide (k < 38)) = true) (hd : decode cc pc = .ok (.getfield index, 3)) (kk : sv_J E X (md_w E h0 ad B) sz ce sl (pc + 3) lv (.int (B.1 k) :: st)) : sv_J E X (md_w E h0 ad B) sz ce sl pc lv (.ref h0 :: st) := by
  simp only [Bool.and_eq_true, Bool.not_eq_true', decide_eq_true_eq] at hk
  exact sv_getf C hF 0 rfl (md_fs_i hk.1 hk.2) hd kk
theorem md_getr {index k : Nat} {fin : Bool} {ty : FieldType} (C : sv_C E X cc own sx) (hF : sv_FL own index 9 k fin ty) (hk : (md_ref k && decide (k < 38)) = true) (hd : decode cc pc = .ok (.getfield index, 3)) (kk : sv_J E X (md_w E h0 ad B) sz ce sl (pc + 3) lv (.ref (ad k) :: st)) : sv_J E X (md_w E h0 ad B) sz ce sl pc lv (.ref h0 :: st) := by
  simp only [Bool.and_eq_true, decide_eq_true_eq] at hk
  exact sv_getf C hF 0 rfl (md_fs_r hk.1 hk.2) hd kk
theorem md_puti {index k : Nat} {ty : FieldType} {v : Int32} (C : sv_C E X cc own sx) (hF : sv_FL own index 9 k false ty) (hk : (!md_ref k && decide (k < 38)) = true) (hn : narrow ty (.int v) = .int v) (hfit : fits ty (.int v) = true) (hd : decode cc pc = .ok (.putfield index, 3)) (kk : sv_J E X (md_w E h0 ad (md_pf B k v)) sz ce sl (pc + 3) lv st) : sv_J E X (md_w E h0 ad B) sz ce sl pc lv (.int v :: .ref h0 :: st) := by
  simp only [Bool.and_eq_true, Bool.not_eq_true', decide_eq_true_eq] at hk
  refine sv_putf C hF 0 rfl hn hfit (by rw [md_fs_l]; exact hk.2) hd ?_
  rw [md_set_f hk.1]
  exact kk
theorem md_iald {k n : Nat} {i : Int32} (C : sv_C E X cc own sx) (j : Nat) (hj : md_arr[j]? = some (k, 1, n)) (hin : sv_inb i n = true) (hd : decode cc pc = .ok (.iaload, 1)) (kk : sv_J E X (md_w E h0 ad B) sz ce sl (pc + 1) lv (.int (B.2 k i.toNatClampNeg) :: st)) : sv_J E X (md_w E h0 ad B) sz ce sl pc lv (.int i :: .ref (ad k) :: st) := sv_iald C (j + 1) (md_at hj) hin hd kk
theorem md_zald {k n : Nat} {i : Int32} (C : sv_C E X cc own sx) (j : Nat) (hj : md_arr[j]? = some (k, 2, n)) (hin : sv_inb i n = true) (hd : decode cc pc = .ok (.baload, 1)) (kk : sv_J E X (md_w E h0 ad B) sz ce sl (pc + 1) lv (.int (B.2 k i.toNatClampNeg) :: st)) : sv_J E X (md_w E h0 ad B) sz ce sl pc lv (.int i :: .ref (ad k) :: st) := sv_zald C (j + 1) (md_at hj) hin hd kk
theorem md_iast {k n : Nat} {i x : Int32} (C : sv_C E X cc own sx) (j : Nat) (hj : md_arr[j]? = some (k, 1, n)) (hin : sv_inb i n = true) (hd : decode cc pc = .ok (.iastore, 1)) (kk : sv_J E X (md_w E h0 ad (md_pa B k i x)) sz ce sl (pc + 1) lv st) : sv_J E X (md_w E h0 ad B) sz ce sl pc lv (.int x :: .int i :: .ref (ad k) :: st) := by
  refine sv_iast C (j + 1) (md_at hj) hin hd ?_
  rw [md_set_a hj]
  exact kk
theorem md_zast {k n : Nat} {i x : Int32} (C : sv_C E X cc own sx) (j : Nat) (hj : md_arr[j]? = some (k, 2, n)) (hin : sv_inb i n = true) (hd : decode cc pc = .ok (.bastore, 1)) (kk : sv_J E X (md_w E h0 ad (md_pa B k i (vp_nar .boolean x))) sz ce sl (pc + 1) lv st) : sv_J E X (md_w E h0 ad B) sz ce sl pc lv (.int x :: .int i :: .ref (ad k) :: st) := by
  refine sv_zast C (j + 1) (md_at hj) hin hd ?_
  rw [md_set_a hj]
  exact kk
end MDR
/-! ===== pure functions that may fail: guards ===== -/
/-- fails unless b -/
def sv_g {α : Type} (b : Bool) (x : Option α) : Option α := if b = true then x else none
theorem sv_g_some {α : Type} {b : Bool} {x : Option α} {y : α} (h : sv_g b x = some y) : b = true ∧ x = some y := by
  unfold sv_g at h
  split at h
  · exact ⟨by assumption, h⟩
  · cases h
theorem sv_g_t {α : Type} {b : Bool} {x : Option α} (h : b = true) : sv_g b x = x := if_pos h
theorem sv_bind_some {α β : Type} {x : Option α} {f : α → Option β} {y : β} (h : x.bind f = some y) : ∃ a, x = some a ∧ f a = some y := by
  cases x with
  | none => cases h
  | some a => exact ⟨a, rfl, h⟩
theorem sv_if_t {α : Type} {c : Prop} [Decidable c] {a b : Option α} {y : α} (h : c) (e : (if c then a else b) = some y) : a = some y := by rw [if_pos h] at e; exact e
theorem sv_if_f {α : Type} {c : Prop} [Decidable c] {a b : Option α} {y : α} (h : ¬ c) (e : (if c then a else b) = some y) : b = some y := by rw [if_neg h] at e; exact e
/-- how often a loop may turn -/
def sv_fu : Nat := 100000
end
section
theorem sv_dummy : True := trivial
end
