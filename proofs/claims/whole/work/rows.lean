section
-- ===== PART A: goes FIRST, ahead of the names: the tables' words, and 'selects' of the private methods out of them =====
/-- a private method of a class that the tables say can be made, by its rows of tables_1 -/
def lw_okq (q : MethodName × Nat) : Prop := (q.1.cls ≠ "java/lang/invoke/MethodHandle" ∧ q.1.cls ≠ "java/lang/invoke/VarHandle") ∧ Cond.instantiable q.1.cls q.2 ∈ tables_1 ∧ Cond.privateMethod q.1 ∈ tables_1 ∧ Cond.instanceMethod q.1 ∈ tables_1
theorem lw_p0 : lw_okq (⟨"SeaReceiver$Sentence", "begin", "(I)I"⟩, 6) := ⟨⟨by decide +kernel, by decide +kernel⟩, List.mem_of_getElem? (i := 48) (by decide +kernel), List.mem_of_getElem? (i := 234) (by decide +kernel), List.mem_of_getElem? (i := 235) (by decide +kernel)⟩
theorem lw_p1 : lw_okq (⟨"SeaReceiver$Sentence", "step", "(ZI)I"⟩, 6) := ⟨⟨by decide +kernel, by decide +kernel⟩, List.mem_of_getElem? (i := 48) (by decide +kernel), List.mem_of_getElem? (i := 238) (by decide +kernel), List.mem_of_getElem? (i := 239) (by decide +kernel)⟩
theorem lw_p2 : lw_okq (⟨"SeaReceiver$Sentence", "store", "(I)I"⟩, 6) := ⟨⟨by decide +kernel, by decide +kernel⟩, List.mem_of_getElem? (i := 48) (by decide +kernel), List.mem_of_getElem? (i := 242) (by decide +kernel), List.mem_of_getElem? (i := 243) (by decide +kernel)⟩
theorem lw_p3 : lw_okq (⟨"SeaReceiver$Sentence", "hearDigit", "(II)I"⟩, 6) := ⟨⟨by decide +kernel, by decide +kernel⟩, List.mem_of_getElem? (i := 48) (by decide +kernel), List.mem_of_getElem? (i := 246) (by decide +kernel), List.mem_of_getElem? (i := 247) (by decide +kernel)⟩
theorem lw_p4 : lw_okq (⟨"SeaReceiver", "judge", "()I"⟩, 10) := ⟨⟨by decide +kernel, by decide +kernel⟩, List.mem_of_getElem? (i := 24) (by decide +kernel), List.mem_of_getElem? (i := 250) (by decide +kernel), List.mem_of_getElem? (i := 251) (by decide +kernel)⟩
theorem lw_p5 : lw_okq (⟨"SeaReceiver$Fields", "to", "(I)I"⟩, 4) := ⟨⟨by decide +kernel, by decide +kernel⟩, List.mem_of_getElem? (i := 77) (by decide +kernel), List.mem_of_getElem? (i := 267) (by decide +kernel), List.mem_of_getElem? (i := 268) (by decide +kernel)⟩
theorem lw_p6 : lw_okq (⟨"SeaReceiver$Fields", "isForm", "(Ljava/lang/String;)Z"⟩, 4) := ⟨⟨by decide +kernel, by decide +kernel⟩, List.mem_of_getElem? (i := 77) (by decide +kernel), List.mem_of_getElem? (i := 272) (by decide +kernel), List.mem_of_getElem? (i := 273) (by decide +kernel)⟩
theorem lw_p7 : lw_okq (⟨"SeaReceiver$Fields", "from", "(I)I"⟩, 4) := ⟨⟨by decide +kernel, by decide +kernel⟩, List.mem_of_getElem? (i := 77) (by decide +kernel), List.mem_of_getElem? (i := 332) (by decide +kernel), List.mem_of_getElem? (i := 333) (by decide +kernel)⟩
theorem lw_p8 : lw_okq (⟨"SeaReceiver$Fields", "digits", "(IIIIII)I"⟩, 4) := ⟨⟨by decide +kernel, by decide +kernel⟩, List.mem_of_getElem? (i := 77) (by decide +kernel), List.mem_of_getElem? (i := 337) (by decide +kernel), List.mem_of_getElem? (i := 338) (by decide +kernel)⟩
theorem lw_p9 : lw_okq (⟨"SeaReceiver$Fields", "digitAt", "(I)I"⟩, 4) := ⟨⟨by decide +kernel, by decide +kernel⟩, List.mem_of_getElem? (i := 77) (by decide +kernel), List.mem_of_getElem? (i := 341) (by decide +kernel), List.mem_of_getElem? (i := 342) (by decide +kernel)⟩
theorem lw_p10 : lw_okq (⟨"SeaReceiver$Fields", "wrong", "()I"⟩, 4) := ⟨⟨by decide +kernel, by decide +kernel⟩, List.mem_of_getElem? (i := 77) (by decide +kernel), List.mem_of_getElem? (i := 345) (by decide +kernel), List.mem_of_getElem? (i := 346) (by decide +kernel)⟩
theorem lw_p11 : lw_okq (⟨"SeaReceiver$Fields", "at", "(I)I"⟩, 4) := ⟨⟨by decide +kernel, by decide +kernel⟩, List.mem_of_getElem? (i := 77) (by decide +kernel), List.mem_of_getElem? (i := 349) (by decide +kernel), List.mem_of_getElem? (i := 350) (by decide +kernel)⟩
theorem lw_p12 : lw_okq (⟨"SeaReceiver$Fields", "angle", "(III)I"⟩, 4) := ⟨⟨by decide +kernel, by decide +kernel⟩, List.mem_of_getElem? (i := 77) (by decide +kernel), List.mem_of_getElem? (i := 362) (by decide +kernel), List.mem_of_getElem? (i := 363) (by decide +kernel)⟩
theorem lw_p13 : lw_okq (⟨"SeaReceiver$Fields", "onSide", "(IIII)I"⟩, 4) := ⟨⟨by decide +kernel, by decide +kernel⟩, List.mem_of_getElem? (i := 77) (by decide +kernel), List.mem_of_getElem? (i := 368) (by decide +kernel), List.mem_of_getElem? (i := 369) (by decide +kernel)⟩
theorem lw_p14 : lw_okq (⟨"SeaReceiver$Position", "settle", "(Z[I)Z"⟩, 2) := ⟨⟨by decide +kernel, by decide +kernel⟩, List.mem_of_getElem? (i := 100) (by decide +kernel), List.mem_of_getElem? (i := 400) (by decide +kernel), List.mem_of_getElem? (i := 401) (by decide +kernel)⟩
theorem lw_p15 : lw_okq (⟨"SeaReceiver", "takePart", "()Z"⟩, 10) := ⟨⟨by decide +kernel, by decide +kernel⟩, List.mem_of_getElem? (i := 24) (by decide +kernel), List.mem_of_getElem? (i := 503) (by decide +kernel), List.mem_of_getElem? (i := 504) (by decide +kernel)⟩
def lw_privs_1 : List (MethodName × Nat) := [(⟨"SeaReceiver$Sentence", "begin", "(I)I"⟩, 6), (⟨"SeaReceiver$Sentence", "step", "(ZI)I"⟩, 6), (⟨"SeaReceiver$Sentence", "store", "(I)I"⟩, 6), (⟨"SeaReceiver$Sentence", "hearDigit", "(II)I"⟩, 6), (⟨"SeaReceiver", "judge", "()I"⟩, 10), (⟨"SeaReceiver$Fields", "to", "(I)I"⟩, 4), (⟨"SeaReceiver$Fields", "isForm", "(Ljava/lang/String;)Z"⟩, 4), (⟨"SeaReceiver$Fields", "from", "(I)I"⟩, 4), (⟨"SeaReceiver$Fields", "digits", "(IIIIII)I"⟩, 4), (⟨"SeaReceiver$Fields", "digitAt", "(I)I"⟩, 4), (⟨"SeaReceiver$Fields", "wrong", "()I"⟩, 4), (⟨"SeaReceiver$Fields", "at", "(I)I"⟩, 4), (⟨"SeaReceiver$Fields", "angle", "(III)I"⟩, 4), (⟨"SeaReceiver$Fields", "onSide", "(IIII)I"⟩, 4), (⟨"SeaReceiver$Position", "settle", "(Z[I)Z"⟩, 2), (⟨"SeaReceiver", "takePart", "()Z"⟩, 10)]
theorem lw_r1 : ∀ q ∈ lw_privs_1, lw_okq q := List.forall_mem_cons.mpr ⟨lw_p0, List.forall_mem_cons.mpr ⟨lw_p1, List.forall_mem_cons.mpr ⟨lw_p2, List.forall_mem_cons.mpr ⟨lw_p3, List.forall_mem_cons.mpr ⟨lw_p4, List.forall_mem_cons.mpr ⟨lw_p5, List.forall_mem_cons.mpr ⟨lw_p6, List.forall_mem_cons.mpr ⟨lw_p7, List.forall_mem_cons.mpr ⟨lw_p8, List.forall_mem_cons.mpr ⟨lw_p9, List.forall_mem_cons.mpr ⟨lw_p10, List.forall_mem_cons.mpr ⟨lw_p11, List.forall_mem_cons.mpr ⟨lw_p12, List.forall_mem_cons.mpr ⟨lw_p13, List.forall_mem_cons.mpr ⟨lw_p14, List.forall_mem_cons.mpr ⟨lw_p15, fun _ h => absurd h List.not_mem_nil⟩⟩⟩⟩⟩⟩⟩⟩⟩⟩⟩⟩⟩⟩⟩⟩
theorem lw_p16 : lw_okq (⟨"SeaReceiver", "isInOrder", "(III)Z"⟩, 10) := ⟨⟨by decide +kernel, by decide +kernel⟩, List.mem_of_getElem? (i := 24) (by decide +kernel), List.mem_of_getElem? (i := 515) (by decide +kernel), List.mem_of_getElem? (i := 516) (by decide +kernel)⟩
theorem lw_p17 : lw_okq (⟨"SeaReceiver", "receive", "()V"⟩, 10) := ⟨⟨by decide +kernel, by decide +kernel⟩, List.mem_of_getElem? (i := 24) (by decide +kernel), List.mem_of_getElem? (i := 549) (by decide +kernel), List.mem_of_getElem? (i := 550) (by decide +kernel)⟩
theorem lw_p18 : lw_okq (⟨"SeaReceiver$Vessel", "learnText", "(ILSeaReceiver$BitRow;II)V"⟩, 3) := ⟨⟨by decide +kernel, by decide +kernel⟩, List.mem_of_getElem? (i := 569) (by decide +kernel), List.mem_of_getElem? (i := 609) (by decide +kernel), List.mem_of_getElem? (i := 610) (by decide +kernel)⟩
theorem lw_p19 : lw_okq (⟨"java/lang/Throwable", "fillInStackTrace", "(I)Ljava/lang/Throwable;"⟩, 6) := ⟨⟨by decide +kernel, by decide +kernel⟩, List.mem_of_getElem? (i := 719) (by decide +kernel), List.mem_of_getElem? (i := 717) (by decide +kernel), List.mem_of_getElem? (i := 718) (by decide +kernel)⟩
theorem lw_p20 : lw_okq (⟨"SeaReceiver$Vessel", "tellText", "(ILSeaReceiver$BitRow;I)V"⟩, 3) := ⟨⟨by decide +kernel, by decide +kernel⟩, List.mem_of_getElem? (i := 569) (by decide +kernel), List.mem_of_getElem? (i := 796) (by decide +kernel), List.mem_of_getElem? (i := 797) (by decide +kernel)⟩
theorem lw_p21 : lw_okq (⟨"SeaReceiver", "writeSentence", "(Ljava/lang/String;III)V"⟩, 10) := ⟨⟨by decide +kernel, by decide +kernel⟩, List.mem_of_getElem? (i := 24) (by decide +kernel), List.mem_of_getElem? (i := 802) (by decide +kernel), List.mem_of_getElem? (i := 803) (by decide +kernel)⟩
theorem lw_p22 : lw_okq (⟨"SeaReceiver", "closeSentence", "(I)V"⟩, 10) := ⟨⟨by decide +kernel, by decide +kernel⟩, List.mem_of_getElem? (i := 24) (by decide +kernel), List.mem_of_getElem? (i := 814) (by decide +kernel), List.mem_of_getElem? (i := 815) (by decide +kernel)⟩
theorem lw_p23 : lw_okq (⟨"SeaReceiverModel", "forget", "()V"⟩, 38) := ⟨⟨by decide +kernel, by decide +kernel⟩, List.mem_of_getElem? (i := 827) (by decide +kernel), List.mem_of_getElem? (i := 834) (by decide +kernel), List.mem_of_getElem? (i := 835) (by decide +kernel)⟩
theorem lw_p24 : lw_okq (⟨"SeaReceiverModel", "comes", "(I)V"⟩, 38) := ⟨⟨by decide +kernel, by decide +kernel⟩, List.mem_of_getElem? (i := 827) (by decide +kernel), List.mem_of_getElem? (i := 970) (by decide +kernel), List.mem_of_getElem? (i := 971) (by decide +kernel)⟩
theorem lw_p25 : lw_okq (⟨"SeaReceiverModel", "ended", "()V"⟩, 38) := ⟨⟨by decide +kernel, by decide +kernel⟩, List.mem_of_getElem? (i := 827) (by decide +kernel), List.mem_of_getElem? (i := 983) (by decide +kernel), List.mem_of_getElem? (i := 984) (by decide +kernel)⟩
theorem lw_p26 : lw_okq (⟨"SeaReceiverModel", "form", "()I"⟩, 38) := ⟨⟨by decide +kernel, by decide +kernel⟩, List.mem_of_getElem? (i := 827) (by decide +kernel), List.mem_of_getElem? (i := 987) (by decide +kernel), List.mem_of_getElem? (i := 988) (by decide +kernel)⟩
theorem lw_p27 : lw_okq (⟨"SeaReceiverModel", "ends", "(Ljava/lang/String;)Z"⟩, 38) := ⟨⟨by decide +kernel, by decide +kernel⟩, List.mem_of_getElem? (i := 827) (by decide +kernel), List.mem_of_getElem? (i := 993) (by decide +kernel), List.mem_of_getElem? (i := 994) (by decide +kernel)⟩
theorem lw_p28 : lw_okq (⟨"SeaReceiverModel", "fits", "(I)Z"⟩, 38) := ⟨⟨by decide +kernel, by decide +kernel⟩, List.mem_of_getElem? (i := 827) (by decide +kernel), List.mem_of_getElem? (i := 1002) (by decide +kernel), List.mem_of_getElem? (i := 1003) (by decide +kernel)⟩
theorem lw_p29 : lw_okq (⟨"SeaReceiverModel", "gga", "()V"⟩, 38) := ⟨⟨by decide +kernel, by decide +kernel⟩, List.mem_of_getElem? (i := 827) (by decide +kernel), List.mem_of_getElem? (i := 1006) (by decide +kernel), List.mem_of_getElem? (i := 1007) (by decide +kernel)⟩
theorem lw_p30 : lw_okq (⟨"SeaReceiverModel", "time", "(I)I"⟩, 38) := ⟨⟨by decide +kernel, by decide +kernel⟩, List.mem_of_getElem? (i := 827) (by decide +kernel), List.mem_of_getElem? (i := 1010) (by decide +kernel), List.mem_of_getElem? (i := 1011) (by decide +kernel)⟩
theorem lw_p31 : lw_okq (⟨"SeaReceiverModel", "size", "(I)I"⟩, 38) := ⟨⟨by decide +kernel, by decide +kernel⟩, List.mem_of_getElem? (i := 827) (by decide +kernel), List.mem_of_getElem? (i := 1014) (by decide +kernel), List.mem_of_getElem? (i := 1015) (by decide +kernel)⟩
def lw_privs_2 : List (MethodName × Nat) := [(⟨"SeaReceiver", "isInOrder", "(III)Z"⟩, 10), (⟨"SeaReceiver", "receive", "()V"⟩, 10), (⟨"SeaReceiver$Vessel", "learnText", "(ILSeaReceiver$BitRow;II)V"⟩, 3), (⟨"java/lang/Throwable", "fillInStackTrace", "(I)Ljava/lang/Throwable;"⟩, 6), (⟨"SeaReceiver$Vessel", "tellText", "(ILSeaReceiver$BitRow;I)V"⟩, 3), (⟨"SeaReceiver", "writeSentence", "(Ljava/lang/String;III)V"⟩, 10), (⟨"SeaReceiver", "closeSentence", "(I)V"⟩, 10), (⟨"SeaReceiverModel", "forget", "()V"⟩, 38), (⟨"SeaReceiverModel", "comes", "(I)V"⟩, 38), (⟨"SeaReceiverModel", "ended", "()V"⟩, 38), (⟨"SeaReceiverModel", "form", "()I"⟩, 38), (⟨"SeaReceiverModel", "ends", "(Ljava/lang/String;)Z"⟩, 38), (⟨"SeaReceiverModel", "fits", "(I)Z"⟩, 38), (⟨"SeaReceiverModel", "gga", "()V"⟩, 38), (⟨"SeaReceiverModel", "time", "(I)I"⟩, 38), (⟨"SeaReceiverModel", "size", "(I)I"⟩, 38)]
theorem lw_r2 : ∀ q ∈ lw_privs_2, lw_okq q := List.forall_mem_cons.mpr ⟨lw_p16, List.forall_mem_cons.mpr ⟨lw_p17, List.forall_mem_cons.mpr ⟨lw_p18, List.forall_mem_cons.mpr ⟨lw_p19, List.forall_mem_cons.mpr ⟨lw_p20, List.forall_mem_cons.mpr ⟨lw_p21, List.forall_mem_cons.mpr ⟨lw_p22, List.forall_mem_cons.mpr ⟨lw_p23, List.forall_mem_cons.mpr ⟨lw_p24, List.forall_mem_cons.mpr ⟨lw_p25, List.forall_mem_cons.mpr ⟨lw_p26, List.forall_mem_cons.mpr ⟨lw_p27, List.forall_mem_cons.mpr ⟨lw_p28, List.forall_mem_cons.mpr ⟨lw_p29, List.forall_mem_cons.mpr ⟨lw_p30, List.forall_mem_cons.mpr ⟨lw_p31, fun _ h => absurd h List.not_mem_nil⟩⟩⟩⟩⟩⟩⟩⟩⟩⟩⟩⟩⟩⟩⟩⟩
theorem lw_p32 : lw_okq (⟨"SeaReceiverModel", "digits", "(II)I"⟩, 38) := ⟨⟨by decide +kernel, by decide +kernel⟩, List.mem_of_getElem? (i := 827) (by decide +kernel), List.mem_of_getElem? (i := 1018) (by decide +kernel), List.mem_of_getElem? (i := 1019) (by decide +kernel)⟩
theorem lw_p33 : lw_okq (⟨"SeaReceiverModel", "at", "(II)I"⟩, 38) := ⟨⟨by decide +kernel, by decide +kernel⟩, List.mem_of_getElem? (i := 827) (by decide +kernel), List.mem_of_getElem? (i := 1022) (by decide +kernel), List.mem_of_getElem? (i := 1023) (by decide +kernel)⟩
theorem lw_p34 : lw_okq (⟨"SeaReceiverModel", "bad", "()I"⟩, 38) := ⟨⟨by decide +kernel, by decide +kernel⟩, List.mem_of_getElem? (i := 827) (by decide +kernel), List.mem_of_getElem? (i := 1029) (by decide +kernel), List.mem_of_getElem? (i := 1030) (by decide +kernel)⟩
theorem lw_p35 : lw_okq (⟨"SeaReceiverModel", "whole", "(III)I"⟩, 38) := ⟨⟨by decide +kernel, by decide +kernel⟩, List.mem_of_getElem? (i := 827) (by decide +kernel), List.mem_of_getElem? (i := 1033) (by decide +kernel), List.mem_of_getElem? (i := 1034) (by decide +kernel)⟩
theorem lw_p36 : lw_okq (⟨"SeaReceiverModel", "behind", "(IIII)I"⟩, 38) := ⟨⟨by decide +kernel, by decide +kernel⟩, List.mem_of_getElem? (i := 827) (by decide +kernel), List.mem_of_getElem? (i := 1037) (by decide +kernel), List.mem_of_getElem? (i := 1038) (by decide +kernel)⟩
theorem lw_p37 : lw_okq (⟨"SeaReceiverModel", "place", "(IIILjava/lang/String;)I"⟩, 38) := ⟨⟨by decide +kernel, by decide +kernel⟩, List.mem_of_getElem? (i := 827) (by decide +kernel), List.mem_of_getElem? (i := 1042) (by decide +kernel), List.mem_of_getElem? (i := 1043) (by decide +kernel)⟩
theorem lw_p38 : lw_okq (⟨"SeaReceiverModel", "sided", "(IILjava/lang/String;)I"⟩, 38) := ⟨⟨by decide +kernel, by decide +kernel⟩, List.mem_of_getElem? (i := 827) (by decide +kernel), List.mem_of_getElem? (i := 1047) (by decide +kernel), List.mem_of_getElem? (i := 1048) (by decide +kernel)⟩
theorem lw_p39 : lw_okq (⟨"SeaReceiverModel", "one", "(ILjava/lang/String;)I"⟩, 38) := ⟨⟨by decide +kernel, by decide +kernel⟩, List.mem_of_getElem? (i := 827) (by decide +kernel), List.mem_of_getElem? (i := 1051) (by decide +kernel), List.mem_of_getElem? (i := 1052) (by decide +kernel)⟩
theorem lw_p40 : lw_okq (⟨"SeaReceiverModel", "number", "(II)I"⟩, 38) := ⟨⟨by decide +kernel, by decide +kernel⟩, List.mem_of_getElem? (i := 827) (by decide +kernel), List.mem_of_getElem? (i := 1057) (by decide +kernel), List.mem_of_getElem? (i := 1058) (by decide +kernel)⟩
theorem lw_p41 : lw_okq (⟨"SeaReceiverModel", "decimal", "(IIIZ)I"⟩, 38) := ⟨⟨by decide +kernel, by decide +kernel⟩, List.mem_of_getElem? (i := 827) (by decide +kernel), List.mem_of_getElem? (i := 1061) (by decide +kernel), List.mem_of_getElem? (i := 1062) (by decide +kernel)⟩
theorem lw_p42 : lw_okq (⟨"SeaReceiverModel", "measured", "(IILjava/lang/String;)I"⟩, 38) := ⟨⟨by decide +kernel, by decide +kernel⟩, List.mem_of_getElem? (i := 827) (by decide +kernel), List.mem_of_getElem? (i := 1069) (by decide +kernel), List.mem_of_getElem? (i := 1070) (by decide +kernel)⟩
theorem lw_p43 : lw_okq (⟨"SeaReceiverModel", "rmc", "()V"⟩, 38) := ⟨⟨by decide +kernel, by decide +kernel⟩, List.mem_of_getElem? (i := 827) (by decide +kernel), List.mem_of_getElem? (i := 1073) (by decide +kernel), List.mem_of_getElem? (i := 1074) (by decide +kernel)⟩
theorem lw_p44 : lw_okq (⟨"SeaReceiverModel", "below", "(II)I"⟩, 38) := ⟨⟨by decide +kernel, by decide +kernel⟩, List.mem_of_getElem? (i := 827) (by decide +kernel), List.mem_of_getElem? (i := 1079) (by decide +kernel), List.mem_of_getElem? (i := 1080) (by decide +kernel)⟩
theorem lw_p45 : lw_okq (⟨"SeaReceiverModel", "date", "(I)I"⟩, 38) := ⟨⟨by decide +kernel, by decide +kernel⟩, List.mem_of_getElem? (i := 827) (by decide +kernel), List.mem_of_getElem? (i := 1083) (by decide +kernel), List.mem_of_getElem? (i := 1084) (by decide +kernel)⟩
theorem lw_p46 : lw_okq (⟨"SeaReceiverModel", "vtg", "()V"⟩, 38) := ⟨⟨by decide +kernel, by decide +kernel⟩, List.mem_of_getElem? (i := 827) (by decide +kernel), List.mem_of_getElem? (i := 1090) (by decide +kernel), List.mem_of_getElem? (i := 1091) (by decide +kernel)⟩
theorem lw_p47 : lw_okq (⟨"SeaReceiverModel", "part", "()V"⟩, 38) := ⟨⟨by decide +kernel, by decide +kernel⟩, List.mem_of_getElem? (i := 827) (by decide +kernel), List.mem_of_getElem? (i := 1097) (by decide +kernel), List.mem_of_getElem? (i := 1098) (by decide +kernel)⟩
def lw_privs_3 : List (MethodName × Nat) := [(⟨"SeaReceiverModel", "digits", "(II)I"⟩, 38), (⟨"SeaReceiverModel", "at", "(II)I"⟩, 38), (⟨"SeaReceiverModel", "bad", "()I"⟩, 38), (⟨"SeaReceiverModel", "whole", "(III)I"⟩, 38), (⟨"SeaReceiverModel", "behind", "(IIII)I"⟩, 38), (⟨"SeaReceiverModel", "place", "(IIILjava/lang/String;)I"⟩, 38), (⟨"SeaReceiverModel", "sided", "(IILjava/lang/String;)I"⟩, 38), (⟨"SeaReceiverModel", "one", "(ILjava/lang/String;)I"⟩, 38), (⟨"SeaReceiverModel", "number", "(II)I"⟩, 38), (⟨"SeaReceiverModel", "decimal", "(IIIZ)I"⟩, 38), (⟨"SeaReceiverModel", "measured", "(IILjava/lang/String;)I"⟩, 38), (⟨"SeaReceiverModel", "rmc", "()V"⟩, 38), (⟨"SeaReceiverModel", "below", "(II)I"⟩, 38), (⟨"SeaReceiverModel", "date", "(I)I"⟩, 38), (⟨"SeaReceiverModel", "vtg", "()V"⟩, 38), (⟨"SeaReceiverModel", "part", "()V"⟩, 38)]
theorem lw_r3 : ∀ q ∈ lw_privs_3, lw_okq q := List.forall_mem_cons.mpr ⟨lw_p32, List.forall_mem_cons.mpr ⟨lw_p33, List.forall_mem_cons.mpr ⟨lw_p34, List.forall_mem_cons.mpr ⟨lw_p35, List.forall_mem_cons.mpr ⟨lw_p36, List.forall_mem_cons.mpr ⟨lw_p37, List.forall_mem_cons.mpr ⟨lw_p38, List.forall_mem_cons.mpr ⟨lw_p39, List.forall_mem_cons.mpr ⟨lw_p40, List.forall_mem_cons.mpr ⟨lw_p41, List.forall_mem_cons.mpr ⟨lw_p42, List.forall_mem_cons.mpr ⟨lw_p43, List.forall_mem_cons.mpr ⟨lw_p44, List.forall_mem_cons.mpr ⟨lw_p45, List.forall_mem_cons.mpr ⟨lw_p46, List.forall_mem_cons.mpr ⟨lw_p47, fun _ h => absurd h List.not_mem_nil⟩⟩⟩⟩⟩⟩⟩⟩⟩⟩⟩⟩⟩⟩⟩⟩
theorem lw_p48 : lw_okq (⟨"SeaReceiverModel", "taken", "(I)V"⟩, 38) := ⟨⟨by decide +kernel, by decide +kernel⟩, List.mem_of_getElem? (i := 827) (by decide +kernel), List.mem_of_getElem? (i := 1106) (by decide +kernel), List.mem_of_getElem? (i := 1107) (by decide +kernel)⟩
theorem lw_p49 : lw_okq (⟨"SeaReceiverModel", "keep", "(II)V"⟩, 38) := ⟨⟨by decide +kernel, by decide +kernel⟩, List.mem_of_getElem? (i := 827) (by decide +kernel), List.mem_of_getElem? (i := 1110) (by decide +kernel), List.mem_of_getElem? (i := 1111) (by decide +kernel)⟩
theorem lw_p50 : lw_okq (⟨"SeaReceiverModel", "parted", "()V"⟩, 38) := ⟨⟨by decide +kernel, by decide +kernel⟩, List.mem_of_getElem? (i := 827) (by decide +kernel), List.mem_of_getElem? (i := 1114) (by decide +kernel), List.mem_of_getElem? (i := 1115) (by decide +kernel)⟩
theorem lw_p51 : lw_okq (⟨"SeaReceiverModel", "message", "()V"⟩, 38) := ⟨⟨by decide +kernel, by decide +kernel⟩, List.mem_of_getElem? (i := 827) (by decide +kernel), List.mem_of_getElem? (i := 1118) (by decide +kernel), List.mem_of_getElem? (i := 1119) (by decide +kernel)⟩
theorem lw_p52 : lw_okq (⟨"SeaReceiverModel", "read", "(II)I"⟩, 38) := ⟨⟨by decide +kernel, by decide +kernel⟩, List.mem_of_getElem? (i := 827) (by decide +kernel), List.mem_of_getElem? (i := 1122) (by decide +kernel), List.mem_of_getElem? (i := 1123) (by decide +kernel)⟩
theorem lw_p53 : lw_okq (⟨"SeaReceiverModel", "found", "(I)I"⟩, 38) := ⟨⟨by decide +kernel, by decide +kernel⟩, List.mem_of_getElem? (i := 827) (by decide +kernel), List.mem_of_getElem? (i := 1127) (by decide +kernel), List.mem_of_getElem? (i := 1128) (by decide +kernel)⟩
theorem lw_p54 : lw_okq (⟨"SeaReceiverModel", "reports", "(II)V"⟩, 38) := ⟨⟨by decide +kernel, by decide +kernel⟩, List.mem_of_getElem? (i := 827) (by decide +kernel), List.mem_of_getElem? (i := 1131) (by decide +kernel), List.mem_of_getElem? (i := 1132) (by decide +kernel)⟩
theorem lw_p55 : lw_okq (⟨"SeaReceiverModel", "go", "(IIZ)V"⟩, 38) := ⟨⟨by decide +kernel, by decide +kernel⟩, List.mem_of_getElem? (i := 827) (by decide +kernel), List.mem_of_getElem? (i := 1135) (by decide +kernel), List.mem_of_getElem? (i := 1136) (by decide +kernel)⟩
theorem lw_p56 : lw_okq (⟨"SeaReceiverModel", "signed", "(II)I"⟩, 38) := ⟨⟨by decide +kernel, by decide +kernel⟩, List.mem_of_getElem? (i := 827) (by decide +kernel), List.mem_of_getElem? (i := 1139) (by decide +kernel), List.mem_of_getElem? (i := 1140) (by decide +kernel)⟩
theorem lw_p57 : lw_okq (⟨"SeaReceiverModel", "put", "(II)V"⟩, 38) := ⟨⟨by decide +kernel, by decide +kernel⟩, List.mem_of_getElem? (i := 827) (by decide +kernel), List.mem_of_getElem? (i := 1143) (by decide +kernel), List.mem_of_getElem? (i := 1144) (by decide +kernel)⟩
theorem lw_p58 : lw_okq (⟨"SeaReceiverModel", "where", "()V"⟩, 38) := ⟨⟨by decide +kernel, by decide +kernel⟩, List.mem_of_getElem? (i := 827) (by decide +kernel), List.mem_of_getElem? (i := 1147) (by decide +kernel), List.mem_of_getElem? (i := 1148) (by decide +kernel)⟩
theorem lw_p59 : lw_okq (⟨"SeaReceiverModel", "way", "()V"⟩, 38) := ⟨⟨by decide +kernel, by decide +kernel⟩, List.mem_of_getElem? (i := 827) (by decide +kernel), List.mem_of_getElem? (i := 1151) (by decide +kernel), List.mem_of_getElem? (i := 1152) (by decide +kernel)⟩
theorem lw_p60 : lw_okq (⟨"SeaReceiverModel", "skip", "(I)V"⟩, 38) := ⟨⟨by decide +kernel, by decide +kernel⟩, List.mem_of_getElem? (i := 827) (by decide +kernel), List.mem_of_getElem? (i := 1155) (by decide +kernel), List.mem_of_getElem? (i := 1156) (by decide +kernel)⟩
theorem lw_p61 : lw_okq (⟨"SeaReceiverModel", "still", "()V"⟩, 38) := ⟨⟨by decide +kernel, by decide +kernel⟩, List.mem_of_getElem? (i := 827) (by decide +kernel), List.mem_of_getElem? (i := 1159) (by decide +kernel), List.mem_of_getElem? (i := 1160) (by decide +kernel)⟩
theorem lw_p62 : lw_okq (⟨"SeaReceiverModel", "words", "(I)V"⟩, 38) := ⟨⟨by decide +kernel, by decide +kernel⟩, List.mem_of_getElem? (i := 827) (by decide +kernel), List.mem_of_getElem? (i := 1163) (by decide +kernel), List.mem_of_getElem? (i := 1164) (by decide +kernel)⟩
theorem lw_p63 : lw_okq (⟨"SeaReceiverModel", "refuse", "(I)I"⟩, 38) := ⟨⟨by decide +kernel, by decide +kernel⟩, List.mem_of_getElem? (i := 827) (by decide +kernel), List.mem_of_getElem? (i := 1180) (by decide +kernel), List.mem_of_getElem? (i := 1181) (by decide +kernel)⟩
def lw_privs_4 : List (MethodName × Nat) := [(⟨"SeaReceiverModel", "taken", "(I)V"⟩, 38), (⟨"SeaReceiverModel", "keep", "(II)V"⟩, 38), (⟨"SeaReceiverModel", "parted", "()V"⟩, 38), (⟨"SeaReceiverModel", "message", "()V"⟩, 38), (⟨"SeaReceiverModel", "read", "(II)I"⟩, 38), (⟨"SeaReceiverModel", "found", "(I)I"⟩, 38), (⟨"SeaReceiverModel", "reports", "(II)V"⟩, 38), (⟨"SeaReceiverModel", "go", "(IIZ)V"⟩, 38), (⟨"SeaReceiverModel", "signed", "(II)I"⟩, 38), (⟨"SeaReceiverModel", "put", "(II)V"⟩, 38), (⟨"SeaReceiverModel", "where", "()V"⟩, 38), (⟨"SeaReceiverModel", "way", "()V"⟩, 38), (⟨"SeaReceiverModel", "skip", "(I)V"⟩, 38), (⟨"SeaReceiverModel", "still", "()V"⟩, 38), (⟨"SeaReceiverModel", "words", "(I)V"⟩, 38), (⟨"SeaReceiverModel", "refuse", "(I)I"⟩, 38)]
theorem lw_r4 : ∀ q ∈ lw_privs_4, lw_okq q := List.forall_mem_cons.mpr ⟨lw_p48, List.forall_mem_cons.mpr ⟨lw_p49, List.forall_mem_cons.mpr ⟨lw_p50, List.forall_mem_cons.mpr ⟨lw_p51, List.forall_mem_cons.mpr ⟨lw_p52, List.forall_mem_cons.mpr ⟨lw_p53, List.forall_mem_cons.mpr ⟨lw_p54, List.forall_mem_cons.mpr ⟨lw_p55, List.forall_mem_cons.mpr ⟨lw_p56, List.forall_mem_cons.mpr ⟨lw_p57, List.forall_mem_cons.mpr ⟨lw_p58, List.forall_mem_cons.mpr ⟨lw_p59, List.forall_mem_cons.mpr ⟨lw_p60, List.forall_mem_cons.mpr ⟨lw_p61, List.forall_mem_cons.mpr ⟨lw_p62, List.forall_mem_cons.mpr ⟨lw_p63, fun _ h => absurd h List.not_mem_nil⟩⟩⟩⟩⟩⟩⟩⟩⟩⟩⟩⟩⟩⟩⟩⟩
theorem lw_p64 : lw_okq (⟨"SeaReceiverModel", "sentence", "(IIIII)V"⟩, 38) := ⟨⟨by decide +kernel, by decide +kernel⟩, List.mem_of_getElem? (i := 827) (by decide +kernel), List.mem_of_getElem? (i := 1208) (by decide +kernel), List.mem_of_getElem? (i := 1209) (by decide +kernel)⟩
theorem lw_p65 : lw_okq (⟨"SeaReceiverModel", "writeAll", "(Ljava/lang/String;)V"⟩, 38) := ⟨⟨by decide +kernel, by decide +kernel⟩, List.mem_of_getElem? (i := 827) (by decide +kernel), List.mem_of_getElem? (i := 1213) (by decide +kernel), List.mem_of_getElem? (i := 1214) (by decide +kernel)⟩
theorem lw_p66 : lw_okq (⟨"SeaReceiverModel", "write", "(I)V"⟩, 38) := ⟨⟨by decide +kernel, by decide +kernel⟩, List.mem_of_getElem? (i := 827) (by decide +kernel), List.mem_of_getElem? (i := 1217) (by decide +kernel), List.mem_of_getElem? (i := 1218) (by decide +kernel)⟩
def lw_privs_5 : List (MethodName × Nat) := [(⟨"SeaReceiverModel", "sentence", "(IIIII)V"⟩, 38), (⟨"SeaReceiverModel", "writeAll", "(Ljava/lang/String;)V"⟩, 38), (⟨"SeaReceiverModel", "write", "(I)V"⟩, 38)]
theorem lw_r5 : ∀ q ∈ lw_privs_5, lw_okq q := List.forall_mem_cons.mpr ⟨lw_p64, List.forall_mem_cons.mpr ⟨lw_p65, List.forall_mem_cons.mpr ⟨lw_p66, fun _ h => absurd h List.not_mem_nil⟩⟩⟩
def lw_privs : List (MethodName × Nat) := lw_privs_1 ++ (lw_privs_2 ++ (lw_privs_3 ++ (lw_privs_4 ++ (lw_privs_5))))
def lw_tbl : List Cond := k2_sels lw_privs ++ tables_1
theorem lw_privs_ok : ∀ q ∈ lw_privs, lw_okq q := by
  show ∀ q ∈ lw_privs_1 ++ (lw_privs_2 ++ (lw_privs_3 ++ (lw_privs_4 ++ (lw_privs_5)))), lw_okq q
  exact List.forall_mem_append.mpr ⟨lw_r1, List.forall_mem_append.mpr ⟨lw_r2, List.forall_mem_append.mpr ⟨lw_r3, List.forall_mem_append.mpr ⟨lw_r4, lw_r5⟩⟩⟩⟩
-- ===== end of PART A; then your names; then what follows =====
end
section
def RX0 : String := "SeaReceiver$BitRow"
def TX0 : u_T := fun k => match k with
  | 0 => ("SeaReceiver$BitRow", "room", "I", true)
  | 1 => ("SeaReceiver$BitRow", "words", "[I", true)
  | _ => ("SeaReceiver$BitRow", "length", "I", false)
def tyX0 : Nat → FieldType := fun k => match k with
  | 0 => .int
  | 1 => .array .int
  | _ => .int
abbrev wsX00 : List Cond := u_ws RX0 TX0 3
theorem nmX0 : ∀ a, a < 3 → ∀ b, b < 3 → a ≠ b → (TX0 a).2.1 ≠ (TX0 b).2.1 := by decide +kernel
theorem tyX0_ok : ∀ k, k < 3 → parseFieldDescriptor (TX0 k).2.2.1 = some (tyX0 k) := by decide +kernel
abbrev cX0_init : ByteArray := prog_2_method_1_code
def yX0_init : MethodName := ⟨RX0, "<init>", "(I)V"⟩
abbrev cX0_empty : ByteArray := prog_2_method_2_code
def yX0_empty : MethodName := ⟨RX0, "empty", "()V"⟩
abbrev cX0_copy : ByteArray := prog_2_method_3_code
def yX0_copy : MethodName := ⟨RX0, "copy", "(LSeaReceiver$BitRow;)V"⟩
abbrev cX0_append : ByteArray := prog_2_method_4_code
def yX0_append : MethodName := ⟨RX0, "append", "(II)V"⟩
abbrev cX0_read : ByteArray := prog_2_method_5_code
def yX0_read : MethodName := ⟨RX0, "read", "(II)I"⟩
def RX1 : String := "SeaReceiver$Fields"
def TX1 : u_T := fun k => match k with
  | 0 => ("SeaReceiver$Fields", "signs", "[B", true)
  | 1 => ("SeaReceiver$Fields", "starts", "[I", true)
  | 2 => ("SeaReceiver$Fields", "many", "I", false)
  | _ => ("SeaReceiver$Fields", "good", "Z", false)
def tyX1 : Nat → FieldType := fun k => match k with
  | 0 => .array .byte
  | 1 => .array .int
  | 2 => .int
  | _ => .boolean
abbrev wsX10 : List Cond := u_ws RX1 TX1 4
theorem nmX1 : ∀ a, a < 4 → ∀ b, b < 4 → a ≠ b → (TX1 a).2.1 ≠ (TX1 b).2.1 := by decide +kernel
theorem tyX1_ok : ∀ k, k < 4 → parseFieldDescriptor (TX1 k).2.2.1 = some (tyX1 k) := by decide +kernel
abbrev cX1_init : ByteArray := prog_3_method_1_code
def yX1_init : MethodName := ⟨RX1, "<init>", "()V"⟩
abbrev cX1_split : ByteArray := prog_3_method_2_code
def yX1_split : MethodName := ⟨RX1, "split", "(LSeaReceiver$Sentence;)V"⟩
abbrev cX1_form : ByteArray := prog_3_method_3_code
def yX1_form : MethodName := ⟨RX1, "form", "(I)I"⟩
abbrev cX1_isForm : ByteArray := prog_3_method_4_code
def yX1_isForm : MethodName := ⟨RX1, "isForm", "(Ljava/lang/String;)Z"⟩
abbrev cX1_isEmpty : ByteArray := prog_3_method_5_code
def yX1_isEmpty : MethodName := ⟨RX1, "isEmpty", "(I)Z"⟩
abbrev cX1_from : ByteArray := prog_3_method_6_code
def yX1_from : MethodName := ⟨RX1, "from", "(I)I"⟩
abbrev cX1_to : ByteArray := prog_3_method_7_code
def yX1_to : MethodName := ⟨RX1, "to", "(I)I"⟩
abbrev cX1_at : ByteArray := prog_3_method_8_code
def yX1_at : MethodName := ⟨RX1, "at", "(I)I"⟩
abbrev cX1_wrong : ByteArray := prog_3_method_9_code
def yX1_wrong : MethodName := ⟨RX1, "wrong", "()I"⟩
abbrev cX1_digit : ByteArray := prog_3_method_10_code
def yX1_digit : MethodName := ⟨RX1, "digit", "(III)I"⟩
abbrev cX1_oneOf : ByteArray := prog_3_method_11_code
def yX1_oneOf : MethodName := ⟨RX1, "oneOf", "(ILjava/lang/String;)I"⟩
abbrev cX1_whole : ByteArray := prog_3_method_12_code
def yX1_whole : MethodName := ⟨RX1, "whole", "(III)I"⟩
abbrev cX1_decimal : ByteArray := prog_3_method_13_code
def yX1_decimal : MethodName := ⟨RX1, "decimal", "(III)I"⟩
abbrev cX1_signed : ByteArray := prog_3_method_14_code
def yX1_signed : MethodName := ⟨RX1, "signed", "(III)I"⟩
abbrev cX1_course : ByteArray := prog_3_method_15_code
def yX1_course : MethodName := ⟨RX1, "course", "(I)I"⟩
abbrev cX1_variation : ByteArray := prog_3_method_16_code
def yX1_variation : MethodName := ⟨RX1, "variation", "(I)I"⟩
abbrev cX1_time : ByteArray := prog_3_method_17_code
def yX1_time : MethodName := ⟨RX1, "time", "(I)I"⟩
abbrev cX1_date : ByteArray := prog_3_method_18_code
def yX1_date : MethodName := ⟨RX1, "date", "(I)I"⟩
abbrev cX1_latitude : ByteArray := prog_3_method_19_code
def yX1_latitude : MethodName := ⟨RX1, "latitude", "(I)I"⟩
abbrev cX1_longitude : ByteArray := prog_3_method_20_code
def yX1_longitude : MethodName := ⟨RX1, "longitude", "(I)I"⟩
abbrev cX1_angle : ByteArray := prog_3_method_21_code
def yX1_angle : MethodName := ⟨RX1, "angle", "(III)I"⟩
abbrev cX1_onSide : ByteArray := prog_3_method_22_code
def yX1_onSide : MethodName := ⟨RX1, "onSide", "(IIII)I"⟩
abbrev cX1_checkUnit : ByteArray := prog_3_method_23_code
def yX1_checkUnit : MethodName := ⟨RX1, "checkUnit", "(II)V"⟩
abbrev cX1_digits : ByteArray := prog_3_method_24_code
def yX1_digits : MethodName := ⟨RX1, "digits", "(IIIIII)I"⟩
abbrev cX1_digitAt : ByteArray := prog_3_method_25_code
def yX1_digitAt : MethodName := ⟨RX1, "digitAt", "(I)I"⟩
abbrev cX1_checkPack : ByteArray := prog_3_method_26_code
def yX1_checkPack : MethodName := ⟨RX1, "checkPack", "(I)V"⟩
abbrev cX1_unpack : ByteArray := prog_3_method_27_code
def yX1_unpack : MethodName := ⟨RX1, "unpack", "(IILSeaReceiver$BitRow;)V"⟩
def RX2 : String := "SeaReceiver$Fleet"
def TX2 : u_T := fun k => match k with
  | 0 => ("SeaReceiver$Fleet", "vessels", "[LSeaReceiver$Vessel;", true)
  | _ => ("SeaReceiver$Fleet", "size", "I", false)
def tyX2 : Nat → FieldType := fun k => match k with
  | 0 => .array (.object "SeaReceiver$Vessel")
  | _ => .int
abbrev wsX20 : List Cond := u_ws RX2 TX2 2
theorem nmX2 : ∀ a, a < 2 → ∀ b, b < 2 → a ≠ b → (TX2 a).2.1 ≠ (TX2 b).2.1 := by decide +kernel
theorem tyX2_ok : ∀ k, k < 2 → parseFieldDescriptor (TX2 k).2.2.1 = some (tyX2 k) := by decide +kernel
abbrev cX2_init : ByteArray := prog_4_method_1_code
def yX2_init : MethodName := ⟨RX2, "<init>", "()V"⟩
abbrev cX2_at : ByteArray := prog_4_method_2_code
def yX2_at : MethodName := ⟨RX2, "at", "(I)LSeaReceiver$Vessel;"⟩
abbrev cX2_numberOf : ByteArray := prog_4_method_3_code
def yX2_numberOf : MethodName := ⟨RX2, "numberOf", "(I)I"⟩
abbrev cX2_vesselOf : ByteArray := prog_4_method_4_code
def yX2_vesselOf : MethodName := ⟨RX2, "vesselOf", "(I)LSeaReceiver$Vessel;"⟩
def RX3 : String := "SeaReceiver$Parts"
def TX3 : u_T := fun k => match k with
  | 0 => ("SeaReceiver$Parts", "rows", "[LSeaReceiver$BitRow;", true)
  | 1 => ("SeaReceiver$Parts", "manys", "[I", true)
  | _ => ("SeaReceiver$Parts", "kept", "[I", true)
def tyX3 : Nat → FieldType := fun k => match k with
  | 0 => .array (.object "SeaReceiver$BitRow")
  | 1 => .array .int
  | _ => .array .int
abbrev wsX30 : List Cond := u_ws RX3 TX3 3
theorem nmX3 : ∀ a, a < 3 → ∀ b, b < 3 → a ≠ b → (TX3 a).2.1 ≠ (TX3 b).2.1 := by decide +kernel
theorem tyX3_ok : ∀ k, k < 3 → parseFieldDescriptor (TX3 k).2.2.1 = some (tyX3 k) := by decide +kernel
abbrev cX3_init : ByteArray := prog_5_method_1_code
def yX3_init : MethodName := ⟨RX3, "<init>", "()V"⟩
abbrev cX3_forget : ByteArray := prog_5_method_2_code
def yX3_forget : MethodName := ⟨RX3, "forget", "()V"⟩
abbrev cX3_keptInAll : ByteArray := prog_5_method_3_code
def yX3_keptInAll : MethodName := ⟨RX3, "keptInAll", "()I"⟩
abbrev cX3_drop : ByteArray := prog_5_method_4_code
def yX3_drop : MethodName := ⟨RX3, "drop", "(I)Z"⟩
abbrev cX3_awaits : ByteArray := prog_5_method_5_code
def yX3_awaits : MethodName := ⟨RX3, "awaits", "(III)Z"⟩
abbrev cX3_keep : ByteArray := prog_5_method_6_code
def yX3_keep : MethodName := ⟨RX3, "keep", "(II)LSeaReceiver$BitRow;"⟩
def RX4 : String := "SeaReceiver$Position"
def TX4 : u_T := fun k => match k with
  | 0 => ("SeaReceiver$Position", "told", "[I", true)
  | _ => ("SeaReceiver$Position", "fresh", "[I", true)
def tyX4 : Nat → FieldType := fun k => match k with
  | 0 => .array .int
  | _ => .array .int
abbrev wsX40 : List Cond := u_ws RX4 TX4 2
theorem nmX4 : ∀ a, a < 2 → ∀ b, b < 2 → a ≠ b → (TX4 a).2.1 ≠ (TX4 b).2.1 := by decide +kernel
theorem tyX4_ok : ∀ k, k < 2 → parseFieldDescriptor (TX4 k).2.2.1 = some (tyX4 k) := by decide +kernel
abbrev cX4_init : ByteArray := prog_6_method_1_code
def yX4_init : MethodName := ⟨RX4, "<init>", "()V"⟩
abbrev cX4_forget : ByteArray := prog_6_method_2_code
def yX4_forget : MethodName := ⟨RX4, "forget", "()V"⟩
abbrev cX4_takeGga : ByteArray := prog_6_method_3_code
def yX4_takeGga : MethodName := ⟨RX4, "takeGga", "(LSeaReceiver$Fields;)Z"⟩
abbrev cX4_takeRmc : ByteArray := prog_6_method_4_code
def yX4_takeRmc : MethodName := ⟨RX4, "takeRmc", "(LSeaReceiver$Fields;)Z"⟩
abbrev cX4_takeVtg : ByteArray := prog_6_method_5_code
def yX4_takeVtg : MethodName := ⟨RX4, "takeVtg", "(LSeaReceiver$Fields;)Z"⟩
abbrev cX4_settle : ByteArray := prog_6_method_6_code
def yX4_settle : MethodName := ⟨RX4, "settle", "(Z[I)Z"⟩
def RX5 : String := "SeaReceiver$Sentence"
def TX5 : u_T := fun k => match k with
  | 0 => ("SeaReceiver$Sentence", "signs", "[B", true)
  | 1 => ("SeaReceiver$Sentence", "stage", "I", false)
  | 2 => ("SeaReceiver$Sentence", "start", "I", false)
  | 3 => ("SeaReceiver$Sentence", "length", "I", false)
  | 4 => ("SeaReceiver$Sentence", "sum", "I", false)
  | _ => ("SeaReceiver$Sentence", "toldSum", "I", false)
def tyX5 : Nat → FieldType := fun k => match k with
  | 0 => .array .byte
  | 1 => .int
  | 2 => .int
  | 3 => .int
  | 4 => .int
  | _ => .int
abbrev wsX50 : List Cond := u_ws RX5 TX5 6
theorem nmX5 : ∀ a, a < 6 → ∀ b, b < 6 → a ≠ b → (TX5 a).2.1 ≠ (TX5 b).2.1 := by decide +kernel
theorem tyX5_ok : ∀ k, k < 6 → parseFieldDescriptor (TX5 k).2.2.1 = some (tyX5 k) := by decide +kernel
abbrev cX5_init : ByteArray := prog_7_method_1_code
def yX5_init : MethodName := ⟨RX5, "<init>", "()V"⟩
abbrev cX5_forget : ByteArray := prog_7_method_2_code
def yX5_forget : MethodName := ⟨RX5, "forget", "()V"⟩
abbrev cX5_underWay : ByteArray := prog_7_method_3_code
def yX5_underWay : MethodName := ⟨RX5, "underWay", "()I"⟩
abbrev cX5_at : ByteArray := prog_7_method_4_code
def yX5_at : MethodName := ⟨RX5, "at", "(I)I"⟩
abbrev cX5_hear : ByteArray := prog_7_method_5_code
def yX5_hear : MethodName := ⟨RX5, "hear", "(I)I"⟩
abbrev cX5_begin : ByteArray := prog_7_method_6_code
def yX5_begin : MethodName := ⟨RX5, "begin", "(I)I"⟩
abbrev cX5_step : ByteArray := prog_7_method_7_code
def yX5_step : MethodName := ⟨RX5, "step", "(ZI)I"⟩
abbrev cX5_store : ByteArray := prog_7_method_8_code
def yX5_store : MethodName := ⟨RX5, "store", "(I)I"⟩
abbrev cX5_hearDigit : ByteArray := prog_7_method_9_code
def yX5_hearDigit : MethodName := ⟨RX5, "hearDigit", "(II)I"⟩
def RX6 : String := "SeaReceiver$SignRow"
def TX6 : u_T := fun k => match k with
  | 0 => ("SeaReceiver$SignRow", "signs", "[B", true)
  | _ => ("SeaReceiver$SignRow", "size", "I", false)
def tyX6 : Nat → FieldType := fun k => match k with
  | 0 => .array .byte
  | _ => .int
abbrev wsX60 : List Cond := u_ws RX6 TX6 2
theorem nmX6 : ∀ a, a < 2 → ∀ b, b < 2 → a ≠ b → (TX6 a).2.1 ≠ (TX6 b).2.1 := by decide +kernel
theorem tyX6_ok : ∀ k, k < 2 → parseFieldDescriptor (TX6 k).2.2.1 = some (tyX6 k) := by decide +kernel
abbrev cX6_init : ByteArray := prog_8_method_1_code
def yX6_init : MethodName := ⟨RX6, "<init>", "(I)V"⟩
abbrev cX6_hasRoom : ByteArray := prog_8_method_2_code
def yX6_hasRoom : MethodName := ⟨RX6, "hasRoom", "(I)Z"⟩
abbrev cX6_add : ByteArray := prog_8_method_3_code
def yX6_add : MethodName := ⟨RX6, "add", "(I)V"⟩
abbrev cX6_addWord : ByteArray := prog_8_method_4_code
def yX6_addWord : MethodName := ⟨RX6, "addWord", "(I)V"⟩
abbrev cX6_addText : ByteArray := prog_8_method_5_code
def yX6_addText : MethodName := ⟨RX6, "addText", "(Ljava/lang/String;)V"⟩
abbrev cX6_at : ByteArray := prog_8_method_6_code
def yX6_at : MethodName := ⟨RX6, "at", "(I)I"⟩
def RX7 : String := "SeaReceiver$Vessel"
def TX7 : u_T := fun k => match k with
  | 0 => ("SeaReceiver$Vessel", "values", "[I", true)
  | 1 => ("SeaReceiver$Vessel", "lengths", "[I", true)
  | _ => ("SeaReceiver$Vessel", "signs", "[B", true)
def tyX7 : Nat → FieldType := fun k => match k with
  | 0 => .array .int
  | 1 => .array .int
  | _ => .array .byte
abbrev wsX70 : List Cond := u_ws RX7 TX7 3
theorem nmX7 : ∀ a, a < 3 → ∀ b, b < 3 → a ≠ b → (TX7 a).2.1 ≠ (TX7 b).2.1 := by decide +kernel
theorem tyX7_ok : ∀ k, k < 3 → parseFieldDescriptor (TX7 k).2.2.1 = some (tyX7 k) := by decide +kernel
abbrev cX7_init : ByteArray := prog_9_method_1_code
def yX7_init : MethodName := ⟨RX7, "<init>", "()V"⟩
abbrev cX7_bitsOf : ByteArray := prog_9_method_2_code
def yX7_bitsOf : MethodName := ⟨RX7, "bitsOf", "(I)I"⟩
abbrev cX7_layoutOf : ByteArray := prog_9_method_3_code
def yX7_layoutOf : MethodName := ⟨RX7, "layoutOf", "(I)[I"⟩
abbrev cX7_hasSign : ByteArray := prog_9_method_4_code
def yX7_hasSign : MethodName := ⟨RX7, "hasSign", "(I)Z"⟩
abbrev cX7_begin : ByteArray := prog_9_method_5_code
def yX7_begin : MethodName := ⟨RX7, "begin", "(I)V"⟩
abbrev cX7_learn : ByteArray := prog_9_method_6_code
def yX7_learn : MethodName := ⟨RX7, "learn", "(ILSeaReceiver$BitRow;)V"⟩
abbrev cX7_learnText : ByteArray := prog_9_method_7_code
def yX7_learnText : MethodName := ⟨RX7, "learnText", "(ILSeaReceiver$BitRow;II)V"⟩
abbrev cX7_signOf : ByteArray := prog_9_method_8_code
def yX7_signOf : MethodName := ⟨RX7, "signOf", "(II)I"⟩
abbrev cX7_tell : ByteArray := prog_9_method_9_code
def yX7_tell : MethodName := ⟨RX7, "tell", "(ILSeaReceiver$BitRow;)V"⟩
abbrev cX7_tellText : ByteArray := prog_9_method_10_code
def yX7_tellText : MethodName := ⟨RX7, "tellText", "(ILSeaReceiver$BitRow;I)V"⟩
def RX8 : String := "SeaReceiver"
def TX8 : u_T := fun k => match k with
  | 0 => ("SeaReceiver", "tallies", "[I", true)
  | 1 => ("SeaReceiver", "tape", "LSeaReceiver$SignRow;", true)
  | 2 => ("SeaReceiver", "sent", "LSeaReceiver$SignRow;", true)
  | 3 => ("SeaReceiver", "sentence", "LSeaReceiver$Sentence;", true)
  | 4 => ("SeaReceiver", "fields", "LSeaReceiver$Fields;", true)
  | 5 => ("SeaReceiver", "position", "LSeaReceiver$Position;", true)
  | 6 => ("SeaReceiver", "parts", "LSeaReceiver$Parts;", true)
  | 7 => ("SeaReceiver", "message", "LSeaReceiver$BitRow;", true)
  | 8 => ("SeaReceiver", "fleet", "LSeaReceiver$Fleet;", true)
  | _ => ("SeaReceiver", "report", "LSeaReceiver$BitRow;", true)
def tyX8 : Nat → FieldType := fun k => match k with
  | 0 => .array .int
  | 1 => .object "SeaReceiver$SignRow"
  | 2 => .object "SeaReceiver$SignRow"
  | 3 => .object "SeaReceiver$Sentence"
  | 4 => .object "SeaReceiver$Fields"
  | 5 => .object "SeaReceiver$Position"
  | 6 => .object "SeaReceiver$Parts"
  | 7 => .object "SeaReceiver$BitRow"
  | 8 => .object "SeaReceiver$Fleet"
  | _ => .object "SeaReceiver$BitRow"
abbrev wsX80 : List Cond := u_ws RX8 TX8 10
theorem nmX8 : ∀ a, a < 10 → ∀ b, b < 10 → a ≠ b → (TX8 a).2.1 ≠ (TX8 b).2.1 := by decide +kernel
theorem tyX8_ok : ∀ k, k < 10 → parseFieldDescriptor (TX8 k).2.2.1 = some (tyX8 k) := by decide +kernel
abbrev cX8_init : ByteArray := prog_1_method_1_code
def yX8_init : MethodName := ⟨RX8, "<init>", "()V"⟩
abbrev cX8_feed : ByteArray := prog_1_method_2_code
def yX8_feed : MethodName := ⟨RX8, "feed", "(IIIII)I"⟩
abbrev cX8_end : ByteArray := prog_1_method_3_code
def yX8_end : MethodName := ⟨RX8, "end", "(I)Z"⟩
abbrev cX8_stream : ByteArray := prog_1_method_4_code
def yX8_stream : MethodName := ⟨RX8, "stream", "()I"⟩
abbrev cX8_count : ByteArray := prog_1_method_5_code
def yX8_count : MethodName := ⟨RX8, "count", "(I)I"⟩
abbrev cX8_fix : ByteArray := prog_1_method_6_code
def yX8_fix : MethodName := ⟨RX8, "fix", "(I)I"⟩
abbrev cX8_find : ByteArray := prog_1_method_7_code
def yX8_find : MethodName := ⟨RX8, "find", "(I)I"⟩
abbrev cX8_vessel : ByteArray := prog_1_method_8_code
def yX8_vessel : MethodName := ⟨RX8, "vessel", "(II)I"⟩
abbrev cX8_letter : ByteArray := prog_1_method_9_code
def yX8_letter : MethodName := ⟨RX8, "letter", "(III)I"⟩
abbrev cX8_bits : ByteArray := prog_1_method_10_code
def yX8_bits : MethodName := ⟨RX8, "bits", "(II)I"⟩
abbrev cX8_send : ByteArray := prog_1_method_11_code
def yX8_send : MethodName := ⟨RX8, "send", "(III)I"⟩
abbrev cX8_out : ByteArray := prog_1_method_12_code
def yX8_out : MethodName := ⟨RX8, "out", "(I)I"⟩
abbrev cX8_again : ByteArray := prog_1_method_13_code
def yX8_again : MethodName := ⟨RX8, "again", "()I"⟩
abbrev cX8_clear : ByteArray := prog_1_method_14_code
def yX8_clear : MethodName := ⟨RX8, "clear", "()V"⟩
abbrev cX8_judge : ByteArray := prog_1_method_15_code
def yX8_judge : MethodName := ⟨RX8, "judge", "()I"⟩
abbrev cX8_takePart : ByteArray := prog_1_method_16_code
def yX8_takePart : MethodName := ⟨RX8, "takePart", "()Z"⟩
abbrev cX8_isInOrder : ByteArray := prog_1_method_17_code
def yX8_isInOrder : MethodName := ⟨RX8, "isInOrder", "(III)Z"⟩
abbrev cX8_receive : ByteArray := prog_1_method_18_code
def yX8_receive : MethodName := ⟨RX8, "receive", "()V"⟩
abbrev cX8_writeSentence : ByteArray := prog_1_method_19_code
def yX8_writeSentence : MethodName := ⟨RX8, "writeSentence", "(Ljava/lang/String;III)V"⟩
abbrev cX8_closeSentence : ByteArray := prog_1_method_20_code
def yX8_closeSentence : MethodName := ⟨RX8, "closeSentence", "(I)V"⟩
abbrev cX8_sixteen : ByteArray := prog_1_method_21_code
def yX8_sixteen : MethodName := ⟨RX8, "sixteen", "(I)I"⟩
def RX9 : String := "SeaReceiverModel"
def TX9 : u_T := fun k => match k with
  | 0 => ("SeaReceiverModel", "thrown", "I", false)
  | 1 => ("SeaReceiverModel", "tape", "[I", true)
  | 2 => ("SeaReceiverModel", "taped", "I", false)
  | 3 => ("SeaReceiverModel", "out", "[I", true)
  | 4 => ("SeaReceiverModel", "outs", "I", false)
  | 5 => ("SeaReceiverModel", "may", "I", false)
  | 6 => ("SeaReceiverModel", "sign", "[I", true)
  | 7 => ("SeaReceiverModel", "signs", "I", false)
  | 8 => ("SeaReceiverModel", "sum", "I", false)
  | 9 => ("SeaReceiverModel", "told", "I", false)
  | 10 => ("SeaReceiverModel", "many", "[I", true)
  | 11 => ("SeaReceiverModel", "from", "[I", true)
  | 12 => ("SeaReceiverModel", "to", "[I", true)
  | 13 => ("SeaReceiverModel", "fields", "I", false)
  | 14 => ("SeaReceiverModel", "good", "Z", false)
  | 15 => ("SeaReceiverModel", "value", "[I", true)
  | 16 => ("SeaReceiverModel", "fix", "[I", true)
  | 17 => ("SeaReceiverModel", "parts", "I", false)
  | 18 => ("SeaReceiverModel", "which", "I", false)
  | 19 => ("SeaReceiverModel", "id", "I", false)
  | 20 => ("SeaReceiverModel", "fill", "I", false)
  | 21 => ("SeaReceiverModel", "ofMany", "[I", true)
  | 22 => ("SeaReceiverModel", "came", "[I", true)
  | 23 => ("SeaReceiverModel", "long1", "[I", true)
  | 24 => ("SeaReceiverModel", "kept", "[Z", true)
  | 25 => ("SeaReceiverModel", "bit", "[Z", true)
  | 26 => ("SeaReceiverModel", "bits", "I", false)
  | 27 => ("SeaReceiverModel", "hasMessage", "Z", false)
  | 28 => ("SeaReceiverModel", "vessels", "I", false)
  | 29 => ("SeaReceiverModel", "row", "[I", true)
  | 30 => ("SeaReceiverModel", "text", "[I", true)
  | 31 => ("SeaReceiverModel", "textLong", "[I", true)
  | 32 => ("SeaReceiverModel", "place", "I", false)
  | 33 => ("SeaReceiverModel", "writes", "Z", false)
  | 34 => ("SeaReceiverModel", "now", "I", false)
  | 35 => ("SeaReceiverModel", "sent", "[Z", true)
  | 36 => ("SeaReceiverModel", "sents", "I", false)
  | _ => ("SeaReceiverModel", "check", "I", false)
def tyX9 : Nat → FieldType := fun k => match k with
  | 0 => .int
  | 1 => .array .int
  | 2 => .int
  | 3 => .array .int
  | 4 => .int
  | 5 => .int
  | 6 => .array .int
  | 7 => .int
  | 8 => .int
  | 9 => .int
  | 10 => .array .int
  | 11 => .array .int
  | 12 => .array .int
  | 13 => .int
  | 14 => .boolean
  | 15 => .array .int
  | 16 => .array .int
  | 17 => .int
  | 18 => .int
  | 19 => .int
  | 20 => .int
  | 21 => .array .int
  | 22 => .array .int
  | 23 => .array .int
  | 24 => .array .boolean
  | 25 => .array .boolean
  | 26 => .int
  | 27 => .boolean
  | 28 => .int
  | 29 => .array .int
  | 30 => .array .int
  | 31 => .array .int
  | 32 => .int
  | 33 => .boolean
  | 34 => .int
  | 35 => .array .boolean
  | 36 => .int
  | _ => .int
abbrev wsX90 : List Cond := u_ws RX9 TX9 38
theorem nmX9 : ∀ a, a < 38 → ∀ b, b < 38 → a ≠ b → (TX9 a).2.1 ≠ (TX9 b).2.1 := by decide +kernel
theorem tyX9_ok : ∀ k, k < 38 → parseFieldDescriptor (TX9 k).2.2.1 = some (tyX9 k) := by decide +kernel
abbrev cX9_thrown : ByteArray := prog_11_method_1_code
def yX9_thrown : MethodName := ⟨RX9, "thrown", "()I"⟩
abbrev cX9_in : ByteArray := prog_11_method_2_code
def yX9_in : MethodName := ⟨RX9, "in", "(JJJ)Z"⟩
abbrev cX9_refuse : ByteArray := prog_11_method_3_code
def yX9_refuse : MethodName := ⟨RX9, "refuse", "(I)I"⟩
abbrev cX9_init : ByteArray := prog_11_method_4_code
def yX9_init : MethodName := ⟨RX9, "<init>", "()V"⟩
abbrev cX9_feed : ByteArray := prog_11_method_5_code
def yX9_feed : MethodName := ⟨RX9, "feed", "(IIIII)I"⟩
abbrev cX9_end : ByteArray := prog_11_method_6_code
def yX9_end : MethodName := ⟨RX9, "end", "(I)Z"⟩
abbrev cX9_sixteen : ByteArray := prog_11_method_7_code
def yX9_sixteen : MethodName := ⟨RX9, "sixteen", "(I)I"⟩
abbrev cX9_stream : ByteArray := prog_11_method_8_code
def yX9_stream : MethodName := ⟨RX9, "stream", "()I"⟩
abbrev cX9_comes : ByteArray := prog_11_method_9_code
def yX9_comes : MethodName := ⟨RX9, "comes", "(I)V"⟩
abbrev cX9_ended : ByteArray := prog_11_method_10_code
def yX9_ended : MethodName := ⟨RX9, "ended", "()V"⟩
abbrev cX9_ends : ByteArray := prog_11_method_11_code
def yX9_ends : MethodName := ⟨RX9, "ends", "(Ljava/lang/String;)Z"⟩
abbrev cX9_form : ByteArray := prog_11_method_12_code
def yX9_form : MethodName := ⟨RX9, "form", "()I"⟩
abbrev cX9_size : ByteArray := prog_11_method_13_code
def yX9_size : MethodName := ⟨RX9, "size", "(I)I"⟩
abbrev cX9_at : ByteArray := prog_11_method_14_code
def yX9_at : MethodName := ⟨RX9, "at", "(II)I"⟩
abbrev cX9_isDigit : ByteArray := prog_11_method_15_code
def yX9_isDigit : MethodName := ⟨RX9, "isDigit", "(I)Z"⟩
abbrev cX9_bad : ByteArray := prog_11_method_16_code
def yX9_bad : MethodName := ⟨RX9, "bad", "()I"⟩
abbrev cX9_digits : ByteArray := prog_11_method_17_code
def yX9_digits : MethodName := ⟨RX9, "digits", "(II)I"⟩
abbrev cX9_whole : ByteArray := prog_11_method_18_code
def yX9_whole : MethodName := ⟨RX9, "whole", "(III)I"⟩
abbrev cX9_behind : ByteArray := prog_11_method_19_code
def yX9_behind : MethodName := ⟨RX9, "behind", "(IIII)I"⟩
abbrev cX9_ten : ByteArray := prog_11_method_20_code
def yX9_ten : MethodName := ⟨RX9, "ten", "(I)I"⟩
abbrev cX9_decimal : ByteArray := prog_11_method_21_code
def yX9_decimal : MethodName := ⟨RX9, "decimal", "(IIIZ)I"⟩
abbrev cX9_below : ByteArray := prog_11_method_22_code
def yX9_below : MethodName := ⟨RX9, "below", "(II)I"⟩
abbrev cX9_number : ByteArray := prog_11_method_23_code
def yX9_number : MethodName := ⟨RX9, "number", "(II)I"⟩
abbrev cX9_time : ByteArray := prog_11_method_24_code
def yX9_time : MethodName := ⟨RX9, "time", "(I)I"⟩
abbrev cX9_date : ByteArray := prog_11_method_25_code
def yX9_date : MethodName := ⟨RX9, "date", "(I)I"⟩
abbrev cX9_one : ByteArray := prog_11_method_26_code
def yX9_one : MethodName := ⟨RX9, "one", "(ILjava/lang/String;)I"⟩
abbrev cX9_sided : ByteArray := prog_11_method_27_code
def yX9_sided : MethodName := ⟨RX9, "sided", "(IILjava/lang/String;)I"⟩
abbrev cX9_place : ByteArray := prog_11_method_28_code
def yX9_place : MethodName := ⟨RX9, "place", "(IIILjava/lang/String;)I"⟩
abbrev cX9_measured : ByteArray := prog_11_method_29_code
def yX9_measured : MethodName := ⟨RX9, "measured", "(IILjava/lang/String;)I"⟩
abbrev cX9_fits : ByteArray := prog_11_method_30_code
def yX9_fits : MethodName := ⟨RX9, "fits", "(I)Z"⟩
abbrev cX9_gga : ByteArray := prog_11_method_31_code
def yX9_gga : MethodName := ⟨RX9, "gga", "()V"⟩
abbrev cX9_rmc : ByteArray := prog_11_method_32_code
def yX9_rmc : MethodName := ⟨RX9, "rmc", "()V"⟩
abbrev cX9_vtg : ByteArray := prog_11_method_33_code
def yX9_vtg : MethodName := ⟨RX9, "vtg", "()V"⟩
abbrev cX9_part : ByteArray := prog_11_method_34_code
def yX9_part : MethodName := ⟨RX9, "part", "()V"⟩
abbrev cX9_taken : ByteArray := prog_11_method_35_code
def yX9_taken : MethodName := ⟨RX9, "taken", "(I)V"⟩
abbrev cX9_keep : ByteArray := prog_11_method_36_code
def yX9_keep : MethodName := ⟨RX9, "keep", "(II)V"⟩
abbrev cX9_parted : ByteArray := prog_11_method_37_code
def yX9_parted : MethodName := ⟨RX9, "parted", "()V"⟩
abbrev cX9_read : ByteArray := prog_11_method_38_code
def yX9_read : MethodName := ⟨RX9, "read", "(II)I"⟩
abbrev cX9_signed : ByteArray := prog_11_method_39_code
def yX9_signed : MethodName := ⟨RX9, "signed", "(II)I"⟩
abbrev cX9_found : ByteArray := prog_11_method_40_code
def yX9_found : MethodName := ⟨RX9, "found", "(I)I"⟩
abbrev cX9_message : ByteArray := prog_11_method_41_code
def yX9_message : MethodName := ⟨RX9, "message", "()V"⟩
abbrev cX9_go : ByteArray := prog_11_method_42_code
def yX9_go : MethodName := ⟨RX9, "go", "(IIZ)V"⟩
abbrev cX9_skip : ByteArray := prog_11_method_43_code
def yX9_skip : MethodName := ⟨RX9, "skip", "(I)V"⟩
abbrev cX9_room : ByteArray := prog_11_method_44_code
def yX9_room : MethodName := ⟨RX9, "room", "(I)I"⟩
abbrev cX9_words : ByteArray := prog_11_method_45_code
def yX9_words : MethodName := ⟨RX9, "words", "(I)V"⟩
abbrev cX9_where : ByteArray := prog_11_method_46_code
def yX9_where : MethodName := ⟨RX9, "where", "()V"⟩
abbrev cX9_way : ByteArray := prog_11_method_47_code
def yX9_way : MethodName := ⟨RX9, "way", "()V"⟩
abbrev cX9_reports : ByteArray := prog_11_method_48_code
def yX9_reports : MethodName := ⟨RX9, "reports", "(II)V"⟩
abbrev cX9_still : ByteArray := prog_11_method_49_code
def yX9_still : MethodName := ⟨RX9, "still", "()V"⟩
abbrev cX9_count : ByteArray := prog_11_method_50_code
def yX9_count : MethodName := ⟨RX9, "count", "(I)I"⟩
abbrev cX9_fix : ByteArray := prog_11_method_51_code
def yX9_fix : MethodName := ⟨RX9, "fix", "(I)I"⟩
abbrev cX9_find : ByteArray := prog_11_method_52_code
def yX9_find : MethodName := ⟨RX9, "find", "(I)I"⟩
abbrev cX9_vessel : ByteArray := prog_11_method_53_code
def yX9_vessel : MethodName := ⟨RX9, "vessel", "(II)I"⟩
abbrev cX9_letter : ByteArray := prog_11_method_54_code
def yX9_letter : MethodName := ⟨RX9, "letter", "(III)I"⟩
abbrev cX9_bits : ByteArray := prog_11_method_55_code
def yX9_bits : MethodName := ⟨RX9, "bits", "(II)I"⟩
abbrev cX9_put : ByteArray := prog_11_method_56_code
def yX9_put : MethodName := ⟨RX9, "put", "(II)V"⟩
abbrev cX9_write : ByteArray := prog_11_method_57_code
def yX9_write : MethodName := ⟨RX9, "write", "(I)V"⟩
abbrev cX9_writeAll : ByteArray := prog_11_method_58_code
def yX9_writeAll : MethodName := ⟨RX9, "writeAll", "(Ljava/lang/String;)V"⟩
abbrev cX9_hexOf : ByteArray := prog_11_method_59_code
def yX9_hexOf : MethodName := ⟨RX9, "hexOf", "(I)I"⟩
abbrev cX9_sentence : ByteArray := prog_11_method_60_code
def yX9_sentence : MethodName := ⟨RX9, "sentence", "(IIIII)V"⟩
abbrev cX9_send : ByteArray := prog_11_method_61_code
def yX9_send : MethodName := ⟨RX9, "send", "(III)I"⟩
abbrev cX9_out : ByteArray := prog_11_method_62_code
def yX9_out : MethodName := ⟨RX9, "out", "(I)I"⟩
abbrev cX9_again : ByteArray := prog_11_method_63_code
def yX9_again : MethodName := ⟨RX9, "again", "()I"⟩
abbrev cX9_forget : ByteArray := prog_11_method_64_code
def yX9_forget : MethodName := ⟨RX9, "forget", "()V"⟩
abbrev cX9_clear : ByteArray := prog_11_method_65_code
def yX9_clear : MethodName := ⟨RX9, "clear", "()V"⟩
def RJ11 : String := "java/lang/Character"
def TJ11 : u_T := fun k => match k with
  | _ => ("", "", "", false)
def tyJ11 : Nat → FieldType := fun k => match k with
  | _ => .int
abbrev cJ11_isValidCodePoint_9a6ad : ByteArray := prog_12_method_11_code
def yJ11_isValidCodePoint_9a6ad : MethodName := ⟨RJ11, "isValidCodePoint", "(I)Z"⟩
abbrev cJ11_highSurrogate_5068e : ByteArray := prog_12_method_28_code
def yJ11_highSurrogate_5068e : MethodName := ⟨RJ11, "highSurrogate", "(I)C"⟩
abbrev cJ11_lowSurrogate_5068e : ByteArray := prog_12_method_29_code
def yJ11_lowSurrogate_5068e : MethodName := ⟨RJ11, "lowSurrogate", "(I)C"⟩
def RJ9 : String := "java/lang/Math"
def TJ9 : u_T := fun k => match k with
  | _ => ("", "", "", false)
def tyJ9 : Nat → FieldType := fun k => match k with
  | _ => .int
abbrev cJ9_max_7cf53 : ByteArray := prog_15_method_65_code
def yJ9_max_7cf53 : MethodName := ⟨RJ9, "max", "(II)I"⟩
abbrev cJ9_min_7cf53 : ByteArray := prog_15_method_69_code
def yJ9_min_7cf53 : MethodName := ⟨RJ9, "min", "(II)I"⟩
def RJ0 : String := "java/lang/String"
def TJ0 : u_T := fun k => match k with
  | _ => ("", "", "", false)
def tyJ0 : Nat → FieldType := fun k => match k with
  | _ => .int
abbrev cJ0_length_8abf5 : ByteArray := prog_17_method_54_code
def yJ0_length_8abf5 : MethodName := ⟨RJ0, "length", "()I"⟩
abbrev cJ0_charAt_5068e : ByteArray := prog_17_method_56_code
def yJ0_charAt_5068e : MethodName := ⟨RJ0, "charAt", "(I)C"⟩
abbrev cJ0_indexOf_0f7a4 : ByteArray := prog_17_method_79_code
def yJ0_indexOf_0f7a4 : MethodName := ⟨RJ0, "indexOf", "(I)I"⟩
abbrev cJ0_indexOf_7cf53 : ByteArray := prog_17_method_80_code
def yJ0_indexOf_7cf53 : MethodName := ⟨RJ0, "indexOf", "(II)I"⟩
abbrev cJ0_coder_7d493 : ByteArray := prog_17_method_152_code
def yJ0_coder_7d493 : MethodName := ⟨RJ0, "coder", "()B"⟩
abbrev cJ0_isLatin1_aae02 : ByteArray := prog_17_method_154_code
def yJ0_isLatin1_aae02 : MethodName := ⟨RJ0, "isLatin1", "()Z"⟩
abbrev cJ0_checkIndex_df160 : ByteArray := prog_17_method_155_code
def yJ0_checkIndex_df160 : MethodName := ⟨RJ0, "checkIndex", "(II)V"⟩
abbrev cJ0_checkBoundsBeginEnd_23922 : ByteArray := prog_17_method_158_code
def yJ0_checkBoundsBeginEnd_23922 : MethodName := ⟨RJ0, "checkBoundsBeginEnd", "(III)V"⟩
def RJ1 : String := "java/lang/StringLatin1"
def TJ1 : u_T := fun k => match k with
  | _ => ("", "", "", false)
def tyJ1 : Nat → FieldType := fun k => match k with
  | _ => .int
abbrev cJ1_charAt_3b067 : ByteArray := prog_18_method_2_code
def yJ1_charAt_3b067 : MethodName := ⟨RJ1, "charAt", "([BI)C"⟩
abbrev cJ1_canEncode_9a6ad : ByteArray := prog_18_method_4_code
def yJ1_canEncode_9a6ad : MethodName := ⟨RJ1, "canEncode", "(I)Z"⟩
abbrev cJ1_indexOf_4cfef : ByteArray := prog_18_method_22_code
def yJ1_indexOf_4cfef : MethodName := ⟨RJ1, "indexOf", "([BIII)I"⟩
abbrev cJ1_indexOfChar_4cfef : ByteArray := prog_18_method_23_code
def yJ1_indexOfChar_4cfef : MethodName := ⟨RJ1, "indexOfChar", "([BIII)I"⟩
def RJ2 : String := "java/lang/StringUTF16"
def TJ2 : u_T := fun k => match k with
  | _ => ("", "", "", false)
def tyJ2 : Nat → FieldType := fun k => match k with
  | _ => .int
abbrev cJ2_getChar_3b067 : ByteArray := prog_19_method_5_code
def yJ2_getChar_3b067 : MethodName := ⟨RJ2, "getChar", "([BI)C"⟩
abbrev cJ2_length_9d52b : ByteArray := prog_19_method_6_code
def yJ2_length_9d52b : MethodName := ⟨RJ2, "length", "([B)I"⟩
abbrev cJ2_indexOf_4cfef : ByteArray := prog_19_method_40_code
def yJ2_indexOf_4cfef : MethodName := ⟨RJ2, "indexOf", "([BIII)I"⟩
abbrev cJ2_indexOfChar_4cfef : ByteArray := prog_19_method_47_code
def yJ2_indexOfChar_4cfef : MethodName := ⟨RJ2, "indexOfChar", "([BIII)I"⟩
abbrev cJ2_indexOfCharUnsafe_4cfef : ByteArray := prog_19_method_48_code
def yJ2_indexOfCharUnsafe_4cfef : MethodName := ⟨RJ2, "indexOfCharUnsafe", "([BIII)I"⟩
abbrev cJ2_indexOfSupplementary_4cfef : ByteArray := prog_19_method_49_code
def yJ2_indexOfSupplementary_4cfef : MethodName := ⟨RJ2, "indexOfSupplementary", "([BIII)I"⟩
abbrev cJ2_charAt_3b067 : ByteArray := prog_19_method_83_code
def yJ2_charAt_3b067 : MethodName := ⟨RJ2, "charAt", "([BI)C"⟩
abbrev cJ2_checkIndex_2214a : ByteArray := prog_19_method_91_code
def yJ2_checkIndex_2214a : MethodName := ⟨RJ2, "checkIndex", "(I[B)V"⟩
abbrev cJ2_checkBoundsBeginEnd_d044e : ByteArray := prog_19_method_93_code
def yJ2_checkBoundsBeginEnd_d044e : MethodName := ⟨RJ2, "checkBoundsBeginEnd", "(II[B)V"⟩
def RJ7 : String := "java/util/Arrays"
def TJ7 : u_T := fun k => match k with
  | _ => ("", "", "", false)
def tyJ7 : Nat → FieldType := fun k => match k with
  | _ => .int
abbrev cJ7_fill_53178 : ByteArray := prog_21_method_103_code
def yJ7_fill_53178 : MethodName := ⟨RJ7, "fill", "([II)V"⟩
def RJ3 : String := "jdk/internal/util/Preconditions"
def TJ3 : u_T := fun k => match k with
  | _ => ("", "", "", false)
def tyJ3 : Nat → FieldType := fun k => match k with
  | _ => .int
abbrev cJ3_checkIndex_8e157 : ByteArray := prog_23_method_11_code
def yJ3_checkIndex_8e157 : MethodName := ⟨RJ3, "checkIndex", "(IILjava/util/function/BiFunction;)I"⟩
abbrev cJ3_checkFromToIndex_8c36e : ByteArray := prog_23_method_12_code
def yJ3_checkFromToIndex_8c36e : MethodName := ⟨RJ3, "checkFromToIndex", "(IIILjava/util/function/BiFunction;)I"⟩
def RL : String := "SeaReceiverLaw"
abbrev cL_fix : ByteArray := method_3_code
def yL_fix : MethodName := ⟨RL, "fix", "(LSeaReceiver;I[J)I"⟩
abbrev cL_vessel : ByteArray := method_4_code
def yL_vessel : MethodName := ⟨RL, "vessel", "(LSeaReceiver;II[J)I"⟩
abbrev cL_bits : ByteArray := method_5_code
def yL_bits : MethodName := ⟨RL, "bits", "(LSeaReceiver;II[J)I"⟩
abbrev cL_send : ByteArray := method_6_code
def yL_send : MethodName := ⟨RL, "send", "(LSeaReceiver;III[J)I"⟩
abbrev cL_law : ByteArray := code
def yL_law : MethodName := ⟨RL, "law", "([I)Z"⟩
abbrev vwCl : List vw_C := [(RX0, TX0, 3), (RX1, TX1, 4), (RX2, TX2, 2), (RX3, TX3, 3), (RX4, TX4, 2), (RX5, TX5, 6), (RX6, TX6, 2), (RX7, TX7, 3), (RX8, TX8, 10), (RX9, TX9, 38)]
/-- the words of the tables that stay good over calls: the words of every method -/
def sv_w : List Cond := lw_tbl.filter goodWord
end
section
theorem sv_t1 {w : Cond} (h : w ∈ tables_1) (hg : goodWord w = true) : w ∈ sv_w := List.mem_filter.mpr ⟨List.mem_append_right _ h, hg⟩
theorem sv_m1 {w : Cond} (i : Nat) (h : tables_1_1[i]? = some w) (hg : goodWord w = true) : w ∈ sv_w := sv_t1 (List.mem_append_left _ (List.mem_of_getElem? h)) hg
theorem sv_m2 {w : Cond} (i : Nat) (h : tables_1_2[i]? = some w) (hg : goodWord w = true) : w ∈ sv_w := sv_t1 (List.mem_append_right _ (List.mem_append_left _ (List.mem_of_getElem? h))) hg
theorem sv_m3 {w : Cond} (i : Nat) (h : tables_1_3[i]? = some w) (hg : goodWord w = true) : w ∈ sv_w := sv_t1 (List.mem_append_right _ (List.mem_append_right _ (List.mem_append_left _ (List.mem_of_getElem? h)))) hg
theorem sv_m4 {w : Cond} (i : Nat) (h : tables_1_4[i]? = some w) (hg : goodWord w = true) : w ∈ sv_w := sv_t1 (List.mem_append_right _ (List.mem_append_right _ (List.mem_append_right _ (List.mem_append_left _ (List.mem_of_getElem? h))))) hg
theorem sv_m5 {w : Cond} (i : Nat) (h : tables_1_5[i]? = some w) (hg : goodWord w = true) : w ∈ sv_w := sv_t1 (List.mem_append_right _ (List.mem_append_right _ (List.mem_append_right _ (List.mem_append_right _ (List.mem_append_left _ (List.mem_of_getElem? h)))))) hg
theorem sv_m6 {w : Cond} (i : Nat) (h : tables_1_6[i]? = some w) (hg : goodWord w = true) : w ∈ sv_w := sv_t1 (List.mem_append_right _ (List.mem_append_right _ (List.mem_append_right _ (List.mem_append_right _ (List.mem_append_right _ ((List.mem_of_getElem? h))))))) hg
theorem sv_p1 {y : MethodName} {n : Nat} (i : Nat) (h : lw_privs_1[i]? = some (y, n)) (hg : goodWord (Cond.selects y.cls y y) = true) : Cond.selects y.cls y y ∈ sv_w := List.mem_filter.mpr ⟨List.mem_append_left _ (List.mem_map.mpr ⟨(y, n), List.mem_append_left _ (List.mem_of_getElem? h), rfl⟩), hg⟩
theorem sv_p2 {y : MethodName} {n : Nat} (i : Nat) (h : lw_privs_2[i]? = some (y, n)) (hg : goodWord (Cond.selects y.cls y y) = true) : Cond.selects y.cls y y ∈ sv_w := List.mem_filter.mpr ⟨List.mem_append_left _ (List.mem_map.mpr ⟨(y, n), List.mem_append_right _ (List.mem_append_left _ (List.mem_of_getElem? h)), rfl⟩), hg⟩
theorem sv_p3 {y : MethodName} {n : Nat} (i : Nat) (h : lw_privs_3[i]? = some (y, n)) (hg : goodWord (Cond.selects y.cls y y) = true) : Cond.selects y.cls y y ∈ sv_w := List.mem_filter.mpr ⟨List.mem_append_left _ (List.mem_map.mpr ⟨(y, n), List.mem_append_right _ (List.mem_append_right _ (List.mem_append_left _ (List.mem_of_getElem? h))), rfl⟩), hg⟩
theorem sv_p4 {y : MethodName} {n : Nat} (i : Nat) (h : lw_privs_4[i]? = some (y, n)) (hg : goodWord (Cond.selects y.cls y y) = true) : Cond.selects y.cls y y ∈ sv_w := List.mem_filter.mpr ⟨List.mem_append_left _ (List.mem_map.mpr ⟨(y, n), List.mem_append_right _ (List.mem_append_right _ (List.mem_append_right _ (List.mem_append_left _ (List.mem_of_getElem? h)))), rfl⟩), hg⟩
theorem sv_p5 {y : MethodName} {n : Nat} (i : Nat) (h : lw_privs_5[i]? = some (y, n)) (hg : goodWord (Cond.selects y.cls y y) = true) : Cond.selects y.cls y y ∈ sv_w := List.mem_filter.mpr ⟨List.mem_append_left _ (List.mem_map.mpr ⟨(y, n), List.mem_append_right _ (List.mem_append_right _ (List.mem_append_right _ (List.mem_append_right _ ((List.mem_of_getElem? h))))), rfl⟩), hg⟩
theorem kw_0 : Cond.methodLink RX0 1 objectInit ∈ sv_w := sv_m1 140 rfl rfl
theorem kw_1 : Cond.instanceMethod objectInit ∈ sv_w := sv_m1 29 rfl rfl
theorem kw_2 : Cond.code objectInit ⟨#[0xb1]⟩ 1 none ∈ sv_w := sv_m1 30 rfl rfl
theorem kw_3 : Cond.fieldLink RX0 7 "SeaReceiver$BitRow" "room" "I" ∈ sv_w := sv_m1 141 rfl rfl
theorem kw_4 : Cond.arrayClass .int ∈ sv_w := sv_m1 45 rfl rfl
theorem kw_5 : Cond.fieldLink RX0 13 "SeaReceiver$BitRow" "words" "[I" ∈ sv_w := sv_m1 142 rfl rfl
theorem kw_6 : Cond.fieldLink RX0 23 "SeaReceiver$BitRow" "length" "I" ∈ sv_w := sv_m1 143 rfl rfl
theorem kw_7 : Cond.methodLink RX0 17 yJ7_fill_53178 ∈ sv_w := sv_m3 55 rfl rfl
theorem kw_8 : Cond.static yJ7_fill_53178 ∈ sv_w := sv_m1 107 rfl rfl
theorem kw_9 : Cond.initialized RJ7 ∈ sv_w := sv_m1 6 rfl rfl
theorem kw_10 : Cond.code yJ7_fill_53178 cJ7_fill_53178 4 none ∈ sv_w := sv_m1 108 rfl rfl
theorem kw_11 : Cond.constantLong RX0 26 (4294967295) ∈ sv_w := sv_m3 76 rfl rfl
theorem kw_12 : Cond.methodLink RX1 3 objectInit ∈ sv_w := sv_m1 81 rfl rfl
theorem kw_13 : Cond.arrayClass .byte ∈ sv_w := sv_m1 46 rfl rfl
theorem kw_14 : Cond.fieldLink RX1 11 "SeaReceiver$Fields" "signs" "[B" ∈ sv_w := sv_m1 82 rfl rfl
theorem kw_15 : Cond.fieldLink RX1 17 "SeaReceiver$Fields" "starts" "[I" ∈ sv_w := sv_m1 83 rfl rfl
theorem kw_16 : Cond.fieldLink RX5 19 "SeaReceiver$Sentence" "length" "I" ∈ sv_w := sv_m1 58 rfl rfl
theorem kw_17 : Cond.fieldLink RX5 11 "SeaReceiver$Sentence" "signs" "[B" ∈ sv_w := sv_m1 53 rfl rfl
theorem kw_18 : Cond.constant RX5 22 (-2147483648) ∈ sv_w := sv_m2 21 rfl rfl
theorem kw_19 : Cond.fieldLink RX1 21 "SeaReceiver$Fields" "good" "Z" ∈ sv_w := sv_m1 87 rfl rfl
theorem kw_20 : Cond.fieldLink RX1 25 "SeaReceiver$Fields" "many" "I" ∈ sv_w := sv_m1 84 rfl rfl
theorem kw_21 : Cond.fieldLink RX1 29 "SeaReceiver$Sentence" "length" "I" ∈ sv_w := sv_m1 57 rfl rfl
theorem kw_22 : Cond.methodLink RX1 32 yX5_at ∈ sv_w := sv_m2 17 rfl rfl
theorem kw_23 : Cond.instanceMethod yX5_at ∈ sv_w := sv_m2 18 rfl rfl
theorem kw_24 : Cond.selects RX5 yX5_at yX5_at ∈ sv_w := sv_m2 19 rfl rfl
theorem kw_25 : Cond.initialized RX5 ∈ sv_w := sv_m1 3 rfl rfl
theorem kw_26 : Cond.code yX5_at cX5_at 2 (some .int) ∈ sv_w := sv_m2 20 rfl rfl
theorem kw_27 : Cond.fieldLink RJ0 38 "java/lang/String" "COMPACT_STRINGS" "Z" ∈ sv_w := sv_m2 43 rfl rfl
theorem kw_28 : Cond.fieldLink RJ0 15 "java/lang/String" "coder" "B" ∈ sv_w := sv_m6 38 rfl rfl
theorem kw_29 : Cond.fieldLink RJ0 1053 "jdk/internal/util/Preconditions" "SIOOBE_FORMATTER" "Ljava/util/function/BiFunction;" ∈ sv_w := sv_m2 51 rfl rfl
theorem kw_30 : Cond.methodLink RJ0 1059 yJ3_checkIndex_8e157 ∈ sv_w := sv_m2 53 rfl rfl
theorem kw_31 : Cond.static yJ3_checkIndex_8e157 ∈ sv_w := sv_m2 54 rfl rfl
theorem kw_32 : Cond.initialized RJ3 ∈ sv_w := sv_m1 13 rfl rfl
theorem kw_33 : Cond.code yJ3_checkIndex_8e157 cJ3_checkIndex_8e157 3 (some .int) ∈ sv_w := sv_m2 55 rfl rfl
theorem kw_34 : Cond.methodLink RJ1 9 yJ0_checkIndex_df160 ∈ sv_w := sv_m2 48 rfl rfl
theorem kw_35 : Cond.static yJ0_checkIndex_df160 ∈ sv_w := sv_m2 49 rfl rfl
theorem kw_36 : Cond.initialized RJ0 ∈ sv_w := sv_m1 11 rfl rfl
theorem kw_37 : Cond.code yJ0_checkIndex_df160 cJ0_checkIndex_df160 2 none ∈ sv_w := sv_m2 50 rfl rfl
theorem kw_38 : Cond.methodLink RJ2 48 yJ2_length_9d52b ∈ sv_w := sv_m2 62 rfl rfl
theorem kw_39 : Cond.static yJ2_length_9d52b ∈ sv_w := sv_m2 63 rfl rfl
theorem kw_40 : Cond.initialized RJ2 ∈ sv_w := sv_m1 14 rfl rfl
theorem kw_41 : Cond.code yJ2_length_9d52b cJ2_length_9d52b 1 (some .int) ∈ sv_w := sv_m2 64 rfl rfl
theorem kw_42 : Cond.methodLink RJ2 414 yJ0_checkIndex_df160 ∈ sv_w := sv_m2 65 rfl rfl
theorem kw_43 : Cond.fieldLink RJ2 44 "java/lang/StringUTF16" "$assertionsDisabled" "Z" ∈ sv_w := sv_m2 69 rfl rfl
theorem kw_44 : Cond.fieldLink RJ2 59 "java/lang/StringUTF16" "HI_BYTE_SHIFT" "I" ∈ sv_w := sv_m2 71 rfl rfl
theorem kw_45 : Cond.fieldLink RJ2 63 "java/lang/StringUTF16" "LO_BYTE_SHIFT" "I" ∈ sv_w := sv_m2 73 rfl rfl
theorem kw_46 : Cond.methodLink RJ2 67 yJ2_checkIndex_2214a ∈ sv_w := sv_m2 59 rfl rfl
theorem kw_47 : Cond.static yJ2_checkIndex_2214a ∈ sv_w := sv_m2 60 rfl rfl
theorem kw_48 : Cond.code yJ2_checkIndex_2214a cJ2_checkIndex_2214a 2 none ∈ sv_w := sv_m2 61 rfl rfl
theorem kw_49 : Cond.methodLink RJ2 71 yJ2_getChar_3b067 ∈ sv_w := sv_m2 66 rfl rfl
theorem kw_50 : Cond.static yJ2_getChar_3b067 ∈ sv_w := sv_m2 67 rfl rfl
theorem kw_51 : Cond.code yJ2_getChar_3b067 cJ2_getChar_3b067 2 (some .char) ∈ sv_w := sv_m2 68 rfl rfl
theorem kw_52 : Cond.fieldLink RJ0 9 "java/lang/String" "value" "[B" ∈ sv_w := sv_m6 39 rfl rfl
theorem kw_53 : Cond.methodLink RJ0 492 yJ0_isLatin1_aae02 ∈ sv_w := sv_m2 39 rfl rfl
theorem kw_54 : Cond.instanceMethod yJ0_isLatin1_aae02 ∈ sv_w := sv_m2 40 rfl rfl
theorem kw_55 : Cond.selects RJ0 yJ0_isLatin1_aae02 yJ0_isLatin1_aae02 ∈ sv_w := sv_m2 41 rfl rfl
theorem kw_56 : Cond.code yJ0_isLatin1_aae02 cJ0_isLatin1_aae02 1 (some .boolean) ∈ sv_w := sv_m2 42 rfl rfl
theorem kw_57 : Cond.methodLink RJ0 495 yJ1_charAt_3b067 ∈ sv_w := sv_m2 45 rfl rfl
theorem kw_58 : Cond.static yJ1_charAt_3b067 ∈ sv_w := sv_m2 46 rfl rfl
theorem kw_59 : Cond.initialized RJ1 ∈ sv_w := sv_m1 12 rfl rfl
theorem kw_60 : Cond.code yJ1_charAt_3b067 cJ1_charAt_3b067 2 (some .char) ∈ sv_w := sv_m2 47 rfl rfl
theorem kw_61 : Cond.methodLink RJ0 498 yJ2_charAt_3b067 ∈ sv_w := sv_m2 56 rfl rfl
theorem kw_62 : Cond.static yJ2_charAt_3b067 ∈ sv_w := sv_m2 57 rfl rfl
theorem kw_63 : Cond.code yJ2_charAt_3b067 cJ2_charAt_3b067 2 (some .char) ∈ sv_w := sv_m2 58 rfl rfl
theorem kw_64 : Cond.methodLink RX1 53 yJ0_charAt_5068e ∈ sv_w := sv_m2 35 rfl rfl
theorem kw_65 : Cond.instanceMethod yJ0_charAt_5068e ∈ sv_w := sv_m2 36 rfl rfl
theorem kw_66 : Cond.selects RJ0 yJ0_charAt_5068e yJ0_charAt_5068e ∈ sv_w := sv_m2 37 rfl rfl
theorem kw_67 : Cond.code yJ0_charAt_5068e cJ0_charAt_5068e 2 (some .char) ∈ sv_w := sv_m2 38 rfl rfl
theorem kw_68 : Cond.methodLink RX1 36 yX1_to ∈ sv_w := sv_m2 26 rfl rfl
theorem kw_69 : Cond.instanceMethod yX1_to ∈ sv_w := sv_m2 28 rfl rfl
theorem kw_70 : Cond.selects RX1 yX1_to yX1_to ∈ sv_w := sv_p1 5 rfl rfl
theorem kw_71 : Cond.initialized RX1 ∈ sv_w := sv_m1 4 rfl rfl
theorem kw_72 : Cond.code yX1_to cX1_to 2 (some .int) ∈ sv_w := sv_m2 29 rfl rfl
theorem kw_73 : Cond.methodLink RX1 41 yX1_isForm ∈ sv_w := sv_m2 31 rfl rfl
theorem kw_74 : Cond.instanceMethod yX1_isForm ∈ sv_w := sv_m2 33 rfl rfl
theorem kw_75 : Cond.selects RX1 yX1_isForm yX1_isForm ∈ sv_w := sv_p1 6 rfl rfl
theorem kw_76 : Cond.code yX1_isForm cX1_isForm 2 (some .boolean) ∈ sv_w := sv_m2 34 rfl rfl
theorem kw_77 : Cond.methodLink RX1 59 yX1_from ∈ sv_w := sv_m2 91 rfl rfl
theorem kw_78 : Cond.instanceMethod yX1_from ∈ sv_w := sv_m2 93 rfl rfl
theorem kw_79 : Cond.selects RX1 yX1_from yX1_from ∈ sv_w := sv_p1 7 rfl rfl
theorem kw_80 : Cond.code yX1_from cX1_from 2 (some .int) ∈ sv_w := sv_m2 94 rfl rfl
theorem kw_81 : Cond.constant RX1 62 (-2147483648) ∈ sv_w := sv_m2 95 rfl rfl
theorem kw_82 : Cond.methodLink RX1 63 yX1_digitAt ∈ sv_w := sv_m2 100 rfl rfl
theorem kw_83 : Cond.instanceMethod yX1_digitAt ∈ sv_w := sv_m2 102 rfl rfl
theorem kw_84 : Cond.selects RX1 yX1_digitAt yX1_digitAt ∈ sv_w := sv_p1 9 rfl rfl
theorem kw_85 : Cond.code yX1_digitAt cX1_digitAt 3 (some .int) ∈ sv_w := sv_m2 103 rfl rfl
theorem kw_86 : Cond.methodLink RX1 66 yX1_wrong ∈ sv_w := sv_m2 104 rfl rfl
theorem kw_87 : Cond.instanceMethod yX1_wrong ∈ sv_w := sv_m2 106 rfl rfl
theorem kw_88 : Cond.selects RX1 yX1_wrong yX1_wrong ∈ sv_w := sv_p1 10 rfl rfl
theorem kw_89 : Cond.code yX1_wrong cX1_wrong 1 (some .int) ∈ sv_w := sv_m2 107 rfl rfl
theorem kw_90 : Cond.methodLink RJ0 335 yJ0_coder_7d493 ∈ sv_w := sv_m2 185 rfl rfl
theorem kw_91 : Cond.instanceMethod yJ0_coder_7d493 ∈ sv_w := sv_m2 186 rfl rfl
theorem kw_92 : Cond.selects RJ0 yJ0_coder_7d493 yJ0_coder_7d493 ∈ sv_w := sv_m2 187 rfl rfl
theorem kw_93 : Cond.code yJ0_coder_7d493 cJ0_coder_7d493 1 (some .byte) ∈ sv_w := sv_m2 188 rfl rfl
theorem kw_94 : Cond.methodLink RJ1 92 yJ9_max_7cf53 ∈ sv_w := sv_m2 195 rfl rfl
theorem kw_95 : Cond.static yJ9_max_7cf53 ∈ sv_w := sv_m2 196 rfl rfl
theorem kw_96 : Cond.initialized RJ9 ∈ sv_w := sv_m1 15 rfl rfl
theorem kw_97 : Cond.code yJ9_max_7cf53 cJ9_max_7cf53 2 (some .int) ∈ sv_w := sv_m2 197 rfl rfl
theorem kw_98 : Cond.methodLink RJ1 38 yJ9_min_7cf53 ∈ sv_w := sv_m2 198 rfl rfl
theorem kw_99 : Cond.static yJ9_min_7cf53 ∈ sv_w := sv_m2 199 rfl rfl
theorem kw_100 : Cond.code yJ9_min_7cf53 cJ9_min_7cf53 2 (some .int) ∈ sv_w := sv_m2 200 rfl rfl
theorem kw_101 : Cond.methodLink RJ1 88 yJ1_canEncode_9a6ad ∈ sv_w := sv_m2 192 rfl rfl
theorem kw_102 : Cond.static yJ1_canEncode_9a6ad ∈ sv_w := sv_m2 193 rfl rfl
theorem kw_103 : Cond.code yJ1_canEncode_9a6ad cJ1_canEncode_9a6ad 1 (some .boolean) ∈ sv_w := sv_m2 194 rfl rfl
theorem kw_104 : Cond.methodLink RJ1 95 yJ1_indexOfChar_4cfef ∈ sv_w := sv_m2 201 rfl rfl
theorem kw_105 : Cond.static yJ1_indexOfChar_4cfef ∈ sv_w := sv_m2 202 rfl rfl
theorem kw_106 : Cond.code yJ1_indexOfChar_4cfef cJ1_indexOfChar_4cfef 6 (some .int) ∈ sv_w := sv_m2 203 rfl rfl
theorem kw_107 : Cond.methodLink RJ0 1062 yJ3_checkFromToIndex_8c36e ∈ sv_w := sv_m2 219 rfl rfl
theorem kw_108 : Cond.static yJ3_checkFromToIndex_8c36e ∈ sv_w := sv_m2 220 rfl rfl
theorem kw_109 : Cond.code yJ3_checkFromToIndex_8c36e cJ3_checkFromToIndex_8c36e 4 (some .int) ∈ sv_w := sv_m2 221 rfl rfl
theorem kw_110 : Cond.methodLink RJ2 241 yJ0_checkBoundsBeginEnd_23922 ∈ sv_w := sv_m2 216 rfl rfl
theorem kw_111 : Cond.static yJ0_checkBoundsBeginEnd_23922 ∈ sv_w := sv_m2 217 rfl rfl
theorem kw_112 : Cond.code yJ0_checkBoundsBeginEnd_23922 cJ0_checkBoundsBeginEnd_23922 3 none ∈ sv_w := sv_m2 218 rfl rfl
theorem kw_113 : Cond.methodLink RJ2 96 yJ2_checkBoundsBeginEnd_d044e ∈ sv_w := sv_m2 213 rfl rfl
theorem kw_114 : Cond.static yJ2_checkBoundsBeginEnd_d044e ∈ sv_w := sv_m2 214 rfl rfl
theorem kw_115 : Cond.code yJ2_checkBoundsBeginEnd_d044e cJ2_checkBoundsBeginEnd_d044e 3 none ∈ sv_w := sv_m2 215 rfl rfl
theorem kw_116 : Cond.methodLink RJ2 244 yJ2_indexOfCharUnsafe_4cfef ∈ sv_w := sv_m2 222 rfl rfl
theorem kw_117 : Cond.static yJ2_indexOfCharUnsafe_4cfef ∈ sv_w := sv_m2 223 rfl rfl
theorem kw_118 : Cond.code yJ2_indexOfCharUnsafe_4cfef cJ2_indexOfCharUnsafe_4cfef 5 (some .int) ∈ sv_w := sv_m2 224 rfl rfl
theorem kw_119 : Cond.constant RJ11 110 (55232) ∈ sv_w := sv_m2 234 rfl rfl
theorem kw_120 : Cond.constant RJ11 76 (56320) ∈ sv_w := sv_m2 238 rfl rfl
theorem kw_121 : Cond.methodLink RJ2 164 yJ11_isValidCodePoint_9a6ad ∈ sv_w := sv_m2 228 rfl rfl
theorem kw_122 : Cond.static yJ11_isValidCodePoint_9a6ad ∈ sv_w := sv_m2 229 rfl rfl
theorem kw_123 : Cond.initialized RJ11 ∈ sv_w := sv_m1 16 rfl rfl
theorem kw_124 : Cond.code yJ11_isValidCodePoint_9a6ad cJ11_isValidCodePoint_9a6ad 2 (some .boolean) ∈ sv_w := sv_m2 230 rfl rfl
theorem kw_125 : Cond.methodLink RJ2 157 yJ11_highSurrogate_5068e ∈ sv_w := sv_m2 231 rfl rfl
theorem kw_126 : Cond.static yJ11_highSurrogate_5068e ∈ sv_w := sv_m2 232 rfl rfl
theorem kw_127 : Cond.code yJ11_highSurrogate_5068e cJ11_highSurrogate_5068e 1 (some .char) ∈ sv_w := sv_m2 233 rfl rfl
theorem kw_128 : Cond.methodLink RJ2 161 yJ11_lowSurrogate_5068e ∈ sv_w := sv_m2 235 rfl rfl
theorem kw_129 : Cond.static yJ11_lowSurrogate_5068e ∈ sv_w := sv_m2 236 rfl rfl
theorem kw_130 : Cond.code yJ11_lowSurrogate_5068e cJ11_lowSurrogate_5068e 1 (some .char) ∈ sv_w := sv_m2 237 rfl rfl
theorem kw_131 : Cond.methodLink RJ2 224 yJ9_max_7cf53 ∈ sv_w := sv_m2 207 rfl rfl
theorem kw_132 : Cond.methodLink RJ2 183 yJ9_min_7cf53 ∈ sv_w := sv_m2 208 rfl rfl
theorem kw_133 : Cond.constant RJ2 227 (65536) ∈ sv_w := sv_m2 209 rfl rfl
theorem kw_134 : Cond.methodLink RJ2 228 yJ2_indexOfChar_4cfef ∈ sv_w := sv_m2 210 rfl rfl
theorem kw_135 : Cond.static yJ2_indexOfChar_4cfef ∈ sv_w := sv_m2 211 rfl rfl
theorem kw_136 : Cond.code yJ2_indexOfChar_4cfef cJ2_indexOfChar_4cfef 4 (some .int) ∈ sv_w := sv_m2 212 rfl rfl
theorem kw_137 : Cond.methodLink RJ2 232 yJ2_indexOfSupplementary_4cfef ∈ sv_w := sv_m2 225 rfl rfl
theorem kw_138 : Cond.static yJ2_indexOfSupplementary_4cfef ∈ sv_w := sv_m2 226 rfl rfl
theorem kw_139 : Cond.code yJ2_indexOfSupplementary_4cfef cJ2_indexOfSupplementary_4cfef 7 (some .int) ∈ sv_w := sv_m2 227 rfl rfl
theorem kw_140 : Cond.methodLink RJ0 505 yJ0_length_8abf5 ∈ sv_w := sv_m2 181 rfl rfl
theorem kw_141 : Cond.instanceMethod yJ0_length_8abf5 ∈ sv_w := sv_m2 182 rfl rfl
theorem kw_142 : Cond.selects RJ0 yJ0_length_8abf5 yJ0_length_8abf5 ∈ sv_w := sv_m2 183 rfl rfl
theorem kw_143 : Cond.code yJ0_length_8abf5 cJ0_length_8abf5 1 (some .int) ∈ sv_w := sv_m2 184 rfl rfl
theorem kw_144 : Cond.methodLink RJ0 637 yJ1_indexOf_4cfef ∈ sv_w := sv_m2 189 rfl rfl
theorem kw_145 : Cond.static yJ1_indexOf_4cfef ∈ sv_w := sv_m2 190 rfl rfl
theorem kw_146 : Cond.code yJ1_indexOf_4cfef cJ1_indexOf_4cfef 4 (some .int) ∈ sv_w := sv_m2 191 rfl rfl
theorem kw_147 : Cond.methodLink RJ0 640 yJ2_indexOf_4cfef ∈ sv_w := sv_m2 204 rfl rfl
theorem kw_148 : Cond.static yJ2_indexOf_4cfef ∈ sv_w := sv_m2 205 rfl rfl
theorem kw_149 : Cond.code yJ2_indexOf_4cfef cJ2_indexOf_4cfef 4 (some .int) ∈ sv_w := sv_m2 206 rfl rfl
theorem kw_150 : Cond.methodLink RJ0 633 yJ0_indexOf_7cf53 ∈ sv_w := sv_m2 177 rfl rfl
theorem kw_151 : Cond.instanceMethod yJ0_indexOf_7cf53 ∈ sv_w := sv_m2 178 rfl rfl
theorem kw_152 : Cond.selects RJ0 yJ0_indexOf_7cf53 yJ0_indexOf_7cf53 ∈ sv_w := sv_m2 179 rfl rfl
theorem kw_153 : Cond.code yJ0_indexOf_7cf53 cJ0_indexOf_7cf53 3 (some .int) ∈ sv_w := sv_m2 180 rfl rfl
theorem kw_154 : Cond.methodLink RX1 70 yX1_isEmpty ∈ sv_w := sv_m2 87 rfl rfl
theorem kw_155 : Cond.instanceMethod yX1_isEmpty ∈ sv_w := sv_m2 88 rfl rfl
theorem kw_156 : Cond.selects RX1 yX1_isEmpty yX1_isEmpty ∈ sv_w := sv_m2 89 rfl rfl
theorem kw_157 : Cond.code yX1_isEmpty cX1_isEmpty 2 (some .boolean) ∈ sv_w := sv_m2 90 rfl rfl
theorem kw_158 : Cond.methodLink RX1 74 yX1_at ∈ sv_w := sv_m2 108 rfl rfl
theorem kw_159 : Cond.instanceMethod yX1_at ∈ sv_w := sv_m2 110 rfl rfl
theorem kw_160 : Cond.selects RX1 yX1_at yX1_at ∈ sv_w := sv_p1 11 rfl rfl
theorem kw_161 : Cond.code yX1_at cX1_at 2 (some .int) ∈ sv_w := sv_m2 111 rfl rfl
theorem kw_162 : Cond.methodLink RX1 75 yJ0_indexOf_0f7a4 ∈ sv_w := sv_m2 173 rfl rfl
theorem kw_163 : Cond.instanceMethod yJ0_indexOf_0f7a4 ∈ sv_w := sv_m2 174 rfl rfl
theorem kw_164 : Cond.selects RJ0 yJ0_indexOf_0f7a4 yJ0_indexOf_0f7a4 ∈ sv_w := sv_m2 175 rfl rfl
theorem kw_165 : Cond.code yJ0_indexOf_0f7a4 cJ0_indexOf_0f7a4 2 (some .int) ∈ sv_w := sv_m2 176 rfl rfl
theorem kw_166 : Cond.methodLink RX1 78 yX1_digits ∈ sv_w := sv_m2 96 rfl rfl
theorem kw_167 : Cond.instanceMethod yX1_digits ∈ sv_w := sv_m2 98 rfl rfl
theorem kw_168 : Cond.selects RX1 yX1_digits yX1_digits ∈ sv_w := sv_p1 8 rfl rfl
theorem kw_169 : Cond.code yX1_digits cX1_digits 13 (some .int) ∈ sv_w := sv_m2 99 rfl rfl
theorem kw_170 : Cond.methodLink RX1 82 yX1_decimal ∈ sv_w := sv_m2 152 rfl rfl
theorem kw_171 : Cond.instanceMethod yX1_decimal ∈ sv_w := sv_m2 145 rfl rfl
theorem kw_172 : Cond.selects RX1 yX1_decimal yX1_decimal ∈ sv_w := sv_m2 146 rfl rfl
theorem kw_173 : Cond.code yX1_decimal cX1_decimal 4 (some .int) ∈ sv_w := sv_m2 147 rfl rfl
theorem kw_174 : Cond.constant RX1 86 (36000) ∈ sv_w := sv_m3 3 rfl rfl
theorem kw_175 : Cond.methodLink RX1 87 yX1_onSide ∈ sv_w := sv_m2 127 rfl rfl
theorem kw_176 : Cond.instanceMethod yX1_onSide ∈ sv_w := sv_m2 129 rfl rfl
theorem kw_177 : Cond.selects RX1 yX1_onSide yX1_onSide ∈ sv_w := sv_p1 13 rfl rfl
theorem kw_178 : Cond.code yX1_onSide cX1_onSide 6 (some .int) ∈ sv_w := sv_m2 130 rfl rfl
theorem kw_179 : Cond.constant RX1 91 (10000000) ∈ sv_w := sv_m2 112 rfl rfl
theorem kw_180 : Cond.constant RX1 92 (100000) ∈ sv_w := sv_m2 113 rfl rfl
theorem kw_181 : Cond.constant RX1 93 (59999) ∈ sv_w := sv_m2 114 rfl rfl
theorem kw_182 : Cond.constant RX1 94 (60000) ∈ sv_w := sv_m2 115 rfl rfl
theorem kw_183 : Cond.methodLink RX1 95 yX1_whole ∈ sv_w := sv_m3 8 rfl rfl
theorem kw_184 : Cond.instanceMethod yX1_whole ∈ sv_w := sv_m2 141 rfl rfl
theorem kw_185 : Cond.selects RX1 yX1_whole yX1_whole ∈ sv_w := sv_m2 142 rfl rfl
theorem kw_186 : Cond.code yX1_whole cX1_whole 4 (some .int) ∈ sv_w := sv_m2 143 rfl rfl
theorem kw_187 : Cond.constant RX1 103 (1000000) ∈ sv_w := sv_m2 125 rfl rfl
theorem kw_188 : Cond.constant RX1 104 (600000) ∈ sv_w := sv_m2 126 rfl rfl
theorem kw_189 : Cond.constant RX1 98 (54000000) ∈ sv_w := sv_m2 120 rfl rfl
theorem kw_190 : Cond.methodLink RX1 99 yX1_angle ∈ sv_w := sv_m2 121 rfl rfl
theorem kw_191 : Cond.instanceMethod yX1_angle ∈ sv_w := sv_m2 123 rfl rfl
theorem kw_192 : Cond.selects RX1 yX1_angle yX1_angle ∈ sv_w := sv_p1 12 rfl rfl
theorem kw_193 : Cond.code yX1_angle cX1_angle 7 (some .int) ∈ sv_w := sv_m2 124 rfl rfl
theorem kw_194 : Cond.constant RX1 102 (108000000) ∈ sv_w := sv_m2 135 rfl rfl
theorem kw_195 : Cond.methodLink RX1 105 yX0_append ∈ sv_w := sv_m3 60 rfl rfl
theorem kw_196 : Cond.instanceMethod yX0_append ∈ sv_w := sv_m3 61 rfl rfl
theorem kw_197 : Cond.selects RX0 yX0_append yX0_append ∈ sv_w := sv_m3 62 rfl rfl
theorem kw_198 : Cond.initialized RX0 ∈ sv_w := sv_m1 8 rfl rfl
theorem kw_199 : Cond.code yX0_append cX0_append 8 none ∈ sv_w := sv_m3 63 rfl rfl
theorem kw_200 : Cond.methodLink RX2 3 objectInit ∈ sv_w := sv_m1 157 rfl rfl
theorem kw_201 : Cond.classLink RX2 11 RX7 ∈ sv_w := sv_m1 158 rfl rfl
theorem kw_202 : Cond.fieldLink RX2 13 "SeaReceiver$Fleet" "vessels" "[LSeaReceiver$Vessel;" ∈ sv_w := sv_m1 160 rfl rfl
theorem kw_203 : Cond.fieldLink RX2 17 "SeaReceiver$Fleet" "size" "I" ∈ sv_w := sv_m1 161 rfl rfl
theorem kw_204 : Cond.fieldLink RX2 21 "SeaReceiver$Vessel" "values" "[I" ∈ sv_w := sv_m3 95 rfl rfl
theorem kw_205 : Cond.constant RX2 25 (-2147483648) ∈ sv_w := sv_m3 88 rfl rfl
theorem kw_206 : Cond.methodLink RX7 3 objectInit ∈ sv_w := sv_m3 93 rfl rfl
theorem kw_207 : Cond.fieldLink RX7 11 "SeaReceiver$Vessel" "values" "[I" ∈ sv_w := sv_m3 94 rfl rfl
theorem kw_208 : Cond.fieldLink RX7 15 "SeaReceiver$Vessel" "lengths" "[I" ∈ sv_w := sv_m3 97 rfl rfl
theorem kw_209 : Cond.fieldLink RX7 18 "SeaReceiver$Vessel" "signs" "[B" ∈ sv_w := sv_m3 99 rfl rfl
theorem kw_210 : Cond.constant RX7 34 (-2147483648) ∈ sv_w := sv_m3 111 rfl rfl
theorem kw_211 : Cond.methodLink RX7 35 yJ7_fill_53178 ∈ sv_w := sv_m3 112 rfl rfl
theorem kw_212 : Cond.instantiable RX7 3 ∈ sv_w := sv_m3 89 rfl rfl
theorem kw_213 : Cond.initialized RX7 ∈ sv_w := sv_m1 17 rfl rfl
theorem kw_214 : Cond.methodLink RX2 26 yX2_numberOf ∈ sv_w := sv_m3 84 rfl rfl
theorem kw_215 : Cond.instanceMethod yX2_numberOf ∈ sv_w := sv_m3 85 rfl rfl
theorem kw_216 : Cond.selects RX2 yX2_numberOf yX2_numberOf ∈ sv_w := sv_m3 86 rfl rfl
theorem kw_217 : Cond.initialized RX2 ∈ sv_w := sv_m1 9 rfl rfl
theorem kw_218 : Cond.code yX2_numberOf cX2_numberOf 3 (some .int) ∈ sv_w := sv_m3 87 rfl rfl
theorem kw_219 : Cond.instanceMethod yX7_init ∈ sv_w := sv_m3 91 rfl rfl
theorem kw_220 : Cond.code yX7_init cX7_init 1 none ∈ sv_w := sv_m3 92 rfl rfl
theorem kw_221 : Cond.methodLink RX2 31 yX7_begin ∈ sv_w := sv_m3 107 rfl rfl
theorem kw_222 : Cond.instanceMethod yX7_begin ∈ sv_w := sv_m3 108 rfl rfl
theorem kw_223 : Cond.selects RX7 yX7_begin yX7_begin ∈ sv_w := sv_m3 109 rfl rfl
theorem kw_224 : Cond.code yX7_begin cX7_begin 2 none ∈ sv_w := sv_m3 110 rfl rfl
theorem kw_225 : Cond.methodLink RX3 3 objectInit ∈ sv_w := sv_m1 122 rfl rfl
theorem kw_226 : Cond.classLink RX3 11 RX0 ∈ sv_w := sv_m1 123 rfl rfl
theorem kw_227 : Cond.fieldLink RX3 13 "SeaReceiver$Parts" "rows" "[LSeaReceiver$BitRow;" ∈ sv_w := sv_m1 125 rfl rfl
theorem kw_228 : Cond.fieldLink RX3 17 "SeaReceiver$Parts" "manys" "[I" ∈ sv_w := sv_m1 126 rfl rfl
theorem kw_229 : Cond.fieldLink RX3 21 "SeaReceiver$Parts" "kept" "[I" ∈ sv_w := sv_m1 127 rfl rfl
theorem kw_230 : Cond.methodLink RX3 24 yJ7_fill_53178 ∈ sv_w := sv_m3 191 rfl rfl
theorem kw_231 : Cond.instantiable RX0 3 ∈ sv_w := sv_m1 136 rfl rfl
theorem kw_232 : Cond.methodLink RX3 30 yX0_init ∈ sv_w := sv_m3 50 rfl rfl
theorem kw_233 : Cond.instanceMethod yX0_init ∈ sv_w := sv_m1 138 rfl rfl
theorem kw_234 : Cond.code yX0_init cX0_init 2 none ∈ sv_w := sv_m1 139 rfl rfl
theorem kw_235 : Cond.methodLink RX3 33 yX0_empty ∈ sv_w := sv_m3 51 rfl rfl
theorem kw_236 : Cond.instanceMethod yX0_empty ∈ sv_w := sv_m3 52 rfl rfl
theorem kw_237 : Cond.selects RX0 yX0_empty yX0_empty ∈ sv_w := sv_m3 53 rfl rfl
theorem kw_238 : Cond.code yX0_empty cX0_empty 1 none ∈ sv_w := sv_m3 54 rfl rfl
theorem kw_239 : Cond.methodLink RX4 3 objectInit ∈ sv_w := sv_m1 104 rfl rfl
theorem kw_240 : Cond.fieldLink RX4 11 "SeaReceiver$Position" "told" "[I" ∈ sv_w := sv_m1 109 rfl rfl
theorem kw_241 : Cond.fieldLink RX4 15 "SeaReceiver$Position" "fresh" "[I" ∈ sv_w := sv_m1 111 rfl rfl
theorem kw_242 : Cond.constant RX4 18 (-2147483648) ∈ sv_w := sv_m1 105 rfl rfl
theorem kw_243 : Cond.methodLink RX4 19 yJ7_fill_53178 ∈ sv_w := sv_m1 106 rfl rfl
theorem kw_244 : Cond.fieldLink RX4 25 "SeaReceiver$Fields" "many" "I" ∈ sv_w := sv_m1 85 rfl rfl
theorem kw_245 : Cond.fieldLink RX4 58 "SeaReceiver$Fields" "good" "Z" ∈ sv_w := sv_m1 88 rfl rfl
theorem kw_246 : Cond.fieldLink RX4 62 "SeaReceiver$Position" "OF_GGA" "[I" ∈ sv_w := sv_m2 157 rfl rfl
theorem kw_247 : Cond.methodLink RX4 31 yX1_time ∈ sv_w := sv_m2 83 rfl rfl
theorem kw_248 : Cond.instanceMethod yX1_time ∈ sv_w := sv_m2 84 rfl rfl
theorem kw_249 : Cond.selects RX1 yX1_time yX1_time ∈ sv_w := sv_m2 85 rfl rfl
theorem kw_250 : Cond.code yX1_time cX1_time 6 (some .int) ∈ sv_w := sv_m2 86 rfl rfl
theorem kw_251 : Cond.methodLink RX4 35 yX1_latitude ∈ sv_w := sv_m2 116 rfl rfl
theorem kw_252 : Cond.instanceMethod yX1_latitude ∈ sv_w := sv_m2 117 rfl rfl
theorem kw_253 : Cond.selects RX1 yX1_latitude yX1_latitude ∈ sv_w := sv_m2 118 rfl rfl
theorem kw_254 : Cond.code yX1_latitude cX1_latitude 2 (some .int) ∈ sv_w := sv_m2 119 rfl rfl
theorem kw_255 : Cond.methodLink RX4 38 yX1_longitude ∈ sv_w := sv_m2 131 rfl rfl
theorem kw_256 : Cond.instanceMethod yX1_longitude ∈ sv_w := sv_m2 132 rfl rfl
theorem kw_257 : Cond.selects RX1 yX1_longitude yX1_longitude ∈ sv_w := sv_m2 133 rfl rfl
theorem kw_258 : Cond.code yX1_longitude cX1_longitude 2 (some .int) ∈ sv_w := sv_m2 134 rfl rfl
theorem kw_259 : Cond.methodLink RX4 41 yX1_digit ∈ sv_w := sv_m2 136 rfl rfl
theorem kw_260 : Cond.instanceMethod yX1_digit ∈ sv_w := sv_m2 137 rfl rfl
theorem kw_261 : Cond.selects RX1 yX1_digit yX1_digit ∈ sv_w := sv_m2 138 rfl rfl
theorem kw_262 : Cond.code yX1_digit cX1_digit 6 (some .int) ∈ sv_w := sv_m2 139 rfl rfl
theorem kw_263 : Cond.methodLink RX4 45 yX1_whole ∈ sv_w := sv_m2 140 rfl rfl
theorem kw_264 : Cond.methodLink RX4 48 yX1_decimal ∈ sv_w := sv_m2 144 rfl rfl
theorem kw_265 : Cond.methodLink RX4 51 yX1_signed ∈ sv_w := sv_m2 148 rfl rfl
theorem kw_266 : Cond.instanceMethod yX1_signed ∈ sv_w := sv_m2 149 rfl rfl
theorem kw_267 : Cond.selects RX1 yX1_signed yX1_signed ∈ sv_w := sv_m2 150 rfl rfl
theorem kw_268 : Cond.code yX1_signed cX1_signed 5 (some .int) ∈ sv_w := sv_m2 151 rfl rfl
theorem kw_269 : Cond.methodLink RX4 54 yX1_checkUnit ∈ sv_w := sv_m2 153 rfl rfl
theorem kw_270 : Cond.instanceMethod yX1_checkUnit ∈ sv_w := sv_m2 154 rfl rfl
theorem kw_271 : Cond.selects RX1 yX1_checkUnit yX1_checkUnit ∈ sv_w := sv_m2 155 rfl rfl
theorem kw_272 : Cond.code yX1_checkUnit cX1_checkUnit 4 none ∈ sv_w := sv_m2 156 rfl rfl
theorem kw_273 : Cond.methodLink RX4 65 yX4_settle ∈ sv_w := sv_m2 159 rfl rfl
theorem kw_274 : Cond.instanceMethod yX4_settle ∈ sv_w := sv_m2 161 rfl rfl
theorem kw_275 : Cond.selects RX4 yX4_settle yX4_settle ∈ sv_w := sv_p1 14 rfl rfl
theorem kw_276 : Cond.initialized RX4 ∈ sv_w := sv_m1 5 rfl rfl
theorem kw_277 : Cond.code yX4_settle cX4_settle 4 (some .boolean) ∈ sv_w := sv_m2 162 rfl rfl
theorem kw_278 : Cond.fieldLink RX4 90 "SeaReceiver$Position" "OF_RMC" "[I" ∈ sv_w := sv_m3 14 rfl rfl
theorem kw_279 : Cond.methodLink RX4 69 yX1_isEmpty ∈ sv_w := sv_m2 167 rfl rfl
theorem kw_280 : Cond.methodLink RX4 75 yX1_oneOf ∈ sv_w := sv_m2 169 rfl rfl
theorem kw_281 : Cond.instanceMethod yX1_oneOf ∈ sv_w := sv_m2 170 rfl rfl
theorem kw_282 : Cond.selects RX1 yX1_oneOf yX1_oneOf ∈ sv_w := sv_m2 171 rfl rfl
theorem kw_283 : Cond.code yX1_oneOf cX1_oneOf 5 (some .int) ∈ sv_w := sv_m2 172 rfl rfl
theorem kw_284 : Cond.methodLink RX4 79 yX1_course ∈ sv_w := sv_m2 239 rfl rfl
theorem kw_285 : Cond.instanceMethod yX1_course ∈ sv_w := sv_m3 0 rfl rfl
theorem kw_286 : Cond.selects RX1 yX1_course yX1_course ∈ sv_w := sv_m3 1 rfl rfl
theorem kw_287 : Cond.code yX1_course cX1_course 3 (some .int) ∈ sv_w := sv_m3 2 rfl rfl
theorem kw_288 : Cond.methodLink RX4 82 yX1_date ∈ sv_w := sv_m3 4 rfl rfl
theorem kw_289 : Cond.instanceMethod yX1_date ∈ sv_w := sv_m3 5 rfl rfl
theorem kw_290 : Cond.selects RX1 yX1_date yX1_date ∈ sv_w := sv_m3 6 rfl rfl
theorem kw_291 : Cond.code yX1_date cX1_date 6 (some .int) ∈ sv_w := sv_m3 7 rfl rfl
theorem kw_292 : Cond.methodLink RX4 85 yX1_variation ∈ sv_w := sv_m3 9 rfl rfl
theorem kw_293 : Cond.instanceMethod yX1_variation ∈ sv_w := sv_m3 10 rfl rfl
theorem kw_294 : Cond.selects RX1 yX1_variation yX1_variation ∈ sv_w := sv_m3 11 rfl rfl
theorem kw_295 : Cond.code yX1_variation cX1_variation 3 (some .int) ∈ sv_w := sv_m3 12 rfl rfl
theorem kw_296 : Cond.fieldLink RX4 93 "SeaReceiver$Position" "OF_VTG" "[I" ∈ sv_w := sv_m3 20 rfl rfl
theorem kw_297 : Cond.methodLink RX5 3 objectInit ∈ sv_w := sv_m1 52 rfl rfl
theorem kw_298 : Cond.fieldLink RX5 15 "SeaReceiver$Sentence" "stage" "I" ∈ sv_w := sv_m1 54 rfl rfl
theorem kw_299 : Cond.fieldLink RX5 38 "SeaReceiver$Sentence" "start" "I" ∈ sv_w := sv_m1 55 rfl rfl
theorem kw_300 : Cond.fieldLink RX5 41 "SeaReceiver$Sentence" "sum" "I" ∈ sv_w := sv_m1 59 rfl rfl
theorem kw_301 : Cond.fieldLink RX5 44 "SeaReceiver$Sentence" "toldSum" "I" ∈ sv_w := sv_m1 61 rfl rfl
theorem kw_302 : Cond.methodLink RX5 27 yX5_step ∈ sv_w := sv_m1 237 rfl rfl
theorem kw_303 : Cond.instanceMethod yX5_step ∈ sv_w := sv_m1 239 rfl rfl
theorem kw_304 : Cond.selects RX5 yX5_step yX5_step ∈ sv_w := sv_p1 1 rfl rfl
theorem kw_305 : Cond.code yX5_step cX5_step 3 (some .int) ∈ sv_w := sv_m2 0 rfl rfl
theorem kw_306 : Cond.methodLink RX5 23 yX5_begin ∈ sv_w := sv_m1 233 rfl rfl
theorem kw_307 : Cond.instanceMethod yX5_begin ∈ sv_w := sv_m1 235 rfl rfl
theorem kw_308 : Cond.selects RX5 yX5_begin yX5_begin ∈ sv_w := sv_p1 0 rfl rfl
theorem kw_309 : Cond.code yX5_begin cX5_begin 3 (some .int) ∈ sv_w := sv_m1 236 rfl rfl
theorem kw_310 : Cond.methodLink RX5 31 yX5_store ∈ sv_w := sv_m2 1 rfl rfl
theorem kw_311 : Cond.instanceMethod yX5_store ∈ sv_w := sv_m2 3 rfl rfl
theorem kw_312 : Cond.selects RX5 yX5_store yX5_store ∈ sv_w := sv_p1 2 rfl rfl
theorem kw_313 : Cond.code yX5_store cX5_store 2 (some .int) ∈ sv_w := sv_m2 4 rfl rfl
theorem kw_314 : Cond.methodLink RX5 34 yX5_hearDigit ∈ sv_w := sv_m2 5 rfl rfl
theorem kw_315 : Cond.instanceMethod yX5_hearDigit ∈ sv_w := sv_m2 7 rfl rfl
theorem kw_316 : Cond.selects RX5 yX5_hearDigit yX5_hearDigit ∈ sv_w := sv_p1 3 rfl rfl
theorem kw_317 : Cond.code yX5_hearDigit cX5_hearDigit 3 (some .int) ∈ sv_w := sv_m2 8 rfl rfl
theorem kw_318 : Cond.methodLink RX6 3 objectInit ∈ sv_w := sv_m1 36 rfl rfl
theorem kw_319 : Cond.fieldLink RX6 9 "SeaReceiver$SignRow" "signs" "[B" ∈ sv_w := sv_m1 37 rfl rfl
theorem kw_320 : Cond.fieldLink RX6 15 "SeaReceiver$SignRow" "size" "I" ∈ sv_w := sv_m1 38 rfl rfl
theorem kw_321 : Cond.methodLink RX6 19 yX6_add ∈ sv_w := sv_m1 212 rfl rfl
theorem kw_322 : Cond.instanceMethod yX6_add ∈ sv_w := sv_m1 213 rfl rfl
theorem kw_323 : Cond.selects RX6 yX6_add yX6_add ∈ sv_w := sv_m1 214 rfl rfl
theorem kw_324 : Cond.initialized RX6 ∈ sv_w := sv_m1 2 rfl rfl
theorem kw_325 : Cond.code yX6_add cX6_add 2 none ∈ sv_w := sv_m1 215 rfl rfl
theorem kw_326 : Cond.methodLink RX6 23 yJ0_length_8abf5 ∈ sv_w := sv_m4 90 rfl rfl
theorem kw_327 : Cond.methodLink RX6 29 yJ0_charAt_5068e ∈ sv_w := sv_m4 91 rfl rfl
theorem kw_328 : Cond.constant RX6 33 (-2147483648) ∈ sv_w := sv_m1 228 rfl rfl
theorem kw_329 : Cond.fieldLink RX7 22 "SeaReceiver$Vessel" "OF_4" "[I" ∈ sv_w := sv_m3 120 rfl rfl
theorem kw_330 : Cond.fieldLink RX7 25 "SeaReceiver$Vessel" "OF_5" "[I" ∈ sv_w := sv_m3 122 rfl rfl
theorem kw_331 : Cond.fieldLink RX7 28 "SeaReceiver$Vessel" "OF_18" "[I" ∈ sv_w := sv_m3 124 rfl rfl
theorem kw_332 : Cond.fieldLink RX7 31 "SeaReceiver$Vessel" "OF_1" "[I" ∈ sv_w := sv_m3 126 rfl rfl
theorem kw_333 : Cond.methodLink RX7 49 yX0_read ∈ sv_w := sv_m3 132 rfl rfl
theorem kw_334 : Cond.instanceMethod yX0_read ∈ sv_w := sv_m3 73 rfl rfl
theorem kw_335 : Cond.selects RX0 yX0_read yX0_read ∈ sv_w := sv_m3 74 rfl rfl
theorem kw_336 : Cond.code yX0_read cX0_read 6 (some .int) ∈ sv_w := sv_m3 75 rfl rfl
theorem kw_337 : Cond.methodLink RX7 41 yX7_layoutOf ∈ sv_w := sv_m3 117 rfl rfl
theorem kw_338 : Cond.static yX7_layoutOf ∈ sv_w := sv_m3 118 rfl rfl
theorem kw_339 : Cond.code yX7_layoutOf cX7_layoutOf 1 (some (.array .int)) ∈ sv_w := sv_m3 119 rfl rfl
theorem kw_340 : Cond.methodLink RX7 45 yX7_learnText ∈ sv_w := sv_m3 128 rfl rfl
theorem kw_341 : Cond.instanceMethod yX7_learnText ∈ sv_w := sv_m3 130 rfl rfl
theorem kw_342 : Cond.selects RX7 yX7_learnText yX7_learnText ∈ sv_w := sv_p2 2 rfl rfl
theorem kw_343 : Cond.code yX7_learnText cX7_learnText 8 none ∈ sv_w := sv_m3 131 rfl rfl
theorem kw_344 : Cond.methodLink RX7 55 yX7_hasSign ∈ sv_w := sv_m3 133 rfl rfl
theorem kw_345 : Cond.static yX7_hasSign ∈ sv_w := sv_m3 134 rfl rfl
theorem kw_346 : Cond.code yX7_hasSign cX7_hasSign 1 (some .boolean) ∈ sv_w := sv_m3 135 rfl rfl
theorem kw_347 : Cond.methodLink RX7 70 yX7_signOf ∈ sv_w := sv_m4 79 rfl rfl
theorem kw_348 : Cond.instanceMethod yX7_signOf ∈ sv_w := sv_m3 162 rfl rfl
theorem kw_349 : Cond.selects RX7 yX7_signOf yX7_signOf ∈ sv_w := sv_m3 163 rfl rfl
theorem kw_350 : Cond.code yX7_signOf cX7_signOf 3 (some .int) ∈ sv_w := sv_m3 164 rfl rfl
theorem kw_351 : Cond.methodLink RX7 62 yX0_append ∈ sv_w := sv_m4 74 rfl rfl
theorem kw_352 : Cond.methodLink RX7 59 yX0_empty ∈ sv_w := sv_m4 73 rfl rfl
theorem kw_353 : Cond.methodLink RX7 66 yX7_tellText ∈ sv_w := sv_m4 75 rfl rfl
theorem kw_354 : Cond.instanceMethod yX7_tellText ∈ sv_w := sv_m4 77 rfl rfl
theorem kw_355 : Cond.selects RX7 yX7_tellText yX7_tellText ∈ sv_w := sv_p2 4 rfl rfl
theorem kw_356 : Cond.code yX7_tellText cX7_tellText 7 none ∈ sv_w := sv_m4 78 rfl rfl
theorem kw_357 : Cond.methodLink RX8 1 objectInit ∈ sv_w := sv_m1 28 rfl rfl
theorem kw_358 : Cond.fieldLink RX8 9 "SeaReceiver" "tallies" "[I" ∈ sv_w := sv_m1 168 rfl rfl
theorem kw_359 : Cond.classLink RX8 13 RX6 ∈ sv_w := sv_m1 31 rfl rfl
theorem kw_360 : Cond.instantiable RX6 2 ∈ sv_w := sv_m1 32 rfl rfl
theorem kw_361 : Cond.fieldLink RX8 18 "SeaReceiver" "tape" "LSeaReceiver$SignRow;" ∈ sv_w := sv_m1 169 rfl rfl
theorem kw_362 : Cond.fieldLink RX8 22 "SeaReceiver" "sent" "LSeaReceiver$SignRow;" ∈ sv_w := sv_m1 170 rfl rfl
theorem kw_363 : Cond.classLink RX8 25 RX5 ∈ sv_w := sv_m1 47 rfl rfl
theorem kw_364 : Cond.instantiable RX5 6 ∈ sv_w := sv_m1 48 rfl rfl
theorem kw_365 : Cond.fieldLink RX8 28 "SeaReceiver" "sentence" "LSeaReceiver$Sentence;" ∈ sv_w := sv_m1 171 rfl rfl
theorem kw_366 : Cond.classLink RX8 32 RX1 ∈ sv_w := sv_m1 76 rfl rfl
theorem kw_367 : Cond.instantiable RX1 4 ∈ sv_w := sv_m1 77 rfl rfl
theorem kw_368 : Cond.fieldLink RX8 35 "SeaReceiver" "fields" "LSeaReceiver$Fields;" ∈ sv_w := sv_m1 172 rfl rfl
theorem kw_369 : Cond.classLink RX8 39 RX4 ∈ sv_w := sv_m1 99 rfl rfl
theorem kw_370 : Cond.instantiable RX4 2 ∈ sv_w := sv_m1 100 rfl rfl
theorem kw_371 : Cond.fieldLink RX8 42 "SeaReceiver" "position" "LSeaReceiver$Position;" ∈ sv_w := sv_m1 173 rfl rfl
theorem kw_372 : Cond.classLink RX8 46 RX3 ∈ sv_w := sv_m1 117 rfl rfl
theorem kw_373 : Cond.instantiable RX3 3 ∈ sv_w := sv_m1 118 rfl rfl
theorem kw_374 : Cond.initialized RX3 ∈ sv_w := sv_m1 7 rfl rfl
theorem kw_375 : Cond.fieldLink RX8 49 "SeaReceiver" "parts" "LSeaReceiver$Parts;" ∈ sv_w := sv_m1 174 rfl rfl
theorem kw_376 : Cond.classLink RX8 53 RX0 ∈ sv_w := sv_m1 135 rfl rfl
theorem kw_377 : Cond.fieldLink RX8 56 "SeaReceiver" "message" "LSeaReceiver$BitRow;" ∈ sv_w := sv_m1 175 rfl rfl
theorem kw_378 : Cond.classLink RX8 60 RX2 ∈ sv_w := sv_m1 152 rfl rfl
theorem kw_379 : Cond.instantiable RX2 2 ∈ sv_w := sv_m1 153 rfl rfl
theorem kw_380 : Cond.fieldLink RX8 63 "SeaReceiver" "fleet" "LSeaReceiver$Fleet;" ∈ sv_w := sv_m1 176 rfl rfl
theorem kw_381 : Cond.fieldLink RX8 67 "SeaReceiver" "report" "LSeaReceiver$BitRow;" ∈ sv_w := sv_m1 177 rfl rfl
theorem kw_382 : Cond.methodLink RX8 15 yX6_init ∈ sv_w := sv_m1 33 rfl rfl
theorem kw_383 : Cond.instanceMethod yX6_init ∈ sv_w := sv_m1 34 rfl rfl
theorem kw_384 : Cond.code yX6_init cX6_init 2 none ∈ sv_w := sv_m1 35 rfl rfl
theorem kw_385 : Cond.instanceMethod yX5_init ∈ sv_w := sv_m1 50 rfl rfl
theorem kw_386 : Cond.code yX5_init cX5_init 1 none ∈ sv_w := sv_m1 51 rfl rfl
theorem kw_387 : Cond.instanceMethod yX1_init ∈ sv_w := sv_m1 79 rfl rfl
theorem kw_388 : Cond.code yX1_init cX1_init 1 none ∈ sv_w := sv_m1 80 rfl rfl
theorem kw_389 : Cond.methodLink RX8 41 yX4_init ∈ sv_w := sv_m1 101 rfl rfl
theorem kw_390 : Cond.instanceMethod yX4_init ∈ sv_w := sv_m1 102 rfl rfl
theorem kw_391 : Cond.code yX4_init cX4_init 1 none ∈ sv_w := sv_m1 103 rfl rfl
theorem kw_392 : Cond.instanceMethod yX3_init ∈ sv_w := sv_m1 120 rfl rfl
theorem kw_393 : Cond.code yX3_init cX3_init 1 none ∈ sv_w := sv_m1 121 rfl rfl
theorem kw_394 : Cond.methodLink RX8 55 yX0_init ∈ sv_w := sv_m1 137 rfl rfl
theorem kw_395 : Cond.instanceMethod yX2_init ∈ sv_w := sv_m1 155 rfl rfl
theorem kw_396 : Cond.code yX2_init cX2_init 1 none ∈ sv_w := sv_m1 156 rfl rfl
theorem kw_397 : Cond.constant RX8 74 (-2147483648) ∈ sv_w := sv_m1 207 rfl rfl
theorem kw_398 : Cond.fieldLink RX8 78 "SeaReceiver$SignRow" "size" "I" ∈ sv_w := sv_m1 39 rfl rfl
theorem kw_399 : Cond.methodLink RX8 70 yX6_hasRoom ∈ sv_w := sv_m1 203 rfl rfl
theorem kw_400 : Cond.instanceMethod yX6_hasRoom ∈ sv_w := sv_m1 204 rfl rfl
theorem kw_401 : Cond.selects RX6 yX6_hasRoom yX6_hasRoom ∈ sv_w := sv_m1 205 rfl rfl
theorem kw_402 : Cond.code yX6_hasRoom cX6_hasRoom 2 (some .boolean) ∈ sv_w := sv_m1 206 rfl rfl
theorem kw_403 : Cond.methodLink RX8 75 yX6_addWord ∈ sv_w := sv_m1 208 rfl rfl
theorem kw_404 : Cond.instanceMethod yX6_addWord ∈ sv_w := sv_m1 209 rfl rfl
theorem kw_405 : Cond.selects RX6 yX6_addWord yX6_addWord ∈ sv_w := sv_m1 210 rfl rfl
theorem kw_406 : Cond.code yX6_addWord cX6_addWord 2 none ∈ sv_w := sv_m1 211 rfl rfl
theorem kw_407 : Cond.methodLink RX8 247 yX3_drop ∈ sv_w := sv_m3 38 rfl rfl
theorem kw_408 : Cond.instanceMethod yX3_drop ∈ sv_w := sv_m3 39 rfl rfl
theorem kw_409 : Cond.selects RX3 yX3_drop yX3_drop ∈ sv_w := sv_m3 40 rfl rfl
theorem kw_410 : Cond.code yX3_drop cX3_drop 2 (some .boolean) ∈ sv_w := sv_m3 41 rfl rfl
theorem kw_411 : Cond.methodLink RX8 253 yX3_awaits ∈ sv_w := sv_m3 42 rfl rfl
theorem kw_412 : Cond.instanceMethod yX3_awaits ∈ sv_w := sv_m3 43 rfl rfl
theorem kw_413 : Cond.selects RX3 yX3_awaits yX3_awaits ∈ sv_w := sv_m3 44 rfl rfl
theorem kw_414 : Cond.code yX3_awaits cX3_awaits 4 (some .boolean) ∈ sv_w := sv_m3 45 rfl rfl
theorem kw_415 : Cond.fieldLink RX8 132 "SeaReceiver$BitRow" "length" "I" ∈ sv_w := sv_m1 144 rfl rfl
theorem kw_416 : Cond.methodLink RX8 137 yX0_read ∈ sv_w := sv_m3 72 rfl rfl
theorem kw_417 : Cond.methodLink RX8 256 yX7_bitsOf ∈ sv_w := sv_m3 77 rfl rfl
theorem kw_418 : Cond.static yX7_bitsOf ∈ sv_w := sv_m3 78 rfl rfl
theorem kw_419 : Cond.code yX7_bitsOf cX7_bitsOf 1 (some .int) ∈ sv_w := sv_m3 79 rfl rfl
theorem kw_420 : Cond.methodLink RX8 259 yX2_vesselOf ∈ sv_w := sv_m3 80 rfl rfl
theorem kw_421 : Cond.instanceMethod yX2_vesselOf ∈ sv_w := sv_m3 81 rfl rfl
theorem kw_422 : Cond.selects RX2 yX2_vesselOf yX2_vesselOf ∈ sv_w := sv_m3 82 rfl rfl
theorem kw_423 : Cond.code yX2_vesselOf cX2_vesselOf 3 (some (.object "SeaReceiver$Vessel")) ∈ sv_w := sv_m3 83 rfl rfl
theorem kw_424 : Cond.methodLink RX8 262 yX7_learn ∈ sv_w := sv_m3 113 rfl rfl
theorem kw_425 : Cond.instanceMethod yX7_learn ∈ sv_w := sv_m3 114 rfl rfl
theorem kw_426 : Cond.selects RX7 yX7_learn yX7_learn ∈ sv_w := sv_m3 115 rfl rfl
theorem kw_427 : Cond.code yX7_learn cX7_learn 9 none ∈ sv_w := sv_m3 116 rfl rfl
theorem kw_428 : Cond.fieldLink RX8 208 "SeaReceiver$Fields" "many" "I" ∈ sv_w := sv_m1 86 rfl rfl
theorem kw_429 : Cond.fieldLink RX8 227 "SeaReceiver$Fields" "good" "Z" ∈ sv_w := sv_m1 89 rfl rfl
theorem kw_430 : Cond.methodLink RX8 211 yX1_digit ∈ sv_w := sv_m3 26 rfl rfl
theorem kw_431 : Cond.methodLink RX8 215 yX1_isEmpty ∈ sv_w := sv_m3 27 rfl rfl
theorem kw_432 : Cond.methodLink RX8 220 yX1_oneOf ∈ sv_w := sv_m3 29 rfl rfl
theorem kw_433 : Cond.methodLink RX8 224 yX1_checkPack ∈ sv_w := sv_m3 30 rfl rfl
theorem kw_434 : Cond.instanceMethod yX1_checkPack ∈ sv_w := sv_m3 31 rfl rfl
theorem kw_435 : Cond.selects RX1 yX1_checkPack yX1_checkPack ∈ sv_w := sv_m3 32 rfl rfl
theorem kw_436 : Cond.code yX1_checkPack cX1_checkPack 6 none ∈ sv_w := sv_m3 33 rfl rfl
theorem kw_437 : Cond.methodLink RX8 231 yX8_isInOrder ∈ sv_w := sv_m3 34 rfl rfl
theorem kw_438 : Cond.instanceMethod yX8_isInOrder ∈ sv_w := sv_m3 36 rfl rfl
theorem kw_439 : Cond.selects RX8 yX8_isInOrder yX8_isInOrder ∈ sv_w := sv_p2 0 rfl rfl
theorem kw_440 : Cond.initialized RX8 ∈ sv_w := sv_m1 1 rfl rfl
theorem kw_441 : Cond.code yX8_isInOrder cX8_isInOrder 4 (some .boolean) ∈ sv_w := sv_m3 37 rfl rfl
theorem kw_442 : Cond.methodLink RX8 235 yX3_keep ∈ sv_w := sv_m3 46 rfl rfl
theorem kw_443 : Cond.instanceMethod yX3_keep ∈ sv_w := sv_m3 47 rfl rfl
theorem kw_444 : Cond.selects RX3 yX3_keep yX3_keep ∈ sv_w := sv_m3 48 rfl rfl
theorem kw_445 : Cond.code yX3_keep cX3_keep 4 (some (.object "SeaReceiver$BitRow")) ∈ sv_w := sv_m3 49 rfl rfl
theorem kw_446 : Cond.methodLink RX8 239 yX1_unpack ∈ sv_w := sv_m3 56 rfl rfl
theorem kw_447 : Cond.instanceMethod yX1_unpack ∈ sv_w := sv_m3 57 rfl rfl
theorem kw_448 : Cond.selects RX1 yX1_unpack yX1_unpack ∈ sv_w := sv_m3 58 rfl rfl
theorem kw_449 : Cond.code yX1_unpack cX1_unpack 8 none ∈ sv_w := sv_m3 59 rfl rfl
theorem kw_450 : Cond.methodLink RX8 243 yX0_copy ∈ sv_w := sv_m3 64 rfl rfl
theorem kw_451 : Cond.instanceMethod yX0_copy ∈ sv_w := sv_m3 65 rfl rfl
theorem kw_452 : Cond.selects RX0 yX0_copy yX0_copy ∈ sv_w := sv_m3 66 rfl rfl
theorem kw_453 : Cond.code yX0_copy cX0_copy 3 none ∈ sv_w := sv_m3 67 rfl rfl
theorem kw_454 : Cond.methodLink RX8 250 yX8_receive ∈ sv_w := sv_m3 68 rfl rfl
theorem kw_455 : Cond.instanceMethod yX8_receive ∈ sv_w := sv_m3 70 rfl rfl
theorem kw_456 : Cond.selects RX8 yX8_receive yX8_receive ∈ sv_w := sv_p2 1 rfl rfl
theorem kw_457 : Cond.code yX8_receive cX8_receive 3 none ∈ sv_w := sv_m3 71 rfl rfl
theorem kw_458 : Cond.fieldLink RX8 178 "SeaReceiver$Sentence" "sum" "I" ∈ sv_w := sv_m1 60 rfl rfl
theorem kw_459 : Cond.fieldLink RX8 181 "SeaReceiver$Sentence" "toldSum" "I" ∈ sv_w := sv_m1 62 rfl rfl
theorem kw_460 : Cond.fieldLink RX8 188 "SeaReceiver$Sentence" "start" "I" ∈ sv_w := sv_m1 56 rfl rfl
theorem kw_461 : Cond.methodLink RX8 184 yX1_split ∈ sv_w := sv_m2 13 rfl rfl
theorem kw_462 : Cond.instanceMethod yX1_split ∈ sv_w := sv_m2 14 rfl rfl
theorem kw_463 : Cond.selects RX1 yX1_split yX1_split ∈ sv_w := sv_m2 15 rfl rfl
theorem kw_464 : Cond.code yX1_split cX1_split 5 none ∈ sv_w := sv_m2 16 rfl rfl
theorem kw_465 : Cond.methodLink RX8 191 yX1_form ∈ sv_w := sv_m2 22 rfl rfl
theorem kw_466 : Cond.instanceMethod yX1_form ∈ sv_w := sv_m2 23 rfl rfl
theorem kw_467 : Cond.selects RX1 yX1_form yX1_form ∈ sv_w := sv_m2 24 rfl rfl
theorem kw_468 : Cond.code yX1_form cX1_form 4 (some .int) ∈ sv_w := sv_m2 25 rfl rfl
theorem kw_469 : Cond.methodLink RX8 194 yX4_takeGga ∈ sv_w := sv_m2 79 rfl rfl
theorem kw_470 : Cond.instanceMethod yX4_takeGga ∈ sv_w := sv_m2 80 rfl rfl
theorem kw_471 : Cond.selects RX4 yX4_takeGga yX4_takeGga ∈ sv_w := sv_m2 81 rfl rfl
theorem kw_472 : Cond.code yX4_takeGga cX4_takeGga 2 (some .boolean) ∈ sv_w := sv_m2 82 rfl rfl
theorem kw_473 : Cond.methodLink RX8 198 yX4_takeRmc ∈ sv_w := sv_m2 163 rfl rfl
theorem kw_474 : Cond.instanceMethod yX4_takeRmc ∈ sv_w := sv_m2 164 rfl rfl
theorem kw_475 : Cond.selects RX4 yX4_takeRmc yX4_takeRmc ∈ sv_w := sv_m2 165 rfl rfl
theorem kw_476 : Cond.code yX4_takeRmc cX4_takeRmc 2 (some .boolean) ∈ sv_w := sv_m2 166 rfl rfl
theorem kw_477 : Cond.methodLink RX8 201 yX4_takeVtg ∈ sv_w := sv_m3 16 rfl rfl
theorem kw_478 : Cond.instanceMethod yX4_takeVtg ∈ sv_w := sv_m3 17 rfl rfl
theorem kw_479 : Cond.selects RX4 yX4_takeVtg yX4_takeVtg ∈ sv_w := sv_m3 18 rfl rfl
theorem kw_480 : Cond.code yX4_takeVtg cX4_takeVtg 2 (some .boolean) ∈ sv_w := sv_m3 19 rfl rfl
theorem kw_481 : Cond.methodLink RX8 204 yX8_takePart ∈ sv_w := sv_m3 22 rfl rfl
theorem kw_482 : Cond.instanceMethod yX8_takePart ∈ sv_w := sv_m3 24 rfl rfl
theorem kw_483 : Cond.selects RX8 yX8_takePart yX8_takePart ∈ sv_w := sv_p1 15 rfl rfl
theorem kw_484 : Cond.code yX8_takePart cX8_takePart 6 (some .boolean) ∈ sv_w := sv_m3 25 rfl rfl
theorem kw_485 : Cond.methodLink RX8 82 yX6_at ∈ sv_w := sv_m1 224 rfl rfl
theorem kw_486 : Cond.instanceMethod yX6_at ∈ sv_w := sv_m1 225 rfl rfl
theorem kw_487 : Cond.selects RX6 yX6_at yX6_at ∈ sv_w := sv_m1 226 rfl rfl
theorem kw_488 : Cond.code yX6_at cX6_at 2 (some .int) ∈ sv_w := sv_m1 227 rfl rfl
theorem kw_489 : Cond.methodLink RX8 86 yX5_hear ∈ sv_w := sv_m1 229 rfl rfl
theorem kw_490 : Cond.instanceMethod yX5_hear ∈ sv_w := sv_m1 230 rfl rfl
theorem kw_491 : Cond.selects RX5 yX5_hear yX5_hear ∈ sv_w := sv_m1 231 rfl rfl
theorem kw_492 : Cond.code yX5_hear cX5_hear 2 (some .int) ∈ sv_w := sv_m1 232 rfl rfl
theorem kw_493 : Cond.methodLink RX8 89 yX8_judge ∈ sv_w := sv_m2 9 rfl rfl
theorem kw_494 : Cond.instanceMethod yX8_judge ∈ sv_w := sv_m2 11 rfl rfl
theorem kw_495 : Cond.selects RX8 yX8_judge yX8_judge ∈ sv_w := sv_p1 4 rfl rfl
theorem kw_496 : Cond.code yX8_judge cX8_judge 2 (some .int) ∈ sv_w := sv_m2 12 rfl rfl
theorem kw_497 : Cond.fieldLink RX8 93 "SeaReceiver$Fleet" "size" "I" ∈ sv_w := sv_m1 162 rfl rfl
theorem kw_498 : Cond.methodLink RX8 94 yX5_underWay ∈ sv_w := sv_m3 140 rfl rfl
theorem kw_499 : Cond.instanceMethod yX5_underWay ∈ sv_w := sv_m3 141 rfl rfl
theorem kw_500 : Cond.selects RX5 yX5_underWay yX5_underWay ∈ sv_w := sv_m3 142 rfl rfl
theorem kw_501 : Cond.code yX5_underWay cX5_underWay 1 (some .int) ∈ sv_w := sv_m3 143 rfl rfl
theorem kw_502 : Cond.methodLink RX8 97 yX3_keptInAll ∈ sv_w := sv_m3 144 rfl rfl
theorem kw_503 : Cond.instanceMethod yX3_keptInAll ∈ sv_w := sv_m3 145 rfl rfl
theorem kw_504 : Cond.selects RX3 yX3_keptInAll yX3_keptInAll ∈ sv_w := sv_m3 146 rfl rfl
theorem kw_505 : Cond.code yX3_keptInAll cX3_keptInAll 3 (some .int) ∈ sv_w := sv_m3 147 rfl rfl
theorem kw_506 : Cond.classLink RX8 100 "java/util/NoSuchElementException" ∈ sv_w := sv_m3 201 rfl rfl
theorem kw_507 : Cond.initialized "java/util/NoSuchElementException" ∈ sv_w := sv_m1 21 rfl rfl
theorem kw_508 : Cond.fieldLink RX8 107 "SeaReceiver$Position" "told" "[I" ∈ sv_w := sv_m1 110 rfl rfl
theorem kw_511 : Cond.methodLink RX8 110 yX2_numberOf ∈ sv_w := sv_m3 152 rfl rfl
theorem kw_512 : Cond.fieldLink RX8 120 "SeaReceiver$Vessel" "values" "[I" ∈ sv_w := sv_m3 96 rfl rfl
theorem kw_513 : Cond.fieldLink RX8 125 "SeaReceiver$Vessel" "lengths" "[I" ∈ sv_w := sv_m3 98 rfl rfl
theorem kw_514 : Cond.methodLink RX8 113 yX2_at ∈ sv_w := sv_m3 157 rfl rfl
theorem kw_515 : Cond.instanceMethod yX2_at ∈ sv_w := sv_m3 158 rfl rfl
theorem kw_516 : Cond.selects RX2 yX2_at yX2_at ∈ sv_w := sv_m3 159 rfl rfl
theorem kw_517 : Cond.code yX2_at cX2_at 2 (some (.object "SeaReceiver$Vessel")) ∈ sv_w := sv_m3 160 rfl rfl
theorem kw_518 : Cond.methodLink RX8 128 yX7_signOf ∈ sv_w := sv_m3 161 rfl rfl
theorem kw_519 : Cond.methodLink RX8 161 yX6_add ∈ sv_w := sv_m3 173 rfl rfl
theorem kw_520 : Cond.methodLink RX8 275 yX8_sixteen ∈ sv_w := sv_m4 97 rfl rfl
theorem kw_521 : Cond.static yX8_sixteen ∈ sv_w := sv_m4 98 rfl rfl
theorem kw_522 : Cond.code yX8_sixteen cX8_sixteen 1 (some .int) ∈ sv_w := sv_m4 99 rfl rfl
theorem kw_523 : Cond.methodLink RX8 267 yX6_addText ∈ sv_w := sv_m4 86 rfl rfl
theorem kw_524 : Cond.instanceMethod yX6_addText ∈ sv_w := sv_m4 87 rfl rfl
theorem kw_525 : Cond.selects RX6 yX6_addText yX6_addText ∈ sv_w := sv_m4 88 rfl rfl
theorem kw_526 : Cond.code yX6_addText cX6_addText 3 none ∈ sv_w := sv_m4 89 rfl rfl
theorem kw_527 : Cond.methodLink RX8 272 yX8_closeSentence ∈ sv_w := sv_m4 93 rfl rfl
theorem kw_528 : Cond.instanceMethod yX8_closeSentence ∈ sv_w := sv_m4 95 rfl rfl
theorem kw_529 : Cond.selects RX8 yX8_closeSentence yX8_closeSentence ∈ sv_w := sv_p2 6 rfl rfl
theorem kw_530 : Cond.code yX8_closeSentence cX8_closeSentence 4 none ∈ sv_w := sv_m4 96 rfl rfl
theorem kw_531 : Cond.classLink RX8 140 "java/lang/IllegalArgumentException" ∈ sv_w := sv_m4 52 rfl rfl
theorem kw_532 : Cond.initialized "java/lang/IllegalArgumentException" ∈ sv_w := sv_m1 22 rfl rfl
theorem kw_533 : Cond.methodLink RX8 147 yX7_tell ∈ sv_w := sv_m4 69 rfl rfl
theorem kw_534 : Cond.instanceMethod yX7_tell ∈ sv_w := sv_m4 70 rfl rfl
theorem kw_535 : Cond.selects RX7 yX7_tell yX7_tell ∈ sv_w := sv_m4 71 rfl rfl
theorem kw_536 : Cond.code yX7_tell cX7_tell 8 none ∈ sv_w := sv_m4 72 rfl rfl
theorem kw_537 : Cond.methodLink RX8 153 yX8_writeSentence ∈ sv_w := sv_m4 81 rfl rfl
theorem kw_538 : Cond.instanceMethod yX8_writeSentence ∈ sv_w := sv_m4 83 rfl rfl
theorem kw_539 : Cond.selects RX8 yX8_writeSentence yX8_writeSentence ∈ sv_w := sv_p2 5 rfl rfl
theorem kw_540 : Cond.code yX8_writeSentence cX8_writeSentence 8 none ∈ sv_w := sv_m4 84 rfl rfl
theorem kw_541 : Cond.methodLink RX8 164 yJ7_fill_53178 ∈ sv_w := sv_m3 178 rfl rfl
theorem kw_542 : Cond.methodLink RX8 170 yX5_forget ∈ sv_w := sv_m3 179 rfl rfl
theorem kw_543 : Cond.instanceMethod yX5_forget ∈ sv_w := sv_m3 180 rfl rfl
theorem kw_544 : Cond.selects RX5 yX5_forget yX5_forget ∈ sv_w := sv_m3 181 rfl rfl
theorem kw_545 : Cond.code yX5_forget cX5_forget 1 none ∈ sv_w := sv_m3 182 rfl rfl
theorem kw_546 : Cond.methodLink RX8 173 yX4_forget ∈ sv_w := sv_m3 183 rfl rfl
theorem kw_547 : Cond.instanceMethod yX4_forget ∈ sv_w := sv_m3 184 rfl rfl
theorem kw_548 : Cond.selects RX4 yX4_forget yX4_forget ∈ sv_w := sv_m3 185 rfl rfl
theorem kw_549 : Cond.code yX4_forget cX4_forget 1 none ∈ sv_w := sv_m3 186 rfl rfl
theorem kw_550 : Cond.methodLink RX8 174 yX3_forget ∈ sv_w := sv_m3 187 rfl rfl
theorem kw_551 : Cond.instanceMethod yX3_forget ∈ sv_w := sv_m3 188 rfl rfl
theorem kw_552 : Cond.selects RX3 yX3_forget yX3_forget ∈ sv_w := sv_m3 189 rfl rfl
theorem kw_553 : Cond.code yX3_forget cX3_forget 1 none ∈ sv_w := sv_m3 190 rfl rfl
theorem kw_554 : Cond.methodLink RX8 175 yX0_empty ∈ sv_w := sv_m3 192 rfl rfl
theorem kw_555 : Cond.fieldLink RX9 1 "SeaReceiverModel" "thrown" "I" ∈ sv_w := sv_m4 118 rfl rfl
theorem kw_556 : Cond.fieldLink RX9 90 "SeaReceiverModel" "may" "I" ∈ sv_w := sv_m4 123 rfl rfl
theorem kw_557 : Cond.fieldLink RX9 93 "SeaReceiverModel" "signs" "I" ∈ sv_w := sv_m4 125 rfl rfl
theorem kw_558 : Cond.fieldLink RX9 289 "SeaReceiverModel" "vessels" "I" ∈ sv_w := sv_m4 146 rfl rfl
theorem kw_559 : Cond.fieldLink RX9 280 "SeaReceiverModel" "hasMessage" "Z" ∈ sv_w := sv_m4 145 rfl rfl
theorem kw_560 : Cond.fieldLink RX9 23 "SeaReceiverModel" "many" "[I" ∈ sv_w := sv_m4 128 rfl rfl
theorem kw_561 : Cond.fieldLink RX9 35 "SeaReceiverModel" "fix" "[I" ∈ sv_w := sv_m4 134 rfl rfl
theorem kw_562 : Cond.constant RX9 73 (-2147483648) ∈ sv_w := sv_m4 117 rfl rfl
theorem kw_563 : Cond.fieldLink RX9 41 "SeaReceiverModel" "came" "[I" ∈ sv_w := sv_m4 140 rfl rfl
theorem kw_564 : Cond.fieldLink RX9 44 "SeaReceiverModel" "long1" "[I" ∈ sv_w := sv_m4 141 rfl rfl
theorem kw_565 : Cond.methodLink RX9 7 objectInit ∈ sv_w := sv_m4 111 rfl rfl
theorem kw_566 : Cond.fieldLink RX9 13 "SeaReceiverModel" "tape" "[I" ∈ sv_w := sv_m4 119 rfl rfl
theorem kw_567 : Cond.fieldLink RX9 17 "SeaReceiverModel" "out" "[I" ∈ sv_w := sv_m4 121 rfl rfl
theorem kw_568 : Cond.fieldLink RX9 20 "SeaReceiverModel" "sign" "[I" ∈ sv_w := sv_m4 124 rfl rfl
theorem kw_569 : Cond.fieldLink RX9 26 "SeaReceiverModel" "from" "[I" ∈ sv_w := sv_m4 129 rfl rfl
theorem kw_570 : Cond.fieldLink RX9 29 "SeaReceiverModel" "to" "[I" ∈ sv_w := sv_m4 130 rfl rfl
theorem kw_571 : Cond.fieldLink RX9 32 "SeaReceiverModel" "value" "[I" ∈ sv_w := sv_m4 133 rfl rfl
theorem kw_572 : Cond.fieldLink RX9 38 "SeaReceiverModel" "ofMany" "[I" ∈ sv_w := sv_m4 139 rfl rfl
theorem kw_573 : Cond.constant RX9 47 (35640) ∈ sv_w := sv_m4 112 rfl rfl
theorem kw_574 : Cond.arrayClass .boolean ∈ sv_w := sv_m4 233 rfl rfl
theorem kw_575 : Cond.fieldLink RX9 48 "SeaReceiverModel" "kept" "[Z" ∈ sv_w := sv_m4 142 rfl rfl
theorem kw_576 : Cond.fieldLink RX9 52 "SeaReceiverModel" "bit" "[Z" ∈ sv_w := sv_m4 143 rfl rfl
theorem kw_577 : Cond.fieldLink RX9 55 "SeaReceiverModel" "row" "[I" ∈ sv_w := sv_m4 147 rfl rfl
theorem kw_578 : Cond.fieldLink RX9 58 "SeaReceiverModel" "text" "[I" ∈ sv_w := sv_m4 148 rfl rfl
theorem kw_579 : Cond.fieldLink RX9 61 "SeaReceiverModel" "textLong" "[I" ∈ sv_w := sv_m4 149 rfl rfl
theorem kw_580 : Cond.fieldLink RX9 64 "SeaReceiverModel" "sent" "[Z" ∈ sv_w := sv_m4 153 rfl rfl
theorem kw_581 : Cond.methodLink RX9 67 yX9_forget ∈ sv_w := sv_m4 113 rfl rfl
theorem kw_582 : Cond.instanceMethod yX9_forget ∈ sv_w := sv_m4 115 rfl rfl
theorem kw_583 : Cond.selects RX9 yX9_forget yX9_forget ∈ sv_w := sv_p2 7 rfl rfl
theorem kw_584 : Cond.initialized RX9 ∈ sv_w := sv_m1 10 rfl rfl
theorem kw_585 : Cond.code yX9_forget cX9_forget 2 none ∈ sv_w := sv_m4 116 rfl rfl
theorem kw_586 : Cond.fieldLink RX9 70 "SeaReceiverModel" "taped" "I" ∈ sv_w := sv_m4 120 rfl rfl
theorem kw_587 : Cond.methodLink RX9 74 yX9_in ∈ sv_w := sv_m5 2 rfl rfl
theorem kw_588 : Cond.static yX9_in ∈ sv_w := sv_m5 3 rfl rfl
theorem kw_589 : Cond.code yX9_in cX9_in 6 (some .boolean) ∈ sv_w := sv_m5 4 rfl rfl
theorem kw_590 : Cond.constantLong RX9 78 (48) ∈ sv_w := sv_m5 18 rfl rfl
theorem kw_591 : Cond.constantLong RX9 80 (57) ∈ sv_w := sv_m5 19 rfl rfl
theorem kw_592 : Cond.constantLong RX9 82 (65) ∈ sv_w := sv_m5 20 rfl rfl
theorem kw_593 : Cond.constantLong RX9 84 (70) ∈ sv_w := sv_m5 21 rfl rfl
theorem kw_594 : Cond.methodLink RX9 127 yJ0_charAt_5068e ∈ sv_w := sv_m5 36 rfl rfl
theorem kw_595 : Cond.constantLong RX9 133 (90) ∈ sv_w := sv_m5 30 rfl rfl
theorem kw_596 : Cond.methodLink RX9 137 yX9_ends ∈ sv_w := sv_m5 32 rfl rfl
theorem kw_597 : Cond.instanceMethod yX9_ends ∈ sv_w := sv_m5 34 rfl rfl
theorem kw_598 : Cond.selects RX9 yX9_ends yX9_ends ∈ sv_w := sv_p2 11 rfl rfl
theorem kw_599 : Cond.code yX9_ends cX9_ends 2 (some .boolean) ∈ sv_w := sv_m5 35 rfl rfl
theorem kw_600 : Cond.methodLink RX9 153 yX9_size ∈ sv_w := sv_m5 53 rfl rfl
theorem kw_601 : Cond.instanceMethod yX9_size ∈ sv_w := sv_m5 55 rfl rfl
theorem kw_602 : Cond.selects RX9 yX9_size yX9_size ∈ sv_w := sv_p2 15 rfl rfl
theorem kw_603 : Cond.code yX9_size cX9_size 2 (some .int) ∈ sv_w := sv_m5 56 rfl rfl
theorem kw_604 : Cond.methodLink RX9 156 yX9_at ∈ sv_w := sv_m5 61 rfl rfl
theorem kw_605 : Cond.instanceMethod yX9_at ∈ sv_w := sv_m5 63 rfl rfl
theorem kw_606 : Cond.selects RX9 yX9_at yX9_at ∈ sv_w := sv_p3 1 rfl rfl
theorem kw_607 : Cond.code yX9_at cX9_at 3 (some .int) ∈ sv_w := sv_m5 64 rfl rfl
theorem kw_608 : Cond.methodLink RX9 160 yX9_isDigit ∈ sv_w := sv_m5 65 rfl rfl
theorem kw_609 : Cond.static yX9_isDigit ∈ sv_w := sv_m5 66 rfl rfl
theorem kw_610 : Cond.code yX9_isDigit cX9_isDigit 1 (some .boolean) ∈ sv_w := sv_m5 67 rfl rfl
theorem kw_611 : Cond.fieldLink RX9 149 "SeaReceiverModel" "good" "Z" ∈ sv_w := sv_m4 132 rfl rfl
theorem kw_612 : Cond.methodLink RX9 163 yX9_digits ∈ sv_w := sv_m5 57 rfl rfl
theorem kw_613 : Cond.instanceMethod yX9_digits ∈ sv_w := sv_m5 59 rfl rfl
theorem kw_614 : Cond.selects RX9 yX9_digits yX9_digits ∈ sv_w := sv_p3 0 rfl rfl
theorem kw_615 : Cond.code yX9_digits cX9_digits 4 (some .int) ∈ sv_w := sv_m5 60 rfl rfl
theorem kw_616 : Cond.methodLink RX9 166 yX9_bad ∈ sv_w := sv_m5 68 rfl rfl
theorem kw_617 : Cond.instanceMethod yX9_bad ∈ sv_w := sv_m5 70 rfl rfl
theorem kw_618 : Cond.selects RX9 yX9_bad yX9_bad ∈ sv_w := sv_p3 2 rfl rfl
theorem kw_619 : Cond.code yX9_bad cX9_bad 1 (some .int) ∈ sv_w := sv_m5 71 rfl rfl
theorem kw_620 : Cond.methodLink RX9 173 yX9_whole ∈ sv_w := sv_m5 72 rfl rfl
theorem kw_621 : Cond.instanceMethod yX9_whole ∈ sv_w := sv_m5 74 rfl rfl
theorem kw_622 : Cond.selects RX9 yX9_whole yX9_whole ∈ sv_w := sv_p3 3 rfl rfl
theorem kw_623 : Cond.code yX9_whole cX9_whole 6 (some .int) ∈ sv_w := sv_m5 75 rfl rfl
theorem kw_624 : Cond.methodLink RX9 169 yX9_behind ∈ sv_w := sv_m5 76 rfl rfl
theorem kw_625 : Cond.instanceMethod yX9_behind ∈ sv_w := sv_m5 78 rfl rfl
theorem kw_626 : Cond.selects RX9 yX9_behind yX9_behind ∈ sv_w := sv_p3 4 rfl rfl
theorem kw_627 : Cond.code yX9_behind cX9_behind 8 (some .int) ∈ sv_w := sv_m5 79 rfl rfl
theorem kw_628 : Cond.methodLink RX9 187 yJ0_length_8abf5 ∈ sv_w := sv_m5 94 rfl rfl
theorem kw_629 : Cond.methodLink RX9 190 yX9_one ∈ sv_w := sv_m5 90 rfl rfl
theorem kw_630 : Cond.instanceMethod yX9_one ∈ sv_w := sv_m5 92 rfl rfl
theorem kw_631 : Cond.selects RX9 yX9_one yX9_one ∈ sv_w := sv_p3 7 rfl rfl
theorem kw_632 : Cond.code yX9_one cX9_one 5 (some .int) ∈ sv_w := sv_m5 93 rfl rfl
theorem kw_633 : Cond.constant RX9 194 (600000) ∈ sv_w := sv_m5 85 rfl rfl
theorem kw_634 : Cond.methodLink RX9 195 yX9_sided ∈ sv_w := sv_m5 86 rfl rfl
theorem kw_635 : Cond.instanceMethod yX9_sided ∈ sv_w := sv_m5 88 rfl rfl
theorem kw_636 : Cond.selects RX9 yX9_sided yX9_sided ∈ sv_w := sv_p3 6 rfl rfl
theorem kw_637 : Cond.code yX9_sided cX9_sided 5 (some .int) ∈ sv_w := sv_m5 89 rfl rfl
theorem kw_638 : Cond.methodLink RX9 177 yX9_ten ∈ sv_w := sv_m5 104 rfl rfl
theorem kw_639 : Cond.static yX9_ten ∈ sv_w := sv_m5 105 rfl rfl
theorem kw_640 : Cond.code yX9_ten cX9_ten 3 (some .int) ∈ sv_w := sv_m5 106 rfl rfl
theorem kw_641 : Cond.methodLink RX9 211 yX9_time ∈ sv_w := sv_m5 49 rfl rfl
theorem kw_642 : Cond.instanceMethod yX9_time ∈ sv_w := sv_m5 51 rfl rfl
theorem kw_643 : Cond.selects RX9 yX9_time yX9_time ∈ sv_w := sv_p2 14 rfl rfl
theorem kw_644 : Cond.code yX9_time cX9_time 6 (some .int) ∈ sv_w := sv_m5 52 rfl rfl
theorem kw_645 : Cond.methodLink RX9 216 yX9_place ∈ sv_w := sv_m5 81 rfl rfl
theorem kw_646 : Cond.instanceMethod yX9_place ∈ sv_w := sv_m5 83 rfl rfl
theorem kw_647 : Cond.selects RX9 yX9_place yX9_place ∈ sv_w := sv_p3 5 rfl rfl
theorem kw_648 : Cond.code yX9_place cX9_place 9 (some .int) ∈ sv_w := sv_m5 84 rfl rfl
theorem kw_649 : Cond.methodLink RX9 180 yX9_number ∈ sv_w := sv_m5 96 rfl rfl
theorem kw_650 : Cond.instanceMethod yX9_number ∈ sv_w := sv_m5 98 rfl rfl
theorem kw_651 : Cond.selects RX9 yX9_number yX9_number ∈ sv_w := sv_p3 8 rfl rfl
theorem kw_652 : Cond.code yX9_number cX9_number 3 (some .int) ∈ sv_w := sv_m5 99 rfl rfl
theorem kw_653 : Cond.methodLink RX9 222 yX9_decimal ∈ sv_w := sv_m5 100 rfl rfl
theorem kw_654 : Cond.instanceMethod yX9_decimal ∈ sv_w := sv_m5 102 rfl rfl
theorem kw_655 : Cond.selects RX9 yX9_decimal yX9_decimal ∈ sv_w := sv_p3 9 rfl rfl
theorem kw_656 : Cond.code yX9_decimal cX9_decimal 9 (some .int) ∈ sv_w := sv_m5 103 rfl rfl
theorem kw_657 : Cond.methodLink RX9 228 yX9_measured ∈ sv_w := sv_m5 108 rfl rfl
theorem kw_658 : Cond.instanceMethod yX9_measured ∈ sv_w := sv_m5 110 rfl rfl
theorem kw_659 : Cond.selects RX9 yX9_measured yX9_measured ∈ sv_w := sv_p3 10 rfl rfl
theorem kw_660 : Cond.code yX9_measured cX9_measured 5 (some .int) ∈ sv_w := sv_m5 111 rfl rfl
theorem kw_661 : Cond.constantLong RX9 183 (31) ∈ sv_w := sv_m5 126 rfl rfl
theorem kw_662 : Cond.constantLong RX9 185 (12) ∈ sv_w := sv_m5 127 rfl rfl
theorem kw_663 : Cond.constant RX9 233 (35999) ∈ sv_w := sv_m5 117 rfl rfl
theorem kw_664 : Cond.fieldLink RX9 113 "SeaReceiverModel" "fields" "I" ∈ sv_w := sv_m4 131 rfl rfl
theorem kw_665 : Cond.methodLink RX9 234 yX9_below ∈ sv_w := sv_m5 118 rfl rfl
theorem kw_666 : Cond.instanceMethod yX9_below ∈ sv_w := sv_m5 120 rfl rfl
theorem kw_667 : Cond.selects RX9 yX9_below yX9_below ∈ sv_w := sv_p3 12 rfl rfl
theorem kw_668 : Cond.code yX9_below cX9_below 3 (some .int) ∈ sv_w := sv_m5 121 rfl rfl
theorem kw_669 : Cond.methodLink RX9 237 yX9_date ∈ sv_w := sv_m5 122 rfl rfl
theorem kw_670 : Cond.instanceMethod yX9_date ∈ sv_w := sv_m5 124 rfl rfl
theorem kw_671 : Cond.selects RX9 yX9_date yX9_date ∈ sv_w := sv_p3 13 rfl rfl
theorem kw_672 : Cond.code yX9_date cX9_date 5 (some .int) ∈ sv_w := sv_m5 125 rfl rfl
theorem kw_673 : Cond.fieldLink RX9 248 "SeaReceiverModel" "parts" "I" ∈ sv_w := sv_m4 135 rfl rfl
theorem kw_674 : Cond.fieldLink RX9 251 "SeaReceiverModel" "which" "I" ∈ sv_w := sv_m4 136 rfl rfl
theorem kw_675 : Cond.fieldLink RX9 254 "SeaReceiverModel" "id" "I" ∈ sv_w := sv_m4 137 rfl rfl
theorem kw_676 : Cond.fieldLink RX9 259 "SeaReceiverModel" "fill" "I" ∈ sv_w := sv_m4 138 rfl rfl
theorem kw_677 : Cond.constantLong RX9 262 (60) ∈ sv_w := sv_m5 141 rfl rfl
theorem kw_678 : Cond.constantLong RX9 264 (87) ∈ sv_w := sv_m5 142 rfl rfl
theorem kw_679 : Cond.constantLong RX9 266 (96) ∈ sv_w := sv_m5 143 rfl rfl
theorem kw_680 : Cond.constantLong RX9 268 (119) ∈ sv_w := sv_m5 144 rfl rfl
theorem kw_681 : Cond.methodLink RX9 199 yX9_gga ∈ sv_w := sv_m5 45 rfl rfl
theorem kw_682 : Cond.instanceMethod yX9_gga ∈ sv_w := sv_m5 47 rfl rfl
theorem kw_683 : Cond.selects RX9 yX9_gga yX9_gga ∈ sv_w := sv_p2 13 rfl rfl
theorem kw_684 : Cond.code yX9_gga cX9_gga 1 none ∈ sv_w := sv_m5 48 rfl rfl
theorem kw_685 : Cond.methodLink RX9 202 yX9_rmc ∈ sv_w := sv_m5 112 rfl rfl
theorem kw_686 : Cond.instanceMethod yX9_rmc ∈ sv_w := sv_m5 114 rfl rfl
theorem kw_687 : Cond.selects RX9 yX9_rmc yX9_rmc ∈ sv_w := sv_p3 11 rfl rfl
theorem kw_688 : Cond.code yX9_rmc cX9_rmc 2 none ∈ sv_w := sv_m5 115 rfl rfl
theorem kw_689 : Cond.methodLink RX9 205 yX9_vtg ∈ sv_w := sv_m5 129 rfl rfl
theorem kw_690 : Cond.instanceMethod yX9_vtg ∈ sv_w := sv_m5 131 rfl rfl
theorem kw_691 : Cond.selects RX9 yX9_vtg yX9_vtg ∈ sv_w := sv_p3 14 rfl rfl
theorem kw_692 : Cond.code yX9_vtg cX9_vtg 1 none ∈ sv_w := sv_m5 132 rfl rfl
theorem kw_693 : Cond.methodLink RX9 208 yX9_part ∈ sv_w := sv_m5 136 rfl rfl
theorem kw_694 : Cond.instanceMethod yX9_part ∈ sv_w := sv_m5 138 rfl rfl
theorem kw_695 : Cond.selects RX9 yX9_part yX9_part ∈ sv_w := sv_p3 15 rfl rfl
theorem kw_696 : Cond.code yX9_part cX9_part 4 none ∈ sv_w := sv_m5 139 rfl rfl
theorem kw_697 : Cond.methodLink RX9 286 yX9_read ∈ sv_w := sv_m5 161 rfl rfl
theorem kw_698 : Cond.instanceMethod yX9_read ∈ sv_w := sv_m5 163 rfl rfl
theorem kw_699 : Cond.selects RX9 yX9_read yX9_read ∈ sv_w := sv_p4 4 rfl rfl
theorem kw_700 : Cond.code yX9_read cX9_read 5 (some .int) ∈ sv_w := sv_m5 164 rfl rfl
theorem kw_701 : Cond.fieldLink RX9 352 "SeaReceiverModel" "sents" "I" ∈ sv_w := sv_m4 154 rfl rfl
theorem kw_702 : Cond.fieldLink RX9 300 "SeaReceiverModel" "now" "I" ∈ sv_w := sv_m4 152 rfl rfl
theorem kw_703 : Cond.fieldLink RX9 303 "SeaReceiverModel" "writes" "Z" ∈ sv_w := sv_m4 151 rfl rfl
theorem kw_704 : Cond.fieldLink RX9 306 "SeaReceiverModel" "place" "I" ∈ sv_w := sv_m4 150 rfl rfl
theorem kw_705 : Cond.methodLink RX9 308 yX9_signed ∈ sv_w := sv_m5 178 rfl rfl
theorem kw_706 : Cond.instanceMethod yX9_signed ∈ sv_w := sv_m5 180 rfl rfl
theorem kw_707 : Cond.selects RX9 yX9_signed yX9_signed ∈ sv_w := sv_p4 8 rfl rfl
theorem kw_708 : Cond.code yX9_signed cX9_signed 3 (some .int) ∈ sv_w := sv_m5 181 rfl rfl
theorem kw_709 : Cond.methodLink RX9 311 yX9_put ∈ sv_w := sv_m5 182 rfl rfl
theorem kw_710 : Cond.instanceMethod yX9_put ∈ sv_w := sv_m5 184 rfl rfl
theorem kw_711 : Cond.selects RX9 yX9_put yX9_put ∈ sv_w := sv_p4 9 rfl rfl
theorem kw_712 : Cond.code yX9_put cX9_put 4 none ∈ sv_w := sv_m5 185 rfl rfl
theorem kw_713 : Cond.methodLink RX9 317 yX9_go ∈ sv_w := sv_m5 174 rfl rfl
theorem kw_714 : Cond.instanceMethod yX9_go ∈ sv_w := sv_m5 176 rfl rfl
theorem kw_715 : Cond.selects RX9 yX9_go yX9_go ∈ sv_w := sv_p4 7 rfl rfl
theorem kw_716 : Cond.code yX9_go cX9_go 5 none ∈ sv_w := sv_m5 177 rfl rfl
theorem kw_717 : Cond.methodLink RX9 314 yX9_room ∈ sv_w := sv_m5 206 rfl rfl
theorem kw_718 : Cond.static yX9_room ∈ sv_w := sv_m5 207 rfl rfl
theorem kw_719 : Cond.code yX9_room cX9_room 1 (some .int) ∈ sv_w := sv_m5 208 rfl rfl
theorem kw_720 : Cond.methodLink RX9 327 yX9_skip ∈ sv_w := sv_m5 194 rfl rfl
theorem kw_721 : Cond.instanceMethod yX9_skip ∈ sv_w := sv_m5 196 rfl rfl
theorem kw_722 : Cond.selects RX9 yX9_skip yX9_skip ∈ sv_w := sv_p4 12 rfl rfl
theorem kw_723 : Cond.code yX9_skip cX9_skip 2 none ∈ sv_w := sv_m5 197 rfl rfl
theorem kw_724 : Cond.methodLink RX9 333 yX9_words ∈ sv_w := sv_m5 202 rfl rfl
theorem kw_725 : Cond.instanceMethod yX9_words ∈ sv_w := sv_m5 204 rfl rfl
theorem kw_726 : Cond.selects RX9 yX9_words yX9_words ∈ sv_w := sv_p4 14 rfl rfl
theorem kw_727 : Cond.code yX9_words cX9_words 7 none ∈ sv_w := sv_m5 205 rfl rfl
theorem kw_728 : Cond.methodLink RX9 321 yX9_where ∈ sv_w := sv_m5 186 rfl rfl
theorem kw_729 : Cond.instanceMethod yX9_where ∈ sv_w := sv_m5 188 rfl rfl
theorem kw_730 : Cond.selects RX9 yX9_where yX9_where ∈ sv_w := sv_p4 10 rfl rfl
theorem kw_731 : Cond.code yX9_where cX9_where 1 none ∈ sv_w := sv_m5 189 rfl rfl
theorem kw_732 : Cond.methodLink RX9 324 yX9_way ∈ sv_w := sv_m5 190 rfl rfl
theorem kw_733 : Cond.instanceMethod yX9_way ∈ sv_w := sv_m5 192 rfl rfl
theorem kw_734 : Cond.selects RX9 yX9_way yX9_way ∈ sv_w := sv_p4 11 rfl rfl
theorem kw_735 : Cond.code yX9_way cX9_way 1 none ∈ sv_w := sv_m5 193 rfl rfl
theorem kw_736 : Cond.methodLink RX9 330 yX9_still ∈ sv_w := sv_m5 198 rfl rfl
theorem kw_737 : Cond.instanceMethod yX9_still ∈ sv_w := sv_m5 200 rfl rfl
theorem kw_738 : Cond.selects RX9 yX9_still yX9_still ∈ sv_w := sv_p4 13 rfl rfl
theorem kw_739 : Cond.code yX9_still cX9_still 1 none ∈ sv_w := sv_m5 201 rfl rfl
theorem kw_740 : Cond.fieldLink RX9 277 "SeaReceiverModel" "bits" "I" ∈ sv_w := sv_m4 144 rfl rfl
theorem kw_741 : Cond.constantLong RX9 292 (4) ∈ sv_w := sv_m5 165 rfl rfl
theorem kw_742 : Cond.methodLink RX9 294 yX9_found ∈ sv_w := sv_m5 166 rfl rfl
theorem kw_743 : Cond.instanceMethod yX9_found ∈ sv_w := sv_m5 168 rfl rfl
theorem kw_744 : Cond.selects RX9 yX9_found yX9_found ∈ sv_w := sv_p4 5 rfl rfl
theorem kw_745 : Cond.code yX9_found cX9_found 3 (some .int) ∈ sv_w := sv_m5 169 rfl rfl
theorem kw_746 : Cond.methodLink RX9 297 yX9_reports ∈ sv_w := sv_m5 170 rfl rfl
theorem kw_747 : Cond.instanceMethod yX9_reports ∈ sv_w := sv_m5 172 rfl rfl
theorem kw_748 : Cond.selects RX9 yX9_reports yX9_reports ∈ sv_w := sv_p4 6 rfl rfl
theorem kw_749 : Cond.code yX9_reports cX9_reports 3 none ∈ sv_w := sv_m5 173 rfl rfl
theorem kw_750 : Cond.methodLink RX9 283 yX9_message ∈ sv_w := sv_m5 157 rfl rfl
theorem kw_751 : Cond.instanceMethod yX9_message ∈ sv_w := sv_m5 159 rfl rfl
theorem kw_752 : Cond.selects RX9 yX9_message yX9_message ∈ sv_w := sv_p4 3 rfl rfl
theorem kw_753 : Cond.code yX9_message cX9_message 6 none ∈ sv_w := sv_m5 160 rfl rfl
theorem kw_754 : Cond.methodLink RX9 270 yX9_keep ∈ sv_w := sv_m5 149 rfl rfl
theorem kw_755 : Cond.instanceMethod yX9_keep ∈ sv_w := sv_m5 151 rfl rfl
theorem kw_756 : Cond.selects RX9 yX9_keep yX9_keep ∈ sv_w := sv_p4 1 rfl rfl
theorem kw_757 : Cond.code yX9_keep cX9_keep 4 none ∈ sv_w := sv_m5 152 rfl rfl
theorem kw_758 : Cond.methodLink RX9 274 yX9_parted ∈ sv_w := sv_m5 153 rfl rfl
theorem kw_759 : Cond.instanceMethod yX9_parted ∈ sv_w := sv_m5 155 rfl rfl
theorem kw_760 : Cond.selects RX9 yX9_parted yX9_parted ∈ sv_w := sv_p4 2 rfl rfl
theorem kw_761 : Cond.code yX9_parted cX9_parted 5 none ∈ sv_w := sv_m5 156 rfl rfl
theorem kw_762 : Cond.fieldLink RX9 107 "SeaReceiverModel" "told" "I" ∈ sv_w := sv_m4 127 rfl rfl
theorem kw_763 : Cond.fieldLink RX9 96 "SeaReceiverModel" "sum" "I" ∈ sv_w := sv_m4 126 rfl rfl
theorem kw_764 : Cond.methodLink RX9 116 yX9_form ∈ sv_w := sv_m5 26 rfl rfl
theorem kw_765 : Cond.instanceMethod yX9_form ∈ sv_w := sv_m5 28 rfl rfl
theorem kw_766 : Cond.selects RX9 yX9_form yX9_form ∈ sv_w := sv_p2 10 rfl rfl
theorem kw_767 : Cond.code yX9_form cX9_form 2 (some .int) ∈ sv_w := sv_m5 29 rfl rfl
theorem kw_768 : Cond.methodLink RX9 120 yX9_fits ∈ sv_w := sv_m5 41 rfl rfl
theorem kw_769 : Cond.instanceMethod yX9_fits ∈ sv_w := sv_m5 43 rfl rfl
theorem kw_770 : Cond.selects RX9 yX9_fits yX9_fits ∈ sv_w := sv_p2 12 rfl rfl
theorem kw_771 : Cond.code yX9_fits cX9_fits 2 (some .boolean) ∈ sv_w := sv_m5 44 rfl rfl
theorem kw_772 : Cond.methodLink RX9 124 yX9_taken ∈ sv_w := sv_m5 145 rfl rfl
theorem kw_773 : Cond.instanceMethod yX9_taken ∈ sv_w := sv_m5 147 rfl rfl
theorem kw_774 : Cond.selects RX9 yX9_taken yX9_taken ∈ sv_w := sv_p4 0 rfl rfl
theorem kw_775 : Cond.code yX9_taken cX9_taken 2 none ∈ sv_w := sv_m5 148 rfl rfl
theorem kw_776 : Cond.constantLong RX9 99 (32) ∈ sv_w := sv_m5 13 rfl rfl
theorem kw_777 : Cond.constantLong RX9 101 (126) ∈ sv_w := sv_m5 14 rfl rfl
theorem kw_778 : Cond.methodLink RX9 103 yX9_sixteen ∈ sv_w := sv_m5 15 rfl rfl
theorem kw_779 : Cond.static yX9_sixteen ∈ sv_w := sv_m5 16 rfl rfl
theorem kw_780 : Cond.code yX9_sixteen cX9_sixteen 1 (some .int) ∈ sv_w := sv_m5 17 rfl rfl
theorem kw_781 : Cond.methodLink RX9 110 yX9_ended ∈ sv_w := sv_m5 22 rfl rfl
theorem kw_782 : Cond.instanceMethod yX9_ended ∈ sv_w := sv_m5 24 rfl rfl
theorem kw_783 : Cond.selects RX9 yX9_ended yX9_ended ∈ sv_w := sv_p2 9 rfl rfl
theorem kw_784 : Cond.code yX9_ended cX9_ended 2 none ∈ sv_w := sv_m5 25 rfl rfl
theorem kw_785 : Cond.methodLink RX9 86 yX9_comes ∈ sv_w := sv_m5 9 rfl rfl
theorem kw_786 : Cond.instanceMethod yX9_comes ∈ sv_w := sv_m5 11 rfl rfl
theorem kw_787 : Cond.selects RX9 yX9_comes yX9_comes ∈ sv_w := sv_p2 8 rfl rfl
theorem kw_788 : Cond.code yX9_comes cX9_comes 3 none ∈ sv_w := sv_m5 12 rfl rfl
theorem kw_789 : Cond.constantLong RX9 336 (8) ∈ sv_w := sv_m5 213 rfl rfl
theorem kw_790 : Cond.fieldLink RX9 338 "SeaReceiverModel" "outs" "I" ∈ sv_w := sv_m4 122 rfl rfl
theorem kw_791 : Cond.constantLong RX9 341 (17) ∈ sv_w := sv_m5 218 rfl rfl
theorem kw_792 : Cond.methodLink RX9 343 yX9_refuse ∈ sv_w := sv_m5 219 rfl rfl
theorem kw_793 : Cond.instanceMethod yX9_refuse ∈ sv_w := sv_m5 221 rfl rfl
theorem kw_794 : Cond.selects RX9 yX9_refuse yX9_refuse ∈ sv_w := sv_p4 15 rfl rfl
theorem kw_795 : Cond.code yX9_refuse cX9_refuse 2 (some .int) ∈ sv_w := sv_m5 222 rfl rfl
theorem kw_796 : Cond.constantLong RX9 346 (23) ∈ sv_w := sv_m5 231 rfl rfl
theorem kw_797 : Cond.constantLong RX9 348 (30) ∈ sv_w := sv_m5 232 rfl rfl
theorem kw_798 : Cond.constantLong RX9 350 (2) ∈ sv_w := sv_m5 237 rfl rfl
theorem kw_799 : Cond.fieldLink RX9 355 "SeaReceiverModel" "check" "I" ∈ sv_w := sv_m4 155 rfl rfl
theorem kw_800 : Cond.methodLink RX9 358 yX9_write ∈ sv_w := sv_m6 16 rfl rfl
theorem kw_801 : Cond.instanceMethod yX9_write ∈ sv_w := sv_m6 18 rfl rfl
theorem kw_802 : Cond.selects RX9 yX9_write yX9_write ∈ sv_w := sv_p5 2 rfl rfl
theorem kw_803 : Cond.code yX9_write cX9_write 2 none ∈ sv_w := sv_m6 19 rfl rfl
theorem kw_804 : Cond.methodLink RX9 363 yX9_writeAll ∈ sv_w := sv_m6 12 rfl rfl
theorem kw_805 : Cond.instanceMethod yX9_writeAll ∈ sv_w := sv_m6 14 rfl rfl
theorem kw_806 : Cond.selects RX9 yX9_writeAll yX9_writeAll ∈ sv_w := sv_p5 1 rfl rfl
theorem kw_807 : Cond.code yX9_writeAll cX9_writeAll 3 none ∈ sv_w := sv_m6 15 rfl rfl
theorem kw_808 : Cond.methodLink RX9 369 yX9_hexOf ∈ sv_w := sv_m6 21 rfl rfl
theorem kw_809 : Cond.static yX9_hexOf ∈ sv_w := sv_m6 22 rfl rfl
theorem kw_810 : Cond.code yX9_hexOf cX9_hexOf 1 (some .int) ∈ sv_w := sv_m6 23 rfl rfl
theorem kw_811 : Cond.constantLong RX9 372 (9) ∈ sv_w := sv_m6 6 rfl rfl
theorem kw_812 : Cond.methodLink RX9 374 yX9_sentence ∈ sv_w := sv_m6 7 rfl rfl
theorem kw_813 : Cond.instanceMethod yX9_sentence ∈ sv_w := sv_m6 9 rfl rfl
theorem kw_814 : Cond.selects RX9 yX9_sentence yX9_sentence ∈ sv_w := sv_p5 0 rfl rfl
theorem kw_815 : Cond.code yX9_sentence cX9_sentence 10 none ∈ sv_w := sv_m6 10 rfl rfl
theorem kw_817 : Cond.classLink RL 13 "java/util/NoSuchElementException" ∈ sv_w := sv_m3 196 rfl rfl
theorem kw_818 : Cond.methodLink RL 7 yX8_fix ∈ sv_w := sv_m3 197 rfl rfl
theorem kw_819 : Cond.instanceMethod yX8_fix ∈ sv_w := sv_m3 198 rfl rfl
theorem kw_820 : Cond.selects RX8 yX8_fix yX8_fix ∈ sv_w := sv_m3 199 rfl rfl
theorem kw_821 : Cond.code yX8_fix cX8_fix 2 (some .int) ∈ sv_w := sv_m3 200 rfl rfl
theorem kw_823 : Cond.methodLink RL 15 yX8_vessel ∈ sv_w := sv_m4 30 rfl rfl
theorem kw_824 : Cond.instanceMethod yX8_vessel ∈ sv_w := sv_m4 31 rfl rfl
theorem kw_825 : Cond.selects RX8 yX8_vessel yX8_vessel ∈ sv_w := sv_m4 32 rfl rfl
theorem kw_826 : Cond.code yX8_vessel cX8_vessel 4 (some .int) ∈ sv_w := sv_m4 33 rfl rfl
theorem kw_827 : Cond.methodLink RL 19 yX8_bits ∈ sv_w := sv_m4 39 rfl rfl
theorem kw_828 : Cond.instanceMethod yX8_bits ∈ sv_w := sv_m4 40 rfl rfl
theorem kw_829 : Cond.selects RX8 yX8_bits yX8_bits ∈ sv_w := sv_m4 41 rfl rfl
theorem kw_830 : Cond.code yX8_bits cX8_bits 3 (some .int) ∈ sv_w := sv_m4 42 rfl rfl
theorem kw_831 : Cond.classLink RL 26 "java/lang/IllegalArgumentException" ∈ sv_w := sv_m4 47 rfl rfl
theorem kw_832 : Cond.methodLink RL 22 yX8_send ∈ sv_w := sv_m4 48 rfl rfl
theorem kw_833 : Cond.instanceMethod yX8_send ∈ sv_w := sv_m4 49 rfl rfl
theorem kw_834 : Cond.selects RX8 yX8_send yX8_send ∈ sv_w := sv_m4 50 rfl rfl
theorem kw_835 : Cond.code yX8_send cX8_send 6 (some .int) ∈ sv_w := sv_m4 51 rfl rfl
theorem kw_838 : Cond.classLink RL 8 RX8 ∈ sv_w := sv_m1 23 rfl rfl
theorem kw_839 : Cond.instantiable RX8 10 ∈ sv_w := sv_m1 24 rfl rfl
theorem kw_840 : Cond.classLink RL 29 RX9 ∈ sv_w := sv_m4 106 rfl rfl
theorem kw_841 : Cond.instantiable RX9 38 ∈ sv_w := sv_m4 107 rfl rfl
theorem kw_842 : Cond.arrayClass .long ∈ sv_w := sv_m6 36 rfl rfl
theorem kw_843 : Cond.methodLink RL 28 yX8_init ∈ sv_w := sv_m1 25 rfl rfl
theorem kw_844 : Cond.instanceMethod yX8_init ∈ sv_w := sv_m1 26 rfl rfl
theorem kw_845 : Cond.code yX8_init cX8_init 1 none ∈ sv_w := sv_m1 27 rfl rfl
theorem kw_846 : Cond.methodLink RL 31 yX9_init ∈ sv_w := sv_m4 108 rfl rfl
theorem kw_847 : Cond.instanceMethod yX9_init ∈ sv_w := sv_m4 109 rfl rfl
theorem kw_848 : Cond.code yX9_init cX9_init 1 none ∈ sv_w := sv_m4 110 rfl rfl
theorem kw_849 : Cond.methodLink RL 32 yX8_feed ∈ sv_w := sv_m1 199 rfl rfl
theorem kw_850 : Cond.instanceMethod yX8_feed ∈ sv_w := sv_m1 200 rfl rfl
theorem kw_851 : Cond.selects RX8 yX8_feed yX8_feed ∈ sv_w := sv_m1 201 rfl rfl
theorem kw_852 : Cond.code yX8_feed cX8_feed 6 (some .int) ∈ sv_w := sv_m1 202 rfl rfl
theorem kw_853 : Cond.methodLink RL 36 yX9_feed ∈ sv_w := sv_m4 234 rfl rfl
theorem kw_854 : Cond.instanceMethod yX9_feed ∈ sv_w := sv_m4 235 rfl rfl
theorem kw_855 : Cond.selects RX9 yX9_feed yX9_feed ∈ sv_w := sv_m4 236 rfl rfl
theorem kw_856 : Cond.code yX9_feed cX9_feed 8 (some .int) ∈ sv_w := sv_m4 237 rfl rfl
theorem kw_857 : Cond.methodLink RL 37 yX8_end ∈ sv_w := sv_m1 216 rfl rfl
theorem kw_858 : Cond.instanceMethod yX8_end ∈ sv_w := sv_m1 217 rfl rfl
theorem kw_859 : Cond.selects RX8 yX8_end yX8_end ∈ sv_w := sv_m1 218 rfl rfl
theorem kw_860 : Cond.code yX8_end cX8_end 2 (some .boolean) ∈ sv_w := sv_m1 219 rfl rfl
theorem kw_861 : Cond.methodLink RL 41 yX9_end ∈ sv_w := sv_m4 238 rfl rfl
theorem kw_862 : Cond.instanceMethod yX9_end ∈ sv_w := sv_m4 239 rfl rfl
theorem kw_863 : Cond.selects RX9 yX9_end yX9_end ∈ sv_w := sv_m5 0 rfl rfl
theorem kw_864 : Cond.code yX9_end cX9_end 2 (some .boolean) ∈ sv_w := sv_m5 1 rfl rfl
theorem kw_865 : Cond.methodLink RL 42 yX8_stream ∈ sv_w := sv_m1 220 rfl rfl
theorem kw_866 : Cond.instanceMethod yX8_stream ∈ sv_w := sv_m1 221 rfl rfl
theorem kw_867 : Cond.selects RX8 yX8_stream yX8_stream ∈ sv_w := sv_m1 222 rfl rfl
theorem kw_868 : Cond.code yX8_stream cX8_stream 5 (some .int) ∈ sv_w := sv_m1 223 rfl rfl
theorem kw_869 : Cond.methodLink RL 46 yX9_stream ∈ sv_w := sv_m5 5 rfl rfl
theorem kw_870 : Cond.instanceMethod yX9_stream ∈ sv_w := sv_m5 6 rfl rfl
theorem kw_871 : Cond.selects RX9 yX9_stream yX9_stream ∈ sv_w := sv_m5 7 rfl rfl
theorem kw_872 : Cond.code yX9_stream cX9_stream 4 (some .int) ∈ sv_w := sv_m5 8 rfl rfl
theorem kw_873 : Cond.methodLink RL 47 yX8_count ∈ sv_w := sv_m3 136 rfl rfl
theorem kw_874 : Cond.instanceMethod yX8_count ∈ sv_w := sv_m3 137 rfl rfl
theorem kw_875 : Cond.selects RX8 yX8_count yX8_count ∈ sv_w := sv_m3 138 rfl rfl
theorem kw_876 : Cond.code yX8_count cX8_count 2 (some .int) ∈ sv_w := sv_m3 139 rfl rfl
theorem kw_877 : Cond.methodLink RL 50 yX9_count ∈ sv_w := sv_m5 209 rfl rfl
theorem kw_878 : Cond.instanceMethod yX9_count ∈ sv_w := sv_m5 210 rfl rfl
theorem kw_879 : Cond.selects RX9 yX9_count yX9_count ∈ sv_w := sv_m5 211 rfl rfl
theorem kw_880 : Cond.code yX9_count cX9_count 4 (some .int) ∈ sv_w := sv_m5 212 rfl rfl
theorem kw_881 : Cond.methodLink RL 51 yL_fix ∈ sv_w := sv_m3 193 rfl rfl
theorem kw_882 : Cond.static yL_fix ∈ sv_w := sv_m3 194 rfl rfl
theorem kw_883 : Cond.initialized RL ∈ sv_w := sv_m1 0 rfl rfl
theorem kw_885 : Cond.methodLink RL 56 yX9_fix ∈ sv_w := sv_m5 214 rfl rfl
theorem kw_886 : Cond.instanceMethod yX9_fix ∈ sv_w := sv_m5 215 rfl rfl
theorem kw_887 : Cond.selects RX9 yX9_fix yX9_fix ∈ sv_w := sv_m5 216 rfl rfl
theorem kw_888 : Cond.code yX9_fix cX9_fix 2 (some .int) ∈ sv_w := sv_m5 217 rfl rfl
theorem kw_889 : Cond.methodLink RL 57 yX9_thrown ∈ sv_w := sv_m4 102 rfl rfl
theorem kw_890 : Cond.instanceMethod yX9_thrown ∈ sv_w := sv_m4 103 rfl rfl
theorem kw_891 : Cond.selects RX9 yX9_thrown yX9_thrown ∈ sv_w := sv_m4 104 rfl rfl
theorem kw_892 : Cond.code yX9_thrown cX9_thrown 1 (some .int) ∈ sv_w := sv_m4 105 rfl rfl
theorem kw_893 : Cond.methodLink RL 60 yX8_find ∈ sv_w := sv_m3 148 rfl rfl
theorem kw_894 : Cond.instanceMethod yX8_find ∈ sv_w := sv_m3 149 rfl rfl
theorem kw_895 : Cond.selects RX8 yX8_find yX8_find ∈ sv_w := sv_m3 150 rfl rfl
theorem kw_896 : Cond.code yX8_find cX8_find 2 (some .int) ∈ sv_w := sv_m3 151 rfl rfl
theorem kw_897 : Cond.methodLink RL 63 yX9_find ∈ sv_w := sv_m5 223 rfl rfl
theorem kw_898 : Cond.instanceMethod yX9_find ∈ sv_w := sv_m5 224 rfl rfl
theorem kw_899 : Cond.selects RX9 yX9_find yX9_find ∈ sv_w := sv_m5 225 rfl rfl
theorem kw_900 : Cond.code yX9_find cX9_find 2 (some .int) ∈ sv_w := sv_m5 226 rfl rfl
theorem kw_901 : Cond.methodLink RL 64 yL_vessel ∈ sv_w := sv_m4 27 rfl rfl
theorem kw_902 : Cond.static yL_vessel ∈ sv_w := sv_m4 28 rfl rfl
theorem kw_904 : Cond.methodLink RL 67 yX9_vessel ∈ sv_w := sv_m5 227 rfl rfl
theorem kw_905 : Cond.instanceMethod yX9_vessel ∈ sv_w := sv_m5 228 rfl rfl
theorem kw_906 : Cond.selects RX9 yX9_vessel yX9_vessel ∈ sv_w := sv_m5 229 rfl rfl
theorem kw_907 : Cond.code yX9_vessel cX9_vessel 3 (some .int) ∈ sv_w := sv_m5 230 rfl rfl
theorem kw_908 : Cond.methodLink RL 68 yX8_letter ∈ sv_w := sv_m3 153 rfl rfl
theorem kw_909 : Cond.instanceMethod yX8_letter ∈ sv_w := sv_m3 154 rfl rfl
theorem kw_910 : Cond.selects RX8 yX8_letter yX8_letter ∈ sv_w := sv_m3 155 rfl rfl
theorem kw_911 : Cond.code yX8_letter cX8_letter 5 (some .int) ∈ sv_w := sv_m3 156 rfl rfl
theorem kw_912 : Cond.methodLink RL 71 yX9_letter ∈ sv_w := sv_m5 233 rfl rfl
theorem kw_913 : Cond.instanceMethod yX9_letter ∈ sv_w := sv_m5 234 rfl rfl
theorem kw_914 : Cond.selects RX9 yX9_letter yX9_letter ∈ sv_w := sv_m5 235 rfl rfl
theorem kw_915 : Cond.code yX9_letter cX9_letter 4 (some .int) ∈ sv_w := sv_m5 236 rfl rfl
theorem kw_916 : Cond.methodLink RL 72 yL_bits ∈ sv_w := sv_m4 36 rfl rfl
theorem kw_917 : Cond.static yL_bits ∈ sv_w := sv_m4 37 rfl rfl
theorem kw_919 : Cond.methodLink RL 74 yX9_bits ∈ sv_w := sv_m5 238 rfl rfl
theorem kw_920 : Cond.instanceMethod yX9_bits ∈ sv_w := sv_m5 239 rfl rfl
theorem kw_921 : Cond.selects RX9 yX9_bits yX9_bits ∈ sv_w := sv_m6 0 rfl rfl
theorem kw_922 : Cond.code yX9_bits cX9_bits 3 (some .int) ∈ sv_w := sv_m6 1 rfl rfl
theorem kw_923 : Cond.methodLink RL 75 yL_send ∈ sv_w := sv_m4 44 rfl rfl
theorem kw_924 : Cond.static yL_send ∈ sv_w := sv_m4 45 rfl rfl
theorem kw_926 : Cond.methodLink RL 78 yX9_send ∈ sv_w := sv_m6 2 rfl rfl
theorem kw_927 : Cond.instanceMethod yX9_send ∈ sv_w := sv_m6 3 rfl rfl
theorem kw_928 : Cond.selects RX9 yX9_send yX9_send ∈ sv_w := sv_m6 4 rfl rfl
theorem kw_929 : Cond.code yX9_send cX9_send 4 (some .int) ∈ sv_w := sv_m6 5 rfl rfl
theorem kw_930 : Cond.methodLink RL 79 yX8_out ∈ sv_w := sv_m3 165 rfl rfl
theorem kw_931 : Cond.instanceMethod yX8_out ∈ sv_w := sv_m3 166 rfl rfl
theorem kw_932 : Cond.selects RX8 yX8_out yX8_out ∈ sv_w := sv_m3 167 rfl rfl
theorem kw_933 : Cond.code yX8_out cX8_out 2 (some .int) ∈ sv_w := sv_m3 168 rfl rfl
theorem kw_934 : Cond.methodLink RL 82 yX9_out ∈ sv_w := sv_m6 24 rfl rfl
theorem kw_935 : Cond.instanceMethod yX9_out ∈ sv_w := sv_m6 25 rfl rfl
theorem kw_936 : Cond.selects RX9 yX9_out yX9_out ∈ sv_w := sv_m6 26 rfl rfl
theorem kw_937 : Cond.code yX9_out cX9_out 2 (some .int) ∈ sv_w := sv_m6 27 rfl rfl
theorem kw_938 : Cond.methodLink RL 83 yX8_again ∈ sv_w := sv_m3 169 rfl rfl
theorem kw_939 : Cond.instanceMethod yX8_again ∈ sv_w := sv_m3 170 rfl rfl
theorem kw_940 : Cond.selects RX8 yX8_again yX8_again ∈ sv_w := sv_m3 171 rfl rfl
theorem kw_941 : Cond.code yX8_again cX8_again 2 (some .int) ∈ sv_w := sv_m3 172 rfl rfl
theorem kw_942 : Cond.methodLink RL 86 yX9_again ∈ sv_w := sv_m6 28 rfl rfl
theorem kw_943 : Cond.instanceMethod yX9_again ∈ sv_w := sv_m6 29 rfl rfl
theorem kw_944 : Cond.selects RX9 yX9_again yX9_again ∈ sv_w := sv_m6 30 rfl rfl
theorem kw_945 : Cond.code yX9_again cX9_again 2 (some .int) ∈ sv_w := sv_m6 31 rfl rfl
theorem kw_946 : Cond.methodLink RL 87 yX8_clear ∈ sv_w := sv_m3 174 rfl rfl
theorem kw_947 : Cond.instanceMethod yX8_clear ∈ sv_w := sv_m3 175 rfl rfl
theorem kw_948 : Cond.selects RX8 yX8_clear yX8_clear ∈ sv_w := sv_m3 176 rfl rfl
theorem kw_949 : Cond.code yX8_clear cX8_clear 1 none ∈ sv_w := sv_m3 177 rfl rfl
theorem kw_950 : Cond.methodLink RL 90 yX9_clear ∈ sv_w := sv_m6 32 rfl rfl
theorem kw_951 : Cond.instanceMethod yX9_clear ∈ sv_w := sv_m6 33 rfl rfl
theorem kw_952 : Cond.selects RX9 yX9_clear yX9_clear ∈ sv_w := sv_m6 34 rfl rfl
theorem kw_953 : Cond.code yX9_clear cX9_clear 1 none ∈ sv_w := sv_m6 35 rfl rfl
theorem sv_ins {C : String} {T : u_T} {N : Nat} (h : ((List.range N).map (u_lay C T)).all (fun w => decide (w ∈ tables_1) && goodWord w) = true) : ∀ w ∈ u_ws C T N, w ∈ sv_w := fun w hw => by
  have h1 := List.all_eq_true.mp h w hw
  simp only [Bool.and_eq_true, decide_eq_true_eq] at h1
  exact sv_t1 h1.1 h1.2
theorem sv_in0 : ∀ w ∈ wsX00, w ∈ sv_w := sv_ins (by decide +kernel)
theorem sv_in1 : ∀ w ∈ wsX10, w ∈ sv_w := sv_ins (by decide +kernel)
theorem sv_in2 : ∀ w ∈ wsX20, w ∈ sv_w := sv_ins (by decide +kernel)
theorem sv_in3 : ∀ w ∈ wsX30, w ∈ sv_w := sv_ins (by decide +kernel)
theorem sv_in4 : ∀ w ∈ wsX40, w ∈ sv_w := sv_ins (by decide +kernel)
theorem sv_in5 : ∀ w ∈ wsX50, w ∈ sv_w := sv_ins (by decide +kernel)
theorem sv_in6 : ∀ w ∈ wsX60, w ∈ sv_w := sv_ins (by decide +kernel)
theorem sv_in7 : ∀ w ∈ wsX70, w ∈ sv_w := sv_ins (by decide +kernel)
theorem sv_in8 : ∀ w ∈ wsX80, w ∈ sv_w := sv_ins (by decide +kernel)
theorem sv_in9 : ∀ w ∈ wsX90, w ∈ sv_w := sv_ins (by decide +kernel)
end
section
theorem dX9_thrown_0 : decode cX9_thrown 0 = .ok (.aload_n 0, 1) := by decide +kernel
theorem dX9_thrown_1 : decode cX9_thrown 1 = .ok (.getfield 1, 3) := by decide +kernel
theorem dX9_thrown_4 : decode cX9_thrown 4 = .ok (.ireturn, 1) := by decide +kernel
theorem dX9_in_0 : decode cX9_in 0 = .ok (.lload_n 0, 1) := by decide +kernel
theorem dX9_in_1 : decode cX9_in 1 = .ok (.lload_n 2, 1) := by decide +kernel
theorem dX9_in_2 : decode cX9_in 2 = .ok (.lcmp, 1) := by decide +kernel
theorem dX9_in_3 : decode cX9_in 3 = .ok (.ifCond .lt 14, 3) := by decide +kernel
theorem dX9_in_6 : decode cX9_in 6 = .ok (.lload_n 0, 1) := by decide +kernel
theorem dX9_in_7 : decode cX9_in 7 = .ok (.lload 4, 2) := by decide +kernel
theorem dX9_in_9 : decode cX9_in 9 = .ok (.lcmp, 1) := by decide +kernel
theorem dX9_in_10 : decode cX9_in 10 = .ok (.ifCond .gt 7, 3) := by decide +kernel
theorem dX9_in_13 : decode cX9_in 13 = .ok (.iconst 1, 1) := by decide +kernel
theorem dX9_in_14 : decode cX9_in 14 = .ok (.goto 4, 3) := by decide +kernel
theorem dX9_in_17 : decode cX9_in 17 = .ok (.iconst 0, 1) := by decide +kernel
theorem dX9_in_18 : decode cX9_in 18 = .ok (.ireturn, 1) := by decide +kernel
theorem dX9_refuse_0 : decode cX9_refuse 0 = .ok (.aload_n 0, 1) := by decide +kernel
theorem dX9_refuse_1 : decode cX9_refuse 1 = .ok (.iload_n 1, 1) := by decide +kernel
theorem dX9_refuse_2 : decode cX9_refuse 2 = .ok (.putfield 1, 3) := by decide +kernel
theorem dX9_refuse_5 : decode cX9_refuse 5 = .ok (.iconst 0, 1) := by decide +kernel
theorem dX9_refuse_6 : decode cX9_refuse 6 = .ok (.ireturn, 1) := by decide +kernel
theorem dX9_init_0 : decode cX9_init 0 = .ok (.aload_n 0, 1) := by decide +kernel
theorem dX9_init_1 : decode cX9_init 1 = .ok (.invokespecial 7, 3) := by decide +kernel
theorem dX9_init_4 : decode cX9_init 4 = .ok (.aload_n 0, 1) := by decide +kernel
theorem dX9_init_5 : decode cX9_init 5 = .ok (.sipush 2000, 3) := by decide +kernel
theorem dX9_init_8 : decode cX9_init 8 = .ok (.newarray .int, 2) := by decide +kernel
theorem dX9_init_10 : decode cX9_init 10 = .ok (.putfield 13, 3) := by decide +kernel
theorem dX9_init_13 : decode cX9_init 13 = .ok (.aload_n 0, 1) := by decide +kernel
theorem dX9_init_14 : decode cX9_init 14 = .ok (.sipush 200, 3) := by decide +kernel
theorem dX9_init_17 : decode cX9_init 17 = .ok (.newarray .int, 2) := by decide +kernel
theorem dX9_init_19 : decode cX9_init 19 = .ok (.putfield 17, 3) := by decide +kernel
theorem dX9_init_22 : decode cX9_init 22 = .ok (.aload_n 0, 1) := by decide +kernel
theorem dX9_init_23 : decode cX9_init 23 = .ok (.bipush 79, 2) := by decide +kernel
theorem dX9_init_25 : decode cX9_init 25 = .ok (.newarray .int, 2) := by decide +kernel
theorem dX9_init_27 : decode cX9_init 27 = .ok (.putfield 20, 3) := by decide +kernel
theorem dX9_init_30 : decode cX9_init 30 = .ok (.aload_n 0, 1) := by decide +kernel
theorem dX9_init_31 : decode cX9_init 31 = .ok (.bipush 9, 2) := by decide +kernel
theorem dX9_init_33 : decode cX9_init 33 = .ok (.newarray .int, 2) := by decide +kernel
theorem dX9_init_35 : decode cX9_init 35 = .ok (.putfield 23, 3) := by decide +kernel
theorem dX9_init_38 : decode cX9_init 38 = .ok (.aload_n 0, 1) := by decide +kernel
theorem dX9_init_39 : decode cX9_init 39 = .ok (.bipush 80, 2) := by decide +kernel
theorem dX9_init_41 : decode cX9_init 41 = .ok (.newarray .int, 2) := by decide +kernel
theorem dX9_init_43 : decode cX9_init 43 = .ok (.putfield 26, 3) := by decide +kernel
theorem dX9_init_46 : decode cX9_init 46 = .ok (.aload_n 0, 1) := by decide +kernel
theorem dX9_init_47 : decode cX9_init 47 = .ok (.bipush 80, 2) := by decide +kernel
theorem dX9_init_49 : decode cX9_init 49 = .ok (.newarray .int, 2) := by decide +kernel
theorem dX9_init_51 : decode cX9_init 51 = .ok (.putfield 29, 3) := by decide +kernel
theorem dX9_init_54 : decode cX9_init 54 = .ok (.aload_n 0, 1) := by decide +kernel
theorem dX9_init_55 : decode cX9_init 55 = .ok (.bipush 18, 2) := by decide +kernel
theorem dX9_init_57 : decode cX9_init 57 = .ok (.newarray .int, 2) := by decide +kernel
theorem dX9_init_59 : decode cX9_init 59 = .ok (.putfield 32, 3) := by decide +kernel
theorem dX9_init_62 : decode cX9_init 62 = .ok (.aload_n 0, 1) := by decide +kernel
theorem dX9_init_63 : decode cX9_init 63 = .ok (.bipush 18, 2) := by decide +kernel
theorem dX9_init_65 : decode cX9_init 65 = .ok (.newarray .int, 2) := by decide +kernel
theorem dX9_init_67 : decode cX9_init 67 = .ok (.putfield 35, 3) := by decide +kernel
theorem dX9_init_70 : decode cX9_init 70 = .ok (.aload_n 0, 1) := by decide +kernel
theorem dX9_init_71 : decode cX9_init 71 = .ok (.bipush 11, 2) := by decide +kernel
theorem dX9_init_73 : decode cX9_init 73 = .ok (.newarray .int, 2) := by decide +kernel
theorem dX9_init_75 : decode cX9_init 75 = .ok (.putfield 38, 3) := by decide +kernel
theorem dX9_init_78 : decode cX9_init 78 = .ok (.aload_n 0, 1) := by decide +kernel
theorem dX9_init_79 : decode cX9_init 79 = .ok (.bipush 11, 2) := by decide +kernel
theorem dX9_init_81 : decode cX9_init 81 = .ok (.newarray .int, 2) := by decide +kernel
theorem dX9_init_83 : decode cX9_init 83 = .ok (.putfield 41, 3) := by decide +kernel
theorem dX9_init_86 : decode cX9_init 86 = .ok (.aload_n 0, 1) := by decide +kernel
theorem dX9_init_87 : decode cX9_init 87 = .ok (.bipush 11, 2) := by decide +kernel
theorem dX9_init_89 : decode cX9_init 89 = .ok (.newarray .int, 2) := by decide +kernel
theorem dX9_init_91 : decode cX9_init 91 = .ok (.putfield 44, 3) := by decide +kernel
theorem dX9_init_94 : decode cX9_init 94 = .ok (.aload_n 0, 1) := by decide +kernel
theorem dX9_init_95 : decode cX9_init 95 = .ok (.ldc 47, 2) := by decide +kernel
theorem dX9_init_97 : decode cX9_init 97 = .ok (.newarray .boolean, 2) := by decide +kernel
theorem dX9_init_99 : decode cX9_init 99 = .ok (.putfield 48, 3) := by decide +kernel
theorem dX9_init_102 : decode cX9_init 102 = .ok (.aload_n 0, 1) := by decide +kernel
theorem dX9_init_103 : decode cX9_init 103 = .ok (.sipush 3240, 3) := by decide +kernel
theorem dX9_init_106 : decode cX9_init 106 = .ok (.newarray .boolean, 2) := by decide +kernel
theorem dX9_init_108 : decode cX9_init 108 = .ok (.putfield 52, 3) := by decide +kernel
theorem dX9_init_111 : decode cX9_init 111 = .ok (.aload_n 0, 1) := by decide +kernel
theorem dX9_init_112 : decode cX9_init 112 = .ok (.sipush 960, 3) := by decide +kernel
theorem dX9_init_115 : decode cX9_init 115 = .ok (.newarray .int, 2) := by decide +kernel
theorem dX9_init_117 : decode cX9_init 117 = .ok (.putfield 55, 3) := by decide +kernel
theorem dX9_init_120 : decode cX9_init 120 = .ok (.aload_n 0, 1) := by decide +kernel
theorem dX9_init_121 : decode cX9_init 121 = .ok (.sipush 2400, 3) := by decide +kernel
theorem dX9_init_124 : decode cX9_init 124 = .ok (.newarray .int, 2) := by decide +kernel
theorem dX9_init_126 : decode cX9_init 126 = .ok (.putfield 58, 3) := by decide +kernel
theorem dX9_init_129 : decode cX9_init 129 = .ok (.aload_n 0, 1) := by decide +kernel
theorem dX9_init_130 : decode cX9_init 130 = .ok (.bipush 120, 2) := by decide +kernel
theorem dX9_init_132 : decode cX9_init 132 = .ok (.newarray .int, 2) := by decide +kernel
theorem dX9_init_134 : decode cX9_init 134 = .ok (.putfield 61, 3) := by decide +kernel
theorem dX9_init_137 : decode cX9_init 137 = .ok (.aload_n 0, 1) := by decide +kernel
theorem dX9_init_138 : decode cX9_init 138 = .ok (.sipush 424, 3) := by decide +kernel
theorem dX9_init_141 : decode cX9_init 141 = .ok (.newarray .boolean, 2) := by decide +kernel
theorem dX9_init_143 : decode cX9_init 143 = .ok (.putfield 64, 3) := by decide +kernel
theorem dX9_init_146 : decode cX9_init 146 = .ok (.aload_n 0, 1) := by decide +kernel
theorem dX9_init_147 : decode cX9_init 147 = .ok (.invokevirtual 67, 3) := by decide +kernel
theorem dX9_init_150 : decode cX9_init 150 = .ok (.return_, 1) := by decide +kernel
theorem dX9_feed_0 : decode cX9_feed 0 = .ok (.aload_n 0, 1) := by decide +kernel
theorem dX9_feed_1 : decode cX9_feed 1 = .ok (.iconst 0, 1) := by decide +kernel
theorem dX9_feed_2 : decode cX9_feed 2 = .ok (.putfield 1, 3) := by decide +kernel
theorem dX9_feed_5 : decode cX9_feed 5 = .ok (.aload_n 0, 1) := by decide +kernel
theorem dX9_feed_6 : decode cX9_feed 6 = .ok (.getfield 70, 3) := by decide +kernel
theorem dX9_feed_9 : decode cX9_feed 9 = .ok (.sipush 1980, 3) := by decide +kernel
theorem dX9_feed_12 : decode cX9_feed 12 = .ok (.if_icmp .le 6, 3) := by decide +kernel
theorem dX9_feed_15 : decode cX9_feed 15 = .ok (.ldc 73, 2) := by decide +kernel
theorem dX9_feed_17 : decode cX9_feed 17 = .ok (.ireturn, 1) := by decide +kernel
theorem dX9_feed_18 : decode cX9_feed 18 = .ok (.iconst 0, 1) := by decide +kernel
theorem dX9_feed_19 : decode cX9_feed 19 = .ok (.istore 6, 2) := by decide +kernel
theorem dX9_feed_21 : decode cX9_feed 21 = .ok (.iload 6, 2) := by decide +kernel
theorem dX9_feed_23 : decode cX9_feed 23 = .ok (.bipush 20, 2) := by decide +kernel
theorem dX9_feed_25 : decode cX9_feed 25 = .ok (.if_icmp .ge 86, 3) := by decide +kernel
theorem dX9_feed_28 : decode cX9_feed 28 = .ok (.iload 6, 2) := by decide +kernel
theorem dX9_feed_30 : decode cX9_feed 30 = .ok (.iconst 4, 1) := by decide +kernel
theorem dX9_feed_31 : decode cX9_feed 31 = .ok (.if_icmp .ge 7, 3) := by decide +kernel
theorem dX9_feed_34 : decode cX9_feed 34 = .ok (.iload_n 1, 1) := by decide +kernel
theorem dX9_feed_35 : decode cX9_feed 35 = .ok (.goto 39, 3) := by decide +kernel
theorem dX9_feed_38 : decode cX9_feed 38 = .ok (.iload 6, 2) := by decide +kernel
theorem dX9_feed_40 : decode cX9_feed 40 = .ok (.bipush 8, 2) := by decide +kernel
theorem dX9_feed_42 : decode cX9_feed 42 = .ok (.if_icmp .ge 7, 3) := by decide +kernel
theorem dX9_feed_45 : decode cX9_feed 45 = .ok (.iload_n 2, 1) := by decide +kernel
theorem dX9_feed_46 : decode cX9_feed 46 = .ok (.goto 28, 3) := by decide +kernel
theorem dX9_feed_49 : decode cX9_feed 49 = .ok (.iload 6, 2) := by decide +kernel
theorem dX9_feed_51 : decode cX9_feed 51 = .ok (.bipush 12, 2) := by decide +kernel
theorem dX9_feed_53 : decode cX9_feed 53 = .ok (.if_icmp .ge 7, 3) := by decide +kernel
theorem dX9_feed_56 : decode cX9_feed 56 = .ok (.iload_n 3, 1) := by decide +kernel
theorem dX9_feed_57 : decode cX9_feed 57 = .ok (.goto 17, 3) := by decide +kernel
theorem dX9_feed_60 : decode cX9_feed 60 = .ok (.iload 6, 2) := by decide +kernel
theorem dX9_feed_62 : decode cX9_feed 62 = .ok (.bipush 16, 2) := by decide +kernel
theorem dX9_feed_64 : decode cX9_feed 64 = .ok (.if_icmp .ge 8, 3) := by decide +kernel
theorem dX9_feed_67 : decode cX9_feed 67 = .ok (.iload 4, 2) := by decide +kernel
theorem dX9_feed_69 : decode cX9_feed 69 = .ok (.goto 5, 3) := by decide +kernel
theorem dX9_feed_72 : decode cX9_feed 72 = .ok (.iload 5, 2) := by decide +kernel
theorem dX9_feed_74 : decode cX9_feed 74 = .ok (.istore 7, 2) := by decide +kernel
theorem dX9_feed_76 : decode cX9_feed 76 = .ok (.aload_n 0, 1) := by decide +kernel
theorem dX9_feed_77 : decode cX9_feed 77 = .ok (.getfield 13, 3) := by decide +kernel
theorem dX9_feed_80 : decode cX9_feed 80 = .ok (.aload_n 0, 1) := by decide +kernel
theorem dX9_feed_81 : decode cX9_feed 81 = .ok (.getfield 70, 3) := by decide +kernel
theorem dX9_feed_84 : decode cX9_feed 84 = .ok (.iload 6, 2) := by decide +kernel
theorem dX9_feed_86 : decode cX9_feed 86 = .ok (.iadd, 1) := by decide +kernel
theorem dX9_feed_87 : decode cX9_feed 87 = .ok (.iload 7, 2) := by decide +kernel
theorem dX9_feed_89 : decode cX9_feed 89 = .ok (.bipush 24, 2) := by decide +kernel
theorem dX9_feed_91 : decode cX9_feed 91 = .ok (.bipush 8, 2) := by decide +kernel
theorem dX9_feed_93 : decode cX9_feed 93 = .ok (.iload 6, 2) := by decide +kernel
theorem dX9_feed_95 : decode cX9_feed 95 = .ok (.iconst 4, 1) := by decide +kernel
theorem dX9_feed_96 : decode cX9_feed 96 = .ok (.irem, 1) := by decide +kernel
theorem dX9_feed_97 : decode cX9_feed 97 = .ok (.imul, 1) := by decide +kernel
theorem dX9_feed_98 : decode cX9_feed 98 = .ok (.isub, 1) := by decide +kernel
theorem dX9_feed_99 : decode cX9_feed 99 = .ok (.ishr, 1) := by decide +kernel
theorem dX9_feed_100 : decode cX9_feed 100 = .ok (.sipush 255, 3) := by decide +kernel
theorem dX9_feed_103 : decode cX9_feed 103 = .ok (.iand, 1) := by decide +kernel
theorem dX9_feed_104 : decode cX9_feed 104 = .ok (.iastore, 1) := by decide +kernel
theorem dX9_feed_105 : decode cX9_feed 105 = .ok (.iinc 6 1, 3) := by decide +kernel
theorem dX9_feed_108 : decode cX9_feed 108 = .ok (.goto (-87), 3) := by decide +kernel
theorem dX9_feed_111 : decode cX9_feed 111 = .ok (.aload_n 0, 1) := by decide +kernel
theorem dX9_feed_112 : decode cX9_feed 112 = .ok (.dup, 1) := by decide +kernel
theorem dX9_feed_113 : decode cX9_feed 113 = .ok (.getfield 70, 3) := by decide +kernel
theorem dX9_feed_116 : decode cX9_feed 116 = .ok (.bipush 20, 2) := by decide +kernel
theorem dX9_feed_118 : decode cX9_feed 118 = .ok (.iadd, 1) := by decide +kernel
theorem dX9_feed_119 : decode cX9_feed 119 = .ok (.putfield 70, 3) := by decide +kernel
theorem dX9_feed_122 : decode cX9_feed 122 = .ok (.aload_n 0, 1) := by decide +kernel
theorem dX9_feed_123 : decode cX9_feed 123 = .ok (.getfield 70, 3) := by decide +kernel
theorem dX9_feed_126 : decode cX9_feed 126 = .ok (.ireturn, 1) := by decide +kernel
theorem dX9_end_0 : decode cX9_end 0 = .ok (.aload_n 0, 1) := by decide +kernel
theorem dX9_end_1 : decode cX9_end 1 = .ok (.iconst 0, 1) := by decide +kernel
theorem dX9_end_2 : decode cX9_end 2 = .ok (.putfield 1, 3) := by decide +kernel
theorem dX9_end_5 : decode cX9_end 5 = .ok (.iload_n 1, 1) := by decide +kernel
theorem dX9_end_6 : decode cX9_end 6 = .ok (.i2l, 1) := by decide +kernel
theorem dX9_end_7 : decode cX9_end 7 = .ok (.lconst 0, 1) := by decide +kernel
theorem dX9_end_8 : decode cX9_end 8 = .ok (.aload_n 0, 1) := by decide +kernel
theorem dX9_end_9 : decode cX9_end 9 = .ok (.getfield 70, 3) := by decide +kernel
theorem dX9_end_12 : decode cX9_end 12 = .ok (.i2l, 1) := by decide +kernel
theorem dX9_end_13 : decode cX9_end 13 = .ok (.invokestatic 74, 3) := by decide +kernel
theorem dX9_end_16 : decode cX9_end 16 = .ok (.ifCond .ne 5, 3) := by decide +kernel
theorem dX9_end_19 : decode cX9_end 19 = .ok (.iconst 0, 1) := by decide +kernel
theorem dX9_end_20 : decode cX9_end 20 = .ok (.ireturn, 1) := by decide +kernel
theorem dX9_end_21 : decode cX9_end 21 = .ok (.aload_n 0, 1) := by decide +kernel
theorem dX9_end_22 : decode cX9_end 22 = .ok (.iload_n 1, 1) := by decide +kernel
theorem dX9_end_23 : decode cX9_end 23 = .ok (.putfield 70, 3) := by decide +kernel
theorem dX9_end_26 : decode cX9_end 26 = .ok (.iconst 1, 1) := by decide +kernel
theorem dX9_end_27 : decode cX9_end 27 = .ok (.ireturn, 1) := by decide +kernel
theorem dX9_sixteen_0 : decode cX9_sixteen 0 = .ok (.iload_n 0, 1) := by decide +kernel
theorem dX9_sixteen_1 : decode cX9_sixteen 1 = .ok (.i2l, 1) := by decide +kernel
theorem dX9_sixteen_2 : decode cX9_sixteen 2 = .ok (.ldc2_w 78, 3) := by decide +kernel
theorem dX9_sixteen_5 : decode cX9_sixteen 5 = .ok (.ldc2_w 80, 3) := by decide +kernel
theorem dX9_sixteen_8 : decode cX9_sixteen 8 = .ok (.invokestatic 74, 3) := by decide +kernel
theorem dX9_sixteen_11 : decode cX9_sixteen 11 = .ok (.ifCond .eq 10, 3) := by decide +kernel
theorem dX9_sixteen_14 : decode cX9_sixteen 14 = .ok (.iload_n 0, 1) := by decide +kernel
theorem dX9_sixteen_15 : decode cX9_sixteen 15 = .ok (.bipush 48, 2) := by decide +kernel
theorem dX9_sixteen_17 : decode cX9_sixteen 17 = .ok (.isub, 1) := by decide +kernel
theorem dX9_sixteen_18 : decode cX9_sixteen 18 = .ok (.goto 28, 3) := by decide +kernel
theorem dX9_sixteen_21 : decode cX9_sixteen 21 = .ok (.iload_n 0, 1) := by decide +kernel
theorem dX9_sixteen_22 : decode cX9_sixteen 22 = .ok (.i2l, 1) := by decide +kernel
theorem dX9_sixteen_23 : decode cX9_sixteen 23 = .ok (.ldc2_w 82, 3) := by decide +kernel
theorem dX9_sixteen_26 : decode cX9_sixteen 26 = .ok (.ldc2_w 84, 3) := by decide +kernel
theorem dX9_sixteen_29 : decode cX9_sixteen 29 = .ok (.invokestatic 74, 3) := by decide +kernel
theorem dX9_sixteen_32 : decode cX9_sixteen 32 = .ok (.ifCond .eq 13, 3) := by decide +kernel
theorem dX9_sixteen_35 : decode cX9_sixteen 35 = .ok (.iload_n 0, 1) := by decide +kernel
theorem dX9_sixteen_36 : decode cX9_sixteen 36 = .ok (.bipush 65, 2) := by decide +kernel
theorem dX9_sixteen_38 : decode cX9_sixteen 38 = .ok (.isub, 1) := by decide +kernel
theorem dX9_sixteen_39 : decode cX9_sixteen 39 = .ok (.bipush 10, 2) := by decide +kernel
theorem dX9_sixteen_41 : decode cX9_sixteen 41 = .ok (.iadd, 1) := by decide +kernel
theorem dX9_sixteen_42 : decode cX9_sixteen 42 = .ok (.goto 4, 3) := by decide +kernel
theorem dX9_sixteen_45 : decode cX9_sixteen 45 = .ok (.iconst (-1), 1) := by decide +kernel
theorem dX9_sixteen_46 : decode cX9_sixteen 46 = .ok (.ireturn, 1) := by decide +kernel
theorem dX9_stream_0 : decode cX9_stream 0 = .ok (.aload_n 0, 1) := by decide +kernel
theorem dX9_stream_1 : decode cX9_stream 1 = .ok (.iconst 0, 1) := by decide +kernel
theorem dX9_stream_2 : decode cX9_stream 2 = .ok (.putfield 1, 3) := by decide +kernel
theorem dX9_stream_5 : decode cX9_stream 5 = .ok (.aload_n 0, 1) := by decide +kernel
theorem dX9_stream_6 : decode cX9_stream 6 = .ok (.getfield 23, 3) := by decide +kernel
theorem dX9_stream_9 : decode cX9_stream 9 = .ok (.iconst 0, 1) := by decide +kernel
theorem dX9_stream_10 : decode cX9_stream 10 = .ok (.iaload, 1) := by decide +kernel
theorem dX9_stream_11 : decode cX9_stream 11 = .ok (.istore_n 1, 1) := by decide +kernel
theorem dX9_stream_12 : decode cX9_stream 12 = .ok (.aload_n 0, 1) := by decide +kernel
theorem dX9_stream_13 : decode cX9_stream 13 = .ok (.getfield 70, 3) := by decide +kernel
theorem dX9_stream_16 : decode cX9_stream 16 = .ok (.istore_n 2, 1) := by decide +kernel
theorem dX9_stream_17 : decode cX9_stream 17 = .ok (.aload_n 0, 1) := by decide +kernel
theorem dX9_stream_18 : decode cX9_stream 18 = .ok (.iconst 0, 1) := by decide +kernel
theorem dX9_stream_19 : decode cX9_stream 19 = .ok (.putfield 70, 3) := by decide +kernel
theorem dX9_stream_22 : decode cX9_stream 22 = .ok (.iconst 0, 1) := by decide +kernel
theorem dX9_stream_23 : decode cX9_stream 23 = .ok (.istore_n 3, 1) := by decide +kernel
theorem dX9_stream_24 : decode cX9_stream 24 = .ok (.iload_n 3, 1) := by decide +kernel
theorem dX9_stream_25 : decode cX9_stream 25 = .ok (.iload_n 2, 1) := by decide +kernel
theorem dX9_stream_26 : decode cX9_stream 26 = .ok (.if_icmp .ge 19, 3) := by decide +kernel
theorem dX9_stream_29 : decode cX9_stream 29 = .ok (.aload_n 0, 1) := by decide +kernel
theorem dX9_stream_30 : decode cX9_stream 30 = .ok (.aload_n 0, 1) := by decide +kernel
theorem dX9_stream_31 : decode cX9_stream 31 = .ok (.getfield 13, 3) := by decide +kernel
theorem dX9_stream_34 : decode cX9_stream 34 = .ok (.iload_n 3, 1) := by decide +kernel
theorem dX9_stream_35 : decode cX9_stream 35 = .ok (.iaload, 1) := by decide +kernel
theorem dX9_stream_36 : decode cX9_stream 36 = .ok (.invokevirtual 86, 3) := by decide +kernel
theorem dX9_stream_39 : decode cX9_stream 39 = .ok (.iinc 3 1, 3) := by decide +kernel
theorem dX9_stream_42 : decode cX9_stream 42 = .ok (.goto (-18), 3) := by decide +kernel
theorem dX9_stream_45 : decode cX9_stream 45 = .ok (.aload_n 0, 1) := by decide +kernel
theorem dX9_stream_46 : decode cX9_stream 46 = .ok (.getfield 23, 3) := by decide +kernel
theorem dX9_stream_49 : decode cX9_stream 49 = .ok (.iconst 0, 1) := by decide +kernel
theorem dX9_stream_50 : decode cX9_stream 50 = .ok (.iaload, 1) := by decide +kernel
theorem dX9_stream_51 : decode cX9_stream 51 = .ok (.iload_n 1, 1) := by decide +kernel
theorem dX9_stream_52 : decode cX9_stream 52 = .ok (.isub, 1) := by decide +kernel
theorem dX9_stream_53 : decode cX9_stream 53 = .ok (.ireturn, 1) := by decide +kernel
theorem dX9_comes_0 : decode cX9_comes 0 = .ok (.iload_n 1, 1) := by decide +kernel
theorem dX9_comes_1 : decode cX9_comes 1 = .ok (.bipush 36, 2) := by decide +kernel
theorem dX9_comes_3 : decode cX9_comes 3 = .ok (.if_icmp .eq 9, 3) := by decide +kernel
theorem dX9_comes_6 : decode cX9_comes 6 = .ok (.iload_n 1, 1) := by decide +kernel
theorem dX9_comes_7 : decode cX9_comes 7 = .ok (.bipush 33, 2) := by decide +kernel
theorem dX9_comes_9 : decode cX9_comes 9 = .ok (.if_icmp .ne 47, 3) := by decide +kernel
theorem dX9_comes_12 : decode cX9_comes 12 = .ok (.aload_n 0, 1) := by decide +kernel
theorem dX9_comes_13 : decode cX9_comes 13 = .ok (.getfield 23, 3) := by decide +kernel
theorem dX9_comes_16 : decode cX9_comes 16 = .ok (.iconst 1, 1) := by decide +kernel
theorem dX9_comes_17 : decode cX9_comes 17 = .ok (.dup2, 1) := by decide +kernel
theorem dX9_comes_18 : decode cX9_comes 18 = .ok (.iaload, 1) := by decide +kernel
theorem dX9_comes_19 : decode cX9_comes 19 = .ok (.aload_n 0, 1) := by decide +kernel
theorem dX9_comes_20 : decode cX9_comes 20 = .ok (.getfield 90, 3) := by decide +kernel
theorem dX9_comes_23 : decode cX9_comes 23 = .ok (.ifCond .eq 7, 3) := by decide +kernel
theorem dX9_comes_26 : decode cX9_comes 26 = .ok (.iconst 1, 1) := by decide +kernel
theorem dX9_comes_27 : decode cX9_comes 27 = .ok (.goto 4, 3) := by decide +kernel
theorem dX9_comes_30 : decode cX9_comes 30 = .ok (.iconst 0, 1) := by decide +kernel
theorem dX9_comes_31 : decode cX9_comes 31 = .ok (.iadd, 1) := by decide +kernel
theorem dX9_comes_32 : decode cX9_comes 32 = .ok (.iastore, 1) := by decide +kernel
theorem dX9_comes_33 : decode cX9_comes 33 = .ok (.aload_n 0, 1) := by decide +kernel
theorem dX9_comes_34 : decode cX9_comes 34 = .ok (.iconst 1, 1) := by decide +kernel
theorem dX9_comes_35 : decode cX9_comes 35 = .ok (.putfield 90, 3) := by decide +kernel
theorem dX9_comes_38 : decode cX9_comes 38 = .ok (.aload_n 0, 1) := by decide +kernel
theorem dX9_comes_39 : decode cX9_comes 39 = .ok (.getfield 20, 3) := by decide +kernel
theorem dX9_comes_42 : decode cX9_comes 42 = .ok (.iconst 0, 1) := by decide +kernel
theorem dX9_comes_43 : decode cX9_comes 43 = .ok (.iload_n 1, 1) := by decide +kernel
theorem dX9_comes_44 : decode cX9_comes 44 = .ok (.iastore, 1) := by decide +kernel
theorem dX9_comes_45 : decode cX9_comes 45 = .ok (.aload_n 0, 1) := by decide +kernel
theorem dX9_comes_46 : decode cX9_comes 46 = .ok (.iconst 1, 1) := by decide +kernel
theorem dX9_comes_47 : decode cX9_comes 47 = .ok (.putfield 93, 3) := by decide +kernel
theorem dX9_comes_50 : decode cX9_comes 50 = .ok (.aload_n 0, 1) := by decide +kernel
theorem dX9_comes_51 : decode cX9_comes 51 = .ok (.iconst 0, 1) := by decide +kernel
theorem dX9_comes_52 : decode cX9_comes 52 = .ok (.putfield 96, 3) := by decide +kernel
theorem dX9_comes_55 : decode cX9_comes 55 = .ok (.return_, 1) := by decide +kernel
theorem dX9_comes_56 : decode cX9_comes 56 = .ok (.aload_n 0, 1) := by decide +kernel
theorem dX9_comes_57 : decode cX9_comes 57 = .ok (.getfield 90, 3) := by decide +kernel
theorem dX9_comes_60 : decode cX9_comes 60 = .ok (.ifCond .ne 4, 3) := by decide +kernel
theorem dX9_comes_63 : decode cX9_comes 63 = .ok (.return_, 1) := by decide +kernel
theorem dX9_comes_64 : decode cX9_comes 64 = .ok (.aload_n 0, 1) := by decide +kernel
theorem dX9_comes_65 : decode cX9_comes 65 = .ok (.getfield 90, 3) := by decide +kernel
theorem dX9_comes_68 : decode cX9_comes 68 = .ok (.iconst 1, 1) := by decide +kernel
theorem dX9_comes_69 : decode cX9_comes 69 = .ok (.if_icmp .ne 109, 3) := by decide +kernel
theorem dX9_comes_72 : decode cX9_comes 72 = .ok (.iload_n 1, 1) := by decide +kernel
theorem dX9_comes_73 : decode cX9_comes 73 = .ok (.bipush 42, 2) := by decide +kernel
theorem dX9_comes_75 : decode cX9_comes 75 = .ok (.if_icmp .ne 19, 3) := by decide +kernel
theorem dX9_comes_78 : decode cX9_comes 78 = .ok (.aload_n 0, 1) := by decide +kernel
theorem dX9_comes_79 : decode cX9_comes 79 = .ok (.getfield 93, 3) := by decide +kernel
theorem dX9_comes_82 : decode cX9_comes 82 = .ok (.iconst 1, 1) := by decide +kernel
theorem dX9_comes_83 : decode cX9_comes 83 = .ok (.if_icmp .le 7, 3) := by decide +kernel
theorem dX9_comes_86 : decode cX9_comes 86 = .ok (.iconst 1, 1) := by decide +kernel
theorem dX9_comes_87 : decode cX9_comes 87 = .ok (.goto 35, 3) := by decide +kernel
theorem dX9_comes_90 : decode cX9_comes 90 = .ok (.iconst 0, 1) := by decide +kernel
theorem dX9_comes_91 : decode cX9_comes 91 = .ok (.goto 31, 3) := by decide +kernel
theorem dX9_comes_94 : decode cX9_comes 94 = .ok (.iload_n 1, 1) := by decide +kernel
theorem dX9_comes_95 : decode cX9_comes 95 = .ok (.i2l, 1) := by decide +kernel
theorem dX9_comes_96 : decode cX9_comes 96 = .ok (.ldc2_w 99, 3) := by decide +kernel
theorem dX9_comes_99 : decode cX9_comes 99 = .ok (.ldc2_w 101, 3) := by decide +kernel
theorem dX9_comes_102 : decode cX9_comes 102 = .ok (.invokestatic 74, 3) := by decide +kernel
theorem dX9_comes_105 : decode cX9_comes 105 = .ok (.ifCond .eq 16, 3) := by decide +kernel
theorem dX9_comes_108 : decode cX9_comes 108 = .ok (.aload_n 0, 1) := by decide +kernel
theorem dX9_comes_109 : decode cX9_comes 109 = .ok (.getfield 93, 3) := by decide +kernel
theorem dX9_comes_112 : decode cX9_comes 112 = .ok (.bipush 78, 2) := by decide +kernel
theorem dX9_comes_114 : decode cX9_comes 114 = .ok (.if_icmp .gt 7, 3) := by decide +kernel
theorem dX9_comes_117 : decode cX9_comes 117 = .ok (.iconst 1, 1) := by decide +kernel
theorem dX9_comes_118 : decode cX9_comes 118 = .ok (.goto 4, 3) := by decide +kernel
theorem dX9_comes_121 : decode cX9_comes 121 = .ok (.iconst 0, 1) := by decide +kernel
theorem dX9_comes_122 : decode cX9_comes 122 = .ok (.istore_n 2, 1) := by decide +kernel
theorem dX9_comes_123 : decode cX9_comes 123 = .ok (.iload_n 2, 1) := by decide +kernel
theorem dX9_comes_124 : decode cX9_comes 124 = .ok (.ifCond .eq 17, 3) := by decide +kernel
theorem dX9_comes_127 : decode cX9_comes 127 = .ok (.iload_n 1, 1) := by decide +kernel
theorem dX9_comes_128 : decode cX9_comes 128 = .ok (.bipush 42, 2) := by decide +kernel
theorem dX9_comes_130 : decode cX9_comes 130 = .ok (.if_icmp .ne 11, 3) := by decide +kernel
theorem dX9_comes_133 : decode cX9_comes 133 = .ok (.aload_n 0, 1) := by decide +kernel
theorem dX9_comes_134 : decode cX9_comes 134 = .ok (.iconst 2, 1) := by decide +kernel
theorem dX9_comes_135 : decode cX9_comes 135 = .ok (.putfield 90, 3) := by decide +kernel
theorem dX9_comes_138 : decode cX9_comes 138 = .ok (.goto 140, 3) := by decide +kernel
theorem dX9_comes_141 : decode cX9_comes 141 = .ok (.iload_n 2, 1) := by decide +kernel
theorem dX9_comes_142 : decode cX9_comes 142 = .ok (.ifCond .eq 136, 3) := by decide +kernel
theorem dX9_comes_145 : decode cX9_comes 145 = .ok (.aload_n 0, 1) := by decide +kernel
theorem dX9_comes_146 : decode cX9_comes 146 = .ok (.getfield 20, 3) := by decide +kernel
theorem dX9_comes_149 : decode cX9_comes 149 = .ok (.aload_n 0, 1) := by decide +kernel
theorem dX9_comes_150 : decode cX9_comes 150 = .ok (.getfield 93, 3) := by decide +kernel
theorem dX9_comes_153 : decode cX9_comes 153 = .ok (.iload_n 1, 1) := by decide +kernel
theorem dX9_comes_154 : decode cX9_comes 154 = .ok (.iastore, 1) := by decide +kernel
theorem dX9_comes_155 : decode cX9_comes 155 = .ok (.aload_n 0, 1) := by decide +kernel
theorem dX9_comes_156 : decode cX9_comes 156 = .ok (.dup, 1) := by decide +kernel
theorem dX9_comes_157 : decode cX9_comes 157 = .ok (.getfield 93, 3) := by decide +kernel
theorem dX9_comes_160 : decode cX9_comes 160 = .ok (.iconst 1, 1) := by decide +kernel
theorem dX9_comes_161 : decode cX9_comes 161 = .ok (.iadd, 1) := by decide +kernel
theorem dX9_comes_162 : decode cX9_comes 162 = .ok (.putfield 93, 3) := by decide +kernel
theorem dX9_comes_165 : decode cX9_comes 165 = .ok (.aload_n 0, 1) := by decide +kernel
theorem dX9_comes_166 : decode cX9_comes 166 = .ok (.dup, 1) := by decide +kernel
theorem dX9_comes_167 : decode cX9_comes 167 = .ok (.getfield 96, 3) := by decide +kernel
theorem dX9_comes_170 : decode cX9_comes 170 = .ok (.iload_n 1, 1) := by decide +kernel
theorem dX9_comes_171 : decode cX9_comes 171 = .ok (.ixor, 1) := by decide +kernel
theorem dX9_comes_172 : decode cX9_comes 172 = .ok (.putfield 96, 3) := by decide +kernel
theorem dX9_comes_175 : decode cX9_comes 175 = .ok (.goto 103, 3) := by decide +kernel
theorem dX9_comes_178 : decode cX9_comes 178 = .ok (.aload_n 0, 1) := by decide +kernel
theorem dX9_comes_179 : decode cX9_comes 179 = .ok (.getfield 90, 3) := by decide +kernel
theorem dX9_comes_182 : decode cX9_comes 182 = .ok (.iconst 4, 1) := by decide +kernel
theorem dX9_comes_183 : decode cX9_comes 183 = .ok (.if_icmp .ge 60, 3) := by decide +kernel
theorem dX9_comes_186 : decode cX9_comes 186 = .ok (.iload_n 1, 1) := by decide +kernel
theorem dX9_comes_187 : decode cX9_comes 187 = .ok (.invokestatic 103, 3) := by decide +kernel
theorem dX9_comes_190 : decode cX9_comes 190 = .ok (.ifCond .lt 7, 3) := by decide +kernel
theorem dX9_comes_193 : decode cX9_comes 193 = .ok (.iconst 1, 1) := by decide +kernel
theorem dX9_comes_194 : decode cX9_comes 194 = .ok (.goto 4, 3) := by decide +kernel
theorem dX9_comes_197 : decode cX9_comes 197 = .ok (.iconst 0, 1) := by decide +kernel
theorem dX9_comes_198 : decode cX9_comes 198 = .ok (.istore_n 2, 1) := by decide +kernel
theorem dX9_comes_199 : decode cX9_comes 199 = .ok (.aload_n 0, 1) := by decide +kernel
theorem dX9_comes_200 : decode cX9_comes 200 = .ok (.aload_n 0, 1) := by decide +kernel
theorem dX9_comes_201 : decode cX9_comes 201 = .ok (.getfield 90, 3) := by decide +kernel
theorem dX9_comes_204 : decode cX9_comes 204 = .ok (.iconst 2, 1) := by decide +kernel
theorem dX9_comes_205 : decode cX9_comes 205 = .ok (.if_icmp .ne 10, 3) := by decide +kernel
theorem dX9_comes_208 : decode cX9_comes 208 = .ok (.iload_n 1, 1) := by decide +kernel
theorem dX9_comes_209 : decode cX9_comes 209 = .ok (.invokestatic 103, 3) := by decide +kernel
theorem dX9_comes_212 : decode cX9_comes 212 = .ok (.goto 15, 3) := by decide +kernel
theorem dX9_comes_215 : decode cX9_comes 215 = .ok (.bipush 16, 2) := by decide +kernel
theorem dX9_comes_217 : decode cX9_comes 217 = .ok (.aload_n 0, 1) := by decide +kernel
theorem dX9_comes_218 : decode cX9_comes 218 = .ok (.getfield 107, 3) := by decide +kernel
theorem dX9_comes_221 : decode cX9_comes 221 = .ok (.imul, 1) := by decide +kernel
theorem dX9_comes_222 : decode cX9_comes 222 = .ok (.iload_n 1, 1) := by decide +kernel
theorem dX9_comes_223 : decode cX9_comes 223 = .ok (.invokestatic 103, 3) := by decide +kernel
theorem dX9_comes_226 : decode cX9_comes 226 = .ok (.iadd, 1) := by decide +kernel
theorem dX9_comes_227 : decode cX9_comes 227 = .ok (.putfield 107, 3) := by decide +kernel
theorem dX9_comes_230 : decode cX9_comes 230 = .ok (.aload_n 0, 1) := by decide +kernel
theorem dX9_comes_231 : decode cX9_comes 231 = .ok (.dup, 1) := by decide +kernel
theorem dX9_comes_232 : decode cX9_comes 232 = .ok (.getfield 90, 3) := by decide +kernel
theorem dX9_comes_235 : decode cX9_comes 235 = .ok (.iconst 1, 1) := by decide +kernel
theorem dX9_comes_236 : decode cX9_comes 236 = .ok (.iadd, 1) := by decide +kernel
theorem dX9_comes_237 : decode cX9_comes 237 = .ok (.putfield 90, 3) := by decide +kernel
theorem dX9_comes_240 : decode cX9_comes 240 = .ok (.goto 38, 3) := by decide +kernel
theorem dX9_comes_243 : decode cX9_comes 243 = .ok (.iload_n 1, 1) := by decide +kernel
theorem dX9_comes_244 : decode cX9_comes 244 = .ok (.aload_n 0, 1) := by decide +kernel
theorem dX9_comes_245 : decode cX9_comes 245 = .ok (.getfield 90, 3) := by decide +kernel
theorem dX9_comes_248 : decode cX9_comes 248 = .ok (.iconst 4, 1) := by decide +kernel
theorem dX9_comes_249 : decode cX9_comes 249 = .ok (.if_icmp .ne 8, 3) := by decide +kernel
theorem dX9_comes_252 : decode cX9_comes 252 = .ok (.bipush 13, 2) := by decide +kernel
theorem dX9_comes_254 : decode cX9_comes 254 = .ok (.goto 5, 3) := by decide +kernel
theorem dX9_comes_257 : decode cX9_comes 257 = .ok (.bipush 10, 2) := by decide +kernel
theorem dX9_comes_259 : decode cX9_comes 259 = .ok (.if_icmp .ne 7, 3) := by decide +kernel
theorem dX9_comes_262 : decode cX9_comes 262 = .ok (.iconst 1, 1) := by decide +kernel
theorem dX9_comes_263 : decode cX9_comes 263 = .ok (.goto 4, 3) := by decide +kernel
theorem dX9_comes_266 : decode cX9_comes 266 = .ok (.iconst 0, 1) := by decide +kernel
theorem dX9_comes_267 : decode cX9_comes 267 = .ok (.istore_n 2, 1) := by decide +kernel
theorem dX9_comes_268 : decode cX9_comes 268 = .ok (.aload_n 0, 1) := by decide +kernel
theorem dX9_comes_269 : decode cX9_comes 269 = .ok (.dup, 1) := by decide +kernel
theorem dX9_comes_270 : decode cX9_comes 270 = .ok (.getfield 90, 3) := by decide +kernel
theorem dX9_comes_273 : decode cX9_comes 273 = .ok (.iconst 1, 1) := by decide +kernel
theorem dX9_comes_274 : decode cX9_comes 274 = .ok (.iadd, 1) := by decide +kernel
theorem dX9_comes_275 : decode cX9_comes 275 = .ok (.putfield 90, 3) := by decide +kernel
theorem dX9_comes_278 : decode cX9_comes 278 = .ok (.iload_n 2, 1) := by decide +kernel
theorem dX9_comes_279 : decode cX9_comes 279 = .ok (.ifCond .ne 21, 3) := by decide +kernel
theorem dX9_comes_282 : decode cX9_comes 282 = .ok (.aload_n 0, 1) := by decide +kernel
theorem dX9_comes_283 : decode cX9_comes 283 = .ok (.getfield 23, 3) := by decide +kernel
theorem dX9_comes_286 : decode cX9_comes 286 = .ok (.iconst 1, 1) := by decide +kernel
theorem dX9_comes_287 : decode cX9_comes 287 = .ok (.dup2, 1) := by decide +kernel
theorem dX9_comes_288 : decode cX9_comes 288 = .ok (.iaload, 1) := by decide +kernel
theorem dX9_comes_289 : decode cX9_comes 289 = .ok (.iconst 1, 1) := by decide +kernel
theorem dX9_comes_290 : decode cX9_comes 290 = .ok (.iadd, 1) := by decide +kernel
theorem dX9_comes_291 : decode cX9_comes 291 = .ok (.iastore, 1) := by decide +kernel
theorem dX9_comes_292 : decode cX9_comes 292 = .ok (.aload_n 0, 1) := by decide +kernel
theorem dX9_comes_293 : decode cX9_comes 293 = .ok (.iconst 0, 1) := by decide +kernel
theorem dX9_comes_294 : decode cX9_comes 294 = .ok (.putfield 90, 3) := by decide +kernel
theorem dX9_comes_297 : decode cX9_comes 297 = .ok (.goto 21, 3) := by decide +kernel
theorem dX9_comes_300 : decode cX9_comes 300 = .ok (.aload_n 0, 1) := by decide +kernel
theorem dX9_comes_301 : decode cX9_comes 301 = .ok (.getfield 90, 3) := by decide +kernel
theorem dX9_comes_304 : decode cX9_comes 304 = .ok (.bipush 6, 2) := by decide +kernel
theorem dX9_comes_306 : decode cX9_comes 306 = .ok (.if_icmp .ne 12, 3) := by decide +kernel
theorem dX9_comes_309 : decode cX9_comes 309 = .ok (.aload_n 0, 1) := by decide +kernel
theorem dX9_comes_310 : decode cX9_comes 310 = .ok (.iconst 0, 1) := by decide +kernel
theorem dX9_comes_311 : decode cX9_comes 311 = .ok (.putfield 90, 3) := by decide +kernel
theorem dX9_comes_314 : decode cX9_comes 314 = .ok (.aload_n 0, 1) := by decide +kernel
theorem dX9_comes_315 : decode cX9_comes 315 = .ok (.invokevirtual 110, 3) := by decide +kernel
theorem dX9_comes_318 : decode cX9_comes 318 = .ok (.return_, 1) := by decide +kernel
theorem dX9_ended_0 : decode cX9_ended 0 = .ok (.aload_n 0, 1) := by decide +kernel
theorem dX9_ended_1 : decode cX9_ended 1 = .ok (.getfield 107, 3) := by decide +kernel
theorem dX9_ended_4 : decode cX9_ended 4 = .ok (.aload_n 0, 1) := by decide +kernel
theorem dX9_ended_5 : decode cX9_ended 5 = .ok (.getfield 96, 3) := by decide +kernel
theorem dX9_ended_8 : decode cX9_ended 8 = .ok (.if_icmp .eq 14, 3) := by decide +kernel
theorem dX9_ended_11 : decode cX9_ended 11 = .ok (.aload_n 0, 1) := by decide +kernel
theorem dX9_ended_12 : decode cX9_ended 12 = .ok (.getfield 23, 3) := by decide +kernel
theorem dX9_ended_15 : decode cX9_ended 15 = .ok (.iconst 2, 1) := by decide +kernel
theorem dX9_ended_16 : decode cX9_ended 16 = .ok (.dup2, 1) := by decide +kernel
theorem dX9_ended_17 : decode cX9_ended 17 = .ok (.iaload, 1) := by decide +kernel
theorem dX9_ended_18 : decode cX9_ended 18 = .ok (.iconst 1, 1) := by decide +kernel
theorem dX9_ended_19 : decode cX9_ended 19 = .ok (.iadd, 1) := by decide +kernel
theorem dX9_ended_20 : decode cX9_ended 20 = .ok (.iastore, 1) := by decide +kernel
theorem dX9_ended_21 : decode cX9_ended 21 = .ok (.return_, 1) := by decide +kernel
theorem dX9_ended_22 : decode cX9_ended 22 = .ok (.aload_n 0, 1) := by decide +kernel
theorem dX9_ended_23 : decode cX9_ended 23 = .ok (.iconst 0, 1) := by decide +kernel
theorem dX9_ended_24 : decode cX9_ended 24 = .ok (.putfield 113, 3) := by decide +kernel
theorem dX9_ended_27 : decode cX9_ended 27 = .ok (.aload_n 0, 1) := by decide +kernel
theorem dX9_ended_28 : decode cX9_ended 28 = .ok (.getfield 26, 3) := by decide +kernel
theorem dX9_ended_31 : decode cX9_ended 31 = .ok (.iconst 0, 1) := by decide +kernel
theorem dX9_ended_32 : decode cX9_ended 32 = .ok (.iconst 1, 1) := by decide +kernel
theorem dX9_ended_33 : decode cX9_ended 33 = .ok (.iastore, 1) := by decide +kernel
theorem dX9_ended_34 : decode cX9_ended 34 = .ok (.iconst 1, 1) := by decide +kernel
theorem dX9_ended_35 : decode cX9_ended 35 = .ok (.istore_n 1, 1) := by decide +kernel
theorem dX9_ended_36 : decode cX9_ended 36 = .ok (.iload_n 1, 1) := by decide +kernel
theorem dX9_ended_37 : decode cX9_ended 37 = .ok (.aload_n 0, 1) := by decide +kernel
theorem dX9_ended_38 : decode cX9_ended 38 = .ok (.getfield 93, 3) := by decide +kernel
theorem dX9_ended_41 : decode cX9_ended 41 = .ok (.if_icmp .gt 60, 3) := by decide +kernel
theorem dX9_ended_44 : decode cX9_ended 44 = .ok (.iload_n 1, 1) := by decide +kernel
theorem dX9_ended_45 : decode cX9_ended 45 = .ok (.aload_n 0, 1) := by decide +kernel
theorem dX9_ended_46 : decode cX9_ended 46 = .ok (.getfield 93, 3) := by decide +kernel
theorem dX9_ended_49 : decode cX9_ended 49 = .ok (.if_icmp .eq 14, 3) := by decide +kernel
theorem dX9_ended_52 : decode cX9_ended 52 = .ok (.aload_n 0, 1) := by decide +kernel
theorem dX9_ended_53 : decode cX9_ended 53 = .ok (.getfield 20, 3) := by decide +kernel
theorem dX9_ended_56 : decode cX9_ended 56 = .ok (.iload_n 1, 1) := by decide +kernel
theorem dX9_ended_57 : decode cX9_ended 57 = .ok (.iaload, 1) := by decide +kernel
theorem dX9_ended_58 : decode cX9_ended 58 = .ok (.bipush 44, 2) := by decide +kernel
theorem dX9_ended_60 : decode cX9_ended 60 = .ok (.if_icmp .ne 35, 3) := by decide +kernel
theorem dX9_ended_63 : decode cX9_ended 63 = .ok (.aload_n 0, 1) := by decide +kernel
theorem dX9_ended_64 : decode cX9_ended 64 = .ok (.getfield 29, 3) := by decide +kernel
theorem dX9_ended_67 : decode cX9_ended 67 = .ok (.aload_n 0, 1) := by decide +kernel
theorem dX9_ended_68 : decode cX9_ended 68 = .ok (.getfield 113, 3) := by decide +kernel
theorem dX9_ended_71 : decode cX9_ended 71 = .ok (.iload_n 1, 1) := by decide +kernel
theorem dX9_ended_72 : decode cX9_ended 72 = .ok (.iastore, 1) := by decide +kernel
theorem dX9_ended_73 : decode cX9_ended 73 = .ok (.aload_n 0, 1) := by decide +kernel
theorem dX9_ended_74 : decode cX9_ended 74 = .ok (.dup, 1) := by decide +kernel
theorem dX9_ended_75 : decode cX9_ended 75 = .ok (.getfield 113, 3) := by decide +kernel
theorem dX9_ended_78 : decode cX9_ended 78 = .ok (.iconst 1, 1) := by decide +kernel
theorem dX9_ended_79 : decode cX9_ended 79 = .ok (.iadd, 1) := by decide +kernel
theorem dX9_ended_80 : decode cX9_ended 80 = .ok (.putfield 113, 3) := by decide +kernel
theorem dX9_ended_83 : decode cX9_ended 83 = .ok (.aload_n 0, 1) := by decide +kernel
theorem dX9_ended_84 : decode cX9_ended 84 = .ok (.getfield 26, 3) := by decide +kernel
theorem dX9_ended_87 : decode cX9_ended 87 = .ok (.aload_n 0, 1) := by decide +kernel
theorem dX9_ended_88 : decode cX9_ended 88 = .ok (.getfield 113, 3) := by decide +kernel
theorem dX9_ended_91 : decode cX9_ended 91 = .ok (.iload_n 1, 1) := by decide +kernel
theorem dX9_ended_92 : decode cX9_ended 92 = .ok (.iconst 1, 1) := by decide +kernel
theorem dX9_ended_93 : decode cX9_ended 93 = .ok (.iadd, 1) := by decide +kernel
theorem dX9_ended_94 : decode cX9_ended 94 = .ok (.iastore, 1) := by decide +kernel
theorem dX9_ended_95 : decode cX9_ended 95 = .ok (.iinc 1 1, 3) := by decide +kernel
theorem dX9_ended_98 : decode cX9_ended 98 = .ok (.goto (-62), 3) := by decide +kernel
theorem dX9_ended_101 : decode cX9_ended 101 = .ok (.aload_n 0, 1) := by decide +kernel
theorem dX9_ended_102 : decode cX9_ended 102 = .ok (.invokevirtual 116, 3) := by decide +kernel
theorem dX9_ended_105 : decode cX9_ended 105 = .ok (.istore_n 1, 1) := by decide +kernel
theorem dX9_ended_106 : decode cX9_ended 106 = .ok (.iload_n 1, 1) := by decide +kernel
theorem dX9_ended_107 : decode cX9_ended 107 = .ok (.ifCond .ge 16, 3) := by decide +kernel
theorem dX9_ended_110 : decode cX9_ended 110 = .ok (.aload_n 0, 1) := by decide +kernel
theorem dX9_ended_111 : decode cX9_ended 111 = .ok (.getfield 23, 3) := by decide +kernel
theorem dX9_ended_114 : decode cX9_ended 114 = .ok (.iconst 3, 1) := by decide +kernel
theorem dX9_ended_115 : decode cX9_ended 115 = .ok (.dup2, 1) := by decide +kernel
theorem dX9_ended_116 : decode cX9_ended 116 = .ok (.iaload, 1) := by decide +kernel
theorem dX9_ended_117 : decode cX9_ended 117 = .ok (.iconst 1, 1) := by decide +kernel
theorem dX9_ended_118 : decode cX9_ended 118 = .ok (.iadd, 1) := by decide +kernel
theorem dX9_ended_119 : decode cX9_ended 119 = .ok (.iastore, 1) := by decide +kernel
theorem dX9_ended_120 : decode cX9_ended 120 = .ok (.goto 39, 3) := by decide +kernel
theorem dX9_ended_123 : decode cX9_ended 123 = .ok (.aload_n 0, 1) := by decide +kernel
theorem dX9_ended_124 : decode cX9_ended 124 = .ok (.iload_n 1, 1) := by decide +kernel
theorem dX9_ended_125 : decode cX9_ended 125 = .ok (.invokevirtual 120, 3) := by decide +kernel
theorem dX9_ended_128 : decode cX9_ended 128 = .ok (.ifCond .ne 16, 3) := by decide +kernel
theorem dX9_ended_131 : decode cX9_ended 131 = .ok (.aload_n 0, 1) := by decide +kernel
theorem dX9_ended_132 : decode cX9_ended 132 = .ok (.getfield 23, 3) := by decide +kernel
theorem dX9_ended_135 : decode cX9_ended 135 = .ok (.iconst 4, 1) := by decide +kernel
theorem dX9_ended_136 : decode cX9_ended 136 = .ok (.dup2, 1) := by decide +kernel
theorem dX9_ended_137 : decode cX9_ended 137 = .ok (.iaload, 1) := by decide +kernel
theorem dX9_ended_138 : decode cX9_ended 138 = .ok (.iconst 1, 1) := by decide +kernel
theorem dX9_ended_139 : decode cX9_ended 139 = .ok (.iadd, 1) := by decide +kernel
theorem dX9_ended_140 : decode cX9_ended 140 = .ok (.iastore, 1) := by decide +kernel
theorem dX9_ended_141 : decode cX9_ended 141 = .ok (.goto 18, 3) := by decide +kernel
theorem dX9_ended_144 : decode cX9_ended 144 = .ok (.aload_n 0, 1) := by decide +kernel
theorem dX9_ended_145 : decode cX9_ended 145 = .ok (.getfield 23, 3) := by decide +kernel
theorem dX9_ended_148 : decode cX9_ended 148 = .ok (.iconst 0, 1) := by decide +kernel
theorem dX9_ended_149 : decode cX9_ended 149 = .ok (.dup2, 1) := by decide +kernel
theorem dX9_ended_150 : decode cX9_ended 150 = .ok (.iaload, 1) := by decide +kernel
theorem dX9_ended_151 : decode cX9_ended 151 = .ok (.iconst 1, 1) := by decide +kernel
theorem dX9_ended_152 : decode cX9_ended 152 = .ok (.iadd, 1) := by decide +kernel
theorem dX9_ended_153 : decode cX9_ended 153 = .ok (.iastore, 1) := by decide +kernel
theorem dX9_ended_154 : decode cX9_ended 154 = .ok (.aload_n 0, 1) := by decide +kernel
theorem dX9_ended_155 : decode cX9_ended 155 = .ok (.iload_n 1, 1) := by decide +kernel
theorem dX9_ended_156 : decode cX9_ended 156 = .ok (.invokevirtual 124, 3) := by decide +kernel
theorem dX9_ended_159 : decode cX9_ended 159 = .ok (.return_, 1) := by decide +kernel
theorem dX9_ends_0 : decode cX9_ends 0 = .ok (.aload_n 0, 1) := by decide +kernel
theorem dX9_ends_1 : decode cX9_ends 1 = .ok (.getfield 20, 3) := by decide +kernel
theorem dX9_ends_4 : decode cX9_ends 4 = .ok (.iconst 3, 1) := by decide +kernel
theorem dX9_ends_5 : decode cX9_ends 5 = .ok (.iaload, 1) := by decide +kernel
theorem dX9_ends_6 : decode cX9_ends 6 = .ok (.aload_n 1, 1) := by decide +kernel
theorem dX9_ends_7 : decode cX9_ends 7 = .ok (.iconst 0, 1) := by decide +kernel
theorem dX9_ends_8 : decode cX9_ends 8 = .ok (.invokevirtual 127, 3) := by decide +kernel
theorem dX9_ends_11 : decode cX9_ends 11 = .ok (.if_icmp .ne 35, 3) := by decide +kernel
theorem dX9_ends_14 : decode cX9_ends 14 = .ok (.aload_n 0, 1) := by decide +kernel
theorem dX9_ends_15 : decode cX9_ends 15 = .ok (.getfield 20, 3) := by decide +kernel
theorem dX9_ends_18 : decode cX9_ends 18 = .ok (.iconst 4, 1) := by decide +kernel
theorem dX9_ends_19 : decode cX9_ends 19 = .ok (.iaload, 1) := by decide +kernel
theorem dX9_ends_20 : decode cX9_ends 20 = .ok (.aload_n 1, 1) := by decide +kernel
theorem dX9_ends_21 : decode cX9_ends 21 = .ok (.iconst 1, 1) := by decide +kernel
theorem dX9_ends_22 : decode cX9_ends 22 = .ok (.invokevirtual 127, 3) := by decide +kernel
theorem dX9_ends_25 : decode cX9_ends 25 = .ok (.if_icmp .ne 21, 3) := by decide +kernel
theorem dX9_ends_28 : decode cX9_ends 28 = .ok (.aload_n 0, 1) := by decide +kernel
theorem dX9_ends_29 : decode cX9_ends 29 = .ok (.getfield 20, 3) := by decide +kernel
theorem dX9_ends_32 : decode cX9_ends 32 = .ok (.iconst 5, 1) := by decide +kernel
theorem dX9_ends_33 : decode cX9_ends 33 = .ok (.iaload, 1) := by decide +kernel
theorem dX9_ends_34 : decode cX9_ends 34 = .ok (.aload_n 1, 1) := by decide +kernel
theorem dX9_ends_35 : decode cX9_ends 35 = .ok (.iconst 2, 1) := by decide +kernel
theorem dX9_ends_36 : decode cX9_ends 36 = .ok (.invokevirtual 127, 3) := by decide +kernel
theorem dX9_ends_39 : decode cX9_ends 39 = .ok (.if_icmp .ne 7, 3) := by decide +kernel
theorem dX9_ends_42 : decode cX9_ends 42 = .ok (.iconst 1, 1) := by decide +kernel
theorem dX9_ends_43 : decode cX9_ends 43 = .ok (.goto 4, 3) := by decide +kernel
theorem dX9_ends_46 : decode cX9_ends 46 = .ok (.iconst 0, 1) := by decide +kernel
theorem dX9_ends_47 : decode cX9_ends 47 = .ok (.ireturn, 1) := by decide +kernel
theorem dX9_form_0 : decode cX9_form 0 = .ok (.aload_n 0, 1) := by decide +kernel
theorem dX9_form_1 : decode cX9_form 1 = .ok (.getfield 29, 3) := by decide +kernel
theorem dX9_form_4 : decode cX9_form 4 = .ok (.iconst 0, 1) := by decide +kernel
theorem dX9_form_5 : decode cX9_form 5 = .ok (.iaload, 1) := by decide +kernel
theorem dX9_form_6 : decode cX9_form 6 = .ok (.bipush 6, 2) := by decide +kernel
theorem dX9_form_8 : decode cX9_form 8 = .ok (.if_icmp .eq 5, 3) := by decide +kernel
theorem dX9_form_11 : decode cX9_form 11 = .ok (.iconst (-1), 1) := by decide +kernel
theorem dX9_form_12 : decode cX9_form 12 = .ok (.ireturn, 1) := by decide +kernel
theorem dX9_form_13 : decode cX9_form 13 = .ok (.iconst 1, 1) := by decide +kernel
theorem dX9_form_14 : decode cX9_form 14 = .ok (.istore_n 1, 1) := by decide +kernel
theorem dX9_form_15 : decode cX9_form 15 = .ok (.iload_n 1, 1) := by decide +kernel
theorem dX9_form_16 : decode cX9_form 16 = .ok (.bipush 6, 2) := by decide +kernel
theorem dX9_form_18 : decode cX9_form 18 = .ok (.if_icmp .ge 49, 3) := by decide +kernel
theorem dX9_form_21 : decode cX9_form 21 = .ok (.aload_n 0, 1) := by decide +kernel
theorem dX9_form_22 : decode cX9_form 22 = .ok (.getfield 20, 3) := by decide +kernel
theorem dX9_form_25 : decode cX9_form 25 = .ok (.iload_n 1, 1) := by decide +kernel
theorem dX9_form_26 : decode cX9_form 26 = .ok (.iaload, 1) := by decide +kernel
theorem dX9_form_27 : decode cX9_form 27 = .ok (.i2l, 1) := by decide +kernel
theorem dX9_form_28 : decode cX9_form 28 = .ok (.ldc2_w 82, 3) := by decide +kernel
theorem dX9_form_31 : decode cX9_form 31 = .ok (.ldc2_w 133, 3) := by decide +kernel
theorem dX9_form_34 : decode cX9_form 34 = .ok (.invokestatic 74, 3) := by decide +kernel
theorem dX9_form_37 : decode cX9_form 37 = .ok (.ifCond .ne 24, 3) := by decide +kernel
theorem dX9_form_40 : decode cX9_form 40 = .ok (.aload_n 0, 1) := by decide +kernel
theorem dX9_form_41 : decode cX9_form 41 = .ok (.getfield 20, 3) := by decide +kernel
theorem dX9_form_44 : decode cX9_form 44 = .ok (.iload_n 1, 1) := by decide +kernel
theorem dX9_form_45 : decode cX9_form 45 = .ok (.iaload, 1) := by decide +kernel
theorem dX9_form_46 : decode cX9_form 46 = .ok (.i2l, 1) := by decide +kernel
theorem dX9_form_47 : decode cX9_form 47 = .ok (.ldc2_w 78, 3) := by decide +kernel
theorem dX9_form_50 : decode cX9_form 50 = .ok (.ldc2_w 80, 3) := by decide +kernel
theorem dX9_form_53 : decode cX9_form 53 = .ok (.invokestatic 74, 3) := by decide +kernel
theorem dX9_form_56 : decode cX9_form 56 = .ok (.ifCond .ne 5, 3) := by decide +kernel
theorem dX9_form_59 : decode cX9_form 59 = .ok (.iconst (-1), 1) := by decide +kernel
theorem dX9_form_60 : decode cX9_form 60 = .ok (.ireturn, 1) := by decide +kernel
theorem dX9_form_61 : decode cX9_form 61 = .ok (.iinc 1 1, 3) := by decide +kernel
theorem dX9_form_64 : decode cX9_form 64 = .ok (.goto (-49), 3) := by decide +kernel
theorem dX9_form_67 : decode cX9_form 67 = .ok (.aload_n 0, 1) := by decide +kernel
theorem dX9_form_68 : decode cX9_form 68 = .ok (.getfield 20, 3) := by decide +kernel
theorem dX9_form_71 : decode cX9_form 71 = .ok (.iconst 0, 1) := by decide +kernel
theorem dX9_form_72 : decode cX9_form 72 = .ok (.iaload, 1) := by decide +kernel
theorem dX9_form_73 : decode cX9_form 73 = .ok (.bipush 33, 2) := by decide +kernel
theorem dX9_form_75 : decode cX9_form 75 = .ok (.if_icmp .ne 27, 3) := by decide +kernel
theorem dX9_form_78 : decode cX9_form 78 = .ok (.aload_n 0, 1) := by decide +kernel
theorem dX9_form_79 : decode cX9_form 79 = .ok (.ldc 135, 2) := by decide +kernel
theorem dX9_form_81 : decode cX9_form 81 = .ok (.invokevirtual 137, 3) := by decide +kernel
theorem dX9_form_84 : decode cX9_form 84 = .ok (.ifCond .ne 12, 3) := by decide +kernel
theorem dX9_form_87 : decode cX9_form 87 = .ok (.aload_n 0, 1) := by decide +kernel
theorem dX9_form_88 : decode cX9_form 88 = .ok (.ldc 141, 2) := by decide +kernel
theorem dX9_form_90 : decode cX9_form 90 = .ok (.invokevirtual 137, 3) := by decide +kernel
theorem dX9_form_93 : decode cX9_form 93 = .ok (.ifCond .eq 7, 3) := by decide +kernel
theorem dX9_form_96 : decode cX9_form 96 = .ok (.iconst 3, 1) := by decide +kernel
theorem dX9_form_97 : decode cX9_form 97 = .ok (.goto 4, 3) := by decide +kernel
theorem dX9_form_100 : decode cX9_form 100 = .ok (.iconst (-1), 1) := by decide +kernel
theorem dX9_form_101 : decode cX9_form 101 = .ok (.ireturn, 1) := by decide +kernel
theorem dX9_form_102 : decode cX9_form 102 = .ok (.aload_n 0, 1) := by decide +kernel
theorem dX9_form_103 : decode cX9_form 103 = .ok (.ldc 143, 2) := by decide +kernel
theorem dX9_form_105 : decode cX9_form 105 = .ok (.invokevirtual 137, 3) := by decide +kernel
theorem dX9_form_108 : decode cX9_form 108 = .ok (.ifCond .eq 7, 3) := by decide +kernel
theorem dX9_form_111 : decode cX9_form 111 = .ok (.iconst 0, 1) := by decide +kernel
theorem dX9_form_112 : decode cX9_form 112 = .ok (.goto 30, 3) := by decide +kernel
theorem dX9_form_115 : decode cX9_form 115 = .ok (.aload_n 0, 1) := by decide +kernel
theorem dX9_form_116 : decode cX9_form 116 = .ok (.ldc 145, 2) := by decide +kernel
theorem dX9_form_118 : decode cX9_form 118 = .ok (.invokevirtual 137, 3) := by decide +kernel
theorem dX9_form_121 : decode cX9_form 121 = .ok (.ifCond .eq 7, 3) := by decide +kernel
theorem dX9_form_124 : decode cX9_form 124 = .ok (.iconst 1, 1) := by decide +kernel
theorem dX9_form_125 : decode cX9_form 125 = .ok (.goto 17, 3) := by decide +kernel
theorem dX9_form_128 : decode cX9_form 128 = .ok (.aload_n 0, 1) := by decide +kernel
theorem dX9_form_129 : decode cX9_form 129 = .ok (.ldc 147, 2) := by decide +kernel
theorem dX9_form_131 : decode cX9_form 131 = .ok (.invokevirtual 137, 3) := by decide +kernel
theorem dX9_form_134 : decode cX9_form 134 = .ok (.ifCond .eq 7, 3) := by decide +kernel
theorem dX9_form_137 : decode cX9_form 137 = .ok (.iconst 2, 1) := by decide +kernel
theorem dX9_form_138 : decode cX9_form 138 = .ok (.goto 4, 3) := by decide +kernel
theorem dX9_form_141 : decode cX9_form 141 = .ok (.iconst (-1), 1) := by decide +kernel
theorem dX9_form_142 : decode cX9_form 142 = .ok (.ireturn, 1) := by decide +kernel
theorem dX9_size_0 : decode cX9_size 0 = .ok (.aload_n 0, 1) := by decide +kernel
theorem dX9_size_1 : decode cX9_size 1 = .ok (.getfield 29, 3) := by decide +kernel
theorem dX9_size_4 : decode cX9_size 4 = .ok (.iload_n 1, 1) := by decide +kernel
theorem dX9_size_5 : decode cX9_size 5 = .ok (.iaload, 1) := by decide +kernel
theorem dX9_size_6 : decode cX9_size 6 = .ok (.aload_n 0, 1) := by decide +kernel
theorem dX9_size_7 : decode cX9_size 7 = .ok (.getfield 26, 3) := by decide +kernel
theorem dX9_size_10 : decode cX9_size 10 = .ok (.iload_n 1, 1) := by decide +kernel
theorem dX9_size_11 : decode cX9_size 11 = .ok (.iaload, 1) := by decide +kernel
theorem dX9_size_12 : decode cX9_size 12 = .ok (.isub, 1) := by decide +kernel
theorem dX9_size_13 : decode cX9_size 13 = .ok (.ireturn, 1) := by decide +kernel
theorem dX9_at_0 : decode cX9_at 0 = .ok (.aload_n 0, 1) := by decide +kernel
theorem dX9_at_1 : decode cX9_at 1 = .ok (.getfield 20, 3) := by decide +kernel
theorem dX9_at_4 : decode cX9_at 4 = .ok (.aload_n 0, 1) := by decide +kernel
theorem dX9_at_5 : decode cX9_at 5 = .ok (.getfield 26, 3) := by decide +kernel
theorem dX9_at_8 : decode cX9_at 8 = .ok (.iload_n 1, 1) := by decide +kernel
theorem dX9_at_9 : decode cX9_at 9 = .ok (.iaload, 1) := by decide +kernel
theorem dX9_at_10 : decode cX9_at 10 = .ok (.iload_n 2, 1) := by decide +kernel
theorem dX9_at_11 : decode cX9_at 11 = .ok (.iadd, 1) := by decide +kernel
theorem dX9_at_12 : decode cX9_at 12 = .ok (.iaload, 1) := by decide +kernel
theorem dX9_at_13 : decode cX9_at 13 = .ok (.ireturn, 1) := by decide +kernel
theorem dX9_isDigit_0 : decode cX9_isDigit 0 = .ok (.iload_n 0, 1) := by decide +kernel
theorem dX9_isDigit_1 : decode cX9_isDigit 1 = .ok (.i2l, 1) := by decide +kernel
theorem dX9_isDigit_2 : decode cX9_isDigit 2 = .ok (.ldc2_w 78, 3) := by decide +kernel
theorem dX9_isDigit_5 : decode cX9_isDigit 5 = .ok (.ldc2_w 80, 3) := by decide +kernel
theorem dX9_isDigit_8 : decode cX9_isDigit 8 = .ok (.invokestatic 74, 3) := by decide +kernel
theorem dX9_isDigit_11 : decode cX9_isDigit 11 = .ok (.ireturn, 1) := by decide +kernel
theorem dX9_bad_0 : decode cX9_bad 0 = .ok (.aload_n 0, 1) := by decide +kernel
theorem dX9_bad_1 : decode cX9_bad 1 = .ok (.iconst 0, 1) := by decide +kernel
theorem dX9_bad_2 : decode cX9_bad 2 = .ok (.putfield 149, 3) := by decide +kernel
theorem dX9_bad_5 : decode cX9_bad 5 = .ok (.ldc 73, 2) := by decide +kernel
theorem dX9_bad_7 : decode cX9_bad 7 = .ok (.ireturn, 1) := by decide +kernel
theorem dX9_digits_0 : decode cX9_digits 0 = .ok (.iconst 0, 1) := by decide +kernel
theorem dX9_digits_1 : decode cX9_digits 1 = .ok (.istore_n 3, 1) := by decide +kernel
theorem dX9_digits_2 : decode cX9_digits 2 = .ok (.iload_n 2, 1) := by decide +kernel
theorem dX9_digits_3 : decode cX9_digits 3 = .ok (.iload_n 3, 1) := by decide +kernel
theorem dX9_digits_4 : decode cX9_digits 4 = .ok (.iadd, 1) := by decide +kernel
theorem dX9_digits_5 : decode cX9_digits 5 = .ok (.aload_n 0, 1) := by decide +kernel
theorem dX9_digits_6 : decode cX9_digits 6 = .ok (.iload_n 1, 1) := by decide +kernel
theorem dX9_digits_7 : decode cX9_digits 7 = .ok (.invokevirtual 153, 3) := by decide +kernel
theorem dX9_digits_10 : decode cX9_digits 10 = .ok (.if_icmp .ge 23, 3) := by decide +kernel
theorem dX9_digits_13 : decode cX9_digits 13 = .ok (.aload_n 0, 1) := by decide +kernel
theorem dX9_digits_14 : decode cX9_digits 14 = .ok (.iload_n 1, 1) := by decide +kernel
theorem dX9_digits_15 : decode cX9_digits 15 = .ok (.iload_n 2, 1) := by decide +kernel
theorem dX9_digits_16 : decode cX9_digits 16 = .ok (.iload_n 3, 1) := by decide +kernel
theorem dX9_digits_17 : decode cX9_digits 17 = .ok (.iadd, 1) := by decide +kernel
theorem dX9_digits_18 : decode cX9_digits 18 = .ok (.invokevirtual 156, 3) := by decide +kernel
theorem dX9_digits_21 : decode cX9_digits 21 = .ok (.invokestatic 160, 3) := by decide +kernel
theorem dX9_digits_24 : decode cX9_digits 24 = .ok (.ifCond .eq 9, 3) := by decide +kernel
theorem dX9_digits_27 : decode cX9_digits 27 = .ok (.iinc 3 1, 3) := by decide +kernel
theorem dX9_digits_30 : decode cX9_digits 30 = .ok (.goto (-28), 3) := by decide +kernel
theorem dX9_digits_33 : decode cX9_digits 33 = .ok (.iload_n 3, 1) := by decide +kernel
theorem dX9_digits_34 : decode cX9_digits 34 = .ok (.ireturn, 1) := by decide +kernel
theorem dX9_whole_0 : decode cX9_whole 0 = .ok (.iconst 0, 1) := by decide +kernel
theorem dX9_whole_1 : decode cX9_whole 1 = .ok (.istore 4, 2) := by decide +kernel
theorem dX9_whole_3 : decode cX9_whole 3 = .ok (.iload_n 2, 1) := by decide +kernel
theorem dX9_whole_4 : decode cX9_whole 4 = .ok (.istore 5, 2) := by decide +kernel
theorem dX9_whole_6 : decode cX9_whole 6 = .ok (.iload 5, 2) := by decide +kernel
theorem dX9_whole_8 : decode cX9_whole 8 = .ok (.iload_n 2, 1) := by decide +kernel
theorem dX9_whole_9 : decode cX9_whole 9 = .ok (.iload_n 3, 1) := by decide +kernel
theorem dX9_whole_10 : decode cX9_whole 10 = .ok (.iadd, 1) := by decide +kernel
theorem dX9_whole_11 : decode cX9_whole 11 = .ok (.if_icmp .ge 27, 3) := by decide +kernel
theorem dX9_whole_14 : decode cX9_whole 14 = .ok (.bipush 10, 2) := by decide +kernel
theorem dX9_whole_16 : decode cX9_whole 16 = .ok (.iload 4, 2) := by decide +kernel
theorem dX9_whole_18 : decode cX9_whole 18 = .ok (.imul, 1) := by decide +kernel
theorem dX9_whole_19 : decode cX9_whole 19 = .ok (.aload_n 0, 1) := by decide +kernel
theorem dX9_whole_20 : decode cX9_whole 20 = .ok (.iload_n 1, 1) := by decide +kernel
theorem dX9_whole_21 : decode cX9_whole 21 = .ok (.iload 5, 2) := by decide +kernel
theorem dX9_whole_23 : decode cX9_whole 23 = .ok (.invokevirtual 156, 3) := by decide +kernel
theorem dX9_whole_26 : decode cX9_whole 26 = .ok (.iadd, 1) := by decide +kernel
theorem dX9_whole_27 : decode cX9_whole 27 = .ok (.bipush 48, 2) := by decide +kernel
theorem dX9_whole_29 : decode cX9_whole 29 = .ok (.isub, 1) := by decide +kernel
theorem dX9_whole_30 : decode cX9_whole 30 = .ok (.istore 4, 2) := by decide +kernel
theorem dX9_whole_32 : decode cX9_whole 32 = .ok (.iinc 5 1, 3) := by decide +kernel
theorem dX9_whole_35 : decode cX9_whole 35 = .ok (.goto (-29), 3) := by decide +kernel
theorem dX9_whole_38 : decode cX9_whole 38 = .ok (.iload 4, 2) := by decide +kernel
theorem dX9_whole_40 : decode cX9_whole 40 = .ok (.ireturn, 1) := by decide +kernel
theorem dX9_behind_0 : decode cX9_behind 0 = .ok (.aload_n 0, 1) := by decide +kernel
theorem dX9_behind_1 : decode cX9_behind 1 = .ok (.iload_n 1, 1) := by decide +kernel
theorem dX9_behind_2 : decode cX9_behind 2 = .ok (.invokevirtual 153, 3) := by decide +kernel
theorem dX9_behind_5 : decode cX9_behind 5 = .ok (.iload_n 2, 1) := by decide +kernel
theorem dX9_behind_6 : decode cX9_behind 6 = .ok (.isub, 1) := by decide +kernel
theorem dX9_behind_7 : decode cX9_behind 7 = .ok (.iconst 1, 1) := by decide +kernel
theorem dX9_behind_8 : decode cX9_behind 8 = .ok (.isub, 1) := by decide +kernel
theorem dX9_behind_9 : decode cX9_behind 9 = .ok (.istore 5, 2) := by decide +kernel
theorem dX9_behind_11 : decode cX9_behind 11 = .ok (.iload 5, 2) := by decide +kernel
theorem dX9_behind_13 : decode cX9_behind 13 = .ok (.ifCond .lt 44, 3) := by decide +kernel
theorem dX9_behind_16 : decode cX9_behind 16 = .ok (.aload_n 0, 1) := by decide +kernel
theorem dX9_behind_17 : decode cX9_behind 17 = .ok (.iload_n 1, 1) := by decide +kernel
theorem dX9_behind_18 : decode cX9_behind 18 = .ok (.iload_n 2, 1) := by decide +kernel
theorem dX9_behind_19 : decode cX9_behind 19 = .ok (.invokevirtual 156, 3) := by decide +kernel
theorem dX9_behind_22 : decode cX9_behind 22 = .ok (.bipush 46, 2) := by decide +kernel
theorem dX9_behind_24 : decode cX9_behind 24 = .ok (.if_icmp .ne 28, 3) := by decide +kernel
theorem dX9_behind_27 : decode cX9_behind 27 = .ok (.iload 5, 2) := by decide +kernel
theorem dX9_behind_29 : decode cX9_behind 29 = .ok (.i2l, 1) := by decide +kernel
theorem dX9_behind_30 : decode cX9_behind 30 = .ok (.lconst 1, 1) := by decide +kernel
theorem dX9_behind_31 : decode cX9_behind 31 = .ok (.iload_n 3, 1) := by decide +kernel
theorem dX9_behind_32 : decode cX9_behind 32 = .ok (.i2l, 1) := by decide +kernel
theorem dX9_behind_33 : decode cX9_behind 33 = .ok (.invokestatic 74, 3) := by decide +kernel
theorem dX9_behind_36 : decode cX9_behind 36 = .ok (.ifCond .eq 16, 3) := by decide +kernel
theorem dX9_behind_39 : decode cX9_behind 39 = .ok (.aload_n 0, 1) := by decide +kernel
theorem dX9_behind_40 : decode cX9_behind 40 = .ok (.iload_n 1, 1) := by decide +kernel
theorem dX9_behind_41 : decode cX9_behind 41 = .ok (.iload_n 2, 1) := by decide +kernel
theorem dX9_behind_42 : decode cX9_behind 42 = .ok (.iconst 1, 1) := by decide +kernel
theorem dX9_behind_43 : decode cX9_behind 43 = .ok (.iadd, 1) := by decide +kernel
theorem dX9_behind_44 : decode cX9_behind 44 = .ok (.invokevirtual 163, 3) := by decide +kernel
theorem dX9_behind_47 : decode cX9_behind 47 = .ok (.iload 5, 2) := by decide +kernel
theorem dX9_behind_49 : decode cX9_behind 49 = .ok (.if_icmp .eq 8, 3) := by decide +kernel
theorem dX9_behind_52 : decode cX9_behind 52 = .ok (.aload_n 0, 1) := by decide +kernel
theorem dX9_behind_53 : decode cX9_behind 53 = .ok (.invokevirtual 166, 3) := by decide +kernel
theorem dX9_behind_56 : decode cX9_behind 56 = .ok (.ireturn, 1) := by decide +kernel
theorem dX9_behind_57 : decode cX9_behind 57 = .ok (.iconst 0, 1) := by decide +kernel
theorem dX9_behind_58 : decode cX9_behind 58 = .ok (.istore 6, 2) := by decide +kernel
theorem dX9_behind_60 : decode cX9_behind 60 = .ok (.iconst 0, 1) := by decide +kernel
theorem dX9_behind_61 : decode cX9_behind 61 = .ok (.istore 7, 2) := by decide +kernel
theorem dX9_behind_63 : decode cX9_behind 63 = .ok (.iload 7, 2) := by decide +kernel
theorem dX9_behind_65 : decode cX9_behind 65 = .ok (.iload 4, 2) := by decide +kernel
theorem dX9_behind_67 : decode cX9_behind 67 = .ok (.if_icmp .ge 42, 3) := by decide +kernel
theorem dX9_behind_70 : decode cX9_behind 70 = .ok (.bipush 10, 2) := by decide +kernel
theorem dX9_behind_72 : decode cX9_behind 72 = .ok (.iload 6, 2) := by decide +kernel
theorem dX9_behind_74 : decode cX9_behind 74 = .ok (.imul, 1) := by decide +kernel
theorem dX9_behind_75 : decode cX9_behind 75 = .ok (.iload 7, 2) := by decide +kernel
theorem dX9_behind_77 : decode cX9_behind 77 = .ok (.iload 5, 2) := by decide +kernel
theorem dX9_behind_79 : decode cX9_behind 79 = .ok (.if_icmp .ge 20, 3) := by decide +kernel
theorem dX9_behind_82 : decode cX9_behind 82 = .ok (.aload_n 0, 1) := by decide +kernel
theorem dX9_behind_83 : decode cX9_behind 83 = .ok (.iload_n 1, 1) := by decide +kernel
theorem dX9_behind_84 : decode cX9_behind 84 = .ok (.iload_n 2, 1) := by decide +kernel
theorem dX9_behind_85 : decode cX9_behind 85 = .ok (.iconst 1, 1) := by decide +kernel
theorem dX9_behind_86 : decode cX9_behind 86 = .ok (.iadd, 1) := by decide +kernel
theorem dX9_behind_87 : decode cX9_behind 87 = .ok (.iload 7, 2) := by decide +kernel
theorem dX9_behind_89 : decode cX9_behind 89 = .ok (.iadd, 1) := by decide +kernel
theorem dX9_behind_90 : decode cX9_behind 90 = .ok (.invokevirtual 156, 3) := by decide +kernel
theorem dX9_behind_93 : decode cX9_behind 93 = .ok (.bipush 48, 2) := by decide +kernel
theorem dX9_behind_95 : decode cX9_behind 95 = .ok (.isub, 1) := by decide +kernel
theorem dX9_behind_96 : decode cX9_behind 96 = .ok (.goto 4, 3) := by decide +kernel
theorem dX9_behind_99 : decode cX9_behind 99 = .ok (.iconst 0, 1) := by decide +kernel
theorem dX9_behind_100 : decode cX9_behind 100 = .ok (.iadd, 1) := by decide +kernel
theorem dX9_behind_101 : decode cX9_behind 101 = .ok (.istore 6, 2) := by decide +kernel
theorem dX9_behind_103 : decode cX9_behind 103 = .ok (.iinc 7 1, 3) := by decide +kernel
theorem dX9_behind_106 : decode cX9_behind 106 = .ok (.goto (-43), 3) := by decide +kernel
theorem dX9_behind_109 : decode cX9_behind 109 = .ok (.iload 6, 2) := by decide +kernel
theorem dX9_behind_111 : decode cX9_behind 111 = .ok (.ireturn, 1) := by decide +kernel
theorem dX9_ten_0 : decode cX9_ten 0 = .ok (.iconst 1, 1) := by decide +kernel
theorem dX9_ten_1 : decode cX9_ten 1 = .ok (.istore_n 1, 1) := by decide +kernel
theorem dX9_ten_2 : decode cX9_ten 2 = .ok (.iconst 0, 1) := by decide +kernel
theorem dX9_ten_3 : decode cX9_ten 3 = .ok (.istore_n 2, 1) := by decide +kernel
theorem dX9_ten_4 : decode cX9_ten 4 = .ok (.iload_n 2, 1) := by decide +kernel
theorem dX9_ten_5 : decode cX9_ten 5 = .ok (.iload_n 0, 1) := by decide +kernel
theorem dX9_ten_6 : decode cX9_ten 6 = .ok (.if_icmp .ge 14, 3) := by decide +kernel
theorem dX9_ten_9 : decode cX9_ten 9 = .ok (.iload_n 1, 1) := by decide +kernel
theorem dX9_ten_10 : decode cX9_ten 10 = .ok (.bipush 10, 2) := by decide +kernel
theorem dX9_ten_12 : decode cX9_ten 12 = .ok (.imul, 1) := by decide +kernel
theorem dX9_ten_13 : decode cX9_ten 13 = .ok (.istore_n 1, 1) := by decide +kernel
theorem dX9_ten_14 : decode cX9_ten 14 = .ok (.iinc 2 1, 3) := by decide +kernel
theorem dX9_ten_17 : decode cX9_ten 17 = .ok (.goto (-13), 3) := by decide +kernel
theorem dX9_ten_20 : decode cX9_ten 20 = .ok (.iload_n 1, 1) := by decide +kernel
theorem dX9_ten_21 : decode cX9_ten 21 = .ok (.ireturn, 1) := by decide +kernel
theorem dX9_decimal_0 : decode cX9_decimal 0 = .ok (.aload_n 0, 1) := by decide +kernel
theorem dX9_decimal_1 : decode cX9_decimal 1 = .ok (.iload_n 1, 1) := by decide +kernel
theorem dX9_decimal_2 : decode cX9_decimal 2 = .ok (.invokevirtual 153, 3) := by decide +kernel
theorem dX9_decimal_5 : decode cX9_decimal 5 = .ok (.ifCond .ne 6, 3) := by decide +kernel
theorem dX9_decimal_8 : decode cX9_decimal 8 = .ok (.ldc 73, 2) := by decide +kernel
theorem dX9_decimal_10 : decode cX9_decimal 10 = .ok (.ireturn, 1) := by decide +kernel
theorem dX9_decimal_11 : decode cX9_decimal 11 = .ok (.iload 4, 2) := by decide +kernel
theorem dX9_decimal_13 : decode cX9_decimal 13 = .ok (.ifCond .eq 18, 3) := by decide +kernel
theorem dX9_decimal_16 : decode cX9_decimal 16 = .ok (.aload_n 0, 1) := by decide +kernel
theorem dX9_decimal_17 : decode cX9_decimal 17 = .ok (.iload_n 1, 1) := by decide +kernel
theorem dX9_decimal_18 : decode cX9_decimal 18 = .ok (.iconst 0, 1) := by decide +kernel
theorem dX9_decimal_19 : decode cX9_decimal 19 = .ok (.invokevirtual 156, 3) := by decide +kernel
theorem dX9_decimal_22 : decode cX9_decimal 22 = .ok (.bipush 45, 2) := by decide +kernel
theorem dX9_decimal_24 : decode cX9_decimal 24 = .ok (.if_icmp .ne 7, 3) := by decide +kernel
theorem dX9_decimal_27 : decode cX9_decimal 27 = .ok (.iconst 1, 1) := by decide +kernel
theorem dX9_decimal_28 : decode cX9_decimal 28 = .ok (.goto 4, 3) := by decide +kernel
theorem dX9_decimal_31 : decode cX9_decimal 31 = .ok (.iconst 0, 1) := by decide +kernel
theorem dX9_decimal_32 : decode cX9_decimal 32 = .ok (.istore 5, 2) := by decide +kernel
theorem dX9_decimal_34 : decode cX9_decimal 34 = .ok (.aload_n 0, 1) := by decide +kernel
theorem dX9_decimal_35 : decode cX9_decimal 35 = .ok (.iload_n 1, 1) := by decide +kernel
theorem dX9_decimal_36 : decode cX9_decimal 36 = .ok (.iload 5, 2) := by decide +kernel
theorem dX9_decimal_38 : decode cX9_decimal 38 = .ok (.invokevirtual 163, 3) := by decide +kernel
theorem dX9_decimal_41 : decode cX9_decimal 41 = .ok (.istore 6, 2) := by decide +kernel
theorem dX9_decimal_43 : decode cX9_decimal 43 = .ok (.iload 6, 2) := by decide +kernel
theorem dX9_decimal_45 : decode cX9_decimal 45 = .ok (.i2l, 1) := by decide +kernel
theorem dX9_decimal_46 : decode cX9_decimal 46 = .ok (.lconst 1, 1) := by decide +kernel
theorem dX9_decimal_47 : decode cX9_decimal 47 = .ok (.iload_n 3, 1) := by decide +kernel
theorem dX9_decimal_48 : decode cX9_decimal 48 = .ok (.i2l, 1) := by decide +kernel
theorem dX9_decimal_49 : decode cX9_decimal 49 = .ok (.invokestatic 74, 3) := by decide +kernel
theorem dX9_decimal_52 : decode cX9_decimal 52 = .ok (.ifCond .ne 8, 3) := by decide +kernel
theorem dX9_decimal_55 : decode cX9_decimal 55 = .ok (.aload_n 0, 1) := by decide +kernel
theorem dX9_decimal_56 : decode cX9_decimal 56 = .ok (.invokevirtual 166, 3) := by decide +kernel
theorem dX9_decimal_59 : decode cX9_decimal 59 = .ok (.ireturn, 1) := by decide +kernel
theorem dX9_decimal_60 : decode cX9_decimal 60 = .ok (.aload_n 0, 1) := by decide +kernel
theorem dX9_decimal_61 : decode cX9_decimal 61 = .ok (.iload_n 1, 1) := by decide +kernel
theorem dX9_decimal_62 : decode cX9_decimal 62 = .ok (.iload 5, 2) := by decide +kernel
theorem dX9_decimal_64 : decode cX9_decimal 64 = .ok (.iload 6, 2) := by decide +kernel
theorem dX9_decimal_66 : decode cX9_decimal 66 = .ok (.iadd, 1) := by decide +kernel
theorem dX9_decimal_67 : decode cX9_decimal 67 = .ok (.bipush 6, 2) := by decide +kernel
theorem dX9_decimal_69 : decode cX9_decimal 69 = .ok (.iload_n 2, 1) := by decide +kernel
theorem dX9_decimal_70 : decode cX9_decimal 70 = .ok (.invokevirtual 169, 3) := by decide +kernel
theorem dX9_decimal_73 : decode cX9_decimal 73 = .ok (.istore 7, 2) := by decide +kernel
theorem dX9_decimal_75 : decode cX9_decimal 75 = .ok (.aload_n 0, 1) := by decide +kernel
theorem dX9_decimal_76 : decode cX9_decimal 76 = .ok (.iload_n 1, 1) := by decide +kernel
theorem dX9_decimal_77 : decode cX9_decimal 77 = .ok (.iload 5, 2) := by decide +kernel
theorem dX9_decimal_79 : decode cX9_decimal 79 = .ok (.iload 6, 2) := by decide +kernel
theorem dX9_decimal_81 : decode cX9_decimal 81 = .ok (.invokevirtual 173, 3) := by decide +kernel
theorem dX9_decimal_84 : decode cX9_decimal 84 = .ok (.iload_n 2, 1) := by decide +kernel
theorem dX9_decimal_85 : decode cX9_decimal 85 = .ok (.invokestatic 177, 3) := by decide +kernel
theorem dX9_decimal_88 : decode cX9_decimal 88 = .ok (.imul, 1) := by decide +kernel
theorem dX9_decimal_89 : decode cX9_decimal 89 = .ok (.iload 7, 2) := by decide +kernel
theorem dX9_decimal_91 : decode cX9_decimal 91 = .ok (.iadd, 1) := by decide +kernel
theorem dX9_decimal_92 : decode cX9_decimal 92 = .ok (.istore 8, 2) := by decide +kernel
theorem dX9_decimal_94 : decode cX9_decimal 94 = .ok (.iload 7, 2) := by decide +kernel
theorem dX9_decimal_96 : decode cX9_decimal 96 = .ok (.ldc 73, 2) := by decide +kernel
theorem dX9_decimal_98 : decode cX9_decimal 98 = .ok (.if_icmp .ne 8, 3) := by decide +kernel
theorem dX9_decimal_101 : decode cX9_decimal 101 = .ok (.ldc 73, 2) := by decide +kernel
theorem dX9_decimal_103 : decode cX9_decimal 103 = .ok (.goto 17, 3) := by decide +kernel
theorem dX9_decimal_106 : decode cX9_decimal 106 = .ok (.iload 5, 2) := by decide +kernel
theorem dX9_decimal_108 : decode cX9_decimal 108 = .ok (.iconst 1, 1) := by decide +kernel
theorem dX9_decimal_109 : decode cX9_decimal 109 = .ok (.if_icmp .ne 9, 3) := by decide +kernel
theorem dX9_decimal_112 : decode cX9_decimal 112 = .ok (.iload 8, 2) := by decide +kernel
theorem dX9_decimal_114 : decode cX9_decimal 114 = .ok (.ineg, 1) := by decide +kernel
theorem dX9_decimal_115 : decode cX9_decimal 115 = .ok (.goto 5, 3) := by decide +kernel
theorem dX9_decimal_118 : decode cX9_decimal 118 = .ok (.iload 8, 2) := by decide +kernel
theorem dX9_decimal_120 : decode cX9_decimal 120 = .ok (.ireturn, 1) := by decide +kernel
theorem dX9_below_0 : decode cX9_below 0 = .ok (.iload_n 1, 1) := by decide +kernel
theorem dX9_below_1 : decode cX9_below 1 = .ok (.ldc 73, 2) := by decide +kernel
theorem dX9_below_3 : decode cX9_below 3 = .ok (.if_icmp .eq 15, 3) := by decide +kernel
theorem dX9_below_6 : decode cX9_below 6 = .ok (.iload_n 1, 1) := by decide +kernel
theorem dX9_below_7 : decode cX9_below 7 = .ok (.iload_n 2, 1) := by decide +kernel
theorem dX9_below_8 : decode cX9_below 8 = .ok (.if_icmp .le 10, 3) := by decide +kernel
theorem dX9_below_11 : decode cX9_below 11 = .ok (.aload_n 0, 1) := by decide +kernel
theorem dX9_below_12 : decode cX9_below 12 = .ok (.invokevirtual 166, 3) := by decide +kernel
theorem dX9_below_15 : decode cX9_below 15 = .ok (.goto 4, 3) := by decide +kernel
theorem dX9_below_18 : decode cX9_below 18 = .ok (.iload_n 1, 1) := by decide +kernel
theorem dX9_below_19 : decode cX9_below 19 = .ok (.ireturn, 1) := by decide +kernel
theorem dX9_number_0 : decode cX9_number 0 = .ok (.aload_n 0, 1) := by decide +kernel
theorem dX9_number_1 : decode cX9_number 1 = .ok (.iload_n 1, 1) := by decide +kernel
theorem dX9_number_2 : decode cX9_number 2 = .ok (.invokevirtual 153, 3) := by decide +kernel
theorem dX9_number_5 : decode cX9_number 5 = .ok (.ifCond .ne 8, 3) := by decide +kernel
theorem dX9_number_8 : decode cX9_number 8 = .ok (.ldc 73, 2) := by decide +kernel
theorem dX9_number_10 : decode cX9_number 10 = .ok (.goto 36, 3) := by decide +kernel
theorem dX9_number_13 : decode cX9_number 13 = .ok (.aload_n 0, 1) := by decide +kernel
theorem dX9_number_14 : decode cX9_number 14 = .ok (.iload_n 1, 1) := by decide +kernel
theorem dX9_number_15 : decode cX9_number 15 = .ok (.invokevirtual 153, 3) := by decide +kernel
theorem dX9_number_18 : decode cX9_number 18 = .ok (.iload_n 2, 1) := by decide +kernel
theorem dX9_number_19 : decode cX9_number 19 = .ok (.if_icmp .ne 13, 3) := by decide +kernel
theorem dX9_number_22 : decode cX9_number 22 = .ok (.aload_n 0, 1) := by decide +kernel
theorem dX9_number_23 : decode cX9_number 23 = .ok (.iload_n 1, 1) := by decide +kernel
theorem dX9_number_24 : decode cX9_number 24 = .ok (.iconst 0, 1) := by decide +kernel
theorem dX9_number_25 : decode cX9_number 25 = .ok (.invokevirtual 163, 3) := by decide +kernel
theorem dX9_number_28 : decode cX9_number 28 = .ok (.iload_n 2, 1) := by decide +kernel
theorem dX9_number_29 : decode cX9_number 29 = .ok (.if_icmp .eq 10, 3) := by decide +kernel
theorem dX9_number_32 : decode cX9_number 32 = .ok (.aload_n 0, 1) := by decide +kernel
theorem dX9_number_33 : decode cX9_number 33 = .ok (.invokevirtual 166, 3) := by decide +kernel
theorem dX9_number_36 : decode cX9_number 36 = .ok (.goto 10, 3) := by decide +kernel
theorem dX9_number_39 : decode cX9_number 39 = .ok (.aload_n 0, 1) := by decide +kernel
theorem dX9_number_40 : decode cX9_number 40 = .ok (.iload_n 1, 1) := by decide +kernel
theorem dX9_number_41 : decode cX9_number 41 = .ok (.iconst 0, 1) := by decide +kernel
theorem dX9_number_42 : decode cX9_number 42 = .ok (.iload_n 2, 1) := by decide +kernel
theorem dX9_number_43 : decode cX9_number 43 = .ok (.invokevirtual 173, 3) := by decide +kernel
theorem dX9_number_46 : decode cX9_number 46 = .ok (.ireturn, 1) := by decide +kernel
theorem dX9_time_0 : decode cX9_time 0 = .ok (.aload_n 0, 1) := by decide +kernel
theorem dX9_time_1 : decode cX9_time 1 = .ok (.iload_n 1, 1) := by decide +kernel
theorem dX9_time_2 : decode cX9_time 2 = .ok (.invokevirtual 153, 3) := by decide +kernel
theorem dX9_time_5 : decode cX9_time 5 = .ok (.ifCond .ne 6, 3) := by decide +kernel
theorem dX9_time_8 : decode cX9_time 8 = .ok (.ldc 73, 2) := by decide +kernel
theorem dX9_time_10 : decode cX9_time 10 = .ok (.ireturn, 1) := by decide +kernel
theorem dX9_time_11 : decode cX9_time 11 = .ok (.aload_n 0, 1) := by decide +kernel
theorem dX9_time_12 : decode cX9_time 12 = .ok (.iload_n 1, 1) := by decide +kernel
theorem dX9_time_13 : decode cX9_time 13 = .ok (.iconst 0, 1) := by decide +kernel
theorem dX9_time_14 : decode cX9_time 14 = .ok (.invokevirtual 163, 3) := by decide +kernel
theorem dX9_time_17 : decode cX9_time 17 = .ok (.bipush 6, 2) := by decide +kernel
theorem dX9_time_19 : decode cX9_time 19 = .ok (.if_icmp .eq 8, 3) := by decide +kernel
theorem dX9_time_22 : decode cX9_time 22 = .ok (.aload_n 0, 1) := by decide +kernel
theorem dX9_time_23 : decode cX9_time 23 = .ok (.invokevirtual 166, 3) := by decide +kernel
theorem dX9_time_26 : decode cX9_time 26 = .ok (.ireturn, 1) := by decide +kernel
theorem dX9_time_27 : decode cX9_time 27 = .ok (.aload_n 0, 1) := by decide +kernel
theorem dX9_time_28 : decode cX9_time 28 = .ok (.iload_n 1, 1) := by decide +kernel
theorem dX9_time_29 : decode cX9_time 29 = .ok (.iconst 0, 1) := by decide +kernel
theorem dX9_time_30 : decode cX9_time 30 = .ok (.iconst 2, 1) := by decide +kernel
theorem dX9_time_31 : decode cX9_time 31 = .ok (.invokevirtual 173, 3) := by decide +kernel
theorem dX9_time_34 : decode cX9_time 34 = .ok (.istore_n 2, 1) := by decide +kernel
theorem dX9_time_35 : decode cX9_time 35 = .ok (.aload_n 0, 1) := by decide +kernel
theorem dX9_time_36 : decode cX9_time 36 = .ok (.iload_n 1, 1) := by decide +kernel
theorem dX9_time_37 : decode cX9_time 37 = .ok (.iconst 2, 1) := by decide +kernel
theorem dX9_time_38 : decode cX9_time 38 = .ok (.iconst 2, 1) := by decide +kernel
theorem dX9_time_39 : decode cX9_time 39 = .ok (.invokevirtual 173, 3) := by decide +kernel
theorem dX9_time_42 : decode cX9_time 42 = .ok (.istore_n 3, 1) := by decide +kernel
theorem dX9_time_43 : decode cX9_time 43 = .ok (.aload_n 0, 1) := by decide +kernel
theorem dX9_time_44 : decode cX9_time 44 = .ok (.iload_n 1, 1) := by decide +kernel
theorem dX9_time_45 : decode cX9_time 45 = .ok (.iconst 4, 1) := by decide +kernel
theorem dX9_time_46 : decode cX9_time 46 = .ok (.iconst 2, 1) := by decide +kernel
theorem dX9_time_47 : decode cX9_time 47 = .ok (.invokevirtual 173, 3) := by decide +kernel
theorem dX9_time_50 : decode cX9_time 50 = .ok (.istore 4, 2) := by decide +kernel
theorem dX9_time_52 : decode cX9_time 52 = .ok (.aload_n 0, 1) := by decide +kernel
theorem dX9_time_53 : decode cX9_time 53 = .ok (.iload_n 1, 1) := by decide +kernel
theorem dX9_time_54 : decode cX9_time 54 = .ok (.bipush 6, 2) := by decide +kernel
theorem dX9_time_56 : decode cX9_time 56 = .ok (.iconst 3, 1) := by decide +kernel
theorem dX9_time_57 : decode cX9_time 57 = .ok (.iconst 3, 1) := by decide +kernel
theorem dX9_time_58 : decode cX9_time 58 = .ok (.invokevirtual 169, 3) := by decide +kernel
theorem dX9_time_61 : decode cX9_time 61 = .ok (.istore 5, 2) := by decide +kernel
theorem dX9_time_63 : decode cX9_time 63 = .ok (.iload 5, 2) := by decide +kernel
theorem dX9_time_65 : decode cX9_time 65 = .ok (.ldc 73, 2) := by decide +kernel
theorem dX9_time_67 : decode cX9_time 67 = .ok (.if_icmp .ne 8, 3) := by decide +kernel
theorem dX9_time_70 : decode cX9_time 70 = .ok (.ldc 73, 2) := by decide +kernel
theorem dX9_time_72 : decode cX9_time 72 = .ok (.goto 48, 3) := by decide +kernel
theorem dX9_time_75 : decode cX9_time 75 = .ok (.iload_n 2, 1) := by decide +kernel
theorem dX9_time_76 : decode cX9_time 76 = .ok (.bipush 23, 2) := by decide +kernel
theorem dX9_time_78 : decode cX9_time 78 = .ok (.if_icmp .gt 16, 3) := by decide +kernel
theorem dX9_time_81 : decode cX9_time 81 = .ok (.iload_n 3, 1) := by decide +kernel
theorem dX9_time_82 : decode cX9_time 82 = .ok (.bipush 59, 2) := by decide +kernel
theorem dX9_time_84 : decode cX9_time 84 = .ok (.if_icmp .gt 10, 3) := by decide +kernel
theorem dX9_time_87 : decode cX9_time 87 = .ok (.iload 4, 2) := by decide +kernel
theorem dX9_time_89 : decode cX9_time 89 = .ok (.bipush 59, 2) := by decide +kernel
theorem dX9_time_91 : decode cX9_time 91 = .ok (.if_icmp .le 10, 3) := by decide +kernel
theorem dX9_time_94 : decode cX9_time 94 = .ok (.aload_n 0, 1) := by decide +kernel
theorem dX9_time_95 : decode cX9_time 95 = .ok (.invokevirtual 166, 3) := by decide +kernel
theorem dX9_time_98 : decode cX9_time 98 = .ok (.goto 22, 3) := by decide +kernel
theorem dX9_time_101 : decode cX9_time 101 = .ok (.iload_n 2, 1) := by decide +kernel
theorem dX9_time_102 : decode cX9_time 102 = .ok (.bipush 60, 2) := by decide +kernel
theorem dX9_time_104 : decode cX9_time 104 = .ok (.imul, 1) := by decide +kernel
theorem dX9_time_105 : decode cX9_time 105 = .ok (.iload_n 3, 1) := by decide +kernel
theorem dX9_time_106 : decode cX9_time 106 = .ok (.iadd, 1) := by decide +kernel
theorem dX9_time_107 : decode cX9_time 107 = .ok (.bipush 60, 2) := by decide +kernel
theorem dX9_time_109 : decode cX9_time 109 = .ok (.imul, 1) := by decide +kernel
theorem dX9_time_110 : decode cX9_time 110 = .ok (.iload 4, 2) := by decide +kernel
theorem dX9_time_112 : decode cX9_time 112 = .ok (.iadd, 1) := by decide +kernel
theorem dX9_time_113 : decode cX9_time 113 = .ok (.sipush 1000, 3) := by decide +kernel
theorem dX9_time_116 : decode cX9_time 116 = .ok (.imul, 1) := by decide +kernel
theorem dX9_time_117 : decode cX9_time 117 = .ok (.iload 5, 2) := by decide +kernel
theorem dX9_time_119 : decode cX9_time 119 = .ok (.iadd, 1) := by decide +kernel
theorem dX9_time_120 : decode cX9_time 120 = .ok (.ireturn, 1) := by decide +kernel
theorem dX9_date_0 : decode cX9_date 0 = .ok (.aload_n 0, 1) := by decide +kernel
theorem dX9_date_1 : decode cX9_date 1 = .ok (.iload_n 1, 1) := by decide +kernel
theorem dX9_date_2 : decode cX9_date 2 = .ok (.bipush 6, 2) := by decide +kernel
theorem dX9_date_4 : decode cX9_date 4 = .ok (.invokevirtual 180, 3) := by decide +kernel
theorem dX9_date_7 : decode cX9_date 7 = .ok (.istore_n 2, 1) := by decide +kernel
theorem dX9_date_8 : decode cX9_date 8 = .ok (.iload_n 2, 1) := by decide +kernel
theorem dX9_date_9 : decode cX9_date 9 = .ok (.ldc 73, 2) := by decide +kernel
theorem dX9_date_11 : decode cX9_date 11 = .ok (.if_icmp .ne 6, 3) := by decide +kernel
theorem dX9_date_14 : decode cX9_date 14 = .ok (.ldc 73, 2) := by decide +kernel
theorem dX9_date_16 : decode cX9_date 16 = .ok (.ireturn, 1) := by decide +kernel
theorem dX9_date_17 : decode cX9_date 17 = .ok (.iload_n 2, 1) := by decide +kernel
theorem dX9_date_18 : decode cX9_date 18 = .ok (.sipush 10000, 3) := by decide +kernel
theorem dX9_date_21 : decode cX9_date 21 = .ok (.idiv, 1) := by decide +kernel
theorem dX9_date_22 : decode cX9_date 22 = .ok (.istore_n 3, 1) := by decide +kernel
theorem dX9_date_23 : decode cX9_date 23 = .ok (.iload_n 2, 1) := by decide +kernel
theorem dX9_date_24 : decode cX9_date 24 = .ok (.bipush 100, 2) := by decide +kernel
theorem dX9_date_26 : decode cX9_date 26 = .ok (.idiv, 1) := by decide +kernel
theorem dX9_date_27 : decode cX9_date 27 = .ok (.bipush 100, 2) := by decide +kernel
theorem dX9_date_29 : decode cX9_date 29 = .ok (.irem, 1) := by decide +kernel
theorem dX9_date_30 : decode cX9_date 30 = .ok (.istore 4, 2) := by decide +kernel
theorem dX9_date_32 : decode cX9_date 32 = .ok (.iload_n 3, 1) := by decide +kernel
theorem dX9_date_33 : decode cX9_date 33 = .ok (.i2l, 1) := by decide +kernel
theorem dX9_date_34 : decode cX9_date 34 = .ok (.lconst 1, 1) := by decide +kernel
theorem dX9_date_35 : decode cX9_date 35 = .ok (.ldc2_w 183, 3) := by decide +kernel
theorem dX9_date_38 : decode cX9_date 38 = .ok (.invokestatic 74, 3) := by decide +kernel
theorem dX9_date_41 : decode cX9_date 41 = .ok (.ifCond .eq 16, 3) := by decide +kernel
theorem dX9_date_44 : decode cX9_date 44 = .ok (.iload 4, 2) := by decide +kernel
theorem dX9_date_46 : decode cX9_date 46 = .ok (.i2l, 1) := by decide +kernel
theorem dX9_date_47 : decode cX9_date 47 = .ok (.lconst 1, 1) := by decide +kernel
theorem dX9_date_48 : decode cX9_date 48 = .ok (.ldc2_w 185, 3) := by decide +kernel
theorem dX9_date_51 : decode cX9_date 51 = .ok (.invokestatic 74, 3) := by decide +kernel
theorem dX9_date_54 : decode cX9_date 54 = .ok (.ifCond .ne 10, 3) := by decide +kernel
theorem dX9_date_57 : decode cX9_date 57 = .ok (.aload_n 0, 1) := by decide +kernel
theorem dX9_date_58 : decode cX9_date 58 = .ok (.invokevirtual 166, 3) := by decide +kernel
theorem dX9_date_61 : decode cX9_date 61 = .ok (.goto 19, 3) := by decide +kernel
theorem dX9_date_64 : decode cX9_date 64 = .ok (.iload_n 3, 1) := by decide +kernel
theorem dX9_date_65 : decode cX9_date 65 = .ok (.bipush 100, 2) := by decide +kernel
theorem dX9_date_67 : decode cX9_date 67 = .ok (.iload 4, 2) := by decide +kernel
theorem dX9_date_69 : decode cX9_date 69 = .ok (.imul, 1) := by decide +kernel
theorem dX9_date_70 : decode cX9_date 70 = .ok (.iadd, 1) := by decide +kernel
theorem dX9_date_71 : decode cX9_date 71 = .ok (.sipush 10000, 3) := by decide +kernel
theorem dX9_date_74 : decode cX9_date 74 = .ok (.iload_n 2, 1) := by decide +kernel
theorem dX9_date_75 : decode cX9_date 75 = .ok (.bipush 100, 2) := by decide +kernel
theorem dX9_date_77 : decode cX9_date 77 = .ok (.irem, 1) := by decide +kernel
theorem dX9_date_78 : decode cX9_date 78 = .ok (.imul, 1) := by decide +kernel
theorem dX9_date_79 : decode cX9_date 79 = .ok (.iadd, 1) := by decide +kernel
theorem dX9_date_80 : decode cX9_date 80 = .ok (.ireturn, 1) := by decide +kernel
theorem dX9_one_0 : decode cX9_one 0 = .ok (.aload_n 0, 1) := by decide +kernel
theorem dX9_one_1 : decode cX9_one 1 = .ok (.iload_n 1, 1) := by decide +kernel
theorem dX9_one_2 : decode cX9_one 2 = .ok (.invokevirtual 153, 3) := by decide +kernel
theorem dX9_one_5 : decode cX9_one 5 = .ok (.ifCond .ne 6, 3) := by decide +kernel
theorem dX9_one_8 : decode cX9_one 8 = .ok (.ldc 73, 2) := by decide +kernel
theorem dX9_one_10 : decode cX9_one 10 = .ok (.ireturn, 1) := by decide +kernel
theorem dX9_one_11 : decode cX9_one 11 = .ok (.iconst 0, 1) := by decide +kernel
theorem dX9_one_12 : decode cX9_one 12 = .ok (.istore_n 3, 1) := by decide +kernel
theorem dX9_one_13 : decode cX9_one 13 = .ok (.iconst 0, 1) := by decide +kernel
theorem dX9_one_14 : decode cX9_one 14 = .ok (.istore 4, 2) := by decide +kernel
theorem dX9_one_16 : decode cX9_one 16 = .ok (.iload 4, 2) := by decide +kernel
theorem dX9_one_18 : decode cX9_one 18 = .ok (.aload_n 2, 1) := by decide +kernel
theorem dX9_one_19 : decode cX9_one 19 = .ok (.invokevirtual 187, 3) := by decide +kernel
theorem dX9_one_22 : decode cX9_one 22 = .ok (.if_icmp .ge 43, 3) := by decide +kernel
theorem dX9_one_25 : decode cX9_one 25 = .ok (.iload_n 3, 1) := by decide +kernel
theorem dX9_one_26 : decode cX9_one 26 = .ok (.ifCond .ne 27, 3) := by decide +kernel
theorem dX9_one_29 : decode cX9_one 29 = .ok (.aload_n 0, 1) := by decide +kernel
theorem dX9_one_30 : decode cX9_one 30 = .ok (.iload_n 1, 1) := by decide +kernel
theorem dX9_one_31 : decode cX9_one 31 = .ok (.invokevirtual 153, 3) := by decide +kernel
theorem dX9_one_34 : decode cX9_one 34 = .ok (.iconst 1, 1) := by decide +kernel
theorem dX9_one_35 : decode cX9_one 35 = .ok (.if_icmp .ne 22, 3) := by decide +kernel
theorem dX9_one_38 : decode cX9_one 38 = .ok (.aload_n 0, 1) := by decide +kernel
theorem dX9_one_39 : decode cX9_one 39 = .ok (.iload_n 1, 1) := by decide +kernel
theorem dX9_one_40 : decode cX9_one 40 = .ok (.iconst 0, 1) := by decide +kernel
theorem dX9_one_41 : decode cX9_one 41 = .ok (.invokevirtual 156, 3) := by decide +kernel
theorem dX9_one_44 : decode cX9_one 44 = .ok (.aload_n 2, 1) := by decide +kernel
theorem dX9_one_45 : decode cX9_one 45 = .ok (.iload 4, 2) := by decide +kernel
theorem dX9_one_47 : decode cX9_one 47 = .ok (.invokevirtual 127, 3) := by decide +kernel
theorem dX9_one_50 : decode cX9_one 50 = .ok (.if_icmp .ne 7, 3) := by decide +kernel
theorem dX9_one_53 : decode cX9_one 53 = .ok (.iconst 1, 1) := by decide +kernel
theorem dX9_one_54 : decode cX9_one 54 = .ok (.goto 4, 3) := by decide +kernel
theorem dX9_one_57 : decode cX9_one 57 = .ok (.iconst 0, 1) := by decide +kernel
theorem dX9_one_58 : decode cX9_one 58 = .ok (.istore_n 3, 1) := by decide +kernel
theorem dX9_one_59 : decode cX9_one 59 = .ok (.iinc 4 1, 3) := by decide +kernel
theorem dX9_one_62 : decode cX9_one 62 = .ok (.goto (-46), 3) := by decide +kernel
theorem dX9_one_65 : decode cX9_one 65 = .ok (.iload_n 3, 1) := by decide +kernel
theorem dX9_one_66 : decode cX9_one 66 = .ok (.ifCond .eq 12, 3) := by decide +kernel
theorem dX9_one_69 : decode cX9_one 69 = .ok (.aload_n 0, 1) := by decide +kernel
theorem dX9_one_70 : decode cX9_one 70 = .ok (.iload_n 1, 1) := by decide +kernel
theorem dX9_one_71 : decode cX9_one 71 = .ok (.iconst 0, 1) := by decide +kernel
theorem dX9_one_72 : decode cX9_one 72 = .ok (.invokevirtual 156, 3) := by decide +kernel
theorem dX9_one_75 : decode cX9_one 75 = .ok (.goto 7, 3) := by decide +kernel
theorem dX9_one_78 : decode cX9_one 78 = .ok (.aload_n 0, 1) := by decide +kernel
theorem dX9_one_79 : decode cX9_one 79 = .ok (.invokevirtual 166, 3) := by decide +kernel
theorem dX9_one_82 : decode cX9_one 82 = .ok (.ireturn, 1) := by decide +kernel
theorem dX9_sided_0 : decode cX9_sided 0 = .ok (.aload_n 0, 1) := by decide +kernel
theorem dX9_sided_1 : decode cX9_sided 1 = .ok (.iload_n 2, 1) := by decide +kernel
theorem dX9_sided_2 : decode cX9_sided 2 = .ok (.aload_n 3, 1) := by decide +kernel
theorem dX9_sided_3 : decode cX9_sided 3 = .ok (.invokevirtual 190, 3) := by decide +kernel
theorem dX9_sided_6 : decode cX9_sided 6 = .ok (.istore 4, 2) := by decide +kernel
theorem dX9_sided_8 : decode cX9_sided 8 = .ok (.iload_n 1, 1) := by decide +kernel
theorem dX9_sided_9 : decode cX9_sided 9 = .ok (.ldc 73, 2) := by decide +kernel
theorem dX9_sided_11 : decode cX9_sided 11 = .ok (.if_icmp .ne 7, 3) := by decide +kernel
theorem dX9_sided_14 : decode cX9_sided 14 = .ok (.iconst 1, 1) := by decide +kernel
theorem dX9_sided_15 : decode cX9_sided 15 = .ok (.goto 4, 3) := by decide +kernel
theorem dX9_sided_18 : decode cX9_sided 18 = .ok (.iconst 0, 1) := by decide +kernel
theorem dX9_sided_19 : decode cX9_sided 19 = .ok (.iload 4, 2) := by decide +kernel
theorem dX9_sided_21 : decode cX9_sided 21 = .ok (.ldc 73, 2) := by decide +kernel
theorem dX9_sided_23 : decode cX9_sided 23 = .ok (.if_icmp .ne 7, 3) := by decide +kernel
theorem dX9_sided_26 : decode cX9_sided 26 = .ok (.iconst 1, 1) := by decide +kernel
theorem dX9_sided_27 : decode cX9_sided 27 = .ok (.goto 4, 3) := by decide +kernel
theorem dX9_sided_30 : decode cX9_sided 30 = .ok (.iconst 0, 1) := by decide +kernel
theorem dX9_sided_31 : decode cX9_sided 31 = .ok (.if_icmp .eq 8, 3) := by decide +kernel
theorem dX9_sided_34 : decode cX9_sided 34 = .ok (.aload_n 0, 1) := by decide +kernel
theorem dX9_sided_35 : decode cX9_sided 35 = .ok (.invokevirtual 166, 3) := by decide +kernel
theorem dX9_sided_38 : decode cX9_sided 38 = .ok (.ireturn, 1) := by decide +kernel
theorem dX9_sided_39 : decode cX9_sided 39 = .ok (.iload_n 1, 1) := by decide +kernel
theorem dX9_sided_40 : decode cX9_sided 40 = .ok (.ldc 73, 2) := by decide +kernel
theorem dX9_sided_42 : decode cX9_sided 42 = .ok (.if_icmp .eq 18, 3) := by decide +kernel
theorem dX9_sided_45 : decode cX9_sided 45 = .ok (.iload 4, 2) := by decide +kernel
theorem dX9_sided_47 : decode cX9_sided 47 = .ok (.aload_n 3, 1) := by decide +kernel
theorem dX9_sided_48 : decode cX9_sided 48 = .ok (.iconst 1, 1) := by decide +kernel
theorem dX9_sided_49 : decode cX9_sided 49 = .ok (.invokevirtual 127, 3) := by decide +kernel
theorem dX9_sided_52 : decode cX9_sided 52 = .ok (.if_icmp .ne 8, 3) := by decide +kernel
theorem dX9_sided_55 : decode cX9_sided 55 = .ok (.iload_n 1, 1) := by decide +kernel
theorem dX9_sided_56 : decode cX9_sided 56 = .ok (.ineg, 1) := by decide +kernel
theorem dX9_sided_57 : decode cX9_sided 57 = .ok (.goto 4, 3) := by decide +kernel
theorem dX9_sided_60 : decode cX9_sided 60 = .ok (.iload_n 1, 1) := by decide +kernel
theorem dX9_sided_61 : decode cX9_sided 61 = .ok (.ireturn, 1) := by decide +kernel
theorem dX9_place_0 : decode cX9_place 0 = .ok (.ldc 73, 2) := by decide +kernel
theorem dX9_place_2 : decode cX9_place 2 = .ok (.istore 5, 2) := by decide +kernel
theorem dX9_place_4 : decode cX9_place 4 = .ok (.aload_n 0, 1) := by decide +kernel
theorem dX9_place_5 : decode cX9_place 5 = .ok (.iload_n 1, 1) := by decide +kernel
theorem dX9_place_6 : decode cX9_place 6 = .ok (.invokevirtual 153, 3) := by decide +kernel
theorem dX9_place_9 : decode cX9_place 9 = .ok (.ifCond .le 96, 3) := by decide +kernel
theorem dX9_place_12 : decode cX9_place 12 = .ok (.aload_n 0, 1) := by decide +kernel
theorem dX9_place_13 : decode cX9_place 13 = .ok (.iload_n 1, 1) := by decide +kernel
theorem dX9_place_14 : decode cX9_place 14 = .ok (.iconst 0, 1) := by decide +kernel
theorem dX9_place_15 : decode cX9_place 15 = .ok (.invokevirtual 163, 3) := by decide +kernel
theorem dX9_place_18 : decode cX9_place 18 = .ok (.iload_n 2, 1) := by decide +kernel
theorem dX9_place_19 : decode cX9_place 19 = .ok (.if_icmp .eq 8, 3) := by decide +kernel
theorem dX9_place_22 : decode cX9_place 22 = .ok (.aload_n 0, 1) := by decide +kernel
theorem dX9_place_23 : decode cX9_place 23 = .ok (.invokevirtual 166, 3) := by decide +kernel
theorem dX9_place_26 : decode cX9_place 26 = .ok (.ireturn, 1) := by decide +kernel
theorem dX9_place_27 : decode cX9_place 27 = .ok (.aload_n 0, 1) := by decide +kernel
theorem dX9_place_28 : decode cX9_place 28 = .ok (.iload_n 1, 1) := by decide +kernel
theorem dX9_place_29 : decode cX9_place 29 = .ok (.iconst 0, 1) := by decide +kernel
theorem dX9_place_30 : decode cX9_place 30 = .ok (.iload_n 2, 1) := by decide +kernel
theorem dX9_place_31 : decode cX9_place 31 = .ok (.iconst 2, 1) := by decide +kernel
theorem dX9_place_32 : decode cX9_place 32 = .ok (.isub, 1) := by decide +kernel
theorem dX9_place_33 : decode cX9_place 33 = .ok (.invokevirtual 173, 3) := by decide +kernel
theorem dX9_place_36 : decode cX9_place 36 = .ok (.istore 6, 2) := by decide +kernel
theorem dX9_place_38 : decode cX9_place 38 = .ok (.aload_n 0, 1) := by decide +kernel
theorem dX9_place_39 : decode cX9_place 39 = .ok (.iload_n 1, 1) := by decide +kernel
theorem dX9_place_40 : decode cX9_place 40 = .ok (.iload_n 2, 1) := by decide +kernel
theorem dX9_place_41 : decode cX9_place 41 = .ok (.iconst 2, 1) := by decide +kernel
theorem dX9_place_42 : decode cX9_place 42 = .ok (.isub, 1) := by decide +kernel
theorem dX9_place_43 : decode cX9_place 43 = .ok (.iconst 2, 1) := by decide +kernel
theorem dX9_place_44 : decode cX9_place 44 = .ok (.invokevirtual 173, 3) := by decide +kernel
theorem dX9_place_47 : decode cX9_place 47 = .ok (.istore 7, 2) := by decide +kernel
theorem dX9_place_49 : decode cX9_place 49 = .ok (.aload_n 0, 1) := by decide +kernel
theorem dX9_place_50 : decode cX9_place 50 = .ok (.iload_n 1, 1) := by decide +kernel
theorem dX9_place_51 : decode cX9_place 51 = .ok (.iload_n 2, 1) := by decide +kernel
theorem dX9_place_52 : decode cX9_place 52 = .ok (.bipush 6, 2) := by decide +kernel
theorem dX9_place_54 : decode cX9_place 54 = .ok (.iconst 4, 1) := by decide +kernel
theorem dX9_place_55 : decode cX9_place 55 = .ok (.invokevirtual 169, 3) := by decide +kernel
theorem dX9_place_58 : decode cX9_place 58 = .ok (.istore 8, 2) := by decide +kernel
theorem dX9_place_60 : decode cX9_place 60 = .ok (.iload 6, 2) := by decide +kernel
theorem dX9_place_62 : decode cX9_place 62 = .ok (.bipush 60, 2) := by decide +kernel
theorem dX9_place_64 : decode cX9_place 64 = .ok (.imul, 1) := by decide +kernel
theorem dX9_place_65 : decode cX9_place 65 = .ok (.iload 7, 2) := by decide +kernel
theorem dX9_place_67 : decode cX9_place 67 = .ok (.iadd, 1) := by decide +kernel
theorem dX9_place_68 : decode cX9_place 68 = .ok (.sipush 10000, 3) := by decide +kernel
theorem dX9_place_71 : decode cX9_place 71 = .ok (.imul, 1) := by decide +kernel
theorem dX9_place_72 : decode cX9_place 72 = .ok (.iload 8, 2) := by decide +kernel
theorem dX9_place_74 : decode cX9_place 74 = .ok (.iadd, 1) := by decide +kernel
theorem dX9_place_75 : decode cX9_place 75 = .ok (.istore 5, 2) := by decide +kernel
theorem dX9_place_77 : decode cX9_place 77 = .ok (.iload 8, 2) := by decide +kernel
theorem dX9_place_79 : decode cX9_place 79 = .ok (.ldc 73, 2) := by decide +kernel
theorem dX9_place_81 : decode cX9_place 81 = .ok (.if_icmp .eq 19, 3) := by decide +kernel
theorem dX9_place_84 : decode cX9_place 84 = .ok (.iload 7, 2) := by decide +kernel
theorem dX9_place_86 : decode cX9_place 86 = .ok (.bipush 59, 2) := by decide +kernel
theorem dX9_place_88 : decode cX9_place 88 = .ok (.if_icmp .gt 12, 3) := by decide +kernel
theorem dX9_place_91 : decode cX9_place 91 = .ok (.iload 5, 2) := by decide +kernel
theorem dX9_place_93 : decode cX9_place 93 = .ok (.iload_n 3, 1) := by decide +kernel
theorem dX9_place_94 : decode cX9_place 94 = .ok (.ldc 194, 2) := by decide +kernel
theorem dX9_place_96 : decode cX9_place 96 = .ok (.imul, 1) := by decide +kernel
theorem dX9_place_97 : decode cX9_place 97 = .ok (.if_icmp .le 8, 3) := by decide +kernel
theorem dX9_place_100 : decode cX9_place 100 = .ok (.aload_n 0, 1) := by decide +kernel
theorem dX9_place_101 : decode cX9_place 101 = .ok (.invokevirtual 166, 3) := by decide +kernel
theorem dX9_place_104 : decode cX9_place 104 = .ok (.ireturn, 1) := by decide +kernel
theorem dX9_place_105 : decode cX9_place 105 = .ok (.aload_n 0, 1) := by decide +kernel
theorem dX9_place_106 : decode cX9_place 106 = .ok (.iload 5, 2) := by decide +kernel
theorem dX9_place_108 : decode cX9_place 108 = .ok (.iload_n 1, 1) := by decide +kernel
theorem dX9_place_109 : decode cX9_place 109 = .ok (.iconst 1, 1) := by decide +kernel
theorem dX9_place_110 : decode cX9_place 110 = .ok (.iadd, 1) := by decide +kernel
theorem dX9_place_111 : decode cX9_place 111 = .ok (.aload 4, 2) := by decide +kernel
theorem dX9_place_113 : decode cX9_place 113 = .ok (.invokevirtual 195, 3) := by decide +kernel
theorem dX9_place_116 : decode cX9_place 116 = .ok (.ireturn, 1) := by decide +kernel
theorem dX9_measured_0 : decode cX9_measured 0 = .ok (.aload_n 0, 1) := by decide +kernel
theorem dX9_measured_1 : decode cX9_measured 1 = .ok (.iload_n 2, 1) := by decide +kernel
theorem dX9_measured_2 : decode cX9_measured 2 = .ok (.aload_n 3, 1) := by decide +kernel
theorem dX9_measured_3 : decode cX9_measured 3 = .ok (.invokevirtual 190, 3) := by decide +kernel
theorem dX9_measured_6 : decode cX9_measured 6 = .ok (.istore 4, 2) := by decide +kernel
theorem dX9_measured_8 : decode cX9_measured 8 = .ok (.iload_n 1, 1) := by decide +kernel
theorem dX9_measured_9 : decode cX9_measured 9 = .ok (.ldc 73, 2) := by decide +kernel
theorem dX9_measured_11 : decode cX9_measured 11 = .ok (.if_icmp .eq 17, 3) := by decide +kernel
theorem dX9_measured_14 : decode cX9_measured 14 = .ok (.iload 4, 2) := by decide +kernel
theorem dX9_measured_16 : decode cX9_measured 16 = .ok (.ldc 73, 2) := by decide +kernel
theorem dX9_measured_18 : decode cX9_measured 18 = .ok (.if_icmp .ne 10, 3) := by decide +kernel
theorem dX9_measured_21 : decode cX9_measured 21 = .ok (.aload_n 0, 1) := by decide +kernel
theorem dX9_measured_22 : decode cX9_measured 22 = .ok (.invokevirtual 166, 3) := by decide +kernel
theorem dX9_measured_25 : decode cX9_measured 25 = .ok (.goto 4, 3) := by decide +kernel
theorem dX9_measured_28 : decode cX9_measured 28 = .ok (.iload_n 1, 1) := by decide +kernel
theorem dX9_measured_29 : decode cX9_measured 29 = .ok (.ireturn, 1) := by decide +kernel
theorem dX9_fits_0 : decode cX9_fits 0 = .ok (.aload_n 0, 1) := by decide +kernel
theorem dX9_fits_1 : decode cX9_fits 1 = .ok (.iconst 1, 1) := by decide +kernel
theorem dX9_fits_2 : decode cX9_fits 2 = .ok (.putfield 149, 3) := by decide +kernel
theorem dX9_fits_5 : decode cX9_fits 5 = .ok (.iload_n 1, 1) := by decide +kernel
theorem dX9_fits_6 : decode cX9_fits 6 = .ok (.tableswitch 98 0 2 #[26, 44, 71], 26) := by decide +kernel
theorem dX9_fits_32 : decode cX9_fits 32 = .ok (.aload_n 0, 1) := by decide +kernel
theorem dX9_fits_33 : decode cX9_fits 33 = .ok (.getfield 113, 3) := by decide +kernel
theorem dX9_fits_36 : decode cX9_fits 36 = .ok (.bipush 15, 2) := by decide +kernel
theorem dX9_fits_38 : decode cX9_fits 38 = .ok (.if_icmp .eq 5, 3) := by decide +kernel
theorem dX9_fits_41 : decode cX9_fits 41 = .ok (.iconst 0, 1) := by decide +kernel
theorem dX9_fits_42 : decode cX9_fits 42 = .ok (.ireturn, 1) := by decide +kernel
theorem dX9_fits_43 : decode cX9_fits 43 = .ok (.aload_n 0, 1) := by decide +kernel
theorem dX9_fits_44 : decode cX9_fits 44 = .ok (.invokevirtual 199, 3) := by decide +kernel
theorem dX9_fits_47 : decode cX9_fits 47 = .ok (.goto 72, 3) := by decide +kernel
theorem dX9_fits_50 : decode cX9_fits 50 = .ok (.aload_n 0, 1) := by decide +kernel
theorem dX9_fits_51 : decode cX9_fits 51 = .ok (.getfield 113, 3) := by decide +kernel
theorem dX9_fits_54 : decode cX9_fits 54 = .ok (.bipush 12, 2) := by decide +kernel
theorem dX9_fits_56 : decode cX9_fits 56 = .ok (.if_icmp .eq 14, 3) := by decide +kernel
theorem dX9_fits_59 : decode cX9_fits 59 = .ok (.aload_n 0, 1) := by decide +kernel
theorem dX9_fits_60 : decode cX9_fits 60 = .ok (.getfield 113, 3) := by decide +kernel
theorem dX9_fits_63 : decode cX9_fits 63 = .ok (.bipush 13, 2) := by decide +kernel
theorem dX9_fits_65 : decode cX9_fits 65 = .ok (.if_icmp .eq 5, 3) := by decide +kernel
theorem dX9_fits_68 : decode cX9_fits 68 = .ok (.iconst 0, 1) := by decide +kernel
theorem dX9_fits_69 : decode cX9_fits 69 = .ok (.ireturn, 1) := by decide +kernel
theorem dX9_fits_70 : decode cX9_fits 70 = .ok (.aload_n 0, 1) := by decide +kernel
theorem dX9_fits_71 : decode cX9_fits 71 = .ok (.invokevirtual 202, 3) := by decide +kernel
theorem dX9_fits_74 : decode cX9_fits 74 = .ok (.goto 45, 3) := by decide +kernel
theorem dX9_fits_77 : decode cX9_fits 77 = .ok (.aload_n 0, 1) := by decide +kernel
theorem dX9_fits_78 : decode cX9_fits 78 = .ok (.getfield 113, 3) := by decide +kernel
theorem dX9_fits_81 : decode cX9_fits 81 = .ok (.bipush 9, 2) := by decide +kernel
theorem dX9_fits_83 : decode cX9_fits 83 = .ok (.if_icmp .eq 14, 3) := by decide +kernel
theorem dX9_fits_86 : decode cX9_fits 86 = .ok (.aload_n 0, 1) := by decide +kernel
theorem dX9_fits_87 : decode cX9_fits 87 = .ok (.getfield 113, 3) := by decide +kernel
theorem dX9_fits_90 : decode cX9_fits 90 = .ok (.bipush 10, 2) := by decide +kernel
theorem dX9_fits_92 : decode cX9_fits 92 = .ok (.if_icmp .eq 5, 3) := by decide +kernel
theorem dX9_fits_95 : decode cX9_fits 95 = .ok (.iconst 0, 1) := by decide +kernel
theorem dX9_fits_96 : decode cX9_fits 96 = .ok (.ireturn, 1) := by decide +kernel
theorem dX9_fits_97 : decode cX9_fits 97 = .ok (.aload_n 0, 1) := by decide +kernel
theorem dX9_fits_98 : decode cX9_fits 98 = .ok (.invokevirtual 205, 3) := by decide +kernel
theorem dX9_fits_101 : decode cX9_fits 101 = .ok (.goto 18, 3) := by decide +kernel
theorem dX9_fits_104 : decode cX9_fits 104 = .ok (.aload_n 0, 1) := by decide +kernel
theorem dX9_fits_105 : decode cX9_fits 105 = .ok (.getfield 113, 3) := by decide +kernel
theorem dX9_fits_108 : decode cX9_fits 108 = .ok (.bipush 7, 2) := by decide +kernel
theorem dX9_fits_110 : decode cX9_fits 110 = .ok (.if_icmp .eq 5, 3) := by decide +kernel
theorem dX9_fits_113 : decode cX9_fits 113 = .ok (.iconst 0, 1) := by decide +kernel
theorem dX9_fits_114 : decode cX9_fits 114 = .ok (.ireturn, 1) := by decide +kernel
theorem dX9_fits_115 : decode cX9_fits 115 = .ok (.aload_n 0, 1) := by decide +kernel
theorem dX9_fits_116 : decode cX9_fits 116 = .ok (.invokevirtual 208, 3) := by decide +kernel
theorem dX9_fits_119 : decode cX9_fits 119 = .ok (.aload_n 0, 1) := by decide +kernel
theorem dX9_fits_120 : decode cX9_fits 120 = .ok (.getfield 149, 3) := by decide +kernel
theorem dX9_fits_123 : decode cX9_fits 123 = .ok (.ireturn, 1) := by decide +kernel
theorem dX9_gga_0 : decode cX9_gga 0 = .ok (.aload_n 0, 1) := by decide +kernel
theorem dX9_gga_1 : decode cX9_gga 1 = .ok (.getfield 32, 3) := by decide +kernel
theorem dX9_gga_4 : decode cX9_gga 4 = .ok (.iconst 0, 1) := by decide +kernel
theorem dX9_gga_5 : decode cX9_gga 5 = .ok (.aload_n 0, 1) := by decide +kernel
theorem dX9_gga_6 : decode cX9_gga 6 = .ok (.iconst 1, 1) := by decide +kernel
theorem dX9_gga_7 : decode cX9_gga 7 = .ok (.invokevirtual 211, 3) := by decide +kernel
theorem dX9_gga_10 : decode cX9_gga 10 = .ok (.iastore, 1) := by decide +kernel
theorem dX9_gga_11 : decode cX9_gga 11 = .ok (.aload_n 0, 1) := by decide +kernel
theorem dX9_gga_12 : decode cX9_gga 12 = .ok (.getfield 32, 3) := by decide +kernel
theorem dX9_gga_15 : decode cX9_gga 15 = .ok (.iconst 1, 1) := by decide +kernel
theorem dX9_gga_16 : decode cX9_gga 16 = .ok (.aload_n 0, 1) := by decide +kernel
theorem dX9_gga_17 : decode cX9_gga 17 = .ok (.iconst 2, 1) := by decide +kernel
theorem dX9_gga_18 : decode cX9_gga 18 = .ok (.iconst 4, 1) := by decide +kernel
theorem dX9_gga_19 : decode cX9_gga 19 = .ok (.bipush 90, 2) := by decide +kernel
theorem dX9_gga_21 : decode cX9_gga 21 = .ok (.ldc 214, 2) := by decide +kernel
theorem dX9_gga_23 : decode cX9_gga 23 = .ok (.invokevirtual 216, 3) := by decide +kernel
theorem dX9_gga_26 : decode cX9_gga 26 = .ok (.iastore, 1) := by decide +kernel
theorem dX9_gga_27 : decode cX9_gga 27 = .ok (.aload_n 0, 1) := by decide +kernel
theorem dX9_gga_28 : decode cX9_gga 28 = .ok (.getfield 32, 3) := by decide +kernel
theorem dX9_gga_31 : decode cX9_gga 31 = .ok (.iconst 2, 1) := by decide +kernel
theorem dX9_gga_32 : decode cX9_gga 32 = .ok (.aload_n 0, 1) := by decide +kernel
theorem dX9_gga_33 : decode cX9_gga 33 = .ok (.iconst 4, 1) := by decide +kernel
theorem dX9_gga_34 : decode cX9_gga 34 = .ok (.iconst 5, 1) := by decide +kernel
theorem dX9_gga_35 : decode cX9_gga 35 = .ok (.sipush 180, 3) := by decide +kernel
theorem dX9_gga_38 : decode cX9_gga 38 = .ok (.ldc 220, 2) := by decide +kernel
theorem dX9_gga_40 : decode cX9_gga 40 = .ok (.invokevirtual 216, 3) := by decide +kernel
theorem dX9_gga_43 : decode cX9_gga 43 = .ok (.iastore, 1) := by decide +kernel
theorem dX9_gga_44 : decode cX9_gga 44 = .ok (.aload_n 0, 1) := by decide +kernel
theorem dX9_gga_45 : decode cX9_gga 45 = .ok (.getfield 32, 3) := by decide +kernel
theorem dX9_gga_48 : decode cX9_gga 48 = .ok (.iconst 3, 1) := by decide +kernel
theorem dX9_gga_49 : decode cX9_gga 49 = .ok (.aload_n 0, 1) := by decide +kernel
theorem dX9_gga_50 : decode cX9_gga 50 = .ok (.bipush 6, 2) := by decide +kernel
theorem dX9_gga_52 : decode cX9_gga 52 = .ok (.iconst 1, 1) := by decide +kernel
theorem dX9_gga_53 : decode cX9_gga 53 = .ok (.invokevirtual 180, 3) := by decide +kernel
theorem dX9_gga_56 : decode cX9_gga 56 = .ok (.iastore, 1) := by decide +kernel
theorem dX9_gga_57 : decode cX9_gga 57 = .ok (.aload_n 0, 1) := by decide +kernel
theorem dX9_gga_58 : decode cX9_gga 58 = .ok (.getfield 32, 3) := by decide +kernel
theorem dX9_gga_61 : decode cX9_gga 61 = .ok (.iconst 3, 1) := by decide +kernel
theorem dX9_gga_62 : decode cX9_gga 62 = .ok (.iaload, 1) := by decide +kernel
theorem dX9_gga_63 : decode cX9_gga 63 = .ok (.ldc 73, 2) := by decide +kernel
theorem dX9_gga_65 : decode cX9_gga 65 = .ok (.if_icmp .eq 14, 3) := by decide +kernel
theorem dX9_gga_68 : decode cX9_gga 68 = .ok (.aload_n 0, 1) := by decide +kernel
theorem dX9_gga_69 : decode cX9_gga 69 = .ok (.getfield 32, 3) := by decide +kernel
theorem dX9_gga_72 : decode cX9_gga 72 = .ok (.iconst 3, 1) := by decide +kernel
theorem dX9_gga_73 : decode cX9_gga 73 = .ok (.iaload, 1) := by decide +kernel
theorem dX9_gga_74 : decode cX9_gga 74 = .ok (.bipush 8, 2) := by decide +kernel
theorem dX9_gga_76 : decode cX9_gga 76 = .ok (.if_icmp .le 8, 3) := by decide +kernel
theorem dX9_gga_79 : decode cX9_gga 79 = .ok (.aload_n 0, 1) := by decide +kernel
theorem dX9_gga_80 : decode cX9_gga 80 = .ok (.iconst 0, 1) := by decide +kernel
theorem dX9_gga_81 : decode cX9_gga 81 = .ok (.putfield 149, 3) := by decide +kernel
theorem dX9_gga_84 : decode cX9_gga 84 = .ok (.aload_n 0, 1) := by decide +kernel
theorem dX9_gga_85 : decode cX9_gga 85 = .ok (.getfield 32, 3) := by decide +kernel
theorem dX9_gga_88 : decode cX9_gga 88 = .ok (.iconst 4, 1) := by decide +kernel
theorem dX9_gga_89 : decode cX9_gga 89 = .ok (.aload_n 0, 1) := by decide +kernel
theorem dX9_gga_90 : decode cX9_gga 90 = .ok (.bipush 7, 2) := by decide +kernel
theorem dX9_gga_92 : decode cX9_gga 92 = .ok (.invokevirtual 153, 3) := by decide +kernel
theorem dX9_gga_95 : decode cX9_gga 95 = .ok (.ifCond .ne 8, 3) := by decide +kernel
theorem dX9_gga_98 : decode cX9_gga 98 = .ok (.ldc 73, 2) := by decide +kernel
theorem dX9_gga_100 : decode cX9_gga 100 = .ok (.goto 49, 3) := by decide +kernel
theorem dX9_gga_103 : decode cX9_gga 103 = .ok (.aload_n 0, 1) := by decide +kernel
theorem dX9_gga_104 : decode cX9_gga 104 = .ok (.bipush 7, 2) := by decide +kernel
theorem dX9_gga_106 : decode cX9_gga 106 = .ok (.invokevirtual 153, 3) := by decide +kernel
theorem dX9_gga_109 : decode cX9_gga 109 = .ok (.iconst 2, 1) := by decide +kernel
theorem dX9_gga_110 : decode cX9_gga 110 = .ok (.if_icmp .gt 19, 3) := by decide +kernel
theorem dX9_gga_113 : decode cX9_gga 113 = .ok (.aload_n 0, 1) := by decide +kernel
theorem dX9_gga_114 : decode cX9_gga 114 = .ok (.bipush 7, 2) := by decide +kernel
theorem dX9_gga_116 : decode cX9_gga 116 = .ok (.iconst 0, 1) := by decide +kernel
theorem dX9_gga_117 : decode cX9_gga 117 = .ok (.invokevirtual 163, 3) := by decide +kernel
theorem dX9_gga_120 : decode cX9_gga 120 = .ok (.aload_n 0, 1) := by decide +kernel
theorem dX9_gga_121 : decode cX9_gga 121 = .ok (.bipush 7, 2) := by decide +kernel
theorem dX9_gga_123 : decode cX9_gga 123 = .ok (.invokevirtual 153, 3) := by decide +kernel
theorem dX9_gga_126 : decode cX9_gga 126 = .ok (.if_icmp .eq 10, 3) := by decide +kernel
theorem dX9_gga_129 : decode cX9_gga 129 = .ok (.aload_n 0, 1) := by decide +kernel
theorem dX9_gga_130 : decode cX9_gga 130 = .ok (.invokevirtual 166, 3) := by decide +kernel
theorem dX9_gga_133 : decode cX9_gga 133 = .ok (.goto 16, 3) := by decide +kernel
theorem dX9_gga_136 : decode cX9_gga 136 = .ok (.aload_n 0, 1) := by decide +kernel
theorem dX9_gga_137 : decode cX9_gga 137 = .ok (.bipush 7, 2) := by decide +kernel
theorem dX9_gga_139 : decode cX9_gga 139 = .ok (.iconst 0, 1) := by decide +kernel
theorem dX9_gga_140 : decode cX9_gga 140 = .ok (.aload_n 0, 1) := by decide +kernel
theorem dX9_gga_141 : decode cX9_gga 141 = .ok (.bipush 7, 2) := by decide +kernel
theorem dX9_gga_143 : decode cX9_gga 143 = .ok (.invokevirtual 153, 3) := by decide +kernel
theorem dX9_gga_146 : decode cX9_gga 146 = .ok (.invokevirtual 173, 3) := by decide +kernel
theorem dX9_gga_149 : decode cX9_gga 149 = .ok (.iastore, 1) := by decide +kernel
theorem dX9_gga_150 : decode cX9_gga 150 = .ok (.aload_n 0, 1) := by decide +kernel
theorem dX9_gga_151 : decode cX9_gga 151 = .ok (.getfield 32, 3) := by decide +kernel
theorem dX9_gga_154 : decode cX9_gga 154 = .ok (.iconst 5, 1) := by decide +kernel
theorem dX9_gga_155 : decode cX9_gga 155 = .ok (.aload_n 0, 1) := by decide +kernel
theorem dX9_gga_156 : decode cX9_gga 156 = .ok (.bipush 8, 2) := by decide +kernel
theorem dX9_gga_158 : decode cX9_gga 158 = .ok (.iconst 2, 1) := by decide +kernel
theorem dX9_gga_159 : decode cX9_gga 159 = .ok (.iconst 2, 1) := by decide +kernel
theorem dX9_gga_160 : decode cX9_gga 160 = .ok (.iconst 0, 1) := by decide +kernel
theorem dX9_gga_161 : decode cX9_gga 161 = .ok (.invokevirtual 222, 3) := by decide +kernel
theorem dX9_gga_164 : decode cX9_gga 164 = .ok (.iastore, 1) := by decide +kernel
theorem dX9_gga_165 : decode cX9_gga 165 = .ok (.aload_n 0, 1) := by decide +kernel
theorem dX9_gga_166 : decode cX9_gga 166 = .ok (.getfield 32, 3) := by decide +kernel
theorem dX9_gga_169 : decode cX9_gga 169 = .ok (.bipush 6, 2) := by decide +kernel
theorem dX9_gga_171 : decode cX9_gga 171 = .ok (.aload_n 0, 1) := by decide +kernel
theorem dX9_gga_172 : decode cX9_gga 172 = .ok (.aload_n 0, 1) := by decide +kernel
theorem dX9_gga_173 : decode cX9_gga 173 = .ok (.bipush 9, 2) := by decide +kernel
theorem dX9_gga_175 : decode cX9_gga 175 = .ok (.iconst 1, 1) := by decide +kernel
theorem dX9_gga_176 : decode cX9_gga 176 = .ok (.iconst 5, 1) := by decide +kernel
theorem dX9_gga_177 : decode cX9_gga 177 = .ok (.iconst 1, 1) := by decide +kernel
theorem dX9_gga_178 : decode cX9_gga 178 = .ok (.invokevirtual 222, 3) := by decide +kernel
theorem dX9_gga_181 : decode cX9_gga 181 = .ok (.bipush 10, 2) := by decide +kernel
theorem dX9_gga_183 : decode cX9_gga 183 = .ok (.ldc 226, 2) := by decide +kernel
theorem dX9_gga_185 : decode cX9_gga 185 = .ok (.invokevirtual 228, 3) := by decide +kernel
theorem dX9_gga_188 : decode cX9_gga 188 = .ok (.iastore, 1) := by decide +kernel
theorem dX9_gga_189 : decode cX9_gga 189 = .ok (.aload_n 0, 1) := by decide +kernel
theorem dX9_gga_190 : decode cX9_gga 190 = .ok (.getfield 32, 3) := by decide +kernel
theorem dX9_gga_193 : decode cX9_gga 193 = .ok (.bipush 7, 2) := by decide +kernel
theorem dX9_gga_195 : decode cX9_gga 195 = .ok (.aload_n 0, 1) := by decide +kernel
theorem dX9_gga_196 : decode cX9_gga 196 = .ok (.aload_n 0, 1) := by decide +kernel
theorem dX9_gga_197 : decode cX9_gga 197 = .ok (.bipush 11, 2) := by decide +kernel
theorem dX9_gga_199 : decode cX9_gga 199 = .ok (.iconst 1, 1) := by decide +kernel
theorem dX9_gga_200 : decode cX9_gga 200 = .ok (.iconst 4, 1) := by decide +kernel
theorem dX9_gga_201 : decode cX9_gga 201 = .ok (.iconst 1, 1) := by decide +kernel
theorem dX9_gga_202 : decode cX9_gga 202 = .ok (.invokevirtual 222, 3) := by decide +kernel
theorem dX9_gga_205 : decode cX9_gga 205 = .ok (.bipush 12, 2) := by decide +kernel
theorem dX9_gga_207 : decode cX9_gga 207 = .ok (.ldc 226, 2) := by decide +kernel
theorem dX9_gga_209 : decode cX9_gga 209 = .ok (.invokevirtual 228, 3) := by decide +kernel
theorem dX9_gga_212 : decode cX9_gga 212 = .ok (.iastore, 1) := by decide +kernel
theorem dX9_gga_213 : decode cX9_gga 213 = .ok (.aload_n 0, 1) := by decide +kernel
theorem dX9_gga_214 : decode cX9_gga 214 = .ok (.getfield 32, 3) := by decide +kernel
theorem dX9_gga_217 : decode cX9_gga 217 = .ok (.bipush 8, 2) := by decide +kernel
theorem dX9_gga_219 : decode cX9_gga 219 = .ok (.aload_n 0, 1) := by decide +kernel
theorem dX9_gga_220 : decode cX9_gga 220 = .ok (.bipush 13, 2) := by decide +kernel
theorem dX9_gga_222 : decode cX9_gga 222 = .ok (.iconst 1, 1) := by decide +kernel
theorem dX9_gga_223 : decode cX9_gga 223 = .ok (.iconst 4, 1) := by decide +kernel
theorem dX9_gga_224 : decode cX9_gga 224 = .ok (.iconst 0, 1) := by decide +kernel
theorem dX9_gga_225 : decode cX9_gga 225 = .ok (.invokevirtual 222, 3) := by decide +kernel
theorem dX9_gga_228 : decode cX9_gga 228 = .ok (.iastore, 1) := by decide +kernel
theorem dX9_gga_229 : decode cX9_gga 229 = .ok (.aload_n 0, 1) := by decide +kernel
theorem dX9_gga_230 : decode cX9_gga 230 = .ok (.getfield 32, 3) := by decide +kernel
theorem dX9_gga_233 : decode cX9_gga 233 = .ok (.bipush 9, 2) := by decide +kernel
theorem dX9_gga_235 : decode cX9_gga 235 = .ok (.aload_n 0, 1) := by decide +kernel
theorem dX9_gga_236 : decode cX9_gga 236 = .ok (.bipush 14, 2) := by decide +kernel
theorem dX9_gga_238 : decode cX9_gga 238 = .ok (.iconst 4, 1) := by decide +kernel
theorem dX9_gga_239 : decode cX9_gga 239 = .ok (.invokevirtual 180, 3) := by decide +kernel
theorem dX9_gga_242 : decode cX9_gga 242 = .ok (.iastore, 1) := by decide +kernel
theorem dX9_gga_243 : decode cX9_gga 243 = .ok (.return_, 1) := by decide +kernel
theorem dX9_rmc_0 : decode cX9_rmc 0 = .ok (.aload_n 0, 1) := by decide +kernel
theorem dX9_rmc_1 : decode cX9_rmc 1 = .ok (.getfield 32, 3) := by decide +kernel
theorem dX9_rmc_4 : decode cX9_rmc 4 = .ok (.iconst 0, 1) := by decide +kernel
theorem dX9_rmc_5 : decode cX9_rmc 5 = .ok (.aload_n 0, 1) := by decide +kernel
theorem dX9_rmc_6 : decode cX9_rmc 6 = .ok (.iconst 1, 1) := by decide +kernel
theorem dX9_rmc_7 : decode cX9_rmc 7 = .ok (.invokevirtual 211, 3) := by decide +kernel
theorem dX9_rmc_10 : decode cX9_rmc 10 = .ok (.iastore, 1) := by decide +kernel
theorem dX9_rmc_11 : decode cX9_rmc 11 = .ok (.aload_n 0, 1) := by decide +kernel
theorem dX9_rmc_12 : decode cX9_rmc 12 = .ok (.iconst 2, 1) := by decide +kernel
theorem dX9_rmc_13 : decode cX9_rmc 13 = .ok (.ldc 231, 2) := by decide +kernel
theorem dX9_rmc_15 : decode cX9_rmc 15 = .ok (.invokevirtual 190, 3) := by decide +kernel
theorem dX9_rmc_18 : decode cX9_rmc 18 = .ok (.istore_n 1, 1) := by decide +kernel
theorem dX9_rmc_19 : decode cX9_rmc 19 = .ok (.iload_n 1, 1) := by decide +kernel
theorem dX9_rmc_20 : decode cX9_rmc 20 = .ok (.ldc 73, 2) := by decide +kernel
theorem dX9_rmc_22 : decode cX9_rmc 22 = .ok (.if_icmp .ne 8, 3) := by decide +kernel
theorem dX9_rmc_25 : decode cX9_rmc 25 = .ok (.aload_n 0, 1) := by decide +kernel
theorem dX9_rmc_26 : decode cX9_rmc 26 = .ok (.iconst 0, 1) := by decide +kernel
theorem dX9_rmc_27 : decode cX9_rmc 27 = .ok (.putfield 149, 3) := by decide +kernel
theorem dX9_rmc_30 : decode cX9_rmc 30 = .ok (.aload_n 0, 1) := by decide +kernel
theorem dX9_rmc_31 : decode cX9_rmc 31 = .ok (.getfield 32, 3) := by decide +kernel
theorem dX9_rmc_34 : decode cX9_rmc 34 = .ok (.bipush 10, 2) := by decide +kernel
theorem dX9_rmc_36 : decode cX9_rmc 36 = .ok (.iload_n 1, 1) := by decide +kernel
theorem dX9_rmc_37 : decode cX9_rmc 37 = .ok (.bipush 65, 2) := by decide +kernel
theorem dX9_rmc_39 : decode cX9_rmc 39 = .ok (.if_icmp .ne 7, 3) := by decide +kernel
theorem dX9_rmc_42 : decode cX9_rmc 42 = .ok (.iconst 1, 1) := by decide +kernel
theorem dX9_rmc_43 : decode cX9_rmc 43 = .ok (.goto 4, 3) := by decide +kernel
theorem dX9_rmc_46 : decode cX9_rmc 46 = .ok (.iconst 0, 1) := by decide +kernel
theorem dX9_rmc_47 : decode cX9_rmc 47 = .ok (.iastore, 1) := by decide +kernel
theorem dX9_rmc_48 : decode cX9_rmc 48 = .ok (.aload_n 0, 1) := by decide +kernel
theorem dX9_rmc_49 : decode cX9_rmc 49 = .ok (.getfield 32, 3) := by decide +kernel
theorem dX9_rmc_52 : decode cX9_rmc 52 = .ok (.iconst 1, 1) := by decide +kernel
theorem dX9_rmc_53 : decode cX9_rmc 53 = .ok (.aload_n 0, 1) := by decide +kernel
theorem dX9_rmc_54 : decode cX9_rmc 54 = .ok (.iconst 3, 1) := by decide +kernel
theorem dX9_rmc_55 : decode cX9_rmc 55 = .ok (.iconst 4, 1) := by decide +kernel
theorem dX9_rmc_56 : decode cX9_rmc 56 = .ok (.bipush 90, 2) := by decide +kernel
theorem dX9_rmc_58 : decode cX9_rmc 58 = .ok (.ldc 214, 2) := by decide +kernel
theorem dX9_rmc_60 : decode cX9_rmc 60 = .ok (.invokevirtual 216, 3) := by decide +kernel
theorem dX9_rmc_63 : decode cX9_rmc 63 = .ok (.iastore, 1) := by decide +kernel
theorem dX9_rmc_64 : decode cX9_rmc 64 = .ok (.aload_n 0, 1) := by decide +kernel
theorem dX9_rmc_65 : decode cX9_rmc 65 = .ok (.getfield 32, 3) := by decide +kernel
theorem dX9_rmc_68 : decode cX9_rmc 68 = .ok (.iconst 2, 1) := by decide +kernel
theorem dX9_rmc_69 : decode cX9_rmc 69 = .ok (.aload_n 0, 1) := by decide +kernel
theorem dX9_rmc_70 : decode cX9_rmc 70 = .ok (.iconst 5, 1) := by decide +kernel
theorem dX9_rmc_71 : decode cX9_rmc 71 = .ok (.iconst 5, 1) := by decide +kernel
theorem dX9_rmc_72 : decode cX9_rmc 72 = .ok (.sipush 180, 3) := by decide +kernel
theorem dX9_rmc_75 : decode cX9_rmc 75 = .ok (.ldc 220, 2) := by decide +kernel
theorem dX9_rmc_77 : decode cX9_rmc 77 = .ok (.invokevirtual 216, 3) := by decide +kernel
theorem dX9_rmc_80 : decode cX9_rmc 80 = .ok (.iastore, 1) := by decide +kernel
theorem dX9_rmc_81 : decode cX9_rmc 81 = .ok (.aload_n 0, 1) := by decide +kernel
theorem dX9_rmc_82 : decode cX9_rmc 82 = .ok (.getfield 32, 3) := by decide +kernel
theorem dX9_rmc_85 : decode cX9_rmc 85 = .ok (.bipush 11, 2) := by decide +kernel
theorem dX9_rmc_87 : decode cX9_rmc 87 = .ok (.aload_n 0, 1) := by decide +kernel
theorem dX9_rmc_88 : decode cX9_rmc 88 = .ok (.bipush 7, 2) := by decide +kernel
theorem dX9_rmc_90 : decode cX9_rmc 90 = .ok (.iconst 2, 1) := by decide +kernel
theorem dX9_rmc_91 : decode cX9_rmc 91 = .ok (.iconst 4, 1) := by decide +kernel
theorem dX9_rmc_92 : decode cX9_rmc 92 = .ok (.iconst 0, 1) := by decide +kernel
theorem dX9_rmc_93 : decode cX9_rmc 93 = .ok (.invokevirtual 222, 3) := by decide +kernel
theorem dX9_rmc_96 : decode cX9_rmc 96 = .ok (.iastore, 1) := by decide +kernel
theorem dX9_rmc_97 : decode cX9_rmc 97 = .ok (.aload_n 0, 1) := by decide +kernel
theorem dX9_rmc_98 : decode cX9_rmc 98 = .ok (.getfield 32, 3) := by decide +kernel
theorem dX9_rmc_101 : decode cX9_rmc 101 = .ok (.bipush 12, 2) := by decide +kernel
theorem dX9_rmc_103 : decode cX9_rmc 103 = .ok (.aload_n 0, 1) := by decide +kernel
theorem dX9_rmc_104 : decode cX9_rmc 104 = .ok (.aload_n 0, 1) := by decide +kernel
theorem dX9_rmc_105 : decode cX9_rmc 105 = .ok (.bipush 8, 2) := by decide +kernel
theorem dX9_rmc_107 : decode cX9_rmc 107 = .ok (.iconst 2, 1) := by decide +kernel
theorem dX9_rmc_108 : decode cX9_rmc 108 = .ok (.iconst 3, 1) := by decide +kernel
theorem dX9_rmc_109 : decode cX9_rmc 109 = .ok (.iconst 0, 1) := by decide +kernel
theorem dX9_rmc_110 : decode cX9_rmc 110 = .ok (.invokevirtual 222, 3) := by decide +kernel
theorem dX9_rmc_113 : decode cX9_rmc 113 = .ok (.ldc 233, 2) := by decide +kernel
theorem dX9_rmc_115 : decode cX9_rmc 115 = .ok (.invokevirtual 234, 3) := by decide +kernel
theorem dX9_rmc_118 : decode cX9_rmc 118 = .ok (.iastore, 1) := by decide +kernel
theorem dX9_rmc_119 : decode cX9_rmc 119 = .ok (.aload_n 0, 1) := by decide +kernel
theorem dX9_rmc_120 : decode cX9_rmc 120 = .ok (.getfield 32, 3) := by decide +kernel
theorem dX9_rmc_123 : decode cX9_rmc 123 = .ok (.bipush 13, 2) := by decide +kernel
theorem dX9_rmc_125 : decode cX9_rmc 125 = .ok (.aload_n 0, 1) := by decide +kernel
theorem dX9_rmc_126 : decode cX9_rmc 126 = .ok (.bipush 9, 2) := by decide +kernel
theorem dX9_rmc_128 : decode cX9_rmc 128 = .ok (.invokevirtual 237, 3) := by decide +kernel
theorem dX9_rmc_131 : decode cX9_rmc 131 = .ok (.iastore, 1) := by decide +kernel
theorem dX9_rmc_132 : decode cX9_rmc 132 = .ok (.aload_n 0, 1) := by decide +kernel
theorem dX9_rmc_133 : decode cX9_rmc 133 = .ok (.getfield 32, 3) := by decide +kernel
theorem dX9_rmc_136 : decode cX9_rmc 136 = .ok (.bipush 14, 2) := by decide +kernel
theorem dX9_rmc_138 : decode cX9_rmc 138 = .ok (.aload_n 0, 1) := by decide +kernel
theorem dX9_rmc_139 : decode cX9_rmc 139 = .ok (.aload_n 0, 1) := by decide +kernel
theorem dX9_rmc_140 : decode cX9_rmc 140 = .ok (.aload_n 0, 1) := by decide +kernel
theorem dX9_rmc_141 : decode cX9_rmc 141 = .ok (.bipush 10, 2) := by decide +kernel
theorem dX9_rmc_143 : decode cX9_rmc 143 = .ok (.iconst 1, 1) := by decide +kernel
theorem dX9_rmc_144 : decode cX9_rmc 144 = .ok (.iconst 3, 1) := by decide +kernel
theorem dX9_rmc_145 : decode cX9_rmc 145 = .ok (.iconst 0, 1) := by decide +kernel
theorem dX9_rmc_146 : decode cX9_rmc 146 = .ok (.invokevirtual 222, 3) := by decide +kernel
theorem dX9_rmc_149 : decode cX9_rmc 149 = .ok (.sipush 1800, 3) := by decide +kernel
theorem dX9_rmc_152 : decode cX9_rmc 152 = .ok (.invokevirtual 234, 3) := by decide +kernel
theorem dX9_rmc_155 : decode cX9_rmc 155 = .ok (.bipush 11, 2) := by decide +kernel
theorem dX9_rmc_157 : decode cX9_rmc 157 = .ok (.ldc 220, 2) := by decide +kernel
theorem dX9_rmc_159 : decode cX9_rmc 159 = .ok (.invokevirtual 195, 3) := by decide +kernel
theorem dX9_rmc_162 : decode cX9_rmc 162 = .ok (.iastore, 1) := by decide +kernel
theorem dX9_rmc_163 : decode cX9_rmc 163 = .ok (.aload_n 0, 1) := by decide +kernel
theorem dX9_rmc_164 : decode cX9_rmc 164 = .ok (.getfield 32, 3) := by decide +kernel
theorem dX9_rmc_167 : decode cX9_rmc 167 = .ok (.bipush 17, 2) := by decide +kernel
theorem dX9_rmc_169 : decode cX9_rmc 169 = .ok (.aload_n 0, 1) := by decide +kernel
theorem dX9_rmc_170 : decode cX9_rmc 170 = .ok (.getfield 113, 3) := by decide +kernel
theorem dX9_rmc_173 : decode cX9_rmc 173 = .ok (.bipush 13, 2) := by decide +kernel
theorem dX9_rmc_175 : decode cX9_rmc 175 = .ok (.if_icmp .ne 14, 3) := by decide +kernel
theorem dX9_rmc_178 : decode cX9_rmc 178 = .ok (.aload_n 0, 1) := by decide +kernel
theorem dX9_rmc_179 : decode cX9_rmc 179 = .ok (.bipush 12, 2) := by decide +kernel
theorem dX9_rmc_181 : decode cX9_rmc 181 = .ok (.ldc 240, 2) := by decide +kernel
theorem dX9_rmc_183 : decode cX9_rmc 183 = .ok (.invokevirtual 190, 3) := by decide +kernel
theorem dX9_rmc_186 : decode cX9_rmc 186 = .ok (.goto 5, 3) := by decide +kernel
theorem dX9_rmc_189 : decode cX9_rmc 189 = .ok (.ldc 73, 2) := by decide +kernel
theorem dX9_rmc_191 : decode cX9_rmc 191 = .ok (.iastore, 1) := by decide +kernel
theorem dX9_rmc_192 : decode cX9_rmc 192 = .ok (.return_, 1) := by decide +kernel
theorem dX9_vtg_0 : decode cX9_vtg 0 = .ok (.aload_n 0, 1) := by decide +kernel
theorem dX9_vtg_1 : decode cX9_vtg 1 = .ok (.getfield 32, 3) := by decide +kernel
theorem dX9_vtg_4 : decode cX9_vtg 4 = .ok (.bipush 12, 2) := by decide +kernel
theorem dX9_vtg_6 : decode cX9_vtg 6 = .ok (.aload_n 0, 1) := by decide +kernel
theorem dX9_vtg_7 : decode cX9_vtg 7 = .ok (.aload_n 0, 1) := by decide +kernel
theorem dX9_vtg_8 : decode cX9_vtg 8 = .ok (.aload_n 0, 1) := by decide +kernel
theorem dX9_vtg_9 : decode cX9_vtg 9 = .ok (.iconst 1, 1) := by decide +kernel
theorem dX9_vtg_10 : decode cX9_vtg 10 = .ok (.iconst 2, 1) := by decide +kernel
theorem dX9_vtg_11 : decode cX9_vtg 11 = .ok (.iconst 3, 1) := by decide +kernel
theorem dX9_vtg_12 : decode cX9_vtg 12 = .ok (.iconst 0, 1) := by decide +kernel
theorem dX9_vtg_13 : decode cX9_vtg 13 = .ok (.invokevirtual 222, 3) := by decide +kernel
theorem dX9_vtg_16 : decode cX9_vtg 16 = .ok (.ldc 233, 2) := by decide +kernel
theorem dX9_vtg_18 : decode cX9_vtg 18 = .ok (.invokevirtual 234, 3) := by decide +kernel
theorem dX9_vtg_21 : decode cX9_vtg 21 = .ok (.iconst 2, 1) := by decide +kernel
theorem dX9_vtg_22 : decode cX9_vtg 22 = .ok (.ldc 242, 2) := by decide +kernel
theorem dX9_vtg_24 : decode cX9_vtg 24 = .ok (.invokevirtual 228, 3) := by decide +kernel
theorem dX9_vtg_27 : decode cX9_vtg 27 = .ok (.iastore, 1) := by decide +kernel
theorem dX9_vtg_28 : decode cX9_vtg 28 = .ok (.aload_n 0, 1) := by decide +kernel
theorem dX9_vtg_29 : decode cX9_vtg 29 = .ok (.getfield 32, 3) := by decide +kernel
theorem dX9_vtg_32 : decode cX9_vtg 32 = .ok (.bipush 15, 2) := by decide +kernel
theorem dX9_vtg_34 : decode cX9_vtg 34 = .ok (.aload_n 0, 1) := by decide +kernel
theorem dX9_vtg_35 : decode cX9_vtg 35 = .ok (.aload_n 0, 1) := by decide +kernel
theorem dX9_vtg_36 : decode cX9_vtg 36 = .ok (.aload_n 0, 1) := by decide +kernel
theorem dX9_vtg_37 : decode cX9_vtg 37 = .ok (.iconst 3, 1) := by decide +kernel
theorem dX9_vtg_38 : decode cX9_vtg 38 = .ok (.iconst 2, 1) := by decide +kernel
theorem dX9_vtg_39 : decode cX9_vtg 39 = .ok (.iconst 3, 1) := by decide +kernel
theorem dX9_vtg_40 : decode cX9_vtg 40 = .ok (.iconst 0, 1) := by decide +kernel
theorem dX9_vtg_41 : decode cX9_vtg 41 = .ok (.invokevirtual 222, 3) := by decide +kernel
theorem dX9_vtg_44 : decode cX9_vtg 44 = .ok (.ldc 233, 2) := by decide +kernel
theorem dX9_vtg_46 : decode cX9_vtg 46 = .ok (.invokevirtual 234, 3) := by decide +kernel
theorem dX9_vtg_49 : decode cX9_vtg 49 = .ok (.iconst 4, 1) := by decide +kernel
theorem dX9_vtg_50 : decode cX9_vtg 50 = .ok (.ldc 226, 2) := by decide +kernel
theorem dX9_vtg_52 : decode cX9_vtg 52 = .ok (.invokevirtual 228, 3) := by decide +kernel
theorem dX9_vtg_55 : decode cX9_vtg 55 = .ok (.iastore, 1) := by decide +kernel
theorem dX9_vtg_56 : decode cX9_vtg 56 = .ok (.aload_n 0, 1) := by decide +kernel
theorem dX9_vtg_57 : decode cX9_vtg 57 = .ok (.getfield 32, 3) := by decide +kernel
theorem dX9_vtg_60 : decode cX9_vtg 60 = .ok (.bipush 11, 2) := by decide +kernel
theorem dX9_vtg_62 : decode cX9_vtg 62 = .ok (.aload_n 0, 1) := by decide +kernel
theorem dX9_vtg_63 : decode cX9_vtg 63 = .ok (.aload_n 0, 1) := by decide +kernel
theorem dX9_vtg_64 : decode cX9_vtg 64 = .ok (.iconst 5, 1) := by decide +kernel
theorem dX9_vtg_65 : decode cX9_vtg 65 = .ok (.iconst 2, 1) := by decide +kernel
theorem dX9_vtg_66 : decode cX9_vtg 66 = .ok (.iconst 4, 1) := by decide +kernel
theorem dX9_vtg_67 : decode cX9_vtg 67 = .ok (.iconst 0, 1) := by decide +kernel
theorem dX9_vtg_68 : decode cX9_vtg 68 = .ok (.invokevirtual 222, 3) := by decide +kernel
theorem dX9_vtg_71 : decode cX9_vtg 71 = .ok (.bipush 6, 2) := by decide +kernel
theorem dX9_vtg_73 : decode cX9_vtg 73 = .ok (.ldc 244, 2) := by decide +kernel
theorem dX9_vtg_75 : decode cX9_vtg 75 = .ok (.invokevirtual 228, 3) := by decide +kernel
theorem dX9_vtg_78 : decode cX9_vtg 78 = .ok (.iastore, 1) := by decide +kernel
theorem dX9_vtg_79 : decode cX9_vtg 79 = .ok (.aload_n 0, 1) := by decide +kernel
theorem dX9_vtg_80 : decode cX9_vtg 80 = .ok (.getfield 32, 3) := by decide +kernel
theorem dX9_vtg_83 : decode cX9_vtg 83 = .ok (.bipush 16, 2) := by decide +kernel
theorem dX9_vtg_85 : decode cX9_vtg 85 = .ok (.aload_n 0, 1) := by decide +kernel
theorem dX9_vtg_86 : decode cX9_vtg 86 = .ok (.aload_n 0, 1) := by decide +kernel
theorem dX9_vtg_87 : decode cX9_vtg 87 = .ok (.bipush 7, 2) := by decide +kernel
theorem dX9_vtg_89 : decode cX9_vtg 89 = .ok (.iconst 2, 1) := by decide +kernel
theorem dX9_vtg_90 : decode cX9_vtg 90 = .ok (.iconst 4, 1) := by decide +kernel
theorem dX9_vtg_91 : decode cX9_vtg 91 = .ok (.iconst 0, 1) := by decide +kernel
theorem dX9_vtg_92 : decode cX9_vtg 92 = .ok (.invokevirtual 222, 3) := by decide +kernel
theorem dX9_vtg_95 : decode cX9_vtg 95 = .ok (.bipush 8, 2) := by decide +kernel
theorem dX9_vtg_97 : decode cX9_vtg 97 = .ok (.ldc 246, 2) := by decide +kernel
theorem dX9_vtg_99 : decode cX9_vtg 99 = .ok (.invokevirtual 228, 3) := by decide +kernel
theorem dX9_vtg_102 : decode cX9_vtg 102 = .ok (.iastore, 1) := by decide +kernel
theorem dX9_vtg_103 : decode cX9_vtg 103 = .ok (.aload_n 0, 1) := by decide +kernel
theorem dX9_vtg_104 : decode cX9_vtg 104 = .ok (.getfield 32, 3) := by decide +kernel
theorem dX9_vtg_107 : decode cX9_vtg 107 = .ok (.bipush 17, 2) := by decide +kernel
theorem dX9_vtg_109 : decode cX9_vtg 109 = .ok (.aload_n 0, 1) := by decide +kernel
theorem dX9_vtg_110 : decode cX9_vtg 110 = .ok (.getfield 113, 3) := by decide +kernel
theorem dX9_vtg_113 : decode cX9_vtg 113 = .ok (.bipush 10, 2) := by decide +kernel
theorem dX9_vtg_115 : decode cX9_vtg 115 = .ok (.if_icmp .ne 14, 3) := by decide +kernel
theorem dX9_vtg_118 : decode cX9_vtg 118 = .ok (.aload_n 0, 1) := by decide +kernel
theorem dX9_vtg_119 : decode cX9_vtg 119 = .ok (.bipush 9, 2) := by decide +kernel
theorem dX9_vtg_121 : decode cX9_vtg 121 = .ok (.ldc 240, 2) := by decide +kernel
theorem dX9_vtg_123 : decode cX9_vtg 123 = .ok (.invokevirtual 190, 3) := by decide +kernel
theorem dX9_vtg_126 : decode cX9_vtg 126 = .ok (.goto 5, 3) := by decide +kernel
theorem dX9_vtg_129 : decode cX9_vtg 129 = .ok (.ldc 73, 2) := by decide +kernel
theorem dX9_vtg_131 : decode cX9_vtg 131 = .ok (.iastore, 1) := by decide +kernel
theorem dX9_vtg_132 : decode cX9_vtg 132 = .ok (.return_, 1) := by decide +kernel
theorem dX9_part_0 : decode cX9_part 0 = .ok (.aload_n 0, 1) := by decide +kernel
theorem dX9_part_1 : decode cX9_part 1 = .ok (.aload_n 0, 1) := by decide +kernel
theorem dX9_part_2 : decode cX9_part 2 = .ok (.iconst 1, 1) := by decide +kernel
theorem dX9_part_3 : decode cX9_part 3 = .ok (.iconst 1, 1) := by decide +kernel
theorem dX9_part_4 : decode cX9_part 4 = .ok (.invokevirtual 180, 3) := by decide +kernel
theorem dX9_part_7 : decode cX9_part 7 = .ok (.putfield 248, 3) := by decide +kernel
theorem dX9_part_10 : decode cX9_part 10 = .ok (.aload_n 0, 1) := by decide +kernel
theorem dX9_part_11 : decode cX9_part 11 = .ok (.aload_n 0, 1) := by decide +kernel
theorem dX9_part_12 : decode cX9_part 12 = .ok (.iconst 2, 1) := by decide +kernel
theorem dX9_part_13 : decode cX9_part 13 = .ok (.iconst 1, 1) := by decide +kernel
theorem dX9_part_14 : decode cX9_part 14 = .ok (.invokevirtual 180, 3) := by decide +kernel
theorem dX9_part_17 : decode cX9_part 17 = .ok (.putfield 251, 3) := by decide +kernel
theorem dX9_part_20 : decode cX9_part 20 = .ok (.aload_n 0, 1) := by decide +kernel
theorem dX9_part_21 : decode cX9_part 21 = .ok (.iconst 3, 1) := by decide +kernel
theorem dX9_part_22 : decode cX9_part 22 = .ok (.iconst 1, 1) := by decide +kernel
theorem dX9_part_23 : decode cX9_part 23 = .ok (.invokevirtual 180, 3) := by decide +kernel
theorem dX9_part_26 : decode cX9_part 26 = .ok (.istore_n 1, 1) := by decide +kernel
theorem dX9_part_27 : decode cX9_part 27 = .ok (.aload_n 0, 1) := by decide +kernel
theorem dX9_part_28 : decode cX9_part 28 = .ok (.iload_n 1, 1) := by decide +kernel
theorem dX9_part_29 : decode cX9_part 29 = .ok (.ldc 73, 2) := by decide +kernel
theorem dX9_part_31 : decode cX9_part 31 = .ok (.if_icmp .ne 8, 3) := by decide +kernel
theorem dX9_part_34 : decode cX9_part 34 = .ok (.bipush 10, 2) := by decide +kernel
theorem dX9_part_36 : decode cX9_part 36 = .ok (.goto 4, 3) := by decide +kernel
theorem dX9_part_39 : decode cX9_part 39 = .ok (.iload_n 1, 1) := by decide +kernel
theorem dX9_part_40 : decode cX9_part 40 = .ok (.putfield 254, 3) := by decide +kernel
theorem dX9_part_43 : decode cX9_part 43 = .ok (.aload_n 0, 1) := by decide +kernel
theorem dX9_part_44 : decode cX9_part 44 = .ok (.iconst 4, 1) := by decide +kernel
theorem dX9_part_45 : decode cX9_part 45 = .ok (.ldc_w 257, 3) := by decide +kernel
theorem dX9_part_48 : decode cX9_part 48 = .ok (.invokevirtual 190, 3) := by decide +kernel
theorem dX9_part_51 : decode cX9_part 51 = .ok (.istore_n 2, 1) := by decide +kernel
theorem dX9_part_52 : decode cX9_part 52 = .ok (.aload_n 0, 1) := by decide +kernel
theorem dX9_part_53 : decode cX9_part 53 = .ok (.aload_n 0, 1) := by decide +kernel
theorem dX9_part_54 : decode cX9_part 54 = .ok (.bipush 6, 2) := by decide +kernel
theorem dX9_part_56 : decode cX9_part 56 = .ok (.iconst 1, 1) := by decide +kernel
theorem dX9_part_57 : decode cX9_part 57 = .ok (.invokevirtual 180, 3) := by decide +kernel
theorem dX9_part_60 : decode cX9_part 60 = .ok (.putfield 259, 3) := by decide +kernel
theorem dX9_part_63 : decode cX9_part 63 = .ok (.aload_n 0, 1) := by decide +kernel
theorem dX9_part_64 : decode cX9_part 64 = .ok (.getfield 248, 3) := by decide +kernel
theorem dX9_part_67 : decode cX9_part 67 = .ok (.ldc 73, 2) := by decide +kernel
theorem dX9_part_69 : decode cX9_part 69 = .ok (.if_icmp .eq 70, 3) := by decide +kernel
theorem dX9_part_72 : decode cX9_part 72 = .ok (.aload_n 0, 1) := by decide +kernel
theorem dX9_part_73 : decode cX9_part 73 = .ok (.getfield 251, 3) := by decide +kernel
theorem dX9_part_76 : decode cX9_part 76 = .ok (.ldc 73, 2) := by decide +kernel
theorem dX9_part_78 : decode cX9_part 78 = .ok (.if_icmp .eq 61, 3) := by decide +kernel
theorem dX9_part_81 : decode cX9_part 81 = .ok (.aload_n 0, 1) := by decide +kernel
theorem dX9_part_82 : decode cX9_part 82 = .ok (.getfield 259, 3) := by decide +kernel
theorem dX9_part_85 : decode cX9_part 85 = .ok (.ldc 73, 2) := by decide +kernel
theorem dX9_part_87 : decode cX9_part 87 = .ok (.if_icmp .eq 52, 3) := by decide +kernel
theorem dX9_part_90 : decode cX9_part 90 = .ok (.aload_n 0, 1) := by decide +kernel
theorem dX9_part_91 : decode cX9_part 91 = .ok (.getfield 248, 3) := by decide +kernel
theorem dX9_part_94 : decode cX9_part 94 = .ok (.iconst 1, 1) := by decide +kernel
theorem dX9_part_95 : decode cX9_part 95 = .ok (.if_icmp .lt 44, 3) := by decide +kernel
theorem dX9_part_98 : decode cX9_part 98 = .ok (.aload_n 0, 1) := by decide +kernel
theorem dX9_part_99 : decode cX9_part 99 = .ok (.getfield 251, 3) := by decide +kernel
theorem dX9_part_102 : decode cX9_part 102 = .ok (.i2l, 1) := by decide +kernel
theorem dX9_part_103 : decode cX9_part 103 = .ok (.lconst 1, 1) := by decide +kernel
theorem dX9_part_104 : decode cX9_part 104 = .ok (.aload_n 0, 1) := by decide +kernel
theorem dX9_part_105 : decode cX9_part 105 = .ok (.getfield 248, 3) := by decide +kernel
theorem dX9_part_108 : decode cX9_part 108 = .ok (.i2l, 1) := by decide +kernel
theorem dX9_part_109 : decode cX9_part 109 = .ok (.invokestatic 74, 3) := by decide +kernel
theorem dX9_part_112 : decode cX9_part 112 = .ok (.ifCond .eq 27, 3) := by decide +kernel
theorem dX9_part_115 : decode cX9_part 115 = .ok (.aload_n 0, 1) := by decide +kernel
theorem dX9_part_116 : decode cX9_part 116 = .ok (.getfield 259, 3) := by decide +kernel
theorem dX9_part_119 : decode cX9_part 119 = .ok (.iconst 5, 1) := by decide +kernel
theorem dX9_part_120 : decode cX9_part 120 = .ok (.if_icmp .gt 19, 3) := by decide +kernel
theorem dX9_part_123 : decode cX9_part 123 = .ok (.aload_n 0, 1) := by decide +kernel
theorem dX9_part_124 : decode cX9_part 124 = .ok (.iconst 5, 1) := by decide +kernel
theorem dX9_part_125 : decode cX9_part 125 = .ok (.invokevirtual 153, 3) := by decide +kernel
theorem dX9_part_128 : decode cX9_part 128 = .ok (.i2l, 1) := by decide +kernel
theorem dX9_part_129 : decode cX9_part 129 = .ok (.lconst 1, 1) := by decide +kernel
theorem dX9_part_130 : decode cX9_part 130 = .ok (.ldc2_w 262, 3) := by decide +kernel
theorem dX9_part_133 : decode cX9_part 133 = .ok (.invokestatic 74, 3) := by decide +kernel
theorem dX9_part_136 : decode cX9_part 136 = .ok (.ifCond .ne 8, 3) := by decide +kernel
theorem dX9_part_139 : decode cX9_part 139 = .ok (.aload_n 0, 1) := by decide +kernel
theorem dX9_part_140 : decode cX9_part 140 = .ok (.iconst 0, 1) := by decide +kernel
theorem dX9_part_141 : decode cX9_part 141 = .ok (.putfield 149, 3) := by decide +kernel
theorem dX9_part_144 : decode cX9_part 144 = .ok (.iconst 0, 1) := by decide +kernel
theorem dX9_part_145 : decode cX9_part 145 = .ok (.istore_n 3, 1) := by decide +kernel
theorem dX9_part_146 : decode cX9_part 146 = .ok (.iload_n 3, 1) := by decide +kernel
theorem dX9_part_147 : decode cX9_part 147 = .ok (.aload_n 0, 1) := by decide +kernel
theorem dX9_part_148 : decode cX9_part 148 = .ok (.iconst 5, 1) := by decide +kernel
theorem dX9_part_149 : decode cX9_part 149 = .ok (.invokevirtual 153, 3) := by decide +kernel
theorem dX9_part_152 : decode cX9_part 152 = .ok (.if_icmp .ge 52, 3) := by decide +kernel
theorem dX9_part_155 : decode cX9_part 155 = .ok (.aload_n 0, 1) := by decide +kernel
theorem dX9_part_156 : decode cX9_part 156 = .ok (.iconst 5, 1) := by decide +kernel
theorem dX9_part_157 : decode cX9_part 157 = .ok (.iload_n 3, 1) := by decide +kernel
theorem dX9_part_158 : decode cX9_part 158 = .ok (.invokevirtual 156, 3) := by decide +kernel
theorem dX9_part_161 : decode cX9_part 161 = .ok (.i2l, 1) := by decide +kernel
theorem dX9_part_162 : decode cX9_part 162 = .ok (.ldc2_w 78, 3) := by decide +kernel
theorem dX9_part_165 : decode cX9_part 165 = .ok (.ldc2_w 264, 3) := by decide +kernel
theorem dX9_part_168 : decode cX9_part 168 = .ok (.invokestatic 74, 3) := by decide +kernel
theorem dX9_part_171 : decode cX9_part 171 = .ok (.ifCond .ne 27, 3) := by decide +kernel
theorem dX9_part_174 : decode cX9_part 174 = .ok (.aload_n 0, 1) := by decide +kernel
theorem dX9_part_175 : decode cX9_part 175 = .ok (.iconst 5, 1) := by decide +kernel
theorem dX9_part_176 : decode cX9_part 176 = .ok (.iload_n 3, 1) := by decide +kernel
theorem dX9_part_177 : decode cX9_part 177 = .ok (.invokevirtual 156, 3) := by decide +kernel
theorem dX9_part_180 : decode cX9_part 180 = .ok (.i2l, 1) := by decide +kernel
theorem dX9_part_181 : decode cX9_part 181 = .ok (.ldc2_w 266, 3) := by decide +kernel
theorem dX9_part_184 : decode cX9_part 184 = .ok (.ldc2_w 268, 3) := by decide +kernel
theorem dX9_part_187 : decode cX9_part 187 = .ok (.invokestatic 74, 3) := by decide +kernel
theorem dX9_part_190 : decode cX9_part 190 = .ok (.ifCond .ne 8, 3) := by decide +kernel
theorem dX9_part_193 : decode cX9_part 193 = .ok (.aload_n 0, 1) := by decide +kernel
theorem dX9_part_194 : decode cX9_part 194 = .ok (.iconst 0, 1) := by decide +kernel
theorem dX9_part_195 : decode cX9_part 195 = .ok (.putfield 149, 3) := by decide +kernel
theorem dX9_part_198 : decode cX9_part 198 = .ok (.iinc 3 1, 3) := by decide +kernel
theorem dX9_part_201 : decode cX9_part 201 = .ok (.goto (-55), 3) := by decide +kernel
theorem dX9_part_204 : decode cX9_part 204 = .ok (.return_, 1) := by decide +kernel
theorem dX9_taken_0 : decode cX9_taken 0 = .ok (.iload_n 1, 1) := by decide +kernel
theorem dX9_taken_1 : decode cX9_taken 1 = .ok (.tableswitch 81 0 2 #[27, 37, 62], 27) := by decide +kernel
theorem dX9_taken_28 : decode cX9_taken 28 = .ok (.aload_n 0, 1) := by decide +kernel
theorem dX9_taken_29 : decode cX9_taken 29 = .ok (.iconst 0, 1) := by decide +kernel
theorem dX9_taken_30 : decode cX9_taken 30 = .ok (.bipush 9, 2) := by decide +kernel
theorem dX9_taken_32 : decode cX9_taken 32 = .ok (.invokevirtual 270, 3) := by decide +kernel
theorem dX9_taken_35 : decode cX9_taken 35 = .ok (.goto 51, 3) := by decide +kernel
theorem dX9_taken_38 : decode cX9_taken 38 = .ok (.aload_n 0, 1) := by decide +kernel
theorem dX9_taken_39 : decode cX9_taken 39 = .ok (.iconst 0, 1) := by decide +kernel
theorem dX9_taken_40 : decode cX9_taken 40 = .ok (.iconst 2, 1) := by decide +kernel
theorem dX9_taken_41 : decode cX9_taken 41 = .ok (.invokevirtual 270, 3) := by decide +kernel
theorem dX9_taken_44 : decode cX9_taken 44 = .ok (.aload_n 0, 1) := by decide +kernel
theorem dX9_taken_45 : decode cX9_taken 45 = .ok (.bipush 10, 2) := by decide +kernel
theorem dX9_taken_47 : decode cX9_taken 47 = .ok (.bipush 14, 2) := by decide +kernel
theorem dX9_taken_49 : decode cX9_taken 49 = .ok (.invokevirtual 270, 3) := by decide +kernel
theorem dX9_taken_52 : decode cX9_taken 52 = .ok (.aload_n 0, 1) := by decide +kernel
theorem dX9_taken_53 : decode cX9_taken 53 = .ok (.bipush 17, 2) := by decide +kernel
theorem dX9_taken_55 : decode cX9_taken 55 = .ok (.bipush 17, 2) := by decide +kernel
theorem dX9_taken_57 : decode cX9_taken 57 = .ok (.invokevirtual 270, 3) := by decide +kernel
theorem dX9_taken_60 : decode cX9_taken 60 = .ok (.goto 26, 3) := by decide +kernel
theorem dX9_taken_63 : decode cX9_taken 63 = .ok (.aload_n 0, 1) := by decide +kernel
theorem dX9_taken_64 : decode cX9_taken 64 = .ok (.bipush 11, 2) := by decide +kernel
theorem dX9_taken_66 : decode cX9_taken 66 = .ok (.bipush 12, 2) := by decide +kernel
theorem dX9_taken_68 : decode cX9_taken 68 = .ok (.invokevirtual 270, 3) := by decide +kernel
theorem dX9_taken_71 : decode cX9_taken 71 = .ok (.aload_n 0, 1) := by decide +kernel
theorem dX9_taken_72 : decode cX9_taken 72 = .ok (.bipush 15, 2) := by decide +kernel
theorem dX9_taken_74 : decode cX9_taken 74 = .ok (.bipush 17, 2) := by decide +kernel
theorem dX9_taken_76 : decode cX9_taken 76 = .ok (.invokevirtual 270, 3) := by decide +kernel
theorem dX9_taken_79 : decode cX9_taken 79 = .ok (.goto 7, 3) := by decide +kernel
theorem dX9_taken_82 : decode cX9_taken 82 = .ok (.aload_n 0, 1) := by decide +kernel
theorem dX9_taken_83 : decode cX9_taken 83 = .ok (.invokevirtual 274, 3) := by decide +kernel
theorem dX9_taken_86 : decode cX9_taken 86 = .ok (.return_, 1) := by decide +kernel
theorem dX9_keep_0 : decode cX9_keep 0 = .ok (.iload_n 1, 1) := by decide +kernel
theorem dX9_keep_1 : decode cX9_keep 1 = .ok (.istore_n 3, 1) := by decide +kernel
theorem dX9_keep_2 : decode cX9_keep 2 = .ok (.iload_n 3, 1) := by decide +kernel
theorem dX9_keep_3 : decode cX9_keep 3 = .ok (.iload_n 2, 1) := by decide +kernel
theorem dX9_keep_4 : decode cX9_keep 4 = .ok (.if_icmp .gt 21, 3) := by decide +kernel
theorem dX9_keep_7 : decode cX9_keep 7 = .ok (.aload_n 0, 1) := by decide +kernel
theorem dX9_keep_8 : decode cX9_keep 8 = .ok (.getfield 35, 3) := by decide +kernel
theorem dX9_keep_11 : decode cX9_keep 11 = .ok (.iload_n 3, 1) := by decide +kernel
theorem dX9_keep_12 : decode cX9_keep 12 = .ok (.aload_n 0, 1) := by decide +kernel
theorem dX9_keep_13 : decode cX9_keep 13 = .ok (.getfield 32, 3) := by decide +kernel
theorem dX9_keep_16 : decode cX9_keep 16 = .ok (.iload_n 3, 1) := by decide +kernel
theorem dX9_keep_17 : decode cX9_keep 17 = .ok (.iaload, 1) := by decide +kernel
theorem dX9_keep_18 : decode cX9_keep 18 = .ok (.iastore, 1) := by decide +kernel
theorem dX9_keep_19 : decode cX9_keep 19 = .ok (.iinc 3 1, 3) := by decide +kernel
theorem dX9_keep_22 : decode cX9_keep 22 = .ok (.goto (-20), 3) := by decide +kernel
theorem dX9_keep_25 : decode cX9_keep 25 = .ok (.return_, 1) := by decide +kernel
theorem dX9_parted_0 : decode cX9_parted 0 = .ok (.aload_n 0, 1) := by decide +kernel
theorem dX9_parted_1 : decode cX9_parted 1 = .ok (.getfield 251, 3) := by decide +kernel
theorem dX9_parted_4 : decode cX9_parted 4 = .ok (.iconst 1, 1) := by decide +kernel
theorem dX9_parted_5 : decode cX9_parted 5 = .ok (.if_icmp .ne 53, 3) := by decide +kernel
theorem dX9_parted_8 : decode cX9_parted 8 = .ok (.aload_n 0, 1) := by decide +kernel
theorem dX9_parted_9 : decode cX9_parted 9 = .ok (.getfield 23, 3) := by decide +kernel
theorem dX9_parted_12 : decode cX9_parted 12 = .ok (.bipush 7, 2) := by decide +kernel
theorem dX9_parted_14 : decode cX9_parted 14 = .ok (.dup2, 1) := by decide +kernel
theorem dX9_parted_15 : decode cX9_parted 15 = .ok (.iaload, 1) := by decide +kernel
theorem dX9_parted_16 : decode cX9_parted 16 = .ok (.aload_n 0, 1) := by decide +kernel
theorem dX9_parted_17 : decode cX9_parted 17 = .ok (.getfield 41, 3) := by decide +kernel
theorem dX9_parted_20 : decode cX9_parted 20 = .ok (.aload_n 0, 1) := by decide +kernel
theorem dX9_parted_21 : decode cX9_parted 21 = .ok (.getfield 254, 3) := by decide +kernel
theorem dX9_parted_24 : decode cX9_parted 24 = .ok (.iaload, 1) := by decide +kernel
theorem dX9_parted_25 : decode cX9_parted 25 = .ok (.ifCond .le 7, 3) := by decide +kernel
theorem dX9_parted_28 : decode cX9_parted 28 = .ok (.iconst 1, 1) := by decide +kernel
theorem dX9_parted_29 : decode cX9_parted 29 = .ok (.goto 4, 3) := by decide +kernel
theorem dX9_parted_32 : decode cX9_parted 32 = .ok (.iconst 0, 1) := by decide +kernel
theorem dX9_parted_33 : decode cX9_parted 33 = .ok (.iadd, 1) := by decide +kernel
theorem dX9_parted_34 : decode cX9_parted 34 = .ok (.iastore, 1) := by decide +kernel
theorem dX9_parted_35 : decode cX9_parted 35 = .ok (.aload_n 0, 1) := by decide +kernel
theorem dX9_parted_36 : decode cX9_parted 36 = .ok (.getfield 41, 3) := by decide +kernel
theorem dX9_parted_39 : decode cX9_parted 39 = .ok (.aload_n 0, 1) := by decide +kernel
theorem dX9_parted_40 : decode cX9_parted 40 = .ok (.getfield 254, 3) := by decide +kernel
theorem dX9_parted_43 : decode cX9_parted 43 = .ok (.iconst 0, 1) := by decide +kernel
theorem dX9_parted_44 : decode cX9_parted 44 = .ok (.iastore, 1) := by decide +kernel
theorem dX9_parted_45 : decode cX9_parted 45 = .ok (.aload_n 0, 1) := by decide +kernel
theorem dX9_parted_46 : decode cX9_parted 46 = .ok (.getfield 44, 3) := by decide +kernel
theorem dX9_parted_49 : decode cX9_parted 49 = .ok (.aload_n 0, 1) := by decide +kernel
theorem dX9_parted_50 : decode cX9_parted 50 = .ok (.getfield 254, 3) := by decide +kernel
theorem dX9_parted_53 : decode cX9_parted 53 = .ok (.iconst 0, 1) := by decide +kernel
theorem dX9_parted_54 : decode cX9_parted 54 = .ok (.iastore, 1) := by decide +kernel
theorem dX9_parted_55 : decode cX9_parted 55 = .ok (.goto 59, 3) := by decide +kernel
theorem dX9_parted_58 : decode cX9_parted 58 = .ok (.aload_n 0, 1) := by decide +kernel
theorem dX9_parted_59 : decode cX9_parted 59 = .ok (.getfield 38, 3) := by decide +kernel
theorem dX9_parted_62 : decode cX9_parted 62 = .ok (.aload_n 0, 1) := by decide +kernel
theorem dX9_parted_63 : decode cX9_parted 63 = .ok (.getfield 254, 3) := by decide +kernel
theorem dX9_parted_66 : decode cX9_parted 66 = .ok (.iaload, 1) := by decide +kernel
theorem dX9_parted_67 : decode cX9_parted 67 = .ok (.aload_n 0, 1) := by decide +kernel
theorem dX9_parted_68 : decode cX9_parted 68 = .ok (.getfield 248, 3) := by decide +kernel
theorem dX9_parted_71 : decode cX9_parted 71 = .ok (.if_icmp .ne 21, 3) := by decide +kernel
theorem dX9_parted_74 : decode cX9_parted 74 = .ok (.aload_n 0, 1) := by decide +kernel
theorem dX9_parted_75 : decode cX9_parted 75 = .ok (.getfield 41, 3) := by decide +kernel
theorem dX9_parted_78 : decode cX9_parted 78 = .ok (.aload_n 0, 1) := by decide +kernel
theorem dX9_parted_79 : decode cX9_parted 79 = .ok (.getfield 254, 3) := by decide +kernel
theorem dX9_parted_82 : decode cX9_parted 82 = .ok (.iaload, 1) := by decide +kernel
theorem dX9_parted_83 : decode cX9_parted 83 = .ok (.aload_n 0, 1) := by decide +kernel
theorem dX9_parted_84 : decode cX9_parted 84 = .ok (.getfield 251, 3) := by decide +kernel
theorem dX9_parted_87 : decode cX9_parted 87 = .ok (.iconst 1, 1) := by decide +kernel
theorem dX9_parted_88 : decode cX9_parted 88 = .ok (.isub, 1) := by decide +kernel
theorem dX9_parted_89 : decode cX9_parted 89 = .ok (.if_icmp .eq 25, 3) := by decide +kernel
theorem dX9_parted_92 : decode cX9_parted 92 = .ok (.aload_n 0, 1) := by decide +kernel
theorem dX9_parted_93 : decode cX9_parted 93 = .ok (.getfield 23, 3) := by decide +kernel
theorem dX9_parted_96 : decode cX9_parted 96 = .ok (.bipush 7, 2) := by decide +kernel
theorem dX9_parted_98 : decode cX9_parted 98 = .ok (.dup2, 1) := by decide +kernel
theorem dX9_parted_99 : decode cX9_parted 99 = .ok (.iaload, 1) := by decide +kernel
theorem dX9_parted_100 : decode cX9_parted 100 = .ok (.iconst 1, 1) := by decide +kernel
theorem dX9_parted_101 : decode cX9_parted 101 = .ok (.iadd, 1) := by decide +kernel
theorem dX9_parted_102 : decode cX9_parted 102 = .ok (.iastore, 1) := by decide +kernel
theorem dX9_parted_103 : decode cX9_parted 103 = .ok (.aload_n 0, 1) := by decide +kernel
theorem dX9_parted_104 : decode cX9_parted 104 = .ok (.getfield 41, 3) := by decide +kernel
theorem dX9_parted_107 : decode cX9_parted 107 = .ok (.aload_n 0, 1) := by decide +kernel
theorem dX9_parted_108 : decode cX9_parted 108 = .ok (.getfield 254, 3) := by decide +kernel
theorem dX9_parted_111 : decode cX9_parted 111 = .ok (.iconst 0, 1) := by decide +kernel
theorem dX9_parted_112 : decode cX9_parted 112 = .ok (.iastore, 1) := by decide +kernel
theorem dX9_parted_113 : decode cX9_parted 113 = .ok (.return_, 1) := by decide +kernel
theorem dX9_parted_114 : decode cX9_parted 114 = .ok (.aload_n 0, 1) := by decide +kernel
theorem dX9_parted_115 : decode cX9_parted 115 = .ok (.getfield 38, 3) := by decide +kernel
theorem dX9_parted_118 : decode cX9_parted 118 = .ok (.aload_n 0, 1) := by decide +kernel
theorem dX9_parted_119 : decode cX9_parted 119 = .ok (.getfield 254, 3) := by decide +kernel
theorem dX9_parted_122 : decode cX9_parted 122 = .ok (.aload_n 0, 1) := by decide +kernel
theorem dX9_parted_123 : decode cX9_parted 123 = .ok (.getfield 248, 3) := by decide +kernel
theorem dX9_parted_126 : decode cX9_parted 126 = .ok (.iastore, 1) := by decide +kernel
theorem dX9_parted_127 : decode cX9_parted 127 = .ok (.aload_n 0, 1) := by decide +kernel
theorem dX9_parted_128 : decode cX9_parted 128 = .ok (.getfield 41, 3) := by decide +kernel
theorem dX9_parted_131 : decode cX9_parted 131 = .ok (.aload_n 0, 1) := by decide +kernel
theorem dX9_parted_132 : decode cX9_parted 132 = .ok (.getfield 254, 3) := by decide +kernel
theorem dX9_parted_135 : decode cX9_parted 135 = .ok (.dup2, 1) := by decide +kernel
theorem dX9_parted_136 : decode cX9_parted 136 = .ok (.iaload, 1) := by decide +kernel
theorem dX9_parted_137 : decode cX9_parted 137 = .ok (.iconst 1, 1) := by decide +kernel
theorem dX9_parted_138 : decode cX9_parted 138 = .ok (.iadd, 1) := by decide +kernel
theorem dX9_parted_139 : decode cX9_parted 139 = .ok (.iastore, 1) := by decide +kernel
theorem dX9_parted_140 : decode cX9_parted 140 = .ok (.bipush 6, 2) := by decide +kernel
theorem dX9_parted_142 : decode cX9_parted 142 = .ok (.aload_n 0, 1) := by decide +kernel
theorem dX9_parted_143 : decode cX9_parted 143 = .ok (.iconst 5, 1) := by decide +kernel
theorem dX9_parted_144 : decode cX9_parted 144 = .ok (.invokevirtual 153, 3) := by decide +kernel
theorem dX9_parted_147 : decode cX9_parted 147 = .ok (.imul, 1) := by decide +kernel
theorem dX9_parted_148 : decode cX9_parted 148 = .ok (.aload_n 0, 1) := by decide +kernel
theorem dX9_parted_149 : decode cX9_parted 149 = .ok (.getfield 259, 3) := by decide +kernel
theorem dX9_parted_152 : decode cX9_parted 152 = .ok (.isub, 1) := by decide +kernel
theorem dX9_parted_153 : decode cX9_parted 153 = .ok (.istore_n 1, 1) := by decide +kernel
theorem dX9_parted_154 : decode cX9_parted 154 = .ok (.iconst 0, 1) := by decide +kernel
theorem dX9_parted_155 : decode cX9_parted 155 = .ok (.istore_n 2, 1) := by decide +kernel
theorem dX9_parted_156 : decode cX9_parted 156 = .ok (.iload_n 2, 1) := by decide +kernel
theorem dX9_parted_157 : decode cX9_parted 157 = .ok (.iload_n 1, 1) := by decide +kernel
theorem dX9_parted_158 : decode cX9_parted 158 = .ok (.if_icmp .ge 83, 3) := by decide +kernel
theorem dX9_parted_161 : decode cX9_parted 161 = .ok (.aload_n 0, 1) := by decide +kernel
theorem dX9_parted_162 : decode cX9_parted 162 = .ok (.iconst 5, 1) := by decide +kernel
theorem dX9_parted_163 : decode cX9_parted 163 = .ok (.iload_n 2, 1) := by decide +kernel
theorem dX9_parted_164 : decode cX9_parted 164 = .ok (.bipush 6, 2) := by decide +kernel
theorem dX9_parted_166 : decode cX9_parted 166 = .ok (.idiv, 1) := by decide +kernel
theorem dX9_parted_167 : decode cX9_parted 167 = .ok (.invokevirtual 156, 3) := by decide +kernel
theorem dX9_parted_170 : decode cX9_parted 170 = .ok (.bipush 48, 2) := by decide +kernel
theorem dX9_parted_172 : decode cX9_parted 172 = .ok (.isub, 1) := by decide +kernel
theorem dX9_parted_173 : decode cX9_parted 173 = .ok (.istore_n 3, 1) := by decide +kernel
theorem dX9_parted_174 : decode cX9_parted 174 = .ok (.iload_n 3, 1) := by decide +kernel
theorem dX9_parted_175 : decode cX9_parted 175 = .ok (.bipush 40, 2) := by decide +kernel
theorem dX9_parted_177 : decode cX9_parted 177 = .ok (.if_icmp .le 10, 3) := by decide +kernel
theorem dX9_parted_180 : decode cX9_parted 180 = .ok (.iload_n 3, 1) := by decide +kernel
theorem dX9_parted_181 : decode cX9_parted 181 = .ok (.bipush 8, 2) := by decide +kernel
theorem dX9_parted_183 : decode cX9_parted 183 = .ok (.isub, 1) := by decide +kernel
theorem dX9_parted_184 : decode cX9_parted 184 = .ok (.goto 4, 3) := by decide +kernel
theorem dX9_parted_187 : decode cX9_parted 187 = .ok (.iload_n 3, 1) := by decide +kernel
theorem dX9_parted_188 : decode cX9_parted 188 = .ok (.istore 4, 2) := by decide +kernel
theorem dX9_parted_190 : decode cX9_parted 190 = .ok (.aload_n 0, 1) := by decide +kernel
theorem dX9_parted_191 : decode cX9_parted 191 = .ok (.getfield 48, 3) := by decide +kernel
theorem dX9_parted_194 : decode cX9_parted 194 = .ok (.aload_n 0, 1) := by decide +kernel
theorem dX9_parted_195 : decode cX9_parted 195 = .ok (.getfield 254, 3) := by decide +kernel
theorem dX9_parted_198 : decode cX9_parted 198 = .ok (.sipush 3240, 3) := by decide +kernel
theorem dX9_parted_201 : decode cX9_parted 201 = .ok (.imul, 1) := by decide +kernel
theorem dX9_parted_202 : decode cX9_parted 202 = .ok (.aload_n 0, 1) := by decide +kernel
theorem dX9_parted_203 : decode cX9_parted 203 = .ok (.getfield 44, 3) := by decide +kernel
theorem dX9_parted_206 : decode cX9_parted 206 = .ok (.aload_n 0, 1) := by decide +kernel
theorem dX9_parted_207 : decode cX9_parted 207 = .ok (.getfield 254, 3) := by decide +kernel
theorem dX9_parted_210 : decode cX9_parted 210 = .ok (.iaload, 1) := by decide +kernel
theorem dX9_parted_211 : decode cX9_parted 211 = .ok (.iadd, 1) := by decide +kernel
theorem dX9_parted_212 : decode cX9_parted 212 = .ok (.iload_n 2, 1) := by decide +kernel
theorem dX9_parted_213 : decode cX9_parted 213 = .ok (.iadd, 1) := by decide +kernel
theorem dX9_parted_214 : decode cX9_parted 214 = .ok (.iload 4, 2) := by decide +kernel
theorem dX9_parted_216 : decode cX9_parted 216 = .ok (.iconst 5, 1) := by decide +kernel
theorem dX9_parted_217 : decode cX9_parted 217 = .ok (.iload_n 2, 1) := by decide +kernel
theorem dX9_parted_218 : decode cX9_parted 218 = .ok (.bipush 6, 2) := by decide +kernel
theorem dX9_parted_220 : decode cX9_parted 220 = .ok (.irem, 1) := by decide +kernel
theorem dX9_parted_221 : decode cX9_parted 221 = .ok (.isub, 1) := by decide +kernel
theorem dX9_parted_222 : decode cX9_parted 222 = .ok (.ishr, 1) := by decide +kernel
theorem dX9_parted_223 : decode cX9_parted 223 = .ok (.iconst 1, 1) := by decide +kernel
theorem dX9_parted_224 : decode cX9_parted 224 = .ok (.iand, 1) := by decide +kernel
theorem dX9_parted_225 : decode cX9_parted 225 = .ok (.iconst 1, 1) := by decide +kernel
theorem dX9_parted_226 : decode cX9_parted 226 = .ok (.if_icmp .ne 7, 3) := by decide +kernel
theorem dX9_parted_229 : decode cX9_parted 229 = .ok (.iconst 1, 1) := by decide +kernel
theorem dX9_parted_230 : decode cX9_parted 230 = .ok (.goto 4, 3) := by decide +kernel
theorem dX9_parted_233 : decode cX9_parted 233 = .ok (.iconst 0, 1) := by decide +kernel
theorem dX9_parted_234 : decode cX9_parted 234 = .ok (.bastore, 1) := by decide +kernel
theorem dX9_parted_235 : decode cX9_parted 235 = .ok (.iinc 2 1, 3) := by decide +kernel
theorem dX9_parted_238 : decode cX9_parted 238 = .ok (.goto (-82), 3) := by decide +kernel
theorem dX9_parted_241 : decode cX9_parted 241 = .ok (.aload_n 0, 1) := by decide +kernel
theorem dX9_parted_242 : decode cX9_parted 242 = .ok (.getfield 44, 3) := by decide +kernel
theorem dX9_parted_245 : decode cX9_parted 245 = .ok (.aload_n 0, 1) := by decide +kernel
theorem dX9_parted_246 : decode cX9_parted 246 = .ok (.getfield 254, 3) := by decide +kernel
theorem dX9_parted_249 : decode cX9_parted 249 = .ok (.dup2, 1) := by decide +kernel
theorem dX9_parted_250 : decode cX9_parted 250 = .ok (.iaload, 1) := by decide +kernel
theorem dX9_parted_251 : decode cX9_parted 251 = .ok (.iload_n 1, 1) := by decide +kernel
theorem dX9_parted_252 : decode cX9_parted 252 = .ok (.iadd, 1) := by decide +kernel
theorem dX9_parted_253 : decode cX9_parted 253 = .ok (.iastore, 1) := by decide +kernel
theorem dX9_parted_254 : decode cX9_parted 254 = .ok (.aload_n 0, 1) := by decide +kernel
theorem dX9_parted_255 : decode cX9_parted 255 = .ok (.getfield 251, 3) := by decide +kernel
theorem dX9_parted_258 : decode cX9_parted 258 = .ok (.aload_n 0, 1) := by decide +kernel
theorem dX9_parted_259 : decode cX9_parted 259 = .ok (.getfield 248, 3) := by decide +kernel
theorem dX9_parted_262 : decode cX9_parted 262 = .ok (.if_icmp .ne 72, 3) := by decide +kernel
theorem dX9_parted_265 : decode cX9_parted 265 = .ok (.aload_n 0, 1) := by decide +kernel
theorem dX9_parted_266 : decode cX9_parted 266 = .ok (.aload_n 0, 1) := by decide +kernel
theorem dX9_parted_267 : decode cX9_parted 267 = .ok (.getfield 44, 3) := by decide +kernel
theorem dX9_parted_270 : decode cX9_parted 270 = .ok (.aload_n 0, 1) := by decide +kernel
theorem dX9_parted_271 : decode cX9_parted 271 = .ok (.getfield 254, 3) := by decide +kernel
theorem dX9_parted_274 : decode cX9_parted 274 = .ok (.iaload, 1) := by decide +kernel
theorem dX9_parted_275 : decode cX9_parted 275 = .ok (.putfield 277, 3) := by decide +kernel
theorem dX9_parted_278 : decode cX9_parted 278 = .ok (.iconst 0, 1) := by decide +kernel
theorem dX9_parted_279 : decode cX9_parted 279 = .ok (.istore_n 2, 1) := by decide +kernel
theorem dX9_parted_280 : decode cX9_parted 280 = .ok (.iload_n 2, 1) := by decide +kernel
theorem dX9_parted_281 : decode cX9_parted 281 = .ok (.aload_n 0, 1) := by decide +kernel
theorem dX9_parted_282 : decode cX9_parted 282 = .ok (.getfield 277, 3) := by decide +kernel
theorem dX9_parted_285 : decode cX9_parted 285 = .ok (.if_icmp .ge 30, 3) := by decide +kernel
theorem dX9_parted_288 : decode cX9_parted 288 = .ok (.aload_n 0, 1) := by decide +kernel
theorem dX9_parted_289 : decode cX9_parted 289 = .ok (.getfield 52, 3) := by decide +kernel
theorem dX9_parted_292 : decode cX9_parted 292 = .ok (.iload_n 2, 1) := by decide +kernel
theorem dX9_parted_293 : decode cX9_parted 293 = .ok (.aload_n 0, 1) := by decide +kernel
theorem dX9_parted_294 : decode cX9_parted 294 = .ok (.getfield 48, 3) := by decide +kernel
theorem dX9_parted_297 : decode cX9_parted 297 = .ok (.aload_n 0, 1) := by decide +kernel
theorem dX9_parted_298 : decode cX9_parted 298 = .ok (.getfield 254, 3) := by decide +kernel
theorem dX9_parted_301 : decode cX9_parted 301 = .ok (.sipush 3240, 3) := by decide +kernel
theorem dX9_parted_304 : decode cX9_parted 304 = .ok (.imul, 1) := by decide +kernel
theorem dX9_parted_305 : decode cX9_parted 305 = .ok (.iload_n 2, 1) := by decide +kernel
theorem dX9_parted_306 : decode cX9_parted 306 = .ok (.iadd, 1) := by decide +kernel
theorem dX9_parted_307 : decode cX9_parted 307 = .ok (.baload, 1) := by decide +kernel
theorem dX9_parted_308 : decode cX9_parted 308 = .ok (.bastore, 1) := by decide +kernel
theorem dX9_parted_309 : decode cX9_parted 309 = .ok (.iinc 2 1, 3) := by decide +kernel
theorem dX9_parted_312 : decode cX9_parted 312 = .ok (.goto (-32), 3) := by decide +kernel
theorem dX9_parted_315 : decode cX9_parted 315 = .ok (.aload_n 0, 1) := by decide +kernel
theorem dX9_parted_316 : decode cX9_parted 316 = .ok (.getfield 41, 3) := by decide +kernel
theorem dX9_parted_319 : decode cX9_parted 319 = .ok (.aload_n 0, 1) := by decide +kernel
theorem dX9_parted_320 : decode cX9_parted 320 = .ok (.getfield 254, 3) := by decide +kernel
theorem dX9_parted_323 : decode cX9_parted 323 = .ok (.iconst 0, 1) := by decide +kernel
theorem dX9_parted_324 : decode cX9_parted 324 = .ok (.iastore, 1) := by decide +kernel
theorem dX9_parted_325 : decode cX9_parted 325 = .ok (.aload_n 0, 1) := by decide +kernel
theorem dX9_parted_326 : decode cX9_parted 326 = .ok (.iconst 1, 1) := by decide +kernel
theorem dX9_parted_327 : decode cX9_parted 327 = .ok (.putfield 280, 3) := by decide +kernel
theorem dX9_parted_330 : decode cX9_parted 330 = .ok (.aload_n 0, 1) := by decide +kernel
theorem dX9_parted_331 : decode cX9_parted 331 = .ok (.invokevirtual 283, 3) := by decide +kernel
theorem dX9_parted_334 : decode cX9_parted 334 = .ok (.return_, 1) := by decide +kernel
theorem dX9_read_0 : decode cX9_read 0 = .ok (.iconst 0, 1) := by decide +kernel
theorem dX9_read_1 : decode cX9_read 1 = .ok (.istore_n 3, 1) := by decide +kernel
theorem dX9_read_2 : decode cX9_read 2 = .ok (.iload_n 1, 1) := by decide +kernel
theorem dX9_read_3 : decode cX9_read 3 = .ok (.istore 4, 2) := by decide +kernel
theorem dX9_read_5 : decode cX9_read 5 = .ok (.iload 4, 2) := by decide +kernel
theorem dX9_read_7 : decode cX9_read 7 = .ok (.iload_n 1, 1) := by decide +kernel
theorem dX9_read_8 : decode cX9_read 8 = .ok (.iload_n 2, 1) := by decide +kernel
theorem dX9_read_9 : decode cX9_read 9 = .ok (.iadd, 1) := by decide +kernel
theorem dX9_read_10 : decode cX9_read 10 = .ok (.if_icmp .ge 29, 3) := by decide +kernel
theorem dX9_read_13 : decode cX9_read 13 = .ok (.iload_n 3, 1) := by decide +kernel
theorem dX9_read_14 : decode cX9_read 14 = .ok (.iconst 1, 1) := by decide +kernel
theorem dX9_read_15 : decode cX9_read 15 = .ok (.ishl, 1) := by decide +kernel
theorem dX9_read_16 : decode cX9_read 16 = .ok (.aload_n 0, 1) := by decide +kernel
theorem dX9_read_17 : decode cX9_read 17 = .ok (.getfield 52, 3) := by decide +kernel
theorem dX9_read_20 : decode cX9_read 20 = .ok (.iload 4, 2) := by decide +kernel
theorem dX9_read_22 : decode cX9_read 22 = .ok (.baload, 1) := by decide +kernel
theorem dX9_read_23 : decode cX9_read 23 = .ok (.ifCond .eq 7, 3) := by decide +kernel
theorem dX9_read_26 : decode cX9_read 26 = .ok (.iconst 1, 1) := by decide +kernel
theorem dX9_read_27 : decode cX9_read 27 = .ok (.goto 4, 3) := by decide +kernel
theorem dX9_read_30 : decode cX9_read 30 = .ok (.iconst 0, 1) := by decide +kernel
theorem dX9_read_31 : decode cX9_read 31 = .ok (.ior, 1) := by decide +kernel
theorem dX9_read_32 : decode cX9_read 32 = .ok (.istore_n 3, 1) := by decide +kernel
theorem dX9_read_33 : decode cX9_read 33 = .ok (.iinc 4 1, 3) := by decide +kernel
theorem dX9_read_36 : decode cX9_read 36 = .ok (.goto (-31), 3) := by decide +kernel
theorem dX9_read_39 : decode cX9_read 39 = .ok (.iload_n 3, 1) := by decide +kernel
theorem dX9_read_40 : decode cX9_read 40 = .ok (.ireturn, 1) := by decide +kernel
theorem dX9_signed_0 : decode cX9_signed 0 = .ok (.aload_n 0, 1) := by decide +kernel
theorem dX9_signed_1 : decode cX9_signed 1 = .ok (.iload_n 1, 1) := by decide +kernel
theorem dX9_signed_2 : decode cX9_signed 2 = .ok (.iload_n 2, 1) := by decide +kernel
theorem dX9_signed_3 : decode cX9_signed 3 = .ok (.invokevirtual 286, 3) := by decide +kernel
theorem dX9_signed_6 : decode cX9_signed 6 = .ok (.bipush 32, 2) := by decide +kernel
theorem dX9_signed_8 : decode cX9_signed 8 = .ok (.iload_n 2, 1) := by decide +kernel
theorem dX9_signed_9 : decode cX9_signed 9 = .ok (.isub, 1) := by decide +kernel
theorem dX9_signed_10 : decode cX9_signed 10 = .ok (.ishl, 1) := by decide +kernel
theorem dX9_signed_11 : decode cX9_signed 11 = .ok (.bipush 32, 2) := by decide +kernel
theorem dX9_signed_13 : decode cX9_signed 13 = .ok (.iload_n 2, 1) := by decide +kernel
theorem dX9_signed_14 : decode cX9_signed 14 = .ok (.isub, 1) := by decide +kernel
theorem dX9_signed_15 : decode cX9_signed 15 = .ok (.ishr, 1) := by decide +kernel
theorem dX9_signed_16 : decode cX9_signed 16 = .ok (.ireturn, 1) := by decide +kernel
theorem dX9_found_0 : decode cX9_found 0 = .ok (.iconst 0, 1) := by decide +kernel
theorem dX9_found_1 : decode cX9_found 1 = .ok (.istore_n 2, 1) := by decide +kernel
theorem dX9_found_2 : decode cX9_found 2 = .ok (.iload_n 2, 1) := by decide +kernel
theorem dX9_found_3 : decode cX9_found 3 = .ok (.aload_n 0, 1) := by decide +kernel
theorem dX9_found_4 : decode cX9_found 4 = .ok (.getfield 289, 3) := by decide +kernel
theorem dX9_found_7 : decode cX9_found 7 = .ok (.if_icmp .ge 24, 3) := by decide +kernel
theorem dX9_found_10 : decode cX9_found 10 = .ok (.aload_n 0, 1) := by decide +kernel
theorem dX9_found_11 : decode cX9_found 11 = .ok (.getfield 55, 3) := by decide +kernel
theorem dX9_found_14 : decode cX9_found 14 = .ok (.bipush 24, 2) := by decide +kernel
theorem dX9_found_16 : decode cX9_found 16 = .ok (.iload_n 2, 1) := by decide +kernel
theorem dX9_found_17 : decode cX9_found 17 = .ok (.imul, 1) := by decide +kernel
theorem dX9_found_18 : decode cX9_found 18 = .ok (.iaload, 1) := by decide +kernel
theorem dX9_found_19 : decode cX9_found 19 = .ok (.iload_n 1, 1) := by decide +kernel
theorem dX9_found_20 : decode cX9_found 20 = .ok (.if_icmp .ne 5, 3) := by decide +kernel
theorem dX9_found_23 : decode cX9_found 23 = .ok (.iload_n 2, 1) := by decide +kernel
theorem dX9_found_24 : decode cX9_found 24 = .ok (.ireturn, 1) := by decide +kernel
theorem dX9_found_25 : decode cX9_found 25 = .ok (.iinc 2 1, 3) := by decide +kernel
theorem dX9_found_28 : decode cX9_found 28 = .ok (.goto (-26), 3) := by decide +kernel
theorem dX9_found_31 : decode cX9_found 31 = .ok (.ldc 73, 2) := by decide +kernel
theorem dX9_found_33 : decode cX9_found 33 = .ok (.ireturn, 1) := by decide +kernel
theorem dX9_message_0 : decode cX9_message 0 = .ok (.aload_n 0, 1) := by decide +kernel
theorem dX9_message_1 : decode cX9_message 1 = .ok (.getfield 277, 3) := by decide +kernel
theorem dX9_message_4 : decode cX9_message 4 = .ok (.bipush 38, 2) := by decide +kernel
theorem dX9_message_6 : decode cX9_message 6 = .ok (.if_icmp .ge 7, 3) := by decide +kernel
theorem dX9_message_9 : decode cX9_message 9 = .ok (.iconst 0, 1) := by decide +kernel
theorem dX9_message_10 : decode cX9_message 10 = .ok (.goto 10, 3) := by decide +kernel
theorem dX9_message_13 : decode cX9_message 13 = .ok (.aload_n 0, 1) := by decide +kernel
theorem dX9_message_14 : decode cX9_message 14 = .ok (.iconst 0, 1) := by decide +kernel
theorem dX9_message_15 : decode cX9_message 15 = .ok (.bipush 6, 2) := by decide +kernel
theorem dX9_message_17 : decode cX9_message 17 = .ok (.invokevirtual 286, 3) := by decide +kernel
theorem dX9_message_20 : decode cX9_message 20 = .ok (.istore_n 1, 1) := by decide +kernel
theorem dX9_message_21 : decode cX9_message 21 = .ok (.iload_n 1, 1) := by decide +kernel
theorem dX9_message_22 : decode cX9_message 22 = .ok (.i2l, 1) := by decide +kernel
theorem dX9_message_23 : decode cX9_message 23 = .ok (.lconst 1, 1) := by decide +kernel
theorem dX9_message_24 : decode cX9_message 24 = .ok (.ldc2_w 292, 3) := by decide +kernel
theorem dX9_message_27 : decode cX9_message 27 = .ok (.invokestatic 74, 3) := by decide +kernel
theorem dX9_message_30 : decode cX9_message 30 = .ok (.ifCond .ne 9, 3) := by decide +kernel
theorem dX9_message_33 : decode cX9_message 33 = .ok (.iload_n 1, 1) := by decide +kernel
theorem dX9_message_34 : decode cX9_message 34 = .ok (.bipush 18, 2) := by decide +kernel
theorem dX9_message_36 : decode cX9_message 36 = .ok (.if_icmp .ne 13, 3) := by decide +kernel
theorem dX9_message_39 : decode cX9_message 39 = .ok (.aload_n 0, 1) := by decide +kernel
theorem dX9_message_40 : decode cX9_message 40 = .ok (.getfield 277, 3) := by decide +kernel
theorem dX9_message_43 : decode cX9_message 43 = .ok (.sipush 168, 3) := by decide +kernel
theorem dX9_message_46 : decode cX9_message 46 = .ok (.if_icmp .eq 18, 3) := by decide +kernel
theorem dX9_message_49 : decode cX9_message 49 = .ok (.iload_n 1, 1) := by decide +kernel
theorem dX9_message_50 : decode cX9_message 50 = .ok (.iconst 5, 1) := by decide +kernel
theorem dX9_message_51 : decode cX9_message 51 = .ok (.if_icmp .ne 17, 3) := by decide +kernel
theorem dX9_message_54 : decode cX9_message 54 = .ok (.aload_n 0, 1) := by decide +kernel
theorem dX9_message_55 : decode cX9_message 55 = .ok (.getfield 277, 3) := by decide +kernel
theorem dX9_message_58 : decode cX9_message 58 = .ok (.sipush 424, 3) := by decide +kernel
theorem dX9_message_61 : decode cX9_message 61 = .ok (.if_icmp .ne 7, 3) := by decide +kernel
theorem dX9_message_64 : decode cX9_message 64 = .ok (.iconst 1, 1) := by decide +kernel
theorem dX9_message_65 : decode cX9_message 65 = .ok (.goto 4, 3) := by decide +kernel
theorem dX9_message_68 : decode cX9_message 68 = .ok (.iconst 0, 1) := by decide +kernel
theorem dX9_message_69 : decode cX9_message 69 = .ok (.istore_n 2, 1) := by decide +kernel
theorem dX9_message_70 : decode cX9_message 70 = .ok (.iload_n 2, 1) := by decide +kernel
theorem dX9_message_71 : decode cX9_message 71 = .ok (.ifCond .ne 15, 3) := by decide +kernel
theorem dX9_message_74 : decode cX9_message 74 = .ok (.aload_n 0, 1) := by decide +kernel
theorem dX9_message_75 : decode cX9_message 75 = .ok (.getfield 23, 3) := by decide +kernel
theorem dX9_message_78 : decode cX9_message 78 = .ok (.bipush 6, 2) := by decide +kernel
theorem dX9_message_80 : decode cX9_message 80 = .ok (.dup2, 1) := by decide +kernel
theorem dX9_message_81 : decode cX9_message 81 = .ok (.iaload, 1) := by decide +kernel
theorem dX9_message_82 : decode cX9_message 82 = .ok (.iconst 1, 1) := by decide +kernel
theorem dX9_message_83 : decode cX9_message 83 = .ok (.iadd, 1) := by decide +kernel
theorem dX9_message_84 : decode cX9_message 84 = .ok (.iastore, 1) := by decide +kernel
theorem dX9_message_85 : decode cX9_message 85 = .ok (.return_, 1) := by decide +kernel
theorem dX9_message_86 : decode cX9_message 86 = .ok (.aload_n 0, 1) := by decide +kernel
theorem dX9_message_87 : decode cX9_message 87 = .ok (.getfield 23, 3) := by decide +kernel
theorem dX9_message_90 : decode cX9_message 90 = .ok (.iconst 5, 1) := by decide +kernel
theorem dX9_message_91 : decode cX9_message 91 = .ok (.dup2, 1) := by decide +kernel
theorem dX9_message_92 : decode cX9_message 92 = .ok (.iaload, 1) := by decide +kernel
theorem dX9_message_93 : decode cX9_message 93 = .ok (.iconst 1, 1) := by decide +kernel
theorem dX9_message_94 : decode cX9_message 94 = .ok (.iadd, 1) := by decide +kernel
theorem dX9_message_95 : decode cX9_message 95 = .ok (.iastore, 1) := by decide +kernel
theorem dX9_message_96 : decode cX9_message 96 = .ok (.aload_n 0, 1) := by decide +kernel
theorem dX9_message_97 : decode cX9_message 97 = .ok (.bipush 8, 2) := by decide +kernel
theorem dX9_message_99 : decode cX9_message 99 = .ok (.bipush 30, 2) := by decide +kernel
theorem dX9_message_101 : decode cX9_message 101 = .ok (.invokevirtual 286, 3) := by decide +kernel
theorem dX9_message_104 : decode cX9_message 104 = .ok (.istore_n 3, 1) := by decide +kernel
theorem dX9_message_105 : decode cX9_message 105 = .ok (.aload_n 0, 1) := by decide +kernel
theorem dX9_message_106 : decode cX9_message 106 = .ok (.iload_n 3, 1) := by decide +kernel
theorem dX9_message_107 : decode cX9_message 107 = .ok (.invokevirtual 294, 3) := by decide +kernel
theorem dX9_message_110 : decode cX9_message 110 = .ok (.istore 4, 2) := by decide +kernel
theorem dX9_message_112 : decode cX9_message 112 = .ok (.iload 4, 2) := by decide +kernel
theorem dX9_message_114 : decode cX9_message 114 = .ok (.ifCond .ge 24, 3) := by decide +kernel
theorem dX9_message_117 : decode cX9_message 117 = .ok (.aload_n 0, 1) := by decide +kernel
theorem dX9_message_118 : decode cX9_message 118 = .ok (.getfield 289, 3) := by decide +kernel
theorem dX9_message_121 : decode cX9_message 121 = .ok (.bipush 40, 2) := by decide +kernel
theorem dX9_message_123 : decode cX9_message 123 = .ok (.if_icmp .ne 15, 3) := by decide +kernel
theorem dX9_message_126 : decode cX9_message 126 = .ok (.aload_n 0, 1) := by decide +kernel
theorem dX9_message_127 : decode cX9_message 127 = .ok (.getfield 23, 3) := by decide +kernel
theorem dX9_message_130 : decode cX9_message 130 = .ok (.bipush 8, 2) := by decide +kernel
theorem dX9_message_132 : decode cX9_message 132 = .ok (.dup2, 1) := by decide +kernel
theorem dX9_message_133 : decode cX9_message 133 = .ok (.iaload, 1) := by decide +kernel
theorem dX9_message_134 : decode cX9_message 134 = .ok (.iconst 1, 1) := by decide +kernel
theorem dX9_message_135 : decode cX9_message 135 = .ok (.iadd, 1) := by decide +kernel
theorem dX9_message_136 : decode cX9_message 136 = .ok (.iastore, 1) := by decide +kernel
theorem dX9_message_137 : decode cX9_message 137 = .ok (.return_, 1) := by decide +kernel
theorem dX9_message_138 : decode cX9_message 138 = .ok (.iload 4, 2) := by decide +kernel
theorem dX9_message_140 : decode cX9_message 140 = .ok (.ifCond .ge 103, 3) := by decide +kernel
theorem dX9_message_143 : decode cX9_message 143 = .ok (.aload_n 0, 1) := by decide +kernel
theorem dX9_message_144 : decode cX9_message 144 = .ok (.getfield 289, 3) := by decide +kernel
theorem dX9_message_147 : decode cX9_message 147 = .ok (.istore 4, 2) := by decide +kernel
theorem dX9_message_149 : decode cX9_message 149 = .ok (.aload_n 0, 1) := by decide +kernel
theorem dX9_message_150 : decode cX9_message 150 = .ok (.dup, 1) := by decide +kernel
theorem dX9_message_151 : decode cX9_message 151 = .ok (.getfield 289, 3) := by decide +kernel
theorem dX9_message_154 : decode cX9_message 154 = .ok (.iconst 1, 1) := by decide +kernel
theorem dX9_message_155 : decode cX9_message 155 = .ok (.iadd, 1) := by decide +kernel
theorem dX9_message_156 : decode cX9_message 156 = .ok (.putfield 289, 3) := by decide +kernel
theorem dX9_message_159 : decode cX9_message 159 = .ok (.iconst 0, 1) := by decide +kernel
theorem dX9_message_160 : decode cX9_message 160 = .ok (.istore 5, 2) := by decide +kernel
theorem dX9_message_162 : decode cX9_message 162 = .ok (.iload 5, 2) := by decide +kernel
theorem dX9_message_164 : decode cX9_message 164 = .ok (.bipush 24, 2) := by decide +kernel
theorem dX9_message_166 : decode cX9_message 166 = .ok (.if_icmp .ge 24, 3) := by decide +kernel
theorem dX9_message_169 : decode cX9_message 169 = .ok (.aload_n 0, 1) := by decide +kernel
theorem dX9_message_170 : decode cX9_message 170 = .ok (.getfield 55, 3) := by decide +kernel
theorem dX9_message_173 : decode cX9_message 173 = .ok (.bipush 24, 2) := by decide +kernel
theorem dX9_message_175 : decode cX9_message 175 = .ok (.iload 4, 2) := by decide +kernel
theorem dX9_message_177 : decode cX9_message 177 = .ok (.imul, 1) := by decide +kernel
theorem dX9_message_178 : decode cX9_message 178 = .ok (.iload 5, 2) := by decide +kernel
theorem dX9_message_180 : decode cX9_message 180 = .ok (.iadd, 1) := by decide +kernel
theorem dX9_message_181 : decode cX9_message 181 = .ok (.ldc 73, 2) := by decide +kernel
theorem dX9_message_183 : decode cX9_message 183 = .ok (.iastore, 1) := by decide +kernel
theorem dX9_message_184 : decode cX9_message 184 = .ok (.iinc 5 1, 3) := by decide +kernel
theorem dX9_message_187 : decode cX9_message 187 = .ok (.goto (-25), 3) := by decide +kernel
theorem dX9_message_190 : decode cX9_message 190 = .ok (.iconst 0, 1) := by decide +kernel
theorem dX9_message_191 : decode cX9_message 191 = .ok (.istore 5, 2) := by decide +kernel
theorem dX9_message_193 : decode cX9_message 193 = .ok (.iload 5, 2) := by decide +kernel
theorem dX9_message_195 : decode cX9_message 195 = .ok (.iconst 3, 1) := by decide +kernel
theorem dX9_message_196 : decode cX9_message 196 = .ok (.if_icmp .ge 22, 3) := by decide +kernel
theorem dX9_message_199 : decode cX9_message 199 = .ok (.aload_n 0, 1) := by decide +kernel
theorem dX9_message_200 : decode cX9_message 200 = .ok (.getfield 61, 3) := by decide +kernel
theorem dX9_message_203 : decode cX9_message 203 = .ok (.iconst 3, 1) := by decide +kernel
theorem dX9_message_204 : decode cX9_message 204 = .ok (.iload 4, 2) := by decide +kernel
theorem dX9_message_206 : decode cX9_message 206 = .ok (.imul, 1) := by decide +kernel
theorem dX9_message_207 : decode cX9_message 207 = .ok (.iload 5, 2) := by decide +kernel
theorem dX9_message_209 : decode cX9_message 209 = .ok (.iadd, 1) := by decide +kernel
theorem dX9_message_210 : decode cX9_message 210 = .ok (.iconst 0, 1) := by decide +kernel
theorem dX9_message_211 : decode cX9_message 211 = .ok (.iastore, 1) := by decide +kernel
theorem dX9_message_212 : decode cX9_message 212 = .ok (.iinc 5 1, 3) := by decide +kernel
theorem dX9_message_215 : decode cX9_message 215 = .ok (.goto (-22), 3) := by decide +kernel
theorem dX9_message_218 : decode cX9_message 218 = .ok (.aload_n 0, 1) := by decide +kernel
theorem dX9_message_219 : decode cX9_message 219 = .ok (.getfield 55, 3) := by decide +kernel
theorem dX9_message_222 : decode cX9_message 222 = .ok (.bipush 24, 2) := by decide +kernel
theorem dX9_message_224 : decode cX9_message 224 = .ok (.iload 4, 2) := by decide +kernel
theorem dX9_message_226 : decode cX9_message 226 = .ok (.imul, 1) := by decide +kernel
theorem dX9_message_227 : decode cX9_message 227 = .ok (.iload_n 3, 1) := by decide +kernel
theorem dX9_message_228 : decode cX9_message 228 = .ok (.iastore, 1) := by decide +kernel
theorem dX9_message_229 : decode cX9_message 229 = .ok (.aload_n 0, 1) := by decide +kernel
theorem dX9_message_230 : decode cX9_message 230 = .ok (.getfield 55, 3) := by decide +kernel
theorem dX9_message_233 : decode cX9_message 233 = .ok (.bipush 24, 2) := by decide +kernel
theorem dX9_message_235 : decode cX9_message 235 = .ok (.iload 4, 2) := by decide +kernel
theorem dX9_message_237 : decode cX9_message 237 = .ok (.imul, 1) := by decide +kernel
theorem dX9_message_238 : decode cX9_message 238 = .ok (.bipush 23, 2) := by decide +kernel
theorem dX9_message_240 : decode cX9_message 240 = .ok (.iadd, 1) := by decide +kernel
theorem dX9_message_241 : decode cX9_message 241 = .ok (.iconst 0, 1) := by decide +kernel
theorem dX9_message_242 : decode cX9_message 242 = .ok (.iastore, 1) := by decide +kernel
theorem dX9_message_243 : decode cX9_message 243 = .ok (.aload_n 0, 1) := by decide +kernel
theorem dX9_message_244 : decode cX9_message 244 = .ok (.getfield 55, 3) := by decide +kernel
theorem dX9_message_247 : decode cX9_message 247 = .ok (.bipush 24, 2) := by decide +kernel
theorem dX9_message_249 : decode cX9_message 249 = .ok (.iload 4, 2) := by decide +kernel
theorem dX9_message_251 : decode cX9_message 251 = .ok (.imul, 1) := by decide +kernel
theorem dX9_message_252 : decode cX9_message 252 = .ok (.iconst 1, 1) := by decide +kernel
theorem dX9_message_253 : decode cX9_message 253 = .ok (.iadd, 1) := by decide +kernel
theorem dX9_message_254 : decode cX9_message 254 = .ok (.iload_n 1, 1) := by decide +kernel
theorem dX9_message_255 : decode cX9_message 255 = .ok (.iastore, 1) := by decide +kernel
theorem dX9_message_256 : decode cX9_message 256 = .ok (.aload_n 0, 1) := by decide +kernel
theorem dX9_message_257 : decode cX9_message 257 = .ok (.getfield 55, 3) := by decide +kernel
theorem dX9_message_260 : decode cX9_message 260 = .ok (.bipush 24, 2) := by decide +kernel
theorem dX9_message_262 : decode cX9_message 262 = .ok (.iload 4, 2) := by decide +kernel
theorem dX9_message_264 : decode cX9_message 264 = .ok (.imul, 1) := by decide +kernel
theorem dX9_message_265 : decode cX9_message 265 = .ok (.bipush 23, 2) := by decide +kernel
theorem dX9_message_267 : decode cX9_message 267 = .ok (.iadd, 1) := by decide +kernel
theorem dX9_message_268 : decode cX9_message 268 = .ok (.dup2, 1) := by decide +kernel
theorem dX9_message_269 : decode cX9_message 269 = .ok (.iaload, 1) := by decide +kernel
theorem dX9_message_270 : decode cX9_message 270 = .ok (.iconst 1, 1) := by decide +kernel
theorem dX9_message_271 : decode cX9_message 271 = .ok (.iadd, 1) := by decide +kernel
theorem dX9_message_272 : decode cX9_message 272 = .ok (.iastore, 1) := by decide +kernel
theorem dX9_message_273 : decode cX9_message 273 = .ok (.aload_n 0, 1) := by decide +kernel
theorem dX9_message_274 : decode cX9_message 274 = .ok (.iload 4, 2) := by decide +kernel
theorem dX9_message_276 : decode cX9_message 276 = .ok (.iload_n 1, 1) := by decide +kernel
theorem dX9_message_277 : decode cX9_message 277 = .ok (.invokevirtual 297, 3) := by decide +kernel
theorem dX9_message_280 : decode cX9_message 280 = .ok (.return_, 1) := by decide +kernel
theorem dX9_go_0 : decode cX9_go 0 = .ok (.bipush 24, 2) := by decide +kernel
theorem dX9_go_2 : decode cX9_go 2 = .ok (.aload_n 0, 1) := by decide +kernel
theorem dX9_go_3 : decode cX9_go 3 = .ok (.getfield 300, 3) := by decide +kernel
theorem dX9_go_6 : decode cX9_go 6 = .ok (.imul, 1) := by decide +kernel
theorem dX9_go_7 : decode cX9_go 7 = .ok (.iload_n 1, 1) := by decide +kernel
theorem dX9_go_8 : decode cX9_go 8 = .ok (.iadd, 1) := by decide +kernel
theorem dX9_go_9 : decode cX9_go 9 = .ok (.istore 4, 2) := by decide +kernel
theorem dX9_go_11 : decode cX9_go 11 = .ok (.aload_n 0, 1) := by decide +kernel
theorem dX9_go_12 : decode cX9_go 12 = .ok (.getfield 303, 3) := by decide +kernel
theorem dX9_go_15 : decode cX9_go 15 = .ok (.ifCond .ne 38, 3) := by decide +kernel
theorem dX9_go_18 : decode cX9_go 18 = .ok (.aload_n 0, 1) := by decide +kernel
theorem dX9_go_19 : decode cX9_go 19 = .ok (.getfield 55, 3) := by decide +kernel
theorem dX9_go_22 : decode cX9_go 22 = .ok (.iload 4, 2) := by decide +kernel
theorem dX9_go_24 : decode cX9_go 24 = .ok (.iload_n 3, 1) := by decide +kernel
theorem dX9_go_25 : decode cX9_go 25 = .ok (.ifCond .eq 15, 3) := by decide +kernel
theorem dX9_go_28 : decode cX9_go 28 = .ok (.aload_n 0, 1) := by decide +kernel
theorem dX9_go_29 : decode cX9_go 29 = .ok (.aload_n 0, 1) := by decide +kernel
theorem dX9_go_30 : decode cX9_go 30 = .ok (.getfield 306, 3) := by decide +kernel
theorem dX9_go_33 : decode cX9_go 33 = .ok (.iload_n 2, 1) := by decide +kernel
theorem dX9_go_34 : decode cX9_go 34 = .ok (.invokevirtual 308, 3) := by decide +kernel
theorem dX9_go_37 : decode cX9_go 37 = .ok (.goto 12, 3) := by decide +kernel
theorem dX9_go_40 : decode cX9_go 40 = .ok (.aload_n 0, 1) := by decide +kernel
theorem dX9_go_41 : decode cX9_go 41 = .ok (.aload_n 0, 1) := by decide +kernel
theorem dX9_go_42 : decode cX9_go 42 = .ok (.getfield 306, 3) := by decide +kernel
theorem dX9_go_45 : decode cX9_go 45 = .ok (.iload_n 2, 1) := by decide +kernel
theorem dX9_go_46 : decode cX9_go 46 = .ok (.invokevirtual 286, 3) := by decide +kernel
theorem dX9_go_49 : decode cX9_go 49 = .ok (.iastore, 1) := by decide +kernel
theorem dX9_go_50 : decode cX9_go 50 = .ok (.goto 31, 3) := by decide +kernel
theorem dX9_go_53 : decode cX9_go 53 = .ok (.aload_n 0, 1) := by decide +kernel
theorem dX9_go_54 : decode cX9_go 54 = .ok (.aload_n 0, 1) := by decide +kernel
theorem dX9_go_55 : decode cX9_go 55 = .ok (.getfield 55, 3) := by decide +kernel
theorem dX9_go_58 : decode cX9_go 58 = .ok (.iload 4, 2) := by decide +kernel
theorem dX9_go_60 : decode cX9_go 60 = .ok (.iaload, 1) := by decide +kernel
theorem dX9_go_61 : decode cX9_go 61 = .ok (.ldc 73, 2) := by decide +kernel
theorem dX9_go_63 : decode cX9_go 63 = .ok (.if_icmp .ne 7, 3) := by decide +kernel
theorem dX9_go_66 : decode cX9_go 66 = .ok (.iconst 0, 1) := by decide +kernel
theorem dX9_go_67 : decode cX9_go 67 = .ok (.goto 10, 3) := by decide +kernel
theorem dX9_go_70 : decode cX9_go 70 = .ok (.aload_n 0, 1) := by decide +kernel
theorem dX9_go_71 : decode cX9_go 71 = .ok (.getfield 55, 3) := by decide +kernel
theorem dX9_go_74 : decode cX9_go 74 = .ok (.iload 4, 2) := by decide +kernel
theorem dX9_go_76 : decode cX9_go 76 = .ok (.iaload, 1) := by decide +kernel
theorem dX9_go_77 : decode cX9_go 77 = .ok (.iload_n 2, 1) := by decide +kernel
theorem dX9_go_78 : decode cX9_go 78 = .ok (.invokevirtual 311, 3) := by decide +kernel
theorem dX9_go_81 : decode cX9_go 81 = .ok (.aload_n 0, 1) := by decide +kernel
theorem dX9_go_82 : decode cX9_go 82 = .ok (.dup, 1) := by decide +kernel
theorem dX9_go_83 : decode cX9_go 83 = .ok (.getfield 306, 3) := by decide +kernel
theorem dX9_go_86 : decode cX9_go 86 = .ok (.iload_n 2, 1) := by decide +kernel
theorem dX9_go_87 : decode cX9_go 87 = .ok (.iadd, 1) := by decide +kernel
theorem dX9_go_88 : decode cX9_go 88 = .ok (.putfield 306, 3) := by decide +kernel
theorem dX9_go_91 : decode cX9_go 91 = .ok (.return_, 1) := by decide +kernel
theorem dX9_skip_0 : decode cX9_skip 0 = .ok (.aload_n 0, 1) := by decide +kernel
theorem dX9_skip_1 : decode cX9_skip 1 = .ok (.getfield 303, 3) := by decide +kernel
theorem dX9_skip_4 : decode cX9_skip 4 = .ok (.ifCond .eq 9, 3) := by decide +kernel
theorem dX9_skip_7 : decode cX9_skip 7 = .ok (.aload_n 0, 1) := by decide +kernel
theorem dX9_skip_8 : decode cX9_skip 8 = .ok (.iconst 0, 1) := by decide +kernel
theorem dX9_skip_9 : decode cX9_skip 9 = .ok (.iload_n 1, 1) := by decide +kernel
theorem dX9_skip_10 : decode cX9_skip 10 = .ok (.invokevirtual 311, 3) := by decide +kernel
theorem dX9_skip_13 : decode cX9_skip 13 = .ok (.aload_n 0, 1) := by decide +kernel
theorem dX9_skip_14 : decode cX9_skip 14 = .ok (.dup, 1) := by decide +kernel
theorem dX9_skip_15 : decode cX9_skip 15 = .ok (.getfield 306, 3) := by decide +kernel
theorem dX9_skip_18 : decode cX9_skip 18 = .ok (.iload_n 1, 1) := by decide +kernel
theorem dX9_skip_19 : decode cX9_skip 19 = .ok (.iadd, 1) := by decide +kernel
theorem dX9_skip_20 : decode cX9_skip 20 = .ok (.putfield 306, 3) := by decide +kernel
theorem dX9_skip_23 : decode cX9_skip 23 = .ok (.return_, 1) := by decide +kernel
theorem dX9_room_0 : decode cX9_room 0 = .ok (.iload_n 0, 1) := by decide +kernel
theorem dX9_room_1 : decode cX9_room 1 = .ok (.ifCond .ne 8, 3) := by decide +kernel
theorem dX9_room_4 : decode cX9_room 4 = .ok (.bipush 7, 2) := by decide +kernel
theorem dX9_room_6 : decode cX9_room 6 = .ok (.goto 5, 3) := by decide +kernel
theorem dX9_room_9 : decode cX9_room 9 = .ok (.bipush 20, 2) := by decide +kernel
theorem dX9_room_11 : decode cX9_room 11 = .ok (.ireturn, 1) := by decide +kernel
theorem dX9_words_0 : decode cX9_words 0 = .ok (.bipush 60, 2) := by decide +kernel
theorem dX9_words_2 : decode cX9_words 2 = .ok (.aload_n 0, 1) := by decide +kernel
theorem dX9_words_3 : decode cX9_words 3 = .ok (.getfield 300, 3) := by decide +kernel
theorem dX9_words_6 : decode cX9_words 6 = .ok (.imul, 1) := by decide +kernel
theorem dX9_words_7 : decode cX9_words 7 = .ok (.bipush 20, 2) := by decide +kernel
theorem dX9_words_9 : decode cX9_words 9 = .ok (.iload_n 1, 1) := by decide +kernel
theorem dX9_words_10 : decode cX9_words 10 = .ok (.imul, 1) := by decide +kernel
theorem dX9_words_11 : decode cX9_words 11 = .ok (.iadd, 1) := by decide +kernel
theorem dX9_words_12 : decode cX9_words 12 = .ok (.istore_n 2, 1) := by decide +kernel
theorem dX9_words_13 : decode cX9_words 13 = .ok (.iload_n 1, 1) := by decide +kernel
theorem dX9_words_14 : decode cX9_words 14 = .ok (.invokestatic 314, 3) := by decide +kernel
theorem dX9_words_17 : decode cX9_words 17 = .ok (.istore_n 3, 1) := by decide +kernel
theorem dX9_words_18 : decode cX9_words 18 = .ok (.aload_n 0, 1) := by decide +kernel
theorem dX9_words_19 : decode cX9_words 19 = .ok (.getfield 303, 3) := by decide +kernel
theorem dX9_words_22 : decode cX9_words 22 = .ok (.ifCond .eq 76, 3) := by decide +kernel
theorem dX9_words_25 : decode cX9_words 25 = .ok (.iconst 0, 1) := by decide +kernel
theorem dX9_words_26 : decode cX9_words 26 = .ok (.istore 4, 2) := by decide +kernel
theorem dX9_words_28 : decode cX9_words 28 = .ok (.iload 4, 2) := by decide +kernel
theorem dX9_words_30 : decode cX9_words 30 = .ok (.iload_n 3, 1) := by decide +kernel
theorem dX9_words_31 : decode cX9_words 31 = .ok (.if_icmp .ge 53, 3) := by decide +kernel
theorem dX9_words_34 : decode cX9_words 34 = .ok (.iload 4, 2) := by decide +kernel
theorem dX9_words_36 : decode cX9_words 36 = .ok (.aload_n 0, 1) := by decide +kernel
theorem dX9_words_37 : decode cX9_words 37 = .ok (.getfield 61, 3) := by decide +kernel
theorem dX9_words_40 : decode cX9_words 40 = .ok (.iconst 3, 1) := by decide +kernel
theorem dX9_words_41 : decode cX9_words 41 = .ok (.aload_n 0, 1) := by decide +kernel
theorem dX9_words_42 : decode cX9_words 42 = .ok (.getfield 300, 3) := by decide +kernel
theorem dX9_words_45 : decode cX9_words 45 = .ok (.imul, 1) := by decide +kernel
theorem dX9_words_46 : decode cX9_words 46 = .ok (.iload_n 1, 1) := by decide +kernel
theorem dX9_words_47 : decode cX9_words 47 = .ok (.iadd, 1) := by decide +kernel
theorem dX9_words_48 : decode cX9_words 48 = .ok (.iaload, 1) := by decide +kernel
theorem dX9_words_49 : decode cX9_words 49 = .ok (.if_icmp .ge 15, 3) := by decide +kernel
theorem dX9_words_52 : decode cX9_words 52 = .ok (.aload_n 0, 1) := by decide +kernel
theorem dX9_words_53 : decode cX9_words 53 = .ok (.getfield 58, 3) := by decide +kernel
theorem dX9_words_56 : decode cX9_words 56 = .ok (.iload_n 2, 1) := by decide +kernel
theorem dX9_words_57 : decode cX9_words 57 = .ok (.iload 4, 2) := by decide +kernel
theorem dX9_words_59 : decode cX9_words 59 = .ok (.iadd, 1) := by decide +kernel
theorem dX9_words_60 : decode cX9_words 60 = .ok (.iaload, 1) := by decide +kernel
theorem dX9_words_61 : decode cX9_words 61 = .ok (.goto 4, 3) := by decide +kernel
theorem dX9_words_64 : decode cX9_words 64 = .ok (.iconst 0, 1) := by decide +kernel
theorem dX9_words_65 : decode cX9_words 65 = .ok (.istore 5, 2) := by decide +kernel
theorem dX9_words_67 : decode cX9_words 67 = .ok (.aload_n 0, 1) := by decide +kernel
theorem dX9_words_68 : decode cX9_words 68 = .ok (.iload 5, 2) := by decide +kernel
theorem dX9_words_70 : decode cX9_words 70 = .ok (.bipush 63, 2) := by decide +kernel
theorem dX9_words_72 : decode cX9_words 72 = .ok (.iand, 1) := by decide +kernel
theorem dX9_words_73 : decode cX9_words 73 = .ok (.bipush 6, 2) := by decide +kernel
theorem dX9_words_75 : decode cX9_words 75 = .ok (.invokevirtual 311, 3) := by decide +kernel
theorem dX9_words_78 : decode cX9_words 78 = .ok (.iinc 4 1, 3) := by decide +kernel
theorem dX9_words_81 : decode cX9_words 81 = .ok (.goto (-53), 3) := by decide +kernel
theorem dX9_words_84 : decode cX9_words 84 = .ok (.aload_n 0, 1) := by decide +kernel
theorem dX9_words_85 : decode cX9_words 85 = .ok (.dup, 1) := by decide +kernel
theorem dX9_words_86 : decode cX9_words 86 = .ok (.getfield 306, 3) := by decide +kernel
theorem dX9_words_89 : decode cX9_words 89 = .ok (.bipush 6, 2) := by decide +kernel
theorem dX9_words_91 : decode cX9_words 91 = .ok (.iload_n 3, 1) := by decide +kernel
theorem dX9_words_92 : decode cX9_words 92 = .ok (.imul, 1) := by decide +kernel
theorem dX9_words_93 : decode cX9_words 93 = .ok (.iadd, 1) := by decide +kernel
theorem dX9_words_94 : decode cX9_words 94 = .ok (.putfield 306, 3) := by decide +kernel
theorem dX9_words_97 : decode cX9_words 97 = .ok (.return_, 1) := by decide +kernel
theorem dX9_words_98 : decode cX9_words 98 = .ok (.iconst 0, 1) := by decide +kernel
theorem dX9_words_99 : decode cX9_words 99 = .ok (.istore 4, 2) := by decide +kernel
theorem dX9_words_101 : decode cX9_words 101 = .ok (.iconst 0, 1) := by decide +kernel
theorem dX9_words_102 : decode cX9_words 102 = .ok (.istore 5, 2) := by decide +kernel
theorem dX9_words_104 : decode cX9_words 104 = .ok (.iload 5, 2) := by decide +kernel
theorem dX9_words_106 : decode cX9_words 106 = .ok (.iload_n 3, 1) := by decide +kernel
theorem dX9_words_107 : decode cX9_words 107 = .ok (.if_icmp .ge 88, 3) := by decide +kernel
theorem dX9_words_110 : decode cX9_words 110 = .ok (.aload_n 0, 1) := by decide +kernel
theorem dX9_words_111 : decode cX9_words 111 = .ok (.aload_n 0, 1) := by decide +kernel
theorem dX9_words_112 : decode cX9_words 112 = .ok (.getfield 306, 3) := by decide +kernel
theorem dX9_words_115 : decode cX9_words 115 = .ok (.bipush 6, 2) := by decide +kernel
theorem dX9_words_117 : decode cX9_words 117 = .ok (.iload 5, 2) := by decide +kernel
theorem dX9_words_119 : decode cX9_words 119 = .ok (.imul, 1) := by decide +kernel
theorem dX9_words_120 : decode cX9_words 120 = .ok (.iadd, 1) := by decide +kernel
theorem dX9_words_121 : decode cX9_words 121 = .ok (.bipush 6, 2) := by decide +kernel
theorem dX9_words_123 : decode cX9_words 123 = .ok (.invokevirtual 286, 3) := by decide +kernel
theorem dX9_words_126 : decode cX9_words 126 = .ok (.ifCond .eq 69, 3) := by decide +kernel
theorem dX9_words_129 : decode cX9_words 129 = .ok (.aload_n 0, 1) := by decide +kernel
theorem dX9_words_130 : decode cX9_words 130 = .ok (.aload_n 0, 1) := by decide +kernel
theorem dX9_words_131 : decode cX9_words 131 = .ok (.getfield 306, 3) := by decide +kernel
theorem dX9_words_134 : decode cX9_words 134 = .ok (.bipush 6, 2) := by decide +kernel
theorem dX9_words_136 : decode cX9_words 136 = .ok (.iload 5, 2) := by decide +kernel
theorem dX9_words_138 : decode cX9_words 138 = .ok (.imul, 1) := by decide +kernel
theorem dX9_words_139 : decode cX9_words 139 = .ok (.iadd, 1) := by decide +kernel
theorem dX9_words_140 : decode cX9_words 140 = .ok (.bipush 6, 2) := by decide +kernel
theorem dX9_words_142 : decode cX9_words 142 = .ok (.invokevirtual 286, 3) := by decide +kernel
theorem dX9_words_145 : decode cX9_words 145 = .ok (.istore 6, 2) := by decide +kernel
theorem dX9_words_147 : decode cX9_words 147 = .ok (.aload_n 0, 1) := by decide +kernel
theorem dX9_words_148 : decode cX9_words 148 = .ok (.getfield 58, 3) := by decide +kernel
theorem dX9_words_151 : decode cX9_words 151 = .ok (.iload_n 2, 1) := by decide +kernel
theorem dX9_words_152 : decode cX9_words 152 = .ok (.iload 5, 2) := by decide +kernel
theorem dX9_words_154 : decode cX9_words 154 = .ok (.iadd, 1) := by decide +kernel
theorem dX9_words_155 : decode cX9_words 155 = .ok (.iload 6, 2) := by decide +kernel
theorem dX9_words_157 : decode cX9_words 157 = .ok (.bipush 32, 2) := by decide +kernel
theorem dX9_words_159 : decode cX9_words 159 = .ok (.if_icmp .ge 11, 3) := by decide +kernel
theorem dX9_words_162 : decode cX9_words 162 = .ok (.iload 6, 2) := by decide +kernel
theorem dX9_words_164 : decode cX9_words 164 = .ok (.bipush 64, 2) := by decide +kernel
theorem dX9_words_166 : decode cX9_words 166 = .ok (.iadd, 1) := by decide +kernel
theorem dX9_words_167 : decode cX9_words 167 = .ok (.goto 5, 3) := by decide +kernel
theorem dX9_words_170 : decode cX9_words 170 = .ok (.iload 6, 2) := by decide +kernel
theorem dX9_words_172 : decode cX9_words 172 = .ok (.iastore, 1) := by decide +kernel
theorem dX9_words_173 : decode cX9_words 173 = .ok (.iinc 5 1, 3) := by decide +kernel
theorem dX9_words_176 : decode cX9_words 176 = .ok (.iload 6, 2) := by decide +kernel
theorem dX9_words_178 : decode cX9_words 178 = .ok (.bipush 32, 2) := by decide +kernel
theorem dX9_words_180 : decode cX9_words 180 = .ok (.if_icmp .ne 8, 3) := by decide +kernel
theorem dX9_words_183 : decode cX9_words 183 = .ok (.iload 4, 2) := by decide +kernel
theorem dX9_words_185 : decode cX9_words 185 = .ok (.goto 5, 3) := by decide +kernel
theorem dX9_words_188 : decode cX9_words 188 = .ok (.iload 5, 2) := by decide +kernel
theorem dX9_words_190 : decode cX9_words 190 = .ok (.istore 4, 2) := by decide +kernel
theorem dX9_words_192 : decode cX9_words 192 = .ok (.goto (-88), 3) := by decide +kernel
theorem dX9_words_195 : decode cX9_words 195 = .ok (.aload_n 0, 1) := by decide +kernel
theorem dX9_words_196 : decode cX9_words 196 = .ok (.getfield 61, 3) := by decide +kernel
theorem dX9_words_199 : decode cX9_words 199 = .ok (.iconst 3, 1) := by decide +kernel
theorem dX9_words_200 : decode cX9_words 200 = .ok (.aload_n 0, 1) := by decide +kernel
theorem dX9_words_201 : decode cX9_words 201 = .ok (.getfield 300, 3) := by decide +kernel
theorem dX9_words_204 : decode cX9_words 204 = .ok (.imul, 1) := by decide +kernel
theorem dX9_words_205 : decode cX9_words 205 = .ok (.iload_n 1, 1) := by decide +kernel
theorem dX9_words_206 : decode cX9_words 206 = .ok (.iadd, 1) := by decide +kernel
theorem dX9_words_207 : decode cX9_words 207 = .ok (.iload 4, 2) := by decide +kernel
theorem dX9_words_209 : decode cX9_words 209 = .ok (.iastore, 1) := by decide +kernel
theorem dX9_words_210 : decode cX9_words 210 = .ok (.aload_n 0, 1) := by decide +kernel
theorem dX9_words_211 : decode cX9_words 211 = .ok (.dup, 1) := by decide +kernel
theorem dX9_words_212 : decode cX9_words 212 = .ok (.getfield 306, 3) := by decide +kernel
theorem dX9_words_215 : decode cX9_words 215 = .ok (.bipush 6, 2) := by decide +kernel
theorem dX9_words_217 : decode cX9_words 217 = .ok (.iload_n 3, 1) := by decide +kernel
theorem dX9_words_218 : decode cX9_words 218 = .ok (.imul, 1) := by decide +kernel
theorem dX9_words_219 : decode cX9_words 219 = .ok (.iadd, 1) := by decide +kernel
theorem dX9_words_220 : decode cX9_words 220 = .ok (.putfield 306, 3) := by decide +kernel
theorem dX9_words_223 : decode cX9_words 223 = .ok (.return_, 1) := by decide +kernel
theorem dX9_where_0 : decode cX9_where 0 = .ok (.aload_n 0, 1) := by decide +kernel
theorem dX9_where_1 : decode cX9_where 1 = .ok (.iconst 5, 1) := by decide +kernel
theorem dX9_where_2 : decode cX9_where 2 = .ok (.iconst 1, 1) := by decide +kernel
theorem dX9_where_3 : decode cX9_where 3 = .ok (.iconst 0, 1) := by decide +kernel
theorem dX9_where_4 : decode cX9_where 4 = .ok (.invokevirtual 317, 3) := by decide +kernel
theorem dX9_where_7 : decode cX9_where 7 = .ok (.aload_n 0, 1) := by decide +kernel
theorem dX9_where_8 : decode cX9_where 8 = .ok (.bipush 6, 2) := by decide +kernel
theorem dX9_where_10 : decode cX9_where 10 = .ok (.bipush 28, 2) := by decide +kernel
theorem dX9_where_12 : decode cX9_where 12 = .ok (.iconst 1, 1) := by decide +kernel
theorem dX9_where_13 : decode cX9_where 13 = .ok (.invokevirtual 317, 3) := by decide +kernel
theorem dX9_where_16 : decode cX9_where 16 = .ok (.aload_n 0, 1) := by decide +kernel
theorem dX9_where_17 : decode cX9_where 17 = .ok (.bipush 7, 2) := by decide +kernel
theorem dX9_where_19 : decode cX9_where 19 = .ok (.bipush 27, 2) := by decide +kernel
theorem dX9_where_21 : decode cX9_where 21 = .ok (.iconst 1, 1) := by decide +kernel
theorem dX9_where_22 : decode cX9_where 22 = .ok (.invokevirtual 317, 3) := by decide +kernel
theorem dX9_where_25 : decode cX9_where 25 = .ok (.return_, 1) := by decide +kernel
theorem dX9_way_0 : decode cX9_way 0 = .ok (.aload_n 0, 1) := by decide +kernel
theorem dX9_way_1 : decode cX9_way 1 = .ok (.bipush 8, 2) := by decide +kernel
theorem dX9_way_3 : decode cX9_way 3 = .ok (.bipush 12, 2) := by decide +kernel
theorem dX9_way_5 : decode cX9_way 5 = .ok (.iconst 0, 1) := by decide +kernel
theorem dX9_way_6 : decode cX9_way 6 = .ok (.invokevirtual 317, 3) := by decide +kernel
theorem dX9_way_9 : decode cX9_way 9 = .ok (.aload_n 0, 1) := by decide +kernel
theorem dX9_way_10 : decode cX9_way 10 = .ok (.bipush 9, 2) := by decide +kernel
theorem dX9_way_12 : decode cX9_way 12 = .ok (.bipush 9, 2) := by decide +kernel
theorem dX9_way_14 : decode cX9_way 14 = .ok (.iconst 0, 1) := by decide +kernel
theorem dX9_way_15 : decode cX9_way 15 = .ok (.invokevirtual 317, 3) := by decide +kernel
theorem dX9_way_18 : decode cX9_way 18 = .ok (.aload_n 0, 1) := by decide +kernel
theorem dX9_way_19 : decode cX9_way 19 = .ok (.bipush 10, 2) := by decide +kernel
theorem dX9_way_21 : decode cX9_way 21 = .ok (.bipush 6, 2) := by decide +kernel
theorem dX9_way_23 : decode cX9_way 23 = .ok (.iconst 0, 1) := by decide +kernel
theorem dX9_way_24 : decode cX9_way 24 = .ok (.invokevirtual 317, 3) := by decide +kernel
theorem dX9_way_27 : decode cX9_way 27 = .ok (.return_, 1) := by decide +kernel
theorem dX9_reports_0 : decode cX9_reports 0 = .ok (.aload_n 0, 1) := by decide +kernel
theorem dX9_reports_1 : decode cX9_reports 1 = .ok (.iload_n 1, 1) := by decide +kernel
theorem dX9_reports_2 : decode cX9_reports 2 = .ok (.putfield 300, 3) := by decide +kernel
theorem dX9_reports_5 : decode cX9_reports 5 = .ok (.aload_n 0, 1) := by decide +kernel
theorem dX9_reports_6 : decode cX9_reports 6 = .ok (.bipush 38, 2) := by decide +kernel
theorem dX9_reports_8 : decode cX9_reports 8 = .ok (.putfield 306, 3) := by decide +kernel
theorem dX9_reports_11 : decode cX9_reports 11 = .ok (.iload_n 2, 1) := by decide +kernel
theorem dX9_reports_12 : decode cX9_reports 12 = .ok (.iconst 4, 1) := by decide +kernel
theorem dX9_reports_13 : decode cX9_reports 13 = .ok (.if_icmp .ge 43, 3) := by decide +kernel
theorem dX9_reports_16 : decode cX9_reports 16 = .ok (.aload_n 0, 1) := by decide +kernel
theorem dX9_reports_17 : decode cX9_reports 17 = .ok (.iconst 2, 1) := by decide +kernel
theorem dX9_reports_18 : decode cX9_reports 18 = .ok (.iconst 4, 1) := by decide +kernel
theorem dX9_reports_19 : decode cX9_reports 19 = .ok (.iconst 0, 1) := by decide +kernel
theorem dX9_reports_20 : decode cX9_reports 20 = .ok (.invokevirtual 317, 3) := by decide +kernel
theorem dX9_reports_23 : decode cX9_reports 23 = .ok (.aload_n 0, 1) := by decide +kernel
theorem dX9_reports_24 : decode cX9_reports 24 = .ok (.iconst 3, 1) := by decide +kernel
theorem dX9_reports_25 : decode cX9_reports 25 = .ok (.bipush 8, 2) := by decide +kernel
theorem dX9_reports_27 : decode cX9_reports 27 = .ok (.iconst 1, 1) := by decide +kernel
theorem dX9_reports_28 : decode cX9_reports 28 = .ok (.invokevirtual 317, 3) := by decide +kernel
theorem dX9_reports_31 : decode cX9_reports 31 = .ok (.aload_n 0, 1) := by decide +kernel
theorem dX9_reports_32 : decode cX9_reports 32 = .ok (.iconst 4, 1) := by decide +kernel
theorem dX9_reports_33 : decode cX9_reports 33 = .ok (.bipush 10, 2) := by decide +kernel
theorem dX9_reports_35 : decode cX9_reports 35 = .ok (.iconst 0, 1) := by decide +kernel
theorem dX9_reports_36 : decode cX9_reports 36 = .ok (.invokevirtual 317, 3) := by decide +kernel
theorem dX9_reports_39 : decode cX9_reports 39 = .ok (.aload_n 0, 1) := by decide +kernel
theorem dX9_reports_40 : decode cX9_reports 40 = .ok (.invokevirtual 321, 3) := by decide +kernel
theorem dX9_reports_43 : decode cX9_reports 43 = .ok (.aload_n 0, 1) := by decide +kernel
theorem dX9_reports_44 : decode cX9_reports 44 = .ok (.invokevirtual 324, 3) := by decide +kernel
theorem dX9_reports_47 : decode cX9_reports 47 = .ok (.aload_n 0, 1) := by decide +kernel
theorem dX9_reports_48 : decode cX9_reports 48 = .ok (.bipush 25, 2) := by decide +kernel
theorem dX9_reports_50 : decode cX9_reports 50 = .ok (.invokevirtual 327, 3) := by decide +kernel
theorem dX9_reports_53 : decode cX9_reports 53 = .ok (.goto 113, 3) := by decide +kernel
theorem dX9_reports_56 : decode cX9_reports 56 = .ok (.iload_n 2, 1) := by decide +kernel
theorem dX9_reports_57 : decode cX9_reports 57 = .ok (.iconst 4, 1) := by decide +kernel
theorem dX9_reports_58 : decode cX9_reports 58 = .ok (.if_icmp .ne 67, 3) := by decide +kernel
theorem dX9_reports_61 : decode cX9_reports 61 = .ok (.aload_n 0, 1) := by decide +kernel
theorem dX9_reports_62 : decode cX9_reports 62 = .ok (.bipush 11, 2) := by decide +kernel
theorem dX9_reports_64 : decode cX9_reports 64 = .ok (.bipush 14, 2) := by decide +kernel
theorem dX9_reports_66 : decode cX9_reports 66 = .ok (.iconst 0, 1) := by decide +kernel
theorem dX9_reports_67 : decode cX9_reports 67 = .ok (.invokevirtual 317, 3) := by decide +kernel
theorem dX9_reports_70 : decode cX9_reports 70 = .ok (.aload_n 0, 1) := by decide +kernel
theorem dX9_reports_71 : decode cX9_reports 71 = .ok (.bipush 12, 2) := by decide +kernel
theorem dX9_reports_73 : decode cX9_reports 73 = .ok (.iconst 4, 1) := by decide +kernel
theorem dX9_reports_74 : decode cX9_reports 74 = .ok (.iconst 0, 1) := by decide +kernel
theorem dX9_reports_75 : decode cX9_reports 75 = .ok (.invokevirtual 317, 3) := by decide +kernel
theorem dX9_reports_78 : decode cX9_reports 78 = .ok (.aload_n 0, 1) := by decide +kernel
theorem dX9_reports_79 : decode cX9_reports 79 = .ok (.bipush 13, 2) := by decide +kernel
theorem dX9_reports_81 : decode cX9_reports 81 = .ok (.iconst 5, 1) := by decide +kernel
theorem dX9_reports_82 : decode cX9_reports 82 = .ok (.iconst 0, 1) := by decide +kernel
theorem dX9_reports_83 : decode cX9_reports 83 = .ok (.invokevirtual 317, 3) := by decide +kernel
theorem dX9_reports_86 : decode cX9_reports 86 = .ok (.aload_n 0, 1) := by decide +kernel
theorem dX9_reports_87 : decode cX9_reports 87 = .ok (.bipush 14, 2) := by decide +kernel
theorem dX9_reports_89 : decode cX9_reports 89 = .ok (.iconst 5, 1) := by decide +kernel
theorem dX9_reports_90 : decode cX9_reports 90 = .ok (.iconst 0, 1) := by decide +kernel
theorem dX9_reports_91 : decode cX9_reports 91 = .ok (.invokevirtual 317, 3) := by decide +kernel
theorem dX9_reports_94 : decode cX9_reports 94 = .ok (.aload_n 0, 1) := by decide +kernel
theorem dX9_reports_95 : decode cX9_reports 95 = .ok (.bipush 15, 2) := by decide +kernel
theorem dX9_reports_97 : decode cX9_reports 97 = .ok (.bipush 6, 2) := by decide +kernel
theorem dX9_reports_99 : decode cX9_reports 99 = .ok (.iconst 0, 1) := by decide +kernel
theorem dX9_reports_100 : decode cX9_reports 100 = .ok (.invokevirtual 317, 3) := by decide +kernel
theorem dX9_reports_103 : decode cX9_reports 103 = .ok (.aload_n 0, 1) := by decide +kernel
theorem dX9_reports_104 : decode cX9_reports 104 = .ok (.bipush 10, 2) := by decide +kernel
theorem dX9_reports_106 : decode cX9_reports 106 = .ok (.bipush 6, 2) := by decide +kernel
theorem dX9_reports_108 : decode cX9_reports 108 = .ok (.iconst 0, 1) := by decide +kernel
theorem dX9_reports_109 : decode cX9_reports 109 = .ok (.invokevirtual 317, 3) := by decide +kernel
theorem dX9_reports_112 : decode cX9_reports 112 = .ok (.aload_n 0, 1) := by decide +kernel
theorem dX9_reports_113 : decode cX9_reports 113 = .ok (.invokevirtual 321, 3) := by decide +kernel
theorem dX9_reports_116 : decode cX9_reports 116 = .ok (.aload_n 0, 1) := by decide +kernel
theorem dX9_reports_117 : decode cX9_reports 117 = .ok (.bipush 34, 2) := by decide +kernel
theorem dX9_reports_119 : decode cX9_reports 119 = .ok (.invokevirtual 327, 3) := by decide +kernel
theorem dX9_reports_122 : decode cX9_reports 122 = .ok (.goto 44, 3) := by decide +kernel
theorem dX9_reports_125 : decode cX9_reports 125 = .ok (.iload_n 2, 1) := by decide +kernel
theorem dX9_reports_126 : decode cX9_reports 126 = .ok (.bipush 18, 2) := by decide +kernel
theorem dX9_reports_128 : decode cX9_reports 128 = .ok (.if_icmp .ne 34, 3) := by decide +kernel
theorem dX9_reports_131 : decode cX9_reports 131 = .ok (.aload_n 0, 1) := by decide +kernel
theorem dX9_reports_132 : decode cX9_reports 132 = .ok (.bipush 8, 2) := by decide +kernel
theorem dX9_reports_134 : decode cX9_reports 134 = .ok (.invokevirtual 327, 3) := by decide +kernel
theorem dX9_reports_137 : decode cX9_reports 137 = .ok (.aload_n 0, 1) := by decide +kernel
theorem dX9_reports_138 : decode cX9_reports 138 = .ok (.iconst 4, 1) := by decide +kernel
theorem dX9_reports_139 : decode cX9_reports 139 = .ok (.bipush 10, 2) := by decide +kernel
theorem dX9_reports_141 : decode cX9_reports 141 = .ok (.iconst 0, 1) := by decide +kernel
theorem dX9_reports_142 : decode cX9_reports 142 = .ok (.invokevirtual 317, 3) := by decide +kernel
theorem dX9_reports_145 : decode cX9_reports 145 = .ok (.aload_n 0, 1) := by decide +kernel
theorem dX9_reports_146 : decode cX9_reports 146 = .ok (.invokevirtual 321, 3) := by decide +kernel
theorem dX9_reports_149 : decode cX9_reports 149 = .ok (.aload_n 0, 1) := by decide +kernel
theorem dX9_reports_150 : decode cX9_reports 150 = .ok (.invokevirtual 324, 3) := by decide +kernel
theorem dX9_reports_153 : decode cX9_reports 153 = .ok (.aload_n 0, 1) := by decide +kernel
theorem dX9_reports_154 : decode cX9_reports 154 = .ok (.bipush 29, 2) := by decide +kernel
theorem dX9_reports_156 : decode cX9_reports 156 = .ok (.invokevirtual 327, 3) := by decide +kernel
theorem dX9_reports_159 : decode cX9_reports 159 = .ok (.goto 7, 3) := by decide +kernel
theorem dX9_reports_162 : decode cX9_reports 162 = .ok (.aload_n 0, 1) := by decide +kernel
theorem dX9_reports_163 : decode cX9_reports 163 = .ok (.invokevirtual 330, 3) := by decide +kernel
theorem dX9_reports_166 : decode cX9_reports 166 = .ok (.return_, 1) := by decide +kernel
theorem dX9_still_0 : decode cX9_still 0 = .ok (.aload_n 0, 1) := by decide +kernel
theorem dX9_still_1 : decode cX9_still 1 = .ok (.iconst 2, 1) := by decide +kernel
theorem dX9_still_2 : decode cX9_still 2 = .ok (.invokevirtual 327, 3) := by decide +kernel
theorem dX9_still_5 : decode cX9_still 5 = .ok (.aload_n 0, 1) := by decide +kernel
theorem dX9_still_6 : decode cX9_still 6 = .ok (.bipush 16, 2) := by decide +kernel
theorem dX9_still_8 : decode cX9_still 8 = .ok (.bipush 30, 2) := by decide +kernel
theorem dX9_still_10 : decode cX9_still 10 = .ok (.iconst 0, 1) := by decide +kernel
theorem dX9_still_11 : decode cX9_still 11 = .ok (.invokevirtual 317, 3) := by decide +kernel
theorem dX9_still_14 : decode cX9_still 14 = .ok (.aload_n 0, 1) := by decide +kernel
theorem dX9_still_15 : decode cX9_still 15 = .ok (.iconst 0, 1) := by decide +kernel
theorem dX9_still_16 : decode cX9_still 16 = .ok (.invokevirtual 333, 3) := by decide +kernel
theorem dX9_still_19 : decode cX9_still 19 = .ok (.aload_n 0, 1) := by decide +kernel
theorem dX9_still_20 : decode cX9_still 20 = .ok (.iconst 1, 1) := by decide +kernel
theorem dX9_still_21 : decode cX9_still 21 = .ok (.invokevirtual 333, 3) := by decide +kernel
theorem dX9_still_24 : decode cX9_still 24 = .ok (.aload_n 0, 1) := by decide +kernel
theorem dX9_still_25 : decode cX9_still 25 = .ok (.bipush 17, 2) := by decide +kernel
theorem dX9_still_27 : decode cX9_still 27 = .ok (.bipush 8, 2) := by decide +kernel
theorem dX9_still_29 : decode cX9_still 29 = .ok (.iconst 0, 1) := by decide +kernel
theorem dX9_still_30 : decode cX9_still 30 = .ok (.invokevirtual 317, 3) := by decide +kernel
theorem dX9_still_33 : decode cX9_still 33 = .ok (.aload_n 0, 1) := by decide +kernel
theorem dX9_still_34 : decode cX9_still 34 = .ok (.bipush 18, 2) := by decide +kernel
theorem dX9_still_36 : decode cX9_still 36 = .ok (.bipush 9, 2) := by decide +kernel
theorem dX9_still_38 : decode cX9_still 38 = .ok (.iconst 0, 1) := by decide +kernel
theorem dX9_still_39 : decode cX9_still 39 = .ok (.invokevirtual 317, 3) := by decide +kernel
theorem dX9_still_42 : decode cX9_still 42 = .ok (.aload_n 0, 1) := by decide +kernel
theorem dX9_still_43 : decode cX9_still 43 = .ok (.bipush 19, 2) := by decide +kernel
theorem dX9_still_45 : decode cX9_still 45 = .ok (.bipush 9, 2) := by decide +kernel
theorem dX9_still_47 : decode cX9_still 47 = .ok (.iconst 0, 1) := by decide +kernel
theorem dX9_still_48 : decode cX9_still 48 = .ok (.invokevirtual 317, 3) := by decide +kernel
theorem dX9_still_51 : decode cX9_still 51 = .ok (.aload_n 0, 1) := by decide +kernel
theorem dX9_still_52 : decode cX9_still 52 = .ok (.bipush 20, 2) := by decide +kernel
theorem dX9_still_54 : decode cX9_still 54 = .ok (.bipush 6, 2) := by decide +kernel
theorem dX9_still_56 : decode cX9_still 56 = .ok (.iconst 0, 1) := by decide +kernel
theorem dX9_still_57 : decode cX9_still 57 = .ok (.invokevirtual 317, 3) := by decide +kernel
theorem dX9_still_60 : decode cX9_still 60 = .ok (.aload_n 0, 1) := by decide +kernel
theorem dX9_still_61 : decode cX9_still 61 = .ok (.bipush 21, 2) := by decide +kernel
theorem dX9_still_63 : decode cX9_still 63 = .ok (.bipush 6, 2) := by decide +kernel
theorem dX9_still_65 : decode cX9_still 65 = .ok (.iconst 0, 1) := by decide +kernel
theorem dX9_still_66 : decode cX9_still 66 = .ok (.invokevirtual 317, 3) := by decide +kernel
theorem dX9_still_69 : decode cX9_still 69 = .ok (.aload_n 0, 1) := by decide +kernel
theorem dX9_still_70 : decode cX9_still 70 = .ok (.iconst 4, 1) := by decide +kernel
theorem dX9_still_71 : decode cX9_still 71 = .ok (.invokevirtual 327, 3) := by decide +kernel
theorem dX9_still_74 : decode cX9_still 74 = .ok (.aload_n 0, 1) := by decide +kernel
theorem dX9_still_75 : decode cX9_still 75 = .ok (.bipush 12, 2) := by decide +kernel
theorem dX9_still_77 : decode cX9_still 77 = .ok (.iconst 4, 1) := by decide +kernel
theorem dX9_still_78 : decode cX9_still 78 = .ok (.iconst 0, 1) := by decide +kernel
theorem dX9_still_79 : decode cX9_still 79 = .ok (.invokevirtual 317, 3) := by decide +kernel
theorem dX9_still_82 : decode cX9_still 82 = .ok (.aload_n 0, 1) := by decide +kernel
theorem dX9_still_83 : decode cX9_still 83 = .ok (.bipush 13, 2) := by decide +kernel
theorem dX9_still_85 : decode cX9_still 85 = .ok (.iconst 5, 1) := by decide +kernel
theorem dX9_still_86 : decode cX9_still 86 = .ok (.iconst 0, 1) := by decide +kernel
theorem dX9_still_87 : decode cX9_still 87 = .ok (.invokevirtual 317, 3) := by decide +kernel
theorem dX9_still_90 : decode cX9_still 90 = .ok (.aload_n 0, 1) := by decide +kernel
theorem dX9_still_91 : decode cX9_still 91 = .ok (.bipush 14, 2) := by decide +kernel
theorem dX9_still_93 : decode cX9_still 93 = .ok (.iconst 5, 1) := by decide +kernel
theorem dX9_still_94 : decode cX9_still 94 = .ok (.iconst 0, 1) := by decide +kernel
theorem dX9_still_95 : decode cX9_still 95 = .ok (.invokevirtual 317, 3) := by decide +kernel
theorem dX9_still_98 : decode cX9_still 98 = .ok (.aload_n 0, 1) := by decide +kernel
theorem dX9_still_99 : decode cX9_still 99 = .ok (.bipush 15, 2) := by decide +kernel
theorem dX9_still_101 : decode cX9_still 101 = .ok (.bipush 6, 2) := by decide +kernel
theorem dX9_still_103 : decode cX9_still 103 = .ok (.iconst 0, 1) := by decide +kernel
theorem dX9_still_104 : decode cX9_still 104 = .ok (.invokevirtual 317, 3) := by decide +kernel
theorem dX9_still_107 : decode cX9_still 107 = .ok (.aload_n 0, 1) := by decide +kernel
theorem dX9_still_108 : decode cX9_still 108 = .ok (.bipush 22, 2) := by decide +kernel
theorem dX9_still_110 : decode cX9_still 110 = .ok (.bipush 8, 2) := by decide +kernel
theorem dX9_still_112 : decode cX9_still 112 = .ok (.iconst 0, 1) := by decide +kernel
theorem dX9_still_113 : decode cX9_still 113 = .ok (.invokevirtual 317, 3) := by decide +kernel
theorem dX9_still_116 : decode cX9_still 116 = .ok (.aload_n 0, 1) := by decide +kernel
theorem dX9_still_117 : decode cX9_still 117 = .ok (.iconst 2, 1) := by decide +kernel
theorem dX9_still_118 : decode cX9_still 118 = .ok (.invokevirtual 333, 3) := by decide +kernel
theorem dX9_still_121 : decode cX9_still 121 = .ok (.aload_n 0, 1) := by decide +kernel
theorem dX9_still_122 : decode cX9_still 122 = .ok (.iconst 2, 1) := by decide +kernel
theorem dX9_still_123 : decode cX9_still 123 = .ok (.invokevirtual 327, 3) := by decide +kernel
theorem dX9_still_126 : decode cX9_still 126 = .ok (.return_, 1) := by decide +kernel
theorem dX9_count_0 : decode cX9_count 0 = .ok (.aload_n 0, 1) := by decide +kernel
theorem dX9_count_1 : decode cX9_count 1 = .ok (.iconst 0, 1) := by decide +kernel
theorem dX9_count_2 : decode cX9_count 2 = .ok (.putfield 1, 3) := by decide +kernel
theorem dX9_count_5 : decode cX9_count 5 = .ok (.iload_n 1, 1) := by decide +kernel
theorem dX9_count_6 : decode cX9_count 6 = .ok (.i2l, 1) := by decide +kernel
theorem dX9_count_7 : decode cX9_count 7 = .ok (.lconst 0, 1) := by decide +kernel
theorem dX9_count_8 : decode cX9_count 8 = .ok (.ldc2_w 336, 3) := by decide +kernel
theorem dX9_count_11 : decode cX9_count 11 = .ok (.invokestatic 74, 3) := by decide +kernel
theorem dX9_count_14 : decode cX9_count 14 = .ok (.ifCond .eq 10, 3) := by decide +kernel
theorem dX9_count_17 : decode cX9_count 17 = .ok (.aload_n 0, 1) := by decide +kernel
theorem dX9_count_18 : decode cX9_count 18 = .ok (.getfield 23, 3) := by decide +kernel
theorem dX9_count_21 : decode cX9_count 21 = .ok (.iload_n 1, 1) := by decide +kernel
theorem dX9_count_22 : decode cX9_count 22 = .ok (.iaload, 1) := by decide +kernel
theorem dX9_count_23 : decode cX9_count 23 = .ok (.ireturn, 1) := by decide +kernel
theorem dX9_count_24 : decode cX9_count 24 = .ok (.iconst 0, 1) := by decide +kernel
theorem dX9_count_25 : decode cX9_count 25 = .ok (.istore_n 2, 1) := by decide +kernel
theorem dX9_count_26 : decode cX9_count 26 = .ok (.iconst 0, 1) := by decide +kernel
theorem dX9_count_27 : decode cX9_count 27 = .ok (.istore_n 3, 1) := by decide +kernel
theorem dX9_count_28 : decode cX9_count 28 = .ok (.iload_n 3, 1) := by decide +kernel
theorem dX9_count_29 : decode cX9_count 29 = .ok (.bipush 11, 2) := by decide +kernel
theorem dX9_count_31 : decode cX9_count 31 = .ok (.if_icmp .ge 18, 3) := by decide +kernel
theorem dX9_count_34 : decode cX9_count 34 = .ok (.iload_n 2, 1) := by decide +kernel
theorem dX9_count_35 : decode cX9_count 35 = .ok (.aload_n 0, 1) := by decide +kernel
theorem dX9_count_36 : decode cX9_count 36 = .ok (.getfield 41, 3) := by decide +kernel
theorem dX9_count_39 : decode cX9_count 39 = .ok (.iload_n 3, 1) := by decide +kernel
theorem dX9_count_40 : decode cX9_count 40 = .ok (.iaload, 1) := by decide +kernel
theorem dX9_count_41 : decode cX9_count 41 = .ok (.iadd, 1) := by decide +kernel
theorem dX9_count_42 : decode cX9_count 42 = .ok (.istore_n 2, 1) := by decide +kernel
theorem dX9_count_43 : decode cX9_count 43 = .ok (.iinc 3 1, 3) := by decide +kernel
theorem dX9_count_46 : decode cX9_count 46 = .ok (.goto (-18), 3) := by decide +kernel
theorem dX9_count_49 : decode cX9_count 49 = .ok (.iload_n 1, 1) := by decide +kernel
theorem dX9_count_50 : decode cX9_count 50 = .ok (.tableswitch 67 9 13 #[34, 39, 44, 49, 65], 34) := by decide +kernel
theorem dX9_count_84 : decode cX9_count 84 = .ok (.aload_n 0, 1) := by decide +kernel
theorem dX9_count_85 : decode cX9_count 85 = .ok (.getfield 289, 3) := by decide +kernel
theorem dX9_count_88 : decode cX9_count 88 = .ok (.ireturn, 1) := by decide +kernel
theorem dX9_count_89 : decode cX9_count 89 = .ok (.aload_n 0, 1) := by decide +kernel
theorem dX9_count_90 : decode cX9_count 90 = .ok (.getfield 70, 3) := by decide +kernel
theorem dX9_count_93 : decode cX9_count 93 = .ok (.ireturn, 1) := by decide +kernel
theorem dX9_count_94 : decode cX9_count 94 = .ok (.aload_n 0, 1) := by decide +kernel
theorem dX9_count_95 : decode cX9_count 95 = .ok (.getfield 338, 3) := by decide +kernel
theorem dX9_count_98 : decode cX9_count 98 = .ok (.ireturn, 1) := by decide +kernel
theorem dX9_count_99 : decode cX9_count 99 = .ok (.aload_n 0, 1) := by decide +kernel
theorem dX9_count_100 : decode cX9_count 100 = .ok (.getfield 90, 3) := by decide +kernel
theorem dX9_count_103 : decode cX9_count 103 = .ok (.ifCond .ne 7, 3) := by decide +kernel
theorem dX9_count_106 : decode cX9_count 106 = .ok (.iconst 0, 1) := by decide +kernel
theorem dX9_count_107 : decode cX9_count 107 = .ok (.goto 7, 3) := by decide +kernel
theorem dX9_count_110 : decode cX9_count 110 = .ok (.aload_n 0, 1) := by decide +kernel
theorem dX9_count_111 : decode cX9_count 111 = .ok (.getfield 93, 3) := by decide +kernel
theorem dX9_count_114 : decode cX9_count 114 = .ok (.ireturn, 1) := by decide +kernel
theorem dX9_count_115 : decode cX9_count 115 = .ok (.iload_n 2, 1) := by decide +kernel
theorem dX9_count_116 : decode cX9_count 116 = .ok (.ireturn, 1) := by decide +kernel
theorem dX9_count_117 : decode cX9_count 117 = .ok (.ldc 73, 2) := by decide +kernel
theorem dX9_count_119 : decode cX9_count 119 = .ok (.ireturn, 1) := by decide +kernel
theorem dX9_fix_0 : decode cX9_fix 0 = .ok (.aload_n 0, 1) := by decide +kernel
theorem dX9_fix_1 : decode cX9_fix 1 = .ok (.iconst 0, 1) := by decide +kernel
theorem dX9_fix_2 : decode cX9_fix 2 = .ok (.putfield 1, 3) := by decide +kernel
theorem dX9_fix_5 : decode cX9_fix 5 = .ok (.iload_n 1, 1) := by decide +kernel
theorem dX9_fix_6 : decode cX9_fix 6 = .ok (.i2l, 1) := by decide +kernel
theorem dX9_fix_7 : decode cX9_fix 7 = .ok (.lconst 0, 1) := by decide +kernel
theorem dX9_fix_8 : decode cX9_fix 8 = .ok (.ldc2_w 341, 3) := by decide +kernel
theorem dX9_fix_11 : decode cX9_fix 11 = .ok (.invokestatic 74, 3) := by decide +kernel
theorem dX9_fix_14 : decode cX9_fix 14 = .ok (.ifCond .eq 12, 3) := by decide +kernel
theorem dX9_fix_17 : decode cX9_fix 17 = .ok (.aload_n 0, 1) := by decide +kernel
theorem dX9_fix_18 : decode cX9_fix 18 = .ok (.getfield 35, 3) := by decide +kernel
theorem dX9_fix_21 : decode cX9_fix 21 = .ok (.iload_n 1, 1) := by decide +kernel
theorem dX9_fix_22 : decode cX9_fix 22 = .ok (.iaload, 1) := by decide +kernel
theorem dX9_fix_23 : decode cX9_fix 23 = .ok (.goto 8, 3) := by decide +kernel
theorem dX9_fix_26 : decode cX9_fix 26 = .ok (.aload_n 0, 1) := by decide +kernel
theorem dX9_fix_27 : decode cX9_fix 27 = .ok (.iconst 1, 1) := by decide +kernel
theorem dX9_fix_28 : decode cX9_fix 28 = .ok (.invokevirtual 343, 3) := by decide +kernel
theorem dX9_fix_31 : decode cX9_fix 31 = .ok (.ireturn, 1) := by decide +kernel
theorem dX9_find_0 : decode cX9_find 0 = .ok (.aload_n 0, 1) := by decide +kernel
theorem dX9_find_1 : decode cX9_find 1 = .ok (.iconst 0, 1) := by decide +kernel
theorem dX9_find_2 : decode cX9_find 2 = .ok (.putfield 1, 3) := by decide +kernel
theorem dX9_find_5 : decode cX9_find 5 = .ok (.aload_n 0, 1) := by decide +kernel
theorem dX9_find_6 : decode cX9_find 6 = .ok (.iload_n 1, 1) := by decide +kernel
theorem dX9_find_7 : decode cX9_find 7 = .ok (.invokevirtual 294, 3) := by decide +kernel
theorem dX9_find_10 : decode cX9_find 10 = .ok (.ireturn, 1) := by decide +kernel
theorem dX9_vessel_0 : decode cX9_vessel 0 = .ok (.aload_n 0, 1) := by decide +kernel
theorem dX9_vessel_1 : decode cX9_vessel 1 = .ok (.iconst 0, 1) := by decide +kernel
theorem dX9_vessel_2 : decode cX9_vessel 2 = .ok (.putfield 1, 3) := by decide +kernel
theorem dX9_vessel_5 : decode cX9_vessel 5 = .ok (.iload_n 1, 1) := by decide +kernel
theorem dX9_vessel_6 : decode cX9_vessel 6 = .ok (.i2l, 1) := by decide +kernel
theorem dX9_vessel_7 : decode cX9_vessel 7 = .ok (.lconst 0, 1) := by decide +kernel
theorem dX9_vessel_8 : decode cX9_vessel 8 = .ok (.aload_n 0, 1) := by decide +kernel
theorem dX9_vessel_9 : decode cX9_vessel 9 = .ok (.getfield 289, 3) := by decide +kernel
theorem dX9_vessel_12 : decode cX9_vessel 12 = .ok (.iconst 1, 1) := by decide +kernel
theorem dX9_vessel_13 : decode cX9_vessel 13 = .ok (.isub, 1) := by decide +kernel
theorem dX9_vessel_14 : decode cX9_vessel 14 = .ok (.i2l, 1) := by decide +kernel
theorem dX9_vessel_15 : decode cX9_vessel 15 = .ok (.invokestatic 74, 3) := by decide +kernel
theorem dX9_vessel_18 : decode cX9_vessel 18 = .ok (.ifCond .eq 29, 3) := by decide +kernel
theorem dX9_vessel_21 : decode cX9_vessel 21 = .ok (.iload_n 2, 1) := by decide +kernel
theorem dX9_vessel_22 : decode cX9_vessel 22 = .ok (.i2l, 1) := by decide +kernel
theorem dX9_vessel_23 : decode cX9_vessel 23 = .ok (.lconst 0, 1) := by decide +kernel
theorem dX9_vessel_24 : decode cX9_vessel 24 = .ok (.ldc2_w 346, 3) := by decide +kernel
theorem dX9_vessel_27 : decode cX9_vessel 27 = .ok (.invokestatic 74, 3) := by decide +kernel
theorem dX9_vessel_30 : decode cX9_vessel 30 = .ok (.ifCond .ne 23, 3) := by decide +kernel
theorem dX9_vessel_33 : decode cX9_vessel 33 = .ok (.iload_n 2, 1) := by decide +kernel
theorem dX9_vessel_34 : decode cX9_vessel 34 = .ok (.i2l, 1) := by decide +kernel
theorem dX9_vessel_35 : decode cX9_vessel 35 = .ok (.ldc2_w 348, 3) := by decide +kernel
theorem dX9_vessel_38 : decode cX9_vessel 38 = .ok (.ldc2_w 99, 3) := by decide +kernel
theorem dX9_vessel_41 : decode cX9_vessel 41 = .ok (.invokestatic 74, 3) := by decide +kernel
theorem dX9_vessel_44 : decode cX9_vessel 44 = .ok (.ifCond .ne 9, 3) := by decide +kernel
theorem dX9_vessel_47 : decode cX9_vessel 47 = .ok (.aload_n 0, 1) := by decide +kernel
theorem dX9_vessel_48 : decode cX9_vessel 48 = .ok (.iconst 1, 1) := by decide +kernel
theorem dX9_vessel_49 : decode cX9_vessel 49 = .ok (.invokevirtual 343, 3) := by decide +kernel
theorem dX9_vessel_52 : decode cX9_vessel 52 = .ok (.ireturn, 1) := by decide +kernel
theorem dX9_vessel_53 : decode cX9_vessel 53 = .ok (.iload_n 2, 1) := by decide +kernel
theorem dX9_vessel_54 : decode cX9_vessel 54 = .ok (.bipush 24, 2) := by decide +kernel
theorem dX9_vessel_56 : decode cX9_vessel 56 = .ok (.if_icmp .ge 17, 3) := by decide +kernel
theorem dX9_vessel_59 : decode cX9_vessel 59 = .ok (.aload_n 0, 1) := by decide +kernel
theorem dX9_vessel_60 : decode cX9_vessel 60 = .ok (.getfield 55, 3) := by decide +kernel
theorem dX9_vessel_63 : decode cX9_vessel 63 = .ok (.bipush 24, 2) := by decide +kernel
theorem dX9_vessel_65 : decode cX9_vessel 65 = .ok (.iload_n 1, 1) := by decide +kernel
theorem dX9_vessel_66 : decode cX9_vessel 66 = .ok (.imul, 1) := by decide +kernel
theorem dX9_vessel_67 : decode cX9_vessel 67 = .ok (.iload_n 2, 1) := by decide +kernel
theorem dX9_vessel_68 : decode cX9_vessel 68 = .ok (.iadd, 1) := by decide +kernel
theorem dX9_vessel_69 : decode cX9_vessel 69 = .ok (.iaload, 1) := by decide +kernel
theorem dX9_vessel_70 : decode cX9_vessel 70 = .ok (.goto 16, 3) := by decide +kernel
theorem dX9_vessel_73 : decode cX9_vessel 73 = .ok (.aload_n 0, 1) := by decide +kernel
theorem dX9_vessel_74 : decode cX9_vessel 74 = .ok (.getfield 61, 3) := by decide +kernel
theorem dX9_vessel_77 : decode cX9_vessel 77 = .ok (.iconst 3, 1) := by decide +kernel
theorem dX9_vessel_78 : decode cX9_vessel 78 = .ok (.iload_n 1, 1) := by decide +kernel
theorem dX9_vessel_79 : decode cX9_vessel 79 = .ok (.imul, 1) := by decide +kernel
theorem dX9_vessel_80 : decode cX9_vessel 80 = .ok (.iload_n 2, 1) := by decide +kernel
theorem dX9_vessel_81 : decode cX9_vessel 81 = .ok (.iadd, 1) := by decide +kernel
theorem dX9_vessel_82 : decode cX9_vessel 82 = .ok (.bipush 30, 2) := by decide +kernel
theorem dX9_vessel_84 : decode cX9_vessel 84 = .ok (.isub, 1) := by decide +kernel
theorem dX9_vessel_85 : decode cX9_vessel 85 = .ok (.iaload, 1) := by decide +kernel
theorem dX9_vessel_86 : decode cX9_vessel 86 = .ok (.ireturn, 1) := by decide +kernel
theorem dX9_letter_0 : decode cX9_letter 0 = .ok (.aload_n 0, 1) := by decide +kernel
theorem dX9_letter_1 : decode cX9_letter 1 = .ok (.iconst 0, 1) := by decide +kernel
theorem dX9_letter_2 : decode cX9_letter 2 = .ok (.putfield 1, 3) := by decide +kernel
theorem dX9_letter_5 : decode cX9_letter 5 = .ok (.iload_n 1, 1) := by decide +kernel
theorem dX9_letter_6 : decode cX9_letter 6 = .ok (.i2l, 1) := by decide +kernel
theorem dX9_letter_7 : decode cX9_letter 7 = .ok (.lconst 0, 1) := by decide +kernel
theorem dX9_letter_8 : decode cX9_letter 8 = .ok (.aload_n 0, 1) := by decide +kernel
theorem dX9_letter_9 : decode cX9_letter 9 = .ok (.getfield 289, 3) := by decide +kernel
theorem dX9_letter_12 : decode cX9_letter 12 = .ok (.iconst 1, 1) := by decide +kernel
theorem dX9_letter_13 : decode cX9_letter 13 = .ok (.isub, 1) := by decide +kernel
theorem dX9_letter_14 : decode cX9_letter 14 = .ok (.i2l, 1) := by decide +kernel
theorem dX9_letter_15 : decode cX9_letter 15 = .ok (.invokestatic 74, 3) := by decide +kernel
theorem dX9_letter_18 : decode cX9_letter 18 = .ok (.ifCond .eq 37, 3) := by decide +kernel
theorem dX9_letter_21 : decode cX9_letter 21 = .ok (.iload_n 2, 1) := by decide +kernel
theorem dX9_letter_22 : decode cX9_letter 22 = .ok (.i2l, 1) := by decide +kernel
theorem dX9_letter_23 : decode cX9_letter 23 = .ok (.lconst 0, 1) := by decide +kernel
theorem dX9_letter_24 : decode cX9_letter 24 = .ok (.ldc2_w 350, 3) := by decide +kernel
theorem dX9_letter_27 : decode cX9_letter 27 = .ok (.invokestatic 74, 3) := by decide +kernel
theorem dX9_letter_30 : decode cX9_letter 30 = .ok (.ifCond .eq 25, 3) := by decide +kernel
theorem dX9_letter_33 : decode cX9_letter 33 = .ok (.iload_n 3, 1) := by decide +kernel
theorem dX9_letter_34 : decode cX9_letter 34 = .ok (.i2l, 1) := by decide +kernel
theorem dX9_letter_35 : decode cX9_letter 35 = .ok (.lconst 0, 1) := by decide +kernel
theorem dX9_letter_36 : decode cX9_letter 36 = .ok (.aload_n 0, 1) := by decide +kernel
theorem dX9_letter_37 : decode cX9_letter 37 = .ok (.getfield 61, 3) := by decide +kernel
theorem dX9_letter_40 : decode cX9_letter 40 = .ok (.iconst 3, 1) := by decide +kernel
theorem dX9_letter_41 : decode cX9_letter 41 = .ok (.iload_n 1, 1) := by decide +kernel
theorem dX9_letter_42 : decode cX9_letter 42 = .ok (.imul, 1) := by decide +kernel
theorem dX9_letter_43 : decode cX9_letter 43 = .ok (.iload_n 2, 1) := by decide +kernel
theorem dX9_letter_44 : decode cX9_letter 44 = .ok (.iadd, 1) := by decide +kernel
theorem dX9_letter_45 : decode cX9_letter 45 = .ok (.iaload, 1) := by decide +kernel
theorem dX9_letter_46 : decode cX9_letter 46 = .ok (.iconst 1, 1) := by decide +kernel
theorem dX9_letter_47 : decode cX9_letter 47 = .ok (.isub, 1) := by decide +kernel
theorem dX9_letter_48 : decode cX9_letter 48 = .ok (.i2l, 1) := by decide +kernel
theorem dX9_letter_49 : decode cX9_letter 49 = .ok (.invokestatic 74, 3) := by decide +kernel
theorem dX9_letter_52 : decode cX9_letter 52 = .ok (.ifCond .ne 6, 3) := by decide +kernel
theorem dX9_letter_55 : decode cX9_letter 55 = .ok (.ldc 73, 2) := by decide +kernel
theorem dX9_letter_57 : decode cX9_letter 57 = .ok (.ireturn, 1) := by decide +kernel
theorem dX9_letter_58 : decode cX9_letter 58 = .ok (.aload_n 0, 1) := by decide +kernel
theorem dX9_letter_59 : decode cX9_letter 59 = .ok (.getfield 58, 3) := by decide +kernel
theorem dX9_letter_62 : decode cX9_letter 62 = .ok (.bipush 60, 2) := by decide +kernel
theorem dX9_letter_64 : decode cX9_letter 64 = .ok (.iload_n 1, 1) := by decide +kernel
theorem dX9_letter_65 : decode cX9_letter 65 = .ok (.imul, 1) := by decide +kernel
theorem dX9_letter_66 : decode cX9_letter 66 = .ok (.bipush 20, 2) := by decide +kernel
theorem dX9_letter_68 : decode cX9_letter 68 = .ok (.iload_n 2, 1) := by decide +kernel
theorem dX9_letter_69 : decode cX9_letter 69 = .ok (.imul, 1) := by decide +kernel
theorem dX9_letter_70 : decode cX9_letter 70 = .ok (.iadd, 1) := by decide +kernel
theorem dX9_letter_71 : decode cX9_letter 71 = .ok (.iload_n 3, 1) := by decide +kernel
theorem dX9_letter_72 : decode cX9_letter 72 = .ok (.iadd, 1) := by decide +kernel
theorem dX9_letter_73 : decode cX9_letter 73 = .ok (.iaload, 1) := by decide +kernel
theorem dX9_letter_74 : decode cX9_letter 74 = .ok (.ireturn, 1) := by decide +kernel
theorem dX9_bits_0 : decode cX9_bits 0 = .ok (.aload_n 0, 1) := by decide +kernel
theorem dX9_bits_1 : decode cX9_bits 1 = .ok (.iconst 0, 1) := by decide +kernel
theorem dX9_bits_2 : decode cX9_bits 2 = .ok (.putfield 1, 3) := by decide +kernel
theorem dX9_bits_5 : decode cX9_bits 5 = .ok (.aload_n 0, 1) := by decide +kernel
theorem dX9_bits_6 : decode cX9_bits 6 = .ok (.getfield 280, 3) := by decide +kernel
theorem dX9_bits_9 : decode cX9_bits 9 = .ok (.ifCond .eq 33, 3) := by decide +kernel
theorem dX9_bits_12 : decode cX9_bits 12 = .ok (.iload_n 2, 1) := by decide +kernel
theorem dX9_bits_13 : decode cX9_bits 13 = .ok (.i2l, 1) := by decide +kernel
theorem dX9_bits_14 : decode cX9_bits 14 = .ok (.lconst 1, 1) := by decide +kernel
theorem dX9_bits_15 : decode cX9_bits 15 = .ok (.ldc2_w 99, 3) := by decide +kernel
theorem dX9_bits_18 : decode cX9_bits 18 = .ok (.invokestatic 74, 3) := by decide +kernel
theorem dX9_bits_21 : decode cX9_bits 21 = .ok (.ifCond .eq 21, 3) := by decide +kernel
theorem dX9_bits_24 : decode cX9_bits 24 = .ok (.iload_n 1, 1) := by decide +kernel
theorem dX9_bits_25 : decode cX9_bits 25 = .ok (.ifCond .lt 17, 3) := by decide +kernel
theorem dX9_bits_28 : decode cX9_bits 28 = .ok (.iload_n 1, 1) := by decide +kernel
theorem dX9_bits_29 : decode cX9_bits 29 = .ok (.i2l, 1) := by decide +kernel
theorem dX9_bits_30 : decode cX9_bits 30 = .ok (.iload_n 2, 1) := by decide +kernel
theorem dX9_bits_31 : decode cX9_bits 31 = .ok (.i2l, 1) := by decide +kernel
theorem dX9_bits_32 : decode cX9_bits 32 = .ok (.ladd, 1) := by decide +kernel
theorem dX9_bits_33 : decode cX9_bits 33 = .ok (.aload_n 0, 1) := by decide +kernel
theorem dX9_bits_34 : decode cX9_bits 34 = .ok (.getfield 277, 3) := by decide +kernel
theorem dX9_bits_37 : decode cX9_bits 37 = .ok (.i2l, 1) := by decide +kernel
theorem dX9_bits_38 : decode cX9_bits 38 = .ok (.lcmp, 1) := by decide +kernel
theorem dX9_bits_39 : decode cX9_bits 39 = .ok (.ifCond .le 9, 3) := by decide +kernel
theorem dX9_bits_42 : decode cX9_bits 42 = .ok (.aload_n 0, 1) := by decide +kernel
theorem dX9_bits_43 : decode cX9_bits 43 = .ok (.iconst 1, 1) := by decide +kernel
theorem dX9_bits_44 : decode cX9_bits 44 = .ok (.invokevirtual 343, 3) := by decide +kernel
theorem dX9_bits_47 : decode cX9_bits 47 = .ok (.ireturn, 1) := by decide +kernel
theorem dX9_bits_48 : decode cX9_bits 48 = .ok (.aload_n 0, 1) := by decide +kernel
theorem dX9_bits_49 : decode cX9_bits 49 = .ok (.iload_n 1, 1) := by decide +kernel
theorem dX9_bits_50 : decode cX9_bits 50 = .ok (.iload_n 2, 1) := by decide +kernel
theorem dX9_bits_51 : decode cX9_bits 51 = .ok (.invokevirtual 286, 3) := by decide +kernel
theorem dX9_bits_54 : decode cX9_bits 54 = .ok (.ireturn, 1) := by decide +kernel
theorem dX9_put_0 : decode cX9_put 0 = .ok (.iload_n 2, 1) := by decide +kernel
theorem dX9_put_1 : decode cX9_put 1 = .ok (.iconst 1, 1) := by decide +kernel
theorem dX9_put_2 : decode cX9_put 2 = .ok (.isub, 1) := by decide +kernel
theorem dX9_put_3 : decode cX9_put 3 = .ok (.istore_n 3, 1) := by decide +kernel
theorem dX9_put_4 : decode cX9_put 4 = .ok (.iload_n 3, 1) := by decide +kernel
theorem dX9_put_5 : decode cX9_put 5 = .ok (.ifCond .lt 42, 3) := by decide +kernel
theorem dX9_put_8 : decode cX9_put 8 = .ok (.aload_n 0, 1) := by decide +kernel
theorem dX9_put_9 : decode cX9_put 9 = .ok (.getfield 64, 3) := by decide +kernel
theorem dX9_put_12 : decode cX9_put 12 = .ok (.aload_n 0, 1) := by decide +kernel
theorem dX9_put_13 : decode cX9_put 13 = .ok (.getfield 352, 3) := by decide +kernel
theorem dX9_put_16 : decode cX9_put 16 = .ok (.iload_n 1, 1) := by decide +kernel
theorem dX9_put_17 : decode cX9_put 17 = .ok (.iload_n 3, 1) := by decide +kernel
theorem dX9_put_18 : decode cX9_put 18 = .ok (.ishr, 1) := by decide +kernel
theorem dX9_put_19 : decode cX9_put 19 = .ok (.iconst 1, 1) := by decide +kernel
theorem dX9_put_20 : decode cX9_put 20 = .ok (.iand, 1) := by decide +kernel
theorem dX9_put_21 : decode cX9_put 21 = .ok (.iconst 1, 1) := by decide +kernel
theorem dX9_put_22 : decode cX9_put 22 = .ok (.if_icmp .ne 7, 3) := by decide +kernel
theorem dX9_put_25 : decode cX9_put 25 = .ok (.iconst 1, 1) := by decide +kernel
theorem dX9_put_26 : decode cX9_put 26 = .ok (.goto 4, 3) := by decide +kernel
theorem dX9_put_29 : decode cX9_put 29 = .ok (.iconst 0, 1) := by decide +kernel
theorem dX9_put_30 : decode cX9_put 30 = .ok (.bastore, 1) := by decide +kernel
theorem dX9_put_31 : decode cX9_put 31 = .ok (.aload_n 0, 1) := by decide +kernel
theorem dX9_put_32 : decode cX9_put 32 = .ok (.dup, 1) := by decide +kernel
theorem dX9_put_33 : decode cX9_put 33 = .ok (.getfield 352, 3) := by decide +kernel
theorem dX9_put_36 : decode cX9_put 36 = .ok (.iconst 1, 1) := by decide +kernel
theorem dX9_put_37 : decode cX9_put 37 = .ok (.iadd, 1) := by decide +kernel
theorem dX9_put_38 : decode cX9_put 38 = .ok (.putfield 352, 3) := by decide +kernel
theorem dX9_put_41 : decode cX9_put 41 = .ok (.iinc 3 (-1), 3) := by decide +kernel
theorem dX9_put_44 : decode cX9_put 44 = .ok (.goto (-40), 3) := by decide +kernel
theorem dX9_put_47 : decode cX9_put 47 = .ok (.return_, 1) := by decide +kernel
theorem dX9_write_0 : decode cX9_write 0 = .ok (.aload_n 0, 1) := by decide +kernel
theorem dX9_write_1 : decode cX9_write 1 = .ok (.getfield 17, 3) := by decide +kernel
theorem dX9_write_4 : decode cX9_write 4 = .ok (.aload_n 0, 1) := by decide +kernel
theorem dX9_write_5 : decode cX9_write 5 = .ok (.getfield 338, 3) := by decide +kernel
theorem dX9_write_8 : decode cX9_write 8 = .ok (.iload_n 1, 1) := by decide +kernel
theorem dX9_write_9 : decode cX9_write 9 = .ok (.iastore, 1) := by decide +kernel
theorem dX9_write_10 : decode cX9_write 10 = .ok (.aload_n 0, 1) := by decide +kernel
theorem dX9_write_11 : decode cX9_write 11 = .ok (.dup, 1) := by decide +kernel
theorem dX9_write_12 : decode cX9_write 12 = .ok (.getfield 338, 3) := by decide +kernel
theorem dX9_write_15 : decode cX9_write 15 = .ok (.iconst 1, 1) := by decide +kernel
theorem dX9_write_16 : decode cX9_write 16 = .ok (.iadd, 1) := by decide +kernel
theorem dX9_write_17 : decode cX9_write 17 = .ok (.putfield 338, 3) := by decide +kernel
theorem dX9_write_20 : decode cX9_write 20 = .ok (.aload_n 0, 1) := by decide +kernel
theorem dX9_write_21 : decode cX9_write 21 = .ok (.iload_n 1, 1) := by decide +kernel
theorem dX9_write_22 : decode cX9_write 22 = .ok (.bipush 33, 2) := by decide +kernel
theorem dX9_write_24 : decode cX9_write 24 = .ok (.if_icmp .ne 7, 3) := by decide +kernel
theorem dX9_write_27 : decode cX9_write 27 = .ok (.iconst 0, 1) := by decide +kernel
theorem dX9_write_28 : decode cX9_write 28 = .ok (.goto 9, 3) := by decide +kernel
theorem dX9_write_31 : decode cX9_write 31 = .ok (.aload_n 0, 1) := by decide +kernel
theorem dX9_write_32 : decode cX9_write 32 = .ok (.getfield 355, 3) := by decide +kernel
theorem dX9_write_35 : decode cX9_write 35 = .ok (.iload_n 1, 1) := by decide +kernel
theorem dX9_write_36 : decode cX9_write 36 = .ok (.ixor, 1) := by decide +kernel
theorem dX9_write_37 : decode cX9_write 37 = .ok (.putfield 355, 3) := by decide +kernel
theorem dX9_write_40 : decode cX9_write 40 = .ok (.return_, 1) := by decide +kernel
theorem dX9_writeAll_0 : decode cX9_writeAll 0 = .ok (.iconst 0, 1) := by decide +kernel
theorem dX9_writeAll_1 : decode cX9_writeAll 1 = .ok (.istore_n 2, 1) := by decide +kernel
theorem dX9_writeAll_2 : decode cX9_writeAll 2 = .ok (.iload_n 2, 1) := by decide +kernel
theorem dX9_writeAll_3 : decode cX9_writeAll 3 = .ok (.aload_n 1, 1) := by decide +kernel
theorem dX9_writeAll_4 : decode cX9_writeAll 4 = .ok (.invokevirtual 187, 3) := by decide +kernel
theorem dX9_writeAll_7 : decode cX9_writeAll 7 = .ok (.if_icmp .ge 18, 3) := by decide +kernel
theorem dX9_writeAll_10 : decode cX9_writeAll 10 = .ok (.aload_n 0, 1) := by decide +kernel
theorem dX9_writeAll_11 : decode cX9_writeAll 11 = .ok (.aload_n 1, 1) := by decide +kernel
theorem dX9_writeAll_12 : decode cX9_writeAll 12 = .ok (.iload_n 2, 1) := by decide +kernel
theorem dX9_writeAll_13 : decode cX9_writeAll 13 = .ok (.invokevirtual 127, 3) := by decide +kernel
theorem dX9_writeAll_16 : decode cX9_writeAll 16 = .ok (.invokevirtual 358, 3) := by decide +kernel
theorem dX9_writeAll_19 : decode cX9_writeAll 19 = .ok (.iinc 2 1, 3) := by decide +kernel
theorem dX9_writeAll_22 : decode cX9_writeAll 22 = .ok (.goto (-20), 3) := by decide +kernel
theorem dX9_writeAll_25 : decode cX9_writeAll 25 = .ok (.return_, 1) := by decide +kernel
theorem dX9_hexOf_0 : decode cX9_hexOf 0 = .ok (.iload_n 0, 1) := by decide +kernel
theorem dX9_hexOf_1 : decode cX9_hexOf 1 = .ok (.bipush 10, 2) := by decide +kernel
theorem dX9_hexOf_3 : decode cX9_hexOf 3 = .ok (.if_icmp .ge 10, 3) := by decide +kernel
theorem dX9_hexOf_6 : decode cX9_hexOf 6 = .ok (.bipush 48, 2) := by decide +kernel
theorem dX9_hexOf_8 : decode cX9_hexOf 8 = .ok (.iload_n 0, 1) := by decide +kernel
theorem dX9_hexOf_9 : decode cX9_hexOf 9 = .ok (.iadd, 1) := by decide +kernel
theorem dX9_hexOf_10 : decode cX9_hexOf 10 = .ok (.goto 10, 3) := by decide +kernel
theorem dX9_hexOf_13 : decode cX9_hexOf 13 = .ok (.bipush 65, 2) := by decide +kernel
theorem dX9_hexOf_15 : decode cX9_hexOf 15 = .ok (.iload_n 0, 1) := by decide +kernel
theorem dX9_hexOf_16 : decode cX9_hexOf 16 = .ok (.iadd, 1) := by decide +kernel
theorem dX9_hexOf_17 : decode cX9_hexOf 17 = .ok (.bipush 10, 2) := by decide +kernel
theorem dX9_hexOf_19 : decode cX9_hexOf 19 = .ok (.isub, 1) := by decide +kernel
theorem dX9_hexOf_20 : decode cX9_hexOf 20 = .ok (.ireturn, 1) := by decide +kernel
theorem dX9_sentence_0 : decode cX9_sentence 0 = .ok (.aload_n 0, 1) := by decide +kernel
theorem dX9_sentence_1 : decode cX9_sentence 1 = .ok (.ldc_w 361, 3) := by decide +kernel
theorem dX9_sentence_4 : decode cX9_sentence 4 = .ok (.invokevirtual 363, 3) := by decide +kernel
theorem dX9_sentence_7 : decode cX9_sentence 7 = .ok (.aload_n 0, 1) := by decide +kernel
theorem dX9_sentence_8 : decode cX9_sentence 8 = .ok (.bipush 48, 2) := by decide +kernel
theorem dX9_sentence_10 : decode cX9_sentence 10 = .ok (.iload_n 1, 1) := by decide +kernel
theorem dX9_sentence_11 : decode cX9_sentence 11 = .ok (.iadd, 1) := by decide +kernel
theorem dX9_sentence_12 : decode cX9_sentence 12 = .ok (.invokevirtual 358, 3) := by decide +kernel
theorem dX9_sentence_15 : decode cX9_sentence 15 = .ok (.aload_n 0, 1) := by decide +kernel
theorem dX9_sentence_16 : decode cX9_sentence 16 = .ok (.bipush 44, 2) := by decide +kernel
theorem dX9_sentence_18 : decode cX9_sentence 18 = .ok (.invokevirtual 358, 3) := by decide +kernel
theorem dX9_sentence_21 : decode cX9_sentence 21 = .ok (.aload_n 0, 1) := by decide +kernel
theorem dX9_sentence_22 : decode cX9_sentence 22 = .ok (.bipush 48, 2) := by decide +kernel
theorem dX9_sentence_24 : decode cX9_sentence 24 = .ok (.iload_n 2, 1) := by decide +kernel
theorem dX9_sentence_25 : decode cX9_sentence 25 = .ok (.iadd, 1) := by decide +kernel
theorem dX9_sentence_26 : decode cX9_sentence 26 = .ok (.invokevirtual 358, 3) := by decide +kernel
theorem dX9_sentence_29 : decode cX9_sentence 29 = .ok (.aload_n 0, 1) := by decide +kernel
theorem dX9_sentence_30 : decode cX9_sentence 30 = .ok (.bipush 44, 2) := by decide +kernel
theorem dX9_sentence_32 : decode cX9_sentence 32 = .ok (.invokevirtual 358, 3) := by decide +kernel
theorem dX9_sentence_35 : decode cX9_sentence 35 = .ok (.iload_n 3, 1) := by decide +kernel
theorem dX9_sentence_36 : decode cX9_sentence 36 = .ok (.ifCond .lt 11, 3) := by decide +kernel
theorem dX9_sentence_39 : decode cX9_sentence 39 = .ok (.aload_n 0, 1) := by decide +kernel
theorem dX9_sentence_40 : decode cX9_sentence 40 = .ok (.bipush 48, 2) := by decide +kernel
theorem dX9_sentence_42 : decode cX9_sentence 42 = .ok (.iload_n 3, 1) := by decide +kernel
theorem dX9_sentence_43 : decode cX9_sentence 43 = .ok (.iadd, 1) := by decide +kernel
theorem dX9_sentence_44 : decode cX9_sentence 44 = .ok (.invokevirtual 358, 3) := by decide +kernel
theorem dX9_sentence_47 : decode cX9_sentence 47 = .ok (.aload_n 0, 1) := by decide +kernel
theorem dX9_sentence_48 : decode cX9_sentence 48 = .ok (.ldc_w 367, 3) := by decide +kernel
theorem dX9_sentence_51 : decode cX9_sentence 51 = .ok (.invokevirtual 363, 3) := by decide +kernel
theorem dX9_sentence_54 : decode cX9_sentence 54 = .ok (.iload 5, 2) := by decide +kernel
theorem dX9_sentence_56 : decode cX9_sentence 56 = .ok (.iconst 5, 1) := by decide +kernel
theorem dX9_sentence_57 : decode cX9_sentence 57 = .ok (.iadd, 1) := by decide +kernel
theorem dX9_sentence_58 : decode cX9_sentence 58 = .ok (.bipush 6, 2) := by decide +kernel
theorem dX9_sentence_60 : decode cX9_sentence 60 = .ok (.idiv, 1) := by decide +kernel
theorem dX9_sentence_61 : decode cX9_sentence 61 = .ok (.istore 6, 2) := by decide +kernel
theorem dX9_sentence_63 : decode cX9_sentence 63 = .ok (.iconst 0, 1) := by decide +kernel
theorem dX9_sentence_64 : decode cX9_sentence 64 = .ok (.istore 7, 2) := by decide +kernel
theorem dX9_sentence_66 : decode cX9_sentence 66 = .ok (.iload 7, 2) := by decide +kernel
theorem dX9_sentence_68 : decode cX9_sentence 68 = .ok (.iload 6, 2) := by decide +kernel
theorem dX9_sentence_70 : decode cX9_sentence 70 = .ok (.if_icmp .ge 94, 3) := by decide +kernel
theorem dX9_sentence_73 : decode cX9_sentence 73 = .ok (.iconst 0, 1) := by decide +kernel
theorem dX9_sentence_74 : decode cX9_sentence 74 = .ok (.istore 8, 2) := by decide +kernel
theorem dX9_sentence_76 : decode cX9_sentence 76 = .ok (.bipush 6, 2) := by decide +kernel
theorem dX9_sentence_78 : decode cX9_sentence 78 = .ok (.iload 7, 2) := by decide +kernel
theorem dX9_sentence_80 : decode cX9_sentence 80 = .ok (.imul, 1) := by decide +kernel
theorem dX9_sentence_81 : decode cX9_sentence 81 = .ok (.istore 9, 2) := by decide +kernel
theorem dX9_sentence_83 : decode cX9_sentence 83 = .ok (.iload 9, 2) := by decide +kernel
theorem dX9_sentence_85 : decode cX9_sentence 85 = .ok (.bipush 6, 2) := by decide +kernel
theorem dX9_sentence_87 : decode cX9_sentence 87 = .ok (.iload 7, 2) := by decide +kernel
theorem dX9_sentence_89 : decode cX9_sentence 89 = .ok (.imul, 1) := by decide +kernel
theorem dX9_sentence_90 : decode cX9_sentence 90 = .ok (.bipush 6, 2) := by decide +kernel
theorem dX9_sentence_92 : decode cX9_sentence 92 = .ok (.iadd, 1) := by decide +kernel
theorem dX9_sentence_93 : decode cX9_sentence 93 = .ok (.if_icmp .ge 41, 3) := by decide +kernel
theorem dX9_sentence_96 : decode cX9_sentence 96 = .ok (.iconst 2, 1) := by decide +kernel
theorem dX9_sentence_97 : decode cX9_sentence 97 = .ok (.iload 8, 2) := by decide +kernel
theorem dX9_sentence_99 : decode cX9_sentence 99 = .ok (.imul, 1) := by decide +kernel
theorem dX9_sentence_100 : decode cX9_sentence 100 = .ok (.iload 9, 2) := by decide +kernel
theorem dX9_sentence_102 : decode cX9_sentence 102 = .ok (.iload 5, 2) := by decide +kernel
theorem dX9_sentence_104 : decode cX9_sentence 104 = .ok (.if_icmp .ge 20, 3) := by decide +kernel
theorem dX9_sentence_107 : decode cX9_sentence 107 = .ok (.aload_n 0, 1) := by decide +kernel
theorem dX9_sentence_108 : decode cX9_sentence 108 = .ok (.getfield 64, 3) := by decide +kernel
theorem dX9_sentence_111 : decode cX9_sentence 111 = .ok (.iload 4, 2) := by decide +kernel
theorem dX9_sentence_113 : decode cX9_sentence 113 = .ok (.iload 9, 2) := by decide +kernel
theorem dX9_sentence_115 : decode cX9_sentence 115 = .ok (.iadd, 1) := by decide +kernel
theorem dX9_sentence_116 : decode cX9_sentence 116 = .ok (.baload, 1) := by decide +kernel
theorem dX9_sentence_117 : decode cX9_sentence 117 = .ok (.ifCond .eq 7, 3) := by decide +kernel
theorem dX9_sentence_120 : decode cX9_sentence 120 = .ok (.iconst 1, 1) := by decide +kernel
theorem dX9_sentence_121 : decode cX9_sentence 121 = .ok (.goto 4, 3) := by decide +kernel
theorem dX9_sentence_124 : decode cX9_sentence 124 = .ok (.iconst 0, 1) := by decide +kernel
theorem dX9_sentence_125 : decode cX9_sentence 125 = .ok (.iadd, 1) := by decide +kernel
theorem dX9_sentence_126 : decode cX9_sentence 126 = .ok (.istore 8, 2) := by decide +kernel
theorem dX9_sentence_128 : decode cX9_sentence 128 = .ok (.iinc 9 1, 3) := by decide +kernel
theorem dX9_sentence_131 : decode cX9_sentence 131 = .ok (.goto (-48), 3) := by decide +kernel
theorem dX9_sentence_134 : decode cX9_sentence 134 = .ok (.aload_n 0, 1) := by decide +kernel
theorem dX9_sentence_135 : decode cX9_sentence 135 = .ok (.iload 8, 2) := by decide +kernel
theorem dX9_sentence_137 : decode cX9_sentence 137 = .ok (.bipush 40, 2) := by decide +kernel
theorem dX9_sentence_139 : decode cX9_sentence 139 = .ok (.if_icmp .ge 11, 3) := by decide +kernel
theorem dX9_sentence_142 : decode cX9_sentence 142 = .ok (.iload 8, 2) := by decide +kernel
theorem dX9_sentence_144 : decode cX9_sentence 144 = .ok (.bipush 48, 2) := by decide +kernel
theorem dX9_sentence_146 : decode cX9_sentence 146 = .ok (.iadd, 1) := by decide +kernel
theorem dX9_sentence_147 : decode cX9_sentence 147 = .ok (.goto 8, 3) := by decide +kernel
theorem dX9_sentence_150 : decode cX9_sentence 150 = .ok (.iload 8, 2) := by decide +kernel
theorem dX9_sentence_152 : decode cX9_sentence 152 = .ok (.bipush 56, 2) := by decide +kernel
theorem dX9_sentence_154 : decode cX9_sentence 154 = .ok (.iadd, 1) := by decide +kernel
theorem dX9_sentence_155 : decode cX9_sentence 155 = .ok (.invokevirtual 358, 3) := by decide +kernel
theorem dX9_sentence_158 : decode cX9_sentence 158 = .ok (.iinc 7 1, 3) := by decide +kernel
theorem dX9_sentence_161 : decode cX9_sentence 161 = .ok (.goto (-95), 3) := by decide +kernel
theorem dX9_sentence_164 : decode cX9_sentence 164 = .ok (.aload_n 0, 1) := by decide +kernel
theorem dX9_sentence_165 : decode cX9_sentence 165 = .ok (.bipush 44, 2) := by decide +kernel
theorem dX9_sentence_167 : decode cX9_sentence 167 = .ok (.invokevirtual 358, 3) := by decide +kernel
theorem dX9_sentence_170 : decode cX9_sentence 170 = .ok (.aload_n 0, 1) := by decide +kernel
theorem dX9_sentence_171 : decode cX9_sentence 171 = .ok (.bipush 48, 2) := by decide +kernel
theorem dX9_sentence_173 : decode cX9_sentence 173 = .ok (.bipush 6, 2) := by decide +kernel
theorem dX9_sentence_175 : decode cX9_sentence 175 = .ok (.iload 6, 2) := by decide +kernel
theorem dX9_sentence_177 : decode cX9_sentence 177 = .ok (.imul, 1) := by decide +kernel
theorem dX9_sentence_178 : decode cX9_sentence 178 = .ok (.iadd, 1) := by decide +kernel
theorem dX9_sentence_179 : decode cX9_sentence 179 = .ok (.iload 5, 2) := by decide +kernel
theorem dX9_sentence_181 : decode cX9_sentence 181 = .ok (.isub, 1) := by decide +kernel
theorem dX9_sentence_182 : decode cX9_sentence 182 = .ok (.invokevirtual 358, 3) := by decide +kernel
theorem dX9_sentence_185 : decode cX9_sentence 185 = .ok (.aload_n 0, 1) := by decide +kernel
theorem dX9_sentence_186 : decode cX9_sentence 186 = .ok (.getfield 355, 3) := by decide +kernel
theorem dX9_sentence_189 : decode cX9_sentence 189 = .ok (.istore 7, 2) := by decide +kernel
theorem dX9_sentence_191 : decode cX9_sentence 191 = .ok (.aload_n 0, 1) := by decide +kernel
theorem dX9_sentence_192 : decode cX9_sentence 192 = .ok (.bipush 42, 2) := by decide +kernel
theorem dX9_sentence_194 : decode cX9_sentence 194 = .ok (.invokevirtual 358, 3) := by decide +kernel
theorem dX9_sentence_197 : decode cX9_sentence 197 = .ok (.aload_n 0, 1) := by decide +kernel
theorem dX9_sentence_198 : decode cX9_sentence 198 = .ok (.iload 7, 2) := by decide +kernel
theorem dX9_sentence_200 : decode cX9_sentence 200 = .ok (.iconst 4, 1) := by decide +kernel
theorem dX9_sentence_201 : decode cX9_sentence 201 = .ok (.ishr, 1) := by decide +kernel
theorem dX9_sentence_202 : decode cX9_sentence 202 = .ok (.invokestatic 369, 3) := by decide +kernel
theorem dX9_sentence_205 : decode cX9_sentence 205 = .ok (.invokevirtual 358, 3) := by decide +kernel
theorem dX9_sentence_208 : decode cX9_sentence 208 = .ok (.aload_n 0, 1) := by decide +kernel
theorem dX9_sentence_209 : decode cX9_sentence 209 = .ok (.iload 7, 2) := by decide +kernel
theorem dX9_sentence_211 : decode cX9_sentence 211 = .ok (.bipush 15, 2) := by decide +kernel
theorem dX9_sentence_213 : decode cX9_sentence 213 = .ok (.iand, 1) := by decide +kernel
theorem dX9_sentence_214 : decode cX9_sentence 214 = .ok (.invokestatic 369, 3) := by decide +kernel
theorem dX9_sentence_217 : decode cX9_sentence 217 = .ok (.invokevirtual 358, 3) := by decide +kernel
theorem dX9_sentence_220 : decode cX9_sentence 220 = .ok (.aload_n 0, 1) := by decide +kernel
theorem dX9_sentence_221 : decode cX9_sentence 221 = .ok (.bipush 13, 2) := by decide +kernel
theorem dX9_sentence_223 : decode cX9_sentence 223 = .ok (.invokevirtual 358, 3) := by decide +kernel
theorem dX9_sentence_226 : decode cX9_sentence 226 = .ok (.aload_n 0, 1) := by decide +kernel
theorem dX9_sentence_227 : decode cX9_sentence 227 = .ok (.bipush 10, 2) := by decide +kernel
theorem dX9_sentence_229 : decode cX9_sentence 229 = .ok (.invokevirtual 358, 3) := by decide +kernel
theorem dX9_sentence_232 : decode cX9_sentence 232 = .ok (.return_, 1) := by decide +kernel
theorem dX9_send_0 : decode cX9_send 0 = .ok (.aload_n 0, 1) := by decide +kernel
theorem dX9_send_1 : decode cX9_send 1 = .ok (.iconst 0, 1) := by decide +kernel
theorem dX9_send_2 : decode cX9_send 2 = .ok (.putfield 1, 3) := by decide +kernel
theorem dX9_send_5 : decode cX9_send 5 = .ok (.iload_n 1, 1) := by decide +kernel
theorem dX9_send_6 : decode cX9_send 6 = .ok (.i2l, 1) := by decide +kernel
theorem dX9_send_7 : decode cX9_send 7 = .ok (.lconst 0, 1) := by decide +kernel
theorem dX9_send_8 : decode cX9_send 8 = .ok (.aload_n 0, 1) := by decide +kernel
theorem dX9_send_9 : decode cX9_send 9 = .ok (.getfield 289, 3) := by decide +kernel
theorem dX9_send_12 : decode cX9_send 12 = .ok (.iconst 1, 1) := by decide +kernel
theorem dX9_send_13 : decode cX9_send 13 = .ok (.isub, 1) := by decide +kernel
theorem dX9_send_14 : decode cX9_send 14 = .ok (.i2l, 1) := by decide +kernel
theorem dX9_send_15 : decode cX9_send 15 = .ok (.invokestatic 74, 3) := by decide +kernel
theorem dX9_send_18 : decode cX9_send 18 = .ok (.ifCond .ne 9, 3) := by decide +kernel
theorem dX9_send_21 : decode cX9_send 21 = .ok (.aload_n 0, 1) := by decide +kernel
theorem dX9_send_22 : decode cX9_send 22 = .ok (.iconst 1, 1) := by decide +kernel
theorem dX9_send_23 : decode cX9_send 23 = .ok (.invokevirtual 343, 3) := by decide +kernel
theorem dX9_send_26 : decode cX9_send 26 = .ok (.ireturn, 1) := by decide +kernel
theorem dX9_send_27 : decode cX9_send 27 = .ok (.iload_n 2, 1) := by decide +kernel
theorem dX9_send_28 : decode cX9_send 28 = .ok (.iconst 1, 1) := by decide +kernel
theorem dX9_send_29 : decode cX9_send 29 = .ok (.if_icmp .eq 32, 3) := by decide +kernel
theorem dX9_send_32 : decode cX9_send 32 = .ok (.iload_n 2, 1) := by decide +kernel
theorem dX9_send_33 : decode cX9_send 33 = .ok (.bipush 18, 2) := by decide +kernel
theorem dX9_send_35 : decode cX9_send 35 = .ok (.if_icmp .eq 26, 3) := by decide +kernel
theorem dX9_send_38 : decode cX9_send 38 = .ok (.iload_n 2, 1) := by decide +kernel
theorem dX9_send_39 : decode cX9_send 39 = .ok (.iconst 5, 1) := by decide +kernel
theorem dX9_send_40 : decode cX9_send 40 = .ok (.if_icmp .ne 15, 3) := by decide +kernel
theorem dX9_send_43 : decode cX9_send 43 = .ok (.iload_n 3, 1) := by decide +kernel
theorem dX9_send_44 : decode cX9_send 44 = .ok (.i2l, 1) := by decide +kernel
theorem dX9_send_45 : decode cX9_send 45 = .ok (.lconst 0, 1) := by decide +kernel
theorem dX9_send_46 : decode cX9_send 46 = .ok (.ldc2_w 372, 3) := by decide +kernel
theorem dX9_send_49 : decode cX9_send 49 = .ok (.invokestatic 74, 3) := by decide +kernel
theorem dX9_send_52 : decode cX9_send 52 = .ok (.ifCond .ne 9, 3) := by decide +kernel
theorem dX9_send_55 : decode cX9_send 55 = .ok (.aload_n 0, 1) := by decide +kernel
theorem dX9_send_56 : decode cX9_send 56 = .ok (.iconst 2, 1) := by decide +kernel
theorem dX9_send_57 : decode cX9_send 57 = .ok (.invokevirtual 343, 3) := by decide +kernel
theorem dX9_send_60 : decode cX9_send 60 = .ok (.ireturn, 1) := by decide +kernel
theorem dX9_send_61 : decode cX9_send 61 = .ok (.aload_n 0, 1) := by decide +kernel
theorem dX9_send_62 : decode cX9_send 62 = .ok (.iconst 0, 1) := by decide +kernel
theorem dX9_send_63 : decode cX9_send 63 = .ok (.putfield 352, 3) := by decide +kernel
theorem dX9_send_66 : decode cX9_send 66 = .ok (.aload_n 0, 1) := by decide +kernel
theorem dX9_send_67 : decode cX9_send 67 = .ok (.iload_n 2, 1) := by decide +kernel
theorem dX9_send_68 : decode cX9_send 68 = .ok (.bipush 6, 2) := by decide +kernel
theorem dX9_send_70 : decode cX9_send 70 = .ok (.invokevirtual 311, 3) := by decide +kernel
theorem dX9_send_73 : decode cX9_send 73 = .ok (.aload_n 0, 1) := by decide +kernel
theorem dX9_send_74 : decode cX9_send 74 = .ok (.iconst 0, 1) := by decide +kernel
theorem dX9_send_75 : decode cX9_send 75 = .ok (.iconst 2, 1) := by decide +kernel
theorem dX9_send_76 : decode cX9_send 76 = .ok (.invokevirtual 311, 3) := by decide +kernel
theorem dX9_send_79 : decode cX9_send 79 = .ok (.aload_n 0, 1) := by decide +kernel
theorem dX9_send_80 : decode cX9_send 80 = .ok (.aload_n 0, 1) := by decide +kernel
theorem dX9_send_81 : decode cX9_send 81 = .ok (.getfield 55, 3) := by decide +kernel
theorem dX9_send_84 : decode cX9_send 84 = .ok (.bipush 24, 2) := by decide +kernel
theorem dX9_send_86 : decode cX9_send 86 = .ok (.iload_n 1, 1) := by decide +kernel
theorem dX9_send_87 : decode cX9_send 87 = .ok (.imul, 1) := by decide +kernel
theorem dX9_send_88 : decode cX9_send 88 = .ok (.iaload, 1) := by decide +kernel
theorem dX9_send_89 : decode cX9_send 89 = .ok (.bipush 30, 2) := by decide +kernel
theorem dX9_send_91 : decode cX9_send 91 = .ok (.invokevirtual 311, 3) := by decide +kernel
theorem dX9_send_94 : decode cX9_send 94 = .ok (.aload_n 0, 1) := by decide +kernel
theorem dX9_send_95 : decode cX9_send 95 = .ok (.iconst 1, 1) := by decide +kernel
theorem dX9_send_96 : decode cX9_send 96 = .ok (.putfield 303, 3) := by decide +kernel
theorem dX9_send_99 : decode cX9_send 99 = .ok (.aload_n 0, 1) := by decide +kernel
theorem dX9_send_100 : decode cX9_send 100 = .ok (.iload_n 1, 1) := by decide +kernel
theorem dX9_send_101 : decode cX9_send 101 = .ok (.iload_n 2, 1) := by decide +kernel
theorem dX9_send_102 : decode cX9_send 102 = .ok (.invokevirtual 297, 3) := by decide +kernel
theorem dX9_send_105 : decode cX9_send 105 = .ok (.aload_n 0, 1) := by decide +kernel
theorem dX9_send_106 : decode cX9_send 106 = .ok (.iconst 0, 1) := by decide +kernel
theorem dX9_send_107 : decode cX9_send 107 = .ok (.putfield 303, 3) := by decide +kernel
theorem dX9_send_110 : decode cX9_send 110 = .ok (.aload_n 0, 1) := by decide +kernel
theorem dX9_send_111 : decode cX9_send 111 = .ok (.iconst 0, 1) := by decide +kernel
theorem dX9_send_112 : decode cX9_send 112 = .ok (.putfield 338, 3) := by decide +kernel
theorem dX9_send_115 : decode cX9_send 115 = .ok (.iload_n 2, 1) := by decide +kernel
theorem dX9_send_116 : decode cX9_send 116 = .ok (.iconst 5, 1) := by decide +kernel
theorem dX9_send_117 : decode cX9_send 117 = .ok (.if_icmp .ne 29, 3) := by decide +kernel
theorem dX9_send_120 : decode cX9_send 120 = .ok (.aload_n 0, 1) := by decide +kernel
theorem dX9_send_121 : decode cX9_send 121 = .ok (.iconst 2, 1) := by decide +kernel
theorem dX9_send_122 : decode cX9_send 122 = .ok (.iconst 1, 1) := by decide +kernel
theorem dX9_send_123 : decode cX9_send 123 = .ok (.iload_n 3, 1) := by decide +kernel
theorem dX9_send_124 : decode cX9_send 124 = .ok (.iconst 0, 1) := by decide +kernel
theorem dX9_send_125 : decode cX9_send 125 = .ok (.sipush 360, 3) := by decide +kernel
theorem dX9_send_128 : decode cX9_send 128 = .ok (.invokevirtual 374, 3) := by decide +kernel
theorem dX9_send_131 : decode cX9_send 131 = .ok (.aload_n 0, 1) := by decide +kernel
theorem dX9_send_132 : decode cX9_send 132 = .ok (.iconst 2, 1) := by decide +kernel
theorem dX9_send_133 : decode cX9_send 133 = .ok (.iconst 2, 1) := by decide +kernel
theorem dX9_send_134 : decode cX9_send 134 = .ok (.iload_n 3, 1) := by decide +kernel
theorem dX9_send_135 : decode cX9_send 135 = .ok (.sipush 360, 3) := by decide +kernel
theorem dX9_send_138 : decode cX9_send 138 = .ok (.bipush 64, 2) := by decide +kernel
theorem dX9_send_140 : decode cX9_send 140 = .ok (.invokevirtual 374, 3) := by decide +kernel
theorem dX9_send_143 : decode cX9_send 143 = .ok (.goto 14, 3) := by decide +kernel
theorem dX9_send_146 : decode cX9_send 146 = .ok (.aload_n 0, 1) := by decide +kernel
theorem dX9_send_147 : decode cX9_send 147 = .ok (.iconst 1, 1) := by decide +kernel
theorem dX9_send_148 : decode cX9_send 148 = .ok (.iconst 1, 1) := by decide +kernel
theorem dX9_send_149 : decode cX9_send 149 = .ok (.iconst (-1), 1) := by decide +kernel
theorem dX9_send_150 : decode cX9_send 150 = .ok (.iconst 0, 1) := by decide +kernel
theorem dX9_send_151 : decode cX9_send 151 = .ok (.sipush 168, 3) := by decide +kernel
theorem dX9_send_154 : decode cX9_send 154 = .ok (.invokevirtual 374, 3) := by decide +kernel
theorem dX9_send_157 : decode cX9_send 157 = .ok (.aload_n 0, 1) := by decide +kernel
theorem dX9_send_158 : decode cX9_send 158 = .ok (.getfield 338, 3) := by decide +kernel
theorem dX9_send_161 : decode cX9_send 161 = .ok (.ireturn, 1) := by decide +kernel
theorem dX9_out_0 : decode cX9_out 0 = .ok (.aload_n 0, 1) := by decide +kernel
theorem dX9_out_1 : decode cX9_out 1 = .ok (.iconst 0, 1) := by decide +kernel
theorem dX9_out_2 : decode cX9_out 2 = .ok (.putfield 1, 3) := by decide +kernel
theorem dX9_out_5 : decode cX9_out 5 = .ok (.iload_n 1, 1) := by decide +kernel
theorem dX9_out_6 : decode cX9_out 6 = .ok (.i2l, 1) := by decide +kernel
theorem dX9_out_7 : decode cX9_out 7 = .ok (.lconst 0, 1) := by decide +kernel
theorem dX9_out_8 : decode cX9_out 8 = .ok (.aload_n 0, 1) := by decide +kernel
theorem dX9_out_9 : decode cX9_out 9 = .ok (.getfield 338, 3) := by decide +kernel
theorem dX9_out_12 : decode cX9_out 12 = .ok (.iconst 1, 1) := by decide +kernel
theorem dX9_out_13 : decode cX9_out 13 = .ok (.isub, 1) := by decide +kernel
theorem dX9_out_14 : decode cX9_out 14 = .ok (.i2l, 1) := by decide +kernel
theorem dX9_out_15 : decode cX9_out 15 = .ok (.invokestatic 74, 3) := by decide +kernel
theorem dX9_out_18 : decode cX9_out 18 = .ok (.ifCond .eq 12, 3) := by decide +kernel
theorem dX9_out_21 : decode cX9_out 21 = .ok (.aload_n 0, 1) := by decide +kernel
theorem dX9_out_22 : decode cX9_out 22 = .ok (.getfield 17, 3) := by decide +kernel
theorem dX9_out_25 : decode cX9_out 25 = .ok (.iload_n 1, 1) := by decide +kernel
theorem dX9_out_26 : decode cX9_out 26 = .ok (.iaload, 1) := by decide +kernel
theorem dX9_out_27 : decode cX9_out 27 = .ok (.goto 5, 3) := by decide +kernel
theorem dX9_out_30 : decode cX9_out 30 = .ok (.ldc 73, 2) := by decide +kernel
theorem dX9_out_32 : decode cX9_out 32 = .ok (.ireturn, 1) := by decide +kernel
theorem dX9_again_0 : decode cX9_again 0 = .ok (.aload_n 0, 1) := by decide +kernel
theorem dX9_again_1 : decode cX9_again 1 = .ok (.iconst 0, 1) := by decide +kernel
theorem dX9_again_2 : decode cX9_again 2 = .ok (.putfield 1, 3) := by decide +kernel
theorem dX9_again_5 : decode cX9_again 5 = .ok (.aload_n 0, 1) := by decide +kernel
theorem dX9_again_6 : decode cX9_again 6 = .ok (.getfield 70, 3) := by decide +kernel
theorem dX9_again_9 : decode cX9_again 9 = .ok (.aload_n 0, 1) := by decide +kernel
theorem dX9_again_10 : decode cX9_again 10 = .ok (.getfield 338, 3) := by decide +kernel
theorem dX9_again_13 : decode cX9_again 13 = .ok (.iadd, 1) := by decide +kernel
theorem dX9_again_14 : decode cX9_again 14 = .ok (.sipush 2000, 3) := by decide +kernel
theorem dX9_again_17 : decode cX9_again 17 = .ok (.if_icmp .le 6, 3) := by decide +kernel
theorem dX9_again_20 : decode cX9_again 20 = .ok (.ldc 73, 2) := by decide +kernel
theorem dX9_again_22 : decode cX9_again 22 = .ok (.ireturn, 1) := by decide +kernel
theorem dX9_again_23 : decode cX9_again 23 = .ok (.iconst 0, 1) := by decide +kernel
theorem dX9_again_24 : decode cX9_again 24 = .ok (.istore_n 1, 1) := by decide +kernel
theorem dX9_again_25 : decode cX9_again 25 = .ok (.iload_n 1, 1) := by decide +kernel
theorem dX9_again_26 : decode cX9_again 26 = .ok (.aload_n 0, 1) := by decide +kernel
theorem dX9_again_27 : decode cX9_again 27 = .ok (.getfield 338, 3) := by decide +kernel
theorem dX9_again_30 : decode cX9_again 30 = .ok (.if_icmp .ge 34, 3) := by decide +kernel
theorem dX9_again_33 : decode cX9_again 33 = .ok (.aload_n 0, 1) := by decide +kernel
theorem dX9_again_34 : decode cX9_again 34 = .ok (.getfield 13, 3) := by decide +kernel
theorem dX9_again_37 : decode cX9_again 37 = .ok (.aload_n 0, 1) := by decide +kernel
theorem dX9_again_38 : decode cX9_again 38 = .ok (.getfield 70, 3) := by decide +kernel
theorem dX9_again_41 : decode cX9_again 41 = .ok (.aload_n 0, 1) := by decide +kernel
theorem dX9_again_42 : decode cX9_again 42 = .ok (.getfield 17, 3) := by decide +kernel
theorem dX9_again_45 : decode cX9_again 45 = .ok (.iload_n 1, 1) := by decide +kernel
theorem dX9_again_46 : decode cX9_again 46 = .ok (.iaload, 1) := by decide +kernel
theorem dX9_again_47 : decode cX9_again 47 = .ok (.iastore, 1) := by decide +kernel
theorem dX9_again_48 : decode cX9_again 48 = .ok (.aload_n 0, 1) := by decide +kernel
theorem dX9_again_49 : decode cX9_again 49 = .ok (.dup, 1) := by decide +kernel
theorem dX9_again_50 : decode cX9_again 50 = .ok (.getfield 70, 3) := by decide +kernel
theorem dX9_again_53 : decode cX9_again 53 = .ok (.iconst 1, 1) := by decide +kernel
theorem dX9_again_54 : decode cX9_again 54 = .ok (.iadd, 1) := by decide +kernel
theorem dX9_again_55 : decode cX9_again 55 = .ok (.putfield 70, 3) := by decide +kernel
theorem dX9_again_58 : decode cX9_again 58 = .ok (.iinc 1 1, 3) := by decide +kernel
theorem dX9_again_61 : decode cX9_again 61 = .ok (.goto (-36), 3) := by decide +kernel
theorem dX9_again_64 : decode cX9_again 64 = .ok (.aload_n 0, 1) := by decide +kernel
theorem dX9_again_65 : decode cX9_again 65 = .ok (.getfield 70, 3) := by decide +kernel
theorem dX9_again_68 : decode cX9_again 68 = .ok (.ireturn, 1) := by decide +kernel
theorem dX9_forget_0 : decode cX9_forget 0 = .ok (.aload_n 0, 1) := by decide +kernel
theorem dX9_forget_1 : decode cX9_forget 1 = .ok (.iconst 0, 1) := by decide +kernel
theorem dX9_forget_2 : decode cX9_forget 2 = .ok (.putfield 90, 3) := by decide +kernel
theorem dX9_forget_5 : decode cX9_forget 5 = .ok (.aload_n 0, 1) := by decide +kernel
theorem dX9_forget_6 : decode cX9_forget 6 = .ok (.iconst 0, 1) := by decide +kernel
theorem dX9_forget_7 : decode cX9_forget 7 = .ok (.putfield 93, 3) := by decide +kernel
theorem dX9_forget_10 : decode cX9_forget 10 = .ok (.aload_n 0, 1) := by decide +kernel
theorem dX9_forget_11 : decode cX9_forget 11 = .ok (.iconst 0, 1) := by decide +kernel
theorem dX9_forget_12 : decode cX9_forget 12 = .ok (.putfield 289, 3) := by decide +kernel
theorem dX9_forget_15 : decode cX9_forget 15 = .ok (.aload_n 0, 1) := by decide +kernel
theorem dX9_forget_16 : decode cX9_forget 16 = .ok (.iconst 0, 1) := by decide +kernel
theorem dX9_forget_17 : decode cX9_forget 17 = .ok (.putfield 280, 3) := by decide +kernel
theorem dX9_forget_20 : decode cX9_forget 20 = .ok (.iconst 0, 1) := by decide +kernel
theorem dX9_forget_21 : decode cX9_forget 21 = .ok (.istore_n 1, 1) := by decide +kernel
theorem dX9_forget_22 : decode cX9_forget 22 = .ok (.iload_n 1, 1) := by decide +kernel
theorem dX9_forget_23 : decode cX9_forget 23 = .ok (.bipush 9, 2) := by decide +kernel
theorem dX9_forget_25 : decode cX9_forget 25 = .ok (.if_icmp .ge 16, 3) := by decide +kernel
theorem dX9_forget_28 : decode cX9_forget 28 = .ok (.aload_n 0, 1) := by decide +kernel
theorem dX9_forget_29 : decode cX9_forget 29 = .ok (.getfield 23, 3) := by decide +kernel
theorem dX9_forget_32 : decode cX9_forget 32 = .ok (.iload_n 1, 1) := by decide +kernel
theorem dX9_forget_33 : decode cX9_forget 33 = .ok (.iconst 0, 1) := by decide +kernel
theorem dX9_forget_34 : decode cX9_forget 34 = .ok (.iastore, 1) := by decide +kernel
theorem dX9_forget_35 : decode cX9_forget 35 = .ok (.iinc 1 1, 3) := by decide +kernel
theorem dX9_forget_38 : decode cX9_forget 38 = .ok (.goto (-16), 3) := by decide +kernel
theorem dX9_forget_41 : decode cX9_forget 41 = .ok (.iconst 0, 1) := by decide +kernel
theorem dX9_forget_42 : decode cX9_forget 42 = .ok (.istore_n 1, 1) := by decide +kernel
theorem dX9_forget_43 : decode cX9_forget 43 = .ok (.iload_n 1, 1) := by decide +kernel
theorem dX9_forget_44 : decode cX9_forget 44 = .ok (.bipush 18, 2) := by decide +kernel
theorem dX9_forget_46 : decode cX9_forget 46 = .ok (.if_icmp .ge 17, 3) := by decide +kernel
theorem dX9_forget_49 : decode cX9_forget 49 = .ok (.aload_n 0, 1) := by decide +kernel
theorem dX9_forget_50 : decode cX9_forget 50 = .ok (.getfield 35, 3) := by decide +kernel
theorem dX9_forget_53 : decode cX9_forget 53 = .ok (.iload_n 1, 1) := by decide +kernel
theorem dX9_forget_54 : decode cX9_forget 54 = .ok (.ldc 73, 2) := by decide +kernel
theorem dX9_forget_56 : decode cX9_forget 56 = .ok (.iastore, 1) := by decide +kernel
theorem dX9_forget_57 : decode cX9_forget 57 = .ok (.iinc 1 1, 3) := by decide +kernel
theorem dX9_forget_60 : decode cX9_forget 60 = .ok (.goto (-17), 3) := by decide +kernel
theorem dX9_forget_63 : decode cX9_forget 63 = .ok (.iconst 0, 1) := by decide +kernel
theorem dX9_forget_64 : decode cX9_forget 64 = .ok (.istore_n 1, 1) := by decide +kernel
theorem dX9_forget_65 : decode cX9_forget 65 = .ok (.iload_n 1, 1) := by decide +kernel
theorem dX9_forget_66 : decode cX9_forget 66 = .ok (.bipush 11, 2) := by decide +kernel
theorem dX9_forget_68 : decode cX9_forget 68 = .ok (.if_icmp .ge 23, 3) := by decide +kernel
theorem dX9_forget_71 : decode cX9_forget 71 = .ok (.aload_n 0, 1) := by decide +kernel
theorem dX9_forget_72 : decode cX9_forget 72 = .ok (.getfield 41, 3) := by decide +kernel
theorem dX9_forget_75 : decode cX9_forget 75 = .ok (.iload_n 1, 1) := by decide +kernel
theorem dX9_forget_76 : decode cX9_forget 76 = .ok (.iconst 0, 1) := by decide +kernel
theorem dX9_forget_77 : decode cX9_forget 77 = .ok (.iastore, 1) := by decide +kernel
theorem dX9_forget_78 : decode cX9_forget 78 = .ok (.aload_n 0, 1) := by decide +kernel
theorem dX9_forget_79 : decode cX9_forget 79 = .ok (.getfield 44, 3) := by decide +kernel
theorem dX9_forget_82 : decode cX9_forget 82 = .ok (.iload_n 1, 1) := by decide +kernel
theorem dX9_forget_83 : decode cX9_forget 83 = .ok (.iconst 0, 1) := by decide +kernel
theorem dX9_forget_84 : decode cX9_forget 84 = .ok (.iastore, 1) := by decide +kernel
theorem dX9_forget_85 : decode cX9_forget 85 = .ok (.iinc 1 1, 3) := by decide +kernel
theorem dX9_forget_88 : decode cX9_forget 88 = .ok (.goto (-23), 3) := by decide +kernel
theorem dX9_forget_91 : decode cX9_forget 91 = .ok (.return_, 1) := by decide +kernel
theorem dX9_clear_0 : decode cX9_clear 0 = .ok (.aload_n 0, 1) := by decide +kernel
theorem dX9_clear_1 : decode cX9_clear 1 = .ok (.iconst 0, 1) := by decide +kernel
theorem dX9_clear_2 : decode cX9_clear 2 = .ok (.putfield 1, 3) := by decide +kernel
theorem dX9_clear_5 : decode cX9_clear 5 = .ok (.aload_n 0, 1) := by decide +kernel
theorem dX9_clear_6 : decode cX9_clear 6 = .ok (.invokevirtual 67, 3) := by decide +kernel
theorem dX9_clear_9 : decode cX9_clear 9 = .ok (.return_, 1) := by decide +kernel
end
section
theorem dX0_init_0 : decode cX0_init 0 = .ok (.aload_n 0, 1) := by decide +kernel
theorem dX0_init_1 : decode cX0_init 1 = .ok (.invokespecial 1, 3) := by decide +kernel
theorem dX0_init_4 : decode cX0_init 4 = .ok (.aload_n 0, 1) := by decide +kernel
theorem dX0_init_5 : decode cX0_init 5 = .ok (.iload_n 1, 1) := by decide +kernel
theorem dX0_init_6 : decode cX0_init 6 = .ok (.ifCond .ge 7, 3) := by decide +kernel
theorem dX0_init_9 : decode cX0_init 9 = .ok (.iconst 0, 1) := by decide +kernel
theorem dX0_init_10 : decode cX0_init 10 = .ok (.goto 4, 3) := by decide +kernel
theorem dX0_init_13 : decode cX0_init 13 = .ok (.iload_n 1, 1) := by decide +kernel
theorem dX0_init_14 : decode cX0_init 14 = .ok (.putfield 7, 3) := by decide +kernel
theorem dX0_init_17 : decode cX0_init 17 = .ok (.aload_n 0, 1) := by decide +kernel
theorem dX0_init_18 : decode cX0_init 18 = .ok (.aload_n 0, 1) := by decide +kernel
theorem dX0_init_19 : decode cX0_init 19 = .ok (.getfield 7, 3) := by decide +kernel
theorem dX0_init_22 : decode cX0_init 22 = .ok (.bipush 32, 2) := by decide +kernel
theorem dX0_init_24 : decode cX0_init 24 = .ok (.idiv, 1) := by decide +kernel
theorem dX0_init_25 : decode cX0_init 25 = .ok (.iconst 2, 1) := by decide +kernel
theorem dX0_init_26 : decode cX0_init 26 = .ok (.iadd, 1) := by decide +kernel
theorem dX0_init_27 : decode cX0_init 27 = .ok (.newarray .int, 2) := by decide +kernel
theorem dX0_init_29 : decode cX0_init 29 = .ok (.putfield 13, 3) := by decide +kernel
theorem dX0_init_32 : decode cX0_init 32 = .ok (.return_, 1) := by decide +kernel
theorem dX0_empty_0 : decode cX0_empty 0 = .ok (.aload_n 0, 1) := by decide +kernel
theorem dX0_empty_1 : decode cX0_empty 1 = .ok (.getfield 13, 3) := by decide +kernel
theorem dX0_empty_4 : decode cX0_empty 4 = .ok (.iconst 0, 1) := by decide +kernel
theorem dX0_empty_5 : decode cX0_empty 5 = .ok (.invokestatic 17, 3) := by decide +kernel
theorem dX0_empty_8 : decode cX0_empty 8 = .ok (.aload_n 0, 1) := by decide +kernel
theorem dX0_empty_9 : decode cX0_empty 9 = .ok (.iconst 0, 1) := by decide +kernel
theorem dX0_empty_10 : decode cX0_empty 10 = .ok (.putfield 23, 3) := by decide +kernel
theorem dX0_empty_13 : decode cX0_empty 13 = .ok (.return_, 1) := by decide +kernel
theorem dX0_copy_0 : decode cX0_copy 0 = .ok (.iconst 0, 1) := by decide +kernel
theorem dX0_copy_1 : decode cX0_copy 1 = .ok (.istore_n 2, 1) := by decide +kernel
theorem dX0_copy_2 : decode cX0_copy 2 = .ok (.iload_n 2, 1) := by decide +kernel
theorem dX0_copy_3 : decode cX0_copy 3 = .ok (.aload_n 0, 1) := by decide +kernel
theorem dX0_copy_4 : decode cX0_copy 4 = .ok (.getfield 13, 3) := by decide +kernel
theorem dX0_copy_7 : decode cX0_copy 7 = .ok (.arraylength, 1) := by decide +kernel
theorem dX0_copy_8 : decode cX0_copy 8 = .ok (.if_icmp .ge 34, 3) := by decide +kernel
theorem dX0_copy_11 : decode cX0_copy 11 = .ok (.aload_n 0, 1) := by decide +kernel
theorem dX0_copy_12 : decode cX0_copy 12 = .ok (.getfield 13, 3) := by decide +kernel
theorem dX0_copy_15 : decode cX0_copy 15 = .ok (.iload_n 2, 1) := by decide +kernel
theorem dX0_copy_16 : decode cX0_copy 16 = .ok (.iload_n 2, 1) := by decide +kernel
theorem dX0_copy_17 : decode cX0_copy 17 = .ok (.aload_n 1, 1) := by decide +kernel
theorem dX0_copy_18 : decode cX0_copy 18 = .ok (.getfield 13, 3) := by decide +kernel
theorem dX0_copy_21 : decode cX0_copy 21 = .ok (.arraylength, 1) := by decide +kernel
theorem dX0_copy_22 : decode cX0_copy 22 = .ok (.if_icmp .ge 12, 3) := by decide +kernel
theorem dX0_copy_25 : decode cX0_copy 25 = .ok (.aload_n 1, 1) := by decide +kernel
theorem dX0_copy_26 : decode cX0_copy 26 = .ok (.getfield 13, 3) := by decide +kernel
theorem dX0_copy_29 : decode cX0_copy 29 = .ok (.iload_n 2, 1) := by decide +kernel
theorem dX0_copy_30 : decode cX0_copy 30 = .ok (.iaload, 1) := by decide +kernel
theorem dX0_copy_31 : decode cX0_copy 31 = .ok (.goto 4, 3) := by decide +kernel
theorem dX0_copy_34 : decode cX0_copy 34 = .ok (.iconst 0, 1) := by decide +kernel
theorem dX0_copy_35 : decode cX0_copy 35 = .ok (.iastore, 1) := by decide +kernel
theorem dX0_copy_36 : decode cX0_copy 36 = .ok (.iinc 2 1, 3) := by decide +kernel
theorem dX0_copy_39 : decode cX0_copy 39 = .ok (.goto (-37), 3) := by decide +kernel
theorem dX0_copy_42 : decode cX0_copy 42 = .ok (.aload_n 0, 1) := by decide +kernel
theorem dX0_copy_43 : decode cX0_copy 43 = .ok (.aload_n 1, 1) := by decide +kernel
theorem dX0_copy_44 : decode cX0_copy 44 = .ok (.getfield 23, 3) := by decide +kernel
theorem dX0_copy_47 : decode cX0_copy 47 = .ok (.putfield 23, 3) := by decide +kernel
theorem dX0_copy_50 : decode cX0_copy 50 = .ok (.return_, 1) := by decide +kernel
theorem dX0_append_0 : decode cX0_append 0 = .ok (.iload_n 2, 1) := by decide +kernel
theorem dX0_append_1 : decode cX0_append 1 = .ok (.iconst 1, 1) := by decide +kernel
theorem dX0_append_2 : decode cX0_append 2 = .ok (.if_icmp .lt 29, 3) := by decide +kernel
theorem dX0_append_5 : decode cX0_append 5 = .ok (.iload_n 2, 1) := by decide +kernel
theorem dX0_append_6 : decode cX0_append 6 = .ok (.bipush 32, 2) := by decide +kernel
theorem dX0_append_8 : decode cX0_append 8 = .ok (.if_icmp .gt 23, 3) := by decide +kernel
theorem dX0_append_11 : decode cX0_append 11 = .ok (.aload_n 0, 1) := by decide +kernel
theorem dX0_append_12 : decode cX0_append 12 = .ok (.getfield 23, 3) := by decide +kernel
theorem dX0_append_15 : decode cX0_append 15 = .ok (.ifCond .lt 16, 3) := by decide +kernel
theorem dX0_append_18 : decode cX0_append 18 = .ok (.aload_n 0, 1) := by decide +kernel
theorem dX0_append_19 : decode cX0_append 19 = .ok (.getfield 23, 3) := by decide +kernel
theorem dX0_append_22 : decode cX0_append 22 = .ok (.aload_n 0, 1) := by decide +kernel
theorem dX0_append_23 : decode cX0_append 23 = .ok (.getfield 7, 3) := by decide +kernel
theorem dX0_append_26 : decode cX0_append 26 = .ok (.iload_n 2, 1) := by decide +kernel
theorem dX0_append_27 : decode cX0_append 27 = .ok (.isub, 1) := by decide +kernel
theorem dX0_append_28 : decode cX0_append 28 = .ok (.if_icmp .le 4, 3) := by decide +kernel
theorem dX0_append_31 : decode cX0_append 31 = .ok (.return_, 1) := by decide +kernel
theorem dX0_append_32 : decode cX0_append 32 = .ok (.aload_n 0, 1) := by decide +kernel
theorem dX0_append_33 : decode cX0_append 33 = .ok (.getfield 23, 3) := by decide +kernel
theorem dX0_append_36 : decode cX0_append 36 = .ok (.iconst 5, 1) := by decide +kernel
theorem dX0_append_37 : decode cX0_append 37 = .ok (.ishr, 1) := by decide +kernel
theorem dX0_append_38 : decode cX0_append 38 = .ok (.istore_n 3, 1) := by decide +kernel
theorem dX0_append_39 : decode cX0_append 39 = .ok (.iload_n 1, 1) := by decide +kernel
theorem dX0_append_40 : decode cX0_append 40 = .ok (.i2l, 1) := by decide +kernel
theorem dX0_append_41 : decode cX0_append 41 = .ok (.lconst 1, 1) := by decide +kernel
theorem dX0_append_42 : decode cX0_append 42 = .ok (.iload_n 2, 1) := by decide +kernel
theorem dX0_append_43 : decode cX0_append 43 = .ok (.lshl, 1) := by decide +kernel
theorem dX0_append_44 : decode cX0_append 44 = .ok (.lconst 1, 1) := by decide +kernel
theorem dX0_append_45 : decode cX0_append 45 = .ok (.lsub, 1) := by decide +kernel
theorem dX0_append_46 : decode cX0_append 46 = .ok (.land, 1) := by decide +kernel
theorem dX0_append_47 : decode cX0_append 47 = .ok (.lstore 4, 2) := by decide +kernel
theorem dX0_append_49 : decode cX0_append 49 = .ok (.lload 4, 2) := by decide +kernel
theorem dX0_append_51 : decode cX0_append 51 = .ok (.bipush 64, 2) := by decide +kernel
theorem dX0_append_53 : decode cX0_append 53 = .ok (.iload_n 2, 1) := by decide +kernel
theorem dX0_append_54 : decode cX0_append 54 = .ok (.isub, 1) := by decide +kernel
theorem dX0_append_55 : decode cX0_append 55 = .ok (.aload_n 0, 1) := by decide +kernel
theorem dX0_append_56 : decode cX0_append 56 = .ok (.getfield 23, 3) := by decide +kernel
theorem dX0_append_59 : decode cX0_append 59 = .ok (.bipush 31, 2) := by decide +kernel
theorem dX0_append_61 : decode cX0_append 61 = .ok (.iand, 1) := by decide +kernel
theorem dX0_append_62 : decode cX0_append 62 = .ok (.isub, 1) := by decide +kernel
theorem dX0_append_63 : decode cX0_append 63 = .ok (.lshl, 1) := by decide +kernel
theorem dX0_append_64 : decode cX0_append 64 = .ok (.lstore 6, 2) := by decide +kernel
theorem dX0_append_66 : decode cX0_append 66 = .ok (.aload_n 0, 1) := by decide +kernel
theorem dX0_append_67 : decode cX0_append 67 = .ok (.getfield 13, 3) := by decide +kernel
theorem dX0_append_70 : decode cX0_append 70 = .ok (.iload_n 3, 1) := by decide +kernel
theorem dX0_append_71 : decode cX0_append 71 = .ok (.dup2, 1) := by decide +kernel
theorem dX0_append_72 : decode cX0_append 72 = .ok (.iaload, 1) := by decide +kernel
theorem dX0_append_73 : decode cX0_append 73 = .ok (.lload 6, 2) := by decide +kernel
theorem dX0_append_75 : decode cX0_append 75 = .ok (.bipush 32, 2) := by decide +kernel
theorem dX0_append_77 : decode cX0_append 77 = .ok (.lushr, 1) := by decide +kernel
theorem dX0_append_78 : decode cX0_append 78 = .ok (.l2i, 1) := by decide +kernel
theorem dX0_append_79 : decode cX0_append 79 = .ok (.ior, 1) := by decide +kernel
theorem dX0_append_80 : decode cX0_append 80 = .ok (.iastore, 1) := by decide +kernel
theorem dX0_append_81 : decode cX0_append 81 = .ok (.aload_n 0, 1) := by decide +kernel
theorem dX0_append_82 : decode cX0_append 82 = .ok (.getfield 13, 3) := by decide +kernel
theorem dX0_append_85 : decode cX0_append 85 = .ok (.iload_n 3, 1) := by decide +kernel
theorem dX0_append_86 : decode cX0_append 86 = .ok (.iconst 1, 1) := by decide +kernel
theorem dX0_append_87 : decode cX0_append 87 = .ok (.iadd, 1) := by decide +kernel
theorem dX0_append_88 : decode cX0_append 88 = .ok (.dup2, 1) := by decide +kernel
theorem dX0_append_89 : decode cX0_append 89 = .ok (.iaload, 1) := by decide +kernel
theorem dX0_append_90 : decode cX0_append 90 = .ok (.lload 6, 2) := by decide +kernel
theorem dX0_append_92 : decode cX0_append 92 = .ok (.l2i, 1) := by decide +kernel
theorem dX0_append_93 : decode cX0_append 93 = .ok (.ior, 1) := by decide +kernel
theorem dX0_append_94 : decode cX0_append 94 = .ok (.iastore, 1) := by decide +kernel
theorem dX0_append_95 : decode cX0_append 95 = .ok (.aload_n 0, 1) := by decide +kernel
theorem dX0_append_96 : decode cX0_append 96 = .ok (.dup, 1) := by decide +kernel
theorem dX0_append_97 : decode cX0_append 97 = .ok (.getfield 23, 3) := by decide +kernel
theorem dX0_append_100 : decode cX0_append 100 = .ok (.iload_n 2, 1) := by decide +kernel
theorem dX0_append_101 : decode cX0_append 101 = .ok (.iadd, 1) := by decide +kernel
theorem dX0_append_102 : decode cX0_append 102 = .ok (.putfield 23, 3) := by decide +kernel
theorem dX0_append_105 : decode cX0_append 105 = .ok (.return_, 1) := by decide +kernel
theorem dX0_read_0 : decode cX0_read 0 = .ok (.iload_n 1, 1) := by decide +kernel
theorem dX0_read_1 : decode cX0_read 1 = .ok (.iconst 5, 1) := by decide +kernel
theorem dX0_read_2 : decode cX0_read 2 = .ok (.ishr, 1) := by decide +kernel
theorem dX0_read_3 : decode cX0_read 3 = .ok (.istore_n 3, 1) := by decide +kernel
theorem dX0_read_4 : decode cX0_read 4 = .ok (.iload_n 2, 1) := by decide +kernel
theorem dX0_read_5 : decode cX0_read 5 = .ok (.iconst 1, 1) := by decide +kernel
theorem dX0_read_6 : decode cX0_read 6 = .ok (.if_icmp .lt 24, 3) := by decide +kernel
theorem dX0_read_9 : decode cX0_read 9 = .ok (.iload_n 2, 1) := by decide +kernel
theorem dX0_read_10 : decode cX0_read 10 = .ok (.bipush 32, 2) := by decide +kernel
theorem dX0_read_12 : decode cX0_read 12 = .ok (.if_icmp .gt 18, 3) := by decide +kernel
theorem dX0_read_15 : decode cX0_read 15 = .ok (.iload_n 3, 1) := by decide +kernel
theorem dX0_read_16 : decode cX0_read 16 = .ok (.ifCond .lt 14, 3) := by decide +kernel
theorem dX0_read_19 : decode cX0_read 19 = .ok (.iload_n 3, 1) := by decide +kernel
theorem dX0_read_20 : decode cX0_read 20 = .ok (.aload_n 0, 1) := by decide +kernel
theorem dX0_read_21 : decode cX0_read 21 = .ok (.getfield 13, 3) := by decide +kernel
theorem dX0_read_24 : decode cX0_read 24 = .ok (.arraylength, 1) := by decide +kernel
theorem dX0_read_25 : decode cX0_read 25 = .ok (.iconst 1, 1) := by decide +kernel
theorem dX0_read_26 : decode cX0_read 26 = .ok (.isub, 1) := by decide +kernel
theorem dX0_read_27 : decode cX0_read 27 = .ok (.if_icmp .lt 5, 3) := by decide +kernel
theorem dX0_read_30 : decode cX0_read 30 = .ok (.iconst 0, 1) := by decide +kernel
theorem dX0_read_31 : decode cX0_read 31 = .ok (.ireturn, 1) := by decide +kernel
theorem dX0_read_32 : decode cX0_read 32 = .ok (.aload_n 0, 1) := by decide +kernel
theorem dX0_read_33 : decode cX0_read 33 = .ok (.getfield 13, 3) := by decide +kernel
theorem dX0_read_36 : decode cX0_read 36 = .ok (.iload_n 3, 1) := by decide +kernel
theorem dX0_read_37 : decode cX0_read 37 = .ok (.iaload, 1) := by decide +kernel
theorem dX0_read_38 : decode cX0_read 38 = .ok (.i2l, 1) := by decide +kernel
theorem dX0_read_39 : decode cX0_read 39 = .ok (.bipush 32, 2) := by decide +kernel
theorem dX0_read_41 : decode cX0_read 41 = .ok (.lshl, 1) := by decide +kernel
theorem dX0_read_42 : decode cX0_read 42 = .ok (.aload_n 0, 1) := by decide +kernel
theorem dX0_read_43 : decode cX0_read 43 = .ok (.getfield 13, 3) := by decide +kernel
theorem dX0_read_46 : decode cX0_read 46 = .ok (.iload_n 3, 1) := by decide +kernel
theorem dX0_read_47 : decode cX0_read 47 = .ok (.iconst 1, 1) := by decide +kernel
theorem dX0_read_48 : decode cX0_read 48 = .ok (.iadd, 1) := by decide +kernel
theorem dX0_read_49 : decode cX0_read 49 = .ok (.iaload, 1) := by decide +kernel
theorem dX0_read_50 : decode cX0_read 50 = .ok (.i2l, 1) := by decide +kernel
theorem dX0_read_51 : decode cX0_read 51 = .ok (.ldc2_w 26, 3) := by decide +kernel
theorem dX0_read_54 : decode cX0_read 54 = .ok (.land, 1) := by decide +kernel
theorem dX0_read_55 : decode cX0_read 55 = .ok (.lor, 1) := by decide +kernel
theorem dX0_read_56 : decode cX0_read 56 = .ok (.lstore 4, 2) := by decide +kernel
theorem dX0_read_58 : decode cX0_read 58 = .ok (.lload 4, 2) := by decide +kernel
theorem dX0_read_60 : decode cX0_read 60 = .ok (.iload_n 1, 1) := by decide +kernel
theorem dX0_read_61 : decode cX0_read 61 = .ok (.bipush 31, 2) := by decide +kernel
theorem dX0_read_63 : decode cX0_read 63 = .ok (.iand, 1) := by decide +kernel
theorem dX0_read_64 : decode cX0_read 64 = .ok (.lshl, 1) := by decide +kernel
theorem dX0_read_65 : decode cX0_read 65 = .ok (.bipush 64, 2) := by decide +kernel
theorem dX0_read_67 : decode cX0_read 67 = .ok (.iload_n 2, 1) := by decide +kernel
theorem dX0_read_68 : decode cX0_read 68 = .ok (.isub, 1) := by decide +kernel
theorem dX0_read_69 : decode cX0_read 69 = .ok (.lushr, 1) := by decide +kernel
theorem dX0_read_70 : decode cX0_read 70 = .ok (.l2i, 1) := by decide +kernel
theorem dX0_read_71 : decode cX0_read 71 = .ok (.ireturn, 1) := by decide +kernel
theorem dX1_init_0 : decode cX1_init 0 = .ok (.aload_n 0, 1) := by decide +kernel
theorem dX1_init_1 : decode cX1_init 1 = .ok (.invokespecial 3, 3) := by decide +kernel
theorem dX1_init_4 : decode cX1_init 4 = .ok (.aload_n 0, 1) := by decide +kernel
theorem dX1_init_5 : decode cX1_init 5 = .ok (.bipush 78, 2) := by decide +kernel
theorem dX1_init_7 : decode cX1_init 7 = .ok (.newarray .byte, 2) := by decide +kernel
theorem dX1_init_9 : decode cX1_init 9 = .ok (.putfield 11, 3) := by decide +kernel
theorem dX1_init_12 : decode cX1_init 12 = .ok (.aload_n 0, 1) := by decide +kernel
theorem dX1_init_13 : decode cX1_init 13 = .ok (.bipush 80, 2) := by decide +kernel
theorem dX1_init_15 : decode cX1_init 15 = .ok (.newarray .int, 2) := by decide +kernel
theorem dX1_init_17 : decode cX1_init 17 = .ok (.putfield 17, 3) := by decide +kernel
theorem dX1_init_20 : decode cX1_init 20 = .ok (.return_, 1) := by decide +kernel
theorem dX1_split_0 : decode cX1_split 0 = .ok (.aload_n 0, 1) := by decide +kernel
theorem dX1_split_1 : decode cX1_split 1 = .ok (.iconst 1, 1) := by decide +kernel
theorem dX1_split_2 : decode cX1_split 2 = .ok (.putfield 21, 3) := by decide +kernel
theorem dX1_split_5 : decode cX1_split 5 = .ok (.aload_n 0, 1) := by decide +kernel
theorem dX1_split_6 : decode cX1_split 6 = .ok (.iconst 1, 1) := by decide +kernel
theorem dX1_split_7 : decode cX1_split 7 = .ok (.putfield 25, 3) := by decide +kernel
theorem dX1_split_10 : decode cX1_split 10 = .ok (.aload_n 0, 1) := by decide +kernel
theorem dX1_split_11 : decode cX1_split 11 = .ok (.getfield 17, 3) := by decide +kernel
theorem dX1_split_14 : decode cX1_split 14 = .ok (.iconst 0, 1) := by decide +kernel
theorem dX1_split_15 : decode cX1_split 15 = .ok (.iconst 0, 1) := by decide +kernel
theorem dX1_split_16 : decode cX1_split 16 = .ok (.iastore, 1) := by decide +kernel
theorem dX1_split_17 : decode cX1_split 17 = .ok (.aload_n 1, 1) := by decide +kernel
theorem dX1_split_18 : decode cX1_split 18 = .ok (.getfield 29, 3) := by decide +kernel
theorem dX1_split_21 : decode cX1_split 21 = .ok (.bipush 78, 2) := by decide +kernel
theorem dX1_split_23 : decode cX1_split 23 = .ok (.if_icmp .gt 10, 3) := by decide +kernel
theorem dX1_split_26 : decode cX1_split 26 = .ok (.aload_n 1, 1) := by decide +kernel
theorem dX1_split_27 : decode cX1_split 27 = .ok (.getfield 29, 3) := by decide +kernel
theorem dX1_split_30 : decode cX1_split 30 = .ok (.goto 5, 3) := by decide +kernel
theorem dX1_split_33 : decode cX1_split 33 = .ok (.bipush 78, 2) := by decide +kernel
theorem dX1_split_35 : decode cX1_split 35 = .ok (.istore_n 2, 1) := by decide +kernel
theorem dX1_split_36 : decode cX1_split 36 = .ok (.iconst 0, 1) := by decide +kernel
theorem dX1_split_37 : decode cX1_split 37 = .ok (.istore_n 3, 1) := by decide +kernel
theorem dX1_split_38 : decode cX1_split 38 = .ok (.iload_n 3, 1) := by decide +kernel
theorem dX1_split_39 : decode cX1_split 39 = .ok (.iload_n 2, 1) := by decide +kernel
theorem dX1_split_40 : decode cX1_split 40 = .ok (.if_icmp .ge 68, 3) := by decide +kernel
theorem dX1_split_43 : decode cX1_split 43 = .ok (.aload_n 1, 1) := by decide +kernel
theorem dX1_split_44 : decode cX1_split 44 = .ok (.iload_n 3, 1) := by decide +kernel
theorem dX1_split_45 : decode cX1_split 45 = .ok (.invokevirtual 32, 3) := by decide +kernel
theorem dX1_split_48 : decode cX1_split 48 = .ok (.istore 4, 2) := by decide +kernel
theorem dX1_split_50 : decode cX1_split 50 = .ok (.aload_n 0, 1) := by decide +kernel
theorem dX1_split_51 : decode cX1_split 51 = .ok (.getfield 11, 3) := by decide +kernel
theorem dX1_split_54 : decode cX1_split 54 = .ok (.iload_n 3, 1) := by decide +kernel
theorem dX1_split_55 : decode cX1_split 55 = .ok (.iload 4, 2) := by decide +kernel
theorem dX1_split_57 : decode cX1_split 57 = .ok (.i2b, 1) := by decide +kernel
theorem dX1_split_58 : decode cX1_split 58 = .ok (.bastore, 1) := by decide +kernel
theorem dX1_split_59 : decode cX1_split 59 = .ok (.iload 4, 2) := by decide +kernel
theorem dX1_split_61 : decode cX1_split 61 = .ok (.bipush 44, 2) := by decide +kernel
theorem dX1_split_63 : decode cX1_split 63 = .ok (.if_icmp .ne 39, 3) := by decide +kernel
theorem dX1_split_66 : decode cX1_split 66 = .ok (.aload_n 0, 1) := by decide +kernel
theorem dX1_split_67 : decode cX1_split 67 = .ok (.getfield 25, 3) := by decide +kernel
theorem dX1_split_70 : decode cX1_split 70 = .ok (.aload_n 0, 1) := by decide +kernel
theorem dX1_split_71 : decode cX1_split 71 = .ok (.getfield 17, 3) := by decide +kernel
theorem dX1_split_74 : decode cX1_split 74 = .ok (.arraylength, 1) := by decide +kernel
theorem dX1_split_75 : decode cX1_split 75 = .ok (.iconst 1, 1) := by decide +kernel
theorem dX1_split_76 : decode cX1_split 76 = .ok (.isub, 1) := by decide +kernel
theorem dX1_split_77 : decode cX1_split 77 = .ok (.if_icmp .ge 25, 3) := by decide +kernel
theorem dX1_split_80 : decode cX1_split 80 = .ok (.aload_n 0, 1) := by decide +kernel
theorem dX1_split_81 : decode cX1_split 81 = .ok (.getfield 17, 3) := by decide +kernel
theorem dX1_split_84 : decode cX1_split 84 = .ok (.aload_n 0, 1) := by decide +kernel
theorem dX1_split_85 : decode cX1_split 85 = .ok (.getfield 25, 3) := by decide +kernel
theorem dX1_split_88 : decode cX1_split 88 = .ok (.iload_n 3, 1) := by decide +kernel
theorem dX1_split_89 : decode cX1_split 89 = .ok (.iconst 1, 1) := by decide +kernel
theorem dX1_split_90 : decode cX1_split 90 = .ok (.iadd, 1) := by decide +kernel
theorem dX1_split_91 : decode cX1_split 91 = .ok (.iastore, 1) := by decide +kernel
theorem dX1_split_92 : decode cX1_split 92 = .ok (.aload_n 0, 1) := by decide +kernel
theorem dX1_split_93 : decode cX1_split 93 = .ok (.dup, 1) := by decide +kernel
theorem dX1_split_94 : decode cX1_split 94 = .ok (.getfield 25, 3) := by decide +kernel
theorem dX1_split_97 : decode cX1_split 97 = .ok (.iconst 1, 1) := by decide +kernel
theorem dX1_split_98 : decode cX1_split 98 = .ok (.iadd, 1) := by decide +kernel
theorem dX1_split_99 : decode cX1_split 99 = .ok (.putfield 25, 3) := by decide +kernel
theorem dX1_split_102 : decode cX1_split 102 = .ok (.iinc 3 1, 3) := by decide +kernel
theorem dX1_split_105 : decode cX1_split 105 = .ok (.goto (-67), 3) := by decide +kernel
theorem dX1_split_108 : decode cX1_split 108 = .ok (.aload_n 0, 1) := by decide +kernel
theorem dX1_split_109 : decode cX1_split 109 = .ok (.getfield 17, 3) := by decide +kernel
theorem dX1_split_112 : decode cX1_split 112 = .ok (.aload_n 0, 1) := by decide +kernel
theorem dX1_split_113 : decode cX1_split 113 = .ok (.getfield 25, 3) := by decide +kernel
theorem dX1_split_116 : decode cX1_split 116 = .ok (.iload_n 2, 1) := by decide +kernel
theorem dX1_split_117 : decode cX1_split 117 = .ok (.iconst 1, 1) := by decide +kernel
theorem dX1_split_118 : decode cX1_split 118 = .ok (.iadd, 1) := by decide +kernel
theorem dX1_split_119 : decode cX1_split 119 = .ok (.iastore, 1) := by decide +kernel
theorem dX1_split_120 : decode cX1_split 120 = .ok (.return_, 1) := by decide +kernel
theorem dX1_form_0 : decode cX1_form 0 = .ok (.aload_n 0, 1) := by decide +kernel
theorem dX1_form_1 : decode cX1_form 1 = .ok (.iconst 0, 1) := by decide +kernel
theorem dX1_form_2 : decode cX1_form 2 = .ok (.invokevirtual 36, 3) := by decide +kernel
theorem dX1_form_5 : decode cX1_form 5 = .ok (.iconst 5, 1) := by decide +kernel
theorem dX1_form_6 : decode cX1_form 6 = .ok (.if_icmp .eq 5, 3) := by decide +kernel
theorem dX1_form_9 : decode cX1_form 9 = .ok (.iconst 0, 1) := by decide +kernel
theorem dX1_form_10 : decode cX1_form 10 = .ok (.ireturn, 1) := by decide +kernel
theorem dX1_form_11 : decode cX1_form 11 = .ok (.iconst 0, 1) := by decide +kernel
theorem dX1_form_12 : decode cX1_form 12 = .ok (.istore_n 2, 1) := by decide +kernel
theorem dX1_form_13 : decode cX1_form 13 = .ok (.iload_n 2, 1) := by decide +kernel
theorem dX1_form_14 : decode cX1_form 14 = .ok (.iconst 5, 1) := by decide +kernel
theorem dX1_form_15 : decode cX1_form 15 = .ok (.if_icmp .ge 65, 3) := by decide +kernel
theorem dX1_form_18 : decode cX1_form 18 = .ok (.aload_n 0, 1) := by decide +kernel
theorem dX1_form_19 : decode cX1_form 19 = .ok (.getfield 11, 3) := by decide +kernel
theorem dX1_form_22 : decode cX1_form 22 = .ok (.iload_n 2, 1) := by decide +kernel
theorem dX1_form_23 : decode cX1_form 23 = .ok (.baload, 1) := by decide +kernel
theorem dX1_form_24 : decode cX1_form 24 = .ok (.bipush 65, 2) := by decide +kernel
theorem dX1_form_26 : decode cX1_form 26 = .ok (.if_icmp .lt 14, 3) := by decide +kernel
theorem dX1_form_29 : decode cX1_form 29 = .ok (.aload_n 0, 1) := by decide +kernel
theorem dX1_form_30 : decode cX1_form 30 = .ok (.getfield 11, 3) := by decide +kernel
theorem dX1_form_33 : decode cX1_form 33 = .ok (.iload_n 2, 1) := by decide +kernel
theorem dX1_form_34 : decode cX1_form 34 = .ok (.baload, 1) := by decide +kernel
theorem dX1_form_35 : decode cX1_form 35 = .ok (.bipush 90, 2) := by decide +kernel
theorem dX1_form_37 : decode cX1_form 37 = .ok (.if_icmp .le 25, 3) := by decide +kernel
theorem dX1_form_40 : decode cX1_form 40 = .ok (.aload_n 0, 1) := by decide +kernel
theorem dX1_form_41 : decode cX1_form 41 = .ok (.getfield 11, 3) := by decide +kernel
theorem dX1_form_44 : decode cX1_form 44 = .ok (.iload_n 2, 1) := by decide +kernel
theorem dX1_form_45 : decode cX1_form 45 = .ok (.baload, 1) := by decide +kernel
theorem dX1_form_46 : decode cX1_form 46 = .ok (.bipush 48, 2) := by decide +kernel
theorem dX1_form_48 : decode cX1_form 48 = .ok (.if_icmp .lt 18, 3) := by decide +kernel
theorem dX1_form_51 : decode cX1_form 51 = .ok (.aload_n 0, 1) := by decide +kernel
theorem dX1_form_52 : decode cX1_form 52 = .ok (.getfield 11, 3) := by decide +kernel
theorem dX1_form_55 : decode cX1_form 55 = .ok (.iload_n 2, 1) := by decide +kernel
theorem dX1_form_56 : decode cX1_form 56 = .ok (.baload, 1) := by decide +kernel
theorem dX1_form_57 : decode cX1_form 57 = .ok (.bipush 57, 2) := by decide +kernel
theorem dX1_form_59 : decode cX1_form 59 = .ok (.if_icmp .gt 7, 3) := by decide +kernel
theorem dX1_form_62 : decode cX1_form 62 = .ok (.iconst 1, 1) := by decide +kernel
theorem dX1_form_63 : decode cX1_form 63 = .ok (.goto 4, 3) := by decide +kernel
theorem dX1_form_66 : decode cX1_form 66 = .ok (.iconst 0, 1) := by decide +kernel
theorem dX1_form_67 : decode cX1_form 67 = .ok (.istore_n 3, 1) := by decide +kernel
theorem dX1_form_68 : decode cX1_form 68 = .ok (.iload_n 3, 1) := by decide +kernel
theorem dX1_form_69 : decode cX1_form 69 = .ok (.ifCond .ne 5, 3) := by decide +kernel
theorem dX1_form_72 : decode cX1_form 72 = .ok (.iconst 0, 1) := by decide +kernel
theorem dX1_form_73 : decode cX1_form 73 = .ok (.ireturn, 1) := by decide +kernel
theorem dX1_form_74 : decode cX1_form 74 = .ok (.iinc 2 1, 3) := by decide +kernel
theorem dX1_form_77 : decode cX1_form 77 = .ok (.goto (-64), 3) := by decide +kernel
theorem dX1_form_80 : decode cX1_form 80 = .ok (.iload_n 1, 1) := by decide +kernel
theorem dX1_form_81 : decode cX1_form 81 = .ok (.bipush 33, 2) := by decide +kernel
theorem dX1_form_83 : decode cX1_form 83 = .ok (.if_icmp .ne 27, 3) := by decide +kernel
theorem dX1_form_86 : decode cX1_form 86 = .ok (.aload_n 0, 1) := by decide +kernel
theorem dX1_form_87 : decode cX1_form 87 = .ok (.ldc 39, 2) := by decide +kernel
theorem dX1_form_89 : decode cX1_form 89 = .ok (.invokevirtual 41, 3) := by decide +kernel
theorem dX1_form_92 : decode cX1_form 92 = .ok (.ifCond .ne 12, 3) := by decide +kernel
theorem dX1_form_95 : decode cX1_form 95 = .ok (.aload_n 0, 1) := by decide +kernel
theorem dX1_form_96 : decode cX1_form 96 = .ok (.ldc 45, 2) := by decide +kernel
theorem dX1_form_98 : decode cX1_form 98 = .ok (.invokevirtual 41, 3) := by decide +kernel
theorem dX1_form_101 : decode cX1_form 101 = .ok (.ifCond .eq 7, 3) := by decide +kernel
theorem dX1_form_104 : decode cX1_form 104 = .ok (.iconst 4, 1) := by decide +kernel
theorem dX1_form_105 : decode cX1_form 105 = .ok (.goto 4, 3) := by decide +kernel
theorem dX1_form_108 : decode cX1_form 108 = .ok (.iconst 0, 1) := by decide +kernel
theorem dX1_form_109 : decode cX1_form 109 = .ok (.ireturn, 1) := by decide +kernel
theorem dX1_form_110 : decode cX1_form 110 = .ok (.aload_n 0, 1) := by decide +kernel
theorem dX1_form_111 : decode cX1_form 111 = .ok (.ldc 47, 2) := by decide +kernel
theorem dX1_form_113 : decode cX1_form 113 = .ok (.invokevirtual 41, 3) := by decide +kernel
theorem dX1_form_116 : decode cX1_form 116 = .ok (.ifCond .eq 5, 3) := by decide +kernel
theorem dX1_form_119 : decode cX1_form 119 = .ok (.iconst 1, 1) := by decide +kernel
theorem dX1_form_120 : decode cX1_form 120 = .ok (.ireturn, 1) := by decide +kernel
theorem dX1_form_121 : decode cX1_form 121 = .ok (.aload_n 0, 1) := by decide +kernel
theorem dX1_form_122 : decode cX1_form 122 = .ok (.ldc 49, 2) := by decide +kernel
theorem dX1_form_124 : decode cX1_form 124 = .ok (.invokevirtual 41, 3) := by decide +kernel
theorem dX1_form_127 : decode cX1_form 127 = .ok (.ifCond .eq 5, 3) := by decide +kernel
theorem dX1_form_130 : decode cX1_form 130 = .ok (.iconst 2, 1) := by decide +kernel
theorem dX1_form_131 : decode cX1_form 131 = .ok (.ireturn, 1) := by decide +kernel
theorem dX1_form_132 : decode cX1_form 132 = .ok (.aload_n 0, 1) := by decide +kernel
theorem dX1_form_133 : decode cX1_form 133 = .ok (.ldc 51, 2) := by decide +kernel
theorem dX1_form_135 : decode cX1_form 135 = .ok (.invokevirtual 41, 3) := by decide +kernel
theorem dX1_form_138 : decode cX1_form 138 = .ok (.ifCond .eq 7, 3) := by decide +kernel
theorem dX1_form_141 : decode cX1_form 141 = .ok (.iconst 3, 1) := by decide +kernel
theorem dX1_form_142 : decode cX1_form 142 = .ok (.goto 4, 3) := by decide +kernel
theorem dX1_form_145 : decode cX1_form 145 = .ok (.iconst 0, 1) := by decide +kernel
theorem dX1_form_146 : decode cX1_form 146 = .ok (.ireturn, 1) := by decide +kernel
theorem dX1_isForm_0 : decode cX1_isForm 0 = .ok (.aload_n 0, 1) := by decide +kernel
theorem dX1_isForm_1 : decode cX1_isForm 1 = .ok (.getfield 11, 3) := by decide +kernel
theorem dX1_isForm_4 : decode cX1_isForm 4 = .ok (.iconst 2, 1) := by decide +kernel
theorem dX1_isForm_5 : decode cX1_isForm 5 = .ok (.baload, 1) := by decide +kernel
theorem dX1_isForm_6 : decode cX1_isForm 6 = .ok (.aload_n 1, 1) := by decide +kernel
theorem dX1_isForm_7 : decode cX1_isForm 7 = .ok (.iconst 0, 1) := by decide +kernel
theorem dX1_isForm_8 : decode cX1_isForm 8 = .ok (.invokevirtual 53, 3) := by decide +kernel
theorem dX1_isForm_11 : decode cX1_isForm 11 = .ok (.if_icmp .ne 35, 3) := by decide +kernel
theorem dX1_isForm_14 : decode cX1_isForm 14 = .ok (.aload_n 0, 1) := by decide +kernel
theorem dX1_isForm_15 : decode cX1_isForm 15 = .ok (.getfield 11, 3) := by decide +kernel
theorem dX1_isForm_18 : decode cX1_isForm 18 = .ok (.iconst 3, 1) := by decide +kernel
theorem dX1_isForm_19 : decode cX1_isForm 19 = .ok (.baload, 1) := by decide +kernel
theorem dX1_isForm_20 : decode cX1_isForm 20 = .ok (.aload_n 1, 1) := by decide +kernel
theorem dX1_isForm_21 : decode cX1_isForm 21 = .ok (.iconst 1, 1) := by decide +kernel
theorem dX1_isForm_22 : decode cX1_isForm 22 = .ok (.invokevirtual 53, 3) := by decide +kernel
theorem dX1_isForm_25 : decode cX1_isForm 25 = .ok (.if_icmp .ne 21, 3) := by decide +kernel
theorem dX1_isForm_28 : decode cX1_isForm 28 = .ok (.aload_n 0, 1) := by decide +kernel
theorem dX1_isForm_29 : decode cX1_isForm 29 = .ok (.getfield 11, 3) := by decide +kernel
theorem dX1_isForm_32 : decode cX1_isForm 32 = .ok (.iconst 4, 1) := by decide +kernel
theorem dX1_isForm_33 : decode cX1_isForm 33 = .ok (.baload, 1) := by decide +kernel
theorem dX1_isForm_34 : decode cX1_isForm 34 = .ok (.aload_n 1, 1) := by decide +kernel
theorem dX1_isForm_35 : decode cX1_isForm 35 = .ok (.iconst 2, 1) := by decide +kernel
theorem dX1_isForm_36 : decode cX1_isForm 36 = .ok (.invokevirtual 53, 3) := by decide +kernel
theorem dX1_isForm_39 : decode cX1_isForm 39 = .ok (.if_icmp .ne 7, 3) := by decide +kernel
theorem dX1_isForm_42 : decode cX1_isForm 42 = .ok (.iconst 1, 1) := by decide +kernel
theorem dX1_isForm_43 : decode cX1_isForm 43 = .ok (.goto 4, 3) := by decide +kernel
theorem dX1_isForm_46 : decode cX1_isForm 46 = .ok (.iconst 0, 1) := by decide +kernel
theorem dX1_isForm_47 : decode cX1_isForm 47 = .ok (.ireturn, 1) := by decide +kernel
theorem dX1_isEmpty_0 : decode cX1_isEmpty 0 = .ok (.aload_n 0, 1) := by decide +kernel
theorem dX1_isEmpty_1 : decode cX1_isEmpty 1 = .ok (.iload_n 1, 1) := by decide +kernel
theorem dX1_isEmpty_2 : decode cX1_isEmpty 2 = .ok (.invokevirtual 59, 3) := by decide +kernel
theorem dX1_isEmpty_5 : decode cX1_isEmpty 5 = .ok (.aload_n 0, 1) := by decide +kernel
theorem dX1_isEmpty_6 : decode cX1_isEmpty 6 = .ok (.iload_n 1, 1) := by decide +kernel
theorem dX1_isEmpty_7 : decode cX1_isEmpty 7 = .ok (.invokevirtual 36, 3) := by decide +kernel
theorem dX1_isEmpty_10 : decode cX1_isEmpty 10 = .ok (.if_icmp .lt 7, 3) := by decide +kernel
theorem dX1_isEmpty_13 : decode cX1_isEmpty 13 = .ok (.iconst 1, 1) := by decide +kernel
theorem dX1_isEmpty_14 : decode cX1_isEmpty 14 = .ok (.goto 4, 3) := by decide +kernel
theorem dX1_isEmpty_17 : decode cX1_isEmpty 17 = .ok (.iconst 0, 1) := by decide +kernel
theorem dX1_isEmpty_18 : decode cX1_isEmpty 18 = .ok (.ireturn, 1) := by decide +kernel
theorem dX1_from_0 : decode cX1_from 0 = .ok (.iload_n 1, 1) := by decide +kernel
theorem dX1_from_1 : decode cX1_from 1 = .ok (.ifCond .lt 20, 3) := by decide +kernel
theorem dX1_from_4 : decode cX1_from 4 = .ok (.iload_n 1, 1) := by decide +kernel
theorem dX1_from_5 : decode cX1_from 5 = .ok (.aload_n 0, 1) := by decide +kernel
theorem dX1_from_6 : decode cX1_from 6 = .ok (.getfield 25, 3) := by decide +kernel
theorem dX1_from_9 : decode cX1_from 9 = .ok (.if_icmp .ge 12, 3) := by decide +kernel
theorem dX1_from_12 : decode cX1_from 12 = .ok (.aload_n 0, 1) := by decide +kernel
theorem dX1_from_13 : decode cX1_from 13 = .ok (.getfield 17, 3) := by decide +kernel
theorem dX1_from_16 : decode cX1_from 16 = .ok (.iload_n 1, 1) := by decide +kernel
theorem dX1_from_17 : decode cX1_from 17 = .ok (.iaload, 1) := by decide +kernel
theorem dX1_from_18 : decode cX1_from 18 = .ok (.goto 4, 3) := by decide +kernel
theorem dX1_from_21 : decode cX1_from 21 = .ok (.iconst 0, 1) := by decide +kernel
theorem dX1_from_22 : decode cX1_from 22 = .ok (.ireturn, 1) := by decide +kernel
theorem dX1_to_0 : decode cX1_to 0 = .ok (.iload_n 1, 1) := by decide +kernel
theorem dX1_to_1 : decode cX1_to 1 = .ok (.ifCond .lt 24, 3) := by decide +kernel
theorem dX1_to_4 : decode cX1_to 4 = .ok (.iload_n 1, 1) := by decide +kernel
theorem dX1_to_5 : decode cX1_to 5 = .ok (.aload_n 0, 1) := by decide +kernel
theorem dX1_to_6 : decode cX1_to 6 = .ok (.getfield 25, 3) := by decide +kernel
theorem dX1_to_9 : decode cX1_to 9 = .ok (.if_icmp .ge 16, 3) := by decide +kernel
theorem dX1_to_12 : decode cX1_to 12 = .ok (.aload_n 0, 1) := by decide +kernel
theorem dX1_to_13 : decode cX1_to 13 = .ok (.getfield 17, 3) := by decide +kernel
theorem dX1_to_16 : decode cX1_to 16 = .ok (.iload_n 1, 1) := by decide +kernel
theorem dX1_to_17 : decode cX1_to 17 = .ok (.iconst 1, 1) := by decide +kernel
theorem dX1_to_18 : decode cX1_to 18 = .ok (.iadd, 1) := by decide +kernel
theorem dX1_to_19 : decode cX1_to 19 = .ok (.iaload, 1) := by decide +kernel
theorem dX1_to_20 : decode cX1_to 20 = .ok (.iconst 1, 1) := by decide +kernel
theorem dX1_to_21 : decode cX1_to 21 = .ok (.isub, 1) := by decide +kernel
theorem dX1_to_22 : decode cX1_to 22 = .ok (.goto 4, 3) := by decide +kernel
theorem dX1_to_25 : decode cX1_to 25 = .ok (.iconst 0, 1) := by decide +kernel
theorem dX1_to_26 : decode cX1_to 26 = .ok (.ireturn, 1) := by decide +kernel
theorem dX1_at_0 : decode cX1_at 0 = .ok (.iload_n 1, 1) := by decide +kernel
theorem dX1_at_1 : decode cX1_at 1 = .ok (.ifCond .lt 21, 3) := by decide +kernel
theorem dX1_at_4 : decode cX1_at 4 = .ok (.iload_n 1, 1) := by decide +kernel
theorem dX1_at_5 : decode cX1_at 5 = .ok (.aload_n 0, 1) := by decide +kernel
theorem dX1_at_6 : decode cX1_at 6 = .ok (.getfield 11, 3) := by decide +kernel
theorem dX1_at_9 : decode cX1_at 9 = .ok (.arraylength, 1) := by decide +kernel
theorem dX1_at_10 : decode cX1_at 10 = .ok (.if_icmp .ge 12, 3) := by decide +kernel
theorem dX1_at_13 : decode cX1_at 13 = .ok (.aload_n 0, 1) := by decide +kernel
theorem dX1_at_14 : decode cX1_at 14 = .ok (.getfield 11, 3) := by decide +kernel
theorem dX1_at_17 : decode cX1_at 17 = .ok (.iload_n 1, 1) := by decide +kernel
theorem dX1_at_18 : decode cX1_at 18 = .ok (.baload, 1) := by decide +kernel
theorem dX1_at_19 : decode cX1_at 19 = .ok (.goto 5, 3) := by decide +kernel
theorem dX1_at_22 : decode cX1_at 22 = .ok (.ldc 62, 2) := by decide +kernel
theorem dX1_at_24 : decode cX1_at 24 = .ok (.ireturn, 1) := by decide +kernel
theorem dX1_wrong_0 : decode cX1_wrong 0 = .ok (.aload_n 0, 1) := by decide +kernel
theorem dX1_wrong_1 : decode cX1_wrong 1 = .ok (.iconst 0, 1) := by decide +kernel
theorem dX1_wrong_2 : decode cX1_wrong 2 = .ok (.putfield 21, 3) := by decide +kernel
theorem dX1_wrong_5 : decode cX1_wrong 5 = .ok (.ldc 62, 2) := by decide +kernel
theorem dX1_wrong_7 : decode cX1_wrong 7 = .ok (.ireturn, 1) := by decide +kernel
theorem dX1_digit_0 : decode cX1_digit 0 = .ok (.aload_n 0, 1) := by decide +kernel
theorem dX1_digit_1 : decode cX1_digit 1 = .ok (.aload_n 0, 1) := by decide +kernel
theorem dX1_digit_2 : decode cX1_digit 2 = .ok (.iload_n 1, 1) := by decide +kernel
theorem dX1_digit_3 : decode cX1_digit 3 = .ok (.invokevirtual 59, 3) := by decide +kernel
theorem dX1_digit_6 : decode cX1_digit 6 = .ok (.invokevirtual 63, 3) := by decide +kernel
theorem dX1_digit_9 : decode cX1_digit 9 = .ok (.istore 4, 2) := by decide +kernel
theorem dX1_digit_11 : decode cX1_digit 11 = .ok (.aload_n 0, 1) := by decide +kernel
theorem dX1_digit_12 : decode cX1_digit 12 = .ok (.iload_n 1, 1) := by decide +kernel
theorem dX1_digit_13 : decode cX1_digit 13 = .ok (.invokevirtual 36, 3) := by decide +kernel
theorem dX1_digit_16 : decode cX1_digit 16 = .ok (.aload_n 0, 1) := by decide +kernel
theorem dX1_digit_17 : decode cX1_digit 17 = .ok (.iload_n 1, 1) := by decide +kernel
theorem dX1_digit_18 : decode cX1_digit 18 = .ok (.invokevirtual 59, 3) := by decide +kernel
theorem dX1_digit_21 : decode cX1_digit 21 = .ok (.isub, 1) := by decide +kernel
theorem dX1_digit_22 : decode cX1_digit 22 = .ok (.iconst 1, 1) := by decide +kernel
theorem dX1_digit_23 : decode cX1_digit 23 = .ok (.if_icmp .ne 19, 3) := by decide +kernel
theorem dX1_digit_26 : decode cX1_digit 26 = .ok (.iload 4, 2) := by decide +kernel
theorem dX1_digit_28 : decode cX1_digit 28 = .ok (.iload_n 2, 1) := by decide +kernel
theorem dX1_digit_29 : decode cX1_digit 29 = .ok (.if_icmp .lt 13, 3) := by decide +kernel
theorem dX1_digit_32 : decode cX1_digit 32 = .ok (.iload 4, 2) := by decide +kernel
theorem dX1_digit_34 : decode cX1_digit 34 = .ok (.iload_n 3, 1) := by decide +kernel
theorem dX1_digit_35 : decode cX1_digit 35 = .ok (.if_icmp .gt 7, 3) := by decide +kernel
theorem dX1_digit_38 : decode cX1_digit 38 = .ok (.iconst 1, 1) := by decide +kernel
theorem dX1_digit_39 : decode cX1_digit 39 = .ok (.goto 4, 3) := by decide +kernel
theorem dX1_digit_42 : decode cX1_digit 42 = .ok (.iconst 0, 1) := by decide +kernel
theorem dX1_digit_43 : decode cX1_digit 43 = .ok (.istore 5, 2) := by decide +kernel
theorem dX1_digit_45 : decode cX1_digit 45 = .ok (.iload 5, 2) := by decide +kernel
theorem dX1_digit_47 : decode cX1_digit 47 = .ok (.ifCond .eq 8, 3) := by decide +kernel
theorem dX1_digit_50 : decode cX1_digit 50 = .ok (.iload 4, 2) := by decide +kernel
theorem dX1_digit_52 : decode cX1_digit 52 = .ok (.goto 7, 3) := by decide +kernel
theorem dX1_digit_55 : decode cX1_digit 55 = .ok (.aload_n 0, 1) := by decide +kernel
theorem dX1_digit_56 : decode cX1_digit 56 = .ok (.invokevirtual 66, 3) := by decide +kernel
theorem dX1_digit_59 : decode cX1_digit 59 = .ok (.ireturn, 1) := by decide +kernel
theorem dX1_oneOf_0 : decode cX1_oneOf 0 = .ok (.aload_n 0, 1) := by decide +kernel
theorem dX1_oneOf_1 : decode cX1_oneOf 1 = .ok (.iload_n 1, 1) := by decide +kernel
theorem dX1_oneOf_2 : decode cX1_oneOf 2 = .ok (.invokevirtual 70, 3) := by decide +kernel
theorem dX1_oneOf_5 : decode cX1_oneOf 5 = .ok (.ifCond .eq 6, 3) := by decide +kernel
theorem dX1_oneOf_8 : decode cX1_oneOf 8 = .ok (.ldc 62, 2) := by decide +kernel
theorem dX1_oneOf_10 : decode cX1_oneOf 10 = .ok (.ireturn, 1) := by decide +kernel
theorem dX1_oneOf_11 : decode cX1_oneOf 11 = .ok (.aload_n 0, 1) := by decide +kernel
theorem dX1_oneOf_12 : decode cX1_oneOf 12 = .ok (.aload_n 0, 1) := by decide +kernel
theorem dX1_oneOf_13 : decode cX1_oneOf 13 = .ok (.iload_n 1, 1) := by decide +kernel
theorem dX1_oneOf_14 : decode cX1_oneOf 14 = .ok (.invokevirtual 59, 3) := by decide +kernel
theorem dX1_oneOf_17 : decode cX1_oneOf 17 = .ok (.invokevirtual 74, 3) := by decide +kernel
theorem dX1_oneOf_20 : decode cX1_oneOf 20 = .ok (.istore_n 3, 1) := by decide +kernel
theorem dX1_oneOf_21 : decode cX1_oneOf 21 = .ok (.aload_n 0, 1) := by decide +kernel
theorem dX1_oneOf_22 : decode cX1_oneOf 22 = .ok (.iload_n 1, 1) := by decide +kernel
theorem dX1_oneOf_23 : decode cX1_oneOf 23 = .ok (.invokevirtual 36, 3) := by decide +kernel
theorem dX1_oneOf_26 : decode cX1_oneOf 26 = .ok (.aload_n 0, 1) := by decide +kernel
theorem dX1_oneOf_27 : decode cX1_oneOf 27 = .ok (.iload_n 1, 1) := by decide +kernel
theorem dX1_oneOf_28 : decode cX1_oneOf 28 = .ok (.invokevirtual 59, 3) := by decide +kernel
theorem dX1_oneOf_31 : decode cX1_oneOf 31 = .ok (.isub, 1) := by decide +kernel
theorem dX1_oneOf_32 : decode cX1_oneOf 32 = .ok (.iconst 1, 1) := by decide +kernel
theorem dX1_oneOf_33 : decode cX1_oneOf 33 = .ok (.if_icmp .ne 16, 3) := by decide +kernel
theorem dX1_oneOf_36 : decode cX1_oneOf 36 = .ok (.aload_n 2, 1) := by decide +kernel
theorem dX1_oneOf_37 : decode cX1_oneOf 37 = .ok (.iload_n 3, 1) := by decide +kernel
theorem dX1_oneOf_38 : decode cX1_oneOf 38 = .ok (.i2c, 1) := by decide +kernel
theorem dX1_oneOf_39 : decode cX1_oneOf 39 = .ok (.invokevirtual 75, 3) := by decide +kernel
theorem dX1_oneOf_42 : decode cX1_oneOf 42 = .ok (.ifCond .lt 7, 3) := by decide +kernel
theorem dX1_oneOf_45 : decode cX1_oneOf 45 = .ok (.iconst 1, 1) := by decide +kernel
theorem dX1_oneOf_46 : decode cX1_oneOf 46 = .ok (.goto 4, 3) := by decide +kernel
theorem dX1_oneOf_49 : decode cX1_oneOf 49 = .ok (.iconst 0, 1) := by decide +kernel
theorem dX1_oneOf_50 : decode cX1_oneOf 50 = .ok (.istore 4, 2) := by decide +kernel
theorem dX1_oneOf_52 : decode cX1_oneOf 52 = .ok (.iload 4, 2) := by decide +kernel
theorem dX1_oneOf_54 : decode cX1_oneOf 54 = .ok (.ifCond .eq 7, 3) := by decide +kernel
theorem dX1_oneOf_57 : decode cX1_oneOf 57 = .ok (.iload_n 3, 1) := by decide +kernel
theorem dX1_oneOf_58 : decode cX1_oneOf 58 = .ok (.goto 7, 3) := by decide +kernel
theorem dX1_oneOf_61 : decode cX1_oneOf 61 = .ok (.aload_n 0, 1) := by decide +kernel
theorem dX1_oneOf_62 : decode cX1_oneOf 62 = .ok (.invokevirtual 66, 3) := by decide +kernel
theorem dX1_oneOf_65 : decode cX1_oneOf 65 = .ok (.ireturn, 1) := by decide +kernel
theorem dX1_whole_0 : decode cX1_whole 0 = .ok (.aload_n 0, 1) := by decide +kernel
theorem dX1_whole_1 : decode cX1_whole 1 = .ok (.iload_n 1, 1) := by decide +kernel
theorem dX1_whole_2 : decode cX1_whole 2 = .ok (.invokevirtual 70, 3) := by decide +kernel
theorem dX1_whole_5 : decode cX1_whole 5 = .ok (.ifCond .eq 8, 3) := by decide +kernel
theorem dX1_whole_8 : decode cX1_whole 8 = .ok (.ldc 62, 2) := by decide +kernel
theorem dX1_whole_10 : decode cX1_whole 10 = .ok (.goto 21, 3) := by decide +kernel
theorem dX1_whole_13 : decode cX1_whole 13 = .ok (.aload_n 0, 1) := by decide +kernel
theorem dX1_whole_14 : decode cX1_whole 14 = .ok (.aload_n 0, 1) := by decide +kernel
theorem dX1_whole_15 : decode cX1_whole 15 = .ok (.iload_n 1, 1) := by decide +kernel
theorem dX1_whole_16 : decode cX1_whole 16 = .ok (.invokevirtual 59, 3) := by decide +kernel
theorem dX1_whole_19 : decode cX1_whole 19 = .ok (.aload_n 0, 1) := by decide +kernel
theorem dX1_whole_20 : decode cX1_whole 20 = .ok (.iload_n 1, 1) := by decide +kernel
theorem dX1_whole_21 : decode cX1_whole 21 = .ok (.invokevirtual 36, 3) := by decide +kernel
theorem dX1_whole_24 : decode cX1_whole 24 = .ok (.iload_n 2, 1) := by decide +kernel
theorem dX1_whole_25 : decode cX1_whole 25 = .ok (.iload_n 3, 1) := by decide +kernel
theorem dX1_whole_26 : decode cX1_whole 26 = .ok (.iconst 0, 1) := by decide +kernel
theorem dX1_whole_27 : decode cX1_whole 27 = .ok (.iconst 0, 1) := by decide +kernel
theorem dX1_whole_28 : decode cX1_whole 28 = .ok (.invokevirtual 78, 3) := by decide +kernel
theorem dX1_whole_31 : decode cX1_whole 31 = .ok (.ireturn, 1) := by decide +kernel
theorem dX1_decimal_0 : decode cX1_decimal 0 = .ok (.aload_n 0, 1) := by decide +kernel
theorem dX1_decimal_1 : decode cX1_decimal 1 = .ok (.iload_n 1, 1) := by decide +kernel
theorem dX1_decimal_2 : decode cX1_decimal 2 = .ok (.invokevirtual 70, 3) := by decide +kernel
theorem dX1_decimal_5 : decode cX1_decimal 5 = .ok (.ifCond .eq 8, 3) := by decide +kernel
theorem dX1_decimal_8 : decode cX1_decimal 8 = .ok (.ldc 62, 2) := by decide +kernel
theorem dX1_decimal_10 : decode cX1_decimal 10 = .ok (.goto 22, 3) := by decide +kernel
theorem dX1_decimal_13 : decode cX1_decimal 13 = .ok (.aload_n 0, 1) := by decide +kernel
theorem dX1_decimal_14 : decode cX1_decimal 14 = .ok (.aload_n 0, 1) := by decide +kernel
theorem dX1_decimal_15 : decode cX1_decimal 15 = .ok (.iload_n 1, 1) := by decide +kernel
theorem dX1_decimal_16 : decode cX1_decimal 16 = .ok (.invokevirtual 59, 3) := by decide +kernel
theorem dX1_decimal_19 : decode cX1_decimal 19 = .ok (.aload_n 0, 1) := by decide +kernel
theorem dX1_decimal_20 : decode cX1_decimal 20 = .ok (.iload_n 1, 1) := by decide +kernel
theorem dX1_decimal_21 : decode cX1_decimal 21 = .ok (.invokevirtual 36, 3) := by decide +kernel
theorem dX1_decimal_24 : decode cX1_decimal 24 = .ok (.iconst 1, 1) := by decide +kernel
theorem dX1_decimal_25 : decode cX1_decimal 25 = .ok (.iload_n 3, 1) := by decide +kernel
theorem dX1_decimal_26 : decode cX1_decimal 26 = .ok (.bipush 6, 2) := by decide +kernel
theorem dX1_decimal_28 : decode cX1_decimal 28 = .ok (.iload_n 2, 1) := by decide +kernel
theorem dX1_decimal_29 : decode cX1_decimal 29 = .ok (.invokevirtual 78, 3) := by decide +kernel
theorem dX1_decimal_32 : decode cX1_decimal 32 = .ok (.ireturn, 1) := by decide +kernel
theorem dX1_signed_0 : decode cX1_signed 0 = .ok (.aload_n 0, 1) := by decide +kernel
theorem dX1_signed_1 : decode cX1_signed 1 = .ok (.aload_n 0, 1) := by decide +kernel
theorem dX1_signed_2 : decode cX1_signed 2 = .ok (.iload_n 1, 1) := by decide +kernel
theorem dX1_signed_3 : decode cX1_signed 3 = .ok (.invokevirtual 59, 3) := by decide +kernel
theorem dX1_signed_6 : decode cX1_signed 6 = .ok (.invokevirtual 74, 3) := by decide +kernel
theorem dX1_signed_9 : decode cX1_signed 9 = .ok (.bipush 45, 2) := by decide +kernel
theorem dX1_signed_11 : decode cX1_signed 11 = .ok (.if_icmp .eq 11, 3) := by decide +kernel
theorem dX1_signed_14 : decode cX1_signed 14 = .ok (.aload_n 0, 1) := by decide +kernel
theorem dX1_signed_15 : decode cX1_signed 15 = .ok (.iload_n 1, 1) := by decide +kernel
theorem dX1_signed_16 : decode cX1_signed 16 = .ok (.iload_n 2, 1) := by decide +kernel
theorem dX1_signed_17 : decode cX1_signed 17 = .ok (.iload_n 3, 1) := by decide +kernel
theorem dX1_signed_18 : decode cX1_signed 18 = .ok (.invokevirtual 82, 3) := by decide +kernel
theorem dX1_signed_21 : decode cX1_signed 21 = .ok (.ireturn, 1) := by decide +kernel
theorem dX1_signed_22 : decode cX1_signed 22 = .ok (.aload_n 0, 1) := by decide +kernel
theorem dX1_signed_23 : decode cX1_signed 23 = .ok (.aload_n 0, 1) := by decide +kernel
theorem dX1_signed_24 : decode cX1_signed 24 = .ok (.iload_n 1, 1) := by decide +kernel
theorem dX1_signed_25 : decode cX1_signed 25 = .ok (.invokevirtual 59, 3) := by decide +kernel
theorem dX1_signed_28 : decode cX1_signed 28 = .ok (.iconst 1, 1) := by decide +kernel
theorem dX1_signed_29 : decode cX1_signed 29 = .ok (.iadd, 1) := by decide +kernel
theorem dX1_signed_30 : decode cX1_signed 30 = .ok (.aload_n 0, 1) := by decide +kernel
theorem dX1_signed_31 : decode cX1_signed 31 = .ok (.iload_n 1, 1) := by decide +kernel
theorem dX1_signed_32 : decode cX1_signed 32 = .ok (.invokevirtual 36, 3) := by decide +kernel
theorem dX1_signed_35 : decode cX1_signed 35 = .ok (.iconst 1, 1) := by decide +kernel
theorem dX1_signed_36 : decode cX1_signed 36 = .ok (.iload_n 3, 1) := by decide +kernel
theorem dX1_signed_37 : decode cX1_signed 37 = .ok (.bipush 6, 2) := by decide +kernel
theorem dX1_signed_39 : decode cX1_signed 39 = .ok (.iload_n 2, 1) := by decide +kernel
theorem dX1_signed_40 : decode cX1_signed 40 = .ok (.invokevirtual 78, 3) := by decide +kernel
theorem dX1_signed_43 : decode cX1_signed 43 = .ok (.istore 4, 2) := by decide +kernel
theorem dX1_signed_45 : decode cX1_signed 45 = .ok (.iload 4, 2) := by decide +kernel
theorem dX1_signed_47 : decode cX1_signed 47 = .ok (.ldc 62, 2) := by decide +kernel
theorem dX1_signed_49 : decode cX1_signed 49 = .ok (.if_icmp .ne 8, 3) := by decide +kernel
theorem dX1_signed_52 : decode cX1_signed 52 = .ok (.ldc 62, 2) := by decide +kernel
theorem dX1_signed_54 : decode cX1_signed 54 = .ok (.goto 6, 3) := by decide +kernel
theorem dX1_signed_57 : decode cX1_signed 57 = .ok (.iload 4, 2) := by decide +kernel
theorem dX1_signed_59 : decode cX1_signed 59 = .ok (.ineg, 1) := by decide +kernel
theorem dX1_signed_60 : decode cX1_signed 60 = .ok (.ireturn, 1) := by decide +kernel
theorem dX1_course_0 : decode cX1_course 0 = .ok (.aload_n 0, 1) := by decide +kernel
theorem dX1_course_1 : decode cX1_course 1 = .ok (.iload_n 1, 1) := by decide +kernel
theorem dX1_course_2 : decode cX1_course 2 = .ok (.iconst 2, 1) := by decide +kernel
theorem dX1_course_3 : decode cX1_course 3 = .ok (.iconst 3, 1) := by decide +kernel
theorem dX1_course_4 : decode cX1_course 4 = .ok (.invokevirtual 82, 3) := by decide +kernel
theorem dX1_course_7 : decode cX1_course 7 = .ok (.istore_n 2, 1) := by decide +kernel
theorem dX1_course_8 : decode cX1_course 8 = .ok (.iload_n 2, 1) := by decide +kernel
theorem dX1_course_9 : decode cX1_course 9 = .ok (.ldc 86, 2) := by decide +kernel
theorem dX1_course_11 : decode cX1_course 11 = .ok (.if_icmp .ge 7, 3) := by decide +kernel
theorem dX1_course_14 : decode cX1_course 14 = .ok (.iload_n 2, 1) := by decide +kernel
theorem dX1_course_15 : decode cX1_course 15 = .ok (.goto 7, 3) := by decide +kernel
theorem dX1_course_18 : decode cX1_course 18 = .ok (.aload_n 0, 1) := by decide +kernel
theorem dX1_course_19 : decode cX1_course 19 = .ok (.invokevirtual 66, 3) := by decide +kernel
theorem dX1_course_22 : decode cX1_course 22 = .ok (.ireturn, 1) := by decide +kernel
theorem dX1_variation_0 : decode cX1_variation 0 = .ok (.aload_n 0, 1) := by decide +kernel
theorem dX1_variation_1 : decode cX1_variation 1 = .ok (.iload_n 1, 1) := by decide +kernel
theorem dX1_variation_2 : decode cX1_variation 2 = .ok (.iconst 1, 1) := by decide +kernel
theorem dX1_variation_3 : decode cX1_variation 3 = .ok (.iconst 3, 1) := by decide +kernel
theorem dX1_variation_4 : decode cX1_variation 4 = .ok (.invokevirtual 82, 3) := by decide +kernel
theorem dX1_variation_7 : decode cX1_variation 7 = .ok (.istore_n 2, 1) := by decide +kernel
theorem dX1_variation_8 : decode cX1_variation 8 = .ok (.iload_n 2, 1) := by decide +kernel
theorem dX1_variation_9 : decode cX1_variation 9 = .ok (.sipush 1800, 3) := by decide +kernel
theorem dX1_variation_12 : decode cX1_variation 12 = .ok (.if_icmp .gt 18, 3) := by decide +kernel
theorem dX1_variation_15 : decode cX1_variation 15 = .ok (.aload_n 0, 1) := by decide +kernel
theorem dX1_variation_16 : decode cX1_variation 16 = .ok (.iload_n 2, 1) := by decide +kernel
theorem dX1_variation_17 : decode cX1_variation 17 = .ok (.iload_n 1, 1) := by decide +kernel
theorem dX1_variation_18 : decode cX1_variation 18 = .ok (.iconst 1, 1) := by decide +kernel
theorem dX1_variation_19 : decode cX1_variation 19 = .ok (.iadd, 1) := by decide +kernel
theorem dX1_variation_20 : decode cX1_variation 20 = .ok (.bipush 69, 2) := by decide +kernel
theorem dX1_variation_22 : decode cX1_variation 22 = .ok (.bipush 87, 2) := by decide +kernel
theorem dX1_variation_24 : decode cX1_variation 24 = .ok (.invokevirtual 87, 3) := by decide +kernel
theorem dX1_variation_27 : decode cX1_variation 27 = .ok (.goto 7, 3) := by decide +kernel
theorem dX1_variation_30 : decode cX1_variation 30 = .ok (.aload_n 0, 1) := by decide +kernel
theorem dX1_variation_31 : decode cX1_variation 31 = .ok (.invokevirtual 66, 3) := by decide +kernel
theorem dX1_variation_34 : decode cX1_variation 34 = .ok (.ireturn, 1) := by decide +kernel
theorem dX1_time_0 : decode cX1_time 0 = .ok (.aload_n 0, 1) := by decide +kernel
theorem dX1_time_1 : decode cX1_time 1 = .ok (.iload_n 1, 1) := by decide +kernel
theorem dX1_time_2 : decode cX1_time 2 = .ok (.invokevirtual 70, 3) := by decide +kernel
theorem dX1_time_5 : decode cX1_time 5 = .ok (.ifCond .eq 8, 3) := by decide +kernel
theorem dX1_time_8 : decode cX1_time 8 = .ok (.ldc 62, 2) := by decide +kernel
theorem dX1_time_10 : decode cX1_time 10 = .ok (.goto 23, 3) := by decide +kernel
theorem dX1_time_13 : decode cX1_time 13 = .ok (.aload_n 0, 1) := by decide +kernel
theorem dX1_time_14 : decode cX1_time 14 = .ok (.aload_n 0, 1) := by decide +kernel
theorem dX1_time_15 : decode cX1_time 15 = .ok (.iload_n 1, 1) := by decide +kernel
theorem dX1_time_16 : decode cX1_time 16 = .ok (.invokevirtual 59, 3) := by decide +kernel
theorem dX1_time_19 : decode cX1_time 19 = .ok (.aload_n 0, 1) := by decide +kernel
theorem dX1_time_20 : decode cX1_time 20 = .ok (.iload_n 1, 1) := by decide +kernel
theorem dX1_time_21 : decode cX1_time 21 = .ok (.invokevirtual 36, 3) := by decide +kernel
theorem dX1_time_24 : decode cX1_time 24 = .ok (.bipush 6, 2) := by decide +kernel
theorem dX1_time_26 : decode cX1_time 26 = .ok (.bipush 6, 2) := by decide +kernel
theorem dX1_time_28 : decode cX1_time 28 = .ok (.iconst 3, 1) := by decide +kernel
theorem dX1_time_29 : decode cX1_time 29 = .ok (.iconst 3, 1) := by decide +kernel
theorem dX1_time_30 : decode cX1_time 30 = .ok (.invokevirtual 78, 3) := by decide +kernel
theorem dX1_time_33 : decode cX1_time 33 = .ok (.istore_n 2, 1) := by decide +kernel
theorem dX1_time_34 : decode cX1_time 34 = .ok (.iload_n 2, 1) := by decide +kernel
theorem dX1_time_35 : decode cX1_time 35 = .ok (.ldc 62, 2) := by decide +kernel
theorem dX1_time_37 : decode cX1_time 37 = .ok (.if_icmp .ne 6, 3) := by decide +kernel
theorem dX1_time_40 : decode cX1_time 40 = .ok (.ldc 62, 2) := by decide +kernel
theorem dX1_time_42 : decode cX1_time 42 = .ok (.ireturn, 1) := by decide +kernel
theorem dX1_time_43 : decode cX1_time 43 = .ok (.iload_n 2, 1) := by decide +kernel
theorem dX1_time_44 : decode cX1_time 44 = .ok (.ldc 91, 2) := by decide +kernel
theorem dX1_time_46 : decode cX1_time 46 = .ok (.idiv, 1) := by decide +kernel
theorem dX1_time_47 : decode cX1_time 47 = .ok (.istore_n 3, 1) := by decide +kernel
theorem dX1_time_48 : decode cX1_time 48 = .ok (.iload_n 2, 1) := by decide +kernel
theorem dX1_time_49 : decode cX1_time 49 = .ok (.ldc 92, 2) := by decide +kernel
theorem dX1_time_51 : decode cX1_time 51 = .ok (.idiv, 1) := by decide +kernel
theorem dX1_time_52 : decode cX1_time 52 = .ok (.bipush 100, 2) := by decide +kernel
theorem dX1_time_54 : decode cX1_time 54 = .ok (.irem, 1) := by decide +kernel
theorem dX1_time_55 : decode cX1_time 55 = .ok (.istore 4, 2) := by decide +kernel
theorem dX1_time_57 : decode cX1_time 57 = .ok (.iload_n 2, 1) := by decide +kernel
theorem dX1_time_58 : decode cX1_time 58 = .ok (.ldc 92, 2) := by decide +kernel
theorem dX1_time_60 : decode cX1_time 60 = .ok (.irem, 1) := by decide +kernel
theorem dX1_time_61 : decode cX1_time 61 = .ok (.istore 5, 2) := by decide +kernel
theorem dX1_time_63 : decode cX1_time 63 = .ok (.iload_n 3, 1) := by decide +kernel
theorem dX1_time_64 : decode cX1_time 64 = .ok (.bipush 23, 2) := by decide +kernel
theorem dX1_time_66 : decode cX1_time 66 = .ok (.if_icmp .gt 17, 3) := by decide +kernel
theorem dX1_time_69 : decode cX1_time 69 = .ok (.iload 4, 2) := by decide +kernel
theorem dX1_time_71 : decode cX1_time 71 = .ok (.bipush 59, 2) := by decide +kernel
theorem dX1_time_73 : decode cX1_time 73 = .ok (.if_icmp .gt 10, 3) := by decide +kernel
theorem dX1_time_76 : decode cX1_time 76 = .ok (.iload 5, 2) := by decide +kernel
theorem dX1_time_78 : decode cX1_time 78 = .ok (.ldc 93, 2) := by decide +kernel
theorem dX1_time_80 : decode cX1_time 80 = .ok (.if_icmp .le 8, 3) := by decide +kernel
theorem dX1_time_83 : decode cX1_time 83 = .ok (.aload_n 0, 1) := by decide +kernel
theorem dX1_time_84 : decode cX1_time 84 = .ok (.invokevirtual 66, 3) := by decide +kernel
theorem dX1_time_87 : decode cX1_time 87 = .ok (.ireturn, 1) := by decide +kernel
theorem dX1_time_88 : decode cX1_time 88 = .ok (.iload_n 3, 1) := by decide +kernel
theorem dX1_time_89 : decode cX1_time 89 = .ok (.bipush 60, 2) := by decide +kernel
theorem dX1_time_91 : decode cX1_time 91 = .ok (.imul, 1) := by decide +kernel
theorem dX1_time_92 : decode cX1_time 92 = .ok (.iload 4, 2) := by decide +kernel
theorem dX1_time_94 : decode cX1_time 94 = .ok (.iadd, 1) := by decide +kernel
theorem dX1_time_95 : decode cX1_time 95 = .ok (.ldc 94, 2) := by decide +kernel
theorem dX1_time_97 : decode cX1_time 97 = .ok (.imul, 1) := by decide +kernel
theorem dX1_time_98 : decode cX1_time 98 = .ok (.iload 5, 2) := by decide +kernel
theorem dX1_time_100 : decode cX1_time 100 = .ok (.iadd, 1) := by decide +kernel
theorem dX1_time_101 : decode cX1_time 101 = .ok (.ireturn, 1) := by decide +kernel
theorem dX1_date_0 : decode cX1_date 0 = .ok (.aload_n 0, 1) := by decide +kernel
theorem dX1_date_1 : decode cX1_date 1 = .ok (.iload_n 1, 1) := by decide +kernel
theorem dX1_date_2 : decode cX1_date 2 = .ok (.bipush 6, 2) := by decide +kernel
theorem dX1_date_4 : decode cX1_date 4 = .ok (.bipush 6, 2) := by decide +kernel
theorem dX1_date_6 : decode cX1_date 6 = .ok (.invokevirtual 95, 3) := by decide +kernel
theorem dX1_date_9 : decode cX1_date 9 = .ok (.istore_n 2, 1) := by decide +kernel
theorem dX1_date_10 : decode cX1_date 10 = .ok (.iload_n 2, 1) := by decide +kernel
theorem dX1_date_11 : decode cX1_date 11 = .ok (.ldc 62, 2) := by decide +kernel
theorem dX1_date_13 : decode cX1_date 13 = .ok (.if_icmp .ne 6, 3) := by decide +kernel
theorem dX1_date_16 : decode cX1_date 16 = .ok (.ldc 62, 2) := by decide +kernel
theorem dX1_date_18 : decode cX1_date 18 = .ok (.ireturn, 1) := by decide +kernel
theorem dX1_date_19 : decode cX1_date 19 = .ok (.iload_n 2, 1) := by decide +kernel
theorem dX1_date_20 : decode cX1_date 20 = .ok (.sipush 10000, 3) := by decide +kernel
theorem dX1_date_23 : decode cX1_date 23 = .ok (.idiv, 1) := by decide +kernel
theorem dX1_date_24 : decode cX1_date 24 = .ok (.istore_n 3, 1) := by decide +kernel
theorem dX1_date_25 : decode cX1_date 25 = .ok (.iload_n 2, 1) := by decide +kernel
theorem dX1_date_26 : decode cX1_date 26 = .ok (.bipush 100, 2) := by decide +kernel
theorem dX1_date_28 : decode cX1_date 28 = .ok (.idiv, 1) := by decide +kernel
theorem dX1_date_29 : decode cX1_date 29 = .ok (.bipush 100, 2) := by decide +kernel
theorem dX1_date_31 : decode cX1_date 31 = .ok (.irem, 1) := by decide +kernel
theorem dX1_date_32 : decode cX1_date 32 = .ok (.istore 4, 2) := by decide +kernel
theorem dX1_date_34 : decode cX1_date 34 = .ok (.iload_n 2, 1) := by decide +kernel
theorem dX1_date_35 : decode cX1_date 35 = .ok (.bipush 100, 2) := by decide +kernel
theorem dX1_date_37 : decode cX1_date 37 = .ok (.irem, 1) := by decide +kernel
theorem dX1_date_38 : decode cX1_date 38 = .ok (.istore 5, 2) := by decide +kernel
theorem dX1_date_40 : decode cX1_date 40 = .ok (.iload_n 3, 1) := by decide +kernel
theorem dX1_date_41 : decode cX1_date 41 = .ok (.iconst 1, 1) := by decide +kernel
theorem dX1_date_42 : decode cX1_date 42 = .ok (.if_icmp .lt 22, 3) := by decide +kernel
theorem dX1_date_45 : decode cX1_date 45 = .ok (.iload_n 3, 1) := by decide +kernel
theorem dX1_date_46 : decode cX1_date 46 = .ok (.bipush 31, 2) := by decide +kernel
theorem dX1_date_48 : decode cX1_date 48 = .ok (.if_icmp .gt 16, 3) := by decide +kernel
theorem dX1_date_51 : decode cX1_date 51 = .ok (.iload 4, 2) := by decide +kernel
theorem dX1_date_53 : decode cX1_date 53 = .ok (.iconst 1, 1) := by decide +kernel
theorem dX1_date_54 : decode cX1_date 54 = .ok (.if_icmp .lt 10, 3) := by decide +kernel
theorem dX1_date_57 : decode cX1_date 57 = .ok (.iload 4, 2) := by decide +kernel
theorem dX1_date_59 : decode cX1_date 59 = .ok (.bipush 12, 2) := by decide +kernel
theorem dX1_date_61 : decode cX1_date 61 = .ok (.if_icmp .le 8, 3) := by decide +kernel
theorem dX1_date_64 : decode cX1_date 64 = .ok (.aload_n 0, 1) := by decide +kernel
theorem dX1_date_65 : decode cX1_date 65 = .ok (.invokevirtual 66, 3) := by decide +kernel
theorem dX1_date_68 : decode cX1_date 68 = .ok (.ireturn, 1) := by decide +kernel
theorem dX1_date_69 : decode cX1_date 69 = .ok (.iload_n 3, 1) := by decide +kernel
theorem dX1_date_70 : decode cX1_date 70 = .ok (.bipush 100, 2) := by decide +kernel
theorem dX1_date_72 : decode cX1_date 72 = .ok (.iload 4, 2) := by decide +kernel
theorem dX1_date_74 : decode cX1_date 74 = .ok (.imul, 1) := by decide +kernel
theorem dX1_date_75 : decode cX1_date 75 = .ok (.iadd, 1) := by decide +kernel
theorem dX1_date_76 : decode cX1_date 76 = .ok (.sipush 10000, 3) := by decide +kernel
theorem dX1_date_79 : decode cX1_date 79 = .ok (.iload 5, 2) := by decide +kernel
theorem dX1_date_81 : decode cX1_date 81 = .ok (.imul, 1) := by decide +kernel
theorem dX1_date_82 : decode cX1_date 82 = .ok (.iadd, 1) := by decide +kernel
theorem dX1_date_83 : decode cX1_date 83 = .ok (.ireturn, 1) := by decide +kernel
theorem dX1_latitude_0 : decode cX1_latitude 0 = .ok (.aload_n 0, 1) := by decide +kernel
theorem dX1_latitude_1 : decode cX1_latitude 1 = .ok (.aload_n 0, 1) := by decide +kernel
theorem dX1_latitude_2 : decode cX1_latitude 2 = .ok (.iload_n 1, 1) := by decide +kernel
theorem dX1_latitude_3 : decode cX1_latitude 3 = .ok (.iconst 4, 1) := by decide +kernel
theorem dX1_latitude_4 : decode cX1_latitude 4 = .ok (.ldc 98, 2) := by decide +kernel
theorem dX1_latitude_6 : decode cX1_latitude 6 = .ok (.invokevirtual 99, 3) := by decide +kernel
theorem dX1_latitude_9 : decode cX1_latitude 9 = .ok (.iload_n 1, 1) := by decide +kernel
theorem dX1_latitude_10 : decode cX1_latitude 10 = .ok (.iconst 1, 1) := by decide +kernel
theorem dX1_latitude_11 : decode cX1_latitude 11 = .ok (.iadd, 1) := by decide +kernel
theorem dX1_latitude_12 : decode cX1_latitude 12 = .ok (.bipush 78, 2) := by decide +kernel
theorem dX1_latitude_14 : decode cX1_latitude 14 = .ok (.bipush 83, 2) := by decide +kernel
theorem dX1_latitude_16 : decode cX1_latitude 16 = .ok (.invokevirtual 87, 3) := by decide +kernel
theorem dX1_latitude_19 : decode cX1_latitude 19 = .ok (.ireturn, 1) := by decide +kernel
theorem dX1_longitude_0 : decode cX1_longitude 0 = .ok (.aload_n 0, 1) := by decide +kernel
theorem dX1_longitude_1 : decode cX1_longitude 1 = .ok (.aload_n 0, 1) := by decide +kernel
theorem dX1_longitude_2 : decode cX1_longitude 2 = .ok (.iload_n 1, 1) := by decide +kernel
theorem dX1_longitude_3 : decode cX1_longitude 3 = .ok (.iconst 5, 1) := by decide +kernel
theorem dX1_longitude_4 : decode cX1_longitude 4 = .ok (.ldc 102, 2) := by decide +kernel
theorem dX1_longitude_6 : decode cX1_longitude 6 = .ok (.invokevirtual 99, 3) := by decide +kernel
theorem dX1_longitude_9 : decode cX1_longitude 9 = .ok (.iload_n 1, 1) := by decide +kernel
theorem dX1_longitude_10 : decode cX1_longitude 10 = .ok (.iconst 1, 1) := by decide +kernel
theorem dX1_longitude_11 : decode cX1_longitude 11 = .ok (.iadd, 1) := by decide +kernel
theorem dX1_longitude_12 : decode cX1_longitude 12 = .ok (.bipush 69, 2) := by decide +kernel
theorem dX1_longitude_14 : decode cX1_longitude 14 = .ok (.bipush 87, 2) := by decide +kernel
theorem dX1_longitude_16 : decode cX1_longitude 16 = .ok (.invokevirtual 87, 3) := by decide +kernel
theorem dX1_longitude_19 : decode cX1_longitude 19 = .ok (.ireturn, 1) := by decide +kernel
theorem dX1_angle_0 : decode cX1_angle 0 = .ok (.aload_n 0, 1) := by decide +kernel
theorem dX1_angle_1 : decode cX1_angle 1 = .ok (.iload_n 1, 1) := by decide +kernel
theorem dX1_angle_2 : decode cX1_angle 2 = .ok (.invokevirtual 70, 3) := by decide +kernel
theorem dX1_angle_5 : decode cX1_angle 5 = .ok (.ifCond .eq 8, 3) := by decide +kernel
theorem dX1_angle_8 : decode cX1_angle 8 = .ok (.ldc 62, 2) := by decide +kernel
theorem dX1_angle_10 : decode cX1_angle 10 = .ok (.goto 22, 3) := by decide +kernel
theorem dX1_angle_13 : decode cX1_angle 13 = .ok (.aload_n 0, 1) := by decide +kernel
theorem dX1_angle_14 : decode cX1_angle 14 = .ok (.aload_n 0, 1) := by decide +kernel
theorem dX1_angle_15 : decode cX1_angle 15 = .ok (.iload_n 1, 1) := by decide +kernel
theorem dX1_angle_16 : decode cX1_angle 16 = .ok (.invokevirtual 59, 3) := by decide +kernel
theorem dX1_angle_19 : decode cX1_angle 19 = .ok (.aload_n 0, 1) := by decide +kernel
theorem dX1_angle_20 : decode cX1_angle 20 = .ok (.iload_n 1, 1) := by decide +kernel
theorem dX1_angle_21 : decode cX1_angle 21 = .ok (.invokevirtual 36, 3) := by decide +kernel
theorem dX1_angle_24 : decode cX1_angle 24 = .ok (.iload_n 2, 1) := by decide +kernel
theorem dX1_angle_25 : decode cX1_angle 25 = .ok (.iload_n 2, 1) := by decide +kernel
theorem dX1_angle_26 : decode cX1_angle 26 = .ok (.bipush 6, 2) := by decide +kernel
theorem dX1_angle_28 : decode cX1_angle 28 = .ok (.iconst 4, 1) := by decide +kernel
theorem dX1_angle_29 : decode cX1_angle 29 = .ok (.invokevirtual 78, 3) := by decide +kernel
theorem dX1_angle_32 : decode cX1_angle 32 = .ok (.istore 4, 2) := by decide +kernel
theorem dX1_angle_34 : decode cX1_angle 34 = .ok (.iload 4, 2) := by decide +kernel
theorem dX1_angle_36 : decode cX1_angle 36 = .ok (.ldc 62, 2) := by decide +kernel
theorem dX1_angle_38 : decode cX1_angle 38 = .ok (.if_icmp .ne 6, 3) := by decide +kernel
theorem dX1_angle_41 : decode cX1_angle 41 = .ok (.ldc 62, 2) := by decide +kernel
theorem dX1_angle_43 : decode cX1_angle 43 = .ok (.ireturn, 1) := by decide +kernel
theorem dX1_angle_44 : decode cX1_angle 44 = .ok (.iload 4, 2) := by decide +kernel
theorem dX1_angle_46 : decode cX1_angle 46 = .ok (.ldc 103, 2) := by decide +kernel
theorem dX1_angle_48 : decode cX1_angle 48 = .ok (.irem, 1) := by decide +kernel
theorem dX1_angle_49 : decode cX1_angle 49 = .ok (.istore 5, 2) := by decide +kernel
theorem dX1_angle_51 : decode cX1_angle 51 = .ok (.iload 4, 2) := by decide +kernel
theorem dX1_angle_53 : decode cX1_angle 53 = .ok (.ldc 103, 2) := by decide +kernel
theorem dX1_angle_55 : decode cX1_angle 55 = .ok (.idiv, 1) := by decide +kernel
theorem dX1_angle_56 : decode cX1_angle 56 = .ok (.ldc 104, 2) := by decide +kernel
theorem dX1_angle_58 : decode cX1_angle 58 = .ok (.imul, 1) := by decide +kernel
theorem dX1_angle_59 : decode cX1_angle 59 = .ok (.iload 5, 2) := by decide +kernel
theorem dX1_angle_61 : decode cX1_angle 61 = .ok (.iadd, 1) := by decide +kernel
theorem dX1_angle_62 : decode cX1_angle 62 = .ok (.istore 6, 2) := by decide +kernel
theorem dX1_angle_64 : decode cX1_angle 64 = .ok (.iload 5, 2) := by decide +kernel
theorem dX1_angle_66 : decode cX1_angle 66 = .ok (.ldc 104, 2) := by decide +kernel
theorem dX1_angle_68 : decode cX1_angle 68 = .ok (.if_icmp .ge 14, 3) := by decide +kernel
theorem dX1_angle_71 : decode cX1_angle 71 = .ok (.iload 6, 2) := by decide +kernel
theorem dX1_angle_73 : decode cX1_angle 73 = .ok (.iload_n 3, 1) := by decide +kernel
theorem dX1_angle_74 : decode cX1_angle 74 = .ok (.if_icmp .gt 8, 3) := by decide +kernel
theorem dX1_angle_77 : decode cX1_angle 77 = .ok (.iload 6, 2) := by decide +kernel
theorem dX1_angle_79 : decode cX1_angle 79 = .ok (.goto 7, 3) := by decide +kernel
theorem dX1_angle_82 : decode cX1_angle 82 = .ok (.aload_n 0, 1) := by decide +kernel
theorem dX1_angle_83 : decode cX1_angle 83 = .ok (.invokevirtual 66, 3) := by decide +kernel
theorem dX1_angle_86 : decode cX1_angle 86 = .ok (.ireturn, 1) := by decide +kernel
theorem dX1_onSide_0 : decode cX1_onSide 0 = .ok (.iload_n 1, 1) := by decide +kernel
theorem dX1_onSide_1 : decode cX1_onSide 1 = .ok (.ldc 62, 2) := by decide +kernel
theorem dX1_onSide_3 : decode cX1_onSide 3 = .ok (.if_icmp .ne 21, 3) := by decide +kernel
theorem dX1_onSide_6 : decode cX1_onSide 6 = .ok (.aload_n 0, 1) := by decide +kernel
theorem dX1_onSide_7 : decode cX1_onSide 7 = .ok (.iload_n 2, 1) := by decide +kernel
theorem dX1_onSide_8 : decode cX1_onSide 8 = .ok (.invokevirtual 70, 3) := by decide +kernel
theorem dX1_onSide_11 : decode cX1_onSide 11 = .ok (.ifCond .eq 8, 3) := by decide +kernel
theorem dX1_onSide_14 : decode cX1_onSide 14 = .ok (.ldc 62, 2) := by decide +kernel
theorem dX1_onSide_16 : decode cX1_onSide 16 = .ok (.goto 7, 3) := by decide +kernel
theorem dX1_onSide_19 : decode cX1_onSide 19 = .ok (.aload_n 0, 1) := by decide +kernel
theorem dX1_onSide_20 : decode cX1_onSide 20 = .ok (.invokevirtual 66, 3) := by decide +kernel
theorem dX1_onSide_23 : decode cX1_onSide 23 = .ok (.ireturn, 1) := by decide +kernel
theorem dX1_onSide_24 : decode cX1_onSide 24 = .ok (.aload_n 0, 1) := by decide +kernel
theorem dX1_onSide_25 : decode cX1_onSide 25 = .ok (.iload_n 2, 1) := by decide +kernel
theorem dX1_onSide_26 : decode cX1_onSide 26 = .ok (.invokevirtual 36, 3) := by decide +kernel
theorem dX1_onSide_29 : decode cX1_onSide 29 = .ok (.aload_n 0, 1) := by decide +kernel
theorem dX1_onSide_30 : decode cX1_onSide 30 = .ok (.iload_n 2, 1) := by decide +kernel
theorem dX1_onSide_31 : decode cX1_onSide 31 = .ok (.invokevirtual 59, 3) := by decide +kernel
theorem dX1_onSide_34 : decode cX1_onSide 34 = .ok (.isub, 1) := by decide +kernel
theorem dX1_onSide_35 : decode cX1_onSide 35 = .ok (.iconst 1, 1) := by decide +kernel
theorem dX1_onSide_36 : decode cX1_onSide 36 = .ok (.if_icmp .ne 15, 3) := by decide +kernel
theorem dX1_onSide_39 : decode cX1_onSide 39 = .ok (.aload_n 0, 1) := by decide +kernel
theorem dX1_onSide_40 : decode cX1_onSide 40 = .ok (.aload_n 0, 1) := by decide +kernel
theorem dX1_onSide_41 : decode cX1_onSide 41 = .ok (.iload_n 2, 1) := by decide +kernel
theorem dX1_onSide_42 : decode cX1_onSide 42 = .ok (.invokevirtual 59, 3) := by decide +kernel
theorem dX1_onSide_45 : decode cX1_onSide 45 = .ok (.invokevirtual 74, 3) := by decide +kernel
theorem dX1_onSide_48 : decode cX1_onSide 48 = .ok (.goto 5, 3) := by decide +kernel
theorem dX1_onSide_51 : decode cX1_onSide 51 = .ok (.ldc 62, 2) := by decide +kernel
theorem dX1_onSide_53 : decode cX1_onSide 53 = .ok (.istore 5, 2) := by decide +kernel
theorem dX1_onSide_55 : decode cX1_onSide 55 = .ok (.iload 5, 2) := by decide +kernel
theorem dX1_onSide_57 : decode cX1_onSide 57 = .ok (.iload_n 3, 1) := by decide +kernel
theorem dX1_onSide_58 : decode cX1_onSide 58 = .ok (.if_icmp .ne 5, 3) := by decide +kernel
theorem dX1_onSide_61 : decode cX1_onSide 61 = .ok (.iload_n 1, 1) := by decide +kernel
theorem dX1_onSide_62 : decode cX1_onSide 62 = .ok (.ireturn, 1) := by decide +kernel
theorem dX1_onSide_63 : decode cX1_onSide 63 = .ok (.iload 5, 2) := by decide +kernel
theorem dX1_onSide_65 : decode cX1_onSide 65 = .ok (.iload 4, 2) := by decide +kernel
theorem dX1_onSide_67 : decode cX1_onSide 67 = .ok (.if_icmp .ne 8, 3) := by decide +kernel
theorem dX1_onSide_70 : decode cX1_onSide 70 = .ok (.iload_n 1, 1) := by decide +kernel
theorem dX1_onSide_71 : decode cX1_onSide 71 = .ok (.ineg, 1) := by decide +kernel
theorem dX1_onSide_72 : decode cX1_onSide 72 = .ok (.goto 7, 3) := by decide +kernel
theorem dX1_onSide_75 : decode cX1_onSide 75 = .ok (.aload_n 0, 1) := by decide +kernel
theorem dX1_onSide_76 : decode cX1_onSide 76 = .ok (.invokevirtual 66, 3) := by decide +kernel
theorem dX1_onSide_79 : decode cX1_onSide 79 = .ok (.ireturn, 1) := by decide +kernel
theorem dX1_checkUnit_0 : decode cX1_checkUnit 0 = .ok (.aload_n 0, 1) := by decide +kernel
theorem dX1_checkUnit_1 : decode cX1_checkUnit 1 = .ok (.iload_n 1, 1) := by decide +kernel
theorem dX1_checkUnit_2 : decode cX1_checkUnit 2 = .ok (.invokevirtual 70, 3) := by decide +kernel
theorem dX1_checkUnit_5 : decode cX1_checkUnit 5 = .ok (.ifCond .eq 13, 3) := by decide +kernel
theorem dX1_checkUnit_8 : decode cX1_checkUnit 8 = .ok (.aload_n 0, 1) := by decide +kernel
theorem dX1_checkUnit_9 : decode cX1_checkUnit 9 = .ok (.iload_n 1, 1) := by decide +kernel
theorem dX1_checkUnit_10 : decode cX1_checkUnit 10 = .ok (.iconst 1, 1) := by decide +kernel
theorem dX1_checkUnit_11 : decode cX1_checkUnit 11 = .ok (.isub, 1) := by decide +kernel
theorem dX1_checkUnit_12 : decode cX1_checkUnit 12 = .ok (.invokevirtual 70, 3) := by decide +kernel
theorem dX1_checkUnit_15 : decode cX1_checkUnit 15 = .ok (.goto 36, 3) := by decide +kernel
theorem dX1_checkUnit_18 : decode cX1_checkUnit 18 = .ok (.aload_n 0, 1) := by decide +kernel
theorem dX1_checkUnit_19 : decode cX1_checkUnit 19 = .ok (.iload_n 1, 1) := by decide +kernel
theorem dX1_checkUnit_20 : decode cX1_checkUnit 20 = .ok (.invokevirtual 36, 3) := by decide +kernel
theorem dX1_checkUnit_23 : decode cX1_checkUnit 23 = .ok (.aload_n 0, 1) := by decide +kernel
theorem dX1_checkUnit_24 : decode cX1_checkUnit 24 = .ok (.iload_n 1, 1) := by decide +kernel
theorem dX1_checkUnit_25 : decode cX1_checkUnit 25 = .ok (.invokevirtual 59, 3) := by decide +kernel
theorem dX1_checkUnit_28 : decode cX1_checkUnit 28 = .ok (.isub, 1) := by decide +kernel
theorem dX1_checkUnit_29 : decode cX1_checkUnit 29 = .ok (.iconst 1, 1) := by decide +kernel
theorem dX1_checkUnit_30 : decode cX1_checkUnit 30 = .ok (.if_icmp .ne 20, 3) := by decide +kernel
theorem dX1_checkUnit_33 : decode cX1_checkUnit 33 = .ok (.aload_n 0, 1) := by decide +kernel
theorem dX1_checkUnit_34 : decode cX1_checkUnit 34 = .ok (.aload_n 0, 1) := by decide +kernel
theorem dX1_checkUnit_35 : decode cX1_checkUnit 35 = .ok (.iload_n 1, 1) := by decide +kernel
theorem dX1_checkUnit_36 : decode cX1_checkUnit 36 = .ok (.invokevirtual 59, 3) := by decide +kernel
theorem dX1_checkUnit_39 : decode cX1_checkUnit 39 = .ok (.invokevirtual 74, 3) := by decide +kernel
theorem dX1_checkUnit_42 : decode cX1_checkUnit 42 = .ok (.iload_n 2, 1) := by decide +kernel
theorem dX1_checkUnit_43 : decode cX1_checkUnit 43 = .ok (.if_icmp .ne 7, 3) := by decide +kernel
theorem dX1_checkUnit_46 : decode cX1_checkUnit 46 = .ok (.iconst 1, 1) := by decide +kernel
theorem dX1_checkUnit_47 : decode cX1_checkUnit 47 = .ok (.goto 4, 3) := by decide +kernel
theorem dX1_checkUnit_50 : decode cX1_checkUnit 50 = .ok (.iconst 0, 1) := by decide +kernel
theorem dX1_checkUnit_51 : decode cX1_checkUnit 51 = .ok (.istore_n 3, 1) := by decide +kernel
theorem dX1_checkUnit_52 : decode cX1_checkUnit 52 = .ok (.iload_n 3, 1) := by decide +kernel
theorem dX1_checkUnit_53 : decode cX1_checkUnit 53 = .ok (.ifCond .ne 8, 3) := by decide +kernel
theorem dX1_checkUnit_56 : decode cX1_checkUnit 56 = .ok (.aload_n 0, 1) := by decide +kernel
theorem dX1_checkUnit_57 : decode cX1_checkUnit 57 = .ok (.iconst 0, 1) := by decide +kernel
theorem dX1_checkUnit_58 : decode cX1_checkUnit 58 = .ok (.putfield 21, 3) := by decide +kernel
theorem dX1_checkUnit_61 : decode cX1_checkUnit 61 = .ok (.return_, 1) := by decide +kernel
theorem dX1_digits_0 : decode cX1_digits 0 = .ok (.iload_n 1, 1) := by decide +kernel
theorem dX1_digits_1 : decode cX1_digits 1 = .ok (.istore 7, 2) := by decide +kernel
theorem dX1_digits_3 : decode cX1_digits 3 = .ok (.iconst 0, 1) := by decide +kernel
theorem dX1_digits_4 : decode cX1_digits 4 = .ok (.istore 8, 2) := by decide +kernel
theorem dX1_digits_6 : decode cX1_digits 6 = .ok (.iload 7, 2) := by decide +kernel
theorem dX1_digits_8 : decode cX1_digits 8 = .ok (.iload_n 2, 1) := by decide +kernel
theorem dX1_digits_9 : decode cX1_digits 9 = .ok (.if_icmp .ge 41, 3) := by decide +kernel
theorem dX1_digits_12 : decode cX1_digits 12 = .ok (.iload 7, 2) := by decide +kernel
theorem dX1_digits_14 : decode cX1_digits 14 = .ok (.iload_n 1, 1) := by decide +kernel
theorem dX1_digits_15 : decode cX1_digits 15 = .ok (.isub, 1) := by decide +kernel
theorem dX1_digits_16 : decode cX1_digits 16 = .ok (.iload 4, 2) := by decide +kernel
theorem dX1_digits_18 : decode cX1_digits 18 = .ok (.if_icmp .ge 32, 3) := by decide +kernel
theorem dX1_digits_21 : decode cX1_digits 21 = .ok (.aload_n 0, 1) := by decide +kernel
theorem dX1_digits_22 : decode cX1_digits 22 = .ok (.iload 7, 2) := by decide +kernel
theorem dX1_digits_24 : decode cX1_digits 24 = .ok (.invokevirtual 63, 3) := by decide +kernel
theorem dX1_digits_27 : decode cX1_digits 27 = .ok (.ifCond .lt 23, 3) := by decide +kernel
theorem dX1_digits_30 : decode cX1_digits 30 = .ok (.iload 8, 2) := by decide +kernel
theorem dX1_digits_32 : decode cX1_digits 32 = .ok (.bipush 10, 2) := by decide +kernel
theorem dX1_digits_34 : decode cX1_digits 34 = .ok (.imul, 1) := by decide +kernel
theorem dX1_digits_35 : decode cX1_digits 35 = .ok (.aload_n 0, 1) := by decide +kernel
theorem dX1_digits_36 : decode cX1_digits 36 = .ok (.iload 7, 2) := by decide +kernel
theorem dX1_digits_38 : decode cX1_digits 38 = .ok (.invokevirtual 63, 3) := by decide +kernel
theorem dX1_digits_41 : decode cX1_digits 41 = .ok (.iadd, 1) := by decide +kernel
theorem dX1_digits_42 : decode cX1_digits 42 = .ok (.istore 8, 2) := by decide +kernel
theorem dX1_digits_44 : decode cX1_digits 44 = .ok (.iinc 7 1, 3) := by decide +kernel
theorem dX1_digits_47 : decode cX1_digits 47 = .ok (.goto (-41), 3) := by decide +kernel
theorem dX1_digits_50 : decode cX1_digits 50 = .ok (.iload 7, 2) := by decide +kernel
theorem dX1_digits_52 : decode cX1_digits 52 = .ok (.iload_n 1, 1) := by decide +kernel
theorem dX1_digits_53 : decode cX1_digits 53 = .ok (.isub, 1) := by decide +kernel
theorem dX1_digits_54 : decode cX1_digits 54 = .ok (.iload_n 3, 1) := by decide +kernel
theorem dX1_digits_55 : decode cX1_digits 55 = .ok (.if_icmp .ge 8, 3) := by decide +kernel
theorem dX1_digits_58 : decode cX1_digits 58 = .ok (.aload_n 0, 1) := by decide +kernel
theorem dX1_digits_59 : decode cX1_digits 59 = .ok (.invokevirtual 66, 3) := by decide +kernel
theorem dX1_digits_62 : decode cX1_digits 62 = .ok (.ireturn, 1) := by decide +kernel
theorem dX1_digits_63 : decode cX1_digits 63 = .ok (.iload 6, 2) := by decide +kernel
theorem dX1_digits_65 : decode cX1_digits 65 = .ok (.istore 9, 2) := by decide +kernel
theorem dX1_digits_67 : decode cX1_digits 67 = .ok (.iload 7, 2) := by decide +kernel
theorem dX1_digits_69 : decode cX1_digits 69 = .ok (.iload_n 2, 1) := by decide +kernel
theorem dX1_digits_70 : decode cX1_digits 70 = .ok (.if_icmp .ge 94, 3) := by decide +kernel
theorem dX1_digits_73 : decode cX1_digits 73 = .ok (.iload 7, 2) := by decide +kernel
theorem dX1_digits_75 : decode cX1_digits 75 = .ok (.iconst 1, 1) := by decide +kernel
theorem dX1_digits_76 : decode cX1_digits 76 = .ok (.iadd, 1) := by decide +kernel
theorem dX1_digits_77 : decode cX1_digits 77 = .ok (.istore 10, 2) := by decide +kernel
theorem dX1_digits_79 : decode cX1_digits 79 = .ok (.aload_n 0, 1) := by decide +kernel
theorem dX1_digits_80 : decode cX1_digits 80 = .ok (.iload 7, 2) := by decide +kernel
theorem dX1_digits_82 : decode cX1_digits 82 = .ok (.invokevirtual 74, 3) := by decide +kernel
theorem dX1_digits_85 : decode cX1_digits 85 = .ok (.bipush 46, 2) := by decide +kernel
theorem dX1_digits_87 : decode cX1_digits 87 = .ok (.if_icmp .ne 20, 3) := by decide +kernel
theorem dX1_digits_90 : decode cX1_digits 90 = .ok (.iload_n 2, 1) := by decide +kernel
theorem dX1_digits_91 : decode cX1_digits 91 = .ok (.iload 10, 2) := by decide +kernel
theorem dX1_digits_93 : decode cX1_digits 93 = .ok (.isub, 1) := by decide +kernel
theorem dX1_digits_94 : decode cX1_digits 94 = .ok (.iconst 1, 1) := by decide +kernel
theorem dX1_digits_95 : decode cX1_digits 95 = .ok (.if_icmp .lt 12, 3) := by decide +kernel
theorem dX1_digits_98 : decode cX1_digits 98 = .ok (.iload_n 2, 1) := by decide +kernel
theorem dX1_digits_99 : decode cX1_digits 99 = .ok (.iload 10, 2) := by decide +kernel
theorem dX1_digits_101 : decode cX1_digits 101 = .ok (.isub, 1) := by decide +kernel
theorem dX1_digits_102 : decode cX1_digits 102 = .ok (.iload 5, 2) := by decide +kernel
theorem dX1_digits_104 : decode cX1_digits 104 = .ok (.if_icmp .le 8, 3) := by decide +kernel
theorem dX1_digits_107 : decode cX1_digits 107 = .ok (.aload_n 0, 1) := by decide +kernel
theorem dX1_digits_108 : decode cX1_digits 108 = .ok (.invokevirtual 66, 3) := by decide +kernel
theorem dX1_digits_111 : decode cX1_digits 111 = .ok (.ireturn, 1) := by decide +kernel
theorem dX1_digits_112 : decode cX1_digits 112 = .ok (.iload 10, 2) := by decide +kernel
theorem dX1_digits_114 : decode cX1_digits 114 = .ok (.istore 11, 2) := by decide +kernel
theorem dX1_digits_116 : decode cX1_digits 116 = .ok (.iload 11, 2) := by decide +kernel
theorem dX1_digits_118 : decode cX1_digits 118 = .ok (.iload_n 2, 1) := by decide +kernel
theorem dX1_digits_119 : decode cX1_digits 119 = .ok (.if_icmp .ge 45, 3) := by decide +kernel
theorem dX1_digits_122 : decode cX1_digits 122 = .ok (.aload_n 0, 1) := by decide +kernel
theorem dX1_digits_123 : decode cX1_digits 123 = .ok (.iload 11, 2) := by decide +kernel
theorem dX1_digits_125 : decode cX1_digits 125 = .ok (.invokevirtual 63, 3) := by decide +kernel
theorem dX1_digits_128 : decode cX1_digits 128 = .ok (.istore 12, 2) := by decide +kernel
theorem dX1_digits_130 : decode cX1_digits 130 = .ok (.iload 12, 2) := by decide +kernel
theorem dX1_digits_132 : decode cX1_digits 132 = .ok (.ifCond .ge 8, 3) := by decide +kernel
theorem dX1_digits_135 : decode cX1_digits 135 = .ok (.aload_n 0, 1) := by decide +kernel
theorem dX1_digits_136 : decode cX1_digits 136 = .ok (.invokevirtual 66, 3) := by decide +kernel
theorem dX1_digits_139 : decode cX1_digits 139 = .ok (.ireturn, 1) := by decide +kernel
theorem dX1_digits_140 : decode cX1_digits 140 = .ok (.iload 9, 2) := by decide +kernel
theorem dX1_digits_142 : decode cX1_digits 142 = .ok (.ifCond .le 16, 3) := by decide +kernel
theorem dX1_digits_145 : decode cX1_digits 145 = .ok (.iload 8, 2) := by decide +kernel
theorem dX1_digits_147 : decode cX1_digits 147 = .ok (.bipush 10, 2) := by decide +kernel
theorem dX1_digits_149 : decode cX1_digits 149 = .ok (.imul, 1) := by decide +kernel
theorem dX1_digits_150 : decode cX1_digits 150 = .ok (.iload 12, 2) := by decide +kernel
theorem dX1_digits_152 : decode cX1_digits 152 = .ok (.iadd, 1) := by decide +kernel
theorem dX1_digits_153 : decode cX1_digits 153 = .ok (.istore 8, 2) := by decide +kernel
theorem dX1_digits_155 : decode cX1_digits 155 = .ok (.iinc 9 (-1), 3) := by decide +kernel
theorem dX1_digits_158 : decode cX1_digits 158 = .ok (.iinc 11 1, 3) := by decide +kernel
theorem dX1_digits_161 : decode cX1_digits 161 = .ok (.goto (-45), 3) := by decide +kernel
theorem dX1_digits_164 : decode cX1_digits 164 = .ok (.iconst 0, 1) := by decide +kernel
theorem dX1_digits_165 : decode cX1_digits 165 = .ok (.istore 10, 2) := by decide +kernel
theorem dX1_digits_167 : decode cX1_digits 167 = .ok (.iload 10, 2) := by decide +kernel
theorem dX1_digits_169 : decode cX1_digits 169 = .ok (.iload 9, 2) := by decide +kernel
theorem dX1_digits_171 : decode cX1_digits 171 = .ok (.if_icmp .ge 16, 3) := by decide +kernel
theorem dX1_digits_174 : decode cX1_digits 174 = .ok (.iload 8, 2) := by decide +kernel
theorem dX1_digits_176 : decode cX1_digits 176 = .ok (.bipush 10, 2) := by decide +kernel
theorem dX1_digits_178 : decode cX1_digits 178 = .ok (.imul, 1) := by decide +kernel
theorem dX1_digits_179 : decode cX1_digits 179 = .ok (.istore 8, 2) := by decide +kernel
theorem dX1_digits_181 : decode cX1_digits 181 = .ok (.iinc 10 1, 3) := by decide +kernel
theorem dX1_digits_184 : decode cX1_digits 184 = .ok (.goto (-17), 3) := by decide +kernel
theorem dX1_digits_187 : decode cX1_digits 187 = .ok (.iload 8, 2) := by decide +kernel
theorem dX1_digits_189 : decode cX1_digits 189 = .ok (.ireturn, 1) := by decide +kernel
theorem dX1_digitAt_0 : decode cX1_digitAt 0 = .ok (.iload_n 1, 1) := by decide +kernel
theorem dX1_digitAt_1 : decode cX1_digitAt 1 = .ok (.ifCond .lt 38, 3) := by decide +kernel
theorem dX1_digitAt_4 : decode cX1_digitAt 4 = .ok (.iload_n 1, 1) := by decide +kernel
theorem dX1_digitAt_5 : decode cX1_digitAt 5 = .ok (.aload_n 0, 1) := by decide +kernel
theorem dX1_digitAt_6 : decode cX1_digitAt 6 = .ok (.getfield 11, 3) := by decide +kernel
theorem dX1_digitAt_9 : decode cX1_digitAt 9 = .ok (.arraylength, 1) := by decide +kernel
theorem dX1_digitAt_10 : decode cX1_digitAt 10 = .ok (.if_icmp .ge 29, 3) := by decide +kernel
theorem dX1_digitAt_13 : decode cX1_digitAt 13 = .ok (.aload_n 0, 1) := by decide +kernel
theorem dX1_digitAt_14 : decode cX1_digitAt 14 = .ok (.getfield 11, 3) := by decide +kernel
theorem dX1_digitAt_17 : decode cX1_digitAt 17 = .ok (.iload_n 1, 1) := by decide +kernel
theorem dX1_digitAt_18 : decode cX1_digitAt 18 = .ok (.baload, 1) := by decide +kernel
theorem dX1_digitAt_19 : decode cX1_digitAt 19 = .ok (.bipush 48, 2) := by decide +kernel
theorem dX1_digitAt_21 : decode cX1_digitAt 21 = .ok (.if_icmp .lt 18, 3) := by decide +kernel
theorem dX1_digitAt_24 : decode cX1_digitAt 24 = .ok (.aload_n 0, 1) := by decide +kernel
theorem dX1_digitAt_25 : decode cX1_digitAt 25 = .ok (.getfield 11, 3) := by decide +kernel
theorem dX1_digitAt_28 : decode cX1_digitAt 28 = .ok (.iload_n 1, 1) := by decide +kernel
theorem dX1_digitAt_29 : decode cX1_digitAt 29 = .ok (.baload, 1) := by decide +kernel
theorem dX1_digitAt_30 : decode cX1_digitAt 30 = .ok (.bipush 57, 2) := by decide +kernel
theorem dX1_digitAt_32 : decode cX1_digitAt 32 = .ok (.if_icmp .gt 7, 3) := by decide +kernel
theorem dX1_digitAt_35 : decode cX1_digitAt 35 = .ok (.iconst 1, 1) := by decide +kernel
theorem dX1_digitAt_36 : decode cX1_digitAt 36 = .ok (.goto 4, 3) := by decide +kernel
theorem dX1_digitAt_39 : decode cX1_digitAt 39 = .ok (.iconst 0, 1) := by decide +kernel
theorem dX1_digitAt_40 : decode cX1_digitAt 40 = .ok (.istore_n 2, 1) := by decide +kernel
theorem dX1_digitAt_41 : decode cX1_digitAt 41 = .ok (.iload_n 2, 1) := by decide +kernel
theorem dX1_digitAt_42 : decode cX1_digitAt 42 = .ok (.ifCond .eq 15, 3) := by decide +kernel
theorem dX1_digitAt_45 : decode cX1_digitAt 45 = .ok (.aload_n 0, 1) := by decide +kernel
theorem dX1_digitAt_46 : decode cX1_digitAt 46 = .ok (.getfield 11, 3) := by decide +kernel
theorem dX1_digitAt_49 : decode cX1_digitAt 49 = .ok (.iload_n 1, 1) := by decide +kernel
theorem dX1_digitAt_50 : decode cX1_digitAt 50 = .ok (.baload, 1) := by decide +kernel
theorem dX1_digitAt_51 : decode cX1_digitAt 51 = .ok (.bipush 48, 2) := by decide +kernel
theorem dX1_digitAt_53 : decode cX1_digitAt 53 = .ok (.isub, 1) := by decide +kernel
theorem dX1_digitAt_54 : decode cX1_digitAt 54 = .ok (.goto 4, 3) := by decide +kernel
theorem dX1_digitAt_57 : decode cX1_digitAt 57 = .ok (.iconst (-1), 1) := by decide +kernel
theorem dX1_digitAt_58 : decode cX1_digitAt 58 = .ok (.ireturn, 1) := by decide +kernel
theorem dX1_checkPack_0 : decode cX1_checkPack 0 = .ok (.aload_n 0, 1) := by decide +kernel
theorem dX1_checkPack_1 : decode cX1_checkPack 1 = .ok (.iload_n 1, 1) := by decide +kernel
theorem dX1_checkPack_2 : decode cX1_checkPack 2 = .ok (.invokevirtual 36, 3) := by decide +kernel
theorem dX1_checkPack_5 : decode cX1_checkPack 5 = .ok (.aload_n 0, 1) := by decide +kernel
theorem dX1_checkPack_6 : decode cX1_checkPack 6 = .ok (.iload_n 1, 1) := by decide +kernel
theorem dX1_checkPack_7 : decode cX1_checkPack 7 = .ok (.invokevirtual 59, 3) := by decide +kernel
theorem dX1_checkPack_10 : decode cX1_checkPack 10 = .ok (.isub, 1) := by decide +kernel
theorem dX1_checkPack_11 : decode cX1_checkPack 11 = .ok (.istore_n 2, 1) := by decide +kernel
theorem dX1_checkPack_12 : decode cX1_checkPack 12 = .ok (.iload_n 2, 1) := by decide +kernel
theorem dX1_checkPack_13 : decode cX1_checkPack 13 = .ok (.iconst 1, 1) := by decide +kernel
theorem dX1_checkPack_14 : decode cX1_checkPack 14 = .ok (.if_icmp .lt 9, 3) := by decide +kernel
theorem dX1_checkPack_17 : decode cX1_checkPack 17 = .ok (.iload_n 2, 1) := by decide +kernel
theorem dX1_checkPack_18 : decode cX1_checkPack 18 = .ok (.bipush 60, 2) := by decide +kernel
theorem dX1_checkPack_20 : decode cX1_checkPack 20 = .ok (.if_icmp .le 8, 3) := by decide +kernel
theorem dX1_checkPack_23 : decode cX1_checkPack 23 = .ok (.aload_n 0, 1) := by decide +kernel
theorem dX1_checkPack_24 : decode cX1_checkPack 24 = .ok (.iconst 0, 1) := by decide +kernel
theorem dX1_checkPack_25 : decode cX1_checkPack 25 = .ok (.putfield 21, 3) := by decide +kernel
theorem dX1_checkPack_28 : decode cX1_checkPack 28 = .ok (.aload_n 0, 1) := by decide +kernel
theorem dX1_checkPack_29 : decode cX1_checkPack 29 = .ok (.iload_n 1, 1) := by decide +kernel
theorem dX1_checkPack_30 : decode cX1_checkPack 30 = .ok (.invokevirtual 59, 3) := by decide +kernel
theorem dX1_checkPack_33 : decode cX1_checkPack 33 = .ok (.istore_n 3, 1) := by decide +kernel
theorem dX1_checkPack_34 : decode cX1_checkPack 34 = .ok (.iload_n 3, 1) := by decide +kernel
theorem dX1_checkPack_35 : decode cX1_checkPack 35 = .ok (.aload_n 0, 1) := by decide +kernel
theorem dX1_checkPack_36 : decode cX1_checkPack 36 = .ok (.iload_n 1, 1) := by decide +kernel
theorem dX1_checkPack_37 : decode cX1_checkPack 37 = .ok (.invokevirtual 36, 3) := by decide +kernel
theorem dX1_checkPack_40 : decode cX1_checkPack 40 = .ok (.if_icmp .ge 61, 3) := by decide +kernel
theorem dX1_checkPack_43 : decode cX1_checkPack 43 = .ok (.aload_n 0, 1) := by decide +kernel
theorem dX1_checkPack_44 : decode cX1_checkPack 44 = .ok (.iload_n 3, 1) := by decide +kernel
theorem dX1_checkPack_45 : decode cX1_checkPack 45 = .ok (.invokevirtual 74, 3) := by decide +kernel
theorem dX1_checkPack_48 : decode cX1_checkPack 48 = .ok (.istore 4, 2) := by decide +kernel
theorem dX1_checkPack_50 : decode cX1_checkPack 50 = .ok (.iload 4, 2) := by decide +kernel
theorem dX1_checkPack_52 : decode cX1_checkPack 52 = .ok (.bipush 48, 2) := by decide +kernel
theorem dX1_checkPack_54 : decode cX1_checkPack 54 = .ok (.if_icmp .lt 10, 3) := by decide +kernel
theorem dX1_checkPack_57 : decode cX1_checkPack 57 = .ok (.iload 4, 2) := by decide +kernel
theorem dX1_checkPack_59 : decode cX1_checkPack 59 = .ok (.bipush 87, 2) := by decide +kernel
theorem dX1_checkPack_61 : decode cX1_checkPack 61 = .ok (.if_icmp .le 17, 3) := by decide +kernel
theorem dX1_checkPack_64 : decode cX1_checkPack 64 = .ok (.iload 4, 2) := by decide +kernel
theorem dX1_checkPack_66 : decode cX1_checkPack 66 = .ok (.bipush 96, 2) := by decide +kernel
theorem dX1_checkPack_68 : decode cX1_checkPack 68 = .ok (.if_icmp .lt 14, 3) := by decide +kernel
theorem dX1_checkPack_71 : decode cX1_checkPack 71 = .ok (.iload 4, 2) := by decide +kernel
theorem dX1_checkPack_73 : decode cX1_checkPack 73 = .ok (.bipush 119, 2) := by decide +kernel
theorem dX1_checkPack_75 : decode cX1_checkPack 75 = .ok (.if_icmp .gt 7, 3) := by decide +kernel
theorem dX1_checkPack_78 : decode cX1_checkPack 78 = .ok (.iconst 1, 1) := by decide +kernel
theorem dX1_checkPack_79 : decode cX1_checkPack 79 = .ok (.goto 4, 3) := by decide +kernel
theorem dX1_checkPack_82 : decode cX1_checkPack 82 = .ok (.iconst 0, 1) := by decide +kernel
theorem dX1_checkPack_83 : decode cX1_checkPack 83 = .ok (.istore 5, 2) := by decide +kernel
theorem dX1_checkPack_85 : decode cX1_checkPack 85 = .ok (.iload 5, 2) := by decide +kernel
theorem dX1_checkPack_87 : decode cX1_checkPack 87 = .ok (.ifCond .ne 8, 3) := by decide +kernel
theorem dX1_checkPack_90 : decode cX1_checkPack 90 = .ok (.aload_n 0, 1) := by decide +kernel
theorem dX1_checkPack_91 : decode cX1_checkPack 91 = .ok (.iconst 0, 1) := by decide +kernel
theorem dX1_checkPack_92 : decode cX1_checkPack 92 = .ok (.putfield 21, 3) := by decide +kernel
theorem dX1_checkPack_95 : decode cX1_checkPack 95 = .ok (.iinc 3 1, 3) := by decide +kernel
theorem dX1_checkPack_98 : decode cX1_checkPack 98 = .ok (.goto (-64), 3) := by decide +kernel
theorem dX1_checkPack_101 : decode cX1_checkPack 101 = .ok (.return_, 1) := by decide +kernel
theorem dX1_unpack_0 : decode cX1_unpack 0 = .ok (.aload_n 0, 1) := by decide +kernel
theorem dX1_unpack_1 : decode cX1_unpack 1 = .ok (.iload_n 1, 1) := by decide +kernel
theorem dX1_unpack_2 : decode cX1_unpack 2 = .ok (.invokevirtual 36, 3) := by decide +kernel
theorem dX1_unpack_5 : decode cX1_unpack 5 = .ok (.iconst 1, 1) := by decide +kernel
theorem dX1_unpack_6 : decode cX1_unpack 6 = .ok (.isub, 1) := by decide +kernel
theorem dX1_unpack_7 : decode cX1_unpack 7 = .ok (.istore 4, 2) := by decide +kernel
theorem dX1_unpack_9 : decode cX1_unpack 9 = .ok (.aload_n 0, 1) := by decide +kernel
theorem dX1_unpack_10 : decode cX1_unpack 10 = .ok (.iload_n 1, 1) := by decide +kernel
theorem dX1_unpack_11 : decode cX1_unpack 11 = .ok (.invokevirtual 59, 3) := by decide +kernel
theorem dX1_unpack_14 : decode cX1_unpack 14 = .ok (.istore 5, 2) := by decide +kernel
theorem dX1_unpack_16 : decode cX1_unpack 16 = .ok (.iload 5, 2) := by decide +kernel
theorem dX1_unpack_18 : decode cX1_unpack 18 = .ok (.iload 4, 2) := by decide +kernel
theorem dX1_unpack_20 : decode cX1_unpack 20 = .ok (.if_icmp .gt 58, 3) := by decide +kernel
theorem dX1_unpack_23 : decode cX1_unpack 23 = .ok (.aload_n 0, 1) := by decide +kernel
theorem dX1_unpack_24 : decode cX1_unpack 24 = .ok (.iload 5, 2) := by decide +kernel
theorem dX1_unpack_26 : decode cX1_unpack 26 = .ok (.invokevirtual 74, 3) := by decide +kernel
theorem dX1_unpack_29 : decode cX1_unpack 29 = .ok (.bipush 48, 2) := by decide +kernel
theorem dX1_unpack_31 : decode cX1_unpack 31 = .ok (.isub, 1) := by decide +kernel
theorem dX1_unpack_32 : decode cX1_unpack 32 = .ok (.istore 6, 2) := by decide +kernel
theorem dX1_unpack_34 : decode cX1_unpack 34 = .ok (.iload 6, 2) := by decide +kernel
theorem dX1_unpack_36 : decode cX1_unpack 36 = .ok (.bipush 40, 2) := by decide +kernel
theorem dX1_unpack_38 : decode cX1_unpack 38 = .ok (.if_icmp .le 6, 3) := by decide +kernel
theorem dX1_unpack_41 : decode cX1_unpack 41 = .ok (.iinc 6 (-8), 3) := by decide +kernel
theorem dX1_unpack_44 : decode cX1_unpack 44 = .ok (.iload 5, 2) := by decide +kernel
theorem dX1_unpack_46 : decode cX1_unpack 46 = .ok (.iload 4, 2) := by decide +kernel
theorem dX1_unpack_48 : decode cX1_unpack 48 = .ok (.if_icmp .ne 7, 3) := by decide +kernel
theorem dX1_unpack_51 : decode cX1_unpack 51 = .ok (.iload_n 2, 1) := by decide +kernel
theorem dX1_unpack_52 : decode cX1_unpack 52 = .ok (.goto 4, 3) := by decide +kernel
theorem dX1_unpack_55 : decode cX1_unpack 55 = .ok (.iconst 0, 1) := by decide +kernel
theorem dX1_unpack_56 : decode cX1_unpack 56 = .ok (.istore 7, 2) := by decide +kernel
theorem dX1_unpack_58 : decode cX1_unpack 58 = .ok (.aload_n 3, 1) := by decide +kernel
theorem dX1_unpack_59 : decode cX1_unpack 59 = .ok (.iload 6, 2) := by decide +kernel
theorem dX1_unpack_61 : decode cX1_unpack 61 = .ok (.iload 7, 2) := by decide +kernel
theorem dX1_unpack_63 : decode cX1_unpack 63 = .ok (.ishr, 1) := by decide +kernel
theorem dX1_unpack_64 : decode cX1_unpack 64 = .ok (.bipush 6, 2) := by decide +kernel
theorem dX1_unpack_66 : decode cX1_unpack 66 = .ok (.iload 7, 2) := by decide +kernel
theorem dX1_unpack_68 : decode cX1_unpack 68 = .ok (.isub, 1) := by decide +kernel
theorem dX1_unpack_69 : decode cX1_unpack 69 = .ok (.invokevirtual 105, 3) := by decide +kernel
theorem dX1_unpack_72 : decode cX1_unpack 72 = .ok (.iinc 5 1, 3) := by decide +kernel
theorem dX1_unpack_75 : decode cX1_unpack 75 = .ok (.goto (-59), 3) := by decide +kernel
theorem dX1_unpack_78 : decode cX1_unpack 78 = .ok (.return_, 1) := by decide +kernel
theorem dX2_init_0 : decode cX2_init 0 = .ok (.aload_n 0, 1) := by decide +kernel
theorem dX2_init_1 : decode cX2_init 1 = .ok (.invokespecial 3, 3) := by decide +kernel
theorem dX2_init_4 : decode cX2_init 4 = .ok (.aload_n 0, 1) := by decide +kernel
theorem dX2_init_5 : decode cX2_init 5 = .ok (.bipush 40, 2) := by decide +kernel
theorem dX2_init_7 : decode cX2_init 7 = .ok (.anewarray 11, 3) := by decide +kernel
theorem dX2_init_10 : decode cX2_init 10 = .ok (.putfield 13, 3) := by decide +kernel
theorem dX2_init_13 : decode cX2_init 13 = .ok (.return_, 1) := by decide +kernel
theorem dX2_at_0 : decode cX2_at 0 = .ok (.iload_n 1, 1) := by decide +kernel
theorem dX2_at_1 : decode cX2_at 1 = .ok (.ifCond .lt 26, 3) := by decide +kernel
theorem dX2_at_4 : decode cX2_at 4 = .ok (.iload_n 1, 1) := by decide +kernel
theorem dX2_at_5 : decode cX2_at 5 = .ok (.aload_n 0, 1) := by decide +kernel
theorem dX2_at_6 : decode cX2_at 6 = .ok (.getfield 17, 3) := by decide +kernel
theorem dX2_at_9 : decode cX2_at 9 = .ok (.if_icmp .ge 18, 3) := by decide +kernel
theorem dX2_at_12 : decode cX2_at 12 = .ok (.iload_n 1, 1) := by decide +kernel
theorem dX2_at_13 : decode cX2_at 13 = .ok (.bipush 40, 2) := by decide +kernel
theorem dX2_at_15 : decode cX2_at 15 = .ok (.if_icmp .ge 12, 3) := by decide +kernel
theorem dX2_at_18 : decode cX2_at 18 = .ok (.aload_n 0, 1) := by decide +kernel
theorem dX2_at_19 : decode cX2_at 19 = .ok (.getfield 13, 3) := by decide +kernel
theorem dX2_at_22 : decode cX2_at 22 = .ok (.iload_n 1, 1) := by decide +kernel
theorem dX2_at_23 : decode cX2_at 23 = .ok (.aaload, 1) := by decide +kernel
theorem dX2_at_24 : decode cX2_at 24 = .ok (.goto 4, 3) := by decide +kernel
theorem dX2_at_27 : decode cX2_at 27 = .ok (.aconst_null, 1) := by decide +kernel
theorem dX2_at_28 : decode cX2_at 28 = .ok (.areturn, 1) := by decide +kernel
theorem dX2_numberOf_0 : decode cX2_numberOf 0 = .ok (.iconst 0, 1) := by decide +kernel
theorem dX2_numberOf_1 : decode cX2_numberOf 1 = .ok (.istore_n 2, 1) := by decide +kernel
theorem dX2_numberOf_2 : decode cX2_numberOf 2 = .ok (.iload_n 2, 1) := by decide +kernel
theorem dX2_numberOf_3 : decode cX2_numberOf 3 = .ok (.aload_n 0, 1) := by decide +kernel
theorem dX2_numberOf_4 : decode cX2_numberOf 4 = .ok (.getfield 17, 3) := by decide +kernel
theorem dX2_numberOf_7 : decode cX2_numberOf 7 = .ok (.if_icmp .ge 41, 3) := by decide +kernel
theorem dX2_numberOf_10 : decode cX2_numberOf 10 = .ok (.iload_n 2, 1) := by decide +kernel
theorem dX2_numberOf_11 : decode cX2_numberOf 11 = .ok (.bipush 40, 2) := by decide +kernel
theorem dX2_numberOf_13 : decode cX2_numberOf 13 = .ok (.if_icmp .ge 35, 3) := by decide +kernel
theorem dX2_numberOf_16 : decode cX2_numberOf 16 = .ok (.aload_n 0, 1) := by decide +kernel
theorem dX2_numberOf_17 : decode cX2_numberOf 17 = .ok (.getfield 13, 3) := by decide +kernel
theorem dX2_numberOf_20 : decode cX2_numberOf 20 = .ok (.iload_n 2, 1) := by decide +kernel
theorem dX2_numberOf_21 : decode cX2_numberOf 21 = .ok (.aaload, 1) := by decide +kernel
theorem dX2_numberOf_22 : decode cX2_numberOf 22 = .ok (.ifnull 20, 3) := by decide +kernel
theorem dX2_numberOf_25 : decode cX2_numberOf 25 = .ok (.aload_n 0, 1) := by decide +kernel
theorem dX2_numberOf_26 : decode cX2_numberOf 26 = .ok (.getfield 13, 3) := by decide +kernel
theorem dX2_numberOf_29 : decode cX2_numberOf 29 = .ok (.iload_n 2, 1) := by decide +kernel
theorem dX2_numberOf_30 : decode cX2_numberOf 30 = .ok (.aaload, 1) := by decide +kernel
theorem dX2_numberOf_31 : decode cX2_numberOf 31 = .ok (.getfield 21, 3) := by decide +kernel
theorem dX2_numberOf_34 : decode cX2_numberOf 34 = .ok (.iconst 0, 1) := by decide +kernel
theorem dX2_numberOf_35 : decode cX2_numberOf 35 = .ok (.iaload, 1) := by decide +kernel
theorem dX2_numberOf_36 : decode cX2_numberOf 36 = .ok (.iload_n 1, 1) := by decide +kernel
theorem dX2_numberOf_37 : decode cX2_numberOf 37 = .ok (.if_icmp .ne 5, 3) := by decide +kernel
theorem dX2_numberOf_40 : decode cX2_numberOf 40 = .ok (.iload_n 2, 1) := by decide +kernel
theorem dX2_numberOf_41 : decode cX2_numberOf 41 = .ok (.ireturn, 1) := by decide +kernel
theorem dX2_numberOf_42 : decode cX2_numberOf 42 = .ok (.iinc 2 1, 3) := by decide +kernel
theorem dX2_numberOf_45 : decode cX2_numberOf 45 = .ok (.goto (-43), 3) := by decide +kernel
theorem dX2_numberOf_48 : decode cX2_numberOf 48 = .ok (.ldc 25, 2) := by decide +kernel
theorem dX2_numberOf_50 : decode cX2_numberOf 50 = .ok (.ireturn, 1) := by decide +kernel
theorem dX2_vesselOf_0 : decode cX2_vesselOf 0 = .ok (.aload_n 0, 1) := by decide +kernel
theorem dX2_vesselOf_1 : decode cX2_vesselOf 1 = .ok (.iload_n 1, 1) := by decide +kernel
theorem dX2_vesselOf_2 : decode cX2_vesselOf 2 = .ok (.invokevirtual 26, 3) := by decide +kernel
theorem dX2_vesselOf_5 : decode cX2_vesselOf 5 = .ok (.istore_n 2, 1) := by decide +kernel
theorem dX2_vesselOf_6 : decode cX2_vesselOf 6 = .ok (.iload_n 2, 1) := by decide +kernel
theorem dX2_vesselOf_7 : decode cX2_vesselOf 7 = .ok (.ifCond .lt 16, 3) := by decide +kernel
theorem dX2_vesselOf_10 : decode cX2_vesselOf 10 = .ok (.iload_n 2, 1) := by decide +kernel
theorem dX2_vesselOf_11 : decode cX2_vesselOf 11 = .ok (.bipush 40, 2) := by decide +kernel
theorem dX2_vesselOf_13 : decode cX2_vesselOf 13 = .ok (.if_icmp .ge 10, 3) := by decide +kernel
theorem dX2_vesselOf_16 : decode cX2_vesselOf 16 = .ok (.aload_n 0, 1) := by decide +kernel
theorem dX2_vesselOf_17 : decode cX2_vesselOf 17 = .ok (.getfield 13, 3) := by decide +kernel
theorem dX2_vesselOf_20 : decode cX2_vesselOf 20 = .ok (.iload_n 2, 1) := by decide +kernel
theorem dX2_vesselOf_21 : decode cX2_vesselOf 21 = .ok (.aaload, 1) := by decide +kernel
theorem dX2_vesselOf_22 : decode cX2_vesselOf 22 = .ok (.areturn, 1) := by decide +kernel
theorem dX2_vesselOf_23 : decode cX2_vesselOf 23 = .ok (.aload_n 0, 1) := by decide +kernel
theorem dX2_vesselOf_24 : decode cX2_vesselOf 24 = .ok (.getfield 17, 3) := by decide +kernel
theorem dX2_vesselOf_27 : decode cX2_vesselOf 27 = .ok (.ifCond .lt 12, 3) := by decide +kernel
theorem dX2_vesselOf_30 : decode cX2_vesselOf 30 = .ok (.aload_n 0, 1) := by decide +kernel
theorem dX2_vesselOf_31 : decode cX2_vesselOf 31 = .ok (.getfield 17, 3) := by decide +kernel
theorem dX2_vesselOf_34 : decode cX2_vesselOf 34 = .ok (.bipush 40, 2) := by decide +kernel
theorem dX2_vesselOf_36 : decode cX2_vesselOf 36 = .ok (.if_icmp .lt 5, 3) := by decide +kernel
theorem dX2_vesselOf_39 : decode cX2_vesselOf 39 = .ok (.aconst_null, 1) := by decide +kernel
theorem dX2_vesselOf_40 : decode cX2_vesselOf 40 = .ok (.areturn, 1) := by decide +kernel
theorem dX2_vesselOf_41 : decode cX2_vesselOf 41 = .ok (.aload_n 0, 1) := by decide +kernel
theorem dX2_vesselOf_42 : decode cX2_vesselOf 42 = .ok (.getfield 13, 3) := by decide +kernel
theorem dX2_vesselOf_45 : decode cX2_vesselOf 45 = .ok (.aload_n 0, 1) := by decide +kernel
theorem dX2_vesselOf_46 : decode cX2_vesselOf 46 = .ok (.getfield 17, 3) := by decide +kernel
theorem dX2_vesselOf_49 : decode cX2_vesselOf 49 = .ok (.aaload, 1) := by decide +kernel
theorem dX2_vesselOf_50 : decode cX2_vesselOf 50 = .ok (.ifnonnull 19, 3) := by decide +kernel
theorem dX2_vesselOf_53 : decode cX2_vesselOf 53 = .ok (.aload_n 0, 1) := by decide +kernel
theorem dX2_vesselOf_54 : decode cX2_vesselOf 54 = .ok (.getfield 13, 3) := by decide +kernel
theorem dX2_vesselOf_57 : decode cX2_vesselOf 57 = .ok (.aload_n 0, 1) := by decide +kernel
theorem dX2_vesselOf_58 : decode cX2_vesselOf 58 = .ok (.getfield 17, 3) := by decide +kernel
theorem dX2_vesselOf_61 : decode cX2_vesselOf 61 = .ok (.new 11, 3) := by decide +kernel
theorem dX2_vesselOf_64 : decode cX2_vesselOf 64 = .ok (.dup, 1) := by decide +kernel
theorem dX2_vesselOf_65 : decode cX2_vesselOf 65 = .ok (.invokespecial 30, 3) := by decide +kernel
theorem dX2_vesselOf_68 : decode cX2_vesselOf 68 = .ok (.aastore, 1) := by decide +kernel
theorem dX2_vesselOf_69 : decode cX2_vesselOf 69 = .ok (.aload_n 0, 1) := by decide +kernel
theorem dX2_vesselOf_70 : decode cX2_vesselOf 70 = .ok (.getfield 13, 3) := by decide +kernel
theorem dX2_vesselOf_73 : decode cX2_vesselOf 73 = .ok (.aload_n 0, 1) := by decide +kernel
theorem dX2_vesselOf_74 : decode cX2_vesselOf 74 = .ok (.getfield 17, 3) := by decide +kernel
theorem dX2_vesselOf_77 : decode cX2_vesselOf 77 = .ok (.aaload, 1) := by decide +kernel
theorem dX2_vesselOf_78 : decode cX2_vesselOf 78 = .ok (.iload_n 1, 1) := by decide +kernel
theorem dX2_vesselOf_79 : decode cX2_vesselOf 79 = .ok (.invokevirtual 31, 3) := by decide +kernel
theorem dX2_vesselOf_82 : decode cX2_vesselOf 82 = .ok (.aload_n 0, 1) := by decide +kernel
theorem dX2_vesselOf_83 : decode cX2_vesselOf 83 = .ok (.dup, 1) := by decide +kernel
theorem dX2_vesselOf_84 : decode cX2_vesselOf 84 = .ok (.getfield 17, 3) := by decide +kernel
theorem dX2_vesselOf_87 : decode cX2_vesselOf 87 = .ok (.iconst 1, 1) := by decide +kernel
theorem dX2_vesselOf_88 : decode cX2_vesselOf 88 = .ok (.iadd, 1) := by decide +kernel
theorem dX2_vesselOf_89 : decode cX2_vesselOf 89 = .ok (.putfield 17, 3) := by decide +kernel
theorem dX2_vesselOf_92 : decode cX2_vesselOf 92 = .ok (.aload_n 0, 1) := by decide +kernel
theorem dX2_vesselOf_93 : decode cX2_vesselOf 93 = .ok (.getfield 13, 3) := by decide +kernel
theorem dX2_vesselOf_96 : decode cX2_vesselOf 96 = .ok (.aload_n 0, 1) := by decide +kernel
theorem dX2_vesselOf_97 : decode cX2_vesselOf 97 = .ok (.getfield 17, 3) := by decide +kernel
theorem dX2_vesselOf_100 : decode cX2_vesselOf 100 = .ok (.iconst 1, 1) := by decide +kernel
theorem dX2_vesselOf_101 : decode cX2_vesselOf 101 = .ok (.isub, 1) := by decide +kernel
theorem dX2_vesselOf_102 : decode cX2_vesselOf 102 = .ok (.aaload, 1) := by decide +kernel
theorem dX2_vesselOf_103 : decode cX2_vesselOf 103 = .ok (.areturn, 1) := by decide +kernel
theorem dX3_init_0 : decode cX3_init 0 = .ok (.aload_n 0, 1) := by decide +kernel
theorem dX3_init_1 : decode cX3_init 1 = .ok (.invokespecial 3, 3) := by decide +kernel
theorem dX3_init_4 : decode cX3_init 4 = .ok (.aload_n 0, 1) := by decide +kernel
theorem dX3_init_5 : decode cX3_init 5 = .ok (.bipush 11, 2) := by decide +kernel
theorem dX3_init_7 : decode cX3_init 7 = .ok (.anewarray 11, 3) := by decide +kernel
theorem dX3_init_10 : decode cX3_init 10 = .ok (.putfield 13, 3) := by decide +kernel
theorem dX3_init_13 : decode cX3_init 13 = .ok (.aload_n 0, 1) := by decide +kernel
theorem dX3_init_14 : decode cX3_init 14 = .ok (.bipush 11, 2) := by decide +kernel
theorem dX3_init_16 : decode cX3_init 16 = .ok (.newarray .int, 2) := by decide +kernel
theorem dX3_init_18 : decode cX3_init 18 = .ok (.putfield 17, 3) := by decide +kernel
theorem dX3_init_21 : decode cX3_init 21 = .ok (.aload_n 0, 1) := by decide +kernel
theorem dX3_init_22 : decode cX3_init 22 = .ok (.bipush 11, 2) := by decide +kernel
theorem dX3_init_24 : decode cX3_init 24 = .ok (.newarray .int, 2) := by decide +kernel
theorem dX3_init_26 : decode cX3_init 26 = .ok (.putfield 21, 3) := by decide +kernel
theorem dX3_init_29 : decode cX3_init 29 = .ok (.return_, 1) := by decide +kernel
theorem dX3_forget_0 : decode cX3_forget 0 = .ok (.aload_n 0, 1) := by decide +kernel
theorem dX3_forget_1 : decode cX3_forget 1 = .ok (.getfield 21, 3) := by decide +kernel
theorem dX3_forget_4 : decode cX3_forget 4 = .ok (.iconst 0, 1) := by decide +kernel
theorem dX3_forget_5 : decode cX3_forget 5 = .ok (.invokestatic 24, 3) := by decide +kernel
theorem dX3_forget_8 : decode cX3_forget 8 = .ok (.return_, 1) := by decide +kernel
theorem dX3_keptInAll_0 : decode cX3_keptInAll 0 = .ok (.iconst 0, 1) := by decide +kernel
theorem dX3_keptInAll_1 : decode cX3_keptInAll 1 = .ok (.istore_n 1, 1) := by decide +kernel
theorem dX3_keptInAll_2 : decode cX3_keptInAll 2 = .ok (.iconst 0, 1) := by decide +kernel
theorem dX3_keptInAll_3 : decode cX3_keptInAll 3 = .ok (.istore_n 2, 1) := by decide +kernel
theorem dX3_keptInAll_4 : decode cX3_keptInAll 4 = .ok (.iload_n 2, 1) := by decide +kernel
theorem dX3_keptInAll_5 : decode cX3_keptInAll 5 = .ok (.bipush 11, 2) := by decide +kernel
theorem dX3_keptInAll_7 : decode cX3_keptInAll 7 = .ok (.if_icmp .ge 18, 3) := by decide +kernel
theorem dX3_keptInAll_10 : decode cX3_keptInAll 10 = .ok (.iload_n 1, 1) := by decide +kernel
theorem dX3_keptInAll_11 : decode cX3_keptInAll 11 = .ok (.aload_n 0, 1) := by decide +kernel
theorem dX3_keptInAll_12 : decode cX3_keptInAll 12 = .ok (.getfield 21, 3) := by decide +kernel
theorem dX3_keptInAll_15 : decode cX3_keptInAll 15 = .ok (.iload_n 2, 1) := by decide +kernel
theorem dX3_keptInAll_16 : decode cX3_keptInAll 16 = .ok (.iaload, 1) := by decide +kernel
theorem dX3_keptInAll_17 : decode cX3_keptInAll 17 = .ok (.iadd, 1) := by decide +kernel
theorem dX3_keptInAll_18 : decode cX3_keptInAll 18 = .ok (.istore_n 1, 1) := by decide +kernel
theorem dX3_keptInAll_19 : decode cX3_keptInAll 19 = .ok (.iinc 2 1, 3) := by decide +kernel
theorem dX3_keptInAll_22 : decode cX3_keptInAll 22 = .ok (.goto (-18), 3) := by decide +kernel
theorem dX3_keptInAll_25 : decode cX3_keptInAll 25 = .ok (.iload_n 1, 1) := by decide +kernel
theorem dX3_keptInAll_26 : decode cX3_keptInAll 26 = .ok (.ireturn, 1) := by decide +kernel
theorem dX3_drop_0 : decode cX3_drop 0 = .ok (.iload_n 1, 1) := by decide +kernel
theorem dX3_drop_1 : decode cX3_drop 1 = .ok (.ifCond .lt 18, 3) := by decide +kernel
theorem dX3_drop_4 : decode cX3_drop 4 = .ok (.iload_n 1, 1) := by decide +kernel
theorem dX3_drop_5 : decode cX3_drop 5 = .ok (.bipush 11, 2) := by decide +kernel
theorem dX3_drop_7 : decode cX3_drop 7 = .ok (.if_icmp .ge 12, 3) := by decide +kernel
theorem dX3_drop_10 : decode cX3_drop 10 = .ok (.aload_n 0, 1) := by decide +kernel
theorem dX3_drop_11 : decode cX3_drop 11 = .ok (.getfield 21, 3) := by decide +kernel
theorem dX3_drop_14 : decode cX3_drop 14 = .ok (.iload_n 1, 1) := by decide +kernel
theorem dX3_drop_15 : decode cX3_drop 15 = .ok (.iaload, 1) := by decide +kernel
theorem dX3_drop_16 : decode cX3_drop 16 = .ok (.ifCond .ne 5, 3) := by decide +kernel
theorem dX3_drop_19 : decode cX3_drop 19 = .ok (.iconst 0, 1) := by decide +kernel
theorem dX3_drop_20 : decode cX3_drop 20 = .ok (.ireturn, 1) := by decide +kernel
theorem dX3_drop_21 : decode cX3_drop 21 = .ok (.aload_n 0, 1) := by decide +kernel
theorem dX3_drop_22 : decode cX3_drop 22 = .ok (.getfield 21, 3) := by decide +kernel
theorem dX3_drop_25 : decode cX3_drop 25 = .ok (.iload_n 1, 1) := by decide +kernel
theorem dX3_drop_26 : decode cX3_drop 26 = .ok (.iconst 0, 1) := by decide +kernel
theorem dX3_drop_27 : decode cX3_drop 27 = .ok (.iastore, 1) := by decide +kernel
theorem dX3_drop_28 : decode cX3_drop 28 = .ok (.iconst 1, 1) := by decide +kernel
theorem dX3_drop_29 : decode cX3_drop 29 = .ok (.ireturn, 1) := by decide +kernel
theorem dX3_awaits_0 : decode cX3_awaits 0 = .ok (.iload_n 1, 1) := by decide +kernel
theorem dX3_awaits_1 : decode cX3_awaits 1 = .ok (.ifCond .lt 44, 3) := by decide +kernel
theorem dX3_awaits_4 : decode cX3_awaits 4 = .ok (.iload_n 1, 1) := by decide +kernel
theorem dX3_awaits_5 : decode cX3_awaits 5 = .ok (.bipush 11, 2) := by decide +kernel
theorem dX3_awaits_7 : decode cX3_awaits 7 = .ok (.if_icmp .ge 38, 3) := by decide +kernel
theorem dX3_awaits_10 : decode cX3_awaits 10 = .ok (.aload_n 0, 1) := by decide +kernel
theorem dX3_awaits_11 : decode cX3_awaits 11 = .ok (.getfield 21, 3) := by decide +kernel
theorem dX3_awaits_14 : decode cX3_awaits 14 = .ok (.iload_n 1, 1) := by decide +kernel
theorem dX3_awaits_15 : decode cX3_awaits 15 = .ok (.iaload, 1) := by decide +kernel
theorem dX3_awaits_16 : decode cX3_awaits 16 = .ok (.ifCond .le 29, 3) := by decide +kernel
theorem dX3_awaits_19 : decode cX3_awaits 19 = .ok (.aload_n 0, 1) := by decide +kernel
theorem dX3_awaits_20 : decode cX3_awaits 20 = .ok (.getfield 17, 3) := by decide +kernel
theorem dX3_awaits_23 : decode cX3_awaits 23 = .ok (.iload_n 1, 1) := by decide +kernel
theorem dX3_awaits_24 : decode cX3_awaits 24 = .ok (.iaload, 1) := by decide +kernel
theorem dX3_awaits_25 : decode cX3_awaits 25 = .ok (.iload_n 2, 1) := by decide +kernel
theorem dX3_awaits_26 : decode cX3_awaits 26 = .ok (.if_icmp .ne 19, 3) := by decide +kernel
theorem dX3_awaits_29 : decode cX3_awaits 29 = .ok (.aload_n 0, 1) := by decide +kernel
theorem dX3_awaits_30 : decode cX3_awaits 30 = .ok (.getfield 21, 3) := by decide +kernel
theorem dX3_awaits_33 : decode cX3_awaits 33 = .ok (.iload_n 1, 1) := by decide +kernel
theorem dX3_awaits_34 : decode cX3_awaits 34 = .ok (.iaload, 1) := by decide +kernel
theorem dX3_awaits_35 : decode cX3_awaits 35 = .ok (.iload_n 3, 1) := by decide +kernel
theorem dX3_awaits_36 : decode cX3_awaits 36 = .ok (.iconst 1, 1) := by decide +kernel
theorem dX3_awaits_37 : decode cX3_awaits 37 = .ok (.isub, 1) := by decide +kernel
theorem dX3_awaits_38 : decode cX3_awaits 38 = .ok (.if_icmp .ne 7, 3) := by decide +kernel
theorem dX3_awaits_41 : decode cX3_awaits 41 = .ok (.iconst 1, 1) := by decide +kernel
theorem dX3_awaits_42 : decode cX3_awaits 42 = .ok (.goto 4, 3) := by decide +kernel
theorem dX3_awaits_45 : decode cX3_awaits 45 = .ok (.iconst 0, 1) := by decide +kernel
theorem dX3_awaits_46 : decode cX3_awaits 46 = .ok (.ireturn, 1) := by decide +kernel
theorem dX3_keep_0 : decode cX3_keep 0 = .ok (.iload_n 1, 1) := by decide +kernel
theorem dX3_keep_1 : decode cX3_keep 1 = .ok (.ifCond .lt 13, 3) := by decide +kernel
theorem dX3_keep_4 : decode cX3_keep 4 = .ok (.iload_n 1, 1) := by decide +kernel
theorem dX3_keep_5 : decode cX3_keep 5 = .ok (.bipush 11, 2) := by decide +kernel
theorem dX3_keep_7 : decode cX3_keep 7 = .ok (.if_icmp .ge 7, 3) := by decide +kernel
theorem dX3_keep_10 : decode cX3_keep 10 = .ok (.iload_n 1, 1) := by decide +kernel
theorem dX3_keep_11 : decode cX3_keep 11 = .ok (.goto 5, 3) := by decide +kernel
theorem dX3_keep_14 : decode cX3_keep 14 = .ok (.bipush 10, 2) := by decide +kernel
theorem dX3_keep_16 : decode cX3_keep 16 = .ok (.istore_n 3, 1) := by decide +kernel
theorem dX3_keep_17 : decode cX3_keep 17 = .ok (.aload_n 0, 1) := by decide +kernel
theorem dX3_keep_18 : decode cX3_keep 18 = .ok (.getfield 13, 3) := by decide +kernel
theorem dX3_keep_21 : decode cX3_keep 21 = .ok (.iload_n 3, 1) := by decide +kernel
theorem dX3_keep_22 : decode cX3_keep 22 = .ok (.aaload, 1) := by decide +kernel
theorem dX3_keep_23 : decode cX3_keep 23 = .ok (.ifnonnull 19, 3) := by decide +kernel
theorem dX3_keep_26 : decode cX3_keep 26 = .ok (.aload_n 0, 1) := by decide +kernel
theorem dX3_keep_27 : decode cX3_keep 27 = .ok (.getfield 13, 3) := by decide +kernel
theorem dX3_keep_30 : decode cX3_keep 30 = .ok (.iload_n 3, 1) := by decide +kernel
theorem dX3_keep_31 : decode cX3_keep 31 = .ok (.new 11, 3) := by decide +kernel
theorem dX3_keep_34 : decode cX3_keep 34 = .ok (.dup, 1) := by decide +kernel
theorem dX3_keep_35 : decode cX3_keep 35 = .ok (.sipush 3240, 3) := by decide +kernel
theorem dX3_keep_38 : decode cX3_keep 38 = .ok (.invokespecial 30, 3) := by decide +kernel
theorem dX3_keep_41 : decode cX3_keep 41 = .ok (.aastore, 1) := by decide +kernel
theorem dX3_keep_42 : decode cX3_keep 42 = .ok (.aload_n 0, 1) := by decide +kernel
theorem dX3_keep_43 : decode cX3_keep 43 = .ok (.getfield 21, 3) := by decide +kernel
theorem dX3_keep_46 : decode cX3_keep 46 = .ok (.iload_n 3, 1) := by decide +kernel
theorem dX3_keep_47 : decode cX3_keep 47 = .ok (.iaload, 1) := by decide +kernel
theorem dX3_keep_48 : decode cX3_keep 48 = .ok (.ifCond .ne 12, 3) := by decide +kernel
theorem dX3_keep_51 : decode cX3_keep 51 = .ok (.aload_n 0, 1) := by decide +kernel
theorem dX3_keep_52 : decode cX3_keep 52 = .ok (.getfield 13, 3) := by decide +kernel
theorem dX3_keep_55 : decode cX3_keep 55 = .ok (.iload_n 3, 1) := by decide +kernel
theorem dX3_keep_56 : decode cX3_keep 56 = .ok (.aaload, 1) := by decide +kernel
theorem dX3_keep_57 : decode cX3_keep 57 = .ok (.invokevirtual 33, 3) := by decide +kernel
theorem dX3_keep_60 : decode cX3_keep 60 = .ok (.aload_n 0, 1) := by decide +kernel
theorem dX3_keep_61 : decode cX3_keep 61 = .ok (.getfield 17, 3) := by decide +kernel
theorem dX3_keep_64 : decode cX3_keep 64 = .ok (.iload_n 3, 1) := by decide +kernel
theorem dX3_keep_65 : decode cX3_keep 65 = .ok (.iload_n 2, 1) := by decide +kernel
theorem dX3_keep_66 : decode cX3_keep 66 = .ok (.iastore, 1) := by decide +kernel
theorem dX3_keep_67 : decode cX3_keep 67 = .ok (.aload_n 0, 1) := by decide +kernel
theorem dX3_keep_68 : decode cX3_keep 68 = .ok (.getfield 21, 3) := by decide +kernel
theorem dX3_keep_71 : decode cX3_keep 71 = .ok (.iload_n 3, 1) := by decide +kernel
theorem dX3_keep_72 : decode cX3_keep 72 = .ok (.dup2, 1) := by decide +kernel
theorem dX3_keep_73 : decode cX3_keep 73 = .ok (.iaload, 1) := by decide +kernel
theorem dX3_keep_74 : decode cX3_keep 74 = .ok (.iconst 1, 1) := by decide +kernel
theorem dX3_keep_75 : decode cX3_keep 75 = .ok (.iadd, 1) := by decide +kernel
theorem dX3_keep_76 : decode cX3_keep 76 = .ok (.iastore, 1) := by decide +kernel
theorem dX3_keep_77 : decode cX3_keep 77 = .ok (.aload_n 0, 1) := by decide +kernel
theorem dX3_keep_78 : decode cX3_keep 78 = .ok (.getfield 13, 3) := by decide +kernel
theorem dX3_keep_81 : decode cX3_keep 81 = .ok (.iload_n 3, 1) := by decide +kernel
theorem dX3_keep_82 : decode cX3_keep 82 = .ok (.aaload, 1) := by decide +kernel
theorem dX3_keep_83 : decode cX3_keep 83 = .ok (.areturn, 1) := by decide +kernel
theorem dX4_init_0 : decode cX4_init 0 = .ok (.aload_n 0, 1) := by decide +kernel
theorem dX4_init_1 : decode cX4_init 1 = .ok (.invokespecial 3, 3) := by decide +kernel
theorem dX4_init_4 : decode cX4_init 4 = .ok (.aload_n 0, 1) := by decide +kernel
theorem dX4_init_5 : decode cX4_init 5 = .ok (.bipush 18, 2) := by decide +kernel
theorem dX4_init_7 : decode cX4_init 7 = .ok (.newarray .int, 2) := by decide +kernel
theorem dX4_init_9 : decode cX4_init 9 = .ok (.putfield 11, 3) := by decide +kernel
theorem dX4_init_12 : decode cX4_init 12 = .ok (.aload_n 0, 1) := by decide +kernel
theorem dX4_init_13 : decode cX4_init 13 = .ok (.bipush 18, 2) := by decide +kernel
theorem dX4_init_15 : decode cX4_init 15 = .ok (.newarray .int, 2) := by decide +kernel
theorem dX4_init_17 : decode cX4_init 17 = .ok (.putfield 15, 3) := by decide +kernel
theorem dX4_init_20 : decode cX4_init 20 = .ok (.aload_n 0, 1) := by decide +kernel
theorem dX4_init_21 : decode cX4_init 21 = .ok (.getfield 11, 3) := by decide +kernel
theorem dX4_init_24 : decode cX4_init 24 = .ok (.ldc 18, 2) := by decide +kernel
theorem dX4_init_26 : decode cX4_init 26 = .ok (.invokestatic 19, 3) := by decide +kernel
theorem dX4_init_29 : decode cX4_init 29 = .ok (.return_, 1) := by decide +kernel
theorem dX4_forget_0 : decode cX4_forget 0 = .ok (.aload_n 0, 1) := by decide +kernel
theorem dX4_forget_1 : decode cX4_forget 1 = .ok (.getfield 11, 3) := by decide +kernel
theorem dX4_forget_4 : decode cX4_forget 4 = .ok (.ldc 18, 2) := by decide +kernel
theorem dX4_forget_6 : decode cX4_forget 6 = .ok (.invokestatic 19, 3) := by decide +kernel
theorem dX4_forget_9 : decode cX4_forget 9 = .ok (.return_, 1) := by decide +kernel
theorem dX4_takeGga_0 : decode cX4_takeGga 0 = .ok (.aload_n 1, 1) := by decide +kernel
theorem dX4_takeGga_1 : decode cX4_takeGga 1 = .ok (.getfield 25, 3) := by decide +kernel
theorem dX4_takeGga_4 : decode cX4_takeGga 4 = .ok (.bipush 15, 2) := by decide +kernel
theorem dX4_takeGga_6 : decode cX4_takeGga 6 = .ok (.if_icmp .eq 5, 3) := by decide +kernel
theorem dX4_takeGga_9 : decode cX4_takeGga 9 = .ok (.iconst 0, 1) := by decide +kernel
theorem dX4_takeGga_10 : decode cX4_takeGga 10 = .ok (.ireturn, 1) := by decide +kernel
theorem dX4_takeGga_11 : decode cX4_takeGga 11 = .ok (.aload_n 0, 1) := by decide +kernel
theorem dX4_takeGga_12 : decode cX4_takeGga 12 = .ok (.getfield 15, 3) := by decide +kernel
theorem dX4_takeGga_15 : decode cX4_takeGga 15 = .ok (.iconst 0, 1) := by decide +kernel
theorem dX4_takeGga_16 : decode cX4_takeGga 16 = .ok (.aload_n 1, 1) := by decide +kernel
theorem dX4_takeGga_17 : decode cX4_takeGga 17 = .ok (.iconst 1, 1) := by decide +kernel
theorem dX4_takeGga_18 : decode cX4_takeGga 18 = .ok (.invokevirtual 31, 3) := by decide +kernel
theorem dX4_takeGga_21 : decode cX4_takeGga 21 = .ok (.iastore, 1) := by decide +kernel
theorem dX4_takeGga_22 : decode cX4_takeGga 22 = .ok (.aload_n 0, 1) := by decide +kernel
theorem dX4_takeGga_23 : decode cX4_takeGga 23 = .ok (.getfield 15, 3) := by decide +kernel
theorem dX4_takeGga_26 : decode cX4_takeGga 26 = .ok (.iconst 1, 1) := by decide +kernel
theorem dX4_takeGga_27 : decode cX4_takeGga 27 = .ok (.aload_n 1, 1) := by decide +kernel
theorem dX4_takeGga_28 : decode cX4_takeGga 28 = .ok (.iconst 2, 1) := by decide +kernel
theorem dX4_takeGga_29 : decode cX4_takeGga 29 = .ok (.invokevirtual 35, 3) := by decide +kernel
theorem dX4_takeGga_32 : decode cX4_takeGga 32 = .ok (.iastore, 1) := by decide +kernel
theorem dX4_takeGga_33 : decode cX4_takeGga 33 = .ok (.aload_n 0, 1) := by decide +kernel
theorem dX4_takeGga_34 : decode cX4_takeGga 34 = .ok (.getfield 15, 3) := by decide +kernel
theorem dX4_takeGga_37 : decode cX4_takeGga 37 = .ok (.iconst 2, 1) := by decide +kernel
theorem dX4_takeGga_38 : decode cX4_takeGga 38 = .ok (.aload_n 1, 1) := by decide +kernel
theorem dX4_takeGga_39 : decode cX4_takeGga 39 = .ok (.iconst 4, 1) := by decide +kernel
theorem dX4_takeGga_40 : decode cX4_takeGga 40 = .ok (.invokevirtual 38, 3) := by decide +kernel
theorem dX4_takeGga_43 : decode cX4_takeGga 43 = .ok (.iastore, 1) := by decide +kernel
theorem dX4_takeGga_44 : decode cX4_takeGga 44 = .ok (.aload_n 0, 1) := by decide +kernel
theorem dX4_takeGga_45 : decode cX4_takeGga 45 = .ok (.getfield 15, 3) := by decide +kernel
theorem dX4_takeGga_48 : decode cX4_takeGga 48 = .ok (.iconst 3, 1) := by decide +kernel
theorem dX4_takeGga_49 : decode cX4_takeGga 49 = .ok (.aload_n 1, 1) := by decide +kernel
theorem dX4_takeGga_50 : decode cX4_takeGga 50 = .ok (.bipush 6, 2) := by decide +kernel
theorem dX4_takeGga_52 : decode cX4_takeGga 52 = .ok (.iconst 0, 1) := by decide +kernel
theorem dX4_takeGga_53 : decode cX4_takeGga 53 = .ok (.bipush 8, 2) := by decide +kernel
theorem dX4_takeGga_55 : decode cX4_takeGga 55 = .ok (.invokevirtual 41, 3) := by decide +kernel
theorem dX4_takeGga_58 : decode cX4_takeGga 58 = .ok (.iastore, 1) := by decide +kernel
theorem dX4_takeGga_59 : decode cX4_takeGga 59 = .ok (.aload_n 0, 1) := by decide +kernel
theorem dX4_takeGga_60 : decode cX4_takeGga 60 = .ok (.getfield 15, 3) := by decide +kernel
theorem dX4_takeGga_63 : decode cX4_takeGga 63 = .ok (.iconst 4, 1) := by decide +kernel
theorem dX4_takeGga_64 : decode cX4_takeGga 64 = .ok (.aload_n 1, 1) := by decide +kernel
theorem dX4_takeGga_65 : decode cX4_takeGga 65 = .ok (.bipush 7, 2) := by decide +kernel
theorem dX4_takeGga_67 : decode cX4_takeGga 67 = .ok (.iconst 1, 1) := by decide +kernel
theorem dX4_takeGga_68 : decode cX4_takeGga 68 = .ok (.iconst 2, 1) := by decide +kernel
theorem dX4_takeGga_69 : decode cX4_takeGga 69 = .ok (.invokevirtual 45, 3) := by decide +kernel
theorem dX4_takeGga_72 : decode cX4_takeGga 72 = .ok (.iastore, 1) := by decide +kernel
theorem dX4_takeGga_73 : decode cX4_takeGga 73 = .ok (.aload_n 0, 1) := by decide +kernel
theorem dX4_takeGga_74 : decode cX4_takeGga 74 = .ok (.getfield 15, 3) := by decide +kernel
theorem dX4_takeGga_77 : decode cX4_takeGga 77 = .ok (.iconst 5, 1) := by decide +kernel
theorem dX4_takeGga_78 : decode cX4_takeGga 78 = .ok (.aload_n 1, 1) := by decide +kernel
theorem dX4_takeGga_79 : decode cX4_takeGga 79 = .ok (.bipush 8, 2) := by decide +kernel
theorem dX4_takeGga_81 : decode cX4_takeGga 81 = .ok (.iconst 2, 1) := by decide +kernel
theorem dX4_takeGga_82 : decode cX4_takeGga 82 = .ok (.iconst 2, 1) := by decide +kernel
theorem dX4_takeGga_83 : decode cX4_takeGga 83 = .ok (.invokevirtual 48, 3) := by decide +kernel
theorem dX4_takeGga_86 : decode cX4_takeGga 86 = .ok (.iastore, 1) := by decide +kernel
theorem dX4_takeGga_87 : decode cX4_takeGga 87 = .ok (.aload_n 0, 1) := by decide +kernel
theorem dX4_takeGga_88 : decode cX4_takeGga 88 = .ok (.getfield 15, 3) := by decide +kernel
theorem dX4_takeGga_91 : decode cX4_takeGga 91 = .ok (.bipush 6, 2) := by decide +kernel
theorem dX4_takeGga_93 : decode cX4_takeGga 93 = .ok (.aload_n 1, 1) := by decide +kernel
theorem dX4_takeGga_94 : decode cX4_takeGga 94 = .ok (.bipush 9, 2) := by decide +kernel
theorem dX4_takeGga_96 : decode cX4_takeGga 96 = .ok (.iconst 1, 1) := by decide +kernel
theorem dX4_takeGga_97 : decode cX4_takeGga 97 = .ok (.iconst 5, 1) := by decide +kernel
theorem dX4_takeGga_98 : decode cX4_takeGga 98 = .ok (.invokevirtual 51, 3) := by decide +kernel
theorem dX4_takeGga_101 : decode cX4_takeGga 101 = .ok (.iastore, 1) := by decide +kernel
theorem dX4_takeGga_102 : decode cX4_takeGga 102 = .ok (.aload_n 1, 1) := by decide +kernel
theorem dX4_takeGga_103 : decode cX4_takeGga 103 = .ok (.bipush 10, 2) := by decide +kernel
theorem dX4_takeGga_105 : decode cX4_takeGga 105 = .ok (.bipush 77, 2) := by decide +kernel
theorem dX4_takeGga_107 : decode cX4_takeGga 107 = .ok (.invokevirtual 54, 3) := by decide +kernel
theorem dX4_takeGga_110 : decode cX4_takeGga 110 = .ok (.aload_n 0, 1) := by decide +kernel
theorem dX4_takeGga_111 : decode cX4_takeGga 111 = .ok (.getfield 15, 3) := by decide +kernel
theorem dX4_takeGga_114 : decode cX4_takeGga 114 = .ok (.bipush 7, 2) := by decide +kernel
theorem dX4_takeGga_116 : decode cX4_takeGga 116 = .ok (.aload_n 1, 1) := by decide +kernel
theorem dX4_takeGga_117 : decode cX4_takeGga 117 = .ok (.bipush 11, 2) := by decide +kernel
theorem dX4_takeGga_119 : decode cX4_takeGga 119 = .ok (.iconst 1, 1) := by decide +kernel
theorem dX4_takeGga_120 : decode cX4_takeGga 120 = .ok (.iconst 4, 1) := by decide +kernel
theorem dX4_takeGga_121 : decode cX4_takeGga 121 = .ok (.invokevirtual 51, 3) := by decide +kernel
theorem dX4_takeGga_124 : decode cX4_takeGga 124 = .ok (.iastore, 1) := by decide +kernel
theorem dX4_takeGga_125 : decode cX4_takeGga 125 = .ok (.aload_n 1, 1) := by decide +kernel
theorem dX4_takeGga_126 : decode cX4_takeGga 126 = .ok (.bipush 12, 2) := by decide +kernel
theorem dX4_takeGga_128 : decode cX4_takeGga 128 = .ok (.bipush 77, 2) := by decide +kernel
theorem dX4_takeGga_130 : decode cX4_takeGga 130 = .ok (.invokevirtual 54, 3) := by decide +kernel
theorem dX4_takeGga_133 : decode cX4_takeGga 133 = .ok (.aload_n 0, 1) := by decide +kernel
theorem dX4_takeGga_134 : decode cX4_takeGga 134 = .ok (.getfield 15, 3) := by decide +kernel
theorem dX4_takeGga_137 : decode cX4_takeGga 137 = .ok (.bipush 8, 2) := by decide +kernel
theorem dX4_takeGga_139 : decode cX4_takeGga 139 = .ok (.aload_n 1, 1) := by decide +kernel
theorem dX4_takeGga_140 : decode cX4_takeGga 140 = .ok (.bipush 13, 2) := by decide +kernel
theorem dX4_takeGga_142 : decode cX4_takeGga 142 = .ok (.iconst 1, 1) := by decide +kernel
theorem dX4_takeGga_143 : decode cX4_takeGga 143 = .ok (.iconst 4, 1) := by decide +kernel
theorem dX4_takeGga_144 : decode cX4_takeGga 144 = .ok (.invokevirtual 48, 3) := by decide +kernel
theorem dX4_takeGga_147 : decode cX4_takeGga 147 = .ok (.iastore, 1) := by decide +kernel
theorem dX4_takeGga_148 : decode cX4_takeGga 148 = .ok (.aload_n 0, 1) := by decide +kernel
theorem dX4_takeGga_149 : decode cX4_takeGga 149 = .ok (.getfield 15, 3) := by decide +kernel
theorem dX4_takeGga_152 : decode cX4_takeGga 152 = .ok (.bipush 9, 2) := by decide +kernel
theorem dX4_takeGga_154 : decode cX4_takeGga 154 = .ok (.aload_n 1, 1) := by decide +kernel
theorem dX4_takeGga_155 : decode cX4_takeGga 155 = .ok (.bipush 14, 2) := by decide +kernel
theorem dX4_takeGga_157 : decode cX4_takeGga 157 = .ok (.iconst 4, 1) := by decide +kernel
theorem dX4_takeGga_158 : decode cX4_takeGga 158 = .ok (.iconst 4, 1) := by decide +kernel
theorem dX4_takeGga_159 : decode cX4_takeGga 159 = .ok (.invokevirtual 45, 3) := by decide +kernel
theorem dX4_takeGga_162 : decode cX4_takeGga 162 = .ok (.iastore, 1) := by decide +kernel
theorem dX4_takeGga_163 : decode cX4_takeGga 163 = .ok (.aload_n 0, 1) := by decide +kernel
theorem dX4_takeGga_164 : decode cX4_takeGga 164 = .ok (.aload_n 1, 1) := by decide +kernel
theorem dX4_takeGga_165 : decode cX4_takeGga 165 = .ok (.getfield 58, 3) := by decide +kernel
theorem dX4_takeGga_168 : decode cX4_takeGga 168 = .ok (.getstatic 62, 3) := by decide +kernel
theorem dX4_takeGga_171 : decode cX4_takeGga 171 = .ok (.invokevirtual 65, 3) := by decide +kernel
theorem dX4_takeGga_174 : decode cX4_takeGga 174 = .ok (.ireturn, 1) := by decide +kernel
theorem dX4_takeRmc_0 : decode cX4_takeRmc 0 = .ok (.aload_n 1, 1) := by decide +kernel
theorem dX4_takeRmc_1 : decode cX4_takeRmc 1 = .ok (.getfield 25, 3) := by decide +kernel
theorem dX4_takeRmc_4 : decode cX4_takeRmc 4 = .ok (.bipush 12, 2) := by decide +kernel
theorem dX4_takeRmc_6 : decode cX4_takeRmc 6 = .ok (.if_icmp .eq 12, 3) := by decide +kernel
theorem dX4_takeRmc_9 : decode cX4_takeRmc 9 = .ok (.aload_n 1, 1) := by decide +kernel
theorem dX4_takeRmc_10 : decode cX4_takeRmc 10 = .ok (.getfield 25, 3) := by decide +kernel
theorem dX4_takeRmc_13 : decode cX4_takeRmc 13 = .ok (.bipush 13, 2) := by decide +kernel
theorem dX4_takeRmc_15 : decode cX4_takeRmc 15 = .ok (.if_icmp .ne 11, 3) := by decide +kernel
theorem dX4_takeRmc_18 : decode cX4_takeRmc 18 = .ok (.aload_n 1, 1) := by decide +kernel
theorem dX4_takeRmc_19 : decode cX4_takeRmc 19 = .ok (.iconst 2, 1) := by decide +kernel
theorem dX4_takeRmc_20 : decode cX4_takeRmc 20 = .ok (.invokevirtual 69, 3) := by decide +kernel
theorem dX4_takeRmc_23 : decode cX4_takeRmc 23 = .ok (.ifCond .eq 5, 3) := by decide +kernel
theorem dX4_takeRmc_26 : decode cX4_takeRmc 26 = .ok (.iconst 0, 1) := by decide +kernel
theorem dX4_takeRmc_27 : decode cX4_takeRmc 27 = .ok (.ireturn, 1) := by decide +kernel
theorem dX4_takeRmc_28 : decode cX4_takeRmc 28 = .ok (.aload_n 0, 1) := by decide +kernel
theorem dX4_takeRmc_29 : decode cX4_takeRmc 29 = .ok (.getfield 15, 3) := by decide +kernel
theorem dX4_takeRmc_32 : decode cX4_takeRmc 32 = .ok (.iconst 0, 1) := by decide +kernel
theorem dX4_takeRmc_33 : decode cX4_takeRmc 33 = .ok (.aload_n 1, 1) := by decide +kernel
theorem dX4_takeRmc_34 : decode cX4_takeRmc 34 = .ok (.iconst 1, 1) := by decide +kernel
theorem dX4_takeRmc_35 : decode cX4_takeRmc 35 = .ok (.invokevirtual 31, 3) := by decide +kernel
theorem dX4_takeRmc_38 : decode cX4_takeRmc 38 = .ok (.iastore, 1) := by decide +kernel
theorem dX4_takeRmc_39 : decode cX4_takeRmc 39 = .ok (.aload_n 0, 1) := by decide +kernel
theorem dX4_takeRmc_40 : decode cX4_takeRmc 40 = .ok (.getfield 15, 3) := by decide +kernel
theorem dX4_takeRmc_43 : decode cX4_takeRmc 43 = .ok (.bipush 10, 2) := by decide +kernel
theorem dX4_takeRmc_45 : decode cX4_takeRmc 45 = .ok (.aload_n 1, 1) := by decide +kernel
theorem dX4_takeRmc_46 : decode cX4_takeRmc 46 = .ok (.iconst 2, 1) := by decide +kernel
theorem dX4_takeRmc_47 : decode cX4_takeRmc 47 = .ok (.ldc 73, 2) := by decide +kernel
theorem dX4_takeRmc_49 : decode cX4_takeRmc 49 = .ok (.invokevirtual 75, 3) := by decide +kernel
theorem dX4_takeRmc_52 : decode cX4_takeRmc 52 = .ok (.bipush 65, 2) := by decide +kernel
theorem dX4_takeRmc_54 : decode cX4_takeRmc 54 = .ok (.if_icmp .ne 7, 3) := by decide +kernel
theorem dX4_takeRmc_57 : decode cX4_takeRmc 57 = .ok (.iconst 1, 1) := by decide +kernel
theorem dX4_takeRmc_58 : decode cX4_takeRmc 58 = .ok (.goto 4, 3) := by decide +kernel
theorem dX4_takeRmc_61 : decode cX4_takeRmc 61 = .ok (.iconst 0, 1) := by decide +kernel
theorem dX4_takeRmc_62 : decode cX4_takeRmc 62 = .ok (.iastore, 1) := by decide +kernel
theorem dX4_takeRmc_63 : decode cX4_takeRmc 63 = .ok (.aload_n 0, 1) := by decide +kernel
theorem dX4_takeRmc_64 : decode cX4_takeRmc 64 = .ok (.getfield 15, 3) := by decide +kernel
theorem dX4_takeRmc_67 : decode cX4_takeRmc 67 = .ok (.iconst 1, 1) := by decide +kernel
theorem dX4_takeRmc_68 : decode cX4_takeRmc 68 = .ok (.aload_n 1, 1) := by decide +kernel
theorem dX4_takeRmc_69 : decode cX4_takeRmc 69 = .ok (.iconst 3, 1) := by decide +kernel
theorem dX4_takeRmc_70 : decode cX4_takeRmc 70 = .ok (.invokevirtual 35, 3) := by decide +kernel
theorem dX4_takeRmc_73 : decode cX4_takeRmc 73 = .ok (.iastore, 1) := by decide +kernel
theorem dX4_takeRmc_74 : decode cX4_takeRmc 74 = .ok (.aload_n 0, 1) := by decide +kernel
theorem dX4_takeRmc_75 : decode cX4_takeRmc 75 = .ok (.getfield 15, 3) := by decide +kernel
theorem dX4_takeRmc_78 : decode cX4_takeRmc 78 = .ok (.iconst 2, 1) := by decide +kernel
theorem dX4_takeRmc_79 : decode cX4_takeRmc 79 = .ok (.aload_n 1, 1) := by decide +kernel
theorem dX4_takeRmc_80 : decode cX4_takeRmc 80 = .ok (.iconst 5, 1) := by decide +kernel
theorem dX4_takeRmc_81 : decode cX4_takeRmc 81 = .ok (.invokevirtual 38, 3) := by decide +kernel
theorem dX4_takeRmc_84 : decode cX4_takeRmc 84 = .ok (.iastore, 1) := by decide +kernel
theorem dX4_takeRmc_85 : decode cX4_takeRmc 85 = .ok (.aload_n 0, 1) := by decide +kernel
theorem dX4_takeRmc_86 : decode cX4_takeRmc 86 = .ok (.getfield 15, 3) := by decide +kernel
theorem dX4_takeRmc_89 : decode cX4_takeRmc 89 = .ok (.bipush 11, 2) := by decide +kernel
theorem dX4_takeRmc_91 : decode cX4_takeRmc 91 = .ok (.aload_n 1, 1) := by decide +kernel
theorem dX4_takeRmc_92 : decode cX4_takeRmc 92 = .ok (.bipush 7, 2) := by decide +kernel
theorem dX4_takeRmc_94 : decode cX4_takeRmc 94 = .ok (.iconst 2, 1) := by decide +kernel
theorem dX4_takeRmc_95 : decode cX4_takeRmc 95 = .ok (.iconst 4, 1) := by decide +kernel
theorem dX4_takeRmc_96 : decode cX4_takeRmc 96 = .ok (.invokevirtual 48, 3) := by decide +kernel
theorem dX4_takeRmc_99 : decode cX4_takeRmc 99 = .ok (.iastore, 1) := by decide +kernel
theorem dX4_takeRmc_100 : decode cX4_takeRmc 100 = .ok (.aload_n 0, 1) := by decide +kernel
theorem dX4_takeRmc_101 : decode cX4_takeRmc 101 = .ok (.getfield 15, 3) := by decide +kernel
theorem dX4_takeRmc_104 : decode cX4_takeRmc 104 = .ok (.bipush 12, 2) := by decide +kernel
theorem dX4_takeRmc_106 : decode cX4_takeRmc 106 = .ok (.aload_n 1, 1) := by decide +kernel
theorem dX4_takeRmc_107 : decode cX4_takeRmc 107 = .ok (.bipush 8, 2) := by decide +kernel
theorem dX4_takeRmc_109 : decode cX4_takeRmc 109 = .ok (.invokevirtual 79, 3) := by decide +kernel
theorem dX4_takeRmc_112 : decode cX4_takeRmc 112 = .ok (.iastore, 1) := by decide +kernel
theorem dX4_takeRmc_113 : decode cX4_takeRmc 113 = .ok (.aload_n 0, 1) := by decide +kernel
theorem dX4_takeRmc_114 : decode cX4_takeRmc 114 = .ok (.getfield 15, 3) := by decide +kernel
theorem dX4_takeRmc_117 : decode cX4_takeRmc 117 = .ok (.bipush 13, 2) := by decide +kernel
theorem dX4_takeRmc_119 : decode cX4_takeRmc 119 = .ok (.aload_n 1, 1) := by decide +kernel
theorem dX4_takeRmc_120 : decode cX4_takeRmc 120 = .ok (.bipush 9, 2) := by decide +kernel
theorem dX4_takeRmc_122 : decode cX4_takeRmc 122 = .ok (.invokevirtual 82, 3) := by decide +kernel
theorem dX4_takeRmc_125 : decode cX4_takeRmc 125 = .ok (.iastore, 1) := by decide +kernel
theorem dX4_takeRmc_126 : decode cX4_takeRmc 126 = .ok (.aload_n 0, 1) := by decide +kernel
theorem dX4_takeRmc_127 : decode cX4_takeRmc 127 = .ok (.getfield 15, 3) := by decide +kernel
theorem dX4_takeRmc_130 : decode cX4_takeRmc 130 = .ok (.bipush 14, 2) := by decide +kernel
theorem dX4_takeRmc_132 : decode cX4_takeRmc 132 = .ok (.aload_n 1, 1) := by decide +kernel
theorem dX4_takeRmc_133 : decode cX4_takeRmc 133 = .ok (.bipush 10, 2) := by decide +kernel
theorem dX4_takeRmc_135 : decode cX4_takeRmc 135 = .ok (.invokevirtual 85, 3) := by decide +kernel
theorem dX4_takeRmc_138 : decode cX4_takeRmc 138 = .ok (.iastore, 1) := by decide +kernel
theorem dX4_takeRmc_139 : decode cX4_takeRmc 139 = .ok (.aload_n 0, 1) := by decide +kernel
theorem dX4_takeRmc_140 : decode cX4_takeRmc 140 = .ok (.getfield 15, 3) := by decide +kernel
theorem dX4_takeRmc_143 : decode cX4_takeRmc 143 = .ok (.bipush 17, 2) := by decide +kernel
theorem dX4_takeRmc_145 : decode cX4_takeRmc 145 = .ok (.aload_n 1, 1) := by decide +kernel
theorem dX4_takeRmc_146 : decode cX4_takeRmc 146 = .ok (.bipush 12, 2) := by decide +kernel
theorem dX4_takeRmc_148 : decode cX4_takeRmc 148 = .ok (.ldc 88, 2) := by decide +kernel
theorem dX4_takeRmc_150 : decode cX4_takeRmc 150 = .ok (.invokevirtual 75, 3) := by decide +kernel
theorem dX4_takeRmc_153 : decode cX4_takeRmc 153 = .ok (.iastore, 1) := by decide +kernel
theorem dX4_takeRmc_154 : decode cX4_takeRmc 154 = .ok (.aload_n 0, 1) := by decide +kernel
theorem dX4_takeRmc_155 : decode cX4_takeRmc 155 = .ok (.aload_n 1, 1) := by decide +kernel
theorem dX4_takeRmc_156 : decode cX4_takeRmc 156 = .ok (.getfield 58, 3) := by decide +kernel
theorem dX4_takeRmc_159 : decode cX4_takeRmc 159 = .ok (.getstatic 90, 3) := by decide +kernel
theorem dX4_takeRmc_162 : decode cX4_takeRmc 162 = .ok (.invokevirtual 65, 3) := by decide +kernel
theorem dX4_takeRmc_165 : decode cX4_takeRmc 165 = .ok (.ireturn, 1) := by decide +kernel
theorem dX4_takeVtg_0 : decode cX4_takeVtg 0 = .ok (.aload_n 1, 1) := by decide +kernel
theorem dX4_takeVtg_1 : decode cX4_takeVtg 1 = .ok (.getfield 25, 3) := by decide +kernel
theorem dX4_takeVtg_4 : decode cX4_takeVtg 4 = .ok (.bipush 9, 2) := by decide +kernel
theorem dX4_takeVtg_6 : decode cX4_takeVtg 6 = .ok (.if_icmp .eq 14, 3) := by decide +kernel
theorem dX4_takeVtg_9 : decode cX4_takeVtg 9 = .ok (.aload_n 1, 1) := by decide +kernel
theorem dX4_takeVtg_10 : decode cX4_takeVtg 10 = .ok (.getfield 25, 3) := by decide +kernel
theorem dX4_takeVtg_13 : decode cX4_takeVtg 13 = .ok (.bipush 10, 2) := by decide +kernel
theorem dX4_takeVtg_15 : decode cX4_takeVtg 15 = .ok (.if_icmp .eq 5, 3) := by decide +kernel
theorem dX4_takeVtg_18 : decode cX4_takeVtg 18 = .ok (.iconst 0, 1) := by decide +kernel
theorem dX4_takeVtg_19 : decode cX4_takeVtg 19 = .ok (.ireturn, 1) := by decide +kernel
theorem dX4_takeVtg_20 : decode cX4_takeVtg 20 = .ok (.aload_n 0, 1) := by decide +kernel
theorem dX4_takeVtg_21 : decode cX4_takeVtg 21 = .ok (.getfield 15, 3) := by decide +kernel
theorem dX4_takeVtg_24 : decode cX4_takeVtg 24 = .ok (.bipush 12, 2) := by decide +kernel
theorem dX4_takeVtg_26 : decode cX4_takeVtg 26 = .ok (.aload_n 1, 1) := by decide +kernel
theorem dX4_takeVtg_27 : decode cX4_takeVtg 27 = .ok (.iconst 1, 1) := by decide +kernel
theorem dX4_takeVtg_28 : decode cX4_takeVtg 28 = .ok (.invokevirtual 79, 3) := by decide +kernel
theorem dX4_takeVtg_31 : decode cX4_takeVtg 31 = .ok (.iastore, 1) := by decide +kernel
theorem dX4_takeVtg_32 : decode cX4_takeVtg 32 = .ok (.aload_n 1, 1) := by decide +kernel
theorem dX4_takeVtg_33 : decode cX4_takeVtg 33 = .ok (.iconst 2, 1) := by decide +kernel
theorem dX4_takeVtg_34 : decode cX4_takeVtg 34 = .ok (.bipush 84, 2) := by decide +kernel
theorem dX4_takeVtg_36 : decode cX4_takeVtg 36 = .ok (.invokevirtual 54, 3) := by decide +kernel
theorem dX4_takeVtg_39 : decode cX4_takeVtg 39 = .ok (.aload_n 0, 1) := by decide +kernel
theorem dX4_takeVtg_40 : decode cX4_takeVtg 40 = .ok (.getfield 15, 3) := by decide +kernel
theorem dX4_takeVtg_43 : decode cX4_takeVtg 43 = .ok (.bipush 15, 2) := by decide +kernel
theorem dX4_takeVtg_45 : decode cX4_takeVtg 45 = .ok (.aload_n 1, 1) := by decide +kernel
theorem dX4_takeVtg_46 : decode cX4_takeVtg 46 = .ok (.iconst 3, 1) := by decide +kernel
theorem dX4_takeVtg_47 : decode cX4_takeVtg 47 = .ok (.invokevirtual 79, 3) := by decide +kernel
theorem dX4_takeVtg_50 : decode cX4_takeVtg 50 = .ok (.iastore, 1) := by decide +kernel
theorem dX4_takeVtg_51 : decode cX4_takeVtg 51 = .ok (.aload_n 1, 1) := by decide +kernel
theorem dX4_takeVtg_52 : decode cX4_takeVtg 52 = .ok (.iconst 4, 1) := by decide +kernel
theorem dX4_takeVtg_53 : decode cX4_takeVtg 53 = .ok (.bipush 77, 2) := by decide +kernel
theorem dX4_takeVtg_55 : decode cX4_takeVtg 55 = .ok (.invokevirtual 54, 3) := by decide +kernel
theorem dX4_takeVtg_58 : decode cX4_takeVtg 58 = .ok (.aload_n 0, 1) := by decide +kernel
theorem dX4_takeVtg_59 : decode cX4_takeVtg 59 = .ok (.getfield 15, 3) := by decide +kernel
theorem dX4_takeVtg_62 : decode cX4_takeVtg 62 = .ok (.bipush 11, 2) := by decide +kernel
theorem dX4_takeVtg_64 : decode cX4_takeVtg 64 = .ok (.aload_n 1, 1) := by decide +kernel
theorem dX4_takeVtg_65 : decode cX4_takeVtg 65 = .ok (.iconst 5, 1) := by decide +kernel
theorem dX4_takeVtg_66 : decode cX4_takeVtg 66 = .ok (.iconst 2, 1) := by decide +kernel
theorem dX4_takeVtg_67 : decode cX4_takeVtg 67 = .ok (.iconst 4, 1) := by decide +kernel
theorem dX4_takeVtg_68 : decode cX4_takeVtg 68 = .ok (.invokevirtual 48, 3) := by decide +kernel
theorem dX4_takeVtg_71 : decode cX4_takeVtg 71 = .ok (.iastore, 1) := by decide +kernel
theorem dX4_takeVtg_72 : decode cX4_takeVtg 72 = .ok (.aload_n 1, 1) := by decide +kernel
theorem dX4_takeVtg_73 : decode cX4_takeVtg 73 = .ok (.bipush 6, 2) := by decide +kernel
theorem dX4_takeVtg_75 : decode cX4_takeVtg 75 = .ok (.bipush 78, 2) := by decide +kernel
theorem dX4_takeVtg_77 : decode cX4_takeVtg 77 = .ok (.invokevirtual 54, 3) := by decide +kernel
theorem dX4_takeVtg_80 : decode cX4_takeVtg 80 = .ok (.aload_n 0, 1) := by decide +kernel
theorem dX4_takeVtg_81 : decode cX4_takeVtg 81 = .ok (.getfield 15, 3) := by decide +kernel
theorem dX4_takeVtg_84 : decode cX4_takeVtg 84 = .ok (.bipush 16, 2) := by decide +kernel
theorem dX4_takeVtg_86 : decode cX4_takeVtg 86 = .ok (.aload_n 1, 1) := by decide +kernel
theorem dX4_takeVtg_87 : decode cX4_takeVtg 87 = .ok (.bipush 7, 2) := by decide +kernel
theorem dX4_takeVtg_89 : decode cX4_takeVtg 89 = .ok (.iconst 2, 1) := by decide +kernel
theorem dX4_takeVtg_90 : decode cX4_takeVtg 90 = .ok (.iconst 4, 1) := by decide +kernel
theorem dX4_takeVtg_91 : decode cX4_takeVtg 91 = .ok (.invokevirtual 48, 3) := by decide +kernel
theorem dX4_takeVtg_94 : decode cX4_takeVtg 94 = .ok (.iastore, 1) := by decide +kernel
theorem dX4_takeVtg_95 : decode cX4_takeVtg 95 = .ok (.aload_n 1, 1) := by decide +kernel
theorem dX4_takeVtg_96 : decode cX4_takeVtg 96 = .ok (.bipush 8, 2) := by decide +kernel
theorem dX4_takeVtg_98 : decode cX4_takeVtg 98 = .ok (.bipush 75, 2) := by decide +kernel
theorem dX4_takeVtg_100 : decode cX4_takeVtg 100 = .ok (.invokevirtual 54, 3) := by decide +kernel
theorem dX4_takeVtg_103 : decode cX4_takeVtg 103 = .ok (.aload_n 0, 1) := by decide +kernel
theorem dX4_takeVtg_104 : decode cX4_takeVtg 104 = .ok (.getfield 15, 3) := by decide +kernel
theorem dX4_takeVtg_107 : decode cX4_takeVtg 107 = .ok (.bipush 17, 2) := by decide +kernel
theorem dX4_takeVtg_109 : decode cX4_takeVtg 109 = .ok (.aload_n 1, 1) := by decide +kernel
theorem dX4_takeVtg_110 : decode cX4_takeVtg 110 = .ok (.bipush 9, 2) := by decide +kernel
theorem dX4_takeVtg_112 : decode cX4_takeVtg 112 = .ok (.ldc 88, 2) := by decide +kernel
theorem dX4_takeVtg_114 : decode cX4_takeVtg 114 = .ok (.invokevirtual 75, 3) := by decide +kernel
theorem dX4_takeVtg_117 : decode cX4_takeVtg 117 = .ok (.iastore, 1) := by decide +kernel
theorem dX4_takeVtg_118 : decode cX4_takeVtg 118 = .ok (.aload_n 0, 1) := by decide +kernel
theorem dX4_takeVtg_119 : decode cX4_takeVtg 119 = .ok (.aload_n 1, 1) := by decide +kernel
theorem dX4_takeVtg_120 : decode cX4_takeVtg 120 = .ok (.getfield 58, 3) := by decide +kernel
theorem dX4_takeVtg_123 : decode cX4_takeVtg 123 = .ok (.getstatic 93, 3) := by decide +kernel
theorem dX4_takeVtg_126 : decode cX4_takeVtg 126 = .ok (.invokevirtual 65, 3) := by decide +kernel
theorem dX4_takeVtg_129 : decode cX4_takeVtg 129 = .ok (.ireturn, 1) := by decide +kernel
theorem dX4_settle_0 : decode cX4_settle 0 = .ok (.iconst 0, 1) := by decide +kernel
theorem dX4_settle_1 : decode cX4_settle 1 = .ok (.istore_n 3, 1) := by decide +kernel
theorem dX4_settle_2 : decode cX4_settle 2 = .ok (.iload_n 1, 1) := by decide +kernel
theorem dX4_settle_3 : decode cX4_settle 3 = .ok (.ifCond .eq 31, 3) := by decide +kernel
theorem dX4_settle_6 : decode cX4_settle 6 = .ok (.iload_n 3, 1) := by decide +kernel
theorem dX4_settle_7 : decode cX4_settle 7 = .ok (.aload_n 2, 1) := by decide +kernel
theorem dX4_settle_8 : decode cX4_settle 8 = .ok (.arraylength, 1) := by decide +kernel
theorem dX4_settle_9 : decode cX4_settle 9 = .ok (.if_icmp .ge 25, 3) := by decide +kernel
theorem dX4_settle_12 : decode cX4_settle 12 = .ok (.aload_n 0, 1) := by decide +kernel
theorem dX4_settle_13 : decode cX4_settle 13 = .ok (.getfield 11, 3) := by decide +kernel
theorem dX4_settle_16 : decode cX4_settle 16 = .ok (.aload_n 2, 1) := by decide +kernel
theorem dX4_settle_17 : decode cX4_settle 17 = .ok (.iload_n 3, 1) := by decide +kernel
theorem dX4_settle_18 : decode cX4_settle 18 = .ok (.iaload, 1) := by decide +kernel
theorem dX4_settle_19 : decode cX4_settle 19 = .ok (.aload_n 0, 1) := by decide +kernel
theorem dX4_settle_20 : decode cX4_settle 20 = .ok (.getfield 15, 3) := by decide +kernel
theorem dX4_settle_23 : decode cX4_settle 23 = .ok (.aload_n 2, 1) := by decide +kernel
theorem dX4_settle_24 : decode cX4_settle 24 = .ok (.iload_n 3, 1) := by decide +kernel
theorem dX4_settle_25 : decode cX4_settle 25 = .ok (.iaload, 1) := by decide +kernel
theorem dX4_settle_26 : decode cX4_settle 26 = .ok (.iaload, 1) := by decide +kernel
theorem dX4_settle_27 : decode cX4_settle 27 = .ok (.iastore, 1) := by decide +kernel
theorem dX4_settle_28 : decode cX4_settle 28 = .ok (.iinc 3 1, 3) := by decide +kernel
theorem dX4_settle_31 : decode cX4_settle 31 = .ok (.goto (-29), 3) := by decide +kernel
theorem dX4_settle_34 : decode cX4_settle 34 = .ok (.iload_n 1, 1) := by decide +kernel
theorem dX4_settle_35 : decode cX4_settle 35 = .ok (.ireturn, 1) := by decide +kernel
theorem dX5_init_0 : decode cX5_init 0 = .ok (.aload_n 0, 1) := by decide +kernel
theorem dX5_init_1 : decode cX5_init 1 = .ok (.invokespecial 3, 3) := by decide +kernel
theorem dX5_init_4 : decode cX5_init 4 = .ok (.aload_n 0, 1) := by decide +kernel
theorem dX5_init_5 : decode cX5_init 5 = .ok (.bipush 78, 2) := by decide +kernel
theorem dX5_init_7 : decode cX5_init 7 = .ok (.newarray .byte, 2) := by decide +kernel
theorem dX5_init_9 : decode cX5_init 9 = .ok (.putfield 11, 3) := by decide +kernel
theorem dX5_init_12 : decode cX5_init 12 = .ok (.return_, 1) := by decide +kernel
theorem dX5_forget_0 : decode cX5_forget 0 = .ok (.aload_n 0, 1) := by decide +kernel
theorem dX5_forget_1 : decode cX5_forget 1 = .ok (.iconst 0, 1) := by decide +kernel
theorem dX5_forget_2 : decode cX5_forget 2 = .ok (.putfield 15, 3) := by decide +kernel
theorem dX5_forget_5 : decode cX5_forget 5 = .ok (.return_, 1) := by decide +kernel
theorem dX5_underWay_0 : decode cX5_underWay 0 = .ok (.aload_n 0, 1) := by decide +kernel
theorem dX5_underWay_1 : decode cX5_underWay 1 = .ok (.getfield 15, 3) := by decide +kernel
theorem dX5_underWay_4 : decode cX5_underWay 4 = .ok (.ifCond .ne 7, 3) := by decide +kernel
theorem dX5_underWay_7 : decode cX5_underWay 7 = .ok (.iconst 0, 1) := by decide +kernel
theorem dX5_underWay_8 : decode cX5_underWay 8 = .ok (.goto 9, 3) := by decide +kernel
theorem dX5_underWay_11 : decode cX5_underWay 11 = .ok (.aload_n 0, 1) := by decide +kernel
theorem dX5_underWay_12 : decode cX5_underWay 12 = .ok (.getfield 19, 3) := by decide +kernel
theorem dX5_underWay_15 : decode cX5_underWay 15 = .ok (.iconst 1, 1) := by decide +kernel
theorem dX5_underWay_16 : decode cX5_underWay 16 = .ok (.iadd, 1) := by decide +kernel
theorem dX5_underWay_17 : decode cX5_underWay 17 = .ok (.ireturn, 1) := by decide +kernel
theorem dX5_at_0 : decode cX5_at 0 = .ok (.iload_n 1, 1) := by decide +kernel
theorem dX5_at_1 : decode cX5_at 1 = .ok (.ifCond .lt 26, 3) := by decide +kernel
theorem dX5_at_4 : decode cX5_at 4 = .ok (.iload_n 1, 1) := by decide +kernel
theorem dX5_at_5 : decode cX5_at 5 = .ok (.aload_n 0, 1) := by decide +kernel
theorem dX5_at_6 : decode cX5_at 6 = .ok (.getfield 19, 3) := by decide +kernel
theorem dX5_at_9 : decode cX5_at 9 = .ok (.if_icmp .ge 18, 3) := by decide +kernel
theorem dX5_at_12 : decode cX5_at 12 = .ok (.iload_n 1, 1) := by decide +kernel
theorem dX5_at_13 : decode cX5_at 13 = .ok (.bipush 78, 2) := by decide +kernel
theorem dX5_at_15 : decode cX5_at 15 = .ok (.if_icmp .ge 12, 3) := by decide +kernel
theorem dX5_at_18 : decode cX5_at 18 = .ok (.aload_n 0, 1) := by decide +kernel
theorem dX5_at_19 : decode cX5_at 19 = .ok (.getfield 11, 3) := by decide +kernel
theorem dX5_at_22 : decode cX5_at 22 = .ok (.iload_n 1, 1) := by decide +kernel
theorem dX5_at_23 : decode cX5_at 23 = .ok (.baload, 1) := by decide +kernel
theorem dX5_at_24 : decode cX5_at 24 = .ok (.goto 5, 3) := by decide +kernel
theorem dX5_at_27 : decode cX5_at 27 = .ok (.ldc 22, 2) := by decide +kernel
theorem dX5_at_29 : decode cX5_at 29 = .ok (.ireturn, 1) := by decide +kernel
theorem dX5_hear_0 : decode cX5_hear 0 = .ok (.iload_n 1, 1) := by decide +kernel
theorem dX5_hear_1 : decode cX5_hear 1 = .ok (.bipush 36, 2) := by decide +kernel
theorem dX5_hear_3 : decode cX5_hear 3 = .ok (.if_icmp .eq 9, 3) := by decide +kernel
theorem dX5_hear_6 : decode cX5_hear 6 = .ok (.iload_n 1, 1) := by decide +kernel
theorem dX5_hear_7 : decode cX5_hear 7 = .ok (.bipush 33, 2) := by decide +kernel
theorem dX5_hear_9 : decode cX5_hear 9 = .ok (.if_icmp .ne 9, 3) := by decide +kernel
theorem dX5_hear_12 : decode cX5_hear 12 = .ok (.aload_n 0, 1) := by decide +kernel
theorem dX5_hear_13 : decode cX5_hear 13 = .ok (.iload_n 1, 1) := by decide +kernel
theorem dX5_hear_14 : decode cX5_hear 14 = .ok (.invokevirtual 23, 3) := by decide +kernel
theorem dX5_hear_17 : decode cX5_hear 17 = .ok (.ireturn, 1) := by decide +kernel
theorem dX5_hear_18 : decode cX5_hear 18 = .ok (.aload_n 0, 1) := by decide +kernel
theorem dX5_hear_19 : decode cX5_hear 19 = .ok (.getfield 15, 3) := by decide +kernel
theorem dX5_hear_22 : decode cX5_hear 22 = .ok (.tableswitch 114 1 5 #[34, 66, 73, 80, 97], 34) := by decide +kernel
theorem dX5_hear_56 : decode cX5_hear 56 = .ok (.iload_n 1, 1) := by decide +kernel
theorem dX5_hear_57 : decode cX5_hear 57 = .ok (.bipush 42, 2) := by decide +kernel
theorem dX5_hear_59 : decode cX5_hear 59 = .ok (.if_icmp .ne 23, 3) := by decide +kernel
theorem dX5_hear_62 : decode cX5_hear 62 = .ok (.aload_n 0, 1) := by decide +kernel
theorem dX5_hear_63 : decode cX5_hear 63 = .ok (.aload_n 0, 1) := by decide +kernel
theorem dX5_hear_64 : decode cX5_hear 64 = .ok (.getfield 19, 3) := by decide +kernel
theorem dX5_hear_67 : decode cX5_hear 67 = .ok (.ifCond .le 7, 3) := by decide +kernel
theorem dX5_hear_70 : decode cX5_hear 70 = .ok (.iconst 1, 1) := by decide +kernel
theorem dX5_hear_71 : decode cX5_hear 71 = .ok (.goto 4, 3) := by decide +kernel
theorem dX5_hear_74 : decode cX5_hear 74 = .ok (.iconst 0, 1) := by decide +kernel
theorem dX5_hear_75 : decode cX5_hear 75 = .ok (.iconst 2, 1) := by decide +kernel
theorem dX5_hear_76 : decode cX5_hear 76 = .ok (.invokevirtual 27, 3) := by decide +kernel
theorem dX5_hear_79 : decode cX5_hear 79 = .ok (.goto 8, 3) := by decide +kernel
theorem dX5_hear_82 : decode cX5_hear 82 = .ok (.aload_n 0, 1) := by decide +kernel
theorem dX5_hear_83 : decode cX5_hear 83 = .ok (.iload_n 1, 1) := by decide +kernel
theorem dX5_hear_84 : decode cX5_hear 84 = .ok (.invokevirtual 31, 3) := by decide +kernel
theorem dX5_hear_87 : decode cX5_hear 87 = .ok (.ireturn, 1) := by decide +kernel
theorem dX5_hear_88 : decode cX5_hear 88 = .ok (.aload_n 0, 1) := by decide +kernel
theorem dX5_hear_89 : decode cX5_hear 89 = .ok (.iload_n 1, 1) := by decide +kernel
theorem dX5_hear_90 : decode cX5_hear 90 = .ok (.iconst 3, 1) := by decide +kernel
theorem dX5_hear_91 : decode cX5_hear 91 = .ok (.invokevirtual 34, 3) := by decide +kernel
theorem dX5_hear_94 : decode cX5_hear 94 = .ok (.ireturn, 1) := by decide +kernel
theorem dX5_hear_95 : decode cX5_hear 95 = .ok (.aload_n 0, 1) := by decide +kernel
theorem dX5_hear_96 : decode cX5_hear 96 = .ok (.iload_n 1, 1) := by decide +kernel
theorem dX5_hear_97 : decode cX5_hear 97 = .ok (.iconst 4, 1) := by decide +kernel
theorem dX5_hear_98 : decode cX5_hear 98 = .ok (.invokevirtual 34, 3) := by decide +kernel
theorem dX5_hear_101 : decode cX5_hear 101 = .ok (.ireturn, 1) := by decide +kernel
theorem dX5_hear_102 : decode cX5_hear 102 = .ok (.aload_n 0, 1) := by decide +kernel
theorem dX5_hear_103 : decode cX5_hear 103 = .ok (.iload_n 1, 1) := by decide +kernel
theorem dX5_hear_104 : decode cX5_hear 104 = .ok (.bipush 13, 2) := by decide +kernel
theorem dX5_hear_106 : decode cX5_hear 106 = .ok (.if_icmp .ne 7, 3) := by decide +kernel
theorem dX5_hear_109 : decode cX5_hear 109 = .ok (.iconst 1, 1) := by decide +kernel
theorem dX5_hear_110 : decode cX5_hear 110 = .ok (.goto 4, 3) := by decide +kernel
theorem dX5_hear_113 : decode cX5_hear 113 = .ok (.iconst 0, 1) := by decide +kernel
theorem dX5_hear_114 : decode cX5_hear 114 = .ok (.iconst 5, 1) := by decide +kernel
theorem dX5_hear_115 : decode cX5_hear 115 = .ok (.invokevirtual 27, 3) := by decide +kernel
theorem dX5_hear_118 : decode cX5_hear 118 = .ok (.ireturn, 1) := by decide +kernel
theorem dX5_hear_119 : decode cX5_hear 119 = .ok (.aload_n 0, 1) := by decide +kernel
theorem dX5_hear_120 : decode cX5_hear 120 = .ok (.iconst 0, 1) := by decide +kernel
theorem dX5_hear_121 : decode cX5_hear 121 = .ok (.putfield 15, 3) := by decide +kernel
theorem dX5_hear_124 : decode cX5_hear 124 = .ok (.iload_n 1, 1) := by decide +kernel
theorem dX5_hear_125 : decode cX5_hear 125 = .ok (.bipush 10, 2) := by decide +kernel
theorem dX5_hear_127 : decode cX5_hear 127 = .ok (.if_icmp .ne 7, 3) := by decide +kernel
theorem dX5_hear_130 : decode cX5_hear 130 = .ok (.iconst 2, 1) := by decide +kernel
theorem dX5_hear_131 : decode cX5_hear 131 = .ok (.goto 4, 3) := by decide +kernel
theorem dX5_hear_134 : decode cX5_hear 134 = .ok (.iconst 1, 1) := by decide +kernel
theorem dX5_hear_135 : decode cX5_hear 135 = .ok (.ireturn, 1) := by decide +kernel
theorem dX5_hear_136 : decode cX5_hear 136 = .ok (.iconst 0, 1) := by decide +kernel
theorem dX5_hear_137 : decode cX5_hear 137 = .ok (.ireturn, 1) := by decide +kernel
theorem dX5_begin_0 : decode cX5_begin 0 = .ok (.aload_n 0, 1) := by decide +kernel
theorem dX5_begin_1 : decode cX5_begin 1 = .ok (.getfield 15, 3) := by decide +kernel
theorem dX5_begin_4 : decode cX5_begin 4 = .ok (.ifCond .ne 7, 3) := by decide +kernel
theorem dX5_begin_7 : decode cX5_begin 7 = .ok (.iconst 0, 1) := by decide +kernel
theorem dX5_begin_8 : decode cX5_begin 8 = .ok (.goto 4, 3) := by decide +kernel
theorem dX5_begin_11 : decode cX5_begin 11 = .ok (.iconst 1, 1) := by decide +kernel
theorem dX5_begin_12 : decode cX5_begin 12 = .ok (.istore_n 2, 1) := by decide +kernel
theorem dX5_begin_13 : decode cX5_begin 13 = .ok (.aload_n 0, 1) := by decide +kernel
theorem dX5_begin_14 : decode cX5_begin 14 = .ok (.iconst 1, 1) := by decide +kernel
theorem dX5_begin_15 : decode cX5_begin 15 = .ok (.putfield 15, 3) := by decide +kernel
theorem dX5_begin_18 : decode cX5_begin 18 = .ok (.aload_n 0, 1) := by decide +kernel
theorem dX5_begin_19 : decode cX5_begin 19 = .ok (.iload_n 1, 1) := by decide +kernel
theorem dX5_begin_20 : decode cX5_begin 20 = .ok (.putfield 38, 3) := by decide +kernel
theorem dX5_begin_23 : decode cX5_begin 23 = .ok (.aload_n 0, 1) := by decide +kernel
theorem dX5_begin_24 : decode cX5_begin 24 = .ok (.iconst 0, 1) := by decide +kernel
theorem dX5_begin_25 : decode cX5_begin 25 = .ok (.putfield 19, 3) := by decide +kernel
theorem dX5_begin_28 : decode cX5_begin 28 = .ok (.aload_n 0, 1) := by decide +kernel
theorem dX5_begin_29 : decode cX5_begin 29 = .ok (.iconst 0, 1) := by decide +kernel
theorem dX5_begin_30 : decode cX5_begin 30 = .ok (.putfield 41, 3) := by decide +kernel
theorem dX5_begin_33 : decode cX5_begin 33 = .ok (.aload_n 0, 1) := by decide +kernel
theorem dX5_begin_34 : decode cX5_begin 34 = .ok (.iconst 0, 1) := by decide +kernel
theorem dX5_begin_35 : decode cX5_begin 35 = .ok (.putfield 44, 3) := by decide +kernel
theorem dX5_begin_38 : decode cX5_begin 38 = .ok (.iload_n 2, 1) := by decide +kernel
theorem dX5_begin_39 : decode cX5_begin 39 = .ok (.ireturn, 1) := by decide +kernel
theorem dX5_step_0 : decode cX5_step 0 = .ok (.aload_n 0, 1) := by decide +kernel
theorem dX5_step_1 : decode cX5_step 1 = .ok (.iload_n 1, 1) := by decide +kernel
theorem dX5_step_2 : decode cX5_step 2 = .ok (.ifCond .eq 7, 3) := by decide +kernel
theorem dX5_step_5 : decode cX5_step 5 = .ok (.iload_n 2, 1) := by decide +kernel
theorem dX5_step_6 : decode cX5_step 6 = .ok (.goto 4, 3) := by decide +kernel
theorem dX5_step_9 : decode cX5_step 9 = .ok (.iconst 0, 1) := by decide +kernel
theorem dX5_step_10 : decode cX5_step 10 = .ok (.putfield 15, 3) := by decide +kernel
theorem dX5_step_13 : decode cX5_step 13 = .ok (.iload_n 1, 1) := by decide +kernel
theorem dX5_step_14 : decode cX5_step 14 = .ok (.ifCond .eq 7, 3) := by decide +kernel
theorem dX5_step_17 : decode cX5_step 17 = .ok (.iconst 0, 1) := by decide +kernel
theorem dX5_step_18 : decode cX5_step 18 = .ok (.goto 4, 3) := by decide +kernel
theorem dX5_step_21 : decode cX5_step 21 = .ok (.iconst 1, 1) := by decide +kernel
theorem dX5_step_22 : decode cX5_step 22 = .ok (.ireturn, 1) := by decide +kernel
theorem dX5_store_0 : decode cX5_store 0 = .ok (.iload_n 1, 1) := by decide +kernel
theorem dX5_store_1 : decode cX5_store 1 = .ok (.bipush 32, 2) := by decide +kernel
theorem dX5_store_3 : decode cX5_store 3 = .ok (.if_icmp .lt 25, 3) := by decide +kernel
theorem dX5_store_6 : decode cX5_store 6 = .ok (.iload_n 1, 1) := by decide +kernel
theorem dX5_store_7 : decode cX5_store 7 = .ok (.bipush 126, 2) := by decide +kernel
theorem dX5_store_9 : decode cX5_store 9 = .ok (.if_icmp .gt 19, 3) := by decide +kernel
theorem dX5_store_12 : decode cX5_store 12 = .ok (.aload_n 0, 1) := by decide +kernel
theorem dX5_store_13 : decode cX5_store 13 = .ok (.getfield 19, 3) := by decide +kernel
theorem dX5_store_16 : decode cX5_store 16 = .ok (.ifCond .lt 12, 3) := by decide +kernel
theorem dX5_store_19 : decode cX5_store 19 = .ok (.aload_n 0, 1) := by decide +kernel
theorem dX5_store_20 : decode cX5_store 20 = .ok (.getfield 19, 3) := by decide +kernel
theorem dX5_store_23 : decode cX5_store 23 = .ok (.bipush 78, 2) := by decide +kernel
theorem dX5_store_25 : decode cX5_store 25 = .ok (.if_icmp .lt 10, 3) := by decide +kernel
theorem dX5_store_28 : decode cX5_store 28 = .ok (.aload_n 0, 1) := by decide +kernel
theorem dX5_store_29 : decode cX5_store 29 = .ok (.iconst 0, 1) := by decide +kernel
theorem dX5_store_30 : decode cX5_store 30 = .ok (.iconst 0, 1) := by decide +kernel
theorem dX5_store_31 : decode cX5_store 31 = .ok (.invokevirtual 27, 3) := by decide +kernel
theorem dX5_store_34 : decode cX5_store 34 = .ok (.ireturn, 1) := by decide +kernel
theorem dX5_store_35 : decode cX5_store 35 = .ok (.aload_n 0, 1) := by decide +kernel
theorem dX5_store_36 : decode cX5_store 36 = .ok (.getfield 11, 3) := by decide +kernel
theorem dX5_store_39 : decode cX5_store 39 = .ok (.aload_n 0, 1) := by decide +kernel
theorem dX5_store_40 : decode cX5_store 40 = .ok (.getfield 19, 3) := by decide +kernel
theorem dX5_store_43 : decode cX5_store 43 = .ok (.iload_n 1, 1) := by decide +kernel
theorem dX5_store_44 : decode cX5_store 44 = .ok (.i2b, 1) := by decide +kernel
theorem dX5_store_45 : decode cX5_store 45 = .ok (.bastore, 1) := by decide +kernel
theorem dX5_store_46 : decode cX5_store 46 = .ok (.aload_n 0, 1) := by decide +kernel
theorem dX5_store_47 : decode cX5_store 47 = .ok (.dup, 1) := by decide +kernel
theorem dX5_store_48 : decode cX5_store 48 = .ok (.getfield 19, 3) := by decide +kernel
theorem dX5_store_51 : decode cX5_store 51 = .ok (.iconst 1, 1) := by decide +kernel
theorem dX5_store_52 : decode cX5_store 52 = .ok (.iadd, 1) := by decide +kernel
theorem dX5_store_53 : decode cX5_store 53 = .ok (.putfield 19, 3) := by decide +kernel
theorem dX5_store_56 : decode cX5_store 56 = .ok (.aload_n 0, 1) := by decide +kernel
theorem dX5_store_57 : decode cX5_store 57 = .ok (.dup, 1) := by decide +kernel
theorem dX5_store_58 : decode cX5_store 58 = .ok (.getfield 41, 3) := by decide +kernel
theorem dX5_store_61 : decode cX5_store 61 = .ok (.iload_n 1, 1) := by decide +kernel
theorem dX5_store_62 : decode cX5_store 62 = .ok (.ixor, 1) := by decide +kernel
theorem dX5_store_63 : decode cX5_store 63 = .ok (.putfield 41, 3) := by decide +kernel
theorem dX5_store_66 : decode cX5_store 66 = .ok (.iconst 0, 1) := by decide +kernel
theorem dX5_store_67 : decode cX5_store 67 = .ok (.ireturn, 1) := by decide +kernel
theorem dX5_hearDigit_0 : decode cX5_hearDigit 0 = .ok (.iload_n 1, 1) := by decide +kernel
theorem dX5_hearDigit_1 : decode cX5_hearDigit 1 = .ok (.bipush 48, 2) := by decide +kernel
theorem dX5_hearDigit_3 : decode cX5_hearDigit 3 = .ok (.if_icmp .lt 32, 3) := by decide +kernel
theorem dX5_hearDigit_6 : decode cX5_hearDigit 6 = .ok (.iload_n 1, 1) := by decide +kernel
theorem dX5_hearDigit_7 : decode cX5_hearDigit 7 = .ok (.bipush 57, 2) := by decide +kernel
theorem dX5_hearDigit_9 : decode cX5_hearDigit 9 = .ok (.if_icmp .gt 26, 3) := by decide +kernel
theorem dX5_hearDigit_12 : decode cX5_hearDigit 12 = .ok (.aload_n 0, 1) := by decide +kernel
theorem dX5_hearDigit_13 : decode cX5_hearDigit 13 = .ok (.aload_n 0, 1) := by decide +kernel
theorem dX5_hearDigit_14 : decode cX5_hearDigit 14 = .ok (.getfield 44, 3) := by decide +kernel
theorem dX5_hearDigit_17 : decode cX5_hearDigit 17 = .ok (.bipush 16, 2) := by decide +kernel
theorem dX5_hearDigit_19 : decode cX5_hearDigit 19 = .ok (.imul, 1) := by decide +kernel
theorem dX5_hearDigit_20 : decode cX5_hearDigit 20 = .ok (.iload_n 1, 1) := by decide +kernel
theorem dX5_hearDigit_21 : decode cX5_hearDigit 21 = .ok (.iadd, 1) := by decide +kernel
theorem dX5_hearDigit_22 : decode cX5_hearDigit 22 = .ok (.bipush 48, 2) := by decide +kernel
theorem dX5_hearDigit_24 : decode cX5_hearDigit 24 = .ok (.isub, 1) := by decide +kernel
theorem dX5_hearDigit_25 : decode cX5_hearDigit 25 = .ok (.putfield 44, 3) := by decide +kernel
theorem dX5_hearDigit_28 : decode cX5_hearDigit 28 = .ok (.aload_n 0, 1) := by decide +kernel
theorem dX5_hearDigit_29 : decode cX5_hearDigit 29 = .ok (.iconst 1, 1) := by decide +kernel
theorem dX5_hearDigit_30 : decode cX5_hearDigit 30 = .ok (.iload_n 2, 1) := by decide +kernel
theorem dX5_hearDigit_31 : decode cX5_hearDigit 31 = .ok (.invokevirtual 27, 3) := by decide +kernel
theorem dX5_hearDigit_34 : decode cX5_hearDigit 34 = .ok (.ireturn, 1) := by decide +kernel
theorem dX5_hearDigit_35 : decode cX5_hearDigit 35 = .ok (.iload_n 1, 1) := by decide +kernel
theorem dX5_hearDigit_36 : decode cX5_hearDigit 36 = .ok (.bipush 65, 2) := by decide +kernel
theorem dX5_hearDigit_38 : decode cX5_hearDigit 38 = .ok (.if_icmp .lt 35, 3) := by decide +kernel
theorem dX5_hearDigit_41 : decode cX5_hearDigit 41 = .ok (.iload_n 1, 1) := by decide +kernel
theorem dX5_hearDigit_42 : decode cX5_hearDigit 42 = .ok (.bipush 70, 2) := by decide +kernel
theorem dX5_hearDigit_44 : decode cX5_hearDigit 44 = .ok (.if_icmp .gt 29, 3) := by decide +kernel
theorem dX5_hearDigit_47 : decode cX5_hearDigit 47 = .ok (.aload_n 0, 1) := by decide +kernel
theorem dX5_hearDigit_48 : decode cX5_hearDigit 48 = .ok (.aload_n 0, 1) := by decide +kernel
theorem dX5_hearDigit_49 : decode cX5_hearDigit 49 = .ok (.getfield 44, 3) := by decide +kernel
theorem dX5_hearDigit_52 : decode cX5_hearDigit 52 = .ok (.bipush 16, 2) := by decide +kernel
theorem dX5_hearDigit_54 : decode cX5_hearDigit 54 = .ok (.imul, 1) := by decide +kernel
theorem dX5_hearDigit_55 : decode cX5_hearDigit 55 = .ok (.iload_n 1, 1) := by decide +kernel
theorem dX5_hearDigit_56 : decode cX5_hearDigit 56 = .ok (.iadd, 1) := by decide +kernel
theorem dX5_hearDigit_57 : decode cX5_hearDigit 57 = .ok (.bipush 65, 2) := by decide +kernel
theorem dX5_hearDigit_59 : decode cX5_hearDigit 59 = .ok (.isub, 1) := by decide +kernel
theorem dX5_hearDigit_60 : decode cX5_hearDigit 60 = .ok (.bipush 10, 2) := by decide +kernel
theorem dX5_hearDigit_62 : decode cX5_hearDigit 62 = .ok (.iadd, 1) := by decide +kernel
theorem dX5_hearDigit_63 : decode cX5_hearDigit 63 = .ok (.putfield 44, 3) := by decide +kernel
theorem dX5_hearDigit_66 : decode cX5_hearDigit 66 = .ok (.aload_n 0, 1) := by decide +kernel
theorem dX5_hearDigit_67 : decode cX5_hearDigit 67 = .ok (.iconst 1, 1) := by decide +kernel
theorem dX5_hearDigit_68 : decode cX5_hearDigit 68 = .ok (.iload_n 2, 1) := by decide +kernel
theorem dX5_hearDigit_69 : decode cX5_hearDigit 69 = .ok (.invokevirtual 27, 3) := by decide +kernel
theorem dX5_hearDigit_72 : decode cX5_hearDigit 72 = .ok (.ireturn, 1) := by decide +kernel
theorem dX5_hearDigit_73 : decode cX5_hearDigit 73 = .ok (.aload_n 0, 1) := by decide +kernel
theorem dX5_hearDigit_74 : decode cX5_hearDigit 74 = .ok (.iconst 0, 1) := by decide +kernel
theorem dX5_hearDigit_75 : decode cX5_hearDigit 75 = .ok (.iload_n 2, 1) := by decide +kernel
theorem dX5_hearDigit_76 : decode cX5_hearDigit 76 = .ok (.invokevirtual 27, 3) := by decide +kernel
theorem dX5_hearDigit_79 : decode cX5_hearDigit 79 = .ok (.ireturn, 1) := by decide +kernel
theorem dX6_init_0 : decode cX6_init 0 = .ok (.aload_n 0, 1) := by decide +kernel
theorem dX6_init_1 : decode cX6_init 1 = .ok (.invokespecial 3, 3) := by decide +kernel
theorem dX6_init_4 : decode cX6_init 4 = .ok (.aload_n 0, 1) := by decide +kernel
theorem dX6_init_5 : decode cX6_init 5 = .ok (.iload_n 1, 1) := by decide +kernel
theorem dX6_init_6 : decode cX6_init 6 = .ok (.ifCond .ge 7, 3) := by decide +kernel
theorem dX6_init_9 : decode cX6_init 9 = .ok (.iconst 0, 1) := by decide +kernel
theorem dX6_init_10 : decode cX6_init 10 = .ok (.goto 4, 3) := by decide +kernel
theorem dX6_init_13 : decode cX6_init 13 = .ok (.iload_n 1, 1) := by decide +kernel
theorem dX6_init_14 : decode cX6_init 14 = .ok (.newarray .byte, 2) := by decide +kernel
theorem dX6_init_16 : decode cX6_init 16 = .ok (.putfield 9, 3) := by decide +kernel
theorem dX6_init_19 : decode cX6_init 19 = .ok (.return_, 1) := by decide +kernel
theorem dX6_hasRoom_0 : decode cX6_hasRoom 0 = .ok (.aload_n 0, 1) := by decide +kernel
theorem dX6_hasRoom_1 : decode cX6_hasRoom 1 = .ok (.getfield 15, 3) := by decide +kernel
theorem dX6_hasRoom_4 : decode cX6_hasRoom 4 = .ok (.iload_n 1, 1) := by decide +kernel
theorem dX6_hasRoom_5 : decode cX6_hasRoom 5 = .ok (.iadd, 1) := by decide +kernel
theorem dX6_hasRoom_6 : decode cX6_hasRoom 6 = .ok (.aload_n 0, 1) := by decide +kernel
theorem dX6_hasRoom_7 : decode cX6_hasRoom 7 = .ok (.getfield 9, 3) := by decide +kernel
theorem dX6_hasRoom_10 : decode cX6_hasRoom 10 = .ok (.arraylength, 1) := by decide +kernel
theorem dX6_hasRoom_11 : decode cX6_hasRoom 11 = .ok (.if_icmp .gt 7, 3) := by decide +kernel
theorem dX6_hasRoom_14 : decode cX6_hasRoom 14 = .ok (.iconst 1, 1) := by decide +kernel
theorem dX6_hasRoom_15 : decode cX6_hasRoom 15 = .ok (.goto 4, 3) := by decide +kernel
theorem dX6_hasRoom_18 : decode cX6_hasRoom 18 = .ok (.iconst 0, 1) := by decide +kernel
theorem dX6_hasRoom_19 : decode cX6_hasRoom 19 = .ok (.ireturn, 1) := by decide +kernel
theorem dX6_add_0 : decode cX6_add 0 = .ok (.aload_n 0, 1) := by decide +kernel
theorem dX6_add_1 : decode cX6_add 1 = .ok (.getfield 15, 3) := by decide +kernel
theorem dX6_add_4 : decode cX6_add 4 = .ok (.ifCond .lt 36, 3) := by decide +kernel
theorem dX6_add_7 : decode cX6_add 7 = .ok (.aload_n 0, 1) := by decide +kernel
theorem dX6_add_8 : decode cX6_add 8 = .ok (.getfield 15, 3) := by decide +kernel
theorem dX6_add_11 : decode cX6_add 11 = .ok (.aload_n 0, 1) := by decide +kernel
theorem dX6_add_12 : decode cX6_add 12 = .ok (.getfield 9, 3) := by decide +kernel
theorem dX6_add_15 : decode cX6_add 15 = .ok (.arraylength, 1) := by decide +kernel
theorem dX6_add_16 : decode cX6_add 16 = .ok (.if_icmp .ge 24, 3) := by decide +kernel
theorem dX6_add_19 : decode cX6_add 19 = .ok (.aload_n 0, 1) := by decide +kernel
theorem dX6_add_20 : decode cX6_add 20 = .ok (.getfield 9, 3) := by decide +kernel
theorem dX6_add_23 : decode cX6_add 23 = .ok (.aload_n 0, 1) := by decide +kernel
theorem dX6_add_24 : decode cX6_add 24 = .ok (.getfield 15, 3) := by decide +kernel
theorem dX6_add_27 : decode cX6_add 27 = .ok (.iload_n 1, 1) := by decide +kernel
theorem dX6_add_28 : decode cX6_add 28 = .ok (.i2b, 1) := by decide +kernel
theorem dX6_add_29 : decode cX6_add 29 = .ok (.bastore, 1) := by decide +kernel
theorem dX6_add_30 : decode cX6_add 30 = .ok (.aload_n 0, 1) := by decide +kernel
theorem dX6_add_31 : decode cX6_add 31 = .ok (.dup, 1) := by decide +kernel
theorem dX6_add_32 : decode cX6_add 32 = .ok (.getfield 15, 3) := by decide +kernel
theorem dX6_add_35 : decode cX6_add 35 = .ok (.iconst 1, 1) := by decide +kernel
theorem dX6_add_36 : decode cX6_add 36 = .ok (.iadd, 1) := by decide +kernel
theorem dX6_add_37 : decode cX6_add 37 = .ok (.putfield 15, 3) := by decide +kernel
theorem dX6_add_40 : decode cX6_add 40 = .ok (.return_, 1) := by decide +kernel
theorem dX6_addWord_0 : decode cX6_addWord 0 = .ok (.aload_n 0, 1) := by decide +kernel
theorem dX6_addWord_1 : decode cX6_addWord 1 = .ok (.iload_n 1, 1) := by decide +kernel
theorem dX6_addWord_2 : decode cX6_addWord 2 = .ok (.bipush 24, 2) := by decide +kernel
theorem dX6_addWord_4 : decode cX6_addWord 4 = .ok (.iushr, 1) := by decide +kernel
theorem dX6_addWord_5 : decode cX6_addWord 5 = .ok (.invokevirtual 19, 3) := by decide +kernel
theorem dX6_addWord_8 : decode cX6_addWord 8 = .ok (.aload_n 0, 1) := by decide +kernel
theorem dX6_addWord_9 : decode cX6_addWord 9 = .ok (.iload_n 1, 1) := by decide +kernel
theorem dX6_addWord_10 : decode cX6_addWord 10 = .ok (.bipush 16, 2) := by decide +kernel
theorem dX6_addWord_12 : decode cX6_addWord 12 = .ok (.iushr, 1) := by decide +kernel
theorem dX6_addWord_13 : decode cX6_addWord 13 = .ok (.invokevirtual 19, 3) := by decide +kernel
theorem dX6_addWord_16 : decode cX6_addWord 16 = .ok (.aload_n 0, 1) := by decide +kernel
theorem dX6_addWord_17 : decode cX6_addWord 17 = .ok (.iload_n 1, 1) := by decide +kernel
theorem dX6_addWord_18 : decode cX6_addWord 18 = .ok (.bipush 8, 2) := by decide +kernel
theorem dX6_addWord_20 : decode cX6_addWord 20 = .ok (.iushr, 1) := by decide +kernel
theorem dX6_addWord_21 : decode cX6_addWord 21 = .ok (.invokevirtual 19, 3) := by decide +kernel
theorem dX6_addWord_24 : decode cX6_addWord 24 = .ok (.aload_n 0, 1) := by decide +kernel
theorem dX6_addWord_25 : decode cX6_addWord 25 = .ok (.iload_n 1, 1) := by decide +kernel
theorem dX6_addWord_26 : decode cX6_addWord 26 = .ok (.invokevirtual 19, 3) := by decide +kernel
theorem dX6_addWord_29 : decode cX6_addWord 29 = .ok (.return_, 1) := by decide +kernel
theorem dX6_addText_0 : decode cX6_addText 0 = .ok (.iconst 0, 1) := by decide +kernel
theorem dX6_addText_1 : decode cX6_addText 1 = .ok (.istore_n 2, 1) := by decide +kernel
theorem dX6_addText_2 : decode cX6_addText 2 = .ok (.iload_n 2, 1) := by decide +kernel
theorem dX6_addText_3 : decode cX6_addText 3 = .ok (.aload_n 1, 1) := by decide +kernel
theorem dX6_addText_4 : decode cX6_addText 4 = .ok (.invokevirtual 23, 3) := by decide +kernel
theorem dX6_addText_7 : decode cX6_addText 7 = .ok (.if_icmp .ge 18, 3) := by decide +kernel
theorem dX6_addText_10 : decode cX6_addText 10 = .ok (.aload_n 0, 1) := by decide +kernel
theorem dX6_addText_11 : decode cX6_addText 11 = .ok (.aload_n 1, 1) := by decide +kernel
theorem dX6_addText_12 : decode cX6_addText 12 = .ok (.iload_n 2, 1) := by decide +kernel
theorem dX6_addText_13 : decode cX6_addText 13 = .ok (.invokevirtual 29, 3) := by decide +kernel
theorem dX6_addText_16 : decode cX6_addText 16 = .ok (.invokevirtual 19, 3) := by decide +kernel
theorem dX6_addText_19 : decode cX6_addText 19 = .ok (.iinc 2 1, 3) := by decide +kernel
theorem dX6_addText_22 : decode cX6_addText 22 = .ok (.goto (-20), 3) := by decide +kernel
theorem dX6_addText_25 : decode cX6_addText 25 = .ok (.return_, 1) := by decide +kernel
theorem dX6_at_0 : decode cX6_at 0 = .ok (.iload_n 1, 1) := by decide +kernel
theorem dX6_at_1 : decode cX6_at 1 = .ok (.ifCond .lt 33, 3) := by decide +kernel
theorem dX6_at_4 : decode cX6_at 4 = .ok (.iload_n 1, 1) := by decide +kernel
theorem dX6_at_5 : decode cX6_at 5 = .ok (.aload_n 0, 1) := by decide +kernel
theorem dX6_at_6 : decode cX6_at 6 = .ok (.getfield 15, 3) := by decide +kernel
theorem dX6_at_9 : decode cX6_at 9 = .ok (.if_icmp .ge 25, 3) := by decide +kernel
theorem dX6_at_12 : decode cX6_at 12 = .ok (.iload_n 1, 1) := by decide +kernel
theorem dX6_at_13 : decode cX6_at 13 = .ok (.aload_n 0, 1) := by decide +kernel
theorem dX6_at_14 : decode cX6_at 14 = .ok (.getfield 9, 3) := by decide +kernel
theorem dX6_at_17 : decode cX6_at 17 = .ok (.arraylength, 1) := by decide +kernel
theorem dX6_at_18 : decode cX6_at 18 = .ok (.if_icmp .ge 16, 3) := by decide +kernel
theorem dX6_at_21 : decode cX6_at 21 = .ok (.aload_n 0, 1) := by decide +kernel
theorem dX6_at_22 : decode cX6_at 22 = .ok (.getfield 9, 3) := by decide +kernel
theorem dX6_at_25 : decode cX6_at 25 = .ok (.iload_n 1, 1) := by decide +kernel
theorem dX6_at_26 : decode cX6_at 26 = .ok (.baload, 1) := by decide +kernel
theorem dX6_at_27 : decode cX6_at 27 = .ok (.sipush 255, 3) := by decide +kernel
theorem dX6_at_30 : decode cX6_at 30 = .ok (.iand, 1) := by decide +kernel
theorem dX6_at_31 : decode cX6_at 31 = .ok (.goto 5, 3) := by decide +kernel
theorem dX6_at_34 : decode cX6_at 34 = .ok (.ldc 33, 2) := by decide +kernel
theorem dX6_at_36 : decode cX6_at 36 = .ok (.ireturn, 1) := by decide +kernel
theorem dX7_init_0 : decode cX7_init 0 = .ok (.aload_n 0, 1) := by decide +kernel
theorem dX7_init_1 : decode cX7_init 1 = .ok (.invokespecial 3, 3) := by decide +kernel
theorem dX7_init_4 : decode cX7_init 4 = .ok (.aload_n 0, 1) := by decide +kernel
theorem dX7_init_5 : decode cX7_init 5 = .ok (.bipush 24, 2) := by decide +kernel
theorem dX7_init_7 : decode cX7_init 7 = .ok (.newarray .int, 2) := by decide +kernel
theorem dX7_init_9 : decode cX7_init 9 = .ok (.putfield 11, 3) := by decide +kernel
theorem dX7_init_12 : decode cX7_init 12 = .ok (.aload_n 0, 1) := by decide +kernel
theorem dX7_init_13 : decode cX7_init 13 = .ok (.iconst 3, 1) := by decide +kernel
theorem dX7_init_14 : decode cX7_init 14 = .ok (.newarray .int, 2) := by decide +kernel
theorem dX7_init_16 : decode cX7_init 16 = .ok (.putfield 15, 3) := by decide +kernel
theorem dX7_init_19 : decode cX7_init 19 = .ok (.aload_n 0, 1) := by decide +kernel
theorem dX7_init_20 : decode cX7_init 20 = .ok (.bipush 60, 2) := by decide +kernel
theorem dX7_init_22 : decode cX7_init 22 = .ok (.newarray .byte, 2) := by decide +kernel
theorem dX7_init_24 : decode cX7_init 24 = .ok (.putfield 18, 3) := by decide +kernel
theorem dX7_init_27 : decode cX7_init 27 = .ok (.return_, 1) := by decide +kernel
theorem dX7_bitsOf_0 : decode cX7_bitsOf 0 = .ok (.iload_n 0, 1) := by decide +kernel
theorem dX7_bitsOf_1 : decode cX7_bitsOf 1 = .ok (.tableswitch 95 1 18 #[87, 87, 87, 87, 91, 95, 95, 95, 95, 95, 95, 95, 95, 95, 95, 95, 95, 87], 87) := by decide +kernel
theorem dX7_bitsOf_88 : decode cX7_bitsOf 88 = .ok (.sipush 168, 3) := by decide +kernel
theorem dX7_bitsOf_91 : decode cX7_bitsOf 91 = .ok (.ireturn, 1) := by decide +kernel
theorem dX7_bitsOf_92 : decode cX7_bitsOf 92 = .ok (.sipush 424, 3) := by decide +kernel
theorem dX7_bitsOf_95 : decode cX7_bitsOf 95 = .ok (.ireturn, 1) := by decide +kernel
theorem dX7_bitsOf_96 : decode cX7_bitsOf 96 = .ok (.iconst 0, 1) := by decide +kernel
theorem dX7_bitsOf_97 : decode cX7_bitsOf 97 = .ok (.ireturn, 1) := by decide +kernel
theorem dX7_layoutOf_0 : decode cX7_layoutOf 0 = .ok (.iload_n 0, 1) := by decide +kernel
theorem dX7_layoutOf_1 : decode cX7_layoutOf 1 = .ok (.lookupswitch 47 #[(4, 35), (5, 39), (18, 43)], 35) := by decide +kernel
theorem dX7_layoutOf_36 : decode cX7_layoutOf 36 = .ok (.getstatic 22, 3) := by decide +kernel
theorem dX7_layoutOf_39 : decode cX7_layoutOf 39 = .ok (.areturn, 1) := by decide +kernel
theorem dX7_layoutOf_40 : decode cX7_layoutOf 40 = .ok (.getstatic 25, 3) := by decide +kernel
theorem dX7_layoutOf_43 : decode cX7_layoutOf 43 = .ok (.areturn, 1) := by decide +kernel
theorem dX7_layoutOf_44 : decode cX7_layoutOf 44 = .ok (.getstatic 28, 3) := by decide +kernel
theorem dX7_layoutOf_47 : decode cX7_layoutOf 47 = .ok (.areturn, 1) := by decide +kernel
theorem dX7_layoutOf_48 : decode cX7_layoutOf 48 = .ok (.getstatic 31, 3) := by decide +kernel
theorem dX7_layoutOf_51 : decode cX7_layoutOf 51 = .ok (.areturn, 1) := by decide +kernel
theorem dX7_hasSign_0 : decode cX7_hasSign 0 = .ok (.iload_n 0, 1) := by decide +kernel
theorem dX7_hasSign_1 : decode cX7_hasSign 1 = .ok (.iconst 3, 1) := by decide +kernel
theorem dX7_hasSign_2 : decode cX7_hasSign 2 = .ok (.if_icmp .eq 15, 3) := by decide +kernel
theorem dX7_hasSign_5 : decode cX7_hasSign 5 = .ok (.iload_n 0, 1) := by decide +kernel
theorem dX7_hasSign_6 : decode cX7_hasSign 6 = .ok (.bipush 6, 2) := by decide +kernel
theorem dX7_hasSign_8 : decode cX7_hasSign 8 = .ok (.if_icmp .eq 9, 3) := by decide +kernel
theorem dX7_hasSign_11 : decode cX7_hasSign 11 = .ok (.iload_n 0, 1) := by decide +kernel
theorem dX7_hasSign_12 : decode cX7_hasSign 12 = .ok (.bipush 7, 2) := by decide +kernel
theorem dX7_hasSign_14 : decode cX7_hasSign 14 = .ok (.if_icmp .ne 7, 3) := by decide +kernel
theorem dX7_hasSign_17 : decode cX7_hasSign 17 = .ok (.iconst 1, 1) := by decide +kernel
theorem dX7_hasSign_18 : decode cX7_hasSign 18 = .ok (.goto 4, 3) := by decide +kernel
theorem dX7_hasSign_21 : decode cX7_hasSign 21 = .ok (.iconst 0, 1) := by decide +kernel
theorem dX7_hasSign_22 : decode cX7_hasSign 22 = .ok (.ireturn, 1) := by decide +kernel
theorem dX7_begin_0 : decode cX7_begin 0 = .ok (.aload_n 0, 1) := by decide +kernel
theorem dX7_begin_1 : decode cX7_begin 1 = .ok (.getfield 11, 3) := by decide +kernel
theorem dX7_begin_4 : decode cX7_begin 4 = .ok (.ldc 34, 2) := by decide +kernel
theorem dX7_begin_6 : decode cX7_begin 6 = .ok (.invokestatic 35, 3) := by decide +kernel
theorem dX7_begin_9 : decode cX7_begin 9 = .ok (.aload_n 0, 1) := by decide +kernel
theorem dX7_begin_10 : decode cX7_begin 10 = .ok (.getfield 15, 3) := by decide +kernel
theorem dX7_begin_13 : decode cX7_begin 13 = .ok (.iconst 0, 1) := by decide +kernel
theorem dX7_begin_14 : decode cX7_begin 14 = .ok (.invokestatic 35, 3) := by decide +kernel
theorem dX7_begin_17 : decode cX7_begin 17 = .ok (.aload_n 0, 1) := by decide +kernel
theorem dX7_begin_18 : decode cX7_begin 18 = .ok (.getfield 11, 3) := by decide +kernel
theorem dX7_begin_21 : decode cX7_begin 21 = .ok (.iconst 0, 1) := by decide +kernel
theorem dX7_begin_22 : decode cX7_begin 22 = .ok (.iload_n 1, 1) := by decide +kernel
theorem dX7_begin_23 : decode cX7_begin 23 = .ok (.iastore, 1) := by decide +kernel
theorem dX7_begin_24 : decode cX7_begin 24 = .ok (.aload_n 0, 1) := by decide +kernel
theorem dX7_begin_25 : decode cX7_begin 25 = .ok (.getfield 11, 3) := by decide +kernel
theorem dX7_begin_28 : decode cX7_begin 28 = .ok (.bipush 23, 2) := by decide +kernel
theorem dX7_begin_30 : decode cX7_begin 30 = .ok (.iconst 0, 1) := by decide +kernel
theorem dX7_begin_31 : decode cX7_begin 31 = .ok (.iastore, 1) := by decide +kernel
theorem dX7_begin_32 : decode cX7_begin 32 = .ok (.return_, 1) := by decide +kernel
theorem dX7_learn_0 : decode cX7_learn 0 = .ok (.iload_n 1, 1) := by decide +kernel
theorem dX7_learn_1 : decode cX7_learn 1 = .ok (.invokestatic 41, 3) := by decide +kernel
theorem dX7_learn_4 : decode cX7_learn 4 = .ok (.astore_n 3, 1) := by decide +kernel
theorem dX7_learn_5 : decode cX7_learn 5 = .ok (.bipush 38, 2) := by decide +kernel
theorem dX7_learn_7 : decode cX7_learn 7 = .ok (.istore 4, 2) := by decide +kernel
theorem dX7_learn_9 : decode cX7_learn 9 = .ok (.iconst 0, 1) := by decide +kernel
theorem dX7_learn_10 : decode cX7_learn 10 = .ok (.istore 5, 2) := by decide +kernel
theorem dX7_learn_12 : decode cX7_learn 12 = .ok (.iload 5, 2) := by decide +kernel
theorem dX7_learn_14 : decode cX7_learn 14 = .ok (.iconst 1, 1) := by decide +kernel
theorem dX7_learn_15 : decode cX7_learn 15 = .ok (.iadd, 1) := by decide +kernel
theorem dX7_learn_16 : decode cX7_learn 16 = .ok (.aload_n 3, 1) := by decide +kernel
theorem dX7_learn_17 : decode cX7_learn 17 = .ok (.arraylength, 1) := by decide +kernel
theorem dX7_learn_18 : decode cX7_learn 18 = .ok (.if_icmp .ge 113, 3) := by decide +kernel
theorem dX7_learn_21 : decode cX7_learn 21 = .ok (.aload_n 3, 1) := by decide +kernel
theorem dX7_learn_22 : decode cX7_learn 22 = .ok (.iload 5, 2) := by decide +kernel
theorem dX7_learn_24 : decode cX7_learn 24 = .ok (.iaload, 1) := by decide +kernel
theorem dX7_learn_25 : decode cX7_learn 25 = .ok (.istore 6, 2) := by decide +kernel
theorem dX7_learn_27 : decode cX7_learn 27 = .ok (.aload_n 3, 1) := by decide +kernel
theorem dX7_learn_28 : decode cX7_learn 28 = .ok (.iload 5, 2) := by decide +kernel
theorem dX7_learn_30 : decode cX7_learn 30 = .ok (.iconst 1, 1) := by decide +kernel
theorem dX7_learn_31 : decode cX7_learn 31 = .ok (.iadd, 1) := by decide +kernel
theorem dX7_learn_32 : decode cX7_learn 32 = .ok (.iaload, 1) := by decide +kernel
theorem dX7_learn_33 : decode cX7_learn 33 = .ok (.istore 7, 2) := by decide +kernel
theorem dX7_learn_35 : decode cX7_learn 35 = .ok (.iload 6, 2) := by decide +kernel
theorem dX7_learn_37 : decode cX7_learn 37 = .ok (.bipush 30, 2) := by decide +kernel
theorem dX7_learn_39 : decode cX7_learn 39 = .ok (.if_icmp .lt 23, 3) := by decide +kernel
theorem dX7_learn_42 : decode cX7_learn 42 = .ok (.aload_n 0, 1) := by decide +kernel
theorem dX7_learn_43 : decode cX7_learn 43 = .ok (.iload 6, 2) := by decide +kernel
theorem dX7_learn_45 : decode cX7_learn 45 = .ok (.bipush 30, 2) := by decide +kernel
theorem dX7_learn_47 : decode cX7_learn 47 = .ok (.isub, 1) := by decide +kernel
theorem dX7_learn_48 : decode cX7_learn 48 = .ok (.aload_n 2, 1) := by decide +kernel
theorem dX7_learn_49 : decode cX7_learn 49 = .ok (.iload 4, 2) := by decide +kernel
theorem dX7_learn_51 : decode cX7_learn 51 = .ok (.iload 7, 2) := by decide +kernel
theorem dX7_learn_53 : decode cX7_learn 53 = .ok (.bipush 6, 2) := by decide +kernel
theorem dX7_learn_55 : decode cX7_learn 55 = .ok (.idiv, 1) := by decide +kernel
theorem dX7_learn_56 : decode cX7_learn 56 = .ok (.invokevirtual 45, 3) := by decide +kernel
theorem dX7_learn_59 : decode cX7_learn 59 = .ok (.goto 59, 3) := by decide +kernel
theorem dX7_learn_62 : decode cX7_learn 62 = .ok (.iload 6, 2) := by decide +kernel
theorem dX7_learn_64 : decode cX7_learn 64 = .ok (.ifCond .lt 54, 3) := by decide +kernel
theorem dX7_learn_67 : decode cX7_learn 67 = .ok (.iload 6, 2) := by decide +kernel
theorem dX7_learn_69 : decode cX7_learn 69 = .ok (.bipush 24, 2) := by decide +kernel
theorem dX7_learn_71 : decode cX7_learn 71 = .ok (.if_icmp .ge 47, 3) := by decide +kernel
theorem dX7_learn_74 : decode cX7_learn 74 = .ok (.aload_n 2, 1) := by decide +kernel
theorem dX7_learn_75 : decode cX7_learn 75 = .ok (.iload 4, 2) := by decide +kernel
theorem dX7_learn_77 : decode cX7_learn 77 = .ok (.iload 7, 2) := by decide +kernel
theorem dX7_learn_79 : decode cX7_learn 79 = .ok (.invokevirtual 49, 3) := by decide +kernel
theorem dX7_learn_82 : decode cX7_learn 82 = .ok (.istore 8, 2) := by decide +kernel
theorem dX7_learn_84 : decode cX7_learn 84 = .ok (.aload_n 0, 1) := by decide +kernel
theorem dX7_learn_85 : decode cX7_learn 85 = .ok (.getfield 11, 3) := by decide +kernel
theorem dX7_learn_88 : decode cX7_learn 88 = .ok (.iload 6, 2) := by decide +kernel
theorem dX7_learn_90 : decode cX7_learn 90 = .ok (.iload 6, 2) := by decide +kernel
theorem dX7_learn_92 : decode cX7_learn 92 = .ok (.invokestatic 55, 3) := by decide +kernel
theorem dX7_learn_95 : decode cX7_learn 95 = .ok (.ifCond .eq 20, 3) := by decide +kernel
theorem dX7_learn_98 : decode cX7_learn 98 = .ok (.iload 8, 2) := by decide +kernel
theorem dX7_learn_100 : decode cX7_learn 100 = .ok (.bipush 32, 2) := by decide +kernel
theorem dX7_learn_102 : decode cX7_learn 102 = .ok (.iload 7, 2) := by decide +kernel
theorem dX7_learn_104 : decode cX7_learn 104 = .ok (.isub, 1) := by decide +kernel
theorem dX7_learn_105 : decode cX7_learn 105 = .ok (.ishl, 1) := by decide +kernel
theorem dX7_learn_106 : decode cX7_learn 106 = .ok (.bipush 32, 2) := by decide +kernel
theorem dX7_learn_108 : decode cX7_learn 108 = .ok (.iload 7, 2) := by decide +kernel
theorem dX7_learn_110 : decode cX7_learn 110 = .ok (.isub, 1) := by decide +kernel
theorem dX7_learn_111 : decode cX7_learn 111 = .ok (.ishr, 1) := by decide +kernel
theorem dX7_learn_112 : decode cX7_learn 112 = .ok (.goto 5, 3) := by decide +kernel
theorem dX7_learn_115 : decode cX7_learn 115 = .ok (.iload 8, 2) := by decide +kernel
theorem dX7_learn_117 : decode cX7_learn 117 = .ok (.iastore, 1) := by decide +kernel
theorem dX7_learn_118 : decode cX7_learn 118 = .ok (.iload 4, 2) := by decide +kernel
theorem dX7_learn_120 : decode cX7_learn 120 = .ok (.iload 7, 2) := by decide +kernel
theorem dX7_learn_122 : decode cX7_learn 122 = .ok (.iadd, 1) := by decide +kernel
theorem dX7_learn_123 : decode cX7_learn 123 = .ok (.istore 4, 2) := by decide +kernel
theorem dX7_learn_125 : decode cX7_learn 125 = .ok (.iinc 5 2, 3) := by decide +kernel
theorem dX7_learn_128 : decode cX7_learn 128 = .ok (.goto (-116), 3) := by decide +kernel
theorem dX7_learn_131 : decode cX7_learn 131 = .ok (.aload_n 0, 1) := by decide +kernel
theorem dX7_learn_132 : decode cX7_learn 132 = .ok (.getfield 11, 3) := by decide +kernel
theorem dX7_learn_135 : decode cX7_learn 135 = .ok (.iconst 1, 1) := by decide +kernel
theorem dX7_learn_136 : decode cX7_learn 136 = .ok (.iload_n 1, 1) := by decide +kernel
theorem dX7_learn_137 : decode cX7_learn 137 = .ok (.iastore, 1) := by decide +kernel
theorem dX7_learn_138 : decode cX7_learn 138 = .ok (.aload_n 0, 1) := by decide +kernel
theorem dX7_learn_139 : decode cX7_learn 139 = .ok (.getfield 11, 3) := by decide +kernel
theorem dX7_learn_142 : decode cX7_learn 142 = .ok (.bipush 23, 2) := by decide +kernel
theorem dX7_learn_144 : decode cX7_learn 144 = .ok (.dup2, 1) := by decide +kernel
theorem dX7_learn_145 : decode cX7_learn 145 = .ok (.iaload, 1) := by decide +kernel
theorem dX7_learn_146 : decode cX7_learn 146 = .ok (.iconst 1, 1) := by decide +kernel
theorem dX7_learn_147 : decode cX7_learn 147 = .ok (.iadd, 1) := by decide +kernel
theorem dX7_learn_148 : decode cX7_learn 148 = .ok (.iastore, 1) := by decide +kernel
theorem dX7_learn_149 : decode cX7_learn 149 = .ok (.return_, 1) := by decide +kernel
theorem dX7_learnText_0 : decode cX7_learnText 0 = .ok (.iload_n 1, 1) := by decide +kernel
theorem dX7_learnText_1 : decode cX7_learnText 1 = .ok (.ifCond .lt 8, 3) := by decide +kernel
theorem dX7_learnText_4 : decode cX7_learnText 4 = .ok (.iload_n 1, 1) := by decide +kernel
theorem dX7_learnText_5 : decode cX7_learnText 5 = .ok (.iconst 3, 1) := by decide +kernel
theorem dX7_learnText_6 : decode cX7_learnText 6 = .ok (.if_icmp .lt 4, 3) := by decide +kernel
theorem dX7_learnText_9 : decode cX7_learnText 9 = .ok (.return_, 1) := by decide +kernel
theorem dX7_learnText_10 : decode cX7_learnText 10 = .ok (.iconst 0, 1) := by decide +kernel
theorem dX7_learnText_11 : decode cX7_learnText 11 = .ok (.istore 5, 2) := by decide +kernel
theorem dX7_learnText_13 : decode cX7_learnText 13 = .ok (.iconst 0, 1) := by decide +kernel
theorem dX7_learnText_14 : decode cX7_learnText 14 = .ok (.istore 6, 2) := by decide +kernel
theorem dX7_learnText_16 : decode cX7_learnText 16 = .ok (.iload 6, 2) := by decide +kernel
theorem dX7_learnText_18 : decode cX7_learnText 18 = .ok (.iload 4, 2) := by decide +kernel
theorem dX7_learnText_20 : decode cX7_learnText 20 = .ok (.if_icmp .ge 82, 3) := by decide +kernel
theorem dX7_learnText_23 : decode cX7_learnText 23 = .ok (.iload 6, 2) := by decide +kernel
theorem dX7_learnText_25 : decode cX7_learnText 25 = .ok (.bipush 20, 2) := by decide +kernel
theorem dX7_learnText_27 : decode cX7_learnText 27 = .ok (.if_icmp .ge 75, 3) := by decide +kernel
theorem dX7_learnText_30 : decode cX7_learnText 30 = .ok (.aload_n 2, 1) := by decide +kernel
theorem dX7_learnText_31 : decode cX7_learnText 31 = .ok (.iload_n 3, 1) := by decide +kernel
theorem dX7_learnText_32 : decode cX7_learnText 32 = .ok (.bipush 6, 2) := by decide +kernel
theorem dX7_learnText_34 : decode cX7_learnText 34 = .ok (.iload 6, 2) := by decide +kernel
theorem dX7_learnText_36 : decode cX7_learnText 36 = .ok (.imul, 1) := by decide +kernel
theorem dX7_learnText_37 : decode cX7_learnText 37 = .ok (.iadd, 1) := by decide +kernel
theorem dX7_learnText_38 : decode cX7_learnText 38 = .ok (.bipush 6, 2) := by decide +kernel
theorem dX7_learnText_40 : decode cX7_learnText 40 = .ok (.invokevirtual 49, 3) := by decide +kernel
theorem dX7_learnText_43 : decode cX7_learnText 43 = .ok (.istore 7, 2) := by decide +kernel
theorem dX7_learnText_45 : decode cX7_learnText 45 = .ok (.iload 7, 2) := by decide +kernel
theorem dX7_learnText_47 : decode cX7_learnText 47 = .ok (.ifCond .ne 6, 3) := by decide +kernel
theorem dX7_learnText_50 : decode cX7_learnText 50 = .ok (.goto 52, 3) := by decide +kernel
theorem dX7_learnText_53 : decode cX7_learnText 53 = .ok (.aload_n 0, 1) := by decide +kernel
theorem dX7_learnText_54 : decode cX7_learnText 54 = .ok (.getfield 18, 3) := by decide +kernel
theorem dX7_learnText_57 : decode cX7_learnText 57 = .ok (.iload_n 1, 1) := by decide +kernel
theorem dX7_learnText_58 : decode cX7_learnText 58 = .ok (.bipush 20, 2) := by decide +kernel
theorem dX7_learnText_60 : decode cX7_learnText 60 = .ok (.imul, 1) := by decide +kernel
theorem dX7_learnText_61 : decode cX7_learnText 61 = .ok (.iload 6, 2) := by decide +kernel
theorem dX7_learnText_63 : decode cX7_learnText 63 = .ok (.iadd, 1) := by decide +kernel
theorem dX7_learnText_64 : decode cX7_learnText 64 = .ok (.iload 7, 2) := by decide +kernel
theorem dX7_learnText_66 : decode cX7_learnText 66 = .ok (.bipush 32, 2) := by decide +kernel
theorem dX7_learnText_68 : decode cX7_learnText 68 = .ok (.if_icmp .ge 11, 3) := by decide +kernel
theorem dX7_learnText_71 : decode cX7_learnText 71 = .ok (.iload 7, 2) := by decide +kernel
theorem dX7_learnText_73 : decode cX7_learnText 73 = .ok (.bipush 64, 2) := by decide +kernel
theorem dX7_learnText_75 : decode cX7_learnText 75 = .ok (.iadd, 1) := by decide +kernel
theorem dX7_learnText_76 : decode cX7_learnText 76 = .ok (.goto 5, 3) := by decide +kernel
theorem dX7_learnText_79 : decode cX7_learnText 79 = .ok (.iload 7, 2) := by decide +kernel
theorem dX7_learnText_81 : decode cX7_learnText 81 = .ok (.i2b, 1) := by decide +kernel
theorem dX7_learnText_82 : decode cX7_learnText 82 = .ok (.bastore, 1) := by decide +kernel
theorem dX7_learnText_83 : decode cX7_learnText 83 = .ok (.iload 7, 2) := by decide +kernel
theorem dX7_learnText_85 : decode cX7_learnText 85 = .ok (.bipush 32, 2) := by decide +kernel
theorem dX7_learnText_87 : decode cX7_learnText 87 = .ok (.if_icmp .eq 9, 3) := by decide +kernel
theorem dX7_learnText_90 : decode cX7_learnText 90 = .ok (.iload 6, 2) := by decide +kernel
theorem dX7_learnText_92 : decode cX7_learnText 92 = .ok (.iconst 1, 1) := by decide +kernel
theorem dX7_learnText_93 : decode cX7_learnText 93 = .ok (.iadd, 1) := by decide +kernel
theorem dX7_learnText_94 : decode cX7_learnText 94 = .ok (.istore 5, 2) := by decide +kernel
theorem dX7_learnText_96 : decode cX7_learnText 96 = .ok (.iinc 6 1, 3) := by decide +kernel
theorem dX7_learnText_99 : decode cX7_learnText 99 = .ok (.goto (-83), 3) := by decide +kernel
theorem dX7_learnText_102 : decode cX7_learnText 102 = .ok (.aload_n 0, 1) := by decide +kernel
theorem dX7_learnText_103 : decode cX7_learnText 103 = .ok (.getfield 15, 3) := by decide +kernel
theorem dX7_learnText_106 : decode cX7_learnText 106 = .ok (.iload_n 1, 1) := by decide +kernel
theorem dX7_learnText_107 : decode cX7_learnText 107 = .ok (.iload 5, 2) := by decide +kernel
theorem dX7_learnText_109 : decode cX7_learnText 109 = .ok (.iastore, 1) := by decide +kernel
theorem dX7_learnText_110 : decode cX7_learnText 110 = .ok (.return_, 1) := by decide +kernel
theorem dX7_signOf_0 : decode cX7_signOf 0 = .ok (.iload_n 1, 1) := by decide +kernel
theorem dX7_signOf_1 : decode cX7_signOf 1 = .ok (.ifCond .lt 28, 3) := by decide +kernel
theorem dX7_signOf_4 : decode cX7_signOf 4 = .ok (.iload_n 1, 1) := by decide +kernel
theorem dX7_signOf_5 : decode cX7_signOf 5 = .ok (.iconst 3, 1) := by decide +kernel
theorem dX7_signOf_6 : decode cX7_signOf 6 = .ok (.if_icmp .ge 23, 3) := by decide +kernel
theorem dX7_signOf_9 : decode cX7_signOf 9 = .ok (.iload_n 2, 1) := by decide +kernel
theorem dX7_signOf_10 : decode cX7_signOf 10 = .ok (.ifCond .lt 19, 3) := by decide +kernel
theorem dX7_signOf_13 : decode cX7_signOf 13 = .ok (.iload_n 2, 1) := by decide +kernel
theorem dX7_signOf_14 : decode cX7_signOf 14 = .ok (.aload_n 0, 1) := by decide +kernel
theorem dX7_signOf_15 : decode cX7_signOf 15 = .ok (.getfield 15, 3) := by decide +kernel
theorem dX7_signOf_18 : decode cX7_signOf 18 = .ok (.iload_n 1, 1) := by decide +kernel
theorem dX7_signOf_19 : decode cX7_signOf 19 = .ok (.iaload, 1) := by decide +kernel
theorem dX7_signOf_20 : decode cX7_signOf 20 = .ok (.if_icmp .ge 9, 3) := by decide +kernel
theorem dX7_signOf_23 : decode cX7_signOf 23 = .ok (.iload_n 2, 1) := by decide +kernel
theorem dX7_signOf_24 : decode cX7_signOf 24 = .ok (.bipush 20, 2) := by decide +kernel
theorem dX7_signOf_26 : decode cX7_signOf 26 = .ok (.if_icmp .lt 6, 3) := by decide +kernel
theorem dX7_signOf_29 : decode cX7_signOf 29 = .ok (.ldc 34, 2) := by decide +kernel
theorem dX7_signOf_31 : decode cX7_signOf 31 = .ok (.ireturn, 1) := by decide +kernel
theorem dX7_signOf_32 : decode cX7_signOf 32 = .ok (.aload_n 0, 1) := by decide +kernel
theorem dX7_signOf_33 : decode cX7_signOf 33 = .ok (.getfield 18, 3) := by decide +kernel
theorem dX7_signOf_36 : decode cX7_signOf 36 = .ok (.iload_n 1, 1) := by decide +kernel
theorem dX7_signOf_37 : decode cX7_signOf 37 = .ok (.bipush 20, 2) := by decide +kernel
theorem dX7_signOf_39 : decode cX7_signOf 39 = .ok (.imul, 1) := by decide +kernel
theorem dX7_signOf_40 : decode cX7_signOf 40 = .ok (.iload_n 2, 1) := by decide +kernel
theorem dX7_signOf_41 : decode cX7_signOf 41 = .ok (.iadd, 1) := by decide +kernel
theorem dX7_signOf_42 : decode cX7_signOf 42 = .ok (.baload, 1) := by decide +kernel
theorem dX7_signOf_43 : decode cX7_signOf 43 = .ok (.ireturn, 1) := by decide +kernel
theorem dX7_tell_0 : decode cX7_tell 0 = .ok (.aload_n 2, 1) := by decide +kernel
theorem dX7_tell_1 : decode cX7_tell 1 = .ok (.invokevirtual 59, 3) := by decide +kernel
theorem dX7_tell_4 : decode cX7_tell 4 = .ok (.aload_n 2, 1) := by decide +kernel
theorem dX7_tell_5 : decode cX7_tell 5 = .ok (.iload_n 1, 1) := by decide +kernel
theorem dX7_tell_6 : decode cX7_tell 6 = .ok (.bipush 6, 2) := by decide +kernel
theorem dX7_tell_8 : decode cX7_tell 8 = .ok (.invokevirtual 62, 3) := by decide +kernel
theorem dX7_tell_11 : decode cX7_tell 11 = .ok (.aload_n 2, 1) := by decide +kernel
theorem dX7_tell_12 : decode cX7_tell 12 = .ok (.iconst 0, 1) := by decide +kernel
theorem dX7_tell_13 : decode cX7_tell 13 = .ok (.iconst 2, 1) := by decide +kernel
theorem dX7_tell_14 : decode cX7_tell 14 = .ok (.invokevirtual 62, 3) := by decide +kernel
theorem dX7_tell_17 : decode cX7_tell 17 = .ok (.aload_n 2, 1) := by decide +kernel
theorem dX7_tell_18 : decode cX7_tell 18 = .ok (.aload_n 0, 1) := by decide +kernel
theorem dX7_tell_19 : decode cX7_tell 19 = .ok (.getfield 11, 3) := by decide +kernel
theorem dX7_tell_22 : decode cX7_tell 22 = .ok (.iconst 0, 1) := by decide +kernel
theorem dX7_tell_23 : decode cX7_tell 23 = .ok (.iaload, 1) := by decide +kernel
theorem dX7_tell_24 : decode cX7_tell 24 = .ok (.bipush 30, 2) := by decide +kernel
theorem dX7_tell_26 : decode cX7_tell 26 = .ok (.invokevirtual 62, 3) := by decide +kernel
theorem dX7_tell_29 : decode cX7_tell 29 = .ok (.iload_n 1, 1) := by decide +kernel
theorem dX7_tell_30 : decode cX7_tell 30 = .ok (.invokestatic 41, 3) := by decide +kernel
theorem dX7_tell_33 : decode cX7_tell 33 = .ok (.astore_n 3, 1) := by decide +kernel
theorem dX7_tell_34 : decode cX7_tell 34 = .ok (.iconst 0, 1) := by decide +kernel
theorem dX7_tell_35 : decode cX7_tell 35 = .ok (.istore 4, 2) := by decide +kernel
theorem dX7_tell_37 : decode cX7_tell 37 = .ok (.iload 4, 2) := by decide +kernel
theorem dX7_tell_39 : decode cX7_tell 39 = .ok (.iconst 1, 1) := by decide +kernel
theorem dX7_tell_40 : decode cX7_tell 40 = .ok (.iadd, 1) := by decide +kernel
theorem dX7_tell_41 : decode cX7_tell 41 = .ok (.aload_n 3, 1) := by decide +kernel
theorem dX7_tell_42 : decode cX7_tell 42 = .ok (.arraylength, 1) := by decide +kernel
theorem dX7_tell_43 : decode cX7_tell 43 = .ok (.if_icmp .ge 101, 3) := by decide +kernel
theorem dX7_tell_46 : decode cX7_tell 46 = .ok (.aload_n 3, 1) := by decide +kernel
theorem dX7_tell_47 : decode cX7_tell 47 = .ok (.iload 4, 2) := by decide +kernel
theorem dX7_tell_49 : decode cX7_tell 49 = .ok (.iaload, 1) := by decide +kernel
theorem dX7_tell_50 : decode cX7_tell 50 = .ok (.istore 5, 2) := by decide +kernel
theorem dX7_tell_52 : decode cX7_tell 52 = .ok (.aload_n 3, 1) := by decide +kernel
theorem dX7_tell_53 : decode cX7_tell 53 = .ok (.iload 4, 2) := by decide +kernel
theorem dX7_tell_55 : decode cX7_tell 55 = .ok (.iconst 1, 1) := by decide +kernel
theorem dX7_tell_56 : decode cX7_tell 56 = .ok (.iadd, 1) := by decide +kernel
theorem dX7_tell_57 : decode cX7_tell 57 = .ok (.iaload, 1) := by decide +kernel
theorem dX7_tell_58 : decode cX7_tell 58 = .ok (.istore 6, 2) := by decide +kernel
theorem dX7_tell_60 : decode cX7_tell 60 = .ok (.iload 5, 2) := by decide +kernel
theorem dX7_tell_62 : decode cX7_tell 62 = .ok (.bipush 30, 2) := by decide +kernel
theorem dX7_tell_64 : decode cX7_tell 64 = .ok (.if_icmp .lt 21, 3) := by decide +kernel
theorem dX7_tell_67 : decode cX7_tell 67 = .ok (.aload_n 0, 1) := by decide +kernel
theorem dX7_tell_68 : decode cX7_tell 68 = .ok (.iload 5, 2) := by decide +kernel
theorem dX7_tell_70 : decode cX7_tell 70 = .ok (.bipush 30, 2) := by decide +kernel
theorem dX7_tell_72 : decode cX7_tell 72 = .ok (.isub, 1) := by decide +kernel
theorem dX7_tell_73 : decode cX7_tell 73 = .ok (.aload_n 2, 1) := by decide +kernel
theorem dX7_tell_74 : decode cX7_tell 74 = .ok (.iload 6, 2) := by decide +kernel
theorem dX7_tell_76 : decode cX7_tell 76 = .ok (.bipush 6, 2) := by decide +kernel
theorem dX7_tell_78 : decode cX7_tell 78 = .ok (.idiv, 1) := by decide +kernel
theorem dX7_tell_79 : decode cX7_tell 79 = .ok (.invokevirtual 66, 3) := by decide +kernel
theorem dX7_tell_82 : decode cX7_tell 82 = .ok (.goto 56, 3) := by decide +kernel
theorem dX7_tell_85 : decode cX7_tell 85 = .ok (.iload 5, 2) := by decide +kernel
theorem dX7_tell_87 : decode cX7_tell 87 = .ok (.ifCond .lt 26, 3) := by decide +kernel
theorem dX7_tell_90 : decode cX7_tell 90 = .ok (.iload 5, 2) := by decide +kernel
theorem dX7_tell_92 : decode cX7_tell 92 = .ok (.bipush 24, 2) := by decide +kernel
theorem dX7_tell_94 : decode cX7_tell 94 = .ok (.if_icmp .ge 19, 3) := by decide +kernel
theorem dX7_tell_97 : decode cX7_tell 97 = .ok (.aload_n 0, 1) := by decide +kernel
theorem dX7_tell_98 : decode cX7_tell 98 = .ok (.getfield 11, 3) := by decide +kernel
theorem dX7_tell_101 : decode cX7_tell 101 = .ok (.iload 5, 2) := by decide +kernel
theorem dX7_tell_103 : decode cX7_tell 103 = .ok (.iaload, 1) := by decide +kernel
theorem dX7_tell_104 : decode cX7_tell 104 = .ok (.ldc 34, 2) := by decide +kernel
theorem dX7_tell_106 : decode cX7_tell 106 = .ok (.if_icmp .eq 7, 3) := by decide +kernel
theorem dX7_tell_109 : decode cX7_tell 109 = .ok (.iconst 1, 1) := by decide +kernel
theorem dX7_tell_110 : decode cX7_tell 110 = .ok (.goto 4, 3) := by decide +kernel
theorem dX7_tell_113 : decode cX7_tell 113 = .ok (.iconst 0, 1) := by decide +kernel
theorem dX7_tell_114 : decode cX7_tell 114 = .ok (.istore 7, 2) := by decide +kernel
theorem dX7_tell_116 : decode cX7_tell 116 = .ok (.aload_n 2, 1) := by decide +kernel
theorem dX7_tell_117 : decode cX7_tell 117 = .ok (.iload 7, 2) := by decide +kernel
theorem dX7_tell_119 : decode cX7_tell 119 = .ok (.ifCond .eq 13, 3) := by decide +kernel
theorem dX7_tell_122 : decode cX7_tell 122 = .ok (.aload_n 0, 1) := by decide +kernel
theorem dX7_tell_123 : decode cX7_tell 123 = .ok (.getfield 11, 3) := by decide +kernel
theorem dX7_tell_126 : decode cX7_tell 126 = .ok (.iload 5, 2) := by decide +kernel
theorem dX7_tell_128 : decode cX7_tell 128 = .ok (.iaload, 1) := by decide +kernel
theorem dX7_tell_129 : decode cX7_tell 129 = .ok (.goto 4, 3) := by decide +kernel
theorem dX7_tell_132 : decode cX7_tell 132 = .ok (.iconst 0, 1) := by decide +kernel
theorem dX7_tell_133 : decode cX7_tell 133 = .ok (.iload 6, 2) := by decide +kernel
theorem dX7_tell_135 : decode cX7_tell 135 = .ok (.invokevirtual 62, 3) := by decide +kernel
theorem dX7_tell_138 : decode cX7_tell 138 = .ok (.iinc 4 2, 3) := by decide +kernel
theorem dX7_tell_141 : decode cX7_tell 141 = .ok (.goto (-104), 3) := by decide +kernel
theorem dX7_tell_144 : decode cX7_tell 144 = .ok (.return_, 1) := by decide +kernel
theorem dX7_tellText_0 : decode cX7_tellText 0 = .ok (.iconst 0, 1) := by decide +kernel
theorem dX7_tellText_1 : decode cX7_tellText 1 = .ok (.istore 4, 2) := by decide +kernel
theorem dX7_tellText_3 : decode cX7_tellText 3 = .ok (.iload 4, 2) := by decide +kernel
theorem dX7_tellText_5 : decode cX7_tellText 5 = .ok (.iload_n 3, 1) := by decide +kernel
theorem dX7_tellText_6 : decode cX7_tellText 6 = .ok (.if_icmp .ge 56, 3) := by decide +kernel
theorem dX7_tellText_9 : decode cX7_tellText 9 = .ok (.aload_n 0, 1) := by decide +kernel
theorem dX7_tellText_10 : decode cX7_tellText 10 = .ok (.iload_n 1, 1) := by decide +kernel
theorem dX7_tellText_11 : decode cX7_tellText 11 = .ok (.iload 4, 2) := by decide +kernel
theorem dX7_tellText_13 : decode cX7_tellText 13 = .ok (.invokevirtual 70, 3) := by decide +kernel
theorem dX7_tellText_16 : decode cX7_tellText 16 = .ok (.istore 5, 2) := by decide +kernel
theorem dX7_tellText_18 : decode cX7_tellText 18 = .ok (.iload 5, 2) := by decide +kernel
theorem dX7_tellText_20 : decode cX7_tellText 20 = .ok (.bipush 64, 2) := by decide +kernel
theorem dX7_tellText_22 : decode cX7_tellText 22 = .ok (.if_icmp .lt 11, 3) := by decide +kernel
theorem dX7_tellText_25 : decode cX7_tellText 25 = .ok (.iload 5, 2) := by decide +kernel
theorem dX7_tellText_27 : decode cX7_tellText 27 = .ok (.bipush 64, 2) := by decide +kernel
theorem dX7_tellText_29 : decode cX7_tellText 29 = .ok (.isub, 1) := by decide +kernel
theorem dX7_tellText_30 : decode cX7_tellText 30 = .ok (.goto 5, 3) := by decide +kernel
theorem dX7_tellText_33 : decode cX7_tellText 33 = .ok (.iload 5, 2) := by decide +kernel
theorem dX7_tellText_35 : decode cX7_tellText 35 = .ok (.istore 6, 2) := by decide +kernel
theorem dX7_tellText_37 : decode cX7_tellText 37 = .ok (.aload_n 2, 1) := by decide +kernel
theorem dX7_tellText_38 : decode cX7_tellText 38 = .ok (.iload 5, 2) := by decide +kernel
theorem dX7_tellText_40 : decode cX7_tellText 40 = .ok (.ldc 34, 2) := by decide +kernel
theorem dX7_tellText_42 : decode cX7_tellText 42 = .ok (.if_icmp .ne 7, 3) := by decide +kernel
theorem dX7_tellText_45 : decode cX7_tellText 45 = .ok (.iconst 0, 1) := by decide +kernel
theorem dX7_tellText_46 : decode cX7_tellText 46 = .ok (.goto 5, 3) := by decide +kernel
theorem dX7_tellText_49 : decode cX7_tellText 49 = .ok (.iload 6, 2) := by decide +kernel
theorem dX7_tellText_51 : decode cX7_tellText 51 = .ok (.bipush 6, 2) := by decide +kernel
theorem dX7_tellText_53 : decode cX7_tellText 53 = .ok (.invokevirtual 62, 3) := by decide +kernel
theorem dX7_tellText_56 : decode cX7_tellText 56 = .ok (.iinc 4 1, 3) := by decide +kernel
theorem dX7_tellText_59 : decode cX7_tellText 59 = .ok (.goto (-56), 3) := by decide +kernel
theorem dX7_tellText_62 : decode cX7_tellText 62 = .ok (.return_, 1) := by decide +kernel
theorem dX8_init_0 : decode cX8_init 0 = .ok (.aload_n 0, 1) := by decide +kernel
theorem dX8_init_1 : decode cX8_init 1 = .ok (.invokespecial 1, 3) := by decide +kernel
theorem dX8_init_4 : decode cX8_init 4 = .ok (.aload_n 0, 1) := by decide +kernel
theorem dX8_init_5 : decode cX8_init 5 = .ok (.bipush 9, 2) := by decide +kernel
theorem dX8_init_7 : decode cX8_init 7 = .ok (.newarray .int, 2) := by decide +kernel
theorem dX8_init_9 : decode cX8_init 9 = .ok (.putfield 9, 3) := by decide +kernel
theorem dX8_init_12 : decode cX8_init 12 = .ok (.aload_n 0, 1) := by decide +kernel
theorem dX8_init_13 : decode cX8_init 13 = .ok (.new 13, 3) := by decide +kernel
theorem dX8_init_16 : decode cX8_init 16 = .ok (.dup, 1) := by decide +kernel
theorem dX8_init_17 : decode cX8_init 17 = .ok (.sipush 2000, 3) := by decide +kernel
theorem dX8_init_20 : decode cX8_init 20 = .ok (.invokespecial 15, 3) := by decide +kernel
theorem dX8_init_23 : decode cX8_init 23 = .ok (.putfield 18, 3) := by decide +kernel
theorem dX8_init_26 : decode cX8_init 26 = .ok (.aload_n 0, 1) := by decide +kernel
theorem dX8_init_27 : decode cX8_init 27 = .ok (.new 13, 3) := by decide +kernel
theorem dX8_init_30 : decode cX8_init 30 = .ok (.dup, 1) := by decide +kernel
theorem dX8_init_31 : decode cX8_init 31 = .ok (.bipush 115, 2) := by decide +kernel
theorem dX8_init_33 : decode cX8_init 33 = .ok (.invokespecial 15, 3) := by decide +kernel
theorem dX8_init_36 : decode cX8_init 36 = .ok (.putfield 22, 3) := by decide +kernel
theorem dX8_init_39 : decode cX8_init 39 = .ok (.aload_n 0, 1) := by decide +kernel
theorem dX8_init_40 : decode cX8_init 40 = .ok (.new 25, 3) := by decide +kernel
theorem dX8_init_43 : decode cX8_init 43 = .ok (.dup, 1) := by decide +kernel
theorem dX8_init_44 : decode cX8_init 44 = .ok (.invokespecial 27, 3) := by decide +kernel
theorem dX8_init_47 : decode cX8_init 47 = .ok (.putfield 28, 3) := by decide +kernel
theorem dX8_init_50 : decode cX8_init 50 = .ok (.aload_n 0, 1) := by decide +kernel
theorem dX8_init_51 : decode cX8_init 51 = .ok (.new 32, 3) := by decide +kernel
theorem dX8_init_54 : decode cX8_init 54 = .ok (.dup, 1) := by decide +kernel
theorem dX8_init_55 : decode cX8_init 55 = .ok (.invokespecial 34, 3) := by decide +kernel
theorem dX8_init_58 : decode cX8_init 58 = .ok (.putfield 35, 3) := by decide +kernel
theorem dX8_init_61 : decode cX8_init 61 = .ok (.aload_n 0, 1) := by decide +kernel
theorem dX8_init_62 : decode cX8_init 62 = .ok (.new 39, 3) := by decide +kernel
theorem dX8_init_65 : decode cX8_init 65 = .ok (.dup, 1) := by decide +kernel
theorem dX8_init_66 : decode cX8_init 66 = .ok (.invokespecial 41, 3) := by decide +kernel
theorem dX8_init_69 : decode cX8_init 69 = .ok (.putfield 42, 3) := by decide +kernel
theorem dX8_init_72 : decode cX8_init 72 = .ok (.aload_n 0, 1) := by decide +kernel
theorem dX8_init_73 : decode cX8_init 73 = .ok (.new 46, 3) := by decide +kernel
theorem dX8_init_76 : decode cX8_init 76 = .ok (.dup, 1) := by decide +kernel
theorem dX8_init_77 : decode cX8_init 77 = .ok (.invokespecial 48, 3) := by decide +kernel
theorem dX8_init_80 : decode cX8_init 80 = .ok (.putfield 49, 3) := by decide +kernel
theorem dX8_init_83 : decode cX8_init 83 = .ok (.aload_n 0, 1) := by decide +kernel
theorem dX8_init_84 : decode cX8_init 84 = .ok (.new 53, 3) := by decide +kernel
theorem dX8_init_87 : decode cX8_init 87 = .ok (.dup, 1) := by decide +kernel
theorem dX8_init_88 : decode cX8_init 88 = .ok (.sipush 3240, 3) := by decide +kernel
theorem dX8_init_91 : decode cX8_init 91 = .ok (.invokespecial 55, 3) := by decide +kernel
theorem dX8_init_94 : decode cX8_init 94 = .ok (.putfield 56, 3) := by decide +kernel
theorem dX8_init_97 : decode cX8_init 97 = .ok (.aload_n 0, 1) := by decide +kernel
theorem dX8_init_98 : decode cX8_init 98 = .ok (.new 60, 3) := by decide +kernel
theorem dX8_init_101 : decode cX8_init 101 = .ok (.dup, 1) := by decide +kernel
theorem dX8_init_102 : decode cX8_init 102 = .ok (.invokespecial 62, 3) := by decide +kernel
theorem dX8_init_105 : decode cX8_init 105 = .ok (.putfield 63, 3) := by decide +kernel
theorem dX8_init_108 : decode cX8_init 108 = .ok (.aload_n 0, 1) := by decide +kernel
theorem dX8_init_109 : decode cX8_init 109 = .ok (.new 53, 3) := by decide +kernel
theorem dX8_init_112 : decode cX8_init 112 = .ok (.dup, 1) := by decide +kernel
theorem dX8_init_113 : decode cX8_init 113 = .ok (.sipush 424, 3) := by decide +kernel
theorem dX8_init_116 : decode cX8_init 116 = .ok (.invokespecial 55, 3) := by decide +kernel
theorem dX8_init_119 : decode cX8_init 119 = .ok (.putfield 67, 3) := by decide +kernel
theorem dX8_init_122 : decode cX8_init 122 = .ok (.return_, 1) := by decide +kernel
theorem dX8_feed_0 : decode cX8_feed 0 = .ok (.aload_n 0, 1) := by decide +kernel
theorem dX8_feed_1 : decode cX8_feed 1 = .ok (.getfield 18, 3) := by decide +kernel
theorem dX8_feed_4 : decode cX8_feed 4 = .ok (.bipush 20, 2) := by decide +kernel
theorem dX8_feed_6 : decode cX8_feed 6 = .ok (.invokevirtual 70, 3) := by decide +kernel
theorem dX8_feed_9 : decode cX8_feed 9 = .ok (.ifCond .ne 6, 3) := by decide +kernel
theorem dX8_feed_12 : decode cX8_feed 12 = .ok (.ldc 74, 2) := by decide +kernel
theorem dX8_feed_14 : decode cX8_feed 14 = .ok (.ireturn, 1) := by decide +kernel
theorem dX8_feed_15 : decode cX8_feed 15 = .ok (.aload_n 0, 1) := by decide +kernel
theorem dX8_feed_16 : decode cX8_feed 16 = .ok (.getfield 18, 3) := by decide +kernel
theorem dX8_feed_19 : decode cX8_feed 19 = .ok (.iload_n 1, 1) := by decide +kernel
theorem dX8_feed_20 : decode cX8_feed 20 = .ok (.invokevirtual 75, 3) := by decide +kernel
theorem dX8_feed_23 : decode cX8_feed 23 = .ok (.aload_n 0, 1) := by decide +kernel
theorem dX8_feed_24 : decode cX8_feed 24 = .ok (.getfield 18, 3) := by decide +kernel
theorem dX8_feed_27 : decode cX8_feed 27 = .ok (.iload_n 2, 1) := by decide +kernel
theorem dX8_feed_28 : decode cX8_feed 28 = .ok (.invokevirtual 75, 3) := by decide +kernel
theorem dX8_feed_31 : decode cX8_feed 31 = .ok (.aload_n 0, 1) := by decide +kernel
theorem dX8_feed_32 : decode cX8_feed 32 = .ok (.getfield 18, 3) := by decide +kernel
theorem dX8_feed_35 : decode cX8_feed 35 = .ok (.iload_n 3, 1) := by decide +kernel
theorem dX8_feed_36 : decode cX8_feed 36 = .ok (.invokevirtual 75, 3) := by decide +kernel
theorem dX8_feed_39 : decode cX8_feed 39 = .ok (.aload_n 0, 1) := by decide +kernel
theorem dX8_feed_40 : decode cX8_feed 40 = .ok (.getfield 18, 3) := by decide +kernel
theorem dX8_feed_43 : decode cX8_feed 43 = .ok (.iload 4, 2) := by decide +kernel
theorem dX8_feed_45 : decode cX8_feed 45 = .ok (.invokevirtual 75, 3) := by decide +kernel
theorem dX8_feed_48 : decode cX8_feed 48 = .ok (.aload_n 0, 1) := by decide +kernel
theorem dX8_feed_49 : decode cX8_feed 49 = .ok (.getfield 18, 3) := by decide +kernel
theorem dX8_feed_52 : decode cX8_feed 52 = .ok (.iload 5, 2) := by decide +kernel
theorem dX8_feed_54 : decode cX8_feed 54 = .ok (.invokevirtual 75, 3) := by decide +kernel
theorem dX8_feed_57 : decode cX8_feed 57 = .ok (.aload_n 0, 1) := by decide +kernel
theorem dX8_feed_58 : decode cX8_feed 58 = .ok (.getfield 18, 3) := by decide +kernel
theorem dX8_feed_61 : decode cX8_feed 61 = .ok (.getfield 78, 3) := by decide +kernel
theorem dX8_feed_64 : decode cX8_feed 64 = .ok (.ireturn, 1) := by decide +kernel
theorem dX8_end_0 : decode cX8_end 0 = .ok (.iload_n 1, 1) := by decide +kernel
theorem dX8_end_1 : decode cX8_end 1 = .ok (.ifCond .lt 14, 3) := by decide +kernel
theorem dX8_end_4 : decode cX8_end 4 = .ok (.iload_n 1, 1) := by decide +kernel
theorem dX8_end_5 : decode cX8_end 5 = .ok (.aload_n 0, 1) := by decide +kernel
theorem dX8_end_6 : decode cX8_end 6 = .ok (.getfield 18, 3) := by decide +kernel
theorem dX8_end_9 : decode cX8_end 9 = .ok (.getfield 78, 3) := by decide +kernel
theorem dX8_end_12 : decode cX8_end 12 = .ok (.if_icmp .le 5, 3) := by decide +kernel
theorem dX8_end_15 : decode cX8_end 15 = .ok (.iconst 0, 1) := by decide +kernel
theorem dX8_end_16 : decode cX8_end 16 = .ok (.ireturn, 1) := by decide +kernel
theorem dX8_end_17 : decode cX8_end 17 = .ok (.aload_n 0, 1) := by decide +kernel
theorem dX8_end_18 : decode cX8_end 18 = .ok (.getfield 18, 3) := by decide +kernel
theorem dX8_end_21 : decode cX8_end 21 = .ok (.iload_n 1, 1) := by decide +kernel
theorem dX8_end_22 : decode cX8_end 22 = .ok (.putfield 78, 3) := by decide +kernel
theorem dX8_end_25 : decode cX8_end 25 = .ok (.iconst 1, 1) := by decide +kernel
theorem dX8_end_26 : decode cX8_end 26 = .ok (.ireturn, 1) := by decide +kernel
theorem dX8_stream_0 : decode cX8_stream 0 = .ok (.aload_n 0, 1) := by decide +kernel
theorem dX8_stream_1 : decode cX8_stream 1 = .ok (.getfield 9, 3) := by decide +kernel
theorem dX8_stream_4 : decode cX8_stream 4 = .ok (.iconst 0, 1) := by decide +kernel
theorem dX8_stream_5 : decode cX8_stream 5 = .ok (.iaload, 1) := by decide +kernel
theorem dX8_stream_6 : decode cX8_stream 6 = .ok (.istore_n 1, 1) := by decide +kernel
theorem dX8_stream_7 : decode cX8_stream 7 = .ok (.iconst 0, 1) := by decide +kernel
theorem dX8_stream_8 : decode cX8_stream 8 = .ok (.istore_n 2, 1) := by decide +kernel
theorem dX8_stream_9 : decode cX8_stream 9 = .ok (.iload_n 2, 1) := by decide +kernel
theorem dX8_stream_10 : decode cX8_stream 10 = .ok (.aload_n 0, 1) := by decide +kernel
theorem dX8_stream_11 : decode cX8_stream 11 = .ok (.getfield 18, 3) := by decide +kernel
theorem dX8_stream_14 : decode cX8_stream 14 = .ok (.getfield 78, 3) := by decide +kernel
theorem dX8_stream_17 : decode cX8_stream 17 = .ok (.if_icmp .ge 65, 3) := by decide +kernel
theorem dX8_stream_20 : decode cX8_stream 20 = .ok (.aload_n 0, 1) := by decide +kernel
theorem dX8_stream_21 : decode cX8_stream 21 = .ok (.getfield 28, 3) := by decide +kernel
theorem dX8_stream_24 : decode cX8_stream 24 = .ok (.aload_n 0, 1) := by decide +kernel
theorem dX8_stream_25 : decode cX8_stream 25 = .ok (.getfield 18, 3) := by decide +kernel
theorem dX8_stream_28 : decode cX8_stream 28 = .ok (.iload_n 2, 1) := by decide +kernel
theorem dX8_stream_29 : decode cX8_stream 29 = .ok (.invokevirtual 82, 3) := by decide +kernel
theorem dX8_stream_32 : decode cX8_stream 32 = .ok (.invokevirtual 86, 3) := by decide +kernel
theorem dX8_stream_35 : decode cX8_stream 35 = .ok (.istore_n 3, 1) := by decide +kernel
theorem dX8_stream_36 : decode cX8_stream 36 = .ok (.iload_n 3, 1) := by decide +kernel
theorem dX8_stream_37 : decode cX8_stream 37 = .ok (.iconst 1, 1) := by decide +kernel
theorem dX8_stream_38 : decode cX8_stream 38 = .ok (.if_icmp .ne 16, 3) := by decide +kernel
theorem dX8_stream_41 : decode cX8_stream 41 = .ok (.aload_n 0, 1) := by decide +kernel
theorem dX8_stream_42 : decode cX8_stream 42 = .ok (.getfield 9, 3) := by decide +kernel
theorem dX8_stream_45 : decode cX8_stream 45 = .ok (.iconst 1, 1) := by decide +kernel
theorem dX8_stream_46 : decode cX8_stream 46 = .ok (.dup2, 1) := by decide +kernel
theorem dX8_stream_47 : decode cX8_stream 47 = .ok (.iaload, 1) := by decide +kernel
theorem dX8_stream_48 : decode cX8_stream 48 = .ok (.iconst 1, 1) := by decide +kernel
theorem dX8_stream_49 : decode cX8_stream 49 = .ok (.iadd, 1) := by decide +kernel
theorem dX8_stream_50 : decode cX8_stream 50 = .ok (.iastore, 1) := by decide +kernel
theorem dX8_stream_51 : decode cX8_stream 51 = .ok (.goto 25, 3) := by decide +kernel
theorem dX8_stream_54 : decode cX8_stream 54 = .ok (.iload_n 3, 1) := by decide +kernel
theorem dX8_stream_55 : decode cX8_stream 55 = .ok (.iconst 2, 1) := by decide +kernel
theorem dX8_stream_56 : decode cX8_stream 56 = .ok (.if_icmp .ne 20, 3) := by decide +kernel
theorem dX8_stream_59 : decode cX8_stream 59 = .ok (.aload_n 0, 1) := by decide +kernel
theorem dX8_stream_60 : decode cX8_stream 60 = .ok (.invokevirtual 89, 3) := by decide +kernel
theorem dX8_stream_63 : decode cX8_stream 63 = .ok (.istore 4, 2) := by decide +kernel
theorem dX8_stream_65 : decode cX8_stream 65 = .ok (.aload_n 0, 1) := by decide +kernel
theorem dX8_stream_66 : decode cX8_stream 66 = .ok (.getfield 9, 3) := by decide +kernel
theorem dX8_stream_69 : decode cX8_stream 69 = .ok (.iload 4, 2) := by decide +kernel
theorem dX8_stream_71 : decode cX8_stream 71 = .ok (.dup2, 1) := by decide +kernel
theorem dX8_stream_72 : decode cX8_stream 72 = .ok (.iaload, 1) := by decide +kernel
theorem dX8_stream_73 : decode cX8_stream 73 = .ok (.iconst 1, 1) := by decide +kernel
theorem dX8_stream_74 : decode cX8_stream 74 = .ok (.iadd, 1) := by decide +kernel
theorem dX8_stream_75 : decode cX8_stream 75 = .ok (.iastore, 1) := by decide +kernel
theorem dX8_stream_76 : decode cX8_stream 76 = .ok (.iinc 2 1, 3) := by decide +kernel
theorem dX8_stream_79 : decode cX8_stream 79 = .ok (.goto (-70), 3) := by decide +kernel
theorem dX8_stream_82 : decode cX8_stream 82 = .ok (.aload_n 0, 1) := by decide +kernel
theorem dX8_stream_83 : decode cX8_stream 83 = .ok (.getfield 18, 3) := by decide +kernel
theorem dX8_stream_86 : decode cX8_stream 86 = .ok (.iconst 0, 1) := by decide +kernel
theorem dX8_stream_87 : decode cX8_stream 87 = .ok (.putfield 78, 3) := by decide +kernel
theorem dX8_stream_90 : decode cX8_stream 90 = .ok (.aload_n 0, 1) := by decide +kernel
theorem dX8_stream_91 : decode cX8_stream 91 = .ok (.getfield 9, 3) := by decide +kernel
theorem dX8_stream_94 : decode cX8_stream 94 = .ok (.iconst 0, 1) := by decide +kernel
theorem dX8_stream_95 : decode cX8_stream 95 = .ok (.iaload, 1) := by decide +kernel
theorem dX8_stream_96 : decode cX8_stream 96 = .ok (.iload_n 1, 1) := by decide +kernel
theorem dX8_stream_97 : decode cX8_stream 97 = .ok (.isub, 1) := by decide +kernel
theorem dX8_stream_98 : decode cX8_stream 98 = .ok (.ireturn, 1) := by decide +kernel
theorem dX8_count_0 : decode cX8_count 0 = .ok (.iload_n 1, 1) := by decide +kernel
theorem dX8_count_1 : decode cX8_count 1 = .ok (.ifCond .lt 16, 3) := by decide +kernel
theorem dX8_count_4 : decode cX8_count 4 = .ok (.iload_n 1, 1) := by decide +kernel
theorem dX8_count_5 : decode cX8_count 5 = .ok (.bipush 9, 2) := by decide +kernel
theorem dX8_count_7 : decode cX8_count 7 = .ok (.if_icmp .ge 10, 3) := by decide +kernel
theorem dX8_count_10 : decode cX8_count 10 = .ok (.aload_n 0, 1) := by decide +kernel
theorem dX8_count_11 : decode cX8_count 11 = .ok (.getfield 9, 3) := by decide +kernel
theorem dX8_count_14 : decode cX8_count 14 = .ok (.iload_n 1, 1) := by decide +kernel
theorem dX8_count_15 : decode cX8_count 15 = .ok (.iaload, 1) := by decide +kernel
theorem dX8_count_16 : decode cX8_count 16 = .ok (.ireturn, 1) := by decide +kernel
theorem dX8_count_17 : decode cX8_count 17 = .ok (.iload_n 1, 1) := by decide +kernel
theorem dX8_count_18 : decode cX8_count 18 = .ok (.tableswitch 74 9 13 #[34, 42, 50, 58, 66], 34) := by decide +kernel
theorem dX8_count_52 : decode cX8_count 52 = .ok (.aload_n 0, 1) := by decide +kernel
theorem dX8_count_53 : decode cX8_count 53 = .ok (.getfield 63, 3) := by decide +kernel
theorem dX8_count_56 : decode cX8_count 56 = .ok (.getfield 93, 3) := by decide +kernel
theorem dX8_count_59 : decode cX8_count 59 = .ok (.ireturn, 1) := by decide +kernel
theorem dX8_count_60 : decode cX8_count 60 = .ok (.aload_n 0, 1) := by decide +kernel
theorem dX8_count_61 : decode cX8_count 61 = .ok (.getfield 18, 3) := by decide +kernel
theorem dX8_count_64 : decode cX8_count 64 = .ok (.getfield 78, 3) := by decide +kernel
theorem dX8_count_67 : decode cX8_count 67 = .ok (.ireturn, 1) := by decide +kernel
theorem dX8_count_68 : decode cX8_count 68 = .ok (.aload_n 0, 1) := by decide +kernel
theorem dX8_count_69 : decode cX8_count 69 = .ok (.getfield 22, 3) := by decide +kernel
theorem dX8_count_72 : decode cX8_count 72 = .ok (.getfield 78, 3) := by decide +kernel
theorem dX8_count_75 : decode cX8_count 75 = .ok (.ireturn, 1) := by decide +kernel
theorem dX8_count_76 : decode cX8_count 76 = .ok (.aload_n 0, 1) := by decide +kernel
theorem dX8_count_77 : decode cX8_count 77 = .ok (.getfield 28, 3) := by decide +kernel
theorem dX8_count_80 : decode cX8_count 80 = .ok (.invokevirtual 94, 3) := by decide +kernel
theorem dX8_count_83 : decode cX8_count 83 = .ok (.ireturn, 1) := by decide +kernel
theorem dX8_count_84 : decode cX8_count 84 = .ok (.aload_n 0, 1) := by decide +kernel
theorem dX8_count_85 : decode cX8_count 85 = .ok (.getfield 49, 3) := by decide +kernel
theorem dX8_count_88 : decode cX8_count 88 = .ok (.invokevirtual 97, 3) := by decide +kernel
theorem dX8_count_91 : decode cX8_count 91 = .ok (.ireturn, 1) := by decide +kernel
theorem dX8_count_92 : decode cX8_count 92 = .ok (.ldc 74, 2) := by decide +kernel
theorem dX8_count_94 : decode cX8_count 94 = .ok (.ireturn, 1) := by decide +kernel
theorem dX8_fix_0 : decode cX8_fix 0 = .ok (.iload_n 1, 1) := by decide +kernel
theorem dX8_fix_1 : decode cX8_fix 1 = .ok (.ifCond .lt 9, 3) := by decide +kernel
theorem dX8_fix_4 : decode cX8_fix 4 = .ok (.iload_n 1, 1) := by decide +kernel
theorem dX8_fix_5 : decode cX8_fix 5 = .ok (.bipush 18, 2) := by decide +kernel
theorem dX8_fix_7 : decode cX8_fix 7 = .ok (.if_icmp .lt 13, 3) := by decide +kernel
theorem dX8_fix_10 : decode cX8_fix 10 = .ok (.new 100, 3) := by decide +kernel
theorem dX8_fix_13 : decode cX8_fix 13 = .ok (.dup, 1) := by decide +kernel
theorem dX8_fix_14 : decode cX8_fix 14 = .ok (.ldc 102, 2) := by decide +kernel
theorem dX8_fix_16 : decode cX8_fix 16 = .ok (.invokespecial 104, 3) := by decide +kernel
theorem dX8_fix_19 : decode cX8_fix 19 = .ok (.athrow, 1) := by decide +kernel
theorem dX8_fix_20 : decode cX8_fix 20 = .ok (.aload_n 0, 1) := by decide +kernel
theorem dX8_fix_21 : decode cX8_fix 21 = .ok (.getfield 42, 3) := by decide +kernel
theorem dX8_fix_24 : decode cX8_fix 24 = .ok (.getfield 107, 3) := by decide +kernel
theorem dX8_fix_27 : decode cX8_fix 27 = .ok (.iload_n 1, 1) := by decide +kernel
theorem dX8_fix_28 : decode cX8_fix 28 = .ok (.iaload, 1) := by decide +kernel
theorem dX8_fix_29 : decode cX8_fix 29 = .ok (.ireturn, 1) := by decide +kernel
theorem dX8_find_0 : decode cX8_find 0 = .ok (.aload_n 0, 1) := by decide +kernel
theorem dX8_find_1 : decode cX8_find 1 = .ok (.getfield 63, 3) := by decide +kernel
theorem dX8_find_4 : decode cX8_find 4 = .ok (.iload_n 1, 1) := by decide +kernel
theorem dX8_find_5 : decode cX8_find 5 = .ok (.invokevirtual 110, 3) := by decide +kernel
theorem dX8_find_8 : decode cX8_find 8 = .ok (.ireturn, 1) := by decide +kernel
theorem dX8_vessel_0 : decode cX8_vessel 0 = .ok (.aload_n 0, 1) := by decide +kernel
theorem dX8_vessel_1 : decode cX8_vessel 1 = .ok (.getfield 63, 3) := by decide +kernel
theorem dX8_vessel_4 : decode cX8_vessel 4 = .ok (.iload_n 1, 1) := by decide +kernel
theorem dX8_vessel_5 : decode cX8_vessel 5 = .ok (.invokevirtual 113, 3) := by decide +kernel
theorem dX8_vessel_8 : decode cX8_vessel 8 = .ok (.astore_n 3, 1) := by decide +kernel
theorem dX8_vessel_9 : decode cX8_vessel 9 = .ok (.aload_n 3, 1) := by decide +kernel
theorem dX8_vessel_10 : decode cX8_vessel 10 = .ok (.ifnonnull 13, 3) := by decide +kernel
theorem dX8_vessel_13 : decode cX8_vessel 13 = .ok (.new 100, 3) := by decide +kernel
theorem dX8_vessel_16 : decode cX8_vessel 16 = .ok (.dup, 1) := by decide +kernel
theorem dX8_vessel_17 : decode cX8_vessel 17 = .ok (.ldc 116, 2) := by decide +kernel
theorem dX8_vessel_19 : decode cX8_vessel 19 = .ok (.invokespecial 104, 3) := by decide +kernel
theorem dX8_vessel_22 : decode cX8_vessel 22 = .ok (.athrow, 1) := by decide +kernel
theorem dX8_vessel_23 : decode cX8_vessel 23 = .ok (.iload_n 2, 1) := by decide +kernel
theorem dX8_vessel_24 : decode cX8_vessel 24 = .ok (.ifCond .lt 16, 3) := by decide +kernel
theorem dX8_vessel_27 : decode cX8_vessel 27 = .ok (.iload_n 2, 1) := by decide +kernel
theorem dX8_vessel_28 : decode cX8_vessel 28 = .ok (.bipush 24, 2) := by decide +kernel
theorem dX8_vessel_30 : decode cX8_vessel 30 = .ok (.if_icmp .ge 10, 3) := by decide +kernel
theorem dX8_vessel_33 : decode cX8_vessel 33 = .ok (.aload_n 3, 1) := by decide +kernel
theorem dX8_vessel_34 : decode cX8_vessel 34 = .ok (.getfield 120, 3) := by decide +kernel
theorem dX8_vessel_37 : decode cX8_vessel 37 = .ok (.iload_n 2, 1) := by decide +kernel
theorem dX8_vessel_38 : decode cX8_vessel 38 = .ok (.iaload, 1) := by decide +kernel
theorem dX8_vessel_39 : decode cX8_vessel 39 = .ok (.ireturn, 1) := by decide +kernel
theorem dX8_vessel_40 : decode cX8_vessel 40 = .ok (.iload_n 2, 1) := by decide +kernel
theorem dX8_vessel_41 : decode cX8_vessel 41 = .ok (.bipush 30, 2) := by decide +kernel
theorem dX8_vessel_43 : decode cX8_vessel 43 = .ok (.if_icmp .lt 9, 3) := by decide +kernel
theorem dX8_vessel_46 : decode cX8_vessel 46 = .ok (.iload_n 2, 1) := by decide +kernel
theorem dX8_vessel_47 : decode cX8_vessel 47 = .ok (.bipush 32, 2) := by decide +kernel
theorem dX8_vessel_49 : decode cX8_vessel 49 = .ok (.if_icmp .le 13, 3) := by decide +kernel
theorem dX8_vessel_52 : decode cX8_vessel 52 = .ok (.new 100, 3) := by decide +kernel
theorem dX8_vessel_55 : decode cX8_vessel 55 = .ok (.dup, 1) := by decide +kernel
theorem dX8_vessel_56 : decode cX8_vessel 56 = .ok (.ldc 123, 2) := by decide +kernel
theorem dX8_vessel_58 : decode cX8_vessel 58 = .ok (.invokespecial 104, 3) := by decide +kernel
theorem dX8_vessel_61 : decode cX8_vessel 61 = .ok (.athrow, 1) := by decide +kernel
theorem dX8_vessel_62 : decode cX8_vessel 62 = .ok (.aload_n 3, 1) := by decide +kernel
theorem dX8_vessel_63 : decode cX8_vessel 63 = .ok (.getfield 125, 3) := by decide +kernel
theorem dX8_vessel_66 : decode cX8_vessel 66 = .ok (.iload_n 2, 1) := by decide +kernel
theorem dX8_vessel_67 : decode cX8_vessel 67 = .ok (.bipush 30, 2) := by decide +kernel
theorem dX8_vessel_69 : decode cX8_vessel 69 = .ok (.isub, 1) := by decide +kernel
theorem dX8_vessel_70 : decode cX8_vessel 70 = .ok (.iaload, 1) := by decide +kernel
theorem dX8_vessel_71 : decode cX8_vessel 71 = .ok (.ireturn, 1) := by decide +kernel
theorem dX8_letter_0 : decode cX8_letter 0 = .ok (.aload_n 0, 1) := by decide +kernel
theorem dX8_letter_1 : decode cX8_letter 1 = .ok (.getfield 63, 3) := by decide +kernel
theorem dX8_letter_4 : decode cX8_letter 4 = .ok (.iload_n 1, 1) := by decide +kernel
theorem dX8_letter_5 : decode cX8_letter 5 = .ok (.invokevirtual 113, 3) := by decide +kernel
theorem dX8_letter_8 : decode cX8_letter 8 = .ok (.astore 4, 2) := by decide +kernel
theorem dX8_letter_10 : decode cX8_letter 10 = .ok (.aload 4, 2) := by decide +kernel
theorem dX8_letter_12 : decode cX8_letter 12 = .ok (.ifnonnull 8, 3) := by decide +kernel
theorem dX8_letter_15 : decode cX8_letter 15 = .ok (.ldc 74, 2) := by decide +kernel
theorem dX8_letter_17 : decode cX8_letter 17 = .ok (.goto 10, 3) := by decide +kernel
theorem dX8_letter_20 : decode cX8_letter 20 = .ok (.aload 4, 2) := by decide +kernel
theorem dX8_letter_22 : decode cX8_letter 22 = .ok (.iload_n 2, 1) := by decide +kernel
theorem dX8_letter_23 : decode cX8_letter 23 = .ok (.iload_n 3, 1) := by decide +kernel
theorem dX8_letter_24 : decode cX8_letter 24 = .ok (.invokevirtual 128, 3) := by decide +kernel
theorem dX8_letter_27 : decode cX8_letter 27 = .ok (.ireturn, 1) := by decide +kernel
theorem dX8_bits_0 : decode cX8_bits 0 = .ok (.iload_n 2, 1) := by decide +kernel
theorem dX8_bits_1 : decode cX8_bits 1 = .ok (.iconst 1, 1) := by decide +kernel
theorem dX8_bits_2 : decode cX8_bits 2 = .ok (.if_icmp .lt 26, 3) := by decide +kernel
theorem dX8_bits_5 : decode cX8_bits 5 = .ok (.iload_n 2, 1) := by decide +kernel
theorem dX8_bits_6 : decode cX8_bits 6 = .ok (.bipush 32, 2) := by decide +kernel
theorem dX8_bits_8 : decode cX8_bits 8 = .ok (.if_icmp .gt 20, 3) := by decide +kernel
theorem dX8_bits_11 : decode cX8_bits 11 = .ok (.iload_n 1, 1) := by decide +kernel
theorem dX8_bits_12 : decode cX8_bits 12 = .ok (.ifCond .lt 16, 3) := by decide +kernel
theorem dX8_bits_15 : decode cX8_bits 15 = .ok (.iload_n 1, 1) := by decide +kernel
theorem dX8_bits_16 : decode cX8_bits 16 = .ok (.aload_n 0, 1) := by decide +kernel
theorem dX8_bits_17 : decode cX8_bits 17 = .ok (.getfield 56, 3) := by decide +kernel
theorem dX8_bits_20 : decode cX8_bits 20 = .ok (.getfield 132, 3) := by decide +kernel
theorem dX8_bits_23 : decode cX8_bits 23 = .ok (.iload_n 2, 1) := by decide +kernel
theorem dX8_bits_24 : decode cX8_bits 24 = .ok (.isub, 1) := by decide +kernel
theorem dX8_bits_25 : decode cX8_bits 25 = .ok (.if_icmp .le 13, 3) := by decide +kernel
theorem dX8_bits_28 : decode cX8_bits 28 = .ok (.new 100, 3) := by decide +kernel
theorem dX8_bits_31 : decode cX8_bits 31 = .ok (.dup, 1) := by decide +kernel
theorem dX8_bits_32 : decode cX8_bits 32 = .ok (.ldc 135, 2) := by decide +kernel
theorem dX8_bits_34 : decode cX8_bits 34 = .ok (.invokespecial 104, 3) := by decide +kernel
theorem dX8_bits_37 : decode cX8_bits 37 = .ok (.athrow, 1) := by decide +kernel
theorem dX8_bits_38 : decode cX8_bits 38 = .ok (.aload_n 0, 1) := by decide +kernel
theorem dX8_bits_39 : decode cX8_bits 39 = .ok (.getfield 56, 3) := by decide +kernel
theorem dX8_bits_42 : decode cX8_bits 42 = .ok (.iload_n 1, 1) := by decide +kernel
theorem dX8_bits_43 : decode cX8_bits 43 = .ok (.iload_n 2, 1) := by decide +kernel
theorem dX8_bits_44 : decode cX8_bits 44 = .ok (.invokevirtual 137, 3) := by decide +kernel
theorem dX8_bits_47 : decode cX8_bits 47 = .ok (.ireturn, 1) := by decide +kernel
theorem dX8_send_0 : decode cX8_send 0 = .ok (.aload_n 0, 1) := by decide +kernel
theorem dX8_send_1 : decode cX8_send 1 = .ok (.getfield 63, 3) := by decide +kernel
theorem dX8_send_4 : decode cX8_send 4 = .ok (.iload_n 1, 1) := by decide +kernel
theorem dX8_send_5 : decode cX8_send 5 = .ok (.invokevirtual 113, 3) := by decide +kernel
theorem dX8_send_8 : decode cX8_send 8 = .ok (.astore 4, 2) := by decide +kernel
theorem dX8_send_10 : decode cX8_send 10 = .ok (.aload 4, 2) := by decide +kernel
theorem dX8_send_12 : decode cX8_send 12 = .ok (.ifnonnull 13, 3) := by decide +kernel
theorem dX8_send_15 : decode cX8_send 15 = .ok (.new 100, 3) := by decide +kernel
theorem dX8_send_18 : decode cX8_send 18 = .ok (.dup, 1) := by decide +kernel
theorem dX8_send_19 : decode cX8_send 19 = .ok (.ldc 116, 2) := by decide +kernel
theorem dX8_send_21 : decode cX8_send 21 = .ok (.invokespecial 104, 3) := by decide +kernel
theorem dX8_send_24 : decode cX8_send 24 = .ok (.athrow, 1) := by decide +kernel
theorem dX8_send_25 : decode cX8_send 25 = .ok (.iload_n 2, 1) := by decide +kernel
theorem dX8_send_26 : decode cX8_send 26 = .ok (.iconst 1, 1) := by decide +kernel
theorem dX8_send_27 : decode cX8_send 27 = .ok (.if_icmp .eq 24, 3) := by decide +kernel
theorem dX8_send_30 : decode cX8_send 30 = .ok (.iload_n 2, 1) := by decide +kernel
theorem dX8_send_31 : decode cX8_send 31 = .ok (.iconst 5, 1) := by decide +kernel
theorem dX8_send_32 : decode cX8_send 32 = .ok (.if_icmp .eq 19, 3) := by decide +kernel
theorem dX8_send_35 : decode cX8_send 35 = .ok (.iload_n 2, 1) := by decide +kernel
theorem dX8_send_36 : decode cX8_send 36 = .ok (.bipush 18, 2) := by decide +kernel
theorem dX8_send_38 : decode cX8_send 38 = .ok (.if_icmp .eq 13, 3) := by decide +kernel
theorem dX8_send_41 : decode cX8_send 41 = .ok (.new 140, 3) := by decide +kernel
theorem dX8_send_44 : decode cX8_send 44 = .ok (.dup, 1) := by decide +kernel
theorem dX8_send_45 : decode cX8_send 45 = .ok (.ldc 142, 2) := by decide +kernel
theorem dX8_send_47 : decode cX8_send 47 = .ok (.invokespecial 144, 3) := by decide +kernel
theorem dX8_send_50 : decode cX8_send 50 = .ok (.athrow, 1) := by decide +kernel
theorem dX8_send_51 : decode cX8_send 51 = .ok (.iload_n 2, 1) := by decide +kernel
theorem dX8_send_52 : decode cX8_send 52 = .ok (.iconst 5, 1) := by decide +kernel
theorem dX8_send_53 : decode cX8_send 53 = .ok (.if_icmp .ne 23, 3) := by decide +kernel
theorem dX8_send_56 : decode cX8_send 56 = .ok (.iload_n 3, 1) := by decide +kernel
theorem dX8_send_57 : decode cX8_send 57 = .ok (.ifCond .lt 9, 3) := by decide +kernel
theorem dX8_send_60 : decode cX8_send 60 = .ok (.iload_n 3, 1) := by decide +kernel
theorem dX8_send_61 : decode cX8_send 61 = .ok (.bipush 9, 2) := by decide +kernel
theorem dX8_send_63 : decode cX8_send 63 = .ok (.if_icmp .le 13, 3) := by decide +kernel
theorem dX8_send_66 : decode cX8_send 66 = .ok (.new 140, 3) := by decide +kernel
theorem dX8_send_69 : decode cX8_send 69 = .ok (.dup, 1) := by decide +kernel
theorem dX8_send_70 : decode cX8_send 70 = .ok (.ldc 145, 2) := by decide +kernel
theorem dX8_send_72 : decode cX8_send 72 = .ok (.invokespecial 144, 3) := by decide +kernel
theorem dX8_send_75 : decode cX8_send 75 = .ok (.athrow, 1) := by decide +kernel
theorem dX8_send_76 : decode cX8_send 76 = .ok (.aload 4, 2) := by decide +kernel
theorem dX8_send_78 : decode cX8_send 78 = .ok (.iload_n 2, 1) := by decide +kernel
theorem dX8_send_79 : decode cX8_send 79 = .ok (.aload_n 0, 1) := by decide +kernel
theorem dX8_send_80 : decode cX8_send 80 = .ok (.getfield 67, 3) := by decide +kernel
theorem dX8_send_83 : decode cX8_send 83 = .ok (.invokevirtual 147, 3) := by decide +kernel
theorem dX8_send_86 : decode cX8_send 86 = .ok (.aload_n 0, 1) := by decide +kernel
theorem dX8_send_87 : decode cX8_send 87 = .ok (.getfield 22, 3) := by decide +kernel
theorem dX8_send_90 : decode cX8_send 90 = .ok (.iconst 0, 1) := by decide +kernel
theorem dX8_send_91 : decode cX8_send 91 = .ok (.putfield 78, 3) := by decide +kernel
theorem dX8_send_94 : decode cX8_send 94 = .ok (.aload_n 0, 1) := by decide +kernel
theorem dX8_send_95 : decode cX8_send 95 = .ok (.getfield 67, 3) := by decide +kernel
theorem dX8_send_98 : decode cX8_send 98 = .ok (.getfield 132, 3) := by decide +kernel
theorem dX8_send_101 : decode cX8_send 101 = .ok (.iconst 5, 1) := by decide +kernel
theorem dX8_send_102 : decode cX8_send 102 = .ok (.iadd, 1) := by decide +kernel
theorem dX8_send_103 : decode cX8_send 103 = .ok (.bipush 6, 2) := by decide +kernel
theorem dX8_send_105 : decode cX8_send 105 = .ok (.idiv, 1) := by decide +kernel
theorem dX8_send_106 : decode cX8_send 106 = .ok (.istore 5, 2) := by decide +kernel
theorem dX8_send_108 : decode cX8_send 108 = .ok (.iload_n 2, 1) := by decide +kernel
theorem dX8_send_109 : decode cX8_send 109 = .ok (.iconst 5, 1) := by decide +kernel
theorem dX8_send_110 : decode cX8_send 110 = .ok (.if_icmp .ne 27, 3) := by decide +kernel
theorem dX8_send_113 : decode cX8_send 113 = .ok (.aload_n 0, 1) := by decide +kernel
theorem dX8_send_114 : decode cX8_send 114 = .ok (.ldc 151, 2) := by decide +kernel
theorem dX8_send_116 : decode cX8_send 116 = .ok (.iload_n 3, 1) := by decide +kernel
theorem dX8_send_117 : decode cX8_send 117 = .ok (.iconst 0, 1) := by decide +kernel
theorem dX8_send_118 : decode cX8_send 118 = .ok (.bipush 60, 2) := by decide +kernel
theorem dX8_send_120 : decode cX8_send 120 = .ok (.invokevirtual 153, 3) := by decide +kernel
theorem dX8_send_123 : decode cX8_send 123 = .ok (.aload_n 0, 1) := by decide +kernel
theorem dX8_send_124 : decode cX8_send 124 = .ok (.ldc 157, 2) := by decide +kernel
theorem dX8_send_126 : decode cX8_send 126 = .ok (.iload_n 3, 1) := by decide +kernel
theorem dX8_send_127 : decode cX8_send 127 = .ok (.bipush 60, 2) := by decide +kernel
theorem dX8_send_129 : decode cX8_send 129 = .ok (.iload 5, 2) := by decide +kernel
theorem dX8_send_131 : decode cX8_send 131 = .ok (.invokevirtual 153, 3) := by decide +kernel
theorem dX8_send_134 : decode cX8_send 134 = .ok (.goto 14, 3) := by decide +kernel
theorem dX8_send_137 : decode cX8_send 137 = .ok (.aload_n 0, 1) := by decide +kernel
theorem dX8_send_138 : decode cX8_send 138 = .ok (.ldc 159, 2) := by decide +kernel
theorem dX8_send_140 : decode cX8_send 140 = .ok (.ldc 74, 2) := by decide +kernel
theorem dX8_send_142 : decode cX8_send 142 = .ok (.iconst 0, 1) := by decide +kernel
theorem dX8_send_143 : decode cX8_send 143 = .ok (.iload 5, 2) := by decide +kernel
theorem dX8_send_145 : decode cX8_send 145 = .ok (.invokevirtual 153, 3) := by decide +kernel
theorem dX8_send_148 : decode cX8_send 148 = .ok (.aload_n 0, 1) := by decide +kernel
theorem dX8_send_149 : decode cX8_send 149 = .ok (.getfield 22, 3) := by decide +kernel
theorem dX8_send_152 : decode cX8_send 152 = .ok (.getfield 78, 3) := by decide +kernel
theorem dX8_send_155 : decode cX8_send 155 = .ok (.ireturn, 1) := by decide +kernel
theorem dX8_out_0 : decode cX8_out 0 = .ok (.aload_n 0, 1) := by decide +kernel
theorem dX8_out_1 : decode cX8_out 1 = .ok (.getfield 22, 3) := by decide +kernel
theorem dX8_out_4 : decode cX8_out 4 = .ok (.iload_n 1, 1) := by decide +kernel
theorem dX8_out_5 : decode cX8_out 5 = .ok (.invokevirtual 82, 3) := by decide +kernel
theorem dX8_out_8 : decode cX8_out 8 = .ok (.ireturn, 1) := by decide +kernel
theorem dX8_again_0 : decode cX8_again 0 = .ok (.aload_n 0, 1) := by decide +kernel
theorem dX8_again_1 : decode cX8_again 1 = .ok (.getfield 18, 3) := by decide +kernel
theorem dX8_again_4 : decode cX8_again 4 = .ok (.aload_n 0, 1) := by decide +kernel
theorem dX8_again_5 : decode cX8_again 5 = .ok (.getfield 22, 3) := by decide +kernel
theorem dX8_again_8 : decode cX8_again 8 = .ok (.getfield 78, 3) := by decide +kernel
theorem dX8_again_11 : decode cX8_again 11 = .ok (.invokevirtual 70, 3) := by decide +kernel
theorem dX8_again_14 : decode cX8_again 14 = .ok (.ifCond .ne 6, 3) := by decide +kernel
theorem dX8_again_17 : decode cX8_again 17 = .ok (.ldc 74, 2) := by decide +kernel
theorem dX8_again_19 : decode cX8_again 19 = .ok (.ireturn, 1) := by decide +kernel
theorem dX8_again_20 : decode cX8_again 20 = .ok (.iconst 0, 1) := by decide +kernel
theorem dX8_again_21 : decode cX8_again 21 = .ok (.istore_n 1, 1) := by decide +kernel
theorem dX8_again_22 : decode cX8_again 22 = .ok (.iload_n 1, 1) := by decide +kernel
theorem dX8_again_23 : decode cX8_again 23 = .ok (.aload_n 0, 1) := by decide +kernel
theorem dX8_again_24 : decode cX8_again 24 = .ok (.getfield 22, 3) := by decide +kernel
theorem dX8_again_27 : decode cX8_again 27 = .ok (.getfield 78, 3) := by decide +kernel
theorem dX8_again_30 : decode cX8_again 30 = .ok (.if_icmp .ge 24, 3) := by decide +kernel
theorem dX8_again_33 : decode cX8_again 33 = .ok (.aload_n 0, 1) := by decide +kernel
theorem dX8_again_34 : decode cX8_again 34 = .ok (.getfield 18, 3) := by decide +kernel
theorem dX8_again_37 : decode cX8_again 37 = .ok (.aload_n 0, 1) := by decide +kernel
theorem dX8_again_38 : decode cX8_again 38 = .ok (.getfield 22, 3) := by decide +kernel
theorem dX8_again_41 : decode cX8_again 41 = .ok (.iload_n 1, 1) := by decide +kernel
theorem dX8_again_42 : decode cX8_again 42 = .ok (.invokevirtual 82, 3) := by decide +kernel
theorem dX8_again_45 : decode cX8_again 45 = .ok (.invokevirtual 161, 3) := by decide +kernel
theorem dX8_again_48 : decode cX8_again 48 = .ok (.iinc 1 1, 3) := by decide +kernel
theorem dX8_again_51 : decode cX8_again 51 = .ok (.goto (-29), 3) := by decide +kernel
theorem dX8_again_54 : decode cX8_again 54 = .ok (.aload_n 0, 1) := by decide +kernel
theorem dX8_again_55 : decode cX8_again 55 = .ok (.getfield 18, 3) := by decide +kernel
theorem dX8_again_58 : decode cX8_again 58 = .ok (.getfield 78, 3) := by decide +kernel
theorem dX8_again_61 : decode cX8_again 61 = .ok (.ireturn, 1) := by decide +kernel
theorem dX8_clear_0 : decode cX8_clear 0 = .ok (.aload_n 0, 1) := by decide +kernel
theorem dX8_clear_1 : decode cX8_clear 1 = .ok (.getfield 9, 3) := by decide +kernel
theorem dX8_clear_4 : decode cX8_clear 4 = .ok (.iconst 0, 1) := by decide +kernel
theorem dX8_clear_5 : decode cX8_clear 5 = .ok (.invokestatic 164, 3) := by decide +kernel
theorem dX8_clear_8 : decode cX8_clear 8 = .ok (.aload_n 0, 1) := by decide +kernel
theorem dX8_clear_9 : decode cX8_clear 9 = .ok (.getfield 28, 3) := by decide +kernel
theorem dX8_clear_12 : decode cX8_clear 12 = .ok (.invokevirtual 170, 3) := by decide +kernel
theorem dX8_clear_15 : decode cX8_clear 15 = .ok (.aload_n 0, 1) := by decide +kernel
theorem dX8_clear_16 : decode cX8_clear 16 = .ok (.getfield 42, 3) := by decide +kernel
theorem dX8_clear_19 : decode cX8_clear 19 = .ok (.invokevirtual 173, 3) := by decide +kernel
theorem dX8_clear_22 : decode cX8_clear 22 = .ok (.aload_n 0, 1) := by decide +kernel
theorem dX8_clear_23 : decode cX8_clear 23 = .ok (.getfield 49, 3) := by decide +kernel
theorem dX8_clear_26 : decode cX8_clear 26 = .ok (.invokevirtual 174, 3) := by decide +kernel
theorem dX8_clear_29 : decode cX8_clear 29 = .ok (.aload_n 0, 1) := by decide +kernel
theorem dX8_clear_30 : decode cX8_clear 30 = .ok (.getfield 56, 3) := by decide +kernel
theorem dX8_clear_33 : decode cX8_clear 33 = .ok (.invokevirtual 175, 3) := by decide +kernel
theorem dX8_clear_36 : decode cX8_clear 36 = .ok (.aload_n 0, 1) := by decide +kernel
theorem dX8_clear_37 : decode cX8_clear 37 = .ok (.getfield 63, 3) := by decide +kernel
theorem dX8_clear_40 : decode cX8_clear 40 = .ok (.iconst 0, 1) := by decide +kernel
theorem dX8_clear_41 : decode cX8_clear 41 = .ok (.putfield 93, 3) := by decide +kernel
theorem dX8_clear_44 : decode cX8_clear 44 = .ok (.return_, 1) := by decide +kernel
theorem dX8_judge_0 : decode cX8_judge 0 = .ok (.aload_n 0, 1) := by decide +kernel
theorem dX8_judge_1 : decode cX8_judge 1 = .ok (.getfield 28, 3) := by decide +kernel
theorem dX8_judge_4 : decode cX8_judge 4 = .ok (.getfield 178, 3) := by decide +kernel
theorem dX8_judge_7 : decode cX8_judge 7 = .ok (.aload_n 0, 1) := by decide +kernel
theorem dX8_judge_8 : decode cX8_judge 8 = .ok (.getfield 28, 3) := by decide +kernel
theorem dX8_judge_11 : decode cX8_judge 11 = .ok (.getfield 181, 3) := by decide +kernel
theorem dX8_judge_14 : decode cX8_judge 14 = .ok (.if_icmp .eq 5, 3) := by decide +kernel
theorem dX8_judge_17 : decode cX8_judge 17 = .ok (.iconst 2, 1) := by decide +kernel
theorem dX8_judge_18 : decode cX8_judge 18 = .ok (.ireturn, 1) := by decide +kernel
theorem dX8_judge_19 : decode cX8_judge 19 = .ok (.aload_n 0, 1) := by decide +kernel
theorem dX8_judge_20 : decode cX8_judge 20 = .ok (.getfield 35, 3) := by decide +kernel
theorem dX8_judge_23 : decode cX8_judge 23 = .ok (.aload_n 0, 1) := by decide +kernel
theorem dX8_judge_24 : decode cX8_judge 24 = .ok (.getfield 28, 3) := by decide +kernel
theorem dX8_judge_27 : decode cX8_judge 27 = .ok (.invokevirtual 184, 3) := by decide +kernel
theorem dX8_judge_30 : decode cX8_judge 30 = .ok (.aload_n 0, 1) := by decide +kernel
theorem dX8_judge_31 : decode cX8_judge 31 = .ok (.getfield 35, 3) := by decide +kernel
theorem dX8_judge_34 : decode cX8_judge 34 = .ok (.aload_n 0, 1) := by decide +kernel
theorem dX8_judge_35 : decode cX8_judge 35 = .ok (.getfield 28, 3) := by decide +kernel
theorem dX8_judge_38 : decode cX8_judge 38 = .ok (.getfield 188, 3) := by decide +kernel
theorem dX8_judge_41 : decode cX8_judge 41 = .ok (.invokevirtual 191, 3) := by decide +kernel
theorem dX8_judge_44 : decode cX8_judge 44 = .ok (.tableswitch 85 1 4 #[32, 47, 62, 77], 32) := by decide +kernel
theorem dX8_judge_76 : decode cX8_judge 76 = .ok (.aload_n 0, 1) := by decide +kernel
theorem dX8_judge_77 : decode cX8_judge 77 = .ok (.getfield 42, 3) := by decide +kernel
theorem dX8_judge_80 : decode cX8_judge 80 = .ok (.aload_n 0, 1) := by decide +kernel
theorem dX8_judge_81 : decode cX8_judge 81 = .ok (.getfield 35, 3) := by decide +kernel
theorem dX8_judge_84 : decode cX8_judge 84 = .ok (.invokevirtual 194, 3) := by decide +kernel
theorem dX8_judge_87 : decode cX8_judge 87 = .ok (.istore_n 1, 1) := by decide +kernel
theorem dX8_judge_88 : decode cX8_judge 88 = .ok (.goto 43, 3) := by decide +kernel
theorem dX8_judge_91 : decode cX8_judge 91 = .ok (.aload_n 0, 1) := by decide +kernel
theorem dX8_judge_92 : decode cX8_judge 92 = .ok (.getfield 42, 3) := by decide +kernel
theorem dX8_judge_95 : decode cX8_judge 95 = .ok (.aload_n 0, 1) := by decide +kernel
theorem dX8_judge_96 : decode cX8_judge 96 = .ok (.getfield 35, 3) := by decide +kernel
theorem dX8_judge_99 : decode cX8_judge 99 = .ok (.invokevirtual 198, 3) := by decide +kernel
theorem dX8_judge_102 : decode cX8_judge 102 = .ok (.istore_n 1, 1) := by decide +kernel
theorem dX8_judge_103 : decode cX8_judge 103 = .ok (.goto 28, 3) := by decide +kernel
theorem dX8_judge_106 : decode cX8_judge 106 = .ok (.aload_n 0, 1) := by decide +kernel
theorem dX8_judge_107 : decode cX8_judge 107 = .ok (.getfield 42, 3) := by decide +kernel
theorem dX8_judge_110 : decode cX8_judge 110 = .ok (.aload_n 0, 1) := by decide +kernel
theorem dX8_judge_111 : decode cX8_judge 111 = .ok (.getfield 35, 3) := by decide +kernel
theorem dX8_judge_114 : decode cX8_judge 114 = .ok (.invokevirtual 201, 3) := by decide +kernel
theorem dX8_judge_117 : decode cX8_judge 117 = .ok (.istore_n 1, 1) := by decide +kernel
theorem dX8_judge_118 : decode cX8_judge 118 = .ok (.goto 13, 3) := by decide +kernel
theorem dX8_judge_121 : decode cX8_judge 121 = .ok (.aload_n 0, 1) := by decide +kernel
theorem dX8_judge_122 : decode cX8_judge 122 = .ok (.invokevirtual 204, 3) := by decide +kernel
theorem dX8_judge_125 : decode cX8_judge 125 = .ok (.istore_n 1, 1) := by decide +kernel
theorem dX8_judge_126 : decode cX8_judge 126 = .ok (.goto 5, 3) := by decide +kernel
theorem dX8_judge_129 : decode cX8_judge 129 = .ok (.iconst 3, 1) := by decide +kernel
theorem dX8_judge_130 : decode cX8_judge 130 = .ok (.ireturn, 1) := by decide +kernel
theorem dX8_judge_131 : decode cX8_judge 131 = .ok (.iload_n 1, 1) := by decide +kernel
theorem dX8_judge_132 : decode cX8_judge 132 = .ok (.ifCond .eq 7, 3) := by decide +kernel
theorem dX8_judge_135 : decode cX8_judge 135 = .ok (.iconst 0, 1) := by decide +kernel
theorem dX8_judge_136 : decode cX8_judge 136 = .ok (.goto 4, 3) := by decide +kernel
theorem dX8_judge_139 : decode cX8_judge 139 = .ok (.iconst 4, 1) := by decide +kernel
theorem dX8_judge_140 : decode cX8_judge 140 = .ok (.ireturn, 1) := by decide +kernel
theorem dX8_takePart_0 : decode cX8_takePart 0 = .ok (.aload_n 0, 1) := by decide +kernel
theorem dX8_takePart_1 : decode cX8_takePart 1 = .ok (.getfield 35, 3) := by decide +kernel
theorem dX8_takePart_4 : decode cX8_takePart 4 = .ok (.getfield 208, 3) := by decide +kernel
theorem dX8_takePart_7 : decode cX8_takePart 7 = .ok (.bipush 7, 2) := by decide +kernel
theorem dX8_takePart_9 : decode cX8_takePart 9 = .ok (.if_icmp .eq 5, 3) := by decide +kernel
theorem dX8_takePart_12 : decode cX8_takePart 12 = .ok (.iconst 0, 1) := by decide +kernel
theorem dX8_takePart_13 : decode cX8_takePart 13 = .ok (.ireturn, 1) := by decide +kernel
theorem dX8_takePart_14 : decode cX8_takePart 14 = .ok (.aload_n 0, 1) := by decide +kernel
theorem dX8_takePart_15 : decode cX8_takePart 15 = .ok (.getfield 35, 3) := by decide +kernel
theorem dX8_takePart_18 : decode cX8_takePart 18 = .ok (.iconst 1, 1) := by decide +kernel
theorem dX8_takePart_19 : decode cX8_takePart 19 = .ok (.iconst 1, 1) := by decide +kernel
theorem dX8_takePart_20 : decode cX8_takePart 20 = .ok (.bipush 9, 2) := by decide +kernel
theorem dX8_takePart_22 : decode cX8_takePart 22 = .ok (.invokevirtual 211, 3) := by decide +kernel
theorem dX8_takePart_25 : decode cX8_takePart 25 = .ok (.istore_n 1, 1) := by decide +kernel
theorem dX8_takePart_26 : decode cX8_takePart 26 = .ok (.aload_n 0, 1) := by decide +kernel
theorem dX8_takePart_27 : decode cX8_takePart 27 = .ok (.getfield 35, 3) := by decide +kernel
theorem dX8_takePart_30 : decode cX8_takePart 30 = .ok (.iconst 2, 1) := by decide +kernel
theorem dX8_takePart_31 : decode cX8_takePart 31 = .ok (.iconst 1, 1) := by decide +kernel
theorem dX8_takePart_32 : decode cX8_takePart 32 = .ok (.iload_n 1, 1) := by decide +kernel
theorem dX8_takePart_33 : decode cX8_takePart 33 = .ok (.invokevirtual 211, 3) := by decide +kernel
theorem dX8_takePart_36 : decode cX8_takePart 36 = .ok (.istore_n 2, 1) := by decide +kernel
theorem dX8_takePart_37 : decode cX8_takePart 37 = .ok (.aload_n 0, 1) := by decide +kernel
theorem dX8_takePart_38 : decode cX8_takePart 38 = .ok (.getfield 35, 3) := by decide +kernel
theorem dX8_takePart_41 : decode cX8_takePart 41 = .ok (.iconst 3, 1) := by decide +kernel
theorem dX8_takePart_42 : decode cX8_takePart 42 = .ok (.invokevirtual 215, 3) := by decide +kernel
theorem dX8_takePart_45 : decode cX8_takePart 45 = .ok (.ifCond .eq 8, 3) := by decide +kernel
theorem dX8_takePart_48 : decode cX8_takePart 48 = .ok (.bipush 10, 2) := by decide +kernel
theorem dX8_takePart_50 : decode cX8_takePart 50 = .ok (.goto 14, 3) := by decide +kernel
theorem dX8_takePart_53 : decode cX8_takePart 53 = .ok (.aload_n 0, 1) := by decide +kernel
theorem dX8_takePart_54 : decode cX8_takePart 54 = .ok (.getfield 35, 3) := by decide +kernel
theorem dX8_takePart_57 : decode cX8_takePart 57 = .ok (.iconst 3, 1) := by decide +kernel
theorem dX8_takePart_58 : decode cX8_takePart 58 = .ok (.iconst 0, 1) := by decide +kernel
theorem dX8_takePart_59 : decode cX8_takePart 59 = .ok (.bipush 9, 2) := by decide +kernel
theorem dX8_takePart_61 : decode cX8_takePart 61 = .ok (.invokevirtual 211, 3) := by decide +kernel
theorem dX8_takePart_64 : decode cX8_takePart 64 = .ok (.istore_n 3, 1) := by decide +kernel
theorem dX8_takePart_65 : decode cX8_takePart 65 = .ok (.aload_n 0, 1) := by decide +kernel
theorem dX8_takePart_66 : decode cX8_takePart 66 = .ok (.getfield 35, 3) := by decide +kernel
theorem dX8_takePart_69 : decode cX8_takePart 69 = .ok (.iconst 4, 1) := by decide +kernel
theorem dX8_takePart_70 : decode cX8_takePart 70 = .ok (.ldc 218, 2) := by decide +kernel
theorem dX8_takePart_72 : decode cX8_takePart 72 = .ok (.invokevirtual 220, 3) := by decide +kernel
theorem dX8_takePart_75 : decode cX8_takePart 75 = .ok (.pop, 1) := by decide +kernel
theorem dX8_takePart_76 : decode cX8_takePart 76 = .ok (.aload_n 0, 1) := by decide +kernel
theorem dX8_takePart_77 : decode cX8_takePart 77 = .ok (.getfield 35, 3) := by decide +kernel
theorem dX8_takePart_80 : decode cX8_takePart 80 = .ok (.iconst 5, 1) := by decide +kernel
theorem dX8_takePart_81 : decode cX8_takePart 81 = .ok (.invokevirtual 224, 3) := by decide +kernel
theorem dX8_takePart_84 : decode cX8_takePart 84 = .ok (.aload_n 0, 1) := by decide +kernel
theorem dX8_takePart_85 : decode cX8_takePart 85 = .ok (.getfield 35, 3) := by decide +kernel
theorem dX8_takePart_88 : decode cX8_takePart 88 = .ok (.bipush 6, 2) := by decide +kernel
theorem dX8_takePart_90 : decode cX8_takePart 90 = .ok (.iconst 0, 1) := by decide +kernel
theorem dX8_takePart_91 : decode cX8_takePart 91 = .ok (.iconst 5, 1) := by decide +kernel
theorem dX8_takePart_92 : decode cX8_takePart 92 = .ok (.invokevirtual 211, 3) := by decide +kernel
theorem dX8_takePart_95 : decode cX8_takePart 95 = .ok (.istore 4, 2) := by decide +kernel
theorem dX8_takePart_97 : decode cX8_takePart 97 = .ok (.aload_n 0, 1) := by decide +kernel
theorem dX8_takePart_98 : decode cX8_takePart 98 = .ok (.getfield 35, 3) := by decide +kernel
theorem dX8_takePart_101 : decode cX8_takePart 101 = .ok (.getfield 227, 3) := by decide +kernel
theorem dX8_takePart_104 : decode cX8_takePart 104 = .ok (.ifCond .ne 5, 3) := by decide +kernel
theorem dX8_takePart_107 : decode cX8_takePart 107 = .ok (.iconst 0, 1) := by decide +kernel
theorem dX8_takePart_108 : decode cX8_takePart 108 = .ok (.ireturn, 1) := by decide +kernel
theorem dX8_takePart_109 : decode cX8_takePart 109 = .ok (.aload_n 0, 1) := by decide +kernel
theorem dX8_takePart_110 : decode cX8_takePart 110 = .ok (.iload_n 3, 1) := by decide +kernel
theorem dX8_takePart_111 : decode cX8_takePart 111 = .ok (.iload_n 1, 1) := by decide +kernel
theorem dX8_takePart_112 : decode cX8_takePart 112 = .ok (.iload_n 2, 1) := by decide +kernel
theorem dX8_takePart_113 : decode cX8_takePart 113 = .ok (.invokevirtual 231, 3) := by decide +kernel
theorem dX8_takePart_116 : decode cX8_takePart 116 = .ok (.ifCond .eq 53, 3) := by decide +kernel
theorem dX8_takePart_119 : decode cX8_takePart 119 = .ok (.aload_n 0, 1) := by decide +kernel
theorem dX8_takePart_120 : decode cX8_takePart 120 = .ok (.getfield 49, 3) := by decide +kernel
theorem dX8_takePart_123 : decode cX8_takePart 123 = .ok (.iload_n 3, 1) := by decide +kernel
theorem dX8_takePart_124 : decode cX8_takePart 124 = .ok (.iload_n 1, 1) := by decide +kernel
theorem dX8_takePart_125 : decode cX8_takePart 125 = .ok (.invokevirtual 235, 3) := by decide +kernel
theorem dX8_takePart_128 : decode cX8_takePart 128 = .ok (.astore 5, 2) := by decide +kernel
theorem dX8_takePart_130 : decode cX8_takePart 130 = .ok (.aload_n 0, 1) := by decide +kernel
theorem dX8_takePart_131 : decode cX8_takePart 131 = .ok (.getfield 35, 3) := by decide +kernel
theorem dX8_takePart_134 : decode cX8_takePart 134 = .ok (.iconst 5, 1) := by decide +kernel
theorem dX8_takePart_135 : decode cX8_takePart 135 = .ok (.iload 4, 2) := by decide +kernel
theorem dX8_takePart_137 : decode cX8_takePart 137 = .ok (.aload 5, 2) := by decide +kernel
theorem dX8_takePart_139 : decode cX8_takePart 139 = .ok (.invokevirtual 239, 3) := by decide +kernel
theorem dX8_takePart_142 : decode cX8_takePart 142 = .ok (.iload_n 2, 1) := by decide +kernel
theorem dX8_takePart_143 : decode cX8_takePart 143 = .ok (.iload_n 1, 1) := by decide +kernel
theorem dX8_takePart_144 : decode cX8_takePart 144 = .ok (.if_icmp .ne 25, 3) := by decide +kernel
theorem dX8_takePart_147 : decode cX8_takePart 147 = .ok (.aload_n 0, 1) := by decide +kernel
theorem dX8_takePart_148 : decode cX8_takePart 148 = .ok (.getfield 56, 3) := by decide +kernel
theorem dX8_takePart_151 : decode cX8_takePart 151 = .ok (.aload 5, 2) := by decide +kernel
theorem dX8_takePart_153 : decode cX8_takePart 153 = .ok (.invokevirtual 243, 3) := by decide +kernel
theorem dX8_takePart_156 : decode cX8_takePart 156 = .ok (.aload_n 0, 1) := by decide +kernel
theorem dX8_takePart_157 : decode cX8_takePart 157 = .ok (.getfield 49, 3) := by decide +kernel
theorem dX8_takePart_160 : decode cX8_takePart 160 = .ok (.iload_n 3, 1) := by decide +kernel
theorem dX8_takePart_161 : decode cX8_takePart 161 = .ok (.invokevirtual 247, 3) := by decide +kernel
theorem dX8_takePart_164 : decode cX8_takePart 164 = .ok (.pop, 1) := by decide +kernel
theorem dX8_takePart_165 : decode cX8_takePart 165 = .ok (.aload_n 0, 1) := by decide +kernel
theorem dX8_takePart_166 : decode cX8_takePart 166 = .ok (.invokevirtual 250, 3) := by decide +kernel
theorem dX8_takePart_169 : decode cX8_takePart 169 = .ok (.iconst 1, 1) := by decide +kernel
theorem dX8_takePart_170 : decode cX8_takePart 170 = .ok (.ireturn, 1) := by decide +kernel
theorem dX8_isInOrder_0 : decode cX8_isInOrder 0 = .ok (.iload_n 3, 1) := by decide +kernel
theorem dX8_isInOrder_1 : decode cX8_isInOrder 1 = .ok (.iconst 1, 1) := by decide +kernel
theorem dX8_isInOrder_2 : decode cX8_isInOrder 2 = .ok (.if_icmp .ne 27, 3) := by decide +kernel
theorem dX8_isInOrder_5 : decode cX8_isInOrder 5 = .ok (.aload_n 0, 1) := by decide +kernel
theorem dX8_isInOrder_6 : decode cX8_isInOrder 6 = .ok (.getfield 49, 3) := by decide +kernel
theorem dX8_isInOrder_9 : decode cX8_isInOrder 9 = .ok (.iload_n 1, 1) := by decide +kernel
theorem dX8_isInOrder_10 : decode cX8_isInOrder 10 = .ok (.invokevirtual 247, 3) := by decide +kernel
theorem dX8_isInOrder_13 : decode cX8_isInOrder 13 = .ok (.ifCond .eq 14, 3) := by decide +kernel
theorem dX8_isInOrder_16 : decode cX8_isInOrder 16 = .ok (.aload_n 0, 1) := by decide +kernel
theorem dX8_isInOrder_17 : decode cX8_isInOrder 17 = .ok (.getfield 9, 3) := by decide +kernel
theorem dX8_isInOrder_20 : decode cX8_isInOrder 20 = .ok (.bipush 7, 2) := by decide +kernel
theorem dX8_isInOrder_22 : decode cX8_isInOrder 22 = .ok (.dup2, 1) := by decide +kernel
theorem dX8_isInOrder_23 : decode cX8_isInOrder 23 = .ok (.iaload, 1) := by decide +kernel
theorem dX8_isInOrder_24 : decode cX8_isInOrder 24 = .ok (.iconst 1, 1) := by decide +kernel
theorem dX8_isInOrder_25 : decode cX8_isInOrder 25 = .ok (.iadd, 1) := by decide +kernel
theorem dX8_isInOrder_26 : decode cX8_isInOrder 26 = .ok (.iastore, 1) := by decide +kernel
theorem dX8_isInOrder_27 : decode cX8_isInOrder 27 = .ok (.iconst 1, 1) := by decide +kernel
theorem dX8_isInOrder_28 : decode cX8_isInOrder 28 = .ok (.ireturn, 1) := by decide +kernel
theorem dX8_isInOrder_29 : decode cX8_isInOrder 29 = .ok (.aload_n 0, 1) := by decide +kernel
theorem dX8_isInOrder_30 : decode cX8_isInOrder 30 = .ok (.getfield 49, 3) := by decide +kernel
theorem dX8_isInOrder_33 : decode cX8_isInOrder 33 = .ok (.iload_n 1, 1) := by decide +kernel
theorem dX8_isInOrder_34 : decode cX8_isInOrder 34 = .ok (.iload_n 2, 1) := by decide +kernel
theorem dX8_isInOrder_35 : decode cX8_isInOrder 35 = .ok (.iload_n 3, 1) := by decide +kernel
theorem dX8_isInOrder_36 : decode cX8_isInOrder 36 = .ok (.invokevirtual 253, 3) := by decide +kernel
theorem dX8_isInOrder_39 : decode cX8_isInOrder 39 = .ok (.ifCond .eq 5, 3) := by decide +kernel
theorem dX8_isInOrder_42 : decode cX8_isInOrder 42 = .ok (.iconst 1, 1) := by decide +kernel
theorem dX8_isInOrder_43 : decode cX8_isInOrder 43 = .ok (.ireturn, 1) := by decide +kernel
theorem dX8_isInOrder_44 : decode cX8_isInOrder 44 = .ok (.aload_n 0, 1) := by decide +kernel
theorem dX8_isInOrder_45 : decode cX8_isInOrder 45 = .ok (.getfield 49, 3) := by decide +kernel
theorem dX8_isInOrder_48 : decode cX8_isInOrder 48 = .ok (.iload_n 1, 1) := by decide +kernel
theorem dX8_isInOrder_49 : decode cX8_isInOrder 49 = .ok (.invokevirtual 247, 3) := by decide +kernel
theorem dX8_isInOrder_52 : decode cX8_isInOrder 52 = .ok (.pop, 1) := by decide +kernel
theorem dX8_isInOrder_53 : decode cX8_isInOrder 53 = .ok (.aload_n 0, 1) := by decide +kernel
theorem dX8_isInOrder_54 : decode cX8_isInOrder 54 = .ok (.getfield 9, 3) := by decide +kernel
theorem dX8_isInOrder_57 : decode cX8_isInOrder 57 = .ok (.bipush 7, 2) := by decide +kernel
theorem dX8_isInOrder_59 : decode cX8_isInOrder 59 = .ok (.dup2, 1) := by decide +kernel
theorem dX8_isInOrder_60 : decode cX8_isInOrder 60 = .ok (.iaload, 1) := by decide +kernel
theorem dX8_isInOrder_61 : decode cX8_isInOrder 61 = .ok (.iconst 1, 1) := by decide +kernel
theorem dX8_isInOrder_62 : decode cX8_isInOrder 62 = .ok (.iadd, 1) := by decide +kernel
theorem dX8_isInOrder_63 : decode cX8_isInOrder 63 = .ok (.iastore, 1) := by decide +kernel
theorem dX8_isInOrder_64 : decode cX8_isInOrder 64 = .ok (.iconst 0, 1) := by decide +kernel
theorem dX8_isInOrder_65 : decode cX8_isInOrder 65 = .ok (.ireturn, 1) := by decide +kernel
theorem dX8_receive_0 : decode cX8_receive 0 = .ok (.aload_n 0, 1) := by decide +kernel
theorem dX8_receive_1 : decode cX8_receive 1 = .ok (.getfield 56, 3) := by decide +kernel
theorem dX8_receive_4 : decode cX8_receive 4 = .ok (.getfield 132, 3) := by decide +kernel
theorem dX8_receive_7 : decode cX8_receive 7 = .ok (.bipush 38, 2) := by decide +kernel
theorem dX8_receive_9 : decode cX8_receive 9 = .ok (.if_icmp .ge 8, 3) := by decide +kernel
theorem dX8_receive_12 : decode cX8_receive 12 = .ok (.ldc 74, 2) := by decide +kernel
theorem dX8_receive_14 : decode cX8_receive 14 = .ok (.goto 13, 3) := by decide +kernel
theorem dX8_receive_17 : decode cX8_receive 17 = .ok (.aload_n 0, 1) := by decide +kernel
theorem dX8_receive_18 : decode cX8_receive 18 = .ok (.getfield 56, 3) := by decide +kernel
theorem dX8_receive_21 : decode cX8_receive 21 = .ok (.iconst 0, 1) := by decide +kernel
theorem dX8_receive_22 : decode cX8_receive 22 = .ok (.bipush 6, 2) := by decide +kernel
theorem dX8_receive_24 : decode cX8_receive 24 = .ok (.invokevirtual 137, 3) := by decide +kernel
theorem dX8_receive_27 : decode cX8_receive 27 = .ok (.istore_n 1, 1) := by decide +kernel
theorem dX8_receive_28 : decode cX8_receive 28 = .ok (.iload_n 1, 1) := by decide +kernel
theorem dX8_receive_29 : decode cX8_receive 29 = .ok (.ldc 74, 2) := by decide +kernel
theorem dX8_receive_31 : decode cX8_receive 31 = .ok (.if_icmp .eq 17, 3) := by decide +kernel
theorem dX8_receive_34 : decode cX8_receive 34 = .ok (.iload_n 1, 1) := by decide +kernel
theorem dX8_receive_35 : decode cX8_receive 35 = .ok (.invokestatic 256, 3) := by decide +kernel
theorem dX8_receive_38 : decode cX8_receive 38 = .ok (.aload_n 0, 1) := by decide +kernel
theorem dX8_receive_39 : decode cX8_receive 39 = .ok (.getfield 56, 3) := by decide +kernel
theorem dX8_receive_42 : decode cX8_receive 42 = .ok (.getfield 132, 3) := by decide +kernel
theorem dX8_receive_45 : decode cX8_receive 45 = .ok (.if_icmp .eq 15, 3) := by decide +kernel
theorem dX8_receive_48 : decode cX8_receive 48 = .ok (.aload_n 0, 1) := by decide +kernel
theorem dX8_receive_49 : decode cX8_receive 49 = .ok (.getfield 9, 3) := by decide +kernel
theorem dX8_receive_52 : decode cX8_receive 52 = .ok (.bipush 6, 2) := by decide +kernel
theorem dX8_receive_54 : decode cX8_receive 54 = .ok (.dup2, 1) := by decide +kernel
theorem dX8_receive_55 : decode cX8_receive 55 = .ok (.iaload, 1) := by decide +kernel
theorem dX8_receive_56 : decode cX8_receive 56 = .ok (.iconst 1, 1) := by decide +kernel
theorem dX8_receive_57 : decode cX8_receive 57 = .ok (.iadd, 1) := by decide +kernel
theorem dX8_receive_58 : decode cX8_receive 58 = .ok (.iastore, 1) := by decide +kernel
theorem dX8_receive_59 : decode cX8_receive 59 = .ok (.return_, 1) := by decide +kernel
theorem dX8_receive_60 : decode cX8_receive 60 = .ok (.aload_n 0, 1) := by decide +kernel
theorem dX8_receive_61 : decode cX8_receive 61 = .ok (.getfield 9, 3) := by decide +kernel
theorem dX8_receive_64 : decode cX8_receive 64 = .ok (.iconst 5, 1) := by decide +kernel
theorem dX8_receive_65 : decode cX8_receive 65 = .ok (.dup2, 1) := by decide +kernel
theorem dX8_receive_66 : decode cX8_receive 66 = .ok (.iaload, 1) := by decide +kernel
theorem dX8_receive_67 : decode cX8_receive 67 = .ok (.iconst 1, 1) := by decide +kernel
theorem dX8_receive_68 : decode cX8_receive 68 = .ok (.iadd, 1) := by decide +kernel
theorem dX8_receive_69 : decode cX8_receive 69 = .ok (.iastore, 1) := by decide +kernel
theorem dX8_receive_70 : decode cX8_receive 70 = .ok (.aload_n 0, 1) := by decide +kernel
theorem dX8_receive_71 : decode cX8_receive 71 = .ok (.getfield 63, 3) := by decide +kernel
theorem dX8_receive_74 : decode cX8_receive 74 = .ok (.aload_n 0, 1) := by decide +kernel
theorem dX8_receive_75 : decode cX8_receive 75 = .ok (.getfield 56, 3) := by decide +kernel
theorem dX8_receive_78 : decode cX8_receive 78 = .ok (.bipush 8, 2) := by decide +kernel
theorem dX8_receive_80 : decode cX8_receive 80 = .ok (.bipush 30, 2) := by decide +kernel
theorem dX8_receive_82 : decode cX8_receive 82 = .ok (.invokevirtual 137, 3) := by decide +kernel
theorem dX8_receive_85 : decode cX8_receive 85 = .ok (.invokevirtual 259, 3) := by decide +kernel
theorem dX8_receive_88 : decode cX8_receive 88 = .ok (.astore_n 2, 1) := by decide +kernel
theorem dX8_receive_89 : decode cX8_receive 89 = .ok (.aload_n 2, 1) := by decide +kernel
theorem dX8_receive_90 : decode cX8_receive 90 = .ok (.ifnonnull 15, 3) := by decide +kernel
theorem dX8_receive_93 : decode cX8_receive 93 = .ok (.aload_n 0, 1) := by decide +kernel
theorem dX8_receive_94 : decode cX8_receive 94 = .ok (.getfield 9, 3) := by decide +kernel
theorem dX8_receive_97 : decode cX8_receive 97 = .ok (.bipush 8, 2) := by decide +kernel
theorem dX8_receive_99 : decode cX8_receive 99 = .ok (.dup2, 1) := by decide +kernel
theorem dX8_receive_100 : decode cX8_receive 100 = .ok (.iaload, 1) := by decide +kernel
theorem dX8_receive_101 : decode cX8_receive 101 = .ok (.iconst 1, 1) := by decide +kernel
theorem dX8_receive_102 : decode cX8_receive 102 = .ok (.iadd, 1) := by decide +kernel
theorem dX8_receive_103 : decode cX8_receive 103 = .ok (.iastore, 1) := by decide +kernel
theorem dX8_receive_104 : decode cX8_receive 104 = .ok (.return_, 1) := by decide +kernel
theorem dX8_receive_105 : decode cX8_receive 105 = .ok (.aload_n 2, 1) := by decide +kernel
theorem dX8_receive_106 : decode cX8_receive 106 = .ok (.iload_n 1, 1) := by decide +kernel
theorem dX8_receive_107 : decode cX8_receive 107 = .ok (.aload_n 0, 1) := by decide +kernel
theorem dX8_receive_108 : decode cX8_receive 108 = .ok (.getfield 56, 3) := by decide +kernel
theorem dX8_receive_111 : decode cX8_receive 111 = .ok (.invokevirtual 262, 3) := by decide +kernel
theorem dX8_receive_114 : decode cX8_receive 114 = .ok (.return_, 1) := by decide +kernel
theorem dX8_writeSentence_0 : decode cX8_writeSentence 0 = .ok (.aload_n 0, 1) := by decide +kernel
theorem dX8_writeSentence_1 : decode cX8_writeSentence 1 = .ok (.getfield 22, 3) := by decide +kernel
theorem dX8_writeSentence_4 : decode cX8_writeSentence 4 = .ok (.getfield 78, 3) := by decide +kernel
theorem dX8_writeSentence_7 : decode cX8_writeSentence 7 = .ok (.istore 5, 2) := by decide +kernel
theorem dX8_writeSentence_9 : decode cX8_writeSentence 9 = .ok (.aload_n 0, 1) := by decide +kernel
theorem dX8_writeSentence_10 : decode cX8_writeSentence 10 = .ok (.getfield 22, 3) := by decide +kernel
theorem dX8_writeSentence_13 : decode cX8_writeSentence 13 = .ok (.ldc_w 265, 3) := by decide +kernel
theorem dX8_writeSentence_16 : decode cX8_writeSentence 16 = .ok (.invokevirtual 267, 3) := by decide +kernel
theorem dX8_writeSentence_19 : decode cX8_writeSentence 19 = .ok (.aload_n 0, 1) := by decide +kernel
theorem dX8_writeSentence_20 : decode cX8_writeSentence 20 = .ok (.getfield 22, 3) := by decide +kernel
theorem dX8_writeSentence_23 : decode cX8_writeSentence 23 = .ok (.aload_n 1, 1) := by decide +kernel
theorem dX8_writeSentence_24 : decode cX8_writeSentence 24 = .ok (.invokevirtual 267, 3) := by decide +kernel
theorem dX8_writeSentence_27 : decode cX8_writeSentence 27 = .ok (.iload_n 2, 1) := by decide +kernel
theorem dX8_writeSentence_28 : decode cX8_writeSentence 28 = .ok (.ldc 74, 2) := by decide +kernel
theorem dX8_writeSentence_30 : decode cX8_writeSentence 30 = .ok (.if_icmp .eq 14, 3) := by decide +kernel
theorem dX8_writeSentence_33 : decode cX8_writeSentence 33 = .ok (.aload_n 0, 1) := by decide +kernel
theorem dX8_writeSentence_34 : decode cX8_writeSentence 34 = .ok (.getfield 22, 3) := by decide +kernel
theorem dX8_writeSentence_37 : decode cX8_writeSentence 37 = .ok (.bipush 48, 2) := by decide +kernel
theorem dX8_writeSentence_39 : decode cX8_writeSentence 39 = .ok (.iload_n 2, 1) := by decide +kernel
theorem dX8_writeSentence_40 : decode cX8_writeSentence 40 = .ok (.iadd, 1) := by decide +kernel
theorem dX8_writeSentence_41 : decode cX8_writeSentence 41 = .ok (.invokevirtual 161, 3) := by decide +kernel
theorem dX8_writeSentence_44 : decode cX8_writeSentence 44 = .ok (.aload_n 0, 1) := by decide +kernel
theorem dX8_writeSentence_45 : decode cX8_writeSentence 45 = .ok (.getfield 22, 3) := by decide +kernel
theorem dX8_writeSentence_48 : decode cX8_writeSentence 48 = .ok (.ldc_w 270, 3) := by decide +kernel
theorem dX8_writeSentence_51 : decode cX8_writeSentence 51 = .ok (.invokevirtual 267, 3) := by decide +kernel
theorem dX8_writeSentence_54 : decode cX8_writeSentence 54 = .ok (.iload_n 3, 1) := by decide +kernel
theorem dX8_writeSentence_55 : decode cX8_writeSentence 55 = .ok (.istore 6, 2) := by decide +kernel
theorem dX8_writeSentence_57 : decode cX8_writeSentence 57 = .ok (.iload 6, 2) := by decide +kernel
theorem dX8_writeSentence_59 : decode cX8_writeSentence 59 = .ok (.iload 4, 2) := by decide +kernel
theorem dX8_writeSentence_61 : decode cX8_writeSentence 61 = .ok (.if_icmp .ge 52, 3) := by decide +kernel
theorem dX8_writeSentence_64 : decode cX8_writeSentence 64 = .ok (.aload_n 0, 1) := by decide +kernel
theorem dX8_writeSentence_65 : decode cX8_writeSentence 65 = .ok (.getfield 67, 3) := by decide +kernel
theorem dX8_writeSentence_68 : decode cX8_writeSentence 68 = .ok (.bipush 6, 2) := by decide +kernel
theorem dX8_writeSentence_70 : decode cX8_writeSentence 70 = .ok (.iload 6, 2) := by decide +kernel
theorem dX8_writeSentence_72 : decode cX8_writeSentence 72 = .ok (.imul, 1) := by decide +kernel
theorem dX8_writeSentence_73 : decode cX8_writeSentence 73 = .ok (.bipush 6, 2) := by decide +kernel
theorem dX8_writeSentence_75 : decode cX8_writeSentence 75 = .ok (.invokevirtual 137, 3) := by decide +kernel
theorem dX8_writeSentence_78 : decode cX8_writeSentence 78 = .ok (.istore 7, 2) := by decide +kernel
theorem dX8_writeSentence_80 : decode cX8_writeSentence 80 = .ok (.aload_n 0, 1) := by decide +kernel
theorem dX8_writeSentence_81 : decode cX8_writeSentence 81 = .ok (.getfield 22, 3) := by decide +kernel
theorem dX8_writeSentence_84 : decode cX8_writeSentence 84 = .ok (.iload 7, 2) := by decide +kernel
theorem dX8_writeSentence_86 : decode cX8_writeSentence 86 = .ok (.bipush 40, 2) := by decide +kernel
theorem dX8_writeSentence_88 : decode cX8_writeSentence 88 = .ok (.if_icmp .ge 11, 3) := by decide +kernel
theorem dX8_writeSentence_91 : decode cX8_writeSentence 91 = .ok (.iload 7, 2) := by decide +kernel
theorem dX8_writeSentence_93 : decode cX8_writeSentence 93 = .ok (.bipush 48, 2) := by decide +kernel
theorem dX8_writeSentence_95 : decode cX8_writeSentence 95 = .ok (.iadd, 1) := by decide +kernel
theorem dX8_writeSentence_96 : decode cX8_writeSentence 96 = .ok (.goto 8, 3) := by decide +kernel
theorem dX8_writeSentence_99 : decode cX8_writeSentence 99 = .ok (.iload 7, 2) := by decide +kernel
theorem dX8_writeSentence_101 : decode cX8_writeSentence 101 = .ok (.bipush 56, 2) := by decide +kernel
theorem dX8_writeSentence_103 : decode cX8_writeSentence 103 = .ok (.iadd, 1) := by decide +kernel
theorem dX8_writeSentence_104 : decode cX8_writeSentence 104 = .ok (.invokevirtual 161, 3) := by decide +kernel
theorem dX8_writeSentence_107 : decode cX8_writeSentence 107 = .ok (.iinc 6 1, 3) := by decide +kernel
theorem dX8_writeSentence_110 : decode cX8_writeSentence 110 = .ok (.goto (-53), 3) := by decide +kernel
theorem dX8_writeSentence_113 : decode cX8_writeSentence 113 = .ok (.bipush 6, 2) := by decide +kernel
theorem dX8_writeSentence_115 : decode cX8_writeSentence 115 = .ok (.iload 4, 2) := by decide +kernel
theorem dX8_writeSentence_117 : decode cX8_writeSentence 117 = .ok (.imul, 1) := by decide +kernel
theorem dX8_writeSentence_118 : decode cX8_writeSentence 118 = .ok (.aload_n 0, 1) := by decide +kernel
theorem dX8_writeSentence_119 : decode cX8_writeSentence 119 = .ok (.getfield 67, 3) := by decide +kernel
theorem dX8_writeSentence_122 : decode cX8_writeSentence 122 = .ok (.getfield 132, 3) := by decide +kernel
theorem dX8_writeSentence_125 : decode cX8_writeSentence 125 = .ok (.isub, 1) := by decide +kernel
theorem dX8_writeSentence_126 : decode cX8_writeSentence 126 = .ok (.istore 6, 2) := by decide +kernel
theorem dX8_writeSentence_128 : decode cX8_writeSentence 128 = .ok (.aload_n 0, 1) := by decide +kernel
theorem dX8_writeSentence_129 : decode cX8_writeSentence 129 = .ok (.getfield 22, 3) := by decide +kernel
theorem dX8_writeSentence_132 : decode cX8_writeSentence 132 = .ok (.bipush 44, 2) := by decide +kernel
theorem dX8_writeSentence_134 : decode cX8_writeSentence 134 = .ok (.invokevirtual 161, 3) := by decide +kernel
theorem dX8_writeSentence_137 : decode cX8_writeSentence 137 = .ok (.aload_n 0, 1) := by decide +kernel
theorem dX8_writeSentence_138 : decode cX8_writeSentence 138 = .ok (.getfield 22, 3) := by decide +kernel
theorem dX8_writeSentence_141 : decode cX8_writeSentence 141 = .ok (.bipush 48, 2) := by decide +kernel
theorem dX8_writeSentence_143 : decode cX8_writeSentence 143 = .ok (.iload 6, 2) := by decide +kernel
theorem dX8_writeSentence_145 : decode cX8_writeSentence 145 = .ok (.ifCond .le 8, 3) := by decide +kernel
theorem dX8_writeSentence_148 : decode cX8_writeSentence 148 = .ok (.iload 6, 2) := by decide +kernel
theorem dX8_writeSentence_150 : decode cX8_writeSentence 150 = .ok (.goto 4, 3) := by decide +kernel
theorem dX8_writeSentence_153 : decode cX8_writeSentence 153 = .ok (.iconst 0, 1) := by decide +kernel
theorem dX8_writeSentence_154 : decode cX8_writeSentence 154 = .ok (.iadd, 1) := by decide +kernel
theorem dX8_writeSentence_155 : decode cX8_writeSentence 155 = .ok (.invokevirtual 161, 3) := by decide +kernel
theorem dX8_writeSentence_158 : decode cX8_writeSentence 158 = .ok (.aload_n 0, 1) := by decide +kernel
theorem dX8_writeSentence_159 : decode cX8_writeSentence 159 = .ok (.iload 5, 2) := by decide +kernel
theorem dX8_writeSentence_161 : decode cX8_writeSentence 161 = .ok (.invokevirtual 272, 3) := by decide +kernel
theorem dX8_writeSentence_164 : decode cX8_writeSentence 164 = .ok (.return_, 1) := by decide +kernel
theorem dX8_closeSentence_0 : decode cX8_closeSentence 0 = .ok (.iconst 0, 1) := by decide +kernel
theorem dX8_closeSentence_1 : decode cX8_closeSentence 1 = .ok (.istore_n 2, 1) := by decide +kernel
theorem dX8_closeSentence_2 : decode cX8_closeSentence 2 = .ok (.iload_n 1, 1) := by decide +kernel
theorem dX8_closeSentence_3 : decode cX8_closeSentence 3 = .ok (.iconst 1, 1) := by decide +kernel
theorem dX8_closeSentence_4 : decode cX8_closeSentence 4 = .ok (.iadd, 1) := by decide +kernel
theorem dX8_closeSentence_5 : decode cX8_closeSentence 5 = .ok (.istore_n 3, 1) := by decide +kernel
theorem dX8_closeSentence_6 : decode cX8_closeSentence 6 = .ok (.iload_n 3, 1) := by decide +kernel
theorem dX8_closeSentence_7 : decode cX8_closeSentence 7 = .ok (.aload_n 0, 1) := by decide +kernel
theorem dX8_closeSentence_8 : decode cX8_closeSentence 8 = .ok (.getfield 22, 3) := by decide +kernel
theorem dX8_closeSentence_11 : decode cX8_closeSentence 11 = .ok (.getfield 78, 3) := by decide +kernel
theorem dX8_closeSentence_14 : decode cX8_closeSentence 14 = .ok (.if_icmp .ge 20, 3) := by decide +kernel
theorem dX8_closeSentence_17 : decode cX8_closeSentence 17 = .ok (.iload_n 2, 1) := by decide +kernel
theorem dX8_closeSentence_18 : decode cX8_closeSentence 18 = .ok (.aload_n 0, 1) := by decide +kernel
theorem dX8_closeSentence_19 : decode cX8_closeSentence 19 = .ok (.getfield 22, 3) := by decide +kernel
theorem dX8_closeSentence_22 : decode cX8_closeSentence 22 = .ok (.iload_n 3, 1) := by decide +kernel
theorem dX8_closeSentence_23 : decode cX8_closeSentence 23 = .ok (.invokevirtual 82, 3) := by decide +kernel
theorem dX8_closeSentence_26 : decode cX8_closeSentence 26 = .ok (.ixor, 1) := by decide +kernel
theorem dX8_closeSentence_27 : decode cX8_closeSentence 27 = .ok (.istore_n 2, 1) := by decide +kernel
theorem dX8_closeSentence_28 : decode cX8_closeSentence 28 = .ok (.iinc 3 1, 3) := by decide +kernel
theorem dX8_closeSentence_31 : decode cX8_closeSentence 31 = .ok (.goto (-25), 3) := by decide +kernel
theorem dX8_closeSentence_34 : decode cX8_closeSentence 34 = .ok (.aload_n 0, 1) := by decide +kernel
theorem dX8_closeSentence_35 : decode cX8_closeSentence 35 = .ok (.getfield 22, 3) := by decide +kernel
theorem dX8_closeSentence_38 : decode cX8_closeSentence 38 = .ok (.bipush 42, 2) := by decide +kernel
theorem dX8_closeSentence_40 : decode cX8_closeSentence 40 = .ok (.invokevirtual 161, 3) := by decide +kernel
theorem dX8_closeSentence_43 : decode cX8_closeSentence 43 = .ok (.aload_n 0, 1) := by decide +kernel
theorem dX8_closeSentence_44 : decode cX8_closeSentence 44 = .ok (.getfield 22, 3) := by decide +kernel
theorem dX8_closeSentence_47 : decode cX8_closeSentence 47 = .ok (.iload_n 2, 1) := by decide +kernel
theorem dX8_closeSentence_48 : decode cX8_closeSentence 48 = .ok (.iconst 4, 1) := by decide +kernel
theorem dX8_closeSentence_49 : decode cX8_closeSentence 49 = .ok (.ishr, 1) := by decide +kernel
theorem dX8_closeSentence_50 : decode cX8_closeSentence 50 = .ok (.bipush 15, 2) := by decide +kernel
theorem dX8_closeSentence_52 : decode cX8_closeSentence 52 = .ok (.iand, 1) := by decide +kernel
theorem dX8_closeSentence_53 : decode cX8_closeSentence 53 = .ok (.invokestatic 275, 3) := by decide +kernel
theorem dX8_closeSentence_56 : decode cX8_closeSentence 56 = .ok (.invokevirtual 161, 3) := by decide +kernel
theorem dX8_closeSentence_59 : decode cX8_closeSentence 59 = .ok (.aload_n 0, 1) := by decide +kernel
theorem dX8_closeSentence_60 : decode cX8_closeSentence 60 = .ok (.getfield 22, 3) := by decide +kernel
theorem dX8_closeSentence_63 : decode cX8_closeSentence 63 = .ok (.iload_n 2, 1) := by decide +kernel
theorem dX8_closeSentence_64 : decode cX8_closeSentence 64 = .ok (.bipush 15, 2) := by decide +kernel
theorem dX8_closeSentence_66 : decode cX8_closeSentence 66 = .ok (.iand, 1) := by decide +kernel
theorem dX8_closeSentence_67 : decode cX8_closeSentence 67 = .ok (.invokestatic 275, 3) := by decide +kernel
theorem dX8_closeSentence_70 : decode cX8_closeSentence 70 = .ok (.invokevirtual 161, 3) := by decide +kernel
theorem dX8_closeSentence_73 : decode cX8_closeSentence 73 = .ok (.aload_n 0, 1) := by decide +kernel
theorem dX8_closeSentence_74 : decode cX8_closeSentence 74 = .ok (.getfield 22, 3) := by decide +kernel
theorem dX8_closeSentence_77 : decode cX8_closeSentence 77 = .ok (.bipush 13, 2) := by decide +kernel
theorem dX8_closeSentence_79 : decode cX8_closeSentence 79 = .ok (.invokevirtual 161, 3) := by decide +kernel
theorem dX8_closeSentence_82 : decode cX8_closeSentence 82 = .ok (.aload_n 0, 1) := by decide +kernel
theorem dX8_closeSentence_83 : decode cX8_closeSentence 83 = .ok (.getfield 22, 3) := by decide +kernel
theorem dX8_closeSentence_86 : decode cX8_closeSentence 86 = .ok (.bipush 10, 2) := by decide +kernel
theorem dX8_closeSentence_88 : decode cX8_closeSentence 88 = .ok (.invokevirtual 161, 3) := by decide +kernel
theorem dX8_closeSentence_91 : decode cX8_closeSentence 91 = .ok (.return_, 1) := by decide +kernel
theorem dX8_sixteen_0 : decode cX8_sixteen 0 = .ok (.iload_n 0, 1) := by decide +kernel
theorem dX8_sixteen_1 : decode cX8_sixteen 1 = .ok (.bipush 10, 2) := by decide +kernel
theorem dX8_sixteen_3 : decode cX8_sixteen 3 = .ok (.if_icmp .ge 10, 3) := by decide +kernel
theorem dX8_sixteen_6 : decode cX8_sixteen 6 = .ok (.bipush 48, 2) := by decide +kernel
theorem dX8_sixteen_8 : decode cX8_sixteen 8 = .ok (.iload_n 0, 1) := by decide +kernel
theorem dX8_sixteen_9 : decode cX8_sixteen 9 = .ok (.iadd, 1) := by decide +kernel
theorem dX8_sixteen_10 : decode cX8_sixteen 10 = .ok (.goto 10, 3) := by decide +kernel
theorem dX8_sixteen_13 : decode cX8_sixteen 13 = .ok (.bipush 65, 2) := by decide +kernel
theorem dX8_sixteen_15 : decode cX8_sixteen 15 = .ok (.iload_n 0, 1) := by decide +kernel
theorem dX8_sixteen_16 : decode cX8_sixteen 16 = .ok (.iadd, 1) := by decide +kernel
theorem dX8_sixteen_17 : decode cX8_sixteen 17 = .ok (.bipush 10, 2) := by decide +kernel
theorem dX8_sixteen_19 : decode cX8_sixteen 19 = .ok (.isub, 1) := by decide +kernel
theorem dX8_sixteen_20 : decode cX8_sixteen 20 = .ok (.ireturn, 1) := by decide +kernel
theorem dJ11_isValidCodePoint_9a6ad_0 : decode cJ11_isValidCodePoint_9a6ad 0 = .ok (.iload_n 0, 1) := by decide +kernel
theorem dJ11_isValidCodePoint_9a6ad_1 : decode cJ11_isValidCodePoint_9a6ad 1 = .ok (.bipush 16, 2) := by decide +kernel
theorem dJ11_isValidCodePoint_9a6ad_3 : decode cJ11_isValidCodePoint_9a6ad 3 = .ok (.iushr, 1) := by decide +kernel
theorem dJ11_isValidCodePoint_9a6ad_4 : decode cJ11_isValidCodePoint_9a6ad 4 = .ok (.istore_n 1, 1) := by decide +kernel
theorem dJ11_isValidCodePoint_9a6ad_5 : decode cJ11_isValidCodePoint_9a6ad 5 = .ok (.iload_n 1, 1) := by decide +kernel
theorem dJ11_isValidCodePoint_9a6ad_6 : decode cJ11_isValidCodePoint_9a6ad 6 = .ok (.bipush 17, 2) := by decide +kernel
theorem dJ11_isValidCodePoint_9a6ad_8 : decode cJ11_isValidCodePoint_9a6ad 8 = .ok (.if_icmp .ge 7, 3) := by decide +kernel
theorem dJ11_isValidCodePoint_9a6ad_11 : decode cJ11_isValidCodePoint_9a6ad 11 = .ok (.iconst 1, 1) := by decide +kernel
theorem dJ11_isValidCodePoint_9a6ad_12 : decode cJ11_isValidCodePoint_9a6ad 12 = .ok (.goto 4, 3) := by decide +kernel
theorem dJ11_isValidCodePoint_9a6ad_15 : decode cJ11_isValidCodePoint_9a6ad 15 = .ok (.iconst 0, 1) := by decide +kernel
theorem dJ11_isValidCodePoint_9a6ad_16 : decode cJ11_isValidCodePoint_9a6ad 16 = .ok (.ireturn, 1) := by decide +kernel
theorem dJ11_highSurrogate_5068e_0 : decode cJ11_highSurrogate_5068e 0 = .ok (.iload_n 0, 1) := by decide +kernel
theorem dJ11_highSurrogate_5068e_1 : decode cJ11_highSurrogate_5068e 1 = .ok (.bipush 10, 2) := by decide +kernel
theorem dJ11_highSurrogate_5068e_3 : decode cJ11_highSurrogate_5068e 3 = .ok (.iushr, 1) := by decide +kernel
theorem dJ11_highSurrogate_5068e_4 : decode cJ11_highSurrogate_5068e 4 = .ok (.ldc 110, 2) := by decide +kernel
theorem dJ11_highSurrogate_5068e_6 : decode cJ11_highSurrogate_5068e 6 = .ok (.iadd, 1) := by decide +kernel
theorem dJ11_highSurrogate_5068e_7 : decode cJ11_highSurrogate_5068e 7 = .ok (.i2c, 1) := by decide +kernel
theorem dJ11_highSurrogate_5068e_8 : decode cJ11_highSurrogate_5068e 8 = .ok (.ireturn, 1) := by decide +kernel
theorem dJ11_lowSurrogate_5068e_0 : decode cJ11_lowSurrogate_5068e 0 = .ok (.iload_n 0, 1) := by decide +kernel
theorem dJ11_lowSurrogate_5068e_1 : decode cJ11_lowSurrogate_5068e 1 = .ok (.sipush 1023, 3) := by decide +kernel
theorem dJ11_lowSurrogate_5068e_4 : decode cJ11_lowSurrogate_5068e 4 = .ok (.iand, 1) := by decide +kernel
theorem dJ11_lowSurrogate_5068e_5 : decode cJ11_lowSurrogate_5068e 5 = .ok (.ldc 76, 2) := by decide +kernel
theorem dJ11_lowSurrogate_5068e_7 : decode cJ11_lowSurrogate_5068e 7 = .ok (.iadd, 1) := by decide +kernel
theorem dJ11_lowSurrogate_5068e_8 : decode cJ11_lowSurrogate_5068e 8 = .ok (.i2c, 1) := by decide +kernel
theorem dJ11_lowSurrogate_5068e_9 : decode cJ11_lowSurrogate_5068e 9 = .ok (.ireturn, 1) := by decide +kernel
theorem dJ9_max_7cf53_0 : decode cJ9_max_7cf53 0 = .ok (.iload_n 0, 1) := by decide +kernel
theorem dJ9_max_7cf53_1 : decode cJ9_max_7cf53 1 = .ok (.iload_n 1, 1) := by decide +kernel
theorem dJ9_max_7cf53_2 : decode cJ9_max_7cf53 2 = .ok (.if_icmp .lt 7, 3) := by decide +kernel
theorem dJ9_max_7cf53_5 : decode cJ9_max_7cf53 5 = .ok (.iload_n 0, 1) := by decide +kernel
theorem dJ9_max_7cf53_6 : decode cJ9_max_7cf53 6 = .ok (.goto 4, 3) := by decide +kernel
theorem dJ9_max_7cf53_9 : decode cJ9_max_7cf53 9 = .ok (.iload_n 1, 1) := by decide +kernel
theorem dJ9_max_7cf53_10 : decode cJ9_max_7cf53 10 = .ok (.ireturn, 1) := by decide +kernel
theorem dJ9_min_7cf53_0 : decode cJ9_min_7cf53 0 = .ok (.iload_n 0, 1) := by decide +kernel
theorem dJ9_min_7cf53_1 : decode cJ9_min_7cf53 1 = .ok (.iload_n 1, 1) := by decide +kernel
theorem dJ9_min_7cf53_2 : decode cJ9_min_7cf53 2 = .ok (.if_icmp .gt 7, 3) := by decide +kernel
theorem dJ9_min_7cf53_5 : decode cJ9_min_7cf53 5 = .ok (.iload_n 0, 1) := by decide +kernel
theorem dJ9_min_7cf53_6 : decode cJ9_min_7cf53 6 = .ok (.goto 4, 3) := by decide +kernel
theorem dJ9_min_7cf53_9 : decode cJ9_min_7cf53 9 = .ok (.iload_n 1, 1) := by decide +kernel
theorem dJ9_min_7cf53_10 : decode cJ9_min_7cf53 10 = .ok (.ireturn, 1) := by decide +kernel
theorem dJ0_length_8abf5_0 : decode cJ0_length_8abf5 0 = .ok (.aload_n 0, 1) := by decide +kernel
theorem dJ0_length_8abf5_1 : decode cJ0_length_8abf5 1 = .ok (.getfield 9, 3) := by decide +kernel
theorem dJ0_length_8abf5_4 : decode cJ0_length_8abf5 4 = .ok (.arraylength, 1) := by decide +kernel
theorem dJ0_length_8abf5_5 : decode cJ0_length_8abf5 5 = .ok (.aload_n 0, 1) := by decide +kernel
theorem dJ0_length_8abf5_6 : decode cJ0_length_8abf5 6 = .ok (.invokevirtual 335, 3) := by decide +kernel
theorem dJ0_length_8abf5_9 : decode cJ0_length_8abf5 9 = .ok (.ishr, 1) := by decide +kernel
theorem dJ0_length_8abf5_10 : decode cJ0_length_8abf5 10 = .ok (.ireturn, 1) := by decide +kernel
theorem dJ0_charAt_5068e_0 : decode cJ0_charAt_5068e 0 = .ok (.aload_n 0, 1) := by decide +kernel
theorem dJ0_charAt_5068e_1 : decode cJ0_charAt_5068e 1 = .ok (.invokevirtual 492, 3) := by decide +kernel
theorem dJ0_charAt_5068e_4 : decode cJ0_charAt_5068e 4 = .ok (.ifCond .eq 12, 3) := by decide +kernel
theorem dJ0_charAt_5068e_7 : decode cJ0_charAt_5068e 7 = .ok (.aload_n 0, 1) := by decide +kernel
theorem dJ0_charAt_5068e_8 : decode cJ0_charAt_5068e 8 = .ok (.getfield 9, 3) := by decide +kernel
theorem dJ0_charAt_5068e_11 : decode cJ0_charAt_5068e 11 = .ok (.iload_n 1, 1) := by decide +kernel
theorem dJ0_charAt_5068e_12 : decode cJ0_charAt_5068e 12 = .ok (.invokestatic 495, 3) := by decide +kernel
theorem dJ0_charAt_5068e_15 : decode cJ0_charAt_5068e 15 = .ok (.ireturn, 1) := by decide +kernel
theorem dJ0_charAt_5068e_16 : decode cJ0_charAt_5068e 16 = .ok (.aload_n 0, 1) := by decide +kernel
theorem dJ0_charAt_5068e_17 : decode cJ0_charAt_5068e 17 = .ok (.getfield 9, 3) := by decide +kernel
theorem dJ0_charAt_5068e_20 : decode cJ0_charAt_5068e 20 = .ok (.iload_n 1, 1) := by decide +kernel
theorem dJ0_charAt_5068e_21 : decode cJ0_charAt_5068e 21 = .ok (.invokestatic 498, 3) := by decide +kernel
theorem dJ0_charAt_5068e_24 : decode cJ0_charAt_5068e 24 = .ok (.ireturn, 1) := by decide +kernel
theorem dJ0_indexOf_0f7a4_0 : decode cJ0_indexOf_0f7a4 0 = .ok (.aload_n 0, 1) := by decide +kernel
theorem dJ0_indexOf_0f7a4_1 : decode cJ0_indexOf_0f7a4 1 = .ok (.iload_n 1, 1) := by decide +kernel
theorem dJ0_indexOf_0f7a4_2 : decode cJ0_indexOf_0f7a4 2 = .ok (.iconst 0, 1) := by decide +kernel
theorem dJ0_indexOf_0f7a4_3 : decode cJ0_indexOf_0f7a4 3 = .ok (.invokevirtual 633, 3) := by decide +kernel
theorem dJ0_indexOf_0f7a4_6 : decode cJ0_indexOf_0f7a4 6 = .ok (.ireturn, 1) := by decide +kernel
theorem dJ0_indexOf_7cf53_0 : decode cJ0_indexOf_7cf53 0 = .ok (.aload_n 0, 1) := by decide +kernel
theorem dJ0_indexOf_7cf53_1 : decode cJ0_indexOf_7cf53 1 = .ok (.invokevirtual 492, 3) := by decide +kernel
theorem dJ0_indexOf_7cf53_4 : decode cJ0_indexOf_7cf53 4 = .ok (.ifCond .eq 19, 3) := by decide +kernel
theorem dJ0_indexOf_7cf53_7 : decode cJ0_indexOf_7cf53 7 = .ok (.aload_n 0, 1) := by decide +kernel
theorem dJ0_indexOf_7cf53_8 : decode cJ0_indexOf_7cf53 8 = .ok (.getfield 9, 3) := by decide +kernel
theorem dJ0_indexOf_7cf53_11 : decode cJ0_indexOf_7cf53 11 = .ok (.iload_n 1, 1) := by decide +kernel
theorem dJ0_indexOf_7cf53_12 : decode cJ0_indexOf_7cf53 12 = .ok (.iload_n 2, 1) := by decide +kernel
theorem dJ0_indexOf_7cf53_13 : decode cJ0_indexOf_7cf53 13 = .ok (.aload_n 0, 1) := by decide +kernel
theorem dJ0_indexOf_7cf53_14 : decode cJ0_indexOf_7cf53 14 = .ok (.invokevirtual 505, 3) := by decide +kernel
theorem dJ0_indexOf_7cf53_17 : decode cJ0_indexOf_7cf53 17 = .ok (.invokestatic 637, 3) := by decide +kernel
theorem dJ0_indexOf_7cf53_20 : decode cJ0_indexOf_7cf53 20 = .ok (.goto 16, 3) := by decide +kernel
theorem dJ0_indexOf_7cf53_23 : decode cJ0_indexOf_7cf53 23 = .ok (.aload_n 0, 1) := by decide +kernel
theorem dJ0_indexOf_7cf53_24 : decode cJ0_indexOf_7cf53 24 = .ok (.getfield 9, 3) := by decide +kernel
theorem dJ0_indexOf_7cf53_27 : decode cJ0_indexOf_7cf53 27 = .ok (.iload_n 1, 1) := by decide +kernel
theorem dJ0_indexOf_7cf53_28 : decode cJ0_indexOf_7cf53 28 = .ok (.iload_n 2, 1) := by decide +kernel
theorem dJ0_indexOf_7cf53_29 : decode cJ0_indexOf_7cf53 29 = .ok (.aload_n 0, 1) := by decide +kernel
theorem dJ0_indexOf_7cf53_30 : decode cJ0_indexOf_7cf53 30 = .ok (.invokevirtual 505, 3) := by decide +kernel
theorem dJ0_indexOf_7cf53_33 : decode cJ0_indexOf_7cf53 33 = .ok (.invokestatic 640, 3) := by decide +kernel
theorem dJ0_indexOf_7cf53_36 : decode cJ0_indexOf_7cf53 36 = .ok (.ireturn, 1) := by decide +kernel
theorem dJ0_coder_7d493_0 : decode cJ0_coder_7d493 0 = .ok (.getstatic 38, 3) := by decide +kernel
theorem dJ0_coder_7d493_3 : decode cJ0_coder_7d493 3 = .ok (.ifCond .eq 10, 3) := by decide +kernel
theorem dJ0_coder_7d493_6 : decode cJ0_coder_7d493 6 = .ok (.aload_n 0, 1) := by decide +kernel
theorem dJ0_coder_7d493_7 : decode cJ0_coder_7d493 7 = .ok (.getfield 15, 3) := by decide +kernel
theorem dJ0_coder_7d493_10 : decode cJ0_coder_7d493 10 = .ok (.goto 4, 3) := by decide +kernel
theorem dJ0_coder_7d493_13 : decode cJ0_coder_7d493 13 = .ok (.iconst 1, 1) := by decide +kernel
theorem dJ0_coder_7d493_14 : decode cJ0_coder_7d493 14 = .ok (.ireturn, 1) := by decide +kernel
theorem dJ0_isLatin1_aae02_0 : decode cJ0_isLatin1_aae02 0 = .ok (.getstatic 38, 3) := by decide +kernel
theorem dJ0_isLatin1_aae02_3 : decode cJ0_isLatin1_aae02 3 = .ok (.ifCond .eq 14, 3) := by decide +kernel
theorem dJ0_isLatin1_aae02_6 : decode cJ0_isLatin1_aae02 6 = .ok (.aload_n 0, 1) := by decide +kernel
theorem dJ0_isLatin1_aae02_7 : decode cJ0_isLatin1_aae02 7 = .ok (.getfield 15, 3) := by decide +kernel
theorem dJ0_isLatin1_aae02_10 : decode cJ0_isLatin1_aae02 10 = .ok (.ifCond .ne 7, 3) := by decide +kernel
theorem dJ0_isLatin1_aae02_13 : decode cJ0_isLatin1_aae02 13 = .ok (.iconst 1, 1) := by decide +kernel
theorem dJ0_isLatin1_aae02_14 : decode cJ0_isLatin1_aae02 14 = .ok (.goto 4, 3) := by decide +kernel
theorem dJ0_isLatin1_aae02_17 : decode cJ0_isLatin1_aae02 17 = .ok (.iconst 0, 1) := by decide +kernel
theorem dJ0_isLatin1_aae02_18 : decode cJ0_isLatin1_aae02 18 = .ok (.ireturn, 1) := by decide +kernel
theorem dJ0_checkIndex_df160_0 : decode cJ0_checkIndex_df160 0 = .ok (.iload_n 0, 1) := by decide +kernel
theorem dJ0_checkIndex_df160_1 : decode cJ0_checkIndex_df160 1 = .ok (.iload_n 1, 1) := by decide +kernel
theorem dJ0_checkIndex_df160_2 : decode cJ0_checkIndex_df160 2 = .ok (.getstatic 1053, 3) := by decide +kernel
theorem dJ0_checkIndex_df160_5 : decode cJ0_checkIndex_df160 5 = .ok (.invokestatic 1059, 3) := by decide +kernel
theorem dJ0_checkIndex_df160_8 : decode cJ0_checkIndex_df160 8 = .ok (.pop, 1) := by decide +kernel
theorem dJ0_checkIndex_df160_9 : decode cJ0_checkIndex_df160 9 = .ok (.return_, 1) := by decide +kernel
theorem dJ0_checkBoundsBeginEnd_23922_0 : decode cJ0_checkBoundsBeginEnd_23922 0 = .ok (.iload_n 0, 1) := by decide +kernel
theorem dJ0_checkBoundsBeginEnd_23922_1 : decode cJ0_checkBoundsBeginEnd_23922 1 = .ok (.iload_n 1, 1) := by decide +kernel
theorem dJ0_checkBoundsBeginEnd_23922_2 : decode cJ0_checkBoundsBeginEnd_23922 2 = .ok (.iload_n 2, 1) := by decide +kernel
theorem dJ0_checkBoundsBeginEnd_23922_3 : decode cJ0_checkBoundsBeginEnd_23922 3 = .ok (.getstatic 1053, 3) := by decide +kernel
theorem dJ0_checkBoundsBeginEnd_23922_6 : decode cJ0_checkBoundsBeginEnd_23922 6 = .ok (.invokestatic 1062, 3) := by decide +kernel
theorem dJ0_checkBoundsBeginEnd_23922_9 : decode cJ0_checkBoundsBeginEnd_23922 9 = .ok (.pop, 1) := by decide +kernel
theorem dJ0_checkBoundsBeginEnd_23922_10 : decode cJ0_checkBoundsBeginEnd_23922 10 = .ok (.return_, 1) := by decide +kernel
theorem dJ1_charAt_3b067_0 : decode cJ1_charAt_3b067 0 = .ok (.iload_n 1, 1) := by decide +kernel
theorem dJ1_charAt_3b067_1 : decode cJ1_charAt_3b067 1 = .ok (.aload_n 0, 1) := by decide +kernel
theorem dJ1_charAt_3b067_2 : decode cJ1_charAt_3b067 2 = .ok (.arraylength, 1) := by decide +kernel
theorem dJ1_charAt_3b067_3 : decode cJ1_charAt_3b067 3 = .ok (.invokestatic 9, 3) := by decide +kernel
theorem dJ1_charAt_3b067_6 : decode cJ1_charAt_3b067 6 = .ok (.aload_n 0, 1) := by decide +kernel
theorem dJ1_charAt_3b067_7 : decode cJ1_charAt_3b067 7 = .ok (.iload_n 1, 1) := by decide +kernel
theorem dJ1_charAt_3b067_8 : decode cJ1_charAt_3b067 8 = .ok (.baload, 1) := by decide +kernel
theorem dJ1_charAt_3b067_9 : decode cJ1_charAt_3b067 9 = .ok (.sipush 255, 3) := by decide +kernel
theorem dJ1_charAt_3b067_12 : decode cJ1_charAt_3b067 12 = .ok (.iand, 1) := by decide +kernel
theorem dJ1_charAt_3b067_13 : decode cJ1_charAt_3b067 13 = .ok (.i2c, 1) := by decide +kernel
theorem dJ1_charAt_3b067_14 : decode cJ1_charAt_3b067 14 = .ok (.ireturn, 1) := by decide +kernel
theorem dJ1_canEncode_9a6ad_0 : decode cJ1_canEncode_9a6ad 0 = .ok (.iload_n 0, 1) := by decide +kernel
theorem dJ1_canEncode_9a6ad_1 : decode cJ1_canEncode_9a6ad 1 = .ok (.ifCond .lt 14, 3) := by decide +kernel
theorem dJ1_canEncode_9a6ad_4 : decode cJ1_canEncode_9a6ad 4 = .ok (.iload_n 0, 1) := by decide +kernel
theorem dJ1_canEncode_9a6ad_5 : decode cJ1_canEncode_9a6ad 5 = .ok (.sipush 255, 3) := by decide +kernel
theorem dJ1_canEncode_9a6ad_8 : decode cJ1_canEncode_9a6ad 8 = .ok (.if_icmp .gt 7, 3) := by decide +kernel
theorem dJ1_canEncode_9a6ad_11 : decode cJ1_canEncode_9a6ad 11 = .ok (.iconst 1, 1) := by decide +kernel
theorem dJ1_canEncode_9a6ad_12 : decode cJ1_canEncode_9a6ad 12 = .ok (.goto 4, 3) := by decide +kernel
theorem dJ1_canEncode_9a6ad_15 : decode cJ1_canEncode_9a6ad 15 = .ok (.iconst 0, 1) := by decide +kernel
theorem dJ1_canEncode_9a6ad_16 : decode cJ1_canEncode_9a6ad 16 = .ok (.ireturn, 1) := by decide +kernel
theorem dJ1_indexOf_4cfef_0 : decode cJ1_indexOf_4cfef 0 = .ok (.iload_n 1, 1) := by decide +kernel
theorem dJ1_indexOf_4cfef_1 : decode cJ1_indexOf_4cfef 1 = .ok (.invokestatic 88, 3) := by decide +kernel
theorem dJ1_indexOf_4cfef_4 : decode cJ1_indexOf_4cfef 4 = .ok (.ifCond .ne 5, 3) := by decide +kernel
theorem dJ1_indexOf_4cfef_7 : decode cJ1_indexOf_4cfef 7 = .ok (.iconst (-1), 1) := by decide +kernel
theorem dJ1_indexOf_4cfef_8 : decode cJ1_indexOf_4cfef 8 = .ok (.ireturn, 1) := by decide +kernel
theorem dJ1_indexOf_4cfef_9 : decode cJ1_indexOf_4cfef 9 = .ok (.iload_n 2, 1) := by decide +kernel
theorem dJ1_indexOf_4cfef_10 : decode cJ1_indexOf_4cfef 10 = .ok (.iconst 0, 1) := by decide +kernel
theorem dJ1_indexOf_4cfef_11 : decode cJ1_indexOf_4cfef 11 = .ok (.invokestatic 92, 3) := by decide +kernel
theorem dJ1_indexOf_4cfef_14 : decode cJ1_indexOf_4cfef 14 = .ok (.istore_n 2, 1) := by decide +kernel
theorem dJ1_indexOf_4cfef_15 : decode cJ1_indexOf_4cfef 15 = .ok (.iload_n 3, 1) := by decide +kernel
theorem dJ1_indexOf_4cfef_16 : decode cJ1_indexOf_4cfef 16 = .ok (.aload_n 0, 1) := by decide +kernel
theorem dJ1_indexOf_4cfef_17 : decode cJ1_indexOf_4cfef 17 = .ok (.arraylength, 1) := by decide +kernel
theorem dJ1_indexOf_4cfef_18 : decode cJ1_indexOf_4cfef 18 = .ok (.invokestatic 38, 3) := by decide +kernel
theorem dJ1_indexOf_4cfef_21 : decode cJ1_indexOf_4cfef 21 = .ok (.istore_n 3, 1) := by decide +kernel
theorem dJ1_indexOf_4cfef_22 : decode cJ1_indexOf_4cfef 22 = .ok (.iload_n 2, 1) := by decide +kernel
theorem dJ1_indexOf_4cfef_23 : decode cJ1_indexOf_4cfef 23 = .ok (.iload_n 3, 1) := by decide +kernel
theorem dJ1_indexOf_4cfef_24 : decode cJ1_indexOf_4cfef 24 = .ok (.if_icmp .lt 5, 3) := by decide +kernel
theorem dJ1_indexOf_4cfef_27 : decode cJ1_indexOf_4cfef 27 = .ok (.iconst (-1), 1) := by decide +kernel
theorem dJ1_indexOf_4cfef_28 : decode cJ1_indexOf_4cfef 28 = .ok (.ireturn, 1) := by decide +kernel
theorem dJ1_indexOf_4cfef_29 : decode cJ1_indexOf_4cfef 29 = .ok (.aload_n 0, 1) := by decide +kernel
theorem dJ1_indexOf_4cfef_30 : decode cJ1_indexOf_4cfef 30 = .ok (.iload_n 1, 1) := by decide +kernel
theorem dJ1_indexOf_4cfef_31 : decode cJ1_indexOf_4cfef 31 = .ok (.iload_n 2, 1) := by decide +kernel
theorem dJ1_indexOf_4cfef_32 : decode cJ1_indexOf_4cfef 32 = .ok (.iload_n 3, 1) := by decide +kernel
theorem dJ1_indexOf_4cfef_33 : decode cJ1_indexOf_4cfef 33 = .ok (.invokestatic 95, 3) := by decide +kernel
theorem dJ1_indexOf_4cfef_36 : decode cJ1_indexOf_4cfef 36 = .ok (.ireturn, 1) := by decide +kernel
theorem dJ1_indexOfChar_4cfef_0 : decode cJ1_indexOfChar_4cfef 0 = .ok (.iload_n 1, 1) := by decide +kernel
theorem dJ1_indexOfChar_4cfef_1 : decode cJ1_indexOfChar_4cfef 1 = .ok (.i2b, 1) := by decide +kernel
theorem dJ1_indexOfChar_4cfef_2 : decode cJ1_indexOfChar_4cfef 2 = .ok (.istore 4, 2) := by decide +kernel
theorem dJ1_indexOfChar_4cfef_4 : decode cJ1_indexOfChar_4cfef 4 = .ok (.iload_n 2, 1) := by decide +kernel
theorem dJ1_indexOfChar_4cfef_5 : decode cJ1_indexOfChar_4cfef 5 = .ok (.istore 5, 2) := by decide +kernel
theorem dJ1_indexOfChar_4cfef_7 : decode cJ1_indexOfChar_4cfef 7 = .ok (.iload 5, 2) := by decide +kernel
theorem dJ1_indexOfChar_4cfef_9 : decode cJ1_indexOfChar_4cfef 9 = .ok (.iload_n 3, 1) := by decide +kernel
theorem dJ1_indexOfChar_4cfef_10 : decode cJ1_indexOfChar_4cfef 10 = .ok (.if_icmp .ge 21, 3) := by decide +kernel
theorem dJ1_indexOfChar_4cfef_13 : decode cJ1_indexOfChar_4cfef 13 = .ok (.aload_n 0, 1) := by decide +kernel
theorem dJ1_indexOfChar_4cfef_14 : decode cJ1_indexOfChar_4cfef 14 = .ok (.iload 5, 2) := by decide +kernel
theorem dJ1_indexOfChar_4cfef_16 : decode cJ1_indexOfChar_4cfef 16 = .ok (.baload, 1) := by decide +kernel
theorem dJ1_indexOfChar_4cfef_17 : decode cJ1_indexOfChar_4cfef 17 = .ok (.iload 4, 2) := by decide +kernel
theorem dJ1_indexOfChar_4cfef_19 : decode cJ1_indexOfChar_4cfef 19 = .ok (.if_icmp .ne 6, 3) := by decide +kernel
theorem dJ1_indexOfChar_4cfef_22 : decode cJ1_indexOfChar_4cfef 22 = .ok (.iload 5, 2) := by decide +kernel
theorem dJ1_indexOfChar_4cfef_24 : decode cJ1_indexOfChar_4cfef 24 = .ok (.ireturn, 1) := by decide +kernel
theorem dJ1_indexOfChar_4cfef_25 : decode cJ1_indexOfChar_4cfef 25 = .ok (.iinc 5 1, 3) := by decide +kernel
theorem dJ1_indexOfChar_4cfef_28 : decode cJ1_indexOfChar_4cfef 28 = .ok (.goto (-21), 3) := by decide +kernel
theorem dJ1_indexOfChar_4cfef_31 : decode cJ1_indexOfChar_4cfef 31 = .ok (.iconst (-1), 1) := by decide +kernel
theorem dJ1_indexOfChar_4cfef_32 : decode cJ1_indexOfChar_4cfef 32 = .ok (.ireturn, 1) := by decide +kernel
theorem dJ2_getChar_3b067_0 : decode cJ2_getChar_3b067 0 = .ok (.getstatic 44, 3) := by decide +kernel
theorem dJ2_getChar_3b067_3 : decode cJ2_getChar_3b067 3 = .ok (.ifCond .ne 25, 3) := by decide +kernel
theorem dJ2_getChar_3b067_6 : decode cJ2_getChar_3b067 6 = .ok (.iload_n 1, 1) := by decide +kernel
theorem dJ2_getChar_3b067_7 : decode cJ2_getChar_3b067 7 = .ok (.ifCond .lt 11, 3) := by decide +kernel
theorem dJ2_getChar_3b067_10 : decode cJ2_getChar_3b067 10 = .ok (.iload_n 1, 1) := by decide +kernel
theorem dJ2_getChar_3b067_11 : decode cJ2_getChar_3b067 11 = .ok (.aload_n 0, 1) := by decide +kernel
theorem dJ2_getChar_3b067_12 : decode cJ2_getChar_3b067 12 = .ok (.invokestatic 48, 3) := by decide +kernel
theorem dJ2_getChar_3b067_15 : decode cJ2_getChar_3b067 15 = .ok (.if_icmp .lt 13, 3) := by decide +kernel
theorem dJ2_getChar_3b067_18 : decode cJ2_getChar_3b067 18 = .ok (.new 52, 3) := by decide +kernel
theorem dJ2_getChar_3b067_21 : decode cJ2_getChar_3b067 21 = .ok (.dup, 1) := by decide +kernel
theorem dJ2_getChar_3b067_22 : decode cJ2_getChar_3b067 22 = .ok (.ldc 54, 2) := by decide +kernel
theorem dJ2_getChar_3b067_24 : decode cJ2_getChar_3b067 24 = .ok (.invokespecial 56, 3) := by decide +kernel
theorem dJ2_getChar_3b067_27 : decode cJ2_getChar_3b067 27 = .ok (.athrow, 1) := by decide +kernel
theorem dJ2_getChar_3b067_28 : decode cJ2_getChar_3b067 28 = .ok (.iload_n 1, 1) := by decide +kernel
theorem dJ2_getChar_3b067_29 : decode cJ2_getChar_3b067 29 = .ok (.iconst 1, 1) := by decide +kernel
theorem dJ2_getChar_3b067_30 : decode cJ2_getChar_3b067 30 = .ok (.ishl, 1) := by decide +kernel
theorem dJ2_getChar_3b067_31 : decode cJ2_getChar_3b067 31 = .ok (.istore_n 1, 1) := by decide +kernel
theorem dJ2_getChar_3b067_32 : decode cJ2_getChar_3b067 32 = .ok (.aload_n 0, 1) := by decide +kernel
theorem dJ2_getChar_3b067_33 : decode cJ2_getChar_3b067 33 = .ok (.iload_n 1, 1) := by decide +kernel
theorem dJ2_getChar_3b067_34 : decode cJ2_getChar_3b067 34 = .ok (.iinc 1 1, 3) := by decide +kernel
theorem dJ2_getChar_3b067_37 : decode cJ2_getChar_3b067 37 = .ok (.baload, 1) := by decide +kernel
theorem dJ2_getChar_3b067_38 : decode cJ2_getChar_3b067 38 = .ok (.sipush 255, 3) := by decide +kernel
theorem dJ2_getChar_3b067_41 : decode cJ2_getChar_3b067 41 = .ok (.iand, 1) := by decide +kernel
theorem dJ2_getChar_3b067_42 : decode cJ2_getChar_3b067 42 = .ok (.getstatic 59, 3) := by decide +kernel
theorem dJ2_getChar_3b067_45 : decode cJ2_getChar_3b067 45 = .ok (.ishl, 1) := by decide +kernel
theorem dJ2_getChar_3b067_46 : decode cJ2_getChar_3b067 46 = .ok (.aload_n 0, 1) := by decide +kernel
theorem dJ2_getChar_3b067_47 : decode cJ2_getChar_3b067 47 = .ok (.iload_n 1, 1) := by decide +kernel
theorem dJ2_getChar_3b067_48 : decode cJ2_getChar_3b067 48 = .ok (.baload, 1) := by decide +kernel
theorem dJ2_getChar_3b067_49 : decode cJ2_getChar_3b067 49 = .ok (.sipush 255, 3) := by decide +kernel
theorem dJ2_getChar_3b067_52 : decode cJ2_getChar_3b067 52 = .ok (.iand, 1) := by decide +kernel
theorem dJ2_getChar_3b067_53 : decode cJ2_getChar_3b067 53 = .ok (.getstatic 63, 3) := by decide +kernel
theorem dJ2_getChar_3b067_56 : decode cJ2_getChar_3b067 56 = .ok (.ishl, 1) := by decide +kernel
theorem dJ2_getChar_3b067_57 : decode cJ2_getChar_3b067 57 = .ok (.ior, 1) := by decide +kernel
theorem dJ2_getChar_3b067_58 : decode cJ2_getChar_3b067 58 = .ok (.i2c, 1) := by decide +kernel
theorem dJ2_getChar_3b067_59 : decode cJ2_getChar_3b067 59 = .ok (.ireturn, 1) := by decide +kernel
theorem dJ2_length_9d52b_0 : decode cJ2_length_9d52b 0 = .ok (.aload_n 0, 1) := by decide +kernel
theorem dJ2_length_9d52b_1 : decode cJ2_length_9d52b 1 = .ok (.arraylength, 1) := by decide +kernel
theorem dJ2_length_9d52b_2 : decode cJ2_length_9d52b 2 = .ok (.iconst 1, 1) := by decide +kernel
theorem dJ2_length_9d52b_3 : decode cJ2_length_9d52b 3 = .ok (.ishr, 1) := by decide +kernel
theorem dJ2_length_9d52b_4 : decode cJ2_length_9d52b 4 = .ok (.ireturn, 1) := by decide +kernel
theorem dJ2_indexOf_4cfef_0 : decode cJ2_indexOf_4cfef 0 = .ok (.iload_n 2, 1) := by decide +kernel
theorem dJ2_indexOf_4cfef_1 : decode cJ2_indexOf_4cfef 1 = .ok (.iconst 0, 1) := by decide +kernel
theorem dJ2_indexOf_4cfef_2 : decode cJ2_indexOf_4cfef 2 = .ok (.invokestatic 224, 3) := by decide +kernel
theorem dJ2_indexOf_4cfef_5 : decode cJ2_indexOf_4cfef 5 = .ok (.istore_n 2, 1) := by decide +kernel
theorem dJ2_indexOf_4cfef_6 : decode cJ2_indexOf_4cfef 6 = .ok (.iload_n 3, 1) := by decide +kernel
theorem dJ2_indexOf_4cfef_7 : decode cJ2_indexOf_4cfef 7 = .ok (.aload_n 0, 1) := by decide +kernel
theorem dJ2_indexOf_4cfef_8 : decode cJ2_indexOf_4cfef 8 = .ok (.arraylength, 1) := by decide +kernel
theorem dJ2_indexOf_4cfef_9 : decode cJ2_indexOf_4cfef 9 = .ok (.iconst 1, 1) := by decide +kernel
theorem dJ2_indexOf_4cfef_10 : decode cJ2_indexOf_4cfef 10 = .ok (.ishr, 1) := by decide +kernel
theorem dJ2_indexOf_4cfef_11 : decode cJ2_indexOf_4cfef 11 = .ok (.invokestatic 183, 3) := by decide +kernel
theorem dJ2_indexOf_4cfef_14 : decode cJ2_indexOf_4cfef 14 = .ok (.istore_n 3, 1) := by decide +kernel
theorem dJ2_indexOf_4cfef_15 : decode cJ2_indexOf_4cfef 15 = .ok (.iload_n 2, 1) := by decide +kernel
theorem dJ2_indexOf_4cfef_16 : decode cJ2_indexOf_4cfef 16 = .ok (.iload_n 3, 1) := by decide +kernel
theorem dJ2_indexOf_4cfef_17 : decode cJ2_indexOf_4cfef 17 = .ok (.if_icmp .lt 5, 3) := by decide +kernel
theorem dJ2_indexOf_4cfef_20 : decode cJ2_indexOf_4cfef 20 = .ok (.iconst (-1), 1) := by decide +kernel
theorem dJ2_indexOf_4cfef_21 : decode cJ2_indexOf_4cfef 21 = .ok (.ireturn, 1) := by decide +kernel
theorem dJ2_indexOf_4cfef_22 : decode cJ2_indexOf_4cfef 22 = .ok (.iload_n 1, 1) := by decide +kernel
theorem dJ2_indexOf_4cfef_23 : decode cJ2_indexOf_4cfef 23 = .ok (.ldc 227, 2) := by decide +kernel
theorem dJ2_indexOf_4cfef_25 : decode cJ2_indexOf_4cfef 25 = .ok (.if_icmp .ge 11, 3) := by decide +kernel
theorem dJ2_indexOf_4cfef_28 : decode cJ2_indexOf_4cfef 28 = .ok (.aload_n 0, 1) := by decide +kernel
theorem dJ2_indexOf_4cfef_29 : decode cJ2_indexOf_4cfef 29 = .ok (.iload_n 1, 1) := by decide +kernel
theorem dJ2_indexOf_4cfef_30 : decode cJ2_indexOf_4cfef 30 = .ok (.iload_n 2, 1) := by decide +kernel
theorem dJ2_indexOf_4cfef_31 : decode cJ2_indexOf_4cfef 31 = .ok (.iload_n 3, 1) := by decide +kernel
theorem dJ2_indexOf_4cfef_32 : decode cJ2_indexOf_4cfef 32 = .ok (.invokestatic 228, 3) := by decide +kernel
theorem dJ2_indexOf_4cfef_35 : decode cJ2_indexOf_4cfef 35 = .ok (.ireturn, 1) := by decide +kernel
theorem dJ2_indexOf_4cfef_36 : decode cJ2_indexOf_4cfef 36 = .ok (.aload_n 0, 1) := by decide +kernel
theorem dJ2_indexOf_4cfef_37 : decode cJ2_indexOf_4cfef 37 = .ok (.iload_n 1, 1) := by decide +kernel
theorem dJ2_indexOf_4cfef_38 : decode cJ2_indexOf_4cfef 38 = .ok (.iload_n 2, 1) := by decide +kernel
theorem dJ2_indexOf_4cfef_39 : decode cJ2_indexOf_4cfef 39 = .ok (.iload_n 3, 1) := by decide +kernel
theorem dJ2_indexOf_4cfef_40 : decode cJ2_indexOf_4cfef 40 = .ok (.invokestatic 232, 3) := by decide +kernel
theorem dJ2_indexOf_4cfef_43 : decode cJ2_indexOf_4cfef 43 = .ok (.ireturn, 1) := by decide +kernel
theorem dJ2_indexOfChar_4cfef_0 : decode cJ2_indexOfChar_4cfef 0 = .ok (.iload_n 2, 1) := by decide +kernel
theorem dJ2_indexOfChar_4cfef_1 : decode cJ2_indexOfChar_4cfef 1 = .ok (.iload_n 3, 1) := by decide +kernel
theorem dJ2_indexOfChar_4cfef_2 : decode cJ2_indexOfChar_4cfef 2 = .ok (.aload_n 0, 1) := by decide +kernel
theorem dJ2_indexOfChar_4cfef_3 : decode cJ2_indexOfChar_4cfef 3 = .ok (.invokestatic 96, 3) := by decide +kernel
theorem dJ2_indexOfChar_4cfef_6 : decode cJ2_indexOfChar_4cfef 6 = .ok (.aload_n 0, 1) := by decide +kernel
theorem dJ2_indexOfChar_4cfef_7 : decode cJ2_indexOfChar_4cfef 7 = .ok (.iload_n 1, 1) := by decide +kernel
theorem dJ2_indexOfChar_4cfef_8 : decode cJ2_indexOfChar_4cfef 8 = .ok (.iload_n 2, 1) := by decide +kernel
theorem dJ2_indexOfChar_4cfef_9 : decode cJ2_indexOfChar_4cfef 9 = .ok (.iload_n 3, 1) := by decide +kernel
theorem dJ2_indexOfChar_4cfef_10 : decode cJ2_indexOfChar_4cfef 10 = .ok (.invokestatic 244, 3) := by decide +kernel
theorem dJ2_indexOfChar_4cfef_13 : decode cJ2_indexOfChar_4cfef 13 = .ok (.ireturn, 1) := by decide +kernel
theorem dJ2_indexOfCharUnsafe_4cfef_0 : decode cJ2_indexOfCharUnsafe_4cfef 0 = .ok (.iload_n 2, 1) := by decide +kernel
theorem dJ2_indexOfCharUnsafe_4cfef_1 : decode cJ2_indexOfCharUnsafe_4cfef 1 = .ok (.istore 4, 2) := by decide +kernel
theorem dJ2_indexOfCharUnsafe_4cfef_3 : decode cJ2_indexOfCharUnsafe_4cfef 3 = .ok (.iload 4, 2) := by decide +kernel
theorem dJ2_indexOfCharUnsafe_4cfef_5 : decode cJ2_indexOfCharUnsafe_4cfef 5 = .ok (.iload_n 3, 1) := by decide +kernel
theorem dJ2_indexOfCharUnsafe_4cfef_6 : decode cJ2_indexOfCharUnsafe_4cfef 6 = .ok (.if_icmp .ge 22, 3) := by decide +kernel
theorem dJ2_indexOfCharUnsafe_4cfef_9 : decode cJ2_indexOfCharUnsafe_4cfef 9 = .ok (.aload_n 0, 1) := by decide +kernel
theorem dJ2_indexOfCharUnsafe_4cfef_10 : decode cJ2_indexOfCharUnsafe_4cfef 10 = .ok (.iload 4, 2) := by decide +kernel
theorem dJ2_indexOfCharUnsafe_4cfef_12 : decode cJ2_indexOfCharUnsafe_4cfef 12 = .ok (.invokestatic 71, 3) := by decide +kernel
theorem dJ2_indexOfCharUnsafe_4cfef_15 : decode cJ2_indexOfCharUnsafe_4cfef 15 = .ok (.iload_n 1, 1) := by decide +kernel
theorem dJ2_indexOfCharUnsafe_4cfef_16 : decode cJ2_indexOfCharUnsafe_4cfef 16 = .ok (.if_icmp .ne 6, 3) := by decide +kernel
theorem dJ2_indexOfCharUnsafe_4cfef_19 : decode cJ2_indexOfCharUnsafe_4cfef 19 = .ok (.iload 4, 2) := by decide +kernel
theorem dJ2_indexOfCharUnsafe_4cfef_21 : decode cJ2_indexOfCharUnsafe_4cfef 21 = .ok (.ireturn, 1) := by decide +kernel
theorem dJ2_indexOfCharUnsafe_4cfef_22 : decode cJ2_indexOfCharUnsafe_4cfef 22 = .ok (.iinc 4 1, 3) := by decide +kernel
theorem dJ2_indexOfCharUnsafe_4cfef_25 : decode cJ2_indexOfCharUnsafe_4cfef 25 = .ok (.goto (-22), 3) := by decide +kernel
theorem dJ2_indexOfCharUnsafe_4cfef_28 : decode cJ2_indexOfCharUnsafe_4cfef 28 = .ok (.iconst (-1), 1) := by decide +kernel
theorem dJ2_indexOfCharUnsafe_4cfef_29 : decode cJ2_indexOfCharUnsafe_4cfef 29 = .ok (.ireturn, 1) := by decide +kernel
theorem dJ2_indexOfSupplementary_4cfef_0 : decode cJ2_indexOfSupplementary_4cfef 0 = .ok (.iload_n 1, 1) := by decide +kernel
theorem dJ2_indexOfSupplementary_4cfef_1 : decode cJ2_indexOfSupplementary_4cfef 1 = .ok (.invokestatic 164, 3) := by decide +kernel
theorem dJ2_indexOfSupplementary_4cfef_4 : decode cJ2_indexOfSupplementary_4cfef 4 = .ok (.ifCond .eq 65, 3) := by decide +kernel
theorem dJ2_indexOfSupplementary_4cfef_7 : decode cJ2_indexOfSupplementary_4cfef 7 = .ok (.iload_n 1, 1) := by decide +kernel
theorem dJ2_indexOfSupplementary_4cfef_8 : decode cJ2_indexOfSupplementary_4cfef 8 = .ok (.invokestatic 157, 3) := by decide +kernel
theorem dJ2_indexOfSupplementary_4cfef_11 : decode cJ2_indexOfSupplementary_4cfef 11 = .ok (.istore 4, 2) := by decide +kernel
theorem dJ2_indexOfSupplementary_4cfef_13 : decode cJ2_indexOfSupplementary_4cfef 13 = .ok (.iload_n 1, 1) := by decide +kernel
theorem dJ2_indexOfSupplementary_4cfef_14 : decode cJ2_indexOfSupplementary_4cfef 14 = .ok (.invokestatic 161, 3) := by decide +kernel
theorem dJ2_indexOfSupplementary_4cfef_17 : decode cJ2_indexOfSupplementary_4cfef 17 = .ok (.istore 5, 2) := by decide +kernel
theorem dJ2_indexOfSupplementary_4cfef_19 : decode cJ2_indexOfSupplementary_4cfef 19 = .ok (.iload_n 2, 1) := by decide +kernel
theorem dJ2_indexOfSupplementary_4cfef_20 : decode cJ2_indexOfSupplementary_4cfef 20 = .ok (.iload_n 3, 1) := by decide +kernel
theorem dJ2_indexOfSupplementary_4cfef_21 : decode cJ2_indexOfSupplementary_4cfef 21 = .ok (.aload_n 0, 1) := by decide +kernel
theorem dJ2_indexOfSupplementary_4cfef_22 : decode cJ2_indexOfSupplementary_4cfef 22 = .ok (.invokestatic 96, 3) := by decide +kernel
theorem dJ2_indexOfSupplementary_4cfef_25 : decode cJ2_indexOfSupplementary_4cfef 25 = .ok (.iload_n 2, 1) := by decide +kernel
theorem dJ2_indexOfSupplementary_4cfef_26 : decode cJ2_indexOfSupplementary_4cfef 26 = .ok (.istore 6, 2) := by decide +kernel
theorem dJ2_indexOfSupplementary_4cfef_28 : decode cJ2_indexOfSupplementary_4cfef 28 = .ok (.iload 6, 2) := by decide +kernel
theorem dJ2_indexOfSupplementary_4cfef_30 : decode cJ2_indexOfSupplementary_4cfef 30 = .ok (.iload_n 3, 1) := by decide +kernel
theorem dJ2_indexOfSupplementary_4cfef_31 : decode cJ2_indexOfSupplementary_4cfef 31 = .ok (.iconst 1, 1) := by decide +kernel
theorem dJ2_indexOfSupplementary_4cfef_32 : decode cJ2_indexOfSupplementary_4cfef 32 = .ok (.isub, 1) := by decide +kernel
theorem dJ2_indexOfSupplementary_4cfef_33 : decode cJ2_indexOfSupplementary_4cfef 33 = .ok (.if_icmp .ge 36, 3) := by decide +kernel
theorem dJ2_indexOfSupplementary_4cfef_36 : decode cJ2_indexOfSupplementary_4cfef 36 = .ok (.aload_n 0, 1) := by decide +kernel
theorem dJ2_indexOfSupplementary_4cfef_37 : decode cJ2_indexOfSupplementary_4cfef 37 = .ok (.iload 6, 2) := by decide +kernel
theorem dJ2_indexOfSupplementary_4cfef_39 : decode cJ2_indexOfSupplementary_4cfef 39 = .ok (.invokestatic 71, 3) := by decide +kernel
theorem dJ2_indexOfSupplementary_4cfef_42 : decode cJ2_indexOfSupplementary_4cfef 42 = .ok (.iload 4, 2) := by decide +kernel
theorem dJ2_indexOfSupplementary_4cfef_44 : decode cJ2_indexOfSupplementary_4cfef 44 = .ok (.if_icmp .ne 19, 3) := by decide +kernel
theorem dJ2_indexOfSupplementary_4cfef_47 : decode cJ2_indexOfSupplementary_4cfef 47 = .ok (.aload_n 0, 1) := by decide +kernel
theorem dJ2_indexOfSupplementary_4cfef_48 : decode cJ2_indexOfSupplementary_4cfef 48 = .ok (.iload 6, 2) := by decide +kernel
theorem dJ2_indexOfSupplementary_4cfef_50 : decode cJ2_indexOfSupplementary_4cfef 50 = .ok (.iconst 1, 1) := by decide +kernel
theorem dJ2_indexOfSupplementary_4cfef_51 : decode cJ2_indexOfSupplementary_4cfef 51 = .ok (.iadd, 1) := by decide +kernel
theorem dJ2_indexOfSupplementary_4cfef_52 : decode cJ2_indexOfSupplementary_4cfef 52 = .ok (.invokestatic 71, 3) := by decide +kernel
theorem dJ2_indexOfSupplementary_4cfef_55 : decode cJ2_indexOfSupplementary_4cfef 55 = .ok (.iload 5, 2) := by decide +kernel
theorem dJ2_indexOfSupplementary_4cfef_57 : decode cJ2_indexOfSupplementary_4cfef 57 = .ok (.if_icmp .ne 6, 3) := by decide +kernel
theorem dJ2_indexOfSupplementary_4cfef_60 : decode cJ2_indexOfSupplementary_4cfef 60 = .ok (.iload 6, 2) := by decide +kernel
theorem dJ2_indexOfSupplementary_4cfef_62 : decode cJ2_indexOfSupplementary_4cfef 62 = .ok (.ireturn, 1) := by decide +kernel
theorem dJ2_indexOfSupplementary_4cfef_63 : decode cJ2_indexOfSupplementary_4cfef 63 = .ok (.iinc 6 1, 3) := by decide +kernel
theorem dJ2_indexOfSupplementary_4cfef_66 : decode cJ2_indexOfSupplementary_4cfef 66 = .ok (.goto (-38), 3) := by decide +kernel
theorem dJ2_indexOfSupplementary_4cfef_69 : decode cJ2_indexOfSupplementary_4cfef 69 = .ok (.iconst (-1), 1) := by decide +kernel
theorem dJ2_indexOfSupplementary_4cfef_70 : decode cJ2_indexOfSupplementary_4cfef 70 = .ok (.ireturn, 1) := by decide +kernel
theorem dJ2_charAt_3b067_0 : decode cJ2_charAt_3b067 0 = .ok (.iload_n 1, 1) := by decide +kernel
theorem dJ2_charAt_3b067_1 : decode cJ2_charAt_3b067 1 = .ok (.aload_n 0, 1) := by decide +kernel
theorem dJ2_charAt_3b067_2 : decode cJ2_charAt_3b067 2 = .ok (.invokestatic 67, 3) := by decide +kernel
theorem dJ2_charAt_3b067_5 : decode cJ2_charAt_3b067 5 = .ok (.aload_n 0, 1) := by decide +kernel
theorem dJ2_charAt_3b067_6 : decode cJ2_charAt_3b067 6 = .ok (.iload_n 1, 1) := by decide +kernel
theorem dJ2_charAt_3b067_7 : decode cJ2_charAt_3b067 7 = .ok (.invokestatic 71, 3) := by decide +kernel
theorem dJ2_charAt_3b067_10 : decode cJ2_charAt_3b067 10 = .ok (.ireturn, 1) := by decide +kernel
theorem dJ2_checkIndex_2214a_0 : decode cJ2_checkIndex_2214a 0 = .ok (.iload_n 0, 1) := by decide +kernel
theorem dJ2_checkIndex_2214a_1 : decode cJ2_checkIndex_2214a 1 = .ok (.aload_n 1, 1) := by decide +kernel
theorem dJ2_checkIndex_2214a_2 : decode cJ2_checkIndex_2214a 2 = .ok (.invokestatic 48, 3) := by decide +kernel
theorem dJ2_checkIndex_2214a_5 : decode cJ2_checkIndex_2214a 5 = .ok (.invokestatic 414, 3) := by decide +kernel
theorem dJ2_checkIndex_2214a_8 : decode cJ2_checkIndex_2214a 8 = .ok (.return_, 1) := by decide +kernel
theorem dJ2_checkBoundsBeginEnd_d044e_0 : decode cJ2_checkBoundsBeginEnd_d044e 0 = .ok (.iload_n 0, 1) := by decide +kernel
theorem dJ2_checkBoundsBeginEnd_d044e_1 : decode cJ2_checkBoundsBeginEnd_d044e 1 = .ok (.iload_n 1, 1) := by decide +kernel
theorem dJ2_checkBoundsBeginEnd_d044e_2 : decode cJ2_checkBoundsBeginEnd_d044e 2 = .ok (.aload_n 2, 1) := by decide +kernel
theorem dJ2_checkBoundsBeginEnd_d044e_3 : decode cJ2_checkBoundsBeginEnd_d044e 3 = .ok (.invokestatic 48, 3) := by decide +kernel
theorem dJ2_checkBoundsBeginEnd_d044e_6 : decode cJ2_checkBoundsBeginEnd_d044e 6 = .ok (.invokestatic 241, 3) := by decide +kernel
theorem dJ2_checkBoundsBeginEnd_d044e_9 : decode cJ2_checkBoundsBeginEnd_d044e 9 = .ok (.return_, 1) := by decide +kernel
theorem dJ7_fill_53178_0 : decode cJ7_fill_53178 0 = .ok (.iconst 0, 1) := by decide +kernel
theorem dJ7_fill_53178_1 : decode cJ7_fill_53178 1 = .ok (.istore_n 2, 1) := by decide +kernel
theorem dJ7_fill_53178_2 : decode cJ7_fill_53178 2 = .ok (.aload_n 0, 1) := by decide +kernel
theorem dJ7_fill_53178_3 : decode cJ7_fill_53178 3 = .ok (.arraylength, 1) := by decide +kernel
theorem dJ7_fill_53178_4 : decode cJ7_fill_53178 4 = .ok (.istore_n 3, 1) := by decide +kernel
theorem dJ7_fill_53178_5 : decode cJ7_fill_53178 5 = .ok (.iload_n 2, 1) := by decide +kernel
theorem dJ7_fill_53178_6 : decode cJ7_fill_53178 6 = .ok (.iload_n 3, 1) := by decide +kernel
theorem dJ7_fill_53178_7 : decode cJ7_fill_53178 7 = .ok (.if_icmp .ge 13, 3) := by decide +kernel
theorem dJ7_fill_53178_10 : decode cJ7_fill_53178 10 = .ok (.aload_n 0, 1) := by decide +kernel
theorem dJ7_fill_53178_11 : decode cJ7_fill_53178 11 = .ok (.iload_n 2, 1) := by decide +kernel
theorem dJ7_fill_53178_12 : decode cJ7_fill_53178 12 = .ok (.iload_n 1, 1) := by decide +kernel
theorem dJ7_fill_53178_13 : decode cJ7_fill_53178 13 = .ok (.iastore, 1) := by decide +kernel
theorem dJ7_fill_53178_14 : decode cJ7_fill_53178 14 = .ok (.iinc 2 1, 3) := by decide +kernel
theorem dJ7_fill_53178_17 : decode cJ7_fill_53178 17 = .ok (.goto (-12), 3) := by decide +kernel
theorem dJ7_fill_53178_20 : decode cJ7_fill_53178 20 = .ok (.return_, 1) := by decide +kernel
theorem dJ3_checkIndex_8e157_0 : decode cJ3_checkIndex_8e157 0 = .ok (.iload_n 0, 1) := by decide +kernel
theorem dJ3_checkIndex_8e157_1 : decode cJ3_checkIndex_8e157 1 = .ok (.ifCond .lt 8, 3) := by decide +kernel
theorem dJ3_checkIndex_8e157_4 : decode cJ3_checkIndex_8e157 4 = .ok (.iload_n 0, 1) := by decide +kernel
theorem dJ3_checkIndex_8e157_5 : decode cJ3_checkIndex_8e157 5 = .ok (.iload_n 1, 1) := by decide +kernel
theorem dJ3_checkIndex_8e157_6 : decode cJ3_checkIndex_8e157 6 = .ok (.if_icmp .lt 10, 3) := by decide +kernel
theorem dJ3_checkIndex_8e157_9 : decode cJ3_checkIndex_8e157 9 = .ok (.aload_n 2, 1) := by decide +kernel
theorem dJ3_checkIndex_8e157_10 : decode cJ3_checkIndex_8e157 10 = .ok (.iload_n 0, 1) := by decide +kernel
theorem dJ3_checkIndex_8e157_11 : decode cJ3_checkIndex_8e157 11 = .ok (.iload_n 1, 1) := by decide +kernel
theorem dJ3_checkIndex_8e157_12 : decode cJ3_checkIndex_8e157 12 = .ok (.invokestatic 95, 3) := by decide +kernel
theorem dJ3_checkIndex_8e157_15 : decode cJ3_checkIndex_8e157 15 = .ok (.athrow, 1) := by decide +kernel
theorem dJ3_checkIndex_8e157_16 : decode cJ3_checkIndex_8e157 16 = .ok (.iload_n 0, 1) := by decide +kernel
theorem dJ3_checkIndex_8e157_17 : decode cJ3_checkIndex_8e157 17 = .ok (.ireturn, 1) := by decide +kernel
theorem dJ3_checkFromToIndex_8c36e_0 : decode cJ3_checkFromToIndex_8c36e 0 = .ok (.iload_n 0, 1) := by decide +kernel
theorem dJ3_checkFromToIndex_8c36e_1 : decode cJ3_checkFromToIndex_8c36e 1 = .ok (.ifCond .lt 13, 3) := by decide +kernel
theorem dJ3_checkFromToIndex_8c36e_4 : decode cJ3_checkFromToIndex_8c36e 4 = .ok (.iload_n 0, 1) := by decide +kernel
theorem dJ3_checkFromToIndex_8c36e_5 : decode cJ3_checkFromToIndex_8c36e 5 = .ok (.iload_n 1, 1) := by decide +kernel
theorem dJ3_checkFromToIndex_8c36e_6 : decode cJ3_checkFromToIndex_8c36e 6 = .ok (.if_icmp .gt 8, 3) := by decide +kernel
theorem dJ3_checkFromToIndex_8c36e_9 : decode cJ3_checkFromToIndex_8c36e 9 = .ok (.iload_n 1, 1) := by decide +kernel
theorem dJ3_checkFromToIndex_8c36e_10 : decode cJ3_checkFromToIndex_8c36e 10 = .ok (.iload_n 2, 1) := by decide +kernel
theorem dJ3_checkFromToIndex_8c36e_11 : decode cJ3_checkFromToIndex_8c36e 11 = .ok (.if_icmp .le 11, 3) := by decide +kernel
theorem dJ3_checkFromToIndex_8c36e_14 : decode cJ3_checkFromToIndex_8c36e 14 = .ok (.aload_n 3, 1) := by decide +kernel
theorem dJ3_checkFromToIndex_8c36e_15 : decode cJ3_checkFromToIndex_8c36e 15 = .ok (.iload_n 0, 1) := by decide +kernel
theorem dJ3_checkFromToIndex_8c36e_16 : decode cJ3_checkFromToIndex_8c36e 16 = .ok (.iload_n 1, 1) := by decide +kernel
theorem dJ3_checkFromToIndex_8c36e_17 : decode cJ3_checkFromToIndex_8c36e 17 = .ok (.iload_n 2, 1) := by decide +kernel
theorem dJ3_checkFromToIndex_8c36e_18 : decode cJ3_checkFromToIndex_8c36e 18 = .ok (.invokestatic 99, 3) := by decide +kernel
theorem dJ3_checkFromToIndex_8c36e_21 : decode cJ3_checkFromToIndex_8c36e 21 = .ok (.athrow, 1) := by decide +kernel
theorem dJ3_checkFromToIndex_8c36e_22 : decode cJ3_checkFromToIndex_8c36e 22 = .ok (.iload_n 0, 1) := by decide +kernel
theorem dJ3_checkFromToIndex_8c36e_23 : decode cJ3_checkFromToIndex_8c36e 23 = .ok (.ireturn, 1) := by decide +kernel
theorem dL_fix_0 : decode cL_fix 0 = .ok (.aload_n 2, 1) := by decide +kernel
theorem dL_fix_1 : decode cL_fix 1 = .ok (.iconst 0, 1) := by decide +kernel
theorem dL_fix_2 : decode cL_fix 2 = .ok (.aload_n 0, 1) := by decide +kernel
theorem dL_fix_3 : decode cL_fix 3 = .ok (.iload_n 1, 1) := by decide +kernel
theorem dL_fix_4 : decode cL_fix 4 = .ok (.invokevirtual 7, 3) := by decide +kernel
theorem dL_fix_7 : decode cL_fix 7 = .ok (.i2l, 1) := by decide +kernel
theorem dL_fix_8 : decode cL_fix 8 = .ok (.lastore, 1) := by decide +kernel
theorem dL_fix_9 : decode cL_fix 9 = .ok (.goto 6, 3) := by decide +kernel
theorem dL_fix_12 : decode cL_fix 12 = .ok (.astore_n 3, 1) := by decide +kernel
theorem dL_fix_13 : decode cL_fix 13 = .ok (.iconst 1, 1) := by decide +kernel
theorem dL_fix_14 : decode cL_fix 14 = .ok (.ireturn, 1) := by decide +kernel
theorem dL_fix_15 : decode cL_fix 15 = .ok (.iconst 0, 1) := by decide +kernel
theorem dL_fix_16 : decode cL_fix 16 = .ok (.ireturn, 1) := by decide +kernel
theorem dL_vessel_0 : decode cL_vessel 0 = .ok (.aload_n 3, 1) := by decide +kernel
theorem dL_vessel_1 : decode cL_vessel 1 = .ok (.iconst 0, 1) := by decide +kernel
theorem dL_vessel_2 : decode cL_vessel 2 = .ok (.aload_n 0, 1) := by decide +kernel
theorem dL_vessel_3 : decode cL_vessel 3 = .ok (.iload_n 1, 1) := by decide +kernel
theorem dL_vessel_4 : decode cL_vessel 4 = .ok (.iload_n 2, 1) := by decide +kernel
theorem dL_vessel_5 : decode cL_vessel 5 = .ok (.invokevirtual 15, 3) := by decide +kernel
theorem dL_vessel_8 : decode cL_vessel 8 = .ok (.i2l, 1) := by decide +kernel
theorem dL_vessel_9 : decode cL_vessel 9 = .ok (.lastore, 1) := by decide +kernel
theorem dL_vessel_10 : decode cL_vessel 10 = .ok (.goto 7, 3) := by decide +kernel
theorem dL_vessel_13 : decode cL_vessel 13 = .ok (.astore 4, 2) := by decide +kernel
theorem dL_vessel_15 : decode cL_vessel 15 = .ok (.iconst 1, 1) := by decide +kernel
theorem dL_vessel_16 : decode cL_vessel 16 = .ok (.ireturn, 1) := by decide +kernel
theorem dL_vessel_17 : decode cL_vessel 17 = .ok (.iconst 0, 1) := by decide +kernel
theorem dL_vessel_18 : decode cL_vessel 18 = .ok (.ireturn, 1) := by decide +kernel
theorem dL_bits_0 : decode cL_bits 0 = .ok (.aload_n 3, 1) := by decide +kernel
theorem dL_bits_1 : decode cL_bits 1 = .ok (.iconst 0, 1) := by decide +kernel
theorem dL_bits_2 : decode cL_bits 2 = .ok (.aload_n 0, 1) := by decide +kernel
theorem dL_bits_3 : decode cL_bits 3 = .ok (.iload_n 1, 1) := by decide +kernel
theorem dL_bits_4 : decode cL_bits 4 = .ok (.iload_n 2, 1) := by decide +kernel
theorem dL_bits_5 : decode cL_bits 5 = .ok (.invokevirtual 19, 3) := by decide +kernel
theorem dL_bits_8 : decode cL_bits 8 = .ok (.i2l, 1) := by decide +kernel
theorem dL_bits_9 : decode cL_bits 9 = .ok (.lastore, 1) := by decide +kernel
theorem dL_bits_10 : decode cL_bits 10 = .ok (.goto 7, 3) := by decide +kernel
theorem dL_bits_13 : decode cL_bits 13 = .ok (.astore 4, 2) := by decide +kernel
theorem dL_bits_15 : decode cL_bits 15 = .ok (.iconst 1, 1) := by decide +kernel
theorem dL_bits_16 : decode cL_bits 16 = .ok (.ireturn, 1) := by decide +kernel
theorem dL_bits_17 : decode cL_bits 17 = .ok (.iconst 0, 1) := by decide +kernel
theorem dL_bits_18 : decode cL_bits 18 = .ok (.ireturn, 1) := by decide +kernel
theorem dL_send_0 : decode cL_send 0 = .ok (.aload 4, 2) := by decide +kernel
theorem dL_send_2 : decode cL_send 2 = .ok (.iconst 0, 1) := by decide +kernel
theorem dL_send_3 : decode cL_send 3 = .ok (.aload_n 0, 1) := by decide +kernel
theorem dL_send_4 : decode cL_send 4 = .ok (.iload_n 1, 1) := by decide +kernel
theorem dL_send_5 : decode cL_send 5 = .ok (.iload_n 2, 1) := by decide +kernel
theorem dL_send_6 : decode cL_send 6 = .ok (.iload_n 3, 1) := by decide +kernel
theorem dL_send_7 : decode cL_send 7 = .ok (.invokevirtual 22, 3) := by decide +kernel
theorem dL_send_10 : decode cL_send 10 = .ok (.i2l, 1) := by decide +kernel
theorem dL_send_11 : decode cL_send 11 = .ok (.lastore, 1) := by decide +kernel
theorem dL_send_12 : decode cL_send 12 = .ok (.goto 11, 3) := by decide +kernel
theorem dL_send_15 : decode cL_send 15 = .ok (.astore 5, 2) := by decide +kernel
theorem dL_send_17 : decode cL_send 17 = .ok (.iconst 1, 1) := by decide +kernel
theorem dL_send_18 : decode cL_send 18 = .ok (.ireturn, 1) := by decide +kernel
theorem dL_send_19 : decode cL_send 19 = .ok (.astore 5, 2) := by decide +kernel
theorem dL_send_21 : decode cL_send 21 = .ok (.iconst 2, 1) := by decide +kernel
theorem dL_send_22 : decode cL_send 22 = .ok (.ireturn, 1) := by decide +kernel
theorem dL_send_23 : decode cL_send 23 = .ok (.iconst 0, 1) := by decide +kernel
theorem dL_send_24 : decode cL_send 24 = .ok (.ireturn, 1) := by decide +kernel
theorem dL_law_0 : decode cL_law 0 = .ok (.new 8, 3) := by decide +kernel
theorem dL_law_3 : decode cL_law 3 = .ok (.dup, 1) := by decide +kernel
theorem dL_law_4 : decode cL_law 4 = .ok (.invokespecial 28, 3) := by decide +kernel
theorem dL_law_7 : decode cL_law 7 = .ok (.astore_n 1, 1) := by decide +kernel
theorem dL_law_8 : decode cL_law 8 = .ok (.new 29, 3) := by decide +kernel
theorem dL_law_11 : decode cL_law 11 = .ok (.dup, 1) := by decide +kernel
theorem dL_law_12 : decode cL_law 12 = .ok (.invokespecial 31, 3) := by decide +kernel
theorem dL_law_15 : decode cL_law 15 = .ok (.astore_n 2, 1) := by decide +kernel
theorem dL_law_16 : decode cL_law 16 = .ok (.iconst 1, 1) := by decide +kernel
theorem dL_law_17 : decode cL_law 17 = .ok (.newarray .long, 2) := by decide +kernel
theorem dL_law_19 : decode cL_law 19 = .ok (.astore_n 3, 1) := by decide +kernel
theorem dL_law_20 : decode cL_law 20 = .ok (.iconst 0, 1) := by decide +kernel
theorem dL_law_21 : decode cL_law 21 = .ok (.istore 4, 2) := by decide +kernel
theorem dL_law_23 : decode cL_law 23 = .ok (.iload 4, 2) := by decide +kernel
theorem dL_law_25 : decode cL_law 25 = .ok (.aload_n 0, 1) := by decide +kernel
theorem dL_law_26 : decode cL_law 26 = .ok (.arraylength, 1) := by decide +kernel
theorem dL_law_27 : decode cL_law 27 = .ok (.bipush 6, 2) := by decide +kernel
theorem dL_law_29 : decode cL_law 29 = .ok (.isub, 1) := by decide +kernel
theorem dL_law_30 : decode cL_law 30 = .ok (.if_icmp .gt 615, 3) := by decide +kernel
theorem dL_law_33 : decode cL_law 33 = .ok (.aload_n 0, 1) := by decide +kernel
theorem dL_law_34 : decode cL_law 34 = .ok (.iload 4, 2) := by decide +kernel
theorem dL_law_36 : decode cL_law 36 = .ok (.iaload, 1) := by decide +kernel
theorem dL_law_37 : decode cL_law 37 = .ok (.bipush 15, 2) := by decide +kernel
theorem dL_law_39 : decode cL_law 39 = .ok (.iand, 1) := by decide +kernel
theorem dL_law_40 : decode cL_law 40 = .ok (.tableswitch 599 0 12 #[68, 141, 166, 179, 204, 260, 285, 353, 402, 470, 550, 575, 588], 68) := by decide +kernel
theorem dL_law_108 : decode cL_law 108 = .ok (.aload_n 1, 1) := by decide +kernel
theorem dL_law_109 : decode cL_law 109 = .ok (.aload_n 0, 1) := by decide +kernel
theorem dL_law_110 : decode cL_law 110 = .ok (.iload 4, 2) := by decide +kernel
theorem dL_law_112 : decode cL_law 112 = .ok (.iconst 1, 1) := by decide +kernel
theorem dL_law_113 : decode cL_law 113 = .ok (.iadd, 1) := by decide +kernel
theorem dL_law_114 : decode cL_law 114 = .ok (.iaload, 1) := by decide +kernel
theorem dL_law_115 : decode cL_law 115 = .ok (.aload_n 0, 1) := by decide +kernel
theorem dL_law_116 : decode cL_law 116 = .ok (.iload 4, 2) := by decide +kernel
theorem dL_law_118 : decode cL_law 118 = .ok (.iconst 2, 1) := by decide +kernel
theorem dL_law_119 : decode cL_law 119 = .ok (.iadd, 1) := by decide +kernel
theorem dL_law_120 : decode cL_law 120 = .ok (.iaload, 1) := by decide +kernel
theorem dL_law_121 : decode cL_law 121 = .ok (.aload_n 0, 1) := by decide +kernel
theorem dL_law_122 : decode cL_law 122 = .ok (.iload 4, 2) := by decide +kernel
theorem dL_law_124 : decode cL_law 124 = .ok (.iconst 3, 1) := by decide +kernel
theorem dL_law_125 : decode cL_law 125 = .ok (.iadd, 1) := by decide +kernel
theorem dL_law_126 : decode cL_law 126 = .ok (.iaload, 1) := by decide +kernel
theorem dL_law_127 : decode cL_law 127 = .ok (.aload_n 0, 1) := by decide +kernel
theorem dL_law_128 : decode cL_law 128 = .ok (.iload 4, 2) := by decide +kernel
theorem dL_law_130 : decode cL_law 130 = .ok (.iconst 4, 1) := by decide +kernel
theorem dL_law_131 : decode cL_law 131 = .ok (.iadd, 1) := by decide +kernel
theorem dL_law_132 : decode cL_law 132 = .ok (.iaload, 1) := by decide +kernel
theorem dL_law_133 : decode cL_law 133 = .ok (.aload_n 0, 1) := by decide +kernel
theorem dL_law_134 : decode cL_law 134 = .ok (.iload 4, 2) := by decide +kernel
theorem dL_law_136 : decode cL_law 136 = .ok (.iconst 5, 1) := by decide +kernel
theorem dL_law_137 : decode cL_law 137 = .ok (.iadd, 1) := by decide +kernel
theorem dL_law_138 : decode cL_law 138 = .ok (.iaload, 1) := by decide +kernel
theorem dL_law_139 : decode cL_law 139 = .ok (.invokevirtual 32, 3) := by decide +kernel
theorem dL_law_142 : decode cL_law 142 = .ok (.aload_n 2, 1) := by decide +kernel
theorem dL_law_143 : decode cL_law 143 = .ok (.aload_n 0, 1) := by decide +kernel
theorem dL_law_144 : decode cL_law 144 = .ok (.iload 4, 2) := by decide +kernel
theorem dL_law_146 : decode cL_law 146 = .ok (.iconst 1, 1) := by decide +kernel
theorem dL_law_147 : decode cL_law 147 = .ok (.iadd, 1) := by decide +kernel
theorem dL_law_148 : decode cL_law 148 = .ok (.iaload, 1) := by decide +kernel
theorem dL_law_149 : decode cL_law 149 = .ok (.aload_n 0, 1) := by decide +kernel
theorem dL_law_150 : decode cL_law 150 = .ok (.iload 4, 2) := by decide +kernel
theorem dL_law_152 : decode cL_law 152 = .ok (.iconst 2, 1) := by decide +kernel
theorem dL_law_153 : decode cL_law 153 = .ok (.iadd, 1) := by decide +kernel
theorem dL_law_154 : decode cL_law 154 = .ok (.iaload, 1) := by decide +kernel
theorem dL_law_155 : decode cL_law 155 = .ok (.aload_n 0, 1) := by decide +kernel
theorem dL_law_156 : decode cL_law 156 = .ok (.iload 4, 2) := by decide +kernel
theorem dL_law_158 : decode cL_law 158 = .ok (.iconst 3, 1) := by decide +kernel
theorem dL_law_159 : decode cL_law 159 = .ok (.iadd, 1) := by decide +kernel
theorem dL_law_160 : decode cL_law 160 = .ok (.iaload, 1) := by decide +kernel
theorem dL_law_161 : decode cL_law 161 = .ok (.aload_n 0, 1) := by decide +kernel
theorem dL_law_162 : decode cL_law 162 = .ok (.iload 4, 2) := by decide +kernel
theorem dL_law_164 : decode cL_law 164 = .ok (.iconst 4, 1) := by decide +kernel
theorem dL_law_165 : decode cL_law 165 = .ok (.iadd, 1) := by decide +kernel
theorem dL_law_166 : decode cL_law 166 = .ok (.iaload, 1) := by decide +kernel
theorem dL_law_167 : decode cL_law 167 = .ok (.aload_n 0, 1) := by decide +kernel
theorem dL_law_168 : decode cL_law 168 = .ok (.iload 4, 2) := by decide +kernel
theorem dL_law_170 : decode cL_law 170 = .ok (.iconst 5, 1) := by decide +kernel
theorem dL_law_171 : decode cL_law 171 = .ok (.iadd, 1) := by decide +kernel
theorem dL_law_172 : decode cL_law 172 = .ok (.iaload, 1) := by decide +kernel
theorem dL_law_173 : decode cL_law 173 = .ok (.invokevirtual 36, 3) := by decide +kernel
theorem dL_law_176 : decode cL_law 176 = .ok (.if_icmp .eq 463, 3) := by decide +kernel
theorem dL_law_179 : decode cL_law 179 = .ok (.iconst 0, 1) := by decide +kernel
theorem dL_law_180 : decode cL_law 180 = .ok (.ireturn, 1) := by decide +kernel
theorem dL_law_181 : decode cL_law 181 = .ok (.aload_n 1, 1) := by decide +kernel
theorem dL_law_182 : decode cL_law 182 = .ok (.aload_n 0, 1) := by decide +kernel
theorem dL_law_183 : decode cL_law 183 = .ok (.iload 4, 2) := by decide +kernel
theorem dL_law_185 : decode cL_law 185 = .ok (.iconst 1, 1) := by decide +kernel
theorem dL_law_186 : decode cL_law 186 = .ok (.iadd, 1) := by decide +kernel
theorem dL_law_187 : decode cL_law 187 = .ok (.iaload, 1) := by decide +kernel
theorem dL_law_188 : decode cL_law 188 = .ok (.invokevirtual 37, 3) := by decide +kernel
theorem dL_law_191 : decode cL_law 191 = .ok (.aload_n 2, 1) := by decide +kernel
theorem dL_law_192 : decode cL_law 192 = .ok (.aload_n 0, 1) := by decide +kernel
theorem dL_law_193 : decode cL_law 193 = .ok (.iload 4, 2) := by decide +kernel
theorem dL_law_195 : decode cL_law 195 = .ok (.iconst 1, 1) := by decide +kernel
theorem dL_law_196 : decode cL_law 196 = .ok (.iadd, 1) := by decide +kernel
theorem dL_law_197 : decode cL_law 197 = .ok (.iaload, 1) := by decide +kernel
theorem dL_law_198 : decode cL_law 198 = .ok (.invokevirtual 41, 3) := by decide +kernel
theorem dL_law_201 : decode cL_law 201 = .ok (.if_icmp .eq 438, 3) := by decide +kernel
theorem dL_law_204 : decode cL_law 204 = .ok (.iconst 0, 1) := by decide +kernel
theorem dL_law_205 : decode cL_law 205 = .ok (.ireturn, 1) := by decide +kernel
theorem dL_law_206 : decode cL_law 206 = .ok (.aload_n 1, 1) := by decide +kernel
theorem dL_law_207 : decode cL_law 207 = .ok (.invokevirtual 42, 3) := by decide +kernel
theorem dL_law_210 : decode cL_law 210 = .ok (.aload_n 2, 1) := by decide +kernel
theorem dL_law_211 : decode cL_law 211 = .ok (.invokevirtual 46, 3) := by decide +kernel
theorem dL_law_214 : decode cL_law 214 = .ok (.if_icmp .eq 425, 3) := by decide +kernel
theorem dL_law_217 : decode cL_law 217 = .ok (.iconst 0, 1) := by decide +kernel
theorem dL_law_218 : decode cL_law 218 = .ok (.ireturn, 1) := by decide +kernel
theorem dL_law_219 : decode cL_law 219 = .ok (.aload_n 1, 1) := by decide +kernel
theorem dL_law_220 : decode cL_law 220 = .ok (.aload_n 0, 1) := by decide +kernel
theorem dL_law_221 : decode cL_law 221 = .ok (.iload 4, 2) := by decide +kernel
theorem dL_law_223 : decode cL_law 223 = .ok (.iconst 1, 1) := by decide +kernel
theorem dL_law_224 : decode cL_law 224 = .ok (.iadd, 1) := by decide +kernel
theorem dL_law_225 : decode cL_law 225 = .ok (.iaload, 1) := by decide +kernel
theorem dL_law_226 : decode cL_law 226 = .ok (.invokevirtual 47, 3) := by decide +kernel
theorem dL_law_229 : decode cL_law 229 = .ok (.aload_n 2, 1) := by decide +kernel
theorem dL_law_230 : decode cL_law 230 = .ok (.aload_n 0, 1) := by decide +kernel
theorem dL_law_231 : decode cL_law 231 = .ok (.iload 4, 2) := by decide +kernel
theorem dL_law_233 : decode cL_law 233 = .ok (.iconst 1, 1) := by decide +kernel
theorem dL_law_234 : decode cL_law 234 = .ok (.iadd, 1) := by decide +kernel
theorem dL_law_235 : decode cL_law 235 = .ok (.iaload, 1) := by decide +kernel
theorem dL_law_236 : decode cL_law 236 = .ok (.invokevirtual 50, 3) := by decide +kernel
theorem dL_law_239 : decode cL_law 239 = .ok (.if_icmp .eq 400, 3) := by decide +kernel
theorem dL_law_242 : decode cL_law 242 = .ok (.iconst 0, 1) := by decide +kernel
theorem dL_law_243 : decode cL_law 243 = .ok (.ireturn, 1) := by decide +kernel
theorem dL_law_244 : decode cL_law 244 = .ok (.aload_n 1, 1) := by decide +kernel
theorem dL_law_245 : decode cL_law 245 = .ok (.aload_n 0, 1) := by decide +kernel
theorem dL_law_246 : decode cL_law 246 = .ok (.iload 4, 2) := by decide +kernel
theorem dL_law_248 : decode cL_law 248 = .ok (.iconst 1, 1) := by decide +kernel
theorem dL_law_249 : decode cL_law 249 = .ok (.iadd, 1) := by decide +kernel
theorem dL_law_250 : decode cL_law 250 = .ok (.iaload, 1) := by decide +kernel
theorem dL_law_251 : decode cL_law 251 = .ok (.aload_n 3, 1) := by decide +kernel
theorem dL_law_252 : decode cL_law 252 = .ok (.invokestatic 51, 3) := by decide +kernel
theorem dL_law_255 : decode cL_law 255 = .ok (.istore 5, 2) := by decide +kernel
theorem dL_law_257 : decode cL_law 257 = .ok (.aload_n 2, 1) := by decide +kernel
theorem dL_law_258 : decode cL_law 258 = .ok (.aload_n 0, 1) := by decide +kernel
theorem dL_law_259 : decode cL_law 259 = .ok (.iload 4, 2) := by decide +kernel
theorem dL_law_261 : decode cL_law 261 = .ok (.iconst 1, 1) := by decide +kernel
theorem dL_law_262 : decode cL_law 262 = .ok (.iadd, 1) := by decide +kernel
theorem dL_law_263 : decode cL_law 263 = .ok (.iaload, 1) := by decide +kernel
theorem dL_law_264 : decode cL_law 264 = .ok (.invokevirtual 56, 3) := by decide +kernel
theorem dL_law_267 : decode cL_law 267 = .ok (.istore 6, 2) := by decide +kernel
theorem dL_law_269 : decode cL_law 269 = .ok (.aload_n 2, 1) := by decide +kernel
theorem dL_law_270 : decode cL_law 270 = .ok (.invokevirtual 57, 3) := by decide +kernel
theorem dL_law_273 : decode cL_law 273 = .ok (.iload 5, 2) := by decide +kernel
theorem dL_law_275 : decode cL_law 275 = .ok (.if_icmp .eq 5, 3) := by decide +kernel
theorem dL_law_278 : decode cL_law 278 = .ok (.iconst 0, 1) := by decide +kernel
theorem dL_law_279 : decode cL_law 279 = .ok (.ireturn, 1) := by decide +kernel
theorem dL_law_280 : decode cL_law 280 = .ok (.iload 5, 2) := by decide +kernel
theorem dL_law_282 : decode cL_law 282 = .ok (.ifCond .ne 15, 3) := by decide +kernel
theorem dL_law_285 : decode cL_law 285 = .ok (.aload_n 3, 1) := by decide +kernel
theorem dL_law_286 : decode cL_law 286 = .ok (.iconst 0, 1) := by decide +kernel
theorem dL_law_287 : decode cL_law 287 = .ok (.laload, 1) := by decide +kernel
theorem dL_law_288 : decode cL_law 288 = .ok (.iload 6, 2) := by decide +kernel
theorem dL_law_290 : decode cL_law 290 = .ok (.i2l, 1) := by decide +kernel
theorem dL_law_291 : decode cL_law 291 = .ok (.lcmp, 1) := by decide +kernel
theorem dL_law_292 : decode cL_law 292 = .ok (.ifCond .eq 5, 3) := by decide +kernel
theorem dL_law_295 : decode cL_law 295 = .ok (.iconst 0, 1) := by decide +kernel
theorem dL_law_296 : decode cL_law 296 = .ok (.ireturn, 1) := by decide +kernel
theorem dL_law_297 : decode cL_law 297 = .ok (.goto 342, 3) := by decide +kernel
theorem dL_law_300 : decode cL_law 300 = .ok (.aload_n 1, 1) := by decide +kernel
theorem dL_law_301 : decode cL_law 301 = .ok (.aload_n 0, 1) := by decide +kernel
theorem dL_law_302 : decode cL_law 302 = .ok (.iload 4, 2) := by decide +kernel
theorem dL_law_304 : decode cL_law 304 = .ok (.iconst 1, 1) := by decide +kernel
theorem dL_law_305 : decode cL_law 305 = .ok (.iadd, 1) := by decide +kernel
theorem dL_law_306 : decode cL_law 306 = .ok (.iaload, 1) := by decide +kernel
theorem dL_law_307 : decode cL_law 307 = .ok (.invokevirtual 60, 3) := by decide +kernel
theorem dL_law_310 : decode cL_law 310 = .ok (.aload_n 2, 1) := by decide +kernel
theorem dL_law_311 : decode cL_law 311 = .ok (.aload_n 0, 1) := by decide +kernel
theorem dL_law_312 : decode cL_law 312 = .ok (.iload 4, 2) := by decide +kernel
theorem dL_law_314 : decode cL_law 314 = .ok (.iconst 1, 1) := by decide +kernel
theorem dL_law_315 : decode cL_law 315 = .ok (.iadd, 1) := by decide +kernel
theorem dL_law_316 : decode cL_law 316 = .ok (.iaload, 1) := by decide +kernel
theorem dL_law_317 : decode cL_law 317 = .ok (.invokevirtual 63, 3) := by decide +kernel
theorem dL_law_320 : decode cL_law 320 = .ok (.if_icmp .eq 319, 3) := by decide +kernel
theorem dL_law_323 : decode cL_law 323 = .ok (.iconst 0, 1) := by decide +kernel
theorem dL_law_324 : decode cL_law 324 = .ok (.ireturn, 1) := by decide +kernel
theorem dL_law_325 : decode cL_law 325 = .ok (.aload_n 1, 1) := by decide +kernel
theorem dL_law_326 : decode cL_law 326 = .ok (.aload_n 0, 1) := by decide +kernel
theorem dL_law_327 : decode cL_law 327 = .ok (.iload 4, 2) := by decide +kernel
theorem dL_law_329 : decode cL_law 329 = .ok (.iconst 1, 1) := by decide +kernel
theorem dL_law_330 : decode cL_law 330 = .ok (.iadd, 1) := by decide +kernel
theorem dL_law_331 : decode cL_law 331 = .ok (.iaload, 1) := by decide +kernel
theorem dL_law_332 : decode cL_law 332 = .ok (.aload_n 0, 1) := by decide +kernel
theorem dL_law_333 : decode cL_law 333 = .ok (.iload 4, 2) := by decide +kernel
theorem dL_law_335 : decode cL_law 335 = .ok (.iconst 2, 1) := by decide +kernel
theorem dL_law_336 : decode cL_law 336 = .ok (.iadd, 1) := by decide +kernel
theorem dL_law_337 : decode cL_law 337 = .ok (.iaload, 1) := by decide +kernel
theorem dL_law_338 : decode cL_law 338 = .ok (.aload_n 3, 1) := by decide +kernel
theorem dL_law_339 : decode cL_law 339 = .ok (.invokestatic 64, 3) := by decide +kernel
theorem dL_law_342 : decode cL_law 342 = .ok (.istore 5, 2) := by decide +kernel
theorem dL_law_344 : decode cL_law 344 = .ok (.aload_n 2, 1) := by decide +kernel
theorem dL_law_345 : decode cL_law 345 = .ok (.aload_n 0, 1) := by decide +kernel
theorem dL_law_346 : decode cL_law 346 = .ok (.iload 4, 2) := by decide +kernel
theorem dL_law_348 : decode cL_law 348 = .ok (.iconst 1, 1) := by decide +kernel
theorem dL_law_349 : decode cL_law 349 = .ok (.iadd, 1) := by decide +kernel
theorem dL_law_350 : decode cL_law 350 = .ok (.iaload, 1) := by decide +kernel
theorem dL_law_351 : decode cL_law 351 = .ok (.aload_n 0, 1) := by decide +kernel
theorem dL_law_352 : decode cL_law 352 = .ok (.iload 4, 2) := by decide +kernel
theorem dL_law_354 : decode cL_law 354 = .ok (.iconst 2, 1) := by decide +kernel
theorem dL_law_355 : decode cL_law 355 = .ok (.iadd, 1) := by decide +kernel
theorem dL_law_356 : decode cL_law 356 = .ok (.iaload, 1) := by decide +kernel
theorem dL_law_357 : decode cL_law 357 = .ok (.invokevirtual 67, 3) := by decide +kernel
theorem dL_law_360 : decode cL_law 360 = .ok (.istore 6, 2) := by decide +kernel
theorem dL_law_362 : decode cL_law 362 = .ok (.aload_n 2, 1) := by decide +kernel
theorem dL_law_363 : decode cL_law 363 = .ok (.invokevirtual 57, 3) := by decide +kernel
theorem dL_law_366 : decode cL_law 366 = .ok (.iload 5, 2) := by decide +kernel
theorem dL_law_368 : decode cL_law 368 = .ok (.if_icmp .eq 5, 3) := by decide +kernel
theorem dL_law_371 : decode cL_law 371 = .ok (.iconst 0, 1) := by decide +kernel
theorem dL_law_372 : decode cL_law 372 = .ok (.ireturn, 1) := by decide +kernel
theorem dL_law_373 : decode cL_law 373 = .ok (.iload 5, 2) := by decide +kernel
theorem dL_law_375 : decode cL_law 375 = .ok (.ifCond .ne 15, 3) := by decide +kernel
theorem dL_law_378 : decode cL_law 378 = .ok (.aload_n 3, 1) := by decide +kernel
theorem dL_law_379 : decode cL_law 379 = .ok (.iconst 0, 1) := by decide +kernel
theorem dL_law_380 : decode cL_law 380 = .ok (.laload, 1) := by decide +kernel
theorem dL_law_381 : decode cL_law 381 = .ok (.iload 6, 2) := by decide +kernel
theorem dL_law_383 : decode cL_law 383 = .ok (.i2l, 1) := by decide +kernel
theorem dL_law_384 : decode cL_law 384 = .ok (.lcmp, 1) := by decide +kernel
theorem dL_law_385 : decode cL_law 385 = .ok (.ifCond .eq 5, 3) := by decide +kernel
theorem dL_law_388 : decode cL_law 388 = .ok (.iconst 0, 1) := by decide +kernel
theorem dL_law_389 : decode cL_law 389 = .ok (.ireturn, 1) := by decide +kernel
theorem dL_law_390 : decode cL_law 390 = .ok (.goto 249, 3) := by decide +kernel
theorem dL_law_393 : decode cL_law 393 = .ok (.aload_n 1, 1) := by decide +kernel
theorem dL_law_394 : decode cL_law 394 = .ok (.aload_n 0, 1) := by decide +kernel
theorem dL_law_395 : decode cL_law 395 = .ok (.iload 4, 2) := by decide +kernel
theorem dL_law_397 : decode cL_law 397 = .ok (.iconst 1, 1) := by decide +kernel
theorem dL_law_398 : decode cL_law 398 = .ok (.iadd, 1) := by decide +kernel
theorem dL_law_399 : decode cL_law 399 = .ok (.iaload, 1) := by decide +kernel
theorem dL_law_400 : decode cL_law 400 = .ok (.aload_n 0, 1) := by decide +kernel
theorem dL_law_401 : decode cL_law 401 = .ok (.iload 4, 2) := by decide +kernel
theorem dL_law_403 : decode cL_law 403 = .ok (.iconst 2, 1) := by decide +kernel
theorem dL_law_404 : decode cL_law 404 = .ok (.iadd, 1) := by decide +kernel
theorem dL_law_405 : decode cL_law 405 = .ok (.iaload, 1) := by decide +kernel
theorem dL_law_406 : decode cL_law 406 = .ok (.aload_n 0, 1) := by decide +kernel
theorem dL_law_407 : decode cL_law 407 = .ok (.iload 4, 2) := by decide +kernel
theorem dL_law_409 : decode cL_law 409 = .ok (.iconst 3, 1) := by decide +kernel
theorem dL_law_410 : decode cL_law 410 = .ok (.iadd, 1) := by decide +kernel
theorem dL_law_411 : decode cL_law 411 = .ok (.iaload, 1) := by decide +kernel
theorem dL_law_412 : decode cL_law 412 = .ok (.invokevirtual 68, 3) := by decide +kernel
theorem dL_law_415 : decode cL_law 415 = .ok (.aload_n 2, 1) := by decide +kernel
theorem dL_law_416 : decode cL_law 416 = .ok (.aload_n 0, 1) := by decide +kernel
theorem dL_law_417 : decode cL_law 417 = .ok (.iload 4, 2) := by decide +kernel
theorem dL_law_419 : decode cL_law 419 = .ok (.iconst 1, 1) := by decide +kernel
theorem dL_law_420 : decode cL_law 420 = .ok (.iadd, 1) := by decide +kernel
theorem dL_law_421 : decode cL_law 421 = .ok (.iaload, 1) := by decide +kernel
theorem dL_law_422 : decode cL_law 422 = .ok (.aload_n 0, 1) := by decide +kernel
theorem dL_law_423 : decode cL_law 423 = .ok (.iload 4, 2) := by decide +kernel
theorem dL_law_425 : decode cL_law 425 = .ok (.iconst 2, 1) := by decide +kernel
theorem dL_law_426 : decode cL_law 426 = .ok (.iadd, 1) := by decide +kernel
theorem dL_law_427 : decode cL_law 427 = .ok (.iaload, 1) := by decide +kernel
theorem dL_law_428 : decode cL_law 428 = .ok (.aload_n 0, 1) := by decide +kernel
theorem dL_law_429 : decode cL_law 429 = .ok (.iload 4, 2) := by decide +kernel
theorem dL_law_431 : decode cL_law 431 = .ok (.iconst 3, 1) := by decide +kernel
theorem dL_law_432 : decode cL_law 432 = .ok (.iadd, 1) := by decide +kernel
theorem dL_law_433 : decode cL_law 433 = .ok (.iaload, 1) := by decide +kernel
theorem dL_law_434 : decode cL_law 434 = .ok (.invokevirtual 71, 3) := by decide +kernel
theorem dL_law_437 : decode cL_law 437 = .ok (.if_icmp .eq 202, 3) := by decide +kernel
theorem dL_law_440 : decode cL_law 440 = .ok (.iconst 0, 1) := by decide +kernel
theorem dL_law_441 : decode cL_law 441 = .ok (.ireturn, 1) := by decide +kernel
theorem dL_law_442 : decode cL_law 442 = .ok (.aload_n 1, 1) := by decide +kernel
theorem dL_law_443 : decode cL_law 443 = .ok (.aload_n 0, 1) := by decide +kernel
theorem dL_law_444 : decode cL_law 444 = .ok (.iload 4, 2) := by decide +kernel
theorem dL_law_446 : decode cL_law 446 = .ok (.iconst 1, 1) := by decide +kernel
theorem dL_law_447 : decode cL_law 447 = .ok (.iadd, 1) := by decide +kernel
theorem dL_law_448 : decode cL_law 448 = .ok (.iaload, 1) := by decide +kernel
theorem dL_law_449 : decode cL_law 449 = .ok (.aload_n 0, 1) := by decide +kernel
theorem dL_law_450 : decode cL_law 450 = .ok (.iload 4, 2) := by decide +kernel
theorem dL_law_452 : decode cL_law 452 = .ok (.iconst 2, 1) := by decide +kernel
theorem dL_law_453 : decode cL_law 453 = .ok (.iadd, 1) := by decide +kernel
theorem dL_law_454 : decode cL_law 454 = .ok (.iaload, 1) := by decide +kernel
theorem dL_law_455 : decode cL_law 455 = .ok (.aload_n 3, 1) := by decide +kernel
theorem dL_law_456 : decode cL_law 456 = .ok (.invokestatic 72, 3) := by decide +kernel
theorem dL_law_459 : decode cL_law 459 = .ok (.istore 5, 2) := by decide +kernel
theorem dL_law_461 : decode cL_law 461 = .ok (.aload_n 2, 1) := by decide +kernel
theorem dL_law_462 : decode cL_law 462 = .ok (.aload_n 0, 1) := by decide +kernel
theorem dL_law_463 : decode cL_law 463 = .ok (.iload 4, 2) := by decide +kernel
theorem dL_law_465 : decode cL_law 465 = .ok (.iconst 1, 1) := by decide +kernel
theorem dL_law_466 : decode cL_law 466 = .ok (.iadd, 1) := by decide +kernel
theorem dL_law_467 : decode cL_law 467 = .ok (.iaload, 1) := by decide +kernel
theorem dL_law_468 : decode cL_law 468 = .ok (.aload_n 0, 1) := by decide +kernel
theorem dL_law_469 : decode cL_law 469 = .ok (.iload 4, 2) := by decide +kernel
theorem dL_law_471 : decode cL_law 471 = .ok (.iconst 2, 1) := by decide +kernel
theorem dL_law_472 : decode cL_law 472 = .ok (.iadd, 1) := by decide +kernel
theorem dL_law_473 : decode cL_law 473 = .ok (.iaload, 1) := by decide +kernel
theorem dL_law_474 : decode cL_law 474 = .ok (.invokevirtual 74, 3) := by decide +kernel
theorem dL_law_477 : decode cL_law 477 = .ok (.istore 6, 2) := by decide +kernel
theorem dL_law_479 : decode cL_law 479 = .ok (.aload_n 2, 1) := by decide +kernel
theorem dL_law_480 : decode cL_law 480 = .ok (.invokevirtual 57, 3) := by decide +kernel
theorem dL_law_483 : decode cL_law 483 = .ok (.iload 5, 2) := by decide +kernel
theorem dL_law_485 : decode cL_law 485 = .ok (.if_icmp .eq 5, 3) := by decide +kernel
theorem dL_law_488 : decode cL_law 488 = .ok (.iconst 0, 1) := by decide +kernel
theorem dL_law_489 : decode cL_law 489 = .ok (.ireturn, 1) := by decide +kernel
theorem dL_law_490 : decode cL_law 490 = .ok (.iload 5, 2) := by decide +kernel
theorem dL_law_492 : decode cL_law 492 = .ok (.ifCond .ne 15, 3) := by decide +kernel
theorem dL_law_495 : decode cL_law 495 = .ok (.aload_n 3, 1) := by decide +kernel
theorem dL_law_496 : decode cL_law 496 = .ok (.iconst 0, 1) := by decide +kernel
theorem dL_law_497 : decode cL_law 497 = .ok (.laload, 1) := by decide +kernel
theorem dL_law_498 : decode cL_law 498 = .ok (.iload 6, 2) := by decide +kernel
theorem dL_law_500 : decode cL_law 500 = .ok (.i2l, 1) := by decide +kernel
theorem dL_law_501 : decode cL_law 501 = .ok (.lcmp, 1) := by decide +kernel
theorem dL_law_502 : decode cL_law 502 = .ok (.ifCond .eq 5, 3) := by decide +kernel
theorem dL_law_505 : decode cL_law 505 = .ok (.iconst 0, 1) := by decide +kernel
theorem dL_law_506 : decode cL_law 506 = .ok (.ireturn, 1) := by decide +kernel
theorem dL_law_507 : decode cL_law 507 = .ok (.goto 132, 3) := by decide +kernel
theorem dL_law_510 : decode cL_law 510 = .ok (.aload_n 1, 1) := by decide +kernel
theorem dL_law_511 : decode cL_law 511 = .ok (.aload_n 0, 1) := by decide +kernel
theorem dL_law_512 : decode cL_law 512 = .ok (.iload 4, 2) := by decide +kernel
theorem dL_law_514 : decode cL_law 514 = .ok (.iconst 1, 1) := by decide +kernel
theorem dL_law_515 : decode cL_law 515 = .ok (.iadd, 1) := by decide +kernel
theorem dL_law_516 : decode cL_law 516 = .ok (.iaload, 1) := by decide +kernel
theorem dL_law_517 : decode cL_law 517 = .ok (.aload_n 0, 1) := by decide +kernel
theorem dL_law_518 : decode cL_law 518 = .ok (.iload 4, 2) := by decide +kernel
theorem dL_law_520 : decode cL_law 520 = .ok (.iconst 2, 1) := by decide +kernel
theorem dL_law_521 : decode cL_law 521 = .ok (.iadd, 1) := by decide +kernel
theorem dL_law_522 : decode cL_law 522 = .ok (.iaload, 1) := by decide +kernel
theorem dL_law_523 : decode cL_law 523 = .ok (.aload_n 0, 1) := by decide +kernel
theorem dL_law_524 : decode cL_law 524 = .ok (.iload 4, 2) := by decide +kernel
theorem dL_law_526 : decode cL_law 526 = .ok (.iconst 3, 1) := by decide +kernel
theorem dL_law_527 : decode cL_law 527 = .ok (.iadd, 1) := by decide +kernel
theorem dL_law_528 : decode cL_law 528 = .ok (.iaload, 1) := by decide +kernel
theorem dL_law_529 : decode cL_law 529 = .ok (.aload_n 3, 1) := by decide +kernel
theorem dL_law_530 : decode cL_law 530 = .ok (.invokestatic 75, 3) := by decide +kernel
theorem dL_law_533 : decode cL_law 533 = .ok (.istore 5, 2) := by decide +kernel
theorem dL_law_535 : decode cL_law 535 = .ok (.aload_n 2, 1) := by decide +kernel
theorem dL_law_536 : decode cL_law 536 = .ok (.aload_n 0, 1) := by decide +kernel
theorem dL_law_537 : decode cL_law 537 = .ok (.iload 4, 2) := by decide +kernel
theorem dL_law_539 : decode cL_law 539 = .ok (.iconst 1, 1) := by decide +kernel
theorem dL_law_540 : decode cL_law 540 = .ok (.iadd, 1) := by decide +kernel
theorem dL_law_541 : decode cL_law 541 = .ok (.iaload, 1) := by decide +kernel
theorem dL_law_542 : decode cL_law 542 = .ok (.aload_n 0, 1) := by decide +kernel
theorem dL_law_543 : decode cL_law 543 = .ok (.iload 4, 2) := by decide +kernel
theorem dL_law_545 : decode cL_law 545 = .ok (.iconst 2, 1) := by decide +kernel
theorem dL_law_546 : decode cL_law 546 = .ok (.iadd, 1) := by decide +kernel
theorem dL_law_547 : decode cL_law 547 = .ok (.iaload, 1) := by decide +kernel
theorem dL_law_548 : decode cL_law 548 = .ok (.aload_n 0, 1) := by decide +kernel
theorem dL_law_549 : decode cL_law 549 = .ok (.iload 4, 2) := by decide +kernel
theorem dL_law_551 : decode cL_law 551 = .ok (.iconst 3, 1) := by decide +kernel
theorem dL_law_552 : decode cL_law 552 = .ok (.iadd, 1) := by decide +kernel
theorem dL_law_553 : decode cL_law 553 = .ok (.iaload, 1) := by decide +kernel
theorem dL_law_554 : decode cL_law 554 = .ok (.invokevirtual 78, 3) := by decide +kernel
theorem dL_law_557 : decode cL_law 557 = .ok (.istore 6, 2) := by decide +kernel
theorem dL_law_559 : decode cL_law 559 = .ok (.aload_n 2, 1) := by decide +kernel
theorem dL_law_560 : decode cL_law 560 = .ok (.invokevirtual 57, 3) := by decide +kernel
theorem dL_law_563 : decode cL_law 563 = .ok (.iload 5, 2) := by decide +kernel
theorem dL_law_565 : decode cL_law 565 = .ok (.if_icmp .eq 5, 3) := by decide +kernel
theorem dL_law_568 : decode cL_law 568 = .ok (.iconst 0, 1) := by decide +kernel
theorem dL_law_569 : decode cL_law 569 = .ok (.ireturn, 1) := by decide +kernel
theorem dL_law_570 : decode cL_law 570 = .ok (.iload 5, 2) := by decide +kernel
theorem dL_law_572 : decode cL_law 572 = .ok (.ifCond .ne 15, 3) := by decide +kernel
theorem dL_law_575 : decode cL_law 575 = .ok (.aload_n 3, 1) := by decide +kernel
theorem dL_law_576 : decode cL_law 576 = .ok (.iconst 0, 1) := by decide +kernel
theorem dL_law_577 : decode cL_law 577 = .ok (.laload, 1) := by decide +kernel
theorem dL_law_578 : decode cL_law 578 = .ok (.iload 6, 2) := by decide +kernel
theorem dL_law_580 : decode cL_law 580 = .ok (.i2l, 1) := by decide +kernel
theorem dL_law_581 : decode cL_law 581 = .ok (.lcmp, 1) := by decide +kernel
theorem dL_law_582 : decode cL_law 582 = .ok (.ifCond .eq 5, 3) := by decide +kernel
theorem dL_law_585 : decode cL_law 585 = .ok (.iconst 0, 1) := by decide +kernel
theorem dL_law_586 : decode cL_law 586 = .ok (.ireturn, 1) := by decide +kernel
theorem dL_law_587 : decode cL_law 587 = .ok (.goto 52, 3) := by decide +kernel
theorem dL_law_590 : decode cL_law 590 = .ok (.aload_n 1, 1) := by decide +kernel
theorem dL_law_591 : decode cL_law 591 = .ok (.aload_n 0, 1) := by decide +kernel
theorem dL_law_592 : decode cL_law 592 = .ok (.iload 4, 2) := by decide +kernel
theorem dL_law_594 : decode cL_law 594 = .ok (.iconst 1, 1) := by decide +kernel
theorem dL_law_595 : decode cL_law 595 = .ok (.iadd, 1) := by decide +kernel
theorem dL_law_596 : decode cL_law 596 = .ok (.iaload, 1) := by decide +kernel
theorem dL_law_597 : decode cL_law 597 = .ok (.invokevirtual 79, 3) := by decide +kernel
theorem dL_law_600 : decode cL_law 600 = .ok (.aload_n 2, 1) := by decide +kernel
theorem dL_law_601 : decode cL_law 601 = .ok (.aload_n 0, 1) := by decide +kernel
theorem dL_law_602 : decode cL_law 602 = .ok (.iload 4, 2) := by decide +kernel
theorem dL_law_604 : decode cL_law 604 = .ok (.iconst 1, 1) := by decide +kernel
theorem dL_law_605 : decode cL_law 605 = .ok (.iadd, 1) := by decide +kernel
theorem dL_law_606 : decode cL_law 606 = .ok (.iaload, 1) := by decide +kernel
theorem dL_law_607 : decode cL_law 607 = .ok (.invokevirtual 82, 3) := by decide +kernel
theorem dL_law_610 : decode cL_law 610 = .ok (.if_icmp .eq 29, 3) := by decide +kernel
theorem dL_law_613 : decode cL_law 613 = .ok (.iconst 0, 1) := by decide +kernel
theorem dL_law_614 : decode cL_law 614 = .ok (.ireturn, 1) := by decide +kernel
theorem dL_law_615 : decode cL_law 615 = .ok (.aload_n 1, 1) := by decide +kernel
theorem dL_law_616 : decode cL_law 616 = .ok (.invokevirtual 83, 3) := by decide +kernel
theorem dL_law_619 : decode cL_law 619 = .ok (.aload_n 2, 1) := by decide +kernel
theorem dL_law_620 : decode cL_law 620 = .ok (.invokevirtual 86, 3) := by decide +kernel
theorem dL_law_623 : decode cL_law 623 = .ok (.if_icmp .eq 16, 3) := by decide +kernel
theorem dL_law_626 : decode cL_law 626 = .ok (.iconst 0, 1) := by decide +kernel
theorem dL_law_627 : decode cL_law 627 = .ok (.ireturn, 1) := by decide +kernel
theorem dL_law_628 : decode cL_law 628 = .ok (.aload_n 1, 1) := by decide +kernel
theorem dL_law_629 : decode cL_law 629 = .ok (.invokevirtual 87, 3) := by decide +kernel
theorem dL_law_632 : decode cL_law 632 = .ok (.aload_n 2, 1) := by decide +kernel
theorem dL_law_633 : decode cL_law 633 = .ok (.invokevirtual 90, 3) := by decide +kernel
theorem dL_law_636 : decode cL_law 636 = .ok (.goto 3, 3) := by decide +kernel
theorem dL_law_639 : decode cL_law 639 = .ok (.iinc 4 6, 3) := by decide +kernel
theorem dL_law_642 : decode cL_law 642 = .ok (.goto (-619), 3) := by decide +kernel
theorem dL_law_645 : decode cL_law 645 = .ok (.iconst 1, 1) := by decide +kernel
theorem dL_law_646 : decode cL_law 646 = .ok (.ireturn, 1) := by decide +kernel
end
section
/-! ===== the judgement sv_J: W over any heap that holds a world; its rows ===== -/
/-- what is the same in the whole run: class numbers and slots, array classes, strings, static arrays -/
abbrev sv_E : Type := va_G × (Nat → ClassId) × (Nat → Nat) × (Nat → Nat) × (Nat → Nat)
/-- one method's run -/
abbrev sv_X : Type := Program × Launch × Env × Room × State × MethodId × Array Value × List Frame × Method × Code × (State → Prop) × (Nat → Prop) × Nat
def sv_tys (E : sv_E) : List (ClassId × FieldType) := [(E.2.1 0, .byte), (E.2.1 1, .int), (E.2.1 2, .boolean), (E.2.1 3, .long), (E.2.1 4, .object "SeaReceiver$BitRow"), (E.2.1 5, .object "SeaReceiver$Vessel")]
/-- the String constants: class, place, text, bytes -/
def sv_strs : List (String × Nat × String × List Int32) := [("SeaReceiver", 102, "no such value of the fix", [110, 111, 32, 115, 117, 99, 104, 32, 118, 97, 108, 117, 101, 32, 111, 102, 32, 116, 104, 101, 32, 102, 105, 120]), ("SeaReceiver", 116, "no such vessel", [110, 111, 32, 115, 117, 99, 104, 32, 118, 101, 115, 115, 101, 108]), ("SeaReceiver", 123, "no such value of a vessel", [110, 111, 32, 115, 117, 99, 104, 32, 118, 97, 108, 117, 101, 32, 111, 102, 32, 97, 32, 118, 101, 115, 115, 101, 108]), ("SeaReceiver", 135, "the latest message has no such bits", [116, 104, 101, 32, 108, 97, 116, 101, 115, 116, 32, 109, 101, 115, 115, 97, 103, 101, 32, 104, 97, 115, 32, 110, 111, 32, 115, 117, 99, 104, 32, 98, 105, 116, 115]), ("SeaReceiver", 142, "no report of this type is sent", [110, 111, 32, 114, 101, 112, 111, 114, 116, 32, 111, 102, 32, 116, 104, 105, 115, 32, 116, 121, 112, 101, 32, 105, 115, 32, 115, 101, 110, 116]), ("SeaReceiver", 145, "the id is not a digit", [116, 104, 101, 32, 105, 100, 32, 105, 115, 32, 110, 111, 116, 32, 97, 32, 100, 105, 103, 105, 116]), ("SeaReceiver", 151, "2,1,", [50, 44, 49, 44]), ("SeaReceiver", 157, "2,2,", [50, 44, 50, 44]), ("SeaReceiver", 159, "1,1,", [49, 44, 49, 44]), ("SeaReceiver", 218, "AB12", [65, 66, 49, 50]), ("SeaReceiver", 265, "!AIVDM,", [33, 65, 73, 86, 68, 77, 44]), ("SeaReceiver", 270, ",A,", [44, 65, 44]), ("SeaReceiver$Fields", 39, "VDM", [86, 68, 77]), ("SeaReceiver$Fields", 45, "VDO", [86, 68, 79]), ("SeaReceiver$Fields", 47, "GGA", [71, 71, 65]), ("SeaReceiver$Fields", 49, "RMC", [82, 77, 67]), ("SeaReceiver$Fields", 51, "VTG", [86, 84, 71]), ("SeaReceiver$Position", 73, "AV", [65, 86]), ("SeaReceiver$Position", 88, "ADEMNS", [65, 68, 69, 77, 78, 83]), ("SeaReceiverModel", 135, "VDM", [86, 68, 77]), ("SeaReceiverModel", 141, "VDO", [86, 68, 79]), ("SeaReceiverModel", 143, "GGA", [71, 71, 65]), ("SeaReceiverModel", 145, "RMC", [82, 77, 67]), ("SeaReceiverModel", 147, "VTG", [86, 84, 71]), ("SeaReceiverModel", 214, "NS", [78, 83]), ("SeaReceiverModel", 220, "EW", [69, 87]), ("SeaReceiverModel", 226, "M", [77]), ("SeaReceiverModel", 231, "AV", [65, 86]), ("SeaReceiverModel", 240, "ADEMNS", [65, 68, 69, 77, 78, 83]), ("SeaReceiverModel", 242, "T", [84]), ("SeaReceiverModel", 244, "N", [78]), ("SeaReceiverModel", 246, "K", [75]), ("SeaReceiverModel", 257, "AB12", [65, 66, 49, 50]), ("SeaReceiverModel", 361, "!AIVDM,", [33, 65, 73, 86, 68, 77, 44]), ("SeaReceiverModel", 367, ",A,", [44, 65, 44])]
/-- the static arrays: class, name, contents -/
def sv_sta : List (String × String × List Int32) := [("SeaReceiver$Position", "OF_GGA", [0, 1, 2, 3, 4, 5, 6, 7, 8, 9]), ("SeaReceiver$Position", "OF_RMC", [0, 1, 2, 10, 11, 12, 13, 14, 17]), ("SeaReceiver$Position", "OF_VTG", [11, 12, 15, 16, 17]), ("SeaReceiver$Vessel", "OF_4", [11, 14, 12, 4, 13, 5, 14, 5, 15, 6, 10, 6, 5, 1, 6, 28, 7, 27, -1, 4, -1, 30]), ("SeaReceiver$Vessel", "OF_5", [-1, 2, 16, 30, 30, 42, 31, 120, 17, 8, 18, 9, 19, 9, 20, 6, 21, 6, -1, 4, 12, 4, 13, 5, 14, 5, 15, 6, 22, 8, 32, 120, -1, 2]), ("SeaReceiver$Vessel", "OF_18", [-1, 8, 4, 10, 5, 1, 6, 28, 7, 27, 8, 12, 9, 9, 10, 6, -1, 29]), ("SeaReceiver$Vessel", "OF_1", [2, 4, 3, 8, 4, 10, 5, 1, 6, 28, 7, 27, 8, 12, 9, 9, 10, 6, -1, 25])]
/-- private constructors of nest mates: who calls, place, which -/
def sv_nst : List (String × Nat × MethodName) := [("SeaReceiver", 27, yX5_init), ("SeaReceiver", 34, yX1_init), ("SeaReceiver", 48, yX3_init), ("SeaReceiver", 62, yX2_init), ("SeaReceiver$Fleet", 30, yX7_init)]
/-- a String at k, its bytes at v -/
def sv_St (k v : Nat) (bs : List Int32) (A : Nat → Prop) (U : State) (H : Heap) : Prop := va_O "java/lang/String" k A U H ∧ va_OF "java/lang/String" "coder" "B" (.int 0) k A U H ∧ va_OF "java/lang/String" "value" "[B" (.ref v) k A U H ∧ va_T .byte v bs.length (fun j => .int (bs.getD j 0)) A U H
def sv_En (E : sv_E) (A : Nat → Prop) (U : State) (H : Heap) : Prop :=
  (∀ i q, sv_strs[i]? = some q → vk_R q.1 q.2.1 q.2.2.1 (E.2.2.1 i) U ∧ sv_St (E.2.2.1 i) (E.2.2.2.1 i) q.2.2.2 A U H) ∧
  (∀ i q, sv_sta[i]? = some q → va_Z q.1 q.2.1 "[I" (.ref (E.2.2.2.2 i)) A U H ∧ va_T .int (E.2.2.2.2 i) q.2.2.length (fun j => .int (q.2.2.getD j 0)) A U H) ∧
  va_Z "java/lang/String" "COMPACT_STRINGS" "Z" (.int 1) A U H ∧ va_Zq "jdk/internal/util/Preconditions" "SIOOBE_FORMATTER" "Ljava/util/function/BiFunction;" A U H ∧
  (∀ q ∈ sv_nst, va_Nw (.methodLinkNest q.1 q.2.1 q.2.2 "SeaReceiver") U) ∧ va_AO "SeaReceiver$BitRow" U ∧ va_AO "SeaReceiver$Vessel" U
theorem sv_St.move {k v : Nat} {bs : List Int32} {A B : Nat → Prop} {s U : State} {H H1 : Heap} (h : sv_St k v bs A s H) (hvm : s.vm.Alike U.vm) (hq : ∀ a : Nat, a < H.size → ¬ A a → H1[a]? = H[a]?) (hAB : ∀ q, B q → A q) : sv_St k v bs B U H1 :=
  ⟨((h.1.moved hvm).kept hq).narrow hAB, ((h.2.1.moved hvm).kept hq).narrow hAB, ((h.2.2.1.moved hvm).kept hq).narrow hAB, ((h.2.2.2.moved hvm).kept hq).narrow hAB⟩
theorem sv_En.move {E : sv_E} {A B : Nat → Prop} {s U : State} {H H1 : Heap} (h : sv_En E A s H) (hR : ∀ o k t a, vk_R o k t a s → vk_R o k t a U) (hM : ∀ a i x h, va_Nw (.methodLinkNest a i x h) s → va_Nw (.methodLinkNest a i x h) U) (hvm : s.vm.Alike U.vm) (hq : ∀ a : Nat, a < H.size → ¬ A a → H1[a]? = H[a]?) (hAB : ∀ q, B q → A q) : sv_En E B U H1 :=
  ⟨fun i q hi => ⟨hR _ _ _ _ (h.1 i q hi).1, (h.1 i q hi).2.move hvm hq hAB⟩, fun i q hi => ⟨(((h.2.1 i q hi).1.moved hvm).kept hq).narrow hAB, (((h.2.1 i q hi).2.moved hvm).kept hq).narrow hAB⟩, ((h.2.2.1.moved hvm).kept hq).narrow hAB, ((h.2.2.2.1.moved hvm).kept hq).narrow hAB, fun q hq => hM _ _ _ _ (h.2.2.2.2.1 q hq), h.2.2.2.2.2.1.moved hvm, h.2.2.2.2.2.2.moved hvm⟩
def sv_J (E : sv_E) (X : sv_X) (wd : va_W) (sz ce sl pc : Nat) (lv : List (Nat × Value)) (st : List Value) : Prop := match X with
  | (p, l, e, R, s, m, args, below, meth, c, Q, A, nL) => ∀ (H : Heap) (locs : List Loc) (ls : Array Slot), H.size = sz → va_P E.1 vwCl wd H → va_D A wd → va_S A s.heap H locs → lv_has ls nL lv → W p l e R s m args below meth c H locs ce sl Q (F0 m pc ls st)
/-- what holds of a method's run: its code, its class, its words, its strings sx -/
def sv_C (E : sv_E) (X : sv_X) (cc : ByteArray) (own : String) (sx : List (Nat × Nat × List Int32)) : Prop := match X with
  | (p, _, _, _, s, m, args, _, meth, c, _, A, nL) => CallFix p m c cc nL s args sv_w own ∧ va_K E.1 vwCl (sv_tys E) s ∧ meth.locks = false ∧ (∀ q, s.heap.size ≤ q → A q) ∧ sv_En E A s s.heap ∧ ∀ x ∈ sx, sv_St x.1 x.2.1 x.2.2 A s s.heap
/-- a method's start -/
def sv_Pre (E : sv_E) (sx : List (Nat × Nat × List Int32)) (vs : List Value) (wd : va_W) (sz : Nat) : Array Value → State → Prop := va_Pc vs (fun U => U.heap.size = sz ∧ va_P E.1 vwCl wd U.heap ∧ va_K E.1 vwCl (sv_tys E) U ∧ va_D (fun _ => True) wd ∧ sv_En E (va_A wd sz) U U.heap ∧ ∀ x ∈ sx, sv_St x.1 x.2.1 x.2.2 (va_A wd sz) U U.heap)
/-- a method's end: the answer, the world and the heap's size behind it -/
def sv_Q (E : sv_E) (wd : va_W) (sz : Nat) (res : Option Value) (wd' : va_W) (sz' : Nat) : Array Value → State → Outcome → State → Prop := fun _ st oc t => (oc = .returned res ∧ t.heap.size = sz' ∧ va_P E.1 vwCl wd' t.heap ∧ va_D (va_A wd sz) wd') ∧ va_F (va_A wd sz) st t
/-- a method's contract -/
def sv_Met (l : Launch) (E : sv_E) (y : MethodName) (cc : ByteArray) (mL : Nat) (rt : Option FieldType) (fr lo : Nat) (sx : List (Nat × Nat × List Int32)) (vs : List Value) (wd : va_W) (sz : Nat) (res : Option Value) (wd' : va_W) (sz' mc ms : Nat) : Prop :=
  Met l y (Cond.code y cc mL rt :: sv_w) { frames := fr, cells := mc, slots := ms, locals := lo } (sv_Pre E sx vs wd sz) (sv_Q E wd sz res wd' sz') mc ms (va_A wd sz)
/-- the end of a run that is to give the contract -/
def sv_Z (E : sv_E) (X : sv_X) (rt : Option FieldType) (res : Option Value) (wd' : va_W) (sz' mc ms : Nat) : Prop := match X with
  | (_, _, _, R, s, _, args, below, meth, _, Q, A, _) => meth.sig.returnType = rt ∧ (∃ wd sz, A = va_A wd sz ∧ Q = MQ below (sv_Q E wd sz res wd' sz') args s mc ms A)
def sv_R (X : sv_X) : Room := match X with
  | (_, _, _, R, _, _, _, _, _, _, _, _, _) => R
def sv_l (X : sv_X) : Launch := match X with
  | (_, l, _, _, _, _, _, _, _, _, _, _, _) => l
def sv_nm (X : sv_X) : String := match X with
  | (_, _, _, _, _, _, _, _, meth, _, _, _, _) => meth.name
def sv_nL (X : sv_X) : Nat := match X with
  | (_, _, _, _, _, _, _, _, _, _, _, _, nL) => nL
section SVA
variable {E : sv_E} {X : sv_X} {cc : ByteArray} {own : String} {sx : List (Nat × Nat × List Int32)} {wd : va_W} {sz ce sl pc : Nat} {lv lv' : List (Nat × Value)} {st : List Value}
/-- the contract out of the walk from its entry -/
theorem sv_ofJ {l : Launch} {y : MethodName} {mL : Nat} {rt : Option FieldType} {fr lo : Nat} {vs : List Value} {res : Option Value} {wd' : va_W} {sz' mc ms : Nat} (hy : plainName y.cls = true) (hvs : (lg_sl vs).length ≤ mL)
    (h : ∀ X : sv_X, sv_l X = l → sv_nL X = mL → sv_nm X = y.name → sv_R X = { frames := fr, cells := mc, slots := ms, locals := lo } → sv_C E X cc y.cls sx → sv_Z E X rt res wd' sz' mc ms → sv_J E X wd sz 0 0 0 (lv_args 0 vs) []) : sv_Met l E y cc mL rt fr lo sx vs wd sz res wd' sz' mc ms := by
  refine Met.ofW (cc := cc) (maxL := mL) (ret := rt) hy rfl ?_
  intro p e s m args below meth c s₁ B hml hv
  obtain ⟨rfl, hsz, hP, hK, hD0, hE, hX⟩ := hv
  have hts := atoms_spec (ws := Cond.code y cc mL rt :: sv_w) B.pre
  have hown : s.vm.findClass y.cls = some m.cls := findClass_of_methodNamed B.named
  subst hsz
  have hD := hD0.self (sz := s.heap.size)
  have hA : ∀ q : Nat, s.heap.size ≤ q → va_A wd s.heap.size q := fun q h => Or.inr h
  have hl := lv_entry vs (n := mL) hvs
  have hk := h (p, l, e, { frames := fr, cells := mc, slots := ms, locals := lo }, s, m, vs.toArray, below, meth, c, MQ below (sv_Q E wd s.heap.size res wd' sz') vs.toArray s mc ms (va_A wd s.heap.size), va_A wd s.heap.size, mL) rfl rfl (name_of_methodNamed B.named B.method).1 rfl
    ⟨⟨B.exec, B.bytes, hml, hown, fun w hw => hts w (List.mem_cons_of_mem _ hw)⟩, hK, B.notSynchronized, hA, hE, hX⟩ ⟨B.returns, wd, s.heap.size, rfl, rfl⟩
  rw [lg_entry_eq]
  exact hk s.heap [] _ rfl hP hD va_S.rf hl
theorem sv_iconst {n : Int} {v : Int32} (C : sv_C E X cc own sx) (hd : decode cc pc = .ok (.iconst n, 1)) (hv : Int32.ofInt n = v) (k : sv_J E X wd sz ce sl (pc + 1) lv (.int v :: st)) : sv_J E X wd sz ce sl pc lv st := by
  obtain ⟨p, l, e, R, s, m, args, below, meth, c, Q, A, nL⟩ := X
  exact fun H locs ls h1 h2 h3 h4 h5 => lv_iconst C.1.1 C.1.2.1 hd hv (k H locs ls h1 h2 h3 h4 h5)
theorem sv_bipush {n : Int} {v : Int32} (C : sv_C E X cc own sx) (hd : decode cc pc = .ok (.bipush n, 2)) (hv : (Int8.ofInt n).toInt32 = v) (k : sv_J E X wd sz ce sl (pc + 2) lv (.int v :: st)) : sv_J E X wd sz ce sl pc lv st := by
  obtain ⟨p, l, e, R, s, m, args, below, meth, c, Q, A, nL⟩ := X
  exact fun H locs ls h1 h2 h3 h4 h5 => lv_bipush C.1.1 C.1.2.1 hd hv (k H locs ls h1 h2 h3 h4 h5)
theorem sv_sipush {n : Int} {v : Int32} (C : sv_C E X cc own sx) (hd : decode cc pc = .ok (.sipush n, 3)) (hv : (Int16.ofInt n).toInt32 = v) (k : sv_J E X wd sz ce sl (pc + 3) lv (.int v :: st)) : sv_J E X wd sz ce sl pc lv st := by
  obtain ⟨p, l, e, R, s, m, args, below, meth, c, Q, A, nL⟩ := X
  exact fun H locs ls h1 h2 h3 h4 h5 => lv_sipush C.1.1 C.1.2.1 hd hv (k H locs ls h1 h2 h3 h4 h5)
theorem sv_lconst {n : Fin 2} {v : Int64} (C : sv_C E X cc own sx) (hd : decode cc pc = .ok (.lconst n, 1)) (hv : Int64.ofNat (n : Nat) = v) (k : sv_J E X wd sz ce sl (pc + 1) lv (.long v :: st)) : sv_J E X wd sz ce sl pc lv st := by
  obtain ⟨p, l, e, R, s, m, args, below, meth, c, Q, A, nL⟩ := X
  exact fun H locs ls h1 h2 h3 h4 h5 => lv_lconst C.1.1 C.1.2.1 hd hv (k H locs ls h1 h2 h3 h4 h5)
theorem sv_ldc {index : Nat} {v : Int32} (C : sv_C E X cc own sx) (hw : Cond.constant own index v ∈ sv_w) (hd : decode cc pc = .ok (.ldc index, 2)) (k : sv_J E X wd sz ce sl (pc + 2) lv (.int v :: st)) : sv_J E X wd sz ce sl pc lv st := by
  obtain ⟨p, l, e, R, s, m, args, below, meth, c, Q, A, nL⟩ := X
  exact fun H locs ls h1 h2 h3 h4 h5 => lv_ldc C.1.1 C.1.2.1 C.1.2.2.2.1 (C.1.2.2.2.2 _ hw) hd (k H locs ls h1 h2 h3 h4 h5)
theorem sv_ldcw {index : Nat} {v : Int32} (C : sv_C E X cc own sx) (hw : Cond.constant own index v ∈ sv_w) (hd : decode cc pc = .ok (.ldc_w index, 3)) (k : sv_J E X wd sz ce sl (pc + 3) lv (.int v :: st)) : sv_J E X wd sz ce sl pc lv st := by
  obtain ⟨p, l, e, R, s, m, args, below, meth, c, Q, A, nL⟩ := X
  exact fun H locs ls h1 h2 h3 h4 h5 => lv_ldcw C.1.1 C.1.2.1 C.1.2.2.2.1 (C.1.2.2.2.2 _ hw) hd (k H locs ls h1 h2 h3 h4 h5)
theorem sv_ldc2 {index : Nat} {v : Int64} (C : sv_C E X cc own sx) (hw : Cond.constantLong own index v ∈ sv_w) (hd : decode cc pc = .ok (.ldc2_w index, 3)) (k : sv_J E X wd sz ce sl (pc + 3) lv (.long v :: st)) : sv_J E X wd sz ce sl pc lv st := by
  obtain ⟨p, l, e, R, s, m, args, below, meth, c, Q, A, nL⟩ := X
  exact fun H locs ls h1 h2 h3 h4 h5 => lv_ldc2 C.1.1 C.1.2.1 C.1.2.2.2.1 (C.1.2.2.2.2 _ hw) hd (k H locs ls h1 h2 h3 h4 h5)
/-- a String constant -/
theorem sv_ldcS {index i : Nat} {tx : String} {bs : List Int32} (C : sv_C E X cc own sx) (hi : sv_strs[i]? = some (own, index, tx, bs)) (hd : decode cc pc = .ok (.ldc index, 2)) (k : sv_J E X wd sz ce sl (pc + 2) lv (.ref (E.2.2.1 i) :: st)) : sv_J E X wd sz ce sl pc lv st := by
  obtain ⟨p, l, e, R, s, m, args, below, meth, c, Q, A, nL⟩ := X
  exact fun H locs ls h1 h2 h3 h4 h5 => va_ldcS C.1.1 C.1.2.1 C.1.2.2.2.1 (C.2.2.2.2.1.1 i _ hi).1 hd (k H locs ls h1 h2 h3 h4 h5)
theorem sv_iload_n {j : Fin 4} {i : Nat} {x : Int32} (q : Nat) (C : sv_C E X cc own sx) (hd : decode cc pc = .ok (.iload_n j, 1)) (hi : (j : Nat) = i) (hl : lv[q]? = some (i, .int x)) (k : sv_J E X wd sz ce sl (pc + 1) lv (.int x :: st)) : sv_J E X wd sz ce sl pc lv st := by
  obtain ⟨p, l, e, R, s, m, args, below, meth, c, Q, A, nL⟩ := X
  exact fun H locs ls h1 h2 h3 h4 h5 => lv_iload_n C.1.1 C.1.2.1 hd hi (lv_at h5 q hl) (k H locs ls h1 h2 h3 h4 h5)
theorem sv_iload {i : Nat} {x : Int32} (q : Nat) (C : sv_C E X cc own sx) (hd : decode cc pc = .ok (.iload i, 2)) (hl : lv[q]? = some (i, .int x)) (k : sv_J E X wd sz ce sl (pc + 2) lv (.int x :: st)) : sv_J E X wd sz ce sl pc lv st := by
  obtain ⟨p, l, e, R, s, m, args, below, meth, c, Q, A, nL⟩ := X
  exact fun H locs ls h1 h2 h3 h4 h5 => lv_iload C.1.1 C.1.2.1 hd (lv_at h5 q hl) (k H locs ls h1 h2 h3 h4 h5)
theorem sv_lload_n {j : Fin 4} {i : Nat} {x : Int64} (q : Nat) (C : sv_C E X cc own sx) (hd : decode cc pc = .ok (.lload_n j, 1)) (hi : (j : Nat) = i) (hl : lv[q]? = some (i, .long x)) (k : sv_J E X wd sz ce sl (pc + 1) lv (.long x :: st)) : sv_J E X wd sz ce sl pc lv st := by
  obtain ⟨p, l, e, R, s, m, args, below, meth, c, Q, A, nL⟩ := X
  exact fun H locs ls h1 h2 h3 h4 h5 => lv_lload_n C.1.1 C.1.2.1 hd hi (lv_at h5 q hl) (k H locs ls h1 h2 h3 h4 h5)
theorem sv_lload {i : Nat} {x : Int64} (q : Nat) (C : sv_C E X cc own sx) (hd : decode cc pc = .ok (.lload i, 2)) (hl : lv[q]? = some (i, .long x)) (k : sv_J E X wd sz ce sl (pc + 2) lv (.long x :: st)) : sv_J E X wd sz ce sl pc lv st := by
  obtain ⟨p, l, e, R, s, m, args, below, meth, c, Q, A, nL⟩ := X
  exact fun H locs ls h1 h2 h3 h4 h5 => lv_lload C.1.1 C.1.2.1 hd (lv_at h5 q hl) (k H locs ls h1 h2 h3 h4 h5)
theorem sv_aload_n {j : Fin 4} {i : Nat} {x : Nat} (q : Nat) (C : sv_C E X cc own sx) (hd : decode cc pc = .ok (.aload_n j, 1)) (hi : (j : Nat) = i) (hl : lv[q]? = some (i, .ref x)) (k : sv_J E X wd sz ce sl (pc + 1) lv (.ref x :: st)) : sv_J E X wd sz ce sl pc lv st := by
  obtain ⟨p, l, e, R, s, m, args, below, meth, c, Q, A, nL⟩ := X
  exact fun H locs ls h1 h2 h3 h4 h5 => lv_aload_n C.1.1 C.1.2.1 hd hi (lv_at h5 q hl) (k H locs ls h1 h2 h3 h4 h5)
theorem sv_aload {i : Nat} {x : Nat} (q : Nat) (C : sv_C E X cc own sx) (hd : decode cc pc = .ok (.aload i, 2)) (hl : lv[q]? = some (i, .ref x)) (k : sv_J E X wd sz ce sl (pc + 2) lv (.ref x :: st)) : sv_J E X wd sz ce sl pc lv st := by
  obtain ⟨p, l, e, R, s, m, args, below, meth, c, Q, A, nL⟩ := X
  exact fun H locs ls h1 h2 h3 h4 h5 => lv_aload C.1.1 C.1.2.1 hd (lv_at h5 q hl) (k H locs ls h1 h2 h3 h4 h5)
theorem sv_istore_n {j : Fin 4} {i : Nat} {x : Int32} (C : sv_C E X cc own sx) (hd : decode cc pc = .ok (.istore_n j, 1)) (hi : (j : Nat) = i) (hn : i < sv_nL X) (hl : (i, Value.int x) :: lv.filter (fun q => !(q.1 == i) && !(q.1 + 1 == i && q.2.category == 2)) = lv') (k : sv_J E X wd sz ce sl (pc + 1) lv' st) : sv_J E X wd sz ce sl pc lv (.int x :: st) := by
  obtain ⟨p, l, e, R, s, m, args, below, meth, c, Q, A, nL⟩ := X
  exact fun H locs ls h1 h2 h3 h4 h5 => lv_istore_n C.1.1 C.1.2.1 hd hi h5 hn hl (fun ls' h5 => k H locs ls' h1 h2 h3 h4 h5)
theorem sv_istore {i : Nat} {x : Int32} (C : sv_C E X cc own sx) (hd : decode cc pc = .ok (.istore i, 2)) (hn : i < sv_nL X) (hl : (i, Value.int x) :: lv.filter (fun q => !(q.1 == i) && !(q.1 + 1 == i && q.2.category == 2)) = lv') (k : sv_J E X wd sz ce sl (pc + 2) lv' st) : sv_J E X wd sz ce sl pc lv (.int x :: st) := by
  obtain ⟨p, l, e, R, s, m, args, below, meth, c, Q, A, nL⟩ := X
  exact fun H locs ls h1 h2 h3 h4 h5 => lv_istore C.1.1 C.1.2.1 hd h5 hn hl (fun ls' h5 => k H locs ls' h1 h2 h3 h4 h5)
theorem sv_lstore_n {j : Fin 4} {i : Nat} {x : Int64} (C : sv_C E X cc own sx) (hd : decode cc pc = .ok (.lstore_n j, 1)) (hi : (j : Nat) = i) (hn : i + 1 < sv_nL X) (hl : (i, Value.long x) :: lv.filter (fun q => !(q.1 == i) && (!(q.1 == i + 1) && !(q.1 + 1 == i && q.2.category == 2))) = lv') (k : sv_J E X wd sz ce sl (pc + 1) lv' st) : sv_J E X wd sz ce sl pc lv (.long x :: st) := by
  obtain ⟨p, l, e, R, s, m, args, below, meth, c, Q, A, nL⟩ := X
  exact fun H locs ls h1 h2 h3 h4 h5 => lv_lstore_n C.1.1 C.1.2.1 hd hi h5 hn hl (fun ls' h5 => k H locs ls' h1 h2 h3 h4 h5)
theorem sv_lstore {i : Nat} {x : Int64} (C : sv_C E X cc own sx) (hd : decode cc pc = .ok (.lstore i, 2)) (hn : i + 1 < sv_nL X) (hl : (i, Value.long x) :: lv.filter (fun q => !(q.1 == i) && (!(q.1 == i + 1) && !(q.1 + 1 == i && q.2.category == 2))) = lv') (k : sv_J E X wd sz ce sl (pc + 2) lv' st) : sv_J E X wd sz ce sl pc lv (.long x :: st) := by
  obtain ⟨p, l, e, R, s, m, args, below, meth, c, Q, A, nL⟩ := X
  exact fun H locs ls h1 h2 h3 h4 h5 => lv_lstore C.1.1 C.1.2.1 hd h5 hn hl (fun ls' h5 => k H locs ls' h1 h2 h3 h4 h5)
theorem sv_astore_n {j : Fin 4} {i : Nat} {x : Nat} (C : sv_C E X cc own sx) (hd : decode cc pc = .ok (.astore_n j, 1)) (hi : (j : Nat) = i) (hn : i < sv_nL X) (hl : (i, Value.ref x) :: lv.filter (fun q => !(q.1 == i) && !(q.1 + 1 == i && q.2.category == 2)) = lv') (k : sv_J E X wd sz ce sl (pc + 1) lv' st) : sv_J E X wd sz ce sl pc lv (.ref x :: st) := by
  obtain ⟨p, l, e, R, s, m, args, below, meth, c, Q, A, nL⟩ := X
  exact fun H locs ls h1 h2 h3 h4 h5 => lv_astore_n C.1.1 C.1.2.1 hd hi h5 hn hl (fun ls' h5 => k H locs ls' h1 h2 h3 h4 h5)
theorem sv_astore {i : Nat} {x : Nat} (C : sv_C E X cc own sx) (hd : decode cc pc = .ok (.astore i, 2)) (hn : i < sv_nL X) (hl : (i, Value.ref x) :: lv.filter (fun q => !(q.1 == i) && !(q.1 + 1 == i && q.2.category == 2)) = lv') (k : sv_J E X wd sz ce sl (pc + 2) lv' st) : sv_J E X wd sz ce sl pc lv (.ref x :: st) := by
  obtain ⟨p, l, e, R, s, m, args, below, meth, c, Q, A, nL⟩ := X
  exact fun H locs ls h1 h2 h3 h4 h5 => lv_astore C.1.1 C.1.2.1 hd h5 hn hl (fun ls' h5 => k H locs ls' h1 h2 h3 h4 h5)
theorem sv_iinc {i : Nat} {n : Int} {x v : Int32} (q : Nat) (C : sv_C E X cc own sx) (hd : decode cc pc = .ok (.iinc i n, 3)) (hk : lv[q]? = some (i, .int x)) (hv : x + Int32.ofInt n = v) (hn : i < sv_nL X) (hl : (i, Value.int v) :: lv.filter (fun q => !(q.1 == i) && !(q.1 + 1 == i && q.2.category == 2)) = lv') (k : sv_J E X wd sz ce sl (pc + 3) lv' st) : sv_J E X wd sz ce sl pc lv st := by
  obtain ⟨p, l, e, R, s, m, args, below, meth, c, Q, A, nL⟩ := X
  exact fun H locs ls h1 h2 h3 h4 h5 => lv_iinc C.1.1 C.1.2.1 hd h5 hk hv hn hl (fun ls' h5 => k H locs ls' h1 h2 h3 h4 h5)
theorem sv_iadd {x y : Int32} (C : sv_C E X cc own sx) (hd : decode cc pc = .ok (.iadd, 1)) (k : sv_J E X wd sz ce sl (pc + 1) lv (.int (x + y) :: st)) : sv_J E X wd sz ce sl pc lv (.int y :: .int x :: st) := by
  obtain ⟨p, l, e, R, s, m, args, below, meth, c, Q, A, nL⟩ := X
  exact fun H locs ls h1 h2 h3 h4 h5 => lv_iadd C.1.1 C.1.2.1 hd (k H locs ls h1 h2 h3 h4 h5)
theorem sv_isub {x y : Int32} (C : sv_C E X cc own sx) (hd : decode cc pc = .ok (.isub, 1)) (k : sv_J E X wd sz ce sl (pc + 1) lv (.int (x - y) :: st)) : sv_J E X wd sz ce sl pc lv (.int y :: .int x :: st) := by
  obtain ⟨p, l, e, R, s, m, args, below, meth, c, Q, A, nL⟩ := X
  exact fun H locs ls h1 h2 h3 h4 h5 => lv_isub C.1.1 C.1.2.1 hd (k H locs ls h1 h2 h3 h4 h5)
theorem sv_imul {x y : Int32} (C : sv_C E X cc own sx) (hd : decode cc pc = .ok (.imul, 1)) (k : sv_J E X wd sz ce sl (pc + 1) lv (.int (x * y) :: st)) : sv_J E X wd sz ce sl pc lv (.int y :: .int x :: st) := by
  obtain ⟨p, l, e, R, s, m, args, below, meth, c, Q, A, nL⟩ := X
  exact fun H locs ls h1 h2 h3 h4 h5 => lv_imul C.1.1 C.1.2.1 hd (k H locs ls h1 h2 h3 h4 h5)
theorem sv_iand {x y : Int32} (C : sv_C E X cc own sx) (hd : decode cc pc = .ok (.iand, 1)) (k : sv_J E X wd sz ce sl (pc + 1) lv (.int (x &&& y) :: st)) : sv_J E X wd sz ce sl pc lv (.int y :: .int x :: st) := by
  obtain ⟨p, l, e, R, s, m, args, below, meth, c, Q, A, nL⟩ := X
  exact fun H locs ls h1 h2 h3 h4 h5 => lv_iand C.1.1 C.1.2.1 hd (k H locs ls h1 h2 h3 h4 h5)
theorem sv_ior {x y : Int32} (C : sv_C E X cc own sx) (hd : decode cc pc = .ok (.ior, 1)) (k : sv_J E X wd sz ce sl (pc + 1) lv (.int (x ||| y) :: st)) : sv_J E X wd sz ce sl pc lv (.int y :: .int x :: st) := by
  obtain ⟨p, l, e, R, s, m, args, below, meth, c, Q, A, nL⟩ := X
  exact fun H locs ls h1 h2 h3 h4 h5 => lv_ior C.1.1 C.1.2.1 hd (k H locs ls h1 h2 h3 h4 h5)
theorem sv_ixor {x y : Int32} (C : sv_C E X cc own sx) (hd : decode cc pc = .ok (.ixor, 1)) (k : sv_J E X wd sz ce sl (pc + 1) lv (.int (x ^^^ y) :: st)) : sv_J E X wd sz ce sl pc lv (.int y :: .int x :: st) := by
  obtain ⟨p, l, e, R, s, m, args, below, meth, c, Q, A, nL⟩ := X
  exact fun H locs ls h1 h2 h3 h4 h5 => lv_ixor C.1.1 C.1.2.1 hd (k H locs ls h1 h2 h3 h4 h5)
theorem sv_ishl {x y : Int32} (C : sv_C E X cc own sx) (hd : decode cc pc = .ok (.ishl, 1)) (k : sv_J E X wd sz ce sl (pc + 1) lv (.int (x <<< (y &&& 31)) :: st)) : sv_J E X wd sz ce sl pc lv (.int y :: .int x :: st) := by
  obtain ⟨p, l, e, R, s, m, args, below, meth, c, Q, A, nL⟩ := X
  exact fun H locs ls h1 h2 h3 h4 h5 => lv_ishl C.1.1 C.1.2.1 hd (k H locs ls h1 h2 h3 h4 h5)
theorem sv_ishr {x y : Int32} (C : sv_C E X cc own sx) (hd : decode cc pc = .ok (.ishr, 1)) (k : sv_J E X wd sz ce sl (pc + 1) lv (.int (x >>> (y &&& 31)) :: st)) : sv_J E X wd sz ce sl pc lv (.int y :: .int x :: st) := by
  obtain ⟨p, l, e, R, s, m, args, below, meth, c, Q, A, nL⟩ := X
  exact fun H locs ls h1 h2 h3 h4 h5 => lv_ishr C.1.1 C.1.2.1 hd (k H locs ls h1 h2 h3 h4 h5)
theorem sv_idiv {x y : Int32} (C : sv_C E X cc own sx) (hd : decode cc pc = .ok (.idiv, 1)) (hne : ¬ y = 0) (k : sv_J E X wd sz ce sl (pc + 1) lv (.int (x / y) :: st)) : sv_J E X wd sz ce sl pc lv (.int y :: .int x :: st) := by
  obtain ⟨p, l, e, R, s, m, args, below, meth, c, Q, A, nL⟩ := X
  exact fun H locs ls h1 h2 h3 h4 h5 => lv_idiv C.1.1 C.1.2.1 hd hne (k H locs ls h1 h2 h3 h4 h5)
theorem sv_irem {x y : Int32} (C : sv_C E X cc own sx) (hd : decode cc pc = .ok (.irem, 1)) (hne : ¬ y = 0) (k : sv_J E X wd sz ce sl (pc + 1) lv (.int (x - x / y * y) :: st)) : sv_J E X wd sz ce sl pc lv (.int y :: .int x :: st) := by
  obtain ⟨p, l, e, R, s, m, args, below, meth, c, Q, A, nL⟩ := X
  exact fun H locs ls h1 h2 h3 h4 h5 => lv_irem C.1.1 C.1.2.1 hd hne (k H locs ls h1 h2 h3 h4 h5)
theorem sv_ineg {x : Int32} (C : sv_C E X cc own sx) (hd : decode cc pc = .ok (.ineg, 1)) (k : sv_J E X wd sz ce sl (pc + 1) lv (.int (-x) :: st)) : sv_J E X wd sz ce sl pc lv (.int x :: st) := by
  obtain ⟨p, l, e, R, s, m, args, below, meth, c, Q, A, nL⟩ := X
  exact fun H locs ls h1 h2 h3 h4 h5 => lv_ineg C.1.1 C.1.2.1 hd (k H locs ls h1 h2 h3 h4 h5)
theorem sv_iushr {x y : Int32} (C : sv_C E X cc own sx) (hd : decode cc pc = .ok (.iushr, 1)) (k : sv_J E X wd sz ce sl (pc + 1) lv (.int (x.toUInt32 >>> (y.toUInt32 &&& Int32.toUInt32 31)).toInt32 :: st)) : sv_J E X wd sz ce sl pc lv (.int y :: .int x :: st) := by
  obtain ⟨p, l, e, R, s, m, args, below, meth, c, Q, A, nL⟩ := X
  exact fun H locs ls h1 h2 h3 h4 h5 => lv_iushr C.1.1 C.1.2.1 hd rfl (k H locs ls h1 h2 h3 h4 h5)
theorem sv_i2l {x : Int32} (C : sv_C E X cc own sx) (hd : decode cc pc = .ok (.i2l, 1)) (k : sv_J E X wd sz ce sl (pc + 1) lv (.long x.toInt64 :: st)) : sv_J E X wd sz ce sl pc lv (.int x :: st) := by
  obtain ⟨p, l, e, R, s, m, args, below, meth, c, Q, A, nL⟩ := X
  exact fun H locs ls h1 h2 h3 h4 h5 => lv_i2l C.1.1 C.1.2.1 hd rfl (k H locs ls h1 h2 h3 h4 h5)
theorem sv_l2i {x : Int64} (C : sv_C E X cc own sx) (hd : decode cc pc = .ok (.l2i, 1)) (k : sv_J E X wd sz ce sl (pc + 1) lv (.int x.toInt32 :: st)) : sv_J E X wd sz ce sl pc lv (.long x :: st) := by
  obtain ⟨p, l, e, R, s, m, args, below, meth, c, Q, A, nL⟩ := X
  exact fun H locs ls h1 h2 h3 h4 h5 => lv_l2i C.1.1 C.1.2.1 hd rfl (k H locs ls h1 h2 h3 h4 h5)
theorem sv_i2b {x : Int32} (C : sv_C E X cc own sx) (hd : decode cc pc = .ok (.i2b, 1)) (k : sv_J E X wd sz ce sl (pc + 1) lv (.int x.toInt8.toInt32 :: st)) : sv_J E X wd sz ce sl pc lv (.int x :: st) := by
  obtain ⟨p, l, e, R, s, m, args, below, meth, c, Q, A, nL⟩ := X
  exact fun H locs ls h1 h2 h3 h4 h5 => lv_i2b C.1.1 C.1.2.1 hd rfl (k H locs ls h1 h2 h3 h4 h5)
theorem sv_i2c {x : Int32} (C : sv_C E X cc own sx) (hd : decode cc pc = .ok (.i2c, 1)) (k : sv_J E X wd sz ce sl (pc + 1) lv (.int (x.toUInt32 % 65536).toInt32 :: st)) : sv_J E X wd sz ce sl pc lv (.int x :: st) := by
  obtain ⟨p, l, e, R, s, m, args, below, meth, c, Q, A, nL⟩ := X
  exact fun H locs ls h1 h2 h3 h4 h5 => lv_i2c C.1.1 C.1.2.1 hd rfl (k H locs ls h1 h2 h3 h4 h5)
theorem sv_ladd {x y : Int64} (C : sv_C E X cc own sx) (hd : decode cc pc = .ok (.ladd, 1)) (k : sv_J E X wd sz ce sl (pc + 1) lv (.long (x + y) :: st)) : sv_J E X wd sz ce sl pc lv (.long y :: .long x :: st) := by
  obtain ⟨p, l, e, R, s, m, args, below, meth, c, Q, A, nL⟩ := X
  exact fun H locs ls h1 h2 h3 h4 h5 => lv_ladd C.1.1 C.1.2.1 hd (k H locs ls h1 h2 h3 h4 h5)
theorem sv_lsub {x y : Int64} (C : sv_C E X cc own sx) (hd : decode cc pc = .ok (.lsub, 1)) (k : sv_J E X wd sz ce sl (pc + 1) lv (.long (x - y) :: st)) : sv_J E X wd sz ce sl pc lv (.long y :: .long x :: st) := by
  obtain ⟨p, l, e, R, s, m, args, below, meth, c, Q, A, nL⟩ := X
  exact fun H locs ls h1 h2 h3 h4 h5 => lv_lsub C.1.1 C.1.2.1 hd (k H locs ls h1 h2 h3 h4 h5)
theorem sv_land {x y : Int64} (C : sv_C E X cc own sx) (hd : decode cc pc = .ok (.land, 1)) (k : sv_J E X wd sz ce sl (pc + 1) lv (.long (x &&& y) :: st)) : sv_J E X wd sz ce sl pc lv (.long y :: .long x :: st) := by
  obtain ⟨p, l, e, R, s, m, args, below, meth, c, Q, A, nL⟩ := X
  exact fun H locs ls h1 h2 h3 h4 h5 => lv_land C.1.1 C.1.2.1 hd (k H locs ls h1 h2 h3 h4 h5)
theorem sv_lor {x y : Int64} (C : sv_C E X cc own sx) (hd : decode cc pc = .ok (.lor, 1)) (k : sv_J E X wd sz ce sl (pc + 1) lv (.long (x ||| y) :: st)) : sv_J E X wd sz ce sl pc lv (.long y :: .long x :: st) := by
  obtain ⟨p, l, e, R, s, m, args, below, meth, c, Q, A, nL⟩ := X
  exact fun H locs ls h1 h2 h3 h4 h5 => lv_lor C.1.1 C.1.2.1 hd (k H locs ls h1 h2 h3 h4 h5)
theorem sv_lushr {x : Int64} {y : Int32} (C : sv_C E X cc own sx) (hd : decode cc pc = .ok (.lushr, 1)) (k : sv_J E X wd sz ce sl (pc + 1) lv (.long (x.toUInt64 >>> (y.toInt64.toUInt64 &&& Int64.toUInt64 63)).toInt64 :: st)) : sv_J E X wd sz ce sl pc lv (.int y :: .long x :: st) := by
  obtain ⟨p, l, e, R, s, m, args, below, meth, c, Q, A, nL⟩ := X
  exact fun H locs ls h1 h2 h3 h4 h5 => lv_lushr C.1.1 C.1.2.1 hd rfl (k H locs ls h1 h2 h3 h4 h5)
theorem sv_lshl {x : Int64} {y : Int32} (C : sv_C E X cc own sx) (hd : decode cc pc = .ok (.lshl, 1)) (k : sv_J E X wd sz ce sl (pc + 1) lv (.long (x <<< (y.toInt64 &&& 63)) :: st)) : sv_J E X wd sz ce sl pc lv (.int y :: .long x :: st) := by
  obtain ⟨p, l, e, R, s, m, args, below, meth, c, Q, A, nL⟩ := X
  exact fun H locs ls h1 h2 h3 h4 h5 => lv_lshl C.1.1 C.1.2.1 hd rfl (k H locs ls h1 h2 h3 h4 h5)
theorem sv_if_eq {x : Int32} {off : Int} {tgt : Nat} (C : sv_C E X cc own sx) (hd : decode cc pc = .ok (.ifCond .eq off, 3)) (ht : (pc : Int) + off = (tgt : Int)) (kt : x = 0 → sv_J E X wd sz ce sl tgt lv st) (kf : ¬ x = 0 → sv_J E X wd sz ce sl (pc + 3) lv st) : sv_J E X wd sz ce sl pc lv (.int x :: st) := by
  obtain ⟨p, l, e, R, s, m, args, below, meth, c, Q, A, nL⟩ := X
  exact fun H locs ls h1 h2 h3 h4 h5 => lv_if_eq C.1.1 C.1.2.1 hd ht (fun h => kt h H locs ls h1 h2 h3 h4 h5) (fun h => kf h H locs ls h1 h2 h3 h4 h5)
theorem sv_icmp_eq {x y : Int32} {off : Int} {tgt : Nat} (C : sv_C E X cc own sx) (hd : decode cc pc = .ok (.if_icmp .eq off, 3)) (ht : (pc : Int) + off = (tgt : Int)) (kt : x = y → sv_J E X wd sz ce sl tgt lv st) (kf : ¬ x = y → sv_J E X wd sz ce sl (pc + 3) lv st) : sv_J E X wd sz ce sl pc lv (.int y :: .int x :: st) := by
  obtain ⟨p, l, e, R, s, m, args, below, meth, c, Q, A, nL⟩ := X
  exact fun H locs ls h1 h2 h3 h4 h5 => lv_icmp_eq C.1.1 C.1.2.1 hd ht (fun h => kt h H locs ls h1 h2 h3 h4 h5) (fun h => kf h H locs ls h1 h2 h3 h4 h5)
theorem sv_if_ne {x : Int32} {off : Int} {tgt : Nat} (C : sv_C E X cc own sx) (hd : decode cc pc = .ok (.ifCond .ne off, 3)) (ht : (pc : Int) + off = (tgt : Int)) (kt : ¬ x = 0 → sv_J E X wd sz ce sl tgt lv st) (kf : x = 0 → sv_J E X wd sz ce sl (pc + 3) lv st) : sv_J E X wd sz ce sl pc lv (.int x :: st) := by
  obtain ⟨p, l, e, R, s, m, args, below, meth, c, Q, A, nL⟩ := X
  exact fun H locs ls h1 h2 h3 h4 h5 => lv_if_ne C.1.1 C.1.2.1 hd ht (fun h => kt h H locs ls h1 h2 h3 h4 h5) (fun h => kf h H locs ls h1 h2 h3 h4 h5)
theorem sv_icmp_ne {x y : Int32} {off : Int} {tgt : Nat} (C : sv_C E X cc own sx) (hd : decode cc pc = .ok (.if_icmp .ne off, 3)) (ht : (pc : Int) + off = (tgt : Int)) (kt : ¬ x = y → sv_J E X wd sz ce sl tgt lv st) (kf : x = y → sv_J E X wd sz ce sl (pc + 3) lv st) : sv_J E X wd sz ce sl pc lv (.int y :: .int x :: st) := by
  obtain ⟨p, l, e, R, s, m, args, below, meth, c, Q, A, nL⟩ := X
  exact fun H locs ls h1 h2 h3 h4 h5 => lv_icmp_ne C.1.1 C.1.2.1 hd ht (fun h => kt h H locs ls h1 h2 h3 h4 h5) (fun h => kf h H locs ls h1 h2 h3 h4 h5)
theorem sv_if_lt {x : Int32} {off : Int} {tgt : Nat} (C : sv_C E X cc own sx) (hd : decode cc pc = .ok (.ifCond .lt off, 3)) (ht : (pc : Int) + off = (tgt : Int)) (kt : x < 0 → sv_J E X wd sz ce sl tgt lv st) (kf : ¬ x < 0 → sv_J E X wd sz ce sl (pc + 3) lv st) : sv_J E X wd sz ce sl pc lv (.int x :: st) := by
  obtain ⟨p, l, e, R, s, m, args, below, meth, c, Q, A, nL⟩ := X
  exact fun H locs ls h1 h2 h3 h4 h5 => lv_if_lt C.1.1 C.1.2.1 hd ht (fun h => kt h H locs ls h1 h2 h3 h4 h5) (fun h => kf h H locs ls h1 h2 h3 h4 h5)
theorem sv_icmp_lt {x y : Int32} {off : Int} {tgt : Nat} (C : sv_C E X cc own sx) (hd : decode cc pc = .ok (.if_icmp .lt off, 3)) (ht : (pc : Int) + off = (tgt : Int)) (kt : x < y → sv_J E X wd sz ce sl tgt lv st) (kf : ¬ x < y → sv_J E X wd sz ce sl (pc + 3) lv st) : sv_J E X wd sz ce sl pc lv (.int y :: .int x :: st) := by
  obtain ⟨p, l, e, R, s, m, args, below, meth, c, Q, A, nL⟩ := X
  exact fun H locs ls h1 h2 h3 h4 h5 => lv_icmp_lt C.1.1 C.1.2.1 hd ht (fun h => kt h H locs ls h1 h2 h3 h4 h5) (fun h => kf h H locs ls h1 h2 h3 h4 h5)
theorem sv_if_ge {x : Int32} {off : Int} {tgt : Nat} (C : sv_C E X cc own sx) (hd : decode cc pc = .ok (.ifCond .ge off, 3)) (ht : (pc : Int) + off = (tgt : Int)) (kt : 0 ≤ x → sv_J E X wd sz ce sl tgt lv st) (kf : ¬ 0 ≤ x → sv_J E X wd sz ce sl (pc + 3) lv st) : sv_J E X wd sz ce sl pc lv (.int x :: st) := by
  obtain ⟨p, l, e, R, s, m, args, below, meth, c, Q, A, nL⟩ := X
  exact fun H locs ls h1 h2 h3 h4 h5 => lv_if_ge C.1.1 C.1.2.1 hd ht (fun h => kt h H locs ls h1 h2 h3 h4 h5) (fun h => kf h H locs ls h1 h2 h3 h4 h5)
theorem sv_icmp_ge {x y : Int32} {off : Int} {tgt : Nat} (C : sv_C E X cc own sx) (hd : decode cc pc = .ok (.if_icmp .ge off, 3)) (ht : (pc : Int) + off = (tgt : Int)) (kt : y ≤ x → sv_J E X wd sz ce sl tgt lv st) (kf : ¬ y ≤ x → sv_J E X wd sz ce sl (pc + 3) lv st) : sv_J E X wd sz ce sl pc lv (.int y :: .int x :: st) := by
  obtain ⟨p, l, e, R, s, m, args, below, meth, c, Q, A, nL⟩ := X
  exact fun H locs ls h1 h2 h3 h4 h5 => lv_icmp_ge C.1.1 C.1.2.1 hd ht (fun h => kt h H locs ls h1 h2 h3 h4 h5) (fun h => kf h H locs ls h1 h2 h3 h4 h5)
theorem sv_if_gt {x : Int32} {off : Int} {tgt : Nat} (C : sv_C E X cc own sx) (hd : decode cc pc = .ok (.ifCond .gt off, 3)) (ht : (pc : Int) + off = (tgt : Int)) (kt : 0 < x → sv_J E X wd sz ce sl tgt lv st) (kf : ¬ 0 < x → sv_J E X wd sz ce sl (pc + 3) lv st) : sv_J E X wd sz ce sl pc lv (.int x :: st) := by
  obtain ⟨p, l, e, R, s, m, args, below, meth, c, Q, A, nL⟩ := X
  exact fun H locs ls h1 h2 h3 h4 h5 => lv_if_gt C.1.1 C.1.2.1 hd ht (fun h => kt h H locs ls h1 h2 h3 h4 h5) (fun h => kf h H locs ls h1 h2 h3 h4 h5)
theorem sv_icmp_gt {x y : Int32} {off : Int} {tgt : Nat} (C : sv_C E X cc own sx) (hd : decode cc pc = .ok (.if_icmp .gt off, 3)) (ht : (pc : Int) + off = (tgt : Int)) (kt : y < x → sv_J E X wd sz ce sl tgt lv st) (kf : ¬ y < x → sv_J E X wd sz ce sl (pc + 3) lv st) : sv_J E X wd sz ce sl pc lv (.int y :: .int x :: st) := by
  obtain ⟨p, l, e, R, s, m, args, below, meth, c, Q, A, nL⟩ := X
  exact fun H locs ls h1 h2 h3 h4 h5 => lv_icmp_gt C.1.1 C.1.2.1 hd ht (fun h => kt h H locs ls h1 h2 h3 h4 h5) (fun h => kf h H locs ls h1 h2 h3 h4 h5)
theorem sv_if_le {x : Int32} {off : Int} {tgt : Nat} (C : sv_C E X cc own sx) (hd : decode cc pc = .ok (.ifCond .le off, 3)) (ht : (pc : Int) + off = (tgt : Int)) (kt : x ≤ 0 → sv_J E X wd sz ce sl tgt lv st) (kf : ¬ x ≤ 0 → sv_J E X wd sz ce sl (pc + 3) lv st) : sv_J E X wd sz ce sl pc lv (.int x :: st) := by
  obtain ⟨p, l, e, R, s, m, args, below, meth, c, Q, A, nL⟩ := X
  exact fun H locs ls h1 h2 h3 h4 h5 => lv_if_le C.1.1 C.1.2.1 hd ht (fun h => kt h H locs ls h1 h2 h3 h4 h5) (fun h => kf h H locs ls h1 h2 h3 h4 h5)
theorem sv_icmp_le {x y : Int32} {off : Int} {tgt : Nat} (C : sv_C E X cc own sx) (hd : decode cc pc = .ok (.if_icmp .le off, 3)) (ht : (pc : Int) + off = (tgt : Int)) (kt : x ≤ y → sv_J E X wd sz ce sl tgt lv st) (kf : ¬ x ≤ y → sv_J E X wd sz ce sl (pc + 3) lv st) : sv_J E X wd sz ce sl pc lv (.int y :: .int x :: st) := by
  obtain ⟨p, l, e, R, s, m, args, below, meth, c, Q, A, nL⟩ := X
  exact fun H locs ls h1 h2 h3 h4 h5 => lv_icmp_le C.1.1 C.1.2.1 hd ht (fun h => kt h H locs ls h1 h2 h3 h4 h5) (fun h => kf h H locs ls h1 h2 h3 h4 h5)
theorem sv_dup {va : Value} (C : sv_C E X cc own sx) (hd : decode cc pc = .ok (.dup, 1)) (hva : va.category = 1) (k : sv_J E X wd sz ce sl (pc + 1) lv (va :: va :: st)) : sv_J E X wd sz ce sl pc lv (va :: st) := by
  obtain ⟨p, l, e, R, s, m, args, below, meth, c, Q, A, nL⟩ := X
  exact fun H locs ls h1 h2 h3 h4 h5 => lv_dup C.1.1 C.1.2.1 hd hva (k H locs ls h1 h2 h3 h4 h5)
theorem sv_pop {va : Value} (C : sv_C E X cc own sx) (hd : decode cc pc = .ok (.pop, 1)) (hva : va.category = 1) (k : sv_J E X wd sz ce sl (pc + 1) lv st) : sv_J E X wd sz ce sl pc lv (va :: st) := by
  obtain ⟨p, l, e, R, s, m, args, below, meth, c, Q, A, nL⟩ := X
  exact fun H locs ls h1 h2 h3 h4 h5 => lv_pop C.1.1 C.1.2.1 hd hva (k H locs ls h1 h2 h3 h4 h5)
theorem sv_dup_x1 {va vb : Value} (C : sv_C E X cc own sx) (hd : decode cc pc = .ok (.dup_x1, 1)) (hva : va.category = 1) (hvb : vb.category = 1) (k : sv_J E X wd sz ce sl (pc + 1) lv (va :: vb :: va :: st)) : sv_J E X wd sz ce sl pc lv (va :: vb :: st) := by
  obtain ⟨p, l, e, R, s, m, args, below, meth, c, Q, A, nL⟩ := X
  exact fun H locs ls h1 h2 h3 h4 h5 => lv_dup_x1 C.1.1 C.1.2.1 hd hva hvb (k H locs ls h1 h2 h3 h4 h5)
theorem sv_dup2 {va vb : Value} (C : sv_C E X cc own sx) (hd : decode cc pc = .ok (.dup2, 1)) (hva : va.category = 1) (hvb : vb.category = 1) (k : sv_J E X wd sz ce sl (pc + 1) lv (va :: vb :: va :: vb :: st)) : sv_J E X wd sz ce sl pc lv (va :: vb :: st) := by
  obtain ⟨p, l, e, R, s, m, args, below, meth, c, Q, A, nL⟩ := X
  exact fun H locs ls h1 h2 h3 h4 h5 => lv_dup2_11 C.1.1 C.1.2.1 hd hva hvb (k H locs ls h1 h2 h3 h4 h5)
theorem sv_goto {off : Int} {tgt : Nat} (C : sv_C E X cc own sx) (hd : decode cc pc = .ok (.goto off, 3)) (ht : (pc : Int) + off = (tgt : Int)) (k : sv_J E X wd sz ce sl tgt lv st) : sv_J E X wd sz ce sl pc lv st := by
  obtain ⟨p, l, e, R, s, m, args, below, meth, c, Q, A, nL⟩ := X
  exact fun H locs ls h1 h2 h3 h4 h5 => lv_goto C.1.1 C.1.2.1 hd ht (k H locs ls h1 h2 h3 h4 h5)
/-- fewer locals, in any order -/
theorem sv_sub (ks : List Nat) (hl : lv_pick lv ks = lv') (k : sv_J E X wd sz ce sl pc lv' st) : sv_J E X wd sz ce sl pc lv st := by
  obtain ⟨p, l, e, R, s, m, args, below, meth, c, Q, A, nL⟩ := X
  exact fun H locs ls h1 h2 h3 h4 h5 => k H locs ls h1 h2 h3 h4 (lv_sub h5 ks hl)
theorem sv_iret {v : Int32} (C : sv_C E X cc own sx) (hZ : sv_Z E X (some .int) (some (.int v)) wd sz ce sl) (hd : decode cc pc = .ok (.ireturn, 1)) : sv_J E X wd sz ce sl pc lv [.int v] := by
  obtain ⟨p, l, e, R, s, m, args, below, meth, c, Q, A, nL⟩ := X
  obtain ⟨hr, wd0, sz0, rfl, rfl⟩ := hZ
  exact fun H locs ls h1 h2 h3 h4 h5 => W.iret C.1.1 C.1.2.1 hr (fun t ht hW => ⟨⟨rfl, by rw [ht]; exact h1, by rw [ht]; exact h2, h3⟩, h4.F ht⟩) h4.2.2 hd C.2.2.1
theorem sv_zret {v : Int32} {ty : FieldType} (C : sv_C E X cc own sx) (hn : narrow ty (.int v) = .int v) (hZ : sv_Z E X (some ty) (some (.int v)) wd sz ce sl) (hd : decode cc pc = .ok (.ireturn, 1)) : sv_J E X wd sz ce sl pc lv [.int v] := by
  obtain ⟨p, l, e, R, s, m, args, below, meth, c, Q, A, nL⟩ := X
  obtain ⟨hr, wd0, sz0, rfl, rfl⟩ := hZ
  exact fun H locs ls h1 h2 h3 h4 h5 => W.zret C.1.1 C.1.2.1 hr hn (fun t ht hW => ⟨⟨rfl, by rw [ht]; exact h1, by rw [ht]; exact h2, h3⟩, h4.F ht⟩) h4.2.2 hd C.2.2.1
theorem sv_vret (C : sv_C E X cc own sx) (hZ : sv_Z E X none none wd sz ce sl) (hd : decode cc pc = .ok (.return_, 1)) : sv_J E X wd sz ce sl pc lv [] := by
  obtain ⟨p, l, e, R, s, m, args, below, meth, c, Q, A, nL⟩ := X
  obtain ⟨hr, wd0, sz0, rfl, rfl⟩ := hZ
  exact fun H locs ls h1 h2 h3 h4 h5 => W.vret C.1.1 C.1.2.1 hr (fun t ht hW => ⟨⟨rfl, by rw [ht]; exact h1, by rw [ht]; exact h2, h3⟩, h4.F ht⟩) h4.2.2 hd C.2.2.1
theorem sv_aret {v : Value} {rt : FieldType} (C : sv_C E X cc own sx) (hrt : (∃ n, rt = .object n) ∨ ∃ t, rt = .array t) (hv : v = .null ∨ ∃ a, v = .ref a) (hZ : sv_Z E X (some rt) (some v) wd sz ce sl) (hd : decode cc pc = .ok (.areturn, 1)) : sv_J E X wd sz ce sl pc lv [v] := by
  obtain ⟨p, l, e, R, s, m, args, below, meth, c, Q, A, nL⟩ := X
  obtain ⟨hr, wd0, sz0, rfl, rfl⟩ := hZ
  exact fun H locs ls h1 h2 h3 h4 h5 => W.aret C.1.1 C.1.2.1 hr hrt hv (fun t ht hW => ⟨⟨rfl, by rw [ht]; exact h1, by rw [ht]; exact h2, h3⟩, h4.F ht⟩) h4.2.2 hd C.2.2.1
theorem sv_widen {k n : Nat} (h1 : ce ≤ k) (h2 : sl ≤ n) (kk : sv_J E X wd sz k n pc lv st) : sv_J E X wd sz ce sl pc lv st := by
  obtain ⟨p, l, e, R, s, m, args, below, meth, c, Q, A, nL⟩ := X
  exact fun H locs ls g1 g2 g3 g4 g5 => W.widen h1 h2 (kk H locs ls g1 g2 g3 g4 g5)
end SVA
end
section
/-! ===== rows over a world: fields, arrays, calls ===== -/
/-- a field's link: in class own at place index, field k of the class ci -/
def sv_FL (own : String) (index ci k : Nat) (fin : Bool) (ty : FieldType) : Prop := ∃ (Cn : String) (T : u_T) (N : Nat) (ty0 : Nat → FieldType), vwCl[ci]? = some (Cn, T, N) ∧ (∀ w ∈ u_ws Cn T N, w ∈ sv_w) ∧ (∀ k, k < N → parseFieldDescriptor (T k).2.2.1 = some (ty0 k)) ∧ (∀ a, a < N → ∀ b, b < N → a ≠ b → (T a).2.1 ≠ (T b).2.1) ∧ k < N ∧ Cond.fieldLink own index (T k).1 (T k).2.1 (T k).2.2.1 ∈ sv_w ∧ (T k).2.2.2 = fin ∧ parseFieldDescriptor (T k).2.2.1 = some ty ∧ (T k).1 = Cn
theorem sv_gd {w : Cond} (h : w ∈ sv_w) : w ∈ sv_w ∧ ((w.onTables && w.keeps) = true ∨ ∃ ty, w = .arrayClass ty) := ⟨h, good_of_word (List.mem_filter.mp h).2⟩
theorem sv_gds {ws : List Cond} (h : ∀ w ∈ ws, w ∈ sv_w) : GoodIn sv_w ws := fun w hw => sv_gd (h w hw)
def sv_dn (y : MethodName) (n : Nat) : Prop := y.cls ≠ "java/lang/invoke/MethodHandle" ∧ y.cls ≠ "java/lang/invoke/VarHandle" ∧ (parseMethodDescriptor y.desc).map (fun d => d.parameters.length) = some n
/-- a method's link: called by class own at place index, n arguments -/
def sv_MV (own : String) (index : Nat) (y : MethodName) (cb : ByteArray) (mL : Nat) (rt : Option FieldType) (n : Nat) : Prop := GoodIn sv_w (wsV own index y.cls y (Cond.code y cb mL rt :: sv_w)) ∧ sv_dn y n
def sv_MS (own : String) (index : Nat) (y : MethodName) (cb : ByteArray) (mL : Nat) (rt : Option FieldType) (n : Nat) : Prop := (Cond.methodLink own index y ∈ sv_w ∧ Cond.static y ∈ sv_w ∧ Cond.initialized y.cls ∈ sv_w ∧ Cond.code y cb mL rt ∈ sv_w) ∧ sv_dn y n
theorem sv_mkV {own : String} {index : Nat} {y : MethodName} {cb : ByteArray} {mL : Nat} {rt : Option FieldType} {n : Nat} (h1 : Cond.methodLink own index y ∈ sv_w) (h2 : Cond.instanceMethod y ∈ sv_w) (h3 : Cond.selects y.cls y y ∈ sv_w) (h4 : Cond.initialized y.cls ∈ sv_w) (h5 : Cond.code y cb mL rt ∈ sv_w) (hd : sv_dn y n) : sv_MV own index y cb mL rt n :=
  ⟨sv_gds (fun w hw => by
    simp only [wsV, List.mem_append, List.mem_cons, List.not_mem_nil, or_false] at hw
    rcases hw with (rfl | rfl | rfl | rfl) | rfl | hw <;> assumption), hd⟩
section SVB
variable {E : sv_E} {X : sv_X} {cc : ByteArray} {own : String} {sx : List (Nat × Nat × List Int32)} {wd : va_W} {sz ce sl pc : Nat} {lv lv' : List (Nat × Value)} {st : List Value}
theorem sv_getf {index ci k a : Nat} {fin : Bool} {ty : FieldType} {fs : List Value} {v : Value} (C : sv_C E X cc own sx) (hF : sv_FL own index ci k fin ty) (q0 : Nat) (he : wd[q0]? = some (a, .inr (ci, fs))) (hv : fs[k]? = some v) (hd : decode cc pc = .ok (.getfield index, 3)) (kk : sv_J E X wd sz ce sl (pc + 3) lv (v :: st)) : sv_J E X wd sz ce sl pc lv (.ref a :: st) := by
  obtain ⟨p, l, e, R, s, m, args, below, meth, c, Q, A, nL⟩ := X
  obtain ⟨Cn, T, N, ty0, f1, f2, f3, f4, f5, f6, f7, f8, f9⟩ := hF
  exact fun H locs ls h1 h2 h3 h4 h5 => va_get C.1.1 C.1.2.1 C.1.2.2.2.2 f2 C.1.2.2.2.1 C.2.1 h2 q0 he f1 k f5 (C.1.2.2.2.2 _ f6) (fun _ h => h) hv hd (kk H locs ls h1 h2 h3 h4 h5)
theorem sv_putf {index ci k a : Nat} {ty : FieldType} {fs : List Value} {v : Value} (C : sv_C E X cc own sx) (hF : sv_FL own index ci k false ty) (q0 : Nat) (he : wd[q0]? = some (a, .inr (ci, fs))) (hn : narrow ty v = v) (hfit : fits ty v = true) (hl : k < fs.length) (hd : decode cc pc = .ok (.putfield index, 3)) (kk : sv_J E X (wd.set q0 (a, .inr (ci, fs.set k v))) sz ce sl (pc + 3) lv st) : sv_J E X wd sz ce sl pc lv (v :: .ref a :: st) := by
  obtain ⟨p, l, e, R, s, m, args, below, meth, c, Q, A, nL⟩ := X
  obtain ⟨Cn, T, N, ty0, f1, f2, f3, f4, f5, f6, f7, f8, f9⟩ := hF
  obtain ⟨⟨hx, hb, hml, hown, hts⟩, hK, hC⟩ := C
  intro H locs ls g1 hP hD hS g5
  have hap := va_apart (own := own) hts f2 ty0 f3 f4 hK f1
  obtain ⟨r, h1, cell, q1, q2, q3, q4⟩ := hP q0 _ he
  have hr : r = (Cn, T, N) := Option.some.inj (h1.symm.trans f1)
  subst hr
  obtain ⟨hSl, hfc, kC, hkC, hkind⟩ := hK.1 ci _ f1
  obtain ⟨cf, kf, fi, f, hi, hsl⟩ := hSl k f5
  have hlay := hts _ (f2 _ (u_in_lay f5))
  unfold u_lay at hlay
  rw [if_neg (by rw [f7]; decide)] at hlay
  have hst := (u_facts hfc hkC (u_lays hts f2 f5) hi).1
  have h6 := u_store hfc hkC hkind hlay hi f8 hn hfit
  refine W.putK hx hb (f := f) ⟨hown, hts _ f6, ⟨_, _, _, hi⟩, hst⟩ (by rw [q2]; exact h6) q1 q3 (by rw [hsl]; exact k2_hasslot (q4 k f5)) rfl rfl hd fun H' e1 e2 e3 => ?_
  rw [hsl] at e1 ⊢
  exact kk H' _ ls (e2.trans g1) (hP.set hD he ⟨_, f1, t_OB.to (V := updV (vp_V fs) k v) ⟨_, e1, q2, q3, t_set q4 hap f5 v⟩ (fun j _ => vp_updV_set hl v j)⟩ e3) (hD.set he) (hS.put e2 e3 (hD.2 q0 _ he)) g5
/-- a final field, in a constructor -/
theorem sv_putF {index ci k a : Nat} {ty : FieldType} {fs : List Value} {v : Value} (C : sv_C E X cc own sx) (hF : sv_FL own index ci k true ty) (ho : (vwCl[ci]?).map (fun q => q.1) = some own) (hnm : sv_nm X = "<init>") (q0 : Nat) (he : wd[q0]? = some (a, .inr (ci, fs))) (hn : narrow ty v = v) (hfit : fits ty v = true) (hl : k < fs.length) (hd : decode cc pc = .ok (.putfield index, 3)) (kk : sv_J E X (wd.set q0 (a, .inr (ci, fs.set k v))) sz ce sl (pc + 3) lv st) : sv_J E X wd sz ce sl pc lv (v :: .ref a :: st) := by
  obtain ⟨p, l, e, R, s, m, args, below, meth, c, Q, A, nL⟩ := X
  obtain ⟨Cn, T, N, ty0, f1, f2, f3, f4, f5, f6, f7, f8, f9⟩ := hF
  obtain ⟨⟨hx, hb, hml, hown, hts⟩, hK, hC⟩ := C
  intro H locs ls g1 hP hD hS g5
  have hap := va_apart (own := own) hts f2 ty0 f3 f4 hK f1
  obtain ⟨r, h1, cell, q1, q2, q3, q4⟩ := hP q0 _ he
  have hr : r = (Cn, T, N) := Option.some.inj (h1.symm.trans f1)
  subst hr
  obtain ⟨hSl, hfc, kC, hkC, hkind⟩ := hK.1 ci _ f1
  obtain ⟨cf, kf, fi, f, hi, hsl⟩ := hSl k f5
  have hlay := hts _ (f2 _ (u_in_lay f5))
  unfold u_lay at hlay
  rw [if_pos f7] at hlay
  have hst := (u_facts hfc hkC (u_lays hts f2 f5) hi).1
  rw [f1] at ho
  have hoC : Cn = own := Option.some.inj ho
  have hcf : m.cls = cf := by
    obtain ⟨_, _, c', _, _, _, -, -, hf', -, -, -, hown2, -⟩ := Cond.laysFinal_spec hlay
    have e1 : c' = cf := by have := hi.symm.trans hf'; simp at this; exact this.1.symm
    rw [f9, hoC] at hown2
    rw [← e1]; exact Option.some.inj (hown.symm.trans hown2)
  have h6 := u_fits hfc hkC hkind (Or.inr hlay) hi f8 hn hfit
  refine W.putFinK hx hb hown (hts _ f6) hi hst hcf hnm (by rw [q2]; exact h6) q1 q3 (by rw [hsl]; exact k2_hasslot (q4 k f5)) rfl rfl hd fun H' e1 e2 e3 => ?_
  rw [hsl] at e1 ⊢
  exact kk H' _ ls (e2.trans g1) (hP.set hD he ⟨_, f1, t_OB.to (V := updV (vp_V fs) k v) ⟨_, e1, q2, q3, t_set q4 hap f5 v⟩ (fun j _ => vp_updV_set hl v j)⟩ e3) (hD.set he) (hS.put e2 e3 (hD.2 q0 _ he)) g5
/-- a place of an array of n -/
def sv_inb (i : Int32) (n : Nat) : Bool := decide (¬ (i < 0 ∨ n ≤ i.toNatClampNeg))
theorem sv_inb_in {i : Int32} {n : Nat} (h : sv_inb i n = true) : vp_in i n := of_decide_eq_true (p := ¬ (i < 0 ∨ n ≤ i.toNatClampNeg)) h
theorem sv_iald {a n : Nat} {f : Nat → Int32} {i : Int32} (C : sv_C E X cc own sx) (q0 : Nat) (ha : wd[q0]? = some (a, .inl (E.2.1 1, n, .inl f))) (hin : sv_inb i n = true) (hd : decode cc pc = .ok (.iaload, 1)) (kk : sv_J E X wd sz ce sl (pc + 1) lv (.int (f i.toNatClampNeg) :: st)) : sv_J E X wd sz ce sl pc lv (.int i :: .ref a :: st) := by
  obtain ⟨p, l, e, R, s, m, args, below, meth, c, Q, A, nL⟩ := X
  exact fun H locs ls h1 h2 h3 h4 h5 => va_iald C.1.1 C.1.2.1 C.2.1 h2 q0 1 ha rfl (sv_inb_in hin) hd (kk H locs ls h1 h2 h3 h4 h5)
theorem sv_bald {a n : Nat} {f : Nat → Int32} {i : Int32} (C : sv_C E X cc own sx) (q0 : Nat) (ha : wd[q0]? = some (a, .inl (E.2.1 0, n, .inl f))) (hin : sv_inb i n = true) (hd : decode cc pc = .ok (.baload, 1)) (kk : sv_J E X wd sz ce sl (pc + 1) lv (.int (f i.toNatClampNeg) :: st)) : sv_J E X wd sz ce sl pc lv (.int i :: .ref a :: st) := by
  obtain ⟨p, l, e, R, s, m, args, below, meth, c, Q, A, nL⟩ := X
  exact fun H locs ls h1 h2 h3 h4 h5 => va_bald C.1.1 C.1.2.1 C.2.1 h2 q0 0 ha rfl (sv_inb_in hin) hd (kk H locs ls h1 h2 h3 h4 h5)
theorem sv_zald {a n : Nat} {f : Nat → Int32} {i : Int32} (C : sv_C E X cc own sx) (q0 : Nat) (ha : wd[q0]? = some (a, .inl (E.2.1 2, n, .inl f))) (hin : sv_inb i n = true) (hd : decode cc pc = .ok (.baload, 1)) (kk : sv_J E X wd sz ce sl (pc + 1) lv (.int (f i.toNatClampNeg) :: st)) : sv_J E X wd sz ce sl pc lv (.int i :: .ref a :: st) := by
  obtain ⟨p, l, e, R, s, m, args, below, meth, c, Q, A, nL⟩ := X
  exact fun H locs ls h1 h2 h3 h4 h5 => va_zald C.1.1 C.1.2.1 C.2.1 h2 q0 2 ha rfl (sv_inb_in hin) hd (kk H locs ls h1 h2 h3 h4 h5)
theorem sv_aald {a n : Nat} {f : Nat → Option Nat} {t0 : Nat} {cA : ClassId} {K : String} {i : Int32} (C : sv_C E X cc own sx) (q0 : Nat) (ht : (sv_tys E)[t0]? = some (cA, .object K)) (ha : wd[q0]? = some (a, .inl (cA, n, .inr (.inr (.inr (.inr f)))))) (hin : sv_inb i n = true) (hd : decode cc pc = .ok (.aaload, 1)) (kk : sv_J E X wd sz ce sl (pc + 1) lv (va_rf (f i.toNatClampNeg) :: st)) : sv_J E X wd sz ce sl pc lv (.int i :: .ref a :: st) := by
  obtain ⟨p, l, e, R, s, m, args, below, meth, c, Q, A, nL⟩ := X
  exact fun H locs ls h1 h2 h3 h4 h5 => va_aldq C.1.1 C.1.2.1 C.2.1 h2 q0 t0 ha ht (sv_inb_in hin) hd (kk H locs ls h1 h2 h3 h4 h5)
theorem sv_alen {a t0 : Nat} {cA : ClassId} {x : vp_A} {ty : FieldType} (C : sv_C E X cc own sx) (q0 : Nat) (ht : (sv_tys E)[t0]? = some (cA, ty)) (ha : wd[q0]? = some (a, .inl (cA, x))) (hd : decode cc pc = .ok (.arraylength, 1)) (kk : sv_J E X wd sz ce sl (pc + 1) lv (.int (Int32.ofNat x.1) :: st)) : sv_J E X wd sz ce sl pc lv (.ref a :: st) := by
  obtain ⟨p, l, e, R, s, m, args, below, meth, c, Q, A, nL⟩ := X
  exact fun H locs ls h1 h2 h3 h4 h5 => va_alen C.1.1 C.1.2.1 C.2.1 h2 q0 t0 ha ht rfl hd (kk H locs ls h1 h2 h3 h4 h5)
theorem sv_celli {cA : ClassId} {n j : Nat} {f : Nat → Int32} {x : Int32} : (vp_cell cA (n, .inl f)).setSlot j (.int x) = vp_cell cA (n, .inl (upd f j x)) := by
  rw [vp_cell_i, vp_cell_i, arrV_store]
  congr 2
  funext q
  by_cases hq : q = j
  · subst hq
    simp [updV, upd]
  · simp [updV, upd, hq]
theorem sv_iast {a n : Nat} {f : Nat → Int32} {i x : Int32} (C : sv_C E X cc own sx) (q0 : Nat) (ha : wd[q0]? = some (a, .inl (E.2.1 1, n, .inl f))) (hin : sv_inb i n = true) (hd : decode cc pc = .ok (.iastore, 1)) (kk : sv_J E X (wd.set q0 (a, .inl (E.2.1 1, n, .inl (upd f i.toNatClampNeg x)))) sz ce sl (pc + 1) lv st) : sv_J E X wd sz ce sl pc lv (.int x :: .int i :: .ref a :: st) := by
  obtain ⟨p, l, e, R, s, m, args, below, meth, c, Q, A, nL⟩ := X
  obtain ⟨⟨hx, hb, hml, hown, hts⟩, hK, hC⟩ := C
  intro H locs ls g1 hP hD hS g5
  have hin := sv_inb_in hin
  refine W.iast hx hb (hP q0 _ ha) ((hK.2 1 _ rfl).1 n (fun j => .int (f j))) (fun q => by cases q) (by show ¬ (i < 0 ∨ (arrV _ _ _).slots.size ≤ _); rw [arrV_size]; exact hin) rfl rfl hd fun H1 e1 z oq => ?_
  exact kk H1 _ ls (z.trans g1) (hP.set hD ha (by show H1[a]? = some (vp_cell _ _); rw [e1]; exact congrArg some sv_celli) oq) (hD.set ha) (hS.put z oq (hD.2 q0 _ ha)) g5
theorem sv_nrb {x : Int32} : narrow .byte (.int x) = .int (vp_nar .byte x) := rfl
theorem sv_nrz {x : Int32} : narrow .boolean (.int x) = .int (vp_nar .boolean x) := rfl
theorem sv_bast {a n : Nat} {f : Nat → Int32} {i x : Int32} (C : sv_C E X cc own sx) (q0 : Nat) (ha : wd[q0]? = some (a, .inl (E.2.1 0, n, .inl f))) (hin : sv_inb i n = true) (hd : decode cc pc = .ok (.bastore, 1)) (kk : sv_J E X (wd.set q0 (a, .inl (E.2.1 0, n, .inl (upd f i.toNatClampNeg (vp_nar .byte x))))) sz ce sl (pc + 1) lv st) : sv_J E X wd sz ce sl pc lv (.int x :: .int i :: .ref a :: st) := by
  obtain ⟨p, l, e, R, s, m, args, below, meth, c, Q, A, nL⟩ := X
  obtain ⟨⟨hx, hb, hml, hown, hts⟩, hK, hC⟩ := C
  intro H locs ls g1 hP hD hS g5
  have hin := sv_inb_in hin
  refine W.bast hx hb (hP q0 _ ha) ((hK.2 0 _ rfl).1 n (fun j => .int (f j))) (fun q => by cases q) (by show ¬ (i < 0 ∨ (arrV _ _ _).slots.size ≤ _); rw [arrV_size]; exact hin) rfl rfl hd fun H1 e1 z oq => ?_
  exact kk H1 _ ls (z.trans g1) (hP.set hD ha (by show H1[a]? = some (vp_cell _ _); rw [e1]; exact congrArg some (sv_celli (x := vp_nar .byte x))) oq) (hD.set ha) (hS.put z oq (hD.2 q0 _ ha)) g5
theorem sv_zast {a n : Nat} {f : Nat → Int32} {i x : Int32} (C : sv_C E X cc own sx) (q0 : Nat) (ha : wd[q0]? = some (a, .inl (E.2.1 2, n, .inl f))) (hin : sv_inb i n = true) (hd : decode cc pc = .ok (.bastore, 1)) (kk : sv_J E X (wd.set q0 (a, .inl (E.2.1 2, n, .inl (upd f i.toNatClampNeg (vp_nar .boolean x))))) sz ce sl (pc + 1) lv st) : sv_J E X wd sz ce sl pc lv (.int x :: .int i :: .ref a :: st) := by
  obtain ⟨p, l, e, R, s, m, args, below, meth, c, Q, A, nL⟩ := X
  obtain ⟨⟨hx, hb, hml, hown, hts⟩, hK, hC⟩ := C
  intro H locs ls g1 hP hD hS g5
  have hin := sv_inb_in hin
  refine W.zast hx hb (hP q0 _ ha) ((hK.2 2 _ rfl).1 n (fun j => .int (f j))) (fun q => by cases q) (by show ¬ (i < 0 ∨ (arrV _ _ _).slots.size ≤ _); rw [arrV_size]; exact hin) rfl rfl hd fun H1 e1 z oq => ?_
  exact kk H1 _ ls (z.trans g1) (hP.set hD ha (by show H1[a]? = some (vp_cell _ _); rw [e1]; exact congrArg some (sv_celli (x := vp_nar .boolean x))) oq) (hD.set ha) (hS.put z oq (hD.2 q0 _ ha)) g5
end SVB
section SVC
variable {p : Program} {l : Launch} {e : Env} {R : Room} {s : State} {m : MethodId} {args : Array Value} {below : List Frame} {meth : Method} {c : Code} {H : Heap} {locs : List Loc} {cells slots : Nat} {Q : State → Prop}
variable {pc : Nat} {ls : Array Slot} {rest st0 : List Value} {a : Array Value} {A : Nat → Prop} {mc ms : Nat}
/-- behind a call -/
theorem sv_cont {E : sv_E} {wd wd' : va_W} {sz sz' : Nat} {res : Option Value} (hr : va_Run p l e R s m args below meth c H locs cells slots mc ms (F0 m pc ls st0) rest (sv_Q E wd sz res wd' sz' a) (va_A wd sz)) (hS : va_S A s.heap H locs) (hf : ∀ q, va_A wd sz q → A q)
    (kk : ∀ (H1 : Heap) (locs1 : List Loc), H1.size = sz' → va_P E.1 vwCl wd' H1 → va_D A wd' → (∀ q : Nat, q < H.size → ¬ va_A wd sz q → H1[q]? = H[q]?) → va_D (va_A wd sz) wd' → va_S A s.heap H1 locs1 → W p l e R s m args below meth c H1 locs1 (cells + mc) (slots + ms) Q (F0 m (pc + 3) ls (res.toList ++ rest))) : W p l e R s m args below meth c H locs cells slots Q (F0 m pc ls st0) := by
  intro T hT X
  obtain ⟨v, st₀, t, T', L, h0, X', hL, e1, e2, ⟨⟨hv, hz', hp, hd⟩, hz, hk⟩, st⟩ := hr T hT X
  cases hv
  rw [h0] at hz hk
  obtain ⟨t2, a1, b1⟩ := kk T'.heap (locs ++ L) (by rw [e1]; exact hz') (by rw [e1]; exact hp) (hd.weaken (fun _ _ _ h => hf _ h)) (fun q h1 h2 => by rw [e1]; exact hk q h1 h2) hd
    ⟨Nat.le_trans hS.1 (by rw [e1]; exact hz), fun q h1 h2 => by rw [e1, hk q (Nat.lt_of_lt_of_le h1 hS.1) (fun z => h2 (hf q z))]; exact hS.2.1 q h1 h2, fun q hq => by
      rcases List.mem_append.mp hq with h | h
      · exact hS.2.2 q h
      · exact hf _ (hL q h)⟩ T' rfl X'
  exact ⟨t2, st t2 a1, b1⟩
/-- what a contract's start asks, at a call -/
theorem sv_blind {E : sv_E} {sx : List (Nat × Nat × List Int32)} {vs : List Value} {wd : va_W} {sz : Nat} : FrameBlind (sv_Pre E sx vs wd sz) := fun a U g mk q => by
  obtain ⟨q0, q1, qP, qK, qD, qE, qX⟩ := q
  exact ⟨q0, q1, qP, va_K.moved (u := U) (U := U.calling g mk a) (Vm.Alike.refl U.vm) qK, qD, qE.move (fun _ _ _ _ h => vk_R.same (u := U) (U := U.calling g mk a) rfl h) (fun _ _ _ _ h => va_Nw.same (u := U) (U := U.calling g mk a) rfl rfl h) (Vm.Alike.refl U.vm) (fun _ _ _ => rfl) (fun _ h => h), fun x hx => (qX x hx).move (U := U.calling g mk a) (Vm.Alike.refl U.vm) (fun _ _ _ => rfl) (fun _ h => h)⟩
theorem sv_pre {E : sv_E} {sx sx' : List (Nat × Nat × List Int32)} {vs : List Value} {wd wd0 : va_W} {sz : Nat} (hK : va_K E.1 vwCl (sv_tys E) s) (hE : sv_En E A s s.heap) (hX : ∀ x ∈ sx', sv_St x.1 x.2.1 x.2.2 A s s.heap) (hsz : H.size = sz) (hP : va_P E.1 vwCl wd H) (hD : va_D A wd) (hS : va_S A s.heap H locs) (hf : ∀ q, va_A wd sz q → A q) : ∀ U : State, U.heap = H → s.WarmedH U.vm → sv_Pre E sx' vs wd sz vs.toArray U := fun U hU hW => by
  refine ⟨rfl, by rw [hU]; exact hsz, by rw [hU]; exact hP, va_K.moved hW.alike hK, hD.weaken (fun _ _ _ _ => trivial), hE.move (fun _ _ _ _ h => vk_R.warm hW h) (fun _ _ _ _ h => va_Nw.warmM hW h) hW.alike (fun q h1 h2 => by rw [hU]; exact hS.2.1 q h1 h2) hf, fun x hx => (hX x hx).move hW.alike (fun q h1 h2 => by rw [hU]; exact hS.2.1 q h1 h2) hf⟩
theorem sv_free {wd : va_W} (hA : ∀ q, s.heap.size ≤ q → A q) (hD : va_D A wd) (hS : va_S A s.heap H locs) : ∀ q, va_A wd H.size q → A q := fun q h => by
  rcases h with ⟨k, x, h⟩ | h
  · exact hD.2 k _ h
  · exact hA q (Nat.le_trans hS.1 h)
end SVC
section SVD
variable {E : sv_E} {X : sv_X} {cc : ByteArray} {own : String} {sx sx' : List (Nat × Nat × List Int32)} {wd wd' : va_W} {sz sz' ce sl pc : Nat} {lv lv' : List (Nat × Value)} {st rest : List Value}
variable {index : Nat} {y : MethodName} {cb : ByteArray} {mL : Nat} {rt : Option FieldType} {n fr lo : Nat} {As : List Value} {b : Nat} {res : Option Value} {mc ms : Nat}
/-- the strings that a callee is given: the caller's, or constants -/
def sv_sxs (E : sv_E) (sx sx' : List (Nat × Nat × List Int32)) : Prop := ∀ x ∈ sx', x ∈ sx ∨ ∃ i q, sv_strs[i]? = some q ∧ x = (E.2.2.1 i, E.2.2.2.1 i, q.2.2.2)
theorem sv_sx0 : sv_sxs E sx [] := fun x h => absurd h List.not_mem_nil
theorem sv_sx1 : sv_sxs E sx sx := fun x h => Or.inl h
theorem sv_sxi {i : Nat} {q : String × Nat × String × List Int32} (h : sv_strs[i]? = some q) : sv_sxs E sx [(E.2.2.1 i, E.2.2.2.1 i, q.2.2.2)] := fun x hx => by
  simp only [List.mem_cons, List.not_mem_nil, or_false] at hx
  exact Or.inr ⟨i, q, h, hx⟩
theorem sv_sxu {A : Nat → Prop} {s : State} (hE : sv_En E A s s.heap) (hX : ∀ x ∈ sx, sv_St x.1 x.2.1 x.2.2 A s s.heap) (h : sv_sxs E sx sx') : ∀ x ∈ sx', sv_St x.1 x.2.1 x.2.2 A s s.heap := fun x hx => by
  rcases h x hx with h | ⟨i, q, h, rfl⟩
  · exact hX x h
  · exact (hE.1 i q h).2
/-- invokevirtual, the receiver an object of the world -/
theorem sv_callV {ci : Nat} {fs : List Value} (C : sv_C E X cc own sx) (L : sv_MV own index y cb mL rt n) (M : sv_Met (sv_l X) E y cb mL rt fr lo sx' (.ref b :: As) wd sz res wd' sz' mc ms) (hsx : sv_sxs E sx sx') (q0 : Nat) (he : wd[q0]? = some (b, .inr (ci, fs))) (hc : (vwCl[ci]?).map (fun q => q.1) = some y.cls) (hn : As.length = n) (hst : st = As.reverse ++ .ref b :: rest) (hw : (rest.map fun v => v.category).sum ≤ 8)
    (hR : fr + 1 ≤ (sv_R X).frames ∧ 8 + (mL + 11) + lo ≤ (sv_R X).locals) (hcs : ce + mc ≤ (sv_R X).cells ∧ sl + ms ≤ (sv_R X).slots) (hd : decode cc pc = .ok (.invokevirtual index, 3)) (kk : sv_J E X wd' sz' (ce + mc) (sl + ms) (pc + 3) lv (res.toList ++ rest)) : sv_J E X wd sz ce sl pc lv st := by
  obtain ⟨p, l, e, R, s, m, args, below, meth, c, Q, A, nL⟩ := X
  obtain ⟨S, hK, hlk, hA, hE, hX⟩ := C
  intro H locs ls g1 hP hD hS g5
  subst g1
  have hf := sv_free hA hD hS
  cases hcq : vwCl[ci]? with
  | none => rw [hcq] at hc; cases hc
  | some q =>
    rw [hcq] at hc
    have hq : q.1 = y.cls := Option.some.inj hc
    have hrec := va_recv hK hP hcq he
    rw [hq] at hrec
    refine sv_cont (va_runV (As := As) (rest := rest) S M (cwV n S.2.2.2.2 L.1 rfl rfl rfl ⟨rfl, L.2⟩ hR) ⟨sv_blind, hrec, sv_pre (wd0 := wd) (sx := sx) hK hE (sv_sxu hE hX hsx) rfl hP hD hS hf⟩ rfl hn g5.1 hst (lv_room hw) hd hcs) hS hf (fun H1 locs1 k1 k2 k3 k4 k5 k6 => kk H1 locs1 ls k1 k2 k3 k6 g5)
/-- invokestatic -/
theorem sv_callS (C : sv_C E X cc own sx) (L : sv_MS own index y cb mL rt n) (M : sv_Met (sv_l X) E y cb mL rt fr lo sx' As wd sz res wd' sz' mc ms) (hsx : sv_sxs E sx sx') (hn : As.length = n) (hst : st = As.reverse ++ rest) (hw : (rest.map fun v => v.category).sum ≤ 8)
    (hR : fr + 1 ≤ (sv_R X).frames ∧ 8 + (mL + 11) + lo ≤ (sv_R X).locals) (hcs : ce + mc ≤ (sv_R X).cells ∧ sl + ms ≤ (sv_R X).slots) (hd : decode cc pc = .ok (.invokestatic index, 3)) (kk : sv_J E X wd' sz' (ce + mc) (sl + ms) (pc + 3) lv (res.toList ++ rest)) : sv_J E X wd sz ce sl pc lv st := by
  obtain ⟨p, l, e, R, s, m, args, below, meth, c, Q, A, nL⟩ := X
  obtain ⟨S, hK, hlk, hA, hE, hX⟩ := C
  intro H locs ls g1 hP hD hS g5
  subst g1
  have hf := sv_free hA hD hS
  have hgood : GoodIn sv_w (Cond.code y cb mL rt :: sv_w) := sv_gds (fun w hw => by
    rcases List.mem_cons.mp hw with rfl | hw
    · exact L.1.2.2.2
    · exact hw)
  refine sv_cont (va_runS (As := As) (rest := rest) S M ⟨callB_of n S.2.2.2.2 hgood rfl rfl rfl (S.2.2.2.2 _ L.1.2.2.1) (S.2.2.2.2 _ L.1.1) L.2 hR, S.2.2.2.2 _ L.1.2.1⟩ ⟨sv_blind, sv_pre (wd0 := wd) (sx := sx) hK hE (sv_sxu hE hX hsx) rfl hP hD hS hf⟩ rfl hn g5.1 hst (lv_room hw) hd hcs) hS hf (fun H1 locs1 k1 k2 k3 k4 k5 k6 => kk H1 locs1 ls k1 k2 k3 k6 g5)
end SVD
end
section
/-! ===== the reference's world: one object and its arrays; md_B: int fields by slot, arrays by the slot of the field that holds them ===== -/
abbrev md_B : Type := (Nat → Int32) × (Nat → Nat → Int32)
def md_arr : List (Nat × Nat × Nat) := [(1, 1, 2000), (3, 1, 200), (6, 1, 79), (10, 1, 9), (11, 1, 80), (12, 1, 80), (15, 1, 18), (16, 1, 18), (21, 1, 11), (22, 1, 11), (23, 1, 11), (24, 2, 35640), (25, 2, 3240), (29, 1, 960), (30, 1, 2400), (31, 1, 120), (35, 2, 424)]
def md_ref (k : Nat) : Bool := k == 1 || k == 3 || k == 6 || k == 10 || k == 11 || k == 12 || k == 15 || k == 16 || k == 21 || k == 22 || k == 23 || k == 24 || k == 25 || k == 29 || k == 30 || k == 31 || k == 35
def md_fs (ad : Nat → Nat) (F : Nat → Int32) : List Value := (List.range 38).map (fun k => if md_ref k = true then .ref (ad k) else .int (F k))
def md_w (E : sv_E) (h0 : Nat) (ad : Nat → Nat) (B : md_B) : va_W := (h0, .inr (9, md_fs ad B.1)) :: md_arr.map (fun q => (ad q.1, .inl (E.2.1 q.2.1, q.2.2, .inl (B.2 q.1))))
/-- a field, a place of an array: set -/
def md_pf (B : md_B) (k : Nat) (v : Int32) : md_B := (upd B.1 k v, B.2)
def md_pa (B : md_B) (k : Nat) (i : Int32) (v : Int32) : md_B := (B.1, fun j => if j = k then upd (B.2 k) i.toNatClampNeg v else B.2 j)
theorem md_fs_i {ad : Nat → Nat} {F : Nat → Int32} {k : Nat} (h : md_ref k = false) (hk : k < 38) : (md_fs ad F)[k]? = some (.int (F k)) := by
  simp [md_fs, List.getElem?_map, List.getElem?_range hk, h]
theorem md_fs_r {ad : Nat → Nat} {F : Nat → Int32} {k : Nat} (h : md_ref k = true) (hk : k < 38) : (md_fs ad F)[k]? = some (.ref (ad k)) := by
  simp [md_fs, List.getElem?_map, List.getElem?_range hk, h]
theorem md_fs_s {ad : Nat → Nat} {F : Nat → Int32} {k : Nat} {v : Int32} (h : md_ref k = false) : (md_fs ad F).set k (.int v) = md_fs ad (upd F k v) := by
  apply List.ext_getElem?
  intro j
  rw [List.getElem?_set]
  by_cases hj : k = j
  · subst hj
    by_cases hk : k < 38
    · rw [md_fs_i h hk]
      simp [md_fs, hk, upd, h]
    · simp [md_fs, hk]
  · rw [if_neg hj]
    simp only [md_fs, List.getElem?_map]
    by_cases hk : j < 38
    · rw [List.getElem?_range hk]
      simp [upd, Ne.symm hj]
    · simp [hk]
theorem md_fs_l {ad : Nat → Nat} {F : Nat → Int32} : (md_fs ad F).length = 38 := by simp [md_fs]
theorem md_set_f {E : sv_E} {h0 : Nat} {ad : Nat → Nat} {B : md_B} {k : Nat} {v : Int32} (h : md_ref k = false) : (md_w E h0 ad B).set 0 (h0, .inr (9, (md_fs ad B.1).set k (.int v))) = md_w E h0 ad (md_pf B k v) := by
  simp [md_w, md_pf, md_fs_s h]
theorem md_at {E : sv_E} {h0 : Nat} {ad : Nat → Nat} {B : md_B} {j k t n : Nat} (h : md_arr[j]? = some (k, t, n)) : (md_w E h0 ad B)[j + 1]? = some (ad k, .inl (E.2.1 t, n, .inl (B.2 k))) := by
  simp [md_w, List.getElem?_map, h]
theorem md_one : ∀ i, i < 17 → ∀ j, j < 17 → (md_arr[i]?).map (fun q => q.1) = (md_arr[j]?).map (fun q => q.1) → i = j := by decide
theorem md_set_a {E : sv_E} {h0 : Nat} {ad : Nat → Nat} {B : md_B} {j k t n : Nat} {f : Nat → Int32} (h : md_arr[j]? = some (k, t, n)) : (md_w E h0 ad B).set (j + 1) (ad k, .inl (E.2.1 t, n, .inl f)) = md_w E h0 ad (B.1, fun i => if i = k then f else B.2 i) := by
  have hj : j < 17 := (List.getElem?_eq_some_iff.mp h).1
  simp only [md_w, List.set_cons_succ]
  congr 1
  apply List.ext_getElem?
  intro i
  rw [List.getElem?_set]
  by_cases hi : j = i
  · subst hi
    rw [if_pos rfl, if_pos (by rw [List.length_map]; exact hj), List.getElem?_map, h]
    simp
  · rw [if_neg hi, List.getElem?_map, List.getElem?_map]
    cases hq : md_arr[i]? with
    | none => rfl
    | some q =>
      have hi2 : i < 17 := (List.getElem?_eq_some_iff.mp hq).1
      have hne : q.1 ≠ k := fun e => hi (md_one j hj i hi2 (by rw [h, hq]; simp [e]))
      simp [hne]
section MDR
variable {E : sv_E} {X : sv_X} {cc : ByteArray} {own : String} {sx : List (Nat × Nat × List Int32)} {h0 : Nat} {ad : Nat → Nat} {B : md_B} {sz ce sl pc : Nat} {lv lv' : List (Nat × Value)} {st : List Value}
theorem md_geti {index k : Nat} {fin : Bool} {ty : FieldType} (C : sv_C E X cc own sx) (hF : sv_FL own index 9 k fin ty) (hk : (!md_ref k && decide (k < 38)) = true) (hd : decode cc pc = .ok (.getfield index, 3)) (kk : sv_J E X (md_w E h0 ad B) sz ce sl (pc + 3) lv (.int (B.1 k) :: st)) : sv_J E X (md_w E h0 ad B) sz ce sl pc lv (.ref h0 :: st) := by
  simp only [Bool.and_eq_true, Bool.not_eq_true', decide_eq_true_eq] at hk
  exact sv_getf C hF 0 rfl (md_fs_i hk.1 hk.2) hd kk
theorem md_getr {index k : Nat} {fin : Bool} {ty : FieldType} (C : sv_C E X cc own sx) (hF : sv_FL own index 9 k fin ty) (hk : (md_ref k && decide (k < 38)) = true) (hd : decode cc pc = .ok (.getfield index, 3)) (kk : sv_J E X (md_w E h0 ad B) sz ce sl (pc + 3) lv (.ref (ad k) :: st)) : sv_J E X (md_w E h0 ad B) sz ce sl pc lv (.ref h0 :: st) := by
  simp only [Bool.and_eq_true, decide_eq_true_eq] at hk
  exact sv_getf C hF 0 rfl (md_fs_r hk.1 hk.2) hd kk
theorem md_puti {index k : Nat} {ty : FieldType} {v : Int32} (C : sv_C E X cc own sx) (hF : sv_FL own index 9 k false ty) (hk : (!md_ref k && decide (k < 38)) = true) (hn : narrow ty (.int v) = .int v) (hfit : fits ty (.int v) = true) (hd : decode cc pc = .ok (.putfield index, 3)) (kk : sv_J E X (md_w E h0 ad (md_pf B k v)) sz ce sl (pc + 3) lv st) : sv_J E X (md_w E h0 ad B) sz ce sl pc lv (.int v :: .ref h0 :: st) := by
  simp only [Bool.and_eq_true, Bool.not_eq_true', decide_eq_true_eq] at hk
  refine sv_putf C hF 0 rfl hn hfit (by rw [md_fs_l]; exact hk.2) hd ?_
  rw [md_set_f hk.1]
  exact kk
theorem md_iald {k n : Nat} {i : Int32} (C : sv_C E X cc own sx) (j : Nat) (hj : md_arr[j]? = some (k, 1, n)) (hin : sv_inb i n = true) (hd : decode cc pc = .ok (.iaload, 1)) (kk : sv_J E X (md_w E h0 ad B) sz ce sl (pc + 1) lv (.int (B.2 k i.toNatClampNeg) :: st)) : sv_J E X (md_w E h0 ad B) sz ce sl pc lv (.int i :: .ref (ad k) :: st) := sv_iald C (j + 1) (md_at hj) hin hd kk
theorem md_zald {k n : Nat} {i : Int32} (C : sv_C E X cc own sx) (j : Nat) (hj : md_arr[j]? = some (k, 2, n)) (hin : sv_inb i n = true) (hd : decode cc pc = .ok (.baload, 1)) (kk : sv_J E X (md_w E h0 ad B) sz ce sl (pc + 1) lv (.int (B.2 k i.toNatClampNeg) :: st)) : sv_J E X (md_w E h0 ad B) sz ce sl pc lv (.int i :: .ref (ad k) :: st) := sv_zald C (j + 1) (md_at hj) hin hd kk
theorem md_iast {k n : Nat} {i x : Int32} (C : sv_C E X cc own sx) (j : Nat) (hj : md_arr[j]? = some (k, 1, n)) (hin : sv_inb i n = true) (hd : decode cc pc = .ok (.iastore, 1)) (kk : sv_J E X (md_w E h0 ad (md_pa B k i x)) sz ce sl (pc + 1) lv st) : sv_J E X (md_w E h0 ad B) sz ce sl pc lv (.int x :: .int i :: .ref (ad k) :: st) := by
  refine sv_iast C (j + 1) (md_at hj) hin hd ?_
  rw [md_set_a hj]
  exact kk
theorem md_zast {k n : Nat} {i x : Int32} (C : sv_C E X cc own sx) (j : Nat) (hj : md_arr[j]? = some (k, 2, n)) (hin : sv_inb i n = true) (hd : decode cc pc = .ok (.bastore, 1)) (kk : sv_J E X (md_w E h0 ad (md_pa B k i (vp_nar .boolean x))) sz ce sl (pc + 1) lv st) : sv_J E X (md_w E h0 ad B) sz ce sl pc lv (.int x :: .int i :: .ref (ad k) :: st) := by
  refine sv_zast C (j + 1) (md_at hj) hin hd ?_
  rw [md_set_a hj]
  exact kk
end MDR
/-! ===== pure functions that may fail: guards ===== -/
/-- fails unless b -/
def sv_g {α : Type} (b : Bool) (x : Option α) : Option α := if b = true then x else none
theorem sv_g_some {α : Type} {b : Bool} {x : Option α} {y : α} (h : sv_g b x = some y) : b = true ∧ x = some y := by
  unfold sv_g at h
  split at h
  · exact ⟨by assumption, h⟩
  · cases h
theorem sv_g_t {α : Type} {b : Bool} {x : Option α} (h : b = true) : sv_g b x = x := if_pos h
theorem sv_bind_some {α β : Type} {x : Option α} {f : α → Option β} {y : β} (h : x.bind f = some y) : ∃ a, x = some a ∧ f a = some y := by
  cases x with
  | none => cases h
  | some a => exact ⟨a, rfl, h⟩
theorem sv_if_t {α : Type} {c : Prop} [Decidable c] {a b : Option α} {y : α} (h : c) (e : (if c then a else b) = some y) : a = some y := by rw [if_pos h] at e; exact e
theorem sv_if_f {α : Type} {c : Prop} [Decidable c] {a b : Option α} {y : α} (h : ¬ c) (e : (if c then a else b) = some y) : b = some y := by rw [if_neg h] at e; exact e
/-- how often a loop may turn -/
def sv_fu : Nat := 100000
end
section
theorem fl_X0_7 : sv_FL RX0 7 0 0 true .int := ⟨RX0, TX0, 3, tyX0, rfl, sv_in0, tyX0_ok, nmX0, by decide, kw_3, rfl, by decide +kernel, rfl⟩
theorem fl_X0_13 : sv_FL RX0 13 0 1 true (.array .int) := ⟨RX0, TX0, 3, tyX0, rfl, sv_in0, tyX0_ok, nmX0, by decide, kw_5, rfl, by decide +kernel, rfl⟩
theorem fl_X0_23 : sv_FL RX0 23 0 2 false .int := ⟨RX0, TX0, 3, tyX0, rfl, sv_in0, tyX0_ok, nmX0, by decide, kw_6, rfl, by decide +kernel, rfl⟩
theorem fl_X1_11 : sv_FL RX1 11 1 0 true (.array .byte) := ⟨RX1, TX1, 4, tyX1, rfl, sv_in1, tyX1_ok, nmX1, by decide, kw_14, rfl, by decide +kernel, rfl⟩
theorem fl_X1_17 : sv_FL RX1 17 1 1 true (.array .int) := ⟨RX1, TX1, 4, tyX1, rfl, sv_in1, tyX1_ok, nmX1, by decide, kw_15, rfl, by decide +kernel, rfl⟩
theorem fl_X5_19 : sv_FL RX5 19 5 3 false .int := ⟨RX5, TX5, 6, tyX5, rfl, sv_in5, tyX5_ok, nmX5, by decide, kw_16, rfl, by decide +kernel, rfl⟩
theorem fl_X5_11 : sv_FL RX5 11 5 0 true (.array .byte) := ⟨RX5, TX5, 6, tyX5, rfl, sv_in5, tyX5_ok, nmX5, by decide, kw_17, rfl, by decide +kernel, rfl⟩
theorem fl_X1_21 : sv_FL RX1 21 1 3 false .boolean := ⟨RX1, TX1, 4, tyX1, rfl, sv_in1, tyX1_ok, nmX1, by decide, kw_19, rfl, by decide +kernel, rfl⟩
theorem fl_X1_25 : sv_FL RX1 25 1 2 false .int := ⟨RX1, TX1, 4, tyX1, rfl, sv_in1, tyX1_ok, nmX1, by decide, kw_20, rfl, by decide +kernel, rfl⟩
theorem fl_X1_29 : sv_FL RX1 29 5 3 false .int := ⟨RX5, TX5, 6, tyX5, rfl, sv_in5, tyX5_ok, nmX5, by decide, kw_21, rfl, by decide +kernel, rfl⟩
theorem fl_X2_13 : sv_FL RX2 13 2 0 true (.array (.object "SeaReceiver$Vessel")) := ⟨RX2, TX2, 2, tyX2, rfl, sv_in2, tyX2_ok, nmX2, by decide, kw_202, rfl, by decide +kernel, rfl⟩
theorem fl_X2_17 : sv_FL RX2 17 2 1 false .int := ⟨RX2, TX2, 2, tyX2, rfl, sv_in2, tyX2_ok, nmX2, by decide, kw_203, rfl, by decide +kernel, rfl⟩
theorem fl_X2_21 : sv_FL RX2 21 7 0 true (.array .int) := ⟨RX7, TX7, 3, tyX7, rfl, sv_in7, tyX7_ok, nmX7, by decide, kw_204, rfl, by decide +kernel, rfl⟩
theorem fl_X7_11 : sv_FL RX7 11 7 0 true (.array .int) := ⟨RX7, TX7, 3, tyX7, rfl, sv_in7, tyX7_ok, nmX7, by decide, kw_207, rfl, by decide +kernel, rfl⟩
theorem fl_X7_15 : sv_FL RX7 15 7 1 true (.array .int) := ⟨RX7, TX7, 3, tyX7, rfl, sv_in7, tyX7_ok, nmX7, by decide, kw_208, rfl, by decide +kernel, rfl⟩
theorem fl_X7_18 : sv_FL RX7 18 7 2 true (.array .byte) := ⟨RX7, TX7, 3, tyX7, rfl, sv_in7, tyX7_ok, nmX7, by decide, kw_209, rfl, by decide +kernel, rfl⟩
theorem fl_X3_13 : sv_FL RX3 13 3 0 true (.array (.object "SeaReceiver$BitRow")) := ⟨RX3, TX3, 3, tyX3, rfl, sv_in3, tyX3_ok, nmX3, by decide, kw_227, rfl, by decide +kernel, rfl⟩
theorem fl_X3_17 : sv_FL RX3 17 3 1 true (.array .int) := ⟨RX3, TX3, 3, tyX3, rfl, sv_in3, tyX3_ok, nmX3, by decide, kw_228, rfl, by decide +kernel, rfl⟩
theorem fl_X3_21 : sv_FL RX3 21 3 2 true (.array .int) := ⟨RX3, TX3, 3, tyX3, rfl, sv_in3, tyX3_ok, nmX3, by decide, kw_229, rfl, by decide +kernel, rfl⟩
theorem fl_X4_11 : sv_FL RX4 11 4 0 true (.array .int) := ⟨RX4, TX4, 2, tyX4, rfl, sv_in4, tyX4_ok, nmX4, by decide, kw_240, rfl, by decide +kernel, rfl⟩
theorem fl_X4_15 : sv_FL RX4 15 4 1 true (.array .int) := ⟨RX4, TX4, 2, tyX4, rfl, sv_in4, tyX4_ok, nmX4, by decide, kw_241, rfl, by decide +kernel, rfl⟩
theorem fl_X4_25 : sv_FL RX4 25 1 2 false .int := ⟨RX1, TX1, 4, tyX1, rfl, sv_in1, tyX1_ok, nmX1, by decide, kw_244, rfl, by decide +kernel, rfl⟩
theorem fl_X4_58 : sv_FL RX4 58 1 3 false .boolean := ⟨RX1, TX1, 4, tyX1, rfl, sv_in1, tyX1_ok, nmX1, by decide, kw_245, rfl, by decide +kernel, rfl⟩
theorem fl_X5_15 : sv_FL RX5 15 5 1 false .int := ⟨RX5, TX5, 6, tyX5, rfl, sv_in5, tyX5_ok, nmX5, by decide, kw_298, rfl, by decide +kernel, rfl⟩
theorem fl_X5_38 : sv_FL RX5 38 5 2 false .int := ⟨RX5, TX5, 6, tyX5, rfl, sv_in5, tyX5_ok, nmX5, by decide, kw_299, rfl, by decide +kernel, rfl⟩
theorem fl_X5_41 : sv_FL RX5 41 5 4 false .int := ⟨RX5, TX5, 6, tyX5, rfl, sv_in5, tyX5_ok, nmX5, by decide, kw_300, rfl, by decide +kernel, rfl⟩
theorem fl_X5_44 : sv_FL RX5 44 5 5 false .int := ⟨RX5, TX5, 6, tyX5, rfl, sv_in5, tyX5_ok, nmX5, by decide, kw_301, rfl, by decide +kernel, rfl⟩
theorem fl_X6_9 : sv_FL RX6 9 6 0 true (.array .byte) := ⟨RX6, TX6, 2, tyX6, rfl, sv_in6, tyX6_ok, nmX6, by decide, kw_319, rfl, by decide +kernel, rfl⟩
theorem fl_X6_15 : sv_FL RX6 15 6 1 false .int := ⟨RX6, TX6, 2, tyX6, rfl, sv_in6, tyX6_ok, nmX6, by decide, kw_320, rfl, by decide +kernel, rfl⟩
theorem fl_X8_9 : sv_FL RX8 9 8 0 true (.array .int) := ⟨RX8, TX8, 10, tyX8, rfl, sv_in8, tyX8_ok, nmX8, by decide, kw_358, rfl, by decide +kernel, rfl⟩
theorem fl_X8_18 : sv_FL RX8 18 8 1 true (.object "SeaReceiver$SignRow") := ⟨RX8, TX8, 10, tyX8, rfl, sv_in8, tyX8_ok, nmX8, by decide, kw_361, rfl, by decide +kernel, rfl⟩
theorem fl_X8_22 : sv_FL RX8 22 8 2 true (.object "SeaReceiver$SignRow") := ⟨RX8, TX8, 10, tyX8, rfl, sv_in8, tyX8_ok, nmX8, by decide, kw_362, rfl, by decide +kernel, rfl⟩
theorem fl_X8_28 : sv_FL RX8 28 8 3 true (.object "SeaReceiver$Sentence") := ⟨RX8, TX8, 10, tyX8, rfl, sv_in8, tyX8_ok, nmX8, by decide, kw_365, rfl, by decide +kernel, rfl⟩
theorem fl_X8_35 : sv_FL RX8 35 8 4 true (.object "SeaReceiver$Fields") := ⟨RX8, TX8, 10, tyX8, rfl, sv_in8, tyX8_ok, nmX8, by decide, kw_368, rfl, by decide +kernel, rfl⟩
theorem fl_X8_42 : sv_FL RX8 42 8 5 true (.object "SeaReceiver$Position") := ⟨RX8, TX8, 10, tyX8, rfl, sv_in8, tyX8_ok, nmX8, by decide, kw_371, rfl, by decide +kernel, rfl⟩
theorem fl_X8_49 : sv_FL RX8 49 8 6 true (.object "SeaReceiver$Parts") := ⟨RX8, TX8, 10, tyX8, rfl, sv_in8, tyX8_ok, nmX8, by decide, kw_375, rfl, by decide +kernel, rfl⟩
theorem fl_X8_56 : sv_FL RX8 56 8 7 true (.object "SeaReceiver$BitRow") := ⟨RX8, TX8, 10, tyX8, rfl, sv_in8, tyX8_ok, nmX8, by decide, kw_377, rfl, by decide +kernel, rfl⟩
theorem fl_X8_63 : sv_FL RX8 63 8 8 true (.object "SeaReceiver$Fleet") := ⟨RX8, TX8, 10, tyX8, rfl, sv_in8, tyX8_ok, nmX8, by decide, kw_380, rfl, by decide +kernel, rfl⟩
theorem fl_X8_67 : sv_FL RX8 67 8 9 true (.object "SeaReceiver$BitRow") := ⟨RX8, TX8, 10, tyX8, rfl, sv_in8, tyX8_ok, nmX8, by decide, kw_381, rfl, by decide +kernel, rfl⟩
theorem fl_X8_78 : sv_FL RX8 78 6 1 false .int := ⟨RX6, TX6, 2, tyX6, rfl, sv_in6, tyX6_ok, nmX6, by decide, kw_398, rfl, by decide +kernel, rfl⟩
theorem fl_X8_132 : sv_FL RX8 132 0 2 false .int := ⟨RX0, TX0, 3, tyX0, rfl, sv_in0, tyX0_ok, nmX0, by decide, kw_415, rfl, by decide +kernel, rfl⟩
theorem fl_X8_208 : sv_FL RX8 208 1 2 false .int := ⟨RX1, TX1, 4, tyX1, rfl, sv_in1, tyX1_ok, nmX1, by decide, kw_428, rfl, by decide +kernel, rfl⟩
theorem fl_X8_227 : sv_FL RX8 227 1 3 false .boolean := ⟨RX1, TX1, 4, tyX1, rfl, sv_in1, tyX1_ok, nmX1, by decide, kw_429, rfl, by decide +kernel, rfl⟩
theorem fl_X8_178 : sv_FL RX8 178 5 4 false .int := ⟨RX5, TX5, 6, tyX5, rfl, sv_in5, tyX5_ok, nmX5, by decide, kw_458, rfl, by decide +kernel, rfl⟩
theorem fl_X8_181 : sv_FL RX8 181 5 5 false .int := ⟨RX5, TX5, 6, tyX5, rfl, sv_in5, tyX5_ok, nmX5, by decide, kw_459, rfl, by decide +kernel, rfl⟩
theorem fl_X8_188 : sv_FL RX8 188 5 2 false .int := ⟨RX5, TX5, 6, tyX5, rfl, sv_in5, tyX5_ok, nmX5, by decide, kw_460, rfl, by decide +kernel, rfl⟩
theorem fl_X8_93 : sv_FL RX8 93 2 1 false .int := ⟨RX2, TX2, 2, tyX2, rfl, sv_in2, tyX2_ok, nmX2, by decide, kw_497, rfl, by decide +kernel, rfl⟩
theorem fl_X8_107 : sv_FL RX8 107 4 0 true (.array .int) := ⟨RX4, TX4, 2, tyX4, rfl, sv_in4, tyX4_ok, nmX4, by decide, kw_508, rfl, by decide +kernel, rfl⟩
theorem fl_X8_120 : sv_FL RX8 120 7 0 true (.array .int) := ⟨RX7, TX7, 3, tyX7, rfl, sv_in7, tyX7_ok, nmX7, by decide, kw_512, rfl, by decide +kernel, rfl⟩
theorem fl_X8_125 : sv_FL RX8 125 7 1 true (.array .int) := ⟨RX7, TX7, 3, tyX7, rfl, sv_in7, tyX7_ok, nmX7, by decide, kw_513, rfl, by decide +kernel, rfl⟩
theorem fl_X9_1 : sv_FL RX9 1 9 0 false .int := ⟨RX9, TX9, 38, tyX9, rfl, sv_in9, tyX9_ok, nmX9, by decide, kw_555, rfl, by decide +kernel, rfl⟩
theorem fl_X9_90 : sv_FL RX9 90 9 5 false .int := ⟨RX9, TX9, 38, tyX9, rfl, sv_in9, tyX9_ok, nmX9, by decide, kw_556, rfl, by decide +kernel, rfl⟩
theorem fl_X9_93 : sv_FL RX9 93 9 7 false .int := ⟨RX9, TX9, 38, tyX9, rfl, sv_in9, tyX9_ok, nmX9, by decide, kw_557, rfl, by decide +kernel, rfl⟩
theorem fl_X9_289 : sv_FL RX9 289 9 28 false .int := ⟨RX9, TX9, 38, tyX9, rfl, sv_in9, tyX9_ok, nmX9, by decide, kw_558, rfl, by decide +kernel, rfl⟩
theorem fl_X9_280 : sv_FL RX9 280 9 27 false .boolean := ⟨RX9, TX9, 38, tyX9, rfl, sv_in9, tyX9_ok, nmX9, by decide, kw_559, rfl, by decide +kernel, rfl⟩
theorem fl_X9_23 : sv_FL RX9 23 9 10 true (.array .int) := ⟨RX9, TX9, 38, tyX9, rfl, sv_in9, tyX9_ok, nmX9, by decide, kw_560, rfl, by decide +kernel, rfl⟩
theorem fl_X9_35 : sv_FL RX9 35 9 16 true (.array .int) := ⟨RX9, TX9, 38, tyX9, rfl, sv_in9, tyX9_ok, nmX9, by decide, kw_561, rfl, by decide +kernel, rfl⟩
theorem fl_X9_41 : sv_FL RX9 41 9 22 true (.array .int) := ⟨RX9, TX9, 38, tyX9, rfl, sv_in9, tyX9_ok, nmX9, by decide, kw_563, rfl, by decide +kernel, rfl⟩
theorem fl_X9_44 : sv_FL RX9 44 9 23 true (.array .int) := ⟨RX9, TX9, 38, tyX9, rfl, sv_in9, tyX9_ok, nmX9, by decide, kw_564, rfl, by decide +kernel, rfl⟩
theorem fl_X9_13 : sv_FL RX9 13 9 1 true (.array .int) := ⟨RX9, TX9, 38, tyX9, rfl, sv_in9, tyX9_ok, nmX9, by decide, kw_566, rfl, by decide +kernel, rfl⟩
theorem fl_X9_17 : sv_FL RX9 17 9 3 true (.array .int) := ⟨RX9, TX9, 38, tyX9, rfl, sv_in9, tyX9_ok, nmX9, by decide, kw_567, rfl, by decide +kernel, rfl⟩
theorem fl_X9_20 : sv_FL RX9 20 9 6 true (.array .int) := ⟨RX9, TX9, 38, tyX9, rfl, sv_in9, tyX9_ok, nmX9, by decide, kw_568, rfl, by decide +kernel, rfl⟩
theorem fl_X9_26 : sv_FL RX9 26 9 11 true (.array .int) := ⟨RX9, TX9, 38, tyX9, rfl, sv_in9, tyX9_ok, nmX9, by decide, kw_569, rfl, by decide +kernel, rfl⟩
theorem fl_X9_29 : sv_FL RX9 29 9 12 true (.array .int) := ⟨RX9, TX9, 38, tyX9, rfl, sv_in9, tyX9_ok, nmX9, by decide, kw_570, rfl, by decide +kernel, rfl⟩
theorem fl_X9_32 : sv_FL RX9 32 9 15 true (.array .int) := ⟨RX9, TX9, 38, tyX9, rfl, sv_in9, tyX9_ok, nmX9, by decide, kw_571, rfl, by decide +kernel, rfl⟩
theorem fl_X9_38 : sv_FL RX9 38 9 21 true (.array .int) := ⟨RX9, TX9, 38, tyX9, rfl, sv_in9, tyX9_ok, nmX9, by decide, kw_572, rfl, by decide +kernel, rfl⟩
theorem fl_X9_48 : sv_FL RX9 48 9 24 true (.array .boolean) := ⟨RX9, TX9, 38, tyX9, rfl, sv_in9, tyX9_ok, nmX9, by decide, kw_575, rfl, by decide +kernel, rfl⟩
theorem fl_X9_52 : sv_FL RX9 52 9 25 true (.array .boolean) := ⟨RX9, TX9, 38, tyX9, rfl, sv_in9, tyX9_ok, nmX9, by decide, kw_576, rfl, by decide +kernel, rfl⟩
theorem fl_X9_55 : sv_FL RX9 55 9 29 true (.array .int) := ⟨RX9, TX9, 38, tyX9, rfl, sv_in9, tyX9_ok, nmX9, by decide, kw_577, rfl, by decide +kernel, rfl⟩
theorem fl_X9_58 : sv_FL RX9 58 9 30 true (.array .int) := ⟨RX9, TX9, 38, tyX9, rfl, sv_in9, tyX9_ok, nmX9, by decide, kw_578, rfl, by decide +kernel, rfl⟩
theorem fl_X9_61 : sv_FL RX9 61 9 31 true (.array .int) := ⟨RX9, TX9, 38, tyX9, rfl, sv_in9, tyX9_ok, nmX9, by decide, kw_579, rfl, by decide +kernel, rfl⟩
theorem fl_X9_64 : sv_FL RX9 64 9 35 true (.array .boolean) := ⟨RX9, TX9, 38, tyX9, rfl, sv_in9, tyX9_ok, nmX9, by decide, kw_580, rfl, by decide +kernel, rfl⟩
theorem fl_X9_70 : sv_FL RX9 70 9 2 false .int := ⟨RX9, TX9, 38, tyX9, rfl, sv_in9, tyX9_ok, nmX9, by decide, kw_586, rfl, by decide +kernel, rfl⟩
theorem fl_X9_149 : sv_FL RX9 149 9 14 false .boolean := ⟨RX9, TX9, 38, tyX9, rfl, sv_in9, tyX9_ok, nmX9, by decide, kw_611, rfl, by decide +kernel, rfl⟩
theorem fl_X9_113 : sv_FL RX9 113 9 13 false .int := ⟨RX9, TX9, 38, tyX9, rfl, sv_in9, tyX9_ok, nmX9, by decide, kw_664, rfl, by decide +kernel, rfl⟩
theorem fl_X9_248 : sv_FL RX9 248 9 17 false .int := ⟨RX9, TX9, 38, tyX9, rfl, sv_in9, tyX9_ok, nmX9, by decide, kw_673, rfl, by decide +kernel, rfl⟩
theorem fl_X9_251 : sv_FL RX9 251 9 18 false .int := ⟨RX9, TX9, 38, tyX9, rfl, sv_in9, tyX9_ok, nmX9, by decide, kw_674, rfl, by decide +kernel, rfl⟩
theorem fl_X9_254 : sv_FL RX9 254 9 19 false .int := ⟨RX9, TX9, 38, tyX9, rfl, sv_in9, tyX9_ok, nmX9, by decide, kw_675, rfl, by decide +kernel, rfl⟩
theorem fl_X9_259 : sv_FL RX9 259 9 20 false .int := ⟨RX9, TX9, 38, tyX9, rfl, sv_in9, tyX9_ok, nmX9, by decide, kw_676, rfl, by decide +kernel, rfl⟩
theorem fl_X9_352 : sv_FL RX9 352 9 36 false .int := ⟨RX9, TX9, 38, tyX9, rfl, sv_in9, tyX9_ok, nmX9, by decide, kw_701, rfl, by decide +kernel, rfl⟩
theorem fl_X9_300 : sv_FL RX9 300 9 34 false .int := ⟨RX9, TX9, 38, tyX9, rfl, sv_in9, tyX9_ok, nmX9, by decide, kw_702, rfl, by decide +kernel, rfl⟩
theorem fl_X9_303 : sv_FL RX9 303 9 33 false .boolean := ⟨RX9, TX9, 38, tyX9, rfl, sv_in9, tyX9_ok, nmX9, by decide, kw_703, rfl, by decide +kernel, rfl⟩
theorem fl_X9_306 : sv_FL RX9 306 9 32 false .int := ⟨RX9, TX9, 38, tyX9, rfl, sv_in9, tyX9_ok, nmX9, by decide, kw_704, rfl, by decide +kernel, rfl⟩
theorem fl_X9_277 : sv_FL RX9 277 9 26 false .int := ⟨RX9, TX9, 38, tyX9, rfl, sv_in9, tyX9_ok, nmX9, by decide, kw_740, rfl, by decide +kernel, rfl⟩
theorem fl_X9_107 : sv_FL RX9 107 9 9 false .int := ⟨RX9, TX9, 38, tyX9, rfl, sv_in9, tyX9_ok, nmX9, by decide, kw_762, rfl, by decide +kernel, rfl⟩
theorem fl_X9_96 : sv_FL RX9 96 9 8 false .int := ⟨RX9, TX9, 38, tyX9, rfl, sv_in9, tyX9_ok, nmX9, by decide, kw_763, rfl, by decide +kernel, rfl⟩
theorem fl_X9_338 : sv_FL RX9 338 9 4 false .int := ⟨RX9, TX9, 38, tyX9, rfl, sv_in9, tyX9_ok, nmX9, by decide, kw_790, rfl, by decide +kernel, rfl⟩
theorem fl_X9_355 : sv_FL RX9 355 9 37 false .int := ⟨RX9, TX9, 38, tyX9, rfl, sv_in9, tyX9_ok, nmX9, by decide, kw_799, rfl, by decide +kernel, rfl⟩
theorem ms_X0_17 : sv_MS RX0 17 yJ7_fill_53178 cJ7_fill_53178 4 none 2 := ⟨⟨kw_7, kw_8, kw_9, kw_10⟩, by decide, by decide, by decide +kernel⟩
theorem mv_X1_32 : sv_MV RX1 32 yX5_at cX5_at 2 (some .int) 1 := sv_mkV kw_22 kw_23 kw_24 kw_25 kw_26 ⟨by decide, by decide, by decide +kernel⟩
theorem ms_J0_1059 : sv_MS RJ0 1059 yJ3_checkIndex_8e157 cJ3_checkIndex_8e157 3 (some .int) 3 := ⟨⟨kw_30, kw_31, kw_32, kw_33⟩, by decide, by decide, by decide +kernel⟩
theorem ms_J1_9 : sv_MS RJ1 9 yJ0_checkIndex_df160 cJ0_checkIndex_df160 2 none 2 := ⟨⟨kw_34, kw_35, kw_36, kw_37⟩, by decide, by decide, by decide +kernel⟩
theorem ms_J2_48 : sv_MS RJ2 48 yJ2_length_9d52b cJ2_length_9d52b 1 (some .int) 1 := ⟨⟨kw_38, kw_39, kw_40, kw_41⟩, by decide, by decide, by decide +kernel⟩
theorem ms_J2_414 : sv_MS RJ2 414 yJ0_checkIndex_df160 cJ0_checkIndex_df160 2 none 2 := ⟨⟨kw_42, kw_35, kw_36, kw_37⟩, by decide, by decide, by decide +kernel⟩
theorem ms_J2_67 : sv_MS RJ2 67 yJ2_checkIndex_2214a cJ2_checkIndex_2214a 2 none 2 := ⟨⟨kw_46, kw_47, kw_40, kw_48⟩, by decide, by decide, by decide +kernel⟩
theorem ms_J2_71 : sv_MS RJ2 71 yJ2_getChar_3b067 cJ2_getChar_3b067 2 (some .char) 2 := ⟨⟨kw_49, kw_50, kw_40, kw_51⟩, by decide, by decide, by decide +kernel⟩
theorem mv_J0_492 : sv_MV RJ0 492 yJ0_isLatin1_aae02 cJ0_isLatin1_aae02 1 (some .boolean) 0 := sv_mkV kw_53 kw_54 kw_55 kw_36 kw_56 ⟨by decide, by decide, by decide +kernel⟩
theorem ms_J0_495 : sv_MS RJ0 495 yJ1_charAt_3b067 cJ1_charAt_3b067 2 (some .char) 2 := ⟨⟨kw_57, kw_58, kw_59, kw_60⟩, by decide, by decide, by decide +kernel⟩
theorem ms_J0_498 : sv_MS RJ0 498 yJ2_charAt_3b067 cJ2_charAt_3b067 2 (some .char) 2 := ⟨⟨kw_61, kw_62, kw_40, kw_63⟩, by decide, by decide, by decide +kernel⟩
theorem mv_X1_53 : sv_MV RX1 53 yJ0_charAt_5068e cJ0_charAt_5068e 2 (some .char) 1 := sv_mkV kw_64 kw_65 kw_66 kw_36 kw_67 ⟨by decide, by decide, by decide +kernel⟩
theorem mv_X1_36 : sv_MV RX1 36 yX1_to cX1_to 2 (some .int) 1 := sv_mkV kw_68 kw_69 kw_70 kw_71 kw_72 ⟨by decide, by decide, by decide +kernel⟩
theorem mv_X1_41 : sv_MV RX1 41 yX1_isForm cX1_isForm 2 (some .boolean) 1 := sv_mkV kw_73 kw_74 kw_75 kw_71 kw_76 ⟨by decide, by decide, by decide +kernel⟩
theorem mv_X1_59 : sv_MV RX1 59 yX1_from cX1_from 2 (some .int) 1 := sv_mkV kw_77 kw_78 kw_79 kw_71 kw_80 ⟨by decide, by decide, by decide +kernel⟩
theorem mv_X1_63 : sv_MV RX1 63 yX1_digitAt cX1_digitAt 3 (some .int) 1 := sv_mkV kw_82 kw_83 kw_84 kw_71 kw_85 ⟨by decide, by decide, by decide +kernel⟩
theorem mv_X1_66 : sv_MV RX1 66 yX1_wrong cX1_wrong 1 (some .int) 0 := sv_mkV kw_86 kw_87 kw_88 kw_71 kw_89 ⟨by decide, by decide, by decide +kernel⟩
theorem mv_J0_335 : sv_MV RJ0 335 yJ0_coder_7d493 cJ0_coder_7d493 1 (some .byte) 0 := sv_mkV kw_90 kw_91 kw_92 kw_36 kw_93 ⟨by decide, by decide, by decide +kernel⟩
theorem ms_J1_92 : sv_MS RJ1 92 yJ9_max_7cf53 cJ9_max_7cf53 2 (some .int) 2 := ⟨⟨kw_94, kw_95, kw_96, kw_97⟩, by decide, by decide, by decide +kernel⟩
theorem ms_J1_38 : sv_MS RJ1 38 yJ9_min_7cf53 cJ9_min_7cf53 2 (some .int) 2 := ⟨⟨kw_98, kw_99, kw_96, kw_100⟩, by decide, by decide, by decide +kernel⟩
theorem ms_J1_88 : sv_MS RJ1 88 yJ1_canEncode_9a6ad cJ1_canEncode_9a6ad 1 (some .boolean) 1 := ⟨⟨kw_101, kw_102, kw_59, kw_103⟩, by decide, by decide, by decide +kernel⟩
theorem ms_J1_95 : sv_MS RJ1 95 yJ1_indexOfChar_4cfef cJ1_indexOfChar_4cfef 6 (some .int) 4 := ⟨⟨kw_104, kw_105, kw_59, kw_106⟩, by decide, by decide, by decide +kernel⟩
theorem ms_J0_1062 : sv_MS RJ0 1062 yJ3_checkFromToIndex_8c36e cJ3_checkFromToIndex_8c36e 4 (some .int) 4 := ⟨⟨kw_107, kw_108, kw_32, kw_109⟩, by decide, by decide, by decide +kernel⟩
theorem ms_J2_241 : sv_MS RJ2 241 yJ0_checkBoundsBeginEnd_23922 cJ0_checkBoundsBeginEnd_23922 3 none 3 := ⟨⟨kw_110, kw_111, kw_36, kw_112⟩, by decide, by decide, by decide +kernel⟩
theorem ms_J2_96 : sv_MS RJ2 96 yJ2_checkBoundsBeginEnd_d044e cJ2_checkBoundsBeginEnd_d044e 3 none 3 := ⟨⟨kw_113, kw_114, kw_40, kw_115⟩, by decide, by decide, by decide +kernel⟩
theorem ms_J2_244 : sv_MS RJ2 244 yJ2_indexOfCharUnsafe_4cfef cJ2_indexOfCharUnsafe_4cfef 5 (some .int) 4 := ⟨⟨kw_116, kw_117, kw_40, kw_118⟩, by decide, by decide, by decide +kernel⟩
theorem ms_J2_164 : sv_MS RJ2 164 yJ11_isValidCodePoint_9a6ad cJ11_isValidCodePoint_9a6ad 2 (some .boolean) 1 := ⟨⟨kw_121, kw_122, kw_123, kw_124⟩, by decide, by decide, by decide +kernel⟩
theorem ms_J2_157 : sv_MS RJ2 157 yJ11_highSurrogate_5068e cJ11_highSurrogate_5068e 1 (some .char) 1 := ⟨⟨kw_125, kw_126, kw_123, kw_127⟩, by decide, by decide, by decide +kernel⟩
theorem ms_J2_161 : sv_MS RJ2 161 yJ11_lowSurrogate_5068e cJ11_lowSurrogate_5068e 1 (some .char) 1 := ⟨⟨kw_128, kw_129, kw_123, kw_130⟩, by decide, by decide, by decide +kernel⟩
theorem ms_J2_224 : sv_MS RJ2 224 yJ9_max_7cf53 cJ9_max_7cf53 2 (some .int) 2 := ⟨⟨kw_131, kw_95, kw_96, kw_97⟩, by decide, by decide, by decide +kernel⟩
theorem ms_J2_183 : sv_MS RJ2 183 yJ9_min_7cf53 cJ9_min_7cf53 2 (some .int) 2 := ⟨⟨kw_132, kw_99, kw_96, kw_100⟩, by decide, by decide, by decide +kernel⟩
theorem ms_J2_228 : sv_MS RJ2 228 yJ2_indexOfChar_4cfef cJ2_indexOfChar_4cfef 4 (some .int) 4 := ⟨⟨kw_134, kw_135, kw_40, kw_136⟩, by decide, by decide, by decide +kernel⟩
theorem ms_J2_232 : sv_MS RJ2 232 yJ2_indexOfSupplementary_4cfef cJ2_indexOfSupplementary_4cfef 7 (some .int) 4 := ⟨⟨kw_137, kw_138, kw_40, kw_139⟩, by decide, by decide, by decide +kernel⟩
theorem mv_J0_505 : sv_MV RJ0 505 yJ0_length_8abf5 cJ0_length_8abf5 1 (some .int) 0 := sv_mkV kw_140 kw_141 kw_142 kw_36 kw_143 ⟨by decide, by decide, by decide +kernel⟩
theorem ms_J0_637 : sv_MS RJ0 637 yJ1_indexOf_4cfef cJ1_indexOf_4cfef 4 (some .int) 4 := ⟨⟨kw_144, kw_145, kw_59, kw_146⟩, by decide, by decide, by decide +kernel⟩
theorem ms_J0_640 : sv_MS RJ0 640 yJ2_indexOf_4cfef cJ2_indexOf_4cfef 4 (some .int) 4 := ⟨⟨kw_147, kw_148, kw_40, kw_149⟩, by decide, by decide, by decide +kernel⟩
theorem mv_J0_633 : sv_MV RJ0 633 yJ0_indexOf_7cf53 cJ0_indexOf_7cf53 3 (some .int) 2 := sv_mkV kw_150 kw_151 kw_152 kw_36 kw_153 ⟨by decide, by decide, by decide +kernel⟩
theorem mv_X1_70 : sv_MV RX1 70 yX1_isEmpty cX1_isEmpty 2 (some .boolean) 1 := sv_mkV kw_154 kw_155 kw_156 kw_71 kw_157 ⟨by decide, by decide, by decide +kernel⟩
theorem mv_X1_74 : sv_MV RX1 74 yX1_at cX1_at 2 (some .int) 1 := sv_mkV kw_158 kw_159 kw_160 kw_71 kw_161 ⟨by decide, by decide, by decide +kernel⟩
theorem mv_X1_75 : sv_MV RX1 75 yJ0_indexOf_0f7a4 cJ0_indexOf_0f7a4 2 (some .int) 1 := sv_mkV kw_162 kw_163 kw_164 kw_36 kw_165 ⟨by decide, by decide, by decide +kernel⟩
theorem mv_X1_78 : sv_MV RX1 78 yX1_digits cX1_digits 13 (some .int) 6 := sv_mkV kw_166 kw_167 kw_168 kw_71 kw_169 ⟨by decide, by decide, by decide +kernel⟩
theorem mv_X1_82 : sv_MV RX1 82 yX1_decimal cX1_decimal 4 (some .int) 3 := sv_mkV kw_170 kw_171 kw_172 kw_71 kw_173 ⟨by decide, by decide, by decide +kernel⟩
theorem mv_X1_87 : sv_MV RX1 87 yX1_onSide cX1_onSide 6 (some .int) 4 := sv_mkV kw_175 kw_176 kw_177 kw_71 kw_178 ⟨by decide, by decide, by decide +kernel⟩
theorem mv_X1_95 : sv_MV RX1 95 yX1_whole cX1_whole 4 (some .int) 3 := sv_mkV kw_183 kw_184 kw_185 kw_71 kw_186 ⟨by decide, by decide, by decide +kernel⟩
theorem mv_X1_99 : sv_MV RX1 99 yX1_angle cX1_angle 7 (some .int) 3 := sv_mkV kw_190 kw_191 kw_192 kw_71 kw_193 ⟨by decide, by decide, by decide +kernel⟩
theorem mv_X1_105 : sv_MV RX1 105 yX0_append cX0_append 8 none 2 := sv_mkV kw_195 kw_196 kw_197 kw_198 kw_199 ⟨by decide, by decide, by decide +kernel⟩
theorem ms_X7_35 : sv_MS RX7 35 yJ7_fill_53178 cJ7_fill_53178 4 none 2 := ⟨⟨kw_211, kw_8, kw_9, kw_10⟩, by decide, by decide, by decide +kernel⟩
theorem mv_X2_26 : sv_MV RX2 26 yX2_numberOf cX2_numberOf 3 (some .int) 1 := sv_mkV kw_214 kw_215 kw_216 kw_217 kw_218 ⟨by decide, by decide, by decide +kernel⟩
theorem mv_X2_31 : sv_MV RX2 31 yX7_begin cX7_begin 2 none 1 := sv_mkV kw_221 kw_222 kw_223 kw_213 kw_224 ⟨by decide, by decide, by decide +kernel⟩
theorem ms_X3_24 : sv_MS RX3 24 yJ7_fill_53178 cJ7_fill_53178 4 none 2 := ⟨⟨kw_230, kw_8, kw_9, kw_10⟩, by decide, by decide, by decide +kernel⟩
theorem mv_X3_33 : sv_MV RX3 33 yX0_empty cX0_empty 1 none 0 := sv_mkV kw_235 kw_236 kw_237 kw_198 kw_238 ⟨by decide, by decide, by decide +kernel⟩
theorem ms_X4_19 : sv_MS RX4 19 yJ7_fill_53178 cJ7_fill_53178 4 none 2 := ⟨⟨kw_243, kw_8, kw_9, kw_10⟩, by decide, by decide, by decide +kernel⟩
theorem mv_X4_31 : sv_MV RX4 31 yX1_time cX1_time 6 (some .int) 1 := sv_mkV kw_247 kw_248 kw_249 kw_71 kw_250 ⟨by decide, by decide, by decide +kernel⟩
theorem mv_X4_35 : sv_MV RX4 35 yX1_latitude cX1_latitude 2 (some .int) 1 := sv_mkV kw_251 kw_252 kw_253 kw_71 kw_254 ⟨by decide, by decide, by decide +kernel⟩
theorem mv_X4_38 : sv_MV RX4 38 yX1_longitude cX1_longitude 2 (some .int) 1 := sv_mkV kw_255 kw_256 kw_257 kw_71 kw_258 ⟨by decide, by decide, by decide +kernel⟩
theorem mv_X4_41 : sv_MV RX4 41 yX1_digit cX1_digit 6 (some .int) 3 := sv_mkV kw_259 kw_260 kw_261 kw_71 kw_262 ⟨by decide, by decide, by decide +kernel⟩
theorem mv_X4_45 : sv_MV RX4 45 yX1_whole cX1_whole 4 (some .int) 3 := sv_mkV kw_263 kw_184 kw_185 kw_71 kw_186 ⟨by decide, by decide, by decide +kernel⟩
theorem mv_X4_48 : sv_MV RX4 48 yX1_decimal cX1_decimal 4 (some .int) 3 := sv_mkV kw_264 kw_171 kw_172 kw_71 kw_173 ⟨by decide, by decide, by decide +kernel⟩
theorem mv_X4_51 : sv_MV RX4 51 yX1_signed cX1_signed 5 (some .int) 3 := sv_mkV kw_265 kw_266 kw_267 kw_71 kw_268 ⟨by decide, by decide, by decide +kernel⟩
theorem mv_X4_54 : sv_MV RX4 54 yX1_checkUnit cX1_checkUnit 4 none 2 := sv_mkV kw_269 kw_270 kw_271 kw_71 kw_272 ⟨by decide, by decide, by decide +kernel⟩
theorem mv_X4_65 : sv_MV RX4 65 yX4_settle cX4_settle 4 (some .boolean) 2 := sv_mkV kw_273 kw_274 kw_275 kw_276 kw_277 ⟨by decide, by decide, by decide +kernel⟩
theorem mv_X4_69 : sv_MV RX4 69 yX1_isEmpty cX1_isEmpty 2 (some .boolean) 1 := sv_mkV kw_279 kw_155 kw_156 kw_71 kw_157 ⟨by decide, by decide, by decide +kernel⟩
theorem mv_X4_75 : sv_MV RX4 75 yX1_oneOf cX1_oneOf 5 (some .int) 2 := sv_mkV kw_280 kw_281 kw_282 kw_71 kw_283 ⟨by decide, by decide, by decide +kernel⟩
theorem mv_X4_79 : sv_MV RX4 79 yX1_course cX1_course 3 (some .int) 1 := sv_mkV kw_284 kw_285 kw_286 kw_71 kw_287 ⟨by decide, by decide, by decide +kernel⟩
theorem mv_X4_82 : sv_MV RX4 82 yX1_date cX1_date 6 (some .int) 1 := sv_mkV kw_288 kw_289 kw_290 kw_71 kw_291 ⟨by decide, by decide, by decide +kernel⟩
theorem mv_X4_85 : sv_MV RX4 85 yX1_variation cX1_variation 3 (some .int) 1 := sv_mkV kw_292 kw_293 kw_294 kw_71 kw_295 ⟨by decide, by decide, by decide +kernel⟩
theorem mv_X5_27 : sv_MV RX5 27 yX5_step cX5_step 3 (some .int) 2 := sv_mkV kw_302 kw_303 kw_304 kw_25 kw_305 ⟨by decide, by decide, by decide +kernel⟩
theorem mv_X5_23 : sv_MV RX5 23 yX5_begin cX5_begin 3 (some .int) 1 := sv_mkV kw_306 kw_307 kw_308 kw_25 kw_309 ⟨by decide, by decide, by decide +kernel⟩
theorem mv_X5_31 : sv_MV RX5 31 yX5_store cX5_store 2 (some .int) 1 := sv_mkV kw_310 kw_311 kw_312 kw_25 kw_313 ⟨by decide, by decide, by decide +kernel⟩
theorem mv_X5_34 : sv_MV RX5 34 yX5_hearDigit cX5_hearDigit 3 (some .int) 2 := sv_mkV kw_314 kw_315 kw_316 kw_25 kw_317 ⟨by decide, by decide, by decide +kernel⟩
theorem mv_X6_19 : sv_MV RX6 19 yX6_add cX6_add 2 none 1 := sv_mkV kw_321 kw_322 kw_323 kw_324 kw_325 ⟨by decide, by decide, by decide +kernel⟩
theorem mv_X6_23 : sv_MV RX6 23 yJ0_length_8abf5 cJ0_length_8abf5 1 (some .int) 0 := sv_mkV kw_326 kw_141 kw_142 kw_36 kw_143 ⟨by decide, by decide, by decide +kernel⟩
theorem mv_X6_29 : sv_MV RX6 29 yJ0_charAt_5068e cJ0_charAt_5068e 2 (some .char) 1 := sv_mkV kw_327 kw_65 kw_66 kw_36 kw_67 ⟨by decide, by decide, by decide +kernel⟩
theorem mv_X7_49 : sv_MV RX7 49 yX0_read cX0_read 6 (some .int) 2 := sv_mkV kw_333 kw_334 kw_335 kw_198 kw_336 ⟨by decide, by decide, by decide +kernel⟩
theorem ms_X7_41 : sv_MS RX7 41 yX7_layoutOf cX7_layoutOf 1 (some (.array .int)) 1 := ⟨⟨kw_337, kw_338, kw_213, kw_339⟩, by decide, by decide, by decide +kernel⟩
theorem mv_X7_45 : sv_MV RX7 45 yX7_learnText cX7_learnText 8 none 4 := sv_mkV kw_340 kw_341 kw_342 kw_213 kw_343 ⟨by decide, by decide, by decide +kernel⟩
theorem ms_X7_55 : sv_MS RX7 55 yX7_hasSign cX7_hasSign 1 (some .boolean) 1 := ⟨⟨kw_344, kw_345, kw_213, kw_346⟩, by decide, by decide, by decide +kernel⟩
theorem mv_X7_70 : sv_MV RX7 70 yX7_signOf cX7_signOf 3 (some .int) 2 := sv_mkV kw_347 kw_348 kw_349 kw_213 kw_350 ⟨by decide, by decide, by decide +kernel⟩
theorem mv_X7_62 : sv_MV RX7 62 yX0_append cX0_append 8 none 2 := sv_mkV kw_351 kw_196 kw_197 kw_198 kw_199 ⟨by decide, by decide, by decide +kernel⟩
theorem mv_X7_59 : sv_MV RX7 59 yX0_empty cX0_empty 1 none 0 := sv_mkV kw_352 kw_236 kw_237 kw_198 kw_238 ⟨by decide, by decide, by decide +kernel⟩
theorem mv_X7_66 : sv_MV RX7 66 yX7_tellText cX7_tellText 7 none 3 := sv_mkV kw_353 kw_354 kw_355 kw_213 kw_356 ⟨by decide, by decide, by decide +kernel⟩
theorem mv_X8_70 : sv_MV RX8 70 yX6_hasRoom cX6_hasRoom 2 (some .boolean) 1 := sv_mkV kw_399 kw_400 kw_401 kw_324 kw_402 ⟨by decide, by decide, by decide +kernel⟩
theorem mv_X8_75 : sv_MV RX8 75 yX6_addWord cX6_addWord 2 none 1 := sv_mkV kw_403 kw_404 kw_405 kw_324 kw_406 ⟨by decide, by decide, by decide +kernel⟩
theorem mv_X8_247 : sv_MV RX8 247 yX3_drop cX3_drop 2 (some .boolean) 1 := sv_mkV kw_407 kw_408 kw_409 kw_374 kw_410 ⟨by decide, by decide, by decide +kernel⟩
theorem mv_X8_253 : sv_MV RX8 253 yX3_awaits cX3_awaits 4 (some .boolean) 3 := sv_mkV kw_411 kw_412 kw_413 kw_374 kw_414 ⟨by decide, by decide, by decide +kernel⟩
theorem mv_X8_137 : sv_MV RX8 137 yX0_read cX0_read 6 (some .int) 2 := sv_mkV kw_416 kw_334 kw_335 kw_198 kw_336 ⟨by decide, by decide, by decide +kernel⟩
theorem ms_X8_256 : sv_MS RX8 256 yX7_bitsOf cX7_bitsOf 1 (some .int) 1 := ⟨⟨kw_417, kw_418, kw_213, kw_419⟩, by decide, by decide, by decide +kernel⟩
theorem mv_X8_259 : sv_MV RX8 259 yX2_vesselOf cX2_vesselOf 3 (some (.object "SeaReceiver$Vessel")) 1 := sv_mkV kw_420 kw_421 kw_422 kw_217 kw_423 ⟨by decide, by decide, by decide +kernel⟩
theorem mv_X8_262 : sv_MV RX8 262 yX7_learn cX7_learn 9 none 2 := sv_mkV kw_424 kw_425 kw_426 kw_213 kw_427 ⟨by decide, by decide, by decide +kernel⟩
theorem mv_X8_211 : sv_MV RX8 211 yX1_digit cX1_digit 6 (some .int) 3 := sv_mkV kw_430 kw_260 kw_261 kw_71 kw_262 ⟨by decide, by decide, by decide +kernel⟩
theorem mv_X8_215 : sv_MV RX8 215 yX1_isEmpty cX1_isEmpty 2 (some .boolean) 1 := sv_mkV kw_431 kw_155 kw_156 kw_71 kw_157 ⟨by decide, by decide, by decide +kernel⟩
theorem mv_X8_220 : sv_MV RX8 220 yX1_oneOf cX1_oneOf 5 (some .int) 2 := sv_mkV kw_432 kw_281 kw_282 kw_71 kw_283 ⟨by decide, by decide, by decide +kernel⟩
theorem mv_X8_224 : sv_MV RX8 224 yX1_checkPack cX1_checkPack 6 none 1 := sv_mkV kw_433 kw_434 kw_435 kw_71 kw_436 ⟨by decide, by decide, by decide +kernel⟩
theorem mv_X8_231 : sv_MV RX8 231 yX8_isInOrder cX8_isInOrder 4 (some .boolean) 3 := sv_mkV kw_437 kw_438 kw_439 kw_440 kw_441 ⟨by decide, by decide, by decide +kernel⟩
theorem mv_X8_235 : sv_MV RX8 235 yX3_keep cX3_keep 4 (some (.object "SeaReceiver$BitRow")) 2 := sv_mkV kw_442 kw_443 kw_444 kw_374 kw_445 ⟨by decide, by decide, by decide +kernel⟩
theorem mv_X8_239 : sv_MV RX8 239 yX1_unpack cX1_unpack 8 none 3 := sv_mkV kw_446 kw_447 kw_448 kw_71 kw_449 ⟨by decide, by decide, by decide +kernel⟩
theorem mv_X8_243 : sv_MV RX8 243 yX0_copy cX0_copy 3 none 1 := sv_mkV kw_450 kw_451 kw_452 kw_198 kw_453 ⟨by decide, by decide, by decide +kernel⟩
theorem mv_X8_250 : sv_MV RX8 250 yX8_receive cX8_receive 3 none 0 := sv_mkV kw_454 kw_455 kw_456 kw_440 kw_457 ⟨by decide, by decide, by decide +kernel⟩
theorem mv_X8_184 : sv_MV RX8 184 yX1_split cX1_split 5 none 1 := sv_mkV kw_461 kw_462 kw_463 kw_71 kw_464 ⟨by decide, by decide, by decide +kernel⟩
theorem mv_X8_191 : sv_MV RX8 191 yX1_form cX1_form 4 (some .int) 1 := sv_mkV kw_465 kw_466 kw_467 kw_71 kw_468 ⟨by decide, by decide, by decide +kernel⟩
theorem mv_X8_194 : sv_MV RX8 194 yX4_takeGga cX4_takeGga 2 (some .boolean) 1 := sv_mkV kw_469 kw_470 kw_471 kw_276 kw_472 ⟨by decide, by decide, by decide +kernel⟩
theorem mv_X8_198 : sv_MV RX8 198 yX4_takeRmc cX4_takeRmc 2 (some .boolean) 1 := sv_mkV kw_473 kw_474 kw_475 kw_276 kw_476 ⟨by decide, by decide, by decide +kernel⟩
theorem mv_X8_201 : sv_MV RX8 201 yX4_takeVtg cX4_takeVtg 2 (some .boolean) 1 := sv_mkV kw_477 kw_478 kw_479 kw_276 kw_480 ⟨by decide, by decide, by decide +kernel⟩
theorem mv_X8_204 : sv_MV RX8 204 yX8_takePart cX8_takePart 6 (some .boolean) 0 := sv_mkV kw_481 kw_482 kw_483 kw_440 kw_484 ⟨by decide, by decide, by decide +kernel⟩
theorem mv_X8_82 : sv_MV RX8 82 yX6_at cX6_at 2 (some .int) 1 := sv_mkV kw_485 kw_486 kw_487 kw_324 kw_488 ⟨by decide, by decide, by decide +kernel⟩
theorem mv_X8_86 : sv_MV RX8 86 yX5_hear cX5_hear 2 (some .int) 1 := sv_mkV kw_489 kw_490 kw_491 kw_25 kw_492 ⟨by decide, by decide, by decide +kernel⟩
theorem mv_X8_89 : sv_MV RX8 89 yX8_judge cX8_judge 2 (some .int) 0 := sv_mkV kw_493 kw_494 kw_495 kw_440 kw_496 ⟨by decide, by decide, by decide +kernel⟩
theorem mv_X8_94 : sv_MV RX8 94 yX5_underWay cX5_underWay 1 (some .int) 0 := sv_mkV kw_498 kw_499 kw_500 kw_25 kw_501 ⟨by decide, by decide, by decide +kernel⟩
theorem mv_X8_97 : sv_MV RX8 97 yX3_keptInAll cX3_keptInAll 3 (some .int) 0 := sv_mkV kw_502 kw_503 kw_504 kw_374 kw_505 ⟨by decide, by decide, by decide +kernel⟩
theorem mv_X8_110 : sv_MV RX8 110 yX2_numberOf cX2_numberOf 3 (some .int) 1 := sv_mkV kw_511 kw_215 kw_216 kw_217 kw_218 ⟨by decide, by decide, by decide +kernel⟩
theorem mv_X8_113 : sv_MV RX8 113 yX2_at cX2_at 2 (some (.object "SeaReceiver$Vessel")) 1 := sv_mkV kw_514 kw_515 kw_516 kw_217 kw_517 ⟨by decide, by decide, by decide +kernel⟩
theorem mv_X8_128 : sv_MV RX8 128 yX7_signOf cX7_signOf 3 (some .int) 2 := sv_mkV kw_518 kw_348 kw_349 kw_213 kw_350 ⟨by decide, by decide, by decide +kernel⟩
theorem mv_X8_161 : sv_MV RX8 161 yX6_add cX6_add 2 none 1 := sv_mkV kw_519 kw_322 kw_323 kw_324 kw_325 ⟨by decide, by decide, by decide +kernel⟩
theorem ms_X8_275 : sv_MS RX8 275 yX8_sixteen cX8_sixteen 1 (some .int) 1 := ⟨⟨kw_520, kw_521, kw_440, kw_522⟩, by decide, by decide, by decide +kernel⟩
theorem mv_X8_267 : sv_MV RX8 267 yX6_addText cX6_addText 3 none 1 := sv_mkV kw_523 kw_524 kw_525 kw_324 kw_526 ⟨by decide, by decide, by decide +kernel⟩
theorem mv_X8_272 : sv_MV RX8 272 yX8_closeSentence cX8_closeSentence 4 none 1 := sv_mkV kw_527 kw_528 kw_529 kw_440 kw_530 ⟨by decide, by decide, by decide +kernel⟩
theorem mv_X8_147 : sv_MV RX8 147 yX7_tell cX7_tell 8 none 2 := sv_mkV kw_533 kw_534 kw_535 kw_213 kw_536 ⟨by decide, by decide, by decide +kernel⟩
theorem mv_X8_153 : sv_MV RX8 153 yX8_writeSentence cX8_writeSentence 8 none 4 := sv_mkV kw_537 kw_538 kw_539 kw_440 kw_540 ⟨by decide, by decide, by decide +kernel⟩
theorem ms_X8_164 : sv_MS RX8 164 yJ7_fill_53178 cJ7_fill_53178 4 none 2 := ⟨⟨kw_541, kw_8, kw_9, kw_10⟩, by decide, by decide, by decide +kernel⟩
theorem mv_X8_170 : sv_MV RX8 170 yX5_forget cX5_forget 1 none 0 := sv_mkV kw_542 kw_543 kw_544 kw_25 kw_545 ⟨by decide, by decide, by decide +kernel⟩
theorem mv_X8_173 : sv_MV RX8 173 yX4_forget cX4_forget 1 none 0 := sv_mkV kw_546 kw_547 kw_548 kw_276 kw_549 ⟨by decide, by decide, by decide +kernel⟩
theorem mv_X8_174 : sv_MV RX8 174 yX3_forget cX3_forget 1 none 0 := sv_mkV kw_550 kw_551 kw_552 kw_374 kw_553 ⟨by decide, by decide, by decide +kernel⟩
theorem mv_X8_175 : sv_MV RX8 175 yX0_empty cX0_empty 1 none 0 := sv_mkV kw_554 kw_236 kw_237 kw_198 kw_238 ⟨by decide, by decide, by decide +kernel⟩
theorem mv_X9_67 : sv_MV RX9 67 yX9_forget cX9_forget 2 none 0 := sv_mkV kw_581 kw_582 kw_583 kw_584 kw_585 ⟨by decide, by decide, by decide +kernel⟩
theorem ms_X9_74 : sv_MS RX9 74 yX9_in cX9_in 6 (some .boolean) 3 := ⟨⟨kw_587, kw_588, kw_584, kw_589⟩, by decide, by decide, by decide +kernel⟩
theorem mv_X9_127 : sv_MV RX9 127 yJ0_charAt_5068e cJ0_charAt_5068e 2 (some .char) 1 := sv_mkV kw_594 kw_65 kw_66 kw_36 kw_67 ⟨by decide, by decide, by decide +kernel⟩
theorem mv_X9_137 : sv_MV RX9 137 yX9_ends cX9_ends 2 (some .boolean) 1 := sv_mkV kw_596 kw_597 kw_598 kw_584 kw_599 ⟨by decide, by decide, by decide +kernel⟩
theorem mv_X9_153 : sv_MV RX9 153 yX9_size cX9_size 2 (some .int) 1 := sv_mkV kw_600 kw_601 kw_602 kw_584 kw_603 ⟨by decide, by decide, by decide +kernel⟩
theorem mv_X9_156 : sv_MV RX9 156 yX9_at cX9_at 3 (some .int) 2 := sv_mkV kw_604 kw_605 kw_606 kw_584 kw_607 ⟨by decide, by decide, by decide +kernel⟩
theorem ms_X9_160 : sv_MS RX9 160 yX9_isDigit cX9_isDigit 1 (some .boolean) 1 := ⟨⟨kw_608, kw_609, kw_584, kw_610⟩, by decide, by decide, by decide +kernel⟩
theorem mv_X9_163 : sv_MV RX9 163 yX9_digits cX9_digits 4 (some .int) 2 := sv_mkV kw_612 kw_613 kw_614 kw_584 kw_615 ⟨by decide, by decide, by decide +kernel⟩
theorem mv_X9_166 : sv_MV RX9 166 yX9_bad cX9_bad 1 (some .int) 0 := sv_mkV kw_616 kw_617 kw_618 kw_584 kw_619 ⟨by decide, by decide, by decide +kernel⟩
theorem mv_X9_173 : sv_MV RX9 173 yX9_whole cX9_whole 6 (some .int) 3 := sv_mkV kw_620 kw_621 kw_622 kw_584 kw_623 ⟨by decide, by decide, by decide +kernel⟩
theorem mv_X9_169 : sv_MV RX9 169 yX9_behind cX9_behind 8 (some .int) 4 := sv_mkV kw_624 kw_625 kw_626 kw_584 kw_627 ⟨by decide, by decide, by decide +kernel⟩
theorem mv_X9_187 : sv_MV RX9 187 yJ0_length_8abf5 cJ0_length_8abf5 1 (some .int) 0 := sv_mkV kw_628 kw_141 kw_142 kw_36 kw_143 ⟨by decide, by decide, by decide +kernel⟩
theorem mv_X9_190 : sv_MV RX9 190 yX9_one cX9_one 5 (some .int) 2 := sv_mkV kw_629 kw_630 kw_631 kw_584 kw_632 ⟨by decide, by decide, by decide +kernel⟩
theorem mv_X9_195 : sv_MV RX9 195 yX9_sided cX9_sided 5 (some .int) 3 := sv_mkV kw_634 kw_635 kw_636 kw_584 kw_637 ⟨by decide, by decide, by decide +kernel⟩
theorem ms_X9_177 : sv_MS RX9 177 yX9_ten cX9_ten 3 (some .int) 1 := ⟨⟨kw_638, kw_639, kw_584, kw_640⟩, by decide, by decide, by decide +kernel⟩
theorem mv_X9_211 : sv_MV RX9 211 yX9_time cX9_time 6 (some .int) 1 := sv_mkV kw_641 kw_642 kw_643 kw_584 kw_644 ⟨by decide, by decide, by decide +kernel⟩
theorem mv_X9_216 : sv_MV RX9 216 yX9_place cX9_place 9 (some .int) 4 := sv_mkV kw_645 kw_646 kw_647 kw_584 kw_648 ⟨by decide, by decide, by decide +kernel⟩
theorem mv_X9_180 : sv_MV RX9 180 yX9_number cX9_number 3 (some .int) 2 := sv_mkV kw_649 kw_650 kw_651 kw_584 kw_652 ⟨by decide, by decide, by decide +kernel⟩
theorem mv_X9_222 : sv_MV RX9 222 yX9_decimal cX9_decimal 9 (some .int) 4 := sv_mkV kw_653 kw_654 kw_655 kw_584 kw_656 ⟨by decide, by decide, by decide +kernel⟩
theorem mv_X9_228 : sv_MV RX9 228 yX9_measured cX9_measured 5 (some .int) 3 := sv_mkV kw_657 kw_658 kw_659 kw_584 kw_660 ⟨by decide, by decide, by decide +kernel⟩
theorem mv_X9_234 : sv_MV RX9 234 yX9_below cX9_below 3 (some .int) 2 := sv_mkV kw_665 kw_666 kw_667 kw_584 kw_668 ⟨by decide, by decide, by decide +kernel⟩
theorem mv_X9_237 : sv_MV RX9 237 yX9_date cX9_date 5 (some .int) 1 := sv_mkV kw_669 kw_670 kw_671 kw_584 kw_672 ⟨by decide, by decide, by decide +kernel⟩
theorem mv_X9_199 : sv_MV RX9 199 yX9_gga cX9_gga 1 none 0 := sv_mkV kw_681 kw_682 kw_683 kw_584 kw_684 ⟨by decide, by decide, by decide +kernel⟩
theorem mv_X9_202 : sv_MV RX9 202 yX9_rmc cX9_rmc 2 none 0 := sv_mkV kw_685 kw_686 kw_687 kw_584 kw_688 ⟨by decide, by decide, by decide +kernel⟩
theorem mv_X9_205 : sv_MV RX9 205 yX9_vtg cX9_vtg 1 none 0 := sv_mkV kw_689 kw_690 kw_691 kw_584 kw_692 ⟨by decide, by decide, by decide +kernel⟩
theorem mv_X9_208 : sv_MV RX9 208 yX9_part cX9_part 4 none 0 := sv_mkV kw_693 kw_694 kw_695 kw_584 kw_696 ⟨by decide, by decide, by decide +kernel⟩
theorem mv_X9_286 : sv_MV RX9 286 yX9_read cX9_read 5 (some .int) 2 := sv_mkV kw_697 kw_698 kw_699 kw_584 kw_700 ⟨by decide, by decide, by decide +kernel⟩
theorem mv_X9_308 : sv_MV RX9 308 yX9_signed cX9_signed 3 (some .int) 2 := sv_mkV kw_705 kw_706 kw_707 kw_584 kw_708 ⟨by decide, by decide, by decide +kernel⟩
theorem mv_X9_311 : sv_MV RX9 311 yX9_put cX9_put 4 none 2 := sv_mkV kw_709 kw_710 kw_711 kw_584 kw_712 ⟨by decide, by decide, by decide +kernel⟩
theorem mv_X9_317 : sv_MV RX9 317 yX9_go cX9_go 5 none 3 := sv_mkV kw_713 kw_714 kw_715 kw_584 kw_716 ⟨by decide, by decide, by decide +kernel⟩
theorem ms_X9_314 : sv_MS RX9 314 yX9_room cX9_room 1 (some .int) 1 := ⟨⟨kw_717, kw_718, kw_584, kw_719⟩, by decide, by decide, by decide +kernel⟩
theorem mv_X9_327 : sv_MV RX9 327 yX9_skip cX9_skip 2 none 1 := sv_mkV kw_720 kw_721 kw_722 kw_584 kw_723 ⟨by decide, by decide, by decide +kernel⟩
theorem mv_X9_333 : sv_MV RX9 333 yX9_words cX9_words 7 none 1 := sv_mkV kw_724 kw_725 kw_726 kw_584 kw_727 ⟨by decide, by decide, by decide +kernel⟩
theorem mv_X9_321 : sv_MV RX9 321 yX9_where cX9_where 1 none 0 := sv_mkV kw_728 kw_729 kw_730 kw_584 kw_731 ⟨by decide, by decide, by decide +kernel⟩
theorem mv_X9_324 : sv_MV RX9 324 yX9_way cX9_way 1 none 0 := sv_mkV kw_732 kw_733 kw_734 kw_584 kw_735 ⟨by decide, by decide, by decide +kernel⟩
theorem mv_X9_330 : sv_MV RX9 330 yX9_still cX9_still 1 none 0 := sv_mkV kw_736 kw_737 kw_738 kw_584 kw_739 ⟨by decide, by decide, by decide +kernel⟩
theorem mv_X9_294 : sv_MV RX9 294 yX9_found cX9_found 3 (some .int) 1 := sv_mkV kw_742 kw_743 kw_744 kw_584 kw_745 ⟨by decide, by decide, by decide +kernel⟩
theorem mv_X9_297 : sv_MV RX9 297 yX9_reports cX9_reports 3 none 2 := sv_mkV kw_746 kw_747 kw_748 kw_584 kw_749 ⟨by decide, by decide, by decide +kernel⟩
theorem mv_X9_283 : sv_MV RX9 283 yX9_message cX9_message 6 none 0 := sv_mkV kw_750 kw_751 kw_752 kw_584 kw_753 ⟨by decide, by decide, by decide +kernel⟩
theorem mv_X9_270 : sv_MV RX9 270 yX9_keep cX9_keep 4 none 2 := sv_mkV kw_754 kw_755 kw_756 kw_584 kw_757 ⟨by decide, by decide, by decide +kernel⟩
theorem mv_X9_274 : sv_MV RX9 274 yX9_parted cX9_parted 5 none 0 := sv_mkV kw_758 kw_759 kw_760 kw_584 kw_761 ⟨by decide, by decide, by decide +kernel⟩
theorem mv_X9_116 : sv_MV RX9 116 yX9_form cX9_form 2 (some .int) 0 := sv_mkV kw_764 kw_765 kw_766 kw_584 kw_767 ⟨by decide, by decide, by decide +kernel⟩
theorem mv_X9_120 : sv_MV RX9 120 yX9_fits cX9_fits 2 (some .boolean) 1 := sv_mkV kw_768 kw_769 kw_770 kw_584 kw_771 ⟨by decide, by decide, by decide +kernel⟩
theorem mv_X9_124 : sv_MV RX9 124 yX9_taken cX9_taken 2 none 1 := sv_mkV kw_772 kw_773 kw_774 kw_584 kw_775 ⟨by decide, by decide, by decide +kernel⟩
theorem ms_X9_103 : sv_MS RX9 103 yX9_sixteen cX9_sixteen 1 (some .int) 1 := ⟨⟨kw_778, kw_779, kw_584, kw_780⟩, by decide, by decide, by decide +kernel⟩
theorem mv_X9_110 : sv_MV RX9 110 yX9_ended cX9_ended 2 none 0 := sv_mkV kw_781 kw_782 kw_783 kw_584 kw_784 ⟨by decide, by decide, by decide +kernel⟩
theorem mv_X9_86 : sv_MV RX9 86 yX9_comes cX9_comes 3 none 1 := sv_mkV kw_785 kw_786 kw_787 kw_584 kw_788 ⟨by decide, by decide, by decide +kernel⟩
theorem mv_X9_343 : sv_MV RX9 343 yX9_refuse cX9_refuse 2 (some .int) 1 := sv_mkV kw_792 kw_793 kw_794 kw_584 kw_795 ⟨by decide, by decide, by decide +kernel⟩
theorem mv_X9_358 : sv_MV RX9 358 yX9_write cX9_write 2 none 1 := sv_mkV kw_800 kw_801 kw_802 kw_584 kw_803 ⟨by decide, by decide, by decide +kernel⟩
theorem mv_X9_363 : sv_MV RX9 363 yX9_writeAll cX9_writeAll 3 none 1 := sv_mkV kw_804 kw_805 kw_806 kw_584 kw_807 ⟨by decide, by decide, by decide +kernel⟩
theorem ms_X9_369 : sv_MS RX9 369 yX9_hexOf cX9_hexOf 1 (some .int) 1 := ⟨⟨kw_808, kw_809, kw_584, kw_810⟩, by decide, by decide, by decide +kernel⟩
theorem mv_X9_374 : sv_MV RX9 374 yX9_sentence cX9_sentence 10 none 5 := sv_mkV kw_812 kw_813 kw_814 kw_584 kw_815 ⟨by decide, by decide, by decide +kernel⟩
theorem mv_L_7 : sv_MV RL 7 yX8_fix cX8_fix 2 (some .int) 1 := sv_mkV kw_818 kw_819 kw_820 kw_440 kw_821 ⟨by decide, by decide, by decide +kernel⟩
theorem mv_L_15 : sv_MV RL 15 yX8_vessel cX8_vessel 4 (some .int) 2 := sv_mkV kw_823 kw_824 kw_825 kw_440 kw_826 ⟨by decide, by decide, by decide +kernel⟩
theorem mv_L_19 : sv_MV RL 19 yX8_bits cX8_bits 3 (some .int) 2 := sv_mkV kw_827 kw_828 kw_829 kw_440 kw_830 ⟨by decide, by decide, by decide +kernel⟩
theorem mv_L_22 : sv_MV RL 22 yX8_send cX8_send 6 (some .int) 3 := sv_mkV kw_832 kw_833 kw_834 kw_440 kw_835 ⟨by decide, by decide, by decide +kernel⟩
theorem mv_L_32 : sv_MV RL 32 yX8_feed cX8_feed 6 (some .int) 5 := sv_mkV kw_849 kw_850 kw_851 kw_440 kw_852 ⟨by decide, by decide, by decide +kernel⟩
theorem mv_L_36 : sv_MV RL 36 yX9_feed cX9_feed 8 (some .int) 5 := sv_mkV kw_853 kw_854 kw_855 kw_584 kw_856 ⟨by decide, by decide, by decide +kernel⟩
theorem mv_L_37 : sv_MV RL 37 yX8_end cX8_end 2 (some .boolean) 1 := sv_mkV kw_857 kw_858 kw_859 kw_440 kw_860 ⟨by decide, by decide, by decide +kernel⟩
theorem mv_L_41 : sv_MV RL 41 yX9_end cX9_end 2 (some .boolean) 1 := sv_mkV kw_861 kw_862 kw_863 kw_584 kw_864 ⟨by decide, by decide, by decide +kernel⟩
theorem mv_L_42 : sv_MV RL 42 yX8_stream cX8_stream 5 (some .int) 0 := sv_mkV kw_865 kw_866 kw_867 kw_440 kw_868 ⟨by decide, by decide, by decide +kernel⟩
theorem mv_L_46 : sv_MV RL 46 yX9_stream cX9_stream 4 (some .int) 0 := sv_mkV kw_869 kw_870 kw_871 kw_584 kw_872 ⟨by decide, by decide, by decide +kernel⟩
theorem mv_L_47 : sv_MV RL 47 yX8_count cX8_count 2 (some .int) 1 := sv_mkV kw_873 kw_874 kw_875 kw_440 kw_876 ⟨by decide, by decide, by decide +kernel⟩
theorem mv_L_50 : sv_MV RL 50 yX9_count cX9_count 4 (some .int) 1 := sv_mkV kw_877 kw_878 kw_879 kw_584 kw_880 ⟨by decide, by decide, by decide +kernel⟩
theorem mv_L_56 : sv_MV RL 56 yX9_fix cX9_fix 2 (some .int) 1 := sv_mkV kw_885 kw_886 kw_887 kw_584 kw_888 ⟨by decide, by decide, by decide +kernel⟩
theorem mv_L_57 : sv_MV RL 57 yX9_thrown cX9_thrown 1 (some .int) 0 := sv_mkV kw_889 kw_890 kw_891 kw_584 kw_892 ⟨by decide, by decide, by decide +kernel⟩
theorem mv_L_60 : sv_MV RL 60 yX8_find cX8_find 2 (some .int) 1 := sv_mkV kw_893 kw_894 kw_895 kw_440 kw_896 ⟨by decide, by decide, by decide +kernel⟩
theorem mv_L_63 : sv_MV RL 63 yX9_find cX9_find 2 (some .int) 1 := sv_mkV kw_897 kw_898 kw_899 kw_584 kw_900 ⟨by decide, by decide, by decide +kernel⟩
theorem mv_L_67 : sv_MV RL 67 yX9_vessel cX9_vessel 3 (some .int) 2 := sv_mkV kw_904 kw_905 kw_906 kw_584 kw_907 ⟨by decide, by decide, by decide +kernel⟩
theorem mv_L_68 : sv_MV RL 68 yX8_letter cX8_letter 5 (some .int) 3 := sv_mkV kw_908 kw_909 kw_910 kw_440 kw_911 ⟨by decide, by decide, by decide +kernel⟩
theorem mv_L_71 : sv_MV RL 71 yX9_letter cX9_letter 4 (some .int) 3 := sv_mkV kw_912 kw_913 kw_914 kw_584 kw_915 ⟨by decide, by decide, by decide +kernel⟩
theorem mv_L_74 : sv_MV RL 74 yX9_bits cX9_bits 3 (some .int) 2 := sv_mkV kw_919 kw_920 kw_921 kw_584 kw_922 ⟨by decide, by decide, by decide +kernel⟩
theorem mv_L_78 : sv_MV RL 78 yX9_send cX9_send 4 (some .int) 3 := sv_mkV kw_926 kw_927 kw_928 kw_584 kw_929 ⟨by decide, by decide, by decide +kernel⟩
theorem mv_L_79 : sv_MV RL 79 yX8_out cX8_out 2 (some .int) 1 := sv_mkV kw_930 kw_931 kw_932 kw_440 kw_933 ⟨by decide, by decide, by decide +kernel⟩
theorem mv_L_82 : sv_MV RL 82 yX9_out cX9_out 2 (some .int) 1 := sv_mkV kw_934 kw_935 kw_936 kw_584 kw_937 ⟨by decide, by decide, by decide +kernel⟩
theorem mv_L_83 : sv_MV RL 83 yX8_again cX8_again 2 (some .int) 0 := sv_mkV kw_938 kw_939 kw_940 kw_440 kw_941 ⟨by decide, by decide, by decide +kernel⟩
theorem mv_L_86 : sv_MV RL 86 yX9_again cX9_again 2 (some .int) 0 := sv_mkV kw_942 kw_943 kw_944 kw_584 kw_945 ⟨by decide, by decide, by decide +kernel⟩
theorem mv_L_87 : sv_MV RL 87 yX8_clear cX8_clear 1 none 0 := sv_mkV kw_946 kw_947 kw_948 kw_440 kw_949 ⟨by decide, by decide, by decide +kernel⟩
theorem mv_L_90 : sv_MV RL 90 yX9_clear cX9_clear 1 none 0 := sv_mkV kw_950 kw_951 kw_952 kw_584 kw_953 ⟨by decide, by decide, by decide +kernel⟩
end
section
/-! ===== more rows: calls that make nothing, long compare, switches ===== -/
section SVE
variable {E : sv_E} {X : sv_X} {cc : ByteArray} {own : String} {sx sx' : List (Nat × Nat × List Int32)} {wd wd' : va_W} {sz sz' ce sl pc : Nat} {lv lv' : List (Nat × Value)} {st rest : List Value}
variable {index : Nat} {y : MethodName} {cb : ByteArray} {mL : Nat} {rt : Option FieldType} {n fr lo : Nat} {As : List Value} {b : Nat} {res : Option Value}
theorem sv_callV0 {ci : Nat} {fs : List Value} (C : sv_C E X cc own sx) (L : sv_MV own index y cb mL rt n) (M : sv_Met (sv_l X) E y cb mL rt fr lo sx' (.ref b :: As) wd sz res wd' sz' 0 0) (hsx : sv_sxs E sx sx') (q0 : Nat) (he : wd[q0]? = some (b, .inr (ci, fs))) (hc : (vwCl[ci]?).map (fun q => q.1) = some y.cls) (hn : As.length = n) (hst : st = As.reverse ++ .ref b :: rest) (hw : (rest.map fun v => v.category).sum ≤ 8)
    (hR : fr + 1 ≤ (sv_R X).frames ∧ 8 + (mL + 11) + lo ≤ (sv_R X).locals) (hcs : ce ≤ (sv_R X).cells ∧ sl ≤ (sv_R X).slots) (hd : decode cc pc = .ok (.invokevirtual index, 3)) (kk : sv_J E X wd' sz' ce sl (pc + 3) lv (res.toList ++ rest)) : sv_J E X wd sz ce sl pc lv st := sv_callV C L M hsx q0 he hc hn hst hw hR hcs hd kk
theorem sv_callS0 (C : sv_C E X cc own sx) (L : sv_MS own index y cb mL rt n) (M : sv_Met (sv_l X) E y cb mL rt fr lo sx' As wd sz res wd' sz' 0 0) (hsx : sv_sxs E sx sx') (hn : As.length = n) (hst : st = As.reverse ++ rest) (hw : (rest.map fun v => v.category).sum ≤ 8)
    (hR : fr + 1 ≤ (sv_R X).frames ∧ 8 + (mL + 11) + lo ≤ (sv_R X).locals) (hcs : ce ≤ (sv_R X).cells ∧ sl ≤ (sv_R X).slots) (hd : decode cc pc = .ok (.invokestatic index, 3)) (kk : sv_J E X wd' sz' ce sl (pc + 3) lv (res.toList ++ rest)) : sv_J E X wd sz ce sl pc lv st := sv_callS C L M hsx hn hst hw hR hcs hd kk
theorem sv_lcmp {x z : Int64} (C : sv_C E X cc own sx) (hd : decode cc pc = .ok (.lcmp, 1)) (k : sv_J E X wd sz ce sl (pc + 1) lv (.int (lg_cmp x z) :: st)) : sv_J E X wd sz ce sl pc lv (.long z :: .long x :: st) := by
  obtain ⟨p, l, e, R, s, m, args, below, meth, c, Q, A, nL⟩ := X
  exact fun H locs ls h1 h2 h3 h4 h5 => W.lcmp C.1.1 C.1.2.1 hd (k H locs ls h1 h2 h3 h4 h5)
theorem sv_tswI {dflt lo hi : Int} {offs : Array Int} {len : Nat} {x v : Int32} {off : Int} {tgt : Nat} (C : sv_C E X cc own sx) (hd : decode cc pc = .ok (.tableswitch dflt lo hi offs, len)) (hx : x = v) (h1 : ¬ v.toInt < lo) (h2 : ¬ hi < v.toInt) (ho : offs[(v.toInt - lo).toNat]? = some off) (ht : (pc : Int) + off = (tgt : Int)) (k : sv_J E X wd sz ce sl tgt lv st) : sv_J E X wd sz ce sl pc lv (.int x :: st) := by
  obtain ⟨p, l, e, R, s, m, args, below, meth, c, Q, A, nL⟩ := X
  subst hx
  exact fun H locs ls g1 g2 g3 g4 g5 => lv_tableIn C.1.1 C.1.2.1 hd h1 h2 ho ht (k H locs ls g1 g2 g3 g4 g5)
theorem sv_tswO {dflt lo hi : Int} {offs : Array Int} {len : Nat} {x : Int32} {tgt : Nat} (C : sv_C E X cc own sx) (hd : decode cc pc = .ok (.tableswitch dflt lo hi offs, len)) (h : x.toInt < lo ∨ hi < x.toInt) (ht : (pc : Int) + dflt = (tgt : Int)) (k : sv_J E X wd sz ce sl tgt lv st) : sv_J E X wd sz ce sl pc lv (.int x :: st) := by
  obtain ⟨p, l, e, R, s, m, args, below, meth, c, Q, A, nL⟩ := X
  exact fun H locs ls g1 g2 g3 g4 g5 => lv_tableOut C.1.1 C.1.2.1 hd h ht (k H locs ls g1 g2 g3 g4 g5)
theorem sv_nei {x v : Int32} (h : ¬ x = v) : x.toInt ≠ v.toInt := fun e => h (Int32.toInt_inj.mp e)
theorem sv_nz {ty : FieldType} {v : Int32} (h : vp_nar ty v = v) (hi : ∃ w, narrow ty (.int v) = .int w := by first | exact ⟨_, rfl⟩) : narrow ty (.int v) = .int v := by
  obtain ⟨w, hw⟩ := hi
  have : vp_nar ty v = w := by unfold vp_nar; rw [hw]
  rw [hw, ← this, h]
end SVE
section SVF
variable {E : sv_E} {X : sv_X} {cc : ByteArray} {own : String} {sx : List (Nat × Nat × List Int32)} {wd : va_W} {sz ce sl pc : Nat} {lv lv' : List (Nat × Value)} {st : List Value}
theorem sv_null (C : sv_C E X cc own sx) (hd : decode cc pc = .ok (.aconst_null, 1)) (k : sv_J E X wd sz ce sl (pc + 1) lv (.null :: st)) : sv_J E X wd sz ce sl pc lv st := by
  obtain ⟨p, l, e, R, s, m, args, below, meth, c, Q, A, nL⟩ := X
  exact fun H locs ls h1 h2 h3 h4 h5 => lv_null C.1.1 C.1.2.1 hd (k H locs ls h1 h2 h3 h4 h5)
theorem sv_ifnonnull {x : Nat} {off : Int} {tgt : Nat} (C : sv_C E X cc own sx) (hd : decode cc pc = .ok (.ifnonnull off, 3)) (ht : (pc : Int) + off = (tgt : Int)) (k : sv_J E X wd sz ce sl tgt lv st) : sv_J E X wd sz ce sl pc lv (.ref x :: st) := by
  obtain ⟨p, l, e, R, s, m, args, below, meth, c, Q, A, nL⟩ := X
  exact fun H locs ls h1 h2 h3 h4 h5 => lv_ifnonnull C.1.1 C.1.2.1 hd ht (k H locs ls h1 h2 h3 h4 h5)
theorem sv_ifnull {x : Nat} {off : Int} (C : sv_C E X cc own sx) (hd : decode cc pc = .ok (.ifnull off, 3)) (k : sv_J E X wd sz ce sl (pc + 3) lv st) : sv_J E X wd sz ce sl pc lv (.ref x :: st) := by
  obtain ⟨p, l, e, R, s, m, args, below, meth, c, Q, A, nL⟩ := X
  exact fun H locs ls h1 h2 h3 h4 h5 => lv_ifnull C.1.1 C.1.2.1 hd (k H locs ls h1 h2 h3 h4 h5)
theorem sv_ifnullN {off : Int} {tgt : Nat} (C : sv_C E X cc own sx) (hd : decode cc pc = .ok (.ifnull off, 3)) (ht : (pc : Int) + off = (tgt : Int)) (k : sv_J E X wd sz ce sl tgt lv st) : sv_J E X wd sz ce sl pc lv (.null :: st) := by
  obtain ⟨p, l, e, R, s, m, args, below, meth, c, Q, A, nL⟩ := X
  exact fun H locs ls h1 h2 h3 h4 h5 => lv_ifnullN C.1.1 C.1.2.1 hd ht (k H locs ls h1 h2 h3 h4 h5)
theorem sv_ifnonnullN {off : Int} (C : sv_C E X cc own sx) (hd : decode cc pc = .ok (.ifnonnull off, 3)) (k : sv_J E X wd sz ce sl (pc + 3) lv st) : sv_J E X wd sz ce sl pc lv (.null :: st) := by
  obtain ⟨p, l, e, R, s, m, args, below, meth, c, Q, A, nL⟩ := X
  exact fun H locs ls h1 h2 h3 h4 h5 => lv_ifnonnullN C.1.1 C.1.2.1 hd (k H locs ls h1 h2 h3 h4 h5)
theorem sv_aload_nN {j : Fin 4} {i : Nat} (q : Nat) (C : sv_C E X cc own sx) (hd : decode cc pc = .ok (.aload_n j, 1)) (hi : (j : Nat) = i) (hl : lv[q]? = some (i, .null)) (k : sv_J E X wd sz ce sl (pc + 1) lv (.null :: st)) : sv_J E X wd sz ce sl pc lv st := by
  obtain ⟨p, l, e, R, s, m, args, below, meth, c, Q, A, nL⟩ := X
  exact fun H locs ls h1 h2 h3 h4 h5 => lv_aload_nN C.1.1 C.1.2.1 hd hi (lv_at h5 q hl) (k H locs ls h1 h2 h3 h4 h5)
theorem sv_aloadN {i : Nat} (q : Nat) (C : sv_C E X cc own sx) (hd : decode cc pc = .ok (.aload i, 2)) (hl : lv[q]? = some (i, .null)) (k : sv_J E X wd sz ce sl (pc + 2) lv (.null :: st)) : sv_J E X wd sz ce sl pc lv st := by
  obtain ⟨p, l, e, R, s, m, args, below, meth, c, Q, A, nL⟩ := X
  exact fun H locs ls h1 h2 h3 h4 h5 => lv_aloadN C.1.1 C.1.2.1 hd (lv_at h5 q hl) (k H locs ls h1 h2 h3 h4 h5)
theorem sv_astore_nN {j : Fin 4} {i : Nat} (C : sv_C E X cc own sx) (hd : decode cc pc = .ok (.astore_n j, 1)) (hi : (j : Nat) = i) (hn : i < sv_nL X) (hl : (i, Value.null) :: lv.filter (fun q => !(q.1 == i) && !(q.1 + 1 == i && q.2.category == 2)) = lv') (k : sv_J E X wd sz ce sl (pc + 1) lv' st) : sv_J E X wd sz ce sl pc lv (.null :: st) := by
  obtain ⟨p, l, e, R, s, m, args, below, meth, c, Q, A, nL⟩ := X
  exact fun H locs ls h1 h2 h3 h4 h5 => lv_astore_nN C.1.1 C.1.2.1 hd hi h5 hn hl (fun ls' h5 => k H locs ls' h1 h2 h3 h4 h5)
theorem sv_astoreN {i : Nat} (C : sv_C E X cc own sx) (hd : decode cc pc = .ok (.astore i, 2)) (hn : i < sv_nL X) (hl : (i, Value.null) :: lv.filter (fun q => !(q.1 == i) && !(q.1 + 1 == i && q.2.category == 2)) = lv') (k : sv_J E X wd sz ce sl (pc + 2) lv' st) : sv_J E X wd sz ce sl pc lv (.null :: st) := by
  obtain ⟨p, l, e, R, s, m, args, below, meth, c, Q, A, nL⟩ := X
  exact fun H locs ls h1 h2 h3 h4 h5 => lv_astoreN C.1.1 C.1.2.1 hd h5 hn hl (fun ls' h5 => k H locs ls' h1 h2 h3 h4 h5)
theorem sv_lsw {dflt : Int} {ps : Array (Int × Int)} {len : Nat} {x : Int32} {off : Int} {tgt : Nat} (C : sv_C E X cc own sx) (hd : decode cc pc = .ok (.lookupswitch dflt ps, len)) (hp : (ps.toList.zip (ps.toList.drop 1)).all (fun (a, next) => a.1 < next.1) = true) (ho : Op.lookupswitch.offset ps.toList dflt x.toInt = off) (ht : (pc : Int) + off = (tgt : Int)) (k : sv_J E X wd sz ce sl tgt lv st) : sv_J E X wd sz ce sl pc lv (.int x :: st) := by
  obtain ⟨p, l, e, R, s, m, args, below, meth, c, Q, A, nL⟩ := X
  exact fun H locs ls h1 h2 h3 h4 h5 => lv_lookup C.1.1 C.1.2.1 hd hp ho ht (k H locs ls h1 h2 h3 h4 h5)
end SVF
end
section
/-! ===== the class's world: a heap by addresses. gh_T: addresses, kinds, references, lengths, rows of references; gh_V: int fields (slot, address), rows of numbers ===== -/
abbrev gh_T : Type := List Nat × (Nat → Nat) × (Nat → Nat → Option Nat) × (Nat → Nat) × (Nat → Nat → Option Nat)
abbrev gh_V : Type := (Nat → Nat → Int32) × (Nat → Nat → Int32)
/-- how many fields; which are references, and to what kind (kinds 0 .. 8: the classes of vwCl; 9 byte[], 10 int[], 12 BitRow[], 13 Vessel[]) -/
def gh_n (c : Nat) : Nat := match c with
  | 0 => 3 | 1 => 4 | 2 => 2 | 3 => 3 | 4 => 2 | 5 => 6 | 6 => 2 | 7 => 3 | 8 => 10 | _ => 0
def gh_rk (c k : Nat) : Option Nat := match c, k with
  | 0, 1 => some 10
  | 1, 0 => some 9 | 1, 1 => some 10
  | 2, 0 => some 13
  | 3, 0 => some 12 | 3, 1 => some 10 | 3, 2 => some 10
  | 4, 0 => some 10 | 4, 1 => some 10
  | 5, 0 => some 9
  | 6, 0 => some 9
  | 7, 0 => some 10 | 7, 1 => some 10 | 7, 2 => some 9
  | 8, 0 => some 10 | 8, 1 => some 6 | 8, 2 => some 6 | 8, 3 => some 5 | 8, 4 => some 1 | 8, 5 => some 4 | 8, 6 => some 3 | 8, 7 => some 0 | 8, 8 => some 2 | 8, 9 => some 0
  | _, _ => none
def gh_fs (c : Nat) (I : Nat → Int32) (R : Nat → Option Nat) : List Value := (List.range (gh_n c)).map (fun k => if (gh_rk c k).isSome = true then va_rf (R k) else .int (I k))
def gh_cell (E : sv_E) (T : gh_T) (V : gh_V) (a : Nat) : va_E :=
  if T.2.1 a < 9 then .inr (T.2.1 a, gh_fs (T.2.1 a) (fun k => V.1 k a) (fun k => T.2.2.1 k a))
  else if T.2.1 a < 12 then .inl (E.2.1 (T.2.1 a - 9), T.2.2.2.1 a, .inl (V.2 a))
  else .inl (E.2.1 (T.2.1 a - 8), T.2.2.2.1 a, .inr (.inr (.inr (.inr (T.2.2.2.2 a)))))
def gh_w (E : sv_E) (T : gh_T) (V : gh_V) : va_W := va_pl T.1 (gh_cell E T V)
/-- an address of a kind -/
def gh_is (T : gh_T) (a c : Nat) : Prop := a ∈ T.1 ∧ T.2.1 a = c
def gh_isb (T : gh_T) (a c : Nat) : Bool := decide (a ∈ T.1) && decide (T.2.1 a = c)
theorem gh_isb_is {T : gh_T} {a c : Nat} (h : gh_isb T a c = true) : gh_is T a c := by
  simp only [gh_isb, Bool.and_eq_true, decide_eq_true_eq] at h
  exact h
/-- references are of the kinds that the classes say -/
def gh_ok (T : gh_T) : Prop := (∀ a c k d b, gh_is T a c → gh_rk c k = some d → T.2.2.1 k a = some b → gh_is T b d) ∧ (∀ a i b, gh_is T a 12 → T.2.2.2.2 a i = some b → gh_is T b 0) ∧ (∀ a i b, gh_is T a 13 → T.2.2.2.2 a i = some b → gh_is T b 7)
def gh_pf (V : gh_V) (k a : Nat) (v : Int32) : gh_V := (fun j x => if j = k ∧ x = a then v else V.1 j x, V.2)
def gh_pa (V : gh_V) (a : Nat) (i v : Int32) : gh_V := (V.1, fun x => if x = a then upd (V.2 a) i.toNatClampNeg v else V.2 x)
theorem gh_get {E : sv_E} {T : gh_T} {V : gh_V} {a : Nat} (h : a ∈ T.1) : ∃ k : Nat, (gh_w E T V)[k]? = some (a, gh_cell E T V a) := by
  obtain ⟨k, hk⟩ := va_pl_get (X := []) (f := gh_cell E T V) h
  exact ⟨k, hk⟩
theorem gh_obj {E : sv_E} {T : gh_T} {V : gh_V} {a c : Nat} (h : gh_is T a c) (hc : c < 9) : ∃ k : Nat, (gh_w E T V)[k]? = some (a, .inr (c, gh_fs c (fun k => V.1 k a) (fun k => T.2.2.1 k a))) := by
  obtain ⟨k, hk⟩ := gh_get (E := E) (V := V) h.1
  refine ⟨k, hk.trans ?_⟩
  unfold gh_cell
  rw [h.2, if_pos hc]
theorem gh_arr {E : sv_E} {T : gh_T} {V : gh_V} {a c : Nat} (h : gh_is T a c) (hc : ¬ c < 9) (hc2 : c < 12) : ∃ k : Nat, (gh_w E T V)[k]? = some (a, .inl (E.2.1 (c - 9), T.2.2.2.1 a, .inl (V.2 a))) := by
  obtain ⟨k, hk⟩ := gh_get (E := E) (V := V) h.1
  refine ⟨k, hk.trans ?_⟩
  unfold gh_cell
  rw [h.2, if_neg hc, if_pos hc2]
theorem gh_arq {E : sv_E} {T : gh_T} {V : gh_V} {a c : Nat} (h : gh_is T a c) (hc2 : ¬ c < 12) : ∃ k : Nat, (gh_w E T V)[k]? = some (a, .inl (E.2.1 (c - 8), T.2.2.2.1 a, .inr (.inr (.inr (.inr (T.2.2.2.2 a)))))) := by
  obtain ⟨k, hk⟩ := gh_get (E := E) (V := V) h.1
  refine ⟨k, hk.trans ?_⟩
  unfold gh_cell
  rw [h.2, if_neg (by omega), if_neg hc2]
/-- two addresses of a world are apart: a cell is set where it lies -/
theorem gh_setw {E : sv_E} {T T' : gh_T} {V V' : gh_V} {A : Nat → Prop} {a k : Nat} {e e' : va_E} (hD : va_D A (gh_w E T V)) (hL : T'.1 = T.1) (ha : (gh_w E T V)[k]? = some (a, e')) (h1 : gh_cell E T' V' a = e) (h2 : ∀ b, b ≠ a → gh_cell E T' V' b = gh_cell E T V b) : (gh_w E T V).set k (a, e) = gh_w E T' V' := by
  apply List.ext_getElem?
  intro j
  rw [List.getElem?_set]
  have hl := (List.getElem?_eq_some_iff.mp ha).1
  by_cases hj : k = j
  · subst hj
    rw [if_pos rfl, if_pos hl]
    have h3 : (gh_w E T V)[k]? = (T.1[k]?).map (fun x => (x, gh_cell E T V x)) := by simp [gh_w, va_pl]
    rw [h3] at ha
    have h4 : (gh_w E T' V')[k]? = (T.1[k]?).map (fun x => (x, gh_cell E T' V' x)) := by simp [gh_w, va_pl, hL]
    rw [h4]
    cases hq : T.1[k]? with
    | none => rw [hq] at ha; cases ha
    | some x =>
      rw [hq] at ha
      have hx : x = a := (Prod.mk.inj (Option.some.inj ha)).1
      subst hx
      simp [h1]
  · rw [if_neg hj]
    have h3 : (gh_w E T V)[j]? = (T.1[j]?).map (fun x => (x, gh_cell E T V x)) := by simp [gh_w, va_pl]
    have h4 : (gh_w E T' V')[j]? = (T.1[j]?).map (fun x => (x, gh_cell E T' V' x)) := by simp [gh_w, va_pl, hL]
    rw [h3, h4]
    cases hq : T.1[j]? with
    | none => rfl
    | some x =>
      have hx : x ≠ a := fun e1 => by
        subst e1
        exact hj (hD.1 k j (x, e') (x, gh_cell E T V x) ha (h3.trans (by rw [hq]; rfl)) rfl)
      simp [h2 x hx]
theorem gh_fs_l {c : Nat} {I : Nat → Int32} {R : Nat → Option Nat} : (gh_fs c I R).length = gh_n c := by simp [gh_fs]
theorem gh_fs_i {c k : Nat} {I : Nat → Int32} {R : Nat → Option Nat} (h : gh_rk c k = none) (hk : k < gh_n c) : (gh_fs c I R)[k]? = some (.int (I k)) := by
  simp [gh_fs, List.getElem?_map, List.getElem?_range hk, h]
theorem gh_fs_r {c k d : Nat} {I : Nat → Int32} {R : Nat → Option Nat} (h : gh_rk c k = some d) (hk : k < gh_n c) : (gh_fs c I R)[k]? = some (va_rf (R k)) := by
  simp [gh_fs, List.getElem?_map, List.getElem?_range hk, h]
theorem gh_fs_s {c k : Nat} {I I' : Nat → Int32} {R R' : Nat → Option Nat} {v : Value} (hk : k < gh_n c) (h1 : (if (gh_rk c k).isSome = true then va_rf (R' k) else .int (I' k)) = v) (h2 : ∀ j, j ≠ k → I' j = I j ∧ R' j = R j) : (gh_fs c I R).set k v = gh_fs c I' R' := by
  apply List.ext_getElem?
  intro j
  rw [List.getElem?_set]
  by_cases hj : k = j
  · subst hj
    rw [if_pos rfl, if_pos (by rw [gh_fs_l]; exact hk)]
    simp only [gh_fs, List.getElem?_map, List.getElem?_range hk, Option.map_some]
    rw [h1]
  · rw [if_neg hj]
    simp only [gh_fs, List.getElem?_map]
    by_cases hk2 : j < gh_n c
    · rw [List.getElem?_range hk2]
      simp only [Option.map_some]
      rw [(h2 j (Ne.symm hj)).1, (h2 j (Ne.symm hj)).2]
    · simp [hk2]
section GHR
variable {E : sv_E} {X : sv_X} {cc : ByteArray} {own : String} {sx : List (Nat × Nat × List Int32)} {T : gh_T} {V : gh_V} {sz ce sl pc : Nat} {lv lv' : List (Nat × Value)} {st : List Value}
/-- the world is apart: taken out of the judgement -/
theorem sv_withD {wd : va_W} (h : (∃ A, va_D A wd) → sv_J E X wd sz ce sl pc lv st) : sv_J E X wd sz ce sl pc lv st := by
  obtain ⟨p, l, e, R, s, m, args, below, meth, c, Q, A, nL⟩ := X
  exact fun H locs ls h1 h2 h3 h4 h5 => h ⟨A, h3⟩ H locs ls h1 h2 h3 h4 h5
theorem gh_geti {index c k a : Nat} {fin : Bool} {ty : FieldType} (C : sv_C E X cc own sx) (hF : sv_FL own index c k fin ty) (o : gh_is T a c) (hc : c < 9) (hk : (decide (gh_rk c k = none) && decide (k < gh_n c)) = true) (hd : decode cc pc = .ok (.getfield index, 3)) (kk : sv_J E X (gh_w E T V) sz ce sl (pc + 3) lv (.int (V.1 k a) :: st)) : sv_J E X (gh_w E T V) sz ce sl pc lv (.ref a :: st) := by
  simp only [Bool.and_eq_true, decide_eq_true_eq] at hk
  obtain ⟨q, hq⟩ := gh_obj (E := E) (V := V) o hc
  exact sv_getf C hF q hq (gh_fs_i hk.1 hk.2) hd kk
/-- a reference that is there -/
theorem gh_getr {index c k d a b : Nat} {fin : Bool} {ty : FieldType} (C : sv_C E X cc own sx) (hF : sv_FL own index c k fin ty) (o : gh_is T a c) (hc : c < 9) (hk : (decide (gh_rk c k = some d) && decide (k < gh_n c)) = true) (hb : T.2.2.1 k a = some b) (hd : decode cc pc = .ok (.getfield index, 3)) (kk : sv_J E X (gh_w E T V) sz ce sl (pc + 3) lv (.ref b :: st)) : sv_J E X (gh_w E T V) sz ce sl pc lv (.ref a :: st) := by
  simp only [Bool.and_eq_true, decide_eq_true_eq] at hk
  obtain ⟨q, hq⟩ := gh_obj (E := E) (V := V) o hc
  exact sv_getf C hF q hq (v := .ref b) ((gh_fs_r hk.1 hk.2).trans (by rw [hb]; rfl)) hd kk
theorem gh_puti {index c k a : Nat} {ty : FieldType} {v : Int32} (C : sv_C E X cc own sx) (hF : sv_FL own index c k false ty) (o : gh_is T a c) (hc : c < 9) (hk : (decide (gh_rk c k = none) && decide (k < gh_n c)) = true) (hn : narrow ty (.int v) = .int v) (hfit : fits ty (.int v) = true) (hd : decode cc pc = .ok (.putfield index, 3)) (kk : sv_J E X (gh_w E T (gh_pf V k a v)) sz ce sl (pc + 3) lv st) : sv_J E X (gh_w E T V) sz ce sl pc lv (.int v :: .ref a :: st) := by
  simp only [Bool.and_eq_true, decide_eq_true_eq] at hk
  obtain ⟨q, hq⟩ := gh_obj (E := E) (V := V) o hc
  refine sv_withD (fun ⟨A, hD⟩ => ?_)
  refine sv_putf C hF q hq hn hfit (by rw [gh_fs_l]; exact hk.2) hd ?_
  rw [gh_setw (T' := T) (V' := gh_pf V k a v) hD rfl hq (e := .inr (c, (gh_fs c (fun k => V.1 k a) (fun k => T.2.2.1 k a)).set k (.int v))) ?_ ?_]
  · exact kk
  · unfold gh_cell
    rw [o.2, if_pos hc]
    congr 2
    exact (gh_fs_s hk.2 (by rw [hk.1]; simp [gh_pf]) (fun j hj => ⟨by simp [gh_pf, hj], rfl⟩)).symm
  · intro b hb
    have : ∀ k', (gh_pf V k a v).1 k' b = V.1 k' b := fun k' => by simp [gh_pf, hb]
    simp only [gh_cell, this]
    rfl
theorem gh_iald {a : Nat} {i : Int32} (C : sv_C E X cc own sx) (o : gh_is T a 10) (hin : sv_inb i (T.2.2.2.1 a) = true) (hd : decode cc pc = .ok (.iaload, 1)) (kk : sv_J E X (gh_w E T V) sz ce sl (pc + 1) lv (.int (V.2 a i.toNatClampNeg) :: st)) : sv_J E X (gh_w E T V) sz ce sl pc lv (.int i :: .ref a :: st) := by
  obtain ⟨q, hq⟩ := gh_arr (E := E) (V := V) o (by decide) (by decide)
  exact sv_iald C q hq hin hd kk
theorem gh_bald {a : Nat} {i : Int32} (C : sv_C E X cc own sx) (o : gh_is T a 9) (hin : sv_inb i (T.2.2.2.1 a) = true) (hd : decode cc pc = .ok (.baload, 1)) (kk : sv_J E X (gh_w E T V) sz ce sl (pc + 1) lv (.int (V.2 a i.toNatClampNeg) :: st)) : sv_J E X (gh_w E T V) sz ce sl pc lv (.int i :: .ref a :: st) := by
  obtain ⟨q, hq⟩ := gh_arr (E := E) (V := V) o (by decide) (by decide)
  exact sv_bald C q hq hin hd kk
theorem gh_aald {a c t0 : Nat} {K : String} {i : Int32} (C : sv_C E X cc own sx) (o : gh_is T a c) (hc : ¬ c < 12) (ht : (sv_tys E)[t0]? = some (E.2.1 (c - 8), .object K)) (hin : sv_inb i (T.2.2.2.1 a) = true) (hd : decode cc pc = .ok (.aaload, 1)) (kk : sv_J E X (gh_w E T V) sz ce sl (pc + 1) lv (va_rf (T.2.2.2.2 a i.toNatClampNeg) :: st)) : sv_J E X (gh_w E T V) sz ce sl pc lv (.int i :: .ref a :: st) := by
  obtain ⟨q, hq⟩ := gh_arq (E := E) (V := V) o hc
  exact sv_aald C q ht hq hin hd kk
theorem gh_alen {a c : Nat} (C : sv_C E X cc own sx) (o : gh_is T a c) (hc : c = 9 ∨ c = 10) (hd : decode cc pc = .ok (.arraylength, 1)) (kk : sv_J E X (gh_w E T V) sz ce sl (pc + 1) lv (.int (Int32.ofNat (T.2.2.2.1 a)) :: st)) : sv_J E X (gh_w E T V) sz ce sl pc lv (.ref a :: st) := by
  rcases hc with rfl | rfl
  · obtain ⟨q, hq⟩ := gh_arr (E := E) (V := V) o (by decide) (by decide)
    exact sv_alen C q (t0 := 0) rfl hq hd kk
  · obtain ⟨q, hq⟩ := gh_arr (E := E) (V := V) o (by decide) (by decide)
    exact sv_alen C q (t0 := 1) rfl hq hd kk
theorem gh_iast {a : Nat} {i x : Int32} (C : sv_C E X cc own sx) (o : gh_is T a 10) (hin : sv_inb i (T.2.2.2.1 a) = true) (hd : decode cc pc = .ok (.iastore, 1)) (kk : sv_J E X (gh_w E T (gh_pa V a i x)) sz ce sl (pc + 1) lv st) : sv_J E X (gh_w E T V) sz ce sl pc lv (.int x :: .int i :: .ref a :: st) := by
  obtain ⟨q, hq⟩ := gh_arr (E := E) (V := V) o (by decide) (by decide)
  refine sv_withD (fun ⟨A, hD⟩ => ?_)
  refine sv_iast C q hq hin hd ?_
  rw [gh_setw (T' := T) (V' := gh_pa V a i x) hD rfl hq]
  · exact kk
  · unfold gh_cell
    rw [o.2]
    simp [gh_pa]
  · intro b hb
    simp [gh_cell, gh_pa, hb]
theorem gh_bast {a : Nat} {i x : Int32} (C : sv_C E X cc own sx) (o : gh_is T a 9) (hin : sv_inb i (T.2.2.2.1 a) = true) (hd : decode cc pc = .ok (.bastore, 1)) (kk : sv_J E X (gh_w E T (gh_pa V a i (vp_nar .byte x))) sz ce sl (pc + 1) lv st) : sv_J E X (gh_w E T V) sz ce sl pc lv (.int x :: .int i :: .ref a :: st) := by
  obtain ⟨q, hq⟩ := gh_arr (E := E) (V := V) o (by decide) (by decide)
  refine sv_withD (fun ⟨A, hD⟩ => ?_)
  refine sv_bast C q hq hin hd ?_
  rw [gh_setw (T' := T) (V' := gh_pa V a i (vp_nar .byte x)) hD rfl hq]
  · exact kk
  · unfold gh_cell
    rw [o.2]
    simp [gh_pa]
  · intro b hb
    simp [gh_cell, gh_pa, hb]
variable {sx' : List (Nat × Nat × List Int32)} {wd' : va_W} {sz' : Nat} {rest : List Value}
variable {index : Nat} {y : MethodName} {cb : ByteArray} {mL : Nat} {rt : Option FieldType} {n fr lo : Nat} {As : List Value} {b : Nat} {res : Option Value} {mc ms : Nat}
theorem gh_callV {c : Nat} (C : sv_C E X cc own sx) (L : sv_MV own index y cb mL rt n) (M : sv_Met (sv_l X) E y cb mL rt fr lo sx' (.ref b :: As) (gh_w E T V) sz res wd' sz' mc ms) (hsx : sv_sxs E sx sx') (o : gh_is T b c) (hc9 : c < 9) (hc : (vwCl[c]?).map (fun q => q.1) = some y.cls) (hn : As.length = n) (hst : st = As.reverse ++ .ref b :: rest) (hw : (rest.map fun v => v.category).sum ≤ 8)
    (hR : fr + 1 ≤ (sv_R X).frames ∧ 8 + (mL + 11) + lo ≤ (sv_R X).locals) (hcs : ce + mc ≤ (sv_R X).cells ∧ sl + ms ≤ (sv_R X).slots) (hd : decode cc pc = .ok (.invokevirtual index, 3)) (kk : sv_J E X wd' sz' (ce + mc) (sl + ms) (pc + 3) lv (res.toList ++ rest)) : sv_J E X (gh_w E T V) sz ce sl pc lv st := by
  obtain ⟨q, hq⟩ := gh_obj (E := E) (V := V) o hc9
  exact sv_callV C L M hsx q hq hc hn hst hw hR hcs hd kk
theorem gh_callV0 {c : Nat} (C : sv_C E X cc own sx) (L : sv_MV own index y cb mL rt n) (M : sv_Met (sv_l X) E y cb mL rt fr lo sx' (.ref b :: As) (gh_w E T V) sz res wd' sz' 0 0) (hsx : sv_sxs E sx sx') (o : gh_is T b c) (hc9 : c < 9) (hc : (vwCl[c]?).map (fun q => q.1) = some y.cls) (hn : As.length = n) (hst : st = As.reverse ++ .ref b :: rest) (hw : (rest.map fun v => v.category).sum ≤ 8)
    (hR : fr + 1 ≤ (sv_R X).frames ∧ 8 + (mL + 11) + lo ≤ (sv_R X).locals) (hcs : ce ≤ (sv_R X).cells ∧ sl ≤ (sv_R X).slots) (hd : decode cc pc = .ok (.invokevirtual index, 3)) (kk : sv_J E X wd' sz' ce sl (pc + 3) lv (res.toList ++ rest)) : sv_J E X (gh_w E T V) sz ce sl pc lv st := by
  obtain ⟨q, hq⟩ := gh_obj (E := E) (V := V) o hc9
  exact sv_callV C L M hsx q hq hc hn hst hw hR hcs hd kk
end GHR
theorem gh_okr {T : gh_T} {a c k d b : Nat} (h : gh_ok T) (o : gh_is T a c) (hk : gh_rk c k = some d) (hb : T.2.2.1 k a = some b) : gh_is T b d := h.1 a c k d b o hk hb
/-! ===== static arrays, strings: cells outside the world ===== -/
section GSR
variable {E : sv_E} {X : sv_X} {cc : ByteArray} {own : String} {sx : List (Nat × Nat × List Int32)} {wd : va_W} {sz ce sl pc : Nat} {lv lv' : List (Nat × Value)} {st : List Value}
theorem gs_get {index j : Nat} {w : String × String × List Int32} (C : sv_C E X cc own sx) (hj : sv_sta[j]? = some w) (hw : Cond.fieldLink own index w.1 w.2.1 "[I" ∈ sv_w) (hd : decode cc pc = .ok (.getstatic index, 3)) (kk : sv_J E X wd sz ce sl (pc + 3) lv (.ref (E.2.2.2.2 j) :: st)) : sv_J E X wd sz ce sl pc lv st := by
  obtain ⟨p, l, e, R, s, m, args, below, meth, c, Q, A, nL⟩ := X
  exact fun H locs ls h1 h2 h3 h4 h5 => va_gets C.1.1 C.1.2.1 (C.2.2.2.2.1.2.1 j w hj).1 h4 C.1.2.2.2.1 (C.1.2.2.2.2 _ hw) (fun _ h => h) hd (kk H locs ls h1 h2 h3 h4 h5)
theorem gs_alen {j : Nat} {w : String × String × List Int32} (C : sv_C E X cc own sx) (hj : sv_sta[j]? = some w) (hd : decode cc pc = .ok (.arraylength, 1)) (kk : sv_J E X wd sz ce sl (pc + 1) lv (.int (Int32.ofNat w.2.2.length) :: st)) : sv_J E X wd sz ce sl pc lv (.ref (E.2.2.2.2 j) :: st) := by
  obtain ⟨p, l, e, R, s, m, args, below, meth, c, Q, A, nL⟩ := X
  exact fun H locs ls h1 h2 h3 h4 h5 => va_tlen C.1.1 C.1.2.1 (C.2.2.2.2.1.2.1 j w hj).2 h4 rfl hd (kk H locs ls h1 h2 h3 h4 h5)
theorem gs_iald {j : Nat} {w : String × String × List Int32} {i : Int32} (C : sv_C E X cc own sx) (hj : sv_sta[j]? = some w) (hin : sv_inb i w.2.2.length = true) (hd : decode cc pc = .ok (.iaload, 1)) (kk : sv_J E X wd sz ce sl (pc + 1) lv (.int (w.2.2.getD i.toNatClampNeg 0) :: st)) : sv_J E X wd sz ce sl pc lv (.int i :: .ref (E.2.2.2.2 j) :: st) := by
  obtain ⟨p, l, e, R, s, m, args, below, meth, c, Q, A, nL⟩ := X
  exact fun H locs ls h1 h2 h3 h4 h5 => va_ti C.1.1 C.1.2.1 (C.2.2.2.2.1.2.1 j w hj).2 h4 (sv_inb_in hin) rfl hd (kk H locs ls h1 h2 h3 h4 h5)
variable {k v : Nat} {t : List Int32}
theorem ss_compact {index : Nat} (C : sv_C E X cc own sx) (hw : Cond.fieldLink own index "java/lang/String" "COMPACT_STRINGS" "Z" ∈ sv_w) (hd : decode cc pc = .ok (.getstatic index, 3)) (kk : sv_J E X wd sz ce sl (pc + 3) lv (.int 1 :: st)) : sv_J E X wd sz ce sl pc lv st := by
  obtain ⟨p, l, e, R, s, m, args, below, meth, c, Q, A, nL⟩ := X
  exact fun H locs ls h1 h2 h3 h4 h5 => va_gets C.1.1 C.1.2.1 C.2.2.2.2.1.2.2.1 h4 C.1.2.2.2.1 (C.1.2.2.2.2 _ hw) (fun _ h => h) hd (kk H locs ls h1 h2 h3 h4 h5)
/-- the formatter of the JDK's checks: some reference, or null -/
theorem ss_fmt {index : Nat} (C : sv_C E X cc own sx) (hw : Cond.fieldLink own index "jdk/internal/util/Preconditions" "SIOOBE_FORMATTER" "Ljava/util/function/BiFunction;" ∈ sv_w) (hd : decode cc pc = .ok (.getstatic index, 3)) (kn : sv_J E X wd sz ce sl (pc + 3) lv (.null :: st)) (kk : ∀ a : Nat, sv_J E X wd sz ce sl (pc + 3) lv (.ref a :: st)) : sv_J E X wd sz ce sl pc lv st := by
  obtain ⟨p, l, e, R, s, m, args, below, meth, c, Q, A, nL⟩ := X
  rcases C.2.2.2.2.1.2.2.2.1 with hz | ⟨a, hz⟩
  · exact fun H locs ls h1 h2 h3 h4 h5 => va_gets C.1.1 C.1.2.1 hz h4 C.1.2.2.2.1 (C.1.2.2.2.2 _ hw) (fun _ h => h) hd (kn H locs ls h1 h2 h3 h4 h5)
  · exact fun H locs ls h1 h2 h3 h4 h5 => va_gets C.1.1 C.1.2.1 hz h4 C.1.2.2.2.1 (C.1.2.2.2.2 _ hw) (fun _ h => h) hd (kk a H locs ls h1 h2 h3 h4 h5)
theorem ss_coder {index : Nat} (C : sv_C E X cc own sx) (hx : (k, v, t) ∈ sx) (hw : Cond.fieldLink own index "java/lang/String" "coder" "B" ∈ sv_w) (hd : decode cc pc = .ok (.getfield index, 3)) (kk : sv_J E X wd sz ce sl (pc + 3) lv (.int 0 :: st)) : sv_J E X wd sz ce sl pc lv (.ref k :: st) := by
  obtain ⟨p, l, e, R, s, m, args, below, meth, c, Q, A, nL⟩ := X
  exact fun H locs ls h1 h2 h3 h4 h5 => vk_getf C.1.1 C.1.2.1 (C.2.2.2.2.2 _ hx).2.1 h4 C.1.2.2.2.1 (C.1.2.2.2.2 _ hw) (fun _ h => h) hd (kk H locs ls h1 h2 h3 h4 h5)
theorem ss_value {index : Nat} (C : sv_C E X cc own sx) (hx : (k, v, t) ∈ sx) (hw : Cond.fieldLink own index "java/lang/String" "value" "[B" ∈ sv_w) (hd : decode cc pc = .ok (.getfield index, 3)) (kk : sv_J E X wd sz ce sl (pc + 3) lv (.ref v :: st)) : sv_J E X wd sz ce sl pc lv (.ref k :: st) := by
  obtain ⟨p, l, e, R, s, m, args, below, meth, c, Q, A, nL⟩ := X
  exact fun H locs ls h1 h2 h3 h4 h5 => vk_getf C.1.1 C.1.2.1 (C.2.2.2.2.2 _ hx).2.2.1 h4 C.1.2.2.2.1 (C.1.2.2.2.2 _ hw) (fun _ h => h) hd (kk H locs ls h1 h2 h3 h4 h5)
theorem ss_alen (C : sv_C E X cc own sx) (hx : (k, v, t) ∈ sx) (hd : decode cc pc = .ok (.arraylength, 1)) (kk : sv_J E X wd sz ce sl (pc + 1) lv (.int (Int32.ofNat t.length) :: st)) : sv_J E X wd sz ce sl pc lv (.ref v :: st) := by
  obtain ⟨p, l, e, R, s, m, args, below, meth, c, Q, A, nL⟩ := X
  exact fun H locs ls h1 h2 h3 h4 h5 => va_tlen C.1.1 C.1.2.1 (C.2.2.2.2.2 _ hx).2.2.2 h4 rfl hd (kk H locs ls h1 h2 h3 h4 h5)
theorem ss_bald {i : Int32} (C : sv_C E X cc own sx) (hx : (k, v, t) ∈ sx) (hin : sv_inb i t.length = true) (hd : decode cc pc = .ok (.baload, 1)) (kk : sv_J E X wd sz ce sl (pc + 1) lv (.int (t.getD i.toNatClampNeg 0) :: st)) : sv_J E X wd sz ce sl pc lv (.int i :: .ref v :: st) := by
  obtain ⟨p, l, e, R, s, m, args, below, meth, c, Q, A, nL⟩ := X
  exact fun H locs ls h1 h2 h3 h4 h5 => va_tb C.1.1 C.1.2.1 (C.2.2.2.2.2 _ hx).2.2.2 h4 (sv_inb_in hin) rfl hd (kk H locs ls h1 h2 h3 h4 h5)
variable {sx' : List (Nat × Nat × List Int32)} {wd' : va_W} {sz' : Nat} {rest : List Value}
variable {index : Nat} {y : MethodName} {cb : ByteArray} {mL : Nat} {rt : Option FieldType} {n fr lo : Nat} {As : List Value} {res : Option Value}
/-- invokevirtual on a String -/
theorem ss_callV (C : sv_C E X cc own sx) (L : sv_MV own index y cb mL rt n) (M : sv_Met (sv_l X) E y cb mL rt fr lo sx' (.ref k :: As) wd sz res wd' sz' 0 0) (hsx : sv_sxs E sx sx') (hx : (k, v, t) ∈ sx') (hc : y.cls = "java/lang/String") (hn : As.length = n) (hst : st = As.reverse ++ .ref k :: rest) (hw : (rest.map fun v => v.category).sum ≤ 8)
    (hR : fr + 1 ≤ (sv_R X).frames ∧ 8 + (mL + 11) + lo ≤ (sv_R X).locals) (hcs : ce ≤ (sv_R X).cells ∧ sl ≤ (sv_R X).slots) (hd : decode cc pc = .ok (.invokevirtual index, 3)) (kk : sv_J E X wd' sz' ce sl (pc + 3) lv (res.toList ++ rest)) : sv_J E X wd sz ce sl pc lv st := by
  obtain ⟨p, l, e, R, s, m, args, below, meth, c, Q, A, nL⟩ := X
  obtain ⟨S, hK, hlk, hA, hE, hX⟩ := C
  intro H locs ls g1 hP hD hS g5
  subst g1
  have hf := sv_free hA hD hS
  have hrec : ∃ cell : Cell, H[k]? = some cell ∧ cell.vm.isStatics = false ∧ s.vm.findClass y.cls = some cell.cls := by
    have h1 := (sv_sxu hE hX hsx _ hx).1
    obtain ⟨cell, e1, e2, e3, -⟩ := va_O.kept (H1 := H) h1 (fun a h2 h3 => hS.2.1 a h2 h3)
    exact ⟨cell, e1, e2, by rw [hc]; exact e3⟩
  refine sv_cont (va_runV (As := As) (rest := rest) S M (cwV n S.2.2.2.2 L.1 rfl rfl rfl ⟨rfl, L.2⟩ hR) ⟨sv_blind, hrec, sv_pre (wd0 := wd) (sx := sx) hK hE (sv_sxu hE hX hsx) rfl hP hD hS hf⟩ rfl hn g5.1 hst (lv_room hw) hd hcs) hS hf (fun H1 locs1 k1 k2 k3 k4 k5 k6 => kk H1 locs1 ls k1 k2 k3 k6 g5)
end GSR
section SMM
variable {E : sv_E} {X : sv_X} {cc : ByteArray} {own : String} {sx : List (Nat × Nat × List Int32)} {wd : va_W} {sz ce sl pc : Nat} {lv lv' : List (Nat × Value)} {rest : List Value}
theorem sv_mmax {index : Nat} {x y : Int32} (C : sv_C E X cc own sx) (w1 : Cond.methodLink own index Lib.Math.max.name ∈ sv_w) (w2 : Cond.static Lib.Math.max.name ∈ sv_w) (w3 : Cond.initialized "java/lang/Math" ∈ sv_w) (w4 : Cond.code Lib.Math.max.name Lib.Math.max.code 2 (some .int) ∈ sv_w) (hr : 1 ≤ (sv_R X).frames ∧ (rest.map fun v => v.category).sum + 13 ≤ (sv_R X).locals) (hcs : ce ≤ (sv_R X).cells ∧ sl ≤ (sv_R X).slots) (hd : decode cc pc = .ok (.invokestatic index, 3)) (k : sv_J E X wd sz ce sl (pc + 3) lv (.int (if x < y then y else x) :: rest)) : sv_J E X wd sz ce sl pc lv (.int y :: .int x :: rest) := by
  obtain ⟨p, l, e, R, s, m, args, below, meth, c, Q, A, nL⟩ := X
  exact fun H locs ls h1 h2 h3 h4 h5 => va_mmax C.1.1 C.1.2.1 (C.1.2.2.1.trans h5.1.symm) C.1.2.2.2.1 (C.1.2.2.2.2 _ w1) (C.1.2.2.2.2 _ w2) (C.1.2.2.2.2 _ w3) (C.1.2.2.2.2 _ w4) hr.1 hr.2 hcs.1 hcs.2 hd (k H locs ls h1 h2 h3 h4 h5)
theorem sv_mmin {index : Nat} {x y : Int32} (C : sv_C E X cc own sx) (w1 : Cond.methodLink own index Lib.Math.min.name ∈ sv_w) (w2 : Cond.static Lib.Math.min.name ∈ sv_w) (w3 : Cond.initialized "java/lang/Math" ∈ sv_w) (w4 : Cond.code Lib.Math.min.name Lib.Math.min.code 2 (some .int) ∈ sv_w) (hr : 1 ≤ (sv_R X).frames ∧ (rest.map fun v => v.category).sum + 13 ≤ (sv_R X).locals) (hcs : ce ≤ (sv_R X).cells ∧ sl ≤ (sv_R X).slots) (hd : decode cc pc = .ok (.invokestatic index, 3)) (k : sv_J E X wd sz ce sl (pc + 3) lv (.int (if y < x then y else x) :: rest)) : sv_J E X wd sz ce sl pc lv (.int y :: .int x :: rest) := by
  obtain ⟨p, l, e, R, s, m, args, below, meth, c, Q, A, nL⟩ := X
  exact fun H locs ls h1 h2 h3 h4 h5 => va_mmin C.1.1 C.1.2.1 (C.1.2.2.1.trans h5.1.symm) C.1.2.2.2.1 (C.1.2.2.2.2 _ w1) (C.1.2.2.2.2 _ w2) (C.1.2.2.2.2 _ w3) (C.1.2.2.2.2 _ w4) hr.1 hr.2 hcs.1 hcs.2 hd (k H locs ls h1 h2 h3 h4 h5)
end SMM
section SLW
variable {E : sv_E} {X : sv_X} {cc : ByteArray} {own : String} {sx : List (Nat × Nat × List Int32)} {wd : va_W} {sz ce sl pc : Nat} {lv lv' : List (Nat × Value)} {st : List Value}
/-- a String constant by a wide index -/
theorem sv_ldcSw {index i : Nat} {tx : String} {bs : List Int32} (C : sv_C E X cc own sx) (hi : sv_strs[i]? = some (own, index, tx, bs)) (hd : decode cc pc = .ok (.ldc_w index, 3)) (k : sv_J E X wd sz ce sl (pc + 3) lv (.ref (E.2.2.1 i) :: st)) : sv_J E X wd sz ce sl pc lv st := by
  obtain ⟨p, l, e, R, s, m, args, below, meth, c, Q, A, nL⟩ := X
  intro H locs ls h1 h2 h3 h4 h5 T hT Y
  have hZ := (C.2.2.2.2.1.1 i _ hi).1
  obtain ⟨t, a1, b1⟩ := k H locs ls h1 h2 h3 h4 h5 T hT Y
  exact ⟨t, Y.ldcStringW C.1.1 C.1.2.2.2.1 (text := tx) (a := E.2.2.1 i) hZ.1 hZ.2 (g := F0 m pc ls st) rfl (by rw [C.1.2.1]; exact hd) t a1, b1⟩
end SLW
end
section
/-! ===== the heap grows: new objects, new arrays, references put; constructors called ===== -/
def gh_new (T : gh_T) (z c : Nat) : gh_T := (T.1 ++ [z], (fun x => if x = z then c else T.2.1 x), (fun k x => if x = z then none else T.2.2.1 k x), T.2.2.2.1, T.2.2.2.2)
def gh_nv (V : gh_V) (z : Nat) : gh_V := (fun k x => if x = z then 0 else V.1 k x, V.2)
def gh_newa (T : gh_T) (z c n : Nat) : gh_T := (T.1 ++ [z], (fun x => if x = z then c else T.2.1 x), T.2.2.1, (fun x => if x = z then n else T.2.2.2.1 x), (fun x i => if x = z then none else T.2.2.2.2 x i))
def gh_nva (V : gh_V) (z : Nat) : gh_V := (V.1, fun x => if x = z then (fun _ => 0) else V.2 x)
def gh_pr (T : gh_T) (k a : Nat) (r : Option Nat) : gh_T := (T.1, T.2.1, (fun j x => if j = k ∧ x = a then r else T.2.2.1 j x), T.2.2.2.1, T.2.2.2.2)
def gh_pq (T : gh_T) (a : Nat) (i : Int32) (r : Option Nat) : gh_T := (T.1, T.2.1, T.2.2.1, T.2.2.2.1, (fun x j => if x = a ∧ j = i.toNatClampNeg then r else T.2.2.2.2 x j))
section GRW
variable {E : sv_E} {X : sv_X} {cc : ByteArray} {own : String} {sx : List (Nat × Nat × List Int32)} {wd : va_W} {sz ce sl pc : Nat} {lv lv' : List (Nat × Value)} {st : List Value}
/-- a class that can be made: its place in vwCl, its word -/
def sv_CL (own : String) (index c : Nat) (Cn : String) (N : Nat) (fs : List Value) : Prop := ∃ (T : u_T) (ty : Nat → FieldType), vwCl[c]? = some (Cn, T, N) ∧ (∀ w ∈ u_ws Cn T N, w ∈ sv_w) ∧ (∀ k, k < N → parseFieldDescriptor (T k).2.2.1 = some (ty k)) ∧ (∀ j, j < N → defaultValue (ty j) = vp_V fs j) ∧ Cond.classLink own index Cn ∈ sv_w ∧ Cond.instantiable Cn N ∈ sv_w ∧ Cond.initialized Cn ∈ sv_w
theorem sv_new {index c N : Nat} {Cn : String} {fs : List Value} (C : sv_C E X cc own sx) (hL : sv_CL own index c Cn N fs) (hcs : ce + 1 ≤ (sv_R X).cells ∧ sl + N ≤ (sv_R X).slots) (hd : decode cc pc = .ok (.new index, 3)) (kk : sv_J E X (wd ++ [(sz, .inr (c, fs))]) (sz + 1) (ce + 1) (sl + N) (pc + 3) lv (.ref sz :: st)) : sv_J E X wd sz ce sl pc lv st := by
  obtain ⟨p, l, e, R, s, m, args, below, meth, cd, Q, A, nL⟩ := X
  obtain ⟨T, ty, f1, f2, f3, f4, f5, f6, f7⟩ := hL
  obtain ⟨⟨hx, hb, hml, hown, hts⟩, hK, hlk, hA, hC⟩ := C
  intro H locs ls g1 hP hD hS g5
  have hKn := hK.1 c _ f1
  refine W.newcK hx hb hown (hts _ f5) (hts _ f6) (hts _ f7) rfl hd hcs.1 hcs.2 hKn.2.1 g1 fun H1 kC hkC e1 z1 o1 => ?_
  have hk : ∀ (k : Nat) (x : Nat × va_E), wd[k]? = some x → H1[x.1]? = H[x.1]? := fun k x hx => o1 x.1 (by rw [← g1]; exact (hP k x hx).lt)
  refine kk H1 locs ls z1 ((hP.kept hk).app (fun k x hx => ?_)) (hD.push hP g1.symm (hA _ (by rw [← g1]; exact hS.1))) ⟨Nat.le_trans hS.1 (by omega), fun x h1 h2 => (o1 x (by rw [← g1]; exact Nat.lt_of_lt_of_le h1 hS.1)).trans (hS.2.1 x h1 h2), hS.2.2⟩ g5
  have hz : k < 1 := (List.getElem?_eq_some_iff.mp hx).1
  rw [show k = 0 by omega] at hx
  cases hx
  exact ⟨_, f1, (u_born ty hts f2 hKn hkC e1 f3).to f4⟩
theorem sv_newa {n : Int32} {atype : ArrayType} {ty : FieldType} (t0 : Nat) {cA0 : ClassId} (hty : newarray.typeOf atype = ty) (hdef : defaultValue ty = .int 0) (ht : (sv_tys E)[t0]? = some (cA0, ty)) (hra : ∀ (U : State) (cA : ClassId), va_RA U cA ty → U.vm.findClass ("[" ++ ty.toString) = some cA) (C : sv_C E X cc own sx) (hw : Cond.arrayClass ty ∈ sv_w) (hn : (decide (¬ n < 0) && decide (n.toNatClampNeg * componentBytes ty ≤ 536870912)) = true) (hcs : ce + 1 ≤ (sv_R X).cells ∧ sl + n.toNatClampNeg ≤ (sv_R X).slots) (hd : decode cc pc = .ok (.newarray atype, 2)) (kk : sv_J E X (wd ++ [(sz, .inl (cA0, n.toNatClampNeg, .inl (fun _ => 0)))]) (sz + 1) (ce + 1) (sl + n.toNatClampNeg) (pc + 2) lv (.ref sz :: st)) : sv_J E X wd sz ce sl pc lv (.int n :: st) := by
  obtain ⟨p, l, e, R, s, m, args, below, meth, cd, Q, A, nL⟩ := X
  obtain ⟨⟨hx, hb, hml, hown, hts⟩, hK, hlk, hA, hC⟩ := C
  simp only [Bool.and_eq_true, decide_eq_true_eq] at hn
  subst hty
  intro H locs ls g1 hP hD hS g5
  refine va_newaK hx hb (hts _ hw) rfl hd rfl hn.1 rfl hn.2 hcs.1 hcs.2 g1 fun H1 cA e1 z1 o1 hAr hNm => ?_
  have hcA : cA = cA0 := by
    have h1 := hra s cA0 (hK.2 t0 _ ht).2
    exact Option.some.inj (hNm.symm.trans h1)
  subst hcA
  have hk : ∀ (k : Nat) (x : Nat × va_E), wd[k]? = some x → H1[x.1]? = H[x.1]? := fun k x hx => o1 x.1 (by rw [← g1]; exact (hP k x hx).lt)
  refine kk H1 locs ls z1 ((hP.kept hk).app (fun k x hx => ?_)) (hD.push hP g1.symm (hA _ (by rw [← g1]; exact hS.1))) ⟨Nat.le_trans hS.1 (by omega), fun x h1 h2 => (o1 x (by rw [← g1]; exact Nat.lt_of_lt_of_le h1 hS.1)).trans (hS.2.1 x h1 h2), hS.2.2⟩ g5
  have hz : k < 1 := (List.getElem?_eq_some_iff.mp hx).1
  rw [show k = 0 by omega] at hx
  cases hx
  show H1[sz]? = some (vp_cell _ _)
  rw [e1, vp_cell_i, hdef]
theorem sv_newq {index : Nat} {Cn : String} {n : Int32} (t0 : Nat) {cA0 : ClassId} (ht : (sv_tys E)[t0]? = some (cA0, .object Cn)) (C : sv_C E X cc own sx) (hAO : ∀ A U H, sv_En E A U H → va_AO Cn U) (hw : Cond.classLink own index Cn ∈ sv_w) (hn : (decide (¬ n < 0) && decide (n.toNatClampNeg * 4 ≤ 536870912)) = true) (hcs : ce + 1 ≤ (sv_R X).cells ∧ sl + n.toNatClampNeg ≤ (sv_R X).slots) (hd : decode cc pc = .ok (.anewarray index, 3)) (kk : sv_J E X (wd ++ [(sz, .inl (cA0, n.toNatClampNeg, .inr (.inr (.inr (.inr (fun _ => none))))))]) (sz + 1) (ce + 1) (sl + n.toNatClampNeg) (pc + 3) lv (.ref sz :: st)) : sv_J E X wd sz ce sl pc lv (.int n :: st) := by
  obtain ⟨p, l, e, R, s, m, args, below, meth, cd, Q, A, nL⟩ := X
  obtain ⟨⟨hx, hb, hml, hown, hts⟩, hK, hlk, hA, hE, hC⟩ := C
  simp only [Bool.and_eq_true, decide_eq_true_eq] at hn
  intro H locs ls g1 hP hD hS g5
  refine W.anew hx hb hown (hts _ hw) (va_AO.use (hAO _ _ _ hE)) rfl hd rfl hn.1 hn.2 hcs.1 hcs.2 fun cA kA comp f1 f2 f3 f4 => ?_
  have hcA : cA = cA0 := by
    obtain ⟨kA0, comp0, -, -, -, h1⟩ := (hK.2 t0 _ ht).2
    exact Option.some.inj (f1.symm.trans h1)
  subst hcA
  subst g1
  generalize hH1 : H.push ({ cls := cA, slots := Array.replicate n.toNatClampNeg .null, vm := .none } : Cell) = H1
  have z1 : H1.size = H.size + 1 := by rw [← hH1, Array.size_push]
  have e1 : H1[H.size]? = some (arrV cA n.toNatClampNeg (fun _ => .null)) := by rw [← hH1, Array.getElem?_push_size, ← arrV_new]
  have o1 : ∀ q : Nat, q < H.size → H1[q]? = H[q]? := fun q hq => by rw [← hH1, Array.getElem?_push, if_neg (Nat.ne_of_lt hq)]
  have hk : ∀ (k : Nat) (x : Nat × va_E), wd[k]? = some x → H1[x.1]? = H[x.1]? := fun k x hx => o1 x.1 ((hP k x hx).lt)
  refine kk H1 locs ls z1 ((hP.kept hk).app (fun k x hx => ?_)) (hD.push hP rfl (hA _ hS.1)) ⟨Nat.le_trans hS.1 (by omega), fun x h1 h2 => (o1 x (Nat.lt_of_lt_of_le h1 hS.1)).trans (hS.2.1 x h1 h2), hS.2.2⟩ g5
  have hz : k < 1 := (List.getElem?_eq_some_iff.mp hx).1
  rw [show k = 0 by omega] at hx
  cases hx
  show H1[H.size]? = some (vp_cell _ _)
  rw [e1, vp_cell_q]
  rfl
theorem sv_aast {a n v : Nat} {f : Nat → Option Nat} {t0 qk ci : Nat} {cA : ClassId} {r : vw_C} {vs : List Value} {i : Int32} (C : sv_C E X cc own sx) (q0 : Nat) (ht : (sv_tys E)[t0]? = some (cA, .object r.1)) (ha : wd[q0]? = some (a, .inl (cA, n, .inr (.inr (.inr (.inr f)))))) (hv : wd[qk]? = some (v, .inr (ci, vs))) (hc : vwCl[ci]? = some r) (hin : sv_inb i n = true) (hd : decode cc pc = .ok (.aastore, 1)) (kk : sv_J E X (wd.set q0 (a, .inl (cA, n, .inr (.inr (.inr (.inr (va_up f i.toNatClampNeg (some v)))))))) sz ce sl (pc + 1) lv st) : sv_J E X wd sz ce sl pc lv (.ref v :: .int i :: .ref a :: st) := by
  obtain ⟨p, l, e, R, s, m, args, below, meth, cd, Q, A, nL⟩ := X
  obtain ⟨⟨hx, hb, hml, hown, hts⟩, hK, hlk, hA, hE, hC⟩ := C
  intro H locs ls g1 hP hD hS g5
  have hin := sv_inb_in hin
  have h0 : ¬ i < 0 := fun c => hin (Or.inl c)
  have hlt : i.toNatClampNeg < n := Nat.lt_of_not_le (fun c => hin (Or.inr c))
  obtain ⟨r', hr', cellV, g1', g2, g3, -⟩ := hP qk _ hv
  have hcls := (hK.1 ci r hc).2
  obtain ⟨kA, comp, k1, k2, k3, -⟩ := (hK.2 t0 _ ht).2
  have hcomp : comp = E.1.1 ci := Option.some.inj (k3.symm.trans hcls.1)
  subst hcomp
  obtain ⟨kC, hkC, -⟩ := hcls.2
  refine W.aast hx hb (hP q0 _ ha) (fun q h => by cases h) (fun h => by cases h) k1 k2 rfl hkC ⟨h0, by show _ < (arrV _ _ _).slots.size; rw [arrV_size]; exact hlt⟩ g1' (fun q h => by rw [g3] at h; cases h) (by rw [g2]; exact hkC) (by rw [g2]; exact va_assign hcls) rfl rfl hd fun H1 e1 z oq => ?_
  refine kk H1 _ ls (z.trans g1) (hP.set hD ha ?_ oq) (hD.set ha) (hS.put z oq (hD.2 q0 _ ha)) g5
  show H1[a]? = some (vp_cell _ _)
  rw [e1]
  rw [vp_cell_q, vp_cell_q, arrV_store]
  congr 2
  funext q
  by_cases hq : q = i.toNatClampNeg
  · subst hq
    simp [updV, va_up, va_rf]
  · simp [updV, va_up, hq]
theorem sv_objInit {index a : Nat} (C : sv_C E X cc own sx) (w1 : Cond.methodLink own index objectInit ∈ sv_w) (w2 : Cond.instanceMethod objectInit ∈ sv_w) (w3 : Cond.code objectInit ⟨#[0xb1]⟩ 1 none ∈ sv_w) (hr : 1 ≤ (sv_R X).frames ∧ (st.map fun v => v.category).sum + 12 ≤ (sv_R X).locals) (hd : decode cc pc = .ok (.invokespecial index, 3)) (kk : sv_J E X wd sz ce sl (pc + 3) lv st) : sv_J E X wd sz ce sl pc lv (.ref a :: st) := by
  obtain ⟨p, l, e, R, s, m, args, below, meth, cd, Q, A, nL⟩ := X
  exact fun H locs ls h1 h2 h3 h4 h5 => W.objInit C.1.1 C.1.2.1 C.1.2.2.2.1 (C.1.2.2.2.2 _ w1) (C.1.2.2.2.2 _ w2) (C.1.2.2.2.2 _ w3) rfl (h5.1.trans C.1.2.2.1.symm) rfl hd hr.1 (by show 2 * 0 + _ + 12 ≤ _; have := hr.2; simp only [sv_R] at this; omega) (kk H locs ls h1 h2 h3 h4 h5)
variable {sx' : List (Nat × Nat × List Int32)} {wd' : va_W} {sz' : Nat} {rest : List Value}
variable {index : Nat} {y : MethodName} {cb : ByteArray} {mL n fr lo : Nat} {As : List Value} {b : Nat} {mc ms : Nat}
def sv_MI (own : String) (index : Nat) (y : MethodName) (cb : ByteArray) (mL : Nat) (n : Nat) : Prop := (Cond.methodLink own index y ∈ sv_w ∧ Cond.instanceMethod y ∈ sv_w ∧ Cond.initialized y.cls ∈ sv_w ∧ Cond.code y cb mL none ∈ sv_w) ∧ sv_dn y n ∧ y.name = "<init>"
def sv_MN (own : String) (index : Nat) (y : MethodName) (cb : ByteArray) (mL : Nat) (n : Nat) : Prop := ((own, index, y) ∈ sv_nst ∧ Cond.instanceMethod y ∈ sv_w ∧ Cond.initialized y.cls ∈ sv_w ∧ Cond.code y cb mL none ∈ sv_w) ∧ sv_dn y n ∧ y.name = "<init>"
theorem sv_gdc {rt : Option FieldType} (h : Cond.code y cb mL rt ∈ sv_w) : GoodIn sv_w (Cond.code y cb mL rt :: sv_w) := sv_gds (fun w hw => by
    rcases List.mem_cons.mp hw with rfl | hw
    · exact h
    · exact hw)
/-- a constructor -/
theorem sv_callI (C : sv_C E X cc own sx) (L : sv_MI own index y cb mL n) (M : sv_Met (sv_l X) E y cb mL none fr lo sx' (.ref b :: As) wd sz none wd' sz' mc ms) (hsx : sv_sxs E sx sx') (hn : As.length = n) (hst : st = As.reverse ++ .ref b :: rest) (hw : (rest.map fun v => v.category).sum ≤ 8)
    (hR : fr + 1 ≤ (sv_R X).frames ∧ 8 + (mL + 11) + lo ≤ (sv_R X).locals) (hcs : ce + mc ≤ (sv_R X).cells ∧ sl + ms ≤ (sv_R X).slots) (hd : decode cc pc = .ok (.invokespecial index, 3)) (kk : sv_J E X wd' sz' (ce + mc) (sl + ms) (pc + 3) lv rest) : sv_J E X wd sz ce sl pc lv st := by
  obtain ⟨p, l, e, R, s, m, args, below, meth, c, Q, A, nL⟩ := X
  obtain ⟨S, hK, hlk, hA, hE, hX⟩ := C
  intro H locs ls g1 hP hD hS g5
  subst g1
  have hf := sv_free hA hD hS
  refine sv_cont (va_runI (As := As) (rest := rest) S M (cwI n S.2.2.2.2 (sv_gdc L.1.2.2.2) rfl rfl rfl (S.2.2.2.2 _ L.1.2.2.1) (S.2.2.2.2 _ L.1.1) (S.2.2.2.2 _ L.1.2.1) L.2.2 L.2.1 hR) ⟨sv_blind, sv_pre (wd0 := wd) (sx := sx) hK hE (sv_sxu hE hX hsx) rfl hP hD hS hf⟩ rfl hn g5.1 hst (lv_room hw) hd hcs) hS hf (fun H1 locs1 k1 k2 k3 k4 k5 k6 => kk H1 locs1 ls k1 k2 k3 k6 g5)
/-- a nest mate's private constructor -/
theorem sv_callIN (C : sv_C E X cc own sx) (L : sv_MN own index y cb mL n) (M : sv_Met (sv_l X) E y cb mL none fr lo sx' (.ref b :: As) wd sz none wd' sz' mc ms) (hsx : sv_sxs E sx sx') (hn : As.length = n) (hst : st = As.reverse ++ .ref b :: rest) (hw : (rest.map fun v => v.category).sum ≤ 8)
    (hR : fr + 1 ≤ (sv_R X).frames ∧ 8 + (mL + 11) + lo ≤ (sv_R X).locals) (hcs : ce + mc ≤ (sv_R X).cells ∧ sl + ms ≤ (sv_R X).slots) (hd : decode cc pc = .ok (.invokespecial index, 3)) (kk : sv_J E X wd' sz' (ce + mc) (sl + ms) (pc + 3) lv rest) : sv_J E X wd sz ce sl pc lv st := by
  obtain ⟨p, l, e, R, s, m, args, below, meth, c, Q, A, nL⟩ := X
  obtain ⟨S, hK, hlk, hA, hE, hX⟩ := C
  intro H locs ls g1 hP hD hS g5
  subst g1
  have hf := sv_free hA hD hS
  refine sv_cont (va_runIN (host := "SeaReceiver") (As := As) (rest := rest) S M ⟨va_cnB n S.2.2.2.2 (sv_gdc L.1.2.2.2) rfl rfl rfl (hE.2.2.2.2.1 _ L.1.1) (S.2.2.2.2 _ L.1.2.2.1) L.2.1 hR, L.2.2, S.2.2.2.2 _ L.1.2.1⟩ ⟨sv_blind, sv_pre (wd0 := wd) (sx := sx) hK hE (sv_sxu hE hX hsx) rfl hP hD hS hf⟩ rfl hn g5.1 hst (lv_room hw) hd hcs) hS hf (fun H1 locs1 k1 k2 k3 k4 k5 k6 => kk H1 locs1 ls k1 k2 k3 k6 g5)
end GRW
end
section
/-! ===== growth, in pure words ===== -/
def gh_fr (T : gh_T) (z : Nat) : Prop := ∀ a ∈ T.1, a < z
/-- T', z' come out of T, z by growth: kinds and lengths stay, references are of their kinds, what is new is small -/
def gh_X (T : gh_T) (z : Nat) (T' : gh_T) (z' : Nat) : Prop := z ≤ z' ∧ gh_ok T' ∧ gh_fr T' z' ∧ (∀ a c, gh_is T a c → gh_is T' a c) ∧ (∀ a, a ∈ T.1 → T'.2.2.2.1 a = T.2.2.2.1 a) ∧ (∀ a, z ≤ a → a < z' → a ∈ T'.1 ∧ (T'.2.1 a < 9 ∨ T'.2.2.2.1 a ≤ 2000))
theorem gh_X.le {T T' : gh_T} {z z' : Nat} (h : gh_X T z T' z') : z ≤ z' := h.1
theorem gh_X.ok {T T' : gh_T} {z z' : Nat} (h : gh_X T z T' z') : gh_ok T' := h.2.1
theorem gh_X.fr {T T' : gh_T} {z z' : Nat} (h : gh_X T z T' z') : gh_fr T' z' := h.2.2.1
theorem gh_X.is {T T' : gh_T} {z z' a c : Nat} (h : gh_X T z T' z') (o : gh_is T a c) : gh_is T' a c := h.2.2.2.1 a c o
theorem gh_X.rf {T : gh_T} {z : Nat} (hT : gh_ok T) (hz : gh_fr T z) : gh_X T z T z := ⟨Nat.le_refl _, hT, hz, fun _ _ h => h, fun _ _ => rfl, fun a h1 h2 => absurd h1 (Nat.not_le.mpr h2)⟩
theorem gh_X.trans {T T1 T2 : gh_T} {z z1 z2 : Nat} (h1 : gh_X T z T1 z1) (h2 : gh_X T1 z1 T2 z2) : gh_X T z T2 z2 := by
  refine ⟨Nat.le_trans h1.1 h2.1, h2.ok, h2.fr, fun a c o => h2.is (h1.is o), fun a ha => ?_, fun a ha hb => ?_⟩
  · have h3 := (h1.is (show gh_is T a (T.2.1 a) from ⟨ha, rfl⟩)).1
    rw [h2.2.2.2.2.1 a h3, h1.2.2.2.2.1 a ha]
  · by_cases hc : a < z1
    · obtain ⟨g1, g2⟩ := h1.2.2.2.2.2 a ha hc
      have g3 := h2.is (show gh_is T1 a (T1.2.1 a) from ⟨g1, rfl⟩)
      refine ⟨g3.1, ?_⟩
      rw [g3.2, h2.2.2.2.2.1 a g1]
      exact g2
    · exact h2.2.2.2.2.2 a (Nat.le_of_not_lt hc) hb
theorem gh_X.new {T : gh_T} {z c : Nat} (hT : gh_ok T) (hz : gh_fr T z) (hc : c < 9) : gh_X T z (gh_new T z c) (z + 1) := by
  have old : ∀ a d, gh_is T a d → gh_is (gh_new T z c) a d := fun a d o => ⟨List.mem_append_left _ o.1, by
    have := hz a o.1
    show (if a = z then c else T.2.1 a) = d
    rw [if_neg (by omega)]; exact o.2⟩
  have inv : ∀ a d, gh_is (gh_new T z c) a d → (a = z ∧ d = c) ∨ (a ≠ z ∧ gh_is T a d) := by
    intro a d o
    obtain ⟨o1, o2⟩ := o
    by_cases ha : a = z
    · subst ha
      exact Or.inl ⟨rfl, by rw [← o2]; simp [gh_new]⟩
    · refine Or.inr ⟨ha, ?_, ?_⟩
      · rcases List.mem_append.mp o1 with h | h
        · exact h
        · exact absurd (List.mem_singleton.mp h) ha
      · rw [← o2]; simp [gh_new, ha]
  refine ⟨Nat.le_succ _, ⟨fun a d k e b o hk hb => ?_, fun a i b o hb => ?_, fun a i b o hb => ?_⟩, fun a ha => ?_, old, fun a _ => rfl, fun a h1 h2 => ?_⟩
  · rcases inv a d o with ⟨rfl, -⟩ | ⟨hne, o'⟩
    · simp [gh_new] at hb
    · have hb' : T.2.2.1 k a = some b := by simpa [gh_new, hne] using hb
      exact old _ _ (hT.1 a d k e b o' hk hb')
  · rcases inv a 12 o with ⟨-, h⟩ | ⟨hne, o'⟩
    · omega
    · exact old _ _ (hT.2.1 a i b o' hb)
  · rcases inv a 13 o with ⟨-, h⟩ | ⟨hne, o'⟩
    · omega
    · exact old _ _ (hT.2.2 a i b o' hb)
  · rcases List.mem_append.mp ha with h | h
    · have := hz a h; omega
    · have := List.mem_singleton.mp h; omega
  · have : a = z := by omega
    subst this
    exact ⟨List.mem_append_right _ (List.mem_singleton.mpr rfl), Or.inl (by simpa [gh_new] using hc)⟩
theorem gh_X.newa {T : gh_T} {z c n : Nat} (hT : gh_ok T) (hz : gh_fr T z) (hc : 9 ≤ c) (hn : n ≤ 2000) : gh_X T z (gh_newa T z c n) (z + 1) := by
  have old : ∀ a d, gh_is T a d → gh_is (gh_newa T z c n) a d := fun a d o => ⟨List.mem_append_left _ o.1, by
    have := hz a o.1
    show (if a = z then c else T.2.1 a) = d
    rw [if_neg (by omega)]; exact o.2⟩
  have inv : ∀ a d, gh_is (gh_newa T z c n) a d → (a = z ∧ d = c) ∨ (a ≠ z ∧ gh_is T a d) := by
    intro a d o
    obtain ⟨o1, o2⟩ := o
    by_cases ha : a = z
    · subst ha
      exact Or.inl ⟨rfl, by rw [← o2]; simp [gh_newa]⟩
    · refine Or.inr ⟨ha, ?_, ?_⟩
      · rcases List.mem_append.mp o1 with h | h
        · exact h
        · exact absurd (List.mem_singleton.mp h) ha
      · rw [← o2]; simp [gh_newa, ha]
  have big : ∀ k, gh_rk c k = none := fun k => by
    unfold gh_rk
    split <;> first | omega | rfl
  refine ⟨Nat.le_succ _, ⟨fun a d k e b o hk hb => ?_, fun a i b o hb => ?_, fun a i b o hb => ?_⟩, fun a ha => ?_, old, fun a ha => ?_, fun a h1 h2 => ?_⟩
  · rcases inv a d o with ⟨rfl, rfl⟩ | ⟨hne, o'⟩
    · rw [big k] at hk; cases hk
    · exact old _ _ (hT.1 a d k e b o' hk hb)
  · rcases inv a 12 o with ⟨rfl, h⟩ | ⟨hne, o'⟩
    · simp [gh_newa] at hb
    · exact old _ _ (hT.2.1 a i b o' (by simpa [gh_newa, hne] using hb))
  · rcases inv a 13 o with ⟨rfl, h⟩ | ⟨hne, o'⟩
    · simp [gh_newa] at hb
    · exact old _ _ (hT.2.2 a i b o' (by simpa [gh_newa, hne] using hb))
  · rcases List.mem_append.mp ha with h | h
    · have := hz a h; omega
    · have := List.mem_singleton.mp h; omega
  · have := hz a ha
    have hne : a ≠ z := by omega
    simp [gh_newa, hne]
  · have : a = z := by omega
    subst this
    exact ⟨List.mem_append_right _ (List.mem_singleton.mpr rfl), Or.inr (by simpa [gh_newa] using hn)⟩
theorem gh_X.pr {T : gh_T} {z k a b c d : Nat} (hT : gh_ok T) (hz : gh_fr T z) (o : gh_is T a c) (hk : gh_rk c k = some d) (ob : gh_is T b d) : gh_X T z (gh_pr T k a (some b)) z := by
  refine ⟨Nat.le_refl _, ⟨fun a' c' k' d' b' o' hk' hb' => ?_, hT.2.1, hT.2.2⟩, hz, fun _ _ h => h, fun _ _ => rfl, fun a h1 h2 => absurd h1 (Nat.not_le.mpr h2)⟩
  by_cases he : k' = k ∧ a' = a
  · obtain ⟨rfl, rfl⟩ := he
    have hcc : c' = c := (show T.2.1 a' = c' from o'.2).symm.trans o.2
    subst hcc
    have hb2 : some b = some b' := by simpa [gh_pr] using hb'
    cases hb2
    rw [hk] at hk'
    cases hk'
    exact ob
  · exact hT.1 a' c' k' d' b' o' hk' (by simpa [gh_pr, he] using hb')
theorem gh_X.pq {T : gh_T} {z a b c d : Nat} {i : Int32} (hT : gh_ok T) (hz : gh_fr T z) (o : gh_is T a c) (hd : c = 12 ∧ d = 0 ∨ c = 13 ∧ d = 7) (ob : gh_is T b d) : gh_X T z (gh_pq T a i (some b)) z := by
  refine ⟨Nat.le_refl _, ⟨hT.1, fun a' i' b' o' hb' => ?_, fun a' i' b' o' hb' => ?_⟩, hz, fun _ _ h => h, fun _ _ => rfl, fun a h1 h2 => absurd h1 (Nat.not_le.mpr h2)⟩
  · by_cases he : a' = a ∧ i' = i.toNatClampNeg
    · obtain ⟨rfl, rfl⟩ := he
      have hcc : (12 : Nat) = c := (show T.2.1 a' = 12 from o'.2).symm.trans o.2
      have hb2 : some b = some b' := by simpa [gh_pq] using hb'
      cases hb2
      rcases hd with ⟨h1, rfl⟩ | ⟨h1, -⟩
      · exact ob
      · omega
    · exact hT.2.1 a' i' b' o' (by simpa [gh_pq, he] using hb')
  · by_cases he : a' = a ∧ i' = i.toNatClampNeg
    · obtain ⟨rfl, rfl⟩ := he
      have hcc : (13 : Nat) = c := (show T.2.1 a' = 13 from o'.2).symm.trans o.2
      have hb2 : some b = some b' := by simpa [gh_pq] using hb'
      cases hb2
      rcases hd with ⟨h1, -⟩ | ⟨h1, rfl⟩
      · omega
      · exact ob
    · exact hT.2.2 a' i' b' o' (by simpa [gh_pq, he] using hb')
theorem gh_is.mk {T : gh_T} {z c : Nat} : gh_is (gh_new T z c) z c := ⟨List.mem_append_right _ (List.mem_singleton.mpr rfl), by simp [gh_new]⟩
theorem gh_is.mka {T : gh_T} {z c n : Nat} : gh_is (gh_newa T z c n) z c := ⟨List.mem_append_right _ (List.mem_singleton.mpr rfl), by simp [gh_newa]⟩
theorem gh_push {E : sv_E} {T T' : gh_T} {V V' : gh_V} {z : Nat} {e : va_E} (hz : gh_fr T z) (hL : T'.1 = T.1 ++ [z]) (h1 : gh_cell E T' V' z = e) (h2 : ∀ b, b ≠ z → gh_cell E T' V' b = gh_cell E T V b) : gh_w E T V ++ [(z, e)] = gh_w E T' V' := by
  simp only [gh_w, va_pl, hL, List.map_append, List.map_cons, List.map_nil, h1]
  congr 1
  apply List.map_congr_left
  intro a ha
  rw [h2 a (Nat.ne_of_lt (hz a ha))]
section GRX
variable {E : sv_E} {X : sv_X} {cc : ByteArray} {own : String} {sx : List (Nat × Nat × List Int32)} {T : gh_T} {V : gh_V} {sz ce sl pc : Nat} {lv lv' : List (Nat × Value)} {st : List Value}
theorem gh_mk {index c N : Nat} {Cn : String} (C : sv_C E X cc own sx) (hz : gh_fr T sz) (hL : sv_CL own index c Cn N (gh_fs c (fun _ => 0) (fun _ => none))) (hc : c < 9) (hcs : ce + 1 ≤ (sv_R X).cells ∧ sl + N ≤ (sv_R X).slots) (hd : decode cc pc = .ok (.new index, 3)) (kk : sv_J E X (gh_w E (gh_new T sz c) (gh_nv V sz)) (sz + 1) (ce + 1) (sl + N) (pc + 3) lv (.ref sz :: st)) : sv_J E X (gh_w E T V) sz ce sl pc lv st := by
  refine sv_new C hL hcs hd ?_
  rw [gh_push (T' := gh_new T sz c) (V' := gh_nv V sz) hz rfl]
  · exact kk
  · simp [gh_cell, gh_new, gh_nv, hc]
  · intro b hb
    simp [gh_cell, gh_new, gh_nv, hb]
theorem gh_mkb {n : Int32} (C : sv_C E X cc own sx) (hz : gh_fr T sz) (hw : Cond.arrayClass .byte ∈ sv_w) (hn : (decide (¬ n < 0) && decide (n.toNatClampNeg * componentBytes .byte ≤ 536870912)) = true) (hcs : ce + 1 ≤ (sv_R X).cells ∧ sl + n.toNatClampNeg ≤ (sv_R X).slots) (hd : decode cc pc = .ok (.newarray .byte, 2)) (kk : sv_J E X (gh_w E (gh_newa T sz 9 n.toNatClampNeg) (gh_nva V sz)) (sz + 1) (ce + 1) (sl + n.toNatClampNeg) (pc + 2) lv (.ref sz :: st)) : sv_J E X (gh_w E T V) sz ce sl pc lv (.int n :: st) := by
  refine sv_newa 0 (atype := .byte) (ty := .byte) rfl rfl rfl (fun U cA h => h) C hw hn hcs hd ?_
  rw [gh_push (T' := gh_newa T sz 9 n.toNatClampNeg) (V' := gh_nva V sz) hz rfl]
  · exact kk
  · simp [gh_cell, gh_newa, gh_nva]
  · intro b hb
    simp [gh_cell, gh_newa, gh_nva, hb]
theorem gh_mki {n : Int32} (C : sv_C E X cc own sx) (hz : gh_fr T sz) (hw : Cond.arrayClass .int ∈ sv_w) (hn : (decide (¬ n < 0) && decide (n.toNatClampNeg * componentBytes .int ≤ 536870912)) = true) (hcs : ce + 1 ≤ (sv_R X).cells ∧ sl + n.toNatClampNeg ≤ (sv_R X).slots) (hd : decode cc pc = .ok (.newarray .int, 2)) (kk : sv_J E X (gh_w E (gh_newa T sz 10 n.toNatClampNeg) (gh_nva V sz)) (sz + 1) (ce + 1) (sl + n.toNatClampNeg) (pc + 2) lv (.ref sz :: st)) : sv_J E X (gh_w E T V) sz ce sl pc lv (.int n :: st) := by
  refine sv_newa 1 (atype := .int) (ty := .int) rfl rfl rfl (fun U cA h => h) C hw hn hcs hd ?_
  rw [gh_push (T' := gh_newa T sz 10 n.toNatClampNeg) (V' := gh_nva V sz) hz rfl]
  · exact kk
  · simp [gh_cell, gh_newa, gh_nva]
  · intro b hb
    simp [gh_cell, gh_newa, gh_nva, hb]
theorem gh_mkq {index c : Nat} {Cn : String} {n : Int32} (t0 : Nat) (hc : c = 12 ∧ Cn = "SeaReceiver$BitRow" ∨ c = 13 ∧ Cn = "SeaReceiver$Vessel") (C : sv_C E X cc own sx) (hz : gh_fr T sz) (hw : Cond.classLink own index Cn ∈ sv_w) (hn : (decide (¬ n < 0) && decide (n.toNatClampNeg * 4 ≤ 536870912)) = true) (hcs : ce + 1 ≤ (sv_R X).cells ∧ sl + n.toNatClampNeg ≤ (sv_R X).slots) (hd : decode cc pc = .ok (.anewarray index, 3)) (kk : sv_J E X (gh_w E (gh_newa T sz c n.toNatClampNeg) (gh_nva V sz)) (sz + 1) (ce + 1) (sl + n.toNatClampNeg) (pc + 3) lv (.ref sz :: st)) : sv_J E X (gh_w E T V) sz ce sl pc lv (.int n :: st) := by
  have ht : (sv_tys E)[c - 8]? = some (E.2.1 (c - 8), .object Cn) := by
    rcases hc with ⟨rfl, rfl⟩ | ⟨rfl, rfl⟩ <;> rfl
  have hAO : ∀ A U H, sv_En E A U H → va_AO Cn U := by
    rcases hc with ⟨rfl, rfl⟩ | ⟨rfl, rfl⟩
    · exact fun A U H h => h.2.2.2.2.2.1
    · exact fun A U H h => h.2.2.2.2.2.2
  have hc12 : 12 ≤ c := by omega
  refine sv_newq (c - 8) ht C hAO hw hn hcs hd ?_
  rw [gh_push (T' := gh_newa T sz c n.toNatClampNeg) (V' := gh_nva V sz) hz rfl]
  · exact kk
  · have h1 : ¬ c < 9 := by omega
    have h2 : ¬ c < 12 := by omega
    simp [gh_cell, gh_newa, gh_nva, h1, h2]
  · intro b hb
    simp [gh_cell, gh_newa, gh_nva, hb]
/-- a final reference, in a constructor -/
theorem gh_putr {index c k a b d : Nat} {ty : FieldType} (C : sv_C E X cc own sx) (hF : sv_FL own index c k true ty) (ho : (vwCl[c]?).map (fun q => q.1) = some own) (hnm : sv_nm X = "<init>") (o : gh_is T a c) (hc : c < 9) (hk : (decide (gh_rk c k = some d) && decide (k < gh_n c)) = true) (hn : narrow ty (.ref b) = .ref b) (hfit : fits ty (.ref b) = true) (hd : decode cc pc = .ok (.putfield index, 3)) (kk : sv_J E X (gh_w E (gh_pr T k a (some b)) V) sz ce sl (pc + 3) lv st) : sv_J E X (gh_w E T V) sz ce sl pc lv (.ref b :: .ref a :: st) := by
  simp only [Bool.and_eq_true, decide_eq_true_eq] at hk
  obtain ⟨q, hq⟩ := gh_obj (E := E) (V := V) o hc
  refine sv_withD (fun ⟨A, hD⟩ => ?_)
  refine sv_putF C hF ho hnm q hq hn hfit (by rw [gh_fs_l]; exact hk.2) hd ?_
  rw [gh_setw (T' := gh_pr T k a (some b)) (V' := V) hD rfl hq (e := .inr (c, (gh_fs c (fun k => V.1 k a) (fun k => T.2.2.1 k a)).set k (.ref b))) ?_ ?_]
  · exact kk
  · have h1 : (gh_pr T k a (some b)).2.1 a = c := o.2
    unfold gh_cell
    rw [h1, if_pos hc]
    congr 2
    exact (gh_fs_s hk.2 (by rw [hk.1]; simp [gh_pr, va_rf]) (fun j hj => ⟨rfl, by simp [gh_pr, hj]⟩)).symm
  · intro x hx
    have : ∀ k', (gh_pr T k a (some b)).2.2.1 k' x = T.2.2.1 k' x := fun k' => by simp [gh_pr, hx]
    simp only [gh_cell, this]
    rfl
/-- a final number, in a constructor -/
theorem gh_putiF {index c k a : Nat} {ty : FieldType} {v : Int32} (C : sv_C E X cc own sx) (hF : sv_FL own index c k true ty) (ho : (vwCl[c]?).map (fun q => q.1) = some own) (hnm : sv_nm X = "<init>") (o : gh_is T a c) (hc : c < 9) (hk : (decide (gh_rk c k = none) && decide (k < gh_n c)) = true) (hn : narrow ty (.int v) = .int v) (hfit : fits ty (.int v) = true) (hd : decode cc pc = .ok (.putfield index, 3)) (kk : sv_J E X (gh_w E T (gh_pf V k a v)) sz ce sl (pc + 3) lv st) : sv_J E X (gh_w E T V) sz ce sl pc lv (.int v :: .ref a :: st) := by
  simp only [Bool.and_eq_true, decide_eq_true_eq] at hk
  obtain ⟨q, hq⟩ := gh_obj (E := E) (V := V) o hc
  refine sv_withD (fun ⟨A, hD⟩ => ?_)
  refine sv_putF C hF ho hnm q hq hn hfit (by rw [gh_fs_l]; exact hk.2) hd ?_
  rw [gh_setw (T' := T) (V' := gh_pf V k a v) hD rfl hq (e := .inr (c, (gh_fs c (fun k => V.1 k a) (fun k => T.2.2.1 k a)).set k (.int v))) ?_ ?_]
  · exact kk
  · unfold gh_cell
    rw [o.2, if_pos hc]
    congr 2
    exact (gh_fs_s hk.2 (by rw [hk.1]; simp [gh_pf]) (fun j hj => ⟨by simp [gh_pf, hj], rfl⟩)).symm
  · intro b hb
    have : ∀ k', (gh_pf V k a v).1 k' b = V.1 k' b := fun k' => by simp [gh_pf, hb]
    simp only [gh_cell, this]
    rfl
theorem gh_aast {a b c d : Nat} {i : Int32} {r : vw_C} (C : sv_C E X cc own sx) (o : gh_is T a c) (hc : ¬ c < 12) (ob : gh_is T b d) (hd9 : d < 9) (hr : vwCl[d]? = some r) (ht : (sv_tys E)[c - 8]? = some (E.2.1 (c - 8), .object r.1)) (hin : sv_inb i (T.2.2.2.1 a) = true) (hd : decode cc pc = .ok (.aastore, 1)) (kk : sv_J E X (gh_w E (gh_pq T a i (some b)) V) sz ce sl (pc + 1) lv st) : sv_J E X (gh_w E T V) sz ce sl pc lv (.ref b :: .int i :: .ref a :: st) := by
  obtain ⟨q, hq⟩ := gh_arq (E := E) (V := V) o hc
  obtain ⟨q2, hq2⟩ := gh_obj (E := E) (V := V) ob hd9
  refine sv_withD (fun ⟨A, hD⟩ => ?_)
  refine sv_aast C q ht hq hq2 hr hin hd ?_
  rw [gh_setw (T' := gh_pq T a i (some b)) (V' := V) hD rfl hq]
  · exact kk
  · have h1 : (gh_pq T a i (some b)).2.1 a = c := o.2
    unfold gh_cell
    rw [h1, if_neg (by omega), if_neg hc]
    have : (gh_pq T a i (some b)).2.2.2.2 a = va_up (T.2.2.2.2 a) i.toNatClampNeg (some b) := by
      funext j
      simp [gh_pq, va_up]
    rw [this]
    rfl
  · intro x hx
    have : (gh_pq T a i (some b)).2.2.2.2 x = T.2.2.2.2 x := by
      funext j
      simp [gh_pq, hx]
    simp only [gh_cell, this]
    rfl
end GRX
end
section
theorem sv_dummy : True := trivial
end
