-- ===== PART A: goes FIRST, ahead of the names: the tables' words, and 'selects' of the private methods out of them =====
/-- a private method of a class that the tables say can be made, by its rows of tables_1 -/
def lw_okq (q : MethodName × Nat) : Prop := (q.1.cls ≠ "java/lang/invoke/MethodHandle" ∧ q.1.cls ≠ "java/lang/invoke/VarHandle") ∧ Cond.instantiable q.1.cls q.2 ∈ tables_1 ∧ Cond.privateMethod q.1 ∈ tables_1 ∧ Cond.instanceMethod q.1 ∈ tables_1
theorem lw_p0 : lw_okq (⟨"EarlyToken", "canTick", "(I)Z"⟩, 5) := ⟨⟨by decide +kernel, by decide +kernel⟩, List.mem_of_getElem? (i := 14) (by decide +kernel), List.mem_of_getElem? (i := 579) (by decide +kernel), List.mem_of_getElem? (i := 580) (by decide +kernel)⟩
theorem lw_p1 : lw_okq (⟨"EarlyTokenModel", "isIn", "(III)Z"⟩, 7) := ⟨⟨by decide +kernel, by decide +kernel⟩, List.mem_of_getElem? (i := 875) (by decide +kernel), List.mem_of_getElem? (i := 907) (by decide +kernel), List.mem_of_getElem? (i := 908) (by decide +kernel)⟩
theorem lw_p2 : lw_okq (⟨"EarlyTokenModel", "canSet", "(II)Z"⟩, 7) := ⟨⟨by decide +kernel, by decide +kernel⟩, List.mem_of_getElem? (i := 875) (by decide +kernel), List.mem_of_getElem? (i := 915) (by decide +kernel), List.mem_of_getElem? (i := 916) (by decide +kernel)⟩
theorem lw_p3 : lw_okq (⟨"EarlyTokenModel", "tells", "(II)Z"⟩, 7) := ⟨⟨by decide +kernel, by decide +kernel⟩, List.mem_of_getElem? (i := 875) (by decide +kernel), List.mem_of_getElem? (i := 919) (by decide +kernel), List.mem_of_getElem? (i := 920) (by decide +kernel)⟩
theorem lw_p4 : lw_okq (⟨"EarlyTokenModel", "fitsNow", "()Z"⟩, 7) := ⟨⟨by decide +kernel, by decide +kernel⟩, List.mem_of_getElem? (i := 875) (by decide +kernel), List.mem_of_getElem? (i := 923) (by decide +kernel), List.mem_of_getElem? (i := 924) (by decide +kernel)⟩
theorem lw_p5 : lw_okq (⟨"EarlyTokenModel", "shares", "()I"⟩, 7) := ⟨⟨by decide +kernel, by decide +kernel⟩, List.mem_of_getElem? (i := 875) (by decide +kernel), List.mem_of_getElem? (i := 927) (by decide +kernel), List.mem_of_getElem? (i := 928) (by decide +kernel)⟩
theorem lw_p6 : lw_okq (⟨"EarlyTokenModel", "n", "()I"⟩, 7) := ⟨⟨by decide +kernel, by decide +kernel⟩, List.mem_of_getElem? (i := 875) (by decide +kernel), List.mem_of_getElem? (i := 931) (by decide +kernel), List.mem_of_getElem? (i := 932) (by decide +kernel)⟩
theorem lw_p7 : lw_okq (⟨"EarlyTokenModel", "isOut", "(I)Z"⟩, 7) := ⟨⟨by decide +kernel, by decide +kernel⟩, List.mem_of_getElem? (i := 875) (by decide +kernel), List.mem_of_getElem? (i := 935) (by decide +kernel), List.mem_of_getElem? (i := 936) (by decide +kernel)⟩
theorem lw_p8 : lw_okq (⟨"EarlyTokenModel", "of", "(II)I"⟩, 7) := ⟨⟨by decide +kernel, by decide +kernel⟩, List.mem_of_getElem? (i := 875) (by decide +kernel), List.mem_of_getElem? (i := 939) (by decide +kernel), List.mem_of_getElem? (i := 940) (by decide +kernel)⟩
theorem lw_p9 : lw_okq (⟨"EarlyTokenModel", "at", "(I)I"⟩, 7) := ⟨⟨by decide +kernel, by decide +kernel⟩, List.mem_of_getElem? (i := 875) (by decide +kernel), List.mem_of_getElem? (i := 943) (by decide +kernel), List.mem_of_getElem? (i := 944) (by decide +kernel)⟩
theorem lw_p10 : lw_okq (⟨"EarlyTokenModel", "latency", "()I"⟩, 7) := ⟨⟨by decide +kernel, by decide +kernel⟩, List.mem_of_getElem? (i := 875) (by decide +kernel), List.mem_of_getElem? (i := 947) (by decide +kernel), List.mem_of_getElem? (i := 948) (by decide +kernel)⟩
theorem lw_p11 : lw_okq (⟨"EarlyTokenModel", "delayOf", "(I)I"⟩, 7) := ⟨⟨by decide +kernel, by decide +kernel⟩, List.mem_of_getElem? (i := 875) (by decide +kernel), List.mem_of_getElem? (i := 951) (by decide +kernel), List.mem_of_getElem? (i := 952) (by decide +kernel)⟩
theorem lw_p12 : lw_okq (⟨"EarlyTokenModel", "settingOf", "(I)I"⟩, 7) := ⟨⟨by decide +kernel, by decide +kernel⟩, List.mem_of_getElem? (i := 875) (by decide +kernel), List.mem_of_getElem? (i := 955) (by decide +kernel), List.mem_of_getElem? (i := 956) (by decide +kernel)⟩
theorem lw_p13 : lw_okq (⟨"EarlyTokenModel", "firstOf", "(I)I"⟩, 7) := ⟨⟨by decide +kernel, by decide +kernel⟩, List.mem_of_getElem? (i := 875) (by decide +kernel), List.mem_of_getElem? (i := 959) (by decide +kernel), List.mem_of_getElem? (i := 960) (by decide +kernel)⟩
theorem lw_p14 : lw_okq (⟨"EarlyTokenModel", "floor", "()I"⟩, 7) := ⟨⟨by decide +kernel, by decide +kernel⟩, List.mem_of_getElem? (i := 875) (by decide +kernel), List.mem_of_getElem? (i := 963) (by decide +kernel), List.mem_of_getElem? (i := 964) (by decide +kernel)⟩
theorem lw_p15 : lw_okq (⟨"EarlyTokenModel", "bidOf", "(I)I"⟩, 7) := ⟨⟨by decide +kernel, by decide +kernel⟩, List.mem_of_getElem? (i := 875) (by decide +kernel), List.mem_of_getElem? (i := 967) (by decide +kernel), List.mem_of_getElem? (i := 968) (by decide +kernel)⟩
def lw_privs_1 : List (MethodName × Nat) := [(⟨"EarlyToken", "canTick", "(I)Z"⟩, 5), (⟨"EarlyTokenModel", "isIn", "(III)Z"⟩, 7), (⟨"EarlyTokenModel", "canSet", "(II)Z"⟩, 7), (⟨"EarlyTokenModel", "tells", "(II)Z"⟩, 7), (⟨"EarlyTokenModel", "fitsNow", "()Z"⟩, 7), (⟨"EarlyTokenModel", "shares", "()I"⟩, 7), (⟨"EarlyTokenModel", "n", "()I"⟩, 7), (⟨"EarlyTokenModel", "isOut", "(I)Z"⟩, 7), (⟨"EarlyTokenModel", "of", "(II)I"⟩, 7), (⟨"EarlyTokenModel", "at", "(I)I"⟩, 7), (⟨"EarlyTokenModel", "latency", "()I"⟩, 7), (⟨"EarlyTokenModel", "delayOf", "(I)I"⟩, 7), (⟨"EarlyTokenModel", "settingOf", "(I)I"⟩, 7), (⟨"EarlyTokenModel", "firstOf", "(I)I"⟩, 7), (⟨"EarlyTokenModel", "floor", "()I"⟩, 7), (⟨"EarlyTokenModel", "bidOf", "(I)I"⟩, 7)]
theorem lw_r1 : ∀ q ∈ lw_privs_1, lw_okq q := List.forall_mem_cons.mpr ⟨lw_p0, List.forall_mem_cons.mpr ⟨lw_p1, List.forall_mem_cons.mpr ⟨lw_p2, List.forall_mem_cons.mpr ⟨lw_p3, List.forall_mem_cons.mpr ⟨lw_p4, List.forall_mem_cons.mpr ⟨lw_p5, List.forall_mem_cons.mpr ⟨lw_p6, List.forall_mem_cons.mpr ⟨lw_p7, List.forall_mem_cons.mpr ⟨lw_p8, List.forall_mem_cons.mpr ⟨lw_p9, List.forall_mem_cons.mpr ⟨lw_p10, List.forall_mem_cons.mpr ⟨lw_p11, List.forall_mem_cons.mpr ⟨lw_p12, List.forall_mem_cons.mpr ⟨lw_p13, List.forall_mem_cons.mpr ⟨lw_p14, List.forall_mem_cons.mpr ⟨lw_p15, fun _ h => absurd h List.not_mem_nil⟩⟩⟩⟩⟩⟩⟩⟩⟩⟩⟩⟩⟩⟩⟩⟩
theorem lw_p16 : lw_okq (⟨"EarlyTokenModel", "isUp", "(I)Z"⟩, 7) := ⟨⟨by decide +kernel, by decide +kernel⟩, List.mem_of_getElem? (i := 875) (by decide +kernel), List.mem_of_getElem? (i := 971) (by decide +kernel), List.mem_of_getElem? (i := 972) (by decide +kernel)⟩
theorem lw_p17 : lw_okq (⟨"EarlyTokenModel", "isLink", "(I)Z"⟩, 7) := ⟨⟨by decide +kernel, by decide +kernel⟩, List.mem_of_getElem? (i := 875) (by decide +kernel), List.mem_of_getElem? (i := 979) (by decide +kernel), List.mem_of_getElem? (i := 980) (by decide +kernel)⟩
theorem lw_p18 : lw_okq (⟨"EarlyTokenModel", "isStation", "(I)Z"⟩, 7) := ⟨⟨by decide +kernel, by decide +kernel⟩, List.mem_of_getElem? (i := 875) (by decide +kernel), List.mem_of_getElem? (i := 983) (by decide +kernel), List.mem_of_getElem? (i := 984) (by decide +kernel)⟩
theorem lw_p19 : lw_okq (⟨"EarlyTokenModel", "lay", "(III)V"⟩, 7) := ⟨⟨by decide +kernel, by decide +kernel⟩, List.mem_of_getElem? (i := 875) (by decide +kernel), List.mem_of_getElem? (i := 999) (by decide +kernel), List.mem_of_getElem? (i := 1000) (by decide +kernel)⟩
theorem lw_p20 : lw_okq (⟨"EarlyTokenModel", "voids", "(I)V"⟩, 7) := ⟨⟨by decide +kernel, by decide +kernel⟩, List.mem_of_getElem? (i := 875) (by decide +kernel), List.mem_of_getElem? (i := 1003) (by decide +kernel), List.mem_of_getElem? (i := 1004) (by decide +kernel)⟩
theorem lw_p21 : lw_okq (⟨"EarlyTokenModel", "canBe", "(IIII)Z"⟩, 7) := ⟨⟨by decide +kernel, by decide +kernel⟩, List.mem_of_getElem? (i := 875) (by decide +kernel), List.mem_of_getElem? (i := 1011) (by decide +kernel), List.mem_of_getElem? (i := 1012) (by decide +kernel)⟩
theorem lw_p22 : lw_okq (⟨"EarlyTokenModel", "comes", "(IIII)I"⟩, 7) := ⟨⟨by decide +kernel, by decide +kernel⟩, List.mem_of_getElem? (i := 875) (by decide +kernel), List.mem_of_getElem? (i := 1015) (by decide +kernel), List.mem_of_getElem? (i := 1016) (by decide +kernel)⟩
theorem lw_p23 : lw_okq (⟨"EarlyTokenModel", "frameAt", "(II)I"⟩, 7) := ⟨⟨by decide +kernel, by decide +kernel⟩, List.mem_of_getElem? (i := 875) (by decide +kernel), List.mem_of_getElem? (i := 1019) (by decide +kernel), List.mem_of_getElem? (i := 1020) (by decide +kernel)⟩
theorem lw_p24 : lw_okq (⟨"EarlyTokenModel", "tickNow", "()I"⟩, 7) := ⟨⟨by decide +kernel, by decide +kernel⟩, List.mem_of_getElem? (i := 875) (by decide +kernel), List.mem_of_getElem? (i := 1023) (by decide +kernel), List.mem_of_getElem? (i := 1024) (by decide +kernel)⟩
theorem lw_p25 : lw_okq (⟨"EarlyTokenModel", "more", "(II)V"⟩, 7) := ⟨⟨by decide +kernel, by decide +kernel⟩, List.mem_of_getElem? (i := 875) (by decide +kernel), List.mem_of_getElem? (i := 1027) (by decide +kernel), List.mem_of_getElem? (i := 1028) (by decide +kernel)⟩
theorem lw_p26 : lw_okq (⟨"EarlyTokenModel", "isCut", "(I)Z"⟩, 7) := ⟨⟨by decide +kernel, by decide +kernel⟩, List.mem_of_getElem? (i := 875) (by decide +kernel), List.mem_of_getElem? (i := 1035) (by decide +kernel), List.mem_of_getElem? (i := 1036) (by decide +kernel)⟩
theorem lw_p27 : lw_okq (⟨"EarlyTokenModel", "messageAt", "(I)I"⟩, 7) := ⟨⟨by decide +kernel, by decide +kernel⟩, List.mem_of_getElem? (i := 875) (by decide +kernel), List.mem_of_getElem? (i := 1039) (by decide +kernel), List.mem_of_getElem? (i := 1040) (by decide +kernel)⟩
theorem lw_p28 : lw_okq (⟨"EarlyTokenModel", "goes", "(I)V"⟩, 7) := ⟨⟨by decide +kernel, by decide +kernel⟩, List.mem_of_getElem? (i := 875) (by decide +kernel), List.mem_of_getElem? (i := 1043) (by decide +kernel), List.mem_of_getElem? (i := 1044) (by decide +kernel)⟩
theorem lw_p29 : lw_okq (⟨"EarlyTokenModel", "counts", "(I)V"⟩, 7) := ⟨⟨by decide +kernel, by decide +kernel⟩, List.mem_of_getElem? (i := 875) (by decide +kernel), List.mem_of_getElem? (i := 1047) (by decide +kernel), List.mem_of_getElem? (i := 1048) (by decide +kernel)⟩
theorem lw_p30 : lw_okq (⟨"EarlyTokenModel", "claimsAlone", "(I)V"⟩, 7) := ⟨⟨by decide +kernel, by decide +kernel⟩, List.mem_of_getElem? (i := 875) (by decide +kernel), List.mem_of_getElem? (i := 1055) (by decide +kernel), List.mem_of_getElem? (i := 1056) (by decide +kernel)⟩
theorem lw_p31 : lw_okq (⟨"EarlyTokenModel", "claims", "(I)V"⟩, 7) := ⟨⟨by decide +kernel, by decide +kernel⟩, List.mem_of_getElem? (i := 875) (by decide +kernel), List.mem_of_getElem? (i := 1059) (by decide +kernel), List.mem_of_getElem? (i := 1060) (by decide +kernel)⟩
def lw_privs_2 : List (MethodName × Nat) := [(⟨"EarlyTokenModel", "isUp", "(I)Z"⟩, 7), (⟨"EarlyTokenModel", "isLink", "(I)Z"⟩, 7), (⟨"EarlyTokenModel", "isStation", "(I)Z"⟩, 7), (⟨"EarlyTokenModel", "lay", "(III)V"⟩, 7), (⟨"EarlyTokenModel", "voids", "(I)V"⟩, 7), (⟨"EarlyTokenModel", "canBe", "(IIII)Z"⟩, 7), (⟨"EarlyTokenModel", "comes", "(IIII)I"⟩, 7), (⟨"EarlyTokenModel", "frameAt", "(II)I"⟩, 7), (⟨"EarlyTokenModel", "tickNow", "()I"⟩, 7), (⟨"EarlyTokenModel", "more", "(II)V"⟩, 7), (⟨"EarlyTokenModel", "isCut", "(I)Z"⟩, 7), (⟨"EarlyTokenModel", "messageAt", "(I)I"⟩, 7), (⟨"EarlyTokenModel", "goes", "(I)V"⟩, 7), (⟨"EarlyTokenModel", "counts", "(I)V"⟩, 7), (⟨"EarlyTokenModel", "claimsAlone", "(I)V"⟩, 7), (⟨"EarlyTokenModel", "claims", "(I)V"⟩, 7)]
theorem lw_r2 : ∀ q ∈ lw_privs_2, lw_okq q := List.forall_mem_cons.mpr ⟨lw_p16, List.forall_mem_cons.mpr ⟨lw_p17, List.forall_mem_cons.mpr ⟨lw_p18, List.forall_mem_cons.mpr ⟨lw_p19, List.forall_mem_cons.mpr ⟨lw_p20, List.forall_mem_cons.mpr ⟨lw_p21, List.forall_mem_cons.mpr ⟨lw_p22, List.forall_mem_cons.mpr ⟨lw_p23, List.forall_mem_cons.mpr ⟨lw_p24, List.forall_mem_cons.mpr ⟨lw_p25, List.forall_mem_cons.mpr ⟨lw_p26, List.forall_mem_cons.mpr ⟨lw_p27, List.forall_mem_cons.mpr ⟨lw_p28, List.forall_mem_cons.mpr ⟨lw_p29, List.forall_mem_cons.mpr ⟨lw_p30, List.forall_mem_cons.mpr ⟨lw_p31, fun _ h => absurd h List.not_mem_nil⟩⟩⟩⟩⟩⟩⟩⟩⟩⟩⟩⟩⟩⟩⟩⟩
theorem lw_p32 : lw_okq (⟨"EarlyTokenModel", "letsAll", "(I)V"⟩, 7) := ⟨⟨by decide +kernel, by decide +kernel⟩, List.mem_of_getElem? (i := 875) (by decide +kernel), List.mem_of_getElem? (i := 1063) (by decide +kernel), List.mem_of_getElem? (i := 1064) (by decide +kernel)⟩
theorem lw_p33 : lw_okq (⟨"EarlyTokenModel", "best", "(IIII)V"⟩, 7) := ⟨⟨by decide +kernel, by decide +kernel⟩, List.mem_of_getElem? (i := 875) (by decide +kernel), List.mem_of_getElem? (i := 1067) (by decide +kernel), List.mem_of_getElem? (i := 1068) (by decide +kernel)⟩
theorem lw_p34 : lw_okq (⟨"EarlyTokenModel", "logs", "(III)V"⟩, 7) := ⟨⟨by decide +kernel, by decide +kernel⟩, List.mem_of_getElem? (i := 875) (by decide +kernel), List.mem_of_getElem? (i := 1071) (by decide +kernel), List.mem_of_getElem? (i := 1072) (by decide +kernel)⟩
theorem lw_p35 : lw_okq (⟨"EarlyTokenModel", "sendsBest", "(I)V"⟩, 7) := ⟨⟨by decide +kernel, by decide +kernel⟩, List.mem_of_getElem? (i := 875) (by decide +kernel), List.mem_of_getElem? (i := 1075) (by decide +kernel), List.mem_of_getElem? (i := 1076) (by decide +kernel)⟩
theorem lw_p36 : lw_okq (⟨"EarlyTokenModel", "sends", "(IIIII)V"⟩, 7) := ⟨⟨by decide +kernel, by decide +kernel⟩, List.mem_of_getElem? (i := 875) (by decide +kernel), List.mem_of_getElem? (i := 1079) (by decide +kernel), List.mem_of_getElem? (i := 1080) (by decide +kernel)⟩
theorem lw_p37 : lw_okq (⟨"EarlyTokenModel", "ticks", "()V"⟩, 7) := ⟨⟨by decide +kernel, by decide +kernel⟩, List.mem_of_getElem? (i := 875) (by decide +kernel), List.mem_of_getElem? (i := 1087) (by decide +kernel), List.mem_of_getElem? (i := 1088) (by decide +kernel)⟩
theorem lw_p38 : lw_okq (⟨"EarlyTokenModel", "arriveAll", "()V"⟩, 7) := ⟨⟨by decide +kernel, by decide +kernel⟩, List.mem_of_getElem? (i := 875) (by decide +kernel), List.mem_of_getElem? (i := 1091) (by decide +kernel), List.mem_of_getElem? (i := 1092) (by decide +kernel)⟩
theorem lw_p39 : lw_okq (⟨"EarlyTokenModel", "inOrder", "(I)I"⟩, 7) := ⟨⟨by decide +kernel, by decide +kernel⟩, List.mem_of_getElem? (i := 875) (by decide +kernel), List.mem_of_getElem? (i := 1095) (by decide +kernel), List.mem_of_getElem? (i := 1096) (by decide +kernel)⟩
theorem lw_p40 : lw_okq (⟨"EarlyTokenModel", "arrives", "(I)V"⟩, 7) := ⟨⟨by decide +kernel, by decide +kernel⟩, List.mem_of_getElem? (i := 875) (by decide +kernel), List.mem_of_getElem? (i := 1099) (by decide +kernel), List.mem_of_getElem? (i := 1100) (by decide +kernel)⟩
theorem lw_p41 : lw_okq (⟨"EarlyTokenModel", "claimComes", "(IIII)V"⟩, 7) := ⟨⟨by decide +kernel, by decide +kernel⟩, List.mem_of_getElem? (i := 875) (by decide +kernel), List.mem_of_getElem? (i := 1103) (by decide +kernel), List.mem_of_getElem? (i := 1104) (by decide +kernel)⟩
theorem lw_p42 : lw_okq (⟨"EarlyTokenModel", "claimsBy", "(IIII)V"⟩, 7) := ⟨⟨by decide +kernel, by decide +kernel⟩, List.mem_of_getElem? (i := 875) (by decide +kernel), List.mem_of_getElem? (i := 1107) (by decide +kernel), List.mem_of_getElem? (i := 1108) (by decide +kernel)⟩
theorem lw_p43 : lw_okq (⟨"EarlyTokenModel", "isBetter", "(IIII)Z"⟩, 7) := ⟨⟨by decide +kernel, by decide +kernel⟩, List.mem_of_getElem? (i := 875) (by decide +kernel), List.mem_of_getElem? (i := 1111) (by decide +kernel), List.mem_of_getElem? (i := 1112) (by decide +kernel)⟩
theorem lw_p44 : lw_okq (⟨"EarlyTokenModel", "isBest", "(IIII)Z"⟩, 7) := ⟨⟨by decide +kernel, by decide +kernel⟩, List.mem_of_getElem? (i := 875) (by decide +kernel), List.mem_of_getElem? (i := 1115) (by decide +kernel), List.mem_of_getElem? (i := 1116) (by decide +kernel)⟩
theorem lw_p45 : lw_okq (⟨"EarlyTokenModel", "wins", "(I)V"⟩, 7) := ⟨⟨by decide +kernel, by decide +kernel⟩, List.mem_of_getElem? (i := 875) (by decide +kernel), List.mem_of_getElem? (i := 1119) (by decide +kernel), List.mem_of_getElem? (i := 1120) (by decide +kernel)⟩
theorem lw_p46 : lw_okq (⟨"EarlyTokenModel", "isUpBy", "(IIII)V"⟩, 7) := ⟨⟨by decide +kernel, by decide +kernel⟩, List.mem_of_getElem? (i := 875) (by decide +kernel), List.mem_of_getElem? (i := 1123) (by decide +kernel), List.mem_of_getElem? (i := 1124) (by decide +kernel)⟩
theorem lw_p47 : lw_okq (⟨"EarlyTokenModel", "tokenComes", "(IIII)V"⟩, 7) := ⟨⟨by decide +kernel, by decide +kernel⟩, List.mem_of_getElem? (i := 875) (by decide +kernel), List.mem_of_getElem? (i := 1127) (by decide +kernel), List.mem_of_getElem? (i := 1128) (by decide +kernel)⟩
def lw_privs_3 : List (MethodName × Nat) := [(⟨"EarlyTokenModel", "letsAll", "(I)V"⟩, 7), (⟨"EarlyTokenModel", "best", "(IIII)V"⟩, 7), (⟨"EarlyTokenModel", "logs", "(III)V"⟩, 7), (⟨"EarlyTokenModel", "sendsBest", "(I)V"⟩, 7), (⟨"EarlyTokenModel", "sends", "(IIIII)V"⟩, 7), (⟨"EarlyTokenModel", "ticks", "()V"⟩, 7), (⟨"EarlyTokenModel", "arriveAll", "()V"⟩, 7), (⟨"EarlyTokenModel", "inOrder", "(I)I"⟩, 7), (⟨"EarlyTokenModel", "arrives", "(I)V"⟩, 7), (⟨"EarlyTokenModel", "claimComes", "(IIII)V"⟩, 7), (⟨"EarlyTokenModel", "claimsBy", "(IIII)V"⟩, 7), (⟨"EarlyTokenModel", "isBetter", "(IIII)Z"⟩, 7), (⟨"EarlyTokenModel", "isBest", "(IIII)Z"⟩, 7), (⟨"EarlyTokenModel", "wins", "(I)V"⟩, 7), (⟨"EarlyTokenModel", "isUpBy", "(IIII)V"⟩, 7), (⟨"EarlyTokenModel", "tokenComes", "(IIII)V"⟩, 7)]
theorem lw_r3 : ∀ q ∈ lw_privs_3, lw_okq q := List.forall_mem_cons.mpr ⟨lw_p32, List.forall_mem_cons.mpr ⟨lw_p33, List.forall_mem_cons.mpr ⟨lw_p34, List.forall_mem_cons.mpr ⟨lw_p35, List.forall_mem_cons.mpr ⟨lw_p36, List.forall_mem_cons.mpr ⟨lw_p37, List.forall_mem_cons.mpr ⟨lw_p38, List.forall_mem_cons.mpr ⟨lw_p39, List.forall_mem_cons.mpr ⟨lw_p40, List.forall_mem_cons.mpr ⟨lw_p41, List.forall_mem_cons.mpr ⟨lw_p42, List.forall_mem_cons.mpr ⟨lw_p43, List.forall_mem_cons.mpr ⟨lw_p44, List.forall_mem_cons.mpr ⟨lw_p45, List.forall_mem_cons.mpr ⟨lw_p46, List.forall_mem_cons.mpr ⟨lw_p47, fun _ h => absurd h List.not_mem_nil⟩⟩⟩⟩⟩⟩⟩⟩⟩⟩⟩⟩⟩⟩⟩⟩
theorem lw_p48 : lw_okq (⟨"EarlyTokenModel", "isOfMine", "(IIII)Z"⟩, 7) := ⟨⟨by decide +kernel, by decide +kernel⟩, List.mem_of_getElem? (i := 875) (by decide +kernel), List.mem_of_getElem? (i := 1131) (by decide +kernel), List.mem_of_getElem? (i := 1132) (by decide +kernel)⟩
theorem lw_p49 : lw_okq (⟨"EarlyTokenModel", "holds", "(I)Z"⟩, 7) := ⟨⟨by decide +kernel, by decide +kernel⟩, List.mem_of_getElem? (i := 875) (by decide +kernel), List.mem_of_getElem? (i := 1135) (by decide +kernel), List.mem_of_getElem? (i := 1136) (by decide +kernel)⟩
theorem lw_p50 : lw_okq (⟨"EarlyTokenModel", "trips", "(I)V"⟩, 7) := ⟨⟨by decide +kernel, by decide +kernel⟩, List.mem_of_getElem? (i := 875) (by decide +kernel), List.mem_of_getElem? (i := 1139) (by decide +kernel), List.mem_of_getElem? (i := 1140) (by decide +kernel)⟩
theorem lw_p51 : lw_okq (⟨"EarlyTokenModel", "beaconComes", "(II)V"⟩, 7) := ⟨⟨by decide +kernel, by decide +kernel⟩, List.mem_of_getElem? (i := 875) (by decide +kernel), List.mem_of_getElem? (i := 1143) (by decide +kernel), List.mem_of_getElem? (i := 1144) (by decide +kernel)⟩
theorem lw_p52 : lw_okq (⟨"EarlyTokenModel", "streams", "(I)V"⟩, 7) := ⟨⟨by decide +kernel, by decide +kernel⟩, List.mem_of_getElem? (i := 875) (by decide +kernel), List.mem_of_getElem? (i := 1147) (by decide +kernel), List.mem_of_getElem? (i := 1148) (by decide +kernel)⟩
theorem lw_p53 : lw_okq (⟨"EarlyTokenModel", "works", "(I)V"⟩, 7) := ⟨⟨by decide +kernel, by decide +kernel⟩, List.mem_of_getElem? (i := 875) (by decide +kernel), List.mem_of_getElem? (i := 1151) (by decide +kernel), List.mem_of_getElem? (i := 1152) (by decide +kernel)⟩
theorem lw_p54 : lw_okq (⟨"EarlyTokenModel", "sendsMore", "(I)V"⟩, 7) := ⟨⟨by decide +kernel, by decide +kernel⟩, List.mem_of_getElem? (i := 875) (by decide +kernel), List.mem_of_getElem? (i := 1155) (by decide +kernel), List.mem_of_getElem? (i := 1156) (by decide +kernel)⟩
theorem lw_p55 : lw_okq (⟨"EarlyTokenModel", "ends", "(I)V"⟩, 7) := ⟨⟨by decide +kernel, by decide +kernel⟩, List.mem_of_getElem? (i := 875) (by decide +kernel), List.mem_of_getElem? (i := 1159) (by decide +kernel), List.mem_of_getElem? (i := 1160) (by decide +kernel)⟩
theorem lw_p56 : lw_okq (⟨"EarlyTokenModel", "frameEnds", "(II)V"⟩, 7) := ⟨⟨by decide +kernel, by decide +kernel⟩, List.mem_of_getElem? (i := 875) (by decide +kernel), List.mem_of_getElem? (i := 1163) (by decide +kernel), List.mem_of_getElem? (i := 1164) (by decide +kernel)⟩
theorem lw_p57 : lw_okq (⟨"EarlyTokenModel", "pathOf", "(IIZ)I"⟩, 7) := ⟨⟨by decide +kernel, by decide +kernel⟩, List.mem_of_getElem? (i := 875) (by decide +kernel), List.mem_of_getElem? (i := 1167) (by decide +kernel), List.mem_of_getElem? (i := 1168) (by decide +kernel)⟩
theorem lw_p58 : lw_okq (⟨"EarlyTokenModel", "leavesLine", "(II)V"⟩, 7) := ⟨⟨by decide +kernel, by decide +kernel⟩, List.mem_of_getElem? (i := 875) (by decide +kernel), List.mem_of_getElem? (i := 1171) (by decide +kernel), List.mem_of_getElem? (i := 1172) (by decide +kernel)⟩
theorem lw_p59 : lw_okq (⟨"EarlyTokenModel", "goesOn", "(I)V"⟩, 7) := ⟨⟨by decide +kernel, by decide +kernel⟩, List.mem_of_getElem? (i := 875) (by decide +kernel), List.mem_of_getElem? (i := 1175) (by decide +kernel), List.mem_of_getElem? (i := 1176) (by decide +kernel)⟩
theorem lw_p60 : lw_okq (⟨"EarlyTokenModel", "begins", "(III)V"⟩, 7) := ⟨⟨by decide +kernel, by decide +kernel⟩, List.mem_of_getElem? (i := 875) (by decide +kernel), List.mem_of_getElem? (i := 1179) (by decide +kernel), List.mem_of_getElem? (i := 1180) (by decide +kernel)⟩
theorem lw_p61 : lw_okq (⟨"EarlyTokenModel", "nextFrame", "(I)I"⟩, 7) := ⟨⟨by decide +kernel, by decide +kernel⟩, List.mem_of_getElem? (i := 875) (by decide +kernel), List.mem_of_getElem? (i := 1183) (by decide +kernel), List.mem_of_getElem? (i := 1184) (by decide +kernel)⟩
theorem lw_p62 : lw_okq (⟨"EarlyTokenModel", "letsGo", "(I)V"⟩, 7) := ⟨⟨by decide +kernel, by decide +kernel⟩, List.mem_of_getElem? (i := 875) (by decide +kernel), List.mem_of_getElem? (i := 1187) (by decide +kernel), List.mem_of_getElem? (i := 1188) (by decide +kernel)⟩
theorem lw_p63 : lw_okq (⟨"EarlyTokenModel", "books", "(I)V"⟩, 7) := ⟨⟨by decide +kernel, by decide +kernel⟩, List.mem_of_getElem? (i := 875) (by decide +kernel), List.mem_of_getElem? (i := 1191) (by decide +kernel), List.mem_of_getElem? (i := 1192) (by decide +kernel)⟩
def lw_privs_4 : List (MethodName × Nat) := [(⟨"EarlyTokenModel", "isOfMine", "(IIII)Z"⟩, 7), (⟨"EarlyTokenModel", "holds", "(I)Z"⟩, 7), (⟨"EarlyTokenModel", "trips", "(I)V"⟩, 7), (⟨"EarlyTokenModel", "beaconComes", "(II)V"⟩, 7), (⟨"EarlyTokenModel", "streams", "(I)V"⟩, 7), (⟨"EarlyTokenModel", "works", "(I)V"⟩, 7), (⟨"EarlyTokenModel", "sendsMore", "(I)V"⟩, 7), (⟨"EarlyTokenModel", "ends", "(I)V"⟩, 7), (⟨"EarlyTokenModel", "frameEnds", "(II)V"⟩, 7), (⟨"EarlyTokenModel", "pathOf", "(IIZ)I"⟩, 7), (⟨"EarlyTokenModel", "leavesLine", "(II)V"⟩, 7), (⟨"EarlyTokenModel", "goesOn", "(I)V"⟩, 7), (⟨"EarlyTokenModel", "begins", "(III)V"⟩, 7), (⟨"EarlyTokenModel", "nextFrame", "(I)I"⟩, 7), (⟨"EarlyTokenModel", "letsGo", "(I)V"⟩, 7), (⟨"EarlyTokenModel", "books", "(I)V"⟩, 7)]
theorem lw_r4 : ∀ q ∈ lw_privs_4, lw_okq q := List.forall_mem_cons.mpr ⟨lw_p48, List.forall_mem_cons.mpr ⟨lw_p49, List.forall_mem_cons.mpr ⟨lw_p50, List.forall_mem_cons.mpr ⟨lw_p51, List.forall_mem_cons.mpr ⟨lw_p52, List.forall_mem_cons.mpr ⟨lw_p53, List.forall_mem_cons.mpr ⟨lw_p54, List.forall_mem_cons.mpr ⟨lw_p55, List.forall_mem_cons.mpr ⟨lw_p56, List.forall_mem_cons.mpr ⟨lw_p57, List.forall_mem_cons.mpr ⟨lw_p58, List.forall_mem_cons.mpr ⟨lw_p59, List.forall_mem_cons.mpr ⟨lw_p60, List.forall_mem_cons.mpr ⟨lw_p61, List.forall_mem_cons.mpr ⟨lw_p62, List.forall_mem_cons.mpr ⟨lw_p63, fun _ h => absurd h List.not_mem_nil⟩⟩⟩⟩⟩⟩⟩⟩⟩⟩⟩⟩⟩⟩⟩⟩
theorem lw_p64 : lw_okq (⟨"EarlyTokenModel", "isUpNow", "(I)V"⟩, 7) := ⟨⟨by decide +kernel, by decide +kernel⟩, List.mem_of_getElem? (i := 875) (by decide +kernel), List.mem_of_getElem? (i := 1195) (by decide +kernel), List.mem_of_getElem? (i := 1196) (by decide +kernel)⟩
theorem lw_p65 : lw_okq (⟨"EarlyTokenModel", "isClaimingNow", "(I)V"⟩, 7) := ⟨⟨by decide +kernel, by decide +kernel⟩, List.mem_of_getElem? (i := 875) (by decide +kernel), List.mem_of_getElem? (i := 1199) (by decide +kernel), List.mem_of_getElem? (i := 1200) (by decide +kernel)⟩
theorem lw_p66 : lw_okq (⟨"EarlyTokenModel", "isAgo", "(III)Z"⟩, 7) := ⟨⟨by decide +kernel, by decide +kernel⟩, List.mem_of_getElem? (i := 875) (by decide +kernel), List.mem_of_getElem? (i := 1203) (by decide +kernel), List.mem_of_getElem? (i := 1204) (by decide +kernel)⟩
theorem lw_p67 : lw_okq (⟨"EarlyTokenModel", "isBeaconing", "(I)V"⟩, 7) := ⟨⟨by decide +kernel, by decide +kernel⟩, List.mem_of_getElem? (i := 875) (by decide +kernel), List.mem_of_getElem? (i := 1207) (by decide +kernel), List.mem_of_getElem? (i := 1208) (by decide +kernel)⟩
theorem lw_p68 : lw_okq (⟨"EarlyTokenModel", "beacons", "(I)V"⟩, 7) := ⟨⟨by decide +kernel, by decide +kernel⟩, List.mem_of_getElem? (i := 875) (by decide +kernel), List.mem_of_getElem? (i := 1211) (by decide +kernel), List.mem_of_getElem? (i := 1212) (by decide +kernel)⟩
theorem lw_p69 : lw_okq (⟨"EarlyTokenModel", "inMany", "()I"⟩, 7) := ⟨⟨by decide +kernel, by decide +kernel⟩, List.mem_of_getElem? (i := 875) (by decide +kernel), List.mem_of_getElem? (i := 1219) (by decide +kernel), List.mem_of_getElem? (i := 1220) (by decide +kernel)⟩
theorem lw_p70 : lw_okq (⟨"EarlyTokenModel", "loses", "()I"⟩, 7) := ⟨⟨by decide +kernel, by decide +kernel⟩, List.mem_of_getElem? (i := 875) (by decide +kernel), List.mem_of_getElem? (i := 1227) (by decide +kernel), List.mem_of_getElem? (i := 1228) (by decide +kernel)⟩
theorem lw_p71 : lw_okq (⟨"EarlyTokenModel", "draw", "(I)I"⟩, 7) := ⟨⟨by decide +kernel, by decide +kernel⟩, List.mem_of_getElem? (i := 875) (by decide +kernel), List.mem_of_getElem? (i := 1243) (by decide +kernel), List.mem_of_getElem? (i := 1244) (by decide +kernel)⟩
theorem lw_p72 : lw_okq (⟨"EarlyTokenModel", "isSure", "(III)Z"⟩, 7) := ⟨⟨by decide +kernel, by decide +kernel⟩, List.mem_of_getElem? (i := 875) (by decide +kernel), List.mem_of_getElem? (i := 1253) (by decide +kernel), List.mem_of_getElem? (i := 1254) (by decide +kernel)⟩
theorem lw_p73 : lw_okq (⟨"EarlyTokenModel", "dealtBy", "(III)I"⟩, 7) := ⟨⟨by decide +kernel, by decide +kernel⟩, List.mem_of_getElem? (i := 875) (by decide +kernel), List.mem_of_getElem? (i := 1261) (by decide +kernel), List.mem_of_getElem? (i := 1262) (by decide +kernel)⟩
theorem lw_p74 : lw_okq (⟨"EarlyTokenModel", "spareOf", "(I)I"⟩, 7) := ⟨⟨by decide +kernel, by decide +kernel⟩, List.mem_of_getElem? (i := 875) (by decide +kernel), List.mem_of_getElem? (i := 1265) (by decide +kernel), List.mem_of_getElem? (i := 1266) (by decide +kernel)⟩
theorem lw_p75 : lw_okq (⟨"EarlyTokenModel", "loads", "()I"⟩, 7) := ⟨⟨by decide +kernel, by decide +kernel⟩, List.mem_of_getElem? (i := 875) (by decide +kernel), List.mem_of_getElem? (i := 1269) (by decide +kernel), List.mem_of_getElem? (i := 1270) (by decide +kernel)⟩
theorem lw_p76 : lw_okq (⟨"EarlyTokenModel", "loadOf", "(I)I"⟩, 7) := ⟨⟨by decide +kernel, by decide +kernel⟩, List.mem_of_getElem? (i := 875) (by decide +kernel), List.mem_of_getElem? (i := 1273) (by decide +kernel), List.mem_of_getElem? (i := 1274) (by decide +kernel)⟩
theorem lw_p77 : lw_okq (⟨"EarlyTokenModel", "hasStream", "(I)Z"⟩, 7) := ⟨⟨by decide +kernel, by decide +kernel⟩, List.mem_of_getElem? (i := 875) (by decide +kernel), List.mem_of_getElem? (i := 1277) (by decide +kernel), List.mem_of_getElem? (i := 1278) (by decide +kernel)⟩
theorem lw_p78 : lw_okq (⟨"EarlyTokenModel", "fitsBy", "(II)Z"⟩, 7) := ⟨⟨by decide +kernel, by decide +kernel⟩, List.mem_of_getElem? (i := 875) (by decide +kernel), List.mem_of_getElem? (i := 1286) (by decide +kernel), List.mem_of_getElem? (i := 1287) (by decide +kernel)⟩
theorem lw_p79 : lw_okq (⟨"EarlyTokenModel", "tokens", "()I"⟩, 7) := ⟨⟨by decide +kernel, by decide +kernel⟩, List.mem_of_getElem? (i := 875) (by decide +kernel), List.mem_of_getElem? (i := 1313) (by decide +kernel), List.mem_of_getElem? (i := 1314) (by decide +kernel)⟩
def lw_privs_5 : List (MethodName × Nat) := [(⟨"EarlyTokenModel", "isUpNow", "(I)V"⟩, 7), (⟨"EarlyTokenModel", "isClaimingNow", "(I)V"⟩, 7), (⟨"EarlyTokenModel", "isAgo", "(III)Z"⟩, 7), (⟨"EarlyTokenModel", "isBeaconing", "(I)V"⟩, 7), (⟨"EarlyTokenModel", "beacons", "(I)V"⟩, 7), (⟨"EarlyTokenModel", "inMany", "()I"⟩, 7), (⟨"EarlyTokenModel", "loses", "()I"⟩, 7), (⟨"EarlyTokenModel", "draw", "(I)I"⟩, 7), (⟨"EarlyTokenModel", "isSure", "(III)Z"⟩, 7), (⟨"EarlyTokenModel", "dealtBy", "(III)I"⟩, 7), (⟨"EarlyTokenModel", "spareOf", "(I)I"⟩, 7), (⟨"EarlyTokenModel", "loads", "()I"⟩, 7), (⟨"EarlyTokenModel", "loadOf", "(I)I"⟩, 7), (⟨"EarlyTokenModel", "hasStream", "(I)Z"⟩, 7), (⟨"EarlyTokenModel", "fitsBy", "(II)Z"⟩, 7), (⟨"EarlyTokenModel", "tokens", "()I"⟩, 7)]
theorem lw_r5 : ∀ q ∈ lw_privs_5, lw_okq q := List.forall_mem_cons.mpr ⟨lw_p64, List.forall_mem_cons.mpr ⟨lw_p65, List.forall_mem_cons.mpr ⟨lw_p66, List.forall_mem_cons.mpr ⟨lw_p67, List.forall_mem_cons.mpr ⟨lw_p68, List.forall_mem_cons.mpr ⟨lw_p69, List.forall_mem_cons.mpr ⟨lw_p70, List.forall_mem_cons.mpr ⟨lw_p71, List.forall_mem_cons.mpr ⟨lw_p72, List.forall_mem_cons.mpr ⟨lw_p73, List.forall_mem_cons.mpr ⟨lw_p74, List.forall_mem_cons.mpr ⟨lw_p75, List.forall_mem_cons.mpr ⟨lw_p76, List.forall_mem_cons.mpr ⟨lw_p77, List.forall_mem_cons.mpr ⟨lw_p78, List.forall_mem_cons.mpr ⟨lw_p79, fun _ h => absurd h List.not_mem_nil⟩⟩⟩⟩⟩⟩⟩⟩⟩⟩⟩⟩⟩⟩⟩⟩
theorem lw_p80 : lw_okq (⟨"EarlyTokenModel", "thinks", "()V"⟩, 7) := ⟨⟨by decide +kernel, by decide +kernel⟩, List.mem_of_getElem? (i := 875) (by decide +kernel), List.mem_of_getElem? (i := 1317) (by decide +kernel), List.mem_of_getElem? (i := 1318) (by decide +kernel)⟩
theorem lw_p81 : lw_okq (⟨"EarlyTokenModel", "allUpSince", "(I)I"⟩, 7) := ⟨⟨by decide +kernel, by decide +kernel⟩, List.mem_of_getElem? (i := 875) (by decide +kernel), List.mem_of_getElem? (i := 1321) (by decide +kernel), List.mem_of_getElem? (i := 1322) (by decide +kernel)⟩
theorem lw_p82 : lw_okq (⟨"EarlyTokenModel", "forgets", "()V"⟩, 7) := ⟨⟨by decide +kernel, by decide +kernel⟩, List.mem_of_getElem? (i := 875) (by decide +kernel), List.mem_of_getElem? (i := 1325) (by decide +kernel), List.mem_of_getElem? (i := 1326) (by decide +kernel)⟩
theorem lw_p83 : lw_okq (⟨"EarlyTokenModel", "setOf", "(I)I"⟩, 7) := ⟨⟨by decide +kernel, by decide +kernel⟩, List.mem_of_getElem? (i := 875) (by decide +kernel), List.mem_of_getElem? (i := 1333) (by decide +kernel), List.mem_of_getElem? (i := 1334) (by decide +kernel)⟩
theorem lw_p84 : lw_okq (⟨"EarlyTokenModel", "onesOf", "(I)I"⟩, 7) := ⟨⟨by decide +kernel, by decide +kernel⟩, List.mem_of_getElem? (i := 875) (by decide +kernel), List.mem_of_getElem? (i := 1337) (by decide +kernel), List.mem_of_getElem? (i := 1338) (by decide +kernel)⟩
theorem lw_p85 : lw_okq (⟨"EarlyTokenModel", "sumOf", "(I)I"⟩, 7) := ⟨⟨by decide +kernel, by decide +kernel⟩, List.mem_of_getElem? (i := 875) (by decide +kernel), List.mem_of_getElem? (i := 1341) (by decide +kernel), List.mem_of_getElem? (i := 1342) (by decide +kernel)⟩
theorem lw_p86 : lw_okq (⟨"EarlyTokenModel", "longestTrip", "()I"⟩, 7) := ⟨⟨by decide +kernel, by decide +kernel⟩, List.mem_of_getElem? (i := 875) (by decide +kernel), List.mem_of_getElem? (i := 1345) (by decide +kernel), List.mem_of_getElem? (i := 1346) (by decide +kernel)⟩
theorem lw_p87 : lw_okq (⟨"EarlyTokenModel", "lookAtUp", "(II)I"⟩, 7) := ⟨⟨by decide +kernel, by decide +kernel⟩, List.mem_of_getElem? (i := 875) (by decide +kernel), List.mem_of_getElem? (i := 1357) (by decide +kernel), List.mem_of_getElem? (i := 1358) (by decide +kernel)⟩
theorem lw_p88 : lw_okq (⟨"EarlyTokenModel", "whose", "(I)I"⟩, 7) := ⟨⟨by decide +kernel, by decide +kernel⟩, List.mem_of_getElem? (i := 875) (by decide +kernel), List.mem_of_getElem? (i := 1361) (by decide +kernel), List.mem_of_getElem? (i := 1362) (by decide +kernel)⟩
theorem lw_p89 : lw_okq (⟨"EarlyTokenModel", "outs", "()I"⟩, 7) := ⟨⟨by decide +kernel, by decide +kernel⟩, List.mem_of_getElem? (i := 875) (by decide +kernel), List.mem_of_getElem? (i := 1397) (by decide +kernel), List.mem_of_getElem? (i := 1398) (by decide +kernel)⟩
theorem lw_p90 : lw_okq (⟨"EarlyTokenModel", "leastTarget", "()I"⟩, 7) := ⟨⟨by decide +kernel, by decide +kernel⟩, List.mem_of_getElem? (i := 875) (by decide +kernel), List.mem_of_getElem? (i := 1401) (by decide +kernel), List.mem_of_getElem? (i := 1402) (by decide +kernel)⟩
def lw_privs_6 : List (MethodName × Nat) := [(⟨"EarlyTokenModel", "thinks", "()V"⟩, 7), (⟨"EarlyTokenModel", "allUpSince", "(I)I"⟩, 7), (⟨"EarlyTokenModel", "forgets", "()V"⟩, 7), (⟨"EarlyTokenModel", "setOf", "(I)I"⟩, 7), (⟨"EarlyTokenModel", "onesOf", "(I)I"⟩, 7), (⟨"EarlyTokenModel", "sumOf", "(I)I"⟩, 7), (⟨"EarlyTokenModel", "longestTrip", "()I"⟩, 7), (⟨"EarlyTokenModel", "lookAtUp", "(II)I"⟩, 7), (⟨"EarlyTokenModel", "whose", "(I)I"⟩, 7), (⟨"EarlyTokenModel", "outs", "()I"⟩, 7), (⟨"EarlyTokenModel", "leastTarget", "()I"⟩, 7)]
theorem lw_r6 : ∀ q ∈ lw_privs_6, lw_okq q := List.forall_mem_cons.mpr ⟨lw_p80, List.forall_mem_cons.mpr ⟨lw_p81, List.forall_mem_cons.mpr ⟨lw_p82, List.forall_mem_cons.mpr ⟨lw_p83, List.forall_mem_cons.mpr ⟨lw_p84, List.forall_mem_cons.mpr ⟨lw_p85, List.forall_mem_cons.mpr ⟨lw_p86, List.forall_mem_cons.mpr ⟨lw_p87, List.forall_mem_cons.mpr ⟨lw_p88, List.forall_mem_cons.mpr ⟨lw_p89, List.forall_mem_cons.mpr ⟨lw_p90, fun _ h => absurd h List.not_mem_nil⟩⟩⟩⟩⟩⟩⟩⟩⟩⟩⟩
def lw_privs : List (MethodName × Nat) := lw_privs_1 ++ (lw_privs_2 ++ (lw_privs_3 ++ (lw_privs_4 ++ (lw_privs_5 ++ (lw_privs_6)))))
def lw_tbl : List Cond := k2_sels lw_privs ++ tables_1
theorem lw_privs_ok : ∀ q ∈ lw_privs, lw_okq q := by
  show ∀ q ∈ lw_privs_1 ++ (lw_privs_2 ++ (lw_privs_3 ++ (lw_privs_4 ++ (lw_privs_5 ++ (lw_privs_6))))), lw_okq q
  exact List.forall_mem_append.mpr ⟨lw_r1, List.forall_mem_append.mpr ⟨lw_r2, List.forall_mem_append.mpr ⟨lw_r3, List.forall_mem_append.mpr ⟨lw_r4, List.forall_mem_append.mpr ⟨lw_r5, lw_r6⟩⟩⟩⟩⟩
/-! ===== BEGIN words of one list among another's, by their places ===== -/
theorem goodIn_r {big : List Cond} (ws : List Cond) (ps : List Nat) (hp : ws = ps.filterMap (fun i => big[i]?)) (h : ws.all goodWord = true) : GoodIn big ws := by
  intro w hw
  have h1 := List.all_eq_true.mp h w hw
  rw [hp] at hw
  obtain ⟨i, -, hi⟩ := List.mem_filterMap.mp hw
  have hm : w ∈ big := by first | exact List.mem_of_getElem? hi | exact List.getElem?_mem hi
  exact ⟨hm, good_of_word h1⟩
theorem goodIn_app {big a b : List Cond} (ha : GoodIn big a) (hb : GoodIn big b) : GoodIn big (a ++ b) := fun w h => (List.mem_append.mp h).elim (ha w) (hb w)
theorem goodIn_ca {big a b : List Cond} {c : Cond} (ha : GoodIn big (c :: a)) (hb : GoodIn big b) : GoodIn big (c :: (a ++ b)) := fun w h => (List.mem_cons.mp h).elim (fun e => ha w (List.mem_cons.mpr (Or.inl e))) (fun h => (List.mem_append.mp h).elim (fun h => ha w (List.mem_cons.mpr (Or.inr h))) (hb w))
theorem goodIn_sub {big ws : List Cond} (hm : ∀ w ∈ ws, w ∈ big) (h : ws.all goodWord = true) : GoodIn big ws := fun w hw => ⟨hm w hw, good_of_word (List.all_eq_true.mp h w hw)⟩
/-! ===== END ===== -/

/-! ===== BEGIN printed: names, fields, word lists, decode rows ===== -/
def RX0 : String := "EarlyToken$Claim"
def TX0 : u_T := fun k => match k with
  | 0 => ("EarlyToken$Claim", "bid", "I", false)
  | 1 => ("EarlyToken$Claim", "whose", "I", false)
  | _ => ("EarlyToken$Claim", "number", "I", false)
def tyX0 : Nat → FieldType := fun k => match k with
  | 0 => .int
  | 1 => .int
  | _ => .int
abbrev wsX00 : List Cond := u_ws RX0 TX0 3
theorem nmX0 : ∀ a, a < 3 → ∀ b, b < 3 → a ≠ b → (TX0 a).2.1 ≠ (TX0 b).2.1 := by decide +kernel
theorem tyX0_ok : ∀ k, k < 3 → parseFieldDescriptor (TX0 k).2.2.1 = some (tyX0 k) := by decide +kernel
abbrev cX0_init : ByteArray := prog_2_method_1_code
def yX0_init : MethodName := ⟨RX0, "<init>", "()V"⟩
abbrev cX0_become : ByteArray := prog_2_method_2_code
def yX0_become : MethodName := ⟨RX0, "become", "(III)V"⟩
abbrev cX0_become_ : ByteArray := prog_2_method_3_code
def yX0_become_ : MethodName := ⟨RX0, "become", "(LEarlyToken$Claim;)V"⟩
abbrev cX0_isSame : ByteArray := prog_2_method_4_code
def yX0_isSame : MethodName := ⟨RX0, "isSame", "(LEarlyToken$Claim;)Z"⟩
abbrev cX0_isBetter : ByteArray := prog_2_method_5_code
def yX0_isBetter : MethodName := ⟨RX0, "isBetter", "(LEarlyToken$Claim;)Z"⟩
def RX1 : String := "EarlyToken$Hold"
def TX1 : u_T := fun k => match k with
  | 0 => ("EarlyToken$Hold", "isHeld", "Z", false)
  | 1 => ("EarlyToken$Hold", "left", "I", false)
  | 2 => ("EarlyToken$Hold", "shareLeft", "I", false)
  | 3 => ("EarlyToken$Hold", "sending", "I", false)
  | 4 => ("EarlyToken$Hold", "ticksLeft", "I", false)
  | 5 => ("EarlyToken$Hold", "size", "I", false)
  | 6 => ("EarlyToken$Hold", "frameAt", "I", false)
  | 7 => ("EarlyToken$Hold", "isVoid", "Z", false)
  | 8 => ("EarlyToken$Hold", "restTicks", "I", false)
  | 9 => ("EarlyToken$Hold", "frameTicks", "I", false)
  | 10 => ("EarlyToken$Hold", "cameAt", "I", false)
  | _ => ("EarlyToken$Hold", "wentAt", "I", false)
def tyX1 : Nat → FieldType := fun k => match k with
  | 0 => .boolean
  | 1 => .int
  | 2 => .int
  | 3 => .int
  | 4 => .int
  | 5 => .int
  | 6 => .int
  | 7 => .boolean
  | 8 => .int
  | 9 => .int
  | 10 => .int
  | _ => .int
abbrev wsX10 : List Cond := u_ws RX1 TX1 12
theorem nmX1 : ∀ a, a < 12 → ∀ b, b < 12 → a ≠ b → (TX1 a).2.1 ≠ (TX1 b).2.1 := by decide +kernel
theorem tyX1_ok : ∀ k, k < 12 → parseFieldDescriptor (TX1 k).2.2.1 = some (tyX1 k) := by decide +kernel
abbrev cX1_init : ByteArray := prog_3_method_1_code
def yX1_init : MethodName := ⟨RX1, "<init>", "()V"⟩
abbrev cX1_become : ByteArray := prog_3_method_2_code
def yX1_become : MethodName := ⟨RX1, "become", "(LEarlyToken$Hold;)V"⟩
abbrev cX1_take : ByteArray := prog_3_method_3_code
def yX1_take : MethodName := ⟨RX1, "take", "(III)V"⟩
abbrev cX1_start : ByteArray := prog_3_method_4_code
def yX1_start : MethodName := ⟨RX1, "start", "(III)V"⟩
abbrev cX1_drop : ByteArray := prog_3_method_5_code
def yX1_drop : MethodName := ⟨RX1, "drop", "()V"⟩
abbrev cX1_voidRest : ByteArray := prog_3_method_6_code
def yX1_voidRest : MethodName := ⟨RX1, "voidRest", "()V"⟩
abbrev cX1_sendTick : ByteArray := prog_3_method_7_code
def yX1_sendTick : MethodName := ⟨RX1, "sendTick", "()V"⟩
def RX2 : String := "EarlyToken$Lines"
def TX2 : u_T := fun k => match k with
  | 0 => ("EarlyToken$Lines", "limit", "I", true)
  | 1 => ("EarlyToken$Lines", "columns", "I", true)
  | 2 => ("EarlyToken$Lines", "cells", "[[I", true)
  | _ => ("EarlyToken$Lines", "all", "I", false)
def tyX2 : Nat → FieldType := fun k => match k with
  | 0 => .int
  | 1 => .int
  | 2 => .array (.array .int)
  | _ => .int
abbrev wsX20 : List Cond := u_ws RX2 TX2 4
theorem nmX2 : ∀ a, a < 4 → ∀ b, b < 4 → a ≠ b → (TX2 a).2.1 ≠ (TX2 b).2.1 := by decide +kernel
theorem tyX2_ok : ∀ k, k < 4 → parseFieldDescriptor (TX2 k).2.2.1 = some (tyX2 k) := by decide +kernel
abbrev cX2_init : ByteArray := prog_4_method_1_code
def yX2_init : MethodName := ⟨RX2, "<init>", "(II)V"⟩
abbrev cX2_become : ByteArray := prog_4_method_2_code
def yX2_become : MethodName := ⟨RX2, "become", "(LEarlyToken$Lines;)V"⟩
abbrev cX2_open : ByteArray := prog_4_method_3_code
def yX2_open : MethodName := ⟨RX2, "open", "()V"⟩
abbrev cX2_put : ByteArray := prog_4_method_4_code
def yX2_put : MethodName := ⟨RX2, "put", "(II)V"⟩
abbrev cX2_at : ByteArray := prog_4_method_5_code
def yX2_at : MethodName := ⟨RX2, "at", "(II)I"⟩
def RX3 : String := "EarlyToken$Ring"
def TX3 : u_T := fun k => match k with
  | 0 => ("EarlyToken$Ring", "n", "I", false)
  | 1 => ("EarlyToken$Ring", "now", "I", false)
  | 2 => ("EarlyToken$Ring", "drawn", "I", false)
  | 3 => ("EarlyToken$Ring", "cuts", "I", false)
  | 4 => ("EarlyToken$Ring", "told", "[I", true)
  | 5 => ("EarlyToken$Ring", "delays", "[I", true)
  | 6 => ("EarlyToken$Ring", "stations", "[LEarlyToken$Station;", true)
  | 7 => ("EarlyToken$Ring", "post", "LEarlyToken$Rows;", true)
  | 8 => ("EarlyToken$Ring", "log", "LEarlyToken$Lines;", true)
  | 9 => ("EarlyToken$Ring", "book", "LEarlyToken$Lines;", true)
  | 10 => ("EarlyToken$Ring", "counts", "[I", true)
  | 11 => ("EarlyToken$Ring", "carried", "LEarlyToken$Claim;", true)
  | _ => ("EarlyToken$Ring", "askedWaited", "I", false)
def tyX3 : Nat → FieldType := fun k => match k with
  | 0 => .int
  | 1 => .int
  | 2 => .int
  | 3 => .int
  | 4 => .array .int
  | 5 => .array .int
  | 6 => .array (.object "EarlyToken$Station")
  | 7 => .object "EarlyToken$Rows"
  | 8 => .object "EarlyToken$Lines"
  | 9 => .object "EarlyToken$Lines"
  | 10 => .array .int
  | 11 => .object "EarlyToken$Claim"
  | _ => .int
abbrev wsX30 : List Cond := u_ws RX3 TX3 13
theorem nmX3 : ∀ a, a < 13 → ∀ b, b < 13 → a ≠ b → (TX3 a).2.1 ≠ (TX3 b).2.1 := by decide +kernel
theorem tyX3_ok : ∀ k, k < 13 → parseFieldDescriptor (TX3 k).2.2.1 = some (tyX3 k) := by decide +kernel
abbrev cX3_init : ByteArray := prog_5_method_1_code
def yX3_init : MethodName := ⟨RX3, "<init>", "()V"⟩
abbrev cX3_become : ByteArray := prog_5_method_2_code
def yX3_become : MethodName := ⟨RX3, "become", "(LEarlyToken$Ring;)V"⟩
abbrev cX3_has : ByteArray := prog_5_method_3_code
def yX3_has : MethodName := ⟨RX3, "has", "(I)Z"⟩
abbrev cX3_after : ByteArray := prog_5_method_4_code
def yX3_after : MethodName := ⟨RX3, "after", "(I)I"⟩
abbrev cX3_before : ByteArray := prog_5_method_5_code
def yX3_before : MethodName := ⟨RX3, "before", "(I)I"⟩
abbrev cX3_isCut : ByteArray := prog_5_method_6_code
def yX3_isCut : MethodName := ⟨RX3, "isCut", "(I)Z"⟩
abbrev cX3_latency : ByteArray := prog_5_method_7_code
def yX3_latency : MethodName := ⟨RX3, "latency", "()I"⟩
abbrev cX3_countIn : ByteArray := prog_5_method_8_code
def yX3_countIn : MethodName := ⟨RX3, "countIn", "()I"⟩
abbrev cX3_outSet : ByteArray := prog_5_method_9_code
def yX3_outSet : MethodName := ⟨RX3, "outSet", "()I"⟩
abbrev cX3_kindSet : ByteArray := prog_5_method_10_code
def yX3_kindSet : MethodName := ⟨RX3, "kindSet", "(I)I"⟩
abbrev cX3_leastTarget : ByteArray := prog_5_method_11_code
def yX3_leastTarget : MethodName := ⟨RX3, "leastTarget", "()I"⟩
abbrev cX3_floor : ByteArray := prog_5_method_12_code
def yX3_floor : MethodName := ⟨RX3, "floor", "()I"⟩
abbrev cX3_allShares : ByteArray := prog_5_method_13_code
def yX3_allShares : MethodName := ⟨RX3, "allShares", "()I"⟩
abbrev cX3_isWithinFloor : ByteArray := prog_5_method_14_code
def yX3_isWithinFloor : MethodName := ⟨RX3, "isWithinFloor", "()Z"⟩
abbrev cX3_spare : ByteArray := prog_5_method_15_code
def yX3_spare : MethodName := ⟨RX3, "spare", "(I)I"⟩
abbrev cX3_loadOf : ByteArray := prog_5_method_16_code
def yX3_loadOf : MethodName := ⟨RX3, "loadOf", "(LEarlyToken$Station;)J"⟩
abbrev cX3_allLoads : ByteArray := prog_5_method_17_code
def yX3_allLoads : MethodName := ⟨RX3, "allLoads", "()J"⟩
abbrev cX3_dealtTo : ByteArray := prog_5_method_18_code
def yX3_dealtTo : MethodName := ⟨RX3, "dealtTo", "(III)I"⟩
abbrev cX3_schemeFits : ByteArray := prog_5_method_19_code
def yX3_schemeFits : MethodName := ⟨RX3, "schemeFits", "(II)Z"⟩
abbrev cX3_allTallied : ByteArray := prog_5_method_20_code
def yX3_allTallied : MethodName := ⟨RX3, "allTallied", "(I)I"⟩
abbrev cX3_longestTrip : ByteArray := prog_5_method_21_code
def yX3_longestTrip : MethodName := ⟨RX3, "longestTrip", "()I"⟩
abbrev cX3_countTokens : ByteArray := prog_5_method_22_code
def yX3_countTokens : MethodName := ⟨RX3, "countTokens", "()I"⟩
abbrev cX3_loseTokens : ByteArray := prog_5_method_23_code
def yX3_loseTokens : MethodName := ⟨RX3, "loseTokens", "()I"⟩
abbrev cX3_winnerSince : ByteArray := prog_5_method_24_code
def yX3_winnerSince : MethodName := ⟨RX3, "winnerSince", "(I)I"⟩
abbrev cX3_draw : ByteArray := prog_5_method_25_code
def yX3_draw : MethodName := ⟨RX3, "draw", "(I)I"⟩
abbrev cX3_canFrame : ByteArray := prog_5_method_26_code
def yX3_canFrame : MethodName := ⟨RX3, "canFrame", "(IIII)Z"⟩
abbrev cX3_queue : ByteArray := prog_5_method_27_code
def yX3_queue : MethodName := ⟨RX3, "queue", "(IIII)I"⟩
abbrev cX3_note : ByteArray := prog_5_method_28_code
def yX3_note : MethodName := ⟨RX3, "note", "(III)V"⟩
abbrev cX3_send : ByteArray := prog_5_method_29_code
def yX3_send : MethodName := ⟨RX3, "send", "(IILEarlyToken$Claim;)V"⟩
abbrev cX3_beginToClaim : ByteArray := prog_5_method_30_code
def yX3_beginToClaim : MethodName := ⟨RX3, "beginToClaim", "(LEarlyToken$Station;LEarlyToken$Claim;)V"⟩
abbrev cX3_beginToBeacon : ByteArray := prog_5_method_31_code
def yX3_beginToBeacon : MethodName := ⟨RX3, "beginToBeacon", "(LEarlyToken$Station;)V"⟩
abbrev cX3_sendBeacon : ByteArray := prog_5_method_32_code
def yX3_sendBeacon : MethodName := ⟨RX3, "sendBeacon", "(LEarlyToken$Station;)V"⟩
abbrev cX3_advance : ByteArray := prog_5_method_33_code
def yX3_advance : MethodName := ⟨RX3, "advance", "()V"⟩
abbrev cX3_comes : ByteArray := prog_5_method_34_code
def yX3_comes : MethodName := ⟨RX3, "comes", "(I)V"⟩
abbrev cX3_claimComes : ByteArray := prog_5_method_35_code
def yX3_claimComes : MethodName := ⟨RX3, "claimComes", "(LEarlyToken$Station;LEarlyToken$Claim;)V"⟩
abbrev cX3_compareClaim : ByteArray := prog_5_method_36_code
def yX3_compareClaim : MethodName := ⟨RX3, "compareClaim", "(LEarlyToken$Station;LEarlyToken$Claim;)V"⟩
abbrev cX3_beaconComes : ByteArray := prog_5_method_37_code
def yX3_beaconComes : MethodName := ⟨RX3, "beaconComes", "(LEarlyToken$Station;LEarlyToken$Claim;)V"⟩
abbrev cX3_tokenComes : ByteArray := prog_5_method_38_code
def yX3_tokenComes : MethodName := ⟨RX3, "tokenComes", "(LEarlyToken$Station;LEarlyToken$Claim;)V"⟩
abbrev cX3_goOnStreaming : ByteArray := prog_5_method_39_code
def yX3_goOnStreaming : MethodName := ⟨RX3, "goOnStreaming", "(LEarlyToken$Station;)V"⟩
abbrev cX3_takeTurn : ByteArray := prog_5_method_40_code
def yX3_takeTurn : MethodName := ⟨RX3, "takeTurn", "(LEarlyToken$Station;)V"⟩
abbrev cX3_isOutOfPatience : ByteArray := prog_5_method_41_code
def yX3_isOutOfPatience : MethodName := ⟨RX3, "isOutOfPatience", "(LEarlyToken$Station;)Z"⟩
abbrev cX3_sendAgain : ByteArray := prog_5_method_42_code
def yX3_sendAgain : MethodName := ⟨RX3, "sendAgain", "(LEarlyToken$Station;)V"⟩
abbrev cX3_watchDue : ByteArray := prog_5_method_43_code
def yX3_watchDue : MethodName := ⟨RX3, "watchDue", "(LEarlyToken$Station;)V"⟩
abbrev cX3_goOnHolding : ByteArray := prog_5_method_44_code
def yX3_goOnHolding : MethodName := ⟨RX3, "goOnHolding", "(LEarlyToken$Station;)V"⟩
abbrev cX3_startsNext : ByteArray := prog_5_method_45_code
def yX3_startsNext : MethodName := ⟨RX3, "startsNext", "(LEarlyToken$Station;)Z"⟩
abbrev cX3_letGo : ByteArray := prog_5_method_46_code
def yX3_letGo : MethodName := ⟨RX3, "letGo", "(LEarlyToken$Station;)V"⟩
abbrev cX3_frameToSend : ByteArray := prog_5_method_47_code
def yX3_frameToSend : MethodName := ⟨RX3, "frameToSend", "(LEarlyToken$Station;)I"⟩
abbrev cX3_endFrame : ByteArray := prog_5_method_48_code
def yX3_endFrame : MethodName := ⟨RX3, "endFrame", "(LEarlyToken$Station;)V"⟩
def RX4 : String := "EarlyToken$Rows"
def TX4 : u_T := fun k => match k with
  | 0 => ("EarlyToken$Rows", "limit", "I", true)
  | 1 => ("EarlyToken$Rows", "columns", "I", true)
  | 2 => ("EarlyToken$Rows", "cells", "[[I", true)
  | _ => ("EarlyToken$Rows", "size", "I", false)
def tyX4 : Nat → FieldType := fun k => match k with
  | 0 => .int
  | 1 => .int
  | 2 => .array (.array .int)
  | _ => .int
abbrev wsX40 : List Cond := u_ws RX4 TX4 4
theorem nmX4 : ∀ a, a < 4 → ∀ b, b < 4 → a ≠ b → (TX4 a).2.1 ≠ (TX4 b).2.1 := by decide +kernel
theorem tyX4_ok : ∀ k, k < 4 → parseFieldDescriptor (TX4 k).2.2.1 = some (tyX4 k) := by decide +kernel
abbrev cX4_init : ByteArray := prog_6_method_1_code
def yX4_init : MethodName := ⟨RX4, "<init>", "(II)V"⟩
abbrev cX4_become : ByteArray := prog_6_method_2_code
def yX4_become : MethodName := ⟨RX4, "become", "(LEarlyToken$Rows;)V"⟩
abbrev cX4_isFull : ByteArray := prog_6_method_3_code
def yX4_isFull : MethodName := ⟨RX4, "isFull", "()Z"⟩
abbrev cX4_open : ByteArray := prog_6_method_4_code
def yX4_open : MethodName := ⟨RX4, "open", "()I"⟩
abbrev cX4_put : ByteArray := prog_6_method_5_code
def yX4_put : MethodName := ⟨RX4, "put", "(III)V"⟩
abbrev cX4_at : ByteArray := prog_6_method_6_code
def yX4_at : MethodName := ⟨RX4, "at", "(II)I"⟩
abbrev cX4_remove : ByteArray := prog_6_method_7_code
def yX4_remove : MethodName := ⟨RX4, "remove", "(I)V"⟩
abbrev cX4_countOf : ByteArray := prog_6_method_8_code
def yX4_countOf : MethodName := ⟨RX4, "countOf", "(II)I"⟩
abbrev cX4_removeAll : ByteArray := prog_6_method_9_code
def yX4_removeAll : MethodName := ⟨RX4, "removeAll", "(II)I"⟩
abbrev cX4_ranked : ByteArray := prog_6_method_10_code
def yX4_ranked : MethodName := ⟨RX4, "ranked", "(II)I"⟩
def RX5 : String := "EarlyToken$Station"
def TX5 : u_T := fun k => match k with
  | 0 => ("EarlyToken$Station", "me", "I", true)
  | 1 => ("EarlyToken$Station", "bid", "I", false)
  | 2 => ("EarlyToken$Station", "share", "I", false)
  | 3 => ("EarlyToken$Station", "isOut", "Z", false)
  | 4 => ("EarlyToken$Station", "kind", "I", false)
  | 5 => ("EarlyToken$Station", "since", "I", false)
  | 6 => ("EarlyToken$Station", "goesBy", "LEarlyToken$Claim;", true)
  | 7 => ("EarlyToken$Station", "best", "LEarlyToken$Claim;", true)
  | 8 => ("EarlyToken$Station", "claims", "I", false)
  | 9 => ("EarlyToken$Station", "sentAt", "I", false)
  | 10 => ("EarlyToken$Station", "heardAt", "I", false)
  | 11 => ("EarlyToken$Station", "heardOf", "I", false)
  | 12 => ("EarlyToken$Station", "due", "I", false)
  | 13 => ("EarlyToken$Station", "late", "I", false)
  | 14 => ("EarlyToken$Station", "rounds", "I", false)
  | 15 => ("EarlyToken$Station", "stream", "LEarlyToken$Stream;", true)
  | 16 => ("EarlyToken$Station", "hold", "LEarlyToken$Hold;", true)
  | 17 => ("EarlyToken$Station", "line", "LEarlyToken$Rows;", true)
  | _ => ("EarlyToken$Station", "tally", "[I", true)
def tyX5 : Nat → FieldType := fun k => match k with
  | 0 => .int
  | 1 => .int
  | 2 => .int
  | 3 => .boolean
  | 4 => .int
  | 5 => .int
  | 6 => .object "EarlyToken$Claim"
  | 7 => .object "EarlyToken$Claim"
  | 8 => .int
  | 9 => .int
  | 10 => .int
  | 11 => .int
  | 12 => .int
  | 13 => .int
  | 14 => .int
  | 15 => .object "EarlyToken$Stream"
  | 16 => .object "EarlyToken$Hold"
  | 17 => .object "EarlyToken$Rows"
  | _ => .array .int
abbrev wsX50 : List Cond := u_ws RX5 TX5 19
theorem nmX5 : ∀ a, a < 19 → ∀ b, b < 19 → a ≠ b → (TX5 a).2.1 ≠ (TX5 b).2.1 := by decide +kernel
theorem tyX5_ok : ∀ k, k < 19 → parseFieldDescriptor (TX5 k).2.2.1 = some (tyX5 k) := by decide +kernel
abbrev cX5_init : ByteArray := prog_7_method_1_code
def yX5_init : MethodName := ⟨RX5, "<init>", "(I)V"⟩
abbrev cX5_become : ByteArray := prog_7_method_2_code
def yX5_become : MethodName := ⟨RX5, "become", "(LEarlyToken$Station;)V"⟩
abbrev cX5_view : ByteArray := prog_7_method_3_code
def yX5_view : MethodName := ⟨RX5, "view", "(II)I"⟩
abbrev cX5_follows : ByteArray := prog_7_method_4_code
def yX5_follows : MethodName := ⟨RX5, "follows", "()I"⟩
abbrev cX5_isBestOwn : ByteArray := prog_7_method_5_code
def yX5_isBestOwn : MethodName := ⟨RX5, "isBestOwn", "()Z"⟩
abbrev cX5_goUp : ByteArray := prog_7_method_6_code
def yX5_goUp : MethodName := ⟨RX5, "goUp", "(LEarlyToken$Claim;I)V"⟩
abbrev cX5_takeToken : ByteArray := prog_7_method_7_code
def yX5_takeToken : MethodName := ⟨RX5, "takeToken", "(I)V"⟩
abbrev cX5_endRest : ByteArray := prog_7_method_8_code
def yX5_endRest : MethodName := ⟨RX5, "endRest", "()V"⟩
def RX6 : String := "EarlyToken$Stream"
def TX6 : u_T := fun k => match k with
  | 0 => ("EarlyToken$Stream", "period", "I", false)
  | 1 => ("EarlyToken$Stream", "length", "I", false)
  | _ => ("EarlyToken$Stream", "rest", "I", false)
def tyX6 : Nat → FieldType := fun k => match k with
  | 0 => .int
  | 1 => .int
  | _ => .int
abbrev wsX60 : List Cond := u_ws RX6 TX6 3
theorem nmX6 : ∀ a, a < 3 → ∀ b, b < 3 → a ≠ b → (TX6 a).2.1 ≠ (TX6 b).2.1 := by decide +kernel
theorem tyX6_ok : ∀ k, k < 3 → parseFieldDescriptor (TX6 k).2.2.1 = some (tyX6 k) := by decide +kernel
abbrev cX6_init : ByteArray := prog_8_method_1_code
def yX6_init : MethodName := ⟨RX6, "<init>", "()V"⟩
abbrev cX6_become : ByteArray := prog_8_method_2_code
def yX6_become : MethodName := ⟨RX6, "become", "(LEarlyToken$Stream;)V"⟩
abbrev cX6_sureRounds : ByteArray := prog_8_method_3_code
def yX6_sureRounds : MethodName := ⟨RX6, "sureRounds", "(I)I"⟩
abbrev cX6_isSure : ByteArray := prog_8_method_4_code
def yX6_isSure : MethodName := ⟨RX6, "isSure", "(II)Z"⟩
abbrev cX6_leastShare : ByteArray := prog_8_method_5_code
def yX6_leastShare : MethodName := ⟨RX6, "leastShare", "(I)I"⟩
abbrev cX6_burden : ByteArray := prog_8_method_6_code
def yX6_burden : MethodName := ⟨RX6, "burden", "()J"⟩
def RX7 : String := "EarlyToken"
def TX7 : u_T := fun k => match k with
  | 0 => ("EarlyToken", "ring", "LEarlyToken$Ring;", true)
  | 1 => ("EarlyToken", "first", "LEarlyToken$Ring;", true)
  | 2 => ("EarlyToken", "thought", "LEarlyToken$Ring;", true)
  | 3 => ("EarlyToken", "kept", "LEarlyToken$Ring;", true)
  | _ => ("EarlyToken", "isKept", "Z", false)
def tyX7 : Nat → FieldType := fun k => match k with
  | 0 => .object "EarlyToken$Ring"
  | 1 => .object "EarlyToken$Ring"
  | 2 => .object "EarlyToken$Ring"
  | 3 => .object "EarlyToken$Ring"
  | _ => .boolean
abbrev wsX70 : List Cond := u_ws RX7 TX7 5
theorem nmX7 : ∀ a, a < 5 → ∀ b, b < 5 → a ≠ b → (TX7 a).2.1 ≠ (TX7 b).2.1 := by decide +kernel
theorem tyX7_ok : ∀ k, k < 5 → parseFieldDescriptor (TX7 k).2.2.1 = some (tyX7 k) := by decide +kernel
abbrev cX7_init : ByteArray := prog_1_method_1_code
def yX7_init : MethodName := ⟨RX7, "<init>", "()V"⟩
abbrev cX7_begin : ByteArray := prog_1_method_2_code
def yX7_begin : MethodName := ⟨RX7, "begin", "(I)Z"⟩
abbrev cX7_set : ByteArray := prog_1_method_3_code
def yX7_set : MethodName := ⟨RX7, "set", "(II)Z"⟩
abbrev cX7_delay : ByteArray := prog_1_method_4_code
def yX7_delay : MethodName := ⟨RX7, "delay", "(II)Z"⟩
abbrev cX7_cut : ByteArray := prog_1_method_5_code
def yX7_cut : MethodName := ⟨RX7, "cut", "(IZ)Z"⟩
abbrev cX7_bid : ByteArray := prog_1_method_6_code
def yX7_bid : MethodName := ⟨RX7, "bid", "(II)Z"⟩
abbrev cX7_share : ByteArray := prog_1_method_7_code
def yX7_share : MethodName := ⟨RX7, "share", "(II)Z"⟩
abbrev cX7_stream : ByteArray := prog_1_method_8_code
def yX7_stream : MethodName := ⟨RX7, "stream", "(III)Z"⟩
abbrev cX7_frame : ByteArray := prog_1_method_9_code
def yX7_frame : MethodName := ⟨RX7, "frame", "(IIII)I"⟩
abbrev cX7_out : ByteArray := prog_1_method_10_code
def yX7_out : MethodName := ⟨RX7, "out", "(IZ)Z"⟩
abbrev cX7_state : ByteArray := prog_1_method_11_code
def yX7_state : MethodName := ⟨RX7, "state", "(I)I"⟩
abbrev cX7_storm : ByteArray := prog_1_method_12_code
def yX7_storm : MethodName := ⟨RX7, "storm", "(I)I"⟩
abbrev cX7_claim : ByteArray := prog_1_method_13_code
def yX7_claim : MethodName := ⟨RX7, "claim", "(I)Z"⟩
abbrev cX7_lose : ByteArray := prog_1_method_14_code
def yX7_lose : MethodName := ⟨RX7, "lose", "()I"⟩
abbrev cX7_doubled : ByteArray := prog_1_method_15_code
def yX7_doubled : MethodName := ⟨RX7, "doubled", "(I)Z"⟩
abbrev cX7_tick : ByteArray := prog_1_method_16_code
def yX7_tick : MethodName := ⟨RX7, "tick", "(I)I"⟩
abbrev cX7_station : ByteArray := prog_1_method_17_code
def yX7_station : MethodName := ⟨RX7, "station", "(II)I"⟩
abbrev cX7_queued : ByteArray := prog_1_method_18_code
def yX7_queued : MethodName := ⟨RX7, "queued", "(III)I"⟩
abbrev cX7_link : ByteArray := prog_1_method_19_code
def yX7_link : MethodName := ⟨RX7, "link", "(II)I"⟩
abbrev cX7_message : ByteArray := prog_1_method_20_code
def yX7_message : MethodName := ⟨RX7, "message", "(II)I"⟩
abbrev cX7_suspects : ByteArray := prog_1_method_21_code
def yX7_suspects : MethodName := ⟨RX7, "suspects", "()I"⟩
abbrev cX7_sure : ByteArray := prog_1_method_22_code
def yX7_sure : MethodName := ⟨RX7, "sure", "(I)I"⟩
abbrev cX7_dealt : ByteArray := prog_1_method_23_code
def yX7_dealt : MethodName := ⟨RX7, "dealt", "(II)I"⟩
abbrev cX7_fits : ByteArray := prog_1_method_24_code
def yX7_fits : MethodName := ⟨RX7, "fits", "(I)I"⟩
abbrev cX7_least : ByteArray := prog_1_method_25_code
def yX7_least : MethodName := ⟨RX7, "least", "()I"⟩
abbrev cX7_load : ByteArray := prog_1_method_26_code
def yX7_load : MethodName := ⟨RX7, "load", "(J)J"⟩
abbrev cX7_mean : ByteArray := prog_1_method_27_code
def yX7_mean : MethodName := ⟨RX7, "mean", "(I)J"⟩
abbrev cX7_found : ByteArray := prog_1_method_28_code
def yX7_found : MethodName := ⟨RX7, "found", "(I)I"⟩
abbrev cX7_would : ByteArray := prog_1_method_29_code
def yX7_would : MethodName := ⟨RX7, "would", "(II)I"⟩
abbrev cX7_asked : ByteArray := prog_1_method_30_code
def yX7_asked : MethodName := ⟨RX7, "asked", "(IIII)I"⟩
abbrev cX7_book : ByteArray := prog_1_method_31_code
def yX7_book : MethodName := ⟨RX7, "book", "(II)I"⟩
abbrev cX7_log : ByteArray := prog_1_method_32_code
def yX7_log : MethodName := ⟨RX7, "log", "(II)I"⟩
abbrev cX7_count : ByteArray := prog_1_method_33_code
def yX7_count : MethodName := ⟨RX7, "count", "(I)I"⟩
abbrev cX7_image : ByteArray := prog_1_method_34_code
def yX7_image : MethodName := ⟨RX7, "image", "(Z)Z"⟩
abbrev cX7_look : ByteArray := prog_1_method_35_code
def yX7_look : MethodName := ⟨RX7, "look", "(I)I"⟩
abbrev cX7_canTick : ByteArray := prog_1_method_36_code
def yX7_canTick : MethodName := ⟨RX7, "canTick", "(I)Z"⟩
def RX8 : String := "EarlyTokenModel"
def TX8 : u_T := fun k => match k with
  | 0 => ("EarlyTokenModel", "told", "I", false)
  | 1 => ("EarlyTokenModel", "now", "[I", true)
  | 2 => ("EarlyTokenModel", "waiting", "[I", true)
  | 3 => ("EarlyTokenModel", "followed", "I", false)
  | 4 => ("EarlyTokenModel", "followedEnd", "I", false)
  | 5 => ("EarlyTokenModel", "hasImage", "Z", false)
  | _ => ("EarlyTokenModel", "images", "[I", true)
def tyX8 : Nat → FieldType := fun k => match k with
  | 0 => .int
  | 1 => .array .int
  | 2 => .array .int
  | 3 => .int
  | 4 => .int
  | 5 => .boolean
  | _ => .array .int
abbrev wsX80 : List Cond := u_ws RX8 TX8 7
theorem nmX8 : ∀ a, a < 7 → ∀ b, b < 7 → a ≠ b → (TX8 a).2.1 ≠ (TX8 b).2.1 := by decide +kernel
theorem tyX8_ok : ∀ k, k < 7 → parseFieldDescriptor (TX8 k).2.2.1 = some (tyX8 k) := by decide +kernel
abbrev cX8_init : ByteArray := prog_10_method_1_code
def yX8_init : MethodName := ⟨RX8, "<init>", "()V"⟩
abbrev cX8_isIn : ByteArray := prog_10_method_3_code
def yX8_isIn : MethodName := ⟨RX8, "isIn", "(III)Z"⟩
abbrev cX8_firstOf : ByteArray := prog_10_method_4_code
def yX8_firstOf : MethodName := ⟨RX8, "firstOf", "(I)I"⟩
abbrev cX8_settingOf : ByteArray := prog_10_method_5_code
def yX8_settingOf : MethodName := ⟨RX8, "settingOf", "(I)I"⟩
abbrev cX8_n : ByteArray := prog_10_method_6_code
def yX8_n : MethodName := ⟨RX8, "n", "()I"⟩
abbrev cX8_tickNow : ByteArray := prog_10_method_7_code
def yX8_tickNow : MethodName := ⟨RX8, "tickNow", "()I"⟩
abbrev cX8_more : ByteArray := prog_10_method_8_code
def yX8_more : MethodName := ⟨RX8, "more", "(II)V"⟩
abbrev cX8_counts : ByteArray := prog_10_method_9_code
def yX8_counts : MethodName := ⟨RX8, "counts", "(I)V"⟩
abbrev cX8_at : ByteArray := prog_10_method_10_code
def yX8_at : MethodName := ⟨RX8, "at", "(I)I"⟩
abbrev cX8_of : ByteArray := prog_10_method_11_code
def yX8_of : MethodName := ⟨RX8, "of", "(II)I"⟩
abbrev cX8_lay : ByteArray := prog_10_method_12_code
def yX8_lay : MethodName := ⟨RX8, "lay", "(III)V"⟩
abbrev cX8_bidOf : ByteArray := prog_10_method_13_code
def yX8_bidOf : MethodName := ⟨RX8, "bidOf", "(I)I"⟩
abbrev cX8_delayOf : ByteArray := prog_10_method_14_code
def yX8_delayOf : MethodName := ⟨RX8, "delayOf", "(I)I"⟩
abbrev cX8_isCut : ByteArray := prog_10_method_15_code
def yX8_isCut : MethodName := ⟨RX8, "isCut", "(I)Z"⟩
abbrev cX8_isStation : ByteArray := prog_10_method_16_code
def yX8_isStation : MethodName := ⟨RX8, "isStation", "(I)Z"⟩
abbrev cX8_isOut : ByteArray := prog_10_method_17_code
def yX8_isOut : MethodName := ⟨RX8, "isOut", "(I)Z"⟩
abbrev cX8_isUp : ByteArray := prog_10_method_18_code
def yX8_isUp : MethodName := ⟨RX8, "isUp", "(I)Z"⟩
abbrev cX8_holds : ByteArray := prog_10_method_19_code
def yX8_holds : MethodName := ⟨RX8, "holds", "(I)Z"⟩
abbrev cX8_latency : ByteArray := prog_10_method_20_code
def yX8_latency : MethodName := ⟨RX8, "latency", "()I"⟩
abbrev cX8_floor : ByteArray := prog_10_method_21_code
def yX8_floor : MethodName := ⟨RX8, "floor", "()I"⟩
abbrev cX8_shares : ByteArray := prog_10_method_22_code
def yX8_shares : MethodName := ⟨RX8, "shares", "()I"⟩
abbrev cX8_fitsNow : ByteArray := prog_10_method_23_code
def yX8_fitsNow : MethodName := ⟨RX8, "fitsNow", "()Z"⟩
abbrev cX8_tells : ByteArray := prog_10_method_24_code
def yX8_tells : MethodName := ⟨RX8, "tells", "(II)Z"⟩
abbrev cX8_begin : ByteArray := prog_10_method_25_code
def yX8_begin : MethodName := ⟨RX8, "begin", "(I)Z"⟩
abbrev cX8_canSet : ByteArray := prog_10_method_26_code
def yX8_canSet : MethodName := ⟨RX8, "canSet", "(II)Z"⟩
abbrev cX8_set : ByteArray := prog_10_method_27_code
def yX8_set : MethodName := ⟨RX8, "set", "(II)Z"⟩
abbrev cX8_isLink : ByteArray := prog_10_method_28_code
def yX8_isLink : MethodName := ⟨RX8, "isLink", "(I)Z"⟩
abbrev cX8_delay : ByteArray := prog_10_method_29_code
def yX8_delay : MethodName := ⟨RX8, "delay", "(II)Z"⟩
abbrev cX8_bid : ByteArray := prog_10_method_30_code
def yX8_bid : MethodName := ⟨RX8, "bid", "(II)Z"⟩
abbrev cX8_share : ByteArray := prog_10_method_31_code
def yX8_share : MethodName := ⟨RX8, "share", "(II)Z"⟩
abbrev cX8_voids : ByteArray := prog_10_method_32_code
def yX8_voids : MethodName := ⟨RX8, "voids", "(I)V"⟩
abbrev cX8_stream : ByteArray := prog_10_method_33_code
def yX8_stream : MethodName := ⟨RX8, "stream", "(III)Z"⟩
abbrev cX8_frameAt : ByteArray := prog_10_method_34_code
def yX8_frameAt : MethodName := ⟨RX8, "frameAt", "(II)I"⟩
abbrev cX8_comes : ByteArray := prog_10_method_35_code
def yX8_comes : MethodName := ⟨RX8, "comes", "(IIII)I"⟩
abbrev cX8_canBe : ByteArray := prog_10_method_36_code
def yX8_canBe : MethodName := ⟨RX8, "canBe", "(IIII)Z"⟩
abbrev cX8_frame : ByteArray := prog_10_method_37_code
def yX8_frame : MethodName := ⟨RX8, "frame", "(IIII)I"⟩
abbrev cX8_leavesLine : ByteArray := prog_10_method_38_code
def yX8_leavesLine : MethodName := ⟨RX8, "leavesLine", "(II)V"⟩
abbrev cX8_books : ByteArray := prog_10_method_39_code
def yX8_books : MethodName := ⟨RX8, "books", "(I)V"⟩
abbrev cX8_logs : ByteArray := prog_10_method_40_code
def yX8_logs : MethodName := ⟨RX8, "logs", "(III)V"⟩
abbrev cX8_messageAt : ByteArray := prog_10_method_41_code
def yX8_messageAt : MethodName := ⟨RX8, "messageAt", "(I)I"⟩
abbrev cX8_goes : ByteArray := prog_10_method_42_code
def yX8_goes : MethodName := ⟨RX8, "goes", "(I)V"⟩
abbrev cX8_sends : ByteArray := prog_10_method_43_code
def yX8_sends : MethodName := ⟨RX8, "sends", "(IIIII)V"⟩
abbrev cX8_inOrder : ByteArray := prog_10_method_44_code
def yX8_inOrder : MethodName := ⟨RX8, "inOrder", "(I)I"⟩
abbrev cX8_cut : ByteArray := prog_10_method_45_code
def yX8_cut : MethodName := ⟨RX8, "cut", "(IZ)Z"⟩
abbrev cX8_isBetter : ByteArray := prog_10_method_46_code
def yX8_isBetter : MethodName := ⟨RX8, "isBetter", "(IIII)Z"⟩
abbrev cX8_letsAll : ByteArray := prog_10_method_47_code
def yX8_letsAll : MethodName := ⟨RX8, "letsAll", "(I)V"⟩
abbrev cX8_best : ByteArray := prog_10_method_48_code
def yX8_best : MethodName := ⟨RX8, "best", "(IIII)V"⟩
abbrev cX8_sendsBest : ByteArray := prog_10_method_49_code
def yX8_sendsBest : MethodName := ⟨RX8, "sendsBest", "(I)V"⟩
abbrev cX8_claims : ByteArray := prog_10_method_50_code
def yX8_claims : MethodName := ⟨RX8, "claims", "(I)V"⟩
abbrev cX8_claimsBy : ByteArray := prog_10_method_51_code
def yX8_claimsBy : MethodName := ⟨RX8, "claimsBy", "(IIII)V"⟩
abbrev cX8_claimsAlone : ByteArray := prog_10_method_52_code
def yX8_claimsAlone : MethodName := ⟨RX8, "claimsAlone", "(I)V"⟩
abbrev cX8_claim : ByteArray := prog_10_method_53_code
def yX8_claim : MethodName := ⟨RX8, "claim", "(I)Z"⟩
abbrev cX8_isBest : ByteArray := prog_10_method_54_code
def yX8_isBest : MethodName := ⟨RX8, "isBest", "(IIII)Z"⟩
abbrev cX8_isUpBy : ByteArray := prog_10_method_55_code
def yX8_isUpBy : MethodName := ⟨RX8, "isUpBy", "(IIII)V"⟩
abbrev cX8_wins : ByteArray := prog_10_method_56_code
def yX8_wins : MethodName := ⟨RX8, "wins", "(I)V"⟩
abbrev cX8_claimComes : ByteArray := prog_10_method_57_code
def yX8_claimComes : MethodName := ⟨RX8, "claimComes", "(IIII)V"⟩
abbrev cX8_isOfMine : ByteArray := prog_10_method_58_code
def yX8_isOfMine : MethodName := ⟨RX8, "isOfMine", "(IIII)Z"⟩
abbrev cX8_tokenComes : ByteArray := prog_10_method_59_code
def yX8_tokenComes : MethodName := ⟨RX8, "tokenComes", "(IIII)V"⟩
abbrev cX8_trips : ByteArray := prog_10_method_60_code
def yX8_trips : MethodName := ⟨RX8, "trips", "(I)V"⟩
abbrev cX8_beaconComes : ByteArray := prog_10_method_61_code
def yX8_beaconComes : MethodName := ⟨RX8, "beaconComes", "(II)V"⟩
abbrev cX8_arrives : ByteArray := prog_10_method_62_code
def yX8_arrives : MethodName := ⟨RX8, "arrives", "(I)V"⟩
abbrev cX8_arriveAll : ByteArray := prog_10_method_63_code
def yX8_arriveAll : MethodName := ⟨RX8, "arriveAll", "()V"⟩
abbrev cX8_pathOf : ByteArray := prog_10_method_64_code
def yX8_pathOf : MethodName := ⟨RX8, "pathOf", "(IIZ)I"⟩
abbrev cX8_nextFrame : ByteArray := prog_10_method_65_code
def yX8_nextFrame : MethodName := ⟨RX8, "nextFrame", "(I)I"⟩
abbrev cX8_begins : ByteArray := prog_10_method_66_code
def yX8_begins : MethodName := ⟨RX8, "begins", "(III)V"⟩
abbrev cX8_letsGo : ByteArray := prog_10_method_67_code
def yX8_letsGo : MethodName := ⟨RX8, "letsGo", "(I)V"⟩
abbrev cX8_goesOn : ByteArray := prog_10_method_68_code
def yX8_goesOn : MethodName := ⟨RX8, "goesOn", "(I)V"⟩
abbrev cX8_frameEnds : ByteArray := prog_10_method_69_code
def yX8_frameEnds : MethodName := ⟨RX8, "frameEnds", "(II)V"⟩
abbrev cX8_ends : ByteArray := prog_10_method_70_code
def yX8_ends : MethodName := ⟨RX8, "ends", "(I)V"⟩
abbrev cX8_sendsMore : ByteArray := prog_10_method_71_code
def yX8_sendsMore : MethodName := ⟨RX8, "sendsMore", "(I)V"⟩
abbrev cX8_streams : ByteArray := prog_10_method_72_code
def yX8_streams : MethodName := ⟨RX8, "streams", "(I)V"⟩
abbrev cX8_beacons : ByteArray := prog_10_method_73_code
def yX8_beacons : MethodName := ⟨RX8, "beacons", "(I)V"⟩
abbrev cX8_isBeaconing : ByteArray := prog_10_method_74_code
def yX8_isBeaconing : MethodName := ⟨RX8, "isBeaconing", "(I)V"⟩
abbrev cX8_isAgo : ByteArray := prog_10_method_75_code
def yX8_isAgo : MethodName := ⟨RX8, "isAgo", "(III)Z"⟩
abbrev cX8_isUpNow : ByteArray := prog_10_method_76_code
def yX8_isUpNow : MethodName := ⟨RX8, "isUpNow", "(I)V"⟩
abbrev cX8_isClaimingNow : ByteArray := prog_10_method_77_code
def yX8_isClaimingNow : MethodName := ⟨RX8, "isClaimingNow", "(I)V"⟩
abbrev cX8_works : ByteArray := prog_10_method_78_code
def yX8_works : MethodName := ⟨RX8, "works", "(I)V"⟩
abbrev cX8_ticks : ByteArray := prog_10_method_79_code
def yX8_ticks : MethodName := ⟨RX8, "ticks", "()V"⟩
abbrev cX8_tick : ByteArray := prog_10_method_80_code
def yX8_tick : MethodName := ⟨RX8, "tick", "(I)I"⟩
abbrev cX8_inMany : ByteArray := prog_10_method_81_code
def yX8_inMany : MethodName := ⟨RX8, "inMany", "()I"⟩
abbrev cX8_out : ByteArray := prog_10_method_82_code
def yX8_out : MethodName := ⟨RX8, "out", "(IZ)Z"⟩
abbrev cX8_loses : ByteArray := prog_10_method_83_code
def yX8_loses : MethodName := ⟨RX8, "loses", "()I"⟩
abbrev cX8_lose : ByteArray := prog_10_method_84_code
def yX8_lose : MethodName := ⟨RX8, "lose", "()I"⟩
abbrev cX8_doubled : ByteArray := prog_10_method_85_code
def yX8_doubled : MethodName := ⟨RX8, "doubled", "(I)Z"⟩
abbrev cX8_state : ByteArray := prog_10_method_86_code
def yX8_state : MethodName := ⟨RX8, "state", "(I)I"⟩
abbrev cX8_draw : ByteArray := prog_10_method_87_code
def yX8_draw : MethodName := ⟨RX8, "draw", "(I)I"⟩
abbrev cX8_storm : ByteArray := prog_10_method_88_code
def yX8_storm : MethodName := ⟨RX8, "storm", "(I)I"⟩
abbrev cX8_spareOf : ByteArray := prog_10_method_89_code
def yX8_spareOf : MethodName := ⟨RX8, "spareOf", "(I)I"⟩
abbrev cX8_hasStream : ByteArray := prog_10_method_90_code
def yX8_hasStream : MethodName := ⟨RX8, "hasStream", "(I)Z"⟩
abbrev cX8_loadOf : ByteArray := prog_10_method_91_code
def yX8_loadOf : MethodName := ⟨RX8, "loadOf", "(I)I"⟩
abbrev cX8_loads : ByteArray := prog_10_method_92_code
def yX8_loads : MethodName := ⟨RX8, "loads", "()I"⟩
abbrev cX8_isSure : ByteArray := prog_10_method_93_code
def yX8_isSure : MethodName := ⟨RX8, "isSure", "(III)Z"⟩
abbrev cX8_dealtBy : ByteArray := prog_10_method_94_code
def yX8_dealtBy : MethodName := ⟨RX8, "dealtBy", "(III)I"⟩
abbrev cX8_fitsBy : ByteArray := prog_10_method_95_code
def yX8_fitsBy : MethodName := ⟨RX8, "fitsBy", "(II)Z"⟩
abbrev cX8_sure : ByteArray := prog_10_method_96_code
def yX8_sure : MethodName := ⟨RX8, "sure", "(I)I"⟩
abbrev cX8_dealt : ByteArray := prog_10_method_97_code
def yX8_dealt : MethodName := ⟨RX8, "dealt", "(II)I"⟩
abbrev cX8_fits : ByteArray := prog_10_method_98_code
def yX8_fits : MethodName := ⟨RX8, "fits", "(I)I"⟩
abbrev cX8_least : ByteArray := prog_10_method_99_code
def yX8_least : MethodName := ⟨RX8, "least", "()I"⟩
abbrev cX8_load : ByteArray := prog_10_method_100_code
def yX8_load : MethodName := ⟨RX8, "load", "(J)J"⟩
abbrev cX8_mean : ByteArray := prog_10_method_101_code
def yX8_mean : MethodName := ⟨RX8, "mean", "(I)J"⟩
abbrev cX8_suspects : ByteArray := prog_10_method_102_code
def yX8_suspects : MethodName := ⟨RX8, "suspects", "()I"⟩
abbrev cX8_thinks : ByteArray := prog_10_method_103_code
def yX8_thinks : MethodName := ⟨RX8, "thinks", "()V"⟩
abbrev cX8_forgets : ByteArray := prog_10_method_104_code
def yX8_forgets : MethodName := ⟨RX8, "forgets", "()V"⟩
abbrev cX8_tokens : ByteArray := prog_10_method_105_code
def yX8_tokens : MethodName := ⟨RX8, "tokens", "()I"⟩
abbrev cX8_allUpSince : ByteArray := prog_10_method_106_code
def yX8_allUpSince : MethodName := ⟨RX8, "allUpSince", "(I)I"⟩
abbrev cX8_found : ByteArray := prog_10_method_107_code
def yX8_found : MethodName := ⟨RX8, "found", "(I)I"⟩
abbrev cX8_sumOf : ByteArray := prog_10_method_108_code
def yX8_sumOf : MethodName := ⟨RX8, "sumOf", "(I)I"⟩
abbrev cX8_longestTrip : ByteArray := prog_10_method_109_code
def yX8_longestTrip : MethodName := ⟨RX8, "longestTrip", "()I"⟩
abbrev cX8_setOf : ByteArray := prog_10_method_110_code
def yX8_setOf : MethodName := ⟨RX8, "setOf", "(I)I"⟩
abbrev cX8_onesOf : ByteArray := prog_10_method_111_code
def yX8_onesOf : MethodName := ⟨RX8, "onesOf", "(I)I"⟩
abbrev cX8_would : ByteArray := prog_10_method_112_code
def yX8_would : MethodName := ⟨RX8, "would", "(II)I"⟩
abbrev cX8_asked : ByteArray := prog_10_method_113_code
def yX8_asked : MethodName := ⟨RX8, "asked", "(IIII)I"⟩
abbrev cX8_lookAtUp : ByteArray := prog_10_method_114_code
def yX8_lookAtUp : MethodName := ⟨RX8, "lookAtUp", "(II)I"⟩
abbrev cX8_whose : ByteArray := prog_10_method_115_code
def yX8_whose : MethodName := ⟨RX8, "whose", "(I)I"⟩
abbrev cX8_station : ByteArray := prog_10_method_116_code
def yX8_station : MethodName := ⟨RX8, "station", "(II)I"⟩
abbrev cX8_queued : ByteArray := prog_10_method_117_code
def yX8_queued : MethodName := ⟨RX8, "queued", "(III)I"⟩
abbrev cX8_link : ByteArray := prog_10_method_118_code
def yX8_link : MethodName := ⟨RX8, "link", "(II)I"⟩
abbrev cX8_message : ByteArray := prog_10_method_119_code
def yX8_message : MethodName := ⟨RX8, "message", "(II)I"⟩
abbrev cX8_book : ByteArray := prog_10_method_120_code
def yX8_book : MethodName := ⟨RX8, "book", "(II)I"⟩
abbrev cX8_log : ByteArray := prog_10_method_121_code
def yX8_log : MethodName := ⟨RX8, "log", "(II)I"⟩
abbrev cX8_count : ByteArray := prog_10_method_122_code
def yX8_count : MethodName := ⟨RX8, "count", "(I)I"⟩
abbrev cX8_image : ByteArray := prog_10_method_123_code
def yX8_image : MethodName := ⟨RX8, "image", "(Z)Z"⟩
abbrev cX8_outs : ByteArray := prog_10_method_124_code
def yX8_outs : MethodName := ⟨RX8, "outs", "()I"⟩
abbrev cX8_leastTarget : ByteArray := prog_10_method_125_code
def yX8_leastTarget : MethodName := ⟨RX8, "leastTarget", "()I"⟩
abbrev cX8_look : ByteArray := prog_10_method_126_code
def yX8_look : MethodName := ⟨RX8, "look", "(I)I"⟩
def RJ6 : String := "java/lang/Integer"
def TJ6 : u_T := fun k => match k with
  | _ => ("", "", "", false)
def tyJ6 : Nat → FieldType := fun k => match k with
  | _ => .int
abbrev wsJ60 : List Cond := u_ws RJ6 TJ6 0
theorem nmJ6 : ∀ a, a < 0 → ∀ b, b < 0 → a ≠ b → (TJ6 a).2.1 ≠ (TJ6 b).2.1 := by decide +kernel
theorem tyJ6_ok : ∀ k, k < 0 → parseFieldDescriptor (TJ6 k).2.2.1 = some (tyJ6 k) := by decide +kernel
abbrev cJ6_bitCount_0f7a4 : ByteArray := prog_11_method_49_code
def yJ6_bitCount_0f7a4 : MethodName := ⟨RJ6, "bitCount", "(I)I"⟩
def RJ9 : String := "java/lang/Math"
def TJ9 : u_T := fun k => match k with
  | _ => ("", "", "", false)
def tyJ9 : Nat → FieldType := fun k => match k with
  | _ => .int
abbrev wsJ90 : List Cond := u_ws RJ9 TJ9 0
theorem nmJ9 : ∀ a, a < 0 → ∀ b, b < 0 → a ≠ b → (TJ9 a).2.1 ≠ (TJ9 b).2.1 := by decide +kernel
theorem tyJ9_ok : ∀ k, k < 0 → parseFieldDescriptor (TJ9 k).2.2.1 = some (tyJ9 k) := by decide +kernel
abbrev cJ9_max_7cf53 : ByteArray := prog_12_method_65_code
def yJ9_max_7cf53 : MethodName := ⟨RJ9, "max", "(II)I"⟩
abbrev cJ9_min_7cf53 : ByteArray := prog_12_method_69_code
def yJ9_min_7cf53 : MethodName := ⟨RJ9, "min", "(II)I"⟩
def RJ10 : String := "java/lang/System"
def TJ10 : u_T := fun k => match k with
  | _ => ("", "", "", false)
def tyJ10 : Nat → FieldType := fun k => match k with
  | _ => .int
abbrev wsJ100 : List Cond := u_ws RJ10 TJ10 0
theorem nmJ10 : ∀ a, a < 0 → ∀ b, b < 0 → a ≠ b → (TJ10 a).2.1 ≠ (TJ10 b).2.1 := by decide +kernel
theorem tyJ10_ok : ∀ k, k < 0 → parseFieldDescriptor (TJ10 k).2.2.1 = some (tyJ10 k) := by decide +kernel
def RL : String := "EarlyTokenLaw"
abbrev cL_law : ByteArray := code
def yL_law : MethodName := ⟨RL, "law", "([I)Z"⟩
abbrev vwCl : List vw_C := [(RX0, TX0, 3), (RX1, TX1, 12), (RX2, TX2, 4), (RX3, TX3, 13), (RX4, TX4, 4), (RX5, TX5, 19), (RX6, TX6, 3), (RX7, TX7, 5), (RX8, TX8, 7)]
