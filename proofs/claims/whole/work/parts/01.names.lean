-- began as the kit's printed PART A and names (starting texts)
-- ===== PART A: goes FIRST, ahead of the names: the tables' words, and 'selects' of the private methods out of them =====
/-- a private method of a class that the tables say can be made, by its rows of tables_1 -/
def lw_okq (q : MethodName × Nat) : Prop := (q.1.cls ≠ "java/lang/invoke/MethodHandle" ∧ q.1.cls ≠ "java/lang/invoke/VarHandle") ∧ Cond.instantiable q.1.cls q.2 ∈ tables_1 ∧ Cond.privateMethod q.1 ∈ tables_1 ∧ Cond.instanceMethod q.1 ∈ tables_1
theorem lw_p0 : lw_okq (⟨"TinSoldiers$Page", "suitsCarpet", "(I)Z"⟩, 2) := ⟨⟨by decide +kernel, by decide +kernel⟩, List.mem_of_getElem? (i := 29) (by decide +kernel), List.mem_of_getElem? (i := 281) (by decide +kernel), List.mem_of_getElem? (i := 282) (by decide +kernel)⟩
theorem lw_p1 : lw_okq (⟨"TinSoldiers$Page", "suitsTreaty", "(I)Z"⟩, 2) := ⟨⟨by decide +kernel, by decide +kernel⟩, List.mem_of_getElem? (i := 29) (by decide +kernel), List.mem_of_getElem? (i := 285) (by decide +kernel), List.mem_of_getElem? (i := 286) (by decide +kernel)⟩
theorem lw_p2 : lw_okq (⟨"TinSoldiers$Carpet", "lookFrom", "(I)I"⟩, 5) := ⟨⟨by decide +kernel, by decide +kernel⟩, List.mem_of_getElem? (i := 48) (by decide +kernel), List.mem_of_getElem? (i := 400) (by decide +kernel), List.mem_of_getElem? (i := 401) (by decide +kernel)⟩
theorem lw_p3 : lw_okq (⟨"TinSoldiers$Carpet", "touchesCover", "(I)Z"⟩, 5) := ⟨⟨by decide +kernel, by decide +kernel⟩, List.mem_of_getElem? (i := 48) (by decide +kernel), List.mem_of_getElem? (i := 420) (by decide +kernel), List.mem_of_getElem? (i := 421) (by decide +kernel)⟩
theorem lw_p4 : lw_okq (⟨"TinSoldiers$Troops", "isBlocked", "(I)Z"⟩, 8) := ⟨⟨by decide +kernel, by decide +kernel⟩, List.mem_of_getElem? (i := 78) (by decide +kernel), List.mem_of_getElem? (i := 520) (by decide +kernel), List.mem_of_getElem? (i := 521) (by decide +kernel)⟩
theorem lw_p5 : lw_okq (⟨"TinSoldiers$Game", "isForbidden", "(II)Z"⟩, 7) := ⟨⟨by decide +kernel, by decide +kernel⟩, List.mem_of_getElem? (i := 72) (by decide +kernel), List.mem_of_getElem? (i := 570) (by decide +kernel), List.mem_of_getElem? (i := 571) (by decide +kernel)⟩
theorem lw_p6 : lw_okq (⟨"TinSoldiers$Game", "bans", "(C)Z"⟩, 7) := ⟨⟨by decide +kernel, by decide +kernel⟩, List.mem_of_getElem? (i := 72) (by decide +kernel), List.mem_of_getElem? (i := 574) (by decide +kernel), List.mem_of_getElem? (i := 575) (by decide +kernel)⟩
theorem lw_p7 : lw_okq (⟨"TinSoldiers$Troops", "strike", "(ILTinSoldiers$Kind;)I"⟩, 8) := ⟨⟨by decide +kernel, by decide +kernel⟩, List.mem_of_getElem? (i := 78) (by decide +kernel), List.mem_of_getElem? (i := 599) (by decide +kernel), List.mem_of_getElem? (i := 600) (by decide +kernel)⟩
theorem lw_p8 : lw_okq (⟨"TinSoldiers$Troops", "firstBehind", "(III)I"⟩, 8) := ⟨⟨by decide +kernel, by decide +kernel⟩, List.mem_of_getElem? (i := 78) (by decide +kernel), List.mem_of_getElem? (i := 606) (by decide +kernel), List.mem_of_getElem? (i := 607) (by decide +kernel)⟩
theorem lw_p9 : lw_okq (⟨"TinSoldiers$Carpet", "findWatchers", "()I"⟩, 5) := ⟨⟨by decide +kernel, by decide +kernel⟩, List.mem_of_getElem? (i := 48) (by decide +kernel), List.mem_of_getElem? (i := 631) (by decide +kernel), List.mem_of_getElem? (i := 632) (by decide +kernel)⟩
theorem lw_p10 : lw_okq (⟨"TinSoldiers$Carpet", "seenTogether", "(I)I"⟩, 5) := ⟨⟨by decide +kernel, by decide +kernel⟩, List.mem_of_getElem? (i := 48) (by decide +kernel), List.mem_of_getElem? (i := 636) (by decide +kernel), List.mem_of_getElem? (i := 637) (by decide +kernel)⟩
theorem lw_p11 : lw_okq (⟨"TinSoldiers$Search", "mean", "(LTinSoldiers$Troops;II)I"⟩, 5) := ⟨⟨by decide +kernel, by decide +kernel⟩, List.mem_of_getElem? (i := 174) (by decide +kernel), List.mem_of_getElem? (i := 649) (by decide +kernel), List.mem_of_getElem? (i := 650) (by decide +kernel)⟩
theorem lw_p12 : lw_okq (⟨"TinSoldiers$Search", "meanOfMiss", "(LTinSoldiers$Troops;II)I"⟩, 5) := ⟨⟨by decide +kernel, by decide +kernel⟩, List.mem_of_getElem? (i := 174) (by decide +kernel), List.mem_of_getElem? (i := 657) (by decide +kernel), List.mem_of_getElem? (i := 658) (by decide +kernel)⟩
theorem lw_p13 : lw_okq (⟨"TinSoldiers$Search", "meanOfHit", "(LTinSoldiers$Troops;III)I"⟩, 5) := ⟨⟨by decide +kernel, by decide +kernel⟩, List.mem_of_getElem? (i := 174) (by decide +kernel), List.mem_of_getElem? (i := 667) (by decide +kernel), List.mem_of_getElem? (i := 668) (by decide +kernel)⟩
theorem lw_p14 : lw_okq (⟨"TinSoldiers$Nights", "startUntold", "()V"⟩, 4) := ⟨⟨by decide +kernel, by decide +kernel⟩, List.mem_of_getElem? (i := 155) (by decide +kernel), List.mem_of_getElem? (i := 698) (by decide +kernel), List.mem_of_getElem? (i := 699) (by decide +kernel)⟩
theorem lw_p15 : lw_okq (⟨"TinSoldiers$Nights", "wake", "(II)V"⟩, 4) := ⟨⟨by decide +kernel, by decide +kernel⟩, List.mem_of_getElem? (i := 155) (by decide +kernel), List.mem_of_getElem? (i := 702) (by decide +kernel), List.mem_of_getElem? (i := 703) (by decide +kernel)⟩
def lw_privs_1 : List (MethodName × Nat) := [(⟨"TinSoldiers$Page", "suitsCarpet", "(I)Z"⟩, 2), (⟨"TinSoldiers$Page", "suitsTreaty", "(I)Z"⟩, 2), (⟨"TinSoldiers$Carpet", "lookFrom", "(I)I"⟩, 5), (⟨"TinSoldiers$Carpet", "touchesCover", "(I)Z"⟩, 5), (⟨"TinSoldiers$Troops", "isBlocked", "(I)Z"⟩, 8), (⟨"TinSoldiers$Game", "isForbidden", "(II)Z"⟩, 7), (⟨"TinSoldiers$Game", "bans", "(C)Z"⟩, 7), (⟨"TinSoldiers$Troops", "strike", "(ILTinSoldiers$Kind;)I"⟩, 8), (⟨"TinSoldiers$Troops", "firstBehind", "(III)I"⟩, 8), (⟨"TinSoldiers$Carpet", "findWatchers", "()I"⟩, 5), (⟨"TinSoldiers$Carpet", "seenTogether", "(I)I"⟩, 5), (⟨"TinSoldiers$Search", "mean", "(LTinSoldiers$Troops;II)I"⟩, 5), (⟨"TinSoldiers$Search", "meanOfMiss", "(LTinSoldiers$Troops;II)I"⟩, 5), (⟨"TinSoldiers$Search", "meanOfHit", "(LTinSoldiers$Troops;III)I"⟩, 5), (⟨"TinSoldiers$Nights", "startUntold", "()V"⟩, 4), (⟨"TinSoldiers$Nights", "wake", "(II)V"⟩, 4)]
theorem lw_r1 : ∀ q ∈ lw_privs_1, lw_okq q := List.forall_mem_cons.mpr ⟨lw_p0, List.forall_mem_cons.mpr ⟨lw_p1, List.forall_mem_cons.mpr ⟨lw_p2, List.forall_mem_cons.mpr ⟨lw_p3, List.forall_mem_cons.mpr ⟨lw_p4, List.forall_mem_cons.mpr ⟨lw_p5, List.forall_mem_cons.mpr ⟨lw_p6, List.forall_mem_cons.mpr ⟨lw_p7, List.forall_mem_cons.mpr ⟨lw_p8, List.forall_mem_cons.mpr ⟨lw_p9, List.forall_mem_cons.mpr ⟨lw_p10, List.forall_mem_cons.mpr ⟨lw_p11, List.forall_mem_cons.mpr ⟨lw_p12, List.forall_mem_cons.mpr ⟨lw_p13, List.forall_mem_cons.mpr ⟨lw_p14, List.forall_mem_cons.mpr ⟨lw_p15, fun _ h => absurd h List.not_mem_nil⟩⟩⟩⟩⟩⟩⟩⟩⟩⟩⟩⟩⟩⟩⟩⟩
theorem lw_p16 : lw_okq (⟨"TinSoldiers$Nights", "waysInto", "(I)I"⟩, 4) := ⟨⟨by decide +kernel, by decide +kernel⟩, List.mem_of_getElem? (i := 155) (by decide +kernel), List.mem_of_getElem? (i := 707) (by decide +kernel), List.mem_of_getElem? (i := 708) (by decide +kernel)⟩
theorem lw_p17 : lw_okq (⟨"TinSoldiers$Trial", "draw", "(I)I"⟩, 3) := ⟨⟨by decide +kernel, by decide +kernel⟩, List.mem_of_getElem? (i := 202) (by decide +kernel), List.mem_of_getElem? (i := 735) (by decide +kernel), List.mem_of_getElem? (i := 736) (by decide +kernel)⟩
theorem lw_p18 : lw_okq (⟨"TinSoldiers", "digestOfCarpet", "(J)J"⟩, 11) := ⟨⟨by decide +kernel, by decide +kernel⟩, List.mem_of_getElem? (i := 21) (by decide +kernel), List.mem_of_getElem? (i := 767) (by decide +kernel), List.mem_of_getElem? (i := 768) (by decide +kernel)⟩
theorem lw_p19 : lw_okq (⟨"TinSoldiers", "digestOfSoldiers", "(J)J"⟩, 11) := ⟨⟨by decide +kernel, by decide +kernel⟩, List.mem_of_getElem? (i := 21) (by decide +kernel), List.mem_of_getElem? (i := 774) (by decide +kernel), List.mem_of_getElem? (i := 775) (by decide +kernel)⟩
theorem lw_p20 : lw_okq (⟨"TinSoldiersModel", "faultOfCarpet", "()I"⟩, 41) := ⟨⟨by decide +kernel, by decide +kernel⟩, List.mem_of_getElem? (i := 781) (by decide +kernel), List.mem_of_getElem? (i := 926) (by decide +kernel), List.mem_of_getElem? (i := 927) (by decide +kernel)⟩
theorem lw_p21 : lw_okq (⟨"TinSoldiersModel", "isGood", "(I)Z"⟩, 41) := ⟨⟨by decide +kernel, by decide +kernel⟩, List.mem_of_getElem? (i := 781) (by decide +kernel), List.mem_of_getElem? (i := 930) (by decide +kernel), List.mem_of_getElem? (i := 931) (by decide +kernel)⟩
theorem lw_p22 : lw_okq (⟨"TinSoldiersModel", "faultOfTreaty", "()I"⟩, 41) := ⟨⟨by decide +kernel, by decide +kernel⟩, List.mem_of_getElem? (i := 781) (by decide +kernel), List.mem_of_getElem? (i := 934) (by decide +kernel), List.mem_of_getElem? (i := 935) (by decide +kernel)⟩
theorem lw_p23 : lw_okq (⟨"TinSoldiersModel", "isCell", "(I)Z"⟩, 41) := ⟨⟨by decide +kernel, by decide +kernel⟩, List.mem_of_getElem? (i := 781) (by decide +kernel), List.mem_of_getElem? (i := 959) (by decide +kernel), List.mem_of_getElem? (i := 960) (by decide +kernel)⟩
theorem lw_p24 : lw_okq (⟨"TinSoldiersModel", "cellNow", "(II)I"⟩, 41) := ⟨⟨by decide +kernel, by decide +kernel⟩, List.mem_of_getElem? (i := 781) (by decide +kernel), List.mem_of_getElem? (i := 963) (by decide +kernel), List.mem_of_getElem? (i := 964) (by decide +kernel)⟩
theorem lw_p25 : lw_okq (⟨"TinSoldiersModel", "whoIsOn", "(I)I"⟩, 41) := ⟨⟨by decide +kernel, by decide +kernel⟩, List.mem_of_getElem? (i := 781) (by decide +kernel), List.mem_of_getElem? (i := 967) (by decide +kernel), List.mem_of_getElem? (i := 968) (by decide +kernel)⟩
theorem lw_p26 : lw_okq (⟨"TinSoldiersModel", "seenFrom", "(I)I"⟩, 41) := ⟨⟨by decide +kernel, by decide +kernel⟩, List.mem_of_getElem? (i := 781) (by decide +kernel), List.mem_of_getElem? (i := 971) (by decide +kernel), List.mem_of_getElem? (i := 972) (by decide +kernel)⟩
theorem lw_p27 : lw_okq (⟨"TinSoldiersModel", "seesFrom", "(II)Z"⟩, 41) := ⟨⟨by decide +kernel, by decide +kernel⟩, List.mem_of_getElem? (i := 781) (by decide +kernel), List.mem_of_getElem? (i := 975) (by decide +kernel), List.mem_of_getElem? (i := 976) (by decide +kernel)⟩
theorem lw_p28 : lw_okq (⟨"TinSoldiersModel", "isSoldier", "(I)Z"⟩, 41) := ⟨⟨by decide +kernel, by decide +kernel⟩, List.mem_of_getElem? (i := 781) (by decide +kernel), List.mem_of_getElem? (i := 1005) (by decide +kernel), List.mem_of_getElem? (i := 1006) (by decide +kernel)⟩
theorem lw_p29 : lw_okq (⟨"TinSoldiersModel", "soldierNow", "(II)I"⟩, 41) := ⟨⟨by decide +kernel, by decide +kernel⟩, List.mem_of_getElem? (i := 781) (by decide +kernel), List.mem_of_getElem? (i := 1009) (by decide +kernel), List.mem_of_getElem? (i := 1010) (by decide +kernel)⟩
theorem lw_p30 : lw_okq (⟨"TinSoldiersModel", "targets", "(I)I"⟩, 41) := ⟨⟨by decide +kernel, by decide +kernel⟩, List.mem_of_getElem? (i := 781) (by decide +kernel), List.mem_of_getElem? (i := 1013) (by decide +kernel), List.mem_of_getElem? (i := 1014) (by decide +kernel)⟩
theorem lw_p31 : lw_okq (⟨"TinSoldiersModel", "tenthsOf", "(II)I"⟩, 41) := ⟨⟨by decide +kernel, by decide +kernel⟩, List.mem_of_getElem? (i := 781) (by decide +kernel), List.mem_of_getElem? (i := 1017) (by decide +kernel), List.mem_of_getElem? (i := 1018) (by decide +kernel)⟩
def lw_privs_2 : List (MethodName × Nat) := [(⟨"TinSoldiers$Nights", "waysInto", "(I)I"⟩, 4), (⟨"TinSoldiers$Trial", "draw", "(I)I"⟩, 3), (⟨"TinSoldiers", "digestOfCarpet", "(J)J"⟩, 11), (⟨"TinSoldiers", "digestOfSoldiers", "(J)J"⟩, 11), (⟨"TinSoldiersModel", "faultOfCarpet", "()I"⟩, 41), (⟨"TinSoldiersModel", "isGood", "(I)Z"⟩, 41), (⟨"TinSoldiersModel", "faultOfTreaty", "()I"⟩, 41), (⟨"TinSoldiersModel", "isCell", "(I)Z"⟩, 41), (⟨"TinSoldiersModel", "cellNow", "(II)I"⟩, 41), (⟨"TinSoldiersModel", "whoIsOn", "(I)I"⟩, 41), (⟨"TinSoldiersModel", "seenFrom", "(I)I"⟩, 41), (⟨"TinSoldiersModel", "seesFrom", "(II)Z"⟩, 41), (⟨"TinSoldiersModel", "isSoldier", "(I)Z"⟩, 41), (⟨"TinSoldiersModel", "soldierNow", "(II)I"⟩, 41), (⟨"TinSoldiersModel", "targets", "(I)I"⟩, 41), (⟨"TinSoldiersModel", "tenthsOf", "(II)I"⟩, 41)]
theorem lw_r2 : ∀ q ∈ lw_privs_2, lw_okq q := List.forall_mem_cons.mpr ⟨lw_p16, List.forall_mem_cons.mpr ⟨lw_p17, List.forall_mem_cons.mpr ⟨lw_p18, List.forall_mem_cons.mpr ⟨lw_p19, List.forall_mem_cons.mpr ⟨lw_p20, List.forall_mem_cons.mpr ⟨lw_p21, List.forall_mem_cons.mpr ⟨lw_p22, List.forall_mem_cons.mpr ⟨lw_p23, List.forall_mem_cons.mpr ⟨lw_p24, List.forall_mem_cons.mpr ⟨lw_p25, List.forall_mem_cons.mpr ⟨lw_p26, List.forall_mem_cons.mpr ⟨lw_p27, List.forall_mem_cons.mpr ⟨lw_p28, List.forall_mem_cons.mpr ⟨lw_p29, List.forall_mem_cons.mpr ⟨lw_p30, List.forall_mem_cons.mpr ⟨lw_p31, fun _ h => absurd h List.not_mem_nil⟩⟩⟩⟩⟩⟩⟩⟩⟩⟩⟩⟩⟩⟩⟩⟩
theorem lw_p32 : lw_okq (⟨"TinSoldiersModel", "isBlocked", "(II)Z"⟩, 41) := ⟨⟨by decide +kernel, by decide +kernel⟩, List.mem_of_getElem? (i := 781) (by decide +kernel), List.mem_of_getElem? (i := 1021) (by decide +kernel), List.mem_of_getElem? (i := 1022) (by decide +kernel)⟩
theorem lw_p33 : lw_okq (⟨"TinSoldiersModel", "isCoveredBy", "(I)Z"⟩, 41) := ⟨⟨by decide +kernel, by decide +kernel⟩, List.mem_of_getElem? (i := 781) (by decide +kernel), List.mem_of_getElem? (i := 1025) (by decide +kernel), List.mem_of_getElem? (i := 1026) (by decide +kernel)⟩
theorem lw_p34 : lw_okq (⟨"TinSoldiersModel", "isForbidden", "(II)Z"⟩, 41) := ⟨⟨by decide +kernel, by decide +kernel⟩, List.mem_of_getElem? (i := 781) (by decide +kernel), List.mem_of_getElem? (i := 1045) (by decide +kernel), List.mem_of_getElem? (i := 1046) (by decide +kernel)⟩
theorem lw_p35 : lw_okq (⟨"TinSoldiersModel", "takePea", "(I)V"⟩, 41) := ⟨⟨by decide +kernel, by decide +kernel⟩, List.mem_of_getElem? (i := 781) (by decide +kernel), List.mem_of_getElem? (i := 1049) (by decide +kernel), List.mem_of_getElem? (i := 1050) (by decide +kernel)⟩
theorem lw_p36 : lw_okq (⟨"TinSoldiersModel", "hitOn", "(II)I"⟩, 41) := ⟨⟨by decide +kernel, by decide +kernel⟩, List.mem_of_getElem? (i := 781) (by decide +kernel), List.mem_of_getElem? (i := 1053) (by decide +kernel), List.mem_of_getElem? (i := 1054) (by decide +kernel)⟩
theorem lw_p37 : lw_okq (⟨"TinSoldiersModel", "hit", "(I)I"⟩, 41) := ⟨⟨by decide +kernel, by decide +kernel⟩, List.mem_of_getElem? (i := 781) (by decide +kernel), List.mem_of_getElem? (i := 1057) (by decide +kernel), List.mem_of_getElem? (i := 1058) (by decide +kernel)⟩
theorem lw_p38 : lw_okq (⟨"TinSoldiersModel", "behind", "(II)I"⟩, 41) := ⟨⟨by decide +kernel, by decide +kernel⟩, List.mem_of_getElem? (i := 781) (by decide +kernel), List.mem_of_getElem? (i := 1061) (by decide +kernel), List.mem_of_getElem? (i := 1062) (by decide +kernel)⟩
theorem lw_p39 : lw_okq (⟨"TinSoldiersModel", "watchNow", "(I)I"⟩, 41) := ⟨⟨by decide +kernel, by decide +kernel⟩, List.mem_of_getElem? (i := 781) (by decide +kernel), List.mem_of_getElem? (i := 1073) (by decide +kernel), List.mem_of_getElem? (i := 1074) (by decide +kernel)⟩
theorem lw_p40 : lw_okq (⟨"TinSoldiersModel", "layBest", "(II)I"⟩, 41) := ⟨⟨by decide +kernel, by decide +kernel⟩, List.mem_of_getElem? (i := 781) (by decide +kernel), List.mem_of_getElem? (i := 1082) (by decide +kernel), List.mem_of_getElem? (i := 1083) (by decide +kernel)⟩
theorem lw_p41 : lw_okq (⟨"TinSoldiersModel", "save", "(I)V"⟩, 41) := ⟨⟨by decide +kernel, by decide +kernel⟩, List.mem_of_getElem? (i := 781) (by decide +kernel), List.mem_of_getElem? (i := 1086) (by decide +kernel), List.mem_of_getElem? (i := 1087) (by decide +kernel)⟩
theorem lw_p42 : lw_okq (⟨"TinSoldiersModel", "restOf", "(I)I"⟩, 41) := ⟨⟨by decide +kernel, by decide +kernel⟩, List.mem_of_getElem? (i := 781) (by decide +kernel), List.mem_of_getElem? (i := 1090) (by decide +kernel), List.mem_of_getElem? (i := 1091) (by decide +kernel)⟩
theorem lw_p43 : lw_okq (⟨"TinSoldiersModel", "ahead", "()I"⟩, 41) := ⟨⟨by decide +kernel, by decide +kernel⟩, List.mem_of_getElem? (i := 781) (by decide +kernel), List.mem_of_getElem? (i := 1094) (by decide +kernel), List.mem_of_getElem? (i := 1095) (by decide +kernel)⟩
theorem lw_p44 : lw_okq (⟨"TinSoldiersModel", "lastShot", "(I)I"⟩, 41) := ⟨⟨by decide +kernel, by decide +kernel⟩, List.mem_of_getElem? (i := 781) (by decide +kernel), List.mem_of_getElem? (i := 1098) (by decide +kernel), List.mem_of_getElem? (i := 1099) (by decide +kernel)⟩
theorem lw_p45 : lw_okq (⟨"TinSoldiersModel", "isTurnOf", "(II)Z"⟩, 41) := ⟨⟨by decide +kernel, by decide +kernel⟩, List.mem_of_getElem? (i := 781) (by decide +kernel), List.mem_of_getElem? (i := 1102) (by decide +kernel), List.mem_of_getElem? (i := 1103) (by decide +kernel)⟩
theorem lw_p46 : lw_okq (⟨"TinSoldiersModel", "shootThen", "(IIZ)V"⟩, 41) := ⟨⟨by decide +kernel, by decide +kernel⟩, List.mem_of_getElem? (i := 781) (by decide +kernel), List.mem_of_getElem? (i := 1106) (by decide +kernel), List.mem_of_getElem? (i := 1107) (by decide +kernel)⟩
theorem lw_p47 : lw_okq (⟨"TinSoldiersModel", "load", "(I)V"⟩, 41) := ⟨⟨by decide +kernel, by decide +kernel⟩, List.mem_of_getElem? (i := 781) (by decide +kernel), List.mem_of_getElem? (i := 1110) (by decide +kernel), List.mem_of_getElem? (i := 1111) (by decide +kernel)⟩
def lw_privs_3 : List (MethodName × Nat) := [(⟨"TinSoldiersModel", "isBlocked", "(II)Z"⟩, 41), (⟨"TinSoldiersModel", "isCoveredBy", "(I)Z"⟩, 41), (⟨"TinSoldiersModel", "isForbidden", "(II)Z"⟩, 41), (⟨"TinSoldiersModel", "takePea", "(I)V"⟩, 41), (⟨"TinSoldiersModel", "hitOn", "(II)I"⟩, 41), (⟨"TinSoldiersModel", "hit", "(I)I"⟩, 41), (⟨"TinSoldiersModel", "behind", "(II)I"⟩, 41), (⟨"TinSoldiersModel", "watchNow", "(I)I"⟩, 41), (⟨"TinSoldiersModel", "layBest", "(II)I"⟩, 41), (⟨"TinSoldiersModel", "save", "(I)V"⟩, 41), (⟨"TinSoldiersModel", "restOf", "(I)I"⟩, 41), (⟨"TinSoldiersModel", "ahead", "()I"⟩, 41), (⟨"TinSoldiersModel", "lastShot", "(I)I"⟩, 41), (⟨"TinSoldiersModel", "isTurnOf", "(II)Z"⟩, 41), (⟨"TinSoldiersModel", "shootThen", "(IIZ)V"⟩, 41), (⟨"TinSoldiersModel", "load", "(I)V"⟩, 41)]
theorem lw_r3 : ∀ q ∈ lw_privs_3, lw_okq q := List.forall_mem_cons.mpr ⟨lw_p32, List.forall_mem_cons.mpr ⟨lw_p33, List.forall_mem_cons.mpr ⟨lw_p34, List.forall_mem_cons.mpr ⟨lw_p35, List.forall_mem_cons.mpr ⟨lw_p36, List.forall_mem_cons.mpr ⟨lw_p37, List.forall_mem_cons.mpr ⟨lw_p38, List.forall_mem_cons.mpr ⟨lw_p39, List.forall_mem_cons.mpr ⟨lw_p40, List.forall_mem_cons.mpr ⟨lw_p41, List.forall_mem_cons.mpr ⟨lw_p42, List.forall_mem_cons.mpr ⟨lw_p43, List.forall_mem_cons.mpr ⟨lw_p44, List.forall_mem_cons.mpr ⟨lw_p45, List.forall_mem_cons.mpr ⟨lw_p46, List.forall_mem_cons.mpr ⟨lw_p47, fun _ h => absurd h List.not_mem_nil⟩⟩⟩⟩⟩⟩⟩⟩⟩⟩⟩⟩⟩⟩⟩⟩
theorem lw_p48 : lw_okq (⟨"TinSoldiersModel", "middleShot", "(I)I"⟩, 41) := ⟨⟨by decide +kernel, by decide +kernel⟩, List.mem_of_getElem? (i := 781) (by decide +kernel), List.mem_of_getElem? (i := 1117) (by decide +kernel), List.mem_of_getElem? (i := 1118) (by decide +kernel)⟩
theorem lw_p49 : lw_okq (⟨"TinSoldiersModel", "fitsNow", "()I"⟩, 41) := ⟨⟨by decide +kernel, by decide +kernel⟩, List.mem_of_getElem? (i := 781) (by decide +kernel), List.mem_of_getElem? (i := 1136) (by decide +kernel), List.mem_of_getElem? (i := 1137) (by decide +kernel)⟩
theorem lw_p50 : lw_okq (⟨"TinSoldiersModel", "layWays", "()I"⟩, 41) := ⟨⟨by decide +kernel, by decide +kernel⟩, List.mem_of_getElem? (i := 781) (by decide +kernel), List.mem_of_getElem? (i := 1140) (by decide +kernel), List.mem_of_getElem? (i := 1141) (by decide +kernel)⟩
theorem lw_p51 : lw_okq (⟨"TinSoldiersModel", "spies", "()I"⟩, 41) := ⟨⟨by decide +kernel, by decide +kernel⟩, List.mem_of_getElem? (i := 781) (by decide +kernel), List.mem_of_getElem? (i := 1144) (by decide +kernel), List.mem_of_getElem? (i := 1145) (by decide +kernel)⟩
theorem lw_p52 : lw_okq (⟨"TinSoldiersModel", "countBy", "(I)I"⟩, 41) := ⟨⟨by decide +kernel, by decide +kernel⟩, List.mem_of_getElem? (i := 781) (by decide +kernel), List.mem_of_getElem? (i := 1148) (by decide +kernel), List.mem_of_getElem? (i := 1149) (by decide +kernel)⟩
theorem lw_p53 : lw_okq (⟨"TinSoldiersModel", "goNight", "(I)V"⟩, 41) := ⟨⟨by decide +kernel, by decide +kernel⟩, List.mem_of_getElem? (i := 781) (by decide +kernel), List.mem_of_getElem? (i := 1152) (by decide +kernel), List.mem_of_getElem? (i := 1153) (by decide +kernel)⟩
theorem lw_p54 : lw_okq (⟨"TinSoldiersModel", "lastOf", "(I)I"⟩, 41) := ⟨⟨by decide +kernel, by decide +kernel⟩, List.mem_of_getElem? (i := 781) (by decide +kernel), List.mem_of_getElem? (i := 1160) (by decide +kernel), List.mem_of_getElem? (i := 1161) (by decide +kernel)⟩
theorem lw_p55 : lw_okq (⟨"TinSoldiersModel", "afternoonsNow", "(III)I"⟩, 41) := ⟨⟨by decide +kernel, by decide +kernel⟩, List.mem_of_getElem? (i := 781) (by decide +kernel), List.mem_of_getElem? (i := 1168) (by decide +kernel), List.mem_of_getElem? (i := 1169) (by decide +kernel)⟩
theorem lw_p56 : lw_okq (⟨"TinSoldiersModel", "draw", "(I)I"⟩, 41) := ⟨⟨by decide +kernel, by decide +kernel⟩, List.mem_of_getElem? (i := 781) (by decide +kernel), List.mem_of_getElem? (i := 1172) (by decide +kernel), List.mem_of_getElem? (i := 1173) (by decide +kernel)⟩
theorem lw_p57 : lw_okq (⟨"TinSoldiersModel", "howMany", "(I)I"⟩, 41) := ⟨⟨by decide +kernel, by decide +kernel⟩, List.mem_of_getElem? (i := 781) (by decide +kernel), List.mem_of_getElem? (i := 1192) (by decide +kernel), List.mem_of_getElem? (i := 1193) (by decide +kernel)⟩
theorem lw_p58 : lw_okq (⟨"TinSoldiersModel", "mix", "(J)V"⟩, 41) := ⟨⟨by decide +kernel, by decide +kernel⟩, List.mem_of_getElem? (i := 781) (by decide +kernel), List.mem_of_getElem? (i := 1201) (by decide +kernel), List.mem_of_getElem? (i := 1202) (by decide +kernel)⟩
def lw_privs_4 : List (MethodName × Nat) := [(⟨"TinSoldiersModel", "middleShot", "(I)I"⟩, 41), (⟨"TinSoldiersModel", "fitsNow", "()I"⟩, 41), (⟨"TinSoldiersModel", "layWays", "()I"⟩, 41), (⟨"TinSoldiersModel", "spies", "()I"⟩, 41), (⟨"TinSoldiersModel", "countBy", "(I)I"⟩, 41), (⟨"TinSoldiersModel", "goNight", "(I)V"⟩, 41), (⟨"TinSoldiersModel", "lastOf", "(I)I"⟩, 41), (⟨"TinSoldiersModel", "afternoonsNow", "(III)I"⟩, 41), (⟨"TinSoldiersModel", "draw", "(I)I"⟩, 41), (⟨"TinSoldiersModel", "howMany", "(I)I"⟩, 41), (⟨"TinSoldiersModel", "mix", "(J)V"⟩, 41)]
theorem lw_r4 : ∀ q ∈ lw_privs_4, lw_okq q := List.forall_mem_cons.mpr ⟨lw_p48, List.forall_mem_cons.mpr ⟨lw_p49, List.forall_mem_cons.mpr ⟨lw_p50, List.forall_mem_cons.mpr ⟨lw_p51, List.forall_mem_cons.mpr ⟨lw_p52, List.forall_mem_cons.mpr ⟨lw_p53, List.forall_mem_cons.mpr ⟨lw_p54, List.forall_mem_cons.mpr ⟨lw_p55, List.forall_mem_cons.mpr ⟨lw_p56, List.forall_mem_cons.mpr ⟨lw_p57, List.forall_mem_cons.mpr ⟨lw_p58, fun _ h => absurd h List.not_mem_nil⟩⟩⟩⟩⟩⟩⟩⟩⟩⟩⟩
def lw_privs : List (MethodName × Nat) := lw_privs_1 ++ (lw_privs_2 ++ (lw_privs_3 ++ (lw_privs_4)))
def lw_tbl : List Cond := k2_sels lw_privs ++ tables_1
theorem lw_privs_ok : ∀ q ∈ lw_privs, lw_okq q := by
  show ∀ q ∈ lw_privs_1 ++ (lw_privs_2 ++ (lw_privs_3 ++ (lw_privs_4))), lw_okq q
  exact List.forall_mem_append.mpr ⟨lw_r1, List.forall_mem_append.mpr ⟨lw_r2, List.forall_mem_append.mpr ⟨lw_r3, lw_r4⟩⟩⟩
def RX0 : String := "TinSoldiers$Carpet"
def TX0 : u_T := fun k => match k with
  | 0 => ("TinSoldiers$Carpet", "laid", "Z", false)
  | 1 => ("TinSoldiers$Carpet", "open", "I", false)
  | 2 => ("TinSoldiers$Carpet", "besideCover", "I", false)
  | 3 => ("TinSoldiers$Carpet", "seen", "[I", true)
  | _ => ("TinSoldiers$Carpet", "watchers", "I", false)
def tyX0 : Nat → FieldType := fun k => match k with
  | 0 => .boolean
  | 1 => .int
  | 2 => .int
  | 3 => .array .int
  | _ => .int
abbrev wsX00 : List Cond := u_ws RX0 TX0 5
theorem nmX0 : ∀ a, a < 5 → ∀ b, b < 5 → a ≠ b → (TX0 a).2.1 ≠ (TX0 b).2.1 := by decide +kernel
theorem tyX0_ok : ∀ k, k < 5 → parseFieldDescriptor (TX0 k).2.2.1 = some (tyX0 k) := by decide +kernel
abbrev cX0_init : ByteArray := prog_2_method_1_code
def yX0_init : MethodName := ⟨RX0, "<init>", "()V"⟩
abbrev cX0_lay : ByteArray := prog_2_method_2_code
def yX0_lay : MethodName := ⟨RX0, "lay", "(LTinSoldiers$Page;)V"⟩
abbrev cX0_has : ByteArray := prog_2_method_3_code
def yX0_has : MethodName := ⟨RX0, "has", "(I)Z"⟩
abbrev cX0_isOpen : ByteArray := prog_2_method_4_code
def yX0_isOpen : MethodName := ⟨RX0, "isOpen", "(I)Z"⟩
abbrev cX0_openCells : ByteArray := prog_2_method_5_code
def yX0_openCells : MethodName := ⟨RX0, "openCells", "()I"⟩
abbrev cX0_seenFrom : ByteArray := prog_2_method_6_code
def yX0_seenFrom : MethodName := ⟨RX0, "seenFrom", "(I)I"⟩
abbrev cX0_hasCoverOn : ByteArray := prog_2_method_7_code
def yX0_hasCoverOn : MethodName := ⟨RX0, "hasCoverOn", "(I)Z"⟩
abbrev cX0_hasCoverAround : ByteArray := prog_2_method_8_code
def yX0_hasCoverAround : MethodName := ⟨RX0, "hasCoverAround", "(I)Z"⟩
abbrev cX0_fewestWatchers : ByteArray := prog_2_method_9_code
def yX0_fewestWatchers : MethodName := ⟨RX0, "fewestWatchers", "()I"⟩
abbrev cX0_touchesCover : ByteArray := prog_2_method_10_code
def yX0_touchesCover : MethodName := ⟨RX0, "touchesCover", "(I)Z"⟩
abbrev cX0_lookFrom : ByteArray := prog_2_method_11_code
def yX0_lookFrom : MethodName := ⟨RX0, "lookFrom", "(I)I"⟩
abbrev cX0_findWatchers : ByteArray := prog_2_method_12_code
def yX0_findWatchers : MethodName := ⟨RX0, "findWatchers", "()I"⟩
abbrev cX0_seenTogether : ByteArray := prog_2_method_13_code
def yX0_seenTogether : MethodName := ⟨RX0, "seenTogether", "(I)I"⟩
def RX1 : String := "TinSoldiers$Game"
def TX1 : u_T := fun k => match k with
  | 0 => ("TinSoldiers$Game", "troops", "LTinSoldiers$Troops;", true)
  | 1 => ("TinSoldiers$Game", "shots", "I", false)
  | 2 => ("TinSoldiers$Game", "lastSide", "I", false)
  | 3 => ("TinSoldiers$Game", "banned", "I", false)
  | 4 => ("TinSoldiers$Game", "breach", "I", false)
  | 5 => ("TinSoldiers$Game", "mornings", "I", false)
  | _ => ("TinSoldiers$Game", "counts", "[I", true)
def tyX1 : Nat → FieldType := fun k => match k with
  | 0 => .object "TinSoldiers$Troops"
  | 1 => .int
  | 2 => .int
  | 3 => .int
  | 4 => .int
  | 5 => .int
  | _ => .array .int
abbrev wsX10 : List Cond := u_ws RX1 TX1 7
theorem nmX1 : ∀ a, a < 7 → ∀ b, b < 7 → a ≠ b → (TX1 a).2.1 ≠ (TX1 b).2.1 := by decide +kernel
theorem tyX1_ok : ∀ k, k < 7 → parseFieldDescriptor (TX1 k).2.2.1 = some (tyX1 k) := by decide +kernel
abbrev cX1_init : ByteArray := prog_3_method_1_code
def yX1_init : MethodName := ⟨RX1, "<init>", "(LTinSoldiers$Carpet;)V"⟩
abbrev cX1_clear : ByteArray := prog_3_method_2_code
def yX1_clear : MethodName := ⟨RX1, "clear", "(II)V"⟩
abbrev cX1_copyFrom : ByteArray := prog_3_method_3_code
def yX1_copyFrom : MethodName := ⟨RX1, "copyFrom", "(LTinSoldiers$Game;)V"⟩
abbrev cX1_sign : ByteArray := prog_3_method_4_code
def yX1_sign : MethodName := ⟨RX1, "sign", "(LTinSoldiers$Page;)V"⟩
abbrev cX1_play : ByteArray := prog_3_method_5_code
def yX1_play : MethodName := ⟨RX1, "play", "(IIZ)I"⟩
abbrev cX1_tell : ByteArray := prog_3_method_6_code
def yX1_tell : MethodName := ⟨RX1, "tell", "(I)I"⟩
abbrev cX1_isForbidden : ByteArray := prog_3_method_7_code
def yX1_isForbidden : MethodName := ⟨RX1, "isForbidden", "(II)Z"⟩
abbrev cX1_bans : ByteArray := prog_3_method_8_code
def yX1_bans : MethodName := ⟨RX1, "bans", "(C)Z"⟩
def RX2 : String := "TinSoldiers$Grid"
abbrev cX2_rowOf : ByteArray := prog_4_method_2_code
def yX2_rowOf : MethodName := ⟨RX2, "rowOf", "(I)I"⟩
abbrev cX2_columnOf : ByteArray := prog_4_method_3_code
def yX2_columnOf : MethodName := ⟨RX2, "columnOf", "(I)I"⟩
abbrev cX2_isInside : ByteArray := prog_4_method_4_code
def yX2_isInside : MethodName := ⟨RX2, "isInside", "(II)Z"⟩
abbrev cX2_rowStep : ByteArray := prog_4_method_5_code
def yX2_rowStep : MethodName := ⟨RX2, "rowStep", "(II)I"⟩
abbrev cX2_columnStep : ByteArray := prog_4_method_6_code
def yX2_columnStep : MethodName := ⟨RX2, "columnStep", "(II)I"⟩
abbrev cX2_distance : ByteArray := prog_4_method_7_code
def yX2_distance : MethodName := ⟨RX2, "distance", "(II)I"⟩
abbrev cX2_isDiagonal : ByteArray := prog_4_method_8_code
def yX2_isDiagonal : MethodName := ⟨RX2, "isDiagonal", "(II)Z"⟩
abbrev cX2_between : ByteArray := prog_4_method_9_code
def yX2_between : MethodName := ⟨RX2, "between", "(II)I"⟩
abbrev cX2_signOf : ByteArray := prog_4_method_10_code
def yX2_signOf : MethodName := ⟨RX2, "signOf", "(I)I"⟩
def RX3 : String := "TinSoldiers$Kind"
abbrev cX3_isA : ByteArray := prog_5_method_4_code
def yX3_isA : MethodName := ⟨RX3, "isA", "(LTinSoldiers$Kind;)Z"⟩
def RX4 : String := "TinSoldiers$Nights"
def TX4 : u_T := fun k => match k with
  | 0 => ("TinSoldiers$Nights", "ways", "[I", false)
  | 1 => ("TinSoldiers$Nights", "waysBefore", "[I", false)
  | 2 => ("TinSoldiers$Nights", "spies", "I", false)
  | _ => ("TinSoldiers$Nights", "sets", "I", false)
def tyX4 : Nat → FieldType := fun k => match k with
  | 0 => .array .int
  | 1 => .array .int
  | 2 => .int
  | _ => .int
abbrev wsX40 : List Cond := u_ws RX4 TX4 4
theorem nmX4 : ∀ a, a < 4 → ∀ b, b < 4 → a ≠ b → (TX4 a).2.1 ≠ (TX4 b).2.1 := by decide +kernel
theorem tyX4_ok : ∀ k, k < 4 → parseFieldDescriptor (TX4 k).2.2.1 = some (tyX4 k) := by decide +kernel
abbrev cX4_init : ByteArray := prog_6_method_1_code
def yX4_init : MethodName := ⟨RX4, "<init>", "()V"⟩
abbrev cX4_unfold : ByteArray := prog_6_method_2_code
def yX4_unfold : MethodName := ⟨RX4, "unfold", "(LTinSoldiers$Game;)V"⟩
abbrev cX4_allWays : ByteArray := prog_6_method_3_code
def yX4_allWays : MethodName := ⟨RX4, "allWays", "()I"⟩
abbrev cX4_lastSideOf : ByteArray := prog_6_method_4_code
def yX4_lastSideOf : MethodName := ⟨RX4, "lastSideOf", "(ILTinSoldiers$Troops;)I"⟩
abbrev cX4_startUntold : ByteArray := prog_6_method_5_code
def yX4_startUntold : MethodName := ⟨RX4, "startUntold", "()V"⟩
abbrev cX4_wake : ByteArray := prog_6_method_6_code
def yX4_wake : MethodName := ⟨RX4, "wake", "(II)V"⟩
abbrev cX4_waysInto : ByteArray := prog_6_method_7_code
def yX4_waysInto : MethodName := ⟨RX4, "waysInto", "(I)I"⟩
abbrev cX4_sideIn : ByteArray := prog_6_method_8_code
def yX4_sideIn : MethodName := ⟨RX4, "sideIn", "(IILTinSoldiers$Troops;)I"⟩
def RX5 : String := "TinSoldiers$Page"
def TX5 : u_T := fun k => match k with
  | 0 => ("TinSoldiers$Page", "letters", "[C", true)
  | _ => ("TinSoldiers$Page", "length", "I", false)
def tyX5 : Nat → FieldType := fun k => match k with
  | 0 => .array .char
  | _ => .int
abbrev wsX50 : List Cond := u_ws RX5 TX5 2
theorem nmX5 : ∀ a, a < 2 → ∀ b, b < 2 → a ≠ b → (TX5 a).2.1 ≠ (TX5 b).2.1 := by decide +kernel
theorem tyX5_ok : ∀ k, k < 2 → parseFieldDescriptor (TX5 k).2.2.1 = some (tyX5 k) := by decide +kernel
abbrev cX5_init : ByteArray := prog_7_method_1_code
def yX5_init : MethodName := ⟨RX5, "<init>", "()V"⟩
abbrev cX5_append : ByteArray := prog_7_method_2_code
def yX5_append : MethodName := ⟨RX5, "append", "(I)I"⟩
abbrev cX5_empty : ByteArray := prog_7_method_3_code
def yX5_empty : MethodName := ⟨RX5, "empty", "()I"⟩
abbrev cX5_digitAt : ByteArray := prog_7_method_4_code
def yX5_digitAt : MethodName := ⟨RX5, "digitAt", "(I)I"⟩
abbrev cX5_isCarpet : ByteArray := prog_7_method_5_code
def yX5_isCarpet : MethodName := ⟨RX5, "isCarpet", "()Z"⟩
abbrev cX5_isTreaty : ByteArray := prog_7_method_6_code
def yX5_isTreaty : MethodName := ⟨RX5, "isTreaty", "()Z"⟩
abbrev cX5_firstFault : ByteArray := prog_7_method_7_code
def yX5_firstFault : MethodName := ⟨RX5, "firstFault", "(I)I"⟩
abbrev cX5_suitsCarpet : ByteArray := prog_7_method_8_code
def yX5_suitsCarpet : MethodName := ⟨RX5, "suitsCarpet", "(I)Z"⟩
abbrev cX5_suitsTreaty : ByteArray := prog_7_method_9_code
def yX5_suitsTreaty : MethodName := ⟨RX5, "suitsTreaty", "(I)Z"⟩
def RX6 : String := "TinSoldiers$Search"
def TX6 : u_T := fun k => match k with
  | 0 => ("TinSoldiers$Search", "copies", "[LTinSoldiers$Troops;", true)
  | 1 => ("TinSoldiers$Search", "first", "I", false)
  | 2 => ("TinSoldiers$Search", "above", "I", false)
  | 3 => ("TinSoldiers$Search", "below", "I", false)
  | _ => ("TinSoldiers$Search", "choice", "I", false)
def tyX6 : Nat → FieldType := fun k => match k with
  | 0 => .array (.object "TinSoldiers$Troops")
  | 1 => .int
  | 2 => .int
  | 3 => .int
  | _ => .int
abbrev wsX60 : List Cond := u_ws RX6 TX6 5
theorem nmX6 : ∀ a, a < 5 → ∀ b, b < 5 → a ≠ b → (TX6 a).2.1 ≠ (TX6 b).2.1 := by decide +kernel
theorem tyX6_ok : ∀ k, k < 5 → parseFieldDescriptor (TX6 k).2.2.1 = some (tyX6 k) := by decide +kernel
abbrev cX6_init : ByteArray := prog_8_method_1_code
def yX6_init : MethodName := ⟨RX6, "<init>", "(LTinSoldiers$Carpet;)V"⟩
abbrev cX6_look : ByteArray := prog_8_method_2_code
def yX6_look : MethodName := ⟨RX6, "look", "(LTinSoldiers$Troops;II)V"⟩
abbrev cX6_mean : ByteArray := prog_8_method_3_code
def yX6_mean : MethodName := ⟨RX6, "mean", "(LTinSoldiers$Troops;II)I"⟩
abbrev cX6_meanOfMiss : ByteArray := prog_8_method_4_code
def yX6_meanOfMiss : MethodName := ⟨RX6, "meanOfMiss", "(LTinSoldiers$Troops;II)I"⟩
abbrev cX6_meanOfHit : ByteArray := prog_8_method_5_code
def yX6_meanOfHit : MethodName := ⟨RX6, "meanOfHit", "(LTinSoldiers$Troops;III)I"⟩
abbrev cX6_commonDivisor : ByteArray := prog_8_method_6_code
def yX6_commonDivisor : MethodName := ⟨RX6, "commonDivisor", "(II)I"⟩
def RX7 : String := "TinSoldiers$Trial"
def TX7 : u_T := fun k => match k with
  | 0 => ("TinSoldiers$Trial", "troops", "LTinSoldiers$Troops;", true)
  | 1 => ("TinSoldiers$Trial", "seed", "I", false)
  | _ => ("TinSoldiers$Trial", "changed", "I", false)
def tyX7 : Nat → FieldType := fun k => match k with
  | 0 => .object "TinSoldiers$Troops"
  | 1 => .int
  | _ => .int
abbrev wsX70 : List Cond := u_ws RX7 TX7 3
theorem nmX7 : ∀ a, a < 3 → ∀ b, b < 3 → a ≠ b → (TX7 a).2.1 ≠ (TX7 b).2.1 := by decide +kernel
theorem tyX7_ok : ∀ k, k < 3 → parseFieldDescriptor (TX7 k).2.2.1 = some (tyX7 k) := by decide +kernel
abbrev cX7_init : ByteArray := prog_9_method_1_code
def yX7_init : MethodName := ⟨RX7, "<init>", "(LTinSoldiers$Carpet;)V"⟩
abbrev cX7_run : ByteArray := prog_9_method_2_code
def yX7_run : MethodName := ⟨RX7, "run", "(LTinSoldiers$Troops;II)V"⟩
abbrev cX7_draw : ByteArray := prog_9_method_3_code
def yX7_draw : MethodName := ⟨RX7, "draw", "(I)I"⟩
def RX8 : String := "TinSoldiers$Troops"
def TX8 : u_T := fun k => match k with
  | 0 => ("TinSoldiers$Troops", "carpet", "LTinSoldiers$Carpet;", true)
  | 1 => ("TinSoldiers$Troops", "many", "I", false)
  | 2 => ("TinSoldiers$Troops", "kinds", "[I", true)
  | 3 => ("TinSoldiers$Troops", "sides", "[I", true)
  | 4 => ("TinSoldiers$Troops", "cells", "[I", true)
  | 5 => ("TinSoldiers$Troops", "hits", "[I", true)
  | 6 => ("TinSoldiers$Troops", "stands", "[Z", true)
  | _ => ("TinSoldiers$Troops", "peas", "[I", true)
def tyX8 : Nat → FieldType := fun k => match k with
  | 0 => .object "TinSoldiers$Carpet"
  | 1 => .int
  | 2 => .array .int
  | 3 => .array .int
  | 4 => .array .int
  | 5 => .array .int
  | 6 => .array .boolean
  | _ => .array .int
abbrev wsX80 : List Cond := u_ws RX8 TX8 8
theorem nmX8 : ∀ a, a < 8 → ∀ b, b < 8 → a ≠ b → (TX8 a).2.1 ≠ (TX8 b).2.1 := by decide +kernel
theorem tyX8_ok : ∀ k, k < 8 → parseFieldDescriptor (TX8 k).2.2.1 = some (tyX8 k) := by decide +kernel
abbrev cX8_init : ByteArray := prog_10_method_1_code
def yX8_init : MethodName := ⟨RX8, "<init>", "(LTinSoldiers$Carpet;)V"⟩
abbrev cX8_clear : ByteArray := prog_10_method_2_code
def yX8_clear : MethodName := ⟨RX8, "clear", "(II)V"⟩
abbrev cX8_copyFrom : ByteArray := prog_10_method_3_code
def yX8_copyFrom : MethodName := ⟨RX8, "copyFrom", "(LTinSoldiers$Troops;)V"⟩
abbrev cX8_has : ByteArray := prog_10_method_4_code
def yX8_has : MethodName := ⟨RX8, "has", "(I)Z"⟩
abbrev cX8_kindOf : ByteArray := prog_10_method_5_code
def yX8_kindOf : MethodName := ⟨RX8, "kindOf", "(I)LTinSoldiers$Kind;"⟩
abbrev cX8_whoIsAt : ByteArray := prog_10_method_6_code
def yX8_whoIsAt : MethodName := ⟨RX8, "whoIsAt", "(I)I"⟩
abbrev cX8_isFree : ByteArray := prog_10_method_7_code
def yX8_isFree : MethodName := ⟨RX8, "isFree", "(I)Z"⟩
abbrev cX8_enlist : ByteArray := prog_10_method_8_code
def yX8_enlist : MethodName := ⟨RX8, "enlist", "(III)I"⟩
abbrev cX8_standing : ByteArray := prog_10_method_9_code
def yX8_standing : MethodName := ⟨RX8, "standing", "(I)I"⟩
abbrev cX8_targetsOf : ByteArray := prog_10_method_10_code
def yX8_targetsOf : MethodName := ⟨RX8, "targetsOf", "(I)I"⟩
abbrev cX8_chance : ByteArray := prog_10_method_11_code
def yX8_chance : MethodName := ⟨RX8, "chance", "(II)I"⟩
abbrev cX8_fire : ByteArray := prog_10_method_12_code
def yX8_fire : MethodName := ⟨RX8, "fire", "(IIZ)I"⟩
abbrev cX8_standUp : ByteArray := prog_10_method_13_code
def yX8_standUp : MethodName := ⟨RX8, "standUp", "()I"⟩
abbrev cX8_isBlocked : ByteArray := prog_10_method_14_code
def yX8_isBlocked : MethodName := ⟨RX8, "isBlocked", "(I)Z"⟩
abbrev cX8_strike : ByteArray := prog_10_method_15_code
def yX8_strike : MethodName := ⟨RX8, "strike", "(ILTinSoldiers$Kind;)I"⟩
abbrev cX8_firstBehind : ByteArray := prog_10_method_16_code
def yX8_firstBehind : MethodName := ⟨RX8, "firstBehind", "(III)I"⟩
def RX9 : String := "TinSoldiers"
def TX9 : u_T := fun k => match k with
  | 0 => ("TinSoldiers", "page", "LTinSoldiers$Page;", true)
  | 1 => ("TinSoldiers", "rug", "LTinSoldiers$Carpet;", true)
  | 2 => ("TinSoldiers", "game", "LTinSoldiers$Game;", true)
  | 3 => ("TinSoldiers", "kept", "LTinSoldiers$Game;", true)
  | 4 => ("TinSoldiers", "nights", "LTinSoldiers$Nights;", true)
  | 5 => ("TinSoldiers", "search", "LTinSoldiers$Search;", true)
  | 6 => ("TinSoldiers", "trial", "LTinSoldiers$Trial;", true)
  | 7 => ("TinSoldiers", "hasImage", "Z", false)
  | 8 => ("TinSoldiers", "carpetsRead", "I", false)
  | 9 => ("TinSoldiers", "watchesDone", "I", false)
  | _ => ("TinSoldiers", "bestsDone", "I", false)
def tyX9 : Nat → FieldType := fun k => match k with
  | 0 => .object "TinSoldiers$Page"
  | 1 => .object "TinSoldiers$Carpet"
  | 2 => .object "TinSoldiers$Game"
  | 3 => .object "TinSoldiers$Game"
  | 4 => .object "TinSoldiers$Nights"
  | 5 => .object "TinSoldiers$Search"
  | 6 => .object "TinSoldiers$Trial"
  | 7 => .boolean
  | 8 => .int
  | 9 => .int
  | _ => .int
abbrev wsX90 : List Cond := u_ws RX9 TX9 11
theorem nmX9 : ∀ a, a < 11 → ∀ b, b < 11 → a ≠ b → (TX9 a).2.1 ≠ (TX9 b).2.1 := by decide +kernel
theorem tyX9_ok : ∀ k, k < 11 → parseFieldDescriptor (TX9 k).2.2.1 = some (tyX9 k) := by decide +kernel
abbrev cX9_init : ByteArray := prog_1_method_1_code
def yX9_init : MethodName := ⟨RX9, "<init>", "()V"⟩
abbrev cX9_letter : ByteArray := prog_1_method_2_code
def yX9_letter : MethodName := ⟨RX9, "letter", "(I)I"⟩
abbrev cX9_blank : ByteArray := prog_1_method_3_code
def yX9_blank : MethodName := ⟨RX9, "blank", "()I"⟩
abbrev cX9_fault : ByteArray := prog_1_method_4_code
def yX9_fault : MethodName := ⟨RX9, "fault", "(I)I"⟩
abbrev cX9_carpet : ByteArray := prog_1_method_5_code
def yX9_carpet : MethodName := ⟨RX9, "carpet", "()I"⟩
abbrev cX9_treaty : ByteArray := prog_1_method_6_code
def yX9_treaty : MethodName := ⟨RX9, "treaty", "()I"⟩
abbrev cX9_cell : ByteArray := prog_1_method_7_code
def yX9_cell : MethodName := ⟨RX9, "cell", "(II)I"⟩
abbrev cX9_soldier : ByteArray := prog_1_method_8_code
def yX9_soldier : MethodName := ⟨RX9, "soldier", "(III)I"⟩
abbrev cX9_about : ByteArray := prog_1_method_9_code
def yX9_about : MethodName := ⟨RX9, "about", "(II)I"⟩
abbrev cX9_as : ByteArray := prog_1_method_10_code
def yX9_as : MethodName := ⟨RX9, "as", "(II)I"⟩
abbrev cX9_move : ByteArray := prog_1_method_11_code
def yX9_move : MethodName := ⟨RX9, "move", "(II)I"⟩
abbrev cX9_tenths : ByteArray := prog_1_method_12_code
def yX9_tenths : MethodName := ⟨RX9, "tenths", "(II)I"⟩
abbrev cX9_shoot : ByteArray := prog_1_method_13_code
def yX9_shoot : MethodName := ⟨RX9, "shoot", "(IIZ)I"⟩
abbrev cX9_dinner : ByteArray := prog_1_method_14_code
def yX9_dinner : MethodName := ⟨RX9, "dinner", "()I"⟩
abbrev cX9_watch : ByteArray := prog_1_method_15_code
def yX9_watch : MethodName := ⟨RX9, "watch", "(I)I"⟩
abbrev cX9_best : ByteArray := prog_1_method_16_code
def yX9_best : MethodName := ⟨RX9, "best", "(III)I"⟩
abbrev cX9_tally : ByteArray := prog_1_method_17_code
def yX9_tally : MethodName := ⟨RX9, "tally", "(I)I"⟩
abbrev cX9_forget : ByteArray := prog_1_method_18_code
def yX9_forget : MethodName := ⟨RX9, "forget", "()I"⟩
abbrev cX9_fits : ByteArray := prog_1_method_19_code
def yX9_fits : MethodName := ⟨RX9, "fits", "()I"⟩
abbrev cX9_last : ByteArray := prog_1_method_20_code
def yX9_last : MethodName := ⟨RX9, "last", "(I)I"⟩
abbrev cX9_afternoons : ByteArray := prog_1_method_21_code
def yX9_afternoons : MethodName := ⟨RX9, "afternoons", "(III)I"⟩
abbrev cX9_image : ByteArray := prog_1_method_22_code
def yX9_image : MethodName := ⟨RX9, "image", "()I"⟩
abbrev cX9_restore : ByteArray := prog_1_method_23_code
def yX9_restore : MethodName := ⟨RX9, "restore", "()I"⟩
abbrev cX9_count : ByteArray := prog_1_method_24_code
def yX9_count : MethodName := ⟨RX9, "count", "(I)I"⟩
abbrev cX9_digest : ByteArray := prog_1_method_25_code
def yX9_digest : MethodName := ⟨RX9, "digest", "()J"⟩
abbrev cX9_digestOfCarpet : ByteArray := prog_1_method_26_code
def yX9_digestOfCarpet : MethodName := ⟨RX9, "digestOfCarpet", "(J)J"⟩
abbrev cX9_digestOfSoldiers : ByteArray := prog_1_method_27_code
def yX9_digestOfSoldiers : MethodName := ⟨RX9, "digestOfSoldiers", "(J)J"⟩
abbrev cX9_isKind : ByteArray := prog_1_method_28_code
def yX9_isKind : MethodName := ⟨RX9, "isKind", "(I)Z"⟩
abbrev cX9_isSide : ByteArray := prog_1_method_29_code
def yX9_isSide : MethodName := ⟨RX9, "isSide", "(I)Z"⟩
def RX10 : String := "TinSoldiersModel"
def TX10 : u_T := fun k => match k with
  | 0 => ("TinSoldiersModel", "isCarpet", "Z", false)
  | 1 => ("TinSoldiersModel", "carpets", "I", false)
  | 2 => ("TinSoldiersModel", "open", "I", false)
  | 3 => ("TinSoldiersModel", "soldiers", "I", false)
  | 4 => ("TinSoldiersModel", "kindOf", "[I", true)
  | 5 => ("TinSoldiersModel", "cellOf", "[I", true)
  | 6 => ("TinSoldiersModel", "stands", "I", false)
  | 7 => ("TinSoldiersModel", "sides", "I", false)
  | 8 => ("TinSoldiersModel", "hits", "I", false)
  | 9 => ("TinSoldiersModel", "peasOne", "I", false)
  | 10 => ("TinSoldiersModel", "peasTwo", "I", false)
  | 11 => ("TinSoldiersModel", "shots", "I", false)
  | 12 => ("TinSoldiersModel", "lastSide", "I", false)
  | 13 => ("TinSoldiersModel", "treaty", "I", false)
  | 14 => ("TinSoldiersModel", "breach", "I", false)
  | 15 => ("TinSoldiersModel", "counts", "I", false)
  | 16 => ("TinSoldiersModel", "countOf", "[I", true)
  | 17 => ("TinSoldiersModel", "watchAsks", "I", false)
  | 18 => ("TinSoldiersModel", "bestAsks", "I", false)
  | 19 => ("TinSoldiersModel", "pageLength", "I", false)
  | 20 => ("TinSoldiersModel", "page", "[B", true)
  | 21 => ("TinSoldiersModel", "articles", "I", false)
  | 22 => ("TinSoldiersModel", "seenBy", "[I", true)
  | 23 => ("TinSoldiersModel", "saved", "[I", true)
  | 24 => ("TinSoldiersModel", "bestSide", "I", false)
  | 25 => ("TinSoldiersModel", "bestFirst", "I", false)
  | 26 => ("TinSoldiersModel", "waysOf", "[I", true)
  | 27 => ("TinSoldiersModel", "waysThen", "[I", true)
  | 28 => ("TinSoldiersModel", "seedNow", "J", false)
  | 29 => ("TinSoldiersModel", "isKept", "Z", false)
  | 30 => ("TinSoldiersModel", "keptCarpet", "I", false)
  | 31 => ("TinSoldiersModel", "keptSoldiers", "I", false)
  | 32 => ("TinSoldiersModel", "keptShots", "I", false)
  | 33 => ("TinSoldiersModel", "keptLast", "I", false)
  | 34 => ("TinSoldiersModel", "keptTreaty", "I", false)
  | 35 => ("TinSoldiersModel", "keptBreach", "I", false)
  | 36 => ("TinSoldiersModel", "keptCounts", "I", false)
  | 37 => ("TinSoldiersModel", "keptState", "[I", true)
  | 38 => ("TinSoldiersModel", "keptCell", "[I", true)
  | 39 => ("TinSoldiersModel", "keptCount", "[I", true)
  | _ => ("TinSoldiersModel", "h", "J", false)
def tyX10 : Nat → FieldType := fun k => match k with
  | 0 => .boolean
  | 1 => .int
  | 2 => .int
  | 3 => .int
  | 4 => .array .int
  | 5 => .array .int
  | 6 => .int
  | 7 => .int
  | 8 => .int
  | 9 => .int
  | 10 => .int
  | 11 => .int
  | 12 => .int
  | 13 => .int
  | 14 => .int
  | 15 => .int
  | 16 => .array .int
  | 17 => .int
  | 18 => .int
  | 19 => .int
  | 20 => .array .byte
  | 21 => .int
  | 22 => .array .int
  | 23 => .array .int
  | 24 => .int
  | 25 => .int
  | 26 => .array .int
  | 27 => .array .int
  | 28 => .long
  | 29 => .boolean
  | 30 => .int
  | 31 => .int
  | 32 => .int
  | 33 => .int
  | 34 => .int
  | 35 => .int
  | 36 => .int
  | 37 => .array .int
  | 38 => .array .int
  | 39 => .array .int
  | _ => .long
abbrev wsX100 : List Cond := u_ws RX10 TX10 41
theorem nmX10 : ∀ a, a < 41 → ∀ b, b < 41 → a ≠ b → (TX10 a).2.1 ≠ (TX10 b).2.1 := by decide +kernel
theorem tyX10_ok : ∀ k, k < 41 → parseFieldDescriptor (TX10 k).2.2.1 = some (tyX10 k) := by decide +kernel
abbrev cX10_init : ByteArray := prog_12_method_1_code
def yX10_init : MethodName := ⟨RX10, "<init>", "()V"⟩
abbrev cX10_within : ByteArray := prog_12_method_3_code
def yX10_within : MethodName := ⟨RX10, "within", "(III)Z"⟩
abbrev cX10_has : ByteArray := prog_12_method_4_code
def yX10_has : MethodName := ⟨RX10, "has", "(II)Z"⟩
abbrev cX10_size : ByteArray := prog_12_method_5_code
def yX10_size : MethodName := ⟨RX10, "size", "(I)I"⟩
abbrev cX10_lowest : ByteArray := prog_12_method_6_code
def yX10_lowest : MethodName := ⟨RX10, "lowest", "(III)I"⟩
abbrev cX10_letter : ByteArray := prog_12_method_7_code
def yX10_letter : MethodName := ⟨RX10, "letter", "(I)I"⟩
abbrev cX10_blank : ByteArray := prog_12_method_8_code
def yX10_blank : MethodName := ⟨RX10, "blank", "()I"⟩
abbrev cX10_isGood : ByteArray := prog_12_method_9_code
def yX10_isGood : MethodName := ⟨RX10, "isGood", "(I)Z"⟩
abbrev cX10_faultOfCarpet : ByteArray := prog_12_method_10_code
def yX10_faultOfCarpet : MethodName := ⟨RX10, "faultOfCarpet", "()I"⟩
abbrev cX10_articleBy : ByteArray := prog_12_method_11_code
def yX10_articleBy : MethodName := ⟨RX10, "articleBy", "(I)I"⟩
abbrev cX10_faultOfTreaty : ByteArray := prog_12_method_12_code
def yX10_faultOfTreaty : MethodName := ⟨RX10, "faultOfTreaty", "()I"⟩
abbrev cX10_fault : ByteArray := prog_12_method_13_code
def yX10_fault : MethodName := ⟨RX10, "fault", "(I)I"⟩
abbrev cX10_carpet : ByteArray := prog_12_method_14_code
def yX10_carpet : MethodName := ⟨RX10, "carpet", "()I"⟩
abbrev cX10_treaty : ByteArray := prog_12_method_15_code
def yX10_treaty : MethodName := ⟨RX10, "treaty", "()I"⟩
abbrev cX10_isCell : ByteArray := prog_12_method_16_code
def yX10_isCell : MethodName := ⟨RX10, "isCell", "(I)Z"⟩
abbrev cX10_rowOf : ByteArray := prog_12_method_17_code
def yX10_rowOf : MethodName := ⟨RX10, "rowOf", "(I)I"⟩
abbrev cX10_columnOf : ByteArray := prog_12_method_18_code
def yX10_columnOf : MethodName := ⟨RX10, "columnOf", "(I)I"⟩
abbrev cX10_sign : ByteArray := prog_12_method_19_code
def yX10_sign : MethodName := ⟨RX10, "sign", "(I)I"⟩
abbrev cX10_plain : ByteArray := prog_12_method_20_code
def yX10_plain : MethodName := ⟨RX10, "plain", "(I)I"⟩
abbrev cX10_distance : ByteArray := prog_12_method_21_code
def yX10_distance : MethodName := ⟨RX10, "distance", "(II)I"⟩
abbrev cX10_onWay : ByteArray := prog_12_method_22_code
def yX10_onWay : MethodName := ⟨RX10, "onWay", "(III)I"⟩
abbrev cX10_whoIsOn : ByteArray := prog_12_method_23_code
def yX10_whoIsOn : MethodName := ⟨RX10, "whoIsOn", "(I)I"⟩
abbrev cX10_seesFrom : ByteArray := prog_12_method_24_code
def yX10_seesFrom : MethodName := ⟨RX10, "seesFrom", "(II)Z"⟩
abbrev cX10_seenFrom : ByteArray := prog_12_method_25_code
def yX10_seenFrom : MethodName := ⟨RX10, "seenFrom", "(I)I"⟩
abbrev cX10_cellNow : ByteArray := prog_12_method_26_code
def yX10_cellNow : MethodName := ⟨RX10, "cellNow", "(II)I"⟩
abbrev cX10_cell : ByteArray := prog_12_method_27_code
def yX10_cell : MethodName := ⟨RX10, "cell", "(II)I"⟩
abbrev cX10_isSoldier : ByteArray := prog_12_method_28_code
def yX10_isSoldier : MethodName := ⟨RX10, "isSoldier", "(I)Z"⟩
abbrev cX10_soldier : ByteArray := prog_12_method_29_code
def yX10_soldier : MethodName := ⟨RX10, "soldier", "(III)I"⟩
abbrev cX10_isBlocked : ByteArray := prog_12_method_30_code
def yX10_isBlocked : MethodName := ⟨RX10, "isBlocked", "(II)Z"⟩
abbrev cX10_isCoveredBy : ByteArray := prog_12_method_31_code
def yX10_isCoveredBy : MethodName := ⟨RX10, "isCoveredBy", "(I)Z"⟩
abbrev cX10_tenthsOf : ByteArray := prog_12_method_32_code
def yX10_tenthsOf : MethodName := ⟨RX10, "tenthsOf", "(II)I"⟩
abbrev cX10_targets : ByteArray := prog_12_method_33_code
def yX10_targets : MethodName := ⟨RX10, "targets", "(I)I"⟩
abbrev cX10_soldierNow : ByteArray := prog_12_method_34_code
def yX10_soldierNow : MethodName := ⟨RX10, "soldierNow", "(II)I"⟩
abbrev cX10_about : ByteArray := prog_12_method_35_code
def yX10_about : MethodName := ⟨RX10, "about", "(II)I"⟩
abbrev cX10_as : ByteArray := prog_12_method_36_code
def yX10_as : MethodName := ⟨RX10, "as", "(II)I"⟩
abbrev cX10_move : ByteArray := prog_12_method_37_code
def yX10_move : MethodName := ⟨RX10, "move", "(II)I"⟩
abbrev cX10_tenths : ByteArray := prog_12_method_38_code
def yX10_tenths : MethodName := ⟨RX10, "tenths", "(II)I"⟩
abbrev cX10_hit : ByteArray := prog_12_method_39_code
def yX10_hit : MethodName := ⟨RX10, "hit", "(I)I"⟩
abbrev cX10_behind : ByteArray := prog_12_method_40_code
def yX10_behind : MethodName := ⟨RX10, "behind", "(II)I"⟩
abbrev cX10_takePea : ByteArray := prog_12_method_41_code
def yX10_takePea : MethodName := ⟨RX10, "takePea", "(I)V"⟩
abbrev cX10_hitOn : ByteArray := prog_12_method_42_code
def yX10_hitOn : MethodName := ⟨RX10, "hitOn", "(II)I"⟩
abbrev cX10_isForbidden : ByteArray := prog_12_method_43_code
def yX10_isForbidden : MethodName := ⟨RX10, "isForbidden", "(II)Z"⟩
abbrev cX10_shoot : ByteArray := prog_12_method_44_code
def yX10_shoot : MethodName := ⟨RX10, "shoot", "(IIZ)I"⟩
abbrev cX10_dinner : ByteArray := prog_12_method_45_code
def yX10_dinner : MethodName := ⟨RX10, "dinner", "()I"⟩
abbrev cX10_watchNow : ByteArray := prog_12_method_46_code
def yX10_watchNow : MethodName := ⟨RX10, "watchNow", "(I)I"⟩
abbrev cX10_watch : ByteArray := prog_12_method_47_code
def yX10_watch : MethodName := ⟨RX10, "watch", "(I)I"⟩
abbrev cX10_save : ByteArray := prog_12_method_48_code
def yX10_save : MethodName := ⟨RX10, "save", "(I)V"⟩
abbrev cX10_load : ByteArray := prog_12_method_49_code
def yX10_load : MethodName := ⟨RX10, "load", "(I)V"⟩
abbrev cX10_ahead : ByteArray := prog_12_method_50_code
def yX10_ahead : MethodName := ⟨RX10, "ahead", "()I"⟩
abbrev cX10_isTurnOf : ByteArray := prog_12_method_51_code
def yX10_isTurnOf : MethodName := ⟨RX10, "isTurnOf", "(II)Z"⟩
abbrev cX10_better : ByteArray := prog_12_method_52_code
def yX10_better : MethodName := ⟨RX10, "better", "(III)I"⟩
abbrev cX10_shootThen : ByteArray := prog_12_method_53_code
def yX10_shootThen : MethodName := ⟨RX10, "shootThen", "(IIZ)V"⟩
abbrev cX10_lastShot : ByteArray := prog_12_method_54_code
def yX10_lastShot : MethodName := ⟨RX10, "lastShot", "(I)I"⟩
abbrev cX10_middleShot : ByteArray := prog_12_method_55_code
def yX10_middleShot : MethodName := ⟨RX10, "middleShot", "(I)I"⟩
abbrev cX10_restOf : ByteArray := prog_12_method_56_code
def yX10_restOf : MethodName := ⟨RX10, "restOf", "(I)I"⟩
abbrev cX10_layBest : ByteArray := prog_12_method_57_code
def yX10_layBest : MethodName := ⟨RX10, "layBest", "(II)I"⟩
abbrev cX10_best : ByteArray := prog_12_method_58_code
def yX10_best : MethodName := ⟨RX10, "best", "(III)I"⟩
abbrev cX10_tally : ByteArray := prog_12_method_59_code
def yX10_tally : MethodName := ⟨RX10, "tally", "(I)I"⟩
abbrev cX10_forget : ByteArray := prog_12_method_60_code
def yX10_forget : MethodName := ⟨RX10, "forget", "()I"⟩
abbrev cX10_spies : ByteArray := prog_12_method_61_code
def yX10_spies : MethodName := ⟨RX10, "spies", "()I"⟩
abbrev cX10_countBy : ByteArray := prog_12_method_62_code
def yX10_countBy : MethodName := ⟨RX10, "countBy", "(I)I"⟩
abbrev cX10_goNight : ByteArray := prog_12_method_63_code
def yX10_goNight : MethodName := ⟨RX10, "goNight", "(I)V"⟩
abbrev cX10_layWays : ByteArray := prog_12_method_64_code
def yX10_layWays : MethodName := ⟨RX10, "layWays", "()I"⟩
abbrev cX10_fitsNow : ByteArray := prog_12_method_65_code
def yX10_fitsNow : MethodName := ⟨RX10, "fitsNow", "()I"⟩
abbrev cX10_fits : ByteArray := prog_12_method_66_code
def yX10_fits : MethodName := ⟨RX10, "fits", "()I"⟩
abbrev cX10_lastOf : ByteArray := prog_12_method_67_code
def yX10_lastOf : MethodName := ⟨RX10, "lastOf", "(I)I"⟩
abbrev cX10_last : ByteArray := prog_12_method_68_code
def yX10_last : MethodName := ⟨RX10, "last", "(I)I"⟩
abbrev cX10_draw : ByteArray := prog_12_method_69_code
def yX10_draw : MethodName := ⟨RX10, "draw", "(I)I"⟩
abbrev cX10_afternoonsNow : ByteArray := prog_12_method_70_code
def yX10_afternoonsNow : MethodName := ⟨RX10, "afternoonsNow", "(III)I"⟩
abbrev cX10_afternoons : ByteArray := prog_12_method_71_code
def yX10_afternoons : MethodName := ⟨RX10, "afternoons", "(III)I"⟩
abbrev cX10_image : ByteArray := prog_12_method_72_code
def yX10_image : MethodName := ⟨RX10, "image", "()I"⟩
abbrev cX10_restore : ByteArray := prog_12_method_73_code
def yX10_restore : MethodName := ⟨RX10, "restore", "()I"⟩
abbrev cX10_howMany : ByteArray := prog_12_method_74_code
def yX10_howMany : MethodName := ⟨RX10, "howMany", "(I)I"⟩
abbrev cX10_count : ByteArray := prog_12_method_75_code
def yX10_count : MethodName := ⟨RX10, "count", "(I)I"⟩
abbrev cX10_mix : ByteArray := prog_12_method_76_code
def yX10_mix : MethodName := ⟨RX10, "mix", "(J)V"⟩
abbrev cX10_digest : ByteArray := prog_12_method_77_code
def yX10_digest : MethodName := ⟨RX10, "digest", "()J"⟩
def RJ11 : String := "java/lang/Character"
abbrev cJ11_isValidCodePoint_9a6ad : ByteArray := prog_13_method_11_code
def yJ11_isValidCodePoint_9a6ad : MethodName := ⟨RJ11, "isValidCodePoint", "(I)Z"⟩
abbrev cJ11_highSurrogate_5068e : ByteArray := prog_13_method_28_code
def yJ11_highSurrogate_5068e : MethodName := ⟨RJ11, "highSurrogate", "(I)C"⟩
abbrev cJ11_lowSurrogate_5068e : ByteArray := prog_13_method_29_code
def yJ11_lowSurrogate_5068e : MethodName := ⟨RJ11, "lowSurrogate", "(I)C"⟩
def RJx29ce0 : String := "java/lang/Enum"
def RJ6 : String := "java/lang/Integer"
abbrev cJ6_bitCount_0f7a4 : ByteArray := prog_15_method_49_code
def yJ6_bitCount_0f7a4 : MethodName := ⟨RJ6, "bitCount", "(I)I"⟩
def RJ9 : String := "java/lang/Math"
abbrev cJ9_abs_0f7a4 : ByteArray := prog_16_method_59_code
def yJ9_abs_0f7a4 : MethodName := ⟨RJ9, "abs", "(I)I"⟩
abbrev cJ9_max_7cf53 : ByteArray := prog_16_method_65_code
def yJ9_max_7cf53 : MethodName := ⟨RJ9, "max", "(II)I"⟩
abbrev cJ9_min_7cf53 : ByteArray := prog_16_method_69_code
def yJ9_min_7cf53 : MethodName := ⟨RJ9, "min", "(II)I"⟩
def RJ0 : String := "java/lang/String"
abbrev cJ0_length_8abf5 : ByteArray := prog_17_method_54_code
def yJ0_length_8abf5 : MethodName := ⟨RJ0, "length", "()I"⟩
abbrev cJ0_indexOf_0f7a4 : ByteArray := prog_17_method_79_code
def yJ0_indexOf_0f7a4 : MethodName := ⟨RJ0, "indexOf", "(I)I"⟩
abbrev cJ0_indexOf_7cf53 : ByteArray := prog_17_method_80_code
def yJ0_indexOf_7cf53 : MethodName := ⟨RJ0, "indexOf", "(II)I"⟩
abbrev cJ0_coder_7d493 : ByteArray := prog_17_method_152_code
def yJ0_coder_7d493 : MethodName := ⟨RJ0, "coder", "()B"⟩
abbrev cJ0_isLatin1_aae02 : ByteArray := prog_17_method_154_code
def yJ0_isLatin1_aae02 : MethodName := ⟨RJ0, "isLatin1", "()Z"⟩
abbrev cJ0_checkBoundsBeginEnd_23922 : ByteArray := prog_17_method_158_code
def yJ0_checkBoundsBeginEnd_23922 : MethodName := ⟨RJ0, "checkBoundsBeginEnd", "(III)V"⟩
def RJ1 : String := "java/lang/StringLatin1"
abbrev cJ1_canEncode_9a6ad : ByteArray := prog_18_method_4_code
def yJ1_canEncode_9a6ad : MethodName := ⟨RJ1, "canEncode", "(I)Z"⟩
abbrev cJ1_indexOf_4cfef : ByteArray := prog_18_method_22_code
def yJ1_indexOf_4cfef : MethodName := ⟨RJ1, "indexOf", "([BIII)I"⟩
abbrev cJ1_indexOfChar_4cfef : ByteArray := prog_18_method_23_code
def yJ1_indexOfChar_4cfef : MethodName := ⟨RJ1, "indexOfChar", "([BIII)I"⟩
def RJ2 : String := "java/lang/StringUTF16"
abbrev cJ2_getChar_3b067 : ByteArray := prog_19_method_5_code
def yJ2_getChar_3b067 : MethodName := ⟨RJ2, "getChar", "([BI)C"⟩
abbrev cJ2_length_9d52b : ByteArray := prog_19_method_6_code
def yJ2_length_9d52b : MethodName := ⟨RJ2, "length", "([B)I"⟩
abbrev cJ2_indexOf_4cfef : ByteArray := prog_19_method_40_code
def yJ2_indexOf_4cfef : MethodName := ⟨RJ2, "indexOf", "([BIII)I"⟩
abbrev cJ2_indexOfChar_4cfef : ByteArray := prog_19_method_47_code
def yJ2_indexOfChar_4cfef : MethodName := ⟨RJ2, "indexOfChar", "([BIII)I"⟩
abbrev cJ2_indexOfCharUnsafe_4cfef : ByteArray := prog_19_method_48_code
def yJ2_indexOfCharUnsafe_4cfef : MethodName := ⟨RJ2, "indexOfCharUnsafe", "([BIII)I"⟩
abbrev cJ2_indexOfSupplementary_4cfef : ByteArray := prog_19_method_49_code
def yJ2_indexOfSupplementary_4cfef : MethodName := ⟨RJ2, "indexOfSupplementary", "([BIII)I"⟩
abbrev cJ2_checkBoundsBeginEnd_d044e : ByteArray := prog_19_method_93_code
def yJ2_checkBoundsBeginEnd_d044e : MethodName := ⟨RJ2, "checkBoundsBeginEnd", "(II[B)V"⟩
def RJ3 : String := "jdk/internal/util/Preconditions"
abbrev cJ3_checkFromToIndex_8c36e : ByteArray := prog_20_method_12_code
def yJ3_checkFromToIndex_8c36e : MethodName := ⟨RJ3, "checkFromToIndex", "(IIILjava/util/function/BiFunction;)I"⟩
def RL : String := "TinSoldiersLaw"
abbrev cL_law : ByteArray := code
def yL_law : MethodName := ⟨RL, "law", "([I)Z"⟩
abbrev vwCl : List vw_C := [(RX0, TX0, 5), (RX1, TX1, 7), (RX4, TX4, 4), (RX5, TX5, 2), (RX6, TX6, 5), (RX7, TX7, 3), (RX8, TX8, 8), (RX9, TX9, 11), (RX10, TX10, 41)]
