-- ===== PART A: goes FIRST, ahead of the names: the tables' words, and 'selects' of the private methods out of them =====
/-- a private method of a class that the tables say can be made, by its rows of tables_1 -/
def lw_okq (q : MethodName × Nat) : Prop := (q.1.cls ≠ "java/lang/invoke/MethodHandle" ∧ q.1.cls ≠ "java/lang/invoke/VarHandle") ∧ Cond.instantiable q.1.cls q.2 ∈ tables_1 ∧ Cond.privateMethod q.1 ∈ tables_1 ∧ Cond.instanceMethod q.1 ∈ tables_1
theorem lw_p0 : lw_okq (⟨"ChestnutSticks$Tree", "clearCells", "()V"⟩, 4) := ⟨⟨by decide +kernel, by decide +kernel⟩, List.mem_of_getElem? (i := 23) (by decide +kernel), List.mem_of_getElem? (i := 29) (by decide +kernel), List.mem_of_getElem? (i := 30) (by decide +kernel)⟩
theorem lw_p1 : lw_okq (⟨"ChestnutSticks$Tree", "parse", "()V"⟩, 4) := ⟨⟨by decide +kernel, by decide +kernel⟩, List.mem_of_getElem? (i := 23) (by decide +kernel), List.mem_of_getElem? (i := 254) (by decide +kernel), List.mem_of_getElem? (i := 255) (by decide +kernel)⟩
theorem lw_p2 : lw_okq (⟨"ChestnutSticks$Tree", "fillCells", "()I"⟩, 4) := ⟨⟨by decide +kernel, by decide +kernel⟩, List.mem_of_getElem? (i := 23) (by decide +kernel), List.mem_of_getElem? (i := 258) (by decide +kernel), List.mem_of_getElem? (i := 259) (by decide +kernel)⟩
theorem lw_p3 : lw_okq (⟨"ChestnutSticks$Play", "begin", "(I)V"⟩, 14) := ⟨⟨by decide +kernel, by decide +kernel⟩, List.mem_of_getElem? (i := 99) (by decide +kernel), List.mem_of_getElem? (i := 403) (by decide +kernel), List.mem_of_getElem? (i := 404) (by decide +kernel)⟩
theorem lw_p4 : lw_okq (⟨"ChestnutSticks$Play", "throwOne", "(I)V"⟩, 14) := ⟨⟨by decide +kernel, by decide +kernel⟩, List.mem_of_getElem? (i := 99) (by decide +kernel), List.mem_of_getElem? (i := 422) (by decide +kernel), List.mem_of_getElem? (i := 423) (by decide +kernel)⟩
theorem lw_p5 : lw_okq (⟨"ChestnutSticks$Play", "lotOfSixteen", "()I"⟩, 14) := ⟨⟨by decide +kernel, by decide +kernel⟩, List.mem_of_getElem? (i := 99) (by decide +kernel), List.mem_of_getElem? (i := 443) (by decide +kernel), List.mem_of_getElem? (i := 444) (by decide +kernel)⟩
theorem lw_p6 : lw_okq (⟨"ChestnutSticks$Play", "sideOf", "(I)I"⟩, 14) := ⟨⟨by decide +kernel, by decide +kernel⟩, List.mem_of_getElem? (i := 99) (by decide +kernel), List.mem_of_getElem? (i := 448) (by decide +kernel), List.mem_of_getElem? (i := 449) (by decide +kernel)⟩
theorem lw_p7 : lw_okq (⟨"ChestnutSticks$Play", "bringDown", "(III)V"⟩, 14) := ⟨⟨by decide +kernel, by decide +kernel⟩, List.mem_of_getElem? (i := 99) (by decide +kernel), List.mem_of_getElem? (i := 452) (by decide +kernel), List.mem_of_getElem? (i := 453) (by decide +kernel)⟩
theorem lw_p8 : lw_okq (⟨"ChestnutSticks$Play", "hangsIfStruck", "(III)I"⟩, 14) := ⟨⟨by decide +kernel, by decide +kernel⟩, List.mem_of_getElem? (i := 99) (by decide +kernel), List.mem_of_getElem? (i := 457) (by decide +kernel), List.mem_of_getElem? (i := 458) (by decide +kernel)⟩
theorem lw_p9 : lw_okq (⟨"ChestnutSticks$Play", "takeDown", "(II)V"⟩, 14) := ⟨⟨by decide +kernel, by decide +kernel⟩, List.mem_of_getElem? (i := 99) (by decide +kernel), List.mem_of_getElem? (i := 461) (by decide +kernel), List.mem_of_getElem? (i := 462) (by decide +kernel)⟩
theorem lw_p10 : lw_okq (⟨"ChestnutSticks$Play", "give", "(I)V"⟩, 14) := ⟨⟨by decide +kernel, by decide +kernel⟩, List.mem_of_getElem? (i := 99) (by decide +kernel), List.mem_of_getElem? (i := 476) (by decide +kernel), List.mem_of_getElem? (i := 477) (by decide +kernel)⟩
theorem lw_p11 : lw_okq (⟨"ChestnutSticks$Play", "freeSticks", "(III)V"⟩, 14) := ⟨⟨by decide +kernel, by decide +kernel⟩, List.mem_of_getElem? (i := 99) (by decide +kernel), List.mem_of_getElem? (i := 480) (by decide +kernel), List.mem_of_getElem? (i := 481) (by decide +kernel)⟩
theorem lw_p12 : lw_okq (⟨"ChestnutSticks$Play", "struckBalls", "(IIIZ)I"⟩, 14) := ⟨⟨by decide +kernel, by decide +kernel⟩, List.mem_of_getElem? (i := 99) (by decide +kernel), List.mem_of_getElem? (i := 548) (by decide +kernel), List.mem_of_getElem? (i := 549) (by decide +kernel)⟩
theorem lw_p13 : lw_okq (⟨"ChestnutSticks$Season", "nightsInDanger", "(III)I"⟩, 2) := ⟨⟨by decide +kernel, by decide +kernel⟩, List.mem_of_getElem? (i := 148) (by decide +kernel), List.mem_of_getElem? (i := 603) (by decide +kernel), List.mem_of_getElem? (i := 604) (by decide +kernel)⟩
theorem lw_p14 : lw_okq (⟨"ChestnutSticks$Season", "fillRipe", "()V"⟩, 2) := ⟨⟨by decide +kernel, by decide +kernel⟩, List.mem_of_getElem? (i := 148) (by decide +kernel), List.mem_of_getElem? (i := 627) (by decide +kernel), List.mem_of_getElem? (i := 628) (by decide +kernel)⟩
theorem lw_p15 : lw_okq (⟨"ChestnutSticks$Season", "betterAhead", "(II)I"⟩, 2) := ⟨⟨by decide +kernel, by decide +kernel⟩, List.mem_of_getElem? (i := 148) (by decide +kernel), List.mem_of_getElem? (i := 632) (by decide +kernel), List.mem_of_getElem? (i := 633) (by decide +kernel)⟩
def lw_privs_1 : List (MethodName × Nat) := [(⟨"ChestnutSticks$Tree", "clearCells", "()V"⟩, 4), (⟨"ChestnutSticks$Tree", "parse", "()V"⟩, 4), (⟨"ChestnutSticks$Tree", "fillCells", "()I"⟩, 4), (⟨"ChestnutSticks$Play", "begin", "(I)V"⟩, 14), (⟨"ChestnutSticks$Play", "throwOne", "(I)V"⟩, 14), (⟨"ChestnutSticks$Play", "lotOfSixteen", "()I"⟩, 14), (⟨"ChestnutSticks$Play", "sideOf", "(I)I"⟩, 14), (⟨"ChestnutSticks$Play", "bringDown", "(III)V"⟩, 14), (⟨"ChestnutSticks$Play", "hangsIfStruck", "(III)I"⟩, 14), (⟨"ChestnutSticks$Play", "takeDown", "(II)V"⟩, 14), (⟨"ChestnutSticks$Play", "give", "(I)V"⟩, 14), (⟨"ChestnutSticks$Play", "freeSticks", "(III)V"⟩, 14), (⟨"ChestnutSticks$Play", "struckBalls", "(IIIZ)I"⟩, 14), (⟨"ChestnutSticks$Season", "nightsInDanger", "(III)I"⟩, 2), (⟨"ChestnutSticks$Season", "fillRipe", "()V"⟩, 2), (⟨"ChestnutSticks$Season", "betterAhead", "(II)I"⟩, 2)]
theorem lw_r1 : ∀ q ∈ lw_privs_1, lw_okq q := List.forall_mem_cons.mpr ⟨lw_p0, List.forall_mem_cons.mpr ⟨lw_p1, List.forall_mem_cons.mpr ⟨lw_p2, List.forall_mem_cons.mpr ⟨lw_p3, List.forall_mem_cons.mpr ⟨lw_p4, List.forall_mem_cons.mpr ⟨lw_p5, List.forall_mem_cons.mpr ⟨lw_p6, List.forall_mem_cons.mpr ⟨lw_p7, List.forall_mem_cons.mpr ⟨lw_p8, List.forall_mem_cons.mpr ⟨lw_p9, List.forall_mem_cons.mpr ⟨lw_p10, List.forall_mem_cons.mpr ⟨lw_p11, List.forall_mem_cons.mpr ⟨lw_p12, List.forall_mem_cons.mpr ⟨lw_p13, List.forall_mem_cons.mpr ⟨lw_p14, List.forall_mem_cons.mpr ⟨lw_p15, fun _ h => absurd h List.not_mem_nil⟩⟩⟩⟩⟩⟩⟩⟩⟩⟩⟩⟩⟩⟩⟩⟩
theorem lw_p16 : lw_okq (⟨"ChestnutSticks$Season", "firstGreatest", "()I"⟩, 2) := ⟨⟨by decide +kernel, by decide +kernel⟩, List.mem_of_getElem? (i := 148) (by decide +kernel), List.mem_of_getElem? (i := 644) (by decide +kernel), List.mem_of_getElem? (i := 645) (by decide +kernel)⟩
theorem lw_p17 : lw_okq (⟨"ChestnutSticks$Throwers", "isHit", "(II)Z"⟩, 3) := ⟨⟨by decide +kernel, by decide +kernel⟩, List.mem_of_getElem? (i := 161) (by decide +kernel), List.mem_of_getElem? (i := 680) (by decide +kernel), List.mem_of_getElem? (i := 681) (by decide +kernel)⟩
theorem lw_p18 : lw_okq (⟨"ChestnutSticksModel", "met", "(I)I"⟩, 33) := ⟨⟨by decide +kernel, by decide +kernel⟩, List.mem_of_getElem? (i := 835) (by decide +kernel), List.mem_of_getElem? (i := 954) (by decide +kernel), List.mem_of_getElem? (i := 955) (by decide +kernel)⟩
theorem lw_p19 : lw_okq (⟨"ChestnutSticksModel", "lacks", "(III)I"⟩, 33) := ⟨⟨by decide +kernel, by decide +kernel⟩, List.mem_of_getElem? (i := 835) (by decide +kernel), List.mem_of_getElem? (i := 966) (by decide +kernel), List.mem_of_getElem? (i := 967) (by decide +kernel)⟩
theorem lw_p20 : lw_okq (⟨"ChestnutSticksModel", "reads", "()I"⟩, 33) := ⟨⟨by decide +kernel, by decide +kernel⟩, List.mem_of_getElem? (i := 835) (by decide +kernel), List.mem_of_getElem? (i := 999) (by decide +kernel), List.mem_of_getElem? (i := 1000) (by decide +kernel)⟩
theorem lw_p21 : lw_okq (⟨"ChestnutSticksModel", "clears", "()V"⟩, 33) := ⟨⟨by decide +kernel, by decide +kernel⟩, List.mem_of_getElem? (i := 835) (by decide +kernel), List.mem_of_getElem? (i := 1003) (by decide +kernel), List.mem_of_getElem? (i := 1004) (by decide +kernel)⟩
theorem lw_p22 : lw_okq (⟨"ChestnutSticksModel", "readsRow", "()Z"⟩, 33) := ⟨⟨by decide +kernel, by decide +kernel⟩, List.mem_of_getElem? (i := 835) (by decide +kernel), List.mem_of_getElem? (i := 1007) (by decide +kernel), List.mem_of_getElem? (i := 1008) (by decide +kernel)⟩
theorem lw_p23 : lw_okq (⟨"ChestnutSticksModel", "find", "()V"⟩, 33) := ⟨⟨by decide +kernel, by decide +kernel⟩, List.mem_of_getElem? (i := 835) (by decide +kernel), List.mem_of_getElem? (i := 1057) (by decide +kernel), List.mem_of_getElem? (i := 1058) (by decide +kernel)⟩
theorem lw_p24 : lw_okq (⟨"ChestnutSticksModel", "throwsAll", "(II)V"⟩, 33) := ⟨⟨by decide +kernel, by decide +kernel⟩, List.mem_of_getElem? (i := 835) (by decide +kernel), List.mem_of_getElem? (i := 1061) (by decide +kernel), List.mem_of_getElem? (i := 1062) (by decide +kernel)⟩
theorem lw_p25 : lw_okq (⟨"ChestnutSticksModel", "isCell", "(I)Z"⟩, 33) := ⟨⟨by decide +kernel, by decide +kernel⟩, List.mem_of_getElem? (i := 835) (by decide +kernel), List.mem_of_getElem? (i := 1065) (by decide +kernel), List.mem_of_getElem? (i := 1066) (by decide +kernel)⟩
theorem lw_p26 : lw_okq (⟨"ChestnutSticksModel", "throwsOne", "(III)I"⟩, 33) := ⟨⟨by decide +kernel, by decide +kernel⟩, List.mem_of_getElem? (i := 835) (by decide +kernel), List.mem_of_getElem? (i := 1069) (by decide +kernel), List.mem_of_getElem? (i := 1070) (by decide +kernel)⟩
theorem lw_p27 : lw_okq (⟨"ChestnutSticksModel", "lot", "()I"⟩, 33) := ⟨⟨by decide +kernel, by decide +kernel⟩, List.mem_of_getElem? (i := 835) (by decide +kernel), List.mem_of_getElem? (i := 1073) (by decide +kernel), List.mem_of_getElem? (i := 1074) (by decide +kernel)⟩
theorem lw_p28 : lw_okq (⟨"ChestnutSticksModel", "strikes", "(IIII)Z"⟩, 33) := ⟨⟨by decide +kernel, by decide +kernel⟩, List.mem_of_getElem? (i := 835) (by decide +kernel), List.mem_of_getElem? (i := 1078) (by decide +kernel), List.mem_of_getElem? (i := 1079) (by decide +kernel)⟩
theorem lw_p29 : lw_okq (⟨"ChestnutSticksModel", "hangsNow", "(I)I"⟩, 33) := ⟨⟨by decide +kernel, by decide +kernel⟩, List.mem_of_getElem? (i := 835) (by decide +kernel), List.mem_of_getElem? (i := 1082) (by decide +kernel), List.mem_of_getElem? (i := 1083) (by decide +kernel)⟩
theorem lw_p30 : lw_okq (⟨"ChestnutSticksModel", "falls", "(II)V"⟩, 33) := ⟨⟨by decide +kernel, by decide +kernel⟩, List.mem_of_getElem? (i := 835) (by decide +kernel), List.mem_of_getElem? (i := 1092) (by decide +kernel), List.mem_of_getElem? (i := 1093) (by decide +kernel)⟩
theorem lw_p31 : lw_okq (⟨"ChestnutSticksModel", "whose", "(II)I"⟩, 33) := ⟨⟨by decide +kernel, by decide +kernel⟩, List.mem_of_getElem? (i := 835) (by decide +kernel), List.mem_of_getElem? (i := 1096) (by decide +kernel), List.mem_of_getElem? (i := 1097) (by decide +kernel)⟩
def lw_privs_2 : List (MethodName × Nat) := [(⟨"ChestnutSticks$Season", "firstGreatest", "()I"⟩, 2), (⟨"ChestnutSticks$Throwers", "isHit", "(II)Z"⟩, 3), (⟨"ChestnutSticksModel", "met", "(I)I"⟩, 33), (⟨"ChestnutSticksModel", "lacks", "(III)I"⟩, 33), (⟨"ChestnutSticksModel", "reads", "()I"⟩, 33), (⟨"ChestnutSticksModel", "clears", "()V"⟩, 33), (⟨"ChestnutSticksModel", "readsRow", "()Z"⟩, 33), (⟨"ChestnutSticksModel", "find", "()V"⟩, 33), (⟨"ChestnutSticksModel", "throwsAll", "(II)V"⟩, 33), (⟨"ChestnutSticksModel", "isCell", "(I)Z"⟩, 33), (⟨"ChestnutSticksModel", "throwsOne", "(III)I"⟩, 33), (⟨"ChestnutSticksModel", "lot", "()I"⟩, 33), (⟨"ChestnutSticksModel", "strikes", "(IIII)Z"⟩, 33), (⟨"ChestnutSticksModel", "hangsNow", "(I)I"⟩, 33), (⟨"ChestnutSticksModel", "falls", "(II)V"⟩, 33), (⟨"ChestnutSticksModel", "whose", "(II)I"⟩, 33)]
theorem lw_r2 : ∀ q ∈ lw_privs_2, lw_okq q := List.forall_mem_cons.mpr ⟨lw_p16, List.forall_mem_cons.mpr ⟨lw_p17, List.forall_mem_cons.mpr ⟨lw_p18, List.forall_mem_cons.mpr ⟨lw_p19, List.forall_mem_cons.mpr ⟨lw_p20, List.forall_mem_cons.mpr ⟨lw_p21, List.forall_mem_cons.mpr ⟨lw_p22, List.forall_mem_cons.mpr ⟨lw_p23, List.forall_mem_cons.mpr ⟨lw_p24, List.forall_mem_cons.mpr ⟨lw_p25, List.forall_mem_cons.mpr ⟨lw_p26, List.forall_mem_cons.mpr ⟨lw_p27, List.forall_mem_cons.mpr ⟨lw_p28, List.forall_mem_cons.mpr ⟨lw_p29, List.forall_mem_cons.mpr ⟨lw_p30, List.forall_mem_cons.mpr ⟨lw_p31, fun _ h => absurd h List.not_mem_nil⟩⟩⟩⟩⟩⟩⟩⟩⟩⟩⟩⟩⟩⟩⟩⟩
theorem lw_p32 : lw_okq (⟨"ChestnutSticksModel", "stateOf", "(II)I"⟩, 33) := ⟨⟨by decide +kernel, by decide +kernel⟩, List.mem_of_getElem? (i := 835) (by decide +kernel), List.mem_of_getElem? (i := 1108) (by decide +kernel), List.mem_of_getElem? (i := 1109) (by decide +kernel)⟩
theorem lw_p33 : lw_okq (⟨"ChestnutSticksModel", "upNow", "()I"⟩, 33) := ⟨⟨by decide +kernel, by decide +kernel⟩, List.mem_of_getElem? (i := 835) (by decide +kernel), List.mem_of_getElem? (i := 1112) (by decide +kernel), List.mem_of_getElem? (i := 1113) (by decide +kernel)⟩
theorem lw_p34 : lw_okq (⟨"ChestnutSticksModel", "lodgedNow", "()I"⟩, 33) := ⟨⟨by decide +kernel, by decide +kernel⟩, List.mem_of_getElem? (i := 835) (by decide +kernel), List.mem_of_getElem? (i := 1116) (by decide +kernel), List.mem_of_getElem? (i := 1117) (by decide +kernel)⟩
theorem lw_p35 : lw_okq (⟨"ChestnutSticksModel", "meanOf", "(IIZ)I"⟩, 33) := ⟨⟨by decide +kernel, by decide +kernel⟩, List.mem_of_getElem? (i := 835) (by decide +kernel), List.mem_of_getElem? (i := 1132) (by decide +kernel), List.mem_of_getElem? (i := 1133) (by decide +kernel)⟩
theorem lw_p36 : lw_okq (⟨"ChestnutSticksModel", "bringsBy", "(IIIZ)I"⟩, 33) := ⟨⟨by decide +kernel, by decide +kernel⟩, List.mem_of_getElem? (i := 835) (by decide +kernel), List.mem_of_getElem? (i := 1136) (by decide +kernel), List.mem_of_getElem? (i := 1137) (by decide +kernel)⟩
theorem lw_p37 : lw_okq (⟨"ChestnutSticksModel", "worthOf", "(II)I"⟩, 33) := ⟨⟨by decide +kernel, by decide +kernel⟩, List.mem_of_getElem? (i := 835) (by decide +kernel), List.mem_of_getElem? (i := 1151) (by decide +kernel), List.mem_of_getElem? (i := 1152) (by decide +kernel)⟩
theorem lw_p38 : lw_okq (⟨"ChestnutSticksModel", "whereOf", "(I)I"⟩, 33) := ⟨⟨by decide +kernel, by decide +kernel⟩, List.mem_of_getElem? (i := 835) (by decide +kernel), List.mem_of_getElem? (i := 1160) (by decide +kernel), List.mem_of_getElem? (i := 1161) (by decide +kernel)⟩
theorem lw_p39 : lw_okq (⟨"ChestnutSticksModel", "whichNow", "()I"⟩, 33) := ⟨⟨by decide +kernel, by decide +kernel⟩, List.mem_of_getElem? (i := 835) (by decide +kernel), List.mem_of_getElem? (i := 1168) (by decide +kernel), List.mem_of_getElem? (i := 1169) (by decide +kernel)⟩
theorem lw_p40 : lw_okq (⟨"ChestnutSticksModel", "freesOf", "(III)I"⟩, 33) := ⟨⟨by decide +kernel, by decide +kernel⟩, List.mem_of_getElem? (i := 835) (by decide +kernel), List.mem_of_getElem? (i := 1176) (by decide +kernel), List.mem_of_getElem? (i := 1177) (by decide +kernel)⟩
theorem lw_p41 : lw_okq (⟨"ChestnutSticksModel", "lieOf", "(II)J"⟩, 33) := ⟨⟨by decide +kernel, by decide +kernel⟩, List.mem_of_getElem? (i := 835) (by decide +kernel), List.mem_of_getElem? (i := 1188) (by decide +kernel), List.mem_of_getElem? (i := 1189) (by decide +kernel)⟩
theorem lw_p42 : lw_okq (⟨"ChestnutSticksModel", "nights", "(II)I"⟩, 33) := ⟨⟨by decide +kernel, by decide +kernel⟩, List.mem_of_getElem? (i := 835) (by decide +kernel), List.mem_of_getElem? (i := 1192) (by decide +kernel), List.mem_of_getElem? (i := 1193) (by decide +kernel)⟩
theorem lw_p43 : lw_okq (⟨"ChestnutSticksModel", "ripeOf", "(I)I"⟩, 33) := ⟨⟨by decide +kernel, by decide +kernel⟩, List.mem_of_getElem? (i := 835) (by decide +kernel), List.mem_of_getElem? (i := 1201) (by decide +kernel), List.mem_of_getElem? (i := 1202) (by decide +kernel)⟩
theorem lw_p44 : lw_okq (⟨"ChestnutSticksModel", "restsOf", "(I)I"⟩, 33) := ⟨⟨by decide +kernel, by decide +kernel⟩, List.mem_of_getElem? (i := 835) (by decide +kernel), List.mem_of_getElem? (i := 1210) (by decide +kernel), List.mem_of_getElem? (i := 1211) (by decide +kernel)⟩
theorem lw_p45 : lw_okq (⟨"ChestnutSticksModel", "isRest", "(II)Z"⟩, 33) := ⟨⟨by decide +kernel, by decide +kernel⟩, List.mem_of_getElem? (i := 835) (by decide +kernel), List.mem_of_getElem? (i := 1214) (by decide +kernel), List.mem_of_getElem? (i := 1215) (by decide +kernel)⟩
theorem lw_p46 : lw_okq (⟨"ChestnutSticksModel", "endsOf", "(II)I"⟩, 33) := ⟨⟨by decide +kernel, by decide +kernel⟩, List.mem_of_getElem? (i := 835) (by decide +kernel), List.mem_of_getElem? (i := 1222) (by decide +kernel), List.mem_of_getElem? (i := 1223) (by decide +kernel)⟩
theorem lw_p47 : lw_okq (⟨"ChestnutSticksModel", "runOf", "(II)I"⟩, 33) := ⟨⟨by decide +kernel, by decide +kernel⟩, List.mem_of_getElem? (i := 835) (by decide +kernel), List.mem_of_getElem? (i := 1240) (by decide +kernel), List.mem_of_getElem? (i := 1241) (by decide +kernel)⟩
def lw_privs_3 : List (MethodName × Nat) := [(⟨"ChestnutSticksModel", "stateOf", "(II)I"⟩, 33), (⟨"ChestnutSticksModel", "upNow", "()I"⟩, 33), (⟨"ChestnutSticksModel", "lodgedNow", "()I"⟩, 33), (⟨"ChestnutSticksModel", "meanOf", "(IIZ)I"⟩, 33), (⟨"ChestnutSticksModel", "bringsBy", "(IIIZ)I"⟩, 33), (⟨"ChestnutSticksModel", "worthOf", "(II)I"⟩, 33), (⟨"ChestnutSticksModel", "whereOf", "(I)I"⟩, 33), (⟨"ChestnutSticksModel", "whichNow", "()I"⟩, 33), (⟨"ChestnutSticksModel", "freesOf", "(III)I"⟩, 33), (⟨"ChestnutSticksModel", "lieOf", "(II)J"⟩, 33), (⟨"ChestnutSticksModel", "nights", "(II)I"⟩, 33), (⟨"ChestnutSticksModel", "ripeOf", "(I)I"⟩, 33), (⟨"ChestnutSticksModel", "restsOf", "(I)I"⟩, 33), (⟨"ChestnutSticksModel", "isRest", "(II)Z"⟩, 33), (⟨"ChestnutSticksModel", "endsOf", "(II)I"⟩, 33), (⟨"ChestnutSticksModel", "runOf", "(II)I"⟩, 33)]
theorem lw_r3 : ∀ q ∈ lw_privs_3, lw_okq q := List.forall_mem_cons.mpr ⟨lw_p32, List.forall_mem_cons.mpr ⟨lw_p33, List.forall_mem_cons.mpr ⟨lw_p34, List.forall_mem_cons.mpr ⟨lw_p35, List.forall_mem_cons.mpr ⟨lw_p36, List.forall_mem_cons.mpr ⟨lw_p37, List.forall_mem_cons.mpr ⟨lw_p38, List.forall_mem_cons.mpr ⟨lw_p39, List.forall_mem_cons.mpr ⟨lw_p40, List.forall_mem_cons.mpr ⟨lw_p41, List.forall_mem_cons.mpr ⟨lw_p42, List.forall_mem_cons.mpr ⟨lw_p43, List.forall_mem_cons.mpr ⟨lw_p44, List.forall_mem_cons.mpr ⟨lw_p45, List.forall_mem_cons.mpr ⟨lw_p46, List.forall_mem_cons.mpr ⟨lw_p47, fun _ h => absurd h List.not_mem_nil⟩⟩⟩⟩⟩⟩⟩⟩⟩⟩⟩⟩⟩⟩⟩⟩
theorem lw_p48 : lw_okq (⟨"ChestnutSticksModel", "round", "()I"⟩, 33) := ⟨⟨by decide +kernel, by decide +kernel⟩, List.mem_of_getElem? (i := 835) (by decide +kernel), List.mem_of_getElem? (i := 1244) (by decide +kernel), List.mem_of_getElem? (i := 1245) (by decide +kernel)⟩
theorem lw_p49 : lw_okq (⟨"ChestnutSticksModel", "isHit", "(II)Z"⟩, 33) := ⟨⟨by decide +kernel, by decide +kernel⟩, List.mem_of_getElem? (i := 835) (by decide +kernel), List.mem_of_getElem? (i := 1248) (by decide +kernel), List.mem_of_getElem? (i := 1249) (by decide +kernel)⟩
theorem lw_p50 : lw_okq (⟨"ChestnutSticksModel", "hitOf", "(II)I"⟩, 33) := ⟨⟨by decide +kernel, by decide +kernel⟩, List.mem_of_getElem? (i := 835) (by decide +kernel), List.mem_of_getElem? (i := 1256) (by decide +kernel), List.mem_of_getElem? (i := 1257) (by decide +kernel)⟩
theorem lw_p51 : lw_okq (⟨"ChestnutSticksModel", "seedsNow", "()I"⟩, 33) := ⟨⟨by decide +kernel, by decide +kernel⟩, List.mem_of_getElem? (i := 835) (by decide +kernel), List.mem_of_getElem? (i := 1273) (by decide +kernel), List.mem_of_getElem? (i := 1274) (by decide +kernel)⟩
def lw_privs_4 : List (MethodName × Nat) := [(⟨"ChestnutSticksModel", "round", "()I"⟩, 33), (⟨"ChestnutSticksModel", "isHit", "(II)Z"⟩, 33), (⟨"ChestnutSticksModel", "hitOf", "(II)I"⟩, 33), (⟨"ChestnutSticksModel", "seedsNow", "()I"⟩, 33)]
theorem lw_r4 : ∀ q ∈ lw_privs_4, lw_okq q := List.forall_mem_cons.mpr ⟨lw_p48, List.forall_mem_cons.mpr ⟨lw_p49, List.forall_mem_cons.mpr ⟨lw_p50, List.forall_mem_cons.mpr ⟨lw_p51, fun _ h => absurd h List.not_mem_nil⟩⟩⟩⟩
def lw_privs : List (MethodName × Nat) := lw_privs_1 ++ (lw_privs_2 ++ (lw_privs_3 ++ (lw_privs_4)))
def lw_tbl : List Cond := k2_sels lw_privs ++ tables_1
theorem lw_privs_ok : ∀ q ∈ lw_privs, lw_okq q := by
  show ∀ q ∈ lw_privs_1 ++ (lw_privs_2 ++ (lw_privs_3 ++ (lw_privs_4))), lw_okq q
  exact List.forall_mem_append.mpr ⟨lw_r1, List.forall_mem_append.mpr ⟨lw_r2, List.forall_mem_append.mpr ⟨lw_r3, lw_r4⟩⟩⟩
-- ===== end of PART A; then your names; then what follows =====
/-! THE CLAIM OUT OF ONE WALK OF THE LAW'S BODY. Your part is whole_start (and what it stands on); all else here is the same for every law, but numbers. -/
def R_law : String := "ChestnutSticksLaw"
def lw_P (b : Addr) (xs : List Int32) (args : Array Value) (s : State) : Prop := args = #[.ref b] ∧ s.IntsAt b xs ∧ xs.length ≤ 384 ∧ (Jvm.Cond.and given_1 narrow_1).before args s = true
def lw_Q (_ : Array Value) (s : State) (o : Outcome) (t : State) : Prop := o = .returned (some (.int 1)) ∧ Framed s o t [] 51 1277
def lw_Z (below : List Frame) (a : Array Value) (s : State) : State → Prop := fun t => ∃ o, t.status = .running ∧ Ended t below o ∧ lw_Q a s o t
/-- the law's own end, with 1 on the stack, nothing written that was there before, its room as the claim has it -/
theorem lw_ret {p : Program} {l : Launch} {e : Env} {s : State} {m : MethodId} {below : List Frame} {meth : Method} {c : Code} {b : Nat} (hx : p.tables.exec = Jvm.exec) (hb : c.code = code) (hr : meth.sig.returnType = ret) (hlocks : meth.locks = false) {pc : Nat} {H : Heap} {ls : Array Slot} (hdg : decode code pc = .ok (.ireturn, 1)) : W p l e room_1 s m #[Value.ref b] below meth c H [] 51 1277 (lw_Z below #[Value.ref b] s) (F0 m pc ls [.int 1]) := by
  intro T hT X
  obtain ⟨fs, hret, hrun, hended, hW, hframe⟩ := X.leave (v := some (.int 1)) (hlocks := hlocks) (fun h => by rw [hr] at h; cases h)
  have hmeth' : T.vm.method? m = some meth := X.method'
  refine ⟨T.setFrames fs, ?_, .returned (some (.int 1)), hrun, hended, rfl, ⟨_, rfl⟩, hW, hframe⟩
  jvm_step X.here [X.here.top, hx, hb, hdg, hmeth', hr, ret, narrow_b1]
  (try refine ⟨rfl, ?_⟩); (try refine ⟨rfl, ?_⟩)
  first | (intro acts; rw [hret _ acts rfl rfl rfl]) | rw [hret _ _ rfl rfl rfl]
  exact Steps.refl _
/-- what holds at the law's entry: the machine, the code, the tables' words (any of lw_tbl by 'hts w (by decide +kernel)'), the script of L ints xs at the cell b, what the Statement gives of the start (any of its parts by flat_of_before) -/
def lw_At (p : Program) (s : State) (m : MethodId) (meth : Method) (c : Code) (b L : Nat) (xs : Nat → Int32) : Prop :=
  p.tables.exec = Jvm.exec ∧ c.code = code ∧ meth.sig.returnType = ret ∧ c.maxLocals = 4 ∧ s.vm.findClass R_law = some m.cls ∧ (∀ w ∈ lw_tbl, w.before #[Value.ref b] s = true) ∧ va_X b L xs s s.heap ∧ b < s.heap.size ∧ meth.locks = false ∧ (Jvm.Cond.and given_1 narrow_1).before #[Value.ref b] s = true
def RX0 : String := "ChestnutSticks$Kids"
def TX0 : u_T := fun k => match k with
  | _ => ("ChestnutSticks$Kids", "columns", "[I", true)
def tyX0 : Nat → FieldType := fun k => match k with
  | _ => .array .int
abbrev wsX00 : List Cond := u_ws RX0 TX0 1
theorem nmX0 : ∀ a, a < 1 → ∀ b, b < 1 → a ≠ b → (TX0 a).2.1 ≠ (TX0 b).2.1 := by decide +kernel
theorem tyX0_ok : ∀ k, k < 1 → parseFieldDescriptor (TX0 k).2.2.1 = some (tyX0 k) := by decide +kernel
abbrev cX0_init : ByteArray := prog_2_method_1_code
def yX0_init : MethodName := ⟨RX0, "<init>", "()V"⟩
abbrev cX0_place : ByteArray := prog_2_method_2_code
def yX0_place : MethodName := ⟨RX0, "place", "(II)I"⟩
abbrev cX0_nearest : ByteArray := prog_2_method_3_code
def yX0_nearest : MethodName := ⟨RX0, "nearest", "(I)I"⟩
def RX1 : String := "ChestnutSticks$Play"
def TX1 : u_T := fun k => match k with
  | 0 => ("ChestnutSticks$Play", "tree", "LChestnutSticks$Tree;", true)
  | 1 => ("ChestnutSticks$Play", "sticks", "LChestnutSticks$Sticks;", true)
  | 2 => ("ChestnutSticks$Play", "rules", "LChestnutSticks$Rules;", true)
  | 3 => ("ChestnutSticks$Play", "kids", "LChestnutSticks$Kids;", true)
  | 4 => ("ChestnutSticks$Play", "tosses", "LChestnutSticks$Throws;", true)
  | 5 => ("ChestnutSticks$Play", "hanging", "[I", true)
  | 6 => ("ChestnutSticks$Play", "lodged", "[I", true)
  | 7 => ("ChestnutSticks$Play", "ripeOfKid", "[I", true)
  | 8 => ("ChestnutSticks$Play", "brought", "[I", true)
  | 9 => ("ChestnutSticks$Play", "lots", "I", false)
  | 10 => ("ChestnutSticks$Play", "ripe", "I", false)
  | 11 => ("ChestnutSticks$Play", "green", "I", false)
  | 12 => ("ChestnutSticks$Play", "done", "I", false)
  | _ => ("ChestnutSticks$Play", "notDone", "I", false)
def tyX1 : Nat → FieldType := fun k => match k with
  | 0 => .object "ChestnutSticks$Tree"
  | 1 => .object "ChestnutSticks$Sticks"
  | 2 => .object "ChestnutSticks$Rules"
  | 3 => .object "ChestnutSticks$Kids"
  | 4 => .object "ChestnutSticks$Throws"
  | 5 => .array .int
  | 6 => .array .int
  | 7 => .array .int
  | 8 => .array .int
  | 9 => .int
  | 10 => .int
  | 11 => .int
  | 12 => .int
  | _ => .int
abbrev wsX10 : List Cond := u_ws RX1 TX1 14
theorem nmX1 : ∀ a, a < 14 → ∀ b, b < 14 → a ≠ b → (TX1 a).2.1 ≠ (TX1 b).2.1 := by decide +kernel
theorem tyX1_ok : ∀ k, k < 14 → parseFieldDescriptor (TX1 k).2.2.1 = some (tyX1 k) := by decide +kernel
abbrev cX1_init : ByteArray := prog_3_method_1_code
def yX1_init : MethodName := ⟨RX1, "<init>", "(LChestnutSticks$Tree;LChestnutSticks$Sticks;LChestnutSticks$Rules;LChestnutSticks$Kids;LChestnutSticks$Throws;)V"⟩
abbrev cX1_replayAll : ByteArray := prog_3_method_2_code
def yX1_replayAll : MethodName := ⟨RX1, "replayAll", "()V"⟩
abbrev cX1_replay : ByteArray := prog_3_method_3_code
def yX1_replay : MethodName := ⟨RX1, "replay", "(II)V"⟩
abbrev cX1_firstNotDone : ByteArray := prog_3_method_4_code
def yX1_firstNotDone : MethodName := ⟨RX1, "firstNotDone", "()I"⟩
abbrev cX1_doneCount : ByteArray := prog_3_method_5_code
def yX1_doneCount : MethodName := ⟨RX1, "doneCount", "()I"⟩
abbrev cX1_ripeDown : ByteArray := prog_3_method_6_code
def yX1_ripeDown : MethodName := ⟨RX1, "ripeDown", "()I"⟩
abbrev cX1_greenDown : ByteArray := prog_3_method_7_code
def yX1_greenDown : MethodName := ⟨RX1, "greenDown", "()I"⟩
abbrev cX1_ripeOf : ByteArray := prog_3_method_8_code
def yX1_ripeOf : MethodName := ⟨RX1, "ripeOf", "(I)I"⟩
abbrev cX1_broughtBy : ByteArray := prog_3_method_9_code
def yX1_broughtBy : MethodName := ⟨RX1, "broughtBy", "(I)I"⟩
abbrev cX1_hangsNow : ByteArray := prog_3_method_10_code
def yX1_hangsNow : MethodName := ⟨RX1, "hangsNow", "(I)I"⟩
abbrev cX1_lodgedIn : ByteArray := prog_3_method_11_code
def yX1_lodgedIn : MethodName := ⟨RX1, "lodgedIn", "(I)I"⟩
abbrev cX1_ballsUp : ByteArray := prog_3_method_12_code
def yX1_ballsUp : MethodName := ⟨RX1, "ballsUp", "()I"⟩
abbrev cX1_lodgedBits : ByteArray := prog_3_method_13_code
def yX1_lodgedBits : MethodName := ⟨RX1, "lodgedBits", "()I"⟩
abbrev cX1_sixteenths : ByteArray := prog_3_method_14_code
def yX1_sixteenths : MethodName := ⟨RX1, "sixteenths", "(IIZ)I"⟩
abbrev cX1_worthOf : ByteArray := prog_3_method_15_code
def yX1_worthOf : MethodName := ⟨RX1, "worthOf", "(II)I"⟩
abbrev cX1_bestCell : ByteArray := prog_3_method_16_code
def yX1_bestCell : MethodName := ⟨RX1, "bestCell", "(I)I"⟩
abbrev cX1_sixteenthsOfStriking : ByteArray := prog_3_method_17_code
def yX1_sixteenthsOfStriking : MethodName := ⟨RX1, "sixteenthsOfStriking", "(III)I"⟩
abbrev cX1_begin : ByteArray := prog_3_method_18_code
def yX1_begin : MethodName := ⟨RX1, "begin", "(I)V"⟩
abbrev cX1_lotOfSixteen : ByteArray := prog_3_method_19_code
def yX1_lotOfSixteen : MethodName := ⟨RX1, "lotOfSixteen", "()I"⟩
abbrev cX1_throwOne : ByteArray := prog_3_method_20_code
def yX1_throwOne : MethodName := ⟨RX1, "throwOne", "(I)V"⟩
abbrev cX1_sideOf : ByteArray := prog_3_method_21_code
def yX1_sideOf : MethodName := ⟨RX1, "sideOf", "(I)I"⟩
abbrev cX1_bringDown : ByteArray := prog_3_method_22_code
def yX1_bringDown : MethodName := ⟨RX1, "bringDown", "(III)V"⟩
abbrev cX1_hangsIfStruck : ByteArray := prog_3_method_23_code
def yX1_hangsIfStruck : MethodName := ⟨RX1, "hangsIfStruck", "(III)I"⟩
abbrev cX1_takeDown : ByteArray := prog_3_method_24_code
def yX1_takeDown : MethodName := ⟨RX1, "takeDown", "(II)V"⟩
abbrev cX1_give : ByteArray := prog_3_method_25_code
def yX1_give : MethodName := ⟨RX1, "give", "(I)V"⟩
abbrev cX1_freeSticks : ByteArray := prog_3_method_26_code
def yX1_freeSticks : MethodName := ⟨RX1, "freeSticks", "(III)V"⟩
abbrev cX1_strikes : ByteArray := prog_3_method_27_code
def yX1_strikes : MethodName := ⟨RX1, "strikes", "(IIII)Z"⟩
abbrev cX1_struckBalls : ByteArray := prog_3_method_28_code
def yX1_struckBalls : MethodName := ⟨RX1, "struckBalls", "(IIIZ)I"⟩
def RX2 : String := "ChestnutSticks$Rules"
def TX2 : u_T := fun k => match k with
  | 0 => ("ChestnutSticks$Rules", "values", "[I", true)
  | _ => ("ChestnutSticks$Rules", "seedValue", "I", false)
def tyX2 : Nat → FieldType := fun k => match k with
  | 0 => .array .int
  | _ => .int
abbrev wsX20 : List Cond := u_ws RX2 TX2 2
theorem nmX2 : ∀ a, a < 2 → ∀ b, b < 2 → a ≠ b → (TX2 a).2.1 ≠ (TX2 b).2.1 := by decide +kernel
theorem tyX2_ok : ∀ k, k < 2 → parseFieldDescriptor (TX2 k).2.2.1 = some (tyX2 k) := by decide +kernel
abbrev cX2_init : ByteArray := prog_4_method_1_code
def yX2_init : MethodName := ⟨RX2, "<init>", "()V"⟩
abbrev cX2_change : ByteArray := prog_4_method_2_code
def yX2_change : MethodName := ⟨RX2, "change", "(II)I"⟩
abbrev cX2_now : ByteArray := prog_4_method_3_code
def yX2_now : MethodName := ⟨RX2, "now", "(I)I"⟩
abbrev cX2_changeSeed : ByteArray := prog_4_method_4_code
def yX2_changeSeed : MethodName := ⟨RX2, "changeSeed", "(I)I"⟩
abbrev cX2_seedNow : ByteArray := prog_4_method_5_code
def yX2_seedNow : MethodName := ⟨RX2, "seedNow", "()I"⟩
def RX3 : String := "ChestnutSticks$Season"
def TX3 : u_T := fun k => match k with
  | 0 => ("ChestnutSticks$Season", "tree", "LChestnutSticks$Tree;", true)
  | _ => ("ChestnutSticks$Season", "ripe", "[I", true)
def tyX3 : Nat → FieldType := fun k => match k with
  | 0 => .object "ChestnutSticks$Tree"
  | _ => .array .int
abbrev wsX30 : List Cond := u_ws RX3 TX3 2
theorem nmX3 : ∀ a, a < 2 → ∀ b, b < 2 → a ≠ b → (TX3 a).2.1 ≠ (TX3 b).2.1 := by decide +kernel
theorem tyX3_ok : ∀ k, k < 2 → parseFieldDescriptor (TX3 k).2.2.1 = some (tyX3 k) := by decide +kernel
abbrev cX3_init : ByteArray := prog_5_method_1_code
def yX3_init : MethodName := ⟨RX3, "<init>", "(LChestnutSticks$Tree;)V"⟩
abbrev cX3_fallenTimesPower : ByteArray := prog_5_method_2_code
def yX3_fallenTimesPower : MethodName := ⟨RX3, "fallenTimesPower", "(III)J"⟩
abbrev cX3_restBits : ByteArray := prog_5_method_3_code
def yX3_restBits : MethodName := ⟨RX3, "restBits", "(I)I"⟩
abbrev cX3_endOf : ByteArray := prog_5_method_4_code
def yX3_endOf : MethodName := ⟨RX3, "endOf", "(I)I"⟩
abbrev cX3_nightsInDanger : ByteArray := prog_5_method_5_code
def yX3_nightsInDanger : MethodName := ⟨RX3, "nightsInDanger", "(III)I"⟩
abbrev cX3_fillRipe : ByteArray := prog_5_method_6_code
def yX3_fillRipe : MethodName := ⟨RX3, "fillRipe", "()V"⟩
abbrev cX3_firstGreatest : ByteArray := prog_5_method_7_code
def yX3_firstGreatest : MethodName := ⟨RX3, "firstGreatest", "()I"⟩
abbrev cX3_betterAhead : ByteArray := prog_5_method_8_code
def yX3_betterAhead : MethodName := ⟨RX3, "betterAhead", "(II)I"⟩
def RX4 : String := "ChestnutSticks$Sheets"
def TX4 : u_T := fun k => match k with
  | 0 => ("ChestnutSticks$Sheets", "forms", "[I", true)
  | 1 => ("ChestnutSticks$Sheets", "sizes", "[I", true)
  | 2 => ("ChestnutSticks$Sheets", "items", "[I", true)
  | _ => ("ChestnutSticks$Sheets", "latest", "I", false)
def tyX4 : Nat → FieldType := fun k => match k with
  | 0 => .array .int
  | 1 => .array .int
  | 2 => .array .int
  | _ => .int
abbrev wsX40 : List Cond := u_ws RX4 TX4 4
theorem nmX4 : ∀ a, a < 4 → ∀ b, b < 4 → a ≠ b → (TX4 a).2.1 ≠ (TX4 b).2.1 := by decide +kernel
theorem tyX4_ok : ∀ k, k < 4 → parseFieldDescriptor (TX4 k).2.2.1 = some (tyX4 k) := by decide +kernel
abbrev cX4_init : ByteArray := prog_6_method_1_code
def yX4_init : MethodName := ⟨RX4, "<init>", "()V"⟩
abbrev cX4_find : ByteArray := prog_6_method_2_code
def yX4_find : MethodName := ⟨RX4, "find", "(I)I"⟩
abbrev cX4_latestFinding : ByteArray := prog_6_method_3_code
def yX4_latestFinding : MethodName := ⟨RX4, "latestFinding", "()I"⟩
abbrev cX4_isLost : ByteArray := prog_6_method_4_code
def yX4_isLost : MethodName := ⟨RX4, "isLost", "(I)Z"⟩
abbrev cX4_formOf : ByteArray := prog_6_method_5_code
def yX4_formOf : MethodName := ⟨RX4, "formOf", "(I)I"⟩
abbrev cX4_sizeOf : ByteArray := prog_6_method_6_code
def yX4_sizeOf : MethodName := ⟨RX4, "sizeOf", "(I)I"⟩
abbrev cX4_whyNot : ByteArray := prog_6_method_7_code
def yX4_whyNot : MethodName := ⟨RX4, "whyNot", "(III)I"⟩
abbrev cX4_hasRun : ByteArray := prog_6_method_8_code
def yX4_hasRun : MethodName := ⟨RX4, "hasRun", "(III)Z"⟩
abbrev cX4_makeNew : ByteArray := prog_6_method_9_code
def yX4_makeNew : MethodName := ⟨RX4, "makeNew", "(III)V"⟩
abbrev cX4_makeLost : ByteArray := prog_6_method_10_code
def yX4_makeLost : MethodName := ⟨RX4, "makeLost", "(I)I"⟩
abbrev cX4_itemOf : ByteArray := prog_6_method_11_code
def yX4_itemOf : MethodName := ⟨RX4, "itemOf", "(II)I"⟩
abbrev cX4_put : ByteArray := prog_6_method_12_code
def yX4_put : MethodName := ⟨RX4, "put", "(III)V"⟩
abbrev cX4_move : ByteArray := prog_6_method_13_code
def yX4_move : MethodName := ⟨RX4, "move", "(IIIII)V"⟩
abbrev cX4_lowestBits : ByteArray := prog_6_method_14_code
def yX4_lowestBits : MethodName := ⟨RX4, "lowestBits", "(II)I"⟩
def RX5 : String := "ChestnutSticks$Sightings"
def TX5 : u_T := fun k => match k with
  | 0 => ("ChestnutSticks$Sightings", "throwOf", "[I", true)
  | 1 => ("ChestnutSticks$Sightings", "ballsOf", "[I", true)
  | _ => ("ChestnutSticks$Sightings", "size", "I", false)
def tyX5 : Nat → FieldType := fun k => match k with
  | 0 => .array .int
  | 1 => .array .int
  | _ => .int
abbrev wsX50 : List Cond := u_ws RX5 TX5 3
theorem nmX5 : ∀ a, a < 3 → ∀ b, b < 3 → a ≠ b → (TX5 a).2.1 ≠ (TX5 b).2.1 := by decide +kernel
theorem tyX5_ok : ∀ k, k < 3 → parseFieldDescriptor (TX5 k).2.2.1 = some (tyX5 k) := by decide +kernel
abbrev cX5_init : ByteArray := prog_7_method_1_code
def yX5_init : MethodName := ⟨RX5, "<init>", "()V"⟩
abbrev cX5_append : ByteArray := prog_7_method_2_code
def yX5_append : MethodName := ⟨RX5, "append", "(II)I"⟩
abbrev cX5_empty : ByteArray := prog_7_method_3_code
def yX5_empty : MethodName := ⟨RX5, "empty", "()I"⟩
abbrev cX5_size : ByteArray := prog_7_method_4_code
def yX5_size : MethodName := ⟨RX5, "size", "()I"⟩
abbrev cX5_fit : ByteArray := prog_7_method_5_code
def yX5_fit : MethodName := ⟨RX5, "fit", "(LChestnutSticks$Play;I)Z"⟩
def RX6 : String := "ChestnutSticks$Sticks"
def TX6 : u_T := fun k => match k with
  | _ => ("ChestnutSticks$Sticks", "values", "[I", true)
def tyX6 : Nat → FieldType := fun k => match k with
  | _ => .array .int
abbrev wsX60 : List Cond := u_ws RX6 TX6 1
theorem nmX6 : ∀ a, a < 1 → ∀ b, b < 1 → a ≠ b → (TX6 a).2.1 ≠ (TX6 b).2.1 := by decide +kernel
theorem tyX6_ok : ∀ k, k < 1 → parseFieldDescriptor (TX6 k).2.2.1 = some (tyX6 k) := by decide +kernel
abbrev cX6_init : ByteArray := prog_8_method_1_code
def yX6_init : MethodName := ⟨RX6, "<init>", "()V"⟩
abbrev cX6_change : ByteArray := prog_8_method_2_code
def yX6_change : MethodName := ⟨RX6, "change", "(III)I"⟩
abbrev cX6_now : ByteArray := prog_8_method_3_code
def yX6_now : MethodName := ⟨RX6, "now", "(II)I"⟩
def RX7 : String := "ChestnutSticks$Throwers"
def TX7 : u_T := fun k => match k with
  | 0 => ("ChestnutSticks$Throwers", "everyOf", "[I", true)
  | 1 => ("ChestnutSticks$Throwers", "fromOf", "[I", true)
  | _ => ("ChestnutSticks$Throwers", "size", "I", false)
def tyX7 : Nat → FieldType := fun k => match k with
  | 0 => .array .int
  | 1 => .array .int
  | _ => .int
abbrev wsX70 : List Cond := u_ws RX7 TX7 3
theorem nmX7 : ∀ a, a < 3 → ∀ b, b < 3 → a ≠ b → (TX7 a).2.1 ≠ (TX7 b).2.1 := by decide +kernel
theorem tyX7_ok : ∀ k, k < 3 → parseFieldDescriptor (TX7 k).2.2.1 = some (tyX7 k) := by decide +kernel
abbrev cX7_init : ByteArray := prog_9_method_1_code
def yX7_init : MethodName := ⟨RX7, "<init>", "()V"⟩
abbrev cX7_append : ByteArray := prog_9_method_2_code
def yX7_append : MethodName := ⟨RX7, "append", "(II)I"⟩
abbrev cX7_empty : ByteArray := prog_9_method_3_code
def yX7_empty : MethodName := ⟨RX7, "empty", "()I"⟩
abbrev cX7_size : ByteArray := prog_9_method_4_code
def yX7_size : MethodName := ⟨RX7, "size", "()I"⟩
abbrev cX7_roundLength : ByteArray := prog_9_method_5_code
def yX7_roundLength : MethodName := ⟨RX7, "roundLength", "()I"⟩
abbrev cX7_firstFree : ByteArray := prog_9_method_6_code
def yX7_firstFree : MethodName := ⟨RX7, "firstFree", "(II)I"⟩
abbrev cX7_hitsInRound : ByteArray := prog_9_method_7_code
def yX7_hitsInRound : MethodName := ⟨RX7, "hitsInRound", "(I)I"⟩
abbrev cX7_isHit : ByteArray := prog_9_method_8_code
def yX7_isHit : MethodName := ⟨RX7, "isHit", "(II)Z"⟩
abbrev cX7_leastMultiple : ByteArray := prog_9_method_9_code
def yX7_leastMultiple : MethodName := ⟨RX7, "leastMultiple", "(II)I"⟩
def RX8 : String := "ChestnutSticks$Throws"
def TX8 : u_T := fun k => match k with
  | 0 => ("ChestnutSticks$Throws", "kidOf", "[I", true)
  | 1 => ("ChestnutSticks$Throws", "stickOf", "[I", true)
  | 2 => ("ChestnutSticks$Throws", "cellOf", "[I", true)
  | _ => ("ChestnutSticks$Throws", "size", "I", false)
def tyX8 : Nat → FieldType := fun k => match k with
  | 0 => .array .int
  | 1 => .array .int
  | 2 => .array .int
  | _ => .int
abbrev wsX80 : List Cond := u_ws RX8 TX8 4
theorem nmX8 : ∀ a, a < 4 → ∀ b, b < 4 → a ≠ b → (TX8 a).2.1 ≠ (TX8 b).2.1 := by decide +kernel
theorem tyX8_ok : ∀ k, k < 4 → parseFieldDescriptor (TX8 k).2.2.1 = some (tyX8 k) := by decide +kernel
abbrev cX8_init : ByteArray := prog_10_method_1_code
def yX8_init : MethodName := ⟨RX8, "<init>", "()V"⟩
abbrev cX8_append : ByteArray := prog_10_method_2_code
def yX8_append : MethodName := ⟨RX8, "append", "(III)I"⟩
abbrev cX8_removeLast : ByteArray := prog_10_method_3_code
def yX8_removeLast : MethodName := ⟨RX8, "removeLast", "()I"⟩
abbrev cX8_size : ByteArray := prog_10_method_4_code
def yX8_size : MethodName := ⟨RX8, "size", "()I"⟩
abbrev cX8_kidAt : ByteArray := prog_10_method_5_code
def yX8_kidAt : MethodName := ⟨RX8, "kidAt", "(I)I"⟩
abbrev cX8_stickAt : ByteArray := prog_10_method_6_code
def yX8_stickAt : MethodName := ⟨RX8, "stickAt", "(I)I"⟩
abbrev cX8_cellNumberAt : ByteArray := prog_10_method_7_code
def yX8_cellNumberAt : MethodName := ⟨RX8, "cellNumberAt", "(I)I"⟩
def RX9 : String := "ChestnutSticks$Tree"
def TX9 : u_T := fun k => match k with
  | 0 => ("ChestnutSticks$Tree", "text", "[I", true)
  | 1 => ("ChestnutSticks$Tree", "atFirst", "[I", true)
  | 2 => ("ChestnutSticks$Tree", "length", "I", false)
  | _ => ("ChestnutSticks$Tree", "fault", "I", false)
def tyX9 : Nat → FieldType := fun k => match k with
  | 0 => .array .int
  | 1 => .array .int
  | 2 => .int
  | _ => .int
abbrev wsX90 : List Cond := u_ws RX9 TX9 4
theorem nmX9 : ∀ a, a < 4 → ∀ b, b < 4 → a ≠ b → (TX9 a).2.1 ≠ (TX9 b).2.1 := by decide +kernel
theorem tyX9_ok : ∀ k, k < 4 → parseFieldDescriptor (TX9 k).2.2.1 = some (tyX9 k) := by decide +kernel
abbrev cX9_init : ByteArray := prog_11_method_1_code
def yX9_init : MethodName := ⟨RX9, "<init>", "()V"⟩
abbrev cX9_append : ByteArray := prog_11_method_2_code
def yX9_append : MethodName := ⟨RX9, "append", "(I)I"⟩
abbrev cX9_empty : ByteArray := prog_11_method_3_code
def yX9_empty : MethodName := ⟨RX9, "empty", "()I"⟩
abbrev cX9_removeLast : ByteArray := prog_11_method_4_code
def yX9_removeLast : MethodName := ⟨RX9, "removeLast", "()I"⟩
abbrev cX9_faultPlace : ByteArray := prog_11_method_5_code
def yX9_faultPlace : MethodName := ⟨RX9, "faultPlace", "()I"⟩
abbrev cX9_textLength : ByteArray := prog_11_method_6_code
def yX9_textLength : MethodName := ⟨RX9, "textLength", "()I"⟩
abbrev cX9_isCell : ByteArray := prog_11_method_7_code
def yX9_isCell : MethodName := ⟨RX9, "isCell", "(I)Z"⟩
abbrev cX9_cellAt : ByteArray := prog_11_method_8_code
def yX9_cellAt : MethodName := ⟨RX9, "cellAt", "(II)I"⟩
abbrev cX9_hasBall : ByteArray := prog_11_method_9_code
def yX9_hasBall : MethodName := ⟨RX9, "hasBall", "(I)Z"⟩
abbrev cX9_hangsOn : ByteArray := prog_11_method_10_code
def yX9_hangsOn : MethodName := ⟨RX9, "hangsOn", "(II)I"⟩
abbrev cX9_cellCount : ByteArray := prog_11_method_11_code
def yX9_cellCount : MethodName := ⟨RX9, "cellCount", "()I"⟩
abbrev cX9_ballCount : ByteArray := prog_11_method_12_code
def yX9_ballCount : MethodName := ⟨RX9, "ballCount", "()I"⟩
abbrev cX9_ripeOn : ByteArray := prog_11_method_13_code
def yX9_ripeOn : MethodName := ⟨RX9, "ripeOn", "(I)I"⟩
abbrev cX9_clearCells : ByteArray := prog_11_method_14_code
def yX9_clearCells : MethodName := ⟨RX9, "clearCells", "()V"⟩
abbrev cX9_parse : ByteArray := prog_11_method_15_code
def yX9_parse : MethodName := ⟨RX9, "parse", "()V"⟩
abbrev cX9_fillCells : ByteArray := prog_11_method_16_code
def yX9_fillCells : MethodName := ⟨RX9, "fillCells", "()I"⟩
abbrev cX9_isTooSoon : ByteArray := prog_11_method_17_code
def yX9_isTooSoon : MethodName := ⟨RX9, "isTooSoon", "(III)Z"⟩
abbrev cX9_isCellSign : ByteArray := prog_11_method_18_code
def yX9_isCellSign : MethodName := ⟨RX9, "isCellSign", "(I)Z"⟩
def RX10 : String := "ChestnutSticks"
def TX10 : u_T := fun k => match k with
  | 0 => ("ChestnutSticks", "tree", "LChestnutSticks$Tree;", true)
  | 1 => ("ChestnutSticks", "sticks", "LChestnutSticks$Sticks;", true)
  | 2 => ("ChestnutSticks", "rules", "LChestnutSticks$Rules;", true)
  | 3 => ("ChestnutSticks", "kids", "LChestnutSticks$Kids;", true)
  | 4 => ("ChestnutSticks", "tosses", "LChestnutSticks$Throws;", true)
  | 5 => ("ChestnutSticks", "play", "LChestnutSticks$Play;", true)
  | 6 => ("ChestnutSticks", "season", "LChestnutSticks$Season;", true)
  | 7 => ("ChestnutSticks", "throwers", "LChestnutSticks$Throwers;", true)
  | 8 => ("ChestnutSticks", "sightings", "LChestnutSticks$Sightings;", true)
  | _ => ("ChestnutSticks", "sheets", "LChestnutSticks$Sheets;", true)
def tyX10 : Nat → FieldType := fun k => match k with
  | 0 => .object "ChestnutSticks$Tree"
  | 1 => .object "ChestnutSticks$Sticks"
  | 2 => .object "ChestnutSticks$Rules"
  | 3 => .object "ChestnutSticks$Kids"
  | 4 => .object "ChestnutSticks$Throws"
  | 5 => .object "ChestnutSticks$Play"
  | 6 => .object "ChestnutSticks$Season"
  | 7 => .object "ChestnutSticks$Throwers"
  | 8 => .object "ChestnutSticks$Sightings"
  | _ => .object "ChestnutSticks$Sheets"
abbrev wsX100 : List Cond := u_ws RX10 TX10 10
theorem nmX10 : ∀ a, a < 10 → ∀ b, b < 10 → a ≠ b → (TX10 a).2.1 ≠ (TX10 b).2.1 := by decide +kernel
theorem tyX10_ok : ∀ k, k < 10 → parseFieldDescriptor (TX10 k).2.2.1 = some (tyX10 k) := by decide +kernel
abbrev cX10_init : ByteArray := prog_1_method_1_code
def yX10_init : MethodName := ⟨RX10, "<init>", "()V"⟩
abbrev cX10_type : ByteArray := prog_1_method_2_code
def yX10_type : MethodName := ⟨RX10, "type", "(I)I"⟩
abbrev cX10_wipe : ByteArray := prog_1_method_3_code
def yX10_wipe : MethodName := ⟨RX10, "wipe", "()I"⟩
abbrev cX10_undo : ByteArray := prog_1_method_4_code
def yX10_undo : MethodName := ⟨RX10, "undo", "()I"⟩
abbrev cX10_fault : ByteArray := prog_1_method_5_code
def yX10_fault : MethodName := ⟨RX10, "fault", "()I"⟩
abbrev cX10_stick : ByteArray := prog_1_method_6_code
def yX10_stick : MethodName := ⟨RX10, "stick", "(III)I"⟩
abbrev cX10_set : ByteArray := prog_1_method_7_code
def yX10_set : MethodName := ⟨RX10, "set", "(II)I"⟩
abbrev cX10_seed : ByteArray := prog_1_method_8_code
def yX10_seed : MethodName := ⟨RX10, "seed", "(I)I"⟩
abbrev cX10_stands : ByteArray := prog_1_method_9_code
def yX10_stands : MethodName := ⟨RX10, "stands", "(II)I"⟩
abbrev cX10_read : ByteArray := prog_1_method_10_code
def yX10_read : MethodName := ⟨RX10, "read", "(I)I"⟩
abbrev cX10_toss : ByteArray := prog_1_method_11_code
def yX10_toss : MethodName := ⟨RX10, "toss", "(III)I"⟩
abbrev cX10_back : ByteArray := prog_1_method_12_code
def yX10_back : MethodName := ⟨RX10, "back", "()I"⟩
abbrev cX10_judged : ByteArray := prog_1_method_13_code
def yX10_judged : MethodName := ⟨RX10, "judged", "()I"⟩
abbrev cX10_state : ByteArray := prog_1_method_14_code
def yX10_state : MethodName := ⟨RX10, "state", "(II)I"⟩
abbrev cX10_hangs : ByteArray := prog_1_method_15_code
def yX10_hangs : MethodName := ⟨RX10, "hangs", "(I)I"⟩
abbrev cX10_has : ByteArray := prog_1_method_16_code
def yX10_has : MethodName := ⟨RX10, "has", "(I)I"⟩
abbrev cX10_brings : ByteArray := prog_1_method_17_code
def yX10_brings : MethodName := ⟨RX10, "brings", "(III)J"⟩
abbrev cX10_worth : ByteArray := prog_1_method_18_code
def yX10_worth : MethodName := ⟨RX10, "worth", "(II)I"⟩
abbrev cX10_where : ByteArray := prog_1_method_19_code
def yX10_where : MethodName := ⟨RX10, "where", "(I)I"⟩
abbrev cX10_which : ByteArray := prog_1_method_20_code
def yX10_which : MethodName := ⟨RX10, "which", "()I"⟩
abbrev cX10_frees : ByteArray := prog_1_method_21_code
def yX10_frees : MethodName := ⟨RX10, "frees", "(III)I"⟩
abbrev cX10_lie : ByteArray := prog_1_method_22_code
def yX10_lie : MethodName := ⟨RX10, "lie", "(II)J"⟩
abbrev cX10_ripe : ByteArray := prog_1_method_23_code
def yX10_ripe : MethodName := ⟨RX10, "ripe", "(I)I"⟩
abbrev cX10_rests : ByteArray := prog_1_method_24_code
def yX10_rests : MethodName := ⟨RX10, "rests", "(I)I"⟩
abbrev cX10_ends : ByteArray := prog_1_method_25_code
def yX10_ends : MethodName := ⟨RX10, "ends", "(II)I"⟩
abbrev cX10_thrower : ByteArray := prog_1_method_26_code
def yX10_thrower : MethodName := ⟨RX10, "thrower", "(II)I"⟩
abbrev cX10_gone : ByteArray := prog_1_method_27_code
def yX10_gone : MethodName := ⟨RX10, "gone", "()I"⟩
abbrev cX10_run : ByteArray := prog_1_method_28_code
def yX10_run : MethodName := ⟨RX10, "run", "(II)I"⟩
abbrev cX10_hit : ByteArray := prog_1_method_29_code
def yX10_hit : MethodName := ⟨RX10, "hit", "(II)I"⟩
abbrev cX10_seen : ByteArray := prog_1_method_30_code
def yX10_seen : MethodName := ⟨RX10, "seen", "(II)I"⟩
abbrev cX10_forget : ByteArray := prog_1_method_31_code
def yX10_forget : MethodName := ⟨RX10, "forget", "()I"⟩
abbrev cX10_seeds : ByteArray := prog_1_method_32_code
def yX10_seeds : MethodName := ⟨RX10, "seeds", "()I"⟩
abbrev cX10_sheet : ByteArray := prog_1_method_33_code
def yX10_sheet : MethodName := ⟨RX10, "sheet", "(III)I"⟩
abbrev cX10_lose : ByteArray := prog_1_method_34_code
def yX10_lose : MethodName := ⟨RX10, "lose", "(I)I"⟩
abbrev cX10_lay : ByteArray := prog_1_method_35_code
def yX10_lay : MethodName := ⟨RX10, "lay", "(IIII)I"⟩
abbrev cX10_get : ByteArray := prog_1_method_36_code
def yX10_get : MethodName := ⟨RX10, "get", "(III)I"⟩
abbrev cX10_copy : ByteArray := prog_1_method_37_code
def yX10_copy : MethodName := ⟨RX10, "copy", "(IIIII)I"⟩
abbrev cX10_write : ByteArray := prog_1_method_38_code
def yX10_write : MethodName := ⟨RX10, "write", "(I)I"⟩
abbrev cX10_count : ByteArray := prog_1_method_39_code
def yX10_count : MethodName := ⟨RX10, "count", "(I)I"⟩
abbrev cX10_digest : ByteArray := prog_1_method_40_code
def yX10_digest : MethodName := ⟨RX10, "digest", "()J"⟩
abbrev cX10_isBelow : ByteArray := prog_1_method_41_code
def yX10_isBelow : MethodName := ⟨RX10, "isBelow", "(II)Z"⟩
abbrev cX10_power : ByteArray := prog_1_method_42_code
def yX10_power : MethodName := ⟨RX10, "power", "(JI)J"⟩
abbrev cX10_lowest : ByteArray := prog_1_method_43_code
def yX10_lowest : MethodName := ⟨RX10, "lowest", "(JJZ)J"⟩
def RX11 : String := "ChestnutSticksModel"
def TX11 : u_T := fun k => match k with
  | 0 => ("ChestnutSticksModel", "forms", "[I", true)
  | 1 => ("ChestnutSticksModel", "sizes", "[I", true)
  | 2 => ("ChestnutSticksModel", "items", "[I", true)
  | 3 => ("ChestnutSticksModel", "moved", "[I", true)
  | 4 => ("ChestnutSticksModel", "latest", "I", false)
  | 5 => ("ChestnutSticksModel", "text", "[I", true)
  | 6 => ("ChestnutSticksModel", "typed", "I", false)
  | 7 => ("ChestnutSticksModel", "at", "I", false)
  | 8 => ("ChestnutSticksModel", "isThere", "[Z", true)
  | 9 => ("ChestnutSticksModel", "tree", "[I", true)
  | 10 => ("ChestnutSticksModel", "rows", "I", false)
  | 11 => ("ChestnutSticksModel", "wide", "I", false)
  | 12 => ("ChestnutSticksModel", "heavy", "[I", true)
  | 13 => ("ChestnutSticksModel", "longs", "[I", true)
  | 14 => ("ChestnutSticksModel", "lodging", "[I", true)
  | 15 => ("ChestnutSticksModel", "settings", "[I", true)
  | 16 => ("ChestnutSticksModel", "firstSeed", "I", false)
  | 17 => ("ChestnutSticksModel", "standing", "[I", true)
  | 18 => ("ChestnutSticksModel", "throwings", "I", false)
  | 19 => ("ChestnutSticksModel", "throwing", "[I", true)
  | 20 => ("ChestnutSticksModel", "isUp", "[Z", true)
  | 21 => ("ChestnutSticksModel", "lodged", "[I", true)
  | 22 => ("ChestnutSticksModel", "had", "[I", true)
  | 23 => ("ChestnutSticksModel", "brought", "[I", true)
  | 24 => ("ChestnutSticksModel", "now", "I", false)
  | 25 => ("ChestnutSticksModel", "ripeDown", "I", false)
  | 26 => ("ChestnutSticksModel", "greenDown", "I", false)
  | 27 => ("ChestnutSticksModel", "doneMany", "I", false)
  | 28 => ("ChestnutSticksModel", "firstNot", "I", false)
  | 29 => ("ChestnutSticksModel", "throwers", "I", false)
  | 30 => ("ChestnutSticksModel", "thrower", "[I", true)
  | 31 => ("ChestnutSticksModel", "sights", "I", false)
  | _ => ("ChestnutSticksModel", "seen", "[I", true)
def tyX11 : Nat → FieldType := fun k => match k with
  | 0 => .array .int
  | 1 => .array .int
  | 2 => .array .int
  | 3 => .array .int
  | 4 => .int
  | 5 => .array .int
  | 6 => .int
  | 7 => .int
  | 8 => .array .boolean
  | 9 => .array .int
  | 10 => .int
  | 11 => .int
  | 12 => .array .int
  | 13 => .array .int
  | 14 => .array .int
  | 15 => .array .int
  | 16 => .int
  | 17 => .array .int
  | 18 => .int
  | 19 => .array .int
  | 20 => .array .boolean
  | 21 => .array .int
  | 22 => .array .int
  | 23 => .array .int
  | 24 => .int
  | 25 => .int
  | 26 => .int
  | 27 => .int
  | 28 => .int
  | 29 => .int
  | 30 => .array .int
  | 31 => .int
  | _ => .array .int
abbrev wsX110 : List Cond := u_ws RX11 TX11 33
theorem nmX11 : ∀ a, a < 33 → ∀ b, b < 33 → a ≠ b → (TX11 a).2.1 ≠ (TX11 b).2.1 := by decide +kernel
theorem tyX11_ok : ∀ k, k < 33 → parseFieldDescriptor (TX11 k).2.2.1 = some (tyX11 k) := by decide +kernel
abbrev cX11_init : ByteArray := prog_13_method_1_code
def yX11_init : MethodName := ⟨RX11, "<init>", "()V"⟩
abbrev cX11_in : ByteArray := prog_13_method_3_code
def yX11_in : MethodName := ⟨RX11, "in", "(JJJ)Z"⟩
abbrev cX11_no : ByteArray := prog_13_method_4_code
def yX11_no : MethodName := ⟨RX11, "no", "(I)J"⟩
abbrev cX11_isTwo : ByteArray := prog_13_method_5_code
def yX11_isTwo : MethodName := ⟨RX11, "isTwo", "(I)Z"⟩
abbrev cX11_greater : ByteArray := prog_13_method_6_code
def yX11_greater : MethodName := ⟨RX11, "greater", "(II)I"⟩
abbrev cX11_apart : ByteArray := prog_13_method_7_code
def yX11_apart : MethodName := ⟨RX11, "apart", "(II)I"⟩
abbrev cX11_met : ByteArray := prog_13_method_8_code
def yX11_met : MethodName := ⟨RX11, "met", "(I)I"⟩
abbrev cX11_isSheet : ByteArray := prog_13_method_9_code
def yX11_isSheet : MethodName := ⟨RX11, "isSheet", "(I)Z"⟩
abbrev cX11_sheet : ByteArray := prog_13_method_10_code
def yX11_sheet : MethodName := ⟨RX11, "sheet", "(III)I"⟩
abbrev cX11_lose : ByteArray := prog_13_method_11_code
def yX11_lose : MethodName := ⟨RX11, "lose", "(I)I"⟩
abbrev cX11_lacks : ByteArray := prog_13_method_12_code
def yX11_lacks : MethodName := ⟨RX11, "lacks", "(III)I"⟩
abbrev cX11_cut : ByteArray := prog_13_method_13_code
def yX11_cut : MethodName := ⟨RX11, "cut", "(II)I"⟩
abbrev cX11_lay : ByteArray := prog_13_method_14_code
def yX11_lay : MethodName := ⟨RX11, "lay", "(IIII)I"⟩
abbrev cX11_get : ByteArray := prog_13_method_15_code
def yX11_get : MethodName := ⟨RX11, "get", "(III)I"⟩
abbrev cX11_copy : ByteArray := prog_13_method_16_code
def yX11_copy : MethodName := ⟨RX11, "copy", "(IIIII)I"⟩
abbrev cX11_type : ByteArray := prog_13_method_17_code
def yX11_type : MethodName := ⟨RX11, "type", "(I)I"⟩
abbrev cX11_wipe : ByteArray := prog_13_method_18_code
def yX11_wipe : MethodName := ⟨RX11, "wipe", "()I"⟩
abbrev cX11_undo : ByteArray := prog_13_method_19_code
def yX11_undo : MethodName := ⟨RX11, "undo", "()I"⟩
abbrev cX11_clears : ByteArray := prog_13_method_20_code
def yX11_clears : MethodName := ⟨RX11, "clears", "()V"⟩
abbrev cX11_readsRow : ByteArray := prog_13_method_21_code
def yX11_readsRow : MethodName := ⟨RX11, "readsRow", "()Z"⟩
abbrev cX11_reads : ByteArray := prog_13_method_22_code
def yX11_reads : MethodName := ⟨RX11, "reads", "()I"⟩
abbrev cX11_fault : ByteArray := prog_13_method_23_code
def yX11_fault : MethodName := ⟨RX11, "fault", "()I"⟩
abbrev cX11_isCell : ByteArray := prog_13_method_24_code
def yX11_isCell : MethodName := ⟨RX11, "isCell", "(I)Z"⟩
abbrev cX11_isFour : ByteArray := prog_13_method_25_code
def yX11_isFour : MethodName := ⟨RX11, "isFour", "(I)Z"⟩
abbrev cX11_stick : ByteArray := prog_13_method_26_code
def yX11_stick : MethodName := ⟨RX11, "stick", "(III)I"⟩
abbrev cX11_most : ByteArray := prog_13_method_27_code
def yX11_most : MethodName := ⟨RX11, "most", "(I)I"⟩
abbrev cX11_set : ByteArray := prog_13_method_28_code
def yX11_set : MethodName := ⟨RX11, "set", "(II)I"⟩
abbrev cX11_seed : ByteArray := prog_13_method_29_code
def yX11_seed : MethodName := ⟨RX11, "seed", "(I)I"⟩
abbrev cX11_stands : ByteArray := prog_13_method_30_code
def yX11_stands : MethodName := ⟨RX11, "stands", "(II)I"⟩
abbrev cX11_read : ByteArray := prog_13_method_31_code
def yX11_read : MethodName := ⟨RX11, "read", "(I)I"⟩
abbrev cX11_toss : ByteArray := prog_13_method_32_code
def yX11_toss : MethodName := ⟨RX11, "toss", "(III)I"⟩
abbrev cX11_back : ByteArray := prog_13_method_33_code
def yX11_back : MethodName := ⟨RX11, "back", "()I"⟩
abbrev cX11_hangsIn : ByteArray := prog_13_method_34_code
def yX11_hangsIn : MethodName := ⟨RX11, "hangsIn", "(II)I"⟩
abbrev cX11_hangsNow : ByteArray := prog_13_method_35_code
def yX11_hangsNow : MethodName := ⟨RX11, "hangsNow", "(I)I"⟩
abbrev cX11_lot : ByteArray := prog_13_method_36_code
def yX11_lot : MethodName := ⟨RX11, "lot", "()I"⟩
abbrev cX11_whose : ByteArray := prog_13_method_37_code
def yX11_whose : MethodName := ⟨RX11, "whose", "(II)I"⟩
abbrev cX11_falls : ByteArray := prog_13_method_38_code
def yX11_falls : MethodName := ⟨RX11, "falls", "(II)V"⟩
abbrev cX11_strikes : ByteArray := prog_13_method_39_code
def yX11_strikes : MethodName := ⟨RX11, "strikes", "(IIII)Z"⟩
abbrev cX11_throwsOne : ByteArray := prog_13_method_40_code
def yX11_throwsOne : MethodName := ⟨RX11, "throwsOne", "(III)I"⟩
abbrev cX11_throwsAll : ByteArray := prog_13_method_41_code
def yX11_throwsAll : MethodName := ⟨RX11, "throwsAll", "(II)V"⟩
abbrev cX11_find : ByteArray := prog_13_method_42_code
def yX11_find : MethodName := ⟨RX11, "find", "()V"⟩
abbrev cX11_judged : ByteArray := prog_13_method_43_code
def yX11_judged : MethodName := ⟨RX11, "judged", "()I"⟩
abbrev cX11_upNow : ByteArray := prog_13_method_44_code
def yX11_upNow : MethodName := ⟨RX11, "upNow", "()I"⟩
abbrev cX11_lodgedNow : ByteArray := prog_13_method_45_code
def yX11_lodgedNow : MethodName := ⟨RX11, "lodgedNow", "()I"⟩
abbrev cX11_stateOf : ByteArray := prog_13_method_46_code
def yX11_stateOf : MethodName := ⟨RX11, "stateOf", "(II)I"⟩
abbrev cX11_state : ByteArray := prog_13_method_47_code
def yX11_state : MethodName := ⟨RX11, "state", "(II)I"⟩
abbrev cX11_hangs : ByteArray := prog_13_method_48_code
def yX11_hangs : MethodName := ⟨RX11, "hangs", "(I)I"⟩
abbrev cX11_has : ByteArray := prog_13_method_49_code
def yX11_has : MethodName := ⟨RX11, "has", "(I)I"⟩
abbrev cX11_bringsBy : ByteArray := prog_13_method_50_code
def yX11_bringsBy : MethodName := ⟨RX11, "bringsBy", "(IIIZ)I"⟩
abbrev cX11_meanOf : ByteArray := prog_13_method_51_code
def yX11_meanOf : MethodName := ⟨RX11, "meanOf", "(IIZ)I"⟩
abbrev cX11_part : ByteArray := prog_13_method_52_code
def yX11_part : MethodName := ⟨RX11, "part", "(JJI)J"⟩
abbrev cX11_brings : ByteArray := prog_13_method_53_code
def yX11_brings : MethodName := ⟨RX11, "brings", "(III)J"⟩
abbrev cX11_worthOf : ByteArray := prog_13_method_54_code
def yX11_worthOf : MethodName := ⟨RX11, "worthOf", "(II)I"⟩
abbrev cX11_worth : ByteArray := prog_13_method_55_code
def yX11_worth : MethodName := ⟨RX11, "worth", "(II)I"⟩
abbrev cX11_whereOf : ByteArray := prog_13_method_56_code
def yX11_whereOf : MethodName := ⟨RX11, "whereOf", "(I)I"⟩
abbrev cX11_where : ByteArray := prog_13_method_57_code
def yX11_where : MethodName := ⟨RX11, "where", "(I)I"⟩
abbrev cX11_whichNow : ByteArray := prog_13_method_58_code
def yX11_whichNow : MethodName := ⟨RX11, "whichNow", "()I"⟩
abbrev cX11_which : ByteArray := prog_13_method_59_code
def yX11_which : MethodName := ⟨RX11, "which", "()I"⟩
abbrev cX11_freesOf : ByteArray := prog_13_method_60_code
def yX11_freesOf : MethodName := ⟨RX11, "freesOf", "(III)I"⟩
abbrev cX11_frees : ByteArray := prog_13_method_61_code
def yX11_frees : MethodName := ⟨RX11, "frees", "(III)I"⟩
abbrev cX11_nights : ByteArray := prog_13_method_62_code
def yX11_nights : MethodName := ⟨RX11, "nights", "(II)I"⟩
abbrev cX11_lieOf : ByteArray := prog_13_method_63_code
def yX11_lieOf : MethodName := ⟨RX11, "lieOf", "(II)J"⟩
abbrev cX11_lie : ByteArray := prog_13_method_64_code
def yX11_lie : MethodName := ⟨RX11, "lie", "(II)J"⟩
abbrev cX11_ripeOf : ByteArray := prog_13_method_65_code
def yX11_ripeOf : MethodName := ⟨RX11, "ripeOf", "(I)I"⟩
abbrev cX11_ripe : ByteArray := prog_13_method_66_code
def yX11_ripe : MethodName := ⟨RX11, "ripe", "(I)I"⟩
abbrev cX11_isRest : ByteArray := prog_13_method_67_code
def yX11_isRest : MethodName := ⟨RX11, "isRest", "(II)Z"⟩
abbrev cX11_restsOf : ByteArray := prog_13_method_68_code
def yX11_restsOf : MethodName := ⟨RX11, "restsOf", "(I)I"⟩
abbrev cX11_rests : ByteArray := prog_13_method_69_code
def yX11_rests : MethodName := ⟨RX11, "rests", "(I)I"⟩
abbrev cX11_endsOf : ByteArray := prog_13_method_70_code
def yX11_endsOf : MethodName := ⟨RX11, "endsOf", "(II)I"⟩
abbrev cX11_ends : ByteArray := prog_13_method_71_code
def yX11_ends : MethodName := ⟨RX11, "ends", "(II)I"⟩
abbrev cX11_thrower : ByteArray := prog_13_method_72_code
def yX11_thrower : MethodName := ⟨RX11, "thrower", "(II)I"⟩
abbrev cX11_gone : ByteArray := prog_13_method_73_code
def yX11_gone : MethodName := ⟨RX11, "gone", "()I"⟩
abbrev cX11_round : ByteArray := prog_13_method_74_code
def yX11_round : MethodName := ⟨RX11, "round", "()I"⟩
abbrev cX11_isHit : ByteArray := prog_13_method_75_code
def yX11_isHit : MethodName := ⟨RX11, "isHit", "(II)Z"⟩
abbrev cX11_runOf : ByteArray := prog_13_method_76_code
def yX11_runOf : MethodName := ⟨RX11, "runOf", "(II)I"⟩
abbrev cX11_run : ByteArray := prog_13_method_77_code
def yX11_run : MethodName := ⟨RX11, "run", "(II)I"⟩
abbrev cX11_hitOf : ByteArray := prog_13_method_78_code
def yX11_hitOf : MethodName := ⟨RX11, "hitOf", "(II)I"⟩
abbrev cX11_hit : ByteArray := prog_13_method_79_code
def yX11_hit : MethodName := ⟨RX11, "hit", "(II)I"⟩
abbrev cX11_seen : ByteArray := prog_13_method_80_code
def yX11_seen : MethodName := ⟨RX11, "seen", "(II)I"⟩
abbrev cX11_forget : ByteArray := prog_13_method_81_code
def yX11_forget : MethodName := ⟨RX11, "forget", "()I"⟩
abbrev cX11_seedsNow : ByteArray := prog_13_method_82_code
def yX11_seedsNow : MethodName := ⟨RX11, "seedsNow", "()I"⟩
abbrev cX11_seeds : ByteArray := prog_13_method_83_code
def yX11_seeds : MethodName := ⟨RX11, "seeds", "()I"⟩
abbrev cX11_write : ByteArray := prog_13_method_84_code
def yX11_write : MethodName := ⟨RX11, "write", "(I)I"⟩
abbrev cX11_count : ByteArray := prog_13_method_85_code
def yX11_count : MethodName := ⟨RX11, "count", "(I)I"⟩
abbrev cX11_digest : ByteArray := prog_13_method_86_code
def yX11_digest : MethodName := ⟨RX11, "digest", "()J"⟩
def RJ9 : String := "java/lang/Math"
abbrev cJ9_floorMod_7cf53 : ByteArray := prog_14_method_50_code
def yJ9_floorMod_7cf53 : MethodName := ⟨RJ9, "floorMod", "(II)I"⟩
abbrev cJ9_abs_0f7a4 : ByteArray := prog_14_method_59_code
def yJ9_abs_0f7a4 : MethodName := ⟨RJ9, "abs", "(I)I"⟩
abbrev cJ9_max_7cf53 : ByteArray := prog_14_method_65_code
def yJ9_max_7cf53 : MethodName := ⟨RJ9, "max", "(II)I"⟩
abbrev cJ9_min_7cf53 : ByteArray := prog_14_method_69_code
def yJ9_min_7cf53 : MethodName := ⟨RJ9, "min", "(II)I"⟩
abbrev vwCl : List vw_C := [(RX0, TX0, 1), (RX1, TX1, 14), (RX2, TX2, 2), (RX3, TX3, 2), (RX4, TX4, 4), (RX5, TX5, 3), (RX6, TX6, 1), (RX7, TX7, 3), (RX8, TX8, 4), (RX9, TX9, 4), (RX10, TX10, 10), (RX11, TX11, 33)]
