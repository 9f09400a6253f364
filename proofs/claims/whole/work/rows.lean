section
-- ===== PART A: goes FIRST, ahead of the names: the tables' words, and 'selects' of the private methods out of them =====
/-- a private method of a class that the tables say can be made, by its rows of tables_1 -/
def lw_okq (q : MethodName × Nat) : Prop := (q.1.cls ≠ "java/lang/invoke/MethodHandle" ∧ q.1.cls ≠ "java/lang/invoke/VarHandle") ∧ Cond.instantiable q.1.cls q.2 ∈ tables_1 ∧ Cond.privateMethod q.1 ∈ tables_1 ∧ Cond.instanceMethod q.1 ∈ tables_1
theorem lw_p0 : lw_okq (⟨"ChestnutSticks$Tree", "clearCells", "()V"⟩, 4) := ⟨⟨by decide +kernel, by decide +kernel⟩, List.mem_of_getElem? (i := 23) (by decide +kernel), List.mem_of_getElem? (i := 29) (by decide +kernel), List.mem_of_getElem? (i := 30) (by decide +kernel)⟩
theorem lw_p1 : lw_okq (⟨"ChestnutSticks$Tree", "parse", "()V"⟩, 4) := ⟨⟨by decide +kernel, by decide +kernel⟩, List.mem_of_getElem? (i := 23) (by decide +kernel), List.mem_of_getElem? (i := 254) (by decide +kernel), List.mem_of_getElem? (i := 255) (by decide +kernel)⟩
theorem lw_p2 : lw_okq (⟨"ChestnutSticks$Tree", "fillCells", "()I"⟩, 4) := ⟨⟨by decide +kernel, by decide +kernel⟩, List.mem_of_getElem? (i := 23) (by decide +kernel), List.mem_of_getElem? (i := 258) (by decide +kernel), List.mem_of_getElem? (i := 259) (by decide +kernel)⟩
theorem lw_p3 : lw_okq (⟨"ChestnutSticks$Play", "begin", "(I)V"⟩, 14) := ⟨⟨by decide +kernel, by decide +kernel⟩, List.mem_of_getElem? (i := 99) (by decide +kernel), List.mem_of_getElem? (i := 403) (by decide +kernel), List.mem_of_getElem? (i := 404) (by decide +kernel)⟩
theorem lw_p4 : lw_okq (⟨"ChestnutSticks$Play", "throwOne", "(I)V"⟩, 14) := ⟨⟨by decide +kernel, by decide +kernel⟩, List.mem_of_getElem? (i := 99) (by decide +kernel), List.mem_of_getElem? (i := 422) (by decide +kernel), List.mem_of_getElem? (i := 423) (by decide +kernel)⟩
theorem lw_p5 : lw_okq (⟨"ChestnutSticks$Play", "lotOfSixteen", "()I"⟩, 14) := ⟨⟨by decide +kernel, by decide +kernel⟩, List.mem_of_getElem? (i := 99) (by decide +kernel), List.mem_of_getElem? (i := 443) (by decide +kernel), List.mem_of_getElem? (i := 444) (by decide +kernel)⟩
theorem lw_p6 : lw_okq (⟨"ChestnutSticks$Play", "sideOf", "(I)I"⟩, 14) := ⟨⟨by decide +kernel, by decide +kernel⟩, List.mem_of_getElem? (i := 99) (by decide +kernel), List.mem_of_getElem? (i := 448) (by decide +kernel), List.mem_of_getElem? (i := 449) (by decide +kernel)⟩
theorem lw_p7 : lw_okq (⟨"ChestnutSticks$Play", "bringDown", "(III)V"⟩, 14) := ⟨⟨by decide +kernel, by decide +kernel⟩, List.mem_of_getElem? (i := 99) (by decide +kernel), List.mem_of_getElem? (i := 452) (by decide +kernel), List.mem_of_getElem? (i := 453) (by decide +kernel)⟩
theorem lw_p8 : lw_okq (⟨"ChestnutSticks$Play", "hangsIfStruck", "(III)I"⟩, 14) := ⟨⟨by decide +kernel, by decide +kernel⟩, List.mem_of_getElem? (i := 99) (by decide +kernel), List.mem_of_getElem? (i := 457) (by decide +kernel), List.mem_of_getElem? (i := 458) (by decide +kernel)⟩
theorem lw_p9 : lw_okq (⟨"ChestnutSticks$Play", "takeDown", "(II)V"⟩, 14) := ⟨⟨by decide +kernel, by decide +kernel⟩, List.mem_of_getElem? (i := 99) (by decide +kernel), List.mem_of_getElem? (i := 461) (by decide +kernel), List.mem_of_getElem? (i := 462) (by decide +kernel)⟩
theorem lw_p10 : lw_okq (⟨"ChestnutSticks$Play", "give", "(I)V"⟩, 14) := ⟨⟨by decide +kernel, by decide +kernel⟩, List.mem_of_getElem? (i := 99) (by decide +kernel), List.mem_of_getElem? (i := 476) (by decide +kernel), List.mem_of_getElem? (i := 477) (by decide +kernel)⟩
theorem lw_p11 : lw_okq (⟨"ChestnutSticks$Play", "freeSticks", "(III)V"⟩, 14) := ⟨⟨by decide +kernel, by decide +kernel⟩, List.mem_of_getElem? (i := 99) (by decide +kernel), List.mem_of_getElem? (i := 480) (by decide +kernel), List.mem_of_getElem? (i := 481) (by decide +kernel)⟩
theorem lw_p12 : lw_okq (⟨"ChestnutSticks$Play", "struckBalls", "(IIIZ)I"⟩, 14) := ⟨⟨by decide +kernel, by decide +kernel⟩, List.mem_of_getElem? (i := 99) (by decide +kernel), List.mem_of_getElem? (i := 548) (by decide +kernel), List.mem_of_getElem? (i := 549) (by decide +kernel)⟩
theorem lw_p13 : lw_okq (⟨"ChestnutSticks$Season", "nightsInDanger", "(III)I"⟩, 2) := ⟨⟨by decide +kernel, by decide +kernel⟩, List.mem_of_getElem? (i := 148) (by decide +kernel), List.mem_of_getElem? (i := 603) (by decide +kernel), List.mem_of_getElem? (i := 604) (by decide +kernel)⟩
theorem lw_p14 : lw_okq (⟨"ChestnutSticks$Season", "fillRipe", "()V"⟩, 2) := ⟨⟨by decide +kernel, by decide +kernel⟩, List.mem_of_getElem? (i := 148) (by decide +kernel), List.mem_of_getElem? (i := 627) (by decide +kernel), List.mem_of_getElem? (i := 628) (by decide +kernel)⟩
theorem lw_p15 : lw_okq (⟨"ChestnutSticks$Season", "betterAhead", "(II)I"⟩, 2) := ⟨⟨by decide +kernel, by decide +kernel⟩, List.mem_of_getElem? (i := 148) (by decide +kernel), List.mem_of_getElem? (i := 632) (by decide +kernel), List.mem_of_getElem? (i := 633) (by decide +kernel)⟩
def lw_privs_1 : List (MethodName × Nat) := [(⟨"ChestnutSticks$Tree", "clearCells", "()V"⟩, 4), (⟨"ChestnutSticks$Tree", "parse", "()V"⟩, 4), (⟨"ChestnutSticks$Tree", "fillCells", "()I"⟩, 4), (⟨"ChestnutSticks$Play", "begin", "(I)V"⟩, 14), (⟨"ChestnutSticks$Play", "throwOne", "(I)V"⟩, 14), (⟨"ChestnutSticks$Play", "lotOfSixteen", "()I"⟩, 14), (⟨"ChestnutSticks$Play", "sideOf", "(I)I"⟩, 14), (⟨"ChestnutSticks$Play", "bringDown", "(III)V"⟩, 14), (⟨"ChestnutSticks$Play", "hangsIfStruck", "(III)I"⟩, 14), (⟨"ChestnutSticks$Play", "takeDown", "(II)V"⟩, 14), (⟨"ChestnutSticks$Play", "give", "(I)V"⟩, 14), (⟨"ChestnutSticks$Play", "freeSticks", "(III)V"⟩, 14), (⟨"ChestnutSticks$Play", "struckBalls", "(IIIZ)I"⟩, 14), (⟨"ChestnutSticks$Season", "nightsInDanger", "(III)I"⟩, 2), (⟨"ChestnutSticks$Season", "fillRipe", "()V"⟩, 2), (⟨"ChestnutSticks$Season", "betterAhead", "(II)I"⟩, 2)]
theorem lw_r1 : ∀ q ∈ lw_privs_1, lw_okq q := List.forall_mem_cons.mpr ⟨lw_p0, List.forall_mem_cons.mpr ⟨lw_p1, List.forall_mem_cons.mpr ⟨lw_p2, List.forall_mem_cons.mpr ⟨lw_p3, List.forall_mem_cons.mpr ⟨lw_p4, List.forall_mem_cons.mpr ⟨lw_p5, List.forall_mem_cons.mpr ⟨lw_p6, List.forall_mem_cons.mpr ⟨lw_p7, List.forall_mem_cons.mpr ⟨lw_p8, List.forall_mem_cons.mpr ⟨lw_p9, List.forall_mem_cons.mpr ⟨lw_p10, List.forall_mem_cons.mpr ⟨lw_p11, List.forall_mem_cons.mpr ⟨lw_p12, List.forall_mem_cons.mpr ⟨lw_p13, List.forall_mem_cons.mpr ⟨lw_p14, List.forall_mem_cons.mpr ⟨lw_p15, fun _ h => absurd h List.not_mem_nil⟩⟩⟩⟩⟩⟩⟩⟩⟩⟩⟩⟩⟩⟩⟩⟩
theorem lw_p16 : lw_okq (⟨"ChestnutSticks$Season", "firstGreatest", "()I"⟩, 2) := ⟨⟨by decide +kernel, by decide +kernel⟩, List.mem_of_getElem? (i := 148) (by decide +kernel), List.mem_of_getElem? (i := 644) (by decide +kernel), List.mem_of_getElem? (i := 645) (by decide +kernel)⟩
theorem lw_p17 : lw_okq (⟨"ChestnutSticks$Throwers", "isHit", "(II)Z"⟩, 3) := ⟨⟨by decide +kernel, by decide +kernel⟩, List.mem_of_getElem? (i := 161) (by decide +kernel), List.mem_of_getElem? (i := 680) (by decide +kernel), List.mem_of_getElem? (i := 681) (by decide +kernel)⟩
theorem lw_p18 : lw_okq (⟨"ChestnutSticksModel", "met", "(I)I"⟩, 33) := ⟨⟨by decide +kernel, by decide +kernel⟩, List.mem_of_getElem? (i := 835) (by decide +kernel), List.mem_of_getElem? (i := 954) (by decide +kernel), List.mem_of_getElem? (i := 955) (by decide +kernel)⟩
theorem lw_p19 : lw_okq (⟨"ChestnutSticksModel", "lacks", "(III)I"⟩, 33) := ⟨⟨by decide +kernel, by decide +kernel⟩, List.mem_of_getElem? (i := 835) (by decide +kernel), List.mem_of_getElem? (i := 966) (by decide +kernel), List.mem_of_getElem? (i := 967) (by decide +kernel)⟩
theorem lw_p20 : lw_okq (⟨"ChestnutSticksModel", "reads", "()I"⟩, 33) := ⟨⟨by decide +kernel, by decide +kernel⟩, List.mem_of_getElem? (i := 835) (by decide +kernel), List.mem_of_getElem? (i := 999) (by decide +kernel), List.mem_of_getElem? (i := 1000) (by decide +kernel)⟩
theorem lw_p21 : lw_okq (⟨"ChestnutSticksModel", "clears", "()V"⟩, 33) := ⟨⟨by decide +kernel, by decide +kernel⟩, List.mem_of_getElem? (i := 835) (by decide +kernel), List.mem_of_getElem? (i := 1003) (by decide +kernel), List.mem_of_getElem? (i := 1004) (by decide +kernel)⟩
theorem lw_p22 : lw_okq (⟨"ChestnutSticksModel", "readsRow", "()Z"⟩, 33) := ⟨⟨by decide +kernel, by decide +kernel⟩, List.mem_of_getElem? (i := 835) (by decide +kernel), List.mem_of_getElem? (i := 1007) (by decide +kernel), List.mem_of_getElem? (i := 1008) (by decide +kernel)⟩
theorem lw_p23 : lw_okq (⟨"ChestnutSticksModel", "find", "()V"⟩, 33) := ⟨⟨by decide +kernel, by decide +kernel⟩, List.mem_of_getElem? (i := 835) (by decide +kernel), List.mem_of_getElem? (i := 1057) (by decide +kernel), List.mem_of_getElem? (i := 1058) (by decide +kernel)⟩
theorem lw_p24 : lw_okq (⟨"ChestnutSticksModel", "throwsAll", "(II)V"⟩, 33) := ⟨⟨by decide +kernel, by decide +kernel⟩, List.mem_of_getElem? (i := 835) (by decide +kernel), List.mem_of_getElem? (i := 1061) (by decide +kernel), List.mem_of_getElem? (i := 1062) (by decide +kernel)⟩
theorem lw_p25 : lw_okq (⟨"ChestnutSticksModel", "isCell", "(I)Z"⟩, 33) := ⟨⟨by decide +kernel, by decide +kernel⟩, List.mem_of_getElem? (i := 835) (by decide +kernel), List.mem_of_getElem? (i := 1065) (by decide +kernel), List.mem_of_getElem? (i := 1066) (by decide +kernel)⟩
theorem lw_p26 : lw_okq (⟨"ChestnutSticksModel", "throwsOne", "(III)I"⟩, 33) := ⟨⟨by decide +kernel, by decide +kernel⟩, List.mem_of_getElem? (i := 835) (by decide +kernel), List.mem_of_getElem? (i := 1069) (by decide +kernel), List.mem_of_getElem? (i := 1070) (by decide +kernel)⟩
theorem lw_p27 : lw_okq (⟨"ChestnutSticksModel", "lot", "()I"⟩, 33) := ⟨⟨by decide +kernel, by decide +kernel⟩, List.mem_of_getElem? (i := 835) (by decide +kernel), List.mem_of_getElem? (i := 1073) (by decide +kernel), List.mem_of_getElem? (i := 1074) (by decide +kernel)⟩
theorem lw_p28 : lw_okq (⟨"ChestnutSticksModel", "strikes", "(IIII)Z"⟩, 33) := ⟨⟨by decide +kernel, by decide +kernel⟩, List.mem_of_getElem? (i := 835) (by decide +kernel), List.mem_of_getElem? (i := 1078) (by decide +kernel), List.mem_of_getElem? (i := 1079) (by decide +kernel)⟩
theorem lw_p29 : lw_okq (⟨"ChestnutSticksModel", "hangsNow", "(I)I"⟩, 33) := ⟨⟨by decide +kernel, by decide +kernel⟩, List.mem_of_getElem? (i := 835) (by decide +kernel), List.mem_of_getElem? (i := 1082) (by decide +kernel), List.mem_of_getElem? (i := 1083) (by decide +kernel)⟩
theorem lw_p30 : lw_okq (⟨"ChestnutSticksModel", "falls", "(II)V"⟩, 33) := ⟨⟨by decide +kernel, by decide +kernel⟩, List.mem_of_getElem? (i := 835) (by decide +kernel), List.mem_of_getElem? (i := 1092) (by decide +kernel), List.mem_of_getElem? (i := 1093) (by decide +kernel)⟩
theorem lw_p31 : lw_okq (⟨"ChestnutSticksModel", "whose", "(II)I"⟩, 33) := ⟨⟨by decide +kernel, by decide +kernel⟩, List.mem_of_getElem? (i := 835) (by decide +kernel), List.mem_of_getElem? (i := 1096) (by decide +kernel), List.mem_of_getElem? (i := 1097) (by decide +kernel)⟩
def lw_privs_2 : List (MethodName × Nat) := [(⟨"ChestnutSticks$Season", "firstGreatest", "()I"⟩, 2), (⟨"ChestnutSticks$Throwers", "isHit", "(II)Z"⟩, 3), (⟨"ChestnutSticksModel", "met", "(I)I"⟩, 33), (⟨"ChestnutSticksModel", "lacks", "(III)I"⟩, 33), (⟨"ChestnutSticksModel", "reads", "()I"⟩, 33), (⟨"ChestnutSticksModel", "clears", "()V"⟩, 33), (⟨"ChestnutSticksModel", "readsRow", "()Z"⟩, 33), (⟨"ChestnutSticksModel", "find", "()V"⟩, 33), (⟨"ChestnutSticksModel", "throwsAll", "(II)V"⟩, 33), (⟨"ChestnutSticksModel", "isCell", "(I)Z"⟩, 33), (⟨"ChestnutSticksModel", "throwsOne", "(III)I"⟩, 33), (⟨"ChestnutSticksModel", "lot", "()I"⟩, 33), (⟨"ChestnutSticksModel", "strikes", "(IIII)Z"⟩, 33), (⟨"ChestnutSticksModel", "hangsNow", "(I)I"⟩, 33), (⟨"ChestnutSticksModel", "falls", "(II)V"⟩, 33), (⟨"ChestnutSticksModel", "whose", "(II)I"⟩, 33)]
theorem lw_r2 : ∀ q ∈ lw_privs_2, lw_okq q := List.forall_mem_cons.mpr ⟨lw_p16, List.forall_mem_cons.mpr ⟨lw_p17, List.forall_mem_cons.mpr ⟨lw_p18, List.forall_mem_cons.mpr ⟨lw_p19, List.forall_mem_cons.mpr ⟨lw_p20, List.forall_mem_cons.mpr ⟨lw_p21, List.forall_mem_cons.mpr ⟨lw_p22, List.forall_mem_cons.mpr ⟨lw_p23, List.forall_mem_cons.mpr ⟨lw_p24, List.forall_mem_cons.mpr ⟨lw_p25, List.forall_mem_cons.mpr ⟨lw_p26, List.forall_mem_cons.mpr ⟨lw_p27, List.forall_mem_cons.mpr ⟨lw_p28, List.forall_mem_cons.mpr ⟨lw_p29, List.forall_mem_cons.mpr ⟨lw_p30, List.forall_mem_cons.mpr ⟨lw_p31, fun _ h => absurd h List.not_mem_nil⟩⟩⟩⟩⟩⟩⟩⟩⟩⟩⟩⟩⟩⟩⟩⟩
theorem lw_p32 : lw_okq (⟨"ChestnutSticksModel", "stateOf", "(II)I"⟩, 33) := ⟨⟨by decide +kernel, by decide +kernel⟩, List.mem_of_getElem? (i := 835) (by decide +kernel), List.mem_of_getElem? (i := 1108) (by decide +kernel), List.mem_of_getElem? (i := 1109) (by decide +kernel)⟩
theorem lw_p33 : lw_okq (⟨"ChestnutSticksModel", "upNow", "()I"⟩, 33) := ⟨⟨by decide +kernel, by decide +kernel⟩, List.mem_of_getElem? (i := 835) (by decide +kernel), List.mem_of_getElem? (i := 1112) (by decide +kernel), List.mem_of_getElem? (i := 1113) (by decide +kernel)⟩
theorem lw_p34 : lw_okq (⟨"ChestnutSticksModel", "lodgedNow", "()I"⟩, 33) := ⟨⟨by decide +kernel, by decide +kernel⟩, List.mem_of_getElem? (i := 835) (by decide +kernel), List.mem_of_getElem? (i := 1116) (by decide +kernel), List.mem_of_getElem? (i := 1117) (by decide +kernel)⟩
theorem lw_p35 : lw_okq (⟨"ChestnutSticksModel", "meanOf", "(IIZ)I"⟩, 33) := ⟨⟨by decide +kernel, by decide +kernel⟩, List.mem_of_getElem? (i := 835) (by decide +kernel), List.mem_of_getElem? (i := 1132) (by decide +kernel), List.mem_of_getElem? (i := 1133) (by decide +kernel)⟩
theorem lw_p36 : lw_okq (⟨"ChestnutSticksModel", "bringsBy", "(IIIZ)I"⟩, 33) := ⟨⟨by decide +kernel, by decide +kernel⟩, List.mem_of_getElem? (i := 835) (by decide +kernel), List.mem_of_getElem? (i := 1136) (by decide +kernel), List.mem_of_getElem? (i := 1137) (by decide +kernel)⟩
theorem lw_p37 : lw_okq (⟨"ChestnutSticksModel", "worthOf", "(II)I"⟩, 33) := ⟨⟨by decide +kernel, by decide +kernel⟩, List.mem_of_getElem? (i := 835) (by decide +kernel), List.mem_of_getElem? (i := 1151) (by decide +kernel), List.mem_of_getElem? (i := 1152) (by decide +kernel)⟩
theorem lw_p38 : lw_okq (⟨"ChestnutSticksModel", "whereOf", "(I)I"⟩, 33) := ⟨⟨by decide +kernel, by decide +kernel⟩, List.mem_of_getElem? (i := 835) (by decide +kernel), List.mem_of_getElem? (i := 1160) (by decide +kernel), List.mem_of_getElem? (i := 1161) (by decide +kernel)⟩
theorem lw_p39 : lw_okq (⟨"ChestnutSticksModel", "whichNow", "()I"⟩, 33) := ⟨⟨by decide +kernel, by decide +kernel⟩, List.mem_of_getElem? (i := 835) (by decide +kernel), List.mem_of_getElem? (i := 1168) (by decide +kernel), List.mem_of_getElem? (i := 1169) (by decide +kernel)⟩
theorem lw_p40 : lw_okq (⟨"ChestnutSticksModel", "freesOf", "(III)I"⟩, 33) := ⟨⟨by decide +kernel, by decide +kernel⟩, List.mem_of_getElem? (i := 835) (by decide +kernel), List.mem_of_getElem? (i := 1176) (by decide +kernel), List.mem_of_getElem? (i := 1177) (by decide +kernel)⟩
theorem lw_p41 : lw_okq (⟨"ChestnutSticksModel", "lieOf", "(II)J"⟩, 33) := ⟨⟨by decide +kernel, by decide +kernel⟩, List.mem_of_getElem? (i := 835) (by decide +kernel), List.mem_of_getElem? (i := 1188) (by decide +kernel), List.mem_of_getElem? (i := 1189) (by decide +kernel)⟩
theorem lw_p42 : lw_okq (⟨"ChestnutSticksModel", "nights", "(II)I"⟩, 33) := ⟨⟨by decide +kernel, by decide +kernel⟩, List.mem_of_getElem? (i := 835) (by decide +kernel), List.mem_of_getElem? (i := 1192) (by decide +kernel), List.mem_of_getElem? (i := 1193) (by decide +kernel)⟩
theorem lw_p43 : lw_okq (⟨"ChestnutSticksModel", "ripeOf", "(I)I"⟩, 33) := ⟨⟨by decide +kernel, by decide +kernel⟩, List.mem_of_getElem? (i := 835) (by decide +kernel), List.mem_of_getElem? (i := 1201) (by decide +kernel), List.mem_of_getElem? (i := 1202) (by decide +kernel)⟩
theorem lw_p44 : lw_okq (⟨"ChestnutSticksModel", "restsOf", "(I)I"⟩, 33) := ⟨⟨by decide +kernel, by decide +kernel⟩, List.mem_of_getElem? (i := 835) (by decide +kernel), List.mem_of_getElem? (i := 1210) (by decide +kernel), List.mem_of_getElem? (i := 1211) (by decide +kernel)⟩
theorem lw_p45 : lw_okq (⟨"ChestnutSticksModel", "isRest", "(II)Z"⟩, 33) := ⟨⟨by decide +kernel, by decide +kernel⟩, List.mem_of_getElem? (i := 835) (by decide +kernel), List.mem_of_getElem? (i := 1214) (by decide +kernel), List.mem_of_getElem? (i := 1215) (by decide +kernel)⟩
theorem lw_p46 : lw_okq (⟨"ChestnutSticksModel", "endsOf", "(II)I"⟩, 33) := ⟨⟨by decide +kernel, by decide +kernel⟩, List.mem_of_getElem? (i := 835) (by decide +kernel), List.mem_of_getElem? (i := 1222) (by decide +kernel), List.mem_of_getElem? (i := 1223) (by decide +kernel)⟩
theorem lw_p47 : lw_okq (⟨"ChestnutSticksModel", "runOf", "(II)I"⟩, 33) := ⟨⟨by decide +kernel, by decide +kernel⟩, List.mem_of_getElem? (i := 835) (by decide +kernel), List.mem_of_getElem? (i := 1240) (by decide +kernel), List.mem_of_getElem? (i := 1241) (by decide +kernel)⟩
def lw_privs_3 : List (MethodName × Nat) := [(⟨"ChestnutSticksModel", "stateOf", "(II)I"⟩, 33), (⟨"ChestnutSticksModel", "upNow", "()I"⟩, 33), (⟨"ChestnutSticksModel", "lodgedNow", "()I"⟩, 33), (⟨"ChestnutSticksModel", "meanOf", "(IIZ)I"⟩, 33), (⟨"ChestnutSticksModel", "bringsBy", "(IIIZ)I"⟩, 33), (⟨"ChestnutSticksModel", "worthOf", "(II)I"⟩, 33), (⟨"ChestnutSticksModel", "whereOf", "(I)I"⟩, 33), (⟨"ChestnutSticksModel", "whichNow", "()I"⟩, 33), (⟨"ChestnutSticksModel", "freesOf", "(III)I"⟩, 33), (⟨"ChestnutSticksModel", "lieOf", "(II)J"⟩, 33), (⟨"ChestnutSticksModel", "nights", "(II)I"⟩, 33), (⟨"ChestnutSticksModel", "ripeOf", "(I)I"⟩, 33), (⟨"ChestnutSticksModel", "restsOf", "(I)I"⟩, 33), (⟨"ChestnutSticksModel", "isRest", "(II)Z"⟩, 33), (⟨"ChestnutSticksModel", "endsOf", "(II)I"⟩, 33), (⟨"ChestnutSticksModel", "runOf", "(II)I"⟩, 33)]
theorem lw_r3 : ∀ q ∈ lw_privs_3, lw_okq q := List.forall_mem_cons.mpr ⟨lw_p32, List.forall_mem_cons.mpr ⟨lw_p33, List.forall_mem_cons.mpr ⟨lw_p34, List.forall_mem_cons.mpr ⟨lw_p35, List.forall_mem_cons.mpr ⟨lw_p36, List.forall_mem_cons.mpr ⟨lw_p37, List.forall_mem_cons.mpr ⟨lw_p38, List.forall_mem_cons.mpr ⟨lw_p39, List.forall_mem_cons.mpr ⟨lw_p40, List.forall_mem_cons.mpr ⟨lw_p41, List.forall_mem_cons.mpr ⟨lw_p42, List.forall_mem_cons.mpr ⟨lw_p43, List.forall_mem_cons.mpr ⟨lw_p44, List.forall_mem_cons.mpr ⟨lw_p45, List.forall_mem_cons.mpr ⟨lw_p46, List.forall_mem_cons.mpr ⟨lw_p47, fun _ h => absurd h List.not_mem_nil⟩⟩⟩⟩⟩⟩⟩⟩⟩⟩⟩⟩⟩⟩⟩⟩
theorem lw_p48 : lw_okq (⟨"ChestnutSticksModel", "round", "()I"⟩, 33) := ⟨⟨by decide +kernel, by decide +kernel⟩, List.mem_of_getElem? (i := 835) (by decide +kernel), List.mem_of_getElem? (i := 1244) (by decide +kernel), List.mem_of_getElem? (i := 1245) (by decide +kernel)⟩
theorem lw_p49 : lw_okq (⟨"ChestnutSticksModel", "isHit", "(II)Z"⟩, 33) := ⟨⟨by decide +kernel, by decide +kernel⟩, List.mem_of_getElem? (i := 835) (by decide +kernel), List.mem_of_getElem? (i := 1248) (by decide +kernel), List.mem_of_getElem? (i := 1249) (by decide +kernel)⟩
theorem lw_p50 : lw_okq (⟨"ChestnutSticksModel", "hitOf", "(II)I"⟩, 33) := ⟨⟨by decide +kernel, by decide +kernel⟩, List.mem_of_getElem? (i := 835) (by decide +kernel), List.mem_of_getElem? (i := 1256) (by decide +kernel), List.mem_of_getElem? (i := 1257) (by decide +kernel)⟩
theorem lw_p51 : lw_okq (⟨"ChestnutSticksModel", "seedsNow", "()I"⟩, 33) := ⟨⟨by decide +kernel, by decide +kernel⟩, List.mem_of_getElem? (i := 835) (by decide +kernel), List.mem_of_getElem? (i := 1273) (by decide +kernel), List.mem_of_getElem? (i := 1274) (by decide +kernel)⟩
def lw_privs_4 : List (MethodName × Nat) := [(⟨"ChestnutSticksModel", "round", "()I"⟩, 33), (⟨"ChestnutSticksModel", "isHit", "(II)Z"⟩, 33), (⟨"ChestnutSticksModel", "hitOf", "(II)I"⟩, 33), (⟨"ChestnutSticksModel", "seedsNow", "()I"⟩, 33)]
theorem lw_r4 : ∀ q ∈ lw_privs_4, lw_okq q := List.forall_mem_cons.mpr ⟨lw_p48, List.forall_mem_cons.mpr ⟨lw_p49, List.forall_mem_cons.mpr ⟨lw_p50, List.forall_mem_cons.mpr ⟨lw_p51, fun _ h => absurd h List.not_mem_nil⟩⟩⟩⟩
def lw_privs : List (MethodName × Nat) := lw_privs_1 ++ (lw_privs_2 ++ (lw_privs_3 ++ (lw_privs_4)))
def lw_tbl : List Cond := k2_sels lw_privs ++ tables_1
theorem lw_privs_ok : ∀ q ∈ lw_privs, lw_okq q := by
  show ∀ q ∈ lw_privs_1 ++ (lw_privs_2 ++ (lw_privs_3 ++ (lw_privs_4))), lw_okq q
  exact List.forall_mem_append.mpr ⟨lw_r1, List.forall_mem_append.mpr ⟨lw_r2, List.forall_mem_append.mpr ⟨lw_r3, lw_r4⟩⟩⟩
-- ===== end of PART A; then your names; then what follows =====
/-! THE CLAIM OUT OF ONE WALK OF THE LAW'S BODY. Your part is whole_start (and what it stands on); all else here is the same for every law, but numbers. -/
def R_law : String := "ChestnutSticksLaw"
def lw_P (b : Addr) (xs : List Int32) (args : Array Value) (s : State) : Prop := args = #[.ref b] ∧ s.IntsAt b xs ∧ xs.length ≤ 384 ∧ (Jvm.Cond.and given_1 narrow_1).before args s = true
def lw_Q (_ : Array Value) (s : State) (o : Outcome) (t : State) : Prop := o = .returned (some (.int 1)) ∧ Framed s o t [] 51 1277
def lw_Z (below : List Frame) (a : Array Value) (s : State) : State → Prop := fun t => ∃ o, t.status = .running ∧ Ended t below o ∧ lw_Q a s o t
/-- the law's own end, with 1 on the stack, nothing written that was there before, its room as the claim has it -/
theorem lw_ret {p : Program} {l : Launch} {e : Env} {s : State} {m : MethodId} {below : List Frame} {meth : Method} {c : Code} {b : Nat} (hx : p.tables.exec = Jvm.exec) (hb : c.code = code) (hr : meth.sig.returnType = ret) (hlocks : meth.locks = false) {pc : Nat} {H : Heap} {ls : Array Slot} (hdg : decode code pc = .ok (.ireturn, 1)) : W p l e room_1 s m #[Value.ref b] below meth c H [] 51 1277 (lw_Z below #[Value.ref b] s) (F0 m pc ls [.int 1]) := by
  intro T hT X
  obtain ⟨fs, hret, hrun, hended, hW, hframe⟩ := X.leave (v := some (.int 1)) (hlocks := hlocks) (fun h => by rw [hr] at h; cases h)
  have hmeth' : T.vm.method? m = some meth := X.method'
  refine ⟨T.setFrames fs, ?_, .returned (some (.int 1)), hrun, hended, rfl, ⟨_, rfl⟩, hW, hframe⟩
  jvm_step X.here [X.here.top, hx, hb, hdg, hmeth', hr, ret, narrow_b1]
  (try refine ⟨rfl, ?_⟩); (try refine ⟨rfl, ?_⟩)
  first | (intro acts; rw [hret _ acts rfl rfl rfl]) | rw [hret _ _ rfl rfl rfl]
  exact Steps.refl _
/-- what holds at the law's entry: the machine, the code, the tables' words (any of lw_tbl by 'hts w (by decide +kernel)'), the script of L ints xs at the cell b, what the Statement gives of the start (any of its parts by flat_of_before) -/
def lw_At (p : Program) (s : State) (m : MethodId) (meth : Method) (c : Code) (b L : Nat) (xs : Nat → Int32) : Prop :=
  p.tables.exec = Jvm.exec ∧ c.code = code ∧ meth.sig.returnType = ret ∧ c.maxLocals = 4 ∧ s.vm.findClass R_law = some m.cls ∧ (∀ w ∈ lw_tbl, w.before #[Value.ref b] s = true) ∧ va_X b L xs s s.heap ∧ b < s.heap.size ∧ meth.locks = false ∧ (Jvm.Cond.and given_1 narrow_1).before #[Value.ref b] s = true
def RX0 : String := "ChestnutSticks$Kids"
def TX0 : u_T := fun k => match k with
  | _ => ("ChestnutSticks$Kids", "columns", "[I", true)
def tyX0 : Nat → FieldType := fun k => match k with
  | _ => .array .int
abbrev wsX00 : List Cond := u_ws RX0 TX0 1
theorem nmX0 : ∀ a, a < 1 → ∀ b, b < 1 → a ≠ b → (TX0 a).2.1 ≠ (TX0 b).2.1 := by decide +kernel
theorem tyX0_ok : ∀ k, k < 1 → parseFieldDescriptor (TX0 k).2.2.1 = some (tyX0 k) := by decide +kernel
abbrev cX0_init : ByteArray := prog_2_method_1_code
def yX0_init : MethodName := ⟨RX0, "<init>", "()V"⟩
abbrev cX0_place : ByteArray := prog_2_method_2_code
def yX0_place : MethodName := ⟨RX0, "place", "(II)I"⟩
abbrev cX0_nearest : ByteArray := prog_2_method_3_code
def yX0_nearest : MethodName := ⟨RX0, "nearest", "(I)I"⟩
def RX1 : String := "ChestnutSticks$Play"
def TX1 : u_T := fun k => match k with
  | 0 => ("ChestnutSticks$Play", "tree", "LChestnutSticks$Tree;", true)
  | 1 => ("ChestnutSticks$Play", "sticks", "LChestnutSticks$Sticks;", true)
  | 2 => ("ChestnutSticks$Play", "rules", "LChestnutSticks$Rules;", true)
  | 3 => ("ChestnutSticks$Play", "kids", "LChestnutSticks$Kids;", true)
  | 4 => ("ChestnutSticks$Play", "tosses", "LChestnutSticks$Throws;", true)
  | 5 => ("ChestnutSticks$Play", "hanging", "[I", true)
  | 6 => ("ChestnutSticks$Play", "lodged", "[I", true)
  | 7 => ("ChestnutSticks$Play", "ripeOfKid", "[I", true)
  | 8 => ("ChestnutSticks$Play", "brought", "[I", true)
  | 9 => ("ChestnutSticks$Play", "lots", "I", false)
  | 10 => ("ChestnutSticks$Play", "ripe", "I", false)
  | 11 => ("ChestnutSticks$Play", "green", "I", false)
  | 12 => ("ChestnutSticks$Play", "done", "I", false)
  | _ => ("ChestnutSticks$Play", "notDone", "I", false)
def tyX1 : Nat → FieldType := fun k => match k with
  | 0 => .object "ChestnutSticks$Tree"
  | 1 => .object "ChestnutSticks$Sticks"
  | 2 => .object "ChestnutSticks$Rules"
  | 3 => .object "ChestnutSticks$Kids"
  | 4 => .object "ChestnutSticks$Throws"
  | 5 => .array .int
  | 6 => .array .int
  | 7 => .array .int
  | 8 => .array .int
  | 9 => .int
  | 10 => .int
  | 11 => .int
  | 12 => .int
  | _ => .int
abbrev wsX10 : List Cond := u_ws RX1 TX1 14
theorem nmX1 : ∀ a, a < 14 → ∀ b, b < 14 → a ≠ b → (TX1 a).2.1 ≠ (TX1 b).2.1 := by decide +kernel
theorem tyX1_ok : ∀ k, k < 14 → parseFieldDescriptor (TX1 k).2.2.1 = some (tyX1 k) := by decide +kernel
abbrev cX1_init : ByteArray := prog_3_method_1_code
def yX1_init : MethodName := ⟨RX1, "<init>", "(LChestnutSticks$Tree;LChestnutSticks$Sticks;LChestnutSticks$Rules;LChestnutSticks$Kids;LChestnutSticks$Throws;)V"⟩
abbrev cX1_replayAll : ByteArray := prog_3_method_2_code
def yX1_replayAll : MethodName := ⟨RX1, "replayAll", "()V"⟩
abbrev cX1_replay : ByteArray := prog_3_method_3_code
def yX1_replay : MethodName := ⟨RX1, "replay", "(II)V"⟩
abbrev cX1_firstNotDone : ByteArray := prog_3_method_4_code
def yX1_firstNotDone : MethodName := ⟨RX1, "firstNotDone", "()I"⟩
abbrev cX1_doneCount : ByteArray := prog_3_method_5_code
def yX1_doneCount : MethodName := ⟨RX1, "doneCount", "()I"⟩
abbrev cX1_ripeDown : ByteArray := prog_3_method_6_code
def yX1_ripeDown : MethodName := ⟨RX1, "ripeDown", "()I"⟩
abbrev cX1_greenDown : ByteArray := prog_3_method_7_code
def yX1_greenDown : MethodName := ⟨RX1, "greenDown", "()I"⟩
abbrev cX1_ripeOf : ByteArray := prog_3_method_8_code
def yX1_ripeOf : MethodName := ⟨RX1, "ripeOf", "(I)I"⟩
abbrev cX1_broughtBy : ByteArray := prog_3_method_9_code
def yX1_broughtBy : MethodName := ⟨RX1, "broughtBy", "(I)I"⟩
abbrev cX1_hangsNow : ByteArray := prog_3_method_10_code
def yX1_hangsNow : MethodName := ⟨RX1, "hangsNow", "(I)I"⟩
abbrev cX1_lodgedIn : ByteArray := prog_3_method_11_code
def yX1_lodgedIn : MethodName := ⟨RX1, "lodgedIn", "(I)I"⟩
abbrev cX1_ballsUp : ByteArray := prog_3_method_12_code
def yX1_ballsUp : MethodName := ⟨RX1, "ballsUp", "()I"⟩
abbrev cX1_lodgedBits : ByteArray := prog_3_method_13_code
def yX1_lodgedBits : MethodName := ⟨RX1, "lodgedBits", "()I"⟩
abbrev cX1_sixteenths : ByteArray := prog_3_method_14_code
def yX1_sixteenths : MethodName := ⟨RX1, "sixteenths", "(IIZ)I"⟩
abbrev cX1_worthOf : ByteArray := prog_3_method_15_code
def yX1_worthOf : MethodName := ⟨RX1, "worthOf", "(II)I"⟩
abbrev cX1_bestCell : ByteArray := prog_3_method_16_code
def yX1_bestCell : MethodName := ⟨RX1, "bestCell", "(I)I"⟩
abbrev cX1_sixteenthsOfStriking : ByteArray := prog_3_method_17_code
def yX1_sixteenthsOfStriking : MethodName := ⟨RX1, "sixteenthsOfStriking", "(III)I"⟩
abbrev cX1_begin : ByteArray := prog_3_method_18_code
def yX1_begin : MethodName := ⟨RX1, "begin", "(I)V"⟩
abbrev cX1_lotOfSixteen : ByteArray := prog_3_method_19_code
def yX1_lotOfSixteen : MethodName := ⟨RX1, "lotOfSixteen", "()I"⟩
abbrev cX1_throwOne : ByteArray := prog_3_method_20_code
def yX1_throwOne : MethodName := ⟨RX1, "throwOne", "(I)V"⟩
abbrev cX1_sideOf : ByteArray := prog_3_method_21_code
def yX1_sideOf : MethodName := ⟨RX1, "sideOf", "(I)I"⟩
abbrev cX1_bringDown : ByteArray := prog_3_method_22_code
def yX1_bringDown : MethodName := ⟨RX1, "bringDown", "(III)V"⟩
abbrev cX1_hangsIfStruck : ByteArray := prog_3_method_23_code
def yX1_hangsIfStruck : MethodName := ⟨RX1, "hangsIfStruck", "(III)I"⟩
abbrev cX1_takeDown : ByteArray := prog_3_method_24_code
def yX1_takeDown : MethodName := ⟨RX1, "takeDown", "(II)V"⟩
abbrev cX1_give : ByteArray := prog_3_method_25_code
def yX1_give : MethodName := ⟨RX1, "give", "(I)V"⟩
abbrev cX1_freeSticks : ByteArray := prog_3_method_26_code
def yX1_freeSticks : MethodName := ⟨RX1, "freeSticks", "(III)V"⟩
abbrev cX1_strikes : ByteArray := prog_3_method_27_code
def yX1_strikes : MethodName := ⟨RX1, "strikes", "(IIII)Z"⟩
abbrev cX1_struckBalls : ByteArray := prog_3_method_28_code
def yX1_struckBalls : MethodName := ⟨RX1, "struckBalls", "(IIIZ)I"⟩
def RX2 : String := "ChestnutSticks$Rules"
def TX2 : u_T := fun k => match k with
  | 0 => ("ChestnutSticks$Rules", "values", "[I", true)
  | _ => ("ChestnutSticks$Rules", "seedValue", "I", false)
def tyX2 : Nat → FieldType := fun k => match k with
  | 0 => .array .int
  | _ => .int
abbrev wsX20 : List Cond := u_ws RX2 TX2 2
theorem nmX2 : ∀ a, a < 2 → ∀ b, b < 2 → a ≠ b → (TX2 a).2.1 ≠ (TX2 b).2.1 := by decide +kernel
theorem tyX2_ok : ∀ k, k < 2 → parseFieldDescriptor (TX2 k).2.2.1 = some (tyX2 k) := by decide +kernel
abbrev cX2_init : ByteArray := prog_4_method_1_code
def yX2_init : MethodName := ⟨RX2, "<init>", "()V"⟩
abbrev cX2_change : ByteArray := prog_4_method_2_code
def yX2_change : MethodName := ⟨RX2, "change", "(II)I"⟩
abbrev cX2_now : ByteArray := prog_4_method_3_code
def yX2_now : MethodName := ⟨RX2, "now", "(I)I"⟩
abbrev cX2_changeSeed : ByteArray := prog_4_method_4_code
def yX2_changeSeed : MethodName := ⟨RX2, "changeSeed", "(I)I"⟩
abbrev cX2_seedNow : ByteArray := prog_4_method_5_code
def yX2_seedNow : MethodName := ⟨RX2, "seedNow", "()I"⟩
def RX3 : String := "ChestnutSticks$Season"
def TX3 : u_T := fun k => match k with
  | 0 => ("ChestnutSticks$Season", "tree", "LChestnutSticks$Tree;", true)
  | _ => ("ChestnutSticks$Season", "ripe", "[I", true)
def tyX3 : Nat → FieldType := fun k => match k with
  | 0 => .object "ChestnutSticks$Tree"
  | _ => .array .int
abbrev wsX30 : List Cond := u_ws RX3 TX3 2
theorem nmX3 : ∀ a, a < 2 → ∀ b, b < 2 → a ≠ b → (TX3 a).2.1 ≠ (TX3 b).2.1 := by decide +kernel
theorem tyX3_ok : ∀ k, k < 2 → parseFieldDescriptor (TX3 k).2.2.1 = some (tyX3 k) := by decide +kernel
abbrev cX3_init : ByteArray := prog_5_method_1_code
def yX3_init : MethodName := ⟨RX3, "<init>", "(LChestnutSticks$Tree;)V"⟩
abbrev cX3_fallenTimesPower : ByteArray := prog_5_method_2_code
def yX3_fallenTimesPower : MethodName := ⟨RX3, "fallenTimesPower", "(III)J"⟩
abbrev cX3_restBits : ByteArray := prog_5_method_3_code
def yX3_restBits : MethodName := ⟨RX3, "restBits", "(I)I"⟩
abbrev cX3_endOf : ByteArray := prog_5_method_4_code
def yX3_endOf : MethodName := ⟨RX3, "endOf", "(I)I"⟩
abbrev cX3_nightsInDanger : ByteArray := prog_5_method_5_code
def yX3_nightsInDanger : MethodName := ⟨RX3, "nightsInDanger", "(III)I"⟩
abbrev cX3_fillRipe : ByteArray := prog_5_method_6_code
def yX3_fillRipe : MethodName := ⟨RX3, "fillRipe", "()V"⟩
abbrev cX3_firstGreatest : ByteArray := prog_5_method_7_code
def yX3_firstGreatest : MethodName := ⟨RX3, "firstGreatest", "()I"⟩
abbrev cX3_betterAhead : ByteArray := prog_5_method_8_code
def yX3_betterAhead : MethodName := ⟨RX3, "betterAhead", "(II)I"⟩
def RX4 : String := "ChestnutSticks$Sheets"
def TX4 : u_T := fun k => match k with
  | 0 => ("ChestnutSticks$Sheets", "forms", "[I", true)
  | 1 => ("ChestnutSticks$Sheets", "sizes", "[I", true)
  | 2 => ("ChestnutSticks$Sheets", "items", "[I", true)
  | _ => ("ChestnutSticks$Sheets", "latest", "I", false)
def tyX4 : Nat → FieldType := fun k => match k with
  | 0 => .array .int
  | 1 => .array .int
  | 2 => .array .int
  | _ => .int
abbrev wsX40 : List Cond := u_ws RX4 TX4 4
theorem nmX4 : ∀ a, a < 4 → ∀ b, b < 4 → a ≠ b → (TX4 a).2.1 ≠ (TX4 b).2.1 := by decide +kernel
theorem tyX4_ok : ∀ k, k < 4 → parseFieldDescriptor (TX4 k).2.2.1 = some (tyX4 k) := by decide +kernel
abbrev cX4_init : ByteArray := prog_6_method_1_code
def yX4_init : MethodName := ⟨RX4, "<init>", "()V"⟩
abbrev cX4_find : ByteArray := prog_6_method_2_code
def yX4_find : MethodName := ⟨RX4, "find", "(I)I"⟩
abbrev cX4_latestFinding : ByteArray := prog_6_method_3_code
def yX4_latestFinding : MethodName := ⟨RX4, "latestFinding", "()I"⟩
abbrev cX4_isLost : ByteArray := prog_6_method_4_code
def yX4_isLost : MethodName := ⟨RX4, "isLost", "(I)Z"⟩
abbrev cX4_formOf : ByteArray := prog_6_method_5_code
def yX4_formOf : MethodName := ⟨RX4, "formOf", "(I)I"⟩
abbrev cX4_sizeOf : ByteArray := prog_6_method_6_code
def yX4_sizeOf : MethodName := ⟨RX4, "sizeOf", "(I)I"⟩
abbrev cX4_whyNot : ByteArray := prog_6_method_7_code
def yX4_whyNot : MethodName := ⟨RX4, "whyNot", "(III)I"⟩
abbrev cX4_hasRun : ByteArray := prog_6_method_8_code
def yX4_hasRun : MethodName := ⟨RX4, "hasRun", "(III)Z"⟩
abbrev cX4_makeNew : ByteArray := prog_6_method_9_code
def yX4_makeNew : MethodName := ⟨RX4, "makeNew", "(III)V"⟩
abbrev cX4_makeLost : ByteArray := prog_6_method_10_code
def yX4_makeLost : MethodName := ⟨RX4, "makeLost", "(I)I"⟩
abbrev cX4_itemOf : ByteArray := prog_6_method_11_code
def yX4_itemOf : MethodName := ⟨RX4, "itemOf", "(II)I"⟩
abbrev cX4_put : ByteArray := prog_6_method_12_code
def yX4_put : MethodName := ⟨RX4, "put", "(III)V"⟩
abbrev cX4_move : ByteArray := prog_6_method_13_code
def yX4_move : MethodName := ⟨RX4, "move", "(IIIII)V"⟩
abbrev cX4_lowestBits : ByteArray := prog_6_method_14_code
def yX4_lowestBits : MethodName := ⟨RX4, "lowestBits", "(II)I"⟩
def RX5 : String := "ChestnutSticks$Sightings"
def TX5 : u_T := fun k => match k with
  | 0 => ("ChestnutSticks$Sightings", "throwOf", "[I", true)
  | 1 => ("ChestnutSticks$Sightings", "ballsOf", "[I", true)
  | _ => ("ChestnutSticks$Sightings", "size", "I", false)
def tyX5 : Nat → FieldType := fun k => match k with
  | 0 => .array .int
  | 1 => .array .int
  | _ => .int
abbrev wsX50 : List Cond := u_ws RX5 TX5 3
theorem nmX5 : ∀ a, a < 3 → ∀ b, b < 3 → a ≠ b → (TX5 a).2.1 ≠ (TX5 b).2.1 := by decide +kernel
theorem tyX5_ok : ∀ k, k < 3 → parseFieldDescriptor (TX5 k).2.2.1 = some (tyX5 k) := by decide +kernel
abbrev cX5_init : ByteArray := prog_7_method_1_code
def yX5_init : MethodName := ⟨RX5, "<init>", "()V"⟩
abbrev cX5_append : ByteArray := prog_7_method_2_code
def yX5_append : MethodName := ⟨RX5, "append", "(II)I"⟩
abbrev cX5_empty : ByteArray := prog_7_method_3_code
def yX5_empty : MethodName := ⟨RX5, "empty", "()I"⟩
abbrev cX5_size : ByteArray := prog_7_method_4_code
def yX5_size : MethodName := ⟨RX5, "size", "()I"⟩
abbrev cX5_fit : ByteArray := prog_7_method_5_code
def yX5_fit : MethodName := ⟨RX5, "fit", "(LChestnutSticks$Play;I)Z"⟩
def RX6 : String := "ChestnutSticks$Sticks"
def TX6 : u_T := fun k => match k with
  | _ => ("ChestnutSticks$Sticks", "values", "[I", true)
def tyX6 : Nat → FieldType := fun k => match k with
  | _ => .array .int
abbrev wsX60 : List Cond := u_ws RX6 TX6 1
theorem nmX6 : ∀ a, a < 1 → ∀ b, b < 1 → a ≠ b → (TX6 a).2.1 ≠ (TX6 b).2.1 := by decide +kernel
theorem tyX6_ok : ∀ k, k < 1 → parseFieldDescriptor (TX6 k).2.2.1 = some (tyX6 k) := by decide +kernel
abbrev cX6_init : ByteArray := prog_8_method_1_code
def yX6_init : MethodName := ⟨RX6, "<init>", "()V"⟩
abbrev cX6_change : ByteArray := prog_8_method_2_code
def yX6_change : MethodName := ⟨RX6, "change", "(III)I"⟩
abbrev cX6_now : ByteArray := prog_8_method_3_code
def yX6_now : MethodName := ⟨RX6, "now", "(II)I"⟩
def RX7 : String := "ChestnutSticks$Throwers"
def TX7 : u_T := fun k => match k with
  | 0 => ("ChestnutSticks$Throwers", "everyOf", "[I", true)
  | 1 => ("ChestnutSticks$Throwers", "fromOf", "[I", true)
  | _ => ("ChestnutSticks$Throwers", "size", "I", false)
def tyX7 : Nat → FieldType := fun k => match k with
  | 0 => .array .int
  | 1 => .array .int
  | _ => .int
abbrev wsX70 : List Cond := u_ws RX7 TX7 3
theorem nmX7 : ∀ a, a < 3 → ∀ b, b < 3 → a ≠ b → (TX7 a).2.1 ≠ (TX7 b).2.1 := by decide +kernel
theorem tyX7_ok : ∀ k, k < 3 → parseFieldDescriptor (TX7 k).2.2.1 = some (tyX7 k) := by decide +kernel
abbrev cX7_init : ByteArray := prog_9_method_1_code
def yX7_init : MethodName := ⟨RX7, "<init>", "()V"⟩
abbrev cX7_append : ByteArray := prog_9_method_2_code
def yX7_append : MethodName := ⟨RX7, "append", "(II)I"⟩
abbrev cX7_empty : ByteArray := prog_9_method_3_code
def yX7_empty : MethodName := ⟨RX7, "empty", "()I"⟩
abbrev cX7_size : ByteArray := prog_9_method_4_code
def yX7_size : MethodName := ⟨RX7, "size", "()I"⟩
abbrev cX7_roundLength : ByteArray := prog_9_method_5_code
def yX7_roundLength : MethodName := ⟨RX7, "roundLength", "()I"⟩
abbrev cX7_firstFree : ByteArray := prog_9_method_6_code
def yX7_firstFree : MethodName := ⟨RX7, "firstFree", "(II)I"⟩
abbrev cX7_hitsInRound : ByteArray := prog_9_method_7_code
def yX7_hitsInRound : MethodName := ⟨RX7, "hitsInRound", "(I)I"⟩
abbrev cX7_isHit : ByteArray := prog_9_method_8_code
def yX7_isHit : MethodName := ⟨RX7, "isHit", "(II)Z"⟩
abbrev cX7_leastMultiple : ByteArray := prog_9_method_9_code
def yX7_leastMultiple : MethodName := ⟨RX7, "leastMultiple", "(II)I"⟩
def RX8 : String := "ChestnutSticks$Throws"
def TX8 : u_T := fun k => match k with
  | 0 => ("ChestnutSticks$Throws", "kidOf", "[I", true)
  | 1 => ("ChestnutSticks$Throws", "stickOf", "[I", true)
  | 2 => ("ChestnutSticks$Throws", "cellOf", "[I", true)
  | _ => ("ChestnutSticks$Throws", "size", "I", false)
def tyX8 : Nat → FieldType := fun k => match k with
  | 0 => .array .int
  | 1 => .array .int
  | 2 => .array .int
  | _ => .int
abbrev wsX80 : List Cond := u_ws RX8 TX8 4
theorem nmX8 : ∀ a, a < 4 → ∀ b, b < 4 → a ≠ b → (TX8 a).2.1 ≠ (TX8 b).2.1 := by decide +kernel
theorem tyX8_ok : ∀ k, k < 4 → parseFieldDescriptor (TX8 k).2.2.1 = some (tyX8 k) := by decide +kernel
abbrev cX8_init : ByteArray := prog_10_method_1_code
def yX8_init : MethodName := ⟨RX8, "<init>", "()V"⟩
abbrev cX8_append : ByteArray := prog_10_method_2_code
def yX8_append : MethodName := ⟨RX8, "append", "(III)I"⟩
abbrev cX8_removeLast : ByteArray := prog_10_method_3_code
def yX8_removeLast : MethodName := ⟨RX8, "removeLast", "()I"⟩
abbrev cX8_size : ByteArray := prog_10_method_4_code
def yX8_size : MethodName := ⟨RX8, "size", "()I"⟩
abbrev cX8_kidAt : ByteArray := prog_10_method_5_code
def yX8_kidAt : MethodName := ⟨RX8, "kidAt", "(I)I"⟩
abbrev cX8_stickAt : ByteArray := prog_10_method_6_code
def yX8_stickAt : MethodName := ⟨RX8, "stickAt", "(I)I"⟩
abbrev cX8_cellNumberAt : ByteArray := prog_10_method_7_code
def yX8_cellNumberAt : MethodName := ⟨RX8, "cellNumberAt", "(I)I"⟩
def RX9 : String := "ChestnutSticks$Tree"
def TX9 : u_T := fun k => match k with
  | 0 => ("ChestnutSticks$Tree", "text", "[I", true)
  | 1 => ("ChestnutSticks$Tree", "atFirst", "[I", true)
  | 2 => ("ChestnutSticks$Tree", "length", "I", false)
  | _ => ("ChestnutSticks$Tree", "fault", "I", false)
def tyX9 : Nat → FieldType := fun k => match k with
  | 0 => .array .int
  | 1 => .array .int
  | 2 => .int
  | _ => .int
abbrev wsX90 : List Cond := u_ws RX9 TX9 4
theorem nmX9 : ∀ a, a < 4 → ∀ b, b < 4 → a ≠ b → (TX9 a).2.1 ≠ (TX9 b).2.1 := by decide +kernel
theorem tyX9_ok : ∀ k, k < 4 → parseFieldDescriptor (TX9 k).2.2.1 = some (tyX9 k) := by decide +kernel
abbrev cX9_init : ByteArray := prog_11_method_1_code
def yX9_init : MethodName := ⟨RX9, "<init>", "()V"⟩
abbrev cX9_append : ByteArray := prog_11_method_2_code
def yX9_append : MethodName := ⟨RX9, "append", "(I)I"⟩
abbrev cX9_empty : ByteArray := prog_11_method_3_code
def yX9_empty : MethodName := ⟨RX9, "empty", "()I"⟩
abbrev cX9_removeLast : ByteArray := prog_11_method_4_code
def yX9_removeLast : MethodName := ⟨RX9, "removeLast", "()I"⟩
abbrev cX9_faultPlace : ByteArray := prog_11_method_5_code
def yX9_faultPlace : MethodName := ⟨RX9, "faultPlace", "()I"⟩
abbrev cX9_textLength : ByteArray := prog_11_method_6_code
def yX9_textLength : MethodName := ⟨RX9, "textLength", "()I"⟩
abbrev cX9_isCell : ByteArray := prog_11_method_7_code
def yX9_isCell : MethodName := ⟨RX9, "isCell", "(I)Z"⟩
abbrev cX9_cellAt : ByteArray := prog_11_method_8_code
def yX9_cellAt : MethodName := ⟨RX9, "cellAt", "(II)I"⟩
abbrev cX9_hasBall : ByteArray := prog_11_method_9_code
def yX9_hasBall : MethodName := ⟨RX9, "hasBall", "(I)Z"⟩
abbrev cX9_hangsOn : ByteArray := prog_11_method_10_code
def yX9_hangsOn : MethodName := ⟨RX9, "hangsOn", "(II)I"⟩
abbrev cX9_cellCount : ByteArray := prog_11_method_11_code
def yX9_cellCount : MethodName := ⟨RX9, "cellCount", "()I"⟩
abbrev cX9_ballCount : ByteArray := prog_11_method_12_code
def yX9_ballCount : MethodName := ⟨RX9, "ballCount", "()I"⟩
abbrev cX9_ripeOn : ByteArray := prog_11_method_13_code
def yX9_ripeOn : MethodName := ⟨RX9, "ripeOn", "(I)I"⟩
abbrev cX9_clearCells : ByteArray := prog_11_method_14_code
def yX9_clearCells : MethodName := ⟨RX9, "clearCells", "()V"⟩
abbrev cX9_parse : ByteArray := prog_11_method_15_code
def yX9_parse : MethodName := ⟨RX9, "parse", "()V"⟩
abbrev cX9_fillCells : ByteArray := prog_11_method_16_code
def yX9_fillCells : MethodName := ⟨RX9, "fillCells", "()I"⟩
abbrev cX9_isTooSoon : ByteArray := prog_11_method_17_code
def yX9_isTooSoon : MethodName := ⟨RX9, "isTooSoon", "(III)Z"⟩
abbrev cX9_isCellSign : ByteArray := prog_11_method_18_code
def yX9_isCellSign : MethodName := ⟨RX9, "isCellSign", "(I)Z"⟩
def RX10 : String := "ChestnutSticks"
def TX10 : u_T := fun k => match k with
  | 0 => ("ChestnutSticks", "tree", "LChestnutSticks$Tree;", true)
  | 1 => ("ChestnutSticks", "sticks", "LChestnutSticks$Sticks;", true)
  | 2 => ("ChestnutSticks", "rules", "LChestnutSticks$Rules;", true)
  | 3 => ("ChestnutSticks", "kids", "LChestnutSticks$Kids;", true)
  | 4 => ("ChestnutSticks", "tosses", "LChestnutSticks$Throws;", true)
  | 5 => ("ChestnutSticks", "play", "LChestnutSticks$Play;", true)
  | 6 => ("ChestnutSticks", "season", "LChestnutSticks$Season;", true)
  | 7 => ("ChestnutSticks", "throwers", "LChestnutSticks$Throwers;", true)
  | 8 => ("ChestnutSticks", "sightings", "LChestnutSticks$Sightings;", true)
  | _ => ("ChestnutSticks", "sheets", "LChestnutSticks$Sheets;", true)
def tyX10 : Nat → FieldType := fun k => match k with
  | 0 => .object "ChestnutSticks$Tree"
  | 1 => .object "ChestnutSticks$Sticks"
  | 2 => .object "ChestnutSticks$Rules"
  | 3 => .object "ChestnutSticks$Kids"
  | 4 => .object "ChestnutSticks$Throws"
  | 5 => .object "ChestnutSticks$Play"
  | 6 => .object "ChestnutSticks$Season"
  | 7 => .object "ChestnutSticks$Throwers"
  | 8 => .object "ChestnutSticks$Sightings"
  | _ => .object "ChestnutSticks$Sheets"
abbrev wsX100 : List Cond := u_ws RX10 TX10 10
theorem nmX10 : ∀ a, a < 10 → ∀ b, b < 10 → a ≠ b → (TX10 a).2.1 ≠ (TX10 b).2.1 := by decide +kernel
theorem tyX10_ok : ∀ k, k < 10 → parseFieldDescriptor (TX10 k).2.2.1 = some (tyX10 k) := by decide +kernel
abbrev cX10_init : ByteArray := prog_1_method_1_code
def yX10_init : MethodName := ⟨RX10, "<init>", "()V"⟩
abbrev cX10_type : ByteArray := prog_1_method_2_code
def yX10_type : MethodName := ⟨RX10, "type", "(I)I"⟩
abbrev cX10_wipe : ByteArray := prog_1_method_3_code
def yX10_wipe : MethodName := ⟨RX10, "wipe", "()I"⟩
abbrev cX10_undo : ByteArray := prog_1_method_4_code
def yX10_undo : MethodName := ⟨RX10, "undo", "()I"⟩
abbrev cX10_fault : ByteArray := prog_1_method_5_code
def yX10_fault : MethodName := ⟨RX10, "fault", "()I"⟩
abbrev cX10_stick : ByteArray := prog_1_method_6_code
def yX10_stick : MethodName := ⟨RX10, "stick", "(III)I"⟩
abbrev cX10_set : ByteArray := prog_1_method_7_code
def yX10_set : MethodName := ⟨RX10, "set", "(II)I"⟩
abbrev cX10_seed : ByteArray := prog_1_method_8_code
def yX10_seed : MethodName := ⟨RX10, "seed", "(I)I"⟩
abbrev cX10_stands : ByteArray := prog_1_method_9_code
def yX10_stands : MethodName := ⟨RX10, "stands", "(II)I"⟩
abbrev cX10_read : ByteArray := prog_1_method_10_code
def yX10_read : MethodName := ⟨RX10, "read", "(I)I"⟩
abbrev cX10_toss : ByteArray := prog_1_method_11_code
def yX10_toss : MethodName := ⟨RX10, "toss", "(III)I"⟩
abbrev cX10_back : ByteArray := prog_1_method_12_code
def yX10_back : MethodName := ⟨RX10, "back", "()I"⟩
abbrev cX10_judged : ByteArray := prog_1_method_13_code
def yX10_judged : MethodName := ⟨RX10, "judged", "()I"⟩
abbrev cX10_state : ByteArray := prog_1_method_14_code
def yX10_state : MethodName := ⟨RX10, "state", "(II)I"⟩
abbrev cX10_hangs : ByteArray := prog_1_method_15_code
def yX10_hangs : MethodName := ⟨RX10, "hangs", "(I)I"⟩
abbrev cX10_has : ByteArray := prog_1_method_16_code
def yX10_has : MethodName := ⟨RX10, "has", "(I)I"⟩
abbrev cX10_brings : ByteArray := prog_1_method_17_code
def yX10_brings : MethodName := ⟨RX10, "brings", "(III)J"⟩
abbrev cX10_worth : ByteArray := prog_1_method_18_code
def yX10_worth : MethodName := ⟨RX10, "worth", "(II)I"⟩
abbrev cX10_where : ByteArray := prog_1_method_19_code
def yX10_where : MethodName := ⟨RX10, "where", "(I)I"⟩
abbrev cX10_which : ByteArray := prog_1_method_20_code
def yX10_which : MethodName := ⟨RX10, "which", "()I"⟩
abbrev cX10_frees : ByteArray := prog_1_method_21_code
def yX10_frees : MethodName := ⟨RX10, "frees", "(III)I"⟩
abbrev cX10_lie : ByteArray := prog_1_method_22_code
def yX10_lie : MethodName := ⟨RX10, "lie", "(II)J"⟩
abbrev cX10_ripe : ByteArray := prog_1_method_23_code
def yX10_ripe : MethodName := ⟨RX10, "ripe", "(I)I"⟩
abbrev cX10_rests : ByteArray := prog_1_method_24_code
def yX10_rests : MethodName := ⟨RX10, "rests", "(I)I"⟩
abbrev cX10_ends : ByteArray := prog_1_method_25_code
def yX10_ends : MethodName := ⟨RX10, "ends", "(II)I"⟩
abbrev cX10_thrower : ByteArray := prog_1_method_26_code
def yX10_thrower : MethodName := ⟨RX10, "thrower", "(II)I"⟩
abbrev cX10_gone : ByteArray := prog_1_method_27_code
def yX10_gone : MethodName := ⟨RX10, "gone", "()I"⟩
abbrev cX10_run : ByteArray := prog_1_method_28_code
def yX10_run : MethodName := ⟨RX10, "run", "(II)I"⟩
abbrev cX10_hit : ByteArray := prog_1_method_29_code
def yX10_hit : MethodName := ⟨RX10, "hit", "(II)I"⟩
abbrev cX10_seen : ByteArray := prog_1_method_30_code
def yX10_seen : MethodName := ⟨RX10, "seen", "(II)I"⟩
abbrev cX10_forget : ByteArray := prog_1_method_31_code
def yX10_forget : MethodName := ⟨RX10, "forget", "()I"⟩
abbrev cX10_seeds : ByteArray := prog_1_method_32_code
def yX10_seeds : MethodName := ⟨RX10, "seeds", "()I"⟩
abbrev cX10_sheet : ByteArray := prog_1_method_33_code
def yX10_sheet : MethodName := ⟨RX10, "sheet", "(III)I"⟩
abbrev cX10_lose : ByteArray := prog_1_method_34_code
def yX10_lose : MethodName := ⟨RX10, "lose", "(I)I"⟩
abbrev cX10_lay : ByteArray := prog_1_method_35_code
def yX10_lay : MethodName := ⟨RX10, "lay", "(IIII)I"⟩
abbrev cX10_get : ByteArray := prog_1_method_36_code
def yX10_get : MethodName := ⟨RX10, "get", "(III)I"⟩
abbrev cX10_copy : ByteArray := prog_1_method_37_code
def yX10_copy : MethodName := ⟨RX10, "copy", "(IIIII)I"⟩
abbrev cX10_write : ByteArray := prog_1_method_38_code
def yX10_write : MethodName := ⟨RX10, "write", "(I)I"⟩
abbrev cX10_count : ByteArray := prog_1_method_39_code
def yX10_count : MethodName := ⟨RX10, "count", "(I)I"⟩
abbrev cX10_digest : ByteArray := prog_1_method_40_code
def yX10_digest : MethodName := ⟨RX10, "digest", "()J"⟩
abbrev cX10_isBelow : ByteArray := prog_1_method_41_code
def yX10_isBelow : MethodName := ⟨RX10, "isBelow", "(II)Z"⟩
abbrev cX10_power : ByteArray := prog_1_method_42_code
def yX10_power : MethodName := ⟨RX10, "power", "(JI)J"⟩
abbrev cX10_lowest : ByteArray := prog_1_method_43_code
def yX10_lowest : MethodName := ⟨RX10, "lowest", "(JJZ)J"⟩
def RX11 : String := "ChestnutSticksModel"
def TX11 : u_T := fun k => match k with
  | 0 => ("ChestnutSticksModel", "forms", "[I", true)
  | 1 => ("ChestnutSticksModel", "sizes", "[I", true)
  | 2 => ("ChestnutSticksModel", "items", "[I", true)
  | 3 => ("ChestnutSticksModel", "moved", "[I", true)
  | 4 => ("ChestnutSticksModel", "latest", "I", false)
  | 5 => ("ChestnutSticksModel", "text", "[I", true)
  | 6 => ("ChestnutSticksModel", "typed", "I", false)
  | 7 => ("ChestnutSticksModel", "at", "I", false)
  | 8 => ("ChestnutSticksModel", "isThere", "[Z", true)
  | 9 => ("ChestnutSticksModel", "tree", "[I", true)
  | 10 => ("ChestnutSticksModel", "rows", "I", false)
  | 11 => ("ChestnutSticksModel", "wide", "I", false)
  | 12 => ("ChestnutSticksModel", "heavy", "[I", true)
  | 13 => ("ChestnutSticksModel", "longs", "[I", true)
  | 14 => ("ChestnutSticksModel", "lodging", "[I", true)
  | 15 => ("ChestnutSticksModel", "settings", "[I", true)
  | 16 => ("ChestnutSticksModel", "firstSeed", "I", false)
  | 17 => ("ChestnutSticksModel", "standing", "[I", true)
  | 18 => ("ChestnutSticksModel", "throwings", "I", false)
  | 19 => ("ChestnutSticksModel", "throwing", "[I", true)
  | 20 => ("ChestnutSticksModel", "isUp", "[Z", true)
  | 21 => ("ChestnutSticksModel", "lodged", "[I", true)
  | 22 => ("ChestnutSticksModel", "had", "[I", true)
  | 23 => ("ChestnutSticksModel", "brought", "[I", true)
  | 24 => ("ChestnutSticksModel", "now", "I", false)
  | 25 => ("ChestnutSticksModel", "ripeDown", "I", false)
  | 26 => ("ChestnutSticksModel", "greenDown", "I", false)
  | 27 => ("ChestnutSticksModel", "doneMany", "I", false)
  | 28 => ("ChestnutSticksModel", "firstNot", "I", false)
  | 29 => ("ChestnutSticksModel", "throwers", "I", false)
  | 30 => ("ChestnutSticksModel", "thrower", "[I", true)
  | 31 => ("ChestnutSticksModel", "sights", "I", false)
  | _ => ("ChestnutSticksModel", "seen", "[I", true)
def tyX11 : Nat → FieldType := fun k => match k with
  | 0 => .array .int
  | 1 => .array .int
  | 2 => .array .int
  | 3 => .array .int
  | 4 => .int
  | 5 => .array .int
  | 6 => .int
  | 7 => .int
  | 8 => .array .boolean
  | 9 => .array .int
  | 10 => .int
  | 11 => .int
  | 12 => .array .int
  | 13 => .array .int
  | 14 => .array .int
  | 15 => .array .int
  | 16 => .int
  | 17 => .array .int
  | 18 => .int
  | 19 => .array .int
  | 20 => .array .boolean
  | 21 => .array .int
  | 22 => .array .int
  | 23 => .array .int
  | 24 => .int
  | 25 => .int
  | 26 => .int
  | 27 => .int
  | 28 => .int
  | 29 => .int
  | 30 => .array .int
  | 31 => .int
  | _ => .array .int
abbrev wsX110 : List Cond := u_ws RX11 TX11 33
theorem nmX11 : ∀ a, a < 33 → ∀ b, b < 33 → a ≠ b → (TX11 a).2.1 ≠ (TX11 b).2.1 := by decide +kernel
theorem tyX11_ok : ∀ k, k < 33 → parseFieldDescriptor (TX11 k).2.2.1 = some (tyX11 k) := by decide +kernel
abbrev cX11_init : ByteArray := prog_13_method_1_code
def yX11_init : MethodName := ⟨RX11, "<init>", "()V"⟩
abbrev cX11_in : ByteArray := prog_13_method_3_code
def yX11_in : MethodName := ⟨RX11, "in", "(JJJ)Z"⟩
abbrev cX11_no : ByteArray := prog_13_method_4_code
def yX11_no : MethodName := ⟨RX11, "no", "(I)J"⟩
abbrev cX11_isTwo : ByteArray := prog_13_method_5_code
def yX11_isTwo : MethodName := ⟨RX11, "isTwo", "(I)Z"⟩
abbrev cX11_greater : ByteArray := prog_13_method_6_code
def yX11_greater : MethodName := ⟨RX11, "greater", "(II)I"⟩
abbrev cX11_apart : ByteArray := prog_13_method_7_code
def yX11_apart : MethodName := ⟨RX11, "apart", "(II)I"⟩
abbrev cX11_met : ByteArray := prog_13_method_8_code
def yX11_met : MethodName := ⟨RX11, "met", "(I)I"⟩
abbrev cX11_isSheet : ByteArray := prog_13_method_9_code
def yX11_isSheet : MethodName := ⟨RX11, "isSheet", "(I)Z"⟩
abbrev cX11_sheet : ByteArray := prog_13_method_10_code
def yX11_sheet : MethodName := ⟨RX11, "sheet", "(III)I"⟩
abbrev cX11_lose : ByteArray := prog_13_method_11_code
def yX11_lose : MethodName := ⟨RX11, "lose", "(I)I"⟩
abbrev cX11_lacks : ByteArray := prog_13_method_12_code
def yX11_lacks : MethodName := ⟨RX11, "lacks", "(III)I"⟩
abbrev cX11_cut : ByteArray := prog_13_method_13_code
def yX11_cut : MethodName := ⟨RX11, "cut", "(II)I"⟩
abbrev cX11_lay : ByteArray := prog_13_method_14_code
def yX11_lay : MethodName := ⟨RX11, "lay", "(IIII)I"⟩
abbrev cX11_get : ByteArray := prog_13_method_15_code
def yX11_get : MethodName := ⟨RX11, "get", "(III)I"⟩
abbrev cX11_copy : ByteArray := prog_13_method_16_code
def yX11_copy : MethodName := ⟨RX11, "copy", "(IIIII)I"⟩
abbrev cX11_type : ByteArray := prog_13_method_17_code
def yX11_type : MethodName := ⟨RX11, "type", "(I)I"⟩
abbrev cX11_wipe : ByteArray := prog_13_method_18_code
def yX11_wipe : MethodName := ⟨RX11, "wipe", "()I"⟩
abbrev cX11_undo : ByteArray := prog_13_method_19_code
def yX11_undo : MethodName := ⟨RX11, "undo", "()I"⟩
abbrev cX11_clears : ByteArray := prog_13_method_20_code
def yX11_clears : MethodName := ⟨RX11, "clears", "()V"⟩
abbrev cX11_readsRow : ByteArray := prog_13_method_21_code
def yX11_readsRow : MethodName := ⟨RX11, "readsRow", "()Z"⟩
abbrev cX11_reads : ByteArray := prog_13_method_22_code
def yX11_reads : MethodName := ⟨RX11, "reads", "()I"⟩
abbrev cX11_fault : ByteArray := prog_13_method_23_code
def yX11_fault : MethodName := ⟨RX11, "fault", "()I"⟩
abbrev cX11_isCell : ByteArray := prog_13_method_24_code
def yX11_isCell : MethodName := ⟨RX11, "isCell", "(I)Z"⟩
abbrev cX11_isFour : ByteArray := prog_13_method_25_code
def yX11_isFour : MethodName := ⟨RX11, "isFour", "(I)Z"⟩
abbrev cX11_stick : ByteArray := prog_13_method_26_code
def yX11_stick : MethodName := ⟨RX11, "stick", "(III)I"⟩
abbrev cX11_most : ByteArray := prog_13_method_27_code
def yX11_most : MethodName := ⟨RX11, "most", "(I)I"⟩
abbrev cX11_set : ByteArray := prog_13_method_28_code
def yX11_set : MethodName := ⟨RX11, "set", "(II)I"⟩
abbrev cX11_seed : ByteArray := prog_13_method_29_code
def yX11_seed : MethodName := ⟨RX11, "seed", "(I)I"⟩
abbrev cX11_stands : ByteArray := prog_13_method_30_code
def yX11_stands : MethodName := ⟨RX11, "stands", "(II)I"⟩
abbrev cX11_read : ByteArray := prog_13_method_31_code
def yX11_read : MethodName := ⟨RX11, "read", "(I)I"⟩
abbrev cX11_toss : ByteArray := prog_13_method_32_code
def yX11_toss : MethodName := ⟨RX11, "toss", "(III)I"⟩
abbrev cX11_back : ByteArray := prog_13_method_33_code
def yX11_back : MethodName := ⟨RX11, "back", "()I"⟩
abbrev cX11_hangsIn : ByteArray := prog_13_method_34_code
def yX11_hangsIn : MethodName := ⟨RX11, "hangsIn", "(II)I"⟩
abbrev cX11_hangsNow : ByteArray := prog_13_method_35_code
def yX11_hangsNow : MethodName := ⟨RX11, "hangsNow", "(I)I"⟩
abbrev cX11_lot : ByteArray := prog_13_method_36_code
def yX11_lot : MethodName := ⟨RX11, "lot", "()I"⟩
abbrev cX11_whose : ByteArray := prog_13_method_37_code
def yX11_whose : MethodName := ⟨RX11, "whose", "(II)I"⟩
abbrev cX11_falls : ByteArray := prog_13_method_38_code
def yX11_falls : MethodName := ⟨RX11, "falls", "(II)V"⟩
abbrev cX11_strikes : ByteArray := prog_13_method_39_code
def yX11_strikes : MethodName := ⟨RX11, "strikes", "(IIII)Z"⟩
abbrev cX11_throwsOne : ByteArray := prog_13_method_40_code
def yX11_throwsOne : MethodName := ⟨RX11, "throwsOne", "(III)I"⟩
abbrev cX11_throwsAll : ByteArray := prog_13_method_41_code
def yX11_throwsAll : MethodName := ⟨RX11, "throwsAll", "(II)V"⟩
abbrev cX11_find : ByteArray := prog_13_method_42_code
def yX11_find : MethodName := ⟨RX11, "find", "()V"⟩
abbrev cX11_judged : ByteArray := prog_13_method_43_code
def yX11_judged : MethodName := ⟨RX11, "judged", "()I"⟩
abbrev cX11_upNow : ByteArray := prog_13_method_44_code
def yX11_upNow : MethodName := ⟨RX11, "upNow", "()I"⟩
abbrev cX11_lodgedNow : ByteArray := prog_13_method_45_code
def yX11_lodgedNow : MethodName := ⟨RX11, "lodgedNow", "()I"⟩
abbrev cX11_stateOf : ByteArray := prog_13_method_46_code
def yX11_stateOf : MethodName := ⟨RX11, "stateOf", "(II)I"⟩
abbrev cX11_state : ByteArray := prog_13_method_47_code
def yX11_state : MethodName := ⟨RX11, "state", "(II)I"⟩
abbrev cX11_hangs : ByteArray := prog_13_method_48_code
def yX11_hangs : MethodName := ⟨RX11, "hangs", "(I)I"⟩
abbrev cX11_has : ByteArray := prog_13_method_49_code
def yX11_has : MethodName := ⟨RX11, "has", "(I)I"⟩
abbrev cX11_bringsBy : ByteArray := prog_13_method_50_code
def yX11_bringsBy : MethodName := ⟨RX11, "bringsBy", "(IIIZ)I"⟩
abbrev cX11_meanOf : ByteArray := prog_13_method_51_code
def yX11_meanOf : MethodName := ⟨RX11, "meanOf", "(IIZ)I"⟩
abbrev cX11_part : ByteArray := prog_13_method_52_code
def yX11_part : MethodName := ⟨RX11, "part", "(JJI)J"⟩
abbrev cX11_brings : ByteArray := prog_13_method_53_code
def yX11_brings : MethodName := ⟨RX11, "brings", "(III)J"⟩
abbrev cX11_worthOf : ByteArray := prog_13_method_54_code
def yX11_worthOf : MethodName := ⟨RX11, "worthOf", "(II)I"⟩
abbrev cX11_worth : ByteArray := prog_13_method_55_code
def yX11_worth : MethodName := ⟨RX11, "worth", "(II)I"⟩
abbrev cX11_whereOf : ByteArray := prog_13_method_56_code
def yX11_whereOf : MethodName := ⟨RX11, "whereOf", "(I)I"⟩
abbrev cX11_where : ByteArray := prog_13_method_57_code
def yX11_where : MethodName := ⟨RX11, "where", "(I)I"⟩
abbrev cX11_whichNow : ByteArray := prog_13_method_58_code
def yX11_whichNow : MethodName := ⟨RX11, "whichNow", "()I"⟩
abbrev cX11_which : ByteArray := prog_13_method_59_code
def yX11_which : MethodName := ⟨RX11, "which", "()I"⟩
abbrev cX11_freesOf : ByteArray := prog_13_method_60_code
def yX11_freesOf : MethodName := ⟨RX11, "freesOf", "(III)I"⟩
abbrev cX11_frees : ByteArray := prog_13_method_61_code
def yX11_frees : MethodName := ⟨RX11, "frees", "(III)I"⟩
abbrev cX11_nights : ByteArray := prog_13_method_62_code
def yX11_nights : MethodName := ⟨RX11, "nights", "(II)I"⟩
abbrev cX11_lieOf : ByteArray := prog_13_method_63_code
def yX11_lieOf : MethodName := ⟨RX11, "lieOf", "(II)J"⟩
abbrev cX11_lie : ByteArray := prog_13_method_64_code
def yX11_lie : MethodName := ⟨RX11, "lie", "(II)J"⟩
abbrev cX11_ripeOf : ByteArray := prog_13_method_65_code
def yX11_ripeOf : MethodName := ⟨RX11, "ripeOf", "(I)I"⟩
abbrev cX11_ripe : ByteArray := prog_13_method_66_code
def yX11_ripe : MethodName := ⟨RX11, "ripe", "(I)I"⟩
abbrev cX11_isRest : ByteArray := prog_13_method_67_code
def yX11_isRest : MethodName := ⟨RX11, "isRest", "(II)Z"⟩
abbrev cX11_restsOf : ByteArray := prog_13_method_68_code
def yX11_restsOf : MethodName := ⟨RX11, "restsOf", "(I)I"⟩
abbrev cX11_rests : ByteArray := prog_13_method_69_code
def yX11_rests : MethodName := ⟨RX11, "rests", "(I)I"⟩
abbrev cX11_endsOf : ByteArray := prog_13_method_70_code
def yX11_endsOf : MethodName := ⟨RX11, "endsOf", "(II)I"⟩
abbrev cX11_ends : ByteArray := prog_13_method_71_code
def yX11_ends : MethodName := ⟨RX11, "ends", "(II)I"⟩
abbrev cX11_thrower : ByteArray := prog_13_method_72_code
def yX11_thrower : MethodName := ⟨RX11, "thrower", "(II)I"⟩
abbrev cX11_gone : ByteArray := prog_13_method_73_code
def yX11_gone : MethodName := ⟨RX11, "gone", "()I"⟩
abbrev cX11_round : ByteArray := prog_13_method_74_code
def yX11_round : MethodName := ⟨RX11, "round", "()I"⟩
abbrev cX11_isHit : ByteArray := prog_13_method_75_code
def yX11_isHit : MethodName := ⟨RX11, "isHit", "(II)Z"⟩
abbrev cX11_runOf : ByteArray := prog_13_method_76_code
def yX11_runOf : MethodName := ⟨RX11, "runOf", "(II)I"⟩
abbrev cX11_run : ByteArray := prog_13_method_77_code
def yX11_run : MethodName := ⟨RX11, "run", "(II)I"⟩
abbrev cX11_hitOf : ByteArray := prog_13_method_78_code
def yX11_hitOf : MethodName := ⟨RX11, "hitOf", "(II)I"⟩
abbrev cX11_hit : ByteArray := prog_13_method_79_code
def yX11_hit : MethodName := ⟨RX11, "hit", "(II)I"⟩
abbrev cX11_seen : ByteArray := prog_13_method_80_code
def yX11_seen : MethodName := ⟨RX11, "seen", "(II)I"⟩
abbrev cX11_forget : ByteArray := prog_13_method_81_code
def yX11_forget : MethodName := ⟨RX11, "forget", "()I"⟩
abbrev cX11_seedsNow : ByteArray := prog_13_method_82_code
def yX11_seedsNow : MethodName := ⟨RX11, "seedsNow", "()I"⟩
abbrev cX11_seeds : ByteArray := prog_13_method_83_code
def yX11_seeds : MethodName := ⟨RX11, "seeds", "()I"⟩
abbrev cX11_write : ByteArray := prog_13_method_84_code
def yX11_write : MethodName := ⟨RX11, "write", "(I)I"⟩
abbrev cX11_count : ByteArray := prog_13_method_85_code
def yX11_count : MethodName := ⟨RX11, "count", "(I)I"⟩
abbrev cX11_digest : ByteArray := prog_13_method_86_code
def yX11_digest : MethodName := ⟨RX11, "digest", "()J"⟩
def RJ9 : String := "java/lang/Math"
abbrev cJ9_floorMod_7cf53 : ByteArray := prog_14_method_50_code
def yJ9_floorMod_7cf53 : MethodName := ⟨RJ9, "floorMod", "(II)I"⟩
abbrev cJ9_abs_0f7a4 : ByteArray := prog_14_method_59_code
def yJ9_abs_0f7a4 : MethodName := ⟨RJ9, "abs", "(I)I"⟩
abbrev cJ9_max_7cf53 : ByteArray := prog_14_method_65_code
def yJ9_max_7cf53 : MethodName := ⟨RJ9, "max", "(II)I"⟩
abbrev cJ9_min_7cf53 : ByteArray := prog_14_method_69_code
def yJ9_min_7cf53 : MethodName := ⟨RJ9, "min", "(II)I"⟩
abbrev vwCl : List vw_C := [(RX0, TX0, 1), (RX1, TX1, 14), (RX2, TX2, 2), (RX3, TX3, 2), (RX4, TX4, 4), (RX5, TX5, 3), (RX6, TX6, 1), (RX7, TX7, 3), (RX8, TX8, 4), (RX9, TX9, 4), (RX10, TX10, 10), (RX11, TX11, 33)]
end
section
/-! The abstract machine: cells as a list, references as places in it; one simple step as a function, and that the machine follows it. -/
abbrev ac_C : Type := (Bool × Nat × (Nat → Int32)) ⊕ (Nat × List Value)
abbrev ac_H : Type := List ac_C
abbrev ac_R : Type := List (Nat × (Nat → Int32))
/-- globals: the classes' numbers, the two array classes, the base, the read-only arrays' addresses, the read-only arrays -/
abbrev ac_G : Type := va_G × (ClassId × ClassId) × Nat × (Nat → Nat) × ac_R
def g_B (G : ac_G) : Nat := G.2.2.1
def g_aS (G : ac_G) : Nat → Nat := G.2.2.2.1
def g_ro (G : ac_G) : ac_R := G.2.2.2.2
def g_A (G : ac_G) : Nat → Prop := fun q => g_B G ≤ q
def g_ad (G : ac_G) (k : Nat) : Nat := if k < 1000 then g_B G + k else g_aS G (k - 1000)
def g_v (G : ac_G) : Value → Value
  | .ref k => .ref (g_ad G k)
  | v => v
def g_e (G : ac_G) : ac_C → va_E
  | .inl (b, n, f) => .inl (if b = true then G.2.1.2 else G.2.1.1, (n, .inl f))
  | .inr (c, fs) => .inr (c, fs.map (g_v G))
def g_w (G : ac_G) (hp : ac_H) : va_W := hp.mapIdx (fun k c => (g_ad G k, g_e G c))
def g_tys (G : ac_G) : List (ClassId × FieldType) := [(G.2.1.1, .int), (G.2.1.2, .boolean)]
def pic (G : ac_G) (hp : ac_H) (H : Heap) : Prop := va_P G.1 vwCl (g_w G hp) H ∧ hp.length ≤ 1000
theorem g_v_cat (G : ac_G) (v : Value) : (g_v G v).category = v.category := by cases v <;> rfl
theorem g_v_null {G : ac_G} {v : Value} (h : v ≠ .null) : g_v G v ≠ .null := by
  cases v <;> first | exact absurd rfl h | (intro q; cases q)
theorem g_w_get {G : ac_G} {hp : ac_H} {k : Nat} {c : ac_C} (h : hp[k]? = some c) : (g_w G hp)[k]? = some (g_ad G k, g_e G c) := by
  simp [g_w, List.getElem?_mapIdx, h]
theorem g_w_set {G : ac_G} {hp : ac_H} {k : Nat} {c : ac_C} : (g_w G hp).set k (g_ad G k, g_e G c) = g_w G (hp.set k c) := by
  apply List.ext_getElem?
  intro j
  by_cases hj : k = j
  · subst hj
    by_cases hl : k < hp.length
    · simp [g_w, List.getElem?_mapIdx, List.getElem?_set, hl]
    · simp [g_w, List.getElem?_mapIdx, List.getElem?_set, hl]
  · simp [g_w, List.getElem?_mapIdx, List.getElem?_set, hj]
theorem g_w_push {G : ac_G} {hp : ac_H} {c : ac_C} : g_w G hp ++ [(g_ad G hp.length, g_e G c)] = g_w G (hp ++ [c]) := by
  simp [g_w, List.mapIdx_append]
theorem g_D {G : ac_G} {hp : ac_H} (hl : hp.length ≤ 1000) : va_D (g_A G) (g_w G hp) := by
  have key : ∀ (k : Nat) (q : Nat × va_E), (g_w G hp)[k]? = some q → k < 1000 ∧ q.1 = g_B G + k := by
    intro k q hk
    have h1 : k < (g_w G hp).length := (List.getElem?_eq_some_iff.mp hk).1
    have h2 : k < hp.length := by simpa [g_w] using h1
    have h3 : k < 1000 := by omega
    obtain ⟨c, hc⟩ : ∃ c, hp[k]? = some c := ⟨hp[k], by simp [h2]⟩
    rw [g_w_get hc] at hk
    cases hk
    exact ⟨h3, by simp [g_ad, h3]⟩
  refine ⟨fun i j p q hi hj hpq => ?_, fun k q hk => ?_⟩
  · obtain ⟨-, e1⟩ := key i p hi
    obtain ⟨-, e2⟩ := key j q hj
    omega
  · obtain ⟨-, e1⟩ := key k q hk
    show g_B G ≤ q.1
    omega
/-! methods: name, bytes, locals, return type, room (frames, locals) -/
abbrev md_T : Type := MethodName × ByteArray × Nat × Option FieldType × Nat × Nat
def m_y (M : md_T) : MethodName := M.1
def m_b (M : md_T) : ByteArray := M.2.1
def m_L (M : md_T) : Nat := M.2.2.1
def m_r (M : md_T) : Option FieldType := M.2.2.2.1
def m_f (M : md_T) : Nat := M.2.2.2.2.1
def m_l (M : md_T) : Nat := M.2.2.2.2.2
/-! the words across the nest, and the static arrays -/
def sa_n : Nat → String
  | 0 => "STICK_LEAST"
  | 1 => "STICK_MOST"
  | _ => "RULE_MOST"
def good_T : List Cond := lw_tbl.filter goodWord
theorem gd {w : Cond} (h : w ∈ lw_tbl) (hg : goodWord w = true) : w ∈ good_T := List.mem_filter.mpr ⟨h, hg⟩
def nest_W : List Cond := lw_tbl.filter (fun w => match w with | .methodLinkNest _ _ _ _ => true | .fieldLinkNest _ _ _ _ _ _ => true | _ => false)
def kx (G : ac_G) (U : State) : Prop := va_K G.1 vwCl (g_tys G) U ∧ (∀ w ∈ nest_W, va_Nw w U) ∧ (∀ (j : Nat) (r : Nat × (Nat → Int32)), (g_ro G)[j]? = some r → va_T .int (g_aS G j) r.1 (fun i => .int (r.2 i)) (g_A G) U U.heap) ∧
  (∀ j, j < 3 → va_Z "ChestnutSticks" (sa_n j) "[I" (.ref (g_aS G j)) (g_A G) U U.heap) ∧ g_B G ≤ U.heap.size
theorem nest_warm {s U : State} (hW : s.WarmedH U.vm) {w : Cond} (hw : w ∈ nest_W) (h : va_Nw w s) : va_Nw w U := by
  have h2 := (List.mem_filter.mp hw).2
  cases w <;> first | (simp at h2; done) | exact va_Nw.warmF hW h | exact va_Nw.warmM hW h
theorem nest_same {s U : State} (hv : s.vm = U.vm) {w : Cond} (hw : w ∈ nest_W) (h : va_Nw w s) : va_Nw w U := by
  have h2 := (List.mem_filter.mp hw).2
  cases w <;> first | (simp at h2; done) | exact va_Nw.same rfl hv h
theorem kx.next {G : ac_G} {s U : State} {H : Heap} {locs : List Loc} (h : kx G s) (hS : va_S (g_A G) s.heap H locs) (hU : U.heap = H) (hW : s.WarmedH U.vm) : kx G U := by
  obtain ⟨h1, h2, h3, h4, h5⟩ := h
  refine ⟨va_K.moved hW.alike h1, fun w hw => nest_warm hW hw (h2 w hw), fun j r hr => ?_, fun j hj => ?_, by rw [hU]; exact Nat.le_trans h5 hS.1⟩
  · rw [hU]
    exact va_T.moved hW.alike ((h3 j r hr).kept (fun a h6 h7 => hS.2.1 a h6 h7))
  · rw [hU]
    exact va_Z.moved hW.alike ((h4 j hj).kept (fun a h6 h7 => hS.2.1 a h6 h7))
theorem kx.calling {G : ac_G} {U : State} (g : JFrame) (mk : MethodId) (a : Array Value) (h : kx G U) : kx G (U.calling g mk a) := by
  obtain ⟨h1, h2, h3, h4, h5⟩ := h
  exact ⟨va_K.moved (u := U) (U := U.calling g mk a) (Vm.Alike.refl U.vm) h1, fun w hw => nest_same (s := U) (U := U.calling g mk a) rfl hw (h2 w hw), fun j r hr => va_T.moved (u := U) (U := U.calling g mk a) (Vm.Alike.refl U.vm) (h3 j r hr), fun j hj => va_Z.moved (u := U) (U := U.calling g mk a) (Vm.Alike.refl U.vm) (h4 j hj), h5⟩
/-! locals by place; null stands for what isn't known -/
def lr (G : ac_G) (ls : List Value) (Ls : Array Slot) (nL : Nat) : Prop := Ls.size = nL ∧ lv_wf Ls ∧ ∀ (k : Nat) (v : Value), ls[k]? = some v → v ≠ .null → Ls[k]? = some (.val (g_v G v))
def l_al (G : ac_G) (ls : List Value) : List (Nat × Value) := (List.range ls.length).filterMap (fun (k : Nat) => match (ls[k]? : Option Value) with
  | some Value.null => none
  | some v => some (k, g_v G v)
  | none => none)
theorem l_al_mem {G : ac_G} {ls : List Value} {k : Nat} {v : Value} (h : ls[k]? = some v) (hv : v ≠ .null) : (k, g_v G v) ∈ l_al G ls := by
  refine List.mem_filterMap.mpr ⟨k, List.mem_range.mpr (List.getElem?_eq_some_iff.mp h).1, ?_⟩
  rw [h]
  cases v <;> first | exact absurd rfl hv | rfl
theorem l_al_of {G : ac_G} {ls : List Value} {q : Nat × Value} (h : q ∈ l_al G ls) : ∃ v, ls[q.1]? = some v ∧ v ≠ .null ∧ q.2 = g_v G v := by
  obtain ⟨k, -, hk⟩ := List.mem_filterMap.mp h
  cases hv : ls[k]? with
  | none => rw [hv] at hk; cases hk
  | some v =>
    rw [hv] at hk
    cases v <;> first | (cases hk; done) | (cases hk; exact ⟨_, hv, (fun z => by cases z), rfl⟩)
theorem lr.has {G : ac_G} {ls : List Value} {Ls : Array Slot} {nL : Nat} (h : lr G ls Ls nL) : lv_has Ls nL (l_al G ls) := by
  refine ⟨h.1, h.2.1, fun q hq => ?_⟩
  obtain ⟨v, h1, h2, h3⟩ := l_al_of hq
  rw [h3]
  exact h.2.2 q.1 v h1 h2
def l_k2 (ls : List Value) (j : Nat) : List Value := match ls[j]? with
  | some (.long _) => ls.set j .null
  | some (.double _) => ls.set j .null
  | _ => ls
def l_kill (ls : List Value) : Nat → List Value
  | 0 => ls
  | j + 1 => l_k2 ls j
def l_s1 (ls : List Value) (i : Nat) (v : Value) : List Value := (l_kill ls i).set i v
def l_s2 (ls : List Value) (i : Nat) (v : Value) : List Value := ((l_kill ls i).set i v).set (i + 1) .null
theorem l_kill_get {ls : List Value} {i k : Nat} {w : Value} (h : (l_kill ls i)[k]? = some w) (hw : w ≠ .null) : ls[k]? = some w ∧ ¬ (k + 1 = i ∧ w.category = 2) := by
  cases i with
  | zero => exact ⟨h, fun q => by omega⟩
  | succ j =>
    have h : (l_k2 ls j)[k]? = some w := h
    unfold l_k2 at h
    by_cases hk : j = k
    · subst hk
      split at h
      · simp [List.getElem?_set] at h; exact absurd h.2.symm hw
      · simp [List.getElem?_set] at h; exact absurd h.2.symm hw
      · rename_i h1 h2
        refine ⟨h, fun q => ?_⟩
        cases w <;> first | exact h1 _ h | exact h2 _ h | (simp [Value.category] at q; done)
    · have h2 : ls[k]? = some w := by
        split at h
        · simpa [List.getElem?_set, hk] using h
        · simpa [List.getElem?_set, hk] using h
        · exact h
      exact ⟨h2, fun q => by omega⟩
theorem lr.set1 {G : ac_G} {ls : List Value} {L' : Array Slot} {nL i : Nat} {v x : Value} (hx : g_v G v = x) (h : lv_has L' nL ((i, x) :: (l_al G ls).filter (fun q => !(q.1 == i) && !(q.1 + 1 == i && q.2.category == 2)))) : lr G (l_s1 ls i v) L' nL := by
  subst hx
  refine ⟨h.1, h.2.1, fun k w hk hw => ?_⟩
  unfold l_s1 at hk
  by_cases hki : i = k
  · subst hki
    have : w = v := by
      simp [List.getElem?_set] at hk
      exact hk.2.symm
    subst this
    exact h.2.2 (i, g_v G w) List.mem_cons_self
  · rw [List.getElem?_set_ne hki] at hk
    obtain ⟨h1, h2⟩ := l_kill_get hk hw
    refine h.2.2 (k, g_v G w) (List.mem_cons_of_mem _ (List.mem_filter.mpr ⟨l_al_mem h1 hw, ?_⟩))
    have h3 : ¬ k = i := fun q => hki q.symm
    simp only [g_v_cat, Bool.and_eq_true, Bool.not_eq_true', beq_eq_false_iff_ne, ne_eq, Bool.and_eq_false_iff]
    refine ⟨h3, ?_⟩
    by_cases h4 : k + 1 = i
    · exact Or.inr (fun q => h2 ⟨h4, q⟩)
    · exact Or.inl h4
theorem lr.set2 {G : ac_G} {ls : List Value} {L' : Array Slot} {nL i : Nat} {v x : Value} (hx : g_v G v = x) (h : lv_has L' nL ((i, x) :: (l_al G ls).filter (fun q => !(q.1 == i) && (!(q.1 == i + 1) && !(q.1 + 1 == i && q.2.category == 2))))) : lr G (l_s2 ls i v) L' nL := by
  subst hx
  refine ⟨h.1, h.2.1, fun k w hk hw => ?_⟩
  unfold l_s2 at hk
  by_cases hk2 : i + 1 = k
  · subst hk2
    simp [List.getElem?_set] at hk
    exact absurd hk.2.symm hw
  · rw [List.getElem?_set_ne hk2] at hk
    by_cases hki : i = k
    · subst hki
      have : w = v := by
        simp [List.getElem?_set] at hk
        exact hk.2.symm
      subst this
      exact h.2.2 (i, g_v G w) List.mem_cons_self
    · rw [List.getElem?_set_ne hki] at hk
      obtain ⟨h1, h2⟩ := l_kill_get hk hw
      refine h.2.2 (k, g_v G w) (List.mem_cons_of_mem _ (List.mem_filter.mpr ⟨l_al_mem h1 hw, ?_⟩))
      have h3 : ¬ k = i := fun q => hki q.symm
      have h5 : ¬ k = i + 1 := fun q => hk2 q.symm
      simp only [g_v_cat, Bool.and_eq_true, Bool.not_eq_true', beq_eq_false_iff_ne, ne_eq, Bool.and_eq_false_iff]
      refine ⟨h3, h5, ?_⟩
      by_cases h4 : k + 1 = i
      · exact Or.inr (fun q => h2 ⟨h4, q⟩)
      · exact Or.inl h4
/-! one simple step -/
abbrev inb (i : Int32) (n : Nat) : Prop := ¬ i < 0 ∧ i.toNatClampNeg < n
theorem inb_vp {i : Int32} {n : Nat} (h : inb i n) : vp_in i n := fun q => q.elim h.1 (fun z => absurd h.2 (Nat.not_lt.mpr z))
def i_rem (x y : Int32) : Int32 := x - x / y * y
def l_rem (x y : Int64) : Int64 := x - x / y * y
def i_shl (x y : Int32) : Int32 := x <<< (y &&& 31)
def i_ushr (x y : Int32) : Int32 := (x.toUInt32 >>> (y.toUInt32 &&& Int32.toUInt32 31)).toInt32
abbrev in_T : Type := Instr × Nat × Nat × Value
abbrev st_T : Type := Nat × List Value × List Value × ac_H
def a_arr (ro : ac_R) (hp : ac_H) (a : Nat) : Option (Bool × Nat × (Nat → Int32)) :=
  bif Nat.blt a 1000 then (match hp[a]? with
    | some (.inl x) => some x
    | _ => none) else (match ro[a - 1000]? with
    | some r => some (false, r.1, r.2)
    | none => none)
def stp (ro : ac_R) (e : in_T) (pc : Nat) (ls st : List Value) (hp : ac_H) : Option st_T :=
  match e.1 with
  | .iconst _ => some (pc + e.2.1, ls, e.2.2.2 :: st, hp)
  | .bipush _ => some (pc + e.2.1, ls, e.2.2.2 :: st, hp)
  | .sipush _ => some (pc + e.2.1, ls, e.2.2.2 :: st, hp)
  | .lconst _ => some (pc + e.2.1, ls, e.2.2.2 :: st, hp)
  | .ldc _ => some (pc + e.2.1, ls, e.2.2.2 :: st, hp)
  | .ldc2_w _ => some (pc + e.2.1, ls, e.2.2.2 :: st, hp)
  | .getstatic _ => some (pc + e.2.1, ls, e.2.2.2 :: st, hp)
  | .iload _ => match ls[e.2.2.1]? with | some (.int x) => some (pc + e.2.1, ls, .int x :: st, hp) | _ => none
  | .iload_n _ => match ls[e.2.2.1]? with | some (.int x) => some (pc + e.2.1, ls, .int x :: st, hp) | _ => none
  | .lload _ => match ls[e.2.2.1]? with | some (.long x) => some (pc + e.2.1, ls, .long x :: st, hp) | _ => none
  | .lload_n _ => match ls[e.2.2.1]? with | some (.long x) => some (pc + e.2.1, ls, .long x :: st, hp) | _ => none
  | .aload _ => match ls[e.2.2.1]? with | some (.ref x) => some (pc + e.2.1, ls, .ref x :: st, hp) | _ => none
  | .aload_n _ => match ls[e.2.2.1]? with | some (.ref x) => some (pc + e.2.1, ls, .ref x :: st, hp) | _ => none
  | .istore _ => match st with | .int x :: r => some (pc + e.2.1, l_s1 ls e.2.2.1 (.int x), r, hp) | _ => none
  | .istore_n _ => match st with | .int x :: r => some (pc + e.2.1, l_s1 ls e.2.2.1 (.int x), r, hp) | _ => none
  | .lstore _ => match st with | .long x :: r => some (pc + e.2.1, l_s2 ls e.2.2.1 (.long x), r, hp) | _ => none
  | .lstore_n _ => match st with | .long x :: r => some (pc + e.2.1, l_s2 ls e.2.2.1 (.long x), r, hp) | _ => none
  | .astore_n _ => match st with | .ref x :: r => some (pc + e.2.1, l_s1 ls e.2.2.1 (.ref x), r, hp) | _ => none
  | .iinc _ _ => match ls[e.2.2.1]?, e.2.2.2 with | some (.int x), .int c => some (pc + e.2.1, l_s1 ls e.2.2.1 (.int (x + c)), st, hp) | _, _ => none
  | .iadd => match st with | .int y :: .int x :: r => some (pc + e.2.1, ls, .int (x + y) :: r, hp) | _ => none
  | .isub => match st with | .int y :: .int x :: r => some (pc + e.2.1, ls, .int (x - y) :: r, hp) | _ => none
  | .imul => match st with | .int y :: .int x :: r => some (pc + e.2.1, ls, .int (x * y) :: r, hp) | _ => none
  | .iand => match st with | .int y :: .int x :: r => some (pc + e.2.1, ls, .int (x &&& y) :: r, hp) | _ => none
  | .ior => match st with | .int y :: .int x :: r => some (pc + e.2.1, ls, .int (x ||| y) :: r, hp) | _ => none
  | .ixor => match st with | .int y :: .int x :: r => some (pc + e.2.1, ls, .int (x ^^^ y) :: r, hp) | _ => none
  | .ineg => match st with | .int x :: r => some (pc + e.2.1, ls, .int (-x) :: r, hp) | _ => none
  | .ishl => match st with | .int y :: .int x :: r => some (pc + e.2.1, ls, .int (i_shl x y) :: r, hp) | _ => none
  | .iushr => match st with | .int y :: .int x :: r => some (pc + e.2.1, ls, .int (i_ushr x y) :: r, hp) | _ => none
  | .idiv => match st with | .int y :: .int x :: r => if y = 0 then none else some (pc + e.2.1, ls, .int (x / y) :: r, hp) | _ => none
  | .irem => match st with | .int y :: .int x :: r => if y = 0 then none else some (pc + e.2.1, ls, .int (i_rem x y) :: r, hp) | _ => none
  | .ladd => match st with | .long y :: .long x :: r => some (pc + e.2.1, ls, .long (x + y) :: r, hp) | _ => none
  | .lsub => match st with | .long y :: .long x :: r => some (pc + e.2.1, ls, .long (x - y) :: r, hp) | _ => none
  | .lmul => match st with | .long y :: .long x :: r => some (pc + e.2.1, ls, .long (x * y) :: r, hp) | _ => none
  | .ldiv => match st with | .long y :: .long x :: r => if y = 0 then none else some (pc + e.2.1, ls, .long (x / y) :: r, hp) | _ => none
  | .lrem => match st with | .long y :: .long x :: r => if y = 0 then none else some (pc + e.2.1, ls, .long (l_rem x y) :: r, hp) | _ => none
  | .lcmp => match st with | .long y :: .long x :: r => some (pc + e.2.1, ls, .int (lg_cmp x y) :: r, hp) | _ => none
  | .i2l => match st with | .int x :: r => some (pc + e.2.1, ls, .long x.toInt64 :: r, hp) | _ => none
  | .i2b => match st with | .int x :: r => some (pc + e.2.1, ls, .int x.toInt8.toInt32 :: r, hp) | _ => none
  | .i2s => match st with | .int x :: r => some (pc + e.2.1, ls, .int x.toInt16.toInt32 :: r, hp) | _ => none
  | .dup => match st with
    | .int x :: r => some (pc + e.2.1, ls, .int x :: .int x :: r, hp)
    | .ref x :: r => some (pc + e.2.1, ls, .ref x :: .ref x :: r, hp)
    | _ => none
  | .dup2 => match st with | .int y :: .ref x :: r => some (pc + e.2.1, ls, .int y :: .ref x :: .int y :: .ref x :: r, hp) | _ => none
  | .pop => match st with | .int _ :: r => some (pc + e.2.1, ls, r, hp) | _ => none
  | .goto _ => some (e.2.2.1, ls, st, hp)
  | .ifCond .eq _ => match st with | .int x :: r => some (if x = 0 then e.2.2.1 else pc + e.2.1, ls, r, hp) | _ => none
  | .ifCond .ne _ => match st with | .int x :: r => some (if x = 0 then pc + e.2.1 else e.2.2.1, ls, r, hp) | _ => none
  | .ifCond .lt _ => match st with | .int x :: r => some (if x < 0 then e.2.2.1 else pc + e.2.1, ls, r, hp) | _ => none
  | .ifCond .ge _ => match st with | .int x :: r => some (if 0 ≤ x then e.2.2.1 else pc + e.2.1, ls, r, hp) | _ => none
  | .ifCond .gt _ => match st with | .int x :: r => some (if 0 < x then e.2.2.1 else pc + e.2.1, ls, r, hp) | _ => none
  | .ifCond .le _ => match st with | .int x :: r => some (if x ≤ 0 then e.2.2.1 else pc + e.2.1, ls, r, hp) | _ => none
  | .if_icmp .eq _ => match st with | .int y :: .int x :: r => some (if x = y then e.2.2.1 else pc + e.2.1, ls, r, hp) | _ => none
  | .if_icmp .ne _ => match st with | .int y :: .int x :: r => some (if x = y then pc + e.2.1 else e.2.2.1, ls, r, hp) | _ => none
  | .if_icmp .lt _ => match st with | .int y :: .int x :: r => some (if x < y then e.2.2.1 else pc + e.2.1, ls, r, hp) | _ => none
  | .if_icmp .ge _ => match st with | .int y :: .int x :: r => some (if y ≤ x then e.2.2.1 else pc + e.2.1, ls, r, hp) | _ => none
  | .if_icmp .gt _ => match st with | .int y :: .int x :: r => some (if y < x then e.2.2.1 else pc + e.2.1, ls, r, hp) | _ => none
  | .if_icmp .le _ => match st with | .int y :: .int x :: r => some (if x ≤ y then e.2.2.1 else pc + e.2.1, ls, r, hp) | _ => none
  | .getfield _ => match st with
    | .ref a :: r => (match hp[a]? with
      | some (.inr o) => bif Nat.beq o.1 (e.2.2.1 / 100) then (match o.2[e.2.2.1 % 100]? with | some v => some (pc + e.2.1, ls, v :: r, hp) | none => none) else none
      | _ => none)
    | _ => none
  | .putfield _ => match st with
    | v :: .ref a :: r => (match hp[a]? with
      | some (.inr o) => bif Nat.beq o.1 (e.2.2.1 / 100) then (match o.2[e.2.2.1 % 100]? with
        | some _ => (match e.2.2.2, v with
          | .int _, .int x => some (pc + e.2.1, ls, r, hp.set a (.inr (o.1, o.2.set (e.2.2.1 % 100) (.int x))))
          | .null, .ref x => some (pc + e.2.1, ls, r, hp.set a (.inr (o.1, o.2.set (e.2.2.1 % 100) (.ref x))))
          | _, _ => none)
        | none => none) else none
      | _ => none)
    | _ => none
  | .iaload => match st with
    | .int i :: .ref a :: r => (match a_arr ro hp a with
      | some (false, n, f) => if inb i n then some (pc + e.2.1, ls, .int (f i.toNatClampNeg) :: r, hp) else none
      | _ => none)
    | _ => none
  | .baload => match st with
    | .int i :: .ref a :: r => (match hp[a]? with
      | some (.inl (true, n, f)) => if inb i n then some (pc + e.2.1, ls, .int (f i.toNatClampNeg) :: r, hp) else none
      | _ => none)
    | _ => none
  | .iastore => match st with
    | .int x :: .int i :: .ref a :: r => (match hp[a]? with
      | some (.inl (false, n, f)) => if inb i n then some (pc + e.2.1, ls, r, hp.set a (.inl (false, n, upd f i.toNatClampNeg x))) else none
      | _ => none)
    | _ => none
  | .bastore => match st with
    | .int x :: .int i :: .ref a :: r => (match hp[a]? with
      | some (.inl (true, n, f)) => if inb i n then some (pc + e.2.1, ls, r, hp.set a (.inl (true, n, upd f i.toNatClampNeg (vp_nar .boolean x)))) else none
      | _ => none)
    | _ => none
  | .arraylength => match st with
    | .ref a :: r => (match a_arr ro hp a with
      | some (_, n, _) => some (pc + e.2.1, ls, .int (Int32.ofNat n) :: r, hp)
      | _ => none)
    | _ => none
  | _ => none
end
section
/-- class, pool number, field, the place of its word -/
def fl_T : List (Nat × Nat × Nat × Nat) := [
  (0, 9, 0, 127),
  (1, 9, 5, 161),
  (1, 15, 6, 162),
  (1, 18, 7, 163),
  (1, 21, 8, 164),
  (1, 24, 9, 165),
  (1, 28, 10, 166),
  (1, 31, 11, 167),
  (1, 34, 12, 168),
  (1, 37, 13, 169),
  (1, 40, 0, 156),
  (1, 44, 1, 157),
  (1, 48, 2, 158),
  (1, 52, 3, 159),
  (1, 56, 4, 160),
  (2, 9, 0, 114),
  (2, 15, 1, 115),
  (3, 9, 1, 206),
  (3, 15, 0, 205),
  (4, 9, 0, 250),
  (4, 15, 1, 251),
  (4, 18, 2, 252),
  (4, 21, 3, 253),
  (5, 9, 0, 234),
  (5, 15, 1, 235),
  (5, 18, 2, 236),
  (6, 9, 0, 104),
  (7, 9, 0, 218),
  (7, 15, 1, 219),
  (7, 18, 2, 220),
  (8, 9, 0, 137),
  (8, 15, 1, 138),
  (8, 18, 2, 139),
  (8, 21, 3, 140),
  (9, 9, 0, 84),
  (9, 15, 1, 85),
  (9, 18, 2, 86),
  (9, 22, 3, 87),
  (10, 10, 0, 263),
  (10, 19, 1, 264),
  (10, 26, 2, 265),
  (10, 33, 3, 266),
  (10, 40, 4, 267),
  (10, 49, 5, 268),
  (10, 58, 6, 269),
  (10, 65, 7, 270),
  (10, 72, 8, 271),
  (10, 79, 9, 272),
  (11, 7, 0, 892),
  (11, 13, 1, 893),
  (11, 16, 2, 894),
  (11, 19, 3, 895),
  (11, 22, 5, 897),
  (11, 25, 8, 900),
  (11, 29, 9, 901),
  (11, 32, 12, 904),
  (11, 35, 13, 905),
  (11, 38, 14, 906),
  (11, 41, 15, 907),
  (11, 44, 17, 909),
  (11, 47, 19, 911),
  (11, 50, 20, 912),
  (11, 53, 21, 913),
  (11, 56, 22, 914),
  (11, 59, 23, 915),
  (11, 62, 30, 922),
  (11, 65, 32, 924),
  (11, 68, 16, 908),
  (11, 78, 4, 896),
  (11, 104, 6, 898),
  (11, 107, 10, 902),
  (11, 110, 11, 903),
  (11, 113, 7, 899),
  (11, 150, 18, 910),
  (11, 160, 24, 916),
  (11, 169, 25, 917),
  (11, 175, 26, 918),
  (11, 189, 27, 919),
  (11, 192, 28, 920),
  (11, 278, 29, 921),
  (11, 297, 31, 923)]
theorem fl_all : fl_T.all (fun e => match vwCl[e.1]? with
    | some q => decide (e.2.2.1 < q.2.2) && decide (lw_tbl[e.2.2.2]? = some (Cond.fieldLink q.1 e.2.1 (q.2.1 e.2.2.1).1 (q.2.1 e.2.2.1).2.1 (q.2.1 e.2.2.1).2.2.1))
    | none => false) = true := by decide +kernel
def ki_T : List (Nat × String × Nat × Int32) := [
  (498, "ChestnutSticks$Play", 122, 1103515245),
  (612, "ChestnutSticks", 187, (-1000002)),
  (810, "ChestnutSticks", 251, (-2147483648)),
  (1028, "ChestnutSticksModel", 101, (-2147483648)),
  (1128, "ChestnutSticksModel", 159, 1103515245),
  (1206, "ChestnutSticksModel", 237, (-1000002))]
def kl_T : List (Nat × String × Nat × Int64) := [
  (594, "ChestnutSticks", 175, (-9223372036854775806)),
  (603, "ChestnutSticks", 181, 16),
  (607, "ChestnutSticks", 336, 2),
  (649, "ChestnutSticks$Season", 19, 16),
  (867, "ChestnutSticks", 280, 17),
  (868, "ChestnutSticks", 282, 31),
  (1000, "ChestnutSticksModel", 81, 3),
  (1004, "ChestnutSticksModel", 87, 2),
  (1037, "ChestnutSticksModel", 102, 255),
  (1062, "ChestnutSticksModel", 116, 48),
  (1063, "ChestnutSticksModel", 118, 57),
  (1071, "ChestnutSticksModel", 136, 9),
  (1072, "ChestnutSticksModel", 138, 16),
  (1077, "ChestnutSticksModel", 140, 5),
  (1089, "ChestnutSticksModel", 145, 7),
  (1099, "ChestnutSticksModel", 131, 47),
  (1158, "ChestnutSticksModel", 213, 4),
  (1197, "ChestnutSticksModel", 72, (-9223372036854775808)),
  (1235, "ChestnutSticksModel", 250, 12),
  (1251, "ChestnutSticksModel", 259, 29),
  (1260, "ChestnutSticksModel", 268, 6),
  (1281, "ChestnutSticksModel", 276, 20),
  (1290, "ChestnutSticksModel", 287, 9999),
  (1315, "ChestnutSticksModel", 295, 19),
  (1340, "ChestnutSticksModel", 303, 17),
  (1341, "ChestnutSticksModel", 305, 31)]
theorem ki_all : ki_T.all (fun e => decide (lw_tbl[e.1]? = some (Cond.constant e.2.1 e.2.2.1 e.2.2.2))) = true := by decide +kernel
theorem kl_all : kl_T.all (fun e => decide (lw_tbl[e.1]? = some (Cond.constantLong e.2.1 e.2.2.1 e.2.2.2))) = true := by decide +kernel
theorem fl_spec {e : Nat × Nat × Nat × Nat} (h : e ∈ fl_T) : ∃ q, vwCl[e.1]? = some q ∧ e.2.2.1 < q.2.2 ∧ Cond.fieldLink q.1 e.2.1 (q.2.1 e.2.2.1).1 (q.2.1 e.2.2.1).2.1 (q.2.1 e.2.2.1).2.2.1 ∈ lw_tbl := by
  have h1 := List.all_eq_true.mp fl_all e h
  split at h1
  · rename_i q hq
    simp only [Bool.and_eq_true, decide_eq_true_eq] at h1
    exact ⟨q, hq, h1.1, List.mem_of_getElem? h1.2⟩
  · cases h1
theorem ki_spec {p : Nat} {C : String} {i : Nat} {v : Int32} (h : (p, C, i, v) ∈ ki_T) : Cond.constant C i v ∈ lw_tbl := by
  have h1 := List.all_eq_true.mp ki_all _ h
  simp only [decide_eq_true_eq] at h1
  exact List.mem_of_getElem? h1
theorem kl_spec {p : Nat} {C : String} {i : Nat} {v : Int64} (h : (p, C, i, v) ∈ kl_T) : Cond.constantLong C i v ∈ lw_tbl := by
  have h1 := List.all_eq_true.mp kl_all _ h
  simp only [decide_eq_true_eq] at h1
  exact List.mem_of_getElem? h1
end
section
/-! what a table row must keep -/
def i_len : Instr → Nat
  | .iconst _ => 1 | .lconst _ => 1 | .bipush _ => 2 | .sipush _ => 3 | .ldc _ => 2 | .ldc2_w _ => 3 | .getstatic _ => 3
  | .iload _ => 2 | .lload _ => 2 | .aload _ => 2 | .istore _ => 2 | .lstore _ => 2 | .iinc _ _ => 3
  | .goto _ => 3 | .ifCond _ _ => 3 | .if_icmp _ _ => 3 | .getfield _ => 3 | .putfield _ => 3
  | _ => 1
/-- the fields' pool numbers: class, pool number, field -/
def f_ok (own : String) (idx k : Nat) : Bool := match vwCl[k / 100]? with
  | some q => decide (q.1 = own) && fl_T.any (fun e => Nat.beq e.1 (k / 100) && (Nat.beq e.2.1 idx && Nat.beq e.2.2.1 (k % 100)))
  | none => false
theorem f_ok_of {own : String} {idx k : Nat} (h : f_ok own idx k = true) : ∃ q, vwCl[k / 100]? = some q ∧ q.1 = own ∧ k % 100 < q.2.2 ∧ Cond.fieldLink own idx (q.2.1 (k % 100)).1 (q.2.1 (k % 100)).2.1 (q.2.1 (k % 100)).2.2.1 ∈ lw_tbl := by
  unfold f_ok at h
  split at h
  · rename_i q hq
    simp only [Bool.and_eq_true, decide_eq_true_eq] at h
    obtain ⟨h1, h2⟩ := h
    obtain ⟨e, he, h3⟩ := List.any_eq_true.mp h2
    simp only [Bool.and_eq_true] at h3
    have e1 := Nat.eq_of_beq_eq_true h3.1
    have e2 := Nat.eq_of_beq_eq_true h3.2.1
    have e3 := Nat.eq_of_beq_eq_true h3.2.2
    obtain ⟨q', hq', h4, h5⟩ := fl_spec he
    rw [e1] at hq'
    have : q' = q := Option.some.inj (hq'.symm.trans hq)
    subst this
    rw [e2, e3, h1] at h5
    rw [e3] at h4
    exact ⟨q', hq, h1, h4, h5⟩
  · cases h
def ki_ok (own : String) (idx : Nat) (v : Int32) : Bool := ki_T.any (fun e => Nat.beq e.2.2.1 idx && (decide (e.2.1 = own) && decide (e.2.2.2 = v)))
def kl_ok (own : String) (idx : Nat) (v : Int64) : Bool := kl_T.any (fun e => Nat.beq e.2.2.1 idx && (decide (e.2.1 = own) && decide (e.2.2.2 = v)))
theorem ki_ok_of {own : String} {idx : Nat} {v : Int32} (h : ki_ok own idx v = true) : Cond.constant own idx v ∈ lw_tbl := by
  obtain ⟨⟨p, C, i, z⟩, he, h3⟩ := List.any_eq_true.mp h
  simp only [Bool.and_eq_true, decide_eq_true_eq] at h3
  have e1 : i = idx := Nat.eq_of_beq_eq_true h3.1
  obtain ⟨rfl, rfl⟩ := h3.2
  subst e1
  exact ki_spec he
theorem kl_ok_of {own : String} {idx : Nat} {v : Int64} (h : kl_ok own idx v = true) : Cond.constantLong own idx v ∈ lw_tbl := by
  obtain ⟨⟨p, C, i, z⟩, he, h3⟩ := List.any_eq_true.mp h
  simp only [Bool.and_eq_true, decide_eq_true_eq] at h3
  have e1 : i = idx := Nat.eq_of_beq_eq_true h3.1
  obtain ⟨rfl, rfl⟩ := h3.2
  subst e1
  exact kl_spec he
def p_ok (nm : String) (k : Nat) (v : Value) : Bool := match vwCl[k / 100]?, v with
  | some q, .int _ => decide ((q.2.1 (k % 100)).2.2.1 = "I") && (q.2.1 (k % 100)).2.2.2 == false
  | some q, .null => ((q.2.1 (k % 100)).2.2.2 == true) && decide (nm = "<init>") && decide ((q.2.1 (k % 100)).1 = q.1) && (match parseFieldDescriptor (q.2.1 (k % 100)).2.2.1 with | some (.object _) => true | some (.array _) => true | _ => false)
  | _, _ => false
def s_ok (own : String) (idx : Nat) (v : Value) : Bool := match v with
  | .ref k => decide (1000 ≤ k) && decide (k - 1000 < 3) && decide (Cond.fieldLinkNest own idx "ChestnutSticks" (sa_n (k - 1000)) "[I" "ChestnutSticks" ∈ nest_W)
  | _ => false
def x_ok (M : md_T) (pc : Nat) (e : in_T) : Bool := match e.1 with
  | .iconst n => decide (e.2.2.2 = .int (Int32.ofInt n))
  | .bipush n => decide (e.2.2.2 = .int (Int8.ofInt n).toInt32)
  | .sipush n => decide (e.2.2.2 = .int (Int16.ofInt n).toInt32)
  | .lconst n => decide (e.2.2.2 = .long (Int64.ofNat (n : Nat)))
  | .ldc idx => (match e.2.2.2 with | .int v => ki_ok (m_y M).cls idx v | _ => false)
  | .ldc2_w idx => (match e.2.2.2 with | .long v => kl_ok (m_y M).cls idx v | _ => false)
  | .getstatic idx => s_ok (m_y M).cls idx e.2.2.2
  | .iload i => decide (i = e.2.2.1)
  | .iload_n i => decide ((i : Nat) = e.2.2.1)
  | .lload i => decide (i = e.2.2.1)
  | .lload_n i => decide ((i : Nat) = e.2.2.1)
  | .aload i => decide (i = e.2.2.1)
  | .aload_n i => decide ((i : Nat) = e.2.2.1)
  | .istore i => decide (i = e.2.2.1) && decide (e.2.2.1 < m_L M)
  | .istore_n i => decide ((i : Nat) = e.2.2.1) && decide (e.2.2.1 < m_L M)
  | .lstore i => decide (i = e.2.2.1) && decide (e.2.2.1 + 1 < m_L M)
  | .lstore_n i => decide ((i : Nat) = e.2.2.1) && decide (e.2.2.1 + 1 < m_L M)
  | .astore_n i => decide ((i : Nat) = e.2.2.1) && decide (e.2.2.1 < m_L M)
  | .iinc i n => decide (i = e.2.2.1) && decide (e.2.2.1 < m_L M) && decide (e.2.2.2 = .int (Int32.ofInt n))
  | .goto off => decide ((pc : Int) + off = (e.2.2.1 : Int))
  | .ifCond _ off => decide ((pc : Int) + off = (e.2.2.1 : Int))
  | .if_icmp _ off => decide ((pc : Int) + off = (e.2.2.1 : Int))
  | .getfield idx => f_ok (m_y M).cls idx e.2.2.1
  | .putfield idx => f_ok (m_y M).cls idx e.2.2.1 && p_ok (m_y M).name e.2.2.1 e.2.2.2
  | _ => true
def e_ok (M : md_T) (pc : Nat) (e : in_T) : Bool := decide (decode (m_b M) pc = .ok (e.1, e.2.1)) && decide (e.2.1 = i_len e.1) && x_ok M pc e
theorem cl_facts : ∀ (ci : Nat) (q : vw_C), vwCl[ci]? = some q → (∀ w ∈ u_ws q.1 q.2.1 q.2.2, w ∈ good_T) ∧ (∀ a, a < q.2.2 → ∀ b, b < q.2.2 → a ≠ b → (q.2.1 a).2.1 ≠ (q.2.1 b).2.1) ∧ ∃ ty : Nat → FieldType, ∀ k, k < q.2.2 → parseFieldDescriptor (q.2.1 k).2.2.1 = some (ty k)
  | 0, q, h => by cases h; exact ⟨by decide +kernel, nmX0, tyX0, tyX0_ok⟩
  | 1, q, h => by cases h; exact ⟨by decide +kernel, nmX1, tyX1, tyX1_ok⟩
  | 2, q, h => by cases h; exact ⟨by decide +kernel, nmX2, tyX2, tyX2_ok⟩
  | 3, q, h => by cases h; exact ⟨by decide +kernel, nmX3, tyX3, tyX3_ok⟩
  | 4, q, h => by cases h; exact ⟨by decide +kernel, nmX4, tyX4, tyX4_ok⟩
  | 5, q, h => by cases h; exact ⟨by decide +kernel, nmX5, tyX5, tyX5_ok⟩
  | 6, q, h => by cases h; exact ⟨by decide +kernel, nmX6, tyX6, tyX6_ok⟩
  | 7, q, h => by cases h; exact ⟨by decide +kernel, nmX7, tyX7, tyX7_ok⟩
  | 8, q, h => by cases h; exact ⟨by decide +kernel, nmX8, tyX8, tyX8_ok⟩
  | 9, q, h => by cases h; exact ⟨by decide +kernel, nmX9, tyX9, tyX9_ok⟩
  | 10, q, h => by cases h; exact ⟨by decide +kernel, nmX10, tyX10, tyX10_ok⟩
  | 11, q, h => by cases h; exact ⟨by decide +kernel, nmX11, tyX11, tyX11_ok⟩
  | n + 12, q, h => by simp [vwCl] at h
/-! the judgement -/
def cx (G : ac_G) (M : md_T) (p : Program) (R : Room) (s : State) (m : MethodId) (args : Array Value) (meth : Method) (c : Code) : Prop :=
  p.tables.exec = Jvm.exec ∧ c.code = m_b M ∧ c.maxLocals = m_L M ∧ s.vm.findClass (m_y M).cls = some m.cls ∧ (∀ w ∈ good_T, w.before args s = true) ∧ kx G s ∧ m_f M ≤ R.frames ∧ m_l M ≤ R.locals ∧ meth.name = (m_y M).name
def r_in : Option Value → Instr
  | none => .return_
  | some (.long _) => .lreturn
  | some _ => .ireturn
def RW (G : ac_G) (M : md_T) (cb sb : Nat) (pc : Nat) (ls st : List Value) (hp : ac_H) (Q : Option Value → ac_H → Prop) : Prop :=
  ∀ (p : Program) (l : Launch) (e : Env) (R : Room) (s : State) (m : MethodId) (args : Array Value) (below : List Frame) (meth : Method) (c : Code) (H : Heap) (locs : List Loc) (cells slots : Nat) (QQ : State → Prop) (Ls : Array Slot),
    cx G M p R s m args meth c → lr G ls Ls (m_L M) → pic G hp H → va_S (g_A G) s.heap H locs → cells + cb ≤ R.cells → slots + sb ≤ R.slots → s.heap.size + cells = g_B G + hp.length →
    (∀ (r : Option Value) (hp' : ac_H) (H' : Heap) (locs' : List Loc) (Ls' : Array Slot) (pc' : Nat), Q r hp' → pic G hp' H' → va_S (g_A G) s.heap H' locs' → decode (m_b M) pc' = .ok (r_in r, 1) → (∀ a, r ≠ some (.ref a)) → s.heap.size + (cells + cb) = g_B G + hp'.length →
      W p l e R s m args below meth c H' locs' (cells + cb) (slots + sb) QQ (F0 m pc' Ls' r.toList)) →
    W p l e R s m args below meth c H locs cells slots QQ (F0 m pc Ls (st.map (g_v G)))
theorem RW.mono {G : ac_G} {M : md_T} {cb sb pc : Nat} {ls st : List Value} {hp : ac_H} {Q Q' : Option Value → ac_H → Prop} (h : RW G M cb sb pc ls st hp Q) (hq : ∀ r h, Q r h → Q' r h) : RW G M cb sb pc ls st hp Q' :=
  fun p l e R s m args below meth c H locs cells slots QQ Ls hc hl hP hS h1 h2 hz K => h p l e R s m args below meth c H locs cells slots QQ Ls hc hl hP hS h1 h2 hz (fun r hp' H' locs' Ls' pc' hq' => K r hp' H' locs' Ls' pc' (hq r hp' hq'))
theorem pic.put {G : ac_G} {hp : ac_H} {H1 : Heap} {k : Nat} {c : ac_C} {ws' : va_W} (hl : hp.length ≤ 1000) (hw : ws' = (g_w G hp).set k (g_ad G k, g_e G c)) (hP : va_P G.1 vwCl ws' H1) : pic G (hp.set k c) H1 := by
  refine ⟨?_, by rw [List.length_set]; exact hl⟩
  rw [hw, g_w_set] at hP
  exact hP
end
section
set_option maxHeartbeats 4000000 in
set_option maxRecDepth 100000 in
/-- one simple step of the abstract machine is followed by the machine -/
theorem RW_step {G : ac_G} {M : md_T} {cb sb pc pc' : Nat} {ls st ls' st' : List Value} {hp hp' : ac_H} {Q : Option Value → ac_H → Prop} {e : in_T} (hk : e_ok M pc e = true) (h : stp (g_ro G) e pc ls st hp = some (pc', ls', st', hp')) (k : RW G M cb sb pc' ls' st' hp' Q) : RW G M cb sb pc ls st hp Q := by
  intro p l en R s m args below meth c H locs cells slots QQ Ls hc hl hP hS h1 h2 hz K
  obtain ⟨i, len, kk, vv⟩ := e
  obtain ⟨hx, hb, hml, hown, hts, hkx, hfr, hlo, hnm⟩ := id hc
  simp only [e_ok, Bool.and_eq_true, decide_eq_true_eq] at hk
  obtain ⟨⟨hd, hlen⟩, hxk⟩ := hk
  have nx := fun H locs Ls hl hP hS hz => k p l en R s m args below meth c H locs cells slots QQ Ls hc hl hP hS h1 h2 hz K
  have hD := g_D (G := G) hP.2
  have hA : ∀ q, s.heap.size ≤ q → g_A G q := fun q hq => Nat.le_trans hkx.2.2.2.2 hq
  cases i
  all_goals try (have h9 : (none : Option st_T) = some (pc', ls', st', hp') := h; cases h9; done)
  case iconst n =>
    simp only [i_len] at hlen
    subst hlen
    simp only [x_ok, Bool.and_eq_true, decide_eq_true_eq] at hxk
    unfold stp at h
    dsimp only at h
    subst hxk
    cases h
    exact lv_iconst hx hb hd rfl (nx _ _ _ hl hP hS hz)
  case bipush n =>
    simp only [i_len] at hlen
    subst hlen
    simp only [x_ok, Bool.and_eq_true, decide_eq_true_eq] at hxk
    unfold stp at h
    dsimp only at h
    subst hxk
    cases h
    exact lv_bipush hx hb hd rfl (nx _ _ _ hl hP hS hz)
  case sipush n =>
    simp only [i_len] at hlen
    subst hlen
    simp only [x_ok, Bool.and_eq_true, decide_eq_true_eq] at hxk
    unfold stp at h
    dsimp only at h
    subst hxk
    cases h
    exact lv_sipush hx hb hd rfl (nx _ _ _ hl hP hS hz)
  case lconst n =>
    simp only [i_len] at hlen
    subst hlen
    simp only [x_ok, Bool.and_eq_true, decide_eq_true_eq] at hxk
    unfold stp at h
    dsimp only at h
    subst hxk
    cases h
    exact lv_lconst hx hb hd rfl (nx _ _ _ hl hP hS hz)
  case ldc n =>
    simp only [i_len] at hlen
    subst hlen
    simp only [x_ok, Bool.and_eq_true, decide_eq_true_eq] at hxk
    unfold stp at h
    dsimp only at h
    split at hxk
    · cases h
      exact lv_ldc hx hb hown (hts _ (gd (ki_ok_of hxk) rfl)) hd (nx _ _ _ hl hP hS hz)
    · cases hxk
  case ldc2_w n =>
    simp only [i_len] at hlen
    subst hlen
    simp only [x_ok, Bool.and_eq_true, decide_eq_true_eq] at hxk
    unfold stp at h
    dsimp only at h
    split at hxk
    · cases h
      exact lv_ldc2 hx hb hown (hts _ (gd (kl_ok_of hxk) rfl)) hd (nx _ _ _ hl hP hS hz)
    · cases hxk
  case getstatic n =>
    simp only [i_len] at hlen
    subst hlen
    simp only [x_ok, Bool.and_eq_true, decide_eq_true_eq] at hxk
    unfold stp at h
    dsimp only at h
    unfold s_ok at hxk
    split at hxk
    · rename_i j
      simp only [Bool.and_eq_true, decide_eq_true_eq] at hxk
      obtain ⟨⟨q1, q2⟩, q3⟩ := hxk
      cases h
      have hlink := va_Nw.use (A := args) rfl (hkx.2.1 _ q3)
      have hZ := hkx.2.2.2.1 _ q2
      have e1 : g_v G (.ref j) = .ref (g_aS G (j - 1000)) := by simp [g_v, g_ad, Nat.not_lt.mpr q1]
      refine va_getsN hx hb hZ hS hown hlink (fun _ h9 => h9) hd ?_
      rw [← e1]
      exact nx _ _ _ hl hP hS hz
    · cases hxk
  case iload n =>
    simp only [i_len] at hlen
    subst hlen
    simp only [x_ok, Bool.and_eq_true, decide_eq_true_eq] at hxk
    unfold stp at h
    dsimp only at h
    subst hxk
    split at h
    · rename_i hv
      cases h
      exact lv_iload hx hb hd (hl.2.2 _ _ hv (fun z => by cases z)) (nx _ _ _ hl hP hS hz)
    · cases h
  case iload_n n =>
    simp only [i_len] at hlen
    subst hlen
    simp only [x_ok, Bool.and_eq_true, decide_eq_true_eq] at hxk
    unfold stp at h
    dsimp only at h
    split at h
    · rename_i hv
      cases h
      exact lv_iload_n hx hb hd hxk (hl.2.2 _ _ hv (fun z => by cases z)) (nx _ _ _ hl hP hS hz)
    · cases h
  case lload n =>
    simp only [i_len] at hlen
    subst hlen
    simp only [x_ok, Bool.and_eq_true, decide_eq_true_eq] at hxk
    unfold stp at h
    dsimp only at h
    subst hxk
    split at h
    · rename_i hv
      cases h
      exact lv_lload hx hb hd (hl.2.2 _ _ hv (fun z => by cases z)) (nx _ _ _ hl hP hS hz)
    · cases h
  case lload_n n =>
    simp only [i_len] at hlen
    subst hlen
    simp only [x_ok, Bool.and_eq_true, decide_eq_true_eq] at hxk
    unfold stp at h
    dsimp only at h
    split at h
    · rename_i hv
      cases h
      exact lv_lload_n hx hb hd hxk (hl.2.2 _ _ hv (fun z => by cases z)) (nx _ _ _ hl hP hS hz)
    · cases h
  case aload n =>
    simp only [i_len] at hlen
    subst hlen
    simp only [x_ok, Bool.and_eq_true, decide_eq_true_eq] at hxk
    unfold stp at h
    dsimp only at h
    subst hxk
    split at h
    · rename_i hv
      cases h
      exact lv_aload hx hb hd (hl.2.2 _ _ hv (fun z => by cases z)) (nx _ _ _ hl hP hS hz)
    · cases h
  case aload_n n =>
    simp only [i_len] at hlen
    subst hlen
    simp only [x_ok, Bool.and_eq_true, decide_eq_true_eq] at hxk
    unfold stp at h
    dsimp only at h
    split at h
    · rename_i hv
      cases h
      exact lv_aload_n hx hb hd hxk (hl.2.2 _ _ hv (fun z => by cases z)) (nx _ _ _ hl hP hS hz)
    · cases h
  case istore n =>
    simp only [i_len] at hlen
    subst hlen
    simp only [x_ok, Bool.and_eq_true, decide_eq_true_eq] at hxk
    unfold stp at h
    dsimp only at h
    obtain ⟨q1, q2⟩ := hxk
    subst q1
    split at h
    · cases h
      exact lv_istore hx hb hd hl.has q2 rfl (fun Ls2 hl2 => nx _ _ _ (lr.set1 rfl hl2) hP hS hz)
    · cases h
  case lstore n =>
    simp only [i_len] at hlen
    subst hlen
    simp only [x_ok, Bool.and_eq_true, decide_eq_true_eq] at hxk
    unfold stp at h
    dsimp only at h
    obtain ⟨q1, q2⟩ := hxk
    subst q1
    split at h
    · cases h
      exact lv_lstore hx hb hd hl.has q2 rfl (fun Ls2 hl2 => nx _ _ _ (lr.set2 rfl hl2) hP hS hz)
    · cases h
  case istore_n n =>
    simp only [i_len] at hlen
    subst hlen
    simp only [x_ok, Bool.and_eq_true, decide_eq_true_eq] at hxk
    unfold stp at h
    dsimp only at h
    obtain ⟨q1, q2⟩ := hxk
    split at h
    · cases h
      exact lv_istore_n hx hb hd q1 hl.has q2 rfl (fun Ls2 hl2 => nx _ _ _ (lr.set1 rfl hl2) hP hS hz)
    · cases h
  case lstore_n n =>
    simp only [i_len] at hlen
    subst hlen
    simp only [x_ok, Bool.and_eq_true, decide_eq_true_eq] at hxk
    unfold stp at h
    dsimp only at h
    obtain ⟨q1, q2⟩ := hxk
    split at h
    · cases h
      exact lv_lstore_n hx hb hd q1 hl.has q2 rfl (fun Ls2 hl2 => nx _ _ _ (lr.set2 rfl hl2) hP hS hz)
    · cases h
  case astore_n n =>
    simp only [i_len] at hlen
    subst hlen
    simp only [x_ok, Bool.and_eq_true, decide_eq_true_eq] at hxk
    unfold stp at h
    dsimp only at h
    obtain ⟨q1, q2⟩ := hxk
    split at h
    · cases h
      exact lv_astore_n hx hb hd q1 hl.has q2 rfl (fun Ls2 hl2 => nx _ _ _ (lr.set1 rfl hl2) hP hS hz)
    · cases h
  case iinc n z =>
    simp only [i_len] at hlen
    subst hlen
    simp only [x_ok, Bool.and_eq_true, decide_eq_true_eq] at hxk
    unfold stp at h
    dsimp only at h
    obtain ⟨⟨q1, q2⟩, q3⟩ := hxk
    subst q1
    subst q3
    split at h
    · rename_i x cc hv heq
      cases heq
      cases h
      obtain ⟨j, hj⟩ := List.getElem?_of_mem (l_al_mem (G := G) hv (fun z => by cases z))
      exact lv_iinc hx hb hd hl.has hj rfl q2 rfl (fun Ls2 hl2 => nx _ _ _ (lr.set1 rfl hl2) hP hS hz)
    · cases h
  case iadd =>
    simp only [i_len] at hlen
    subst hlen
    clear hxk
    unfold stp at h
    dsimp only at h
    split at h
    · cases h
      exact lv_iadd hx hb hd (nx _ _ _ hl hP hS hz)
    · cases h
  case isub =>
    simp only [i_len] at hlen
    subst hlen
    clear hxk
    unfold stp at h
    dsimp only at h
    split at h
    · cases h
      exact lv_isub hx hb hd (nx _ _ _ hl hP hS hz)
    · cases h
  case imul =>
    simp only [i_len] at hlen
    subst hlen
    clear hxk
    unfold stp at h
    dsimp only at h
    split at h
    · cases h
      exact lv_imul hx hb hd (nx _ _ _ hl hP hS hz)
    · cases h
  case iand =>
    simp only [i_len] at hlen
    subst hlen
    clear hxk
    unfold stp at h
    dsimp only at h
    split at h
    · cases h
      exact lv_iand hx hb hd (nx _ _ _ hl hP hS hz)
    · cases h
  case ior =>
    simp only [i_len] at hlen
    subst hlen
    clear hxk
    unfold stp at h
    dsimp only at h
    split at h
    · cases h
      exact lv_ior hx hb hd (nx _ _ _ hl hP hS hz)
    · cases h
  case ixor =>
    simp only [i_len] at hlen
    subst hlen
    clear hxk
    unfold stp at h
    dsimp only at h
    split at h
    · cases h
      exact lv_ixor hx hb hd (nx _ _ _ hl hP hS hz)
    · cases h
  case ladd =>
    simp only [i_len] at hlen
    subst hlen
    clear hxk
    unfold stp at h
    dsimp only at h
    split at h
    · cases h
      exact lv_ladd hx hb hd (nx _ _ _ hl hP hS hz)
    · cases h
  case lsub =>
    simp only [i_len] at hlen
    subst hlen
    clear hxk
    unfold stp at h
    dsimp only at h
    split at h
    · cases h
      exact lv_lsub hx hb hd (nx _ _ _ hl hP hS hz)
    · cases h
  case lmul =>
    simp only [i_len] at hlen
    subst hlen
    clear hxk
    unfold stp at h
    dsimp only at h
    split at h
    · cases h
      exact lv_lmul hx hb hd (nx _ _ _ hl hP hS hz)
    · cases h
  case ineg =>
    simp only [i_len] at hlen
    subst hlen
    clear hxk
    unfold stp at h
    dsimp only at h
    split at h
    · cases h
      exact lv_ineg hx hb hd (nx _ _ _ hl hP hS hz)
    · cases h
  case ishl =>
    simp only [i_len] at hlen
    subst hlen
    clear hxk
    unfold stp at h
    dsimp only at h
    split at h
    · cases h
      exact lv_ishl hx hb hd (nx _ _ _ hl hP hS hz)
    · cases h
  case iushr =>
    simp only [i_len] at hlen
    subst hlen
    clear hxk
    unfold stp at h
    dsimp only at h
    split at h
    · cases h
      exact lv_iushr hx hb hd rfl (nx _ _ _ hl hP hS hz)
    · cases h
  case idiv =>
    simp only [i_len] at hlen
    subst hlen
    clear hxk
    unfold stp at h
    dsimp only at h
    split at h
    · split at h
      · cases h
      · rename_i hne
        cases h
        exact lv_idiv hx hb hd hne (nx _ _ _ hl hP hS hz)
    · cases h
  case irem =>
    simp only [i_len] at hlen
    subst hlen
    clear hxk
    unfold stp at h
    dsimp only at h
    split at h
    · split at h
      · cases h
      · rename_i hne
        cases h
        exact lv_irem hx hb hd hne (nx _ _ _ hl hP hS hz)
    · cases h
  case ldiv =>
    simp only [i_len] at hlen
    subst hlen
    clear hxk
    unfold stp at h
    dsimp only at h
    split at h
    · split at h
      · cases h
      · rename_i hne
        cases h
        exact lv_ldiv hx hb hd hne (nx _ _ _ hl hP hS hz)
    · cases h
  case lrem =>
    simp only [i_len] at hlen
    subst hlen
    clear hxk
    unfold stp at h
    dsimp only at h
    split at h
    · split at h
      · cases h
      · rename_i hne
        cases h
        exact lv_lrem hx hb hd hne (nx _ _ _ hl hP hS hz)
    · cases h
  case lcmp =>
    simp only [i_len] at hlen
    subst hlen
    clear hxk
    unfold stp at h
    dsimp only at h
    split at h
    · cases h
      exact W.lcmp hx hb hd (nx _ _ _ hl hP hS hz)
    · cases h
  case i2l =>
    simp only [i_len] at hlen
    subst hlen
    clear hxk
    unfold stp at h
    dsimp only at h
    split at h
    · cases h
      exact lv_i2l hx hb hd rfl (nx _ _ _ hl hP hS hz)
    · cases h
  case i2b =>
    simp only [i_len] at hlen
    subst hlen
    clear hxk
    unfold stp at h
    dsimp only at h
    split at h
    · cases h
      exact lv_i2b hx hb hd rfl (nx _ _ _ hl hP hS hz)
    · cases h
  case i2s =>
    simp only [i_len] at hlen
    subst hlen
    clear hxk
    unfold stp at h
    dsimp only at h
    split at h
    · cases h
      exact lv_i2s hx hb hd rfl (nx _ _ _ hl hP hS hz)
    · cases h
  case dup =>
    simp only [i_len] at hlen
    subst hlen
    clear hxk
    unfold stp at h
    dsimp only at h
    split at h
    · cases h
      exact lv_dup hx hb hd rfl (nx _ _ _ hl hP hS hz)
    · cases h
      exact lv_dup hx hb hd rfl (nx _ _ _ hl hP hS hz)
    · cases h
  case dup2 =>
    simp only [i_len] at hlen
    subst hlen
    clear hxk
    unfold stp at h
    dsimp only at h
    split at h
    · cases h
      exact lv_dup2_11 hx hb hd rfl rfl (nx _ _ _ hl hP hS hz)
    · cases h
  case pop =>
    simp only [i_len] at hlen
    subst hlen
    clear hxk
    unfold stp at h
    dsimp only at h
    split at h
    · cases h
      exact lv_pop hx hb hd rfl (nx _ _ _ hl hP hS hz)
    · cases h
  case goto n =>
    simp only [i_len] at hlen
    subst hlen
    simp only [x_ok, Bool.and_eq_true, decide_eq_true_eq] at hxk
    unfold stp at h
    dsimp only at h
    cases h
    exact lv_goto hx hb hd hxk (nx _ _ _ hl hP hS hz)
  case ifCond cnd off =>
    simp only [i_len] at hlen
    subst hlen
    simp only [x_ok, decide_eq_true_eq] at hxk
    cases cnd
    case eq =>
      unfold stp at h
      dsimp only at h
      split at h
      · cases h
        refine lv_if_eq hx hb hd hxk (fun q => ?_) (fun q => ?_)
        · rw [if_pos q] at nx; exact nx _ _ _ hl hP hS hz
        · rw [if_neg q] at nx; exact nx _ _ _ hl hP hS hz
      · cases h
    case ne =>
      unfold stp at h
      dsimp only at h
      split at h
      · cases h
        refine lv_if_ne hx hb hd hxk (fun q => ?_) (fun q => ?_)
        · rw [if_neg q] at nx; exact nx _ _ _ hl hP hS hz
        · rw [if_pos q] at nx; exact nx _ _ _ hl hP hS hz
      · cases h
    case lt =>
      unfold stp at h
      dsimp only at h
      split at h
      · cases h
        refine lv_if_lt hx hb hd hxk (fun q => ?_) (fun q => ?_)
        · rw [if_pos q] at nx; exact nx _ _ _ hl hP hS hz
        · rw [if_neg q] at nx; exact nx _ _ _ hl hP hS hz
      · cases h
    case ge =>
      unfold stp at h
      dsimp only at h
      split at h
      · cases h
        refine lv_if_ge hx hb hd hxk (fun q => ?_) (fun q => ?_)
        · rw [if_pos q] at nx; exact nx _ _ _ hl hP hS hz
        · rw [if_neg q] at nx; exact nx _ _ _ hl hP hS hz
      · cases h
    case gt =>
      unfold stp at h
      dsimp only at h
      split at h
      · cases h
        refine lv_if_gt hx hb hd hxk (fun q => ?_) (fun q => ?_)
        · rw [if_pos q] at nx; exact nx _ _ _ hl hP hS hz
        · rw [if_neg q] at nx; exact nx _ _ _ hl hP hS hz
      · cases h
    case le =>
      unfold stp at h
      dsimp only at h
      split at h
      · cases h
        refine lv_if_le hx hb hd hxk (fun q => ?_) (fun q => ?_)
        · rw [if_pos q] at nx; exact nx _ _ _ hl hP hS hz
        · rw [if_neg q] at nx; exact nx _ _ _ hl hP hS hz
      · cases h
  case if_icmp cnd off =>
    simp only [i_len] at hlen
    subst hlen
    simp only [x_ok, decide_eq_true_eq] at hxk
    cases cnd
    case eq =>
      unfold stp at h
      dsimp only at h
      split at h
      · cases h
        refine lv_icmp_eq hx hb hd hxk (fun q => ?_) (fun q => ?_)
        · rw [if_pos q] at nx; exact nx _ _ _ hl hP hS hz
        · rw [if_neg q] at nx; exact nx _ _ _ hl hP hS hz
      · cases h
    case ne =>
      unfold stp at h
      dsimp only at h
      split at h
      · cases h
        refine lv_icmp_ne hx hb hd hxk (fun q => ?_) (fun q => ?_)
        · rw [if_neg q] at nx; exact nx _ _ _ hl hP hS hz
        · rw [if_pos q] at nx; exact nx _ _ _ hl hP hS hz
      · cases h
    case lt =>
      unfold stp at h
      dsimp only at h
      split at h
      · cases h
        refine lv_icmp_lt hx hb hd hxk (fun q => ?_) (fun q => ?_)
        · rw [if_pos q] at nx; exact nx _ _ _ hl hP hS hz
        · rw [if_neg q] at nx; exact nx _ _ _ hl hP hS hz
      · cases h
    case ge =>
      unfold stp at h
      dsimp only at h
      split at h
      · cases h
        refine lv_icmp_ge hx hb hd hxk (fun q => ?_) (fun q => ?_)
        · rw [if_pos q] at nx; exact nx _ _ _ hl hP hS hz
        · rw [if_neg q] at nx; exact nx _ _ _ hl hP hS hz
      · cases h
    case gt =>
      unfold stp at h
      dsimp only at h
      split at h
      · cases h
        refine lv_icmp_gt hx hb hd hxk (fun q => ?_) (fun q => ?_)
        · rw [if_pos q] at nx; exact nx _ _ _ hl hP hS hz
        · rw [if_neg q] at nx; exact nx _ _ _ hl hP hS hz
      · cases h
    case le =>
      unfold stp at h
      dsimp only at h
      split at h
      · cases h
        refine lv_icmp_le hx hb hd hxk (fun q => ?_) (fun q => ?_)
        · rw [if_pos q] at nx; exact nx _ _ _ hl hP hS hz
        · rw [if_neg q] at nx; exact nx _ _ _ hl hP hS hz
      · cases h
  case getfield n =>
    simp only [i_len] at hlen
    subst hlen
    simp only [x_ok] at hxk
    obtain ⟨q, hq, q1, q2, q3⟩ := f_ok_of hxk
    · skip
      unfold stp at h
      dsimp only at h
      split at h
      · rename_i a r
        split at h
        · rename_i ob ho
          cases hb2 : Nat.beq ob.1 (kk / 100) with
          | false => rw [hb2] at h; cases h
          | true =>
            rw [hb2] at h
            dsimp only [cond_true] at h
            split at h
            · rename_i v hv
              cases h
              obtain ⟨C, T, N⟩ := q
              have e1 : ob.1 = kk / 100 := Nat.eq_of_beq_eq_true hb2
              have hq' : vwCl[ob.1]? = some (C, T, N) := by rw [e1]; exact hq
              have hw : (g_w G hp)[a]? = some (g_ad G a, .inr (ob.1, ob.2.map (g_v G))) := g_w_get ho
              have q1 : C = (m_y M).cls := q1
              exact va_get (D := G.1) (ci := ob.1) (v := g_v G v) (C := C) (T := T) (N := N) hx hb hts (cl_facts _ _ hq).1 hown hkx.1 hP.1 a hw hq' (kk % 100) q2 (hts _ (gd q3 rfl)) (fun _ h9 => h9) (by rw [List.getElem?_map, hv]; rfl) hd (nx _ _ _ hl hP hS hz)
            · cases h
        · cases h
      · cases h
  case putfield n =>
    simp only [i_len] at hlen
    subst hlen
    simp only [x_ok, p_ok, Bool.and_eq_true] at hxk
    obtain ⟨hf, hp9⟩ := hxk
    obtain ⟨q, hq, q1, q2, q3⟩ := f_ok_of hf
    · skip
      unfold stp at h
      dsimp only at h
      split at h
      · rename_i v a r
        split at h
        · rename_i ob ho
          cases hb2 : Nat.beq ob.1 (kk / 100) with
          | false => rw [hb2] at h; cases h
          | true =>
            rw [hb2] at h
            dsimp only [cond_true] at h
            obtain ⟨C, T, N⟩ := q
            have e1 : ob.1 = kk / 100 := Nat.eq_of_beq_eq_true hb2
            have hq' : vwCl[ob.1]? = some (C, T, N) := by rw [e1]; exact hq
            have hw : (g_w G hp)[a]? = some (g_ad G a, .inr (ob.1, ob.2.map (g_v G))) := g_w_get ho
            have q1 : C = (m_y M).cls := q1
            obtain ⟨hin, hnm2, ty, hty⟩ := cl_facts _ _ hq
            split at h
            · rename_i v0 hv0
              have hlt : kk % 100 < (ob.2.map (g_v G)).length := by rw [List.length_map]; exact (List.getElem?_eq_some_iff.mp hv0).1
              split at h
              · rename_i z x
                cases h
                simp only [hq, Bool.and_eq_true, decide_eq_true_eq, beq_iff_eq] at hp9
                refine va_put (D := G.1) (ci := ob.1) (v := .int x) (ty := .int) (C := C) (T := T) (N := N) hx hb hts hin ty hty hnm2 hown hkx.1 hP.1 hD hS a hw hq' (kk % 100) q2 (hts _ (gd q3 rfl)) (fun _ h9 => h9) hp9.2 (by rw [hp9.1]; decide +kernel) rfl rfl hlt hd (fun H1 locs1 hP1 hD1 hS1 => ?_)
                refine nx _ _ _ hl (pic.put hP.2 ?_ hP1) hS1 (by rw [List.length_set]; exact hz)
                simp only [g_e, List.map_set, g_v]
              · rename_i x
                cases h
                simp only [hq, Bool.and_eq_true, decide_eq_true_eq, beq_iff_eq] at hp9
                obtain ⟨⟨⟨z1, z2⟩, z3⟩, z4⟩ := hp9
                obtain ⟨ty0, hd0, hn0, hf0⟩ : ∃ ty0, parseFieldDescriptor (T (kk % 100)).2.2.1 = some ty0 ∧ narrow ty0 (.ref (g_ad G x)) = .ref (g_ad G x) ∧ fits ty0 (.ref (g_ad G x)) = true := by
                  split at z4
                  · rename_i hh; exact ⟨_, hh, rfl, rfl⟩
                  · rename_i hh; exact ⟨_, hh, rfl, rfl⟩
                  · cases z4
                refine va_putF (D := G.1) (ci := ob.1) (v := .ref (g_ad G x)) (ty := ty0) (C := C) (T := T) (N := N) hx hb hts hin ty hty hnm2 hown hkx.1 hP.1 hD hS a hw hq' (kk % 100) q2 (hts _ (gd q3 rfl)) (fun _ h9 => h9) z1 (hnm.trans z2) (z3.trans q1) hd0 hn0 hf0 hlt hd (fun H1 locs1 hP1 hD1 hS1 => ?_)
                refine nx _ _ _ hl (pic.put hP.2 ?_ hP1) hS1 (by rw [List.length_set]; exact hz)
                simp only [g_e, List.map_set, g_v]
              · cases h
            · cases h
        · cases h
      · cases h
  case iaload =>
    simp only [i_len] at hlen
    subst hlen
    unfold stp at h
    dsimp only at h
    split at h
    · rename_i i a r
      split at h
      · rename_i n f ha
        split at h
        · rename_i hi
          cases h
          unfold a_arr at ha
          cases hb2 : Nat.blt a 1000 with
          | true =>
            rw [hb2] at ha
            dsimp only [cond_true] at ha
            split at ha
            · rename_i x ho
              cases ha
              exact va_iald hx hb hkx.1 hP.1 a 0 (g_w_get ho) rfl (inb_vp hi) hd (nx _ _ _ hl hP hS hz)
            · cases ha
          | false =>
            rw [hb2] at ha
            dsimp only [cond_false] at ha
            split at ha
            · rename_i x ho
              cases ha
              have hX := hkx.2.2.1 _ _ ho
              have e1 : g_ad G a = g_aS G (a - 1000) := by
                have : ¬ a < 1000 := fun q => by rw [Nat.blt_eq.mpr q] at hb2; cases hb2
                simp [g_ad, this]
              show W p l en R s m args below meth c H locs cells slots QQ (F0 m pc Ls (.int i :: .ref (g_ad G a) :: r.map (g_v G)))
              rw [e1]
              exact va_ti hx hb hX hS (inb_vp hi) rfl hd (nx _ _ _ hl hP hS hz)
            · cases ha
        · cases h
      · cases h
    · cases h
  case arraylength =>
    simp only [i_len] at hlen
    subst hlen
    unfold stp at h
    dsimp only at h
    split at h
    · rename_i a r
      split at h
      · rename_i bo n f ha
        cases h
        unfold a_arr at ha
        cases hb2 : Nat.blt a 1000 with
        | true =>
          rw [hb2] at ha
          dsimp only [cond_true] at ha
          split at ha
          · rename_i x ho
            cases ha
            cases bo with
            | false => exact va_alen hx hb hkx.1 hP.1 a 0 (g_w_get ho) rfl rfl hd (nx _ _ _ hl hP hS hz)
            | true => exact va_alen hx hb hkx.1 hP.1 a 1 (g_w_get ho) rfl rfl hd (nx _ _ _ hl hP hS hz)
          · cases ha
        | false =>
          rw [hb2] at ha
          dsimp only [cond_false] at ha
          split at ha
          · rename_i x ho
            cases ha
            have hX := hkx.2.2.1 _ _ ho
            have e1 : g_ad G a = g_aS G (a - 1000) := by
              have : ¬ a < 1000 := fun q => by rw [Nat.blt_eq.mpr q] at hb2; cases hb2
              simp [g_ad, this]
            show W p l en R s m args below meth c H locs cells slots QQ (F0 m pc Ls (.ref (g_ad G a) :: r.map (g_v G)))
            rw [e1]
            exact va_tlen hx hb hX hS rfl hd (nx _ _ _ hl hP hS hz)
          · cases ha
      · cases h
    · cases h
  case baload =>
    simp only [i_len] at hlen
    subst hlen
    unfold stp at h
    dsimp only at h
    split at h
    · rename_i i a r
      split at h
      · rename_i n f ho
        split at h
        · rename_i hi
          cases h
          exact va_zald hx hb hkx.1 hP.1 a 1 (g_w_get ho) rfl (inb_vp hi) hd (nx _ _ _ hl hP hS hz)
        · cases h
      · cases h
    · cases h
  case iastore =>
    simp only [i_len] at hlen
    subst hlen
    unfold stp at h
    dsimp only at h
    split at h
    · rename_i x i a r
      split at h
      · rename_i n f ho
        split at h
        · rename_i hi
          cases h
          refine va_iast hx hb hkx.1 hP.1 hD hS a 0 (g_w_get ho) rfl (inb_vp hi) hd (fun H1 locs1 hP1 hD1 hS1 => ?_)
          exact nx _ _ _ hl (pic.put hP.2 rfl hP1) hS1 (by rw [List.length_set]; exact hz)
        · cases h
      · cases h
    · cases h
  case bastore =>
    simp only [i_len] at hlen
    subst hlen
    unfold stp at h
    dsimp only at h
    split at h
    · rename_i x i a r
      split at h
      · rename_i n f ho
        split at h
        · rename_i hi
          cases h
          refine va_zast hx hb hkx.1 hP.1 hD hS a 1 (g_w_get ho) rfl (inb_vp hi) hd (fun H1 locs1 hP1 hD1 hS1 => ?_)
          exact nx _ _ _ hl (pic.put hP.2 rfl hP1) hS1 (by rw [List.length_set]; exact hz)
        · cases h
      · cases h
    · cases h
end
section
/-! segments of simple steps -/
def n_pc (e : in_T) (pc : Nat) : Nat := match e.1 with
  | .goto _ => e.2.2.1
  | _ => pc + e.2.1
def stpL (ro : ac_R) : List in_T → Nat → List Value → List Value → ac_H → Option st_T
  | [], pc, ls, st, hp => some (pc, ls, st, hp)
  | [e], pc, ls, st, hp => stp ro e pc ls st hp
  | e :: e2 :: r, pc, ls, st, hp => match stp ro e pc ls st hp with
    | some q => bif Nat.beq q.1 (n_pc e pc) then stpL ro (e2 :: r) (n_pc e pc) q.2.1 q.2.2.1 q.2.2.2 else none
    | none => none
def e_okL (M : md_T) : Nat → List in_T → Bool
  | _, [] => true
  | pc, e :: r => e_ok M pc e && e_okL M (n_pc e pc) r
theorem RW_seg {G : ac_G} {M : md_T} {cb sb : Nat} {Q : Option Value → ac_H → Prop} : ∀ (sg : List in_T) {pc pc' : Nat} {ls st ls' st' : List Value} {hp hp' : ac_H}, e_okL M pc sg = true → stpL (g_ro G) sg pc ls st hp = some (pc', ls', st', hp') → RW G M cb sb pc' ls' st' hp' Q → RW G M cb sb pc ls st hp Q
  | [], pc, pc', ls, st, ls', st', hp, hp', hk, h, k => by cases h; exact k
  | [e], pc, pc', ls, st, ls', st', hp, hp', hk, h, k => by
    simp only [e_okL, Bool.and_eq_true] at hk
    exact RW_step hk.1 h k
  | e :: e2 :: r, pc, pc', ls, st, ls', st', hp, hp', hk, h, k => by
    unfold e_okL at hk
    simp only [Bool.and_eq_true] at hk
    unfold stpL at h
    split at h
    · rename_i q hq
      cases hb : Nat.beq q.1 (n_pc e pc) with
      | false => rw [hb] at h; cases h
      | true =>
        rw [hb] at h
        have e1 : q.1 = n_pc e pc := Nat.eq_of_beq_eq_true hb
        obtain ⟨q1, q2, q3, q4⟩ := q
        have e1 : q1 = n_pc e pc := e1
        subst e1
        exact RW_step hk.1 hq (RW_seg (e2 :: r) hk.2 h k)
    · cases h
/-! the return -/
theorem RW_ret {G : ac_G} {M : md_T} {pc : Nat} {ls : List Value} {hp : ac_H} {Q : Option Value → ac_H → Prop} (r : Option Value) (hr : ∀ a, r ≠ some (.ref a)) (hd : decode (m_b M) pc = .ok (r_in r, 1)) (hq : Q r hp) : RW G M 0 0 pc ls r.toList hp Q := by
  intro p l en R s m args below meth c H locs cells slots QQ Ls hc hl hP hS h1 h2 hz K
  have e1 : r.toList.map (g_v G) = r.toList := by
    cases r with
    | none => rfl
    | some v => cases v <;> first | rfl | exact absurd rfl (hr _)
  rw [e1]
  exact K r hp H locs Ls pc hq hP hS hd hr hz
/-! switches -/
theorem RW_tabIn {G : ac_G} {M : md_T} {cb sb pc : Nat} {ls r : List Value} {hp : ac_H} {Q : Option Value → ac_H → Prop} {dflt lo hi off : Int} {offs : Array Int} {len tgt : Nat} {x : Int32} (hd : decode (m_b M) pc = .ok (.tableswitch dflt lo hi offs, len)) (h3 : ¬ x.toInt < lo) (h4 : ¬ hi < x.toInt) (ho : offs[(x.toInt - lo).toNat]? = some off) (ht : (pc : Int) + off = (tgt : Int)) (k : RW G M cb sb tgt ls r hp Q) : RW G M cb sb pc ls (.int x :: r) hp Q := by
  intro p l en R s m args below meth c H locs cells slots QQ Ls hc hl hP hS h1 h2 hz K
  exact lv_tableIn hc.1 hc.2.1 hd h3 h4 ho ht (k p l en R s m args below meth c H locs cells slots QQ Ls hc hl hP hS h1 h2 hz K)
theorem RW_tabOut {G : ac_G} {M : md_T} {cb sb pc : Nat} {ls r : List Value} {hp : ac_H} {Q : Option Value → ac_H → Prop} {dflt lo hi : Int} {offs : Array Int} {len tgt : Nat} {x : Int32} (hd : decode (m_b M) pc = .ok (.tableswitch dflt lo hi offs, len)) (h3 : x.toInt < lo ∨ hi < x.toInt) (ht : (pc : Int) + dflt = (tgt : Int)) (k : RW G M cb sb tgt ls r hp Q) : RW G M cb sb pc ls (.int x :: r) hp Q := by
  intro p l en R s m args below meth c H locs cells slots QQ Ls hc hl hP hS h1 h2 hz K
  exact lv_tableOut hc.1 hc.2.1 hd h3 ht (k p l en R s m args below meth c H locs cells slots QQ Ls hc hl hP hS h1 h2 hz K)
theorem RW_look {G : ac_G} {M : md_T} {cb sb pc : Nat} {ls r : List Value} {hp : ac_H} {Q : Option Value → ac_H → Prop} {dflt off : Int} {ps : Array (Int × Int)} {len tgt : Nat} {x : Int32} (hd : decode (m_b M) pc = .ok (.lookupswitch dflt ps, len)) (hs : (ps.toList.zip (ps.toList.drop 1)).all (fun (a, next) => a.1 < next.1) = true) (ho : Op.lookupswitch.offset ps.toList dflt x.toInt = off) (ht : (pc : Int) + off = (tgt : Int)) (k : RW G M cb sb tgt ls r hp Q) : RW G M cb sb pc ls (.int x :: r) hp Q := by
  intro p l en R s m args below meth c H locs cells slots QQ Ls hc hl hP hS h1 h2 hz K
  exact lv_lookup hc.1 hc.2.1 hd hs ho ht (k p l en R s m args below meth c H locs cells slots QQ Ls hc hl hP hS h1 h2 hz K)
/-! the heap's size -/
theorem sz_of {G : ac_G} {p : Program} {l : Launch} {e : Env} {R : Room} {s : State} {m : MethodId} {args : Array Value} {below : List Frame} {meth : Method} {c : Code} {H : Heap} {locs : List Loc} {cells slots : Nat} {T : State} {hp : ac_H}
    (hT : T.heap = H) (X : Stand p l e R s m args below meth c T locs cells slots) (hkx : kx G s) (hP : pic G hp H) (hS : va_S (g_A G) s.heap H locs) (hz : s.heap.size + cells = g_B G + hp.length) : H.size = g_B G + hp.length := by
  have h1 : H.size ≤ s.heap.size + cells := by rw [← hT]; exact X.heapSize
  have h2 : g_B G + hp.length ≤ H.size := by
    by_cases h0 : hp.length = 0
    · have := hkx.2.2.2.2
      have := hS.1
      omega
    · have hk : hp.length - 1 < hp.length := by omega
      obtain ⟨c0, hc0⟩ : ∃ c0, hp[hp.length - 1]? = some c0 := ⟨hp[hp.length - 1], by simp [hk]⟩
      have h3 := (hP.1 _ _ (g_w_get hc0)).lt
      have h4 : hp.length - 1 < 1000 := by have := hP.2; omega
      simp only [g_ad, h4, if_true] at h3
      omega
  omega
/-! new cells -/
theorem W.szi {G : ac_G} {p : Program} {l : Launch} {e : Env} {R : Room} {s : State} {m : MethodId} {args : Array Value} {below : List Frame} {meth : Method} {c : Code} {H : Heap} {locs : List Loc} {cells slots : Nat} {QQ : State → Prop} {g : JFrame} {hp : ac_H}
    (hkx : kx G s) (hP : pic G hp H) (hS : va_S (g_A G) s.heap H locs) (hz : s.heap.size + cells = g_B G + hp.length) (k : H.size = g_B G + hp.length → W p l e R s m args below meth c H locs cells slots QQ g) : W p l e R s m args below meth c H locs cells slots QQ g :=
  fun T hT X => k (sz_of hT X hkx hP hS hz) T hT X
theorem RW_newa {G : ac_G} {M : md_T} {cb sb pc : Nat} {ls st : List Value} {hp : ac_H} {Q : Option Value → ac_H → Prop} {n : Int32} {N : Nat} (bo : Bool) (hd : decode (m_b M) pc = .ok (.newarray (if bo = true then .boolean else .int), 2)) (hn : ¬ n < 0) (hN : n.toNatClampNeg = N) (hN2 : N ≤ 100000) (hlen : hp.length < 1000) (hw : Cond.arrayClass .int ∈ lw_tbl ∧ Cond.arrayClass .boolean ∈ lw_tbl)
    (k : RW G M cb sb (pc + 2) ls (.ref hp.length :: st) (hp ++ [.inl (bo, N, fun _ => 0)]) Q) : RW G M (1 + cb) (N + sb) pc ls (.int n :: st) hp Q := by
  intro p l en R s m args below meth c H locs cells slots QQ Ls hc hl hP hS h1 h2 hz K
  obtain ⟨hx, hb, hml, hown, hts, hkx, hfr, hlo, hnm⟩ := id hc
  refine W.szi hkx hP hS hz (fun hsz => ?_)
  have key : ∀ (at1 : ArrayType) (cA : ClassId), decode (m_b M) pc = .ok (.newarray at1, 2) → (Cond.arrayClass (newarray.typeOf at1)).before args s = true → s.vm.findClass ("[" ++ (newarray.typeOf at1).toString) = some cA → componentBytes (newarray.typeOf at1) ≤ 4 → defaultValue (newarray.typeOf at1) = .int 0 → cA = (if bo = true then G.2.1.2 else G.2.1.1) →
      W p l en R s m args below meth c H locs cells slots QQ (F0 m pc Ls (.int n :: st.map (g_v G))) := by
    intro at1 cA hd hcl hcA hcb hdf hbo
    refine va_newaK hx hb hcl rfl hd rfl hn hN (Nat.le_trans (Nat.mul_le_mul_left _ hcb) (by omega)) (by omega) (by omega) hsz (fun H1 cA1 e1 z1 o1 hAr hNm => ?_)
    have hcc : cA1 = cA := Option.some.inj (hNm.symm.trans hcA)
    have hsz1 : s.heap.size ≤ g_B G + hp.length := by rw [← hsz]; exact hS.1
    have hP1 : pic G (hp ++ [.inl (bo, N, fun _ => 0)]) H1 := by
      refine ⟨?_, by simp; omega⟩
      rw [← g_w_push]
      refine va_P.app (fun j x hx => ?_) (fun j x hx => ?_)
      · refine (hP.1 j x hx).kept (o1 x.1 ?_)
        have := (hP.1 j x hx).lt
        omega
      · have hz1 : j < 1 := (List.getElem?_eq_some_iff.mp hx).1
        rw [show j = 0 by omega] at hx
        cases hx
        show H1[g_ad G hp.length]? = some (vp_cell _ _)
        simp only [g_ad, hlen, if_true]
        rw [e1, vp_cell_i, hdf, hcc, hbo]
    have hS1 : va_S (g_A G) s.heap H1 locs := ⟨by omega, fun q g1 g2 => (o1 q (by omega)).trans (hS.2.1 q g1 g2), hS.2.2⟩
    have e2 : (.ref (g_B G + hp.length) :: st.map (g_v G) : List Value) = (.ref hp.length :: st : List Value).map (g_v G) := by simp [g_v, g_ad, hlen]
    have := k p l en R s m args below meth c H1 locs (cells + 1) (slots + N) QQ Ls hc hl hP1 hS1 (by omega) (by omega) (by simp; omega) (fun r hp' H' locs' Ls' pc' q1 q2 q3 q4 q5 q6 => by
      have K1 := K r hp' H' locs' Ls' pc' q1 q2 q3 q4 q5 (by omega)
      rw [show cells + 1 + cb = cells + (1 + cb) by omega, show slots + N + sb = slots + (N + sb) by omega]
      exact K1)
    rw [← e2] at this
    exact this
  cases bo with
  | true => exact key .boolean G.2.1.2 hd (hts _ (gd hw.2 rfl)) (hkx.1.2 1 (G.2.1.2, .boolean) rfl).2 (by decide) rfl rfl
  | false => exact key .int G.2.1.1 hd (hts _ (gd hw.1 rfl)) (hkx.1.2 0 (G.2.1.1, .int) rfl).2 (by decide) rfl rfl
theorem RW_new {G : ac_G} {M : md_T} {cb sb pc idx ci : Nat} {ls st : List Value} {hp : ac_H} {Q : Option Value → ac_H → Prop} {C : String} {T : u_T} {N : Nat} (fs : List Value) (ty : Nat → FieldType) (hd : decode (m_b M) pc = .ok (.new idx, 3)) (hci : vwCl[ci]? = some (C, T, N)) (hty : ∀ k, k < N → parseFieldDescriptor (T k).2.2.1 = some (ty k)) (hfs : ∀ j, j < N → defaultValue (ty j) = vp_V fs j) (hfv : fs.map (g_v G) = fs) (hlen : hp.length < 1000)
    (hw : Cond.classLink (m_y M).cls idx C ∈ lw_tbl ∧ Cond.instantiable C N ∈ lw_tbl ∧ Cond.initialized C ∈ lw_tbl)
    (k : RW G M cb sb (pc + 3) ls (.ref hp.length :: st) (hp ++ [.inr (ci, fs)]) Q) : RW G M (1 + cb) (N + sb) pc ls st hp Q := by
  intro p l en R s m args below meth c H locs cells slots QQ Ls hc hl hP hS h1 h2 hz K
  obtain ⟨hx, hb, hml, hown, hts, hkx, hfr, hlo, hnm⟩ := id hc
  refine W.szi hkx hP hS hz (fun hsz => ?_)
  have hKn := hkx.1.1 ci _ hci
  refine W.newcK hx hb hown (hts _ (gd hw.1 rfl)) (hts _ (gd hw.2.1 rfl)) (hts _ (gd hw.2.2 rfl)) rfl hd (by omega) (by omega) hKn.2.1 hsz fun H1 kC hkC e1 z1 o1 => ?_
  have hP1 : pic G (hp ++ [.inr (ci, fs)]) H1 := by
    refine ⟨?_, by simp; omega⟩
    rw [← g_w_push]
    refine va_P.app (fun j x hx => ?_) (fun j x hx => ?_)
    · refine (hP.1 j x hx).kept (o1 x.1 ?_)
      have := (hP.1 j x hx).lt
      omega
    · have hz1 : j < 1 := (List.getElem?_eq_some_iff.mp hx).1
      rw [show j = 0 by omega] at hx
      cases hx
      refine ⟨_, hci, ?_⟩
      have e3 : g_ad G hp.length = g_B G + hp.length := by simp [g_ad, hlen]
      show t_OB (g_ad G hp.length) _ _ _ _ (vp_V (fs.map (g_v G)))
      rw [e3, hfv]
      exact (u_born ty hts (cl_facts _ _ hci).1 hKn hkC e1 hty).to hfs
  have hS1 : va_S (g_A G) s.heap H1 locs := ⟨by have := hS.1; omega, fun q g1 g2 => (o1 q (by have := hS.1; omega)).trans (hS.2.1 q g1 g2), hS.2.2⟩
  have e2 : (.ref (g_B G + hp.length) :: st.map (g_v G) : List Value) = (.ref hp.length :: st : List Value).map (g_v G) := by simp [g_v, g_ad, hlen]
  have := k p l en R s m args below meth c H1 locs (cells + 1) (slots + N) QQ Ls hc hl hP1 hS1 (by omega) (by omega) (by simp; omega) (fun r hp' H' locs' Ls' pc' q1 q2 q3 q4 q5 q6 => by
    have K1 := K r hp' H' locs' Ls' pc' q1 q2 q3 q4 q5 (by omega)
    rw [show cells + 1 + cb = cells + (1 + cb) by omega, show slots + N + sb = slots + (N + sb) by omega]
    exact K1)
  rw [← e2] at this
  exact this
theorem RW_obj {G : ac_G} {M : md_T} {cb sb pc idx a : Nat} {ls st : List Value} {hp : ac_H} {Q : Option Value → ac_H → Prop} (hd : decode (m_b M) pc = .ok (.invokespecial idx, 3)) (hw : Cond.methodLink (m_y M).cls idx Lib.objectInit ∈ lw_tbl ∧ Cond.instanceMethod Lib.objectInit ∈ lw_tbl ∧ Cond.code Lib.objectInit ⟨#[0xb1]⟩ 1 none ∈ lw_tbl) (hf : 1 ≤ m_f M) (hlo2 : (st.map Value.category).sum + 12 ≤ m_l M)
    (k : RW G M cb sb (pc + 3) ls st hp Q) : RW G M cb sb pc ls (.ref a :: st) hp Q := by
  intro p l en R s m args below meth c H locs cells slots QQ Ls hc hl hP hS h1 h2 hz K
  obtain ⟨hx, hb, hml, hown, hts, hkx, hfr, hlo, hnm⟩ := id hc
  have e1 : ((st.map (g_v G)).map fun v => v.category).sum = (st.map Value.category).sum := by
    rw [List.map_map]
    congr 1
    exact List.map_congr_left (fun v _ => g_v_cat G v)
  refine W.objInit hx hb hown (hts _ (gd hw.1 rfl)) (hts _ (gd hw.2.1 rfl)) (hts _ (gd hw.2.2 rfl)) rfl (by rw [hml]; exact hl.1) rfl hd (by omega) ?_ (k p l en R s m args below meth c H locs cells slots QQ Ls hc hl hP hS h1 h2 hz K)
  rw [e1]
  have : (F0 m pc Ls (Value.ref (g_ad G a) :: st.map (g_v G))).monitorRoom = 0 := rfl
  show 2 * (F0 m pc Ls (Value.ref (g_ad G a) :: st.map (g_v G))).monitorRoom + _ + 12 ≤ _
  omega
end
section
/-! calls -/
def l_en : List Value → List Value
  | [] => []
  | .long x :: r => .long x :: .null :: l_en r
  | .double x :: r => .double x :: .null :: l_en r
  | v :: r => v :: l_en r
def l_ent (av : List Value) (n : Nat) : List Value := l_en av ++ List.replicate (n - (l_en av).length) .null
theorem l_en_cons (v : Value) (r : List Value) : l_en (v :: r) = if v.category = 2 then v :: .null :: l_en r else v :: l_en r := by
  cases v <;> simp [l_en, Value.category]
theorem l_en_len (G : ac_G) : ∀ av : List Value, (lg_sl (av.map (g_v G))).length = (l_en av).length
  | [] => rfl
  | v :: r => by
    have ih := l_en_len G r
    rw [l_en_cons]
    by_cases h : v.category = 2
    · have h2 : (g_v G v).category = 2 := by rw [g_v_cat]; exact h
      simp [lg_sl, h, h2] at ih ⊢
      exact ih
    · have h2 : ¬ (g_v G v).category = 2 := by rw [g_v_cat]; exact h
      simp [lg_sl, h, h2] at ih ⊢
      exact ih
theorem l_en_mem (G : ac_G) : ∀ (av : List Value) (o k : Nat) (w : Value), (l_en av)[k]? = some w → w ≠ .null → (o + k, g_v G w) ∈ lv_args o (av.map (g_v G))
  | [], o, k, w, h, hw => by simp [l_en] at h
  | v :: r, o, k, w, h, hw => by
    rw [l_en_cons] at h
    rw [List.map_cons]
    unfold lv_args
    rw [g_v_cat]
    by_cases hc : v.category = 2
    · rw [if_pos hc] at h ⊢
      match k, h with
      | 0, h => cases h; exact List.mem_cons_self
      | 1, h => cases h; exact absurd rfl hw
      | j + 2, h =>
        have ih := l_en_mem G r (o + 2) j w h hw
        rw [show o + (j + 2) = o + 2 + j by omega]
        exact List.mem_cons_of_mem _ ih
    · rw [if_neg hc] at h ⊢
      match k, h with
      | 0, h => cases h; exact List.mem_cons_self
      | j + 1, h =>
        have ih := l_en_mem G r (o + 1) j w h hw
        rw [show o + (j + 1) = o + 1 + j by omega]
        exact List.mem_cons_of_mem _ ih
theorem lr_entry {G : ac_G} {av : List Value} {n : Nat} (h : (l_en av).length ≤ n) : lr G (l_ent av n) ((lg_sl (av.map (g_v G)) ++ List.replicate (n - (lg_sl (av.map (g_v G))).length) Slot.unset).toArray) n := by
  have h1 := lv_entry (av.map (g_v G)) (n := n) (by rw [l_en_len]; exact h)
  refine ⟨h1.1, h1.2.1, fun k w hk hw => ?_⟩
  unfold l_ent at hk
  by_cases hl : k < (l_en av).length
  · rw [List.getElem?_append_left hl] at hk
    have := h1.2.2 _ (l_en_mem G av 0 k w hk hw)
    rw [Nat.zero_add] at this
    exact this
  · rw [List.getElem?_append_right (by omega)] at hk
    have := List.eq_of_mem_replicate (List.mem_of_getElem? hk)
    exact absurd this hw
/-! which words a method's contract has: its own code, and all good words of the tables -/
def m_ws (M : md_T) : List Cond := .code (m_y M) (m_b M) (m_L M) (m_r M) :: good_T
def m_rm (M : md_T) (cb sb : Nat) : Room := { frames := m_f M, cells := cb, slots := sb, locals := m_l M }
theorem nest_use {s : State} {args : Array Value} {w : Cond} (hw : w ∈ nest_W) (h : va_Nw w s) : w.before args s = true := by
  have h2 := (List.mem_filter.mp hw).2
  cases w <;> first | (simp at h2; done) | exact va_Nw.use rfl h
def m_ok (M : md_T) : Prop := Cond.code (m_y M) (m_b M) (m_L M) (m_r M) ∈ lw_tbl ∧ plainFor (m_y M) = true ∧ Cond.initialized (m_y M).cls ∈ lw_tbl ∧ ((m_y M).cls ≠ "java/lang/invoke/MethodHandle" ∧ (m_y M).cls ≠ "java/lang/invoke/VarHandle")
theorem m_good {M : md_T} (h : m_ok M) : GoodIn good_T (m_ws M) := by
  intro w hw
  rcases List.mem_cons.mp hw with rfl | hw
  · exact ⟨gd h.1 rfl, Or.inl rfl⟩
  · exact ⟨hw, good_of_word (List.mem_filter.mp hw).2⟩
def r_n : Option FieldType → Option Value → Option Value
  | some .boolean, some (.int v) => some (.int (vp_nar .boolean v))
  | _, r => r
/-- a boolean answer is cut to its lowest bit -/
theorem W.bret {p : Program} {l : Launch} {e : Env} {R : Room} {s : State} {m : MethodId} {args : Array Value} {below : List Frame} {meth : Method} {c : Code} {H : Heap} {locs : List Loc} {cells slots : Nat} {cc : ByteArray} {Qc : Array Value → State → Outcome → State → Prop} {free : Addr → Prop} {v : Int32} (hexec : p.tables.exec = Jvm.exec) (hb : c.code = cc) (hr : meth.sig.returnType = some .boolean) (hlocks : meth.locks = false)
    (hq : ∀ t : State, t.heap = H → s.WarmedH t.vm → Qc args s (.returned (some (.int (vp_nar .boolean v)))) t) (hf : ∀ q ∈ locs, free q.base)
    {pc : Nat} {ls : Array Slot} (hdg : decode cc pc = .ok (.ireturn, 1)) : W p l e R s m args below meth c H locs cells slots (MQ below Qc args s cells slots free) (F0 m pc ls [.int v]) := by
  have hn : narrow .boolean (.int v) = .int (vp_nar .boolean v) := rfl
  generalize vp_nar .boolean v = z at hn hq
  intro T hT X
  obtain ⟨fs, hret, hrun, hended, hW, hframe⟩ := X.leave (v := some (.int z)) (fun h => by rw [hr] at h; cases h)
  have hmeth' : T.vm.method? m = some meth := X.method'
  refine ⟨T.setFrames fs, ?_, .returned (some (.int z)), hrun, hended, hq _ hT hW, locs, ⟨⟨_, rfl⟩, hW, hframe⟩, hf⟩
  jvm_step X.here [X.here.top, hexec, hb, hdg, hmeth', hr, hn]
  (try refine ⟨rfl, ?_⟩); (try refine ⟨rfl, ?_⟩)
  first | (intro acts; rw [hret _ acts rfl rfl rfl]) | rw [hret _ _ rfl rfl rfl]
  exact Steps.refl _
def c_Pc (G : ac_G) (av : List Value) (hp : ac_H) : Array Value → State → Prop := va_Pc (av.map (g_v G)) (fun U => kx G U ∧ pic G hp U.heap ∧ U.heap.size = g_B G + hp.length)
def c_Qc (G : ac_G) (M : md_T) (Q : Option Value → ac_H → Prop) : Array Value → State → Outcome → State → Prop := fun _ st oc t => ∃ (r : Option Value) (hp' : ac_H), oc = .returned (r_n (m_r M) r) ∧ (∀ a, r ≠ some (.ref a)) ∧ Q r hp' ∧ pic G hp' t.heap ∧ va_F (g_A G) st t ∧ t.heap.size = g_B G + hp'.length
/-- what a method answers fits its return type -/
def r_fit (M : md_T) (Q : Option Value → ac_H → Prop) : Prop := ∀ r hp, Q r hp → match m_r M, r with
  | none, none => True
  | some .int, some (.int _) => True
  | some .boolean, some (.int _) => True
  | some .long, some (.long _) => True
  | _, _ => False
theorem Met.ofWF {l : Launch} {y : MethodName} {ws ws' : List Cond} {rm : Room} {Pc : Array Value → State → Prop} {Qc : Array Value → State → Outcome → State → Prop} {mc ms : Nat} {free : Addr → Prop} {cc : ByteArray} {maxL : Nat} {ret : Option FieldType}
    (hy : plainFor y = true) (hw : ws = Cond.code y cc maxL ret :: ws')
    (body : ∀ p e s m args below meth c s₁, BodyLoose p l y (headSpec ws rm) cc maxL ret e s m args below meth c s₁ → c.maxLocals = maxL → Pc args s →
      W p l e (headSpec ws rm).room s m args below meth c s.heap [] 0 0 (MQ below Qc args s mc ms free) (entryFrame m args maxL)) : Met l y ws rm Pc Qc mc ms free := by
  refine MetFree.of_bodySF (code := cc) (maxLocals := maxL) (ret := ret) hy ?_ ?_
  · intro args s m h hn
    obtain ⟨meth, c, h1, h2, h3, h4, h5, h6, -, -⟩ := Cond.code_spec hn (atoms_spec (ws := ws) h _ (by rw [hw]; exact List.mem_cons_self))
    exact ⟨meth, c, h1, h2, h3, h4, h5, h6⟩
  · intro p e s m args below meth c s₁ B hml hP _
    have hh0 : s₁.heap = s.heap := by rw [B.state]; rfl
    obtain ⟨t, a1, o, b1, b2, b3⟩ := body p e s m args below meth c s₁ B hml hP s₁ hh0 (Stand.of_body B)
    exact ⟨t, o, a1, b1, b2, ⟨b3.1, b3.2⟩⟩
theorem met_of {l : Launch} {G : ac_G} {M : md_T} {cb sb : Nat} {av : List Value} {hp : ac_H} {Q : Option Value → ac_H → Prop} (hok : m_ok M) (hav : (l_en av).length ≤ m_L M) (hfit : r_fit M Q) (hR : RW G M cb sb 0 (l_ent av (m_L M)) [] hp Q) :
    Met l (m_y M) (m_ws M) (m_rm M cb sb) (c_Pc G av hp) (c_Qc G M Q) cb sb (g_A G) := by
  refine Met.ofWF (cc := m_b M) (maxL := m_L M) (ret := m_r M) hok.2.1 rfl ?_
  intro p e s m args below meth c s₁ B hml hv
  obtain ⟨rfl, hkx, hP, hsz⟩ := hv
  have hx := B.exec
  have hb := B.bytes
  have hr := B.returns
  have hts0 := atoms_spec (ws := m_ws M) B.pre
  have hown : s.vm.findClass (m_y M).cls = some m.cls := findClass_of_methodNamed B.named
  have hlocks := B.notSynchronized
  have hin : meth.name = (m_y M).name := (name_of_methodNamed B.named B.method).1
  have hts : ∀ w ∈ good_T, w.before (av.map (g_v G)).toArray s = true := fun w hw => hts0 w (List.mem_cons_of_mem _ hw)
  rw [lg_entry_eq]
  refine hR p l e (headSpec (m_ws M) (m_rm M cb sb)).room s m _ below meth c s.heap [] 0 0 _ _ ⟨hx, hb, hml, hown, hts, hkx, Nat.le_refl _, Nat.le_refl _, hin⟩ (lr_entry hav) hP va_S.rf (by show 0 + cb ≤ cb; omega) (by show 0 + sb ≤ sb; omega) (by rw [hsz]; omega) ?_
  intro r hp' H' locs' Ls' pc' hq hP' hS' hd hnr hz'
  have hf := hfit r hp' hq
  have e1 : 0 + cb = cb := Nat.zero_add _
  have e2 : 0 + sb = sb := Nat.zero_add _
  rw [e1, e2]
  rw [e1] at hz'
  refine W.szi hkx hP' hS' hz' (fun hsz' => ?_)
  have fin : ∀ t : State, t.heap = H' → s.WarmedH t.vm → ∀ r', r' = r_n (m_r M) r → c_Qc G M Q (av.map (g_v G)).toArray s (.returned r') t := fun t ht hW r' hr' => ⟨r, hp', by rw [hr'], hnr, hq, by rw [ht]; exact hP', hS'.F ht, by rw [ht]; exact hsz'⟩
  split at hf
  · rename_i h1
    exact W.vret hx hb (by rw [hr, h1]) (fun t ht hW => fin t ht hW _ (by rw [h1]; rfl)) hS'.2.2 hd
  · rename_i h1
    exact W.iret hx hb (by rw [hr, h1]) (fun t ht hW => fin t ht hW _ (by rw [h1]; rfl)) hS'.2.2 hd
  · rename_i h1
    exact W.bret hx hb (by rw [hr, h1]) hlocks (fun t ht hW => fin t ht hW _ (by rw [h1]; rfl)) hS'.2.2 hd
  · rename_i h1
    exact W.lret hx hb (by rw [hr, h1]) (fun t ht hW => fin t ht hW _ (by rw [h1]; rfl)) hS'.2.2 hd
  · exact hf.elim
/-! behind a call -/
theorem px_cont {G : ac_G} {M M' : md_T} {cb sb cb1 sb1 pc : Nat} {ls rest st0 : List Value} {hp : ac_H} {Q Q' : Option Value → ac_H → Prop} {a : Array Value}
    {p : Program} {l : Launch} {e : Env} {R : Room} {s : State} {m : MethodId} {args : Array Value} {below : List Frame} {meth : Method} {c : Code} {H : Heap} {locs : List Loc} {cells slots : Nat} {QQ : State → Prop} {Ls : Array Slot}
    (hr : va_Run p l e R s m args below meth c H locs cells slots cb1 sb1 (F0 m pc Ls st0) (rest.map (g_v G)) (c_Qc G M' Q' a) (g_A G))
    (hc : cx G M p R s m args meth c) (hl : lr G ls Ls (m_L M)) (hS : va_S (g_A G) s.heap H locs) (h1 : cells + (cb1 + cb) ≤ R.cells) (h2 : slots + (sb1 + sb) ≤ R.slots) (hz : s.heap.size + cells = g_B G + hp.length) (hlen : ∀ r hp', Q' r hp' → hp'.length = hp.length + cb1)
    (K : ∀ (r : Option Value) (hp' : ac_H) (H' : Heap) (locs' : List Loc) (Ls' : Array Slot) (pc' : Nat), Q r hp' → pic G hp' H' → va_S (g_A G) s.heap H' locs' → decode (m_b M) pc' = .ok (r_in r, 1) → (∀ a, r ≠ some (.ref a)) → s.heap.size + (cells + (cb1 + cb)) = g_B G + hp'.length →
      W p l e R s m args below meth c H' locs' (cells + (cb1 + cb)) (slots + (sb1 + sb)) QQ (F0 m pc' Ls' r.toList))
    (k : ∀ r hp', Q' r hp' → RW G M cb sb (pc + 3) ls ((r_n (m_r M') r).toList ++ rest) hp' Q) : W p l e R s m args below meth c H locs cells slots QQ (F0 m pc Ls st0) := by
  intro T hT X
  obtain ⟨v, st₀, t, T', L, h0, X', hL, e1, e2, ⟨r, hp', hv, hnr, hq, hP', hF, hsz'⟩, st⟩ := hr T hT X
  cases hv
  obtain ⟨hz1, hk⟩ := hF
  rw [h0] at hz1 hk
  have hS' : va_S (g_A G) s.heap T'.heap (locs ++ L) := ⟨by rw [e1]; exact Nat.le_trans hS.1 hz1, fun q g1 g2 => by rw [e1, hk q (Nat.lt_of_lt_of_le g1 hS.1) g2]; exact hS.2.1 q g1 g2, fun q hq => by
    rcases List.mem_append.mp hq with h | h
    · exact hS.2.2 q h
    · exact hL q h⟩
  have hl9 := hlen r hp' hq
  have e3 : ((r_n (m_r M') r).toList ++ rest).map (g_v G) = (r_n (m_r M') r).toList ++ rest.map (g_v G) := by
    rw [List.map_append]
    congr 1
    have : ∀ a, r_n (m_r M') r ≠ some (.ref a) := by
      intro a
      unfold r_n
      split
      · intro q; cases q
      · exact hnr a
    cases hh : r_n (m_r M') r with
    | none => rfl
    | some v => cases v <;> first | rfl | exact absurd hh (this _)
  have := k r hp' hq p l e R s m args below meth c T'.heap (locs ++ L) (cells + cb1) (slots + sb1) QQ Ls hc hl (by rw [e1]; exact hP') hS' (by omega) (by omega) (by omega) (fun r2 hp2 H2 locs2 Ls2 pc2 q1 q2 q3 q4 q5 q6 => by
    have K1 := K r2 hp2 H2 locs2 Ls2 pc2 q1 q2 q3 q4 q5 (by omega)
    rw [show cells + cb1 + cb = cells + (cb1 + cb) by omega, show slots + sb1 + sb = slots + (sb1 + sb) by omega]
    exact K1)
  rw [e3] at this
  obtain ⟨t2, a1, b1⟩ := this T' rfl X'
  exact ⟨t2, st t2 a1, b1⟩
theorem c_blind {G : ac_G} {av : List Value} {hp : ac_H} : FrameBlind (c_Pc G av hp) := fun a U g mk q => ⟨q.1, q.2.1.calling g mk a, q.2.2⟩
theorem c_pre {G : ac_G} {s : State} {H : Heap} {locs : List Loc} {av : List Value} {hp : ac_H} (hkx : kx G s) (hP : pic G hp H) (hS : va_S (g_A G) s.heap H locs) (hsz : H.size = g_B G + hp.length) : ∀ U : State, U.heap = H → s.WarmedH U.vm → c_Pc G av hp (av.map (g_v G)).toArray U :=
  fun U hU hW => ⟨rfl, hkx.next hS hU hW, by rw [hU]; exact hP, by rw [hU]; exact hsz⟩
def c_room (M M' : md_T) (n : Nat) : Bool := Nat.ble (m_f M' + 1) (m_f M) && Nat.ble (8 + (m_L M' + 11) + m_l M') (m_l M) && decide ((parseMethodDescriptor (m_y M').desc).map (fun d => d.parameters.length) = some n)
abbrev c_lk (M M' : md_T) (idx n : Nat) : Prop := Cond.methodLink (m_y M).cls idx (m_y M') ∈ lw_tbl ∧ c_room M M' n = true
abbrev c_lkN (M M' : md_T) (idx n : Nat) : Prop := Cond.methodLinkNest (m_y M).cls idx (m_y M') "ChestnutSticks" ∈ nest_W ∧ c_room M M' n = true
theorem callB' {M M' : md_T} {idx n cb sb : Nat} {R : Room} {s : State} {args : Array Value} (hok : m_ok M') (h : c_lk M M' idx n) (hts : ∀ w ∈ good_T, w.before args s = true) (hf : m_f M ≤ R.frames) (hlo : m_l M ≤ R.locals) :
    CallB R s args (m_y M).cls idx (m_y M') (m_b M') (m_L M') (m_r M') (m_ws M') (m_rm M' cb sb) cb sb n := by
  obtain ⟨h1, h⟩ := h
  simp only [c_room, Bool.and_eq_true, decide_eq_true_eq] at h
  obtain ⟨⟨h2, h3⟩, h4⟩ := h
  have h2 := Nat.le_of_ble_eq_true h2
  have h3 := Nat.le_of_ble_eq_true h3
  exact callB_of n hts (m_good hok) rfl rfl rfl (hts _ (gd hok.2.2.1 rfl)) (hts _ (gd h1 rfl)) ⟨hok.2.2.2.1, hok.2.2.2.2, h4⟩ ⟨Nat.le_trans h2 hf, Nat.le_trans h3 hlo⟩
theorem callN' {M M' : md_T} {idx n cb sb : Nat} {R : Room} {s : State} {args : Array Value} {G : ac_G} (hok : m_ok M') (h : c_lkN M M' idx n) (hts : ∀ w ∈ good_T, w.before args s = true) (hkx : kx G s) (hf : m_f M ≤ R.frames) (hlo : m_l M ≤ R.locals) :
    va_CN R s args (m_y M).cls idx (m_y M') "ChestnutSticks" (m_b M') (m_L M') (m_r M') (m_ws M') (m_rm M' cb sb) cb sb n := by
  obtain ⟨h1, h⟩ := h
  simp only [c_room, Bool.and_eq_true, decide_eq_true_eq] at h
  obtain ⟨⟨h2, h3⟩, h4⟩ := h
  have h2 := Nat.le_of_ble_eq_true h2
  have h3 := Nat.le_of_ble_eq_true h3
  exact va_cnB n hts (m_good hok) rfl rfl rfl (hkx.2.1 _ h1) (hts _ (gd hok.2.2.1 rfl)) ⟨hok.2.2.2.1, hok.2.2.2.2, h4⟩ ⟨Nat.le_trans h2 hf, Nat.le_trans h3 hlo⟩
theorem cat_sum (G : ac_G) (rest : List Value) : ((rest.map (g_v G)).map fun v => v.category).sum = (rest.map Value.category).sum := by
  rw [List.map_map]
  congr 1
  exact List.map_congr_left (fun v _ => g_v_cat G v)
theorem RW_callV {G : ac_G} {M M' : md_T} {cb sb cb1 sb1 pc idx a ci : Nat} {ls rest As fs : List Value} {hp : ac_H} {Q Q' : Option Value → ac_H → Prop} {q : vw_C} (hd : decode (m_b M) pc = .ok (.invokevirtual idx, 3)) (hok : m_ok M') (hV : Cond.instanceMethod (m_y M') ∈ lw_tbl ∧ Cond.selects (m_y M').cls (m_y M') (m_y M') ∈ lw_tbl) (hlk : c_lk M M' idx As.length)
    (ho : hp[a]? = some (.inr (ci, fs))) (hq : vwCl[ci]? = some q) (hqc : q.1 = (m_y M').cls) (hw : (rest.map Value.category).sum ≤ 8) (hav : (l_en (.ref a :: As)).length ≤ m_L M') (hfit : r_fit M' Q') (hlen : ∀ r hp', Q' r hp' → hp'.length = hp.length + cb1)
    (hR : RW G M' cb1 sb1 0 (l_ent (.ref a :: As) (m_L M')) [] hp Q') (k : ∀ r hp', Q' r hp' → RW G M cb sb (pc + 3) ls ((r_n (m_r M') r).toList ++ rest) hp' Q) : RW G M (cb1 + cb) (sb1 + sb) pc ls (As.reverse ++ .ref a :: rest) hp Q := by
  intro p l en R s m args below meth c H locs cells slots QQ Ls hc hl hP hS h1 h2 hz K
  obtain ⟨hx, hb, hml, hown, hts, hkx, hfr, hlo, hnm⟩ := id hc
  refine W.szi hkx hP hS hz (fun hsz => ?_)
  have hM := met_of (l := l) hok hav hfit hR
  have e1 : (As.reverse ++ .ref a :: rest).map (g_v G) = (As.map (g_v G)).reverse ++ .ref (g_ad G a) :: rest.map (g_v G) := by simp [List.map_reverse, g_v]
  rw [e1]
  have hrec := va_recv (q0 := a) hkx.1 hP.1 hq (g_w_get ho)
  rw [hqc] at hrec
  refine px_cont (va_runV (C := (m_y M').cls) (b := g_ad G a) (As := As.map (g_v G)) (rest := rest.map (g_v G)) (Ts := good_T) ⟨hx, hb, hml, hown, hts⟩ hM ⟨callB' hok hlk hts hfr hlo, hts _ (gd hV.1 rfl), hts _ (gd hV.2 rfl)⟩ ⟨c_blind, hrec, c_pre hkx hP hS hsz⟩ rfl (by rw [List.length_map]) hl.1 rfl ?_ hd ⟨by omega, by omega⟩) hc hl hS h1 h2 hz hlen K k
  rw [cat_sum]
  have : (F0 m pc Ls ((As.map (g_v G)).reverse ++ .ref (g_ad G a) :: rest.map (g_v G))).monitorRoom = 0 := rfl
  omega
theorem RW_callS {G : ac_G} {M M' : md_T} {cb sb cb1 sb1 pc idx : Nat} {ls rest As : List Value} {hp : ac_H} {Q Q' : Option Value → ac_H → Prop} (hd : decode (m_b M) pc = .ok (.invokestatic idx, 3)) (hok : m_ok M') (hV : Cond.static (m_y M') ∈ lw_tbl) (hlk : c_lk M M' idx As.length)
    (hw : (rest.map Value.category).sum ≤ 8) (hav : (l_en As).length ≤ m_L M') (hfit : r_fit M' Q') (hlen : ∀ r hp', Q' r hp' → hp'.length = hp.length + cb1)
    (hR : RW G M' cb1 sb1 0 (l_ent As (m_L M')) [] hp Q') (k : ∀ r hp', Q' r hp' → RW G M cb sb (pc + 3) ls ((r_n (m_r M') r).toList ++ rest) hp' Q) : RW G M (cb1 + cb) (sb1 + sb) pc ls (As.reverse ++ rest) hp Q := by
  intro p l en R s m args below meth c H locs cells slots QQ Ls hc hl hP hS h1 h2 hz K
  obtain ⟨hx, hb, hml, hown, hts, hkx, hfr, hlo, hnm⟩ := id hc
  refine W.szi hkx hP hS hz (fun hsz => ?_)
  have hM := met_of (l := l) hok hav hfit hR
  have e1 : (As.reverse ++ rest).map (g_v G) = (As.map (g_v G)).reverse ++ rest.map (g_v G) := by simp [List.map_reverse]
  rw [e1]
  refine px_cont (va_runS (As := As.map (g_v G)) (rest := rest.map (g_v G)) (Ts := good_T) ⟨hx, hb, hml, hown, hts⟩ hM ⟨callB' hok hlk hts hfr hlo, hts _ (gd hV rfl)⟩ ⟨c_blind, c_pre hkx hP hS hsz⟩ rfl (by rw [List.length_map]) hl.1 rfl ?_ hd ⟨by omega, by omega⟩) hc hl hS h1 h2 hz hlen K k
  rw [cat_sum]
  have : (F0 m pc Ls ((As.map (g_v G)).reverse ++ rest.map (g_v G))).monitorRoom = 0 := rfl
  omega
theorem RW_callSN {G : ac_G} {M M' : md_T} {cb sb cb1 sb1 pc idx : Nat} {ls rest As : List Value} {hp : ac_H} {Q Q' : Option Value → ac_H → Prop} (hd : decode (m_b M) pc = .ok (.invokestatic idx, 3)) (hok : m_ok M') (hV : Cond.static (m_y M') ∈ lw_tbl) (hlk : c_lkN M M' idx As.length)
    (hw : (rest.map Value.category).sum ≤ 8) (hav : (l_en As).length ≤ m_L M') (hfit : r_fit M' Q') (hlen : ∀ r hp', Q' r hp' → hp'.length = hp.length + cb1)
    (hR : RW G M' cb1 sb1 0 (l_ent As (m_L M')) [] hp Q') (k : ∀ r hp', Q' r hp' → RW G M cb sb (pc + 3) ls ((r_n (m_r M') r).toList ++ rest) hp' Q) : RW G M (cb1 + cb) (sb1 + sb) pc ls (As.reverse ++ rest) hp Q := by
  intro p l en R s m args below meth c H locs cells slots QQ Ls hc hl hP hS h1 h2 hz K
  obtain ⟨hx, hb, hml, hown, hts, hkx, hfr, hlo, hnm⟩ := id hc
  refine W.szi hkx hP hS hz (fun hsz => ?_)
  have hM := met_of (l := l) hok hav hfit hR
  have e1 : (As.reverse ++ rest).map (g_v G) = (As.map (g_v G)).reverse ++ rest.map (g_v G) := by simp [List.map_reverse]
  rw [e1]
  refine px_cont (va_runSN (As := As.map (g_v G)) (rest := rest.map (g_v G)) (Ts := good_T) ⟨hx, hb, hml, hown, hts⟩ hM ⟨callN' hok hlk hts hkx hfr hlo, hts _ (gd hV rfl), trivial⟩ ⟨c_blind, c_pre hkx hP hS hsz⟩ rfl (by rw [List.length_map]) hl.1 rfl ?_ hd ⟨by omega, by omega⟩) hc hl hS h1 h2 hz hlen K k
  rw [cat_sum]
  have : (F0 m pc Ls ((As.map (g_v G)).reverse ++ rest.map (g_v G))).monitorRoom = 0 := rfl
  omega
theorem RW_callI {G : ac_G} {M M' : md_T} {cb sb cb1 sb1 pc idx a : Nat} {ls rest As : List Value} {hp : ac_H} {Q Q' : Option Value → ac_H → Prop} (hd : decode (m_b M) pc = .ok (.invokespecial idx, 3)) (hok : m_ok M') (hrn : m_r M' = none) (hV : (m_y M').name = "<init>" ∧ Cond.instanceMethod (m_y M') ∈ lw_tbl) (hlk : c_lk M M' idx As.length)
    (hw : (rest.map Value.category).sum ≤ 8) (hav : (l_en (.ref a :: As)).length ≤ m_L M') (hfit : r_fit M' Q') (hlen : ∀ r hp', Q' r hp' → hp'.length = hp.length + cb1)
    (hR : RW G M' cb1 sb1 0 (l_ent (.ref a :: As) (m_L M')) [] hp Q') (k : ∀ r hp', Q' r hp' → RW G M cb sb (pc + 3) ls ((r_n (m_r M') r).toList ++ rest) hp' Q) : RW G M (cb1 + cb) (sb1 + sb) pc ls (As.reverse ++ .ref a :: rest) hp Q := by
  intro p l en R s m args below meth c H locs cells slots QQ Ls hc hl hP hS h1 h2 hz K
  obtain ⟨hx, hb, hml, hown, hts, hkx, hfr, hlo, hnm⟩ := id hc
  refine W.szi hkx hP hS hz (fun hsz => ?_)
  have hM := met_of (l := l) hok hav hfit hR
  have e1 : (As.reverse ++ .ref a :: rest).map (g_v G) = (As.map (g_v G)).reverse ++ .ref (g_ad G a) :: rest.map (g_v G) := by simp [List.map_reverse, g_v]
  rw [e1]
  have hcb := callB' (cb := cb1) (sb := sb1) hok hlk hts hfr hlo
  rw [hrn] at hcb
  refine px_cont (va_runI (b := g_ad G a) (As := As.map (g_v G)) (rest := rest.map (g_v G)) (Ts := good_T) ⟨hx, hb, hml, hown, hts⟩ hM ⟨hcb, hV.1, hts _ (gd hV.2 rfl)⟩ ⟨c_blind, c_pre hkx hP hS hsz⟩ rfl (by rw [List.length_map]) hl.1 rfl ?_ hd ⟨by omega, by omega⟩) hc hl hS h1 h2 hz hlen K k
  rw [cat_sum]
  have : (F0 m pc Ls ((As.map (g_v G)).reverse ++ .ref (g_ad G a) :: rest.map (g_v G))).monitorRoom = 0 := rfl
  omega
theorem RW_callIN {G : ac_G} {M M' : md_T} {cb sb cb1 sb1 pc idx a : Nat} {ls rest As : List Value} {hp : ac_H} {Q Q' : Option Value → ac_H → Prop} (hd : decode (m_b M) pc = .ok (.invokespecial idx, 3)) (hok : m_ok M') (hrn : m_r M' = none) (hV : (m_y M').name = "<init>" ∧ Cond.instanceMethod (m_y M') ∈ lw_tbl) (hlk : c_lkN M M' idx As.length)
    (hw : (rest.map Value.category).sum ≤ 8) (hav : (l_en (.ref a :: As)).length ≤ m_L M') (hfit : r_fit M' Q') (hlen : ∀ r hp', Q' r hp' → hp'.length = hp.length + cb1)
    (hR : RW G M' cb1 sb1 0 (l_ent (.ref a :: As) (m_L M')) [] hp Q') (k : ∀ r hp', Q' r hp' → RW G M cb sb (pc + 3) ls ((r_n (m_r M') r).toList ++ rest) hp' Q) : RW G M (cb1 + cb) (sb1 + sb) pc ls (As.reverse ++ .ref a :: rest) hp Q := by
  intro p l en R s m args below meth c H locs cells slots QQ Ls hc hl hP hS h1 h2 hz K
  obtain ⟨hx, hb, hml, hown, hts, hkx, hfr, hlo, hnm⟩ := id hc
  refine W.szi hkx hP hS hz (fun hsz => ?_)
  have hM := met_of (l := l) hok hav hfit hR
  have e1 : (As.reverse ++ .ref a :: rest).map (g_v G) = (As.map (g_v G)).reverse ++ .ref (g_ad G a) :: rest.map (g_v G) := by simp [List.map_reverse, g_v]
  rw [e1]
  have hcb := callN' (cb := cb1) (sb := sb1) hok hlk hts hkx hfr hlo
  rw [hrn] at hcb
  refine px_cont (va_runIN (b := g_ad G a) (As := As.map (g_v G)) (rest := rest.map (g_v G)) (Ts := good_T) ⟨hx, hb, hml, hown, hts⟩ hM ⟨hcb, hV.1, hts _ (gd hV.2 rfl)⟩ ⟨c_blind, c_pre hkx hP hS hsz⟩ rfl (by rw [List.length_map]) hl.1 rfl ?_ hd ⟨by omega, by omega⟩) hc hl hS h1 h2 hz hlen K k
  rw [cat_sum]
  have : (F0 m pc Ls ((As.map (g_v G)).reverse ++ .ref (g_ad G a) :: rest.map (g_v G))).monitorRoom = 0 := rfl
  omega
end
section
/-! the cells of the class and of the reference, by the order in which they are made; their contents as numbers -/
abbrev aT : Type := Nat → Nat → Int32
def upA (a : aT) (c i : Nat) (v : Int32) : aT := fun k => bif Nat.beq k c then upd (a k) i v else a k
def ix (i : Int32) : Nat := i.toNatClampNeg
abbrev sh_T : Type := (Bool × Nat) ⊕ (Nat × List (Option Nat))
def shp : List sh_T := [
  .inr (10, [some 1, some 4, some 6, some 8, some 10, some 14, some 19, some 21, some 24, some 27]),
  .inr (9, [some 2, some 3, none, none]),
  .inl (false, 53),
  .inl (false, 48),
  .inr (6, [some 5]),
  .inl (false, 12),
  .inr (2, [some 7, none]),
  .inl (false, 6),
  .inr (0, [some 9]),
  .inl (false, 4),
  .inr (8, [some 11, some 12, some 13, none]),
  .inl (false, 20),
  .inl (false, 20),
  .inl (false, 20),
  .inr (1, [some 1, some 4, some 6, some 8, some 10, some 15, some 16, some 17, some 18, none, none, none, none, none]),
  .inl (false, 48),
  .inl (false, 4),
  .inl (false, 4),
  .inl (false, 20),
  .inr (3, [some 1, some 20]),
  .inl (false, 30),
  .inr (7, [some 22, some 23, none]),
  .inl (false, 3),
  .inl (false, 3),
  .inr (5, [some 25, some 26, none]),
  .inl (false, 8),
  .inl (false, 8),
  .inr (4, [some 28, some 29, some 30, none]),
  .inl (false, 4),
  .inl (false, 4),
  .inl (false, 240),
  .inr (11, [some 32, some 33, some 34, some 35, none, some 36, none, none, some 37, some 38, none, none, some 39, some 40, some 41, some 42, none, some 43, none, some 44, some 45, some 46, some 47, some 48, none, none, none, none, none, none, some 49, none, some 50]),
  .inl (false, 4),
  .inl (false, 4),
  .inl (false, 240),
  .inl (false, 60),
  .inl (false, 53),
  .inl (true, 48),
  .inl (false, 48),
  .inl (false, 4),
  .inl (false, 4),
  .inl (false, 4),
  .inl (false, 6),
  .inl (false, 4),
  .inl (false, 60),
  .inl (true, 48),
  .inl (false, 4),
  .inl (false, 4),
  .inl (false, 20),
  .inl (false, 6),
  .inl (false, 16)]
def fdOf (a : aT) (c k : Nat) (f : Option Nat) : Value := match f with
  | some r => .ref r
  | none => .int (a c k)
def cellOf (a : aT) (c : Nat) (s : sh_T) : ac_C := match s with
  | .inl q => .inl (q.1, q.2, a c)
  | .inr q => .inr (q.1, q.2.mapIdx (fdOf a c))
theorem hp_ex : ∃ f : aT → ac_H, ∀ a, f a = shp.mapIdx (cellOf a) := ⟨_, fun _ => rfl⟩
noncomputable def hpOf : aT → ac_H := Classical.choose hp_ex
theorem hpOf_eq (a : aT) : hpOf a = shp.mapIdx (cellOf a) := Classical.choose_spec hp_ex a
theorem hp_get {a : aT} {c : Nat} {s : sh_T} (h : shp[c]? = some s) : (hpOf a)[c]? = some (cellOf a c s) := by simp [hpOf_eq, List.getElem?_mapIdx, h]
theorem upA_ne {a : aT} {c i : Nat} {v : Int32} {k : Nat} (h : k ≠ c) : upA a c i v k = a k := by
  unfold upA
  cases hb : Nat.beq k c with
  | true => exact absurd (Nat.eq_of_beq_eq_true hb) h
  | false => rfl
theorem upA_eq {a : aT} {c i : Nat} {v : Int32} : upA a c i v c = upd (a c) i v := by
  unfold upA
  rw [show Nat.beq c c = true from Nat.beq_refl c]
  rfl
theorem hp_set {a : aT} {c i : Nat} {v : Int32} {s : sh_T} (h : shp[c]? = some s) : hpOf (upA a c i v) = (hpOf a).set c (cellOf (upA a c i v) c s) := by
  apply List.ext_getElem?
  intro j
  by_cases hj : c = j
  · subst hj
    rw [hp_get h]
    rw [List.getElem?_set_self]
    have := (List.getElem?_eq_some_iff.mp (hp_get (a := a) h)).1
    exact this
  · rw [List.getElem?_set_ne hj]
    simp only [hpOf_eq, List.getElem?_mapIdx]
    congr 1
    funext s'
    have e1 : upA a c i v j = a j := upA_ne (fun q => hj q.symm)
    unfold cellOf
    cases s' with
    | inl q => simp only [e1]
    | inr q =>
      have e2 : fdOf (upA a c i v) j = fdOf a j := by
        funext k f
        unfold fdOf
        rw [e1]
      simp only [e2]
abbrev sa_T : Type := Nat × List Value × List Value × aT
def noh (e : in_T) : Bool := match e.1 with
  | .getfield _ | .putfield _ | .iaload | .baload | .iastore | .bastore | .arraylength => false
  | _ => true
noncomputable def stpA (ro : ac_R) (e : in_T) (pc : Nat) (ls st : List Value) (a : aT) : Option sa_T :=
  match e.1 with
  | .getfield _ => match st with
    | .ref c :: r => (match shp[c]? with
      | some (.inr o) => bif Nat.beq o.1 (e.2.2.1 / 100) then (match o.2[e.2.2.1 % 100]? with
        | some (some rf) => some (pc + e.2.1, ls, .ref rf :: r, a)
        | some none => some (pc + e.2.1, ls, .int (a c (e.2.2.1 % 100)) :: r, a)
        | none => none) else none
      | _ => none)
    | _ => none
  | .putfield _ => match st with
    | .int x :: .ref c :: r => (match shp[c]? with
      | some (.inr o) => bif Nat.beq o.1 (e.2.2.1 / 100) then (match o.2[e.2.2.1 % 100]? with
        | some none => (match e.2.2.2 with
          | .int _ => some (pc + e.2.1, ls, r, upA a c (e.2.2.1 % 100) x)
          | _ => none)
        | _ => none) else none
      | _ => none)
    | _ => none
  | .iaload => match st with
    | .int i :: .ref c :: r => (bif Nat.blt c 1000 then (match shp[c]? with
      | some (.inl (false, n)) => if inb i n then some (pc + e.2.1, ls, .int (a c (ix i)) :: r, a) else none
      | _ => none) else (match ro[c - 1000]? with
      | some q => if inb i q.1 then some (pc + e.2.1, ls, .int (q.2 (ix i)) :: r, a) else none
      | none => none))
    | _ => none
  | .baload => match st with
    | .int i :: .ref c :: r => (match shp[c]? with
      | some (.inl (true, n)) => if inb i n then some (pc + e.2.1, ls, .int (a c (ix i)) :: r, a) else none
      | _ => none)
    | _ => none
  | .iastore => match st with
    | .int x :: .int i :: .ref c :: r => (match shp[c]? with
      | some (.inl (false, n)) => if inb i n then some (pc + e.2.1, ls, r, upA a c (ix i) x) else none
      | _ => none)
    | _ => none
  | .bastore => match st with
    | .int x :: .int i :: .ref c :: r => (match shp[c]? with
      | some (.inl (true, n)) => if inb i n then some (pc + e.2.1, ls, r, upA a c (ix i) (vp_nar .boolean x)) else none
      | _ => none)
    | _ => none
  | .arraylength => match st with
    | .ref c :: r => (bif Nat.blt c 1000 then none else (match ro[c - 1000]? with
      | some q => some (pc + e.2.1, ls, .int (Int32.ofNat q.1) :: r, a)
      | none => none))
    | _ => none
  | _ => match stp ro e pc ls st (hpOf a) with
    | some q => some (q.1, q.2.1, q.2.2.1, a)
    | none => none
set_option maxHeartbeats 4000000 in
theorem stp_noh {ro : ac_R} {e : in_T} {pc : Nat} {ls st : List Value} {q : st_T} {hp : ac_H} (hn : noh e = true) (h : stp ro e pc ls st hp = some q) : q.2.2.2 = hp := by
  obtain ⟨i, len, kk, vv⟩ := e
  obtain ⟨q1, q2, q3, q4⟩ := q
  cases i
  all_goals try (have h9 : (none : Option st_T) = some (q1, q2, q3, q4) := h; cases h9; done)
  all_goals try (cases hn; done)
  case ifCond cnd off =>
    cases cnd <;> (unfold stp at h; dsimp only at h; split at h <;> (cases h; try rfl))
  case if_icmp cnd off =>
    cases cnd <;> (unfold stp at h; dsimp only at h; split at h <;> (cases h; try rfl))
  all_goals (unfold stp at h; dsimp only at h)
  all_goals first
    | (cases h; rfl)
    | (split at h <;> first | (cases h; rfl) | (cases h; done) | (split at h <;> first | (cases h; rfl) | (cases h; done)))
theorem stpA_ok {ro : ac_R} {e : in_T} {pc pc' : Nat} {ls st ls' st' : List Value} {a a' : aT} (h : stpA ro e pc ls st a = some (pc', ls', st', a')) : stp ro e pc ls st (hpOf a) = some (pc', ls', st', hpOf a') := by
  by_cases hn : noh e = true
  · have h2 : (match stp ro e pc ls st (hpOf a) with | some q => some (q.1, q.2.1, q.2.2.1, a) | none => none) = some (pc', ls', st', a') := by
      obtain ⟨i, len, kk, vv⟩ := e
      cases i <;> first | exact h | (cases hn; done)
    split at h2
    · rename_i q hq
      cases h2
      have e1 := stp_noh hn hq
      obtain ⟨q1, q2, q3, q4⟩ := q
      have e1 : q4 = hpOf a := e1
      subst e1
      exact hq
    · cases h2
  · obtain ⟨i, len, kk, vv⟩ := e
    cases i <;> first | exact absurd rfl hn | skip
    case getfield n =>
      unfold stpA at h
      dsimp only at h
      split at h
      · rename_i c r
        split at h
        · rename_i o ho
          cases hb : Nat.beq o.1 (kk / 100) with
          | false => rw [hb] at h; cases h
          | true =>
            rw [hb] at h
            dsimp only [cond_true] at h
            unfold stp
            dsimp only
            rw [hp_get ho]
            show (bif Nat.beq o.1 (kk / 100) then _ else none) = _
            rw [hb]
            show (match (o.2.mapIdx (fdOf a c))[kk % 100]? with | some v => some (pc + len, ls, v :: r, hpOf a) | none => none) = _
            rw [List.getElem?_mapIdx]
            split at h
            · rename_i rf hf
              cases h
              rw [hf]
              rfl
            · rename_i hf
              cases h
              rw [hf]
              rfl
            · cases h
        · cases h
      · cases h
    case putfield n =>
      unfold stpA at h
      dsimp only at h
      split at h
      · rename_i x c r
        split at h
        · rename_i o ho
          cases hb : Nat.beq o.1 (kk / 100) with
          | false => rw [hb] at h; cases h
          | true =>
            rw [hb] at h
            dsimp only [cond_true] at h
            split at h
            · rename_i hf
              split at h
              · cases h
                unfold stp
                dsimp only
                rw [hp_get ho]
                show (bif Nat.beq o.1 (kk / 100) then _ else none) = _
                rw [hb]
                show (match (o.2.mapIdx (fdOf a c))[kk % 100]? with | some _ => some (pc + len, ls, _, (hpOf a).set c (.inr (o.1, (o.2.mapIdx (fdOf a c)).set (kk % 100) (.int x)))) | none => none) = _
                rw [List.getElem?_mapIdx, hf]
                show some (pc + len, ls, _, (hpOf a).set c (.inr (o.1, (o.2.mapIdx (fdOf a c)).set (kk % 100) (.int x)))) = _
                rw [hp_set ho]
                congr 6
                refine congrArg (fun z => (o.1, z)) ?_
                show _ = o.2.mapIdx (fdOf (upA a c (kk % 100) x) c)
                apply List.ext_getElem?
                intro j
                by_cases hj : kk % 100 = j
                · subst hj
                  rw [List.getElem?_set_self (by rw [List.length_mapIdx]; exact (List.getElem?_eq_some_iff.mp hf).1), List.getElem?_mapIdx, hf]
                  simp [fdOf, upA_eq, upd]
                · rw [List.getElem?_set_ne hj, List.getElem?_mapIdx, List.getElem?_mapIdx]
                  congr 1
                  funext f
                  unfold fdOf
                  cases f with
                  | some r => rfl
                  | none => simp [upA_eq, upd, Ne.symm hj]
              · cases h
            · cases h
        · cases h
      · cases h
    case iaload =>
      unfold stpA at h
      dsimp only at h
      split at h
      · rename_i i c r
        unfold stp
        dsimp only
        unfold a_arr
        cases hb : Nat.blt c 1000 with
        | true =>
          rw [hb] at h
          dsimp only [cond_true] at h ⊢
          split at h
          · rename_i n ho
            rw [hp_get ho]
            split at h
            · rename_i hi
              cases h
              show (if inb i n then _ else none) = _
              rw [if_pos hi]
              rfl
            · cases h
          · cases h
        | false =>
          rw [hb] at h
          dsimp only [cond_false] at h ⊢
          split at h
          · rename_i q ho
            rw [ho]
            split at h
            · rename_i hi
              cases h
              show (if inb i q.1 then _ else none) = _
              rw [if_pos hi]
              rfl
            · cases h
          · cases h
      · cases h
    case arraylength =>
      unfold stpA at h
      dsimp only at h
      split at h
      · rename_i c r
        unfold stp
        dsimp only
        unfold a_arr
        cases hb : Nat.blt c 1000 with
        | true => rw [hb] at h; cases h
        | false =>
          rw [hb] at h
          dsimp only [cond_false] at h ⊢
          split at h
          · rename_i q ho
            rw [ho]
            cases h
            rfl
          · cases h
      · cases h
    case baload =>
      unfold stpA at h
      dsimp only at h
      split at h
      · rename_i i c r
        unfold stp
        dsimp only
        split at h
        · rename_i n ho
          rw [hp_get ho]
          split at h
          · rename_i hi
            cases h
            show (if inb i n then _ else none) = _
            rw [if_pos hi]
            rfl
          · cases h
        · cases h
      · cases h
    case iastore =>
      unfold stpA at h
      dsimp only at h
      split at h
      · rename_i x i c r
        unfold stp
        dsimp only
        split at h
        · rename_i n ho
          rw [hp_get ho]
          split at h
          · rename_i hi
            cases h
            show (if inb i n then some (pc + len, ls, st', (hpOf a).set c (.inl (false, n, upd (a c) i.toNatClampNeg x))) else none) = _
            rw [if_pos hi, hp_set ho]
            show _ = some (pc + len, ls, st', (hpOf a).set c (.inl (false, n, upA a c (ix i) x c)))
            rw [upA_eq]
            rfl
          · cases h
        · cases h
      · cases h
    case bastore =>
      unfold stpA at h
      dsimp only at h
      split at h
      · rename_i x i c r
        unfold stp
        dsimp only
        split at h
        · rename_i n ho
          rw [hp_get ho]
          split at h
          · rename_i hi
            cases h
            show (if inb i n then some (pc + len, ls, st', (hpOf a).set c (.inl (true, n, upd (a c) i.toNatClampNeg (vp_nar .boolean x)))) else none) = _
            rw [if_pos hi, hp_set ho]
            show _ = some (pc + len, ls, st', (hpOf a).set c (.inl (true, n, upA a c (ix i) (vp_nar .boolean x) c)))
            rw [upA_eq]
            rfl
          · cases h
        · cases h
      · cases h
noncomputable def stpAL (ro : ac_R) : List in_T → Nat → List Value → List Value → aT → Option sa_T
  | [], pc, ls, st, a => some (pc, ls, st, a)
  | [e], pc, ls, st, a => stpA ro e pc ls st a
  | e :: e2 :: r, pc, ls, st, a => match stpA ro e pc ls st a with
    | some q => bif Nat.beq q.1 (n_pc e pc) then stpAL ro (e2 :: r) (n_pc e pc) q.2.1 q.2.2.1 q.2.2.2 else none
    | none => none
theorem stpAL_ok {ro : ac_R} : ∀ (sg : List in_T) {pc pc' : Nat} {ls st ls' st' : List Value} {a a' : aT}, stpAL ro sg pc ls st a = some (pc', ls', st', a') → stpL ro sg pc ls st (hpOf a) = some (pc', ls', st', hpOf a')
  | [], pc, pc', ls, st, ls', st', a, a', h => by cases h; rfl
  | [e], pc, pc', ls, st, ls', st', a, a', h => stpA_ok h
  | e :: e2 :: r, pc, pc', ls, st, ls', st', a, a', h => by
    unfold stpAL at h
    split at h
    · rename_i q hq
      cases hb : Nat.beq q.1 (n_pc e pc) with
      | false => rw [hb] at h; cases h
      | true =>
        rw [hb] at h
        dsimp only [cond_true] at h
        obtain ⟨q1, q2, q3, q4⟩ := q
        have hb : Nat.beq q1 (n_pc e pc) = true := hb
        have ih := stpAL_ok (e2 :: r) h
        unfold stpL
        simp only [stpA_ok hq, hb, cond_true]
        exact ih
    · cases h
def s_least : Nat → Int32 := fun j => match j with
  | 0 => 1
  | 1 => 1
  | _ => 0
def s_most : Nat → Int32 := fun j => match j with
  | 0 => 9
  | 1 => 3
  | _ => 16
def r_most : Nat → Int32 := fun j => match j with
  | 0 => 8
  | 1 => 29
  | 2 => 9
  | 3 => 1
  | 4 => 9
  | _ => 16
abbrev eT : Type := va_G × (ClassId × ClassId) × Nat × (Nat → Nat) × Nat × (Nat → Int32)
def e_L (E : eT) : Nat := E.2.2.2.2.1
def e_xs (E : eT) : Nat → Int32 := E.2.2.2.2.2
def gE (E : eT) : ac_G := (E.1, E.2.1, E.2.2.1, E.2.2.2.1, [(3, s_least), (3, s_most), (6, r_most), (e_L E, e_xs E)])
theorem hpOf_len (a : aT) : (hpOf a).length = 51 := by simp [hpOf_eq, shp]
end
section
def XQ (E : eT) (M : md_T) (pc : Nat) (ls st : List Value) (a : aT) (Q : Option Value → aT → Prop) : Prop := RW (gE E) M 0 0 pc ls st (hpOf a) (fun r hp => ∃ a', hp = hpOf a' ∧ Q r a')
def qI (v : Int32) (a2 : aT) : Option Value → aT → Prop := fun r a' => r = some (.int v) ∧ a' = a2
def qZ (v : Int32) (a2 : aT) : Option Value → aT → Prop := fun r a' => (∃ v0, r = some (.int v0) ∧ vp_nar .boolean v0 = v) ∧ a' = a2
def qL (v : Int64) (a2 : aT) : Option Value → aT → Prop := fun r a' => r = some (.long v) ∧ a' = a2
def qV (_ : Unit) (a2 : aT) : Option Value → aT → Prop := fun r a' => r = none ∧ a' = a2
def r_ft : Option FieldType → Option Value → Prop
  | none, none => True
  | some .int, some (.int _) => True
  | some .boolean, some (.int _) => True
  | some .long, some (.long _) => True
  | _, _ => False
/-- what a post says to the caller -/
def q_says {ρ : Type} (M : md_T) (q : ρ → aT → Option Value → aT → Prop) (tv : ρ → List Value) : Prop := ∀ v a2 r a', q v a2 r a' → (r_n (m_r M) r).toList = tv v ∧ a' = a2 ∧ r_ft (m_r M) r ∧ ∀ b, r ≠ some (.ref b)
theorem qI_h {M : md_T} (h : m_r M = some .int) : q_says M qI (fun v => [.int v]) := by
  rintro v a2 r a' ⟨rfl, rfl⟩
  rw [h]
  exact ⟨rfl, rfl, trivial, fun b q => by cases q⟩
theorem qZ_h {M : md_T} (h : m_r M = some .boolean) : q_says M qZ (fun v => [.int v]) := by
  rintro v a2 r a' ⟨⟨v0, rfl, rfl⟩, rfl⟩
  rw [h]
  exact ⟨rfl, rfl, trivial, fun b q => by cases q⟩
theorem qL_h {M : md_T} (h : m_r M = some .long) : q_says M qL (fun v => [.long v]) := by
  rintro v a2 r a' ⟨rfl, rfl⟩
  rw [h]
  exact ⟨rfl, rfl, trivial, fun b q => by cases q⟩
theorem qV_h {M : md_T} (h : m_r M = none) : q_says M qV (fun _ => []) := by
  rintro v a2 r a' ⟨rfl, rfl⟩
  rw [h]
  exact ⟨rfl, rfl, trivial, fun b q => by cases q⟩
theorem q_fit {ρ : Type} {M : md_T} {q : ρ → aT → Option Value → aT → Prop} {tv : ρ → List Value} (h : q_says M q tv) (v : ρ) (a2 : aT) : r_fit M (fun r hp => ∃ a', hp = hpOf a' ∧ q v a2 r a') := by
  rintro r hp ⟨a', -, hq⟩
  have := (h v a2 r a' hq).2.2.1
  unfold r_ft at this
  exact this
def l_mk : List Bool → List Value → List Value
  | true :: b, v :: r => v :: l_mk b r
  | false :: b, _ :: r => .null :: l_mk b r
  | _, _ => []
theorem l_mk_get : ∀ (b : List Bool) (ls : List Value) (k : Nat) (v : Value), (l_mk b ls)[k]? = some v → v ≠ .null → ls[k]? = some v
  | [], ls, k, v, h, hv => by simp [l_mk] at h
  | true :: b, [], k, v, h, hv => by simp [l_mk] at h
  | false :: b, [], k, v, h, hv => by simp [l_mk] at h
  | true :: b, w :: r, 0, v, h, hv => h
  | false :: b, w :: r, 0, v, h, hv => by cases h; exact absurd rfl hv
  | true :: b, w :: r, k + 1, v, h, hv => l_mk_get b r k v h hv
  | false :: b, w :: r, k + 1, v, h, hv => l_mk_get b r k v h hv
theorem XQ_fg {E : eT} {M : md_T} {pc : Nat} {ls st : List Value} {a : aT} {Q : Option Value → aT → Prop} (b : List Bool) (k : XQ E M pc (l_mk b ls) st a Q) : XQ E M pc ls st a Q :=
  fun p l e R s m args below meth c H locs cells slots QQ Ls hc hl hP hS h1 h2 hz K => k p l e R s m args below meth c H locs cells slots QQ Ls hc ⟨hl.1, hl.2.1, fun j v hj hv => hl.2.2 j v (l_mk_get b ls j v hj hv) hv⟩ hP hS h1 h2 hz K
theorem XQ_go {E : eT} {M : md_T} {pc pc' : Nat} {ls st ls' st' : List Value} {a a' : aT} {Q : Option Value → aT → Prop} (sg : List in_T) (hk : e_okL M pc sg = true) (h : stpAL (g_ro (gE E)) sg pc ls st a = some (pc', ls', st', a')) (k : XQ E M pc' ls' st' a' Q) : XQ E M pc ls st a Q := RW_seg sg hk (stpAL_ok sg h) k
theorem XQ_ret {E : eT} {M : md_T} {pc : Nat} {ls : List Value} {a : aT} {Q : Option Value → aT → Prop} (r : Option Value) (hr : ∀ b, r ≠ some (.ref b)) (hd : decode (m_b M) pc = .ok (r_in r, 1)) (hq : Q r a) : XQ E M pc ls r.toList a Q := RW_ret r hr hd ⟨a, rfl, hq⟩

theorem XQ_callV {ρ' : Type} {E : eT} {M M' : md_T} {pc idx b ci : Nat} {ls rest As : List Value} {a a2 : aT} {Q : Option Value → aT → Prop} {q' : ρ' → aT → Option Value → aT → Prop} {tv : ρ' → List Value} {v : ρ'} {q : vw_C} {fs : List (Option Nat)} (hd : decode (m_b M) pc = .ok (.invokevirtual idx, 3)) (hok : m_ok M') (hV : Cond.instanceMethod (m_y M') ∈ lw_tbl ∧ Cond.selects (m_y M').cls (m_y M') (m_y M') ∈ lw_tbl) {n : Nat} (hlk : c_lk M M' idx n) (hn : As.length = n) (ho : shp[b]? = some (.inr (ci, fs))) (hcq : vwCl[ci]? = some q) (hqc : q.1 = (m_y M').cls) (hw : (rest.map Value.category).sum ≤ 8) (hav : (l_en (.ref b :: As)).length ≤ m_L M') (hq : q_says M' q' tv)
    (hR : XQ E M' 0 (l_ent (.ref b :: As) (m_L M')) [] a (q' v a2)) (k : XQ E M (pc + 3) ls (tv v ++ rest) a2 Q) : XQ E M pc ls (As.reverse ++ .ref b :: rest) a Q := by
  subst hn
  have := RW_callV (cb := 0) (sb := 0) (cb1 := 0) (sb1 := 0) (Q := fun r hp => ∃ a', hp = hpOf a' ∧ Q r a') (ls := ls) (rest := rest) hd hok hV hlk (hp_get ho) hcq hqc hw hav (q_fit hq v a2) (fun r hp' h => by obtain ⟨a', rfl, -⟩ := h; rw [hpOf_len, hpOf_len]) hR (fun r hp' h => by
    obtain ⟨a', rfl, h⟩ := h
    obtain ⟨e1, e2, -, -⟩ := hq v a2 r a' h
    subst e2
    rw [e1]
    exact k)
  exact this

theorem XQ_callS {ρ' : Type} {E : eT} {M M' : md_T} {pc idx : Nat} {ls rest As : List Value} {a a2 : aT} {Q : Option Value → aT → Prop} {q' : ρ' → aT → Option Value → aT → Prop} {tv : ρ' → List Value} {v : ρ'} (hd : decode (m_b M) pc = .ok (.invokestatic idx, 3)) (hok : m_ok M') (hV : Cond.static (m_y M') ∈ lw_tbl) {n : Nat} (hlk : c_lk M M' idx n) (hn : As.length = n) (hw : (rest.map Value.category).sum ≤ 8) (hav : (l_en As).length ≤ m_L M') (hq : q_says M' q' tv)
    (hR : XQ E M' 0 (l_ent As (m_L M')) [] a (q' v a2)) (k : XQ E M (pc + 3) ls (tv v ++ rest) a2 Q) : XQ E M pc ls (As.reverse ++ rest) a Q := by
  subst hn
  have := RW_callS (cb := 0) (sb := 0) (cb1 := 0) (sb1 := 0) (Q := fun r hp => ∃ a', hp = hpOf a' ∧ Q r a') (ls := ls) (rest := rest) hd hok hV hlk hw hav (q_fit hq v a2) (fun r hp' h => by obtain ⟨a', rfl, -⟩ := h; rw [hpOf_len, hpOf_len]) hR (fun r hp' h => by
    obtain ⟨a', rfl, h⟩ := h
    obtain ⟨e1, e2, -, -⟩ := hq v a2 r a' h
    subst e2
    rw [e1]
    exact k)
  exact this

theorem XQ_callSN {ρ' : Type} {E : eT} {M M' : md_T} {pc idx : Nat} {ls rest As : List Value} {a a2 : aT} {Q : Option Value → aT → Prop} {q' : ρ' → aT → Option Value → aT → Prop} {tv : ρ' → List Value} {v : ρ'} (hd : decode (m_b M) pc = .ok (.invokestatic idx, 3)) (hok : m_ok M') (hV : Cond.static (m_y M') ∈ lw_tbl) {n : Nat} (hlk : c_lkN M M' idx n) (hn : As.length = n) (hw : (rest.map Value.category).sum ≤ 8) (hav : (l_en As).length ≤ m_L M') (hq : q_says M' q' tv)
    (hR : XQ E M' 0 (l_ent As (m_L M')) [] a (q' v a2)) (k : XQ E M (pc + 3) ls (tv v ++ rest) a2 Q) : XQ E M pc ls (As.reverse ++ rest) a Q := by
  subst hn
  have := RW_callSN (cb := 0) (sb := 0) (cb1 := 0) (sb1 := 0) (Q := fun r hp => ∃ a', hp = hpOf a' ∧ Q r a') (ls := ls) (rest := rest) hd hok hV hlk hw hav (q_fit hq v a2) (fun r hp' h => by obtain ⟨a', rfl, -⟩ := h; rw [hpOf_len, hpOf_len]) hR (fun r hp' h => by
    obtain ⟨a', rfl, h⟩ := h
    obtain ⟨e1, e2, -, -⟩ := hq v a2 r a' h
    subst e2
    rw [e1]
    exact k)
  exact this

def XI {ρ : Type} (q : ρ → aT → Option Value → aT → Prop) (E : eT) (M : md_T) (pc : Nat) (ls st : List Value) (a : aT) (o : Option (ρ × aT)) : Prop := ∀ v a2, o = some (v, a2) → XQ E M pc ls st a (q v a2)
def XP {ρ : Type} (q : ρ → aT → Option Value → aT → Prop) (E : eT) (M : md_T) (pc : Nat) (ls st : List Value) (a : aT) (o : Option ρ) : Prop := ∀ v, o = some v → XQ E M pc ls st a (q v a)
def XT {ρ : Type} (q : ρ → aT → Option Value → aT → Prop) (E : eT) (M : md_T) (pc : Nat) (ls st : List Value) (a : aT) (v : ρ) : Prop := XQ E M pc ls st a (q v a)
theorem XI_go {ρ : Type} {q : ρ → aT → Option Value → aT → Prop} {E : eT} {M : md_T} {pc : Nat} {ls st : List Value} {pc' : Nat} {ls' st' : List Value} {a a' : aT} {o : Option (ρ × aT)} (sg : List in_T) (hk : e_okL M pc sg = true) (h9 : stpAL (g_ro (gE E)) sg pc ls st a = some (pc', ls', st', a')) (k : XI q E M pc' ls' st' a' o) : XI q E M pc ls st a o := fun v a2 h => XQ_go sg hk h9 (k v a2 h)
theorem XI_fg {ρ : Type} {q : ρ → aT → Option Value → aT → Prop} {E : eT} {M : md_T} {pc : Nat} {ls st : List Value} {a : aT} {o : Option (ρ × aT)} (b : List Bool) (k : XI q E M pc (l_mk b ls) st a o) : XI q E M pc ls st a o := fun v a2 h => XQ_fg b (k v a2 h)
theorem XI_br {ρ : Type} {q : ρ → aT → Option Value → aT → Prop} {E : eT} {M : md_T} {pc : Nat} {ls st : List Value} {a a' : aT} {c : Prop} [Decidable c] {t e : Nat} {ls' st' : List Value} {o1 o2 : Option (ρ × aT)} (sg : List in_T) (hk : e_okL M pc sg = true) (h9 : stpAL (g_ro (gE E)) sg pc ls st a = some (if c then t else e, ls', st', a')) (kt : XI q E M t ls' st' a' o1) (ke : XI q E M e ls' st' a' o2) : XI q E M pc ls st a (if c then o1 else o2) := by
  intro v a2 h
  by_cases hc : c
  · rw [if_pos hc] at h9 h
    exact XQ_go sg hk h9 (kt v a2 h)
  · rw [if_neg hc] at h9 h
    exact XQ_go sg hk h9 (ke v a2 h)
theorem XI_if {ρ : Type} {q : ρ → aT → Option Value → aT → Prop} {E : eT} {M : md_T} {pc : Nat} {ls st : List Value} {a : aT} {c : Prop} [Decidable c] {o1 o2 : Option (ρ × aT)} (kt : c → XI q E M pc ls st a o1) (ke : ¬ c → XI q E M pc ls st a o2) : XI q E M pc ls st a (if c then o1 else o2) := by
  by_cases hc : c
  · rw [if_pos hc]; exact kt hc
  · rw [if_neg hc]; exact ke hc
theorem XI_no {ρ : Type} {q : ρ → aT → Option Value → aT → Prop} {E : eT} {M : md_T} {pc : Nat} {ls st : List Value} {a : aT} {o : Option (ρ × aT)} (h : o = none) : XI q E M pc ls st a o := by
  intro v a2 h9
  rw [h] at h9
  cases h9
theorem XI_ck {ρ : Type} {q : ρ → aT → Option Value → aT → Prop} {E : eT} {M : md_T} {pc : Nat} {ls st : List Value} {a a' : aT} {pc' : Nat} {c : Prop} [Decidable c] {ls' st' : List Value} {o : Option (ρ × aT)} (sg : List in_T) (hk : e_okL M pc sg = true) (h9 : stpAL (g_ro (gE E)) sg pc ls st a = if c then some (pc', ls', st', a') else none) (k : XI q E M pc' ls' st' a' o) : XI q E M pc ls st a (if c then o else none) := by
  intro v a2 h
  by_cases hc : c
  · rw [if_pos hc] at h9 h
    exact XQ_go sg hk h9 (k v a2 h)
  · rw [if_neg hc] at h
    cases h
theorem XI_dv {ρ : Type} {q : ρ → aT → Option Value → aT → Prop} {E : eT} {M : md_T} {pc : Nat} {ls st : List Value} {a a' : aT} {pc' : Nat} {c : Prop} [Decidable c] {ls' st' : List Value} {o : Option (ρ × aT)} (sg : List in_T) (hk : e_okL M pc sg = true) (h9 : stpAL (g_ro (gE E)) sg pc ls st a = if c then none else some (pc', ls', st', a')) (k : XI q E M pc' ls' st' a' o) : XI q E M pc ls st a (if c then none else o) := by
  intro v a2 h
  by_cases hc : c
  · rw [if_pos hc] at h
    cases h
  · rw [if_neg hc] at h9 h
    exact XQ_go sg hk h9 (k v a2 h)
theorem XI_retI {E : eT} {M : md_T} {pc : Nat} {ls : List Value} {a : aT} {v : Int32} (hd : decode (m_b M) pc = .ok (.ireturn, 1)) : XI qI E M pc ls [.int v] a (some (v, a)) := by
  intro v1 a1 h
  cases h
  exact XQ_ret (some (.int v)) (fun b q => by cases q) hd ⟨rfl, rfl⟩
theorem XI_retZ {E : eT} {M : md_T} {pc : Nat} {ls : List Value} {a : aT} {v v0 : Int32} (hd : decode (m_b M) pc = .ok (.ireturn, 1)) (hv : vp_nar .boolean v0 = v) : XI qZ E M pc ls [.int v0] a (some (v, a)) := by
  intro v1 a1 h
  cases h
  exact XQ_ret (some (.int v0)) (fun b q => by cases q) hd ⟨⟨v0, rfl, hv⟩, rfl⟩
theorem XI_retJ {E : eT} {M : md_T} {pc : Nat} {ls : List Value} {a : aT} {v : Int64} (hd : decode (m_b M) pc = .ok (.lreturn, 1)) : XI qL E M pc ls [.long v] a (some (v, a)) := by
  intro v1 a1 h
  cases h
  exact XQ_ret (some (.long v)) (fun b q => by cases q) hd ⟨rfl, rfl⟩
theorem XI_retV {E : eT} {M : md_T} {pc : Nat} {ls : List Value} {a : aT} (hd : decode (m_b M) pc = .ok (.return_, 1)) : XI qV E M pc ls [] a (some ((), a)) := by
  intro v1 a1 h
  cases h
  exact XQ_ret none (fun b q => by cases q) hd ⟨rfl, rfl⟩
theorem XI_VI {ρ ρ' : Type} {q : ρ → aT → Option Value → aT → Prop} {q' : ρ' → aT → Option Value → aT → Prop} {tv : ρ' → List Value} {E : eT} {M M' : md_T} {pc idx : Nat} {ls rest As : List Value} {b ci : Nat} {fs : List (Option Nat)} {qc : vw_C} {a : aT} {o9 : Option (ρ' × aT)} {f : ρ' × aT → Option (ρ × aT)} (hd : decode (m_b M) pc = .ok (.invokevirtual idx, 3)) (hok : m_ok M') (hV : Cond.instanceMethod (m_y M') ∈ lw_tbl ∧ Cond.selects (m_y M').cls (m_y M') (m_y M') ∈ lw_tbl) {n : Nat} (hlk : c_lk M M' idx n) (hn : As.length = n) (ho : shp[b]? = some (.inr (ci, fs))) (hcq : vwCl[ci]? = some qc) (hqc : qc.1 = (m_y M').cls) (hw : (rest.map Value.category).sum ≤ 8) (hav : (l_en (.ref b :: As)).length ≤ m_L M') (hq : q_says M' q' tv) (hR : XI q' E M' 0 (l_ent (.ref b :: As) (m_L M')) [] a o9) (k : ∀ q9, XI q E M (pc + 3) ls (tv q9.1 ++ rest) q9.2 (f q9)) : XI q E M pc ls (As.reverse ++ .ref b :: rest) a (o9.bind f) := by
  intro v a2 h
  obtain ⟨⟨v9, a9⟩, h9, h⟩ := Option.bind_eq_some_iff.mp h
  exact XQ_callV hd hok hV hlk hn ho hcq hqc hw hav hq (hR v9 a9 h9) (k (v9, a9) v a2 h)
theorem XI_VP {ρ ρ' : Type} {q : ρ → aT → Option Value → aT → Prop} {q' : ρ' → aT → Option Value → aT → Prop} {tv : ρ' → List Value} {E : eT} {M M' : md_T} {pc idx : Nat} {ls rest As : List Value} {b ci : Nat} {fs : List (Option Nat)} {qc : vw_C} {a : aT} {o9 : Option ρ'} {f : ρ' → Option (ρ × aT)} (hd : decode (m_b M) pc = .ok (.invokevirtual idx, 3)) (hok : m_ok M') (hV : Cond.instanceMethod (m_y M') ∈ lw_tbl ∧ Cond.selects (m_y M').cls (m_y M') (m_y M') ∈ lw_tbl) {n : Nat} (hlk : c_lk M M' idx n) (hn : As.length = n) (ho : shp[b]? = some (.inr (ci, fs))) (hcq : vwCl[ci]? = some qc) (hqc : qc.1 = (m_y M').cls) (hw : (rest.map Value.category).sum ≤ 8) (hav : (l_en (.ref b :: As)).length ≤ m_L M') (hq : q_says M' q' tv) (hR : XP q' E M' 0 (l_ent (.ref b :: As) (m_L M')) [] a o9) (k : ∀ v9, XI q E M (pc + 3) ls (tv v9 ++ rest) a (f v9)) : XI q E M pc ls (As.reverse ++ .ref b :: rest) a (o9.bind f) := by
  intro v a2 h
  obtain ⟨v9, h9, h⟩ := Option.bind_eq_some_iff.mp h
  exact XQ_callV hd hok hV hlk hn ho hcq hqc hw hav hq (hR v9 h9) (k v9 v a2 h)
theorem XI_VT {ρ ρ' : Type} {q : ρ → aT → Option Value → aT → Prop} {q' : ρ' → aT → Option Value → aT → Prop} {tv : ρ' → List Value} {E : eT} {M M' : md_T} {pc idx : Nat} {ls rest As : List Value} {b ci : Nat} {fs : List (Option Nat)} {qc : vw_C} {a : aT} {v9 : ρ'} {o : Option (ρ × aT)} (hd : decode (m_b M) pc = .ok (.invokevirtual idx, 3)) (hok : m_ok M') (hV : Cond.instanceMethod (m_y M') ∈ lw_tbl ∧ Cond.selects (m_y M').cls (m_y M') (m_y M') ∈ lw_tbl) {n : Nat} (hlk : c_lk M M' idx n) (hn : As.length = n) (ho : shp[b]? = some (.inr (ci, fs))) (hcq : vwCl[ci]? = some qc) (hqc : qc.1 = (m_y M').cls) (hw : (rest.map Value.category).sum ≤ 8) (hav : (l_en (.ref b :: As)).length ≤ m_L M') (hq : q_says M' q' tv) (hR : XT q' E M' 0 (l_ent (.ref b :: As) (m_L M')) [] a v9) (k : XI q E M (pc + 3) ls (tv v9 ++ rest) a o) : XI q E M pc ls (As.reverse ++ .ref b :: rest) a o := fun v a2 h => XQ_callV hd hok hV hlk hn ho hcq hqc hw hav hq hR (k v a2 h)
theorem XI_SI {ρ ρ' : Type} {q : ρ → aT → Option Value → aT → Prop} {q' : ρ' → aT → Option Value → aT → Prop} {tv : ρ' → List Value} {E : eT} {M M' : md_T} {pc idx : Nat} {ls rest As : List Value} {a : aT} {o9 : Option (ρ' × aT)} {f : ρ' × aT → Option (ρ × aT)} (hd : decode (m_b M) pc = .ok (.invokestatic idx, 3)) (hok : m_ok M') (hV : Cond.static (m_y M') ∈ lw_tbl) {n : Nat} (hlk : c_lk M M' idx n) (hn : As.length = n) (hw : (rest.map Value.category).sum ≤ 8) (hav : (l_en As).length ≤ m_L M') (hq : q_says M' q' tv) (hR : XI q' E M' 0 (l_ent As (m_L M')) [] a o9) (k : ∀ q9, XI q E M (pc + 3) ls (tv q9.1 ++ rest) q9.2 (f q9)) : XI q E M pc ls (As.reverse ++ rest) a (o9.bind f) := by
  intro v a2 h
  obtain ⟨⟨v9, a9⟩, h9, h⟩ := Option.bind_eq_some_iff.mp h
  exact XQ_callS hd hok hV hlk hn hw hav hq (hR v9 a9 h9) (k (v9, a9) v a2 h)
theorem XI_SP {ρ ρ' : Type} {q : ρ → aT → Option Value → aT → Prop} {q' : ρ' → aT → Option Value → aT → Prop} {tv : ρ' → List Value} {E : eT} {M M' : md_T} {pc idx : Nat} {ls rest As : List Value} {a : aT} {o9 : Option ρ'} {f : ρ' → Option (ρ × aT)} (hd : decode (m_b M) pc = .ok (.invokestatic idx, 3)) (hok : m_ok M') (hV : Cond.static (m_y M') ∈ lw_tbl) {n : Nat} (hlk : c_lk M M' idx n) (hn : As.length = n) (hw : (rest.map Value.category).sum ≤ 8) (hav : (l_en As).length ≤ m_L M') (hq : q_says M' q' tv) (hR : XP q' E M' 0 (l_ent As (m_L M')) [] a o9) (k : ∀ v9, XI q E M (pc + 3) ls (tv v9 ++ rest) a (f v9)) : XI q E M pc ls (As.reverse ++ rest) a (o9.bind f) := by
  intro v a2 h
  obtain ⟨v9, h9, h⟩ := Option.bind_eq_some_iff.mp h
  exact XQ_callS hd hok hV hlk hn hw hav hq (hR v9 h9) (k v9 v a2 h)
theorem XI_ST {ρ ρ' : Type} {q : ρ → aT → Option Value → aT → Prop} {q' : ρ' → aT → Option Value → aT → Prop} {tv : ρ' → List Value} {E : eT} {M M' : md_T} {pc idx : Nat} {ls rest As : List Value} {a : aT} {v9 : ρ'} {o : Option (ρ × aT)} (hd : decode (m_b M) pc = .ok (.invokestatic idx, 3)) (hok : m_ok M') (hV : Cond.static (m_y M') ∈ lw_tbl) {n : Nat} (hlk : c_lk M M' idx n) (hn : As.length = n) (hw : (rest.map Value.category).sum ≤ 8) (hav : (l_en As).length ≤ m_L M') (hq : q_says M' q' tv) (hR : XT q' E M' 0 (l_ent As (m_L M')) [] a v9) (k : XI q E M (pc + 3) ls (tv v9 ++ rest) a o) : XI q E M pc ls (As.reverse ++ rest) a o := fun v a2 h => XQ_callS hd hok hV hlk hn hw hav hq hR (k v a2 h)
theorem XI_SNI {ρ ρ' : Type} {q : ρ → aT → Option Value → aT → Prop} {q' : ρ' → aT → Option Value → aT → Prop} {tv : ρ' → List Value} {E : eT} {M M' : md_T} {pc idx : Nat} {ls rest As : List Value} {a : aT} {o9 : Option (ρ' × aT)} {f : ρ' × aT → Option (ρ × aT)} (hd : decode (m_b M) pc = .ok (.invokestatic idx, 3)) (hok : m_ok M') (hV : Cond.static (m_y M') ∈ lw_tbl) {n : Nat} (hlk : c_lkN M M' idx n) (hn : As.length = n) (hw : (rest.map Value.category).sum ≤ 8) (hav : (l_en As).length ≤ m_L M') (hq : q_says M' q' tv) (hR : XI q' E M' 0 (l_ent As (m_L M')) [] a o9) (k : ∀ q9, XI q E M (pc + 3) ls (tv q9.1 ++ rest) q9.2 (f q9)) : XI q E M pc ls (As.reverse ++ rest) a (o9.bind f) := by
  intro v a2 h
  obtain ⟨⟨v9, a9⟩, h9, h⟩ := Option.bind_eq_some_iff.mp h
  exact XQ_callSN hd hok hV hlk hn hw hav hq (hR v9 a9 h9) (k (v9, a9) v a2 h)
theorem XI_SNP {ρ ρ' : Type} {q : ρ → aT → Option Value → aT → Prop} {q' : ρ' → aT → Option Value → aT → Prop} {tv : ρ' → List Value} {E : eT} {M M' : md_T} {pc idx : Nat} {ls rest As : List Value} {a : aT} {o9 : Option ρ'} {f : ρ' → Option (ρ × aT)} (hd : decode (m_b M) pc = .ok (.invokestatic idx, 3)) (hok : m_ok M') (hV : Cond.static (m_y M') ∈ lw_tbl) {n : Nat} (hlk : c_lkN M M' idx n) (hn : As.length = n) (hw : (rest.map Value.category).sum ≤ 8) (hav : (l_en As).length ≤ m_L M') (hq : q_says M' q' tv) (hR : XP q' E M' 0 (l_ent As (m_L M')) [] a o9) (k : ∀ v9, XI q E M (pc + 3) ls (tv v9 ++ rest) a (f v9)) : XI q E M pc ls (As.reverse ++ rest) a (o9.bind f) := by
  intro v a2 h
  obtain ⟨v9, h9, h⟩ := Option.bind_eq_some_iff.mp h
  exact XQ_callSN hd hok hV hlk hn hw hav hq (hR v9 h9) (k v9 v a2 h)
theorem XI_SNT {ρ ρ' : Type} {q : ρ → aT → Option Value → aT → Prop} {q' : ρ' → aT → Option Value → aT → Prop} {tv : ρ' → List Value} {E : eT} {M M' : md_T} {pc idx : Nat} {ls rest As : List Value} {a : aT} {v9 : ρ'} {o : Option (ρ × aT)} (hd : decode (m_b M) pc = .ok (.invokestatic idx, 3)) (hok : m_ok M') (hV : Cond.static (m_y M') ∈ lw_tbl) {n : Nat} (hlk : c_lkN M M' idx n) (hn : As.length = n) (hw : (rest.map Value.category).sum ≤ 8) (hav : (l_en As).length ≤ m_L M') (hq : q_says M' q' tv) (hR : XT q' E M' 0 (l_ent As (m_L M')) [] a v9) (k : XI q E M (pc + 3) ls (tv v9 ++ rest) a o) : XI q E M pc ls (As.reverse ++ rest) a o := fun v a2 h => XQ_callSN hd hok hV hlk hn hw hav hq hR (k v a2 h)
theorem tab_out {x : Int32} {n : Nat} {lo hi : Int} (h : ∀ i, i < n → ¬ x = OfNat.ofNat i) (hn : lo = 0 ∧ hi + 1 = (n : Int) ∧ n < 1000) : x.toInt < lo ∨ hi < x.toInt := by
  obtain ⟨rfl, h1, h2⟩ := hn
  rcases Int.lt_or_le x.toInt 0 with h3 | h3
  · exact Or.inl h3
  · refine Or.inr ?_
    rcases Int.lt_or_le hi x.toInt with h4 | h4
    · exact h4
    · exfalso
      obtain ⟨j, hj, hx⟩ := nI_of (x := x) (fun q => by rw [Int32.lt_iff_toInt_lt, Int32.toInt_zero] at q; omega)
      have h5 : x.toInt = j := by rw [hx]; exact nI_toInt hj
      exact h j (by omega) (by rw [hx]; rfl)
theorem look_out {x : Int32} {o0 o1 d : Int} (h0 : ¬ x = 0) (h1 : ¬ x = 1) : Op.lookupswitch.offset [(0, o0), (1, o1)] d x.toInt = d := by
  rw [Op.lookupswitch.offset_cons, if_neg, Op.lookupswitch.offset_cons, if_neg, Op.lookupswitch.offset_nil]
  · intro q
    exact h1 (Int32.toInt_inj.mp (q.symm.trans (by decide)))
  · intro q
    exact h0 (Int32.toInt_inj.mp (q.symm.trans (by decide)))
theorem XI_tabIn {ρ : Type} {q : ρ → aT → Option Value → aT → Prop} {E : eT} {M : md_T} {pc : Nat} {ls st : List Value} {a : aT} {o : Option (ρ × aT)} {dflt lo hi off : Int} {offs : Array Int} {len tgt : Nat} {x x0 : Int32} (h0 : x = x0) (hd : decode (m_b M) pc = .ok (.tableswitch dflt lo hi offs, len)) (h3 : ¬ x0.toInt < lo) (h4 : ¬ hi < x0.toInt) (ho : offs[(x0.toInt - lo).toNat]? = some off) (ht : (pc : Int) + off = (tgt : Int)) (k : XI q E M tgt ls st a o) : XI q E M pc ls (.int x :: st) a o := by
  subst h0
  exact fun v a2 h => RW_tabIn hd h3 h4 ho ht (k v a2 h)
theorem XI_tabOut {ρ : Type} {q : ρ → aT → Option Value → aT → Prop} {E : eT} {M : md_T} {pc : Nat} {ls st : List Value} {a : aT} {o : Option (ρ × aT)} {dflt lo hi : Int} {offs : Array Int} {len tgt n : Nat} {x : Int32} (hd : decode (m_b M) pc = .ok (.tableswitch dflt lo hi offs, len)) (h3 : ∀ i, i < n → ¬ x = OfNat.ofNat i) (hn : lo = 0 ∧ hi + 1 = (n : Int) ∧ n < 1000) (ht : (pc : Int) + dflt = (tgt : Int)) (k : XI q E M tgt ls st a o) : XI q E M pc ls (.int x :: st) a o := fun v a2 h => RW_tabOut hd (tab_out h3 hn) ht (k v a2 h)
theorem XI_look {ρ : Type} {q : ρ → aT → Option Value → aT → Prop} {E : eT} {M : md_T} {pc : Nat} {ls st : List Value} {a : aT} {o : Option (ρ × aT)} {dflt off : Int} {ps : Array (Int × Int)} {len tgt : Nat} {x : Int32} (hd : decode (m_b M) pc = .ok (.lookupswitch dflt ps, len)) (hs : (ps.toList.zip (ps.toList.drop 1)).all (fun (a, next) => a.1 < next.1) = true) (ho : Op.lookupswitch.offset ps.toList dflt x.toInt = off) (ht : (pc : Int) + off = (tgt : Int)) (k : XI q E M tgt ls st a o) : XI q E M pc ls (.int x :: st) a o := fun v a2 h => RW_look hd hs ho ht (k v a2 h)
theorem XP_go {ρ : Type} {q : ρ → aT → Option Value → aT → Prop} {E : eT} {M : md_T} {pc : Nat} {ls st : List Value} {pc' : Nat} {ls' st' : List Value} {a' : aT} {o : Option ρ} (sg : List in_T) (hk : e_okL M pc sg = true) (h9 : stpAL (g_ro (gE E)) sg pc ls st a' = some (pc', ls', st', a')) (k : XP q E M pc' ls' st' a' o) : XP q E M pc ls st a' o := fun v h => XQ_go sg hk h9 (k v h)
theorem XP_fg {ρ : Type} {q : ρ → aT → Option Value → aT → Prop} {E : eT} {M : md_T} {pc : Nat} {ls st : List Value} {a : aT} {o : Option ρ} (b : List Bool) (k : XP q E M pc (l_mk b ls) st a o) : XP q E M pc ls st a o := fun v h => XQ_fg b (k v h)
theorem XP_br {ρ : Type} {q : ρ → aT → Option Value → aT → Prop} {E : eT} {M : md_T} {pc : Nat} {ls st : List Value} {a' : aT} {c : Prop} [Decidable c] {t e : Nat} {ls' st' : List Value} {o1 o2 : Option ρ} (sg : List in_T) (hk : e_okL M pc sg = true) (h9 : stpAL (g_ro (gE E)) sg pc ls st a' = some (if c then t else e, ls', st', a')) (kt : XP q E M t ls' st' a' o1) (ke : XP q E M e ls' st' a' o2) : XP q E M pc ls st a' (if c then o1 else o2) := by
  intro v h
  by_cases hc : c
  · rw [if_pos hc] at h9 h
    exact XQ_go sg hk h9 (kt v h)
  · rw [if_neg hc] at h9 h
    exact XQ_go sg hk h9 (ke v h)
theorem XP_if {ρ : Type} {q : ρ → aT → Option Value → aT → Prop} {E : eT} {M : md_T} {pc : Nat} {ls st : List Value} {a : aT} {c : Prop} [Decidable c] {o1 o2 : Option ρ} (kt : c → XP q E M pc ls st a o1) (ke : ¬ c → XP q E M pc ls st a o2) : XP q E M pc ls st a (if c then o1 else o2) := by
  by_cases hc : c
  · rw [if_pos hc]; exact kt hc
  · rw [if_neg hc]; exact ke hc
theorem XP_no {ρ : Type} {q : ρ → aT → Option Value → aT → Prop} {E : eT} {M : md_T} {pc : Nat} {ls st : List Value} {a : aT} {o : Option ρ} (h : o = none) : XP q E M pc ls st a o := by
  intro v h9
  rw [h] at h9
  cases h9
theorem XP_ck {ρ : Type} {q : ρ → aT → Option Value → aT → Prop} {E : eT} {M : md_T} {pc : Nat} {ls st : List Value} {a' : aT} {pc' : Nat} {c : Prop} [Decidable c] {ls' st' : List Value} {o : Option ρ} (sg : List in_T) (hk : e_okL M pc sg = true) (h9 : stpAL (g_ro (gE E)) sg pc ls st a' = if c then some (pc', ls', st', a') else none) (k : XP q E M pc' ls' st' a' o) : XP q E M pc ls st a' (if c then o else none) := by
  intro v h
  by_cases hc : c
  · rw [if_pos hc] at h9 h
    exact XQ_go sg hk h9 (k v h)
  · rw [if_neg hc] at h
    cases h
theorem XP_dv {ρ : Type} {q : ρ → aT → Option Value → aT → Prop} {E : eT} {M : md_T} {pc : Nat} {ls st : List Value} {a' : aT} {pc' : Nat} {c : Prop} [Decidable c] {ls' st' : List Value} {o : Option ρ} (sg : List in_T) (hk : e_okL M pc sg = true) (h9 : stpAL (g_ro (gE E)) sg pc ls st a' = if c then none else some (pc', ls', st', a')) (k : XP q E M pc' ls' st' a' o) : XP q E M pc ls st a' (if c then none else o) := by
  intro v h
  by_cases hc : c
  · rw [if_pos hc] at h
    cases h
  · rw [if_neg hc] at h9 h
    exact XQ_go sg hk h9 (k v h)
theorem XP_retI {E : eT} {M : md_T} {pc : Nat} {ls : List Value} {a : aT} {v : Int32} (hd : decode (m_b M) pc = .ok (.ireturn, 1)) : XP qI E M pc ls [.int v] a (some v) := by
  intro v1 h
  cases h
  exact XQ_ret (some (.int v)) (fun b q => by cases q) hd ⟨rfl, rfl⟩
theorem XP_retZ {E : eT} {M : md_T} {pc : Nat} {ls : List Value} {a : aT} {v v0 : Int32} (hd : decode (m_b M) pc = .ok (.ireturn, 1)) (hv : vp_nar .boolean v0 = v) : XP qZ E M pc ls [.int v0] a (some v) := by
  intro v1 h
  cases h
  exact XQ_ret (some (.int v0)) (fun b q => by cases q) hd ⟨⟨v0, rfl, hv⟩, rfl⟩
theorem XP_retJ {E : eT} {M : md_T} {pc : Nat} {ls : List Value} {a : aT} {v : Int64} (hd : decode (m_b M) pc = .ok (.lreturn, 1)) : XP qL E M pc ls [.long v] a (some v) := by
  intro v1 h
  cases h
  exact XQ_ret (some (.long v)) (fun b q => by cases q) hd ⟨rfl, rfl⟩
theorem XP_retV {E : eT} {M : md_T} {pc : Nat} {ls : List Value} {a : aT} (hd : decode (m_b M) pc = .ok (.return_, 1)) : XP qV E M pc ls [] a (some ()) := by
  intro v1 h
  cases h
  exact XQ_ret none (fun b q => by cases q) hd ⟨rfl, rfl⟩
theorem XP_VP {ρ ρ' : Type} {q : ρ → aT → Option Value → aT → Prop} {q' : ρ' → aT → Option Value → aT → Prop} {tv : ρ' → List Value} {E : eT} {M M' : md_T} {pc idx : Nat} {ls rest As : List Value} {b ci : Nat} {fs : List (Option Nat)} {qc : vw_C} {a : aT} {o9 : Option ρ'} {f : ρ' → Option ρ} (hd : decode (m_b M) pc = .ok (.invokevirtual idx, 3)) (hok : m_ok M') (hV : Cond.instanceMethod (m_y M') ∈ lw_tbl ∧ Cond.selects (m_y M').cls (m_y M') (m_y M') ∈ lw_tbl) {n : Nat} (hlk : c_lk M M' idx n) (hn : As.length = n) (ho : shp[b]? = some (.inr (ci, fs))) (hcq : vwCl[ci]? = some qc) (hqc : qc.1 = (m_y M').cls) (hw : (rest.map Value.category).sum ≤ 8) (hav : (l_en (.ref b :: As)).length ≤ m_L M') (hq : q_says M' q' tv) (hR : XP q' E M' 0 (l_ent (.ref b :: As) (m_L M')) [] a o9) (k : ∀ v9, XP q E M (pc + 3) ls (tv v9 ++ rest) a (f v9)) : XP q E M pc ls (As.reverse ++ .ref b :: rest) a (o9.bind f) := by
  intro v h
  obtain ⟨v9, h9, h⟩ := Option.bind_eq_some_iff.mp h
  exact XQ_callV hd hok hV hlk hn ho hcq hqc hw hav hq (hR v9 h9) (k v9 v h)
theorem XP_VT {ρ ρ' : Type} {q : ρ → aT → Option Value → aT → Prop} {q' : ρ' → aT → Option Value → aT → Prop} {tv : ρ' → List Value} {E : eT} {M M' : md_T} {pc idx : Nat} {ls rest As : List Value} {b ci : Nat} {fs : List (Option Nat)} {qc : vw_C} {a : aT} {v9 : ρ'} {o : Option ρ} (hd : decode (m_b M) pc = .ok (.invokevirtual idx, 3)) (hok : m_ok M') (hV : Cond.instanceMethod (m_y M') ∈ lw_tbl ∧ Cond.selects (m_y M').cls (m_y M') (m_y M') ∈ lw_tbl) {n : Nat} (hlk : c_lk M M' idx n) (hn : As.length = n) (ho : shp[b]? = some (.inr (ci, fs))) (hcq : vwCl[ci]? = some qc) (hqc : qc.1 = (m_y M').cls) (hw : (rest.map Value.category).sum ≤ 8) (hav : (l_en (.ref b :: As)).length ≤ m_L M') (hq : q_says M' q' tv) (hR : XT q' E M' 0 (l_ent (.ref b :: As) (m_L M')) [] a v9) (k : XP q E M (pc + 3) ls (tv v9 ++ rest) a o) : XP q E M pc ls (As.reverse ++ .ref b :: rest) a o := fun v h => XQ_callV hd hok hV hlk hn ho hcq hqc hw hav hq hR (k v h)
theorem XP_SP {ρ ρ' : Type} {q : ρ → aT → Option Value → aT → Prop} {q' : ρ' → aT → Option Value → aT → Prop} {tv : ρ' → List Value} {E : eT} {M M' : md_T} {pc idx : Nat} {ls rest As : List Value} {a : aT} {o9 : Option ρ'} {f : ρ' → Option ρ} (hd : decode (m_b M) pc = .ok (.invokestatic idx, 3)) (hok : m_ok M') (hV : Cond.static (m_y M') ∈ lw_tbl) {n : Nat} (hlk : c_lk M M' idx n) (hn : As.length = n) (hw : (rest.map Value.category).sum ≤ 8) (hav : (l_en As).length ≤ m_L M') (hq : q_says M' q' tv) (hR : XP q' E M' 0 (l_ent As (m_L M')) [] a o9) (k : ∀ v9, XP q E M (pc + 3) ls (tv v9 ++ rest) a (f v9)) : XP q E M pc ls (As.reverse ++ rest) a (o9.bind f) := by
  intro v h
  obtain ⟨v9, h9, h⟩ := Option.bind_eq_some_iff.mp h
  exact XQ_callS hd hok hV hlk hn hw hav hq (hR v9 h9) (k v9 v h)
theorem XP_ST {ρ ρ' : Type} {q : ρ → aT → Option Value → aT → Prop} {q' : ρ' → aT → Option Value → aT → Prop} {tv : ρ' → List Value} {E : eT} {M M' : md_T} {pc idx : Nat} {ls rest As : List Value} {a : aT} {v9 : ρ'} {o : Option ρ} (hd : decode (m_b M) pc = .ok (.invokestatic idx, 3)) (hok : m_ok M') (hV : Cond.static (m_y M') ∈ lw_tbl) {n : Nat} (hlk : c_lk M M' idx n) (hn : As.length = n) (hw : (rest.map Value.category).sum ≤ 8) (hav : (l_en As).length ≤ m_L M') (hq : q_says M' q' tv) (hR : XT q' E M' 0 (l_ent As (m_L M')) [] a v9) (k : XP q E M (pc + 3) ls (tv v9 ++ rest) a o) : XP q E M pc ls (As.reverse ++ rest) a o := fun v h => XQ_callS hd hok hV hlk hn hw hav hq hR (k v h)
theorem XP_SNP {ρ ρ' : Type} {q : ρ → aT → Option Value → aT → Prop} {q' : ρ' → aT → Option Value → aT → Prop} {tv : ρ' → List Value} {E : eT} {M M' : md_T} {pc idx : Nat} {ls rest As : List Value} {a : aT} {o9 : Option ρ'} {f : ρ' → Option ρ} (hd : decode (m_b M) pc = .ok (.invokestatic idx, 3)) (hok : m_ok M') (hV : Cond.static (m_y M') ∈ lw_tbl) {n : Nat} (hlk : c_lkN M M' idx n) (hn : As.length = n) (hw : (rest.map Value.category).sum ≤ 8) (hav : (l_en As).length ≤ m_L M') (hq : q_says M' q' tv) (hR : XP q' E M' 0 (l_ent As (m_L M')) [] a o9) (k : ∀ v9, XP q E M (pc + 3) ls (tv v9 ++ rest) a (f v9)) : XP q E M pc ls (As.reverse ++ rest) a (o9.bind f) := by
  intro v h
  obtain ⟨v9, h9, h⟩ := Option.bind_eq_some_iff.mp h
  exact XQ_callSN hd hok hV hlk hn hw hav hq (hR v9 h9) (k v9 v h)
theorem XP_SNT {ρ ρ' : Type} {q : ρ → aT → Option Value → aT → Prop} {q' : ρ' → aT → Option Value → aT → Prop} {tv : ρ' → List Value} {E : eT} {M M' : md_T} {pc idx : Nat} {ls rest As : List Value} {a : aT} {v9 : ρ'} {o : Option ρ} (hd : decode (m_b M) pc = .ok (.invokestatic idx, 3)) (hok : m_ok M') (hV : Cond.static (m_y M') ∈ lw_tbl) {n : Nat} (hlk : c_lkN M M' idx n) (hn : As.length = n) (hw : (rest.map Value.category).sum ≤ 8) (hav : (l_en As).length ≤ m_L M') (hq : q_says M' q' tv) (hR : XT q' E M' 0 (l_ent As (m_L M')) [] a v9) (k : XP q E M (pc + 3) ls (tv v9 ++ rest) a o) : XP q E M pc ls (As.reverse ++ rest) a o := fun v h => XQ_callSN hd hok hV hlk hn hw hav hq hR (k v h)
theorem XP_tabIn {ρ : Type} {q : ρ → aT → Option Value → aT → Prop} {E : eT} {M : md_T} {pc : Nat} {ls st : List Value} {a : aT} {o : Option ρ} {dflt lo hi off : Int} {offs : Array Int} {len tgt : Nat} {x x0 : Int32} (h0 : x = x0) (hd : decode (m_b M) pc = .ok (.tableswitch dflt lo hi offs, len)) (h3 : ¬ x0.toInt < lo) (h4 : ¬ hi < x0.toInt) (ho : offs[(x0.toInt - lo).toNat]? = some off) (ht : (pc : Int) + off = (tgt : Int)) (k : XP q E M tgt ls st a o) : XP q E M pc ls (.int x :: st) a o := by
  subst h0
  exact fun v h => RW_tabIn hd h3 h4 ho ht (k v h)
theorem XP_tabOut {ρ : Type} {q : ρ → aT → Option Value → aT → Prop} {E : eT} {M : md_T} {pc : Nat} {ls st : List Value} {a : aT} {o : Option ρ} {dflt lo hi : Int} {offs : Array Int} {len tgt n : Nat} {x : Int32} (hd : decode (m_b M) pc = .ok (.tableswitch dflt lo hi offs, len)) (h3 : ∀ i, i < n → ¬ x = OfNat.ofNat i) (hn : lo = 0 ∧ hi + 1 = (n : Int) ∧ n < 1000) (ht : (pc : Int) + dflt = (tgt : Int)) (k : XP q E M tgt ls st a o) : XP q E M pc ls (.int x :: st) a o := fun v h => RW_tabOut hd (tab_out h3 hn) ht (k v h)
theorem XP_look {ρ : Type} {q : ρ → aT → Option Value → aT → Prop} {E : eT} {M : md_T} {pc : Nat} {ls st : List Value} {a : aT} {o : Option ρ} {dflt off : Int} {ps : Array (Int × Int)} {len tgt : Nat} {x : Int32} (hd : decode (m_b M) pc = .ok (.lookupswitch dflt ps, len)) (hs : (ps.toList.zip (ps.toList.drop 1)).all (fun (a, next) => a.1 < next.1) = true) (ho : Op.lookupswitch.offset ps.toList dflt x.toInt = off) (ht : (pc : Int) + off = (tgt : Int)) (k : XP q E M tgt ls st a o) : XP q E M pc ls (.int x :: st) a o := fun v h => RW_look hd hs ho ht (k v h)
theorem XT_go {ρ : Type} {q : ρ → aT → Option Value → aT → Prop} {E : eT} {M : md_T} {pc : Nat} {ls st : List Value} {pc' : Nat} {ls' st' : List Value} {a' : aT} {o : ρ} (sg : List in_T) (hk : e_okL M pc sg = true) (h9 : stpAL (g_ro (gE E)) sg pc ls st a' = some (pc', ls', st', a')) (k : XT q E M pc' ls' st' a' o) : XT q E M pc ls st a' o := XQ_go sg hk h9 (k)
theorem XT_fg {ρ : Type} {q : ρ → aT → Option Value → aT → Prop} {E : eT} {M : md_T} {pc : Nat} {ls st : List Value} {a : aT} {o : ρ} (b : List Bool) (k : XT q E M pc (l_mk b ls) st a o) : XT q E M pc ls st a o := XQ_fg b (k)
theorem XT_br {ρ : Type} {q : ρ → aT → Option Value → aT → Prop} {E : eT} {M : md_T} {pc : Nat} {ls st : List Value} {a' : aT} {c : Prop} [Decidable c] {t e : Nat} {ls' st' : List Value} {o1 o2 : ρ} (sg : List in_T) (hk : e_okL M pc sg = true) (h : stpAL (g_ro (gE E)) sg pc ls st a' = some (if c then t else e, ls', st', a')) (kt : XT q E M t ls' st' a' o1) (ke : XT q E M e ls' st' a' o2) : XT q E M pc ls st a' (if c then o1 else o2) := by
  by_cases hc : c
  · rw [if_pos hc] at h ⊢
    exact XQ_go sg hk h kt
  · rw [if_neg hc] at h ⊢
    exact XQ_go sg hk h ke
theorem XT_if {ρ : Type} {q : ρ → aT → Option Value → aT → Prop} {E : eT} {M : md_T} {pc : Nat} {ls st : List Value} {a : aT} {c : Prop} [Decidable c] {o1 o2 : ρ} (kt : c → XT q E M pc ls st a o1) (ke : ¬ c → XT q E M pc ls st a o2) : XT q E M pc ls st a (if c then o1 else o2) := by
  by_cases hc : c
  · rw [if_pos hc]; exact kt hc
  · rw [if_neg hc]; exact ke hc
theorem XT_retI {E : eT} {M : md_T} {pc : Nat} {ls : List Value} {a : aT} {v : Int32} (hd : decode (m_b M) pc = .ok (.ireturn, 1)) : XT qI E M pc ls [.int v] a v := by
  exact XQ_ret (some (.int v)) (fun b q => by cases q) hd ⟨rfl, rfl⟩
theorem XT_retZ {E : eT} {M : md_T} {pc : Nat} {ls : List Value} {a : aT} {v v0 : Int32} (hd : decode (m_b M) pc = .ok (.ireturn, 1)) (hv : vp_nar .boolean v0 = v) : XT qZ E M pc ls [.int v0] a v := by
  exact XQ_ret (some (.int v0)) (fun b q => by cases q) hd ⟨⟨v0, rfl, hv⟩, rfl⟩
theorem XT_retJ {E : eT} {M : md_T} {pc : Nat} {ls : List Value} {a : aT} {v : Int64} (hd : decode (m_b M) pc = .ok (.lreturn, 1)) : XT qL E M pc ls [.long v] a v := by
  exact XQ_ret (some (.long v)) (fun b q => by cases q) hd ⟨rfl, rfl⟩
theorem XT_retV {E : eT} {M : md_T} {pc : Nat} {ls : List Value} {a : aT} (hd : decode (m_b M) pc = .ok (.return_, 1)) : XT qV E M pc ls [] a () := by
  exact XQ_ret none (fun b q => by cases q) hd ⟨rfl, rfl⟩
theorem XT_VT {ρ ρ' : Type} {q : ρ → aT → Option Value → aT → Prop} {q' : ρ' → aT → Option Value → aT → Prop} {tv : ρ' → List Value} {E : eT} {M M' : md_T} {pc idx : Nat} {ls rest As : List Value} {b ci : Nat} {fs : List (Option Nat)} {qc : vw_C} {a : aT} {v9 : ρ'} {o : ρ} (hd : decode (m_b M) pc = .ok (.invokevirtual idx, 3)) (hok : m_ok M') (hV : Cond.instanceMethod (m_y M') ∈ lw_tbl ∧ Cond.selects (m_y M').cls (m_y M') (m_y M') ∈ lw_tbl) {n : Nat} (hlk : c_lk M M' idx n) (hn : As.length = n) (ho : shp[b]? = some (.inr (ci, fs))) (hcq : vwCl[ci]? = some qc) (hqc : qc.1 = (m_y M').cls) (hw : (rest.map Value.category).sum ≤ 8) (hav : (l_en (.ref b :: As)).length ≤ m_L M') (hq : q_says M' q' tv) (hR : XT q' E M' 0 (l_ent (.ref b :: As) (m_L M')) [] a v9) (k : XT q E M (pc + 3) ls (tv v9 ++ rest) a o) : XT q E M pc ls (As.reverse ++ .ref b :: rest) a o := XQ_callV hd hok hV hlk hn ho hcq hqc hw hav hq hR (k)
theorem XT_ST {ρ ρ' : Type} {q : ρ → aT → Option Value → aT → Prop} {q' : ρ' → aT → Option Value → aT → Prop} {tv : ρ' → List Value} {E : eT} {M M' : md_T} {pc idx : Nat} {ls rest As : List Value} {a : aT} {v9 : ρ'} {o : ρ} (hd : decode (m_b M) pc = .ok (.invokestatic idx, 3)) (hok : m_ok M') (hV : Cond.static (m_y M') ∈ lw_tbl) {n : Nat} (hlk : c_lk M M' idx n) (hn : As.length = n) (hw : (rest.map Value.category).sum ≤ 8) (hav : (l_en As).length ≤ m_L M') (hq : q_says M' q' tv) (hR : XT q' E M' 0 (l_ent As (m_L M')) [] a v9) (k : XT q E M (pc + 3) ls (tv v9 ++ rest) a o) : XT q E M pc ls (As.reverse ++ rest) a o := XQ_callS hd hok hV hlk hn hw hav hq hR (k)
theorem XT_SNT {ρ ρ' : Type} {q : ρ → aT → Option Value → aT → Prop} {q' : ρ' → aT → Option Value → aT → Prop} {tv : ρ' → List Value} {E : eT} {M M' : md_T} {pc idx : Nat} {ls rest As : List Value} {a : aT} {v9 : ρ'} {o : ρ} (hd : decode (m_b M) pc = .ok (.invokestatic idx, 3)) (hok : m_ok M') (hV : Cond.static (m_y M') ∈ lw_tbl) {n : Nat} (hlk : c_lkN M M' idx n) (hn : As.length = n) (hw : (rest.map Value.category).sum ≤ 8) (hav : (l_en As).length ≤ m_L M') (hq : q_says M' q' tv) (hR : XT q' E M' 0 (l_ent As (m_L M')) [] a v9) (k : XT q E M (pc + 3) ls (tv v9 ++ rest) a o) : XT q E M pc ls (As.reverse ++ rest) a o := XQ_callSN hd hok hV hlk hn hw hav hq hR (k)
theorem XT_tabIn {ρ : Type} {q : ρ → aT → Option Value → aT → Prop} {E : eT} {M : md_T} {pc : Nat} {ls st : List Value} {a : aT} {o : ρ} {dflt lo hi off : Int} {offs : Array Int} {len tgt : Nat} {x x0 : Int32} (h0 : x = x0) (hd : decode (m_b M) pc = .ok (.tableswitch dflt lo hi offs, len)) (h3 : ¬ x0.toInt < lo) (h4 : ¬ hi < x0.toInt) (ho : offs[(x0.toInt - lo).toNat]? = some off) (ht : (pc : Int) + off = (tgt : Int)) (k : XT q E M tgt ls st a o) : XT q E M pc ls (.int x :: st) a o := by
  subst h0
  exact RW_tabIn hd h3 h4 ho ht (k)
theorem XT_tabOut {ρ : Type} {q : ρ → aT → Option Value → aT → Prop} {E : eT} {M : md_T} {pc : Nat} {ls st : List Value} {a : aT} {o : ρ} {dflt lo hi : Int} {offs : Array Int} {len tgt n : Nat} {x : Int32} (hd : decode (m_b M) pc = .ok (.tableswitch dflt lo hi offs, len)) (h3 : ∀ i, i < n → ¬ x = OfNat.ofNat i) (hn : lo = 0 ∧ hi + 1 = (n : Int) ∧ n < 1000) (ht : (pc : Int) + dflt = (tgt : Int)) (k : XT q E M tgt ls st a o) : XT q E M pc ls (.int x :: st) a o := RW_tabOut hd (tab_out h3 hn) ht (k)
theorem XT_look {ρ : Type} {q : ρ → aT → Option Value → aT → Prop} {E : eT} {M : md_T} {pc : Nat} {ls st : List Value} {a : aT} {o : ρ} {dflt off : Int} {ps : Array (Int × Int)} {len tgt : Nat} {x : Int32} (hd : decode (m_b M) pc = .ok (.lookupswitch dflt ps, len)) (hs : (ps.toList.zip (ps.toList.drop 1)).all (fun (a, next) => a.1 < next.1) = true) (ho : Op.lookupswitch.offset ps.toList dflt x.toInt = off) (ht : (pc : Int) + off = (tgt : Int)) (k : XT q E M tgt ls st a o) : XT q E M pc ls (.int x :: st) a o := RW_look hd hs ho ht (k)
end
section
theorem lk_C_1 : Cond.methodLink RX10 1 objectInit ∈ lw_tbl := List.mem_of_getElem? (i := 71) (by decide +kernel)
theorem lk_C_9 : Cond.methodLink RX10 9 yX9_init ∈ lw_tbl := List.mem_of_getElem? (i := 76) (by decide +kernel)
theorem lk_C_18 : Cond.methodLinkNest RX10 18 yX6_init "ChestnutSticks" ∈ nest_W := List.mem_filter.mpr ⟨List.mem_of_getElem? (i := 100) (by decide +kernel), rfl⟩
theorem lk_C_25 : Cond.methodLinkNest RX10 25 yX2_init "ChestnutSticks" ∈ nest_W := List.mem_filter.mpr ⟨List.mem_of_getElem? (i := 110) (by decide +kernel), rfl⟩
theorem lk_C_32 : Cond.methodLinkNest RX10 32 yX0_init "ChestnutSticks" ∈ nest_W := List.mem_filter.mpr ⟨List.mem_of_getElem? (i := 123) (by decide +kernel), rfl⟩
theorem lk_C_39 : Cond.methodLinkNest RX10 39 yX8_init "ChestnutSticks" ∈ nest_W := List.mem_filter.mpr ⟨List.mem_of_getElem? (i := 133) (by decide +kernel), rfl⟩
theorem lk_C_46 : Cond.methodLink RX10 46 yX1_init ∈ lw_tbl := List.mem_of_getElem? (i := 152) (by decide +kernel)
theorem lk_C_55 : Cond.methodLink RX10 55 yX3_init ∈ lw_tbl := List.mem_of_getElem? (i := 201) (by decide +kernel)
theorem lk_C_64 : Cond.methodLinkNest RX10 64 yX7_init "ChestnutSticks" ∈ nest_W := List.mem_filter.mpr ⟨List.mem_of_getElem? (i := 214) (by decide +kernel), rfl⟩
theorem lk_C_71 : Cond.methodLinkNest RX10 71 yX5_init "ChestnutSticks" ∈ nest_W := List.mem_filter.mpr ⟨List.mem_of_getElem? (i := 230) (by decide +kernel), rfl⟩
theorem lk_C_78 : Cond.methodLinkNest RX10 78 yX4_init "ChestnutSticks" ∈ nest_W := List.mem_filter.mpr ⟨List.mem_of_getElem? (i := 246) (by decide +kernel), rfl⟩
theorem lk_C_83 : Cond.methodLink RX10 83 yX9_append ∈ lw_tbl := List.mem_of_getElem? (i := 298) (by decide +kernel)
theorem lk_C_87 : Cond.methodLink RX10 87 yX9_empty ∈ lw_tbl := List.mem_of_getElem? (i := 323) (by decide +kernel)
theorem lk_C_91 : Cond.methodLink RX10 91 yX9_removeLast ∈ lw_tbl := List.mem_of_getElem? (i := 331) (by decide +kernel)
theorem lk_C_94 : Cond.methodLink RX10 94 yX9_faultPlace ∈ lw_tbl := List.mem_of_getElem? (i := 339) (by decide +kernel)
theorem lk_C_97 : Cond.methodLink RX10 97 yX6_change ∈ lw_tbl := List.mem_of_getElem? (i := 347) (by decide +kernel)
theorem lk_C_101 : Cond.methodLink RX10 101 yX2_change ∈ lw_tbl := List.mem_of_getElem? (i := 364) (by decide +kernel)
theorem lk_C_104 : Cond.methodLink RX10 104 yX2_changeSeed ∈ lw_tbl := List.mem_of_getElem? (i := 375) (by decide +kernel)
theorem lk_C_107 : Cond.methodLink RX10 107 yX0_place ∈ lw_tbl := List.mem_of_getElem? (i := 383) (by decide +kernel)
theorem lk_C_110 : Cond.methodLink RX10 110 yX10_isBelow ∈ lw_tbl := List.mem_of_getElem? (i := 392) (by decide +kernel)
theorem lk_C_114 : Cond.methodLink RX10 114 yX4_isLost ∈ lw_tbl := List.mem_of_getElem? (i := 393) (by decide +kernel)
theorem lk_C_118 : Cond.methodLink RX10 118 yX4_find ∈ lw_tbl := List.mem_of_getElem? (i := 402) (by decide +kernel)
theorem lk_C_121 : Cond.methodLink RX10 121 yX4_sizeOf ∈ lw_tbl := List.mem_of_getElem? (i := 406) (by decide +kernel)
theorem lk_C_124 : Cond.methodLink RX10 124 yJ9_min_7cf53 ∈ lw_tbl := List.mem_of_getElem? (i := 410) (by decide +kernel)
theorem lk_C_129 : Cond.methodLink RX10 129 yX4_itemOf ∈ lw_tbl := List.mem_of_getElem? (i := 413) (by decide +kernel)
theorem lk_C_132 : Cond.methodLink RX10 132 yX8_append ∈ lw_tbl := List.mem_of_getElem? (i := 421) (by decide +kernel)
theorem lk_C_134 : Cond.methodLink RX10 134 yX8_removeLast ∈ lw_tbl := List.mem_of_getElem? (i := 430) (by decide +kernel)
theorem lk_C_135 : Cond.methodLink RX10 135 yX1_replayAll ∈ lw_tbl := List.mem_of_getElem? (i := 438) (by decide +kernel)
theorem lk_C_138 : Cond.methodLink RX10 138 yX1_firstNotDone ∈ lw_tbl := List.mem_of_getElem? (i := 542) (by decide +kernel)
theorem lk_C_141 : Cond.methodLink RX10 141 yX8_size ∈ lw_tbl := List.mem_of_getElem? (i := 550) (by decide +kernel)
theorem lk_C_144 : Cond.methodLink RX10 144 yX2_seedNow ∈ lw_tbl := List.mem_of_getElem? (i := 551) (by decide +kernel)
theorem lk_C_147 : Cond.methodLink RX10 147 yX1_replay ∈ lw_tbl := List.mem_of_getElem? (i := 552) (by decide +kernel)
theorem lk_C_151 : Cond.methodLink RX10 151 yX1_ballsUp ∈ lw_tbl := List.mem_of_getElem? (i := 553) (by decide +kernel)
theorem lk_C_154 : Cond.methodLink RX10 154 yX1_ripeDown ∈ lw_tbl := List.mem_of_getElem? (i := 557) (by decide +kernel)
theorem lk_C_157 : Cond.methodLink RX10 157 yX1_greenDown ∈ lw_tbl := List.mem_of_getElem? (i := 561) (by decide +kernel)
theorem lk_C_160 : Cond.methodLink RX10 160 yX1_lodgedBits ∈ lw_tbl := List.mem_of_getElem? (i := 565) (by decide +kernel)
theorem lk_C_163 : Cond.methodLink RX10 163 yX1_broughtBy ∈ lw_tbl := List.mem_of_getElem? (i := 569) (by decide +kernel)
theorem lk_C_166 : Cond.methodLink RX10 166 yX9_isCell ∈ lw_tbl := List.mem_of_getElem? (i := 577) (by decide +kernel)
theorem lk_C_169 : Cond.methodLink RX10 169 yX1_hangsNow ∈ lw_tbl := List.mem_of_getElem? (i := 578) (by decide +kernel)
theorem lk_C_172 : Cond.methodLink RX10 172 yX1_ripeOf ∈ lw_tbl := List.mem_of_getElem? (i := 586) (by decide +kernel)
theorem lk_C_177 : Cond.methodLink RX10 177 yX1_sixteenths ∈ lw_tbl := List.mem_of_getElem? (i := 595) (by decide +kernel)
theorem lk_C_183 : Cond.methodLink RX10 183 yX10_lowest ∈ lw_tbl := List.mem_of_getElem? (i := 604) (by decide +kernel)
theorem lk_C_188 : Cond.methodLink RX10 188 yX1_worthOf ∈ lw_tbl := List.mem_of_getElem? (i := 613) (by decide +kernel)
theorem lk_C_191 : Cond.methodLink RX10 191 yX1_bestCell ∈ lw_tbl := List.mem_of_getElem? (i := 622) (by decide +kernel)
theorem lk_C_194 : Cond.methodLink RX10 194 yX1_lodgedIn ∈ lw_tbl := List.mem_of_getElem? (i := 631) (by decide +kernel)
theorem lk_C_197 : Cond.methodLink RX10 197 yX1_sixteenthsOfStriking ∈ lw_tbl := List.mem_of_getElem? (i := 636) (by decide +kernel)
theorem lk_C_200 : Cond.methodLink RX10 200 yX2_now ∈ lw_tbl := List.mem_of_getElem? (i := 644) (by decide +kernel)
theorem lk_C_203 : Cond.methodLink RX10 203 yX3_fallenTimesPower ∈ lw_tbl := List.mem_of_getElem? (i := 645) (by decide +kernel)
theorem lk_C_207 : Cond.methodLink RX10 207 yX10_power ∈ lw_tbl := List.mem_of_getElem? (i := 659) (by decide +kernel)
theorem lk_C_211 : Cond.methodLink RX10 211 yX9_ripeOn ∈ lw_tbl := List.mem_of_getElem? (i := 664) (by decide +kernel)
theorem lk_C_214 : Cond.methodLink RX10 214 yX3_restBits ∈ lw_tbl := List.mem_of_getElem? (i := 674) (by decide +kernel)
theorem lk_C_217 : Cond.methodLink RX10 217 yX3_endOf ∈ lw_tbl := List.mem_of_getElem? (i := 691) (by decide +kernel)
theorem lk_C_220 : Cond.methodLink RX10 220 yX7_append ∈ lw_tbl := List.mem_of_getElem? (i := 703) (by decide +kernel)
theorem lk_C_222 : Cond.methodLink RX10 222 yX7_empty ∈ lw_tbl := List.mem_of_getElem? (i := 712) (by decide +kernel)
theorem lk_C_223 : Cond.methodLink RX10 223 yX7_firstFree ∈ lw_tbl := List.mem_of_getElem? (i := 720) (by decide +kernel)
theorem lk_C_226 : Cond.methodLink RX10 226 yX7_hitsInRound ∈ lw_tbl := List.mem_of_getElem? (i := 742) (by decide +kernel)
theorem lk_C_229 : Cond.methodLink RX10 229 yX7_roundLength ∈ lw_tbl := List.mem_of_getElem? (i := 746) (by decide +kernel)
theorem lk_C_232 : Cond.methodLink RX10 232 yX5_append ∈ lw_tbl := List.mem_of_getElem? (i := 751) (by decide +kernel)
theorem lk_C_233 : Cond.methodLink RX10 233 yX5_empty ∈ lw_tbl := List.mem_of_getElem? (i := 760) (by decide +kernel)
theorem lk_C_234 : Cond.methodLink RX10 234 yX5_fit ∈ lw_tbl := List.mem_of_getElem? (i := 768) (by decide +kernel)
theorem lk_C_238 : Cond.methodLink RX10 238 yX4_makeNew ∈ lw_tbl := List.mem_of_getElem? (i := 777) (by decide +kernel)
theorem lk_C_242 : Cond.methodLink RX10 242 yX4_makeLost ∈ lw_tbl := List.mem_of_getElem? (i := 785) (by decide +kernel)
theorem lk_C_245 : Cond.methodLink RX10 245 yX4_whyNot ∈ lw_tbl := List.mem_of_getElem? (i := 794) (by decide +kernel)
theorem lk_C_248 : Cond.methodLink RX10 248 yX4_put ∈ lw_tbl := List.mem_of_getElem? (i := 799) (by decide +kernel)
theorem lk_C_252 : Cond.methodLink RX10 252 yX4_formOf ∈ lw_tbl := List.mem_of_getElem? (i := 815) (by decide +kernel)
theorem lk_C_255 : Cond.methodLink RX10 255 yX4_hasRun ∈ lw_tbl := List.mem_of_getElem? (i := 816) (by decide +kernel)
theorem lk_C_259 : Cond.methodLink RX10 259 yX4_move ∈ lw_tbl := List.mem_of_getElem? (i := 820) (by decide +kernel)
theorem lk_C_263 : Cond.methodLink RX10 263 yX9_cellCount ∈ lw_tbl := List.mem_of_getElem? (i := 834) (by decide +kernel)
theorem lk_C_266 : Cond.methodLink RX10 266 yX9_ballCount ∈ lw_tbl := List.mem_of_getElem? (i := 839) (by decide +kernel)
theorem lk_C_269 : Cond.methodLink RX10 269 yX9_textLength ∈ lw_tbl := List.mem_of_getElem? (i := 843) (by decide +kernel)
theorem lk_C_272 : Cond.methodLink RX10 272 yX1_doneCount ∈ lw_tbl := List.mem_of_getElem? (i := 847) (by decide +kernel)
theorem lk_C_275 : Cond.methodLink RX10 275 yX7_size ∈ lw_tbl := List.mem_of_getElem? (i := 851) (by decide +kernel)
theorem lk_C_276 : Cond.methodLink RX10 276 yX5_size ∈ lw_tbl := List.mem_of_getElem? (i := 855) (by decide +kernel)
theorem lk_C_277 : Cond.methodLink RX10 277 yX4_latestFinding ∈ lw_tbl := List.mem_of_getElem? (i := 859) (by decide +kernel)
theorem lk_C_284 : Cond.methodLink RX10 284 yX10_count ∈ lw_tbl := List.mem_of_getElem? (i := 869) (by decide +kernel)
theorem lk_C_287 : Cond.methodLink RX10 287 yX10_fault ∈ lw_tbl := List.mem_of_getElem? (i := 870) (by decide +kernel)
theorem lk_C_290 : Cond.methodLink RX10 290 yX10_judged ∈ lw_tbl := List.mem_of_getElem? (i := 871) (by decide +kernel)
theorem lk_C_293 : Cond.methodLink RX10 293 yX10_state ∈ lw_tbl := List.mem_of_getElem? (i := 872) (by decide +kernel)
theorem lk_C_296 : Cond.methodLink RX10 296 yX10_has ∈ lw_tbl := List.mem_of_getElem? (i := 873) (by decide +kernel)
theorem lk_C_299 : Cond.methodLink RX10 299 yX10_brings ∈ lw_tbl := List.mem_of_getElem? (i := 874) (by decide +kernel)
theorem lk_C_302 : Cond.methodLink RX10 302 yX10_worth ∈ lw_tbl := List.mem_of_getElem? (i := 875) (by decide +kernel)
theorem lk_C_305 : Cond.methodLink RX10 305 yX10_where ∈ lw_tbl := List.mem_of_getElem? (i := 876) (by decide +kernel)
theorem lk_C_308 : Cond.methodLink RX10 308 yX10_which ∈ lw_tbl := List.mem_of_getElem? (i := 877) (by decide +kernel)
theorem lk_C_311 : Cond.methodLink RX10 311 yX10_frees ∈ lw_tbl := List.mem_of_getElem? (i := 878) (by decide +kernel)
theorem lk_C_314 : Cond.methodLink RX10 314 yX10_lie ∈ lw_tbl := List.mem_of_getElem? (i := 879) (by decide +kernel)
theorem lk_C_318 : Cond.methodLink RX10 318 yX10_ripe ∈ lw_tbl := List.mem_of_getElem? (i := 880) (by decide +kernel)
theorem lk_C_321 : Cond.methodLink RX10 321 yX10_rests ∈ lw_tbl := List.mem_of_getElem? (i := 881) (by decide +kernel)
theorem lk_C_324 : Cond.methodLink RX10 324 yX10_ends ∈ lw_tbl := List.mem_of_getElem? (i := 882) (by decide +kernel)
theorem lk_C_327 : Cond.methodLink RX10 327 yX10_run ∈ lw_tbl := List.mem_of_getElem? (i := 883) (by decide +kernel)
theorem lk_C_330 : Cond.methodLink RX10 330 yX10_hit ∈ lw_tbl := List.mem_of_getElem? (i := 884) (by decide +kernel)
theorem lk_C_333 : Cond.methodLink RX10 333 yX10_seeds ∈ lw_tbl := List.mem_of_getElem? (i := 885) (by decide +kernel)
theorem lk_K_3 : Cond.methodLink RX0 3 objectInit ∈ lw_tbl := List.mem_of_getElem? (i := 126) (by decide +kernel)
theorem lk_K_15 : Cond.methodLinkNest RX0 15 yX10_isBelow "ChestnutSticks" ∈ nest_W := List.mem_filter.mpr ⟨List.mem_of_getElem? (i := 387) (by decide +kernel), rfl⟩
theorem lk_K_19 : Cond.methodLink RX0 19 yJ9_abs_0f7a4 ∈ lw_tbl := List.mem_of_getElem? (i := 524) (by decide +kernel)
theorem lk_P_3 : Cond.methodLink RX1 3 objectInit ∈ lw_tbl := List.mem_of_getElem? (i := 155) (by decide +kernel)
theorem lk_P_60 : Cond.methodLink RX1 60 yX8_size ∈ lw_tbl := List.mem_of_getElem? (i := 442) (by decide +kernel)
theorem lk_P_66 : Cond.methodLink RX1 66 yX2_seedNow ∈ lw_tbl := List.mem_of_getElem? (i := 446) (by decide +kernel)
theorem lk_P_71 : Cond.methodLink RX1 71 yX1_replay ∈ lw_tbl := List.mem_of_getElem? (i := 450) (by decide +kernel)
theorem lk_P_75 : Cond.methodLink RX1 75 yX1_begin ∈ lw_tbl := List.mem_of_getElem? (i := 454) (by decide +kernel)
theorem lk_P_79 : Cond.methodLink RX1 79 yX1_throwOne ∈ lw_tbl := List.mem_of_getElem? (i := 473) (by decide +kernel)
theorem lk_P_82 : Cond.methodLinkNest RX1 82 yX10_isBelow "ChestnutSticks" ∈ nest_W := List.mem_filter.mpr ⟨List.mem_of_getElem? (i := 493) (by decide +kernel), rfl⟩
theorem lk_P_86 : Cond.methodLink RX1 86 yX2_now ∈ lw_tbl := List.mem_of_getElem? (i := 462) (by decide +kernel)
theorem lk_P_90 : Cond.methodLink RX1 90 yX1_struckBalls ∈ lw_tbl := List.mem_of_getElem? (i := 599) (by decide +kernel)
theorem lk_P_94 : Cond.methodLink RX1 94 yX1_sixteenths ∈ lw_tbl := List.mem_of_getElem? (i := 617) (by decide +kernel)
theorem lk_P_98 : Cond.methodLink RX1 98 yX9_isCell ∈ lw_tbl := List.mem_of_getElem? (i := 485) (by decide +kernel)
theorem lk_P_104 : Cond.methodLink RX1 104 yX1_worthOf ∈ lw_tbl := List.mem_of_getElem? (i := 626) (by decide +kernel)
theorem lk_P_108 : Cond.methodLink RX1 108 yX6_now ∈ lw_tbl := List.mem_of_getElem? (i := 507) (by decide +kernel)
theorem lk_P_112 : Cond.methodLink RX1 112 yX1_strikes ∈ lw_tbl := List.mem_of_getElem? (i := 535) (by decide +kernel)
theorem lk_P_116 : Cond.methodLink RX1 116 yX9_hasBall ∈ lw_tbl := List.mem_of_getElem? (i := 458) (by decide +kernel)
theorem lk_P_119 : Cond.methodLink RX1 119 yX9_hangsOn ∈ lw_tbl := List.mem_of_getElem? (i := 466) (by decide +kernel)
theorem lk_P_123 : Cond.methodLink RX1 123 yX8_stickAt ∈ lw_tbl := List.mem_of_getElem? (i := 477) (by decide +kernel)
theorem lk_P_126 : Cond.methodLink RX1 126 yX8_cellNumberAt ∈ lw_tbl := List.mem_of_getElem? (i := 481) (by decide +kernel)
theorem lk_P_129 : Cond.methodLink RX1 129 yX1_lodgedIn ∈ lw_tbl := List.mem_of_getElem? (i := 489) (by decide +kernel)
theorem lk_P_132 : Cond.methodLink RX1 132 yX1_lotOfSixteen ∈ lw_tbl := List.mem_of_getElem? (i := 494) (by decide +kernel)
theorem lk_P_135 : Cond.methodLink RX1 135 yX1_sideOf ∈ lw_tbl := List.mem_of_getElem? (i := 499) (by decide +kernel)
theorem lk_P_138 : Cond.methodLink RX1 138 yX1_bringDown ∈ lw_tbl := List.mem_of_getElem? (i := 503) (by decide +kernel)
theorem lk_P_142 : Cond.methodLink RX1 142 yX1_freeSticks ∈ lw_tbl := List.mem_of_getElem? (i := 531) (by decide +kernel)
theorem lk_P_145 : Cond.methodLink RX1 145 yX9_cellAt ∈ lw_tbl := List.mem_of_getElem? (i := 538) (by decide +kernel)
theorem lk_P_148 : Cond.methodLink RX1 148 yX1_hangsIfStruck ∈ lw_tbl := List.mem_of_getElem? (i := 508) (by decide +kernel)
theorem lk_P_152 : Cond.methodLink RX1 152 yX1_takeDown ∈ lw_tbl := List.mem_of_getElem? (i := 512) (by decide +kernel)
theorem lk_P_155 : Cond.methodLink RX1 155 yX8_kidAt ∈ lw_tbl := List.mem_of_getElem? (i := 516) (by decide +kernel)
theorem lk_P_158 : Cond.methodLink RX1 158 yX0_nearest ∈ lw_tbl := List.mem_of_getElem? (i := 520) (by decide +kernel)
theorem lk_P_163 : Cond.methodLink RX1 163 yX1_give ∈ lw_tbl := List.mem_of_getElem? (i := 527) (by decide +kernel)
theorem lk_R_3 : Cond.methodLink RX2 3 objectInit ∈ lw_tbl := List.mem_of_getElem? (i := 113) (by decide +kernel)
theorem lk_R_19 : Cond.methodLinkNest RX2 19 yX10_isBelow "ChestnutSticks" ∈ nest_W := List.mem_filter.mpr ⟨List.mem_of_getElem? (i := 368) (by decide +kernel), rfl⟩
theorem lk_S_3 : Cond.methodLink RX3 3 objectInit ∈ lw_tbl := List.mem_of_getElem? (i := 204) (by decide +kernel)
theorem lk_S_21 : Cond.methodLinkNest RX3 21 yX10_power "ChestnutSticks" ∈ nest_W := List.mem_filter.mpr ⟨List.mem_of_getElem? (i := 650) (by decide +kernel), rfl⟩
theorem lk_S_25 : Cond.methodLink RX3 25 yX9_hasBall ∈ lw_tbl := List.mem_of_getElem? (i := 653) (by decide +kernel)
theorem lk_S_31 : Cond.methodLink RX3 31 yX3_nightsInDanger ∈ lw_tbl := List.mem_of_getElem? (i := 654) (by decide +kernel)
theorem lk_S_35 : Cond.methodLink RX3 35 yX3_fillRipe ∈ lw_tbl := List.mem_of_getElem? (i := 678) (by decide +kernel)
theorem lk_S_38 : Cond.methodLink RX3 38 yX3_betterAhead ∈ lw_tbl := List.mem_of_getElem? (i := 683) (by decide +kernel)
theorem lk_S_42 : Cond.methodLink RX3 42 yX3_firstGreatest ∈ lw_tbl := List.mem_of_getElem? (i := 695) (by decide +kernel)
theorem lk_S_46 : Cond.methodLink RX3 46 yX9_hangsOn ∈ lw_tbl := List.mem_of_getElem? (i := 658) (by decide +kernel)
theorem lk_S_49 : Cond.methodLink RX3 49 yX9_ripeOn ∈ lw_tbl := List.mem_of_getElem? (i := 682) (by decide +kernel)
theorem lk_H_3 : Cond.methodLink RX4 3 objectInit ∈ lw_tbl := List.mem_of_getElem? (i := 249) (by decide +kernel)
theorem lk_H_25 : Cond.methodLink RX4 25 yX4_formOf ∈ lw_tbl := List.mem_of_getElem? (i := 397) (by decide +kernel)
theorem lk_H_29 : Cond.methodLinkNest RX4 29 yX10_isBelow "ChestnutSticks" ∈ nest_W := List.mem_filter.mpr ⟨List.mem_of_getElem? (i := 401) (by decide +kernel), rfl⟩
theorem lk_H_33 : Cond.methodLink RX4 33 yX4_isLost ∈ lw_tbl := List.mem_of_getElem? (i := 798) (by decide +kernel)
theorem lk_H_37 : Cond.methodLink RX4 37 yX4_sizeOf ∈ lw_tbl := List.mem_of_getElem? (i := 789) (by decide +kernel)
theorem lk_H_40 : Cond.methodLink RX4 40 yX4_lowestBits ∈ lw_tbl := List.mem_of_getElem? (i := 803) (by decide +kernel)
theorem lk_H_44 : Cond.methodLink RX4 44 yX4_itemOf ∈ lw_tbl := List.mem_of_getElem? (i := 824) (by decide +kernel)
theorem lk_H_47 : Cond.methodLink RX4 47 yX4_put ∈ lw_tbl := List.mem_of_getElem? (i := 825) (by decide +kernel)
theorem lk_G_3 : Cond.methodLink RX5 3 objectInit ∈ lw_tbl := List.mem_of_getElem? (i := 233) (by decide +kernel)
theorem lk_G_22 : Cond.methodLinkNest RX5 22 yX10_isBelow "ChestnutSticks" ∈ nest_W := List.mem_filter.mpr ⟨List.mem_of_getElem? (i := 755) (by decide +kernel), rfl⟩
theorem lk_G_26 : Cond.methodLink RX5 26 yX1_broughtBy ∈ lw_tbl := List.mem_of_getElem? (i := 772) (by decide +kernel)
theorem lk_T_3 : Cond.methodLink RX6 3 objectInit ∈ lw_tbl := List.mem_of_getElem? (i := 103) (by decide +kernel)
theorem lk_T_15 : Cond.methodLinkNest RX6 15 yX10_isBelow "ChestnutSticks" ∈ nest_W := List.mem_filter.mpr ⟨List.mem_of_getElem? (i := 351) (by decide +kernel), rfl⟩
theorem lk_T_25 : Cond.methodLink RX6 25 yX6_now ∈ lw_tbl := List.mem_of_getElem? (i := 356) (by decide +kernel)
theorem lk_W_3 : Cond.methodLink RX7 3 objectInit ∈ lw_tbl := List.mem_of_getElem? (i := 217) (by decide +kernel)
theorem lk_W_22 : Cond.methodLinkNest RX7 22 yX10_isBelow "ChestnutSticks" ∈ nest_W := List.mem_filter.mpr ⟨List.mem_of_getElem? (i := 707) (by decide +kernel), rfl⟩
theorem lk_W_26 : Cond.methodLink RX7 26 yX7_leastMultiple ∈ lw_tbl := List.mem_of_getElem? (i := 728) (by decide +kernel)
theorem lk_W_30 : Cond.methodLink RX7 30 yX7_roundLength ∈ lw_tbl := List.mem_of_getElem? (i := 724) (by decide +kernel)
theorem lk_W_34 : Cond.methodLink RX7 34 yX7_isHit ∈ lw_tbl := List.mem_of_getElem? (i := 731) (by decide +kernel)
theorem lk_W_37 : Cond.methodLink RX7 37 yJ9_floorMod_7cf53 ∈ lw_tbl := List.mem_of_getElem? (i := 735) (by decide +kernel)
theorem lk_O_3 : Cond.methodLink RX8 3 objectInit ∈ lw_tbl := List.mem_of_getElem? (i := 136) (by decide +kernel)
theorem lk_O_25 : Cond.methodLinkNest RX8 25 yX10_isBelow "ChestnutSticks" ∈ nest_W := List.mem_filter.mpr ⟨List.mem_of_getElem? (i := 425) (by decide +kernel), rfl⟩
theorem lk_E_3 : Cond.methodLink RX9 3 objectInit ∈ lw_tbl := List.mem_of_getElem? (i := 79) (by decide +kernel)
theorem lk_E_25 : Cond.methodLink RX9 25 yX9_clearCells ∈ lw_tbl := List.mem_of_getElem? (i := 80) (by decide +kernel)
theorem lk_E_28 : Cond.methodLinkNest RX9 28 yX10_isBelow "ChestnutSticks" ∈ nest_W := List.mem_filter.mpr ⟨List.mem_of_getElem? (i := 302) (by decide +kernel), rfl⟩
theorem lk_E_32 : Cond.methodLink RX9 32 yX9_parse ∈ lw_tbl := List.mem_of_getElem? (i := 305) (by decide +kernel)
theorem lk_E_35 : Cond.methodLink RX9 35 yJ9_max_7cf53 ∈ lw_tbl := List.mem_of_getElem? (i := 470) (by decide +kernel)
theorem lk_E_41 : Cond.methodLink RX9 41 yX9_isCell ∈ lw_tbl := List.mem_of_getElem? (i := 838) (by decide +kernel)
theorem lk_E_45 : Cond.methodLink RX9 45 yX9_hasBall ∈ lw_tbl := List.mem_of_getElem? (i := 668) (by decide +kernel)
theorem lk_E_48 : Cond.methodLink RX9 48 yX9_hangsOn ∈ lw_tbl := List.mem_of_getElem? (i := 669) (by decide +kernel)
theorem lk_E_51 : Cond.methodLink RX9 51 yX9_fillCells ∈ lw_tbl := List.mem_of_getElem? (i := 309) (by decide +kernel)
theorem lk_E_55 : Cond.methodLink RX9 55 yX9_isTooSoon ∈ lw_tbl := List.mem_of_getElem? (i := 313) (by decide +kernel)
theorem lk_E_59 : Cond.methodLink RX9 59 yX9_isCellSign ∈ lw_tbl := List.mem_of_getElem? (i := 316) (by decide +kernel)
theorem lk_L_9 : Cond.methodLink R_law 9 yX10_init ∈ lw_tbl := List.mem_of_getElem? (i := 68) (by decide +kernel)
theorem lk_L_12 : Cond.methodLink R_law 12 yX11_init ∈ lw_tbl := List.mem_of_getElem? (i := 888) (by decide +kernel)
theorem lk_L_13 : Cond.methodLink R_law 13 yX10_type ∈ lw_tbl := List.mem_of_getElem? (i := 294) (by decide +kernel)
theorem lk_L_17 : Cond.methodLink R_law 17 yX11_type ∈ lw_tbl := List.mem_of_getElem? (i := 1033) (by decide +kernel)
theorem lk_L_18 : Cond.methodLink R_law 18 yX10_wipe ∈ lw_tbl := List.mem_of_getElem? (i := 319) (by decide +kernel)
theorem lk_L_22 : Cond.methodLink R_law 22 yX11_wipe ∈ lw_tbl := List.mem_of_getElem? (i := 1038) (by decide +kernel)
theorem lk_L_23 : Cond.methodLink R_law 23 yX10_undo ∈ lw_tbl := List.mem_of_getElem? (i := 327) (by decide +kernel)
theorem lk_L_26 : Cond.methodLink R_law 26 yX11_undo ∈ lw_tbl := List.mem_of_getElem? (i := 1042) (by decide +kernel)
theorem lk_L_27 : Cond.methodLink R_law 27 yX10_fault ∈ lw_tbl := List.mem_of_getElem? (i := 335) (by decide +kernel)
theorem lk_L_30 : Cond.methodLink R_law 30 yX11_fault ∈ lw_tbl := List.mem_of_getElem? (i := 1046) (by decide +kernel)
theorem lk_L_31 : Cond.methodLink R_law 31 yX10_stick ∈ lw_tbl := List.mem_of_getElem? (i := 343) (by decide +kernel)
theorem lk_L_35 : Cond.methodLink R_law 35 yX11_stick ∈ lw_tbl := List.mem_of_getElem? (i := 1064) (by decide +kernel)
theorem lk_L_36 : Cond.methodLink R_law 36 yX10_set ∈ lw_tbl := List.mem_of_getElem? (i := 360) (by decide +kernel)
theorem lk_L_40 : Cond.methodLink R_law 40 yX11_set ∈ lw_tbl := List.mem_of_getElem? (i := 1073) (by decide +kernel)
theorem lk_L_41 : Cond.methodLink R_law 41 yX10_seed ∈ lw_tbl := List.mem_of_getElem? (i := 371) (by decide +kernel)
theorem lk_L_44 : Cond.methodLink R_law 44 yX11_seed ∈ lw_tbl := List.mem_of_getElem? (i := 1081) (by decide +kernel)
theorem lk_L_45 : Cond.methodLink R_law 45 yX10_stands ∈ lw_tbl := List.mem_of_getElem? (i := 379) (by decide +kernel)
theorem lk_L_48 : Cond.methodLink R_law 48 yX11_stands ∈ lw_tbl := List.mem_of_getElem? (i := 1085) (by decide +kernel)
theorem lk_L_49 : Cond.methodLink R_law 49 yX10_read ∈ lw_tbl := List.mem_of_getElem? (i := 388) (by decide +kernel)
theorem lk_L_52 : Cond.methodLink R_law 52 yX11_read ∈ lw_tbl := List.mem_of_getElem? (i := 1090) (by decide +kernel)
theorem lk_L_53 : Cond.methodLink R_law 53 yX10_toss ∈ lw_tbl := List.mem_of_getElem? (i := 417) (by decide +kernel)
theorem lk_L_56 : Cond.methodLink R_law 56 yX11_toss ∈ lw_tbl := List.mem_of_getElem? (i := 1095) (by decide +kernel)
theorem lk_L_57 : Cond.methodLink R_law 57 yX10_back ∈ lw_tbl := List.mem_of_getElem? (i := 426) (by decide +kernel)
theorem lk_L_60 : Cond.methodLink R_law 60 yX11_back ∈ lw_tbl := List.mem_of_getElem? (i := 1100) (by decide +kernel)
theorem lk_L_61 : Cond.methodLink R_law 61 yX10_judged ∈ lw_tbl := List.mem_of_getElem? (i := 434) (by decide +kernel)
theorem lk_L_64 : Cond.methodLink R_law 64 yX11_judged ∈ lw_tbl := List.mem_of_getElem? (i := 1104) (by decide +kernel)
theorem lk_L_65 : Cond.methodLink R_law 65 yX10_state ∈ lw_tbl := List.mem_of_getElem? (i := 546) (by decide +kernel)
theorem lk_L_68 : Cond.methodLink R_law 68 yX11_state ∈ lw_tbl := List.mem_of_getElem? (i := 1154) (by decide +kernel)
theorem lk_L_69 : Cond.methodLink R_law 69 yX10_hangs ∈ lw_tbl := List.mem_of_getElem? (i := 573) (by decide +kernel)
theorem lk_L_72 : Cond.methodLink R_law 72 yX11_hangs ∈ lw_tbl := List.mem_of_getElem? (i := 1171) (by decide +kernel)
theorem lk_L_73 : Cond.methodLink R_law 73 yX10_has ∈ lw_tbl := List.mem_of_getElem? (i := 582) (by decide +kernel)
theorem lk_L_76 : Cond.methodLink R_law 76 yX11_has ∈ lw_tbl := List.mem_of_getElem? (i := 1175) (by decide +kernel)
theorem lk_L_77 : Cond.methodLink R_law 77 yX10_brings ∈ lw_tbl := List.mem_of_getElem? (i := 590) (by decide +kernel)
theorem lk_L_81 : Cond.methodLink R_law 81 yX11_brings ∈ lw_tbl := List.mem_of_getElem? (i := 1179) (by decide +kernel)
theorem lk_L_82 : Cond.methodLink R_law 82 yX10_worth ∈ lw_tbl := List.mem_of_getElem? (i := 608) (by decide +kernel)
theorem lk_L_85 : Cond.methodLink R_law 85 yX11_worth ∈ lw_tbl := List.mem_of_getElem? (i := 1198) (by decide +kernel)
theorem lk_L_86 : Cond.methodLink R_law 86 yX10_where ∈ lw_tbl := List.mem_of_getElem? (i := 618) (by decide +kernel)
theorem lk_L_89 : Cond.methodLink R_law 89 yX11_where ∈ lw_tbl := List.mem_of_getElem? (i := 1207) (by decide +kernel)
theorem lk_L_90 : Cond.methodLink R_law 90 yX10_which ∈ lw_tbl := List.mem_of_getElem? (i := 627) (by decide +kernel)
theorem lk_L_93 : Cond.methodLink R_law 93 yX11_which ∈ lw_tbl := List.mem_of_getElem? (i := 1215) (by decide +kernel)
theorem lk_L_94 : Cond.methodLink R_law 94 yX10_frees ∈ lw_tbl := List.mem_of_getElem? (i := 632) (by decide +kernel)
theorem lk_L_97 : Cond.methodLink R_law 97 yX11_frees ∈ lw_tbl := List.mem_of_getElem? (i := 1223) (by decide +kernel)
theorem lk_L_98 : Cond.methodLink R_law 98 yX10_lie ∈ lw_tbl := List.mem_of_getElem? (i := 640) (by decide +kernel)
theorem lk_L_102 : Cond.methodLink R_law 102 yX11_lie ∈ lw_tbl := List.mem_of_getElem? (i := 1231) (by decide +kernel)
theorem lk_L_103 : Cond.methodLink R_law 103 yX10_ripe ∈ lw_tbl := List.mem_of_getElem? (i := 660) (by decide +kernel)
theorem lk_L_106 : Cond.methodLink R_law 106 yX11_ripe ∈ lw_tbl := List.mem_of_getElem? (i := 1247) (by decide +kernel)
theorem lk_L_107 : Cond.methodLink R_law 107 yX10_rests ∈ lw_tbl := List.mem_of_getElem? (i := 670) (by decide +kernel)
theorem lk_L_110 : Cond.methodLink R_law 110 yX11_rests ∈ lw_tbl := List.mem_of_getElem? (i := 1256) (by decide +kernel)
theorem lk_L_111 : Cond.methodLink R_law 111 yX10_ends ∈ lw_tbl := List.mem_of_getElem? (i := 687) (by decide +kernel)
theorem lk_L_114 : Cond.methodLink R_law 114 yX11_ends ∈ lw_tbl := List.mem_of_getElem? (i := 1269) (by decide +kernel)
theorem lk_L_115 : Cond.methodLink R_law 115 yX10_thrower ∈ lw_tbl := List.mem_of_getElem? (i := 699) (by decide +kernel)
theorem lk_L_118 : Cond.methodLink R_law 118 yX11_thrower ∈ lw_tbl := List.mem_of_getElem? (i := 1277) (by decide +kernel)
theorem lk_L_119 : Cond.methodLink R_law 119 yX10_gone ∈ lw_tbl := List.mem_of_getElem? (i := 708) (by decide +kernel)
theorem lk_L_122 : Cond.methodLink R_law 122 yX11_gone ∈ lw_tbl := List.mem_of_getElem? (i := 1282) (by decide +kernel)
theorem lk_L_123 : Cond.methodLink R_law 123 yX10_run ∈ lw_tbl := List.mem_of_getElem? (i := 716) (by decide +kernel)
theorem lk_L_126 : Cond.methodLink R_law 126 yX11_run ∈ lw_tbl := List.mem_of_getElem? (i := 1286) (by decide +kernel)
theorem lk_L_127 : Cond.methodLink R_law 127 yX10_hit ∈ lw_tbl := List.mem_of_getElem? (i := 738) (by decide +kernel)
theorem lk_L_130 : Cond.methodLink R_law 130 yX11_hit ∈ lw_tbl := List.mem_of_getElem? (i := 1303) (by decide +kernel)
theorem lk_L_131 : Cond.methodLink R_law 131 yX10_seen ∈ lw_tbl := List.mem_of_getElem? (i := 747) (by decide +kernel)
theorem lk_L_134 : Cond.methodLink R_law 134 yX11_seen ∈ lw_tbl := List.mem_of_getElem? (i := 1311) (by decide +kernel)
theorem lk_L_135 : Cond.methodLink R_law 135 yX10_forget ∈ lw_tbl := List.mem_of_getElem? (i := 756) (by decide +kernel)
theorem lk_L_138 : Cond.methodLink R_law 138 yX11_forget ∈ lw_tbl := List.mem_of_getElem? (i := 1316) (by decide +kernel)
theorem lk_L_139 : Cond.methodLink R_law 139 yX10_seeds ∈ lw_tbl := List.mem_of_getElem? (i := 764) (by decide +kernel)
theorem lk_L_142 : Cond.methodLink R_law 142 yX11_seeds ∈ lw_tbl := List.mem_of_getElem? (i := 1320) (by decide +kernel)
theorem lk_L_143 : Cond.methodLink R_law 143 yX10_sheet ∈ lw_tbl := List.mem_of_getElem? (i := 773) (by decide +kernel)
theorem lk_L_146 : Cond.methodLink R_law 146 yX11_sheet ∈ lw_tbl := List.mem_of_getElem? (i := 993) (by decide +kernel)
theorem lk_L_147 : Cond.methodLink R_law 147 yX10_lose ∈ lw_tbl := List.mem_of_getElem? (i := 781) (by decide +kernel)
theorem lk_L_150 : Cond.methodLink R_law 150 yX11_lose ∈ lw_tbl := List.mem_of_getElem? (i := 1009) (by decide +kernel)
theorem lk_L_151 : Cond.methodLink R_law 151 yX10_lay ∈ lw_tbl := List.mem_of_getElem? (i := 790) (by decide +kernel)
theorem lk_L_155 : Cond.methodLink R_law 155 yX11_lay ∈ lw_tbl := List.mem_of_getElem? (i := 1013) (by decide +kernel)
theorem lk_L_156 : Cond.methodLink R_law 156 yX10_get ∈ lw_tbl := List.mem_of_getElem? (i := 806) (by decide +kernel)
theorem lk_L_159 : Cond.methodLink R_law 159 yX11_get ∈ lw_tbl := List.mem_of_getElem? (i := 1024) (by decide +kernel)
theorem lk_L_160 : Cond.methodLink R_law 160 yX10_copy ∈ lw_tbl := List.mem_of_getElem? (i := 811) (by decide +kernel)
theorem lk_L_164 : Cond.methodLink R_law 164 yX11_copy ∈ lw_tbl := List.mem_of_getElem? (i := 1029) (by decide +kernel)
theorem lk_L_165 : Cond.methodLink R_law 165 yX10_write ∈ lw_tbl := List.mem_of_getElem? (i := 826) (by decide +kernel)
theorem lk_L_168 : Cond.methodLink R_law 168 yX11_write ∈ lw_tbl := List.mem_of_getElem? (i := 1328) (by decide +kernel)
theorem lk_L_169 : Cond.methodLink R_law 169 yX10_count ∈ lw_tbl := List.mem_of_getElem? (i := 830) (by decide +kernel)
theorem lk_L_172 : Cond.methodLink R_law 172 yX11_count ∈ lw_tbl := List.mem_of_getElem? (i := 1332) (by decide +kernel)
theorem lk_L_173 : Cond.methodLink R_law 173 yX10_digest ∈ lw_tbl := List.mem_of_getElem? (i := 863) (by decide +kernel)
theorem lk_L_177 : Cond.methodLink R_law 177 yX11_digest ∈ lw_tbl := List.mem_of_getElem? (i := 1336) (by decide +kernel)
theorem lk_M_1 : Cond.methodLink RX11 1 objectInit ∈ lw_tbl := List.mem_of_getElem? (i := 891) (by decide +kernel)
theorem lk_M_74 : Cond.methodLink RX11 74 yX11_in ∈ lw_tbl := List.mem_of_getElem? (i := 1001) (by decide +kernel)
theorem lk_M_83 : Cond.methodLink RX11 83 yX11_isSheet ∈ lw_tbl := List.mem_of_getElem? (i := 997) (by decide +kernel)
theorem lk_M_89 : Cond.methodLink RX11 89 yX11_met ∈ lw_tbl := List.mem_of_getElem? (i := 1005) (by decide +kernel)
theorem lk_M_93 : Cond.methodLink RX11 93 yX11_lacks ∈ lw_tbl := List.mem_of_getElem? (i := 1017) (by decide +kernel)
theorem lk_M_97 : Cond.methodLink RX11 97 yX11_cut ∈ lw_tbl := List.mem_of_getElem? (i := 1021) (by decide +kernel)
theorem lk_M_120 : Cond.methodLink RX11 120 yX11_clears ∈ lw_tbl := List.mem_of_getElem? (i := 1054) (by decide +kernel)
theorem lk_M_123 : Cond.methodLink RX11 123 yX11_readsRow ∈ lw_tbl := List.mem_of_getElem? (i := 1058) (by decide +kernel)
theorem lk_M_127 : Cond.methodLink RX11 127 yX11_reads ∈ lw_tbl := List.mem_of_getElem? (i := 1050) (by decide +kernel)
theorem lk_M_133 : Cond.methodLink RX11 133 yX11_isFour ∈ lw_tbl := List.mem_of_getElem? (i := 1068) (by decide +kernel)
theorem lk_M_142 : Cond.methodLink RX11 142 yX11_most ∈ lw_tbl := List.mem_of_getElem? (i := 1078) (by decide +kernel)
theorem lk_M_147 : Cond.methodLink RX11 147 yX11_stands ∈ lw_tbl := List.mem_of_getElem? (i := 1094) (by decide +kernel)
theorem lk_M_153 : Cond.methodLink RX11 153 yX11_greater ∈ lw_tbl := List.mem_of_getElem? (i := 1140) (by decide +kernel)
theorem lk_M_156 : Cond.methodLink RX11 156 yX11_hangsIn ∈ lw_tbl := List.mem_of_getElem? (i := 1137) (by decide +kernel)
theorem lk_M_163 : Cond.methodLink RX11 163 yX11_apart ∈ lw_tbl := List.mem_of_getElem? (i := 1151) (by decide +kernel)
theorem lk_M_166 : Cond.methodLink RX11 166 yX11_hangsNow ∈ lw_tbl := List.mem_of_getElem? (i := 1133) (by decide +kernel)
theorem lk_M_172 : Cond.methodLink RX11 172 yX11_whose ∈ lw_tbl := List.mem_of_getElem? (i := 1147) (by decide +kernel)
theorem lk_M_178 : Cond.methodLink RX11 178 yX11_lot ∈ lw_tbl := List.mem_of_getElem? (i := 1124) (by decide +kernel)
theorem lk_M_181 : Cond.methodLink RX11 181 yX11_strikes ∈ lw_tbl := List.mem_of_getElem? (i := 1129) (by decide +kernel)
theorem lk_M_185 : Cond.methodLink RX11 185 yX11_falls ∈ lw_tbl := List.mem_of_getElem? (i := 1143) (by decide +kernel)
theorem lk_M_195 : Cond.methodLink RX11 195 yX11_isCell ∈ lw_tbl := List.mem_of_getElem? (i := 1116) (by decide +kernel)
theorem lk_M_198 : Cond.methodLink RX11 198 yX11_throwsOne ∈ lw_tbl := List.mem_of_getElem? (i := 1120) (by decide +kernel)
theorem lk_M_201 : Cond.methodLink RX11 201 yX11_throwsAll ∈ lw_tbl := List.mem_of_getElem? (i := 1112) (by decide +kernel)
theorem lk_M_204 : Cond.methodLink RX11 204 yX11_find ∈ lw_tbl := List.mem_of_getElem? (i := 1108) (by decide +kernel)
theorem lk_M_207 : Cond.methodLink RX11 207 yX11_upNow ∈ lw_tbl := List.mem_of_getElem? (i := 1163) (by decide +kernel)
theorem lk_M_210 : Cond.methodLink RX11 210 yX11_lodgedNow ∈ lw_tbl := List.mem_of_getElem? (i := 1167) (by decide +kernel)
theorem lk_M_215 : Cond.methodLink RX11 215 yX11_stateOf ∈ lw_tbl := List.mem_of_getElem? (i := 1159) (by decide +kernel)
theorem lk_M_218 : Cond.methodLink RX11 218 yX11_bringsBy ∈ lw_tbl := List.mem_of_getElem? (i := 1187) (by decide +kernel)
theorem lk_M_222 : Cond.methodLink RX11 222 yX11_meanOf ∈ lw_tbl := List.mem_of_getElem? (i := 1183) (by decide +kernel)
theorem lk_M_226 : Cond.methodLink RX11 226 yX11_part ∈ lw_tbl := List.mem_of_getElem? (i := 1191) (by decide +kernel)
theorem lk_M_230 : Cond.methodLink RX11 230 yX11_no ∈ lw_tbl := List.mem_of_getElem? (i := 1194) (by decide +kernel)
theorem lk_M_234 : Cond.methodLink RX11 234 yX11_worthOf ∈ lw_tbl := List.mem_of_getElem? (i := 1202) (by decide +kernel)
theorem lk_M_238 : Cond.methodLink RX11 238 yX11_whereOf ∈ lw_tbl := List.mem_of_getElem? (i := 1211) (by decide +kernel)
theorem lk_M_241 : Cond.methodLink RX11 241 yX11_whichNow ∈ lw_tbl := List.mem_of_getElem? (i := 1219) (by decide +kernel)
theorem lk_M_244 : Cond.methodLink RX11 244 yX11_freesOf ∈ lw_tbl := List.mem_of_getElem? (i := 1227) (by decide +kernel)
theorem lk_M_247 : Cond.methodLink RX11 247 yX11_nights ∈ lw_tbl := List.mem_of_getElem? (i := 1243) (by decide +kernel)
theorem lk_M_252 : Cond.methodLink RX11 252 yX11_isTwo ∈ lw_tbl := List.mem_of_getElem? (i := 1236) (by decide +kernel)
theorem lk_M_255 : Cond.methodLink RX11 255 yX11_lieOf ∈ lw_tbl := List.mem_of_getElem? (i := 1239) (by decide +kernel)
theorem lk_M_261 : Cond.methodLink RX11 261 yX11_ripeOf ∈ lw_tbl := List.mem_of_getElem? (i := 1252) (by decide +kernel)
theorem lk_M_264 : Cond.methodLink RX11 264 yX11_isRest ∈ lw_tbl := List.mem_of_getElem? (i := 1265) (by decide +kernel)
theorem lk_M_270 : Cond.methodLink RX11 270 yX11_restsOf ∈ lw_tbl := List.mem_of_getElem? (i := 1261) (by decide +kernel)
theorem lk_M_273 : Cond.methodLink RX11 273 yX11_endsOf ∈ lw_tbl := List.mem_of_getElem? (i := 1273) (by decide +kernel)
theorem lk_M_281 : Cond.methodLink RX11 281 yX11_round ∈ lw_tbl := List.mem_of_getElem? (i := 1295) (by decide +kernel)
theorem lk_M_284 : Cond.methodLink RX11 284 yX11_isHit ∈ lw_tbl := List.mem_of_getElem? (i := 1299) (by decide +kernel)
theorem lk_M_289 : Cond.methodLink RX11 289 yX11_runOf ∈ lw_tbl := List.mem_of_getElem? (i := 1291) (by decide +kernel)
theorem lk_M_292 : Cond.methodLink RX11 292 yX11_hitOf ∈ lw_tbl := List.mem_of_getElem? (i := 1307) (by decide +kernel)
theorem lk_M_300 : Cond.methodLink RX11 300 yX11_seedsNow ∈ lw_tbl := List.mem_of_getElem? (i := 1324) (by decide +kernel)
theorem lk_M_307 : Cond.methodLink RX11 307 yX11_count ∈ lw_tbl := List.mem_of_getElem? (i := 1342) (by decide +kernel)
theorem lk_M_310 : Cond.methodLink RX11 310 yX11_judged ∈ lw_tbl := List.mem_of_getElem? (i := 1343) (by decide +kernel)
theorem lk_M_313 : Cond.methodLink RX11 313 yX11_brings ∈ lw_tbl := List.mem_of_getElem? (i := 1344) (by decide +kernel)
theorem lk_M_317 : Cond.methodLink RX11 317 yX11_worth ∈ lw_tbl := List.mem_of_getElem? (i := 1345) (by decide +kernel)
theorem lk_M_320 : Cond.methodLink RX11 320 yX11_frees ∈ lw_tbl := List.mem_of_getElem? (i := 1346) (by decide +kernel)
end
section
/-! ChestnutSticks$Tree.clearCells()V -/
def md_E_clearCells : md_T := (yX9_clearCells, cX9_clearCells, 2, none, 0, 0)
set_option maxRecDepth 100000 in
theorem ok_E_clearCells : m_ok md_E_clearCells := ⟨List.mem_of_getElem? (i := 83) (by decide +kernel), by decide +kernel, List.mem_of_getElem? (i := 54) (by decide +kernel), by decide +kernel⟩
theorem mv_E_clearCells : Cond.instanceMethod (m_y md_E_clearCells) ∈ lw_tbl ∧ Cond.selects (m_y md_E_clearCells).cls (m_y md_E_clearCells) (m_y md_E_clearCells) ∈ lw_tbl := ⟨List.mem_of_getElem? (i := 82) (by decide +kernel), List.mem_of_getElem? (i := 0) (by decide +kernel)⟩
def f_E_clearCells_2 (N : Nat) : Nat → Int32 → aT → Option (Unit × aT)
  | 0 => fun _ _ => none
  | n + 1 => fun x1 a =>
    if 48 ≤ x1 then
      some ((), a)
    else
      if inb x1 48 then
        f_E_clearCells_2 N n (x1 + 1) (upA a 3 (ix x1) (-2))
      else none
def f_E_clearCells (N : Nat) (a : aT) : Option (Unit × aT) :=
  f_E_clearCells_2 N N 0 a
set_option maxHeartbeats 4000000 in
set_option maxRecDepth 100000 in
theorem x_E_clearCells_2 (E : eT) (N : Nat) : ∀ (n : Nat) (x1 : Int32) (a : aT), XI qV E md_E_clearCells 2 [.ref 1, .int x1] [] a (f_E_clearCells_2 N n x1 a)
  | 0, _, _ => XI_no rfl
  | n + 1, x1, a => by
    refine XI_br (c := 48 ≤ x1) (t := 22) (e := 8) (ls' := [.ref 1, .int x1]) (st' := []) (a' := a) [(.iload_n 1, 1, 1, .null), (.bipush 48, 2, 0, .int 48), (.if_icmp .ge 17, 3, 22, .null)] (by decide +kernel) rfl ?_ ?_
    · exact XI_retV (by decide +kernel)
    · refine XI_ck (c := inb x1 48) (pc' := 16) (ls' := [.ref 1, .int x1]) (st' := []) (a' := (upA a 3 (ix x1) (-2))) [(.aload_n 0, 1, 0, .null), (.getfield 15, 3, 901, .null), (.iload_n 1, 1, 1, .null), (.bipush (-2), 2, 0, .int (-2)), (.iastore, 1, 0, .null)] (by decide +kernel) rfl ?_
      refine XI_go (pc' := 2) (ls' := [.ref 1, .int (x1 + 1)]) (st' := []) (a' := (upA a 3 (ix x1) (-2))) [(.iinc 1 1, 3, 1, .int 1), (.goto (-17), 3, 2, .null)] (by decide +kernel) rfl ?_
      refine XI_fg [true, true] ?_
      exact x_E_clearCells_2 E N n (x1 + 1) (upA a 3 (ix x1) (-2))
set_option maxHeartbeats 4000000 in
set_option maxRecDepth 100000 in
theorem x_E_clearCells (E : eT) (N : Nat) (a : aT) : XI qV E md_E_clearCells 0 [.ref 1, .null] [] a (f_E_clearCells N a) := by
  refine XI_go (pc' := 2) (ls' := [.ref 1, .int 0]) (st' := []) (a' := a) [(.iconst 0, 1, 0, .int 0), (.istore_n 1, 1, 1, .null)] (by decide +kernel) rfl ?_
  refine XI_fg [true, true] ?_
  exact x_E_clearCells_2 E N N 0 a
/-! ChestnutSticks.isBelow(II)Z -/
def md_C_isBelow : md_T := (yX10_isBelow, cX10_isBelow, 2, (some .boolean), 0, 0)
set_option maxRecDepth 100000 in
theorem ok_C_isBelow : m_ok md_C_isBelow := ⟨List.mem_of_getElem? (i := 304) (by decide +kernel), by decide +kernel, List.mem_of_getElem? (i := 53) (by decide +kernel), by decide +kernel⟩
theorem mv_C_isBelow : Cond.static (m_y md_C_isBelow) ∈ lw_tbl := List.mem_of_getElem? (i := 303) (by decide +kernel)
def f_C_isBelow (p1 : Int32) (p2 : Int32) : Int32 :=
  if p1 < 0 then
    0
  else
    if p2 ≤ p1 then
      0
    else
      1
set_option maxHeartbeats 4000000 in
set_option maxRecDepth 100000 in
theorem x_C_isBelow (E : eT) (p1 : Int32) (p2 : Int32) (a : aT) : XT qZ E md_C_isBelow 0 [.int p1, .int p2] [] a (f_C_isBelow p1 p2) := by
  refine XT_br (c := p1 < 0) (t := 13) (e := 4) (ls' := [.int p1, .int p2]) (st' := []) (a' := a) [(.iload_n 0, 1, 0, .null), (.ifCond .lt 12, 3, 13, .null)] (by decide +kernel) rfl ?_ ?_
  · refine XT_go (pc' := 14) (ls' := [.int p1, .int p2]) (st' := [.int 0]) (a' := a) [(.iconst 0, 1, 0, .int 0)] (by decide +kernel) rfl ?_
    exact XT_retZ (by decide +kernel) rfl
  · refine XT_br (c := p2 ≤ p1) (t := 13) (e := 9) (ls' := [.int p1, .int p2]) (st' := []) (a' := a) [(.iload_n 0, 1, 0, .null), (.iload_n 1, 1, 1, .null), (.if_icmp .ge 7, 3, 13, .null)] (by decide +kernel) rfl ?_ ?_
    · refine XT_go (pc' := 14) (ls' := [.int p1, .int p2]) (st' := [.int 0]) (a' := a) [(.iconst 0, 1, 0, .int 0)] (by decide +kernel) rfl ?_
      exact XT_retZ (by decide +kernel) rfl
    · refine XT_go (pc' := 14) (ls' := [.int p1, .int p2]) (st' := [.int 1]) (a' := a) [(.iconst 1, 1, 0, .int 1), (.goto 4, 3, 14, .null)] (by decide +kernel) rfl ?_
      exact XT_retZ (by decide +kernel) rfl
/-! ChestnutSticks$Tree.isTooSoon(III)Z -/
def md_E_isTooSoon : md_T := (yX9_isTooSoon, cX9_isTooSoon, 3, (some .boolean), 0, 0)
set_option maxRecDepth 100000 in
theorem ok_E_isTooSoon : m_ok md_E_isTooSoon := ⟨List.mem_of_getElem? (i := 315) (by decide +kernel), by decide +kernel, List.mem_of_getElem? (i := 54) (by decide +kernel), by decide +kernel⟩
theorem mv_E_isTooSoon : Cond.static (m_y md_E_isTooSoon) ∈ lw_tbl := List.mem_of_getElem? (i := 314) (by decide +kernel)
def f_E_isTooSoon (p1 : Int32) (p2 : Int32) (p3 : Int32) : Int32 :=
  if p2 = 0 then
    1
  else
    if p1 ≤ 0 then
      0
    else
      if p3 ≤ p2 then
        0
      else
        1
set_option maxHeartbeats 4000000 in
set_option maxRecDepth 100000 in
theorem x_E_isTooSoon (E : eT) (p1 : Int32) (p2 : Int32) (p3 : Int32) (a : aT) : XT qZ E md_E_isTooSoon 0 [.int p1, .int p2, .int p3] [] a (f_E_isTooSoon p1 p2 p3) := by
  refine XT_br (c := p2 = 0) (t := 13) (e := 4) (ls' := [.int p1, .int p2, .int p3]) (st' := []) (a' := a) [(.iload_n 1, 1, 1, .null), (.ifCond .eq 12, 3, 13, .null)] (by decide +kernel) rfl ?_ ?_
  · refine XT_go (pc' := 18) (ls' := [.int p1, .int p2, .int p3]) (st' := [.int 1]) (a' := a) [(.iconst 1, 1, 0, .int 1), (.goto 4, 3, 18, .null)] (by decide +kernel) rfl ?_
    exact XT_retZ (by decide +kernel) rfl
  · refine XT_br (c := p1 ≤ 0) (t := 17) (e := 8) (ls' := [.int p1, .int p2, .int p3]) (st' := []) (a' := a) [(.iload_n 0, 1, 0, .null), (.ifCond .le 12, 3, 17, .null)] (by decide +kernel) rfl ?_ ?_
    · refine XT_go (pc' := 18) (ls' := [.int p1, .int p2, .int p3]) (st' := [.int 0]) (a' := a) [(.iconst 0, 1, 0, .int 0)] (by decide +kernel) rfl ?_
      exact XT_retZ (by decide +kernel) rfl
    · refine XT_br (c := p3 ≤ p2) (t := 17) (e := 13) (ls' := [.int p1, .int p2, .int p3]) (st' := []) (a' := a) [(.iload_n 1, 1, 1, .null), (.iload_n 2, 1, 2, .null), (.if_icmp .ge 7, 3, 17, .null)] (by decide +kernel) rfl ?_ ?_
      · refine XT_go (pc' := 18) (ls' := [.int p1, .int p2, .int p3]) (st' := [.int 0]) (a' := a) [(.iconst 0, 1, 0, .int 0)] (by decide +kernel) rfl ?_
        exact XT_retZ (by decide +kernel) rfl
      · refine XT_go (pc' := 18) (ls' := [.int p1, .int p2, .int p3]) (st' := [.int 1]) (a' := a) [(.iconst 1, 1, 0, .int 1), (.goto 4, 3, 18, .null)] (by decide +kernel) rfl ?_
        exact XT_retZ (by decide +kernel) rfl
/-! ChestnutSticks$Tree.isCellSign(I)Z -/
def md_E_isCellSign : md_T := (yX9_isCellSign, cX9_isCellSign, 1, (some .boolean), 0, 0)
set_option maxRecDepth 100000 in
theorem ok_E_isCellSign : m_ok md_E_isCellSign := ⟨List.mem_of_getElem? (i := 318) (by decide +kernel), by decide +kernel, List.mem_of_getElem? (i := 54) (by decide +kernel), by decide +kernel⟩
theorem mv_E_isCellSign : Cond.static (m_y md_E_isCellSign) ∈ lw_tbl := List.mem_of_getElem? (i := 317) (by decide +kernel)
def f_E_isCellSign (p1 : Int32) : Int32 :=
  if p1 = 46 then
    1
  else
    if p1 < 48 then
      0
    else
      if 57 < p1 then
        0
      else
        1
set_option maxHeartbeats 4000000 in
set_option maxRecDepth 100000 in
theorem x_E_isCellSign (E : eT) (p1 : Int32) (a : aT) : XT qZ E md_E_isCellSign 0 [.int p1] [] a (f_E_isCellSign p1) := by
  refine XT_br (c := p1 = 46) (t := 18) (e := 6) (ls' := [.int p1]) (st' := []) (a' := a) [(.iload_n 0, 1, 0, .null), (.bipush 46, 2, 0, .int 46), (.if_icmp .eq 15, 3, 18, .null)] (by decide +kernel) rfl ?_ ?_
  · refine XT_go (pc' := 23) (ls' := [.int p1]) (st' := [.int 1]) (a' := a) [(.iconst 1, 1, 0, .int 1), (.goto 4, 3, 23, .null)] (by decide +kernel) rfl ?_
    exact XT_retZ (by decide +kernel) rfl
  · refine XT_br (c := p1 < 48) (t := 22) (e := 12) (ls' := [.int p1]) (st' := []) (a' := a) [(.iload_n 0, 1, 0, .null), (.bipush 48, 2, 0, .int 48), (.if_icmp .lt 13, 3, 22, .null)] (by decide +kernel) rfl ?_ ?_
    · refine XT_go (pc' := 23) (ls' := [.int p1]) (st' := [.int 0]) (a' := a) [(.iconst 0, 1, 0, .int 0)] (by decide +kernel) rfl ?_
      exact XT_retZ (by decide +kernel) rfl
    · refine XT_br (c := 57 < p1) (t := 22) (e := 18) (ls' := [.int p1]) (st' := []) (a' := a) [(.iload_n 0, 1, 0, .null), (.bipush 57, 2, 0, .int 57), (.if_icmp .gt 7, 3, 22, .null)] (by decide +kernel) rfl ?_ ?_
      · refine XT_go (pc' := 23) (ls' := [.int p1]) (st' := [.int 0]) (a' := a) [(.iconst 0, 1, 0, .int 0)] (by decide +kernel) rfl ?_
        exact XT_retZ (by decide +kernel) rfl
      · refine XT_go (pc' := 23) (ls' := [.int p1]) (st' := [.int 1]) (a' := a) [(.iconst 1, 1, 0, .int 1), (.goto 4, 3, 23, .null)] (by decide +kernel) rfl ?_
        exact XT_retZ (by decide +kernel) rfl
/-! ChestnutSticks$Tree.fillCells()I -/
def md_E_fillCells : md_T := (yX9_fillCells, cX9_fillCells, 7, (some .int), 1, 22)
set_option maxRecDepth 100000 in
theorem ok_E_fillCells : m_ok md_E_fillCells := ⟨List.mem_of_getElem? (i := 312) (by decide +kernel), by decide +kernel, List.mem_of_getElem? (i := 54) (by decide +kernel), by decide +kernel⟩
theorem mv_E_fillCells : Cond.instanceMethod (m_y md_E_fillCells) ∈ lw_tbl ∧ Cond.selects (m_y md_E_fillCells).cls (m_y md_E_fillCells) (m_y md_E_fillCells) ∈ lw_tbl := ⟨List.mem_of_getElem? (i := 311) (by decide +kernel), List.mem_of_getElem? (i := 2) (by decide +kernel)⟩
def f_E_fillCells_139 (N : Nat) (x1 : Int32) (x2 : Int32) (x3 : Int32) (a : aT) : Option (Int32 × aT) :=
  if (a 1 2) ≤ 0 then
    some ((-1), a)
  else
    if (f_E_isTooSoon x1 x2 x3) = 0 then
      some ((-1), a)
    else
      some ((a 1 2), a)
def f_E_fillCells_10 (N : Nat) : Nat → Int32 → Int32 → Int32 → Int32 → aT → Option (Int32 × aT)
  | 0 => fun _ _ _ _ _ => none
  | n + 1 => fun x1 x2 x3 x4 a =>
    if (a 1 2) ≤ x4 then
      f_E_fillCells_139 N x1 x2 x3 a
    else
      if 53 ≤ x4 then
        f_E_fillCells_139 N x1 x2 x3 a
      else
        if inb x4 53 then
          if x1 < 6 then
            if (a 2 (ix x4)) = 59 then
              if (f_E_isTooSoon x1 x2 x3) = 0 then
                f_E_fillCells_10 N n (x1 + 1) 0 x2 (x4 + 1) a
              else
                some (x4, a)
            else
              if (f_E_isCellSign (a 2 (ix x4))) = 0 then
                some (x4, a)
              else
                if x3 ≤ x2 then
                  some (x4, a)
                else
                  if (f_C_isBelow ((8 * x1) + x2) 48) = 0 then
                    some (x4, a)
                  else
                    if (a 2 (ix x4)) = 46 then
                      if inb ((8 * x1) + x2) 48 then
                        f_E_fillCells_10 N n x1 (x2 + 1) x3 (x4 + 1) (upA a 3 (ix ((8 * x1) + x2)) (-1))
                      else none
                    else
                      if inb ((8 * x1) + x2) 48 then
                        f_E_fillCells_10 N n x1 (x2 + 1) x3 (x4 + 1) (upA a 3 (ix ((8 * x1) + x2)) ((a 2 (ix x4)) - 48))
                      else none
          else
            some (x4, a)
        else none
def f_E_fillCells (N : Nat) (a : aT) : Option (Int32 × aT) :=
  f_E_fillCells_10 N N 0 0 8 0 a
set_option maxHeartbeats 4000000 in
set_option maxRecDepth 100000 in
theorem x_E_fillCells_139 (E : eT) (N : Nat) (x1 : Int32) (x2 : Int32) (x3 : Int32) (a : aT) : XI qI E md_E_fillCells 139 [.ref 1, .int x1, .int x2, .int x3, .null, .null, .null] [] a (f_E_fillCells_139 N x1 x2 x3 a) := by
  refine XI_br (c := (a 1 2) ≤ 0) (t := 162) (e := 146) (ls' := [.ref 1, .int x1, .int x2, .int x3, .null, .null, .null]) (st' := []) (a' := a) [(.aload_n 0, 1, 0, .null), (.getfield 18, 3, 902, .null), (.ifCond .le 19, 3, 162, .null)] (by decide +kernel) rfl ?_ ?_
  · refine XI_go (pc' := 163) (ls' := [.ref 1, .int x1, .int x2, .int x3, .null, .null, .null]) (st' := [.int (-1)]) (a' := a) [(.iconst (-1), 1, 0, .int (-1))] (by decide +kernel) rfl ?_
    exact XI_retI (by decide +kernel)
  · refine XI_go (pc' := 149) (ls' := [.ref 1, .int x1, .int x2, .int x3, .null, .null, .null]) (st' := [.int x3, .int x2, .int x1]) (a' := a) [(.iload_n 1, 1, 1, .null), (.iload_n 2, 1, 2, .null), (.iload_n 3, 1, 3, .null)] (by decide +kernel) rfl ?_
    refine XI_ST (As := [.int x1, .int x2, .int x3]) (rest := []) (idx := 55) (by decide +kernel) ok_E_isTooSoon mv_E_isTooSoon (n := 3) ⟨lk_E_55, by decide +kernel⟩ rfl (Nat.le_of_ble_eq_true rfl) (Nat.le_of_ble_eq_true rfl) (qZ_h rfl) (x_E_isTooSoon E x1 x2 x3 a) ?_
    refine XI_br (c := (f_E_isTooSoon x1 x2 x3) = 0) (t := 162) (e := 155) (ls' := [.ref 1, .int x1, .int x2, .int x3, .null, .null, .null]) (st' := []) (a' := a) [(.ifCond .eq 10, 3, 162, .null)] (by decide +kernel) rfl ?_ ?_
    · refine XI_go (pc' := 163) (ls' := [.ref 1, .int x1, .int x2, .int x3, .null, .null, .null]) (st' := [.int (-1)]) (a' := a) [(.iconst (-1), 1, 0, .int (-1))] (by decide +kernel) rfl ?_
      exact XI_retI (by decide +kernel)
    · refine XI_go (pc' := 163) (ls' := [.ref 1, .int x1, .int x2, .int x3, .null, .null, .null]) (st' := [.int (a 1 2)]) (a' := a) [(.aload_n 0, 1, 0, .null), (.getfield 18, 3, 902, .null), (.goto 4, 3, 163, .null)] (by decide +kernel) rfl ?_
      exact XI_retI (by decide +kernel)
set_option maxHeartbeats 4000000 in
set_option maxRecDepth 100000 in
theorem x_E_fillCells_10 (E : eT) (N : Nat) : ∀ (n : Nat) (x1 : Int32) (x2 : Int32) (x3 : Int32) (x4 : Int32) (a : aT), XI qI E md_E_fillCells 10 [.ref 1, .int x1, .int x2, .int x3, .int x4, .null, .null] [] a (f_E_fillCells_10 N n x1 x2 x3 x4 a)
  | 0, _, _, _, _, _ => XI_no rfl
  | n + 1, x1, x2, x3, x4, a => by
    refine XI_br (c := (a 1 2) ≤ x4) (t := 139) (e := 19) (ls' := [.ref 1, .int x1, .int x2, .int x3, .int x4, .null, .null]) (st' := []) (a' := a) [(.iload 4, 2, 4, .null), (.aload_n 0, 1, 0, .null), (.getfield 18, 3, 902, .null), (.if_icmp .ge 123, 3, 139, .null)] (by decide +kernel) rfl ?_ ?_
    · refine XI_fg [true, true, true, true, false, false, false] ?_
      exact x_E_fillCells_139 E N x1 x2 x3 a
    · refine XI_br (c := 53 ≤ x4) (t := 139) (e := 26) (ls' := [.ref 1, .int x1, .int x2, .int x3, .int x4, .null, .null]) (st' := []) (a' := a) [(.iload 4, 2, 4, .null), (.bipush 53, 2, 0, .int 53), (.if_icmp .ge 116, 3, 139, .null)] (by decide +kernel) rfl ?_ ?_
      · refine XI_fg [true, true, true, true, false, false, false] ?_
        exact x_E_fillCells_139 E N x1 x2 x3 a
      · refine XI_ck (c := inb x4 53) (pc' := 33) (ls' := [.ref 1, .int x1, .int x2, .int x3, .int x4, .null, .null]) (st' := [.int (a 2 (ix x4))]) (a' := a) [(.aload_n 0, 1, 0, .null), (.getfield 9, 3, 900, .null), (.iload 4, 2, 4, .null), (.iaload, 1, 0, .null)] (by decide +kernel) rfl ?_
        refine XI_br (c := x1 < 6) (t := 44) (e := 41) (ls' := [.ref 1, .int x1, .int x2, .int x3, .int x4, .int (a 2 (ix x4)), .null]) (st' := []) (a' := a) [(.istore 5, 2, 5, .null), (.iload_n 1, 1, 1, .null), (.bipush 6, 2, 0, .int 6), (.if_icmp .lt 6, 3, 44, .null)] (by decide +kernel) rfl ?_ ?_
        · refine XI_br (c := (a 2 (ix x4)) = 59) (t := 51) (e := 73) (ls' := [.ref 1, .int x1, .int x2, .int x3, .int x4, .int (a 2 (ix x4)), .null]) (st' := []) (a' := a) [(.iload 5, 2, 5, .null), (.bipush 59, 2, 0, .int 59), (.if_icmp .ne 25, 3, 73, .null)] (by decide +kernel) rfl ?_ ?_
          · refine XI_go (pc' := 54) (ls' := [.ref 1, .int x1, .int x2, .int x3, .int x4, .int (a 2 (ix x4)), .null]) (st' := [.int x3, .int x2, .int x1]) (a' := a) [(.iload_n 1, 1, 1, .null), (.iload_n 2, 1, 2, .null), (.iload_n 3, 1, 3, .null)] (by decide +kernel) rfl ?_
            refine XI_ST (As := [.int x1, .int x2, .int x3]) (rest := []) (idx := 55) (by decide +kernel) ok_E_isTooSoon mv_E_isTooSoon (n := 3) ⟨lk_E_55, by decide +kernel⟩ rfl (Nat.le_of_ble_eq_true rfl) (Nat.le_of_ble_eq_true rfl) (qZ_h rfl) (x_E_isTooSoon E x1 x2 x3 a) ?_
            refine XI_br (c := (f_E_isTooSoon x1 x2 x3) = 0) (t := 63) (e := 60) (ls' := [.ref 1, .int x1, .int x2, .int x3, .int x4, .int (a 2 (ix x4)), .null]) (st' := []) (a' := a) [(.ifCond .eq 6, 3, 63, .null)] (by decide +kernel) rfl ?_ ?_
            · refine XI_go (pc' := 10) (ls' := [.ref 1, .int (x1 + 1), .int 0, .int x2, .int (x4 + 1), .int (a 2 (ix x4)), .null]) (st' := []) (a' := a) [(.iload_n 2, 1, 2, .null), (.istore_n 3, 1, 3, .null), (.iinc 1 1, 3, 1, .int 1), (.iconst 0, 1, 0, .int 0), (.istore_n 2, 1, 2, .null), (.goto 63, 3, 133, .null), (.iinc 4 1, 3, 4, .int 1), (.goto (-126), 3, 10, .null)] (by decide +kernel) rfl ?_
              refine XI_fg [true, true, true, true, true, false, false] ?_
              exact x_E_fillCells_10 E N n (x1 + 1) 0 x2 (x4 + 1) a
            · refine XI_go (pc' := 62) (ls' := [.ref 1, .int x1, .int x2, .int x3, .int x4, .int (a 2 (ix x4)), .null]) (st' := [.int x4]) (a' := a) [(.iload 4, 2, 4, .null)] (by decide +kernel) rfl ?_
              exact XI_retI (by decide +kernel)
          · refine XI_go (pc' := 83) (ls' := [.ref 1, .int x1, .int x2, .int x3, .int x4, .int (a 2 (ix x4)), .int ((8 * x1) + x2)]) (st' := [.int (a 2 (ix x4))]) (a' := a) [(.bipush 8, 2, 0, .int 8), (.iload_n 1, 1, 1, .null), (.imul, 1, 0, .null), (.iload_n 2, 1, 2, .null), (.iadd, 1, 0, .null), (.istore 6, 2, 6, .null), (.iload 5, 2, 5, .null)] (by decide +kernel) rfl ?_
            refine XI_ST (As := [.int (a 2 (ix x4))]) (rest := []) (idx := 59) (by decide +kernel) ok_E_isCellSign mv_E_isCellSign (n := 1) ⟨lk_E_59, by decide +kernel⟩ rfl (Nat.le_of_ble_eq_true rfl) (Nat.le_of_ble_eq_true rfl) (qZ_h rfl) (x_E_isCellSign E (a 2 (ix x4)) a) ?_
            refine XI_br (c := (f_E_isCellSign (a 2 (ix x4))) = 0) (t := 104) (e := 89) (ls' := [.ref 1, .int x1, .int x2, .int x3, .int x4, .int (a 2 (ix x4)), .int ((8 * x1) + x2)]) (st' := []) (a' := a) [(.ifCond .eq 18, 3, 104, .null)] (by decide +kernel) rfl ?_ ?_
            · refine XI_go (pc' := 106) (ls' := [.ref 1, .int x1, .int x2, .int x3, .int x4, .int (a 2 (ix x4)), .int ((8 * x1) + x2)]) (st' := [.int x4]) (a' := a) [(.iload 4, 2, 4, .null)] (by decide +kernel) rfl ?_
              exact XI_retI (by decide +kernel)
            · refine XI_br (c := x3 ≤ x2) (t := 104) (e := 94) (ls' := [.ref 1, .int x1, .int x2, .int x3, .int x4, .int (a 2 (ix x4)), .int ((8 * x1) + x2)]) (st' := []) (a' := a) [(.iload_n 2, 1, 2, .null), (.iload_n 3, 1, 3, .null), (.if_icmp .ge 13, 3, 104, .null)] (by decide +kernel) rfl ?_ ?_
              · refine XI_go (pc' := 106) (ls' := [.ref 1, .int x1, .int x2, .int x3, .int x4, .int (a 2 (ix x4)), .int ((8 * x1) + x2)]) (st' := [.int x4]) (a' := a) [(.iload 4, 2, 4, .null)] (by decide +kernel) rfl ?_
                exact XI_retI (by decide +kernel)
              · refine XI_go (pc' := 98) (ls' := [.ref 1, .int x1, .int x2, .int x3, .int x4, .int (a 2 (ix x4)), .int ((8 * x1) + x2)]) (st' := [.int 48, .int ((8 * x1) + x2)]) (a' := a) [(.iload 6, 2, 6, .null), (.bipush 48, 2, 0, .int 48)] (by decide +kernel) rfl ?_
                refine XI_SNT (As := [.int ((8 * x1) + x2), .int 48]) (rest := []) (idx := 28) (by decide +kernel) ok_C_isBelow mv_C_isBelow (n := 2) ⟨lk_E_28, by decide +kernel⟩ rfl (Nat.le_of_ble_eq_true rfl) (Nat.le_of_ble_eq_true rfl) (qZ_h rfl) (x_C_isBelow E ((8 * x1) + x2) 48 a) ?_
                refine XI_br (c := (f_C_isBelow ((8 * x1) + x2) 48) = 0) (t := 104) (e := 107) (ls' := [.ref 1, .int x1, .int x2, .int x3, .int x4, .int (a 2 (ix x4)), .int ((8 * x1) + x2)]) (st' := []) (a' := a) [(.ifCond .ne 6, 3, 107, .null)] (by decide +kernel) rfl ?_ ?_
                · refine XI_go (pc' := 106) (ls' := [.ref 1, .int x1, .int x2, .int x3, .int x4, .int (a 2 (ix x4)), .int ((8 * x1) + x2)]) (st' := [.int x4]) (a' := a) [(.iload 4, 2, 4, .null)] (by decide +kernel) rfl ?_
                  exact XI_retI (by decide +kernel)
                · refine XI_br (c := (a 2 (ix x4)) = 46) (t := 120) (e := 124) (ls' := [.ref 1, .int x1, .int x2, .int x3, .int x4, .int (a 2 (ix x4)), .int ((8 * x1) + x2)]) (st' := [.int ((8 * x1) + x2), .ref 3]) (a' := a) [(.aload_n 0, 1, 0, .null), (.getfield 15, 3, 901, .null), (.iload 6, 2, 6, .null), (.iload 5, 2, 5, .null), (.bipush 46, 2, 0, .int 46), (.if_icmp .ne 7, 3, 124, .null)] (by decide +kernel) rfl ?_ ?_
                  · refine XI_ck (c := inb ((8 * x1) + x2) 48) (pc' := 130) (ls' := [.ref 1, .int x1, .int x2, .int x3, .int x4, .int (a 2 (ix x4)), .int ((8 * x1) + x2)]) (st' := []) (a' := (upA a 3 (ix ((8 * x1) + x2)) (-1))) [(.iconst (-1), 1, 0, .int (-1)), (.goto 8, 3, 129, .null), (.iastore, 1, 0, .null)] (by decide +kernel) rfl ?_
                    refine XI_go (pc' := 10) (ls' := [.ref 1, .int x1, .int (x2 + 1), .int x3, .int (x4 + 1), .int (a 2 (ix x4)), .int ((8 * x1) + x2)]) (st' := []) (a' := (upA a 3 (ix ((8 * x1) + x2)) (-1))) [(.iinc 2 1, 3, 2, .int 1), (.iinc 4 1, 3, 4, .int 1), (.goto (-126), 3, 10, .null)] (by decide +kernel) rfl ?_
                    refine XI_fg [true, true, true, true, true, false, false] ?_
                    exact x_E_fillCells_10 E N n x1 (x2 + 1) x3 (x4 + 1) (upA a 3 (ix ((8 * x1) + x2)) (-1))
                  · refine XI_ck (c := inb ((8 * x1) + x2) 48) (pc' := 130) (ls' := [.ref 1, .int x1, .int x2, .int x3, .int x4, .int (a 2 (ix x4)), .int ((8 * x1) + x2)]) (st' := []) (a' := (upA a 3 (ix ((8 * x1) + x2)) ((a 2 (ix x4)) - 48))) [(.iload 5, 2, 5, .null), (.bipush 48, 2, 0, .int 48), (.isub, 1, 0, .null), (.iastore, 1, 0, .null)] (by decide +kernel) rfl ?_
                    refine XI_go (pc' := 10) (ls' := [.ref 1, .int x1, .int (x2 + 1), .int x3, .int (x4 + 1), .int (a 2 (ix x4)), .int ((8 * x1) + x2)]) (st' := []) (a' := (upA a 3 (ix ((8 * x1) + x2)) ((a 2 (ix x4)) - 48))) [(.iinc 2 1, 3, 2, .int 1), (.iinc 4 1, 3, 4, .int 1), (.goto (-126), 3, 10, .null)] (by decide +kernel) rfl ?_
                    refine XI_fg [true, true, true, true, true, false, false] ?_
                    exact x_E_fillCells_10 E N n x1 (x2 + 1) x3 (x4 + 1) (upA a 3 (ix ((8 * x1) + x2)) ((a 2 (ix x4)) - 48))
        · refine XI_go (pc' := 43) (ls' := [.ref 1, .int x1, .int x2, .int x3, .int x4, .int (a 2 (ix x4)), .null]) (st' := [.int x4]) (a' := a) [(.iload 4, 2, 4, .null)] (by decide +kernel) rfl ?_
          exact XI_retI (by decide +kernel)
set_option maxHeartbeats 4000000 in
set_option maxRecDepth 100000 in
theorem x_E_fillCells (E : eT) (N : Nat) (a : aT) : XI qI E md_E_fillCells 0 [.ref 1, .null, .null, .null, .null, .null, .null] [] a (f_E_fillCells N a) := by
  refine XI_go (pc' := 10) (ls' := [.ref 1, .int 0, .int 0, .int 8, .int 0, .null, .null]) (st' := []) (a' := a) [(.iconst 0, 1, 0, .int 0), (.istore_n 1, 1, 1, .null), (.iconst 0, 1, 0, .int 0), (.istore_n 2, 1, 2, .null), (.bipush 8, 2, 0, .int 8), (.istore_n 3, 1, 3, .null), (.iconst 0, 1, 0, .int 0), (.istore 4, 2, 4, .null)] (by decide +kernel) rfl ?_
  refine XI_fg [true, true, true, true, true, false, false] ?_
  exact x_E_fillCells_10 E N N 0 0 8 0 a
/-! ChestnutSticks$Tree.parse()V -/
def md_E_parse : md_T := (yX9_parse, cX9_parse, 1, none, 2, 48)
set_option maxRecDepth 100000 in
theorem ok_E_parse : m_ok md_E_parse := ⟨List.mem_of_getElem? (i := 308) (by decide +kernel), by decide +kernel, List.mem_of_getElem? (i := 54) (by decide +kernel), by decide +kernel⟩
theorem mv_E_parse : Cond.instanceMethod (m_y md_E_parse) ∈ lw_tbl ∧ Cond.selects (m_y md_E_parse).cls (m_y md_E_parse) (m_y md_E_parse) ∈ lw_tbl := ⟨List.mem_of_getElem? (i := 307) (by decide +kernel), List.mem_of_getElem? (i := 1) (by decide +kernel)⟩
def f_E_parse (N : Nat) (a : aT) : Option (Unit × aT) :=
  (f_E_clearCells N a).bind fun q1 =>
    (f_E_fillCells N q1.2).bind fun q2 =>
      if q2.1 = (-1) then
        some ((), (upA q2.2 1 3 q2.1))
      else
        (f_E_clearCells N (upA q2.2 1 3 q2.1)).bind fun q3 =>
          some ((), q3.2)
set_option maxHeartbeats 4000000 in
set_option maxRecDepth 100000 in
theorem x_E_parse (E : eT) (N : Nat) (a : aT) : XI qV E md_E_parse 0 [.ref 1] [] a (f_E_parse N a) := by
  refine XI_go (pc' := 1) (ls' := [.ref 1]) (st' := [.ref 1]) (a' := a) [(.aload_n 0, 1, 0, .null)] (by decide +kernel) rfl ?_
  refine XI_VI (As := []) (rest := []) (b := 1) (idx := 25) (by decide +kernel) ok_E_clearCells mv_E_clearCells (n := 0) ⟨lk_E_25, by decide +kernel⟩ rfl rfl rfl rfl (Nat.le_of_ble_eq_true rfl) (Nat.le_of_ble_eq_true rfl) (qV_h rfl) (x_E_clearCells E N a) (fun q1 => ?_)
  refine XI_go (pc' := 6) (ls' := [.ref 1]) (st' := [.ref 1, .ref 1]) (a' := q1.2) [(.aload_n 0, 1, 0, .null), (.aload_n 0, 1, 0, .null)] (by decide +kernel) rfl ?_
  refine XI_VI (As := []) (rest := [.ref 1]) (b := 1) (idx := 51) (by decide +kernel) ok_E_fillCells mv_E_fillCells (n := 0) ⟨lk_E_51, by decide +kernel⟩ rfl rfl rfl rfl (Nat.le_of_ble_eq_true rfl) (Nat.le_of_ble_eq_true rfl) (qI_h rfl) (x_E_fillCells E N q1.2) (fun q2 => ?_)
  refine XI_br (c := q2.1 = (-1)) (t := 24) (e := 20) (ls' := [.ref 1]) (st' := []) (a' := (upA q2.2 1 3 q2.1)) [(.putfield 22, 3, 903, .int 0), (.aload_n 0, 1, 0, .null), (.getfield 22, 3, 903, .null), (.iconst (-1), 1, 0, .int (-1)), (.if_icmp .eq 7, 3, 24, .null)] (by decide +kernel) rfl ?_ ?_
  · exact XI_retV (by decide +kernel)
  · refine XI_go (pc' := 21) (ls' := [.ref 1]) (st' := [.ref 1]) (a' := (upA q2.2 1 3 q2.1)) [(.aload_n 0, 1, 0, .null)] (by decide +kernel) rfl ?_
    refine XI_VI (As := []) (rest := []) (b := 1) (idx := 25) (by decide +kernel) ok_E_clearCells mv_E_clearCells (n := 0) ⟨lk_E_25, by decide +kernel⟩ rfl rfl rfl rfl (Nat.le_of_ble_eq_true rfl) (Nat.le_of_ble_eq_true rfl) (qV_h rfl) (x_E_clearCells E N (upA q2.2 1 3 q2.1)) (fun q3 => ?_)
    exact XI_retV (by decide +kernel)
/-! ChestnutSticks$Tree.append(I)I -/
def md_E_append : md_T := (yX9_append, cX9_append, 2, (some .int), 3, 68)
set_option maxRecDepth 100000 in
theorem ok_E_append : m_ok md_E_append := ⟨List.mem_of_getElem? (i := 301) (by decide +kernel), by decide +kernel, List.mem_of_getElem? (i := 54) (by decide +kernel), by decide +kernel⟩
theorem mv_E_append : Cond.instanceMethod (m_y md_E_append) ∈ lw_tbl ∧ Cond.selects (m_y md_E_append).cls (m_y md_E_append) (m_y md_E_append) ∈ lw_tbl := ⟨List.mem_of_getElem? (i := 299) (by decide +kernel), List.mem_of_getElem? (i := 300) (by decide +kernel)⟩
def f_E_append (N : Nat) (p1 : Int32) (a : aT) : Option (Int32 × aT) :=
  if (f_C_isBelow p1 256) = 0 then
    some ((-2), a)
  else
    if (f_C_isBelow (a 1 2) 53) = 0 then
      some ((-4), a)
    else
      if inb (a 1 2) 53 then
        (f_E_parse N (upA (upA a 2 (ix (a 1 2)) p1) 1 2 ((a 1 2) + 1))).bind fun q3 =>
          some ((q3.2 1 2), q3.2)
      else none
set_option maxHeartbeats 4000000 in
set_option maxRecDepth 100000 in
theorem x_E_append (E : eT) (N : Nat) (p1 : Int32) (a : aT) : XI qI E md_E_append 0 [.ref 1, .int p1] [] a (f_E_append N p1 a) := by
  refine XI_go (pc' := 4) (ls' := [.ref 1, .int p1]) (st' := [.int 256, .int p1]) (a' := a) [(.iload_n 1, 1, 1, .null), (.sipush 256, 3, 0, .int 256)] (by decide +kernel) rfl ?_
  refine XI_SNT (As := [.int p1, .int 256]) (rest := []) (idx := 28) (by decide +kernel) ok_C_isBelow mv_C_isBelow (n := 2) ⟨lk_E_28, by decide +kernel⟩ rfl (Nat.le_of_ble_eq_true rfl) (Nat.le_of_ble_eq_true rfl) (qZ_h rfl) (x_C_isBelow E p1 256 a) ?_
  refine XI_br (c := (f_C_isBelow p1 256) = 0) (t := 10) (e := 13) (ls' := [.ref 1, .int p1]) (st' := []) (a' := a) [(.ifCond .ne 6, 3, 13, .null)] (by decide +kernel) rfl ?_ ?_
  · refine XI_go (pc' := 12) (ls' := [.ref 1, .int p1]) (st' := [.int (-2)]) (a' := a) [(.bipush (-2), 2, 0, .int (-2))] (by decide +kernel) rfl ?_
    exact XI_retI (by decide +kernel)
  · refine XI_go (pc' := 19) (ls' := [.ref 1, .int p1]) (st' := [.int 53, .int (a 1 2)]) (a' := a) [(.aload_n 0, 1, 0, .null), (.getfield 18, 3, 902, .null), (.bipush 53, 2, 0, .int 53)] (by decide +kernel) rfl ?_
    refine XI_SNT (As := [.int (a 1 2), .int 53]) (rest := []) (idx := 28) (by decide +kernel) ok_C_isBelow mv_C_isBelow (n := 2) ⟨lk_E_28, by decide +kernel⟩ rfl (Nat.le_of_ble_eq_true rfl) (Nat.le_of_ble_eq_true rfl) (qZ_h rfl) (x_C_isBelow E (a 1 2) 53 a) ?_
    refine XI_br (c := (f_C_isBelow (a 1 2) 53) = 0) (t := 25) (e := 28) (ls' := [.ref 1, .int p1]) (st' := []) (a' := a) [(.ifCond .ne 6, 3, 28, .null)] (by decide +kernel) rfl ?_ ?_
    · refine XI_go (pc' := 27) (ls' := [.ref 1, .int p1]) (st' := [.int (-4)]) (a' := a) [(.bipush (-4), 2, 0, .int (-4))] (by decide +kernel) rfl ?_
      exact XI_retI (by decide +kernel)
    · refine XI_ck (c := inb (a 1 2) 53) (pc' := 38) (ls' := [.ref 1, .int p1]) (st' := []) (a' := (upA a 2 (ix (a 1 2)) p1)) [(.aload_n 0, 1, 0, .null), (.getfield 9, 3, 900, .null), (.aload_n 0, 1, 0, .null), (.getfield 18, 3, 902, .null), (.iload_n 1, 1, 1, .null), (.iastore, 1, 0, .null)] (by decide +kernel) rfl ?_
      refine XI_go (pc' := 49) (ls' := [.ref 1, .int p1]) (st' := [.ref 1]) (a' := (upA (upA a 2 (ix (a 1 2)) p1) 1 2 ((a 1 2) + 1))) [(.aload_n 0, 1, 0, .null), (.dup, 1, 0, .null), (.getfield 18, 3, 902, .null), (.iconst 1, 1, 0, .int 1), (.iadd, 1, 0, .null), (.putfield 18, 3, 902, .int 0), (.aload_n 0, 1, 0, .null)] (by decide +kernel) rfl ?_
      refine XI_VI (As := []) (rest := []) (b := 1) (idx := 32) (by decide +kernel) ok_E_parse mv_E_parse (n := 0) ⟨lk_E_32, by decide +kernel⟩ rfl rfl rfl rfl (Nat.le_of_ble_eq_true rfl) (Nat.le_of_ble_eq_true rfl) (qV_h rfl) (x_E_parse E N (upA (upA a 2 (ix (a 1 2)) p1) 1 2 ((a 1 2) + 1))) (fun q3 => ?_)
      refine XI_go (pc' := 56) (ls' := [.ref 1, .int p1]) (st' := [.int (q3.2 1 2)]) (a' := q3.2) [(.aload_n 0, 1, 0, .null), (.getfield 18, 3, 902, .null)] (by decide +kernel) rfl ?_
      exact XI_retI (by decide +kernel)
/-! ChestnutSticks.type(I)I -/
def md_C_type : md_T := (yX10_type, cX10_type, 2, (some .int), 4, 89)
set_option maxRecDepth 100000 in
theorem ok_C_type : m_ok md_C_type := ⟨List.mem_of_getElem? (i := 297) (by decide +kernel), by decide +kernel, List.mem_of_getElem? (i := 53) (by decide +kernel), by decide +kernel⟩
theorem mv_C_type : Cond.instanceMethod (m_y md_C_type) ∈ lw_tbl ∧ Cond.selects (m_y md_C_type).cls (m_y md_C_type) (m_y md_C_type) ∈ lw_tbl := ⟨List.mem_of_getElem? (i := 295) (by decide +kernel), List.mem_of_getElem? (i := 296) (by decide +kernel)⟩
def f_C_type (N : Nat) (p1 : Int32) (a : aT) : Option (Int32 × aT) :=
  (f_E_append N p1 a).bind fun q1 =>
    some (q1.1, q1.2)
set_option maxHeartbeats 4000000 in
set_option maxRecDepth 100000 in
theorem x_C_type (E : eT) (N : Nat) (p1 : Int32) (a : aT) : XI qI E md_C_type 0 [.ref 0, .int p1] [] a (f_C_type N p1 a) := by
  refine XI_go (pc' := 5) (ls' := [.ref 0, .int p1]) (st' := [.int p1, .ref 1]) (a' := a) [(.aload_n 0, 1, 0, .null), (.getfield 10, 3, 1000, .null), (.iload_n 1, 1, 1, .null)] (by decide +kernel) rfl ?_
  refine XI_VI (As := [.int p1]) (rest := []) (b := 1) (idx := 83) (by decide +kernel) ok_E_append mv_E_append (n := 1) ⟨lk_C_83, by decide +kernel⟩ rfl rfl rfl rfl (Nat.le_of_ble_eq_true rfl) (Nat.le_of_ble_eq_true rfl) (qI_h rfl) (x_E_append E N p1 a) (fun q1 => ?_)
  exact XI_retI (by decide +kernel)
/-! ChestnutSticksModel.in(JJJ)Z -/
def md_M_in : md_T := (yX11_in, cX11_in, 6, (some .boolean), 0, 0)
set_option maxRecDepth 100000 in
theorem ok_M_in : m_ok md_M_in := ⟨List.mem_of_getElem? (i := 1003) (by decide +kernel), by decide +kernel, List.mem_of_getElem? (i := 64) (by decide +kernel), by decide +kernel⟩
theorem mv_M_in : Cond.static (m_y md_M_in) ∈ lw_tbl := List.mem_of_getElem? (i := 1002) (by decide +kernel)
def f_M_in (p1 : Int64) (p2 : Int64) (p3 : Int64) : Int32 :=
  if (lg_cmp p1 p2) < 0 then
    0
  else
    if 0 < (lg_cmp p1 p3) then
      0
    else
      1
set_option maxHeartbeats 4000000 in
set_option maxRecDepth 100000 in
theorem x_M_in (E : eT) (p1 : Int64) (p2 : Int64) (p3 : Int64) (a : aT) : XT qZ E md_M_in 0 [.long p1, .null, .long p2, .null, .long p3, .null] [] a (f_M_in p1 p2 p3) := by
  refine XT_br (c := (lg_cmp p1 p2) < 0) (t := 17) (e := 6) (ls' := [.long p1, .null, .long p2, .null, .long p3, .null]) (st' := []) (a' := a) [(.lload_n 0, 1, 0, .null), (.lload_n 2, 1, 2, .null), (.lcmp, 1, 0, .null), (.ifCond .lt 14, 3, 17, .null)] (by decide +kernel) rfl ?_ ?_
  · refine XT_go (pc' := 18) (ls' := [.long p1, .null, .long p2, .null, .long p3, .null]) (st' := [.int 0]) (a' := a) [(.iconst 0, 1, 0, .int 0)] (by decide +kernel) rfl ?_
    exact XT_retZ (by decide +kernel) rfl
  · refine XT_br (c := 0 < (lg_cmp p1 p3)) (t := 17) (e := 13) (ls' := [.long p1, .null, .long p2, .null, .long p3, .null]) (st' := []) (a' := a) [(.lload_n 0, 1, 0, .null), (.lload 4, 2, 4, .null), (.lcmp, 1, 0, .null), (.ifCond .gt 7, 3, 17, .null)] (by decide +kernel) rfl ?_ ?_
    · refine XT_go (pc' := 18) (ls' := [.long p1, .null, .long p2, .null, .long p3, .null]) (st' := [.int 0]) (a' := a) [(.iconst 0, 1, 0, .int 0)] (by decide +kernel) rfl ?_
      exact XT_retZ (by decide +kernel) rfl
    · refine XT_go (pc' := 18) (ls' := [.long p1, .null, .long p2, .null, .long p3, .null]) (st' := [.int 1]) (a' := a) [(.iconst 1, 1, 0, .int 1), (.goto 4, 3, 18, .null)] (by decide +kernel) rfl ?_
      exact XT_retZ (by decide +kernel) rfl
/-! ChestnutSticksModel.type(I)I -/
def md_M_type : md_T := (yX11_type, cX11_type, 2, (some .int), 1, 25)
set_option maxRecDepth 100000 in
theorem ok_M_type : m_ok md_M_type := ⟨List.mem_of_getElem? (i := 1036) (by decide +kernel), by decide +kernel, List.mem_of_getElem? (i := 64) (by decide +kernel), by decide +kernel⟩
theorem mv_M_type : Cond.instanceMethod (m_y md_M_type) ∈ lw_tbl ∧ Cond.selects (m_y md_M_type).cls (m_y md_M_type) (m_y md_M_type) ∈ lw_tbl := ⟨List.mem_of_getElem? (i := 1034) (by decide +kernel), List.mem_of_getElem? (i := 1035) (by decide +kernel)⟩
def f_M_type (p1 : Int32) (a : aT) : Option (Int32 × aT) :=
  if (f_M_in p1.toInt64 0 255) = 0 then
    some ((-2), a)
  else
    if (a 31 6) = 53 then
      some ((-4), a)
    else
      if inb (a 31 6) 53 then
        some (((a 31 6) + 1), (upA (upA a 36 (ix (a 31 6)) p1) 31 6 ((a 31 6) + 1)))
      else none
set_option maxHeartbeats 4000000 in
set_option maxRecDepth 100000 in
theorem x_M_type (E : eT) (p1 : Int32) (a : aT) : XI qI E md_M_type 0 [.ref 31, .int p1] [] a (f_M_type p1 a) := by
  refine XI_go (pc' := 6) (ls' := [.ref 31, .int p1]) (st' := [.long 255, .long 0, .long p1.toInt64]) (a' := a) [(.iload_n 1, 1, 1, .null), (.i2l, 1, 0, .null), (.lconst 0, 1, 0, .long 0), (.ldc2_w 102, 3, 0, .long 255)] (by decide +kernel) rfl ?_
  refine XI_ST (As := [.long p1.toInt64, .long 0, .long 255]) (rest := []) (idx := 74) (by decide +kernel) ok_M_in mv_M_in (n := 3) ⟨lk_M_74, by decide +kernel⟩ rfl (Nat.le_of_ble_eq_true rfl) (Nat.le_of_ble_eq_true rfl) (qZ_h rfl) (x_M_in E p1.toInt64 0 255 a) ?_
  refine XI_br (c := (f_M_in p1.toInt64 0 255) = 0) (t := 12) (e := 15) (ls' := [.ref 31, .int p1]) (st' := []) (a' := a) [(.ifCond .ne 6, 3, 15, .null)] (by decide +kernel) rfl ?_ ?_
  · refine XI_go (pc' := 14) (ls' := [.ref 31, .int p1]) (st' := [.int (-2)]) (a' := a) [(.bipush (-2), 2, 0, .int (-2))] (by decide +kernel) rfl ?_
    exact XI_retI (by decide +kernel)
  · refine XI_br (c := (a 31 6) = 53) (t := 24) (e := 27) (ls' := [.ref 31, .int p1]) (st' := []) (a' := a) [(.aload_n 0, 1, 0, .null), (.getfield 104, 3, 1106, .null), (.bipush 53, 2, 0, .int 53), (.if_icmp .ne 6, 3, 27, .null)] (by decide +kernel) rfl ?_ ?_
    · refine XI_go (pc' := 26) (ls' := [.ref 31, .int p1]) (st' := [.int (-4)]) (a' := a) [(.bipush (-4), 2, 0, .int (-4))] (by decide +kernel) rfl ?_
      exact XI_retI (by decide +kernel)
    · refine XI_ck (c := inb (a 31 6) 53) (pc' := 37) (ls' := [.ref 31, .int p1]) (st' := []) (a' := (upA a 36 (ix (a 31 6)) p1)) [(.aload_n 0, 1, 0, .null), (.getfield 22, 3, 1105, .null), (.aload_n 0, 1, 0, .null), (.getfield 104, 3, 1106, .null), (.iload_n 1, 1, 1, .null), (.iastore, 1, 0, .null)] (by decide +kernel) rfl ?_
      refine XI_go (pc' := 51) (ls' := [.ref 31, .int p1]) (st' := [.int ((a 31 6) + 1)]) (a' := (upA (upA a 36 (ix (a 31 6)) p1) 31 6 ((a 31 6) + 1))) [(.aload_n 0, 1, 0, .null), (.dup, 1, 0, .null), (.getfield 104, 3, 1106, .null), (.iconst 1, 1, 0, .int 1), (.iadd, 1, 0, .null), (.putfield 104, 3, 1106, .int 0), (.aload_n 0, 1, 0, .null), (.getfield 104, 3, 1106, .null)] (by decide +kernel) rfl ?_
      exact XI_retI (by decide +kernel)
/-! ChestnutSticks$Tree.empty()I -/
def md_E_empty : md_T := (yX9_empty, cX9_empty, 2, (some .int), 3, 68)
set_option maxRecDepth 100000 in
theorem ok_E_empty : m_ok md_E_empty := ⟨List.mem_of_getElem? (i := 326) (by decide +kernel), by decide +kernel, List.mem_of_getElem? (i := 54) (by decide +kernel), by decide +kernel⟩
theorem mv_E_empty : Cond.instanceMethod (m_y md_E_empty) ∈ lw_tbl ∧ Cond.selects (m_y md_E_empty).cls (m_y md_E_empty) (m_y md_E_empty) ∈ lw_tbl := ⟨List.mem_of_getElem? (i := 324) (by decide +kernel), List.mem_of_getElem? (i := 325) (by decide +kernel)⟩
def f_E_empty (N : Nat) (a : aT) : Option (Int32 × aT) :=
  (f_E_parse N (upA a 1 2 0)).bind fun q1 =>
    some ((a 1 2), q1.2)
set_option maxHeartbeats 4000000 in
set_option maxRecDepth 100000 in
theorem x_E_empty (E : eT) (N : Nat) (a : aT) : XI qI E md_E_empty 0 [.ref 1, .null] [] a (f_E_empty N a) := by
  refine XI_go (pc' := 11) (ls' := [.ref 1, .int (a 1 2)]) (st' := [.ref 1]) (a' := (upA a 1 2 0)) [(.aload_n 0, 1, 0, .null), (.getfield 18, 3, 902, .null), (.istore_n 1, 1, 1, .null), (.aload_n 0, 1, 0, .null), (.iconst 0, 1, 0, .int 0), (.putfield 18, 3, 902, .int 0), (.aload_n 0, 1, 0, .null)] (by decide +kernel) rfl ?_
  refine XI_VI (As := []) (rest := []) (b := 1) (idx := 32) (by decide +kernel) ok_E_parse mv_E_parse (n := 0) ⟨lk_E_32, by decide +kernel⟩ rfl rfl rfl rfl (Nat.le_of_ble_eq_true rfl) (Nat.le_of_ble_eq_true rfl) (qV_h rfl) (x_E_parse E N (upA a 1 2 0)) (fun q1 => ?_)
  refine XI_go (pc' := 15) (ls' := [.ref 1, .int (a 1 2)]) (st' := [.int (a 1 2)]) (a' := q1.2) [(.iload_n 1, 1, 1, .null)] (by decide +kernel) rfl ?_
  exact XI_retI (by decide +kernel)
/-! ChestnutSticks.wipe()I -/
def md_C_wipe : md_T := (yX10_wipe, cX10_wipe, 1, (some .int), 4, 89)
set_option maxRecDepth 100000 in
theorem ok_C_wipe : m_ok md_C_wipe := ⟨List.mem_of_getElem? (i := 322) (by decide +kernel), by decide +kernel, List.mem_of_getElem? (i := 53) (by decide +kernel), by decide +kernel⟩
theorem mv_C_wipe : Cond.instanceMethod (m_y md_C_wipe) ∈ lw_tbl ∧ Cond.selects (m_y md_C_wipe).cls (m_y md_C_wipe) (m_y md_C_wipe) ∈ lw_tbl := ⟨List.mem_of_getElem? (i := 320) (by decide +kernel), List.mem_of_getElem? (i := 321) (by decide +kernel)⟩
def f_C_wipe (N : Nat) (a : aT) : Option (Int32 × aT) :=
  (f_E_empty N a).bind fun q1 =>
    some (q1.1, q1.2)
set_option maxHeartbeats 4000000 in
set_option maxRecDepth 100000 in
theorem x_C_wipe (E : eT) (N : Nat) (a : aT) : XI qI E md_C_wipe 0 [.ref 0] [] a (f_C_wipe N a) := by
  refine XI_go (pc' := 4) (ls' := [.ref 0]) (st' := [.ref 1]) (a' := a) [(.aload_n 0, 1, 0, .null), (.getfield 10, 3, 1000, .null)] (by decide +kernel) rfl ?_
  refine XI_VI (As := []) (rest := []) (b := 1) (idx := 87) (by decide +kernel) ok_E_empty mv_E_empty (n := 0) ⟨lk_C_87, by decide +kernel⟩ rfl rfl rfl rfl (Nat.le_of_ble_eq_true rfl) (Nat.le_of_ble_eq_true rfl) (qI_h rfl) (x_E_empty E N a) (fun q1 => ?_)
  exact XI_retI (by decide +kernel)
/-! ChestnutSticksModel.wipe()I -/
def md_M_wipe : md_T := (yX11_wipe, cX11_wipe, 2, (some .int), 0, 0)
set_option maxRecDepth 100000 in
theorem ok_M_wipe : m_ok md_M_wipe := ⟨List.mem_of_getElem? (i := 1041) (by decide +kernel), by decide +kernel, List.mem_of_getElem? (i := 64) (by decide +kernel), by decide +kernel⟩
theorem mv_M_wipe : Cond.instanceMethod (m_y md_M_wipe) ∈ lw_tbl ∧ Cond.selects (m_y md_M_wipe).cls (m_y md_M_wipe) (m_y md_M_wipe) ∈ lw_tbl := ⟨List.mem_of_getElem? (i := 1039) (by decide +kernel), List.mem_of_getElem? (i := 1040) (by decide +kernel)⟩
def f_M_wipe (a : aT) : Option (Int32 × aT) :=
  some ((a 31 6), (upA a 31 6 0))
set_option maxHeartbeats 4000000 in
set_option maxRecDepth 100000 in
theorem x_M_wipe (E : eT) (a : aT) : XI qI E md_M_wipe 0 [.ref 31, .null] [] a (f_M_wipe a) := by
  refine XI_go (pc' := 11) (ls' := [.ref 31, .int (a 31 6)]) (st' := [.int (a 31 6)]) (a' := (upA a 31 6 0)) [(.aload_n 0, 1, 0, .null), (.getfield 104, 3, 1106, .null), (.istore_n 1, 1, 1, .null), (.aload_n 0, 1, 0, .null), (.iconst 0, 1, 0, .int 0), (.putfield 104, 3, 1106, .int 0), (.iload_n 1, 1, 1, .null)] (by decide +kernel) rfl ?_
  exact XI_retI (by decide +kernel)
/-! ChestnutSticks$Tree.removeLast()I -/
def md_E_removeLast : md_T := (yX9_removeLast, cX9_removeLast, 1, (some .int), 3, 68)
set_option maxRecDepth 100000 in
theorem ok_E_removeLast : m_ok md_E_removeLast := ⟨List.mem_of_getElem? (i := 334) (by decide +kernel), by decide +kernel, List.mem_of_getElem? (i := 54) (by decide +kernel), by decide +kernel⟩
theorem mv_E_removeLast : Cond.instanceMethod (m_y md_E_removeLast) ∈ lw_tbl ∧ Cond.selects (m_y md_E_removeLast).cls (m_y md_E_removeLast) (m_y md_E_removeLast) ∈ lw_tbl := ⟨List.mem_of_getElem? (i := 332) (by decide +kernel), List.mem_of_getElem? (i := 333) (by decide +kernel)⟩
def f_E_removeLast (N : Nat) (a : aT) : Option (Int32 × aT) :=
  if 0 < (a 1 2) then
    (f_E_parse N (upA a 1 2 ((a 1 2) - 1))).bind fun q1 =>
      some ((q1.2 1 2), q1.2)
  else
    some ((-3), a)
set_option maxHeartbeats 4000000 in
set_option maxRecDepth 100000 in
theorem x_E_removeLast (E : eT) (N : Nat) (a : aT) : XI qI E md_E_removeLast 0 [.ref 1] [] a (f_E_removeLast N a) := by
  refine XI_br (c := 0 < (a 1 2)) (t := 10) (e := 7) (ls' := [.ref 1]) (st' := []) (a' := a) [(.aload_n 0, 1, 0, .null), (.getfield 18, 3, 902, .null), (.ifCond .gt 6, 3, 10, .null)] (by decide +kernel) rfl ?_ ?_
  · refine XI_go (pc' := 21) (ls' := [.ref 1]) (st' := [.ref 1]) (a' := (upA a 1 2 ((a 1 2) - 1))) [(.aload_n 0, 1, 0, .null), (.dup, 1, 0, .null), (.getfield 18, 3, 902, .null), (.iconst 1, 1, 0, .int 1), (.isub, 1, 0, .null), (.putfield 18, 3, 902, .int 0), (.aload_n 0, 1, 0, .null)] (by decide +kernel) rfl ?_
    refine XI_VI (As := []) (rest := []) (b := 1) (idx := 32) (by decide +kernel) ok_E_parse mv_E_parse (n := 0) ⟨lk_E_32, by decide +kernel⟩ rfl rfl rfl rfl (Nat.le_of_ble_eq_true rfl) (Nat.le_of_ble_eq_true rfl) (qV_h rfl) (x_E_parse E N (upA a 1 2 ((a 1 2) - 1))) (fun q1 => ?_)
    refine XI_go (pc' := 28) (ls' := [.ref 1]) (st' := [.int (q1.2 1 2)]) (a' := q1.2) [(.aload_n 0, 1, 0, .null), (.getfield 18, 3, 902, .null)] (by decide +kernel) rfl ?_
    exact XI_retI (by decide +kernel)
  · refine XI_go (pc' := 9) (ls' := [.ref 1]) (st' := [.int (-3)]) (a' := a) [(.bipush (-3), 2, 0, .int (-3))] (by decide +kernel) rfl ?_
    exact XI_retI (by decide +kernel)
/-! ChestnutSticks.undo()I -/
def md_C_undo : md_T := (yX10_undo, cX10_undo, 1, (some .int), 4, 88)
set_option maxRecDepth 100000 in
theorem ok_C_undo : m_ok md_C_undo := ⟨List.mem_of_getElem? (i := 330) (by decide +kernel), by decide +kernel, List.mem_of_getElem? (i := 53) (by decide +kernel), by decide +kernel⟩
theorem mv_C_undo : Cond.instanceMethod (m_y md_C_undo) ∈ lw_tbl ∧ Cond.selects (m_y md_C_undo).cls (m_y md_C_undo) (m_y md_C_undo) ∈ lw_tbl := ⟨List.mem_of_getElem? (i := 328) (by decide +kernel), List.mem_of_getElem? (i := 329) (by decide +kernel)⟩
def f_C_undo (N : Nat) (a : aT) : Option (Int32 × aT) :=
  (f_E_removeLast N a).bind fun q1 =>
    some (q1.1, q1.2)
set_option maxHeartbeats 4000000 in
set_option maxRecDepth 100000 in
theorem x_C_undo (E : eT) (N : Nat) (a : aT) : XI qI E md_C_undo 0 [.ref 0] [] a (f_C_undo N a) := by
  refine XI_go (pc' := 4) (ls' := [.ref 0]) (st' := [.ref 1]) (a' := a) [(.aload_n 0, 1, 0, .null), (.getfield 10, 3, 1000, .null)] (by decide +kernel) rfl ?_
  refine XI_VI (As := []) (rest := []) (b := 1) (idx := 91) (by decide +kernel) ok_E_removeLast mv_E_removeLast (n := 0) ⟨lk_C_91, by decide +kernel⟩ rfl rfl rfl rfl (Nat.le_of_ble_eq_true rfl) (Nat.le_of_ble_eq_true rfl) (qI_h rfl) (x_E_removeLast E N a) (fun q1 => ?_)
  exact XI_retI (by decide +kernel)
end
section
/-! ChestnutSticksModel.undo()I -/
def md_M_undo : md_T := (yX11_undo, cX11_undo, 1, (some .int), 0, 0)
set_option maxRecDepth 100000 in
theorem ok_M_undo : m_ok md_M_undo := ⟨List.mem_of_getElem? (i := 1045) (by decide +kernel), by decide +kernel, List.mem_of_getElem? (i := 64) (by decide +kernel), by decide +kernel⟩
theorem mv_M_undo : Cond.instanceMethod (m_y md_M_undo) ∈ lw_tbl ∧ Cond.selects (m_y md_M_undo).cls (m_y md_M_undo) (m_y md_M_undo) ∈ lw_tbl := ⟨List.mem_of_getElem? (i := 1043) (by decide +kernel), List.mem_of_getElem? (i := 1044) (by decide +kernel)⟩
def f_M_undo (a : aT) : Option (Int32 × aT) :=
  if (a 31 6) = 0 then
    some ((-3), a)
  else
    some (((a 31 6) - 1), (upA a 31 6 ((a 31 6) - 1)))
set_option maxHeartbeats 4000000 in
set_option maxRecDepth 100000 in
theorem x_M_undo (E : eT) (a : aT) : XI qI E md_M_undo 0 [.ref 31] [] a (f_M_undo a) := by
  refine XI_br (c := (a 31 6) = 0) (t := 7) (e := 10) (ls' := [.ref 31]) (st' := []) (a' := a) [(.aload_n 0, 1, 0, .null), (.getfield 104, 3, 1106, .null), (.ifCond .ne 6, 3, 10, .null)] (by decide +kernel) rfl ?_ ?_
  · refine XI_go (pc' := 9) (ls' := [.ref 31]) (st' := [.int (-3)]) (a' := a) [(.bipush (-3), 2, 0, .int (-3))] (by decide +kernel) rfl ?_
    exact XI_retI (by decide +kernel)
  · refine XI_go (pc' := 24) (ls' := [.ref 31]) (st' := [.int ((a 31 6) - 1)]) (a' := (upA a 31 6 ((a 31 6) - 1))) [(.aload_n 0, 1, 0, .null), (.dup, 1, 0, .null), (.getfield 104, 3, 1106, .null), (.iconst 1, 1, 0, .int 1), (.isub, 1, 0, .null), (.putfield 104, 3, 1106, .int 0), (.aload_n 0, 1, 0, .null), (.getfield 104, 3, 1106, .null)] (by decide +kernel) rfl ?_
    exact XI_retI (by decide +kernel)
/-! ChestnutSticks$Tree.faultPlace()I -/
def md_E_faultPlace : md_T := (yX9_faultPlace, cX9_faultPlace, 1, (some .int), 0, 0)
set_option maxRecDepth 100000 in
theorem ok_E_faultPlace : m_ok md_E_faultPlace := ⟨List.mem_of_getElem? (i := 342) (by decide +kernel), by decide +kernel, List.mem_of_getElem? (i := 54) (by decide +kernel), by decide +kernel⟩
theorem mv_E_faultPlace : Cond.instanceMethod (m_y md_E_faultPlace) ∈ lw_tbl ∧ Cond.selects (m_y md_E_faultPlace).cls (m_y md_E_faultPlace) (m_y md_E_faultPlace) ∈ lw_tbl := ⟨List.mem_of_getElem? (i := 340) (by decide +kernel), List.mem_of_getElem? (i := 341) (by decide +kernel)⟩
def f_E_faultPlace (a : aT) : Int32 :=
  (a 1 3)
set_option maxHeartbeats 4000000 in
set_option maxRecDepth 100000 in
theorem x_E_faultPlace (E : eT) (a : aT) : XT qI E md_E_faultPlace 0 [.ref 1] [] a (f_E_faultPlace a) := by
  refine XT_go (pc' := 4) (ls' := [.ref 1]) (st' := [.int (a 1 3)]) (a' := a) [(.aload_n 0, 1, 0, .null), (.getfield 22, 3, 903, .null)] (by decide +kernel) rfl ?_
  exact XT_retI (by decide +kernel)
/-! ChestnutSticks.fault()I -/
def md_C_fault : md_T := (yX10_fault, cX10_fault, 1, (some .int), 1, 20)
set_option maxRecDepth 100000 in
theorem ok_C_fault : m_ok md_C_fault := ⟨List.mem_of_getElem? (i := 338) (by decide +kernel), by decide +kernel, List.mem_of_getElem? (i := 53) (by decide +kernel), by decide +kernel⟩
theorem mv_C_fault : Cond.instanceMethod (m_y md_C_fault) ∈ lw_tbl ∧ Cond.selects (m_y md_C_fault).cls (m_y md_C_fault) (m_y md_C_fault) ∈ lw_tbl := ⟨List.mem_of_getElem? (i := 336) (by decide +kernel), List.mem_of_getElem? (i := 337) (by decide +kernel)⟩
def f_C_fault (a : aT) : Int32 :=
  (f_E_faultPlace a)
set_option maxHeartbeats 4000000 in
set_option maxRecDepth 100000 in
theorem x_C_fault (E : eT) (a : aT) : XT qI E md_C_fault 0 [.ref 0] [] a (f_C_fault a) := by
  refine XT_go (pc' := 4) (ls' := [.ref 0]) (st' := [.ref 1]) (a' := a) [(.aload_n 0, 1, 0, .null), (.getfield 10, 3, 1000, .null)] (by decide +kernel) rfl ?_
  refine XT_VT (As := []) (rest := []) (b := 1) (idx := 94) (by decide +kernel) ok_E_faultPlace mv_E_faultPlace (n := 0) ⟨lk_C_94, by decide +kernel⟩ rfl rfl rfl rfl (Nat.le_of_ble_eq_true rfl) (Nat.le_of_ble_eq_true rfl) (qI_h rfl) (x_E_faultPlace E a) ?_
  exact XT_retI (by decide +kernel)
/-! ChestnutSticksModel.clears()V -/
def md_M_clears : md_T := (yX11_clears, cX11_clears, 2, none, 0, 0)
set_option maxRecDepth 100000 in
theorem ok_M_clears : m_ok md_M_clears := ⟨List.mem_of_getElem? (i := 1057) (by decide +kernel), by decide +kernel, List.mem_of_getElem? (i := 64) (by decide +kernel), by decide +kernel⟩
theorem mv_M_clears : Cond.instanceMethod (m_y md_M_clears) ∈ lw_tbl ∧ Cond.selects (m_y md_M_clears).cls (m_y md_M_clears) (m_y md_M_clears) ∈ lw_tbl := ⟨List.mem_of_getElem? (i := 1056) (by decide +kernel), List.mem_of_getElem? (i := 21) (by decide +kernel)⟩
def f_M_clears_2 (N : Nat) : Nat → Int32 → aT → Option (Unit × aT)
  | 0 => fun _ _ => none
  | n + 1 => fun x1 a =>
    if 48 ≤ x1 then
      some ((), (upA (upA a 31 10 0) 31 11 0))
    else
      if inb x1 48 then
        if inb x1 48 then
          f_M_clears_2 N n (x1 + 1) (upA (upA a 37 (ix x1) 0) 38 (ix x1) (-1))
        else none
      else none
def f_M_clears (N : Nat) (a : aT) : Option (Unit × aT) :=
  f_M_clears_2 N N 0 a
set_option maxHeartbeats 4000000 in
set_option maxRecDepth 100000 in
theorem x_M_clears_2 (E : eT) (N : Nat) : ∀ (n : Nat) (x1 : Int32) (a : aT), XI qV E md_M_clears 2 [.ref 31, .int x1] [] a (f_M_clears_2 N n x1 a)
  | 0, _, _ => XI_no rfl
  | n + 1, x1, a => by
    refine XI_br (c := 48 ≤ x1) (t := 28) (e := 8) (ls' := [.ref 31, .int x1]) (st' := []) (a' := a) [(.iload_n 1, 1, 1, .null), (.bipush 48, 2, 0, .int 48), (.if_icmp .ge 23, 3, 28, .null)] (by decide +kernel) rfl ?_ ?_
    · refine XI_go (pc' := 38) (ls' := [.ref 31, .int x1]) (st' := []) (a' := (upA (upA a 31 10 0) 31 11 0)) [(.aload_n 0, 1, 0, .null), (.iconst 0, 1, 0, .int 0), (.putfield 107, 3, 1110, .int 0), (.aload_n 0, 1, 0, .null), (.iconst 0, 1, 0, .int 0), (.putfield 110, 3, 1111, .int 0)] (by decide +kernel) rfl ?_
      exact XI_retV (by decide +kernel)
    · refine XI_ck (c := inb x1 48) (pc' := 15) (ls' := [.ref 31, .int x1]) (st' := []) (a' := (upA a 37 (ix x1) 0)) [(.aload_n 0, 1, 0, .null), (.getfield 25, 3, 1108, .null), (.iload_n 1, 1, 1, .null), (.iconst 0, 1, 0, .int 0), (.bastore, 1, 0, .null)] (by decide +kernel) rfl ?_
      refine XI_ck (c := inb x1 48) (pc' := 22) (ls' := [.ref 31, .int x1]) (st' := []) (a' := (upA (upA a 37 (ix x1) 0) 38 (ix x1) (-1))) [(.aload_n 0, 1, 0, .null), (.getfield 29, 3, 1109, .null), (.iload_n 1, 1, 1, .null), (.iconst (-1), 1, 0, .int (-1)), (.iastore, 1, 0, .null)] (by decide +kernel) rfl ?_
      refine XI_go (pc' := 2) (ls' := [.ref 31, .int (x1 + 1)]) (st' := []) (a' := (upA (upA a 37 (ix x1) 0) 38 (ix x1) (-1))) [(.iinc 1 1, 3, 1, .int 1), (.goto (-23), 3, 2, .null)] (by decide +kernel) rfl ?_
      refine XI_fg [true, true] ?_
      exact x_M_clears_2 E N n (x1 + 1) (upA (upA a 37 (ix x1) 0) 38 (ix x1) (-1))
set_option maxHeartbeats 4000000 in
set_option maxRecDepth 100000 in
theorem x_M_clears (E : eT) (N : Nat) (a : aT) : XI qV E md_M_clears 0 [.ref 31, .null] [] a (f_M_clears N a) := by
  refine XI_go (pc' := 2) (ls' := [.ref 31, .int 0]) (st' := []) (a' := a) [(.iconst 0, 1, 0, .int 0), (.istore_n 1, 1, 1, .null)] (by decide +kernel) rfl ?_
  refine XI_fg [true, true] ?_
  exact x_M_clears_2 E N N 0 a
/-! ChestnutSticksModel.readsRow()Z -/
def md_M_readsRow : md_T := (yX11_readsRow, cX11_readsRow, 4, (some .boolean), 1, 25)
set_option maxRecDepth 100000 in
theorem ok_M_readsRow : m_ok md_M_readsRow := ⟨List.mem_of_getElem? (i := 1061) (by decide +kernel), by decide +kernel, List.mem_of_getElem? (i := 64) (by decide +kernel), by decide +kernel⟩
theorem mv_M_readsRow : Cond.instanceMethod (m_y md_M_readsRow) ∈ lw_tbl ∧ Cond.selects (m_y md_M_readsRow).cls (m_y md_M_readsRow) (m_y md_M_readsRow) ∈ lw_tbl := ⟨List.mem_of_getElem? (i := 1060) (by decide +kernel), List.mem_of_getElem? (i := 22) (by decide +kernel)⟩
def f_M_readsRow_90 (N : Nat) (k19 : Int32 → Int32 → aT → Option (Int32 × aT)) (x1 : Int32) (x2 : Int32) (x3 : Int32) (a : aT) : Option (Int32 × aT) :=
  if inb ((8 * (a 31 10)) + x1) 48 then
    if x3 = 46 then
      if inb ((8 * (a 31 10)) + x1) 48 then
        k19 (x1 + 1) x2 (upA (upA (upA a 37 (ix ((8 * (a 31 10)) + x1)) 1) 38 (ix ((8 * (a 31 10)) + x1)) (-1)) 31 7 ((a 31 7) + 1))
      else none
    else
      if inb ((8 * (a 31 10)) + x1) 48 then
        k19 (x1 + 1) x2 (upA (upA (upA a 37 (ix ((8 * (a 31 10)) + x1)) 1) 38 (ix ((8 * (a 31 10)) + x1)) (x3 - 48)) 31 7 ((a 31 7) + 1))
      else none
  else none
def f_M_readsRow_149 (N : Nat) (x1 : Int32) (a : aT) : Option (Int32 × aT) :=
  if x1 = 0 then
    some (0, a)
  else
    if (a 31 10) ≤ 0 then
      some (1, (upA (upA a 31 11 x1) 31 10 ((a 31 10) + 1)))
    else
      if (a 31 11) ≤ x1 then
        some (1, (upA (upA a 31 11 x1) 31 10 ((a 31 10) + 1)))
      else
        some (0, a)
def f_M_readsRow_19 (N : Nat) : Nat → Int32 → Int32 → aT → Option (Int32 × aT)
  | 0 => fun _ _ _ => none
  | n + 1 => fun x1 x2 a =>
    if (a 31 6) ≤ (a 31 7) then
      f_M_readsRow_149 N x1 a
    else
      if inb (a 31 7) 53 then
        if (a 36 (ix (a 31 7))) = 59 then
          f_M_readsRow_149 N x1 a
        else
          if inb (a 31 7) 53 then
            if (a 31 10) = 6 then
              some (0, a)
            else
              if x1 = x2 then
                some (0, a)
              else
                if (a 36 (ix (a 31 7))) = 46 then
                  f_M_readsRow_90 N (f_M_readsRow_19 N n) x1 x2 (a 36 (ix (a 31 7))) a
                else
                  if (f_M_in (a 36 (ix (a 31 7))).toInt64 48 57) = 0 then
                    some (0, a)
                  else
                    f_M_readsRow_90 N (f_M_readsRow_19 N n) x1 x2 (a 36 (ix (a 31 7))) a
          else none
      else none
def f_M_readsRow (N : Nat) (a : aT) : Option (Int32 × aT) :=
  if (a 31 10) = 0 then
    f_M_readsRow_19 N N 0 8 a
  else
    f_M_readsRow_19 N N 0 (a 31 11) a
set_option maxHeartbeats 4000000 in
set_option maxRecDepth 100000 in
theorem x_M_readsRow_90 (E : eT) (N : Nat) (k19 : Int32 → Int32 → aT → Option (Int32 × aT)) (h19 : ∀ (x1 : Int32) (x2 : Int32) (a : aT), XI qZ E md_M_readsRow 19 [.ref 31, .int x1, .int x2, .null] [] a (k19 x1 x2 a)) (x1 : Int32) (x2 : Int32) (x3 : Int32) (a : aT) : XI qZ E md_M_readsRow 90 [.ref 31, .int x1, .int x2, .int x3] [] a (f_M_readsRow_90 N k19 x1 x2 x3 a) := by
  refine XI_ck (c := inb ((8 * (a 31 10)) + x1) 48) (pc' := 105) (ls' := [.ref 31, .int x1, .int x2, .int x3]) (st' := []) (a' := (upA a 37 (ix ((8 * (a 31 10)) + x1)) 1)) [(.aload_n 0, 1, 0, .null), (.getfield 25, 3, 1108, .null), (.bipush 8, 2, 0, .int 8), (.aload_n 0, 1, 0, .null), (.getfield 107, 3, 1110, .null), (.imul, 1, 0, .null), (.iload_n 1, 1, 1, .null), (.iadd, 1, 0, .null), (.iconst 1, 1, 0, .int 1), (.bastore, 1, 0, .null)] (by decide +kernel) rfl ?_
  refine XI_br (c := x3 = 46) (t := 124) (e := 128) (ls' := [.ref 31, .int x1, .int x2, .int x3]) (st' := [.int ((8 * (a 31 10)) + x1), .ref 38]) (a' := (upA a 37 (ix ((8 * (a 31 10)) + x1)) 1)) [(.aload_n 0, 1, 0, .null), (.getfield 29, 3, 1109, .null), (.bipush 8, 2, 0, .int 8), (.aload_n 0, 1, 0, .null), (.getfield 107, 3, 1110, .null), (.imul, 1, 0, .null), (.iload_n 1, 1, 1, .null), (.iadd, 1, 0, .null), (.iload_n 3, 1, 3, .null), (.bipush 46, 2, 0, .int 46), (.if_icmp .ne 7, 3, 128, .null)] (by decide +kernel) rfl ?_ ?_
  · refine XI_ck (c := inb ((8 * (a 31 10)) + x1) 48) (pc' := 133) (ls' := [.ref 31, .int x1, .int x2, .int x3]) (st' := []) (a' := (upA (upA a 37 (ix ((8 * (a 31 10)) + x1)) 1) 38 (ix ((8 * (a 31 10)) + x1)) (-1))) [(.iconst (-1), 1, 0, .int (-1)), (.goto 7, 3, 132, .null), (.iastore, 1, 0, .null)] (by decide +kernel) rfl ?_
    refine XI_go (pc' := 19) (ls' := [.ref 31, .int (x1 + 1), .int x2, .int x3]) (st' := []) (a' := (upA (upA (upA a 37 (ix ((8 * (a 31 10)) + x1)) 1) 38 (ix ((8 * (a 31 10)) + x1)) (-1)) 31 7 ((a 31 7) + 1))) [(.iinc 1 1, 3, 1, .int 1), (.aload_n 0, 1, 0, .null), (.dup, 1, 0, .null), (.getfield 113, 3, 1107, .null), (.iconst 1, 1, 0, .int 1), (.iadd, 1, 0, .null), (.putfield 113, 3, 1107, .int 0), (.goto (-127), 3, 19, .null)] (by decide +kernel) rfl ?_
    refine XI_fg [true, true, true, false] ?_
    exact h19 (x1 + 1) x2 (upA (upA (upA a 37 (ix ((8 * (a 31 10)) + x1)) 1) 38 (ix ((8 * (a 31 10)) + x1)) (-1)) 31 7 ((a 31 7) + 1))
  · refine XI_ck (c := inb ((8 * (a 31 10)) + x1) 48) (pc' := 133) (ls' := [.ref 31, .int x1, .int x2, .int x3]) (st' := []) (a' := (upA (upA a 37 (ix ((8 * (a 31 10)) + x1)) 1) 38 (ix ((8 * (a 31 10)) + x1)) (x3 - 48))) [(.iload_n 3, 1, 3, .null), (.bipush 48, 2, 0, .int 48), (.isub, 1, 0, .null), (.iastore, 1, 0, .null)] (by decide +kernel) rfl ?_
    refine XI_go (pc' := 19) (ls' := [.ref 31, .int (x1 + 1), .int x2, .int x3]) (st' := []) (a' := (upA (upA (upA a 37 (ix ((8 * (a 31 10)) + x1)) 1) 38 (ix ((8 * (a 31 10)) + x1)) (x3 - 48)) 31 7 ((a 31 7) + 1))) [(.iinc 1 1, 3, 1, .int 1), (.aload_n 0, 1, 0, .null), (.dup, 1, 0, .null), (.getfield 113, 3, 1107, .null), (.iconst 1, 1, 0, .int 1), (.iadd, 1, 0, .null), (.putfield 113, 3, 1107, .int 0), (.goto (-127), 3, 19, .null)] (by decide +kernel) rfl ?_
    refine XI_fg [true, true, true, false] ?_
    exact h19 (x1 + 1) x2 (upA (upA (upA a 37 (ix ((8 * (a 31 10)) + x1)) 1) 38 (ix ((8 * (a 31 10)) + x1)) (x3 - 48)) 31 7 ((a 31 7) + 1))
set_option maxHeartbeats 4000000 in
set_option maxRecDepth 100000 in
theorem x_M_readsRow_149 (E : eT) (N : Nat) (x1 : Int32) (a : aT) : XI qZ E md_M_readsRow 149 [.ref 31, .int x1, .null, .null] [] a (f_M_readsRow_149 N x1 a) := by
  refine XI_br (c := x1 = 0) (t := 168) (e := 153) (ls' := [.ref 31, .int x1, .null, .null]) (st' := []) (a' := a) [(.iload_n 1, 1, 1, .null), (.ifCond .eq 18, 3, 168, .null)] (by decide +kernel) rfl ?_ ?_
  · refine XI_go (pc' := 169) (ls' := [.ref 31, .int x1, .null, .null]) (st' := [.int 0]) (a' := a) [(.iconst 0, 1, 0, .int 0)] (by decide +kernel) rfl ?_
    exact XI_retZ (by decide +kernel) rfl
  · refine XI_br (c := (a 31 10) ≤ 0) (t := 170) (e := 160) (ls' := [.ref 31, .int x1, .null, .null]) (st' := []) (a' := a) [(.aload_n 0, 1, 0, .null), (.getfield 107, 3, 1110, .null), (.ifCond .le 13, 3, 170, .null)] (by decide +kernel) rfl ?_ ?_
    · refine XI_go (pc' := 186) (ls' := [.ref 31, .int x1, .null, .null]) (st' := [.int 1]) (a' := (upA (upA a 31 11 x1) 31 10 ((a 31 10) + 1))) [(.aload_n 0, 1, 0, .null), (.iload_n 1, 1, 1, .null), (.putfield 110, 3, 1111, .int 0), (.aload_n 0, 1, 0, .null), (.dup, 1, 0, .null), (.getfield 107, 3, 1110, .null), (.iconst 1, 1, 0, .int 1), (.iadd, 1, 0, .null), (.putfield 107, 3, 1110, .int 0), (.iconst 1, 1, 0, .int 1)] (by decide +kernel) rfl ?_
      exact XI_retZ (by decide +kernel) rfl
    · refine XI_br (c := (a 31 11) ≤ x1) (t := 170) (e := 168) (ls' := [.ref 31, .int x1, .null, .null]) (st' := []) (a' := a) [(.iload_n 1, 1, 1, .null), (.aload_n 0, 1, 0, .null), (.getfield 110, 3, 1111, .null), (.if_icmp .ge 5, 3, 170, .null)] (by decide +kernel) rfl ?_ ?_
      · refine XI_go (pc' := 186) (ls' := [.ref 31, .int x1, .null, .null]) (st' := [.int 1]) (a' := (upA (upA a 31 11 x1) 31 10 ((a 31 10) + 1))) [(.aload_n 0, 1, 0, .null), (.iload_n 1, 1, 1, .null), (.putfield 110, 3, 1111, .int 0), (.aload_n 0, 1, 0, .null), (.dup, 1, 0, .null), (.getfield 107, 3, 1110, .null), (.iconst 1, 1, 0, .int 1), (.iadd, 1, 0, .null), (.putfield 107, 3, 1110, .int 0), (.iconst 1, 1, 0, .int 1)] (by decide +kernel) rfl ?_
        exact XI_retZ (by decide +kernel) rfl
      · refine XI_go (pc' := 169) (ls' := [.ref 31, .int x1, .null, .null]) (st' := [.int 0]) (a' := a) [(.iconst 0, 1, 0, .int 0)] (by decide +kernel) rfl ?_
        exact XI_retZ (by decide +kernel) rfl
set_option maxHeartbeats 4000000 in
set_option maxRecDepth 100000 in
theorem x_M_readsRow_19 (E : eT) (N : Nat) : ∀ (n : Nat) (x1 : Int32) (x2 : Int32) (a : aT), XI qZ E md_M_readsRow 19 [.ref 31, .int x1, .int x2, .null] [] a (f_M_readsRow_19 N n x1 x2 a)
  | 0, _, _, _ => XI_no rfl
  | n + 1, x1, x2, a => by
    refine XI_br (c := (a 31 6) ≤ (a 31 7)) (t := 149) (e := 30) (ls' := [.ref 31, .int x1, .int x2, .null]) (st' := []) (a' := a) [(.aload_n 0, 1, 0, .null), (.getfield 113, 3, 1107, .null), (.aload_n 0, 1, 0, .null), (.getfield 104, 3, 1106, .null), (.if_icmp .ge 122, 3, 149, .null)] (by decide +kernel) rfl ?_ ?_
    · refine XI_fg [true, true, false, false] ?_
      exact x_M_readsRow_149 E N x1 a
    · refine XI_ck (c := inb (a 31 7) 53) (pc' := 39) (ls' := [.ref 31, .int x1, .int x2, .null]) (st' := [.int (a 36 (ix (a 31 7)))]) (a' := a) [(.aload_n 0, 1, 0, .null), (.getfield 22, 3, 1105, .null), (.aload_n 0, 1, 0, .null), (.getfield 113, 3, 1107, .null), (.iaload, 1, 0, .null)] (by decide +kernel) rfl ?_
      refine XI_br (c := (a 36 (ix (a 31 7))) = 59) (t := 149) (e := 44) (ls' := [.ref 31, .int x1, .int x2, .null]) (st' := []) (a' := a) [(.bipush 59, 2, 0, .int 59), (.if_icmp .eq 108, 3, 149, .null)] (by decide +kernel) rfl ?_ ?_
      · refine XI_fg [true, true, false, false] ?_
        exact x_M_readsRow_149 E N x1 a
      · refine XI_ck (c := inb (a 31 7) 53) (pc' := 53) (ls' := [.ref 31, .int x1, .int x2, .null]) (st' := [.int (a 36 (ix (a 31 7)))]) (a' := a) [(.aload_n 0, 1, 0, .null), (.getfield 22, 3, 1105, .null), (.aload_n 0, 1, 0, .null), (.getfield 113, 3, 1107, .null), (.iaload, 1, 0, .null)] (by decide +kernel) rfl ?_
        refine XI_br (c := (a 31 10) = 6) (t := 88) (e := 63) (ls' := [.ref 31, .int x1, .int x2, .int (a 36 (ix (a 31 7)))]) (st' := []) (a' := a) [(.istore_n 3, 1, 3, .null), (.aload_n 0, 1, 0, .null), (.getfield 107, 3, 1110, .null), (.bipush 6, 2, 0, .int 6), (.if_icmp .eq 28, 3, 88, .null)] (by decide +kernel) rfl ?_ ?_
        · refine XI_go (pc' := 89) (ls' := [.ref 31, .int x1, .int x2, .int (a 36 (ix (a 31 7)))]) (st' := [.int 0]) (a' := a) [(.iconst 0, 1, 0, .int 0)] (by decide +kernel) rfl ?_
          exact XI_retZ (by decide +kernel) rfl
        · refine XI_br (c := x1 = x2) (t := 88) (e := 68) (ls' := [.ref 31, .int x1, .int x2, .int (a 36 (ix (a 31 7)))]) (st' := []) (a' := a) [(.iload_n 1, 1, 1, .null), (.iload_n 2, 1, 2, .null), (.if_icmp .eq 23, 3, 88, .null)] (by decide +kernel) rfl ?_ ?_
          · refine XI_go (pc' := 89) (ls' := [.ref 31, .int x1, .int x2, .int (a 36 (ix (a 31 7)))]) (st' := [.int 0]) (a' := a) [(.iconst 0, 1, 0, .int 0)] (by decide +kernel) rfl ?_
            exact XI_retZ (by decide +kernel) rfl
          · refine XI_br (c := (a 36 (ix (a 31 7))) = 46) (t := 90) (e := 74) (ls' := [.ref 31, .int x1, .int x2, .int (a 36 (ix (a 31 7)))]) (st' := []) (a' := a) [(.iload_n 3, 1, 3, .null), (.bipush 46, 2, 0, .int 46), (.if_icmp .eq 19, 3, 90, .null)] (by decide +kernel) rfl ?_ ?_
            · refine XI_fg [true, true, true, true] ?_
              exact x_M_readsRow_90 E N (f_M_readsRow_19 N n) (x_M_readsRow_19 E N n) x1 x2 (a 36 (ix (a 31 7))) a
            · refine XI_go (pc' := 82) (ls' := [.ref 31, .int x1, .int x2, .int (a 36 (ix (a 31 7)))]) (st' := [.long 57, .long 48, .long (a 36 (ix (a 31 7))).toInt64]) (a' := a) [(.iload_n 3, 1, 3, .null), (.i2l, 1, 0, .null), (.ldc2_w 116, 3, 0, .long 48), (.ldc2_w 118, 3, 0, .long 57)] (by decide +kernel) rfl ?_
              refine XI_ST (As := [.long (a 36 (ix (a 31 7))).toInt64, .long 48, .long 57]) (rest := []) (idx := 74) (by decide +kernel) ok_M_in mv_M_in (n := 3) ⟨lk_M_74, by decide +kernel⟩ rfl (Nat.le_of_ble_eq_true rfl) (Nat.le_of_ble_eq_true rfl) (qZ_h rfl) (x_M_in E (a 36 (ix (a 31 7))).toInt64 48 57 a) ?_
              refine XI_br (c := (f_M_in (a 36 (ix (a 31 7))).toInt64 48 57) = 0) (t := 88) (e := 90) (ls' := [.ref 31, .int x1, .int x2, .int (a 36 (ix (a 31 7)))]) (st' := []) (a' := a) [(.ifCond .ne 5, 3, 90, .null)] (by decide +kernel) rfl ?_ ?_
              · refine XI_go (pc' := 89) (ls' := [.ref 31, .int x1, .int x2, .int (a 36 (ix (a 31 7)))]) (st' := [.int 0]) (a' := a) [(.iconst 0, 1, 0, .int 0)] (by decide +kernel) rfl ?_
                exact XI_retZ (by decide +kernel) rfl
              · refine XI_fg [true, true, true, true] ?_
                exact x_M_readsRow_90 E N (f_M_readsRow_19 N n) (x_M_readsRow_19 E N n) x1 x2 (a 36 (ix (a 31 7))) a
set_option maxHeartbeats 4000000 in
set_option maxRecDepth 100000 in
theorem x_M_readsRow (E : eT) (N : Nat) (a : aT) : XI qZ E md_M_readsRow 0 [.ref 31, .null, .null, .null] [] a (f_M_readsRow N a) := by
  refine XI_br (c := (a 31 10) = 0) (t := 9) (e := 14) (ls' := [.ref 31, .int 0, .null, .null]) (st' := []) (a' := a) [(.iconst 0, 1, 0, .int 0), (.istore_n 1, 1, 1, .null), (.aload_n 0, 1, 0, .null), (.getfield 107, 3, 1110, .null), (.ifCond .ne 8, 3, 14, .null)] (by decide +kernel) rfl ?_ ?_
  · refine XI_go (pc' := 19) (ls' := [.ref 31, .int 0, .int 8, .null]) (st' := []) (a' := a) [(.bipush 8, 2, 0, .int 8), (.goto 7, 3, 18, .null), (.istore_n 2, 1, 2, .null)] (by decide +kernel) rfl ?_
    refine XI_fg [true, true, true, false] ?_
    exact x_M_readsRow_19 E N N 0 8 a
  · refine XI_go (pc' := 19) (ls' := [.ref 31, .int 0, .int (a 31 11), .null]) (st' := []) (a' := a) [(.aload_n 0, 1, 0, .null), (.getfield 110, 3, 1111, .null), (.istore_n 2, 1, 2, .null)] (by decide +kernel) rfl ?_
    refine XI_fg [true, true, true, false] ?_
    exact x_M_readsRow_19 E N N 0 (a 31 11) a
/-! ChestnutSticksModel.reads()I -/
def md_M_reads : md_T := (yX11_reads, cX11_reads, 2, (some .int), 2, 48)
set_option maxRecDepth 100000 in
theorem ok_M_reads : m_ok md_M_reads := ⟨List.mem_of_getElem? (i := 1053) (by decide +kernel), by decide +kernel, List.mem_of_getElem? (i := 64) (by decide +kernel), by decide +kernel⟩
theorem mv_M_reads : Cond.instanceMethod (m_y md_M_reads) ∈ lw_tbl ∧ Cond.selects (m_y md_M_reads).cls (m_y md_M_reads) (m_y md_M_reads) ∈ lw_tbl := ⟨List.mem_of_getElem? (i := 1052) (by decide +kernel), List.mem_of_getElem? (i := 20) (by decide +kernel)⟩
def f_M_reads_58 (N : Nat) (k22 : Int32 → aT → Option (Int32 × aT)) (y1 : Int32) (a : aT) : Option (Int32 × aT) :=
  if y1 = 0 then
    k22 y1 (upA a 31 7 ((a 31 7) + 0))
  else
    k22 y1 (upA a 31 7 ((a 31 7) + 1))
def f_M_reads_22 (N : Nat) : Nat → Int32 → aT → Option (Int32 × aT)
  | 0 => fun _ _ => none
  | n + 1 => fun x1 a =>
    if x1 = 0 then
      some ((-1), a)
    else
      (f_M_readsRow N a).bind fun q2 =>
        if q2.1 = 0 then
          (f_M_clears N q2.2).bind fun q3 =>
            some ((q3.2 31 7), q3.2)
        else
          if (q2.2 31 6) ≤ (q2.2 31 7) then
            f_M_reads_58 N (f_M_reads_22 N n) 0 q2.2
          else
            f_M_reads_58 N (f_M_reads_22 N n) 1 q2.2
def f_M_reads (N : Nat) (a : aT) : Option (Int32 × aT) :=
  (f_M_clears N a).bind fun q1 =>
    if (q1.2 31 6) ≤ 0 then
      f_M_reads_22 N N 0 (upA q1.2 31 7 0)
    else
      f_M_reads_22 N N 1 (upA q1.2 31 7 0)
set_option maxHeartbeats 4000000 in
set_option maxRecDepth 100000 in
theorem x_M_reads_58 (E : eT) (N : Nat) (k22 : Int32 → aT → Option (Int32 × aT)) (h22 : ∀ (x1 : Int32) (a : aT), XI qI E md_M_reads 22 [.ref 31, .int x1] [] a (k22 x1 a)) (y1 : Int32) (a : aT) : XI qI E md_M_reads 58 [.ref 31, .null] [.int y1] a (f_M_reads_58 N k22 y1 a) := by
  refine XI_br (c := y1 = 0) (t := 72) (e := 68) (ls' := [.ref 31, .int y1]) (st' := [.int (a 31 7), .ref 31]) (a' := a) [(.istore_n 1, 1, 1, .null), (.aload_n 0, 1, 0, .null), (.dup, 1, 0, .null), (.getfield 113, 3, 1107, .null), (.iload_n 1, 1, 1, .null), (.ifCond .eq 7, 3, 72, .null)] (by decide +kernel) rfl ?_ ?_
  · refine XI_go (pc' := 22) (ls' := [.ref 31, .int y1]) (st' := []) (a' := (upA a 31 7 ((a 31 7) + 0))) [(.iconst 0, 1, 0, .int 0), (.iadd, 1, 0, .null), (.putfield 113, 3, 1107, .int 0), (.goto (-55), 3, 22, .null)] (by decide +kernel) rfl ?_
    refine XI_fg [true, true] ?_
    exact h22 y1 (upA a 31 7 ((a 31 7) + 0))
  · refine XI_go (pc' := 22) (ls' := [.ref 31, .int y1]) (st' := []) (a' := (upA a 31 7 ((a 31 7) + 1))) [(.iconst 1, 1, 0, .int 1), (.goto 4, 3, 73, .null), (.iadd, 1, 0, .null), (.putfield 113, 3, 1107, .int 0), (.goto (-55), 3, 22, .null)] (by decide +kernel) rfl ?_
    refine XI_fg [true, true] ?_
    exact h22 y1 (upA a 31 7 ((a 31 7) + 1))
set_option maxHeartbeats 4000000 in
set_option maxRecDepth 100000 in
theorem x_M_reads_22 (E : eT) (N : Nat) : ∀ (n : Nat) (x1 : Int32) (a : aT), XI qI E md_M_reads 22 [.ref 31, .int x1] [] a (f_M_reads_22 N n x1 a)
  | 0, _, _ => XI_no rfl
  | n + 1, x1, a => by
    refine XI_br (c := x1 = 0) (t := 80) (e := 26) (ls' := [.ref 31, .int x1]) (st' := []) (a' := a) [(.iload_n 1, 1, 1, .null), (.ifCond .eq 57, 3, 80, .null)] (by decide +kernel) rfl ?_ ?_
    · refine XI_go (pc' := 81) (ls' := [.ref 31, .int x1]) (st' := [.int (-1)]) (a' := a) [(.iconst (-1), 1, 0, .int (-1))] (by decide +kernel) rfl ?_
      exact XI_retI (by decide +kernel)
    · refine XI_go (pc' := 27) (ls' := [.ref 31, .int x1]) (st' := [.ref 31]) (a' := a) [(.aload_n 0, 1, 0, .null)] (by decide +kernel) rfl ?_
      refine XI_VI (As := []) (rest := []) (b := 31) (idx := 123) (by decide +kernel) ok_M_readsRow mv_M_readsRow (n := 0) ⟨lk_M_123, by decide +kernel⟩ rfl rfl rfl rfl (Nat.le_of_ble_eq_true rfl) (Nat.le_of_ble_eq_true rfl) (qZ_h rfl) (x_M_readsRow E N a) (fun q2 => ?_)
      refine XI_br (c := q2.1 = 0) (t := 33) (e := 42) (ls' := [.ref 31, .int x1]) (st' := []) (a' := q2.2) [(.ifCond .ne 12, 3, 42, .null)] (by decide +kernel) rfl ?_ ?_
      · refine XI_go (pc' := 34) (ls' := [.ref 31, .int x1]) (st' := [.ref 31]) (a' := q2.2) [(.aload_n 0, 1, 0, .null)] (by decide +kernel) rfl ?_
        refine XI_VI (As := []) (rest := []) (b := 31) (idx := 120) (by decide +kernel) ok_M_clears mv_M_clears (n := 0) ⟨lk_M_120, by decide +kernel⟩ rfl rfl rfl rfl (Nat.le_of_ble_eq_true rfl) (Nat.le_of_ble_eq_true rfl) (qV_h rfl) (x_M_clears E N q2.2) (fun q3 => ?_)
        refine XI_go (pc' := 41) (ls' := [.ref 31, .int x1]) (st' := [.int (q3.2 31 7)]) (a' := q3.2) [(.aload_n 0, 1, 0, .null), (.getfield 113, 3, 1107, .null)] (by decide +kernel) rfl ?_
        exact XI_retI (by decide +kernel)
      · refine XI_br (c := (q2.2 31 6) ≤ (q2.2 31 7)) (t := 57) (e := 53) (ls' := [.ref 31, .int x1]) (st' := []) (a' := q2.2) [(.aload_n 0, 1, 0, .null), (.getfield 113, 3, 1107, .null), (.aload_n 0, 1, 0, .null), (.getfield 104, 3, 1106, .null), (.if_icmp .ge 7, 3, 57, .null)] (by decide +kernel) rfl ?_ ?_
        · refine XI_go (pc' := 58) (ls' := [.ref 31, .int x1]) (st' := [.int 0]) (a' := q2.2) [(.iconst 0, 1, 0, .int 0)] (by decide +kernel) rfl ?_
          refine XI_fg [true, false] ?_
          exact x_M_reads_58 E N (f_M_reads_22 N n) (x_M_reads_22 E N n) 0 q2.2
        · refine XI_go (pc' := 58) (ls' := [.ref 31, .int x1]) (st' := [.int 1]) (a' := q2.2) [(.iconst 1, 1, 0, .int 1), (.goto 4, 3, 58, .null)] (by decide +kernel) rfl ?_
          refine XI_fg [true, false] ?_
          exact x_M_reads_58 E N (f_M_reads_22 N n) (x_M_reads_22 E N n) 1 q2.2
set_option maxHeartbeats 4000000 in
set_option maxRecDepth 100000 in
theorem x_M_reads (E : eT) (N : Nat) (a : aT) : XI qI E md_M_reads 0 [.ref 31, .null] [] a (f_M_reads N a) := by
  refine XI_go (pc' := 1) (ls' := [.ref 31, .null]) (st' := [.ref 31]) (a' := a) [(.aload_n 0, 1, 0, .null)] (by decide +kernel) rfl ?_
  refine XI_VI (As := []) (rest := []) (b := 31) (idx := 120) (by decide +kernel) ok_M_clears mv_M_clears (n := 0) ⟨lk_M_120, by decide +kernel⟩ rfl rfl rfl rfl (Nat.le_of_ble_eq_true rfl) (Nat.le_of_ble_eq_true rfl) (qV_h rfl) (x_M_clears E N a) (fun q1 => ?_)
  refine XI_br (c := (q1.2 31 6) ≤ 0) (t := 20) (e := 16) (ls' := [.ref 31, .null]) (st' := []) (a' := (upA q1.2 31 7 0)) [(.aload_n 0, 1, 0, .null), (.iconst 0, 1, 0, .int 0), (.putfield 113, 3, 1107, .int 0), (.aload_n 0, 1, 0, .null), (.getfield 104, 3, 1106, .null), (.ifCond .le 7, 3, 20, .null)] (by decide +kernel) rfl ?_ ?_
  · refine XI_go (pc' := 22) (ls' := [.ref 31, .int 0]) (st' := []) (a' := (upA q1.2 31 7 0)) [(.iconst 0, 1, 0, .int 0), (.istore_n 1, 1, 1, .null)] (by decide +kernel) rfl ?_
    refine XI_fg [true, true] ?_
    exact x_M_reads_22 E N N 0 (upA q1.2 31 7 0)
  · refine XI_go (pc' := 22) (ls' := [.ref 31, .int 1]) (st' := []) (a' := (upA q1.2 31 7 0)) [(.iconst 1, 1, 0, .int 1), (.goto 4, 3, 21, .null), (.istore_n 1, 1, 1, .null)] (by decide +kernel) rfl ?_
    refine XI_fg [true, true] ?_
    exact x_M_reads_22 E N N 1 (upA q1.2 31 7 0)
/-! ChestnutSticksModel.fault()I -/
def md_M_fault : md_T := (yX11_fault, cX11_fault, 1, (some .int), 3, 69)
set_option maxRecDepth 100000 in
theorem ok_M_fault : m_ok md_M_fault := ⟨List.mem_of_getElem? (i := 1049) (by decide +kernel), by decide +kernel, List.mem_of_getElem? (i := 64) (by decide +kernel), by decide +kernel⟩
theorem mv_M_fault : Cond.instanceMethod (m_y md_M_fault) ∈ lw_tbl ∧ Cond.selects (m_y md_M_fault).cls (m_y md_M_fault) (m_y md_M_fault) ∈ lw_tbl := ⟨List.mem_of_getElem? (i := 1047) (by decide +kernel), List.mem_of_getElem? (i := 1048) (by decide +kernel)⟩
def f_M_fault (N : Nat) (a : aT) : Option (Int32 × aT) :=
  (f_M_reads N a).bind fun q1 =>
    some (q1.1, q1.2)
set_option maxHeartbeats 4000000 in
set_option maxRecDepth 100000 in
theorem x_M_fault (E : eT) (N : Nat) (a : aT) : XI qI E md_M_fault 0 [.ref 31] [] a (f_M_fault N a) := by
  refine XI_go (pc' := 1) (ls' := [.ref 31]) (st' := [.ref 31]) (a' := a) [(.aload_n 0, 1, 0, .null)] (by decide +kernel) rfl ?_
  refine XI_VI (As := []) (rest := []) (b := 31) (idx := 127) (by decide +kernel) ok_M_reads mv_M_reads (n := 0) ⟨lk_M_127, by decide +kernel⟩ rfl rfl rfl rfl (Nat.le_of_ble_eq_true rfl) (Nat.le_of_ble_eq_true rfl) (qI_h rfl) (x_M_reads E N a) (fun q1 => ?_)
  exact XI_retI (by decide +kernel)
/-! ChestnutSticks$Sticks.now(II)I -/
def md_T_now : md_T := (yX6_now, cX6_now, 3, (some .int), 1, 21)
set_option maxRecDepth 100000 in
theorem ok_T_now : m_ok md_T_now := ⟨List.mem_of_getElem? (i := 359) (by decide +kernel), by decide +kernel, List.mem_of_getElem? (i := 55) (by decide +kernel), by decide +kernel⟩
theorem mv_T_now : Cond.instanceMethod (m_y md_T_now) ∈ lw_tbl ∧ Cond.selects (m_y md_T_now).cls (m_y md_T_now) (m_y md_T_now) ∈ lw_tbl := ⟨List.mem_of_getElem? (i := 357) (by decide +kernel), List.mem_of_getElem? (i := 358) (by decide +kernel)⟩
def f_T_now (p1 : Int32) (p2 : Int32) (a : aT) : Option Int32 :=
  if (f_C_isBelow p1 4) = 0 then
    some 0
  else
    if (f_C_isBelow p2 3) = 0 then
      some 0
    else
      if inb ((3 * p1) + p2) 12 then
        some (a 5 (ix ((3 * p1) + p2)))
      else none
set_option maxHeartbeats 4000000 in
set_option maxRecDepth 100000 in
theorem x_T_now (E : eT) (p1 : Int32) (p2 : Int32) (a : aT) : XP qI E md_T_now 0 [.ref 4, .int p1, .int p2] [] a (f_T_now p1 p2 a) := by
  refine XP_go (pc' := 2) (ls' := [.ref 4, .int p1, .int p2]) (st' := [.int 4, .int p1]) (a' := a) [(.iload_n 1, 1, 1, .null), (.iconst 4, 1, 0, .int 4)] (by decide +kernel) rfl ?_
  refine XP_SNT (As := [.int p1, .int 4]) (rest := []) (idx := 15) (by decide +kernel) ok_C_isBelow mv_C_isBelow (n := 2) ⟨lk_T_15, by decide +kernel⟩ rfl (Nat.le_of_ble_eq_true rfl) (Nat.le_of_ble_eq_true rfl) (qZ_h rfl) (x_C_isBelow E p1 4 a) ?_
  refine XP_br (c := (f_C_isBelow p1 4) = 0) (t := 16) (e := 8) (ls' := [.ref 4, .int p1, .int p2]) (st' := []) (a' := a) [(.ifCond .eq 11, 3, 16, .null)] (by decide +kernel) rfl ?_ ?_
  · refine XP_go (pc' := 17) (ls' := [.ref 4, .int p1, .int p2]) (st' := [.int 0]) (a' := a) [(.iconst 0, 1, 0, .int 0)] (by decide +kernel) rfl ?_
    exact XP_retI (by decide +kernel)
  · refine XP_go (pc' := 10) (ls' := [.ref 4, .int p1, .int p2]) (st' := [.int 3, .int p2]) (a' := a) [(.iload_n 2, 1, 2, .null), (.iconst 3, 1, 0, .int 3)] (by decide +kernel) rfl ?_
    refine XP_SNT (As := [.int p2, .int 3]) (rest := []) (idx := 15) (by decide +kernel) ok_C_isBelow mv_C_isBelow (n := 2) ⟨lk_T_15, by decide +kernel⟩ rfl (Nat.le_of_ble_eq_true rfl) (Nat.le_of_ble_eq_true rfl) (qZ_h rfl) (x_C_isBelow E p2 3 a) ?_
    refine XP_br (c := (f_C_isBelow p2 3) = 0) (t := 16) (e := 18) (ls' := [.ref 4, .int p1, .int p2]) (st' := []) (a' := a) [(.ifCond .ne 5, 3, 18, .null)] (by decide +kernel) rfl ?_ ?_
    · refine XP_go (pc' := 17) (ls' := [.ref 4, .int p1, .int p2]) (st' := [.int 0]) (a' := a) [(.iconst 0, 1, 0, .int 0)] (by decide +kernel) rfl ?_
      exact XP_retI (by decide +kernel)
    · refine XP_ck (c := inb ((3 * p1) + p2) 12) (pc' := 28) (ls' := [.ref 4, .int p1, .int p2]) (st' := [.int (a 5 (ix ((3 * p1) + p2)))]) (a' := a) [(.aload_n 0, 1, 0, .null), (.getfield 9, 3, 600, .null), (.iconst 3, 1, 0, .int 3), (.iload_n 1, 1, 1, .null), (.imul, 1, 0, .null), (.iload_n 2, 1, 2, .null), (.iadd, 1, 0, .null), (.iaload, 1, 0, .null)] (by decide +kernel) rfl ?_
      exact XP_retI (by decide +kernel)
/-! ChestnutSticks$Sticks.change(III)I -/
def md_T_change : md_T := (yX6_change, cX6_change, 5, (some .int), 2, 43)
set_option maxRecDepth 100000 in
theorem ok_T_change : m_ok md_T_change := ⟨List.mem_of_getElem? (i := 350) (by decide +kernel), by decide +kernel, List.mem_of_getElem? (i := 55) (by decide +kernel), by decide +kernel⟩
theorem mv_T_change : Cond.instanceMethod (m_y md_T_change) ∈ lw_tbl ∧ Cond.selects (m_y md_T_change).cls (m_y md_T_change) (m_y md_T_change) ∈ lw_tbl := ⟨List.mem_of_getElem? (i := 348) (by decide +kernel), List.mem_of_getElem? (i := 349) (by decide +kernel)⟩
def f_T_change (p1 : Int32) (p2 : Int32) (p3 : Int32) (a : aT) : Option (Int32 × aT) :=
  if (f_C_isBelow p1 4) = 0 then
    some ((-2), a)
  else
    if (f_C_isBelow p2 3) = 0 then
      some ((-2), a)
    else
      if inb p2 3 then
        if p3 < (s_least (ix p2)) then
          some ((-2), a)
        else
          if inb p2 3 then
            if p3 ≤ (s_most (ix p2)) then
              (f_T_now p1 p2 a).bind fun q3 =>
                if inb ((3 * p1) + p2) 12 then
                  some (q3, (upA a 5 (ix ((3 * p1) + p2)) p3))
                else none
            else
              some ((-2), a)
          else none
      else none
set_option maxHeartbeats 4000000 in
set_option maxRecDepth 100000 in
theorem x_T_change (E : eT) (p1 : Int32) (p2 : Int32) (p3 : Int32) (a : aT) : XI qI E md_T_change 0 [.ref 4, .int p1, .int p2, .int p3, .null] [] a (f_T_change p1 p2 p3 a) := by
  refine XI_go (pc' := 2) (ls' := [.ref 4, .int p1, .int p2, .int p3, .null]) (st' := [.int 4, .int p1]) (a' := a) [(.iload_n 1, 1, 1, .null), (.iconst 4, 1, 0, .int 4)] (by decide +kernel) rfl ?_
  refine XI_SNT (As := [.int p1, .int 4]) (rest := []) (idx := 15) (by decide +kernel) ok_C_isBelow mv_C_isBelow (n := 2) ⟨lk_T_15, by decide +kernel⟩ rfl (Nat.le_of_ble_eq_true rfl) (Nat.le_of_ble_eq_true rfl) (qZ_h rfl) (x_C_isBelow E p1 4 a) ?_
  refine XI_br (c := (f_C_isBelow p1 4) = 0) (t := 16) (e := 8) (ls' := [.ref 4, .int p1, .int p2, .int p3, .null]) (st' := []) (a' := a) [(.ifCond .eq 11, 3, 16, .null)] (by decide +kernel) rfl ?_ ?_
  · refine XI_go (pc' := 18) (ls' := [.ref 4, .int p1, .int p2, .int p3, .null]) (st' := [.int (-2)]) (a' := a) [(.bipush (-2), 2, 0, .int (-2))] (by decide +kernel) rfl ?_
    exact XI_retI (by decide +kernel)
  · refine XI_go (pc' := 10) (ls' := [.ref 4, .int p1, .int p2, .int p3, .null]) (st' := [.int 3, .int p2]) (a' := a) [(.iload_n 2, 1, 2, .null), (.iconst 3, 1, 0, .int 3)] (by decide +kernel) rfl ?_
    refine XI_SNT (As := [.int p2, .int 3]) (rest := []) (idx := 15) (by decide +kernel) ok_C_isBelow mv_C_isBelow (n := 2) ⟨lk_T_15, by decide +kernel⟩ rfl (Nat.le_of_ble_eq_true rfl) (Nat.le_of_ble_eq_true rfl) (qZ_h rfl) (x_C_isBelow E p2 3 a) ?_
    refine XI_br (c := (f_C_isBelow p2 3) = 0) (t := 16) (e := 19) (ls' := [.ref 4, .int p1, .int p2, .int p3, .null]) (st' := []) (a' := a) [(.ifCond .ne 6, 3, 19, .null)] (by decide +kernel) rfl ?_ ?_
    · refine XI_go (pc' := 18) (ls' := [.ref 4, .int p1, .int p2, .int p3, .null]) (st' := [.int (-2)]) (a' := a) [(.bipush (-2), 2, 0, .int (-2))] (by decide +kernel) rfl ?_
      exact XI_retI (by decide +kernel)
    · refine XI_ck (c := inb p2 3) (pc' := 25) (ls' := [.ref 4, .int p1, .int p2, .int p3, .null]) (st' := [.int (s_least (ix p2)), .int p3]) (a' := a) [(.iload_n 3, 1, 3, .null), (.getstatic 19, 3, 0, .ref 1000), (.iload_n 2, 1, 2, .null), (.iaload, 1, 0, .null)] (by decide +kernel) rfl ?_
      refine XI_br (c := p3 < (s_least (ix p2))) (t := 37) (e := 28) (ls' := [.ref 4, .int p1, .int p2, .int p3, .null]) (st' := []) (a' := a) [(.if_icmp .lt 12, 3, 37, .null)] (by decide +kernel) rfl ?_ ?_
      · refine XI_go (pc' := 39) (ls' := [.ref 4, .int p1, .int p2, .int p3, .null]) (st' := [.int (-2)]) (a' := a) [(.bipush (-2), 2, 0, .int (-2))] (by decide +kernel) rfl ?_
        exact XI_retI (by decide +kernel)
      · refine XI_ck (c := inb p2 3) (pc' := 34) (ls' := [.ref 4, .int p1, .int p2, .int p3, .null]) (st' := [.int (s_most (ix p2)), .int p3]) (a' := a) [(.iload_n 3, 1, 3, .null), (.getstatic 22, 3, 0, .ref 1001), (.iload_n 2, 1, 2, .null), (.iaload, 1, 0, .null)] (by decide +kernel) rfl ?_
        refine XI_br (c := p3 ≤ (s_most (ix p2))) (t := 40) (e := 37) (ls' := [.ref 4, .int p1, .int p2, .int p3, .null]) (st' := []) (a' := a) [(.if_icmp .le 6, 3, 40, .null)] (by decide +kernel) rfl ?_ ?_
        · refine XI_go (pc' := 43) (ls' := [.ref 4, .int p1, .int p2, .int p3, .null]) (st' := [.int p2, .int p1, .ref 4]) (a' := a) [(.aload_n 0, 1, 0, .null), (.iload_n 1, 1, 1, .null), (.iload_n 2, 1, 2, .null)] (by decide +kernel) rfl ?_
          refine XI_VP (As := [.int p1, .int p2]) (rest := []) (b := 4) (idx := 25) (by decide +kernel) ok_T_now mv_T_now (n := 2) ⟨lk_T_25, by decide +kernel⟩ rfl rfl rfl rfl (Nat.le_of_ble_eq_true rfl) (Nat.le_of_ble_eq_true rfl) (qI_h rfl) (x_T_now E p1 p2 a) (fun q3 => ?_)
          refine XI_ck (c := inb ((3 * p1) + p2) 12) (pc' := 59) (ls' := [.ref 4, .int p1, .int p2, .int p3, .int q3]) (st' := []) (a' := (upA a 5 (ix ((3 * p1) + p2)) p3)) [(.istore 4, 2, 4, .null), (.aload_n 0, 1, 0, .null), (.getfield 9, 3, 600, .null), (.iconst 3, 1, 0, .int 3), (.iload_n 1, 1, 1, .null), (.imul, 1, 0, .null), (.iload_n 2, 1, 2, .null), (.iadd, 1, 0, .null), (.iload_n 3, 1, 3, .null), (.iastore, 1, 0, .null)] (by decide +kernel) rfl ?_
          refine XI_go (pc' := 61) (ls' := [.ref 4, .int p1, .int p2, .int p3, .int q3]) (st' := [.int q3]) (a' := (upA a 5 (ix ((3 * p1) + p2)) p3)) [(.iload 4, 2, 4, .null)] (by decide +kernel) rfl ?_
          exact XI_retI (by decide +kernel)
        · refine XI_go (pc' := 39) (ls' := [.ref 4, .int p1, .int p2, .int p3, .null]) (st' := [.int (-2)]) (a' := a) [(.bipush (-2), 2, 0, .int (-2))] (by decide +kernel) rfl ?_
          exact XI_retI (by decide +kernel)
/-! ChestnutSticks.stick(III)I -/
def md_C_stick : md_T := (yX10_stick, cX10_stick, 4, (some .int), 3, 67)
set_option maxRecDepth 100000 in
theorem ok_C_stick : m_ok md_C_stick := ⟨List.mem_of_getElem? (i := 346) (by decide +kernel), by decide +kernel, List.mem_of_getElem? (i := 53) (by decide +kernel), by decide +kernel⟩
theorem mv_C_stick : Cond.instanceMethod (m_y md_C_stick) ∈ lw_tbl ∧ Cond.selects (m_y md_C_stick).cls (m_y md_C_stick) (m_y md_C_stick) ∈ lw_tbl := ⟨List.mem_of_getElem? (i := 344) (by decide +kernel), List.mem_of_getElem? (i := 345) (by decide +kernel)⟩
def f_C_stick (p1 : Int32) (p2 : Int32) (p3 : Int32) (a : aT) : Option (Int32 × aT) :=
  (f_T_change p1 p2 p3 a).bind fun q1 =>
    some (q1.1, q1.2)
set_option maxHeartbeats 4000000 in
set_option maxRecDepth 100000 in
theorem x_C_stick (E : eT) (p1 : Int32) (p2 : Int32) (p3 : Int32) (a : aT) : XI qI E md_C_stick 0 [.ref 0, .int p1, .int p2, .int p3] [] a (f_C_stick p1 p2 p3 a) := by
  refine XI_go (pc' := 7) (ls' := [.ref 0, .int p1, .int p2, .int p3]) (st' := [.int p3, .int p2, .int p1, .ref 4]) (a' := a) [(.aload_n 0, 1, 0, .null), (.getfield 19, 3, 1001, .null), (.iload_n 1, 1, 1, .null), (.iload_n 2, 1, 2, .null), (.iload_n 3, 1, 3, .null)] (by decide +kernel) rfl ?_
  refine XI_VI (As := [.int p1, .int p2, .int p3]) (rest := []) (b := 4) (idx := 97) (by decide +kernel) ok_T_change mv_T_change (n := 3) ⟨lk_C_97, by decide +kernel⟩ rfl rfl rfl rfl (Nat.le_of_ble_eq_true rfl) (Nat.le_of_ble_eq_true rfl) (qI_h rfl) (x_T_change E p1 p2 p3 a) (fun q1 => ?_)
  exact XI_retI (by decide +kernel)
/-! ChestnutSticksModel.isFour(I)Z -/
def md_M_isFour : md_T := (yX11_isFour, cX11_isFour, 1, (some .boolean), 1, 25)
set_option maxRecDepth 100000 in
theorem ok_M_isFour : m_ok md_M_isFour := ⟨List.mem_of_getElem? (i := 1070) (by decide +kernel), by decide +kernel, List.mem_of_getElem? (i := 64) (by decide +kernel), by decide +kernel⟩
theorem mv_M_isFour : Cond.static (m_y md_M_isFour) ∈ lw_tbl := List.mem_of_getElem? (i := 1069) (by decide +kernel)
def f_M_isFour (p1 : Int32) : Int32 :=
  (vp_nar .boolean (f_M_in p1.toInt64 0 3))
set_option maxHeartbeats 4000000 in
set_option maxRecDepth 100000 in
theorem x_M_isFour (E : eT) (p1 : Int32) (a : aT) : XT qZ E md_M_isFour 0 [.int p1] [] a (f_M_isFour p1) := by
  refine XT_go (pc' := 6) (ls' := [.int p1]) (st' := [.long 3, .long 0, .long p1.toInt64]) (a' := a) [(.iload_n 0, 1, 0, .null), (.i2l, 1, 0, .null), (.lconst 0, 1, 0, .long 0), (.ldc2_w 81, 3, 0, .long 3)] (by decide +kernel) rfl ?_
  refine XT_ST (As := [.long p1.toInt64, .long 0, .long 3]) (rest := []) (idx := 74) (by decide +kernel) ok_M_in mv_M_in (n := 3) ⟨lk_M_74, by decide +kernel⟩ rfl (Nat.le_of_ble_eq_true rfl) (Nat.le_of_ble_eq_true rfl) (qZ_h rfl) (x_M_in E p1.toInt64 0 3 a) ?_
  exact XT_retZ (by decide +kernel) rfl
/-! ChestnutSticksModel.stick(III)I -/
def md_M_stick : md_T := (yX11_stick, cX11_stick, 5, (some .int), 2, 45)
set_option maxRecDepth 100000 in
theorem ok_M_stick : m_ok md_M_stick := ⟨List.mem_of_getElem? (i := 1067) (by decide +kernel), by decide +kernel, List.mem_of_getElem? (i := 64) (by decide +kernel), by decide +kernel⟩
theorem mv_M_stick : Cond.instanceMethod (m_y md_M_stick) ∈ lw_tbl ∧ Cond.selects (m_y md_M_stick).cls (m_y md_M_stick) (m_y md_M_stick) ∈ lw_tbl := ⟨List.mem_of_getElem? (i := 1065) (by decide +kernel), List.mem_of_getElem? (i := 1066) (by decide +kernel)⟩
def f_M_stick_139 (x1 : Int32) (x2 : Int32) (x3 : Int32) (x4 : Int32) (y3 : Int32) (y2 : Int32) (a : aT) : Option (Int32 × aT) :=
  if inb y2 4 then
    if x2 = 2 then
      if inb x1 4 then
        some (x4, (upA (upA a 40 (ix y2) y3) 41 (ix x1) x3))
      else none
    else
      if inb x1 4 then
        if inb x1 4 then
          some (x4, (upA (upA a 40 (ix y2) y3) 41 (ix x1) (a 41 (ix x1))))
        else none
      else none
  else none
def f_M_stick_118 (x1 : Int32) (x2 : Int32) (x3 : Int32) (x4 : Int32) (y3 : Int32) (y2 : Int32) (a : aT) : Option (Int32 × aT) :=
  if inb y2 4 then
    if x2 = 1 then
      f_M_stick_139 x1 x2 x3 x4 x3 x1 (upA a 39 (ix y2) y3)
    else
      if inb x1 4 then
        f_M_stick_139 x1 x2 x3 x4 (a 40 (ix x1)) x1 (upA a 39 (ix y2) y3)
      else none
  else none
def f_M_stick_97 (x1 : Int32) (x2 : Int32) (x3 : Int32) (y1 : Int32) (a : aT) : Option (Int32 × aT) :=
  if x2 = 0 then
    f_M_stick_118 x1 x2 x3 y1 x3 x1 a
  else
    if inb x1 4 then
      f_M_stick_118 x1 x2 x3 y1 (a 39 (ix x1)) x1 a
    else none
def f_M_stick_55 (x1 : Int32) (x2 : Int32) (x3 : Int32) (y3 : Int64) (y2 : Int64) (y1 : Int64) (a : aT) : Option (Int32 × aT) :=
  if (f_M_in y1 y2 y3) = 0 then
    some ((-2), a)
  else
    if x2 = 0 then
      if inb x1 4 then
        f_M_stick_97 x1 x2 x3 (a 39 (ix x1)) a
      else none
    else
      if x2 = 1 then
        if inb x1 4 then
          f_M_stick_97 x1 x2 x3 (a 40 (ix x1)) a
        else none
      else
        if inb x1 4 then
          f_M_stick_97 x1 x2 x3 (a 41 (ix x1)) a
        else none
def f_M_stick_31 (x1 : Int32) (x2 : Int32) (x3 : Int32) (y2 : Int64) (y1 : Int64) (a : aT) : Option (Int32 × aT) :=
  if x2 = 0 then
    f_M_stick_55 x1 x2 x3 9 y2 y1 a
  else
    if x2 = 1 then
      f_M_stick_55 x1 x2 x3 3 y2 y1 a
    else
      f_M_stick_55 x1 x2 x3 16 y2 y1 a
def f_M_stick (p1 : Int32) (p2 : Int32) (p3 : Int32) (a : aT) : Option (Int32 × aT) :=
  if (f_M_isFour p1) = 0 then
    some ((-2), a)
  else
    if (f_M_in p2.toInt64 0 2) = 0 then
      some ((-2), a)
    else
      if p2 = 2 then
        f_M_stick_31 p1 p2 p3 0 p3.toInt64 a
      else
        f_M_stick_31 p1 p2 p3 1 p3.toInt64 a
set_option maxHeartbeats 4000000 in
set_option maxRecDepth 100000 in
theorem x_M_stick_139 (E : eT) (x1 : Int32) (x2 : Int32) (x3 : Int32) (x4 : Int32) (y3 : Int32) (y2 : Int32) (a : aT) : XI qI E md_M_stick 139 [.ref 31, .int x1, .int x2, .int x3, .int x4] [.int y3, .int y2, .ref 40] a (f_M_stick_139 x1 x2 x3 x4 y3 y2 a) := by
  refine XI_ck (c := inb y2 4) (pc' := 140) (ls' := [.ref 31, .int x1, .int x2, .int x3, .int x4]) (st' := []) (a' := (upA a 40 (ix y2) y3)) [(.iastore, 1, 0, .null)] (by decide +kernel) rfl ?_
  refine XI_br (c := x2 = 2) (t := 150) (e := 154) (ls' := [.ref 31, .int x1, .int x2, .int x3, .int x4]) (st' := [.int x1, .ref 41]) (a' := (upA a 40 (ix y2) y3)) [(.aload_n 0, 1, 0, .null), (.getfield 38, 3, 1114, .null), (.iload_n 1, 1, 1, .null), (.iload_n 2, 1, 2, .null), (.iconst 2, 1, 0, .int 2), (.if_icmp .ne 7, 3, 154, .null)] (by decide +kernel) rfl ?_ ?_
  · refine XI_ck (c := inb x1 4) (pc' := 161) (ls' := [.ref 31, .int x1, .int x2, .int x3, .int x4]) (st' := []) (a' := (upA (upA a 40 (ix y2) y3) 41 (ix x1) x3)) [(.iload_n 3, 1, 3, .null), (.goto 9, 3, 160, .null), (.iastore, 1, 0, .null)] (by decide +kernel) rfl ?_
    refine XI_go (pc' := 163) (ls' := [.ref 31, .int x1, .int x2, .int x3, .int x4]) (st' := [.int x4]) (a' := (upA (upA a 40 (ix y2) y3) 41 (ix x1) x3)) [(.iload 4, 2, 4, .null)] (by decide +kernel) rfl ?_
    exact XI_retI (by decide +kernel)
  · refine XI_ck (c := inb x1 4) (pc' := 160) (ls' := [.ref 31, .int x1, .int x2, .int x3, .int x4]) (st' := [.int (a 41 (ix x1)), .int x1, .ref 41]) (a' := (upA a 40 (ix y2) y3)) [(.aload_n 0, 1, 0, .null), (.getfield 38, 3, 1114, .null), (.iload_n 1, 1, 1, .null), (.iaload, 1, 0, .null)] (by decide +kernel) rfl ?_
    refine XI_ck (c := inb x1 4) (pc' := 161) (ls' := [.ref 31, .int x1, .int x2, .int x3, .int x4]) (st' := []) (a' := (upA (upA a 40 (ix y2) y3) 41 (ix x1) (a 41 (ix x1)))) [(.iastore, 1, 0, .null)] (by decide +kernel) rfl ?_
    refine XI_go (pc' := 163) (ls' := [.ref 31, .int x1, .int x2, .int x3, .int x4]) (st' := [.int x4]) (a' := (upA (upA a 40 (ix y2) y3) 41 (ix x1) (a 41 (ix x1)))) [(.iload 4, 2, 4, .null)] (by decide +kernel) rfl ?_
    exact XI_retI (by decide +kernel)
set_option maxHeartbeats 4000000 in
set_option maxRecDepth 100000 in
theorem x_M_stick_118 (E : eT) (x1 : Int32) (x2 : Int32) (x3 : Int32) (x4 : Int32) (y3 : Int32) (y2 : Int32) (a : aT) : XI qI E md_M_stick 118 [.ref 31, .int x1, .int x2, .int x3, .int x4] [.int y3, .int y2, .ref 39] a (f_M_stick_118 x1 x2 x3 x4 y3 y2 a) := by
  refine XI_ck (c := inb y2 4) (pc' := 119) (ls' := [.ref 31, .int x1, .int x2, .int x3, .int x4]) (st' := []) (a' := (upA a 39 (ix y2) y3)) [(.iastore, 1, 0, .null)] (by decide +kernel) rfl ?_
  refine XI_br (c := x2 = 1) (t := 129) (e := 133) (ls' := [.ref 31, .int x1, .int x2, .int x3, .int x4]) (st' := [.int x1, .ref 40]) (a' := (upA a 39 (ix y2) y3)) [(.aload_n 0, 1, 0, .null), (.getfield 35, 3, 1113, .null), (.iload_n 1, 1, 1, .null), (.iload_n 2, 1, 2, .null), (.iconst 1, 1, 0, .int 1), (.if_icmp .ne 7, 3, 133, .null)] (by decide +kernel) rfl ?_ ?_
  · refine XI_go (pc' := 139) (ls' := [.ref 31, .int x1, .int x2, .int x3, .int x4]) (st' := [.int x3, .int x1, .ref 40]) (a' := (upA a 39 (ix y2) y3)) [(.iload_n 3, 1, 3, .null), (.goto 9, 3, 139, .null)] (by decide +kernel) rfl ?_
    refine XI_fg [true, true, true, true, true] ?_
    exact x_M_stick_139 E x1 x2 x3 x4 x3 x1 (upA a 39 (ix y2) y3)
  · refine XI_ck (c := inb x1 4) (pc' := 139) (ls' := [.ref 31, .int x1, .int x2, .int x3, .int x4]) (st' := [.int (a 40 (ix x1)), .int x1, .ref 40]) (a' := (upA a 39 (ix y2) y3)) [(.aload_n 0, 1, 0, .null), (.getfield 35, 3, 1113, .null), (.iload_n 1, 1, 1, .null), (.iaload, 1, 0, .null)] (by decide +kernel) rfl ?_
    refine XI_fg [true, true, true, true, true] ?_
    exact x_M_stick_139 E x1 x2 x3 x4 (a 40 (ix x1)) x1 (upA a 39 (ix y2) y3)
set_option maxHeartbeats 4000000 in
set_option maxRecDepth 100000 in
theorem x_M_stick_97 (E : eT) (x1 : Int32) (x2 : Int32) (x3 : Int32) (y1 : Int32) (a : aT) : XI qI E md_M_stick 97 [.ref 31, .int x1, .int x2, .int x3, .null] [.int y1] a (f_M_stick_97 x1 x2 x3 y1 a) := by
  refine XI_br (c := x2 = 0) (t := 108) (e := 112) (ls' := [.ref 31, .int x1, .int x2, .int x3, .int y1]) (st' := [.int x1, .ref 39]) (a' := a) [(.istore 4, 2, 4, .null), (.aload_n 0, 1, 0, .null), (.getfield 32, 3, 1112, .null), (.iload_n 1, 1, 1, .null), (.iload_n 2, 1, 2, .null), (.ifCond .ne 7, 3, 112, .null)] (by decide +kernel) rfl ?_ ?_
  · refine XI_go (pc' := 118) (ls' := [.ref 31, .int x1, .int x2, .int x3, .int y1]) (st' := [.int x3, .int x1, .ref 39]) (a' := a) [(.iload_n 3, 1, 3, .null), (.goto 9, 3, 118, .null)] (by decide +kernel) rfl ?_
    refine XI_fg [true, true, true, true, true] ?_
    exact x_M_stick_118 E x1 x2 x3 y1 x3 x1 a
  · refine XI_ck (c := inb x1 4) (pc' := 118) (ls' := [.ref 31, .int x1, .int x2, .int x3, .int y1]) (st' := [.int (a 39 (ix x1)), .int x1, .ref 39]) (a' := a) [(.aload_n 0, 1, 0, .null), (.getfield 32, 3, 1112, .null), (.iload_n 1, 1, 1, .null), (.iaload, 1, 0, .null)] (by decide +kernel) rfl ?_
    refine XI_fg [true, true, true, true, true] ?_
    exact x_M_stick_118 E x1 x2 x3 y1 (a 39 (ix x1)) x1 a
set_option maxHeartbeats 4000000 in
set_option maxRecDepth 100000 in
theorem x_M_stick_55 (E : eT) (x1 : Int32) (x2 : Int32) (x3 : Int32) (y3 : Int64) (y2 : Int64) (y1 : Int64) (a : aT) : XI qI E md_M_stick 55 [.ref 31, .int x1, .int x2, .int x3, .null] [.long y3, .long y2, .long y1] a (f_M_stick_55 x1 x2 x3 y3 y2 y1 a) := by
  refine XI_ST (As := [.long y1, .long y2, .long y3]) (rest := []) (idx := 74) (by decide +kernel) ok_M_in mv_M_in (n := 3) ⟨lk_M_74, by decide +kernel⟩ rfl (Nat.le_of_ble_eq_true rfl) (Nat.le_of_ble_eq_true rfl) (qZ_h rfl) (x_M_in E y1 y2 y3 a) ?_
  refine XI_br (c := (f_M_in y1 y2 y3) = 0) (t := 61) (e := 64) (ls' := [.ref 31, .int x1, .int x2, .int x3, .null]) (st' := []) (a' := a) [(.ifCond .ne 6, 3, 64, .null)] (by decide +kernel) rfl ?_ ?_
  · refine XI_go (pc' := 63) (ls' := [.ref 31, .int x1, .int x2, .int x3, .null]) (st' := [.int (-2)]) (a' := a) [(.bipush (-2), 2, 0, .int (-2))] (by decide +kernel) rfl ?_
    exact XI_retI (by decide +kernel)
  · refine XI_br (c := x2 = 0) (t := 68) (e := 77) (ls' := [.ref 31, .int x1, .int x2, .int x3, .null]) (st' := []) (a' := a) [(.iload_n 2, 1, 2, .null), (.ifCond .ne 12, 3, 77, .null)] (by decide +kernel) rfl ?_ ?_
    · refine XI_ck (c := inb x1 4) (pc' := 74) (ls' := [.ref 31, .int x1, .int x2, .int x3, .null]) (st' := [.int (a 39 (ix x1))]) (a' := a) [(.aload_n 0, 1, 0, .null), (.getfield 32, 3, 1112, .null), (.iload_n 1, 1, 1, .null), (.iaload, 1, 0, .null)] (by decide +kernel) rfl ?_
      refine XI_go (pc' := 97) (ls' := [.ref 31, .int x1, .int x2, .int x3, .null]) (st' := [.int (a 39 (ix x1))]) (a' := a) [(.goto 23, 3, 97, .null)] (by decide +kernel) rfl ?_
      refine XI_fg [true, true, true, true, false] ?_
      exact x_M_stick_97 E x1 x2 x3 (a 39 (ix x1)) a
    · refine XI_br (c := x2 = 1) (t := 82) (e := 91) (ls' := [.ref 31, .int x1, .int x2, .int x3, .null]) (st' := []) (a' := a) [(.iload_n 2, 1, 2, .null), (.iconst 1, 1, 0, .int 1), (.if_icmp .ne 12, 3, 91, .null)] (by decide +kernel) rfl ?_ ?_
      · refine XI_ck (c := inb x1 4) (pc' := 88) (ls' := [.ref 31, .int x1, .int x2, .int x3, .null]) (st' := [.int (a 40 (ix x1))]) (a' := a) [(.aload_n 0, 1, 0, .null), (.getfield 35, 3, 1113, .null), (.iload_n 1, 1, 1, .null), (.iaload, 1, 0, .null)] (by decide +kernel) rfl ?_
        refine XI_go (pc' := 97) (ls' := [.ref 31, .int x1, .int x2, .int x3, .null]) (st' := [.int (a 40 (ix x1))]) (a' := a) [(.goto 9, 3, 97, .null)] (by decide +kernel) rfl ?_
        refine XI_fg [true, true, true, true, false] ?_
        exact x_M_stick_97 E x1 x2 x3 (a 40 (ix x1)) a
      · refine XI_ck (c := inb x1 4) (pc' := 97) (ls' := [.ref 31, .int x1, .int x2, .int x3, .null]) (st' := [.int (a 41 (ix x1))]) (a' := a) [(.aload_n 0, 1, 0, .null), (.getfield 38, 3, 1114, .null), (.iload_n 1, 1, 1, .null), (.iaload, 1, 0, .null)] (by decide +kernel) rfl ?_
        refine XI_fg [true, true, true, true, false] ?_
        exact x_M_stick_97 E x1 x2 x3 (a 41 (ix x1)) a
set_option maxHeartbeats 4000000 in
set_option maxRecDepth 100000 in
theorem x_M_stick_31 (E : eT) (x1 : Int32) (x2 : Int32) (x3 : Int32) (y2 : Int64) (y1 : Int64) (a : aT) : XI qI E md_M_stick 31 [.ref 31, .int x1, .int x2, .int x3, .null] [.long y2, .long y1] a (f_M_stick_31 x1 x2 x3 y2 y1 a) := by
  refine XI_br (c := x2 = 0) (t := 35) (e := 41) (ls' := [.ref 31, .int x1, .int x2, .int x3, .null]) (st' := [.long y2, .long y1]) (a' := a) [(.iload_n 2, 1, 2, .null), (.ifCond .ne 9, 3, 41, .null)] (by decide +kernel) rfl ?_ ?_
  · refine XI_go (pc' := 55) (ls' := [.ref 31, .int x1, .int x2, .int x3, .null]) (st' := [.long 9, .long y2, .long y1]) (a' := a) [(.ldc2_w 136, 3, 0, .long 9), (.goto 17, 3, 55, .null)] (by decide +kernel) rfl ?_
    refine XI_fg [true, true, true, true, false] ?_
    exact x_M_stick_55 E x1 x2 x3 9 y2 y1 a
  · refine XI_br (c := x2 = 1) (t := 46) (e := 52) (ls' := [.ref 31, .int x1, .int x2, .int x3, .null]) (st' := [.long y2, .long y1]) (a' := a) [(.iload_n 2, 1, 2, .null), (.iconst 1, 1, 0, .int 1), (.if_icmp .ne 9, 3, 52, .null)] (by decide +kernel) rfl ?_ ?_
    · refine XI_go (pc' := 55) (ls' := [.ref 31, .int x1, .int x2, .int x3, .null]) (st' := [.long 3, .long y2, .long y1]) (a' := a) [(.ldc2_w 81, 3, 0, .long 3), (.goto 6, 3, 55, .null)] (by decide +kernel) rfl ?_
      refine XI_fg [true, true, true, true, false] ?_
      exact x_M_stick_55 E x1 x2 x3 3 y2 y1 a
    · refine XI_go (pc' := 55) (ls' := [.ref 31, .int x1, .int x2, .int x3, .null]) (st' := [.long 16, .long y2, .long y1]) (a' := a) [(.ldc2_w 138, 3, 0, .long 16)] (by decide +kernel) rfl ?_
      refine XI_fg [true, true, true, true, false] ?_
      exact x_M_stick_55 E x1 x2 x3 16 y2 y1 a
set_option maxHeartbeats 4000000 in
set_option maxRecDepth 100000 in
theorem x_M_stick (E : eT) (p1 : Int32) (p2 : Int32) (p3 : Int32) (a : aT) : XI qI E md_M_stick 0 [.ref 31, .int p1, .int p2, .int p3, .null] [] a (f_M_stick p1 p2 p3 a) := by
  refine XI_go (pc' := 1) (ls' := [.ref 31, .int p1, .int p2, .int p3, .null]) (st' := [.int p1]) (a' := a) [(.iload_n 1, 1, 1, .null)] (by decide +kernel) rfl ?_
  refine XI_ST (As := [.int p1]) (rest := []) (idx := 133) (by decide +kernel) ok_M_isFour mv_M_isFour (n := 1) ⟨lk_M_133, by decide +kernel⟩ rfl (Nat.le_of_ble_eq_true rfl) (Nat.le_of_ble_eq_true rfl) (qZ_h rfl) (x_M_isFour E p1 a) ?_
  refine XI_br (c := (f_M_isFour p1) = 0) (t := 61) (e := 7) (ls' := [.ref 31, .int p1, .int p2, .int p3, .null]) (st' := []) (a' := a) [(.ifCond .eq 57, 3, 61, .null)] (by decide +kernel) rfl ?_ ?_
  · refine XI_go (pc' := 63) (ls' := [.ref 31, .int p1, .int p2, .int p3, .null]) (st' := [.int (-2)]) (a' := a) [(.bipush (-2), 2, 0, .int (-2))] (by decide +kernel) rfl ?_
    exact XI_retI (by decide +kernel)
  · refine XI_go (pc' := 13) (ls' := [.ref 31, .int p1, .int p2, .int p3, .null]) (st' := [.long 2, .long 0, .long p2.toInt64]) (a' := a) [(.iload_n 2, 1, 2, .null), (.i2l, 1, 0, .null), (.lconst 0, 1, 0, .long 0), (.ldc2_w 87, 3, 0, .long 2)] (by decide +kernel) rfl ?_
    refine XI_ST (As := [.long p2.toInt64, .long 0, .long 2]) (rest := []) (idx := 74) (by decide +kernel) ok_M_in mv_M_in (n := 3) ⟨lk_M_74, by decide +kernel⟩ rfl (Nat.le_of_ble_eq_true rfl) (Nat.le_of_ble_eq_true rfl) (qZ_h rfl) (x_M_in E p2.toInt64 0 2 a) ?_
    refine XI_br (c := (f_M_in p2.toInt64 0 2) = 0) (t := 61) (e := 19) (ls' := [.ref 31, .int p1, .int p2, .int p3, .null]) (st' := []) (a' := a) [(.ifCond .eq 45, 3, 61, .null)] (by decide +kernel) rfl ?_ ?_
    · refine XI_go (pc' := 63) (ls' := [.ref 31, .int p1, .int p2, .int p3, .null]) (st' := [.int (-2)]) (a' := a) [(.bipush (-2), 2, 0, .int (-2))] (by decide +kernel) rfl ?_
      exact XI_retI (by decide +kernel)
    · refine XI_br (c := p2 = 2) (t := 26) (e := 30) (ls' := [.ref 31, .int p1, .int p2, .int p3, .null]) (st' := [.long p3.toInt64]) (a' := a) [(.iload_n 3, 1, 3, .null), (.i2l, 1, 0, .null), (.iload_n 2, 1, 2, .null), (.iconst 2, 1, 0, .int 2), (.if_icmp .ne 7, 3, 30, .null)] (by decide +kernel) rfl ?_ ?_
      · refine XI_go (pc' := 31) (ls' := [.ref 31, .int p1, .int p2, .int p3, .null]) (st' := [.long 0, .long p3.toInt64]) (a' := a) [(.lconst 0, 1, 0, .long 0), (.goto 4, 3, 31, .null)] (by decide +kernel) rfl ?_
        refine XI_fg [true, true, true, true, false] ?_
        exact x_M_stick_31 E p1 p2 p3 0 p3.toInt64 a
      · refine XI_go (pc' := 31) (ls' := [.ref 31, .int p1, .int p2, .int p3, .null]) (st' := [.long 1, .long p3.toInt64]) (a' := a) [(.lconst 1, 1, 0, .long 1)] (by decide +kernel) rfl ?_
        refine XI_fg [true, true, true, true, false] ?_
        exact x_M_stick_31 E p1 p2 p3 1 p3.toInt64 a
/-! ChestnutSticks$Rules.change(II)I -/
def md_R_change : md_T := (yX2_change, cX2_change, 4, (some .int), 1, 21)
set_option maxRecDepth 100000 in
theorem ok_R_change : m_ok md_R_change := ⟨List.mem_of_getElem? (i := 367) (by decide +kernel), by decide +kernel, List.mem_of_getElem? (i := 56) (by decide +kernel), by decide +kernel⟩
theorem mv_R_change : Cond.instanceMethod (m_y md_R_change) ∈ lw_tbl ∧ Cond.selects (m_y md_R_change).cls (m_y md_R_change) (m_y md_R_change) ∈ lw_tbl := ⟨List.mem_of_getElem? (i := 365) (by decide +kernel), List.mem_of_getElem? (i := 366) (by decide +kernel)⟩
def f_R_change (p1 : Int32) (p2 : Int32) (a : aT) : Option (Int32 × aT) :=
  if (f_C_isBelow p1 6) = 0 then
    some ((-2), a)
  else
    if p2 < 0 then
      some ((-2), a)
    else
      if inb p1 6 then
        if p2 ≤ (r_most (ix p1)) then
          if inb p1 6 then
            if inb p1 6 then
              some ((a 7 (ix p1)), (upA a 7 (ix p1) p2))
            else none
          else none
        else
          some ((-2), a)
      else none
set_option maxHeartbeats 4000000 in
set_option maxRecDepth 100000 in
theorem x_R_change (E : eT) (p1 : Int32) (p2 : Int32) (a : aT) : XI qI E md_R_change 0 [.ref 6, .int p1, .int p2, .null] [] a (f_R_change p1 p2 a) := by
  refine XI_go (pc' := 3) (ls' := [.ref 6, .int p1, .int p2, .null]) (st' := [.int 6, .int p1]) (a' := a) [(.iload_n 1, 1, 1, .null), (.bipush 6, 2, 0, .int 6)] (by decide +kernel) rfl ?_
  refine XI_SNT (As := [.int p1, .int 6]) (rest := []) (idx := 19) (by decide +kernel) ok_C_isBelow mv_C_isBelow (n := 2) ⟨lk_R_19, by decide +kernel⟩ rfl (Nat.le_of_ble_eq_true rfl) (Nat.le_of_ble_eq_true rfl) (qZ_h rfl) (x_C_isBelow E p1 6 a) ?_
  refine XI_br (c := (f_C_isBelow p1 6) = 0) (t := 22) (e := 9) (ls' := [.ref 6, .int p1, .int p2, .null]) (st' := []) (a' := a) [(.ifCond .eq 16, 3, 22, .null)] (by decide +kernel) rfl ?_ ?_
  · refine XI_go (pc' := 24) (ls' := [.ref 6, .int p1, .int p2, .null]) (st' := [.int (-2)]) (a' := a) [(.bipush (-2), 2, 0, .int (-2))] (by decide +kernel) rfl ?_
    exact XI_retI (by decide +kernel)
  · refine XI_br (c := p2 < 0) (t := 22) (e := 13) (ls' := [.ref 6, .int p1, .int p2, .null]) (st' := []) (a' := a) [(.iload_n 2, 1, 2, .null), (.ifCond .lt 12, 3, 22, .null)] (by decide +kernel) rfl ?_ ?_
    · refine XI_go (pc' := 24) (ls' := [.ref 6, .int p1, .int p2, .null]) (st' := [.int (-2)]) (a' := a) [(.bipush (-2), 2, 0, .int (-2))] (by decide +kernel) rfl ?_
      exact XI_retI (by decide +kernel)
    · refine XI_ck (c := inb p1 6) (pc' := 19) (ls' := [.ref 6, .int p1, .int p2, .null]) (st' := [.int (r_most (ix p1)), .int p2]) (a' := a) [(.iload_n 2, 1, 2, .null), (.getstatic 23, 3, 0, .ref 1002), (.iload_n 1, 1, 1, .null), (.iaload, 1, 0, .null)] (by decide +kernel) rfl ?_
      refine XI_br (c := p2 ≤ (r_most (ix p1))) (t := 25) (e := 22) (ls' := [.ref 6, .int p1, .int p2, .null]) (st' := []) (a' := a) [(.if_icmp .le 6, 3, 25, .null)] (by decide +kernel) rfl ?_ ?_
      · refine XI_ck (c := inb p1 6) (pc' := 31) (ls' := [.ref 6, .int p1, .int p2, .null]) (st' := [.int (a 7 (ix p1))]) (a' := a) [(.aload_n 0, 1, 0, .null), (.getfield 9, 3, 200, .null), (.iload_n 1, 1, 1, .null), (.iaload, 1, 0, .null)] (by decide +kernel) rfl ?_
        refine XI_ck (c := inb p1 6) (pc' := 39) (ls' := [.ref 6, .int p1, .int p2, .int (a 7 (ix p1))]) (st' := []) (a' := (upA a 7 (ix p1) p2)) [(.istore_n 3, 1, 3, .null), (.aload_n 0, 1, 0, .null), (.getfield 9, 3, 200, .null), (.iload_n 1, 1, 1, .null), (.iload_n 2, 1, 2, .null), (.iastore, 1, 0, .null)] (by decide +kernel) rfl ?_
        refine XI_go (pc' := 40) (ls' := [.ref 6, .int p1, .int p2, .int (a 7 (ix p1))]) (st' := [.int (a 7 (ix p1))]) (a' := (upA a 7 (ix p1) p2)) [(.iload_n 3, 1, 3, .null)] (by decide +kernel) rfl ?_
        exact XI_retI (by decide +kernel)
      · refine XI_go (pc' := 24) (ls' := [.ref 6, .int p1, .int p2, .null]) (st' := [.int (-2)]) (a' := a) [(.bipush (-2), 2, 0, .int (-2))] (by decide +kernel) rfl ?_
        exact XI_retI (by decide +kernel)
/-! ChestnutSticks.set(II)I -/
def md_C_set : md_T := (yX10_set, cX10_set, 3, (some .int), 2, 44)
set_option maxRecDepth 100000 in
theorem ok_C_set : m_ok md_C_set := ⟨List.mem_of_getElem? (i := 363) (by decide +kernel), by decide +kernel, List.mem_of_getElem? (i := 53) (by decide +kernel), by decide +kernel⟩
theorem mv_C_set : Cond.instanceMethod (m_y md_C_set) ∈ lw_tbl ∧ Cond.selects (m_y md_C_set).cls (m_y md_C_set) (m_y md_C_set) ∈ lw_tbl := ⟨List.mem_of_getElem? (i := 361) (by decide +kernel), List.mem_of_getElem? (i := 362) (by decide +kernel)⟩
def f_C_set (p1 : Int32) (p2 : Int32) (a : aT) : Option (Int32 × aT) :=
  (f_R_change p1 p2 a).bind fun q1 =>
    some (q1.1, q1.2)
set_option maxHeartbeats 4000000 in
set_option maxRecDepth 100000 in
theorem x_C_set (E : eT) (p1 : Int32) (p2 : Int32) (a : aT) : XI qI E md_C_set 0 [.ref 0, .int p1, .int p2] [] a (f_C_set p1 p2 a) := by
  refine XI_go (pc' := 6) (ls' := [.ref 0, .int p1, .int p2]) (st' := [.int p2, .int p1, .ref 6]) (a' := a) [(.aload_n 0, 1, 0, .null), (.getfield 26, 3, 1002, .null), (.iload_n 1, 1, 1, .null), (.iload_n 2, 1, 2, .null)] (by decide +kernel) rfl ?_
  refine XI_VI (As := [.int p1, .int p2]) (rest := []) (b := 6) (idx := 101) (by decide +kernel) ok_R_change mv_R_change (n := 2) ⟨lk_C_101, by decide +kernel⟩ rfl rfl rfl rfl (Nat.le_of_ble_eq_true rfl) (Nat.le_of_ble_eq_true rfl) (qI_h rfl) (x_R_change E p1 p2 a) (fun q1 => ?_)
  exact XI_retI (by decide +kernel)
/-! ChestnutSticksModel.most(I)I -/
def md_M_most : md_T := (yX11_most, cX11_most, 1, (some .int), 0, 0)
set_option maxRecDepth 100000 in
theorem ok_M_most : m_ok md_M_most := ⟨List.mem_of_getElem? (i := 1080) (by decide +kernel), by decide +kernel, List.mem_of_getElem? (i := 64) (by decide +kernel), by decide +kernel⟩
theorem mv_M_most : Cond.static (m_y md_M_most) ∈ lw_tbl := List.mem_of_getElem? (i := 1079) (by decide +kernel)
def f_M_most (p1 : Int32) : Int32 :=
  if p1 = 0 then
    8
  else
    if p1 = 1 then
      29
    else
      if p1 = 3 then
        1
      else
        if p1 = 5 then
          16
        else
          9
set_option maxHeartbeats 4000000 in
set_option maxRecDepth 100000 in
theorem x_M_most (E : eT) (p1 : Int32) (a : aT) : XT qI E md_M_most 0 [.int p1] [] a (f_M_most p1) := by
  refine XT_br (c := p1 = 0) (t := 4) (e := 9) (ls' := [.int p1]) (st' := []) (a' := a) [(.iload_n 0, 1, 0, .null), (.ifCond .ne 8, 3, 9, .null)] (by decide +kernel) rfl ?_ ?_
  · refine XT_go (pc' := 40) (ls' := [.int p1]) (st' := [.int 8]) (a' := a) [(.bipush 8, 2, 0, .int 8), (.goto 34, 3, 40, .null)] (by decide +kernel) rfl ?_
    exact XT_retI (by decide +kernel)
  · refine XT_br (c := p1 = 1) (t := 14) (e := 19) (ls' := [.int p1]) (st' := []) (a' := a) [(.iload_n 0, 1, 0, .null), (.iconst 1, 1, 0, .int 1), (.if_icmp .ne 8, 3, 19, .null)] (by decide +kernel) rfl ?_ ?_
    · refine XT_go (pc' := 40) (ls' := [.int p1]) (st' := [.int 29]) (a' := a) [(.bipush 29, 2, 0, .int 29), (.goto 24, 3, 40, .null)] (by decide +kernel) rfl ?_
      exact XT_retI (by decide +kernel)
    · refine XT_br (c := p1 = 3) (t := 24) (e := 28) (ls' := [.int p1]) (st' := []) (a' := a) [(.iload_n 0, 1, 0, .null), (.iconst 3, 1, 0, .int 3), (.if_icmp .ne 7, 3, 28, .null)] (by decide +kernel) rfl ?_ ?_
      · refine XT_go (pc' := 40) (ls' := [.int p1]) (st' := [.int 1]) (a' := a) [(.iconst 1, 1, 0, .int 1), (.goto 15, 3, 40, .null)] (by decide +kernel) rfl ?_
        exact XT_retI (by decide +kernel)
      · refine XT_br (c := p1 = 5) (t := 33) (e := 38) (ls' := [.int p1]) (st' := []) (a' := a) [(.iload_n 0, 1, 0, .null), (.iconst 5, 1, 0, .int 5), (.if_icmp .ne 8, 3, 38, .null)] (by decide +kernel) rfl ?_ ?_
        · refine XT_go (pc' := 40) (ls' := [.int p1]) (st' := [.int 16]) (a' := a) [(.bipush 16, 2, 0, .int 16), (.goto 5, 3, 40, .null)] (by decide +kernel) rfl ?_
          exact XT_retI (by decide +kernel)
        · refine XT_go (pc' := 40) (ls' := [.int p1]) (st' := [.int 9]) (a' := a) [(.bipush 9, 2, 0, .int 9)] (by decide +kernel) rfl ?_
          exact XT_retI (by decide +kernel)
end
section
/-! ChestnutSticksModel.set(II)I -/
def md_M_set : md_T := (yX11_set, cX11_set, 4, (some .int), 1, 25)
set_option maxRecDepth 100000 in
theorem ok_M_set : m_ok md_M_set := ⟨List.mem_of_getElem? (i := 1076) (by decide +kernel), by decide +kernel, List.mem_of_getElem? (i := 64) (by decide +kernel), by decide +kernel⟩
theorem mv_M_set : Cond.instanceMethod (m_y md_M_set) ∈ lw_tbl ∧ Cond.selects (m_y md_M_set).cls (m_y md_M_set) (m_y md_M_set) ∈ lw_tbl := ⟨List.mem_of_getElem? (i := 1074) (by decide +kernel), List.mem_of_getElem? (i := 1075) (by decide +kernel)⟩
def f_M_set (p1 : Int32) (p2 : Int32) (a : aT) : Option (Int32 × aT) :=
  if (f_M_in p1.toInt64 0 5) = 0 then
    some ((-2), a)
  else
    if (f_M_in p2.toInt64 0 (f_M_most p1).toInt64) = 0 then
      some ((-2), a)
    else
      if inb p1 6 then
        if inb p1 6 then
          some ((a 42 (ix p1)), (upA a 42 (ix p1) p2))
        else none
      else none
set_option maxHeartbeats 4000000 in
set_option maxRecDepth 100000 in
theorem x_M_set (E : eT) (p1 : Int32) (p2 : Int32) (a : aT) : XI qI E md_M_set 0 [.ref 31, .int p1, .int p2, .null] [] a (f_M_set p1 p2 a) := by
  refine XI_go (pc' := 6) (ls' := [.ref 31, .int p1, .int p2, .null]) (st' := [.long 5, .long 0, .long p1.toInt64]) (a' := a) [(.iload_n 1, 1, 1, .null), (.i2l, 1, 0, .null), (.lconst 0, 1, 0, .long 0), (.ldc2_w 140, 3, 0, .long 5)] (by decide +kernel) rfl ?_
  refine XI_ST (As := [.long p1.toInt64, .long 0, .long 5]) (rest := []) (idx := 74) (by decide +kernel) ok_M_in mv_M_in (n := 3) ⟨lk_M_74, by decide +kernel⟩ rfl (Nat.le_of_ble_eq_true rfl) (Nat.le_of_ble_eq_true rfl) (qZ_h rfl) (x_M_in E p1.toInt64 0 5 a) ?_
  refine XI_br (c := (f_M_in p1.toInt64 0 5) = 0) (t := 26) (e := 12) (ls' := [.ref 31, .int p1, .int p2, .null]) (st' := []) (a' := a) [(.ifCond .eq 17, 3, 26, .null)] (by decide +kernel) rfl ?_ ?_
  · refine XI_go (pc' := 28) (ls' := [.ref 31, .int p1, .int p2, .null]) (st' := [.int (-2)]) (a' := a) [(.bipush (-2), 2, 0, .int (-2))] (by decide +kernel) rfl ?_
    exact XI_retI (by decide +kernel)
  · refine XI_go (pc' := 16) (ls' := [.ref 31, .int p1, .int p2, .null]) (st' := [.int p1, .long 0, .long p2.toInt64]) (a' := a) [(.iload_n 2, 1, 2, .null), (.i2l, 1, 0, .null), (.lconst 0, 1, 0, .long 0), (.iload_n 1, 1, 1, .null)] (by decide +kernel) rfl ?_
    refine XI_ST (As := [.int p1]) (rest := [.long 0, .long p2.toInt64]) (idx := 142) (by decide +kernel) ok_M_most mv_M_most (n := 1) ⟨lk_M_142, by decide +kernel⟩ rfl (Nat.le_of_ble_eq_true rfl) (Nat.le_of_ble_eq_true rfl) (qI_h rfl) (x_M_most E p1 a) ?_
    refine XI_go (pc' := 20) (ls' := [.ref 31, .int p1, .int p2, .null]) (st' := [.long (f_M_most p1).toInt64, .long 0, .long p2.toInt64]) (a' := a) [(.i2l, 1, 0, .null)] (by decide +kernel) rfl ?_
    refine XI_ST (As := [.long p2.toInt64, .long 0, .long (f_M_most p1).toInt64]) (rest := []) (idx := 74) (by decide +kernel) ok_M_in mv_M_in (n := 3) ⟨lk_M_74, by decide +kernel⟩ rfl (Nat.le_of_ble_eq_true rfl) (Nat.le_of_ble_eq_true rfl) (qZ_h rfl) (x_M_in E p2.toInt64 0 (f_M_most p1).toInt64 a) ?_
    refine XI_br (c := (f_M_in p2.toInt64 0 (f_M_most p1).toInt64) = 0) (t := 26) (e := 29) (ls' := [.ref 31, .int p1, .int p2, .null]) (st' := []) (a' := a) [(.ifCond .ne 6, 3, 29, .null)] (by decide +kernel) rfl ?_ ?_
    · refine XI_go (pc' := 28) (ls' := [.ref 31, .int p1, .int p2, .null]) (st' := [.int (-2)]) (a' := a) [(.bipush (-2), 2, 0, .int (-2))] (by decide +kernel) rfl ?_
      exact XI_retI (by decide +kernel)
    · refine XI_ck (c := inb p1 6) (pc' := 35) (ls' := [.ref 31, .int p1, .int p2, .null]) (st' := [.int (a 42 (ix p1))]) (a' := a) [(.aload_n 0, 1, 0, .null), (.getfield 41, 3, 1115, .null), (.iload_n 1, 1, 1, .null), (.iaload, 1, 0, .null)] (by decide +kernel) rfl ?_
      refine XI_ck (c := inb p1 6) (pc' := 43) (ls' := [.ref 31, .int p1, .int p2, .int (a 42 (ix p1))]) (st' := []) (a' := (upA a 42 (ix p1) p2)) [(.istore_n 3, 1, 3, .null), (.aload_n 0, 1, 0, .null), (.getfield 41, 3, 1115, .null), (.iload_n 1, 1, 1, .null), (.iload_n 2, 1, 2, .null), (.iastore, 1, 0, .null)] (by decide +kernel) rfl ?_
      refine XI_go (pc' := 44) (ls' := [.ref 31, .int p1, .int p2, .int (a 42 (ix p1))]) (st' := [.int (a 42 (ix p1))]) (a' := (upA a 42 (ix p1) p2)) [(.iload_n 3, 1, 3, .null)] (by decide +kernel) rfl ?_
      exact XI_retI (by decide +kernel)
/-! ChestnutSticks$Rules.changeSeed(I)I -/
def md_R_changeSeed : md_T := (yX2_changeSeed, cX2_changeSeed, 3, (some .int), 0, 0)
set_option maxRecDepth 100000 in
theorem ok_R_changeSeed : m_ok md_R_changeSeed := ⟨List.mem_of_getElem? (i := 378) (by decide +kernel), by decide +kernel, List.mem_of_getElem? (i := 56) (by decide +kernel), by decide +kernel⟩
theorem mv_R_changeSeed : Cond.instanceMethod (m_y md_R_changeSeed) ∈ lw_tbl ∧ Cond.selects (m_y md_R_changeSeed).cls (m_y md_R_changeSeed) (m_y md_R_changeSeed) ∈ lw_tbl := ⟨List.mem_of_getElem? (i := 376) (by decide +kernel), List.mem_of_getElem? (i := 377) (by decide +kernel)⟩
def f_R_changeSeed (p1 : Int32) (a : aT) : Option (Int32 × aT) :=
  some ((a 6 1), (upA a 6 1 p1))
set_option maxHeartbeats 4000000 in
set_option maxRecDepth 100000 in
theorem x_R_changeSeed (E : eT) (p1 : Int32) (a : aT) : XI qI E md_R_changeSeed 0 [.ref 6, .int p1, .null] [] a (f_R_changeSeed p1 a) := by
  refine XI_go (pc' := 11) (ls' := [.ref 6, .int p1, .int (a 6 1)]) (st' := [.int (a 6 1)]) (a' := (upA a 6 1 p1)) [(.aload_n 0, 1, 0, .null), (.getfield 15, 3, 201, .null), (.istore_n 2, 1, 2, .null), (.aload_n 0, 1, 0, .null), (.iload_n 1, 1, 1, .null), (.putfield 15, 3, 201, .int 0), (.iload_n 2, 1, 2, .null)] (by decide +kernel) rfl ?_
  exact XI_retI (by decide +kernel)
/-! ChestnutSticks.seed(I)I -/
def md_C_seed : md_T := (yX10_seed, cX10_seed, 2, (some .int), 1, 22)
set_option maxRecDepth 100000 in
theorem ok_C_seed : m_ok md_C_seed := ⟨List.mem_of_getElem? (i := 374) (by decide +kernel), by decide +kernel, List.mem_of_getElem? (i := 53) (by decide +kernel), by decide +kernel⟩
theorem mv_C_seed : Cond.instanceMethod (m_y md_C_seed) ∈ lw_tbl ∧ Cond.selects (m_y md_C_seed).cls (m_y md_C_seed) (m_y md_C_seed) ∈ lw_tbl := ⟨List.mem_of_getElem? (i := 372) (by decide +kernel), List.mem_of_getElem? (i := 373) (by decide +kernel)⟩
def f_C_seed (p1 : Int32) (a : aT) : Option (Int32 × aT) :=
  (f_R_changeSeed p1 a).bind fun q1 =>
    some ((i_ushr q1.1 16), q1.2)
set_option maxHeartbeats 4000000 in
set_option maxRecDepth 100000 in
theorem x_C_seed (E : eT) (p1 : Int32) (a : aT) : XI qI E md_C_seed 0 [.ref 0, .int p1] [] a (f_C_seed p1 a) := by
  refine XI_go (pc' := 5) (ls' := [.ref 0, .int p1]) (st' := [.int p1, .ref 6]) (a' := a) [(.aload_n 0, 1, 0, .null), (.getfield 26, 3, 1002, .null), (.iload_n 1, 1, 1, .null)] (by decide +kernel) rfl ?_
  refine XI_VI (As := [.int p1]) (rest := []) (b := 6) (idx := 104) (by decide +kernel) ok_R_changeSeed mv_R_changeSeed (n := 1) ⟨lk_C_104, by decide +kernel⟩ rfl rfl rfl rfl (Nat.le_of_ble_eq_true rfl) (Nat.le_of_ble_eq_true rfl) (qI_h rfl) (x_R_changeSeed E p1 a) (fun q1 => ?_)
  refine XI_go (pc' := 11) (ls' := [.ref 0, .int p1]) (st' := [.int (i_ushr q1.1 16)]) (a' := q1.2) [(.bipush 16, 2, 0, .int 16), (.iushr, 1, 0, .null)] (by decide +kernel) rfl ?_
  exact XI_retI (by decide +kernel)
/-! ChestnutSticksModel.seed(I)I -/
def md_M_seed : md_T := (yX11_seed, cX11_seed, 3, (some .int), 0, 0)
set_option maxRecDepth 100000 in
theorem ok_M_seed : m_ok md_M_seed := ⟨List.mem_of_getElem? (i := 1084) (by decide +kernel), by decide +kernel, List.mem_of_getElem? (i := 64) (by decide +kernel), by decide +kernel⟩
theorem mv_M_seed : Cond.instanceMethod (m_y md_M_seed) ∈ lw_tbl ∧ Cond.selects (m_y md_M_seed).cls (m_y md_M_seed) (m_y md_M_seed) ∈ lw_tbl := ⟨List.mem_of_getElem? (i := 1082) (by decide +kernel), List.mem_of_getElem? (i := 1083) (by decide +kernel)⟩
def f_M_seed (p1 : Int32) (a : aT) : Option (Int32 × aT) :=
  some ((i_ushr (a 31 16) 16), (upA a 31 16 p1))
set_option maxHeartbeats 4000000 in
set_option maxRecDepth 100000 in
theorem x_M_seed (E : eT) (p1 : Int32) (a : aT) : XI qI E md_M_seed 0 [.ref 31, .int p1, .null] [] a (f_M_seed p1 a) := by
  refine XI_go (pc' := 14) (ls' := [.ref 31, .int p1, .int (i_ushr (a 31 16) 16)]) (st' := [.int (i_ushr (a 31 16) 16)]) (a' := (upA a 31 16 p1)) [(.aload_n 0, 1, 0, .null), (.getfield 68, 3, 1116, .null), (.bipush 16, 2, 0, .int 16), (.iushr, 1, 0, .null), (.istore_n 2, 1, 2, .null), (.aload_n 0, 1, 0, .null), (.iload_n 1, 1, 1, .null), (.putfield 68, 3, 1116, .int 0), (.iload_n 2, 1, 2, .null)] (by decide +kernel) rfl ?_
  exact XI_retI (by decide +kernel)
/-! ChestnutSticks$Kids.place(II)I -/
def md_K_place : md_T := (yX0_place, cX0_place, 4, (some .int), 1, 21)
set_option maxRecDepth 100000 in
theorem ok_K_place : m_ok md_K_place := ⟨List.mem_of_getElem? (i := 386) (by decide +kernel), by decide +kernel, List.mem_of_getElem? (i := 57) (by decide +kernel), by decide +kernel⟩
theorem mv_K_place : Cond.instanceMethod (m_y md_K_place) ∈ lw_tbl ∧ Cond.selects (m_y md_K_place).cls (m_y md_K_place) (m_y md_K_place) ∈ lw_tbl := ⟨List.mem_of_getElem? (i := 384) (by decide +kernel), List.mem_of_getElem? (i := 385) (by decide +kernel)⟩
def f_K_place (p1 : Int32) (p2 : Int32) (a : aT) : Option (Int32 × aT) :=
  if (f_C_isBelow p1 4) = 0 then
    some ((-2), a)
  else
    if (f_C_isBelow p2 8) = 0 then
      some ((-2), a)
    else
      if inb p1 4 then
        if inb p1 4 then
          some ((a 9 (ix p1)), (upA a 9 (ix p1) p2))
        else none
      else none
set_option maxHeartbeats 4000000 in
set_option maxRecDepth 100000 in
theorem x_K_place (E : eT) (p1 : Int32) (p2 : Int32) (a : aT) : XI qI E md_K_place 0 [.ref 8, .int p1, .int p2, .null] [] a (f_K_place p1 p2 a) := by
  refine XI_go (pc' := 2) (ls' := [.ref 8, .int p1, .int p2, .null]) (st' := [.int 4, .int p1]) (a' := a) [(.iload_n 1, 1, 1, .null), (.iconst 4, 1, 0, .int 4)] (by decide +kernel) rfl ?_
  refine XI_SNT (As := [.int p1, .int 4]) (rest := []) (idx := 15) (by decide +kernel) ok_C_isBelow mv_C_isBelow (n := 2) ⟨lk_K_15, by decide +kernel⟩ rfl (Nat.le_of_ble_eq_true rfl) (Nat.le_of_ble_eq_true rfl) (qZ_h rfl) (x_C_isBelow E p1 4 a) ?_
  refine XI_br (c := (f_C_isBelow p1 4) = 0) (t := 17) (e := 8) (ls' := [.ref 8, .int p1, .int p2, .null]) (st' := []) (a' := a) [(.ifCond .eq 12, 3, 17, .null)] (by decide +kernel) rfl ?_ ?_
  · refine XI_go (pc' := 19) (ls' := [.ref 8, .int p1, .int p2, .null]) (st' := [.int (-2)]) (a' := a) [(.bipush (-2), 2, 0, .int (-2))] (by decide +kernel) rfl ?_
    exact XI_retI (by decide +kernel)
  · refine XI_go (pc' := 11) (ls' := [.ref 8, .int p1, .int p2, .null]) (st' := [.int 8, .int p2]) (a' := a) [(.iload_n 2, 1, 2, .null), (.bipush 8, 2, 0, .int 8)] (by decide +kernel) rfl ?_
    refine XI_SNT (As := [.int p2, .int 8]) (rest := []) (idx := 15) (by decide +kernel) ok_C_isBelow mv_C_isBelow (n := 2) ⟨lk_K_15, by decide +kernel⟩ rfl (Nat.le_of_ble_eq_true rfl) (Nat.le_of_ble_eq_true rfl) (qZ_h rfl) (x_C_isBelow E p2 8 a) ?_
    refine XI_br (c := (f_C_isBelow p2 8) = 0) (t := 17) (e := 20) (ls' := [.ref 8, .int p1, .int p2, .null]) (st' := []) (a' := a) [(.ifCond .ne 6, 3, 20, .null)] (by decide +kernel) rfl ?_ ?_
    · refine XI_go (pc' := 19) (ls' := [.ref 8, .int p1, .int p2, .null]) (st' := [.int (-2)]) (a' := a) [(.bipush (-2), 2, 0, .int (-2))] (by decide +kernel) rfl ?_
      exact XI_retI (by decide +kernel)
    · refine XI_ck (c := inb p1 4) (pc' := 26) (ls' := [.ref 8, .int p1, .int p2, .null]) (st' := [.int (a 9 (ix p1))]) (a' := a) [(.aload_n 0, 1, 0, .null), (.getfield 9, 3, 0, .null), (.iload_n 1, 1, 1, .null), (.iaload, 1, 0, .null)] (by decide +kernel) rfl ?_
      refine XI_ck (c := inb p1 4) (pc' := 34) (ls' := [.ref 8, .int p1, .int p2, .int (a 9 (ix p1))]) (st' := []) (a' := (upA a 9 (ix p1) p2)) [(.istore_n 3, 1, 3, .null), (.aload_n 0, 1, 0, .null), (.getfield 9, 3, 0, .null), (.iload_n 1, 1, 1, .null), (.iload_n 2, 1, 2, .null), (.iastore, 1, 0, .null)] (by decide +kernel) rfl ?_
      refine XI_go (pc' := 35) (ls' := [.ref 8, .int p1, .int p2, .int (a 9 (ix p1))]) (st' := [.int (a 9 (ix p1))]) (a' := (upA a 9 (ix p1) p2)) [(.iload_n 3, 1, 3, .null)] (by decide +kernel) rfl ?_
      exact XI_retI (by decide +kernel)
/-! ChestnutSticks.stands(II)I -/
def md_C_stands : md_T := (yX10_stands, cX10_stands, 3, (some .int), 2, 44)
set_option maxRecDepth 100000 in
theorem ok_C_stands : m_ok md_C_stands := ⟨List.mem_of_getElem? (i := 382) (by decide +kernel), by decide +kernel, List.mem_of_getElem? (i := 53) (by decide +kernel), by decide +kernel⟩
theorem mv_C_stands : Cond.instanceMethod (m_y md_C_stands) ∈ lw_tbl ∧ Cond.selects (m_y md_C_stands).cls (m_y md_C_stands) (m_y md_C_stands) ∈ lw_tbl := ⟨List.mem_of_getElem? (i := 380) (by decide +kernel), List.mem_of_getElem? (i := 381) (by decide +kernel)⟩
def f_C_stands (p1 : Int32) (p2 : Int32) (a : aT) : Option (Int32 × aT) :=
  (f_K_place p1 p2 a).bind fun q1 =>
    some (q1.1, q1.2)
set_option maxHeartbeats 4000000 in
set_option maxRecDepth 100000 in
theorem x_C_stands (E : eT) (p1 : Int32) (p2 : Int32) (a : aT) : XI qI E md_C_stands 0 [.ref 0, .int p1, .int p2] [] a (f_C_stands p1 p2 a) := by
  refine XI_go (pc' := 6) (ls' := [.ref 0, .int p1, .int p2]) (st' := [.int p2, .int p1, .ref 8]) (a' := a) [(.aload_n 0, 1, 0, .null), (.getfield 33, 3, 1003, .null), (.iload_n 1, 1, 1, .null), (.iload_n 2, 1, 2, .null)] (by decide +kernel) rfl ?_
  refine XI_VI (As := [.int p1, .int p2]) (rest := []) (b := 8) (idx := 107) (by decide +kernel) ok_K_place mv_K_place (n := 2) ⟨lk_C_107, by decide +kernel⟩ rfl rfl rfl rfl (Nat.le_of_ble_eq_true rfl) (Nat.le_of_ble_eq_true rfl) (qI_h rfl) (x_K_place E p1 p2 a) (fun q1 => ?_)
  exact XI_retI (by decide +kernel)
/-! ChestnutSticksModel.stands(II)I -/
def md_M_stands : md_T := (yX11_stands, cX11_stands, 4, (some .int), 2, 45)
set_option maxRecDepth 100000 in
theorem ok_M_stands : m_ok md_M_stands := ⟨List.mem_of_getElem? (i := 1088) (by decide +kernel), by decide +kernel, List.mem_of_getElem? (i := 64) (by decide +kernel), by decide +kernel⟩
theorem mv_M_stands : Cond.instanceMethod (m_y md_M_stands) ∈ lw_tbl ∧ Cond.selects (m_y md_M_stands).cls (m_y md_M_stands) (m_y md_M_stands) ∈ lw_tbl := ⟨List.mem_of_getElem? (i := 1086) (by decide +kernel), List.mem_of_getElem? (i := 1087) (by decide +kernel)⟩
def f_M_stands (p1 : Int32) (p2 : Int32) (a : aT) : Option (Int32 × aT) :=
  if (f_M_isFour p1) = 0 then
    some ((-2), a)
  else
    if (f_M_in p2.toInt64 0 7) = 0 then
      some ((-2), a)
    else
      if inb p1 4 then
        if inb p1 4 then
          some ((a 43 (ix p1)), (upA a 43 (ix p1) p2))
        else none
      else none
set_option maxHeartbeats 4000000 in
set_option maxRecDepth 100000 in
theorem x_M_stands (E : eT) (p1 : Int32) (p2 : Int32) (a : aT) : XI qI E md_M_stands 0 [.ref 31, .int p1, .int p2, .null] [] a (f_M_stands p1 p2 a) := by
  refine XI_go (pc' := 1) (ls' := [.ref 31, .int p1, .int p2, .null]) (st' := [.int p1]) (a' := a) [(.iload_n 1, 1, 1, .null)] (by decide +kernel) rfl ?_
  refine XI_ST (As := [.int p1]) (rest := []) (idx := 133) (by decide +kernel) ok_M_isFour mv_M_isFour (n := 1) ⟨lk_M_133, by decide +kernel⟩ rfl (Nat.le_of_ble_eq_true rfl) (Nat.le_of_ble_eq_true rfl) (qZ_h rfl) (x_M_isFour E p1 a) ?_
  refine XI_br (c := (f_M_isFour p1) = 0) (t := 19) (e := 7) (ls' := [.ref 31, .int p1, .int p2, .null]) (st' := []) (a' := a) [(.ifCond .eq 15, 3, 19, .null)] (by decide +kernel) rfl ?_ ?_
  · refine XI_go (pc' := 21) (ls' := [.ref 31, .int p1, .int p2, .null]) (st' := [.int (-2)]) (a' := a) [(.bipush (-2), 2, 0, .int (-2))] (by decide +kernel) rfl ?_
    exact XI_retI (by decide +kernel)
  · refine XI_go (pc' := 13) (ls' := [.ref 31, .int p1, .int p2, .null]) (st' := [.long 7, .long 0, .long p2.toInt64]) (a' := a) [(.iload_n 2, 1, 2, .null), (.i2l, 1, 0, .null), (.lconst 0, 1, 0, .long 0), (.ldc2_w 145, 3, 0, .long 7)] (by decide +kernel) rfl ?_
    refine XI_ST (As := [.long p2.toInt64, .long 0, .long 7]) (rest := []) (idx := 74) (by decide +kernel) ok_M_in mv_M_in (n := 3) ⟨lk_M_74, by decide +kernel⟩ rfl (Nat.le_of_ble_eq_true rfl) (Nat.le_of_ble_eq_true rfl) (qZ_h rfl) (x_M_in E p2.toInt64 0 7 a) ?_
    refine XI_br (c := (f_M_in p2.toInt64 0 7) = 0) (t := 19) (e := 22) (ls' := [.ref 31, .int p1, .int p2, .null]) (st' := []) (a' := a) [(.ifCond .ne 6, 3, 22, .null)] (by decide +kernel) rfl ?_ ?_
    · refine XI_go (pc' := 21) (ls' := [.ref 31, .int p1, .int p2, .null]) (st' := [.int (-2)]) (a' := a) [(.bipush (-2), 2, 0, .int (-2))] (by decide +kernel) rfl ?_
      exact XI_retI (by decide +kernel)
    · refine XI_ck (c := inb p1 4) (pc' := 28) (ls' := [.ref 31, .int p1, .int p2, .null]) (st' := [.int (a 43 (ix p1))]) (a' := a) [(.aload_n 0, 1, 0, .null), (.getfield 44, 3, 1117, .null), (.iload_n 1, 1, 1, .null), (.iaload, 1, 0, .null)] (by decide +kernel) rfl ?_
      refine XI_ck (c := inb p1 4) (pc' := 36) (ls' := [.ref 31, .int p1, .int p2, .int (a 43 (ix p1))]) (st' := []) (a' := (upA a 43 (ix p1) p2)) [(.istore_n 3, 1, 3, .null), (.aload_n 0, 1, 0, .null), (.getfield 44, 3, 1117, .null), (.iload_n 1, 1, 1, .null), (.iload_n 2, 1, 2, .null), (.iastore, 1, 0, .null)] (by decide +kernel) rfl ?_
      refine XI_go (pc' := 37) (ls' := [.ref 31, .int p1, .int p2, .int (a 43 (ix p1))]) (st' := [.int (a 43 (ix p1))]) (a' := (upA a 43 (ix p1) p2)) [(.iload_n 3, 1, 3, .null)] (by decide +kernel) rfl ?_
      exact XI_retI (by decide +kernel)
/-! ChestnutSticks$Sheets.formOf(I)I -/
def md_H_formOf : md_T := (yX4_formOf, cX4_formOf, 2, (some .int), 1, 21)
set_option maxRecDepth 100000 in
theorem ok_H_formOf : m_ok md_H_formOf := ⟨List.mem_of_getElem? (i := 400) (by decide +kernel), by decide +kernel, List.mem_of_getElem? (i := 63) (by decide +kernel), by decide +kernel⟩
theorem mv_H_formOf : Cond.instanceMethod (m_y md_H_formOf) ∈ lw_tbl ∧ Cond.selects (m_y md_H_formOf).cls (m_y md_H_formOf) (m_y md_H_formOf) ∈ lw_tbl := ⟨List.mem_of_getElem? (i := 398) (by decide +kernel), List.mem_of_getElem? (i := 399) (by decide +kernel)⟩
def f_H_formOf (p1 : Int32) (a : aT) : Option Int32 :=
  if (f_C_isBelow p1 4) = 0 then
    some (-1)
  else
    if inb p1 4 then
      some (a 28 (ix p1))
    else none
set_option maxHeartbeats 4000000 in
set_option maxRecDepth 100000 in
theorem x_H_formOf (E : eT) (p1 : Int32) (a : aT) : XP qI E md_H_formOf 0 [.ref 27, .int p1] [] a (f_H_formOf p1 a) := by
  refine XP_go (pc' := 2) (ls' := [.ref 27, .int p1]) (st' := [.int 4, .int p1]) (a' := a) [(.iload_n 1, 1, 1, .null), (.iconst 4, 1, 0, .int 4)] (by decide +kernel) rfl ?_
  refine XP_SNT (As := [.int p1, .int 4]) (rest := []) (idx := 29) (by decide +kernel) ok_C_isBelow mv_C_isBelow (n := 2) ⟨lk_H_29, by decide +kernel⟩ rfl (Nat.le_of_ble_eq_true rfl) (Nat.le_of_ble_eq_true rfl) (qZ_h rfl) (x_C_isBelow E p1 4 a) ?_
  refine XP_br (c := (f_C_isBelow p1 4) = 0) (t := 17) (e := 8) (ls' := [.ref 27, .int p1]) (st' := []) (a' := a) [(.ifCond .eq 12, 3, 17, .null)] (by decide +kernel) rfl ?_ ?_
  · refine XP_go (pc' := 18) (ls' := [.ref 27, .int p1]) (st' := [.int (-1)]) (a' := a) [(.iconst (-1), 1, 0, .int (-1))] (by decide +kernel) rfl ?_
    exact XP_retI (by decide +kernel)
  · refine XP_ck (c := inb p1 4) (pc' := 14) (ls' := [.ref 27, .int p1]) (st' := [.int (a 28 (ix p1))]) (a' := a) [(.aload_n 0, 1, 0, .null), (.getfield 9, 3, 400, .null), (.iload_n 1, 1, 1, .null), (.iaload, 1, 0, .null)] (by decide +kernel) rfl ?_
    refine XP_go (pc' := 18) (ls' := [.ref 27, .int p1]) (st' := [.int (a 28 (ix p1))]) (a' := a) [(.goto 4, 3, 18, .null)] (by decide +kernel) rfl ?_
    exact XP_retI (by decide +kernel)
/-! ChestnutSticks$Sheets.isLost(I)Z -/
def md_H_isLost : md_T := (yX4_isLost, cX4_isLost, 2, (some .boolean), 2, 42)
set_option maxRecDepth 100000 in
theorem ok_H_isLost : m_ok md_H_isLost := ⟨List.mem_of_getElem? (i := 396) (by decide +kernel), by decide +kernel, List.mem_of_getElem? (i := 63) (by decide +kernel), by decide +kernel⟩
theorem mv_H_isLost : Cond.instanceMethod (m_y md_H_isLost) ∈ lw_tbl ∧ Cond.selects (m_y md_H_isLost).cls (m_y md_H_isLost) (m_y md_H_isLost) ∈ lw_tbl := ⟨List.mem_of_getElem? (i := 394) (by decide +kernel), List.mem_of_getElem? (i := 395) (by decide +kernel)⟩
def f_H_isLost (p1 : Int32) (a : aT) : Option Int32 :=
  (f_H_formOf p1 a).bind fun q1 =>
    if q1 = (-1) then
      some 1
    else
      some 0
set_option maxHeartbeats 4000000 in
set_option maxRecDepth 100000 in
theorem x_H_isLost (E : eT) (p1 : Int32) (a : aT) : XP qZ E md_H_isLost 0 [.ref 27, .int p1] [] a (f_H_isLost p1 a) := by
  refine XP_go (pc' := 2) (ls' := [.ref 27, .int p1]) (st' := [.int p1, .ref 27]) (a' := a) [(.aload_n 0, 1, 0, .null), (.iload_n 1, 1, 1, .null)] (by decide +kernel) rfl ?_
  refine XP_VP (As := [.int p1]) (rest := []) (b := 27) (idx := 25) (by decide +kernel) ok_H_formOf mv_H_formOf (n := 1) ⟨lk_H_25, by decide +kernel⟩ rfl rfl rfl rfl (Nat.le_of_ble_eq_true rfl) (Nat.le_of_ble_eq_true rfl) (qI_h rfl) (x_H_formOf E p1 a) (fun q1 => ?_)
  refine XP_br (c := q1 = (-1)) (t := 9) (e := 13) (ls' := [.ref 27, .int p1]) (st' := []) (a' := a) [(.iconst (-1), 1, 0, .int (-1)), (.if_icmp .ne 7, 3, 13, .null)] (by decide +kernel) rfl ?_ ?_
  · refine XP_go (pc' := 14) (ls' := [.ref 27, .int p1]) (st' := [.int 1]) (a' := a) [(.iconst 1, 1, 0, .int 1), (.goto 4, 3, 14, .null)] (by decide +kernel) rfl ?_
    exact XP_retZ (by decide +kernel) rfl
  · refine XP_go (pc' := 14) (ls' := [.ref 27, .int p1]) (st' := [.int 0]) (a' := a) [(.iconst 0, 1, 0, .int 0)] (by decide +kernel) rfl ?_
    exact XP_retZ (by decide +kernel) rfl
/-! ChestnutSticks$Sheets.find(I)I -/
def md_H_find : md_T := (yX4_find, cX4_find, 2, (some .int), 0, 0)
set_option maxRecDepth 100000 in
theorem ok_H_find : m_ok md_H_find := ⟨List.mem_of_getElem? (i := 405) (by decide +kernel), by decide +kernel, List.mem_of_getElem? (i := 63) (by decide +kernel), by decide +kernel⟩
theorem mv_H_find : Cond.instanceMethod (m_y md_H_find) ∈ lw_tbl ∧ Cond.selects (m_y md_H_find).cls (m_y md_H_find) (m_y md_H_find) ∈ lw_tbl := ⟨List.mem_of_getElem? (i := 403) (by decide +kernel), List.mem_of_getElem? (i := 404) (by decide +kernel)⟩
def f_H_find (p1 : Int32) (a : aT) : Option (Int32 × aT) :=
  some (((-10) - p1), (upA a 27 3 p1))
set_option maxHeartbeats 4000000 in
set_option maxRecDepth 100000 in
theorem x_H_find (E : eT) (p1 : Int32) (a : aT) : XI qI E md_H_find 0 [.ref 27, .int p1] [] a (f_H_find p1 a) := by
  refine XI_go (pc' := 9) (ls' := [.ref 27, .int p1]) (st' := [.int ((-10) - p1)]) (a' := (upA a 27 3 p1)) [(.aload_n 0, 1, 0, .null), (.iload_n 1, 1, 1, .null), (.putfield 21, 3, 403, .int 0), (.bipush (-10), 2, 0, .int (-10)), (.iload_n 1, 1, 1, .null), (.isub, 1, 0, .null)] (by decide +kernel) rfl ?_
  exact XI_retI (by decide +kernel)
/-! ChestnutSticks$Sheets.sizeOf(I)I -/
def md_H_sizeOf : md_T := (yX4_sizeOf, cX4_sizeOf, 2, (some .int), 1, 21)
set_option maxRecDepth 100000 in
theorem ok_H_sizeOf : m_ok md_H_sizeOf := ⟨List.mem_of_getElem? (i := 409) (by decide +kernel), by decide +kernel, List.mem_of_getElem? (i := 63) (by decide +kernel), by decide +kernel⟩
theorem mv_H_sizeOf : Cond.instanceMethod (m_y md_H_sizeOf) ∈ lw_tbl ∧ Cond.selects (m_y md_H_sizeOf).cls (m_y md_H_sizeOf) (m_y md_H_sizeOf) ∈ lw_tbl := ⟨List.mem_of_getElem? (i := 407) (by decide +kernel), List.mem_of_getElem? (i := 408) (by decide +kernel)⟩
def f_H_sizeOf (p1 : Int32) (a : aT) : Option Int32 :=
  if (f_C_isBelow p1 4) = 0 then
    some 0
  else
    if inb p1 4 then
      some (a 29 (ix p1))
    else none
set_option maxHeartbeats 4000000 in
set_option maxRecDepth 100000 in
theorem x_H_sizeOf (E : eT) (p1 : Int32) (a : aT) : XP qI E md_H_sizeOf 0 [.ref 27, .int p1] [] a (f_H_sizeOf p1 a) := by
  refine XP_go (pc' := 2) (ls' := [.ref 27, .int p1]) (st' := [.int 4, .int p1]) (a' := a) [(.iload_n 1, 1, 1, .null), (.iconst 4, 1, 0, .int 4)] (by decide +kernel) rfl ?_
  refine XP_SNT (As := [.int p1, .int 4]) (rest := []) (idx := 29) (by decide +kernel) ok_C_isBelow mv_C_isBelow (n := 2) ⟨lk_H_29, by decide +kernel⟩ rfl (Nat.le_of_ble_eq_true rfl) (Nat.le_of_ble_eq_true rfl) (qZ_h rfl) (x_C_isBelow E p1 4 a) ?_
  refine XP_br (c := (f_C_isBelow p1 4) = 0) (t := 17) (e := 8) (ls' := [.ref 27, .int p1]) (st' := []) (a' := a) [(.ifCond .eq 12, 3, 17, .null)] (by decide +kernel) rfl ?_ ?_
  · refine XP_go (pc' := 18) (ls' := [.ref 27, .int p1]) (st' := [.int 0]) (a' := a) [(.iconst 0, 1, 0, .int 0)] (by decide +kernel) rfl ?_
    exact XP_retI (by decide +kernel)
  · refine XP_ck (c := inb p1 4) (pc' := 14) (ls' := [.ref 27, .int p1]) (st' := [.int (a 29 (ix p1))]) (a' := a) [(.aload_n 0, 1, 0, .null), (.getfield 15, 3, 401, .null), (.iload_n 1, 1, 1, .null), (.iaload, 1, 0, .null)] (by decide +kernel) rfl ?_
    refine XP_go (pc' := 18) (ls' := [.ref 27, .int p1]) (st' := [.int (a 29 (ix p1))]) (a' := a) [(.goto 4, 3, 18, .null)] (by decide +kernel) rfl ?_
    exact XP_retI (by decide +kernel)
/-! java/lang/Math.min(II)I -/
def md_J_min : md_T := (yJ9_min_7cf53, cJ9_min_7cf53, 2, (some .int), 0, 0)
set_option maxRecDepth 100000 in
theorem ok_J_min : m_ok md_J_min := ⟨List.mem_of_getElem? (i := 412) (by decide +kernel), by decide +kernel, List.mem_of_getElem? (i := 65) (by decide +kernel), by decide +kernel⟩
theorem mv_J_min : Cond.static (m_y md_J_min) ∈ lw_tbl := List.mem_of_getElem? (i := 411) (by decide +kernel)
def f_J_min (p1 : Int32) (p2 : Int32) : Int32 :=
  if p2 < p1 then
    p2
  else
    p1
set_option maxHeartbeats 4000000 in
set_option maxRecDepth 100000 in
theorem x_J_min (E : eT) (p1 : Int32) (p2 : Int32) (a : aT) : XT qI E md_J_min 0 [.int p1, .int p2] [] a (f_J_min p1 p2) := by
  refine XT_br (c := p2 < p1) (t := 9) (e := 5) (ls' := [.int p1, .int p2]) (st' := []) (a' := a) [(.iload_n 0, 1, 0, .null), (.iload_n 1, 1, 1, .null), (.if_icmp .gt 7, 3, 9, .null)] (by decide +kernel) rfl ?_ ?_
  · refine XT_go (pc' := 10) (ls' := [.int p1, .int p2]) (st' := [.int p2]) (a' := a) [(.iload_n 1, 1, 1, .null)] (by decide +kernel) rfl ?_
    exact XT_retI (by decide +kernel)
  · refine XT_go (pc' := 10) (ls' := [.int p1, .int p2]) (st' := [.int p1]) (a' := a) [(.iload_n 0, 1, 0, .null), (.goto 4, 3, 10, .null)] (by decide +kernel) rfl ?_
    exact XT_retI (by decide +kernel)
/-! ChestnutSticks$Sheets.itemOf(II)I -/
def md_H_itemOf : md_T := (yX4_itemOf, cX4_itemOf, 3, (some .int), 1, 21)
set_option maxRecDepth 100000 in
theorem ok_H_itemOf : m_ok md_H_itemOf := ⟨List.mem_of_getElem? (i := 416) (by decide +kernel), by decide +kernel, List.mem_of_getElem? (i := 63) (by decide +kernel), by decide +kernel⟩
theorem mv_H_itemOf : Cond.instanceMethod (m_y md_H_itemOf) ∈ lw_tbl ∧ Cond.selects (m_y md_H_itemOf).cls (m_y md_H_itemOf) (m_y md_H_itemOf) ∈ lw_tbl := ⟨List.mem_of_getElem? (i := 414) (by decide +kernel), List.mem_of_getElem? (i := 415) (by decide +kernel)⟩
def f_H_itemOf (p1 : Int32) (p2 : Int32) (a : aT) : Option Int32 :=
  if (f_C_isBelow p1 4) = 0 then
    some 0
  else
    if (f_C_isBelow p2 60) = 0 then
      some 0
    else
      if inb ((60 * p1) + p2) 240 then
        some (a 30 (ix ((60 * p1) + p2)))
      else none
set_option maxHeartbeats 4000000 in
set_option maxRecDepth 100000 in
theorem x_H_itemOf (E : eT) (p1 : Int32) (p2 : Int32) (a : aT) : XP qI E md_H_itemOf 0 [.ref 27, .int p1, .int p2] [] a (f_H_itemOf p1 p2 a) := by
  refine XP_go (pc' := 2) (ls' := [.ref 27, .int p1, .int p2]) (st' := [.int 4, .int p1]) (a' := a) [(.iload_n 1, 1, 1, .null), (.iconst 4, 1, 0, .int 4)] (by decide +kernel) rfl ?_
  refine XP_SNT (As := [.int p1, .int 4]) (rest := []) (idx := 29) (by decide +kernel) ok_C_isBelow mv_C_isBelow (n := 2) ⟨lk_H_29, by decide +kernel⟩ rfl (Nat.le_of_ble_eq_true rfl) (Nat.le_of_ble_eq_true rfl) (qZ_h rfl) (x_C_isBelow E p1 4 a) ?_
  refine XP_br (c := (f_C_isBelow p1 4) = 0) (t := 31) (e := 8) (ls' := [.ref 27, .int p1, .int p2]) (st' := []) (a' := a) [(.ifCond .eq 26, 3, 31, .null)] (by decide +kernel) rfl ?_ ?_
  · refine XP_go (pc' := 32) (ls' := [.ref 27, .int p1, .int p2]) (st' := [.int 0]) (a' := a) [(.iconst 0, 1, 0, .int 0)] (by decide +kernel) rfl ?_
    exact XP_retI (by decide +kernel)
  · refine XP_go (pc' := 11) (ls' := [.ref 27, .int p1, .int p2]) (st' := [.int 60, .int p2]) (a' := a) [(.iload_n 2, 1, 2, .null), (.bipush 60, 2, 0, .int 60)] (by decide +kernel) rfl ?_
    refine XP_SNT (As := [.int p2, .int 60]) (rest := []) (idx := 29) (by decide +kernel) ok_C_isBelow mv_C_isBelow (n := 2) ⟨lk_H_29, by decide +kernel⟩ rfl (Nat.le_of_ble_eq_true rfl) (Nat.le_of_ble_eq_true rfl) (qZ_h rfl) (x_C_isBelow E p2 60 a) ?_
    refine XP_br (c := (f_C_isBelow p2 60) = 0) (t := 31) (e := 17) (ls' := [.ref 27, .int p1, .int p2]) (st' := []) (a' := a) [(.ifCond .eq 17, 3, 31, .null)] (by decide +kernel) rfl ?_ ?_
    · refine XP_go (pc' := 32) (ls' := [.ref 27, .int p1, .int p2]) (st' := [.int 0]) (a' := a) [(.iconst 0, 1, 0, .int 0)] (by decide +kernel) rfl ?_
      exact XP_retI (by decide +kernel)
    · refine XP_ck (c := inb ((60 * p1) + p2) 240) (pc' := 28) (ls' := [.ref 27, .int p1, .int p2]) (st' := [.int (a 30 (ix ((60 * p1) + p2)))]) (a' := a) [(.aload_n 0, 1, 0, .null), (.getfield 18, 3, 402, .null), (.bipush 60, 2, 0, .int 60), (.iload_n 1, 1, 1, .null), (.imul, 1, 0, .null), (.iload_n 2, 1, 2, .null), (.iadd, 1, 0, .null), (.iaload, 1, 0, .null)] (by decide +kernel) rfl ?_
      refine XP_go (pc' := 32) (ls' := [.ref 27, .int p1, .int p2]) (st' := [.int (a 30 (ix ((60 * p1) + p2)))]) (a' := a) [(.goto 4, 3, 32, .null)] (by decide +kernel) rfl ?_
      exact XP_retI (by decide +kernel)
/-! ChestnutSticks.read(I)I -/
def md_C_read : md_T := (yX10_read, cX10_read, 4, (some .int), 3, 63)
set_option maxRecDepth 100000 in
theorem ok_C_read : m_ok md_C_read := ⟨List.mem_of_getElem? (i := 391) (by decide +kernel), by decide +kernel, List.mem_of_getElem? (i := 53) (by decide +kernel), by decide +kernel⟩
theorem mv_C_read : Cond.instanceMethod (m_y md_C_read) ∈ lw_tbl ∧ Cond.selects (m_y md_C_read).cls (m_y md_C_read) (m_y md_C_read) ∈ lw_tbl := ⟨List.mem_of_getElem? (i := 389) (by decide +kernel), List.mem_of_getElem? (i := 390) (by decide +kernel)⟩
def f_C_read_46 (N : Nat) : Nat → Int32 → Int32 → Int32 → aT → Option (Int32 × aT)
  | 0 => fun _ _ _ _ => none
  | n + 1 => fun x1 x2 x3 a =>
    if x2 ≤ x3 then
      some (x3, a)
    else
      (f_H_itemOf x1 x3 a).bind fun q6 =>
        (f_K_place x3 q6 a).bind fun q7 =>
          if q7.1 = (-2) then
            some (x3, q7.2)
          else
            f_C_read_46 N n x1 x2 (x3 + 1) q7.2
def f_C_read (N : Nat) (p1 : Int32) (a : aT) : Option (Int32 × aT) :=
  if (f_C_isBelow p1 4) = 0 then
    some ((-2), a)
  else
    (f_H_isLost p1 a).bind fun q2 =>
      if q2 = 0 then
        (f_H_sizeOf p1 a).bind fun q3 =>
          f_C_read_46 N N p1 (f_J_min 4 q3) 0 a
      else
        (f_H_find 1 a).bind fun q5 =>
          some (q5.1, q5.2)
set_option maxHeartbeats 4000000 in
set_option maxRecDepth 100000 in
theorem x_C_read_46 (E : eT) (N : Nat) : ∀ (n : Nat) (x1 : Int32) (x2 : Int32) (x3 : Int32) (a : aT), XI qI E md_C_read 46 [.ref 0, .int x1, .int x2, .int x3] [] a (f_C_read_46 N n x1 x2 x3 a)
  | 0, _, _, _, _ => XI_no rfl
  | n + 1, x1, x2, x3, a => by
    refine XI_br (c := x2 ≤ x3) (t := 79) (e := 51) (ls' := [.ref 0, .int x1, .int x2, .int x3]) (st' := []) (a' := a) [(.iload_n 3, 1, 3, .null), (.iload_n 2, 1, 2, .null), (.if_icmp .ge 31, 3, 79, .null)] (by decide +kernel) rfl ?_ ?_
    · refine XI_go (pc' := 80) (ls' := [.ref 0, .int x1, .int x2, .int x3]) (st' := [.int x3]) (a' := a) [(.iload_n 3, 1, 3, .null)] (by decide +kernel) rfl ?_
      exact XI_retI (by decide +kernel)
    · refine XI_go (pc' := 62) (ls' := [.ref 0, .int x1, .int x2, .int x3]) (st' := [.int x3, .int x1, .ref 27, .int x3, .ref 8]) (a' := a) [(.aload_n 0, 1, 0, .null), (.getfield 33, 3, 1003, .null), (.iload_n 3, 1, 3, .null), (.aload_n 0, 1, 0, .null), (.getfield 79, 3, 1009, .null), (.iload_n 1, 1, 1, .null), (.iload_n 3, 1, 3, .null)] (by decide +kernel) rfl ?_
      refine XI_VP (As := [.int x1, .int x3]) (rest := [.int x3, .ref 8]) (b := 27) (idx := 129) (by decide +kernel) ok_H_itemOf mv_H_itemOf (n := 2) ⟨lk_C_129, by decide +kernel⟩ rfl rfl rfl rfl (Nat.le_of_ble_eq_true rfl) (Nat.le_of_ble_eq_true rfl) (qI_h rfl) (x_H_itemOf E x1 x3 a) (fun q6 => ?_)
      refine XI_VI (As := [.int x3, .int q6]) (rest := []) (b := 8) (idx := 107) (by decide +kernel) ok_K_place mv_K_place (n := 2) ⟨lk_C_107, by decide +kernel⟩ rfl rfl rfl rfl (Nat.le_of_ble_eq_true rfl) (Nat.le_of_ble_eq_true rfl) (qI_h rfl) (x_K_place E x3 q6 a) (fun q7 => ?_)
      refine XI_br (c := q7.1 = (-2)) (t := 79) (e := 73) (ls' := [.ref 0, .int x1, .int x2, .int x3]) (st' := []) (a' := q7.2) [(.bipush (-2), 2, 0, .int (-2)), (.if_icmp .eq 9, 3, 79, .null)] (by decide +kernel) rfl ?_ ?_
      · refine XI_go (pc' := 80) (ls' := [.ref 0, .int x1, .int x2, .int x3]) (st' := [.int x3]) (a' := q7.2) [(.iload_n 3, 1, 3, .null)] (by decide +kernel) rfl ?_
        exact XI_retI (by decide +kernel)
      · refine XI_go (pc' := 46) (ls' := [.ref 0, .int x1, .int x2, .int (x3 + 1)]) (st' := []) (a' := q7.2) [(.iinc 3 1, 3, 3, .int 1), (.goto (-30), 3, 46, .null)] (by decide +kernel) rfl ?_
        refine XI_fg [true, true, true, true] ?_
        exact x_C_read_46 E N n x1 x2 (x3 + 1) q7.2
set_option maxHeartbeats 4000000 in
set_option maxRecDepth 100000 in
theorem x_C_read (E : eT) (N : Nat) (p1 : Int32) (a : aT) : XI qI E md_C_read 0 [.ref 0, .int p1, .null, .null] [] a (f_C_read N p1 a) := by
  refine XI_go (pc' := 2) (ls' := [.ref 0, .int p1, .null, .null]) (st' := [.int 4, .int p1]) (a' := a) [(.iload_n 1, 1, 1, .null), (.iconst 4, 1, 0, .int 4)] (by decide +kernel) rfl ?_
  refine XI_ST (As := [.int p1, .int 4]) (rest := []) (idx := 110) (by decide +kernel) ok_C_isBelow mv_C_isBelow (n := 2) ⟨lk_C_110, by decide +kernel⟩ rfl (Nat.le_of_ble_eq_true rfl) (Nat.le_of_ble_eq_true rfl) (qZ_h rfl) (x_C_isBelow E p1 4 a) ?_
  refine XI_br (c := (f_C_isBelow p1 4) = 0) (t := 8) (e := 11) (ls' := [.ref 0, .int p1, .null, .null]) (st' := []) (a' := a) [(.ifCond .ne 6, 3, 11, .null)] (by decide +kernel) rfl ?_ ?_
  · refine XI_go (pc' := 10) (ls' := [.ref 0, .int p1, .null, .null]) (st' := [.int (-2)]) (a' := a) [(.bipush (-2), 2, 0, .int (-2))] (by decide +kernel) rfl ?_
    exact XI_retI (by decide +kernel)
  · refine XI_go (pc' := 16) (ls' := [.ref 0, .int p1, .null, .null]) (st' := [.int p1, .ref 27]) (a' := a) [(.aload_n 0, 1, 0, .null), (.getfield 79, 3, 1009, .null), (.iload_n 1, 1, 1, .null)] (by decide +kernel) rfl ?_
    refine XI_VP (As := [.int p1]) (rest := []) (b := 27) (idx := 114) (by decide +kernel) ok_H_isLost mv_H_isLost (n := 1) ⟨lk_C_114, by decide +kernel⟩ rfl rfl rfl rfl (Nat.le_of_ble_eq_true rfl) (Nat.le_of_ble_eq_true rfl) (qZ_h rfl) (x_H_isLost E p1 a) (fun q2 => ?_)
    refine XI_br (c := q2 = 0) (t := 31) (e := 22) (ls' := [.ref 0, .int p1, .null, .null]) (st' := []) (a' := a) [(.ifCond .eq 12, 3, 31, .null)] (by decide +kernel) rfl ?_ ?_
    · refine XI_go (pc' := 37) (ls' := [.ref 0, .int p1, .null, .null]) (st' := [.int p1, .ref 27, .int 4]) (a' := a) [(.iconst 4, 1, 0, .int 4), (.aload_n 0, 1, 0, .null), (.getfield 79, 3, 1009, .null), (.iload_n 1, 1, 1, .null)] (by decide +kernel) rfl ?_
      refine XI_VP (As := [.int p1]) (rest := [.int 4]) (b := 27) (idx := 121) (by decide +kernel) ok_H_sizeOf mv_H_sizeOf (n := 1) ⟨lk_C_121, by decide +kernel⟩ rfl rfl rfl rfl (Nat.le_of_ble_eq_true rfl) (Nat.le_of_ble_eq_true rfl) (qI_h rfl) (x_H_sizeOf E p1 a) (fun q3 => ?_)
      refine XI_ST (As := [.int 4, .int q3]) (rest := []) (idx := 124) (by decide +kernel) ok_J_min mv_J_min (n := 2) ⟨lk_C_124, by decide +kernel⟩ rfl (Nat.le_of_ble_eq_true rfl) (Nat.le_of_ble_eq_true rfl) (qI_h rfl) (x_J_min E 4 q3 a) ?_
      refine XI_go (pc' := 46) (ls' := [.ref 0, .int p1, .int (f_J_min 4 q3), .int 0]) (st' := []) (a' := a) [(.istore_n 2, 1, 2, .null), (.iconst 0, 1, 0, .int 0), (.istore_n 3, 1, 3, .null)] (by decide +kernel) rfl ?_
      refine XI_fg [true, true, true, true] ?_
      exact x_C_read_46 E N N p1 (f_J_min 4 q3) 0 a
    · refine XI_go (pc' := 27) (ls' := [.ref 0, .int p1, .null, .null]) (st' := [.int 1, .ref 27]) (a' := a) [(.aload_n 0, 1, 0, .null), (.getfield 79, 3, 1009, .null), (.iconst 1, 1, 0, .int 1)] (by decide +kernel) rfl ?_
      refine XI_VI (As := [.int 1]) (rest := []) (b := 27) (idx := 118) (by decide +kernel) ok_H_find mv_H_find (n := 1) ⟨lk_C_118, by decide +kernel⟩ rfl rfl rfl rfl (Nat.le_of_ble_eq_true rfl) (Nat.le_of_ble_eq_true rfl) (qI_h rfl) (x_H_find E 1 a) (fun q5 => ?_)
      exact XI_retI (by decide +kernel)
/-! ChestnutSticksModel.isSheet(I)Z -/
def md_M_isSheet : md_T := (yX11_isSheet, cX11_isSheet, 1, (some .boolean), 1, 25)
set_option maxRecDepth 100000 in
theorem ok_M_isSheet : m_ok md_M_isSheet := ⟨List.mem_of_getElem? (i := 999) (by decide +kernel), by decide +kernel, List.mem_of_getElem? (i := 64) (by decide +kernel), by decide +kernel⟩
theorem mv_M_isSheet : Cond.static (m_y md_M_isSheet) ∈ lw_tbl := List.mem_of_getElem? (i := 998) (by decide +kernel)
def f_M_isSheet (p1 : Int32) : Int32 :=
  (vp_nar .boolean (f_M_in p1.toInt64 0 3))
set_option maxHeartbeats 4000000 in
set_option maxRecDepth 100000 in
theorem x_M_isSheet (E : eT) (p1 : Int32) (a : aT) : XT qZ E md_M_isSheet 0 [.int p1] [] a (f_M_isSheet p1) := by
  refine XT_go (pc' := 6) (ls' := [.int p1]) (st' := [.long 3, .long 0, .long p1.toInt64]) (a' := a) [(.iload_n 0, 1, 0, .null), (.i2l, 1, 0, .null), (.lconst 0, 1, 0, .long 0), (.ldc2_w 81, 3, 0, .long 3)] (by decide +kernel) rfl ?_
  refine XT_ST (As := [.long p1.toInt64, .long 0, .long 3]) (rest := []) (idx := 74) (by decide +kernel) ok_M_in mv_M_in (n := 3) ⟨lk_M_74, by decide +kernel⟩ rfl (Nat.le_of_ble_eq_true rfl) (Nat.le_of_ble_eq_true rfl) (qZ_h rfl) (x_M_in E p1.toInt64 0 3 a) ?_
  exact XT_retZ (by decide +kernel) rfl
end
