/-- class, pool number, field, the place of its word -/
def fl_T : List (Nat × Nat × Nat × Nat) := [
  (0, 9, 0, 127),
  (1, 9, 5, 161),
  (1, 15, 6, 162),
  (1, 18, 7, 163),
  (1, 21, 8, 164),
  (1, 24, 9, 165),
  (1, 28, 10, 166),
  (1, 31, 11, 167),
  (1, 34, 12, 168),
  (1, 37, 13, 169),
  (1, 40, 0, 156),
  (1, 44, 1, 157),
  (1, 48, 2, 158),
  (1, 52, 3, 159),
  (1, 56, 4, 160),
  (2, 9, 0, 114),
  (2, 15, 1, 115),
  (3, 9, 1, 206),
  (3, 15, 0, 205),
  (4, 9, 0, 250),
  (4, 15, 1, 251),
  (4, 18, 2, 252),
  (4, 21, 3, 253),
  (5, 9, 0, 234),
  (5, 15, 1, 235),
  (5, 18, 2, 236),
  (6, 9, 0, 104),
  (7, 9, 0, 218),
  (7, 15, 1, 219),
  (7, 18, 2, 220),
  (8, 9, 0, 137),
  (8, 15, 1, 138),
  (8, 18, 2, 139),
  (8, 21, 3, 140),
  (9, 9, 0, 84),
  (9, 15, 1, 85),
  (9, 18, 2, 86),
  (9, 22, 3, 87),
  (10, 10, 0, 263),
  (10, 19, 1, 264),
  (10, 26, 2, 265),
  (10, 33, 3, 266),
  (10, 40, 4, 267),
  (10, 49, 5, 268),
  (10, 58, 6, 269),
  (10, 65, 7, 270),
  (10, 72, 8, 271),
  (10, 79, 9, 272),
  (11, 7, 0, 892),
  (11, 13, 1, 893),
  (11, 16, 2, 894),
  (11, 19, 3, 895),
  (11, 22, 5, 897),
  (11, 25, 8, 900),
  (11, 29, 9, 901),
  (11, 32, 12, 904),
  (11, 35, 13, 905),
  (11, 38, 14, 906),
  (11, 41, 15, 907),
  (11, 44, 17, 909),
  (11, 47, 19, 911),
  (11, 50, 20, 912),
  (11, 53, 21, 913),
  (11, 56, 22, 914),
  (11, 59, 23, 915),
  (11, 62, 30, 922),
  (11, 65, 32, 924),
  (11, 68, 16, 908),
  (11, 78, 4, 896),
  (11, 104, 6, 898),
  (11, 107, 10, 902),
  (11, 110, 11, 903),
  (11, 113, 7, 899),
  (11, 150, 18, 910),
  (11, 160, 24, 916),
  (11, 169, 25, 917),
  (11, 175, 26, 918),
  (11, 189, 27, 919),
  (11, 192, 28, 920),
  (11, 278, 29, 921),
  (11, 297, 31, 923)]
theorem fl_all : fl_T.all (fun e => match vwCl[e.1]? with
    | some q => decide (e.2.2.1 < q.2.2) && decide (lw_tbl[e.2.2.2]? = some (Cond.fieldLink q.1 e.2.1 (q.2.1 e.2.2.1).1 (q.2.1 e.2.2.1).2.1 (q.2.1 e.2.2.1).2.2.1))
    | none => false) = true := by decide +kernel
def ki_T : List (Nat × String × Nat × Int32) := [
  (498, "ChestnutSticks$Play", 122, 1103515245),
  (612, "ChestnutSticks", 187, (-1000002)),
  (810, "ChestnutSticks", 251, (-2147483648)),
  (1028, "ChestnutSticksModel", 101, (-2147483648)),
  (1128, "ChestnutSticksModel", 159, 1103515245),
  (1206, "ChestnutSticksModel", 237, (-1000002))]
def kl_T : List (Nat × String × Nat × Int64) := [
  (594, "ChestnutSticks", 175, (-9223372036854775806)),
  (603, "ChestnutSticks", 181, 16),
  (607, "ChestnutSticks", 336, 2),
  (649, "ChestnutSticks$Season", 19, 16),
  (867, "ChestnutSticks", 280, 17),
  (868, "ChestnutSticks", 282, 31),
  (1000, "ChestnutSticksModel", 81, 3),
  (1004, "ChestnutSticksModel", 87, 2),
  (1037, "ChestnutSticksModel", 102, 255),
  (1062, "ChestnutSticksModel", 116, 48),
  (1063, "ChestnutSticksModel", 118, 57),
  (1071, "ChestnutSticksModel", 136, 9),
  (1072, "ChestnutSticksModel", 138, 16),
  (1077, "ChestnutSticksModel", 140, 5),
  (1089, "ChestnutSticksModel", 145, 7),
  (1099, "ChestnutSticksModel", 131, 47),
  (1158, "ChestnutSticksModel", 213, 4),
  (1197, "ChestnutSticksModel", 72, (-9223372036854775808)),
  (1235, "ChestnutSticksModel", 250, 12),
  (1251, "ChestnutSticksModel", 259, 29),
  (1260, "ChestnutSticksModel", 268, 6),
  (1281, "ChestnutSticksModel", 276, 20),
  (1290, "ChestnutSticksModel", 287, 9999),
  (1315, "ChestnutSticksModel", 295, 19),
  (1340, "ChestnutSticksModel", 303, 17),
  (1341, "ChestnutSticksModel", 305, 31)]
theorem ki_all : ki_T.all (fun e => decide (lw_tbl[e.1]? = some (Cond.constant e.2.1 e.2.2.1 e.2.2.2))) = true := by decide +kernel
theorem kl_all : kl_T.all (fun e => decide (lw_tbl[e.1]? = some (Cond.constantLong e.2.1 e.2.2.1 e.2.2.2))) = true := by decide +kernel
theorem fl_spec {e : Nat × Nat × Nat × Nat} (h : e ∈ fl_T) : ∃ q, vwCl[e.1]? = some q ∧ e.2.2.1 < q.2.2 ∧ Cond.fieldLink q.1 e.2.1 (q.2.1 e.2.2.1).1 (q.2.1 e.2.2.1).2.1 (q.2.1 e.2.2.1).2.2.1 ∈ lw_tbl := by
  have h1 := List.all_eq_true.mp fl_all e h
  split at h1
  · rename_i q hq
    simp only [Bool.and_eq_true, decide_eq_true_eq] at h1
    exact ⟨q, hq, h1.1, List.mem_of_getElem? h1.2⟩
  · cases h1
theorem ki_spec {p : Nat} {C : String} {i : Nat} {v : Int32} (h : (p, C, i, v) ∈ ki_T) : Cond.constant C i v ∈ lw_tbl := by
  have h1 := List.all_eq_true.mp ki_all _ h
  simp only [decide_eq_true_eq] at h1
  exact List.mem_of_getElem? h1
theorem kl_spec {p : Nat} {C : String} {i : Nat} {v : Int64} (h : (p, C, i, v) ∈ kl_T) : Cond.constantLong C i v ∈ lw_tbl := by
  have h1 := List.all_eq_true.mp kl_all _ h
  simp only [decide_eq_true_eq] at h1
  exact List.mem_of_getElem? h1
