/-! ChestnutSticks$Tree.cellAt(II)I -/
def md_E_cellAt : md_T := (yX9_cellAt, cX9_cellAt, 4, (some .int), 1, 21)
set_option maxRecDepth 100000 in
theorem ok_E_cellAt : m_ok md_E_cellAt := ⟨List.mem_of_getElem? (i := 541) (by decide +kernel), by decide +kernel, List.mem_of_getElem? (i := 54) (by decide +kernel), by decide +kernel⟩
theorem mv_E_cellAt : Cond.instanceMethod (m_y md_E_cellAt) ∈ lw_tbl ∧ Cond.selects (m_y md_E_cellAt).cls (m_y md_E_cellAt) (m_y md_E_cellAt) ∈ lw_tbl := ⟨List.mem_of_getElem? (i := 539) (by decide +kernel), List.mem_of_getElem? (i := 540) (by decide +kernel)⟩
def f_E_cellAt (p1 : Int32) (p2 : Int32) (a : aT) : Option Int32 :=
  if (f_C_isBelow p1 6) = 0 then
    some (-1)
  else
    if (f_C_isBelow p2 8) = 0 then
      some (-1)
    else
      if (f_C_isBelow ((8 * p1) + p2) 48) = 0 then
        some (-1)
      else
        if inb ((8 * p1) + p2) 48 then
          if (a 3 (ix ((8 * p1) + p2))) = (-2) then
            some (-1)
          else
            some ((8 * p1) + p2)
        else none
set_option maxHeartbeats 4000000 in
set_option maxRecDepth 100000 in
theorem x_E_cellAt (E : eT) (p1 : Int32) (p2 : Int32) (a : aT) : XP qI E md_E_cellAt 0 [.ref 1, .int p1, .int p2, .null] [] a (f_E_cellAt p1 p2 a) := by
  refine XP_go (pc' := 3) (ls' := [.ref 1, .int p1, .int p2, .null]) (st' := [.int 6, .int p1]) (a' := a) [(.iload_n 1, 1, 1, .null), (.bipush 6, 2, 0, .int 6)] (by decide +kernel) rfl ?_
  refine XP_SNT (As := [.int p1, .int 6]) (rest := []) (idx := 28) (by decide +kernel) ok_C_isBelow mv_C_isBelow (n := 2) ⟨lk_E_28, by decide +kernel⟩ rfl (Nat.le_of_ble_eq_true rfl) (Nat.le_of_ble_eq_true rfl) (qZ_h rfl) (x_C_isBelow E p1 6 a) ?_
  refine XP_br (c := (f_C_isBelow p1 6) = 0) (t := 18) (e := 9) (ls' := [.ref 1, .int p1, .int p2, .null]) (st' := []) (a' := a) [(.ifCond .eq 12, 3, 18, .null)] (by decide +kernel) rfl ?_ ?_
  · refine XP_go (pc' := 19) (ls' := [.ref 1, .int p1, .int p2, .null]) (st' := [.int (-1)]) (a' := a) [(.iconst (-1), 1, 0, .int (-1))] (by decide +kernel) rfl ?_
    exact XP_retI (by decide +kernel)
  · refine XP_go (pc' := 12) (ls' := [.ref 1, .int p1, .int p2, .null]) (st' := [.int 8, .int p2]) (a' := a) [(.iload_n 2, 1, 2, .null), (.bipush 8, 2, 0, .int 8)] (by decide +kernel) rfl ?_
    refine XP_SNT (As := [.int p2, .int 8]) (rest := []) (idx := 28) (by decide +kernel) ok_C_isBelow mv_C_isBelow (n := 2) ⟨lk_E_28, by decide +kernel⟩ rfl (Nat.le_of_ble_eq_true rfl) (Nat.le_of_ble_eq_true rfl) (qZ_h rfl) (x_C_isBelow E p2 8 a) ?_
    refine XP_br (c := (f_C_isBelow p2 8) = 0) (t := 18) (e := 20) (ls' := [.ref 1, .int p1, .int p2, .null]) (st' := []) (a' := a) [(.ifCond .ne 5, 3, 20, .null)] (by decide +kernel) rfl ?_ ?_
    · refine XP_go (pc' := 19) (ls' := [.ref 1, .int p1, .int p2, .null]) (st' := [.int (-1)]) (a' := a) [(.iconst (-1), 1, 0, .int (-1))] (by decide +kernel) rfl ?_
      exact XP_retI (by decide +kernel)
    · refine XP_go (pc' := 30) (ls' := [.ref 1, .int p1, .int p2, .int ((8 * p1) + p2)]) (st' := [.int 48, .int ((8 * p1) + p2)]) (a' := a) [(.bipush 8, 2, 0, .int 8), (.iload_n 1, 1, 1, .null), (.imul, 1, 0, .null), (.iload_n 2, 1, 2, .null), (.iadd, 1, 0, .null), (.istore_n 3, 1, 3, .null), (.iload_n 3, 1, 3, .null), (.bipush 48, 2, 0, .int 48)] (by decide +kernel) rfl ?_
      refine XP_SNT (As := [.int ((8 * p1) + p2), .int 48]) (rest := []) (idx := 28) (by decide +kernel) ok_C_isBelow mv_C_isBelow (n := 2) ⟨lk_E_28, by decide +kernel⟩ rfl (Nat.le_of_ble_eq_true rfl) (Nat.le_of_ble_eq_true rfl) (qZ_h rfl) (x_C_isBelow E ((8 * p1) + p2) 48 a) ?_
      refine XP_br (c := (f_C_isBelow ((8 * p1) + p2) 48) = 0) (t := 51) (e := 36) (ls' := [.ref 1, .int p1, .int p2, .int ((8 * p1) + p2)]) (st' := []) (a' := a) [(.ifCond .eq 18, 3, 51, .null)] (by decide +kernel) rfl ?_ ?_
      · refine XP_go (pc' := 52) (ls' := [.ref 1, .int p1, .int p2, .int ((8 * p1) + p2)]) (st' := [.int (-1)]) (a' := a) [(.iconst (-1), 1, 0, .int (-1))] (by decide +kernel) rfl ?_
        exact XP_retI (by decide +kernel)
      · refine XP_ck (c := inb ((8 * p1) + p2) 48) (pc' := 42) (ls' := [.ref 1, .int p1, .int p2, .int ((8 * p1) + p2)]) (st' := [.int (a 3 (ix ((8 * p1) + p2)))]) (a' := a) [(.aload_n 0, 1, 0, .null), (.getfield 15, 3, 901, .null), (.iload_n 3, 1, 3, .null), (.iaload, 1, 0, .null)] (by decide +kernel) rfl ?_
        refine XP_br (c := (a 3 (ix ((8 * p1) + p2))) = (-2)) (t := 51) (e := 47) (ls' := [.ref 1, .int p1, .int p2, .int ((8 * p1) + p2)]) (st' := []) (a' := a) [(.bipush (-2), 2, 0, .int (-2)), (.if_icmp .eq 7, 3, 51, .null)] (by decide +kernel) rfl ?_ ?_
        · refine XP_go (pc' := 52) (ls' := [.ref 1, .int p1, .int p2, .int ((8 * p1) + p2)]) (st' := [.int (-1)]) (a' := a) [(.iconst (-1), 1, 0, .int (-1))] (by decide +kernel) rfl ?_
          exact XP_retI (by decide +kernel)
        · refine XP_go (pc' := 52) (ls' := [.ref 1, .int p1, .int p2, .int ((8 * p1) + p2)]) (st' := [.int ((8 * p1) + p2)]) (a' := a) [(.iload_n 3, 1, 3, .null), (.goto 4, 3, 52, .null)] (by decide +kernel) rfl ?_
          exact XP_retI (by decide +kernel)
/-! ChestnutSticks$Play.throwOne(I)V -/
def md_P_throwOne : md_T := (yX1_throwOne, cX1_throwOne, 7, none, 3, 73)
set_option maxRecDepth 100000 in
theorem ok_P_throwOne : m_ok md_P_throwOne := ⟨List.mem_of_getElem? (i := 476) (by decide +kernel), by decide +kernel, List.mem_of_getElem? (i := 59) (by decide +kernel), by decide +kernel⟩
theorem mv_P_throwOne : Cond.instanceMethod (m_y md_P_throwOne) ∈ lw_tbl ∧ Cond.selects (m_y md_P_throwOne).cls (m_y md_P_throwOne) (m_y md_P_throwOne) ∈ lw_tbl := ⟨List.mem_of_getElem? (i := 475) (by decide +kernel), List.mem_of_getElem? (i := 4) (by decide +kernel)⟩
def f_P_throwOne_38 (N : Nat) (x1 : Int32) (a : aT) : Option (Unit × aT) :=
  if (a 14 13) = (-1) then
    some ((), (upA a 14 13 x1))
  else
    some ((), (upA a 14 13 (a 14 13)))
def f_P_throwOne_127 (N : Nat) (x2 : Int32) (x4 : Int32) (x5 : Int32) (y1 : Int32) (a : aT) : Option (Unit × aT) :=
  if y1 = 0 then
    some ((), (upA a 14 12 ((a 14 12) + 1)))
  else
    if (f_C_isBelow x2 4) = 0 then
      some ((), (upA a 14 12 ((a 14 12) + 1)))
    else
      (f_E_cellAt x4 x5 a).bind fun q13 =>
        if inb x2 4 then
          some ((), (upA (upA a 16 (ix x2) q13) 14 12 ((a 14 12) + 1)))
        else none
def f_P_throwOne (N : Nat) (p1 : Int32) (a : aT) : Option (Unit × aT) :=
  (f_O_stickAt p1 a).bind fun q1 =>
    (f_O_cellNumberAt p1 a).bind fun q2 =>
      (f_E_isCell q2 a).bind fun q3 =>
        if q3 = 0 then
          f_P_throwOne_38 N p1 a
        else
          (f_P_lodgedIn q1 a).bind fun q4 =>
            if q4 = (-1) then
              (f_P_lotOfSixteen a).bind fun q5 =>
                (f_P_sideOf q5.1 q5.2).bind fun q6 =>
                  (f_P_bringDown N p1 (q2 / 8) ((i_rem q2 8) + q6) q5.2).bind fun q7 =>
                    (f_T_now q1 1 q7.2).bind fun q8 =>
                      (f_P_freeSticks N (q2 / 8) ((i_rem q2 8) + q6) q8 q7.2).bind fun q9 =>
                        (f_P_lotOfSixteen q9.2).bind fun q10 =>
                          (f_T_now q1 2 q10.2).bind fun q11 =>
                            if q11 ≤ q10.1 then
                              f_P_throwOne_127 N q1 (q2 / 8) ((i_rem q2 8) + q6) 0 q10.2
                            else
                              f_P_throwOne_127 N q1 (q2 / 8) ((i_rem q2 8) + q6) 1 q10.2
            else
              f_P_throwOne_38 N p1 a
set_option maxHeartbeats 4000000 in
set_option maxRecDepth 100000 in
theorem x_P_throwOne_38 (E : eT) (N : Nat) (x1 : Int32) (a : aT) : XI qV E md_P_throwOne 38 [.ref 14, .int x1, .null, .null, .null, .null, .null] [] a (f_P_throwOne_38 N x1 a) := by
  refine XI_br (c := (a 14 13) = (-1)) (t := 47) (e := 51) (ls' := [.ref 14, .int x1, .null, .null, .null, .null, .null]) (st' := [.ref 14]) (a' := a) [(.aload_n 0, 1, 0, .null), (.aload_n 0, 1, 0, .null), (.getfield 37, 3, 113, .null), (.iconst (-1), 1, 0, .int (-1)), (.if_icmp .ne 7, 3, 51, .null)] (by decide +kernel) rfl ?_ ?_
  · refine XI_go (pc' := 58) (ls' := [.ref 14, .int x1, .null, .null, .null, .null, .null]) (st' := []) (a' := (upA a 14 13 x1)) [(.iload_n 1, 1, 1, .null), (.goto 7, 3, 55, .null), (.putfield 37, 3, 113, .int 0)] (by decide +kernel) rfl ?_
    exact XI_retV (by decide +kernel)
  · refine XI_go (pc' := 58) (ls' := [.ref 14, .int x1, .null, .null, .null, .null, .null]) (st' := []) (a' := (upA a 14 13 (a 14 13))) [(.aload_n 0, 1, 0, .null), (.getfield 37, 3, 113, .null), (.putfield 37, 3, 113, .int 0)] (by decide +kernel) rfl ?_
    exact XI_retV (by decide +kernel)
set_option maxHeartbeats 4000000 in
set_option maxRecDepth 100000 in
theorem x_P_throwOne_127 (E : eT) (N : Nat) (x2 : Int32) (x4 : Int32) (x5 : Int32) (y1 : Int32) (a : aT) : XI qV E md_P_throwOne 127 [.ref 14, .null, .int x2, .null, .int x4, .int x5, .null] [.int y1] a (f_P_throwOne_127 N x2 x4 x5 y1 a) := by
  refine XI_br (c := y1 = 0) (t := 159) (e := 134) (ls' := [.ref 14, .null, .int x2, .null, .int x4, .int x5, .int y1]) (st' := []) (a' := a) [(.istore 6, 2, 6, .null), (.iload 6, 2, 6, .null), (.ifCond .eq 28, 3, 159, .null)] (by decide +kernel) rfl ?_ ?_
  · refine XI_go (pc' := 169) (ls' := [.ref 14, .null, .int x2, .null, .int x4, .int x5, .int y1]) (st' := []) (a' := (upA a 14 12 ((a 14 12) + 1))) [(.aload_n 0, 1, 0, .null), (.dup, 1, 0, .null), (.getfield 34, 3, 112, .null), (.iconst 1, 1, 0, .int 1), (.iadd, 1, 0, .null), (.putfield 34, 3, 112, .int 0)] (by decide +kernel) rfl ?_
    exact XI_retV (by decide +kernel)
  · refine XI_go (pc' := 136) (ls' := [.ref 14, .null, .int x2, .null, .int x4, .int x5, .int y1]) (st' := [.int 4, .int x2]) (a' := a) [(.iload_n 2, 1, 2, .null), (.iconst 4, 1, 0, .int 4)] (by decide +kernel) rfl ?_
    refine XI_SNT (As := [.int x2, .int 4]) (rest := []) (idx := 82) (by decide +kernel) ok_C_isBelow mv_C_isBelow (n := 2) ⟨lk_P_82, by decide +kernel⟩ rfl (Nat.le_of_ble_eq_true rfl) (Nat.le_of_ble_eq_true rfl) (qZ_h rfl) (x_C_isBelow E x2 4 a) ?_
    refine XI_br (c := (f_C_isBelow x2 4) = 0) (t := 159) (e := 142) (ls' := [.ref 14, .null, .int x2, .null, .int x4, .int x5, .int y1]) (st' := []) (a' := a) [(.ifCond .eq 20, 3, 159, .null)] (by decide +kernel) rfl ?_ ?_
    · refine XI_go (pc' := 169) (ls' := [.ref 14, .null, .int x2, .null, .int x4, .int x5, .int y1]) (st' := []) (a' := (upA a 14 12 ((a 14 12) + 1))) [(.aload_n 0, 1, 0, .null), (.dup, 1, 0, .null), (.getfield 34, 3, 112, .null), (.iconst 1, 1, 0, .int 1), (.iadd, 1, 0, .null), (.putfield 34, 3, 112, .int 0)] (by decide +kernel) rfl ?_
      exact XI_retV (by decide +kernel)
    · refine XI_go (pc' := 155) (ls' := [.ref 14, .null, .int x2, .null, .int x4, .int x5, .int y1]) (st' := [.int x5, .int x4, .ref 1, .int x2, .ref 16]) (a' := a) [(.aload_n 0, 1, 0, .null), (.getfield 15, 3, 106, .null), (.iload_n 2, 1, 2, .null), (.aload_n 0, 1, 0, .null), (.getfield 40, 3, 100, .null), (.iload 4, 2, 4, .null), (.iload 5, 2, 5, .null)] (by decide +kernel) rfl ?_
      refine XI_VP (As := [.int x4, .int x5]) (rest := [.int x2, .ref 16]) (b := 1) (idx := 145) (by decide +kernel) ok_E_cellAt mv_E_cellAt (n := 2) ⟨lk_P_145, by decide +kernel⟩ rfl rfl rfl rfl (Nat.le_of_ble_eq_true rfl) (Nat.le_of_ble_eq_true rfl) (qI_h rfl) (x_E_cellAt E x4 x5 a) (fun q13 => ?_)
      refine XI_ck (c := inb x2 4) (pc' := 159) (ls' := [.ref 14, .null, .int x2, .null, .int x4, .int x5, .int y1]) (st' := []) (a' := (upA a 16 (ix x2) q13)) [(.iastore, 1, 0, .null)] (by decide +kernel) rfl ?_
      refine XI_go (pc' := 169) (ls' := [.ref 14, .null, .int x2, .null, .int x4, .int x5, .int y1]) (st' := []) (a' := (upA (upA a 16 (ix x2) q13) 14 12 ((a 14 12) + 1))) [(.aload_n 0, 1, 0, .null), (.dup, 1, 0, .null), (.getfield 34, 3, 112, .null), (.iconst 1, 1, 0, .int 1), (.iadd, 1, 0, .null), (.putfield 34, 3, 112, .int 0)] (by decide +kernel) rfl ?_
      exact XI_retV (by decide +kernel)
set_option maxHeartbeats 4000000 in
set_option maxRecDepth 100000 in
theorem x_P_throwOne (E : eT) (N : Nat) (p1 : Int32) (a : aT) : XI qV E md_P_throwOne 0 [.ref 14, .int p1, .null, .null, .null, .null, .null] [] a (f_P_throwOne N p1 a) := by
  refine XI_go (pc' := 5) (ls' := [.ref 14, .int p1, .null, .null, .null, .null, .null]) (st' := [.int p1, .ref 10]) (a' := a) [(.aload_n 0, 1, 0, .null), (.getfield 56, 3, 104, .null), (.iload_n 1, 1, 1, .null)] (by decide +kernel) rfl ?_
  refine XI_VP (As := [.int p1]) (rest := []) (b := 10) (idx := 123) (by decide +kernel) ok_O_stickAt mv_O_stickAt (n := 1) ⟨lk_P_123, by decide +kernel⟩ rfl rfl rfl rfl (Nat.le_of_ble_eq_true rfl) (Nat.le_of_ble_eq_true rfl) (qI_h rfl) (x_O_stickAt E p1 a) (fun q1 => ?_)
  refine XI_go (pc' := 14) (ls' := [.ref 14, .int p1, .int q1, .null, .null, .null, .null]) (st' := [.int p1, .ref 10]) (a' := a) [(.istore_n 2, 1, 2, .null), (.aload_n 0, 1, 0, .null), (.getfield 56, 3, 104, .null), (.iload_n 1, 1, 1, .null)] (by decide +kernel) rfl ?_
  refine XI_VP (As := [.int p1]) (rest := []) (b := 10) (idx := 126) (by decide +kernel) ok_O_cellNumberAt mv_O_cellNumberAt (n := 1) ⟨lk_P_126, by decide +kernel⟩ rfl rfl rfl rfl (Nat.le_of_ble_eq_true rfl) (Nat.le_of_ble_eq_true rfl) (qI_h rfl) (x_O_cellNumberAt E p1 a) (fun q2 => ?_)
  refine XI_go (pc' := 23) (ls' := [.ref 14, .int p1, .int q1, .int q2, .null, .null, .null]) (st' := [.int q2, .ref 1]) (a' := a) [(.istore_n 3, 1, 3, .null), (.aload_n 0, 1, 0, .null), (.getfield 40, 3, 100, .null), (.iload_n 3, 1, 3, .null)] (by decide +kernel) rfl ?_
  refine XI_VP (As := [.int q2]) (rest := []) (b := 1) (idx := 98) (by decide +kernel) ok_E_isCell mv_E_isCell (n := 1) ⟨lk_P_98, by decide +kernel⟩ rfl rfl rfl rfl (Nat.le_of_ble_eq_true rfl) (Nat.le_of_ble_eq_true rfl) (qZ_h rfl) (x_E_isCell E q2 a) (fun q3 => ?_)
  refine XI_br (c := q3 = 0) (t := 38) (e := 29) (ls' := [.ref 14, .int p1, .int q1, .int q2, .null, .null, .null]) (st' := []) (a' := a) [(.ifCond .eq 12, 3, 38, .null)] (by decide +kernel) rfl ?_ ?_
  · refine XI_fg [true, true, false, false, false, false, false] ?_
    exact x_P_throwOne_38 E N p1 a
  · refine XI_go (pc' := 31) (ls' := [.ref 14, .int p1, .int q1, .int q2, .null, .null, .null]) (st' := [.int q1, .ref 14]) (a' := a) [(.aload_n 0, 1, 0, .null), (.iload_n 2, 1, 2, .null)] (by decide +kernel) rfl ?_
    refine XI_VP (As := [.int q1]) (rest := []) (b := 14) (idx := 129) (by decide +kernel) ok_P_lodgedIn mv_P_lodgedIn (n := 1) ⟨lk_P_129, by decide +kernel⟩ rfl rfl rfl rfl (Nat.le_of_ble_eq_true rfl) (Nat.le_of_ble_eq_true rfl) (qI_h rfl) (x_P_lodgedIn E q1 a) (fun q4 => ?_)
    refine XI_br (c := q4 = (-1)) (t := 59) (e := 38) (ls' := [.ref 14, .int p1, .int q1, .int q2, .null, .null, .null]) (st' := []) (a' := a) [(.iconst (-1), 1, 0, .int (-1)), (.if_icmp .eq 24, 3, 59, .null)] (by decide +kernel) rfl ?_ ?_
    · refine XI_go (pc' := 71) (ls' := [.ref 14, .int p1, .int q1, .int q2, .int (q2 / 8), .null, .null]) (st' := [.ref 14, .ref 14, .int (i_rem q2 8)]) (a' := a) [(.iload_n 3, 1, 3, .null), (.bipush 8, 2, 0, .int 8), (.idiv, 1, 0, .null), (.istore 4, 2, 4, .null), (.iload_n 3, 1, 3, .null), (.bipush 8, 2, 0, .int 8), (.irem, 1, 0, .null), (.aload_n 0, 1, 0, .null), (.aload_n 0, 1, 0, .null)] (by decide +kernel) rfl ?_
      refine XI_VI (As := []) (rest := [.ref 14, .int (i_rem q2 8)]) (b := 14) (idx := 132) (by decide +kernel) ok_P_lotOfSixteen mv_P_lotOfSixteen (n := 0) ⟨lk_P_132, by decide +kernel⟩ rfl rfl rfl rfl (Nat.le_of_ble_eq_true rfl) (Nat.le_of_ble_eq_true rfl) (qI_h rfl) (x_P_lotOfSixteen E a) (fun q5 => ?_)
      refine XI_VP (As := [.int q5.1]) (rest := [.int (i_rem q2 8)]) (b := 14) (idx := 135) (by decide +kernel) ok_P_sideOf mv_P_sideOf (n := 1) ⟨lk_P_135, by decide +kernel⟩ rfl rfl rfl rfl (Nat.le_of_ble_eq_true rfl) (Nat.le_of_ble_eq_true rfl) (qI_h rfl) (x_P_sideOf E q5.1 q5.2) (fun q6 => ?_)
      refine XI_go (pc' := 86) (ls' := [.ref 14, .int p1, .int q1, .int q2, .int (q2 / 8), .int ((i_rem q2 8) + q6), .null]) (st' := [.int ((i_rem q2 8) + q6), .int (q2 / 8), .int p1, .ref 14]) (a' := q5.2) [(.iadd, 1, 0, .null), (.istore 5, 2, 5, .null), (.aload_n 0, 1, 0, .null), (.iload_n 1, 1, 1, .null), (.iload 4, 2, 4, .null), (.iload 5, 2, 5, .null)] (by decide +kernel) rfl ?_
      refine XI_VI (As := [.int p1, .int (q2 / 8), .int ((i_rem q2 8) + q6)]) (rest := []) (b := 14) (idx := 138) (by decide +kernel) ok_P_bringDown mv_P_bringDown (n := 3) ⟨lk_P_138, by decide +kernel⟩ rfl rfl rfl rfl (Nat.le_of_ble_eq_true rfl) (Nat.le_of_ble_eq_true rfl) (qV_h rfl) (x_P_bringDown E N p1 (q2 / 8) ((i_rem q2 8) + q6) q5.2) (fun q7 => ?_)
      refine XI_go (pc' := 100) (ls' := [.ref 14, .int p1, .int q1, .int q2, .int (q2 / 8), .int ((i_rem q2 8) + q6), .null]) (st' := [.int 1, .int q1, .ref 4, .int ((i_rem q2 8) + q6), .int (q2 / 8), .ref 14]) (a' := q7.2) [(.aload_n 0, 1, 0, .null), (.iload 4, 2, 4, .null), (.iload 5, 2, 5, .null), (.aload_n 0, 1, 0, .null), (.getfield 44, 3, 101, .null), (.iload_n 2, 1, 2, .null), (.iconst 1, 1, 0, .int 1)] (by decide +kernel) rfl ?_
      refine XI_VP (As := [.int q1, .int 1]) (rest := [.int ((i_rem q2 8) + q6), .int (q2 / 8), .ref 14]) (b := 4) (idx := 108) (by decide +kernel) ok_T_now mv_T_now (n := 2) ⟨lk_P_108, by decide +kernel⟩ rfl rfl rfl rfl (Nat.le_of_ble_eq_true rfl) (Nat.le_of_ble_eq_true rfl) (qI_h rfl) (x_T_now E q1 1 q7.2) (fun q8 => ?_)
      refine XI_VI (As := [.int (q2 / 8), .int ((i_rem q2 8) + q6), .int q8]) (rest := []) (b := 14) (idx := 142) (by decide +kernel) ok_P_freeSticks mv_P_freeSticks (n := 3) ⟨lk_P_142, by decide +kernel⟩ rfl rfl rfl rfl (Nat.le_of_ble_eq_true rfl) (Nat.le_of_ble_eq_true rfl) (qV_h rfl) (x_P_freeSticks E N (q2 / 8) ((i_rem q2 8) + q6) q8 q7.2) (fun q9 => ?_)
      refine XI_go (pc' := 107) (ls' := [.ref 14, .int p1, .int q1, .int q2, .int (q2 / 8), .int ((i_rem q2 8) + q6), .null]) (st' := [.ref 14]) (a' := q9.2) [(.aload_n 0, 1, 0, .null)] (by decide +kernel) rfl ?_
      refine XI_VI (As := []) (rest := []) (b := 14) (idx := 132) (by decide +kernel) ok_P_lotOfSixteen mv_P_lotOfSixteen (n := 0) ⟨lk_P_132, by decide +kernel⟩ rfl rfl rfl rfl (Nat.le_of_ble_eq_true rfl) (Nat.le_of_ble_eq_true rfl) (qI_h rfl) (x_P_lotOfSixteen E q9.2) (fun q10 => ?_)
      refine XI_go (pc' := 116) (ls' := [.ref 14, .int p1, .int q1, .int q2, .int (q2 / 8), .int ((i_rem q2 8) + q6), .null]) (st' := [.int 2, .int q1, .ref 4, .int q10.1]) (a' := q10.2) [(.aload_n 0, 1, 0, .null), (.getfield 44, 3, 101, .null), (.iload_n 2, 1, 2, .null), (.iconst 2, 1, 0, .int 2)] (by decide +kernel) rfl ?_
      refine XI_VP (As := [.int q1, .int 2]) (rest := [.int q10.1]) (b := 4) (idx := 108) (by decide +kernel) ok_T_now mv_T_now (n := 2) ⟨lk_P_108, by decide +kernel⟩ rfl rfl rfl rfl (Nat.le_of_ble_eq_true rfl) (Nat.le_of_ble_eq_true rfl) (qI_h rfl) (x_T_now E q1 2 q10.2) (fun q11 => ?_)
      refine XI_br (c := q11 ≤ q10.1) (t := 126) (e := 122) (ls' := [.ref 14, .int p1, .int q1, .int q2, .int (q2 / 8), .int ((i_rem q2 8) + q6), .null]) (st' := []) (a' := q10.2) [(.if_icmp .ge 7, 3, 126, .null)] (by decide +kernel) rfl ?_ ?_
      · refine XI_go (pc' := 127) (ls' := [.ref 14, .int p1, .int q1, .int q2, .int (q2 / 8), .int ((i_rem q2 8) + q6), .null]) (st' := [.int 0]) (a' := q10.2) [(.iconst 0, 1, 0, .int 0)] (by decide +kernel) rfl ?_
        refine XI_fg [true, false, true, false, true, true, false] ?_
        exact x_P_throwOne_127 E N q1 (q2 / 8) ((i_rem q2 8) + q6) 0 q10.2
      · refine XI_go (pc' := 127) (ls' := [.ref 14, .int p1, .int q1, .int q2, .int (q2 / 8), .int ((i_rem q2 8) + q6), .null]) (st' := [.int 1]) (a' := q10.2) [(.iconst 1, 1, 0, .int 1), (.goto 4, 3, 127, .null)] (by decide +kernel) rfl ?_
        refine XI_fg [true, false, true, false, true, true, false] ?_
        exact x_P_throwOne_127 E N q1 (q2 / 8) ((i_rem q2 8) + q6) 1 q10.2
    · refine XI_fg [true, true, false, false, false, false, false] ?_
      exact x_P_throwOne_38 E N p1 a
/-! ChestnutSticks$Play.replay(II)V -/
def md_P_replay : md_T := (yX1_replay, cX1_replay, 4, none, 4, 99)
set_option maxRecDepth 100000 in
theorem ok_P_replay : m_ok md_P_replay := ⟨List.mem_of_getElem? (i := 453) (by decide +kernel), by decide +kernel, List.mem_of_getElem? (i := 59) (by decide +kernel), by decide +kernel⟩
theorem mv_P_replay : Cond.instanceMethod (m_y md_P_replay) ∈ lw_tbl ∧ Cond.selects (m_y md_P_replay).cls (m_y md_P_replay) (m_y md_P_replay) ∈ lw_tbl := ⟨List.mem_of_getElem? (i := 451) (by decide +kernel), List.mem_of_getElem? (i := 452) (by decide +kernel)⟩
def f_P_replay_7 (N : Nat) : Nat → Int32 → Int32 → aT → Option (Unit × aT)
  | 0 => fun _ _ _ => none
  | n + 1 => fun x1 x3 a =>
    if x1 ≤ x3 then
      some ((), a)
    else
      if 20 ≤ x3 then
        some ((), a)
      else
        (f_P_throwOne N x3 a).bind fun q2 =>
          f_P_replay_7 N n x1 (x3 + 1) q2.2
def f_P_replay (N : Nat) (p1 : Int32) (p2 : Int32) (a : aT) : Option (Unit × aT) :=
  (f_P_begin N p2 a).bind fun q1 =>
    f_P_replay_7 N N p1 0 q1.2
set_option maxHeartbeats 4000000 in
set_option maxRecDepth 100000 in
theorem x_P_replay_7 (E : eT) (N : Nat) : ∀ (n : Nat) (x1 : Int32) (x3 : Int32) (a : aT), XI qV E md_P_replay 7 [.ref 14, .int x1, .null, .int x3] [] a (f_P_replay_7 N n x1 x3 a)
  | 0, _, _, _ => XI_no rfl
  | n + 1, x1, x3, a => by
    refine XI_br (c := x1 ≤ x3) (t := 29) (e := 12) (ls' := [.ref 14, .int x1, .null, .int x3]) (st' := []) (a' := a) [(.iload_n 3, 1, 3, .null), (.iload_n 1, 1, 1, .null), (.if_icmp .ge 20, 3, 29, .null)] (by decide +kernel) rfl ?_ ?_
    · exact XI_retV (by decide +kernel)
    · refine XI_br (c := 20 ≤ x3) (t := 29) (e := 18) (ls' := [.ref 14, .int x1, .null, .int x3]) (st' := []) (a' := a) [(.iload_n 3, 1, 3, .null), (.bipush 20, 2, 0, .int 20), (.if_icmp .ge 14, 3, 29, .null)] (by decide +kernel) rfl ?_ ?_
      · exact XI_retV (by decide +kernel)
      · refine XI_go (pc' := 20) (ls' := [.ref 14, .int x1, .null, .int x3]) (st' := [.int x3, .ref 14]) (a' := a) [(.aload_n 0, 1, 0, .null), (.iload_n 3, 1, 3, .null)] (by decide +kernel) rfl ?_
        refine XI_VI (As := [.int x3]) (rest := []) (b := 14) (idx := 79) (by decide +kernel) ok_P_throwOne mv_P_throwOne (n := 1) ⟨lk_P_79, by decide +kernel⟩ rfl rfl rfl rfl (Nat.le_of_ble_eq_true rfl) (Nat.le_of_ble_eq_true rfl) (qV_h rfl) (x_P_throwOne E N x3 a) (fun q2 => ?_)
        refine XI_go (pc' := 7) (ls' := [.ref 14, .int x1, .null, .int (x3 + 1)]) (st' := []) (a' := q2.2) [(.iinc 3 1, 3, 3, .int 1), (.goto (-19), 3, 7, .null)] (by decide +kernel) rfl ?_
        refine XI_fg [true, true, false, true] ?_
        exact x_P_replay_7 E N n x1 (x3 + 1) q2.2
set_option maxHeartbeats 4000000 in
set_option maxRecDepth 100000 in
theorem x_P_replay (E : eT) (N : Nat) (p1 : Int32) (p2 : Int32) (a : aT) : XI qV E md_P_replay 0 [.ref 14, .int p1, .int p2, .null] [] a (f_P_replay N p1 p2 a) := by
  refine XI_go (pc' := 2) (ls' := [.ref 14, .int p1, .int p2, .null]) (st' := [.int p2, .ref 14]) (a' := a) [(.aload_n 0, 1, 0, .null), (.iload_n 2, 1, 2, .null)] (by decide +kernel) rfl ?_
  refine XI_VI (As := [.int p2]) (rest := []) (b := 14) (idx := 75) (by decide +kernel) ok_P_begin mv_P_begin (n := 1) ⟨lk_P_75, by decide +kernel⟩ rfl rfl rfl rfl (Nat.le_of_ble_eq_true rfl) (Nat.le_of_ble_eq_true rfl) (qV_h rfl) (x_P_begin E N p2 a) (fun q1 => ?_)
  refine XI_go (pc' := 7) (ls' := [.ref 14, .int p1, .int p2, .int 0]) (st' := []) (a' := q1.2) [(.iconst 0, 1, 0, .int 0), (.istore_n 3, 1, 3, .null)] (by decide +kernel) rfl ?_
  refine XI_fg [true, true, false, true] ?_
  exact x_P_replay_7 E N N p1 0 q1.2
/-! ChestnutSticks$Play.replayAll()V -/
def md_P_replayAll : md_T := (yX1_replayAll, cX1_replayAll, 1, none, 5, 122)
set_option maxRecDepth 100000 in
theorem ok_P_replayAll : m_ok md_P_replayAll := ⟨List.mem_of_getElem? (i := 441) (by decide +kernel), by decide +kernel, List.mem_of_getElem? (i := 59) (by decide +kernel), by decide +kernel⟩
theorem mv_P_replayAll : Cond.instanceMethod (m_y md_P_replayAll) ∈ lw_tbl ∧ Cond.selects (m_y md_P_replayAll).cls (m_y md_P_replayAll) (m_y md_P_replayAll) ∈ lw_tbl := ⟨List.mem_of_getElem? (i := 439) (by decide +kernel), List.mem_of_getElem? (i := 440) (by decide +kernel)⟩
def f_P_replayAll (N : Nat) (a : aT) : Option (Unit × aT) :=
  (f_P_replay N (f_O_size a) (f_R_seedNow a) a).bind fun q3 =>
    some ((), q3.2)
set_option maxHeartbeats 4000000 in
set_option maxRecDepth 100000 in
theorem x_P_replayAll (E : eT) (N : Nat) (a : aT) : XI qV E md_P_replayAll 0 [.ref 14] [] a (f_P_replayAll N a) := by
  refine XI_go (pc' := 5) (ls' := [.ref 14]) (st' := [.ref 10, .ref 14]) (a' := a) [(.aload_n 0, 1, 0, .null), (.aload_n 0, 1, 0, .null), (.getfield 56, 3, 104, .null)] (by decide +kernel) rfl ?_
  refine XI_VT (As := []) (rest := [.ref 14]) (b := 10) (idx := 60) (by decide +kernel) ok_O_size mv_O_size (n := 0) ⟨lk_P_60, by decide +kernel⟩ rfl rfl rfl rfl (Nat.le_of_ble_eq_true rfl) (Nat.le_of_ble_eq_true rfl) (qI_h rfl) (x_O_size E a) ?_
  refine XI_go (pc' := 12) (ls' := [.ref 14]) (st' := [.ref 6, .int (f_O_size a), .ref 14]) (a' := a) [(.aload_n 0, 1, 0, .null), (.getfield 48, 3, 102, .null)] (by decide +kernel) rfl ?_
  refine XI_VT (As := []) (rest := [.int (f_O_size a), .ref 14]) (b := 6) (idx := 66) (by decide +kernel) ok_R_seedNow mv_R_seedNow (n := 0) ⟨lk_P_66, by decide +kernel⟩ rfl rfl rfl rfl (Nat.le_of_ble_eq_true rfl) (Nat.le_of_ble_eq_true rfl) (qI_h rfl) (x_R_seedNow E a) ?_
  refine XI_VI (As := [.int (f_O_size a), .int (f_R_seedNow a)]) (rest := []) (b := 14) (idx := 71) (by decide +kernel) ok_P_replay mv_P_replay (n := 2) ⟨lk_P_71, by decide +kernel⟩ rfl rfl rfl rfl (Nat.le_of_ble_eq_true rfl) (Nat.le_of_ble_eq_true rfl) (qV_h rfl) (x_P_replay E N (f_O_size a) (f_R_seedNow a) a) (fun q3 => ?_)
  exact XI_retV (by decide +kernel)
/-! ChestnutSticks$Play.firstNotDone()I -/
def md_P_firstNotDone : md_T := (yX1_firstNotDone, cX1_firstNotDone, 1, (some .int), 0, 0)
set_option maxRecDepth 100000 in
theorem ok_P_firstNotDone : m_ok md_P_firstNotDone := ⟨List.mem_of_getElem? (i := 545) (by decide +kernel), by decide +kernel, List.mem_of_getElem? (i := 59) (by decide +kernel), by decide +kernel⟩
theorem mv_P_firstNotDone : Cond.instanceMethod (m_y md_P_firstNotDone) ∈ lw_tbl ∧ Cond.selects (m_y md_P_firstNotDone).cls (m_y md_P_firstNotDone) (m_y md_P_firstNotDone) ∈ lw_tbl := ⟨List.mem_of_getElem? (i := 543) (by decide +kernel), List.mem_of_getElem? (i := 544) (by decide +kernel)⟩
def f_P_firstNotDone (a : aT) : Int32 :=
  (a 14 13)
set_option maxHeartbeats 4000000 in
set_option maxRecDepth 100000 in
theorem x_P_firstNotDone (E : eT) (a : aT) : XT qI E md_P_firstNotDone 0 [.ref 14] [] a (f_P_firstNotDone a) := by
  refine XT_go (pc' := 4) (ls' := [.ref 14]) (st' := [.int (a 14 13)]) (a' := a) [(.aload_n 0, 1, 0, .null), (.getfield 37, 3, 113, .null)] (by decide +kernel) rfl ?_
  exact XT_retI (by decide +kernel)
/-! ChestnutSticks.judged()I -/
def md_C_judged : md_T := (yX10_judged, cX10_judged, 1, (some .int), 6, 142)
set_option maxRecDepth 100000 in
theorem ok_C_judged : m_ok md_C_judged := ⟨List.mem_of_getElem? (i := 437) (by decide +kernel), by decide +kernel, List.mem_of_getElem? (i := 53) (by decide +kernel), by decide +kernel⟩
theorem mv_C_judged : Cond.instanceMethod (m_y md_C_judged) ∈ lw_tbl ∧ Cond.selects (m_y md_C_judged).cls (m_y md_C_judged) (m_y md_C_judged) ∈ lw_tbl := ⟨List.mem_of_getElem? (i := 435) (by decide +kernel), List.mem_of_getElem? (i := 436) (by decide +kernel)⟩
def f_C_judged (N : Nat) (a : aT) : Option (Int32 × aT) :=
  (f_P_replayAll N a).bind fun q1 =>
    some ((f_P_firstNotDone q1.2), q1.2)
set_option maxHeartbeats 4000000 in
set_option maxRecDepth 100000 in
theorem x_C_judged (E : eT) (N : Nat) (a : aT) : XI qI E md_C_judged 0 [.ref 0] [] a (f_C_judged N a) := by
  refine XI_go (pc' := 4) (ls' := [.ref 0]) (st' := [.ref 14]) (a' := a) [(.aload_n 0, 1, 0, .null), (.getfield 49, 3, 1005, .null)] (by decide +kernel) rfl ?_
  refine XI_VI (As := []) (rest := []) (b := 14) (idx := 135) (by decide +kernel) ok_P_replayAll mv_P_replayAll (n := 0) ⟨lk_C_135, by decide +kernel⟩ rfl rfl rfl rfl (Nat.le_of_ble_eq_true rfl) (Nat.le_of_ble_eq_true rfl) (qV_h rfl) (x_P_replayAll E N a) (fun q1 => ?_)
  refine XI_go (pc' := 11) (ls' := [.ref 0]) (st' := [.ref 14]) (a' := q1.2) [(.aload_n 0, 1, 0, .null), (.getfield 49, 3, 1005, .null)] (by decide +kernel) rfl ?_
  refine XI_VT (As := []) (rest := []) (b := 14) (idx := 138) (by decide +kernel) ok_P_firstNotDone mv_P_firstNotDone (n := 0) ⟨lk_C_138, by decide +kernel⟩ rfl rfl rfl rfl (Nat.le_of_ble_eq_true rfl) (Nat.le_of_ble_eq_true rfl) (qI_h rfl) (x_P_firstNotDone E q1.2) ?_
  exact XI_retI (by decide +kernel)
/-! ChestnutSticksModel.isCell(I)Z -/
def md_M_isCell : md_T := (yX11_isCell, cX11_isCell, 2, (some .boolean), 1, 25)
set_option maxRecDepth 100000 in
theorem ok_M_isCell : m_ok md_M_isCell := ⟨List.mem_of_getElem? (i := 1119) (by decide +kernel), by decide +kernel, List.mem_of_getElem? (i := 64) (by decide +kernel), by decide +kernel⟩
theorem mv_M_isCell : Cond.instanceMethod (m_y md_M_isCell) ∈ lw_tbl ∧ Cond.selects (m_y md_M_isCell).cls (m_y md_M_isCell) (m_y md_M_isCell) ∈ lw_tbl := ⟨List.mem_of_getElem? (i := 1118) (by decide +kernel), List.mem_of_getElem? (i := 25) (by decide +kernel)⟩
def f_M_isCell (p1 : Int32) (a : aT) : Option Int32 :=
  if (f_M_in p1.toInt64 0 47) = 0 then
    some 0
  else
    if inb p1 48 then
      if (a 37 (ix p1)) = 0 then
        some 0
      else
        some 1
    else none
set_option maxHeartbeats 4000000 in
set_option maxRecDepth 100000 in
theorem x_M_isCell (E : eT) (p1 : Int32) (a : aT) : XP qZ E md_M_isCell 0 [.ref 31, .int p1] [] a (f_M_isCell p1 a) := by
  refine XP_go (pc' := 6) (ls' := [.ref 31, .int p1]) (st' := [.long 47, .long 0, .long p1.toInt64]) (a' := a) [(.iload_n 1, 1, 1, .null), (.i2l, 1, 0, .null), (.lconst 0, 1, 0, .long 0), (.ldc2_w 131, 3, 0, .long 47)] (by decide +kernel) rfl ?_
  refine XP_ST (As := [.long p1.toInt64, .long 0, .long 47]) (rest := []) (idx := 74) (by decide +kernel) ok_M_in mv_M_in (n := 3) ⟨lk_M_74, by decide +kernel⟩ rfl (Nat.le_of_ble_eq_true rfl) (Nat.le_of_ble_eq_true rfl) (qZ_h rfl) (x_M_in E p1.toInt64 0 47 a) ?_
  refine XP_br (c := (f_M_in p1.toInt64 0 47) = 0) (t := 25) (e := 12) (ls' := [.ref 31, .int p1]) (st' := []) (a' := a) [(.ifCond .eq 16, 3, 25, .null)] (by decide +kernel) rfl ?_ ?_
  · refine XP_go (pc' := 26) (ls' := [.ref 31, .int p1]) (st' := [.int 0]) (a' := a) [(.iconst 0, 1, 0, .int 0)] (by decide +kernel) rfl ?_
    exact XP_retZ (by decide +kernel) rfl
  · refine XP_ck (c := inb p1 48) (pc' := 18) (ls' := [.ref 31, .int p1]) (st' := [.int (a 37 (ix p1))]) (a' := a) [(.aload_n 0, 1, 0, .null), (.getfield 25, 3, 1108, .null), (.iload_n 1, 1, 1, .null), (.baload, 1, 0, .null)] (by decide +kernel) rfl ?_
    refine XP_br (c := (a 37 (ix p1)) = 0) (t := 25) (e := 21) (ls' := [.ref 31, .int p1]) (st' := []) (a' := a) [(.ifCond .eq 7, 3, 25, .null)] (by decide +kernel) rfl ?_ ?_
    · refine XP_go (pc' := 26) (ls' := [.ref 31, .int p1]) (st' := [.int 0]) (a' := a) [(.iconst 0, 1, 0, .int 0)] (by decide +kernel) rfl ?_
      exact XP_retZ (by decide +kernel) rfl
    · refine XP_go (pc' := 26) (ls' := [.ref 31, .int p1]) (st' := [.int 1]) (a' := a) [(.iconst 1, 1, 0, .int 1), (.goto 4, 3, 26, .null)] (by decide +kernel) rfl ?_
      exact XP_retZ (by decide +kernel) rfl
/-! ChestnutSticksModel.lot()I -/
def md_M_lot : md_T := (yX11_lot, cX11_lot, 1, (some .int), 0, 0)
set_option maxRecDepth 100000 in
theorem ok_M_lot : m_ok md_M_lot := ⟨List.mem_of_getElem? (i := 1127) (by decide +kernel), by decide +kernel, List.mem_of_getElem? (i := 64) (by decide +kernel), by decide +kernel⟩
theorem mv_M_lot : Cond.instanceMethod (m_y md_M_lot) ∈ lw_tbl ∧ Cond.selects (m_y md_M_lot).cls (m_y md_M_lot) (m_y md_M_lot) ∈ lw_tbl := ⟨List.mem_of_getElem? (i := 1126) (by decide +kernel), List.mem_of_getElem? (i := 27) (by decide +kernel)⟩
def f_M_lot (a : aT) : Option (Int32 × aT) :=
  some ((i_rem (i_ushr ((1103515245 * (a 31 24)) + 12345) 16) 16), (upA a 31 24 ((1103515245 * (a 31 24)) + 12345)))
set_option maxHeartbeats 4000000 in
set_option maxRecDepth 100000 in
theorem x_M_lot (E : eT) (a : aT) : XI qI E md_M_lot 0 [.ref 31] [] a (f_M_lot a) := by
  refine XI_go (pc' := 25) (ls' := [.ref 31]) (st' := [.int (i_rem (i_ushr ((1103515245 * (a 31 24)) + 12345) 16) 16)]) (a' := (upA a 31 24 ((1103515245 * (a 31 24)) + 12345))) [(.aload_n 0, 1, 0, .null), (.ldc 159, 2, 0, .int 1103515245), (.aload_n 0, 1, 0, .null), (.getfield 160, 3, 1124, .null), (.imul, 1, 0, .null), (.sipush 12345, 3, 0, .int 12345), (.iadd, 1, 0, .null), (.putfield 160, 3, 1124, .int 0), (.aload_n 0, 1, 0, .null), (.getfield 160, 3, 1124, .null), (.bipush 16, 2, 0, .int 16), (.iushr, 1, 0, .null), (.bipush 16, 2, 0, .int 16), (.irem, 1, 0, .null)] (by decide +kernel) rfl ?_
  exact XI_retI (by decide +kernel)
/-! ChestnutSticksModel.strikes(IIII)Z -/
def md_M_strikes : md_T := (yX11_strikes, cX11_strikes, 5, (some .boolean), 1, 25)
set_option maxRecDepth 100000 in
theorem ok_M_strikes : m_ok md_M_strikes := ⟨List.mem_of_getElem? (i := 1132) (by decide +kernel), by decide +kernel, List.mem_of_getElem? (i := 64) (by decide +kernel), by decide +kernel⟩
theorem mv_M_strikes : Cond.instanceMethod (m_y md_M_strikes) ∈ lw_tbl ∧ Cond.selects (m_y md_M_strikes).cls (m_y md_M_strikes) (m_y md_M_strikes) ∈ lw_tbl := ⟨List.mem_of_getElem? (i := 1131) (by decide +kernel), List.mem_of_getElem? (i := 28) (by decide +kernel)⟩
def f_M_strikes (p1 : Int32) (p2 : Int32) (p3 : Int32) (p4 : Int32) (a : aT) : Option Int32 :=
  if (p4 / 8) = p2 then
    if inb p1 4 then
      if (f_M_in (i_rem p4 8).toInt64 p3.toInt64 ((p3 + (a 40 (ix p1))) - 1).toInt64) = 0 then
        some 0
      else
        some 1
    else none
  else
    some 0
set_option maxHeartbeats 4000000 in
set_option maxRecDepth 100000 in
theorem x_M_strikes (E : eT) (p1 : Int32) (p2 : Int32) (p3 : Int32) (p4 : Int32) (a : aT) : XP qZ E md_M_strikes 0 [.ref 31, .int p1, .int p2, .int p3, .int p4] [] a (f_M_strikes p1 p2 p3 p4 a) := by
  refine XP_br (c := (p4 / 8) = p2) (t := 9) (e := 38) (ls' := [.ref 31, .int p1, .int p2, .int p3, .int p4]) (st' := []) (a' := a) [(.iload 4, 2, 4, .null), (.bipush 8, 2, 0, .int 8), (.idiv, 1, 0, .null), (.iload_n 2, 1, 2, .null), (.if_icmp .ne 32, 3, 38, .null)] (by decide +kernel) rfl ?_ ?_
  · refine XP_ck (c := inb p1 4) (pc' := 24) (ls' := [.ref 31, .int p1, .int p2, .int p3, .int p4]) (st' := [.int (a 40 (ix p1)), .int p3, .long p3.toInt64, .long (i_rem p4 8).toInt64]) (a' := a) [(.iload 4, 2, 4, .null), (.bipush 8, 2, 0, .int 8), (.irem, 1, 0, .null), (.i2l, 1, 0, .null), (.iload_n 3, 1, 3, .null), (.i2l, 1, 0, .null), (.iload_n 3, 1, 3, .null), (.aload_n 0, 1, 0, .null), (.getfield 35, 3, 1113, .null), (.iload_n 1, 1, 1, .null), (.iaload, 1, 0, .null)] (by decide +kernel) rfl ?_
    refine XP_go (pc' := 28) (ls' := [.ref 31, .int p1, .int p2, .int p3, .int p4]) (st' := [.long ((p3 + (a 40 (ix p1))) - 1).toInt64, .long p3.toInt64, .long (i_rem p4 8).toInt64]) (a' := a) [(.iadd, 1, 0, .null), (.iconst 1, 1, 0, .int 1), (.isub, 1, 0, .null), (.i2l, 1, 0, .null)] (by decide +kernel) rfl ?_
    refine XP_ST (As := [.long (i_rem p4 8).toInt64, .long p3.toInt64, .long ((p3 + (a 40 (ix p1))) - 1).toInt64]) (rest := []) (idx := 74) (by decide +kernel) ok_M_in mv_M_in (n := 3) ⟨lk_M_74, by decide +kernel⟩ rfl (Nat.le_of_ble_eq_true rfl) (Nat.le_of_ble_eq_true rfl) (qZ_h rfl) (x_M_in E (i_rem p4 8).toInt64 p3.toInt64 ((p3 + (a 40 (ix p1))) - 1).toInt64 a) ?_
    refine XP_br (c := (f_M_in (i_rem p4 8).toInt64 p3.toInt64 ((p3 + (a 40 (ix p1))) - 1).toInt64) = 0) (t := 38) (e := 34) (ls' := [.ref 31, .int p1, .int p2, .int p3, .int p4]) (st' := []) (a' := a) [(.ifCond .eq 7, 3, 38, .null)] (by decide +kernel) rfl ?_ ?_
    · refine XP_go (pc' := 39) (ls' := [.ref 31, .int p1, .int p2, .int p3, .int p4]) (st' := [.int 0]) (a' := a) [(.iconst 0, 1, 0, .int 0)] (by decide +kernel) rfl ?_
      exact XP_retZ (by decide +kernel) rfl
    · refine XP_go (pc' := 39) (ls' := [.ref 31, .int p1, .int p2, .int p3, .int p4]) (st' := [.int 1]) (a' := a) [(.iconst 1, 1, 0, .int 1), (.goto 4, 3, 39, .null)] (by decide +kernel) rfl ?_
      exact XP_retZ (by decide +kernel) rfl
  · refine XP_go (pc' := 39) (ls' := [.ref 31, .int p1, .int p2, .int p3, .int p4]) (st' := [.int 0]) (a' := a) [(.iconst 0, 1, 0, .int 0)] (by decide +kernel) rfl ?_
    exact XP_retZ (by decide +kernel) rfl
/-! ChestnutSticksModel.greater(II)I -/
def md_M_greater : md_T := (yX11_greater, cX11_greater, 2, (some .int), 0, 0)
set_option maxRecDepth 100000 in
theorem ok_M_greater : m_ok md_M_greater := ⟨List.mem_of_getElem? (i := 1142) (by decide +kernel), by decide +kernel, List.mem_of_getElem? (i := 64) (by decide +kernel), by decide +kernel⟩
theorem mv_M_greater : Cond.static (m_y md_M_greater) ∈ lw_tbl := List.mem_of_getElem? (i := 1141) (by decide +kernel)
def f_M_greater (p1 : Int32) (p2 : Int32) : Int32 :=
  if p1 ≤ p2 then
    p2
  else
    p1
set_option maxHeartbeats 4000000 in
set_option maxRecDepth 100000 in
theorem x_M_greater (E : eT) (p1 : Int32) (p2 : Int32) (a : aT) : XT qI E md_M_greater 0 [.int p1, .int p2] [] a (f_M_greater p1 p2) := by
  refine XT_br (c := p1 ≤ p2) (t := 9) (e := 5) (ls' := [.int p1, .int p2]) (st' := []) (a' := a) [(.iload_n 0, 1, 0, .null), (.iload_n 1, 1, 1, .null), (.if_icmp .le 7, 3, 9, .null)] (by decide +kernel) rfl ?_ ?_
  · refine XT_go (pc' := 10) (ls' := [.int p1, .int p2]) (st' := [.int p2]) (a' := a) [(.iload_n 1, 1, 1, .null)] (by decide +kernel) rfl ?_
    exact XT_retI (by decide +kernel)
  · refine XT_go (pc' := 10) (ls' := [.int p1, .int p2]) (st' := [.int p1]) (a' := a) [(.iload_n 0, 1, 0, .null), (.goto 4, 3, 10, .null)] (by decide +kernel) rfl ?_
    exact XT_retI (by decide +kernel)
/-! ChestnutSticksModel.hangsIn(II)I -/
def md_M_hangsIn : md_T := (yX11_hangsIn, cX11_hangsIn, 2, (some .int), 1, 21)
set_option maxRecDepth 100000 in
theorem ok_M_hangsIn : m_ok md_M_hangsIn := ⟨List.mem_of_getElem? (i := 1139) (by decide +kernel), by decide +kernel, List.mem_of_getElem? (i := 64) (by decide +kernel), by decide +kernel⟩
theorem mv_M_hangsIn : Cond.static (m_y md_M_hangsIn) ∈ lw_tbl := List.mem_of_getElem? (i := 1138) (by decide +kernel)
def f_M_hangsIn (p1 : Int32) (p2 : Int32) : Int32 :=
  (f_M_greater (p1 - (p2 / 3)) 0)
set_option maxHeartbeats 4000000 in
set_option maxRecDepth 100000 in
theorem x_M_hangsIn (E : eT) (p1 : Int32) (p2 : Int32) (a : aT) : XT qI E md_M_hangsIn 0 [.int p1, .int p2] [] a (f_M_hangsIn p1 p2) := by
  refine XT_go (pc' := 6) (ls' := [.int p1, .int p2]) (st' := [.int 0, .int (p1 - (p2 / 3))]) (a' := a) [(.iload_n 0, 1, 0, .null), (.iload_n 1, 1, 1, .null), (.iconst 3, 1, 0, .int 3), (.idiv, 1, 0, .null), (.isub, 1, 0, .null), (.iconst 0, 1, 0, .int 0)] (by decide +kernel) rfl ?_
  refine XT_ST (As := [.int (p1 - (p2 / 3)), .int 0]) (rest := []) (idx := 153) (by decide +kernel) ok_M_greater mv_M_greater (n := 2) ⟨lk_M_153, by decide +kernel⟩ rfl (Nat.le_of_ble_eq_true rfl) (Nat.le_of_ble_eq_true rfl) (qI_h rfl) (x_M_greater E (p1 - (p2 / 3)) 0 a) ?_
  exact XT_retI (by decide +kernel)
/-! ChestnutSticksModel.hangsNow(I)I -/
def md_M_hangsNow : md_T := (yX11_hangsNow, cX11_hangsNow, 2, (some .int), 2, 42)
set_option maxRecDepth 100000 in
theorem ok_M_hangsNow : m_ok md_M_hangsNow := ⟨List.mem_of_getElem? (i := 1136) (by decide +kernel), by decide +kernel, List.mem_of_getElem? (i := 64) (by decide +kernel), by decide +kernel⟩
theorem mv_M_hangsNow : Cond.instanceMethod (m_y md_M_hangsNow) ∈ lw_tbl ∧ Cond.selects (m_y md_M_hangsNow).cls (m_y md_M_hangsNow) (m_y md_M_hangsNow) ∈ lw_tbl := ⟨List.mem_of_getElem? (i := 1135) (by decide +kernel), List.mem_of_getElem? (i := 29) (by decide +kernel)⟩
def f_M_hangsNow (p1 : Int32) (a : aT) : Option Int32 :=
  if inb p1 48 then
    some (f_M_hangsIn (a 38 (ix p1)) (a 42 1))
  else none
set_option maxHeartbeats 4000000 in
set_option maxRecDepth 100000 in
theorem x_M_hangsNow (E : eT) (p1 : Int32) (a : aT) : XP qI E md_M_hangsNow 0 [.ref 31, .int p1] [] a (f_M_hangsNow p1 a) := by
  refine XP_ck (c := inb p1 48) (pc' := 6) (ls' := [.ref 31, .int p1]) (st' := [.int (a 38 (ix p1))]) (a' := a) [(.aload_n 0, 1, 0, .null), (.getfield 29, 3, 1109, .null), (.iload_n 1, 1, 1, .null), (.iaload, 1, 0, .null)] (by decide +kernel) rfl ?_
  refine XP_go (pc' := 12) (ls' := [.ref 31, .int p1]) (st' := [.int (a 42 1), .int (a 38 (ix p1))]) (a' := a) [(.aload_n 0, 1, 0, .null), (.getfield 41, 3, 1115, .null), (.iconst 1, 1, 0, .int 1), (.iaload, 1, 0, .null)] (by decide +kernel) rfl ?_
  refine XP_ST (As := [.int (a 38 (ix p1)), .int (a 42 1)]) (rest := []) (idx := 156) (by decide +kernel) ok_M_hangsIn mv_M_hangsIn (n := 2) ⟨lk_M_156, by decide +kernel⟩ rfl (Nat.le_of_ble_eq_true rfl) (Nat.le_of_ble_eq_true rfl) (qI_h rfl) (x_M_hangsIn E (a 38 (ix p1)) (a 42 1) a) ?_
  exact XP_retI (by decide +kernel)
/-! ChestnutSticksModel.apart(II)I -/
def md_M_apart : md_T := (yX11_apart, cX11_apart, 2, (some .int), 0, 0)
set_option maxRecDepth 100000 in
theorem ok_M_apart : m_ok md_M_apart := ⟨List.mem_of_getElem? (i := 1153) (by decide +kernel), by decide +kernel, List.mem_of_getElem? (i := 64) (by decide +kernel), by decide +kernel⟩
theorem mv_M_apart : Cond.static (m_y md_M_apart) ∈ lw_tbl := List.mem_of_getElem? (i := 1152) (by decide +kernel)
def f_M_apart (p1 : Int32) (p2 : Int32) : Int32 :=
  if p1 ≤ p2 then
    (p2 - p1)
  else
    (p1 - p2)
set_option maxHeartbeats 4000000 in
set_option maxRecDepth 100000 in
theorem x_M_apart (E : eT) (p1 : Int32) (p2 : Int32) (a : aT) : XT qI E md_M_apart 0 [.int p1, .int p2] [] a (f_M_apart p1 p2) := by
  refine XT_br (c := p1 ≤ p2) (t := 11) (e := 5) (ls' := [.int p1, .int p2]) (st' := []) (a' := a) [(.iload_n 0, 1, 0, .null), (.iload_n 1, 1, 1, .null), (.if_icmp .le 9, 3, 11, .null)] (by decide +kernel) rfl ?_ ?_
  · refine XT_go (pc' := 14) (ls' := [.int p1, .int p2]) (st' := [.int (p2 - p1)]) (a' := a) [(.iload_n 1, 1, 1, .null), (.iload_n 0, 1, 0, .null), (.isub, 1, 0, .null)] (by decide +kernel) rfl ?_
    exact XT_retI (by decide +kernel)
  · refine XT_go (pc' := 14) (ls' := [.int p1, .int p2]) (st' := [.int (p1 - p2)]) (a' := a) [(.iload_n 0, 1, 0, .null), (.iload_n 1, 1, 1, .null), (.isub, 1, 0, .null), (.goto 6, 3, 14, .null)] (by decide +kernel) rfl ?_
    exact XT_retI (by decide +kernel)
/-! ChestnutSticksModel.whose(II)I -/
def md_M_whose : md_T := (yX11_whose, cX11_whose, 5, (some .int), 1, 21)
set_option maxRecDepth 100000 in
theorem ok_M_whose : m_ok md_M_whose := ⟨List.mem_of_getElem? (i := 1150) (by decide +kernel), by decide +kernel, List.mem_of_getElem? (i := 64) (by decide +kernel), by decide +kernel⟩
theorem mv_M_whose : Cond.instanceMethod (m_y md_M_whose) ∈ lw_tbl ∧ Cond.selects (m_y md_M_whose).cls (m_y md_M_whose) (m_y md_M_whose) ∈ lw_tbl := ⟨List.mem_of_getElem? (i := 1149) (by decide +kernel), List.mem_of_getElem? (i := 31) (by decide +kernel)⟩
def f_M_whose_17 (N : Nat) (a : aT) : Nat → Int32 → Int32 → Int32 → Option Int32
  | 0 => fun _ _ _ => none
  | n + 1 => fun x2 x3 x4 =>
    if 4 ≤ x4 then
      some x3
    else
      if inb x4 4 then
        if inb x3 4 then
          if (f_M_apart (a 43 (ix x3)) x2) ≤ (f_M_apart (a 43 (ix x4)) x2) then
            f_M_whose_17 N a n x2 x3 (x4 + 1)
          else
            f_M_whose_17 N a n x2 x4 (x4 + 1)
        else none
      else none
def f_M_whose (N : Nat) (p1 : Int32) (p2 : Int32) (a : aT) : Option Int32 :=
  if (a 42 3) = 1 then
    f_M_whose_17 N a N p2 0 1
  else
    some p1
set_option maxHeartbeats 4000000 in
set_option maxRecDepth 100000 in
theorem x_M_whose_17 (E : eT) (N : Nat) (a : aT) : ∀ (n : Nat) (x2 : Int32) (x3 : Int32) (x4 : Int32), XP qI E md_M_whose 17 [.ref 31, .null, .int x2, .int x3, .int x4] [] a (f_M_whose_17 N a n x2 x3 x4)
  | 0, _, _, _ => XP_no rfl
  | n + 1, x2, x3, x4 => by
    refine XP_br (c := 4 ≤ x4) (t := 60) (e := 23) (ls' := [.ref 31, .null, .int x2, .int x3, .int x4]) (st' := []) (a' := a) [(.iload 4, 2, 4, .null), (.iconst 4, 1, 0, .int 4), (.if_icmp .ge 40, 3, 60, .null)] (by decide +kernel) rfl ?_ ?_
    · refine XP_go (pc' := 61) (ls' := [.ref 31, .null, .int x2, .int x3, .int x4]) (st' := [.int x3]) (a' := a) [(.iload_n 3, 1, 3, .null)] (by decide +kernel) rfl ?_
      exact XP_retI (by decide +kernel)
    · refine XP_ck (c := inb x4 4) (pc' := 30) (ls' := [.ref 31, .null, .int x2, .int x3, .int x4]) (st' := [.int (a 43 (ix x4))]) (a' := a) [(.aload_n 0, 1, 0, .null), (.getfield 44, 3, 1117, .null), (.iload 4, 2, 4, .null), (.iaload, 1, 0, .null)] (by decide +kernel) rfl ?_
      refine XP_go (pc' := 31) (ls' := [.ref 31, .null, .int x2, .int x3, .int x4]) (st' := [.int x2, .int (a 43 (ix x4))]) (a' := a) [(.iload_n 2, 1, 2, .null)] (by decide +kernel) rfl ?_
      refine XP_ST (As := [.int (a 43 (ix x4)), .int x2]) (rest := []) (idx := 163) (by decide +kernel) ok_M_apart mv_M_apart (n := 2) ⟨lk_M_163, by decide +kernel⟩ rfl (Nat.le_of_ble_eq_true rfl) (Nat.le_of_ble_eq_true rfl) (qI_h rfl) (x_M_apart E (a 43 (ix x4)) x2 a) ?_
      refine XP_ck (c := inb x3 4) (pc' := 40) (ls' := [.ref 31, .null, .int x2, .int x3, .int x4]) (st' := [.int (a 43 (ix x3)), .int (f_M_apart (a 43 (ix x4)) x2)]) (a' := a) [(.aload_n 0, 1, 0, .null), (.getfield 44, 3, 1117, .null), (.iload_n 3, 1, 3, .null), (.iaload, 1, 0, .null)] (by decide +kernel) rfl ?_
      refine XP_go (pc' := 41) (ls' := [.ref 31, .null, .int x2, .int x3, .int x4]) (st' := [.int x2, .int (a 43 (ix x3)), .int (f_M_apart (a 43 (ix x4)) x2)]) (a' := a) [(.iload_n 2, 1, 2, .null)] (by decide +kernel) rfl ?_
      refine XP_ST (As := [.int (a 43 (ix x3)), .int x2]) (rest := [.int (f_M_apart (a 43 (ix x4)) x2)]) (idx := 163) (by decide +kernel) ok_M_apart mv_M_apart (n := 2) ⟨lk_M_163, by decide +kernel⟩ rfl (Nat.le_of_ble_eq_true rfl) (Nat.le_of_ble_eq_true rfl) (qI_h rfl) (x_M_apart E (a 43 (ix x3)) x2 a) ?_
      refine XP_br (c := (f_M_apart (a 43 (ix x3)) x2) ≤ (f_M_apart (a 43 (ix x4)) x2)) (t := 52) (e := 47) (ls' := [.ref 31, .null, .int x2, .int x3, .int x4]) (st' := []) (a' := a) [(.if_icmp .ge 8, 3, 52, .null)] (by decide +kernel) rfl ?_ ?_
      · refine XP_go (pc' := 17) (ls' := [.ref 31, .null, .int x2, .int x3, .int (x4 + 1)]) (st' := []) (a' := a) [(.iload_n 3, 1, 3, .null), (.istore_n 3, 1, 3, .null), (.iinc 4 1, 3, 4, .int 1), (.goto (-40), 3, 17, .null)] (by decide +kernel) rfl ?_
        refine XP_fg [true, false, true, true, true] ?_
        exact x_M_whose_17 E N a n x2 x3 (x4 + 1)
      · refine XP_go (pc' := 17) (ls' := [.ref 31, .null, .int x2, .int x4, .int (x4 + 1)]) (st' := []) (a' := a) [(.iload 4, 2, 4, .null), (.goto 4, 3, 53, .null), (.istore_n 3, 1, 3, .null), (.iinc 4 1, 3, 4, .int 1), (.goto (-40), 3, 17, .null)] (by decide +kernel) rfl ?_
        refine XP_fg [true, false, true, true, true] ?_
        exact x_M_whose_17 E N a n x2 x4 (x4 + 1)
set_option maxHeartbeats 4000000 in
set_option maxRecDepth 100000 in
theorem x_M_whose (E : eT) (N : Nat) (p1 : Int32) (p2 : Int32) (a : aT) : XP qI E md_M_whose 0 [.ref 31, .int p1, .int p2, .null, .null] [] a (f_M_whose N p1 p2 a) := by
  refine XP_br (c := (a 42 3) = 1) (t := 12) (e := 60) (ls' := [.ref 31, .int p1, .int p2, .int p1, .null]) (st' := []) (a' := a) [(.iload_n 1, 1, 1, .null), (.istore_n 3, 1, 3, .null), (.aload_n 0, 1, 0, .null), (.getfield 41, 3, 1115, .null), (.iconst 3, 1, 0, .int 3), (.iaload, 1, 0, .null), (.iconst 1, 1, 0, .int 1), (.if_icmp .ne 51, 3, 60, .null)] (by decide +kernel) rfl ?_ ?_
  · refine XP_go (pc' := 17) (ls' := [.ref 31, .int p1, .int p2, .int 0, .int 1]) (st' := []) (a' := a) [(.iconst 0, 1, 0, .int 0), (.istore_n 3, 1, 3, .null), (.iconst 1, 1, 0, .int 1), (.istore 4, 2, 4, .null)] (by decide +kernel) rfl ?_
    refine XP_fg [true, false, true, true, true] ?_
    exact x_M_whose_17 E N a N p2 0 1
  · refine XP_go (pc' := 61) (ls' := [.ref 31, .int p1, .int p2, .int p1, .null]) (st' := [.int p1]) (a' := a) [(.iload_n 3, 1, 3, .null)] (by decide +kernel) rfl ?_
    exact XP_retI (by decide +kernel)
/-! ChestnutSticksModel.falls(II)V -/
def md_M_falls : md_T := (yX11_falls, cX11_falls, 3, none, 3, 63)
set_option maxRecDepth 100000 in
theorem ok_M_falls : m_ok md_M_falls := ⟨List.mem_of_getElem? (i := 1146) (by decide +kernel), by decide +kernel, List.mem_of_getElem? (i := 64) (by decide +kernel), by decide +kernel⟩
theorem mv_M_falls : Cond.instanceMethod (m_y md_M_falls) ∈ lw_tbl ∧ Cond.selects (m_y md_M_falls).cls (m_y md_M_falls) (m_y md_M_falls) ∈ lw_tbl := ⟨List.mem_of_getElem? (i := 1145) (by decide +kernel), List.mem_of_getElem? (i := 30) (by decide +kernel)⟩
def f_M_falls (N : Nat) (p1 : Int32) (p2 : Int32) (a : aT) : Option (Unit × aT) :=
  if inb p2 48 then
    (f_M_hangsNow p2 (upA a 45 (ix p2) 0)).bind fun q1 =>
      if 2 < q1 then
        some ((), (upA (upA a 45 (ix p2) 0) 31 26 ((a 31 26) + 1)))
      else
        (f_M_whose N p1 (i_rem p2 8) (upA (upA a 45 (ix p2) 0) 31 25 ((a 31 25) + 1))).bind fun q2 =>
          if inb q2 4 then
            if inb q2 4 then
              some ((), (upA (upA (upA a 45 (ix p2) 0) 31 25 ((a 31 25) + 1)) 47 (ix q2) ((a 47 (ix q2)) + 1)))
            else none
          else none
  else none
set_option maxHeartbeats 4000000 in
set_option maxRecDepth 100000 in
theorem x_M_falls (E : eT) (N : Nat) (p1 : Int32) (p2 : Int32) (a : aT) : XI qV E md_M_falls 0 [.ref 31, .int p1, .int p2] [] a (f_M_falls N p1 p2 a) := by
  refine XI_ck (c := inb p2 48) (pc' := 7) (ls' := [.ref 31, .int p1, .int p2]) (st' := []) (a' := (upA a 45 (ix p2) 0)) [(.aload_n 0, 1, 0, .null), (.getfield 50, 3, 1120, .null), (.iload_n 2, 1, 2, .null), (.iconst 0, 1, 0, .int 0), (.bastore, 1, 0, .null)] (by decide +kernel) rfl ?_
  refine XI_go (pc' := 9) (ls' := [.ref 31, .int p1, .int p2]) (st' := [.int p2, .ref 31]) (a' := (upA a 45 (ix p2) 0)) [(.aload_n 0, 1, 0, .null), (.iload_n 2, 1, 2, .null)] (by decide +kernel) rfl ?_
  refine XI_VP (As := [.int p2]) (rest := []) (b := 31) (idx := 166) (by decide +kernel) ok_M_hangsNow mv_M_hangsNow (n := 1) ⟨lk_M_166, by decide +kernel⟩ rfl rfl rfl rfl (Nat.le_of_ble_eq_true rfl) (Nat.le_of_ble_eq_true rfl) (qI_h rfl) (x_M_hangsNow E p2 (upA a 45 (ix p2) 0)) (fun q1 => ?_)
  refine XI_br (c := 2 < q1) (t := 47) (e := 16) (ls' := [.ref 31, .int p1, .int p2]) (st' := []) (a' := (upA a 45 (ix p2) 0)) [(.iconst 2, 1, 0, .int 2), (.if_icmp .gt 34, 3, 47, .null)] (by decide +kernel) rfl ?_ ?_
  · refine XI_go (pc' := 57) (ls' := [.ref 31, .int p1, .int p2]) (st' := []) (a' := (upA (upA a 45 (ix p2) 0) 31 26 ((a 31 26) + 1))) [(.aload_n 0, 1, 0, .null), (.dup, 1, 0, .null), (.getfield 175, 3, 1126, .null), (.iconst 1, 1, 0, .int 1), (.iadd, 1, 0, .null), (.putfield 175, 3, 1126, .int 0)] (by decide +kernel) rfl ?_
    exact XI_retV (by decide +kernel)
  · refine XI_go (pc' := 36) (ls' := [.ref 31, .int p1, .int p2]) (st' := [.int (i_rem p2 8), .int p1, .ref 31, .ref 47]) (a' := (upA (upA a 45 (ix p2) 0) 31 25 ((a 31 25) + 1))) [(.aload_n 0, 1, 0, .null), (.dup, 1, 0, .null), (.getfield 169, 3, 1125, .null), (.iconst 1, 1, 0, .int 1), (.iadd, 1, 0, .null), (.putfield 169, 3, 1125, .int 0), (.aload_n 0, 1, 0, .null), (.getfield 56, 3, 1122, .null), (.aload_n 0, 1, 0, .null), (.iload_n 1, 1, 1, .null), (.iload_n 2, 1, 2, .null), (.bipush 8, 2, 0, .int 8), (.irem, 1, 0, .null)] (by decide +kernel) rfl ?_
    refine XI_VP (As := [.int p1, .int (i_rem p2 8)]) (rest := [.ref 47]) (b := 31) (idx := 172) (by decide +kernel) ok_M_whose mv_M_whose (n := 2) ⟨lk_M_172, by decide +kernel⟩ rfl rfl rfl rfl (Nat.le_of_ble_eq_true rfl) (Nat.le_of_ble_eq_true rfl) (qI_h rfl) (x_M_whose E N p1 (i_rem p2 8) (upA (upA a 45 (ix p2) 0) 31 25 ((a 31 25) + 1))) (fun q2 => ?_)
    refine XI_ck (c := inb q2 4) (pc' := 41) (ls' := [.ref 31, .int p1, .int p2]) (st' := [.int (a 47 (ix q2)), .int q2, .ref 47]) (a' := (upA (upA a 45 (ix p2) 0) 31 25 ((a 31 25) + 1))) [(.dup2, 1, 0, .null), (.iaload, 1, 0, .null)] (by decide +kernel) rfl ?_
    refine XI_ck (c := inb q2 4) (pc' := 44) (ls' := [.ref 31, .int p1, .int p2]) (st' := []) (a' := (upA (upA (upA a 45 (ix p2) 0) 31 25 ((a 31 25) + 1)) 47 (ix q2) ((a 47 (ix q2)) + 1))) [(.iconst 1, 1, 0, .int 1), (.iadd, 1, 0, .null), (.iastore, 1, 0, .null)] (by decide +kernel) rfl ?_
    refine XI_go (pc' := 57) (ls' := [.ref 31, .int p1, .int p2]) (st' := []) (a' := (upA (upA (upA a 45 (ix p2) 0) 31 25 ((a 31 25) + 1)) 47 (ix q2) ((a 47 (ix q2)) + 1))) [(.goto 13, 3, 57, .null)] (by decide +kernel) rfl ?_
    exact XI_retV (by decide +kernel)
