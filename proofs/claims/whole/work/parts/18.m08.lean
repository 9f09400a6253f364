/-! ChestnutSticks.worth(II)I -/
def md_C_worth : md_T := (yX10_worth, cX10_worth, 3, (some .int), 6, 142)
set_option maxRecDepth 100000 in
theorem ok_C_worth : m_ok md_C_worth := ⟨List.mem_of_getElem? (i := 611) (by decide +kernel), by decide +kernel, List.mem_of_getElem? (i := 53) (by decide +kernel), by decide +kernel⟩
theorem mv_C_worth : Cond.instanceMethod (m_y md_C_worth) ∈ lw_tbl ∧ Cond.selects (m_y md_C_worth).cls (m_y md_C_worth) (m_y md_C_worth) ∈ lw_tbl := ⟨List.mem_of_getElem? (i := 609) (by decide +kernel), List.mem_of_getElem? (i := 610) (by decide +kernel)⟩
def f_C_worth (N : Nat) (p1 : Int32) (p2 : Int32) (a : aT) : Option (Int32 × aT) :=
  if (f_C_isBelow p1 4) = 0 then
    some ((-1000002), a)
  else
    (f_E_isCell p2 a).bind fun q2 =>
      if q2 = 0 then
        some ((-1000002), a)
      else
        (f_P_replayAll N a).bind fun q3 =>
          (f_P_worthOf N p1 p2 q3.2).bind fun q4 =>
            some (q4, q3.2)
set_option maxHeartbeats 4000000 in
set_option maxRecDepth 100000 in
theorem x_C_worth (E : eT) (N : Nat) (p1 : Int32) (p2 : Int32) (a : aT) : XI qI E md_C_worth 0 [.ref 0, .int p1, .int p2] [] a (f_C_worth N p1 p2 a) := by
  refine XI_go (pc' := 2) (ls' := [.ref 0, .int p1, .int p2]) (st' := [.int 4, .int p1]) (a' := a) [(.iload_n 1, 1, 1, .null), (.iconst 4, 1, 0, .int 4)] (by decide +kernel) rfl ?_
  refine XI_ST (As := [.int p1, .int 4]) (rest := []) (idx := 110) (by decide +kernel) ok_C_isBelow mv_C_isBelow (n := 2) ⟨lk_C_110, by decide +kernel⟩ rfl (Nat.le_of_ble_eq_true rfl) (Nat.le_of_ble_eq_true rfl) (qZ_h rfl) (x_C_isBelow E p1 4 a) ?_
  refine XI_br (c := (f_C_isBelow p1 4) = 0) (t := 19) (e := 8) (ls' := [.ref 0, .int p1, .int p2]) (st' := []) (a' := a) [(.ifCond .eq 14, 3, 19, .null)] (by decide +kernel) rfl ?_ ?_
  · refine XI_go (pc' := 21) (ls' := [.ref 0, .int p1, .int p2]) (st' := [.int (-1000002)]) (a' := a) [(.ldc 187, 2, 0, .int (-1000002))] (by decide +kernel) rfl ?_
    exact XI_retI (by decide +kernel)
  · refine XI_go (pc' := 13) (ls' := [.ref 0, .int p1, .int p2]) (st' := [.int p2, .ref 1]) (a' := a) [(.aload_n 0, 1, 0, .null), (.getfield 10, 3, 1000, .null), (.iload_n 2, 1, 2, .null)] (by decide +kernel) rfl ?_
    refine XI_VP (As := [.int p2]) (rest := []) (b := 1) (idx := 166) (by decide +kernel) ok_E_isCell mv_E_isCell (n := 1) ⟨lk_C_166, by decide +kernel⟩ rfl rfl rfl rfl (Nat.le_of_ble_eq_true rfl) (Nat.le_of_ble_eq_true rfl) (qZ_h rfl) (x_E_isCell E p2 a) (fun q2 => ?_)
    refine XI_br (c := q2 = 0) (t := 19) (e := 22) (ls' := [.ref 0, .int p1, .int p2]) (st' := []) (a' := a) [(.ifCond .ne 6, 3, 22, .null)] (by decide +kernel) rfl ?_ ?_
    · refine XI_go (pc' := 21) (ls' := [.ref 0, .int p1, .int p2]) (st' := [.int (-1000002)]) (a' := a) [(.ldc 187, 2, 0, .int (-1000002))] (by decide +kernel) rfl ?_
      exact XI_retI (by decide +kernel)
    · refine XI_go (pc' := 26) (ls' := [.ref 0, .int p1, .int p2]) (st' := [.ref 14]) (a' := a) [(.aload_n 0, 1, 0, .null), (.getfield 49, 3, 1005, .null)] (by decide +kernel) rfl ?_
      refine XI_VI (As := []) (rest := []) (b := 14) (idx := 135) (by decide +kernel) ok_P_replayAll mv_P_replayAll (n := 0) ⟨lk_C_135, by decide +kernel⟩ rfl rfl rfl rfl (Nat.le_of_ble_eq_true rfl) (Nat.le_of_ble_eq_true rfl) (qV_h rfl) (x_P_replayAll E N a) (fun q3 => ?_)
      refine XI_go (pc' := 35) (ls' := [.ref 0, .int p1, .int p2]) (st' := [.int p2, .int p1, .ref 14]) (a' := q3.2) [(.aload_n 0, 1, 0, .null), (.getfield 49, 3, 1005, .null), (.iload_n 1, 1, 1, .null), (.iload_n 2, 1, 2, .null)] (by decide +kernel) rfl ?_
      refine XI_VP (As := [.int p1, .int p2]) (rest := []) (b := 14) (idx := 188) (by decide +kernel) ok_P_worthOf mv_P_worthOf (n := 2) ⟨lk_C_188, by decide +kernel⟩ rfl rfl rfl rfl (Nat.le_of_ble_eq_true rfl) (Nat.le_of_ble_eq_true rfl) (qI_h rfl) (x_P_worthOf E N p1 p2 q3.2) (fun q4 => ?_)
      exact XI_retI (by decide +kernel)
/-! ChestnutSticksModel.worthOf(II)I -/
def md_M_worthOf : md_T := (yX11_worthOf, cX11_worthOf, 3, (some .int), 5, 117)
set_option maxRecDepth 100000 in
theorem ok_M_worthOf : m_ok md_M_worthOf := ⟨List.mem_of_getElem? (i := 1205) (by decide +kernel), by decide +kernel, List.mem_of_getElem? (i := 64) (by decide +kernel), by decide +kernel⟩
theorem mv_M_worthOf : Cond.instanceMethod (m_y md_M_worthOf) ∈ lw_tbl ∧ Cond.selects (m_y md_M_worthOf).cls (m_y md_M_worthOf) (m_y md_M_worthOf) ∈ lw_tbl := ⟨List.mem_of_getElem? (i := 1204) (by decide +kernel), List.mem_of_getElem? (i := 37) (by decide +kernel)⟩
def f_M_worthOf (N : Nat) (p1 : Int32) (p2 : Int32) (a : aT) : Option Int32 :=
  (f_M_meanOf N p1 p2 1 a).bind fun q1 =>
    (f_M_meanOf N p1 p2 0 a).bind fun q2 =>
      some (q1 - ((a 42 2) * q2))
set_option maxHeartbeats 4000000 in
set_option maxRecDepth 100000 in
theorem x_M_worthOf (E : eT) (N : Nat) (p1 : Int32) (p2 : Int32) (a : aT) : XP qI E md_M_worthOf 0 [.ref 31, .int p1, .int p2] [] a (f_M_worthOf N p1 p2 a) := by
  refine XP_go (pc' := 4) (ls' := [.ref 31, .int p1, .int p2]) (st' := [.int 1, .int p2, .int p1, .ref 31]) (a' := a) [(.aload_n 0, 1, 0, .null), (.iload_n 1, 1, 1, .null), (.iload_n 2, 1, 2, .null), (.iconst 1, 1, 0, .int 1)] (by decide +kernel) rfl ?_
  refine XP_VP (As := [.int p1, .int p2, .int 1]) (rest := []) (b := 31) (idx := 222) (by decide +kernel) ok_M_meanOf mv_M_meanOf (n := 3) ⟨lk_M_222, by decide +kernel⟩ rfl rfl rfl rfl (Nat.le_of_ble_eq_true rfl) (Nat.le_of_ble_eq_true rfl) (qI_h rfl) (x_M_meanOf E N p1 p2 1 a) (fun q1 => ?_)
  refine XP_go (pc' := 17) (ls' := [.ref 31, .int p1, .int p2]) (st' := [.int 0, .int p2, .int p1, .ref 31, .int (a 42 2), .int q1]) (a' := a) [(.aload_n 0, 1, 0, .null), (.getfield 41, 3, 1115, .null), (.iconst 2, 1, 0, .int 2), (.iaload, 1, 0, .null), (.aload_n 0, 1, 0, .null), (.iload_n 1, 1, 1, .null), (.iload_n 2, 1, 2, .null), (.iconst 0, 1, 0, .int 0)] (by decide +kernel) rfl ?_
  refine XP_VP (As := [.int p1, .int p2, .int 0]) (rest := [.int (a 42 2), .int q1]) (b := 31) (idx := 222) (by decide +kernel) ok_M_meanOf mv_M_meanOf (n := 3) ⟨lk_M_222, by decide +kernel⟩ rfl rfl rfl rfl (Nat.le_of_ble_eq_true rfl) (Nat.le_of_ble_eq_true rfl) (qI_h rfl) (x_M_meanOf E N p1 p2 0 a) (fun q2 => ?_)
  refine XP_go (pc' := 22) (ls' := [.ref 31, .int p1, .int p2]) (st' := [.int (q1 - ((a 42 2) * q2))]) (a' := a) [(.imul, 1, 0, .null), (.isub, 1, 0, .null)] (by decide +kernel) rfl ?_
  exact XP_retI (by decide +kernel)
/-! ChestnutSticksModel.worth(II)I -/
def md_M_worth : md_T := (yX11_worth, cX11_worth, 3, (some .int), 7, 158)
set_option maxRecDepth 100000 in
theorem ok_M_worth : m_ok md_M_worth := ⟨List.mem_of_getElem? (i := 1201) (by decide +kernel), by decide +kernel, List.mem_of_getElem? (i := 64) (by decide +kernel), by decide +kernel⟩
theorem mv_M_worth : Cond.instanceMethod (m_y md_M_worth) ∈ lw_tbl ∧ Cond.selects (m_y md_M_worth).cls (m_y md_M_worth) (m_y md_M_worth) ∈ lw_tbl := ⟨List.mem_of_getElem? (i := 1199) (by decide +kernel), List.mem_of_getElem? (i := 1200) (by decide +kernel)⟩
def f_M_worth (N : Nat) (p1 : Int32) (p2 : Int32) (a : aT) : Option (Int32 × aT) :=
  (f_M_find N a).bind fun q1 =>
    if (f_M_isFour p1) = 0 then
      some ((-1000002), q1.2)
    else
      (f_M_isCell p2 q1.2).bind fun q3 =>
        if q3 = 0 then
          some ((-1000002), q1.2)
        else
          (f_M_worthOf N p1 p2 q1.2).bind fun q4 =>
            some (q4, q1.2)
set_option maxHeartbeats 4000000 in
set_option maxRecDepth 100000 in
theorem x_M_worth (E : eT) (N : Nat) (p1 : Int32) (p2 : Int32) (a : aT) : XI qI E md_M_worth 0 [.ref 31, .int p1, .int p2] [] a (f_M_worth N p1 p2 a) := by
  refine XI_go (pc' := 1) (ls' := [.ref 31, .int p1, .int p2]) (st' := [.ref 31]) (a' := a) [(.aload_n 0, 1, 0, .null)] (by decide +kernel) rfl ?_
  refine XI_VI (As := []) (rest := []) (b := 31) (idx := 204) (by decide +kernel) ok_M_find mv_M_find (n := 0) ⟨lk_M_204, by decide +kernel⟩ rfl rfl rfl rfl (Nat.le_of_ble_eq_true rfl) (Nat.le_of_ble_eq_true rfl) (qV_h rfl) (x_M_find E N a) (fun q1 => ?_)
  refine XI_go (pc' := 5) (ls' := [.ref 31, .int p1, .int p2]) (st' := [.int p1]) (a' := q1.2) [(.iload_n 1, 1, 1, .null)] (by decide +kernel) rfl ?_
  refine XI_ST (As := [.int p1]) (rest := []) (idx := 133) (by decide +kernel) ok_M_isFour mv_M_isFour (n := 1) ⟨lk_M_133, by decide +kernel⟩ rfl (Nat.le_of_ble_eq_true rfl) (Nat.le_of_ble_eq_true rfl) (qZ_h rfl) (x_M_isFour E p1 q1.2) ?_
  refine XI_br (c := (f_M_isFour p1) = 0) (t := 28) (e := 11) (ls' := [.ref 31, .int p1, .int p2]) (st' := []) (a' := q1.2) [(.ifCond .eq 20, 3, 28, .null)] (by decide +kernel) rfl ?_ ?_
  · refine XI_go (pc' := 30) (ls' := [.ref 31, .int p1, .int p2]) (st' := [.int (-1000002)]) (a' := q1.2) [(.ldc 237, 2, 0, .int (-1000002))] (by decide +kernel) rfl ?_
    exact XI_retI (by decide +kernel)
  · refine XI_go (pc' := 13) (ls' := [.ref 31, .int p1, .int p2]) (st' := [.int p2, .ref 31]) (a' := q1.2) [(.aload_n 0, 1, 0, .null), (.iload_n 2, 1, 2, .null)] (by decide +kernel) rfl ?_
    refine XI_VP (As := [.int p2]) (rest := []) (b := 31) (idx := 195) (by decide +kernel) ok_M_isCell mv_M_isCell (n := 1) ⟨lk_M_195, by decide +kernel⟩ rfl rfl rfl rfl (Nat.le_of_ble_eq_true rfl) (Nat.le_of_ble_eq_true rfl) (qZ_h rfl) (x_M_isCell E p2 q1.2) (fun q3 => ?_)
    refine XI_br (c := q3 = 0) (t := 28) (e := 19) (ls' := [.ref 31, .int p1, .int p2]) (st' := []) (a' := q1.2) [(.ifCond .eq 12, 3, 28, .null)] (by decide +kernel) rfl ?_ ?_
    · refine XI_go (pc' := 30) (ls' := [.ref 31, .int p1, .int p2]) (st' := [.int (-1000002)]) (a' := q1.2) [(.ldc 237, 2, 0, .int (-1000002))] (by decide +kernel) rfl ?_
      exact XI_retI (by decide +kernel)
    · refine XI_go (pc' := 22) (ls' := [.ref 31, .int p1, .int p2]) (st' := [.int p2, .int p1, .ref 31]) (a' := q1.2) [(.aload_n 0, 1, 0, .null), (.iload_n 1, 1, 1, .null), (.iload_n 2, 1, 2, .null)] (by decide +kernel) rfl ?_
      refine XI_VP (As := [.int p1, .int p2]) (rest := []) (b := 31) (idx := 234) (by decide +kernel) ok_M_worthOf mv_M_worthOf (n := 2) ⟨lk_M_234, by decide +kernel⟩ rfl rfl rfl rfl (Nat.le_of_ble_eq_true rfl) (Nat.le_of_ble_eq_true rfl) (qI_h rfl) (x_M_worthOf E N p1 p2 q1.2) (fun q4 => ?_)
      refine XI_go (pc' := 30) (ls' := [.ref 31, .int p1, .int p2]) (st' := [.int q4]) (a' := q1.2) [(.goto 5, 3, 30, .null)] (by decide +kernel) rfl ?_
      exact XI_retI (by decide +kernel)
/-! ChestnutSticks$Play.bestCell(I)I -/
def md_P_bestCell : md_T := (yX1_bestCell, cX1_bestCell, 6, (some .int), 5, 122)
set_option maxRecDepth 100000 in
theorem ok_P_bestCell : m_ok md_P_bestCell := ⟨List.mem_of_getElem? (i := 625) (by decide +kernel), by decide +kernel, List.mem_of_getElem? (i := 59) (by decide +kernel), by decide +kernel⟩
theorem mv_P_bestCell : Cond.instanceMethod (m_y md_P_bestCell) ∈ lw_tbl ∧ Cond.selects (m_y md_P_bestCell).cls (m_y md_P_bestCell) (m_y md_P_bestCell) ∈ lw_tbl := ⟨List.mem_of_getElem? (i := 623) (by decide +kernel), List.mem_of_getElem? (i := 624) (by decide +kernel)⟩
def f_P_bestCell_7 (N : Nat) (a : aT) : Nat → Int32 → Int32 → Int32 → Int32 → Option Int32
  | 0 => fun _ _ _ _ => none
  | n + 1 => fun x1 x2 x3 x4 =>
    if 48 ≤ x4 then
      some x2
    else
      (f_E_isCell x4 a).bind fun q1 =>
        if q1 = 0 then
          f_P_bestCell_7 N a n x1 x2 x3 (x4 + 1)
        else
          (f_P_worthOf N x1 x4 a).bind fun q2 =>
            if x2 = (-1) then
              f_P_bestCell_7 N a n x1 x4 q2 (x4 + 1)
            else
              if q2 ≤ x3 then
                f_P_bestCell_7 N a n x1 x2 x3 (x4 + 1)
              else
                f_P_bestCell_7 N a n x1 x4 q2 (x4 + 1)
def f_P_bestCell (N : Nat) (p1 : Int32) (a : aT) : Option Int32 :=
  f_P_bestCell_7 N a N p1 (-1) 0 0
set_option maxHeartbeats 4000000 in
set_option maxRecDepth 100000 in
theorem x_P_bestCell_7 (E : eT) (N : Nat) (a : aT) : ∀ (n : Nat) (x1 : Int32) (x2 : Int32) (x3 : Int32) (x4 : Int32), XP qI E md_P_bestCell 7 [.ref 14, .int x1, .int x2, .int x3, .int x4, .null] [] a (f_P_bestCell_7 N a n x1 x2 x3 x4)
  | 0, _, _, _, _ => XP_no rfl
  | n + 1, x1, x2, x3, x4 => by
    refine XP_br (c := 48 ≤ x4) (t := 58) (e := 14) (ls' := [.ref 14, .int x1, .int x2, .int x3, .int x4, .null]) (st' := []) (a' := a) [(.iload 4, 2, 4, .null), (.bipush 48, 2, 0, .int 48), (.if_icmp .ge 47, 3, 58, .null)] (by decide +kernel) rfl ?_ ?_
    · refine XP_go (pc' := 59) (ls' := [.ref 14, .int x1, .int x2, .int x3, .int x4, .null]) (st' := [.int x2]) (a' := a) [(.iload_n 2, 1, 2, .null)] (by decide +kernel) rfl ?_
      exact XP_retI (by decide +kernel)
    · refine XP_go (pc' := 20) (ls' := [.ref 14, .int x1, .int x2, .int x3, .int x4, .null]) (st' := [.int x4, .ref 1]) (a' := a) [(.aload_n 0, 1, 0, .null), (.getfield 40, 3, 100, .null), (.iload 4, 2, 4, .null)] (by decide +kernel) rfl ?_
      refine XP_VP (As := [.int x4]) (rest := []) (b := 1) (idx := 98) (by decide +kernel) ok_E_isCell mv_E_isCell (n := 1) ⟨lk_P_98, by decide +kernel⟩ rfl rfl rfl rfl (Nat.le_of_ble_eq_true rfl) (Nat.le_of_ble_eq_true rfl) (qZ_h rfl) (x_E_isCell E x4 a) (fun q1 => ?_)
      refine XP_br (c := q1 = 0) (t := 52) (e := 26) (ls' := [.ref 14, .int x1, .int x2, .int x3, .int x4, .null]) (st' := []) (a' := a) [(.ifCond .eq 29, 3, 52, .null)] (by decide +kernel) rfl ?_ ?_
      · refine XP_go (pc' := 7) (ls' := [.ref 14, .int x1, .int x2, .int x3, .int (x4 + 1), .null]) (st' := []) (a' := a) [(.iinc 4 1, 3, 4, .int 1), (.goto (-48), 3, 7, .null)] (by decide +kernel) rfl ?_
        refine XP_fg [true, true, true, true, true, false] ?_
        exact x_P_bestCell_7 E N a n x1 x2 x3 (x4 + 1)
      · refine XP_go (pc' := 30) (ls' := [.ref 14, .int x1, .int x2, .int x3, .int x4, .null]) (st' := [.int x4, .int x1, .ref 14]) (a' := a) [(.aload_n 0, 1, 0, .null), (.iload_n 1, 1, 1, .null), (.iload 4, 2, 4, .null)] (by decide +kernel) rfl ?_
        refine XP_VP (As := [.int x1, .int x4]) (rest := []) (b := 14) (idx := 104) (by decide +kernel) ok_P_worthOf mv_P_worthOf (n := 2) ⟨lk_P_104, by decide +kernel⟩ rfl rfl rfl rfl (Nat.le_of_ble_eq_true rfl) (Nat.le_of_ble_eq_true rfl) (qI_h rfl) (x_P_worthOf E N x1 x4 a) (fun q2 => ?_)
        refine XP_br (c := x2 = (-1)) (t := 46) (e := 40) (ls' := [.ref 14, .int x1, .int x2, .int x3, .int x4, .int q2]) (st' := []) (a' := a) [(.istore 5, 2, 5, .null), (.iload_n 2, 1, 2, .null), (.iconst (-1), 1, 0, .int (-1)), (.if_icmp .eq 9, 3, 46, .null)] (by decide +kernel) rfl ?_ ?_
        · refine XP_go (pc' := 7) (ls' := [.ref 14, .int x1, .int x4, .int q2, .int (x4 + 1), .int q2]) (st' := []) (a' := a) [(.iload 4, 2, 4, .null), (.istore_n 2, 1, 2, .null), (.iload 5, 2, 5, .null), (.istore_n 3, 1, 3, .null), (.iinc 4 1, 3, 4, .int 1), (.goto (-48), 3, 7, .null)] (by decide +kernel) rfl ?_
          refine XP_fg [true, true, true, true, true, false] ?_
          exact x_P_bestCell_7 E N a n x1 x4 q2 (x4 + 1)
        · refine XP_br (c := q2 ≤ x3) (t := 52) (e := 46) (ls' := [.ref 14, .int x1, .int x2, .int x3, .int x4, .int q2]) (st' := []) (a' := a) [(.iload 5, 2, 5, .null), (.iload_n 3, 1, 3, .null), (.if_icmp .le 9, 3, 52, .null)] (by decide +kernel) rfl ?_ ?_
          · refine XP_go (pc' := 7) (ls' := [.ref 14, .int x1, .int x2, .int x3, .int (x4 + 1), .int q2]) (st' := []) (a' := a) [(.iinc 4 1, 3, 4, .int 1), (.goto (-48), 3, 7, .null)] (by decide +kernel) rfl ?_
            refine XP_fg [true, true, true, true, true, false] ?_
            exact x_P_bestCell_7 E N a n x1 x2 x3 (x4 + 1)
          · refine XP_go (pc' := 7) (ls' := [.ref 14, .int x1, .int x4, .int q2, .int (x4 + 1), .int q2]) (st' := []) (a' := a) [(.iload 4, 2, 4, .null), (.istore_n 2, 1, 2, .null), (.iload 5, 2, 5, .null), (.istore_n 3, 1, 3, .null), (.iinc 4 1, 3, 4, .int 1), (.goto (-48), 3, 7, .null)] (by decide +kernel) rfl ?_
            refine XP_fg [true, true, true, true, true, false] ?_
            exact x_P_bestCell_7 E N a n x1 x4 q2 (x4 + 1)
set_option maxHeartbeats 4000000 in
set_option maxRecDepth 100000 in
theorem x_P_bestCell (E : eT) (N : Nat) (p1 : Int32) (a : aT) : XP qI E md_P_bestCell 0 [.ref 14, .int p1, .null, .null, .null, .null] [] a (f_P_bestCell N p1 a) := by
  refine XP_go (pc' := 7) (ls' := [.ref 14, .int p1, .int (-1), .int 0, .int 0, .null]) (st' := []) (a' := a) [(.iconst (-1), 1, 0, .int (-1)), (.istore_n 2, 1, 2, .null), (.iconst 0, 1, 0, .int 0), (.istore_n 3, 1, 3, .null), (.iconst 0, 1, 0, .int 0), (.istore 4, 2, 4, .null)] (by decide +kernel) rfl ?_
  refine XP_fg [true, true, true, true, true, false] ?_
  exact x_P_bestCell_7 E N a N p1 (-1) 0 0
/-! ChestnutSticks.where(I)I -/
def md_C_where : md_T := (yX10_where, cX10_where, 2, (some .int), 6, 147)
set_option maxRecDepth 100000 in
theorem ok_C_where : m_ok md_C_where := ⟨List.mem_of_getElem? (i := 621) (by decide +kernel), by decide +kernel, List.mem_of_getElem? (i := 53) (by decide +kernel), by decide +kernel⟩
theorem mv_C_where : Cond.instanceMethod (m_y md_C_where) ∈ lw_tbl ∧ Cond.selects (m_y md_C_where).cls (m_y md_C_where) (m_y md_C_where) ∈ lw_tbl := ⟨List.mem_of_getElem? (i := 619) (by decide +kernel), List.mem_of_getElem? (i := 620) (by decide +kernel)⟩
def f_C_where (N : Nat) (p1 : Int32) (a : aT) : Option (Int32 × aT) :=
  if (f_C_isBelow p1 4) = 0 then
    some ((-2), a)
  else
    (f_P_replayAll N a).bind fun q2 =>
      (f_P_bestCell N p1 q2.2).bind fun q3 =>
        some (q3, q2.2)
set_option maxHeartbeats 4000000 in
set_option maxRecDepth 100000 in
theorem x_C_where (E : eT) (N : Nat) (p1 : Int32) (a : aT) : XI qI E md_C_where 0 [.ref 0, .int p1] [] a (f_C_where N p1 a) := by
  refine XI_go (pc' := 2) (ls' := [.ref 0, .int p1]) (st' := [.int 4, .int p1]) (a' := a) [(.iload_n 1, 1, 1, .null), (.iconst 4, 1, 0, .int 4)] (by decide +kernel) rfl ?_
  refine XI_ST (As := [.int p1, .int 4]) (rest := []) (idx := 110) (by decide +kernel) ok_C_isBelow mv_C_isBelow (n := 2) ⟨lk_C_110, by decide +kernel⟩ rfl (Nat.le_of_ble_eq_true rfl) (Nat.le_of_ble_eq_true rfl) (qZ_h rfl) (x_C_isBelow E p1 4 a) ?_
  refine XI_br (c := (f_C_isBelow p1 4) = 0) (t := 8) (e := 11) (ls' := [.ref 0, .int p1]) (st' := []) (a' := a) [(.ifCond .ne 6, 3, 11, .null)] (by decide +kernel) rfl ?_ ?_
  · refine XI_go (pc' := 10) (ls' := [.ref 0, .int p1]) (st' := [.int (-2)]) (a' := a) [(.bipush (-2), 2, 0, .int (-2))] (by decide +kernel) rfl ?_
    exact XI_retI (by decide +kernel)
  · refine XI_go (pc' := 15) (ls' := [.ref 0, .int p1]) (st' := [.ref 14]) (a' := a) [(.aload_n 0, 1, 0, .null), (.getfield 49, 3, 1005, .null)] (by decide +kernel) rfl ?_
    refine XI_VI (As := []) (rest := []) (b := 14) (idx := 135) (by decide +kernel) ok_P_replayAll mv_P_replayAll (n := 0) ⟨lk_C_135, by decide +kernel⟩ rfl rfl rfl rfl (Nat.le_of_ble_eq_true rfl) (Nat.le_of_ble_eq_true rfl) (qV_h rfl) (x_P_replayAll E N a) (fun q2 => ?_)
    refine XI_go (pc' := 23) (ls' := [.ref 0, .int p1]) (st' := [.int p1, .ref 14]) (a' := q2.2) [(.aload_n 0, 1, 0, .null), (.getfield 49, 3, 1005, .null), (.iload_n 1, 1, 1, .null)] (by decide +kernel) rfl ?_
    refine XI_VP (As := [.int p1]) (rest := []) (b := 14) (idx := 191) (by decide +kernel) ok_P_bestCell mv_P_bestCell (n := 1) ⟨lk_C_191, by decide +kernel⟩ rfl rfl rfl rfl (Nat.le_of_ble_eq_true rfl) (Nat.le_of_ble_eq_true rfl) (qI_h rfl) (x_P_bestCell E N p1 q2.2) (fun q3 => ?_)
    exact XI_retI (by decide +kernel)
/-! ChestnutSticksModel.whereOf(I)I -/
def md_M_whereOf : md_T := (yX11_whereOf, cX11_whereOf, 7, (some .int), 6, 139)
set_option maxRecDepth 100000 in
theorem ok_M_whereOf : m_ok md_M_whereOf := ⟨List.mem_of_getElem? (i := 1214) (by decide +kernel), by decide +kernel, List.mem_of_getElem? (i := 64) (by decide +kernel), by decide +kernel⟩
theorem mv_M_whereOf : Cond.instanceMethod (m_y md_M_whereOf) ∈ lw_tbl ∧ Cond.selects (m_y md_M_whereOf).cls (m_y md_M_whereOf) (m_y md_M_whereOf) ∈ lw_tbl := ⟨List.mem_of_getElem? (i := 1213) (by decide +kernel), List.mem_of_getElem? (i := 38) (by decide +kernel)⟩
def f_M_whereOf_62 (N : Nat) (a : aT) (k7 : Int32 → Int32 → Int32 → Int32 → Option Int32) (x1 : Int32) (x3 : Int32) (x4 : Int32) (x5 : Int32) (x6 : Int32) (y1 : Int32) : Option Int32 :=
  if x6 = 0 then
    k7 x1 y1 x3 (x4 + 1)
  else
    k7 x1 y1 x5 (x4 + 1)
def f_M_whereOf_49 (N : Nat) (a : aT) (k7 : Int32 → Int32 → Int32 → Int32 → Option Int32) (x1 : Int32) (x2 : Int32) (x3 : Int32) (x4 : Int32) (x5 : Int32) (y1 : Int32) : Option Int32 :=
  if y1 = 0 then
    f_M_whereOf_62 N a k7 x1 x3 x4 x5 y1 x2
  else
    f_M_whereOf_62 N a k7 x1 x3 x4 x5 y1 x4
def f_M_whereOf_44 (N : Nat) (a : aT) (k7 : Int32 → Int32 → Int32 → Int32 → Option Int32) (x1 : Int32) (x2 : Int32) (x3 : Int32) (x4 : Int32) (x5 : Int32) : Option Int32 :=
  f_M_whereOf_49 N a k7 x1 x2 x3 x4 x5 1
def f_M_whereOf_7 (N : Nat) (a : aT) : Nat → Int32 → Int32 → Int32 → Int32 → Option Int32
  | 0 => fun _ _ _ _ => none
  | n + 1 => fun x1 x2 x3 x4 =>
    if 48 ≤ x4 then
      some x2
    else
      if inb x4 48 then
        if (a 37 (ix x4)) = 0 then
          f_M_whereOf_7 N a n x1 x2 x3 (x4 + 1)
        else
          (f_M_worthOf N x1 x4 a).bind fun q1 =>
            if x2 = (-1) then
              f_M_whereOf_44 N a (f_M_whereOf_7 N a n) x1 x2 x3 x4 q1
            else
              if q1 ≤ x3 then
                f_M_whereOf_49 N a (f_M_whereOf_7 N a n) x1 x2 x3 x4 q1 0
              else
                f_M_whereOf_44 N a (f_M_whereOf_7 N a n) x1 x2 x3 x4 q1
      else none
def f_M_whereOf (N : Nat) (p1 : Int32) (a : aT) : Option Int32 :=
  f_M_whereOf_7 N a N p1 (-1) 0 0
set_option maxHeartbeats 4000000 in
set_option maxRecDepth 100000 in
theorem x_M_whereOf_62 (E : eT) (N : Nat) (a : aT) (k7 : Int32 → Int32 → Int32 → Int32 → Option Int32) (h7 : ∀ (x1 : Int32) (x2 : Int32) (x3 : Int32) (x4 : Int32), XP qI E md_M_whereOf 7 [.ref 31, .int x1, .int x2, .int x3, .int x4, .null, .null] [] a (k7 x1 x2 x3 x4)) (x1 : Int32) (x3 : Int32) (x4 : Int32) (x5 : Int32) (x6 : Int32) (y1 : Int32) : XP qI E md_M_whereOf 62 [.ref 31, .int x1, .null, .int x3, .int x4, .int x5, .int x6] [.int y1] a (f_M_whereOf_62 N a k7 x1 x3 x4 x5 x6 y1) := by
  refine XP_br (c := x6 = 0) (t := 73) (e := 68) (ls' := [.ref 31, .int x1, .int y1, .int x3, .int x4, .int x5, .int x6]) (st' := []) (a' := a) [(.istore_n 2, 1, 2, .null), (.iload 6, 2, 6, .null), (.ifCond .eq 8, 3, 73, .null)] (by decide +kernel) rfl ?_ ?_
  · refine XP_go (pc' := 7) (ls' := [.ref 31, .int x1, .int y1, .int x3, .int (x4 + 1), .int x5, .int x6]) (st' := []) (a' := a) [(.iload_n 3, 1, 3, .null), (.istore_n 3, 1, 3, .null), (.iinc 4 1, 3, 4, .int 1), (.goto (-71), 3, 7, .null)] (by decide +kernel) rfl ?_
    refine XP_fg [true, true, true, true, true, false, false] ?_
    exact h7 x1 y1 x3 (x4 + 1)
  · refine XP_go (pc' := 7) (ls' := [.ref 31, .int x1, .int y1, .int x5, .int (x4 + 1), .int x5, .int x6]) (st' := []) (a' := a) [(.iload 5, 2, 5, .null), (.goto 4, 3, 74, .null), (.istore_n 3, 1, 3, .null), (.iinc 4 1, 3, 4, .int 1), (.goto (-71), 3, 7, .null)] (by decide +kernel) rfl ?_
    refine XP_fg [true, true, true, true, true, false, false] ?_
    exact h7 x1 y1 x5 (x4 + 1)
set_option maxHeartbeats 4000000 in
set_option maxRecDepth 100000 in
theorem x_M_whereOf_49 (E : eT) (N : Nat) (a : aT) (k7 : Int32 → Int32 → Int32 → Int32 → Option Int32) (h7 : ∀ (x1 : Int32) (x2 : Int32) (x3 : Int32) (x4 : Int32), XP qI E md_M_whereOf 7 [.ref 31, .int x1, .int x2, .int x3, .int x4, .null, .null] [] a (k7 x1 x2 x3 x4)) (x1 : Int32) (x2 : Int32) (x3 : Int32) (x4 : Int32) (x5 : Int32) (y1 : Int32) : XP qI E md_M_whereOf 49 [.ref 31, .int x1, .int x2, .int x3, .int x4, .int x5, .null] [.int y1] a (f_M_whereOf_49 N a k7 x1 x2 x3 x4 x5 y1) := by
  refine XP_br (c := y1 = 0) (t := 61) (e := 56) (ls' := [.ref 31, .int x1, .int x2, .int x3, .int x4, .int x5, .int y1]) (st' := []) (a' := a) [(.istore 6, 2, 6, .null), (.iload 6, 2, 6, .null), (.ifCond .eq 8, 3, 61, .null)] (by decide +kernel) rfl ?_ ?_
  · refine XP_go (pc' := 62) (ls' := [.ref 31, .int x1, .int x2, .int x3, .int x4, .int x5, .int y1]) (st' := [.int x2]) (a' := a) [(.iload_n 2, 1, 2, .null)] (by decide +kernel) rfl ?_
    refine XP_fg [true, true, false, true, true, true, true] ?_
    exact x_M_whereOf_62 E N a k7 h7 x1 x3 x4 x5 y1 x2
  · refine XP_go (pc' := 62) (ls' := [.ref 31, .int x1, .int x2, .int x3, .int x4, .int x5, .int y1]) (st' := [.int x4]) (a' := a) [(.iload 4, 2, 4, .null), (.goto 4, 3, 62, .null)] (by decide +kernel) rfl ?_
    refine XP_fg [true, true, false, true, true, true, true] ?_
    exact x_M_whereOf_62 E N a k7 h7 x1 x3 x4 x5 y1 x4
set_option maxHeartbeats 4000000 in
set_option maxRecDepth 100000 in
theorem x_M_whereOf_44 (E : eT) (N : Nat) (a : aT) (k7 : Int32 → Int32 → Int32 → Int32 → Option Int32) (h7 : ∀ (x1 : Int32) (x2 : Int32) (x3 : Int32) (x4 : Int32), XP qI E md_M_whereOf 7 [.ref 31, .int x1, .int x2, .int x3, .int x4, .null, .null] [] a (k7 x1 x2 x3 x4)) (x1 : Int32) (x2 : Int32) (x3 : Int32) (x4 : Int32) (x5 : Int32) : XP qI E md_M_whereOf 44 [.ref 31, .int x1, .int x2, .int x3, .int x4, .int x5, .null] [] a (f_M_whereOf_44 N a k7 x1 x2 x3 x4 x5) := by
  refine XP_go (pc' := 49) (ls' := [.ref 31, .int x1, .int x2, .int x3, .int x4, .int x5, .null]) (st' := [.int 1]) (a' := a) [(.iconst 1, 1, 0, .int 1), (.goto 4, 3, 49, .null)] (by decide +kernel) rfl ?_
  refine XP_fg [true, true, true, true, true, true, false] ?_
  exact x_M_whereOf_49 E N a k7 h7 x1 x2 x3 x4 x5 1
set_option maxHeartbeats 4000000 in
set_option maxRecDepth 100000 in
theorem x_M_whereOf_7 (E : eT) (N : Nat) (a : aT) : ∀ (n : Nat) (x1 : Int32) (x2 : Int32) (x3 : Int32) (x4 : Int32), XP qI E md_M_whereOf 7 [.ref 31, .int x1, .int x2, .int x3, .int x4, .null, .null] [] a (f_M_whereOf_7 N a n x1 x2 x3 x4)
  | 0, _, _, _, _ => XP_no rfl
  | n + 1, x1, x2, x3, x4 => by
    refine XP_br (c := 48 ≤ x4) (t := 81) (e := 14) (ls' := [.ref 31, .int x1, .int x2, .int x3, .int x4, .null, .null]) (st' := []) (a' := a) [(.iload 4, 2, 4, .null), (.bipush 48, 2, 0, .int 48), (.if_icmp .ge 70, 3, 81, .null)] (by decide +kernel) rfl ?_ ?_
    · refine XP_go (pc' := 82) (ls' := [.ref 31, .int x1, .int x2, .int x3, .int x4, .null, .null]) (st' := [.int x2]) (a' := a) [(.iload_n 2, 1, 2, .null)] (by decide +kernel) rfl ?_
      exact XP_retI (by decide +kernel)
    · refine XP_ck (c := inb x4 48) (pc' := 21) (ls' := [.ref 31, .int x1, .int x2, .int x3, .int x4, .null, .null]) (st' := [.int (a 37 (ix x4))]) (a' := a) [(.aload_n 0, 1, 0, .null), (.getfield 25, 3, 1108, .null), (.iload 4, 2, 4, .null), (.baload, 1, 0, .null)] (by decide +kernel) rfl ?_
      refine XP_br (c := (a 37 (ix x4)) = 0) (t := 75) (e := 24) (ls' := [.ref 31, .int x1, .int x2, .int x3, .int x4, .null, .null]) (st' := []) (a' := a) [(.ifCond .eq 54, 3, 75, .null)] (by decide +kernel) rfl ?_ ?_
      · refine XP_go (pc' := 7) (ls' := [.ref 31, .int x1, .int x2, .int x3, .int (x4 + 1), .null, .null]) (st' := []) (a' := a) [(.iinc 4 1, 3, 4, .int 1), (.goto (-71), 3, 7, .null)] (by decide +kernel) rfl ?_
        refine XP_fg [true, true, true, true, true, false, false] ?_
        exact x_M_whereOf_7 E N a n x1 x2 x3 (x4 + 1)
      · refine XP_go (pc' := 28) (ls' := [.ref 31, .int x1, .int x2, .int x3, .int x4, .null, .null]) (st' := [.int x4, .int x1, .ref 31]) (a' := a) [(.aload_n 0, 1, 0, .null), (.iload_n 1, 1, 1, .null), (.iload 4, 2, 4, .null)] (by decide +kernel) rfl ?_
        refine XP_VP (As := [.int x1, .int x4]) (rest := []) (b := 31) (idx := 234) (by decide +kernel) ok_M_worthOf mv_M_worthOf (n := 2) ⟨lk_M_234, by decide +kernel⟩ rfl rfl rfl rfl (Nat.le_of_ble_eq_true rfl) (Nat.le_of_ble_eq_true rfl) (qI_h rfl) (x_M_worthOf E N x1 x4 a) (fun q1 => ?_)
        refine XP_br (c := x2 = (-1)) (t := 44) (e := 38) (ls' := [.ref 31, .int x1, .int x2, .int x3, .int x4, .int q1, .null]) (st' := []) (a' := a) [(.istore 5, 2, 5, .null), (.iload_n 2, 1, 2, .null), (.iconst (-1), 1, 0, .int (-1)), (.if_icmp .eq 9, 3, 44, .null)] (by decide +kernel) rfl ?_ ?_
        · refine XP_fg [true, true, true, true, true, true, false] ?_
          exact x_M_whereOf_44 E N a (f_M_whereOf_7 N a n) (x_M_whereOf_7 E N a n) x1 x2 x3 x4 q1
        · refine XP_br (c := q1 ≤ x3) (t := 48) (e := 44) (ls' := [.ref 31, .int x1, .int x2, .int x3, .int x4, .int q1, .null]) (st' := []) (a' := a) [(.iload 5, 2, 5, .null), (.iload_n 3, 1, 3, .null), (.if_icmp .le 7, 3, 48, .null)] (by decide +kernel) rfl ?_ ?_
          · refine XP_go (pc' := 49) (ls' := [.ref 31, .int x1, .int x2, .int x3, .int x4, .int q1, .null]) (st' := [.int 0]) (a' := a) [(.iconst 0, 1, 0, .int 0)] (by decide +kernel) rfl ?_
            refine XP_fg [true, true, true, true, true, true, false] ?_
            exact x_M_whereOf_49 E N a (f_M_whereOf_7 N a n) (x_M_whereOf_7 E N a n) x1 x2 x3 x4 q1 0
          · refine XP_fg [true, true, true, true, true, true, false] ?_
            exact x_M_whereOf_44 E N a (f_M_whereOf_7 N a n) (x_M_whereOf_7 E N a n) x1 x2 x3 x4 q1
set_option maxHeartbeats 4000000 in
set_option maxRecDepth 100000 in
theorem x_M_whereOf (E : eT) (N : Nat) (p1 : Int32) (a : aT) : XP qI E md_M_whereOf 0 [.ref 31, .int p1, .null, .null, .null, .null, .null] [] a (f_M_whereOf N p1 a) := by
  refine XP_go (pc' := 7) (ls' := [.ref 31, .int p1, .int (-1), .int 0, .int 0, .null, .null]) (st' := []) (a' := a) [(.iconst (-1), 1, 0, .int (-1)), (.istore_n 2, 1, 2, .null), (.iconst 0, 1, 0, .int 0), (.istore_n 3, 1, 3, .null), (.iconst 0, 1, 0, .int 0), (.istore 4, 2, 4, .null)] (by decide +kernel) rfl ?_
  refine XP_fg [true, true, true, true, true, false, false] ?_
  exact x_M_whereOf_7 E N a N p1 (-1) 0 0
/-! ChestnutSticksModel.where(I)I -/
def md_M_where : md_T := (yX11_where, cX11_where, 2, (some .int), 7, 165)
set_option maxRecDepth 100000 in
theorem ok_M_where : m_ok md_M_where := ⟨List.mem_of_getElem? (i := 1210) (by decide +kernel), by decide +kernel, List.mem_of_getElem? (i := 64) (by decide +kernel), by decide +kernel⟩
theorem mv_M_where : Cond.instanceMethod (m_y md_M_where) ∈ lw_tbl ∧ Cond.selects (m_y md_M_where).cls (m_y md_M_where) (m_y md_M_where) ∈ lw_tbl := ⟨List.mem_of_getElem? (i := 1208) (by decide +kernel), List.mem_of_getElem? (i := 1209) (by decide +kernel)⟩
def f_M_where (N : Nat) (p1 : Int32) (a : aT) : Option (Int32 × aT) :=
  (f_M_find N a).bind fun q1 =>
    if (f_M_isFour p1) = 0 then
      some ((-2), q1.2)
    else
      (f_M_whereOf N p1 q1.2).bind fun q3 =>
        some (q3, q1.2)
set_option maxHeartbeats 4000000 in
set_option maxRecDepth 100000 in
theorem x_M_where (E : eT) (N : Nat) (p1 : Int32) (a : aT) : XI qI E md_M_where 0 [.ref 31, .int p1] [] a (f_M_where N p1 a) := by
  refine XI_go (pc' := 1) (ls' := [.ref 31, .int p1]) (st' := [.ref 31]) (a' := a) [(.aload_n 0, 1, 0, .null)] (by decide +kernel) rfl ?_
  refine XI_VI (As := []) (rest := []) (b := 31) (idx := 204) (by decide +kernel) ok_M_find mv_M_find (n := 0) ⟨lk_M_204, by decide +kernel⟩ rfl rfl rfl rfl (Nat.le_of_ble_eq_true rfl) (Nat.le_of_ble_eq_true rfl) (qV_h rfl) (x_M_find E N a) (fun q1 => ?_)
  refine XI_go (pc' := 5) (ls' := [.ref 31, .int p1]) (st' := [.int p1]) (a' := q1.2) [(.iload_n 1, 1, 1, .null)] (by decide +kernel) rfl ?_
  refine XI_ST (As := [.int p1]) (rest := []) (idx := 133) (by decide +kernel) ok_M_isFour mv_M_isFour (n := 1) ⟨lk_M_133, by decide +kernel⟩ rfl (Nat.le_of_ble_eq_true rfl) (Nat.le_of_ble_eq_true rfl) (qZ_h rfl) (x_M_isFour E p1 q1.2) ?_
  refine XI_br (c := (f_M_isFour p1) = 0) (t := 19) (e := 11) (ls' := [.ref 31, .int p1]) (st' := []) (a' := q1.2) [(.ifCond .eq 11, 3, 19, .null)] (by decide +kernel) rfl ?_ ?_
  · refine XI_go (pc' := 21) (ls' := [.ref 31, .int p1]) (st' := [.int (-2)]) (a' := q1.2) [(.bipush (-2), 2, 0, .int (-2))] (by decide +kernel) rfl ?_
    exact XI_retI (by decide +kernel)
  · refine XI_go (pc' := 13) (ls' := [.ref 31, .int p1]) (st' := [.int p1, .ref 31]) (a' := q1.2) [(.aload_n 0, 1, 0, .null), (.iload_n 1, 1, 1, .null)] (by decide +kernel) rfl ?_
    refine XI_VP (As := [.int p1]) (rest := []) (b := 31) (idx := 238) (by decide +kernel) ok_M_whereOf mv_M_whereOf (n := 1) ⟨lk_M_238, by decide +kernel⟩ rfl rfl rfl rfl (Nat.le_of_ble_eq_true rfl) (Nat.le_of_ble_eq_true rfl) (qI_h rfl) (x_M_whereOf E N p1 q1.2) (fun q3 => ?_)
    refine XI_go (pc' := 21) (ls' := [.ref 31, .int p1]) (st' := [.int q3]) (a' := q1.2) [(.goto 5, 3, 21, .null)] (by decide +kernel) rfl ?_
    exact XI_retI (by decide +kernel)
/-! ChestnutSticks.which()I -/
def md_C_which : md_T := (yX10_which, cX10_which, 6, (some .int), 6, 147)
set_option maxRecDepth 100000 in
theorem ok_C_which : m_ok md_C_which := ⟨List.mem_of_getElem? (i := 630) (by decide +kernel), by decide +kernel, List.mem_of_getElem? (i := 53) (by decide +kernel), by decide +kernel⟩
theorem mv_C_which : Cond.instanceMethod (m_y md_C_which) ∈ lw_tbl ∧ Cond.selects (m_y md_C_which).cls (m_y md_C_which) (m_y md_C_which) ∈ lw_tbl := ⟨List.mem_of_getElem? (i := 628) (by decide +kernel), List.mem_of_getElem? (i := 629) (by decide +kernel)⟩
def f_C_which_42 (N : Nat) (k13 : Int32 → Int32 → Int32 → aT → Option (Int32 × aT)) (x1 : Int32) (x2 : Int32) (x3 : Int32) (y1 : Int32) (a : aT) : Option (Int32 × aT) :=
  if y1 = (-1) then
    k13 x1 x2 (x3 + 1) a
  else
    (f_P_worthOf N x3 y1 a).bind fun q4 =>
      if x1 = (-1) then
        k13 x3 q4 (x3 + 1) a
      else
        if q4 ≤ x2 then
          k13 x1 x2 (x3 + 1) a
        else
          k13 x3 q4 (x3 + 1) a
def f_C_which_13 (N : Nat) : Nat → Int32 → Int32 → Int32 → aT → Option (Int32 × aT)
  | 0 => fun _ _ _ _ => none
  | n + 1 => fun x1 x2 x3 a =>
    if 4 ≤ x3 then
      some (x1, a)
    else
      (f_P_lodgedIn x3 a).bind fun q2 =>
        if q2 = (-1) then
          (f_P_bestCell N x3 a).bind fun q3 =>
            f_C_which_42 N (f_C_which_13 N n) x1 x2 x3 q3 a
        else
          f_C_which_42 N (f_C_which_13 N n) x1 x2 x3 (-1) a
def f_C_which (N : Nat) (a : aT) : Option (Int32 × aT) :=
  (f_P_replayAll N a).bind fun q1 =>
    f_C_which_13 N N (-1) 0 0 q1.2
set_option maxHeartbeats 4000000 in
set_option maxRecDepth 100000 in
theorem x_C_which_42 (E : eT) (N : Nat) (k13 : Int32 → Int32 → Int32 → aT → Option (Int32 × aT)) (h13 : ∀ (x1 : Int32) (x2 : Int32) (x3 : Int32) (a : aT), XI qI E md_C_which 13 [.ref 0, .int x1, .int x2, .int x3, .null, .null] [] a (k13 x1 x2 x3 a)) (x1 : Int32) (x2 : Int32) (x3 : Int32) (y1 : Int32) (a : aT) : XI qI E md_C_which 42 [.ref 0, .int x1, .int x2, .int x3, .null, .null] [.int y1] a (f_C_which_42 N k13 x1 x2 x3 y1 a) := by
  refine XI_br (c := y1 = (-1)) (t := 78) (e := 50) (ls' := [.ref 0, .int x1, .int x2, .int x3, .int y1, .null]) (st' := []) (a' := a) [(.istore 4, 2, 4, .null), (.iload 4, 2, 4, .null), (.iconst (-1), 1, 0, .int (-1)), (.if_icmp .eq 31, 3, 78, .null)] (by decide +kernel) rfl ?_ ?_
  · refine XI_go (pc' := 13) (ls' := [.ref 0, .int x1, .int x2, .int (x3 + 1), .int y1, .null]) (st' := []) (a' := a) [(.iinc 3 1, 3, 3, .int 1), (.goto (-68), 3, 13, .null)] (by decide +kernel) rfl ?_
    refine XI_fg [true, true, true, true, false, false] ?_
    exact h13 x1 x2 (x3 + 1) a
  · refine XI_go (pc' := 57) (ls' := [.ref 0, .int x1, .int x2, .int x3, .int y1, .null]) (st' := [.int y1, .int x3, .ref 14]) (a' := a) [(.aload_n 0, 1, 0, .null), (.getfield 49, 3, 1005, .null), (.iload_n 3, 1, 3, .null), (.iload 4, 2, 4, .null)] (by decide +kernel) rfl ?_
    refine XI_VP (As := [.int x3, .int y1]) (rest := []) (b := 14) (idx := 188) (by decide +kernel) ok_P_worthOf mv_P_worthOf (n := 2) ⟨lk_C_188, by decide +kernel⟩ rfl rfl rfl rfl (Nat.le_of_ble_eq_true rfl) (Nat.le_of_ble_eq_true rfl) (qI_h rfl) (x_P_worthOf E N x3 y1 a) (fun q4 => ?_)
    refine XI_br (c := x1 = (-1)) (t := 73) (e := 67) (ls' := [.ref 0, .int x1, .int x2, .int x3, .int y1, .int q4]) (st' := []) (a' := a) [(.istore 5, 2, 5, .null), (.iload_n 1, 1, 1, .null), (.iconst (-1), 1, 0, .int (-1)), (.if_icmp .eq 9, 3, 73, .null)] (by decide +kernel) rfl ?_ ?_
    · refine XI_go (pc' := 13) (ls' := [.ref 0, .int x3, .int q4, .int (x3 + 1), .int y1, .int q4]) (st' := []) (a' := a) [(.iload_n 3, 1, 3, .null), (.istore_n 1, 1, 1, .null), (.iload 5, 2, 5, .null), (.istore_n 2, 1, 2, .null), (.iinc 3 1, 3, 3, .int 1), (.goto (-68), 3, 13, .null)] (by decide +kernel) rfl ?_
      refine XI_fg [true, true, true, true, false, false] ?_
      exact h13 x3 q4 (x3 + 1) a
    · refine XI_br (c := q4 ≤ x2) (t := 78) (e := 73) (ls' := [.ref 0, .int x1, .int x2, .int x3, .int y1, .int q4]) (st' := []) (a' := a) [(.iload 5, 2, 5, .null), (.iload_n 2, 1, 2, .null), (.if_icmp .le 8, 3, 78, .null)] (by decide +kernel) rfl ?_ ?_
      · refine XI_go (pc' := 13) (ls' := [.ref 0, .int x1, .int x2, .int (x3 + 1), .int y1, .int q4]) (st' := []) (a' := a) [(.iinc 3 1, 3, 3, .int 1), (.goto (-68), 3, 13, .null)] (by decide +kernel) rfl ?_
        refine XI_fg [true, true, true, true, false, false] ?_
        exact h13 x1 x2 (x3 + 1) a
      · refine XI_go (pc' := 13) (ls' := [.ref 0, .int x3, .int q4, .int (x3 + 1), .int y1, .int q4]) (st' := []) (a' := a) [(.iload_n 3, 1, 3, .null), (.istore_n 1, 1, 1, .null), (.iload 5, 2, 5, .null), (.istore_n 2, 1, 2, .null), (.iinc 3 1, 3, 3, .int 1), (.goto (-68), 3, 13, .null)] (by decide +kernel) rfl ?_
        refine XI_fg [true, true, true, true, false, false] ?_
        exact h13 x3 q4 (x3 + 1) a
set_option maxHeartbeats 4000000 in
set_option maxRecDepth 100000 in
theorem x_C_which_13 (E : eT) (N : Nat) : ∀ (n : Nat) (x1 : Int32) (x2 : Int32) (x3 : Int32) (a : aT), XI qI E md_C_which 13 [.ref 0, .int x1, .int x2, .int x3, .null, .null] [] a (f_C_which_13 N n x1 x2 x3 a)
  | 0, _, _, _, _ => XI_no rfl
  | n + 1, x1, x2, x3, a => by
    refine XI_br (c := 4 ≤ x3) (t := 84) (e := 18) (ls' := [.ref 0, .int x1, .int x2, .int x3, .null, .null]) (st' := []) (a' := a) [(.iload_n 3, 1, 3, .null), (.iconst 4, 1, 0, .int 4), (.if_icmp .ge 69, 3, 84, .null)] (by decide +kernel) rfl ?_ ?_
    · refine XI_go (pc' := 85) (ls' := [.ref 0, .int x1, .int x2, .int x3, .null, .null]) (st' := [.int x1]) (a' := a) [(.iload_n 1, 1, 1, .null)] (by decide +kernel) rfl ?_
      exact XI_retI (by decide +kernel)
    · refine XI_go (pc' := 23) (ls' := [.ref 0, .int x1, .int x2, .int x3, .null, .null]) (st' := [.int x3, .ref 14]) (a' := a) [(.aload_n 0, 1, 0, .null), (.getfield 49, 3, 1005, .null), (.iload_n 3, 1, 3, .null)] (by decide +kernel) rfl ?_
      refine XI_VP (As := [.int x3]) (rest := []) (b := 14) (idx := 194) (by decide +kernel) ok_P_lodgedIn mv_P_lodgedIn (n := 1) ⟨lk_C_194, by decide +kernel⟩ rfl rfl rfl rfl (Nat.le_of_ble_eq_true rfl) (Nat.le_of_ble_eq_true rfl) (qI_h rfl) (x_P_lodgedIn E x3 a) (fun q2 => ?_)
      refine XI_br (c := q2 = (-1)) (t := 30) (e := 41) (ls' := [.ref 0, .int x1, .int x2, .int x3, .null, .null]) (st' := []) (a' := a) [(.iconst (-1), 1, 0, .int (-1)), (.if_icmp .ne 14, 3, 41, .null)] (by decide +kernel) rfl ?_ ?_
      · refine XI_go (pc' := 35) (ls' := [.ref 0, .int x1, .int x2, .int x3, .null, .null]) (st' := [.int x3, .ref 14]) (a' := a) [(.aload_n 0, 1, 0, .null), (.getfield 49, 3, 1005, .null), (.iload_n 3, 1, 3, .null)] (by decide +kernel) rfl ?_
        refine XI_VP (As := [.int x3]) (rest := []) (b := 14) (idx := 191) (by decide +kernel) ok_P_bestCell mv_P_bestCell (n := 1) ⟨lk_C_191, by decide +kernel⟩ rfl rfl rfl rfl (Nat.le_of_ble_eq_true rfl) (Nat.le_of_ble_eq_true rfl) (qI_h rfl) (x_P_bestCell E N x3 a) (fun q3 => ?_)
        refine XI_go (pc' := 42) (ls' := [.ref 0, .int x1, .int x2, .int x3, .null, .null]) (st' := [.int q3]) (a' := a) [(.goto 4, 3, 42, .null)] (by decide +kernel) rfl ?_
        refine XI_fg [true, true, true, true, false, false] ?_
        exact x_C_which_42 E N (f_C_which_13 N n) (x_C_which_13 E N n) x1 x2 x3 q3 a
      · refine XI_go (pc' := 42) (ls' := [.ref 0, .int x1, .int x2, .int x3, .null, .null]) (st' := [.int (-1)]) (a' := a) [(.iconst (-1), 1, 0, .int (-1))] (by decide +kernel) rfl ?_
        refine XI_fg [true, true, true, true, false, false] ?_
        exact x_C_which_42 E N (f_C_which_13 N n) (x_C_which_13 E N n) x1 x2 x3 (-1) a
set_option maxHeartbeats 4000000 in
set_option maxRecDepth 100000 in
theorem x_C_which (E : eT) (N : Nat) (a : aT) : XI qI E md_C_which 0 [.ref 0, .null, .null, .null, .null, .null] [] a (f_C_which N a) := by
  refine XI_go (pc' := 4) (ls' := [.ref 0, .null, .null, .null, .null, .null]) (st' := [.ref 14]) (a' := a) [(.aload_n 0, 1, 0, .null), (.getfield 49, 3, 1005, .null)] (by decide +kernel) rfl ?_
  refine XI_VI (As := []) (rest := []) (b := 14) (idx := 135) (by decide +kernel) ok_P_replayAll mv_P_replayAll (n := 0) ⟨lk_C_135, by decide +kernel⟩ rfl rfl rfl rfl (Nat.le_of_ble_eq_true rfl) (Nat.le_of_ble_eq_true rfl) (qV_h rfl) (x_P_replayAll E N a) (fun q1 => ?_)
  refine XI_go (pc' := 13) (ls' := [.ref 0, .int (-1), .int 0, .int 0, .null, .null]) (st' := []) (a' := q1.2) [(.iconst (-1), 1, 0, .int (-1)), (.istore_n 1, 1, 1, .null), (.iconst 0, 1, 0, .int 0), (.istore_n 2, 1, 2, .null), (.iconst 0, 1, 0, .int 0), (.istore_n 3, 1, 3, .null)] (by decide +kernel) rfl ?_
  refine XI_fg [true, true, true, true, false, false] ?_
  exact x_C_which_13 E N N (-1) 0 0 q1.2
/-! ChestnutSticksModel.whichNow()I -/
def md_M_whichNow : md_T := (yX11_whichNow, cX11_whichNow, 7, (some .int), 7, 165)
set_option maxRecDepth 100000 in
theorem ok_M_whichNow : m_ok md_M_whichNow := ⟨List.mem_of_getElem? (i := 1222) (by decide +kernel), by decide +kernel, List.mem_of_getElem? (i := 64) (by decide +kernel), by decide +kernel⟩
theorem mv_M_whichNow : Cond.instanceMethod (m_y md_M_whichNow) ∈ lw_tbl ∧ Cond.selects (m_y md_M_whichNow).cls (m_y md_M_whichNow) (m_y md_M_whichNow) ∈ lw_tbl := ⟨List.mem_of_getElem? (i := 1221) (by decide +kernel), List.mem_of_getElem? (i := 39) (by decide +kernel)⟩
def f_M_whichNow_71 (N : Nat) (a : aT) (k6 : Int32 → Int32 → Int32 → Option Int32) (x2 : Int32) (x3 : Int32) (x5 : Int32) (x6 : Int32) (y1 : Int32) : Option Int32 :=
  if x6 = 0 then
    k6 y1 x2 (x3 + 1)
  else
    k6 y1 x5 (x3 + 1)
def f_M_whichNow_59 (N : Nat) (a : aT) (k6 : Int32 → Int32 → Int32 → Option Int32) (x1 : Int32) (x2 : Int32) (x3 : Int32) (x5 : Int32) (y1 : Int32) : Option Int32 :=
  if y1 = 0 then
    f_M_whichNow_71 N a k6 x2 x3 x5 y1 x1
  else
    f_M_whichNow_71 N a k6 x2 x3 x5 y1 x3
def f_M_whichNow_54 (N : Nat) (a : aT) (k6 : Int32 → Int32 → Int32 → Option Int32) (x1 : Int32) (x2 : Int32) (x3 : Int32) (x5 : Int32) : Option Int32 :=
  f_M_whichNow_59 N a k6 x1 x2 x3 x5 1
def f_M_whichNow_6 (N : Nat) (a : aT) : Nat → Int32 → Int32 → Int32 → Option Int32
  | 0 => fun _ _ _ => none
  | n + 1 => fun x1 x2 x3 =>
    if 4 ≤ x3 then
      some x1
    else
      (f_M_whereOf N x3 a).bind fun q1 =>
        if q1 = (-1) then
          f_M_whichNow_6 N a n x1 x2 (x3 + 1)
        else
          if inb x3 4 then
            if (a 46 (ix x3)) = (-1) then
              (f_M_worthOf N x3 q1 a).bind fun q2 =>
                if x1 = (-1) then
                  f_M_whichNow_54 N a (f_M_whichNow_6 N a n) x1 x2 x3 q2
                else
                  if q2 ≤ x2 then
                    f_M_whichNow_59 N a (f_M_whichNow_6 N a n) x1 x2 x3 q2 0
                  else
                    f_M_whichNow_54 N a (f_M_whichNow_6 N a n) x1 x2 x3 q2
            else
              f_M_whichNow_6 N a n x1 x2 (x3 + 1)
          else none
def f_M_whichNow (N : Nat) (a : aT) : Option Int32 :=
  f_M_whichNow_6 N a N (-1) 0 0
set_option maxHeartbeats 4000000 in
set_option maxRecDepth 100000 in
theorem x_M_whichNow_71 (E : eT) (N : Nat) (a : aT) (k6 : Int32 → Int32 → Int32 → Option Int32) (h6 : ∀ (x1 : Int32) (x2 : Int32) (x3 : Int32), XP qI E md_M_whichNow 6 [.ref 31, .int x1, .int x2, .int x3, .null, .null, .null] [] a (k6 x1 x2 x3)) (x2 : Int32) (x3 : Int32) (x5 : Int32) (x6 : Int32) (y1 : Int32) : XP qI E md_M_whichNow 71 [.ref 31, .null, .int x2, .int x3, .null, .int x5, .int x6] [.int y1] a (f_M_whichNow_71 N a k6 x2 x3 x5 x6 y1) := by
  refine XP_br (c := x6 = 0) (t := 82) (e := 77) (ls' := [.ref 31, .int y1, .int x2, .int x3, .null, .int x5, .int x6]) (st' := []) (a' := a) [(.istore_n 1, 1, 1, .null), (.iload 6, 2, 6, .null), (.ifCond .eq 8, 3, 82, .null)] (by decide +kernel) rfl ?_ ?_
  · refine XP_go (pc' := 6) (ls' := [.ref 31, .int y1, .int x2, .int (x3 + 1), .null, .int x5, .int x6]) (st' := []) (a' := a) [(.iload_n 2, 1, 2, .null), (.istore_n 2, 1, 2, .null), (.iinc 3 1, 3, 3, .int 1), (.goto (-81), 3, 6, .null)] (by decide +kernel) rfl ?_
    refine XP_fg [true, true, true, true, false, false, false] ?_
    exact h6 y1 x2 (x3 + 1)
  · refine XP_go (pc' := 6) (ls' := [.ref 31, .int y1, .int x5, .int (x3 + 1), .null, .int x5, .int x6]) (st' := []) (a' := a) [(.iload 5, 2, 5, .null), (.goto 4, 3, 83, .null), (.istore_n 2, 1, 2, .null), (.iinc 3 1, 3, 3, .int 1), (.goto (-81), 3, 6, .null)] (by decide +kernel) rfl ?_
    refine XP_fg [true, true, true, true, false, false, false] ?_
    exact h6 y1 x5 (x3 + 1)
set_option maxHeartbeats 4000000 in
set_option maxRecDepth 100000 in
theorem x_M_whichNow_59 (E : eT) (N : Nat) (a : aT) (k6 : Int32 → Int32 → Int32 → Option Int32) (h6 : ∀ (x1 : Int32) (x2 : Int32) (x3 : Int32), XP qI E md_M_whichNow 6 [.ref 31, .int x1, .int x2, .int x3, .null, .null, .null] [] a (k6 x1 x2 x3)) (x1 : Int32) (x2 : Int32) (x3 : Int32) (x5 : Int32) (y1 : Int32) : XP qI E md_M_whichNow 59 [.ref 31, .int x1, .int x2, .int x3, .null, .int x5, .null] [.int y1] a (f_M_whichNow_59 N a k6 x1 x2 x3 x5 y1) := by
  refine XP_br (c := y1 = 0) (t := 70) (e := 66) (ls' := [.ref 31, .int x1, .int x2, .int x3, .null, .int x5, .int y1]) (st' := []) (a' := a) [(.istore 6, 2, 6, .null), (.iload 6, 2, 6, .null), (.ifCond .eq 7, 3, 70, .null)] (by decide +kernel) rfl ?_ ?_
  · refine XP_go (pc' := 71) (ls' := [.ref 31, .int x1, .int x2, .int x3, .null, .int x5, .int y1]) (st' := [.int x1]) (a' := a) [(.iload_n 1, 1, 1, .null)] (by decide +kernel) rfl ?_
    refine XP_fg [true, false, true, true, false, true, true] ?_
    exact x_M_whichNow_71 E N a k6 h6 x2 x3 x5 y1 x1
  · refine XP_go (pc' := 71) (ls' := [.ref 31, .int x1, .int x2, .int x3, .null, .int x5, .int y1]) (st' := [.int x3]) (a' := a) [(.iload_n 3, 1, 3, .null), (.goto 4, 3, 71, .null)] (by decide +kernel) rfl ?_
    refine XP_fg [true, false, true, true, false, true, true] ?_
    exact x_M_whichNow_71 E N a k6 h6 x2 x3 x5 y1 x3
set_option maxHeartbeats 4000000 in
set_option maxRecDepth 100000 in
theorem x_M_whichNow_54 (E : eT) (N : Nat) (a : aT) (k6 : Int32 → Int32 → Int32 → Option Int32) (h6 : ∀ (x1 : Int32) (x2 : Int32) (x3 : Int32), XP qI E md_M_whichNow 6 [.ref 31, .int x1, .int x2, .int x3, .null, .null, .null] [] a (k6 x1 x2 x3)) (x1 : Int32) (x2 : Int32) (x3 : Int32) (x5 : Int32) : XP qI E md_M_whichNow 54 [.ref 31, .int x1, .int x2, .int x3, .null, .int x5, .null] [] a (f_M_whichNow_54 N a k6 x1 x2 x3 x5) := by
  refine XP_go (pc' := 59) (ls' := [.ref 31, .int x1, .int x2, .int x3, .null, .int x5, .null]) (st' := [.int 1]) (a' := a) [(.iconst 1, 1, 0, .int 1), (.goto 4, 3, 59, .null)] (by decide +kernel) rfl ?_
  refine XP_fg [true, true, true, true, false, true, false] ?_
  exact x_M_whichNow_59 E N a k6 h6 x1 x2 x3 x5 1
set_option maxHeartbeats 4000000 in
set_option maxRecDepth 100000 in
theorem x_M_whichNow_6 (E : eT) (N : Nat) (a : aT) : ∀ (n : Nat) (x1 : Int32) (x2 : Int32) (x3 : Int32), XP qI E md_M_whichNow 6 [.ref 31, .int x1, .int x2, .int x3, .null, .null, .null] [] a (f_M_whichNow_6 N a n x1 x2 x3)
  | 0, _, _, _ => XP_no rfl
  | n + 1, x1, x2, x3 => by
    refine XP_br (c := 4 ≤ x3) (t := 90) (e := 11) (ls' := [.ref 31, .int x1, .int x2, .int x3, .null, .null, .null]) (st' := []) (a' := a) [(.iload_n 3, 1, 3, .null), (.iconst 4, 1, 0, .int 4), (.if_icmp .ge 82, 3, 90, .null)] (by decide +kernel) rfl ?_ ?_
    · refine XP_go (pc' := 91) (ls' := [.ref 31, .int x1, .int x2, .int x3, .null, .null, .null]) (st' := [.int x1]) (a' := a) [(.iload_n 1, 1, 1, .null)] (by decide +kernel) rfl ?_
      exact XP_retI (by decide +kernel)
    · refine XP_go (pc' := 13) (ls' := [.ref 31, .int x1, .int x2, .int x3, .null, .null, .null]) (st' := [.int x3, .ref 31]) (a' := a) [(.aload_n 0, 1, 0, .null), (.iload_n 3, 1, 3, .null)] (by decide +kernel) rfl ?_
      refine XP_VP (As := [.int x3]) (rest := []) (b := 31) (idx := 238) (by decide +kernel) ok_M_whereOf mv_M_whereOf (n := 1) ⟨lk_M_238, by decide +kernel⟩ rfl rfl rfl rfl (Nat.le_of_ble_eq_true rfl) (Nat.le_of_ble_eq_true rfl) (qI_h rfl) (x_M_whereOf E N x3 a) (fun q1 => ?_)
      refine XP_br (c := q1 = (-1)) (t := 84) (e := 24) (ls' := [.ref 31, .int x1, .int x2, .int x3, .int q1, .null, .null]) (st' := []) (a' := a) [(.istore 4, 2, 4, .null), (.iload 4, 2, 4, .null), (.iconst (-1), 1, 0, .int (-1)), (.if_icmp .eq 63, 3, 84, .null)] (by decide +kernel) rfl ?_ ?_
      · refine XP_go (pc' := 6) (ls' := [.ref 31, .int x1, .int x2, .int (x3 + 1), .int q1, .null, .null]) (st' := []) (a' := a) [(.iinc 3 1, 3, 3, .int 1), (.goto (-81), 3, 6, .null)] (by decide +kernel) rfl ?_
        refine XP_fg [true, true, true, true, false, false, false] ?_
        exact x_M_whichNow_6 E N a n x1 x2 (x3 + 1)
      · refine XP_ck (c := inb x3 4) (pc' := 30) (ls' := [.ref 31, .int x1, .int x2, .int x3, .int q1, .null, .null]) (st' := [.int (a 46 (ix x3))]) (a' := a) [(.aload_n 0, 1, 0, .null), (.getfield 53, 3, 1121, .null), (.iload_n 3, 1, 3, .null), (.iaload, 1, 0, .null)] (by decide +kernel) rfl ?_
        refine XP_br (c := (a 46 (ix x3)) = (-1)) (t := 34) (e := 84) (ls' := [.ref 31, .int x1, .int x2, .int x3, .int q1, .null, .null]) (st' := []) (a' := a) [(.iconst (-1), 1, 0, .int (-1)), (.if_icmp .ne 53, 3, 84, .null)] (by decide +kernel) rfl ?_ ?_
        · refine XP_go (pc' := 38) (ls' := [.ref 31, .int x1, .int x2, .int x3, .int q1, .null, .null]) (st' := [.int q1, .int x3, .ref 31]) (a' := a) [(.aload_n 0, 1, 0, .null), (.iload_n 3, 1, 3, .null), (.iload 4, 2, 4, .null)] (by decide +kernel) rfl ?_
          refine XP_VP (As := [.int x3, .int q1]) (rest := []) (b := 31) (idx := 234) (by decide +kernel) ok_M_worthOf mv_M_worthOf (n := 2) ⟨lk_M_234, by decide +kernel⟩ rfl rfl rfl rfl (Nat.le_of_ble_eq_true rfl) (Nat.le_of_ble_eq_true rfl) (qI_h rfl) (x_M_worthOf E N x3 q1 a) (fun q2 => ?_)
          refine XP_br (c := x1 = (-1)) (t := 54) (e := 48) (ls' := [.ref 31, .int x1, .int x2, .int x3, .int q1, .int q2, .null]) (st' := []) (a' := a) [(.istore 5, 2, 5, .null), (.iload_n 1, 1, 1, .null), (.iconst (-1), 1, 0, .int (-1)), (.if_icmp .eq 9, 3, 54, .null)] (by decide +kernel) rfl ?_ ?_
          · refine XP_fg [true, true, true, true, false, true, false] ?_
            exact x_M_whichNow_54 E N a (f_M_whichNow_6 N a n) (x_M_whichNow_6 E N a n) x1 x2 x3 q2
          · refine XP_br (c := q2 ≤ x2) (t := 58) (e := 54) (ls' := [.ref 31, .int x1, .int x2, .int x3, .int q1, .int q2, .null]) (st' := []) (a' := a) [(.iload 5, 2, 5, .null), (.iload_n 2, 1, 2, .null), (.if_icmp .le 7, 3, 58, .null)] (by decide +kernel) rfl ?_ ?_
            · refine XP_go (pc' := 59) (ls' := [.ref 31, .int x1, .int x2, .int x3, .int q1, .int q2, .null]) (st' := [.int 0]) (a' := a) [(.iconst 0, 1, 0, .int 0)] (by decide +kernel) rfl ?_
              refine XP_fg [true, true, true, true, false, true, false] ?_
              exact x_M_whichNow_59 E N a (f_M_whichNow_6 N a n) (x_M_whichNow_6 E N a n) x1 x2 x3 q2 0
            · refine XP_fg [true, true, true, true, false, true, false] ?_
              exact x_M_whichNow_54 E N a (f_M_whichNow_6 N a n) (x_M_whichNow_6 E N a n) x1 x2 x3 q2
        · refine XP_go (pc' := 6) (ls' := [.ref 31, .int x1, .int x2, .int (x3 + 1), .int q1, .null, .null]) (st' := []) (a' := a) [(.iinc 3 1, 3, 3, .int 1), (.goto (-81), 3, 6, .null)] (by decide +kernel) rfl ?_
          refine XP_fg [true, true, true, true, false, false, false] ?_
          exact x_M_whichNow_6 E N a n x1 x2 (x3 + 1)
set_option maxHeartbeats 4000000 in
set_option maxRecDepth 100000 in
theorem x_M_whichNow (E : eT) (N : Nat) (a : aT) : XP qI E md_M_whichNow 0 [.ref 31, .null, .null, .null, .null, .null, .null] [] a (f_M_whichNow N a) := by
  refine XP_go (pc' := 6) (ls' := [.ref 31, .int (-1), .int 0, .int 0, .null, .null, .null]) (st' := []) (a' := a) [(.iconst (-1), 1, 0, .int (-1)), (.istore_n 1, 1, 1, .null), (.iconst 0, 1, 0, .int 0), (.istore_n 2, 1, 2, .null), (.iconst 0, 1, 0, .int 0), (.istore_n 3, 1, 3, .null)] (by decide +kernel) rfl ?_
  refine XP_fg [true, true, true, true, false, false, false] ?_
  exact x_M_whichNow_6 E N a N (-1) 0 0
/-! ChestnutSticksModel.which()I -/
def md_M_which : md_T := (yX11_which, cX11_which, 1, (some .int), 8, 191)
set_option maxRecDepth 100000 in
theorem ok_M_which : m_ok md_M_which := ⟨List.mem_of_getElem? (i := 1218) (by decide +kernel), by decide +kernel, List.mem_of_getElem? (i := 64) (by decide +kernel), by decide +kernel⟩
theorem mv_M_which : Cond.instanceMethod (m_y md_M_which) ∈ lw_tbl ∧ Cond.selects (m_y md_M_which).cls (m_y md_M_which) (m_y md_M_which) ∈ lw_tbl := ⟨List.mem_of_getElem? (i := 1216) (by decide +kernel), List.mem_of_getElem? (i := 1217) (by decide +kernel)⟩
def f_M_which (N : Nat) (a : aT) : Option (Int32 × aT) :=
  (f_M_find N a).bind fun q1 =>
    (f_M_whichNow N q1.2).bind fun q2 =>
      some (q2, q1.2)
set_option maxHeartbeats 4000000 in
set_option maxRecDepth 100000 in
theorem x_M_which (E : eT) (N : Nat) (a : aT) : XI qI E md_M_which 0 [.ref 31] [] a (f_M_which N a) := by
  refine XI_go (pc' := 1) (ls' := [.ref 31]) (st' := [.ref 31]) (a' := a) [(.aload_n 0, 1, 0, .null)] (by decide +kernel) rfl ?_
  refine XI_VI (As := []) (rest := []) (b := 31) (idx := 204) (by decide +kernel) ok_M_find mv_M_find (n := 0) ⟨lk_M_204, by decide +kernel⟩ rfl rfl rfl rfl (Nat.le_of_ble_eq_true rfl) (Nat.le_of_ble_eq_true rfl) (qV_h rfl) (x_M_find E N a) (fun q1 => ?_)
  refine XI_go (pc' := 5) (ls' := [.ref 31]) (st' := [.ref 31]) (a' := q1.2) [(.aload_n 0, 1, 0, .null)] (by decide +kernel) rfl ?_
  refine XI_VP (As := []) (rest := []) (b := 31) (idx := 241) (by decide +kernel) ok_M_whichNow mv_M_whichNow (n := 0) ⟨lk_M_241, by decide +kernel⟩ rfl rfl rfl rfl (Nat.le_of_ble_eq_true rfl) (Nat.le_of_ble_eq_true rfl) (qI_h rfl) (x_M_whichNow E N q1.2) (fun q2 => ?_)
  exact XI_retI (by decide +kernel)
/-! ChestnutSticks$Play.sixteenthsOfStriking(III)I -/
def md_P_sixteenthsOfStriking : md_T := (yX1_sixteenthsOfStriking, cX1_sixteenthsOfStriking, 8, (some .int), 2, 43)
set_option maxRecDepth 100000 in
theorem ok_P_sixteenthsOfStriking : m_ok md_P_sixteenthsOfStriking := ⟨List.mem_of_getElem? (i := 639) (by decide +kernel), by decide +kernel, List.mem_of_getElem? (i := 59) (by decide +kernel), by decide +kernel⟩
theorem mv_P_sixteenthsOfStriking : Cond.instanceMethod (m_y md_P_sixteenthsOfStriking) ∈ lw_tbl ∧ Cond.selects (m_y md_P_sixteenthsOfStriking).cls (m_y md_P_sixteenthsOfStriking) (m_y md_P_sixteenthsOfStriking) ∈ lw_tbl := ⟨List.mem_of_getElem? (i := 637) (by decide +kernel), List.mem_of_getElem? (i := 638) (by decide +kernel)⟩
def f_P_sixteenthsOfStriking_78 (a : aT) (x3 : Int32) (x4 : Int32) (x5 : Int32) (x6 : Int32) (x7 : Int32) (y2 : Int32) (y1 : Int32) : Option Int32 :=
  if (f_P_strikes x5 (x6 + 1) x7 x3) = 0 then
    some ((y1 + y2) + 0)
  else
    some ((y1 + y2) + x4)
def f_P_sixteenthsOfStriking_54 (a : aT) (x3 : Int32) (x4 : Int32) (x5 : Int32) (x6 : Int32) (x7 : Int32) (y1 : Int32) : Option Int32 :=
  if (f_P_strikes x5 x6 x7 x3) = 0 then
    f_P_sixteenthsOfStriking_78 a x3 x4 x5 x6 x7 0 y1
  else
    f_P_sixteenthsOfStriking_78 a x3 x4 x5 x6 x7 (16 - (2 * x4)) y1
def f_P_sixteenthsOfStriking (p1 : Int32) (p2 : Int32) (p3 : Int32) (a : aT) : Option Int32 :=
  (f_R_now 0 a).bind fun q1 =>
    (f_T_now p1 1 a).bind fun q2 =>
      if (f_P_strikes (p2 / 8) ((i_rem p2 8) - 1) q2 p3) = 0 then
        f_P_sixteenthsOfStriking_54 a p3 q1 (p2 / 8) (i_rem p2 8) q2 0
      else
        f_P_sixteenthsOfStriking_54 a p3 q1 (p2 / 8) (i_rem p2 8) q2 q1
set_option maxHeartbeats 4000000 in
set_option maxRecDepth 100000 in
theorem x_P_sixteenthsOfStriking_78 (E : eT) (a : aT) (x3 : Int32) (x4 : Int32) (x5 : Int32) (x6 : Int32) (x7 : Int32) (y2 : Int32) (y1 : Int32) : XP qI E md_P_sixteenthsOfStriking 78 [.null, .null, .null, .int x3, .int x4, .int x5, .int x6, .int x7] [.int y2, .int y1] a (f_P_sixteenthsOfStriking_78 a x3 x4 x5 x6 x7 y2 y1) := by
  refine XP_go (pc' := 88) (ls' := [.null, .null, .null, .int x3, .int x4, .int x5, .int x6, .int x7]) (st' := [.int x3, .int x7, .int (x6 + 1), .int x5, .int (y1 + y2)]) (a' := a) [(.iadd, 1, 0, .null), (.iload 5, 2, 5, .null), (.iload 6, 2, 6, .null), (.iconst 1, 1, 0, .int 1), (.iadd, 1, 0, .null), (.iload 7, 2, 7, .null), (.iload_n 3, 1, 3, .null)] (by decide +kernel) rfl ?_
  refine XP_ST (As := [.int x5, .int (x6 + 1), .int x7, .int x3]) (rest := [.int (y1 + y2)]) (idx := 112) (by decide +kernel) ok_P_strikes mv_P_strikes (n := 4) ⟨lk_P_112, by decide +kernel⟩ rfl (Nat.le_of_ble_eq_true rfl) (Nat.le_of_ble_eq_true rfl) (qZ_h rfl) (x_P_strikes E x5 (x6 + 1) x7 x3 a) ?_
  refine XP_br (c := (f_P_strikes x5 (x6 + 1) x7 x3) = 0) (t := 99) (e := 94) (ls' := [.null, .null, .null, .int x3, .int x4, .int x5, .int x6, .int x7]) (st' := [.int (y1 + y2)]) (a' := a) [(.ifCond .eq 8, 3, 99, .null)] (by decide +kernel) rfl ?_ ?_
  · refine XP_go (pc' := 101) (ls' := [.null, .null, .null, .int x3, .int x4, .int x5, .int x6, .int x7]) (st' := [.int ((y1 + y2) + 0)]) (a' := a) [(.iconst 0, 1, 0, .int 0), (.iadd, 1, 0, .null)] (by decide +kernel) rfl ?_
    exact XP_retI (by decide +kernel)
  · refine XP_go (pc' := 101) (ls' := [.null, .null, .null, .int x3, .int x4, .int x5, .int x6, .int x7]) (st' := [.int ((y1 + y2) + x4)]) (a' := a) [(.iload 4, 2, 4, .null), (.goto 4, 3, 100, .null), (.iadd, 1, 0, .null)] (by decide +kernel) rfl ?_
    exact XP_retI (by decide +kernel)
set_option maxHeartbeats 4000000 in
set_option maxRecDepth 100000 in
theorem x_P_sixteenthsOfStriking_54 (E : eT) (a : aT) (x3 : Int32) (x4 : Int32) (x5 : Int32) (x6 : Int32) (x7 : Int32) (y1 : Int32) : XP qI E md_P_sixteenthsOfStriking 54 [.null, .null, .null, .int x3, .int x4, .int x5, .int x6, .int x7] [.int y1] a (f_P_sixteenthsOfStriking_54 a x3 x4 x5 x6 x7 y1) := by
  refine XP_go (pc' := 61) (ls' := [.null, .null, .null, .int x3, .int x4, .int x5, .int x6, .int x7]) (st' := [.int x3, .int x7, .int x6, .int x5, .int y1]) (a' := a) [(.iload 5, 2, 5, .null), (.iload 6, 2, 6, .null), (.iload 7, 2, 7, .null), (.iload_n 3, 1, 3, .null)] (by decide +kernel) rfl ?_
  refine XP_ST (As := [.int x5, .int x6, .int x7, .int x3]) (rest := [.int y1]) (idx := 112) (by decide +kernel) ok_P_strikes mv_P_strikes (n := 4) ⟨lk_P_112, by decide +kernel⟩ rfl (Nat.le_of_ble_eq_true rfl) (Nat.le_of_ble_eq_true rfl) (qZ_h rfl) (x_P_strikes E x5 x6 x7 x3 a) ?_
  refine XP_br (c := (f_P_strikes x5 x6 x7 x3) = 0) (t := 77) (e := 67) (ls' := [.null, .null, .null, .int x3, .int x4, .int x5, .int x6, .int x7]) (st' := [.int y1]) (a' := a) [(.ifCond .eq 13, 3, 77, .null)] (by decide +kernel) rfl ?_ ?_
  · refine XP_go (pc' := 78) (ls' := [.null, .null, .null, .int x3, .int x4, .int x5, .int x6, .int x7]) (st' := [.int 0, .int y1]) (a' := a) [(.iconst 0, 1, 0, .int 0)] (by decide +kernel) rfl ?_
    refine XP_fg [false, false, false, true, true, true, true, true] ?_
    exact x_P_sixteenthsOfStriking_78 E a x3 x4 x5 x6 x7 0 y1
  · refine XP_go (pc' := 78) (ls' := [.null, .null, .null, .int x3, .int x4, .int x5, .int x6, .int x7]) (st' := [.int (16 - (2 * x4)), .int y1]) (a' := a) [(.bipush 16, 2, 0, .int 16), (.iconst 2, 1, 0, .int 2), (.iload 4, 2, 4, .null), (.imul, 1, 0, .null), (.isub, 1, 0, .null), (.goto 4, 3, 78, .null)] (by decide +kernel) rfl ?_
    refine XP_fg [false, false, false, true, true, true, true, true] ?_
    exact x_P_sixteenthsOfStriking_78 E a x3 x4 x5 x6 x7 (16 - (2 * x4)) y1
set_option maxHeartbeats 4000000 in
set_option maxRecDepth 100000 in
theorem x_P_sixteenthsOfStriking (E : eT) (p1 : Int32) (p2 : Int32) (p3 : Int32) (a : aT) : XP qI E md_P_sixteenthsOfStriking 0 [.ref 14, .int p1, .int p2, .int p3, .null, .null, .null, .null] [] a (f_P_sixteenthsOfStriking p1 p2 p3 a) := by
  refine XP_go (pc' := 5) (ls' := [.ref 14, .int p1, .int p2, .int p3, .null, .null, .null, .null]) (st' := [.int 0, .ref 6]) (a' := a) [(.aload_n 0, 1, 0, .null), (.getfield 48, 3, 102, .null), (.iconst 0, 1, 0, .int 0)] (by decide +kernel) rfl ?_
  refine XP_VP (As := [.int 0]) (rest := []) (b := 6) (idx := 86) (by decide +kernel) ok_R_now mv_R_now (n := 1) ⟨lk_P_86, by decide +kernel⟩ rfl rfl rfl rfl (Nat.le_of_ble_eq_true rfl) (Nat.le_of_ble_eq_true rfl) (qI_h rfl) (x_R_now E 0 a) (fun q1 => ?_)
  refine XP_go (pc' := 28) (ls' := [.ref 14, .int p1, .int p2, .int p3, .int q1, .int (p2 / 8), .int (i_rem p2 8), .null]) (st' := [.int 1, .int p1, .ref 4]) (a' := a) [(.istore 4, 2, 4, .null), (.iload_n 2, 1, 2, .null), (.bipush 8, 2, 0, .int 8), (.idiv, 1, 0, .null), (.istore 5, 2, 5, .null), (.iload_n 2, 1, 2, .null), (.bipush 8, 2, 0, .int 8), (.irem, 1, 0, .null), (.istore 6, 2, 6, .null), (.aload_n 0, 1, 0, .null), (.getfield 44, 3, 101, .null), (.iload_n 1, 1, 1, .null), (.iconst 1, 1, 0, .int 1)] (by decide +kernel) rfl ?_
  refine XP_VP (As := [.int p1, .int 1]) (rest := []) (b := 4) (idx := 108) (by decide +kernel) ok_T_now mv_T_now (n := 2) ⟨lk_P_108, by decide +kernel⟩ rfl rfl rfl rfl (Nat.le_of_ble_eq_true rfl) (Nat.le_of_ble_eq_true rfl) (qI_h rfl) (x_T_now E p1 1 a) (fun q2 => ?_)
  refine XP_go (pc' := 42) (ls' := [.ref 14, .int p1, .int p2, .int p3, .int q1, .int (p2 / 8), .int (i_rem p2 8), .int q2]) (st' := [.int p3, .int q2, .int ((i_rem p2 8) - 1), .int (p2 / 8)]) (a' := a) [(.istore 7, 2, 7, .null), (.iload 5, 2, 5, .null), (.iload 6, 2, 6, .null), (.iconst 1, 1, 0, .int 1), (.isub, 1, 0, .null), (.iload 7, 2, 7, .null), (.iload_n 3, 1, 3, .null)] (by decide +kernel) rfl ?_
  refine XP_ST (As := [.int (p2 / 8), .int ((i_rem p2 8) - 1), .int q2, .int p3]) (rest := []) (idx := 112) (by decide +kernel) ok_P_strikes mv_P_strikes (n := 4) ⟨lk_P_112, by decide +kernel⟩ rfl (Nat.le_of_ble_eq_true rfl) (Nat.le_of_ble_eq_true rfl) (qZ_h rfl) (x_P_strikes E (p2 / 8) ((i_rem p2 8) - 1) q2 p3 a) ?_
  refine XP_br (c := (f_P_strikes (p2 / 8) ((i_rem p2 8) - 1) q2 p3) = 0) (t := 53) (e := 48) (ls' := [.ref 14, .int p1, .int p2, .int p3, .int q1, .int (p2 / 8), .int (i_rem p2 8), .int q2]) (st' := []) (a' := a) [(.ifCond .eq 8, 3, 53, .null)] (by decide +kernel) rfl ?_ ?_
  · refine XP_go (pc' := 54) (ls' := [.ref 14, .int p1, .int p2, .int p3, .int q1, .int (p2 / 8), .int (i_rem p2 8), .int q2]) (st' := [.int 0]) (a' := a) [(.iconst 0, 1, 0, .int 0)] (by decide +kernel) rfl ?_
    refine XP_fg [false, false, false, true, true, true, true, true] ?_
    exact x_P_sixteenthsOfStriking_54 E a p3 q1 (p2 / 8) (i_rem p2 8) q2 0
  · refine XP_go (pc' := 54) (ls' := [.ref 14, .int p1, .int p2, .int p3, .int q1, .int (p2 / 8), .int (i_rem p2 8), .int q2]) (st' := [.int q1]) (a' := a) [(.iload 4, 2, 4, .null), (.goto 4, 3, 54, .null)] (by decide +kernel) rfl ?_
    refine XP_fg [false, false, false, true, true, true, true, true] ?_
    exact x_P_sixteenthsOfStriking_54 E a p3 q1 (p2 / 8) (i_rem p2 8) q2 q1
/-! ChestnutSticks.frees(III)I -/
def md_C_frees : md_T := (yX10_frees, cX10_frees, 5, (some .int), 6, 142)
set_option maxRecDepth 100000 in
theorem ok_C_frees : m_ok md_C_frees := ⟨List.mem_of_getElem? (i := 635) (by decide +kernel), by decide +kernel, List.mem_of_getElem? (i := 53) (by decide +kernel), by decide +kernel⟩
theorem mv_C_frees : Cond.instanceMethod (m_y md_C_frees) ∈ lw_tbl ∧ Cond.selects (m_y md_C_frees).cls (m_y md_C_frees) (m_y md_C_frees) ∈ lw_tbl := ⟨List.mem_of_getElem? (i := 633) (by decide +kernel), List.mem_of_getElem? (i := 634) (by decide +kernel)⟩
def f_C_frees (N : Nat) (p1 : Int32) (p2 : Int32) (p3 : Int32) (a : aT) : Option (Int32 × aT) :=
  if (f_C_isBelow p1 4) = 0 then
    some ((-2), a)
  else
    (f_E_isCell p2 a).bind fun q2 =>
      if q2 = 0 then
        some ((-2), a)
      else
        if (f_C_isBelow p3 4) = 0 then
          some ((-2), a)
        else
          (f_P_replayAll N a).bind fun q4 =>
            (f_P_lodgedIn p3 q4.2).bind fun q5 =>
              if q5 = (-1) then
                some ((-3), q4.2)
              else
                (f_P_sixteenthsOfStriking p1 p2 q5 q4.2).bind fun q6 =>
                  some (q6, q4.2)
set_option maxHeartbeats 4000000 in
set_option maxRecDepth 100000 in
theorem x_C_frees (E : eT) (N : Nat) (p1 : Int32) (p2 : Int32) (p3 : Int32) (a : aT) : XI qI E md_C_frees 0 [.ref 0, .int p1, .int p2, .int p3, .null] [] a (f_C_frees N p1 p2 p3 a) := by
  refine XI_go (pc' := 2) (ls' := [.ref 0, .int p1, .int p2, .int p3, .null]) (st' := [.int 4, .int p1]) (a' := a) [(.iload_n 1, 1, 1, .null), (.iconst 4, 1, 0, .int 4)] (by decide +kernel) rfl ?_
  refine XI_ST (As := [.int p1, .int 4]) (rest := []) (idx := 110) (by decide +kernel) ok_C_isBelow mv_C_isBelow (n := 2) ⟨lk_C_110, by decide +kernel⟩ rfl (Nat.le_of_ble_eq_true rfl) (Nat.le_of_ble_eq_true rfl) (qZ_h rfl) (x_C_isBelow E p1 4 a) ?_
  refine XI_br (c := (f_C_isBelow p1 4) = 0) (t := 27) (e := 8) (ls' := [.ref 0, .int p1, .int p2, .int p3, .null]) (st' := []) (a' := a) [(.ifCond .eq 22, 3, 27, .null)] (by decide +kernel) rfl ?_ ?_
  · refine XI_go (pc' := 29) (ls' := [.ref 0, .int p1, .int p2, .int p3, .null]) (st' := [.int (-2)]) (a' := a) [(.bipush (-2), 2, 0, .int (-2))] (by decide +kernel) rfl ?_
    exact XI_retI (by decide +kernel)
  · refine XI_go (pc' := 13) (ls' := [.ref 0, .int p1, .int p2, .int p3, .null]) (st' := [.int p2, .ref 1]) (a' := a) [(.aload_n 0, 1, 0, .null), (.getfield 10, 3, 1000, .null), (.iload_n 2, 1, 2, .null)] (by decide +kernel) rfl ?_
    refine XI_VP (As := [.int p2]) (rest := []) (b := 1) (idx := 166) (by decide +kernel) ok_E_isCell mv_E_isCell (n := 1) ⟨lk_C_166, by decide +kernel⟩ rfl rfl rfl rfl (Nat.le_of_ble_eq_true rfl) (Nat.le_of_ble_eq_true rfl) (qZ_h rfl) (x_E_isCell E p2 a) (fun q2 => ?_)
    refine XI_br (c := q2 = 0) (t := 27) (e := 19) (ls' := [.ref 0, .int p1, .int p2, .int p3, .null]) (st' := []) (a' := a) [(.ifCond .eq 11, 3, 27, .null)] (by decide +kernel) rfl ?_ ?_
    · refine XI_go (pc' := 29) (ls' := [.ref 0, .int p1, .int p2, .int p3, .null]) (st' := [.int (-2)]) (a' := a) [(.bipush (-2), 2, 0, .int (-2))] (by decide +kernel) rfl ?_
      exact XI_retI (by decide +kernel)
    · refine XI_go (pc' := 21) (ls' := [.ref 0, .int p1, .int p2, .int p3, .null]) (st' := [.int 4, .int p3]) (a' := a) [(.iload_n 3, 1, 3, .null), (.iconst 4, 1, 0, .int 4)] (by decide +kernel) rfl ?_
      refine XI_ST (As := [.int p3, .int 4]) (rest := []) (idx := 110) (by decide +kernel) ok_C_isBelow mv_C_isBelow (n := 2) ⟨lk_C_110, by decide +kernel⟩ rfl (Nat.le_of_ble_eq_true rfl) (Nat.le_of_ble_eq_true rfl) (qZ_h rfl) (x_C_isBelow E p3 4 a) ?_
      refine XI_br (c := (f_C_isBelow p3 4) = 0) (t := 27) (e := 30) (ls' := [.ref 0, .int p1, .int p2, .int p3, .null]) (st' := []) (a' := a) [(.ifCond .ne 6, 3, 30, .null)] (by decide +kernel) rfl ?_ ?_
      · refine XI_go (pc' := 29) (ls' := [.ref 0, .int p1, .int p2, .int p3, .null]) (st' := [.int (-2)]) (a' := a) [(.bipush (-2), 2, 0, .int (-2))] (by decide +kernel) rfl ?_
        exact XI_retI (by decide +kernel)
      · refine XI_go (pc' := 34) (ls' := [.ref 0, .int p1, .int p2, .int p3, .null]) (st' := [.ref 14]) (a' := a) [(.aload_n 0, 1, 0, .null), (.getfield 49, 3, 1005, .null)] (by decide +kernel) rfl ?_
        refine XI_VI (As := []) (rest := []) (b := 14) (idx := 135) (by decide +kernel) ok_P_replayAll mv_P_replayAll (n := 0) ⟨lk_C_135, by decide +kernel⟩ rfl rfl rfl rfl (Nat.le_of_ble_eq_true rfl) (Nat.le_of_ble_eq_true rfl) (qV_h rfl) (x_P_replayAll E N a) (fun q4 => ?_)
        refine XI_go (pc' := 42) (ls' := [.ref 0, .int p1, .int p2, .int p3, .null]) (st' := [.int p3, .ref 14]) (a' := q4.2) [(.aload_n 0, 1, 0, .null), (.getfield 49, 3, 1005, .null), (.iload_n 3, 1, 3, .null)] (by decide +kernel) rfl ?_
        refine XI_VP (As := [.int p3]) (rest := []) (b := 14) (idx := 194) (by decide +kernel) ok_P_lodgedIn mv_P_lodgedIn (n := 1) ⟨lk_C_194, by decide +kernel⟩ rfl rfl rfl rfl (Nat.le_of_ble_eq_true rfl) (Nat.le_of_ble_eq_true rfl) (qI_h rfl) (x_P_lodgedIn E p3 q4.2) (fun q5 => ?_)
        refine XI_br (c := q5 = (-1)) (t := 53) (e := 58) (ls' := [.ref 0, .int p1, .int p2, .int p3, .int q5]) (st' := []) (a' := q4.2) [(.istore 4, 2, 4, .null), (.iload 4, 2, 4, .null), (.iconst (-1), 1, 0, .int (-1)), (.if_icmp .ne 8, 3, 58, .null)] (by decide +kernel) rfl ?_ ?_
        · refine XI_go (pc' := 69) (ls' := [.ref 0, .int p1, .int p2, .int p3, .int q5]) (st' := [.int (-3)]) (a' := q4.2) [(.bipush (-3), 2, 0, .int (-3)), (.goto 14, 3, 69, .null)] (by decide +kernel) rfl ?_
          exact XI_retI (by decide +kernel)
        · refine XI_go (pc' := 66) (ls' := [.ref 0, .int p1, .int p2, .int p3, .int q5]) (st' := [.int q5, .int p2, .int p1, .ref 14]) (a' := q4.2) [(.aload_n 0, 1, 0, .null), (.getfield 49, 3, 1005, .null), (.iload_n 1, 1, 1, .null), (.iload_n 2, 1, 2, .null), (.iload 4, 2, 4, .null)] (by decide +kernel) rfl ?_
          refine XI_VP (As := [.int p1, .int p2, .int q5]) (rest := []) (b := 14) (idx := 197) (by decide +kernel) ok_P_sixteenthsOfStriking mv_P_sixteenthsOfStriking (n := 3) ⟨lk_C_197, by decide +kernel⟩ rfl rfl rfl rfl (Nat.le_of_ble_eq_true rfl) (Nat.le_of_ble_eq_true rfl) (qI_h rfl) (x_P_sixteenthsOfStriking E p1 p2 q5 q4.2) (fun q6 => ?_)
          exact XI_retI (by decide +kernel)
/-! ChestnutSticksModel.freesOf(III)I -/
def md_M_freesOf : md_T := (yX11_freesOf, cX11_freesOf, 8, (some .int), 2, 49)
set_option maxRecDepth 100000 in
theorem ok_M_freesOf : m_ok md_M_freesOf := ⟨List.mem_of_getElem? (i := 1230) (by decide +kernel), by decide +kernel, List.mem_of_getElem? (i := 64) (by decide +kernel), by decide +kernel⟩
theorem mv_M_freesOf : Cond.instanceMethod (m_y md_M_freesOf) ∈ lw_tbl ∧ Cond.selects (m_y md_M_freesOf).cls (m_y md_M_freesOf) (m_y md_M_freesOf) ∈ lw_tbl := ⟨List.mem_of_getElem? (i := 1229) (by decide +kernel), List.mem_of_getElem? (i := 40) (by decide +kernel)⟩
def f_M_freesOf_88 (a : aT) (x1 : Int32) (x4 : Int32) (x5 : Int32) (x6 : Int32) (y2 : Int32) (y1 : Int32) : Option Int32 :=
  (f_M_strikes x1 x5 (x6 + 1) x4 a).bind fun q3 =>
    if q3 = 0 then
      some ((y1 + y2) + 0)
    else
      some ((y1 + y2) + (a 42 0))
def f_M_freesOf_58 (a : aT) (x1 : Int32) (x4 : Int32) (x5 : Int32) (x6 : Int32) (y1 : Int32) : Option Int32 :=
  (f_M_strikes x1 x5 (x6 - 1) x4 a).bind fun q2 =>
    if q2 = 0 then
      f_M_freesOf_88 a x1 x4 x5 x6 0 y1
    else
      f_M_freesOf_88 a x1 x4 x5 x6 (a 42 0) y1
def f_M_freesOf (p1 : Int32) (p2 : Int32) (p3 : Int32) (a : aT) : Option Int32 :=
  if inb p3 4 then
    if (a 46 (ix p3)) = (-1) then
      some (-3)
    else
      (f_M_strikes p1 (p2 / 8) (i_rem p2 8) (a 46 (ix p3)) a).bind fun q1 =>
        if q1 = 0 then
          f_M_freesOf_58 a p1 (a 46 (ix p3)) (p2 / 8) (i_rem p2 8) 0
        else
          f_M_freesOf_58 a p1 (a 46 (ix p3)) (p2 / 8) (i_rem p2 8) (16 - (2 * (a 42 0)))
  else none
set_option maxHeartbeats 4000000 in
set_option maxRecDepth 100000 in
theorem x_M_freesOf_88 (E : eT) (a : aT) (x1 : Int32) (x4 : Int32) (x5 : Int32) (x6 : Int32) (y2 : Int32) (y1 : Int32) : XP qI E md_M_freesOf 88 [.ref 31, .int x1, .null, .null, .int x4, .int x5, .int x6, .null] [.int y2, .int y1] a (f_M_freesOf_88 a x1 x4 x5 x6 y2 y1) := by
  refine XP_go (pc' := 103) (ls' := [.ref 31, .int x1, .null, .null, .int x4, .int x5, .int x6, .int (y1 + y2)]) (st' := [.int x4, .int (x6 + 1), .int x5, .int x1, .ref 31, .int (y1 + y2)]) (a' := a) [(.iadd, 1, 0, .null), (.istore 7, 2, 7, .null), (.iload 7, 2, 7, .null), (.aload_n 0, 1, 0, .null), (.iload_n 1, 1, 1, .null), (.iload 5, 2, 5, .null), (.iload 6, 2, 6, .null), (.iconst 1, 1, 0, .int 1), (.iadd, 1, 0, .null), (.iload 4, 2, 4, .null)] (by decide +kernel) rfl ?_
  refine XP_VP (As := [.int x1, .int x5, .int (x6 + 1), .int x4]) (rest := [.int (y1 + y2)]) (b := 31) (idx := 181) (by decide +kernel) ok_M_strikes mv_M_strikes (n := 4) ⟨lk_M_181, by decide +kernel⟩ rfl rfl rfl rfl (Nat.le_of_ble_eq_true rfl) (Nat.le_of_ble_eq_true rfl) (qZ_h rfl) (x_M_strikes E x1 x5 (x6 + 1) x4 a) (fun q3 => ?_)
  refine XP_br (c := q3 = 0) (t := 118) (e := 109) (ls' := [.ref 31, .int x1, .null, .null, .int x4, .int x5, .int x6, .int (y1 + y2)]) (st' := [.int (y1 + y2)]) (a' := a) [(.ifCond .eq 12, 3, 118, .null)] (by decide +kernel) rfl ?_ ?_
  · refine XP_go (pc' := 120) (ls' := [.ref 31, .int x1, .null, .null, .int x4, .int x5, .int x6, .int (y1 + y2)]) (st' := [.int ((y1 + y2) + 0)]) (a' := a) [(.iconst 0, 1, 0, .int 0), (.iadd, 1, 0, .null)] (by decide +kernel) rfl ?_
    exact XP_retI (by decide +kernel)
  · refine XP_go (pc' := 120) (ls' := [.ref 31, .int x1, .null, .null, .int x4, .int x5, .int x6, .int (y1 + y2)]) (st' := [.int ((y1 + y2) + (a 42 0))]) (a' := a) [(.aload_n 0, 1, 0, .null), (.getfield 41, 3, 1115, .null), (.iconst 0, 1, 0, .int 0), (.iaload, 1, 0, .null), (.goto 4, 3, 119, .null), (.iadd, 1, 0, .null)] (by decide +kernel) rfl ?_
    exact XP_retI (by decide +kernel)
set_option maxHeartbeats 4000000 in
set_option maxRecDepth 100000 in
theorem x_M_freesOf_58 (E : eT) (a : aT) (x1 : Int32) (x4 : Int32) (x5 : Int32) (x6 : Int32) (y1 : Int32) : XP qI E md_M_freesOf 58 [.ref 31, .int x1, .null, .null, .int x4, .int x5, .int x6, .null] [.int y1] a (f_M_freesOf_58 a x1 x4 x5 x6 y1) := by
  refine XP_go (pc' := 72) (ls' := [.ref 31, .int x1, .null, .null, .int x4, .int x5, .int x6, .int y1]) (st' := [.int x4, .int (x6 - 1), .int x5, .int x1, .ref 31, .int y1]) (a' := a) [(.istore 7, 2, 7, .null), (.iload 7, 2, 7, .null), (.aload_n 0, 1, 0, .null), (.iload_n 1, 1, 1, .null), (.iload 5, 2, 5, .null), (.iload 6, 2, 6, .null), (.iconst 1, 1, 0, .int 1), (.isub, 1, 0, .null), (.iload 4, 2, 4, .null)] (by decide +kernel) rfl ?_
  refine XP_VP (As := [.int x1, .int x5, .int (x6 - 1), .int x4]) (rest := [.int y1]) (b := 31) (idx := 181) (by decide +kernel) ok_M_strikes mv_M_strikes (n := 4) ⟨lk_M_181, by decide +kernel⟩ rfl rfl rfl rfl (Nat.le_of_ble_eq_true rfl) (Nat.le_of_ble_eq_true rfl) (qZ_h rfl) (x_M_strikes E x1 x5 (x6 - 1) x4 a) (fun q2 => ?_)
  refine XP_br (c := q2 = 0) (t := 87) (e := 78) (ls' := [.ref 31, .int x1, .null, .null, .int x4, .int x5, .int x6, .int y1]) (st' := [.int y1]) (a' := a) [(.ifCond .eq 12, 3, 87, .null)] (by decide +kernel) rfl ?_ ?_
  · refine XP_go (pc' := 88) (ls' := [.ref 31, .int x1, .null, .null, .int x4, .int x5, .int x6, .int y1]) (st' := [.int 0, .int y1]) (a' := a) [(.iconst 0, 1, 0, .int 0)] (by decide +kernel) rfl ?_
    refine XP_fg [true, true, false, false, true, true, true, false] ?_
    exact x_M_freesOf_88 E a x1 x4 x5 x6 0 y1
  · refine XP_go (pc' := 88) (ls' := [.ref 31, .int x1, .null, .null, .int x4, .int x5, .int x6, .int y1]) (st' := [.int (a 42 0), .int y1]) (a' := a) [(.aload_n 0, 1, 0, .null), (.getfield 41, 3, 1115, .null), (.iconst 0, 1, 0, .int 0), (.iaload, 1, 0, .null), (.goto 4, 3, 88, .null)] (by decide +kernel) rfl ?_
    refine XP_fg [true, true, false, false, true, true, true, false] ?_
    exact x_M_freesOf_88 E a x1 x4 x5 x6 (a 42 0) y1
set_option maxHeartbeats 4000000 in
set_option maxRecDepth 100000 in
theorem x_M_freesOf (E : eT) (p1 : Int32) (p2 : Int32) (p3 : Int32) (a : aT) : XP qI E md_M_freesOf 0 [.ref 31, .int p1, .int p2, .int p3, .null, .null, .null, .null] [] a (f_M_freesOf p1 p2 p3 a) := by
  refine XP_ck (c := inb p3 4) (pc' := 6) (ls' := [.ref 31, .int p1, .int p2, .int p3, .null, .null, .null, .null]) (st' := [.int (a 46 (ix p3))]) (a' := a) [(.aload_n 0, 1, 0, .null), (.getfield 53, 3, 1121, .null), (.iload_n 3, 1, 3, .null), (.iaload, 1, 0, .null)] (by decide +kernel) rfl ?_
  refine XP_br (c := (a 46 (ix p3)) = (-1)) (t := 14) (e := 17) (ls' := [.ref 31, .int p1, .int p2, .int p3, .int (a 46 (ix p3)), .null, .null, .null]) (st' := []) (a' := a) [(.istore 4, 2, 4, .null), (.iload 4, 2, 4, .null), (.iconst (-1), 1, 0, .int (-1)), (.if_icmp .ne 6, 3, 17, .null)] (by decide +kernel) rfl ?_ ?_
  · refine XP_go (pc' := 16) (ls' := [.ref 31, .int p1, .int p2, .int p3, .int (a 46 (ix p3)), .null, .null, .null]) (st' := [.int (-3)]) (a' := a) [(.bipush (-3), 2, 0, .int (-3))] (by decide +kernel) rfl ?_
    exact XP_retI (by decide +kernel)
  · refine XP_go (pc' := 37) (ls' := [.ref 31, .int p1, .int p2, .int p3, .int (a 46 (ix p3)), .int (p2 / 8), .int (i_rem p2 8), .null]) (st' := [.int (a 46 (ix p3)), .int (i_rem p2 8), .int (p2 / 8), .int p1, .ref 31]) (a' := a) [(.iload_n 2, 1, 2, .null), (.bipush 8, 2, 0, .int 8), (.idiv, 1, 0, .null), (.istore 5, 2, 5, .null), (.iload_n 2, 1, 2, .null), (.bipush 8, 2, 0, .int 8), (.irem, 1, 0, .null), (.istore 6, 2, 6, .null), (.aload_n 0, 1, 0, .null), (.iload_n 1, 1, 1, .null), (.iload 5, 2, 5, .null), (.iload 6, 2, 6, .null), (.iload 4, 2, 4, .null)] (by decide +kernel) rfl ?_
    refine XP_VP (As := [.int p1, .int (p2 / 8), .int (i_rem p2 8), .int (a 46 (ix p3))]) (rest := []) (b := 31) (idx := 181) (by decide +kernel) ok_M_strikes mv_M_strikes (n := 4) ⟨lk_M_181, by decide +kernel⟩ rfl rfl rfl rfl (Nat.le_of_ble_eq_true rfl) (Nat.le_of_ble_eq_true rfl) (qZ_h rfl) (x_M_strikes E p1 (p2 / 8) (i_rem p2 8) (a 46 (ix p3)) a) (fun q1 => ?_)
    refine XP_br (c := q1 = 0) (t := 57) (e := 43) (ls' := [.ref 31, .int p1, .int p2, .int p3, .int (a 46 (ix p3)), .int (p2 / 8), .int (i_rem p2 8), .null]) (st' := []) (a' := a) [(.ifCond .eq 17, 3, 57, .null)] (by decide +kernel) rfl ?_ ?_
    · refine XP_go (pc' := 58) (ls' := [.ref 31, .int p1, .int p2, .int p3, .int (a 46 (ix p3)), .int (p2 / 8), .int (i_rem p2 8), .null]) (st' := [.int 0]) (a' := a) [(.iconst 0, 1, 0, .int 0)] (by decide +kernel) rfl ?_
      refine XP_fg [true, true, false, false, true, true, true, false] ?_
      exact x_M_freesOf_58 E a p1 (a 46 (ix p3)) (p2 / 8) (i_rem p2 8) 0
    · refine XP_go (pc' := 58) (ls' := [.ref 31, .int p1, .int p2, .int p3, .int (a 46 (ix p3)), .int (p2 / 8), .int (i_rem p2 8), .null]) (st' := [.int (16 - (2 * (a 42 0)))]) (a' := a) [(.bipush 16, 2, 0, .int 16), (.iconst 2, 1, 0, .int 2), (.aload_n 0, 1, 0, .null), (.getfield 41, 3, 1115, .null), (.iconst 0, 1, 0, .int 0), (.iaload, 1, 0, .null), (.imul, 1, 0, .null), (.isub, 1, 0, .null), (.goto 4, 3, 58, .null)] (by decide +kernel) rfl ?_
      refine XP_fg [true, true, false, false, true, true, true, false] ?_
      exact x_M_freesOf_58 E a p1 (a 46 (ix p3)) (p2 / 8) (i_rem p2 8) (16 - (2 * (a 42 0)))
/-! ChestnutSticksModel.frees(III)I -/
def md_M_frees : md_T := (yX11_frees, cX11_frees, 4, (some .int), 7, 158)
set_option maxRecDepth 100000 in
theorem ok_M_frees : m_ok md_M_frees := ⟨List.mem_of_getElem? (i := 1226) (by decide +kernel), by decide +kernel, List.mem_of_getElem? (i := 64) (by decide +kernel), by decide +kernel⟩
theorem mv_M_frees : Cond.instanceMethod (m_y md_M_frees) ∈ lw_tbl ∧ Cond.selects (m_y md_M_frees).cls (m_y md_M_frees) (m_y md_M_frees) ∈ lw_tbl := ⟨List.mem_of_getElem? (i := 1224) (by decide +kernel), List.mem_of_getElem? (i := 1225) (by decide +kernel)⟩
def f_M_frees (N : Nat) (p1 : Int32) (p2 : Int32) (p3 : Int32) (a : aT) : Option (Int32 × aT) :=
  (f_M_find N a).bind fun q1 =>
    if (f_M_isFour p1) = 0 then
      some ((-2), q1.2)
    else
      (f_M_isCell p2 q1.2).bind fun q3 =>
        if q3 = 0 then
          some ((-2), q1.2)
        else
          if (f_M_isFour p3) = 0 then
            some ((-2), q1.2)
          else
            (f_M_freesOf p1 p2 p3 q1.2).bind fun q5 =>
              some (q5, q1.2)
set_option maxHeartbeats 4000000 in
set_option maxRecDepth 100000 in
theorem x_M_frees (E : eT) (N : Nat) (p1 : Int32) (p2 : Int32) (p3 : Int32) (a : aT) : XI qI E md_M_frees 0 [.ref 31, .int p1, .int p2, .int p3] [] a (f_M_frees N p1 p2 p3 a) := by
  refine XI_go (pc' := 1) (ls' := [.ref 31, .int p1, .int p2, .int p3]) (st' := [.ref 31]) (a' := a) [(.aload_n 0, 1, 0, .null)] (by decide +kernel) rfl ?_
  refine XI_VI (As := []) (rest := []) (b := 31) (idx := 204) (by decide +kernel) ok_M_find mv_M_find (n := 0) ⟨lk_M_204, by decide +kernel⟩ rfl rfl rfl rfl (Nat.le_of_ble_eq_true rfl) (Nat.le_of_ble_eq_true rfl) (qV_h rfl) (x_M_find E N a) (fun q1 => ?_)
  refine XI_go (pc' := 5) (ls' := [.ref 31, .int p1, .int p2, .int p3]) (st' := [.int p1]) (a' := q1.2) [(.iload_n 1, 1, 1, .null)] (by decide +kernel) rfl ?_
  refine XI_ST (As := [.int p1]) (rest := []) (idx := 133) (by decide +kernel) ok_M_isFour mv_M_isFour (n := 1) ⟨lk_M_133, by decide +kernel⟩ rfl (Nat.le_of_ble_eq_true rfl) (Nat.le_of_ble_eq_true rfl) (qZ_h rfl) (x_M_isFour E p1 q1.2) ?_
  refine XI_br (c := (f_M_isFour p1) = 0) (t := 36) (e := 11) (ls' := [.ref 31, .int p1, .int p2, .int p3]) (st' := []) (a' := q1.2) [(.ifCond .eq 28, 3, 36, .null)] (by decide +kernel) rfl ?_ ?_
  · refine XI_go (pc' := 38) (ls' := [.ref 31, .int p1, .int p2, .int p3]) (st' := [.int (-2)]) (a' := q1.2) [(.bipush (-2), 2, 0, .int (-2))] (by decide +kernel) rfl ?_
    exact XI_retI (by decide +kernel)
  · refine XI_go (pc' := 13) (ls' := [.ref 31, .int p1, .int p2, .int p3]) (st' := [.int p2, .ref 31]) (a' := q1.2) [(.aload_n 0, 1, 0, .null), (.iload_n 2, 1, 2, .null)] (by decide +kernel) rfl ?_
    refine XI_VP (As := [.int p2]) (rest := []) (b := 31) (idx := 195) (by decide +kernel) ok_M_isCell mv_M_isCell (n := 1) ⟨lk_M_195, by decide +kernel⟩ rfl rfl rfl rfl (Nat.le_of_ble_eq_true rfl) (Nat.le_of_ble_eq_true rfl) (qZ_h rfl) (x_M_isCell E p2 q1.2) (fun q3 => ?_)
    refine XI_br (c := q3 = 0) (t := 36) (e := 19) (ls' := [.ref 31, .int p1, .int p2, .int p3]) (st' := []) (a' := q1.2) [(.ifCond .eq 20, 3, 36, .null)] (by decide +kernel) rfl ?_ ?_
    · refine XI_go (pc' := 38) (ls' := [.ref 31, .int p1, .int p2, .int p3]) (st' := [.int (-2)]) (a' := q1.2) [(.bipush (-2), 2, 0, .int (-2))] (by decide +kernel) rfl ?_
      exact XI_retI (by decide +kernel)
    · refine XI_go (pc' := 20) (ls' := [.ref 31, .int p1, .int p2, .int p3]) (st' := [.int p3]) (a' := q1.2) [(.iload_n 3, 1, 3, .null)] (by decide +kernel) rfl ?_
      refine XI_ST (As := [.int p3]) (rest := []) (idx := 133) (by decide +kernel) ok_M_isFour mv_M_isFour (n := 1) ⟨lk_M_133, by decide +kernel⟩ rfl (Nat.le_of_ble_eq_true rfl) (Nat.le_of_ble_eq_true rfl) (qZ_h rfl) (x_M_isFour E p3 q1.2) ?_
      refine XI_br (c := (f_M_isFour p3) = 0) (t := 36) (e := 26) (ls' := [.ref 31, .int p1, .int p2, .int p3]) (st' := []) (a' := q1.2) [(.ifCond .eq 13, 3, 36, .null)] (by decide +kernel) rfl ?_ ?_
      · refine XI_go (pc' := 38) (ls' := [.ref 31, .int p1, .int p2, .int p3]) (st' := [.int (-2)]) (a' := q1.2) [(.bipush (-2), 2, 0, .int (-2))] (by decide +kernel) rfl ?_
        exact XI_retI (by decide +kernel)
      · refine XI_go (pc' := 30) (ls' := [.ref 31, .int p1, .int p2, .int p3]) (st' := [.int p3, .int p2, .int p1, .ref 31]) (a' := q1.2) [(.aload_n 0, 1, 0, .null), (.iload_n 1, 1, 1, .null), (.iload_n 2, 1, 2, .null), (.iload_n 3, 1, 3, .null)] (by decide +kernel) rfl ?_
        refine XI_VP (As := [.int p1, .int p2, .int p3]) (rest := []) (b := 31) (idx := 244) (by decide +kernel) ok_M_freesOf mv_M_freesOf (n := 3) ⟨lk_M_244, by decide +kernel⟩ rfl rfl rfl rfl (Nat.le_of_ble_eq_true rfl) (Nat.le_of_ble_eq_true rfl) (qI_h rfl) (x_M_freesOf E p1 p2 p3 q1.2) (fun q5 => ?_)
        refine XI_go (pc' := 38) (ls' := [.ref 31, .int p1, .int p2, .int p3]) (st' := [.int q5]) (a' := q1.2) [(.goto 5, 3, 38, .null)] (by decide +kernel) rfl ?_
        exact XI_retI (by decide +kernel)
/-! ChestnutSticks.power(JI)J -/
def md_C_power : md_T := (yX10_power, cX10_power, 6, (some .long), 0, 0)
set_option maxRecDepth 100000 in
theorem ok_C_power : m_ok md_C_power := ⟨List.mem_of_getElem? (i := 652) (by decide +kernel), by decide +kernel, List.mem_of_getElem? (i := 53) (by decide +kernel), by decide +kernel⟩
theorem mv_C_power : Cond.static (m_y md_C_power) ∈ lw_tbl := List.mem_of_getElem? (i := 651) (by decide +kernel)
def f_C_power_5 (N : Nat) : Nat → Int64 → Int32 → Int64 → Int32 → Option Int64
  | 0 => fun _ _ _ _ => none
  | n + 1 => fun x0 x2 x3 x5 =>
    if x2 ≤ x5 then
      some x3
    else
      f_C_power_5 N n x0 x2 (x3 * x0) (x5 + 1)
def f_C_power (N : Nat) (p1 : Int64) (p2 : Int32) : Option Int64 :=
  f_C_power_5 N N p1 p2 1 0
set_option maxHeartbeats 4000000 in
set_option maxRecDepth 100000 in
theorem x_C_power_5 (E : eT) (N : Nat) (a : aT) : ∀ (n : Nat) (x0 : Int64) (x2 : Int32) (x3 : Int64) (x5 : Int32), XP qL E md_C_power 5 [.long x0, .null, .int x2, .long x3, .null, .int x5] [] a (f_C_power_5 N n x0 x2 x3 x5)
  | 0, _, _, _, _ => XP_no rfl
  | n + 1, x0, x2, x3, x5 => by
    refine XP_br (c := x2 ≤ x5) (t := 21) (e := 11) (ls' := [.long x0, .null, .int x2, .long x3, .null, .int x5]) (st' := []) (a' := a) [(.iload 5, 2, 5, .null), (.iload_n 2, 1, 2, .null), (.if_icmp .ge 13, 3, 21, .null)] (by decide +kernel) rfl ?_ ?_
    · refine XP_go (pc' := 22) (ls' := [.long x0, .null, .int x2, .long x3, .null, .int x5]) (st' := [.long x3]) (a' := a) [(.lload_n 3, 1, 3, .null)] (by decide +kernel) rfl ?_
      exact XP_retJ (by decide +kernel)
    · refine XP_go (pc' := 5) (ls' := [.long x0, .null, .int x2, .long (x3 * x0), .null, .int (x5 + 1)]) (st' := []) (a' := a) [(.lload_n 3, 1, 3, .null), (.lload_n 0, 1, 0, .null), (.lmul, 1, 0, .null), (.lstore_n 3, 1, 3, .null), (.iinc 5 1, 3, 5, .int 1), (.goto (-13), 3, 5, .null)] (by decide +kernel) rfl ?_
      refine XP_fg [true, false, true, true, false, true] ?_
      exact x_C_power_5 E N a n x0 x2 (x3 * x0) (x5 + 1)
set_option maxHeartbeats 4000000 in
set_option maxRecDepth 100000 in
theorem x_C_power (E : eT) (N : Nat) (p1 : Int64) (p2 : Int32) (a : aT) : XP qL E md_C_power 0 [.long p1, .null, .int p2, .null, .null, .null] [] a (f_C_power N p1 p2) := by
  refine XP_go (pc' := 5) (ls' := [.long p1, .null, .int p2, .long 1, .null, .int 0]) (st' := []) (a' := a) [(.lconst 1, 1, 0, .long 1), (.lstore_n 3, 1, 3, .null), (.iconst 0, 1, 0, .int 0), (.istore 5, 2, 5, .null)] (by decide +kernel) rfl ?_
  refine XP_fg [true, false, true, true, false, true] ?_
  exact x_C_power_5 E N a N p1 p2 1 0
