/-! ChestnutSticks.hangs(I)I -/
def md_C_hangs : md_T := (yX10_hangs, cX10_hangs, 2, (some .int), 6, 142)
set_option maxRecDepth 100000 in
theorem ok_C_hangs : m_ok md_C_hangs := ⟨List.mem_of_getElem? (i := 576) (by decide +kernel), by decide +kernel, List.mem_of_getElem? (i := 53) (by decide +kernel), by decide +kernel⟩
theorem mv_C_hangs : Cond.instanceMethod (m_y md_C_hangs) ∈ lw_tbl ∧ Cond.selects (m_y md_C_hangs).cls (m_y md_C_hangs) (m_y md_C_hangs) ∈ lw_tbl := ⟨List.mem_of_getElem? (i := 574) (by decide +kernel), List.mem_of_getElem? (i := 575) (by decide +kernel)⟩
def f_C_hangs (N : Nat) (p1 : Int32) (a : aT) : Option (Int32 × aT) :=
  (f_E_isCell p1 a).bind fun q1 =>
    if q1 = 0 then
      some ((-2), a)
    else
      (f_P_replayAll N a).bind fun q2 =>
        (f_P_hangsNow p1 q2.2).bind fun q3 =>
          some (q3, q2.2)
set_option maxHeartbeats 4000000 in
set_option maxRecDepth 100000 in
theorem x_C_hangs (E : eT) (N : Nat) (p1 : Int32) (a : aT) : XI qI E md_C_hangs 0 [.ref 0, .int p1] [] a (f_C_hangs N p1 a) := by
  refine XI_go (pc' := 5) (ls' := [.ref 0, .int p1]) (st' := [.int p1, .ref 1]) (a' := a) [(.aload_n 0, 1, 0, .null), (.getfield 10, 3, 1000, .null), (.iload_n 1, 1, 1, .null)] (by decide +kernel) rfl ?_
  refine XI_VP (As := [.int p1]) (rest := []) (b := 1) (idx := 166) (by decide +kernel) ok_E_isCell mv_E_isCell (n := 1) ⟨lk_C_166, by decide +kernel⟩ rfl rfl rfl rfl (Nat.le_of_ble_eq_true rfl) (Nat.le_of_ble_eq_true rfl) (qZ_h rfl) (x_E_isCell E p1 a) (fun q1 => ?_)
  refine XI_br (c := q1 = 0) (t := 11) (e := 14) (ls' := [.ref 0, .int p1]) (st' := []) (a' := a) [(.ifCond .ne 6, 3, 14, .null)] (by decide +kernel) rfl ?_ ?_
  · refine XI_go (pc' := 13) (ls' := [.ref 0, .int p1]) (st' := [.int (-2)]) (a' := a) [(.bipush (-2), 2, 0, .int (-2))] (by decide +kernel) rfl ?_
    exact XI_retI (by decide +kernel)
  · refine XI_go (pc' := 18) (ls' := [.ref 0, .int p1]) (st' := [.ref 14]) (a' := a) [(.aload_n 0, 1, 0, .null), (.getfield 49, 3, 1005, .null)] (by decide +kernel) rfl ?_
    refine XI_VI (As := []) (rest := []) (b := 14) (idx := 135) (by decide +kernel) ok_P_replayAll mv_P_replayAll (n := 0) ⟨lk_C_135, by decide +kernel⟩ rfl rfl rfl rfl (Nat.le_of_ble_eq_true rfl) (Nat.le_of_ble_eq_true rfl) (qV_h rfl) (x_P_replayAll E N a) (fun q2 => ?_)
    refine XI_go (pc' := 26) (ls' := [.ref 0, .int p1]) (st' := [.int p1, .ref 14]) (a' := q2.2) [(.aload_n 0, 1, 0, .null), (.getfield 49, 3, 1005, .null), (.iload_n 1, 1, 1, .null)] (by decide +kernel) rfl ?_
    refine XI_VP (As := [.int p1]) (rest := []) (b := 14) (idx := 169) (by decide +kernel) ok_P_hangsNow mv_P_hangsNow (n := 1) ⟨lk_C_169, by decide +kernel⟩ rfl rfl rfl rfl (Nat.le_of_ble_eq_true rfl) (Nat.le_of_ble_eq_true rfl) (qI_h rfl) (x_P_hangsNow E p1 q2.2) (fun q3 => ?_)
    exact XI_retI (by decide +kernel)
/-! ChestnutSticksModel.hangs(I)I -/
def md_M_hangs : md_T := (yX11_hangs, cX11_hangs, 2, (some .int), 7, 158)
set_option maxRecDepth 100000 in
theorem ok_M_hangs : m_ok md_M_hangs := ⟨List.mem_of_getElem? (i := 1174) (by decide +kernel), by decide +kernel, List.mem_of_getElem? (i := 64) (by decide +kernel), by decide +kernel⟩
theorem mv_M_hangs : Cond.instanceMethod (m_y md_M_hangs) ∈ lw_tbl ∧ Cond.selects (m_y md_M_hangs).cls (m_y md_M_hangs) (m_y md_M_hangs) ∈ lw_tbl := ⟨List.mem_of_getElem? (i := 1172) (by decide +kernel), List.mem_of_getElem? (i := 1173) (by decide +kernel)⟩
def f_M_hangs (N : Nat) (p1 : Int32) (a : aT) : Option (Int32 × aT) :=
  (f_M_find N a).bind fun q1 =>
    (f_M_isCell p1 q1.2).bind fun q2 =>
      if q2 = 0 then
        some ((-2), q1.2)
      else
        if inb p1 48 then
          if (q1.2 45 (ix p1)) = 0 then
            some ((-1), q1.2)
          else
            (f_M_hangsNow p1 q1.2).bind fun q3 =>
              some (q3, q1.2)
        else none
set_option maxHeartbeats 4000000 in
set_option maxRecDepth 100000 in
theorem x_M_hangs (E : eT) (N : Nat) (p1 : Int32) (a : aT) : XI qI E md_M_hangs 0 [.ref 31, .int p1] [] a (f_M_hangs N p1 a) := by
  refine XI_go (pc' := 1) (ls' := [.ref 31, .int p1]) (st' := [.ref 31]) (a' := a) [(.aload_n 0, 1, 0, .null)] (by decide +kernel) rfl ?_
  refine XI_VI (As := []) (rest := []) (b := 31) (idx := 204) (by decide +kernel) ok_M_find mv_M_find (n := 0) ⟨lk_M_204, by decide +kernel⟩ rfl rfl rfl rfl (Nat.le_of_ble_eq_true rfl) (Nat.le_of_ble_eq_true rfl) (qV_h rfl) (x_M_find E N a) (fun q1 => ?_)
  refine XI_go (pc' := 6) (ls' := [.ref 31, .int p1]) (st' := [.int p1, .ref 31]) (a' := q1.2) [(.aload_n 0, 1, 0, .null), (.iload_n 1, 1, 1, .null)] (by decide +kernel) rfl ?_
  refine XI_VP (As := [.int p1]) (rest := []) (b := 31) (idx := 195) (by decide +kernel) ok_M_isCell mv_M_isCell (n := 1) ⟨lk_M_195, by decide +kernel⟩ rfl rfl rfl rfl (Nat.le_of_ble_eq_true rfl) (Nat.le_of_ble_eq_true rfl) (qZ_h rfl) (x_M_isCell E p1 q1.2) (fun q2 => ?_)
  refine XI_br (c := q2 = 0) (t := 12) (e := 17) (ls' := [.ref 31, .int p1]) (st' := []) (a' := q1.2) [(.ifCond .ne 8, 3, 17, .null)] (by decide +kernel) rfl ?_ ?_
  · refine XI_go (pc' := 35) (ls' := [.ref 31, .int p1]) (st' := [.int (-2)]) (a' := q1.2) [(.bipush (-2), 2, 0, .int (-2)), (.goto 21, 3, 35, .null)] (by decide +kernel) rfl ?_
    exact XI_retI (by decide +kernel)
  · refine XI_ck (c := inb p1 48) (pc' := 23) (ls' := [.ref 31, .int p1]) (st' := [.int (q1.2 45 (ix p1))]) (a' := q1.2) [(.aload_n 0, 1, 0, .null), (.getfield 50, 3, 1120, .null), (.iload_n 1, 1, 1, .null), (.baload, 1, 0, .null)] (by decide +kernel) rfl ?_
    refine XI_br (c := (q1.2 45 (ix p1)) = 0) (t := 34) (e := 26) (ls' := [.ref 31, .int p1]) (st' := []) (a' := q1.2) [(.ifCond .eq 11, 3, 34, .null)] (by decide +kernel) rfl ?_ ?_
    · refine XI_go (pc' := 35) (ls' := [.ref 31, .int p1]) (st' := [.int (-1)]) (a' := q1.2) [(.iconst (-1), 1, 0, .int (-1))] (by decide +kernel) rfl ?_
      exact XI_retI (by decide +kernel)
    · refine XI_go (pc' := 28) (ls' := [.ref 31, .int p1]) (st' := [.int p1, .ref 31]) (a' := q1.2) [(.aload_n 0, 1, 0, .null), (.iload_n 1, 1, 1, .null)] (by decide +kernel) rfl ?_
      refine XI_VP (As := [.int p1]) (rest := []) (b := 31) (idx := 166) (by decide +kernel) ok_M_hangsNow mv_M_hangsNow (n := 1) ⟨lk_M_166, by decide +kernel⟩ rfl rfl rfl rfl (Nat.le_of_ble_eq_true rfl) (Nat.le_of_ble_eq_true rfl) (qI_h rfl) (x_M_hangsNow E p1 q1.2) (fun q3 => ?_)
      refine XI_go (pc' := 35) (ls' := [.ref 31, .int p1]) (st' := [.int q3]) (a' := q1.2) [(.goto 4, 3, 35, .null)] (by decide +kernel) rfl ?_
      exact XI_retI (by decide +kernel)
/-! ChestnutSticks$Play.ripeOf(I)I -/
def md_P_ripeOf : md_T := (yX1_ripeOf, cX1_ripeOf, 2, (some .int), 1, 21)
set_option maxRecDepth 100000 in
theorem ok_P_ripeOf : m_ok md_P_ripeOf := ⟨List.mem_of_getElem? (i := 589) (by decide +kernel), by decide +kernel, List.mem_of_getElem? (i := 59) (by decide +kernel), by decide +kernel⟩
theorem mv_P_ripeOf : Cond.instanceMethod (m_y md_P_ripeOf) ∈ lw_tbl ∧ Cond.selects (m_y md_P_ripeOf).cls (m_y md_P_ripeOf) (m_y md_P_ripeOf) ∈ lw_tbl := ⟨List.mem_of_getElem? (i := 587) (by decide +kernel), List.mem_of_getElem? (i := 588) (by decide +kernel)⟩
def f_P_ripeOf (p1 : Int32) (a : aT) : Option Int32 :=
  if (f_C_isBelow p1 4) = 0 then
    some 0
  else
    if inb p1 4 then
      some (a 17 (ix p1))
    else none
set_option maxHeartbeats 4000000 in
set_option maxRecDepth 100000 in
theorem x_P_ripeOf (E : eT) (p1 : Int32) (a : aT) : XP qI E md_P_ripeOf 0 [.ref 14, .int p1] [] a (f_P_ripeOf p1 a) := by
  refine XP_go (pc' := 2) (ls' := [.ref 14, .int p1]) (st' := [.int 4, .int p1]) (a' := a) [(.iload_n 1, 1, 1, .null), (.iconst 4, 1, 0, .int 4)] (by decide +kernel) rfl ?_
  refine XP_SNT (As := [.int p1, .int 4]) (rest := []) (idx := 82) (by decide +kernel) ok_C_isBelow mv_C_isBelow (n := 2) ⟨lk_P_82, by decide +kernel⟩ rfl (Nat.le_of_ble_eq_true rfl) (Nat.le_of_ble_eq_true rfl) (qZ_h rfl) (x_C_isBelow E p1 4 a) ?_
  refine XP_br (c := (f_C_isBelow p1 4) = 0) (t := 17) (e := 8) (ls' := [.ref 14, .int p1]) (st' := []) (a' := a) [(.ifCond .eq 12, 3, 17, .null)] (by decide +kernel) rfl ?_ ?_
  · refine XP_go (pc' := 18) (ls' := [.ref 14, .int p1]) (st' := [.int 0]) (a' := a) [(.iconst 0, 1, 0, .int 0)] (by decide +kernel) rfl ?_
    exact XP_retI (by decide +kernel)
  · refine XP_ck (c := inb p1 4) (pc' := 14) (ls' := [.ref 14, .int p1]) (st' := [.int (a 17 (ix p1))]) (a' := a) [(.aload_n 0, 1, 0, .null), (.getfield 18, 3, 107, .null), (.iload_n 1, 1, 1, .null), (.iaload, 1, 0, .null)] (by decide +kernel) rfl ?_
    refine XP_go (pc' := 18) (ls' := [.ref 14, .int p1]) (st' := [.int (a 17 (ix p1))]) (a' := a) [(.goto 4, 3, 18, .null)] (by decide +kernel) rfl ?_
    exact XP_retI (by decide +kernel)
/-! ChestnutSticks.has(I)I -/
def md_C_has : md_T := (yX10_has, cX10_has, 2, (some .int), 6, 142)
set_option maxRecDepth 100000 in
theorem ok_C_has : m_ok md_C_has := ⟨List.mem_of_getElem? (i := 585) (by decide +kernel), by decide +kernel, List.mem_of_getElem? (i := 53) (by decide +kernel), by decide +kernel⟩
theorem mv_C_has : Cond.instanceMethod (m_y md_C_has) ∈ lw_tbl ∧ Cond.selects (m_y md_C_has).cls (m_y md_C_has) (m_y md_C_has) ∈ lw_tbl := ⟨List.mem_of_getElem? (i := 583) (by decide +kernel), List.mem_of_getElem? (i := 584) (by decide +kernel)⟩
def f_C_has (N : Nat) (p1 : Int32) (a : aT) : Option (Int32 × aT) :=
  if (f_C_isBelow p1 4) = 0 then
    some ((-2), a)
  else
    (f_P_replayAll N a).bind fun q2 =>
      (f_P_ripeOf p1 q2.2).bind fun q3 =>
        some (q3, q2.2)
set_option maxHeartbeats 4000000 in
set_option maxRecDepth 100000 in
theorem x_C_has (E : eT) (N : Nat) (p1 : Int32) (a : aT) : XI qI E md_C_has 0 [.ref 0, .int p1] [] a (f_C_has N p1 a) := by
  refine XI_go (pc' := 2) (ls' := [.ref 0, .int p1]) (st' := [.int 4, .int p1]) (a' := a) [(.iload_n 1, 1, 1, .null), (.iconst 4, 1, 0, .int 4)] (by decide +kernel) rfl ?_
  refine XI_ST (As := [.int p1, .int 4]) (rest := []) (idx := 110) (by decide +kernel) ok_C_isBelow mv_C_isBelow (n := 2) ⟨lk_C_110, by decide +kernel⟩ rfl (Nat.le_of_ble_eq_true rfl) (Nat.le_of_ble_eq_true rfl) (qZ_h rfl) (x_C_isBelow E p1 4 a) ?_
  refine XI_br (c := (f_C_isBelow p1 4) = 0) (t := 8) (e := 11) (ls' := [.ref 0, .int p1]) (st' := []) (a' := a) [(.ifCond .ne 6, 3, 11, .null)] (by decide +kernel) rfl ?_ ?_
  · refine XI_go (pc' := 10) (ls' := [.ref 0, .int p1]) (st' := [.int (-2)]) (a' := a) [(.bipush (-2), 2, 0, .int (-2))] (by decide +kernel) rfl ?_
    exact XI_retI (by decide +kernel)
  · refine XI_go (pc' := 15) (ls' := [.ref 0, .int p1]) (st' := [.ref 14]) (a' := a) [(.aload_n 0, 1, 0, .null), (.getfield 49, 3, 1005, .null)] (by decide +kernel) rfl ?_
    refine XI_VI (As := []) (rest := []) (b := 14) (idx := 135) (by decide +kernel) ok_P_replayAll mv_P_replayAll (n := 0) ⟨lk_C_135, by decide +kernel⟩ rfl rfl rfl rfl (Nat.le_of_ble_eq_true rfl) (Nat.le_of_ble_eq_true rfl) (qV_h rfl) (x_P_replayAll E N a) (fun q2 => ?_)
    refine XI_go (pc' := 23) (ls' := [.ref 0, .int p1]) (st' := [.int p1, .ref 14]) (a' := q2.2) [(.aload_n 0, 1, 0, .null), (.getfield 49, 3, 1005, .null), (.iload_n 1, 1, 1, .null)] (by decide +kernel) rfl ?_
    refine XI_VP (As := [.int p1]) (rest := []) (b := 14) (idx := 172) (by decide +kernel) ok_P_ripeOf mv_P_ripeOf (n := 1) ⟨lk_C_172, by decide +kernel⟩ rfl rfl rfl rfl (Nat.le_of_ble_eq_true rfl) (Nat.le_of_ble_eq_true rfl) (qI_h rfl) (x_P_ripeOf E p1 q2.2) (fun q3 => ?_)
    exact XI_retI (by decide +kernel)
/-! ChestnutSticksModel.has(I)I -/
def md_M_has : md_T := (yX11_has, cX11_has, 2, (some .int), 7, 158)
set_option maxRecDepth 100000 in
theorem ok_M_has : m_ok md_M_has := ⟨List.mem_of_getElem? (i := 1178) (by decide +kernel), by decide +kernel, List.mem_of_getElem? (i := 64) (by decide +kernel), by decide +kernel⟩
theorem mv_M_has : Cond.instanceMethod (m_y md_M_has) ∈ lw_tbl ∧ Cond.selects (m_y md_M_has).cls (m_y md_M_has) (m_y md_M_has) ∈ lw_tbl := ⟨List.mem_of_getElem? (i := 1176) (by decide +kernel), List.mem_of_getElem? (i := 1177) (by decide +kernel)⟩
def f_M_has (N : Nat) (p1 : Int32) (a : aT) : Option (Int32 × aT) :=
  (f_M_find N a).bind fun q1 =>
    if (f_M_isFour p1) = 0 then
      some ((-2), q1.2)
    else
      if inb p1 4 then
        some ((q1.2 47 (ix p1)), q1.2)
      else none
set_option maxHeartbeats 4000000 in
set_option maxRecDepth 100000 in
theorem x_M_has (E : eT) (N : Nat) (p1 : Int32) (a : aT) : XI qI E md_M_has 0 [.ref 31, .int p1] [] a (f_M_has N p1 a) := by
  refine XI_go (pc' := 1) (ls' := [.ref 31, .int p1]) (st' := [.ref 31]) (a' := a) [(.aload_n 0, 1, 0, .null)] (by decide +kernel) rfl ?_
  refine XI_VI (As := []) (rest := []) (b := 31) (idx := 204) (by decide +kernel) ok_M_find mv_M_find (n := 0) ⟨lk_M_204, by decide +kernel⟩ rfl rfl rfl rfl (Nat.le_of_ble_eq_true rfl) (Nat.le_of_ble_eq_true rfl) (qV_h rfl) (x_M_find E N a) (fun q1 => ?_)
  refine XI_go (pc' := 5) (ls' := [.ref 31, .int p1]) (st' := [.int p1]) (a' := q1.2) [(.iload_n 1, 1, 1, .null)] (by decide +kernel) rfl ?_
  refine XI_ST (As := [.int p1]) (rest := []) (idx := 133) (by decide +kernel) ok_M_isFour mv_M_isFour (n := 1) ⟨lk_M_133, by decide +kernel⟩ rfl (Nat.le_of_ble_eq_true rfl) (Nat.le_of_ble_eq_true rfl) (qZ_h rfl) (x_M_isFour E p1 q1.2) ?_
  refine XI_br (c := (f_M_isFour p1) = 0) (t := 20) (e := 11) (ls' := [.ref 31, .int p1]) (st' := []) (a' := q1.2) [(.ifCond .eq 12, 3, 20, .null)] (by decide +kernel) rfl ?_ ?_
  · refine XI_go (pc' := 22) (ls' := [.ref 31, .int p1]) (st' := [.int (-2)]) (a' := q1.2) [(.bipush (-2), 2, 0, .int (-2))] (by decide +kernel) rfl ?_
    exact XI_retI (by decide +kernel)
  · refine XI_ck (c := inb p1 4) (pc' := 17) (ls' := [.ref 31, .int p1]) (st' := [.int (q1.2 47 (ix p1))]) (a' := q1.2) [(.aload_n 0, 1, 0, .null), (.getfield 56, 3, 1122, .null), (.iload_n 1, 1, 1, .null), (.iaload, 1, 0, .null)] (by decide +kernel) rfl ?_
    refine XI_go (pc' := 22) (ls' := [.ref 31, .int p1]) (st' := [.int (q1.2 47 (ix p1))]) (a' := q1.2) [(.goto 5, 3, 22, .null)] (by decide +kernel) rfl ?_
    exact XI_retI (by decide +kernel)
/-! ChestnutSticks$Play.struckBalls(IIIZ)I -/
def md_P_struckBalls : md_T := (yX1_struckBalls, cX1_struckBalls, 12, (some .int), 2, 45)
set_option maxRecDepth 100000 in
theorem ok_P_struckBalls : m_ok md_P_struckBalls := ⟨List.mem_of_getElem? (i := 602) (by decide +kernel), by decide +kernel, List.mem_of_getElem? (i := 59) (by decide +kernel), by decide +kernel⟩
theorem mv_P_struckBalls : Cond.instanceMethod (m_y md_P_struckBalls) ∈ lw_tbl ∧ Cond.selects (m_y md_P_struckBalls).cls (m_y md_P_struckBalls) (m_y md_P_struckBalls) ∈ lw_tbl := ⟨List.mem_of_getElem? (i := 601) (by decide +kernel), List.mem_of_getElem? (i := 12) (by decide +kernel)⟩
def f_P_struckBalls_84 (N : Nat) (a : aT) (k46 : Int32 → Int32 → Int32 → Int32 → Int32 → Int32 → Option Int32) (x4 : Int32) (x5 : Int32) (x7 : Int32) (x8 : Int32) (x10 : Int32) (y2 : Int32) (y1 : Int32) : Option Int32 :=
  if y2 = x4 then
    k46 x4 x5 x7 x8 (y1 + 1) (x10 + 1)
  else
    k46 x4 x5 x7 x8 (y1 + 0) (x10 + 1)
def f_P_struckBalls_46 (N : Nat) (a : aT) : Nat → Int32 → Int32 → Int32 → Int32 → Int32 → Int32 → Option Int32
  | 0 => fun _ _ _ _ _ _ => none
  | n + 1 => fun x4 x5 x7 x8 x9 x10 =>
    if x8 ≤ x10 then
      some x9
    else
      (f_P_hangsIfStruck x7 x5 x10 a).bind fun q3 =>
        if q3 = (-1) then
          f_P_struckBalls_46 N a n x4 x5 x7 x8 (x9 + 0) (x10 + 1)
        else
          if 2 < q3 then
            f_P_struckBalls_84 N a (f_P_struckBalls_46 N a n) x4 x5 x7 x8 x10 0 x9
          else
            f_P_struckBalls_84 N a (f_P_struckBalls_46 N a n) x4 x5 x7 x8 x10 1 x9
def f_P_struckBalls (N : Nat) (p1 : Int32) (p2 : Int32) (p3 : Int32) (p4 : Int32) (a : aT) : Option Int32 :=
  (f_T_now p1 0 a).bind fun q1 =>
    (f_T_now p1 1 a).bind fun q2 =>
      f_P_struckBalls_46 N a N p4 (p2 / 8) q1 (((i_rem p2 8) + p3) + q2) 0 ((i_rem p2 8) + p3)
set_option maxHeartbeats 4000000 in
set_option maxRecDepth 100000 in
theorem x_P_struckBalls_84 (E : eT) (N : Nat) (a : aT) (k46 : Int32 → Int32 → Int32 → Int32 → Int32 → Int32 → Option Int32) (h46 : ∀ (x4 : Int32) (x5 : Int32) (x7 : Int32) (x8 : Int32) (x9 : Int32) (x10 : Int32), XP qI E md_P_struckBalls 46 [.ref 14, .null, .null, .null, .int x4, .int x5, .null, .int x7, .int x8, .int x9, .int x10, .null] [] a (k46 x4 x5 x7 x8 x9 x10)) (x4 : Int32) (x5 : Int32) (x7 : Int32) (x8 : Int32) (x10 : Int32) (y2 : Int32) (y1 : Int32) : XP qI E md_P_struckBalls 84 [.ref 14, .null, .null, .null, .int x4, .int x5, .null, .int x7, .int x8, .null, .int x10, .null] [.int y2, .int y1] a (f_P_struckBalls_84 N a k46 x4 x5 x7 x8 x10 y2 y1) := by
  refine XP_br (c := y2 = x4) (t := 89) (e := 93) (ls' := [.ref 14, .null, .null, .null, .int x4, .int x5, .null, .int x7, .int x8, .null, .int x10, .null]) (st' := [.int y1]) (a' := a) [(.iload 4, 2, 4, .null), (.if_icmp .ne 7, 3, 93, .null)] (by decide +kernel) rfl ?_ ?_
  · refine XP_go (pc' := 46) (ls' := [.ref 14, .null, .null, .null, .int x4, .int x5, .null, .int x7, .int x8, .int (y1 + 1), .int (x10 + 1), .null]) (st' := []) (a' := a) [(.iconst 1, 1, 0, .int 1), (.goto 4, 3, 94, .null), (.iadd, 1, 0, .null), (.istore 9, 2, 9, .null), (.iinc 10 1, 3, 10, .int 1), (.goto (-54), 3, 46, .null)] (by decide +kernel) rfl ?_
    refine XP_fg [true, false, false, false, true, true, false, true, true, true, true, false] ?_
    exact h46 x4 x5 x7 x8 (y1 + 1) (x10 + 1)
  · refine XP_go (pc' := 46) (ls' := [.ref 14, .null, .null, .null, .int x4, .int x5, .null, .int x7, .int x8, .int (y1 + 0), .int (x10 + 1), .null]) (st' := []) (a' := a) [(.iconst 0, 1, 0, .int 0), (.iadd, 1, 0, .null), (.istore 9, 2, 9, .null), (.iinc 10 1, 3, 10, .int 1), (.goto (-54), 3, 46, .null)] (by decide +kernel) rfl ?_
    refine XP_fg [true, false, false, false, true, true, false, true, true, true, true, false] ?_
    exact h46 x4 x5 x7 x8 (y1 + 0) (x10 + 1)
set_option maxHeartbeats 4000000 in
set_option maxRecDepth 100000 in
theorem x_P_struckBalls_46 (E : eT) (N : Nat) (a : aT) : ∀ (n : Nat) (x4 : Int32) (x5 : Int32) (x7 : Int32) (x8 : Int32) (x9 : Int32) (x10 : Int32), XP qI E md_P_struckBalls 46 [.ref 14, .null, .null, .null, .int x4, .int x5, .null, .int x7, .int x8, .int x9, .int x10, .null] [] a (f_P_struckBalls_46 N a n x4 x5 x7 x8 x9 x10)
  | 0, _, _, _, _, _, _ => XP_no rfl
  | n + 1, x4, x5, x7, x8, x9, x10 => by
    refine XP_br (c := x8 ≤ x10) (t := 103) (e := 53) (ls' := [.ref 14, .null, .null, .null, .int x4, .int x5, .null, .int x7, .int x8, .int x9, .int x10, .null]) (st' := []) (a' := a) [(.iload 10, 2, 10, .null), (.iload 8, 2, 8, .null), (.if_icmp .ge 53, 3, 103, .null)] (by decide +kernel) rfl ?_ ?_
    · refine XP_go (pc' := 105) (ls' := [.ref 14, .null, .null, .null, .int x4, .int x5, .null, .int x7, .int x8, .int x9, .int x10, .null]) (st' := [.int x9]) (a' := a) [(.iload 9, 2, 9, .null)] (by decide +kernel) rfl ?_
      exact XP_retI (by decide +kernel)
    · refine XP_go (pc' := 60) (ls' := [.ref 14, .null, .null, .null, .int x4, .int x5, .null, .int x7, .int x8, .int x9, .int x10, .null]) (st' := [.int x10, .int x5, .int x7, .ref 14]) (a' := a) [(.aload_n 0, 1, 0, .null), (.iload 7, 2, 7, .null), (.iload 5, 2, 5, .null), (.iload 10, 2, 10, .null)] (by decide +kernel) rfl ?_
      refine XP_VP (As := [.int x7, .int x5, .int x10]) (rest := []) (b := 14) (idx := 148) (by decide +kernel) ok_P_hangsIfStruck mv_P_hangsIfStruck (n := 3) ⟨lk_P_148, by decide +kernel⟩ rfl rfl rfl rfl (Nat.le_of_ble_eq_true rfl) (Nat.le_of_ble_eq_true rfl) (qI_h rfl) (x_P_hangsIfStruck E x7 x5 x10 a) (fun q3 => ?_)
      refine XP_br (c := q3 = (-1)) (t := 93) (e := 73) (ls' := [.ref 14, .null, .null, .null, .int x4, .int x5, .null, .int x7, .int x8, .int x9, .int x10, .int q3]) (st' := [.int x9]) (a' := a) [(.istore 11, 2, 11, .null), (.iload 9, 2, 9, .null), (.iload 11, 2, 11, .null), (.iconst (-1), 1, 0, .int (-1)), (.if_icmp .eq 23, 3, 93, .null)] (by decide +kernel) rfl ?_ ?_
      · refine XP_go (pc' := 46) (ls' := [.ref 14, .null, .null, .null, .int x4, .int x5, .null, .int x7, .int x8, .int (x9 + 0), .int (x10 + 1), .int q3]) (st' := []) (a' := a) [(.iconst 0, 1, 0, .int 0), (.iadd, 1, 0, .null), (.istore 9, 2, 9, .null), (.iinc 10 1, 3, 10, .int 1), (.goto (-54), 3, 46, .null)] (by decide +kernel) rfl ?_
        refine XP_fg [true, false, false, false, true, true, false, true, true, true, true, false] ?_
        exact x_P_struckBalls_46 E N a n x4 x5 x7 x8 (x9 + 0) (x10 + 1)
      · refine XP_br (c := 2 < q3) (t := 83) (e := 79) (ls' := [.ref 14, .null, .null, .null, .int x4, .int x5, .null, .int x7, .int x8, .int x9, .int x10, .int q3]) (st' := [.int x9]) (a' := a) [(.iload 11, 2, 11, .null), (.iconst 2, 1, 0, .int 2), (.if_icmp .gt 7, 3, 83, .null)] (by decide +kernel) rfl ?_ ?_
        · refine XP_go (pc' := 84) (ls' := [.ref 14, .null, .null, .null, .int x4, .int x5, .null, .int x7, .int x8, .int x9, .int x10, .int q3]) (st' := [.int 0, .int x9]) (a' := a) [(.iconst 0, 1, 0, .int 0)] (by decide +kernel) rfl ?_
          refine XP_fg [true, false, false, false, true, true, false, true, true, false, true, false] ?_
          exact x_P_struckBalls_84 E N a (f_P_struckBalls_46 N a n) (x_P_struckBalls_46 E N a n) x4 x5 x7 x8 x10 0 x9
        · refine XP_go (pc' := 84) (ls' := [.ref 14, .null, .null, .null, .int x4, .int x5, .null, .int x7, .int x8, .int x9, .int x10, .int q3]) (st' := [.int 1, .int x9]) (a' := a) [(.iconst 1, 1, 0, .int 1), (.goto 4, 3, 84, .null)] (by decide +kernel) rfl ?_
          refine XP_fg [true, false, false, false, true, true, false, true, true, false, true, false] ?_
          exact x_P_struckBalls_84 E N a (f_P_struckBalls_46 N a n) (x_P_struckBalls_46 E N a n) x4 x5 x7 x8 x10 1 x9
set_option maxHeartbeats 4000000 in
set_option maxRecDepth 100000 in
theorem x_P_struckBalls (E : eT) (N : Nat) (p1 : Int32) (p2 : Int32) (p3 : Int32) (p4 : Int32) (a : aT) : XP qI E md_P_struckBalls 0 [.ref 14, .int p1, .int p2, .int p3, .int p4, .null, .null, .null, .null, .null, .null, .null] [] a (f_P_struckBalls N p1 p2 p3 p4 a) := by
  refine XP_go (pc' := 20) (ls' := [.ref 14, .int p1, .int p2, .int p3, .int p4, .int (p2 / 8), .int ((i_rem p2 8) + p3), .null, .null, .null, .null, .null]) (st' := [.int 0, .int p1, .ref 4]) (a' := a) [(.iload_n 2, 1, 2, .null), (.bipush 8, 2, 0, .int 8), (.idiv, 1, 0, .null), (.istore 5, 2, 5, .null), (.iload_n 2, 1, 2, .null), (.bipush 8, 2, 0, .int 8), (.irem, 1, 0, .null), (.iload_n 3, 1, 3, .null), (.iadd, 1, 0, .null), (.istore 6, 2, 6, .null), (.aload_n 0, 1, 0, .null), (.getfield 44, 3, 101, .null), (.iload_n 1, 1, 1, .null), (.iconst 0, 1, 0, .int 0)] (by decide +kernel) rfl ?_
  refine XP_VP (As := [.int p1, .int 0]) (rest := []) (b := 4) (idx := 108) (by decide +kernel) ok_T_now mv_T_now (n := 2) ⟨lk_P_108, by decide +kernel⟩ rfl rfl rfl rfl (Nat.le_of_ble_eq_true rfl) (Nat.le_of_ble_eq_true rfl) (qI_h rfl) (x_T_now E p1 0 a) (fun q1 => ?_)
  refine XP_go (pc' := 33) (ls' := [.ref 14, .int p1, .int p2, .int p3, .int p4, .int (p2 / 8), .int ((i_rem p2 8) + p3), .int q1, .null, .null, .null, .null]) (st' := [.int 1, .int p1, .ref 4, .int ((i_rem p2 8) + p3)]) (a' := a) [(.istore 7, 2, 7, .null), (.iload 6, 2, 6, .null), (.aload_n 0, 1, 0, .null), (.getfield 44, 3, 101, .null), (.iload_n 1, 1, 1, .null), (.iconst 1, 1, 0, .int 1)] (by decide +kernel) rfl ?_
  refine XP_VP (As := [.int p1, .int 1]) (rest := [.int ((i_rem p2 8) + p3)]) (b := 4) (idx := 108) (by decide +kernel) ok_T_now mv_T_now (n := 2) ⟨lk_P_108, by decide +kernel⟩ rfl rfl rfl rfl (Nat.le_of_ble_eq_true rfl) (Nat.le_of_ble_eq_true rfl) (qI_h rfl) (x_T_now E p1 1 a) (fun q2 => ?_)
  refine XP_go (pc' := 46) (ls' := [.ref 14, .int p1, .int p2, .int p3, .int p4, .int (p2 / 8), .int ((i_rem p2 8) + p3), .int q1, .int (((i_rem p2 8) + p3) + q2), .int 0, .int ((i_rem p2 8) + p3), .null]) (st' := []) (a' := a) [(.iadd, 1, 0, .null), (.istore 8, 2, 8, .null), (.iconst 0, 1, 0, .int 0), (.istore 9, 2, 9, .null), (.iload 6, 2, 6, .null), (.istore 10, 2, 10, .null)] (by decide +kernel) rfl ?_
  refine XP_fg [true, false, false, false, true, true, false, true, true, true, true, false] ?_
  exact x_P_struckBalls_46 E N a N p4 (p2 / 8) q1 (((i_rem p2 8) + p3) + q2) 0 ((i_rem p2 8) + p3)
/-! ChestnutSticks$Play.sixteenths(IIZ)I -/
def md_P_sixteenths : md_T := (yX1_sixteenths, cX1_sixteenths, 5, (some .int), 3, 76)
set_option maxRecDepth 100000 in
theorem ok_P_sixteenths : m_ok md_P_sixteenths := ⟨List.mem_of_getElem? (i := 598) (by decide +kernel), by decide +kernel, List.mem_of_getElem? (i := 59) (by decide +kernel), by decide +kernel⟩
theorem mv_P_sixteenths : Cond.instanceMethod (m_y md_P_sixteenths) ∈ lw_tbl ∧ Cond.selects (m_y md_P_sixteenths).cls (m_y md_P_sixteenths) (m_y md_P_sixteenths) ∈ lw_tbl := ⟨List.mem_of_getElem? (i := 596) (by decide +kernel), List.mem_of_getElem? (i := 597) (by decide +kernel)⟩
def f_P_sixteenths (N : Nat) (p1 : Int32) (p2 : Int32) (p3 : Int32) (a : aT) : Option Int32 :=
  (f_R_now 0 a).bind fun q1 =>
    (f_P_struckBalls N p1 p2 (-1) p3 a).bind fun q2 =>
      (f_P_struckBalls N p1 p2 0 p3 a).bind fun q3 =>
        (f_P_struckBalls N p1 p2 1 p3 a).bind fun q4 =>
          some (((q1 * q2) + ((16 - (2 * q1)) * q3)) + (q1 * q4))
set_option maxHeartbeats 4000000 in
set_option maxRecDepth 100000 in
theorem x_P_sixteenths (E : eT) (N : Nat) (p1 : Int32) (p2 : Int32) (p3 : Int32) (a : aT) : XP qI E md_P_sixteenths 0 [.ref 14, .int p1, .int p2, .int p3, .null] [] a (f_P_sixteenths N p1 p2 p3 a) := by
  refine XP_go (pc' := 5) (ls' := [.ref 14, .int p1, .int p2, .int p3, .null]) (st' := [.int 0, .ref 6]) (a' := a) [(.aload_n 0, 1, 0, .null), (.getfield 48, 3, 102, .null), (.iconst 0, 1, 0, .int 0)] (by decide +kernel) rfl ?_
  refine XP_VP (As := [.int 0]) (rest := []) (b := 6) (idx := 86) (by decide +kernel) ok_R_now mv_R_now (n := 1) ⟨lk_P_86, by decide +kernel⟩ rfl rfl rfl rfl (Nat.le_of_ble_eq_true rfl) (Nat.le_of_ble_eq_true rfl) (qI_h rfl) (x_R_now E 0 a) (fun q1 => ?_)
  refine XP_go (pc' := 17) (ls' := [.ref 14, .int p1, .int p2, .int p3, .int q1]) (st' := [.int p3, .int (-1), .int p2, .int p1, .ref 14, .int q1]) (a' := a) [(.istore 4, 2, 4, .null), (.iload 4, 2, 4, .null), (.aload_n 0, 1, 0, .null), (.iload_n 1, 1, 1, .null), (.iload_n 2, 1, 2, .null), (.iconst (-1), 1, 0, .int (-1)), (.iload_n 3, 1, 3, .null)] (by decide +kernel) rfl ?_
  refine XP_VP (As := [.int p1, .int p2, .int (-1), .int p3]) (rest := [.int q1]) (b := 14) (idx := 90) (by decide +kernel) ok_P_struckBalls mv_P_struckBalls (n := 4) ⟨lk_P_90, by decide +kernel⟩ rfl rfl rfl rfl (Nat.le_of_ble_eq_true rfl) (Nat.le_of_ble_eq_true rfl) (qI_h rfl) (x_P_struckBalls E N p1 p2 (-1) p3 a) (fun q2 => ?_)
  refine XP_go (pc' := 33) (ls' := [.ref 14, .int p1, .int p2, .int p3, .int q1]) (st' := [.int p3, .int 0, .int p2, .int p1, .ref 14, .int (16 - (2 * q1)), .int (q1 * q2)]) (a' := a) [(.imul, 1, 0, .null), (.bipush 16, 2, 0, .int 16), (.iconst 2, 1, 0, .int 2), (.iload 4, 2, 4, .null), (.imul, 1, 0, .null), (.isub, 1, 0, .null), (.aload_n 0, 1, 0, .null), (.iload_n 1, 1, 1, .null), (.iload_n 2, 1, 2, .null), (.iconst 0, 1, 0, .int 0), (.iload_n 3, 1, 3, .null)] (by decide +kernel) rfl ?_
  refine XP_VP (As := [.int p1, .int p2, .int 0, .int p3]) (rest := [.int (16 - (2 * q1)), .int (q1 * q2)]) (b := 14) (idx := 90) (by decide +kernel) ok_P_struckBalls mv_P_struckBalls (n := 4) ⟨lk_P_90, by decide +kernel⟩ rfl rfl rfl rfl (Nat.le_of_ble_eq_true rfl) (Nat.le_of_ble_eq_true rfl) (qI_h rfl) (x_P_struckBalls E N p1 p2 0 p3 a) (fun q3 => ?_)
  refine XP_go (pc' := 45) (ls' := [.ref 14, .int p1, .int p2, .int p3, .int q1]) (st' := [.int p3, .int 1, .int p2, .int p1, .ref 14, .int q1, .int ((q1 * q2) + ((16 - (2 * q1)) * q3))]) (a' := a) [(.imul, 1, 0, .null), (.iadd, 1, 0, .null), (.iload 4, 2, 4, .null), (.aload_n 0, 1, 0, .null), (.iload_n 1, 1, 1, .null), (.iload_n 2, 1, 2, .null), (.iconst 1, 1, 0, .int 1), (.iload_n 3, 1, 3, .null)] (by decide +kernel) rfl ?_
  refine XP_VP (As := [.int p1, .int p2, .int 1, .int p3]) (rest := [.int q1, .int ((q1 * q2) + ((16 - (2 * q1)) * q3))]) (b := 14) (idx := 90) (by decide +kernel) ok_P_struckBalls mv_P_struckBalls (n := 4) ⟨lk_P_90, by decide +kernel⟩ rfl rfl rfl rfl (Nat.le_of_ble_eq_true rfl) (Nat.le_of_ble_eq_true rfl) (qI_h rfl) (x_P_struckBalls E N p1 p2 1 p3 a) (fun q4 => ?_)
  refine XP_go (pc' := 50) (ls' := [.ref 14, .int p1, .int p2, .int p3, .int q1]) (st' := [.int (((q1 * q2) + ((16 - (2 * q1)) * q3)) + (q1 * q4))]) (a' := a) [(.imul, 1, 0, .null), (.iadd, 1, 0, .null)] (by decide +kernel) rfl ?_
  exact XP_retI (by decide +kernel)
/-! ChestnutSticks.lowest(JJZ)J -/
def md_C_lowest : md_T := (yX10_lowest, cX10_lowest, 10, (some .long), 0, 0)
set_option maxRecDepth 100000 in
theorem ok_C_lowest : m_ok md_C_lowest := ⟨List.mem_of_getElem? (i := 606) (by decide +kernel), by decide +kernel, List.mem_of_getElem? (i := 53) (by decide +kernel), by decide +kernel⟩
theorem mv_C_lowest : Cond.static (m_y md_C_lowest) ∈ lw_tbl := List.mem_of_getElem? (i := 605) (by decide +kernel)
def f_C_lowest_60 (N : Nat) (x4 : Int32) (x5 : Int64) (x7 : Int64) : Option Int64 :=
  if x4 = 0 then
    some x5
  else
    some x7
def f_C_lowest_9 (N : Nat) : Nat → Int32 → Int64 → Int64 → Int32 → Option Int64
  | 0 => fun _ _ _ _ => none
  | n + 1 => fun x4 x5 x7 x9 =>
    if 64 ≤ x9 then
      f_C_lowest_60 N x4 x5 x7
    else
      if (lg_cmp (l_rem x5 2) 0) = 0 then
        if (lg_cmp (l_rem x7 2) 0) = 0 then
          f_C_lowest_9 N n x4 (x5 / 2) (x7 / 2) (x9 + 1)
        else
          f_C_lowest_60 N x4 x5 x7
      else
        f_C_lowest_60 N x4 x5 x7
def f_C_lowest (N : Nat) (p1 : Int64) (p2 : Int64) (p3 : Int32) : Option Int64 :=
  f_C_lowest_9 N N p3 p1 p2 0
set_option maxHeartbeats 4000000 in
set_option maxRecDepth 100000 in
theorem x_C_lowest_60 (E : eT) (N : Nat) (a : aT) (x4 : Int32) (x5 : Int64) (x7 : Int64) : XP qL E md_C_lowest 60 [.null, .null, .null, .null, .int x4, .long x5, .null, .long x7, .null, .null] [] a (f_C_lowest_60 N x4 x5 x7) := by
  refine XP_br (c := x4 = 0) (t := 70) (e := 65) (ls' := [.null, .null, .null, .null, .int x4, .long x5, .null, .long x7, .null, .null]) (st' := []) (a' := a) [(.iload 4, 2, 4, .null), (.ifCond .eq 8, 3, 70, .null)] (by decide +kernel) rfl ?_ ?_
  · refine XP_go (pc' := 72) (ls' := [.null, .null, .null, .null, .int x4, .long x5, .null, .long x7, .null, .null]) (st' := [.long x5]) (a' := a) [(.lload 5, 2, 5, .null)] (by decide +kernel) rfl ?_
    exact XP_retJ (by decide +kernel)
  · refine XP_go (pc' := 72) (ls' := [.null, .null, .null, .null, .int x4, .long x5, .null, .long x7, .null, .null]) (st' := [.long x7]) (a' := a) [(.lload 7, 2, 7, .null), (.goto 5, 3, 72, .null)] (by decide +kernel) rfl ?_
    exact XP_retJ (by decide +kernel)
set_option maxHeartbeats 4000000 in
set_option maxRecDepth 100000 in
theorem x_C_lowest_9 (E : eT) (N : Nat) (a : aT) : ∀ (n : Nat) (x4 : Int32) (x5 : Int64) (x7 : Int64) (x9 : Int32), XP qL E md_C_lowest 9 [.null, .null, .null, .null, .int x4, .long x5, .null, .long x7, .null, .int x9] [] a (f_C_lowest_9 N n x4 x5 x7 x9)
  | 0, _, _, _, _ => XP_no rfl
  | n + 1, x4, x5, x7, x9 => by
    refine XP_br (c := 64 ≤ x9) (t := 60) (e := 16) (ls' := [.null, .null, .null, .null, .int x4, .long x5, .null, .long x7, .null, .int x9]) (st' := []) (a' := a) [(.iload 9, 2, 9, .null), (.bipush 64, 2, 0, .int 64), (.if_icmp .ge 47, 3, 60, .null)] (by decide +kernel) rfl ?_ ?_
    · refine XP_fg [false, false, false, false, true, true, false, true, false, false] ?_
      exact x_C_lowest_60 E N a x4 x5 x7
    · refine XP_br (c := (lg_cmp (l_rem x5 2) 0) = 0) (t := 27) (e := 60) (ls' := [.null, .null, .null, .null, .int x4, .long x5, .null, .long x7, .null, .int x9]) (st' := []) (a' := a) [(.lload 5, 2, 5, .null), (.ldc2_w 336, 3, 0, .long 2), (.lrem, 1, 0, .null), (.lconst 0, 1, 0, .long 0), (.lcmp, 1, 0, .null), (.ifCond .ne 36, 3, 60, .null)] (by decide +kernel) rfl ?_ ?_
      · refine XP_br (c := (lg_cmp (l_rem x7 2) 0) = 0) (t := 38) (e := 60) (ls' := [.null, .null, .null, .null, .int x4, .long x5, .null, .long x7, .null, .int x9]) (st' := []) (a' := a) [(.lload 7, 2, 7, .null), (.ldc2_w 336, 3, 0, .long 2), (.lrem, 1, 0, .null), (.lconst 0, 1, 0, .long 0), (.lcmp, 1, 0, .null), (.ifCond .ne 25, 3, 60, .null)] (by decide +kernel) rfl ?_ ?_
        · refine XP_go (pc' := 9) (ls' := [.null, .null, .null, .null, .int x4, .long (x5 / 2), .null, .long (x7 / 2), .null, .int (x9 + 1)]) (st' := []) (a' := a) [(.lload 5, 2, 5, .null), (.ldc2_w 336, 3, 0, .long 2), (.ldiv, 1, 0, .null), (.lstore 5, 2, 5, .null), (.lload 7, 2, 7, .null), (.ldc2_w 336, 3, 0, .long 2), (.ldiv, 1, 0, .null), (.lstore 7, 2, 7, .null), (.iinc 9 1, 3, 9, .int 1), (.goto (-48), 3, 9, .null)] (by decide +kernel) rfl ?_
          refine XP_fg [false, false, false, false, true, true, false, true, false, true] ?_
          exact x_C_lowest_9 E N a n x4 (x5 / 2) (x7 / 2) (x9 + 1)
        · refine XP_fg [false, false, false, false, true, true, false, true, false, false] ?_
          exact x_C_lowest_60 E N a x4 x5 x7
      · refine XP_fg [false, false, false, false, true, true, false, true, false, false] ?_
        exact x_C_lowest_60 E N a x4 x5 x7
set_option maxHeartbeats 4000000 in
set_option maxRecDepth 100000 in
theorem x_C_lowest (E : eT) (N : Nat) (p1 : Int64) (p2 : Int64) (p3 : Int32) (a : aT) : XP qL E md_C_lowest 0 [.long p1, .null, .long p2, .null, .int p3, .null, .null, .null, .null, .null] [] a (f_C_lowest N p1 p2 p3) := by
  refine XP_go (pc' := 9) (ls' := [.long p1, .null, .long p2, .null, .int p3, .long p1, .null, .long p2, .null, .int 0]) (st' := []) (a' := a) [(.lload_n 0, 1, 0, .null), (.lstore 5, 2, 5, .null), (.lload_n 2, 1, 2, .null), (.lstore 7, 2, 7, .null), (.iconst 0, 1, 0, .int 0), (.istore 9, 2, 9, .null)] (by decide +kernel) rfl ?_
  refine XP_fg [false, false, false, false, true, true, false, true, false, true] ?_
  exact x_C_lowest_9 E N a N p3 p1 p2 0
/-! ChestnutSticks.brings(III)J -/
def md_C_brings : md_T := (yX10_brings, cX10_brings, 5, (some .long), 6, 142)
set_option maxRecDepth 100000 in
theorem ok_C_brings : m_ok md_C_brings := ⟨List.mem_of_getElem? (i := 593) (by decide +kernel), by decide +kernel, List.mem_of_getElem? (i := 53) (by decide +kernel), by decide +kernel⟩
theorem mv_C_brings : Cond.instanceMethod (m_y md_C_brings) ∈ lw_tbl ∧ Cond.selects (m_y md_C_brings).cls (m_y md_C_brings) (m_y md_C_brings) ∈ lw_tbl := ⟨List.mem_of_getElem? (i := 591) (by decide +kernel), List.mem_of_getElem? (i := 592) (by decide +kernel)⟩
def f_C_brings_71 (N : Nat) (x4 : Int32) (y4 : Int32) (y3 : Int32) (y2 : Int32) (a : aT) : Option (Int64 × aT) :=
  (f_P_sixteenths N y2 y3 y4 a).bind fun q5 =>
    (f_C_lowest N q5.toInt64 16 x4).bind fun q6 =>
      some (q6, a)
def f_C_brings_53 (N : Nat) (x1 : Int32) (x2 : Int32) (x3 : Int32) (y1 : Int32) (a : aT) : Option (Int64 × aT) :=
  if 2 ≤ x3 then
    f_C_brings_71 N y1 0 x2 x1 a
  else
    f_C_brings_71 N y1 1 x2 x1 a
def f_C_brings_48 (N : Nat) (x1 : Int32) (x2 : Int32) (x3 : Int32) (a : aT) : Option (Int64 × aT) :=
  f_C_brings_53 N x1 x2 x3 1 a
def f_C_brings (N : Nat) (p1 : Int32) (p2 : Int32) (p3 : Int32) (a : aT) : Option (Int64 × aT) :=
  if (f_C_isBelow p1 4) = 0 then
    some ((-9223372036854775806), a)
  else
    (f_E_isCell p2 a).bind fun q2 =>
      if q2 = 0 then
        some ((-9223372036854775806), a)
      else
        if (f_C_isBelow p3 4) = 0 then
          some ((-9223372036854775806), a)
        else
          (f_P_replayAll N a).bind fun q4 =>
            if p3 = 1 then
              f_C_brings_48 N p1 p2 p3 q4.2
            else
              if p3 = 3 then
                f_C_brings_48 N p1 p2 p3 q4.2
              else
                f_C_brings_53 N p1 p2 p3 0 q4.2
set_option maxHeartbeats 4000000 in
set_option maxRecDepth 100000 in
theorem x_C_brings_71 (E : eT) (N : Nat) (x4 : Int32) (y4 : Int32) (y3 : Int32) (y2 : Int32) (a : aT) : XI qL E md_C_brings 71 [.null, .null, .null, .null, .int x4] [.int y4, .int y3, .int y2, .ref 14] a (f_C_brings_71 N x4 y4 y3 y2 a) := by
  refine XI_VP (As := [.int y2, .int y3, .int y4]) (rest := []) (b := 14) (idx := 177) (by decide +kernel) ok_P_sixteenths mv_P_sixteenths (n := 3) ⟨lk_C_177, by decide +kernel⟩ rfl rfl rfl rfl (Nat.le_of_ble_eq_true rfl) (Nat.le_of_ble_eq_true rfl) (qI_h rfl) (x_P_sixteenths E N y2 y3 y4 a) (fun q5 => ?_)
  refine XI_go (pc' := 80) (ls' := [.null, .null, .null, .null, .int x4]) (st' := [.int x4, .long 16, .long q5.toInt64]) (a' := a) [(.i2l, 1, 0, .null), (.ldc2_w 181, 3, 0, .long 16), (.iload 4, 2, 4, .null)] (by decide +kernel) rfl ?_
  refine XI_SP (As := [.long q5.toInt64, .long 16, .int x4]) (rest := []) (idx := 183) (by decide +kernel) ok_C_lowest mv_C_lowest (n := 3) ⟨lk_C_183, by decide +kernel⟩ rfl (Nat.le_of_ble_eq_true rfl) (Nat.le_of_ble_eq_true rfl) (qL_h rfl) (x_C_lowest E N q5.toInt64 16 x4 a) (fun q6 => ?_)
  exact XI_retJ (by decide +kernel)
set_option maxHeartbeats 4000000 in
set_option maxRecDepth 100000 in
theorem x_C_brings_53 (E : eT) (N : Nat) (x1 : Int32) (x2 : Int32) (x3 : Int32) (y1 : Int32) (a : aT) : XI qL E md_C_brings 53 [.ref 0, .int x1, .int x2, .int x3, .null] [.int y1] a (f_C_brings_53 N x1 x2 x3 y1 a) := by
  refine XI_br (c := 2 ≤ x3) (t := 70) (e := 66) (ls' := [.ref 0, .int x1, .int x2, .int x3, .int y1]) (st' := [.int x2, .int x1, .ref 14]) (a' := a) [(.istore 4, 2, 4, .null), (.aload_n 0, 1, 0, .null), (.getfield 49, 3, 1005, .null), (.iload_n 1, 1, 1, .null), (.iload_n 2, 1, 2, .null), (.iload_n 3, 1, 3, .null), (.iconst 2, 1, 0, .int 2), (.if_icmp .ge 7, 3, 70, .null)] (by decide +kernel) rfl ?_ ?_
  · refine XI_go (pc' := 71) (ls' := [.ref 0, .int x1, .int x2, .int x3, .int y1]) (st' := [.int 0, .int x2, .int x1, .ref 14]) (a' := a) [(.iconst 0, 1, 0, .int 0)] (by decide +kernel) rfl ?_
    refine XI_fg [false, false, false, false, true] ?_
    exact x_C_brings_71 E N y1 0 x2 x1 a
  · refine XI_go (pc' := 71) (ls' := [.ref 0, .int x1, .int x2, .int x3, .int y1]) (st' := [.int 1, .int x2, .int x1, .ref 14]) (a' := a) [(.iconst 1, 1, 0, .int 1), (.goto 4, 3, 71, .null)] (by decide +kernel) rfl ?_
    refine XI_fg [false, false, false, false, true] ?_
    exact x_C_brings_71 E N y1 1 x2 x1 a
set_option maxHeartbeats 4000000 in
set_option maxRecDepth 100000 in
theorem x_C_brings_48 (E : eT) (N : Nat) (x1 : Int32) (x2 : Int32) (x3 : Int32) (a : aT) : XI qL E md_C_brings 48 [.ref 0, .int x1, .int x2, .int x3, .null] [] a (f_C_brings_48 N x1 x2 x3 a) := by
  refine XI_go (pc' := 53) (ls' := [.ref 0, .int x1, .int x2, .int x3, .null]) (st' := [.int 1]) (a' := a) [(.iconst 1, 1, 0, .int 1), (.goto 4, 3, 53, .null)] (by decide +kernel) rfl ?_
  refine XI_fg [true, true, true, true, false] ?_
  exact x_C_brings_53 E N x1 x2 x3 1 a
set_option maxHeartbeats 4000000 in
set_option maxRecDepth 100000 in
theorem x_C_brings (E : eT) (N : Nat) (p1 : Int32) (p2 : Int32) (p3 : Int32) (a : aT) : XI qL E md_C_brings 0 [.ref 0, .int p1, .int p2, .int p3, .null] [] a (f_C_brings N p1 p2 p3 a) := by
  refine XI_go (pc' := 2) (ls' := [.ref 0, .int p1, .int p2, .int p3, .null]) (st' := [.int 4, .int p1]) (a' := a) [(.iload_n 1, 1, 1, .null), (.iconst 4, 1, 0, .int 4)] (by decide +kernel) rfl ?_
  refine XI_ST (As := [.int p1, .int 4]) (rest := []) (idx := 110) (by decide +kernel) ok_C_isBelow mv_C_isBelow (n := 2) ⟨lk_C_110, by decide +kernel⟩ rfl (Nat.le_of_ble_eq_true rfl) (Nat.le_of_ble_eq_true rfl) (qZ_h rfl) (x_C_isBelow E p1 4 a) ?_
  refine XI_br (c := (f_C_isBelow p1 4) = 0) (t := 27) (e := 8) (ls' := [.ref 0, .int p1, .int p2, .int p3, .null]) (st' := []) (a' := a) [(.ifCond .eq 22, 3, 27, .null)] (by decide +kernel) rfl ?_ ?_
  · refine XI_go (pc' := 30) (ls' := [.ref 0, .int p1, .int p2, .int p3, .null]) (st' := [.long (-9223372036854775806)]) (a' := a) [(.ldc2_w 175, 3, 0, .long (-9223372036854775806))] (by decide +kernel) rfl ?_
    exact XI_retJ (by decide +kernel)
  · refine XI_go (pc' := 13) (ls' := [.ref 0, .int p1, .int p2, .int p3, .null]) (st' := [.int p2, .ref 1]) (a' := a) [(.aload_n 0, 1, 0, .null), (.getfield 10, 3, 1000, .null), (.iload_n 2, 1, 2, .null)] (by decide +kernel) rfl ?_
    refine XI_VP (As := [.int p2]) (rest := []) (b := 1) (idx := 166) (by decide +kernel) ok_E_isCell mv_E_isCell (n := 1) ⟨lk_C_166, by decide +kernel⟩ rfl rfl rfl rfl (Nat.le_of_ble_eq_true rfl) (Nat.le_of_ble_eq_true rfl) (qZ_h rfl) (x_E_isCell E p2 a) (fun q2 => ?_)
    refine XI_br (c := q2 = 0) (t := 27) (e := 19) (ls' := [.ref 0, .int p1, .int p2, .int p3, .null]) (st' := []) (a' := a) [(.ifCond .eq 11, 3, 27, .null)] (by decide +kernel) rfl ?_ ?_
    · refine XI_go (pc' := 30) (ls' := [.ref 0, .int p1, .int p2, .int p3, .null]) (st' := [.long (-9223372036854775806)]) (a' := a) [(.ldc2_w 175, 3, 0, .long (-9223372036854775806))] (by decide +kernel) rfl ?_
      exact XI_retJ (by decide +kernel)
    · refine XI_go (pc' := 21) (ls' := [.ref 0, .int p1, .int p2, .int p3, .null]) (st' := [.int 4, .int p3]) (a' := a) [(.iload_n 3, 1, 3, .null), (.iconst 4, 1, 0, .int 4)] (by decide +kernel) rfl ?_
      refine XI_ST (As := [.int p3, .int 4]) (rest := []) (idx := 110) (by decide +kernel) ok_C_isBelow mv_C_isBelow (n := 2) ⟨lk_C_110, by decide +kernel⟩ rfl (Nat.le_of_ble_eq_true rfl) (Nat.le_of_ble_eq_true rfl) (qZ_h rfl) (x_C_isBelow E p3 4 a) ?_
      refine XI_br (c := (f_C_isBelow p3 4) = 0) (t := 27) (e := 31) (ls' := [.ref 0, .int p1, .int p2, .int p3, .null]) (st' := []) (a' := a) [(.ifCond .ne 7, 3, 31, .null)] (by decide +kernel) rfl ?_ ?_
      · refine XI_go (pc' := 30) (ls' := [.ref 0, .int p1, .int p2, .int p3, .null]) (st' := [.long (-9223372036854775806)]) (a' := a) [(.ldc2_w 175, 3, 0, .long (-9223372036854775806))] (by decide +kernel) rfl ?_
        exact XI_retJ (by decide +kernel)
      · refine XI_go (pc' := 35) (ls' := [.ref 0, .int p1, .int p2, .int p3, .null]) (st' := [.ref 14]) (a' := a) [(.aload_n 0, 1, 0, .null), (.getfield 49, 3, 1005, .null)] (by decide +kernel) rfl ?_
        refine XI_VI (As := []) (rest := []) (b := 14) (idx := 135) (by decide +kernel) ok_P_replayAll mv_P_replayAll (n := 0) ⟨lk_C_135, by decide +kernel⟩ rfl rfl rfl rfl (Nat.le_of_ble_eq_true rfl) (Nat.le_of_ble_eq_true rfl) (qV_h rfl) (x_P_replayAll E N a) (fun q4 => ?_)
        refine XI_br (c := p3 = 1) (t := 48) (e := 43) (ls' := [.ref 0, .int p1, .int p2, .int p3, .null]) (st' := []) (a' := q4.2) [(.iload_n 3, 1, 3, .null), (.iconst 1, 1, 0, .int 1), (.if_icmp .eq 8, 3, 48, .null)] (by decide +kernel) rfl ?_ ?_
        · refine XI_fg [true, true, true, true, false] ?_
          exact x_C_brings_48 E N p1 p2 p3 q4.2
        · refine XI_br (c := p3 = 3) (t := 48) (e := 52) (ls' := [.ref 0, .int p1, .int p2, .int p3, .null]) (st' := []) (a' := q4.2) [(.iload_n 3, 1, 3, .null), (.iconst 3, 1, 0, .int 3), (.if_icmp .ne 7, 3, 52, .null)] (by decide +kernel) rfl ?_ ?_
          · refine XI_fg [true, true, true, true, false] ?_
            exact x_C_brings_48 E N p1 p2 p3 q4.2
          · refine XI_go (pc' := 53) (ls' := [.ref 0, .int p1, .int p2, .int p3, .null]) (st' := [.int 0]) (a' := q4.2) [(.iconst 0, 1, 0, .int 0)] (by decide +kernel) rfl ?_
            refine XI_fg [true, true, true, true, false] ?_
            exact x_C_brings_53 E N p1 p2 p3 0 q4.2
/-! ChestnutSticksModel.bringsBy(IIIZ)I -/
def md_M_bringsBy : md_T := (yX11_bringsBy, cX11_bringsBy, 8, (some .int), 3, 63)
set_option maxRecDepth 100000 in
theorem ok_M_bringsBy : m_ok md_M_bringsBy := ⟨List.mem_of_getElem? (i := 1190) (by decide +kernel), by decide +kernel, List.mem_of_getElem? (i := 64) (by decide +kernel), by decide +kernel⟩
theorem mv_M_bringsBy : Cond.instanceMethod (m_y md_M_bringsBy) ∈ lw_tbl ∧ Cond.selects (m_y md_M_bringsBy).cls (m_y md_M_bringsBy) (m_y md_M_bringsBy) ∈ lw_tbl := ⟨List.mem_of_getElem? (i := 1189) (by decide +kernel), List.mem_of_getElem? (i := 36) (by decide +kernel)⟩
def f_M_bringsBy_79 (N : Nat) (a : aT) (k6 : Int32 → Int32 → Int32 → Int32 → Int32 → Int32 → Option Int32) (x1 : Int32) (x2 : Int32) (x3 : Int32) (x4 : Int32) (x6 : Int32) (y2 : Int32) (y1 : Int32) : Option Int32 :=
  if y2 = x4 then
    k6 x1 x2 x3 x4 (y1 + 1) (x6 + 1)
  else
    k6 x1 x2 x3 x4 (y1 + 0) (x6 + 1)
def f_M_bringsBy_55 (N : Nat) (a : aT) (k6 : Int32 → Int32 → Int32 → Int32 → Int32 → Int32 → Option Int32) (x1 : Int32) (x2 : Int32) (x3 : Int32) (x4 : Int32) (x5 : Int32) (x6 : Int32) (y1 : Int32) : Option Int32 :=
  if y1 = 0 then
    k6 x1 x2 x3 x4 (x5 + 0) (x6 + 1)
  else
    (f_M_hangsNow x6 a).bind fun q3 =>
      if 2 < q3 then
        f_M_bringsBy_79 N a k6 x1 x2 x3 x4 x6 0 x5
      else
        f_M_bringsBy_79 N a k6 x1 x2 x3 x4 x6 1 x5
def f_M_bringsBy_54 (N : Nat) (a : aT) (k6 : Int32 → Int32 → Int32 → Int32 → Int32 → Int32 → Option Int32) (x1 : Int32) (x2 : Int32) (x3 : Int32) (x4 : Int32) (x5 : Int32) (x6 : Int32) : Option Int32 :=
  f_M_bringsBy_55 N a k6 x1 x2 x3 x4 x5 x6 0
def f_M_bringsBy_6 (N : Nat) (a : aT) : Nat → Int32 → Int32 → Int32 → Int32 → Int32 → Int32 → Option Int32
  | 0 => fun _ _ _ _ _ _ => none
  | n + 1 => fun x1 x2 x3 x4 x5 x6 =>
    if 48 ≤ x6 then
      some x5
    else
      if inb x6 48 then
        if (a 45 (ix x6)) = 0 then
          f_M_bringsBy_54 N a (f_M_bringsBy_6 N a n) x1 x2 x3 x4 x5 x6
        else
          (f_M_strikes x1 x2 x3 x6 a).bind fun q1 =>
            if q1 = 0 then
              f_M_bringsBy_54 N a (f_M_bringsBy_6 N a n) x1 x2 x3 x4 x5 x6
            else
              (f_M_hangsNow x6 a).bind fun q2 =>
                if inb x1 4 then
                  if (a 39 (ix x1)) ≤ q2 then
                    f_M_bringsBy_54 N a (f_M_bringsBy_6 N a n) x1 x2 x3 x4 x5 x6
                  else
                    f_M_bringsBy_55 N a (f_M_bringsBy_6 N a n) x1 x2 x3 x4 x5 x6 1
                else none
      else none
def f_M_bringsBy (N : Nat) (p1 : Int32) (p2 : Int32) (p3 : Int32) (p4 : Int32) (a : aT) : Option Int32 :=
  f_M_bringsBy_6 N a N p1 p2 p3 p4 0 0
set_option maxHeartbeats 4000000 in
set_option maxRecDepth 100000 in
theorem x_M_bringsBy_79 (E : eT) (N : Nat) (a : aT) (k6 : Int32 → Int32 → Int32 → Int32 → Int32 → Int32 → Option Int32) (h6 : ∀ (x1 : Int32) (x2 : Int32) (x3 : Int32) (x4 : Int32) (x5 : Int32) (x6 : Int32), XP qI E md_M_bringsBy 6 [.ref 31, .int x1, .int x2, .int x3, .int x4, .int x5, .int x6, .null] [] a (k6 x1 x2 x3 x4 x5 x6)) (x1 : Int32) (x2 : Int32) (x3 : Int32) (x4 : Int32) (x6 : Int32) (y2 : Int32) (y1 : Int32) : XP qI E md_M_bringsBy 79 [.ref 31, .int x1, .int x2, .int x3, .int x4, .null, .int x6, .null] [.int y2, .int y1] a (f_M_bringsBy_79 N a k6 x1 x2 x3 x4 x6 y2 y1) := by
  refine XP_br (c := y2 = x4) (t := 84) (e := 88) (ls' := [.ref 31, .int x1, .int x2, .int x3, .int x4, .null, .int x6, .null]) (st' := [.int y1]) (a' := a) [(.iload 4, 2, 4, .null), (.if_icmp .ne 7, 3, 88, .null)] (by decide +kernel) rfl ?_ ?_
  · refine XP_go (pc' := 6) (ls' := [.ref 31, .int x1, .int x2, .int x3, .int x4, .int (y1 + 1), .int (x6 + 1), .null]) (st' := []) (a' := a) [(.iconst 1, 1, 0, .int 1), (.goto 4, 3, 89, .null), (.iadd, 1, 0, .null), (.istore 5, 2, 5, .null), (.iinc 6 1, 3, 6, .int 1), (.goto (-89), 3, 6, .null)] (by decide +kernel) rfl ?_
    refine XP_fg [true, true, true, true, true, true, true, false] ?_
    exact h6 x1 x2 x3 x4 (y1 + 1) (x6 + 1)
  · refine XP_go (pc' := 6) (ls' := [.ref 31, .int x1, .int x2, .int x3, .int x4, .int (y1 + 0), .int (x6 + 1), .null]) (st' := []) (a' := a) [(.iconst 0, 1, 0, .int 0), (.iadd, 1, 0, .null), (.istore 5, 2, 5, .null), (.iinc 6 1, 3, 6, .int 1), (.goto (-89), 3, 6, .null)] (by decide +kernel) rfl ?_
    refine XP_fg [true, true, true, true, true, true, true, false] ?_
    exact h6 x1 x2 x3 x4 (y1 + 0) (x6 + 1)
set_option maxHeartbeats 4000000 in
set_option maxRecDepth 100000 in
theorem x_M_bringsBy_55 (E : eT) (N : Nat) (a : aT) (k6 : Int32 → Int32 → Int32 → Int32 → Int32 → Int32 → Option Int32) (h6 : ∀ (x1 : Int32) (x2 : Int32) (x3 : Int32) (x4 : Int32) (x5 : Int32) (x6 : Int32), XP qI E md_M_bringsBy 6 [.ref 31, .int x1, .int x2, .int x3, .int x4, .int x5, .int x6, .null] [] a (k6 x1 x2 x3 x4 x5 x6)) (x1 : Int32) (x2 : Int32) (x3 : Int32) (x4 : Int32) (x5 : Int32) (x6 : Int32) (y1 : Int32) : XP qI E md_M_bringsBy 55 [.ref 31, .int x1, .int x2, .int x3, .int x4, .int x5, .int x6, .null] [.int y1] a (f_M_bringsBy_55 N a k6 x1 x2 x3 x4 x5 x6 y1) := by
  refine XP_br (c := y1 = 0) (t := 88) (e := 64) (ls' := [.ref 31, .int x1, .int x2, .int x3, .int x4, .int x5, .int x6, .int y1]) (st' := [.int x5]) (a' := a) [(.istore 7, 2, 7, .null), (.iload 5, 2, 5, .null), (.iload 7, 2, 7, .null), (.ifCond .eq 27, 3, 88, .null)] (by decide +kernel) rfl ?_ ?_
  · refine XP_go (pc' := 6) (ls' := [.ref 31, .int x1, .int x2, .int x3, .int x4, .int (x5 + 0), .int (x6 + 1), .int y1]) (st' := []) (a' := a) [(.iconst 0, 1, 0, .int 0), (.iadd, 1, 0, .null), (.istore 5, 2, 5, .null), (.iinc 6 1, 3, 6, .int 1), (.goto (-89), 3, 6, .null)] (by decide +kernel) rfl ?_
    refine XP_fg [true, true, true, true, true, true, true, false] ?_
    exact h6 x1 x2 x3 x4 (x5 + 0) (x6 + 1)
  · refine XP_go (pc' := 67) (ls' := [.ref 31, .int x1, .int x2, .int x3, .int x4, .int x5, .int x6, .int y1]) (st' := [.int x6, .ref 31, .int x5]) (a' := a) [(.aload_n 0, 1, 0, .null), (.iload 6, 2, 6, .null)] (by decide +kernel) rfl ?_
    refine XP_VP (As := [.int x6]) (rest := [.int x5]) (b := 31) (idx := 166) (by decide +kernel) ok_M_hangsNow mv_M_hangsNow (n := 1) ⟨lk_M_166, by decide +kernel⟩ rfl rfl rfl rfl (Nat.le_of_ble_eq_true rfl) (Nat.le_of_ble_eq_true rfl) (qI_h rfl) (x_M_hangsNow E x6 a) (fun q3 => ?_)
    refine XP_br (c := 2 < q3) (t := 78) (e := 74) (ls' := [.ref 31, .int x1, .int x2, .int x3, .int x4, .int x5, .int x6, .int y1]) (st' := [.int x5]) (a' := a) [(.iconst 2, 1, 0, .int 2), (.if_icmp .gt 7, 3, 78, .null)] (by decide +kernel) rfl ?_ ?_
    · refine XP_go (pc' := 79) (ls' := [.ref 31, .int x1, .int x2, .int x3, .int x4, .int x5, .int x6, .int y1]) (st' := [.int 0, .int x5]) (a' := a) [(.iconst 0, 1, 0, .int 0)] (by decide +kernel) rfl ?_
      refine XP_fg [true, true, true, true, true, false, true, false] ?_
      exact x_M_bringsBy_79 E N a k6 h6 x1 x2 x3 x4 x6 0 x5
    · refine XP_go (pc' := 79) (ls' := [.ref 31, .int x1, .int x2, .int x3, .int x4, .int x5, .int x6, .int y1]) (st' := [.int 1, .int x5]) (a' := a) [(.iconst 1, 1, 0, .int 1), (.goto 4, 3, 79, .null)] (by decide +kernel) rfl ?_
      refine XP_fg [true, true, true, true, true, false, true, false] ?_
      exact x_M_bringsBy_79 E N a k6 h6 x1 x2 x3 x4 x6 1 x5
set_option maxHeartbeats 4000000 in
set_option maxRecDepth 100000 in
theorem x_M_bringsBy_54 (E : eT) (N : Nat) (a : aT) (k6 : Int32 → Int32 → Int32 → Int32 → Int32 → Int32 → Option Int32) (h6 : ∀ (x1 : Int32) (x2 : Int32) (x3 : Int32) (x4 : Int32) (x5 : Int32) (x6 : Int32), XP qI E md_M_bringsBy 6 [.ref 31, .int x1, .int x2, .int x3, .int x4, .int x5, .int x6, .null] [] a (k6 x1 x2 x3 x4 x5 x6)) (x1 : Int32) (x2 : Int32) (x3 : Int32) (x4 : Int32) (x5 : Int32) (x6 : Int32) : XP qI E md_M_bringsBy 54 [.ref 31, .int x1, .int x2, .int x3, .int x4, .int x5, .int x6, .null] [] a (f_M_bringsBy_54 N a k6 x1 x2 x3 x4 x5 x6) := by
  refine XP_go (pc' := 55) (ls' := [.ref 31, .int x1, .int x2, .int x3, .int x4, .int x5, .int x6, .null]) (st' := [.int 0]) (a' := a) [(.iconst 0, 1, 0, .int 0)] (by decide +kernel) rfl ?_
  refine XP_fg [true, true, true, true, true, true, true, false] ?_
  exact x_M_bringsBy_55 E N a k6 h6 x1 x2 x3 x4 x5 x6 0
set_option maxHeartbeats 4000000 in
set_option maxRecDepth 100000 in
theorem x_M_bringsBy_6 (E : eT) (N : Nat) (a : aT) : ∀ (n : Nat) (x1 : Int32) (x2 : Int32) (x3 : Int32) (x4 : Int32) (x5 : Int32) (x6 : Int32), XP qI E md_M_bringsBy 6 [.ref 31, .int x1, .int x2, .int x3, .int x4, .int x5, .int x6, .null] [] a (f_M_bringsBy_6 N a n x1 x2 x3 x4 x5 x6)
  | 0, _, _, _, _, _, _ => XP_no rfl
  | n + 1, x1, x2, x3, x4, x5, x6 => by
    refine XP_br (c := 48 ≤ x6) (t := 98) (e := 13) (ls' := [.ref 31, .int x1, .int x2, .int x3, .int x4, .int x5, .int x6, .null]) (st' := []) (a' := a) [(.iload 6, 2, 6, .null), (.bipush 48, 2, 0, .int 48), (.if_icmp .ge 88, 3, 98, .null)] (by decide +kernel) rfl ?_ ?_
    · refine XP_go (pc' := 100) (ls' := [.ref 31, .int x1, .int x2, .int x3, .int x4, .int x5, .int x6, .null]) (st' := [.int x5]) (a' := a) [(.iload 5, 2, 5, .null)] (by decide +kernel) rfl ?_
      exact XP_retI (by decide +kernel)
    · refine XP_ck (c := inb x6 48) (pc' := 20) (ls' := [.ref 31, .int x1, .int x2, .int x3, .int x4, .int x5, .int x6, .null]) (st' := [.int (a 45 (ix x6))]) (a' := a) [(.aload_n 0, 1, 0, .null), (.getfield 50, 3, 1120, .null), (.iload 6, 2, 6, .null), (.baload, 1, 0, .null)] (by decide +kernel) rfl ?_
      refine XP_br (c := (a 45 (ix x6)) = 0) (t := 54) (e := 23) (ls' := [.ref 31, .int x1, .int x2, .int x3, .int x4, .int x5, .int x6, .null]) (st' := []) (a' := a) [(.ifCond .eq 34, 3, 54, .null)] (by decide +kernel) rfl ?_ ?_
      · refine XP_fg [true, true, true, true, true, true, true, false] ?_
        exact x_M_bringsBy_54 E N a (f_M_bringsBy_6 N a n) (x_M_bringsBy_6 E N a n) x1 x2 x3 x4 x5 x6
      · refine XP_go (pc' := 29) (ls' := [.ref 31, .int x1, .int x2, .int x3, .int x4, .int x5, .int x6, .null]) (st' := [.int x6, .int x3, .int x2, .int x1, .ref 31]) (a' := a) [(.aload_n 0, 1, 0, .null), (.iload_n 1, 1, 1, .null), (.iload_n 2, 1, 2, .null), (.iload_n 3, 1, 3, .null), (.iload 6, 2, 6, .null)] (by decide +kernel) rfl ?_
        refine XP_VP (As := [.int x1, .int x2, .int x3, .int x6]) (rest := []) (b := 31) (idx := 181) (by decide +kernel) ok_M_strikes mv_M_strikes (n := 4) ⟨lk_M_181, by decide +kernel⟩ rfl rfl rfl rfl (Nat.le_of_ble_eq_true rfl) (Nat.le_of_ble_eq_true rfl) (qZ_h rfl) (x_M_strikes E x1 x2 x3 x6 a) (fun q1 => ?_)
        refine XP_br (c := q1 = 0) (t := 54) (e := 35) (ls' := [.ref 31, .int x1, .int x2, .int x3, .int x4, .int x5, .int x6, .null]) (st' := []) (a' := a) [(.ifCond .eq 22, 3, 54, .null)] (by decide +kernel) rfl ?_ ?_
        · refine XP_fg [true, true, true, true, true, true, true, false] ?_
          exact x_M_bringsBy_54 E N a (f_M_bringsBy_6 N a n) (x_M_bringsBy_6 E N a n) x1 x2 x3 x4 x5 x6
        · refine XP_go (pc' := 38) (ls' := [.ref 31, .int x1, .int x2, .int x3, .int x4, .int x5, .int x6, .null]) (st' := [.int x6, .ref 31]) (a' := a) [(.aload_n 0, 1, 0, .null), (.iload 6, 2, 6, .null)] (by decide +kernel) rfl ?_
          refine XP_VP (As := [.int x6]) (rest := []) (b := 31) (idx := 166) (by decide +kernel) ok_M_hangsNow mv_M_hangsNow (n := 1) ⟨lk_M_166, by decide +kernel⟩ rfl rfl rfl rfl (Nat.le_of_ble_eq_true rfl) (Nat.le_of_ble_eq_true rfl) (qI_h rfl) (x_M_hangsNow E x6 a) (fun q2 => ?_)
          refine XP_ck (c := inb x1 4) (pc' := 47) (ls' := [.ref 31, .int x1, .int x2, .int x3, .int x4, .int x5, .int x6, .null]) (st' := [.int (a 39 (ix x1)), .int q2]) (a' := a) [(.aload_n 0, 1, 0, .null), (.getfield 32, 3, 1112, .null), (.iload_n 1, 1, 1, .null), (.iaload, 1, 0, .null)] (by decide +kernel) rfl ?_
          refine XP_br (c := (a 39 (ix x1)) ≤ q2) (t := 54) (e := 50) (ls' := [.ref 31, .int x1, .int x2, .int x3, .int x4, .int x5, .int x6, .null]) (st' := []) (a' := a) [(.if_icmp .ge 7, 3, 54, .null)] (by decide +kernel) rfl ?_ ?_
          · refine XP_fg [true, true, true, true, true, true, true, false] ?_
            exact x_M_bringsBy_54 E N a (f_M_bringsBy_6 N a n) (x_M_bringsBy_6 E N a n) x1 x2 x3 x4 x5 x6
          · refine XP_go (pc' := 55) (ls' := [.ref 31, .int x1, .int x2, .int x3, .int x4, .int x5, .int x6, .null]) (st' := [.int 1]) (a' := a) [(.iconst 1, 1, 0, .int 1), (.goto 4, 3, 55, .null)] (by decide +kernel) rfl ?_
            refine XP_fg [true, true, true, true, true, true, true, false] ?_
            exact x_M_bringsBy_55 E N a (f_M_bringsBy_6 N a n) (x_M_bringsBy_6 E N a n) x1 x2 x3 x4 x5 x6 1
set_option maxHeartbeats 4000000 in
set_option maxRecDepth 100000 in
theorem x_M_bringsBy (E : eT) (N : Nat) (p1 : Int32) (p2 : Int32) (p3 : Int32) (p4 : Int32) (a : aT) : XP qI E md_M_bringsBy 0 [.ref 31, .int p1, .int p2, .int p3, .int p4, .null, .null, .null] [] a (f_M_bringsBy N p1 p2 p3 p4 a) := by
  refine XP_go (pc' := 6) (ls' := [.ref 31, .int p1, .int p2, .int p3, .int p4, .int 0, .int 0, .null]) (st' := []) (a' := a) [(.iconst 0, 1, 0, .int 0), (.istore 5, 2, 5, .null), (.iconst 0, 1, 0, .int 0), (.istore 6, 2, 6, .null)] (by decide +kernel) rfl ?_
  refine XP_fg [true, true, true, true, true, true, true, false] ?_
  exact x_M_bringsBy_6 E N a N p1 p2 p3 p4 0 0
/-! ChestnutSticksModel.meanOf(IIZ)I -/
def md_M_meanOf : md_T := (yX11_meanOf, cX11_meanOf, 8, (some .int), 4, 90)
set_option maxRecDepth 100000 in
theorem ok_M_meanOf : m_ok md_M_meanOf := ⟨List.mem_of_getElem? (i := 1186) (by decide +kernel), by decide +kernel, List.mem_of_getElem? (i := 64) (by decide +kernel), by decide +kernel⟩
theorem mv_M_meanOf : Cond.instanceMethod (m_y md_M_meanOf) ∈ lw_tbl ∧ Cond.selects (m_y md_M_meanOf).cls (m_y md_M_meanOf) (m_y md_M_meanOf) ∈ lw_tbl := ⟨List.mem_of_getElem? (i := 1185) (by decide +kernel), List.mem_of_getElem? (i := 35) (by decide +kernel)⟩
def f_M_meanOf (N : Nat) (p1 : Int32) (p2 : Int32) (p3 : Int32) (a : aT) : Option Int32 :=
  (f_M_bringsBy N p1 (p2 / 8) ((i_rem p2 8) - 1) p3 a).bind fun q1 =>
    (f_M_bringsBy N p1 (p2 / 8) ((i_rem p2 8) + 1) p3 a).bind fun q2 =>
      (f_M_bringsBy N p1 (p2 / 8) (i_rem p2 8) p3 a).bind fun q3 =>
        some (((a 42 0) * (q1 + q2)) + ((16 - (2 * (a 42 0))) * q3))
set_option maxHeartbeats 4000000 in
set_option maxRecDepth 100000 in
theorem x_M_meanOf (E : eT) (N : Nat) (p1 : Int32) (p2 : Int32) (p3 : Int32) (a : aT) : XP qI E md_M_meanOf 0 [.ref 31, .int p1, .int p2, .int p3, .null, .null, .null, .null] [] a (f_M_meanOf N p1 p2 p3 a) := by
  refine XP_go (pc' := 29) (ls' := [.ref 31, .int p1, .int p2, .int p3, .int (p2 / 8), .int (i_rem p2 8), .int (a 42 0), .null]) (st' := [.int p3, .int ((i_rem p2 8) - 1), .int (p2 / 8), .int p1, .ref 31]) (a' := a) [(.iload_n 2, 1, 2, .null), (.bipush 8, 2, 0, .int 8), (.idiv, 1, 0, .null), (.istore 4, 2, 4, .null), (.iload_n 2, 1, 2, .null), (.bipush 8, 2, 0, .int 8), (.irem, 1, 0, .null), (.istore 5, 2, 5, .null), (.aload_n 0, 1, 0, .null), (.getfield 41, 3, 1115, .null), (.iconst 0, 1, 0, .int 0), (.iaload, 1, 0, .null), (.istore 6, 2, 6, .null), (.aload_n 0, 1, 0, .null), (.iload_n 1, 1, 1, .null), (.iload 4, 2, 4, .null), (.iload 5, 2, 5, .null), (.iconst 1, 1, 0, .int 1), (.isub, 1, 0, .null), (.iload_n 3, 1, 3, .null)] (by decide +kernel) rfl ?_
  refine XP_VP (As := [.int p1, .int (p2 / 8), .int ((i_rem p2 8) - 1), .int p3]) (rest := []) (b := 31) (idx := 218) (by decide +kernel) ok_M_bringsBy mv_M_bringsBy (n := 4) ⟨lk_M_218, by decide +kernel⟩ rfl rfl rfl rfl (Nat.le_of_ble_eq_true rfl) (Nat.le_of_ble_eq_true rfl) (qI_h rfl) (x_M_bringsBy E N p1 (p2 / 8) ((i_rem p2 8) - 1) p3 a) (fun q1 => ?_)
  refine XP_go (pc' := 41) (ls' := [.ref 31, .int p1, .int p2, .int p3, .int (p2 / 8), .int (i_rem p2 8), .int (a 42 0), .null]) (st' := [.int p3, .int ((i_rem p2 8) + 1), .int (p2 / 8), .int p1, .ref 31, .int q1]) (a' := a) [(.aload_n 0, 1, 0, .null), (.iload_n 1, 1, 1, .null), (.iload 4, 2, 4, .null), (.iload 5, 2, 5, .null), (.iconst 1, 1, 0, .int 1), (.iadd, 1, 0, .null), (.iload_n 3, 1, 3, .null)] (by decide +kernel) rfl ?_
  refine XP_VP (As := [.int p1, .int (p2 / 8), .int ((i_rem p2 8) + 1), .int p3]) (rest := [.int q1]) (b := 31) (idx := 218) (by decide +kernel) ok_M_bringsBy mv_M_bringsBy (n := 4) ⟨lk_M_218, by decide +kernel⟩ rfl rfl rfl rfl (Nat.le_of_ble_eq_true rfl) (Nat.le_of_ble_eq_true rfl) (qI_h rfl) (x_M_bringsBy E N p1 (p2 / 8) ((i_rem p2 8) + 1) p3 a) (fun q2 => ?_)
  refine XP_go (pc' := 66) (ls' := [.ref 31, .int p1, .int p2, .int p3, .int (p2 / 8), .int (i_rem p2 8), .int (a 42 0), .int (q1 + q2)]) (st' := [.int p3, .int (i_rem p2 8), .int (p2 / 8), .int p1, .ref 31, .int (16 - (2 * (a 42 0))), .int ((a 42 0) * (q1 + q2))]) (a' := a) [(.iadd, 1, 0, .null), (.istore 7, 2, 7, .null), (.iload 6, 2, 6, .null), (.iload 7, 2, 7, .null), (.imul, 1, 0, .null), (.bipush 16, 2, 0, .int 16), (.iconst 2, 1, 0, .int 2), (.iload 6, 2, 6, .null), (.imul, 1, 0, .null), (.isub, 1, 0, .null), (.aload_n 0, 1, 0, .null), (.iload_n 1, 1, 1, .null), (.iload 4, 2, 4, .null), (.iload 5, 2, 5, .null), (.iload_n 3, 1, 3, .null)] (by decide +kernel) rfl ?_
  refine XP_VP (As := [.int p1, .int (p2 / 8), .int (i_rem p2 8), .int p3]) (rest := [.int (16 - (2 * (a 42 0))), .int ((a 42 0) * (q1 + q2))]) (b := 31) (idx := 218) (by decide +kernel) ok_M_bringsBy mv_M_bringsBy (n := 4) ⟨lk_M_218, by decide +kernel⟩ rfl rfl rfl rfl (Nat.le_of_ble_eq_true rfl) (Nat.le_of_ble_eq_true rfl) (qI_h rfl) (x_M_bringsBy E N p1 (p2 / 8) (i_rem p2 8) p3 a) (fun q3 => ?_)
  refine XP_go (pc' := 71) (ls' := [.ref 31, .int p1, .int p2, .int p3, .int (p2 / 8), .int (i_rem p2 8), .int (a 42 0), .int (q1 + q2)]) (st' := [.int (((a 42 0) * (q1 + q2)) + ((16 - (2 * (a 42 0))) * q3))]) (a' := a) [(.imul, 1, 0, .null), (.iadd, 1, 0, .null)] (by decide +kernel) rfl ?_
  exact XP_retI (by decide +kernel)
/-! ChestnutSticksModel.part(JJI)J -/
def md_M_part : md_T := (yX11_part, cX11_part, 11, (some .long), 0, 0)
set_option maxRecDepth 100000 in
theorem ok_M_part : m_ok md_M_part := ⟨List.mem_of_getElem? (i := 1193) (by decide +kernel), by decide +kernel, List.mem_of_getElem? (i := 64) (by decide +kernel), by decide +kernel⟩
theorem mv_M_part : Cond.static (m_y md_M_part) ∈ lw_tbl := List.mem_of_getElem? (i := 1192) (by decide +kernel)
def f_M_part_6 (N : Nat) : Nat → Int64 → Int64 → Int32 → Int64 → Int64 → Option Int64
  | 0 => fun _ _ _ _ _ => none
  | n + 1 => fun x0 x2 x4 x5 x7 =>
    if (lg_cmp x7 0) = 0 then
      if x4 = 0 then
        if x5 = 0 then none else
          some (x0 / x5)
      else
        if x5 = 0 then none else
          some (x2 / x5)
    else
      if x7 = 0 then none else
        f_M_part_6 N n x0 x2 x4 x7 (l_rem x5 x7)
def f_M_part (N : Nat) (p1 : Int64) (p2 : Int64) (p3 : Int32) : Option Int64 :=
  f_M_part_6 N N p1 p2 p3 p1 p2
set_option maxHeartbeats 4000000 in
set_option maxRecDepth 100000 in
theorem x_M_part_6 (E : eT) (N : Nat) (a : aT) : ∀ (n : Nat) (x0 : Int64) (x2 : Int64) (x4 : Int32) (x5 : Int64) (x7 : Int64), XP qL E md_M_part 6 [.long x0, .null, .long x2, .null, .int x4, .long x5, .null, .long x7, .null, .null, .null] [] a (f_M_part_6 N n x0 x2 x4 x5 x7)
  | 0, _, _, _, _, _ => XP_no rfl
  | n + 1, x0, x2, x4, x5, x7 => by
    refine XP_br (c := (lg_cmp x7 0) = 0) (t := 31) (e := 13) (ls' := [.long x0, .null, .long x2, .null, .int x4, .long x5, .null, .long x7, .null, .null, .null]) (st' := []) (a' := a) [(.lload 7, 2, 7, .null), (.lconst 0, 1, 0, .long 0), (.lcmp, 1, 0, .null), (.ifCond .eq 21, 3, 31, .null)] (by decide +kernel) rfl ?_ ?_
    · refine XP_br (c := x4 = 0) (t := 36) (e := 40) (ls' := [.long x0, .null, .long x2, .null, .int x4, .long x5, .null, .long x7, .null, .null, .null]) (st' := []) (a' := a) [(.iload 4, 2, 4, .null), (.ifCond .ne 7, 3, 40, .null)] (by decide +kernel) rfl ?_ ?_
      · refine XP_dv (c := x5 = 0) (pc' := 44) (ls' := [.long x0, .null, .long x2, .null, .int x4, .long x5, .null, .long x7, .null, .null, .null]) (st' := [.long (x0 / x5)]) (a' := a) [(.lload_n 0, 1, 0, .null), (.goto 4, 3, 41, .null), (.lload 5, 2, 5, .null), (.ldiv, 1, 0, .null)] (by decide +kernel) rfl ?_
        exact XP_retJ (by decide +kernel)
      · refine XP_dv (c := x5 = 0) (pc' := 44) (ls' := [.long x0, .null, .long x2, .null, .int x4, .long x5, .null, .long x7, .null, .null, .null]) (st' := [.long (x2 / x5)]) (a' := a) [(.lload_n 2, 1, 2, .null), (.lload 5, 2, 5, .null), (.ldiv, 1, 0, .null)] (by decide +kernel) rfl ?_
        exact XP_retJ (by decide +kernel)
    · refine XP_dv (c := x7 = 0) (pc' := 18) (ls' := [.long x0, .null, .long x2, .null, .int x4, .long x5, .null, .long x7, .null, .null, .null]) (st' := [.long (l_rem x5 x7)]) (a' := a) [(.lload 5, 2, 5, .null), (.lload 7, 2, 7, .null), (.lrem, 1, 0, .null)] (by decide +kernel) rfl ?_
      refine XP_go (pc' := 6) (ls' := [.long x0, .null, .long x2, .null, .int x4, .long x7, .null, .long (l_rem x5 x7), .null, .long (l_rem x5 x7), .null]) (st' := []) (a' := a) [(.lstore 9, 2, 9, .null), (.lload 7, 2, 7, .null), (.lstore 5, 2, 5, .null), (.lload 9, 2, 9, .null), (.lstore 7, 2, 7, .null), (.goto (-22), 3, 6, .null)] (by decide +kernel) rfl ?_
      refine XP_fg [true, false, true, false, true, true, false, true, false, false, false] ?_
      exact x_M_part_6 E N a n x0 x2 x4 x7 (l_rem x5 x7)
set_option maxHeartbeats 4000000 in
set_option maxRecDepth 100000 in
theorem x_M_part (E : eT) (N : Nat) (p1 : Int64) (p2 : Int64) (p3 : Int32) (a : aT) : XP qL E md_M_part 0 [.long p1, .null, .long p2, .null, .int p3, .null, .null, .null, .null, .null, .null] [] a (f_M_part N p1 p2 p3) := by
  refine XP_go (pc' := 6) (ls' := [.long p1, .null, .long p2, .null, .int p3, .long p1, .null, .long p2, .null, .null, .null]) (st' := []) (a' := a) [(.lload_n 0, 1, 0, .null), (.lstore 5, 2, 5, .null), (.lload_n 2, 1, 2, .null), (.lstore 7, 2, 7, .null)] (by decide +kernel) rfl ?_
  refine XP_fg [true, false, true, false, true, true, false, true, false, false, false] ?_
  exact x_M_part_6 E N a N p1 p2 p3 p1 p2
/-! ChestnutSticksModel.no(I)J -/
def md_M_no : md_T := (yX11_no, cX11_no, 1, (some .long), 0, 0)
set_option maxRecDepth 100000 in
theorem ok_M_no : m_ok md_M_no := ⟨List.mem_of_getElem? (i := 1196) (by decide +kernel), by decide +kernel, List.mem_of_getElem? (i := 64) (by decide +kernel), by decide +kernel⟩
theorem mv_M_no : Cond.static (m_y md_M_no) ∈ lw_tbl := List.mem_of_getElem? (i := 1195) (by decide +kernel)
def f_M_no (p1 : Int32) : Int64 :=
  ((-9223372036854775808) - p1.toInt64)
set_option maxHeartbeats 4000000 in
set_option maxRecDepth 100000 in
theorem x_M_no (E : eT) (p1 : Int32) (a : aT) : XT qL E md_M_no 0 [.int p1] [] a (f_M_no p1) := by
  refine XT_go (pc' := 6) (ls' := [.int p1]) (st' := [.long ((-9223372036854775808) - p1.toInt64)]) (a' := a) [(.ldc2_w 72, 3, 0, .long (-9223372036854775808)), (.iload_n 0, 1, 0, .null), (.i2l, 1, 0, .null), (.lsub, 1, 0, .null)] (by decide +kernel) rfl ?_
  exact XT_retJ (by decide +kernel)
/-! ChestnutSticksModel.brings(III)J -/
def md_M_brings : md_T := (yX11_brings, cX11_brings, 4, (some .long), 7, 158)
set_option maxRecDepth 100000 in
theorem ok_M_brings : m_ok md_M_brings := ⟨List.mem_of_getElem? (i := 1182) (by decide +kernel), by decide +kernel, List.mem_of_getElem? (i := 64) (by decide +kernel), by decide +kernel⟩
theorem mv_M_brings : Cond.instanceMethod (m_y md_M_brings) ∈ lw_tbl ∧ Cond.selects (m_y md_M_brings).cls (m_y md_M_brings) (m_y md_M_brings) ∈ lw_tbl := ⟨List.mem_of_getElem? (i := 1180) (by decide +kernel), List.mem_of_getElem? (i := 1181) (by decide +kernel)⟩
def f_M_brings_44 (N : Nat) (x3 : Int32) (y4 : Int32) (y3 : Int32) (y2 : Int32) (a : aT) : Option (Int64 × aT) :=
  (f_M_meanOf N y2 y3 y4 a).bind fun q8 =>
    (f_M_part N q8.toInt64 16 (i_rem x3 2)).bind fun q9 =>
      some (q9, a)
def f_M_brings (N : Nat) (p1 : Int32) (p2 : Int32) (p3 : Int32) (a : aT) : Option (Int64 × aT) :=
  (f_M_find N a).bind fun q1 =>
    if (f_M_isFour p1) = 0 then
      some ((f_M_no (-2)), q1.2)
    else
      (f_M_isCell p2 q1.2).bind fun q4 =>
        if q4 = 0 then
          some ((f_M_no (-2)), q1.2)
        else
          if (f_M_in p3.toInt64 0 3) = 0 then
            some ((f_M_no (-2)), q1.2)
          else
            if 2 ≤ p3 then
              f_M_brings_44 N p3 0 p2 p1 q1.2
            else
              f_M_brings_44 N p3 1 p2 p1 q1.2
set_option maxHeartbeats 4000000 in
set_option maxRecDepth 100000 in
theorem x_M_brings_44 (E : eT) (N : Nat) (x3 : Int32) (y4 : Int32) (y3 : Int32) (y2 : Int32) (a : aT) : XI qL E md_M_brings 44 [.null, .null, .null, .int x3] [.int y4, .int y3, .int y2, .ref 31] a (f_M_brings_44 N x3 y4 y3 y2 a) := by
  refine XI_VP (As := [.int y2, .int y3, .int y4]) (rest := []) (b := 31) (idx := 222) (by decide +kernel) ok_M_meanOf mv_M_meanOf (n := 3) ⟨lk_M_222, by decide +kernel⟩ rfl rfl rfl rfl (Nat.le_of_ble_eq_true rfl) (Nat.le_of_ble_eq_true rfl) (qI_h rfl) (x_M_meanOf E N y2 y3 y4 a) (fun q8 => ?_)
  refine XI_go (pc' := 54) (ls' := [.null, .null, .null, .int x3]) (st' := [.int (i_rem x3 2), .long 16, .long q8.toInt64]) (a' := a) [(.i2l, 1, 0, .null), (.ldc2_w 138, 3, 0, .long 16), (.iload_n 3, 1, 3, .null), (.iconst 2, 1, 0, .int 2), (.irem, 1, 0, .null)] (by decide +kernel) rfl ?_
  refine XI_SP (As := [.long q8.toInt64, .long 16, .int (i_rem x3 2)]) (rest := []) (idx := 226) (by decide +kernel) ok_M_part mv_M_part (n := 3) ⟨lk_M_226, by decide +kernel⟩ rfl (Nat.le_of_ble_eq_true rfl) (Nat.le_of_ble_eq_true rfl) (qL_h rfl) (x_M_part E N q8.toInt64 16 (i_rem x3 2) a) (fun q9 => ?_)
  refine XI_go (pc' := 65) (ls' := [.null, .null, .null, .int x3]) (st' := [.long q9]) (a' := a) [(.goto 8, 3, 65, .null)] (by decide +kernel) rfl ?_
  exact XI_retJ (by decide +kernel)
set_option maxHeartbeats 4000000 in
set_option maxRecDepth 100000 in
theorem x_M_brings (E : eT) (N : Nat) (p1 : Int32) (p2 : Int32) (p3 : Int32) (a : aT) : XI qL E md_M_brings 0 [.ref 31, .int p1, .int p2, .int p3] [] a (f_M_brings N p1 p2 p3 a) := by
  refine XI_go (pc' := 1) (ls' := [.ref 31, .int p1, .int p2, .int p3]) (st' := [.ref 31]) (a' := a) [(.aload_n 0, 1, 0, .null)] (by decide +kernel) rfl ?_
  refine XI_VI (As := []) (rest := []) (b := 31) (idx := 204) (by decide +kernel) ok_M_find mv_M_find (n := 0) ⟨lk_M_204, by decide +kernel⟩ rfl rfl rfl rfl (Nat.le_of_ble_eq_true rfl) (Nat.le_of_ble_eq_true rfl) (qV_h rfl) (x_M_find E N a) (fun q1 => ?_)
  refine XI_go (pc' := 5) (ls' := [.ref 31, .int p1, .int p2, .int p3]) (st' := [.int p1]) (a' := q1.2) [(.iload_n 1, 1, 1, .null)] (by decide +kernel) rfl ?_
  refine XI_ST (As := [.int p1]) (rest := []) (idx := 133) (by decide +kernel) ok_M_isFour mv_M_isFour (n := 1) ⟨lk_M_133, by decide +kernel⟩ rfl (Nat.le_of_ble_eq_true rfl) (Nat.le_of_ble_eq_true rfl) (qZ_h rfl) (x_M_isFour E p1 q1.2) ?_
  refine XI_br (c := (f_M_isFour p1) = 0) (t := 60) (e := 11) (ls' := [.ref 31, .int p1, .int p2, .int p3]) (st' := []) (a' := q1.2) [(.ifCond .eq 52, 3, 60, .null)] (by decide +kernel) rfl ?_ ?_
  · refine XI_go (pc' := 62) (ls' := [.ref 31, .int p1, .int p2, .int p3]) (st' := [.int (-2)]) (a' := q1.2) [(.bipush (-2), 2, 0, .int (-2))] (by decide +kernel) rfl ?_
    refine XI_ST (As := [.int (-2)]) (rest := []) (idx := 230) (by decide +kernel) ok_M_no mv_M_no (n := 1) ⟨lk_M_230, by decide +kernel⟩ rfl (Nat.le_of_ble_eq_true rfl) (Nat.le_of_ble_eq_true rfl) (qL_h rfl) (x_M_no E (-2) q1.2) ?_
    exact XI_retJ (by decide +kernel)
  · refine XI_go (pc' := 13) (ls' := [.ref 31, .int p1, .int p2, .int p3]) (st' := [.int p2, .ref 31]) (a' := q1.2) [(.aload_n 0, 1, 0, .null), (.iload_n 2, 1, 2, .null)] (by decide +kernel) rfl ?_
    refine XI_VP (As := [.int p2]) (rest := []) (b := 31) (idx := 195) (by decide +kernel) ok_M_isCell mv_M_isCell (n := 1) ⟨lk_M_195, by decide +kernel⟩ rfl rfl rfl rfl (Nat.le_of_ble_eq_true rfl) (Nat.le_of_ble_eq_true rfl) (qZ_h rfl) (x_M_isCell E p2 q1.2) (fun q4 => ?_)
    refine XI_br (c := q4 = 0) (t := 60) (e := 19) (ls' := [.ref 31, .int p1, .int p2, .int p3]) (st' := []) (a' := q1.2) [(.ifCond .eq 44, 3, 60, .null)] (by decide +kernel) rfl ?_ ?_
    · refine XI_go (pc' := 62) (ls' := [.ref 31, .int p1, .int p2, .int p3]) (st' := [.int (-2)]) (a' := q1.2) [(.bipush (-2), 2, 0, .int (-2))] (by decide +kernel) rfl ?_
      refine XI_ST (As := [.int (-2)]) (rest := []) (idx := 230) (by decide +kernel) ok_M_no mv_M_no (n := 1) ⟨lk_M_230, by decide +kernel⟩ rfl (Nat.le_of_ble_eq_true rfl) (Nat.le_of_ble_eq_true rfl) (qL_h rfl) (x_M_no E (-2) q1.2) ?_
      exact XI_retJ (by decide +kernel)
    · refine XI_go (pc' := 25) (ls' := [.ref 31, .int p1, .int p2, .int p3]) (st' := [.long 3, .long 0, .long p3.toInt64]) (a' := q1.2) [(.iload_n 3, 1, 3, .null), (.i2l, 1, 0, .null), (.lconst 0, 1, 0, .long 0), (.ldc2_w 81, 3, 0, .long 3)] (by decide +kernel) rfl ?_
      refine XI_ST (As := [.long p3.toInt64, .long 0, .long 3]) (rest := []) (idx := 74) (by decide +kernel) ok_M_in mv_M_in (n := 3) ⟨lk_M_74, by decide +kernel⟩ rfl (Nat.le_of_ble_eq_true rfl) (Nat.le_of_ble_eq_true rfl) (qZ_h rfl) (x_M_in E p3.toInt64 0 3 q1.2) ?_
      refine XI_br (c := (f_M_in p3.toInt64 0 3) = 0) (t := 60) (e := 31) (ls' := [.ref 31, .int p1, .int p2, .int p3]) (st' := []) (a' := q1.2) [(.ifCond .eq 32, 3, 60, .null)] (by decide +kernel) rfl ?_ ?_
      · refine XI_go (pc' := 62) (ls' := [.ref 31, .int p1, .int p2, .int p3]) (st' := [.int (-2)]) (a' := q1.2) [(.bipush (-2), 2, 0, .int (-2))] (by decide +kernel) rfl ?_
        refine XI_ST (As := [.int (-2)]) (rest := []) (idx := 230) (by decide +kernel) ok_M_no mv_M_no (n := 1) ⟨lk_M_230, by decide +kernel⟩ rfl (Nat.le_of_ble_eq_true rfl) (Nat.le_of_ble_eq_true rfl) (qL_h rfl) (x_M_no E (-2) q1.2) ?_
        exact XI_retJ (by decide +kernel)
      · refine XI_br (c := 2 ≤ p3) (t := 43) (e := 39) (ls' := [.ref 31, .int p1, .int p2, .int p3]) (st' := [.int p2, .int p1, .ref 31]) (a' := q1.2) [(.aload_n 0, 1, 0, .null), (.iload_n 1, 1, 1, .null), (.iload_n 2, 1, 2, .null), (.iload_n 3, 1, 3, .null), (.iconst 2, 1, 0, .int 2), (.if_icmp .ge 7, 3, 43, .null)] (by decide +kernel) rfl ?_ ?_
        · refine XI_go (pc' := 44) (ls' := [.ref 31, .int p1, .int p2, .int p3]) (st' := [.int 0, .int p2, .int p1, .ref 31]) (a' := q1.2) [(.iconst 0, 1, 0, .int 0)] (by decide +kernel) rfl ?_
          refine XI_fg [false, false, false, true] ?_
          exact x_M_brings_44 E N p3 0 p2 p1 q1.2
        · refine XI_go (pc' := 44) (ls' := [.ref 31, .int p1, .int p2, .int p3]) (st' := [.int 1, .int p2, .int p1, .ref 31]) (a' := q1.2) [(.iconst 1, 1, 0, .int 1), (.goto 4, 3, 44, .null)] (by decide +kernel) rfl ?_
          refine XI_fg [false, false, false, true] ?_
          exact x_M_brings_44 E N p3 1 p2 p1 q1.2
/-! ChestnutSticks$Play.worthOf(II)I -/
def md_P_worthOf : md_T := (yX1_worthOf, cX1_worthOf, 3, (some .int), 4, 100)
set_option maxRecDepth 100000 in
theorem ok_P_worthOf : m_ok md_P_worthOf := ⟨List.mem_of_getElem? (i := 616) (by decide +kernel), by decide +kernel, List.mem_of_getElem? (i := 59) (by decide +kernel), by decide +kernel⟩
theorem mv_P_worthOf : Cond.instanceMethod (m_y md_P_worthOf) ∈ lw_tbl ∧ Cond.selects (m_y md_P_worthOf).cls (m_y md_P_worthOf) (m_y md_P_worthOf) ∈ lw_tbl := ⟨List.mem_of_getElem? (i := 614) (by decide +kernel), List.mem_of_getElem? (i := 615) (by decide +kernel)⟩
def f_P_worthOf (N : Nat) (p1 : Int32) (p2 : Int32) (a : aT) : Option Int32 :=
  (f_P_sixteenths N p1 p2 1 a).bind fun q1 =>
    (f_R_now 2 a).bind fun q2 =>
      (f_P_sixteenths N p1 p2 0 a).bind fun q3 =>
        some (q1 - (q2 * q3))
set_option maxHeartbeats 4000000 in
set_option maxRecDepth 100000 in
theorem x_P_worthOf (E : eT) (N : Nat) (p1 : Int32) (p2 : Int32) (a : aT) : XP qI E md_P_worthOf 0 [.ref 14, .int p1, .int p2] [] a (f_P_worthOf N p1 p2 a) := by
  refine XP_go (pc' := 4) (ls' := [.ref 14, .int p1, .int p2]) (st' := [.int 1, .int p2, .int p1, .ref 14]) (a' := a) [(.aload_n 0, 1, 0, .null), (.iload_n 1, 1, 1, .null), (.iload_n 2, 1, 2, .null), (.iconst 1, 1, 0, .int 1)] (by decide +kernel) rfl ?_
  refine XP_VP (As := [.int p1, .int p2, .int 1]) (rest := []) (b := 14) (idx := 94) (by decide +kernel) ok_P_sixteenths mv_P_sixteenths (n := 3) ⟨lk_P_94, by decide +kernel⟩ rfl rfl rfl rfl (Nat.le_of_ble_eq_true rfl) (Nat.le_of_ble_eq_true rfl) (qI_h rfl) (x_P_sixteenths E N p1 p2 1 a) (fun q1 => ?_)
  refine XP_go (pc' := 12) (ls' := [.ref 14, .int p1, .int p2]) (st' := [.int 2, .ref 6, .int q1]) (a' := a) [(.aload_n 0, 1, 0, .null), (.getfield 48, 3, 102, .null), (.iconst 2, 1, 0, .int 2)] (by decide +kernel) rfl ?_
  refine XP_VP (As := [.int 2]) (rest := [.int q1]) (b := 6) (idx := 86) (by decide +kernel) ok_R_now mv_R_now (n := 1) ⟨lk_P_86, by decide +kernel⟩ rfl rfl rfl rfl (Nat.le_of_ble_eq_true rfl) (Nat.le_of_ble_eq_true rfl) (qI_h rfl) (x_R_now E 2 a) (fun q2 => ?_)
  refine XP_go (pc' := 19) (ls' := [.ref 14, .int p1, .int p2]) (st' := [.int 0, .int p2, .int p1, .ref 14, .int q2, .int q1]) (a' := a) [(.aload_n 0, 1, 0, .null), (.iload_n 1, 1, 1, .null), (.iload_n 2, 1, 2, .null), (.iconst 0, 1, 0, .int 0)] (by decide +kernel) rfl ?_
  refine XP_VP (As := [.int p1, .int p2, .int 0]) (rest := [.int q2, .int q1]) (b := 14) (idx := 94) (by decide +kernel) ok_P_sixteenths mv_P_sixteenths (n := 3) ⟨lk_P_94, by decide +kernel⟩ rfl rfl rfl rfl (Nat.le_of_ble_eq_true rfl) (Nat.le_of_ble_eq_true rfl) (qI_h rfl) (x_P_sixteenths E N p1 p2 0 a) (fun q3 => ?_)
  refine XP_go (pc' := 24) (ls' := [.ref 14, .int p1, .int p2]) (st' := [.int (q1 - (q2 * q3))]) (a' := a) [(.imul, 1, 0, .null), (.isub, 1, 0, .null)] (by decide +kernel) rfl ?_
  exact XP_retI (by decide +kernel)
