/-! ChestnutSticksModel.isRest(II)Z -/
def md_M_isRest : md_T := (yX11_isRest, cX11_isRest, 3, (some .boolean), 3, 65)
set_option maxRecDepth 100000 in
theorem ok_M_isRest : m_ok md_M_isRest := ⟨List.mem_of_getElem? (i := 1268) (by decide +kernel), by decide +kernel, List.mem_of_getElem? (i := 64) (by decide +kernel), by decide +kernel⟩
theorem mv_M_isRest : Cond.instanceMethod (m_y md_M_isRest) ∈ lw_tbl ∧ Cond.selects (m_y md_M_isRest).cls (m_y md_M_isRest) (m_y md_M_isRest) ∈ lw_tbl := ⟨List.mem_of_getElem? (i := 1267) (by decide +kernel), List.mem_of_getElem? (i := 45) (by decide +kernel)⟩
def f_M_isRest (N : Nat) (p1 : Int32) (p2 : Int32) (a : aT) : Option Int32 :=
  if p2 = 0 then
    some 1
  else
    (f_M_ripeOf N (p2 - 1) a).bind fun q1 =>
      (f_M_ripeOf N p2 a).bind fun q2 =>
        if q2 < (p1 * q1) then
          some 0
        else
          some 1
set_option maxHeartbeats 4000000 in
set_option maxRecDepth 100000 in
theorem x_M_isRest (E : eT) (N : Nat) (p1 : Int32) (p2 : Int32) (a : aT) : XP qZ E md_M_isRest 0 [.ref 31, .int p1, .int p2] [] a (f_M_isRest N p1 p2 a) := by
  refine XP_br (c := p2 = 0) (t := 21) (e := 4) (ls' := [.ref 31, .int p1, .int p2]) (st' := []) (a' := a) [(.iload_n 2, 1, 2, .null), (.ifCond .eq 20, 3, 21, .null)] (by decide +kernel) rfl ?_ ?_
  · refine XP_go (pc' := 26) (ls' := [.ref 31, .int p1, .int p2]) (st' := [.int 1]) (a' := a) [(.iconst 1, 1, 0, .int 1), (.goto 4, 3, 26, .null)] (by decide +kernel) rfl ?_
    exact XP_retZ (by decide +kernel) rfl
  · refine XP_go (pc' := 9) (ls' := [.ref 31, .int p1, .int p2]) (st' := [.int (p2 - 1), .ref 31, .int p1]) (a' := a) [(.iload_n 1, 1, 1, .null), (.aload_n 0, 1, 0, .null), (.iload_n 2, 1, 2, .null), (.iconst 1, 1, 0, .int 1), (.isub, 1, 0, .null)] (by decide +kernel) rfl ?_
    refine XP_VP (As := [.int (p2 - 1)]) (rest := [.int p1]) (b := 31) (idx := 261) (by decide +kernel) ok_M_ripeOf mv_M_ripeOf (n := 1) ⟨lk_M_261, by decide +kernel⟩ rfl rfl rfl rfl (Nat.le_of_ble_eq_true rfl) (Nat.le_of_ble_eq_true rfl) (qI_h rfl) (x_M_ripeOf E N (p2 - 1) a) (fun q1 => ?_)
    refine XP_go (pc' := 15) (ls' := [.ref 31, .int p1, .int p2]) (st' := [.int p2, .ref 31, .int (p1 * q1)]) (a' := a) [(.imul, 1, 0, .null), (.aload_n 0, 1, 0, .null), (.iload_n 2, 1, 2, .null)] (by decide +kernel) rfl ?_
    refine XP_VP (As := [.int p2]) (rest := [.int (p1 * q1)]) (b := 31) (idx := 261) (by decide +kernel) ok_M_ripeOf mv_M_ripeOf (n := 1) ⟨lk_M_261, by decide +kernel⟩ rfl rfl rfl rfl (Nat.le_of_ble_eq_true rfl) (Nat.le_of_ble_eq_true rfl) (qI_h rfl) (x_M_ripeOf E N p2 a) (fun q2 => ?_)
    refine XP_br (c := q2 < (p1 * q1)) (t := 25) (e := 21) (ls' := [.ref 31, .int p1, .int p2]) (st' := []) (a' := a) [(.if_icmp .gt 7, 3, 25, .null)] (by decide +kernel) rfl ?_ ?_
    · refine XP_go (pc' := 26) (ls' := [.ref 31, .int p1, .int p2]) (st' := [.int 0]) (a' := a) [(.iconst 0, 1, 0, .int 0)] (by decide +kernel) rfl ?_
      exact XP_retZ (by decide +kernel) rfl
    · refine XP_go (pc' := 26) (ls' := [.ref 31, .int p1, .int p2]) (st' := [.int 1]) (a' := a) [(.iconst 1, 1, 0, .int 1), (.goto 4, 3, 26, .null)] (by decide +kernel) rfl ?_
      exact XP_retZ (by decide +kernel) rfl
/-! ChestnutSticksModel.restsOf(I)I -/
def md_M_restsOf : md_T := (yX11_restsOf, cX11_restsOf, 4, (some .int), 4, 87)
set_option maxRecDepth 100000 in
theorem ok_M_restsOf : m_ok md_M_restsOf := ⟨List.mem_of_getElem? (i := 1264) (by decide +kernel), by decide +kernel, List.mem_of_getElem? (i := 64) (by decide +kernel), by decide +kernel⟩
theorem mv_M_restsOf : Cond.instanceMethod (m_y md_M_restsOf) ∈ lw_tbl ∧ Cond.selects (m_y md_M_restsOf).cls (m_y md_M_restsOf) (m_y md_M_restsOf) ∈ lw_tbl := ⟨List.mem_of_getElem? (i := 1263) (by decide +kernel), List.mem_of_getElem? (i := 44) (by decide +kernel)⟩
def f_M_restsOf_4 (N : Nat) (a : aT) : Nat → Int32 → Int32 → Int32 → Option Int32
  | 0 => fun _ _ _ => none
  | n + 1 => fun x1 x2 x3 =>
    if 30 ≤ x3 then
      some x2
    else
      (f_M_isRest N x1 x3 a).bind fun q1 =>
        if q1 = 0 then
          f_M_restsOf_4 N a n x1 (x2 ||| 0) (x3 + 1)
        else
          f_M_restsOf_4 N a n x1 (x2 ||| (i_shl 1 x3)) (x3 + 1)
def f_M_restsOf (N : Nat) (p1 : Int32) (a : aT) : Option Int32 :=
  f_M_restsOf_4 N a N p1 0 0
set_option maxHeartbeats 4000000 in
set_option maxRecDepth 100000 in
theorem x_M_restsOf_4 (E : eT) (N : Nat) (a : aT) : ∀ (n : Nat) (x1 : Int32) (x2 : Int32) (x3 : Int32), XP qI E md_M_restsOf 4 [.ref 31, .int x1, .int x2, .int x3] [] a (f_M_restsOf_4 N a n x1 x2 x3)
  | 0, _, _, _ => XP_no rfl
  | n + 1, x1, x2, x3 => by
    refine XP_br (c := 30 ≤ x3) (t := 35) (e := 10) (ls' := [.ref 31, .int x1, .int x2, .int x3]) (st' := []) (a' := a) [(.iload_n 3, 1, 3, .null), (.bipush 30, 2, 0, .int 30), (.if_icmp .ge 28, 3, 35, .null)] (by decide +kernel) rfl ?_ ?_
    · refine XP_go (pc' := 36) (ls' := [.ref 31, .int x1, .int x2, .int x3]) (st' := [.int x2]) (a' := a) [(.iload_n 2, 1, 2, .null)] (by decide +kernel) rfl ?_
      exact XP_retI (by decide +kernel)
    · refine XP_go (pc' := 14) (ls' := [.ref 31, .int x1, .int x2, .int x3]) (st' := [.int x3, .int x1, .ref 31, .int x2]) (a' := a) [(.iload_n 2, 1, 2, .null), (.aload_n 0, 1, 0, .null), (.iload_n 1, 1, 1, .null), (.iload_n 3, 1, 3, .null)] (by decide +kernel) rfl ?_
      refine XP_VP (As := [.int x1, .int x3]) (rest := [.int x2]) (b := 31) (idx := 264) (by decide +kernel) ok_M_isRest mv_M_isRest (n := 2) ⟨lk_M_264, by decide +kernel⟩ rfl rfl rfl rfl (Nat.le_of_ble_eq_true rfl) (Nat.le_of_ble_eq_true rfl) (qZ_h rfl) (x_M_isRest E N x1 x3 a) (fun q1 => ?_)
      refine XP_br (c := q1 = 0) (t := 26) (e := 20) (ls' := [.ref 31, .int x1, .int x2, .int x3]) (st' := [.int x2]) (a' := a) [(.ifCond .eq 9, 3, 26, .null)] (by decide +kernel) rfl ?_ ?_
      · refine XP_go (pc' := 4) (ls' := [.ref 31, .int x1, .int (x2 ||| 0), .int (x3 + 1)]) (st' := []) (a' := a) [(.iconst 0, 1, 0, .int 0), (.ior, 1, 0, .null), (.istore_n 2, 1, 2, .null), (.iinc 3 1, 3, 3, .int 1), (.goto (-28), 3, 4, .null)] (by decide +kernel) rfl ?_
        refine XP_fg [true, true, true, true] ?_
        exact x_M_restsOf_4 E N a n x1 (x2 ||| 0) (x3 + 1)
      · refine XP_go (pc' := 4) (ls' := [.ref 31, .int x1, .int (x2 ||| (i_shl 1 x3)), .int (x3 + 1)]) (st' := []) (a' := a) [(.iconst 1, 1, 0, .int 1), (.iload_n 3, 1, 3, .null), (.ishl, 1, 0, .null), (.goto 4, 3, 27, .null), (.ior, 1, 0, .null), (.istore_n 2, 1, 2, .null), (.iinc 3 1, 3, 3, .int 1), (.goto (-28), 3, 4, .null)] (by decide +kernel) rfl ?_
        refine XP_fg [true, true, true, true] ?_
        exact x_M_restsOf_4 E N a n x1 (x2 ||| (i_shl 1 x3)) (x3 + 1)
set_option maxHeartbeats 4000000 in
set_option maxRecDepth 100000 in
theorem x_M_restsOf (E : eT) (N : Nat) (p1 : Int32) (a : aT) : XP qI E md_M_restsOf 0 [.ref 31, .int p1, .null, .null] [] a (f_M_restsOf N p1 a) := by
  refine XP_go (pc' := 4) (ls' := [.ref 31, .int p1, .int 0, .int 0]) (st' := []) (a' := a) [(.iconst 0, 1, 0, .int 0), (.istore_n 2, 1, 2, .null), (.iconst 0, 1, 0, .int 0), (.istore_n 3, 1, 3, .null)] (by decide +kernel) rfl ?_
  refine XP_fg [true, true, true, true] ?_
  exact x_M_restsOf_4 E N a N p1 0 0
/-! ChestnutSticksModel.rests(I)I -/
def md_M_rests : md_T := (yX11_rests, cX11_rests, 2, (some .int), 5, 110)
set_option maxRecDepth 100000 in
theorem ok_M_rests : m_ok md_M_rests := ⟨List.mem_of_getElem? (i := 1259) (by decide +kernel), by decide +kernel, List.mem_of_getElem? (i := 64) (by decide +kernel), by decide +kernel⟩
theorem mv_M_rests : Cond.instanceMethod (m_y md_M_rests) ∈ lw_tbl ∧ Cond.selects (m_y md_M_rests).cls (m_y md_M_rests) (m_y md_M_rests) ∈ lw_tbl := ⟨List.mem_of_getElem? (i := 1257) (by decide +kernel), List.mem_of_getElem? (i := 1258) (by decide +kernel)⟩
def f_M_rests (N : Nat) (p1 : Int32) (a : aT) : Option (Int32 × aT) :=
  (f_M_reads N a).bind fun q1 =>
    if (f_M_in p1.toInt64 2 6) = 0 then
      some ((-2), q1.2)
    else
      (f_M_restsOf N p1 q1.2).bind fun q3 =>
        some (q3, q1.2)
set_option maxHeartbeats 4000000 in
set_option maxRecDepth 100000 in
theorem x_M_rests (E : eT) (N : Nat) (p1 : Int32) (a : aT) : XI qI E md_M_rests 0 [.ref 31, .int p1] [] a (f_M_rests N p1 a) := by
  refine XI_go (pc' := 1) (ls' := [.ref 31, .int p1]) (st' := [.ref 31]) (a' := a) [(.aload_n 0, 1, 0, .null)] (by decide +kernel) rfl ?_
  refine XI_VI (As := []) (rest := []) (b := 31) (idx := 127) (by decide +kernel) ok_M_reads mv_M_reads (n := 0) ⟨lk_M_127, by decide +kernel⟩ rfl rfl rfl rfl (Nat.le_of_ble_eq_true rfl) (Nat.le_of_ble_eq_true rfl) (qI_h rfl) (x_M_reads E N a) (fun q1 => ?_)
  refine XI_go (pc' := 13) (ls' := [.ref 31, .int p1]) (st' := [.long 6, .long 2, .long p1.toInt64]) (a' := q1.2) [(.pop, 1, 0, .null), (.iload_n 1, 1, 1, .null), (.i2l, 1, 0, .null), (.ldc2_w 87, 3, 0, .long 2), (.ldc2_w 268, 3, 0, .long 6)] (by decide +kernel) rfl ?_
  refine XI_ST (As := [.long p1.toInt64, .long 2, .long 6]) (rest := []) (idx := 74) (by decide +kernel) ok_M_in mv_M_in (n := 3) ⟨lk_M_74, by decide +kernel⟩ rfl (Nat.le_of_ble_eq_true rfl) (Nat.le_of_ble_eq_true rfl) (qZ_h rfl) (x_M_in E p1.toInt64 2 6 q1.2) ?_
  refine XI_br (c := (f_M_in p1.toInt64 2 6) = 0) (t := 27) (e := 19) (ls' := [.ref 31, .int p1]) (st' := []) (a' := q1.2) [(.ifCond .eq 11, 3, 27, .null)] (by decide +kernel) rfl ?_ ?_
  · refine XI_go (pc' := 29) (ls' := [.ref 31, .int p1]) (st' := [.int (-2)]) (a' := q1.2) [(.bipush (-2), 2, 0, .int (-2))] (by decide +kernel) rfl ?_
    exact XI_retI (by decide +kernel)
  · refine XI_go (pc' := 21) (ls' := [.ref 31, .int p1]) (st' := [.int p1, .ref 31]) (a' := q1.2) [(.aload_n 0, 1, 0, .null), (.iload_n 1, 1, 1, .null)] (by decide +kernel) rfl ?_
    refine XI_VP (As := [.int p1]) (rest := []) (b := 31) (idx := 270) (by decide +kernel) ok_M_restsOf mv_M_restsOf (n := 1) ⟨lk_M_270, by decide +kernel⟩ rfl rfl rfl rfl (Nat.le_of_ble_eq_true rfl) (Nat.le_of_ble_eq_true rfl) (qI_h rfl) (x_M_restsOf E N p1 q1.2) (fun q3 => ?_)
    refine XI_go (pc' := 29) (ls' := [.ref 31, .int p1]) (st' := [.int q3]) (a' := q1.2) [(.goto 5, 3, 29, .null)] (by decide +kernel) rfl ?_
    exact XI_retI (by decide +kernel)
/-! ChestnutSticks$Season.firstGreatest()I -/
def md_S_firstGreatest : md_T := (yX3_firstGreatest, cX3_firstGreatest, 3, (some .int), 0, 0)
set_option maxRecDepth 100000 in
theorem ok_S_firstGreatest : m_ok md_S_firstGreatest := ⟨List.mem_of_getElem? (i := 698) (by decide +kernel), by decide +kernel, List.mem_of_getElem? (i := 60) (by decide +kernel), by decide +kernel⟩
theorem mv_S_firstGreatest : Cond.instanceMethod (m_y md_S_firstGreatest) ∈ lw_tbl ∧ Cond.selects (m_y md_S_firstGreatest).cls (m_y md_S_firstGreatest) (m_y md_S_firstGreatest) ∈ lw_tbl := ⟨List.mem_of_getElem? (i := 697) (by decide +kernel), List.mem_of_getElem? (i := 16) (by decide +kernel)⟩
def f_S_firstGreatest_4 (N : Nat) (a : aT) : Nat → Int32 → Int32 → Option Int32
  | 0 => fun _ _ => none
  | n + 1 => fun x1 x2 =>
    if 30 ≤ x2 then
      some x1
    else
      if inb x2 30 then
        if inb x1 30 then
          if (a 20 (ix x2)) ≤ (a 20 (ix x1)) then
            f_S_firstGreatest_4 N a n x1 (x2 + 1)
          else
            f_S_firstGreatest_4 N a n x2 (x2 + 1)
        else none
      else none
def f_S_firstGreatest (N : Nat) (a : aT) : Option Int32 :=
  f_S_firstGreatest_4 N a N 0 1
set_option maxHeartbeats 4000000 in
set_option maxRecDepth 100000 in
theorem x_S_firstGreatest_4 (E : eT) (N : Nat) (a : aT) : ∀ (n : Nat) (x1 : Int32) (x2 : Int32), XP qI E md_S_firstGreatest 4 [.ref 19, .int x1, .int x2] [] a (f_S_firstGreatest_4 N a n x1 x2)
  | 0, _, _ => XP_no rfl
  | n + 1, x1, x2 => by
    refine XP_br (c := 30 ≤ x2) (t := 37) (e := 10) (ls' := [.ref 19, .int x1, .int x2]) (st' := []) (a' := a) [(.iload_n 2, 1, 2, .null), (.bipush 30, 2, 0, .int 30), (.if_icmp .ge 30, 3, 37, .null)] (by decide +kernel) rfl ?_ ?_
    · refine XP_go (pc' := 38) (ls' := [.ref 19, .int x1, .int x2]) (st' := [.int x1]) (a' := a) [(.iload_n 1, 1, 1, .null)] (by decide +kernel) rfl ?_
      exact XP_retI (by decide +kernel)
    · refine XP_ck (c := inb x2 30) (pc' := 16) (ls' := [.ref 19, .int x1, .int x2]) (st' := [.int (a 20 (ix x2))]) (a' := a) [(.aload_n 0, 1, 0, .null), (.getfield 9, 3, 301, .null), (.iload_n 2, 1, 2, .null), (.iaload, 1, 0, .null)] (by decide +kernel) rfl ?_
      refine XP_ck (c := inb x1 30) (pc' := 22) (ls' := [.ref 19, .int x1, .int x2]) (st' := [.int (a 20 (ix x1)), .int (a 20 (ix x2))]) (a' := a) [(.aload_n 0, 1, 0, .null), (.getfield 9, 3, 301, .null), (.iload_n 1, 1, 1, .null), (.iaload, 1, 0, .null)] (by decide +kernel) rfl ?_
      refine XP_br (c := (a 20 (ix x2)) ≤ (a 20 (ix x1))) (t := 29) (e := 25) (ls' := [.ref 19, .int x1, .int x2]) (st' := []) (a' := a) [(.if_icmp .le 7, 3, 29, .null)] (by decide +kernel) rfl ?_ ?_
      · refine XP_go (pc' := 4) (ls' := [.ref 19, .int x1, .int (x2 + 1)]) (st' := []) (a' := a) [(.iload_n 1, 1, 1, .null), (.istore_n 1, 1, 1, .null), (.iinc 2 1, 3, 2, .int 1), (.goto (-30), 3, 4, .null)] (by decide +kernel) rfl ?_
        refine XP_fg [true, true, true] ?_
        exact x_S_firstGreatest_4 E N a n x1 (x2 + 1)
      · refine XP_go (pc' := 4) (ls' := [.ref 19, .int x2, .int (x2 + 1)]) (st' := []) (a' := a) [(.iload_n 2, 1, 2, .null), (.goto 4, 3, 30, .null), (.istore_n 1, 1, 1, .null), (.iinc 2 1, 3, 2, .int 1), (.goto (-30), 3, 4, .null)] (by decide +kernel) rfl ?_
        refine XP_fg [true, true, true] ?_
        exact x_S_firstGreatest_4 E N a n x2 (x2 + 1)
set_option maxHeartbeats 4000000 in
set_option maxRecDepth 100000 in
theorem x_S_firstGreatest (E : eT) (N : Nat) (a : aT) : XP qI E md_S_firstGreatest 0 [.ref 19, .null, .null] [] a (f_S_firstGreatest N a) := by
  refine XP_go (pc' := 4) (ls' := [.ref 19, .int 0, .int 1]) (st' := []) (a' := a) [(.iconst 0, 1, 0, .int 0), (.istore_n 1, 1, 1, .null), (.iconst 1, 1, 0, .int 1), (.istore_n 2, 1, 2, .null)] (by decide +kernel) rfl ?_
  refine XP_fg [true, true, true] ?_
  exact x_S_firstGreatest_4 E N a N 0 1
/-! ChestnutSticks$Season.endOf(I)I -/
def md_S_endOf : md_T := (yX3_endOf, cX3_endOf, 5, (some .int), 4, 87)
set_option maxRecDepth 100000 in
theorem ok_S_endOf : m_ok md_S_endOf := ⟨List.mem_of_getElem? (i := 694) (by decide +kernel), by decide +kernel, List.mem_of_getElem? (i := 60) (by decide +kernel), by decide +kernel⟩
theorem mv_S_endOf : Cond.instanceMethod (m_y md_S_endOf) ∈ lw_tbl ∧ Cond.selects (m_y md_S_endOf).cls (m_y md_S_endOf) (m_y md_S_endOf) ∈ lw_tbl := ⟨List.mem_of_getElem? (i := 692) (by decide +kernel), List.mem_of_getElem? (i := 693) (by decide +kernel)⟩
def f_S_endOf_11 (N : Nat) : Nat → Int32 → Int32 → Int32 → aT → Option (Int32 × aT)
  | 0 => fun _ _ _ _ => none
  | n + 1 => fun x1 x2 x3 a =>
    if 30 ≤ x3 then
      some (x2, a)
    else
      (f_S_betterAhead N x2 x1 a).bind fun q3 =>
        if q3 = (-1) then
          some (x2, a)
        else
          f_S_endOf_11 N n x1 q3 (x3 + 1) a
def f_S_endOf (N : Nat) (p1 : Int32) (a : aT) : Option (Int32 × aT) :=
  (f_S_fillRipe N a).bind fun q1 =>
    (f_S_firstGreatest N q1.2).bind fun q2 =>
      f_S_endOf_11 N N p1 q2 0 q1.2
set_option maxHeartbeats 4000000 in
set_option maxRecDepth 100000 in
theorem x_S_endOf_11 (E : eT) (N : Nat) : ∀ (n : Nat) (x1 : Int32) (x2 : Int32) (x3 : Int32) (a : aT), XI qI E md_S_endOf 11 [.ref 19, .int x1, .int x2, .int x3, .null] [] a (f_S_endOf_11 N n x1 x2 x3 a)
  | 0, _, _, _, _ => XI_no rfl
  | n + 1, x1, x2, x3, a => by
    refine XI_br (c := 30 ≤ x3) (t := 42) (e := 17) (ls' := [.ref 19, .int x1, .int x2, .int x3, .null]) (st' := []) (a' := a) [(.iload_n 3, 1, 3, .null), (.bipush 30, 2, 0, .int 30), (.if_icmp .ge 28, 3, 42, .null)] (by decide +kernel) rfl ?_ ?_
    · refine XI_go (pc' := 43) (ls' := [.ref 19, .int x1, .int x2, .int x3, .null]) (st' := [.int x2]) (a' := a) [(.iload_n 2, 1, 2, .null)] (by decide +kernel) rfl ?_
      exact XI_retI (by decide +kernel)
    · refine XI_go (pc' := 20) (ls' := [.ref 19, .int x1, .int x2, .int x3, .null]) (st' := [.int x1, .int x2, .ref 19]) (a' := a) [(.aload_n 0, 1, 0, .null), (.iload_n 2, 1, 2, .null), (.iload_n 1, 1, 1, .null)] (by decide +kernel) rfl ?_
      refine XI_VP (As := [.int x2, .int x1]) (rest := []) (b := 19) (idx := 38) (by decide +kernel) ok_S_betterAhead mv_S_betterAhead (n := 2) ⟨lk_S_38, by decide +kernel⟩ rfl rfl rfl rfl (Nat.le_of_ble_eq_true rfl) (Nat.le_of_ble_eq_true rfl) (qI_h rfl) (x_S_betterAhead E N x2 x1 a) (fun q3 => ?_)
      refine XI_br (c := q3 = (-1)) (t := 31) (e := 33) (ls' := [.ref 19, .int x1, .int x2, .int x3, .int q3]) (st' := []) (a' := a) [(.istore 4, 2, 4, .null), (.iload 4, 2, 4, .null), (.iconst (-1), 1, 0, .int (-1)), (.if_icmp .ne 5, 3, 33, .null)] (by decide +kernel) rfl ?_ ?_
      · refine XI_go (pc' := 32) (ls' := [.ref 19, .int x1, .int x2, .int x3, .int q3]) (st' := [.int x2]) (a' := a) [(.iload_n 2, 1, 2, .null)] (by decide +kernel) rfl ?_
        exact XI_retI (by decide +kernel)
      · refine XI_go (pc' := 11) (ls' := [.ref 19, .int x1, .int q3, .int (x3 + 1), .int q3]) (st' := []) (a' := a) [(.iload 4, 2, 4, .null), (.istore_n 2, 1, 2, .null), (.iinc 3 1, 3, 3, .int 1), (.goto (-28), 3, 11, .null)] (by decide +kernel) rfl ?_
        refine XI_fg [true, true, true, true, false] ?_
        exact x_S_endOf_11 E N n x1 q3 (x3 + 1) a
set_option maxHeartbeats 4000000 in
set_option maxRecDepth 100000 in
theorem x_S_endOf (E : eT) (N : Nat) (p1 : Int32) (a : aT) : XI qI E md_S_endOf 0 [.ref 19, .int p1, .null, .null, .null] [] a (f_S_endOf N p1 a) := by
  refine XI_go (pc' := 1) (ls' := [.ref 19, .int p1, .null, .null, .null]) (st' := [.ref 19]) (a' := a) [(.aload_n 0, 1, 0, .null)] (by decide +kernel) rfl ?_
  refine XI_VI (As := []) (rest := []) (b := 19) (idx := 35) (by decide +kernel) ok_S_fillRipe mv_S_fillRipe (n := 0) ⟨lk_S_35, by decide +kernel⟩ rfl rfl rfl rfl (Nat.le_of_ble_eq_true rfl) (Nat.le_of_ble_eq_true rfl) (qV_h rfl) (x_S_fillRipe E N a) (fun q1 => ?_)
  refine XI_go (pc' := 5) (ls' := [.ref 19, .int p1, .null, .null, .null]) (st' := [.ref 19]) (a' := q1.2) [(.aload_n 0, 1, 0, .null)] (by decide +kernel) rfl ?_
  refine XI_VP (As := []) (rest := []) (b := 19) (idx := 42) (by decide +kernel) ok_S_firstGreatest mv_S_firstGreatest (n := 0) ⟨lk_S_42, by decide +kernel⟩ rfl rfl rfl rfl (Nat.le_of_ble_eq_true rfl) (Nat.le_of_ble_eq_true rfl) (qI_h rfl) (x_S_firstGreatest E N q1.2) (fun q2 => ?_)
  refine XI_go (pc' := 11) (ls' := [.ref 19, .int p1, .int q2, .int 0, .null]) (st' := []) (a' := q1.2) [(.istore_n 2, 1, 2, .null), (.iconst 0, 1, 0, .int 0), (.istore_n 3, 1, 3, .null)] (by decide +kernel) rfl ?_
  refine XI_fg [true, true, true, true, false] ?_
  exact x_S_endOf_11 E N N p1 q2 0 q1.2
/-! ChestnutSticks.ends(II)I -/
def md_C_ends : md_T := (yX10_ends, cX10_ends, 4, (some .int), 5, 111)
set_option maxRecDepth 100000 in
theorem ok_C_ends : m_ok md_C_ends := ⟨List.mem_of_getElem? (i := 690) (by decide +kernel), by decide +kernel, List.mem_of_getElem? (i := 53) (by decide +kernel), by decide +kernel⟩
theorem mv_C_ends : Cond.instanceMethod (m_y md_C_ends) ∈ lw_tbl ∧ Cond.selects (m_y md_C_ends).cls (m_y md_C_ends) (m_y md_C_ends) ∈ lw_tbl := ⟨List.mem_of_getElem? (i := 688) (by decide +kernel), List.mem_of_getElem? (i := 689) (by decide +kernel)⟩
def f_C_ends (N : Nat) (p1 : Int32) (p2 : Int32) (a : aT) : Option (Int32 × aT) :=
  if p1 < 2 then
    some ((-2), a)
  else
    if 6 < p1 then
      some ((-2), a)
    else
      if (f_C_isBelow p2 2) = 0 then
        some ((-2), a)
      else
        (f_S_endOf N p1 a).bind fun q2 =>
          if p2 = 0 then
            some (q2.1, q2.2)
          else
            (f_E_ripeOn N q2.1 q2.2).bind fun q3 =>
              some (q3, q2.2)
set_option maxHeartbeats 4000000 in
set_option maxRecDepth 100000 in
theorem x_C_ends (E : eT) (N : Nat) (p1 : Int32) (p2 : Int32) (a : aT) : XI qI E md_C_ends 0 [.ref 0, .int p1, .int p2, .null] [] a (f_C_ends N p1 p2 a) := by
  refine XI_br (c := p1 < 2) (t := 19) (e := 5) (ls' := [.ref 0, .int p1, .int p2, .null]) (st' := []) (a' := a) [(.iload_n 1, 1, 1, .null), (.iconst 2, 1, 0, .int 2), (.if_icmp .lt 17, 3, 19, .null)] (by decide +kernel) rfl ?_ ?_
  · refine XI_go (pc' := 21) (ls' := [.ref 0, .int p1, .int p2, .null]) (st' := [.int (-2)]) (a' := a) [(.bipush (-2), 2, 0, .int (-2))] (by decide +kernel) rfl ?_
    exact XI_retI (by decide +kernel)
  · refine XI_br (c := 6 < p1) (t := 19) (e := 11) (ls' := [.ref 0, .int p1, .int p2, .null]) (st' := []) (a' := a) [(.iload_n 1, 1, 1, .null), (.bipush 6, 2, 0, .int 6), (.if_icmp .gt 11, 3, 19, .null)] (by decide +kernel) rfl ?_ ?_
    · refine XI_go (pc' := 21) (ls' := [.ref 0, .int p1, .int p2, .null]) (st' := [.int (-2)]) (a' := a) [(.bipush (-2), 2, 0, .int (-2))] (by decide +kernel) rfl ?_
      exact XI_retI (by decide +kernel)
    · refine XI_go (pc' := 13) (ls' := [.ref 0, .int p1, .int p2, .null]) (st' := [.int 2, .int p2]) (a' := a) [(.iload_n 2, 1, 2, .null), (.iconst 2, 1, 0, .int 2)] (by decide +kernel) rfl ?_
      refine XI_ST (As := [.int p2, .int 2]) (rest := []) (idx := 110) (by decide +kernel) ok_C_isBelow mv_C_isBelow (n := 2) ⟨lk_C_110, by decide +kernel⟩ rfl (Nat.le_of_ble_eq_true rfl) (Nat.le_of_ble_eq_true rfl) (qZ_h rfl) (x_C_isBelow E p2 2 a) ?_
      refine XI_br (c := (f_C_isBelow p2 2) = 0) (t := 19) (e := 22) (ls' := [.ref 0, .int p1, .int p2, .null]) (st' := []) (a' := a) [(.ifCond .ne 6, 3, 22, .null)] (by decide +kernel) rfl ?_ ?_
      · refine XI_go (pc' := 21) (ls' := [.ref 0, .int p1, .int p2, .null]) (st' := [.int (-2)]) (a' := a) [(.bipush (-2), 2, 0, .int (-2))] (by decide +kernel) rfl ?_
        exact XI_retI (by decide +kernel)
      · refine XI_go (pc' := 27) (ls' := [.ref 0, .int p1, .int p2, .null]) (st' := [.int p1, .ref 19]) (a' := a) [(.aload_n 0, 1, 0, .null), (.getfield 58, 3, 1006, .null), (.iload_n 1, 1, 1, .null)] (by decide +kernel) rfl ?_
        refine XI_VI (As := [.int p1]) (rest := []) (b := 19) (idx := 217) (by decide +kernel) ok_S_endOf mv_S_endOf (n := 1) ⟨lk_C_217, by decide +kernel⟩ rfl rfl rfl rfl (Nat.le_of_ble_eq_true rfl) (Nat.le_of_ble_eq_true rfl) (qI_h rfl) (x_S_endOf E N p1 a) (fun q2 => ?_)
        refine XI_br (c := p2 = 0) (t := 35) (e := 39) (ls' := [.ref 0, .int p1, .int p2, .int q2.1]) (st' := []) (a' := q2.2) [(.istore_n 3, 1, 3, .null), (.iload_n 2, 1, 2, .null), (.ifCond .ne 7, 3, 39, .null)] (by decide +kernel) rfl ?_ ?_
        · refine XI_go (pc' := 47) (ls' := [.ref 0, .int p1, .int p2, .int q2.1]) (st' := [.int q2.1]) (a' := q2.2) [(.iload_n 3, 1, 3, .null), (.goto 11, 3, 47, .null)] (by decide +kernel) rfl ?_
          exact XI_retI (by decide +kernel)
        · refine XI_go (pc' := 44) (ls' := [.ref 0, .int p1, .int p2, .int q2.1]) (st' := [.int q2.1, .ref 1]) (a' := q2.2) [(.aload_n 0, 1, 0, .null), (.getfield 10, 3, 1000, .null), (.iload_n 3, 1, 3, .null)] (by decide +kernel) rfl ?_
          refine XI_VP (As := [.int q2.1]) (rest := []) (b := 1) (idx := 211) (by decide +kernel) ok_E_ripeOn mv_E_ripeOn (n := 1) ⟨lk_C_211, by decide +kernel⟩ rfl rfl rfl rfl (Nat.le_of_ble_eq_true rfl) (Nat.le_of_ble_eq_true rfl) (qI_h rfl) (x_E_ripeOn E N q2.1 q2.2) (fun q3 => ?_)
          exact XI_retI (by decide +kernel)
/-! ChestnutSticksModel.endsOf(II)I -/
def md_M_endsOf : md_T := (yX11_endsOf, cX11_endsOf, 5, (some .int), 4, 87)
set_option maxRecDepth 100000 in
theorem ok_M_endsOf : m_ok md_M_endsOf := ⟨List.mem_of_getElem? (i := 1276) (by decide +kernel), by decide +kernel, List.mem_of_getElem? (i := 64) (by decide +kernel), by decide +kernel⟩
theorem mv_M_endsOf : Cond.instanceMethod (m_y md_M_endsOf) ∈ lw_tbl ∧ Cond.selects (m_y md_M_endsOf).cls (m_y md_M_endsOf) (m_y md_M_endsOf) ∈ lw_tbl := ⟨List.mem_of_getElem? (i := 1275) (by decide +kernel), List.mem_of_getElem? (i := 46) (by decide +kernel)⟩
def f_M_endsOf_39 (N : Nat) (a : aT) : Nat → Int32 → Int32 → Int32 → Option Int32
  | 0 => fun _ _ _ => none
  | n + 1 => fun x1 x2 x3 =>
    (f_M_isRest N x1 x3 a).bind fun q3 =>
      if q3 = 0 then
        f_M_endsOf_39 N a n x1 x2 (x3 + (-1))
      else
        if x2 = 0 then
          some x3
        else
          (f_M_ripeOf N x3 a).bind fun q4 =>
            some q4
def f_M_endsOf_5 (N : Nat) (a : aT) : Nat → Int32 → Int32 → Int32 → Int32 → Option Int32
  | 0 => fun _ _ _ _ => none
  | n + 1 => fun x1 x2 x3 x4 =>
    if 30 ≤ x4 then
      f_M_endsOf_39 N a N x1 x2 x3
    else
      (f_M_ripeOf N x4 a).bind fun q1 =>
        (f_M_ripeOf N x3 a).bind fun q2 =>
          if q1 ≤ q2 then
            f_M_endsOf_5 N a n x1 x2 x3 (x4 + 1)
          else
            f_M_endsOf_5 N a n x1 x2 x4 (x4 + 1)
def f_M_endsOf (N : Nat) (p1 : Int32) (p2 : Int32) (a : aT) : Option Int32 :=
  f_M_endsOf_5 N a N p1 p2 0 1
set_option maxHeartbeats 4000000 in
set_option maxRecDepth 100000 in
theorem x_M_endsOf_39 (E : eT) (N : Nat) (a : aT) : ∀ (n : Nat) (x1 : Int32) (x2 : Int32) (x3 : Int32), XP qI E md_M_endsOf 39 [.ref 31, .int x1, .int x2, .int x3, .null] [] a (f_M_endsOf_39 N a n x1 x2 x3)
  | 0, _, _, _ => XP_no rfl
  | n + 1, x1, x2, x3 => by
    refine XP_go (pc' := 42) (ls' := [.ref 31, .int x1, .int x2, .int x3, .null]) (st' := [.int x3, .int x1, .ref 31]) (a' := a) [(.aload_n 0, 1, 0, .null), (.iload_n 1, 1, 1, .null), (.iload_n 3, 1, 3, .null)] (by decide +kernel) rfl ?_
    refine XP_VP (As := [.int x1, .int x3]) (rest := []) (b := 31) (idx := 264) (by decide +kernel) ok_M_isRest mv_M_isRest (n := 2) ⟨lk_M_264, by decide +kernel⟩ rfl rfl rfl rfl (Nat.le_of_ble_eq_true rfl) (Nat.le_of_ble_eq_true rfl) (qZ_h rfl) (x_M_isRest E N x1 x3 a) (fun q3 => ?_)
    refine XP_br (c := q3 = 0) (t := 48) (e := 54) (ls' := [.ref 31, .int x1, .int x2, .int x3, .null]) (st' := []) (a' := a) [(.ifCond .ne 9, 3, 54, .null)] (by decide +kernel) rfl ?_ ?_
    · refine XP_go (pc' := 39) (ls' := [.ref 31, .int x1, .int x2, .int (x3 + (-1)), .null]) (st' := []) (a' := a) [(.iinc 3 (-1), 3, 3, .int (-1)), (.goto (-12), 3, 39, .null)] (by decide +kernel) rfl ?_
      refine XP_fg [true, true, true, true, false] ?_
      exact x_M_endsOf_39 E N a n x1 x2 (x3 + (-1))
    · refine XP_br (c := x2 = 0) (t := 58) (e := 62) (ls' := [.ref 31, .int x1, .int x2, .int x3, .null]) (st' := []) (a' := a) [(.iload_n 2, 1, 2, .null), (.ifCond .ne 7, 3, 62, .null)] (by decide +kernel) rfl ?_ ?_
      · refine XP_go (pc' := 67) (ls' := [.ref 31, .int x1, .int x2, .int x3, .null]) (st' := [.int x3]) (a' := a) [(.iload_n 3, 1, 3, .null), (.goto 8, 3, 67, .null)] (by decide +kernel) rfl ?_
        exact XP_retI (by decide +kernel)
      · refine XP_go (pc' := 64) (ls' := [.ref 31, .int x1, .int x2, .int x3, .null]) (st' := [.int x3, .ref 31]) (a' := a) [(.aload_n 0, 1, 0, .null), (.iload_n 3, 1, 3, .null)] (by decide +kernel) rfl ?_
        refine XP_VP (As := [.int x3]) (rest := []) (b := 31) (idx := 261) (by decide +kernel) ok_M_ripeOf mv_M_ripeOf (n := 1) ⟨lk_M_261, by decide +kernel⟩ rfl rfl rfl rfl (Nat.le_of_ble_eq_true rfl) (Nat.le_of_ble_eq_true rfl) (qI_h rfl) (x_M_ripeOf E N x3 a) (fun q4 => ?_)
        exact XP_retI (by decide +kernel)
set_option maxHeartbeats 4000000 in
set_option maxRecDepth 100000 in
theorem x_M_endsOf_5 (E : eT) (N : Nat) (a : aT) : ∀ (n : Nat) (x1 : Int32) (x2 : Int32) (x3 : Int32) (x4 : Int32), XP qI E md_M_endsOf 5 [.ref 31, .int x1, .int x2, .int x3, .int x4] [] a (f_M_endsOf_5 N a n x1 x2 x3 x4)
  | 0, _, _, _, _ => XP_no rfl
  | n + 1, x1, x2, x3, x4 => by
    refine XP_br (c := 30 ≤ x4) (t := 39) (e := 12) (ls' := [.ref 31, .int x1, .int x2, .int x3, .int x4]) (st' := []) (a' := a) [(.iload 4, 2, 4, .null), (.bipush 30, 2, 0, .int 30), (.if_icmp .ge 30, 3, 39, .null)] (by decide +kernel) rfl ?_ ?_
    · refine XP_fg [true, true, true, true, false] ?_
      exact x_M_endsOf_39 E N a N x1 x2 x3
    · refine XP_go (pc' := 15) (ls' := [.ref 31, .int x1, .int x2, .int x3, .int x4]) (st' := [.int x4, .ref 31]) (a' := a) [(.aload_n 0, 1, 0, .null), (.iload 4, 2, 4, .null)] (by decide +kernel) rfl ?_
      refine XP_VP (As := [.int x4]) (rest := []) (b := 31) (idx := 261) (by decide +kernel) ok_M_ripeOf mv_M_ripeOf (n := 1) ⟨lk_M_261, by decide +kernel⟩ rfl rfl rfl rfl (Nat.le_of_ble_eq_true rfl) (Nat.le_of_ble_eq_true rfl) (qI_h rfl) (x_M_ripeOf E N x4 a) (fun q1 => ?_)
      refine XP_go (pc' := 20) (ls' := [.ref 31, .int x1, .int x2, .int x3, .int x4]) (st' := [.int x3, .ref 31, .int q1]) (a' := a) [(.aload_n 0, 1, 0, .null), (.iload_n 3, 1, 3, .null)] (by decide +kernel) rfl ?_
      refine XP_VP (As := [.int x3]) (rest := [.int q1]) (b := 31) (idx := 261) (by decide +kernel) ok_M_ripeOf mv_M_ripeOf (n := 1) ⟨lk_M_261, by decide +kernel⟩ rfl rfl rfl rfl (Nat.le_of_ble_eq_true rfl) (Nat.le_of_ble_eq_true rfl) (qI_h rfl) (x_M_ripeOf E N x3 a) (fun q2 => ?_)
      refine XP_br (c := q1 ≤ q2) (t := 31) (e := 26) (ls' := [.ref 31, .int x1, .int x2, .int x3, .int x4]) (st' := []) (a' := a) [(.if_icmp .le 8, 3, 31, .null)] (by decide +kernel) rfl ?_ ?_
      · refine XP_go (pc' := 5) (ls' := [.ref 31, .int x1, .int x2, .int x3, .int (x4 + 1)]) (st' := []) (a' := a) [(.iload_n 3, 1, 3, .null), (.istore_n 3, 1, 3, .null), (.iinc 4 1, 3, 4, .int 1), (.goto (-31), 3, 5, .null)] (by decide +kernel) rfl ?_
        refine XP_fg [true, true, true, true, true] ?_
        exact x_M_endsOf_5 E N a n x1 x2 x3 (x4 + 1)
      · refine XP_go (pc' := 5) (ls' := [.ref 31, .int x1, .int x2, .int x4, .int (x4 + 1)]) (st' := []) (a' := a) [(.iload 4, 2, 4, .null), (.goto 4, 3, 32, .null), (.istore_n 3, 1, 3, .null), (.iinc 4 1, 3, 4, .int 1), (.goto (-31), 3, 5, .null)] (by decide +kernel) rfl ?_
        refine XP_fg [true, true, true, true, true] ?_
        exact x_M_endsOf_5 E N a n x1 x2 x4 (x4 + 1)
set_option maxHeartbeats 4000000 in
set_option maxRecDepth 100000 in
theorem x_M_endsOf (E : eT) (N : Nat) (p1 : Int32) (p2 : Int32) (a : aT) : XP qI E md_M_endsOf 0 [.ref 31, .int p1, .int p2, .null, .null] [] a (f_M_endsOf N p1 p2 a) := by
  refine XP_go (pc' := 5) (ls' := [.ref 31, .int p1, .int p2, .int 0, .int 1]) (st' := []) (a' := a) [(.iconst 0, 1, 0, .int 0), (.istore_n 3, 1, 3, .null), (.iconst 1, 1, 0, .int 1), (.istore 4, 2, 4, .null)] (by decide +kernel) rfl ?_
  refine XP_fg [true, true, true, true, true] ?_
  exact x_M_endsOf_5 E N a N p1 p2 0 1
/-! ChestnutSticksModel.ends(II)I -/
def md_M_ends : md_T := (yX11_ends, cX11_ends, 3, (some .int), 5, 111)
set_option maxRecDepth 100000 in
theorem ok_M_ends : m_ok md_M_ends := ⟨List.mem_of_getElem? (i := 1272) (by decide +kernel), by decide +kernel, List.mem_of_getElem? (i := 64) (by decide +kernel), by decide +kernel⟩
theorem mv_M_ends : Cond.instanceMethod (m_y md_M_ends) ∈ lw_tbl ∧ Cond.selects (m_y md_M_ends).cls (m_y md_M_ends) (m_y md_M_ends) ∈ lw_tbl := ⟨List.mem_of_getElem? (i := 1270) (by decide +kernel), List.mem_of_getElem? (i := 1271) (by decide +kernel)⟩
def f_M_ends (N : Nat) (p1 : Int32) (p2 : Int32) (a : aT) : Option (Int32 × aT) :=
  (f_M_reads N a).bind fun q1 =>
    if (f_M_in p1.toInt64 2 6) = 0 then
      some ((-2), q1.2)
    else
      if (f_M_isTwo p2) = 0 then
        some ((-2), q1.2)
      else
        (f_M_endsOf N p1 p2 q1.2).bind fun q4 =>
          some (q4, q1.2)
set_option maxHeartbeats 4000000 in
set_option maxRecDepth 100000 in
theorem x_M_ends (E : eT) (N : Nat) (p1 : Int32) (p2 : Int32) (a : aT) : XI qI E md_M_ends 0 [.ref 31, .int p1, .int p2] [] a (f_M_ends N p1 p2 a) := by
  refine XI_go (pc' := 1) (ls' := [.ref 31, .int p1, .int p2]) (st' := [.ref 31]) (a' := a) [(.aload_n 0, 1, 0, .null)] (by decide +kernel) rfl ?_
  refine XI_VI (As := []) (rest := []) (b := 31) (idx := 127) (by decide +kernel) ok_M_reads mv_M_reads (n := 0) ⟨lk_M_127, by decide +kernel⟩ rfl rfl rfl rfl (Nat.le_of_ble_eq_true rfl) (Nat.le_of_ble_eq_true rfl) (qI_h rfl) (x_M_reads E N a) (fun q1 => ?_)
  refine XI_go (pc' := 13) (ls' := [.ref 31, .int p1, .int p2]) (st' := [.long 6, .long 2, .long p1.toInt64]) (a' := q1.2) [(.pop, 1, 0, .null), (.iload_n 1, 1, 1, .null), (.i2l, 1, 0, .null), (.ldc2_w 87, 3, 0, .long 2), (.ldc2_w 268, 3, 0, .long 6)] (by decide +kernel) rfl ?_
  refine XI_ST (As := [.long p1.toInt64, .long 2, .long 6]) (rest := []) (idx := 74) (by decide +kernel) ok_M_in mv_M_in (n := 3) ⟨lk_M_74, by decide +kernel⟩ rfl (Nat.le_of_ble_eq_true rfl) (Nat.le_of_ble_eq_true rfl) (qZ_h rfl) (x_M_in E p1.toInt64 2 6 q1.2) ?_
  refine XI_br (c := (f_M_in p1.toInt64 2 6) = 0) (t := 35) (e := 19) (ls' := [.ref 31, .int p1, .int p2]) (st' := []) (a' := q1.2) [(.ifCond .eq 19, 3, 35, .null)] (by decide +kernel) rfl ?_ ?_
  · refine XI_go (pc' := 37) (ls' := [.ref 31, .int p1, .int p2]) (st' := [.int (-2)]) (a' := q1.2) [(.bipush (-2), 2, 0, .int (-2))] (by decide +kernel) rfl ?_
    exact XI_retI (by decide +kernel)
  · refine XI_go (pc' := 20) (ls' := [.ref 31, .int p1, .int p2]) (st' := [.int p2]) (a' := q1.2) [(.iload_n 2, 1, 2, .null)] (by decide +kernel) rfl ?_
    refine XI_ST (As := [.int p2]) (rest := []) (idx := 252) (by decide +kernel) ok_M_isTwo mv_M_isTwo (n := 1) ⟨lk_M_252, by decide +kernel⟩ rfl (Nat.le_of_ble_eq_true rfl) (Nat.le_of_ble_eq_true rfl) (qZ_h rfl) (x_M_isTwo E p2 q1.2) ?_
    refine XI_br (c := (f_M_isTwo p2) = 0) (t := 35) (e := 26) (ls' := [.ref 31, .int p1, .int p2]) (st' := []) (a' := q1.2) [(.ifCond .eq 12, 3, 35, .null)] (by decide +kernel) rfl ?_ ?_
    · refine XI_go (pc' := 37) (ls' := [.ref 31, .int p1, .int p2]) (st' := [.int (-2)]) (a' := q1.2) [(.bipush (-2), 2, 0, .int (-2))] (by decide +kernel) rfl ?_
      exact XI_retI (by decide +kernel)
    · refine XI_go (pc' := 29) (ls' := [.ref 31, .int p1, .int p2]) (st' := [.int p2, .int p1, .ref 31]) (a' := q1.2) [(.aload_n 0, 1, 0, .null), (.iload_n 1, 1, 1, .null), (.iload_n 2, 1, 2, .null)] (by decide +kernel) rfl ?_
      refine XI_VP (As := [.int p1, .int p2]) (rest := []) (b := 31) (idx := 273) (by decide +kernel) ok_M_endsOf mv_M_endsOf (n := 2) ⟨lk_M_273, by decide +kernel⟩ rfl rfl rfl rfl (Nat.le_of_ble_eq_true rfl) (Nat.le_of_ble_eq_true rfl) (qI_h rfl) (x_M_endsOf E N p1 p2 q1.2) (fun q4 => ?_)
      refine XI_go (pc' := 37) (ls' := [.ref 31, .int p1, .int p2]) (st' := [.int q4]) (a' := q1.2) [(.goto 5, 3, 37, .null)] (by decide +kernel) rfl ?_
      exact XI_retI (by decide +kernel)
/-! ChestnutSticks$Throwers.append(II)I -/
def md_W_append : md_T := (yX7_append, cX7_append, 3, (some .int), 1, 21)
set_option maxRecDepth 100000 in
theorem ok_W_append : m_ok md_W_append := ⟨List.mem_of_getElem? (i := 706) (by decide +kernel), by decide +kernel, List.mem_of_getElem? (i := 61) (by decide +kernel), by decide +kernel⟩
theorem mv_W_append : Cond.instanceMethod (m_y md_W_append) ∈ lw_tbl ∧ Cond.selects (m_y md_W_append).cls (m_y md_W_append) (m_y md_W_append) ∈ lw_tbl := ⟨List.mem_of_getElem? (i := 704) (by decide +kernel), List.mem_of_getElem? (i := 705) (by decide +kernel)⟩
def f_W_append (p1 : Int32) (p2 : Int32) (a : aT) : Option (Int32 × aT) :=
  if p1 < 1 then
    some ((-2), a)
  else
    if 20 < p1 then
      some ((-2), a)
    else
      if p2 < 0 then
        some ((-2), a)
      else
        if p2 < p1 then
          if (f_C_isBelow (a 21 2) 3) = 0 then
            some ((-4), a)
          else
            if inb (a 21 2) 3 then
              if inb (a 21 2) 3 then
                some (((a 21 2) + 1), (upA (upA (upA a 22 (ix (a 21 2)) p1) 23 (ix (a 21 2)) p2) 21 2 ((a 21 2) + 1)))
              else none
            else none
        else
          some ((-2), a)
set_option maxHeartbeats 4000000 in
set_option maxRecDepth 100000 in
theorem x_W_append (E : eT) (p1 : Int32) (p2 : Int32) (a : aT) : XI qI E md_W_append 0 [.ref 21, .int p1, .int p2] [] a (f_W_append p1 p2 a) := by
  refine XI_br (c := p1 < 1) (t := 20) (e := 5) (ls' := [.ref 21, .int p1, .int p2]) (st' := []) (a' := a) [(.iload_n 1, 1, 1, .null), (.iconst 1, 1, 0, .int 1), (.if_icmp .lt 18, 3, 20, .null)] (by decide +kernel) rfl ?_ ?_
  · refine XI_go (pc' := 22) (ls' := [.ref 21, .int p1, .int p2]) (st' := [.int (-2)]) (a' := a) [(.bipush (-2), 2, 0, .int (-2))] (by decide +kernel) rfl ?_
    exact XI_retI (by decide +kernel)
  · refine XI_br (c := 20 < p1) (t := 20) (e := 11) (ls' := [.ref 21, .int p1, .int p2]) (st' := []) (a' := a) [(.iload_n 1, 1, 1, .null), (.bipush 20, 2, 0, .int 20), (.if_icmp .gt 12, 3, 20, .null)] (by decide +kernel) rfl ?_ ?_
    · refine XI_go (pc' := 22) (ls' := [.ref 21, .int p1, .int p2]) (st' := [.int (-2)]) (a' := a) [(.bipush (-2), 2, 0, .int (-2))] (by decide +kernel) rfl ?_
      exact XI_retI (by decide +kernel)
    · refine XI_br (c := p2 < 0) (t := 20) (e := 15) (ls' := [.ref 21, .int p1, .int p2]) (st' := []) (a' := a) [(.iload_n 2, 1, 2, .null), (.ifCond .lt 8, 3, 20, .null)] (by decide +kernel) rfl ?_ ?_
      · refine XI_go (pc' := 22) (ls' := [.ref 21, .int p1, .int p2]) (st' := [.int (-2)]) (a' := a) [(.bipush (-2), 2, 0, .int (-2))] (by decide +kernel) rfl ?_
        exact XI_retI (by decide +kernel)
      · refine XI_br (c := p2 < p1) (t := 23) (e := 20) (ls' := [.ref 21, .int p1, .int p2]) (st' := []) (a' := a) [(.iload_n 2, 1, 2, .null), (.iload_n 1, 1, 1, .null), (.if_icmp .lt 6, 3, 23, .null)] (by decide +kernel) rfl ?_ ?_
        · refine XI_go (pc' := 28) (ls' := [.ref 21, .int p1, .int p2]) (st' := [.int 3, .int (a 21 2)]) (a' := a) [(.aload_n 0, 1, 0, .null), (.getfield 18, 3, 702, .null), (.iconst 3, 1, 0, .int 3)] (by decide +kernel) rfl ?_
          refine XI_SNT (As := [.int (a 21 2), .int 3]) (rest := []) (idx := 22) (by decide +kernel) ok_C_isBelow mv_C_isBelow (n := 2) ⟨lk_W_22, by decide +kernel⟩ rfl (Nat.le_of_ble_eq_true rfl) (Nat.le_of_ble_eq_true rfl) (qZ_h rfl) (x_C_isBelow E (a 21 2) 3 a) ?_
          refine XI_br (c := (f_C_isBelow (a 21 2) 3) = 0) (t := 34) (e := 37) (ls' := [.ref 21, .int p1, .int p2]) (st' := []) (a' := a) [(.ifCond .ne 6, 3, 37, .null)] (by decide +kernel) rfl ?_ ?_
          · refine XI_go (pc' := 36) (ls' := [.ref 21, .int p1, .int p2]) (st' := [.int (-4)]) (a' := a) [(.bipush (-4), 2, 0, .int (-4))] (by decide +kernel) rfl ?_
            exact XI_retI (by decide +kernel)
          · refine XI_ck (c := inb (a 21 2) 3) (pc' := 47) (ls' := [.ref 21, .int p1, .int p2]) (st' := []) (a' := (upA a 22 (ix (a 21 2)) p1)) [(.aload_n 0, 1, 0, .null), (.getfield 9, 3, 700, .null), (.aload_n 0, 1, 0, .null), (.getfield 18, 3, 702, .null), (.iload_n 1, 1, 1, .null), (.iastore, 1, 0, .null)] (by decide +kernel) rfl ?_
            refine XI_ck (c := inb (a 21 2) 3) (pc' := 57) (ls' := [.ref 21, .int p1, .int p2]) (st' := []) (a' := (upA (upA a 22 (ix (a 21 2)) p1) 23 (ix (a 21 2)) p2)) [(.aload_n 0, 1, 0, .null), (.getfield 15, 3, 701, .null), (.aload_n 0, 1, 0, .null), (.getfield 18, 3, 702, .null), (.iload_n 2, 1, 2, .null), (.iastore, 1, 0, .null)] (by decide +kernel) rfl ?_
            refine XI_go (pc' := 71) (ls' := [.ref 21, .int p1, .int p2]) (st' := [.int ((a 21 2) + 1)]) (a' := (upA (upA (upA a 22 (ix (a 21 2)) p1) 23 (ix (a 21 2)) p2) 21 2 ((a 21 2) + 1))) [(.aload_n 0, 1, 0, .null), (.dup, 1, 0, .null), (.getfield 18, 3, 702, .null), (.iconst 1, 1, 0, .int 1), (.iadd, 1, 0, .null), (.putfield 18, 3, 702, .int 0), (.aload_n 0, 1, 0, .null), (.getfield 18, 3, 702, .null)] (by decide +kernel) rfl ?_
            exact XI_retI (by decide +kernel)
        · refine XI_go (pc' := 22) (ls' := [.ref 21, .int p1, .int p2]) (st' := [.int (-2)]) (a' := a) [(.bipush (-2), 2, 0, .int (-2))] (by decide +kernel) rfl ?_
          exact XI_retI (by decide +kernel)
/-! ChestnutSticks.thrower(II)I -/
def md_C_thrower : md_T := (yX10_thrower, cX10_thrower, 3, (some .int), 2, 43)
set_option maxRecDepth 100000 in
theorem ok_C_thrower : m_ok md_C_thrower := ⟨List.mem_of_getElem? (i := 702) (by decide +kernel), by decide +kernel, List.mem_of_getElem? (i := 53) (by decide +kernel), by decide +kernel⟩
theorem mv_C_thrower : Cond.instanceMethod (m_y md_C_thrower) ∈ lw_tbl ∧ Cond.selects (m_y md_C_thrower).cls (m_y md_C_thrower) (m_y md_C_thrower) ∈ lw_tbl := ⟨List.mem_of_getElem? (i := 700) (by decide +kernel), List.mem_of_getElem? (i := 701) (by decide +kernel)⟩
def f_C_thrower (p1 : Int32) (p2 : Int32) (a : aT) : Option (Int32 × aT) :=
  (f_W_append p1 p2 a).bind fun q1 =>
    some (q1.1, q1.2)
set_option maxHeartbeats 4000000 in
set_option maxRecDepth 100000 in
theorem x_C_thrower (E : eT) (p1 : Int32) (p2 : Int32) (a : aT) : XI qI E md_C_thrower 0 [.ref 0, .int p1, .int p2] [] a (f_C_thrower p1 p2 a) := by
  refine XI_go (pc' := 6) (ls' := [.ref 0, .int p1, .int p2]) (st' := [.int p2, .int p1, .ref 21]) (a' := a) [(.aload_n 0, 1, 0, .null), (.getfield 65, 3, 1007, .null), (.iload_n 1, 1, 1, .null), (.iload_n 2, 1, 2, .null)] (by decide +kernel) rfl ?_
  refine XI_VI (As := [.int p1, .int p2]) (rest := []) (b := 21) (idx := 220) (by decide +kernel) ok_W_append mv_W_append (n := 2) ⟨lk_C_220, by decide +kernel⟩ rfl rfl rfl rfl (Nat.le_of_ble_eq_true rfl) (Nat.le_of_ble_eq_true rfl) (qI_h rfl) (x_W_append E p1 p2 a) (fun q1 => ?_)
  exact XI_retI (by decide +kernel)
/-! ChestnutSticksModel.thrower(II)I -/
def md_M_thrower : md_T := (yX11_thrower, cX11_thrower, 3, (some .int), 1, 25)
set_option maxRecDepth 100000 in
theorem ok_M_thrower : m_ok md_M_thrower := ⟨List.mem_of_getElem? (i := 1280) (by decide +kernel), by decide +kernel, List.mem_of_getElem? (i := 64) (by decide +kernel), by decide +kernel⟩
theorem mv_M_thrower : Cond.instanceMethod (m_y md_M_thrower) ∈ lw_tbl ∧ Cond.selects (m_y md_M_thrower).cls (m_y md_M_thrower) (m_y md_M_thrower) ∈ lw_tbl := ⟨List.mem_of_getElem? (i := 1278) (by decide +kernel), List.mem_of_getElem? (i := 1279) (by decide +kernel)⟩
def f_M_thrower (p1 : Int32) (p2 : Int32) (a : aT) : Option (Int32 × aT) :=
  if (f_M_in p1.toInt64 1 20) = 0 then
    some ((-2), a)
  else
    if (f_M_in p2.toInt64 0 (p1 - 1).toInt64) = 0 then
      some ((-2), a)
    else
      if (a 31 29) = 3 then
        some ((-4), a)
      else
        if inb (2 * (a 31 29)) 6 then
          if inb ((2 * (a 31 29)) + 1) 6 then
            some (((a 31 29) + 1), (upA (upA (upA a 49 (ix (2 * (a 31 29))) p1) 49 (ix ((2 * (a 31 29)) + 1)) p2) 31 29 ((a 31 29) + 1)))
          else none
        else none
set_option maxHeartbeats 4000000 in
set_option maxRecDepth 100000 in
theorem x_M_thrower (E : eT) (p1 : Int32) (p2 : Int32) (a : aT) : XI qI E md_M_thrower 0 [.ref 31, .int p1, .int p2] [] a (f_M_thrower p1 p2 a) := by
  refine XI_go (pc' := 6) (ls' := [.ref 31, .int p1, .int p2]) (st' := [.long 20, .long 1, .long p1.toInt64]) (a' := a) [(.iload_n 1, 1, 1, .null), (.i2l, 1, 0, .null), (.lconst 1, 1, 0, .long 1), (.ldc2_w 276, 3, 0, .long 20)] (by decide +kernel) rfl ?_
  refine XI_ST (As := [.long p1.toInt64, .long 1, .long 20]) (rest := []) (idx := 74) (by decide +kernel) ok_M_in mv_M_in (n := 3) ⟨lk_M_74, by decide +kernel⟩ rfl (Nat.le_of_ble_eq_true rfl) (Nat.le_of_ble_eq_true rfl) (qZ_h rfl) (x_M_in E p1.toInt64 1 20 a) ?_
  refine XI_br (c := (f_M_in p1.toInt64 1 20) = 0) (t := 25) (e := 12) (ls' := [.ref 31, .int p1, .int p2]) (st' := []) (a' := a) [(.ifCond .eq 16, 3, 25, .null)] (by decide +kernel) rfl ?_ ?_
  · refine XI_go (pc' := 27) (ls' := [.ref 31, .int p1, .int p2]) (st' := [.int (-2)]) (a' := a) [(.bipush (-2), 2, 0, .int (-2))] (by decide +kernel) rfl ?_
    exact XI_retI (by decide +kernel)
  · refine XI_go (pc' := 19) (ls' := [.ref 31, .int p1, .int p2]) (st' := [.long (p1 - 1).toInt64, .long 0, .long p2.toInt64]) (a' := a) [(.iload_n 2, 1, 2, .null), (.i2l, 1, 0, .null), (.lconst 0, 1, 0, .long 0), (.iload_n 1, 1, 1, .null), (.iconst 1, 1, 0, .int 1), (.isub, 1, 0, .null), (.i2l, 1, 0, .null)] (by decide +kernel) rfl ?_
    refine XI_ST (As := [.long p2.toInt64, .long 0, .long (p1 - 1).toInt64]) (rest := []) (idx := 74) (by decide +kernel) ok_M_in mv_M_in (n := 3) ⟨lk_M_74, by decide +kernel⟩ rfl (Nat.le_of_ble_eq_true rfl) (Nat.le_of_ble_eq_true rfl) (qZ_h rfl) (x_M_in E p2.toInt64 0 (p1 - 1).toInt64 a) ?_
    refine XI_br (c := (f_M_in p2.toInt64 0 (p1 - 1).toInt64) = 0) (t := 25) (e := 28) (ls' := [.ref 31, .int p1, .int p2]) (st' := []) (a' := a) [(.ifCond .ne 6, 3, 28, .null)] (by decide +kernel) rfl ?_ ?_
    · refine XI_go (pc' := 27) (ls' := [.ref 31, .int p1, .int p2]) (st' := [.int (-2)]) (a' := a) [(.bipush (-2), 2, 0, .int (-2))] (by decide +kernel) rfl ?_
      exact XI_retI (by decide +kernel)
    · refine XI_br (c := (a 31 29) = 3) (t := 36) (e := 39) (ls' := [.ref 31, .int p1, .int p2]) (st' := []) (a' := a) [(.aload_n 0, 1, 0, .null), (.getfield 278, 3, 1129, .null), (.iconst 3, 1, 0, .int 3), (.if_icmp .ne 6, 3, 39, .null)] (by decide +kernel) rfl ?_ ?_
      · refine XI_go (pc' := 38) (ls' := [.ref 31, .int p1, .int p2]) (st' := [.int (-4)]) (a' := a) [(.bipush (-4), 2, 0, .int (-4))] (by decide +kernel) rfl ?_
        exact XI_retI (by decide +kernel)
      · refine XI_ck (c := inb (2 * (a 31 29)) 6) (pc' := 51) (ls' := [.ref 31, .int p1, .int p2]) (st' := []) (a' := (upA a 49 (ix (2 * (a 31 29))) p1)) [(.aload_n 0, 1, 0, .null), (.getfield 62, 3, 1130, .null), (.iconst 2, 1, 0, .int 2), (.aload_n 0, 1, 0, .null), (.getfield 278, 3, 1129, .null), (.imul, 1, 0, .null), (.iload_n 1, 1, 1, .null), (.iastore, 1, 0, .null)] (by decide +kernel) rfl ?_
        refine XI_ck (c := inb ((2 * (a 31 29)) + 1) 6) (pc' := 65) (ls' := [.ref 31, .int p1, .int p2]) (st' := []) (a' := (upA (upA a 49 (ix (2 * (a 31 29))) p1) 49 (ix ((2 * (a 31 29)) + 1)) p2)) [(.aload_n 0, 1, 0, .null), (.getfield 62, 3, 1130, .null), (.iconst 2, 1, 0, .int 2), (.aload_n 0, 1, 0, .null), (.getfield 278, 3, 1129, .null), (.imul, 1, 0, .null), (.iconst 1, 1, 0, .int 1), (.iadd, 1, 0, .null), (.iload_n 2, 1, 2, .null), (.iastore, 1, 0, .null)] (by decide +kernel) rfl ?_
        refine XI_go (pc' := 79) (ls' := [.ref 31, .int p1, .int p2]) (st' := [.int ((a 31 29) + 1)]) (a' := (upA (upA (upA a 49 (ix (2 * (a 31 29))) p1) 49 (ix ((2 * (a 31 29)) + 1)) p2) 31 29 ((a 31 29) + 1))) [(.aload_n 0, 1, 0, .null), (.dup, 1, 0, .null), (.getfield 278, 3, 1129, .null), (.iconst 1, 1, 0, .int 1), (.iadd, 1, 0, .null), (.putfield 278, 3, 1129, .int 0), (.aload_n 0, 1, 0, .null), (.getfield 278, 3, 1129, .null)] (by decide +kernel) rfl ?_
        exact XI_retI (by decide +kernel)
/-! ChestnutSticks$Throwers.empty()I -/
def md_W_empty : md_T := (yX7_empty, cX7_empty, 2, (some .int), 0, 0)
set_option maxRecDepth 100000 in
theorem ok_W_empty : m_ok md_W_empty := ⟨List.mem_of_getElem? (i := 715) (by decide +kernel), by decide +kernel, List.mem_of_getElem? (i := 61) (by decide +kernel), by decide +kernel⟩
theorem mv_W_empty : Cond.instanceMethod (m_y md_W_empty) ∈ lw_tbl ∧ Cond.selects (m_y md_W_empty).cls (m_y md_W_empty) (m_y md_W_empty) ∈ lw_tbl := ⟨List.mem_of_getElem? (i := 713) (by decide +kernel), List.mem_of_getElem? (i := 714) (by decide +kernel)⟩
def f_W_empty (a : aT) : Option (Int32 × aT) :=
  some ((a 21 2), (upA a 21 2 0))
set_option maxHeartbeats 4000000 in
set_option maxRecDepth 100000 in
theorem x_W_empty (E : eT) (a : aT) : XI qI E md_W_empty 0 [.ref 21, .null] [] a (f_W_empty a) := by
  refine XI_go (pc' := 11) (ls' := [.ref 21, .int (a 21 2)]) (st' := [.int (a 21 2)]) (a' := (upA a 21 2 0)) [(.aload_n 0, 1, 0, .null), (.getfield 18, 3, 702, .null), (.istore_n 1, 1, 1, .null), (.aload_n 0, 1, 0, .null), (.iconst 0, 1, 0, .int 0), (.putfield 18, 3, 702, .int 0), (.iload_n 1, 1, 1, .null)] (by decide +kernel) rfl ?_
  exact XI_retI (by decide +kernel)
/-! ChestnutSticks.gone()I -/
def md_C_gone : md_T := (yX10_gone, cX10_gone, 1, (some .int), 1, 21)
set_option maxRecDepth 100000 in
theorem ok_C_gone : m_ok md_C_gone := ⟨List.mem_of_getElem? (i := 711) (by decide +kernel), by decide +kernel, List.mem_of_getElem? (i := 53) (by decide +kernel), by decide +kernel⟩
theorem mv_C_gone : Cond.instanceMethod (m_y md_C_gone) ∈ lw_tbl ∧ Cond.selects (m_y md_C_gone).cls (m_y md_C_gone) (m_y md_C_gone) ∈ lw_tbl := ⟨List.mem_of_getElem? (i := 709) (by decide +kernel), List.mem_of_getElem? (i := 710) (by decide +kernel)⟩
def f_C_gone (a : aT) : Option (Int32 × aT) :=
  (f_W_empty a).bind fun q1 =>
    some (q1.1, q1.2)
set_option maxHeartbeats 4000000 in
set_option maxRecDepth 100000 in
theorem x_C_gone (E : eT) (a : aT) : XI qI E md_C_gone 0 [.ref 0] [] a (f_C_gone a) := by
  refine XI_go (pc' := 4) (ls' := [.ref 0]) (st' := [.ref 21]) (a' := a) [(.aload_n 0, 1, 0, .null), (.getfield 65, 3, 1007, .null)] (by decide +kernel) rfl ?_
  refine XI_VI (As := []) (rest := []) (b := 21) (idx := 222) (by decide +kernel) ok_W_empty mv_W_empty (n := 0) ⟨lk_C_222, by decide +kernel⟩ rfl rfl rfl rfl (Nat.le_of_ble_eq_true rfl) (Nat.le_of_ble_eq_true rfl) (qI_h rfl) (x_W_empty E a) (fun q1 => ?_)
  exact XI_retI (by decide +kernel)
/-! ChestnutSticksModel.gone()I -/
def md_M_gone : md_T := (yX11_gone, cX11_gone, 2, (some .int), 0, 0)
set_option maxRecDepth 100000 in
theorem ok_M_gone : m_ok md_M_gone := ⟨List.mem_of_getElem? (i := 1285) (by decide +kernel), by decide +kernel, List.mem_of_getElem? (i := 64) (by decide +kernel), by decide +kernel⟩
theorem mv_M_gone : Cond.instanceMethod (m_y md_M_gone) ∈ lw_tbl ∧ Cond.selects (m_y md_M_gone).cls (m_y md_M_gone) (m_y md_M_gone) ∈ lw_tbl := ⟨List.mem_of_getElem? (i := 1283) (by decide +kernel), List.mem_of_getElem? (i := 1284) (by decide +kernel)⟩
def f_M_gone (a : aT) : Option (Int32 × aT) :=
  some ((a 31 29), (upA a 31 29 0))
set_option maxHeartbeats 4000000 in
set_option maxRecDepth 100000 in
theorem x_M_gone (E : eT) (a : aT) : XI qI E md_M_gone 0 [.ref 31, .null] [] a (f_M_gone a) := by
  refine XI_go (pc' := 11) (ls' := [.ref 31, .int (a 31 29)]) (st' := [.int (a 31 29)]) (a' := (upA a 31 29 0)) [(.aload_n 0, 1, 0, .null), (.getfield 278, 3, 1129, .null), (.istore_n 1, 1, 1, .null), (.aload_n 0, 1, 0, .null), (.iconst 0, 1, 0, .int 0), (.putfield 278, 3, 1129, .int 0), (.iload_n 1, 1, 1, .null)] (by decide +kernel) rfl ?_
  exact XI_retI (by decide +kernel)
/-! ChestnutSticks$Throwers.leastMultiple(II)I -/
def md_W_leastMultiple : md_T := (yX7_leastMultiple, cX7_leastMultiple, 3, (some .int), 0, 0)
set_option maxRecDepth 100000 in
theorem ok_W_leastMultiple : m_ok md_W_leastMultiple := ⟨List.mem_of_getElem? (i := 730) (by decide +kernel), by decide +kernel, List.mem_of_getElem? (i := 61) (by decide +kernel), by decide +kernel⟩
theorem mv_W_leastMultiple : Cond.static (m_y md_W_leastMultiple) ∈ lw_tbl := List.mem_of_getElem? (i := 729) (by decide +kernel)
def f_W_leastMultiple_2 (N : Nat) : Nat → Int32 → Int32 → Int32 → Option Int32
  | 0 => fun _ _ _ => none
  | n + 1 => fun x0 x1 x2 =>
    if x1 ≤ x2 then
      some (x0 * x1)
    else
      if x1 ≤ 0 then
        f_W_leastMultiple_2 N n x0 x1 (x2 + 1)
      else
        if x1 = 0 then none else
          if (i_rem (x0 * x2) x1) = 0 then
            some (x0 * x2)
          else
            f_W_leastMultiple_2 N n x0 x1 (x2 + 1)
def f_W_leastMultiple (N : Nat) (p1 : Int32) (p2 : Int32) : Option Int32 :=
  f_W_leastMultiple_2 N N p1 p2 1
set_option maxHeartbeats 4000000 in
set_option maxRecDepth 100000 in
theorem x_W_leastMultiple_2 (E : eT) (N : Nat) (a : aT) : ∀ (n : Nat) (x0 : Int32) (x1 : Int32) (x2 : Int32), XP qI E md_W_leastMultiple 2 [.int x0, .int x1, .int x2] [] a (f_W_leastMultiple_2 N n x0 x1 x2)
  | 0, _, _, _ => XP_no rfl
  | n + 1, x0, x1, x2 => by
    refine XP_br (c := x1 ≤ x2) (t := 29) (e := 7) (ls' := [.int x0, .int x1, .int x2]) (st' := []) (a' := a) [(.iload_n 2, 1, 2, .null), (.iload_n 1, 1, 1, .null), (.if_icmp .ge 25, 3, 29, .null)] (by decide +kernel) rfl ?_ ?_
    · refine XP_go (pc' := 32) (ls' := [.int x0, .int x1, .int x2]) (st' := [.int (x0 * x1)]) (a' := a) [(.iload_n 0, 1, 0, .null), (.iload_n 1, 1, 1, .null), (.imul, 1, 0, .null)] (by decide +kernel) rfl ?_
      exact XP_retI (by decide +kernel)
    · refine XP_br (c := x1 ≤ 0) (t := 23) (e := 11) (ls' := [.int x0, .int x1, .int x2]) (st' := []) (a' := a) [(.iload_n 1, 1, 1, .null), (.ifCond .le 15, 3, 23, .null)] (by decide +kernel) rfl ?_ ?_
      · refine XP_go (pc' := 2) (ls' := [.int x0, .int x1, .int (x2 + 1)]) (st' := []) (a' := a) [(.iinc 2 1, 3, 2, .int 1), (.goto (-24), 3, 2, .null)] (by decide +kernel) rfl ?_
        refine XP_fg [true, true, true] ?_
        exact x_W_leastMultiple_2 E N a n x0 x1 (x2 + 1)
      · refine XP_dv (c := x1 = 0) (pc' := 16) (ls' := [.int x0, .int x1, .int x2]) (st' := [.int (i_rem (x0 * x2) x1)]) (a' := a) [(.iload_n 0, 1, 0, .null), (.iload_n 2, 1, 2, .null), (.imul, 1, 0, .null), (.iload_n 1, 1, 1, .null), (.irem, 1, 0, .null)] (by decide +kernel) rfl ?_
        refine XP_br (c := (i_rem (x0 * x2) x1) = 0) (t := 19) (e := 23) (ls' := [.int x0, .int x1, .int x2]) (st' := []) (a' := a) [(.ifCond .ne 7, 3, 23, .null)] (by decide +kernel) rfl ?_ ?_
        · refine XP_go (pc' := 22) (ls' := [.int x0, .int x1, .int x2]) (st' := [.int (x0 * x2)]) (a' := a) [(.iload_n 0, 1, 0, .null), (.iload_n 2, 1, 2, .null), (.imul, 1, 0, .null)] (by decide +kernel) rfl ?_
          exact XP_retI (by decide +kernel)
        · refine XP_go (pc' := 2) (ls' := [.int x0, .int x1, .int (x2 + 1)]) (st' := []) (a' := a) [(.iinc 2 1, 3, 2, .int 1), (.goto (-24), 3, 2, .null)] (by decide +kernel) rfl ?_
          refine XP_fg [true, true, true] ?_
          exact x_W_leastMultiple_2 E N a n x0 x1 (x2 + 1)
set_option maxHeartbeats 4000000 in
set_option maxRecDepth 100000 in
theorem x_W_leastMultiple (E : eT) (N : Nat) (p1 : Int32) (p2 : Int32) (a : aT) : XP qI E md_W_leastMultiple 0 [.int p1, .int p2, .null] [] a (f_W_leastMultiple N p1 p2) := by
  refine XP_go (pc' := 2) (ls' := [.int p1, .int p2, .int 1]) (st' := []) (a' := a) [(.iconst 1, 1, 0, .int 1), (.istore_n 2, 1, 2, .null)] (by decide +kernel) rfl ?_
  refine XP_fg [true, true, true] ?_
  exact x_W_leastMultiple_2 E N a N p1 p2 1
