/-! ChestnutSticksModel.set(II)I -/
def md_M_set : md_T := (yX11_set, cX11_set, 4, (some .int), 1, 25)
set_option maxRecDepth 100000 in
theorem ok_M_set : m_ok md_M_set := ⟨List.mem_of_getElem? (i := 1076) (by decide +kernel), by decide +kernel, List.mem_of_getElem? (i := 64) (by decide +kernel), by decide +kernel⟩
theorem mv_M_set : Cond.instanceMethod (m_y md_M_set) ∈ lw_tbl ∧ Cond.selects (m_y md_M_set).cls (m_y md_M_set) (m_y md_M_set) ∈ lw_tbl := ⟨List.mem_of_getElem? (i := 1074) (by decide +kernel), List.mem_of_getElem? (i := 1075) (by decide +kernel)⟩
def f_M_set (p1 : Int32) (p2 : Int32) (a : aT) : Option (Int32 × aT) :=
  if (f_M_in p1.toInt64 0 5) = 0 then
    some ((-2), a)
  else
    if (f_M_in p2.toInt64 0 (f_M_most p1).toInt64) = 0 then
      some ((-2), a)
    else
      if inb p1 6 then
        if inb p1 6 then
          some ((a 42 (ix p1)), (upA a 42 (ix p1) p2))
        else none
      else none
set_option maxHeartbeats 4000000 in
set_option maxRecDepth 100000 in
theorem x_M_set (E : eT) (p1 : Int32) (p2 : Int32) (a : aT) : XI qI E md_M_set 0 [.ref 31, .int p1, .int p2, .null] [] a (f_M_set p1 p2 a) := by
  refine XI_go (pc' := 6) (ls' := [.ref 31, .int p1, .int p2, .null]) (st' := [.long 5, .long 0, .long p1.toInt64]) (a' := a) [(.iload_n 1, 1, 1, .null), (.i2l, 1, 0, .null), (.lconst 0, 1, 0, .long 0), (.ldc2_w 140, 3, 0, .long 5)] (by decide +kernel) rfl ?_
  refine XI_ST (As := [.long p1.toInt64, .long 0, .long 5]) (rest := []) (idx := 74) (by decide +kernel) ok_M_in mv_M_in (n := 3) ⟨lk_M_74, by decide +kernel⟩ rfl (Nat.le_of_ble_eq_true rfl) (Nat.le_of_ble_eq_true rfl) (qZ_h rfl) (x_M_in E p1.toInt64 0 5 a) ?_
  refine XI_br (c := (f_M_in p1.toInt64 0 5) = 0) (t := 26) (e := 12) (ls' := [.ref 31, .int p1, .int p2, .null]) (st' := []) (a' := a) [(.ifCond .eq 17, 3, 26, .null)] (by decide +kernel) rfl ?_ ?_
  · refine XI_go (pc' := 28) (ls' := [.ref 31, .int p1, .int p2, .null]) (st' := [.int (-2)]) (a' := a) [(.bipush (-2), 2, 0, .int (-2))] (by decide +kernel) rfl ?_
    exact XI_retI (by decide +kernel)
  · refine XI_go (pc' := 16) (ls' := [.ref 31, .int p1, .int p2, .null]) (st' := [.int p1, .long 0, .long p2.toInt64]) (a' := a) [(.iload_n 2, 1, 2, .null), (.i2l, 1, 0, .null), (.lconst 0, 1, 0, .long 0), (.iload_n 1, 1, 1, .null)] (by decide +kernel) rfl ?_
    refine XI_ST (As := [.int p1]) (rest := [.long 0, .long p2.toInt64]) (idx := 142) (by decide +kernel) ok_M_most mv_M_most (n := 1) ⟨lk_M_142, by decide +kernel⟩ rfl (Nat.le_of_ble_eq_true rfl) (Nat.le_of_ble_eq_true rfl) (qI_h rfl) (x_M_most E p1 a) ?_
    refine XI_go (pc' := 20) (ls' := [.ref 31, .int p1, .int p2, .null]) (st' := [.long (f_M_most p1).toInt64, .long 0, .long p2.toInt64]) (a' := a) [(.i2l, 1, 0, .null)] (by decide +kernel) rfl ?_
    refine XI_ST (As := [.long p2.toInt64, .long 0, .long (f_M_most p1).toInt64]) (rest := []) (idx := 74) (by decide +kernel) ok_M_in mv_M_in (n := 3) ⟨lk_M_74, by decide +kernel⟩ rfl (Nat.le_of_ble_eq_true rfl) (Nat.le_of_ble_eq_true rfl) (qZ_h rfl) (x_M_in E p2.toInt64 0 (f_M_most p1).toInt64 a) ?_
    refine XI_br (c := (f_M_in p2.toInt64 0 (f_M_most p1).toInt64) = 0) (t := 26) (e := 29) (ls' := [.ref 31, .int p1, .int p2, .null]) (st' := []) (a' := a) [(.ifCond .ne 6, 3, 29, .null)] (by decide +kernel) rfl ?_ ?_
    · refine XI_go (pc' := 28) (ls' := [.ref 31, .int p1, .int p2, .null]) (st' := [.int (-2)]) (a' := a) [(.bipush (-2), 2, 0, .int (-2))] (by decide +kernel) rfl ?_
      exact XI_retI (by decide +kernel)
    · refine XI_ck (c := inb p1 6) (pc' := 35) (ls' := [.ref 31, .int p1, .int p2, .null]) (st' := [.int (a 42 (ix p1))]) (a' := a) [(.aload_n 0, 1, 0, .null), (.getfield 41, 3, 1115, .null), (.iload_n 1, 1, 1, .null), (.iaload, 1, 0, .null)] (by decide +kernel) rfl ?_
      refine XI_ck (c := inb p1 6) (pc' := 43) (ls' := [.ref 31, .int p1, .int p2, .int (a 42 (ix p1))]) (st' := []) (a' := (upA a 42 (ix p1) p2)) [(.istore_n 3, 1, 3, .null), (.aload_n 0, 1, 0, .null), (.getfield 41, 3, 1115, .null), (.iload_n 1, 1, 1, .null), (.iload_n 2, 1, 2, .null), (.iastore, 1, 0, .null)] (by decide +kernel) rfl ?_
      refine XI_go (pc' := 44) (ls' := [.ref 31, .int p1, .int p2, .int (a 42 (ix p1))]) (st' := [.int (a 42 (ix p1))]) (a' := (upA a 42 (ix p1) p2)) [(.iload_n 3, 1, 3, .null)] (by decide +kernel) rfl ?_
      exact XI_retI (by decide +kernel)
/-! ChestnutSticks$Rules.changeSeed(I)I -/
def md_R_changeSeed : md_T := (yX2_changeSeed, cX2_changeSeed, 3, (some .int), 0, 0)
set_option maxRecDepth 100000 in
theorem ok_R_changeSeed : m_ok md_R_changeSeed := ⟨List.mem_of_getElem? (i := 378) (by decide +kernel), by decide +kernel, List.mem_of_getElem? (i := 56) (by decide +kernel), by decide +kernel⟩
theorem mv_R_changeSeed : Cond.instanceMethod (m_y md_R_changeSeed) ∈ lw_tbl ∧ Cond.selects (m_y md_R_changeSeed).cls (m_y md_R_changeSeed) (m_y md_R_changeSeed) ∈ lw_tbl := ⟨List.mem_of_getElem? (i := 376) (by decide +kernel), List.mem_of_getElem? (i := 377) (by decide +kernel)⟩
def f_R_changeSeed (p1 : Int32) (a : aT) : Option (Int32 × aT) :=
  some ((a 6 1), (upA a 6 1 p1))
set_option maxHeartbeats 4000000 in
set_option maxRecDepth 100000 in
theorem x_R_changeSeed (E : eT) (p1 : Int32) (a : aT) : XI qI E md_R_changeSeed 0 [.ref 6, .int p1, .null] [] a (f_R_changeSeed p1 a) := by
  refine XI_go (pc' := 11) (ls' := [.ref 6, .int p1, .int (a 6 1)]) (st' := [.int (a 6 1)]) (a' := (upA a 6 1 p1)) [(.aload_n 0, 1, 0, .null), (.getfield 15, 3, 201, .null), (.istore_n 2, 1, 2, .null), (.aload_n 0, 1, 0, .null), (.iload_n 1, 1, 1, .null), (.putfield 15, 3, 201, .int 0), (.iload_n 2, 1, 2, .null)] (by decide +kernel) rfl ?_
  exact XI_retI (by decide +kernel)
/-! ChestnutSticks.seed(I)I -/
def md_C_seed : md_T := (yX10_seed, cX10_seed, 2, (some .int), 1, 22)
set_option maxRecDepth 100000 in
theorem ok_C_seed : m_ok md_C_seed := ⟨List.mem_of_getElem? (i := 374) (by decide +kernel), by decide +kernel, List.mem_of_getElem? (i := 53) (by decide +kernel), by decide +kernel⟩
theorem mv_C_seed : Cond.instanceMethod (m_y md_C_seed) ∈ lw_tbl ∧ Cond.selects (m_y md_C_seed).cls (m_y md_C_seed) (m_y md_C_seed) ∈ lw_tbl := ⟨List.mem_of_getElem? (i := 372) (by decide +kernel), List.mem_of_getElem? (i := 373) (by decide +kernel)⟩
def f_C_seed (p1 : Int32) (a : aT) : Option (Int32 × aT) :=
  (f_R_changeSeed p1 a).bind fun q1 =>
    some ((i_ushr q1.1 16), q1.2)
set_option maxHeartbeats 4000000 in
set_option maxRecDepth 100000 in
theorem x_C_seed (E : eT) (p1 : Int32) (a : aT) : XI qI E md_C_seed 0 [.ref 0, .int p1] [] a (f_C_seed p1 a) := by
  refine XI_go (pc' := 5) (ls' := [.ref 0, .int p1]) (st' := [.int p1, .ref 6]) (a' := a) [(.aload_n 0, 1, 0, .null), (.getfield 26, 3, 1002, .null), (.iload_n 1, 1, 1, .null)] (by decide +kernel) rfl ?_
  refine XI_VI (As := [.int p1]) (rest := []) (b := 6) (idx := 104) (by decide +kernel) ok_R_changeSeed mv_R_changeSeed (n := 1) ⟨lk_C_104, by decide +kernel⟩ rfl rfl rfl rfl (Nat.le_of_ble_eq_true rfl) (Nat.le_of_ble_eq_true rfl) (qI_h rfl) (x_R_changeSeed E p1 a) (fun q1 => ?_)
  refine XI_go (pc' := 11) (ls' := [.ref 0, .int p1]) (st' := [.int (i_ushr q1.1 16)]) (a' := q1.2) [(.bipush 16, 2, 0, .int 16), (.iushr, 1, 0, .null)] (by decide +kernel) rfl ?_
  exact XI_retI (by decide +kernel)
/-! ChestnutSticksModel.seed(I)I -/
def md_M_seed : md_T := (yX11_seed, cX11_seed, 3, (some .int), 0, 0)
set_option maxRecDepth 100000 in
theorem ok_M_seed : m_ok md_M_seed := ⟨List.mem_of_getElem? (i := 1084) (by decide +kernel), by decide +kernel, List.mem_of_getElem? (i := 64) (by decide +kernel), by decide +kernel⟩
theorem mv_M_seed : Cond.instanceMethod (m_y md_M_seed) ∈ lw_tbl ∧ Cond.selects (m_y md_M_seed).cls (m_y md_M_seed) (m_y md_M_seed) ∈ lw_tbl := ⟨List.mem_of_getElem? (i := 1082) (by decide +kernel), List.mem_of_getElem? (i := 1083) (by decide +kernel)⟩
def f_M_seed (p1 : Int32) (a : aT) : Option (Int32 × aT) :=
  some ((i_ushr (a 31 16) 16), (upA a 31 16 p1))
set_option maxHeartbeats 4000000 in
set_option maxRecDepth 100000 in
theorem x_M_seed (E : eT) (p1 : Int32) (a : aT) : XI qI E md_M_seed 0 [.ref 31, .int p1, .null] [] a (f_M_seed p1 a) := by
  refine XI_go (pc' := 14) (ls' := [.ref 31, .int p1, .int (i_ushr (a 31 16) 16)]) (st' := [.int (i_ushr (a 31 16) 16)]) (a' := (upA a 31 16 p1)) [(.aload_n 0, 1, 0, .null), (.getfield 68, 3, 1116, .null), (.bipush 16, 2, 0, .int 16), (.iushr, 1, 0, .null), (.istore_n 2, 1, 2, .null), (.aload_n 0, 1, 0, .null), (.iload_n 1, 1, 1, .null), (.putfield 68, 3, 1116, .int 0), (.iload_n 2, 1, 2, .null)] (by decide +kernel) rfl ?_
  exact XI_retI (by decide +kernel)
/-! ChestnutSticks$Kids.place(II)I -/
def md_K_place : md_T := (yX0_place, cX0_place, 4, (some .int), 1, 21)
set_option maxRecDepth 100000 in
theorem ok_K_place : m_ok md_K_place := ⟨List.mem_of_getElem? (i := 386) (by decide +kernel), by decide +kernel, List.mem_of_getElem? (i := 57) (by decide +kernel), by decide +kernel⟩
theorem mv_K_place : Cond.instanceMethod (m_y md_K_place) ∈ lw_tbl ∧ Cond.selects (m_y md_K_place).cls (m_y md_K_place) (m_y md_K_place) ∈ lw_tbl := ⟨List.mem_of_getElem? (i := 384) (by decide +kernel), List.mem_of_getElem? (i := 385) (by decide +kernel)⟩
def f_K_place (p1 : Int32) (p2 : Int32) (a : aT) : Option (Int32 × aT) :=
  if (f_C_isBelow p1 4) = 0 then
    some ((-2), a)
  else
    if (f_C_isBelow p2 8) = 0 then
      some ((-2), a)
    else
      if inb p1 4 then
        if inb p1 4 then
          some ((a 9 (ix p1)), (upA a 9 (ix p1) p2))
        else none
      else none
set_option maxHeartbeats 4000000 in
set_option maxRecDepth 100000 in
theorem x_K_place (E : eT) (p1 : Int32) (p2 : Int32) (a : aT) : XI qI E md_K_place 0 [.ref 8, .int p1, .int p2, .null] [] a (f_K_place p1 p2 a) := by
  refine XI_go (pc' := 2) (ls' := [.ref 8, .int p1, .int p2, .null]) (st' := [.int 4, .int p1]) (a' := a) [(.iload_n 1, 1, 1, .null), (.iconst 4, 1, 0, .int 4)] (by decide +kernel) rfl ?_
  refine XI_SNT (As := [.int p1, .int 4]) (rest := []) (idx := 15) (by decide +kernel) ok_C_isBelow mv_C_isBelow (n := 2) ⟨lk_K_15, by decide +kernel⟩ rfl (Nat.le_of_ble_eq_true rfl) (Nat.le_of_ble_eq_true rfl) (qZ_h rfl) (x_C_isBelow E p1 4 a) ?_
  refine XI_br (c := (f_C_isBelow p1 4) = 0) (t := 17) (e := 8) (ls' := [.ref 8, .int p1, .int p2, .null]) (st' := []) (a' := a) [(.ifCond .eq 12, 3, 17, .null)] (by decide +kernel) rfl ?_ ?_
  · refine XI_go (pc' := 19) (ls' := [.ref 8, .int p1, .int p2, .null]) (st' := [.int (-2)]) (a' := a) [(.bipush (-2), 2, 0, .int (-2))] (by decide +kernel) rfl ?_
    exact XI_retI (by decide +kernel)
  · refine XI_go (pc' := 11) (ls' := [.ref 8, .int p1, .int p2, .null]) (st' := [.int 8, .int p2]) (a' := a) [(.iload_n 2, 1, 2, .null), (.bipush 8, 2, 0, .int 8)] (by decide +kernel) rfl ?_
    refine XI_SNT (As := [.int p2, .int 8]) (rest := []) (idx := 15) (by decide +kernel) ok_C_isBelow mv_C_isBelow (n := 2) ⟨lk_K_15, by decide +kernel⟩ rfl (Nat.le_of_ble_eq_true rfl) (Nat.le_of_ble_eq_true rfl) (qZ_h rfl) (x_C_isBelow E p2 8 a) ?_
    refine XI_br (c := (f_C_isBelow p2 8) = 0) (t := 17) (e := 20) (ls' := [.ref 8, .int p1, .int p2, .null]) (st' := []) (a' := a) [(.ifCond .ne 6, 3, 20, .null)] (by decide +kernel) rfl ?_ ?_
    · refine XI_go (pc' := 19) (ls' := [.ref 8, .int p1, .int p2, .null]) (st' := [.int (-2)]) (a' := a) [(.bipush (-2), 2, 0, .int (-2))] (by decide +kernel) rfl ?_
      exact XI_retI (by decide +kernel)
    · refine XI_ck (c := inb p1 4) (pc' := 26) (ls' := [.ref 8, .int p1, .int p2, .null]) (st' := [.int (a 9 (ix p1))]) (a' := a) [(.aload_n 0, 1, 0, .null), (.getfield 9, 3, 0, .null), (.iload_n 1, 1, 1, .null), (.iaload, 1, 0, .null)] (by decide +kernel) rfl ?_
      refine XI_ck (c := inb p1 4) (pc' := 34) (ls' := [.ref 8, .int p1, .int p2, .int (a 9 (ix p1))]) (st' := []) (a' := (upA a 9 (ix p1) p2)) [(.istore_n 3, 1, 3, .null), (.aload_n 0, 1, 0, .null), (.getfield 9, 3, 0, .null), (.iload_n 1, 1, 1, .null), (.iload_n 2, 1, 2, .null), (.iastore, 1, 0, .null)] (by decide +kernel) rfl ?_
      refine XI_go (pc' := 35) (ls' := [.ref 8, .int p1, .int p2, .int (a 9 (ix p1))]) (st' := [.int (a 9 (ix p1))]) (a' := (upA a 9 (ix p1) p2)) [(.iload_n 3, 1, 3, .null)] (by decide +kernel) rfl ?_
      exact XI_retI (by decide +kernel)
/-! ChestnutSticks.stands(II)I -/
def md_C_stands : md_T := (yX10_stands, cX10_stands, 3, (some .int), 2, 44)
set_option maxRecDepth 100000 in
theorem ok_C_stands : m_ok md_C_stands := ⟨List.mem_of_getElem? (i := 382) (by decide +kernel), by decide +kernel, List.mem_of_getElem? (i := 53) (by decide +kernel), by decide +kernel⟩
theorem mv_C_stands : Cond.instanceMethod (m_y md_C_stands) ∈ lw_tbl ∧ Cond.selects (m_y md_C_stands).cls (m_y md_C_stands) (m_y md_C_stands) ∈ lw_tbl := ⟨List.mem_of_getElem? (i := 380) (by decide +kernel), List.mem_of_getElem? (i := 381) (by decide +kernel)⟩
def f_C_stands (p1 : Int32) (p2 : Int32) (a : aT) : Option (Int32 × aT) :=
  (f_K_place p1 p2 a).bind fun q1 =>
    some (q1.1, q1.2)
set_option maxHeartbeats 4000000 in
set_option maxRecDepth 100000 in
theorem x_C_stands (E : eT) (p1 : Int32) (p2 : Int32) (a : aT) : XI qI E md_C_stands 0 [.ref 0, .int p1, .int p2] [] a (f_C_stands p1 p2 a) := by
  refine XI_go (pc' := 6) (ls' := [.ref 0, .int p1, .int p2]) (st' := [.int p2, .int p1, .ref 8]) (a' := a) [(.aload_n 0, 1, 0, .null), (.getfield 33, 3, 1003, .null), (.iload_n 1, 1, 1, .null), (.iload_n 2, 1, 2, .null)] (by decide +kernel) rfl ?_
  refine XI_VI (As := [.int p1, .int p2]) (rest := []) (b := 8) (idx := 107) (by decide +kernel) ok_K_place mv_K_place (n := 2) ⟨lk_C_107, by decide +kernel⟩ rfl rfl rfl rfl (Nat.le_of_ble_eq_true rfl) (Nat.le_of_ble_eq_true rfl) (qI_h rfl) (x_K_place E p1 p2 a) (fun q1 => ?_)
  exact XI_retI (by decide +kernel)
/-! ChestnutSticksModel.stands(II)I -/
def md_M_stands : md_T := (yX11_stands, cX11_stands, 4, (some .int), 2, 45)
set_option maxRecDepth 100000 in
theorem ok_M_stands : m_ok md_M_stands := ⟨List.mem_of_getElem? (i := 1088) (by decide +kernel), by decide +kernel, List.mem_of_getElem? (i := 64) (by decide +kernel), by decide +kernel⟩
theorem mv_M_stands : Cond.instanceMethod (m_y md_M_stands) ∈ lw_tbl ∧ Cond.selects (m_y md_M_stands).cls (m_y md_M_stands) (m_y md_M_stands) ∈ lw_tbl := ⟨List.mem_of_getElem? (i := 1086) (by decide +kernel), List.mem_of_getElem? (i := 1087) (by decide +kernel)⟩
def f_M_stands (p1 : Int32) (p2 : Int32) (a : aT) : Option (Int32 × aT) :=
  if (f_M_isFour p1) = 0 then
    some ((-2), a)
  else
    if (f_M_in p2.toInt64 0 7) = 0 then
      some ((-2), a)
    else
      if inb p1 4 then
        if inb p1 4 then
          some ((a 43 (ix p1)), (upA a 43 (ix p1) p2))
        else none
      else none
set_option maxHeartbeats 4000000 in
set_option maxRecDepth 100000 in
theorem x_M_stands (E : eT) (p1 : Int32) (p2 : Int32) (a : aT) : XI qI E md_M_stands 0 [.ref 31, .int p1, .int p2, .null] [] a (f_M_stands p1 p2 a) := by
  refine XI_go (pc' := 1) (ls' := [.ref 31, .int p1, .int p2, .null]) (st' := [.int p1]) (a' := a) [(.iload_n 1, 1, 1, .null)] (by decide +kernel) rfl ?_
  refine XI_ST (As := [.int p1]) (rest := []) (idx := 133) (by decide +kernel) ok_M_isFour mv_M_isFour (n := 1) ⟨lk_M_133, by decide +kernel⟩ rfl (Nat.le_of_ble_eq_true rfl) (Nat.le_of_ble_eq_true rfl) (qZ_h rfl) (x_M_isFour E p1 a) ?_
  refine XI_br (c := (f_M_isFour p1) = 0) (t := 19) (e := 7) (ls' := [.ref 31, .int p1, .int p2, .null]) (st' := []) (a' := a) [(.ifCond .eq 15, 3, 19, .null)] (by decide +kernel) rfl ?_ ?_
  · refine XI_go (pc' := 21) (ls' := [.ref 31, .int p1, .int p2, .null]) (st' := [.int (-2)]) (a' := a) [(.bipush (-2), 2, 0, .int (-2))] (by decide +kernel) rfl ?_
    exact XI_retI (by decide +kernel)
  · refine XI_go (pc' := 13) (ls' := [.ref 31, .int p1, .int p2, .null]) (st' := [.long 7, .long 0, .long p2.toInt64]) (a' := a) [(.iload_n 2, 1, 2, .null), (.i2l, 1, 0, .null), (.lconst 0, 1, 0, .long 0), (.ldc2_w 145, 3, 0, .long 7)] (by decide +kernel) rfl ?_
    refine XI_ST (As := [.long p2.toInt64, .long 0, .long 7]) (rest := []) (idx := 74) (by decide +kernel) ok_M_in mv_M_in (n := 3) ⟨lk_M_74, by decide +kernel⟩ rfl (Nat.le_of_ble_eq_true rfl) (Nat.le_of_ble_eq_true rfl) (qZ_h rfl) (x_M_in E p2.toInt64 0 7 a) ?_
    refine XI_br (c := (f_M_in p2.toInt64 0 7) = 0) (t := 19) (e := 22) (ls' := [.ref 31, .int p1, .int p2, .null]) (st' := []) (a' := a) [(.ifCond .ne 6, 3, 22, .null)] (by decide +kernel) rfl ?_ ?_
    · refine XI_go (pc' := 21) (ls' := [.ref 31, .int p1, .int p2, .null]) (st' := [.int (-2)]) (a' := a) [(.bipush (-2), 2, 0, .int (-2))] (by decide +kernel) rfl ?_
      exact XI_retI (by decide +kernel)
    · refine XI_ck (c := inb p1 4) (pc' := 28) (ls' := [.ref 31, .int p1, .int p2, .null]) (st' := [.int (a 43 (ix p1))]) (a' := a) [(.aload_n 0, 1, 0, .null), (.getfield 44, 3, 1117, .null), (.iload_n 1, 1, 1, .null), (.iaload, 1, 0, .null)] (by decide +kernel) rfl ?_
      refine XI_ck (c := inb p1 4) (pc' := 36) (ls' := [.ref 31, .int p1, .int p2, .int (a 43 (ix p1))]) (st' := []) (a' := (upA a 43 (ix p1) p2)) [(.istore_n 3, 1, 3, .null), (.aload_n 0, 1, 0, .null), (.getfield 44, 3, 1117, .null), (.iload_n 1, 1, 1, .null), (.iload_n 2, 1, 2, .null), (.iastore, 1, 0, .null)] (by decide +kernel) rfl ?_
      refine XI_go (pc' := 37) (ls' := [.ref 31, .int p1, .int p2, .int (a 43 (ix p1))]) (st' := [.int (a 43 (ix p1))]) (a' := (upA a 43 (ix p1) p2)) [(.iload_n 3, 1, 3, .null)] (by decide +kernel) rfl ?_
      exact XI_retI (by decide +kernel)
/-! ChestnutSticks$Sheets.formOf(I)I -/
def md_H_formOf : md_T := (yX4_formOf, cX4_formOf, 2, (some .int), 1, 21)
set_option maxRecDepth 100000 in
theorem ok_H_formOf : m_ok md_H_formOf := ⟨List.mem_of_getElem? (i := 400) (by decide +kernel), by decide +kernel, List.mem_of_getElem? (i := 63) (by decide +kernel), by decide +kernel⟩
theorem mv_H_formOf : Cond.instanceMethod (m_y md_H_formOf) ∈ lw_tbl ∧ Cond.selects (m_y md_H_formOf).cls (m_y md_H_formOf) (m_y md_H_formOf) ∈ lw_tbl := ⟨List.mem_of_getElem? (i := 398) (by decide +kernel), List.mem_of_getElem? (i := 399) (by decide +kernel)⟩
def f_H_formOf (p1 : Int32) (a : aT) : Option Int32 :=
  if (f_C_isBelow p1 4) = 0 then
    some (-1)
  else
    if inb p1 4 then
      some (a 28 (ix p1))
    else none
set_option maxHeartbeats 4000000 in
set_option maxRecDepth 100000 in
theorem x_H_formOf (E : eT) (p1 : Int32) (a : aT) : XP qI E md_H_formOf 0 [.ref 27, .int p1] [] a (f_H_formOf p1 a) := by
  refine XP_go (pc' := 2) (ls' := [.ref 27, .int p1]) (st' := [.int 4, .int p1]) (a' := a) [(.iload_n 1, 1, 1, .null), (.iconst 4, 1, 0, .int 4)] (by decide +kernel) rfl ?_
  refine XP_SNT (As := [.int p1, .int 4]) (rest := []) (idx := 29) (by decide +kernel) ok_C_isBelow mv_C_isBelow (n := 2) ⟨lk_H_29, by decide +kernel⟩ rfl (Nat.le_of_ble_eq_true rfl) (Nat.le_of_ble_eq_true rfl) (qZ_h rfl) (x_C_isBelow E p1 4 a) ?_
  refine XP_br (c := (f_C_isBelow p1 4) = 0) (t := 17) (e := 8) (ls' := [.ref 27, .int p1]) (st' := []) (a' := a) [(.ifCond .eq 12, 3, 17, .null)] (by decide +kernel) rfl ?_ ?_
  · refine XP_go (pc' := 18) (ls' := [.ref 27, .int p1]) (st' := [.int (-1)]) (a' := a) [(.iconst (-1), 1, 0, .int (-1))] (by decide +kernel) rfl ?_
    exact XP_retI (by decide +kernel)
  · refine XP_ck (c := inb p1 4) (pc' := 14) (ls' := [.ref 27, .int p1]) (st' := [.int (a 28 (ix p1))]) (a' := a) [(.aload_n 0, 1, 0, .null), (.getfield 9, 3, 400, .null), (.iload_n 1, 1, 1, .null), (.iaload, 1, 0, .null)] (by decide +kernel) rfl ?_
    refine XP_go (pc' := 18) (ls' := [.ref 27, .int p1]) (st' := [.int (a 28 (ix p1))]) (a' := a) [(.goto 4, 3, 18, .null)] (by decide +kernel) rfl ?_
    exact XP_retI (by decide +kernel)
/-! ChestnutSticks$Sheets.isLost(I)Z -/
def md_H_isLost : md_T := (yX4_isLost, cX4_isLost, 2, (some .boolean), 2, 42)
set_option maxRecDepth 100000 in
theorem ok_H_isLost : m_ok md_H_isLost := ⟨List.mem_of_getElem? (i := 396) (by decide +kernel), by decide +kernel, List.mem_of_getElem? (i := 63) (by decide +kernel), by decide +kernel⟩
theorem mv_H_isLost : Cond.instanceMethod (m_y md_H_isLost) ∈ lw_tbl ∧ Cond.selects (m_y md_H_isLost).cls (m_y md_H_isLost) (m_y md_H_isLost) ∈ lw_tbl := ⟨List.mem_of_getElem? (i := 394) (by decide +kernel), List.mem_of_getElem? (i := 395) (by decide +kernel)⟩
def f_H_isLost (p1 : Int32) (a : aT) : Option Int32 :=
  (f_H_formOf p1 a).bind fun q1 =>
    if q1 = (-1) then
      some 1
    else
      some 0
set_option maxHeartbeats 4000000 in
set_option maxRecDepth 100000 in
theorem x_H_isLost (E : eT) (p1 : Int32) (a : aT) : XP qZ E md_H_isLost 0 [.ref 27, .int p1] [] a (f_H_isLost p1 a) := by
  refine XP_go (pc' := 2) (ls' := [.ref 27, .int p1]) (st' := [.int p1, .ref 27]) (a' := a) [(.aload_n 0, 1, 0, .null), (.iload_n 1, 1, 1, .null)] (by decide +kernel) rfl ?_
  refine XP_VP (As := [.int p1]) (rest := []) (b := 27) (idx := 25) (by decide +kernel) ok_H_formOf mv_H_formOf (n := 1) ⟨lk_H_25, by decide +kernel⟩ rfl rfl rfl rfl (Nat.le_of_ble_eq_true rfl) (Nat.le_of_ble_eq_true rfl) (qI_h rfl) (x_H_formOf E p1 a) (fun q1 => ?_)
  refine XP_br (c := q1 = (-1)) (t := 9) (e := 13) (ls' := [.ref 27, .int p1]) (st' := []) (a' := a) [(.iconst (-1), 1, 0, .int (-1)), (.if_icmp .ne 7, 3, 13, .null)] (by decide +kernel) rfl ?_ ?_
  · refine XP_go (pc' := 14) (ls' := [.ref 27, .int p1]) (st' := [.int 1]) (a' := a) [(.iconst 1, 1, 0, .int 1), (.goto 4, 3, 14, .null)] (by decide +kernel) rfl ?_
    exact XP_retZ (by decide +kernel) rfl
  · refine XP_go (pc' := 14) (ls' := [.ref 27, .int p1]) (st' := [.int 0]) (a' := a) [(.iconst 0, 1, 0, .int 0)] (by decide +kernel) rfl ?_
    exact XP_retZ (by decide +kernel) rfl
/-! ChestnutSticks$Sheets.find(I)I -/
def md_H_find : md_T := (yX4_find, cX4_find, 2, (some .int), 0, 0)
set_option maxRecDepth 100000 in
theorem ok_H_find : m_ok md_H_find := ⟨List.mem_of_getElem? (i := 405) (by decide +kernel), by decide +kernel, List.mem_of_getElem? (i := 63) (by decide +kernel), by decide +kernel⟩
theorem mv_H_find : Cond.instanceMethod (m_y md_H_find) ∈ lw_tbl ∧ Cond.selects (m_y md_H_find).cls (m_y md_H_find) (m_y md_H_find) ∈ lw_tbl := ⟨List.mem_of_getElem? (i := 403) (by decide +kernel), List.mem_of_getElem? (i := 404) (by decide +kernel)⟩
def f_H_find (p1 : Int32) (a : aT) : Option (Int32 × aT) :=
  some (((-10) - p1), (upA a 27 3 p1))
set_option maxHeartbeats 4000000 in
set_option maxRecDepth 100000 in
theorem x_H_find (E : eT) (p1 : Int32) (a : aT) : XI qI E md_H_find 0 [.ref 27, .int p1] [] a (f_H_find p1 a) := by
  refine XI_go (pc' := 9) (ls' := [.ref 27, .int p1]) (st' := [.int ((-10) - p1)]) (a' := (upA a 27 3 p1)) [(.aload_n 0, 1, 0, .null), (.iload_n 1, 1, 1, .null), (.putfield 21, 3, 403, .int 0), (.bipush (-10), 2, 0, .int (-10)), (.iload_n 1, 1, 1, .null), (.isub, 1, 0, .null)] (by decide +kernel) rfl ?_
  exact XI_retI (by decide +kernel)
/-! ChestnutSticks$Sheets.sizeOf(I)I -/
def md_H_sizeOf : md_T := (yX4_sizeOf, cX4_sizeOf, 2, (some .int), 1, 21)
set_option maxRecDepth 100000 in
theorem ok_H_sizeOf : m_ok md_H_sizeOf := ⟨List.mem_of_getElem? (i := 409) (by decide +kernel), by decide +kernel, List.mem_of_getElem? (i := 63) (by decide +kernel), by decide +kernel⟩
theorem mv_H_sizeOf : Cond.instanceMethod (m_y md_H_sizeOf) ∈ lw_tbl ∧ Cond.selects (m_y md_H_sizeOf).cls (m_y md_H_sizeOf) (m_y md_H_sizeOf) ∈ lw_tbl := ⟨List.mem_of_getElem? (i := 407) (by decide +kernel), List.mem_of_getElem? (i := 408) (by decide +kernel)⟩
def f_H_sizeOf (p1 : Int32) (a : aT) : Option Int32 :=
  if (f_C_isBelow p1 4) = 0 then
    some 0
  else
    if inb p1 4 then
      some (a 29 (ix p1))
    else none
set_option maxHeartbeats 4000000 in
set_option maxRecDepth 100000 in
theorem x_H_sizeOf (E : eT) (p1 : Int32) (a : aT) : XP qI E md_H_sizeOf 0 [.ref 27, .int p1] [] a (f_H_sizeOf p1 a) := by
  refine XP_go (pc' := 2) (ls' := [.ref 27, .int p1]) (st' := [.int 4, .int p1]) (a' := a) [(.iload_n 1, 1, 1, .null), (.iconst 4, 1, 0, .int 4)] (by decide +kernel) rfl ?_
  refine XP_SNT (As := [.int p1, .int 4]) (rest := []) (idx := 29) (by decide +kernel) ok_C_isBelow mv_C_isBelow (n := 2) ⟨lk_H_29, by decide +kernel⟩ rfl (Nat.le_of_ble_eq_true rfl) (Nat.le_of_ble_eq_true rfl) (qZ_h rfl) (x_C_isBelow E p1 4 a) ?_
  refine XP_br (c := (f_C_isBelow p1 4) = 0) (t := 17) (e := 8) (ls' := [.ref 27, .int p1]) (st' := []) (a' := a) [(.ifCond .eq 12, 3, 17, .null)] (by decide +kernel) rfl ?_ ?_
  · refine XP_go (pc' := 18) (ls' := [.ref 27, .int p1]) (st' := [.int 0]) (a' := a) [(.iconst 0, 1, 0, .int 0)] (by decide +kernel) rfl ?_
    exact XP_retI (by decide +kernel)
  · refine XP_ck (c := inb p1 4) (pc' := 14) (ls' := [.ref 27, .int p1]) (st' := [.int (a 29 (ix p1))]) (a' := a) [(.aload_n 0, 1, 0, .null), (.getfield 15, 3, 401, .null), (.iload_n 1, 1, 1, .null), (.iaload, 1, 0, .null)] (by decide +kernel) rfl ?_
    refine XP_go (pc' := 18) (ls' := [.ref 27, .int p1]) (st' := [.int (a 29 (ix p1))]) (a' := a) [(.goto 4, 3, 18, .null)] (by decide +kernel) rfl ?_
    exact XP_retI (by decide +kernel)
/-! java/lang/Math.min(II)I -/
def md_J_min : md_T := (yJ9_min_7cf53, cJ9_min_7cf53, 2, (some .int), 0, 0)
set_option maxRecDepth 100000 in
theorem ok_J_min : m_ok md_J_min := ⟨List.mem_of_getElem? (i := 412) (by decide +kernel), by decide +kernel, List.mem_of_getElem? (i := 65) (by decide +kernel), by decide +kernel⟩
theorem mv_J_min : Cond.static (m_y md_J_min) ∈ lw_tbl := List.mem_of_getElem? (i := 411) (by decide +kernel)
def f_J_min (p1 : Int32) (p2 : Int32) : Int32 :=
  if p2 < p1 then
    p2
  else
    p1
set_option maxHeartbeats 4000000 in
set_option maxRecDepth 100000 in
theorem x_J_min (E : eT) (p1 : Int32) (p2 : Int32) (a : aT) : XT qI E md_J_min 0 [.int p1, .int p2] [] a (f_J_min p1 p2) := by
  refine XT_br (c := p2 < p1) (t := 9) (e := 5) (ls' := [.int p1, .int p2]) (st' := []) (a' := a) [(.iload_n 0, 1, 0, .null), (.iload_n 1, 1, 1, .null), (.if_icmp .gt 7, 3, 9, .null)] (by decide +kernel) rfl ?_ ?_
  · refine XT_go (pc' := 10) (ls' := [.int p1, .int p2]) (st' := [.int p2]) (a' := a) [(.iload_n 1, 1, 1, .null)] (by decide +kernel) rfl ?_
    exact XT_retI (by decide +kernel)
  · refine XT_go (pc' := 10) (ls' := [.int p1, .int p2]) (st' := [.int p1]) (a' := a) [(.iload_n 0, 1, 0, .null), (.goto 4, 3, 10, .null)] (by decide +kernel) rfl ?_
    exact XT_retI (by decide +kernel)
/-! ChestnutSticks$Sheets.itemOf(II)I -/
def md_H_itemOf : md_T := (yX4_itemOf, cX4_itemOf, 3, (some .int), 1, 21)
set_option maxRecDepth 100000 in
theorem ok_H_itemOf : m_ok md_H_itemOf := ⟨List.mem_of_getElem? (i := 416) (by decide +kernel), by decide +kernel, List.mem_of_getElem? (i := 63) (by decide +kernel), by decide +kernel⟩
theorem mv_H_itemOf : Cond.instanceMethod (m_y md_H_itemOf) ∈ lw_tbl ∧ Cond.selects (m_y md_H_itemOf).cls (m_y md_H_itemOf) (m_y md_H_itemOf) ∈ lw_tbl := ⟨List.mem_of_getElem? (i := 414) (by decide +kernel), List.mem_of_getElem? (i := 415) (by decide +kernel)⟩
def f_H_itemOf (p1 : Int32) (p2 : Int32) (a : aT) : Option Int32 :=
  if (f_C_isBelow p1 4) = 0 then
    some 0
  else
    if (f_C_isBelow p2 60) = 0 then
      some 0
    else
      if inb ((60 * p1) + p2) 240 then
        some (a 30 (ix ((60 * p1) + p2)))
      else none
set_option maxHeartbeats 4000000 in
set_option maxRecDepth 100000 in
theorem x_H_itemOf (E : eT) (p1 : Int32) (p2 : Int32) (a : aT) : XP qI E md_H_itemOf 0 [.ref 27, .int p1, .int p2] [] a (f_H_itemOf p1 p2 a) := by
  refine XP_go (pc' := 2) (ls' := [.ref 27, .int p1, .int p2]) (st' := [.int 4, .int p1]) (a' := a) [(.iload_n 1, 1, 1, .null), (.iconst 4, 1, 0, .int 4)] (by decide +kernel) rfl ?_
  refine XP_SNT (As := [.int p1, .int 4]) (rest := []) (idx := 29) (by decide +kernel) ok_C_isBelow mv_C_isBelow (n := 2) ⟨lk_H_29, by decide +kernel⟩ rfl (Nat.le_of_ble_eq_true rfl) (Nat.le_of_ble_eq_true rfl) (qZ_h rfl) (x_C_isBelow E p1 4 a) ?_
  refine XP_br (c := (f_C_isBelow p1 4) = 0) (t := 31) (e := 8) (ls' := [.ref 27, .int p1, .int p2]) (st' := []) (a' := a) [(.ifCond .eq 26, 3, 31, .null)] (by decide +kernel) rfl ?_ ?_
  · refine XP_go (pc' := 32) (ls' := [.ref 27, .int p1, .int p2]) (st' := [.int 0]) (a' := a) [(.iconst 0, 1, 0, .int 0)] (by decide +kernel) rfl ?_
    exact XP_retI (by decide +kernel)
  · refine XP_go (pc' := 11) (ls' := [.ref 27, .int p1, .int p2]) (st' := [.int 60, .int p2]) (a' := a) [(.iload_n 2, 1, 2, .null), (.bipush 60, 2, 0, .int 60)] (by decide +kernel) rfl ?_
    refine XP_SNT (As := [.int p2, .int 60]) (rest := []) (idx := 29) (by decide +kernel) ok_C_isBelow mv_C_isBelow (n := 2) ⟨lk_H_29, by decide +kernel⟩ rfl (Nat.le_of_ble_eq_true rfl) (Nat.le_of_ble_eq_true rfl) (qZ_h rfl) (x_C_isBelow E p2 60 a) ?_
    refine XP_br (c := (f_C_isBelow p2 60) = 0) (t := 31) (e := 17) (ls' := [.ref 27, .int p1, .int p2]) (st' := []) (a' := a) [(.ifCond .eq 17, 3, 31, .null)] (by decide +kernel) rfl ?_ ?_
    · refine XP_go (pc' := 32) (ls' := [.ref 27, .int p1, .int p2]) (st' := [.int 0]) (a' := a) [(.iconst 0, 1, 0, .int 0)] (by decide +kernel) rfl ?_
      exact XP_retI (by decide +kernel)
    · refine XP_ck (c := inb ((60 * p1) + p2) 240) (pc' := 28) (ls' := [.ref 27, .int p1, .int p2]) (st' := [.int (a 30 (ix ((60 * p1) + p2)))]) (a' := a) [(.aload_n 0, 1, 0, .null), (.getfield 18, 3, 402, .null), (.bipush 60, 2, 0, .int 60), (.iload_n 1, 1, 1, .null), (.imul, 1, 0, .null), (.iload_n 2, 1, 2, .null), (.iadd, 1, 0, .null), (.iaload, 1, 0, .null)] (by decide +kernel) rfl ?_
      refine XP_go (pc' := 32) (ls' := [.ref 27, .int p1, .int p2]) (st' := [.int (a 30 (ix ((60 * p1) + p2)))]) (a' := a) [(.goto 4, 3, 32, .null)] (by decide +kernel) rfl ?_
      exact XP_retI (by decide +kernel)
/-! ChestnutSticks.read(I)I -/
def md_C_read : md_T := (yX10_read, cX10_read, 4, (some .int), 3, 63)
set_option maxRecDepth 100000 in
theorem ok_C_read : m_ok md_C_read := ⟨List.mem_of_getElem? (i := 391) (by decide +kernel), by decide +kernel, List.mem_of_getElem? (i := 53) (by decide +kernel), by decide +kernel⟩
theorem mv_C_read : Cond.instanceMethod (m_y md_C_read) ∈ lw_tbl ∧ Cond.selects (m_y md_C_read).cls (m_y md_C_read) (m_y md_C_read) ∈ lw_tbl := ⟨List.mem_of_getElem? (i := 389) (by decide +kernel), List.mem_of_getElem? (i := 390) (by decide +kernel)⟩
def f_C_read_46 (N : Nat) : Nat → Int32 → Int32 → Int32 → aT → Option (Int32 × aT)
  | 0 => fun _ _ _ _ => none
  | n + 1 => fun x1 x2 x3 a =>
    if x2 ≤ x3 then
      some (x3, a)
    else
      (f_H_itemOf x1 x3 a).bind fun q6 =>
        (f_K_place x3 q6 a).bind fun q7 =>
          if q7.1 = (-2) then
            some (x3, q7.2)
          else
            f_C_read_46 N n x1 x2 (x3 + 1) q7.2
def f_C_read (N : Nat) (p1 : Int32) (a : aT) : Option (Int32 × aT) :=
  if (f_C_isBelow p1 4) = 0 then
    some ((-2), a)
  else
    (f_H_isLost p1 a).bind fun q2 =>
      if q2 = 0 then
        (f_H_sizeOf p1 a).bind fun q3 =>
          f_C_read_46 N N p1 (f_J_min 4 q3) 0 a
      else
        (f_H_find 1 a).bind fun q5 =>
          some (q5.1, q5.2)
set_option maxHeartbeats 4000000 in
set_option maxRecDepth 100000 in
theorem x_C_read_46 (E : eT) (N : Nat) : ∀ (n : Nat) (x1 : Int32) (x2 : Int32) (x3 : Int32) (a : aT), XI qI E md_C_read 46 [.ref 0, .int x1, .int x2, .int x3] [] a (f_C_read_46 N n x1 x2 x3 a)
  | 0, _, _, _, _ => XI_no rfl
  | n + 1, x1, x2, x3, a => by
    refine XI_br (c := x2 ≤ x3) (t := 79) (e := 51) (ls' := [.ref 0, .int x1, .int x2, .int x3]) (st' := []) (a' := a) [(.iload_n 3, 1, 3, .null), (.iload_n 2, 1, 2, .null), (.if_icmp .ge 31, 3, 79, .null)] (by decide +kernel) rfl ?_ ?_
    · refine XI_go (pc' := 80) (ls' := [.ref 0, .int x1, .int x2, .int x3]) (st' := [.int x3]) (a' := a) [(.iload_n 3, 1, 3, .null)] (by decide +kernel) rfl ?_
      exact XI_retI (by decide +kernel)
    · refine XI_go (pc' := 62) (ls' := [.ref 0, .int x1, .int x2, .int x3]) (st' := [.int x3, .int x1, .ref 27, .int x3, .ref 8]) (a' := a) [(.aload_n 0, 1, 0, .null), (.getfield 33, 3, 1003, .null), (.iload_n 3, 1, 3, .null), (.aload_n 0, 1, 0, .null), (.getfield 79, 3, 1009, .null), (.iload_n 1, 1, 1, .null), (.iload_n 3, 1, 3, .null)] (by decide +kernel) rfl ?_
      refine XI_VP (As := [.int x1, .int x3]) (rest := [.int x3, .ref 8]) (b := 27) (idx := 129) (by decide +kernel) ok_H_itemOf mv_H_itemOf (n := 2) ⟨lk_C_129, by decide +kernel⟩ rfl rfl rfl rfl (Nat.le_of_ble_eq_true rfl) (Nat.le_of_ble_eq_true rfl) (qI_h rfl) (x_H_itemOf E x1 x3 a) (fun q6 => ?_)
      refine XI_VI (As := [.int x3, .int q6]) (rest := []) (b := 8) (idx := 107) (by decide +kernel) ok_K_place mv_K_place (n := 2) ⟨lk_C_107, by decide +kernel⟩ rfl rfl rfl rfl (Nat.le_of_ble_eq_true rfl) (Nat.le_of_ble_eq_true rfl) (qI_h rfl) (x_K_place E x3 q6 a) (fun q7 => ?_)
      refine XI_br (c := q7.1 = (-2)) (t := 79) (e := 73) (ls' := [.ref 0, .int x1, .int x2, .int x3]) (st' := []) (a' := q7.2) [(.bipush (-2), 2, 0, .int (-2)), (.if_icmp .eq 9, 3, 79, .null)] (by decide +kernel) rfl ?_ ?_
      · refine XI_go (pc' := 80) (ls' := [.ref 0, .int x1, .int x2, .int x3]) (st' := [.int x3]) (a' := q7.2) [(.iload_n 3, 1, 3, .null)] (by decide +kernel) rfl ?_
        exact XI_retI (by decide +kernel)
      · refine XI_go (pc' := 46) (ls' := [.ref 0, .int x1, .int x2, .int (x3 + 1)]) (st' := []) (a' := q7.2) [(.iinc 3 1, 3, 3, .int 1), (.goto (-30), 3, 46, .null)] (by decide +kernel) rfl ?_
        refine XI_fg [true, true, true, true] ?_
        exact x_C_read_46 E N n x1 x2 (x3 + 1) q7.2
set_option maxHeartbeats 4000000 in
set_option maxRecDepth 100000 in
theorem x_C_read (E : eT) (N : Nat) (p1 : Int32) (a : aT) : XI qI E md_C_read 0 [.ref 0, .int p1, .null, .null] [] a (f_C_read N p1 a) := by
  refine XI_go (pc' := 2) (ls' := [.ref 0, .int p1, .null, .null]) (st' := [.int 4, .int p1]) (a' := a) [(.iload_n 1, 1, 1, .null), (.iconst 4, 1, 0, .int 4)] (by decide +kernel) rfl ?_
  refine XI_ST (As := [.int p1, .int 4]) (rest := []) (idx := 110) (by decide +kernel) ok_C_isBelow mv_C_isBelow (n := 2) ⟨lk_C_110, by decide +kernel⟩ rfl (Nat.le_of_ble_eq_true rfl) (Nat.le_of_ble_eq_true rfl) (qZ_h rfl) (x_C_isBelow E p1 4 a) ?_
  refine XI_br (c := (f_C_isBelow p1 4) = 0) (t := 8) (e := 11) (ls' := [.ref 0, .int p1, .null, .null]) (st' := []) (a' := a) [(.ifCond .ne 6, 3, 11, .null)] (by decide +kernel) rfl ?_ ?_
  · refine XI_go (pc' := 10) (ls' := [.ref 0, .int p1, .null, .null]) (st' := [.int (-2)]) (a' := a) [(.bipush (-2), 2, 0, .int (-2))] (by decide +kernel) rfl ?_
    exact XI_retI (by decide +kernel)
  · refine XI_go (pc' := 16) (ls' := [.ref 0, .int p1, .null, .null]) (st' := [.int p1, .ref 27]) (a' := a) [(.aload_n 0, 1, 0, .null), (.getfield 79, 3, 1009, .null), (.iload_n 1, 1, 1, .null)] (by decide +kernel) rfl ?_
    refine XI_VP (As := [.int p1]) (rest := []) (b := 27) (idx := 114) (by decide +kernel) ok_H_isLost mv_H_isLost (n := 1) ⟨lk_C_114, by decide +kernel⟩ rfl rfl rfl rfl (Nat.le_of_ble_eq_true rfl) (Nat.le_of_ble_eq_true rfl) (qZ_h rfl) (x_H_isLost E p1 a) (fun q2 => ?_)
    refine XI_br (c := q2 = 0) (t := 31) (e := 22) (ls' := [.ref 0, .int p1, .null, .null]) (st' := []) (a' := a) [(.ifCond .eq 12, 3, 31, .null)] (by decide +kernel) rfl ?_ ?_
    · refine XI_go (pc' := 37) (ls' := [.ref 0, .int p1, .null, .null]) (st' := [.int p1, .ref 27, .int 4]) (a' := a) [(.iconst 4, 1, 0, .int 4), (.aload_n 0, 1, 0, .null), (.getfield 79, 3, 1009, .null), (.iload_n 1, 1, 1, .null)] (by decide +kernel) rfl ?_
      refine XI_VP (As := [.int p1]) (rest := [.int 4]) (b := 27) (idx := 121) (by decide +kernel) ok_H_sizeOf mv_H_sizeOf (n := 1) ⟨lk_C_121, by decide +kernel⟩ rfl rfl rfl rfl (Nat.le_of_ble_eq_true rfl) (Nat.le_of_ble_eq_true rfl) (qI_h rfl) (x_H_sizeOf E p1 a) (fun q3 => ?_)
      refine XI_ST (As := [.int 4, .int q3]) (rest := []) (idx := 124) (by decide +kernel) ok_J_min mv_J_min (n := 2) ⟨lk_C_124, by decide +kernel⟩ rfl (Nat.le_of_ble_eq_true rfl) (Nat.le_of_ble_eq_true rfl) (qI_h rfl) (x_J_min E 4 q3 a) ?_
      refine XI_go (pc' := 46) (ls' := [.ref 0, .int p1, .int (f_J_min 4 q3), .int 0]) (st' := []) (a' := a) [(.istore_n 2, 1, 2, .null), (.iconst 0, 1, 0, .int 0), (.istore_n 3, 1, 3, .null)] (by decide +kernel) rfl ?_
      refine XI_fg [true, true, true, true] ?_
      exact x_C_read_46 E N N p1 (f_J_min 4 q3) 0 a
    · refine XI_go (pc' := 27) (ls' := [.ref 0, .int p1, .null, .null]) (st' := [.int 1, .ref 27]) (a' := a) [(.aload_n 0, 1, 0, .null), (.getfield 79, 3, 1009, .null), (.iconst 1, 1, 0, .int 1)] (by decide +kernel) rfl ?_
      refine XI_VI (As := [.int 1]) (rest := []) (b := 27) (idx := 118) (by decide +kernel) ok_H_find mv_H_find (n := 1) ⟨lk_C_118, by decide +kernel⟩ rfl rfl rfl rfl (Nat.le_of_ble_eq_true rfl) (Nat.le_of_ble_eq_true rfl) (qI_h rfl) (x_H_find E 1 a) (fun q5 => ?_)
      exact XI_retI (by decide +kernel)
/-! ChestnutSticksModel.isSheet(I)Z -/
def md_M_isSheet : md_T := (yX11_isSheet, cX11_isSheet, 1, (some .boolean), 1, 25)
set_option maxRecDepth 100000 in
theorem ok_M_isSheet : m_ok md_M_isSheet := ⟨List.mem_of_getElem? (i := 999) (by decide +kernel), by decide +kernel, List.mem_of_getElem? (i := 64) (by decide +kernel), by decide +kernel⟩
theorem mv_M_isSheet : Cond.static (m_y md_M_isSheet) ∈ lw_tbl := List.mem_of_getElem? (i := 998) (by decide +kernel)
def f_M_isSheet (p1 : Int32) : Int32 :=
  (vp_nar .boolean (f_M_in p1.toInt64 0 3))
set_option maxHeartbeats 4000000 in
set_option maxRecDepth 100000 in
theorem x_M_isSheet (E : eT) (p1 : Int32) (a : aT) : XT qZ E md_M_isSheet 0 [.int p1] [] a (f_M_isSheet p1) := by
  refine XT_go (pc' := 6) (ls' := [.int p1]) (st' := [.long 3, .long 0, .long p1.toInt64]) (a' := a) [(.iload_n 0, 1, 0, .null), (.i2l, 1, 0, .null), (.lconst 0, 1, 0, .long 0), (.ldc2_w 81, 3, 0, .long 3)] (by decide +kernel) rfl ?_
  refine XT_ST (As := [.long p1.toInt64, .long 0, .long 3]) (rest := []) (idx := 74) (by decide +kernel) ok_M_in mv_M_in (n := 3) ⟨lk_M_74, by decide +kernel⟩ rfl (Nat.le_of_ble_eq_true rfl) (Nat.le_of_ble_eq_true rfl) (qZ_h rfl) (x_M_in E p1.toInt64 0 3 a) ?_
  exact XT_retZ (by decide +kernel) rfl
