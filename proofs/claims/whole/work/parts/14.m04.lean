/-! ChestnutSticks$Throws.stickAt(I)I -/
def md_O_stickAt : md_T := (yX8_stickAt, cX8_stickAt, 2, (some .int), 1, 21)
set_option maxRecDepth 100000 in
theorem ok_O_stickAt : m_ok md_O_stickAt := ⟨List.mem_of_getElem? (i := 480) (by decide +kernel), by decide +kernel, List.mem_of_getElem? (i := 58) (by decide +kernel), by decide +kernel⟩
theorem mv_O_stickAt : Cond.instanceMethod (m_y md_O_stickAt) ∈ lw_tbl ∧ Cond.selects (m_y md_O_stickAt).cls (m_y md_O_stickAt) (m_y md_O_stickAt) ∈ lw_tbl := ⟨List.mem_of_getElem? (i := 478) (by decide +kernel), List.mem_of_getElem? (i := 479) (by decide +kernel)⟩
def f_O_stickAt (p1 : Int32) (a : aT) : Option Int32 :=
  if (f_C_isBelow p1 20) = 0 then
    some 0
  else
    if inb p1 20 then
      some (a 12 (ix p1))
    else none
set_option maxHeartbeats 4000000 in
set_option maxRecDepth 100000 in
theorem x_O_stickAt (E : eT) (p1 : Int32) (a : aT) : XP qI E md_O_stickAt 0 [.ref 10, .int p1] [] a (f_O_stickAt p1 a) := by
  refine XP_go (pc' := 3) (ls' := [.ref 10, .int p1]) (st' := [.int 20, .int p1]) (a' := a) [(.iload_n 1, 1, 1, .null), (.bipush 20, 2, 0, .int 20)] (by decide +kernel) rfl ?_
  refine XP_SNT (As := [.int p1, .int 20]) (rest := []) (idx := 25) (by decide +kernel) ok_C_isBelow mv_C_isBelow (n := 2) ⟨lk_O_25, by decide +kernel⟩ rfl (Nat.le_of_ble_eq_true rfl) (Nat.le_of_ble_eq_true rfl) (qZ_h rfl) (x_C_isBelow E p1 20 a) ?_
  refine XP_br (c := (f_C_isBelow p1 20) = 0) (t := 18) (e := 9) (ls' := [.ref 10, .int p1]) (st' := []) (a' := a) [(.ifCond .eq 12, 3, 18, .null)] (by decide +kernel) rfl ?_ ?_
  · refine XP_go (pc' := 19) (ls' := [.ref 10, .int p1]) (st' := [.int 0]) (a' := a) [(.iconst 0, 1, 0, .int 0)] (by decide +kernel) rfl ?_
    exact XP_retI (by decide +kernel)
  · refine XP_ck (c := inb p1 20) (pc' := 15) (ls' := [.ref 10, .int p1]) (st' := [.int (a 12 (ix p1))]) (a' := a) [(.aload_n 0, 1, 0, .null), (.getfield 15, 3, 801, .null), (.iload_n 1, 1, 1, .null), (.iaload, 1, 0, .null)] (by decide +kernel) rfl ?_
    refine XP_go (pc' := 19) (ls' := [.ref 10, .int p1]) (st' := [.int (a 12 (ix p1))]) (a' := a) [(.goto 4, 3, 19, .null)] (by decide +kernel) rfl ?_
    exact XP_retI (by decide +kernel)
/-! ChestnutSticks$Throws.cellNumberAt(I)I -/
def md_O_cellNumberAt : md_T := (yX8_cellNumberAt, cX8_cellNumberAt, 2, (some .int), 1, 21)
set_option maxRecDepth 100000 in
theorem ok_O_cellNumberAt : m_ok md_O_cellNumberAt := ⟨List.mem_of_getElem? (i := 484) (by decide +kernel), by decide +kernel, List.mem_of_getElem? (i := 58) (by decide +kernel), by decide +kernel⟩
theorem mv_O_cellNumberAt : Cond.instanceMethod (m_y md_O_cellNumberAt) ∈ lw_tbl ∧ Cond.selects (m_y md_O_cellNumberAt).cls (m_y md_O_cellNumberAt) (m_y md_O_cellNumberAt) ∈ lw_tbl := ⟨List.mem_of_getElem? (i := 482) (by decide +kernel), List.mem_of_getElem? (i := 483) (by decide +kernel)⟩
def f_O_cellNumberAt (p1 : Int32) (a : aT) : Option Int32 :=
  if (f_C_isBelow p1 20) = 0 then
    some (-1)
  else
    if inb p1 20 then
      some (a 13 (ix p1))
    else none
set_option maxHeartbeats 4000000 in
set_option maxRecDepth 100000 in
theorem x_O_cellNumberAt (E : eT) (p1 : Int32) (a : aT) : XP qI E md_O_cellNumberAt 0 [.ref 10, .int p1] [] a (f_O_cellNumberAt p1 a) := by
  refine XP_go (pc' := 3) (ls' := [.ref 10, .int p1]) (st' := [.int 20, .int p1]) (a' := a) [(.iload_n 1, 1, 1, .null), (.bipush 20, 2, 0, .int 20)] (by decide +kernel) rfl ?_
  refine XP_SNT (As := [.int p1, .int 20]) (rest := []) (idx := 25) (by decide +kernel) ok_C_isBelow mv_C_isBelow (n := 2) ⟨lk_O_25, by decide +kernel⟩ rfl (Nat.le_of_ble_eq_true rfl) (Nat.le_of_ble_eq_true rfl) (qZ_h rfl) (x_C_isBelow E p1 20 a) ?_
  refine XP_br (c := (f_C_isBelow p1 20) = 0) (t := 18) (e := 9) (ls' := [.ref 10, .int p1]) (st' := []) (a' := a) [(.ifCond .eq 12, 3, 18, .null)] (by decide +kernel) rfl ?_ ?_
  · refine XP_go (pc' := 19) (ls' := [.ref 10, .int p1]) (st' := [.int (-1)]) (a' := a) [(.iconst (-1), 1, 0, .int (-1))] (by decide +kernel) rfl ?_
    exact XP_retI (by decide +kernel)
  · refine XP_ck (c := inb p1 20) (pc' := 15) (ls' := [.ref 10, .int p1]) (st' := [.int (a 13 (ix p1))]) (a' := a) [(.aload_n 0, 1, 0, .null), (.getfield 18, 3, 802, .null), (.iload_n 1, 1, 1, .null), (.iaload, 1, 0, .null)] (by decide +kernel) rfl ?_
    refine XP_go (pc' := 19) (ls' := [.ref 10, .int p1]) (st' := [.int (a 13 (ix p1))]) (a' := a) [(.goto 4, 3, 19, .null)] (by decide +kernel) rfl ?_
    exact XP_retI (by decide +kernel)
/-! ChestnutSticks$Tree.isCell(I)Z -/
def md_E_isCell : md_T := (yX9_isCell, cX9_isCell, 2, (some .boolean), 1, 21)
set_option maxRecDepth 100000 in
theorem ok_E_isCell : m_ok md_E_isCell := ⟨List.mem_of_getElem? (i := 488) (by decide +kernel), by decide +kernel, List.mem_of_getElem? (i := 54) (by decide +kernel), by decide +kernel⟩
theorem mv_E_isCell : Cond.instanceMethod (m_y md_E_isCell) ∈ lw_tbl ∧ Cond.selects (m_y md_E_isCell).cls (m_y md_E_isCell) (m_y md_E_isCell) ∈ lw_tbl := ⟨List.mem_of_getElem? (i := 486) (by decide +kernel), List.mem_of_getElem? (i := 487) (by decide +kernel)⟩
def f_E_isCell (p1 : Int32) (a : aT) : Option Int32 :=
  if (f_C_isBelow p1 48) = 0 then
    some 0
  else
    if inb p1 48 then
      if (a 3 (ix p1)) = (-2) then
        some 0
      else
        some 1
    else none
set_option maxHeartbeats 4000000 in
set_option maxRecDepth 100000 in
theorem x_E_isCell (E : eT) (p1 : Int32) (a : aT) : XP qZ E md_E_isCell 0 [.ref 1, .int p1] [] a (f_E_isCell p1 a) := by
  refine XP_go (pc' := 3) (ls' := [.ref 1, .int p1]) (st' := [.int 48, .int p1]) (a' := a) [(.iload_n 1, 1, 1, .null), (.bipush 48, 2, 0, .int 48)] (by decide +kernel) rfl ?_
  refine XP_SNT (As := [.int p1, .int 48]) (rest := []) (idx := 28) (by decide +kernel) ok_C_isBelow mv_C_isBelow (n := 2) ⟨lk_E_28, by decide +kernel⟩ rfl (Nat.le_of_ble_eq_true rfl) (Nat.le_of_ble_eq_true rfl) (qZ_h rfl) (x_C_isBelow E p1 48 a) ?_
  refine XP_br (c := (f_C_isBelow p1 48) = 0) (t := 24) (e := 9) (ls' := [.ref 1, .int p1]) (st' := []) (a' := a) [(.ifCond .eq 18, 3, 24, .null)] (by decide +kernel) rfl ?_ ?_
  · refine XP_go (pc' := 25) (ls' := [.ref 1, .int p1]) (st' := [.int 0]) (a' := a) [(.iconst 0, 1, 0, .int 0)] (by decide +kernel) rfl ?_
    exact XP_retZ (by decide +kernel) rfl
  · refine XP_ck (c := inb p1 48) (pc' := 15) (ls' := [.ref 1, .int p1]) (st' := [.int (a 3 (ix p1))]) (a' := a) [(.aload_n 0, 1, 0, .null), (.getfield 15, 3, 901, .null), (.iload_n 1, 1, 1, .null), (.iaload, 1, 0, .null)] (by decide +kernel) rfl ?_
    refine XP_br (c := (a 3 (ix p1)) = (-2)) (t := 24) (e := 20) (ls' := [.ref 1, .int p1]) (st' := []) (a' := a) [(.bipush (-2), 2, 0, .int (-2)), (.if_icmp .eq 7, 3, 24, .null)] (by decide +kernel) rfl ?_ ?_
    · refine XP_go (pc' := 25) (ls' := [.ref 1, .int p1]) (st' := [.int 0]) (a' := a) [(.iconst 0, 1, 0, .int 0)] (by decide +kernel) rfl ?_
      exact XP_retZ (by decide +kernel) rfl
    · refine XP_go (pc' := 25) (ls' := [.ref 1, .int p1]) (st' := [.int 1]) (a' := a) [(.iconst 1, 1, 0, .int 1), (.goto 4, 3, 25, .null)] (by decide +kernel) rfl ?_
      exact XP_retZ (by decide +kernel) rfl
/-! ChestnutSticks$Play.lodgedIn(I)I -/
def md_P_lodgedIn : md_T := (yX1_lodgedIn, cX1_lodgedIn, 2, (some .int), 1, 21)
set_option maxRecDepth 100000 in
theorem ok_P_lodgedIn : m_ok md_P_lodgedIn := ⟨List.mem_of_getElem? (i := 492) (by decide +kernel), by decide +kernel, List.mem_of_getElem? (i := 59) (by decide +kernel), by decide +kernel⟩
theorem mv_P_lodgedIn : Cond.instanceMethod (m_y md_P_lodgedIn) ∈ lw_tbl ∧ Cond.selects (m_y md_P_lodgedIn).cls (m_y md_P_lodgedIn) (m_y md_P_lodgedIn) ∈ lw_tbl := ⟨List.mem_of_getElem? (i := 490) (by decide +kernel), List.mem_of_getElem? (i := 491) (by decide +kernel)⟩
def f_P_lodgedIn (p1 : Int32) (a : aT) : Option Int32 :=
  if (f_C_isBelow p1 4) = 0 then
    some (-1)
  else
    if inb p1 4 then
      some (a 16 (ix p1))
    else none
set_option maxHeartbeats 4000000 in
set_option maxRecDepth 100000 in
theorem x_P_lodgedIn (E : eT) (p1 : Int32) (a : aT) : XP qI E md_P_lodgedIn 0 [.ref 14, .int p1] [] a (f_P_lodgedIn p1 a) := by
  refine XP_go (pc' := 2) (ls' := [.ref 14, .int p1]) (st' := [.int 4, .int p1]) (a' := a) [(.iload_n 1, 1, 1, .null), (.iconst 4, 1, 0, .int 4)] (by decide +kernel) rfl ?_
  refine XP_SNT (As := [.int p1, .int 4]) (rest := []) (idx := 82) (by decide +kernel) ok_C_isBelow mv_C_isBelow (n := 2) ⟨lk_P_82, by decide +kernel⟩ rfl (Nat.le_of_ble_eq_true rfl) (Nat.le_of_ble_eq_true rfl) (qZ_h rfl) (x_C_isBelow E p1 4 a) ?_
  refine XP_br (c := (f_C_isBelow p1 4) = 0) (t := 17) (e := 8) (ls' := [.ref 14, .int p1]) (st' := []) (a' := a) [(.ifCond .eq 12, 3, 17, .null)] (by decide +kernel) rfl ?_ ?_
  · refine XP_go (pc' := 18) (ls' := [.ref 14, .int p1]) (st' := [.int (-1)]) (a' := a) [(.iconst (-1), 1, 0, .int (-1))] (by decide +kernel) rfl ?_
    exact XP_retI (by decide +kernel)
  · refine XP_ck (c := inb p1 4) (pc' := 14) (ls' := [.ref 14, .int p1]) (st' := [.int (a 16 (ix p1))]) (a' := a) [(.aload_n 0, 1, 0, .null), (.getfield 15, 3, 106, .null), (.iload_n 1, 1, 1, .null), (.iaload, 1, 0, .null)] (by decide +kernel) rfl ?_
    refine XP_go (pc' := 18) (ls' := [.ref 14, .int p1]) (st' := [.int (a 16 (ix p1))]) (a' := a) [(.goto 4, 3, 18, .null)] (by decide +kernel) rfl ?_
    exact XP_retI (by decide +kernel)
/-! ChestnutSticks$Play.lotOfSixteen()I -/
def md_P_lotOfSixteen : md_T := (yX1_lotOfSixteen, cX1_lotOfSixteen, 1, (some .int), 0, 0)
set_option maxRecDepth 100000 in
theorem ok_P_lotOfSixteen : m_ok md_P_lotOfSixteen := ⟨List.mem_of_getElem? (i := 497) (by decide +kernel), by decide +kernel, List.mem_of_getElem? (i := 59) (by decide +kernel), by decide +kernel⟩
theorem mv_P_lotOfSixteen : Cond.instanceMethod (m_y md_P_lotOfSixteen) ∈ lw_tbl ∧ Cond.selects (m_y md_P_lotOfSixteen).cls (m_y md_P_lotOfSixteen) (m_y md_P_lotOfSixteen) ∈ lw_tbl := ⟨List.mem_of_getElem? (i := 496) (by decide +kernel), List.mem_of_getElem? (i := 5) (by decide +kernel)⟩
def f_P_lotOfSixteen (a : aT) : Option (Int32 × aT) :=
  some ((i_rem (i_ushr ((1103515245 * (a 14 9)) + 12345) 16) 16), (upA a 14 9 ((1103515245 * (a 14 9)) + 12345)))
set_option maxHeartbeats 4000000 in
set_option maxRecDepth 100000 in
theorem x_P_lotOfSixteen (E : eT) (a : aT) : XI qI E md_P_lotOfSixteen 0 [.ref 14] [] a (f_P_lotOfSixteen a) := by
  refine XI_go (pc' := 25) (ls' := [.ref 14]) (st' := [.int (i_rem (i_ushr ((1103515245 * (a 14 9)) + 12345) 16) 16)]) (a' := (upA a 14 9 ((1103515245 * (a 14 9)) + 12345))) [(.aload_n 0, 1, 0, .null), (.ldc 122, 2, 0, .int 1103515245), (.aload_n 0, 1, 0, .null), (.getfield 24, 3, 109, .null), (.imul, 1, 0, .null), (.sipush 12345, 3, 0, .int 12345), (.iadd, 1, 0, .null), (.putfield 24, 3, 109, .int 0), (.aload_n 0, 1, 0, .null), (.getfield 24, 3, 109, .null), (.bipush 16, 2, 0, .int 16), (.iushr, 1, 0, .null), (.bipush 16, 2, 0, .int 16), (.irem, 1, 0, .null)] (by decide +kernel) rfl ?_
  exact XI_retI (by decide +kernel)
/-! ChestnutSticks$Play.sideOf(I)I -/
def md_P_sideOf : md_T := (yX1_sideOf, cX1_sideOf, 3, (some .int), 2, 42)
set_option maxRecDepth 100000 in
theorem ok_P_sideOf : m_ok md_P_sideOf := ⟨List.mem_of_getElem? (i := 502) (by decide +kernel), by decide +kernel, List.mem_of_getElem? (i := 59) (by decide +kernel), by decide +kernel⟩
theorem mv_P_sideOf : Cond.instanceMethod (m_y md_P_sideOf) ∈ lw_tbl ∧ Cond.selects (m_y md_P_sideOf).cls (m_y md_P_sideOf) (m_y md_P_sideOf) ∈ lw_tbl := ⟨List.mem_of_getElem? (i := 501) (by decide +kernel), List.mem_of_getElem? (i := 6) (by decide +kernel)⟩
def f_P_sideOf (p1 : Int32) (a : aT) : Option Int32 :=
  (f_R_now 0 a).bind fun q1 =>
    if q1 ≤ p1 then
      if p1 < (16 - q1) then
        some 0
      else
        some 1
    else
      some (-1)
set_option maxHeartbeats 4000000 in
set_option maxRecDepth 100000 in
theorem x_P_sideOf (E : eT) (p1 : Int32) (a : aT) : XP qI E md_P_sideOf 0 [.ref 14, .int p1, .null] [] a (f_P_sideOf p1 a) := by
  refine XP_go (pc' := 5) (ls' := [.ref 14, .int p1, .null]) (st' := [.int 0, .ref 6]) (a' := a) [(.aload_n 0, 1, 0, .null), (.getfield 48, 3, 102, .null), (.iconst 0, 1, 0, .int 0)] (by decide +kernel) rfl ?_
  refine XP_VP (As := [.int 0]) (rest := []) (b := 6) (idx := 86) (by decide +kernel) ok_R_now mv_R_now (n := 1) ⟨lk_P_86, by decide +kernel⟩ rfl rfl rfl rfl (Nat.le_of_ble_eq_true rfl) (Nat.le_of_ble_eq_true rfl) (qI_h rfl) (x_R_now E 0 a) (fun q1 => ?_)
  refine XP_br (c := q1 ≤ p1) (t := 16) (e := 14) (ls' := [.ref 14, .int p1, .int q1]) (st' := []) (a' := a) [(.istore_n 2, 1, 2, .null), (.iload_n 1, 1, 1, .null), (.iload_n 2, 1, 2, .null), (.if_icmp .ge 5, 3, 16, .null)] (by decide +kernel) rfl ?_ ?_
  · refine XP_br (c := p1 < (16 - q1)) (t := 28) (e := 24) (ls' := [.ref 14, .int p1, .int q1]) (st' := []) (a' := a) [(.iload_n 1, 1, 1, .null), (.bipush 16, 2, 0, .int 16), (.iload_n 2, 1, 2, .null), (.isub, 1, 0, .null), (.if_icmp .lt 7, 3, 28, .null)] (by decide +kernel) rfl ?_ ?_
    · refine XP_go (pc' := 29) (ls' := [.ref 14, .int p1, .int q1]) (st' := [.int 0]) (a' := a) [(.iconst 0, 1, 0, .int 0)] (by decide +kernel) rfl ?_
      exact XP_retI (by decide +kernel)
    · refine XP_go (pc' := 29) (ls' := [.ref 14, .int p1, .int q1]) (st' := [.int 1]) (a' := a) [(.iconst 1, 1, 0, .int 1), (.goto 4, 3, 29, .null)] (by decide +kernel) rfl ?_
      exact XP_retI (by decide +kernel)
  · refine XP_go (pc' := 15) (ls' := [.ref 14, .int p1, .int q1]) (st' := [.int (-1)]) (a' := a) [(.iconst (-1), 1, 0, .int (-1))] (by decide +kernel) rfl ?_
    exact XP_retI (by decide +kernel)
/-! ChestnutSticks$Play.hangsIfStruck(III)I -/
def md_P_hangsIfStruck : md_T := (yX1_hangsIfStruck, cX1_hangsIfStruck, 5, (some .int), 1, 21)
set_option maxRecDepth 100000 in
theorem ok_P_hangsIfStruck : m_ok md_P_hangsIfStruck := ⟨List.mem_of_getElem? (i := 511) (by decide +kernel), by decide +kernel, List.mem_of_getElem? (i := 59) (by decide +kernel), by decide +kernel⟩
theorem mv_P_hangsIfStruck : Cond.instanceMethod (m_y md_P_hangsIfStruck) ∈ lw_tbl ∧ Cond.selects (m_y md_P_hangsIfStruck).cls (m_y md_P_hangsIfStruck) (m_y md_P_hangsIfStruck) ∈ lw_tbl := ⟨List.mem_of_getElem? (i := 510) (by decide +kernel), List.mem_of_getElem? (i := 8) (by decide +kernel)⟩
def f_P_hangsIfStruck (p1 : Int32) (p2 : Int32) (p3 : Int32) (a : aT) : Option Int32 :=
  if (f_C_isBelow p3 8) = 0 then
    some (-1)
  else
    if (f_C_isBelow ((8 * p2) + p3) 48) = 0 then
      some (-1)
    else
      if inb ((8 * p2) + p3) 48 then
        if (a 15 (ix ((8 * p2) + p3))) < p1 then
          if inb ((8 * p2) + p3) 48 then
            some (a 15 (ix ((8 * p2) + p3)))
          else none
        else
          some (-1)
      else none
set_option maxHeartbeats 4000000 in
set_option maxRecDepth 100000 in
theorem x_P_hangsIfStruck (E : eT) (p1 : Int32) (p2 : Int32) (p3 : Int32) (a : aT) : XP qI E md_P_hangsIfStruck 0 [.ref 14, .int p1, .int p2, .int p3, .null] [] a (f_P_hangsIfStruck p1 p2 p3 a) := by
  refine XP_go (pc' := 11) (ls' := [.ref 14, .int p1, .int p2, .int p3, .int ((8 * p2) + p3)]) (st' := [.int 8, .int p3]) (a' := a) [(.bipush 8, 2, 0, .int 8), (.iload_n 2, 1, 2, .null), (.imul, 1, 0, .null), (.iload_n 3, 1, 3, .null), (.iadd, 1, 0, .null), (.istore 4, 2, 4, .null), (.iload_n 3, 1, 3, .null), (.bipush 8, 2, 0, .int 8)] (by decide +kernel) rfl ?_
  refine XP_SNT (As := [.int p3, .int 8]) (rest := []) (idx := 82) (by decide +kernel) ok_C_isBelow mv_C_isBelow (n := 2) ⟨lk_P_82, by decide +kernel⟩ rfl (Nat.le_of_ble_eq_true rfl) (Nat.le_of_ble_eq_true rfl) (qZ_h rfl) (x_C_isBelow E p3 8 a) ?_
  refine XP_br (c := (f_C_isBelow p3 8) = 0) (t := 38) (e := 17) (ls' := [.ref 14, .int p1, .int p2, .int p3, .int ((8 * p2) + p3)]) (st' := []) (a' := a) [(.ifCond .eq 24, 3, 38, .null)] (by decide +kernel) rfl ?_ ?_
  · refine XP_go (pc' := 39) (ls' := [.ref 14, .int p1, .int p2, .int p3, .int ((8 * p2) + p3)]) (st' := [.int (-1)]) (a' := a) [(.iconst (-1), 1, 0, .int (-1))] (by decide +kernel) rfl ?_
    exact XP_retI (by decide +kernel)
  · refine XP_go (pc' := 21) (ls' := [.ref 14, .int p1, .int p2, .int p3, .int ((8 * p2) + p3)]) (st' := [.int 48, .int ((8 * p2) + p3)]) (a' := a) [(.iload 4, 2, 4, .null), (.bipush 48, 2, 0, .int 48)] (by decide +kernel) rfl ?_
    refine XP_SNT (As := [.int ((8 * p2) + p3), .int 48]) (rest := []) (idx := 82) (by decide +kernel) ok_C_isBelow mv_C_isBelow (n := 2) ⟨lk_P_82, by decide +kernel⟩ rfl (Nat.le_of_ble_eq_true rfl) (Nat.le_of_ble_eq_true rfl) (qZ_h rfl) (x_C_isBelow E ((8 * p2) + p3) 48 a) ?_
    refine XP_br (c := (f_C_isBelow ((8 * p2) + p3) 48) = 0) (t := 38) (e := 27) (ls' := [.ref 14, .int p1, .int p2, .int p3, .int ((8 * p2) + p3)]) (st' := []) (a' := a) [(.ifCond .eq 14, 3, 38, .null)] (by decide +kernel) rfl ?_ ?_
    · refine XP_go (pc' := 39) (ls' := [.ref 14, .int p1, .int p2, .int p3, .int ((8 * p2) + p3)]) (st' := [.int (-1)]) (a' := a) [(.iconst (-1), 1, 0, .int (-1))] (by decide +kernel) rfl ?_
      exact XP_retI (by decide +kernel)
    · refine XP_ck (c := inb ((8 * p2) + p3) 48) (pc' := 34) (ls' := [.ref 14, .int p1, .int p2, .int p3, .int ((8 * p2) + p3)]) (st' := [.int (a 15 (ix ((8 * p2) + p3)))]) (a' := a) [(.aload_n 0, 1, 0, .null), (.getfield 9, 3, 105, .null), (.iload 4, 2, 4, .null), (.iaload, 1, 0, .null)] (by decide +kernel) rfl ?_
      refine XP_br (c := (a 15 (ix ((8 * p2) + p3))) < p1) (t := 40) (e := 38) (ls' := [.ref 14, .int p1, .int p2, .int p3, .int ((8 * p2) + p3)]) (st' := []) (a' := a) [(.iload_n 1, 1, 1, .null), (.if_icmp .lt 5, 3, 40, .null)] (by decide +kernel) rfl ?_ ?_
      · refine XP_ck (c := inb ((8 * p2) + p3) 48) (pc' := 47) (ls' := [.ref 14, .int p1, .int p2, .int p3, .int ((8 * p2) + p3)]) (st' := [.int (a 15 (ix ((8 * p2) + p3)))]) (a' := a) [(.aload_n 0, 1, 0, .null), (.getfield 9, 3, 105, .null), (.iload 4, 2, 4, .null), (.iaload, 1, 0, .null)] (by decide +kernel) rfl ?_
        exact XP_retI (by decide +kernel)
      · refine XP_go (pc' := 39) (ls' := [.ref 14, .int p1, .int p2, .int p3, .int ((8 * p2) + p3)]) (st' := [.int (-1)]) (a' := a) [(.iconst (-1), 1, 0, .int (-1))] (by decide +kernel) rfl ?_
        exact XP_retI (by decide +kernel)
/-! ChestnutSticks$Play.takeDown(II)V -/
def md_P_takeDown : md_T := (yX1_takeDown, cX1_takeDown, 3, none, 1, 21)
set_option maxRecDepth 100000 in
theorem ok_P_takeDown : m_ok md_P_takeDown := ⟨List.mem_of_getElem? (i := 515) (by decide +kernel), by decide +kernel, List.mem_of_getElem? (i := 59) (by decide +kernel), by decide +kernel⟩
theorem mv_P_takeDown : Cond.instanceMethod (m_y md_P_takeDown) ∈ lw_tbl ∧ Cond.selects (m_y md_P_takeDown).cls (m_y md_P_takeDown) (m_y md_P_takeDown) ∈ lw_tbl := ⟨List.mem_of_getElem? (i := 514) (by decide +kernel), List.mem_of_getElem? (i := 9) (by decide +kernel)⟩
def f_P_takeDown (p1 : Int32) (p2 : Int32) (a : aT) : Option (Unit × aT) :=
  if (f_C_isBelow p2 48) = 0 then
    some ((), a)
  else
    if (f_C_isBelow p1 20) = 0 then
      some ((), a)
    else
      if inb p2 48 then
        if inb p1 20 then
          if inb p1 20 then
            some ((), (upA (upA a 15 (ix p2) (-1)) 18 (ix p1) ((a 18 (ix p1)) + 1)))
          else none
        else none
      else none
set_option maxHeartbeats 4000000 in
set_option maxRecDepth 100000 in
theorem x_P_takeDown (E : eT) (p1 : Int32) (p2 : Int32) (a : aT) : XI qV E md_P_takeDown 0 [.ref 14, .int p1, .int p2] [] a (f_P_takeDown p1 p2 a) := by
  refine XI_go (pc' := 3) (ls' := [.ref 14, .int p1, .int p2]) (st' := [.int 48, .int p2]) (a' := a) [(.iload_n 2, 1, 2, .null), (.bipush 48, 2, 0, .int 48)] (by decide +kernel) rfl ?_
  refine XI_SNT (As := [.int p2, .int 48]) (rest := []) (idx := 82) (by decide +kernel) ok_C_isBelow mv_C_isBelow (n := 2) ⟨lk_P_82, by decide +kernel⟩ rfl (Nat.le_of_ble_eq_true rfl) (Nat.le_of_ble_eq_true rfl) (qZ_h rfl) (x_C_isBelow E p2 48 a) ?_
  refine XI_br (c := (f_C_isBelow p2 48) = 0) (t := 35) (e := 9) (ls' := [.ref 14, .int p1, .int p2]) (st' := []) (a' := a) [(.ifCond .eq 29, 3, 35, .null)] (by decide +kernel) rfl ?_ ?_
  · exact XI_retV (by decide +kernel)
  · refine XI_go (pc' := 12) (ls' := [.ref 14, .int p1, .int p2]) (st' := [.int 20, .int p1]) (a' := a) [(.iload_n 1, 1, 1, .null), (.bipush 20, 2, 0, .int 20)] (by decide +kernel) rfl ?_
    refine XI_SNT (As := [.int p1, .int 20]) (rest := []) (idx := 82) (by decide +kernel) ok_C_isBelow mv_C_isBelow (n := 2) ⟨lk_P_82, by decide +kernel⟩ rfl (Nat.le_of_ble_eq_true rfl) (Nat.le_of_ble_eq_true rfl) (qZ_h rfl) (x_C_isBelow E p1 20 a) ?_
    refine XI_br (c := (f_C_isBelow p1 20) = 0) (t := 35) (e := 18) (ls' := [.ref 14, .int p1, .int p2]) (st' := []) (a' := a) [(.ifCond .eq 20, 3, 35, .null)] (by decide +kernel) rfl ?_ ?_
    · exact XI_retV (by decide +kernel)
    · refine XI_ck (c := inb p2 48) (pc' := 25) (ls' := [.ref 14, .int p1, .int p2]) (st' := []) (a' := (upA a 15 (ix p2) (-1))) [(.aload_n 0, 1, 0, .null), (.getfield 9, 3, 105, .null), (.iload_n 2, 1, 2, .null), (.iconst (-1), 1, 0, .int (-1)), (.iastore, 1, 0, .null)] (by decide +kernel) rfl ?_
      refine XI_ck (c := inb p1 20) (pc' := 32) (ls' := [.ref 14, .int p1, .int p2]) (st' := [.int (a 18 (ix p1)), .int p1, .ref 18]) (a' := (upA a 15 (ix p2) (-1))) [(.aload_n 0, 1, 0, .null), (.getfield 21, 3, 108, .null), (.iload_n 1, 1, 1, .null), (.dup2, 1, 0, .null), (.iaload, 1, 0, .null)] (by decide +kernel) rfl ?_
      refine XI_ck (c := inb p1 20) (pc' := 35) (ls' := [.ref 14, .int p1, .int p2]) (st' := []) (a' := (upA (upA a 15 (ix p2) (-1)) 18 (ix p1) ((a 18 (ix p1)) + 1))) [(.iconst 1, 1, 0, .int 1), (.iadd, 1, 0, .null), (.iastore, 1, 0, .null)] (by decide +kernel) rfl ?_
      exact XI_retV (by decide +kernel)
/-! ChestnutSticks$Throws.kidAt(I)I -/
def md_O_kidAt : md_T := (yX8_kidAt, cX8_kidAt, 2, (some .int), 1, 21)
set_option maxRecDepth 100000 in
theorem ok_O_kidAt : m_ok md_O_kidAt := ⟨List.mem_of_getElem? (i := 519) (by decide +kernel), by decide +kernel, List.mem_of_getElem? (i := 58) (by decide +kernel), by decide +kernel⟩
theorem mv_O_kidAt : Cond.instanceMethod (m_y md_O_kidAt) ∈ lw_tbl ∧ Cond.selects (m_y md_O_kidAt).cls (m_y md_O_kidAt) (m_y md_O_kidAt) ∈ lw_tbl := ⟨List.mem_of_getElem? (i := 517) (by decide +kernel), List.mem_of_getElem? (i := 518) (by decide +kernel)⟩
def f_O_kidAt (p1 : Int32) (a : aT) : Option Int32 :=
  if (f_C_isBelow p1 20) = 0 then
    some 0
  else
    if inb p1 20 then
      some (a 11 (ix p1))
    else none
set_option maxHeartbeats 4000000 in
set_option maxRecDepth 100000 in
theorem x_O_kidAt (E : eT) (p1 : Int32) (a : aT) : XP qI E md_O_kidAt 0 [.ref 10, .int p1] [] a (f_O_kidAt p1 a) := by
  refine XP_go (pc' := 3) (ls' := [.ref 10, .int p1]) (st' := [.int 20, .int p1]) (a' := a) [(.iload_n 1, 1, 1, .null), (.bipush 20, 2, 0, .int 20)] (by decide +kernel) rfl ?_
  refine XP_SNT (As := [.int p1, .int 20]) (rest := []) (idx := 25) (by decide +kernel) ok_C_isBelow mv_C_isBelow (n := 2) ⟨lk_O_25, by decide +kernel⟩ rfl (Nat.le_of_ble_eq_true rfl) (Nat.le_of_ble_eq_true rfl) (qZ_h rfl) (x_C_isBelow E p1 20 a) ?_
  refine XP_br (c := (f_C_isBelow p1 20) = 0) (t := 18) (e := 9) (ls' := [.ref 10, .int p1]) (st' := []) (a' := a) [(.ifCond .eq 12, 3, 18, .null)] (by decide +kernel) rfl ?_ ?_
  · refine XP_go (pc' := 19) (ls' := [.ref 10, .int p1]) (st' := [.int 0]) (a' := a) [(.iconst 0, 1, 0, .int 0)] (by decide +kernel) rfl ?_
    exact XP_retI (by decide +kernel)
  · refine XP_ck (c := inb p1 20) (pc' := 15) (ls' := [.ref 10, .int p1]) (st' := [.int (a 11 (ix p1))]) (a' := a) [(.aload_n 0, 1, 0, .null), (.getfield 9, 3, 800, .null), (.iload_n 1, 1, 1, .null), (.iaload, 1, 0, .null)] (by decide +kernel) rfl ?_
    refine XP_go (pc' := 19) (ls' := [.ref 10, .int p1]) (st' := [.int (a 11 (ix p1))]) (a' := a) [(.goto 4, 3, 19, .null)] (by decide +kernel) rfl ?_
    exact XP_retI (by decide +kernel)
/-! java/lang/Math.abs(I)I -/
def md_J_abs : md_T := (yJ9_abs_0f7a4, cJ9_abs_0f7a4, 1, (some .int), 0, 0)
set_option maxRecDepth 100000 in
theorem ok_J_abs : m_ok md_J_abs := ⟨List.mem_of_getElem? (i := 526) (by decide +kernel), by decide +kernel, List.mem_of_getElem? (i := 65) (by decide +kernel), by decide +kernel⟩
theorem mv_J_abs : Cond.static (m_y md_J_abs) ∈ lw_tbl := List.mem_of_getElem? (i := 525) (by decide +kernel)
def f_J_abs (p1 : Int32) : Int32 :=
  if 0 ≤ p1 then
    p1
  else
    (-p1)
set_option maxHeartbeats 4000000 in
set_option maxRecDepth 100000 in
theorem x_J_abs (E : eT) (p1 : Int32) (a : aT) : XT qI E md_J_abs 0 [.int p1] [] a (f_J_abs p1) := by
  refine XT_br (c := 0 ≤ p1) (t := 9) (e := 4) (ls' := [.int p1]) (st' := []) (a' := a) [(.iload_n 0, 1, 0, .null), (.ifCond .ge 8, 3, 9, .null)] (by decide +kernel) rfl ?_ ?_
  · refine XT_go (pc' := 10) (ls' := [.int p1]) (st' := [.int p1]) (a' := a) [(.iload_n 0, 1, 0, .null)] (by decide +kernel) rfl ?_
    exact XT_retI (by decide +kernel)
  · refine XT_go (pc' := 10) (ls' := [.int p1]) (st' := [.int (-p1)]) (a' := a) [(.iload_n 0, 1, 0, .null), (.ineg, 1, 0, .null), (.goto 4, 3, 10, .null)] (by decide +kernel) rfl ?_
    exact XT_retI (by decide +kernel)
/-! ChestnutSticks$Kids.nearest(I)I -/
def md_K_nearest : md_T := (yX0_nearest, cX0_nearest, 4, (some .int), 1, 20)
set_option maxRecDepth 100000 in
theorem ok_K_nearest : m_ok md_K_nearest := ⟨List.mem_of_getElem? (i := 523) (by decide +kernel), by decide +kernel, List.mem_of_getElem? (i := 57) (by decide +kernel), by decide +kernel⟩
theorem mv_K_nearest : Cond.instanceMethod (m_y md_K_nearest) ∈ lw_tbl ∧ Cond.selects (m_y md_K_nearest).cls (m_y md_K_nearest) (m_y md_K_nearest) ∈ lw_tbl := ⟨List.mem_of_getElem? (i := 521) (by decide +kernel), List.mem_of_getElem? (i := 522) (by decide +kernel)⟩
def f_K_nearest_4 (N : Nat) (a : aT) : Nat → Int32 → Int32 → Int32 → Option Int32
  | 0 => fun _ _ _ => none
  | n + 1 => fun x1 x2 x3 =>
    if 4 ≤ x3 then
      some x2
    else
      if inb x3 4 then
        if inb x2 4 then
          if (f_J_abs ((a 9 (ix x2)) - x1)) ≤ (f_J_abs ((a 9 (ix x3)) - x1)) then
            f_K_nearest_4 N a n x1 x2 (x3 + 1)
          else
            f_K_nearest_4 N a n x1 x3 (x3 + 1)
        else none
      else none
def f_K_nearest (N : Nat) (p1 : Int32) (a : aT) : Option Int32 :=
  f_K_nearest_4 N a N p1 0 1
set_option maxHeartbeats 4000000 in
set_option maxRecDepth 100000 in
theorem x_K_nearest_4 (E : eT) (N : Nat) (a : aT) : ∀ (n : Nat) (x1 : Int32) (x2 : Int32) (x3 : Int32), XP qI E md_K_nearest 4 [.ref 8, .int x1, .int x2, .int x3] [] a (f_K_nearest_4 N a n x1 x2 x3)
  | 0, _, _, _ => XP_no rfl
  | n + 1, x1, x2, x3 => by
    refine XP_br (c := 4 ≤ x3) (t := 42) (e := 9) (ls' := [.ref 8, .int x1, .int x2, .int x3]) (st' := []) (a' := a) [(.iload_n 3, 1, 3, .null), (.iconst 4, 1, 0, .int 4), (.if_icmp .ge 36, 3, 42, .null)] (by decide +kernel) rfl ?_ ?_
    · refine XP_go (pc' := 43) (ls' := [.ref 8, .int x1, .int x2, .int x3]) (st' := [.int x2]) (a' := a) [(.iload_n 2, 1, 2, .null)] (by decide +kernel) rfl ?_
      exact XP_retI (by decide +kernel)
    · refine XP_ck (c := inb x3 4) (pc' := 15) (ls' := [.ref 8, .int x1, .int x2, .int x3]) (st' := [.int (a 9 (ix x3))]) (a' := a) [(.aload_n 0, 1, 0, .null), (.getfield 9, 3, 0, .null), (.iload_n 3, 1, 3, .null), (.iaload, 1, 0, .null)] (by decide +kernel) rfl ?_
      refine XP_go (pc' := 17) (ls' := [.ref 8, .int x1, .int x2, .int x3]) (st' := [.int ((a 9 (ix x3)) - x1)]) (a' := a) [(.iload_n 1, 1, 1, .null), (.isub, 1, 0, .null)] (by decide +kernel) rfl ?_
      refine XP_ST (As := [.int ((a 9 (ix x3)) - x1)]) (rest := []) (idx := 19) (by decide +kernel) ok_J_abs mv_J_abs (n := 1) ⟨lk_K_19, by decide +kernel⟩ rfl (Nat.le_of_ble_eq_true rfl) (Nat.le_of_ble_eq_true rfl) (qI_h rfl) (x_J_abs E ((a 9 (ix x3)) - x1) a) ?_
      refine XP_ck (c := inb x2 4) (pc' := 26) (ls' := [.ref 8, .int x1, .int x2, .int x3]) (st' := [.int (a 9 (ix x2)), .int (f_J_abs ((a 9 (ix x3)) - x1))]) (a' := a) [(.aload_n 0, 1, 0, .null), (.getfield 9, 3, 0, .null), (.iload_n 2, 1, 2, .null), (.iaload, 1, 0, .null)] (by decide +kernel) rfl ?_
      refine XP_go (pc' := 28) (ls' := [.ref 8, .int x1, .int x2, .int x3]) (st' := [.int ((a 9 (ix x2)) - x1), .int (f_J_abs ((a 9 (ix x3)) - x1))]) (a' := a) [(.iload_n 1, 1, 1, .null), (.isub, 1, 0, .null)] (by decide +kernel) rfl ?_
      refine XP_ST (As := [.int ((a 9 (ix x2)) - x1)]) (rest := [.int (f_J_abs ((a 9 (ix x3)) - x1))]) (idx := 19) (by decide +kernel) ok_J_abs mv_J_abs (n := 1) ⟨lk_K_19, by decide +kernel⟩ rfl (Nat.le_of_ble_eq_true rfl) (Nat.le_of_ble_eq_true rfl) (qI_h rfl) (x_J_abs E ((a 9 (ix x2)) - x1) a) ?_
      refine XP_br (c := (f_J_abs ((a 9 (ix x2)) - x1)) ≤ (f_J_abs ((a 9 (ix x3)) - x1))) (t := 36) (e := 34) (ls' := [.ref 8, .int x1, .int x2, .int x3]) (st' := []) (a' := a) [(.if_icmp .ge 5, 3, 36, .null)] (by decide +kernel) rfl ?_ ?_
      · refine XP_go (pc' := 4) (ls' := [.ref 8, .int x1, .int x2, .int (x3 + 1)]) (st' := []) (a' := a) [(.iinc 3 1, 3, 3, .int 1), (.goto (-35), 3, 4, .null)] (by decide +kernel) rfl ?_
        refine XP_fg [true, true, true, true] ?_
        exact x_K_nearest_4 E N a n x1 x2 (x3 + 1)
      · refine XP_go (pc' := 4) (ls' := [.ref 8, .int x1, .int x3, .int (x3 + 1)]) (st' := []) (a' := a) [(.iload_n 3, 1, 3, .null), (.istore_n 2, 1, 2, .null), (.iinc 3 1, 3, 3, .int 1), (.goto (-35), 3, 4, .null)] (by decide +kernel) rfl ?_
        refine XP_fg [true, true, true, true] ?_
        exact x_K_nearest_4 E N a n x1 x3 (x3 + 1)
set_option maxHeartbeats 4000000 in
set_option maxRecDepth 100000 in
theorem x_K_nearest (E : eT) (N : Nat) (p1 : Int32) (a : aT) : XP qI E md_K_nearest 0 [.ref 8, .int p1, .null, .null] [] a (f_K_nearest N p1 a) := by
  refine XP_go (pc' := 4) (ls' := [.ref 8, .int p1, .int 0, .int 1]) (st' := []) (a' := a) [(.iconst 0, 1, 0, .int 0), (.istore_n 2, 1, 2, .null), (.iconst 1, 1, 0, .int 1), (.istore_n 3, 1, 3, .null)] (by decide +kernel) rfl ?_
  refine XP_fg [true, true, true, true] ?_
  exact x_K_nearest_4 E N a N p1 0 1
/-! ChestnutSticks$Play.give(I)V -/
def md_P_give : md_T := (yX1_give, cX1_give, 2, none, 1, 21)
set_option maxRecDepth 100000 in
theorem ok_P_give : m_ok md_P_give := ⟨List.mem_of_getElem? (i := 530) (by decide +kernel), by decide +kernel, List.mem_of_getElem? (i := 59) (by decide +kernel), by decide +kernel⟩
theorem mv_P_give : Cond.instanceMethod (m_y md_P_give) ∈ lw_tbl ∧ Cond.selects (m_y md_P_give).cls (m_y md_P_give) (m_y md_P_give) ∈ lw_tbl := ⟨List.mem_of_getElem? (i := 529) (by decide +kernel), List.mem_of_getElem? (i := 10) (by decide +kernel)⟩
def f_P_give (p1 : Int32) (a : aT) : Option (Unit × aT) :=
  if (f_C_isBelow p1 4) = 0 then
    some ((), a)
  else
    if inb p1 4 then
      if inb p1 4 then
        some ((), (upA a 17 (ix p1) ((a 17 (ix p1)) + 1)))
      else none
    else none
set_option maxHeartbeats 4000000 in
set_option maxRecDepth 100000 in
theorem x_P_give (E : eT) (p1 : Int32) (a : aT) : XI qV E md_P_give 0 [.ref 14, .int p1] [] a (f_P_give p1 a) := by
  refine XI_go (pc' := 2) (ls' := [.ref 14, .int p1]) (st' := [.int 4, .int p1]) (a' := a) [(.iload_n 1, 1, 1, .null), (.iconst 4, 1, 0, .int 4)] (by decide +kernel) rfl ?_
  refine XI_SNT (As := [.int p1, .int 4]) (rest := []) (idx := 82) (by decide +kernel) ok_C_isBelow mv_C_isBelow (n := 2) ⟨lk_P_82, by decide +kernel⟩ rfl (Nat.le_of_ble_eq_true rfl) (Nat.le_of_ble_eq_true rfl) (qZ_h rfl) (x_C_isBelow E p1 4 a) ?_
  refine XI_br (c := (f_C_isBelow p1 4) = 0) (t := 18) (e := 8) (ls' := [.ref 14, .int p1]) (st' := []) (a' := a) [(.ifCond .eq 13, 3, 18, .null)] (by decide +kernel) rfl ?_ ?_
  · exact XI_retV (by decide +kernel)
  · refine XI_ck (c := inb p1 4) (pc' := 15) (ls' := [.ref 14, .int p1]) (st' := [.int (a 17 (ix p1)), .int p1, .ref 17]) (a' := a) [(.aload_n 0, 1, 0, .null), (.getfield 18, 3, 107, .null), (.iload_n 1, 1, 1, .null), (.dup2, 1, 0, .null), (.iaload, 1, 0, .null)] (by decide +kernel) rfl ?_
    refine XI_ck (c := inb p1 4) (pc' := 18) (ls' := [.ref 14, .int p1]) (st' := []) (a' := (upA a 17 (ix p1) ((a 17 (ix p1)) + 1))) [(.iconst 1, 1, 0, .int 1), (.iadd, 1, 0, .null), (.iastore, 1, 0, .null)] (by decide +kernel) rfl ?_
    exact XI_retV (by decide +kernel)
/-! ChestnutSticks$Play.bringDown(III)V -/
def md_P_bringDown : md_T := (yX1_bringDown, cX1_bringDown, 9, none, 2, 45)
set_option maxRecDepth 100000 in
theorem ok_P_bringDown : m_ok md_P_bringDown := ⟨List.mem_of_getElem? (i := 506) (by decide +kernel), by decide +kernel, List.mem_of_getElem? (i := 59) (by decide +kernel), by decide +kernel⟩
theorem mv_P_bringDown : Cond.instanceMethod (m_y md_P_bringDown) ∈ lw_tbl ∧ Cond.selects (m_y md_P_bringDown).cls (m_y md_P_bringDown) (m_y md_P_bringDown) ∈ lw_tbl := ⟨List.mem_of_getElem? (i := 505) (by decide +kernel), List.mem_of_getElem? (i := 7) (by decide +kernel)⟩
def f_P_bringDown_39 (N : Nat) : Nat → Int32 → Int32 → Int32 → Int32 → Int32 → aT → Option (Unit × aT)
  | 0 => fun _ _ _ _ _ _ => none
  | n + 1 => fun x1 x2 x5 x6 x7 a =>
    if x6 ≤ x7 then
      some ((), a)
    else
      (f_P_hangsIfStruck x5 x2 x7 a).bind fun q4 =>
        if q4 = (-1) then
          f_P_bringDown_39 N n x1 x2 x5 x6 (x7 + 1) a
        else
          (f_P_takeDown x1 ((8 * x2) + x7) a).bind fun q5 =>
            if 2 < q4 then
              f_P_bringDown_39 N n x1 x2 x5 x6 (x7 + 1) (upA q5.2 14 11 ((q5.2 14 11) + 1))
            else
              (f_R_now 3 (upA q5.2 14 10 ((q5.2 14 10) + 1))).bind fun q6 =>
                if q6 = 0 then
                  (f_O_kidAt x1 (upA q5.2 14 10 ((q5.2 14 10) + 1))).bind fun q7 =>
                    (f_P_give q7 (upA q5.2 14 10 ((q5.2 14 10) + 1))).bind fun q8 =>
                      f_P_bringDown_39 N n x1 x2 x5 x6 (x7 + 1) q8.2
                else
                  (f_K_nearest N x7 (upA q5.2 14 10 ((q5.2 14 10) + 1))).bind fun q9 =>
                    (f_P_give q9 (upA q5.2 14 10 ((q5.2 14 10) + 1))).bind fun q10 =>
                      f_P_bringDown_39 N n x1 x2 x5 x6 (x7 + 1) q10.2
def f_P_bringDown (N : Nat) (p1 : Int32) (p2 : Int32) (p3 : Int32) (a : aT) : Option (Unit × aT) :=
  (f_O_stickAt p1 a).bind fun q1 =>
    (f_T_now q1 0 a).bind fun q2 =>
      (f_T_now q1 1 a).bind fun q3 =>
        f_P_bringDown_39 N N p1 p2 q2 (p3 + q3) p3 a
set_option maxHeartbeats 4000000 in
set_option maxRecDepth 100000 in
theorem x_P_bringDown_39 (E : eT) (N : Nat) : ∀ (n : Nat) (x1 : Int32) (x2 : Int32) (x5 : Int32) (x6 : Int32) (x7 : Int32) (a : aT), XI qV E md_P_bringDown 39 [.ref 14, .int x1, .int x2, .null, .null, .int x5, .int x6, .int x7, .null] [] a (f_P_bringDown_39 N n x1 x2 x5 x6 x7 a)
  | 0, _, _, _, _, _, _ => XI_no rfl
  | n + 1, x1, x2, x5, x6, x7, a => by
    refine XI_br (c := x6 ≤ x7) (t := 145) (e := 46) (ls' := [.ref 14, .int x1, .int x2, .null, .null, .int x5, .int x6, .int x7, .null]) (st' := []) (a' := a) [(.iload 7, 2, 7, .null), (.iload 6, 2, 6, .null), (.if_icmp .ge 102, 3, 145, .null)] (by decide +kernel) rfl ?_ ?_
    · exact XI_retV (by decide +kernel)
    · refine XI_go (pc' := 52) (ls' := [.ref 14, .int x1, .int x2, .null, .null, .int x5, .int x6, .int x7, .null]) (st' := [.int x7, .int x2, .int x5, .ref 14]) (a' := a) [(.aload_n 0, 1, 0, .null), (.iload 5, 2, 5, .null), (.iload_n 2, 1, 2, .null), (.iload 7, 2, 7, .null)] (by decide +kernel) rfl ?_
      refine XI_VP (As := [.int x5, .int x2, .int x7]) (rest := []) (b := 14) (idx := 148) (by decide +kernel) ok_P_hangsIfStruck mv_P_hangsIfStruck (n := 3) ⟨lk_P_148, by decide +kernel⟩ rfl rfl rfl rfl (Nat.le_of_ble_eq_true rfl) (Nat.le_of_ble_eq_true rfl) (qI_h rfl) (x_P_hangsIfStruck E x5 x2 x7 a) (fun q4 => ?_)
      refine XI_br (c := q4 = (-1)) (t := 139) (e := 63) (ls' := [.ref 14, .int x1, .int x2, .null, .null, .int x5, .int x6, .int x7, .int q4]) (st' := []) (a' := a) [(.istore 8, 2, 8, .null), (.iload 8, 2, 8, .null), (.iconst (-1), 1, 0, .int (-1)), (.if_icmp .eq 79, 3, 139, .null)] (by decide +kernel) rfl ?_ ?_
      · refine XI_go (pc' := 39) (ls' := [.ref 14, .int x1, .int x2, .null, .null, .int x5, .int x6, .int (x7 + 1), .int q4]) (st' := []) (a' := a) [(.iinc 7 1, 3, 7, .int 1), (.goto (-103), 3, 39, .null)] (by decide +kernel) rfl ?_
        refine XI_fg [true, true, true, false, false, true, true, true, false] ?_
        exact x_P_bringDown_39 E N n x1 x2 x5 x6 (x7 + 1) a
      · refine XI_go (pc' := 72) (ls' := [.ref 14, .int x1, .int x2, .null, .null, .int x5, .int x6, .int x7, .int q4]) (st' := [.int ((8 * x2) + x7), .int x1, .ref 14]) (a' := a) [(.aload_n 0, 1, 0, .null), (.iload_n 1, 1, 1, .null), (.bipush 8, 2, 0, .int 8), (.iload_n 2, 1, 2, .null), (.imul, 1, 0, .null), (.iload 7, 2, 7, .null), (.iadd, 1, 0, .null)] (by decide +kernel) rfl ?_
        refine XI_VI (As := [.int x1, .int ((8 * x2) + x7)]) (rest := []) (b := 14) (idx := 152) (by decide +kernel) ok_P_takeDown mv_P_takeDown (n := 2) ⟨lk_P_152, by decide +kernel⟩ rfl rfl rfl rfl (Nat.le_of_ble_eq_true rfl) (Nat.le_of_ble_eq_true rfl) (qV_h rfl) (x_P_takeDown E x1 ((8 * x2) + x7) a) (fun q5 => ?_)
        refine XI_br (c := 2 < q4) (t := 129) (e := 81) (ls' := [.ref 14, .int x1, .int x2, .null, .null, .int x5, .int x6, .int x7, .int q4]) (st' := []) (a' := q5.2) [(.iload 8, 2, 8, .null), (.iconst 2, 1, 0, .int 2), (.if_icmp .gt 51, 3, 129, .null)] (by decide +kernel) rfl ?_ ?_
        · refine XI_go (pc' := 39) (ls' := [.ref 14, .int x1, .int x2, .null, .null, .int x5, .int x6, .int (x7 + 1), .int q4]) (st' := []) (a' := (upA q5.2 14 11 ((q5.2 14 11) + 1))) [(.aload_n 0, 1, 0, .null), (.dup, 1, 0, .null), (.getfield 31, 3, 111, .null), (.iconst 1, 1, 0, .int 1), (.iadd, 1, 0, .null), (.putfield 31, 3, 111, .int 0), (.iinc 7 1, 3, 7, .int 1), (.goto (-103), 3, 39, .null)] (by decide +kernel) rfl ?_
          refine XI_fg [true, true, true, false, false, true, true, true, false] ?_
          exact x_P_bringDown_39 E N n x1 x2 x5 x6 (x7 + 1) (upA q5.2 14 11 ((q5.2 14 11) + 1))
        · refine XI_go (pc' := 97) (ls' := [.ref 14, .int x1, .int x2, .null, .null, .int x5, .int x6, .int x7, .int q4]) (st' := [.int 3, .ref 6, .ref 14]) (a' := (upA q5.2 14 10 ((q5.2 14 10) + 1))) [(.aload_n 0, 1, 0, .null), (.dup, 1, 0, .null), (.getfield 28, 3, 110, .null), (.iconst 1, 1, 0, .int 1), (.iadd, 1, 0, .null), (.putfield 28, 3, 110, .int 0), (.aload_n 0, 1, 0, .null), (.aload_n 0, 1, 0, .null), (.getfield 48, 3, 102, .null), (.iconst 3, 1, 0, .int 3)] (by decide +kernel) rfl ?_
          refine XI_VP (As := [.int 3]) (rest := [.ref 14]) (b := 6) (idx := 86) (by decide +kernel) ok_R_now mv_R_now (n := 1) ⟨lk_P_86, by decide +kernel⟩ rfl rfl rfl rfl (Nat.le_of_ble_eq_true rfl) (Nat.le_of_ble_eq_true rfl) (qI_h rfl) (x_R_now E 3 (upA q5.2 14 10 ((q5.2 14 10) + 1))) (fun q6 => ?_)
          refine XI_br (c := q6 = 0) (t := 103) (e := 114) (ls' := [.ref 14, .int x1, .int x2, .null, .null, .int x5, .int x6, .int x7, .int q4]) (st' := [.ref 14]) (a' := (upA q5.2 14 10 ((q5.2 14 10) + 1))) [(.ifCond .ne 14, 3, 114, .null)] (by decide +kernel) rfl ?_ ?_
          · refine XI_go (pc' := 108) (ls' := [.ref 14, .int x1, .int x2, .null, .null, .int x5, .int x6, .int x7, .int q4]) (st' := [.int x1, .ref 10, .ref 14]) (a' := (upA q5.2 14 10 ((q5.2 14 10) + 1))) [(.aload_n 0, 1, 0, .null), (.getfield 56, 3, 104, .null), (.iload_n 1, 1, 1, .null)] (by decide +kernel) rfl ?_
            refine XI_VP (As := [.int x1]) (rest := [.ref 14]) (b := 10) (idx := 155) (by decide +kernel) ok_O_kidAt mv_O_kidAt (n := 1) ⟨lk_P_155, by decide +kernel⟩ rfl rfl rfl rfl (Nat.le_of_ble_eq_true rfl) (Nat.le_of_ble_eq_true rfl) (qI_h rfl) (x_O_kidAt E x1 (upA q5.2 14 10 ((q5.2 14 10) + 1))) (fun q7 => ?_)
            refine XI_go (pc' := 123) (ls' := [.ref 14, .int x1, .int x2, .null, .null, .int x5, .int x6, .int x7, .int q4]) (st' := [.int q7, .ref 14]) (a' := (upA q5.2 14 10 ((q5.2 14 10) + 1))) [(.goto 12, 3, 123, .null)] (by decide +kernel) rfl ?_
            refine XI_VI (As := [.int q7]) (rest := []) (b := 14) (idx := 163) (by decide +kernel) ok_P_give mv_P_give (n := 1) ⟨lk_P_163, by decide +kernel⟩ rfl rfl rfl rfl (Nat.le_of_ble_eq_true rfl) (Nat.le_of_ble_eq_true rfl) (qV_h rfl) (x_P_give E q7 (upA q5.2 14 10 ((q5.2 14 10) + 1))) (fun q8 => ?_)
            refine XI_go (pc' := 39) (ls' := [.ref 14, .int x1, .int x2, .null, .null, .int x5, .int x6, .int (x7 + 1), .int q4]) (st' := []) (a' := q8.2) [(.goto 13, 3, 139, .null), (.iinc 7 1, 3, 7, .int 1), (.goto (-103), 3, 39, .null)] (by decide +kernel) rfl ?_
            refine XI_fg [true, true, true, false, false, true, true, true, false] ?_
            exact x_P_bringDown_39 E N n x1 x2 x5 x6 (x7 + 1) q8.2
          · refine XI_go (pc' := 120) (ls' := [.ref 14, .int x1, .int x2, .null, .null, .int x5, .int x6, .int x7, .int q4]) (st' := [.int x7, .ref 8, .ref 14]) (a' := (upA q5.2 14 10 ((q5.2 14 10) + 1))) [(.aload_n 0, 1, 0, .null), (.getfield 52, 3, 103, .null), (.iload 7, 2, 7, .null)] (by decide +kernel) rfl ?_
            refine XI_VP (As := [.int x7]) (rest := [.ref 14]) (b := 8) (idx := 158) (by decide +kernel) ok_K_nearest mv_K_nearest (n := 1) ⟨lk_P_158, by decide +kernel⟩ rfl rfl rfl rfl (Nat.le_of_ble_eq_true rfl) (Nat.le_of_ble_eq_true rfl) (qI_h rfl) (x_K_nearest E N x7 (upA q5.2 14 10 ((q5.2 14 10) + 1))) (fun q9 => ?_)
            refine XI_VI (As := [.int q9]) (rest := []) (b := 14) (idx := 163) (by decide +kernel) ok_P_give mv_P_give (n := 1) ⟨lk_P_163, by decide +kernel⟩ rfl rfl rfl rfl (Nat.le_of_ble_eq_true rfl) (Nat.le_of_ble_eq_true rfl) (qV_h rfl) (x_P_give E q9 (upA q5.2 14 10 ((q5.2 14 10) + 1))) (fun q10 => ?_)
            refine XI_go (pc' := 39) (ls' := [.ref 14, .int x1, .int x2, .null, .null, .int x5, .int x6, .int (x7 + 1), .int q4]) (st' := []) (a' := q10.2) [(.goto 13, 3, 139, .null), (.iinc 7 1, 3, 7, .int 1), (.goto (-103), 3, 39, .null)] (by decide +kernel) rfl ?_
            refine XI_fg [true, true, true, false, false, true, true, true, false] ?_
            exact x_P_bringDown_39 E N n x1 x2 x5 x6 (x7 + 1) q10.2
set_option maxHeartbeats 4000000 in
set_option maxRecDepth 100000 in
theorem x_P_bringDown (E : eT) (N : Nat) (p1 : Int32) (p2 : Int32) (p3 : Int32) (a : aT) : XI qV E md_P_bringDown 0 [.ref 14, .int p1, .int p2, .int p3, .null, .null, .null, .null, .null] [] a (f_P_bringDown N p1 p2 p3 a) := by
  refine XI_go (pc' := 5) (ls' := [.ref 14, .int p1, .int p2, .int p3, .null, .null, .null, .null, .null]) (st' := [.int p1, .ref 10]) (a' := a) [(.aload_n 0, 1, 0, .null), (.getfield 56, 3, 104, .null), (.iload_n 1, 1, 1, .null)] (by decide +kernel) rfl ?_
  refine XI_VP (As := [.int p1]) (rest := []) (b := 10) (idx := 123) (by decide +kernel) ok_O_stickAt mv_O_stickAt (n := 1) ⟨lk_P_123, by decide +kernel⟩ rfl rfl rfl rfl (Nat.le_of_ble_eq_true rfl) (Nat.le_of_ble_eq_true rfl) (qI_h rfl) (x_O_stickAt E p1 a) (fun q1 => ?_)
  refine XI_go (pc' := 17) (ls' := [.ref 14, .int p1, .int p2, .int p3, .int q1, .null, .null, .null, .null]) (st' := [.int 0, .int q1, .ref 4]) (a' := a) [(.istore 4, 2, 4, .null), (.aload_n 0, 1, 0, .null), (.getfield 44, 3, 101, .null), (.iload 4, 2, 4, .null), (.iconst 0, 1, 0, .int 0)] (by decide +kernel) rfl ?_
  refine XI_VP (As := [.int q1, .int 0]) (rest := []) (b := 4) (idx := 108) (by decide +kernel) ok_T_now mv_T_now (n := 2) ⟨lk_P_108, by decide +kernel⟩ rfl rfl rfl rfl (Nat.le_of_ble_eq_true rfl) (Nat.le_of_ble_eq_true rfl) (qI_h rfl) (x_T_now E q1 0 a) (fun q2 => ?_)
  refine XI_go (pc' := 30) (ls' := [.ref 14, .int p1, .int p2, .int p3, .int q1, .int q2, .null, .null, .null]) (st' := [.int 1, .int q1, .ref 4, .int p3]) (a' := a) [(.istore 5, 2, 5, .null), (.iload_n 3, 1, 3, .null), (.aload_n 0, 1, 0, .null), (.getfield 44, 3, 101, .null), (.iload 4, 2, 4, .null), (.iconst 1, 1, 0, .int 1)] (by decide +kernel) rfl ?_
  refine XI_VP (As := [.int q1, .int 1]) (rest := [.int p3]) (b := 4) (idx := 108) (by decide +kernel) ok_T_now mv_T_now (n := 2) ⟨lk_P_108, by decide +kernel⟩ rfl rfl rfl rfl (Nat.le_of_ble_eq_true rfl) (Nat.le_of_ble_eq_true rfl) (qI_h rfl) (x_T_now E q1 1 a) (fun q3 => ?_)
  refine XI_go (pc' := 39) (ls' := [.ref 14, .int p1, .int p2, .int p3, .int q1, .int q2, .int (p3 + q3), .int p3, .null]) (st' := []) (a' := a) [(.iadd, 1, 0, .null), (.istore 6, 2, 6, .null), (.iload_n 3, 1, 3, .null), (.istore 7, 2, 7, .null)] (by decide +kernel) rfl ?_
  refine XI_fg [true, true, true, false, false, true, true, true, false] ?_
  exact x_P_bringDown_39 E N N p1 p2 q2 (p3 + q3) p3 a
/-! ChestnutSticks$Play.strikes(IIII)Z -/
def md_P_strikes : md_T := (yX1_strikes, cX1_strikes, 5, (some .boolean), 0, 0)
set_option maxRecDepth 100000 in
theorem ok_P_strikes : m_ok md_P_strikes := ⟨List.mem_of_getElem? (i := 537) (by decide +kernel), by decide +kernel, List.mem_of_getElem? (i := 59) (by decide +kernel), by decide +kernel⟩
theorem mv_P_strikes : Cond.static (m_y md_P_strikes) ∈ lw_tbl := List.mem_of_getElem? (i := 536) (by decide +kernel)
def f_P_strikes (p1 : Int32) (p2 : Int32) (p3 : Int32) (p4 : Int32) : Int32 :=
  if (p4 / 8) = p1 then
    if (i_rem p4 8) < p2 then
      0
    else
      if (p2 + p3) ≤ (i_rem p4 8) then
        0
      else
        1
  else
    0
set_option maxHeartbeats 4000000 in
set_option maxRecDepth 100000 in
theorem x_P_strikes (E : eT) (p1 : Int32) (p2 : Int32) (p3 : Int32) (p4 : Int32) (a : aT) : XT qZ E md_P_strikes 0 [.int p1, .int p2, .int p3, .int p4, .null] [] a (f_P_strikes p1 p2 p3 p4) := by
  refine XT_br (c := (p4 / 8) = p1) (t := 14) (e := 32) (ls' := [.int p1, .int p2, .int p3, .int p4, .int (i_rem p4 8)]) (st' := []) (a' := a) [(.iload_n 3, 1, 3, .null), (.bipush 8, 2, 0, .int 8), (.irem, 1, 0, .null), (.istore 4, 2, 4, .null), (.iload_n 3, 1, 3, .null), (.bipush 8, 2, 0, .int 8), (.idiv, 1, 0, .null), (.iload_n 0, 1, 0, .null), (.if_icmp .ne 21, 3, 32, .null)] (by decide +kernel) rfl ?_ ?_
  · refine XT_br (c := (i_rem p4 8) < p2) (t := 32) (e := 20) (ls' := [.int p1, .int p2, .int p3, .int p4, .int (i_rem p4 8)]) (st' := []) (a' := a) [(.iload 4, 2, 4, .null), (.iload_n 1, 1, 1, .null), (.if_icmp .lt 15, 3, 32, .null)] (by decide +kernel) rfl ?_ ?_
    · refine XT_go (pc' := 33) (ls' := [.int p1, .int p2, .int p3, .int p4, .int (i_rem p4 8)]) (st' := [.int 0]) (a' := a) [(.iconst 0, 1, 0, .int 0)] (by decide +kernel) rfl ?_
      exact XT_retZ (by decide +kernel) rfl
    · refine XT_br (c := (p2 + p3) ≤ (i_rem p4 8)) (t := 32) (e := 28) (ls' := [.int p1, .int p2, .int p3, .int p4, .int (i_rem p4 8)]) (st' := []) (a' := a) [(.iload 4, 2, 4, .null), (.iload_n 1, 1, 1, .null), (.iload_n 2, 1, 2, .null), (.iadd, 1, 0, .null), (.if_icmp .ge 7, 3, 32, .null)] (by decide +kernel) rfl ?_ ?_
      · refine XT_go (pc' := 33) (ls' := [.int p1, .int p2, .int p3, .int p4, .int (i_rem p4 8)]) (st' := [.int 0]) (a' := a) [(.iconst 0, 1, 0, .int 0)] (by decide +kernel) rfl ?_
        exact XT_retZ (by decide +kernel) rfl
      · refine XT_go (pc' := 33) (ls' := [.int p1, .int p2, .int p3, .int p4, .int (i_rem p4 8)]) (st' := [.int 1]) (a' := a) [(.iconst 1, 1, 0, .int 1), (.goto 4, 3, 33, .null)] (by decide +kernel) rfl ?_
        exact XT_retZ (by decide +kernel) rfl
  · refine XT_go (pc' := 33) (ls' := [.int p1, .int p2, .int p3, .int p4, .int (i_rem p4 8)]) (st' := [.int 0]) (a' := a) [(.iconst 0, 1, 0, .int 0)] (by decide +kernel) rfl ?_
    exact XT_retZ (by decide +kernel) rfl
/-! ChestnutSticks$Play.freeSticks(III)V -/
def md_P_freeSticks : md_T := (yX1_freeSticks, cX1_freeSticks, 5, none, 1, 24)
set_option maxRecDepth 100000 in
theorem ok_P_freeSticks : m_ok md_P_freeSticks := ⟨List.mem_of_getElem? (i := 534) (by decide +kernel), by decide +kernel, List.mem_of_getElem? (i := 59) (by decide +kernel), by decide +kernel⟩
theorem mv_P_freeSticks : Cond.instanceMethod (m_y md_P_freeSticks) ∈ lw_tbl ∧ Cond.selects (m_y md_P_freeSticks).cls (m_y md_P_freeSticks) (m_y md_P_freeSticks) ∈ lw_tbl := ⟨List.mem_of_getElem? (i := 533) (by decide +kernel), List.mem_of_getElem? (i := 11) (by decide +kernel)⟩
def f_P_freeSticks_3 (N : Nat) : Nat → Int32 → Int32 → Int32 → Int32 → aT → Option (Unit × aT)
  | 0 => fun _ _ _ _ _ => none
  | n + 1 => fun x1 x2 x3 x4 a =>
    if 4 ≤ x4 then
      some ((), a)
    else
      if inb x4 4 then
        if (a 16 (ix x4)) = (-1) then
          f_P_freeSticks_3 N n x1 x2 x3 (x4 + 1) a
        else
          if inb x4 4 then
            if (f_P_strikes x1 x2 x3 (a 16 (ix x4))) = 0 then
              f_P_freeSticks_3 N n x1 x2 x3 (x4 + 1) a
            else
              if inb x4 4 then
                f_P_freeSticks_3 N n x1 x2 x3 (x4 + 1) (upA a 16 (ix x4) (-1))
              else none
          else none
      else none
def f_P_freeSticks (N : Nat) (p1 : Int32) (p2 : Int32) (p3 : Int32) (a : aT) : Option (Unit × aT) :=
  f_P_freeSticks_3 N N p1 p2 p3 0 a
set_option maxHeartbeats 4000000 in
set_option maxRecDepth 100000 in
theorem x_P_freeSticks_3 (E : eT) (N : Nat) : ∀ (n : Nat) (x1 : Int32) (x2 : Int32) (x3 : Int32) (x4 : Int32) (a : aT), XI qV E md_P_freeSticks 3 [.ref 14, .int x1, .int x2, .int x3, .int x4] [] a (f_P_freeSticks_3 N n x1 x2 x3 x4 a)
  | 0, _, _, _, _, _ => XI_no rfl
  | n + 1, x1, x2, x3, x4, a => by
    refine XI_br (c := 4 ≤ x4) (t := 50) (e := 9) (ls' := [.ref 14, .int x1, .int x2, .int x3, .int x4]) (st' := []) (a' := a) [(.iload 4, 2, 4, .null), (.iconst 4, 1, 0, .int 4), (.if_icmp .ge 44, 3, 50, .null)] (by decide +kernel) rfl ?_ ?_
    · exact XI_retV (by decide +kernel)
    · refine XI_ck (c := inb x4 4) (pc' := 16) (ls' := [.ref 14, .int x1, .int x2, .int x3, .int x4]) (st' := [.int (a 16 (ix x4))]) (a' := a) [(.aload_n 0, 1, 0, .null), (.getfield 15, 3, 106, .null), (.iload 4, 2, 4, .null), (.iaload, 1, 0, .null)] (by decide +kernel) rfl ?_
      refine XI_br (c := (a 16 (ix x4)) = (-1)) (t := 44) (e := 20) (ls' := [.ref 14, .int x1, .int x2, .int x3, .int x4]) (st' := []) (a' := a) [(.iconst (-1), 1, 0, .int (-1)), (.if_icmp .eq 27, 3, 44, .null)] (by decide +kernel) rfl ?_ ?_
      · refine XI_go (pc' := 3) (ls' := [.ref 14, .int x1, .int x2, .int x3, .int (x4 + 1)]) (st' := []) (a' := a) [(.iinc 4 1, 3, 4, .int 1), (.goto (-44), 3, 3, .null)] (by decide +kernel) rfl ?_
        refine XI_fg [true, true, true, true, true] ?_
        exact x_P_freeSticks_3 E N n x1 x2 x3 (x4 + 1) a
      · refine XI_ck (c := inb x4 4) (pc' := 30) (ls' := [.ref 14, .int x1, .int x2, .int x3, .int x4]) (st' := [.int (a 16 (ix x4)), .int x3, .int x2, .int x1]) (a' := a) [(.iload_n 1, 1, 1, .null), (.iload_n 2, 1, 2, .null), (.iload_n 3, 1, 3, .null), (.aload_n 0, 1, 0, .null), (.getfield 15, 3, 106, .null), (.iload 4, 2, 4, .null), (.iaload, 1, 0, .null)] (by decide +kernel) rfl ?_
        refine XI_ST (As := [.int x1, .int x2, .int x3, .int (a 16 (ix x4))]) (rest := []) (idx := 112) (by decide +kernel) ok_P_strikes mv_P_strikes (n := 4) ⟨lk_P_112, by decide +kernel⟩ rfl (Nat.le_of_ble_eq_true rfl) (Nat.le_of_ble_eq_true rfl) (qZ_h rfl) (x_P_strikes E x1 x2 x3 (a 16 (ix x4)) a) ?_
        refine XI_br (c := (f_P_strikes x1 x2 x3 (a 16 (ix x4))) = 0) (t := 44) (e := 36) (ls' := [.ref 14, .int x1, .int x2, .int x3, .int x4]) (st' := []) (a' := a) [(.ifCond .eq 11, 3, 44, .null)] (by decide +kernel) rfl ?_ ?_
        · refine XI_go (pc' := 3) (ls' := [.ref 14, .int x1, .int x2, .int x3, .int (x4 + 1)]) (st' := []) (a' := a) [(.iinc 4 1, 3, 4, .int 1), (.goto (-44), 3, 3, .null)] (by decide +kernel) rfl ?_
          refine XI_fg [true, true, true, true, true] ?_
          exact x_P_freeSticks_3 E N n x1 x2 x3 (x4 + 1) a
        · refine XI_ck (c := inb x4 4) (pc' := 44) (ls' := [.ref 14, .int x1, .int x2, .int x3, .int x4]) (st' := []) (a' := (upA a 16 (ix x4) (-1))) [(.aload_n 0, 1, 0, .null), (.getfield 15, 3, 106, .null), (.iload 4, 2, 4, .null), (.iconst (-1), 1, 0, .int (-1)), (.iastore, 1, 0, .null)] (by decide +kernel) rfl ?_
          refine XI_go (pc' := 3) (ls' := [.ref 14, .int x1, .int x2, .int x3, .int (x4 + 1)]) (st' := []) (a' := (upA a 16 (ix x4) (-1))) [(.iinc 4 1, 3, 4, .int 1), (.goto (-44), 3, 3, .null)] (by decide +kernel) rfl ?_
          refine XI_fg [true, true, true, true, true] ?_
          exact x_P_freeSticks_3 E N n x1 x2 x3 (x4 + 1) (upA a 16 (ix x4) (-1))
set_option maxHeartbeats 4000000 in
set_option maxRecDepth 100000 in
theorem x_P_freeSticks (E : eT) (N : Nat) (p1 : Int32) (p2 : Int32) (p3 : Int32) (a : aT) : XI qV E md_P_freeSticks 0 [.ref 14, .int p1, .int p2, .int p3, .null] [] a (f_P_freeSticks N p1 p2 p3 a) := by
  refine XI_go (pc' := 3) (ls' := [.ref 14, .int p1, .int p2, .int p3, .int 0]) (st' := []) (a' := a) [(.iconst 0, 1, 0, .int 0), (.istore 4, 2, 4, .null)] (by decide +kernel) rfl ?_
  refine XI_fg [true, true, true, true, true] ?_
  exact x_P_freeSticks_3 E N N p1 p2 p3 0 a
