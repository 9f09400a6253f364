/-! ChestnutSticks$Tree.clearCells()V -/
def md_E_clearCells : md_T := (yX9_clearCells, cX9_clearCells, 2, none, 0, 0)
set_option maxRecDepth 100000 in
theorem ok_E_clearCells : m_ok md_E_clearCells := ⟨List.mem_of_getElem? (i := 83) (by decide +kernel), by decide +kernel, List.mem_of_getElem? (i := 54) (by decide +kernel), by decide +kernel⟩
theorem mv_E_clearCells : Cond.instanceMethod (m_y md_E_clearCells) ∈ lw_tbl ∧ Cond.selects (m_y md_E_clearCells).cls (m_y md_E_clearCells) (m_y md_E_clearCells) ∈ lw_tbl := ⟨List.mem_of_getElem? (i := 82) (by decide +kernel), List.mem_of_getElem? (i := 0) (by decide +kernel)⟩
def f_E_clearCells_2 (N : Nat) : Nat → Int32 → aT → Option (Unit × aT)
  | 0 => fun _ _ => none
  | n + 1 => fun x1 a =>
    if 48 ≤ x1 then
      some ((), a)
    else
      if inb x1 48 then
        f_E_clearCells_2 N n (x1 + 1) (upA a 3 (ix x1) (-2))
      else none
def f_E_clearCells (N : Nat) (a : aT) : Option (Unit × aT) :=
  f_E_clearCells_2 N N 0 a
set_option maxHeartbeats 4000000 in
set_option maxRecDepth 100000 in
theorem x_E_clearCells_2 (E : eT) (N : Nat) : ∀ (n : Nat) (x1 : Int32) (a : aT), XI qV E md_E_clearCells 2 [.ref 1, .int x1] [] a (f_E_clearCells_2 N n x1 a)
  | 0, _, _ => XI_no rfl
  | n + 1, x1, a => by
    refine XI_br (c := 48 ≤ x1) (t := 22) (e := 8) (ls' := [.ref 1, .int x1]) (st' := []) (a' := a) [(.iload_n 1, 1, 1, .null), (.bipush 48, 2, 0, .int 48), (.if_icmp .ge 17, 3, 22, .null)] (by decide +kernel) rfl ?_ ?_
    · exact XI_retV (by decide +kernel)
    · refine XI_ck (c := inb x1 48) (pc' := 16) (ls' := [.ref 1, .int x1]) (st' := []) (a' := (upA a 3 (ix x1) (-2))) [(.aload_n 0, 1, 0, .null), (.getfield 15, 3, 901, .null), (.iload_n 1, 1, 1, .null), (.bipush (-2), 2, 0, .int (-2)), (.iastore, 1, 0, .null)] (by decide +kernel) rfl ?_
      refine XI_go (pc' := 2) (ls' := [.ref 1, .int (x1 + 1)]) (st' := []) (a' := (upA a 3 (ix x1) (-2))) [(.iinc 1 1, 3, 1, .int 1), (.goto (-17), 3, 2, .null)] (by decide +kernel) rfl ?_
      refine XI_fg [true, true] ?_
      exact x_E_clearCells_2 E N n (x1 + 1) (upA a 3 (ix x1) (-2))
set_option maxHeartbeats 4000000 in
set_option maxRecDepth 100000 in
theorem x_E_clearCells (E : eT) (N : Nat) (a : aT) : XI qV E md_E_clearCells 0 [.ref 1, .null] [] a (f_E_clearCells N a) := by
  refine XI_go (pc' := 2) (ls' := [.ref 1, .int 0]) (st' := []) (a' := a) [(.iconst 0, 1, 0, .int 0), (.istore_n 1, 1, 1, .null)] (by decide +kernel) rfl ?_
  refine XI_fg [true, true] ?_
  exact x_E_clearCells_2 E N N 0 a
/-! ChestnutSticks.isBelow(II)Z -/
def md_C_isBelow : md_T := (yX10_isBelow, cX10_isBelow, 2, (some .boolean), 0, 0)
set_option maxRecDepth 100000 in
theorem ok_C_isBelow : m_ok md_C_isBelow := ⟨List.mem_of_getElem? (i := 304) (by decide +kernel), by decide +kernel, List.mem_of_getElem? (i := 53) (by decide +kernel), by decide +kernel⟩
theorem mv_C_isBelow : Cond.static (m_y md_C_isBelow) ∈ lw_tbl := List.mem_of_getElem? (i := 303) (by decide +kernel)
def f_C_isBelow (p1 : Int32) (p2 : Int32) : Int32 :=
  if p1 < 0 then
    0
  else
    if p2 ≤ p1 then
      0
    else
      1
set_option maxHeartbeats 4000000 in
set_option maxRecDepth 100000 in
theorem x_C_isBelow (E : eT) (p1 : Int32) (p2 : Int32) (a : aT) : XT qZ E md_C_isBelow 0 [.int p1, .int p2] [] a (f_C_isBelow p1 p2) := by
  refine XT_br (c := p1 < 0) (t := 13) (e := 4) (ls' := [.int p1, .int p2]) (st' := []) (a' := a) [(.iload_n 0, 1, 0, .null), (.ifCond .lt 12, 3, 13, .null)] (by decide +kernel) rfl ?_ ?_
  · refine XT_go (pc' := 14) (ls' := [.int p1, .int p2]) (st' := [.int 0]) (a' := a) [(.iconst 0, 1, 0, .int 0)] (by decide +kernel) rfl ?_
    exact XT_retZ (by decide +kernel) rfl
  · refine XT_br (c := p2 ≤ p1) (t := 13) (e := 9) (ls' := [.int p1, .int p2]) (st' := []) (a' := a) [(.iload_n 0, 1, 0, .null), (.iload_n 1, 1, 1, .null), (.if_icmp .ge 7, 3, 13, .null)] (by decide +kernel) rfl ?_ ?_
    · refine XT_go (pc' := 14) (ls' := [.int p1, .int p2]) (st' := [.int 0]) (a' := a) [(.iconst 0, 1, 0, .int 0)] (by decide +kernel) rfl ?_
      exact XT_retZ (by decide +kernel) rfl
    · refine XT_go (pc' := 14) (ls' := [.int p1, .int p2]) (st' := [.int 1]) (a' := a) [(.iconst 1, 1, 0, .int 1), (.goto 4, 3, 14, .null)] (by decide +kernel) rfl ?_
      exact XT_retZ (by decide +kernel) rfl
/-! ChestnutSticks$Tree.isTooSoon(III)Z -/
def md_E_isTooSoon : md_T := (yX9_isTooSoon, cX9_isTooSoon, 3, (some .boolean), 0, 0)
set_option maxRecDepth 100000 in
theorem ok_E_isTooSoon : m_ok md_E_isTooSoon := ⟨List.mem_of_getElem? (i := 315) (by decide +kernel), by decide +kernel, List.mem_of_getElem? (i := 54) (by decide +kernel), by decide +kernel⟩
theorem mv_E_isTooSoon : Cond.static (m_y md_E_isTooSoon) ∈ lw_tbl := List.mem_of_getElem? (i := 314) (by decide +kernel)
def f_E_isTooSoon (p1 : Int32) (p2 : Int32) (p3 : Int32) : Int32 :=
  if p2 = 0 then
    1
  else
    if p1 ≤ 0 then
      0
    else
      if p3 ≤ p2 then
        0
      else
        1
set_option maxHeartbeats 4000000 in
set_option maxRecDepth 100000 in
theorem x_E_isTooSoon (E : eT) (p1 : Int32) (p2 : Int32) (p3 : Int32) (a : aT) : XT qZ E md_E_isTooSoon 0 [.int p1, .int p2, .int p3] [] a (f_E_isTooSoon p1 p2 p3) := by
  refine XT_br (c := p2 = 0) (t := 13) (e := 4) (ls' := [.int p1, .int p2, .int p3]) (st' := []) (a' := a) [(.iload_n 1, 1, 1, .null), (.ifCond .eq 12, 3, 13, .null)] (by decide +kernel) rfl ?_ ?_
  · refine XT_go (pc' := 18) (ls' := [.int p1, .int p2, .int p3]) (st' := [.int 1]) (a' := a) [(.iconst 1, 1, 0, .int 1), (.goto 4, 3, 18, .null)] (by decide +kernel) rfl ?_
    exact XT_retZ (by decide +kernel) rfl
  · refine XT_br (c := p1 ≤ 0) (t := 17) (e := 8) (ls' := [.int p1, .int p2, .int p3]) (st' := []) (a' := a) [(.iload_n 0, 1, 0, .null), (.ifCond .le 12, 3, 17, .null)] (by decide +kernel) rfl ?_ ?_
    · refine XT_go (pc' := 18) (ls' := [.int p1, .int p2, .int p3]) (st' := [.int 0]) (a' := a) [(.iconst 0, 1, 0, .int 0)] (by decide +kernel) rfl ?_
      exact XT_retZ (by decide +kernel) rfl
    · refine XT_br (c := p3 ≤ p2) (t := 17) (e := 13) (ls' := [.int p1, .int p2, .int p3]) (st' := []) (a' := a) [(.iload_n 1, 1, 1, .null), (.iload_n 2, 1, 2, .null), (.if_icmp .ge 7, 3, 17, .null)] (by decide +kernel) rfl ?_ ?_
      · refine XT_go (pc' := 18) (ls' := [.int p1, .int p2, .int p3]) (st' := [.int 0]) (a' := a) [(.iconst 0, 1, 0, .int 0)] (by decide +kernel) rfl ?_
        exact XT_retZ (by decide +kernel) rfl
      · refine XT_go (pc' := 18) (ls' := [.int p1, .int p2, .int p3]) (st' := [.int 1]) (a' := a) [(.iconst 1, 1, 0, .int 1), (.goto 4, 3, 18, .null)] (by decide +kernel) rfl ?_
        exact XT_retZ (by decide +kernel) rfl
/-! ChestnutSticks$Tree.isCellSign(I)Z -/
def md_E_isCellSign : md_T := (yX9_isCellSign, cX9_isCellSign, 1, (some .boolean), 0, 0)
set_option maxRecDepth 100000 in
theorem ok_E_isCellSign : m_ok md_E_isCellSign := ⟨List.mem_of_getElem? (i := 318) (by decide +kernel), by decide +kernel, List.mem_of_getElem? (i := 54) (by decide +kernel), by decide +kernel⟩
theorem mv_E_isCellSign : Cond.static (m_y md_E_isCellSign) ∈ lw_tbl := List.mem_of_getElem? (i := 317) (by decide +kernel)
def f_E_isCellSign (p1 : Int32) : Int32 :=
  if p1 = 46 then
    1
  else
    if p1 < 48 then
      0
    else
      if 57 < p1 then
        0
      else
        1
set_option maxHeartbeats 4000000 in
set_option maxRecDepth 100000 in
theorem x_E_isCellSign (E : eT) (p1 : Int32) (a : aT) : XT qZ E md_E_isCellSign 0 [.int p1] [] a (f_E_isCellSign p1) := by
  refine XT_br (c := p1 = 46) (t := 18) (e := 6) (ls' := [.int p1]) (st' := []) (a' := a) [(.iload_n 0, 1, 0, .null), (.bipush 46, 2, 0, .int 46), (.if_icmp .eq 15, 3, 18, .null)] (by decide +kernel) rfl ?_ ?_
  · refine XT_go (pc' := 23) (ls' := [.int p1]) (st' := [.int 1]) (a' := a) [(.iconst 1, 1, 0, .int 1), (.goto 4, 3, 23, .null)] (by decide +kernel) rfl ?_
    exact XT_retZ (by decide +kernel) rfl
  · refine XT_br (c := p1 < 48) (t := 22) (e := 12) (ls' := [.int p1]) (st' := []) (a' := a) [(.iload_n 0, 1, 0, .null), (.bipush 48, 2, 0, .int 48), (.if_icmp .lt 13, 3, 22, .null)] (by decide +kernel) rfl ?_ ?_
    · refine XT_go (pc' := 23) (ls' := [.int p1]) (st' := [.int 0]) (a' := a) [(.iconst 0, 1, 0, .int 0)] (by decide +kernel) rfl ?_
      exact XT_retZ (by decide +kernel) rfl
    · refine XT_br (c := 57 < p1) (t := 22) (e := 18) (ls' := [.int p1]) (st' := []) (a' := a) [(.iload_n 0, 1, 0, .null), (.bipush 57, 2, 0, .int 57), (.if_icmp .gt 7, 3, 22, .null)] (by decide +kernel) rfl ?_ ?_
      · refine XT_go (pc' := 23) (ls' := [.int p1]) (st' := [.int 0]) (a' := a) [(.iconst 0, 1, 0, .int 0)] (by decide +kernel) rfl ?_
        exact XT_retZ (by decide +kernel) rfl
      · refine XT_go (pc' := 23) (ls' := [.int p1]) (st' := [.int 1]) (a' := a) [(.iconst 1, 1, 0, .int 1), (.goto 4, 3, 23, .null)] (by decide +kernel) rfl ?_
        exact XT_retZ (by decide +kernel) rfl
/-! ChestnutSticks$Tree.fillCells()I -/
def md_E_fillCells : md_T := (yX9_fillCells, cX9_fillCells, 7, (some .int), 1, 22)
set_option maxRecDepth 100000 in
theorem ok_E_fillCells : m_ok md_E_fillCells := ⟨List.mem_of_getElem? (i := 312) (by decide +kernel), by decide +kernel, List.mem_of_getElem? (i := 54) (by decide +kernel), by decide +kernel⟩
theorem mv_E_fillCells : Cond.instanceMethod (m_y md_E_fillCells) ∈ lw_tbl ∧ Cond.selects (m_y md_E_fillCells).cls (m_y md_E_fillCells) (m_y md_E_fillCells) ∈ lw_tbl := ⟨List.mem_of_getElem? (i := 311) (by decide +kernel), List.mem_of_getElem? (i := 2) (by decide +kernel)⟩
def f_E_fillCells_139 (N : Nat) (x1 : Int32) (x2 : Int32) (x3 : Int32) (a : aT) : Option (Int32 × aT) :=
  if (a 1 2) ≤ 0 then
    some ((-1), a)
  else
    if (f_E_isTooSoon x1 x2 x3) = 0 then
      some ((-1), a)
    else
      some ((a 1 2), a)
def f_E_fillCells_10 (N : Nat) : Nat → Int32 → Int32 → Int32 → Int32 → aT → Option (Int32 × aT)
  | 0 => fun _ _ _ _ _ => none
  | n + 1 => fun x1 x2 x3 x4 a =>
    if (a 1 2) ≤ x4 then
      f_E_fillCells_139 N x1 x2 x3 a
    else
      if 53 ≤ x4 then
        f_E_fillCells_139 N x1 x2 x3 a
      else
        if inb x4 53 then
          if x1 < 6 then
            if (a 2 (ix x4)) = 59 then
              if (f_E_isTooSoon x1 x2 x3) = 0 then
                f_E_fillCells_10 N n (x1 + 1) 0 x2 (x4 + 1) a
              else
                some (x4, a)
            else
              if (f_E_isCellSign (a 2 (ix x4))) = 0 then
                some (x4, a)
              else
                if x3 ≤ x2 then
                  some (x4, a)
                else
                  if (f_C_isBelow ((8 * x1) + x2) 48) = 0 then
                    some (x4, a)
                  else
                    if (a 2 (ix x4)) = 46 then
                      if inb ((8 * x1) + x2) 48 then
                        f_E_fillCells_10 N n x1 (x2 + 1) x3 (x4 + 1) (upA a 3 (ix ((8 * x1) + x2)) (-1))
                      else none
                    else
                      if inb ((8 * x1) + x2) 48 then
                        f_E_fillCells_10 N n x1 (x2 + 1) x3 (x4 + 1) (upA a 3 (ix ((8 * x1) + x2)) ((a 2 (ix x4)) - 48))
                      else none
          else
            some (x4, a)
        else none
def f_E_fillCells (N : Nat) (a : aT) : Option (Int32 × aT) :=
  f_E_fillCells_10 N N 0 0 8 0 a
set_option maxHeartbeats 4000000 in
set_option maxRecDepth 100000 in
theorem x_E_fillCells_139 (E : eT) (N : Nat) (x1 : Int32) (x2 : Int32) (x3 : Int32) (a : aT) : XI qI E md_E_fillCells 139 [.ref 1, .int x1, .int x2, .int x3, .null, .null, .null] [] a (f_E_fillCells_139 N x1 x2 x3 a) := by
  refine XI_br (c := (a 1 2) ≤ 0) (t := 162) (e := 146) (ls' := [.ref 1, .int x1, .int x2, .int x3, .null, .null, .null]) (st' := []) (a' := a) [(.aload_n 0, 1, 0, .null), (.getfield 18, 3, 902, .null), (.ifCond .le 19, 3, 162, .null)] (by decide +kernel) rfl ?_ ?_
  · refine XI_go (pc' := 163) (ls' := [.ref 1, .int x1, .int x2, .int x3, .null, .null, .null]) (st' := [.int (-1)]) (a' := a) [(.iconst (-1), 1, 0, .int (-1))] (by decide +kernel) rfl ?_
    exact XI_retI (by decide +kernel)
  · refine XI_go (pc' := 149) (ls' := [.ref 1, .int x1, .int x2, .int x3, .null, .null, .null]) (st' := [.int x3, .int x2, .int x1]) (a' := a) [(.iload_n 1, 1, 1, .null), (.iload_n 2, 1, 2, .null), (.iload_n 3, 1, 3, .null)] (by decide +kernel) rfl ?_
    refine XI_ST (As := [.int x1, .int x2, .int x3]) (rest := []) (idx := 55) (by decide +kernel) ok_E_isTooSoon mv_E_isTooSoon (n := 3) ⟨lk_E_55, by decide +kernel⟩ rfl (Nat.le_of_ble_eq_true rfl) (Nat.le_of_ble_eq_true rfl) (qZ_h rfl) (x_E_isTooSoon E x1 x2 x3 a) ?_
    refine XI_br (c := (f_E_isTooSoon x1 x2 x3) = 0) (t := 162) (e := 155) (ls' := [.ref 1, .int x1, .int x2, .int x3, .null, .null, .null]) (st' := []) (a' := a) [(.ifCond .eq 10, 3, 162, .null)] (by decide +kernel) rfl ?_ ?_
    · refine XI_go (pc' := 163) (ls' := [.ref 1, .int x1, .int x2, .int x3, .null, .null, .null]) (st' := [.int (-1)]) (a' := a) [(.iconst (-1), 1, 0, .int (-1))] (by decide +kernel) rfl ?_
      exact XI_retI (by decide +kernel)
    · refine XI_go (pc' := 163) (ls' := [.ref 1, .int x1, .int x2, .int x3, .null, .null, .null]) (st' := [.int (a 1 2)]) (a' := a) [(.aload_n 0, 1, 0, .null), (.getfield 18, 3, 902, .null), (.goto 4, 3, 163, .null)] (by decide +kernel) rfl ?_
      exact XI_retI (by decide +kernel)
set_option maxHeartbeats 4000000 in
set_option maxRecDepth 100000 in
theorem x_E_fillCells_10 (E : eT) (N : Nat) : ∀ (n : Nat) (x1 : Int32) (x2 : Int32) (x3 : Int32) (x4 : Int32) (a : aT), XI qI E md_E_fillCells 10 [.ref 1, .int x1, .int x2, .int x3, .int x4, .null, .null] [] a (f_E_fillCells_10 N n x1 x2 x3 x4 a)
  | 0, _, _, _, _, _ => XI_no rfl
  | n + 1, x1, x2, x3, x4, a => by
    refine XI_br (c := (a 1 2) ≤ x4) (t := 139) (e := 19) (ls' := [.ref 1, .int x1, .int x2, .int x3, .int x4, .null, .null]) (st' := []) (a' := a) [(.iload 4, 2, 4, .null), (.aload_n 0, 1, 0, .null), (.getfield 18, 3, 902, .null), (.if_icmp .ge 123, 3, 139, .null)] (by decide +kernel) rfl ?_ ?_
    · refine XI_fg [true, true, true, true, false, false, false] ?_
      exact x_E_fillCells_139 E N x1 x2 x3 a
    · refine XI_br (c := 53 ≤ x4) (t := 139) (e := 26) (ls' := [.ref 1, .int x1, .int x2, .int x3, .int x4, .null, .null]) (st' := []) (a' := a) [(.iload 4, 2, 4, .null), (.bipush 53, 2, 0, .int 53), (.if_icmp .ge 116, 3, 139, .null)] (by decide +kernel) rfl ?_ ?_
      · refine XI_fg [true, true, true, true, false, false, false] ?_
        exact x_E_fillCells_139 E N x1 x2 x3 a
      · refine XI_ck (c := inb x4 53) (pc' := 33) (ls' := [.ref 1, .int x1, .int x2, .int x3, .int x4, .null, .null]) (st' := [.int (a 2 (ix x4))]) (a' := a) [(.aload_n 0, 1, 0, .null), (.getfield 9, 3, 900, .null), (.iload 4, 2, 4, .null), (.iaload, 1, 0, .null)] (by decide +kernel) rfl ?_
        refine XI_br (c := x1 < 6) (t := 44) (e := 41) (ls' := [.ref 1, .int x1, .int x2, .int x3, .int x4, .int (a 2 (ix x4)), .null]) (st' := []) (a' := a) [(.istore 5, 2, 5, .null), (.iload_n 1, 1, 1, .null), (.bipush 6, 2, 0, .int 6), (.if_icmp .lt 6, 3, 44, .null)] (by decide +kernel) rfl ?_ ?_
        · refine XI_br (c := (a 2 (ix x4)) = 59) (t := 51) (e := 73) (ls' := [.ref 1, .int x1, .int x2, .int x3, .int x4, .int (a 2 (ix x4)), .null]) (st' := []) (a' := a) [(.iload 5, 2, 5, .null), (.bipush 59, 2, 0, .int 59), (.if_icmp .ne 25, 3, 73, .null)] (by decide +kernel) rfl ?_ ?_
          · refine XI_go (pc' := 54) (ls' := [.ref 1, .int x1, .int x2, .int x3, .int x4, .int (a 2 (ix x4)), .null]) (st' := [.int x3, .int x2, .int x1]) (a' := a) [(.iload_n 1, 1, 1, .null), (.iload_n 2, 1, 2, .null), (.iload_n 3, 1, 3, .null)] (by decide +kernel) rfl ?_
            refine XI_ST (As := [.int x1, .int x2, .int x3]) (rest := []) (idx := 55) (by decide +kernel) ok_E_isTooSoon mv_E_isTooSoon (n := 3) ⟨lk_E_55, by decide +kernel⟩ rfl (Nat.le_of_ble_eq_true rfl) (Nat.le_of_ble_eq_true rfl) (qZ_h rfl) (x_E_isTooSoon E x1 x2 x3 a) ?_
            refine XI_br (c := (f_E_isTooSoon x1 x2 x3) = 0) (t := 63) (e := 60) (ls' := [.ref 1, .int x1, .int x2, .int x3, .int x4, .int (a 2 (ix x4)), .null]) (st' := []) (a' := a) [(.ifCond .eq 6, 3, 63, .null)] (by decide +kernel) rfl ?_ ?_
            · refine XI_go (pc' := 10) (ls' := [.ref 1, .int (x1 + 1), .int 0, .int x2, .int (x4 + 1), .int (a 2 (ix x4)), .null]) (st' := []) (a' := a) [(.iload_n 2, 1, 2, .null), (.istore_n 3, 1, 3, .null), (.iinc 1 1, 3, 1, .int 1), (.iconst 0, 1, 0, .int 0), (.istore_n 2, 1, 2, .null), (.goto 63, 3, 133, .null), (.iinc 4 1, 3, 4, .int 1), (.goto (-126), 3, 10, .null)] (by decide +kernel) rfl ?_
              refine XI_fg [true, true, true, true, true, false, false] ?_
              exact x_E_fillCells_10 E N n (x1 + 1) 0 x2 (x4 + 1) a
            · refine XI_go (pc' := 62) (ls' := [.ref 1, .int x1, .int x2, .int x3, .int x4, .int (a 2 (ix x4)), .null]) (st' := [.int x4]) (a' := a) [(.iload 4, 2, 4, .null)] (by decide +kernel) rfl ?_
              exact XI_retI (by decide +kernel)
          · refine XI_go (pc' := 83) (ls' := [.ref 1, .int x1, .int x2, .int x3, .int x4, .int (a 2 (ix x4)), .int ((8 * x1) + x2)]) (st' := [.int (a 2 (ix x4))]) (a' := a) [(.bipush 8, 2, 0, .int 8), (.iload_n 1, 1, 1, .null), (.imul, 1, 0, .null), (.iload_n 2, 1, 2, .null), (.iadd, 1, 0, .null), (.istore 6, 2, 6, .null), (.iload 5, 2, 5, .null)] (by decide +kernel) rfl ?_
            refine XI_ST (As := [.int (a 2 (ix x4))]) (rest := []) (idx := 59) (by decide +kernel) ok_E_isCellSign mv_E_isCellSign (n := 1) ⟨lk_E_59, by decide +kernel⟩ rfl (Nat.le_of_ble_eq_true rfl) (Nat.le_of_ble_eq_true rfl) (qZ_h rfl) (x_E_isCellSign E (a 2 (ix x4)) a) ?_
            refine XI_br (c := (f_E_isCellSign (a 2 (ix x4))) = 0) (t := 104) (e := 89) (ls' := [.ref 1, .int x1, .int x2, .int x3, .int x4, .int (a 2 (ix x4)), .int ((8 * x1) + x2)]) (st' := []) (a' := a) [(.ifCond .eq 18, 3, 104, .null)] (by decide +kernel) rfl ?_ ?_
            · refine XI_go (pc' := 106) (ls' := [.ref 1, .int x1, .int x2, .int x3, .int x4, .int (a 2 (ix x4)), .int ((8 * x1) + x2)]) (st' := [.int x4]) (a' := a) [(.iload 4, 2, 4, .null)] (by decide +kernel) rfl ?_
              exact XI_retI (by decide +kernel)
            · refine XI_br (c := x3 ≤ x2) (t := 104) (e := 94) (ls' := [.ref 1, .int x1, .int x2, .int x3, .int x4, .int (a 2 (ix x4)), .int ((8 * x1) + x2)]) (st' := []) (a' := a) [(.iload_n 2, 1, 2, .null), (.iload_n 3, 1, 3, .null), (.if_icmp .ge 13, 3, 104, .null)] (by decide +kernel) rfl ?_ ?_
              · refine XI_go (pc' := 106) (ls' := [.ref 1, .int x1, .int x2, .int x3, .int x4, .int (a 2 (ix x4)), .int ((8 * x1) + x2)]) (st' := [.int x4]) (a' := a) [(.iload 4, 2, 4, .null)] (by decide +kernel) rfl ?_
                exact XI_retI (by decide +kernel)
              · refine XI_go (pc' := 98) (ls' := [.ref 1, .int x1, .int x2, .int x3, .int x4, .int (a 2 (ix x4)), .int ((8 * x1) + x2)]) (st' := [.int 48, .int ((8 * x1) + x2)]) (a' := a) [(.iload 6, 2, 6, .null), (.bipush 48, 2, 0, .int 48)] (by decide +kernel) rfl ?_
                refine XI_SNT (As := [.int ((8 * x1) + x2), .int 48]) (rest := []) (idx := 28) (by decide +kernel) ok_C_isBelow mv_C_isBelow (n := 2) ⟨lk_E_28, by decide +kernel⟩ rfl (Nat.le_of_ble_eq_true rfl) (Nat.le_of_ble_eq_true rfl) (qZ_h rfl) (x_C_isBelow E ((8 * x1) + x2) 48 a) ?_
                refine XI_br (c := (f_C_isBelow ((8 * x1) + x2) 48) = 0) (t := 104) (e := 107) (ls' := [.ref 1, .int x1, .int x2, .int x3, .int x4, .int (a 2 (ix x4)), .int ((8 * x1) + x2)]) (st' := []) (a' := a) [(.ifCond .ne 6, 3, 107, .null)] (by decide +kernel) rfl ?_ ?_
                · refine XI_go (pc' := 106) (ls' := [.ref 1, .int x1, .int x2, .int x3, .int x4, .int (a 2 (ix x4)), .int ((8 * x1) + x2)]) (st' := [.int x4]) (a' := a) [(.iload 4, 2, 4, .null)] (by decide +kernel) rfl ?_
                  exact XI_retI (by decide +kernel)
                · refine XI_br (c := (a 2 (ix x4)) = 46) (t := 120) (e := 124) (ls' := [.ref 1, .int x1, .int x2, .int x3, .int x4, .int (a 2 (ix x4)), .int ((8 * x1) + x2)]) (st' := [.int ((8 * x1) + x2), .ref 3]) (a' := a) [(.aload_n 0, 1, 0, .null), (.getfield 15, 3, 901, .null), (.iload 6, 2, 6, .null), (.iload 5, 2, 5, .null), (.bipush 46, 2, 0, .int 46), (.if_icmp .ne 7, 3, 124, .null)] (by decide +kernel) rfl ?_ ?_
                  · refine XI_ck (c := inb ((8 * x1) + x2) 48) (pc' := 130) (ls' := [.ref 1, .int x1, .int x2, .int x3, .int x4, .int (a 2 (ix x4)), .int ((8 * x1) + x2)]) (st' := []) (a' := (upA a 3 (ix ((8 * x1) + x2)) (-1))) [(.iconst (-1), 1, 0, .int (-1)), (.goto 8, 3, 129, .null), (.iastore, 1, 0, .null)] (by decide +kernel) rfl ?_
                    refine XI_go (pc' := 10) (ls' := [.ref 1, .int x1, .int (x2 + 1), .int x3, .int (x4 + 1), .int (a 2 (ix x4)), .int ((8 * x1) + x2)]) (st' := []) (a' := (upA a 3 (ix ((8 * x1) + x2)) (-1))) [(.iinc 2 1, 3, 2, .int 1), (.iinc 4 1, 3, 4, .int 1), (.goto (-126), 3, 10, .null)] (by decide +kernel) rfl ?_
                    refine XI_fg [true, true, true, true, true, false, false] ?_
                    exact x_E_fillCells_10 E N n x1 (x2 + 1) x3 (x4 + 1) (upA a 3 (ix ((8 * x1) + x2)) (-1))
                  · refine XI_ck (c := inb ((8 * x1) + x2) 48) (pc' := 130) (ls' := [.ref 1, .int x1, .int x2, .int x3, .int x4, .int (a 2 (ix x4)), .int ((8 * x1) + x2)]) (st' := []) (a' := (upA a 3 (ix ((8 * x1) + x2)) ((a 2 (ix x4)) - 48))) [(.iload 5, 2, 5, .null), (.bipush 48, 2, 0, .int 48), (.isub, 1, 0, .null), (.iastore, 1, 0, .null)] (by decide +kernel) rfl ?_
                    refine XI_go (pc' := 10) (ls' := [.ref 1, .int x1, .int (x2 + 1), .int x3, .int (x4 + 1), .int (a 2 (ix x4)), .int ((8 * x1) + x2)]) (st' := []) (a' := (upA a 3 (ix ((8 * x1) + x2)) ((a 2 (ix x4)) - 48))) [(.iinc 2 1, 3, 2, .int 1), (.iinc 4 1, 3, 4, .int 1), (.goto (-126), 3, 10, .null)] (by decide +kernel) rfl ?_
                    refine XI_fg [true, true, true, true, true, false, false] ?_
                    exact x_E_fillCells_10 E N n x1 (x2 + 1) x3 (x4 + 1) (upA a 3 (ix ((8 * x1) + x2)) ((a 2 (ix x4)) - 48))
        · refine XI_go (pc' := 43) (ls' := [.ref 1, .int x1, .int x2, .int x3, .int x4, .int (a 2 (ix x4)), .null]) (st' := [.int x4]) (a' := a) [(.iload 4, 2, 4, .null)] (by decide +kernel) rfl ?_
          exact XI_retI (by decide +kernel)
set_option maxHeartbeats 4000000 in
set_option maxRecDepth 100000 in
theorem x_E_fillCells (E : eT) (N : Nat) (a : aT) : XI qI E md_E_fillCells 0 [.ref 1, .null, .null, .null, .null, .null, .null] [] a (f_E_fillCells N a) := by
  refine XI_go (pc' := 10) (ls' := [.ref 1, .int 0, .int 0, .int 8, .int 0, .null, .null]) (st' := []) (a' := a) [(.iconst 0, 1, 0, .int 0), (.istore_n 1, 1, 1, .null), (.iconst 0, 1, 0, .int 0), (.istore_n 2, 1, 2, .null), (.bipush 8, 2, 0, .int 8), (.istore_n 3, 1, 3, .null), (.iconst 0, 1, 0, .int 0), (.istore 4, 2, 4, .null)] (by decide +kernel) rfl ?_
  refine XI_fg [true, true, true, true, true, false, false] ?_
  exact x_E_fillCells_10 E N N 0 0 8 0 a
/-! ChestnutSticks$Tree.parse()V -/
def md_E_parse : md_T := (yX9_parse, cX9_parse, 1, none, 2, 48)
set_option maxRecDepth 100000 in
theorem ok_E_parse : m_ok md_E_parse := ⟨List.mem_of_getElem? (i := 308) (by decide +kernel), by decide +kernel, List.mem_of_getElem? (i := 54) (by decide +kernel), by decide +kernel⟩
theorem mv_E_parse : Cond.instanceMethod (m_y md_E_parse) ∈ lw_tbl ∧ Cond.selects (m_y md_E_parse).cls (m_y md_E_parse) (m_y md_E_parse) ∈ lw_tbl := ⟨List.mem_of_getElem? (i := 307) (by decide +kernel), List.mem_of_getElem? (i := 1) (by decide +kernel)⟩
def f_E_parse (N : Nat) (a : aT) : Option (Unit × aT) :=
  (f_E_clearCells N a).bind fun q1 =>
    (f_E_fillCells N q1.2).bind fun q2 =>
      if q2.1 = (-1) then
        some ((), (upA q2.2 1 3 q2.1))
      else
        (f_E_clearCells N (upA q2.2 1 3 q2.1)).bind fun q3 =>
          some ((), q3.2)
set_option maxHeartbeats 4000000 in
set_option maxRecDepth 100000 in
theorem x_E_parse (E : eT) (N : Nat) (a : aT) : XI qV E md_E_parse 0 [.ref 1] [] a (f_E_parse N a) := by
  refine XI_go (pc' := 1) (ls' := [.ref 1]) (st' := [.ref 1]) (a' := a) [(.aload_n 0, 1, 0, .null)] (by decide +kernel) rfl ?_
  refine XI_VI (As := []) (rest := []) (b := 1) (idx := 25) (by decide +kernel) ok_E_clearCells mv_E_clearCells (n := 0) ⟨lk_E_25, by decide +kernel⟩ rfl rfl rfl rfl (Nat.le_of_ble_eq_true rfl) (Nat.le_of_ble_eq_true rfl) (qV_h rfl) (x_E_clearCells E N a) (fun q1 => ?_)
  refine XI_go (pc' := 6) (ls' := [.ref 1]) (st' := [.ref 1, .ref 1]) (a' := q1.2) [(.aload_n 0, 1, 0, .null), (.aload_n 0, 1, 0, .null)] (by decide +kernel) rfl ?_
  refine XI_VI (As := []) (rest := [.ref 1]) (b := 1) (idx := 51) (by decide +kernel) ok_E_fillCells mv_E_fillCells (n := 0) ⟨lk_E_51, by decide +kernel⟩ rfl rfl rfl rfl (Nat.le_of_ble_eq_true rfl) (Nat.le_of_ble_eq_true rfl) (qI_h rfl) (x_E_fillCells E N q1.2) (fun q2 => ?_)
  refine XI_br (c := q2.1 = (-1)) (t := 24) (e := 20) (ls' := [.ref 1]) (st' := []) (a' := (upA q2.2 1 3 q2.1)) [(.putfield 22, 3, 903, .int 0), (.aload_n 0, 1, 0, .null), (.getfield 22, 3, 903, .null), (.iconst (-1), 1, 0, .int (-1)), (.if_icmp .eq 7, 3, 24, .null)] (by decide +kernel) rfl ?_ ?_
  · exact XI_retV (by decide +kernel)
  · refine XI_go (pc' := 21) (ls' := [.ref 1]) (st' := [.ref 1]) (a' := (upA q2.2 1 3 q2.1)) [(.aload_n 0, 1, 0, .null)] (by decide +kernel) rfl ?_
    refine XI_VI (As := []) (rest := []) (b := 1) (idx := 25) (by decide +kernel) ok_E_clearCells mv_E_clearCells (n := 0) ⟨lk_E_25, by decide +kernel⟩ rfl rfl rfl rfl (Nat.le_of_ble_eq_true rfl) (Nat.le_of_ble_eq_true rfl) (qV_h rfl) (x_E_clearCells E N (upA q2.2 1 3 q2.1)) (fun q3 => ?_)
    exact XI_retV (by decide +kernel)
/-! ChestnutSticks$Tree.append(I)I -/
def md_E_append : md_T := (yX9_append, cX9_append, 2, (some .int), 3, 68)
set_option maxRecDepth 100000 in
theorem ok_E_append : m_ok md_E_append := ⟨List.mem_of_getElem? (i := 301) (by decide +kernel), by decide +kernel, List.mem_of_getElem? (i := 54) (by decide +kernel), by decide +kernel⟩
theorem mv_E_append : Cond.instanceMethod (m_y md_E_append) ∈ lw_tbl ∧ Cond.selects (m_y md_E_append).cls (m_y md_E_append) (m_y md_E_append) ∈ lw_tbl := ⟨List.mem_of_getElem? (i := 299) (by decide +kernel), List.mem_of_getElem? (i := 300) (by decide +kernel)⟩
def f_E_append (N : Nat) (p1 : Int32) (a : aT) : Option (Int32 × aT) :=
  if (f_C_isBelow p1 256) = 0 then
    some ((-2), a)
  else
    if (f_C_isBelow (a 1 2) 53) = 0 then
      some ((-4), a)
    else
      if inb (a 1 2) 53 then
        (f_E_parse N (upA (upA a 2 (ix (a 1 2)) p1) 1 2 ((a 1 2) + 1))).bind fun q3 =>
          some ((q3.2 1 2), q3.2)
      else none
set_option maxHeartbeats 4000000 in
set_option maxRecDepth 100000 in
theorem x_E_append (E : eT) (N : Nat) (p1 : Int32) (a : aT) : XI qI E md_E_append 0 [.ref 1, .int p1] [] a (f_E_append N p1 a) := by
  refine XI_go (pc' := 4) (ls' := [.ref 1, .int p1]) (st' := [.int 256, .int p1]) (a' := a) [(.iload_n 1, 1, 1, .null), (.sipush 256, 3, 0, .int 256)] (by decide +kernel) rfl ?_
  refine XI_SNT (As := [.int p1, .int 256]) (rest := []) (idx := 28) (by decide +kernel) ok_C_isBelow mv_C_isBelow (n := 2) ⟨lk_E_28, by decide +kernel⟩ rfl (Nat.le_of_ble_eq_true rfl) (Nat.le_of_ble_eq_true rfl) (qZ_h rfl) (x_C_isBelow E p1 256 a) ?_
  refine XI_br (c := (f_C_isBelow p1 256) = 0) (t := 10) (e := 13) (ls' := [.ref 1, .int p1]) (st' := []) (a' := a) [(.ifCond .ne 6, 3, 13, .null)] (by decide +kernel) rfl ?_ ?_
  · refine XI_go (pc' := 12) (ls' := [.ref 1, .int p1]) (st' := [.int (-2)]) (a' := a) [(.bipush (-2), 2, 0, .int (-2))] (by decide +kernel) rfl ?_
    exact XI_retI (by decide +kernel)
  · refine XI_go (pc' := 19) (ls' := [.ref 1, .int p1]) (st' := [.int 53, .int (a 1 2)]) (a' := a) [(.aload_n 0, 1, 0, .null), (.getfield 18, 3, 902, .null), (.bipush 53, 2, 0, .int 53)] (by decide +kernel) rfl ?_
    refine XI_SNT (As := [.int (a 1 2), .int 53]) (rest := []) (idx := 28) (by decide +kernel) ok_C_isBelow mv_C_isBelow (n := 2) ⟨lk_E_28, by decide +kernel⟩ rfl (Nat.le_of_ble_eq_true rfl) (Nat.le_of_ble_eq_true rfl) (qZ_h rfl) (x_C_isBelow E (a 1 2) 53 a) ?_
    refine XI_br (c := (f_C_isBelow (a 1 2) 53) = 0) (t := 25) (e := 28) (ls' := [.ref 1, .int p1]) (st' := []) (a' := a) [(.ifCond .ne 6, 3, 28, .null)] (by decide +kernel) rfl ?_ ?_
    · refine XI_go (pc' := 27) (ls' := [.ref 1, .int p1]) (st' := [.int (-4)]) (a' := a) [(.bipush (-4), 2, 0, .int (-4))] (by decide +kernel) rfl ?_
      exact XI_retI (by decide +kernel)
    · refine XI_ck (c := inb (a 1 2) 53) (pc' := 38) (ls' := [.ref 1, .int p1]) (st' := []) (a' := (upA a 2 (ix (a 1 2)) p1)) [(.aload_n 0, 1, 0, .null), (.getfield 9, 3, 900, .null), (.aload_n 0, 1, 0, .null), (.getfield 18, 3, 902, .null), (.iload_n 1, 1, 1, .null), (.iastore, 1, 0, .null)] (by decide +kernel) rfl ?_
      refine XI_go (pc' := 49) (ls' := [.ref 1, .int p1]) (st' := [.ref 1]) (a' := (upA (upA a 2 (ix (a 1 2)) p1) 1 2 ((a 1 2) + 1))) [(.aload_n 0, 1, 0, .null), (.dup, 1, 0, .null), (.getfield 18, 3, 902, .null), (.iconst 1, 1, 0, .int 1), (.iadd, 1, 0, .null), (.putfield 18, 3, 902, .int 0), (.aload_n 0, 1, 0, .null)] (by decide +kernel) rfl ?_
      refine XI_VI (As := []) (rest := []) (b := 1) (idx := 32) (by decide +kernel) ok_E_parse mv_E_parse (n := 0) ⟨lk_E_32, by decide +kernel⟩ rfl rfl rfl rfl (Nat.le_of_ble_eq_true rfl) (Nat.le_of_ble_eq_true rfl) (qV_h rfl) (x_E_parse E N (upA (upA a 2 (ix (a 1 2)) p1) 1 2 ((a 1 2) + 1))) (fun q3 => ?_)
      refine XI_go (pc' := 56) (ls' := [.ref 1, .int p1]) (st' := [.int (q3.2 1 2)]) (a' := q3.2) [(.aload_n 0, 1, 0, .null), (.getfield 18, 3, 902, .null)] (by decide +kernel) rfl ?_
      exact XI_retI (by decide +kernel)
/-! ChestnutSticks.type(I)I -/
def md_C_type : md_T := (yX10_type, cX10_type, 2, (some .int), 4, 89)
set_option maxRecDepth 100000 in
theorem ok_C_type : m_ok md_C_type := ⟨List.mem_of_getElem? (i := 297) (by decide +kernel), by decide +kernel, List.mem_of_getElem? (i := 53) (by decide +kernel), by decide +kernel⟩
theorem mv_C_type : Cond.instanceMethod (m_y md_C_type) ∈ lw_tbl ∧ Cond.selects (m_y md_C_type).cls (m_y md_C_type) (m_y md_C_type) ∈ lw_tbl := ⟨List.mem_of_getElem? (i := 295) (by decide +kernel), List.mem_of_getElem? (i := 296) (by decide +kernel)⟩
def f_C_type (N : Nat) (p1 : Int32) (a : aT) : Option (Int32 × aT) :=
  (f_E_append N p1 a).bind fun q1 =>
    some (q1.1, q1.2)
set_option maxHeartbeats 4000000 in
set_option maxRecDepth 100000 in
theorem x_C_type (E : eT) (N : Nat) (p1 : Int32) (a : aT) : XI qI E md_C_type 0 [.ref 0, .int p1] [] a (f_C_type N p1 a) := by
  refine XI_go (pc' := 5) (ls' := [.ref 0, .int p1]) (st' := [.int p1, .ref 1]) (a' := a) [(.aload_n 0, 1, 0, .null), (.getfield 10, 3, 1000, .null), (.iload_n 1, 1, 1, .null)] (by decide +kernel) rfl ?_
  refine XI_VI (As := [.int p1]) (rest := []) (b := 1) (idx := 83) (by decide +kernel) ok_E_append mv_E_append (n := 1) ⟨lk_C_83, by decide +kernel⟩ rfl rfl rfl rfl (Nat.le_of_ble_eq_true rfl) (Nat.le_of_ble_eq_true rfl) (qI_h rfl) (x_E_append E N p1 a) (fun q1 => ?_)
  exact XI_retI (by decide +kernel)
/-! ChestnutSticksModel.in(JJJ)Z -/
def md_M_in : md_T := (yX11_in, cX11_in, 6, (some .boolean), 0, 0)
set_option maxRecDepth 100000 in
theorem ok_M_in : m_ok md_M_in := ⟨List.mem_of_getElem? (i := 1003) (by decide +kernel), by decide +kernel, List.mem_of_getElem? (i := 64) (by decide +kernel), by decide +kernel⟩
theorem mv_M_in : Cond.static (m_y md_M_in) ∈ lw_tbl := List.mem_of_getElem? (i := 1002) (by decide +kernel)
def f_M_in (p1 : Int64) (p2 : Int64) (p3 : Int64) : Int32 :=
  if (lg_cmp p1 p2) < 0 then
    0
  else
    if 0 < (lg_cmp p1 p3) then
      0
    else
      1
set_option maxHeartbeats 4000000 in
set_option maxRecDepth 100000 in
theorem x_M_in (E : eT) (p1 : Int64) (p2 : Int64) (p3 : Int64) (a : aT) : XT qZ E md_M_in 0 [.long p1, .null, .long p2, .null, .long p3, .null] [] a (f_M_in p1 p2 p3) := by
  refine XT_br (c := (lg_cmp p1 p2) < 0) (t := 17) (e := 6) (ls' := [.long p1, .null, .long p2, .null, .long p3, .null]) (st' := []) (a' := a) [(.lload_n 0, 1, 0, .null), (.lload_n 2, 1, 2, .null), (.lcmp, 1, 0, .null), (.ifCond .lt 14, 3, 17, .null)] (by decide +kernel) rfl ?_ ?_
  · refine XT_go (pc' := 18) (ls' := [.long p1, .null, .long p2, .null, .long p3, .null]) (st' := [.int 0]) (a' := a) [(.iconst 0, 1, 0, .int 0)] (by decide +kernel) rfl ?_
    exact XT_retZ (by decide +kernel) rfl
  · refine XT_br (c := 0 < (lg_cmp p1 p3)) (t := 17) (e := 13) (ls' := [.long p1, .null, .long p2, .null, .long p3, .null]) (st' := []) (a' := a) [(.lload_n 0, 1, 0, .null), (.lload 4, 2, 4, .null), (.lcmp, 1, 0, .null), (.ifCond .gt 7, 3, 17, .null)] (by decide +kernel) rfl ?_ ?_
    · refine XT_go (pc' := 18) (ls' := [.long p1, .null, .long p2, .null, .long p3, .null]) (st' := [.int 0]) (a' := a) [(.iconst 0, 1, 0, .int 0)] (by decide +kernel) rfl ?_
      exact XT_retZ (by decide +kernel) rfl
    · refine XT_go (pc' := 18) (ls' := [.long p1, .null, .long p2, .null, .long p3, .null]) (st' := [.int 1]) (a' := a) [(.iconst 1, 1, 0, .int 1), (.goto 4, 3, 18, .null)] (by decide +kernel) rfl ?_
      exact XT_retZ (by decide +kernel) rfl
/-! ChestnutSticksModel.type(I)I -/
def md_M_type : md_T := (yX11_type, cX11_type, 2, (some .int), 1, 25)
set_option maxRecDepth 100000 in
theorem ok_M_type : m_ok md_M_type := ⟨List.mem_of_getElem? (i := 1036) (by decide +kernel), by decide +kernel, List.mem_of_getElem? (i := 64) (by decide +kernel), by decide +kernel⟩
theorem mv_M_type : Cond.instanceMethod (m_y md_M_type) ∈ lw_tbl ∧ Cond.selects (m_y md_M_type).cls (m_y md_M_type) (m_y md_M_type) ∈ lw_tbl := ⟨List.mem_of_getElem? (i := 1034) (by decide +kernel), List.mem_of_getElem? (i := 1035) (by decide +kernel)⟩
def f_M_type (p1 : Int32) (a : aT) : Option (Int32 × aT) :=
  if (f_M_in p1.toInt64 0 255) = 0 then
    some ((-2), a)
  else
    if (a 31 6) = 53 then
      some ((-4), a)
    else
      if inb (a 31 6) 53 then
        some (((a 31 6) + 1), (upA (upA a 36 (ix (a 31 6)) p1) 31 6 ((a 31 6) + 1)))
      else none
set_option maxHeartbeats 4000000 in
set_option maxRecDepth 100000 in
theorem x_M_type (E : eT) (p1 : Int32) (a : aT) : XI qI E md_M_type 0 [.ref 31, .int p1] [] a (f_M_type p1 a) := by
  refine XI_go (pc' := 6) (ls' := [.ref 31, .int p1]) (st' := [.long 255, .long 0, .long p1.toInt64]) (a' := a) [(.iload_n 1, 1, 1, .null), (.i2l, 1, 0, .null), (.lconst 0, 1, 0, .long 0), (.ldc2_w 102, 3, 0, .long 255)] (by decide +kernel) rfl ?_
  refine XI_ST (As := [.long p1.toInt64, .long 0, .long 255]) (rest := []) (idx := 74) (by decide +kernel) ok_M_in mv_M_in (n := 3) ⟨lk_M_74, by decide +kernel⟩ rfl (Nat.le_of_ble_eq_true rfl) (Nat.le_of_ble_eq_true rfl) (qZ_h rfl) (x_M_in E p1.toInt64 0 255 a) ?_
  refine XI_br (c := (f_M_in p1.toInt64 0 255) = 0) (t := 12) (e := 15) (ls' := [.ref 31, .int p1]) (st' := []) (a' := a) [(.ifCond .ne 6, 3, 15, .null)] (by decide +kernel) rfl ?_ ?_
  · refine XI_go (pc' := 14) (ls' := [.ref 31, .int p1]) (st' := [.int (-2)]) (a' := a) [(.bipush (-2), 2, 0, .int (-2))] (by decide +kernel) rfl ?_
    exact XI_retI (by decide +kernel)
  · refine XI_br (c := (a 31 6) = 53) (t := 24) (e := 27) (ls' := [.ref 31, .int p1]) (st' := []) (a' := a) [(.aload_n 0, 1, 0, .null), (.getfield 104, 3, 1106, .null), (.bipush 53, 2, 0, .int 53), (.if_icmp .ne 6, 3, 27, .null)] (by decide +kernel) rfl ?_ ?_
    · refine XI_go (pc' := 26) (ls' := [.ref 31, .int p1]) (st' := [.int (-4)]) (a' := a) [(.bipush (-4), 2, 0, .int (-4))] (by decide +kernel) rfl ?_
      exact XI_retI (by decide +kernel)
    · refine XI_ck (c := inb (a 31 6) 53) (pc' := 37) (ls' := [.ref 31, .int p1]) (st' := []) (a' := (upA a 36 (ix (a 31 6)) p1)) [(.aload_n 0, 1, 0, .null), (.getfield 22, 3, 1105, .null), (.aload_n 0, 1, 0, .null), (.getfield 104, 3, 1106, .null), (.iload_n 1, 1, 1, .null), (.iastore, 1, 0, .null)] (by decide +kernel) rfl ?_
      refine XI_go (pc' := 51) (ls' := [.ref 31, .int p1]) (st' := [.int ((a 31 6) + 1)]) (a' := (upA (upA a 36 (ix (a 31 6)) p1) 31 6 ((a 31 6) + 1))) [(.aload_n 0, 1, 0, .null), (.dup, 1, 0, .null), (.getfield 104, 3, 1106, .null), (.iconst 1, 1, 0, .int 1), (.iadd, 1, 0, .null), (.putfield 104, 3, 1106, .int 0), (.aload_n 0, 1, 0, .null), (.getfield 104, 3, 1106, .null)] (by decide +kernel) rfl ?_
      exact XI_retI (by decide +kernel)
/-! ChestnutSticks$Tree.empty()I -/
def md_E_empty : md_T := (yX9_empty, cX9_empty, 2, (some .int), 3, 68)
set_option maxRecDepth 100000 in
theorem ok_E_empty : m_ok md_E_empty := ⟨List.mem_of_getElem? (i := 326) (by decide +kernel), by decide +kernel, List.mem_of_getElem? (i := 54) (by decide +kernel), by decide +kernel⟩
theorem mv_E_empty : Cond.instanceMethod (m_y md_E_empty) ∈ lw_tbl ∧ Cond.selects (m_y md_E_empty).cls (m_y md_E_empty) (m_y md_E_empty) ∈ lw_tbl := ⟨List.mem_of_getElem? (i := 324) (by decide +kernel), List.mem_of_getElem? (i := 325) (by decide +kernel)⟩
def f_E_empty (N : Nat) (a : aT) : Option (Int32 × aT) :=
  (f_E_parse N (upA a 1 2 0)).bind fun q1 =>
    some ((a 1 2), q1.2)
set_option maxHeartbeats 4000000 in
set_option maxRecDepth 100000 in
theorem x_E_empty (E : eT) (N : Nat) (a : aT) : XI qI E md_E_empty 0 [.ref 1, .null] [] a (f_E_empty N a) := by
  refine XI_go (pc' := 11) (ls' := [.ref 1, .int (a 1 2)]) (st' := [.ref 1]) (a' := (upA a 1 2 0)) [(.aload_n 0, 1, 0, .null), (.getfield 18, 3, 902, .null), (.istore_n 1, 1, 1, .null), (.aload_n 0, 1, 0, .null), (.iconst 0, 1, 0, .int 0), (.putfield 18, 3, 902, .int 0), (.aload_n 0, 1, 0, .null)] (by decide +kernel) rfl ?_
  refine XI_VI (As := []) (rest := []) (b := 1) (idx := 32) (by decide +kernel) ok_E_parse mv_E_parse (n := 0) ⟨lk_E_32, by decide +kernel⟩ rfl rfl rfl rfl (Nat.le_of_ble_eq_true rfl) (Nat.le_of_ble_eq_true rfl) (qV_h rfl) (x_E_parse E N (upA a 1 2 0)) (fun q1 => ?_)
  refine XI_go (pc' := 15) (ls' := [.ref 1, .int (a 1 2)]) (st' := [.int (a 1 2)]) (a' := q1.2) [(.iload_n 1, 1, 1, .null)] (by decide +kernel) rfl ?_
  exact XI_retI (by decide +kernel)
/-! ChestnutSticks.wipe()I -/
def md_C_wipe : md_T := (yX10_wipe, cX10_wipe, 1, (some .int), 4, 89)
set_option maxRecDepth 100000 in
theorem ok_C_wipe : m_ok md_C_wipe := ⟨List.mem_of_getElem? (i := 322) (by decide +kernel), by decide +kernel, List.mem_of_getElem? (i := 53) (by decide +kernel), by decide +kernel⟩
theorem mv_C_wipe : Cond.instanceMethod (m_y md_C_wipe) ∈ lw_tbl ∧ Cond.selects (m_y md_C_wipe).cls (m_y md_C_wipe) (m_y md_C_wipe) ∈ lw_tbl := ⟨List.mem_of_getElem? (i := 320) (by decide +kernel), List.mem_of_getElem? (i := 321) (by decide +kernel)⟩
def f_C_wipe (N : Nat) (a : aT) : Option (Int32 × aT) :=
  (f_E_empty N a).bind fun q1 =>
    some (q1.1, q1.2)
set_option maxHeartbeats 4000000 in
set_option maxRecDepth 100000 in
theorem x_C_wipe (E : eT) (N : Nat) (a : aT) : XI qI E md_C_wipe 0 [.ref 0] [] a (f_C_wipe N a) := by
  refine XI_go (pc' := 4) (ls' := [.ref 0]) (st' := [.ref 1]) (a' := a) [(.aload_n 0, 1, 0, .null), (.getfield 10, 3, 1000, .null)] (by decide +kernel) rfl ?_
  refine XI_VI (As := []) (rest := []) (b := 1) (idx := 87) (by decide +kernel) ok_E_empty mv_E_empty (n := 0) ⟨lk_C_87, by decide +kernel⟩ rfl rfl rfl rfl (Nat.le_of_ble_eq_true rfl) (Nat.le_of_ble_eq_true rfl) (qI_h rfl) (x_E_empty E N a) (fun q1 => ?_)
  exact XI_retI (by decide +kernel)
/-! ChestnutSticksModel.wipe()I -/
def md_M_wipe : md_T := (yX11_wipe, cX11_wipe, 2, (some .int), 0, 0)
set_option maxRecDepth 100000 in
theorem ok_M_wipe : m_ok md_M_wipe := ⟨List.mem_of_getElem? (i := 1041) (by decide +kernel), by decide +kernel, List.mem_of_getElem? (i := 64) (by decide +kernel), by decide +kernel⟩
theorem mv_M_wipe : Cond.instanceMethod (m_y md_M_wipe) ∈ lw_tbl ∧ Cond.selects (m_y md_M_wipe).cls (m_y md_M_wipe) (m_y md_M_wipe) ∈ lw_tbl := ⟨List.mem_of_getElem? (i := 1039) (by decide +kernel), List.mem_of_getElem? (i := 1040) (by decide +kernel)⟩
def f_M_wipe (a : aT) : Option (Int32 × aT) :=
  some ((a 31 6), (upA a 31 6 0))
set_option maxHeartbeats 4000000 in
set_option maxRecDepth 100000 in
theorem x_M_wipe (E : eT) (a : aT) : XI qI E md_M_wipe 0 [.ref 31, .null] [] a (f_M_wipe a) := by
  refine XI_go (pc' := 11) (ls' := [.ref 31, .int (a 31 6)]) (st' := [.int (a 31 6)]) (a' := (upA a 31 6 0)) [(.aload_n 0, 1, 0, .null), (.getfield 104, 3, 1106, .null), (.istore_n 1, 1, 1, .null), (.aload_n 0, 1, 0, .null), (.iconst 0, 1, 0, .int 0), (.putfield 104, 3, 1106, .int 0), (.iload_n 1, 1, 1, .null)] (by decide +kernel) rfl ?_
  exact XI_retI (by decide +kernel)
/-! ChestnutSticks$Tree.removeLast()I -/
def md_E_removeLast : md_T := (yX9_removeLast, cX9_removeLast, 1, (some .int), 3, 68)
set_option maxRecDepth 100000 in
theorem ok_E_removeLast : m_ok md_E_removeLast := ⟨List.mem_of_getElem? (i := 334) (by decide +kernel), by decide +kernel, List.mem_of_getElem? (i := 54) (by decide +kernel), by decide +kernel⟩
theorem mv_E_removeLast : Cond.instanceMethod (m_y md_E_removeLast) ∈ lw_tbl ∧ Cond.selects (m_y md_E_removeLast).cls (m_y md_E_removeLast) (m_y md_E_removeLast) ∈ lw_tbl := ⟨List.mem_of_getElem? (i := 332) (by decide +kernel), List.mem_of_getElem? (i := 333) (by decide +kernel)⟩
def f_E_removeLast (N : Nat) (a : aT) : Option (Int32 × aT) :=
  if 0 < (a 1 2) then
    (f_E_parse N (upA a 1 2 ((a 1 2) - 1))).bind fun q1 =>
      some ((q1.2 1 2), q1.2)
  else
    some ((-3), a)
set_option maxHeartbeats 4000000 in
set_option maxRecDepth 100000 in
theorem x_E_removeLast (E : eT) (N : Nat) (a : aT) : XI qI E md_E_removeLast 0 [.ref 1] [] a (f_E_removeLast N a) := by
  refine XI_br (c := 0 < (a 1 2)) (t := 10) (e := 7) (ls' := [.ref 1]) (st' := []) (a' := a) [(.aload_n 0, 1, 0, .null), (.getfield 18, 3, 902, .null), (.ifCond .gt 6, 3, 10, .null)] (by decide +kernel) rfl ?_ ?_
  · refine XI_go (pc' := 21) (ls' := [.ref 1]) (st' := [.ref 1]) (a' := (upA a 1 2 ((a 1 2) - 1))) [(.aload_n 0, 1, 0, .null), (.dup, 1, 0, .null), (.getfield 18, 3, 902, .null), (.iconst 1, 1, 0, .int 1), (.isub, 1, 0, .null), (.putfield 18, 3, 902, .int 0), (.aload_n 0, 1, 0, .null)] (by decide +kernel) rfl ?_
    refine XI_VI (As := []) (rest := []) (b := 1) (idx := 32) (by decide +kernel) ok_E_parse mv_E_parse (n := 0) ⟨lk_E_32, by decide +kernel⟩ rfl rfl rfl rfl (Nat.le_of_ble_eq_true rfl) (Nat.le_of_ble_eq_true rfl) (qV_h rfl) (x_E_parse E N (upA a 1 2 ((a 1 2) - 1))) (fun q1 => ?_)
    refine XI_go (pc' := 28) (ls' := [.ref 1]) (st' := [.int (q1.2 1 2)]) (a' := q1.2) [(.aload_n 0, 1, 0, .null), (.getfield 18, 3, 902, .null)] (by decide +kernel) rfl ?_
    exact XI_retI (by decide +kernel)
  · refine XI_go (pc' := 9) (ls' := [.ref 1]) (st' := [.int (-3)]) (a' := a) [(.bipush (-3), 2, 0, .int (-3))] (by decide +kernel) rfl ?_
    exact XI_retI (by decide +kernel)
/-! ChestnutSticks.undo()I -/
def md_C_undo : md_T := (yX10_undo, cX10_undo, 1, (some .int), 4, 88)
set_option maxRecDepth 100000 in
theorem ok_C_undo : m_ok md_C_undo := ⟨List.mem_of_getElem? (i := 330) (by decide +kernel), by decide +kernel, List.mem_of_getElem? (i := 53) (by decide +kernel), by decide +kernel⟩
theorem mv_C_undo : Cond.instanceMethod (m_y md_C_undo) ∈ lw_tbl ∧ Cond.selects (m_y md_C_undo).cls (m_y md_C_undo) (m_y md_C_undo) ∈ lw_tbl := ⟨List.mem_of_getElem? (i := 328) (by decide +kernel), List.mem_of_getElem? (i := 329) (by decide +kernel)⟩
def f_C_undo (N : Nat) (a : aT) : Option (Int32 × aT) :=
  (f_E_removeLast N a).bind fun q1 =>
    some (q1.1, q1.2)
set_option maxHeartbeats 4000000 in
set_option maxRecDepth 100000 in
theorem x_C_undo (E : eT) (N : Nat) (a : aT) : XI qI E md_C_undo 0 [.ref 0] [] a (f_C_undo N a) := by
  refine XI_go (pc' := 4) (ls' := [.ref 0]) (st' := [.ref 1]) (a' := a) [(.aload_n 0, 1, 0, .null), (.getfield 10, 3, 1000, .null)] (by decide +kernel) rfl ?_
  refine XI_VI (As := []) (rest := []) (b := 1) (idx := 91) (by decide +kernel) ok_E_removeLast mv_E_removeLast (n := 0) ⟨lk_C_91, by decide +kernel⟩ rfl rfl rfl rfl (Nat.le_of_ble_eq_true rfl) (Nat.le_of_ble_eq_true rfl) (qI_h rfl) (x_E_removeLast E N a) (fun q1 => ?_)
  exact XI_retI (by decide +kernel)
