/-! ChestnutSticksModel.undo()I -/
def md_M_undo : md_T := (yX11_undo, cX11_undo, 1, (some .int), 0, 0)
set_option maxRecDepth 100000 in
theorem ok_M_undo : m_ok md_M_undo := ⟨List.mem_of_getElem? (i := 1045) (by decide +kernel), by decide +kernel, List.mem_of_getElem? (i := 64) (by decide +kernel), by decide +kernel⟩
theorem mv_M_undo : Cond.instanceMethod (m_y md_M_undo) ∈ lw_tbl ∧ Cond.selects (m_y md_M_undo).cls (m_y md_M_undo) (m_y md_M_undo) ∈ lw_tbl := ⟨List.mem_of_getElem? (i := 1043) (by decide +kernel), List.mem_of_getElem? (i := 1044) (by decide +kernel)⟩
def f_M_undo (a : aT) : Option (Int32 × aT) :=
  if (a 31 6) = 0 then
    some ((-3), a)
  else
    some (((a 31 6) - 1), (upA a 31 6 ((a 31 6) - 1)))
set_option maxHeartbeats 4000000 in
set_option maxRecDepth 100000 in
theorem x_M_undo (E : eT) (a : aT) : XI qI E md_M_undo 0 [.ref 31] [] a (f_M_undo a) := by
  refine XI_br (c := (a 31 6) = 0) (t := 7) (e := 10) (ls' := [.ref 31]) (st' := []) (a' := a) [(.aload_n 0, 1, 0, .null), (.getfield 104, 3, 1106, .null), (.ifCond .ne 6, 3, 10, .null)] (by decide +kernel) rfl ?_ ?_
  · refine XI_go (pc' := 9) (ls' := [.ref 31]) (st' := [.int (-3)]) (a' := a) [(.bipush (-3), 2, 0, .int (-3))] (by decide +kernel) rfl ?_
    exact XI_retI (by decide +kernel)
  · refine XI_go (pc' := 24) (ls' := [.ref 31]) (st' := [.int ((a 31 6) - 1)]) (a' := (upA a 31 6 ((a 31 6) - 1))) [(.aload_n 0, 1, 0, .null), (.dup, 1, 0, .null), (.getfield 104, 3, 1106, .null), (.iconst 1, 1, 0, .int 1), (.isub, 1, 0, .null), (.putfield 104, 3, 1106, .int 0), (.aload_n 0, 1, 0, .null), (.getfield 104, 3, 1106, .null)] (by decide +kernel) rfl ?_
    exact XI_retI (by decide +kernel)
/-! ChestnutSticks$Tree.faultPlace()I -/
def md_E_faultPlace : md_T := (yX9_faultPlace, cX9_faultPlace, 1, (some .int), 0, 0)
set_option maxRecDepth 100000 in
theorem ok_E_faultPlace : m_ok md_E_faultPlace := ⟨List.mem_of_getElem? (i := 342) (by decide +kernel), by decide +kernel, List.mem_of_getElem? (i := 54) (by decide +kernel), by decide +kernel⟩
theorem mv_E_faultPlace : Cond.instanceMethod (m_y md_E_faultPlace) ∈ lw_tbl ∧ Cond.selects (m_y md_E_faultPlace).cls (m_y md_E_faultPlace) (m_y md_E_faultPlace) ∈ lw_tbl := ⟨List.mem_of_getElem? (i := 340) (by decide +kernel), List.mem_of_getElem? (i := 341) (by decide +kernel)⟩
def f_E_faultPlace (a : aT) : Int32 :=
  (a 1 3)
set_option maxHeartbeats 4000000 in
set_option maxRecDepth 100000 in
theorem x_E_faultPlace (E : eT) (a : aT) : XT qI E md_E_faultPlace 0 [.ref 1] [] a (f_E_faultPlace a) := by
  refine XT_go (pc' := 4) (ls' := [.ref 1]) (st' := [.int (a 1 3)]) (a' := a) [(.aload_n 0, 1, 0, .null), (.getfield 22, 3, 903, .null)] (by decide +kernel) rfl ?_
  exact XT_retI (by decide +kernel)
/-! ChestnutSticks.fault()I -/
def md_C_fault : md_T := (yX10_fault, cX10_fault, 1, (some .int), 1, 20)
set_option maxRecDepth 100000 in
theorem ok_C_fault : m_ok md_C_fault := ⟨List.mem_of_getElem? (i := 338) (by decide +kernel), by decide +kernel, List.mem_of_getElem? (i := 53) (by decide +kernel), by decide +kernel⟩
theorem mv_C_fault : Cond.instanceMethod (m_y md_C_fault) ∈ lw_tbl ∧ Cond.selects (m_y md_C_fault).cls (m_y md_C_fault) (m_y md_C_fault) ∈ lw_tbl := ⟨List.mem_of_getElem? (i := 336) (by decide +kernel), List.mem_of_getElem? (i := 337) (by decide +kernel)⟩
def f_C_fault (a : aT) : Int32 :=
  (f_E_faultPlace a)
set_option maxHeartbeats 4000000 in
set_option maxRecDepth 100000 in
theorem x_C_fault (E : eT) (a : aT) : XT qI E md_C_fault 0 [.ref 0] [] a (f_C_fault a) := by
  refine XT_go (pc' := 4) (ls' := [.ref 0]) (st' := [.ref 1]) (a' := a) [(.aload_n 0, 1, 0, .null), (.getfield 10, 3, 1000, .null)] (by decide +kernel) rfl ?_
  refine XT_VT (As := []) (rest := []) (b := 1) (idx := 94) (by decide +kernel) ok_E_faultPlace mv_E_faultPlace (n := 0) ⟨lk_C_94, by decide +kernel⟩ rfl rfl rfl rfl (Nat.le_of_ble_eq_true rfl) (Nat.le_of_ble_eq_true rfl) (qI_h rfl) (x_E_faultPlace E a) ?_
  exact XT_retI (by decide +kernel)
/-! ChestnutSticksModel.clears()V -/
def md_M_clears : md_T := (yX11_clears, cX11_clears, 2, none, 0, 0)
set_option maxRecDepth 100000 in
theorem ok_M_clears : m_ok md_M_clears := ⟨List.mem_of_getElem? (i := 1057) (by decide +kernel), by decide +kernel, List.mem_of_getElem? (i := 64) (by decide +kernel), by decide +kernel⟩
theorem mv_M_clears : Cond.instanceMethod (m_y md_M_clears) ∈ lw_tbl ∧ Cond.selects (m_y md_M_clears).cls (m_y md_M_clears) (m_y md_M_clears) ∈ lw_tbl := ⟨List.mem_of_getElem? (i := 1056) (by decide +kernel), List.mem_of_getElem? (i := 21) (by decide +kernel)⟩
def f_M_clears_2 (N : Nat) : Nat → Int32 → aT → Option (Unit × aT)
  | 0 => fun _ _ => none
  | n + 1 => fun x1 a =>
    if 48 ≤ x1 then
      some ((), (upA (upA a 31 10 0) 31 11 0))
    else
      if inb x1 48 then
        if inb x1 48 then
          f_M_clears_2 N n (x1 + 1) (upA (upA a 37 (ix x1) 0) 38 (ix x1) (-1))
        else none
      else none
def f_M_clears (N : Nat) (a : aT) : Option (Unit × aT) :=
  f_M_clears_2 N N 0 a
set_option maxHeartbeats 4000000 in
set_option maxRecDepth 100000 in
theorem x_M_clears_2 (E : eT) (N : Nat) : ∀ (n : Nat) (x1 : Int32) (a : aT), XI qV E md_M_clears 2 [.ref 31, .int x1] [] a (f_M_clears_2 N n x1 a)
  | 0, _, _ => XI_no rfl
  | n + 1, x1, a => by
    refine XI_br (c := 48 ≤ x1) (t := 28) (e := 8) (ls' := [.ref 31, .int x1]) (st' := []) (a' := a) [(.iload_n 1, 1, 1, .null), (.bipush 48, 2, 0, .int 48), (.if_icmp .ge 23, 3, 28, .null)] (by decide +kernel) rfl ?_ ?_
    · refine XI_go (pc' := 38) (ls' := [.ref 31, .int x1]) (st' := []) (a' := (upA (upA a 31 10 0) 31 11 0)) [(.aload_n 0, 1, 0, .null), (.iconst 0, 1, 0, .int 0), (.putfield 107, 3, 1110, .int 0), (.aload_n 0, 1, 0, .null), (.iconst 0, 1, 0, .int 0), (.putfield 110, 3, 1111, .int 0)] (by decide +kernel) rfl ?_
      exact XI_retV (by decide +kernel)
    · refine XI_ck (c := inb x1 48) (pc' := 15) (ls' := [.ref 31, .int x1]) (st' := []) (a' := (upA a 37 (ix x1) 0)) [(.aload_n 0, 1, 0, .null), (.getfield 25, 3, 1108, .null), (.iload_n 1, 1, 1, .null), (.iconst 0, 1, 0, .int 0), (.bastore, 1, 0, .null)] (by decide +kernel) rfl ?_
      refine XI_ck (c := inb x1 48) (pc' := 22) (ls' := [.ref 31, .int x1]) (st' := []) (a' := (upA (upA a 37 (ix x1) 0) 38 (ix x1) (-1))) [(.aload_n 0, 1, 0, .null), (.getfield 29, 3, 1109, .null), (.iload_n 1, 1, 1, .null), (.iconst (-1), 1, 0, .int (-1)), (.iastore, 1, 0, .null)] (by decide +kernel) rfl ?_
      refine XI_go (pc' := 2) (ls' := [.ref 31, .int (x1 + 1)]) (st' := []) (a' := (upA (upA a 37 (ix x1) 0) 38 (ix x1) (-1))) [(.iinc 1 1, 3, 1, .int 1), (.goto (-23), 3, 2, .null)] (by decide +kernel) rfl ?_
      refine XI_fg [true, true] ?_
      exact x_M_clears_2 E N n (x1 + 1) (upA (upA a 37 (ix x1) 0) 38 (ix x1) (-1))
set_option maxHeartbeats 4000000 in
set_option maxRecDepth 100000 in
theorem x_M_clears (E : eT) (N : Nat) (a : aT) : XI qV E md_M_clears 0 [.ref 31, .null] [] a (f_M_clears N a) := by
  refine XI_go (pc' := 2) (ls' := [.ref 31, .int 0]) (st' := []) (a' := a) [(.iconst 0, 1, 0, .int 0), (.istore_n 1, 1, 1, .null)] (by decide +kernel) rfl ?_
  refine XI_fg [true, true] ?_
  exact x_M_clears_2 E N N 0 a
/-! ChestnutSticksModel.readsRow()Z -/
def md_M_readsRow : md_T := (yX11_readsRow, cX11_readsRow, 4, (some .boolean), 1, 25)
set_option maxRecDepth 100000 in
theorem ok_M_readsRow : m_ok md_M_readsRow := ⟨List.mem_of_getElem? (i := 1061) (by decide +kernel), by decide +kernel, List.mem_of_getElem? (i := 64) (by decide +kernel), by decide +kernel⟩
theorem mv_M_readsRow : Cond.instanceMethod (m_y md_M_readsRow) ∈ lw_tbl ∧ Cond.selects (m_y md_M_readsRow).cls (m_y md_M_readsRow) (m_y md_M_readsRow) ∈ lw_tbl := ⟨List.mem_of_getElem? (i := 1060) (by decide +kernel), List.mem_of_getElem? (i := 22) (by decide +kernel)⟩
def f_M_readsRow_90 (N : Nat) (k19 : Int32 → Int32 → aT → Option (Int32 × aT)) (x1 : Int32) (x2 : Int32) (x3 : Int32) (a : aT) : Option (Int32 × aT) :=
  if inb ((8 * (a 31 10)) + x1) 48 then
    if x3 = 46 then
      if inb ((8 * (a 31 10)) + x1) 48 then
        k19 (x1 + 1) x2 (upA (upA (upA a 37 (ix ((8 * (a 31 10)) + x1)) 1) 38 (ix ((8 * (a 31 10)) + x1)) (-1)) 31 7 ((a 31 7) + 1))
      else none
    else
      if inb ((8 * (a 31 10)) + x1) 48 then
        k19 (x1 + 1) x2 (upA (upA (upA a 37 (ix ((8 * (a 31 10)) + x1)) 1) 38 (ix ((8 * (a 31 10)) + x1)) (x3 - 48)) 31 7 ((a 31 7) + 1))
      else none
  else none
def f_M_readsRow_149 (N : Nat) (x1 : Int32) (a : aT) : Option (Int32 × aT) :=
  if x1 = 0 then
    some (0, a)
  else
    if (a 31 10) ≤ 0 then
      some (1, (upA (upA a 31 11 x1) 31 10 ((a 31 10) + 1)))
    else
      if (a 31 11) ≤ x1 then
        some (1, (upA (upA a 31 11 x1) 31 10 ((a 31 10) + 1)))
      else
        some (0, a)
def f_M_readsRow_19 (N : Nat) : Nat → Int32 → Int32 → aT → Option (Int32 × aT)
  | 0 => fun _ _ _ => none
  | n + 1 => fun x1 x2 a =>
    if (a 31 6) ≤ (a 31 7) then
      f_M_readsRow_149 N x1 a
    else
      if inb (a 31 7) 53 then
        if (a 36 (ix (a 31 7))) = 59 then
          f_M_readsRow_149 N x1 a
        else
          if inb (a 31 7) 53 then
            if (a 31 10) = 6 then
              some (0, a)
            else
              if x1 = x2 then
                some (0, a)
              else
                if (a 36 (ix (a 31 7))) = 46 then
                  f_M_readsRow_90 N (f_M_readsRow_19 N n) x1 x2 (a 36 (ix (a 31 7))) a
                else
                  if (f_M_in (a 36 (ix (a 31 7))).toInt64 48 57) = 0 then
                    some (0, a)
                  else
                    f_M_readsRow_90 N (f_M_readsRow_19 N n) x1 x2 (a 36 (ix (a 31 7))) a
          else none
      else none
def f_M_readsRow (N : Nat) (a : aT) : Option (Int32 × aT) :=
  if (a 31 10) = 0 then
    f_M_readsRow_19 N N 0 8 a
  else
    f_M_readsRow_19 N N 0 (a 31 11) a
set_option maxHeartbeats 4000000 in
set_option maxRecDepth 100000 in
theorem x_M_readsRow_90 (E : eT) (N : Nat) (k19 : Int32 → Int32 → aT → Option (Int32 × aT)) (h19 : ∀ (x1 : Int32) (x2 : Int32) (a : aT), XI qZ E md_M_readsRow 19 [.ref 31, .int x1, .int x2, .null] [] a (k19 x1 x2 a)) (x1 : Int32) (x2 : Int32) (x3 : Int32) (a : aT) : XI qZ E md_M_readsRow 90 [.ref 31, .int x1, .int x2, .int x3] [] a (f_M_readsRow_90 N k19 x1 x2 x3 a) := by
  refine XI_ck (c := inb ((8 * (a 31 10)) + x1) 48) (pc' := 105) (ls' := [.ref 31, .int x1, .int x2, .int x3]) (st' := []) (a' := (upA a 37 (ix ((8 * (a 31 10)) + x1)) 1)) [(.aload_n 0, 1, 0, .null), (.getfield 25, 3, 1108, .null), (.bipush 8, 2, 0, .int 8), (.aload_n 0, 1, 0, .null), (.getfield 107, 3, 1110, .null), (.imul, 1, 0, .null), (.iload_n 1, 1, 1, .null), (.iadd, 1, 0, .null), (.iconst 1, 1, 0, .int 1), (.bastore, 1, 0, .null)] (by decide +kernel) rfl ?_
  refine XI_br (c := x3 = 46) (t := 124) (e := 128) (ls' := [.ref 31, .int x1, .int x2, .int x3]) (st' := [.int ((8 * (a 31 10)) + x1), .ref 38]) (a' := (upA a 37 (ix ((8 * (a 31 10)) + x1)) 1)) [(.aload_n 0, 1, 0, .null), (.getfield 29, 3, 1109, .null), (.bipush 8, 2, 0, .int 8), (.aload_n 0, 1, 0, .null), (.getfield 107, 3, 1110, .null), (.imul, 1, 0, .null), (.iload_n 1, 1, 1, .null), (.iadd, 1, 0, .null), (.iload_n 3, 1, 3, .null), (.bipush 46, 2, 0, .int 46), (.if_icmp .ne 7, 3, 128, .null)] (by decide +kernel) rfl ?_ ?_
  · refine XI_ck (c := inb ((8 * (a 31 10)) + x1) 48) (pc' := 133) (ls' := [.ref 31, .int x1, .int x2, .int x3]) (st' := []) (a' := (upA (upA a 37 (ix ((8 * (a 31 10)) + x1)) 1) 38 (ix ((8 * (a 31 10)) + x1)) (-1))) [(.iconst (-1), 1, 0, .int (-1)), (.goto 7, 3, 132, .null), (.iastore, 1, 0, .null)] (by decide +kernel) rfl ?_
    refine XI_go (pc' := 19) (ls' := [.ref 31, .int (x1 + 1), .int x2, .int x3]) (st' := []) (a' := (upA (upA (upA a 37 (ix ((8 * (a 31 10)) + x1)) 1) 38 (ix ((8 * (a 31 10)) + x1)) (-1)) 31 7 ((a 31 7) + 1))) [(.iinc 1 1, 3, 1, .int 1), (.aload_n 0, 1, 0, .null), (.dup, 1, 0, .null), (.getfield 113, 3, 1107, .null), (.iconst 1, 1, 0, .int 1), (.iadd, 1, 0, .null), (.putfield 113, 3, 1107, .int 0), (.goto (-127), 3, 19, .null)] (by decide +kernel) rfl ?_
    refine XI_fg [true, true, true, false] ?_
    exact h19 (x1 + 1) x2 (upA (upA (upA a 37 (ix ((8 * (a 31 10)) + x1)) 1) 38 (ix ((8 * (a 31 10)) + x1)) (-1)) 31 7 ((a 31 7) + 1))
  · refine XI_ck (c := inb ((8 * (a 31 10)) + x1) 48) (pc' := 133) (ls' := [.ref 31, .int x1, .int x2, .int x3]) (st' := []) (a' := (upA (upA a 37 (ix ((8 * (a 31 10)) + x1)) 1) 38 (ix ((8 * (a 31 10)) + x1)) (x3 - 48))) [(.iload_n 3, 1, 3, .null), (.bipush 48, 2, 0, .int 48), (.isub, 1, 0, .null), (.iastore, 1, 0, .null)] (by decide +kernel) rfl ?_
    refine XI_go (pc' := 19) (ls' := [.ref 31, .int (x1 + 1), .int x2, .int x3]) (st' := []) (a' := (upA (upA (upA a 37 (ix ((8 * (a 31 10)) + x1)) 1) 38 (ix ((8 * (a 31 10)) + x1)) (x3 - 48)) 31 7 ((a 31 7) + 1))) [(.iinc 1 1, 3, 1, .int 1), (.aload_n 0, 1, 0, .null), (.dup, 1, 0, .null), (.getfield 113, 3, 1107, .null), (.iconst 1, 1, 0, .int 1), (.iadd, 1, 0, .null), (.putfield 113, 3, 1107, .int 0), (.goto (-127), 3, 19, .null)] (by decide +kernel) rfl ?_
    refine XI_fg [true, true, true, false] ?_
    exact h19 (x1 + 1) x2 (upA (upA (upA a 37 (ix ((8 * (a 31 10)) + x1)) 1) 38 (ix ((8 * (a 31 10)) + x1)) (x3 - 48)) 31 7 ((a 31 7) + 1))
set_option maxHeartbeats 4000000 in
set_option maxRecDepth 100000 in
theorem x_M_readsRow_149 (E : eT) (N : Nat) (x1 : Int32) (a : aT) : XI qZ E md_M_readsRow 149 [.ref 31, .int x1, .null, .null] [] a (f_M_readsRow_149 N x1 a) := by
  refine XI_br (c := x1 = 0) (t := 168) (e := 153) (ls' := [.ref 31, .int x1, .null, .null]) (st' := []) (a' := a) [(.iload_n 1, 1, 1, .null), (.ifCond .eq 18, 3, 168, .null)] (by decide +kernel) rfl ?_ ?_
  · refine XI_go (pc' := 169) (ls' := [.ref 31, .int x1, .null, .null]) (st' := [.int 0]) (a' := a) [(.iconst 0, 1, 0, .int 0)] (by decide +kernel) rfl ?_
    exact XI_retZ (by decide +kernel) rfl
  · refine XI_br (c := (a 31 10) ≤ 0) (t := 170) (e := 160) (ls' := [.ref 31, .int x1, .null, .null]) (st' := []) (a' := a) [(.aload_n 0, 1, 0, .null), (.getfield 107, 3, 1110, .null), (.ifCond .le 13, 3, 170, .null)] (by decide +kernel) rfl ?_ ?_
    · refine XI_go (pc' := 186) (ls' := [.ref 31, .int x1, .null, .null]) (st' := [.int 1]) (a' := (upA (upA a 31 11 x1) 31 10 ((a 31 10) + 1))) [(.aload_n 0, 1, 0, .null), (.iload_n 1, 1, 1, .null), (.putfield 110, 3, 1111, .int 0), (.aload_n 0, 1, 0, .null), (.dup, 1, 0, .null), (.getfield 107, 3, 1110, .null), (.iconst 1, 1, 0, .int 1), (.iadd, 1, 0, .null), (.putfield 107, 3, 1110, .int 0), (.iconst 1, 1, 0, .int 1)] (by decide +kernel) rfl ?_
      exact XI_retZ (by decide +kernel) rfl
    · refine XI_br (c := (a 31 11) ≤ x1) (t := 170) (e := 168) (ls' := [.ref 31, .int x1, .null, .null]) (st' := []) (a' := a) [(.iload_n 1, 1, 1, .null), (.aload_n 0, 1, 0, .null), (.getfield 110, 3, 1111, .null), (.if_icmp .ge 5, 3, 170, .null)] (by decide +kernel) rfl ?_ ?_
      · refine XI_go (pc' := 186) (ls' := [.ref 31, .int x1, .null, .null]) (st' := [.int 1]) (a' := (upA (upA a 31 11 x1) 31 10 ((a 31 10) + 1))) [(.aload_n 0, 1, 0, .null), (.iload_n 1, 1, 1, .null), (.putfield 110, 3, 1111, .int 0), (.aload_n 0, 1, 0, .null), (.dup, 1, 0, .null), (.getfield 107, 3, 1110, .null), (.iconst 1, 1, 0, .int 1), (.iadd, 1, 0, .null), (.putfield 107, 3, 1110, .int 0), (.iconst 1, 1, 0, .int 1)] (by decide +kernel) rfl ?_
        exact XI_retZ (by decide +kernel) rfl
      · refine XI_go (pc' := 169) (ls' := [.ref 31, .int x1, .null, .null]) (st' := [.int 0]) (a' := a) [(.iconst 0, 1, 0, .int 0)] (by decide +kernel) rfl ?_
        exact XI_retZ (by decide +kernel) rfl
set_option maxHeartbeats 4000000 in
set_option maxRecDepth 100000 in
theorem x_M_readsRow_19 (E : eT) (N : Nat) : ∀ (n : Nat) (x1 : Int32) (x2 : Int32) (a : aT), XI qZ E md_M_readsRow 19 [.ref 31, .int x1, .int x2, .null] [] a (f_M_readsRow_19 N n x1 x2 a)
  | 0, _, _, _ => XI_no rfl
  | n + 1, x1, x2, a => by
    refine XI_br (c := (a 31 6) ≤ (a 31 7)) (t := 149) (e := 30) (ls' := [.ref 31, .int x1, .int x2, .null]) (st' := []) (a' := a) [(.aload_n 0, 1, 0, .null), (.getfield 113, 3, 1107, .null), (.aload_n 0, 1, 0, .null), (.getfield 104, 3, 1106, .null), (.if_icmp .ge 122, 3, 149, .null)] (by decide +kernel) rfl ?_ ?_
    · refine XI_fg [true, true, false, false] ?_
      exact x_M_readsRow_149 E N x1 a
    · refine XI_ck (c := inb (a 31 7) 53) (pc' := 39) (ls' := [.ref 31, .int x1, .int x2, .null]) (st' := [.int (a 36 (ix (a 31 7)))]) (a' := a) [(.aload_n 0, 1, 0, .null), (.getfield 22, 3, 1105, .null), (.aload_n 0, 1, 0, .null), (.getfield 113, 3, 1107, .null), (.iaload, 1, 0, .null)] (by decide +kernel) rfl ?_
      refine XI_br (c := (a 36 (ix (a 31 7))) = 59) (t := 149) (e := 44) (ls' := [.ref 31, .int x1, .int x2, .null]) (st' := []) (a' := a) [(.bipush 59, 2, 0, .int 59), (.if_icmp .eq 108, 3, 149, .null)] (by decide +kernel) rfl ?_ ?_
      · refine XI_fg [true, true, false, false] ?_
        exact x_M_readsRow_149 E N x1 a
      · refine XI_ck (c := inb (a 31 7) 53) (pc' := 53) (ls' := [.ref 31, .int x1, .int x2, .null]) (st' := [.int (a 36 (ix (a 31 7)))]) (a' := a) [(.aload_n 0, 1, 0, .null), (.getfield 22, 3, 1105, .null), (.aload_n 0, 1, 0, .null), (.getfield 113, 3, 1107, .null), (.iaload, 1, 0, .null)] (by decide +kernel) rfl ?_
        refine XI_br (c := (a 31 10) = 6) (t := 88) (e := 63) (ls' := [.ref 31, .int x1, .int x2, .int (a 36 (ix (a 31 7)))]) (st' := []) (a' := a) [(.istore_n 3, 1, 3, .null), (.aload_n 0, 1, 0, .null), (.getfield 107, 3, 1110, .null), (.bipush 6, 2, 0, .int 6), (.if_icmp .eq 28, 3, 88, .null)] (by decide +kernel) rfl ?_ ?_
        · refine XI_go (pc' := 89) (ls' := [.ref 31, .int x1, .int x2, .int (a 36 (ix (a 31 7)))]) (st' := [.int 0]) (a' := a) [(.iconst 0, 1, 0, .int 0)] (by decide +kernel) rfl ?_
          exact XI_retZ (by decide +kernel) rfl
        · refine XI_br (c := x1 = x2) (t := 88) (e := 68) (ls' := [.ref 31, .int x1, .int x2, .int (a 36 (ix (a 31 7)))]) (st' := []) (a' := a) [(.iload_n 1, 1, 1, .null), (.iload_n 2, 1, 2, .null), (.if_icmp .eq 23, 3, 88, .null)] (by decide +kernel) rfl ?_ ?_
          · refine XI_go (pc' := 89) (ls' := [.ref 31, .int x1, .int x2, .int (a 36 (ix (a 31 7)))]) (st' := [.int 0]) (a' := a) [(.iconst 0, 1, 0, .int 0)] (by decide +kernel) rfl ?_
            exact XI_retZ (by decide +kernel) rfl
          · refine XI_br (c := (a 36 (ix (a 31 7))) = 46) (t := 90) (e := 74) (ls' := [.ref 31, .int x1, .int x2, .int (a 36 (ix (a 31 7)))]) (st' := []) (a' := a) [(.iload_n 3, 1, 3, .null), (.bipush 46, 2, 0, .int 46), (.if_icmp .eq 19, 3, 90, .null)] (by decide +kernel) rfl ?_ ?_
            · refine XI_fg [true, true, true, true] ?_
              exact x_M_readsRow_90 E N (f_M_readsRow_19 N n) (x_M_readsRow_19 E N n) x1 x2 (a 36 (ix (a 31 7))) a
            · refine XI_go (pc' := 82) (ls' := [.ref 31, .int x1, .int x2, .int (a 36 (ix (a 31 7)))]) (st' := [.long 57, .long 48, .long (a 36 (ix (a 31 7))).toInt64]) (a' := a) [(.iload_n 3, 1, 3, .null), (.i2l, 1, 0, .null), (.ldc2_w 116, 3, 0, .long 48), (.ldc2_w 118, 3, 0, .long 57)] (by decide +kernel) rfl ?_
              refine XI_ST (As := [.long (a 36 (ix (a 31 7))).toInt64, .long 48, .long 57]) (rest := []) (idx := 74) (by decide +kernel) ok_M_in mv_M_in (n := 3) ⟨lk_M_74, by decide +kernel⟩ rfl (Nat.le_of_ble_eq_true rfl) (Nat.le_of_ble_eq_true rfl) (qZ_h rfl) (x_M_in E (a 36 (ix (a 31 7))).toInt64 48 57 a) ?_
              refine XI_br (c := (f_M_in (a 36 (ix (a 31 7))).toInt64 48 57) = 0) (t := 88) (e := 90) (ls' := [.ref 31, .int x1, .int x2, .int (a 36 (ix (a 31 7)))]) (st' := []) (a' := a) [(.ifCond .ne 5, 3, 90, .null)] (by decide +kernel) rfl ?_ ?_
              · refine XI_go (pc' := 89) (ls' := [.ref 31, .int x1, .int x2, .int (a 36 (ix (a 31 7)))]) (st' := [.int 0]) (a' := a) [(.iconst 0, 1, 0, .int 0)] (by decide +kernel) rfl ?_
                exact XI_retZ (by decide +kernel) rfl
              · refine XI_fg [true, true, true, true] ?_
                exact x_M_readsRow_90 E N (f_M_readsRow_19 N n) (x_M_readsRow_19 E N n) x1 x2 (a 36 (ix (a 31 7))) a
set_option maxHeartbeats 4000000 in
set_option maxRecDepth 100000 in
theorem x_M_readsRow (E : eT) (N : Nat) (a : aT) : XI qZ E md_M_readsRow 0 [.ref 31, .null, .null, .null] [] a (f_M_readsRow N a) := by
  refine XI_br (c := (a 31 10) = 0) (t := 9) (e := 14) (ls' := [.ref 31, .int 0, .null, .null]) (st' := []) (a' := a) [(.iconst 0, 1, 0, .int 0), (.istore_n 1, 1, 1, .null), (.aload_n 0, 1, 0, .null), (.getfield 107, 3, 1110, .null), (.ifCond .ne 8, 3, 14, .null)] (by decide +kernel) rfl ?_ ?_
  · refine XI_go (pc' := 19) (ls' := [.ref 31, .int 0, .int 8, .null]) (st' := []) (a' := a) [(.bipush 8, 2, 0, .int 8), (.goto 7, 3, 18, .null), (.istore_n 2, 1, 2, .null)] (by decide +kernel) rfl ?_
    refine XI_fg [true, true, true, false] ?_
    exact x_M_readsRow_19 E N N 0 8 a
  · refine XI_go (pc' := 19) (ls' := [.ref 31, .int 0, .int (a 31 11), .null]) (st' := []) (a' := a) [(.aload_n 0, 1, 0, .null), (.getfield 110, 3, 1111, .null), (.istore_n 2, 1, 2, .null)] (by decide +kernel) rfl ?_
    refine XI_fg [true, true, true, false] ?_
    exact x_M_readsRow_19 E N N 0 (a 31 11) a
/-! ChestnutSticksModel.reads()I -/
def md_M_reads : md_T := (yX11_reads, cX11_reads, 2, (some .int), 2, 48)
set_option maxRecDepth 100000 in
theorem ok_M_reads : m_ok md_M_reads := ⟨List.mem_of_getElem? (i := 1053) (by decide +kernel), by decide +kernel, List.mem_of_getElem? (i := 64) (by decide +kernel), by decide +kernel⟩
theorem mv_M_reads : Cond.instanceMethod (m_y md_M_reads) ∈ lw_tbl ∧ Cond.selects (m_y md_M_reads).cls (m_y md_M_reads) (m_y md_M_reads) ∈ lw_tbl := ⟨List.mem_of_getElem? (i := 1052) (by decide +kernel), List.mem_of_getElem? (i := 20) (by decide +kernel)⟩
def f_M_reads_58 (N : Nat) (k22 : Int32 → aT → Option (Int32 × aT)) (y1 : Int32) (a : aT) : Option (Int32 × aT) :=
  if y1 = 0 then
    k22 y1 (upA a 31 7 ((a 31 7) + 0))
  else
    k22 y1 (upA a 31 7 ((a 31 7) + 1))
def f_M_reads_22 (N : Nat) : Nat → Int32 → aT → Option (Int32 × aT)
  | 0 => fun _ _ => none
  | n + 1 => fun x1 a =>
    if x1 = 0 then
      some ((-1), a)
    else
      (f_M_readsRow N a).bind fun q2 =>
        if q2.1 = 0 then
          (f_M_clears N q2.2).bind fun q3 =>
            some ((q3.2 31 7), q3.2)
        else
          if (q2.2 31 6) ≤ (q2.2 31 7) then
            f_M_reads_58 N (f_M_reads_22 N n) 0 q2.2
          else
            f_M_reads_58 N (f_M_reads_22 N n) 1 q2.2
def f_M_reads (N : Nat) (a : aT) : Option (Int32 × aT) :=
  (f_M_clears N a).bind fun q1 =>
    if (q1.2 31 6) ≤ 0 then
      f_M_reads_22 N N 0 (upA q1.2 31 7 0)
    else
      f_M_reads_22 N N 1 (upA q1.2 31 7 0)
set_option maxHeartbeats 4000000 in
set_option maxRecDepth 100000 in
theorem x_M_reads_58 (E : eT) (N : Nat) (k22 : Int32 → aT → Option (Int32 × aT)) (h22 : ∀ (x1 : Int32) (a : aT), XI qI E md_M_reads 22 [.ref 31, .int x1] [] a (k22 x1 a)) (y1 : Int32) (a : aT) : XI qI E md_M_reads 58 [.ref 31, .null] [.int y1] a (f_M_reads_58 N k22 y1 a) := by
  refine XI_br (c := y1 = 0) (t := 72) (e := 68) (ls' := [.ref 31, .int y1]) (st' := [.int (a 31 7), .ref 31]) (a' := a) [(.istore_n 1, 1, 1, .null), (.aload_n 0, 1, 0, .null), (.dup, 1, 0, .null), (.getfield 113, 3, 1107, .null), (.iload_n 1, 1, 1, .null), (.ifCond .eq 7, 3, 72, .null)] (by decide +kernel) rfl ?_ ?_
  · refine XI_go (pc' := 22) (ls' := [.ref 31, .int y1]) (st' := []) (a' := (upA a 31 7 ((a 31 7) + 0))) [(.iconst 0, 1, 0, .int 0), (.iadd, 1, 0, .null), (.putfield 113, 3, 1107, .int 0), (.goto (-55), 3, 22, .null)] (by decide +kernel) rfl ?_
    refine XI_fg [true, true] ?_
    exact h22 y1 (upA a 31 7 ((a 31 7) + 0))
  · refine XI_go (pc' := 22) (ls' := [.ref 31, .int y1]) (st' := []) (a' := (upA a 31 7 ((a 31 7) + 1))) [(.iconst 1, 1, 0, .int 1), (.goto 4, 3, 73, .null), (.iadd, 1, 0, .null), (.putfield 113, 3, 1107, .int 0), (.goto (-55), 3, 22, .null)] (by decide +kernel) rfl ?_
    refine XI_fg [true, true] ?_
    exact h22 y1 (upA a 31 7 ((a 31 7) + 1))
set_option maxHeartbeats 4000000 in
set_option maxRecDepth 100000 in
theorem x_M_reads_22 (E : eT) (N : Nat) : ∀ (n : Nat) (x1 : Int32) (a : aT), XI qI E md_M_reads 22 [.ref 31, .int x1] [] a (f_M_reads_22 N n x1 a)
  | 0, _, _ => XI_no rfl
  | n + 1, x1, a => by
    refine XI_br (c := x1 = 0) (t := 80) (e := 26) (ls' := [.ref 31, .int x1]) (st' := []) (a' := a) [(.iload_n 1, 1, 1, .null), (.ifCond .eq 57, 3, 80, .null)] (by decide +kernel) rfl ?_ ?_
    · refine XI_go (pc' := 81) (ls' := [.ref 31, .int x1]) (st' := [.int (-1)]) (a' := a) [(.iconst (-1), 1, 0, .int (-1))] (by decide +kernel) rfl ?_
      exact XI_retI (by decide +kernel)
    · refine XI_go (pc' := 27) (ls' := [.ref 31, .int x1]) (st' := [.ref 31]) (a' := a) [(.aload_n 0, 1, 0, .null)] (by decide +kernel) rfl ?_
      refine XI_VI (As := []) (rest := []) (b := 31) (idx := 123) (by decide +kernel) ok_M_readsRow mv_M_readsRow (n := 0) ⟨lk_M_123, by decide +kernel⟩ rfl rfl rfl rfl (Nat.le_of_ble_eq_true rfl) (Nat.le_of_ble_eq_true rfl) (qZ_h rfl) (x_M_readsRow E N a) (fun q2 => ?_)
      refine XI_br (c := q2.1 = 0) (t := 33) (e := 42) (ls' := [.ref 31, .int x1]) (st' := []) (a' := q2.2) [(.ifCond .ne 12, 3, 42, .null)] (by decide +kernel) rfl ?_ ?_
      · refine XI_go (pc' := 34) (ls' := [.ref 31, .int x1]) (st' := [.ref 31]) (a' := q2.2) [(.aload_n 0, 1, 0, .null)] (by decide +kernel) rfl ?_
        refine XI_VI (As := []) (rest := []) (b := 31) (idx := 120) (by decide +kernel) ok_M_clears mv_M_clears (n := 0) ⟨lk_M_120, by decide +kernel⟩ rfl rfl rfl rfl (Nat.le_of_ble_eq_true rfl) (Nat.le_of_ble_eq_true rfl) (qV_h rfl) (x_M_clears E N q2.2) (fun q3 => ?_)
        refine XI_go (pc' := 41) (ls' := [.ref 31, .int x1]) (st' := [.int (q3.2 31 7)]) (a' := q3.2) [(.aload_n 0, 1, 0, .null), (.getfield 113, 3, 1107, .null)] (by decide +kernel) rfl ?_
        exact XI_retI (by decide +kernel)
      · refine XI_br (c := (q2.2 31 6) ≤ (q2.2 31 7)) (t := 57) (e := 53) (ls' := [.ref 31, .int x1]) (st' := []) (a' := q2.2) [(.aload_n 0, 1, 0, .null), (.getfield 113, 3, 1107, .null), (.aload_n 0, 1, 0, .null), (.getfield 104, 3, 1106, .null), (.if_icmp .ge 7, 3, 57, .null)] (by decide +kernel) rfl ?_ ?_
        · refine XI_go (pc' := 58) (ls' := [.ref 31, .int x1]) (st' := [.int 0]) (a' := q2.2) [(.iconst 0, 1, 0, .int 0)] (by decide +kernel) rfl ?_
          refine XI_fg [true, false] ?_
          exact x_M_reads_58 E N (f_M_reads_22 N n) (x_M_reads_22 E N n) 0 q2.2
        · refine XI_go (pc' := 58) (ls' := [.ref 31, .int x1]) (st' := [.int 1]) (a' := q2.2) [(.iconst 1, 1, 0, .int 1), (.goto 4, 3, 58, .null)] (by decide +kernel) rfl ?_
          refine XI_fg [true, false] ?_
          exact x_M_reads_58 E N (f_M_reads_22 N n) (x_M_reads_22 E N n) 1 q2.2
set_option maxHeartbeats 4000000 in
set_option maxRecDepth 100000 in
theorem x_M_reads (E : eT) (N : Nat) (a : aT) : XI qI E md_M_reads 0 [.ref 31, .null] [] a (f_M_reads N a) := by
  refine XI_go (pc' := 1) (ls' := [.ref 31, .null]) (st' := [.ref 31]) (a' := a) [(.aload_n 0, 1, 0, .null)] (by decide +kernel) rfl ?_
  refine XI_VI (As := []) (rest := []) (b := 31) (idx := 120) (by decide +kernel) ok_M_clears mv_M_clears (n := 0) ⟨lk_M_120, by decide +kernel⟩ rfl rfl rfl rfl (Nat.le_of_ble_eq_true rfl) (Nat.le_of_ble_eq_true rfl) (qV_h rfl) (x_M_clears E N a) (fun q1 => ?_)
  refine XI_br (c := (q1.2 31 6) ≤ 0) (t := 20) (e := 16) (ls' := [.ref 31, .null]) (st' := []) (a' := (upA q1.2 31 7 0)) [(.aload_n 0, 1, 0, .null), (.iconst 0, 1, 0, .int 0), (.putfield 113, 3, 1107, .int 0), (.aload_n 0, 1, 0, .null), (.getfield 104, 3, 1106, .null), (.ifCond .le 7, 3, 20, .null)] (by decide +kernel) rfl ?_ ?_
  · refine XI_go (pc' := 22) (ls' := [.ref 31, .int 0]) (st' := []) (a' := (upA q1.2 31 7 0)) [(.iconst 0, 1, 0, .int 0), (.istore_n 1, 1, 1, .null)] (by decide +kernel) rfl ?_
    refine XI_fg [true, true] ?_
    exact x_M_reads_22 E N N 0 (upA q1.2 31 7 0)
  · refine XI_go (pc' := 22) (ls' := [.ref 31, .int 1]) (st' := []) (a' := (upA q1.2 31 7 0)) [(.iconst 1, 1, 0, .int 1), (.goto 4, 3, 21, .null), (.istore_n 1, 1, 1, .null)] (by decide +kernel) rfl ?_
    refine XI_fg [true, true] ?_
    exact x_M_reads_22 E N N 1 (upA q1.2 31 7 0)
/-! ChestnutSticksModel.fault()I -/
def md_M_fault : md_T := (yX11_fault, cX11_fault, 1, (some .int), 3, 69)
set_option maxRecDepth 100000 in
theorem ok_M_fault : m_ok md_M_fault := ⟨List.mem_of_getElem? (i := 1049) (by decide +kernel), by decide +kernel, List.mem_of_getElem? (i := 64) (by decide +kernel), by decide +kernel⟩
theorem mv_M_fault : Cond.instanceMethod (m_y md_M_fault) ∈ lw_tbl ∧ Cond.selects (m_y md_M_fault).cls (m_y md_M_fault) (m_y md_M_fault) ∈ lw_tbl := ⟨List.mem_of_getElem? (i := 1047) (by decide +kernel), List.mem_of_getElem? (i := 1048) (by decide +kernel)⟩
def f_M_fault (N : Nat) (a : aT) : Option (Int32 × aT) :=
  (f_M_reads N a).bind fun q1 =>
    some (q1.1, q1.2)
set_option maxHeartbeats 4000000 in
set_option maxRecDepth 100000 in
theorem x_M_fault (E : eT) (N : Nat) (a : aT) : XI qI E md_M_fault 0 [.ref 31] [] a (f_M_fault N a) := by
  refine XI_go (pc' := 1) (ls' := [.ref 31]) (st' := [.ref 31]) (a' := a) [(.aload_n 0, 1, 0, .null)] (by decide +kernel) rfl ?_
  refine XI_VI (As := []) (rest := []) (b := 31) (idx := 127) (by decide +kernel) ok_M_reads mv_M_reads (n := 0) ⟨lk_M_127, by decide +kernel⟩ rfl rfl rfl rfl (Nat.le_of_ble_eq_true rfl) (Nat.le_of_ble_eq_true rfl) (qI_h rfl) (x_M_reads E N a) (fun q1 => ?_)
  exact XI_retI (by decide +kernel)
/-! ChestnutSticks$Sticks.now(II)I -/
def md_T_now : md_T := (yX6_now, cX6_now, 3, (some .int), 1, 21)
set_option maxRecDepth 100000 in
theorem ok_T_now : m_ok md_T_now := ⟨List.mem_of_getElem? (i := 359) (by decide +kernel), by decide +kernel, List.mem_of_getElem? (i := 55) (by decide +kernel), by decide +kernel⟩
theorem mv_T_now : Cond.instanceMethod (m_y md_T_now) ∈ lw_tbl ∧ Cond.selects (m_y md_T_now).cls (m_y md_T_now) (m_y md_T_now) ∈ lw_tbl := ⟨List.mem_of_getElem? (i := 357) (by decide +kernel), List.mem_of_getElem? (i := 358) (by decide +kernel)⟩
def f_T_now (p1 : Int32) (p2 : Int32) (a : aT) : Option Int32 :=
  if (f_C_isBelow p1 4) = 0 then
    some 0
  else
    if (f_C_isBelow p2 3) = 0 then
      some 0
    else
      if inb ((3 * p1) + p2) 12 then
        some (a 5 (ix ((3 * p1) + p2)))
      else none
set_option maxHeartbeats 4000000 in
set_option maxRecDepth 100000 in
theorem x_T_now (E : eT) (p1 : Int32) (p2 : Int32) (a : aT) : XP qI E md_T_now 0 [.ref 4, .int p1, .int p2] [] a (f_T_now p1 p2 a) := by
  refine XP_go (pc' := 2) (ls' := [.ref 4, .int p1, .int p2]) (st' := [.int 4, .int p1]) (a' := a) [(.iload_n 1, 1, 1, .null), (.iconst 4, 1, 0, .int 4)] (by decide +kernel) rfl ?_
  refine XP_SNT (As := [.int p1, .int 4]) (rest := []) (idx := 15) (by decide +kernel) ok_C_isBelow mv_C_isBelow (n := 2) ⟨lk_T_15, by decide +kernel⟩ rfl (Nat.le_of_ble_eq_true rfl) (Nat.le_of_ble_eq_true rfl) (qZ_h rfl) (x_C_isBelow E p1 4 a) ?_
  refine XP_br (c := (f_C_isBelow p1 4) = 0) (t := 16) (e := 8) (ls' := [.ref 4, .int p1, .int p2]) (st' := []) (a' := a) [(.ifCond .eq 11, 3, 16, .null)] (by decide +kernel) rfl ?_ ?_
  · refine XP_go (pc' := 17) (ls' := [.ref 4, .int p1, .int p2]) (st' := [.int 0]) (a' := a) [(.iconst 0, 1, 0, .int 0)] (by decide +kernel) rfl ?_
    exact XP_retI (by decide +kernel)
  · refine XP_go (pc' := 10) (ls' := [.ref 4, .int p1, .int p2]) (st' := [.int 3, .int p2]) (a' := a) [(.iload_n 2, 1, 2, .null), (.iconst 3, 1, 0, .int 3)] (by decide +kernel) rfl ?_
    refine XP_SNT (As := [.int p2, .int 3]) (rest := []) (idx := 15) (by decide +kernel) ok_C_isBelow mv_C_isBelow (n := 2) ⟨lk_T_15, by decide +kernel⟩ rfl (Nat.le_of_ble_eq_true rfl) (Nat.le_of_ble_eq_true rfl) (qZ_h rfl) (x_C_isBelow E p2 3 a) ?_
    refine XP_br (c := (f_C_isBelow p2 3) = 0) (t := 16) (e := 18) (ls' := [.ref 4, .int p1, .int p2]) (st' := []) (a' := a) [(.ifCond .ne 5, 3, 18, .null)] (by decide +kernel) rfl ?_ ?_
    · refine XP_go (pc' := 17) (ls' := [.ref 4, .int p1, .int p2]) (st' := [.int 0]) (a' := a) [(.iconst 0, 1, 0, .int 0)] (by decide +kernel) rfl ?_
      exact XP_retI (by decide +kernel)
    · refine XP_ck (c := inb ((3 * p1) + p2) 12) (pc' := 28) (ls' := [.ref 4, .int p1, .int p2]) (st' := [.int (a 5 (ix ((3 * p1) + p2)))]) (a' := a) [(.aload_n 0, 1, 0, .null), (.getfield 9, 3, 600, .null), (.iconst 3, 1, 0, .int 3), (.iload_n 1, 1, 1, .null), (.imul, 1, 0, .null), (.iload_n 2, 1, 2, .null), (.iadd, 1, 0, .null), (.iaload, 1, 0, .null)] (by decide +kernel) rfl ?_
      exact XP_retI (by decide +kernel)
/-! ChestnutSticks$Sticks.change(III)I -/
def md_T_change : md_T := (yX6_change, cX6_change, 5, (some .int), 2, 43)
set_option maxRecDepth 100000 in
theorem ok_T_change : m_ok md_T_change := ⟨List.mem_of_getElem? (i := 350) (by decide +kernel), by decide +kernel, List.mem_of_getElem? (i := 55) (by decide +kernel), by decide +kernel⟩
theorem mv_T_change : Cond.instanceMethod (m_y md_T_change) ∈ lw_tbl ∧ Cond.selects (m_y md_T_change).cls (m_y md_T_change) (m_y md_T_change) ∈ lw_tbl := ⟨List.mem_of_getElem? (i := 348) (by decide +kernel), List.mem_of_getElem? (i := 349) (by decide +kernel)⟩
def f_T_change (p1 : Int32) (p2 : Int32) (p3 : Int32) (a : aT) : Option (Int32 × aT) :=
  if (f_C_isBelow p1 4) = 0 then
    some ((-2), a)
  else
    if (f_C_isBelow p2 3) = 0 then
      some ((-2), a)
    else
      if inb p2 3 then
        if p3 < (s_least (ix p2)) then
          some ((-2), a)
        else
          if inb p2 3 then
            if p3 ≤ (s_most (ix p2)) then
              (f_T_now p1 p2 a).bind fun q3 =>
                if inb ((3 * p1) + p2) 12 then
                  some (q3, (upA a 5 (ix ((3 * p1) + p2)) p3))
                else none
            else
              some ((-2), a)
          else none
      else none
set_option maxHeartbeats 4000000 in
set_option maxRecDepth 100000 in
theorem x_T_change (E : eT) (p1 : Int32) (p2 : Int32) (p3 : Int32) (a : aT) : XI qI E md_T_change 0 [.ref 4, .int p1, .int p2, .int p3, .null] [] a (f_T_change p1 p2 p3 a) := by
  refine XI_go (pc' := 2) (ls' := [.ref 4, .int p1, .int p2, .int p3, .null]) (st' := [.int 4, .int p1]) (a' := a) [(.iload_n 1, 1, 1, .null), (.iconst 4, 1, 0, .int 4)] (by decide +kernel) rfl ?_
  refine XI_SNT (As := [.int p1, .int 4]) (rest := []) (idx := 15) (by decide +kernel) ok_C_isBelow mv_C_isBelow (n := 2) ⟨lk_T_15, by decide +kernel⟩ rfl (Nat.le_of_ble_eq_true rfl) (Nat.le_of_ble_eq_true rfl) (qZ_h rfl) (x_C_isBelow E p1 4 a) ?_
  refine XI_br (c := (f_C_isBelow p1 4) = 0) (t := 16) (e := 8) (ls' := [.ref 4, .int p1, .int p2, .int p3, .null]) (st' := []) (a' := a) [(.ifCond .eq 11, 3, 16, .null)] (by decide +kernel) rfl ?_ ?_
  · refine XI_go (pc' := 18) (ls' := [.ref 4, .int p1, .int p2, .int p3, .null]) (st' := [.int (-2)]) (a' := a) [(.bipush (-2), 2, 0, .int (-2))] (by decide +kernel) rfl ?_
    exact XI_retI (by decide +kernel)
  · refine XI_go (pc' := 10) (ls' := [.ref 4, .int p1, .int p2, .int p3, .null]) (st' := [.int 3, .int p2]) (a' := a) [(.iload_n 2, 1, 2, .null), (.iconst 3, 1, 0, .int 3)] (by decide +kernel) rfl ?_
    refine XI_SNT (As := [.int p2, .int 3]) (rest := []) (idx := 15) (by decide +kernel) ok_C_isBelow mv_C_isBelow (n := 2) ⟨lk_T_15, by decide +kernel⟩ rfl (Nat.le_of_ble_eq_true rfl) (Nat.le_of_ble_eq_true rfl) (qZ_h rfl) (x_C_isBelow E p2 3 a) ?_
    refine XI_br (c := (f_C_isBelow p2 3) = 0) (t := 16) (e := 19) (ls' := [.ref 4, .int p1, .int p2, .int p3, .null]) (st' := []) (a' := a) [(.ifCond .ne 6, 3, 19, .null)] (by decide +kernel) rfl ?_ ?_
    · refine XI_go (pc' := 18) (ls' := [.ref 4, .int p1, .int p2, .int p3, .null]) (st' := [.int (-2)]) (a' := a) [(.bipush (-2), 2, 0, .int (-2))] (by decide +kernel) rfl ?_
      exact XI_retI (by decide +kernel)
    · refine XI_ck (c := inb p2 3) (pc' := 25) (ls' := [.ref 4, .int p1, .int p2, .int p3, .null]) (st' := [.int (s_least (ix p2)), .int p3]) (a' := a) [(.iload_n 3, 1, 3, .null), (.getstatic 19, 3, 0, .ref 1000), (.iload_n 2, 1, 2, .null), (.iaload, 1, 0, .null)] (by decide +kernel) rfl ?_
      refine XI_br (c := p3 < (s_least (ix p2))) (t := 37) (e := 28) (ls' := [.ref 4, .int p1, .int p2, .int p3, .null]) (st' := []) (a' := a) [(.if_icmp .lt 12, 3, 37, .null)] (by decide +kernel) rfl ?_ ?_
      · refine XI_go (pc' := 39) (ls' := [.ref 4, .int p1, .int p2, .int p3, .null]) (st' := [.int (-2)]) (a' := a) [(.bipush (-2), 2, 0, .int (-2))] (by decide +kernel) rfl ?_
        exact XI_retI (by decide +kernel)
      · refine XI_ck (c := inb p2 3) (pc' := 34) (ls' := [.ref 4, .int p1, .int p2, .int p3, .null]) (st' := [.int (s_most (ix p2)), .int p3]) (a' := a) [(.iload_n 3, 1, 3, .null), (.getstatic 22, 3, 0, .ref 1001), (.iload_n 2, 1, 2, .null), (.iaload, 1, 0, .null)] (by decide +kernel) rfl ?_
        refine XI_br (c := p3 ≤ (s_most (ix p2))) (t := 40) (e := 37) (ls' := [.ref 4, .int p1, .int p2, .int p3, .null]) (st' := []) (a' := a) [(.if_icmp .le 6, 3, 40, .null)] (by decide +kernel) rfl ?_ ?_
        · refine XI_go (pc' := 43) (ls' := [.ref 4, .int p1, .int p2, .int p3, .null]) (st' := [.int p2, .int p1, .ref 4]) (a' := a) [(.aload_n 0, 1, 0, .null), (.iload_n 1, 1, 1, .null), (.iload_n 2, 1, 2, .null)] (by decide +kernel) rfl ?_
          refine XI_VP (As := [.int p1, .int p2]) (rest := []) (b := 4) (idx := 25) (by decide +kernel) ok_T_now mv_T_now (n := 2) ⟨lk_T_25, by decide +kernel⟩ rfl rfl rfl rfl (Nat.le_of_ble_eq_true rfl) (Nat.le_of_ble_eq_true rfl) (qI_h rfl) (x_T_now E p1 p2 a) (fun q3 => ?_)
          refine XI_ck (c := inb ((3 * p1) + p2) 12) (pc' := 59) (ls' := [.ref 4, .int p1, .int p2, .int p3, .int q3]) (st' := []) (a' := (upA a 5 (ix ((3 * p1) + p2)) p3)) [(.istore 4, 2, 4, .null), (.aload_n 0, 1, 0, .null), (.getfield 9, 3, 600, .null), (.iconst 3, 1, 0, .int 3), (.iload_n 1, 1, 1, .null), (.imul, 1, 0, .null), (.iload_n 2, 1, 2, .null), (.iadd, 1, 0, .null), (.iload_n 3, 1, 3, .null), (.iastore, 1, 0, .null)] (by decide +kernel) rfl ?_
          refine XI_go (pc' := 61) (ls' := [.ref 4, .int p1, .int p2, .int p3, .int q3]) (st' := [.int q3]) (a' := (upA a 5 (ix ((3 * p1) + p2)) p3)) [(.iload 4, 2, 4, .null)] (by decide +kernel) rfl ?_
          exact XI_retI (by decide +kernel)
        · refine XI_go (pc' := 39) (ls' := [.ref 4, .int p1, .int p2, .int p3, .null]) (st' := [.int (-2)]) (a' := a) [(.bipush (-2), 2, 0, .int (-2))] (by decide +kernel) rfl ?_
          exact XI_retI (by decide +kernel)
/-! ChestnutSticks.stick(III)I -/
def md_C_stick : md_T := (yX10_stick, cX10_stick, 4, (some .int), 3, 67)
set_option maxRecDepth 100000 in
theorem ok_C_stick : m_ok md_C_stick := ⟨List.mem_of_getElem? (i := 346) (by decide +kernel), by decide +kernel, List.mem_of_getElem? (i := 53) (by decide +kernel), by decide +kernel⟩
theorem mv_C_stick : Cond.instanceMethod (m_y md_C_stick) ∈ lw_tbl ∧ Cond.selects (m_y md_C_stick).cls (m_y md_C_stick) (m_y md_C_stick) ∈ lw_tbl := ⟨List.mem_of_getElem? (i := 344) (by decide +kernel), List.mem_of_getElem? (i := 345) (by decide +kernel)⟩
def f_C_stick (p1 : Int32) (p2 : Int32) (p3 : Int32) (a : aT) : Option (Int32 × aT) :=
  (f_T_change p1 p2 p3 a).bind fun q1 =>
    some (q1.1, q1.2)
set_option maxHeartbeats 4000000 in
set_option maxRecDepth 100000 in
theorem x_C_stick (E : eT) (p1 : Int32) (p2 : Int32) (p3 : Int32) (a : aT) : XI qI E md_C_stick 0 [.ref 0, .int p1, .int p2, .int p3] [] a (f_C_stick p1 p2 p3 a) := by
  refine XI_go (pc' := 7) (ls' := [.ref 0, .int p1, .int p2, .int p3]) (st' := [.int p3, .int p2, .int p1, .ref 4]) (a' := a) [(.aload_n 0, 1, 0, .null), (.getfield 19, 3, 1001, .null), (.iload_n 1, 1, 1, .null), (.iload_n 2, 1, 2, .null), (.iload_n 3, 1, 3, .null)] (by decide +kernel) rfl ?_
  refine XI_VI (As := [.int p1, .int p2, .int p3]) (rest := []) (b := 4) (idx := 97) (by decide +kernel) ok_T_change mv_T_change (n := 3) ⟨lk_C_97, by decide +kernel⟩ rfl rfl rfl rfl (Nat.le_of_ble_eq_true rfl) (Nat.le_of_ble_eq_true rfl) (qI_h rfl) (x_T_change E p1 p2 p3 a) (fun q1 => ?_)
  exact XI_retI (by decide +kernel)
/-! ChestnutSticksModel.isFour(I)Z -/
def md_M_isFour : md_T := (yX11_isFour, cX11_isFour, 1, (some .boolean), 1, 25)
set_option maxRecDepth 100000 in
theorem ok_M_isFour : m_ok md_M_isFour := ⟨List.mem_of_getElem? (i := 1070) (by decide +kernel), by decide +kernel, List.mem_of_getElem? (i := 64) (by decide +kernel), by decide +kernel⟩
theorem mv_M_isFour : Cond.static (m_y md_M_isFour) ∈ lw_tbl := List.mem_of_getElem? (i := 1069) (by decide +kernel)
def f_M_isFour (p1 : Int32) : Int32 :=
  (vp_nar .boolean (f_M_in p1.toInt64 0 3))
set_option maxHeartbeats 4000000 in
set_option maxRecDepth 100000 in
theorem x_M_isFour (E : eT) (p1 : Int32) (a : aT) : XT qZ E md_M_isFour 0 [.int p1] [] a (f_M_isFour p1) := by
  refine XT_go (pc' := 6) (ls' := [.int p1]) (st' := [.long 3, .long 0, .long p1.toInt64]) (a' := a) [(.iload_n 0, 1, 0, .null), (.i2l, 1, 0, .null), (.lconst 0, 1, 0, .long 0), (.ldc2_w 81, 3, 0, .long 3)] (by decide +kernel) rfl ?_
  refine XT_ST (As := [.long p1.toInt64, .long 0, .long 3]) (rest := []) (idx := 74) (by decide +kernel) ok_M_in mv_M_in (n := 3) ⟨lk_M_74, by decide +kernel⟩ rfl (Nat.le_of_ble_eq_true rfl) (Nat.le_of_ble_eq_true rfl) (qZ_h rfl) (x_M_in E p1.toInt64 0 3 a) ?_
  exact XT_retZ (by decide +kernel) rfl
/-! ChestnutSticksModel.stick(III)I -/
def md_M_stick : md_T := (yX11_stick, cX11_stick, 5, (some .int), 2, 45)
set_option maxRecDepth 100000 in
theorem ok_M_stick : m_ok md_M_stick := ⟨List.mem_of_getElem? (i := 1067) (by decide +kernel), by decide +kernel, List.mem_of_getElem? (i := 64) (by decide +kernel), by decide +kernel⟩
theorem mv_M_stick : Cond.instanceMethod (m_y md_M_stick) ∈ lw_tbl ∧ Cond.selects (m_y md_M_stick).cls (m_y md_M_stick) (m_y md_M_stick) ∈ lw_tbl := ⟨List.mem_of_getElem? (i := 1065) (by decide +kernel), List.mem_of_getElem? (i := 1066) (by decide +kernel)⟩
def f_M_stick_139 (x1 : Int32) (x2 : Int32) (x3 : Int32) (x4 : Int32) (y3 : Int32) (y2 : Int32) (a : aT) : Option (Int32 × aT) :=
  if inb y2 4 then
    if x2 = 2 then
      if inb x1 4 then
        some (x4, (upA (upA a 40 (ix y2) y3) 41 (ix x1) x3))
      else none
    else
      if inb x1 4 then
        if inb x1 4 then
          some (x4, (upA (upA a 40 (ix y2) y3) 41 (ix x1) (a 41 (ix x1))))
        else none
      else none
  else none
def f_M_stick_118 (x1 : Int32) (x2 : Int32) (x3 : Int32) (x4 : Int32) (y3 : Int32) (y2 : Int32) (a : aT) : Option (Int32 × aT) :=
  if inb y2 4 then
    if x2 = 1 then
      f_M_stick_139 x1 x2 x3 x4 x3 x1 (upA a 39 (ix y2) y3)
    else
      if inb x1 4 then
        f_M_stick_139 x1 x2 x3 x4 (a 40 (ix x1)) x1 (upA a 39 (ix y2) y3)
      else none
  else none
def f_M_stick_97 (x1 : Int32) (x2 : Int32) (x3 : Int32) (y1 : Int32) (a : aT) : Option (Int32 × aT) :=
  if x2 = 0 then
    f_M_stick_118 x1 x2 x3 y1 x3 x1 a
  else
    if inb x1 4 then
      f_M_stick_118 x1 x2 x3 y1 (a 39 (ix x1)) x1 a
    else none
def f_M_stick_55 (x1 : Int32) (x2 : Int32) (x3 : Int32) (y3 : Int64) (y2 : Int64) (y1 : Int64) (a : aT) : Option (Int32 × aT) :=
  if (f_M_in y1 y2 y3) = 0 then
    some ((-2), a)
  else
    if x2 = 0 then
      if inb x1 4 then
        f_M_stick_97 x1 x2 x3 (a 39 (ix x1)) a
      else none
    else
      if x2 = 1 then
        if inb x1 4 then
          f_M_stick_97 x1 x2 x3 (a 40 (ix x1)) a
        else none
      else
        if inb x1 4 then
          f_M_stick_97 x1 x2 x3 (a 41 (ix x1)) a
        else none
def f_M_stick_31 (x1 : Int32) (x2 : Int32) (x3 : Int32) (y2 : Int64) (y1 : Int64) (a : aT) : Option (Int32 × aT) :=
  if x2 = 0 then
    f_M_stick_55 x1 x2 x3 9 y2 y1 a
  else
    if x2 = 1 then
      f_M_stick_55 x1 x2 x3 3 y2 y1 a
    else
      f_M_stick_55 x1 x2 x3 16 y2 y1 a
def f_M_stick (p1 : Int32) (p2 : Int32) (p3 : Int32) (a : aT) : Option (Int32 × aT) :=
  if (f_M_isFour p1) = 0 then
    some ((-2), a)
  else
    if (f_M_in p2.toInt64 0 2) = 0 then
      some ((-2), a)
    else
      if p2 = 2 then
        f_M_stick_31 p1 p2 p3 0 p3.toInt64 a
      else
        f_M_stick_31 p1 p2 p3 1 p3.toInt64 a
set_option maxHeartbeats 4000000 in
set_option maxRecDepth 100000 in
theorem x_M_stick_139 (E : eT) (x1 : Int32) (x2 : Int32) (x3 : Int32) (x4 : Int32) (y3 : Int32) (y2 : Int32) (a : aT) : XI qI E md_M_stick 139 [.ref 31, .int x1, .int x2, .int x3, .int x4] [.int y3, .int y2, .ref 40] a (f_M_stick_139 x1 x2 x3 x4 y3 y2 a) := by
  refine XI_ck (c := inb y2 4) (pc' := 140) (ls' := [.ref 31, .int x1, .int x2, .int x3, .int x4]) (st' := []) (a' := (upA a 40 (ix y2) y3)) [(.iastore, 1, 0, .null)] (by decide +kernel) rfl ?_
  refine XI_br (c := x2 = 2) (t := 150) (e := 154) (ls' := [.ref 31, .int x1, .int x2, .int x3, .int x4]) (st' := [.int x1, .ref 41]) (a' := (upA a 40 (ix y2) y3)) [(.aload_n 0, 1, 0, .null), (.getfield 38, 3, 1114, .null), (.iload_n 1, 1, 1, .null), (.iload_n 2, 1, 2, .null), (.iconst 2, 1, 0, .int 2), (.if_icmp .ne 7, 3, 154, .null)] (by decide +kernel) rfl ?_ ?_
  · refine XI_ck (c := inb x1 4) (pc' := 161) (ls' := [.ref 31, .int x1, .int x2, .int x3, .int x4]) (st' := []) (a' := (upA (upA a 40 (ix y2) y3) 41 (ix x1) x3)) [(.iload_n 3, 1, 3, .null), (.goto 9, 3, 160, .null), (.iastore, 1, 0, .null)] (by decide +kernel) rfl ?_
    refine XI_go (pc' := 163) (ls' := [.ref 31, .int x1, .int x2, .int x3, .int x4]) (st' := [.int x4]) (a' := (upA (upA a 40 (ix y2) y3) 41 (ix x1) x3)) [(.iload 4, 2, 4, .null)] (by decide +kernel) rfl ?_
    exact XI_retI (by decide +kernel)
  · refine XI_ck (c := inb x1 4) (pc' := 160) (ls' := [.ref 31, .int x1, .int x2, .int x3, .int x4]) (st' := [.int (a 41 (ix x1)), .int x1, .ref 41]) (a' := (upA a 40 (ix y2) y3)) [(.aload_n 0, 1, 0, .null), (.getfield 38, 3, 1114, .null), (.iload_n 1, 1, 1, .null), (.iaload, 1, 0, .null)] (by decide +kernel) rfl ?_
    refine XI_ck (c := inb x1 4) (pc' := 161) (ls' := [.ref 31, .int x1, .int x2, .int x3, .int x4]) (st' := []) (a' := (upA (upA a 40 (ix y2) y3) 41 (ix x1) (a 41 (ix x1)))) [(.iastore, 1, 0, .null)] (by decide +kernel) rfl ?_
    refine XI_go (pc' := 163) (ls' := [.ref 31, .int x1, .int x2, .int x3, .int x4]) (st' := [.int x4]) (a' := (upA (upA a 40 (ix y2) y3) 41 (ix x1) (a 41 (ix x1)))) [(.iload 4, 2, 4, .null)] (by decide +kernel) rfl ?_
    exact XI_retI (by decide +kernel)
set_option maxHeartbeats 4000000 in
set_option maxRecDepth 100000 in
theorem x_M_stick_118 (E : eT) (x1 : Int32) (x2 : Int32) (x3 : Int32) (x4 : Int32) (y3 : Int32) (y2 : Int32) (a : aT) : XI qI E md_M_stick 118 [.ref 31, .int x1, .int x2, .int x3, .int x4] [.int y3, .int y2, .ref 39] a (f_M_stick_118 x1 x2 x3 x4 y3 y2 a) := by
  refine XI_ck (c := inb y2 4) (pc' := 119) (ls' := [.ref 31, .int x1, .int x2, .int x3, .int x4]) (st' := []) (a' := (upA a 39 (ix y2) y3)) [(.iastore, 1, 0, .null)] (by decide +kernel) rfl ?_
  refine XI_br (c := x2 = 1) (t := 129) (e := 133) (ls' := [.ref 31, .int x1, .int x2, .int x3, .int x4]) (st' := [.int x1, .ref 40]) (a' := (upA a 39 (ix y2) y3)) [(.aload_n 0, 1, 0, .null), (.getfield 35, 3, 1113, .null), (.iload_n 1, 1, 1, .null), (.iload_n 2, 1, 2, .null), (.iconst 1, 1, 0, .int 1), (.if_icmp .ne 7, 3, 133, .null)] (by decide +kernel) rfl ?_ ?_
  · refine XI_go (pc' := 139) (ls' := [.ref 31, .int x1, .int x2, .int x3, .int x4]) (st' := [.int x3, .int x1, .ref 40]) (a' := (upA a 39 (ix y2) y3)) [(.iload_n 3, 1, 3, .null), (.goto 9, 3, 139, .null)] (by decide +kernel) rfl ?_
    refine XI_fg [true, true, true, true, true] ?_
    exact x_M_stick_139 E x1 x2 x3 x4 x3 x1 (upA a 39 (ix y2) y3)
  · refine XI_ck (c := inb x1 4) (pc' := 139) (ls' := [.ref 31, .int x1, .int x2, .int x3, .int x4]) (st' := [.int (a 40 (ix x1)), .int x1, .ref 40]) (a' := (upA a 39 (ix y2) y3)) [(.aload_n 0, 1, 0, .null), (.getfield 35, 3, 1113, .null), (.iload_n 1, 1, 1, .null), (.iaload, 1, 0, .null)] (by decide +kernel) rfl ?_
    refine XI_fg [true, true, true, true, true] ?_
    exact x_M_stick_139 E x1 x2 x3 x4 (a 40 (ix x1)) x1 (upA a 39 (ix y2) y3)
set_option maxHeartbeats 4000000 in
set_option maxRecDepth 100000 in
theorem x_M_stick_97 (E : eT) (x1 : Int32) (x2 : Int32) (x3 : Int32) (y1 : Int32) (a : aT) : XI qI E md_M_stick 97 [.ref 31, .int x1, .int x2, .int x3, .null] [.int y1] a (f_M_stick_97 x1 x2 x3 y1 a) := by
  refine XI_br (c := x2 = 0) (t := 108) (e := 112) (ls' := [.ref 31, .int x1, .int x2, .int x3, .int y1]) (st' := [.int x1, .ref 39]) (a' := a) [(.istore 4, 2, 4, .null), (.aload_n 0, 1, 0, .null), (.getfield 32, 3, 1112, .null), (.iload_n 1, 1, 1, .null), (.iload_n 2, 1, 2, .null), (.ifCond .ne 7, 3, 112, .null)] (by decide +kernel) rfl ?_ ?_
  · refine XI_go (pc' := 118) (ls' := [.ref 31, .int x1, .int x2, .int x3, .int y1]) (st' := [.int x3, .int x1, .ref 39]) (a' := a) [(.iload_n 3, 1, 3, .null), (.goto 9, 3, 118, .null)] (by decide +kernel) rfl ?_
    refine XI_fg [true, true, true, true, true] ?_
    exact x_M_stick_118 E x1 x2 x3 y1 x3 x1 a
  · refine XI_ck (c := inb x1 4) (pc' := 118) (ls' := [.ref 31, .int x1, .int x2, .int x3, .int y1]) (st' := [.int (a 39 (ix x1)), .int x1, .ref 39]) (a' := a) [(.aload_n 0, 1, 0, .null), (.getfield 32, 3, 1112, .null), (.iload_n 1, 1, 1, .null), (.iaload, 1, 0, .null)] (by decide +kernel) rfl ?_
    refine XI_fg [true, true, true, true, true] ?_
    exact x_M_stick_118 E x1 x2 x3 y1 (a 39 (ix x1)) x1 a
set_option maxHeartbeats 4000000 in
set_option maxRecDepth 100000 in
theorem x_M_stick_55 (E : eT) (x1 : Int32) (x2 : Int32) (x3 : Int32) (y3 : Int64) (y2 : Int64) (y1 : Int64) (a : aT) : XI qI E md_M_stick 55 [.ref 31, .int x1, .int x2, .int x3, .null] [.long y3, .long y2, .long y1] a (f_M_stick_55 x1 x2 x3 y3 y2 y1 a) := by
  refine XI_ST (As := [.long y1, .long y2, .long y3]) (rest := []) (idx := 74) (by decide +kernel) ok_M_in mv_M_in (n := 3) ⟨lk_M_74, by decide +kernel⟩ rfl (Nat.le_of_ble_eq_true rfl) (Nat.le_of_ble_eq_true rfl) (qZ_h rfl) (x_M_in E y1 y2 y3 a) ?_
  refine XI_br (c := (f_M_in y1 y2 y3) = 0) (t := 61) (e := 64) (ls' := [.ref 31, .int x1, .int x2, .int x3, .null]) (st' := []) (a' := a) [(.ifCond .ne 6, 3, 64, .null)] (by decide +kernel) rfl ?_ ?_
  · refine XI_go (pc' := 63) (ls' := [.ref 31, .int x1, .int x2, .int x3, .null]) (st' := [.int (-2)]) (a' := a) [(.bipush (-2), 2, 0, .int (-2))] (by decide +kernel) rfl ?_
    exact XI_retI (by decide +kernel)
  · refine XI_br (c := x2 = 0) (t := 68) (e := 77) (ls' := [.ref 31, .int x1, .int x2, .int x3, .null]) (st' := []) (a' := a) [(.iload_n 2, 1, 2, .null), (.ifCond .ne 12, 3, 77, .null)] (by decide +kernel) rfl ?_ ?_
    · refine XI_ck (c := inb x1 4) (pc' := 74) (ls' := [.ref 31, .int x1, .int x2, .int x3, .null]) (st' := [.int (a 39 (ix x1))]) (a' := a) [(.aload_n 0, 1, 0, .null), (.getfield 32, 3, 1112, .null), (.iload_n 1, 1, 1, .null), (.iaload, 1, 0, .null)] (by decide +kernel) rfl ?_
      refine XI_go (pc' := 97) (ls' := [.ref 31, .int x1, .int x2, .int x3, .null]) (st' := [.int (a 39 (ix x1))]) (a' := a) [(.goto 23, 3, 97, .null)] (by decide +kernel) rfl ?_
      refine XI_fg [true, true, true, true, false] ?_
      exact x_M_stick_97 E x1 x2 x3 (a 39 (ix x1)) a
    · refine XI_br (c := x2 = 1) (t := 82) (e := 91) (ls' := [.ref 31, .int x1, .int x2, .int x3, .null]) (st' := []) (a' := a) [(.iload_n 2, 1, 2, .null), (.iconst 1, 1, 0, .int 1), (.if_icmp .ne 12, 3, 91, .null)] (by decide +kernel) rfl ?_ ?_
      · refine XI_ck (c := inb x1 4) (pc' := 88) (ls' := [.ref 31, .int x1, .int x2, .int x3, .null]) (st' := [.int (a 40 (ix x1))]) (a' := a) [(.aload_n 0, 1, 0, .null), (.getfield 35, 3, 1113, .null), (.iload_n 1, 1, 1, .null), (.iaload, 1, 0, .null)] (by decide +kernel) rfl ?_
        refine XI_go (pc' := 97) (ls' := [.ref 31, .int x1, .int x2, .int x3, .null]) (st' := [.int (a 40 (ix x1))]) (a' := a) [(.goto 9, 3, 97, .null)] (by decide +kernel) rfl ?_
        refine XI_fg [true, true, true, true, false] ?_
        exact x_M_stick_97 E x1 x2 x3 (a 40 (ix x1)) a
      · refine XI_ck (c := inb x1 4) (pc' := 97) (ls' := [.ref 31, .int x1, .int x2, .int x3, .null]) (st' := [.int (a 41 (ix x1))]) (a' := a) [(.aload_n 0, 1, 0, .null), (.getfield 38, 3, 1114, .null), (.iload_n 1, 1, 1, .null), (.iaload, 1, 0, .null)] (by decide +kernel) rfl ?_
        refine XI_fg [true, true, true, true, false] ?_
        exact x_M_stick_97 E x1 x2 x3 (a 41 (ix x1)) a
set_option maxHeartbeats 4000000 in
set_option maxRecDepth 100000 in
theorem x_M_stick_31 (E : eT) (x1 : Int32) (x2 : Int32) (x3 : Int32) (y2 : Int64) (y1 : Int64) (a : aT) : XI qI E md_M_stick 31 [.ref 31, .int x1, .int x2, .int x3, .null] [.long y2, .long y1] a (f_M_stick_31 x1 x2 x3 y2 y1 a) := by
  refine XI_br (c := x2 = 0) (t := 35) (e := 41) (ls' := [.ref 31, .int x1, .int x2, .int x3, .null]) (st' := [.long y2, .long y1]) (a' := a) [(.iload_n 2, 1, 2, .null), (.ifCond .ne 9, 3, 41, .null)] (by decide +kernel) rfl ?_ ?_
  · refine XI_go (pc' := 55) (ls' := [.ref 31, .int x1, .int x2, .int x3, .null]) (st' := [.long 9, .long y2, .long y1]) (a' := a) [(.ldc2_w 136, 3, 0, .long 9), (.goto 17, 3, 55, .null)] (by decide +kernel) rfl ?_
    refine XI_fg [true, true, true, true, false] ?_
    exact x_M_stick_55 E x1 x2 x3 9 y2 y1 a
  · refine XI_br (c := x2 = 1) (t := 46) (e := 52) (ls' := [.ref 31, .int x1, .int x2, .int x3, .null]) (st' := [.long y2, .long y1]) (a' := a) [(.iload_n 2, 1, 2, .null), (.iconst 1, 1, 0, .int 1), (.if_icmp .ne 9, 3, 52, .null)] (by decide +kernel) rfl ?_ ?_
    · refine XI_go (pc' := 55) (ls' := [.ref 31, .int x1, .int x2, .int x3, .null]) (st' := [.long 3, .long y2, .long y1]) (a' := a) [(.ldc2_w 81, 3, 0, .long 3), (.goto 6, 3, 55, .null)] (by decide +kernel) rfl ?_
      refine XI_fg [true, true, true, true, false] ?_
      exact x_M_stick_55 E x1 x2 x3 3 y2 y1 a
    · refine XI_go (pc' := 55) (ls' := [.ref 31, .int x1, .int x2, .int x3, .null]) (st' := [.long 16, .long y2, .long y1]) (a' := a) [(.ldc2_w 138, 3, 0, .long 16)] (by decide +kernel) rfl ?_
      refine XI_fg [true, true, true, true, false] ?_
      exact x_M_stick_55 E x1 x2 x3 16 y2 y1 a
set_option maxHeartbeats 4000000 in
set_option maxRecDepth 100000 in
theorem x_M_stick (E : eT) (p1 : Int32) (p2 : Int32) (p3 : Int32) (a : aT) : XI qI E md_M_stick 0 [.ref 31, .int p1, .int p2, .int p3, .null] [] a (f_M_stick p1 p2 p3 a) := by
  refine XI_go (pc' := 1) (ls' := [.ref 31, .int p1, .int p2, .int p3, .null]) (st' := [.int p1]) (a' := a) [(.iload_n 1, 1, 1, .null)] (by decide +kernel) rfl ?_
  refine XI_ST (As := [.int p1]) (rest := []) (idx := 133) (by decide +kernel) ok_M_isFour mv_M_isFour (n := 1) ⟨lk_M_133, by decide +kernel⟩ rfl (Nat.le_of_ble_eq_true rfl) (Nat.le_of_ble_eq_true rfl) (qZ_h rfl) (x_M_isFour E p1 a) ?_
  refine XI_br (c := (f_M_isFour p1) = 0) (t := 61) (e := 7) (ls' := [.ref 31, .int p1, .int p2, .int p3, .null]) (st' := []) (a' := a) [(.ifCond .eq 57, 3, 61, .null)] (by decide +kernel) rfl ?_ ?_
  · refine XI_go (pc' := 63) (ls' := [.ref 31, .int p1, .int p2, .int p3, .null]) (st' := [.int (-2)]) (a' := a) [(.bipush (-2), 2, 0, .int (-2))] (by decide +kernel) rfl ?_
    exact XI_retI (by decide +kernel)
  · refine XI_go (pc' := 13) (ls' := [.ref 31, .int p1, .int p2, .int p3, .null]) (st' := [.long 2, .long 0, .long p2.toInt64]) (a' := a) [(.iload_n 2, 1, 2, .null), (.i2l, 1, 0, .null), (.lconst 0, 1, 0, .long 0), (.ldc2_w 87, 3, 0, .long 2)] (by decide +kernel) rfl ?_
    refine XI_ST (As := [.long p2.toInt64, .long 0, .long 2]) (rest := []) (idx := 74) (by decide +kernel) ok_M_in mv_M_in (n := 3) ⟨lk_M_74, by decide +kernel⟩ rfl (Nat.le_of_ble_eq_true rfl) (Nat.le_of_ble_eq_true rfl) (qZ_h rfl) (x_M_in E p2.toInt64 0 2 a) ?_
    refine XI_br (c := (f_M_in p2.toInt64 0 2) = 0) (t := 61) (e := 19) (ls' := [.ref 31, .int p1, .int p2, .int p3, .null]) (st' := []) (a' := a) [(.ifCond .eq 45, 3, 61, .null)] (by decide +kernel) rfl ?_ ?_
    · refine XI_go (pc' := 63) (ls' := [.ref 31, .int p1, .int p2, .int p3, .null]) (st' := [.int (-2)]) (a' := a) [(.bipush (-2), 2, 0, .int (-2))] (by decide +kernel) rfl ?_
      exact XI_retI (by decide +kernel)
    · refine XI_br (c := p2 = 2) (t := 26) (e := 30) (ls' := [.ref 31, .int p1, .int p2, .int p3, .null]) (st' := [.long p3.toInt64]) (a' := a) [(.iload_n 3, 1, 3, .null), (.i2l, 1, 0, .null), (.iload_n 2, 1, 2, .null), (.iconst 2, 1, 0, .int 2), (.if_icmp .ne 7, 3, 30, .null)] (by decide +kernel) rfl ?_ ?_
      · refine XI_go (pc' := 31) (ls' := [.ref 31, .int p1, .int p2, .int p3, .null]) (st' := [.long 0, .long p3.toInt64]) (a' := a) [(.lconst 0, 1, 0, .long 0), (.goto 4, 3, 31, .null)] (by decide +kernel) rfl ?_
        refine XI_fg [true, true, true, true, false] ?_
        exact x_M_stick_31 E p1 p2 p3 0 p3.toInt64 a
      · refine XI_go (pc' := 31) (ls' := [.ref 31, .int p1, .int p2, .int p3, .null]) (st' := [.long 1, .long p3.toInt64]) (a' := a) [(.lconst 1, 1, 0, .long 1)] (by decide +kernel) rfl ?_
        refine XI_fg [true, true, true, true, false] ?_
        exact x_M_stick_31 E p1 p2 p3 1 p3.toInt64 a
/-! ChestnutSticks$Rules.change(II)I -/
def md_R_change : md_T := (yX2_change, cX2_change, 4, (some .int), 1, 21)
set_option maxRecDepth 100000 in
theorem ok_R_change : m_ok md_R_change := ⟨List.mem_of_getElem? (i := 367) (by decide +kernel), by decide +kernel, List.mem_of_getElem? (i := 56) (by decide +kernel), by decide +kernel⟩
theorem mv_R_change : Cond.instanceMethod (m_y md_R_change) ∈ lw_tbl ∧ Cond.selects (m_y md_R_change).cls (m_y md_R_change) (m_y md_R_change) ∈ lw_tbl := ⟨List.mem_of_getElem? (i := 365) (by decide +kernel), List.mem_of_getElem? (i := 366) (by decide +kernel)⟩
def f_R_change (p1 : Int32) (p2 : Int32) (a : aT) : Option (Int32 × aT) :=
  if (f_C_isBelow p1 6) = 0 then
    some ((-2), a)
  else
    if p2 < 0 then
      some ((-2), a)
    else
      if inb p1 6 then
        if p2 ≤ (r_most (ix p1)) then
          if inb p1 6 then
            if inb p1 6 then
              some ((a 7 (ix p1)), (upA a 7 (ix p1) p2))
            else none
          else none
        else
          some ((-2), a)
      else none
set_option maxHeartbeats 4000000 in
set_option maxRecDepth 100000 in
theorem x_R_change (E : eT) (p1 : Int32) (p2 : Int32) (a : aT) : XI qI E md_R_change 0 [.ref 6, .int p1, .int p2, .null] [] a (f_R_change p1 p2 a) := by
  refine XI_go (pc' := 3) (ls' := [.ref 6, .int p1, .int p2, .null]) (st' := [.int 6, .int p1]) (a' := a) [(.iload_n 1, 1, 1, .null), (.bipush 6, 2, 0, .int 6)] (by decide +kernel) rfl ?_
  refine XI_SNT (As := [.int p1, .int 6]) (rest := []) (idx := 19) (by decide +kernel) ok_C_isBelow mv_C_isBelow (n := 2) ⟨lk_R_19, by decide +kernel⟩ rfl (Nat.le_of_ble_eq_true rfl) (Nat.le_of_ble_eq_true rfl) (qZ_h rfl) (x_C_isBelow E p1 6 a) ?_
  refine XI_br (c := (f_C_isBelow p1 6) = 0) (t := 22) (e := 9) (ls' := [.ref 6, .int p1, .int p2, .null]) (st' := []) (a' := a) [(.ifCond .eq 16, 3, 22, .null)] (by decide +kernel) rfl ?_ ?_
  · refine XI_go (pc' := 24) (ls' := [.ref 6, .int p1, .int p2, .null]) (st' := [.int (-2)]) (a' := a) [(.bipush (-2), 2, 0, .int (-2))] (by decide +kernel) rfl ?_
    exact XI_retI (by decide +kernel)
  · refine XI_br (c := p2 < 0) (t := 22) (e := 13) (ls' := [.ref 6, .int p1, .int p2, .null]) (st' := []) (a' := a) [(.iload_n 2, 1, 2, .null), (.ifCond .lt 12, 3, 22, .null)] (by decide +kernel) rfl ?_ ?_
    · refine XI_go (pc' := 24) (ls' := [.ref 6, .int p1, .int p2, .null]) (st' := [.int (-2)]) (a' := a) [(.bipush (-2), 2, 0, .int (-2))] (by decide +kernel) rfl ?_
      exact XI_retI (by decide +kernel)
    · refine XI_ck (c := inb p1 6) (pc' := 19) (ls' := [.ref 6, .int p1, .int p2, .null]) (st' := [.int (r_most (ix p1)), .int p2]) (a' := a) [(.iload_n 2, 1, 2, .null), (.getstatic 23, 3, 0, .ref 1002), (.iload_n 1, 1, 1, .null), (.iaload, 1, 0, .null)] (by decide +kernel) rfl ?_
      refine XI_br (c := p2 ≤ (r_most (ix p1))) (t := 25) (e := 22) (ls' := [.ref 6, .int p1, .int p2, .null]) (st' := []) (a' := a) [(.if_icmp .le 6, 3, 25, .null)] (by decide +kernel) rfl ?_ ?_
      · refine XI_ck (c := inb p1 6) (pc' := 31) (ls' := [.ref 6, .int p1, .int p2, .null]) (st' := [.int (a 7 (ix p1))]) (a' := a) [(.aload_n 0, 1, 0, .null), (.getfield 9, 3, 200, .null), (.iload_n 1, 1, 1, .null), (.iaload, 1, 0, .null)] (by decide +kernel) rfl ?_
        refine XI_ck (c := inb p1 6) (pc' := 39) (ls' := [.ref 6, .int p1, .int p2, .int (a 7 (ix p1))]) (st' := []) (a' := (upA a 7 (ix p1) p2)) [(.istore_n 3, 1, 3, .null), (.aload_n 0, 1, 0, .null), (.getfield 9, 3, 200, .null), (.iload_n 1, 1, 1, .null), (.iload_n 2, 1, 2, .null), (.iastore, 1, 0, .null)] (by decide +kernel) rfl ?_
        refine XI_go (pc' := 40) (ls' := [.ref 6, .int p1, .int p2, .int (a 7 (ix p1))]) (st' := [.int (a 7 (ix p1))]) (a' := (upA a 7 (ix p1) p2)) [(.iload_n 3, 1, 3, .null)] (by decide +kernel) rfl ?_
        exact XI_retI (by decide +kernel)
      · refine XI_go (pc' := 24) (ls' := [.ref 6, .int p1, .int p2, .null]) (st' := [.int (-2)]) (a' := a) [(.bipush (-2), 2, 0, .int (-2))] (by decide +kernel) rfl ?_
        exact XI_retI (by decide +kernel)
/-! ChestnutSticks.set(II)I -/
def md_C_set : md_T := (yX10_set, cX10_set, 3, (some .int), 2, 44)
set_option maxRecDepth 100000 in
theorem ok_C_set : m_ok md_C_set := ⟨List.mem_of_getElem? (i := 363) (by decide +kernel), by decide +kernel, List.mem_of_getElem? (i := 53) (by decide +kernel), by decide +kernel⟩
theorem mv_C_set : Cond.instanceMethod (m_y md_C_set) ∈ lw_tbl ∧ Cond.selects (m_y md_C_set).cls (m_y md_C_set) (m_y md_C_set) ∈ lw_tbl := ⟨List.mem_of_getElem? (i := 361) (by decide +kernel), List.mem_of_getElem? (i := 362) (by decide +kernel)⟩
def f_C_set (p1 : Int32) (p2 : Int32) (a : aT) : Option (Int32 × aT) :=
  (f_R_change p1 p2 a).bind fun q1 =>
    some (q1.1, q1.2)
set_option maxHeartbeats 4000000 in
set_option maxRecDepth 100000 in
theorem x_C_set (E : eT) (p1 : Int32) (p2 : Int32) (a : aT) : XI qI E md_C_set 0 [.ref 0, .int p1, .int p2] [] a (f_C_set p1 p2 a) := by
  refine XI_go (pc' := 6) (ls' := [.ref 0, .int p1, .int p2]) (st' := [.int p2, .int p1, .ref 6]) (a' := a) [(.aload_n 0, 1, 0, .null), (.getfield 26, 3, 1002, .null), (.iload_n 1, 1, 1, .null), (.iload_n 2, 1, 2, .null)] (by decide +kernel) rfl ?_
  refine XI_VI (As := [.int p1, .int p2]) (rest := []) (b := 6) (idx := 101) (by decide +kernel) ok_R_change mv_R_change (n := 2) ⟨lk_C_101, by decide +kernel⟩ rfl rfl rfl rfl (Nat.le_of_ble_eq_true rfl) (Nat.le_of_ble_eq_true rfl) (qI_h rfl) (x_R_change E p1 p2 a) (fun q1 => ?_)
  exact XI_retI (by decide +kernel)
/-! ChestnutSticksModel.most(I)I -/
def md_M_most : md_T := (yX11_most, cX11_most, 1, (some .int), 0, 0)
set_option maxRecDepth 100000 in
theorem ok_M_most : m_ok md_M_most := ⟨List.mem_of_getElem? (i := 1080) (by decide +kernel), by decide +kernel, List.mem_of_getElem? (i := 64) (by decide +kernel), by decide +kernel⟩
theorem mv_M_most : Cond.static (m_y md_M_most) ∈ lw_tbl := List.mem_of_getElem? (i := 1079) (by decide +kernel)
def f_M_most (p1 : Int32) : Int32 :=
  if p1 = 0 then
    8
  else
    if p1 = 1 then
      29
    else
      if p1 = 3 then
        1
      else
        if p1 = 5 then
          16
        else
          9
set_option maxHeartbeats 4000000 in
set_option maxRecDepth 100000 in
theorem x_M_most (E : eT) (p1 : Int32) (a : aT) : XT qI E md_M_most 0 [.int p1] [] a (f_M_most p1) := by
  refine XT_br (c := p1 = 0) (t := 4) (e := 9) (ls' := [.int p1]) (st' := []) (a' := a) [(.iload_n 0, 1, 0, .null), (.ifCond .ne 8, 3, 9, .null)] (by decide +kernel) rfl ?_ ?_
  · refine XT_go (pc' := 40) (ls' := [.int p1]) (st' := [.int 8]) (a' := a) [(.bipush 8, 2, 0, .int 8), (.goto 34, 3, 40, .null)] (by decide +kernel) rfl ?_
    exact XT_retI (by decide +kernel)
  · refine XT_br (c := p1 = 1) (t := 14) (e := 19) (ls' := [.int p1]) (st' := []) (a' := a) [(.iload_n 0, 1, 0, .null), (.iconst 1, 1, 0, .int 1), (.if_icmp .ne 8, 3, 19, .null)] (by decide +kernel) rfl ?_ ?_
    · refine XT_go (pc' := 40) (ls' := [.int p1]) (st' := [.int 29]) (a' := a) [(.bipush 29, 2, 0, .int 29), (.goto 24, 3, 40, .null)] (by decide +kernel) rfl ?_
      exact XT_retI (by decide +kernel)
    · refine XT_br (c := p1 = 3) (t := 24) (e := 28) (ls' := [.int p1]) (st' := []) (a' := a) [(.iload_n 0, 1, 0, .null), (.iconst 3, 1, 0, .int 3), (.if_icmp .ne 7, 3, 28, .null)] (by decide +kernel) rfl ?_ ?_
      · refine XT_go (pc' := 40) (ls' := [.int p1]) (st' := [.int 1]) (a' := a) [(.iconst 1, 1, 0, .int 1), (.goto 15, 3, 40, .null)] (by decide +kernel) rfl ?_
        exact XT_retI (by decide +kernel)
      · refine XT_br (c := p1 = 5) (t := 33) (e := 38) (ls' := [.int p1]) (st' := []) (a' := a) [(.iload_n 0, 1, 0, .null), (.iconst 5, 1, 0, .int 5), (.if_icmp .ne 8, 3, 38, .null)] (by decide +kernel) rfl ?_ ?_
        · refine XT_go (pc' := 40) (ls' := [.int p1]) (st' := [.int 16]) (a' := a) [(.bipush 16, 2, 0, .int 16), (.goto 5, 3, 40, .null)] (by decide +kernel) rfl ?_
          exact XT_retI (by decide +kernel)
        · refine XT_go (pc' := 40) (ls' := [.int p1]) (st' := [.int 9]) (a' := a) [(.bipush 9, 2, 0, .int 9)] (by decide +kernel) rfl ?_
          exact XT_retI (by decide +kernel)
