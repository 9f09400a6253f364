/-! ChestnutSticksModel.met(I)I -/
def md_M_met : md_T := (yX11_met, cX11_met, 2, (some .int), 0, 0)
set_option maxRecDepth 100000 in
theorem ok_M_met : m_ok md_M_met := ⟨List.mem_of_getElem? (i := 1008) (by decide +kernel), by decide +kernel, List.mem_of_getElem? (i := 64) (by decide +kernel), by decide +kernel⟩
theorem mv_M_met : Cond.instanceMethod (m_y md_M_met) ∈ lw_tbl ∧ Cond.selects (m_y md_M_met).cls (m_y md_M_met) (m_y md_M_met) ∈ lw_tbl := ⟨List.mem_of_getElem? (i := 1007) (by decide +kernel), List.mem_of_getElem? (i := 18) (by decide +kernel)⟩
def f_M_met (p1 : Int32) (a : aT) : Option (Int32 × aT) :=
  some (((-10) - p1), (upA a 31 4 p1))
set_option maxHeartbeats 4000000 in
set_option maxRecDepth 100000 in
theorem x_M_met (E : eT) (p1 : Int32) (a : aT) : XI qI E md_M_met 0 [.ref 31, .int p1] [] a (f_M_met p1 a) := by
  refine XI_go (pc' := 9) (ls' := [.ref 31, .int p1]) (st' := [.int ((-10) - p1)]) (a' := (upA a 31 4 p1)) [(.aload_n 0, 1, 0, .null), (.iload_n 1, 1, 1, .null), (.putfield 78, 3, 1104, .int 0), (.bipush (-10), 2, 0, .int (-10)), (.iload_n 1, 1, 1, .null), (.isub, 1, 0, .null)] (by decide +kernel) rfl ?_
  exact XI_retI (by decide +kernel)
/-! ChestnutSticksModel.read(I)I -/
def md_M_read : md_T := (yX11_read, cX11_read, 3, (some .int), 3, 68)
set_option maxRecDepth 100000 in
theorem ok_M_read : m_ok md_M_read := ⟨List.mem_of_getElem? (i := 1093) (by decide +kernel), by decide +kernel, List.mem_of_getElem? (i := 64) (by decide +kernel), by decide +kernel⟩
theorem mv_M_read : Cond.instanceMethod (m_y md_M_read) ∈ lw_tbl ∧ Cond.selects (m_y md_M_read).cls (m_y md_M_read) (m_y md_M_read) ∈ lw_tbl := ⟨List.mem_of_getElem? (i := 1091) (by decide +kernel), List.mem_of_getElem? (i := 1092) (by decide +kernel)⟩
def f_M_read_27 (N : Nat) : Nat → Int32 → Int32 → aT → Option (Int32 × aT)
  | 0 => fun _ _ _ => none
  | n + 1 => fun x1 x2 a =>
    if inb x1 4 then
      if (a 33 (ix x1)) ≤ x2 then
        some (x2, a)
      else
        if inb ((60 * x1) + x2) 240 then
          (f_M_stands x2 (a 34 (ix ((60 * x1) + x2))) a).bind fun q3 =>
            if q3.1 < 0 then
              some (x2, q3.2)
            else
              f_M_read_27 N n x1 (x2 + 1) q3.2
        else none
    else none
def f_M_read (N : Nat) (p1 : Int32) (a : aT) : Option (Int32 × aT) :=
  if (f_M_isSheet p1) = 0 then
    some ((-2), a)
  else
    if inb p1 4 then
      if 0 ≤ (a 32 (ix p1)) then
        f_M_read_27 N N p1 0 a
      else
        (f_M_met 1 a).bind fun q2 =>
          some (q2.1, q2.2)
    else none
set_option maxHeartbeats 4000000 in
set_option maxRecDepth 100000 in
theorem x_M_read_27 (E : eT) (N : Nat) : ∀ (n : Nat) (x1 : Int32) (x2 : Int32) (a : aT), XI qI E md_M_read 27 [.ref 31, .int x1, .int x2] [] a (f_M_read_27 N n x1 x2 a)
  | 0, _, _, _ => XI_no rfl
  | n + 1, x1, x2, a => by
    refine XI_ck (c := inb x1 4) (pc' := 34) (ls' := [.ref 31, .int x1, .int x2]) (st' := [.int (a 33 (ix x1)), .int x2]) (a' := a) [(.iload_n 2, 1, 2, .null), (.aload_n 0, 1, 0, .null), (.getfield 13, 3, 1101, .null), (.iload_n 1, 1, 1, .null), (.iaload, 1, 0, .null)] (by decide +kernel) rfl ?_
    refine XI_br (c := (a 33 (ix x1)) ≤ x2) (t := 62) (e := 37) (ls' := [.ref 31, .int x1, .int x2]) (st' := []) (a' := a) [(.if_icmp .ge 28, 3, 62, .null)] (by decide +kernel) rfl ?_ ?_
    · refine XI_go (pc' := 63) (ls' := [.ref 31, .int x1, .int x2]) (st' := [.int x2]) (a' := a) [(.iload_n 2, 1, 2, .null)] (by decide +kernel) rfl ?_
      exact XI_retI (by decide +kernel)
    · refine XI_ck (c := inb ((60 * x1) + x2) 240) (pc' := 50) (ls' := [.ref 31, .int x1, .int x2]) (st' := [.int (a 34 (ix ((60 * x1) + x2))), .int x2, .ref 31]) (a' := a) [(.aload_n 0, 1, 0, .null), (.iload_n 2, 1, 2, .null), (.aload_n 0, 1, 0, .null), (.getfield 16, 3, 1102, .null), (.bipush 60, 2, 0, .int 60), (.iload_n 1, 1, 1, .null), (.imul, 1, 0, .null), (.iload_n 2, 1, 2, .null), (.iadd, 1, 0, .null), (.iaload, 1, 0, .null)] (by decide +kernel) rfl ?_
      refine XI_VI (As := [.int x2, .int (a 34 (ix ((60 * x1) + x2)))]) (rest := []) (b := 31) (idx := 147) (by decide +kernel) ok_M_stands mv_M_stands (n := 2) ⟨lk_M_147, by decide +kernel⟩ rfl rfl rfl rfl (Nat.le_of_ble_eq_true rfl) (Nat.le_of_ble_eq_true rfl) (qI_h rfl) (x_M_stands E x2 (a 34 (ix ((60 * x1) + x2))) a) (fun q3 => ?_)
      refine XI_br (c := q3.1 < 0) (t := 62) (e := 56) (ls' := [.ref 31, .int x1, .int x2]) (st' := []) (a' := q3.2) [(.ifCond .lt 9, 3, 62, .null)] (by decide +kernel) rfl ?_ ?_
      · refine XI_go (pc' := 63) (ls' := [.ref 31, .int x1, .int x2]) (st' := [.int x2]) (a' := q3.2) [(.iload_n 2, 1, 2, .null)] (by decide +kernel) rfl ?_
        exact XI_retI (by decide +kernel)
      · refine XI_go (pc' := 27) (ls' := [.ref 31, .int x1, .int (x2 + 1)]) (st' := []) (a' := q3.2) [(.iinc 2 1, 3, 2, .int 1), (.goto (-32), 3, 27, .null)] (by decide +kernel) rfl ?_
        refine XI_fg [true, true, true] ?_
        exact x_M_read_27 E N n x1 (x2 + 1) q3.2
set_option maxHeartbeats 4000000 in
set_option maxRecDepth 100000 in
theorem x_M_read (E : eT) (N : Nat) (p1 : Int32) (a : aT) : XI qI E md_M_read 0 [.ref 31, .int p1, .null] [] a (f_M_read N p1 a) := by
  refine XI_go (pc' := 1) (ls' := [.ref 31, .int p1, .null]) (st' := [.int p1]) (a' := a) [(.iload_n 1, 1, 1, .null)] (by decide +kernel) rfl ?_
  refine XI_ST (As := [.int p1]) (rest := []) (idx := 83) (by decide +kernel) ok_M_isSheet mv_M_isSheet (n := 1) ⟨lk_M_83, by decide +kernel⟩ rfl (Nat.le_of_ble_eq_true rfl) (Nat.le_of_ble_eq_true rfl) (qZ_h rfl) (x_M_isSheet E p1 a) ?_
  refine XI_br (c := (f_M_isSheet p1) = 0) (t := 7) (e := 10) (ls' := [.ref 31, .int p1, .null]) (st' := []) (a' := a) [(.ifCond .ne 6, 3, 10, .null)] (by decide +kernel) rfl ?_ ?_
  · refine XI_go (pc' := 9) (ls' := [.ref 31, .int p1, .null]) (st' := [.int (-2)]) (a' := a) [(.bipush (-2), 2, 0, .int (-2))] (by decide +kernel) rfl ?_
    exact XI_retI (by decide +kernel)
  · refine XI_ck (c := inb p1 4) (pc' := 16) (ls' := [.ref 31, .int p1, .null]) (st' := [.int (a 32 (ix p1))]) (a' := a) [(.aload_n 0, 1, 0, .null), (.getfield 7, 3, 1100, .null), (.iload_n 1, 1, 1, .null), (.iaload, 1, 0, .null)] (by decide +kernel) rfl ?_
    refine XI_br (c := 0 ≤ (a 32 (ix p1))) (t := 25) (e := 19) (ls' := [.ref 31, .int p1, .null]) (st' := []) (a' := a) [(.ifCond .ge 9, 3, 25, .null)] (by decide +kernel) rfl ?_ ?_
    · refine XI_go (pc' := 27) (ls' := [.ref 31, .int p1, .int 0]) (st' := []) (a' := a) [(.iconst 0, 1, 0, .int 0), (.istore_n 2, 1, 2, .null)] (by decide +kernel) rfl ?_
      refine XI_fg [true, true, true] ?_
      exact x_M_read_27 E N N p1 0 a
    · refine XI_go (pc' := 21) (ls' := [.ref 31, .int p1, .null]) (st' := [.int 1, .ref 31]) (a' := a) [(.aload_n 0, 1, 0, .null), (.iconst 1, 1, 0, .int 1)] (by decide +kernel) rfl ?_
      refine XI_VI (As := [.int 1]) (rest := []) (b := 31) (idx := 89) (by decide +kernel) ok_M_met mv_M_met (n := 1) ⟨lk_M_89, by decide +kernel⟩ rfl rfl rfl rfl (Nat.le_of_ble_eq_true rfl) (Nat.le_of_ble_eq_true rfl) (qI_h rfl) (x_M_met E 1 a) (fun q2 => ?_)
      exact XI_retI (by decide +kernel)
/-! ChestnutSticks$Throws.append(III)I -/
def md_O_append : md_T := (yX8_append, cX8_append, 4, (some .int), 1, 21)
set_option maxRecDepth 100000 in
theorem ok_O_append : m_ok md_O_append := ⟨List.mem_of_getElem? (i := 424) (by decide +kernel), by decide +kernel, List.mem_of_getElem? (i := 58) (by decide +kernel), by decide +kernel⟩
theorem mv_O_append : Cond.instanceMethod (m_y md_O_append) ∈ lw_tbl ∧ Cond.selects (m_y md_O_append).cls (m_y md_O_append) (m_y md_O_append) ∈ lw_tbl := ⟨List.mem_of_getElem? (i := 422) (by decide +kernel), List.mem_of_getElem? (i := 423) (by decide +kernel)⟩
def f_O_append (p1 : Int32) (p2 : Int32) (p3 : Int32) (a : aT) : Option (Int32 × aT) :=
  if (f_C_isBelow p1 4) = 0 then
    some ((-2), a)
  else
    if (f_C_isBelow p2 4) = 0 then
      some ((-2), a)
    else
      if (f_C_isBelow p3 48) = 0 then
        some ((-2), a)
      else
        if (f_C_isBelow (a 10 3) 20) = 0 then
          some ((-4), a)
        else
          if inb (a 10 3) 20 then
            if inb (a 10 3) 20 then
              if inb (a 10 3) 20 then
                some (((a 10 3) + 1), (upA (upA (upA (upA a 11 (ix (a 10 3)) p1) 12 (ix (a 10 3)) p2) 13 (ix (a 10 3)) p3) 10 3 ((a 10 3) + 1)))
              else none
            else none
          else none
set_option maxHeartbeats 4000000 in
set_option maxRecDepth 100000 in
theorem x_O_append (E : eT) (p1 : Int32) (p2 : Int32) (p3 : Int32) (a : aT) : XI qI E md_O_append 0 [.ref 10, .int p1, .int p2, .int p3] [] a (f_O_append p1 p2 p3 a) := by
  refine XI_go (pc' := 2) (ls' := [.ref 10, .int p1, .int p2, .int p3]) (st' := [.int 4, .int p1]) (a' := a) [(.iload_n 1, 1, 1, .null), (.iconst 4, 1, 0, .int 4)] (by decide +kernel) rfl ?_
  refine XI_SNT (As := [.int p1, .int 4]) (rest := []) (idx := 25) (by decide +kernel) ok_C_isBelow mv_C_isBelow (n := 2) ⟨lk_O_25, by decide +kernel⟩ rfl (Nat.le_of_ble_eq_true rfl) (Nat.le_of_ble_eq_true rfl) (qZ_h rfl) (x_C_isBelow E p1 4 a) ?_
  refine XI_br (c := (f_C_isBelow p1 4) = 0) (t := 25) (e := 8) (ls' := [.ref 10, .int p1, .int p2, .int p3]) (st' := []) (a' := a) [(.ifCond .eq 20, 3, 25, .null)] (by decide +kernel) rfl ?_ ?_
  · refine XI_go (pc' := 27) (ls' := [.ref 10, .int p1, .int p2, .int p3]) (st' := [.int (-2)]) (a' := a) [(.bipush (-2), 2, 0, .int (-2))] (by decide +kernel) rfl ?_
    exact XI_retI (by decide +kernel)
  · refine XI_go (pc' := 10) (ls' := [.ref 10, .int p1, .int p2, .int p3]) (st' := [.int 4, .int p2]) (a' := a) [(.iload_n 2, 1, 2, .null), (.iconst 4, 1, 0, .int 4)] (by decide +kernel) rfl ?_
    refine XI_SNT (As := [.int p2, .int 4]) (rest := []) (idx := 25) (by decide +kernel) ok_C_isBelow mv_C_isBelow (n := 2) ⟨lk_O_25, by decide +kernel⟩ rfl (Nat.le_of_ble_eq_true rfl) (Nat.le_of_ble_eq_true rfl) (qZ_h rfl) (x_C_isBelow E p2 4 a) ?_
    refine XI_br (c := (f_C_isBelow p2 4) = 0) (t := 25) (e := 16) (ls' := [.ref 10, .int p1, .int p2, .int p3]) (st' := []) (a' := a) [(.ifCond .eq 12, 3, 25, .null)] (by decide +kernel) rfl ?_ ?_
    · refine XI_go (pc' := 27) (ls' := [.ref 10, .int p1, .int p2, .int p3]) (st' := [.int (-2)]) (a' := a) [(.bipush (-2), 2, 0, .int (-2))] (by decide +kernel) rfl ?_
      exact XI_retI (by decide +kernel)
    · refine XI_go (pc' := 19) (ls' := [.ref 10, .int p1, .int p2, .int p3]) (st' := [.int 48, .int p3]) (a' := a) [(.iload_n 3, 1, 3, .null), (.bipush 48, 2, 0, .int 48)] (by decide +kernel) rfl ?_
      refine XI_SNT (As := [.int p3, .int 48]) (rest := []) (idx := 25) (by decide +kernel) ok_C_isBelow mv_C_isBelow (n := 2) ⟨lk_O_25, by decide +kernel⟩ rfl (Nat.le_of_ble_eq_true rfl) (Nat.le_of_ble_eq_true rfl) (qZ_h rfl) (x_C_isBelow E p3 48 a) ?_
      refine XI_br (c := (f_C_isBelow p3 48) = 0) (t := 25) (e := 28) (ls' := [.ref 10, .int p1, .int p2, .int p3]) (st' := []) (a' := a) [(.ifCond .ne 6, 3, 28, .null)] (by decide +kernel) rfl ?_ ?_
      · refine XI_go (pc' := 27) (ls' := [.ref 10, .int p1, .int p2, .int p3]) (st' := [.int (-2)]) (a' := a) [(.bipush (-2), 2, 0, .int (-2))] (by decide +kernel) rfl ?_
        exact XI_retI (by decide +kernel)
      · refine XI_go (pc' := 34) (ls' := [.ref 10, .int p1, .int p2, .int p3]) (st' := [.int 20, .int (a 10 3)]) (a' := a) [(.aload_n 0, 1, 0, .null), (.getfield 21, 3, 803, .null), (.bipush 20, 2, 0, .int 20)] (by decide +kernel) rfl ?_
        refine XI_SNT (As := [.int (a 10 3), .int 20]) (rest := []) (idx := 25) (by decide +kernel) ok_C_isBelow mv_C_isBelow (n := 2) ⟨lk_O_25, by decide +kernel⟩ rfl (Nat.le_of_ble_eq_true rfl) (Nat.le_of_ble_eq_true rfl) (qZ_h rfl) (x_C_isBelow E (a 10 3) 20 a) ?_
        refine XI_br (c := (f_C_isBelow (a 10 3) 20) = 0) (t := 40) (e := 43) (ls' := [.ref 10, .int p1, .int p2, .int p3]) (st' := []) (a' := a) [(.ifCond .ne 6, 3, 43, .null)] (by decide +kernel) rfl ?_ ?_
        · refine XI_go (pc' := 42) (ls' := [.ref 10, .int p1, .int p2, .int p3]) (st' := [.int (-4)]) (a' := a) [(.bipush (-4), 2, 0, .int (-4))] (by decide +kernel) rfl ?_
          exact XI_retI (by decide +kernel)
        · refine XI_ck (c := inb (a 10 3) 20) (pc' := 53) (ls' := [.ref 10, .int p1, .int p2, .int p3]) (st' := []) (a' := (upA a 11 (ix (a 10 3)) p1)) [(.aload_n 0, 1, 0, .null), (.getfield 9, 3, 800, .null), (.aload_n 0, 1, 0, .null), (.getfield 21, 3, 803, .null), (.iload_n 1, 1, 1, .null), (.iastore, 1, 0, .null)] (by decide +kernel) rfl ?_
          refine XI_ck (c := inb (a 10 3) 20) (pc' := 63) (ls' := [.ref 10, .int p1, .int p2, .int p3]) (st' := []) (a' := (upA (upA a 11 (ix (a 10 3)) p1) 12 (ix (a 10 3)) p2)) [(.aload_n 0, 1, 0, .null), (.getfield 15, 3, 801, .null), (.aload_n 0, 1, 0, .null), (.getfield 21, 3, 803, .null), (.iload_n 2, 1, 2, .null), (.iastore, 1, 0, .null)] (by decide +kernel) rfl ?_
          refine XI_ck (c := inb (a 10 3) 20) (pc' := 73) (ls' := [.ref 10, .int p1, .int p2, .int p3]) (st' := []) (a' := (upA (upA (upA a 11 (ix (a 10 3)) p1) 12 (ix (a 10 3)) p2) 13 (ix (a 10 3)) p3)) [(.aload_n 0, 1, 0, .null), (.getfield 18, 3, 802, .null), (.aload_n 0, 1, 0, .null), (.getfield 21, 3, 803, .null), (.iload_n 3, 1, 3, .null), (.iastore, 1, 0, .null)] (by decide +kernel) rfl ?_
          refine XI_go (pc' := 87) (ls' := [.ref 10, .int p1, .int p2, .int p3]) (st' := [.int ((a 10 3) + 1)]) (a' := (upA (upA (upA (upA a 11 (ix (a 10 3)) p1) 12 (ix (a 10 3)) p2) 13 (ix (a 10 3)) p3) 10 3 ((a 10 3) + 1))) [(.aload_n 0, 1, 0, .null), (.dup, 1, 0, .null), (.getfield 21, 3, 803, .null), (.iconst 1, 1, 0, .int 1), (.iadd, 1, 0, .null), (.putfield 21, 3, 803, .int 0), (.aload_n 0, 1, 0, .null), (.getfield 21, 3, 803, .null)] (by decide +kernel) rfl ?_
          exact XI_retI (by decide +kernel)
/-! ChestnutSticks.toss(III)I -/
def md_C_toss : md_T := (yX10_toss, cX10_toss, 4, (some .int), 2, 44)
set_option maxRecDepth 100000 in
theorem ok_C_toss : m_ok md_C_toss := ⟨List.mem_of_getElem? (i := 420) (by decide +kernel), by decide +kernel, List.mem_of_getElem? (i := 53) (by decide +kernel), by decide +kernel⟩
theorem mv_C_toss : Cond.instanceMethod (m_y md_C_toss) ∈ lw_tbl ∧ Cond.selects (m_y md_C_toss).cls (m_y md_C_toss) (m_y md_C_toss) ∈ lw_tbl := ⟨List.mem_of_getElem? (i := 418) (by decide +kernel), List.mem_of_getElem? (i := 419) (by decide +kernel)⟩
def f_C_toss (p1 : Int32) (p2 : Int32) (p3 : Int32) (a : aT) : Option (Int32 × aT) :=
  (f_O_append p1 p2 p3 a).bind fun q1 =>
    some (q1.1, q1.2)
set_option maxHeartbeats 4000000 in
set_option maxRecDepth 100000 in
theorem x_C_toss (E : eT) (p1 : Int32) (p2 : Int32) (p3 : Int32) (a : aT) : XI qI E md_C_toss 0 [.ref 0, .int p1, .int p2, .int p3] [] a (f_C_toss p1 p2 p3 a) := by
  refine XI_go (pc' := 7) (ls' := [.ref 0, .int p1, .int p2, .int p3]) (st' := [.int p3, .int p2, .int p1, .ref 10]) (a' := a) [(.aload_n 0, 1, 0, .null), (.getfield 40, 3, 1004, .null), (.iload_n 1, 1, 1, .null), (.iload_n 2, 1, 2, .null), (.iload_n 3, 1, 3, .null)] (by decide +kernel) rfl ?_
  refine XI_VI (As := [.int p1, .int p2, .int p3]) (rest := []) (b := 10) (idx := 132) (by decide +kernel) ok_O_append mv_O_append (n := 3) ⟨lk_C_132, by decide +kernel⟩ rfl rfl rfl rfl (Nat.le_of_ble_eq_true rfl) (Nat.le_of_ble_eq_true rfl) (qI_h rfl) (x_O_append E p1 p2 p3 a) (fun q1 => ?_)
  exact XI_retI (by decide +kernel)
/-! ChestnutSticksModel.toss(III)I -/
def md_M_toss : md_T := (yX11_toss, cX11_toss, 4, (some .int), 2, 45)
set_option maxRecDepth 100000 in
theorem ok_M_toss : m_ok md_M_toss := ⟨List.mem_of_getElem? (i := 1098) (by decide +kernel), by decide +kernel, List.mem_of_getElem? (i := 64) (by decide +kernel), by decide +kernel⟩
theorem mv_M_toss : Cond.instanceMethod (m_y md_M_toss) ∈ lw_tbl ∧ Cond.selects (m_y md_M_toss).cls (m_y md_M_toss) (m_y md_M_toss) ∈ lw_tbl := ⟨List.mem_of_getElem? (i := 1096) (by decide +kernel), List.mem_of_getElem? (i := 1097) (by decide +kernel)⟩
def f_M_toss (p1 : Int32) (p2 : Int32) (p3 : Int32) (a : aT) : Option (Int32 × aT) :=
  if (f_M_isFour p1) = 0 then
    some ((-2), a)
  else
    if (f_M_isFour p2) = 0 then
      some ((-2), a)
    else
      if (f_M_in p3.toInt64 0 47) = 0 then
        some ((-2), a)
      else
        if (a 31 18) = 20 then
          some ((-4), a)
        else
          if inb (3 * (a 31 18)) 60 then
            if inb ((3 * (a 31 18)) + 1) 60 then
              if inb ((3 * (a 31 18)) + 2) 60 then
                some (((a 31 18) + 1), (upA (upA (upA (upA a 44 (ix (3 * (a 31 18))) p1) 44 (ix ((3 * (a 31 18)) + 1)) p2) 44 (ix ((3 * (a 31 18)) + 2)) p3) 31 18 ((a 31 18) + 1)))
              else none
            else none
          else none
set_option maxHeartbeats 4000000 in
set_option maxRecDepth 100000 in
theorem x_M_toss (E : eT) (p1 : Int32) (p2 : Int32) (p3 : Int32) (a : aT) : XI qI E md_M_toss 0 [.ref 31, .int p1, .int p2, .int p3] [] a (f_M_toss p1 p2 p3 a) := by
  refine XI_go (pc' := 1) (ls' := [.ref 31, .int p1, .int p2, .int p3]) (st' := [.int p1]) (a' := a) [(.iload_n 1, 1, 1, .null)] (by decide +kernel) rfl ?_
  refine XI_ST (As := [.int p1]) (rest := []) (idx := 133) (by decide +kernel) ok_M_isFour mv_M_isFour (n := 1) ⟨lk_M_133, by decide +kernel⟩ rfl (Nat.le_of_ble_eq_true rfl) (Nat.le_of_ble_eq_true rfl) (qZ_h rfl) (x_M_isFour E p1 a) ?_
  refine XI_br (c := (f_M_isFour p1) = 0) (t := 26) (e := 7) (ls' := [.ref 31, .int p1, .int p2, .int p3]) (st' := []) (a' := a) [(.ifCond .eq 22, 3, 26, .null)] (by decide +kernel) rfl ?_ ?_
  · refine XI_go (pc' := 28) (ls' := [.ref 31, .int p1, .int p2, .int p3]) (st' := [.int (-2)]) (a' := a) [(.bipush (-2), 2, 0, .int (-2))] (by decide +kernel) rfl ?_
    exact XI_retI (by decide +kernel)
  · refine XI_go (pc' := 8) (ls' := [.ref 31, .int p1, .int p2, .int p3]) (st' := [.int p2]) (a' := a) [(.iload_n 2, 1, 2, .null)] (by decide +kernel) rfl ?_
    refine XI_ST (As := [.int p2]) (rest := []) (idx := 133) (by decide +kernel) ok_M_isFour mv_M_isFour (n := 1) ⟨lk_M_133, by decide +kernel⟩ rfl (Nat.le_of_ble_eq_true rfl) (Nat.le_of_ble_eq_true rfl) (qZ_h rfl) (x_M_isFour E p2 a) ?_
    refine XI_br (c := (f_M_isFour p2) = 0) (t := 26) (e := 14) (ls' := [.ref 31, .int p1, .int p2, .int p3]) (st' := []) (a' := a) [(.ifCond .eq 15, 3, 26, .null)] (by decide +kernel) rfl ?_ ?_
    · refine XI_go (pc' := 28) (ls' := [.ref 31, .int p1, .int p2, .int p3]) (st' := [.int (-2)]) (a' := a) [(.bipush (-2), 2, 0, .int (-2))] (by decide +kernel) rfl ?_
      exact XI_retI (by decide +kernel)
    · refine XI_go (pc' := 20) (ls' := [.ref 31, .int p1, .int p2, .int p3]) (st' := [.long 47, .long 0, .long p3.toInt64]) (a' := a) [(.iload_n 3, 1, 3, .null), (.i2l, 1, 0, .null), (.lconst 0, 1, 0, .long 0), (.ldc2_w 131, 3, 0, .long 47)] (by decide +kernel) rfl ?_
      refine XI_ST (As := [.long p3.toInt64, .long 0, .long 47]) (rest := []) (idx := 74) (by decide +kernel) ok_M_in mv_M_in (n := 3) ⟨lk_M_74, by decide +kernel⟩ rfl (Nat.le_of_ble_eq_true rfl) (Nat.le_of_ble_eq_true rfl) (qZ_h rfl) (x_M_in E p3.toInt64 0 47 a) ?_
      refine XI_br (c := (f_M_in p3.toInt64 0 47) = 0) (t := 26) (e := 29) (ls' := [.ref 31, .int p1, .int p2, .int p3]) (st' := []) (a' := a) [(.ifCond .ne 6, 3, 29, .null)] (by decide +kernel) rfl ?_ ?_
      · refine XI_go (pc' := 28) (ls' := [.ref 31, .int p1, .int p2, .int p3]) (st' := [.int (-2)]) (a' := a) [(.bipush (-2), 2, 0, .int (-2))] (by decide +kernel) rfl ?_
        exact XI_retI (by decide +kernel)
      · refine XI_br (c := (a 31 18) = 20) (t := 38) (e := 41) (ls' := [.ref 31, .int p1, .int p2, .int p3]) (st' := []) (a' := a) [(.aload_n 0, 1, 0, .null), (.getfield 150, 3, 1118, .null), (.bipush 20, 2, 0, .int 20), (.if_icmp .ne 6, 3, 41, .null)] (by decide +kernel) rfl ?_ ?_
        · refine XI_go (pc' := 40) (ls' := [.ref 31, .int p1, .int p2, .int p3]) (st' := [.int (-4)]) (a' := a) [(.bipush (-4), 2, 0, .int (-4))] (by decide +kernel) rfl ?_
          exact XI_retI (by decide +kernel)
        · refine XI_ck (c := inb (3 * (a 31 18)) 60) (pc' := 53) (ls' := [.ref 31, .int p1, .int p2, .int p3]) (st' := []) (a' := (upA a 44 (ix (3 * (a 31 18))) p1)) [(.aload_n 0, 1, 0, .null), (.getfield 47, 3, 1119, .null), (.iconst 3, 1, 0, .int 3), (.aload_n 0, 1, 0, .null), (.getfield 150, 3, 1118, .null), (.imul, 1, 0, .null), (.iload_n 1, 1, 1, .null), (.iastore, 1, 0, .null)] (by decide +kernel) rfl ?_
          refine XI_ck (c := inb ((3 * (a 31 18)) + 1) 60) (pc' := 67) (ls' := [.ref 31, .int p1, .int p2, .int p3]) (st' := []) (a' := (upA (upA a 44 (ix (3 * (a 31 18))) p1) 44 (ix ((3 * (a 31 18)) + 1)) p2)) [(.aload_n 0, 1, 0, .null), (.getfield 47, 3, 1119, .null), (.iconst 3, 1, 0, .int 3), (.aload_n 0, 1, 0, .null), (.getfield 150, 3, 1118, .null), (.imul, 1, 0, .null), (.iconst 1, 1, 0, .int 1), (.iadd, 1, 0, .null), (.iload_n 2, 1, 2, .null), (.iastore, 1, 0, .null)] (by decide +kernel) rfl ?_
          refine XI_ck (c := inb ((3 * (a 31 18)) + 2) 60) (pc' := 81) (ls' := [.ref 31, .int p1, .int p2, .int p3]) (st' := []) (a' := (upA (upA (upA a 44 (ix (3 * (a 31 18))) p1) 44 (ix ((3 * (a 31 18)) + 1)) p2) 44 (ix ((3 * (a 31 18)) + 2)) p3)) [(.aload_n 0, 1, 0, .null), (.getfield 47, 3, 1119, .null), (.iconst 3, 1, 0, .int 3), (.aload_n 0, 1, 0, .null), (.getfield 150, 3, 1118, .null), (.imul, 1, 0, .null), (.iconst 2, 1, 0, .int 2), (.iadd, 1, 0, .null), (.iload_n 3, 1, 3, .null), (.iastore, 1, 0, .null)] (by decide +kernel) rfl ?_
          refine XI_go (pc' := 95) (ls' := [.ref 31, .int p1, .int p2, .int p3]) (st' := [.int ((a 31 18) + 1)]) (a' := (upA (upA (upA (upA a 44 (ix (3 * (a 31 18))) p1) 44 (ix ((3 * (a 31 18)) + 1)) p2) 44 (ix ((3 * (a 31 18)) + 2)) p3) 31 18 ((a 31 18) + 1))) [(.aload_n 0, 1, 0, .null), (.dup, 1, 0, .null), (.getfield 150, 3, 1118, .null), (.iconst 1, 1, 0, .int 1), (.iadd, 1, 0, .null), (.putfield 150, 3, 1118, .int 0), (.aload_n 0, 1, 0, .null), (.getfield 150, 3, 1118, .null)] (by decide +kernel) rfl ?_
          exact XI_retI (by decide +kernel)
/-! ChestnutSticks$Throws.removeLast()I -/
def md_O_removeLast : md_T := (yX8_removeLast, cX8_removeLast, 1, (some .int), 0, 0)
set_option maxRecDepth 100000 in
theorem ok_O_removeLast : m_ok md_O_removeLast := ⟨List.mem_of_getElem? (i := 433) (by decide +kernel), by decide +kernel, List.mem_of_getElem? (i := 58) (by decide +kernel), by decide +kernel⟩
theorem mv_O_removeLast : Cond.instanceMethod (m_y md_O_removeLast) ∈ lw_tbl ∧ Cond.selects (m_y md_O_removeLast).cls (m_y md_O_removeLast) (m_y md_O_removeLast) ∈ lw_tbl := ⟨List.mem_of_getElem? (i := 431) (by decide +kernel), List.mem_of_getElem? (i := 432) (by decide +kernel)⟩
def f_O_removeLast (a : aT) : Option (Int32 × aT) :=
  if 0 < (a 10 3) then
    some (((a 10 3) - 1), (upA a 10 3 ((a 10 3) - 1)))
  else
    some ((-3), a)
set_option maxHeartbeats 4000000 in
set_option maxRecDepth 100000 in
theorem x_O_removeLast (E : eT) (a : aT) : XI qI E md_O_removeLast 0 [.ref 10] [] a (f_O_removeLast a) := by
  refine XI_br (c := 0 < (a 10 3)) (t := 10) (e := 7) (ls' := [.ref 10]) (st' := []) (a' := a) [(.aload_n 0, 1, 0, .null), (.getfield 21, 3, 803, .null), (.ifCond .gt 6, 3, 10, .null)] (by decide +kernel) rfl ?_ ?_
  · refine XI_go (pc' := 24) (ls' := [.ref 10]) (st' := [.int ((a 10 3) - 1)]) (a' := (upA a 10 3 ((a 10 3) - 1))) [(.aload_n 0, 1, 0, .null), (.dup, 1, 0, .null), (.getfield 21, 3, 803, .null), (.iconst 1, 1, 0, .int 1), (.isub, 1, 0, .null), (.putfield 21, 3, 803, .int 0), (.aload_n 0, 1, 0, .null), (.getfield 21, 3, 803, .null)] (by decide +kernel) rfl ?_
    exact XI_retI (by decide +kernel)
  · refine XI_go (pc' := 9) (ls' := [.ref 10]) (st' := [.int (-3)]) (a' := a) [(.bipush (-3), 2, 0, .int (-3))] (by decide +kernel) rfl ?_
    exact XI_retI (by decide +kernel)
/-! ChestnutSticks.back()I -/
def md_C_back : md_T := (yX10_back, cX10_back, 1, (some .int), 1, 20)
set_option maxRecDepth 100000 in
theorem ok_C_back : m_ok md_C_back := ⟨List.mem_of_getElem? (i := 429) (by decide +kernel), by decide +kernel, List.mem_of_getElem? (i := 53) (by decide +kernel), by decide +kernel⟩
theorem mv_C_back : Cond.instanceMethod (m_y md_C_back) ∈ lw_tbl ∧ Cond.selects (m_y md_C_back).cls (m_y md_C_back) (m_y md_C_back) ∈ lw_tbl := ⟨List.mem_of_getElem? (i := 427) (by decide +kernel), List.mem_of_getElem? (i := 428) (by decide +kernel)⟩
def f_C_back (a : aT) : Option (Int32 × aT) :=
  (f_O_removeLast a).bind fun q1 =>
    some (q1.1, q1.2)
set_option maxHeartbeats 4000000 in
set_option maxRecDepth 100000 in
theorem x_C_back (E : eT) (a : aT) : XI qI E md_C_back 0 [.ref 0] [] a (f_C_back a) := by
  refine XI_go (pc' := 4) (ls' := [.ref 0]) (st' := [.ref 10]) (a' := a) [(.aload_n 0, 1, 0, .null), (.getfield 40, 3, 1004, .null)] (by decide +kernel) rfl ?_
  refine XI_VI (As := []) (rest := []) (b := 10) (idx := 134) (by decide +kernel) ok_O_removeLast mv_O_removeLast (n := 0) ⟨lk_C_134, by decide +kernel⟩ rfl rfl rfl rfl (Nat.le_of_ble_eq_true rfl) (Nat.le_of_ble_eq_true rfl) (qI_h rfl) (x_O_removeLast E a) (fun q1 => ?_)
  exact XI_retI (by decide +kernel)
/-! ChestnutSticksModel.back()I -/
def md_M_back : md_T := (yX11_back, cX11_back, 1, (some .int), 0, 0)
set_option maxRecDepth 100000 in
theorem ok_M_back : m_ok md_M_back := ⟨List.mem_of_getElem? (i := 1103) (by decide +kernel), by decide +kernel, List.mem_of_getElem? (i := 64) (by decide +kernel), by decide +kernel⟩
theorem mv_M_back : Cond.instanceMethod (m_y md_M_back) ∈ lw_tbl ∧ Cond.selects (m_y md_M_back).cls (m_y md_M_back) (m_y md_M_back) ∈ lw_tbl := ⟨List.mem_of_getElem? (i := 1101) (by decide +kernel), List.mem_of_getElem? (i := 1102) (by decide +kernel)⟩
def f_M_back (a : aT) : Option (Int32 × aT) :=
  if (a 31 18) = 0 then
    some ((-3), a)
  else
    some (((a 31 18) - 1), (upA a 31 18 ((a 31 18) - 1)))
set_option maxHeartbeats 4000000 in
set_option maxRecDepth 100000 in
theorem x_M_back (E : eT) (a : aT) : XI qI E md_M_back 0 [.ref 31] [] a (f_M_back a) := by
  refine XI_br (c := (a 31 18) = 0) (t := 7) (e := 10) (ls' := [.ref 31]) (st' := []) (a' := a) [(.aload_n 0, 1, 0, .null), (.getfield 150, 3, 1118, .null), (.ifCond .ne 6, 3, 10, .null)] (by decide +kernel) rfl ?_ ?_
  · refine XI_go (pc' := 9) (ls' := [.ref 31]) (st' := [.int (-3)]) (a' := a) [(.bipush (-3), 2, 0, .int (-3))] (by decide +kernel) rfl ?_
    exact XI_retI (by decide +kernel)
  · refine XI_go (pc' := 24) (ls' := [.ref 31]) (st' := [.int ((a 31 18) - 1)]) (a' := (upA a 31 18 ((a 31 18) - 1))) [(.aload_n 0, 1, 0, .null), (.dup, 1, 0, .null), (.getfield 150, 3, 1118, .null), (.iconst 1, 1, 0, .int 1), (.isub, 1, 0, .null), (.putfield 150, 3, 1118, .int 0), (.aload_n 0, 1, 0, .null), (.getfield 150, 3, 1118, .null)] (by decide +kernel) rfl ?_
    exact XI_retI (by decide +kernel)
/-! ChestnutSticks$Throws.size()I -/
def md_O_size : md_T := (yX8_size, cX8_size, 1, (some .int), 0, 0)
set_option maxRecDepth 100000 in
theorem ok_O_size : m_ok md_O_size := ⟨List.mem_of_getElem? (i := 445) (by decide +kernel), by decide +kernel, List.mem_of_getElem? (i := 58) (by decide +kernel), by decide +kernel⟩
theorem mv_O_size : Cond.instanceMethod (m_y md_O_size) ∈ lw_tbl ∧ Cond.selects (m_y md_O_size).cls (m_y md_O_size) (m_y md_O_size) ∈ lw_tbl := ⟨List.mem_of_getElem? (i := 443) (by decide +kernel), List.mem_of_getElem? (i := 444) (by decide +kernel)⟩
def f_O_size (a : aT) : Int32 :=
  (a 10 3)
set_option maxHeartbeats 4000000 in
set_option maxRecDepth 100000 in
theorem x_O_size (E : eT) (a : aT) : XT qI E md_O_size 0 [.ref 10] [] a (f_O_size a) := by
  refine XT_go (pc' := 4) (ls' := [.ref 10]) (st' := [.int (a 10 3)]) (a' := a) [(.aload_n 0, 1, 0, .null), (.getfield 21, 3, 803, .null)] (by decide +kernel) rfl ?_
  exact XT_retI (by decide +kernel)
/-! ChestnutSticks$Rules.seedNow()I -/
def md_R_seedNow : md_T := (yX2_seedNow, cX2_seedNow, 1, (some .int), 0, 0)
set_option maxRecDepth 100000 in
theorem ok_R_seedNow : m_ok md_R_seedNow := ⟨List.mem_of_getElem? (i := 449) (by decide +kernel), by decide +kernel, List.mem_of_getElem? (i := 56) (by decide +kernel), by decide +kernel⟩
theorem mv_R_seedNow : Cond.instanceMethod (m_y md_R_seedNow) ∈ lw_tbl ∧ Cond.selects (m_y md_R_seedNow).cls (m_y md_R_seedNow) (m_y md_R_seedNow) ∈ lw_tbl := ⟨List.mem_of_getElem? (i := 447) (by decide +kernel), List.mem_of_getElem? (i := 448) (by decide +kernel)⟩
def f_R_seedNow (a : aT) : Int32 :=
  (a 6 1)
set_option maxHeartbeats 4000000 in
set_option maxRecDepth 100000 in
theorem x_R_seedNow (E : eT) (a : aT) : XT qI E md_R_seedNow 0 [.ref 6] [] a (f_R_seedNow a) := by
  refine XT_go (pc' := 4) (ls' := [.ref 6]) (st' := [.int (a 6 1)]) (a' := a) [(.aload_n 0, 1, 0, .null), (.getfield 15, 3, 201, .null)] (by decide +kernel) rfl ?_
  exact XT_retI (by decide +kernel)
/-! ChestnutSticks$Tree.hasBall(I)Z -/
def md_E_hasBall : md_T := (yX9_hasBall, cX9_hasBall, 2, (some .boolean), 1, 21)
set_option maxRecDepth 100000 in
theorem ok_E_hasBall : m_ok md_E_hasBall := ⟨List.mem_of_getElem? (i := 461) (by decide +kernel), by decide +kernel, List.mem_of_getElem? (i := 54) (by decide +kernel), by decide +kernel⟩
theorem mv_E_hasBall : Cond.instanceMethod (m_y md_E_hasBall) ∈ lw_tbl ∧ Cond.selects (m_y md_E_hasBall).cls (m_y md_E_hasBall) (m_y md_E_hasBall) ∈ lw_tbl := ⟨List.mem_of_getElem? (i := 459) (by decide +kernel), List.mem_of_getElem? (i := 460) (by decide +kernel)⟩
def f_E_hasBall (p1 : Int32) (a : aT) : Option Int32 :=
  if (f_C_isBelow p1 48) = 0 then
    some 0
  else
    if inb p1 48 then
      if (a 3 (ix p1)) < 0 then
        some 0
      else
        some 1
    else none
set_option maxHeartbeats 4000000 in
set_option maxRecDepth 100000 in
theorem x_E_hasBall (E : eT) (p1 : Int32) (a : aT) : XP qZ E md_E_hasBall 0 [.ref 1, .int p1] [] a (f_E_hasBall p1 a) := by
  refine XP_go (pc' := 3) (ls' := [.ref 1, .int p1]) (st' := [.int 48, .int p1]) (a' := a) [(.iload_n 1, 1, 1, .null), (.bipush 48, 2, 0, .int 48)] (by decide +kernel) rfl ?_
  refine XP_SNT (As := [.int p1, .int 48]) (rest := []) (idx := 28) (by decide +kernel) ok_C_isBelow mv_C_isBelow (n := 2) ⟨lk_E_28, by decide +kernel⟩ rfl (Nat.le_of_ble_eq_true rfl) (Nat.le_of_ble_eq_true rfl) (qZ_h rfl) (x_C_isBelow E p1 48 a) ?_
  refine XP_br (c := (f_C_isBelow p1 48) = 0) (t := 22) (e := 9) (ls' := [.ref 1, .int p1]) (st' := []) (a' := a) [(.ifCond .eq 16, 3, 22, .null)] (by decide +kernel) rfl ?_ ?_
  · refine XP_go (pc' := 23) (ls' := [.ref 1, .int p1]) (st' := [.int 0]) (a' := a) [(.iconst 0, 1, 0, .int 0)] (by decide +kernel) rfl ?_
    exact XP_retZ (by decide +kernel) rfl
  · refine XP_ck (c := inb p1 48) (pc' := 15) (ls' := [.ref 1, .int p1]) (st' := [.int (a 3 (ix p1))]) (a' := a) [(.aload_n 0, 1, 0, .null), (.getfield 15, 3, 901, .null), (.iload_n 1, 1, 1, .null), (.iaload, 1, 0, .null)] (by decide +kernel) rfl ?_
    refine XP_br (c := (a 3 (ix p1)) < 0) (t := 22) (e := 18) (ls' := [.ref 1, .int p1]) (st' := []) (a' := a) [(.ifCond .lt 7, 3, 22, .null)] (by decide +kernel) rfl ?_ ?_
    · refine XP_go (pc' := 23) (ls' := [.ref 1, .int p1]) (st' := [.int 0]) (a' := a) [(.iconst 0, 1, 0, .int 0)] (by decide +kernel) rfl ?_
      exact XP_retZ (by decide +kernel) rfl
    · refine XP_go (pc' := 23) (ls' := [.ref 1, .int p1]) (st' := [.int 1]) (a' := a) [(.iconst 1, 1, 0, .int 1), (.goto 4, 3, 23, .null)] (by decide +kernel) rfl ?_
      exact XP_retZ (by decide +kernel) rfl
/-! ChestnutSticks$Rules.now(I)I -/
def md_R_now : md_T := (yX2_now, cX2_now, 2, (some .int), 1, 21)
set_option maxRecDepth 100000 in
theorem ok_R_now : m_ok md_R_now := ⟨List.mem_of_getElem? (i := 465) (by decide +kernel), by decide +kernel, List.mem_of_getElem? (i := 56) (by decide +kernel), by decide +kernel⟩
theorem mv_R_now : Cond.instanceMethod (m_y md_R_now) ∈ lw_tbl ∧ Cond.selects (m_y md_R_now).cls (m_y md_R_now) (m_y md_R_now) ∈ lw_tbl := ⟨List.mem_of_getElem? (i := 463) (by decide +kernel), List.mem_of_getElem? (i := 464) (by decide +kernel)⟩
def f_R_now (p1 : Int32) (a : aT) : Option Int32 :=
  if (f_C_isBelow p1 6) = 0 then
    some 0
  else
    if inb p1 6 then
      some (a 7 (ix p1))
    else none
set_option maxHeartbeats 4000000 in
set_option maxRecDepth 100000 in
theorem x_R_now (E : eT) (p1 : Int32) (a : aT) : XP qI E md_R_now 0 [.ref 6, .int p1] [] a (f_R_now p1 a) := by
  refine XP_go (pc' := 3) (ls' := [.ref 6, .int p1]) (st' := [.int 6, .int p1]) (a' := a) [(.iload_n 1, 1, 1, .null), (.bipush 6, 2, 0, .int 6)] (by decide +kernel) rfl ?_
  refine XP_SNT (As := [.int p1, .int 6]) (rest := []) (idx := 19) (by decide +kernel) ok_C_isBelow mv_C_isBelow (n := 2) ⟨lk_R_19, by decide +kernel⟩ rfl (Nat.le_of_ble_eq_true rfl) (Nat.le_of_ble_eq_true rfl) (qZ_h rfl) (x_C_isBelow E p1 6 a) ?_
  refine XP_br (c := (f_C_isBelow p1 6) = 0) (t := 18) (e := 9) (ls' := [.ref 6, .int p1]) (st' := []) (a' := a) [(.ifCond .eq 12, 3, 18, .null)] (by decide +kernel) rfl ?_ ?_
  · refine XP_go (pc' := 19) (ls' := [.ref 6, .int p1]) (st' := [.int 0]) (a' := a) [(.iconst 0, 1, 0, .int 0)] (by decide +kernel) rfl ?_
    exact XP_retI (by decide +kernel)
  · refine XP_ck (c := inb p1 6) (pc' := 15) (ls' := [.ref 6, .int p1]) (st' := [.int (a 7 (ix p1))]) (a' := a) [(.aload_n 0, 1, 0, .null), (.getfield 9, 3, 200, .null), (.iload_n 1, 1, 1, .null), (.iaload, 1, 0, .null)] (by decide +kernel) rfl ?_
    refine XP_go (pc' := 19) (ls' := [.ref 6, .int p1]) (st' := [.int (a 7 (ix p1))]) (a' := a) [(.goto 4, 3, 19, .null)] (by decide +kernel) rfl ?_
    exact XP_retI (by decide +kernel)
/-! java/lang/Math.max(II)I -/
def md_J_max : md_T := (yJ9_max_7cf53, cJ9_max_7cf53, 2, (some .int), 0, 0)
set_option maxRecDepth 100000 in
theorem ok_J_max : m_ok md_J_max := ⟨List.mem_of_getElem? (i := 472) (by decide +kernel), by decide +kernel, List.mem_of_getElem? (i := 65) (by decide +kernel), by decide +kernel⟩
theorem mv_J_max : Cond.static (m_y md_J_max) ∈ lw_tbl := List.mem_of_getElem? (i := 471) (by decide +kernel)
def f_J_max (p1 : Int32) (p2 : Int32) : Int32 :=
  if p1 < p2 then
    p2
  else
    p1
set_option maxHeartbeats 4000000 in
set_option maxRecDepth 100000 in
theorem x_J_max (E : eT) (p1 : Int32) (p2 : Int32) (a : aT) : XT qI E md_J_max 0 [.int p1, .int p2] [] a (f_J_max p1 p2) := by
  refine XT_br (c := p1 < p2) (t := 9) (e := 5) (ls' := [.int p1, .int p2]) (st' := []) (a' := a) [(.iload_n 0, 1, 0, .null), (.iload_n 1, 1, 1, .null), (.if_icmp .lt 7, 3, 9, .null)] (by decide +kernel) rfl ?_ ?_
  · refine XT_go (pc' := 10) (ls' := [.int p1, .int p2]) (st' := [.int p2]) (a' := a) [(.iload_n 1, 1, 1, .null)] (by decide +kernel) rfl ?_
    exact XT_retI (by decide +kernel)
  · refine XT_go (pc' := 10) (ls' := [.int p1, .int p2]) (st' := [.int p1]) (a' := a) [(.iload_n 0, 1, 0, .null), (.goto 4, 3, 10, .null)] (by decide +kernel) rfl ?_
    exact XT_retI (by decide +kernel)
/-! ChestnutSticks$Tree.hangsOn(II)I -/
def md_E_hangsOn : md_T := (yX9_hangsOn, cX9_hangsOn, 3, (some .int), 1, 21)
set_option maxRecDepth 100000 in
theorem ok_E_hangsOn : m_ok md_E_hangsOn := ⟨List.mem_of_getElem? (i := 469) (by decide +kernel), by decide +kernel, List.mem_of_getElem? (i := 54) (by decide +kernel), by decide +kernel⟩
theorem mv_E_hangsOn : Cond.instanceMethod (m_y md_E_hangsOn) ∈ lw_tbl ∧ Cond.selects (m_y md_E_hangsOn).cls (m_y md_E_hangsOn) (m_y md_E_hangsOn) ∈ lw_tbl := ⟨List.mem_of_getElem? (i := 467) (by decide +kernel), List.mem_of_getElem? (i := 468) (by decide +kernel)⟩
def f_E_hangsOn (p1 : Int32) (p2 : Int32) (a : aT) : Option Int32 :=
  if (f_C_isBelow p1 48) = 0 then
    some 0
  else
    if inb p1 48 then
      some (f_J_max 0 ((a 3 (ix p1)) - (p2 / 3)))
    else none
set_option maxHeartbeats 4000000 in
set_option maxRecDepth 100000 in
theorem x_E_hangsOn (E : eT) (p1 : Int32) (p2 : Int32) (a : aT) : XP qI E md_E_hangsOn 0 [.ref 1, .int p1, .int p2] [] a (f_E_hangsOn p1 p2 a) := by
  refine XP_go (pc' := 3) (ls' := [.ref 1, .int p1, .int p2]) (st' := [.int 48, .int p1]) (a' := a) [(.iload_n 1, 1, 1, .null), (.bipush 48, 2, 0, .int 48)] (by decide +kernel) rfl ?_
  refine XP_SNT (As := [.int p1, .int 48]) (rest := []) (idx := 28) (by decide +kernel) ok_C_isBelow mv_C_isBelow (n := 2) ⟨lk_E_28, by decide +kernel⟩ rfl (Nat.le_of_ble_eq_true rfl) (Nat.le_of_ble_eq_true rfl) (qZ_h rfl) (x_C_isBelow E p1 48 a) ?_
  refine XP_br (c := (f_C_isBelow p1 48) = 0) (t := 26) (e := 9) (ls' := [.ref 1, .int p1, .int p2]) (st' := []) (a' := a) [(.ifCond .eq 20, 3, 26, .null)] (by decide +kernel) rfl ?_ ?_
  · refine XP_go (pc' := 27) (ls' := [.ref 1, .int p1, .int p2]) (st' := [.int 0]) (a' := a) [(.iconst 0, 1, 0, .int 0)] (by decide +kernel) rfl ?_
    exact XP_retI (by decide +kernel)
  · refine XP_ck (c := inb p1 48) (pc' := 16) (ls' := [.ref 1, .int p1, .int p2]) (st' := [.int (a 3 (ix p1)), .int 0]) (a' := a) [(.iconst 0, 1, 0, .int 0), (.aload_n 0, 1, 0, .null), (.getfield 15, 3, 901, .null), (.iload_n 1, 1, 1, .null), (.iaload, 1, 0, .null)] (by decide +kernel) rfl ?_
    refine XP_go (pc' := 20) (ls' := [.ref 1, .int p1, .int p2]) (st' := [.int ((a 3 (ix p1)) - (p2 / 3)), .int 0]) (a' := a) [(.iload_n 2, 1, 2, .null), (.iconst 3, 1, 0, .int 3), (.idiv, 1, 0, .null), (.isub, 1, 0, .null)] (by decide +kernel) rfl ?_
    refine XP_ST (As := [.int 0, .int ((a 3 (ix p1)) - (p2 / 3))]) (rest := []) (idx := 35) (by decide +kernel) ok_J_max mv_J_max (n := 2) ⟨lk_E_35, by decide +kernel⟩ rfl (Nat.le_of_ble_eq_true rfl) (Nat.le_of_ble_eq_true rfl) (qI_h rfl) (x_J_max E 0 ((a 3 (ix p1)) - (p2 / 3)) a) ?_
    refine XP_go (pc' := 27) (ls' := [.ref 1, .int p1, .int p2]) (st' := [.int (f_J_max 0 ((a 3 (ix p1)) - (p2 / 3)))]) (a' := a) [(.goto 4, 3, 27, .null)] (by decide +kernel) rfl ?_
    exact XP_retI (by decide +kernel)
/-! ChestnutSticks$Play.begin(I)V -/
def md_P_begin : md_T := (yX1_begin, cX1_begin, 3, none, 2, 43)
set_option maxRecDepth 100000 in
theorem ok_P_begin : m_ok md_P_begin := ⟨List.mem_of_getElem? (i := 457) (by decide +kernel), by decide +kernel, List.mem_of_getElem? (i := 59) (by decide +kernel), by decide +kernel⟩
theorem mv_P_begin : Cond.instanceMethod (m_y md_P_begin) ∈ lw_tbl ∧ Cond.selects (m_y md_P_begin).cls (m_y md_P_begin) (m_y md_P_begin) ∈ lw_tbl := ⟨List.mem_of_getElem? (i := 456) (by decide +kernel), List.mem_of_getElem? (i := 3) (by decide +kernel)⟩
def f_P_begin_118 (N : Nat) : Nat → Int32 → aT → Option (Unit × aT)
  | 0 => fun _ _ => none
  | n + 1 => fun x2 a =>
    if 20 ≤ x2 then
      some ((), a)
    else
      if inb x2 20 then
        f_P_begin_118 N n (x2 + 1) (upA a 18 (ix x2) 0)
      else none
def f_P_begin_98 (N : Nat) : Nat → Int32 → aT → Option (Unit × aT)
  | 0 => fun _ _ => none
  | n + 1 => fun x2 a =>
    if 4 ≤ x2 then
      f_P_begin_118 N N 0 a
    else
      if inb x2 4 then
        f_P_begin_98 N n (x2 + 1) (upA a 17 (ix x2) 0)
      else none
def f_P_begin_78 (N : Nat) : Nat → Int32 → aT → Option (Unit × aT)
  | 0 => fun _ _ => none
  | n + 1 => fun x2 a =>
    if 4 ≤ x2 then
      f_P_begin_98 N N 0 a
    else
      if inb x2 4 then
        f_P_begin_78 N n (x2 + 1) (upA a 16 (ix x2) (-1))
      else none
def f_P_begin_27 (N : Nat) : Nat → Int32 → aT → Option (Unit × aT)
  | 0 => fun _ _ => none
  | n + 1 => fun x2 a =>
    if 48 ≤ x2 then
      f_P_begin_78 N N 0 a
    else
      (f_E_hasBall x2 a).bind fun q1 =>
        if q1 = 0 then
          if inb x2 48 then
            f_P_begin_27 N n (x2 + 1) (upA a 15 (ix x2) (-1))
          else none
        else
          (f_R_now 1 a).bind fun q2 =>
            (f_E_hangsOn x2 q2 a).bind fun q3 =>
              if inb x2 48 then
                f_P_begin_27 N n (x2 + 1) (upA a 15 (ix x2) q3)
              else none
def f_P_begin (N : Nat) (p1 : Int32) (a : aT) : Option (Unit × aT) :=
  f_P_begin_27 N N 0 (upA (upA (upA (upA (upA a 14 9 p1) 14 10 0) 14 11 0) 14 12 0) 14 13 (-1))
set_option maxHeartbeats 4000000 in
set_option maxRecDepth 100000 in
theorem x_P_begin_118 (E : eT) (N : Nat) : ∀ (n : Nat) (x2 : Int32) (a : aT), XI qV E md_P_begin 118 [.ref 14, .null, .int x2] [] a (f_P_begin_118 N n x2 a)
  | 0, _, _ => XI_no rfl
  | n + 1, x2, a => by
    refine XI_br (c := 20 ≤ x2) (t := 137) (e := 124) (ls' := [.ref 14, .null, .int x2]) (st' := []) (a' := a) [(.iload_n 2, 1, 2, .null), (.bipush 20, 2, 0, .int 20), (.if_icmp .ge 16, 3, 137, .null)] (by decide +kernel) rfl ?_ ?_
    · exact XI_retV (by decide +kernel)
    · refine XI_ck (c := inb x2 20) (pc' := 131) (ls' := [.ref 14, .null, .int x2]) (st' := []) (a' := (upA a 18 (ix x2) 0)) [(.aload_n 0, 1, 0, .null), (.getfield 21, 3, 108, .null), (.iload_n 2, 1, 2, .null), (.iconst 0, 1, 0, .int 0), (.iastore, 1, 0, .null)] (by decide +kernel) rfl ?_
      refine XI_go (pc' := 118) (ls' := [.ref 14, .null, .int (x2 + 1)]) (st' := []) (a' := (upA a 18 (ix x2) 0)) [(.iinc 2 1, 3, 2, .int 1), (.goto (-16), 3, 118, .null)] (by decide +kernel) rfl ?_
      refine XI_fg [true, false, true] ?_
      exact x_P_begin_118 E N n (x2 + 1) (upA a 18 (ix x2) 0)
set_option maxHeartbeats 4000000 in
set_option maxRecDepth 100000 in
theorem x_P_begin_98 (E : eT) (N : Nat) : ∀ (n : Nat) (x2 : Int32) (a : aT), XI qV E md_P_begin 98 [.ref 14, .null, .int x2] [] a (f_P_begin_98 N n x2 a)
  | 0, _, _ => XI_no rfl
  | n + 1, x2, a => by
    refine XI_br (c := 4 ≤ x2) (t := 116) (e := 103) (ls' := [.ref 14, .null, .int x2]) (st' := []) (a' := a) [(.iload_n 2, 1, 2, .null), (.iconst 4, 1, 0, .int 4), (.if_icmp .ge 16, 3, 116, .null)] (by decide +kernel) rfl ?_ ?_
    · refine XI_go (pc' := 118) (ls' := [.ref 14, .null, .int 0]) (st' := []) (a' := a) [(.iconst 0, 1, 0, .int 0), (.istore_n 2, 1, 2, .null)] (by decide +kernel) rfl ?_
      refine XI_fg [true, false, true] ?_
      exact x_P_begin_118 E N N 0 a
    · refine XI_ck (c := inb x2 4) (pc' := 110) (ls' := [.ref 14, .null, .int x2]) (st' := []) (a' := (upA a 17 (ix x2) 0)) [(.aload_n 0, 1, 0, .null), (.getfield 18, 3, 107, .null), (.iload_n 2, 1, 2, .null), (.iconst 0, 1, 0, .int 0), (.iastore, 1, 0, .null)] (by decide +kernel) rfl ?_
      refine XI_go (pc' := 98) (ls' := [.ref 14, .null, .int (x2 + 1)]) (st' := []) (a' := (upA a 17 (ix x2) 0)) [(.iinc 2 1, 3, 2, .int 1), (.goto (-15), 3, 98, .null)] (by decide +kernel) rfl ?_
      refine XI_fg [true, false, true] ?_
      exact x_P_begin_98 E N n (x2 + 1) (upA a 17 (ix x2) 0)
set_option maxHeartbeats 4000000 in
set_option maxRecDepth 100000 in
theorem x_P_begin_78 (E : eT) (N : Nat) : ∀ (n : Nat) (x2 : Int32) (a : aT), XI qV E md_P_begin 78 [.ref 14, .null, .int x2] [] a (f_P_begin_78 N n x2 a)
  | 0, _, _ => XI_no rfl
  | n + 1, x2, a => by
    refine XI_br (c := 4 ≤ x2) (t := 96) (e := 83) (ls' := [.ref 14, .null, .int x2]) (st' := []) (a' := a) [(.iload_n 2, 1, 2, .null), (.iconst 4, 1, 0, .int 4), (.if_icmp .ge 16, 3, 96, .null)] (by decide +kernel) rfl ?_ ?_
    · refine XI_go (pc' := 98) (ls' := [.ref 14, .null, .int 0]) (st' := []) (a' := a) [(.iconst 0, 1, 0, .int 0), (.istore_n 2, 1, 2, .null)] (by decide +kernel) rfl ?_
      refine XI_fg [true, false, true] ?_
      exact x_P_begin_98 E N N 0 a
    · refine XI_ck (c := inb x2 4) (pc' := 90) (ls' := [.ref 14, .null, .int x2]) (st' := []) (a' := (upA a 16 (ix x2) (-1))) [(.aload_n 0, 1, 0, .null), (.getfield 15, 3, 106, .null), (.iload_n 2, 1, 2, .null), (.iconst (-1), 1, 0, .int (-1)), (.iastore, 1, 0, .null)] (by decide +kernel) rfl ?_
      refine XI_go (pc' := 78) (ls' := [.ref 14, .null, .int (x2 + 1)]) (st' := []) (a' := (upA a 16 (ix x2) (-1))) [(.iinc 2 1, 3, 2, .int 1), (.goto (-15), 3, 78, .null)] (by decide +kernel) rfl ?_
      refine XI_fg [true, false, true] ?_
      exact x_P_begin_78 E N n (x2 + 1) (upA a 16 (ix x2) (-1))
set_option maxHeartbeats 4000000 in
set_option maxRecDepth 100000 in
theorem x_P_begin_27 (E : eT) (N : Nat) : ∀ (n : Nat) (x2 : Int32) (a : aT), XI qV E md_P_begin 27 [.ref 14, .null, .int x2] [] a (f_P_begin_27 N n x2 a)
  | 0, _, _ => XI_no rfl
  | n + 1, x2, a => by
    refine XI_br (c := 48 ≤ x2) (t := 76) (e := 33) (ls' := [.ref 14, .null, .int x2]) (st' := []) (a' := a) [(.iload_n 2, 1, 2, .null), (.bipush 48, 2, 0, .int 48), (.if_icmp .ge 46, 3, 76, .null)] (by decide +kernel) rfl ?_ ?_
    · refine XI_go (pc' := 78) (ls' := [.ref 14, .null, .int 0]) (st' := []) (a' := a) [(.iconst 0, 1, 0, .int 0), (.istore_n 2, 1, 2, .null)] (by decide +kernel) rfl ?_
      refine XI_fg [true, false, true] ?_
      exact x_P_begin_78 E N N 0 a
    · refine XI_go (pc' := 43) (ls' := [.ref 14, .null, .int x2]) (st' := [.int x2, .ref 1, .int x2, .ref 15]) (a' := a) [(.aload_n 0, 1, 0, .null), (.getfield 9, 3, 105, .null), (.iload_n 2, 1, 2, .null), (.aload_n 0, 1, 0, .null), (.getfield 40, 3, 100, .null), (.iload_n 2, 1, 2, .null)] (by decide +kernel) rfl ?_
      refine XI_VP (As := [.int x2]) (rest := [.int x2, .ref 15]) (b := 1) (idx := 116) (by decide +kernel) ok_E_hasBall mv_E_hasBall (n := 1) ⟨lk_P_116, by decide +kernel⟩ rfl rfl rfl rfl (Nat.le_of_ble_eq_true rfl) (Nat.le_of_ble_eq_true rfl) (qZ_h rfl) (x_E_hasBall E x2 a) (fun q1 => ?_)
      refine XI_br (c := q1 = 0) (t := 68) (e := 49) (ls' := [.ref 14, .null, .int x2]) (st' := [.int x2, .ref 15]) (a' := a) [(.ifCond .eq 22, 3, 68, .null)] (by decide +kernel) rfl ?_ ?_
      · refine XI_ck (c := inb x2 48) (pc' := 70) (ls' := [.ref 14, .null, .int x2]) (st' := []) (a' := (upA a 15 (ix x2) (-1))) [(.iconst (-1), 1, 0, .int (-1)), (.iastore, 1, 0, .null)] (by decide +kernel) rfl ?_
        refine XI_go (pc' := 27) (ls' := [.ref 14, .null, .int (x2 + 1)]) (st' := []) (a' := (upA a 15 (ix x2) (-1))) [(.iinc 2 1, 3, 2, .int 1), (.goto (-46), 3, 27, .null)] (by decide +kernel) rfl ?_
        refine XI_fg [true, false, true] ?_
        exact x_P_begin_27 E N n (x2 + 1) (upA a 15 (ix x2) (-1))
      · refine XI_go (pc' := 59) (ls' := [.ref 14, .null, .int x2]) (st' := [.int 1, .ref 6, .int x2, .ref 1, .int x2, .ref 15]) (a' := a) [(.aload_n 0, 1, 0, .null), (.getfield 40, 3, 100, .null), (.iload_n 2, 1, 2, .null), (.aload_n 0, 1, 0, .null), (.getfield 48, 3, 102, .null), (.iconst 1, 1, 0, .int 1)] (by decide +kernel) rfl ?_
        refine XI_VP (As := [.int 1]) (rest := [.int x2, .ref 1, .int x2, .ref 15]) (b := 6) (idx := 86) (by decide +kernel) ok_R_now mv_R_now (n := 1) ⟨lk_P_86, by decide +kernel⟩ rfl rfl rfl rfl (Nat.le_of_ble_eq_true rfl) (Nat.le_of_ble_eq_true rfl) (qI_h rfl) (x_R_now E 1 a) (fun q2 => ?_)
        refine XI_VP (As := [.int x2, .int q2]) (rest := [.int x2, .ref 15]) (b := 1) (idx := 119) (by decide +kernel) ok_E_hangsOn mv_E_hangsOn (n := 2) ⟨lk_P_119, by decide +kernel⟩ rfl rfl rfl rfl (Nat.le_of_ble_eq_true rfl) (Nat.le_of_ble_eq_true rfl) (qI_h rfl) (x_E_hangsOn E x2 q2 a) (fun q3 => ?_)
        refine XI_ck (c := inb x2 48) (pc' := 70) (ls' := [.ref 14, .null, .int x2]) (st' := []) (a' := (upA a 15 (ix x2) q3)) [(.goto 4, 3, 69, .null), (.iastore, 1, 0, .null)] (by decide +kernel) rfl ?_
        refine XI_go (pc' := 27) (ls' := [.ref 14, .null, .int (x2 + 1)]) (st' := []) (a' := (upA a 15 (ix x2) q3)) [(.iinc 2 1, 3, 2, .int 1), (.goto (-46), 3, 27, .null)] (by decide +kernel) rfl ?_
        refine XI_fg [true, false, true] ?_
        exact x_P_begin_27 E N n (x2 + 1) (upA a 15 (ix x2) q3)
set_option maxHeartbeats 4000000 in
set_option maxRecDepth 100000 in
theorem x_P_begin (E : eT) (N : Nat) (p1 : Int32) (a : aT) : XI qV E md_P_begin 0 [.ref 14, .int p1, .null] [] a (f_P_begin N p1 a) := by
  refine XI_go (pc' := 27) (ls' := [.ref 14, .int p1, .int 0]) (st' := []) (a' := (upA (upA (upA (upA (upA a 14 9 p1) 14 10 0) 14 11 0) 14 12 0) 14 13 (-1))) [(.aload_n 0, 1, 0, .null), (.iload_n 1, 1, 1, .null), (.putfield 24, 3, 109, .int 0), (.aload_n 0, 1, 0, .null), (.iconst 0, 1, 0, .int 0), (.putfield 28, 3, 110, .int 0), (.aload_n 0, 1, 0, .null), (.iconst 0, 1, 0, .int 0), (.putfield 31, 3, 111, .int 0), (.aload_n 0, 1, 0, .null), (.iconst 0, 1, 0, .int 0), (.putfield 34, 3, 112, .int 0), (.aload_n 0, 1, 0, .null), (.iconst (-1), 1, 0, .int (-1)), (.putfield 37, 3, 113, .int 0), (.iconst 0, 1, 0, .int 0), (.istore_n 2, 1, 2, .null)] (by decide +kernel) rfl ?_
  refine XI_fg [true, false, true] ?_
  exact x_P_begin_27 E N N 0 (upA (upA (upA (upA (upA a 14 9 p1) 14 10 0) 14 11 0) 14 12 0) 14 13 (-1))
