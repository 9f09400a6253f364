/-! ChestnutSticks$Sheets.lowestBits(II)I -/
def md_H_lowestBits : md_T := (yX4_lowestBits, cX4_lowestBits, 2, (some .int), 0, 0)
set_option maxRecDepth 100000 in
theorem ok_H_lowestBits : m_ok md_H_lowestBits := ⟨List.mem_of_getElem? (i := 805) (by decide +kernel), by decide +kernel, List.mem_of_getElem? (i := 63) (by decide +kernel), by decide +kernel⟩
theorem mv_H_lowestBits : Cond.static (m_y md_H_lowestBits) ∈ lw_tbl := List.mem_of_getElem? (i := 804) (by decide +kernel)
def f_H_lowestBits (p1 : Int32) (p2 : Int32) : Int32 :=
  if p1 = 0 then
    p2.toInt8.toInt32
  else if p1 = 1 then
    p2.toInt16.toInt32
  else 
    p2
set_option maxHeartbeats 4000000 in
set_option maxRecDepth 100000 in
theorem x_H_lowestBits (E : eT) (p1 : Int32) (p2 : Int32) (a : aT) : XT qI E md_H_lowestBits 0 [.int p1, .int p2] [] a (f_H_lowestBits p1 p2) := by
  refine XT_go (pc' := 1) (ls' := [.int p1, .int p2]) (st' := [.int p1]) (a' := a) [(.iload_n 0, 1, 0, .null)] (by decide +kernel) rfl ?_
  refine XT_if (c := p1 = 0) (fun w0 => ?_) (fun w0 => ?_)
  · refine XT_look (dflt := 33) (ps := #[(0, 27), (1, 30)]) (len := 27) (off := 27) (tgt := 28) (by decide +kernel) (by decide +kernel) (by rw [w0]; decide +kernel) (by decide) ?_
    refine XT_go (pc' := 30) (ls' := [.int p1, .int p2]) (st' := [.int p2.toInt8.toInt32]) (a' := a) [(.iload_n 1, 1, 1, .null), (.i2b, 1, 0, .null)] (by decide +kernel) rfl ?_
    exact XT_retI (by decide +kernel)
  refine XT_if (c := p1 = 1) (fun w1 => ?_) (fun w1 => ?_)
  · refine XT_look (dflt := 33) (ps := #[(0, 27), (1, 30)]) (len := 27) (off := 30) (tgt := 31) (by decide +kernel) (by decide +kernel) (by rw [w1]; decide +kernel) (by decide) ?_
    refine XT_go (pc' := 33) (ls' := [.int p1, .int p2]) (st' := [.int p2.toInt16.toInt32]) (a' := a) [(.iload_n 1, 1, 1, .null), (.i2s, 1, 0, .null)] (by decide +kernel) rfl ?_
    exact XT_retI (by decide +kernel)
  refine XT_look (dflt := 33) (ps := #[(0, 27), (1, 30)]) (len := 27) (off := 33) (tgt := 34) (by decide +kernel) (by decide +kernel) (look_out w0 w1) (by decide) ?_
  refine XT_go (pc' := 35) (ls' := [.int p1, .int p2]) (st' := [.int p2]) (a' := a) [(.iload_n 1, 1, 1, .null)] (by decide +kernel) rfl ?_
  exact XT_retI (by decide +kernel)
/-! ChestnutSticks$Sheets.put(III)V -/
def md_H_put : md_T := (yX4_put, cX4_put, 4, none, 1, 21)
set_option maxRecDepth 100000 in
theorem ok_H_put : m_ok md_H_put := ⟨List.mem_of_getElem? (i := 802) (by decide +kernel), by decide +kernel, List.mem_of_getElem? (i := 63) (by decide +kernel), by decide +kernel⟩
theorem mv_H_put : Cond.instanceMethod (m_y md_H_put) ∈ lw_tbl ∧ Cond.selects (m_y md_H_put).cls (m_y md_H_put) (m_y md_H_put) ∈ lw_tbl := ⟨List.mem_of_getElem? (i := 800) (by decide +kernel), List.mem_of_getElem? (i := 801) (by decide +kernel)⟩
def f_H_put (p1 : Int32) (p2 : Int32) (p3 : Int32) (a : aT) : Option (Unit × aT) :=
  if (f_C_isBelow p1 4) = 0 then
    some ((), a)
  else
    if (f_C_isBelow p2 60) = 0 then
      some ((), a)
    else
      if inb p1 4 then
        if inb ((60 * p1) + p2) 240 then
          some ((), (upA a 30 (ix ((60 * p1) + p2)) (f_H_lowestBits (a 28 (ix p1)) p3)))
        else none
      else none
set_option maxHeartbeats 4000000 in
set_option maxRecDepth 100000 in
theorem x_H_put (E : eT) (p1 : Int32) (p2 : Int32) (p3 : Int32) (a : aT) : XI qV E md_H_put 0 [.ref 27, .int p1, .int p2, .int p3] [] a (f_H_put p1 p2 p3 a) := by
  refine XI_go (pc' := 2) (ls' := [.ref 27, .int p1, .int p2, .int p3]) (st' := [.int 4, .int p1]) (a' := a) [(.iload_n 1, 1, 1, .null), (.iconst 4, 1, 0, .int 4)] (by decide +kernel) rfl ?_
  refine XI_SNT (As := [.int p1, .int 4]) (rest := []) (idx := 29) (by decide +kernel) ok_C_isBelow mv_C_isBelow (n := 2) ⟨lk_H_29, by decide +kernel⟩ rfl (Nat.le_of_ble_eq_true rfl) (Nat.le_of_ble_eq_true rfl) (qZ_h rfl) (x_C_isBelow E p1 4 a) ?_
  refine XI_br (c := (f_C_isBelow p1 4) = 0) (t := 38) (e := 8) (ls' := [.ref 27, .int p1, .int p2, .int p3]) (st' := []) (a' := a) [(.ifCond .eq 33, 3, 38, .null)] (by decide +kernel) rfl ?_ ?_
  · exact XI_retV (by decide +kernel)
  · refine XI_go (pc' := 11) (ls' := [.ref 27, .int p1, .int p2, .int p3]) (st' := [.int 60, .int p2]) (a' := a) [(.iload_n 2, 1, 2, .null), (.bipush 60, 2, 0, .int 60)] (by decide +kernel) rfl ?_
    refine XI_SNT (As := [.int p2, .int 60]) (rest := []) (idx := 29) (by decide +kernel) ok_C_isBelow mv_C_isBelow (n := 2) ⟨lk_H_29, by decide +kernel⟩ rfl (Nat.le_of_ble_eq_true rfl) (Nat.le_of_ble_eq_true rfl) (qZ_h rfl) (x_C_isBelow E p2 60 a) ?_
    refine XI_br (c := (f_C_isBelow p2 60) = 0) (t := 38) (e := 17) (ls' := [.ref 27, .int p1, .int p2, .int p3]) (st' := []) (a' := a) [(.ifCond .eq 24, 3, 38, .null)] (by decide +kernel) rfl ?_ ?_
    · exact XI_retV (by decide +kernel)
    · refine XI_ck (c := inb p1 4) (pc' := 33) (ls' := [.ref 27, .int p1, .int p2, .int p3]) (st' := [.int (a 28 (ix p1)), .int ((60 * p1) + p2), .ref 30]) (a' := a) [(.aload_n 0, 1, 0, .null), (.getfield 18, 3, 402, .null), (.bipush 60, 2, 0, .int 60), (.iload_n 1, 1, 1, .null), (.imul, 1, 0, .null), (.iload_n 2, 1, 2, .null), (.iadd, 1, 0, .null), (.aload_n 0, 1, 0, .null), (.getfield 9, 3, 400, .null), (.iload_n 1, 1, 1, .null), (.iaload, 1, 0, .null)] (by decide +kernel) rfl ?_
      refine XI_go (pc' := 34) (ls' := [.ref 27, .int p1, .int p2, .int p3]) (st' := [.int p3, .int (a 28 (ix p1)), .int ((60 * p1) + p2), .ref 30]) (a' := a) [(.iload_n 3, 1, 3, .null)] (by decide +kernel) rfl ?_
      refine XI_ST (As := [.int (a 28 (ix p1)), .int p3]) (rest := [.int ((60 * p1) + p2), .ref 30]) (idx := 40) (by decide +kernel) ok_H_lowestBits mv_H_lowestBits (n := 2) ⟨lk_H_40, by decide +kernel⟩ rfl (Nat.le_of_ble_eq_true rfl) (Nat.le_of_ble_eq_true rfl) (qI_h rfl) (x_H_lowestBits E (a 28 (ix p1)) p3 a) ?_
      refine XI_ck (c := inb ((60 * p1) + p2) 240) (pc' := 38) (ls' := [.ref 27, .int p1, .int p2, .int p3]) (st' := []) (a' := (upA a 30 (ix ((60 * p1) + p2)) (f_H_lowestBits (a 28 (ix p1)) p3))) [(.iastore, 1, 0, .null)] (by decide +kernel) rfl ?_
      exact XI_retV (by decide +kernel)
/-! ChestnutSticks.lay(IIII)I -/
def md_C_lay : md_T := (yX10_lay, cX10_lay, 6, (some .int), 4, 86)
set_option maxRecDepth 100000 in
theorem ok_C_lay : m_ok md_C_lay := ⟨List.mem_of_getElem? (i := 793) (by decide +kernel), by decide +kernel, List.mem_of_getElem? (i := 53) (by decide +kernel), by decide +kernel⟩
theorem mv_C_lay : Cond.instanceMethod (m_y md_C_lay) ∈ lw_tbl ∧ Cond.selects (m_y md_C_lay).cls (m_y md_C_lay) (m_y md_C_lay) ∈ lw_tbl := ⟨List.mem_of_getElem? (i := 791) (by decide +kernel), List.mem_of_getElem? (i := 792) (by decide +kernel)⟩
def f_C_lay (p1 : Int32) (p2 : Int32) (p3 : Int32) (p4 : Int32) (a : aT) : Option (Int32 × aT) :=
  if (f_C_isBelow p1 4) = 0 then
    some ((-2), a)
  else
    if (f_C_isBelow p2 3) = 0 then
      some ((-2), a)
    else
      (f_H_whyNot p1 p2 p3 a).bind fun q3 =>
        if q3 = 0 then
          (f_H_put p1 p3 p4 a).bind fun q4 =>
            some (1, q4.2)
        else
          (f_H_find q3 a).bind fun q5 =>
            some (q5.1, q5.2)
set_option maxHeartbeats 4000000 in
set_option maxRecDepth 100000 in
theorem x_C_lay (E : eT) (p1 : Int32) (p2 : Int32) (p3 : Int32) (p4 : Int32) (a : aT) : XI qI E md_C_lay 0 [.ref 0, .int p1, .int p2, .int p3, .int p4, .null] [] a (f_C_lay p1 p2 p3 p4 a) := by
  refine XI_go (pc' := 2) (ls' := [.ref 0, .int p1, .int p2, .int p3, .int p4, .null]) (st' := [.int 4, .int p1]) (a' := a) [(.iload_n 1, 1, 1, .null), (.iconst 4, 1, 0, .int 4)] (by decide +kernel) rfl ?_
  refine XI_ST (As := [.int p1, .int 4]) (rest := []) (idx := 110) (by decide +kernel) ok_C_isBelow mv_C_isBelow (n := 2) ⟨lk_C_110, by decide +kernel⟩ rfl (Nat.le_of_ble_eq_true rfl) (Nat.le_of_ble_eq_true rfl) (qZ_h rfl) (x_C_isBelow E p1 4 a) ?_
  refine XI_br (c := (f_C_isBelow p1 4) = 0) (t := 16) (e := 8) (ls' := [.ref 0, .int p1, .int p2, .int p3, .int p4, .null]) (st' := []) (a' := a) [(.ifCond .eq 11, 3, 16, .null)] (by decide +kernel) rfl ?_ ?_
  · refine XI_go (pc' := 18) (ls' := [.ref 0, .int p1, .int p2, .int p3, .int p4, .null]) (st' := [.int (-2)]) (a' := a) [(.bipush (-2), 2, 0, .int (-2))] (by decide +kernel) rfl ?_
    exact XI_retI (by decide +kernel)
  · refine XI_go (pc' := 10) (ls' := [.ref 0, .int p1, .int p2, .int p3, .int p4, .null]) (st' := [.int 3, .int p2]) (a' := a) [(.iload_n 2, 1, 2, .null), (.iconst 3, 1, 0, .int 3)] (by decide +kernel) rfl ?_
    refine XI_ST (As := [.int p2, .int 3]) (rest := []) (idx := 110) (by decide +kernel) ok_C_isBelow mv_C_isBelow (n := 2) ⟨lk_C_110, by decide +kernel⟩ rfl (Nat.le_of_ble_eq_true rfl) (Nat.le_of_ble_eq_true rfl) (qZ_h rfl) (x_C_isBelow E p2 3 a) ?_
    refine XI_br (c := (f_C_isBelow p2 3) = 0) (t := 16) (e := 19) (ls' := [.ref 0, .int p1, .int p2, .int p3, .int p4, .null]) (st' := []) (a' := a) [(.ifCond .ne 6, 3, 19, .null)] (by decide +kernel) rfl ?_ ?_
    · refine XI_go (pc' := 18) (ls' := [.ref 0, .int p1, .int p2, .int p3, .int p4, .null]) (st' := [.int (-2)]) (a' := a) [(.bipush (-2), 2, 0, .int (-2))] (by decide +kernel) rfl ?_
      exact XI_retI (by decide +kernel)
    · refine XI_go (pc' := 26) (ls' := [.ref 0, .int p1, .int p2, .int p3, .int p4, .null]) (st' := [.int p3, .int p2, .int p1, .ref 27]) (a' := a) [(.aload_n 0, 1, 0, .null), (.getfield 79, 3, 1009, .null), (.iload_n 1, 1, 1, .null), (.iload_n 2, 1, 2, .null), (.iload_n 3, 1, 3, .null)] (by decide +kernel) rfl ?_
      refine XI_VP (As := [.int p1, .int p2, .int p3]) (rest := []) (b := 27) (idx := 245) (by decide +kernel) ok_H_whyNot mv_H_whyNot (n := 3) ⟨lk_C_245, by decide +kernel⟩ rfl rfl rfl rfl (Nat.le_of_ble_eq_true rfl) (Nat.le_of_ble_eq_true rfl) (qI_h rfl) (x_H_whyNot E p1 p2 p3 a) (fun q3 => ?_)
      refine XI_br (c := q3 = 0) (t := 46) (e := 36) (ls' := [.ref 0, .int p1, .int p2, .int p3, .int p4, .int q3]) (st' := []) (a' := a) [(.istore 5, 2, 5, .null), (.iload 5, 2, 5, .null), (.ifCond .eq 13, 3, 46, .null)] (by decide +kernel) rfl ?_ ?_
      · refine XI_go (pc' := 54) (ls' := [.ref 0, .int p1, .int p2, .int p3, .int p4, .int q3]) (st' := [.int p4, .int p3, .int p1, .ref 27]) (a' := a) [(.aload_n 0, 1, 0, .null), (.getfield 79, 3, 1009, .null), (.iload_n 1, 1, 1, .null), (.iload_n 3, 1, 3, .null), (.iload 4, 2, 4, .null)] (by decide +kernel) rfl ?_
        refine XI_VI (As := [.int p1, .int p3, .int p4]) (rest := []) (b := 27) (idx := 248) (by decide +kernel) ok_H_put mv_H_put (n := 3) ⟨lk_C_248, by decide +kernel⟩ rfl rfl rfl rfl (Nat.le_of_ble_eq_true rfl) (Nat.le_of_ble_eq_true rfl) (qV_h rfl) (x_H_put E p1 p3 p4 a) (fun q4 => ?_)
        refine XI_go (pc' := 58) (ls' := [.ref 0, .int p1, .int p2, .int p3, .int p4, .int q3]) (st' := [.int 1]) (a' := q4.2) [(.iconst 1, 1, 0, .int 1)] (by decide +kernel) rfl ?_
        exact XI_retI (by decide +kernel)
      · refine XI_go (pc' := 42) (ls' := [.ref 0, .int p1, .int p2, .int p3, .int p4, .int q3]) (st' := [.int q3, .ref 27]) (a' := a) [(.aload_n 0, 1, 0, .null), (.getfield 79, 3, 1009, .null), (.iload 5, 2, 5, .null)] (by decide +kernel) rfl ?_
        refine XI_VI (As := [.int q3]) (rest := []) (b := 27) (idx := 118) (by decide +kernel) ok_H_find mv_H_find (n := 1) ⟨lk_C_118, by decide +kernel⟩ rfl rfl rfl rfl (Nat.le_of_ble_eq_true rfl) (Nat.le_of_ble_eq_true rfl) (qI_h rfl) (x_H_find E q3 a) (fun q5 => ?_)
        exact XI_retI (by decide +kernel)
/-! ChestnutSticksModel.lacks(III)I -/
def md_M_lacks : md_T := (yX11_lacks, cX11_lacks, 4, (some .int), 1, 25)
set_option maxRecDepth 100000 in
theorem ok_M_lacks : m_ok md_M_lacks := ⟨List.mem_of_getElem? (i := 1020) (by decide +kernel), by decide +kernel, List.mem_of_getElem? (i := 64) (by decide +kernel), by decide +kernel⟩
theorem mv_M_lacks : Cond.instanceMethod (m_y md_M_lacks) ∈ lw_tbl ∧ Cond.selects (m_y md_M_lacks).cls (m_y md_M_lacks) (m_y md_M_lacks) ∈ lw_tbl := ⟨List.mem_of_getElem? (i := 1019) (by decide +kernel), List.mem_of_getElem? (i := 19) (by decide +kernel)⟩
def f_M_lacks (p1 : Int32) (p2 : Int32) (p3 : Int32) (a : aT) : Option (Int32 × aT) :=
  if inb p1 4 then
    if 0 ≤ (a 32 (ix p1)) then
      if inb p1 4 then
        if (a 32 (ix p1)) = p2 then
          if inb p1 4 then
            if (f_M_in p3.toInt64 0 ((a 33 (ix p1)) - 1).toInt64) = 0 then
              (f_M_met 2 a).bind fun q2 =>
                some (q2.1, q2.2)
            else
              some (0, a)
          else none
        else
          (f_M_met 3 a).bind fun q3 =>
            some (q3.1, q3.2)
      else none
    else
      (f_M_met 1 a).bind fun q4 =>
        some (q4.1, q4.2)
  else none
set_option maxHeartbeats 4000000 in
set_option maxRecDepth 100000 in
theorem x_M_lacks (E : eT) (p1 : Int32) (p2 : Int32) (p3 : Int32) (a : aT) : XI qI E md_M_lacks 0 [.ref 31, .int p1, .int p2, .int p3] [] a (f_M_lacks p1 p2 p3 a) := by
  refine XI_ck (c := inb p1 4) (pc' := 6) (ls' := [.ref 31, .int p1, .int p2, .int p3]) (st' := [.int (a 32 (ix p1))]) (a' := a) [(.aload_n 0, 1, 0, .null), (.getfield 7, 3, 1100, .null), (.iload_n 1, 1, 1, .null), (.iaload, 1, 0, .null)] (by decide +kernel) rfl ?_
  refine XI_br (c := 0 ≤ (a 32 (ix p1))) (t := 15) (e := 9) (ls' := [.ref 31, .int p1, .int p2, .int p3]) (st' := []) (a' := a) [(.ifCond .ge 9, 3, 15, .null)] (by decide +kernel) rfl ?_ ?_
  · refine XI_ck (c := inb p1 4) (pc' := 21) (ls' := [.ref 31, .int p1, .int p2, .int p3]) (st' := [.int (a 32 (ix p1))]) (a' := a) [(.aload_n 0, 1, 0, .null), (.getfield 7, 3, 1100, .null), (.iload_n 1, 1, 1, .null), (.iaload, 1, 0, .null)] (by decide +kernel) rfl ?_
    refine XI_br (c := (a 32 (ix p1)) = p2) (t := 31) (e := 25) (ls' := [.ref 31, .int p1, .int p2, .int p3]) (st' := []) (a' := a) [(.iload_n 2, 1, 2, .null), (.if_icmp .eq 9, 3, 31, .null)] (by decide +kernel) rfl ?_ ?_
    · refine XI_ck (c := inb p1 4) (pc' := 40) (ls' := [.ref 31, .int p1, .int p2, .int p3]) (st' := [.int (a 33 (ix p1)), .long 0, .long p3.toInt64]) (a' := a) [(.iload_n 3, 1, 3, .null), (.i2l, 1, 0, .null), (.lconst 0, 1, 0, .long 0), (.aload_n 0, 1, 0, .null), (.getfield 13, 3, 1101, .null), (.iload_n 1, 1, 1, .null), (.iaload, 1, 0, .null)] (by decide +kernel) rfl ?_
      refine XI_go (pc' := 43) (ls' := [.ref 31, .int p1, .int p2, .int p3]) (st' := [.long ((a 33 (ix p1)) - 1).toInt64, .long 0, .long p3.toInt64]) (a' := a) [(.iconst 1, 1, 0, .int 1), (.isub, 1, 0, .null), (.i2l, 1, 0, .null)] (by decide +kernel) rfl ?_
      refine XI_ST (As := [.long p3.toInt64, .long 0, .long ((a 33 (ix p1)) - 1).toInt64]) (rest := []) (idx := 74) (by decide +kernel) ok_M_in mv_M_in (n := 3) ⟨lk_M_74, by decide +kernel⟩ rfl (Nat.le_of_ble_eq_true rfl) (Nat.le_of_ble_eq_true rfl) (qZ_h rfl) (x_M_in E p3.toInt64 0 ((a 33 (ix p1)) - 1).toInt64 a) ?_
      refine XI_br (c := (f_M_in p3.toInt64 0 ((a 33 (ix p1)) - 1).toInt64) = 0) (t := 53) (e := 49) (ls' := [.ref 31, .int p1, .int p2, .int p3]) (st' := []) (a' := a) [(.ifCond .eq 7, 3, 53, .null)] (by decide +kernel) rfl ?_ ?_
      · refine XI_go (pc' := 55) (ls' := [.ref 31, .int p1, .int p2, .int p3]) (st' := [.int 2, .ref 31]) (a' := a) [(.aload_n 0, 1, 0, .null), (.iconst 2, 1, 0, .int 2)] (by decide +kernel) rfl ?_
        refine XI_VI (As := [.int 2]) (rest := []) (b := 31) (idx := 89) (by decide +kernel) ok_M_met mv_M_met (n := 1) ⟨lk_M_89, by decide +kernel⟩ rfl rfl rfl rfl (Nat.le_of_ble_eq_true rfl) (Nat.le_of_ble_eq_true rfl) (qI_h rfl) (x_M_met E 2 a) (fun q2 => ?_)
        exact XI_retI (by decide +kernel)
      · refine XI_go (pc' := 58) (ls' := [.ref 31, .int p1, .int p2, .int p3]) (st' := [.int 0]) (a' := a) [(.iconst 0, 1, 0, .int 0), (.goto 8, 3, 58, .null)] (by decide +kernel) rfl ?_
        exact XI_retI (by decide +kernel)
    · refine XI_go (pc' := 27) (ls' := [.ref 31, .int p1, .int p2, .int p3]) (st' := [.int 3, .ref 31]) (a' := a) [(.aload_n 0, 1, 0, .null), (.iconst 3, 1, 0, .int 3)] (by decide +kernel) rfl ?_
      refine XI_VI (As := [.int 3]) (rest := []) (b := 31) (idx := 89) (by decide +kernel) ok_M_met mv_M_met (n := 1) ⟨lk_M_89, by decide +kernel⟩ rfl rfl rfl rfl (Nat.le_of_ble_eq_true rfl) (Nat.le_of_ble_eq_true rfl) (qI_h rfl) (x_M_met E 3 a) (fun q3 => ?_)
      exact XI_retI (by decide +kernel)
  · refine XI_go (pc' := 11) (ls' := [.ref 31, .int p1, .int p2, .int p3]) (st' := [.int 1, .ref 31]) (a' := a) [(.aload_n 0, 1, 0, .null), (.iconst 1, 1, 0, .int 1)] (by decide +kernel) rfl ?_
    refine XI_VI (As := [.int 1]) (rest := []) (b := 31) (idx := 89) (by decide +kernel) ok_M_met mv_M_met (n := 1) ⟨lk_M_89, by decide +kernel⟩ rfl rfl rfl rfl (Nat.le_of_ble_eq_true rfl) (Nat.le_of_ble_eq_true rfl) (qI_h rfl) (x_M_met E 1 a) (fun q4 => ?_)
    exact XI_retI (by decide +kernel)
/-! ChestnutSticksModel.cut(II)I -/
def md_M_cut : md_T := (yX11_cut, cX11_cut, 2, (some .int), 0, 0)
set_option maxRecDepth 100000 in
theorem ok_M_cut : m_ok md_M_cut := ⟨List.mem_of_getElem? (i := 1023) (by decide +kernel), by decide +kernel, List.mem_of_getElem? (i := 64) (by decide +kernel), by decide +kernel⟩
theorem mv_M_cut : Cond.static (m_y md_M_cut) ∈ lw_tbl := List.mem_of_getElem? (i := 1022) (by decide +kernel)
def f_M_cut (p1 : Int32) (p2 : Int32) : Int32 :=
  if p1 = 0 then
    p2.toInt8.toInt32
  else
    if p1 = 1 then
      p2.toInt16.toInt32
    else
      p2
set_option maxHeartbeats 4000000 in
set_option maxRecDepth 100000 in
theorem x_M_cut (E : eT) (p1 : Int32) (p2 : Int32) (a : aT) : XT qI E md_M_cut 0 [.int p1, .int p2] [] a (f_M_cut p1 p2) := by
  refine XT_br (c := p1 = 0) (t := 4) (e := 9) (ls' := [.int p1, .int p2]) (st' := []) (a' := a) [(.iload_n 0, 1, 0, .null), (.ifCond .ne 8, 3, 9, .null)] (by decide +kernel) rfl ?_ ?_
  · refine XT_go (pc' := 20) (ls' := [.int p1, .int p2]) (st' := [.int p2.toInt8.toInt32]) (a' := a) [(.iload_n 1, 1, 1, .null), (.i2b, 1, 0, .null), (.goto 14, 3, 20, .null)] (by decide +kernel) rfl ?_
    exact XT_retI (by decide +kernel)
  · refine XT_br (c := p1 = 1) (t := 14) (e := 19) (ls' := [.int p1, .int p2]) (st' := []) (a' := a) [(.iload_n 0, 1, 0, .null), (.iconst 1, 1, 0, .int 1), (.if_icmp .ne 8, 3, 19, .null)] (by decide +kernel) rfl ?_ ?_
    · refine XT_go (pc' := 20) (ls' := [.int p1, .int p2]) (st' := [.int p2.toInt16.toInt32]) (a' := a) [(.iload_n 1, 1, 1, .null), (.i2s, 1, 0, .null), (.goto 4, 3, 20, .null)] (by decide +kernel) rfl ?_
      exact XT_retI (by decide +kernel)
    · refine XT_go (pc' := 20) (ls' := [.int p1, .int p2]) (st' := [.int p2]) (a' := a) [(.iload_n 1, 1, 1, .null)] (by decide +kernel) rfl ?_
      exact XT_retI (by decide +kernel)
/-! ChestnutSticksModel.lay(IIII)I -/
def md_M_lay : md_T := (yX11_lay, cX11_lay, 6, (some .int), 2, 48)
set_option maxRecDepth 100000 in
theorem ok_M_lay : m_ok md_M_lay := ⟨List.mem_of_getElem? (i := 1016) (by decide +kernel), by decide +kernel, List.mem_of_getElem? (i := 64) (by decide +kernel), by decide +kernel⟩
theorem mv_M_lay : Cond.instanceMethod (m_y md_M_lay) ∈ lw_tbl ∧ Cond.selects (m_y md_M_lay).cls (m_y md_M_lay) (m_y md_M_lay) ∈ lw_tbl := ⟨List.mem_of_getElem? (i := 1014) (by decide +kernel), List.mem_of_getElem? (i := 1015) (by decide +kernel)⟩
def f_M_lay (p1 : Int32) (p2 : Int32) (p3 : Int32) (p4 : Int32) (a : aT) : Option (Int32 × aT) :=
  if (f_M_isSheet p1) = 0 then
    some ((-2), a)
  else
    if (f_M_in p2.toInt64 0 2) = 0 then
      some ((-2), a)
    else
      (f_M_lacks p1 p2 p3 a).bind fun q3 =>
        if q3.1 = 0 then
          if inb ((60 * p1) + p3) 240 then
            some (1, (upA q3.2 34 (ix ((60 * p1) + p3)) (f_M_cut p2 p4)))
          else none
        else
          some (q3.1, q3.2)
set_option maxHeartbeats 4000000 in
set_option maxRecDepth 100000 in
theorem x_M_lay (E : eT) (p1 : Int32) (p2 : Int32) (p3 : Int32) (p4 : Int32) (a : aT) : XI qI E md_M_lay 0 [.ref 31, .int p1, .int p2, .int p3, .int p4, .null] [] a (f_M_lay p1 p2 p3 p4 a) := by
  refine XI_go (pc' := 1) (ls' := [.ref 31, .int p1, .int p2, .int p3, .int p4, .null]) (st' := [.int p1]) (a' := a) [(.iload_n 1, 1, 1, .null)] (by decide +kernel) rfl ?_
  refine XI_ST (As := [.int p1]) (rest := []) (idx := 83) (by decide +kernel) ok_M_isSheet mv_M_isSheet (n := 1) ⟨lk_M_83, by decide +kernel⟩ rfl (Nat.le_of_ble_eq_true rfl) (Nat.le_of_ble_eq_true rfl) (qZ_h rfl) (x_M_isSheet E p1 a) ?_
  refine XI_br (c := (f_M_isSheet p1) = 0) (t := 19) (e := 7) (ls' := [.ref 31, .int p1, .int p2, .int p3, .int p4, .null]) (st' := []) (a' := a) [(.ifCond .eq 15, 3, 19, .null)] (by decide +kernel) rfl ?_ ?_
  · refine XI_go (pc' := 21) (ls' := [.ref 31, .int p1, .int p2, .int p3, .int p4, .null]) (st' := [.int (-2)]) (a' := a) [(.bipush (-2), 2, 0, .int (-2))] (by decide +kernel) rfl ?_
    exact XI_retI (by decide +kernel)
  · refine XI_go (pc' := 13) (ls' := [.ref 31, .int p1, .int p2, .int p3, .int p4, .null]) (st' := [.long 2, .long 0, .long p2.toInt64]) (a' := a) [(.iload_n 2, 1, 2, .null), (.i2l, 1, 0, .null), (.lconst 0, 1, 0, .long 0), (.ldc2_w 87, 3, 0, .long 2)] (by decide +kernel) rfl ?_
    refine XI_ST (As := [.long p2.toInt64, .long 0, .long 2]) (rest := []) (idx := 74) (by decide +kernel) ok_M_in mv_M_in (n := 3) ⟨lk_M_74, by decide +kernel⟩ rfl (Nat.le_of_ble_eq_true rfl) (Nat.le_of_ble_eq_true rfl) (qZ_h rfl) (x_M_in E p2.toInt64 0 2 a) ?_
    refine XI_br (c := (f_M_in p2.toInt64 0 2) = 0) (t := 19) (e := 22) (ls' := [.ref 31, .int p1, .int p2, .int p3, .int p4, .null]) (st' := []) (a' := a) [(.ifCond .ne 6, 3, 22, .null)] (by decide +kernel) rfl ?_ ?_
    · refine XI_go (pc' := 21) (ls' := [.ref 31, .int p1, .int p2, .int p3, .int p4, .null]) (st' := [.int (-2)]) (a' := a) [(.bipush (-2), 2, 0, .int (-2))] (by decide +kernel) rfl ?_
      exact XI_retI (by decide +kernel)
    · refine XI_go (pc' := 26) (ls' := [.ref 31, .int p1, .int p2, .int p3, .int p4, .null]) (st' := [.int p3, .int p2, .int p1, .ref 31]) (a' := a) [(.aload_n 0, 1, 0, .null), (.iload_n 1, 1, 1, .null), (.iload_n 2, 1, 2, .null), (.iload_n 3, 1, 3, .null)] (by decide +kernel) rfl ?_
      refine XI_VI (As := [.int p1, .int p2, .int p3]) (rest := []) (b := 31) (idx := 93) (by decide +kernel) ok_M_lacks mv_M_lacks (n := 3) ⟨lk_M_93, by decide +kernel⟩ rfl rfl rfl rfl (Nat.le_of_ble_eq_true rfl) (Nat.le_of_ble_eq_true rfl) (qI_h rfl) (x_M_lacks E p1 p2 p3 a) (fun q3 => ?_)
      refine XI_br (c := q3.1 = 0) (t := 39) (e := 36) (ls' := [.ref 31, .int p1, .int p2, .int p3, .int p4, .int q3.1]) (st' := []) (a' := q3.2) [(.istore 5, 2, 5, .null), (.iload 5, 2, 5, .null), (.ifCond .eq 6, 3, 39, .null)] (by decide +kernel) rfl ?_ ?_
      · refine XI_go (pc' := 52) (ls' := [.ref 31, .int p1, .int p2, .int p3, .int p4, .int q3.1]) (st' := [.int p4, .int p2, .int ((60 * p1) + p3), .ref 34]) (a' := q3.2) [(.aload_n 0, 1, 0, .null), (.getfield 16, 3, 1102, .null), (.bipush 60, 2, 0, .int 60), (.iload_n 1, 1, 1, .null), (.imul, 1, 0, .null), (.iload_n 3, 1, 3, .null), (.iadd, 1, 0, .null), (.iload_n 2, 1, 2, .null), (.iload 4, 2, 4, .null)] (by decide +kernel) rfl ?_
        refine XI_ST (As := [.int p2, .int p4]) (rest := [.int ((60 * p1) + p3), .ref 34]) (idx := 97) (by decide +kernel) ok_M_cut mv_M_cut (n := 2) ⟨lk_M_97, by decide +kernel⟩ rfl (Nat.le_of_ble_eq_true rfl) (Nat.le_of_ble_eq_true rfl) (qI_h rfl) (x_M_cut E p2 p4 q3.2) ?_
        refine XI_ck (c := inb ((60 * p1) + p3) 240) (pc' := 56) (ls' := [.ref 31, .int p1, .int p2, .int p3, .int p4, .int q3.1]) (st' := []) (a' := (upA q3.2 34 (ix ((60 * p1) + p3)) (f_M_cut p2 p4))) [(.iastore, 1, 0, .null)] (by decide +kernel) rfl ?_
        refine XI_go (pc' := 57) (ls' := [.ref 31, .int p1, .int p2, .int p3, .int p4, .int q3.1]) (st' := [.int 1]) (a' := (upA q3.2 34 (ix ((60 * p1) + p3)) (f_M_cut p2 p4))) [(.iconst 1, 1, 0, .int 1)] (by decide +kernel) rfl ?_
        exact XI_retI (by decide +kernel)
      · refine XI_go (pc' := 38) (ls' := [.ref 31, .int p1, .int p2, .int p3, .int p4, .int q3.1]) (st' := [.int q3.1]) (a' := q3.2) [(.iload 5, 2, 5, .null)] (by decide +kernel) rfl ?_
        exact XI_retI (by decide +kernel)
/-! ChestnutSticks.get(III)I -/
def md_C_get : md_T := (yX10_get, cX10_get, 5, (some .int), 4, 86)
set_option maxRecDepth 100000 in
theorem ok_C_get : m_ok md_C_get := ⟨List.mem_of_getElem? (i := 809) (by decide +kernel), by decide +kernel, List.mem_of_getElem? (i := 53) (by decide +kernel), by decide +kernel⟩
theorem mv_C_get : Cond.instanceMethod (m_y md_C_get) ∈ lw_tbl ∧ Cond.selects (m_y md_C_get).cls (m_y md_C_get) (m_y md_C_get) ∈ lw_tbl := ⟨List.mem_of_getElem? (i := 807) (by decide +kernel), List.mem_of_getElem? (i := 808) (by decide +kernel)⟩
def f_C_get (p1 : Int32) (p2 : Int32) (p3 : Int32) (a : aT) : Option (Int32 × aT) :=
  if (f_C_isBelow p1 4) = 0 then
    some ((-2147483648), a)
  else
    if (f_C_isBelow p2 3) = 0 then
      some ((-2147483648), a)
    else
      (f_H_whyNot p1 p2 p3 a).bind fun q3 =>
        if q3 = 0 then
          (f_H_itemOf p1 p3 a).bind fun q4 =>
            some (q4, a)
        else
          (f_H_find q3 a).bind fun q5 =>
            some ((-2147483648), q5.2)
set_option maxHeartbeats 4000000 in
set_option maxRecDepth 100000 in
theorem x_C_get (E : eT) (p1 : Int32) (p2 : Int32) (p3 : Int32) (a : aT) : XI qI E md_C_get 0 [.ref 0, .int p1, .int p2, .int p3, .null] [] a (f_C_get p1 p2 p3 a) := by
  refine XI_go (pc' := 2) (ls' := [.ref 0, .int p1, .int p2, .int p3, .null]) (st' := [.int 4, .int p1]) (a' := a) [(.iload_n 1, 1, 1, .null), (.iconst 4, 1, 0, .int 4)] (by decide +kernel) rfl ?_
  refine XI_ST (As := [.int p1, .int 4]) (rest := []) (idx := 110) (by decide +kernel) ok_C_isBelow mv_C_isBelow (n := 2) ⟨lk_C_110, by decide +kernel⟩ rfl (Nat.le_of_ble_eq_true rfl) (Nat.le_of_ble_eq_true rfl) (qZ_h rfl) (x_C_isBelow E p1 4 a) ?_
  refine XI_br (c := (f_C_isBelow p1 4) = 0) (t := 16) (e := 8) (ls' := [.ref 0, .int p1, .int p2, .int p3, .null]) (st' := []) (a' := a) [(.ifCond .eq 11, 3, 16, .null)] (by decide +kernel) rfl ?_ ?_
  · refine XI_go (pc' := 18) (ls' := [.ref 0, .int p1, .int p2, .int p3, .null]) (st' := [.int (-2147483648)]) (a' := a) [(.ldc 251, 2, 0, .int (-2147483648))] (by decide +kernel) rfl ?_
    exact XI_retI (by decide +kernel)
  · refine XI_go (pc' := 10) (ls' := [.ref 0, .int p1, .int p2, .int p3, .null]) (st' := [.int 3, .int p2]) (a' := a) [(.iload_n 2, 1, 2, .null), (.iconst 3, 1, 0, .int 3)] (by decide +kernel) rfl ?_
    refine XI_ST (As := [.int p2, .int 3]) (rest := []) (idx := 110) (by decide +kernel) ok_C_isBelow mv_C_isBelow (n := 2) ⟨lk_C_110, by decide +kernel⟩ rfl (Nat.le_of_ble_eq_true rfl) (Nat.le_of_ble_eq_true rfl) (qZ_h rfl) (x_C_isBelow E p2 3 a) ?_
    refine XI_br (c := (f_C_isBelow p2 3) = 0) (t := 16) (e := 19) (ls' := [.ref 0, .int p1, .int p2, .int p3, .null]) (st' := []) (a' := a) [(.ifCond .ne 6, 3, 19, .null)] (by decide +kernel) rfl ?_ ?_
    · refine XI_go (pc' := 18) (ls' := [.ref 0, .int p1, .int p2, .int p3, .null]) (st' := [.int (-2147483648)]) (a' := a) [(.ldc 251, 2, 0, .int (-2147483648))] (by decide +kernel) rfl ?_
      exact XI_retI (by decide +kernel)
    · refine XI_go (pc' := 26) (ls' := [.ref 0, .int p1, .int p2, .int p3, .null]) (st' := [.int p3, .int p2, .int p1, .ref 27]) (a' := a) [(.aload_n 0, 1, 0, .null), (.getfield 79, 3, 1009, .null), (.iload_n 1, 1, 1, .null), (.iload_n 2, 1, 2, .null), (.iload_n 3, 1, 3, .null)] (by decide +kernel) rfl ?_
      refine XI_VP (As := [.int p1, .int p2, .int p3]) (rest := []) (b := 27) (idx := 245) (by decide +kernel) ok_H_whyNot mv_H_whyNot (n := 3) ⟨lk_C_245, by decide +kernel⟩ rfl rfl rfl rfl (Nat.le_of_ble_eq_true rfl) (Nat.le_of_ble_eq_true rfl) (qI_h rfl) (x_H_whyNot E p1 p2 p3 a) (fun q3 => ?_)
      refine XI_br (c := q3 = 0) (t := 49) (e := 36) (ls' := [.ref 0, .int p1, .int p2, .int p3, .int q3]) (st' := []) (a' := a) [(.istore 4, 2, 4, .null), (.iload 4, 2, 4, .null), (.ifCond .eq 16, 3, 49, .null)] (by decide +kernel) rfl ?_ ?_
      · refine XI_go (pc' := 55) (ls' := [.ref 0, .int p1, .int p2, .int p3, .int q3]) (st' := [.int p3, .int p1, .ref 27]) (a' := a) [(.aload_n 0, 1, 0, .null), (.getfield 79, 3, 1009, .null), (.iload_n 1, 1, 1, .null), (.iload_n 3, 1, 3, .null)] (by decide +kernel) rfl ?_
        refine XI_VP (As := [.int p1, .int p3]) (rest := []) (b := 27) (idx := 129) (by decide +kernel) ok_H_itemOf mv_H_itemOf (n := 2) ⟨lk_C_129, by decide +kernel⟩ rfl rfl rfl rfl (Nat.le_of_ble_eq_true rfl) (Nat.le_of_ble_eq_true rfl) (qI_h rfl) (x_H_itemOf E p1 p3 a) (fun q4 => ?_)
        exact XI_retI (by decide +kernel)
      · refine XI_go (pc' := 42) (ls' := [.ref 0, .int p1, .int p2, .int p3, .int q3]) (st' := [.int q3, .ref 27]) (a' := a) [(.aload_n 0, 1, 0, .null), (.getfield 79, 3, 1009, .null), (.iload 4, 2, 4, .null)] (by decide +kernel) rfl ?_
        refine XI_VI (As := [.int q3]) (rest := []) (b := 27) (idx := 118) (by decide +kernel) ok_H_find mv_H_find (n := 1) ⟨lk_C_118, by decide +kernel⟩ rfl rfl rfl rfl (Nat.le_of_ble_eq_true rfl) (Nat.le_of_ble_eq_true rfl) (qI_h rfl) (x_H_find E q3 a) (fun q5 => ?_)
        refine XI_go (pc' := 48) (ls' := [.ref 0, .int p1, .int p2, .int p3, .int q3]) (st' := [.int (-2147483648)]) (a' := q5.2) [(.pop, 1, 0, .null), (.ldc 251, 2, 0, .int (-2147483648))] (by decide +kernel) rfl ?_
        exact XI_retI (by decide +kernel)
/-! ChestnutSticksModel.get(III)I -/
def md_M_get : md_T := (yX11_get, cX11_get, 4, (some .int), 2, 48)
set_option maxRecDepth 100000 in
theorem ok_M_get : m_ok md_M_get := ⟨List.mem_of_getElem? (i := 1027) (by decide +kernel), by decide +kernel, List.mem_of_getElem? (i := 64) (by decide +kernel), by decide +kernel⟩
theorem mv_M_get : Cond.instanceMethod (m_y md_M_get) ∈ lw_tbl ∧ Cond.selects (m_y md_M_get).cls (m_y md_M_get) (m_y md_M_get) ∈ lw_tbl := ⟨List.mem_of_getElem? (i := 1025) (by decide +kernel), List.mem_of_getElem? (i := 1026) (by decide +kernel)⟩
def f_M_get (p1 : Int32) (p2 : Int32) (p3 : Int32) (a : aT) : Option (Int32 × aT) :=
  if (f_M_isSheet p1) = 0 then
    some ((-2147483648), a)
  else
    if (f_M_in p2.toInt64 0 2) = 0 then
      some ((-2147483648), a)
    else
      (f_M_lacks p1 p2 p3 a).bind fun q3 =>
        if q3.1 = 0 then
          if inb ((60 * p1) + p3) 240 then
            some ((q3.2 34 (ix ((60 * p1) + p3))), q3.2)
          else none
        else
          some ((-2147483648), q3.2)
set_option maxHeartbeats 4000000 in
set_option maxRecDepth 100000 in
theorem x_M_get (E : eT) (p1 : Int32) (p2 : Int32) (p3 : Int32) (a : aT) : XI qI E md_M_get 0 [.ref 31, .int p1, .int p2, .int p3] [] a (f_M_get p1 p2 p3 a) := by
  refine XI_go (pc' := 1) (ls' := [.ref 31, .int p1, .int p2, .int p3]) (st' := [.int p1]) (a' := a) [(.iload_n 1, 1, 1, .null)] (by decide +kernel) rfl ?_
  refine XI_ST (As := [.int p1]) (rest := []) (idx := 83) (by decide +kernel) ok_M_isSheet mv_M_isSheet (n := 1) ⟨lk_M_83, by decide +kernel⟩ rfl (Nat.le_of_ble_eq_true rfl) (Nat.le_of_ble_eq_true rfl) (qZ_h rfl) (x_M_isSheet E p1 a) ?_
  refine XI_br (c := (f_M_isSheet p1) = 0) (t := 29) (e := 7) (ls' := [.ref 31, .int p1, .int p2, .int p3]) (st' := []) (a' := a) [(.ifCond .eq 25, 3, 29, .null)] (by decide +kernel) rfl ?_ ?_
  · refine XI_go (pc' := 31) (ls' := [.ref 31, .int p1, .int p2, .int p3]) (st' := [.int (-2147483648)]) (a' := a) [(.ldc 101, 2, 0, .int (-2147483648))] (by decide +kernel) rfl ?_
    exact XI_retI (by decide +kernel)
  · refine XI_go (pc' := 13) (ls' := [.ref 31, .int p1, .int p2, .int p3]) (st' := [.long 2, .long 0, .long p2.toInt64]) (a' := a) [(.iload_n 2, 1, 2, .null), (.i2l, 1, 0, .null), (.lconst 0, 1, 0, .long 0), (.ldc2_w 87, 3, 0, .long 2)] (by decide +kernel) rfl ?_
    refine XI_ST (As := [.long p2.toInt64, .long 0, .long 2]) (rest := []) (idx := 74) (by decide +kernel) ok_M_in mv_M_in (n := 3) ⟨lk_M_74, by decide +kernel⟩ rfl (Nat.le_of_ble_eq_true rfl) (Nat.le_of_ble_eq_true rfl) (qZ_h rfl) (x_M_in E p2.toInt64 0 2 a) ?_
    refine XI_br (c := (f_M_in p2.toInt64 0 2) = 0) (t := 29) (e := 19) (ls' := [.ref 31, .int p1, .int p2, .int p3]) (st' := []) (a' := a) [(.ifCond .eq 13, 3, 29, .null)] (by decide +kernel) rfl ?_ ?_
    · refine XI_go (pc' := 31) (ls' := [.ref 31, .int p1, .int p2, .int p3]) (st' := [.int (-2147483648)]) (a' := a) [(.ldc 101, 2, 0, .int (-2147483648))] (by decide +kernel) rfl ?_
      exact XI_retI (by decide +kernel)
    · refine XI_go (pc' := 23) (ls' := [.ref 31, .int p1, .int p2, .int p3]) (st' := [.int p3, .int p2, .int p1, .ref 31]) (a' := a) [(.aload_n 0, 1, 0, .null), (.iload_n 1, 1, 1, .null), (.iload_n 2, 1, 2, .null), (.iload_n 3, 1, 3, .null)] (by decide +kernel) rfl ?_
      refine XI_VI (As := [.int p1, .int p2, .int p3]) (rest := []) (b := 31) (idx := 93) (by decide +kernel) ok_M_lacks mv_M_lacks (n := 3) ⟨lk_M_93, by decide +kernel⟩ rfl rfl rfl rfl (Nat.le_of_ble_eq_true rfl) (Nat.le_of_ble_eq_true rfl) (qI_h rfl) (x_M_lacks E p1 p2 p3 a) (fun q3 => ?_)
      refine XI_br (c := q3.1 = 0) (t := 32) (e := 29) (ls' := [.ref 31, .int p1, .int p2, .int p3]) (st' := []) (a' := q3.2) [(.ifCond .eq 6, 3, 32, .null)] (by decide +kernel) rfl ?_ ?_
      · refine XI_ck (c := inb ((60 * p1) + p3) 240) (pc' := 43) (ls' := [.ref 31, .int p1, .int p2, .int p3]) (st' := [.int (q3.2 34 (ix ((60 * p1) + p3)))]) (a' := q3.2) [(.aload_n 0, 1, 0, .null), (.getfield 16, 3, 1102, .null), (.bipush 60, 2, 0, .int 60), (.iload_n 1, 1, 1, .null), (.imul, 1, 0, .null), (.iload_n 3, 1, 3, .null), (.iadd, 1, 0, .null), (.iaload, 1, 0, .null)] (by decide +kernel) rfl ?_
        exact XI_retI (by decide +kernel)
      · refine XI_go (pc' := 31) (ls' := [.ref 31, .int p1, .int p2, .int p3]) (st' := [.int (-2147483648)]) (a' := q3.2) [(.ldc 101, 2, 0, .int (-2147483648))] (by decide +kernel) rfl ?_
        exact XI_retI (by decide +kernel)
/-! ChestnutSticks$Sheets.hasRun(III)Z -/
def md_H_hasRun : md_T := (yX4_hasRun, cX4_hasRun, 4, (some .boolean), 2, 42)
set_option maxRecDepth 100000 in
theorem ok_H_hasRun : m_ok md_H_hasRun := ⟨List.mem_of_getElem? (i := 819) (by decide +kernel), by decide +kernel, List.mem_of_getElem? (i := 63) (by decide +kernel), by decide +kernel⟩
theorem mv_H_hasRun : Cond.instanceMethod (m_y md_H_hasRun) ∈ lw_tbl ∧ Cond.selects (m_y md_H_hasRun).cls (m_y md_H_hasRun) (m_y md_H_hasRun) ∈ lw_tbl := ⟨List.mem_of_getElem? (i := 817) (by decide +kernel), List.mem_of_getElem? (i := 818) (by decide +kernel)⟩
def f_H_hasRun (p1 : Int32) (p2 : Int32) (p3 : Int32) (a : aT) : Option Int32 :=
  if p2 < 0 then
    some 0
  else
    if p3 < 0 then
      some 0
    else
      (f_H_sizeOf p1 a).bind fun q1 =>
        if q1 < p2 then
          some 0
        else
          (f_H_sizeOf p1 a).bind fun q2 =>
            if (q2 - p2) < p3 then
              some 0
            else
              some 1
set_option maxHeartbeats 4000000 in
set_option maxRecDepth 100000 in
theorem x_H_hasRun (E : eT) (p1 : Int32) (p2 : Int32) (p3 : Int32) (a : aT) : XP qZ E md_H_hasRun 0 [.ref 27, .int p1, .int p2, .int p3] [] a (f_H_hasRun p1 p2 p3 a) := by
  refine XP_br (c := p2 < 0) (t := 32) (e := 4) (ls' := [.ref 27, .int p1, .int p2, .int p3]) (st' := []) (a' := a) [(.iload_n 2, 1, 2, .null), (.ifCond .lt 31, 3, 32, .null)] (by decide +kernel) rfl ?_ ?_
  · refine XP_go (pc' := 33) (ls' := [.ref 27, .int p1, .int p2, .int p3]) (st' := [.int 0]) (a' := a) [(.iconst 0, 1, 0, .int 0)] (by decide +kernel) rfl ?_
    exact XP_retZ (by decide +kernel) rfl
  · refine XP_br (c := p3 < 0) (t := 32) (e := 8) (ls' := [.ref 27, .int p1, .int p2, .int p3]) (st' := []) (a' := a) [(.iload_n 3, 1, 3, .null), (.ifCond .lt 27, 3, 32, .null)] (by decide +kernel) rfl ?_ ?_
    · refine XP_go (pc' := 33) (ls' := [.ref 27, .int p1, .int p2, .int p3]) (st' := [.int 0]) (a' := a) [(.iconst 0, 1, 0, .int 0)] (by decide +kernel) rfl ?_
      exact XP_retZ (by decide +kernel) rfl
    · refine XP_go (pc' := 11) (ls' := [.ref 27, .int p1, .int p2, .int p3]) (st' := [.int p1, .ref 27, .int p2]) (a' := a) [(.iload_n 2, 1, 2, .null), (.aload_n 0, 1, 0, .null), (.iload_n 1, 1, 1, .null)] (by decide +kernel) rfl ?_
      refine XP_VP (As := [.int p1]) (rest := [.int p2]) (b := 27) (idx := 37) (by decide +kernel) ok_H_sizeOf mv_H_sizeOf (n := 1) ⟨lk_H_37, by decide +kernel⟩ rfl rfl rfl rfl (Nat.le_of_ble_eq_true rfl) (Nat.le_of_ble_eq_true rfl) (qI_h rfl) (x_H_sizeOf E p1 a) (fun q1 => ?_)
      refine XP_br (c := q1 < p2) (t := 32) (e := 17) (ls' := [.ref 27, .int p1, .int p2, .int p3]) (st' := []) (a' := a) [(.if_icmp .gt 18, 3, 32, .null)] (by decide +kernel) rfl ?_ ?_
      · refine XP_go (pc' := 33) (ls' := [.ref 27, .int p1, .int p2, .int p3]) (st' := [.int 0]) (a' := a) [(.iconst 0, 1, 0, .int 0)] (by decide +kernel) rfl ?_
        exact XP_retZ (by decide +kernel) rfl
      · refine XP_go (pc' := 20) (ls' := [.ref 27, .int p1, .int p2, .int p3]) (st' := [.int p1, .ref 27, .int p3]) (a' := a) [(.iload_n 3, 1, 3, .null), (.aload_n 0, 1, 0, .null), (.iload_n 1, 1, 1, .null)] (by decide +kernel) rfl ?_
        refine XP_VP (As := [.int p1]) (rest := [.int p3]) (b := 27) (idx := 37) (by decide +kernel) ok_H_sizeOf mv_H_sizeOf (n := 1) ⟨lk_H_37, by decide +kernel⟩ rfl rfl rfl rfl (Nat.le_of_ble_eq_true rfl) (Nat.le_of_ble_eq_true rfl) (qI_h rfl) (x_H_sizeOf E p1 a) (fun q2 => ?_)
        refine XP_br (c := (q2 - p2) < p3) (t := 32) (e := 28) (ls' := [.ref 27, .int p1, .int p2, .int p3]) (st' := []) (a' := a) [(.iload_n 2, 1, 2, .null), (.isub, 1, 0, .null), (.if_icmp .gt 7, 3, 32, .null)] (by decide +kernel) rfl ?_ ?_
        · refine XP_go (pc' := 33) (ls' := [.ref 27, .int p1, .int p2, .int p3]) (st' := [.int 0]) (a' := a) [(.iconst 0, 1, 0, .int 0)] (by decide +kernel) rfl ?_
          exact XP_retZ (by decide +kernel) rfl
        · refine XP_go (pc' := 33) (ls' := [.ref 27, .int p1, .int p2, .int p3]) (st' := [.int 1]) (a' := a) [(.iconst 1, 1, 0, .int 1), (.goto 4, 3, 33, .null)] (by decide +kernel) rfl ?_
          exact XP_retZ (by decide +kernel) rfl
/-! ChestnutSticks$Sheets.move(IIIII)V -/
def md_H_move : md_T := (yX4_move, cX4_move, 8, none, 2, 44)
set_option maxRecDepth 100000 in
theorem ok_H_move : m_ok md_H_move := ⟨List.mem_of_getElem? (i := 823) (by decide +kernel), by decide +kernel, List.mem_of_getElem? (i := 63) (by decide +kernel), by decide +kernel⟩
theorem mv_H_move : Cond.instanceMethod (m_y md_H_move) ∈ lw_tbl ∧ Cond.selects (m_y md_H_move).cls (m_y md_H_move) (m_y md_H_move) ∈ lw_tbl := ⟨List.mem_of_getElem? (i := 821) (by decide +kernel), List.mem_of_getElem? (i := 822) (by decide +kernel)⟩
def f_H_move_28 (N : Nat) (k3 : Int32 → Int32 → Int32 → Int32 → Int32 → Int32 → aT → Option (Unit × aT)) (x1 : Int32) (x2 : Int32) (x3 : Int32) (x4 : Int32) (x5 : Int32) (x6 : Int32) (y1 : Int32) (a : aT) : Option (Unit × aT) :=
  (f_H_itemOf x1 (x2 + y1) a).bind fun q1 =>
    (f_H_put x3 (x4 + y1) q1 a).bind fun q2 =>
      k3 x1 x2 x3 x4 x5 (x6 + 1) q2.2
def f_H_move_3 (N : Nat) : Nat → Int32 → Int32 → Int32 → Int32 → Int32 → Int32 → aT → Option (Unit × aT)
  | 0 => fun _ _ _ _ _ _ _ => none
  | n + 1 => fun x1 x2 x3 x4 x5 x6 a =>
    if x5 ≤ x6 then
      some ((), a)
    else
      if x4 ≤ x2 then
        f_H_move_28 N (f_H_move_3 N n) x1 x2 x3 x4 x5 x6 x6 a
      else
        f_H_move_28 N (f_H_move_3 N n) x1 x2 x3 x4 x5 x6 ((x5 - 1) - x6) a
def f_H_move (N : Nat) (p1 : Int32) (p2 : Int32) (p3 : Int32) (p4 : Int32) (p5 : Int32) (a : aT) : Option (Unit × aT) :=
  f_H_move_3 N N p1 p2 p3 p4 p5 0 a
set_option maxHeartbeats 4000000 in
set_option maxRecDepth 100000 in
theorem x_H_move_28 (E : eT) (N : Nat) (k3 : Int32 → Int32 → Int32 → Int32 → Int32 → Int32 → aT → Option (Unit × aT)) (h3 : ∀ (x1 : Int32) (x2 : Int32) (x3 : Int32) (x4 : Int32) (x5 : Int32) (x6 : Int32) (a : aT), XI qV E md_H_move 3 [.ref 27, .int x1, .int x2, .int x3, .int x4, .int x5, .int x6, .null] [] a (k3 x1 x2 x3 x4 x5 x6 a)) (x1 : Int32) (x2 : Int32) (x3 : Int32) (x4 : Int32) (x5 : Int32) (x6 : Int32) (y1 : Int32) (a : aT) : XI qV E md_H_move 28 [.ref 27, .int x1, .int x2, .int x3, .int x4, .int x5, .int x6, .null] [.int y1] a (f_H_move_28 N k3 x1 x2 x3 x4 x5 x6 y1 a) := by
  refine XI_go (pc' := 43) (ls' := [.ref 27, .int x1, .int x2, .int x3, .int x4, .int x5, .int x6, .int y1]) (st' := [.int (x2 + y1), .int x1, .ref 27, .int (x4 + y1), .int x3, .ref 27]) (a' := a) [(.istore 7, 2, 7, .null), (.aload_n 0, 1, 0, .null), (.iload_n 3, 1, 3, .null), (.iload 4, 2, 4, .null), (.iload 7, 2, 7, .null), (.iadd, 1, 0, .null), (.aload_n 0, 1, 0, .null), (.iload_n 1, 1, 1, .null), (.iload_n 2, 1, 2, .null), (.iload 7, 2, 7, .null), (.iadd, 1, 0, .null)] (by decide +kernel) rfl ?_
  refine XI_VP (As := [.int x1, .int (x2 + y1)]) (rest := [.int (x4 + y1), .int x3, .ref 27]) (b := 27) (idx := 44) (by decide +kernel) ok_H_itemOf mv_H_itemOf (n := 2) ⟨lk_H_44, by decide +kernel⟩ rfl rfl rfl rfl (Nat.le_of_ble_eq_true rfl) (Nat.le_of_ble_eq_true rfl) (qI_h rfl) (x_H_itemOf E x1 (x2 + y1) a) (fun q1 => ?_)
  refine XI_VI (As := [.int x3, .int (x4 + y1), .int q1]) (rest := []) (b := 27) (idx := 47) (by decide +kernel) ok_H_put mv_H_put (n := 3) ⟨lk_H_47, by decide +kernel⟩ rfl rfl rfl rfl (Nat.le_of_ble_eq_true rfl) (Nat.le_of_ble_eq_true rfl) (qV_h rfl) (x_H_put E x3 (x4 + y1) q1 a) (fun q2 => ?_)
  refine XI_go (pc' := 3) (ls' := [.ref 27, .int x1, .int x2, .int x3, .int x4, .int x5, .int (x6 + 1), .int y1]) (st' := []) (a' := q2.2) [(.iinc 6 1, 3, 6, .int 1), (.goto (-49), 3, 3, .null)] (by decide +kernel) rfl ?_
  refine XI_fg [true, true, true, true, true, true, true, false] ?_
  exact h3 x1 x2 x3 x4 x5 (x6 + 1) q2.2
set_option maxHeartbeats 4000000 in
set_option maxRecDepth 100000 in
theorem x_H_move_3 (E : eT) (N : Nat) : ∀ (n : Nat) (x1 : Int32) (x2 : Int32) (x3 : Int32) (x4 : Int32) (x5 : Int32) (x6 : Int32) (a : aT), XI qV E md_H_move 3 [.ref 27, .int x1, .int x2, .int x3, .int x4, .int x5, .int x6, .null] [] a (f_H_move_3 N n x1 x2 x3 x4 x5 x6 a)
  | 0, _, _, _, _, _, _, _ => XI_no rfl
  | n + 1, x1, x2, x3, x4, x5, x6, a => by
    refine XI_br (c := x5 ≤ x6) (t := 55) (e := 10) (ls' := [.ref 27, .int x1, .int x2, .int x3, .int x4, .int x5, .int x6, .null]) (st' := []) (a' := a) [(.iload 6, 2, 6, .null), (.iload 5, 2, 5, .null), (.if_icmp .ge 48, 3, 55, .null)] (by decide +kernel) rfl ?_ ?_
    · exact XI_retV (by decide +kernel)
    · refine XI_br (c := x4 ≤ x2) (t := 26) (e := 16) (ls' := [.ref 27, .int x1, .int x2, .int x3, .int x4, .int x5, .int x6, .null]) (st' := []) (a' := a) [(.iload_n 2, 1, 2, .null), (.iload 4, 2, 4, .null), (.if_icmp .ge 13, 3, 26, .null)] (by decide +kernel) rfl ?_ ?_
      · refine XI_go (pc' := 28) (ls' := [.ref 27, .int x1, .int x2, .int x3, .int x4, .int x5, .int x6, .null]) (st' := [.int x6]) (a' := a) [(.iload 6, 2, 6, .null)] (by decide +kernel) rfl ?_
        refine XI_fg [true, true, true, true, true, true, true, false] ?_
        exact x_H_move_28 E N (f_H_move_3 N n) (x_H_move_3 E N n) x1 x2 x3 x4 x5 x6 x6 a
      · refine XI_go (pc' := 28) (ls' := [.ref 27, .int x1, .int x2, .int x3, .int x4, .int x5, .int x6, .null]) (st' := [.int ((x5 - 1) - x6)]) (a' := a) [(.iload 5, 2, 5, .null), (.iconst 1, 1, 0, .int 1), (.isub, 1, 0, .null), (.iload 6, 2, 6, .null), (.isub, 1, 0, .null), (.goto 5, 3, 28, .null)] (by decide +kernel) rfl ?_
        refine XI_fg [true, true, true, true, true, true, true, false] ?_
        exact x_H_move_28 E N (f_H_move_3 N n) (x_H_move_3 E N n) x1 x2 x3 x4 x5 x6 ((x5 - 1) - x6) a
set_option maxHeartbeats 4000000 in
set_option maxRecDepth 100000 in
theorem x_H_move (E : eT) (N : Nat) (p1 : Int32) (p2 : Int32) (p3 : Int32) (p4 : Int32) (p5 : Int32) (a : aT) : XI qV E md_H_move 0 [.ref 27, .int p1, .int p2, .int p3, .int p4, .int p5, .null, .null] [] a (f_H_move N p1 p2 p3 p4 p5 a) := by
  refine XI_go (pc' := 3) (ls' := [.ref 27, .int p1, .int p2, .int p3, .int p4, .int p5, .int 0, .null]) (st' := []) (a' := a) [(.iconst 0, 1, 0, .int 0), (.istore 6, 2, 6, .null)] (by decide +kernel) rfl ?_
  refine XI_fg [true, true, true, true, true, true, true, false] ?_
  exact x_H_move_3 E N N p1 p2 p3 p4 p5 0 a
/-! ChestnutSticks.copy(IIIII)I -/
def md_C_copy : md_T := (yX10_copy, cX10_copy, 6, (some .int), 3, 71)
set_option maxRecDepth 100000 in
theorem ok_C_copy : m_ok md_C_copy := ⟨List.mem_of_getElem? (i := 814) (by decide +kernel), by decide +kernel, List.mem_of_getElem? (i := 53) (by decide +kernel), by decide +kernel⟩
theorem mv_C_copy : Cond.instanceMethod (m_y md_C_copy) ∈ lw_tbl ∧ Cond.selects (m_y md_C_copy).cls (m_y md_C_copy) (m_y md_C_copy) ∈ lw_tbl := ⟨List.mem_of_getElem? (i := 812) (by decide +kernel), List.mem_of_getElem? (i := 813) (by decide +kernel)⟩
def f_C_copy (N : Nat) (p1 : Int32) (p2 : Int32) (p3 : Int32) (p4 : Int32) (p5 : Int32) (a : aT) : Option (Int32 × aT) :=
  if (f_C_isBelow p1 4) = 0 then
    some ((-2), a)
  else
    if (f_C_isBelow p3 4) = 0 then
      some ((-2), a)
    else
      (f_H_isLost p1 a).bind fun q3 =>
        if q3 = 0 then
          (f_H_isLost p3 a).bind fun q4 =>
            if q4 = 0 then
              (f_H_formOf p1 a).bind fun q5 =>
                (f_H_formOf p3 a).bind fun q6 =>
                  if q5 = q6 then
                    (f_H_hasRun p1 p2 p5 a).bind fun q7 =>
                      if q7 = 0 then
                        (f_H_find 2 a).bind fun q8 =>
                          some (q8.1, q8.2)
                      else
                        (f_H_hasRun p3 p4 p5 a).bind fun q9 =>
                          if q9 = 0 then
                            (f_H_find 2 a).bind fun q10 =>
                              some (q10.1, q10.2)
                          else
                            (f_H_move N p1 p2 p3 p4 p5 a).bind fun q11 =>
                              some (1, q11.2)
                  else
                    (f_H_find 4 a).bind fun q12 =>
                      some (q12.1, q12.2)
            else
              (f_H_find 1 a).bind fun q13 =>
                some (q13.1, q13.2)
        else
          (f_H_find 1 a).bind fun q14 =>
            some (q14.1, q14.2)
set_option maxHeartbeats 4000000 in
set_option maxRecDepth 100000 in
theorem x_C_copy (E : eT) (N : Nat) (p1 : Int32) (p2 : Int32) (p3 : Int32) (p4 : Int32) (p5 : Int32) (a : aT) : XI qI E md_C_copy 0 [.ref 0, .int p1, .int p2, .int p3, .int p4, .int p5] [] a (f_C_copy N p1 p2 p3 p4 p5 a) := by
  refine XI_go (pc' := 2) (ls' := [.ref 0, .int p1, .int p2, .int p3, .int p4, .int p5]) (st' := [.int 4, .int p1]) (a' := a) [(.iload_n 1, 1, 1, .null), (.iconst 4, 1, 0, .int 4)] (by decide +kernel) rfl ?_
  refine XI_ST (As := [.int p1, .int 4]) (rest := []) (idx := 110) (by decide +kernel) ok_C_isBelow mv_C_isBelow (n := 2) ⟨lk_C_110, by decide +kernel⟩ rfl (Nat.le_of_ble_eq_true rfl) (Nat.le_of_ble_eq_true rfl) (qZ_h rfl) (x_C_isBelow E p1 4 a) ?_
  refine XI_br (c := (f_C_isBelow p1 4) = 0) (t := 16) (e := 8) (ls' := [.ref 0, .int p1, .int p2, .int p3, .int p4, .int p5]) (st' := []) (a' := a) [(.ifCond .eq 11, 3, 16, .null)] (by decide +kernel) rfl ?_ ?_
  · refine XI_go (pc' := 18) (ls' := [.ref 0, .int p1, .int p2, .int p3, .int p4, .int p5]) (st' := [.int (-2)]) (a' := a) [(.bipush (-2), 2, 0, .int (-2))] (by decide +kernel) rfl ?_
    exact XI_retI (by decide +kernel)
  · refine XI_go (pc' := 10) (ls' := [.ref 0, .int p1, .int p2, .int p3, .int p4, .int p5]) (st' := [.int 4, .int p3]) (a' := a) [(.iload_n 3, 1, 3, .null), (.iconst 4, 1, 0, .int 4)] (by decide +kernel) rfl ?_
    refine XI_ST (As := [.int p3, .int 4]) (rest := []) (idx := 110) (by decide +kernel) ok_C_isBelow mv_C_isBelow (n := 2) ⟨lk_C_110, by decide +kernel⟩ rfl (Nat.le_of_ble_eq_true rfl) (Nat.le_of_ble_eq_true rfl) (qZ_h rfl) (x_C_isBelow E p3 4 a) ?_
    refine XI_br (c := (f_C_isBelow p3 4) = 0) (t := 16) (e := 19) (ls' := [.ref 0, .int p1, .int p2, .int p3, .int p4, .int p5]) (st' := []) (a' := a) [(.ifCond .ne 6, 3, 19, .null)] (by decide +kernel) rfl ?_ ?_
    · refine XI_go (pc' := 18) (ls' := [.ref 0, .int p1, .int p2, .int p3, .int p4, .int p5]) (st' := [.int (-2)]) (a' := a) [(.bipush (-2), 2, 0, .int (-2))] (by decide +kernel) rfl ?_
      exact XI_retI (by decide +kernel)
    · refine XI_go (pc' := 24) (ls' := [.ref 0, .int p1, .int p2, .int p3, .int p4, .int p5]) (st' := [.int p1, .ref 27]) (a' := a) [(.aload_n 0, 1, 0, .null), (.getfield 79, 3, 1009, .null), (.iload_n 1, 1, 1, .null)] (by decide +kernel) rfl ?_
      refine XI_VP (As := [.int p1]) (rest := []) (b := 27) (idx := 114) (by decide +kernel) ok_H_isLost mv_H_isLost (n := 1) ⟨lk_C_114, by decide +kernel⟩ rfl rfl rfl rfl (Nat.le_of_ble_eq_true rfl) (Nat.le_of_ble_eq_true rfl) (qZ_h rfl) (x_H_isLost E p1 a) (fun q3 => ?_)
      refine XI_br (c := q3 = 0) (t := 30) (e := 41) (ls' := [.ref 0, .int p1, .int p2, .int p3, .int p4, .int p5]) (st' := []) (a' := a) [(.ifCond .ne 14, 3, 41, .null)] (by decide +kernel) rfl ?_ ?_
      · refine XI_go (pc' := 35) (ls' := [.ref 0, .int p1, .int p2, .int p3, .int p4, .int p5]) (st' := [.int p3, .ref 27]) (a' := a) [(.aload_n 0, 1, 0, .null), (.getfield 79, 3, 1009, .null), (.iload_n 3, 1, 3, .null)] (by decide +kernel) rfl ?_
        refine XI_VP (As := [.int p3]) (rest := []) (b := 27) (idx := 114) (by decide +kernel) ok_H_isLost mv_H_isLost (n := 1) ⟨lk_C_114, by decide +kernel⟩ rfl rfl rfl rfl (Nat.le_of_ble_eq_true rfl) (Nat.le_of_ble_eq_true rfl) (qZ_h rfl) (x_H_isLost E p3 a) (fun q4 => ?_)
        refine XI_br (c := q4 = 0) (t := 50) (e := 41) (ls' := [.ref 0, .int p1, .int p2, .int p3, .int p4, .int p5]) (st' := []) (a' := a) [(.ifCond .eq 12, 3, 50, .null)] (by decide +kernel) rfl ?_ ?_
        · refine XI_go (pc' := 55) (ls' := [.ref 0, .int p1, .int p2, .int p3, .int p4, .int p5]) (st' := [.int p1, .ref 27]) (a' := a) [(.aload_n 0, 1, 0, .null), (.getfield 79, 3, 1009, .null), (.iload_n 1, 1, 1, .null)] (by decide +kernel) rfl ?_
          refine XI_VP (As := [.int p1]) (rest := []) (b := 27) (idx := 252) (by decide +kernel) ok_H_formOf mv_H_formOf (n := 1) ⟨lk_C_252, by decide +kernel⟩ rfl rfl rfl rfl (Nat.le_of_ble_eq_true rfl) (Nat.le_of_ble_eq_true rfl) (qI_h rfl) (x_H_formOf E p1 a) (fun q5 => ?_)
          refine XI_go (pc' := 63) (ls' := [.ref 0, .int p1, .int p2, .int p3, .int p4, .int p5]) (st' := [.int p3, .ref 27, .int q5]) (a' := a) [(.aload_n 0, 1, 0, .null), (.getfield 79, 3, 1009, .null), (.iload_n 3, 1, 3, .null)] (by decide +kernel) rfl ?_
          refine XI_VP (As := [.int p3]) (rest := [.int q5]) (b := 27) (idx := 252) (by decide +kernel) ok_H_formOf mv_H_formOf (n := 1) ⟨lk_C_252, by decide +kernel⟩ rfl rfl rfl rfl (Nat.le_of_ble_eq_true rfl) (Nat.le_of_ble_eq_true rfl) (qI_h rfl) (x_H_formOf E p3 a) (fun q6 => ?_)
          refine XI_br (c := q5 = q6) (t := 78) (e := 69) (ls' := [.ref 0, .int p1, .int p2, .int p3, .int p4, .int p5]) (st' := []) (a' := a) [(.if_icmp .eq 12, 3, 78, .null)] (by decide +kernel) rfl ?_ ?_
          · refine XI_go (pc' := 86) (ls' := [.ref 0, .int p1, .int p2, .int p3, .int p4, .int p5]) (st' := [.int p5, .int p2, .int p1, .ref 27]) (a' := a) [(.aload_n 0, 1, 0, .null), (.getfield 79, 3, 1009, .null), (.iload_n 1, 1, 1, .null), (.iload_n 2, 1, 2, .null), (.iload 5, 2, 5, .null)] (by decide +kernel) rfl ?_
            refine XI_VP (As := [.int p1, .int p2, .int p5]) (rest := []) (b := 27) (idx := 255) (by decide +kernel) ok_H_hasRun mv_H_hasRun (n := 3) ⟨lk_C_255, by decide +kernel⟩ rfl rfl rfl rfl (Nat.le_of_ble_eq_true rfl) (Nat.le_of_ble_eq_true rfl) (qZ_h rfl) (x_H_hasRun E p1 p2 p5 a) (fun q7 => ?_)
            refine XI_br (c := q7 = 0) (t := 107) (e := 92) (ls' := [.ref 0, .int p1, .int p2, .int p3, .int p4, .int p5]) (st' := []) (a' := a) [(.ifCond .eq 18, 3, 107, .null)] (by decide +kernel) rfl ?_ ?_
            · refine XI_go (pc' := 112) (ls' := [.ref 0, .int p1, .int p2, .int p3, .int p4, .int p5]) (st' := [.int 2, .ref 27]) (a' := a) [(.aload_n 0, 1, 0, .null), (.getfield 79, 3, 1009, .null), (.iconst 2, 1, 0, .int 2)] (by decide +kernel) rfl ?_
              refine XI_VI (As := [.int 2]) (rest := []) (b := 27) (idx := 118) (by decide +kernel) ok_H_find mv_H_find (n := 1) ⟨lk_C_118, by decide +kernel⟩ rfl rfl rfl rfl (Nat.le_of_ble_eq_true rfl) (Nat.le_of_ble_eq_true rfl) (qI_h rfl) (x_H_find E 2 a) (fun q8 => ?_)
              exact XI_retI (by decide +kernel)
            · refine XI_go (pc' := 101) (ls' := [.ref 0, .int p1, .int p2, .int p3, .int p4, .int p5]) (st' := [.int p5, .int p4, .int p3, .ref 27]) (a' := a) [(.aload_n 0, 1, 0, .null), (.getfield 79, 3, 1009, .null), (.iload_n 3, 1, 3, .null), (.iload 4, 2, 4, .null), (.iload 5, 2, 5, .null)] (by decide +kernel) rfl ?_
              refine XI_VP (As := [.int p3, .int p4, .int p5]) (rest := []) (b := 27) (idx := 255) (by decide +kernel) ok_H_hasRun mv_H_hasRun (n := 3) ⟨lk_C_255, by decide +kernel⟩ rfl rfl rfl rfl (Nat.le_of_ble_eq_true rfl) (Nat.le_of_ble_eq_true rfl) (qZ_h rfl) (x_H_hasRun E p3 p4 p5 a) (fun q9 => ?_)
              refine XI_br (c := q9 = 0) (t := 107) (e := 116) (ls' := [.ref 0, .int p1, .int p2, .int p3, .int p4, .int p5]) (st' := []) (a' := a) [(.ifCond .ne 12, 3, 116, .null)] (by decide +kernel) rfl ?_ ?_
              · refine XI_go (pc' := 112) (ls' := [.ref 0, .int p1, .int p2, .int p3, .int p4, .int p5]) (st' := [.int 2, .ref 27]) (a' := a) [(.aload_n 0, 1, 0, .null), (.getfield 79, 3, 1009, .null), (.iconst 2, 1, 0, .int 2)] (by decide +kernel) rfl ?_
                refine XI_VI (As := [.int 2]) (rest := []) (b := 27) (idx := 118) (by decide +kernel) ok_H_find mv_H_find (n := 1) ⟨lk_C_118, by decide +kernel⟩ rfl rfl rfl rfl (Nat.le_of_ble_eq_true rfl) (Nat.le_of_ble_eq_true rfl) (qI_h rfl) (x_H_find E 2 a) (fun q10 => ?_)
                exact XI_retI (by decide +kernel)
              · refine XI_go (pc' := 127) (ls' := [.ref 0, .int p1, .int p2, .int p3, .int p4, .int p5]) (st' := [.int p5, .int p4, .int p3, .int p2, .int p1, .ref 27]) (a' := a) [(.aload_n 0, 1, 0, .null), (.getfield 79, 3, 1009, .null), (.iload_n 1, 1, 1, .null), (.iload_n 2, 1, 2, .null), (.iload_n 3, 1, 3, .null), (.iload 4, 2, 4, .null), (.iload 5, 2, 5, .null)] (by decide +kernel) rfl ?_
                refine XI_VI (As := [.int p1, .int p2, .int p3, .int p4, .int p5]) (rest := []) (b := 27) (idx := 259) (by decide +kernel) ok_H_move mv_H_move (n := 5) ⟨lk_C_259, by decide +kernel⟩ rfl rfl rfl rfl (Nat.le_of_ble_eq_true rfl) (Nat.le_of_ble_eq_true rfl) (qV_h rfl) (x_H_move E N p1 p2 p3 p4 p5 a) (fun q11 => ?_)
                refine XI_go (pc' := 131) (ls' := [.ref 0, .int p1, .int p2, .int p3, .int p4, .int p5]) (st' := [.int 1]) (a' := q11.2) [(.iconst 1, 1, 0, .int 1)] (by decide +kernel) rfl ?_
                exact XI_retI (by decide +kernel)
          · refine XI_go (pc' := 74) (ls' := [.ref 0, .int p1, .int p2, .int p3, .int p4, .int p5]) (st' := [.int 4, .ref 27]) (a' := a) [(.aload_n 0, 1, 0, .null), (.getfield 79, 3, 1009, .null), (.iconst 4, 1, 0, .int 4)] (by decide +kernel) rfl ?_
            refine XI_VI (As := [.int 4]) (rest := []) (b := 27) (idx := 118) (by decide +kernel) ok_H_find mv_H_find (n := 1) ⟨lk_C_118, by decide +kernel⟩ rfl rfl rfl rfl (Nat.le_of_ble_eq_true rfl) (Nat.le_of_ble_eq_true rfl) (qI_h rfl) (x_H_find E 4 a) (fun q12 => ?_)
            exact XI_retI (by decide +kernel)
        · refine XI_go (pc' := 46) (ls' := [.ref 0, .int p1, .int p2, .int p3, .int p4, .int p5]) (st' := [.int 1, .ref 27]) (a' := a) [(.aload_n 0, 1, 0, .null), (.getfield 79, 3, 1009, .null), (.iconst 1, 1, 0, .int 1)] (by decide +kernel) rfl ?_
          refine XI_VI (As := [.int 1]) (rest := []) (b := 27) (idx := 118) (by decide +kernel) ok_H_find mv_H_find (n := 1) ⟨lk_C_118, by decide +kernel⟩ rfl rfl rfl rfl (Nat.le_of_ble_eq_true rfl) (Nat.le_of_ble_eq_true rfl) (qI_h rfl) (x_H_find E 1 a) (fun q13 => ?_)
          exact XI_retI (by decide +kernel)
      · refine XI_go (pc' := 46) (ls' := [.ref 0, .int p1, .int p2, .int p3, .int p4, .int p5]) (st' := [.int 1, .ref 27]) (a' := a) [(.aload_n 0, 1, 0, .null), (.getfield 79, 3, 1009, .null), (.iconst 1, 1, 0, .int 1)] (by decide +kernel) rfl ?_
        refine XI_VI (As := [.int 1]) (rest := []) (b := 27) (idx := 118) (by decide +kernel) ok_H_find mv_H_find (n := 1) ⟨lk_C_118, by decide +kernel⟩ rfl rfl rfl rfl (Nat.le_of_ble_eq_true rfl) (Nat.le_of_ble_eq_true rfl) (qI_h rfl) (x_H_find E 1 a) (fun q14 => ?_)
        exact XI_retI (by decide +kernel)
/-! ChestnutSticksModel.copy(IIIII)I -/
def md_M_copy : md_T := (yX11_copy, cX11_copy, 7, (some .int), 2, 45)
set_option maxRecDepth 100000 in
theorem ok_M_copy : m_ok md_M_copy := ⟨List.mem_of_getElem? (i := 1032) (by decide +kernel), by decide +kernel, List.mem_of_getElem? (i := 64) (by decide +kernel), by decide +kernel⟩
theorem mv_M_copy : Cond.instanceMethod (m_y md_M_copy) ∈ lw_tbl ∧ Cond.selects (m_y md_M_copy).cls (m_y md_M_copy) (m_y md_M_copy) ∈ lw_tbl := ⟨List.mem_of_getElem? (i := 1030) (by decide +kernel), List.mem_of_getElem? (i := 1031) (by decide +kernel)⟩
def f_M_copy_157 (N : Nat) : Nat → Int32 → Int32 → Int32 → Int32 → aT → Option (Int32 × aT)
  | 0 => fun _ _ _ _ _ => none
  | n + 1 => fun x3 x4 x5 x6 a =>
    if x5 ≤ x6 then
      some (1, a)
    else
      if inb x6 60 then
        if inb (((60 * x3) + x4) + x6) 240 then
          f_M_copy_157 N n x3 x4 x5 (x6 + 1) (upA a 34 (ix (((60 * x3) + x4) + x6)) (a 35 (ix x6)))
        else none
      else none
def f_M_copy_120 (N : Nat) : Nat → Int32 → Int32 → Int32 → Int32 → Int32 → Int32 → aT → Option (Int32 × aT)
  | 0 => fun _ _ _ _ _ _ _ => none
  | n + 1 => fun x1 x2 x3 x4 x5 x6 a =>
    if x5 ≤ x6 then
      f_M_copy_157 N N x3 x4 x5 0 a
    else
      if inb (((60 * x1) + x2) + x6) 240 then
        if inb x6 60 then
          f_M_copy_120 N n x1 x2 x3 x4 x5 (x6 + 1) (upA a 35 (ix x6) (a 34 (ix (((60 * x1) + x2) + x6))))
        else none
      else none
def f_M_copy (N : Nat) (p1 : Int32) (p2 : Int32) (p3 : Int32) (p4 : Int32) (p5 : Int32) (a : aT) : Option (Int32 × aT) :=
  if (f_M_isSheet p1) = 0 then
    some ((-2), a)
  else
    if (f_M_isSheet p3) = 0 then
      some ((-2), a)
    else
      if inb p1 4 then
        if (a 32 (ix p1)) < 0 then
          (f_M_met 1 a).bind fun q3 =>
            some (q3.1, q3.2)
        else
          if inb p3 4 then
            if 0 ≤ (a 32 (ix p3)) then
              if inb p1 4 then
                if inb p3 4 then
                  if (a 32 (ix p1)) = (a 32 (ix p3)) then
                    if p2 < 0 then
                      (f_M_met 2 a).bind fun q4 =>
                        some (q4.1, q4.2)
                    else
                      if p4 < 0 then
                        (f_M_met 2 a).bind fun q5 =>
                          some (q5.1, q5.2)
                      else
                        if p5 < 0 then
                          (f_M_met 2 a).bind fun q6 =>
                            some (q6.1, q6.2)
                        else
                          if inb p1 4 then
                            if 0 < (lg_cmp (p2.toInt64 + p5.toInt64) (a 33 (ix p1)).toInt64) then
                              (f_M_met 2 a).bind fun q7 =>
                                some (q7.1, q7.2)
                            else
                              if inb p3 4 then
                                if (lg_cmp (p4.toInt64 + p5.toInt64) (a 33 (ix p3)).toInt64) ≤ 0 then
                                  f_M_copy_120 N N p1 p2 p3 p4 p5 0 a
                                else
                                  (f_M_met 2 a).bind fun q8 =>
                                    some (q8.1, q8.2)
                              else none
                          else none
                  else
                    (f_M_met 4 a).bind fun q9 =>
                      some (q9.1, q9.2)
                else none
              else none
            else
              (f_M_met 1 a).bind fun q10 =>
                some (q10.1, q10.2)
          else none
      else none
set_option maxHeartbeats 4000000 in
set_option maxRecDepth 100000 in
theorem x_M_copy_157 (E : eT) (N : Nat) : ∀ (n : Nat) (x3 : Int32) (x4 : Int32) (x5 : Int32) (x6 : Int32) (a : aT), XI qI E md_M_copy 157 [.ref 31, .null, .null, .int x3, .int x4, .int x5, .int x6] [] a (f_M_copy_157 N n x3 x4 x5 x6 a)
  | 0, _, _, _, _, _ => XI_no rfl
  | n + 1, x3, x4, x5, x6, a => by
    refine XI_br (c := x5 ≤ x6) (t := 192) (e := 164) (ls' := [.ref 31, .null, .null, .int x3, .int x4, .int x5, .int x6]) (st' := []) (a' := a) [(.iload 6, 2, 6, .null), (.iload 5, 2, 5, .null), (.if_icmp .ge 31, 3, 192, .null)] (by decide +kernel) rfl ?_ ?_
    · refine XI_go (pc' := 193) (ls' := [.ref 31, .null, .null, .int x3, .int x4, .int x5, .int x6]) (st' := [.int 1]) (a' := a) [(.iconst 1, 1, 0, .int 1)] (by decide +kernel) rfl ?_
      exact XI_retI (by decide +kernel)
    · refine XI_ck (c := inb x6 60) (pc' := 185) (ls' := [.ref 31, .null, .null, .int x3, .int x4, .int x5, .int x6]) (st' := [.int (a 35 (ix x6)), .int (((60 * x3) + x4) + x6), .ref 34]) (a' := a) [(.aload_n 0, 1, 0, .null), (.getfield 16, 3, 1102, .null), (.bipush 60, 2, 0, .int 60), (.iload_n 3, 1, 3, .null), (.imul, 1, 0, .null), (.iload 4, 2, 4, .null), (.iadd, 1, 0, .null), (.iload 6, 2, 6, .null), (.iadd, 1, 0, .null), (.aload_n 0, 1, 0, .null), (.getfield 19, 3, 1103, .null), (.iload 6, 2, 6, .null), (.iaload, 1, 0, .null)] (by decide +kernel) rfl ?_
      refine XI_ck (c := inb (((60 * x3) + x4) + x6) 240) (pc' := 186) (ls' := [.ref 31, .null, .null, .int x3, .int x4, .int x5, .int x6]) (st' := []) (a' := (upA a 34 (ix (((60 * x3) + x4) + x6)) (a 35 (ix x6)))) [(.iastore, 1, 0, .null)] (by decide +kernel) rfl ?_
      refine XI_go (pc' := 157) (ls' := [.ref 31, .null, .null, .int x3, .int x4, .int x5, .int (x6 + 1)]) (st' := []) (a' := (upA a 34 (ix (((60 * x3) + x4) + x6)) (a 35 (ix x6)))) [(.iinc 6 1, 3, 6, .int 1), (.goto (-32), 3, 157, .null)] (by decide +kernel) rfl ?_
      refine XI_fg [true, false, false, true, true, true, true] ?_
      exact x_M_copy_157 E N n x3 x4 x5 (x6 + 1) (upA a 34 (ix (((60 * x3) + x4) + x6)) (a 35 (ix x6)))
set_option maxHeartbeats 4000000 in
set_option maxRecDepth 100000 in
theorem x_M_copy_120 (E : eT) (N : Nat) : ∀ (n : Nat) (x1 : Int32) (x2 : Int32) (x3 : Int32) (x4 : Int32) (x5 : Int32) (x6 : Int32) (a : aT), XI qI E md_M_copy 120 [.ref 31, .int x1, .int x2, .int x3, .int x4, .int x5, .int x6] [] a (f_M_copy_120 N n x1 x2 x3 x4 x5 x6 a)
  | 0, _, _, _, _, _, _, _ => XI_no rfl
  | n + 1, x1, x2, x3, x4, x5, x6, a => by
    refine XI_br (c := x5 ≤ x6) (t := 154) (e := 127) (ls' := [.ref 31, .int x1, .int x2, .int x3, .int x4, .int x5, .int x6]) (st' := []) (a' := a) [(.iload 6, 2, 6, .null), (.iload 5, 2, 5, .null), (.if_icmp .ge 30, 3, 154, .null)] (by decide +kernel) rfl ?_ ?_
    · refine XI_go (pc' := 157) (ls' := [.ref 31, .int x1, .int x2, .int x3, .int x4, .int x5, .int 0]) (st' := []) (a' := a) [(.iconst 0, 1, 0, .int 0), (.istore 6, 2, 6, .null)] (by decide +kernel) rfl ?_
      refine XI_fg [true, false, false, true, true, true, true] ?_
      exact x_M_copy_157 E N N x3 x4 x5 0 a
    · refine XI_ck (c := inb (((60 * x1) + x2) + x6) 240) (pc' := 147) (ls' := [.ref 31, .int x1, .int x2, .int x3, .int x4, .int x5, .int x6]) (st' := [.int (a 34 (ix (((60 * x1) + x2) + x6))), .int x6, .ref 35]) (a' := a) [(.aload_n 0, 1, 0, .null), (.getfield 19, 3, 1103, .null), (.iload 6, 2, 6, .null), (.aload_n 0, 1, 0, .null), (.getfield 16, 3, 1102, .null), (.bipush 60, 2, 0, .int 60), (.iload_n 1, 1, 1, .null), (.imul, 1, 0, .null), (.iload_n 2, 1, 2, .null), (.iadd, 1, 0, .null), (.iload 6, 2, 6, .null), (.iadd, 1, 0, .null), (.iaload, 1, 0, .null)] (by decide +kernel) rfl ?_
      refine XI_ck (c := inb x6 60) (pc' := 148) (ls' := [.ref 31, .int x1, .int x2, .int x3, .int x4, .int x5, .int x6]) (st' := []) (a' := (upA a 35 (ix x6) (a 34 (ix (((60 * x1) + x2) + x6))))) [(.iastore, 1, 0, .null)] (by decide +kernel) rfl ?_
      refine XI_go (pc' := 120) (ls' := [.ref 31, .int x1, .int x2, .int x3, .int x4, .int x5, .int (x6 + 1)]) (st' := []) (a' := (upA a 35 (ix x6) (a 34 (ix (((60 * x1) + x2) + x6))))) [(.iinc 6 1, 3, 6, .int 1), (.goto (-31), 3, 120, .null)] (by decide +kernel) rfl ?_
      refine XI_fg [true, true, true, true, true, true, true] ?_
      exact x_M_copy_120 E N n x1 x2 x3 x4 x5 (x6 + 1) (upA a 35 (ix x6) (a 34 (ix (((60 * x1) + x2) + x6))))
set_option maxHeartbeats 4000000 in
set_option maxRecDepth 100000 in
theorem x_M_copy (E : eT) (N : Nat) (p1 : Int32) (p2 : Int32) (p3 : Int32) (p4 : Int32) (p5 : Int32) (a : aT) : XI qI E md_M_copy 0 [.ref 31, .int p1, .int p2, .int p3, .int p4, .int p5, .null] [] a (f_M_copy N p1 p2 p3 p4 p5 a) := by
  refine XI_go (pc' := 1) (ls' := [.ref 31, .int p1, .int p2, .int p3, .int p4, .int p5, .null]) (st' := [.int p1]) (a' := a) [(.iload_n 1, 1, 1, .null)] (by decide +kernel) rfl ?_
  refine XI_ST (As := [.int p1]) (rest := []) (idx := 83) (by decide +kernel) ok_M_isSheet mv_M_isSheet (n := 1) ⟨lk_M_83, by decide +kernel⟩ rfl (Nat.le_of_ble_eq_true rfl) (Nat.le_of_ble_eq_true rfl) (qZ_h rfl) (x_M_isSheet E p1 a) ?_
  refine XI_br (c := (f_M_isSheet p1) = 0) (t := 14) (e := 7) (ls' := [.ref 31, .int p1, .int p2, .int p3, .int p4, .int p5, .null]) (st' := []) (a' := a) [(.ifCond .eq 10, 3, 14, .null)] (by decide +kernel) rfl ?_ ?_
  · refine XI_go (pc' := 16) (ls' := [.ref 31, .int p1, .int p2, .int p3, .int p4, .int p5, .null]) (st' := [.int (-2)]) (a' := a) [(.bipush (-2), 2, 0, .int (-2))] (by decide +kernel) rfl ?_
    exact XI_retI (by decide +kernel)
  · refine XI_go (pc' := 8) (ls' := [.ref 31, .int p1, .int p2, .int p3, .int p4, .int p5, .null]) (st' := [.int p3]) (a' := a) [(.iload_n 3, 1, 3, .null)] (by decide +kernel) rfl ?_
    refine XI_ST (As := [.int p3]) (rest := []) (idx := 83) (by decide +kernel) ok_M_isSheet mv_M_isSheet (n := 1) ⟨lk_M_83, by decide +kernel⟩ rfl (Nat.le_of_ble_eq_true rfl) (Nat.le_of_ble_eq_true rfl) (qZ_h rfl) (x_M_isSheet E p3 a) ?_
    refine XI_br (c := (f_M_isSheet p3) = 0) (t := 14) (e := 17) (ls' := [.ref 31, .int p1, .int p2, .int p3, .int p4, .int p5, .null]) (st' := []) (a' := a) [(.ifCond .ne 6, 3, 17, .null)] (by decide +kernel) rfl ?_ ?_
    · refine XI_go (pc' := 16) (ls' := [.ref 31, .int p1, .int p2, .int p3, .int p4, .int p5, .null]) (st' := [.int (-2)]) (a' := a) [(.bipush (-2), 2, 0, .int (-2))] (by decide +kernel) rfl ?_
      exact XI_retI (by decide +kernel)
    · refine XI_ck (c := inb p1 4) (pc' := 23) (ls' := [.ref 31, .int p1, .int p2, .int p3, .int p4, .int p5, .null]) (st' := [.int (a 32 (ix p1))]) (a' := a) [(.aload_n 0, 1, 0, .null), (.getfield 7, 3, 1100, .null), (.iload_n 1, 1, 1, .null), (.iaload, 1, 0, .null)] (by decide +kernel) rfl ?_
      refine XI_br (c := (a 32 (ix p1)) < 0) (t := 35) (e := 26) (ls' := [.ref 31, .int p1, .int p2, .int p3, .int p4, .int p5, .null]) (st' := []) (a' := a) [(.ifCond .lt 12, 3, 35, .null)] (by decide +kernel) rfl ?_ ?_
      · refine XI_go (pc' := 37) (ls' := [.ref 31, .int p1, .int p2, .int p3, .int p4, .int p5, .null]) (st' := [.int 1, .ref 31]) (a' := a) [(.aload_n 0, 1, 0, .null), (.iconst 1, 1, 0, .int 1)] (by decide +kernel) rfl ?_
        refine XI_VI (As := [.int 1]) (rest := []) (b := 31) (idx := 89) (by decide +kernel) ok_M_met mv_M_met (n := 1) ⟨lk_M_89, by decide +kernel⟩ rfl rfl rfl rfl (Nat.le_of_ble_eq_true rfl) (Nat.le_of_ble_eq_true rfl) (qI_h rfl) (x_M_met E 1 a) (fun q3 => ?_)
        exact XI_retI (by decide +kernel)
      · refine XI_ck (c := inb p3 4) (pc' := 32) (ls' := [.ref 31, .int p1, .int p2, .int p3, .int p4, .int p5, .null]) (st' := [.int (a 32 (ix p3))]) (a' := a) [(.aload_n 0, 1, 0, .null), (.getfield 7, 3, 1100, .null), (.iload_n 3, 1, 3, .null), (.iaload, 1, 0, .null)] (by decide +kernel) rfl ?_
        refine XI_br (c := 0 ≤ (a 32 (ix p3))) (t := 41) (e := 35) (ls' := [.ref 31, .int p1, .int p2, .int p3, .int p4, .int p5, .null]) (st' := []) (a' := a) [(.ifCond .ge 9, 3, 41, .null)] (by decide +kernel) rfl ?_ ?_
        · refine XI_ck (c := inb p1 4) (pc' := 47) (ls' := [.ref 31, .int p1, .int p2, .int p3, .int p4, .int p5, .null]) (st' := [.int (a 32 (ix p1))]) (a' := a) [(.aload_n 0, 1, 0, .null), (.getfield 7, 3, 1100, .null), (.iload_n 1, 1, 1, .null), (.iaload, 1, 0, .null)] (by decide +kernel) rfl ?_
          refine XI_ck (c := inb p3 4) (pc' := 53) (ls' := [.ref 31, .int p1, .int p2, .int p3, .int p4, .int p5, .null]) (st' := [.int (a 32 (ix p3)), .int (a 32 (ix p1))]) (a' := a) [(.aload_n 0, 1, 0, .null), (.getfield 7, 3, 1100, .null), (.iload_n 3, 1, 3, .null), (.iaload, 1, 0, .null)] (by decide +kernel) rfl ?_
          refine XI_br (c := (a 32 (ix p1)) = (a 32 (ix p3))) (t := 62) (e := 56) (ls' := [.ref 31, .int p1, .int p2, .int p3, .int p4, .int p5, .null]) (st' := []) (a' := a) [(.if_icmp .eq 9, 3, 62, .null)] (by decide +kernel) rfl ?_ ?_
          · refine XI_br (c := p2 < 0) (t := 111) (e := 66) (ls' := [.ref 31, .int p1, .int p2, .int p3, .int p4, .int p5, .null]) (st' := []) (a' := a) [(.iload_n 2, 1, 2, .null), (.ifCond .lt 48, 3, 111, .null)] (by decide +kernel) rfl ?_ ?_
            · refine XI_go (pc' := 113) (ls' := [.ref 31, .int p1, .int p2, .int p3, .int p4, .int p5, .null]) (st' := [.int 2, .ref 31]) (a' := a) [(.aload_n 0, 1, 0, .null), (.iconst 2, 1, 0, .int 2)] (by decide +kernel) rfl ?_
              refine XI_VI (As := [.int 2]) (rest := []) (b := 31) (idx := 89) (by decide +kernel) ok_M_met mv_M_met (n := 1) ⟨lk_M_89, by decide +kernel⟩ rfl rfl rfl rfl (Nat.le_of_ble_eq_true rfl) (Nat.le_of_ble_eq_true rfl) (qI_h rfl) (x_M_met E 2 a) (fun q4 => ?_)
              exact XI_retI (by decide +kernel)
            · refine XI_br (c := p4 < 0) (t := 111) (e := 71) (ls' := [.ref 31, .int p1, .int p2, .int p3, .int p4, .int p5, .null]) (st' := []) (a' := a) [(.iload 4, 2, 4, .null), (.ifCond .lt 43, 3, 111, .null)] (by decide +kernel) rfl ?_ ?_
              · refine XI_go (pc' := 113) (ls' := [.ref 31, .int p1, .int p2, .int p3, .int p4, .int p5, .null]) (st' := [.int 2, .ref 31]) (a' := a) [(.aload_n 0, 1, 0, .null), (.iconst 2, 1, 0, .int 2)] (by decide +kernel) rfl ?_
                refine XI_VI (As := [.int 2]) (rest := []) (b := 31) (idx := 89) (by decide +kernel) ok_M_met mv_M_met (n := 1) ⟨lk_M_89, by decide +kernel⟩ rfl rfl rfl rfl (Nat.le_of_ble_eq_true rfl) (Nat.le_of_ble_eq_true rfl) (qI_h rfl) (x_M_met E 2 a) (fun q5 => ?_)
                exact XI_retI (by decide +kernel)
              · refine XI_br (c := p5 < 0) (t := 111) (e := 76) (ls' := [.ref 31, .int p1, .int p2, .int p3, .int p4, .int p5, .null]) (st' := []) (a' := a) [(.iload 5, 2, 5, .null), (.ifCond .lt 38, 3, 111, .null)] (by decide +kernel) rfl ?_ ?_
                · refine XI_go (pc' := 113) (ls' := [.ref 31, .int p1, .int p2, .int p3, .int p4, .int p5, .null]) (st' := [.int 2, .ref 31]) (a' := a) [(.aload_n 0, 1, 0, .null), (.iconst 2, 1, 0, .int 2)] (by decide +kernel) rfl ?_
                  refine XI_VI (As := [.int 2]) (rest := []) (b := 31) (idx := 89) (by decide +kernel) ok_M_met mv_M_met (n := 1) ⟨lk_M_89, by decide +kernel⟩ rfl rfl rfl rfl (Nat.le_of_ble_eq_true rfl) (Nat.le_of_ble_eq_true rfl) (qI_h rfl) (x_M_met E 2 a) (fun q6 => ?_)
                  exact XI_retI (by decide +kernel)
                · refine XI_ck (c := inb p1 4) (pc' := 88) (ls' := [.ref 31, .int p1, .int p2, .int p3, .int p4, .int p5, .null]) (st' := [.int (a 33 (ix p1)), .long (p2.toInt64 + p5.toInt64)]) (a' := a) [(.iload_n 2, 1, 2, .null), (.i2l, 1, 0, .null), (.iload 5, 2, 5, .null), (.i2l, 1, 0, .null), (.ladd, 1, 0, .null), (.aload_n 0, 1, 0, .null), (.getfield 13, 3, 1101, .null), (.iload_n 1, 1, 1, .null), (.iaload, 1, 0, .null)] (by decide +kernel) rfl ?_
                  refine XI_br (c := 0 < (lg_cmp (p2.toInt64 + p5.toInt64) (a 33 (ix p1)).toInt64)) (t := 111) (e := 93) (ls' := [.ref 31, .int p1, .int p2, .int p3, .int p4, .int p5, .null]) (st' := []) (a' := a) [(.i2l, 1, 0, .null), (.lcmp, 1, 0, .null), (.ifCond .gt 21, 3, 111, .null)] (by decide +kernel) rfl ?_ ?_
                  · refine XI_go (pc' := 113) (ls' := [.ref 31, .int p1, .int p2, .int p3, .int p4, .int p5, .null]) (st' := [.int 2, .ref 31]) (a' := a) [(.aload_n 0, 1, 0, .null), (.iconst 2, 1, 0, .int 2)] (by decide +kernel) rfl ?_
                    refine XI_VI (As := [.int 2]) (rest := []) (b := 31) (idx := 89) (by decide +kernel) ok_M_met mv_M_met (n := 1) ⟨lk_M_89, by decide +kernel⟩ rfl rfl rfl rfl (Nat.le_of_ble_eq_true rfl) (Nat.le_of_ble_eq_true rfl) (qI_h rfl) (x_M_met E 2 a) (fun q7 => ?_)
                    exact XI_retI (by decide +kernel)
                  · refine XI_ck (c := inb p3 4) (pc' := 106) (ls' := [.ref 31, .int p1, .int p2, .int p3, .int p4, .int p5, .null]) (st' := [.int (a 33 (ix p3)), .long (p4.toInt64 + p5.toInt64)]) (a' := a) [(.iload 4, 2, 4, .null), (.i2l, 1, 0, .null), (.iload 5, 2, 5, .null), (.i2l, 1, 0, .null), (.ladd, 1, 0, .null), (.aload_n 0, 1, 0, .null), (.getfield 13, 3, 1101, .null), (.iload_n 3, 1, 3, .null), (.iaload, 1, 0, .null)] (by decide +kernel) rfl ?_
                    refine XI_br (c := (lg_cmp (p4.toInt64 + p5.toInt64) (a 33 (ix p3)).toInt64) ≤ 0) (t := 117) (e := 111) (ls' := [.ref 31, .int p1, .int p2, .int p3, .int p4, .int p5, .null]) (st' := []) (a' := a) [(.i2l, 1, 0, .null), (.lcmp, 1, 0, .null), (.ifCond .le 9, 3, 117, .null)] (by decide +kernel) rfl ?_ ?_
                    · refine XI_go (pc' := 120) (ls' := [.ref 31, .int p1, .int p2, .int p3, .int p4, .int p5, .int 0]) (st' := []) (a' := a) [(.iconst 0, 1, 0, .int 0), (.istore 6, 2, 6, .null)] (by decide +kernel) rfl ?_
                      refine XI_fg [true, true, true, true, true, true, true] ?_
                      exact x_M_copy_120 E N N p1 p2 p3 p4 p5 0 a
                    · refine XI_go (pc' := 113) (ls' := [.ref 31, .int p1, .int p2, .int p3, .int p4, .int p5, .null]) (st' := [.int 2, .ref 31]) (a' := a) [(.aload_n 0, 1, 0, .null), (.iconst 2, 1, 0, .int 2)] (by decide +kernel) rfl ?_
                      refine XI_VI (As := [.int 2]) (rest := []) (b := 31) (idx := 89) (by decide +kernel) ok_M_met mv_M_met (n := 1) ⟨lk_M_89, by decide +kernel⟩ rfl rfl rfl rfl (Nat.le_of_ble_eq_true rfl) (Nat.le_of_ble_eq_true rfl) (qI_h rfl) (x_M_met E 2 a) (fun q8 => ?_)
                      exact XI_retI (by decide +kernel)
          · refine XI_go (pc' := 58) (ls' := [.ref 31, .int p1, .int p2, .int p3, .int p4, .int p5, .null]) (st' := [.int 4, .ref 31]) (a' := a) [(.aload_n 0, 1, 0, .null), (.iconst 4, 1, 0, .int 4)] (by decide +kernel) rfl ?_
            refine XI_VI (As := [.int 4]) (rest := []) (b := 31) (idx := 89) (by decide +kernel) ok_M_met mv_M_met (n := 1) ⟨lk_M_89, by decide +kernel⟩ rfl rfl rfl rfl (Nat.le_of_ble_eq_true rfl) (Nat.le_of_ble_eq_true rfl) (qI_h rfl) (x_M_met E 4 a) (fun q9 => ?_)
            exact XI_retI (by decide +kernel)
        · refine XI_go (pc' := 37) (ls' := [.ref 31, .int p1, .int p2, .int p3, .int p4, .int p5, .null]) (st' := [.int 1, .ref 31]) (a' := a) [(.aload_n 0, 1, 0, .null), (.iconst 1, 1, 0, .int 1)] (by decide +kernel) rfl ?_
          refine XI_VI (As := [.int 1]) (rest := []) (b := 31) (idx := 89) (by decide +kernel) ok_M_met mv_M_met (n := 1) ⟨lk_M_89, by decide +kernel⟩ rfl rfl rfl rfl (Nat.le_of_ble_eq_true rfl) (Nat.le_of_ble_eq_true rfl) (qI_h rfl) (x_M_met E 1 a) (fun q10 => ?_)
          exact XI_retI (by decide +kernel)
/-! ChestnutSticks.write(I)I -/
def md_C_write : md_T := (yX10_write, cX10_write, 4, (some .int), 6, 142)
set_option maxRecDepth 100000 in
theorem ok_C_write : m_ok md_C_write := ⟨List.mem_of_getElem? (i := 829) (by decide +kernel), by decide +kernel, List.mem_of_getElem? (i := 53) (by decide +kernel), by decide +kernel⟩
theorem mv_C_write : Cond.instanceMethod (m_y md_C_write) ∈ lw_tbl ∧ Cond.selects (m_y md_C_write).cls (m_y md_C_write) (m_y md_C_write) ∈ lw_tbl := ⟨List.mem_of_getElem? (i := 827) (by decide +kernel), List.mem_of_getElem? (i := 828) (by decide +kernel)⟩
def f_C_write_59 (N : Nat) : Nat → Int32 → Int32 → Int32 → aT → Option (Int32 × aT)
  | 0 => fun _ _ _ _ => none
  | n + 1 => fun x1 x2 x3 a =>
    if x2 ≤ x3 then
      some (x2, a)
    else
      (f_P_broughtBy x3 a).bind fun q8 =>
        (f_H_put x1 x3 q8 a).bind fun q9 =>
          f_C_write_59 N n x1 x2 (x3 + 1) q9.2
def f_C_write (N : Nat) (p1 : Int32) (a : aT) : Option (Int32 × aT) :=
  if (f_C_isBelow p1 4) = 0 then
    some ((-2), a)
  else
    (f_H_isLost p1 a).bind fun q2 =>
      if q2 = 0 then
        (f_P_replayAll N a).bind fun q3 =>
          (f_H_sizeOf p1 q3.2).bind fun q4 =>
            f_C_write_59 N N p1 (f_J_min q4 (f_O_size q3.2)) 0 q3.2
      else
        (f_H_find 1 a).bind fun q7 =>
          some (q7.1, q7.2)
set_option maxHeartbeats 4000000 in
set_option maxRecDepth 100000 in
theorem x_C_write_59 (E : eT) (N : Nat) : ∀ (n : Nat) (x1 : Int32) (x2 : Int32) (x3 : Int32) (a : aT), XI qI E md_C_write 59 [.ref 0, .int x1, .int x2, .int x3] [] a (f_C_write_59 N n x1 x2 x3 a)
  | 0, _, _, _, _ => XI_no rfl
  | n + 1, x1, x2, x3, a => by
    refine XI_br (c := x2 ≤ x3) (t := 87) (e := 64) (ls' := [.ref 0, .int x1, .int x2, .int x3]) (st' := []) (a' := a) [(.iload_n 3, 1, 3, .null), (.iload_n 2, 1, 2, .null), (.if_icmp .ge 26, 3, 87, .null)] (by decide +kernel) rfl ?_ ?_
    · refine XI_go (pc' := 88) (ls' := [.ref 0, .int x1, .int x2, .int x3]) (st' := [.int x2]) (a' := a) [(.iload_n 2, 1, 2, .null)] (by decide +kernel) rfl ?_
      exact XI_retI (by decide +kernel)
    · refine XI_go (pc' := 75) (ls' := [.ref 0, .int x1, .int x2, .int x3]) (st' := [.int x3, .ref 14, .int x3, .int x1, .ref 27]) (a' := a) [(.aload_n 0, 1, 0, .null), (.getfield 79, 3, 1009, .null), (.iload_n 1, 1, 1, .null), (.iload_n 3, 1, 3, .null), (.aload_n 0, 1, 0, .null), (.getfield 49, 3, 1005, .null), (.iload_n 3, 1, 3, .null)] (by decide +kernel) rfl ?_
      refine XI_VP (As := [.int x3]) (rest := [.int x3, .int x1, .ref 27]) (b := 14) (idx := 163) (by decide +kernel) ok_P_broughtBy mv_P_broughtBy (n := 1) ⟨lk_C_163, by decide +kernel⟩ rfl rfl rfl rfl (Nat.le_of_ble_eq_true rfl) (Nat.le_of_ble_eq_true rfl) (qI_h rfl) (x_P_broughtBy E x3 a) (fun q8 => ?_)
      refine XI_VI (As := [.int x1, .int x3, .int q8]) (rest := []) (b := 27) (idx := 248) (by decide +kernel) ok_H_put mv_H_put (n := 3) ⟨lk_C_248, by decide +kernel⟩ rfl rfl rfl rfl (Nat.le_of_ble_eq_true rfl) (Nat.le_of_ble_eq_true rfl) (qV_h rfl) (x_H_put E x1 x3 q8 a) (fun q9 => ?_)
      refine XI_go (pc' := 59) (ls' := [.ref 0, .int x1, .int x2, .int (x3 + 1)]) (st' := []) (a' := q9.2) [(.iinc 3 1, 3, 3, .int 1), (.goto (-25), 3, 59, .null)] (by decide +kernel) rfl ?_
      refine XI_fg [true, true, true, true] ?_
      exact x_C_write_59 E N n x1 x2 (x3 + 1) q9.2
set_option maxHeartbeats 4000000 in
set_option maxRecDepth 100000 in
theorem x_C_write (E : eT) (N : Nat) (p1 : Int32) (a : aT) : XI qI E md_C_write 0 [.ref 0, .int p1, .null, .null] [] a (f_C_write N p1 a) := by
  refine XI_go (pc' := 2) (ls' := [.ref 0, .int p1, .null, .null]) (st' := [.int 4, .int p1]) (a' := a) [(.iload_n 1, 1, 1, .null), (.iconst 4, 1, 0, .int 4)] (by decide +kernel) rfl ?_
  refine XI_ST (As := [.int p1, .int 4]) (rest := []) (idx := 110) (by decide +kernel) ok_C_isBelow mv_C_isBelow (n := 2) ⟨lk_C_110, by decide +kernel⟩ rfl (Nat.le_of_ble_eq_true rfl) (Nat.le_of_ble_eq_true rfl) (qZ_h rfl) (x_C_isBelow E p1 4 a) ?_
  refine XI_br (c := (f_C_isBelow p1 4) = 0) (t := 8) (e := 11) (ls' := [.ref 0, .int p1, .null, .null]) (st' := []) (a' := a) [(.ifCond .ne 6, 3, 11, .null)] (by decide +kernel) rfl ?_ ?_
  · refine XI_go (pc' := 10) (ls' := [.ref 0, .int p1, .null, .null]) (st' := [.int (-2)]) (a' := a) [(.bipush (-2), 2, 0, .int (-2))] (by decide +kernel) rfl ?_
    exact XI_retI (by decide +kernel)
  · refine XI_go (pc' := 16) (ls' := [.ref 0, .int p1, .null, .null]) (st' := [.int p1, .ref 27]) (a' := a) [(.aload_n 0, 1, 0, .null), (.getfield 79, 3, 1009, .null), (.iload_n 1, 1, 1, .null)] (by decide +kernel) rfl ?_
    refine XI_VP (As := [.int p1]) (rest := []) (b := 27) (idx := 114) (by decide +kernel) ok_H_isLost mv_H_isLost (n := 1) ⟨lk_C_114, by decide +kernel⟩ rfl rfl rfl rfl (Nat.le_of_ble_eq_true rfl) (Nat.le_of_ble_eq_true rfl) (qZ_h rfl) (x_H_isLost E p1 a) (fun q2 => ?_)
    refine XI_br (c := q2 = 0) (t := 31) (e := 22) (ls' := [.ref 0, .int p1, .null, .null]) (st' := []) (a' := a) [(.ifCond .eq 12, 3, 31, .null)] (by decide +kernel) rfl ?_ ?_
    · refine XI_go (pc' := 35) (ls' := [.ref 0, .int p1, .null, .null]) (st' := [.ref 14]) (a' := a) [(.aload_n 0, 1, 0, .null), (.getfield 49, 3, 1005, .null)] (by decide +kernel) rfl ?_
      refine XI_VI (As := []) (rest := []) (b := 14) (idx := 135) (by decide +kernel) ok_P_replayAll mv_P_replayAll (n := 0) ⟨lk_C_135, by decide +kernel⟩ rfl rfl rfl rfl (Nat.le_of_ble_eq_true rfl) (Nat.le_of_ble_eq_true rfl) (qV_h rfl) (x_P_replayAll E N a) (fun q3 => ?_)
      refine XI_go (pc' := 43) (ls' := [.ref 0, .int p1, .null, .null]) (st' := [.int p1, .ref 27]) (a' := q3.2) [(.aload_n 0, 1, 0, .null), (.getfield 79, 3, 1009, .null), (.iload_n 1, 1, 1, .null)] (by decide +kernel) rfl ?_
      refine XI_VP (As := [.int p1]) (rest := []) (b := 27) (idx := 121) (by decide +kernel) ok_H_sizeOf mv_H_sizeOf (n := 1) ⟨lk_C_121, by decide +kernel⟩ rfl rfl rfl rfl (Nat.le_of_ble_eq_true rfl) (Nat.le_of_ble_eq_true rfl) (qI_h rfl) (x_H_sizeOf E p1 q3.2) (fun q4 => ?_)
      refine XI_go (pc' := 50) (ls' := [.ref 0, .int p1, .null, .null]) (st' := [.ref 10, .int q4]) (a' := q3.2) [(.aload_n 0, 1, 0, .null), (.getfield 40, 3, 1004, .null)] (by decide +kernel) rfl ?_
      refine XI_VT (As := []) (rest := [.int q4]) (b := 10) (idx := 141) (by decide +kernel) ok_O_size mv_O_size (n := 0) ⟨lk_C_141, by decide +kernel⟩ rfl rfl rfl rfl (Nat.le_of_ble_eq_true rfl) (Nat.le_of_ble_eq_true rfl) (qI_h rfl) (x_O_size E q3.2) ?_
      refine XI_ST (As := [.int q4, .int (f_O_size q3.2)]) (rest := []) (idx := 124) (by decide +kernel) ok_J_min mv_J_min (n := 2) ⟨lk_C_124, by decide +kernel⟩ rfl (Nat.le_of_ble_eq_true rfl) (Nat.le_of_ble_eq_true rfl) (qI_h rfl) (x_J_min E q4 (f_O_size q3.2) q3.2) ?_
      refine XI_go (pc' := 59) (ls' := [.ref 0, .int p1, .int (f_J_min q4 (f_O_size q3.2)), .int 0]) (st' := []) (a' := q3.2) [(.istore_n 2, 1, 2, .null), (.iconst 0, 1, 0, .int 0), (.istore_n 3, 1, 3, .null)] (by decide +kernel) rfl ?_
      refine XI_fg [true, true, true, true] ?_
      exact x_C_write_59 E N N p1 (f_J_min q4 (f_O_size q3.2)) 0 q3.2
    · refine XI_go (pc' := 27) (ls' := [.ref 0, .int p1, .null, .null]) (st' := [.int 1, .ref 27]) (a' := a) [(.aload_n 0, 1, 0, .null), (.getfield 79, 3, 1009, .null), (.iconst 1, 1, 0, .int 1)] (by decide +kernel) rfl ?_
      refine XI_VI (As := [.int 1]) (rest := []) (b := 27) (idx := 118) (by decide +kernel) ok_H_find mv_H_find (n := 1) ⟨lk_C_118, by decide +kernel⟩ rfl rfl rfl rfl (Nat.le_of_ble_eq_true rfl) (Nat.le_of_ble_eq_true rfl) (qI_h rfl) (x_H_find E 1 a) (fun q7 => ?_)
      exact XI_retI (by decide +kernel)
/-! ChestnutSticksModel.write(I)I -/
def md_M_write : md_T := (yX11_write, cX11_write, 4, (some .int), 7, 158)
set_option maxRecDepth 100000 in
theorem ok_M_write : m_ok md_M_write := ⟨List.mem_of_getElem? (i := 1331) (by decide +kernel), by decide +kernel, List.mem_of_getElem? (i := 64) (by decide +kernel), by decide +kernel⟩
theorem mv_M_write : Cond.instanceMethod (m_y md_M_write) ∈ lw_tbl ∧ Cond.selects (m_y md_M_write).cls (m_y md_M_write) (m_y md_M_write) ∈ lw_tbl := ⟨List.mem_of_getElem? (i := 1329) (by decide +kernel), List.mem_of_getElem? (i := 1330) (by decide +kernel)⟩
def f_M_write_58 (N : Nat) : Nat → Int32 → Int32 → Int32 → aT → Option (Int32 × aT)
  | 0 => fun _ _ _ _ => none
  | n + 1 => fun x1 x2 x3 a =>
    if x2 ≤ x3 then
      some (x2, a)
    else
      if inb x1 4 then
        if inb x3 20 then
          if inb ((60 * x1) + x3) 240 then
            f_M_write_58 N n x1 x2 (x3 + 1) (upA a 34 (ix ((60 * x1) + x3)) (f_M_cut (a 32 (ix x1)) (a 48 (ix x3))))
          else none
        else none
      else none
def f_M_write (N : Nat) (p1 : Int32) (a : aT) : Option (Int32 × aT) :=
  if (f_M_isSheet p1) = 0 then
    some ((-2), a)
  else
    if inb p1 4 then
      if 0 ≤ (a 32 (ix p1)) then
        (f_M_find N a).bind fun q2 =>
          if inb p1 4 then
            if (q2.2 31 18) ≤ (q2.2 33 (ix p1)) then
              f_M_write_58 N N p1 (q2.2 31 18) 0 q2.2
            else
              if inb p1 4 then
                f_M_write_58 N N p1 (q2.2 33 (ix p1)) 0 q2.2
              else none
          else none
      else
        (f_M_met 1 a).bind fun q3 =>
          some (q3.1, q3.2)
    else none
set_option maxHeartbeats 4000000 in
set_option maxRecDepth 100000 in
theorem x_M_write_58 (E : eT) (N : Nat) : ∀ (n : Nat) (x1 : Int32) (x2 : Int32) (x3 : Int32) (a : aT), XI qI E md_M_write 58 [.ref 31, .int x1, .int x2, .int x3] [] a (f_M_write_58 N n x1 x2 x3 a)
  | 0, _, _, _, _ => XI_no rfl
  | n + 1, x1, x2, x3, a => by
    refine XI_br (c := x2 ≤ x3) (t := 95) (e := 63) (ls' := [.ref 31, .int x1, .int x2, .int x3]) (st' := []) (a' := a) [(.iload_n 3, 1, 3, .null), (.iload_n 2, 1, 2, .null), (.if_icmp .ge 35, 3, 95, .null)] (by decide +kernel) rfl ?_ ?_
    · refine XI_go (pc' := 96) (ls' := [.ref 31, .int x1, .int x2, .int x3]) (st' := [.int x2]) (a' := a) [(.iload_n 2, 1, 2, .null)] (by decide +kernel) rfl ?_
      exact XI_retI (by decide +kernel)
    · refine XI_ck (c := inb x1 4) (pc' := 79) (ls' := [.ref 31, .int x1, .int x2, .int x3]) (st' := [.int (a 32 (ix x1)), .int ((60 * x1) + x3), .ref 34]) (a' := a) [(.aload_n 0, 1, 0, .null), (.getfield 16, 3, 1102, .null), (.bipush 60, 2, 0, .int 60), (.iload_n 1, 1, 1, .null), (.imul, 1, 0, .null), (.iload_n 3, 1, 3, .null), (.iadd, 1, 0, .null), (.aload_n 0, 1, 0, .null), (.getfield 7, 3, 1100, .null), (.iload_n 1, 1, 1, .null), (.iaload, 1, 0, .null)] (by decide +kernel) rfl ?_
      refine XI_ck (c := inb x3 20) (pc' := 85) (ls' := [.ref 31, .int x1, .int x2, .int x3]) (st' := [.int (a 48 (ix x3)), .int (a 32 (ix x1)), .int ((60 * x1) + x3), .ref 34]) (a' := a) [(.aload_n 0, 1, 0, .null), (.getfield 59, 3, 1123, .null), (.iload_n 3, 1, 3, .null), (.iaload, 1, 0, .null)] (by decide +kernel) rfl ?_
      refine XI_ST (As := [.int (a 32 (ix x1)), .int (a 48 (ix x3))]) (rest := [.int ((60 * x1) + x3), .ref 34]) (idx := 97) (by decide +kernel) ok_M_cut mv_M_cut (n := 2) ⟨lk_M_97, by decide +kernel⟩ rfl (Nat.le_of_ble_eq_true rfl) (Nat.le_of_ble_eq_true rfl) (qI_h rfl) (x_M_cut E (a 32 (ix x1)) (a 48 (ix x3)) a) ?_
      refine XI_ck (c := inb ((60 * x1) + x3) 240) (pc' := 89) (ls' := [.ref 31, .int x1, .int x2, .int x3]) (st' := []) (a' := (upA a 34 (ix ((60 * x1) + x3)) (f_M_cut (a 32 (ix x1)) (a 48 (ix x3))))) [(.iastore, 1, 0, .null)] (by decide +kernel) rfl ?_
      refine XI_go (pc' := 58) (ls' := [.ref 31, .int x1, .int x2, .int (x3 + 1)]) (st' := []) (a' := (upA a 34 (ix ((60 * x1) + x3)) (f_M_cut (a 32 (ix x1)) (a 48 (ix x3))))) [(.iinc 3 1, 3, 3, .int 1), (.goto (-34), 3, 58, .null)] (by decide +kernel) rfl ?_
      refine XI_fg [true, true, true, true] ?_
      exact x_M_write_58 E N n x1 x2 (x3 + 1) (upA a 34 (ix ((60 * x1) + x3)) (f_M_cut (a 32 (ix x1)) (a 48 (ix x3))))
set_option maxHeartbeats 4000000 in
set_option maxRecDepth 100000 in
theorem x_M_write (E : eT) (N : Nat) (p1 : Int32) (a : aT) : XI qI E md_M_write 0 [.ref 31, .int p1, .null, .null] [] a (f_M_write N p1 a) := by
  refine XI_go (pc' := 1) (ls' := [.ref 31, .int p1, .null, .null]) (st' := [.int p1]) (a' := a) [(.iload_n 1, 1, 1, .null)] (by decide +kernel) rfl ?_
  refine XI_ST (As := [.int p1]) (rest := []) (idx := 83) (by decide +kernel) ok_M_isSheet mv_M_isSheet (n := 1) ⟨lk_M_83, by decide +kernel⟩ rfl (Nat.le_of_ble_eq_true rfl) (Nat.le_of_ble_eq_true rfl) (qZ_h rfl) (x_M_isSheet E p1 a) ?_
  refine XI_br (c := (f_M_isSheet p1) = 0) (t := 7) (e := 10) (ls' := [.ref 31, .int p1, .null, .null]) (st' := []) (a' := a) [(.ifCond .ne 6, 3, 10, .null)] (by decide +kernel) rfl ?_ ?_
  · refine XI_go (pc' := 9) (ls' := [.ref 31, .int p1, .null, .null]) (st' := [.int (-2)]) (a' := a) [(.bipush (-2), 2, 0, .int (-2))] (by decide +kernel) rfl ?_
    exact XI_retI (by decide +kernel)
  · refine XI_ck (c := inb p1 4) (pc' := 16) (ls' := [.ref 31, .int p1, .null, .null]) (st' := [.int (a 32 (ix p1))]) (a' := a) [(.aload_n 0, 1, 0, .null), (.getfield 7, 3, 1100, .null), (.iload_n 1, 1, 1, .null), (.iaload, 1, 0, .null)] (by decide +kernel) rfl ?_
    refine XI_br (c := 0 ≤ (a 32 (ix p1))) (t := 25) (e := 19) (ls' := [.ref 31, .int p1, .null, .null]) (st' := []) (a' := a) [(.ifCond .ge 9, 3, 25, .null)] (by decide +kernel) rfl ?_ ?_
    · refine XI_go (pc' := 26) (ls' := [.ref 31, .int p1, .null, .null]) (st' := [.ref 31]) (a' := a) [(.aload_n 0, 1, 0, .null)] (by decide +kernel) rfl ?_
      refine XI_VI (As := []) (rest := []) (b := 31) (idx := 204) (by decide +kernel) ok_M_find mv_M_find (n := 0) ⟨lk_M_204, by decide +kernel⟩ rfl rfl rfl rfl (Nat.le_of_ble_eq_true rfl) (Nat.le_of_ble_eq_true rfl) (qV_h rfl) (x_M_find E N a) (fun q2 => ?_)
      refine XI_ck (c := inb p1 4) (pc' := 35) (ls' := [.ref 31, .int p1, .null, .null]) (st' := [.int (q2.2 33 (ix p1))]) (a' := q2.2) [(.aload_n 0, 1, 0, .null), (.getfield 13, 3, 1101, .null), (.iload_n 1, 1, 1, .null), (.iaload, 1, 0, .null)] (by decide +kernel) rfl ?_
      refine XI_br (c := (q2.2 31 18) ≤ (q2.2 33 (ix p1))) (t := 51) (e := 42) (ls' := [.ref 31, .int p1, .null, .null]) (st' := []) (a' := q2.2) [(.aload_n 0, 1, 0, .null), (.getfield 150, 3, 1118, .null), (.if_icmp .ge 12, 3, 51, .null)] (by decide +kernel) rfl ?_ ?_
      · refine XI_go (pc' := 58) (ls' := [.ref 31, .int p1, .int (q2.2 31 18), .int 0]) (st' := []) (a' := q2.2) [(.aload_n 0, 1, 0, .null), (.getfield 150, 3, 1118, .null), (.istore_n 2, 1, 2, .null), (.iconst 0, 1, 0, .int 0), (.istore_n 3, 1, 3, .null)] (by decide +kernel) rfl ?_
        refine XI_fg [true, true, true, true] ?_
        exact x_M_write_58 E N N p1 (q2.2 31 18) 0 q2.2
      · refine XI_ck (c := inb p1 4) (pc' := 48) (ls' := [.ref 31, .int p1, .null, .null]) (st' := [.int (q2.2 33 (ix p1))]) (a' := q2.2) [(.aload_n 0, 1, 0, .null), (.getfield 13, 3, 1101, .null), (.iload_n 1, 1, 1, .null), (.iaload, 1, 0, .null)] (by decide +kernel) rfl ?_
        refine XI_go (pc' := 58) (ls' := [.ref 31, .int p1, .int (q2.2 33 (ix p1)), .int 0]) (st' := []) (a' := q2.2) [(.goto 7, 3, 55, .null), (.istore_n 2, 1, 2, .null), (.iconst 0, 1, 0, .int 0), (.istore_n 3, 1, 3, .null)] (by decide +kernel) rfl ?_
        refine XI_fg [true, true, true, true] ?_
        exact x_M_write_58 E N N p1 (q2.2 33 (ix p1)) 0 q2.2
    · refine XI_go (pc' := 21) (ls' := [.ref 31, .int p1, .null, .null]) (st' := [.int 1, .ref 31]) (a' := a) [(.aload_n 0, 1, 0, .null), (.iconst 1, 1, 0, .int 1)] (by decide +kernel) rfl ?_
      refine XI_VI (As := [.int 1]) (rest := []) (b := 31) (idx := 89) (by decide +kernel) ok_M_met mv_M_met (n := 1) ⟨lk_M_89, by decide +kernel⟩ rfl rfl rfl rfl (Nat.le_of_ble_eq_true rfl) (Nat.le_of_ble_eq_true rfl) (qI_h rfl) (x_M_met E 1 a) (fun q3 => ?_)
      exact XI_retI (by decide +kernel)
/-! ChestnutSticks$Tree.cellCount()I -/
def md_E_cellCount : md_T := (yX9_cellCount, cX9_cellCount, 3, (some .int), 2, 42)
set_option maxRecDepth 100000 in
theorem ok_E_cellCount : m_ok md_E_cellCount := ⟨List.mem_of_getElem? (i := 837) (by decide +kernel), by decide +kernel, List.mem_of_getElem? (i := 54) (by decide +kernel), by decide +kernel⟩
theorem mv_E_cellCount : Cond.instanceMethod (m_y md_E_cellCount) ∈ lw_tbl ∧ Cond.selects (m_y md_E_cellCount).cls (m_y md_E_cellCount) (m_y md_E_cellCount) ∈ lw_tbl := ⟨List.mem_of_getElem? (i := 835) (by decide +kernel), List.mem_of_getElem? (i := 836) (by decide +kernel)⟩
def f_E_cellCount_4 (N : Nat) (a : aT) : Nat → Int32 → Int32 → Option Int32
  | 0 => fun _ _ => none
  | n + 1 => fun x1 x2 =>
    if 48 ≤ x2 then
      some x1
    else
      (f_E_isCell x2 a).bind fun q1 =>
        if q1 = 0 then
          f_E_cellCount_4 N a n (x1 + 0) (x2 + 1)
        else
          f_E_cellCount_4 N a n (x1 + 1) (x2 + 1)
def f_E_cellCount (N : Nat) (a : aT) : Option Int32 :=
  f_E_cellCount_4 N a N 0 0
set_option maxHeartbeats 4000000 in
set_option maxRecDepth 100000 in
theorem x_E_cellCount_4 (E : eT) (N : Nat) (a : aT) : ∀ (n : Nat) (x1 : Int32) (x2 : Int32), XP qI E md_E_cellCount 4 [.ref 1, .int x1, .int x2] [] a (f_E_cellCount_4 N a n x1 x2)
  | 0, _, _ => XP_no rfl
  | n + 1, x1, x2 => by
    refine XP_br (c := 48 ≤ x2) (t := 32) (e := 10) (ls' := [.ref 1, .int x1, .int x2]) (st' := []) (a' := a) [(.iload_n 2, 1, 2, .null), (.bipush 48, 2, 0, .int 48), (.if_icmp .ge 25, 3, 32, .null)] (by decide +kernel) rfl ?_ ?_
    · refine XP_go (pc' := 33) (ls' := [.ref 1, .int x1, .int x2]) (st' := [.int x1]) (a' := a) [(.iload_n 1, 1, 1, .null)] (by decide +kernel) rfl ?_
      exact XP_retI (by decide +kernel)
    · refine XP_go (pc' := 13) (ls' := [.ref 1, .int x1, .int x2]) (st' := [.int x2, .ref 1, .int x1]) (a' := a) [(.iload_n 1, 1, 1, .null), (.aload_n 0, 1, 0, .null), (.iload_n 2, 1, 2, .null)] (by decide +kernel) rfl ?_
      refine XP_VP (As := [.int x2]) (rest := [.int x1]) (b := 1) (idx := 41) (by decide +kernel) ok_E_isCell mv_E_isCell (n := 1) ⟨lk_E_41, by decide +kernel⟩ rfl rfl rfl rfl (Nat.le_of_ble_eq_true rfl) (Nat.le_of_ble_eq_true rfl) (qZ_h rfl) (x_E_isCell E x2 a) (fun q1 => ?_)
      refine XP_br (c := q1 = 0) (t := 23) (e := 19) (ls' := [.ref 1, .int x1, .int x2]) (st' := [.int x1]) (a' := a) [(.ifCond .eq 7, 3, 23, .null)] (by decide +kernel) rfl ?_ ?_
      · refine XP_go (pc' := 4) (ls' := [.ref 1, .int (x1 + 0), .int (x2 + 1)]) (st' := []) (a' := a) [(.iconst 0, 1, 0, .int 0), (.iadd, 1, 0, .null), (.istore_n 1, 1, 1, .null), (.iinc 2 1, 3, 2, .int 1), (.goto (-25), 3, 4, .null)] (by decide +kernel) rfl ?_
        refine XP_fg [true, true, true] ?_
        exact x_E_cellCount_4 E N a n (x1 + 0) (x2 + 1)
      · refine XP_go (pc' := 4) (ls' := [.ref 1, .int (x1 + 1), .int (x2 + 1)]) (st' := []) (a' := a) [(.iconst 1, 1, 0, .int 1), (.goto 4, 3, 24, .null), (.iadd, 1, 0, .null), (.istore_n 1, 1, 1, .null), (.iinc 2 1, 3, 2, .int 1), (.goto (-25), 3, 4, .null)] (by decide +kernel) rfl ?_
        refine XP_fg [true, true, true] ?_
        exact x_E_cellCount_4 E N a n (x1 + 1) (x2 + 1)
set_option maxHeartbeats 4000000 in
set_option maxRecDepth 100000 in
theorem x_E_cellCount (E : eT) (N : Nat) (a : aT) : XP qI E md_E_cellCount 0 [.ref 1, .null, .null] [] a (f_E_cellCount N a) := by
  refine XP_go (pc' := 4) (ls' := [.ref 1, .int 0, .int 0]) (st' := []) (a' := a) [(.iconst 0, 1, 0, .int 0), (.istore_n 1, 1, 1, .null), (.iconst 0, 1, 0, .int 0), (.istore_n 2, 1, 2, .null)] (by decide +kernel) rfl ?_
  refine XP_fg [true, true, true] ?_
  exact x_E_cellCount_4 E N a N 0 0
