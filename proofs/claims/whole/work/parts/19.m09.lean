/-! ChestnutSticks$Season.nightsInDanger(III)I -/
def md_S_nightsInDanger : md_T := (yX3_nightsInDanger, cX3_nightsInDanger, 6, (some .int), 2, 43)
set_option maxRecDepth 100000 in
theorem ok_S_nightsInDanger : m_ok md_S_nightsInDanger := ⟨List.mem_of_getElem? (i := 657) (by decide +kernel), by decide +kernel, List.mem_of_getElem? (i := 60) (by decide +kernel), by decide +kernel⟩
theorem mv_S_nightsInDanger : Cond.instanceMethod (m_y md_S_nightsInDanger) ∈ lw_tbl ∧ Cond.selects (m_y md_S_nightsInDanger).cls (m_y md_S_nightsInDanger) (m_y md_S_nightsInDanger) ∈ lw_tbl := ⟨List.mem_of_getElem? (i := 656) (by decide +kernel), List.mem_of_getElem? (i := 13) (by decide +kernel)⟩
def f_S_nightsInDanger_6 (N : Nat) (a : aT) : Nat → Int32 → Int32 → Int32 → Int32 → Int32 → Option Int32
  | 0 => fun _ _ _ _ _ => none
  | n + 1 => fun x1 x2 x3 x4 x5 =>
    if x2 ≤ x5 then
      some x4
    else
      (f_E_hangsOn x1 x5 a).bind fun q1 =>
        if x3 ≤ q1 then
          f_S_nightsInDanger_6 N a n x1 x2 x3 (x4 + 0) (x5 + 1)
        else
          f_S_nightsInDanger_6 N a n x1 x2 x3 (x4 + 1) (x5 + 1)
def f_S_nightsInDanger (N : Nat) (p1 : Int32) (p2 : Int32) (p3 : Int32) (a : aT) : Option Int32 :=
  f_S_nightsInDanger_6 N a N p1 p2 p3 0 0
set_option maxHeartbeats 4000000 in
set_option maxRecDepth 100000 in
theorem x_S_nightsInDanger_6 (E : eT) (N : Nat) (a : aT) : ∀ (n : Nat) (x1 : Int32) (x2 : Int32) (x3 : Int32) (x4 : Int32) (x5 : Int32), XP qI E md_S_nightsInDanger 6 [.ref 19, .int x1, .int x2, .int x3, .int x4, .int x5] [] a (f_S_nightsInDanger_6 N a n x1 x2 x3 x4 x5)
  | 0, _, _, _, _, _ => XP_no rfl
  | n + 1, x1, x2, x3, x4, x5 => by
    refine XP_br (c := x2 ≤ x5) (t := 42) (e := 12) (ls' := [.ref 19, .int x1, .int x2, .int x3, .int x4, .int x5]) (st' := []) (a' := a) [(.iload 5, 2, 5, .null), (.iload_n 2, 1, 2, .null), (.if_icmp .ge 33, 3, 42, .null)] (by decide +kernel) rfl ?_ ?_
    · refine XP_go (pc' := 44) (ls' := [.ref 19, .int x1, .int x2, .int x3, .int x4, .int x5]) (st' := [.int x4]) (a' := a) [(.iload 4, 2, 4, .null)] (by decide +kernel) rfl ?_
      exact XP_retI (by decide +kernel)
    · refine XP_go (pc' := 21) (ls' := [.ref 19, .int x1, .int x2, .int x3, .int x4, .int x5]) (st' := [.int x5, .int x1, .ref 1, .int x4]) (a' := a) [(.iload 4, 2, 4, .null), (.aload_n 0, 1, 0, .null), (.getfield 15, 3, 300, .null), (.iload_n 1, 1, 1, .null), (.iload 5, 2, 5, .null)] (by decide +kernel) rfl ?_
      refine XP_VP (As := [.int x1, .int x5]) (rest := [.int x4]) (b := 1) (idx := 46) (by decide +kernel) ok_E_hangsOn mv_E_hangsOn (n := 2) ⟨lk_S_46, by decide +kernel⟩ rfl rfl rfl rfl (Nat.le_of_ble_eq_true rfl) (Nat.le_of_ble_eq_true rfl) (qI_h rfl) (x_E_hangsOn E x1 x5 a) (fun q1 => ?_)
      refine XP_br (c := x3 ≤ q1) (t := 32) (e := 28) (ls' := [.ref 19, .int x1, .int x2, .int x3, .int x4, .int x5]) (st' := [.int x4]) (a' := a) [(.iload_n 3, 1, 3, .null), (.if_icmp .ge 7, 3, 32, .null)] (by decide +kernel) rfl ?_ ?_
      · refine XP_go (pc' := 6) (ls' := [.ref 19, .int x1, .int x2, .int x3, .int (x4 + 0), .int (x5 + 1)]) (st' := []) (a' := a) [(.iconst 0, 1, 0, .int 0), (.iadd, 1, 0, .null), (.istore 4, 2, 4, .null), (.iinc 5 1, 3, 5, .int 1), (.goto (-33), 3, 6, .null)] (by decide +kernel) rfl ?_
        refine XP_fg [true, true, true, true, true, true] ?_
        exact x_S_nightsInDanger_6 E N a n x1 x2 x3 (x4 + 0) (x5 + 1)
      · refine XP_go (pc' := 6) (ls' := [.ref 19, .int x1, .int x2, .int x3, .int (x4 + 1), .int (x5 + 1)]) (st' := []) (a' := a) [(.iconst 1, 1, 0, .int 1), (.goto 4, 3, 33, .null), (.iadd, 1, 0, .null), (.istore 4, 2, 4, .null), (.iinc 5 1, 3, 5, .int 1), (.goto (-33), 3, 6, .null)] (by decide +kernel) rfl ?_
        refine XP_fg [true, true, true, true, true, true] ?_
        exact x_S_nightsInDanger_6 E N a n x1 x2 x3 (x4 + 1) (x5 + 1)
set_option maxHeartbeats 4000000 in
set_option maxRecDepth 100000 in
theorem x_S_nightsInDanger (E : eT) (N : Nat) (p1 : Int32) (p2 : Int32) (p3 : Int32) (a : aT) : XP qI E md_S_nightsInDanger 0 [.ref 19, .int p1, .int p2, .int p3, .null, .null] [] a (f_S_nightsInDanger N p1 p2 p3 a) := by
  refine XP_go (pc' := 6) (ls' := [.ref 19, .int p1, .int p2, .int p3, .int 0, .int 0]) (st' := []) (a' := a) [(.iconst 0, 1, 0, .int 0), (.istore 4, 2, 4, .null), (.iconst 0, 1, 0, .int 0), (.istore 5, 2, 5, .null)] (by decide +kernel) rfl ?_
  refine XP_fg [true, true, true, true, true, true] ?_
  exact x_S_nightsInDanger_6 E N a N p1 p2 p3 0 0
/-! ChestnutSticks$Season.fallenTimesPower(III)J -/
def md_S_fallenTimesPower : md_T := (yX3_fallenTimesPower, cX3_fallenTimesPower, 10, (some .long), 3, 68)
set_option maxRecDepth 100000 in
theorem ok_S_fallenTimesPower : m_ok md_S_fallenTimesPower := ⟨List.mem_of_getElem? (i := 648) (by decide +kernel), by decide +kernel, List.mem_of_getElem? (i := 60) (by decide +kernel), by decide +kernel⟩
theorem mv_S_fallenTimesPower : Cond.instanceMethod (m_y md_S_fallenTimesPower) ∈ lw_tbl ∧ Cond.selects (m_y md_S_fallenTimesPower).cls (m_y md_S_fallenTimesPower) (m_y md_S_fallenTimesPower) ∈ lw_tbl := ⟨List.mem_of_getElem? (i := 646) (by decide +kernel), List.mem_of_getElem? (i := 647) (by decide +kernel)⟩
def f_S_fallenTimesPower_15 (N : Nat) (a : aT) : Nat → Int32 → Int32 → Int32 → Int64 → Int64 → Int32 → Option Int64
  | 0 => fun _ _ _ _ _ _ => none
  | n + 1 => fun x1 x2 x3 x4 x6 x8 =>
    if 48 ≤ x8 then
      some x6
    else
      (f_E_hasBall x8 a).bind fun q2 =>
        if q2 = 0 then
          f_S_fallenTimesPower_15 N a n x1 x2 x3 x4 x6 (x8 + 1)
        else
          (f_S_nightsInDanger N x8 x1 x2 a).bind fun q3 =>
            (f_C_power N (16 - x3).toInt64 q3).bind fun q4 =>
              (f_C_power N 16 (x1 - q3)).bind fun q5 =>
                f_S_fallenTimesPower_15 N a n x1 x2 x3 x4 (x6 + (x4 - (q4 * q5))) (x8 + 1)
def f_S_fallenTimesPower (N : Nat) (p1 : Int32) (p2 : Int32) (p3 : Int32) (a : aT) : Option Int64 :=
  (f_C_power N 16 p1).bind fun q1 =>
    f_S_fallenTimesPower_15 N a N p1 p2 p3 q1 0 0
set_option maxHeartbeats 4000000 in
set_option maxRecDepth 100000 in
theorem x_S_fallenTimesPower_15 (E : eT) (N : Nat) (a : aT) : ∀ (n : Nat) (x1 : Int32) (x2 : Int32) (x3 : Int32) (x4 : Int64) (x6 : Int64) (x8 : Int32), XP qL E md_S_fallenTimesPower 15 [.ref 19, .int x1, .int x2, .int x3, .long x4, .null, .long x6, .null, .int x8, .null] [] a (f_S_fallenTimesPower_15 N a n x1 x2 x3 x4 x6 x8)
  | 0, _, _, _, _, _, _ => XP_no rfl
  | n + 1, x1, x2, x3, x4, x6, x8 => by
    refine XP_br (c := 48 ≤ x8) (t := 79) (e := 22) (ls' := [.ref 19, .int x1, .int x2, .int x3, .long x4, .null, .long x6, .null, .int x8, .null]) (st' := []) (a' := a) [(.iload 8, 2, 8, .null), (.bipush 48, 2, 0, .int 48), (.if_icmp .ge 60, 3, 79, .null)] (by decide +kernel) rfl ?_ ?_
    · refine XP_go (pc' := 81) (ls' := [.ref 19, .int x1, .int x2, .int x3, .long x4, .null, .long x6, .null, .int x8, .null]) (st' := [.long x6]) (a' := a) [(.lload 6, 2, 6, .null)] (by decide +kernel) rfl ?_
      exact XP_retJ (by decide +kernel)
    · refine XP_go (pc' := 28) (ls' := [.ref 19, .int x1, .int x2, .int x3, .long x4, .null, .long x6, .null, .int x8, .null]) (st' := [.int x8, .ref 1]) (a' := a) [(.aload_n 0, 1, 0, .null), (.getfield 15, 3, 300, .null), (.iload 8, 2, 8, .null)] (by decide +kernel) rfl ?_
      refine XP_VP (As := [.int x8]) (rest := []) (b := 1) (idx := 25) (by decide +kernel) ok_E_hasBall mv_E_hasBall (n := 1) ⟨lk_S_25, by decide +kernel⟩ rfl rfl rfl rfl (Nat.le_of_ble_eq_true rfl) (Nat.le_of_ble_eq_true rfl) (qZ_h rfl) (x_E_hasBall E x8 a) (fun q2 => ?_)
      refine XP_br (c := q2 = 0) (t := 73) (e := 34) (ls' := [.ref 19, .int x1, .int x2, .int x3, .long x4, .null, .long x6, .null, .int x8, .null]) (st' := []) (a' := a) [(.ifCond .eq 42, 3, 73, .null)] (by decide +kernel) rfl ?_ ?_
      · refine XP_go (pc' := 15) (ls' := [.ref 19, .int x1, .int x2, .int x3, .long x4, .null, .long x6, .null, .int (x8 + 1), .null]) (st' := []) (a' := a) [(.iinc 8 1, 3, 8, .int 1), (.goto (-61), 3, 15, .null)] (by decide +kernel) rfl ?_
        refine XP_fg [true, true, true, true, true, false, true, false, true, false] ?_
        exact x_S_fallenTimesPower_15 E N a n x1 x2 x3 x4 x6 (x8 + 1)
      · refine XP_go (pc' := 39) (ls' := [.ref 19, .int x1, .int x2, .int x3, .long x4, .null, .long x6, .null, .int x8, .null]) (st' := [.int x2, .int x1, .int x8, .ref 19]) (a' := a) [(.aload_n 0, 1, 0, .null), (.iload 8, 2, 8, .null), (.iload_n 1, 1, 1, .null), (.iload_n 2, 1, 2, .null)] (by decide +kernel) rfl ?_
        refine XP_VP (As := [.int x8, .int x1, .int x2]) (rest := []) (b := 19) (idx := 31) (by decide +kernel) ok_S_nightsInDanger mv_S_nightsInDanger (n := 3) ⟨lk_S_31, by decide +kernel⟩ rfl rfl rfl rfl (Nat.le_of_ble_eq_true rfl) (Nat.le_of_ble_eq_true rfl) (qI_h rfl) (x_S_nightsInDanger E N x8 x1 x2 a) (fun q3 => ?_)
        refine XP_go (pc' := 55) (ls' := [.ref 19, .int x1, .int x2, .int x3, .long x4, .null, .long x6, .null, .int x8, .int q3]) (st' := [.int q3, .long (16 - x3).toInt64, .long x4, .long x6]) (a' := a) [(.istore 9, 2, 9, .null), (.lload 6, 2, 6, .null), (.lload 4, 2, 4, .null), (.bipush 16, 2, 0, .int 16), (.iload_n 3, 1, 3, .null), (.isub, 1, 0, .null), (.i2l, 1, 0, .null), (.iload 9, 2, 9, .null)] (by decide +kernel) rfl ?_
        refine XP_SNP (As := [.long (16 - x3).toInt64, .int q3]) (rest := [.long x4, .long x6]) (idx := 21) (by decide +kernel) ok_C_power mv_C_power (n := 2) ⟨lk_S_21, by decide +kernel⟩ rfl (Nat.le_of_ble_eq_true rfl) (Nat.le_of_ble_eq_true rfl) (qL_h rfl) (x_C_power E N (16 - x3).toInt64 q3 a) (fun q4 => ?_)
        refine XP_go (pc' := 65) (ls' := [.ref 19, .int x1, .int x2, .int x3, .long x4, .null, .long x6, .null, .int x8, .int q3]) (st' := [.int (x1 - q3), .long 16, .long q4, .long x4, .long x6]) (a' := a) [(.ldc2_w 19, 3, 0, .long 16), (.iload_n 1, 1, 1, .null), (.iload 9, 2, 9, .null), (.isub, 1, 0, .null)] (by decide +kernel) rfl ?_
        refine XP_SNP (As := [.long 16, .int (x1 - q3)]) (rest := [.long q4, .long x4, .long x6]) (idx := 21) (by decide +kernel) ok_C_power mv_C_power (n := 2) ⟨lk_S_21, by decide +kernel⟩ rfl (Nat.le_of_ble_eq_true rfl) (Nat.le_of_ble_eq_true rfl) (qL_h rfl) (x_C_power E N 16 (x1 - q3) a) (fun q5 => ?_)
        refine XP_go (pc' := 15) (ls' := [.ref 19, .int x1, .int x2, .int x3, .long x4, .null, .long (x6 + (x4 - (q4 * q5))), .null, .int (x8 + 1), .int q3]) (st' := []) (a' := a) [(.lmul, 1, 0, .null), (.lsub, 1, 0, .null), (.ladd, 1, 0, .null), (.lstore 6, 2, 6, .null), (.iinc 8 1, 3, 8, .int 1), (.goto (-61), 3, 15, .null)] (by decide +kernel) rfl ?_
        refine XP_fg [true, true, true, true, true, false, true, false, true, false] ?_
        exact x_S_fallenTimesPower_15 E N a n x1 x2 x3 x4 (x6 + (x4 - (q4 * q5))) (x8 + 1)
set_option maxHeartbeats 4000000 in
set_option maxRecDepth 100000 in
theorem x_S_fallenTimesPower (E : eT) (N : Nat) (p1 : Int32) (p2 : Int32) (p3 : Int32) (a : aT) : XP qL E md_S_fallenTimesPower 0 [.ref 19, .int p1, .int p2, .int p3, .null, .null, .null, .null, .null, .null] [] a (f_S_fallenTimesPower N p1 p2 p3 a) := by
  refine XP_go (pc' := 4) (ls' := [.ref 19, .int p1, .int p2, .int p3, .null, .null, .null, .null, .null, .null]) (st' := [.int p1, .long 16]) (a' := a) [(.ldc2_w 19, 3, 0, .long 16), (.iload_n 1, 1, 1, .null)] (by decide +kernel) rfl ?_
  refine XP_SNP (As := [.long 16, .int p1]) (rest := []) (idx := 21) (by decide +kernel) ok_C_power mv_C_power (n := 2) ⟨lk_S_21, by decide +kernel⟩ rfl (Nat.le_of_ble_eq_true rfl) (Nat.le_of_ble_eq_true rfl) (qL_h rfl) (x_C_power E N 16 p1 a) (fun q1 => ?_)
  refine XP_go (pc' := 15) (ls' := [.ref 19, .int p1, .int p2, .int p3, .long q1, .null, .long 0, .null, .int 0, .null]) (st' := []) (a' := a) [(.lstore 4, 2, 4, .null), (.lconst 0, 1, 0, .long 0), (.lstore 6, 2, 6, .null), (.iconst 0, 1, 0, .int 0), (.istore 8, 2, 8, .null)] (by decide +kernel) rfl ?_
  refine XP_fg [true, true, true, true, true, false, true, false, true, false] ?_
  exact x_S_fallenTimesPower_15 E N a N p1 p2 p3 q1 0 0
/-! ChestnutSticks.lie(II)J -/
def md_C_lie : md_T := (yX10_lie, cX10_lie, 5, (some .long), 4, 97)
set_option maxRecDepth 100000 in
theorem ok_C_lie : m_ok md_C_lie := ⟨List.mem_of_getElem? (i := 643) (by decide +kernel), by decide +kernel, List.mem_of_getElem? (i := 53) (by decide +kernel), by decide +kernel⟩
theorem mv_C_lie : Cond.instanceMethod (m_y md_C_lie) ∈ lw_tbl ∧ Cond.selects (m_y md_C_lie).cls (m_y md_C_lie) (m_y md_C_lie) ∈ lw_tbl := ⟨List.mem_of_getElem? (i := 641) (by decide +kernel), List.mem_of_getElem? (i := 642) (by decide +kernel)⟩
def f_C_lie (N : Nat) (p1 : Int32) (p2 : Int32) (a : aT) : Option Int64 :=
  if p1 < 0 then
    some (-9223372036854775806)
  else
    if 12 < p1 then
      some (-9223372036854775806)
    else
      if (f_C_isBelow p2 2) = 0 then
        some (-9223372036854775806)
      else
        (f_R_now 4 a).bind fun q2 =>
          (f_R_now 5 a).bind fun q3 =>
            (f_S_fallenTimesPower N p1 q2 q3 a).bind fun q4 =>
              (f_C_power N 16 p1).bind fun q5 =>
                if p2 = 1 then
                  (f_C_lowest N q4 q5 1).bind fun q6 =>
                    some q6
                else
                  (f_C_lowest N q4 q5 0).bind fun q7 =>
                    some q7
set_option maxHeartbeats 4000000 in
set_option maxRecDepth 100000 in
theorem x_C_lie (E : eT) (N : Nat) (p1 : Int32) (p2 : Int32) (a : aT) : XP qL E md_C_lie 0 [.ref 0, .int p1, .int p2, .null, .null] [] a (f_C_lie N p1 p2 a) := by
  refine XP_br (c := p1 < 0) (t := 18) (e := 4) (ls' := [.ref 0, .int p1, .int p2, .null, .null]) (st' := []) (a' := a) [(.iload_n 1, 1, 1, .null), (.ifCond .lt 17, 3, 18, .null)] (by decide +kernel) rfl ?_ ?_
  · refine XP_go (pc' := 21) (ls' := [.ref 0, .int p1, .int p2, .null, .null]) (st' := [.long (-9223372036854775806)]) (a' := a) [(.ldc2_w 175, 3, 0, .long (-9223372036854775806))] (by decide +kernel) rfl ?_
    exact XP_retJ (by decide +kernel)
  · refine XP_br (c := 12 < p1) (t := 18) (e := 10) (ls' := [.ref 0, .int p1, .int p2, .null, .null]) (st' := []) (a' := a) [(.iload_n 1, 1, 1, .null), (.bipush 12, 2, 0, .int 12), (.if_icmp .gt 11, 3, 18, .null)] (by decide +kernel) rfl ?_ ?_
    · refine XP_go (pc' := 21) (ls' := [.ref 0, .int p1, .int p2, .null, .null]) (st' := [.long (-9223372036854775806)]) (a' := a) [(.ldc2_w 175, 3, 0, .long (-9223372036854775806))] (by decide +kernel) rfl ?_
      exact XP_retJ (by decide +kernel)
    · refine XP_go (pc' := 12) (ls' := [.ref 0, .int p1, .int p2, .null, .null]) (st' := [.int 2, .int p2]) (a' := a) [(.iload_n 2, 1, 2, .null), (.iconst 2, 1, 0, .int 2)] (by decide +kernel) rfl ?_
      refine XP_ST (As := [.int p2, .int 2]) (rest := []) (idx := 110) (by decide +kernel) ok_C_isBelow mv_C_isBelow (n := 2) ⟨lk_C_110, by decide +kernel⟩ rfl (Nat.le_of_ble_eq_true rfl) (Nat.le_of_ble_eq_true rfl) (qZ_h rfl) (x_C_isBelow E p2 2 a) ?_
      refine XP_br (c := (f_C_isBelow p2 2) = 0) (t := 18) (e := 22) (ls' := [.ref 0, .int p1, .int p2, .null, .null]) (st' := []) (a' := a) [(.ifCond .ne 7, 3, 22, .null)] (by decide +kernel) rfl ?_ ?_
      · refine XP_go (pc' := 21) (ls' := [.ref 0, .int p1, .int p2, .null, .null]) (st' := [.long (-9223372036854775806)]) (a' := a) [(.ldc2_w 175, 3, 0, .long (-9223372036854775806))] (by decide +kernel) rfl ?_
        exact XP_retJ (by decide +kernel)
      · refine XP_go (pc' := 32) (ls' := [.ref 0, .int p1, .int p2, .null, .null]) (st' := [.int 4, .ref 6, .int p1, .ref 19]) (a' := a) [(.aload_n 0, 1, 0, .null), (.getfield 58, 3, 1006, .null), (.iload_n 1, 1, 1, .null), (.aload_n 0, 1, 0, .null), (.getfield 26, 3, 1002, .null), (.iconst 4, 1, 0, .int 4)] (by decide +kernel) rfl ?_
        refine XP_VP (As := [.int 4]) (rest := [.int p1, .ref 19]) (b := 6) (idx := 200) (by decide +kernel) ok_R_now mv_R_now (n := 1) ⟨lk_C_200, by decide +kernel⟩ rfl rfl rfl rfl (Nat.le_of_ble_eq_true rfl) (Nat.le_of_ble_eq_true rfl) (qI_h rfl) (x_R_now E 4 a) (fun q2 => ?_)
        refine XP_go (pc' := 40) (ls' := [.ref 0, .int p1, .int p2, .null, .null]) (st' := [.int 5, .ref 6, .int q2, .int p1, .ref 19]) (a' := a) [(.aload_n 0, 1, 0, .null), (.getfield 26, 3, 1002, .null), (.iconst 5, 1, 0, .int 5)] (by decide +kernel) rfl ?_
        refine XP_VP (As := [.int 5]) (rest := [.int q2, .int p1, .ref 19]) (b := 6) (idx := 200) (by decide +kernel) ok_R_now mv_R_now (n := 1) ⟨lk_C_200, by decide +kernel⟩ rfl rfl rfl rfl (Nat.le_of_ble_eq_true rfl) (Nat.le_of_ble_eq_true rfl) (qI_h rfl) (x_R_now E 5 a) (fun q3 => ?_)
        refine XP_VP (As := [.int p1, .int q2, .int q3]) (rest := []) (b := 19) (idx := 203) (by decide +kernel) ok_S_fallenTimesPower mv_S_fallenTimesPower (n := 3) ⟨lk_C_203, by decide +kernel⟩ rfl rfl rfl rfl (Nat.le_of_ble_eq_true rfl) (Nat.le_of_ble_eq_true rfl) (qL_h rfl) (x_S_fallenTimesPower E N p1 q2 q3 a) (fun q4 => ?_)
        refine XP_go (pc' := 52) (ls' := [.ref 0, .int p1, .int p2, .long q4, .null]) (st' := [.int p1, .long 16, .long q4]) (a' := a) [(.lstore_n 3, 1, 3, .null), (.lload_n 3, 1, 3, .null), (.ldc2_w 181, 3, 0, .long 16), (.iload_n 1, 1, 1, .null)] (by decide +kernel) rfl ?_
        refine XP_SP (As := [.long 16, .int p1]) (rest := [.long q4]) (idx := 207) (by decide +kernel) ok_C_power mv_C_power (n := 2) ⟨lk_C_207, by decide +kernel⟩ rfl (Nat.le_of_ble_eq_true rfl) (Nat.le_of_ble_eq_true rfl) (qL_h rfl) (x_C_power E N 16 p1 a) (fun q5 => ?_)
        refine XP_br (c := p2 = 1) (t := 60) (e := 64) (ls' := [.ref 0, .int p1, .int p2, .long q4, .null]) (st' := [.long q5, .long q4]) (a' := a) [(.iload_n 2, 1, 2, .null), (.iconst 1, 1, 0, .int 1), (.if_icmp .ne 7, 3, 64, .null)] (by decide +kernel) rfl ?_ ?_
        · refine XP_go (pc' := 65) (ls' := [.ref 0, .int p1, .int p2, .long q4, .null]) (st' := [.int 1, .long q5, .long q4]) (a' := a) [(.iconst 1, 1, 0, .int 1), (.goto 4, 3, 65, .null)] (by decide +kernel) rfl ?_
          refine XP_SP (As := [.long q4, .long q5, .int 1]) (rest := []) (idx := 183) (by decide +kernel) ok_C_lowest mv_C_lowest (n := 3) ⟨lk_C_183, by decide +kernel⟩ rfl (Nat.le_of_ble_eq_true rfl) (Nat.le_of_ble_eq_true rfl) (qL_h rfl) (x_C_lowest E N q4 q5 1 a) (fun q6 => ?_)
          exact XP_retJ (by decide +kernel)
        · refine XP_go (pc' := 65) (ls' := [.ref 0, .int p1, .int p2, .long q4, .null]) (st' := [.int 0, .long q5, .long q4]) (a' := a) [(.iconst 0, 1, 0, .int 0)] (by decide +kernel) rfl ?_
          refine XP_SP (As := [.long q4, .long q5, .int 0]) (rest := []) (idx := 183) (by decide +kernel) ok_C_lowest mv_C_lowest (n := 3) ⟨lk_C_183, by decide +kernel⟩ rfl (Nat.le_of_ble_eq_true rfl) (Nat.le_of_ble_eq_true rfl) (qL_h rfl) (x_C_lowest E N q4 q5 0 a) (fun q7 => ?_)
          exact XP_retJ (by decide +kernel)
/-! ChestnutSticksModel.isTwo(I)Z -/
def md_M_isTwo : md_T := (yX11_isTwo, cX11_isTwo, 1, (some .boolean), 1, 25)
set_option maxRecDepth 100000 in
theorem ok_M_isTwo : m_ok md_M_isTwo := ⟨List.mem_of_getElem? (i := 1238) (by decide +kernel), by decide +kernel, List.mem_of_getElem? (i := 64) (by decide +kernel), by decide +kernel⟩
theorem mv_M_isTwo : Cond.static (m_y md_M_isTwo) ∈ lw_tbl := List.mem_of_getElem? (i := 1237) (by decide +kernel)
def f_M_isTwo (p1 : Int32) : Int32 :=
  (vp_nar .boolean (f_M_in p1.toInt64 0 1))
set_option maxHeartbeats 4000000 in
set_option maxRecDepth 100000 in
theorem x_M_isTwo (E : eT) (p1 : Int32) (a : aT) : XT qZ E md_M_isTwo 0 [.int p1] [] a (f_M_isTwo p1) := by
  refine XT_go (pc' := 4) (ls' := [.int p1]) (st' := [.long 1, .long 0, .long p1.toInt64]) (a' := a) [(.iload_n 0, 1, 0, .null), (.i2l, 1, 0, .null), (.lconst 0, 1, 0, .long 0), (.lconst 1, 1, 0, .long 1)] (by decide +kernel) rfl ?_
  refine XT_ST (As := [.long p1.toInt64, .long 0, .long 1]) (rest := []) (idx := 74) (by decide +kernel) ok_M_in mv_M_in (n := 3) ⟨lk_M_74, by decide +kernel⟩ rfl (Nat.le_of_ble_eq_true rfl) (Nat.le_of_ble_eq_true rfl) (qZ_h rfl) (x_M_in E p1.toInt64 0 1 a) ?_
  exact XT_retZ (by decide +kernel) rfl
/-! ChestnutSticksModel.nights(II)I -/
def md_M_nights : md_T := (yX11_nights, cX11_nights, 5, (some .int), 2, 42)
set_option maxRecDepth 100000 in
theorem ok_M_nights : m_ok md_M_nights := ⟨List.mem_of_getElem? (i := 1246) (by decide +kernel), by decide +kernel, List.mem_of_getElem? (i := 64) (by decide +kernel), by decide +kernel⟩
theorem mv_M_nights : Cond.instanceMethod (m_y md_M_nights) ∈ lw_tbl ∧ Cond.selects (m_y md_M_nights).cls (m_y md_M_nights) (m_y md_M_nights) ∈ lw_tbl := ⟨List.mem_of_getElem? (i := 1245) (by decide +kernel), List.mem_of_getElem? (i := 42) (by decide +kernel)⟩
def f_M_nights_5 (N : Nat) (a : aT) : Nat → Int32 → Int32 → Int32 → Int32 → Option Int32
  | 0 => fun _ _ _ _ => none
  | n + 1 => fun x1 x2 x3 x4 =>
    if x2 ≤ x4 then
      some x3
    else
      if inb x1 48 then
        if (a 38 (ix x1)) = (-1) then
          f_M_nights_5 N a n x1 x2 (x3 + 0) (x4 + 1)
        else
          if inb x1 48 then
            if (a 42 4) ≤ (f_M_hangsIn (a 38 (ix x1)) x4) then
              f_M_nights_5 N a n x1 x2 (x3 + 0) (x4 + 1)
            else
              f_M_nights_5 N a n x1 x2 (x3 + 1) (x4 + 1)
          else none
      else none
def f_M_nights (N : Nat) (p1 : Int32) (p2 : Int32) (a : aT) : Option Int32 :=
  f_M_nights_5 N a N p1 p2 0 0
set_option maxHeartbeats 4000000 in
set_option maxRecDepth 100000 in
theorem x_M_nights_5 (E : eT) (N : Nat) (a : aT) : ∀ (n : Nat) (x1 : Int32) (x2 : Int32) (x3 : Int32) (x4 : Int32), XP qI E md_M_nights 5 [.ref 31, .int x1, .int x2, .int x3, .int x4] [] a (f_M_nights_5 N a n x1 x2 x3 x4)
  | 0, _, _, _, _ => XP_no rfl
  | n + 1, x1, x2, x3, x4 => by
    refine XP_br (c := x2 ≤ x4) (t := 55) (e := 11) (ls' := [.ref 31, .int x1, .int x2, .int x3, .int x4]) (st' := []) (a' := a) [(.iload 4, 2, 4, .null), (.iload_n 2, 1, 2, .null), (.if_icmp .ge 47, 3, 55, .null)] (by decide +kernel) rfl ?_ ?_
    · refine XP_go (pc' := 56) (ls' := [.ref 31, .int x1, .int x2, .int x3, .int x4]) (st' := [.int x3]) (a' := a) [(.iload_n 3, 1, 3, .null)] (by decide +kernel) rfl ?_
      exact XP_retI (by decide +kernel)
    · refine XP_ck (c := inb x1 48) (pc' := 18) (ls' := [.ref 31, .int x1, .int x2, .int x3, .int x4]) (st' := [.int (a 38 (ix x1)), .int x3]) (a' := a) [(.iload_n 3, 1, 3, .null), (.aload_n 0, 1, 0, .null), (.getfield 29, 3, 1109, .null), (.iload_n 1, 1, 1, .null), (.iaload, 1, 0, .null)] (by decide +kernel) rfl ?_
      refine XP_br (c := (a 38 (ix x1)) = (-1)) (t := 46) (e := 22) (ls' := [.ref 31, .int x1, .int x2, .int x3, .int x4]) (st' := [.int x3]) (a' := a) [(.iconst (-1), 1, 0, .int (-1)), (.if_icmp .eq 27, 3, 46, .null)] (by decide +kernel) rfl ?_ ?_
      · refine XP_go (pc' := 5) (ls' := [.ref 31, .int x1, .int x2, .int (x3 + 0), .int (x4 + 1)]) (st' := []) (a' := a) [(.iconst 0, 1, 0, .int 0), (.iadd, 1, 0, .null), (.istore_n 3, 1, 3, .null), (.iinc 4 1, 3, 4, .int 1), (.goto (-47), 3, 5, .null)] (by decide +kernel) rfl ?_
        refine XP_fg [true, true, true, true, true] ?_
        exact x_M_nights_5 E N a n x1 x2 (x3 + 0) (x4 + 1)
      · refine XP_ck (c := inb x1 48) (pc' := 28) (ls' := [.ref 31, .int x1, .int x2, .int x3, .int x4]) (st' := [.int (a 38 (ix x1)), .int x3]) (a' := a) [(.aload_n 0, 1, 0, .null), (.getfield 29, 3, 1109, .null), (.iload_n 1, 1, 1, .null), (.iaload, 1, 0, .null)] (by decide +kernel) rfl ?_
        refine XP_go (pc' := 30) (ls' := [.ref 31, .int x1, .int x2, .int x3, .int x4]) (st' := [.int x4, .int (a 38 (ix x1)), .int x3]) (a' := a) [(.iload 4, 2, 4, .null)] (by decide +kernel) rfl ?_
        refine XP_ST (As := [.int (a 38 (ix x1)), .int x4]) (rest := [.int x3]) (idx := 156) (by decide +kernel) ok_M_hangsIn mv_M_hangsIn (n := 2) ⟨lk_M_156, by decide +kernel⟩ rfl (Nat.le_of_ble_eq_true rfl) (Nat.le_of_ble_eq_true rfl) (qI_h rfl) (x_M_hangsIn E (a 38 (ix x1)) x4 a) ?_
        refine XP_br (c := (a 42 4) ≤ (f_M_hangsIn (a 38 (ix x1)) x4)) (t := 46) (e := 42) (ls' := [.ref 31, .int x1, .int x2, .int x3, .int x4]) (st' := [.int x3]) (a' := a) [(.aload_n 0, 1, 0, .null), (.getfield 41, 3, 1115, .null), (.iconst 4, 1, 0, .int 4), (.iaload, 1, 0, .null), (.if_icmp .ge 7, 3, 46, .null)] (by decide +kernel) rfl ?_ ?_
        · refine XP_go (pc' := 5) (ls' := [.ref 31, .int x1, .int x2, .int (x3 + 0), .int (x4 + 1)]) (st' := []) (a' := a) [(.iconst 0, 1, 0, .int 0), (.iadd, 1, 0, .null), (.istore_n 3, 1, 3, .null), (.iinc 4 1, 3, 4, .int 1), (.goto (-47), 3, 5, .null)] (by decide +kernel) rfl ?_
          refine XP_fg [true, true, true, true, true] ?_
          exact x_M_nights_5 E N a n x1 x2 (x3 + 0) (x4 + 1)
        · refine XP_go (pc' := 5) (ls' := [.ref 31, .int x1, .int x2, .int (x3 + 1), .int (x4 + 1)]) (st' := []) (a' := a) [(.iconst 1, 1, 0, .int 1), (.goto 4, 3, 47, .null), (.iadd, 1, 0, .null), (.istore_n 3, 1, 3, .null), (.iinc 4 1, 3, 4, .int 1), (.goto (-47), 3, 5, .null)] (by decide +kernel) rfl ?_
          refine XP_fg [true, true, true, true, true] ?_
          exact x_M_nights_5 E N a n x1 x2 (x3 + 1) (x4 + 1)
set_option maxHeartbeats 4000000 in
set_option maxRecDepth 100000 in
theorem x_M_nights (E : eT) (N : Nat) (p1 : Int32) (p2 : Int32) (a : aT) : XP qI E md_M_nights 0 [.ref 31, .int p1, .int p2, .null, .null] [] a (f_M_nights N p1 p2 a) := by
  refine XP_go (pc' := 5) (ls' := [.ref 31, .int p1, .int p2, .int 0, .int 0]) (st' := []) (a' := a) [(.iconst 0, 1, 0, .int 0), (.istore_n 3, 1, 3, .null), (.iconst 0, 1, 0, .int 0), (.istore 4, 2, 4, .null)] (by decide +kernel) rfl ?_
  refine XP_fg [true, true, true, true, true] ?_
  exact x_M_nights_5 E N a N p1 p2 0 0
/-! ChestnutSticksModel.lieOf(II)J -/
def md_M_lieOf : md_T := (yX11_lieOf, cX11_lieOf, 12, (some .long), 3, 66)
set_option maxRecDepth 100000 in
theorem ok_M_lieOf : m_ok md_M_lieOf := ⟨List.mem_of_getElem? (i := 1242) (by decide +kernel), by decide +kernel, List.mem_of_getElem? (i := 64) (by decide +kernel), by decide +kernel⟩
theorem mv_M_lieOf : Cond.instanceMethod (m_y md_M_lieOf) ∈ lw_tbl ∧ Cond.selects (m_y md_M_lieOf).cls (m_y md_M_lieOf) (m_y md_M_lieOf) ∈ lw_tbl := ⟨List.mem_of_getElem? (i := 1241) (by decide +kernel), List.mem_of_getElem? (i := 41) (by decide +kernel)⟩
def f_M_lieOf_54 (N : Nat) (a : aT) (k31 : Int32 → Int32 → Int64 → Int64 → Int32 → Option Int64) : Nat → Int32 → Int32 → Int64 → Int64 → Int32 → Int32 → Int64 → Int32 → Option Int64
  | 0 => fun _ _ _ _ _ _ _ _ => none
  | n + 1 => fun x1 x2 x3 x5 x7 x8 x9 x11 =>
    if x8 ≤ x11 then
      k31 x1 x2 (x3 + (x5 - x9)) x5 (x7 + 1)
    else
      f_M_lieOf_54 N a k31 n x1 x2 x3 x5 x7 x8 ((x9 / 16) * (16 - (a 42 5)).toInt64) (x11 + 1)
def f_M_lieOf_31 (N : Nat) (a : aT) : Nat → Int32 → Int32 → Int64 → Int64 → Int32 → Option Int64
  | 0 => fun _ _ _ _ _ => none
  | n + 1 => fun x1 x2 x3 x5 x7 =>
    if 48 ≤ x7 then
      (f_M_part N x3 x5 x2).bind fun q1 =>
        some q1
    else
      (f_M_nights N x7 x1 a).bind fun q2 =>
        f_M_lieOf_54 N a (f_M_lieOf_31 N a n) N x1 x2 x3 x5 x7 q2 x5 0
def f_M_lieOf_8 (N : Nat) (a : aT) : Nat → Int32 → Int32 → Int64 → Int64 → Int32 → Option Int64
  | 0 => fun _ _ _ _ _ => none
  | n + 1 => fun x1 x2 x3 x5 x7 =>
    if x1 ≤ x7 then
      f_M_lieOf_31 N a N x1 x2 x3 x5 0
    else
      f_M_lieOf_8 N a n x1 x2 x3 (x5 * 16) (x7 + 1)
def f_M_lieOf (N : Nat) (p1 : Int32) (p2 : Int32) (a : aT) : Option Int64 :=
  f_M_lieOf_8 N a N p1 p2 0 1 0
set_option maxHeartbeats 4000000 in
set_option maxRecDepth 100000 in
theorem x_M_lieOf_54 (E : eT) (N : Nat) (a : aT) (k31 : Int32 → Int32 → Int64 → Int64 → Int32 → Option Int64) (h31 : ∀ (x1 : Int32) (x2 : Int32) (x3 : Int64) (x5 : Int64) (x7 : Int32), XP qL E md_M_lieOf 31 [.ref 31, .int x1, .int x2, .long x3, .null, .long x5, .null, .int x7, .null, .null, .null, .null] [] a (k31 x1 x2 x3 x5 x7)) : ∀ (n : Nat) (x1 : Int32) (x2 : Int32) (x3 : Int64) (x5 : Int64) (x7 : Int32) (x8 : Int32) (x9 : Int64) (x11 : Int32), XP qL E md_M_lieOf 54 [.ref 31, .int x1, .int x2, .long x3, .null, .long x5, .null, .int x7, .int x8, .long x9, .null, .int x11] [] a (f_M_lieOf_54 N a k31 n x1 x2 x3 x5 x7 x8 x9 x11)
  | 0, _, _, _, _, _, _, _, _ => XP_no rfl
  | n + 1, x1, x2, x3, x5, x7, x8, x9, x11 => by
    refine XP_br (c := x8 ≤ x11) (t := 86) (e := 61) (ls' := [.ref 31, .int x1, .int x2, .long x3, .null, .long x5, .null, .int x7, .int x8, .long x9, .null, .int x11]) (st' := []) (a' := a) [(.iload 11, 2, 11, .null), (.iload 8, 2, 8, .null), (.if_icmp .ge 28, 3, 86, .null)] (by decide +kernel) rfl ?_ ?_
    · refine XP_go (pc' := 31) (ls' := [.ref 31, .int x1, .int x2, .long (x3 + (x5 - x9)), .null, .long x5, .null, .int (x7 + 1), .int x8, .long x9, .null, .int x11]) (st' := []) (a' := a) [(.lload_n 3, 1, 3, .null), (.lload 5, 2, 5, .null), (.lload 9, 2, 9, .null), (.lsub, 1, 0, .null), (.ladd, 1, 0, .null), (.lstore_n 3, 1, 3, .null), (.iinc 7 1, 3, 7, .int 1), (.goto (-66), 3, 31, .null)] (by decide +kernel) rfl ?_
      refine XP_fg [true, true, true, true, false, true, false, true, false, false, false, false] ?_
      exact h31 x1 x2 (x3 + (x5 - x9)) x5 (x7 + 1)
    · refine XP_go (pc' := 54) (ls' := [.ref 31, .int x1, .int x2, .long x3, .null, .long x5, .null, .int x7, .int x8, .long ((x9 / 16) * (16 - (a 42 5)).toInt64), .null, .int (x11 + 1)]) (st' := []) (a' := a) [(.lload 9, 2, 9, .null), (.ldc2_w 138, 3, 0, .long 16), (.ldiv, 1, 0, .null), (.bipush 16, 2, 0, .int 16), (.aload_n 0, 1, 0, .null), (.getfield 41, 3, 1115, .null), (.iconst 5, 1, 0, .int 5), (.iaload, 1, 0, .null), (.isub, 1, 0, .null), (.i2l, 1, 0, .null), (.lmul, 1, 0, .null), (.lstore 9, 2, 9, .null), (.iinc 11 1, 3, 11, .int 1), (.goto (-29), 3, 54, .null)] (by decide +kernel) rfl ?_
      refine XP_fg [true, true, true, true, false, true, false, true, true, true, false, true] ?_
      exact x_M_lieOf_54 E N a k31 h31 n x1 x2 x3 x5 x7 x8 ((x9 / 16) * (16 - (a 42 5)).toInt64) (x11 + 1)
set_option maxHeartbeats 4000000 in
set_option maxRecDepth 100000 in
theorem x_M_lieOf_31 (E : eT) (N : Nat) (a : aT) : ∀ (n : Nat) (x1 : Int32) (x2 : Int32) (x3 : Int64) (x5 : Int64) (x7 : Int32), XP qL E md_M_lieOf 31 [.ref 31, .int x1, .int x2, .long x3, .null, .long x5, .null, .int x7, .null, .null, .null, .null] [] a (f_M_lieOf_31 N a n x1 x2 x3 x5 x7)
  | 0, _, _, _, _, _ => XP_no rfl
  | n + 1, x1, x2, x3, x5, x7 => by
    refine XP_br (c := 48 ≤ x7) (t := 100) (e := 38) (ls' := [.ref 31, .int x1, .int x2, .long x3, .null, .long x5, .null, .int x7, .null, .null, .null, .null]) (st' := []) (a' := a) [(.iload 7, 2, 7, .null), (.bipush 48, 2, 0, .int 48), (.if_icmp .ge 65, 3, 100, .null)] (by decide +kernel) rfl ?_ ?_
    · refine XP_go (pc' := 104) (ls' := [.ref 31, .int x1, .int x2, .long x3, .null, .long x5, .null, .int x7, .null, .null, .null, .null]) (st' := [.int x2, .long x5, .long x3]) (a' := a) [(.lload_n 3, 1, 3, .null), (.lload 5, 2, 5, .null), (.iload_n 2, 1, 2, .null)] (by decide +kernel) rfl ?_
      refine XP_SP (As := [.long x3, .long x5, .int x2]) (rest := []) (idx := 226) (by decide +kernel) ok_M_part mv_M_part (n := 3) ⟨lk_M_226, by decide +kernel⟩ rfl (Nat.le_of_ble_eq_true rfl) (Nat.le_of_ble_eq_true rfl) (qL_h rfl) (x_M_part E N x3 x5 x2 a) (fun q1 => ?_)
      exact XP_retJ (by decide +kernel)
    · refine XP_go (pc' := 42) (ls' := [.ref 31, .int x1, .int x2, .long x3, .null, .long x5, .null, .int x7, .null, .null, .null, .null]) (st' := [.int x1, .int x7, .ref 31]) (a' := a) [(.aload_n 0, 1, 0, .null), (.iload 7, 2, 7, .null), (.iload_n 1, 1, 1, .null)] (by decide +kernel) rfl ?_
      refine XP_VP (As := [.int x7, .int x1]) (rest := []) (b := 31) (idx := 247) (by decide +kernel) ok_M_nights mv_M_nights (n := 2) ⟨lk_M_247, by decide +kernel⟩ rfl rfl rfl rfl (Nat.le_of_ble_eq_true rfl) (Nat.le_of_ble_eq_true rfl) (qI_h rfl) (x_M_nights E N x7 x1 a) (fun q2 => ?_)
      refine XP_go (pc' := 54) (ls' := [.ref 31, .int x1, .int x2, .long x3, .null, .long x5, .null, .int x7, .int q2, .long x5, .null, .int 0]) (st' := []) (a' := a) [(.istore 8, 2, 8, .null), (.lload 5, 2, 5, .null), (.lstore 9, 2, 9, .null), (.iconst 0, 1, 0, .int 0), (.istore 11, 2, 11, .null)] (by decide +kernel) rfl ?_
      refine XP_fg [true, true, true, true, false, true, false, true, true, true, false, true] ?_
      exact x_M_lieOf_54 E N a (f_M_lieOf_31 N a n) (x_M_lieOf_31 E N a n) N x1 x2 x3 x5 x7 q2 x5 0
set_option maxHeartbeats 4000000 in
set_option maxRecDepth 100000 in
theorem x_M_lieOf_8 (E : eT) (N : Nat) (a : aT) : ∀ (n : Nat) (x1 : Int32) (x2 : Int32) (x3 : Int64) (x5 : Int64) (x7 : Int32), XP qL E md_M_lieOf 8 [.ref 31, .int x1, .int x2, .long x3, .null, .long x5, .null, .int x7, .null, .null, .null, .null] [] a (f_M_lieOf_8 N a n x1 x2 x3 x5 x7)
  | 0, _, _, _, _, _ => XP_no rfl
  | n + 1, x1, x2, x3, x5, x7 => by
    refine XP_br (c := x1 ≤ x7) (t := 28) (e := 14) (ls' := [.ref 31, .int x1, .int x2, .long x3, .null, .long x5, .null, .int x7, .null, .null, .null, .null]) (st' := []) (a' := a) [(.iload 7, 2, 7, .null), (.iload_n 1, 1, 1, .null), (.if_icmp .ge 17, 3, 28, .null)] (by decide +kernel) rfl ?_ ?_
    · refine XP_go (pc' := 31) (ls' := [.ref 31, .int x1, .int x2, .long x3, .null, .long x5, .null, .int 0, .null, .null, .null, .null]) (st' := []) (a' := a) [(.iconst 0, 1, 0, .int 0), (.istore 7, 2, 7, .null)] (by decide +kernel) rfl ?_
      refine XP_fg [true, true, true, true, false, true, false, true, false, false, false, false] ?_
      exact x_M_lieOf_31 E N a N x1 x2 x3 x5 0
    · refine XP_go (pc' := 8) (ls' := [.ref 31, .int x1, .int x2, .long x3, .null, .long (x5 * 16), .null, .int (x7 + 1), .null, .null, .null, .null]) (st' := []) (a' := a) [(.lload 5, 2, 5, .null), (.ldc2_w 138, 3, 0, .long 16), (.lmul, 1, 0, .null), (.lstore 5, 2, 5, .null), (.iinc 7 1, 3, 7, .int 1), (.goto (-17), 3, 8, .null)] (by decide +kernel) rfl ?_
      refine XP_fg [true, true, true, true, false, true, false, true, false, false, false, false] ?_
      exact x_M_lieOf_8 E N a n x1 x2 x3 (x5 * 16) (x7 + 1)
set_option maxHeartbeats 4000000 in
set_option maxRecDepth 100000 in
theorem x_M_lieOf (E : eT) (N : Nat) (p1 : Int32) (p2 : Int32) (a : aT) : XP qL E md_M_lieOf 0 [.ref 31, .int p1, .int p2, .null, .null, .null, .null, .null, .null, .null, .null, .null] [] a (f_M_lieOf N p1 p2 a) := by
  refine XP_go (pc' := 8) (ls' := [.ref 31, .int p1, .int p2, .long 0, .null, .long 1, .null, .int 0, .null, .null, .null, .null]) (st' := []) (a' := a) [(.lconst 0, 1, 0, .long 0), (.lstore_n 3, 1, 3, .null), (.lconst 1, 1, 0, .long 1), (.lstore 5, 2, 5, .null), (.iconst 0, 1, 0, .int 0), (.istore 7, 2, 7, .null)] (by decide +kernel) rfl ?_
  refine XP_fg [true, true, true, true, false, true, false, true, false, false, false, false] ?_
  exact x_M_lieOf_8 E N a N p1 p2 0 1 0
/-! ChestnutSticksModel.lie(II)J -/
def md_M_lie : md_T := (yX11_lie, cX11_lie, 3, (some .long), 4, 97)
set_option maxRecDepth 100000 in
theorem ok_M_lie : m_ok md_M_lie := ⟨List.mem_of_getElem? (i := 1234) (by decide +kernel), by decide +kernel, List.mem_of_getElem? (i := 64) (by decide +kernel), by decide +kernel⟩
theorem mv_M_lie : Cond.instanceMethod (m_y md_M_lie) ∈ lw_tbl ∧ Cond.selects (m_y md_M_lie).cls (m_y md_M_lie) (m_y md_M_lie) ∈ lw_tbl := ⟨List.mem_of_getElem? (i := 1232) (by decide +kernel), List.mem_of_getElem? (i := 1233) (by decide +kernel)⟩
def f_M_lie (N : Nat) (p1 : Int32) (p2 : Int32) (a : aT) : Option (Int64 × aT) :=
  (f_M_reads N a).bind fun q1 =>
    if (f_M_in p1.toInt64 0 12) = 0 then
      some ((f_M_no (-2)), q1.2)
    else
      if (f_M_isTwo p2) = 0 then
        some ((f_M_no (-2)), q1.2)
      else
        (f_M_lieOf N p1 p2 q1.2).bind fun q6 =>
          some (q6, q1.2)
set_option maxHeartbeats 4000000 in
set_option maxRecDepth 100000 in
theorem x_M_lie (E : eT) (N : Nat) (p1 : Int32) (p2 : Int32) (a : aT) : XI qL E md_M_lie 0 [.ref 31, .int p1, .int p2] [] a (f_M_lie N p1 p2 a) := by
  refine XI_go (pc' := 1) (ls' := [.ref 31, .int p1, .int p2]) (st' := [.ref 31]) (a' := a) [(.aload_n 0, 1, 0, .null)] (by decide +kernel) rfl ?_
  refine XI_VI (As := []) (rest := []) (b := 31) (idx := 127) (by decide +kernel) ok_M_reads mv_M_reads (n := 0) ⟨lk_M_127, by decide +kernel⟩ rfl rfl rfl rfl (Nat.le_of_ble_eq_true rfl) (Nat.le_of_ble_eq_true rfl) (qI_h rfl) (x_M_reads E N a) (fun q1 => ?_)
  refine XI_go (pc' := 11) (ls' := [.ref 31, .int p1, .int p2]) (st' := [.long 12, .long 0, .long p1.toInt64]) (a' := q1.2) [(.pop, 1, 0, .null), (.iload_n 1, 1, 1, .null), (.i2l, 1, 0, .null), (.lconst 0, 1, 0, .long 0), (.ldc2_w 250, 3, 0, .long 12)] (by decide +kernel) rfl ?_
  refine XI_ST (As := [.long p1.toInt64, .long 0, .long 12]) (rest := []) (idx := 74) (by decide +kernel) ok_M_in mv_M_in (n := 3) ⟨lk_M_74, by decide +kernel⟩ rfl (Nat.le_of_ble_eq_true rfl) (Nat.le_of_ble_eq_true rfl) (qZ_h rfl) (x_M_in E p1.toInt64 0 12 q1.2) ?_
  refine XI_br (c := (f_M_in p1.toInt64 0 12) = 0) (t := 33) (e := 17) (ls' := [.ref 31, .int p1, .int p2]) (st' := []) (a' := q1.2) [(.ifCond .eq 19, 3, 33, .null)] (by decide +kernel) rfl ?_ ?_
  · refine XI_go (pc' := 35) (ls' := [.ref 31, .int p1, .int p2]) (st' := [.int (-2)]) (a' := q1.2) [(.bipush (-2), 2, 0, .int (-2))] (by decide +kernel) rfl ?_
    refine XI_ST (As := [.int (-2)]) (rest := []) (idx := 230) (by decide +kernel) ok_M_no mv_M_no (n := 1) ⟨lk_M_230, by decide +kernel⟩ rfl (Nat.le_of_ble_eq_true rfl) (Nat.le_of_ble_eq_true rfl) (qL_h rfl) (x_M_no E (-2) q1.2) ?_
    exact XI_retJ (by decide +kernel)
  · refine XI_go (pc' := 18) (ls' := [.ref 31, .int p1, .int p2]) (st' := [.int p2]) (a' := q1.2) [(.iload_n 2, 1, 2, .null)] (by decide +kernel) rfl ?_
    refine XI_ST (As := [.int p2]) (rest := []) (idx := 252) (by decide +kernel) ok_M_isTwo mv_M_isTwo (n := 1) ⟨lk_M_252, by decide +kernel⟩ rfl (Nat.le_of_ble_eq_true rfl) (Nat.le_of_ble_eq_true rfl) (qZ_h rfl) (x_M_isTwo E p2 q1.2) ?_
    refine XI_br (c := (f_M_isTwo p2) = 0) (t := 33) (e := 24) (ls' := [.ref 31, .int p1, .int p2]) (st' := []) (a' := q1.2) [(.ifCond .eq 12, 3, 33, .null)] (by decide +kernel) rfl ?_ ?_
    · refine XI_go (pc' := 35) (ls' := [.ref 31, .int p1, .int p2]) (st' := [.int (-2)]) (a' := q1.2) [(.bipush (-2), 2, 0, .int (-2))] (by decide +kernel) rfl ?_
      refine XI_ST (As := [.int (-2)]) (rest := []) (idx := 230) (by decide +kernel) ok_M_no mv_M_no (n := 1) ⟨lk_M_230, by decide +kernel⟩ rfl (Nat.le_of_ble_eq_true rfl) (Nat.le_of_ble_eq_true rfl) (qL_h rfl) (x_M_no E (-2) q1.2) ?_
      exact XI_retJ (by decide +kernel)
    · refine XI_go (pc' := 27) (ls' := [.ref 31, .int p1, .int p2]) (st' := [.int p2, .int p1, .ref 31]) (a' := q1.2) [(.aload_n 0, 1, 0, .null), (.iload_n 1, 1, 1, .null), (.iload_n 2, 1, 2, .null)] (by decide +kernel) rfl ?_
      refine XI_VP (As := [.int p1, .int p2]) (rest := []) (b := 31) (idx := 255) (by decide +kernel) ok_M_lieOf mv_M_lieOf (n := 2) ⟨lk_M_255, by decide +kernel⟩ rfl rfl rfl rfl (Nat.le_of_ble_eq_true rfl) (Nat.le_of_ble_eq_true rfl) (qL_h rfl) (x_M_lieOf E N p1 p2 q1.2) (fun q6 => ?_)
      refine XI_go (pc' := 38) (ls' := [.ref 31, .int p1, .int p2]) (st' := [.long q6]) (a' := q1.2) [(.goto 8, 3, 38, .null)] (by decide +kernel) rfl ?_
      exact XI_retJ (by decide +kernel)
/-! ChestnutSticks$Tree.ripeOn(I)I -/
def md_E_ripeOn : md_T := (yX9_ripeOn, cX9_ripeOn, 4, (some .int), 2, 43)
set_option maxRecDepth 100000 in
theorem ok_E_ripeOn : m_ok md_E_ripeOn := ⟨List.mem_of_getElem? (i := 667) (by decide +kernel), by decide +kernel, List.mem_of_getElem? (i := 54) (by decide +kernel), by decide +kernel⟩
theorem mv_E_ripeOn : Cond.instanceMethod (m_y md_E_ripeOn) ∈ lw_tbl ∧ Cond.selects (m_y md_E_ripeOn).cls (m_y md_E_ripeOn) (m_y md_E_ripeOn) ∈ lw_tbl := ⟨List.mem_of_getElem? (i := 665) (by decide +kernel), List.mem_of_getElem? (i := 666) (by decide +kernel)⟩
def f_E_ripeOn_4 (N : Nat) (a : aT) : Nat → Int32 → Int32 → Int32 → Option Int32
  | 0 => fun _ _ _ => none
  | n + 1 => fun x1 x2 x3 =>
    if 48 ≤ x3 then
      some x2
    else
      (f_E_hasBall x3 a).bind fun q1 =>
        if q1 = 0 then
          f_E_ripeOn_4 N a n x1 (x2 + 0) (x3 + 1)
        else
          (f_E_hangsOn x3 x1 a).bind fun q2 =>
            if 2 < q2 then
              f_E_ripeOn_4 N a n x1 (x2 + 0) (x3 + 1)
            else
              f_E_ripeOn_4 N a n x1 (x2 + 1) (x3 + 1)
def f_E_ripeOn (N : Nat) (p1 : Int32) (a : aT) : Option Int32 :=
  f_E_ripeOn_4 N a N p1 0 0
set_option maxHeartbeats 4000000 in
set_option maxRecDepth 100000 in
theorem x_E_ripeOn_4 (E : eT) (N : Nat) (a : aT) : ∀ (n : Nat) (x1 : Int32) (x2 : Int32) (x3 : Int32), XP qI E md_E_ripeOn 4 [.ref 1, .int x1, .int x2, .int x3] [] a (f_E_ripeOn_4 N a n x1 x2 x3)
  | 0, _, _, _ => XP_no rfl
  | n + 1, x1, x2, x3 => by
    refine XP_br (c := 48 ≤ x3) (t := 42) (e := 10) (ls' := [.ref 1, .int x1, .int x2, .int x3]) (st' := []) (a' := a) [(.iload_n 3, 1, 3, .null), (.bipush 48, 2, 0, .int 48), (.if_icmp .ge 35, 3, 42, .null)] (by decide +kernel) rfl ?_ ?_
    · refine XP_go (pc' := 43) (ls' := [.ref 1, .int x1, .int x2, .int x3]) (st' := [.int x2]) (a' := a) [(.iload_n 2, 1, 2, .null)] (by decide +kernel) rfl ?_
      exact XP_retI (by decide +kernel)
    · refine XP_go (pc' := 13) (ls' := [.ref 1, .int x1, .int x2, .int x3]) (st' := [.int x3, .ref 1, .int x2]) (a' := a) [(.iload_n 2, 1, 2, .null), (.aload_n 0, 1, 0, .null), (.iload_n 3, 1, 3, .null)] (by decide +kernel) rfl ?_
      refine XP_VP (As := [.int x3]) (rest := [.int x2]) (b := 1) (idx := 45) (by decide +kernel) ok_E_hasBall mv_E_hasBall (n := 1) ⟨lk_E_45, by decide +kernel⟩ rfl rfl rfl rfl (Nat.le_of_ble_eq_true rfl) (Nat.le_of_ble_eq_true rfl) (qZ_h rfl) (x_E_hasBall E x3 a) (fun q1 => ?_)
      refine XP_br (c := q1 = 0) (t := 33) (e := 19) (ls' := [.ref 1, .int x1, .int x2, .int x3]) (st' := [.int x2]) (a' := a) [(.ifCond .eq 17, 3, 33, .null)] (by decide +kernel) rfl ?_ ?_
      · refine XP_go (pc' := 4) (ls' := [.ref 1, .int x1, .int (x2 + 0), .int (x3 + 1)]) (st' := []) (a' := a) [(.iconst 0, 1, 0, .int 0), (.iadd, 1, 0, .null), (.istore_n 2, 1, 2, .null), (.iinc 3 1, 3, 3, .int 1), (.goto (-35), 3, 4, .null)] (by decide +kernel) rfl ?_
        refine XP_fg [true, true, true, true] ?_
        exact x_E_ripeOn_4 E N a n x1 (x2 + 0) (x3 + 1)
      · refine XP_go (pc' := 22) (ls' := [.ref 1, .int x1, .int x2, .int x3]) (st' := [.int x1, .int x3, .ref 1, .int x2]) (a' := a) [(.aload_n 0, 1, 0, .null), (.iload_n 3, 1, 3, .null), (.iload_n 1, 1, 1, .null)] (by decide +kernel) rfl ?_
        refine XP_VP (As := [.int x3, .int x1]) (rest := [.int x2]) (b := 1) (idx := 48) (by decide +kernel) ok_E_hangsOn mv_E_hangsOn (n := 2) ⟨lk_E_48, by decide +kernel⟩ rfl rfl rfl rfl (Nat.le_of_ble_eq_true rfl) (Nat.le_of_ble_eq_true rfl) (qI_h rfl) (x_E_hangsOn E x3 x1 a) (fun q2 => ?_)
        refine XP_br (c := 2 < q2) (t := 33) (e := 29) (ls' := [.ref 1, .int x1, .int x2, .int x3]) (st' := [.int x2]) (a' := a) [(.iconst 2, 1, 0, .int 2), (.if_icmp .gt 7, 3, 33, .null)] (by decide +kernel) rfl ?_ ?_
        · refine XP_go (pc' := 4) (ls' := [.ref 1, .int x1, .int (x2 + 0), .int (x3 + 1)]) (st' := []) (a' := a) [(.iconst 0, 1, 0, .int 0), (.iadd, 1, 0, .null), (.istore_n 2, 1, 2, .null), (.iinc 3 1, 3, 3, .int 1), (.goto (-35), 3, 4, .null)] (by decide +kernel) rfl ?_
          refine XP_fg [true, true, true, true] ?_
          exact x_E_ripeOn_4 E N a n x1 (x2 + 0) (x3 + 1)
        · refine XP_go (pc' := 4) (ls' := [.ref 1, .int x1, .int (x2 + 1), .int (x3 + 1)]) (st' := []) (a' := a) [(.iconst 1, 1, 0, .int 1), (.goto 4, 3, 34, .null), (.iadd, 1, 0, .null), (.istore_n 2, 1, 2, .null), (.iinc 3 1, 3, 3, .int 1), (.goto (-35), 3, 4, .null)] (by decide +kernel) rfl ?_
          refine XP_fg [true, true, true, true] ?_
          exact x_E_ripeOn_4 E N a n x1 (x2 + 1) (x3 + 1)
set_option maxHeartbeats 4000000 in
set_option maxRecDepth 100000 in
theorem x_E_ripeOn (E : eT) (N : Nat) (p1 : Int32) (a : aT) : XP qI E md_E_ripeOn 0 [.ref 1, .int p1, .null, .null] [] a (f_E_ripeOn N p1 a) := by
  refine XP_go (pc' := 4) (ls' := [.ref 1, .int p1, .int 0, .int 0]) (st' := []) (a' := a) [(.iconst 0, 1, 0, .int 0), (.istore_n 2, 1, 2, .null), (.iconst 0, 1, 0, .int 0), (.istore_n 3, 1, 3, .null)] (by decide +kernel) rfl ?_
  refine XP_fg [true, true, true, true] ?_
  exact x_E_ripeOn_4 E N a N p1 0 0
/-! ChestnutSticks.ripe(I)I -/
def md_C_ripe : md_T := (yX10_ripe, cX10_ripe, 2, (some .int), 3, 66)
set_option maxRecDepth 100000 in
theorem ok_C_ripe : m_ok md_C_ripe := ⟨List.mem_of_getElem? (i := 663) (by decide +kernel), by decide +kernel, List.mem_of_getElem? (i := 53) (by decide +kernel), by decide +kernel⟩
theorem mv_C_ripe : Cond.instanceMethod (m_y md_C_ripe) ∈ lw_tbl ∧ Cond.selects (m_y md_C_ripe).cls (m_y md_C_ripe) (m_y md_C_ripe) ∈ lw_tbl := ⟨List.mem_of_getElem? (i := 661) (by decide +kernel), List.mem_of_getElem? (i := 662) (by decide +kernel)⟩
def f_C_ripe (N : Nat) (p1 : Int32) (a : aT) : Option Int32 :=
  if (f_C_isBelow p1 30) = 0 then
    some (-2)
  else
    (f_E_ripeOn N p1 a).bind fun q2 =>
      some q2
set_option maxHeartbeats 4000000 in
set_option maxRecDepth 100000 in
theorem x_C_ripe (E : eT) (N : Nat) (p1 : Int32) (a : aT) : XP qI E md_C_ripe 0 [.ref 0, .int p1] [] a (f_C_ripe N p1 a) := by
  refine XP_go (pc' := 3) (ls' := [.ref 0, .int p1]) (st' := [.int 30, .int p1]) (a' := a) [(.iload_n 1, 1, 1, .null), (.bipush 30, 2, 0, .int 30)] (by decide +kernel) rfl ?_
  refine XP_ST (As := [.int p1, .int 30]) (rest := []) (idx := 110) (by decide +kernel) ok_C_isBelow mv_C_isBelow (n := 2) ⟨lk_C_110, by decide +kernel⟩ rfl (Nat.le_of_ble_eq_true rfl) (Nat.le_of_ble_eq_true rfl) (qZ_h rfl) (x_C_isBelow E p1 30 a) ?_
  refine XP_br (c := (f_C_isBelow p1 30) = 0) (t := 20) (e := 9) (ls' := [.ref 0, .int p1]) (st' := []) (a' := a) [(.ifCond .eq 14, 3, 20, .null)] (by decide +kernel) rfl ?_ ?_
  · refine XP_go (pc' := 22) (ls' := [.ref 0, .int p1]) (st' := [.int (-2)]) (a' := a) [(.bipush (-2), 2, 0, .int (-2))] (by decide +kernel) rfl ?_
    exact XP_retI (by decide +kernel)
  · refine XP_go (pc' := 14) (ls' := [.ref 0, .int p1]) (st' := [.int p1, .ref 1]) (a' := a) [(.aload_n 0, 1, 0, .null), (.getfield 10, 3, 1000, .null), (.iload_n 1, 1, 1, .null)] (by decide +kernel) rfl ?_
    refine XP_VP (As := [.int p1]) (rest := []) (b := 1) (idx := 211) (by decide +kernel) ok_E_ripeOn mv_E_ripeOn (n := 1) ⟨lk_C_211, by decide +kernel⟩ rfl rfl rfl rfl (Nat.le_of_ble_eq_true rfl) (Nat.le_of_ble_eq_true rfl) (qI_h rfl) (x_E_ripeOn E N p1 a) (fun q2 => ?_)
    refine XP_go (pc' := 22) (ls' := [.ref 0, .int p1]) (st' := [.int q2]) (a' := a) [(.goto 5, 3, 22, .null)] (by decide +kernel) rfl ?_
    exact XP_retI (by decide +kernel)
/-! ChestnutSticksModel.ripeOf(I)I -/
def md_M_ripeOf : md_T := (yX11_ripeOf, cX11_ripeOf, 4, (some .int), 2, 42)
set_option maxRecDepth 100000 in
theorem ok_M_ripeOf : m_ok md_M_ripeOf := ⟨List.mem_of_getElem? (i := 1255) (by decide +kernel), by decide +kernel, List.mem_of_getElem? (i := 64) (by decide +kernel), by decide +kernel⟩
theorem mv_M_ripeOf : Cond.instanceMethod (m_y md_M_ripeOf) ∈ lw_tbl ∧ Cond.selects (m_y md_M_ripeOf).cls (m_y md_M_ripeOf) (m_y md_M_ripeOf) ∈ lw_tbl := ⟨List.mem_of_getElem? (i := 1254) (by decide +kernel), List.mem_of_getElem? (i := 43) (by decide +kernel)⟩
def f_M_ripeOf_4 (N : Nat) (a : aT) : Nat → Int32 → Int32 → Int32 → Option Int32
  | 0 => fun _ _ _ => none
  | n + 1 => fun x1 x2 x3 =>
    if 48 ≤ x3 then
      some x2
    else
      if inb x3 48 then
        if (a 38 (ix x3)) = (-1) then
          f_M_ripeOf_4 N a n x1 (x2 + 0) (x3 + 1)
        else
          if inb x3 48 then
            if 2 < (f_M_hangsIn (a 38 (ix x3)) x1) then
              f_M_ripeOf_4 N a n x1 (x2 + 0) (x3 + 1)
            else
              f_M_ripeOf_4 N a n x1 (x2 + 1) (x3 + 1)
          else none
      else none
def f_M_ripeOf (N : Nat) (p1 : Int32) (a : aT) : Option Int32 :=
  f_M_ripeOf_4 N a N p1 0 0
set_option maxHeartbeats 4000000 in
set_option maxRecDepth 100000 in
theorem x_M_ripeOf_4 (E : eT) (N : Nat) (a : aT) : ∀ (n : Nat) (x1 : Int32) (x2 : Int32) (x3 : Int32), XP qI E md_M_ripeOf 4 [.ref 31, .int x1, .int x2, .int x3] [] a (f_M_ripeOf_4 N a n x1 x2 x3)
  | 0, _, _, _ => XP_no rfl
  | n + 1, x1, x2, x3 => by
    refine XP_br (c := 48 ≤ x3) (t := 48) (e := 10) (ls' := [.ref 31, .int x1, .int x2, .int x3]) (st' := []) (a' := a) [(.iload_n 3, 1, 3, .null), (.bipush 48, 2, 0, .int 48), (.if_icmp .ge 41, 3, 48, .null)] (by decide +kernel) rfl ?_ ?_
    · refine XP_go (pc' := 49) (ls' := [.ref 31, .int x1, .int x2, .int x3]) (st' := [.int x2]) (a' := a) [(.iload_n 2, 1, 2, .null)] (by decide +kernel) rfl ?_
      exact XP_retI (by decide +kernel)
    · refine XP_ck (c := inb x3 48) (pc' := 17) (ls' := [.ref 31, .int x1, .int x2, .int x3]) (st' := [.int (a 38 (ix x3)), .int x2]) (a' := a) [(.iload_n 2, 1, 2, .null), (.aload_n 0, 1, 0, .null), (.getfield 29, 3, 1109, .null), (.iload_n 3, 1, 3, .null), (.iaload, 1, 0, .null)] (by decide +kernel) rfl ?_
      refine XP_br (c := (a 38 (ix x3)) = (-1)) (t := 39) (e := 21) (ls' := [.ref 31, .int x1, .int x2, .int x3]) (st' := [.int x2]) (a' := a) [(.iconst (-1), 1, 0, .int (-1)), (.if_icmp .eq 21, 3, 39, .null)] (by decide +kernel) rfl ?_ ?_
      · refine XP_go (pc' := 4) (ls' := [.ref 31, .int x1, .int (x2 + 0), .int (x3 + 1)]) (st' := []) (a' := a) [(.iconst 0, 1, 0, .int 0), (.iadd, 1, 0, .null), (.istore_n 2, 1, 2, .null), (.iinc 3 1, 3, 3, .int 1), (.goto (-41), 3, 4, .null)] (by decide +kernel) rfl ?_
        refine XP_fg [true, true, true, true] ?_
        exact x_M_ripeOf_4 E N a n x1 (x2 + 0) (x3 + 1)
      · refine XP_ck (c := inb x3 48) (pc' := 27) (ls' := [.ref 31, .int x1, .int x2, .int x3]) (st' := [.int (a 38 (ix x3)), .int x2]) (a' := a) [(.aload_n 0, 1, 0, .null), (.getfield 29, 3, 1109, .null), (.iload_n 3, 1, 3, .null), (.iaload, 1, 0, .null)] (by decide +kernel) rfl ?_
        refine XP_go (pc' := 28) (ls' := [.ref 31, .int x1, .int x2, .int x3]) (st' := [.int x1, .int (a 38 (ix x3)), .int x2]) (a' := a) [(.iload_n 1, 1, 1, .null)] (by decide +kernel) rfl ?_
        refine XP_ST (As := [.int (a 38 (ix x3)), .int x1]) (rest := [.int x2]) (idx := 156) (by decide +kernel) ok_M_hangsIn mv_M_hangsIn (n := 2) ⟨lk_M_156, by decide +kernel⟩ rfl (Nat.le_of_ble_eq_true rfl) (Nat.le_of_ble_eq_true rfl) (qI_h rfl) (x_M_hangsIn E (a 38 (ix x3)) x1 a) ?_
        refine XP_br (c := 2 < (f_M_hangsIn (a 38 (ix x3)) x1)) (t := 39) (e := 35) (ls' := [.ref 31, .int x1, .int x2, .int x3]) (st' := [.int x2]) (a' := a) [(.iconst 2, 1, 0, .int 2), (.if_icmp .gt 7, 3, 39, .null)] (by decide +kernel) rfl ?_ ?_
        · refine XP_go (pc' := 4) (ls' := [.ref 31, .int x1, .int (x2 + 0), .int (x3 + 1)]) (st' := []) (a' := a) [(.iconst 0, 1, 0, .int 0), (.iadd, 1, 0, .null), (.istore_n 2, 1, 2, .null), (.iinc 3 1, 3, 3, .int 1), (.goto (-41), 3, 4, .null)] (by decide +kernel) rfl ?_
          refine XP_fg [true, true, true, true] ?_
          exact x_M_ripeOf_4 E N a n x1 (x2 + 0) (x3 + 1)
        · refine XP_go (pc' := 4) (ls' := [.ref 31, .int x1, .int (x2 + 1), .int (x3 + 1)]) (st' := []) (a' := a) [(.iconst 1, 1, 0, .int 1), (.goto 4, 3, 40, .null), (.iadd, 1, 0, .null), (.istore_n 2, 1, 2, .null), (.iinc 3 1, 3, 3, .int 1), (.goto (-41), 3, 4, .null)] (by decide +kernel) rfl ?_
          refine XP_fg [true, true, true, true] ?_
          exact x_M_ripeOf_4 E N a n x1 (x2 + 1) (x3 + 1)
set_option maxHeartbeats 4000000 in
set_option maxRecDepth 100000 in
theorem x_M_ripeOf (E : eT) (N : Nat) (p1 : Int32) (a : aT) : XP qI E md_M_ripeOf 0 [.ref 31, .int p1, .null, .null] [] a (f_M_ripeOf N p1 a) := by
  refine XP_go (pc' := 4) (ls' := [.ref 31, .int p1, .int 0, .int 0]) (st' := []) (a' := a) [(.iconst 0, 1, 0, .int 0), (.istore_n 2, 1, 2, .null), (.iconst 0, 1, 0, .int 0), (.istore_n 3, 1, 3, .null)] (by decide +kernel) rfl ?_
  refine XP_fg [true, true, true, true] ?_
  exact x_M_ripeOf_4 E N a N p1 0 0
/-! ChestnutSticksModel.ripe(I)I -/
def md_M_ripe : md_T := (yX11_ripe, cX11_ripe, 2, (some .int), 3, 69)
set_option maxRecDepth 100000 in
theorem ok_M_ripe : m_ok md_M_ripe := ⟨List.mem_of_getElem? (i := 1250) (by decide +kernel), by decide +kernel, List.mem_of_getElem? (i := 64) (by decide +kernel), by decide +kernel⟩
theorem mv_M_ripe : Cond.instanceMethod (m_y md_M_ripe) ∈ lw_tbl ∧ Cond.selects (m_y md_M_ripe).cls (m_y md_M_ripe) (m_y md_M_ripe) ∈ lw_tbl := ⟨List.mem_of_getElem? (i := 1248) (by decide +kernel), List.mem_of_getElem? (i := 1249) (by decide +kernel)⟩
def f_M_ripe (N : Nat) (p1 : Int32) (a : aT) : Option (Int32 × aT) :=
  (f_M_reads N a).bind fun q1 =>
    if (f_M_in p1.toInt64 0 29) = 0 then
      some ((-2), q1.2)
    else
      (f_M_ripeOf N p1 q1.2).bind fun q3 =>
        some (q3, q1.2)
set_option maxHeartbeats 4000000 in
set_option maxRecDepth 100000 in
theorem x_M_ripe (E : eT) (N : Nat) (p1 : Int32) (a : aT) : XI qI E md_M_ripe 0 [.ref 31, .int p1] [] a (f_M_ripe N p1 a) := by
  refine XI_go (pc' := 1) (ls' := [.ref 31, .int p1]) (st' := [.ref 31]) (a' := a) [(.aload_n 0, 1, 0, .null)] (by decide +kernel) rfl ?_
  refine XI_VI (As := []) (rest := []) (b := 31) (idx := 127) (by decide +kernel) ok_M_reads mv_M_reads (n := 0) ⟨lk_M_127, by decide +kernel⟩ rfl rfl rfl rfl (Nat.le_of_ble_eq_true rfl) (Nat.le_of_ble_eq_true rfl) (qI_h rfl) (x_M_reads E N a) (fun q1 => ?_)
  refine XI_go (pc' := 11) (ls' := [.ref 31, .int p1]) (st' := [.long 29, .long 0, .long p1.toInt64]) (a' := q1.2) [(.pop, 1, 0, .null), (.iload_n 1, 1, 1, .null), (.i2l, 1, 0, .null), (.lconst 0, 1, 0, .long 0), (.ldc2_w 259, 3, 0, .long 29)] (by decide +kernel) rfl ?_
  refine XI_ST (As := [.long p1.toInt64, .long 0, .long 29]) (rest := []) (idx := 74) (by decide +kernel) ok_M_in mv_M_in (n := 3) ⟨lk_M_74, by decide +kernel⟩ rfl (Nat.le_of_ble_eq_true rfl) (Nat.le_of_ble_eq_true rfl) (qZ_h rfl) (x_M_in E p1.toInt64 0 29 q1.2) ?_
  refine XI_br (c := (f_M_in p1.toInt64 0 29) = 0) (t := 25) (e := 17) (ls' := [.ref 31, .int p1]) (st' := []) (a' := q1.2) [(.ifCond .eq 11, 3, 25, .null)] (by decide +kernel) rfl ?_ ?_
  · refine XI_go (pc' := 27) (ls' := [.ref 31, .int p1]) (st' := [.int (-2)]) (a' := q1.2) [(.bipush (-2), 2, 0, .int (-2))] (by decide +kernel) rfl ?_
    exact XI_retI (by decide +kernel)
  · refine XI_go (pc' := 19) (ls' := [.ref 31, .int p1]) (st' := [.int p1, .ref 31]) (a' := q1.2) [(.aload_n 0, 1, 0, .null), (.iload_n 1, 1, 1, .null)] (by decide +kernel) rfl ?_
    refine XI_VP (As := [.int p1]) (rest := []) (b := 31) (idx := 261) (by decide +kernel) ok_M_ripeOf mv_M_ripeOf (n := 1) ⟨lk_M_261, by decide +kernel⟩ rfl rfl rfl rfl (Nat.le_of_ble_eq_true rfl) (Nat.le_of_ble_eq_true rfl) (qI_h rfl) (x_M_ripeOf E N p1 q1.2) (fun q3 => ?_)
    refine XI_go (pc' := 27) (ls' := [.ref 31, .int p1]) (st' := [.int q3]) (a' := q1.2) [(.goto 5, 3, 27, .null)] (by decide +kernel) rfl ?_
    exact XI_retI (by decide +kernel)
/-! ChestnutSticks$Season.fillRipe()V -/
def md_S_fillRipe : md_T := (yX3_fillRipe, cX3_fillRipe, 2, none, 3, 66)
set_option maxRecDepth 100000 in
theorem ok_S_fillRipe : m_ok md_S_fillRipe := ⟨List.mem_of_getElem? (i := 681) (by decide +kernel), by decide +kernel, List.mem_of_getElem? (i := 60) (by decide +kernel), by decide +kernel⟩
theorem mv_S_fillRipe : Cond.instanceMethod (m_y md_S_fillRipe) ∈ lw_tbl ∧ Cond.selects (m_y md_S_fillRipe).cls (m_y md_S_fillRipe) (m_y md_S_fillRipe) ∈ lw_tbl := ⟨List.mem_of_getElem? (i := 680) (by decide +kernel), List.mem_of_getElem? (i := 14) (by decide +kernel)⟩
def f_S_fillRipe_2 (N : Nat) : Nat → Int32 → aT → Option (Unit × aT)
  | 0 => fun _ _ => none
  | n + 1 => fun x1 a =>
    if 30 ≤ x1 then
      some ((), a)
    else
      (f_E_ripeOn N x1 a).bind fun q1 =>
        if inb x1 30 then
          f_S_fillRipe_2 N n (x1 + 1) (upA a 20 (ix x1) q1)
        else none
def f_S_fillRipe (N : Nat) (a : aT) : Option (Unit × aT) :=
  f_S_fillRipe_2 N N 0 a
set_option maxHeartbeats 4000000 in
set_option maxRecDepth 100000 in
theorem x_S_fillRipe_2 (E : eT) (N : Nat) : ∀ (n : Nat) (x1 : Int32) (a : aT), XI qV E md_S_fillRipe 2 [.ref 19, .int x1] [] a (f_S_fillRipe_2 N n x1 a)
  | 0, _, _ => XI_no rfl
  | n + 1, x1, a => by
    refine XI_br (c := 30 ≤ x1) (t := 28) (e := 8) (ls' := [.ref 19, .int x1]) (st' := []) (a' := a) [(.iload_n 1, 1, 1, .null), (.bipush 30, 2, 0, .int 30), (.if_icmp .ge 23, 3, 28, .null)] (by decide +kernel) rfl ?_ ?_
    · exact XI_retV (by decide +kernel)
    · refine XI_go (pc' := 18) (ls' := [.ref 19, .int x1]) (st' := [.int x1, .ref 1, .int x1, .ref 20]) (a' := a) [(.aload_n 0, 1, 0, .null), (.getfield 9, 3, 301, .null), (.iload_n 1, 1, 1, .null), (.aload_n 0, 1, 0, .null), (.getfield 15, 3, 300, .null), (.iload_n 1, 1, 1, .null)] (by decide +kernel) rfl ?_
      refine XI_VP (As := [.int x1]) (rest := [.int x1, .ref 20]) (b := 1) (idx := 49) (by decide +kernel) ok_E_ripeOn mv_E_ripeOn (n := 1) ⟨lk_S_49, by decide +kernel⟩ rfl rfl rfl rfl (Nat.le_of_ble_eq_true rfl) (Nat.le_of_ble_eq_true rfl) (qI_h rfl) (x_E_ripeOn E N x1 a) (fun q1 => ?_)
      refine XI_ck (c := inb x1 30) (pc' := 22) (ls' := [.ref 19, .int x1]) (st' := []) (a' := (upA a 20 (ix x1) q1)) [(.iastore, 1, 0, .null)] (by decide +kernel) rfl ?_
      refine XI_go (pc' := 2) (ls' := [.ref 19, .int (x1 + 1)]) (st' := []) (a' := (upA a 20 (ix x1) q1)) [(.iinc 1 1, 3, 1, .int 1), (.goto (-23), 3, 2, .null)] (by decide +kernel) rfl ?_
      refine XI_fg [true, true] ?_
      exact x_S_fillRipe_2 E N n (x1 + 1) (upA a 20 (ix x1) q1)
set_option maxHeartbeats 4000000 in
set_option maxRecDepth 100000 in
theorem x_S_fillRipe (E : eT) (N : Nat) (a : aT) : XI qV E md_S_fillRipe 0 [.ref 19, .null] [] a (f_S_fillRipe N a) := by
  refine XI_go (pc' := 2) (ls' := [.ref 19, .int 0]) (st' := []) (a' := a) [(.iconst 0, 1, 0, .int 0), (.istore_n 1, 1, 1, .null)] (by decide +kernel) rfl ?_
  refine XI_fg [true, true] ?_
  exact x_S_fillRipe_2 E N N 0 a
/-! ChestnutSticks$Season.betterAhead(II)I -/
def md_S_betterAhead : md_T := (yX3_betterAhead, cX3_betterAhead, 5, (some .int), 0, 0)
set_option maxRecDepth 100000 in
theorem ok_S_betterAhead : m_ok md_S_betterAhead := ⟨List.mem_of_getElem? (i := 686) (by decide +kernel), by decide +kernel, List.mem_of_getElem? (i := 60) (by decide +kernel), by decide +kernel⟩
theorem mv_S_betterAhead : Cond.instanceMethod (m_y md_S_betterAhead) ∈ lw_tbl ∧ Cond.selects (m_y md_S_betterAhead).cls (m_y md_S_betterAhead) (m_y md_S_betterAhead) ∈ lw_tbl := ⟨List.mem_of_getElem? (i := 685) (by decide +kernel), List.mem_of_getElem? (i := 15) (by decide +kernel)⟩
def f_S_betterAhead_5 (N : Nat) (a : aT) : Nat → Int32 → Int32 → Int32 → Int32 → Option Int32
  | 0 => fun _ _ _ _ => none
  | n + 1 => fun x1 x2 x3 x4 =>
    if x1 ≤ x4 then
      some x3
    else
      if 30 ≤ x1 then
        some x3
      else
        if inb x4 30 then
          if inb x1 30 then
            if (x2 * (a 20 (ix x4))) ≤ (a 20 (ix x1)) then
              f_S_betterAhead_5 N a n x1 x2 x3 (x4 + 1)
            else
              f_S_betterAhead_5 N a n x1 x2 x4 (x4 + 1)
          else none
        else none
def f_S_betterAhead (N : Nat) (p1 : Int32) (p2 : Int32) (a : aT) : Option Int32 :=
  f_S_betterAhead_5 N a N p1 p2 (-1) 0
set_option maxHeartbeats 4000000 in
set_option maxRecDepth 100000 in
theorem x_S_betterAhead_5 (E : eT) (N : Nat) (a : aT) : ∀ (n : Nat) (x1 : Int32) (x2 : Int32) (x3 : Int32) (x4 : Int32), XP qI E md_S_betterAhead 5 [.ref 19, .int x1, .int x2, .int x3, .int x4] [] a (f_S_betterAhead_5 N a n x1 x2 x3 x4)
  | 0, _, _, _, _ => XP_no rfl
  | n + 1, x1, x2, x3, x4 => by
    refine XP_br (c := x1 ≤ x4) (t := 48) (e := 11) (ls' := [.ref 19, .int x1, .int x2, .int x3, .int x4]) (st' := []) (a' := a) [(.iload 4, 2, 4, .null), (.iload_n 1, 1, 1, .null), (.if_icmp .ge 40, 3, 48, .null)] (by decide +kernel) rfl ?_ ?_
    · refine XP_go (pc' := 49) (ls' := [.ref 19, .int x1, .int x2, .int x3, .int x4]) (st' := [.int x3]) (a' := a) [(.iload_n 3, 1, 3, .null)] (by decide +kernel) rfl ?_
      exact XP_retI (by decide +kernel)
    · refine XP_br (c := 30 ≤ x1) (t := 48) (e := 17) (ls' := [.ref 19, .int x1, .int x2, .int x3, .int x4]) (st' := []) (a' := a) [(.iload_n 1, 1, 1, .null), (.bipush 30, 2, 0, .int 30), (.if_icmp .ge 34, 3, 48, .null)] (by decide +kernel) rfl ?_ ?_
      · refine XP_go (pc' := 49) (ls' := [.ref 19, .int x1, .int x2, .int x3, .int x4]) (st' := [.int x3]) (a' := a) [(.iload_n 3, 1, 3, .null)] (by decide +kernel) rfl ?_
        exact XP_retI (by decide +kernel)
      · refine XP_ck (c := inb x4 30) (pc' := 25) (ls' := [.ref 19, .int x1, .int x2, .int x3, .int x4]) (st' := [.int (a 20 (ix x4)), .int x2]) (a' := a) [(.iload_n 2, 1, 2, .null), (.aload_n 0, 1, 0, .null), (.getfield 9, 3, 301, .null), (.iload 4, 2, 4, .null), (.iaload, 1, 0, .null)] (by decide +kernel) rfl ?_
        refine XP_ck (c := inb x1 30) (pc' := 32) (ls' := [.ref 19, .int x1, .int x2, .int x3, .int x4]) (st' := [.int (a 20 (ix x1)), .int (x2 * (a 20 (ix x4)))]) (a' := a) [(.imul, 1, 0, .null), (.aload_n 0, 1, 0, .null), (.getfield 9, 3, 301, .null), (.iload_n 1, 1, 1, .null), (.iaload, 1, 0, .null)] (by decide +kernel) rfl ?_
        refine XP_br (c := (x2 * (a 20 (ix x4))) ≤ (a 20 (ix x1))) (t := 40) (e := 35) (ls' := [.ref 19, .int x1, .int x2, .int x3, .int x4]) (st' := []) (a' := a) [(.if_icmp .le 8, 3, 40, .null)] (by decide +kernel) rfl ?_ ?_
        · refine XP_go (pc' := 5) (ls' := [.ref 19, .int x1, .int x2, .int x3, .int (x4 + 1)]) (st' := []) (a' := a) [(.iload_n 3, 1, 3, .null), (.istore_n 3, 1, 3, .null), (.iinc 4 1, 3, 4, .int 1), (.goto (-40), 3, 5, .null)] (by decide +kernel) rfl ?_
          refine XP_fg [true, true, true, true, true] ?_
          exact x_S_betterAhead_5 E N a n x1 x2 x3 (x4 + 1)
        · refine XP_go (pc' := 5) (ls' := [.ref 19, .int x1, .int x2, .int x4, .int (x4 + 1)]) (st' := []) (a' := a) [(.iload 4, 2, 4, .null), (.goto 4, 3, 41, .null), (.istore_n 3, 1, 3, .null), (.iinc 4 1, 3, 4, .int 1), (.goto (-40), 3, 5, .null)] (by decide +kernel) rfl ?_
          refine XP_fg [true, true, true, true, true] ?_
          exact x_S_betterAhead_5 E N a n x1 x2 x4 (x4 + 1)
set_option maxHeartbeats 4000000 in
set_option maxRecDepth 100000 in
theorem x_S_betterAhead (E : eT) (N : Nat) (p1 : Int32) (p2 : Int32) (a : aT) : XP qI E md_S_betterAhead 0 [.ref 19, .int p1, .int p2, .null, .null] [] a (f_S_betterAhead N p1 p2 a) := by
  refine XP_go (pc' := 5) (ls' := [.ref 19, .int p1, .int p2, .int (-1), .int 0]) (st' := []) (a' := a) [(.iconst (-1), 1, 0, .int (-1)), (.istore_n 3, 1, 3, .null), (.iconst 0, 1, 0, .int 0), (.istore 4, 2, 4, .null)] (by decide +kernel) rfl ?_
  refine XP_fg [true, true, true, true, true] ?_
  exact x_S_betterAhead_5 E N a N p1 p2 (-1) 0
/-! ChestnutSticks$Season.restBits(I)I -/
def md_S_restBits : md_T := (yX3_restBits, cX3_restBits, 4, (some .int), 4, 87)
set_option maxRecDepth 100000 in
theorem ok_S_restBits : m_ok md_S_restBits := ⟨List.mem_of_getElem? (i := 677) (by decide +kernel), by decide +kernel, List.mem_of_getElem? (i := 60) (by decide +kernel), by decide +kernel⟩
theorem mv_S_restBits : Cond.instanceMethod (m_y md_S_restBits) ∈ lw_tbl ∧ Cond.selects (m_y md_S_restBits).cls (m_y md_S_restBits) (m_y md_S_restBits) ∈ lw_tbl := ⟨List.mem_of_getElem? (i := 675) (by decide +kernel), List.mem_of_getElem? (i := 676) (by decide +kernel)⟩
def f_S_restBits_8 (N : Nat) : Nat → Int32 → Int32 → Int32 → aT → Option (Int32 × aT)
  | 0 => fun _ _ _ _ => none
  | n + 1 => fun x1 x2 x3 a =>
    if 30 ≤ x3 then
      some (x2, a)
    else
      (f_S_betterAhead N x3 x1 a).bind fun q2 =>
        if q2 = (-1) then
          f_S_restBits_8 N n x1 (x2 ||| (i_shl 1 x3)) (x3 + 1) a
        else
          f_S_restBits_8 N n x1 (x2 ||| 0) (x3 + 1) a
def f_S_restBits (N : Nat) (p1 : Int32) (a : aT) : Option (Int32 × aT) :=
  (f_S_fillRipe N a).bind fun q1 =>
    f_S_restBits_8 N N p1 0 0 q1.2
set_option maxHeartbeats 4000000 in
set_option maxRecDepth 100000 in
theorem x_S_restBits_8 (E : eT) (N : Nat) : ∀ (n : Nat) (x1 : Int32) (x2 : Int32) (x3 : Int32) (a : aT), XI qI E md_S_restBits 8 [.ref 19, .int x1, .int x2, .int x3] [] a (f_S_restBits_8 N n x1 x2 x3 a)
  | 0, _, _, _, _ => XI_no rfl
  | n + 1, x1, x2, x3, a => by
    refine XI_br (c := 30 ≤ x3) (t := 40) (e := 14) (ls' := [.ref 19, .int x1, .int x2, .int x3]) (st' := []) (a' := a) [(.iload_n 3, 1, 3, .null), (.bipush 30, 2, 0, .int 30), (.if_icmp .ge 29, 3, 40, .null)] (by decide +kernel) rfl ?_ ?_
    · refine XI_go (pc' := 41) (ls' := [.ref 19, .int x1, .int x2, .int x3]) (st' := [.int x2]) (a' := a) [(.iload_n 2, 1, 2, .null)] (by decide +kernel) rfl ?_
      exact XI_retI (by decide +kernel)
    · refine XI_go (pc' := 18) (ls' := [.ref 19, .int x1, .int x2, .int x3]) (st' := [.int x1, .int x3, .ref 19, .int x2]) (a' := a) [(.iload_n 2, 1, 2, .null), (.aload_n 0, 1, 0, .null), (.iload_n 3, 1, 3, .null), (.iload_n 1, 1, 1, .null)] (by decide +kernel) rfl ?_
      refine XI_VP (As := [.int x3, .int x1]) (rest := [.int x2]) (b := 19) (idx := 38) (by decide +kernel) ok_S_betterAhead mv_S_betterAhead (n := 2) ⟨lk_S_38, by decide +kernel⟩ rfl rfl rfl rfl (Nat.le_of_ble_eq_true rfl) (Nat.le_of_ble_eq_true rfl) (qI_h rfl) (x_S_betterAhead E N x3 x1 a) (fun q2 => ?_)
      refine XI_br (c := q2 = (-1)) (t := 25) (e := 31) (ls' := [.ref 19, .int x1, .int x2, .int x3]) (st' := [.int x2]) (a' := a) [(.iconst (-1), 1, 0, .int (-1)), (.if_icmp .ne 9, 3, 31, .null)] (by decide +kernel) rfl ?_ ?_
      · refine XI_go (pc' := 8) (ls' := [.ref 19, .int x1, .int (x2 ||| (i_shl 1 x3)), .int (x3 + 1)]) (st' := []) (a' := a) [(.iconst 1, 1, 0, .int 1), (.iload_n 3, 1, 3, .null), (.ishl, 1, 0, .null), (.goto 4, 3, 32, .null), (.ior, 1, 0, .null), (.istore_n 2, 1, 2, .null), (.iinc 3 1, 3, 3, .int 1), (.goto (-29), 3, 8, .null)] (by decide +kernel) rfl ?_
        refine XI_fg [true, true, true, true] ?_
        exact x_S_restBits_8 E N n x1 (x2 ||| (i_shl 1 x3)) (x3 + 1) a
      · refine XI_go (pc' := 8) (ls' := [.ref 19, .int x1, .int (x2 ||| 0), .int (x3 + 1)]) (st' := []) (a' := a) [(.iconst 0, 1, 0, .int 0), (.ior, 1, 0, .null), (.istore_n 2, 1, 2, .null), (.iinc 3 1, 3, 3, .int 1), (.goto (-29), 3, 8, .null)] (by decide +kernel) rfl ?_
        refine XI_fg [true, true, true, true] ?_
        exact x_S_restBits_8 E N n x1 (x2 ||| 0) (x3 + 1) a
set_option maxHeartbeats 4000000 in
set_option maxRecDepth 100000 in
theorem x_S_restBits (E : eT) (N : Nat) (p1 : Int32) (a : aT) : XI qI E md_S_restBits 0 [.ref 19, .int p1, .null, .null] [] a (f_S_restBits N p1 a) := by
  refine XI_go (pc' := 1) (ls' := [.ref 19, .int p1, .null, .null]) (st' := [.ref 19]) (a' := a) [(.aload_n 0, 1, 0, .null)] (by decide +kernel) rfl ?_
  refine XI_VI (As := []) (rest := []) (b := 19) (idx := 35) (by decide +kernel) ok_S_fillRipe mv_S_fillRipe (n := 0) ⟨lk_S_35, by decide +kernel⟩ rfl rfl rfl rfl (Nat.le_of_ble_eq_true rfl) (Nat.le_of_ble_eq_true rfl) (qV_h rfl) (x_S_fillRipe E N a) (fun q1 => ?_)
  refine XI_go (pc' := 8) (ls' := [.ref 19, .int p1, .int 0, .int 0]) (st' := []) (a' := q1.2) [(.iconst 0, 1, 0, .int 0), (.istore_n 2, 1, 2, .null), (.iconst 0, 1, 0, .int 0), (.istore_n 3, 1, 3, .null)] (by decide +kernel) rfl ?_
  refine XI_fg [true, true, true, true] ?_
  exact x_S_restBits_8 E N N p1 0 0 q1.2
/-! ChestnutSticks.rests(I)I -/
def md_C_rests : md_T := (yX10_rests, cX10_rests, 2, (some .int), 5, 110)
set_option maxRecDepth 100000 in
theorem ok_C_rests : m_ok md_C_rests := ⟨List.mem_of_getElem? (i := 673) (by decide +kernel), by decide +kernel, List.mem_of_getElem? (i := 53) (by decide +kernel), by decide +kernel⟩
theorem mv_C_rests : Cond.instanceMethod (m_y md_C_rests) ∈ lw_tbl ∧ Cond.selects (m_y md_C_rests).cls (m_y md_C_rests) (m_y md_C_rests) ∈ lw_tbl := ⟨List.mem_of_getElem? (i := 671) (by decide +kernel), List.mem_of_getElem? (i := 672) (by decide +kernel)⟩
def f_C_rests (N : Nat) (p1 : Int32) (a : aT) : Option (Int32 × aT) :=
  if p1 < 2 then
    some ((-2), a)
  else
    if p1 ≤ 6 then
      (f_S_restBits N p1 a).bind fun q1 =>
        some (q1.1, q1.2)
    else
      some ((-2), a)
set_option maxHeartbeats 4000000 in
set_option maxRecDepth 100000 in
theorem x_C_rests (E : eT) (N : Nat) (p1 : Int32) (a : aT) : XI qI E md_C_rests 0 [.ref 0, .int p1] [] a (f_C_rests N p1 a) := by
  refine XI_br (c := p1 < 2) (t := 11) (e := 5) (ls' := [.ref 0, .int p1]) (st' := []) (a' := a) [(.iload_n 1, 1, 1, .null), (.iconst 2, 1, 0, .int 2), (.if_icmp .lt 9, 3, 11, .null)] (by decide +kernel) rfl ?_ ?_
  · refine XI_go (pc' := 24) (ls' := [.ref 0, .int p1]) (st' := [.int (-2)]) (a' := a) [(.bipush (-2), 2, 0, .int (-2)), (.goto 11, 3, 24, .null)] (by decide +kernel) rfl ?_
    exact XI_retI (by decide +kernel)
  · refine XI_br (c := p1 ≤ 6) (t := 16) (e := 11) (ls' := [.ref 0, .int p1]) (st' := []) (a' := a) [(.iload_n 1, 1, 1, .null), (.bipush 6, 2, 0, .int 6), (.if_icmp .le 8, 3, 16, .null)] (by decide +kernel) rfl ?_ ?_
    · refine XI_go (pc' := 21) (ls' := [.ref 0, .int p1]) (st' := [.int p1, .ref 19]) (a' := a) [(.aload_n 0, 1, 0, .null), (.getfield 58, 3, 1006, .null), (.iload_n 1, 1, 1, .null)] (by decide +kernel) rfl ?_
      refine XI_VI (As := [.int p1]) (rest := []) (b := 19) (idx := 214) (by decide +kernel) ok_S_restBits mv_S_restBits (n := 1) ⟨lk_C_214, by decide +kernel⟩ rfl rfl rfl rfl (Nat.le_of_ble_eq_true rfl) (Nat.le_of_ble_eq_true rfl) (qI_h rfl) (x_S_restBits E N p1 a) (fun q1 => ?_)
      exact XI_retI (by decide +kernel)
    · refine XI_go (pc' := 24) (ls' := [.ref 0, .int p1]) (st' := [.int (-2)]) (a' := a) [(.bipush (-2), 2, 0, .int (-2)), (.goto 11, 3, 24, .null)] (by decide +kernel) rfl ?_
      exact XI_retI (by decide +kernel)
